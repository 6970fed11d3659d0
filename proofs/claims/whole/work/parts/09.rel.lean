theorem mm_b32 (z : Int) : Int.bmod z (2 ^ 32) = mm_w32 z := by
  unfold mm_w32
  rw [Int.bmod_def]
  simp only [Nat.reducePow, Int.reducePow]
  split <;> omega
theorem mm_b64 (z : Int) : Int.bmod z (2 ^ 64) = mm_w64 z := by
  unfold mm_w64
  rw [Int.bmod_def]
  simp only [Nat.reducePow, Int.reducePow]
  split <;> omega
theorem mm_b8 (z : Int) : Int.bmod z (2 ^ 8) = mm_w8 z := by
  unfold mm_w8
  rw [Int.bmod_def]
  simp only [Nat.reducePow, Int.reducePow]
  split <;> omega
theorem mm_rng (x : Int32) : -2147483648 ≤ x.toInt ∧ x.toInt < 2147483648 := ⟨by have := x.le_toInt; omega, by have := x.toInt_lt; omega⟩
theorem mm_rngL (x : Int64) : -9223372036854775808 ≤ x.toInt ∧ x.toInt < 9223372036854775808 := ⟨by have := x.le_toInt; omega, by have := x.toInt_lt; omega⟩
theorem mm_add32 (x y : Int32) : (x + y).toInt = mm_w32 (x.toInt + y.toInt) := by rw [Int32.toInt_add, mm_b32]
theorem mm_sub32 (x y : Int32) : (x - y).toInt = mm_w32 (x.toInt - y.toInt) := by rw [Int32.toInt_sub, mm_b32]
theorem mm_mul32 (x y : Int32) : (x * y).toInt = mm_w32 (x.toInt * y.toInt) := by rw [Int32.toInt_mul, mm_b32]
theorem mm_div32 (x y : Int32) : (x / y).toInt = mm_w32 (x.toInt.tdiv y.toInt) := by rw [Int32.toInt_div, mm_b32]
theorem mm_add64 (x y : Int64) : (x + y).toInt = mm_w64 (x.toInt + y.toInt) := by rw [Int64.toInt_add, mm_b64]
theorem mm_sub64 (x y : Int64) : (x - y).toInt = mm_w64 (x.toInt - y.toInt) := by rw [Int64.toInt_sub, mm_b64]
theorem mm_mul64 (x y : Int64) : (x * y).toInt = mm_w64 (x.toInt * y.toInt) := by rw [Int64.toInt_mul, mm_b64]
theorem mm_div64 (x y : Int64) : (x / y).toInt = mm_w64 (x.toInt.tdiv y.toInt) := by rw [Int64.toInt_div, mm_b64]
theorem mm_rem32 (x y : Int32) : (x - x / y * y).toInt = Int.tmod x.toInt y.toInt := by
  rw [Int32.toInt_sub, Int32.toInt_mul, Int32.toInt_div, Int.bmod_mul_bmod, Int.sub_bmod_bmod, Int.mul_comm, ← Int.tmod_def]
  have h := Int32.toInt_mod x y
  rw [← h]
  exact (Int.bmod_eq_of_le_mul_two (by have := (mm_rng (x % y)).1; simp only [Nat.reducePow]; omega) (by have := (mm_rng (x % y)).2; simp only [Nat.reducePow]; omega))
theorem mm_rem64 (x y : Int64) : (x - x / y * y).toInt = Int.tmod x.toInt y.toInt := by
  rw [Int64.toInt_sub, Int64.toInt_mul, Int64.toInt_div, Int.bmod_mul_bmod, Int.sub_bmod_bmod, Int.mul_comm, ← Int.tmod_def]
  have h := Int64.toInt_mod x y
  rw [← h]
  exact (Int.bmod_eq_of_le_mul_two (by have := (mm_rngL (x % y)).1; simp only [Nat.reducePow]; omega) (by have := (mm_rngL (x % y)).2; simp only [Nat.reducePow]; omega))
def mm_tys (cA : Nat → ClassId) : List (ClassId × FieldType) := [(cA 0, .int), (cA 1, .boolean), (cA 2, .byte)]
def mm_R (b : Nat) (as : List Nat) : mm_V → Value → Prop
  | .inl z, v => ∃ x : Int32, v = .int x ∧ x.toInt = z
  | .inr (.inl z), v => ∃ x : Int64, v = .long x ∧ x.toInt = z
  | .inr (.inr none), v => v = .null
  | .inr (.inr (some 0)), _ => False
  | .inr (.inr (some 1)), v => v = .ref b
  | .inr (.inr (some (k + 2))), v => ∃ a, as[k]? = some a ∧ v = .ref a
def mm_RS (b : Nat) (as : List Nat) : List mm_V → List Value → Prop
  | [], st => st = []
  | v :: r, st => ∃ w s, st = w :: s ∧ mm_R b as v w ∧ mm_RS b as r s
def mm_RL (b : Nat) (as : List Nat) (mls : List mm_V) (ls : Array Slot) (nL : Nat) : Prop := ls.size = nL ∧ lv_wf ls ∧ mls.length = nL ∧ ∀ (k : Nat) (v : mm_V), mls[k]? = some v → v ≠ mm_null → ∃ w, ls[k]? = some (.val w) ∧ mm_R b as v w
def mm_RC (cA : Nat → ClassId) (b : Nat) (as : List Nat) : mm_C → va_E → Prop
  | .inl (t, n, f), e => t < 3 ∧ ∃ g : Nat → Int32, e = .inl (cA t, n, .inl g) ∧ ∀ j, (g j).toInt = f j
  | .inr (c, fs), e => ∃ gs, e = .inr (c, gs) ∧ mm_RS b as fs gs
def mm_RH (cA : Nat → ClassId) (b L : Nat) (xs : Nat → Int32) (as : List Nat) (ws : va_W) (h : mm_H) : Prop :=
  (∃ t f, h 0 = .inl (t, as.length + 2, f) ∧ 100 ≤ t) ∧ (∃ f, h 1 = .inl (3, L, f) ∧ ∀ j, (xs j).toInt = f j) ∧ ws.length = as.length ∧ (∀ (k : Nat) (a : Nat), as[k]? = some a → ∃ e, ws[k]? = some (a, e) ∧ mm_RC cA b as (h (k + 2)) e) ∧ ∀ k : Nat, as.length ≤ k → h (k + 2) = mm_dead
theorem mm_R.app {b : Nat} {as : List Nat} (bs : List Nat) {v : mm_V} {w : Value} (h : mm_R b as v w) : mm_R b (as ++ bs) v w := by
  match v, h with
  | .inl z, h => exact h
  | .inr (.inl z), h => exact h
  | .inr (.inr none), h => exact h
  | .inr (.inr (some 1)), h => exact h
  | .inr (.inr (some (k + 2))), h =>
    obtain ⟨a, h1, h2⟩ := h
    exact ⟨a, by rw [List.getElem?_append_left (List.getElem?_eq_some_iff.mp h1).1]; exact h1, h2⟩
theorem mm_RS.app {b : Nat} {as : List Nat} (bs : List Nat) : ∀ {vs : List mm_V} {st : List Value}, mm_RS b as vs st → mm_RS b (as ++ bs) vs st
  | [], _, h => h
  | _ :: _, _, ⟨w, s, e, h1, h2⟩ => ⟨w, s, e, h1.app bs, mm_RS.app bs h2⟩
theorem mm_RL.app {b : Nat} {as : List Nat} (bs : List Nat) {mls : List mm_V} {ls : Array Slot} {nL : Nat} (h : mm_RL b as mls ls nL) : mm_RL b (as ++ bs) mls ls nL :=
  ⟨h.1, h.2.1, h.2.2.1, fun k v hk hv => by obtain ⟨w, h1, h2⟩ := h.2.2.2 k v hk hv; exact ⟨w, h1, h2.app bs⟩⟩
theorem mm_RC.app {cA : Nat → ClassId} {b : Nat} {as : List Nat} (bs : List Nat) {c : mm_C} {e : va_E} (h : mm_RC cA b as c e) : mm_RC cA b (as ++ bs) c e := by
  match c, h with
  | .inl (t, n, f), h => exact h
  | .inr (c, fs), ⟨gs, e1, h1⟩ => exact ⟨gs, e1, h1.app bs⟩
theorem mm_R.cat {b : Nat} {as : List Nat} {v : mm_V} {w : Value} (h : mm_R b as v w) : w.category = if mm_wide v = true then 2 else 1 := by
  match v, h with
  | .inl z, ⟨x, h1, _⟩ => subst h1; rfl
  | .inr (.inl z), ⟨x, h1, _⟩ => subst h1; rfl
  | .inr (.inr none), h => rw [show w = .null from h]; rfl
  | .inr (.inr (some 1)), h => rw [show w = .ref b from h]; rfl
  | .inr (.inr (some (k + 2))), ⟨a, _, h1⟩ => subst h1; rfl
theorem mm_R.narrow {b : Nat} {as : List Nat} {v : mm_V} {w : Value} (h : mm_R b as v w) (hw : mm_wide v ≠ true) : w.category = 1 := by rw [h.cat, if_neg hw]
theorem mm_RS.cat {b : Nat} {as : List Nat} : ∀ {vs : List mm_V} {st : List Value}, mm_RS b as vs st → (st.map fun v => v.category).sum = mm_cat vs
  | [], _, h => by rw [show _ = [] from h]; rfl
  | _ :: _, _, ⟨w, s, e, h1, h2⟩ => by subst e; simp only [List.map_cons, List.sum_cons, mm_cat]; rw [h1.cat, mm_RS.cat h2]
theorem mm_RS.drop {b : Nat} {as : List Nat} : ∀ (k : Nat) {vs : List mm_V} {st : List Value}, mm_RS b as vs st → mm_RS b as (vs.drop k) (st.drop k)
  | 0, _, _, h => h
  | k + 1, [], st, h => by rw [show st = [] from h]; exact rfl
  | k + 1, _ :: _, _, ⟨w, s, e, _, h2⟩ => by subst e; exact mm_RS.drop k h2
theorem mm_RS.take {b : Nat} {as : List Nat} : ∀ (k : Nat) {vs : List mm_V} {st : List Value}, mm_RS b as vs st → mm_RS b as (vs.take k) (st.take k)
  | 0, _, _, _ => by rw [List.take_zero, List.take_zero]; exact rfl
  | k + 1, [], st, h => by rw [show st = [] from h]; exact rfl
  | k + 1, _ :: _, _, ⟨w, s, e, h1, h2⟩ => by subst e; exact ⟨w, s.take k, rfl, h1, mm_RS.take k h2⟩
theorem mm_RS.len {b : Nat} {as : List Nat} : ∀ {vs : List mm_V} {st : List Value}, mm_RS b as vs st → st.length = vs.length
  | [], st, h => by rw [show st = [] from h]; rfl
  | _ :: _, _, ⟨w, s, e, _, h2⟩ => by subst e; simp [mm_RS.len h2]
theorem mm_RS.apd {b : Nat} {as : List Nat} : ∀ {vs us : List mm_V} {st tt : List Value}, mm_RS b as vs st → mm_RS b as us tt → mm_RS b as (vs ++ us) (st ++ tt)
  | [], _, _, _, h, g => by rw [show _ = [] from h]; exact g
  | _ :: _, _, _, _, ⟨w, s, e, h1, h2⟩, g => by subst e; exact ⟨w, s ++ _, rfl, h1, mm_RS.apd h2 g⟩
theorem mm_RS.rev {b : Nat} {as : List Nat} : ∀ {vs : List mm_V} {st : List Value}, mm_RS b as vs st → mm_RS b as vs.reverse st.reverse
  | [], _, h => by rw [show _ = [] from h]; exact rfl
  | _ :: _, _, ⟨w, s, e, h1, h2⟩ => by subst e; rw [List.reverse_cons, List.reverse_cons]; exact mm_RS.apd (mm_RS.rev h2) ⟨w, [], rfl, h1, rfl⟩
theorem mm_RS.at {b : Nat} {as : List Nat} : ∀ {vs : List mm_V} {st : List Value}, mm_RS b as vs st → ∀ (k : Nat) (v : mm_V), vs[k]? = some v → ∃ w, st[k]? = some w ∧ mm_R b as v w
  | [], _, _, k, v, hk => by simp at hk
  | _ :: _, _, ⟨w, s, e, h1, h2⟩, 0, v, hk => by subst e; simp only [List.getElem?_cons_zero, Option.some.injEq] at hk; subst hk; exact ⟨w, rfl, h1⟩
  | _ :: _, _, ⟨w, s, e, h1, h2⟩, k + 1, v, hk => by subst e; simp only [List.getElem?_cons_succ] at hk ⊢; exact mm_RS.at h2 k v hk
theorem mm_RS.set {b : Nat} {as : List Nat} {v : mm_V} {w : Value} (hv : mm_R b as v w) : ∀ {vs : List mm_V} {st : List Value}, mm_RS b as vs st → ∀ (k : Nat), mm_RS b as (vs.set k v) (st.set k w)
  | [], _, h, k => by rw [show _ = [] from h]; exact rfl
  | _ :: _, _, ⟨w', s, e, h1, h2⟩, 0 => by subst e; exact ⟨w, s, rfl, hv, h2⟩
  | _ :: _, _, ⟨w', s, e, h1, h2⟩, k + 1 => by subst e; exact ⟨w', s.set k w, rfl, h1, mm_RS.set hv h2 k⟩
theorem mm_get_some {ls : List mm_V} {i : Nat} {v : mm_V} (h : mm_get ls i = v) (hv : v ≠ mm_null) : ls[i]? = some v := by
  unfold mm_get at h
  rw [List.getD_eq_getElem?_getD] at h
  cases hg : ls[i]? with
  | none => rw [hg] at h; exact absurd h.symm hv
  | some w => rw [hg] at h; exact congrArg some h
theorem mm_RL.at {b : Nat} {as : List Nat} {mls : List mm_V} {ls : Array Slot} {nL : Nat} (h : mm_RL b as mls ls nL) {i : Nat} {v : mm_V} (hg : mm_get mls i = v) (hv : v ≠ mm_null) : ∃ w, ls[i]? = some (.val w) ∧ mm_R b as v w :=
  h.2.2.2 i v (mm_get_some hg hv) hv
def mm_full (ls : Array Slot) (nL : Nat) : List (Nat × Value) := (List.range nL).filterMap (fun k => match (ls[k]? : Option Slot) with
  | some (Slot.val v) => some (k, v)
  | _ => none)
theorem mm_full_has {ls : Array Slot} {nL : Nat} (hs : ls.size = nL) (hw : lv_wf ls) : lv_has ls nL (mm_full ls nL) := by
  refine ⟨hs, hw, fun q hq => ?_⟩
  obtain ⟨k, -, hk⟩ := List.mem_filterMap.mp hq
  split at hk
  · next v hv => cases hk; exact hv
  · cases hk
theorem mm_full_in {ls : Array Slot} {nL : Nat} {k : Nat} {w : Value} (hs : ls.size = nL) (h : ls[k]? = some (.val w)) : (k, w) ∈ mm_full ls nL := by
  refine List.mem_filterMap.mpr ⟨k, List.mem_range.mpr ?_, ?_⟩
  · rw [← hs]; exact (Array.getElem?_eq_some_iff.mp h).1
  · rw [h]
theorem mm_RL.store1 {b : Nat} {as : List Nat} {mls : List mm_V} {ls ls' : Array Slot} {nL i : Nat} {v : mm_V} {w : Value} {lv : List (Nat × Value)} (h : mm_RL b as mls ls nL) (hok : mm_ok1 mls i = true) (hv : mm_R b as v w) (hlv : ∀ q ∈ mm_full ls nL, q ∈ lv)
    (h' : lv_has ls' nL ((i, w) :: lv.filter (fun q => !(q.1 == i) && !(q.1 + 1 == i && q.2.category == 2)))) : mm_RL b as (mls.set i v) ls' nL := by
  refine ⟨h'.1, h'.2.1, by rw [List.length_set]; exact h.2.2.1, fun k u hk hu => ?_⟩
  by_cases hki : k = i
  · subst hki
    rw [List.getElem?_set_self' ] at hk
    have hu' : u = v := by
      cases hm : mls[k]? with
      | none => rw [hm] at hk; cases hk
      | some z => rw [hm] at hk; simpa using hk.symm
    subst hu'
    exact ⟨w, h'.2.2 (k, w) List.mem_cons_self, hv⟩
  · rw [List.getElem?_set_ne (Ne.symm hki)] at hk
    obtain ⟨w', h1, h2⟩ := h.2.2.2 k u hk hu
    refine ⟨w', h'.2.2 (k, w') (List.mem_cons_of_mem _ (List.mem_filter.mpr ⟨hlv _ (mm_full_in h.1 h1), ?_⟩)), h2⟩
    have e1 : (k == i) = false := by simpa using hki
    simp only [e1, Bool.not_false, Bool.true_and, Bool.not_eq_true']
    by_cases hk1 : k + 1 = i
    · subst hk1
      have hwd : mm_wide u ≠ true := by
        simp only [mm_ok1, Bool.not_eq_true'] at hok
        have : mm_get mls k = u := by unfold mm_get; rw [List.getD_eq_getElem?_getD, hk]; rfl
        rw [this] at hok
        simp [hok]
      rw [h2.narrow hwd]
      simp
    · have e2 : (k + 1 == i) = false := by simpa using hk1
      simp [e2]
theorem mm_RL.store2 {b : Nat} {as : List Nat} {mls : List mm_V} {ls ls' : Array Slot} {nL i : Nat} {v : mm_V} {w : Value} {lv : List (Nat × Value)} (h : mm_RL b as mls ls nL) (hok : mm_ok1 mls i = true) (hv : mm_R b as v w) (hlv : ∀ q ∈ mm_full ls nL, q ∈ lv)
    (h' : lv_has ls' nL ((i, w) :: lv.filter (fun q => !(q.1 == i) && (!(q.1 == i + 1) && !(q.1 + 1 == i && q.2.category == 2))))) : mm_RL b as ((mls.set i v).set (i + 1) mm_null) ls' nL := by
  refine ⟨h'.1, h'.2.1, by rw [List.length_set, List.length_set]; exact h.2.2.1, fun k u hk hu => ?_⟩
  by_cases hk2 : k = i + 1
  · subst hk2
    rw [List.getElem?_set_self'] at hk
    exfalso
    cases hm : (mls.set i v)[i + 1]? with
    | none => rw [hm] at hk; cases hk
    | some z => rw [hm] at hk; exact hu (by simpa using hk.symm)
  rw [List.getElem?_set_ne (Ne.symm hk2)] at hk
  by_cases hki : k = i
  · subst hki
    rw [List.getElem?_set_self' ] at hk
    have hu' : u = v := by
      cases hm : mls[k]? with
      | none => rw [hm] at hk; cases hk
      | some z => rw [hm] at hk; simpa using hk.symm
    subst hu'
    exact ⟨w, h'.2.2 (k, w) List.mem_cons_self, hv⟩
  · rw [List.getElem?_set_ne (Ne.symm hki)] at hk
    obtain ⟨w', h1, h2⟩ := h.2.2.2 k u hk hu
    refine ⟨w', h'.2.2 (k, w') (List.mem_cons_of_mem _ (List.mem_filter.mpr ⟨hlv _ (mm_full_in h.1 h1), ?_⟩)), h2⟩
    have e1 : (k == i) = false := by simpa using hki
    have e3 : (k == i + 1) = false := by simpa using hk2
    simp only [e1, e3, Bool.not_false, Bool.true_and, Bool.not_eq_true']
    by_cases hk1 : k + 1 = i
    · subst hk1
      have hwd : mm_wide u ≠ true := by
        simp only [mm_ok1, Bool.not_eq_true'] at hok
        have : mm_get mls k = u := by unfold mm_get; rw [List.getD_eq_getElem?_getD, hk]; rfl
        rw [this] at hok
        simp [hok]
      rw [h2.narrow hwd]
      simp
    · have e2 : (k + 1 == i) = false := by simpa using hk1
      simp [e2]
theorem mm_RH.obj {cA : Nat → ClassId} {b L : Nat} {xs : Nat → Int32} {as : List Nat} {ws : va_W} {h : mm_H} (hH : mm_RH cA b L xs as ws h) {r : Option Nat} {ci : Nat} {fs : List mm_V} {v : Value} (ho : mm_obj h r ci = some fs) (hv : mm_R b as (.inr (.inr r)) v) :
    ∃ (q0 q : Nat) (gs : List Value), r = some (q0 + 2) ∧ v = .ref q ∧ as[q0]? = some q ∧ ws[q0]? = some (q, .inr (ci, gs)) ∧ mm_RS b as fs gs := by
  obtain ⟨-, ⟨f1, h1, -⟩, -, h4, -⟩ := hH
  match r, ho, hv with
  | some 1, ho, _ => simp [mm_obj, h1] at ho
  | some (k + 2), ho, ⟨a, ha, hv⟩ =>
    obtain ⟨e, he, hc⟩ := h4 k a ha
    simp only [mm_obj] at ho
    cases hh : h (k + 2) with
    | inl x => rw [hh] at ho; cases ho
    | inr x =>
      rw [hh] at ho hc
      obtain ⟨c0, fs0⟩ := x
      dsimp only at ho
      split at ho
      · next hcc =>
        cases ho
        obtain ⟨gs, e1, e2⟩ := hc
        subst e1
        subst hcc
        exact ⟨k, a, gs, rfl, hv, ha, he, e2⟩
      · cases ho
theorem mm_RH.arr {cA : Nat → ClassId} {b L : Nat} {xs : Nat → Int32} {as : List Nat} {ws : va_W} {h : mm_H} (hH : mm_RH cA b L xs as ws h) {r : Option Nat} {t n : Nat} {f : Nat → Int} {v : Value} (ho : mm_arr h r = some (t, n, f)) (hv : mm_R b as (.inr (.inr r)) v) :
    (r = some 1 ∧ v = .ref b ∧ t = 3 ∧ n = L ∧ ∀ j, (xs j).toInt = f j) ∨
    ∃ (q0 q : Nat) (g : Nat → Int32), r = some (q0 + 2) ∧ v = .ref q ∧ as[q0]? = some q ∧ ws[q0]? = some (q, .inl (cA t, n, .inl g)) ∧ t < 3 ∧ ∀ j, (g j).toInt = f j := by
  obtain ⟨-, ⟨f1, h1, h1'⟩, -, h4, -⟩ := hH
  match r, ho, hv with
  | some 1, ho, hv =>
    simp only [mm_arr, h1, Option.some.injEq, Prod.mk.injEq] at ho
    obtain ⟨e1, e2, e3⟩ := ho
    subst e3
    exact Or.inl ⟨rfl, hv, e1.symm, e2.symm, h1'⟩
  | some (k + 2), ho, ⟨a, ha, hv⟩ =>
    obtain ⟨e, he, hc⟩ := h4 k a ha
    simp only [mm_arr] at ho
    cases hh : h (k + 2) with
    | inr x => rw [hh] at ho; cases ho
    | inl x =>
      rw [hh] at ho hc
      cases ho
      obtain ⟨ht, g, e1, e2⟩ := hc
      subst e1
      exact Or.inr ⟨k, a, g, rfl, hv, ha, he, ht, e2⟩
theorem mm_RH.set {cA : Nat → ClassId} {b L : Nat} {xs : Nat → Int32} {as : List Nat} {ws : va_W} {h : mm_H} (hH : mm_RH cA b L xs as ws h) {q0 q : Nat} {c : mm_C} {e : va_E} (ha : as[q0]? = some q) (hc : mm_RC cA b as c e) : mm_RH cA b L xs as (ws.set q0 (q, e)) (mm_up h (q0 + 2) c) := by
  obtain ⟨⟨t0, f0, h0, h0'⟩, ⟨f1, h1, h1'⟩, hl, h4, h5⟩ := hH
  refine ⟨⟨t0, f0, by simp only [mm_up]; rw [if_neg (by omega)]; exact h0, h0'⟩, ⟨f1, by simp only [mm_up]; rw [if_neg (by omega)]; exact h1, h1'⟩, by rw [List.length_set]; exact hl, fun k a hk => ?_, fun k hk => ?_⟩
  · by_cases hkq : k = q0
    · subst hkq
      rw [ha] at hk
      cases hk
      refine ⟨e, ?_, ?_⟩
      · rw [List.getElem?_set_self]
        rw [hl]; exact (List.getElem?_eq_some_iff.mp ha).1
      · simp only [mm_up, if_true]; exact hc
    · obtain ⟨e', h6, h7⟩ := h4 k a hk
      refine ⟨e', by rw [List.getElem?_set_ne (Ne.symm hkq)]; exact h6, ?_⟩
      simp only [mm_up]
      rw [if_neg (by omega)]
      exact h7
  · have := (List.getElem?_eq_some_iff.mp ha).1
    simp only [mm_up]
    rw [if_neg (by omega)]
    exact h5 k hk
theorem mm_RH.push {cA : Nat → ClassId} {b L : Nat} {xs : Nat → Int32} {as : List Nat} {ws : va_W} {h h' : mm_H} (hH : mm_RH cA b L xs as ws h) {c : mm_C} {e : va_E} {sl a q : Nat} (hal : mm_alloc h c sl = some (a, h')) (hc : mm_RC cA b (as ++ [q]) c e) :
    a = as.length + 2 ∧ mm_RH cA b L xs (as ++ [q]) (ws ++ [(q, e)]) h' ∧ mm_nx h' = mm_nx h + 1 ∧ mm_sl h' = mm_sl h + sl := by
  obtain ⟨⟨t0, f0, h0, h0'⟩, ⟨f1, h1, h1'⟩, hl, h4, h5⟩ := hH
  unfold mm_alloc at hal
  rw [h0] at hal
  dsimp only at hal
  rw [if_pos ⟨h0', by omega⟩] at hal
  simp only [Option.some.injEq, Prod.mk.injEq] at hal
  obtain ⟨e1, e2⟩ := hal
  subst e1
  subst e2
  refine ⟨rfl, ⟨⟨t0 + sl, f0, ?_, by omega⟩, ⟨f1, ?_, h1'⟩, by simp [hl], fun k a hk => ?_, fun k hk => ?_⟩, ?_, ?_⟩
  · simp [mm_up]
  · simp only [mm_up]; rw [if_neg (by omega), if_neg (by omega)]; exact h1
  · by_cases hkl : k < as.length
    · rw [List.getElem?_append_left hkl] at hk
      obtain ⟨e', h6, h7⟩ := h4 k a hk
      refine ⟨e', by rw [List.getElem?_append_left (by omega)]; exact h6, ?_⟩
      simp only [mm_up]
      rw [if_neg (by omega), if_neg (by omega)]
      exact h7.app _
    · rw [List.getElem?_append_right (by omega)] at hk
      have hz : k - as.length < 1 := (List.getElem?_eq_some_iff.mp hk).1
      have hk0 : k = as.length := by omega
      subst hk0
      rw [Nat.sub_self] at hk
      cases hk
      refine ⟨e, by rw [List.getElem?_append_right (by omega), hl, Nat.sub_self]; rfl, ?_⟩
      simp only [mm_up]
      rw [if_neg (by omega), if_pos trivial]
      exact hc
  · rw [List.length_append] at hk
    simp only [List.length_cons, List.length_nil] at hk
    simp only [mm_up]
    rw [if_neg (by omega), if_neg (by omega)]
    exact h5 k (by omega)
  · simp [mm_nx, mm_up, h0]
  · simp [mm_sl, mm_up, h0]
theorem mm_nx_up {h : mm_H} {a : Nat} {c : mm_C} (ha : a ≠ 0) : mm_nx (mm_up h a c) = mm_nx h ∧ mm_sl (mm_up h a c) = mm_sl h := by
  simp [mm_nx, mm_sl, mm_up, Ne.symm ha]
