theorem mm_static_ok : (List.range 191).all (fun m => plainFor (mm_name m) && decide (mm_maxL m ≤ 20) && (decide (mm_kind m = 2 → (mm_name m).name = "<init>"))) = true := by decide +kernel
theorem mm_arrcls : Jvm.Cond.arrayClass .int ∈ mm_tbl ∧ Jvm.Cond.arrayClass .boolean ∈ mm_tbl ∧ Jvm.Cond.arrayClass .byte ∈ mm_tbl := ⟨mm_tbl_of (by decide +kernel) rfl, mm_tbl_of (by decide +kernel) rfl, mm_tbl_of (by decide +kernel) rfl⟩
theorem mm_plain {m : Nat} (h : m < 191) : plainFor (mm_name m) = true ∧ mm_maxL m ≤ 20 ∧ (mm_kind m = 2 → (mm_name m).name = "<init>") := by
  have h1 := List.all_eq_true.mp mm_static_ok m (List.mem_range.mpr h)
  simp only [Bool.and_eq_true, decide_eq_true_eq] at h1
  exact ⟨h1.1.1, h1.1.2, h1.2⟩
theorem mm_gin {ws : List Jvm.Cond} (h : ∀ w ∈ ws, w ∈ mm_tbl) : GoodIn mm_tbl ws := fun w hw => ⟨h w hw, good_of_word (mm_tbl_good w (h w hw))⟩
-- what a step does to the cells
theorem mm_obj_ne {h : mm_H} {a ci : Nat} {fs : List mm_V} (h0 : mm_c0 h) (ho : mm_obj h (some a) ci = some fs) : a ≠ 0 := by
  rintro rfl
  obtain ⟨t, n, f, h1, -⟩ := h0
  simp [mm_obj, h1] at ho
theorem mm_arr_ne {h : mm_H} {a t n : Nat} {f : Nat → Int} (h0 : mm_c0 h) (ho : mm_arr h (some a) = some (t, n, f)) (ht : t < 100) : a ≠ 0 := by
  rintro rfl
  obtain ⟨t', n', f', h1, h2, -⟩ := h0
  simp only [mm_arr, h1, Option.some.injEq, Prod.mk.injEq] at ho
  omega
def mm_le (h h' : mm_H) : Prop := mm_c0 h' ∧ mm_nx h ≤ mm_nx h' ∧ mm_sl h ≤ mm_sl h'
theorem mm_le.rf {h : mm_H} (h0 : mm_c0 h) : mm_le h h := ⟨h0, Nat.le_refl _, Nat.le_refl _⟩
theorem mm_le.tr {h h' h'' : mm_H} (a : mm_le h h') (b : mm_le h' h'') : mm_le h h'' := ⟨b.1, Nat.le_trans a.2.1 b.2.1, Nat.le_trans a.2.2 b.2.2⟩
theorem mm_le.up {h : mm_H} (h0 : mm_c0 h) {a : Nat} {c : mm_C} (ha : a ≠ 0) : mm_le h (mm_up h a c) := by
  obtain ⟨t, n, f, h1, h2⟩ := h0
  obtain ⟨e1, e2⟩ := mm_nx_up (h := h) (c := c) ha
  exact ⟨⟨t, n, f, by simp only [mm_up]; rw [if_neg (Ne.symm ha)]; exact h1, h2⟩, by rw [e1]; exact Nat.le_refl _, by rw [e2]; exact Nat.le_refl _⟩
theorem mm_le.alloc {h h' : mm_H} {c : mm_C} {sl a : Nat} (h0 : mm_c0 h) (ha : mm_alloc h c sl = some (a, h')) : mm_le h h' := by
  obtain ⟨t, n, f, h1, h2, h3⟩ := h0
  unfold mm_alloc at ha
  rw [h1] at ha
  dsimp only at ha
  rw [if_pos ⟨h2, h3⟩] at ha
  simp only [Option.some.injEq, Prod.mk.injEq] at ha
  obtain ⟨e1, e2⟩ := ha
  subst e2
  subst e1
  refine ⟨⟨t + sl, n + 1, f, by simp [mm_up], by omega, by omega⟩, ?_, ?_⟩
  · simp [mm_nx, mm_up, h1]
  · simp [mm_sl, mm_up, h1]
set_option maxHeartbeats 4000000 in
theorem mm_step_le {I : mm_I} {pc : Nat} {ls st : List mm_V} {h : mm_H} (h0 : mm_c0 h) {f : mm_F} (hs : mm_step I pc ls st h = some (.inl f)) : mm_le h f.2.2.2 := by
  obtain ⟨ins, len, cst, xx, kk, pls⟩ := I
  cases ins
  case putfield i =>
    simp only [mm_step, mm_putf] at hs
    split at hs
    · split at hs
      · next ho =>
        split at hs
        · cases hs; exact mm_le.up h0 (mm_obj_ne h0 ho)
        · cases hs
      · cases hs
    · split at hs
      · next ho =>
        split at hs
        · cases hs; exact mm_le.up h0 (mm_obj_ne h0 ho)
        · cases hs
      · cases hs
    · cases hs
  case iastore =>
    simp only [mm_step, mm_iast] at hs
    split at hs
    · split at hs
      · next ho =>
        split at hs
        · next hj => cases hs; exact mm_le.up h0 (mm_arr_ne h0 ho (by omega))
        · cases hs
      · cases hs
    · cases hs
  case bastore =>
    simp only [mm_step, mm_bast] at hs
    split at hs
    · split at hs
      · next ho =>
        split at hs
        · next hj => cases hs; exact mm_le.up h0 (mm_arr_ne h0 ho (by omega))
        · split at hs
          · next hj => cases hs; exact mm_le.up h0 (mm_arr_ne h0 ho (by omega))
          · cases hs
      · cases hs
    · cases hs
  case newarray t =>
    simp only [mm_step, mm_newa] at hs
    split at hs
    · split at hs
      · split at hs
        · next ha => cases hs; exact mm_le.alloc h0 ha
        · cases hs
      · cases hs
    · cases hs
  case new i =>
    simp only [mm_step, mm_new] at hs
    split at hs
    · next ha => cases hs; exact mm_le.alloc h0 ha
    · cases hs
  all_goals
    simp only [mm_step, mm_push, mm_iload, mm_lload, mm_aload, mm_istore, mm_lstore, mm_astore, mm_iinc, mm_bin, mm_binz, mm_lbin, mm_lbinz, mm_lsh, mm_un, mm_i2l, mm_l2i, mm_lcmp, mm_if, mm_icmp, mm_switch, mm_dup, mm_dup2, mm_pop, mm_getf, mm_iald, mm_bald, mm_alen, mm_callS, mm_callV, mm_callI, mm_objInit, mm_iret, mm_aret] at hs
    repeat' split at hs
    all_goals first | (cases hs; done) | (cases hs; exact mm_le.rf h0)
set_option maxHeartbeats 4000000 in
theorem mm_step_ret {I : mm_I} {pc : Nat} {ls st : List mm_V} {h : mm_H} {r : Option mm_V × mm_H} (hs : mm_step I pc ls st h = some (.inr (.inl r))) :
    r.2 = h ∧ ((I.1 = .return_ ∧ st = [] ∧ r.1 = none) ∨ (I.1 = .ireturn ∧ ∃ z, st = [.inl z] ∧ r.1 = some (.inl z) ∧ (I.2.2.1 = 1 → z = 0 ∨ z = 1)) ∨ (I.1 = .areturn ∧ ∃ a, st = [.inr (.inr (some a))] ∧ r.1 = some (.inr (.inr (some a))))) := by
  obtain ⟨ins, len, cst, xx, kk, pls⟩ := I
  cases ins
  case ireturn =>
    simp only [mm_step, mm_iret] at hs
    split at hs
    · split at hs
      · next hc => cases hs; exact ⟨rfl, Or.inr (Or.inl ⟨rfl, _, rfl, rfl, hc⟩)⟩
      · cases hs
    · cases hs
  case areturn =>
    simp only [mm_step, mm_aret] at hs
    split at hs
    · cases hs; exact ⟨rfl, Or.inr (Or.inr ⟨rfl, _, rfl, rfl⟩)⟩
    · cases hs
  case return_ =>
    simp only [mm_step] at hs
    split at hs
    · cases hs; exact ⟨rfl, Or.inl ⟨rfl, rfl, rfl⟩⟩
    · cases hs
  all_goals
    exfalso
    simp only [mm_step, mm_push, mm_iload, mm_lload, mm_aload, mm_istore, mm_lstore, mm_astore, mm_iinc, mm_bin, mm_binz, mm_lbin, mm_lbinz, mm_lsh, mm_un, mm_i2l, mm_l2i, mm_lcmp, mm_if, mm_icmp, mm_switch, mm_dup, mm_dup2, mm_pop, mm_getf, mm_putf, mm_iald, mm_bald, mm_iast, mm_bast, mm_newa, mm_new, mm_alen, mm_callS, mm_callV, mm_callI, mm_objInit] at hs
    repeat' split at hs
    all_goals cases hs
set_option maxHeartbeats 4000000 in
theorem mm_step_call {I : mm_I} {pc pc' m : Nat} {ls st as ls' rest : List mm_V} {h h' : mm_H} (hs : mm_step I pc ls st h = some (.inr (.inr (m, as, pc', ls', rest, h')))) :
    h' = h ∧ ls' = ls ∧ pc' = pc + 3 ∧ m = I.2.2.2.1 ∧ rest = (rest) ∧ mm_cat rest ≤ 8 ∧
    ((∃ i, I.1 = .invokestatic i ∧ I.2.2.2.2.1 ≤ st.length ∧ as = (st.take I.2.2.2.2.1).reverse ∧ rest = st.drop I.2.2.2.2.1) ∨
     (∃ i a, I.1 = .invokevirtual i ∧ st.drop I.2.2.2.2.1 = .inr (.inr (some a)) :: rest ∧ as = .inr (.inr (some a)) :: (st.take I.2.2.2.2.1).reverse ∧ ∃ fs, mm_obj h (some a) I.2.2.1.toNat = some fs) ∨
     (∃ i a, I.1 = .invokespecial i ∧ I.2.2.2.2.1 ≠ 1000 ∧ st.drop I.2.2.2.2.1 = .inr (.inr (some a)) :: rest ∧ as = .inr (.inr (some a)) :: (st.take I.2.2.2.2.1).reverse)) := by
  obtain ⟨ins, len, cst, xx, kk, pls⟩ := I
  cases ins
  case invokestatic i =>
    simp only [mm_step, mm_callS] at hs
    split at hs
    · next hc => cases hs; exact ⟨rfl, rfl, rfl, rfl, rfl, hc.2, Or.inl ⟨i, rfl, hc.1, rfl, rfl⟩⟩
    · cases hs
  case invokevirtual i =>
    simp only [mm_step, mm_callV] at hs
    split at hs
    · next hd =>
      split at hs
      · next ho =>
        split at hs
        · next hc => cases hs; exact ⟨rfl, rfl, rfl, rfl, rfl, hc, Or.inr (Or.inl ⟨i, _, rfl, hd, rfl, _, ho⟩)⟩
        · cases hs
      · cases hs
    · cases hs
  case invokespecial i =>
    simp only [mm_step] at hs
    split at hs
    · simp only [mm_objInit] at hs
      repeat' split at hs
      all_goals cases hs
    · next hk =>
      simp only [mm_callI] at hs
      split at hs
      · next hd =>
        split at hs
        · next hc =>
          cases hs
          exact ⟨rfl, rfl, rfl, rfl, rfl, hc, Or.inr (Or.inr ⟨i, _, rfl, hk, hd, rfl⟩)⟩
        · cases hs
      · cases hs
  all_goals
    exfalso
    simp only [mm_step, mm_push, mm_iload, mm_lload, mm_aload, mm_istore, mm_lstore, mm_astore, mm_iinc, mm_bin, mm_binz, mm_lbin, mm_lbinz, mm_lsh, mm_un, mm_i2l, mm_l2i, mm_lcmp, mm_if, mm_icmp, mm_switch, mm_dup, mm_dup2, mm_pop, mm_getf, mm_putf, mm_iald, mm_bald, mm_iast, mm_bast, mm_newa, mm_new, mm_alen, mm_iret, mm_aret] at hs
    repeat' split at hs
    all_goals cases hs
theorem mm_run_le : ∀ (n y : Nat) (f : mm_F) (r : Option mm_V × mm_H), mm_run n y f = some r → mm_c0 f.2.2.2 → mm_le f.2.2.2 r.2 := by
  intro n
  induction n with
  | zero => intro y f r h; simp [mm_run] at h
  | succ n ih =>
    intro y f r h h0
    unfold mm_run at h
    cases hc : mm_code y f.1 with
    | none => rw [hc] at h; cases h
    | some I =>
      rw [hc] at h
      dsimp only at h
      cases hs : mm_step I f.1 f.2.1 f.2.2.1 f.2.2.2 with
      | none => rw [hs] at h; cases h
      | some o =>
        rw [hs] at h
        rcases o with f' | r' | ⟨m, as, pc, ls, rest, h1⟩
        · have a := mm_step_le h0 hs
          exact a.tr (ih _ _ _ h a.1)
        · simp only [Option.some.injEq] at h
          subst h
          rw [(mm_step_ret hs).1]
          exact mm_le.rf h0
        · obtain ⟨e1, -⟩ := mm_step_call hs
          subst e1
          dsimp only at h
          by_cases hl : (mm_spread as).length ≤ mm_maxL m
          · rw [if_pos hl] at h
            cases hr : mm_run n m (0, mm_pad (mm_maxL m) (mm_spread as), [], f.2.2.2) with
            | none => rw [hr] at h; cases h
            | some q =>
              rw [hr] at h
              have a := ih _ _ _ hr h0
              exact a.tr (ih _ _ _ h a.1)
          · rw [if_neg hl] at h; cases h
-- a method's locals at its entry
theorem mm_spread_at {b : Nat} {as : List Nat} : ∀ {vs : List mm_V} {vals : List Value}, mm_RS b as vs vals → (lg_sl vals).length = (mm_spread vs).length ∧ ∀ (k : Nat) (v : mm_V), (mm_spread vs)[k]? = some v → v ≠ mm_null → ∃ w, (lg_sl vals)[k]? = some (Slot.val w) ∧ mm_R b as v w
  | [], vals, h => by
    rw [show vals = [] from h]
    exact ⟨rfl, fun k v hk => by simp [mm_spread] at hk⟩
  | v :: vs, _, ⟨w, s, e, h1, h2⟩ => by
    subst e
    obtain ⟨i1, i2⟩ := mm_spread_at h2
    have hsl : lg_sl (w :: s) = (if w.category = 2 then [Slot.val w, Slot.second] else [Slot.val w]) ++ lg_sl s := by simp [lg_sl]
    rw [hsl, h1.cat]
    unfold mm_spread
    by_cases hw : mm_wide v = true
    · rw [if_pos hw, if_pos rfl, if_pos hw]
      refine ⟨by simp [i1], fun k u hk hu => ?_⟩
      match k, hk with
      | 0, hk => simp only [List.getElem?_cons_zero, Option.some.injEq] at hk; subst hk; exact ⟨w, rfl, h1⟩
      | 1, hk => simp only [List.getElem?_cons_succ, List.getElem?_cons_zero, Option.some.injEq] at hk; exact absurd hk.symm hu
      | k + 2, hk =>
        simp only [List.getElem?_cons_succ] at hk
        obtain ⟨w', g1, g2⟩ := i2 k u hk hu
        exact ⟨w', by simpa using g1, g2⟩
    · rw [if_neg hw, if_neg (by decide), if_neg hw]
      refine ⟨by simp [i1], fun k u hk hu => ?_⟩
      match k, hk with
      | 0, hk => simp only [List.getElem?_cons_zero, Option.some.injEq] at hk; subst hk; exact ⟨w, rfl, h1⟩
      | k + 1, hk =>
        simp only [List.getElem?_cons_succ] at hk
        obtain ⟨w', g1, g2⟩ := i2 k u hk hu
        exact ⟨w', by simpa using g1, g2⟩
theorem mm_entry {b : Nat} {as : List Nat} {vs : List mm_V} {vals : List Value} {n : Nat} (h : mm_RS b as vs vals) (hl : (mm_spread vs).length ≤ n) : mm_RL b as (mm_pad n (mm_spread vs)) ((lg_sl vals ++ List.replicate (n - (lg_sl vals).length) Slot.unset).toArray) n := by
  obtain ⟨i1, i2⟩ := mm_spread_at h
  have hh := lv_entry vals (n := n) (by rw [i1]; exact hl)
  refine ⟨hh.1, hh.2.1, by unfold mm_pad; simp; omega, fun k v hk hv => ?_⟩
  unfold mm_pad at hk
  by_cases hkl : k < (mm_spread vs).length
  · rw [List.getElem?_append_left hkl] at hk
    obtain ⟨w, g1, g2⟩ := i2 k v hk hv
    exact ⟨w, by simp only [List.getElem?_toArray]; rw [List.getElem?_append_left (by rw [i1]; exact hkl)]; exact g1, g2⟩
  · rw [List.getElem?_append_right (by omega)] at hk
    exact absurd (List.eq_of_mem_replicate (List.mem_of_getElem? hk)) hv
def mm_RO (b : Nat) (as : List Nat) : Option mm_V → Option Value → Prop
  | none, w => w = none
  | some v, w => ∃ u, w = some u ∧ mm_R b as v u
theorem mm_RO.stack {b : Nat} {as : List Nat} {v : Option mm_V} {w : Option Value} (h : mm_RO b as v w) {vs : List mm_V} {st : List Value} (g : mm_RS b as vs st) : mm_RS b as (v.toList ++ vs) (w.toList ++ st) := by
  match v, h with
  | none, h => rw [show w = none from h]; exact g
  | some v, ⟨u, e, h2⟩ => subst e; exact ⟨u, st, rfl, h2, g⟩
