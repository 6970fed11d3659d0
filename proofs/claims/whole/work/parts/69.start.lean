/-! THE CONSTRUCTORS: their straight walk over cells told as data. -/
abbrev dd_C : Type := (Nat × Nat) ⊕ (Nat × List mm_V)
abbrev dd_F : Type := Nat × Nat × List mm_V × List mm_V
/-- method, place, locals, stack, the callers behind it, slots, cells from 2 on -/
abbrev dd_S : Type := Nat × Nat × List mm_V × List mm_V × List dd_F × Nat × List dd_C
def dd_c (c : dd_C) : mm_C := match c with
  | .inl q => .inl (q.1, q.2, fun _ => 0)
  | .inr q => .inr q
def dd_H (L : Nat) (f : Nat → Int) (sl : Nat) (l : List dd_C) : mm_H := fun a => match a with
  | 0 => .inl (sl, l.length + 2, fun _ => 0)
  | 1 => .inl (3, L, f)
  | a + 2 => match l[a]? with
    | some c => dd_c c
    | none => mm_dead
theorem dd_alloc {L : Nat} {f : Nat → Int} {sl k : Nat} {l : List dd_C} (c : dd_C) (h : 100 ≤ sl) : mm_alloc (dd_H L f sl l) (dd_c c) k = some (l.length + 2, dd_H L f (sl + k) (l ++ [c])) := by
  show (if 100 ≤ sl ∧ 2 ≤ l.length + 2 then some (l.length + 2, mm_up (mm_up (dd_H L f sl l) (l.length + 2) (dd_c c)) 0 (.inl (sl + k, l.length + 2 + 1, fun _ => 0))) else none) = _
  rw [if_pos ⟨h, by omega⟩]
  congr 2
  funext a
  match a with
  | 0 =>
    simp only [mm_up, if_true, dd_H, List.length_append, List.length_cons, List.length_nil]
  | 1 =>
    have e : ¬ (1 = l.length + 2) := by omega
    simp only [mm_up, if_neg e]
    rfl
  | a + 2 =>
    simp only [mm_up, dd_H]
    rw [if_neg (by omega)]
    by_cases e : a = l.length
    · subst e
      rw [if_pos rfl, List.getElem?_append_right (Nat.le_refl _), Nat.sub_self]
      rfl
    · rw [if_neg (by omega)]
      by_cases g : a < l.length
      · rw [List.getElem?_append_left g]
      · rw [List.getElem?_eq_none (by omega), List.getElem?_eq_none (by simp only [List.length_append, List.length_cons, List.length_nil]; omega)]
theorem dd_obj {L : Nat} {f : Nat → Int} {sl a ci : Nat} {l : List dd_C} {fs : List mm_V} (h : l[a]? = some (.inr (ci, fs))) : mm_obj (dd_H L f sl l) (some (a + 2)) ci = some fs := by
  simp only [mm_obj, dd_H, h, dd_c, if_true]
theorem dd_set {L : Nat} {f : Nat → Int} {sl a : Nat} {l : List dd_C} {q : Nat × List mm_V} (h : a < l.length) : mm_up (dd_H L f sl l) (a + 2) (.inr q) = dd_H L f sl (l.set a (.inr q)) := by
  funext b
  match b with
  | 0 =>
    simp only [mm_up, dd_H, List.length_set]
    rw [if_neg (by omega)]
  | 1 =>
    simp only [mm_up, dd_H]
    rw [if_neg (by omega)]
  | b + 2 =>
    simp only [mm_up, dd_H]
    by_cases e : b = a
    · subst e
      rw [if_pos rfl, List.getElem?_set_self h]
      rfl
    · rw [if_neg (by omega), List.getElem?_set_ne (fun q => e q.symm)]
def dd_one (ins : Instr) (c : Int) (x k : Nat) (s : dd_S) : Option dd_S := match s with
  | (y, pc, ls, st, r, sl, l) => match ins with
    | .iconst _ => some (y, pc + 1, ls, vI c :: st, r, sl, l)
    | .bipush _ => some (y, pc + 2, ls, vI c :: st, r, sl, l)
    | .sipush _ => some (y, pc + 3, ls, vI c :: st, r, sl, l)
    | .iload_n i => match mm_get ls i with
      | .inl z => some (y, pc + 1, ls, .inl z :: st, r, sl, l)
      | _ => none
    | .aload_n i => match mm_get ls i with
      | .inr (.inr (some a)) => some (y, pc + 1, ls, .inr (.inr (some a)) :: st, r, sl, l)
      | _ => none
    | .astore_n i => match st with
      | .inr (.inr (some a)) :: t => if mm_ok1 ls i = true then some (y, pc + 1, ls.set i (.inr (.inr (some a))), t, r, sl, l) else none
      | _ => none
    | .dup => match st with
      | v :: t => if mm_wide v = true then none else some (y, pc + 1, ls, v :: v :: t, r, sl, l)
      | _ => none
    | .getfield _ => match st with
      | .inr (.inr (some (a + 2))) :: t => match l[a]? with
        | some (.inr (ci, fs)) => if ci = x then match fs[k]? with
            | some v => some (y, pc + 3, ls, v :: t, r, sl, l)
            | none => none
          else none
        | _ => none
      | _ => none
    | .putfield _ => match st with
      | .inl z :: .inr (.inr (some (a + 2))) :: t => match l[a]? with
        | some (.inr (ci, fs)) => if ci = x ∧ c = 1 ∧ k < fs.length then some (y, pc + 3, ls, t, r, sl, l.set a (.inr (x, fs.set k (.inl z)))) else none
        | _ => none
      | .inr (.inr (some b)) :: .inr (.inr (some (a + 2))) :: t => match l[a]? with
        | some (.inr (ci, fs)) => if ci = x ∧ c = 0 ∧ k < fs.length then some (y, pc + 3, ls, t, r, sl, l.set a (.inr (x, fs.set k (.inr (.inr (some b)))))) else none
        | _ => none
      | _ => none
    | .new _ => if 100 ≤ sl then some (y, pc + 3, ls, vP (l.length + 2) :: st, r, sl + (mm_blank x).length, l ++ [.inr (x, mm_blank x)]) else none
    | .newarray t => match st with
      | .inl z :: rest => if 100 ≤ sl ∧ 0 ≤ z ∧ z ≤ 100000 then some (y, pc + 2, ls, vP (l.length + 2) :: rest, r, sl + z.toNat, l ++ [.inl (mm_aty t, z.toNat)]) else none
      | _ => none
    | .invokespecial _ => if k = 1000 then (match st with
        | .inr (.inr (some _)) :: rest => if mm_cat rest ≤ 8 then some (y, pc + 3, ls, rest, r, sl, l) else none
        | _ => none)
      else (match st.drop k with
        | .inr (.inr (some a)) :: rest => if mm_cat rest ≤ 8 ∧ (mm_spread (.inr (.inr (some a)) :: (st.take k).reverse)).length ≤ mm_maxL x then some (x, 0, mm_pad (mm_maxL x) (mm_spread (.inr (.inr (some a)) :: (st.take k).reverse)), [], (y, pc + 3, ls, rest) :: r, sl, l) else none
        | _ => none)
    | .return_ => match st, r with
      | [], (y', pc', ls', st') :: r' => some (y', pc', ls', st', r', sl, l)
      | _, _ => none
    | _ => none
def dd_R (Q : Option mm_V → mm_H → Prop) : List dd_F → Option mm_V → mm_H → Prop
  | [], v, h => Q v h
  | q :: r, v, h => mm_X q.1 q.2.1 q.2.2.1 (v.toList ++ q.2.2.2) h (dd_R Q r)
def dd_J (L : Nat) (f : Nat → Int) (Q : Option mm_V → mm_H → Prop) (s : dd_S) : Prop := mm_X s.1 s.2.1 s.2.2.1 s.2.2.2.1 (dd_H L f s.2.2.2.2.2.1 s.2.2.2.2.2.2) (dd_R Q s.2.2.2.2.1)
theorem dd_one_ok {L : Nat} {f : Nat → Int} {Q : Option mm_V → mm_H → Prop} {ins : Instr} {len x k : Nat} {c : Int} {pl : List Nat} {s s' : dd_S} (hc : mm_code s.1 s.2.1 = some (ins, len, c, x, k, pl)) (h : dd_one ins c x k s = some s') (g : dd_J L f Q s') : dd_J L f Q s := by
  obtain ⟨y, pc, ls, st, r, sl, l⟩ := s
  unfold dd_J
  dsimp only at hc ⊢
  rw [mm_unf hc]
  unfold dd_one at h
  dsimp only at h
  split at h
  · cases h; exact g
  · cases h; exact g
  · cases h; exact g
  · split at h
    · next e => cases h; simp only [mm_step, mm_iload, e, mm_go]; exact g
    · cases h
  · split at h
    · next e => cases h; simp only [mm_step, mm_aload, e, mm_go]; exact g
    · cases h
  · split at h
    · split at h
      · next e => cases h; simp only [mm_step, mm_astore, if_pos e, mm_go]; exact g
      · cases h
    · cases h
  · split at h
    · split at h
      · cases h
      · next e => cases h; simp only [mm_step, mm_dup, if_neg e, mm_go]; exact g
    · cases h
  · split at h
    · split at h
      · next e =>
        split at h
        · next e2 =>
          subst e2
          split at h
          · next e3 => cases h; simp only [mm_step, mm_getf, dd_obj e, e3, mm_go]; exact g
          · cases h
        · cases h
      · cases h
    · cases h
  · split at h
    · split at h
      · next e =>
        split at h
        · next e2 =>
          obtain ⟨rfl, e3, e4⟩ := e2
          cases h
          simp only [mm_step, mm_putf, dd_obj e]
          rw [if_pos ⟨e3, e4⟩, dd_set (List.getElem?_eq_some_iff.mp e).1]
          exact g
        · cases h
      · cases h
    · split at h
      · next e =>
        split at h
        · next e2 =>
          obtain ⟨rfl, e3, e4⟩ := e2
          cases h
          simp only [mm_step, mm_putf, dd_obj e]
          rw [if_pos ⟨e3, e4⟩, dd_set (List.getElem?_eq_some_iff.mp e).1]
          exact g
        · cases h
      · cases h
    · cases h
  · split at h
    · next e =>
      cases h
      have ea := dd_alloc (L := L) (f := f) (k := (mm_blank x).length) (l := l) (.inr (x, mm_blank x)) e
      simp only [dd_c] at ea
      simp only [mm_step, mm_new, ea, mm_go]
      exact g
    · cases h
  · next t =>
    split at h
    · next z rest =>
      split at h
      · next e =>
        cases h
        have ea := dd_alloc (L := L) (f := f) (k := z.toNat) (l := l) (.inl (mm_aty t, z.toNat)) e.1
        simp only [dd_c] at ea
        simp only [mm_step, mm_newa, if_pos e.2, ea, mm_go]
        exact g
      · cases h
    · cases h
  · split at h
    · next e =>
      split at h
      · split at h
        · next e2 => cases h; simp only [mm_step, if_pos e, mm_objInit, if_pos e2, mm_go]; exact g
        · cases h
      · cases h
    · next e =>
      split at h
      · next e1 =>
        split at h
        · next e2 =>
          cases h
          simp only [mm_step, if_neg e, mm_callI, e1, if_pos e2.1, mm_go]
          exact ⟨e2.2, g⟩
        · cases h
      · cases h
  · split at h
    · cases h; exact g
    · cases h
  · cases h
def dd_run : Nat → dd_S → Option dd_S
  | 0, s => some s
  | n + 1, s => match mm_code s.1 s.2.1 with
    | some I => match dd_one I.1 I.2.2.1 I.2.2.2.1 I.2.2.2.2.1 s with
      | some s' => dd_run n s'
      | none => none
    | none => none
theorem dd_run_ok {L : Nat} {f : Nat → Int} {Q : Option mm_V → mm_H → Prop} : ∀ (n : Nat) (s s' : dd_S), dd_run n s = some s' → dd_J L f Q s' → dd_J L f Q s
  | 0, s, s', h, g => by cases h; exact g
  | n + 1, s, s', h, g => by
    unfold dd_run at h
    split at h
    · next I e =>
      obtain ⟨ins, len, c, x, k, pl⟩ := I
      dsimp only at h
      split at h
      · next s1 e1 => exact dd_one_ok e e1 (dd_run_ok n s1 s' h g)
      · cases h
    · cases h
