/-! MAKE: bounds of what is asked. -/
theorem mqF_f {T : mk_S} : ∀ (l : List Int) (i : Nat) (a : List Int), (mqF T l i a).2.1 = 0 ∨ (mqF T l i a).2.1 = 20 ∨ (mqF T l i a).2.1 = 60
  | [], i, a => Or.inl rfl
  | p :: ps, i, a => by
    simp only [mqF]
    split
    · right; left; rfl
    · split
      · right; right; rfl
      · exact mqF_f ps (i + 1) _
theorem mkM_f {T : mk_S} (l : List Int) : (mkM T l).2.1 = 0 ∨ (mkM T l).2.1 = 20 ∨ (mkM T l).2.1 = 60 := by
  unfold mkM
  split
  · exact mqF_f _ _ _
  · split
    · right; right; rfl
    · left; rfl
theorem lkL_f {T : mk_S} (x : List Int) : 0 ≤ (lkL T x).2.1 ∧ (lkL T x).2.1 ≤ 60 := by
  have h1 : 0 ≤ (unL T x).2.1 ∧ (unL T x).2.1 ≤ 60 := by unfold unL; (repeat' split) <;> (simp only []; omega)
  have h2 : ∀ u, 0 ≤ (ruL T u).1 ∧ (ruL T u).1 ≤ 60 := by intro u; unfold ruL; (repeat' split) <;> (simp only []; omega)
  unfold lkL
  split
  · simp only []; omega
  · split
    · exact h1
    · exact h2 _
theorem lkF_f {T : mk_S} : ∀ (l cur : List Int) (ls : List (List Int)), 0 ≤ (lkF T l cur ls).2.1 ∧ (lkF T l cur ls).2.1 ≤ 60
  | [], cur, ls => by
    have := lkL_f (T := T) cur
    simp only [lkF]
    split
    · exact this
    · simp only []; omega
  | c :: cs, cur, ls => by
    have := lkL_f (T := T) cur
    simp only [lkF]
    split
    · split
      · exact this
      · exact lkF_f cs [] _
    · exact lkF_f cs _ ls
theorem PL_f (ls : List (List Int)) : 0 ≤ (PL ls).1 ∧ (PL ls).1 ≤ 60 := by unfold PL; (repeat' split) <;> (simp only []; omega)
def oc2 (l : List Int) : Prop := ∀ y, y ∈ l → 0 ≤ y ∧ y ≤ 255
theorem oc2_octs {l : List Int} (h : oc2 l) : octs l := fun i hi => h _ (gd_mem hi)
theorem plN_oc {x : List Int} (hl : x.length ≤ 300) (hp : pts x) : oc2 (plN x) := by
  intro y hy
  unfold plN at hy
  split at hy
  · next h =>
    have aux : ∀ l : List Int, wdF l = false → ∀ y, y ∈ l → y ≤ 127 := by
      intro l
      induction l with
      | nil => intro _ y hy; exact absurd hy (by simp)
      | cons a as ih =>
        intro h y hy
        simp only [wdF] at h
        split at h
        · exact absurd h (by decide)
        · rcases List.mem_cons.1 hy with rfl | hy
          · omega
          · exact ih h y hy
    have h1 := aux x h y hy
    have h2 := pts_iff.1 hp y hy
    unfold isPt at h2; omega
  · rcases List.mem_append.1 hy with hy | hy
    · simp only [List.mem_cons, List.not_mem_nil, or_false] at hy; omega
    · have := enc_pt hl hp y hy; omega
theorem outF_oc {F : List Int → List Int} : ∀ (l : List (List Int)) (i : Nat), (∀ x, x ∈ l → oc2 (F x)) → oc2 (outF F l i)
  | [], i, h => fun y hy => absurd hy (by simp [outF])
  | x :: xs, i, h => by
    intro y hy
    simp only [outF] at hy
    rcases List.mem_append.1 hy with hy | hy
    · split at hy
      · simp only [List.mem_singleton] at hy; omega
      · exact absurd hy (by simp)
    · rcases List.mem_append.1 hy with hy | hy
      · exact h x List.mem_cons_self y hy
      · exact outF_oc xs (i + 1) (fun z hz => h z (List.mem_cons_of_mem _ hz)) y hy
theorem mem_flen {ls : List (List Int)} {x : List Int} (h : x ∈ ls) : x.length ≤ ls.flatten.length := by
  induction ls with
  | nil => exact absurd h (by simp)
  | cons a as ih =>
    simp only [List.flatten_cons, List.length_append]
    rcases List.mem_cons.1 h with rfl | h
    · omega
    · have := ih h; omega
theorem mkR_rng {T : mk_S} (hO : TOK T) {t : List Int} (hot : octs t) (kd : Int) : (0 ≤ (mkR T t kd).1.1 ∧ (mkR T t kd).1.1 ≤ 60) ∧ ((mkR T t kd).1.1 = 0 → (mkR T t kd).1 = (0, 0, 0)) ∧ octs (mkR T t kd).2.2 ∧ (mkR T t kd).2.2.length ≤ 8000 := by
  have hrd := RD_pts hot
  have n0 : octs ([] : List Int) ∧ ([] : List Int).length ≤ 8000 := ⟨octs_nil, Nat.zero_le _⟩
  unfold mkR
  split
  · refine ⟨?_, ?_, n0⟩
    · simp only []; split <;> omega
    · intro h; exfalso; simp only [] at h; split at h <;> omega
  · next g1 =>
    split
    · next g2 =>
      have := mkM_f (T := T) (RD t).1
      exact ⟨by simp only []; omega, fun h => absurd h g2, n0⟩
    · next g2 =>
      have hm := mkM_pts hO hrd.1 (Decidable.not_not.1 g2)
      have hlk := lkF_out (T := T) (mkM T (RD t).1).1 [] [] hm.1 pts_nil (by simpa using hm.2) (fun y hy => absurd hy (by simp))
      have hf := lkF_f (T := T) (mkM T (RD t).1).1 [] []
      generalize lkF T (mkM T (RD t).1).1 [] [] = r at *
      have hsz : r.1.flatten.length + r.1.length ≤ 301 := by
        have := hlk.2.2.1
        simp only [List.flatten_nil, List.length_nil] at this
        omega
      split
      · next g3 => exact ⟨hf, fun h => absurd h g3, n0⟩
      · next g3 =>
        have h1 := hlk.2.2.2 (Decidable.not_not.1 g3)
        have hfl : r.1.flatten.length ≤ 300 := by omega
        split
        · exact ⟨by simp only []; omega, fun h => absurd h (by simp), n0⟩
        · split
          · have := outW_len0 r.1
            exact ⟨by simp only []; omega, fun _ => rfl, oc2_octs (outF_oc _ _ (fun x hx y hy => by
              unfold wdN at hy
              obtain ⟨p, p1, p2⟩ := List.mem_flatMap.1 hy
              exact ocs_oct (pts_iff.1 (hlk.1 x hx) p p1) y p2)), by simp only []; omega⟩
          · split
            · next g5 => exact ⟨PL_f _, fun h => absurd h g5, n0⟩
            · have := outP_len r.1 0 hlk.1 hfl
              exact ⟨by simp only []; omega, fun _ => rfl, oc2_octs (outF_oc _ _ (fun x hx => plN_oc (Nat.le_trans (mem_flen hx) hfl) (hlk.1 x hx))), by simp only []; omega⟩
