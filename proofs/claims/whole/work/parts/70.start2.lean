/-! THE START of the law, and the law on the small machine. -/
def dd_k (q : mk_K) : dd_C := match q with
  | .inl x => .inl x
  | .inr x => .inr (x.1, fl x.2 (fun _ => 0) 0)
def dd_dV : DecidableEq mm_V := inferInstance
def dd_dC : DecidableEq dd_C := @instDecidableEqSum _ _ inferInstance (@instDecidableEqProd _ _ inferInstance (@instDecidableEqList _ dd_dV))
def dd_dF : DecidableEq dd_F := @instDecidableEqProd _ _ inferInstance (@instDecidableEqProd _ _ inferInstance (@instDecidableEqProd _ _ (@instDecidableEqList _ dd_dV) (@instDecidableEqList _ dd_dV)))
def dd_dS : DecidableEq dd_S := @instDecidableEqProd _ _ inferInstance (@instDecidableEqProd _ _ inferInstance (@instDecidableEqProd _ _ (@instDecidableEqList _ dd_dV) (@instDecidableEqProd _ _ (@instDecidableEqList _ dd_dV) (@instDecidableEqProd _ _ (@instDecidableEqList _ dd_dF) (@instDecidableEqProd _ _ inferInstance (@instDecidableEqList _ dd_dC))))))
def dd_chk : Bool := match dd_run 552 (0, 0, [vP 1, mm_null, mm_null, mm_null], [], [], 100, []) with
  | none => false
  | some s => @decide _ (dd_dS s (0, 16, [vP 1, vP 2, vP 55, mm_null], [], [], 37879, mk_tab.map dd_k))
theorem dd_chk_ok : dd_chk = true := by decide +kernel
theorem dd_eval : dd_run 552 (0, 0, [vP 1, mm_null, mm_null, mm_null], [], [], 100, []) = some (0, 16, [vP 1, vP 2, vP 55, mm_null], [], [], 37879, mk_tab.map dd_k) := by
  have h := dd_chk_ok
  unfold dd_chk at h
  split at h
  · cases h
  · next s e => rw [e, @of_decide_eq_true _ (dd_dS _ _) h]
def s0_ (f : Nat → Int) : mk_S := fun a => match a with
  | 1 => f
  | _ => fun _ => 0
theorem dd_start {L : Nat} {f : Nat → Int} : dd_H L f 37879 (mk_tab.map dd_k) = hp L (s0_ f) := by
  funext a
  match a with
  | 0 => rfl
  | 1 => rfl
  | a + 2 =>
    have e1 : kd L (a + 2) = mk_tab.getD a (.inr (99, [])) := rfl
    have e2 : dd_H L f 37879 (mk_tab.map dd_k) (a + 2) = (match (mk_tab.map dd_k)[a]? with
      | some c => dd_c c
      | none => mm_dead) := rfl
    have e3 : s0_ f (a + 2) = fun _ => 0 := rfl
    unfold hp
    rw [e1, e2, e3, List.getElem?_map, List.getD_eq_getElem?_getD]
    cases mk_tab[a]? with
    | none => rfl
    | some q => rcases q with q | q <;> rfl
theorem s0_tok {f : Nat → Int} : TOK (s0_ f) := by
  refine ⟨⟨⟨rfl, Nat.zero_le _⟩, ⟨rfl, Nat.zero_le _⟩, ⟨rfl, Nat.zero_le _⟩, ⟨rfl, Nat.zero_le _⟩⟩, ?_, ?_, ?_, ?_⟩
  all_goals (intro i hi; exact absurd hi (Nat.not_lt_zero i))
theorem s0_MT {f : Nat → Int} : MT (s0_ f) (s0_ f) := by
  refine ⟨⟨rfl, rfl, rfl, rfl⟩, ?_, ?_, ?_, ?_⟩
  all_goals (intro i hi; exact absurd hi (Nat.not_lt_zero i))
theorem s0_CI {f : Nat → Int} : CI (s0_ f) (s0_ f) [] [] [] 0 0 0 0 := by
  refine ⟨fun _ _ _ => rfl, ⟨rfl, Nat.zero_le _, ?_⟩, ⟨rfl, Nat.zero_le _, ?_⟩, ⟨rfl, Nat.zero_le _, ?_⟩, ⟨rfl, rfl, rfl⟩, rfl⟩
  all_goals (intro i hi; exact absurd hi (Nat.not_lt_zero i))
theorem s0_MI {f : Nat → Int} : MI (s0_ f) (s0_ f) [] [] [] 0 0 0 0 := by
  refine ⟨s0_MT, ⟨rfl, Nat.zero_le _, ?_⟩, ⟨rfl, Nat.zero_le _, ?_⟩, ⟨rfl, Nat.zero_le _, ?_⟩, ⟨rfl, rfl, rfl⟩, rfl⟩
  all_goals (intro i hi; exact absurd hi (Nat.not_lt_zero i))
theorem mm_law_holds : mm_Law := by
  intro L f hL hf
  have hx : mm_X 0 0 [vP 1, mm_null, mm_null, mm_null] [] (mm_h0 L f) (fun v h' => v = some (vI 1) ∧ ∃ σ, h' = hp L σ) := by
    have h0 : mm_h0 L f = dd_H L f 100 [] := by
      funext a
      match a with
      | 0 => rfl
      | 1 => rfl
      | a + 2 => rfl
    rw [h0]
    refine dd_run_ok (L := L) (f := f) 552 _ _ dd_eval ?_
    show mm_X 0 16 [vP 1, vP 2, vP 55, mm_null] [] (dd_H L f 37879 (mk_tab.map dd_k)) _
    rw [dd_start]
    refine r_iconst c_0_16 <| r_istore_n_4_3 c_0_17 rfl <| ?_
    refine lw_loop hL 64 0 (s0_ f) (s0_ f) [] [] [] 0 0 0 0 (by omega) (Nat.zero_le _) s0_CI s0_MI ⟨s0_tok, octs_nil, pts_nil, octs_nil⟩ (fun j => ⟨(hf j).1, by have := (hf j).2; show f j ≤ _; omega⟩) (fun σ' => ⟨rfl, σ', rfl⟩)
  obtain ⟨n, r, h1, h2, σ, h3⟩ := hx
  refine ⟨n, r.2, ?_, ?_, ?_⟩
  · rw [show mm_null = .inr (.inr none) from rfl] at h1 ⊢
    rw [h1, ← h2]
  · rw [h3]; exact (by decide : (88 : Nat) ≤ 600002)
  · rw [h3]; exact (by decide : (37879 : Nat) ≤ 7302350)
