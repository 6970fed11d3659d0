/-! MAKE: the class looks at every label. -/
theorem lkF_out {T : mk_S} : ∀ (l cur : List Int) (ls : List (List Int)), pts l → pts cur → cur.length + l.length ≤ 300 → (∀ y, y ∈ ls → pts y) →
    (∀ y, y ∈ (lkF T l cur ls).1 → pts y) ∧ (lkF T l cur ls).1.flatten.length ≤ ls.flatten.length + cur.length + l.length ∧ (lkF T l cur ls).1.flatten.length + (lkF T l cur ls).1.length ≤ ls.flatten.length + ls.length + cur.length + l.length + 1 ∧ ((lkF T l cur ls).2.1 = 0 → 1 ≤ (lkF T l cur ls).1.length)
  | [], cur, ls, h1, h2, h3, h4 => by
    simp only [lkF, List.length_nil] at h3 ⊢
    split
    · next h => exact ⟨h4, by simp only []; omega, by simp only []; omega, fun e => absurd e h⟩
    · next h =>
      have ho := lkL_out (T := T) h2 (by omega) (Decidable.not_not.1 h)
      refine ⟨fun y hy => ?_, ?_, ?_, fun _ => by simp⟩
      · rcases List.mem_append.1 hy with hy | hy
        · exact h4 y hy
        · rw [List.mem_singleton.1 hy]; exact ho.1
      · simp only [List.flatten_append, List.length_append, List.flatten_cons, List.flatten_nil, List.append_nil]; omega
      · simp only [List.flatten_append, List.length_append, List.flatten_cons, List.flatten_nil, List.append_nil, List.length_cons, List.length_nil]; omega
  | c :: cs, cur, ls, h1, h2, h3, h4 => by
    have g := pts_iff.1 h1
    have g1 : pts cs := pts_iff.2 (fun y hy => g y (List.mem_cons_of_mem _ hy))
    simp only [lkF, List.length_cons] at h3 ⊢
    split
    · split
      · next h => exact ⟨h4, by simp only []; omega, by simp only []; omega, fun e => absurd e h⟩
      · next h =>
        have ho := lkL_out (T := T) h2 (by omega) (Decidable.not_not.1 h)
        have ih := lkF_out (T := T) cs [] (ls ++ [(lkL T cur).1]) g1 pts_nil (by simp only [List.length_nil]; omega) (fun y hy => by
          rcases List.mem_append.1 hy with hy | hy
          · exact h4 y hy
          · rw [List.mem_singleton.1 hy]; exact ho.1)
        simp only [List.flatten_append, List.length_append, List.flatten_cons, List.flatten_nil, List.append_nil, List.length_cons, List.length_nil] at ih
        refine ⟨ih.1, by omega, by omega, ih.2.2.2⟩
    · have ih := lkF_out (T := T) cs (cur ++ [c]) ls g1 (pts_app h2 (g c List.mem_cons_self)) (by simp only [List.length_append, List.length_cons, List.length_nil]; omega) h4
      simp only [List.length_append, List.length_cons, List.length_nil] at ih
      refine ⟨ih.1, by omega, by omega, ih.2.2.2⟩
abbrev lkD : List Nat := [31, 32, 33, 34, 35, 36, 37, 42, 43, 44, 45, 46, 47, 48, 49]
abbrev lkC : List Nat := [31, 32, 33, 35, 36, 37, 42, 43, 44, 45, 46, 47, 48, 49]
section LOOKLAB
variable {L : Nat} {T : mk_S} {Q : Option mm_V → mm_H → Prop}
theorem lp_lk {w : List Int} {R : List (List Int) × Int × Int × Int} (hO : TOK T) (hw : pts w) : ∀ (k r a : Nat) (ls : List (List Int)) (σ : mk_S) (Q : Option mm_V → mm_H → Prop), r + k = w.length + 1 → a ≤ r → TC σ T → rowOK σ 40 300 w → lbs σ ls → ls.flatten.length + ls.length ≤ a → (r ≤ w.length → R = lkF T (w.drop r) (sg w a r) ls) → (r = w.length + 1 → R = (ls, 0, 0, 0)) →
    (R.2.1 = 0 → ∀ σ', lbs σ' R.1 → cf lkC σ σ' → Q (some (vI 1)) (hp L σ')) →
    (R.2.1 ≠ 0 → ∀ σ', lbs σ' R.1 → dF σ' R.2.1 R.2.2.1 R.2.2.2 → cf lkD σ σ' → Q (some (vI 0)) (hp L σ')) →
    mm_X 99 4 [vP 34, vI (a : Nat), vI (r : Nat)] [] (hp L σ) Q := by
  intro k
  induction k with
  | zero =>
    intro r a ls σ Q hr har hC hwr hs hsz hR hR0 k1 k0
    have hwl := hwr.2.1
    have hR0 := hR0 (by omega)
    refine r_iload_n c_99_4 rfl <| r_aload_n c_99_5 rfl <| r_getf_a c_99_6 rfl rfl <| r_cV0 c_99_9 rfl (Nat.le_of_ble_eq_true rfl) <| ?_
    refine ct_size row40 hwr ?_
    refine r_icmp_gt c_99_12 (fun h12 => ?_) <| (fun h12 => ?_)
    · refine r_iconst c_99_107 <| r_zret c_99_108 (Or.inr rfl) <| ?_
      exact k1 (by rw [hR0]) σ (by rw [hR0]; exact hs) cf.rf
    · exact absurd h12 (by omega)
  | succ k ih =>
    intro r a ls σ Q hr har hC hwr hs hsz hR hR0 k1 k0
    have hwl := hwr.2.1
    have hR := hR (by omega)
    -- the label that ends here
    have key : ∀ (σ1 : mk_S), rowOK σ1 44 300 (lkL T (sg w a r)).1 → cf lkC σ σ1 → lbs σ1 ls → (lkL T (sg w a r)).2.1 = 0 → (r = w.length ∨ (r < w.length ∧ w.getD r 0 = 46)) → mm_X 99 86 [vP 34, vI (a : Nat), vI (r : Nat)] [] (hp L σ1) Q := by
      intro σ1 g1 g2 g3 g4 g5
      have hsgl : (sg w a r).length = r - a := sg_len (by omega)
      have ho := lkL_out (T := T) (lb := sg w a r) (pts_iff.2 (fun y hy => by
        unfold sg at hy
        exact pts_iff.1 hw y (List.mem_of_mem_drop (List.mem_of_mem_take hy)))) (by omega) g4
      refine r_aload_n c_99_86 rfl <| r_getf_a c_99_87 rfl rfl <| r_aload_n c_99_90 rfl <| r_getf_a c_99_91 rfl rfl <| r_cV1 c_99_94 rfl (Nat.le_of_ble_eq_true rfl) <| ?_
      refine ct_lapp g1 g3 (by omega) (by omega) (fun σ2 hl2 hf2 => ?_)
      refine r_iload_n c_99_97 rfl <| r_iconst c_99_98 <| r_iadd c_99_99 (by omega) <| r_istore_n_3_1 c_99_100 rfl <| r_iinc_3_2 c_99_101 rfl (by omega) <| r_goto c_99_104 <| ?_
      have c2 : cf lkC σ σ2 := g2.tr (hf2.up (by decide))
      refine ih (r + 1) (r + 1) (ls ++ [(lkL T (sg w a r)).1]) σ2 Q (by omega) (by omega) (hC.cf c2 (by decide)) (hwr.cf c2 (by decide) (by decide)) hl2 (by simp only [List.flatten_append, List.length_append, List.flatten_cons, List.flatten_nil, List.append_nil, List.length_cons, List.length_nil]; omega) (fun h => ?_) (fun h => ?_) (fun w1 σ3 w2 w3 => k1 w1 σ3 w2 (c2.tr w3)) (fun w1 σ3 w2 w4 w3 => k0 w1 σ3 w2 w4 ((c2.up (by decide)).tr w3))
      · rcases g5 with g5 | ⟨g5, g6⟩
        · omega
        · rw [drop_at g5] at hR
          simp only [lkF] at hR
          rw [if_pos g6, if_neg (not_not_intro g4)] at hR
          rw [hR, sg_nil (Nat.le_refl _)]
      · have e : r = w.length := by omega
        subst e
        rw [List.drop_length] at hR
        simp only [lkF] at hR
        rw [if_neg (not_not_intro g4)] at hR
        exact hR
    have key2 : (r = w.length ∨ (r < w.length ∧ w.getD r 0 = 46)) → mm_X 99 39 [vP 34, vI (a : Nat), vI (r : Nat)] [] (hp L σ) Q := by
      intro g5
      have hsgl : (sg w a r).length = r - a := sg_len (by omega)
      have hpl : pts (sg w a r) := pts_iff.2 (fun y hy => by
        unfold sg at hy
        exact pts_iff.1 hw y (List.mem_of_mem_drop (List.mem_of_mem_take hy)))
      have bad : (lkL T (sg w a r)).2.1 ≠ 0 → ∀ σ1, dF σ1 (lkL T (sg w a r)).2.1 ls.length (lkL T (sg w a r)).2.2 → lbs σ1 ls → cf lkD σ σ1 → Q (some (vI 0)) (hp L σ1) := by
        intro b1 σ1 b2 b3 b4
        have e : R = (ls, (lkL T (sg w a r)).2.1, (ls.length : Int), (lkL T (sg w a r)).2.2) := by
          rw [hR]
          rcases g5 with g5 | ⟨g5, g6⟩
          · subst g5
            rw [List.drop_length]
            simp only [lkF]
            rw [if_pos b1]
          · rw [drop_at g5]
            simp only [lkF]
            rw [if_pos g6, if_pos b1]
        rw [e] at k0
        exact k0 b1 σ1 b3 b2 b4
      clear k1 k0 hR hR0 ih
      have hq1 : (sg w a r).length = 0 → lkL T (sg w a r) = ([], 0, 0) := fun h => by unfold lkL; rw [if_pos h]
      have hq2 : (sg w a r).length ≠ 0 → (unL T (sg w a r)).2.1 ≠ 0 → lkL T (sg w a r) = unL T (sg w a r) := fun h h2 => by unfold lkL; rw [if_neg h, if_pos h2]
      have hq3 : (sg w a r).length ≠ 0 → (unL T (sg w a r)).2.1 = 0 → lkL T (sg w a r) = ((unL T (sg w a r)).1, (ruL T (unL T (sg w a r)).1).1, (ruL T (unL T (sg w a r)).1).2) := fun h h2 => by unfold lkL; rw [if_neg h, if_neg (not_not_intro h2)]
      have hnil : (sg w a r).length = 0 → sg w a r = [] := fun h => List.eq_nil_of_length_eq_zero h
      refine r_aload_n c_99_39 rfl <| r_getf_a c_99_40 rfl rfl <| r_cV0 c_99_43 rfl (Nat.le_of_ble_eq_true rfl) <| ?_
      refine ct_clear row44 (fun σ1 hl1 hf1 => ?_)
      have c1 : cf lkC σ σ1 := hf1.cf (by decide) (by decide)
      refine r_aload_n c_99_46 rfl <| r_getf_a c_99_47 rfl rfl <| r_aload_n c_99_50 rfl <| r_getf_a c_99_51 rfl rfl <| r_iload_n c_99_54 rfl <| r_iload_n c_99_55 rfl <| r_cV3 c_99_56 rfl (Nat.le_of_ble_eq_true rfl) <| ?_
      refine ct_appendFrom (a := a) (b := r) row44 row40 (by decide) hl1 (hwr.fr2 hf1 (by decide)) har (by omega) (fun hlt σ2 hl2 hf2 => ?_) (fun hgt => absurd hgt (by simp only [List.length_nil]; omega))
      rw [List.nil_append] at hl2
      have c2 : cf lkC σ σ2 := c1.tr (hf2.cf (by decide) (by decide))
      have hs2 : lbs σ2 ls := (hs.cf (hf1.cf (A := [44, 45]) (by decide) (by decide)) (by decide)).cf (hf2.cf (A := [44, 45]) (by decide) (by decide)) (by decide)
      have hC2 := hC.cf c2 (by decide)
      refine r_pop c_99_59 (v := vI _) rfl <| r_aload_n c_99_60 rfl <| r_getf_a c_99_61 rfl rfl <| r_cV0 c_99_64 rfl (Nat.le_of_ble_eq_true rfl) <| ?_
      refine ct_size row44 hl2 ?_
      refine r_if_le c_99_67 (fun h67 => ?_) <| (fun h67 => ?_)
      · first
        | exact key σ2 (by rw [hq1 (by omega)]; rw [hnil (by omega)] at hl2; exact hl2) c2 hs2 (by rw [hq1 (by omega)]) g5
        | exact key σ4 (by rw [hq3 (by omega) hu]; exact hl3.cf hf4 (by decide) (by decide)) ((c2.tr (hf3.up (by decide))).tr (hf4.up (by decide))) ((hs2.cf hf3 (by decide)).cf hf4 (by decide)) (by rw [hq3 (by omega) hu]; exact hv) g5
      · refine r_aload_n c_99_70 rfl <| r_cV0 c_99_71 rfl (Nat.le_of_ble_eq_true rfl) <| ?_
        refine ct_unl (n := (ls.length : Int)) hC2 hO hl2 hpl hs2.2.1 (fun hu σ3 hl3 hf3 => ?_) (fun hu σ3 hd3 hf3 => ?_)
        · refine r_if_eq c_99_74 (fun h => absurd h (by decide)) <| (fun _ => ?_)
          refine r_aload_n c_99_77 rfl <| r_cV0 c_99_78 rfl (Nat.le_of_ble_eq_true rfl) <| ?_
          refine ct_fr (n := (ls.length : Int)) (hC2.cf hf3 (by decide)) hO hl3 (by rw [hf3 46 (by decide)]; exact hs2.2.1) (fun hv σ4 hf4 => ?_) (fun hv σ4 hd4 hf4 => ?_)
          · refine r_if_ne c_99_81 (fun _ => ?_) <| (fun h => absurd h (by decide))
            first
            | exact key σ2 (by rw [hq1 (by omega)]; rw [hnil (by omega)] at hl2; exact hl2) c2 hs2 (by rw [hq1 (by omega)]) g5
            | exact key σ4 (by rw [hq3 (by omega) hu]; exact hl3.cf hf4 (by decide) (by decide)) ((c2.tr (hf3.up (by decide))).tr (hf4.up (by decide))) ((hs2.cf hf3 (by decide)).cf hf4 (by decide)) (by rw [hq3 (by omega) hu]; exact hv) g5
          · refine r_if_ne c_99_81 (fun h => absurd h (by decide)) <| (fun _ => ?_)
            refine r_iconst c_99_84 <| r_zret c_99_85 (Or.inl rfl) <| ?_
            first
            | exact bad (by rw [hq3 (by omega) hu]; exact hv) σ4 (by rw [hq3 (by omega) hu]; exact hd4) ((hs2.cf hf3 (by decide)).cf hf4 (by decide)) (((c2.tr (hf3.up (by decide))).up (by decide)).tr (hf4.up (by decide)))
            | exact bad (by rw [hq2 (by omega) hu]; exact hu) σ3 (by rw [hq2 (by omega) hu]; exact hd3) (hs2.cf hf3 (by decide)) ((c2.up (by decide)).tr (hf3.up (by decide)))
        · refine r_if_eq c_99_74 (fun _ => ?_) <| (fun h => absurd h (by decide))
          refine r_iconst c_99_84 <| r_zret c_99_85 (Or.inl rfl) <| ?_
          first
          | exact bad (by rw [hq3 (by omega) hu]; exact hv) σ4 (by rw [hq3 (by omega) hu]; exact hd4) ((hs2.cf hf3 (by decide)).cf hf4 (by decide)) (((c2.tr (hf3.up (by decide))).up (by decide)).tr (hf4.up (by decide)))
          | exact bad (by rw [hq2 (by omega) hu]; exact hu) σ3 (by rw [hq2 (by omega) hu]; exact hd3) (hs2.cf hf3 (by decide)) ((c2.up (by decide)).tr (hf3.up (by decide)))
    refine r_iload_n c_99_4 rfl <| r_aload_n c_99_5 rfl <| r_getf_a c_99_6 rfl rfl <| r_cV0 c_99_9 rfl (Nat.le_of_ble_eq_true rfl) <| ?_
    refine ct_size row40 hwr ?_
    refine r_icmp_gt c_99_12 (fun h12 => ?_) <| (fun h12 => ?_)
    · exact absurd h12 (by omega)
    · refine r_iload_n c_99_15 rfl <| r_aload_n c_99_16 rfl <| r_getf_a c_99_17 rfl rfl <| r_cV0 c_99_20 rfl (Nat.le_of_ble_eq_true rfl) <| ?_
      refine ct_size row40 hwr ?_
      refine r_icmp_eq c_99_23 (fun h23 => ?_) <| (fun h23 => ?_)
      · first | exact key2 (Or.inl (by omega)) | exact key2 (Or.inr ⟨by omega, by assumption⟩)
      · refine r_aload_n c_99_26 rfl <| r_getf_a c_99_27 rfl rfl <| r_iload_n c_99_30 rfl <| r_cV1 c_99_31 rfl (Nat.le_of_ble_eq_true rfl) <| ?_
        refine ct_atn row40 hwr (by omega) ?_
        refine r_bipush c_99_34 <| r_icmp_ne c_99_36 (fun h36 => ?_) <| (fun h36 => ?_)
        · refine r_iinc_3_2 c_99_101 rfl (by omega) <| r_goto c_99_104 <| ?_
          refine ih (r + 1) a ls σ Q (by omega) (by omega) hC hwr hs hsz (fun h => ?_) (fun h => by omega) k1 k0
          rw [drop_at (by omega)] at hR
          simp only [lkF] at hR
          rw [if_neg (by assumption)] at hR
          rw [hR, sg_snoc har (by omega)]
        · first | exact key2 (Or.inl (by omega)) | exact key2 (Or.inr ⟨by omega, by assumption⟩)
theorem ct_lk {σ : mk_S} {w : List Int} (hC : TC σ T) (hO : TOK T) (hw : pts w) (hwr : rowOK σ 40 300 w) (hs : lbs σ [])
    (k1 : (lkF T w [] []).2.1 = 0 → ∀ σ', lbs σ' (lkF T w [] []).1 → cf lkC σ σ' → Q (some (vI 1)) (hp L σ'))
    (k0 : (lkF T w [] []).2.1 ≠ 0 → ∀ σ', lbs σ' (lkF T w [] []).1 → dF σ' (lkF T w [] []).2.1 (lkF T w [] []).2.2.1 (lkF T w [] []).2.2.2 → cf lkD σ σ' → Q (some (vI 0)) (hp L σ')) : mm_call 99 [vP 34] (hp L σ) Q := by
  refine ⟨Nat.le_of_ble_eq_true rfl, ?_⟩
  show mm_X 99 0 [vP 34, mm_null, mm_null] [] _ _
  refine r_iconst c_99_0 <| r_istore_n_3_1 c_99_1 rfl <| r_iconst c_99_2 <| r_istore_n_3_2 c_99_3 rfl <| ?_
  exact lp_lk hO hw (w.length + 1) 0 0 [] σ Q (by omega) (Nat.le_refl _) hC hwr hs (Nat.le_refl _) (fun _ => by rw [List.drop_zero, sg_nil (Nat.le_refl _)]) (fun h => absurd h (by omega)) k1 k0
end LOOKLAB
