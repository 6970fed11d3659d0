/-! MAKE: plain letters out, the model's side, second half. -/
section MPLAIN2
variable {L : Nat} {T : mk_S}
theorem mp_f92 {σ : mk_S} {os rs : List (List Int)} {Q : Option mm_V → mm_H → Prop} (hx : mLx σ os rs) (h43 : σ 55 43 = (os.length : Int)) (hn : 1 ≤ os.length) (h50 : 0 ≤ σ 55 50 ∧ σ 55 50 ≤ 8000) (hpos : 0 ≤ σ 55 50 - (if 1 < os.length ∧ (rs.getD (os.length - 1) []).length = 0 then 1 else 0)) (hf : σ 55 37 ≠ 0) (kk : Q none (hp L σ)) : ∀ (i : Int) (a2 : mm_V), mm_X 184 92 [vP 55, vI i, a2] [] (hp L σ) Q := by
  intro i a2
  refine r_iload_n c_184_92 rfl <| r_aload_n c_184_93 rfl <| r_getf_i c_184_94 rfl rfl <| r_icmp_ge c_184_97 (fun h97 => ?_) <| (fun h97 => ?_)
  · exact mp_tail hx h43 hn h50 (fun _ => kk) (fun h => absurd h hf) hpos _ _
  · refine r_aload_n c_184_100 rfl <| r_getf_i c_184_101 rfl rfl <| r_if_ne c_184_104 (fun h104 => ?_) <| (fun h104 => ?_)
    · exact mp_tail hx h43 hn h50 (fun _ => kk) (fun h => absurd h hf) hpos _ _
    · exact absurd (by assumption) hf
theorem mp_f33 {σ : mk_S} {os rs : List (List Int)} {Q : Option mm_V → mm_H → Prop} (hx : mLx σ os rs) (h43 : σ 55 43 = (os.length : Int)) (hn : 1 ≤ os.length) (h50 : 0 ≤ σ 55 50 ∧ σ 55 50 ≤ 8000) (hpos : 0 ≤ σ 55 50 - (if 1 < os.length ∧ (rs.getD (os.length - 1) []).length = 0 then 1 else 0)) (hf : σ 55 37 ≠ 0) (kk : Q none (hp L σ)) : ∀ (i : Int) (a2 : mm_V), mm_X 184 33 [vP 55, vI i, a2] [] (hp L σ) Q := by
  intro i a2
  refine r_iload_n c_184_33 rfl <| r_aload_n c_184_34 rfl <| r_getf_i c_184_35 rfl rfl <| r_icmp_ge c_184_38 (fun h38 => ?_) <| (fun h38 => ?_)
  · refine r_iconst c_184_90 <| r_istore_n_3_1 c_184_91 rfl <| ?_
    exact mp_f92 hx h43 hn h50 hpos hf kk _ _
  · refine r_aload_n c_184_41 rfl <| r_getf_i c_184_42 rfl rfl <| r_if_ne c_184_45 (fun h45 => ?_) <| (fun h45 => ?_)
    · refine r_iconst c_184_90 <| r_istore_n_3_1 c_184_91 rfl <| ?_
      exact mp_f92 hx h43 hn h50 hpos hf kk _ _
    · exact absurd (by assumption) hf
theorem lp_m52 {σ : mk_S} {os rs : List (List Int)} {Q : Option mm_V → mm_H → Prop} (hx : mLx σ os rs) (h43 : σ 55 43 = (os.length : Int)) (hn : 1 ≤ os.length) (h50 : 0 ≤ σ 55 50 ∧ σ 55 50 ≤ 8000) (hpos : 0 ≤ σ 55 50 - (if 1 < os.length ∧ (rs.getD (os.length - 1) []).length = 0 then 1 else 0)) (hf : σ 55 37 = 0) (h87 : ∀ j, j < rs.length → σ 87 j = ((plN (rs.getD j [])).length : Int))
    (k1 : p52 rs 0 = -1 → ∀ a1 a2, mm_X 184 134 [vP 55, a1, a2] [] (hp L σ) Q) (k0 : 0 ≤ p52 rs 0 → ∀ σ', mD σ' 52 (p52 rs 0) 63 → mf [] [37, 38, 39] σ σ' → Q none (hp L σ')) : ∀ (k j : Nat) (a2 : mm_V), j + k = rs.length → p52 rs 0 = p52 (rs.drop j) j → mm_X 184 92 [vP 55, vI (j : Nat), a2] [] (hp L σ) Q := by
  intro k
  have hx1 := hx.1
  have h3 := hx.2.2.1
  induction k with
  | zero =>
    intro j a2 hj hR
    have ej : j = rs.length := by omega
    subst ej
    rw [List.drop_length] at hR
    simp only [p52] at hR
    have k1 := k1 hR
    refine r_iload_n c_184_92 rfl <| r_aload_n c_184_93 rfl <| r_getf_i c_184_94 rfl rfl <| r_icmp_ge c_184_97 (fun h97 => ?_) <| (fun h97 => ?_)
    · exact k1 _ _
    · exact absurd (show False by omega) (by decide)
  | succ k ih =>
    intro j a2 hj hR
    rw [drs_at (by omega)] at hR
    simp only [p52] at hR
    have hPj := h87 j (by omega)
    refine r_iload_n c_184_92 rfl <| r_aload_n c_184_93 rfl <| r_getf_i c_184_94 rfl rfl <| r_icmp_ge c_184_97 (fun h97 => ?_) <| (fun h97 => ?_)
    · first | exact absurd hf (by assumption) | exact absurd (show False by omega) (by decide)
    · refine r_aload_n c_184_100 rfl <| r_getf_i c_184_101 rfl rfl <| r_if_ne c_184_104 (fun h104 => ?_) <| (fun h104 => ?_)
      · first | exact absurd hf (by assumption) | exact absurd (show False by omega) (by decide)
      · refine r_aload_n c_184_107 rfl <| r_getf_a c_184_108 rfl rfl <| r_iload_n c_184_111 rfl <| r_iald c_184_112 rfl (Or.inl rfl) (jn := j) (by omega) (by omega) <| ?_
        rw [hPj]
        refine r_bipush c_184_113 <| r_icmp_le c_184_115 (fun h115 => ?_) <| (fun h115 => ?_)
        · refine r_iinc_3_1 c_184_128 rfl (by omega) <| r_goto c_184_131 <| ?_
          first
          | (rw [if_neg (by omega)] at hR; exact ih (j + 1) _ (by omega) hR)
          | (rw [if_pos (by omega)] at hR
             exact mp_f92 (hx.mf hf2 (by decide)) (by rw [hf2.2 43 (by decide)]; exact h43) hn (by rw [hf2.2 50 (by decide)]; exact h50) (by rw [hf2.2 50 (by decide)]; exact hpos) (by rw [hd2.1]; decide) (k0 (by omega) σ2 (by rw [hR]; exact hd2) hf2) _ _)
        · refine r_aload_n c_184_118 rfl <| r_bipush c_184_119 <| r_iload_n c_184_121 rfl <| r_bipush c_184_122 <| r_cV3 c_184_124 rfl (Nat.le_of_ble_eq_true rfl) <| ?_
          refine ct_wrong _ _ _ hf (fun σ2 hd2 hf2 => ?_)
          refine r_istore_n_3_2 c_184_127 rfl <| r_iinc_3_1 c_184_128 rfl (by omega) <| r_goto c_184_131 <| ?_
          first
          | (rw [if_neg (by omega)] at hR; exact ih (j + 1) _ (by omega) hR)
          | (rw [if_pos (by omega)] at hR
             exact mp_f92 (hx.mf hf2 (by decide)) (by rw [hf2.2 43 (by decide)]; exact h43) hn (by rw [hf2.2 50 (by decide)]; exact h50) (by rw [hf2.2 50 (by decide)]; exact hpos) (by rw [hd2.1]; decide) (k0 (by omega) σ2 (by rw [hR]; exact hd2) hf2) _ _)
theorem lp_m51 {σ : mk_S} {os rs : List (List Int)} {Q : Option mm_V → mm_H → Prop} (hx : mLx σ os rs) (h43 : σ 55 43 = (os.length : Int)) (hn : 1 ≤ os.length) (h50 : 0 ≤ σ 55 50 ∧ σ 55 50 ≤ 8000) (hpos : 0 ≤ σ 55 50 - (if 1 < os.length ∧ (rs.getD (os.length - 1) []).length = 0 then 1 else 0)) (hf : σ 55 37 = 0)
    (k1 : p51 (rs.length - 1) rs 0 = -1 → ∀ a2, mm_X 184 92 [vP 55, vI 0, a2] [] (hp L σ) Q) (k0 : 0 ≤ p51 (rs.length - 1) rs 0 → ∀ σ', mD σ' 51 (p51 (rs.length - 1) rs 0) 0 → mf [] [37, 38, 39] σ σ' → Q none (hp L σ')) : ∀ (k j : Nat) (a2 : mm_V), j + k = rs.length → p51 (rs.length - 1) rs 0 = p51 (rs.length - 1) (rs.drop j) j → mm_X 184 33 [vP 55, vI (j : Nat), a2] [] (hp L σ) Q := by
  intro k
  have hx1 := hx.1
  have h3 := hx.2.2.1
  induction k with
  | zero =>
    intro j a2 hj hR
    have ej : j = rs.length := by omega
    subst ej
    rw [List.drop_length] at hR
    simp only [p51] at hR
    have k1 := k1 hR
    refine r_iload_n c_184_33 rfl <| r_aload_n c_184_34 rfl <| r_getf_i c_184_35 rfl rfl <| r_icmp_ge c_184_38 (fun h38 => ?_) <| (fun h38 => ?_)
    · refine r_iconst c_184_90 <| r_istore_n_3_1 c_184_91 rfl <| ?_
      exact k1 _
    · exact absurd (show False by omega) (by decide)
  | succ k ih =>
    intro j a2 hj hR
    rw [drs_at (by omega)] at hR
    simp only [p51] at hR
    have x83 := (hx.2.2.2 j (by omega)).2.1
    have h0 := plN_0 (x := rs.getD j [])
    have step : ¬ ((plN (rs.getD j [])).length = 0 ∧ (j < rs.length - 1 ∨ rs.length - 1 = 0)) → ∀ b2, mm_X 184 33 [vP 55, vI ((j : Int) + 1), b2] [] (hp L σ) Q := by
      intro h b2
      rw [if_neg h] at hR
      exact ih (j + 1) _ (by omega) hR
    have stop : ((plN (rs.getD j [])).length = 0 ∧ (j < rs.length - 1 ∨ rs.length - 1 = 0)) → ∀ σ2 b2, mD σ2 51 j 0 → mf [] [37, 38, 39] σ σ2 → mm_X 184 33 [vP 55, vI ((j : Int) + 1), b2] [] (hp L σ2) Q := by
      intro h σ2 b2 hd2 hf2
      rw [if_pos h] at hR
      exact mp_f33 (hx.mf hf2 (by decide)) (by rw [hf2.2 43 (by decide)]; exact h43) hn (by rw [hf2.2 50 (by decide)]; exact h50) (by rw [hf2.2 50 (by decide)]; exact hpos) (by rw [hd2.1]; decide) (k0 (by omega) σ2 (by rw [hR]; exact hd2) hf2) _ _
    clear hR ih k0 k1
    refine r_iload_n c_184_33 rfl <| r_aload_n c_184_34 rfl <| r_getf_i c_184_35 rfl rfl <| r_icmp_ge c_184_38 (fun h38 => ?_) <| (fun h38 => ?_)
    · refine r_iconst c_184_90 <| r_istore_n_3_1 c_184_91 rfl <| ?_
      first | exact absurd hf (by assumption) | exact absurd (show False by omega) (by decide)
    · refine r_aload_n c_184_41 rfl <| r_getf_i c_184_42 rfl rfl <| r_if_ne c_184_45 (fun h45 => ?_) <| (fun h45 => ?_)
      · refine r_iconst c_184_90 <| r_istore_n_3_1 c_184_91 rfl <| ?_
        first | exact absurd hf (by assumption) | exact absurd (show False by omega) (by decide)
      · refine r_aload_n c_184_48 rfl <| r_getf_a c_184_49 rfl rfl <| r_iload_n c_184_52 rfl <| r_iald c_184_53 rfl (Or.inl rfl) (jn := j) (by omega) (by omega) <| ?_
        rw [x83]
        refine r_if_ne c_184_54 (fun h54 => ?_) <| (fun h54 => ?_)
        · refine r_iinc_3_1 c_184_84 rfl (by omega) <| r_goto c_184_87 <| ?_
          first
          | exact stop (by omega) σ2 _ hd2 hf2
          | exact step (by omega) _
        · refine r_iload_n c_184_57 rfl <| r_iconst c_184_58 <| r_iadd c_184_59 (by omega) <| r_aload_n c_184_60 rfl <| r_getf_i c_184_61 rfl rfl <| r_icmp_lt c_184_64 (fun h64 => ?_) <| (fun h64 => ?_)
          · refine r_aload_n c_184_75 rfl <| r_bipush c_184_76 <| r_iload_n c_184_78 rfl <| r_iconst c_184_79 <| r_cV3 c_184_80 rfl (Nat.le_of_ble_eq_true rfl) <| ?_
            refine ct_wrong _ _ _ hf (fun σ2 hd2 hf2 => ?_)
            refine r_istore_n_3_2 c_184_83 rfl <| r_iinc_3_1 c_184_84 rfl (by omega) <| r_goto c_184_87 <| ?_
            first
            | exact stop (by omega) σ2 _ hd2 hf2
            | exact step (by omega) _
          · refine r_aload_n c_184_67 rfl <| r_getf_i c_184_68 rfl rfl <| r_iconst c_184_71 <| r_icmp_ne c_184_72 (fun h72 => ?_) <| (fun h72 => ?_)
            · refine r_iinc_3_1 c_184_84 rfl (by omega) <| r_goto c_184_87 <| ?_
              first
              | exact stop (by omega) σ2 _ hd2 hf2
              | exact step (by omega) _
            · refine r_aload_n c_184_75 rfl <| r_bipush c_184_76 <| r_iload_n c_184_78 rfl <| r_iconst c_184_79 <| r_cV3 c_184_80 rfl (Nat.le_of_ble_eq_true rfl) <| ?_
              refine ct_wrong _ _ _ hf (fun σ2 hd2 hf2 => ?_)
              refine r_istore_n_3_2 c_184_83 rfl <| r_iinc_3_1 c_184_84 rfl (by omega) <| r_goto c_184_87 <| ?_
              first
              | exact stop (by omega) σ2 _ hd2 hf2
              | exact step (by omega) _
theorem outF_pre (F : List Int → List Int) : ∀ (a b : List (List Int)) (i : Nat), (outF F a i).length ≤ (outF F (a ++ b) i).length
  | [], b, i => Nat.zero_le _
  | x :: xs, b, i => by simp only [List.cons_append, outF, List.length_append]; have := outF_pre F xs b (i + 1); omega
theorem ptot_pos {ls : List (List Int)} : 0 ≤ ptot ls := by
  unfold ptot
  split
  · next h =>
    obtain ⟨h1, -⟩ := h
    have : 1 ≤ (outF plN ls 0).length := by
      match ls, h1 with
      | x :: y :: r, _ => simp only [outF, List.length_append, Nat.zero_add]; rw [if_pos (by decide : 0 < 1)]; simp only [List.length_cons]; omega
    omega
  · omega
theorem ct_mplain {σ : mk_S} {os rs : List (List Int)} {Q : Option mm_V → mm_H → Prop} (hpl : ∀ y, y ∈ rs → pts y) (hsz : rs.flatten.length + rs.length ≤ 301) (hn : 1 ≤ os.length) (hx : mLx σ os rs) (h43 : σ 55 43 = (os.length : Int)) (ho : mDr σ []) (f37 : σ 55 37 = 0)
    (k1 : (PL rs).1 = 0 → ∀ σ', mDr σ' (outF plN rs 0) → mf [78, 85, 87] [34, 50] σ σ' → Q none (hp L σ')) (k0 : (PL rs).1 ≠ 0 → ∀ σ', mD σ' (PL rs).1 (PL rs).2.1 (PL rs).2.2 → mf [78, 85, 87] [34, 50, 37, 38, 39] σ σ' → Q none (hp L σ')) : mm_call 184 [vP 55] (hp L σ) Q := by
  have hx1 := hx.1
  have h3 := hx.2.2.1
  have hall := outP_len rs 0 hpl (by omega)
  have ho1 := p51_or (last := rs.length - 1) rs 0
  have ho2 := p52_or rs 0
  have hpos := ptot_pos (ls := rs)
  have hl0 := plN_0 (x := rs.getD (rs.length - 1) [])
  unfold PL at k1 k0
  -- after the labels are written
  have rest : ∀ σ1, mLx σ1 os rs → σ1 55 43 = (os.length : Int) → σ1 55 37 = 0 → mDr σ1 (outF plN rs 0) → mf [78, 85, 87] [34, 50] σ σ1 → (∀ j, j < rs.length → σ1 87 j = ((plN (rs.getD j [])).length : Int)) → ∀ a2, mm_X 184 33 [vP 55, vI 0, a2] [] (hp L σ1) Q := by
    intro σ1 g1 g2 g3 g4 g5 g6 a2
    have e50 := g4.1
    have e : (if 1 < os.length ∧ (rs.getD (os.length - 1) []).length = 0 then (1 : Int) else 0) = (if 1 < rs.length ∧ (plN (rs.getD (rs.length - 1) [])).length = 0 then 1 else 0) := by
      rw [← hx1]
      by_cases q : 1 < rs.length ∧ (rs.getD (rs.length - 1) []).length = 0
      · rw [if_pos q, if_pos ⟨q.1, hl0.2 q.2⟩]
      · rw [if_neg q, if_neg (fun h => q ⟨h.1, hl0.1 h.2⟩)]
    have et : σ1 55 50 - (if 1 < os.length ∧ (rs.getD (os.length - 1) []).length = 0 then (1 : Int) else 0) = ptot rs := by rw [e, e50]; rfl
    refine lp_m51 g1 g2 hn (by omega) (by rw [et]; exact hpos) g3 (fun h a2 => ?_) (fun h σ2 w1 w2 => ?_) rs.length 0 _ (by omega) (by rw [List.drop_zero])
    · rw [if_neg (by omega)] at k1 k0
      refine lp_m52 g1 g2 hn (by omega) (by rw [et]; exact hpos) g3 g6 (fun h a1 a2 => ?_) (fun h σ2 w1 w2 => ?_) rs.length 0 _ (by omega) (by rw [List.drop_zero])
      · rw [if_neg (by omega)] at k1 k0
        refine mp_tail g1 g2 hn (by omega) (fun hq => ?_) (fun _ hq σ2 w1 w2 => ?_) (by rw [et]; exact hpos) a1 a2
        · rw [et] at hq
          rw [if_neg (by omega)] at k1
          exact k1 rfl σ1 g4 g5
        · rw [et] at hq
          rw [if_pos (by omega)] at k0
          exact k0 (by simp) σ2 (by rw [hx1]; exact w1) ((g5.up (by decide) (by decide)).tr (w2.up (by decide) (by decide)))
      · rw [if_pos h] at k0
        exact k0 (by simp) σ2 w1 ((g5.up (by decide) (by decide)).tr (w2.up (by decide) (by decide)))
    · rw [if_pos h] at k0
      exact k0 (by simp) σ2 w1 ((g5.up (by decide) (by decide)).tr (w2.up (by decide) (by decide)))
  clear k1 k0
  have loop : ∀ (k i : Nat) (a2 : mm_V) (σ1 : mk_S), i + k = rs.length → mLx σ1 os rs → σ1 55 43 = (os.length : Int) → σ1 55 37 = 0 → mDr σ1 (outF plN (rs.take i) 0) → mf [78, 85, 87] [34, 50] σ σ1 → (∀ j, j < i → σ1 87 j = ((plN (rs.getD j [])).length : Int)) → mm_X 184 2 [vP 55, vI (i : Nat), a2] [] (hp L σ1) Q := by
    intro k
    induction k with
    | zero =>
      intro i a2 σ1 hi g1 g2 g3 g4 g5 g6
      have ei : i = rs.length := by omega
      subst ei
      rw [List.take_length] at g4
      refine r_iload_n c_184_2 rfl <| r_aload_n c_184_3 rfl <| r_getf_i c_184_4 rfl rfl <| r_icmp_ge c_184_7 (fun h7 => ?_) <| (fun h7 => ?_)
      · refine r_iconst c_184_31 <| r_istore_n_3_1 c_184_32 rfl <| ?_
        exact rest σ1 g1 g2 g3 g4 g5 g6 _
      · exact absurd (show False by omega) (by decide)
    | succ k ih =>
      intro i a2 σ1 hi g1 g2 g3 g4 g5 g6
      have hlt : i < rs.length := by omega
      have htl : (rs.take i).length = i := by rw [List.length_take]; omega
      have hstep : outF plN (rs.take (i + 1)) 0 = outF plN (rs.take i) 0 ++ ((if 0 < i then [46] else []) ++ plN (rs.getD i [])) := by rw [tks_at hlt, outF_snoc, htl, Nat.zero_add]
      have hpre := outF_pre plN (rs.take (i + 1)) (rs.drop (i + 1)) 0
      rw [List.take_append_drop, hstep] at hpre
      have hpx : pts (rs.getD i []) := hpl _ (by rw [List.getD_eq_getElem?_getD, List.getElem?_eq_getElem hlt]; exact List.getElem_mem hlt)
      have key : ∀ σ2, mf [85] [50] σ1 σ2 → mDr σ2 (outF plN (rs.take i) 0 ++ (if 0 < i then [46] else [])) → mm_X 184 20 [vP 55, vI (i : Nat), a2] [] (hp L σ2) Q := by
        intro σ2 w2 w3
        rw [← List.append_assoc] at hpre hstep
        refine r_aload_n c_184_20 rfl <| r_iload_n c_184_21 rfl <| r_cV1 c_184_22 rfl (Nat.le_of_ble_eq_true rfl) <| ?_
        refine ct_mpl (os := os) (rs := rs) hpx (by omega) (g1.mf w2 (by decide)) w3 (by omega) (fun σ3 u1 u2 u3 u4 => ?_)
        refine r_iinc_3_1 c_184_25 rfl (by omega) <| r_goto c_184_28 <| ?_
        have c3 : mf [78, 85, 87] [34, 50] σ1 σ3 := (w2.up (by decide) (by decide)).tr u4
        refine ih (i + 1) _ σ3 (by omega) (g1.mf c3 (by decide)) (by rw [c3.2 43 (by decide)]; exact g2) (by rw [c3.2 37 (by decide)]; exact g3) (by rw [hstep]; exact u1) (g5.tr c3) (fun j hj => ?_)
        by_cases q : j = i
        · subst q; exact u2
        · rw [u3 j q, w2.1 87 (by decide) (by decide)]; exact g6 j (by omega)
      refine r_iload_n c_184_2 rfl <| r_aload_n c_184_3 rfl <| r_getf_i c_184_4 rfl rfl <| r_icmp_ge c_184_7 (fun h7 => ?_) <| (fun h7 => ?_)
      · refine r_iconst c_184_31 <| r_istore_n_3_1 c_184_32 rfl <| ?_
        exact absurd (show False by omega) (by decide)
      · refine r_iload_n c_184_10 rfl <| r_if_le c_184_11 (fun h11 => ?_) <| (fun h11 => ?_)
        · first
          | exact key σ2 hf2 (by rw [if_pos (by omega)]; exact hl2)
          | exact key σ1 mf.rf (by rw [if_neg (by omega), List.append_nil]; exact g4)
        · refine r_aload_n c_184_14 rfl <| r_bipush c_184_15 <| r_cV1 c_184_17 rfl (Nat.le_of_ble_eq_true rfl) <| ?_
          refine ct_oo g4 (by simp only [List.length_append] at hpre; rw [if_pos (by omega)] at hpre; simp only [List.length_cons, List.length_nil] at hpre; omega) _ (fun σ2 hl2 hf2 => ?_)
          first
          | exact key σ2 hf2 (by rw [if_pos (by omega)]; exact hl2)
          | exact key σ1 mf.rf (by rw [if_neg (by omega), List.append_nil]; exact g4)
  refine ⟨Nat.le_of_ble_eq_true rfl, ?_⟩
  show mm_X 184 0 [vP 55, mm_null, mm_null] [] _ _
  refine r_iconst c_184_0 <| r_istore_n_3_1 c_184_1 rfl <| ?_
  exact loop rs.length 0 _ σ (by omega) hx h43 f37 ho mf.rf (fun j hj => absurd hj (Nat.not_lt_zero j))
end MPLAIN2
