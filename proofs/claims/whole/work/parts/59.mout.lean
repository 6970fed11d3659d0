/-! MAKE: octets out, the model's side. -/
def mDr (σ : mk_S) (o : List Int) : Prop := σ 55 50 = (o.length : Int) ∧ ∀ i, i < o.length → σ 85 i = mm_w8 (o.getD i 0)
section MOUT
variable {L : Nat} {T : mk_S}
theorem ct_oo {σ : mk_S} {o : List Int} {Q : Option mm_V → mm_H → Prop} (hl : mDr σ o) (ho : o.length < 8000) (z : Int) (k : ∀ σ', mDr σ' (o ++ [z]) → mf [85] [50] σ σ' → Q none (hp L σ')) : mm_call 185 [vP 55, vI z] (hp L σ) Q := by
  have e1 := hl.1
  refine ⟨Nat.le_of_ble_eq_true rfl, ?_⟩
  show mm_X 185 0 [vP 55, vI z] [] _ _
  refine r_aload_n c_185_0 rfl <| r_getf_a c_185_1 rfl rfl <| r_aload_n c_185_4 rfl <| r_getf_i c_185_5 rfl rfl <| r_iload_n c_185_8 rfl <| r_i2b c_185_9 <| r_bast2 c_185_10 rfl (jn := o.length) (by omega) (by omega) <| r_aload_n c_185_11 rfl <| r_dup c_185_12 rfl <| r_getf_i c_185_13 rfl rfl <| ?_
  refine r_iconst c_185_16 <| r_iadd c_185_17 (by rw [sto_ne (by decide)]; omega) <| r_putf c_185_18 rfl rfl <| r_ret c_185_21 <| ?_
  refine k _ ⟨?_, fun i hi => ?_⟩ ((mf.rf.stA (a := 85) (by decide) (by decide)).stF (by decide))
  · rw [sto_get, sto_ne (by decide), e1, List.length_append]; rfl
  · rw [sto_ne (by decide), sto_at]
    rw [List.length_append] at hi
    simp only [List.length_cons, List.length_nil] at hi
    by_cases q : i = o.length
    · subst q; rw [st_at, gd_app_at]; exact w8w8 _
    · rw [st_ne q, gd_app (by omega)]; exact hl.2 i (by omega)
theorem ct_po {σ : mk_S} {o : List Int} {Q : Option mm_V → mm_H → Prop} (hl : mDr σ o) (p : Int) (hpt : isPt p) (h : (o ++ ocs p).length ≤ 8000) (k : ∀ σ', mDr σ' (o ++ ocs p) → mf [85] [50] σ σ' → Q none (hp L σ')) : mm_call 188 [vP 55, vI p] (hp L σ) Q := by
  unfold isPt at hpt
  unfold ocs at k h
  refine ⟨Nat.le_of_ble_eq_true rfl, ?_⟩
  show mm_X 188 0 [vP 55, vI p] [] _ _
  refine r_iload_n c_188_0 rfl <| r_sipush c_188_1 <| r_icmp_ge c_188_4 (fun h4 => ?_) <| (fun h4 => ?_)
  · rw [if_neg (by omega)] at k h
    refine r_iload_n c_188_15 rfl <| r_sipush c_188_16 <| r_icmp_ge c_188_19 (fun h19 => ?_) <| (fun h19 => ?_)
    · rw [if_neg (by omega)] at k h
      refine r_iload_n c_188_49 rfl <| r_ldc_w c_188_50 <| r_icmp_ge c_188_53 (fun h53 => ?_) <| (fun h53 => ?_)
      · rw [if_neg (by omega)] at k h
        simp only [List.length_append, List.length_cons, List.length_nil] at h
        refine r_aload_n c_188_98 rfl <| r_sipush c_188_99 <| r_iload_n c_188_102 rfl <| r_bipush c_188_103 <| r_ishr c_188_105 (bs_shr18 (by omega)) <| r_ior c_188_106 (bs_or240 (by omega)) <| r_cV1 c_188_107 rfl (Nat.le_of_ble_eq_true rfl) <| ?_
        refine ct_oo hl (by omega) _ (fun σ1 hl1 hf1 => ?_)
        refine r_aload_n c_188_110 rfl <| r_sipush c_188_111 <| r_iload_n c_188_114 rfl <| r_bipush c_188_115 <| r_ishr c_188_117 (bs_shr12 (by omega)) <| r_bipush c_188_118 <| r_iand c_188_120 (bs_mask6 (by omega)) <| r_ior c_188_121 (bs_or128 (by omega)) <| r_cV1 c_188_122 rfl (Nat.le_of_ble_eq_true rfl) <| ?_
        refine ct_oo hl1 (by simp only [List.length_append, List.length_cons, List.length_nil]; omega) _ (fun σ2 hl2 hf2 => ?_)
        refine r_aload_n c_188_125 rfl <| r_sipush c_188_126 <| r_iload_n c_188_129 rfl <| r_bipush c_188_130 <| r_ishr c_188_132 (bs_shr6 (by omega)) <| r_bipush c_188_133 <| r_iand c_188_135 (bs_mask6 (by omega)) <| r_ior c_188_136 (bs_or128 (by omega)) <| r_cV1 c_188_137 rfl (Nat.le_of_ble_eq_true rfl) <| ?_
        refine ct_oo hl2 (by simp only [List.length_append, List.length_cons, List.length_nil]; omega) _ (fun σ3 hl3 hf3 => ?_)
        refine r_aload_n c_188_140 rfl <| r_sipush c_188_141 <| r_iload_n c_188_144 rfl <| r_bipush c_188_145 <| r_iand c_188_147 (bs_mask6 (by omega)) <| r_ior c_188_148 (bs_or128 (by omega)) <| r_cV1 c_188_149 rfl (Nat.le_of_ble_eq_true rfl) <| ?_
        refine ct_oo hl3 (by simp only [List.length_append, List.length_cons, List.length_nil]; omega) _ (fun σ4 hl4 hf4 => ?_)
        refine r_ret c_188_152 <| ?_
        first
        | exact k σ4 (by simpa using hl4) (((hf1.tr hf2).tr hf3).tr hf4)
        | exact k σ3 (by simpa using hl3) ((hf1.tr hf2).tr hf3)
        | exact k σ2 (by simpa using hl2) (hf1.tr hf2)
        | exact k σ1 (by simpa using hl1) hf1
      · rw [if_pos (by omega)] at k h
        simp only [List.length_append, List.length_cons, List.length_nil] at h
        refine r_aload_n c_188_56 rfl <| r_sipush c_188_57 <| r_iload_n c_188_60 rfl <| r_bipush c_188_61 <| r_ishr c_188_63 (bs_shr12 (by omega)) <| r_ior c_188_64 (bs_or224 (by omega)) <| r_cV1 c_188_65 rfl (Nat.le_of_ble_eq_true rfl) <| ?_
        refine ct_oo hl (by omega) _ (fun σ1 hl1 hf1 => ?_)
        refine r_aload_n c_188_68 rfl <| r_sipush c_188_69 <| r_iload_n c_188_72 rfl <| r_bipush c_188_73 <| r_ishr c_188_75 (bs_shr6 (by omega)) <| r_bipush c_188_76 <| r_iand c_188_78 (bs_mask6 (by omega)) <| r_ior c_188_79 (bs_or128 (by omega)) <| r_cV1 c_188_80 rfl (Nat.le_of_ble_eq_true rfl) <| ?_
        refine ct_oo hl1 (by simp only [List.length_append, List.length_cons, List.length_nil]; omega) _ (fun σ2 hl2 hf2 => ?_)
        refine r_aload_n c_188_83 rfl <| r_sipush c_188_84 <| r_iload_n c_188_87 rfl <| r_bipush c_188_88 <| r_iand c_188_90 (bs_mask6 (by omega)) <| r_ior c_188_91 (bs_or128 (by omega)) <| r_cV1 c_188_92 rfl (Nat.le_of_ble_eq_true rfl) <| ?_
        refine ct_oo hl2 (by simp only [List.length_append, List.length_cons, List.length_nil]; omega) _ (fun σ3 hl3 hf3 => ?_)
        refine r_goto c_188_95 <| r_ret c_188_152 <| ?_
        first
        | exact k σ4 (by simpa using hl4) (((hf1.tr hf2).tr hf3).tr hf4)
        | exact k σ3 (by simpa using hl3) ((hf1.tr hf2).tr hf3)
        | exact k σ2 (by simpa using hl2) (hf1.tr hf2)
        | exact k σ1 (by simpa using hl1) hf1
    · rw [if_pos (by omega)] at k h
      simp only [List.length_append, List.length_cons, List.length_nil] at h
      refine r_aload_n c_188_22 rfl <| r_sipush c_188_23 <| r_iload_n c_188_26 rfl <| r_bipush c_188_27 <| r_ishr c_188_29 (bs_shr6 (by omega)) <| r_ior c_188_30 (bs_or192 (by omega)) <| r_cV1 c_188_31 rfl (Nat.le_of_ble_eq_true rfl) <| ?_
      refine ct_oo hl (by omega) _ (fun σ1 hl1 hf1 => ?_)
      refine r_aload_n c_188_34 rfl <| r_sipush c_188_35 <| r_iload_n c_188_38 rfl <| r_bipush c_188_39 <| r_iand c_188_41 (bs_mask6 (by omega)) <| r_ior c_188_42 (bs_or128 (by omega)) <| r_cV1 c_188_43 rfl (Nat.le_of_ble_eq_true rfl) <| ?_
      refine ct_oo hl1 (by simp only [List.length_append, List.length_cons, List.length_nil]; omega) _ (fun σ2 hl2 hf2 => ?_)
      refine r_goto c_188_46 <| r_ret c_188_152 <| ?_
      first
      | exact k σ4 (by simpa using hl4) (((hf1.tr hf2).tr hf3).tr hf4)
      | exact k σ3 (by simpa using hl3) ((hf1.tr hf2).tr hf3)
      | exact k σ2 (by simpa using hl2) (hf1.tr hf2)
      | exact k σ1 (by simpa using hl1) hf1
  · rw [if_pos (by omega)] at k h
    simp only [List.length_append, List.length_cons, List.length_nil] at h
    refine r_aload_n c_188_7 rfl <| r_iload_n c_188_8 rfl <| r_cV1 c_188_9 rfl (Nat.le_of_ble_eq_true rfl) <| ?_
    refine ct_oo hl (by omega) _ (fun σ1 hl1 hf1 => ?_)
    refine r_goto c_188_12 <| r_ret c_188_152 <| ?_
    first
    | exact k σ4 (by simpa using hl4) (((hf1.tr hf2).tr hf3).tr hf4)
    | exact k σ3 (by simpa using hl3) ((hf1.tr hf2).tr hf3)
    | exact k σ2 (by simpa using hl2) (hf1.tr hf2)
    | exact k σ1 (by simpa using hl1) hf1
theorem lp_mwi {os rs : List (List Int)} {i : Nat} (hpl : pts (rs.getD i [])) (hi : i < os.length) : ∀ (k j : Nat) (o : List Int) (σ : mk_S) (Q : Option mm_V → mm_H → Prop), j + k = (rs.getD i []).length → mLx σ os rs → mDr σ o → (o ++ wdN ((rs.getD i []).drop j)).length ≤ 8000 →
    (∀ σ' a2, mDr σ' (o ++ wdN ((rs.getD i []).drop j)) → mf [85] [50] σ σ' → mm_X 187 55 [vP 55, vI (i : Nat), a2] [] (hp L σ') Q) →
    mm_X 187 22 [vP 55, vI (i : Nat), vI (j : Nat)] [] (hp L σ) Q := by
  intro k
  induction k with
  | zero =>
    intro j o σ Q hj hx ho hle kk
    have h3 := hx.2.2.1
    have hxi := hx.2.2.2 i hi
    have x83 := hxi.2.1
    have ej : j = (rs.getD i []).length := by omega
    rw [ej, List.drop_length] at kk
    have kk := kk σ (vI j) (by simpa [wdN] using ho) mf.rf
    refine r_iload_n c_187_22 rfl <| r_aload_n c_187_23 rfl <| r_getf_a c_187_24 rfl rfl <| r_iload_n c_187_27 rfl <| r_iald c_187_28 rfl (Or.inl rfl) rfl (by omega) <| ?_
    rw [x83]
    refine r_icmp_ge c_187_29 (fun h29 => ?_) <| (fun h29 => ?_)
    · exact kk
    · exact absurd (show False by omega) (by decide)
  | succ k ih =>
    intro j o σ Q hj hx ho hle kk
    have h3 := hx.2.2.1
    have h2 := hx.2.1
    have hof := ofs_fit hi
    obtain ⟨x82, x83, xle, xsg⟩ := hx.2.2.2 i hi
    have hxj := xsg j (by omega)
    have hpt := hpl j (by omega)
    rw [drop_at (by omega)] at kk hle
    unfold wdN at kk hle
    rw [List.flatMap_cons, ← List.append_assoc] at kk hle
    refine r_iload_n c_187_22 rfl <| r_aload_n c_187_23 rfl <| r_getf_a c_187_24 rfl rfl <| r_iload_n c_187_27 rfl <| r_iald c_187_28 rfl (Or.inl rfl) rfl (by omega) <| ?_
    rw [x83]
    refine r_icmp_ge c_187_29 (fun h29 => ?_) <| (fun h29 => ?_)
    · exact absurd (show False by omega) (by decide)
    · refine r_aload_n c_187_32 rfl <| r_aload_n c_187_33 rfl <| r_getf_a c_187_34 rfl rfl <| r_aload_n c_187_37 rfl <| r_getf_a c_187_38 rfl rfl <| r_iload_n c_187_41 rfl <| r_iald c_187_42 rfl (Or.inl rfl) rfl (by omega) <| ?_
      rw [x82]
      refine r_iload_n c_187_43 rfl <| r_iadd c_187_44 (by omega) <| r_iald c_187_45 rfl (Or.inl rfl) (jn := ofs os i + j) (by omega) (by omega) <| ?_
      rw [hxj]
      refine r_cV1 c_187_46 rfl (Nat.le_of_ble_eq_true rfl) <| ?_
      refine ct_po ho _ hpt (by simp only [List.length_append] at hle ⊢; omega) (fun σ1 hl1 hf1 => ?_)
      refine r_iinc_3_2 c_187_49 rfl (by omega) <| r_goto c_187_52 <| ?_
      exact ih (j + 1) _ σ1 Q (by omega) (hx.mf hf1 (by decide)) hl1 hle (fun σ2 a2 w1 w2 => kk σ2 a2 w1 (hf1.tr w2))
theorem lp_mwo {os rs : List (List Int)} (hpl : ∀ y, y ∈ rs → pts y) (hsz : (outF wdN rs 0).length ≤ 8000) : ∀ (k i : Nat) (a2 : mm_V) (σ : mk_S) (Q : Option mm_V → mm_H → Prop), i + k = os.length → mLx σ os rs → σ 55 43 = (os.length : Int) → mDr σ (outF wdN (rs.take i) 0) →
    (∀ σ', mDr σ' (outF wdN rs 0) → mf [85] [50] σ σ' → Q none (hp L σ')) →
    mm_X 187 2 [vP 55, vI (i : Nat), a2] [] (hp L σ) Q := by
  intro k
  induction k with
  | zero =>
    intro i a2 σ Q hi hx h43 ho kk
    have hx1 := hx.1
    rw [show i = rs.length by omega, List.take_length] at ho
    refine r_iload_n c_187_2 rfl <| r_aload_n c_187_3 rfl <| r_getf_i c_187_4 rfl rfl <| r_icmp_ge c_187_7 (fun h7 => ?_) <| (fun h7 => ?_)
    · refine r_ret c_187_61 <| ?_
      exact kk σ ho mf.rf
    · exact absurd (show False by omega) (by decide)
  | succ k ih =>
    intro i a2 σ Q hi hx h43 ho kk
    have hx1 := hx.1
    have h3 := hx.2.2.1
    have hlt : i < rs.length := by omega
    have htl : (rs.take i).length = i := by rw [List.length_take]; omega
    have hstep : outF wdN (rs.take (i + 1)) 0 = outF wdN (rs.take i) 0 ++ ((if 0 < i then [46] else []) ++ wdN (rs.getD i [])) := by rw [tks_at hlt, outF_snoc, htl, Nat.zero_add]
    have hpre : (outF wdN (rs.take (i + 1)) 0).length ≤ 8000 := by
      have aux : ∀ (a b : List (List Int)) (i : Nat), (outF wdN a i).length ≤ (outF wdN (a ++ b) i).length := by
        intro a
        induction a with
        | nil => intro b i; exact Nat.zero_le _
        | cons x xs ihx => intro b i; simp only [List.cons_append, outF, List.length_append]; have := ihx b (i + 1); omega
      have := aux (rs.take (i + 1)) (rs.drop (i + 1)) 0
      rw [List.take_append_drop] at this
      omega
    have hpx : pts (rs.getD i []) := hpl _ (by rw [List.getD_eq_getElem?_getD, List.getElem?_eq_getElem hlt]; exact List.getElem_mem hlt)
    rw [hstep] at hpre
    have key : ∀ σ1, mf [85] [50] σ σ1 → mDr σ1 (outF wdN (rs.take i) 0 ++ (if 0 < i then [46] else [])) → mm_X 187 20 [vP 55, vI (i : Nat), a2] [] (hp L σ1) Q := by
      intro σ1 g2 g3
      rw [← List.append_assoc] at hpre hstep
      refine r_iconst c_187_20 <| r_istore_n_3_2 c_187_21 rfl <| ?_
      refine lp_mwi hpx (by omega) (rs.getD i []).length 0 _ σ1 Q (by omega) (hx.mf g2 (by decide)) g3 (by rw [List.drop_zero]; exact hpre) (fun σ2 b2 w1 w2 => ?_)
      rw [List.drop_zero, ← hstep] at w1
      have c2 := g2.tr w2
      refine r_iinc_3_1 c_187_55 rfl (by omega) <| r_goto c_187_58 <| ?_
      exact ih (i + 1) _ σ2 Q (by omega) (hx.mf c2 (by decide)) (by rw [c2.2 43 (by decide)]; exact h43) w1 (fun σ3 u1 u2 => kk σ3 u1 (c2.tr u2))
    refine r_iload_n c_187_2 rfl <| r_aload_n c_187_3 rfl <| r_getf_i c_187_4 rfl rfl <| r_icmp_ge c_187_7 (fun h7 => ?_) <| (fun h7 => ?_)
    · exact absurd (show False by omega) (by decide)
    · refine r_iload_n c_187_10 rfl <| r_if_le c_187_11 (fun h11 => ?_) <| (fun h11 => ?_)
      · first
        | exact key σ1 hf1 (by rw [if_pos (by omega)]; exact hl1)
        | exact key σ mf.rf (by rw [if_neg (by omega), List.append_nil]; exact ho)
      · refine r_aload_n c_187_14 rfl <| r_bipush c_187_15 <| r_cV1 c_187_17 rfl (Nat.le_of_ble_eq_true rfl) <| ?_
        refine ct_oo ho (by simp only [List.length_append] at hpre; rw [if_pos (by omega)] at hpre; simp only [List.length_cons, List.length_nil] at hpre; omega) _ (fun σ1 hl1 hf1 => ?_)
        first
        | exact key σ1 hf1 (by rw [if_pos (by omega)]; exact hl1)
        | exact key σ mf.rf (by rw [if_neg (by omega), List.append_nil]; exact ho)
theorem ct_mwide {σ : mk_S} {os rs : List (List Int)} {Q : Option mm_V → mm_H → Prop} (hpl : ∀ y, y ∈ rs → pts y) (hsz : rs.flatten.length + rs.length ≤ 301) (hx : mLx σ os rs) (h43 : σ 55 43 = (os.length : Int)) (ho : mDr σ []) (k : ∀ σ', mDr σ' (outF wdN rs 0) → mf [85] [50] σ σ' → Q none (hp L σ')) : mm_call 187 [vP 55] (hp L σ) Q := by
  have hl := outW_len0 rs
  refine ⟨Nat.le_of_ble_eq_true rfl, ?_⟩
  show mm_X 187 0 [vP 55, mm_null, mm_null] [] _ _
  refine r_iconst c_187_0 <| r_istore_n_3_1 c_187_1 rfl <| ?_
  exact lp_mwo hpl (by omega) os.length 0 _ σ Q (by omega) hx h43 ho k
end MOUT
