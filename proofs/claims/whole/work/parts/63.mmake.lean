/-! MAKE, whole: the model's side. -/
abbrev mkA : List Nat := [73, 80, 74, 75, 76, 81, 82, 83, 79, 78, 85, 87]
abbrev mkF : List Nat := [25, 26, 37, 38, 39, 40, 42, 28, 31, 43, 36, 50, 34]
theorem set_mid {ls os : List (List Int)} {i : Nat} {z : List Int} (h : ls.length = i) (hi : i < os.length) : (ls ++ os.drop i).set i z = (ls ++ [z]) ++ os.drop (i + 1) ∧ (ls ++ os.drop i).getD i [] = os.getD i [] := by
  subst h
  rw [drs_at hi]
  constructor
  · rw [List.set_append_right _ _ (Nat.le_refl _), Nat.sub_self, List.set_cons_zero]
    simp
  · rw [List.getD_eq_getElem?_getD, List.getElem?_append_right (Nat.le_refl _), Nat.sub_self]; rfl
section MMAKE
variable {L : Nat} {T : mk_S}
theorem lp_mml {os : List (List Int)} {kd : Int} {R : List (List Int) × Int × Int × Int} (hO : TOK T) (hps : ∀ y, y ∈ os → pts y) : ∀ (k i : Nat) (ls : List (List Int)) (σ : mk_S) (Q : Option mm_V → mm_H → Prop), i + k = os.length → ls.length = i → MT σ T → mLx σ os (ls ++ os.drop i) → σ 55 43 = (os.length : Int) → mD σ 0 0 0 → σ 55 40 = (i : Int) → R = lkG T (os.drop i) ls →
    (R.2.1 = 0 → ∀ σ' a2, mLx σ' os R.1 → mD σ' 0 0 0 → σ' 55 40 = (R.1.length : Int) → mf mkA [28, 31, 36, 40] σ σ' → mm_X 175 94 [vP 55, vI kd, a2] [] (hp L σ') Q) →
    (R.2.1 ≠ 0 → ∀ σ', mD σ' R.2.1 R.2.2.1 R.2.2.2 → σ' 55 40 = (R.1.length : Int) → mf mkA [28, 31, 36, 37, 38, 39, 40] σ σ' → Q none (hp L σ')) →
    mm_X 175 61 [vP 55, vI kd, vI (i : Nat)] [] (hp L σ) Q := by
  intro k
  induction k with
  | zero =>
    intro i ls σ Q hi hl hM hx h43 hD h40 hR k1 k0
    have ei : i = os.length := by omega
    subst ei
    rw [List.drop_length] at hR hx
    rw [List.append_nil] at hx
    simp only [lkG] at hR
    have k1 := k1 (by rw [hR]) σ (vI (os.length : Nat)) (by rw [hR]; exact hx) hD (by rw [hR, h40, hl]) mf.rf
    refine r_iload_n c_175_61 rfl <| r_aload_n c_175_62 rfl <| r_getf_i c_175_63 rfl rfl <| r_icmp_ge c_175_66 (fun h66 => ?_) <| (fun h66 => ?_)
    · exact k1
    · exact absurd (show False by omega) (by decide)
  | succ k ih =>
    intro i ls σ Q hi hl hM hx h43 hD h40 hR k1 k0
    have h3 := hx.2.2.1
    have hlt : i < os.length := by omega
    rw [drs_at hlt] at hR
    simp only [lkG] at hR
    have hpx : pts (os.getD i []) := hps _ (by rw [List.getD_eq_getElem?_getD, List.getElem?_eq_getElem hlt]; exact List.getElem_mem hlt)
    have hsm := fun z => set_mid (ls := ls) (os := os) (i := i) (z := z) hl hlt
    refine r_iload_n c_175_61 rfl <| r_aload_n c_175_62 rfl <| r_getf_i c_175_63 rfl rfl <| r_icmp_ge c_175_66 (fun h66 => ?_) <| (fun h66 => ?_)
    · exact absurd (show False by omega) (by decide)
    · refine r_aload_n c_175_69 rfl <| r_iload_n c_175_70 rfl <| r_cV1 c_175_71 rfl (Nat.le_of_ble_eq_true rfl) <| ?_
      refine ct_mlook hM hO hx hlt (hsm []).2 hpx hD.1 (fun g σ1 g1 g2 => ?_) (fun g σ1 g1 g2 => ?_)
      · refine r_if_ne c_175_74 (fun _ => ?_) <| (fun h => absurd h (by decide))
        refine r_aload_n c_175_78 rfl <| r_dup c_175_79 rfl <| r_getf_i c_175_80 rfl rfl <| ?_
        rw [g2.2 40 (by decide), h40]
        refine r_iconst c_175_83 <| r_iadd c_175_84 (by omega) <| r_putf c_175_85 rfl rfl <| r_iinc_3_2 c_175_88 rfl (by omega) <| r_goto c_175_91 <| ?_
        rw [if_neg (not_not_intro g)] at hR
        have c1 : mf mkA [28, 31, 36, 40] σ (sto σ1 55 40 ((i : Int) + 1)) := (g2.up (by decide) (by decide)).stF (by decide)
        rw [(hsm _).1] at g1
        refine ih (i + 1) _ _ Q (by omega) (by simp [hl]) (hM.mf c1 (by decide) (by decide)) (g1.mf (A := []) (F := [40]) (mf.rf.stF (by decide)) (by decide)) (by rw [c1.2 43 (by decide)]; exact h43) (hD.mf c1 (by decide)) (sto_get _ _ _ _) hR (fun w1 σ2 a2 w2 w3 w4 w5 => k1 w1 σ2 a2 w2 w3 w4 (c1.tr w5)) (fun w1 σ2 w2 w3 w4 => k0 w1 σ2 w2 w3 ((c1.up (by decide) (by decide)).tr w4))
      · refine r_if_ne c_175_74 (fun h => absurd h (by decide)) <| (fun _ => ?_)
        refine r_ret c_175_77 <| ?_
        rw [if_pos g] at hR
        rw [hR] at k0
        exact k0 g σ1 (by simp only [hl]; exact g1) (by rw [g2.2 40 (by decide), h40, hl]) (g2.up (by decide) (by decide))
theorem ct_makeAll {σ : mk_S} {t : List Int} {kd : Int} {Q : Option mm_V → mm_H → Prop} (hM : MT σ T) (hO : TOK T) (hot : octs t) (ht : mText σ t) (hD : mD σ 0 0 0) (h40 : σ 55 40 = 0) (h50 : σ 55 50 = 0)
    (k : ∀ σ', mD σ' (mkR T t kd).1.1 (mkR T t kd).1.2.1 (mkR T t kd).1.2.2 → σ' 55 40 = ((mkR T t kd).2.1 : Int) → ((mkR T t kd).1.1 = 0 → mDr σ' (mkR T t kd).2.2) → mf mkA mkF σ σ' → Q none (hp L σ')) : mm_call 175 [vP 55, vI kd] (hp L σ) Q := by
  have hrd := RD_pts hot
  unfold mkR at k
  refine ⟨Nat.le_of_ble_eq_true rfl, ?_⟩
  show mm_X 175 0 [vP 55, vI kd, mm_null] [] _ _
  refine r_aload_n c_175_0 rfl <| r_cV0 c_175_1 rfl (Nat.le_of_ble_eq_true rfl) <| ?_
  refine ct_mread hot ht (fun σ1 g1 g26 hf1 => ?_)
  have c1 : mf mkA mkF σ σ1 := hf1.up (by decide) (by decide)
  have hD1 := hD.mf hf1 (by decide)
  have e40 : σ1 55 40 = 0 := by rw [hf1.2 40 (by decide)]; exact h40
  have e50 : σ1 55 50 = 0 := by rw [hf1.2 50 (by decide)]; exact h50
  have hM1 := hM.mf hf1 (by decide) (by decide)
  refine r_aload_n c_175_4 rfl <| r_getf_i c_175_5 rfl rfl <| ?_
  rw [g26]
  refine r_iconst c_175_8 <| r_icmp_eq c_175_9 (fun h9 => ?_) <| (fun h9 => ?_)
  · rw [if_neg (not_not_intro (by omega))] at k
    refine r_aload_n c_175_47 rfl <| r_cV0 c_175_48 rfl (Nat.le_of_ble_eq_true rfl) <| ?_
    refine ct_mapAll hM1 hO hrd.1 hrd.2.1 g1 hD1.1 (fun g σ2 h1 h2 h3 h4 => ?_) (fun g σ2 h1 h2 => ?_)
    · refine r_if_ne c_175_51 (fun _ => ?_) <| (fun h => absurd h (by decide))
      rw [if_neg (not_not_intro g)] at k
      have hmk := mkM_pts hO hrd.1 g
      generalize (mkM T (RD t).1).1 = w at *
      have hsp := splF_out w [] hmk.1 pts_nil
      have hlk := lkF_out (T := T) w [] [] hmk.1 pts_nil (by simpa using hmk.2) (fun y hy => absurd hy (by simp))
      refine r_aload_n c_175_55 rfl <| r_cV0 c_175_56 rfl (Nat.le_of_ble_eq_true rfl) <| ?_
      refine ct_mpart hmk.2 hmk.1 h1 (fun σ3 h43 hx3 hf3 => ?_)
      refine r_iconst c_175_59 <| r_istore_n_3_2 c_175_60 rfl <| ?_
      have c3 : mf mkA mkF σ σ3 := (c1.tr (h4.up (by decide) (by decide))).tr (hf3.up (by decide) (by decide))
      have d3 : mf [80, 74, 75, 76, 81, 82, 83] [42, 28, 31, 43] σ1 σ3 := (h4.up (by decide) (by decide)).tr (hf3.up (by decide) (by decide))
      have hM3 := hM1.mf d3 (by decide) (by decide)
      rw [lkF_eq] at hlk k
      refine lp_mml (R := lkG T (splF w []) []) hO hsp.1 (splF w []).length 0 [] σ3 Q (by omega) rfl hM3 (by rw [List.drop_zero, List.nil_append]; exact hx3) h43 (hD1.mf d3 (by decide)) (by rw [d3.2 40 (by decide)]; exact e40) (by rw [List.drop_zero]) (fun w1 σ4 a2 w2 w3 w4 w5 => ?_) (fun w1 σ4 w2 w3 w4 => ?_)
      · rw [if_neg (not_not_intro w1)] at k
        generalize (lkG T (splF w []) []).1 = rs at *
        have c4 : mf mkA mkF σ σ4 := c3.tr (w5.up (by decide) (by decide))
        have hM4 := hM3.mf w5 (by decide) (by decide)
        have h43' : σ4 55 43 = ((splF w []).length : Int) := by rw [w5.2 43 (by decide)]; exact h43
        have e50' : σ4 55 50 = 0 := by rw [w5.2 50 (by decide), d3.2 50 (by decide)]; exact e50
        have hDr : mDr σ4 [] := ⟨by rw [e50']; rfl, fun i hi => absurd hi (Nat.not_lt_zero i)⟩
        have hsz : rs.flatten.length + rs.length ≤ 301 := by
          have := hlk.2.2.1
          simp only [List.flatten_nil, List.length_nil] at this
          omega
        refine r_aload_n c_175_94 rfl <| r_cV0 c_175_95 rfl (Nat.le_of_ble_eq_true rfl) <| ?_
        refine ct_mdirs hM4 hO w2 h43' w3.1 (fun gd => ?_) (fun gd σ5 u1 u2 => ?_)
        · refine r_if_ne c_175_98 (fun _ => ?_) <| (fun h => absurd h (by decide))
          rw [if_neg (by omega)] at k
          refine r_iload_n c_175_102 rfl <| r_if_eq c_175_103 (fun h103 => ?_) <| (fun h103 => ?_)
          · refine r_aload_n c_175_113 rfl <| r_cV0 c_175_114 rfl (Nat.le_of_ble_eq_true rfl) <| ?_
            refine ct_mwide hlk.1 hsz w2 h43' hDr (fun σ5 u1 u2 => ?_)
            refine r_ret c_175_117 <| ?_
            rw [if_pos (by assumption)] at k
            exact k σ5 (w3.mf u2 (by decide)) (by rw [u2.2 40 (by decide)]; exact w4) (fun _ => u1) (c4.tr (u2.up (by decide) (by decide)))
          · refine r_aload_n c_175_106 rfl <| r_cV0 c_175_107 rfl (Nat.le_of_ble_eq_true rfl) <| ?_
            have fin5 : ∀ σ5, Q none (hp L σ5) → mm_X 175 110 [vP 55, vI kd, a2] [] (hp L σ5) Q := by
              intro σ5 h5
              refine r_goto c_175_110 <| r_ret c_175_117 <| ?_
              exact h5
            rw [if_neg (by assumption)] at k
            exact ct_mplain hlk.1 hsz hsp.2.2 w2 h43' hDr w3.1 (fun gp σ5 u1 u2 => fin5 σ5 (by
              rw [if_neg (not_not_intro gp)] at k
              exact k σ5 (w3.mf u2 (by decide)) (by rw [u2.2 40 (by decide)]; exact w4) (fun _ => u1) (c4.tr (u2.up (by decide) (by decide))))) (fun gp σ5 u1 u2 => fin5 σ5 (by
              rw [if_pos gp] at k
              exact k σ5 u1 (by rw [u2.2 40 (by decide)]; exact w4) (fun h => absurd h gp) (c4.tr (u2.up (by decide) (by decide)))))
        · refine r_if_ne c_175_98 (fun h => absurd h (by decide)) <| (fun _ => ?_)
          refine r_ret c_175_101 <| ?_
          rw [if_pos gd] at k
          exact k σ5 u1 (by rw [u2.2 40 (by decide)]; exact w4) (fun h => absurd h (by simp)) (c4.tr (u2.up (by decide) (by decide)))
      · rw [if_pos w1] at k
        exact k σ4 w2 w3 (fun h => absurd h w1) (c3.tr (w4.up (by decide) (by decide)))
    · refine r_if_ne c_175_51 (fun h => absurd h (by decide)) <| (fun _ => ?_)
      refine r_ret c_175_54 <| ?_
      rw [if_pos g] at k
      exact k σ2 h1 (by rw [h2.2 40 (by decide)]; exact e40) (fun h => absurd h g) (c1.tr (h2.up (by decide) (by decide)))
  · refine r_aload_n c_175_12 rfl <| r_getf_i c_175_13 rfl rfl <| ?_
    rw [g26]
    refine r_bipush c_175_16 <| r_icmp_ne c_175_18 (fun h18 => ?_) <| (fun h18 => ?_)
    · refine r_aload_n c_175_34 rfl <| r_bipush c_175_35 <| r_iconst c_175_37 <| r_aload_n c_175_38 rfl <| r_getf_i c_175_39 rfl rfl <| ?_
      rw [g26]
      refine r_cV3 c_175_42 rfl (Nat.le_of_ble_eq_true rfl) <| ?_
      refine ct_wrong _ _ _ hD1.1 (fun σ2 hd2 hf2 => ?_)
      refine r_istore_n_3_2 c_175_45 rfl <| r_ret c_175_46 <| ?_
      rw [if_pos (by omega)] at k
      first
      | (rw [if_pos (by omega), if_pos (by omega)] at k
         exact k σ2 hd2 (by rw [hf2.2 40 (by decide)]; exact e40) (fun h => absurd h (by simp)) (c1.tr (hf2.up (by decide) (by decide))))
      | (rw [if_neg (by omega), if_neg (by omega)] at k
         exact k σ2 hd2 (by rw [hf2.2 40 (by decide)]; exact e40) (fun h => absurd h (by simp)) (c1.tr (hf2.up (by decide) (by decide))))
    · refine r_aload_n c_175_21 rfl <| r_bipush c_175_22 <| r_iconst c_175_24 <| r_sipush c_175_25 <| r_cV3 c_175_28 rfl (Nat.le_of_ble_eq_true rfl) <| ?_
      refine ct_wrong _ _ _ hD1.1 (fun σ2 hd2 hf2 => ?_)
      refine r_goto c_175_31 <| r_istore_n_3_2 c_175_45 rfl <| r_ret c_175_46 <| ?_
      rw [if_pos (by omega)] at k
      first
      | (rw [if_pos (by omega), if_pos (by omega)] at k
         exact k σ2 hd2 (by rw [hf2.2 40 (by decide)]; exact e40) (fun h => absurd h (by simp)) (c1.tr (hf2.up (by decide) (by decide))))
      | (rw [if_neg (by omega), if_neg (by omega)] at k
         exact k σ2 hd2 (by rw [hf2.2 40 (by decide)]; exact e40) (fun h => absurd h (by simp)) (c1.tr (hf2.up (by decide) (by decide))))
end MMAKE
