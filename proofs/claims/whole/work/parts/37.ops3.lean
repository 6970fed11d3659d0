/-! alike of the reference; encode and decode begin. -/
section OPS3
variable {L : Nat} {T : mk_S} {Q : Option mm_V → mm_H → Prop}
theorem lp_malc {l : List Int} (hll : l.length ≤ 300) : ∀ (k i : Nat) (σ : mk_S) (a3 : mm_V) (Q : Option mm_V → mm_H → Prop), l.length + 1 ≤ i + k → i ≤ l.length → arr σ 74 l → (∀ j, j < i → σ 77 j = l.getD j 0) →
    (∀ σ' i9, arr σ' 77 l → mf [77] [] σ σ' → mm_X 163 85 [vP 55, vI l.length, i9, a3] [] (hp L σ') Q) → mm_X 163 62 [vP 55, vI l.length, vI i, a3] [] (hp L σ) Q := by
  intro k
  induction k with
  | zero => intro i σ a3 Q h1 h2; omega
  | succ k ih =>
    intro i σ a3 Q hk hi hA hr kk
    refine r_iload_n c_163_62 rfl <| r_iload_n c_163_63 rfl <| r_icmp_ge c_163_64 (fun h64 => ?_) <| (fun h64 => ?_)
    · exact kk σ _ (fun j hj => hr j (by omega)) mf.rf
    · refine r_aload_n c_163_67 rfl <| r_getf_a c_163_68 rfl rfl <| r_iload_n c_163_71 rfl <| r_aload_n c_163_72 rfl <| r_getf_a c_163_73 rfl rfl <| r_iload_n c_163_76 rfl <| r_iald c_163_77 rfl (Or.inl rfl) rfl (by omega) <| r_iast c_163_78 rfl rfl (by omega) <| r_iinc_4_2 c_163_79 rfl (by omega) <| r_goto c_163_82 <| ?_
      have hfr : mf [77] [] σ (sto σ 77 i (σ 74 i)) := mf.rf.stA (by decide) (by decide)
      refine ih (i + 1) _ _ Q (by omega) (by omega) (hA.eq (sto_ne (by decide))) (fun j hj => ?_) (fun σ2 i9 g1 g2 => kk σ2 i9 g1 (hfr.tr g2))
      rw [sto_at]
      by_cases e : j = i
      · subst e; rw [st_at]; exact hA j (by omega)
      · rw [st_ne e]; exact hr j (by omega)
theorem lp_malx {l m : List Int} {σ : mk_S} (hlm : l.length = m.length) (hll : l.length ≤ 300) (h77 : arr σ 77 l) (h74 : arr σ 74 m) (kk : Q (some (vI (if l = m then 1 else 0))) (hp L σ)) : ∀ (k i : Nat) (s : Int), l.length + 1 ≤ i + k → i ≤ l.length → (s = 1 ∧ (∀ j, j < i → l.getD j 0 = m.getD j 0) ∨ s = 0 ∧ l ≠ m) →
    mm_X 163 120 [vP 55, vI l.length, vI s, vI i] [] (hp L σ) Q := by
  intro k
  induction k with
  | zero => intro i s h1 h2; omega
  | succ k ih =>
    intro i s hk hi hs
    refine r_iload_n c_163_120 rfl <| r_iload_n c_163_121 rfl <| r_icmp_ge c_163_122 (fun h122 => ?_) <| (fun h122 => ?_)
    · refine r_iload_n c_163_156 rfl <| r_if_eq c_163_157 (fun h157 => ?_) <| (fun h157 => ?_)
      · refine r_iconst c_163_164 <| r_iret c_163_165 <| ?_
        first
        | (have e : l = m := by
             have h9 := (hs.resolve_right (by omega)).2
             exact gd_ext hlm (fun j hj => h9 j (by omega))
           rw [if_pos e] at kk; exact kk)
        | (have e : l ≠ m := (hs.resolve_left (by omega)).2
           rw [if_neg e] at kk; exact kk)
      · refine r_iconst c_163_160 <| r_goto c_163_161 <| r_iret c_163_165 <| ?_
        first
        | (have e : l = m := by
             have h9 := (hs.resolve_right (by omega)).2
             exact gd_ext hlm (fun j hj => h9 j (by omega))
           rw [if_pos e] at kk; exact kk)
        | (have e : l ≠ m := (hs.resolve_left (by omega)).2
           rw [if_neg e] at kk; exact kk)
    · refine r_iload_n c_163_125 rfl <| r_if_eq c_163_126 (fun h126 => ?_) <| (fun h126 => ?_)
      · refine r_iload_n c_163_156 rfl <| r_if_eq c_163_157 (fun h157 => ?_) <| (fun h157 => ?_)
        · refine r_iconst c_163_164 <| r_iret c_163_165 <| ?_
          first
          | (have e : l = m := by
               have h9 := (hs.resolve_right (by omega)).2
               exact gd_ext hlm (fun j hj => h9 j (by omega))
             rw [if_pos e] at kk; exact kk)
          | (have e : l ≠ m := (hs.resolve_left (by omega)).2
             rw [if_neg e] at kk; exact kk)
        · refine r_iconst c_163_160 <| r_goto c_163_161 <| r_iret c_163_165 <| ?_
          first
          | (have e : l = m := by
               have h9 := (hs.resolve_right (by omega)).2
               exact gd_ext hlm (fun j hj => h9 j (by omega))
             rw [if_pos e] at kk; exact kk)
          | (have e : l ≠ m := (hs.resolve_left (by omega)).2
             rw [if_neg e] at kk; exact kk)
      · refine r_aload_n c_163_129 rfl <| r_getf_a c_163_130 rfl rfl <| r_iload_n c_163_133 rfl <| r_iald c_163_134 rfl (Or.inl rfl) (jn := i) rfl (by omega) <| r_aload_n c_163_135 rfl <| r_getf_a c_163_136 rfl rfl <| r_iload_n c_163_139 rfl <| r_iald c_163_140 rfl (Or.inl rfl) (jn := i) rfl (by omega) <| r_icmp_ne c_163_141 (fun h141 => ?_) <| (fun h141 => ?_)
        · refine r_iconst c_163_148 <| r_istore_n_4_2 c_163_149 rfl <| r_iinc_4_3 c_163_150 rfl (by omega) <| r_goto c_163_153 <| ?_
          first
          | (refine ih (i + 1) 1 (by omega) (by omega) (Or.inl ⟨rfl, fun j hj => ?_⟩)
             by_cases e : j = i
             · subst e; rw [← h77 j (by omega), ← h74 j (by omega)]; assumption
             · exact (hs.resolve_right (by omega)).2 j (by omega))
          | (refine ih (i + 1) 0 (by omega) (by omega) (Or.inr ⟨rfl, fun e => ?_⟩)
             have q := h77 i (by omega)
             have q2 := h74 i (by omega)
             rw [e] at q
             omega)
        · refine r_iconst c_163_144 <| r_goto c_163_145 <| r_istore_n_4_2 c_163_149 rfl <| r_iinc_4_3 c_163_150 rfl (by omega) <| r_goto c_163_153 <| ?_
          first
          | (refine ih (i + 1) 1 (by omega) (by omega) (Or.inl ⟨rfl, fun j hj => ?_⟩)
             by_cases e : j = i
             · subst e; rw [← h77 j (by omega), ← h74 j (by omega)]; assumption
             · exact (hs.resolve_right (by omega)).2 j (by omega))
          | (refine ih (i + 1) 0 (by omega) (by omega) (Or.inr ⟨rfl, fun e => ?_⟩)
             have q := h77 i (by omega)
             have q2 := h74 i (by omega)
             rw [e] at q
             omega)
theorem ct_malike {σ : mk_S} {t w : List Int} (hM : MT σ T) (hO : TOK T) (hot : octs t) (ht : mText σ t) (hw : mRow σ w) (k : ∀ σ', mf [73, 74, 75, 77] [0, 25, 26, 28] σ σ' → Q (some (vI (alikN T t w))) (hp L σ')) : mm_call 163 [vP 55] (hp L σ) Q := by
  have hR := RD_pts hot
  have hle := ht.2.1
  have hwl := hw.2.1
  have f0 : mf [73, 74, 75, 77] [0, 25, 26, 28] σ (sto σ 55 0 0) := mf.rf.stF (by decide)
  refine ⟨Nat.le_of_ble_eq_true rfl, ?_⟩
  show mm_X 163 0 [vP 55, mm_null, mm_null, mm_null] [] _ _
  refine r_aload_n c_163_0 rfl <| r_iconst c_163_1 <| r_putf c_163_2 rfl rfl <| r_aload_n c_163_5 rfl <| r_cV0 c_163_6 rfl (Nat.le_of_ble_eq_true rfl) <| ?_
  refine ct_mread hot (ht.eq (sto_get2 (Or.inr (by decide))) (sto_ne (by decide))) (fun σ1 hg1 ho1 hf1 => ?_)
  have hf1 := f0.tr (hf1.up (by decide) (by decide))
  have hM1 := hM.mf hf1 (by decide) (by decide)
  have eg := hg1.1
  refine r_aload_n c_163_9 rfl <| r_getf_i c_163_10 rfl rfl <| r_bipush c_163_13 <| r_icmp_ne c_163_15 (fun h15 => ?_) <| (fun h15 => ?_)
  · refine r_aload_n c_163_21 rfl <| r_getf_i c_163_22 rfl rfl <| r_if_lt c_163_25 (fun h25 => ?_) <| (fun h25 => ?_)
    · refine r_aload_n c_163_36 rfl <| r_aload_n c_163_37 rfl <| r_getf_a c_163_38 rfl rfl <| r_iconst c_163_41 <| r_aload_n c_163_42 rfl <| r_getf_i c_163_43 rfl rfl <| ?_
      rw [eg]
      refine r_cV3 c_163_46 rfl (Nat.le_of_ble_eq_true rfl) <| ?_
      refine ct_mapart (ra := 73) (na := 400) (at0 := 0) hM1 hO rfl (by decide) (by omega) (by decide) (fun j hj => by rw [Nat.zero_add]; exact hg1.2 j hj) (fun hlen σ2 hA2 hf2 => ?_) (fun hlen σ2 hf2 => ?_)
      · refine r_if_ne c_163_49 (fun _ => ?_) <| (fun h => absurd h (by decide))
        refine r_aload_n c_163_55 rfl <| r_getf_i c_163_56 rfl rfl <| r_istore_n_4_1 c_163_59 rfl <| r_iconst c_163_60 <| r_istore_n_4_2 c_163_61 rfl <| ?_
        have hal := ap_len T (RD t).1
        rw [hA2.1]
        refine lp_malc (l := ap T (RD t).1) (by omega) ((ap T (RD t).1).length + 1) 0 σ2 _ Q (by omega) (by omega) hA2.2 (fun j hj => absurd hj (Nat.not_lt_zero j)) (fun σ3 i9 h77 hf3 => ?_)
        have hf123 : mf [73, 74, 75, 77] [0, 25, 26, 28] σ σ3 := (hf1.tr (hf2.up (by decide) (by decide))).tr (hf3.up (by decide) (by decide))
        have hw3 := hw.mf hf123 (by decide) (by decide)
        have hM3 := hM.mf hf123 (by decide) (by decide)
        refine r_aload_n c_163_85 rfl <| r_aload_n c_163_86 rfl <| r_getf_a c_163_87 rfl rfl <| r_iconst c_163_90 <| r_aload_n c_163_91 rfl <| r_getf_i c_163_92 rfl rfl <| ?_
        rw [hw3.1]
        refine r_cV3 c_163_95 rfl (Nat.le_of_ble_eq_true rfl) <| ?_
        refine ct_mapart (ra := 57) (na := 300) (at0 := 0) hM3 hO rfl (by decide) (by omega) (by decide) (fun j hj => by rw [Nat.zero_add]; exact hw3.2.2 j hj) (fun hlen4 σ4 hA4 hf4 => ?_) (fun hlen4 σ4 hf4 => ?_)
        · refine r_if_ne c_163_98 (fun _ => ?_) <| (fun h => absurd h (by decide))
          refine r_iload_n c_163_104 rfl <| r_aload_n c_163_105 rfl <| r_getf_i c_163_106 rfl rfl <| r_icmp_ne c_163_109 (fun h109 => ?_) <| (fun h109 => ?_)
          · refine r_iconst c_163_116 <| r_istore_n_4_2 c_163_117 rfl <| r_iconst c_163_118 <| r_istore_n_4_3 c_163_119 rfl <| ?_
            have e9 : alikN T t w = if ap T (RD t).1 = ap T w then 1 else 0 := by
              unfold alikN
              rw [if_neg (by omega), if_neg (by omega), if_neg (by omega)]
              by_cases e : ap T w = ap T (RD t).1
              · rw [if_pos e, if_pos e.symm]
              · rw [if_neg e, if_neg (fun q => e q.symm)]
            have e74 := hA4.1
            first
            | (have hlm : (ap T (RD t).1).length = (ap T w).length := by omega
               exact lp_malx hlm (by omega) (h77.eq (hf4.1 77 (by decide) (by decide))) hA4.2 (by rw [← e9]; exact k σ4 (hf123.tr (hf4.up (by decide) (by decide)))) ((ap T (RD t).1).length + 1) 0 1 (by omega) (by omega) (Or.inl ⟨rfl, fun j hj => absurd hj (Nat.not_lt_zero j)⟩))
            | (have hlm : (ap T (RD t).1).length ≠ (ap T w).length := by omega
               have hne : ap T (RD t).1 ≠ ap T w := fun q => hlm (by rw [q])
               rw [if_neg hne] at e9
               refine r_iload_n c_163_120 rfl <| r_iload_n c_163_121 rfl <| r_icmp_ge c_163_122 (fun h122 => ?_) <| (fun h122 => ?_)
               · refine r_iload_n c_163_156 rfl <| r_if_eq c_163_157 (fun _ => ?_) <| (fun h => absurd h (by decide))
                 refine r_iconst c_163_164 <| r_iret c_163_165 <| ?_
                 exact q_val (k σ4 (hf123.tr (hf4.up (by decide) (by decide)))) e9.symm
               · refine r_iload_n c_163_125 rfl <| r_if_eq c_163_126 (fun _ => ?_) <| (fun h => absurd h (by decide))
                 refine r_iload_n c_163_156 rfl <| r_if_eq c_163_157 (fun _ => ?_) <| (fun h => absurd h (by decide))
                 refine r_iconst c_163_164 <| r_iret c_163_165 <| ?_
                 exact q_val (k σ4 (hf123.tr (hf4.up (by decide) (by decide)))) e9.symm
               done)
          · refine r_iconst c_163_112 <| r_goto c_163_113 <| r_istore_n_4_2 c_163_117 rfl <| r_iconst c_163_118 <| r_istore_n_4_3 c_163_119 rfl <| ?_
            have e9 : alikN T t w = if ap T (RD t).1 = ap T w then 1 else 0 := by
              unfold alikN
              rw [if_neg (by omega), if_neg (by omega), if_neg (by omega)]
              by_cases e : ap T w = ap T (RD t).1
              · rw [if_pos e, if_pos e.symm]
              · rw [if_neg e, if_neg (fun q => e q.symm)]
            have e74 := hA4.1
            first
            | (have hlm : (ap T (RD t).1).length = (ap T w).length := by omega
               exact lp_malx hlm (by omega) (h77.eq (hf4.1 77 (by decide) (by decide))) hA4.2 (by rw [← e9]; exact k σ4 (hf123.tr (hf4.up (by decide) (by decide)))) ((ap T (RD t).1).length + 1) 0 1 (by omega) (by omega) (Or.inl ⟨rfl, fun j hj => absurd hj (Nat.not_lt_zero j)⟩))
            | (have hlm : (ap T (RD t).1).length ≠ (ap T w).length := by omega
               have hne : ap T (RD t).1 ≠ ap T w := fun q => hlm (by rw [q])
               rw [if_neg hne] at e9
               refine r_iload_n c_163_120 rfl <| r_iload_n c_163_121 rfl <| r_icmp_ge c_163_122 (fun h122 => ?_) <| (fun h122 => ?_)
               · refine r_iload_n c_163_156 rfl <| r_if_eq c_163_157 (fun _ => ?_) <| (fun h => absurd h (by decide))
                 refine r_iconst c_163_164 <| r_iret c_163_165 <| ?_
                 exact q_val (k σ4 (hf123.tr (hf4.up (by decide) (by decide)))) e9.symm
               · refine r_iload_n c_163_125 rfl <| r_if_eq c_163_126 (fun _ => ?_) <| (fun h => absurd h (by decide))
                 refine r_iload_n c_163_156 rfl <| r_if_eq c_163_157 (fun _ => ?_) <| (fun h => absurd h (by decide))
                 refine r_iconst c_163_164 <| r_iret c_163_165 <| ?_
                 exact q_val (k σ4 (hf123.tr (hf4.up (by decide) (by decide)))) e9.symm
               done)
        · refine r_if_ne c_163_98 (fun h => absurd h (by decide)) <| (fun _ => ?_)
          refine r_bipush c_163_101 <| r_iret c_163_103 <| ?_
          exact q_val (k σ4 (hf123.tr (hf4.up (by decide) (by decide)))) (by unfold alikN; rw [if_neg (by omega), if_neg (by omega), if_pos (Or.inr hlen4)])
      · refine r_if_ne c_163_49 (fun h => absurd h (by decide)) <| (fun _ => ?_)
        refine r_bipush c_163_52 <| r_iret c_163_54 <| ?_
        exact q_val (k σ2 (hf1.tr (hf2.up (by decide) (by decide)))) (by unfold alikN; rw [if_neg (by omega), if_neg (by omega), if_pos (Or.inl hlen)])
    · refine r_bipush c_163_28 <| r_aload_n c_163_30 rfl <| r_getf_i c_163_31 rfl rfl <| r_isub c_163_34 (by rw [ho1]; omega) <| r_iret c_163_35 <| ?_
      exact q_val (k σ1 hf1) (by unfold alikN; rw [if_neg (by omega), if_pos (by omega), ho1])
  · refine r_bipush c_163_18 <| r_iret c_163_20 <| ?_
    exact q_val (k σ1 hf1) (by unfold alikN; rw [if_pos (by omega)])
end OPS3
