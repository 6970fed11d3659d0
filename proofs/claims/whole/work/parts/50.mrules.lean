/-! MAKE: the rules for one label, the model's side. -/
section MRULES
variable {L : Nat} {T : mk_S} {Q : Option mm_V → mm_H → Prop}
theorem lp_fl {σ : mk_S} {lb : List Int} {st i : Nat} {n : Int} {a5 a6 a7 : mm_V} (hM : MT σ T) (hO : TOK T) (hs : seg σ 81 st lb) (hst : st + lb.length ≤ 300) (hi : i ≤ lb.length) : ∀ (m : Nat), m ≤ i → lvF (jnL T lb) i = lvF (jnL T lb) m →
    (∀ r : Int, -1 ≤ r → r < i → lvF (jnL T lb) i = (if r < 0 then 0 else rgO T 2 (lb.getD r.toNat 0)) → mm_X 181 75 [vP 55, vI (st : Nat), vI n, vI (i : Nat), vI r, a5, a6, a7] [] (hp L σ) Q) →
    mm_X 181 46 [vP 55, vI (st : Nat), vI n, vI (i : Nat), vI ((m : Int) - 1), a5, a6, a7] [] (hp L σ) Q := by
  intro m
  induction m with
  | zero =>
    intro h1 h2 kk
    refine r_iload c_181_46 rfl <| r_if_lt c_181_48 (fun h48 => ?_) <| (fun h48 => ?_)
    · exact kk _ (by omega) (by omega) (by rw [h2, if_pos (by omega)]; rfl)
    · exact absurd h48 (by omega)
  | succ m ih =>
    intro h1 h2 kk
    simp only [lvF] at h2
    unfold jnL at h2
    rw [gd_map (by omega)] at h2
    have hx := hs m (by omega)
    rw [show (((m + 1 : Nat) : Int) - 1) = (m : Int) by omega]
    refine r_iload c_181_46 rfl <| r_if_lt c_181_48 (fun h48 => ?_) <| (fun h48 => ?_)
    · first
      | exact absurd h48 (by omega)
      | (rw [if_neg (by assumption)] at h2
         exact kk m (by omega) (by omega) (by unfold jnL; rw [h2, if_neg (by omega), Int.toNat_natCast]))
    · refine r_aload_n c_181_51 rfl <| r_iconst c_181_52 <| r_aload_n c_181_53 rfl <| r_getf_a c_181_54 rfl rfl <| r_iload_n c_181_57 rfl <| r_iload c_181_58 rfl <| r_iadd c_181_60 (by omega) <| r_iald c_181_61 rfl (Or.inl rfl) (jn := st + m) (by omega) (by omega) <| ?_
      rw [hx]
      refine r_cV2 c_181_62 rfl (Nat.le_of_ble_eq_true rfl) <| ?_
      refine ct_mrange hM hO _ _ ?_
      refine r_iconst c_181_65 <| r_icmp_ne c_181_66 (fun h66 => ?_) <| (fun h66 => ?_)
      · first
        | exact absurd h48 (by omega)
        | (rw [if_neg (by assumption)] at h2
           exact kk m (by omega) (by omega) (by unfold jnL; rw [h2, if_neg (by omega), Int.toNat_natCast]))
      · refine r_iinc_8_4 c_181_69 rfl (by omega) <| r_goto c_181_72 <| ?_
        rw [if_pos (by assumption)] at h2
        exact ih (by omega) h2 kk
theorem lp_frr {σ : mk_S} {lb : List Int} {st i : Nat} {a6 a7 : mm_V} {r4 : Int} (hM : MT σ T) (hO : TOK T) (hs : seg σ 81 st lb) (hst : st + lb.length ≤ 300) : ∀ (k m : Nat), m + k = lb.length → rvF ((jnL T lb).drop (i + 1)) = rvF ((jnL T lb).drop m) →
    (∀ r : Nat, r ≤ lb.length → rvF ((jnL T lb).drop (i + 1)) = (if r = lb.length then 0 else rgO T 2 (lb.getD r 0)) → mm_X 181 110 [vP 55, vI (st : Nat), vI (lb.length : Nat), vI (i : Nat), vI r4, vI (r : Nat), a6, a7] [] (hp L σ) Q) →
    mm_X 181 80 [vP 55, vI (st : Nat), vI (lb.length : Nat), vI (i : Nat), vI r4, vI (m : Nat), a6, a7] [] (hp L σ) Q := by
  intro k
  have hjl := jnL_len T lb
  induction k with
  | zero =>
    intro m h1 h2 kk
    have em : m = lb.length := by omega
    subst em
    rw [← hjl, List.drop_length] at h2
    refine r_iload c_181_80 rfl <| r_iload_n c_181_82 rfl <| r_icmp_ge c_181_83 (fun h83 => ?_) <| (fun h83 => ?_)
    · exact kk lb.length (Nat.le_refl _) (by rw [h2, if_pos rfl]; rfl)
    · exact absurd h83 (by omega)
  | succ k ih =>
    intro m h1 h2 kk
    rw [drop_at (by omega : m < (jnL T lb).length)] at h2
    simp only [rvF] at h2
    have hg : (jnL T lb).getD m 0 = rgO T 2 (lb.getD m 0) := gd_map (by omega)
    rw [hg] at h2
    have hx := hs m (by omega)
    refine r_iload c_181_80 rfl <| r_iload_n c_181_82 rfl <| r_icmp_ge c_181_83 (fun h83 => ?_) <| (fun h83 => ?_)
    · first
      | exact absurd h83 (by omega)
      | (rw [if_neg (by assumption)] at h2
         exact kk m (by omega) (by rw [h2, if_neg (by omega)]))
    · refine r_aload_n c_181_86 rfl <| r_iconst c_181_87 <| r_aload_n c_181_88 rfl <| r_getf_a c_181_89 rfl rfl <| r_iload_n c_181_92 rfl <| r_iload c_181_93 rfl <| r_iadd c_181_95 (by omega) <| r_iald c_181_96 rfl (Or.inl rfl) (jn := st + m) (by omega) (by omega) <| ?_
      rw [hx]
      refine r_cV2 c_181_97 rfl (Nat.le_of_ble_eq_true rfl) <| ?_
      refine ct_mrange hM hO _ _ ?_
      refine r_iconst c_181_100 <| r_icmp_ne c_181_101 (fun h101 => ?_) <| (fun h101 => ?_)
      · first
        | exact absurd h83 (by omega)
        | (rw [if_neg (by assumption)] at h2
           exact kk m (by omega) (by rw [h2, if_neg (by omega)]))
      · refine r_iinc_8_5 c_181_104 rfl (by omega) <| r_goto c_181_107 <| ?_
        rw [if_pos (by assumption)] at h2
        exact ih (m + 1) (by omega) h2 kk
theorem ct_fits {σ : mk_S} {lb : List Int} {st i : Nat} (hM : MT σ T) (hO : TOK T) (hs : seg σ 81 st lb) (hst : st + lb.length ≤ 300) (hi : i < lb.length) (k1 : fitP T lb i → Q (some (vI 1)) (hp L σ)) (k0 : ¬ fitP T lb i → Q (some (vI 0)) (hp L σ)) : mm_call 181 [vP 55, vI (st : Nat), vI (lb.length : Nat), vI (i : Nat)] (hp L σ) Q := by
  unfold fitP btw at k1 k0
  have hx := hs i hi
  have hy : 0 < i → σ 81 (st + (i - 1)) = lb.getD (i - 1) 0 := fun h => hs (i - 1) (by omega)
  have key : ¬ (0 < i ∧ rkO T (lb.getD (i - 1) 0) = 9) → lb.getD i 0 ≠ 8205 → mm_X 181 41 [vP 55, vI (st : Nat), vI (lb.length : Nat), vI (i : Nat), mm_null, mm_null, mm_null, mm_null] [] (hp L σ) Q := by
    intro g1 g2
    refine r_iload_n c_181_41 rfl <| r_iconst c_181_42 <| r_isub c_181_43 (by omega) <| r_istore_8_4 c_181_44 rfl <| ?_
    refine lp_fl hM hO hs hst (by omega) i (Nat.le_refl _) rfl (fun r r1 r2 r3 => ?_)
    refine r_iload_n c_181_75 rfl <| r_iconst c_181_76 <| r_iadd c_181_77 (by omega) <| r_istore_8_5 c_181_78 rfl <| ?_
    refine lp_frr hM hO hs hst (lb.length - (i + 1)) (i + 1) (by omega) rfl (fun q q1 q2 => ?_)
    have hxr : 0 ≤ r → σ 81 (st + r.toNat) = lb.getD r.toNat 0 := fun h => hs r.toNat (by omega)
    have hxq : q < lb.length → σ 81 (st + q) = lb.getD q 0 := fun h => hs q h
    generalize lvF (jnL T lb) i = x at *
    generalize rvF ((jnL T lb).drop (i + 1)) = y at *
    have yes : (x = 1 ∨ x = 3) → (y = 2 ∨ y = 3) → Q (some (vI 1)) (hp L σ) := fun a b => k1 (Or.inr ⟨g2, a, b⟩)
    have no : ¬ ((x = 1 ∨ x = 3) ∧ (y = 2 ∨ y = 3)) → Q (some (vI 0)) (hp L σ) := fun a => k0 (fun h => h.elim g1 (fun h => a h.2))
    clear k1 k0 hs hx hy
    have fin : mm_X 181 161 [vP 55, vI (st : Nat), vI (lb.length : Nat), vI (i : Nat), vI r, vI (q : Nat), vI x, vI y] [] (hp L σ) Q := by
      refine r_iload c_181_161 rfl <| r_iconst c_181_163 <| r_icmp_eq c_181_164 (fun h164 => ?_) <| (fun h164 => ?_)
      · refine r_iload c_181_173 rfl <| r_iconst c_181_175 <| r_icmp_eq c_181_176 (fun h176 => ?_) <| (fun h176 => ?_)
        · refine r_iconst c_181_185 <| r_goto c_181_186 <| r_zret c_181_190 (Or.inr rfl) <| ?_
          first
          | exact yes (by omega) (by omega)
          | exact no (by omega)
        · refine r_iload c_181_179 rfl <| r_iconst c_181_181 <| r_icmp_ne c_181_182 (fun h182 => ?_) <| (fun h182 => ?_)
          · refine r_iconst c_181_189 <| r_zret c_181_190 (Or.inl rfl) <| ?_
            first
            | exact yes (by omega) (by omega)
            | exact no (by omega)
          · refine r_iconst c_181_185 <| r_goto c_181_186 <| r_zret c_181_190 (Or.inr rfl) <| ?_
            first
            | exact yes (by omega) (by omega)
            | exact no (by omega)
      · refine r_iload c_181_167 rfl <| r_iconst c_181_169 <| r_icmp_ne c_181_170 (fun h170 => ?_) <| (fun h170 => ?_)
        · refine r_iconst c_181_189 <| r_zret c_181_190 (Or.inl rfl) <| ?_
          first
          | exact yes (by omega) (by omega)
          | exact no (by omega)
        · refine r_iload c_181_173 rfl <| r_iconst c_181_175 <| r_icmp_eq c_181_176 (fun h176 => ?_) <| (fun h176 => ?_)
          · refine r_iconst c_181_185 <| r_goto c_181_186 <| r_zret c_181_190 (Or.inr rfl) <| ?_
            first
            | exact yes (by omega) (by omega)
            | exact no (by omega)
          · refine r_iload c_181_179 rfl <| r_iconst c_181_181 <| r_icmp_ne c_181_182 (fun h182 => ?_) <| (fun h182 => ?_)
            · refine r_iconst c_181_189 <| r_zret c_181_190 (Or.inl rfl) <| ?_
              first
              | exact yes (by omega) (by omega)
              | exact no (by omega)
            · refine r_iconst c_181_185 <| r_goto c_181_186 <| r_zret c_181_190 (Or.inr rfl) <| ?_
              first
              | exact yes (by omega) (by omega)
              | exact no (by omega)
    refine r_iload c_181_110 rfl <| r_if_ge c_181_112 (fun h112 => ?_) <| (fun h112 => ?_)
    · refine r_aload_n c_181_119 rfl <| r_iconst c_181_120 <| r_aload_n c_181_121 rfl <| r_getf_a c_181_122 rfl rfl <| r_iload_n c_181_125 rfl <| r_iload c_181_126 rfl <| r_iadd c_181_128 (by omega) <| r_iald c_181_129 rfl (Or.inl rfl) (jn := st + r.toNat) (by omega) (by omega) <| ?_
      rw [hxr (by omega)]
      refine r_cV2 c_181_130 rfl (Nat.le_of_ble_eq_true rfl) <| ?_
      refine ct_mrange hM hO _ _ ?_
      refine r_istore_8_6 c_181_133 rfl <| r_iload c_181_135 rfl <| r_iload_n c_181_137 rfl <| r_icmp_lt c_181_138 (fun h138 => ?_) <| (fun h138 => ?_)
      · refine r_aload_n c_181_145 rfl <| r_iconst c_181_146 <| r_aload_n c_181_147 rfl <| r_getf_a c_181_148 rfl rfl <| r_iload_n c_181_151 rfl <| r_iload c_181_152 rfl <| r_iadd c_181_154 (by omega) <| r_iald c_181_155 rfl (Or.inl rfl) (jn := st + q) (by omega) (by omega) <| ?_
        rw [hxq (by omega)]
        refine r_cV2 c_181_156 rfl (Nat.le_of_ble_eq_true rfl) <| ?_
        refine ct_mrange hM hO _ _ ?_
        refine r_istore_8_7 c_181_159 rfl <| ?_
        first
        | (rw [if_pos (by omega)] at r3
           first
           | (rw [if_pos (by omega)] at q2; rw [r3, q2] at fin; exact fin)
           | (rw [if_neg (by omega)] at q2; rw [r3, q2] at fin; exact fin))
        | (rw [if_neg (by omega)] at r3
           first
           | (rw [if_pos (by omega)] at q2; rw [r3, q2] at fin; exact fin)
           | (rw [if_neg (by omega)] at q2; rw [r3, q2] at fin; exact fin))
      · refine r_iconst c_181_141 <| r_goto c_181_142 <| r_istore_8_7 c_181_159 rfl <| ?_
        first
        | (rw [if_pos (by omega)] at r3
           first
           | (rw [if_pos (by omega)] at q2; rw [r3, q2] at fin; exact fin)
           | (rw [if_neg (by omega)] at q2; rw [r3, q2] at fin; exact fin))
        | (rw [if_neg (by omega)] at r3
           first
           | (rw [if_pos (by omega)] at q2; rw [r3, q2] at fin; exact fin)
           | (rw [if_neg (by omega)] at q2; rw [r3, q2] at fin; exact fin))
    · refine r_iconst c_181_115 <| r_goto c_181_116 <| r_istore_8_6 c_181_133 rfl <| r_iload c_181_135 rfl <| r_iload_n c_181_137 rfl <| r_icmp_lt c_181_138 (fun h138 => ?_) <| (fun h138 => ?_)
      · refine r_aload_n c_181_145 rfl <| r_iconst c_181_146 <| r_aload_n c_181_147 rfl <| r_getf_a c_181_148 rfl rfl <| r_iload_n c_181_151 rfl <| r_iload c_181_152 rfl <| r_iadd c_181_154 (by omega) <| r_iald c_181_155 rfl (Or.inl rfl) (jn := st + q) (by omega) (by omega) <| ?_
        rw [hxq (by omega)]
        refine r_cV2 c_181_156 rfl (Nat.le_of_ble_eq_true rfl) <| ?_
        refine ct_mrange hM hO _ _ ?_
        refine r_istore_8_7 c_181_159 rfl <| ?_
        first
        | (rw [if_pos (by omega)] at r3
           first
           | (rw [if_pos (by omega)] at q2; rw [r3, q2] at fin; exact fin)
           | (rw [if_neg (by omega)] at q2; rw [r3, q2] at fin; exact fin))
        | (rw [if_neg (by omega)] at r3
           first
           | (rw [if_pos (by omega)] at q2; rw [r3, q2] at fin; exact fin)
           | (rw [if_neg (by omega)] at q2; rw [r3, q2] at fin; exact fin))
      · refine r_iconst c_181_141 <| r_goto c_181_142 <| r_istore_8_7 c_181_159 rfl <| ?_
        first
        | (rw [if_pos (by omega)] at r3
           first
           | (rw [if_pos (by omega)] at q2; rw [r3, q2] at fin; exact fin)
           | (rw [if_neg (by omega)] at q2; rw [r3, q2] at fin; exact fin))
        | (rw [if_neg (by omega)] at r3
           first
           | (rw [if_pos (by omega)] at q2; rw [r3, q2] at fin; exact fin)
           | (rw [if_neg (by omega)] at q2; rw [r3, q2] at fin; exact fin))
  refine ⟨Nat.le_of_ble_eq_true rfl, ?_⟩
  show mm_X 181 0 [vP 55, vI (st : Nat), vI (lb.length : Nat), vI (i : Nat), mm_null, mm_null, mm_null, mm_null] [] _ _
  refine r_iload_n c_181_0 rfl <| r_if_le c_181_1 (fun h1 => ?_) <| (fun h1 => ?_)
  · refine r_aload_n c_181_25 rfl <| r_getf_a c_181_26 rfl rfl <| r_iload_n c_181_29 rfl <| r_iload_n c_181_30 rfl <| r_iadd c_181_31 (by omega) <| r_iald c_181_32 rfl (Or.inl rfl) (jn := st + i) (by omega) (by omega) <| ?_
    rw [hx]
    refine r_sipush c_181_33 <| r_icmp_ne c_181_36 (fun h36 => ?_) <| (fun h36 => ?_)
    · first | exact key (by omega) (by assumption) | exact key (fun h => absurd h.2 (by assumption)) (by assumption)
    · refine r_iconst c_181_39 <| r_zret c_181_40 (Or.inl rfl) <| ?_
      first | exact k0 (fun h => h.elim (fun h => by omega) (fun h => h.1 h36)) | exact k0 (fun h => h.elim (fun h => absurd h.2 (by assumption)) (fun h => h.1 h36))
  · refine r_aload_n c_181_4 rfl <| r_aload_n c_181_5 rfl <| r_getf_a c_181_6 rfl rfl <| r_iload_n c_181_9 rfl <| r_iload_n c_181_10 rfl <| r_iadd c_181_11 (by omega) <| r_iconst c_181_12 <| r_isub c_181_13 (by omega) <| r_iald c_181_14 rfl (Or.inl rfl) (jn := st + (i - 1)) (by omega) (by omega) <| ?_
    rw [hy (by omega)]
    refine r_cV1 c_181_15 rfl (Nat.le_of_ble_eq_true rfl) <| ?_
    refine ct_mrankOf hM hO _ ?_
    refine r_bipush c_181_18 <| r_icmp_ne c_181_20 (fun h20 => ?_) <| (fun h20 => ?_)
    · refine r_aload_n c_181_25 rfl <| r_getf_a c_181_26 rfl rfl <| r_iload_n c_181_29 rfl <| r_iload_n c_181_30 rfl <| r_iadd c_181_31 (by omega) <| r_iald c_181_32 rfl (Or.inl rfl) (jn := st + i) (by omega) (by omega) <| ?_
      rw [hx]
      refine r_sipush c_181_33 <| r_icmp_ne c_181_36 (fun h36 => ?_) <| (fun h36 => ?_)
      · first | exact key (by omega) (by assumption) | exact key (fun h => absurd h.2 (by assumption)) (by assumption)
      · refine r_iconst c_181_39 <| r_zret c_181_40 (Or.inl rfl) <| ?_
        first | exact k0 (fun h => h.elim (fun h => by omega) (fun h => h.1 h36)) | exact k0 (fun h => h.elim (fun h => absurd h.2 (by assumption)) (fun h => h.1 h36))
    · refine r_iconst c_181_23 <| r_zret c_181_24 (Or.inr rfl) <| ?_
      exact k1 (Or.inl ⟨by omega, by assumption⟩)
end MRULES
