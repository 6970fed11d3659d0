/-! MAKE: directions, the model's side. -/
theorem rtF_app (T : mk_S) : ∀ a b : List Int, rtF T (a ++ b) = (rtF T a || rtF T b)
  | [], b => by simp [rtF]
  | x :: xs, b => by
    simp only [List.cons_append, rtF]
    split
    · rfl
    · exact rtF_app T xs b
section MDIR
variable {L : Nat} {T : mk_S} {Q : Option mm_V → mm_H → Prop}
theorem lp_da {σ : mk_S} {lb : List Int} {i st : Nat} {f R : Int} {ltr : Int} {a8 a9 a10 a11 : mm_V} (hM : MT σ T) (hO : TOK T) (hs : seg σ 81 st lb) (hst : st + lb.length ≤ 300) (f37 : σ 55 37 = 0) (hl : f = 0 ∧ ltr = 1 ∨ f ≠ 0 ∧ ltr = 0)
    (k1 : R = -1 → ∀ b8 b9, mm_X 183 164 [vP 55, vI (i : Nat), vI (st : Nat), vI (lb.length : Nat), vI f, vI ltr, vI (lnF (drL T lb) 0 0 : Nat), vI (lb.length : Nat), b8, b9, a10, a11] [] (hp L σ) Q)
    (k0 : 0 ≤ R → ∀ σ', mD σ' 46 i R → mf [] [37, 38, 39] σ σ' → Q (some (vI 0)) (hp L σ')) : ∀ (k j c : Nat) (b8 b9 : mm_V), j + k = lb.length → R = wfF f ((drL T lb).drop j) j → lnF (drL T lb) 0 0 = lnF ((drL T lb).drop j) j c →
    mm_X 183 64 [vP 55, vI (i : Nat), vI (st : Nat), vI (lb.length : Nat), vI f, vI ltr, vI (c : Nat), vI (j : Nat), b8, b9, a10, a11] [] (hp L σ) Q := by
  intro k
  have hdl : (drL T lb).length = lb.length := List.length_map ..
  induction k with
  | zero =>
    intro j c b8 b9 hj hR hl2
    have ej : j = (drL T lb).length := by omega
    subst ej
    rw [List.drop_length] at hR hl2
    simp only [wfF] at hR
    simp only [lnF] at hl2
    have k1 := k1 hR b8 b9
    rw [hl2] at k1
    refine r_iload c_183_64 rfl <| r_iload_n c_183_66 rfl <| r_icmp_ge c_183_67 (fun h67 => ?_) <| (fun h67 => ?_)
    · rw [hdl]
      exact k1
    · exact absurd h67 (by omega)
  | succ k ih =>
    intro j c b8 b9 hj hR hl2
    rw [drop_at (by omega : j < (drL T lb).length)] at hR hl2
    simp only [wfF] at hR
    simp only [lnF] at hl2
    have hg : (drL T lb).getD j 0 = rgO T 1 (lb.getD j 0) := gd_map (by omega)
    have hr := rgO_rng hO 1 (lb.getD j 0)
    have hx := hs j (by omega)
    rw [hg] at hR hl2
    generalize hv : rgO T 1 (lb.getD j 0) = v at *
    have yes : alD (f ≠ 0) v → ∀ b9, mm_X 183 142 [vP 55, vI (i : Nat), vI (st : Nat), vI (lb.length : Nat), vI f, vI ltr, vI (c : Nat), vI (j : Nat), vI v, vI b9, a10, a11] [] (hp L σ) Q := by
      intro ha b9
      rw [if_pos ha] at hR
      refine r_iload c_183_142 rfl <| r_bipush c_183_144 <| r_icmp_ne c_183_146 (fun h146 => ?_) <| (fun h146 => ?_)
      · refine r_iload c_183_154 rfl <| r_istore_12_6 c_183_156 rfl <| r_iinc_12_7 c_183_158 rfl (by omega) <| r_goto c_183_161 <| ?_
        first
        | (rw [if_pos (by assumption)] at hl2; exact ih (j + 1) c _ _ (by omega) hR hl2)
        | (rw [if_neg (by assumption)] at hl2; exact ih (j + 1) j _ _ (by omega) hR hl2)
      · refine r_iload c_183_149 rfl <| r_goto c_183_151 <| r_istore_12_6 c_183_156 rfl <| r_iinc_12_7 c_183_158 rfl (by omega) <| r_goto c_183_161 <| ?_
        first
        | (rw [if_pos (by assumption)] at hl2; exact ih (j + 1) c _ _ (by omega) hR hl2)
        | (rw [if_neg (by assumption)] at hl2; exact ih (j + 1) j _ _ (by omega) hR hl2)
    have no : ¬ alD (f ≠ 0) v → ∀ σ', mD σ' 46 i j → mf [] [37, 38, 39] σ σ' → Q (some (vI 0)) (hp L σ') := by
      intro ha σ' g1 g2
      rw [if_neg ha] at hR
      exact k0 (by omega) σ' (by rw [hR]; exact g1) g2
    unfold alD at yes no
    clear hR hl2 ih k1 k0
    refine r_iload c_183_64 rfl <| r_iload_n c_183_66 rfl <| r_icmp_ge c_183_67 (fun h67 => ?_) <| (fun h67 => ?_)
    · exact absurd h67 (by omega)
    · refine r_aload_n c_183_70 rfl <| r_iconst c_183_71 <| r_aload_n c_183_72 rfl <| r_getf_a c_183_73 rfl rfl <| r_iload_n c_183_76 rfl <| r_iload c_183_77 rfl <| r_iadd c_183_79 (by omega) <| r_iald c_183_80 rfl (Or.inl rfl) (jn := st + j) (by omega) (by omega) <| ?_
      rw [hx]
      refine r_cV2 c_183_81 rfl (Nat.le_of_ble_eq_true rfl) <| ?_
      refine ct_mrange hM hO _ _ ?_; rw [hv]
      refine r_istore_12_8 c_183_84 rfl <| r_iload c_183_86 rfl <| r_if_eq c_183_88 (fun h88 => ?_) <| (fun h88 => ?_)
      · refine r_iload c_183_115 rfl <| r_if_eq c_183_117 (fun h117 => ?_) <| (fun h117 => ?_)
        · refine r_iconst c_183_124 <| r_istore_12_9 c_183_125 rfl <| r_iload c_183_127 rfl <| r_if_ne c_183_129 (fun h => absurd h (by decide)) <| (fun _ => ?_)
          refine r_aload_n c_183_132 rfl <| r_bipush c_183_133 <| r_iload_n c_183_135 rfl <| r_iload c_183_136 rfl <| r_cV3 c_183_138 rfl (Nat.le_of_ble_eq_true rfl) <| ?_
          refine ct_wrong _ _ _ f37 (fun σ2 hd2 hf2 => ?_)
          refine r_zret c_183_141 (by omega) <| ?_
          exact no (by omega) σ2 hd2 hf2
        · refine r_iconst c_183_120 <| r_goto c_183_121 <| r_istore_12_9 c_183_125 rfl <| r_iload c_183_127 rfl <| r_if_ne c_183_129 (fun _ => ?_) <| (fun h => absurd h (by decide))
          exact yes (by omega) _
      · refine r_iload c_183_91 rfl <| r_if_eq c_183_93 (fun h93 => ?_) <| (fun h93 => ?_)
        · refine r_iconst c_183_107 <| r_goto c_183_108 <| r_istore_12_9 c_183_125 rfl <| r_iload c_183_127 rfl <| r_if_ne c_183_129 (fun _ => ?_) <| (fun h => absurd h (by decide))
          exact yes (by omega) _
        · refine r_iload c_183_96 rfl <| r_iconst c_183_98 <| r_bipush c_183_99 <| r_cS3 c_183_101 (Nat.le_of_ble_eq_true rfl) <| ?_
          refine ct_in _ _ _ (fun hi => ?_) (fun hi => ?_)
          · refine r_if_eq c_183_104 (fun h => absurd h (by decide)) <| (fun _ => ?_)
            refine r_iconst c_183_107 <| r_goto c_183_108 <| r_istore_12_9 c_183_125 rfl <| r_iload c_183_127 rfl <| r_if_ne c_183_129 (fun _ => ?_) <| (fun h => absurd h (by decide))
            exact yes (by omega) _
          · refine r_if_eq c_183_104 (fun _ => ?_) <| (fun h => absurd h (by decide))
            refine r_iconst c_183_111 <| r_goto c_183_112 <| r_istore_12_9 c_183_125 rfl <| r_iload c_183_127 rfl <| r_if_ne c_183_129 (fun h => absurd h (by decide)) <| (fun _ => ?_)
            refine r_aload_n c_183_132 rfl <| r_bipush c_183_133 <| r_iload_n c_183_135 rfl <| r_iload c_183_136 rfl <| r_cV3 c_183_138 rfl (Nat.le_of_ble_eq_true rfl) <| ?_
            refine ct_wrong _ _ _ f37 (fun σ2 hd2 hf2 => ?_)
            refine r_zret c_183_141 (by omega) <| ?_
            exact no (by omega) σ2 hd2 hf2
theorem lp_db {σ : mk_S} {lb : List Int} {i st : Nat} {R : Int} {f a8 : Int} {a6 a7 : mm_V} (hM : MT σ T) (hO : TOK T) (hs : seg σ 81 st lb) (hst : st + lb.length ≤ 300) (f37 : σ 55 37 = 0)
    (k1 : R = -1 → Q (some (vI 1)) (hp L σ))
    (k0 : 0 ≤ R → ∀ σ', mD σ' 46 i R → mf [] [37, 38, 39] σ σ' → Q (some (vI 0)) (hp L σ')) : ∀ (k j : Nat) (s : Int) (b11 : mm_V), j + k = lb.length → R = onF ((drL T lb).drop j) j s →
    mm_X 183 234 [vP 55, vI (i : Nat), vI (st : Nat), vI (lb.length : Nat), vI f, vI 0, a6, a7, vI a8, vI s, vI (j : Nat), b11] [] (hp L σ) Q := by
  intro k
  have hdl : (drL T lb).length = lb.length := List.length_map ..
  induction k with
  | zero =>
    intro j s b11 hj hR
    have ej : j = (drL T lb).length := by omega
    subst ej
    rw [List.drop_length] at hR
    simp only [onF] at hR
    refine r_iload c_183_234 rfl <| r_iload_n c_183_236 rfl <| r_icmp_ge c_183_237 (fun h237 => ?_) <| (fun h237 => ?_)
    · refine r_iconst c_183_308 <| r_zret c_183_309 (Or.inr rfl) <| ?_
      exact k1 hR
    · exact absurd h237 (by omega)
  | succ k ih =>
    intro j s b11 hj hR
    rw [drop_at (by omega : j < (drL T lb).length)] at hR
    simp only [onF] at hR
    have hg : (drL T lb).getD j 0 = rgO T 1 (lb.getD j 0) := gd_map (by omega)
    have hr := rgO_rng hO 1 (lb.getD j 0)
    have hx := hs j (by omega)
    rw [hg] at hR
    generalize hv : rgO T 1 (lb.getD j 0) = v at *
    refine r_iload c_183_234 rfl <| r_iload_n c_183_236 rfl <| r_icmp_ge c_183_237 (fun h237 => ?_) <| (fun h237 => ?_)
    · exact absurd h237 (by omega)
    · refine r_iload c_183_240 rfl <| r_if_ne c_183_242 (fun h => absurd h (by decide)) <| (fun _ => ?_)
      refine r_aload_n c_183_245 rfl <| r_iconst c_183_246 <| r_aload_n c_183_247 rfl <| r_getf_a c_183_248 rfl rfl <| r_iload_n c_183_251 rfl <| r_iload c_183_252 rfl <| r_iadd c_183_254 (by omega) <| r_iald c_183_255 rfl (Or.inl rfl) (jn := st + j) (by omega) (by omega) <| ?_
      rw [hx]
      refine r_cV2 c_183_256 rfl (Nat.le_of_ble_eq_true rfl) <| ?_
      refine ct_mrange hM hO _ _ ?_; rw [hv]
      refine r_istore_12_11 c_183_259 rfl <| r_iload c_183_261 rfl <| r_iconst c_183_263 <| r_icmp_eq c_183_264 (fun h264 => ?_) <| (fun h264 => ?_)
      · refine r_iload c_183_276 rfl <| r_if_eq c_183_278 (fun h278 => ?_) <| (fun h278 => ?_)
        · refine r_iload c_183_298 rfl <| r_istore_12_9 c_183_300 rfl <| r_iinc_12_10 c_183_302 rfl (by omega) <| r_goto c_183_305 <| ?_
          first
          | (rw [if_pos (by omega), if_neg (by omega)] at hR; exact ih (j + 1) v _ (by omega) hR)
          | (rw [if_neg (by omega)] at hR; exact ih (j + 1) s _ (by omega) hR)
        · refine r_iload c_183_281 rfl <| r_iload c_183_283 rfl <| r_icmp_eq c_183_285 (fun h285 => ?_) <| (fun h285 => ?_)
          · refine r_iload c_183_298 rfl <| r_istore_12_9 c_183_300 rfl <| r_iinc_12_10 c_183_302 rfl (by omega) <| r_goto c_183_305 <| ?_
            first
            | (rw [if_pos (by omega), if_neg (by omega)] at hR; exact ih (j + 1) v _ (by omega) hR)
            | (rw [if_neg (by omega)] at hR; exact ih (j + 1) s _ (by omega) hR)
          · refine r_aload_n c_183_288 rfl <| r_bipush c_183_289 <| r_iload_n c_183_291 rfl <| r_iload c_183_292 rfl <| r_cV3 c_183_294 rfl (Nat.le_of_ble_eq_true rfl) <| ?_
            refine ct_wrong _ _ _ f37 (fun σ2 hd2 hf2 => ?_)
            refine r_zret c_183_297 (by omega) <| ?_
            rw [if_pos (by omega), if_pos (by omega)] at hR
            exact k0 (by omega) σ2 (by rw [hR]; exact hd2) hf2
      · refine r_iload c_183_267 rfl <| r_iconst c_183_269 <| r_icmp_eq c_183_270 (fun h270 => ?_) <| (fun h270 => ?_)
        · refine r_iload c_183_276 rfl <| r_if_eq c_183_278 (fun h278 => ?_) <| (fun h278 => ?_)
          · refine r_iload c_183_298 rfl <| r_istore_12_9 c_183_300 rfl <| r_iinc_12_10 c_183_302 rfl (by omega) <| r_goto c_183_305 <| ?_
            first
            | (rw [if_pos (by omega), if_neg (by omega)] at hR; exact ih (j + 1) v _ (by omega) hR)
            | (rw [if_neg (by omega)] at hR; exact ih (j + 1) s _ (by omega) hR)
          · refine r_iload c_183_281 rfl <| r_iload c_183_283 rfl <| r_icmp_eq c_183_285 (fun h285 => ?_) <| (fun h285 => ?_)
            · refine r_iload c_183_298 rfl <| r_istore_12_9 c_183_300 rfl <| r_iinc_12_10 c_183_302 rfl (by omega) <| r_goto c_183_305 <| ?_
              first
              | (rw [if_pos (by omega), if_neg (by omega)] at hR; exact ih (j + 1) v _ (by omega) hR)
              | (rw [if_neg (by omega)] at hR; exact ih (j + 1) s _ (by omega) hR)
            · refine r_aload_n c_183_288 rfl <| r_bipush c_183_289 <| r_iload_n c_183_291 rfl <| r_iload c_183_292 rfl <| r_cV3 c_183_294 rfl (Nat.le_of_ble_eq_true rfl) <| ?_
              refine ct_wrong _ _ _ f37 (fun σ2 hd2 hf2 => ?_)
              refine r_zret c_183_297 (by omega) <| ?_
              rw [if_pos (by omega), if_pos (by omega)] at hR
              exact k0 (by omega) σ2 (by rw [hR]; exact hd2) hf2
        · refine r_goto c_183_273 <| r_iinc_12_10 c_183_302 rfl (by omega) <| r_goto c_183_305 <| ?_
          first
          | (rw [if_pos (by omega), if_neg (by omega)] at hR; exact ih (j + 1) v _ (by omega) hR)
          | (rw [if_neg (by omega)] at hR; exact ih (j + 1) s _ (by omega) hR)
theorem ct_mdirection {σ : mk_S} {os rs : List (List Int)} {i : Nat} {lb : List Int} (hM : MT σ T) (hO : TOK T) (hx : mLx σ os rs) (hi : i < os.length) (hlb : rs.getD i [] = lb) (hne : lb.length ≠ 0) (f37 : σ 55 37 = 0)
    (k1 : dirW (drL T lb) < 0 → Q (some (vI 1)) (hp L σ)) (k0 : 0 ≤ dirW (drL T lb) → ∀ σ', mD σ' 46 i (dirW (drL T lb)) → mf [] [37, 38, 39] σ σ' → Q (some (vI 0)) (hp L σ')) : mm_call 183 [vP 55, vI (i : Nat)] (hp L σ) Q := by
  have hxi := hx.2.2.2 i hi
  have hof := ofs_fit hi
  rw [hlb] at hxi
  obtain ⟨x82, x83, xle, xsg⟩ := hxi
  have hx2 := hx.2.1
  have hx3 := hx.2.2.1
  have hdl : (drL T lb).length = lb.length := List.length_map ..
  have hst : ofs os i + lb.length ≤ 300 := by omega
  generalize ofs os i = st at *
  have x0 := xsg 0 (by omega)
  rw [Nat.add_zero] at x0
  unfold dirW at k1 k0
  have hg0 : (drL T lb).getD 0 0 = rgO T 1 (lb.getD 0 0) := gd_map (by omega)
  have hr0 := rgO_rng hO 1 (lb.getD 0 0)
  rw [hg0] at k1 k0
  have hwf := wfF_or (f := rgO T 1 (lb.getD 0 0)) (drL T lb) 0
  have hln : lnF (drL T lb) 0 0 < lb.length := by
    have aux : ∀ (l : List Int) (i c : Nat), lnF l i c = c ∨ lnF l i c < i + l.length := by
      intro l
      induction l with
      | nil => intro i c; exact Or.inl rfl
      | cons x xs ih =>
        intro i c
        simp only [lnF, List.length_cons]
        by_cases e : x = 10
        · rw [if_pos e]; have := ih (i + 1) c; omega
        · rw [if_neg e]; have := ih (i + 1) i; omega
    have := aux (drL T lb) 0 0
    omega
  have hgj : (drL T lb).getD (lnF (drL T lb) 0 0) 0 = rgO T 1 (lb.getD (lnF (drL T lb) 0 0) 0) := gd_map hln
  have hxj := xsg _ hln
  have hrj := rgO_rng hO 1 (lb.getD (lnF (drL T lb) 0 0) 0)
  rw [hgj] at k1 k0
  generalize hf : rgO T 1 (lb.getD 0 0) = f at *
  generalize hw : rgO T 1 (lb.getD (lnF (drL T lb) 0 0) 0) = w at *
  have key : f ≤ 2 → ∀ ltr : Int, (f = 0 ∧ ltr = 1 ∨ f ≠ 0 ∧ ltr = 0) → mm_X 183 64 [vP 55, vI (i : Nat), vI (st : Nat), vI (lb.length : Nat), vI f, vI ltr, vI 0, vI 0, mm_null, mm_null, mm_null, mm_null] [] (hp L σ) Q := by
    intro hf2 ltr hlt
    rw [if_neg (by omega)] at k1 k0
    refine lp_da (R := wfF f (drL T lb) 0) (a8 := mm_null) (a9 := mm_null) hM hO xsg hst f37 hlt (fun e b8 b9 => ?_) (fun e σ2 g1 g2 => ?_) lb.length 0 0 _ _ (by omega) (by rw [List.drop_zero]) (by rw [List.drop_zero])
    · rw [if_neg (by omega)] at k1 k0
      generalize lnF (drL T lb) 0 0 = j at *
      have good : okE (f ≠ 0) w → (f = 0 → Q (some (vI 1)) (hp L σ)) ∧ (f ≠ 0 → (onF (drL T lb) 0 0 = -1 → Q (some (vI 1)) (hp L σ)) ∧ (0 ≤ onF (drL T lb) 0 0 → ∀ σ', mD σ' 46 i (onF (drL T lb) 0 0) → mf [] [37, 38, 39] σ σ' → Q (some (vI 0)) (hp L σ'))) := by
        intro ho
        rw [if_neg (not_not_intro ho)] at k1 k0
        refine ⟨fun h => ?_, fun h => ?_⟩
        · rw [if_neg (not_not_intro h)] at k1; exact k1 (by decide)
        · rw [if_pos h] at k1 k0
          exact ⟨fun e => k1 (by omega), k0⟩
      have bad : ¬ okE (f ≠ 0) w → ∀ σ', mD σ' 46 i j → mf [] [37, 38, 39] σ σ' → Q (some (vI 0)) (hp L σ') := by
        intro ho
        rw [if_pos ho] at k0
        exact k0 (by omega)
      unfold okE at good bad
      clear k1 k0
      refine r_aload_n c_183_164 rfl <| r_iconst c_183_165 <| r_aload_n c_183_166 rfl <| r_getf_a c_183_167 rfl rfl <| r_iload_n c_183_170 rfl <| r_iload c_183_171 rfl <| r_iadd c_183_173 (by omega) <| r_iald c_183_174 rfl (Or.inl rfl) (jn := st + j) (by omega) (by omega) <| ?_
      rw [hxj]
      refine r_cV2 c_183_175 rfl (Nat.le_of_ble_eq_true rfl) <| ?_
      refine ct_mrange hM hO _ _ ?_; rw [hw]
      refine r_istore_12_7 c_183_178 rfl <| r_iload c_183_180 rfl <| r_if_eq c_183_182 (fun h182 => ?_) <| (fun h182 => ?_)
      · refine r_iload c_183_204 rfl <| r_iconst c_183_206 <| r_iconst c_183_207 <| r_cS3 c_183_208 (Nat.le_of_ble_eq_true rfl) <| ?_
        refine ct_in _ _ _ (fun hi => ?_) (fun hi => ?_)
        · refine r_istore_12_8 c_183_211 rfl <| r_iload c_183_213 rfl <| r_if_ne c_183_215 (fun _ => ?_) <| (fun h => absurd h (by decide))
          refine r_iconst c_183_228 <| r_istore_12_9 c_183_229 rfl <| r_iconst c_183_231 <| r_istore_12_10 c_183_232 rfl <| ?_
          rcases hlt with ⟨q1, q2⟩ | ⟨q1, q2⟩
          · subst q2
            have fin := (good (by omega)).1 q1
            refine r_iload c_183_234 rfl <| r_iload_n c_183_236 rfl <| r_icmp_ge c_183_237 (fun h237 => ?_) <| (fun h237 => ?_)
            · refine r_iconst c_183_308 <| r_zret c_183_309 (Or.inr rfl) <| ?_
              exact fin
            · refine r_iload c_183_240 rfl <| r_if_ne c_183_242 (fun _ => ?_) <| (fun h => absurd h (by decide))
              refine r_iconst c_183_308 <| r_zret c_183_309 (Or.inr rfl) <| ?_
              exact fin
          · subst q2
            have gg := (good (by omega)).2 q1
            exact lp_db (R := onF (drL T lb) 0 0) hM hO xsg hst f37 gg.1 gg.2 lb.length 0 0 _ (by omega) (by rw [List.drop_zero])
        · refine r_istore_12_8 c_183_211 rfl <| r_iload c_183_213 rfl <| r_if_ne c_183_215 (fun h => absurd h (by decide)) <| (fun _ => ?_)
          refine r_aload_n c_183_218 rfl <| r_bipush c_183_219 <| r_iload_n c_183_221 rfl <| r_iload c_183_222 rfl <| r_cV3 c_183_224 rfl (Nat.le_of_ble_eq_true rfl) <| ?_
          refine ct_wrong _ _ _ f37 (fun σ2 hd2 hf2 => ?_)
          refine r_zret c_183_227 (by omega) <| ?_
          exact bad (by omega) σ2 hd2 hf2
      · refine r_iload c_183_185 rfl <| r_if_eq c_183_187 (fun h187 => ?_) <| (fun h187 => ?_)
        · refine r_iconst c_183_196 <| r_goto c_183_197 <| r_istore_12_8 c_183_211 rfl <| r_iload c_183_213 rfl <| r_if_ne c_183_215 (fun _ => ?_) <| (fun h => absurd h (by decide))
          refine r_iconst c_183_228 <| r_istore_12_9 c_183_229 rfl <| r_iconst c_183_231 <| r_istore_12_10 c_183_232 rfl <| ?_
          rcases hlt with ⟨q1, q2⟩ | ⟨q1, q2⟩
          · subst q2
            have fin := (good (by omega)).1 q1
            refine r_iload c_183_234 rfl <| r_iload_n c_183_236 rfl <| r_icmp_ge c_183_237 (fun h237 => ?_) <| (fun h237 => ?_)
            · refine r_iconst c_183_308 <| r_zret c_183_309 (Or.inr rfl) <| ?_
              exact fin
            · refine r_iload c_183_240 rfl <| r_if_ne c_183_242 (fun _ => ?_) <| (fun h => absurd h (by decide))
              refine r_iconst c_183_308 <| r_zret c_183_309 (Or.inr rfl) <| ?_
              exact fin
          · subst q2
            have gg := (good (by omega)).2 q1
            exact lp_db (R := onF (drL T lb) 0 0) hM hO xsg hst f37 gg.1 gg.2 lb.length 0 0 _ (by omega) (by rw [List.drop_zero])
        · refine r_iload c_183_190 rfl <| r_iconst c_183_192 <| r_icmp_ne c_183_193 (fun h193 => ?_) <| (fun h193 => ?_)
          · refine r_iconst c_183_200 <| r_goto c_183_201 <| r_istore_12_8 c_183_211 rfl <| r_iload c_183_213 rfl <| r_if_ne c_183_215 (fun h => absurd h (by decide)) <| (fun _ => ?_)
            refine r_aload_n c_183_218 rfl <| r_bipush c_183_219 <| r_iload_n c_183_221 rfl <| r_iload c_183_222 rfl <| r_cV3 c_183_224 rfl (Nat.le_of_ble_eq_true rfl) <| ?_
            refine ct_wrong _ _ _ f37 (fun σ2 hd2 hf2 => ?_)
            refine r_zret c_183_227 (by omega) <| ?_
            exact bad (by omega) σ2 hd2 hf2
          · refine r_iconst c_183_196 <| r_goto c_183_197 <| r_istore_12_8 c_183_211 rfl <| r_iload c_183_213 rfl <| r_if_ne c_183_215 (fun _ => ?_) <| (fun h => absurd h (by decide))
            refine r_iconst c_183_228 <| r_istore_12_9 c_183_229 rfl <| r_iconst c_183_231 <| r_istore_12_10 c_183_232 rfl <| ?_
            rcases hlt with ⟨q1, q2⟩ | ⟨q1, q2⟩
            · subst q2
              have fin := (good (by omega)).1 q1
              refine r_iload c_183_234 rfl <| r_iload_n c_183_236 rfl <| r_icmp_ge c_183_237 (fun h237 => ?_) <| (fun h237 => ?_)
              · refine r_iconst c_183_308 <| r_zret c_183_309 (Or.inr rfl) <| ?_
                exact fin
              · refine r_iload c_183_240 rfl <| r_if_ne c_183_242 (fun _ => ?_) <| (fun h => absurd h (by decide))
                refine r_iconst c_183_308 <| r_zret c_183_309 (Or.inr rfl) <| ?_
                exact fin
            · subst q2
              have gg := (good (by omega)).2 q1
              exact lp_db (R := onF (drL T lb) 0 0) hM hO xsg hst f37 gg.1 gg.2 lb.length 0 0 _ (by omega) (by rw [List.drop_zero])
    · rw [if_pos e] at k0
      exact k0 e σ2 g1 g2
  refine ⟨Nat.le_of_ble_eq_true rfl, ?_⟩
  show mm_X 183 0 [vP 55, vI (i : Nat), mm_null, mm_null, mm_null, mm_null, mm_null, mm_null, mm_null, mm_null, mm_null, mm_null] [] _ _
  refine r_aload_n c_183_0 rfl <| r_getf_a c_183_1 rfl rfl <| r_iload_n c_183_4 rfl <| r_iald c_183_5 rfl (Or.inl rfl) rfl (by omega) <| ?_
  rw [x82]
  refine r_istore_n_12_2 c_183_6 rfl <| r_aload_n c_183_7 rfl <| r_getf_a c_183_8 rfl rfl <| r_iload_n c_183_11 rfl <| r_iald c_183_12 rfl (Or.inl rfl) rfl (by omega) <| ?_
  rw [x83]
  refine r_istore_n_12_3 c_183_13 rfl <| r_aload_n c_183_14 rfl <| r_iconst c_183_15 <| r_aload_n c_183_16 rfl <| r_getf_a c_183_17 rfl rfl <| r_iload_n c_183_20 rfl <| r_iald c_183_21 rfl (Or.inl rfl) (jn := st) (by omega) (by omega) <| ?_
  rw [x0]
  refine r_cV2 c_183_22 rfl (Nat.le_of_ble_eq_true rfl) <| ?_
  refine ct_mrange hM hO _ _ ?_; rw [hf]
  refine r_istore_12_4 c_183_25 rfl <| r_iload c_183_27 rfl <| r_iconst c_183_29 <| r_iconst c_183_30 <| r_cS3 c_183_31 (Nat.le_of_ble_eq_true rfl) <| ?_
  refine ct_in _ _ _ (fun hi => ?_) (fun hi => ?_)
  · refine r_if_ne c_183_34 (fun _ => ?_) <| (fun h => absurd h (by decide))
    refine r_iload c_183_46 rfl <| r_if_ne c_183_48 (fun h48 => ?_) <| (fun h48 => ?_)
    · refine r_iconst c_183_55 <| r_istore_12_5 c_183_56 rfl <| r_iconst c_183_58 <| r_istore_12_6 c_183_59 rfl <| r_iconst c_183_61 <| r_istore_12_7 c_183_62 rfl <| ?_
      first | exact key (by omega) 0 (Or.inr ⟨by assumption, rfl⟩) | exact key (by omega) 1 (Or.inl ⟨by assumption, rfl⟩)
    · refine r_iconst c_183_51 <| r_goto c_183_52 <| r_istore_12_5 c_183_56 rfl <| r_iconst c_183_58 <| r_istore_12_6 c_183_59 rfl <| r_iconst c_183_61 <| r_istore_12_7 c_183_62 rfl <| ?_
      first | exact key (by omega) 0 (Or.inr ⟨by assumption, rfl⟩) | exact key (by omega) 1 (Or.inl ⟨by assumption, rfl⟩)
  · refine r_if_ne c_183_34 (fun h => absurd h (by decide)) <| (fun _ => ?_)
    refine r_aload_n c_183_37 rfl <| r_bipush c_183_38 <| r_iload_n c_183_40 rfl <| r_iconst c_183_41 <| r_cV3 c_183_42 rfl (Nat.le_of_ble_eq_true rfl) <| ?_
    refine ct_wrong _ _ _ f37 (fun σ2 hd2 hf2 => ?_)
    refine r_zret c_183_45 (by omega) <| ?_
    rw [if_pos (by omega)] at k0
    exact k0 (by decide) σ2 hd2 hf2
theorem lp_mds {σ : mk_S} {os rs : List (List Int)} {lb rest : List Int} {i st : Nat} {W : Bool} (hM : MT σ T) (hO : TOK T) (hlb : lb.length ≤ 300) (hst : st + lb.length ≤ 300) (hi : i < 301) (x82 : σ 82 i = (st : Int)) (x83 : σ 83 i = (lb.length : Int)) (xsg : seg σ 81 st lb)
    (kk : ∀ f : Int, (f = 1 ∧ W = true ∨ f = 0 ∧ W = rtF T rest) → ∀ a3, mm_X 182 66 [vP 55, vI f, vI (i : Nat), a3] [] (hp L σ) Q) : ∀ (k j : Nat) (f : Int), j + k = lb.length → (f = 1 ∧ W = true ∨ f = 0 ∧ W = rtF T (lb.drop j ++ rest)) → mm_X 182 14 [vP 55, vI f, vI (i : Nat), vI (j : Nat)] [] (hp L σ) Q := by
  intro k
  induction k with
  | zero =>
    intro j f hj hf
    have ej : j = lb.length := by omega
    subst ej
    rw [List.drop_length, List.nil_append] at hf
    refine r_iload_n c_182_14 rfl <| r_aload_n c_182_15 rfl <| r_getf_a c_182_16 rfl rfl <| r_iload_n c_182_19 rfl <| r_iald c_182_20 rfl (Or.inl rfl) rfl (by omega) <| ?_
    rw [x83]
    refine r_icmp_ge c_182_21 (fun h21 => ?_) <| (fun h21 => ?_)
    · exact kk f hf _
    · exact absurd h21 (by omega)
  | succ k ih =>
    intro j f hj hf
    rw [drop_at (by omega), List.cons_append] at hf
    simp only [rtF] at hf
    have hx := xsg j (by omega)
    generalize hv : lb.getD j 0 = p at *
    refine r_iload_n c_182_14 rfl <| r_aload_n c_182_15 rfl <| r_getf_a c_182_16 rfl rfl <| r_iload_n c_182_19 rfl <| r_iald c_182_20 rfl (Or.inl rfl) rfl (by omega) <| ?_
    rw [x83]
    refine r_icmp_ge c_182_21 (fun h21 => ?_) <| (fun h21 => ?_)
    · exact absurd h21 (by omega)
    · refine r_iload_n c_182_24 rfl <| r_if_ne c_182_25 (fun h25 => ?_) <| (fun h25 => ?_)
      · refine r_iconst c_182_54 <| r_goto c_182_55 <| r_istore_n_4_1 c_182_59 rfl <| r_iinc_4_3 c_182_60 rfl (by omega) <| r_goto c_182_63 <| ?_
        first
        | exact ih (j + 1) 1 (by omega) (Or.inl ⟨rfl, hf.elim (fun g => g.2) (fun g => absurd g.1 (by assumption))⟩)
        | exact ih (j + 1) 1 (by omega) (Or.inl ⟨rfl, hf.elim (fun g => g.2) (fun g => by rw [g.2, if_pos (by omega)])⟩)
        | exact ih (j + 1) 0 (by omega) (Or.inr ⟨rfl, hf.elim (fun g => absurd g.1 (by omega)) (fun g => by rw [g.2, if_neg (by omega)])⟩)
      · refine r_aload_n c_182_28 rfl <| r_iconst c_182_29 <| r_aload_n c_182_30 rfl <| r_getf_a c_182_31 rfl rfl <| r_aload_n c_182_34 rfl <| r_getf_a c_182_35 rfl rfl <| r_iload_n c_182_38 rfl <| r_iald c_182_39 rfl (Or.inl rfl) rfl (by omega) <| ?_
        rw [x82]
        refine r_iload_n c_182_40 rfl <| r_iadd c_182_41 (by omega) <| r_iald c_182_42 rfl (Or.inl rfl) (jn := st + j) (by omega) (by omega) <| ?_
        rw [hx]
        refine r_cV2 c_182_43 rfl (Nat.le_of_ble_eq_true rfl) <| ?_
        refine ct_mrange hM hO _ _ ?_
        refine r_iconst c_182_46 <| r_iconst c_182_47 <| r_cS3 c_182_48 (Nat.le_of_ble_eq_true rfl) <| ?_
        refine ct_in _ _ _ (fun hi => ?_) (fun hi => ?_)
        · refine r_if_eq c_182_51 (fun h => absurd h (by decide)) <| (fun _ => ?_)
          refine r_iconst c_182_54 <| r_goto c_182_55 <| r_istore_n_4_1 c_182_59 rfl <| r_iinc_4_3 c_182_60 rfl (by omega) <| r_goto c_182_63 <| ?_
          first
          | exact ih (j + 1) 1 (by omega) (Or.inl ⟨rfl, hf.elim (fun g => g.2) (fun g => absurd g.1 (by assumption))⟩)
          | exact ih (j + 1) 1 (by omega) (Or.inl ⟨rfl, hf.elim (fun g => g.2) (fun g => by rw [g.2, if_pos (by omega)])⟩)
          | exact ih (j + 1) 0 (by omega) (Or.inr ⟨rfl, hf.elim (fun g => absurd g.1 (by omega)) (fun g => by rw [g.2, if_neg (by omega)])⟩)
        · refine r_if_eq c_182_51 (fun _ => ?_) <| (fun h => absurd h (by decide))
          refine r_iconst c_182_58 <| r_istore_n_4_1 c_182_59 rfl <| r_iinc_4_3 c_182_60 rfl (by omega) <| r_goto c_182_63 <| ?_
          first
          | exact ih (j + 1) 1 (by omega) (Or.inl ⟨rfl, hf.elim (fun g => g.2) (fun g => absurd g.1 (by assumption))⟩)
          | exact ih (j + 1) 1 (by omega) (Or.inl ⟨rfl, hf.elim (fun g => g.2) (fun g => by rw [g.2, if_pos (by omega)])⟩)
          | exact ih (j + 1) 0 (by omega) (Or.inr ⟨rfl, hf.elim (fun g => absurd g.1 (by omega)) (fun g => by rw [g.2, if_neg (by omega)])⟩)
theorem lp_mdo {σ : mk_S} {os rs : List (List Int)} (hM : MT σ T) (hO : TOK T) (hx : mLx σ os rs) (h43 : σ 55 43 = (os.length : Int))
    (kk : ∀ f : Int, (f = 1 ∧ rtF T rs.flatten = true ∨ f = 0 ∧ rtF T rs.flatten = false) → ∀ a3 a2, mm_X 182 72 [vP 55, vI f, a2, a3] [] (hp L σ) Q) : ∀ (k i : Nat) (f : Int) (a3 : mm_V), i + k = os.length → (f = 1 ∧ rtF T rs.flatten = true ∨ f = 0 ∧ rtF T rs.flatten = rtF T (rs.drop i).flatten) → mm_X 182 4 [vP 55, vI f, vI (i : Nat), a3] [] (hp L σ) Q := by
  intro k
  have hx1 := hx.1
  have hx3 := hx.2.2.1
  induction k with
  | zero =>
    intro i f a3 hi hf
    have ei : i = rs.length := by omega
    subst ei
    rw [List.drop_length] at hf
    refine r_iload_n c_182_4 rfl <| r_aload_n c_182_5 rfl <| r_getf_i c_182_6 rfl rfl <| r_icmp_ge c_182_9 (fun h9 => ?_) <| (fun h9 => ?_)
    · exact kk f hf _ _
    · exact absurd h9 (by omega)
  | succ k ih =>
    intro i f a3 hi hf
    have hof := ofs_fit (os := os) (i := i) (by omega)
    have hxi := hx.2.2.2 i (by omega)
    rw [drs_at (by omega), List.flatten_cons] at hf
    obtain ⟨x82, x83, xle, xsg⟩ := hxi
    have hx2 := hx.2.1
    refine r_iload_n c_182_4 rfl <| r_aload_n c_182_5 rfl <| r_getf_i c_182_6 rfl rfl <| r_icmp_ge c_182_9 (fun h9 => ?_) <| (fun h9 => ?_)
    · exact absurd h9 (by omega)
    · refine r_iconst c_182_12 <| r_istore_n_4_3 c_182_13 rfl <| ?_
      refine lp_mds (os := os) (rs := rs) (lb := rs.getD i []) (rest := (rs.drop (i + 1)).flatten) (W := rtF T rs.flatten) hM hO (by omega) (by omega) (by omega) x82 x83 xsg (fun f' hf' b3 => ?_) (rs.getD i []).length 0 f (by omega) (by rw [List.drop_zero]; exact hf)
      refine r_iinc_4_2 c_182_66 rfl (by omega) <| r_goto c_182_69 <| ?_
      exact ih (i + 1) f' _ (by omega) hf'
theorem lp_mdd {σ : mk_S} {os rs : List (List Int)} {R : Int × Int} (hM : MT σ T) (hO : TOK T) (hx : mLx σ os rs) (h43 : σ 55 43 = (os.length : Int)) (f37 : σ 55 37 = 0)
    (k1 : R = (-1, 0) → Q (some (vI 1)) (hp L σ)) (k0 : 0 ≤ R.1 → ∀ σ', mD σ' 46 R.1 R.2 → mf [] [37, 38, 39] σ σ' → Q (some (vI 0)) (hp L σ')) : ∀ (k i : Nat) (a3 : mm_V), i + k = os.length → R = drF T (rs.drop i) i → mm_X 182 74 [vP 55, vI 1, vI (i : Nat), a3] [] (hp L σ) Q := by
  intro k
  have hx1 := hx.1
  have hx3 := hx.2.2.1
  induction k with
  | zero =>
    intro i a3 hi hR
    have ei : i = rs.length := by omega
    subst ei
    rw [List.drop_length] at hR
    simp only [drF] at hR
    refine r_iload_n c_182_74 rfl <| r_aload_n c_182_75 rfl <| r_getf_i c_182_76 rfl rfl <| r_icmp_ge c_182_79 (fun h79 => ?_) <| (fun h79 => ?_)
    · refine r_iconst c_182_111 <| r_zret c_182_112 (Or.inr rfl) <| ?_
      exact k1 hR
    · exact absurd h79 (by omega)
  | succ k ih =>
    intro i a3 hi hR
    rw [drs_at (by omega)] at hR
    simp only [drF] at hR
    have hxi := hx.2.2.2 i (by omega)
    have x83 := hxi.2.1
    have step : ¬ ((rs.getD i []).length ≠ 0 ∧ 0 ≤ dirW (drL T (rs.getD i []))) → mm_X 182 74 [vP 55, vI 1, vI ((i : Int) + 1), a3] [] (hp L σ) Q := by
      intro hn
      rw [if_neg hn] at hR
      exact ih (i + 1) _ (by omega) hR
    refine r_iload_n c_182_74 rfl <| r_aload_n c_182_75 rfl <| r_getf_i c_182_76 rfl rfl <| r_icmp_ge c_182_79 (fun h79 => ?_) <| (fun h79 => ?_)
    · exact absurd h79 (by omega)
    · refine r_iload_n c_182_82 rfl <| r_if_eq c_182_83 (fun h => absurd h (by decide)) <| (fun _ => ?_)
      refine r_aload_n c_182_86 rfl <| r_getf_a c_182_87 rfl rfl <| r_iload_n c_182_90 rfl <| r_iald c_182_91 rfl (Or.inl rfl) rfl (by omega) <| ?_
      rw [x83]
      refine r_if_le c_182_92 (fun h92 => ?_) <| (fun h92 => ?_)
      · refine r_iinc_4_2 c_182_105 rfl (by omega) <| r_goto c_182_108 <| ?_
        exact step (by intro h; omega)
      · refine r_aload_n c_182_95 rfl <| r_iload_n c_182_96 rfl <| r_cV1 c_182_97 rfl (Nat.le_of_ble_eq_true rfl) <| ?_
        refine ct_mdirection hM hO hx (by omega) rfl (by omega) f37 (fun hd => ?_) (fun hd σ2 g1 g2 => ?_)
        · refine r_if_ne c_182_100 (fun _ => ?_) <| (fun h => absurd h (by decide))
          refine r_iinc_4_2 c_182_105 rfl (by omega) <| r_goto c_182_108 <| ?_
          exact step (by intro h; omega)
        · refine r_if_ne c_182_100 (fun h => absurd h (by decide)) <| (fun _ => ?_)
          refine r_iconst c_182_103 <| r_zret c_182_104 (Or.inl rfl) <| ?_
          rw [if_pos ⟨by omega, hd⟩] at hR
          exact k0 (by rw [hR]; simp only []; omega) σ2 (by rw [hR]; exact g1) g2
theorem ct_mdirs {σ : mk_S} {os rs : List (List Int)} (hM : MT σ T) (hO : TOK T) (hx : mLx σ os rs) (h43 : σ 55 43 = (os.length : Int)) (f37 : σ 55 37 = 0)
    (k1 : (DR T rs).1 < 0 → Q (some (vI 1)) (hp L σ)) (k0 : 0 ≤ (DR T rs).1 → ∀ σ', mD σ' 46 (DR T rs).1 (DR T rs).2 → mf [] [37, 38, 39] σ σ' → Q (some (vI 0)) (hp L σ')) : mm_call 182 [vP 55] (hp L σ) Q := by
  unfold DR at k1 k0
  have hx3 := hx.2.2.1
  refine ⟨Nat.le_of_ble_eq_true rfl, ?_⟩
  show mm_X 182 0 [vP 55, mm_null, mm_null, mm_null] [] _ _
  refine r_iconst c_182_0 <| r_istore_n_4_1 c_182_1 rfl <| r_iconst c_182_2 <| r_istore_n_4_2 c_182_3 rfl <| ?_
  refine lp_mdo hM hO hx h43 (fun f hf a3 a2 => ?_) os.length 0 0 _ (by omega) (Or.inr ⟨rfl, by rw [List.drop_zero]⟩)
  have key : mm_X 182 74 [vP 55, vI f, vI 0, a3] [] (hp L σ) Q := by
    rcases hf with ⟨e, g⟩ | ⟨e, g⟩
    · subst e
      rw [if_neg (by rw [g]; decide)] at k1 k0
      exact lp_mdd (R := drF T rs 0) hM hO hx h43 f37 (fun e => k1 (by rw [e]; decide)) k0 os.length 0 _ (by omega) (by rw [List.drop_zero])
    · subst e
      rw [if_pos g] at k1
      have k1 := k1 (by decide)
      refine r_iload_n c_182_74 rfl <| r_aload_n c_182_75 rfl <| r_getf_i c_182_76 rfl rfl <| r_icmp_ge c_182_79 (fun h79 => ?_) <| (fun h79 => ?_)
      · refine r_iconst c_182_111 <| r_zret c_182_112 (Or.inr rfl) <| ?_
        exact k1
      · refine r_iload_n c_182_82 rfl <| r_if_eq c_182_83 (fun _ => ?_) <| (fun h => absurd h (by decide))
        refine r_iconst c_182_111 <| r_zret c_182_112 (Or.inr rfl) <| ?_
        exact k1
  refine r_iconst c_182_72 <| r_istore_n_4_2 c_182_73 rfl <| ?_
  exact key
end MDIR
