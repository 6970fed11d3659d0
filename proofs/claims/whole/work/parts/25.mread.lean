/-! READ, the reference's walk; and read, point, add of both. -/
section MREAD
variable {L : Nat} {Q : Option mm_V → mm_H → Prop}
theorem ct_octetAt {σ : mk_S} {t : List Int} (ho : octs t) (hl : mText σ t) (i : Nat) (k : Q (some (vI (if i < t.length then t.getD i 0 else -1))) (hp L σ)) : mm_call 138 [vP 55, vI i] (hp L σ) Q := by
  have e1 := hl.1
  have e2 := hl.2.1
  refine ⟨Nat.le_of_ble_eq_true rfl, ?_⟩
  show mm_X 138 0 [vP 55, vI i] [] _ _
  refine r_iload_n c_138_0 rfl <| r_aload_n c_138_1 rfl <| r_getf_i c_138_2 rfl rfl <| r_icmp_ge c_138_5 (fun h5 => ?_) <| (fun h5 => ?_)
  · refine r_iconst c_138_21 <| r_iret c_138_22 <| ?_
    first | (rw [if_neg (by omega)] at k; exact k) | (rw [if_pos (by omega)] at k; refine q_val k ?_; rw [hl.2.2 i (by omega)]; exact w8_255 (ho i (by omega)))
  · refine r_aload_n c_138_8 rfl <| r_getf_a c_138_9 rfl rfl <| r_iload_n c_138_12 rfl <| r_bald c_138_13 rfl (Or.inr rfl) rfl (by omega) <| r_sipush c_138_14 <| r_iand c_138_17 rfl <| r_goto c_138_18 <| r_iret c_138_22 <| ?_
    first | (rw [if_neg (by omega)] at k; exact k) | (rw [if_pos (by omega)] at k; refine q_val k ?_; rw [hl.2.2 i (by omega)]; exact w8_255 (ho i (by omega)))
def mGot (σ : mk_S) (ps : List Int) : Prop := σ 55 25 = (ps.length : Int) ∧ arr σ 73 ps
theorem mGot.eq {σ σ' : mk_S} {t : List Int} (h : mGot σ t) (e1 : σ' 55 25 = σ 55 25) (e2 : σ' 73 = σ 73) : mGot σ' t := by
  unfold mGot; rw [e1]; exact ⟨h.1, h.2.eq e2⟩
theorem lp_mread1 {σ : mk_S} {t : List Int} {R : List Int × Int} {ps : List Int} {i : Nat} {c mo : Int} (ho : octs t) (hl : mText σ t) (hf : σ 55 26 = -1) (hi : i < t.length) (hc : c = t.getD i 0) (hmo : mo = fol c) (hmo0 : 0 ≤ mo)
    (K : ∀ (v' : Int) (a6 a7 a8 : mm_V), i + mo.toNat + 1 ≤ t.length → -2147483648 ≤ v' ∧ v' ≤ 2147483647 → R = (if ps.length < 300 then rdF (t.drop (i + mo.toNat + 1)) (i + mo.toNat + 1) v' 0 128 191 (ps ++ [v']) else (ps, -2)) → mm_X 137 291 [vP 55, vI i, vI c, vI mo, vI v', vI ((mo.toNat + 1 : Nat) : Int), a6, a7, a8] [] (hp L σ) Q)
    (K2 : ∀ (z : Int), R = (ps, z) → Q none (hp L (sto σ 55 26 z))) :
    ∀ (k j : Nat) (v : Int) (a6 a7 a8 : mm_V), mo + 2 ≤ j + k → 1 ≤ j → (j : Int) ≤ mo + 1 → i + j ≤ t.length → (v ≤ 31 ∧ j = 1 ∨ v ≤ 2047 ∧ j = 2 ∨ v ≤ 131071 ∧ j = 3 ∨ v ≤ 8388607 ∧ j = 4 ∨ mo = 0) → 0 ≤ v → v ≤ 8388607 →
      ((j : Int) ≤ mo → R = rdF (t.drop (i + j)) (i + j) v (mo - j + 1) (if 1 < j then 128 else loS c) (if 1 < j then 191 else hiS c) ps) →
      ((j : Int) = mo + 1 → R = (if ps.length < 300 then rdF (t.drop (i + mo.toNat + 1)) (i + mo.toNat + 1) v 0 128 191 (ps ++ [v]) else (ps, -2))) →
      mm_X 137 149 [vP 55, vI i, vI c, vI mo, vI v, vI j, a6, a7, a8] [] (hp L σ) Q := by
  have hc3 : mo ≤ 3 := by rcases fol_cases c with ⟨e, h1⟩ | e | ⟨e, h1, h2⟩ | ⟨e, h1, h2⟩ | ⟨e, h1, h2⟩ <;> omega
  have hle := hl.2.1
  intro k
  induction k with
  | zero => intro j v a6 a7 a8 h1 h2 h3; omega
  | succ k ih =>
    intro j v a6 a7 a8 hk hj1 hj2 hjt hv hv0 hv1 hR hR2
    have X206 : ∀ (lo : Int), lo = (if 1 < j then 128 else loS c) → (j : Int) ≤ mo → ∀ (d : Int), d = (if i + j < t.length then t.getD (i + j) 0 else -1) → mm_X 137 206 [vP 55, vI i, vI c, vI mo, vI v, vI j, vI d, a7, a8] [vI lo] (hp L σ) Q := by
      intro lo hlo hjm d hd
      have X249 : ∀ (hi9 : Int), hi9 = (if 1 < j then 191 else hiS c) → mm_X 137 249 [vP 55, vI i, vI c, vI mo, vI v, vI j, vI d, vI lo, a8] [vI hi9] (hp L σ) Q := by
        intro hi9 hhi
        have hR1 := hR hjm
        have hlo128 : 128 ≤ lo := by rw [hlo]; unfold loS; (repeat' split) <;> omega
        have hhi191 : hi9 ≤ 191 := by rw [hhi]; unfold hiS; (repeat' split) <;> omega
        rw [← hlo, ← hhi] at hR1
        have hm0 : mo - j + 1 ≠ 0 := by omega
        refine r_istore_9_8 c_137_249 rfl <| r_iload c_137_251 rfl <| r_iload c_137_253 rfl <| r_iload c_137_255 rfl <| r_cS3 c_137_257 (Nat.le_of_ble_eq_true rfl) <| ?_
        refine ct_in _ _ _ (fun h257 => ?_) (fun h257 => ?_)
        · refine r_if_ne c_137_260 (fun _ => ?_) <| (fun h => absurd h (by decide))
          refine r_iload c_137_272 rfl <| r_bipush c_137_274 <| r_ishl c_137_276 (bs_shl6 (by omega)) <| r_iload c_137_277 rfl <| r_bipush c_137_279 <| r_iand c_137_281 (bs_mask6 (by omega)) <| r_ior c_137_282 (bs_or64 (by omega) (by omega)) <| r_istore_9_4 c_137_283 rfl <| r_iinc_9_5 c_137_285 rfl (by omega) <| r_goto c_137_288 <| ?_
          have hij : i + j < t.length := by
            by_cases hij : i + j < t.length
            · exact hij
            · rw [if_neg hij] at hd; omega
          rw [if_pos hij] at hd
          rw [show (j : Int) + 1 = ((j + 1 : Nat) : Int) by omega]
          rw [show v * 64 + d % 64 = v * 64 + d - 128 by omega]
          refine ih (j + 1) _ _ _ _ (by omega) (by omega) (by omega) (by omega) (by omega) (by omega) (by omega) (fun h9 => ?_) (fun h9 => ?_)
          · rw [hR1, drop_at hij, rdF, if_neg hm0, if_neg (by rw [← hd]; omega), if_neg (by omega), if_pos (by omega), if_pos (by omega), ← hd]
            rw [show mo - (j : Int) + 1 - 1 = mo - ((j + 1 : Nat) : Int) + 1 by omega]
            rfl
          · rw [hR1, drop_at hij, rdF, if_neg hm0, if_neg (by rw [← hd]; omega), if_pos (by omega), ← hd]
            rw [show mo.toNat = j by omega]
        · refine r_if_ne c_137_260 (fun h => absurd h (by decide)) <| (fun _ => ?_)
          refine r_aload_n c_137_263 rfl <| r_iload_n c_137_264 rfl <| r_iload c_137_265 rfl <| r_iadd c_137_267 (by omega) <| r_putf c_137_268 rfl rfl <| r_ret c_137_271 <| ?_
          refine K2 _ ?_
          by_cases hij : i + j < t.length
          · rw [if_pos hij] at hd
            rw [hR1, drop_at hij, rdF, if_neg hm0, if_pos (by rw [← hd]; omega)]
            congr 1
          · rw [hR1, List.drop_of_length_le (by omega), rdF, if_neg hm0]
            congr 1
      refine r_istore_9_7 c_137_206 rfl <| r_iload c_137_208 rfl <| r_iconst c_137_210 <| r_icmp_le c_137_211 (fun h211 => ?_) <| (fun h211 => ?_)
      · refine r_iload_n c_137_220 rfl <| r_sipush c_137_221 <| r_icmp_ne c_137_224 (fun h224 => ?_) <| (fun h224 => ?_)
        · refine r_iload_n c_137_233 rfl <| r_sipush c_137_234 <| r_icmp_ne c_137_237 (fun h237 => ?_) <| (fun h237 => ?_)
          · refine r_sipush c_137_246 <| ?_
            exact X249 _ (by unfold hiS; (repeat' split) <;> omega)
          · refine r_sipush c_137_240 <| r_goto c_137_243 <| ?_
            exact X249 _ (by unfold hiS; (repeat' split) <;> omega)
        · refine r_sipush c_137_227 <| r_goto c_137_230 <| ?_
          exact X249 _ (by unfold hiS; (repeat' split) <;> omega)
      · refine r_sipush c_137_214 <| r_goto c_137_217 <| ?_
        exact X249 _ (by unfold hiS; (repeat' split) <;> omega)
    refine r_iload c_137_149 rfl <| r_iload_n c_137_151 rfl <| r_icmp_gt c_137_152 (fun h152 => ?_) <| (fun h152 => ?_)
    · rw [show (j : Int) = ((mo.toNat + 1 : Nat) : Int) by omega]
      exact K v a6 a7 a8 (by omega) (by omega) (hR2 (by omega))
    · refine r_aload_n c_137_155 rfl <| r_iload_n c_137_156 rfl <| r_iload c_137_157 rfl <| r_iadd c_137_159 (by omega) <| r_cV1 c_137_160 rfl (Nat.le_of_ble_eq_true rfl) <| ?_
      rw [show (i : Int) + (j : Int) = ((i + j : Nat) : Int) by omega]
      refine ct_octetAt ho hl (i + j) ?_
      refine r_istore_9_6 c_137_163 rfl <| r_iload c_137_165 rfl <| r_iconst c_137_167 <| r_icmp_le c_137_168 (fun h168 => ?_) <| (fun h168 => ?_)
      · refine r_iload_n c_137_177 rfl <| r_sipush c_137_178 <| r_icmp_ne c_137_181 (fun h181 => ?_) <| (fun h181 => ?_)
        · refine r_iload_n c_137_190 rfl <| r_sipush c_137_191 <| r_icmp_ne c_137_194 (fun h194 => ?_) <| (fun h194 => ?_)
          · refine r_sipush c_137_203 <| ?_
            exact X206 _ (by unfold loS; (repeat' split) <;> omega) (by omega) _ rfl
          · refine r_sipush c_137_197 <| r_goto c_137_200 <| ?_
            exact X206 _ (by unfold loS; (repeat' split) <;> omega) (by omega) _ rfl
        · refine r_sipush c_137_184 <| r_goto c_137_187 <| ?_
          exact X206 _ (by unfold loS; (repeat' split) <;> omega) (by omega) _ rfl
      · refine r_sipush c_137_171 <| r_goto c_137_174 <| ?_
        exact X206 _ (by unfold loS; (repeat' split) <;> omega) (by omega) _ rfl
theorem lp_mread {t : List Int} {R : List Int × Int} (ho : octs t) : ∀ (k i : Nat) (ps : List Int) (a2 a3 a4 a5 a6 a7 a8 : mm_V) (σ : mk_S) (Q : Option mm_V → mm_H → Prop), t.length + 1 ≤ i + k → i ≤ t.length → mText σ t → mGot σ ps → ps.length ≤ 300 → σ 55 26 = -1 → R = rdF (t.drop i) i 0 0 128 191 ps →
    (∀ σ', mGot σ' R.1 → σ' 55 26 = R.2 → mf [73] [25, 26] σ σ' → Q none (hp L σ')) → mm_X 137 12 [vP 55, vI i, a2, a3, a4, a5, a6, a7, a8] [] (hp L σ) Q := by
  intro k
  induction k with
  | zero => intro i ps a2 a3 a4 a5 a6 a7 a8 σ Q h1 h2; omega
  | succ k ih =>
    intro i ps a2 a3 a4 a5 a6 a7 a8 σ Q hk hi2 hl hg hps hf hR kk
    have hle := hl.2.1
    have e1 := hl.1
    have e25 := hg.1
    have Xend : i = t.length → Q none (hp L σ) := by
      intro e
      rw [e, List.drop_length] at hR
      have hR : R = (ps, -1) := hR
      have := kk σ
      rw [hR] at this
      exact this hg hf mf.rf
    have X97 : ∀ (hi : i < t.length) (mo : Int), mo = fol (t.getD i 0) → mm_X 137 97 [vP 55, vI i, vI (t.getD i 0), a3, a4, a5, a6, a7, a8] [vI mo] (hp L σ) Q := by
      intro hi mo hmo
      have hoi := ho i hi
      rw [drop_at hi] at hR
      have X144 : ∀ (v : Int), v = bof (t.getD i 0) mo → 0 ≤ mo → mm_X 137 144 [vP 55, vI i, vI (t.getD i 0), vI mo, a4, a5, a6, a7, a8] [vI v] (hp L σ) Q := by
        intro v hv hmo0
        have hfc := fol_cases (t.getD i 0)
        rw [← hmo] at hfc
        have hvb : 0 ≤ v ∧ (mo = 0 ∨ v ≤ 31) ∧ v ≤ 127 := by rw [hv]; unfold bof; (repeat' split) <;> omega
        rw [rdF, if_pos rfl, ← hmo, if_neg (by omega)] at hR
        refine r_istore_9_4 c_137_144 rfl <| r_iconst c_137_146 <| r_istore_9_5 c_137_147 rfl <| ?_
        refine lp_mread1 (L := L) (R := R) (ps := ps) (mo := mo) ho hl hf hi rfl hmo hmo0 (fun v' a6 a7 a8 hit hv' hR' => ?_) (fun z hz => ?_) (mo.toNat + 1) 1 v _ _ _ (by omega) (by omega) (by omega) (by omega) (by omega) (by omega) (by omega) (fun h9 => ?_) (fun h9 => ?_)
        · refine r_aload_n c_137_291 rfl <| r_getf_i c_137_292 rfl rfl <| r_sipush c_137_295 <| r_icmp_ne c_137_298 (fun h298 => ?_) <| (fun h298 => ?_)
          · refine r_aload_n c_137_308 rfl <| r_getf_a c_137_309 rfl rfl <| r_aload_n c_137_312 rfl <| r_getf_i c_137_313 rfl rfl <| r_iload c_137_316 rfl <| r_iast c_137_318 rfl (jn := ps.length) (by omega) (by omega) <| r_aload_n c_137_319 rfl <| r_dup c_137_320 rfl <| r_getf_i c_137_321 rfl rfl <| r_iconst c_137_324 <| ?_
            refine r_iadd c_137_325 (by rw [sto_get2 (Or.inl (by decide)), e25]; omega) <| r_putf c_137_326 rfl rfl <| r_iload_n c_137_329 rfl <| r_iload_n c_137_330 rfl <| r_iconst c_137_331 <| r_iadd c_137_332 (by omega) <| r_iadd c_137_333 (by omega) <| r_istore_n_9_1 c_137_334 rfl <| r_goto c_137_335 <| ?_
            rw [if_pos (by omega)] at hR'
            rw [show (i : Int) + (mo + 1) = ((i + mo.toNat + 1 : Nat) : Int) by omega]
            have hfr : mf [73] [25, 26] σ (sto (sto σ 73 ps.length v') 55 25 (sto σ 73 ps.length v' 55 25 + 1)) := (mf.rf.stA (by decide) (by decide)).stF (by decide)
            refine ih (i + mo.toNat + 1) (ps ++ [v']) _ _ _ _ _ _ _ _ Q (by omega) hit (hl.eq (hfr.2 2 (by decide)) (hfr.1 56 (by decide) (by decide))) ⟨?_, arr_push hg.2 (by rw [sto_ne (by decide), sto_at])⟩ (by simp; omega) ((sto_get2 (Or.inr (by decide))).trans ((sto_get2 (Or.inl (by decide))).trans hf)) ?_ (fun σ2 g1 g2 g3 => kk σ2 g1 g2 (hfr.tr g3))
            · rw [sto_get, sto_get2 (Or.inl (by decide)), e25]; simp
            · rw [hR']; exact rdF_z _ _ _ _ _ _ _ _ _
          · refine r_aload_n c_137_301 rfl <| r_bipush c_137_302 <| r_putf c_137_304 rfl rfl <| r_ret c_137_307 <| ?_
            rw [if_neg (by omega)] at hR'
            have := kk (sto σ 55 26 (-2))
            rw [hR'] at this
            exact this (hg.eq (sto_get2 (Or.inr (by decide))) (sto_ne (by decide))) (sto_get _ _ _ _) (mf.rf.stF (by decide))
        · have := kk (sto σ 55 26 z)
          rw [hz] at this
          exact this (hg.eq (sto_get2 (Or.inr (by decide))) (sto_ne (by decide))) (sto_get _ _ _ _) (mf.rf.stF (by decide))
        · rw [hR, if_neg (by omega), if_neg (by omega), if_neg (by omega), hv]
          rw [show mo - ((1 : Nat) : Int) + 1 = mo by omega]
        · rw [hR, if_pos (by omega), hv, show mo = 0 by omega]
          split
          · exact rdF_z _ _ _ _ _ _ _ _ _
          · rfl
      refine r_istore_n_9_3 c_137_97 rfl <| r_iload_n c_137_98 rfl <| r_if_ge c_137_99 (fun h99 => ?_) <| (fun h99 => ?_)
      · refine r_iload_n c_137_108 rfl <| r_if_ne c_137_109 (fun h109 => ?_) <| (fun h109 => ?_)
        · refine r_iload_n c_137_116 rfl <| r_iconst c_137_117 <| r_icmp_ne c_137_118 (fun h118 => ?_) <| (fun h118 => ?_)
          · refine r_iload_n c_137_128 rfl <| r_iconst c_137_129 <| r_icmp_ne c_137_130 (fun h130 => ?_) <| (fun h130 => ?_)
            · refine r_iload_n c_137_140 rfl <| r_bipush c_137_141 <| r_iand c_137_143 (bs_mask3 (by omega)) <| ?_
              have hfc := fol_cases (t.getD i 0)
              rw [← hmo] at hfc
              exact X144 _ (by unfold bof; (repeat' split) <;> omega) (by omega)
            · refine r_iload_n c_137_133 rfl <| r_bipush c_137_134 <| r_iand c_137_136 (bs_mask4 (by omega)) <| r_goto c_137_137 <| ?_
              have hfc := fol_cases (t.getD i 0)
              rw [← hmo] at hfc
              exact X144 _ (by unfold bof; (repeat' split) <;> omega) (by omega)
          · refine r_iload_n c_137_121 rfl <| r_bipush c_137_122 <| r_iand c_137_124 (bs_mask5 (by omega)) <| r_goto c_137_125 <| ?_
            have hfc := fol_cases (t.getD i 0)
            rw [← hmo] at hfc
            exact X144 _ (by unfold bof; (repeat' split) <;> omega) (by omega)
        · refine r_iload_n c_137_112 rfl <| r_goto c_137_113 <| ?_
          have hfc := fol_cases (t.getD i 0)
          rw [← hmo] at hfc
          exact X144 _ (by unfold bof; (repeat' split) <;> omega) (by omega)
      · refine r_aload_n c_137_102 rfl <| r_iload_n c_137_103 rfl <| r_putf c_137_104 rfl rfl <| r_ret c_137_107 <| ?_
        rw [rdF, if_pos rfl, ← hmo, if_pos (by omega)] at hR
        have := kk (sto σ 55 26 i)
        rw [hR] at this
        exact this (hg.eq (sto_get2 (Or.inr (by decide))) (sto_ne (by decide))) (sto_get _ _ _ _) (mf.rf.stF (by decide))
    refine r_iload_n c_137_12 rfl <| r_aload_n c_137_13 rfl <| r_getf_i c_137_14 rfl rfl <| r_icmp_ge c_137_17 (fun h17 => ?_) <| (fun h17 => ?_)
    · refine r_ret c_137_338 <| ?_
      first | exact absurd h25 (by omega) | exact Xend (by omega)
    · refine r_aload_n c_137_20 rfl <| r_getf_i c_137_21 rfl rfl <| r_iconst c_137_24 <| r_icmp_ne c_137_25 (fun h25 => ?_) <| (fun h25 => ?_)
      · refine r_ret c_137_338 <| ?_
        first | exact absurd h25 (by omega) | exact Xend (by omega)
      · refine r_aload_n c_137_28 rfl <| r_iload_n c_137_29 rfl <| r_cV1 c_137_30 rfl (Nat.le_of_ble_eq_true rfl) <| ?_
        refine ct_octetAt ho hl i ?_
        rw [if_pos (by omega)]
        refine r_istore_n_9_2 c_137_33 rfl <| r_iload_n c_137_34 rfl <| r_sipush c_137_35 <| r_icmp_ge c_137_38 (fun h38 => ?_) <| (fun h38 => ?_)
        · refine r_iload_n c_137_45 rfl <| r_sipush c_137_46 <| r_sipush c_137_49 <| r_cS3 c_137_52 (Nat.le_of_ble_eq_true rfl) <| ?_
          refine ct_in _ _ _ (fun h52 => ?_) (fun h52 => ?_)
          · refine r_if_eq c_137_55 (fun h => absurd h (by decide)) <| (fun _ => ?_)
            refine r_iconst c_137_58 <| r_goto c_137_59 <| ?_
            exact X97 (by omega) _ (by unfold fol; (repeat' split) <;> omega)
          · refine r_if_eq c_137_55 (fun _ => ?_) <| (fun h => absurd h (by decide))
            refine r_iload_n c_137_62 rfl <| r_sipush c_137_63 <| r_sipush c_137_66 <| r_cS3 c_137_69 (Nat.le_of_ble_eq_true rfl) <| ?_
            refine ct_in _ _ _ (fun h69 => ?_) (fun h69 => ?_)
            · refine r_if_eq c_137_72 (fun h => absurd h (by decide)) <| (fun _ => ?_)
              refine r_iconst c_137_75 <| r_goto c_137_76 <| ?_
              exact X97 (by omega) _ (by unfold fol; (repeat' split) <;> omega)
            · refine r_if_eq c_137_72 (fun _ => ?_) <| (fun h => absurd h (by decide))
              refine r_iload_n c_137_79 rfl <| r_sipush c_137_80 <| r_sipush c_137_83 <| r_cS3 c_137_86 (Nat.le_of_ble_eq_true rfl) <| ?_
              refine ct_in _ _ _ (fun h86 => ?_) (fun h86 => ?_)
              · refine r_if_eq c_137_89 (fun h => absurd h (by decide)) <| (fun _ => ?_)
                refine r_iconst c_137_92 <| r_goto c_137_93 <| ?_
                exact X97 (by omega) _ (by unfold fol; (repeat' split) <;> omega)
              · refine r_if_eq c_137_89 (fun _ => ?_) <| (fun h => absurd h (by decide))
                refine r_iconst c_137_96 <| ?_
                exact X97 (by omega) _ (by unfold fol; (repeat' split) <;> omega)
        · refine r_iconst c_137_41 <| r_goto c_137_42 <| ?_
          exact X97 (by omega) _ (by unfold fol; (repeat' split) <;> omega)
theorem ct_mread {σ : mk_S} {t : List Int} (ho : octs t) (hl : mText σ t) (k : ∀ σ', mGot σ' (RD t).1 → σ' 55 26 = (RD t).2 → mf [73] [25, 26] σ σ' → Q none (hp L σ')) : mm_call 137 [vP 55] (hp L σ) Q := by
  refine ⟨Nat.le_of_ble_eq_true rfl, ?_⟩
  show mm_X 137 0 [vP 55, mm_null, mm_null, mm_null, mm_null, mm_null, mm_null, mm_null, mm_null] [] _ _
  refine r_aload_n c_137_0 rfl <| r_iconst c_137_1 <| r_putf c_137_2 rfl rfl <| r_aload_n c_137_5 rfl <| r_iconst c_137_6 <| r_putf c_137_7 rfl rfl <| r_iconst c_137_10 <| r_istore_n_9_1 c_137_11 rfl <| ?_
  have hfr : mf [73] [25, 26] σ (sto (sto σ 55 25 0) 55 26 (-1)) := (mf.rf.stF (by decide)).stF (by decide)
  exact lp_mread (R := RD t) ho (t.length + 1) 0 [] _ _ _ _ _ _ _ _ Q (by omega) (by omega) (hl.eq (hfr.2 2 (by decide)) (hfr.1 56 (by decide) (by decide))) ⟨(sto_get2 (Or.inr (by decide))).trans (sto_get _ _ _ _), arr_nil⟩ (Nat.zero_le _) (sto_get _ _ _ _) (by rw [List.drop_zero]; rfl) (fun σ2 g1 g2 g3 => k σ2 g1 g2 (hfr.tr g3))
end MREAD
