/-! MAKE: the model looks at one label. -/
section MLOOKAT
variable {L : Nat} {T : mk_S} {Q : Option mm_V → mm_H → Prop}
theorem lp_mbad {σ : mk_S} {u : List Int} {st : Nat} {i : Int} {a3 : mm_V} {R : Int} (hM : MT σ T) (hO : TOK T) (hs : seg σ 81 st u) (hst : st + u.length ≤ 300) (f37 : σ 55 37 = 0)
    (k1 : R = -1 → ∀ a5, mm_X 179 275 [vP 55, vI i, vI (st : Nat), a3, vI (u.length : Nat), a5] [] (hp L σ) Q) (k0 : 0 ≤ R → ∀ σ', mD σ' 44 i R → mf [] [37, 38, 39] σ σ' → Q (some (vI 0)) (hp L σ')) : ∀ (k j : Nat), j + k = u.length → R = badF T (u.drop j) j → mm_X 179 222 [vP 55, vI i, vI (st : Nat), a3, vI (u.length : Nat), vI (j : Nat)] [] (hp L σ) Q := by
  intro k
  induction k with
  | zero =>
    intro j hj hR
    have ej : j = u.length := by omega
    subst ej
    rw [List.drop_length] at hR
    simp only [badF] at hR
    refine r_iload c_179_222 rfl <| r_iload c_179_224 rfl <| r_icmp_ge c_179_226 (fun h226 => ?_) <| (fun h226 => ?_)
    · exact k1 hR _
    · exact absurd h226 (by omega)
  | succ k ih =>
    intro j hj hR
    rw [drop_at (by omega)] at hR
    simp only [badF] at hR
    have hx := hs j (by omega)
    generalize hpv : u.getD j 0 = p at *
    refine r_iload c_179_222 rfl <| r_iload c_179_224 rfl <| r_icmp_ge c_179_226 (fun h226 => ?_) <| (fun h226 => ?_)
    · exact absurd h226 (by omega)
    · refine r_aload_n c_179_229 rfl <| r_aload_n c_179_230 rfl <| r_getf_a c_179_231 rfl rfl <| r_iload_n c_179_234 rfl <| r_iload c_179_235 rfl <| r_iadd c_179_237 (by omega) <| r_iald c_179_238 rfl (Or.inl rfl) (jn := st + j) (by omega) (by omega) <| ?_
      rw [hx]
      refine r_cV1 c_179_239 rfl (Nat.le_of_ble_eq_true rfl) <| ?_
      refine ct_mstatus hM hO p ?_
      refine r_if_ne c_179_242 (fun h242 => ?_) <| (fun h242 => ?_)
      · refine r_aload_n c_179_259 rfl <| r_bipush c_179_260 <| r_iload_n c_179_262 rfl <| r_iload c_179_263 rfl <| r_cV3 c_179_265 rfl (Nat.le_of_ble_eq_true rfl) <| ?_
        refine ct_wrong _ _ _ f37 (fun σ2 hd2 hf2 => ?_)
        refine r_zret c_179_268 (by omega) <| ?_
        have e : R = j := by
          rw [hR]
          first
          | exact if_pos (Or.inl (by assumption))
          | exact if_pos (Or.inr (by assumption))
        exact k0 (by omega) σ2 (by rw [e]; exact hd2) hf2
      · refine r_aload_n c_179_245 rfl <| r_getf_a c_179_246 rfl rfl <| r_iload_n c_179_249 rfl <| r_iload c_179_250 rfl <| r_iadd c_179_252 (by omega) <| r_iald c_179_253 rfl (Or.inl rfl) (jn := st + j) (by omega) (by omega) <| ?_
        rw [hx]
        refine r_bipush c_179_254 <| r_icmp_ne c_179_256 (fun h256 => ?_) <| (fun h256 => ?_)
        · refine r_iinc_6_5 c_179_269 rfl (by omega) <| r_goto c_179_272 <| ?_
          rw [if_neg (fun h => h.elim (fun h => absurd h (by assumption)) (fun h => h (by assumption)))] at hR
          exact ih (j + 1) (by omega) hR
        · refine r_aload_n c_179_259 rfl <| r_bipush c_179_260 <| r_iload_n c_179_262 rfl <| r_iload c_179_263 rfl <| r_cV3 c_179_265 rfl (Nat.le_of_ble_eq_true rfl) <| ?_
          refine ct_wrong _ _ _ f37 (fun σ2 hd2 hf2 => ?_)
          refine r_zret c_179_268 (by omega) <| ?_
          have e : R = j := by
            rw [hR]
            first
            | exact if_pos (Or.inl (by assumption))
            | exact if_pos (Or.inr (by assumption))
          exact k0 (by omega) σ2 (by rw [e]; exact hd2) hf2
theorem lp_mjo {σ : mk_S} {u : List Int} {st : Nat} {i : Int} {a3 : mm_V} {R : Int} (hM : MT σ T) (hO : TOK T) (hs : seg σ 81 st u) (hst : st + u.length ≤ 300) (f37 : σ 55 37 = 0)
    (k1 : R = -1 → Q (some (vI 1)) (hp L σ)) (k0 : 0 ≤ R → ∀ σ', mD σ' 45 i R → mf [] [37, 38, 39] σ σ' → Q (some (vI 0)) (hp L σ')) : ∀ (k j : Nat), j + k = u.length → R = joF T u k j → mm_X 179 278 [vP 55, vI i, vI (st : Nat), a3, vI (u.length : Nat), vI (j : Nat)] [] (hp L σ) Q := by
  intro k
  induction k with
  | zero =>
    intro j hj hR
    simp only [joF] at hR
    refine r_iload c_179_278 rfl <| r_iload c_179_280 rfl <| r_icmp_ge c_179_282 (fun h282 => ?_) <| (fun h282 => ?_)
    · refine r_iconst c_179_334 <| r_zret c_179_335 (Or.inr rfl) <| ?_
      exact k1 hR
    · exact absurd h282 (by omega)
  | succ k ih =>
    intro j hj hR
    simp only [joF] at hR
    have hx := hs j (by omega)
    have next : ¬ ((u.getD j 0 = 8204 ∨ u.getD j 0 = 8205) ∧ ¬ fitP T u j) → mm_X 179 278 [vP 55, vI i, vI (st : Nat), a3, vI (u.length : Nat), vI ((j : Int) + 1)] [] (hp L σ) Q := by
      intro hn
      rw [if_neg hn] at hR
      exact ih (j + 1) (by omega) hR
    have halt : ((u.getD j 0 = 8204 ∨ u.getD j 0 = 8205) ∧ ¬ fitP T u j) → ∀ σ1, mD σ1 45 i j → mf [] [37, 38, 39] σ σ1 → Q (some (vI 0)) (hp L σ1) := by
      intro hy σ1 g1 g2
      rw [if_pos hy] at hR
      exact k0 (by omega) σ1 (by rw [hR]; exact g1) g2
    clear hR k0 k1 ih
    generalize hpv : u.getD j 0 = p at hx
    rw [hpv] at next halt
    refine r_iload c_179_278 rfl <| r_iload c_179_280 rfl <| r_icmp_ge c_179_282 (fun h282 => ?_) <| (fun h282 => ?_)
    · exact absurd h282 (by omega)
    · refine r_aload_n c_179_285 rfl <| r_getf_a c_179_286 rfl rfl <| r_iload_n c_179_289 rfl <| r_iload c_179_290 rfl <| r_iadd c_179_292 (by omega) <| r_iald c_179_293 rfl (Or.inl rfl) (jn := st + j) (by omega) (by omega) <| ?_
      rw [hx]
      refine r_sipush c_179_294 <| r_sipush c_179_297 <| r_cS3 c_179_300 (Nat.le_of_ble_eq_true rfl) <| ?_
      refine ct_in _ _ _ (fun hi => ?_) (fun hi => ?_)
      · refine r_if_eq c_179_303 (fun h => absurd h (by decide)) <| (fun _ => ?_)
        refine r_aload_n c_179_306 rfl <| r_iload_n c_179_307 rfl <| r_iload c_179_308 rfl <| r_iload c_179_310 rfl <| r_cV3 c_179_312 rfl (Nat.le_of_ble_eq_true rfl) <| ?_
        refine ct_fits hM hO hs hst (by omega) (fun hf => ?_) (fun hf => ?_)
        · refine r_if_ne c_179_315 (fun _ => ?_) <| (fun h => absurd h (by decide))
          refine r_iinc_6_5 c_179_328 rfl (by omega) <| r_goto c_179_331 <| ?_
          first | exact next (fun h => h.2 hf) | exact next (fun h => by have := h.1; omega)
        · refine r_if_ne c_179_315 (fun h => absurd h (by decide)) <| (fun _ => ?_)
          refine r_aload_n c_179_318 rfl <| r_bipush c_179_319 <| r_iload_n c_179_321 rfl <| r_iload c_179_322 rfl <| r_cV3 c_179_324 rfl (Nat.le_of_ble_eq_true rfl) <| ?_
          refine ct_wrong _ _ _ f37 (fun σ2 hd2 hf2 => ?_)
          refine r_zret c_179_327 (by omega) <| ?_
          exact halt ⟨by omega, hf⟩ σ2 hd2 hf2
      · refine r_if_eq c_179_303 (fun _ => ?_) <| (fun h => absurd h (by decide))
        refine r_iinc_6_5 c_179_328 rfl (by omega) <| r_goto c_179_331 <| ?_
        first | exact next (fun h => h.2 hf) | exact next (fun h => by have := h.1; omega)
abbrev lkA : List Nat := [74, 75, 76, 79, 81, 83]
theorem ct_mrl {σ : mk_S} {u : List Int} {st : Nat} {i : Nat} {a3 a5 : mm_V} {v3 : Int} (hM : MT σ T) (hO : TOK T) (hs : seg σ 81 st u) (hst : st + u.length ≤ 300) (hu : u.length ≠ 0) (h83 : σ 83 i = (u.length : Int)) (hi : i < 301) (f37 : σ 55 37 = 0)
    (k1 : (ruL T u).1 = 0 → Q (some (vI 1)) (hp L σ)) (k0 : (ruL T u).1 ≠ 0 → ∀ σ', mD σ' (ruL T u).1 i (ruL T u).2 → mf [] [37, 38, 39] σ σ' → Q (some (vI 0)) (hp L σ')) : mm_X 179 98 [vP 55, vI (i : Nat), vI (st : Nat), vI v3, mm_null, mm_null] [] (hp L σ) Q := by
  have e0 : gt u 0 = u.getD 0 0 := gt_nat (j := 0) (by omega)
  have en : gt u ((u.length : Int) - 1) = u.getD (u.length - 1) 0 := by rw [show (u.length : Int) - 1 = ((u.length - 1 : Nat) : Int) by omega]; exact gt_nat (by omega)
  have e2 : 4 ≤ u.length → gt u 2 = u.getD 2 0 ∧ gt u 3 = u.getD 3 0 := fun h => ⟨gt_nat (j := 2) (by omega), gt_nat (j := 3) (by omega)⟩
  have e3 : ¬ 4 ≤ u.length → ¬ (gt u 2 = 45 ∧ gt u 3 = 45) := fun h g => by have := gt_out (l := u) (i := 3) (Or.inr (by omega)); omega
  have x0 := hs 0 (by omega)
  have xn := hs (u.length - 1) (by omega)
  have x2 : 4 ≤ u.length → σ 81 (st + 2) = u.getD 2 0 := fun h => hs 2 (by omega)
  have x3 : 4 ≤ u.length → σ 81 (st + 3) = u.getD 3 0 := fun h => hs 3 (by omega)
  rw [Nat.add_zero] at x0
  unfold ruL at k1 k0
  rw [e0, en] at k1 k0
  generalize u.getD 0 0 = c0 at *
  generalize u.getD (u.length - 1) 0 = cn at *
  have hb := badF_or (T := T) u 0
  have hj := joF_or (T := T) (lb := u) u.length 0
  have key : ¬ (gt u 2 = 45 ∧ gt u 3 = 45) → mm_X 179 147 [vP 55, vI (i : Nat), vI (st : Nat), vI v3, vI (u.length : Nat), mm_null] [] (hp L σ) Q := by
    intro g
    rw [if_neg g] at k1 k0
    refine r_aload_n c_179_147 rfl <| r_getf_a c_179_148 rfl rfl <| r_iload_n c_179_151 rfl <| r_iald c_179_152 rfl (Or.inl rfl) (jn := st) (by omega) (by omega) <| ?_
    rw [x0]
    refine r_bipush c_179_153 <| r_icmp_ne c_179_155 (fun h155 => ?_) <| (fun h155 => ?_)
    · rw [if_neg (by assumption)] at k1 k0
      refine r_aload_n c_179_167 rfl <| r_getf_a c_179_168 rfl rfl <| r_iload_n c_179_171 rfl <| r_iload c_179_172 rfl <| r_iadd c_179_174 (by omega) <| r_iconst c_179_175 <| r_isub c_179_176 (by omega) <| r_iald c_179_177 rfl (Or.inl rfl) (jn := st + (u.length - 1)) (by omega) (by omega) <| ?_
      rw [xn]
      refine r_bipush c_179_178 <| r_icmp_ne c_179_180 (fun h180 => ?_) <| (fun h180 => ?_)
      · rw [if_neg (by assumption)] at k1 k0
        refine r_aload_n c_179_195 rfl <| r_iconst c_179_196 <| r_aload_n c_179_197 rfl <| r_getf_a c_179_198 rfl rfl <| r_iload_n c_179_201 rfl <| r_iald c_179_202 rfl (Or.inl rfl) (jn := st) (by omega) (by omega) <| ?_
        rw [x0]
        refine r_cV2 c_179_203 rfl (Nat.le_of_ble_eq_true rfl) <| ?_
        refine ct_mrange hM hO _ _ ?_
        refine r_iconst c_179_206 <| r_icmp_ne c_179_207 (fun h207 => ?_) <| (fun h207 => ?_)
        · rw [if_neg (by assumption)] at k1 k0
          refine r_iconst c_179_219 <| r_istore_6_5 c_179_220 rfl <| ?_
          refine lp_mbad (R := badF T u 0) hM hO hs hst f37 (fun e b5 => ?_) (fun e σ2 g1 g2 => ?_) u.length 0 (by omega) (by rw [List.drop_zero])
          · rw [if_neg (by omega)] at k1 k0
            refine r_iconst c_179_275 <| r_istore_6_5 c_179_276 rfl <| ?_
            refine lp_mjo (R := joF T u u.length 0) hM hO hs hst f37 (fun e => ?_) (fun e σ2 g1 g2 => ?_) u.length 0 (by omega) rfl
            · rw [if_neg (by omega)] at k1
              exact k1 rfl
            · rw [if_pos e] at k0
              exact k0 (by simp) σ2 g1 g2
          · rw [if_pos e] at k0
            exact k0 (by simp) σ2 g1 g2
        · refine r_aload_n c_179_210 rfl <| r_bipush c_179_211 <| r_iload_n c_179_213 rfl <| r_iconst c_179_214 <| r_cV3 c_179_215 rfl (Nat.le_of_ble_eq_true rfl) <| ?_
          refine ct_wrong _ _ _ f37 (fun σ2 hd2 hf2 => ?_)
          refine r_zret c_179_218 (by omega) <| ?_
          rw [if_pos (by assumption)] at k0
          exact k0 (by simp) σ2 hd2 hf2
      · refine r_aload_n c_179_183 rfl <| r_bipush c_179_184 <| r_iload_n c_179_186 rfl <| r_iload c_179_187 rfl <| r_iconst c_179_189 <| r_isub c_179_190 (by omega) <| r_cV3 c_179_191 rfl (Nat.le_of_ble_eq_true rfl) <| ?_
        refine ct_wrong _ _ _ f37 (fun σ2 hd2 hf2 => ?_)
        refine r_zret c_179_194 (by omega) <| ?_
        rw [if_pos (by assumption)] at k0
        exact k0 (by simp) σ2 hd2 hf2
    · refine r_aload_n c_179_158 rfl <| r_bipush c_179_159 <| r_iload_n c_179_161 rfl <| r_iconst c_179_162 <| r_cV3 c_179_163 rfl (Nat.le_of_ble_eq_true rfl) <| ?_
      refine ct_wrong _ _ _ f37 (fun σ2 hd2 hf2 => ?_)
      refine r_zret c_179_166 (by omega) <| ?_
      rw [if_pos (by assumption)] at k0
      exact k0 (by simp) σ2 hd2 hf2
  refine r_aload_n c_179_98 rfl <| r_getf_a c_179_99 rfl rfl <| r_iload_n c_179_102 rfl <| r_iald c_179_103 rfl (Or.inl rfl) rfl (by omega) <| ?_
  rw [h83]
  refine r_istore_6_4 c_179_104 rfl <| r_iload c_179_106 rfl <| r_iconst c_179_108 <| r_icmp_lt c_179_109 (fun h109 => ?_) <| (fun h109 => ?_)
  · first
    | exact key (e3 (by omega))
    | exact key (fun h => absurd h.1 (by rw [(e2 (by omega)).1]; assumption))
    | exact key (fun h => absurd h.2 (by rw [(e2 (by omega)).2]; assumption))
  · refine r_aload_n c_179_112 rfl <| r_getf_a c_179_113 rfl rfl <| r_iload_n c_179_116 rfl <| r_iconst c_179_117 <| r_iadd c_179_118 (by omega) <| r_iald c_179_119 rfl (Or.inl rfl) (jn := st + 2) (by omega) (by omega) <| ?_
    rw [x2 (by omega)]
    refine r_bipush c_179_120 <| r_icmp_ne c_179_122 (fun h122 => ?_) <| (fun h122 => ?_)
    · first
      | exact key (e3 (by omega))
      | exact key (fun h => absurd h.1 (by rw [(e2 (by omega)).1]; assumption))
      | exact key (fun h => absurd h.2 (by rw [(e2 (by omega)).2]; assumption))
    · refine r_aload_n c_179_125 rfl <| r_getf_a c_179_126 rfl rfl <| r_iload_n c_179_129 rfl <| r_iconst c_179_130 <| r_iadd c_179_131 (by omega) <| r_iald c_179_132 rfl (Or.inl rfl) (jn := st + 3) (by omega) (by omega) <| ?_
      rw [x3 (by omega)]
      refine r_bipush c_179_133 <| r_icmp_ne c_179_135 (fun h135 => ?_) <| (fun h135 => ?_)
      · first
        | exact key (e3 (by omega))
        | exact key (fun h => absurd h.1 (by rw [(e2 (by omega)).1]; assumption))
        | exact key (fun h => absurd h.2 (by rw [(e2 (by omega)).2]; assumption))
      · refine r_aload_n c_179_138 rfl <| r_bipush c_179_139 <| r_iload_n c_179_141 rfl <| r_iconst c_179_142 <| r_cV3 c_179_143 rfl (Nat.le_of_ble_eq_true rfl) <| ?_
        refine ct_wrong _ _ _ f37 (fun σ2 hd2 hf2 => ?_)
        refine r_zret c_179_146 (by omega) <| ?_
        rw [if_pos (by have := e2 (by omega); exact ⟨by rw [this.1]; assumption, by rw [this.2]; assumption⟩)] at k0
        exact k0 (by simp) σ2 hd2 hf2
theorem set_self {rs : List (List Int)} {i : Nat} (hi : i < rs.length) : rs.set i (rs.getD i []) = rs := by
  rw [List.getD_eq_getElem?_getD, List.getElem?_eq_getElem hi]
  exact List.set_getElem_self hi
theorem ct_mlook {σ : mk_S} {os rs : List (List Int)} {i : Nat} {lb : List Int} (hM : MT σ T) (hO : TOK T) (hx : mLx σ os rs) (hi : i < os.length) (hlb : rs.getD i [] = lb) (hpl : pts lb) (f37 : σ 55 37 = 0)
    (k1 : (lkL T lb).2.1 = 0 → ∀ σ', mLx σ' os (rs.set i (lkL T lb).1) → mf lkA [28, 31, 36] σ σ' → Q (some (vI 1)) (hp L σ'))
    (k0 : (lkL T lb).2.1 ≠ 0 → ∀ σ', mD σ' (lkL T lb).2.1 i (lkL T lb).2.2 → mf lkA [28, 31, 36, 37, 38, 39] σ σ' → Q (some (vI 0)) (hp L σ')) : mm_call 179 [vP 55, vI (i : Nat)] (hp L σ) Q := by
  have hxi := hx.2.2.2 i hi
  have hof := ofs_fit hi
  have hx1 := hx.1
  have hself : rs.set i lb = rs := by rw [← hlb]; exact set_self (by omega)
  rw [hlb] at hxi
  obtain ⟨x82, x83, xle, xsg⟩ := hxi
  have hx2 := hx.2.1
  have hx3 := hx.2.2.1
  unfold lkL at k1 k0
  have x0 : 4 ≤ lb.length → σ 81 (ofs os i) = gt lb 0 := fun h => by have := xsg 0 (by omega); rw [Nat.add_zero] at this; rw [this]; exact (gt_nat (j := 0) (by omega)).symm
  have xk : ∀ k : Nat, k < lb.length → σ 81 (ofs os i + k) = gt lb k := fun k h => by rw [xsg k h]; exact (gt_nat h).symm
  have xa : 4 ≤ lb.length → σ 81 (ofs os i + 1) = gt lb 1 := fun h => xk 1 (by omega)
  have xb : 4 ≤ lb.length → σ 81 (ofs os i + 2) = gt lb 2 := fun h => xk 2 (by omega)
  have xc : 4 ≤ lb.length → σ 81 (ofs os i + 3) = gt lb 3 := fun h => xk 3 (by omega)
  have key : lb.length ≠ 0 → (pfx lb → mm_X 179 84 [vP 55, vI (i : Nat), vI (ofs os i : Nat), vI 1, mm_null, mm_null] [] (hp L σ) Q) ∧ (¬ pfx lb → mm_X 179 84 [vP 55, vI (i : Nat), vI (ofs os i : Nat), vI 0, mm_null, mm_null] [] (hp L σ) Q) := by
    intro hne
    rw [if_neg hne] at k1 k0
    constructor
    · intro hpf
      refine r_iload_n c_179_84 rfl <| r_if_eq c_179_85 (fun h => absurd h (by decide)) <| (fun _ => ?_)
      refine r_aload_n c_179_88 rfl <| r_iload_n c_179_89 rfl <| r_cV1 c_179_90 rfl (Nat.le_of_ble_eq_true rfl) <| ?_
      refine ct_munf hM hO hx hi hlb hpl hpf f37 (fun hu σ1 g1 g2 => ?_) (fun hu σ1 g1 g2 => ?_)
      · refine r_if_ne c_179_93 (fun _ => ?_) <| (fun h => absurd h (by decide))
        rw [if_neg (not_not_intro hu)] at k1 k0
        have uo := unL_out hpl (by omega) hu
        have g1i := g1.2.2.2 i hi
        rw [gds_set (by omega), if_pos rfl] at g1i
        exact ct_mrl (a3 := mm_null) (a5 := mm_null) (hM.mf g2 (by decide) (by decide)) hO g1i.2.2.2 (by omega) (uo.2.2 hne) g1i.2.1 (by omega) (by rw [g2.2 37 (by decide)]; exact f37) (fun e => k1 e σ1 g1 g2) (fun e σ2 w1 w2 => k0 e σ2 w1 ((g2.up (by decide) (by decide)).tr (w2.up (by decide) (by decide))))
      · refine r_if_ne c_179_93 (fun h => absurd h (by decide)) <| (fun _ => ?_)
        refine r_iconst c_179_96 <| r_zret c_179_97 (Or.inl rfl) <| ?_
        rw [if_pos hu] at k0
        exact k0 hu σ1 g1 g2
    · intro hpf
      have eu : unL T lb = (lb, 0, 0) := by unfold unL; rw [if_pos hpf]
      rw [eu] at k1 k0
      rw [if_neg (by simp)] at k1 k0
      refine r_iload_n c_179_84 rfl <| r_if_eq c_179_85 (fun _ => ?_) <| (fun h => absurd h (by decide))
      exact ct_mrl (a3 := mm_null) (a5 := mm_null) hM hO xsg (by omega) hne x83 (by omega) f37 (fun e => k1 e σ (by rw [hself]; exact hx) mf.rf) (fun e σ2 w1 w2 => k0 e σ2 w1 (w2.up (by decide) (by decide)))
  refine ⟨Nat.le_of_ble_eq_true rfl, ?_⟩
  show mm_X 179 0 [vP 55, vI (i : Nat), mm_null, mm_null, mm_null, mm_null] [] _ _
  refine r_aload_n c_179_0 rfl <| r_getf_a c_179_1 rfl rfl <| r_iload_n c_179_4 rfl <| r_iald c_179_5 rfl (Or.inl rfl) rfl (by omega) <| ?_
  rw [x82]
  refine r_istore_n_6_2 c_179_6 rfl <| r_aload_n c_179_7 rfl <| r_getf_a c_179_8 rfl rfl <| r_iload_n c_179_11 rfl <| r_iald c_179_12 rfl (Or.inl rfl) rfl (by omega) <| ?_
  rw [x83]
  refine r_if_ne c_179_13 (fun h13 => ?_) <| (fun h13 => ?_)
  · refine r_aload_n c_179_18 rfl <| r_getf_a c_179_19 rfl rfl <| r_iload_n c_179_22 rfl <| r_iald c_179_23 rfl (Or.inl rfl) rfl (by omega) <| ?_
    rw [x83]
    refine r_iconst c_179_24 <| r_icmp_lt c_179_25 (fun h25 => ?_) <| (fun h25 => ?_)
    · refine r_iconst c_179_82 <| r_istore_n_6_3 c_179_83 rfl <| ?_
      first
      | exact (key (by omega)).1 ⟨by assumption, by assumption, by assumption, by assumption⟩
      | exact (key (by omega)).2 (fun h => absurd (pfx_len h) (by omega))
      | exact (key (by omega)).2 (fun h => absurd h.1 (by assumption))
      | exact (key (by omega)).2 (fun h => absurd h.2.1 (by assumption))
      | exact (key (by omega)).2 (fun h => absurd h.2.2.1 (by assumption))
      | exact (key (by omega)).2 (fun h => absurd h.2.2.2 (by assumption))
    · refine r_aload_n c_179_28 rfl <| r_getf_a c_179_29 rfl rfl <| r_iload_n c_179_32 rfl <| r_iald c_179_33 rfl (Or.inl rfl) (jn := ofs os i) (by omega) (by omega) <| ?_
      rw [x0 (by omega)]
      refine r_bipush c_179_34 <| r_icmp_ne c_179_36 (fun h36 => ?_) <| (fun h36 => ?_)
      · refine r_iconst c_179_82 <| r_istore_n_6_3 c_179_83 rfl <| ?_
        first
        | exact (key (by omega)).1 ⟨by assumption, by assumption, by assumption, by assumption⟩
        | exact (key (by omega)).2 (fun h => absurd (pfx_len h) (by omega))
        | exact (key (by omega)).2 (fun h => absurd h.1 (by assumption))
        | exact (key (by omega)).2 (fun h => absurd h.2.1 (by assumption))
        | exact (key (by omega)).2 (fun h => absurd h.2.2.1 (by assumption))
        | exact (key (by omega)).2 (fun h => absurd h.2.2.2 (by assumption))
      · refine r_aload_n c_179_39 rfl <| r_getf_a c_179_40 rfl rfl <| r_iload_n c_179_43 rfl <| r_iconst c_179_44 <| r_iadd c_179_45 (by omega) <| r_iald c_179_46 rfl (Or.inl rfl) (jn := ofs os i + 1) (by omega) (by omega) <| ?_
        rw [xa (by omega)]
        refine r_bipush c_179_47 <| r_icmp_ne c_179_49 (fun h49 => ?_) <| (fun h49 => ?_)
        · refine r_iconst c_179_82 <| r_istore_n_6_3 c_179_83 rfl <| ?_
          first
          | exact (key (by omega)).1 ⟨by assumption, by assumption, by assumption, by assumption⟩
          | exact (key (by omega)).2 (fun h => absurd (pfx_len h) (by omega))
          | exact (key (by omega)).2 (fun h => absurd h.1 (by assumption))
          | exact (key (by omega)).2 (fun h => absurd h.2.1 (by assumption))
          | exact (key (by omega)).2 (fun h => absurd h.2.2.1 (by assumption))
          | exact (key (by omega)).2 (fun h => absurd h.2.2.2 (by assumption))
        · refine r_aload_n c_179_52 rfl <| r_getf_a c_179_53 rfl rfl <| r_iload_n c_179_56 rfl <| r_iconst c_179_57 <| r_iadd c_179_58 (by omega) <| r_iald c_179_59 rfl (Or.inl rfl) (jn := ofs os i + 2) (by omega) (by omega) <| ?_
          rw [xb (by omega)]
          refine r_bipush c_179_60 <| r_icmp_ne c_179_62 (fun h62 => ?_) <| (fun h62 => ?_)
          · refine r_iconst c_179_82 <| r_istore_n_6_3 c_179_83 rfl <| ?_
            first
            | exact (key (by omega)).1 ⟨by assumption, by assumption, by assumption, by assumption⟩
            | exact (key (by omega)).2 (fun h => absurd (pfx_len h) (by omega))
            | exact (key (by omega)).2 (fun h => absurd h.1 (by assumption))
            | exact (key (by omega)).2 (fun h => absurd h.2.1 (by assumption))
            | exact (key (by omega)).2 (fun h => absurd h.2.2.1 (by assumption))
            | exact (key (by omega)).2 (fun h => absurd h.2.2.2 (by assumption))
          · refine r_aload_n c_179_65 rfl <| r_getf_a c_179_66 rfl rfl <| r_iload_n c_179_69 rfl <| r_iconst c_179_70 <| r_iadd c_179_71 (by omega) <| r_iald c_179_72 rfl (Or.inl rfl) (jn := ofs os i + 3) (by omega) (by omega) <| ?_
            rw [xc (by omega)]
            refine r_bipush c_179_73 <| r_icmp_ne c_179_75 (fun h75 => ?_) <| (fun h75 => ?_)
            · refine r_iconst c_179_82 <| r_istore_n_6_3 c_179_83 rfl <| ?_
              first
              | exact (key (by omega)).1 ⟨by assumption, by assumption, by assumption, by assumption⟩
              | exact (key (by omega)).2 (fun h => absurd (pfx_len h) (by omega))
              | exact (key (by omega)).2 (fun h => absurd h.1 (by assumption))
              | exact (key (by omega)).2 (fun h => absurd h.2.1 (by assumption))
              | exact (key (by omega)).2 (fun h => absurd h.2.2.1 (by assumption))
              | exact (key (by omega)).2 (fun h => absurd h.2.2.2 (by assumption))
            · refine r_iconst c_179_78 <| r_goto c_179_79 <| r_istore_n_6_3 c_179_83 rfl <| ?_
              first
              | exact (key (by omega)).1 ⟨by assumption, by assumption, by assumption, by assumption⟩
              | exact (key (by omega)).2 (fun h => absurd (pfx_len h) (by omega))
              | exact (key (by omega)).2 (fun h => absurd h.1 (by assumption))
              | exact (key (by omega)).2 (fun h => absurd h.2.1 (by assumption))
              | exact (key (by omega)).2 (fun h => absurd h.2.2.1 (by assumption))
              | exact (key (by omega)).2 (fun h => absurd h.2.2.2 (by assumption))
  · refine r_iconst c_179_16 <| r_zret c_179_17 (Or.inr rfl) <| ?_
    have e : lb.length = 0 := by omega
    have e2 : lb = [] := List.eq_nil_of_length_eq_zero e
    rw [if_pos e] at k1
    exact k1 rfl σ (by rw [← e2, hself]; exact hx) mf.rf
end MLOOKAT
