/-! APART, the reference's way. -/
def mAp (σ : mk_S) (l : List Int) : Prop := σ 55 28 = (l.length : Int) ∧ arr σ 74 l
theorem mAp.eq {σ σ' : mk_S} {t : List Int} (h : mAp σ t) (e1 : σ' 55 28 = σ 55 28) (e2 : σ' 74 = σ 74) : mAp σ' t := by
  unfold mAp; rw [e1]; exact ⟨h.1, h.2.eq e2⟩
theorem arrSet {σ σ' : mk_S} {a : Nat} {l : List Int} {j : Nat} {z : Int} (h : arr σ a l) (hj : j < l.length) (e : σ' a = mm_st (σ a) j z) : arr σ' a (l.set j z) := by
  intro i hi
  rw [List.length_set] at hi
  rw [e, gd_set hj]
  simp only [mm_st]
  split
  · rfl
  · exact h i hi
theorem split2 {l : List Int} {j : Nat} (h1 : 1 ≤ j) (h2 : j < l.length) : l = l.take (j - 1) ++ l.getD (j - 1) 0 :: l.getD j 0 :: l.drop (j + 1) := by
  have e1 := drop_at (l := l) (i := j - 1) (by omega)
  have e2 := drop_at (l := l) (i := j) h2
  rw [show j - 1 + 1 = j by omega] at e1
  rw [← e2, ← e1, List.take_append_drop]
theorem ptI_os {T : mk_S} (hO : TOK T) {p : Int} (h : isOS p) : ptI T p = -1 := by
  rcases ptI_cases T p with g | ⟨j, g1, g2, g3⟩
  · exact g
  · have := (hO.2.2.1 j g2).2.2.1
    rw [g3] at this
    exact absurd h this
theorem ex_lead {T : mk_S} (hO : TOK T) {p : Int} (h : isLd p ∨ isVw p ∨ isTl p) : ex T p = [p] := ex_leaf (by unfold isSyl; omega) (by rw [ptI_os hO (Or.inr h)]; decide)
section MAPART
variable {L : Nat} {T : mk_S}
def wS (T : mk_S) (p : Int) : Nat := 2 * (101 - dT T p) + (if isSyl p then 1 else 0)
def PSm (L : Nat) (T : mk_S) (ra : Nat) (at0 n0 k0 : Int) (R : List Int) (k : Nat) : Prop := ∀ (ps l : List Int) (σ : mk_S) (a6 a7 a8 : mm_V) (Q : Option mm_V → mm_H → Prop),
    (if ps.length = 0 then 0 else (301 - l.length) * 210 + wS T (ps.getD (ps.length - 1) 0)) < k → MT σ T → (∀ i, i < ps.length → σ 75 i = ps.getD i 0) → (∀ i, i < ps.length → i ≤ dT T (ps.getD i 0) + 2 ∧ (nsy (ps.getD i 0) ∨ i = 0)) → mAp σ l → l.length ≤ 300 → R = l ++ remS T ps →
    (R.length ≤ 300 → ∀ σ' a6 a7 a8, mAp σ' R → mf [74, 75] [28] σ σ' → mm_X 158 229 [vP 55, vP ra, vI at0, vI n0, vI k0, vI 0, a6, a7, a8] [] (hp L σ') Q) → (300 < R.length → ∀ σ', mf [74, 75] [28] σ σ' → Q (some (vI 0)) (hp L σ')) →
    mm_X 158 29 [vP 55, vP ra, vI at0, vI n0, vI k0, vI ps.length, a6, a7, a8] [] (hp L σ) Q
theorem psm_go {ra : Nat} {at0 n0 k0 : Int} {R : List Int} {k : Nat} (ih : PSm L T ra at0 n0 k0 R k) {ps' l : List Int} {σ σ1 : mk_S} {a6 a7 a8 : mm_V} {Q : Option mm_V → mm_H → Prop} (hk : (if ps'.length = 0 then 0 else (301 - l.length) * 210 + wS T (ps'.getD (ps'.length - 1) 0)) < k) (hM : MT σ T) (harr : ∀ i, i < ps'.length → σ1 75 i = ps'.getD i 0) (hinv : ∀ i, i < ps'.length → i ≤ dT T (ps'.getD i 0) + 2 ∧ (nsy (ps'.getD i 0) ∨ i = 0)) (hl : mAp σ1 l) (hle : l.length ≤ 300) (hR : R = l ++ remS T ps') (hf : mf [74, 75] [28] σ σ1) {z : Int} (hz : z = (ps'.length : Int))
    (k1 : R.length ≤ 300 → ∀ σ' a6 a7 a8, mAp σ' R → mf [74, 75] [28] σ σ' → mm_X 158 229 [vP 55, vP ra, vI at0, vI n0, vI k0, vI 0, a6, a7, a8] [] (hp L σ') Q) (k2 : 300 < R.length → ∀ σ', mf [74, 75] [28] σ σ' → Q (some (vI 0)) (hp L σ')) : mm_X 158 29 [vP 55, vP ra, vI at0, vI n0, vI k0, vI z, a6, a7, a8] [] (hp L σ1) Q := by
  subst hz
  exact ih ps' l σ1 _ _ _ Q hk (hM.mf hf (fun a ha => by simp at ha; omega) (by decide)) harr hinv hl hle hR (fun h9 σ2 b6 b7 b8 g1 g2 => k1 h9 σ2 b6 b7 b8 g1 (hf.tr g2)) (fun h9 σ2 g2 => k2 h9 σ2 (hf.tr g2))
theorem wS_le (p : Int) : wS T p ≤ 203 := by unfold wS; split <;> omega
theorem wS_nsy {p : Int} (h : nsy p) : wS T p = 2 * (101 - dT T p) := by unfold wS; rw [if_neg h]; omega
theorem lp_mstack {ra : Nat} {at0 n0 k0 : Int} {R : List Int} (hO : TOK T) : ∀ (k : Nat), PSm L T ra at0 n0 k0 R k := by
  intro k
  induction k with
  | zero => intro ps l σ a6 a7 a8 Q h1; exact absurd h1 (Nat.not_lt_zero _)
  | succ k ih =>
    intro ps l σ a6 a7 a8 Q hk hM harr hinv hl hle hR k1 k2
    have e28 := hl.1
    by_cases hz : ps.length = 0
    · have hps : ps = [] := List.length_eq_zero_iff.mp hz
      rw [hps] at hR
      have hR : R = l := by rw [hR]; simp [remS]
      rw [hz]
      refine r_iload c_158_29 rfl <| r_if_le c_158_31 (fun h31 => ?_) <| (fun h31 => ?_)
      · exact k1 (by rw [hR]; exact hle) σ _ _ _ (by rw [hR]; exact hl) mf.rf
      · exact absurd h31 (by simp)
    · rw [if_neg hz] at hk
      obtain ⟨hi1, hi2⟩ := hinv (ps.length - 1) (by omega)
      have hps := snoc_of hz
      have hval := harr (ps.length - 1) (by omega)
      have hRp : R = l ++ (ex T (ps.getD (ps.length - 1) 0) ++ remS T (ps.take (ps.length - 1))) := by rw [hR]; conv => lhs; rw [hps, remS_snoc]
      have htl : (ps.take (ps.length - 1)).length = ps.length - 1 := by simp
      have htg : ∀ i, i < ps.length - 1 → (ps.take (ps.length - 1)).getD i 0 = ps.getD i 0 := fun i hi => gd_take hi
      have hd9 : dT T (ps.getD (ps.length - 1) 0) ≤ 100 := dT_le hO _
      generalize ps.getD (ps.length - 1) 0 = p at hi1 hi2 hval hRp hk hd9
      have hex := ex_len1 hO p
      have XL : ptI T p < 0 → nsy p → ∀ (b7 : Int), mm_X 158 193 [vP 55, vP ra, vI at0, vI n0, vI k0, vI ((ps.length : Int) + -1), vI p, vI b7, a8] [] (hp L σ) Q := by
        intro h0 hns b7
        have hRn : R = (l ++ [p]) ++ remS T (ps.take (ps.length - 1)) := by rw [hRp, ex_leaf hns h0]; simp
        have hll : (l ++ [p]).length = l.length + 1 := by simp
        refine r_aload_n c_158_193 rfl <| r_getf_i c_158_194 rfl rfl <| r_sipush c_158_197 <| r_icmp_ne c_158_200 (fun h200 => ?_) <| (fun h200 => ?_)
        · refine r_aload_n c_158_205 rfl <| r_getf_a c_158_206 rfl rfl <| r_aload_n c_158_209 rfl <| r_getf_i c_158_210 rfl rfl <| r_iload c_158_213 rfl <| r_iast c_158_215 rfl (jn := l.length) (by omega) (by omega) <| r_aload_n c_158_216 rfl <| r_dup c_158_217 rfl <| r_getf_i c_158_218 rfl rfl <| r_iconst c_158_221 <| ?_
          refine r_iadd c_158_222 (by rw [sto_get2 (Or.inl (by decide)), e28]; omega) <| r_putf c_158_223 rfl rfl <| r_goto c_158_226 <| ?_
          have hfr : mf [74, 75] [28] σ (sto (sto σ 74 l.length p) 55 28 (sto σ 74 l.length p 55 28 + 1)) := (mf.rf.stA (by decide) (by decide)).stF (by decide)
          refine psm_go ih (ps' := ps.take (ps.length - 1)) (l := l ++ [p]) ?_ hM (fun i hi => ?_) (fun i hi => ?_) ⟨?_, arr_push hl.2 (by rw [sto_ne (by decide), sto_at])⟩ (by omega) hRn hfr (by omega) k1 k2
          · rw [hll]
            have := wS_le (T := T) ((ps.take (ps.length - 1)).getD ((ps.take (ps.length - 1)).length - 1) 0)
            split
            · omega
            · omega
          · rw [sto_ne (by decide), sto_ne (by decide), htg i (by omega)]; exact harr i (by omega)
          · rw [htg i (by omega)]; exact hinv i (by omega)
          · rw [sto_get, sto_get2 (Or.inl (by decide)), e28]; omega
        · refine r_iconst c_158_203 <| r_zret c_158_204 (Or.inl rfl) <| ?_
          exact k2 (by rw [hRp, List.length_append, List.length_append]; omega) σ mf.rf
      have XP : ∀ (j : Nat), j < nP T → T 18 j = p → ptI T p = (j : Int) → nsy p → mm_X 158 146 [vP 55, vP ra, vI at0, vI n0, vI k0, vI ((ps.length : Int) + -1), vI p, vI j, a8] [] (hp L σ) Q := by
        intro j hjn hpj hj hns
        obtain ⟨hd1, hd2, hn1, hn2, hd3⟩ := part_facts hO hjn hpj
        have hn0 := hO.1.2.1.2
        have hexp := ex_part hO hns hj
        have hRp : R = l ++ (ex T (T 19 j) ++ (if T 20 j ≠ 0 then ex T (T 20 j) else []) ++ remS T (ps.take (ps.length - 1))) := by rw [hRp, hexp]
        obtain ⟨m1, m2, m3, m4⟩ := hM.2.2.1 j hjn
        rw [wS_nsy hns] at hk
        have hw1 := wS_nsy (T := T) hn1
        have hi3 : ps.length - 1 ≤ dT T p + 2 := hi1
        clear hexp hj hR hps hex hval hns hi2
        refine r_aload_n c_158_146 rfl <| r_getf_a c_158_147 rfl rfl <| r_iload c_158_150 rfl <| r_iald c_158_152 rfl (Or.inl rfl) rfl (by omega) <| r_if_eq c_158_153 (fun h153 => ?_) <| (fun h153 => ?_)
        · refine r_aload_n c_158_173 rfl <| r_getf_a c_158_174 rfl rfl <| r_iload c_158_177 rfl <| r_aload_n c_158_179 rfl <| r_getf_a c_158_180 rfl rfl <| r_iload c_158_183 rfl <| r_iald c_158_185 rfl (Or.inl rfl) rfl (by omega) <| r_iast c_158_186 rfl (jn := if T 20 j = 0 then ps.length - 1 else ps.length) (by split <;> omega) (by split <;> omega) <| r_iinc_9_5 c_158_187 rfl (by omega) <| r_goto c_158_190 <| ?_
          refine r_goto c_158_226 <| ?_
          first
          | (have hb0 : T 20 j = 0 := by omega
             rw [if_pos hb0, m2]
             have hln : (ps.take (ps.length - 1) ++ [T 19 j]).length = ps.length := by simp; omega
             have hlast : (ps.take (ps.length - 1) ++ [T 19 j]).getD ((ps.take (ps.length - 1) ++ [T 19 j]).length - 1) 0 = T 19 j := by rw [hln]; exact gd_at (by omega)
             refine psm_go ih (ps' := ps.take (ps.length - 1) ++ [T 19 j]) (l := l) ?_ hM (fun i hi => ?_) (fun i hi => ?_) (hl.eq (congrFun (sto_ne (by decide)) 28) (sto_ne (by decide))) hle (by rw [hRp, if_neg (not_not_intro hb0), remS_snoc, List.append_nil]) (mf.rf.stA (by decide) (by decide)) (by omega) k1 k2
             · rw [if_neg (by omega), hlast]; omega
             · rw [hln] at hi
               rw [sto_at]
               by_cases e : i = ps.length - 1
               · subst e; rw [st_at]; exact (gd_at (by omega)).symm
               · rw [st_ne e, gd_app (by omega), htg i (by omega)]; exact harr i (by omega)
             · rw [hln] at hi
               by_cases e : i = ps.length - 1
               · subst e; rw [gd_at (by omega)]; exact ⟨by omega, Or.inl hn1⟩
               · rw [gd_app (by omega), htg i (by omega)]; exact hinv i (by omega))
          | (have hb0 : T 20 j ≠ 0 := by omega
             rw [if_neg hb0, sto_ne (show 64 ≠ 75 by decide), m2, m3]
             have hln2 : (ps.take (ps.length - 1) ++ [T 20 j]).length = ps.length := by simp; omega
             have hln : (ps.take (ps.length - 1) ++ [T 20 j] ++ [T 19 j]).length = ps.length + 1 := by rw [List.length_append, hln2]; rfl
             have hlast : (ps.take (ps.length - 1) ++ [T 20 j] ++ [T 19 j]).getD ((ps.take (ps.length - 1) ++ [T 20 j] ++ [T 19 j]).length - 1) 0 = T 19 j := by rw [hln]; exact gd_at (by omega)
             refine psm_go ih (ps' := ps.take (ps.length - 1) ++ [T 20 j] ++ [T 19 j]) (l := l) ?_ hM (fun i hi => ?_) (fun i hi => ?_) (hl.eq ((congrFun (sto_ne (by decide)) 28).trans (congrFun (sto_ne (by decide)) 28)) ((sto_ne (by decide)).trans (sto_ne (by decide)))) hle (by rw [hRp, if_pos hb0, remS_snoc, remS_snoc, List.append_assoc]) ((mf.rf.stA (by decide) (by decide)).stA (by decide) (by decide)) (by omega) k1 k2
             · rw [if_neg (by omega), hlast]; omega
             · rw [hln] at hi
               rw [sto_at, sto_at]
               by_cases e : i = ps.length
               · subst e; rw [st_at]; exact (gd_at (by omega)).symm
               · rw [st_ne e, gd_app (by omega)]
                 by_cases e2 : i = ps.length - 1
                 · subst e2; rw [st_at]; exact (gd_at (by omega)).symm
                 · rw [st_ne e2, gd_app (by omega), htg i (by omega)]; exact harr i (by omega)
             · rw [hln] at hi
               by_cases e : i = ps.length
               · subst e; rw [gd_at (by omega)]; exact ⟨by omega, Or.inl hn1⟩
               · rw [gd_app (by omega)]
                 by_cases e2 : i = ps.length - 1
                 · subst e2; rw [gd_at (by omega)]; exact ⟨by omega, Or.inl hn2⟩
                 · rw [gd_app (by omega), htg i (by omega)]; exact hinv i (by omega))
        · refine r_aload_n c_158_156 rfl <| r_getf_a c_158_157 rfl rfl <| r_iload c_158_160 rfl <| r_aload_n c_158_162 rfl <| r_getf_a c_158_163 rfl rfl <| r_iload c_158_166 rfl <| r_iald c_158_168 rfl (Or.inl rfl) rfl (by omega) <| r_iast c_158_169 rfl (jn := ps.length - 1) (by omega) (by omega) <| r_iinc_9_5 c_158_170 rfl (by omega) <| r_aload_n c_158_173 rfl <| ?_
          refine r_getf_a c_158_174 rfl rfl <| r_iload c_158_177 rfl <| r_aload_n c_158_179 rfl <| r_getf_a c_158_180 rfl rfl <| r_iload c_158_183 rfl <| r_iald c_158_185 rfl (Or.inl rfl) rfl (by omega) <| r_iast c_158_186 rfl (jn := if T 20 j = 0 then ps.length - 1 else ps.length) (by split <;> omega) (by split <;> omega) <| r_iinc_9_5 c_158_187 rfl (by omega) <| r_goto c_158_190 <| r_goto c_158_226 <| ?_
          first
          | (have hb0 : T 20 j = 0 := by omega
             rw [if_pos hb0, m2]
             have hln : (ps.take (ps.length - 1) ++ [T 19 j]).length = ps.length := by simp; omega
             have hlast : (ps.take (ps.length - 1) ++ [T 19 j]).getD ((ps.take (ps.length - 1) ++ [T 19 j]).length - 1) 0 = T 19 j := by rw [hln]; exact gd_at (by omega)
             refine psm_go ih (ps' := ps.take (ps.length - 1) ++ [T 19 j]) (l := l) ?_ hM (fun i hi => ?_) (fun i hi => ?_) (hl.eq (congrFun (sto_ne (by decide)) 28) (sto_ne (by decide))) hle (by rw [hRp, if_neg (not_not_intro hb0), remS_snoc, List.append_nil]) (mf.rf.stA (by decide) (by decide)) (by omega) k1 k2
             · rw [if_neg (by omega), hlast]; omega
             · rw [hln] at hi
               rw [sto_at]
               by_cases e : i = ps.length - 1
               · subst e; rw [st_at]; exact (gd_at (by omega)).symm
               · rw [st_ne e, gd_app (by omega), htg i (by omega)]; exact harr i (by omega)
             · rw [hln] at hi
               by_cases e : i = ps.length - 1
               · subst e; rw [gd_at (by omega)]; exact ⟨by omega, Or.inl hn1⟩
               · rw [gd_app (by omega), htg i (by omega)]; exact hinv i (by omega))
          | (have hb0 : T 20 j ≠ 0 := by omega
             rw [if_neg hb0, sto_ne (show 64 ≠ 75 by decide), m2, m3]
             have hln2 : (ps.take (ps.length - 1) ++ [T 20 j]).length = ps.length := by simp; omega
             have hln : (ps.take (ps.length - 1) ++ [T 20 j] ++ [T 19 j]).length = ps.length + 1 := by rw [List.length_append, hln2]; rfl
             have hlast : (ps.take (ps.length - 1) ++ [T 20 j] ++ [T 19 j]).getD ((ps.take (ps.length - 1) ++ [T 20 j] ++ [T 19 j]).length - 1) 0 = T 19 j := by rw [hln]; exact gd_at (by omega)
             refine psm_go ih (ps' := ps.take (ps.length - 1) ++ [T 20 j] ++ [T 19 j]) (l := l) ?_ hM (fun i hi => ?_) (fun i hi => ?_) (hl.eq ((congrFun (sto_ne (by decide)) 28).trans (congrFun (sto_ne (by decide)) 28)) ((sto_ne (by decide)).trans (sto_ne (by decide)))) hle (by rw [hRp, if_pos hb0, remS_snoc, remS_snoc, List.append_assoc]) ((mf.rf.stA (by decide) (by decide)).stA (by decide) (by decide)) (by omega) k1 k2
             · rw [if_neg (by omega), hlast]; omega
             · rw [hln] at hi
               rw [sto_at, sto_at]
               by_cases e : i = ps.length
               · subst e; rw [st_at]; exact (gd_at (by omega)).symm
               · rw [st_ne e, gd_app (by omega)]
                 by_cases e2 : i = ps.length - 1
                 · subst e2; rw [st_at]; exact (gd_at (by omega)).symm
                 · rw [st_ne e2, gd_app (by omega), htg i (by omega)]; exact harr i (by omega)
             · rw [hln] at hi
               by_cases e : i = ps.length
               · subst e; rw [gd_at (by omega)]; exact ⟨by omega, Or.inl hn1⟩
               · rw [gd_app (by omega)]
                 by_cases e2 : i = ps.length - 1
                 · subst e2; rw [gd_at (by omega)]; exact ⟨by omega, Or.inl hn2⟩
                 · rw [gd_app (by omega), htg i (by omega)]; exact hinv i (by omega))
      have XS : isSyl p → ∀ (b7 : Int), mm_X 158 62 [vP 55, vP ra, vI at0, vI n0, vI k0, vI ((ps.length : Int) + -1), vI p, vI b7, a8] [] (hp L σ) Q := by
        intro hsy b7
        have hl1 : ps.length = 1 := by rcases hi2 with h | h
                                       · exact absurd hsy h
                                       · omega
        have hsy2 := hsy
        unfold isSyl at hsy2
        have hRp : R = l ++ sylL p := by rw [hRp, ex_syl hsy, hl1]; simp [remS]
        have hw : wS T p = 2 * (101 - dT T p) + 1 := by unfold wS; rw [if_pos hsy]
        have hld : isLd (4352 + (p - 44032) / 588) := by unfold isLd; omega
        have hvw : isVw (4449 + (p - 44032) % 588 / 28) := by unfold isVw; omega
        have htl : (p - 44032) % 28 ≠ 0 → isTl (4519 + (p - 44032) % 28) := fun h => by unfold isTl; omega
        have hdl : dT T p ≤ dT T (4352 + (p - 44032) / 588) := dT_mono (by omega)
        have hnl : nsy (4352 + (p - 44032) / 588) := by unfold nsy isSyl; omega
        have hnv : nsy (4449 + (p - 44032) % 588 / 28) := by unfold nsy isSyl; omega
        have hnt : nsy (4519 + (p - 44032) % 28) := by unfold nsy isSyl; omega
        have hwl := wS_nsy (T := T) hnl
        have hd8 := dT_le hO (4352 + (p - 44032) / 588)
        have x1 := ex_lead hO (Or.inl hld)
        have x2 := ex_lead hO (Or.inr (Or.inl hvw))
        have x3 := fun h => ex_lead hO (Or.inr (Or.inr (htl h)))
        rw [show (ps.length : Int) + -1 = 0 by omega]
        refine r_iload c_158_62 rfl <| r_ldc c_158_64 <| r_isub c_158_66 (by omega) <| r_istore_9_8 c_158_67 rfl <| r_iload c_158_69 rfl <| r_bipush c_158_71 <| r_irem c_158_73 (by omega) (by omega) <| r_if_le c_158_74 (fun h74 => ?_) <| (fun h74 => ?_)
        · refine r_aload_n c_158_96 rfl <| r_getf_a c_158_97 rfl rfl <| r_iload c_158_100 rfl <| r_sipush c_158_102 <| r_iload c_158_105 rfl <| r_sipush c_158_107 <| r_irem c_158_110 (by omega) (by omega) <| r_bipush c_158_111 <| r_idiv c_158_113 (by omega) (by omega) <| r_iadd c_158_114 (by omega) <| ?_
          refine r_iast c_158_115 rfl (jn := if (p - 44032) % 28 ≤ 0 then 0 else 1) (by split <;> omega) (by split <;> omega) <| r_aload_n c_158_116 rfl <| r_getf_a c_158_117 rfl rfl <| r_iload c_158_120 rfl <| r_iconst c_158_122 <| r_iadd c_158_123 (by omega) <| r_sipush c_158_124 <| r_iload c_158_127 rfl <| r_sipush c_158_129 <| r_idiv c_158_132 (by omega) (by omega) <| ?_
          refine r_iadd c_158_133 (by omega) <| r_iast c_158_134 rfl (jn := if (p - 44032) % 28 ≤ 0 then 1 else 2) (by split <;> omega) (by split <;> omega) <| r_iinc_9_5 c_158_135 rfl (by omega) <| r_goto c_158_138 <| r_goto c_158_226 <| ?_
          first
          | (rw [if_pos h74, if_pos h74]
             refine psm_go ih (ps' := [4449 + (p - 44032) % 588 / 28, 4352 + (p - 44032) / 588]) (l := l) ?_ hM (fun i hi => ?_) (fun i hi => ?_) (hl.eq ((congrFun (sto_ne (by decide)) 28).trans (congrFun (sto_ne (by decide)) 28)) ((sto_ne (by decide)).trans (sto_ne (by decide)))) hle ?_ ((mf.rf.stA (by decide) (by decide)).stA (by decide) (by decide)) rfl k1 k2
             · show (if 2 = 0 then 0 else (301 - l.length) * 210 + wS T (4352 + (p - 44032) / 588)) < k
               rw [if_neg (by decide)]; omega
             · have hi : i < 2 := hi
               rcases (show i = 0 ∨ i = 1 by omega) with e | e
               · subst e; simp [sto, mm_st]
               · subst e; simp [sto, mm_st]
             · have hi : i < 2 := hi
               rcases (show i = 0 ∨ i = 1 by omega) with e | e
               · subst e; exact ⟨by omega, Or.inl hnv⟩
               · subst e; exact ⟨by omega, Or.inl hnl⟩
             · rw [hRp]; unfold sylL remS; rw [if_pos (by omega)]; simp [x1, x2])
          | (rw [if_neg (by omega), if_neg (by omega)]
             have x3 := x3 (by omega)
             refine psm_go ih (ps' := [4519 + (p - 44032) % 28, 4449 + (p - 44032) % 588 / 28, 4352 + (p - 44032) / 588]) (l := l) ?_ hM (fun i hi => ?_) (fun i hi => ?_) (hl.eq ((congrFun (sto_ne (by decide)) 28).trans ((congrFun (sto_ne (by decide)) 28).trans (congrFun (sto_ne (by decide)) 28))) ((sto_ne (by decide)).trans ((sto_ne (by decide)).trans (sto_ne (by decide))))) hle ?_ (((mf.rf.stA (by decide) (by decide)).stA (by decide) (by decide)).stA (by decide) (by decide)) rfl k1 k2
             · show (if 3 = 0 then 0 else (301 - l.length) * 210 + wS T (4352 + (p - 44032) / 588)) < k
               rw [if_neg (by decide)]; omega
             · have hi : i < 3 := hi
               rcases (show i = 0 ∨ i = 1 ∨ i = 2 by omega) with e | e | e
               · subst e; simp [sto, mm_st]
               · subst e; simp [sto, mm_st]
               · subst e; simp [sto, mm_st]
             · have hi : i < 3 := hi
               rcases (show i = 0 ∨ i = 1 ∨ i = 2 by omega) with e | e | e
               · subst e; exact ⟨by omega, Or.inl hnt⟩
               · subst e; exact ⟨by omega, Or.inl hnv⟩
               · subst e; exact ⟨by omega, Or.inl hnl⟩
             · rw [hRp]; unfold sylL remS; rw [if_neg (by omega)]; simp [x1, x2, x3])
        · refine r_aload_n c_158_77 rfl <| r_getf_a c_158_78 rfl rfl <| r_iload c_158_81 rfl <| r_sipush c_158_83 <| r_iload c_158_86 rfl <| r_bipush c_158_88 <| r_irem c_158_90 (by omega) (by omega) <| r_iadd c_158_91 (by omega) <| r_iast c_158_92 rfl (jn := 0) rfl (by omega) <| r_iinc_9_5 c_158_93 rfl (by omega) <| ?_
          refine r_aload_n c_158_96 rfl <| r_getf_a c_158_97 rfl rfl <| r_iload c_158_100 rfl <| r_sipush c_158_102 <| r_iload c_158_105 rfl <| r_sipush c_158_107 <| r_irem c_158_110 (by omega) (by omega) <| r_bipush c_158_111 <| r_idiv c_158_113 (by omega) (by omega) <| r_iadd c_158_114 (by omega) <| ?_
          refine r_iast c_158_115 rfl (jn := if (p - 44032) % 28 ≤ 0 then 0 else 1) (by split <;> omega) (by split <;> omega) <| r_aload_n c_158_116 rfl <| r_getf_a c_158_117 rfl rfl <| r_iload c_158_120 rfl <| r_iconst c_158_122 <| r_iadd c_158_123 (by omega) <| r_sipush c_158_124 <| r_iload c_158_127 rfl <| r_sipush c_158_129 <| r_idiv c_158_132 (by omega) (by omega) <| ?_
          refine r_iadd c_158_133 (by omega) <| r_iast c_158_134 rfl (jn := if (p - 44032) % 28 ≤ 0 then 1 else 2) (by split <;> omega) (by split <;> omega) <| r_iinc_9_5 c_158_135 rfl (by omega) <| r_goto c_158_138 <| r_goto c_158_226 <| ?_
          first
          | (rw [if_pos h74, if_pos h74]
             refine psm_go ih (ps' := [4449 + (p - 44032) % 588 / 28, 4352 + (p - 44032) / 588]) (l := l) ?_ hM (fun i hi => ?_) (fun i hi => ?_) (hl.eq ((congrFun (sto_ne (by decide)) 28).trans (congrFun (sto_ne (by decide)) 28)) ((sto_ne (by decide)).trans (sto_ne (by decide)))) hle ?_ ((mf.rf.stA (by decide) (by decide)).stA (by decide) (by decide)) rfl k1 k2
             · show (if 2 = 0 then 0 else (301 - l.length) * 210 + wS T (4352 + (p - 44032) / 588)) < k
               rw [if_neg (by decide)]; omega
             · have hi : i < 2 := hi
               rcases (show i = 0 ∨ i = 1 by omega) with e | e
               · subst e; simp [sto, mm_st]
               · subst e; simp [sto, mm_st]
             · have hi : i < 2 := hi
               rcases (show i = 0 ∨ i = 1 by omega) with e | e
               · subst e; exact ⟨by omega, Or.inl hnv⟩
               · subst e; exact ⟨by omega, Or.inl hnl⟩
             · rw [hRp]; unfold sylL remS; rw [if_pos (by omega)]; simp [x1, x2])
          | (rw [if_neg (by omega), if_neg (by omega)]
             have x3 := x3 (by omega)
             refine psm_go ih (ps' := [4519 + (p - 44032) % 28, 4449 + (p - 44032) % 588 / 28, 4352 + (p - 44032) / 588]) (l := l) ?_ hM (fun i hi => ?_) (fun i hi => ?_) (hl.eq ((congrFun (sto_ne (by decide)) 28).trans ((congrFun (sto_ne (by decide)) 28).trans (congrFun (sto_ne (by decide)) 28))) ((sto_ne (by decide)).trans ((sto_ne (by decide)).trans (sto_ne (by decide))))) hle ?_ (((mf.rf.stA (by decide) (by decide)).stA (by decide) (by decide)).stA (by decide) (by decide)) rfl k1 k2
             · show (if 3 = 0 then 0 else (301 - l.length) * 210 + wS T (4352 + (p - 44032) / 588)) < k
               rw [if_neg (by decide)]; omega
             · have hi : i < 3 := hi
               rcases (show i = 0 ∨ i = 1 ∨ i = 2 by omega) with e | e | e
               · subst e; simp [sto, mm_st]
               · subst e; simp [sto, mm_st]
               · subst e; simp [sto, mm_st]
             · have hi : i < 3 := hi
               rcases (show i = 0 ∨ i = 1 ∨ i = 2 by omega) with e | e | e
               · subst e; exact ⟨by omega, Or.inl hnt⟩
               · subst e; exact ⟨by omega, Or.inl hnv⟩
               · subst e; exact ⟨by omega, Or.inl hnl⟩
             · rw [hRp]; unfold sylL remS; rw [if_neg (by omega)]; simp [x1, x2, x3])
      refine r_iload c_158_29 rfl <| r_if_le c_158_31 (fun h31 => ?_) <| (fun h31 => ?_)
      · exact absurd h31 (by omega)
      · refine r_iinc_9_5 c_158_34 rfl (by omega) <| r_aload_n c_158_37 rfl <| r_getf_a c_158_38 rfl rfl <| r_iload c_158_41 rfl <| r_iald c_158_43 rfl (Or.inl rfl) (jn := ps.length - 1) (by omega) (by omega) <| ?_
        rw [hval]
        refine r_istore_9_6 c_158_44 rfl <| r_aload_n c_158_46 rfl <| r_iload c_158_47 rfl <| r_cV1 c_158_49 rfl (Nat.le_of_ble_eq_true rfl) <| ?_
        refine ct_mpartOf hM hO p ?_
        refine r_istore_9_7 c_158_52 rfl <| r_iload c_158_54 rfl <| r_cS1 c_158_56 (Nat.le_of_ble_eq_true rfl) <| ?_
        refine ct_mSyl _ (fun h56 => ?_) (fun h56 => ?_)
        · refine r_if_eq c_158_59 (fun h => absurd h (by decide)) <| (fun _ => ?_)
          exact XS h56 _
        · refine r_if_eq c_158_59 (fun _ => ?_) <| (fun h => absurd h (by decide))
          refine r_iload c_158_141 rfl <| r_if_lt c_158_143 (fun h143 => ?_) <| (fun h143 => ?_)
          · exact XL (by omega) h56 _
          · obtain ⟨j, hj, hjn, hpj⟩ := (ptI_cases T p).resolve_left (by omega)
            have := XP j hjn hpj hj h56
            rw [hj]
            exact this
theorem lp_msort {ra : Nat} {at0 n0 : Int} {S : List Int} (hO : TOK T) (hS : S.length ≤ 300) : ∀ (N : Nat) (l : List Int) (more : Int) (σ : mk_S) (a5 a6 a7 a8 : mm_V) (Q : Option mm_V → mm_H → Prop), invs (rkO T) l < N → MT σ T → mAp σ l → srt (rkO T) l = S → (more = 1 ∨ more = 0 ∧ okS (rkO T) l) →
    (∀ σ', mAp σ' S → mf [74, 75] [28] σ σ' → Q (some (vI 1)) (hp L σ')) → mm_X 158 238 [vP 55, vP ra, vI at0, vI n0, vI more, a5, a6, a7, a8] [] (hp L σ) Q := by
  intro N
  induction N with
  | zero => intro l more σ a5 a6 a7 a8 Q h1; exact absurd h1 (Nat.not_lt_zero _)
  | succ N ih =>
    intro l more σ a5 a6 a7 a8 Q hN hM hl hs hm K
    have hll : l.length = S.length := by rw [← hs, srt_len]
    have XE : ∀ (l1 : List Int) (m : Int) (σ1 : mk_S) (b5 b6 b7 b8 : mm_V), m = 0 → okS (rkO T) l1 → mAp σ1 l1 → srt (rkO T) l1 = S → mf [74, 75] [28] σ σ1 → mm_X 158 238 [vP 55, vP ra, vI at0, vI n0, vI m, b5, b6, b7, b8] [] (hp L σ1) Q := by
      intro l1 m σ1 b5 b6 b7 b8 hm0 hok hl1 hs1 hf1
      refine r_iload c_158_238 rfl <| r_if_eq c_158_240 (fun h240 => ?_) <| (fun h240 => ?_)
      · refine r_iconst c_158_342 <| r_zret c_158_343 (Or.inr rfl) <| ?_
        exact K σ1 (by rw [← hs1, srt_ok hok]; exact hl1) hf1
      · exact absurd hm0 (by omega)
    have inner : ∀ (k j : Nat) (l1 : List Int) (m : Int) (σ1 : mk_S) (a6 a7 a8 : mm_V), S.length + 2 ≤ j + k → 1 ≤ j → (j ≤ S.length ∨ j = 1) → MT σ1 T → mAp σ1 l1 → srt (rkO T) l1 = S → mf [74, 75] [28] σ σ1 → (m = 1 ∧ invs (rkO T) l1 < N ∨ m = 0 ∧ invs (rkO T) l1 < N + 1 ∧ ∀ i, i + 1 < j → ¬ (0 < rkO T (l1.getD (i + 1) 0) ∧ rkO T (l1.getD (i + 1) 0) < rkO T (l1.getD i 0))) →
        mm_X 158 249 [vP 55, vP ra, vI at0, vI n0, vI m, vI j, a6, a7, a8] [] (hp L σ1) Q := by
      intro k
      induction k with
      | zero => intro j l1 m σ1 a6 a7 a8 h1 h2 h3; omega
      | succ k ih2 =>
        intro j l1 m σ1 a6 a7 a8 hk hj1 hj2 hM1 hl1 hs1 hf1 hm1
        have hll1 : l1.length = S.length := by rw [← hs1, srt_len]
        have e28 := hl1.1
        have hb1 := fun (h : j < l1.length) => hl1.2 j h
        have hb2 := fun (h : j < l1.length) => hl1.2 (j - 1) (by omega)
        have Xok : ¬ (0 < rkO T (l1.getD j 0) ∧ rkO T (l1.getD j 0) < rkO T (l1.getD (j - 1) 0)) → j < l1.length → ∀ a6 a7 a8, mm_X 158 249 [vP 55, vP ra, vI at0, vI n0, vI m, vI ((j : Int) + 1), a6, a7, a8] [] (hp L σ1) Q := by
          intro hno hjl a6 a7 a8
          refine ih2 (j + 1) l1 m σ1 a6 a7 a8 (by omega) (by omega) (by omega) hM1 hl1 hs1 hf1 ?_
          rcases hm1 with h | ⟨g1, g2, g3⟩
          · exact Or.inl h
          · refine Or.inr ⟨g1, g2, fun i hi => ?_⟩
            by_cases e : i + 1 = j
            · subst e; exact hno
            · exact g3 i (by omega)
        refine r_iload c_158_249 rfl <| r_aload_n c_158_251 rfl <| r_getf_i c_158_252 rfl rfl <| r_icmp_ge c_158_255 (fun h255 => ?_) <| (fun h255 => ?_)
        · refine r_goto c_158_339 <| ?_
          rcases hm1 with ⟨g1, g2⟩ | ⟨g1, g2, g3⟩
          · exact ih l1 m σ1 _ _ _ _ Q g2 hM1 hl1 hs1 (Or.inl g1) (fun σ2 q1 q2 => K σ2 q1 (hf1.tr q2))
          · exact XE l1 m σ1 _ _ _ _ g1 (fun i hi => g3 i (by omega)) hl1 hs1 hf1
        · refine r_aload_n c_158_258 rfl <| r_aload_n c_158_259 rfl <| r_getf_a c_158_260 rfl rfl <| r_iload c_158_263 rfl <| r_iald c_158_265 rfl (Or.inl rfl) (jn := j) rfl (by omega) <| ?_
          rw [hb1 (by omega)]
          refine r_cV1 c_158_266 rfl (Nat.le_of_ble_eq_true rfl) <| ?_
          refine ct_mrankOf hM1 hO _ ?_
          refine r_istore_9_6 c_158_269 rfl <| r_iload c_158_271 rfl <| r_if_le c_158_273 (fun h273 => ?_) <| (fun h273 => ?_)
          · refine r_iinc_9_5 c_158_333 rfl (by omega) <| r_goto c_158_336 <| ?_
            first
            | exact Xok (by omega) (by omega) _ _ _
            | (have hjl : j < l1.length := by omega
               have sp := split2 hj1 hjl
               rw [hb1 hjl, hb2 hjl]
               have eL : (l1.set j (l1.getD (j - 1) 0)).set (j - 1) (l1.getD j 0) = l1.take (j - 1) ++ l1.getD j 0 :: l1.getD (j - 1) 0 :: l1.drop (j + 1) := by
                 have htl : (l1.take (j - 1)).length = j - 1 := by rw [List.length_take]; omega
                 have s1 : l1.set j (l1.getD (j - 1) 0) = l1.take (j - 1) ++ l1.getD (j - 1) 0 :: l1.getD (j - 1) 0 :: l1.drop (j + 1) := by
                   have q := set_at (A := l1.take (j - 1) ++ [l1.getD (j - 1) 0]) (B := l1.drop (j + 1)) (y := l1.getD j 0) (z := l1.getD (j - 1) 0) (n := j) (by simp; omega)
                   rw [List.append_assoc, List.append_assoc] at q
                   simp only [List.cons_append, List.nil_append] at q
                   rw [← sp] at q
                   exact q
                 rw [s1, set_at htl.symm]
               have hinv2 : 0 < rkO T (l1.getD j 0) ∧ rkO T (l1.getD j 0) < rkO T (l1.getD (j - 1) 0) := by omega
               have hs2 : srt (rkO T) ((l1.set j (l1.getD (j - 1) 0)).set (j - 1) (l1.getD j 0)) = S := by
                 rw [← hs1, eL]
                 conv => rhs; rw [sp]
                 unfold srt
                 rw [srtR_swap hinv2]
               have hi2 : invs (rkO T) l1 = invs (rkO T) ((l1.set j (l1.getD (j - 1) 0)).set (j - 1) (l1.getD j 0)) + 1 := by
                 rw [eL, ← invs_swap hinv2, ← sp]
               have hA := arrSet (σ' := sto (sto σ1 74 j (l1.getD (j - 1) 0)) 74 (j - 1) (l1.getD j 0)) (arrSet (σ' := sto σ1 74 j (l1.getD (j - 1) 0)) hl1.2 hjl (sto_at _ _ _ _)) (j := j - 1) (z := l1.getD j 0) (by rw [List.length_set]; omega) (sto_at _ _ _ _)
               have hfr : mf [74, 75] [28] σ1 (sto (sto σ1 74 j (l1.getD (j - 1) 0)) 74 (j - 1) (l1.getD j 0)) := (mf.rf.stA (by decide) (by decide)).stA (by decide) (by decide)
               exact ih2 (j + 1) _ 1 _ _ _ _ (by omega) (by omega) (by omega) (hM1.mf hfr (fun a ha => by simp at ha; omega) (by decide)) ⟨by rw [List.length_set, List.length_set, ← e28, sto_ne (by decide), sto_ne (by decide)], hA⟩ hs2 (hf1.tr hfr) (Or.inl ⟨rfl, by omega⟩))
          · refine r_iload c_158_276 rfl <| r_aload_n c_158_278 rfl <| r_aload_n c_158_279 rfl <| r_getf_a c_158_280 rfl rfl <| r_iload c_158_283 rfl <| r_iconst c_158_285 <| r_isub c_158_286 (by omega) <| r_iald c_158_287 rfl (Or.inl rfl) (jn := j - 1) (by omega) (by omega) <| ?_
            rw [hb2 (by omega)]
            refine r_cV1 c_158_288 rfl (Nat.le_of_ble_eq_true rfl) <| ?_
            refine ct_mrankOf hM1 hO _ ?_
            refine r_icmp_ge c_158_291 (fun h291 => ?_) <| (fun h291 => ?_)
            · refine r_iinc_9_5 c_158_333 rfl (by omega) <| r_goto c_158_336 <| ?_
              first
              | exact Xok (by omega) (by omega) _ _ _
              | (have hjl : j < l1.length := by omega
                 have sp := split2 hj1 hjl
                 rw [hb1 hjl, hb2 hjl]
                 have eL : (l1.set j (l1.getD (j - 1) 0)).set (j - 1) (l1.getD j 0) = l1.take (j - 1) ++ l1.getD j 0 :: l1.getD (j - 1) 0 :: l1.drop (j + 1) := by
                   have htl : (l1.take (j - 1)).length = j - 1 := by rw [List.length_take]; omega
                   have s1 : l1.set j (l1.getD (j - 1) 0) = l1.take (j - 1) ++ l1.getD (j - 1) 0 :: l1.getD (j - 1) 0 :: l1.drop (j + 1) := by
                     have q := set_at (A := l1.take (j - 1) ++ [l1.getD (j - 1) 0]) (B := l1.drop (j + 1)) (y := l1.getD j 0) (z := l1.getD (j - 1) 0) (n := j) (by simp; omega)
                     rw [List.append_assoc, List.append_assoc] at q
                     simp only [List.cons_append, List.nil_append] at q
                     rw [← sp] at q
                     exact q
                   rw [s1, set_at htl.symm]
                 have hinv2 : 0 < rkO T (l1.getD j 0) ∧ rkO T (l1.getD j 0) < rkO T (l1.getD (j - 1) 0) := by omega
                 have hs2 : srt (rkO T) ((l1.set j (l1.getD (j - 1) 0)).set (j - 1) (l1.getD j 0)) = S := by
                   rw [← hs1, eL]
                   conv => rhs; rw [sp]
                   unfold srt
                   rw [srtR_swap hinv2]
                 have hi2 : invs (rkO T) l1 = invs (rkO T) ((l1.set j (l1.getD (j - 1) 0)).set (j - 1) (l1.getD j 0)) + 1 := by
                   rw [eL, ← invs_swap hinv2, ← sp]
                 have hA := arrSet (σ' := sto (sto σ1 74 j (l1.getD (j - 1) 0)) 74 (j - 1) (l1.getD j 0)) (arrSet (σ' := sto σ1 74 j (l1.getD (j - 1) 0)) hl1.2 hjl (sto_at _ _ _ _)) (j := j - 1) (z := l1.getD j 0) (by rw [List.length_set]; omega) (sto_at _ _ _ _)
                 have hfr : mf [74, 75] [28] σ1 (sto (sto σ1 74 j (l1.getD (j - 1) 0)) 74 (j - 1) (l1.getD j 0)) := (mf.rf.stA (by decide) (by decide)).stA (by decide) (by decide)
                 exact ih2 (j + 1) _ 1 _ _ _ _ (by omega) (by omega) (by omega) (hM1.mf hfr (fun a ha => by simp at ha; omega) (by decide)) ⟨by rw [List.length_set, List.length_set, ← e28, sto_ne (by decide), sto_ne (by decide)], hA⟩ hs2 (hf1.tr hfr) (Or.inl ⟨rfl, by omega⟩))
            · refine r_aload_n c_158_294 rfl <| r_getf_a c_158_295 rfl rfl <| r_iload c_158_298 rfl <| r_iald c_158_300 rfl (Or.inl rfl) rfl (by omega) <| r_istore_9_7 c_158_301 rfl <| r_aload_n c_158_303 rfl <| r_getf_a c_158_304 rfl rfl <| r_iload c_158_307 rfl <| r_aload_n c_158_309 rfl <| r_getf_a c_158_310 rfl rfl <| ?_
              refine r_iload c_158_313 rfl <| r_iconst c_158_315 <| r_isub c_158_316 (by omega) <| r_iald c_158_317 rfl (Or.inl rfl) (jn := j - 1) (by omega) (by omega) <| r_iast c_158_318 rfl rfl (by omega) <| r_aload_n c_158_319 rfl <| r_getf_a c_158_320 rfl rfl <| r_iload c_158_323 rfl <| r_iconst c_158_325 <| r_isub c_158_326 (by omega) <| ?_
              refine r_iload c_158_327 rfl <| r_iast c_158_329 rfl (jn := j - 1) (by omega) (by omega) <| r_iconst c_158_330 <| r_istore_9_4 c_158_331 rfl <| r_iinc_9_5 c_158_333 rfl (by omega) <| r_goto c_158_336 <| ?_
              first
              | exact Xok (by omega) (by omega) _ _ _
              | (have hjl : j < l1.length := by omega
                 have sp := split2 hj1 hjl
                 rw [hb1 hjl, hb2 hjl]
                 have eL : (l1.set j (l1.getD (j - 1) 0)).set (j - 1) (l1.getD j 0) = l1.take (j - 1) ++ l1.getD j 0 :: l1.getD (j - 1) 0 :: l1.drop (j + 1) := by
                   have htl : (l1.take (j - 1)).length = j - 1 := by rw [List.length_take]; omega
                   have s1 : l1.set j (l1.getD (j - 1) 0) = l1.take (j - 1) ++ l1.getD (j - 1) 0 :: l1.getD (j - 1) 0 :: l1.drop (j + 1) := by
                     have q := set_at (A := l1.take (j - 1) ++ [l1.getD (j - 1) 0]) (B := l1.drop (j + 1)) (y := l1.getD j 0) (z := l1.getD (j - 1) 0) (n := j) (by simp; omega)
                     rw [List.append_assoc, List.append_assoc] at q
                     simp only [List.cons_append, List.nil_append] at q
                     rw [← sp] at q
                     exact q
                   rw [s1, set_at htl.symm]
                 have hinv2 : 0 < rkO T (l1.getD j 0) ∧ rkO T (l1.getD j 0) < rkO T (l1.getD (j - 1) 0) := by omega
                 have hs2 : srt (rkO T) ((l1.set j (l1.getD (j - 1) 0)).set (j - 1) (l1.getD j 0)) = S := by
                   rw [← hs1, eL]
                   conv => rhs; rw [sp]
                   unfold srt
                   rw [srtR_swap hinv2]
                 have hi2 : invs (rkO T) l1 = invs (rkO T) ((l1.set j (l1.getD (j - 1) 0)).set (j - 1) (l1.getD j 0)) + 1 := by
                   rw [eL, ← invs_swap hinv2, ← sp]
                 have hA := arrSet (σ' := sto (sto σ1 74 j (l1.getD (j - 1) 0)) 74 (j - 1) (l1.getD j 0)) (arrSet (σ' := sto σ1 74 j (l1.getD (j - 1) 0)) hl1.2 hjl (sto_at _ _ _ _)) (j := j - 1) (z := l1.getD j 0) (by rw [List.length_set]; omega) (sto_at _ _ _ _)
                 have hfr : mf [74, 75] [28] σ1 (sto (sto σ1 74 j (l1.getD (j - 1) 0)) 74 (j - 1) (l1.getD j 0)) := (mf.rf.stA (by decide) (by decide)).stA (by decide) (by decide)
                 exact ih2 (j + 1) _ 1 _ _ _ _ (by omega) (by omega) (by omega) (hM1.mf hfr (fun a ha => by simp at ha; omega) (by decide)) ⟨by rw [List.length_set, List.length_set, ← e28, sto_ne (by decide), sto_ne (by decide)], hA⟩ hs2 (hf1.tr hfr) (Or.inl ⟨rfl, by omega⟩))
    rcases hm with hm | ⟨hm, hok⟩
    · refine r_iload c_158_238 rfl <| r_if_eq c_158_240 (fun h240 => ?_) <| (fun h240 => ?_)
      · exact absurd h240 (by omega)
      · refine r_iconst c_158_243 <| r_istore_9_4 c_158_244 rfl <| r_iconst c_158_246 <| r_istore_9_5 c_158_247 rfl <| ?_
        exact inner (S.length + 1) 1 l 0 σ _ _ _ (by omega) (by omega) (by omega) hM hl hs mf.rf (Or.inr ⟨rfl, hN, fun i hi => by omega⟩)
    · exact XE l more σ _ _ _ _ hm hok hl hs mf.rf
theorem lp_mapart {ra na at0 : Nat} {lf : List Int} (hO : TOK T) (ha : kd L ra = .inl (0, na)) (hra : ra ≠ 55 ∧ ra ≠ 74 ∧ ra ≠ 75) (hat : at0 + lf.length ≤ na) (hna : na ≤ 2000) : ∀ (k i : Nat) (l : List Int) (σ : mk_S) (a5 a6 a7 a8 : mm_V) (Q : Option mm_V → mm_H → Prop), lf.length + 1 ≤ i + k → i ≤ lf.length → MT σ T → (∀ j, j < lf.length → σ ra (at0 + j) = lf.getD j 0) → mAp σ l → l.length ≤ 300 → exL T lf = l ++ exL T (lf.drop i) →
    ((exL T lf).length ≤ 300 → ∀ σ', mAp σ' (ap T lf) → mf [74, 75] [28] σ σ' → Q (some (vI 1)) (hp L σ')) → (300 < (exL T lf).length → ∀ σ', mf [74, 75] [28] σ σ' → Q (some (vI 0)) (hp L σ')) →
    mm_X 158 8 [vP 55, vP ra, vI at0, vI lf.length, vI i, a5, a6, a7, a8] [] (hp L σ) Q := by
  intro k
  induction k with
  | zero => intro i l σ a5 a6 a7 a8 Q h1 h2; omega
  | succ k ih =>
    intro i l σ a5 a6 a7 a8 Q hk hi hM hf hl hle hR k1 k0
    have hstep : i < lf.length → exL T lf = (l ++ ex T (lf.getD i 0)) ++ exL T (lf.drop (i + 1)) := fun h => by rw [hR, drop_at h]; simp [exL]
    have hfi := fun (h : i < lf.length) => hf i h
    refine r_iload c_158_8 rfl <| r_iload_n c_158_10 rfl <| r_icmp_ge c_158_11 (fun h11 => ?_) <| (fun h11 => ?_)
    · refine r_iconst c_158_235 <| r_istore_9_4 c_158_236 rfl <| ?_
      have hR : exL T lf = l := by rw [hR, List.drop_of_length_le (by omega)]; simp [exL]
      have hal : (ap T lf).length = l.length := by unfold ap; rw [srt_len, hR]
      exact lp_msort hO (by omega) (invs (rkO T) l + 1) l 1 σ _ _ _ _ Q (by omega) hM hl (by unfold ap; rw [hR]) (Or.inl rfl) (fun σ' g1 g2 => k1 (by rw [hR]; exact hle) σ' g1 g2)
    · refine r_iconst c_158_14 <| r_istore_9_5 c_158_15 rfl <| r_aload_n c_158_17 rfl <| r_getf_a c_158_18 rfl rfl <| r_iconst c_158_21 <| r_aload_n c_158_22 rfl <| r_iload_n c_158_23 rfl <| r_iload c_158_24 rfl <| r_iadd c_158_26 (by omega) <| r_iald c_158_27 ha (Or.inl rfl) (jn := at0 + i) (by omega) (by omega) <| ?_
      rw [hfi (by omega)]
      refine r_iast c_158_28 rfl (jn := 0) rfl (by omega) <| ?_
      have hil : i < lf.length := by omega
      have hstep := hstep hil
      generalize lf.getD i 0 = p at hstep
      have hfr : mf [74, 75] [28] σ (sto σ 75 0 p) := mf.rf.stA (by decide) (by decide)
      have e0 : ∀ j, j < [p].length → j = 0 := fun j hj => by simpa using hj
      refine lp_mstack (R := l ++ ex T p) hO 70000 [p] l (sto σ 75 0 p) _ _ _ Q ?_ (hM.mf hfr (fun a ha => by simp at ha; omega) (by decide)) (fun j hj => ?_) (fun j hj => ?_) (hl.eq (congrFun (sto_ne (by decide)) 28) (sto_ne (by decide))) hle (by simp [remS]) (fun h9 σ2 b6 b7 b8 g1 g2 => ?_) (fun h9 σ2 g2 => ?_)
      · show (if 1 = 0 then 0 else (301 - l.length) * 210 + wS T p) < 70000
        have := wS_le (T := T) p
        rw [if_neg (by decide)]; omega
      · rw [e0 j hj, sto_get]; rfl
      · rw [e0 j hj]; exact ⟨by omega, Or.inr rfl⟩
      · have hfr2 := hfr.tr g2
        refine r_iinc_9_4 c_158_229 rfl (by omega) <| r_goto c_158_232 <| ?_
        refine ih (i + 1) _ σ2 _ _ _ _ Q (by omega) (by omega) (hM.mf hfr2 (fun a ha => by simp at ha; omega) (by decide)) (fun j hj => ?_) g1 h9 hstep (fun h9 σ3 q1 q2 => k1 h9 σ3 q1 (hfr2.tr q2)) (fun h9 σ3 q2 => k0 h9 σ3 (hfr2.tr q2))
        rw [hfr2.1 ra hra.1 (by simp; omega)]; exact hf j hj
      · exact k0 (by rw [hstep, List.length_append]; omega) σ2 (hfr.tr g2)
theorem ct_mapart {σ : mk_S} {ra na at0 : Nat} {lf : List Int} {Q : Option mm_V → mm_H → Prop} (hM : MT σ T) (hO : TOK T) (ha : kd L ra = .inl (0, na)) (hra : ra ≠ 55 ∧ ra ≠ 74 ∧ ra ≠ 75) (hat : at0 + lf.length ≤ na) (hna : na ≤ 2000) (hf : ∀ j, j < lf.length → σ ra (at0 + j) = lf.getD j 0)
    (k1 : (exL T lf).length ≤ 300 → ∀ σ', mAp σ' (ap T lf) → mf [74, 75] [28] σ σ' → Q (some (vI 1)) (hp L σ')) (k0 : 300 < (exL T lf).length → ∀ σ', mf [74, 75] [28] σ σ' → Q (some (vI 0)) (hp L σ')) : mm_call 158 [vP 55, vP ra, vI at0, vI lf.length] (hp L σ) Q := by
  refine ⟨Nat.le_of_ble_eq_true rfl, ?_⟩
  show mm_X 158 0 [vP 55, vP ra, vI at0, vI lf.length, mm_null, mm_null, mm_null, mm_null, mm_null] [] _ _
  refine r_aload_n c_158_0 rfl <| r_iconst c_158_1 <| r_putf c_158_2 rfl rfl <| r_iconst c_158_5 <| r_istore_9_4 c_158_6 rfl <| ?_
  have hfr : mf [74, 75] [28] σ (sto σ 55 28 0) := mf.rf.stF (by decide)
  exact lp_mapart hO ha hra hat hna (lf.length + 1) 0 [] (sto σ 55 28 0) _ _ _ _ Q (by omega) (by omega) (hM.mf hfr (fun a ha => by simp at ha; omega) (by decide)) (fun j hj => by rw [sto_ne hra.1]; exact hf j hj) ⟨sto_get _ _ _ _, arr_nil⟩ (Nat.zero_le _) (by simp) (fun h9 σ3 q1 q2 => k1 h9 σ3 q1 (hfr.tr q2)) (fun h9 σ3 q2 => k0 h9 σ3 (hfr.tr q2))
end MAPART
