/-! MAKE: the model's labels; one label taken back from few letters. -/
def ofs (os : List (List Int)) (i : Nat) : Nat := (os.take i).flatten.length
theorem ofs_succ {os : List (List Int)} {i : Nat} (h : i < os.length) : ofs os (i + 1) = ofs os i + (os.getD i []).length := by
  unfold ofs
  rw [List.take_succ, List.getD_eq_getElem?_getD, List.getElem?_eq_getElem h, List.flatten_append, List.length_append]
  simp only [Option.toList_some, List.flatten_cons, List.flatten_nil, List.append_nil, Option.getD_some]
theorem ofs_all {os : List (List Int)} : ofs os os.length = os.flatten.length := by unfold ofs; rw [List.take_length]
theorem ofs_mono {os : List (List Int)} : ∀ (k i : Nat), i + k ≤ os.length → ofs os i ≤ ofs os (i + k)
  | 0, i, _ => Nat.le_refl _
  | k + 1, i, h => by
    have h1 := ofs_mono (os := os) k i (by omega)
    have h2 := ofs_succ (os := os) (i := i + k) (by omega)
    rw [show i + (k + 1) = i + k + 1 by omega]
    omega
theorem ofs_le {os : List (List Int)} {i j : Nat} (h : i ≤ j) (hj : j ≤ os.length) : ofs os i ≤ ofs os j := by
  have := ofs_mono (os := os) (j - i) i (by omega)
  rw [show i + (j - i) = j by omega] at this
  exact this
theorem ofs_fit {os : List (List Int)} {i : Nat} (h : i < os.length) : ofs os i + (os.getD i []).length ≤ os.flatten.length := by
  rw [← ofs_succ h, ← ofs_all]; exact ofs_le h (Nat.le_refl _)
def mLx (σ : mk_S) (os rs : List (List Int)) : Prop := rs.length = os.length ∧ os.flatten.length ≤ 300 ∧ os.length ≤ 301 ∧ ∀ i, i < os.length → σ 82 i = (ofs os i : Int) ∧ σ 83 i = ((rs.getD i []).length : Int) ∧ (rs.getD i []).length ≤ (os.getD i []).length ∧ seg σ 81 (ofs os i) (rs.getD i [])
theorem mLx.mf {A F : List Nat} {σ σ' : mk_S} {os rs : List (List Int)} (h : mLx σ os rs) (g : mf A F σ σ') (h1 : 81 ∉ A ∧ 82 ∉ A ∧ 83 ∉ A) : mLx σ' os rs := by
  refine ⟨h.1, h.2.1, h.2.2.1, fun i hi => ?_⟩
  rw [g.1 82 (by decide) h1.2.1, g.1 83 (by decide) h1.2.2]
  have := h.2.2.2 i hi
  exact ⟨this.1, this.2.1, this.2.2.1, fun j hj => by rw [g.1 81 (by decide) h1.1]; exact this.2.2.2 j hj⟩
theorem gds_set {rs : List (List Int)} {i j : Nat} {z : List Int} (hi : i < rs.length) : (rs.set i z).getD j [] = if j = i then z else rs.getD j [] := by
  rw [List.getD_eq_getElem?_getD, List.getD_eq_getElem?_getD, List.getElem?_set]
  by_cases e : i = j
  · subst e; rw [if_pos rfl, if_pos hi, if_pos rfl]; rfl
  · rw [if_neg e, if_neg (fun h => e h.symm)]
theorem mLx_set {σ σ' : mk_S} {os rs : List (List Int)} {i : Nat} {z : List Int} (h : mLx σ os rs) (hi : i < os.length) (hz : z.length ≤ (rs.getD i []).length) (h82 : σ' 82 = σ 82) (h83 : σ' 83 i = (z.length : Int)) (h83b : ∀ j, j ≠ i → σ' 83 j = σ 83 j)
    (h81 : seg σ' 81 (ofs os i) z) (h81b : ∀ x, x < ofs os i ∨ ofs os i + (os.getD i []).length ≤ x → σ' 81 x = σ 81 x) : mLx σ' os (rs.set i z) := by
  obtain ⟨a1, a2, a3, a4⟩ := h
  refine ⟨by rw [List.length_set]; exact a1, a2, a3, fun j hj => ?_⟩
  rw [gds_set (by omega), h82]
  by_cases e : j = i
  · subst e
    rw [if_pos rfl]
    exact ⟨(a4 j hj).1, h83, Nat.le_trans hz (a4 j hj).2.2.1, h81⟩
  · rw [if_neg e, h83b j e]
    refine ⟨(a4 j hj).1, (a4 j hj).2.1, (a4 j hj).2.2.1, fun x hx => ?_⟩
    rw [h81b]
    · exact (a4 j hj).2.2.2 x hx
    · have hl := (a4 j hj).2.2.1
      have s1 := ofs_succ hj
      have s2 := ofs_succ hi
      rcases Nat.lt_or_ge j i with g | g
      · have := ofs_le (os := os) (i := j + 1) (j := i) g (by omega)
        left; omega
      · have := ofs_le (os := os) (i := i + 1) (j := j) (by omega) (by omega)
        right; omega
section MUNF
variable {L : Nat} {T : mk_S} {Q : Option mm_V → mm_H → Prop}
theorem lp_muw {σ : mk_S} {D : List Int} {a1 a2 : mm_V} {a3 : Int} (hD : mBack σ D) (hl : D.length ≤ 300) : ∀ (k j : Nat) (f : Int), j + k = D.length → ((f = 1 ∧ wdF D = true) ∨ (f = 0 ∧ wdF D = wdF (D.drop j))) →
    (∀ f : Int, ((f = 1 ∧ wdF D = true) ∨ (f = 0 ∧ wdF D = false)) → ∀ a5, mm_X 180 87 [vP 55, a1, a2, vI a3, vI f, a5] [] (hp L σ) Q) →
    mm_X 180 48 [vP 55, a1, a2, vI a3, vI f, vI (j : Nat)] [] (hp L σ) Q := by
  intro k
  have e36 := hD.1
  induction k with
  | zero =>
    intro j f hj hf kk
    have ej : j = D.length := by omega
    subst ej
    rw [List.drop_length] at hf
    refine r_iload c_180_48 rfl <| r_aload_n c_180_50 rfl <| r_getf_i c_180_51 rfl rfl <| r_icmp_ge c_180_54 (fun h54 => ?_) <| (fun h54 => ?_)
    · exact kk f hf _
    · exact absurd h54 (by omega)
  | succ k ih =>
    intro j f hj hf kk
    rw [drop_at (by omega)] at hf
    simp only [wdF] at hf
    have hx := hD.2 j (by omega)
    generalize hxv : D.getD j 0 = x at *
    have st1 : wdF D = true → mm_X 180 48 [vP 55, a1, a2, vI a3, vI 1, vI ((j : Int) + 1)] [] (hp L σ) Q := fun h => ih (j + 1) 1 (by omega) (Or.inl ⟨rfl, h⟩) kk
    have st0 : wdF D = wdF (D.drop (j + 1)) → mm_X 180 48 [vP 55, a1, a2, vI a3, vI 0, vI ((j : Int) + 1)] [] (hp L σ) Q := fun h => ih (j + 1) 0 (by omega) (Or.inr ⟨rfl, h⟩) kk
    refine r_iload c_180_48 rfl <| r_aload_n c_180_50 rfl <| r_getf_i c_180_51 rfl rfl <| r_icmp_ge c_180_54 (fun h54 => ?_) <| (fun h54 => ?_)
    · exact absurd h54 (by omega)
    · refine r_iload c_180_57 rfl <| r_if_ne c_180_59 (fun h59 => ?_) <| (fun h59 => ?_)
      · refine r_iconst c_180_74 <| r_goto c_180_75 <| r_istore_6_4 c_180_79 rfl <| r_iinc_6_5 c_180_81 rfl (by omega) <| r_goto c_180_84 <| ?_
        first
        | exact st1 (hf.elim (fun h => h.2) (fun h => absurd h.1 (by assumption)))
        | exact st1 (hf.elim (fun h => h.2) (fun h => by rw [h.2, if_pos (by omega)]))
        | exact st0 (hf.elim (fun h => absurd h.1 (by omega)) (fun h => by rw [h.2, if_neg (by omega)]))
      · refine r_aload_n c_180_62 rfl <| r_getf_a c_180_63 rfl rfl <| r_iload c_180_66 rfl <| r_iald c_180_68 rfl (Or.inl rfl) (jn := j) (by omega) (by omega) <| r_bipush c_180_69 <| r_icmp_le c_180_71 (fun h71 => ?_) <| (fun h71 => ?_)
        · refine r_iconst c_180_78 <| r_istore_6_4 c_180_79 rfl <| r_iinc_6_5 c_180_81 rfl (by omega) <| r_goto c_180_84 <| ?_
          first
          | exact st1 (hf.elim (fun h => h.2) (fun h => absurd h.1 (by assumption)))
          | exact st1 (hf.elim (fun h => h.2) (fun h => by rw [h.2, if_pos (by omega)]))
          | exact st0 (hf.elim (fun h => absurd h.1 (by omega)) (fun h => by rw [h.2, if_neg (by omega)]))
        · refine r_iconst c_180_74 <| r_goto c_180_75 <| r_istore_6_4 c_180_79 rfl <| r_iinc_6_5 c_180_81 rfl (by omega) <| r_goto c_180_84 <| ?_
          first
          | exact st1 (hf.elim (fun h => h.2) (fun h => absurd h.1 (by assumption)))
          | exact st1 (hf.elim (fun h => h.2) (fun h => by rw [h.2, if_pos (by omega)]))
          | exact st0 (hf.elim (fun h => absurd h.1 (by omega)) (fun h => by rw [h.2, if_neg (by omega)]))
theorem lp_muc {os : List (List Int)} {i : Nat} {D : List Int} {a1 a3 : mm_V} {a4 : Int} {σ0 : mk_S} (hl : D.length ≤ 300) (hst : ofs os i + D.length ≤ 2000) (hD0 : arr σ0 79 D) : ∀ (k j : Nat) (σ : mk_S), j + k = D.length → σ 55 36 = (D.length : Int) → arr σ 79 D → (∀ x, x < j → σ 81 (ofs os i + x) = D.getD x 0) →
    (∀ σ' a5, seg σ' 81 (ofs os i) D → mf [81] [] σ σ' → (∀ x, x < ofs os i ∨ ofs os i + D.length ≤ x → σ' 81 x = σ 81 x) → mm_X 180 145 [vP 55, a1, vI (ofs os i : Nat), a3, vI a4, a5] [] (hp L σ') Q) →
    mm_X 180 114 [vP 55, a1, vI (ofs os i : Nat), a3, vI a4, vI (j : Nat)] [] (hp L σ) Q := by
  intro k
  induction k with
  | zero =>
    intro j σ hj e36 h79 h81 kk
    have ej : j = D.length := by omega
    subst ej
    refine r_iload c_180_114 rfl <| r_aload_n c_180_116 rfl <| r_getf_i c_180_117 rfl rfl <| r_icmp_ge c_180_120 (fun h120 => ?_) <| (fun h120 => ?_)
    · exact kk σ _ h81 mf.rf (fun _ _ => rfl)
    · exact absurd h120 (by omega)
  | succ k ih =>
    intro j σ hj e36 h79 h81 kk
    have hx := h79 j (by omega)
    refine r_iload c_180_114 rfl <| r_aload_n c_180_116 rfl <| r_getf_i c_180_117 rfl rfl <| r_icmp_ge c_180_120 (fun h120 => ?_) <| (fun h120 => ?_)
    · exact absurd h120 (by omega)
    · refine r_aload_n c_180_123 rfl <| r_getf_a c_180_124 rfl rfl <| r_iload_n c_180_127 rfl <| r_iload c_180_128 rfl <| r_iadd c_180_130 (by omega) <| r_aload_n c_180_131 rfl <| r_getf_a c_180_132 rfl rfl <| r_iload c_180_135 rfl <| r_iald c_180_137 rfl (Or.inl rfl) (jn := j) rfl (by omega) <| r_iast c_180_138 rfl (jn := ofs os i + j) (by omega) (by omega) <| ?_
      refine r_iinc_6_5 c_180_139 rfl (by omega) <| r_goto c_180_142 <| ?_
      refine ih (j + 1) _ (by omega) (by rw [sto_ne (by decide)]; exact e36) (h79.eq (sto_ne (by decide))) (fun x hx2 => ?_) (fun σ2 a5 g1 g2 g3 => kk σ2 a5 g1 ((mf.rf.stA (by decide) (by decide)).tr g2) (fun x hx2 => ?_))
      · rw [sto_at]
        by_cases e : x = j
        · subst e; rw [st_at]; exact hx
        · rw [st_ne (by omega)]; exact h81 x (by omega)
      · rw [g3 x hx2, sto_at, st_ne (by omega)]
theorem ct_munf {σ : mk_S} {os rs : List (List Int)} {i : Nat} {lb : List Int} (hM : MT σ T) (hO : TOK T) (hx : mLx σ os rs) (hi : i < os.length) (hlb : rs.getD i [] = lb) (hpl : pts lb) (hpf : pfx lb) (f37 : σ 55 37 = 0)
    (k1 : (unL T lb).2.1 = 0 → ∀ σ', mLx σ' os (rs.set i (unL T lb).1) → mf [74, 75, 76, 79, 81, 83] [28, 31, 36] σ σ' → Q (some (vI 1)) (hp L σ'))
    (k0 : (unL T lb).2.1 ≠ 0 → ∀ σ', mD σ' (unL T lb).2.1 i (unL T lb).2.2 → mf [74, 75, 76, 79, 81, 83] [28, 31, 36, 37, 38, 39] σ σ' → Q (some (vI 0)) (hp L σ')) : mm_call 180 [vP 55, vI (i : Nat)] (hp L σ) Q := by
  have hxi := hx.2.2.2 i hi
  have hof := ofs_fit hi
  rw [hlb] at hxi
  obtain ⟨x82, x83, xle, xsg⟩ := hxi
  have hx2 := hx.2.1
  have hx3 := hx.2.2.1
  have h4 := pfx_len hpf
  have hdl : (lb.drop 4).length = lb.length - 4 := List.length_drop
  have hd := DE_out (l := lb.drop 4) (pts_iff.2 (fun y hy => pts_iff.1 hpl y (List.mem_of_mem_drop hy))) (by omega)
  unfold unL at k1 k0
  rw [if_neg (not_not_intro hpf)] at k1 k0
  generalize hD : DE (lb.drop 4) = D at *
  refine ⟨Nat.le_of_ble_eq_true rfl, ?_⟩
  show mm_X 180 0 [vP 55, vI (i : Nat), mm_null, mm_null, mm_null, mm_null] [] _ _
  refine r_aload_n c_180_0 rfl <| r_getf_a c_180_1 rfl rfl <| r_iload_n c_180_4 rfl <| r_iald c_180_5 rfl (Or.inl rfl) rfl (by omega) <| ?_
  rw [x82]
  refine r_istore_n_6_2 c_180_6 rfl <| r_aload_n c_180_7 rfl <| r_aload_n c_180_8 rfl <| r_getf_a c_180_9 rfl rfl <| r_iload_n c_180_12 rfl <| r_iconst c_180_13 <| r_iadd c_180_14 (by omega) <| r_aload_n c_180_15 rfl <| r_getf_a c_180_16 rfl rfl <| r_iload_n c_180_19 rfl <| ?_
  refine r_iald c_180_20 rfl (Or.inl rfl) rfl (by omega) <| ?_
  rw [x83]
  refine r_iconst c_180_21 <| r_isub c_180_22 (by omega) <| ?_
  rw [show (ofs os i : Int) + 4 = ((ofs os i + 4 : Nat) : Int) by omega, show (lb.length : Int) - 4 = ((lb.drop 4).length : Int) by omega]
  refine r_cV3 c_180_23 rfl (Nat.le_of_ble_eq_true rfl) <| ?_
  refine ct_decoded (ra := 81) (na := 2000) (at0 := ofs os i + 4) rfl (by decide) (by omega) (by decide) (by omega) (pts_iff.2 (fun y hy => pts_iff.1 hpl y (List.mem_of_mem_drop hy))) (fun j hj => by rw [show ofs os i + 4 + j = ofs os i + (4 + j) by omega, xsg (4 + j) (by omega), gd_drop]) (fun σ1 g1 hf1 => ?_)
  rw [hD] at g1 ⊢
  have c1 : mf [74, 75, 76, 79, 81, 83] [28, 31, 36] σ σ1 := hf1.up (by decide) (by decide)
  refine r_istore_n_6_3 c_180_26 rfl <| r_iload_n c_180_27 rfl <| r_if_lt c_180_28 (fun h28 => ?_) <| (fun h28 => ?_)
  · refine r_iconst c_180_42 <| r_istore_6_4 c_180_43 rfl <| r_iconst c_180_45 <| r_istore_6_5 c_180_46 rfl <| ?_
    rw [if_neg (by omega)] at k1 k0
    have g1 := g1 (by omega)
    refine lp_muw g1 (by omega) D.1.length 0 0 (by omega) (Or.inr ⟨rfl, by rw [List.drop_zero]⟩) (fun f hf a5 => ?_)
    have e36 := g1.1
    have key : wdF D.1 ≠ false → mm_X 180 101 [vP 55, vI (i : Nat), vI (ofs os i : Nat), vI D.2, vI f, a5] [] (hp L σ1) Q := by
      intro hw
      rw [if_neg hw] at k1 k0
      have hx1 := hx.mf hf1 (by decide)
      refine r_aload_n c_180_101 rfl <| r_getf_a c_180_102 rfl rfl <| r_iload_n c_180_105 rfl <| r_aload_n c_180_106 rfl <| r_getf_i c_180_107 rfl rfl <| ?_
      rw [e36]
      refine r_iast c_180_110 rfl (jn := i) (by omega) (by omega) <| r_iconst c_180_111 <| r_istore_6_5 c_180_112 rfl <| ?_
      refine lp_muc (os := os) (i := i) (σ0 := σ1) (by omega) (by omega) g1.2 D.1.length 0 _ (by omega) (by rw [sto_ne (by decide)]; exact e36) (g1.2.eq (sto_ne (by decide))) (fun x hx => absurd hx (Nat.not_lt_zero x)) (fun σ2 a5 w1 w2 w3 => ?_)
      have hf2 : mf [81, 83] [] σ1 σ2 := (mf.rf.stA (by decide) (by decide)).tr (w2.up (by decide) (by decide))
      have c2 : mf [74, 75, 76, 79, 81, 83] [28, 31, 36] σ σ2 := c1.tr (hf2.up (by decide) (by decide))
      have e36b : σ2 55 36 = (D.1.length : Int) := by rw [hf2.2 36 (by decide)]; exact e36
      have hx2' : mLx σ2 os (rs.set i D.1) := by
        refine mLx_set hx1 hi (by rw [hlb]; omega) ?_ ?_ ?_ w1 (fun x hx => ?_)
        · rw [w2.1 82 (by decide) (by decide), sto_ne (by decide)]
        · rw [w2.1 83 (by decide) (by decide), sto_at, st_at]
        · intro j hj
          rw [w2.1 83 (by decide) (by decide), sto_at, st_ne hj]
        · rw [w3 x (by omega), sto_ne (by decide)]
      refine r_aload_n c_180_145 rfl <| r_aload_n c_180_146 rfl <| r_getf_a c_180_147 rfl rfl <| r_iload_n c_180_150 rfl <| r_aload_n c_180_151 rfl <| r_getf_i c_180_152 rfl rfl <| ?_
      rw [e36b]
      refine r_cV3 c_180_155 rfl (Nat.le_of_ble_eq_true rfl) <| ?_
      refine ct_mform (ra := 81) (na := 2000) (at0 := ofs os i) (hM.mf c2 (by decide) (by decide)) hO rfl (by decide) (by omega) (by decide) w1 (fun hlen σ3 hA3 hl3 hf3 => ?_) (fun hlen σ3 hf3 => ?_)
      · refine r_if_ne c_180_158 (fun _ => ?_) <| (fun h => absurd h (by decide))
        rw [if_neg (by omega)] at k1 k0
        have c3 : mf [74, 75, 76, 79, 81, 83] [28, 31, 36] σ σ3 := c2.tr (hf3.up (by decide) (by decide))
        have w1' : ∀ j, j < D.1.length → σ3 81 (ofs os i + j) = D.1.getD j 0 := fun j hj => by rw [hf3.1 81 (by decide) (by decide)]; exact w1 j hj
        have ol := oF_len T D.1
        refine r_aload_n c_180_170 rfl <| r_aload_n c_180_171 rfl <| r_getf_a c_180_172 rfl rfl <| r_iload_n c_180_175 rfl <| r_aload_n c_180_176 rfl <| r_getf_i c_180_177 rfl rfl <| ?_
        rw [hf3.2 36 (by decide), e36b]
        refine r_cV3 c_180_180 rfl (Nat.le_of_ble_eq_true rfl) <| ?_
        refine ct_mfirst (ra := 81) (na := 2000) (at0 := ofs os i) rfl (by omega) (by decide) w1' hl3 (by omega) ?_
        refine r_istore_n_6_3 c_180_183 rfl <| r_iload_n c_180_184 rfl <| r_if_lt c_180_185 (fun h185 => ?_) <| (fun h185 => ?_)
        · refine r_iconst c_180_199 <| r_goto c_180_200 <| r_zret c_180_204 (Or.inr rfl) <| ?_
          first
          | (rw [if_neg (by omega)] at k1
             exact k1 rfl σ3 (hx2'.mf hf3 (by decide)) c3)
          | exact absurd rfl (by assumption)
          | (rw [if_pos (by omega)] at k0
             exact k0 (by simp) σ4 hd4 ((c3.up (by decide) (by decide)).tr (hf4.up (by decide) (by decide))))
        · refine r_aload_n c_180_188 rfl <| r_bipush c_180_189 <| r_iload_n c_180_191 rfl <| r_iload_n c_180_192 rfl <| r_cV3 c_180_193 rfl (Nat.le_of_ble_eq_true rfl) <| ?_
          refine ct_wrong _ _ _ (by rw [c3.2 37 (by decide)]; exact f37) (fun σ4 hd4 hf4 => ?_)
          refine r_if_eq c_180_196 (fun h196 => ?_) <| (fun h196 => ?_)
          · refine r_iconst c_180_203 <| r_zret c_180_204 (Or.inl rfl) <| ?_
            first
            | (rw [if_neg (by omega)] at k1
               exact k1 rfl σ3 (hx2'.mf hf3 (by decide)) c3)
            | exact absurd rfl (by assumption)
            | (rw [if_pos (by omega)] at k0
               exact k0 (by simp) σ4 hd4 ((c3.up (by decide) (by decide)).tr (hf4.up (by decide) (by decide))))
          · refine r_iconst c_180_199 <| r_goto c_180_200 <| r_zret c_180_204 (Or.inr rfl) <| ?_
            first
            | (rw [if_neg (by omega)] at k1
               exact k1 rfl σ3 (hx2'.mf hf3 (by decide)) c3)
            | exact absurd rfl (by assumption)
            | (rw [if_pos (by omega)] at k0
               exact k0 (by simp) σ4 hd4 ((c3.up (by decide) (by decide)).tr (hf4.up (by decide) (by decide))))
      · refine r_if_ne c_180_158 (fun h => absurd h (by decide)) <| (fun _ => ?_)
        refine r_aload_n c_180_161 rfl <| r_bipush c_180_162 <| r_iload_n c_180_164 rfl <| r_iconst c_180_165 <| r_cV3 c_180_166 rfl (Nat.le_of_ble_eq_true rfl) <| ?_
        refine ct_wrong _ _ _ (by rw [hf3.2 37 (by decide), c2.2 37 (by decide)]; exact f37) (fun σ4 hd4 hf4 => ?_)
        refine r_zret c_180_169 (by omega) <| ?_
        rw [if_pos hlen] at k0
        exact k0 (by simp) σ4 hd4 (((c2.tr (hf3.up (by decide) (by decide))).up (by decide) (by decide)).tr (hf4.up (by decide) (by decide)))
    refine r_iload c_180_87 rfl <| r_if_ne c_180_89 (fun h89 => ?_) <| (fun h89 => ?_)
    · exact key (by rw [(hf.elim (fun h => h.2) (fun h => absurd h.1 (by assumption)) : wdF D.1 = true)]; decide)
    · refine r_aload_n c_180_92 rfl <| r_bipush c_180_93 <| r_iload_n c_180_95 rfl <| r_iconst c_180_96 <| r_cV3 c_180_97 rfl (Nat.le_of_ble_eq_true rfl) <| ?_
      refine ct_wrong _ _ _ (by rw [hf1.2 37 (by decide)]; exact f37) (fun σ2 hd2 hf2 => ?_)
      refine r_zret c_180_100 (by omega) <| ?_
      have hw : wdF D.1 = false := hf.elim (fun h => absurd h.1 (by omega)) (fun h => h.2)
      rw [if_pos hw] at k0
      exact k0 (by simp) σ2 hd2 ((c1.up (by decide) (by decide)).tr (hf2.up (by decide) (by decide)))
  · refine r_aload_n c_180_31 rfl <| r_bipush c_180_32 <| r_iload_n c_180_34 rfl <| r_iconst c_180_35 <| r_iload_n c_180_36 rfl <| r_iadd c_180_37 (by omega) <| r_cV3 c_180_38 rfl (Nat.le_of_ble_eq_true rfl) <| ?_
    refine ct_wrong _ _ _ (by rw [hf1.2 37 (by decide)]; exact f37) (fun σ2 hd2 hf2 => ?_)
    refine r_zret c_180_41 (by omega) <| ?_
    rw [if_pos (by omega)] at k0
    exact k0 (by simp) σ2 hd2 ((c1.up (by decide) (by decide)).tr (hf2.up (by decide) (by decide)))
end MUNF
