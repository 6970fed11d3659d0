/-! MAKE, the first steps, the model's side. -/
def mD (σ : mk_S) (f l p : Int) : Prop := σ 55 37 = f ∧ σ 55 38 = l ∧ σ 55 39 = p
def mMap (σ : mk_S) (a : List Int) : Prop := σ 55 42 = (a.length : Int) ∧ arr σ 80 a
theorem mD.mf {A F : List Nat} {σ σ' : mk_S} {f l p : Int} (h : mD σ f l p) (g : mf A F σ σ') (h1 : 37 ∉ F ∧ 38 ∉ F ∧ 39 ∉ F) : mD σ' f l p :=
  ⟨(g.2 37 h1.1).trans h.1, (g.2 38 h1.2.1).trans h.2.1, (g.2 39 h1.2.2).trans h.2.2⟩
theorem gd_mapr {n j : Nat} {f : Nat → Int} (h : j < n) : ((List.range n).map f).getD j 0 = f j := by
  rw [List.getD_eq_getElem?_getD, List.getElem?_eq_getElem (by simpa using h)]
  simp
theorem stO_or {T : mk_S} (hO : TOK T) (p : Int) : stO T p = 0 ∨ stO T p = 1 ∨ stO T p = 2 ∨ stO T p = 3 := by
  unfold stO
  rcases stI_cases T p with g | ⟨i, g1, g2, -⟩
  · rw [if_pos (by omega)]; unfold stF; (repeat' split) <;> omega
  · rw [if_neg (by omega), g1, Int.toNat_natCast]; exact (hO.2.1 i g2).1
section MMAP
variable {L : Nat} {T : mk_S} {Q : Option mm_V → mm_H → Prop}
theorem ct_wrong {σ : mk_S} (f l p : Int) (h0 : σ 55 37 = 0) (k : ∀ σ', mD σ' f l p → mf [] [37, 38, 39] σ σ' → Q (some (vI 0)) (hp L σ')) : mm_call 176 [vP 55, vI f, vI l, vI p] (hp L σ) Q := by
  refine ⟨Nat.le_of_ble_eq_true rfl, ?_⟩
  show mm_X 176 0 [vP 55, vI f, vI l, vI p] [] _ _
  refine r_aload_n c_176_0 rfl <| r_getf_i c_176_1 rfl rfl <| r_if_ne c_176_4 (fun h4 => ?_) <| (fun h4 => ?_)
  · refine r_iconst c_176_22 <| r_zret c_176_23 (Or.inl rfl) <| ?_
    first
    | exact absurd h0 (by assumption)
    | exact k _ ⟨by rw [sto_get2 (Or.inr (by decide)), sto_get2 (Or.inr (by decide)), sto_get], by rw [sto_get2 (Or.inr (by decide)), sto_get], sto_get _ _ _ _⟩ (((mf.rf.stF (by decide)).stF (by decide)).stF (by decide))
  · refine r_aload_n c_176_7 rfl <| r_iload_n c_176_8 rfl <| r_putf c_176_9 rfl rfl <| r_aload_n c_176_12 rfl <| r_iload_n c_176_13 rfl <| r_putf c_176_14 rfl rfl <| r_aload_n c_176_17 rfl <| r_iload_n c_176_18 rfl <| r_putf c_176_19 rfl rfl <| r_iconst c_176_22 <| ?_
    refine r_zret c_176_23 (Or.inl rfl) <| ?_
    first
    | exact absurd h0 (by assumption)
    | exact k _ ⟨by rw [sto_get2 (Or.inr (by decide)), sto_get2 (Or.inr (by decide)), sto_get], by rw [sto_get2 (Or.inr (by decide)), sto_get], sto_get _ _ _ _⟩ (((mf.rf.stF (by decide)).stF (by decide)).stF (by decide))
theorem lp_mmi {p : Int} {i : Nat} {m : List Int} {s th : Int} (hm : m.length ≤ 4) (hs : s = stO T p) (hv : ∀ (σ : mk_S) (j : Nat), MT σ T → j < m.length → (s = 0 → m.getD j 0 = p) ∧ (s ≠ 0 → th < 0 → m.getD j 0 = p + 32) ∧ (s ≠ 0 → 0 ≤ th → th < 200 ∧ σ 61 (4 * th.toNat + j) = m.getD j 0)) (hpr : isPt p) : ∀ (k j : Nat) (a : List Int) (σ : mk_S) (Q : Option mm_V → mm_H → Prop), j + k = m.length → MT σ T → mMap σ (a ++ m.take j) → a.length + m.length ≤ 300 →
    (∀ σ', mMap σ' (a ++ m) → mf [80] [42] σ σ' → mm_X 177 170 [vP 55, vI (i : Nat), vI p, vI s, vI th, vI (m.length : Nat), vI (m.length : Nat)] [] (hp L σ') Q) →
    mm_X 177 106 [vP 55, vI (i : Nat), vI p, vI s, vI th, vI (m.length : Nat), vI (j : Nat)] [] (hp L σ) Q := by
  intro k
  induction k with
  | zero =>
    intro j a σ Q hj hM hl hle kk
    have ej : j = m.length := by omega
    subst ej
    rw [List.take_length] at hl
    refine r_iload c_177_106 rfl <| r_iload c_177_108 rfl <| r_icmp_ge c_177_110 (fun h110 => ?_) <| (fun h110 => ?_)
    · exact kk σ hl mf.rf
    · exact absurd h110 (by omega)
  | succ k ih =>
    intro j a σ Q hj hM hl hle kk
    have hvj := hv σ j hM (by omega)
    have e42 := hl.1
    have htl : (a ++ m.take j).length = a.length + j := by rw [List.length_append, List.length_take]; omega
    rw [htl] at e42
    unfold isPt at hpr
    have fin : ∀ z, z = m.getD j 0 → mm_X 177 106 [vP 55, vI (i : Nat), vI p, vI s, vI th, vI (m.length : Nat), vI ((j : Int) + 1)] [] (hp L (sto (sto σ 80 (a.length + j) z) 55 42 (((a.length + j : Nat) : Int) + 1))) Q := by
      intro z hz
      have et : m.take (j + 1) = m.take j ++ [z] := by
        rw [hz, List.take_succ, List.getElem?_eq_getElem (by omega)]
        rw [List.getD_eq_getElem?_getD, List.getElem?_eq_getElem (by omega)]
        rfl
      refine ih (j + 1) a _ Q (by omega) ?_ ⟨?_, ?_⟩ hle (fun σ2 w1 w2 => kk σ2 w1 (((mf.rf.stA (by decide) (by decide)).stF (by decide)).tr w2))
      · exact hM.mf (A := [80]) (F := [42]) ((mf.rf.stA (by decide) (by decide)).stF (by decide)) (by decide) (by decide)
      · rw [sto_get, List.length_append, List.length_take]; omega
      · rw [et, ← List.append_assoc]
        exact arr_push hl.2 (by rw [sto_ne (by decide), sto_at, htl])
    refine r_iload c_177_106 rfl <| r_iload c_177_108 rfl <| r_icmp_ge c_177_110 (fun h110 => ?_) <| (fun h110 => ?_)
    · exact absurd h110 (by omega)
    · refine r_aload_n c_177_113 rfl <| r_getf_a c_177_114 rfl rfl <| r_aload_n c_177_117 rfl <| r_getf_i c_177_118 rfl rfl <| r_iload_n c_177_121 rfl <| r_if_ne c_177_122 (fun h122 => ?_) <| (fun h122 => ?_)
      · refine r_iload c_177_129 rfl <| r_if_lt c_177_131 (fun h131 => ?_) <| (fun h131 => ?_)
        · refine r_iload_n c_177_149 rfl <| r_bipush c_177_150 <| r_iadd c_177_152 (by omega) <| r_iast c_177_153 rfl (jn := a.length + j) (by omega) (by omega) <| r_aload_n c_177_154 rfl <| r_dup c_177_155 rfl <| r_getf_i c_177_156 rfl rfl <| ?_
          rw [sto_ne (by decide), e42]
          refine r_iconst c_177_159 <| r_iadd c_177_160 (by omega) <| r_putf c_177_161 rfl rfl <| r_iinc_7_6 c_177_164 rfl (by omega) <| r_goto c_177_167 <| ?_
          first
          | exact fin _ (hvj.1 (by omega)).symm
          | exact fin _ (hvj.2.1 (by omega) (by omega)).symm
          | exact fin _ (hvj.2.2 (by omega) (by omega)).2
        · refine r_aload_n c_177_134 rfl <| r_getf_a c_177_135 rfl rfl <| r_iconst c_177_138 <| r_iload c_177_139 rfl <| r_imul c_177_141 (by omega) <| r_iload c_177_142 rfl <| r_iadd c_177_144 (by have := hvj.2.2 (by omega) (by omega); omega) <| r_iald c_177_145 rfl (Or.inl rfl) (jn := 4 * th.toNat + j) (by have := hvj.2.2 (by omega) (by omega); omega) (by have := hvj.2.2 (by omega) (by omega); omega) <| r_goto c_177_146 <| r_iast c_177_153 rfl (jn := a.length + j) (by omega) (by omega) <| ?_
          refine r_aload_n c_177_154 rfl <| r_dup c_177_155 rfl <| r_getf_i c_177_156 rfl rfl <| ?_
          rw [sto_ne (by decide), e42]
          refine r_iconst c_177_159 <| r_iadd c_177_160 (by omega) <| r_putf c_177_161 rfl rfl <| r_iinc_7_6 c_177_164 rfl (by omega) <| r_goto c_177_167 <| ?_
          first
          | exact fin _ (hvj.1 (by omega)).symm
          | exact fin _ (hvj.2.1 (by omega) (by omega)).symm
          | exact fin _ (hvj.2.2 (by omega) (by omega)).2
      · refine r_iload_n c_177_125 rfl <| r_goto c_177_126 <| r_iast c_177_153 rfl (jn := a.length + j) (by omega) (by omega) <| r_aload_n c_177_154 rfl <| r_dup c_177_155 rfl <| r_getf_i c_177_156 rfl rfl <| ?_
        rw [sto_ne (by decide), e42]
        refine r_iconst c_177_159 <| r_iadd c_177_160 (by omega) <| r_putf c_177_161 rfl rfl <| r_iinc_7_6 c_177_164 rfl (by omega) <| r_goto c_177_167 <| ?_
        first
        | exact fin _ (hvj.1 (by omega)).symm
        | exact fin _ (hvj.2.1 (by omega) (by omega)).symm
        | exact fin _ (hvj.2.2 (by omega) (by omega)).2
theorem lp_mma {ps : List Int} {R : List Int × Int × Int} (hO : TOK T) (hps : pts ps) (hpl : ps.length ≤ 300) : ∀ (k i : Nat) (a : List Int) (σ : mk_S) (a2 a3 a4 a5 a6 : mm_V) (Q : Option mm_V → mm_H → Prop), i + k = ps.length → MT σ T → mGot σ ps → mMap σ a → a.length ≤ 300 → σ 55 37 = 0 → R = mqF T (ps.drop i) i a →
    (R.2.1 = 0 → ∀ σ' a1 a2 a3 a4 a5 a6, mMap σ' R.1 → mf [80] [42] σ σ' → mm_X 177 176 [vP 55, a1, a2, a3, a4, a5, a6] [] (hp L σ') Q) →
    (R.2.1 ≠ 0 → ∀ σ', mD σ' R.2.1 0 R.2.2 → mf [80] [37, 38, 39, 42] σ σ' → Q (some (vI 0)) (hp L σ')) →
    mm_X 177 7 [vP 55, vI (i : Nat), a2, a3, a4, a5, a6] [] (hp L σ) Q := by
  intro k
  induction k with
  | zero =>
    intro i a σ a2 a3 a4 a5 a6 Q hi hM hg hl hal f37 hR k1 k0
    have e25 := hg.1
    have ei : i = ps.length := by omega
    subst ei
    rw [List.drop_length] at hR
    simp only [mqF] at hR
    refine r_iload_n c_177_7 rfl <| r_aload_n c_177_8 rfl <| r_getf_i c_177_9 rfl rfl <| r_icmp_ge c_177_12 (fun h12 => ?_) <| (fun h12 => ?_)
    · exact k1 (by rw [hR]) σ _ _ _ _ _ _ (by rw [hR]; exact hl) mf.rf
    · exact absurd h12 (by omega)
  | succ k ih =>
    intro i a σ a2 a3 a4 a5 a6 Q hi hM hg hl hal f37 hR k1 k0
    have e25 := hg.1
    have e42 := hl.1
    have e73 := hg.2 i (by omega)
    have hpt := hps i (by omega)
    rw [drop_at (by omega)] at hR
    simp only [mqF] at hR
    have hns := hO.1.1.2
    have hlt := stI_lt (T := T) (ps.getD i 0)
    have hst := stO_or hO (ps.getD i 0)
    generalize hpv : ps.getD i 0 = p at *
    have hml : stO T p = 0 → mqL T p = [p] := fun h => by unfold mqL; rw [if_pos h]
    have hml2 : stO T p ≠ 0 → stO T p ≠ 2 → mqL T p = [] := fun h h2 => by unfold mqL; rw [if_neg h, if_neg h2]
    have hml3 : stO T p = 2 → stI T p < 0 → mqL T p = [p + 32] := fun h h2 => by unfold mqL; rw [if_neg (by omega), if_pos h, if_pos h2]
    have hml4 : stO T p = 2 → ∀ x : Nat, stI T p = x → (mqL T p).length = (T 15 x).toNat ∧ ∀ j, j < (T 15 x).toNat → (mqL T p).getD j 0 = T 16 (4 * x + j) := fun h x hx => by
      unfold mqL
      rw [if_neg (by omega), if_pos h, if_neg (by omega), hx, Int.toNat_natCast]
      exact ⟨by simp, fun j hj => gd_mapr hj⟩
    have hm4 : (mqL T p).length ≤ 4 := by
      unfold mqL
      split
      · simp
      · split
        · next h =>
          rcases stO_two hO h with q | ⟨x, q1, q2, q3, q4, -⟩
          · rw [if_pos q.1]; simp
          · rw [if_neg (by omega), q1, Int.toNat_natCast, List.length_map, List.length_range]; omega
        · simp
    have key : ∀ (z : Int), z = ((mqL T p).length : Int) → stO T p ≠ 3 → (∀ x, stO T p ≠ 0 → stO T p ≠ 2 → x < (mqL T p).length → False) → mm_X 177 81 [vP 55, vI (i : Nat), vI p, vI (stO T p), vI (stI T p), vI z, a6] [] (hp L σ) Q := by
      intro z hz h3 hn0
      subst hz
      rw [if_neg h3] at hR
      refine r_aload_n c_177_81 rfl <| r_getf_i c_177_82 rfl rfl <| r_iload c_177_85 rfl <| r_iadd c_177_87 (by omega) <| r_sipush c_177_88 <| r_icmp_le c_177_91 (fun h91 => ?_) <| (fun h91 => ?_)
      · refine r_iconst c_177_103 <| r_istore_7_6 c_177_104 rfl <| ?_
        rw [if_neg (by rw [List.length_append]; omega)] at hR
        refine lp_mmi (T := T) hm4 rfl ?_ hpt (mqL T p).length 0 a σ Q (by omega) hM (by rw [List.take_zero, List.append_nil]; exact hl) (by omega) (fun σ1 g1 g2 => ?_)
        · intro σ j hM hj
          refine ⟨fun h => ?_, fun h g => ?_, fun h g => ?_⟩
          · rw [hml h] at hj ⊢
            have : j = 0 := by simpa using hj
            subst this; rfl
          · by_cases h2 : stO T p = 2
            · rw [hml3 h2 g] at hj ⊢
              have : j = 0 := by simpa using hj
              subst this; rfl
            · exact (hn0 j h h2 hj).elim
          · by_cases h2 : stO T p = 2
            · rcases stO_two hO h2 with q | ⟨x, q1, q2, q3, q4, q5, q6⟩
              · omega
              · have hq := hml4 h2 x q1
                have hj2 : j < (T 15 x).toNat := by omega
                refine ⟨by omega, ?_⟩
                rw [hq.2 j hj2, q1, Int.toNat_natCast]
                exact ((hM.2.1 x q2).2.2.2 q6).2 j (by omega)
            · exact (hn0 j h h2 hj).elim
        · refine r_iinc_7_1 c_177_170 rfl (by omega) <| r_goto c_177_173 <| ?_
          exact ih (i + 1) _ σ1 _ _ _ _ _ Q (by omega) (hM.mf g2 (by decide) (by decide)) (hg.eq (g2.2 25 (by decide)) (g2.1 73 (by decide) (by decide))) g1 (by rw [List.length_append]; omega) (by rw [g2.2 37 (by decide)]; exact f37) hR (fun w1 σ2 b1 b2 b3 b4 b5 b6 w2 w3 => k1 w1 σ2 b1 b2 b3 b4 b5 b6 w2 (g2.tr w3)) (fun w1 σ2 w2 w3 => k0 w1 σ2 w2 ((g2.up (by decide) (by decide)).tr w3))
      · refine r_aload_n c_177_94 rfl <| r_bipush c_177_95 <| r_iconst c_177_97 <| r_iload_n c_177_98 rfl <| r_cV3 c_177_99 rfl (Nat.le_of_ble_eq_true rfl) <| ?_
        refine ct_wrong _ _ _ f37 (fun σ2 hd hf2 => ?_)
        refine r_zret c_177_102 (by omega) <| ?_
        rw [if_pos (by rw [List.length_append]; omega)] at hR
        rw [hR] at k0
        exact k0 (by simp) σ2 hd (hf2.up (by decide) (by decide))
    refine r_iload_n c_177_7 rfl <| r_aload_n c_177_8 rfl <| r_getf_i c_177_9 rfl rfl <| r_icmp_ge c_177_12 (fun h12 => ?_) <| (fun h12 => ?_)
    · exact absurd h12 (by omega)
    · refine r_aload_n c_177_15 rfl <| r_getf_a c_177_16 rfl rfl <| r_iload_n c_177_19 rfl <| r_iald c_177_20 rfl (Or.inl rfl) (jn := i) (by omega) (by omega) <| ?_
      rw [e73]
      refine r_istore_n_7_2 c_177_21 rfl <| r_aload_n c_177_22 rfl <| r_iload_n c_177_23 rfl <| r_cV1 c_177_24 rfl (Nat.le_of_ble_eq_true rfl) <| ?_
      refine ct_mstatus hM hO p ?_
      refine r_istore_n_7_3 c_177_27 rfl <| r_aload_n c_177_28 rfl <| r_iload_n c_177_29 rfl <| r_cV1 c_177_30 rfl (Nat.le_of_ble_eq_true rfl) <| ?_
      refine ct_mthing hM hO p ?_
      refine r_istore_7_4 c_177_33 rfl <| r_iload_n c_177_35 rfl <| r_iconst c_177_36 <| r_icmp_ne c_177_37 (fun h37 => ?_) <| (fun h37 => ?_)
      · refine r_iload_n c_177_49 rfl <| r_iconst c_177_50 <| r_icmp_ne c_177_51 (fun h51 => ?_) <| (fun h51 => ?_)
        · refine r_iload_n c_177_58 rfl <| r_iconst c_177_59 <| r_icmp_ne c_177_60 (fun h60 => ?_) <| (fun h60 => ?_)
          · refine r_iconst c_177_78 <| r_istore_7_5 c_177_79 rfl <| ?_
            first
            | exact key _ (by rw [hml2 (by omega) (by omega)]; rfl) (by omega) (fun x g1 g2 g3 => by rw [hml2 g1 g2] at g3; exact absurd g3 (by simp))
            | exact key _ (by rw [hml (by omega)]; rfl) (by omega) (fun x g1 g2 g3 => by omega)
            | exact key _ (by rw [hml3 (by omega) (by omega)]; rfl) (by omega) (fun x g1 g2 g3 => by omega)
            | (refine key _ ?_ (by omega) (fun x g1 g2 g3 => by omega)
               rcases stO_two (p := p) hO (by omega) with q | ⟨x, q1, q2, q3, q4, q5, q6⟩
               · omega
               · rw [(hml4 (by omega) x q1).1, q1, Int.toNat_natCast, ((hM.2.1 x q2).2.2.2 q6).1]; omega)
          · refine r_iload c_177_63 rfl <| r_if_lt c_177_65 (fun h65 => ?_) <| (fun h65 => ?_)
            · refine r_iconst c_177_78 <| r_istore_7_5 c_177_79 rfl <| ?_
              first
              | exact key _ (by rw [hml2 (by omega) (by omega)]; rfl) (by omega) (fun x g1 g2 g3 => by rw [hml2 g1 g2] at g3; exact absurd g3 (by simp))
              | exact key _ (by rw [hml (by omega)]; rfl) (by omega) (fun x g1 g2 g3 => by omega)
              | exact key _ (by rw [hml3 (by omega) (by omega)]; rfl) (by omega) (fun x g1 g2 g3 => by omega)
              | (refine key _ ?_ (by omega) (fun x g1 g2 g3 => by omega)
                 rcases stO_two (p := p) hO (by omega) with q | ⟨x, q1, q2, q3, q4, q5, q6⟩
                 · omega
                 · rw [(hml4 (by omega) x q1).1, q1, Int.toNat_natCast, ((hM.2.1 x q2).2.2.2 q6).1]; omega)
            · refine r_aload_n c_177_68 rfl <| r_getf_a c_177_69 rfl rfl <| r_iload c_177_72 rfl <| r_iald c_177_74 rfl (Or.inl rfl) (jn := (stI T p).toNat) (by omega) (by omega) <| r_goto c_177_75 <| r_istore_7_5 c_177_79 rfl <| ?_
              first
              | exact key _ (by rw [hml2 (by omega) (by omega)]; rfl) (by omega) (fun x g1 g2 g3 => by rw [hml2 g1 g2] at g3; exact absurd g3 (by simp))
              | exact key _ (by rw [hml (by omega)]; rfl) (by omega) (fun x g1 g2 g3 => by omega)
              | exact key _ (by rw [hml3 (by omega) (by omega)]; rfl) (by omega) (fun x g1 g2 g3 => by omega)
              | (refine key _ ?_ (by omega) (fun x g1 g2 g3 => by omega)
                 rcases stO_two (p := p) hO (by omega) with q | ⟨x, q1, q2, q3, q4, q5, q6⟩
                 · omega
                 · rw [(hml4 (by omega) x q1).1, q1, Int.toNat_natCast, ((hM.2.1 x q2).2.2.2 q6).1]; omega)
        · refine r_iconst c_177_54 <| r_goto c_177_55 <| r_istore_7_5 c_177_79 rfl <| ?_
          first
          | exact key _ (by rw [hml2 (by omega) (by omega)]; rfl) (by omega) (fun x g1 g2 g3 => by rw [hml2 g1 g2] at g3; exact absurd g3 (by simp))
          | exact key _ (by rw [hml (by omega)]; rfl) (by omega) (fun x g1 g2 g3 => by omega)
          | exact key _ (by rw [hml3 (by omega) (by omega)]; rfl) (by omega) (fun x g1 g2 g3 => by omega)
          | (refine key _ ?_ (by omega) (fun x g1 g2 g3 => by omega)
             rcases stO_two (p := p) hO (by omega) with q | ⟨x, q1, q2, q3, q4, q5, q6⟩
             · omega
             · rw [(hml4 (by omega) x q1).1, q1, Int.toNat_natCast, ((hM.2.1 x q2).2.2.2 q6).1]; omega)
      · refine r_aload_n c_177_40 rfl <| r_bipush c_177_41 <| r_iconst c_177_43 <| r_iload_n c_177_44 rfl <| r_cV3 c_177_45 rfl (Nat.le_of_ble_eq_true rfl) <| ?_
        refine ct_wrong _ _ _ f37 (fun σ2 hd hf2 => ?_)
        refine r_zret c_177_48 (by omega) <| ?_
        rw [if_pos (by omega)] at hR
        rw [hR] at k0
        exact k0 (by simp) σ2 hd (hf2.up (by decide) (by decide))
theorem ct_mapAll {σ : mk_S} {ps : List Int} (hM : MT σ T) (hO : TOK T) (hps : pts ps) (hpl : ps.length ≤ 300) (hg : mGot σ ps) (f37 : σ 55 37 = 0)
    (k1 : (mkM T ps).2.1 = 0 → ∀ σ', mOne σ' (mkM T ps).1 → mf [80, 74, 75, 76] [37, 38, 39, 42, 28, 31] σ σ' → σ' 55 37 = 0 → mf [80, 74, 75, 76] [42, 28, 31] σ σ' → Q (some (vI 1)) (hp L σ'))
    (k0 : (mkM T ps).2.1 ≠ 0 → ∀ σ', mD σ' (mkM T ps).2.1 0 (mkM T ps).2.2 → mf [80, 74, 75, 76] [37, 38, 39, 42, 28, 31] σ σ' → Q (some (vI 0)) (hp L σ')) : mm_call 177 [vP 55] (hp L σ) Q := by
  have hq := mqF_pts hO ps 0 [] hps pts_nil (Nat.zero_le _)
  unfold mkM at k1 k0
  refine ⟨Nat.le_of_ble_eq_true rfl, ?_⟩
  show mm_X 177 0 [vP 55, mm_null, mm_null, mm_null, mm_null, mm_null, mm_null] [] _ _
  refine r_aload_n c_177_0 rfl <| r_iconst c_177_1 <| r_putf c_177_2 rfl rfl <| r_iconst c_177_5 <| r_istore_n_7_1 c_177_6 rfl <| ?_
  have f0 : mf [80] [42] σ (sto σ 55 42 0) := mf.rf.stF (by decide)
  refine lp_mma (R := mqF T ps 0 []) hO hps hpl ps.length 0 [] _ _ _ _ _ _ Q (by omega) (hM.mf f0 (by decide) (by decide)) (hg.eq (f0.2 25 (by decide)) (f0.1 73 (by decide) (by decide))) ⟨sto_get _ _ _ _, arr_nil⟩ (Nat.zero_le _) (by rw [f0.2 37 (by decide)]; exact f37) rfl (fun w1 σ1 b1 b2 b3 b4 b5 b6 w2 w3 => ?_) (fun w1 σ1 w2 w3 => ?_)
  · have hf : mf [80] [42] σ σ1 := f0.tr w3
    have e42 := w2.1
    have g37 : σ1 55 37 = 0 := by rw [hf.2 37 (by decide)]; exact f37
    rw [if_neg (by omega)] at k1 k0
    refine r_aload_n c_177_176 rfl <| r_aload_n c_177_177 rfl <| r_getf_a c_177_178 rfl rfl <| r_iconst c_177_181 <| r_aload_n c_177_182 rfl <| r_getf_i c_177_183 rfl rfl <| ?_
    rw [e42]
    refine r_cV3 c_177_186 rfl (Nat.le_of_ble_eq_true rfl) <| ?_
    refine ct_mform (ra := 80) (na := 305) (at0 := 0) (hM.mf hf (by decide) (by decide)) hO rfl (by decide) (by omega) (by decide) (fun j hj => by rw [Nat.zero_add]; exact w2.2 j hj) (fun hlen σ2 hA1 hl1 hf1 => ?_) (fun hlen σ2 hf1 => ?_)
    · refine r_if_ne c_177_189 (fun _ => ?_) <| (fun h => absurd h (by decide))
      refine r_iconst c_177_203 <| r_goto c_177_204 <| r_zret c_177_208 (Or.inr rfl) <| ?_
      first
      | (rw [if_neg (by omega)] at k1
         exact k1 rfl σ2 hl1 ((hf.up (by decide) (by decide)).tr (hf1.up (by decide) (by decide))) (by rw [hf1.2 37 (by decide)]; exact g37) ((hf.up (by decide) (by decide)).tr (hf1.up (by decide) (by decide))))
      | exact absurd rfl (by assumption)
      | (rw [if_pos hlen] at k0
         exact k0 (by simp) σ3 hd (((hf.up (by decide) (by decide)).tr (hf1.up (by decide) (by decide))).tr (hf2.up (by decide) (by decide))))
    · refine r_if_ne c_177_189 (fun h => absurd h (by decide)) <| (fun _ => ?_)
      refine r_aload_n c_177_192 rfl <| r_bipush c_177_193 <| r_iconst c_177_195 <| r_iconst c_177_196 <| r_cV3 c_177_197 rfl (Nat.le_of_ble_eq_true rfl) <| ?_
      refine ct_wrong _ _ _ (by rw [hf1.2 37 (by decide)]; exact g37) (fun σ3 hd hf2 => ?_)
      refine r_if_eq c_177_200 (fun h200 => ?_) <| (fun h200 => ?_)
      · refine r_iconst c_177_207 <| r_zret c_177_208 (Or.inl rfl) <| ?_
        first
        | (rw [if_neg (by omega)] at k1
           exact k1 rfl σ2 hl1 ((hf.up (by decide) (by decide)).tr (hf1.up (by decide) (by decide))) (by rw [hf1.2 37 (by decide)]; exact g37) ((hf.up (by decide) (by decide)).tr (hf1.up (by decide) (by decide))))
        | exact absurd rfl (by assumption)
        | (rw [if_pos hlen] at k0
           exact k0 (by simp) σ3 hd (((hf.up (by decide) (by decide)).tr (hf1.up (by decide) (by decide))).tr (hf2.up (by decide) (by decide))))
      · refine r_iconst c_177_203 <| r_goto c_177_204 <| r_zret c_177_208 (Or.inr rfl) <| ?_
        first
        | (rw [if_neg (by omega)] at k1
           exact k1 rfl σ2 hl1 ((hf.up (by decide) (by decide)).tr (hf1.up (by decide) (by decide))) (by rw [hf1.2 37 (by decide)]; exact g37) ((hf.up (by decide) (by decide)).tr (hf1.up (by decide) (by decide))))
        | exact absurd rfl (by assumption)
        | (rw [if_pos hlen] at k0
           exact k0 (by simp) σ3 hd (((hf.up (by decide) (by decide)).tr (hf1.up (by decide) (by decide))).tr (hf2.up (by decide) (by decide))))
  · rw [if_pos w1] at k0
    exact k0 w1 σ1 w2 ((f0.up (by decide) (by decide)).tr (w3.up (by decide) (by decide)))
end MMAP
