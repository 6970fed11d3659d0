/-! ENCODE: the model's side. -/
def mFew (σ : mk_S) (l : List Int) : Prop := σ 55 34 = (l.length : Int) ∧ arr σ 78 l
def seg (σ : mk_S) (ra at0 : Nat) (l : List Int) : Prop := ∀ j, j < l.length → σ ra (at0 + j) = l.getD j 0
theorem seg.mf {A F : List Nat} {σ σ' : mk_S} {ra at0 : Nat} {l : List Int} (h : seg σ ra at0 l) (g : mf A F σ σ') (h1 : ra ≠ 55 ∧ ra ∉ A) : seg σ' ra at0 l := fun j hj => by rw [g.1 ra h1.1 h1.2]; exact h j hj
section MENC
variable {L : Nat}
theorem ct_letter {σ : mk_S} {o : List Int} {Q : Option mm_V → mm_H → Prop} (hl : mFew σ o) (ho : o.length < 2600) (z : Int) (k : ∀ σ', mFew σ' (o ++ [z]) → mf [78] [34] σ σ' → Q none (hp L σ')) : mm_call 166 [vP 55, vI z] (hp L σ) Q := by
  have e1 := hl.1
  refine ⟨Nat.le_of_ble_eq_true rfl, ?_⟩
  show mm_X 166 0 [vP 55, vI z] [] _ _
  refine r_aload_n c_166_0 rfl <| r_getf_i c_166_1 rfl rfl <| r_sipush c_166_4 <| r_icmp_ge c_166_7 (fun h7 => ?_) <| (fun h7 => ?_)
  · refine r_aload_n c_166_20 rfl <| r_dup c_166_21 rfl <| r_getf_i c_166_22 rfl rfl <| r_iconst c_166_25 <| r_iadd c_166_26 (by first | omega | (rw [sto_ne (by decide)]; omega)) <| r_putf c_166_27 rfl rfl <| r_ret c_166_30 <| ?_
    first
    | exact absurd h7 (by omega)
    | (refine k _ ⟨?_, ?_⟩ ((mf.rf.stA (a := 78) (by decide) (by decide)).stF (by decide))
       · rw [sto_get, sto_ne (by decide), e1, List.length_append]; rfl
       · exact arr_push hl.2 (by rw [sto_ne (by decide), sto_at]))
  · refine r_aload_n c_166_10 rfl <| r_getf_a c_166_11 rfl rfl <| r_aload_n c_166_14 rfl <| r_getf_i c_166_15 rfl rfl <| r_iload_n c_166_18 rfl <| r_iast c_166_19 rfl (jn := o.length) (by omega) (by omega) <| r_aload_n c_166_20 rfl <| r_dup c_166_21 rfl <| r_getf_i c_166_22 rfl rfl <| r_iconst c_166_25 <| ?_
    refine r_iadd c_166_26 (by first | omega | (rw [sto_ne (by decide)]; omega)) <| r_putf c_166_27 rfl rfl <| r_ret c_166_30 <| ?_
    first
    | exact absurd h7 (by omega)
    | (refine k _ ⟨?_, ?_⟩ ((mf.rf.stA (a := 78) (by decide) (by decide)).stF (by decide))
       · rw [sto_get, sto_ne (by decide), e1, List.length_append]; rfl
       · exact arr_push hl.2 (by rw [sto_ne (by decide), sto_at]))
theorem lp_wrM {b q0 : Int} (hb : 0 ≤ b ∧ b ≤ 100000) : ∀ (n i : Nat) (q : Int) (o : List Int) (σ : mk_S) (a2 a7 : mm_V) (Q : Option mm_V → mm_H → Prop), i + n = 40 → 1 ≤ i → 0 ≤ q → q ≤ 10000000000 → q < 10 ^ n → mFew σ o → (o ++ wrN (n + 1) q (36 * i) b).length ≤ 2600 →
    (∀ σ', mFew σ' (o ++ wrN (n + 1) q (36 * i) b) → mf [78] [34] σ σ' → Q none (hp L σ')) →
    mm_X 167 7 [vP 55, vJ q0, mm_null, vI b, vJ q, mm_null, vI (36 * i), a7] [] (hp L σ) Q := by
  intro n
  induction n with
  | zero =>
    intro i q o σ a2 a7 Q hi hi1 h0 hb2 hp ho hlen kk
    have hq : q = 0 := by simp at hp; omega
    have ht := thr_rng (36 * i) b
    have e : wrN 1 q (36 * i) b = [dg q] := by simp only [wrN]; rw [if_pos (by omega)]
    rw [show 0 + 1 = 1 from rfl, e] at kk hlen
    simp only [List.length_append, List.length_cons, List.length_nil] at hlen
    refine r_lload c_167_7 rfl <| r_iload c_167_9 rfl <| r_iload_n c_167_11 rfl <| r_cS2 c_167_12 (Nat.le_of_ble_eq_true rfl) <| ?_
    refine ct_mBound _ _ (by omega) ?_
    refine r_i2l c_167_15 <| r_lc_lt c_167_16 c_167_17 (fun h16 => ?_) <| (fun h16 => ?_)
    · refine r_aload_n c_167_74 rfl <| r_lload c_167_75 rfl <| r_l2i c_167_77 (by omega) <| r_cS1 c_167_78 (Nat.le_of_ble_eq_true rfl) <| ?_
      refine ct_mDigit _ (by omega) ?_
      refine r_cV1 c_167_81 rfl (Nat.le_of_ble_eq_true rfl) <| ?_
      refine ct_letter ho (by omega) _ (fun σ1 hl1 hf1 => ?_)
      refine r_ret c_167_84 <| ?_
      exact kk σ1 hl1 hf1
    · exact absurd h16 (by omega)
  | succ n ih =>
    intro i q o σ a2 a7 Q hi hi1 h0 hb2 hp ho hlen kk
    have ht := thr_rng (36 * i) b
    have hs := fun h => wr_step ht (h : thr (36 * i) b ≤ q)
    rw [wrN] at kk hlen
    refine r_lload c_167_7 rfl <| r_iload c_167_9 rfl <| r_iload_n c_167_11 rfl <| r_cS2 c_167_12 (Nat.le_of_ble_eq_true rfl) <| ?_
    refine ct_mBound _ _ (by omega) ?_
    refine r_i2l c_167_15 <| r_lc_lt c_167_16 c_167_17 (fun h16 => ?_) <| (fun h16 => ?_)
    · rw [if_pos (by omega)] at kk hlen
      simp only [List.length_append, List.length_cons, List.length_nil] at hlen
      refine r_aload_n c_167_74 rfl <| r_lload c_167_75 rfl <| r_l2i c_167_77 (by omega) <| r_cS1 c_167_78 (Nat.le_of_ble_eq_true rfl) <| ?_
      refine ct_mDigit _ (by omega) ?_
      refine r_cV1 c_167_81 rfl (Nat.le_of_ble_eq_true rfl) <| ?_
      refine ct_letter ho (by omega) _ (fun σ1 hl1 hf1 => ?_)
      refine r_ret c_167_84 <| ?_
      exact kk σ1 hl1 hf1
    · refine r_iload c_167_20 rfl <| r_iload_n c_167_22 rfl <| r_cS2 c_167_23 (Nat.le_of_ble_eq_true rfl) <| ?_
      refine ct_mBound _ _ (by omega) ?_
      refine r_istore_8_7 c_167_26 rfl <| ?_
      have hs := hs (by omega)
      rw [if_neg (by omega)] at kk hlen
      simp only [List.length_append, List.length_cons] at hlen
      refine r_aload_n c_167_28 rfl <| r_iload c_167_29 rfl <| r_i2l c_167_31 <| r_lload c_167_32 rfl <| r_iload c_167_34 rfl <| r_i2l c_167_36 <| r_lsub c_167_37 (by omega) <| r_bipush c_167_38 <| r_iload c_167_40 rfl <| r_isub c_167_42 (by omega) <| ?_
      refine r_i2l c_167_43 <| r_lrem c_167_44 (by omega) (by omega) <| r_ladd c_167_45 (by omega) <| r_l2i c_167_46 (by omega) <| r_cS1 c_167_47 (Nat.le_of_ble_eq_true rfl) <| ?_
      refine ct_mDigit _ (by omega) ?_
      refine r_cV1 c_167_50 rfl (Nat.le_of_ble_eq_true rfl) <| ?_
      refine ct_letter ho (by omega) _ (fun σ1 hl1 hf1 => ?_)
      refine r_lload c_167_53 rfl <| r_iload c_167_55 rfl <| r_i2l c_167_57 <| r_lsub c_167_58 (by omega) <| r_bipush c_167_59 <| r_iload c_167_61 rfl <| r_isub c_167_63 (by omega) <| r_i2l c_167_64 <| r_ldiv c_167_65 (by omega) (by omega) <| r_lstore_8_4 c_167_66 rfl <| ?_
      refine r_iinc_8_6 c_167_68 rfl (by omega) <| r_goto c_167_71 <| ?_
      have ek : (36 : Int) * (i : Int) + 36 = 36 * ((i + 1 : Nat) : Int) := by omega
      rw [ek] at kk hlen ⊢
      refine ih (i + 1) _ _ σ1 mm_null _ Q (by omega) (by omega) hs.2.2.1 (by omega) (p10_step hp hs.2.2.2) hl1 (by simp only [List.length_append, List.length_cons, List.length_nil]; omega) (fun σ2 g1 g2 => kk σ2 (by simpa using g1) (hf1.tr g2))
theorem ct_write {σ : mk_S} {o : List Int} {Q : Option mm_V → mm_H → Prop} (q b : Int) (hb : 0 ≤ b ∧ b ≤ 100000) (hq : 0 ≤ q ∧ q ≤ 10000000000) (hl : mFew σ o) (hlen : (o ++ wr q b).length ≤ 2600)
    (k : ∀ σ', mFew σ' (o ++ wr q b) → mf [78] [34] σ σ' → Q none (hp L σ')) : mm_call 167 [vP 55, vJ q, vI b] (hp L σ) Q := by
  refine ⟨Nat.le_of_ble_eq_true rfl, ?_⟩
  show mm_X 167 0 [vP 55, vJ q, mm_null, vI b, mm_null, mm_null, mm_null, mm_null] [] _ _
  refine r_lload_n c_167_0 rfl <| r_lstore_8_4 c_167_1 rfl <| r_bipush c_167_3 <| r_istore_8_6 c_167_5 rfl <| ?_
  have hbig : (10000000000 : Int) < 10 ^ 39 := by decide
  exact lp_wrM hb 39 1 q o σ mm_null _ Q rfl (by omega) hq.1 hq.2 (by omega) hl hlen k
theorem lp_meA {ra na at0 : Nat} {l : List Int} (ha : kd L ra = .inl (0, na)) (hra : ra ≠ 55 ∧ ra ≠ 78) (hat : at0 + l.length ≤ na) (hna : na ≤ 2000) (hll : l.length ≤ 300) : ∀ (k j : Nat) (o : List Int) (σ : mk_S) (Q : Option mm_V → mm_H → Prop), j + k = l.length → o.length ≤ j → seg σ ra at0 l → mFew σ o →
    (∀ σ', mFew σ' (o ++ bs (l.drop j)) → mf [78] [34] σ σ' → mm_X 165 42 [vP 55, vP ra, vI (at0 : Nat), vI (l.length : Nat), vI (l.length : Nat), mm_null, mm_null, mm_null, mm_null, mm_null, mm_null, mm_null, mm_null] [] (hp L σ') Q) →
    mm_X 165 8 [vP 55, vP ra, vI (at0 : Nat), vI (l.length : Nat), vI (j : Nat), mm_null, mm_null, mm_null, mm_null, mm_null, mm_null, mm_null, mm_null] [] (hp L σ) Q := by
  intro k
  induction k with
  | zero =>
    intro j o σ Q hj hc hs ho kk
    have ej : j = l.length := by omega
    subst ej
    rw [List.drop_length] at kk
    simp only [bs, List.append_nil] at kk
    refine r_iload c_165_8 rfl <| r_iload_n c_165_10 rfl <| r_icmp_ge c_165_11 (fun h11 => ?_) <| (fun h11 => ?_)
    · exact kk σ ho mf.rf
    · exact absurd h11 (by omega)
  | succ k ih =>
    intro j o σ Q hj hc hs ho kk
    rw [drop_at (by omega)] at kk
    simp only [bs] at kk
    have hx := hs j (by omega)
    generalize hxv : l.getD j 0 = x at *
    refine r_iload c_165_8 rfl <| r_iload_n c_165_10 rfl <| r_icmp_ge c_165_11 (fun h11 => ?_) <| (fun h11 => ?_)
    · exact absurd h11 (by omega)
    · refine r_aload_n c_165_14 rfl <| r_iload_n c_165_15 rfl <| r_iload c_165_16 rfl <| r_iadd c_165_18 (by omega) <| r_iald c_165_19 ha (Or.inl rfl) (jn := at0 + j) (by omega) (by omega) <| r_sipush c_165_20 <| r_icmp_ge c_165_23 (fun h23 => ?_) <| (fun h23 => ?_)
      · refine r_iinc_13_4 c_165_36 rfl (by omega) <| r_goto c_165_39 <| ?_
        first
        | (rw [if_neg (by omega)] at kk
           exact ih (j + 1) o σ Q (by omega) (by omega) hs ho kk)
        | (rw [if_pos (by omega)] at kk
           refine ih (j + 1) _ σ1 Q (by omega) (by simp only [List.length_append, List.length_cons, List.length_nil]; omega) (hs.mf hf1 (by simp; omega)) hl1 (fun σ2 w2 w3 => kk σ2 (by simpa using w2) (hf1.tr w3)))
      · refine r_aload_n c_165_26 rfl <| r_aload_n c_165_27 rfl <| r_iload_n c_165_28 rfl <| r_iload c_165_29 rfl <| r_iadd c_165_31 (by omega) <| r_iald c_165_32 ha (Or.inl rfl) (jn := at0 + j) (by omega) (by omega) <| ?_
        rw [hx]
        refine r_cV1 c_165_33 rfl (Nat.le_of_ble_eq_true rfl) <| ?_
        refine ct_letter ho (by omega) _ (fun σ1 hl1 hf1 => ?_)
        refine r_iinc_13_4 c_165_36 rfl (by omega) <| r_goto c_165_39 <| ?_
        first
        | (rw [if_neg (by omega)] at kk
           exact ih (j + 1) o σ Q (by omega) (by omega) hs ho kk)
        | (rw [if_pos (by omega)] at kk
           refine ih (j + 1) _ σ1 Q (by omega) (by simp only [List.length_append, List.length_cons, List.length_nil]; omega) (hs.mf hf1 (by simp; omega)) hl1 (fun σ2 w2 w3 => kk σ2 (by simpa using w2) (hf1.tr w3)))
theorem lp_meL {ra na at0 : Nat} {l : List Int} {σ : mk_S} {a4 a5 a6 a12 : mm_V} {n a9 : Int} {Q : Option mm_V → mm_H → Prop} (ha : kd L ra = .inl (0, na)) (hat : at0 + l.length ≤ na) (hna : na ≤ 2000) (hll : l.length ≤ 300) (hs : seg σ ra at0 l) : ∀ (k j : Nat) (c : Int), j + k = l.length →
    mm_X 165 135 [vP 55, vP ra, vI (at0 : Nat), vI (l.length : Nat), a4, a5, a6, mm_null, vI n, vI a9, vI (leF n c (l.drop j)), vI (l.length : Nat), a12] [] (hp L σ) Q →
    mm_X 165 88 [vP 55, vP ra, vI (at0 : Nat), vI (l.length : Nat), a4, a5, a6, mm_null, vI n, vI a9, vI c, vI (j : Nat), a12] [] (hp L σ) Q := by
  intro k
  induction k with
  | zero =>
    intro j c hj kk
    have ej : j = l.length := by omega
    subst ej
    rw [List.drop_length] at kk
    simp only [leF] at kk
    refine r_iload c_165_88 rfl <| r_iload_n c_165_90 rfl <| r_icmp_ge c_165_91 (fun h91 => ?_) <| (fun h91 => ?_)
    · exact kk
    · exact absurd h91 (by omega)
  | succ k ih =>
    intro j c hj kk
    rw [drop_at (by omega)] at kk
    simp only [leF] at kk
    have hx := hs j (by omega)
    generalize hxv : l.getD j 0 = x at *
    refine r_iload c_165_88 rfl <| r_iload_n c_165_90 rfl <| r_icmp_ge c_165_91 (fun h91 => ?_) <| (fun h91 => ?_)
    · exact absurd h91 (by omega)
    · refine r_aload_n c_165_94 rfl <| r_iload_n c_165_95 rfl <| r_iload c_165_96 rfl <| r_iadd c_165_98 (by omega) <| r_iald c_165_99 ha (Or.inl rfl) (jn := at0 + j) (by omega) (by omega) <| r_iload c_165_100 rfl <| r_icmp_lt c_165_102 (fun h102 => ?_) <| (fun h102 => ?_)
      · refine r_iload c_165_125 rfl <| r_istore_13_10 c_165_127 rfl <| r_iinc_13_11 c_165_129 rfl (by omega) <| r_goto c_165_132 <| ?_
        first
        | (rw [if_pos (by omega)] at kk; exact ih (j + 1) _ (by omega) kk)
        | (rw [if_neg (by omega)] at kk; exact ih (j + 1) _ (by omega) kk)
      · refine r_aload_n c_165_105 rfl <| r_iload_n c_165_106 rfl <| r_iload c_165_107 rfl <| r_iadd c_165_109 (by omega) <| r_iald c_165_110 ha (Or.inl rfl) (jn := at0 + j) (by omega) (by omega) <| r_iload c_165_111 rfl <| r_icmp_ge c_165_113 (fun h113 => ?_) <| (fun h113 => ?_)
        · refine r_iload c_165_125 rfl <| r_istore_13_10 c_165_127 rfl <| r_iinc_13_11 c_165_129 rfl (by omega) <| r_goto c_165_132 <| ?_
          first
          | (rw [if_pos (by omega)] at kk; exact ih (j + 1) _ (by omega) kk)
          | (rw [if_neg (by omega)] at kk; exact ih (j + 1) _ (by omega) kk)
        · refine r_aload_n c_165_116 rfl <| r_iload_n c_165_117 rfl <| r_iload c_165_118 rfl <| r_iadd c_165_120 (by omega) <| r_iald c_165_121 ha (Or.inl rfl) (jn := at0 + j) (by omega) (by omega) <| ?_
          rw [hx]
          refine r_goto c_165_122 <| r_istore_13_10 c_165_127 rfl <| r_iinc_13_11 c_165_129 rfl (by omega) <| r_goto c_165_132 <| ?_
          first
          | (rw [if_pos (by omega)] at kk; exact ih (j + 1) _ (by omega) kk)
          | (rw [if_neg (by omega)] at kk; exact ih (j + 1) _ (by omega) kk)
theorem lp_meI {ra na at0 : Nat} {l : List Int} {m : Int} {hb : Nat} {R : List Int × (Int × Int × Int)} (ha : kd L ra = .inl (0, na)) (hra : ra ≠ 55 ∧ ra ≠ 78) (hat : at0 + l.length ≤ na) (hna : na ≤ 2000) (hll : l.length ≤ 300) : ∀ (k j : Nat) (d b : Int) (h : Nat) (o : List Int) (σ : mk_S) (a12 : mm_V) (Q : Option mm_V → mm_H → Prop), j + k = l.length → seg σ ra at0 l → mFew σ o → 0 ≤ d → d + k ≤ 400000000 → 0 ≤ b → b ≤ 1476 → h + k ≤ 700 → R.2 = (enI m hb (l.drop j) d b h).2 →
    (o ++ (enI m hb (l.drop j) d b h).1).length ≤ 2600 →
    (∀ σ' a12, mFew σ' (o ++ (enI m hb (l.drop j) d b h).1) → mf [78] [34] σ σ' → mm_X 165 262 [vP 55, vP ra, vI (at0 : Nat), vI (l.length : Nat), vI (hb : Nat), vI R.2.2.2, vJ R.2.1, mm_null, vI m, vI R.2.2.1, vI m, vI (l.length : Nat), a12] [] (hp L σ') Q) →
    mm_X 165 170 [vP 55, vP ra, vI (at0 : Nat), vI (l.length : Nat), vI (hb : Nat), vI (h : Nat), vJ d, mm_null, vI m, vI b, vI m, vI (j : Nat), a12] [] (hp L σ) Q := by
  intro k
  induction k with
  | zero =>
    intro j d b h o σ a12 Q hj hs ho h1 h2 h3 h4 h5 hR hlen kk
    have ej : j = l.length := by omega
    subst ej
    rw [List.drop_length] at kk hR
    simp only [enI, List.append_nil] at kk hR
    rw [hR] at kk
    have kk := kk σ a12 ho mf.rf
    refine r_iload c_165_170 rfl <| r_iload_n c_165_172 rfl <| r_icmp_ge c_165_173 (fun h173 => ?_) <| (fun h173 => ?_)
    · exact kk
    · exact absurd h173 (by omega)
  | succ k ih =>
    intro j d b h o σ a12 Q hj hs ho h1 h2 h3 h4 h5 hR hlen kk
    have hadf := fun f => adF_rng (d := d) (p := (h : Int) + 1) (f := f) h1 (by omega)
    rw [drop_at (by omega)] at kk hR hlen
    simp only [enI] at kk hR hlen
    have hx := hs j (by omega)
    generalize hxv : l.getD j 0 = x at *
    refine r_iload c_165_170 rfl <| r_iload_n c_165_172 rfl <| r_icmp_ge c_165_173 (fun h173 => ?_) <| (fun h173 => ?_)
    · exact absurd h173 (by omega)
    · refine r_aload_n c_165_176 rfl <| r_iload_n c_165_177 rfl <| r_iload c_165_178 rfl <| r_iadd c_165_180 (by omega) <| r_iald c_165_181 ha (Or.inl rfl) (jn := at0 + j) (by omega) (by omega) <| ?_
      rw [hx]
      refine r_istore_13_12 c_165_182 rfl <| r_lload c_165_184 rfl <| r_iload c_165_186 rfl <| r_iload c_165_188 rfl <| r_icmp_ge c_165_190 (fun h190 => ?_) <| (fun h190 => ?_)
      · refine r_lconst c_165_197 <| r_ladd c_165_198 (by omega) <| ?_
        try rw [Int.add_zero]
        refine r_lstore_13_6 c_165_199 rfl <| r_lload c_165_201 rfl <| r_ldc2_w c_165_203 <| r_lc_le c_165_206 c_165_207 (fun h206 => ?_) <| (fun h206 => ?_)
        · refine r_iload c_165_212 rfl <| r_iload c_165_214 rfl <| r_icmp_ne c_165_216 (fun h216 => ?_) <| (fun h216 => ?_)
          · refine r_iinc_13_11 c_165_256 rfl (by omega) <| r_goto c_165_259 <| ?_
            first
            | exact absurd h190 (by omega)
            | (rw [if_neg (by omega), if_pos (by omega)] at kk hR hlen
               exact ih (j + 1) _ _ h o σ _ Q (by omega) hs ho (by omega) (by omega) h3 h4 (by omega) hR hlen kk)
            | (rw [if_neg (by omega), if_neg (by omega)] at kk hR hlen
               exact ih (j + 1) _ _ h o σ _ Q (by omega) hs ho (by omega) (by omega) h3 h4 (by omega) hR hlen kk)
            | (rw [if_pos (by omega)] at kk hR hlen
               rw [← List.append_assoc] at kk hlen
               have hadf := hadf 1
               exact ih (j + 1) _ _ (h + 1) _ σ1 _ Q (by omega) (hs.mf hf1 (by simp; omega)) hl1 (by omega) (by omega) hadf.1 hadf.2 (by omega) hR hlen (fun σ2 a12 g2 g3 => kk σ2 a12 g2 (hf1.tr g3)))
            | (rw [if_neg (by omega)] at kk hR hlen
               rw [← List.append_assoc] at kk hlen
               have hadf := hadf 0
               exact ih (j + 1) _ _ (h + 1) _ σ1 _ Q (by omega) (hs.mf hf1 (by simp; omega)) hl1 (by omega) (by omega) hadf.1 hadf.2 (by omega) hR hlen (fun σ2 a12 g2 g3 => kk σ2 a12 g2 (hf1.tr g3)))
          · rw [if_pos (by omega)] at kk hR hlen
            refine r_aload_n c_165_219 rfl <| r_lload c_165_220 rfl <| r_iload c_165_222 rfl <| r_cV2 c_165_224 rfl (Nat.le_of_ble_eq_true rfl) <| ?_
            refine ct_write _ _ (by omega) (by omega) ho (by simp only [List.length_append] at hlen ⊢; omega) (fun σ1 hl1 hf1 => ?_)
            refine r_lload c_165_227 rfl <| r_iload c_165_229 rfl <| r_iconst c_165_231 <| r_iadd c_165_232 (by omega) <| r_iload c_165_233 rfl <| r_iload c_165_235 rfl <| r_icmp_ne c_165_237 (fun h237 => ?_) <| (fun h237 => ?_)
            · refine r_iconst c_165_244 <| r_cS3 c_165_245 (Nat.le_of_ble_eq_true rfl) <| ?_
              refine ct_madapted _ _ _ (by omega) (by omega) ?_
              refine r_istore_13_9 c_165_248 rfl <| r_lconst c_165_250 <| r_lstore_13_6 c_165_251 rfl <| r_iinc_13_5 c_165_253 rfl (by omega) <| r_iinc_13_11 c_165_256 rfl (by omega) <| r_goto c_165_259 <| ?_
              first
              | exact absurd h190 (by omega)
              | (rw [if_neg (by omega), if_pos (by omega)] at kk hR hlen
                 exact ih (j + 1) _ _ h o σ _ Q (by omega) hs ho (by omega) (by omega) h3 h4 (by omega) hR hlen kk)
              | (rw [if_neg (by omega), if_neg (by omega)] at kk hR hlen
                 exact ih (j + 1) _ _ h o σ _ Q (by omega) hs ho (by omega) (by omega) h3 h4 (by omega) hR hlen kk)
              | (rw [if_pos (by omega)] at kk hR hlen
                 rw [← List.append_assoc] at kk hlen
                 have hadf := hadf 1
                 exact ih (j + 1) _ _ (h + 1) _ σ1 _ Q (by omega) (hs.mf hf1 (by simp; omega)) hl1 (by omega) (by omega) hadf.1 hadf.2 (by omega) hR hlen (fun σ2 a12 g2 g3 => kk σ2 a12 g2 (hf1.tr g3)))
              | (rw [if_neg (by omega)] at kk hR hlen
                 rw [← List.append_assoc] at kk hlen
                 have hadf := hadf 0
                 exact ih (j + 1) _ _ (h + 1) _ σ1 _ Q (by omega) (hs.mf hf1 (by simp; omega)) hl1 (by omega) (by omega) hadf.1 hadf.2 (by omega) hR hlen (fun σ2 a12 g2 g3 => kk σ2 a12 g2 (hf1.tr g3)))
            · refine r_iconst c_165_240 <| r_goto c_165_241 <| r_cS3 c_165_245 (Nat.le_of_ble_eq_true rfl) <| ?_
              refine ct_madapted _ _ _ (by omega) (by omega) ?_
              refine r_istore_13_9 c_165_248 rfl <| r_lconst c_165_250 <| r_lstore_13_6 c_165_251 rfl <| r_iinc_13_5 c_165_253 rfl (by omega) <| r_iinc_13_11 c_165_256 rfl (by omega) <| r_goto c_165_259 <| ?_
              first
              | exact absurd h190 (by omega)
              | (rw [if_neg (by omega), if_pos (by omega)] at kk hR hlen
                 exact ih (j + 1) _ _ h o σ _ Q (by omega) hs ho (by omega) (by omega) h3 h4 (by omega) hR hlen kk)
              | (rw [if_neg (by omega), if_neg (by omega)] at kk hR hlen
                 exact ih (j + 1) _ _ h o σ _ Q (by omega) hs ho (by omega) (by omega) h3 h4 (by omega) hR hlen kk)
              | (rw [if_pos (by omega)] at kk hR hlen
                 rw [← List.append_assoc] at kk hlen
                 have hadf := hadf 1
                 exact ih (j + 1) _ _ (h + 1) _ σ1 _ Q (by omega) (hs.mf hf1 (by simp; omega)) hl1 (by omega) (by omega) hadf.1 hadf.2 (by omega) hR hlen (fun σ2 a12 g2 g3 => kk σ2 a12 g2 (hf1.tr g3)))
              | (rw [if_neg (by omega)] at kk hR hlen
                 rw [← List.append_assoc] at kk hlen
                 have hadf := hadf 0
                 exact ih (j + 1) _ _ (h + 1) _ σ1 _ Q (by omega) (hs.mf hf1 (by simp; omega)) hl1 (by omega) (by omega) hadf.1 hadf.2 (by omega) hR hlen (fun σ2 a12 g2 g3 => kk σ2 a12 g2 (hf1.tr g3)))
        · exact absurd h206 (by omega)
      · refine r_lconst c_165_193 <| r_goto c_165_194 <| r_ladd c_165_198 (by omega) <| ?_
        try rw [Int.add_zero]
        refine r_lstore_13_6 c_165_199 rfl <| r_lload c_165_201 rfl <| r_ldc2_w c_165_203 <| r_lc_le c_165_206 c_165_207 (fun h206 => ?_) <| (fun h206 => ?_)
        · refine r_iload c_165_212 rfl <| r_iload c_165_214 rfl <| r_icmp_ne c_165_216 (fun h216 => ?_) <| (fun h216 => ?_)
          · refine r_iinc_13_11 c_165_256 rfl (by omega) <| r_goto c_165_259 <| ?_
            first
            | exact absurd h190 (by omega)
            | (rw [if_neg (by omega), if_pos (by omega)] at kk hR hlen
               exact ih (j + 1) _ _ h o σ _ Q (by omega) hs ho (by omega) (by omega) h3 h4 (by omega) hR hlen kk)
            | (rw [if_neg (by omega), if_neg (by omega)] at kk hR hlen
               exact ih (j + 1) _ _ h o σ _ Q (by omega) hs ho (by omega) (by omega) h3 h4 (by omega) hR hlen kk)
            | (rw [if_pos (by omega)] at kk hR hlen
               rw [← List.append_assoc] at kk hlen
               have hadf := hadf 1
               exact ih (j + 1) _ _ (h + 1) _ σ1 _ Q (by omega) (hs.mf hf1 (by simp; omega)) hl1 (by omega) (by omega) hadf.1 hadf.2 (by omega) hR hlen (fun σ2 a12 g2 g3 => kk σ2 a12 g2 (hf1.tr g3)))
            | (rw [if_neg (by omega)] at kk hR hlen
               rw [← List.append_assoc] at kk hlen
               have hadf := hadf 0
               exact ih (j + 1) _ _ (h + 1) _ σ1 _ Q (by omega) (hs.mf hf1 (by simp; omega)) hl1 (by omega) (by omega) hadf.1 hadf.2 (by omega) hR hlen (fun σ2 a12 g2 g3 => kk σ2 a12 g2 (hf1.tr g3)))
          · rw [if_pos (by omega)] at kk hR hlen
            refine r_aload_n c_165_219 rfl <| r_lload c_165_220 rfl <| r_iload c_165_222 rfl <| r_cV2 c_165_224 rfl (Nat.le_of_ble_eq_true rfl) <| ?_
            refine ct_write _ _ (by omega) (by omega) ho (by simp only [List.length_append] at hlen ⊢; omega) (fun σ1 hl1 hf1 => ?_)
            refine r_lload c_165_227 rfl <| r_iload c_165_229 rfl <| r_iconst c_165_231 <| r_iadd c_165_232 (by omega) <| r_iload c_165_233 rfl <| r_iload c_165_235 rfl <| r_icmp_ne c_165_237 (fun h237 => ?_) <| (fun h237 => ?_)
            · refine r_iconst c_165_244 <| r_cS3 c_165_245 (Nat.le_of_ble_eq_true rfl) <| ?_
              refine ct_madapted _ _ _ (by omega) (by omega) ?_
              refine r_istore_13_9 c_165_248 rfl <| r_lconst c_165_250 <| r_lstore_13_6 c_165_251 rfl <| r_iinc_13_5 c_165_253 rfl (by omega) <| r_iinc_13_11 c_165_256 rfl (by omega) <| r_goto c_165_259 <| ?_
              first
              | exact absurd h190 (by omega)
              | (rw [if_neg (by omega), if_pos (by omega)] at kk hR hlen
                 exact ih (j + 1) _ _ h o σ _ Q (by omega) hs ho (by omega) (by omega) h3 h4 (by omega) hR hlen kk)
              | (rw [if_neg (by omega), if_neg (by omega)] at kk hR hlen
                 exact ih (j + 1) _ _ h o σ _ Q (by omega) hs ho (by omega) (by omega) h3 h4 (by omega) hR hlen kk)
              | (rw [if_pos (by omega)] at kk hR hlen
                 rw [← List.append_assoc] at kk hlen
                 have hadf := hadf 1
                 exact ih (j + 1) _ _ (h + 1) _ σ1 _ Q (by omega) (hs.mf hf1 (by simp; omega)) hl1 (by omega) (by omega) hadf.1 hadf.2 (by omega) hR hlen (fun σ2 a12 g2 g3 => kk σ2 a12 g2 (hf1.tr g3)))
              | (rw [if_neg (by omega)] at kk hR hlen
                 rw [← List.append_assoc] at kk hlen
                 have hadf := hadf 0
                 exact ih (j + 1) _ _ (h + 1) _ σ1 _ Q (by omega) (hs.mf hf1 (by simp; omega)) hl1 (by omega) (by omega) hadf.1 hadf.2 (by omega) hR hlen (fun σ2 a12 g2 g3 => kk σ2 a12 g2 (hf1.tr g3)))
            · refine r_iconst c_165_240 <| r_goto c_165_241 <| r_cS3 c_165_245 (Nat.le_of_ble_eq_true rfl) <| ?_
              refine ct_madapted _ _ _ (by omega) (by omega) ?_
              refine r_istore_13_9 c_165_248 rfl <| r_lconst c_165_250 <| r_lstore_13_6 c_165_251 rfl <| r_iinc_13_5 c_165_253 rfl (by omega) <| r_iinc_13_11 c_165_256 rfl (by omega) <| r_goto c_165_259 <| ?_
              first
              | exact absurd h190 (by omega)
              | (rw [if_neg (by omega), if_pos (by omega)] at kk hR hlen
                 exact ih (j + 1) _ _ h o σ _ Q (by omega) hs ho (by omega) (by omega) h3 h4 (by omega) hR hlen kk)
              | (rw [if_neg (by omega), if_neg (by omega)] at kk hR hlen
                 exact ih (j + 1) _ _ h o σ _ Q (by omega) hs ho (by omega) (by omega) h3 h4 (by omega) hR hlen kk)
              | (rw [if_pos (by omega)] at kk hR hlen
                 rw [← List.append_assoc] at kk hlen
                 have hadf := hadf 1
                 exact ih (j + 1) _ _ (h + 1) _ σ1 _ Q (by omega) (hs.mf hf1 (by simp; omega)) hl1 (by omega) (by omega) hadf.1 hadf.2 (by omega) hR hlen (fun σ2 a12 g2 g3 => kk σ2 a12 g2 (hf1.tr g3)))
              | (rw [if_neg (by omega)] at kk hR hlen
                 rw [← List.append_assoc] at kk hlen
                 have hadf := hadf 0
                 exact ih (j + 1) _ _ (h + 1) _ σ1 _ Q (by omega) (hs.mf hf1 (by simp; omega)) hl1 (by omega) (by omega) hadf.1 hadf.2 (by omega) hR hlen (fun σ2 a12 g2 g3 => kk σ2 a12 g2 (hf1.tr g3)))
        · exact absurd h206 (by omega)
theorem lp_meO {ra na at0 : Nat} {l : List Int} {hb : Nat} (ha : kd L ra = .inl (0, na)) (hra : ra ≠ 55 ∧ ra ≠ 78) (hat : at0 + l.length ≤ na) (hna : na ≤ 2000) (hll : l.length ≤ 300) (hpl : ∀ y, y ∈ l → y ≤ 1114111) : ∀ (k : Nat) (n d b : Int) (h : Nat) (o : List Int) (σ : mk_S) (a10 a11 a12 : mm_V) (Q : Option mm_V → mm_H → Prop), l.length ≤ h + k → seg σ ra at0 l → mFew σ o → enR l n d b h →
    (o ++ enO l hb k n d b h).length ≤ 2600 →
    (∀ σ', mFew σ' (o ++ enO l hb k n d b h) → mf [78] [34] σ σ' → Q (some (vI 1)) (hp L σ')) →
    mm_X 165 75 [vP 55, vP ra, vI (at0 : Nat), vI (l.length : Nat), vI (hb : Nat), vI (h : Nat), vJ d, mm_null, vI n, vI b, a10, a11, a12] [] (hp L σ) Q := by
  intro k
  induction k with
  | zero =>
    intro n d b h o σ a10 a11 a12 Q hj hs ho hR hlen kk
    simp only [enO, List.append_nil] at kk
    have kk := kk σ ho mf.rf
    refine r_iload c_165_75 rfl <| r_iload_n c_165_77 rfl <| r_icmp_ge c_165_78 (fun h78 => ?_) <| (fun h78 => ?_)
    · refine r_iconst c_165_274 <| r_zret c_165_275 (Or.inr rfl) <| ?_
      exact kk
    · exact absurd h78 (by omega)
  | succ k ih =>
    intro n d b h o σ a10 a11 a12 Q hj hs ho hR hlen kk
    by_cases hh : (h : Int) < l.length
    · have hS := enR_step (hb := hb) hll hpl hR hh
      obtain ⟨⟨q1, q2, q3, q4⟩, q5, q6, q7, q8, q9⟩ := hS
      have q5 : 0 ≤ (le1 l n - n) * ((h : Int) + 1) ∧ (le1 l n - n) * ((h : Int) + 1) ≤ (le1 l n - n) * 301 := q5
      rw [enO_step hh] at kk hlen
      rw [enI_hn] at kk q7 hlen
      rw [enI_hn] at q8
      obtain ⟨r1, r2, r3, r4, r5, r6, r7⟩ := hR
      have qd : enD l n d h = d + (le1 l n - n) * ((h : Int) + 1) := rfl
      have qz : leF n 1114112 (l.drop 0) = le1 l n := rfl
      refine r_iload c_165_75 rfl <| r_iload_n c_165_77 rfl <| r_icmp_ge c_165_78 (fun h78 => ?_) <| (fun h78 => ?_)
      · exact absurd trivial (by omega)
      · refine r_ldc c_165_81 <| r_istore_13_10 c_165_83 rfl <| r_iconst c_165_85 <| r_istore_13_11 c_165_86 rfl <| ?_
        refine lp_meL ha hat hna hll hs l.length 0 _ (by omega) ?_
        rw [qz]
        generalize hm : le1 l n = m at *
        refine r_lload c_165_135 rfl <| r_iload c_165_137 rfl <| r_iload c_165_139 rfl <| r_isub c_165_141 (by omega) <| r_i2l c_165_142 <| r_iload c_165_143 rfl <| r_iconst c_165_145 <| r_iadd c_165_146 (by omega) <| r_i2l c_165_147 <| r_lmul c_165_148 (by omega) <| ?_
        refine r_ladd c_165_149 (by omega) <| r_lstore_13_6 c_165_150 rfl <| r_lload c_165_152 rfl <| r_ldc2_w c_165_154 <| r_lc_le c_165_157 c_165_158 (fun h157 => ?_) <| (fun h157 => ?_)
        · refine r_iload c_165_163 rfl <| r_istore_13_8 c_165_165 rfl <| r_iconst c_165_167 <| r_istore_13_11 c_165_168 rfl <| ?_
          rw [← List.append_assoc] at kk hlen
          rw [← qd]
          refine lp_meI (R := enI m hb l (enD l n d h) b h) ha hra hat hna hll l.length 0 (enD l n d h) b h o σ _ Q (by omega) hs ho (by omega) (by omega) r6 r7 (by omega) rfl (by simp only [List.length_append, List.drop_zero] at hlen ⊢; omega) (fun σ1 b12 g2 g3 => ?_)
          rw [List.drop_zero] at g2
          rw [enI_hn]
          generalize hRR : enI m hb l (enD l n d h) b h = R at *
          have hs1 := hs.mf g3 (by simp; omega)
          have q6' := q7
          obtain ⟨u1, u2, u3, u4, u5, u6, u7⟩ := q7
          refine r_lload c_165_262 rfl <| r_lconst c_165_264 <| r_ladd c_165_265 (by omega) <| r_lstore_13_6 c_165_266 rfl <| r_iinc_13_8 c_165_268 rfl (by omega) <| r_goto c_165_271 <| ?_
          exact ih _ _ _ _ _ σ1 _ _ _ Q (by omega) hs1 g2 q6' hlen (fun σ2 w2 w3 => kk σ2 w2 (g3.tr w3))
        · exact absurd h157 (by omega)
    · rw [enO_end hh] at kk
      simp only [List.append_nil] at kk
      have kk := kk σ ho mf.rf
      refine r_iload c_165_75 rfl <| r_iload_n c_165_77 rfl <| r_icmp_ge c_165_78 (fun h78 => ?_) <| (fun h78 => ?_)
      · refine r_iconst c_165_274 <| r_zret c_165_275 (Or.inr rfl) <| ?_
        exact kk
      · exact absurd h78 (by omega)
theorem ct_encoded {ra na at0 : Nat} {l : List Int} {σ : mk_S} {Q : Option mm_V → mm_H → Prop} (ha : kd L ra = .inl (0, na)) (hra : ra ≠ 55 ∧ ra ≠ 78) (hat : at0 + l.length ≤ na) (hna : na ≤ 2000) (hll : l.length ≤ 300) (hpl : ∀ y, y ∈ l → y ≤ 1114111) (hs : seg σ ra at0 l)
    (k : ∀ σ', mFew σ' (enc l) → mf [78] [34] σ σ' → Q (some (vI 1)) (hp L σ')) : mm_call 165 [vP 55, vP ra, vI (at0 : Nat), vI (l.length : Nat)] (hp L σ) Q := by
  have hlen := enc_len hll hpl
  have hR := enR_start (l := l)
  have hble := bs_le l
  unfold enc at k hlen
  have hs0 : seg (sto σ 55 34 0) ra at0 l := fun j hj => by rw [sto_ne hra.1]; exact hs j hj
  refine ⟨Nat.le_of_ble_eq_true rfl, ?_⟩
  show mm_X 165 0 [vP 55, vP ra, vI (at0 : Nat), vI (l.length : Nat), mm_null, mm_null, mm_null, mm_null, mm_null, mm_null, mm_null, mm_null, mm_null] [] _ _
  refine r_aload_n c_165_0 rfl <| r_iconst c_165_1 <| r_putf c_165_2 rfl rfl <| r_iconst c_165_5 <| r_istore_13_4 c_165_6 rfl <| ?_
  refine lp_meA ha hra hat hna hll l.length 0 [] _ Q (by omega) (Nat.le_refl 0) hs0 ⟨sto_get _ _ _ _, arr_nil⟩ (fun σ1 g1 g2 => ?_)
  rw [List.nil_append, List.drop_zero] at g1
  have e34 := g1.1
  have hf : mf [78] [34] σ σ1 := (mf.rf.stF (by decide)).tr g2
  have hs1 := hs0.mf g2 (by simp; omega)
  generalize hB : (bs l).length = B at *
  rw [← List.append_assoc] at k hlen
  refine r_aload_n c_165_42 rfl <| r_getf_i c_165_43 rfl rfl <| ?_
  rw [e34]
  refine r_istore_13_4 c_165_46 rfl <| r_iload c_165_48 rfl <| r_istore_13_5 c_165_50 rfl <| r_iload c_165_52 rfl <| r_if_le c_165_54 (fun h54 => ?_) <| (fun h54 => ?_)
  · refine r_lconst c_165_63 <| r_lstore_13_6 c_165_64 rfl <| r_sipush c_165_66 <| r_istore_13_8 c_165_69 rfl <| r_bipush c_165_71 <| r_istore_13_9 c_165_73 rfl <| ?_
    first
    | (rw [if_neg (by omega), List.append_nil] at k hlen
       exact lp_meO ha hra hat hna hll hpl l.length 128 0 72 B _ σ1 _ _ _ Q (by omega) hs1 g1 hR hlen (fun σ3 w1 w2 => k σ3 w1 (hf.tr w2)))
    | (rw [if_pos (by omega)] at k hlen
       exact lp_meO ha hra hat hna hll hpl l.length 128 0 72 B _ σ2 _ _ _ Q (by omega) (hs1.mf hf2 (by simp; omega)) hl2 hR hlen (fun σ3 w1 w2 => k σ3 w1 ((hf.tr hf2).tr w2)))
  · refine r_aload_n c_165_57 rfl <| r_bipush c_165_58 <| r_cV1 c_165_60 rfl (Nat.le_of_ble_eq_true rfl) <| ?_
    refine ct_letter g1 (by omega) _ (fun σ2 hl2 hf2 => ?_)
    refine r_lconst c_165_63 <| r_lstore_13_6 c_165_64 rfl <| r_sipush c_165_66 <| r_istore_13_8 c_165_69 rfl <| r_bipush c_165_71 <| r_istore_13_9 c_165_73 rfl <| ?_
    first
    | (rw [if_neg (by omega), List.append_nil] at k hlen
       exact lp_meO ha hra hat hna hll hpl l.length 128 0 72 B _ σ1 _ _ _ Q (by omega) hs1 g1 hR hlen (fun σ3 w1 w2 => k σ3 w1 (hf.tr w2)))
    | (rw [if_pos (by omega)] at k hlen
       exact lp_meO ha hra hat hna hll hpl l.length 128 0 72 B _ σ2 _ _ _ Q (by omega) (hs1.mf hf2 (by simp; omega)) hl2 hR hlen (fun σ3 w1 w2 => k σ3 w1 ((hf.tr hf2).tr w2)))
end MENC
