/-! MAKE: plain letters out, the model's side. -/
theorem enc_len8 {l : List Int} (hl : l.length ≤ 300) (hp : ∀ y, y ∈ l → y ≤ 1114111) : (enc l).length ≤ 8 * l.length + 34 := by
  have h1 := enO_len (hb := (bs l).length) hl hp l.length 128 0 72 _ enR_start
  have h2 := bs_le l
  unfold enc
  simp only [List.length_append]
  have h3 : (if 0 < (bs l).length then [45] else ([] : List Int)).length ≤ 1 := by split <;> simp
  omega
theorem plN_len {x : List Int} (hl : x.length ≤ 300) (hp : pts x) : (plN x).length + 1 ≤ 24 * (x.length + 1) := by
  unfold plN
  split
  · omega
  · next h =>
    have h1 := enc_len8 hl (pts_le hp)
    have h2 : x.length ≠ 0 := fun e => h (by rw [List.eq_nil_of_length_eq_zero e]; rfl)
    simp only [List.length_append, List.length_cons, List.length_nil]; omega
theorem plN_0 {x : List Int} : (plN x).length = 0 ↔ x.length = 0 := by
  unfold plN
  split
  · exact Iff.rfl
  · next h =>
    have h2 : x.length ≠ 0 := fun e => h (by rw [List.eq_nil_of_length_eq_zero e]; rfl)
    simp only [List.length_append, List.length_cons, List.length_nil]; omega
theorem outP_len : ∀ (l : List (List Int)) (i : Nat), (∀ y, y ∈ l → pts y) → l.flatten.length ≤ 300 → (outF plN l i).length ≤ 24 * (l.flatten.length + l.length)
  | [], i, h, h2 => by simp [outF]
  | x :: xs, i, h, h2 => by
    simp only [List.flatten_cons, List.length_append] at h2
    have h1 := outP_len xs (i + 1) (fun y hy => h y (List.mem_cons_of_mem _ hy)) (by omega)
    have h4 := plN_len (x := x) (by omega) (h x List.mem_cons_self)
    have h3 : (if 0 < i then [46] else ([] : List Int)).length ≤ 1 := by split <;> simp
    simp only [outF, List.length_append, List.flatten_cons, List.length_cons]; omega
section MPLAIN
variable {L : Nat} {T : mk_S}
theorem lp_mpw {σ : mk_S} {x : List Int} {st i : Nat} (hi : i < 301) (hst : st + x.length ≤ 300) (x82 : σ 82 i = (st : Int)) (x83 : σ 83 i = (x.length : Int)) (xsg : seg σ 81 st x) {Q : Option mm_V → mm_H → Prop}
    (kk : ∀ f : Int, ((f = 1 ∧ wdF x = true) ∨ (f = 0 ∧ wdF x = false)) → ∀ a3, mm_X 186 48 [vP 55, vI (i : Nat), vI f, a3, mm_null] [] (hp L σ) Q) : ∀ (k j : Nat) (f : Int), j + k = x.length → ((f = 1 ∧ wdF x = true) ∨ (f = 0 ∧ wdF x = wdF (x.drop j))) → mm_X 186 4 [vP 55, vI (i : Nat), vI f, vI (j : Nat), mm_null] [] (hp L σ) Q := by
  intro k
  induction k with
  | zero =>
    intro j f hj hf
    have ej : j = x.length := by omega
    subst ej
    rw [List.drop_length] at hf
    refine r_iload_n c_186_4 rfl <| r_aload_n c_186_5 rfl <| r_getf_a c_186_6 rfl rfl <| r_iload_n c_186_9 rfl <| r_iald c_186_10 rfl (Or.inl rfl) rfl (by omega) <| ?_
    rw [x83]
    refine r_icmp_ge c_186_11 (fun h11 => ?_) <| (fun h11 => ?_)
    · exact kk f hf _
    · exact absurd (show False by omega) (by decide)
  | succ k ih =>
    intro j f hj hf
    rw [drop_at (by omega)] at hf
    simp only [wdF] at hf
    have hx := xsg j (by omega)
    generalize hxv : x.getD j 0 = p at *
    refine r_iload_n c_186_4 rfl <| r_aload_n c_186_5 rfl <| r_getf_a c_186_6 rfl rfl <| r_iload_n c_186_9 rfl <| r_iald c_186_10 rfl (Or.inl rfl) rfl (by omega) <| ?_
    rw [x83]
    refine r_icmp_ge c_186_11 (fun h11 => ?_) <| (fun h11 => ?_)
    · exact absurd (show False by omega) (by decide)
    · refine r_iload_n c_186_14 rfl <| r_if_ne c_186_15 (fun h15 => ?_) <| (fun h15 => ?_)
      · refine r_iconst c_186_36 <| r_goto c_186_37 <| r_istore_n_5_2 c_186_41 rfl <| r_iinc_5_3 c_186_42 rfl (by omega) <| r_goto c_186_45 <| ?_
        first
        | exact ih (j + 1) 1 (by omega) (Or.inl ⟨rfl, hf.elim (fun h => h.2) (fun h => absurd h.1 (by assumption))⟩)
        | exact ih (j + 1) 1 (by omega) (Or.inl ⟨rfl, hf.elim (fun h => h.2) (fun h => by rw [h.2, if_pos (by omega)])⟩)
        | exact ih (j + 1) 0 (by omega) (Or.inr ⟨rfl, hf.elim (fun h => absurd h.1 (by omega)) (fun h => by rw [h.2, if_neg (by omega)])⟩)
      · refine r_aload_n c_186_18 rfl <| r_getf_a c_186_19 rfl rfl <| r_aload_n c_186_22 rfl <| r_getf_a c_186_23 rfl rfl <| r_iload_n c_186_26 rfl <| r_iald c_186_27 rfl (Or.inl rfl) rfl (by omega) <| ?_
        rw [x82]
        refine r_iload_n c_186_28 rfl <| r_iadd c_186_29 (by omega) <| r_iald c_186_30 rfl (Or.inl rfl) (jn := st + j) (by omega) (by omega) <| ?_
        rw [hx]
        refine r_bipush c_186_31 <| r_icmp_le c_186_33 (fun h33 => ?_) <| (fun h33 => ?_)
        · refine r_iconst c_186_40 <| r_istore_n_5_2 c_186_41 rfl <| r_iinc_5_3 c_186_42 rfl (by omega) <| r_goto c_186_45 <| ?_
          first
          | exact ih (j + 1) 1 (by omega) (Or.inl ⟨rfl, hf.elim (fun h => h.2) (fun h => absurd h.1 (by assumption))⟩)
          | exact ih (j + 1) 1 (by omega) (Or.inl ⟨rfl, hf.elim (fun h => h.2) (fun h => by rw [h.2, if_pos (by omega)])⟩)
          | exact ih (j + 1) 0 (by omega) (Or.inr ⟨rfl, hf.elim (fun h => absurd h.1 (by omega)) (fun h => by rw [h.2, if_neg (by omega)])⟩)
        · refine r_iconst c_186_36 <| r_goto c_186_37 <| r_istore_n_5_2 c_186_41 rfl <| r_iinc_5_3 c_186_42 rfl (by omega) <| r_goto c_186_45 <| ?_
          first
          | exact ih (j + 1) 1 (by omega) (Or.inl ⟨rfl, hf.elim (fun h => h.2) (fun h => absurd h.1 (by assumption))⟩)
          | exact ih (j + 1) 1 (by omega) (Or.inl ⟨rfl, hf.elim (fun h => h.2) (fun h => by rw [h.2, if_pos (by omega)])⟩)
          | exact ih (j + 1) 0 (by omega) (Or.inr ⟨rfl, hf.elim (fun h => absurd h.1 (by omega)) (fun h => by rw [h.2, if_neg (by omega)])⟩)
theorem lp_mpn {x : List Int} {st i : Nat} {f z : Int} (hi : i < 301) (hst : st + x.length ≤ 300) {Q : Option mm_V → mm_H → Prop} : ∀ (k j : Nat) (o : List Int) (σ : mk_S), j + k = x.length → σ 82 i = (st : Int) → σ 83 i = (x.length : Int) → seg σ 81 st x → mDr σ (o ++ x.take j) → (o ++ x).length ≤ 8000 →
    (∀ σ' a4, mDr σ' (o ++ x) → mf [85] [50] σ σ' → mm_X 186 187 [vP 55, vI (i : Nat), vI f, vI z, a4] [] (hp L σ') Q) → mm_X 186 60 [vP 55, vI (i : Nat), vI f, vI z, vI (j : Nat)] [] (hp L σ) Q := by
  intro k
  induction k with
  | zero =>
    intro j o σ hj x82 x83 xsg ho hle kk
    have ej : j = x.length := by omega
    subst ej
    rw [List.take_length] at ho
    refine r_iload c_186_60 rfl <| r_aload_n c_186_62 rfl <| r_getf_a c_186_63 rfl rfl <| r_iload_n c_186_66 rfl <| r_iald c_186_67 rfl (Or.inl rfl) rfl (by omega) <| ?_
    rw [x83]
    refine r_icmp_ge c_186_68 (fun h68 => ?_) <| (fun h68 => ?_)
    · refine r_goto c_186_95 <| ?_
      exact kk σ _ ho mf.rf
    · exact absurd (show False by omega) (by decide)
  | succ k ih =>
    intro j o σ hj x82 x83 xsg ho hle kk
    have hx := xsg j (by omega)
    rw [List.length_append] at hle
    refine r_iload c_186_60 rfl <| r_aload_n c_186_62 rfl <| r_getf_a c_186_63 rfl rfl <| r_iload_n c_186_66 rfl <| r_iald c_186_67 rfl (Or.inl rfl) rfl (by omega) <| ?_
    rw [x83]
    refine r_icmp_ge c_186_68 (fun h68 => ?_) <| (fun h68 => ?_)
    · refine r_goto c_186_95 <| ?_
      exact absurd (show False by omega) (by decide)
    · refine r_aload_n c_186_71 rfl <| r_aload_n c_186_72 rfl <| r_getf_a c_186_73 rfl rfl <| r_aload_n c_186_76 rfl <| r_getf_a c_186_77 rfl rfl <| r_iload_n c_186_80 rfl <| r_iald c_186_81 rfl (Or.inl rfl) rfl (by omega) <| ?_
      rw [x82]
      refine r_iload c_186_82 rfl <| r_iadd c_186_84 (by omega) <| r_iald c_186_85 rfl (Or.inl rfl) (jn := st + j) (by omega) (by omega) <| ?_
      rw [hx]
      refine r_cV1 c_186_86 rfl (Nat.le_of_ble_eq_true rfl) <| ?_
      refine ct_oo ho (by rw [List.length_append, List.length_take]; omega) _ (fun σ1 hl1 hf1 => ?_)
      refine r_iinc_5_4 c_186_89 rfl (by omega) <| r_goto c_186_92 <| ?_
      refine ih (j + 1) o σ1 (by omega) (by rw [hf1.1 82 (by decide) (by decide)]; exact x82) (by rw [hf1.1 83 (by decide) (by decide)]; exact x83) (xsg.mf hf1 (by decide)) (by rw [take_at (by omega), ← List.append_assoc]; exact hl1) (by rw [List.length_append]; exact hle) (fun σ2 a4 w1 w2 => kk σ2 a4 w1 (hf1.tr w2))
theorem lp_mpe {e : List Int} {i : Nat} {f z : Int} {Q : Option mm_V → mm_H → Prop} (hel : e.length ≤ 2600) : ∀ (k j : Nat) (o : List Int) (σ : mk_S), j + k = e.length → mFew σ e → mDr σ (o ++ e.take j) → (o ++ e).length ≤ 8000 →
    (∀ σ' a4, mDr σ' (o ++ e) → mf [85] [50] σ σ' → mm_X 186 187 [vP 55, vI (i : Nat), vI f, vI z, a4] [] (hp L σ') Q) → mm_X 186 161 [vP 55, vI (i : Nat), vI f, vI z, vI (j : Nat)] [] (hp L σ) Q := by
  intro k
  induction k with
  | zero =>
    intro j o σ hj hF ho hle kk
    have e34 := hF.1
    have ej : j = e.length := by omega
    subst ej
    rw [List.take_length] at ho
    refine r_iload c_186_161 rfl <| r_aload_n c_186_163 rfl <| r_getf_i c_186_164 rfl rfl <| r_icmp_ge c_186_167 (fun h167 => ?_) <| (fun h167 => ?_)
    · exact kk σ _ ho mf.rf
    · exact absurd (show False by omega) (by decide)
  | succ k ih =>
    intro j o σ hj hF ho hle kk
    have e34 := hF.1
    have hx := hF.2 j (by omega)
    rw [List.length_append] at hle
    refine r_iload c_186_161 rfl <| r_aload_n c_186_163 rfl <| r_getf_i c_186_164 rfl rfl <| r_icmp_ge c_186_167 (fun h167 => ?_) <| (fun h167 => ?_)
    · exact absurd (show False by omega) (by decide)
    · refine r_aload_n c_186_170 rfl <| r_aload_n c_186_171 rfl <| r_getf_a c_186_172 rfl rfl <| r_iload c_186_175 rfl <| r_iald c_186_177 rfl (Or.inl rfl) (jn := j) rfl (by omega) <| ?_
      rw [hx]
      refine r_cV1 c_186_178 rfl (Nat.le_of_ble_eq_true rfl) <| ?_
      refine ct_oo ho (by rw [List.length_append, List.length_take]; omega) _ (fun σ1 hl1 hf1 => ?_)
      refine r_iinc_5_4 c_186_181 rfl (by omega) <| r_goto c_186_184 <| ?_
      refine ih (j + 1) o σ1 (by omega) ⟨by rw [hf1.2 34 (by decide)]; exact hF.1, hF.2.eq (hf1.1 78 (by decide) (by decide))⟩ (by rw [take_at (by omega), ← List.append_assoc]; exact hl1) (by rw [List.length_append]; exact hle) (fun σ2 a4 w1 w2 => kk σ2 a4 w1 (hf1.tr w2))
theorem ct_mpl {σ : mk_S} {os rs : List (List Int)} {i : Nat} {o : List Int} {Q : Option mm_V → mm_H → Prop} (hpx : pts (rs.getD i [])) (hi : i < os.length) (hx : mLx σ os rs) (ho : mDr σ o) (hle : (o ++ plN (rs.getD i [])).length ≤ 8000)
    (k : ∀ σ', mDr σ' (o ++ plN (rs.getD i [])) → σ' 87 i = ((plN (rs.getD i [])).length : Int) → (∀ j, j ≠ i → σ' 87 j = σ 87 j) → mf [78, 85, 87] [34, 50] σ σ' → Q none (hp L σ')) : mm_call 186 [vP 55, vI (i : Nat)] (hp L σ) Q := by
  have h3 := hx.2.2.1
  have h2 := hx.2.1
  have hof := ofs_fit hi
  obtain ⟨x82, x83, xle, xsg⟩ := hx.2.2.2 i hi
  generalize hlx : rs.getD i [] = x at *
  have e50 := ho.1
  have hst : ofs os i + x.length ≤ 300 := by omega
  rw [List.length_append] at hle
  have fin : ∀ σ1, mDr σ1 (o ++ plN x) → mf [78, 85] [34, 50] σ σ1 → ∀ f a4, mm_X 186 187 [vP 55, vI (i : Nat), vI f, vI (o.length : Nat), a4] [] (hp L σ1) Q := by
    intro σ1 g1 g2 f a4
    have e50b := g1.1
    rw [List.length_append] at e50b
    refine r_aload_n c_186_187 rfl <| r_getf_a c_186_188 rfl rfl <| r_iload_n c_186_191 rfl <| r_aload_n c_186_192 rfl <| r_getf_i c_186_193 rfl rfl <| r_iload_n c_186_196 rfl <| r_isub c_186_197 (by omega) <| r_iast c_186_198 rfl (jn := i) (by omega) (by omega) <| r_ret c_186_199 <| ?_
    refine k _ ⟨?_, fun j hj => ?_⟩ ?_ (fun j hj => ?_) ((g2.up (by decide) (by decide)).tr (mf.rf.stA (by decide) (by decide)))
    · rw [sto_ne (by decide)]; exact g1.1
    · rw [sto_ne (by decide)]; exact g1.2 j hj
    · rw [sto_at, st_at, e50b]; omega
    · rw [sto_at, st_ne hj, g2.1 87 (by decide) (by decide)]
  refine ⟨Nat.le_of_ble_eq_true rfl, ?_⟩
  show mm_X 186 0 [vP 55, vI (i : Nat), mm_null, mm_null, mm_null] [] _ _
  refine r_iconst c_186_0 <| r_istore_n_5_2 c_186_1 rfl <| r_iconst c_186_2 <| r_istore_n_5_3 c_186_3 rfl <| ?_
  refine lp_mpw (by omega) hst x82 x83 xsg (fun f hf a3 => ?_) x.length 0 0 (by omega) (Or.inr ⟨rfl, by rw [List.drop_zero]⟩)
  have eW : wdF x = true → plN x = [120, 110, 45, 45] ++ enc x := fun h => by unfold plN; rw [if_neg (by rw [h]; decide)]
  have eN : wdF x = false → plN x = x := fun h => by unfold plN; rw [if_pos h]
  refine r_aload_n c_186_48 rfl <| r_getf_i c_186_49 rfl rfl <| ?_
  rw [e50]
  refine r_istore_n_5_3 c_186_52 rfl <| r_iload_n c_186_53 rfl <| r_if_ne c_186_54 (fun h54 => ?_) <| (fun h54 => ?_)
  · have hw : wdF x = true := hf.elim (fun h => h.2) (fun h => absurd h.1 (by assumption))
    rw [eW hw] at fin hle
    simp only [List.length_append, List.length_cons, List.length_nil] at hle
    refine r_aload_n c_186_98 rfl <| r_aload_n c_186_99 rfl <| r_getf_a c_186_100 rfl rfl <| r_aload_n c_186_103 rfl <| r_getf_a c_186_104 rfl rfl <| r_iload_n c_186_107 rfl <| r_iald c_186_108 rfl (Or.inl rfl) rfl (by omega) <| ?_
    rw [x82]
    refine r_aload_n c_186_109 rfl <| r_getf_a c_186_110 rfl rfl <| r_iload_n c_186_113 rfl <| r_iald c_186_114 rfl (Or.inl rfl) rfl (by omega) <| ?_
    rw [x83]
    refine r_cV3 c_186_115 rfl (Nat.le_of_ble_eq_true rfl) <| ?_
    refine ct_encoded (ra := 81) (na := 2000) (at0 := ofs os i) rfl (by decide) (by omega) (by decide) (by omega) (pts_le hpx) xsg (fun σ1 hF1 hf1 => ?_)
    refine r_if_ne c_186_118 (fun _ => ?_) <| (fun h => absurd h (by decide))
    have ho1 : mDr σ1 o := ⟨by rw [hf1.2 50 (by decide)]; exact ho.1, fun j hj => by rw [hf1.1 85 (by decide) (by decide)]; exact ho.2 j hj⟩
    refine r_aload_n c_186_134 rfl <| r_bipush c_186_135 <| r_cV1 c_186_137 rfl (Nat.le_of_ble_eq_true rfl) <| ?_
    refine ct_oo ho1 (by omega) _ (fun σ2 hl2 hf2 => ?_)
    refine r_aload_n c_186_140 rfl <| r_bipush c_186_141 <| r_cV1 c_186_143 rfl (Nat.le_of_ble_eq_true rfl) <| ?_
    refine ct_oo hl2 (by simp only [List.length_append, List.length_cons, List.length_nil]; omega) _ (fun σ3 hl3 hf3 => ?_)
    refine r_aload_n c_186_146 rfl <| r_bipush c_186_147 <| r_cV1 c_186_149 rfl (Nat.le_of_ble_eq_true rfl) <| ?_
    refine ct_oo hl3 (by simp only [List.length_append, List.length_cons, List.length_nil]; omega) _ (fun σ4 hl4 hf4 => ?_)
    refine r_aload_n c_186_152 rfl <| r_bipush c_186_153 <| r_cV1 c_186_155 rfl (Nat.le_of_ble_eq_true rfl) <| ?_
    refine ct_oo hl4 (by simp only [List.length_append, List.length_cons, List.length_nil]; omega) _ (fun σ5 hl5 hf5 => ?_)
    refine r_iconst c_186_158 <| r_istore_5_4 c_186_159 rfl <| ?_
    have c5 : mf [85] [50] σ1 σ5 := ((hf2.tr hf3).tr hf4).tr hf5
    have hel : (enc x).length ≤ 2600 := enc_len (by omega) (pts_le hpx)
    refine lp_mpe hel (enc x).length 0 (o ++ [120, 110, 45, 45]) σ5 (by omega) ⟨by rw [c5.2 34 (by decide)]; exact hF1.1, hF1.2.eq (c5.1 78 (by decide) (by decide))⟩ (by rw [List.take_zero, List.append_nil]; simpa using hl5) (by simp only [List.length_append, List.length_cons, List.length_nil]; omega) (fun σ6 a4 w1 w2 => fin σ6 (by rw [← List.append_assoc]; exact w1) ((hf1.up (by decide) (by decide)).tr ((c5.tr w2).up (by decide) (by decide))) _ _)
  · refine r_iconst c_186_57 <| r_istore_5_4 c_186_58 rfl <| ?_
    have hw : wdF x = false := hf.elim (fun h => absurd h.1 (by omega)) (fun h => h.2)
    rw [eN hw] at fin hle
    exact lp_mpn (by omega) hst x.length 0 o σ (by omega) x82 x83 xsg (by rw [List.take_zero, List.append_nil]; exact ho) (by rw [List.length_append]; exact hle) (fun σ1 a4 w1 w2 => fin σ1 w1 (w2.up (by decide) (by decide)) _ _)
theorem ct_wrong0 {σ : mk_S} (f l p : Int) {Q : Option mm_V → mm_H → Prop} (h0 : σ 55 37 ≠ 0) (k : Q (some (vI 0)) (hp L σ)) : mm_call 176 [vP 55, vI f, vI l, vI p] (hp L σ) Q := by
  refine ⟨Nat.le_of_ble_eq_true rfl, ?_⟩
  show mm_X 176 0 [vP 55, vI f, vI l, vI p] [] _ _
  refine r_aload_n c_176_0 rfl <| r_getf_i c_176_1 rfl rfl <| r_if_ne c_176_4 (fun h4 => ?_) <| (fun h4 => ?_)
  · refine r_iconst c_176_22 <| r_zret c_176_23 (Or.inl rfl) <| ?_
    first
    | exact k
    | exact absurd (by assumption) h0
  · refine r_aload_n c_176_7 rfl <| r_iload_n c_176_8 rfl <| r_putf c_176_9 rfl rfl <| r_aload_n c_176_12 rfl <| r_iload_n c_176_13 rfl <| r_putf c_176_14 rfl rfl <| r_aload_n c_176_17 rfl <| r_iload_n c_176_18 rfl <| r_putf c_176_19 rfl rfl <| r_iconst c_176_22 <| ?_
    refine r_zret c_176_23 (Or.inl rfl) <| ?_
    first
    | exact k
    | exact absurd (by assumption) h0
theorem mp_tail {σ : mk_S} {os rs : List (List Int)} {Q : Option mm_V → mm_H → Prop} (hx : mLx σ os rs) (h43 : σ 55 43 = (os.length : Int)) (hn : 1 ≤ os.length) (h50 : 0 ≤ σ 55 50 ∧ σ 55 50 ≤ 8000)
    (k1 : (σ 55 37 ≠ 0 ∨ (1 ≤ σ 55 50 - (if 1 < os.length ∧ (rs.getD (os.length - 1) []).length = 0 then 1 else 0) ∧ σ 55 50 - (if 1 < os.length ∧ (rs.getD (os.length - 1) []).length = 0 then 1 else 0) ≤ 253)) → Q none (hp L σ))
    (k0 : σ 55 37 = 0 → (σ 55 50 - (if 1 < os.length ∧ (rs.getD (os.length - 1) []).length = 0 then 1 else 0) = 0 ∨ 253 < σ 55 50 - (if 1 < os.length ∧ (rs.getD (os.length - 1) []).length = 0 then 1 else 0)) → ∀ σ', mD σ' 53 ((os.length : Int) - 1) 0 → mf [] [37, 38, 39] σ σ' → Q none (hp L σ'))
    (hpos : 0 ≤ σ 55 50 - (if 1 < os.length ∧ (rs.getD (os.length - 1) []).length = 0 then 1 else 0)) : ∀ a1 a2, mm_X 184 134 [vP 55, a1, a2] [] (hp L σ) Q := by
  intro a1 a2
  have h3 := hx.2.2.1
  have x83 := (hx.2.2.2 (os.length - 1) (by omega)).2.1
  generalize hm : (rs.getD (os.length - 1) []).length = m at *
  generalize ht : (if 1 < os.length ∧ m = 0 then (1 : Int) else 0) = t at *
  have htt : (1 < os.length ∧ m = 0 ∧ t = 1) ∨ (¬ (1 < os.length ∧ m = 0) ∧ t = 0) := by
    rw [← ht]; split
    · left; omega
    · right; omega
  have fin : ∀ v : Int, v = σ 55 50 - t → ∀ a2, mm_X 184 167 [vP 55, vI v, a2] [] (hp L σ) Q := by
    intro v hv a2
    by_cases hf : σ 55 37 = 0
    · refine r_iload_n c_184_167 rfl <| r_sipush c_184_168 <| r_icmp_gt c_184_171 (fun h171 => ?_) <| (fun h171 => ?_)
      · refine r_aload_n c_184_178 rfl <| r_bipush c_184_179 <| r_aload_n c_184_181 rfl <| r_getf_i c_184_182 rfl rfl <| ?_
        rw [h43]
        refine r_iconst c_184_185 <| r_isub c_184_186 (by omega) <| r_iconst c_184_187 <| r_cV3 c_184_188 rfl (Nat.le_of_ble_eq_true rfl) <| ?_
        refine ct_wrong _ _ _ hf (fun σ2 hd2 hf2 => ?_)
        refine r_istore_n_3_2 c_184_191 rfl <| r_ret c_184_192 <| ?_
        first | exact k1 (Or.inr (by omega)) | exact k0 hf (by omega) σ2 hd2 hf2
      · refine r_iload_n c_184_174 rfl <| r_if_ne c_184_175 (fun h175 => ?_) <| (fun h175 => ?_)
        · refine r_ret c_184_192 <| ?_
          first | exact k1 (Or.inr (by omega)) | exact k0 hf (by omega) σ2 hd2 hf2
        · refine r_aload_n c_184_178 rfl <| r_bipush c_184_179 <| r_aload_n c_184_181 rfl <| r_getf_i c_184_182 rfl rfl <| ?_
          rw [h43]
          refine r_iconst c_184_185 <| r_isub c_184_186 (by omega) <| r_iconst c_184_187 <| r_cV3 c_184_188 rfl (Nat.le_of_ble_eq_true rfl) <| ?_
          refine ct_wrong _ _ _ hf (fun σ2 hd2 hf2 => ?_)
          refine r_istore_n_3_2 c_184_191 rfl <| r_ret c_184_192 <| ?_
          first | exact k1 (Or.inr (by omega)) | exact k0 hf (by omega) σ2 hd2 hf2
    · refine r_iload_n c_184_167 rfl <| r_sipush c_184_168 <| r_icmp_gt c_184_171 (fun h171 => ?_) <| (fun h171 => ?_)
      · refine r_aload_n c_184_178 rfl <| r_bipush c_184_179 <| r_aload_n c_184_181 rfl <| r_getf_i c_184_182 rfl rfl <| ?_
        rw [h43]
        refine r_iconst c_184_185 <| r_isub c_184_186 (by omega) <| r_iconst c_184_187 <| r_cV3 c_184_188 rfl (Nat.le_of_ble_eq_true rfl) <| ?_
        refine ct_wrong0 _ _ _ hf ?_
        refine r_istore_n_3_2 c_184_191 rfl <| r_ret c_184_192 <| ?_
        exact k1 (Or.inl hf)
      · refine r_iload_n c_184_174 rfl <| r_if_ne c_184_175 (fun h175 => ?_) <| (fun h175 => ?_)
        · refine r_ret c_184_192 <| ?_
          exact k1 (Or.inl hf)
        · refine r_aload_n c_184_178 rfl <| r_bipush c_184_179 <| r_aload_n c_184_181 rfl <| r_getf_i c_184_182 rfl rfl <| ?_
          rw [h43]
          refine r_iconst c_184_185 <| r_isub c_184_186 (by omega) <| r_iconst c_184_187 <| r_cV3 c_184_188 rfl (Nat.le_of_ble_eq_true rfl) <| ?_
          refine ct_wrong0 _ _ _ hf ?_
          refine r_istore_n_3_2 c_184_191 rfl <| r_ret c_184_192 <| ?_
          exact k1 (Or.inl hf)
  refine r_aload_n c_184_134 rfl <| r_getf_i c_184_135 rfl rfl <| r_aload_n c_184_138 rfl <| r_getf_i c_184_139 rfl rfl <| ?_
  rw [h43]
  refine r_iconst c_184_142 <| r_icmp_le c_184_143 (fun h143 => ?_) <| (fun h143 => ?_)
  · refine r_iconst c_184_164 <| r_isub c_184_165 (by omega) <| r_istore_n_3_1 c_184_166 rfl <| ?_
    exact fin _ (by omega) _
  · refine r_aload_n c_184_146 rfl <| r_getf_a c_184_147 rfl rfl <| r_aload_n c_184_150 rfl <| r_getf_i c_184_151 rfl rfl <| ?_
    rw [h43]
    refine r_iconst c_184_154 <| r_isub c_184_155 (by omega) <| r_iald c_184_156 rfl (Or.inl rfl) (jn := os.length - 1) (by omega) (by omega) <| ?_
    rw [x83]
    refine r_if_ne c_184_157 (fun h157 => ?_) <| (fun h157 => ?_)
    · refine r_iconst c_184_164 <| r_isub c_184_165 (by omega) <| r_istore_n_3_1 c_184_166 rfl <| ?_
      exact fin _ (by omega) _
    · refine r_iconst c_184_160 <| r_goto c_184_161 <| r_isub c_184_165 (by omega) <| r_istore_n_3_1 c_184_166 rfl <| ?_
      exact fin _ (by omega) _
end MPLAIN
