/-! APART, the class's ranks beside the points, and its sorting. -/
section CSORT
variable {L : Nat} {T : mk_S}
theorem lp_takeAll {rp : Nat} {l : List Int} (hO : TOK T) (hrp : isRow L rp 300) (hd : rp + 1 < 11 ∨ 33 < rp) : ∀ (k i : Nat) (acc : List Int) (σ : mk_S) (a4 : mm_V) (Q : Option mm_V → mm_H → Prop), l.length + 1 ≤ i + k → i ≤ l.length → acc.length = i → TC σ T → rowOK σ rp 300 l → rowOK σ 32 300 acc → l.map (rkO T) = acc ++ (l.drop i).map (rkO T) →
    (∀ σ', rowOK σ' 32 300 (l.map (rkO T)) → fr2 32 σ σ' → Q none (hp L σ')) → mm_X 66 6 [vP 22, vP rp, vP 32, vI i, a4] [] (hp L σ) Q := by
  intro k
  induction k with
  | zero => intro i acc σ a4 Q h1 h2; omega
  | succ k ih =>
    intro i acc σ a4 Q hk hi hai hC hl hacc hR kk
    have hle := hl.2.1
    have hn2 := hO.1.2.2.1.2
    have hb := rkI_lt (T := T) (l.getD i 0)
    have e24 := hC 24 (by decide) (by decide)
    have X42 : ∀ z a4', i < l.length → z = rkO T (l.getD i 0) → mm_X 66 42 [vP 22, vP rp, vP 32, vI i, a4'] [vI z, vP 32] (hp L σ) Q := by
      intro z a4' hil hz
      refine r_cV1 c_66_42 rfl (Nat.le_of_ble_eq_true rfl) <| ?_
      refine ct_append row32 hacc _ (fun hlt σ1 hl1 hf1 => ?_) (fun hfull => ?_)
      · refine r_pop c_66_45 (v := vI _) rfl <| r_iinc_5_3 c_66_46 rfl (by omega) <| r_goto c_66_49 <| ?_
        first
        | exact absurd hfull (by omega)
        | (refine ih (i + 1) _ σ1 _ Q (by omega) (by omega) (by simp; omega) (hC.cf (A := [32, 33]) (hf1.cf (by simp) (by simp)) (fun a ha => by simp at ha; omega)) (hl.fr2 hf1 (by omega)) hl1 ?_ (fun σ2 g1 g2 => kk σ2 g1 (hf1.tr g2))
           rw [hR, drop_at hil, hz]; simp)
      · refine r_pop c_66_45 (v := vI _) rfl <| r_iinc_5_3 c_66_46 rfl (by omega) <| r_goto c_66_49 <| ?_
        first
        | exact absurd hfull (by omega)
        | (refine ih (i + 1) _ σ1 _ Q (by omega) (by omega) (by simp; omega) (hC.cf (A := [32, 33]) (hf1.cf (by simp) (by simp)) (fun a ha => by simp at ha; omega)) (hl.fr2 hf1 (by omega)) hl1 ?_ (fun σ2 g1 g2 => kk σ2 g1 (hf1.tr g2))
           rw [hR, drop_at hil, hz]; simp)
    refine r_iload_n c_66_6 rfl <| r_aload_n c_66_7 rfl <| r_cV0 c_66_8 hrp.1 (Nat.le_of_ble_eq_true rfl) <| ?_
    refine ct_size hrp hl ?_
    refine r_icmp_ge c_66_11 (fun h11 => ?_) <| (fun h11 => ?_)
    · refine r_ret c_66_52 <| ?_
      have e : acc = l.map (rkO T) := by rw [hR, List.drop_of_length_le (by omega)]; simp
      exact kk σ (by rw [← e]; exact hacc) fr2.rf
    · refine r_aload_n c_66_14 rfl <| r_aload_n c_66_15 rfl <| r_iload_n c_66_16 rfl <| r_cV1 c_66_17 hrp.1 (Nat.le_of_ble_eq_true rfl) <| ?_
      refine ct_atn hrp hl (by omega) ?_
      refine r_cV1 c_66_20 rfl (Nat.le_of_ble_eq_true rfl) <| ?_
      refine ct_rfind hC hO _ ?_
      refine r_istore_5_4 c_66_23 rfl <| r_aload_n c_66_25 rfl <| r_iload c_66_26 rfl <| r_if_lt c_66_28 (fun h28 => ?_) <| (fun h28 => ?_)
      · refine r_iconst c_66_41 <| ?_
        first | exact X42 _ _ (by omega) (by unfold rkO; rw [if_pos (by omega)]) | exact X42 _ _ (by omega) (by unfold rkO; rw [if_neg (by omega), e24])
      · refine r_aload_n c_66_31 rfl <| r_getf_a c_66_32 rfl rfl <| r_iload c_66_35 rfl <| r_iald c_66_37 rfl (Or.inl rfl) (jn := (rkI T (l.getD i 0)).toNat) (by omega) (by omega) <| r_goto c_66_38 <| ?_
        first | exact X42 _ _ (by omega) (by unfold rkO; rw [if_pos (by omega)]) | exact X42 _ _ (by omega) (by unfold rkO; rw [if_neg (by omega), e24])
theorem ct_takeAll {σ : mk_S} {rp : Nat} {l : List Int} {Q : Option mm_V → mm_H → Prop} (hC : TC σ T) (hO : TOK T) (hrp : isRow L rp 300) (hd : rp + 1 < 11 ∨ 33 < rp) (hl : rowOK σ rp 300 l) (k : ∀ σ', rowOK σ' 32 300 (l.map (rkO T)) → fr2 32 σ σ' → Q none (hp L σ')) : mm_call 66 [vP 22, vP rp, vP 32] (hp L σ) Q := by
  refine ⟨Nat.le_of_ble_eq_true rfl, ?_⟩
  show mm_X 66 0 [vP 22, vP rp, vP 32, mm_null, mm_null] [] _ _
  refine r_aload_n c_66_0 rfl <| r_cV0 c_66_1 rfl (Nat.le_of_ble_eq_true rfl) <| ?_
  refine ct_clear row32 (fun σ1 hl1 hf1 => ?_)
  refine r_iconst c_66_4 <| r_istore_n_5_3 c_66_5 rfl <| ?_
  exact lp_takeAll hO hrp hd (l.length + 1) 0 [] σ1 _ Q (by omega) (by omega) rfl (hC.cf (A := [32, 33]) (hf1.cf (by simp) (by simp)) (fun a ha => by simp at ha; omega)) (hl.fr2 hf1 (by omega)) hl1 (by simp) (fun σ2 g1 g2 => k σ2 g1 (hf1.tr g2))
theorem cast_sub1 {n : Nat} : ((n + 1 : Nat) : Int) - 1 = (n : Int) := by omega
theorem lp_sortIn {rt : Nat} {rk : Int → Int} {p : Int} {i : Nat} {W R : List Int} (hrt : isRow L rt 300) (hd : rt + 1 < 11 ∨ 33 < rt) (Q : Option mm_V → mm_H → Prop) : ∀ (V : List Int) (jj : Int) (U : List Int) (σ : mk_S), rowOK σ rt 300 (V.reverse ++ jj :: (U ++ W)) → rowOK σ 32 300 ((V.reverse ++ jj :: (U ++ W)).map rk) → R = (insR rk p V).reverse ++ (U ++ W) →
    (∀ σ' a5, rowOK σ' rt 300 R → rowOK σ' 32 300 (R.map rk) → cf [32, 33, rt, rt + 1] σ σ' → mm_X 67 2 [vP 30, vP rt, vI ((i : Int) + 1), vI p, vI (rk p), a5] [] (hp L σ') Q) →
    i ≤ 300 → mm_X 67 29 [vP 30, vP rt, vI i, vI p, vI (rk p), vI V.length] [] (hp L σ) Q := by
  intro V
  induction V with
  | nil =>
    intro jj U σ hl hb hR K hi
    have hl : rowOK σ rt 300 (jj :: (U ++ W)) := hl
    have hb : rowOK σ 32 300 ((jj :: (U ++ W)).map rk) := hb
    have hR : R = p :: (U ++ W) := hR
    refine r_iload c_67_29 rfl <| r_if_le c_67_31 (fun h31 => ?_) <| (fun h31 => ?_)
    · refine r_aload_n c_67_95 rfl <| r_iload c_67_96 rfl <| r_iload_n c_67_98 rfl <| r_cV2 c_67_99 hrt.1 (Nat.le_of_ble_eq_true rfl) <| ?_
      refine ct_put (j := 0) hrt hl (by simp) p (fun σ1 hl1 hf1 => ?_)
      refine r_aload_n c_67_102 rfl <| r_getf_a c_67_103 rfl rfl <| r_iload c_67_106 rfl <| r_iload c_67_108 rfl <| r_cV2 c_67_110 rfl (Nat.le_of_ble_eq_true rfl) <| ?_
      refine ct_put (j := 0) row32 (hb.fr2 hf1 (by omega)) (by simp) (rk p) (fun σ2 hl2 hf2 => ?_)
      refine r_iinc_6_2 c_67_113 rfl (by omega) <| r_goto c_67_116 <| ?_
      exact K σ2 _ (by rw [hR]; exact hl1.fr2 hf2 (by omega)) (by rw [hR]; exact hl2) ((hf1.cf (by simp) (by simp)).tr (hf2.cf (by simp) (by simp)))
    · refine r_iload c_67_34 rfl <| r_if_le c_67_36 (fun h36 => ?_) <| (fun h36 => ?_)
      · refine r_aload_n c_67_95 rfl <| r_iload c_67_96 rfl <| r_iload_n c_67_98 rfl <| r_cV2 c_67_99 hrt.1 (Nat.le_of_ble_eq_true rfl) <| ?_
        refine ct_put (j := 0) hrt hl (by simp) p (fun σ1 hl1 hf1 => ?_)
        refine r_aload_n c_67_102 rfl <| r_getf_a c_67_103 rfl rfl <| r_iload c_67_106 rfl <| r_iload c_67_108 rfl <| r_cV2 c_67_110 rfl (Nat.le_of_ble_eq_true rfl) <| ?_
        refine ct_put (j := 0) row32 (hb.fr2 hf1 (by omega)) (by simp) (rk p) (fun σ2 hl2 hf2 => ?_)
        refine r_iinc_6_2 c_67_113 rfl (by omega) <| r_goto c_67_116 <| ?_
        exact K σ2 _ (by rw [hR]; exact hl1.fr2 hf2 (by omega)) (by rw [hR]; exact hl2) ((hf1.cf (by simp) (by simp)).tr (hf2.cf (by simp) (by simp)))
      · exact absurd h36 (by simp)
  | cons q V ih =>
    intro jj U σ hl hb hR K hi
    have el : (q :: V).reverse ++ jj :: (U ++ W) = V.reverse ++ q :: jj :: (U ++ W) := by simp
    rw [el] at hl hb
    have hlen := hl.2.1
    have hvl : V.length + 1 < (V.reverse ++ q :: jj :: (U ++ W)).length := by simp only [List.length_append, List.length_reverse, List.length_cons]; omega
    have g1 : (V.reverse ++ q :: jj :: (U ++ W)).getD V.length 0 = q := gd_at (by simp)
    have g2 : ((V.reverse ++ q :: jj :: (U ++ W)).map rk).getD V.length 0 = rk q := by rw [List.map_append, List.map_cons]; exact gd_at (by simp)
    have s1 : ∀ z, (V.reverse ++ q :: jj :: (U ++ W)).set (V.length + 1) z = V.reverse ++ q :: z :: (U ++ W) := fun z => by
      have := set_at (A := V.reverse ++ [q]) (B := U ++ W) (y := jj) (z := z) (n := V.length + 1) (by simp)
      simpa using this
    have s2 : ∀ z, ((V.reverse ++ q :: jj :: (U ++ W)).map rk).set (V.length + 1) (rk z) = (V.reverse ++ q :: z :: (U ++ W)).map rk := fun z => by rw [← s1 z, List.map_set]
    have hmap : ((V.reverse ++ q :: jj :: (U ++ W)).map rk).length = (V.reverse ++ q :: jj :: (U ++ W)).length := List.length_map _
    have XS : ¬ (0 < rk p ∧ rk p < rk q) → mm_X 67 95 [vP 30, vP rt, vI i, vI p, vI (rk p), vI ((V.length + 1 : Nat) : Int)] [] (hp L σ) Q := by
      intro hno
      have hR : R = V.reverse ++ q :: p :: (U ++ W) := by rw [hR]; simp only [insR]; rw [if_neg hno]; simp
      refine r_aload_n c_67_95 rfl <| r_iload c_67_96 rfl <| r_iload_n c_67_98 rfl <| r_cV2 c_67_99 hrt.1 (Nat.le_of_ble_eq_true rfl) <| ?_
      refine ct_put (j := V.length + 1) hrt hl hvl p (fun σ1 hl1 hf1 => ?_)
      refine r_aload_n c_67_102 rfl <| r_getf_a c_67_103 rfl rfl <| r_iload c_67_106 rfl <| r_iload c_67_108 rfl <| r_cV2 c_67_110 rfl (Nat.le_of_ble_eq_true rfl) <| ?_
      refine ct_put (j := V.length + 1) row32 (hb.fr2 hf1 (by omega)) (by rw [hmap]; exact hvl) (rk p) (fun σ2 hl2 hf2 => ?_)
      refine r_iinc_6_2 c_67_113 rfl (by omega) <| r_goto c_67_116 <| ?_
      exact K σ2 _ (by rw [hR, ← s1]; exact hl1.fr2 hf2 (by omega)) (by rw [hR, ← s2]; exact hl2) ((hf1.cf (by simp) (by simp)).tr (hf2.cf (by simp) (by simp)))
    show mm_X 67 29 [vP 30, vP rt, vI i, vI p, vI (rk p), vI ((V.length + 1 : Nat) : Int)] [] (hp L σ) Q
    refine r_iload c_67_29 rfl <| r_if_le c_67_31 (fun h31 => ?_) <| (fun h31 => ?_)
    · first | exact XS (by omega) | exact absurd h36 (by omega)
    · refine r_iload c_67_34 rfl <| r_if_le c_67_36 (fun h36 => ?_) <| (fun h36 => ?_)
      · first | exact XS (by omega) | exact absurd h36 (by omega)
      · refine r_aload_n c_67_39 rfl <| r_getf_a c_67_40 rfl rfl <| r_iload c_67_43 rfl <| r_iconst c_67_45 <| r_isub c_67_46 (by omega) <| r_cV1 c_67_47 rfl (Nat.le_of_ble_eq_true rfl) <| ?_
        rw [cast_sub1]
        refine ct_atn row32 hb (by omega) ?_
        rw [g2]
        refine r_iload c_67_50 rfl <| r_icmp_le c_67_52 (fun h52 => ?_) <| (fun h52 => ?_)
        · first | exact XS (by omega) | exact absurd h36 (by omega)
        · refine r_aload_n c_67_55 rfl <| r_iload c_67_56 rfl <| r_aload_n c_67_58 rfl <| r_iload c_67_59 rfl <| r_iconst c_67_61 <| r_isub c_67_62 (by omega) <| r_cV1 c_67_63 hrt.1 (Nat.le_of_ble_eq_true rfl) <| ?_
          rw [cast_sub1]
          refine ct_atn hrt hl (by omega) ?_
          rw [g1]
          refine r_cV2 c_67_66 hrt.1 (Nat.le_of_ble_eq_true rfl) <| ?_
          refine ct_put (j := V.length + 1) hrt hl hvl q (fun σ1 hl1 hf1 => ?_)
          refine r_aload_n c_67_69 rfl <| r_getf_a c_67_70 rfl rfl <| r_iload c_67_73 rfl <| r_aload_n c_67_75 rfl <| r_getf_a c_67_76 rfl rfl <| r_iload c_67_79 rfl <| r_iconst c_67_81 <| r_isub c_67_82 (by omega) <| r_cV1 c_67_83 rfl (Nat.le_of_ble_eq_true rfl) <| ?_
          have hb1 := hb.fr2 hf1 (by omega)
          rw [cast_sub1]
          refine ct_atn row32 hb1 (by omega) ?_
          rw [g2]
          refine r_cV2 c_67_86 rfl (Nat.le_of_ble_eq_true rfl) <| ?_
          refine ct_put (j := V.length + 1) row32 hb1 (by rw [hmap]; exact hvl) (rk q) (fun σ2 hl2 hf2 => ?_)
          refine r_iinc_6_5 c_67_89 rfl (by omega) <| r_goto c_67_92 <| ?_
          rw [show ((V.length + 1 : Nat) : Int) + -1 = (V.length : Int) by omega]
          have hcf : cf [32, 33, rt, rt + 1] σ σ2 := (hf1.cf (by simp) (by simp)).tr (hf2.cf (by simp) (by simp))
          refine ih q (q :: U) σ2 ?_ ?_ ?_ (fun σ3 a5 r1 r2 r3 => K σ3 a5 r1 r2 (hcf.tr r3)) hi
          · rw [s1] at hl1; exact hl1.fr2 hf2 (by omega)
          · rw [s2] at hl2; exact hl2
          · rw [hR]; simp only [insR]; rw [if_pos ⟨by omega, by omega⟩]; simp
theorem lp_sort {rt : Nat} {rk : Int → Int} {l : List Int} (hrt : isRow L rt 300) (hd : rt + 1 < 11 ∨ 33 < rt) (Q : Option mm_V → mm_H → Prop) : ∀ (k i : Nat) (σ : mk_S) (a3 a4 a5 : mm_V), l.length + 2 ≤ i + k → 1 ≤ i → (i ≤ l.length ∨ i = 1) → rowOK σ rt 300 (srt rk (l.take i) ++ l.drop i) → rowOK σ 32 300 ((srt rk (l.take i) ++ l.drop i).map rk) →
    (∀ σ', rowOK σ' rt 300 (srt rk l) → rowOK σ' 32 300 ((srt rk l).map rk) → cf [32, 33, rt, rt + 1] σ σ' → Q none (hp L σ')) → mm_X 67 2 [vP 30, vP rt, vI i, a3, a4, a5] [] (hp L σ) Q := by
  intro k
  induction k with
  | zero => intro i σ a3 a4 a5 h1 h2 h3; omega
  | succ k ih =>
    intro i σ a3 a4 a5 hk hi1 hi2 hl hb K
    have hlen := hl.2.1
    have hCl : (srt rk (l.take i) ++ l.drop i).length = l.length := by rw [List.length_append, srt_len, List.length_take, List.length_drop]; omega
    have hV : i ≤ l.length → (srtR rk (l.take i)).length = i := fun h => by rw [srtR_len, List.length_take]; omega
    refine r_iload_n c_67_2 rfl <| r_aload_n c_67_3 rfl <| r_cV0 c_67_4 hrt.1 (Nat.le_of_ble_eq_true rfl) <| ?_
    refine ct_size hrt hl ?_
    refine r_icmp_ge c_67_7 (fun h7 => ?_) <| (fun h7 => ?_)
    · refine r_ret c_67_119 <| ?_
      have e : srt rk (l.take i) ++ l.drop i = srt rk l := by rw [List.take_of_length_le (by omega), List.drop_of_length_le (by omega), List.append_nil]
      rw [e] at hl hb
      exact K σ hl hb cf.rf
    · have hil : i < l.length := by omega
      have eC : srt rk (l.take i) ++ l.drop i = (srtR rk (l.take i)).reverse ++ l.getD i 0 :: ([] ++ l.drop (i + 1)) := by rw [drop_at hil]; rfl
      rw [eC] at hl hb
      have hVl := hV (by omega)
      have g1 : ((srtR rk (l.take i)).reverse ++ l.getD i 0 :: ([] ++ l.drop (i + 1))).getD i 0 = l.getD i 0 := gd_at (by simp [hVl])
      have g2 : (((srtR rk (l.take i)).reverse ++ l.getD i 0 :: ([] ++ l.drop (i + 1))).map rk).getD i 0 = rk (l.getD i 0) := by rw [List.map_append, List.map_cons]; exact gd_at (by simp [hVl])
      have hlt : i < ((srtR rk (l.take i)).reverse ++ l.getD i 0 :: ([] ++ l.drop (i + 1))).length := by rw [← eC, hCl]; exact hil
      refine r_aload_n c_67_10 rfl <| r_iload_n c_67_11 rfl <| r_cV1 c_67_12 hrt.1 (Nat.le_of_ble_eq_true rfl) <| ?_
      refine ct_atn hrt hl hlt ?_
      rw [g1]
      refine r_istore_n_6_3 c_67_15 rfl <| r_aload_n c_67_16 rfl <| r_getf_a c_67_17 rfl rfl <| r_iload_n c_67_20 rfl <| r_cV1 c_67_21 rfl (Nat.le_of_ble_eq_true rfl) <| ?_
      refine ct_atn row32 hb (by rw [List.length_map]; exact hlt) ?_
      rw [g2]
      refine r_istore_6_4 c_67_24 rfl <| r_iload_n c_67_26 rfl <| r_istore_6_5 c_67_27 rfl <| ?_
      have e9 : ((i : Nat) : Int) = (((srtR rk (l.take i)).length : Nat) : Int) := by rw [hVl]
      have et : l.take (i + 1) = l.take i ++ [l.getD i 0] := by
        have := sg_snoc (l := l) (a := 0) (b := i) (Nat.zero_le _) hil
        simpa [sg] using this
      have key := lp_sortIn (L := L) (rk := rk) (p := l.getD i 0) (i := i) (W := l.drop (i + 1)) (R := srt rk (l.take (i + 1)) ++ l.drop (i + 1)) hrt hd Q (srtR rk (l.take i)) (l.getD i 0) [] σ hl hb (by rw [et]; unfold srt; rw [srtR_snoc]; rfl) (fun σ' a5 r1 r2 r3 => ih (i + 1) σ' _ _ _ (by omega) (by omega) (by omega) r1 r2 (fun σ2 q1 q2 q3 => K σ2 q1 q2 (r3.tr q3))) (by omega)
      rw [hVl] at key
      exact key
theorem ct_sort {σ : mk_S} {rt : Nat} {rk : Int → Int} {l : List Int} {Q : Option mm_V → mm_H → Prop} (hrt : isRow L rt 300) (hd : rt + 1 < 11 ∨ 33 < rt) (hl : rowOK σ rt 300 l) (hb : rowOK σ 32 300 (l.map rk)) (k : ∀ σ', rowOK σ' rt 300 (srt rk l) → rowOK σ' 32 300 ((srt rk l).map rk) → cf [32, 33, rt, rt + 1] σ σ' → Q none (hp L σ')) : mm_call 67 [vP 30, vP rt] (hp L σ) Q := by
  have e : srt rk (l.take 1) ++ l.drop 1 = l := by
    cases l with
    | nil => rfl
    | cons a l => rfl
  refine ⟨Nat.le_of_ble_eq_true rfl, ?_⟩
  show mm_X 67 0 [vP 30, vP rt, mm_null, mm_null, mm_null, mm_null] [] _ _
  refine r_iconst c_67_0 <| r_istore_n_6_2 c_67_1 rfl <| ?_
  exact lp_sort hrt hd Q (l.length + 1) 1 σ _ _ _ (by omega) (by omega) (by omega) (by rw [e]; exact hl) (by rw [e]; exact hb) k
theorem lp_apart {rf nf rt : Nat} {lf : List Int} (hO : TOK T) (hrf : isRow L rf nf) (hrt : isRow L rt 300) (hd : rt + 1 < 11 ∨ 33 < rt) (hdf : rf + 1 < 11 ∨ 33 < rf) (hne : rf ≠ rt ∧ rf ≠ rt + 1 ∧ rf + 1 ≠ rt) : ∀ (k i : Nat) (l : List Int) (σ : mk_S) (a4 : mm_V) (Q : Option mm_V → mm_H → Prop), lf.length + 1 ≤ i + k → i ≤ lf.length → TC σ T → rowOK σ rf nf lf → rowOK σ rt 300 l → exL T lf = l ++ exL T (lf.drop i) →
    ((exL T lf).length ≤ 300 → ∀ σ', rowOK σ' rt 300 (ap T lf) → rowOK σ' 32 300 ((ap T lf).map (rkO T)) → cf [31, 32, 33, rt, rt + 1] σ σ' → Q (some (vI 1)) (hp L σ')) → (300 < (exL T lf).length → ∀ σ', cf [31, 32, 33, rt, rt + 1] σ σ' → Q (some (vI 0)) (hp L σ')) →
    mm_X 58 6 [vP 30, vP rf, vP rt, vI i, a4] [] (hp L σ) Q := by
  intro k
  induction k with
  | zero => intro i l σ a4 Q h1 h2; omega
  | succ k ih =>
    intro i l σ a4 Q hk hi hC hf hl hR k1 k0
    have hnf := hrf.2.2
    have hle := hf.2.1
    have hstep : i < lf.length → exL T lf = (l ++ ex T (lf.getD i 0)) ++ exL T (lf.drop (i + 1)) := fun h => by rw [hR, drop_at h]; simp [exL]
    refine r_iload_n c_58_6 rfl <| r_aload_n c_58_7 rfl <| r_cV0 c_58_8 hrf.1 (Nat.le_of_ble_eq_true rfl) <| ?_
    refine ct_size hrf hf ?_
    refine r_icmp_ge c_58_11 (fun h11 => ?_) <| (fun h11 => ?_)
    · refine r_aload_n c_58_59 rfl <| r_getf_a c_58_60 rfl rfl <| r_aload_n c_58_63 rfl <| r_aload_n c_58_64 rfl <| r_getf_a c_58_65 rfl rfl <| r_cV2 c_58_68 rfl (Nat.le_of_ble_eq_true rfl) <| ?_
      have hR : exL T lf = l := by rw [hR, List.drop_of_length_le (by omega)]; simp [exL]
      have hl3 := hl.2.1
      refine ct_takeAll hC hO hrt hd hl (fun σ1 hb1 hf1 => ?_)
      refine r_aload_n c_58_71 rfl <| r_aload_n c_58_72 rfl <| r_cV1 c_58_73 rfl (Nat.le_of_ble_eq_true rfl) <| ?_
      refine ct_sort hrt hd (hl.fr2 hf1 (by omega)) hb1 (fun σ2 hl2 hb2 hf2 => ?_)
      refine r_iconst c_58_76 <| r_zret c_58_77 (Or.inr rfl) <| ?_
      refine k1 (by rw [hR]; exact hl3) σ2 ?_ ?_ ((hf1.cf (by simp) (by simp)).tr (hf2.up (by simp)))
      · unfold ap; rw [hR]; exact hl2
      · unfold ap; rw [hR]; exact hb2
    · refine r_aload_n c_58_14 rfl <| r_iload_n c_58_15 rfl <| r_cV1 c_58_16 hrf.1 (Nat.le_of_ble_eq_true rfl) <| ?_
      have hstep := hstep (by omega)
      refine ct_atn hrf hf (by omega) ?_
      generalize lf.getD i 0 = p at hstep
      refine r_istore_5_4 c_58_19 rfl <| r_iload c_58_21 rfl <| r_cS1 c_58_23 (Nat.le_of_ble_eq_true rfl) <| ?_
      refine ct_syl _ (fun h23 => ?_) (fun h23 => ?_)
      · refine r_if_eq c_58_26 (fun h => absurd h (by decide)) <| (fun _ => ?_)
        rw [ex_syl h23] at hstep
        refine r_iload c_58_29 rfl <| r_aload_n c_58_31 rfl <| r_cS2 c_58_32 (Nat.le_of_ble_eq_true rfl) <| ?_
        refine ct_appSyl hrt h23 hl (fun hlen σ1 hl1 hf1 => ?_) (fun hlen σ1 hf1 => ?_)
        · refine r_if_eq c_58_35 (fun h => absurd h (by decide)) <| (fun _ => ?_)
          refine r_goto c_58_38 <| r_iinc_5_3 c_58_53 rfl (by omega) <| r_goto c_58_56 <| ?_
          have hcf : cf [31, 32, 33, rt, rt + 1] σ σ1 := by first | exact hf1.cf (by simp) (by simp) | exact hf1.up (by simp)
          refine ih (i + 1) _ σ1 _ Q (by omega) (by omega) (hC.cf hcf (fun a ha => by simp at ha; omega)) (hf.cf hcf (by simp; omega) (by simp; omega)) hl1 hstep (fun h9 σ2 g1 g2 g3 => k1 h9 σ2 g1 g2 (hcf.tr g3)) (fun h9 σ2 g3 => k0 h9 σ2 (hcf.tr g3))
        · refine r_if_eq c_58_35 (fun _ => ?_) <| (fun h => absurd h (by decide))
          refine r_iconst c_58_51 <| r_zret c_58_52 (Or.inl rfl) <| ?_
          first
          | exact k0 (by rw [hstep, List.length_append]; omega) σ1 (hf1.cf (by simp) (by simp))
          | exact k0 (by rw [hstep, List.length_append]; omega) σ1 (hf1.up (by simp))
      · refine r_if_eq c_58_26 (fun _ => ?_) <| (fun h => absurd h (by decide))
        refine r_aload_n c_58_41 rfl <| r_iload c_58_42 rfl <| r_aload_n c_58_44 rfl <| r_cV2 c_58_45 rfl (Nat.le_of_ble_eq_true rfl) <| ?_
        refine ct_appParts hC hO hrt hd h23 hl (fun hlen σ1 hl1 hf1 => ?_) (fun hlen σ1 hf1 => ?_)
        · refine r_if_ne c_58_48 (fun _ => ?_) <| (fun h => absurd h (by decide))
          refine r_iinc_5_3 c_58_53 rfl (by omega) <| r_goto c_58_56 <| ?_
          have hcf : cf [31, 32, 33, rt, rt + 1] σ σ1 := by first | exact hf1.cf (by simp) (by simp) | exact hf1.up (by simp)
          refine ih (i + 1) _ σ1 _ Q (by omega) (by omega) (hC.cf hcf (fun a ha => by simp at ha; omega)) (hf.cf hcf (by simp; omega) (by simp; omega)) hl1 hstep (fun h9 σ2 g1 g2 g3 => k1 h9 σ2 g1 g2 (hcf.tr g3)) (fun h9 σ2 g3 => k0 h9 σ2 (hcf.tr g3))
        · refine r_if_ne c_58_48 (fun h => absurd h (by decide)) <| (fun _ => ?_)
          refine r_iconst c_58_51 <| r_zret c_58_52 (Or.inl rfl) <| ?_
          first
          | exact k0 (by rw [hstep, List.length_append]; omega) σ1 (hf1.cf (by simp) (by simp))
          | exact k0 (by rw [hstep, List.length_append]; omega) σ1 (hf1.up (by simp))
theorem ct_apart {σ : mk_S} {rf nf rt : Nat} {lf : List Int} {Q : Option mm_V → mm_H → Prop} (hC : TC σ T) (hO : TOK T) (hrf : isRow L rf nf) (hrt : isRow L rt 300) (hd : rt + 1 < 11 ∨ 33 < rt) (hdf : rf + 1 < 11 ∨ 33 < rf) (hne : rf ≠ rt ∧ rf ≠ rt + 1 ∧ rf + 1 ≠ rt) (hf : rowOK σ rf nf lf)
    (k1 : (exL T lf).length ≤ 300 → ∀ σ', rowOK σ' rt 300 (ap T lf) → rowOK σ' 32 300 ((ap T lf).map (rkO T)) → cf [31, 32, 33, rt, rt + 1] σ σ' → Q (some (vI 1)) (hp L σ')) (k0 : 300 < (exL T lf).length → ∀ σ', cf [31, 32, 33, rt, rt + 1] σ σ' → Q (some (vI 0)) (hp L σ')) : mm_call 58 [vP 30, vP rf, vP rt] (hp L σ) Q := by
  refine ⟨Nat.le_of_ble_eq_true rfl, ?_⟩
  show mm_X 58 0 [vP 30, vP rf, vP rt, mm_null, mm_null] [] _ _
  refine r_aload_n c_58_0 rfl <| r_cV0 c_58_1 hrt.1 (Nat.le_of_ble_eq_true rfl) <| ?_
  refine ct_clear hrt (fun σ1 hl1 hf1 => ?_)
  refine r_iconst c_58_4 <| r_istore_n_5_3 c_58_5 rfl <| ?_
  have hcf : cf [31, 32, 33, rt, rt + 1] σ σ1 := hf1.cf (by simp) (by simp)
  exact lp_apart hO hrf hrt hd hdf hne (lf.length + 1) 0 [] σ1 _ Q (by omega) (by omega) (hC.cf hcf (fun a ha => by simp at ha; omega)) (hf.fr2 hf1 (by omega)) hl1 (by simp) (fun h9 σ2 g1 g2 g3 => k1 h9 σ2 g1 g2 (hcf.tr g3)) (fun h9 σ2 g3 => k0 h9 σ2 (hcf.tr g3))
end CSORT
