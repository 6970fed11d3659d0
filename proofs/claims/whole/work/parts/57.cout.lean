/-! MAKE: octets out. What is asked, and the class's side. -/
def ocs (p : Int) : List Int := if p < 128 then [p] else if p < 2048 then [192 + p / 64, 128 + p % 64] else if p < 65536 then [224 + p / 4096, 128 + p / 64 % 64, 128 + p % 64] else [240 + p / 262144, 128 + p / 4096 % 64, 128 + p / 64 % 64, 128 + p % 64]
def outF (F : List Int → List Int) : List (List Int) → Nat → List Int
  | [], _ => []
  | x :: xs, i => (if 0 < i then [46] else []) ++ (F x ++ outF F xs (i + 1))
def wdN (x : List Int) : List Int := x.flatMap ocs
def plN (x : List Int) : List Int := if wdF x = false then x else [120, 110, 45, 45] ++ enc x
theorem ocs_len (p : Int) : (ocs p).length ≤ 4 ∧ 1 ≤ (ocs p).length := by unfold ocs; (repeat' split) <;> simp
theorem ocs_oct {p : Int} (h : isPt p) : ∀ y, y ∈ ocs p → 0 ≤ y ∧ y ≤ 255 := by
  intro y hy
  unfold ocs at hy
  unfold isPt at h
  (repeat' split at hy) <;> simp only [List.mem_cons, List.not_mem_nil, or_false] at hy <;> omega
theorem outF_snoc (F : List Int → List Int) : ∀ (l : List (List Int)) (x : List Int) (i : Nat), outF F (l ++ [x]) i = outF F l i ++ ((if 0 < i + l.length then [46] else []) ++ F x)
  | [], x, i => by simp only [List.nil_append, outF, List.length_nil, Nat.add_zero, List.append_nil]
  | y :: ys, x, i => by
    simp only [List.cons_append, outF, List.length_cons]
    rw [outF_snoc F ys x (i + 1), show i + 1 + ys.length = i + (ys.length + 1) by omega]
    simp only [List.append_assoc]
theorem tks_at {ls : List (List Int)} {i : Nat} (h : i < ls.length) : ls.take (i + 1) = ls.take i ++ [ls.getD i []] := by
  rw [List.take_succ, List.getElem?_eq_getElem h, List.getD_eq_getElem?_getD, List.getElem?_eq_getElem h]; rfl
theorem wdN_len : ∀ x : List Int, (wdN x).length ≤ 4 * x.length
  | [] => by simp [wdN]
  | p :: ps => by
    have := wdN_len ps
    have := ocs_len p
    unfold wdN at *
    simp only [List.flatMap_cons, List.length_append, List.length_cons]; omega
theorem outW_len : ∀ (l : List (List Int)) (i : Nat), (outF wdN l i).length ≤ 4 * l.flatten.length + l.length
  | [], i => by simp [outF]
  | x :: xs, i => by
    have h1 := outW_len xs (i + 1)
    have h2 := wdN_len x
    have h3 : (if 0 < i then [46] else ([] : List Int)).length ≤ 1 := by split <;> simp
    simp only [outF, List.length_append, List.flatten_cons, List.length_cons]; omega
theorem outW_len0 (l : List (List Int)) : (outF wdN l 0).length ≤ 4 * l.flatten.length + (l.length - 1) := by
  cases l with
  | nil => simp [outF]
  | cons x xs =>
    have h1 := outW_len xs 1
    have h2 := wdN_len x
    simp only [outF, List.length_append, List.flatten_cons, List.length_cons]
    rw [if_neg (by omega)]
    simp only [List.length_nil, Nat.zero_add] at h1 ⊢; omega
section COUT
variable {L : Nat} {T : mk_S}
theorem ct_app1 {σ : mk_S} {l : List Int} {Q : Option mm_V → mm_H → Prop} (hl : rowOK σ 51 1200 l) (z : Int) (h : l.length < 1200) (k : ∀ σ', rowOK σ' 51 1200 (l ++ [z]) → fr2 51 σ σ' → Q (some (vI 1)) (hp L σ')) : mm_call 14 [vP 51, vI z] (hp L σ) Q :=
  ct_append row51 hl z (fun _ => k) (fun e => absurd e (by omega))
theorem ct_putF {σ : mk_S} {l : List Int} {Q : Option mm_V → mm_H → Prop} (hl : rowOK σ 51 1200 l) (p : Int) (hp0 : 0 ≤ p) (h : l.length < 1200) (k : ∀ σ', rowOK σ' 51 1200 (l ++ [128 + p % 64]) → fr2 51 σ σ' → Q (some (vI 1)) (hp L σ')) : mm_call 127 [vI p, vP 51] (hp L σ) Q := by
  refine ⟨Nat.le_of_ble_eq_true rfl, ?_⟩
  show mm_X 127 0 [vI p, vP 51] [] _ _
  refine r_aload_n c_127_0 rfl <| r_sipush c_127_1 <| r_iload_n c_127_4 rfl <| r_bipush c_127_5 <| r_irem c_127_7 (by omega) (by omega) <| r_iadd c_127_8 (by omega) <| r_cV1 c_127_9 rfl (Nat.le_of_ble_eq_true rfl) <| ?_
  refine ct_app1 hl _ h (fun σ1 hl1 hf1 => ?_)
  refine r_zret c_127_12 (by omega) <| ?_
  exact k σ1 hl1 hf1
theorem ct_putOut {σ : mk_S} {l : List Int} {Q : Option mm_V → mm_H → Prop} (hl : rowOK σ 51 1200 l) (p : Int) (hpt : isPt p) (h : (l ++ ocs p).length ≤ 1200) (k : ∀ σ', rowOK σ' 51 1200 (l ++ ocs p) → fr2 51 σ σ' → Q (some (vI 1)) (hp L σ')) : mm_call 126 [vI p, vP 51] (hp L σ) Q := by
  unfold isPt at hpt
  unfold ocs at k h
  refine ⟨Nat.le_of_ble_eq_true rfl, ?_⟩
  show mm_X 126 0 [vI p, vP 51] [] _ _
  refine r_iload_n c_126_0 rfl <| r_sipush c_126_1 <| r_icmp_ge c_126_4 (fun h4 => ?_) <| (fun h4 => ?_)
  · rw [if_neg (by omega)] at k h
    refine r_iload_n c_126_13 rfl <| r_sipush c_126_14 <| r_icmp_ge c_126_17 (fun h17 => ?_) <| (fun h17 => ?_)
    · rw [if_neg (by omega)] at k h
      refine r_iload_n c_126_49 rfl <| r_ldc c_126_50 <| r_icmp_ge c_126_52 (fun h52 => ?_) <| (fun h52 => ?_)
      · rw [if_neg (by omega)] at k h
        simp only [List.length_append, List.length_cons, List.length_nil] at h
        refine r_aload_n c_126_96 rfl <| r_sipush c_126_97 <| r_iload_n c_126_100 rfl <| r_ldc c_126_101 <| r_idiv c_126_103 (by omega) (by omega) <| r_iadd c_126_104 (by omega) <| r_cV1 c_126_105 rfl (Nat.le_of_ble_eq_true rfl) <| ?_
        refine ct_app1 hl _ (by omega) (fun σ1 hl1 hf1 => ?_)
        refine r_if_eq c_126_108 (fun h => absurd h (by decide)) <| (fun _ => ?_)
        refine r_iload_n c_126_111 rfl <| r_sipush c_126_112 <| r_idiv c_126_115 (by omega) (by omega) <| r_aload_n c_126_116 rfl <| r_cS2 c_126_117 (Nat.le_of_ble_eq_true rfl) <| ?_
        refine ct_putF hl1 (p / 4096) (by omega) (by simp only [List.length_append, List.length_cons, List.length_nil]; omega) (fun σ2 hl2 hf2 => ?_)
        refine r_if_eq c_126_120 (fun h => absurd h (by decide)) <| (fun _ => ?_)
        refine r_iload_n c_126_123 rfl <| r_bipush c_126_124 <| r_idiv c_126_126 (by omega) (by omega) <| r_aload_n c_126_127 rfl <| r_cS2 c_126_128 (Nat.le_of_ble_eq_true rfl) <| ?_
        refine ct_putF hl2 (p / 64) (by omega) (by simp only [List.length_append, List.length_cons, List.length_nil]; omega) (fun σ3 hl3 hf3 => ?_)
        refine r_if_eq c_126_131 (fun h => absurd h (by decide)) <| (fun _ => ?_)
        refine r_iload_n c_126_134 rfl <| r_aload_n c_126_135 rfl <| r_cS2 c_126_136 (Nat.le_of_ble_eq_true rfl) <| ?_
        refine ct_putF hl3 p (by omega) (by simp only [List.length_append, List.length_cons, List.length_nil]; omega) (fun σ4 hl4 hf4 => ?_)
        refine r_if_eq c_126_139 (fun h => absurd h (by decide)) <| (fun _ => ?_)
        refine r_iconst c_126_142 <| r_goto c_126_143 <| r_zret c_126_147 (Or.inr rfl) <| ?_
        exact k σ4 (by simpa using hl4) (((hf1.tr hf2).tr hf3).tr hf4)
      · rw [if_pos (by omega)] at k h
        simp only [List.length_append, List.length_cons, List.length_nil] at h
        refine r_aload_n c_126_55 rfl <| r_sipush c_126_56 <| r_iload_n c_126_59 rfl <| r_sipush c_126_60 <| r_idiv c_126_63 (by omega) (by omega) <| r_iadd c_126_64 (by omega) <| r_cV1 c_126_65 rfl (Nat.le_of_ble_eq_true rfl) <| ?_
        refine ct_app1 hl _ (by omega) (fun σ1 hl1 hf1 => ?_)
        refine r_if_eq c_126_68 (fun h => absurd h (by decide)) <| (fun _ => ?_)
        refine r_iload_n c_126_71 rfl <| r_bipush c_126_72 <| r_idiv c_126_74 (by omega) (by omega) <| r_aload_n c_126_75 rfl <| r_cS2 c_126_76 (Nat.le_of_ble_eq_true rfl) <| ?_
        refine ct_putF hl1 (p / 64) (by omega) (by simp only [List.length_append, List.length_cons, List.length_nil]; omega) (fun σ2 hl2 hf2 => ?_)
        refine r_if_eq c_126_79 (fun h => absurd h (by decide)) <| (fun _ => ?_)
        refine r_iload_n c_126_82 rfl <| r_aload_n c_126_83 rfl <| r_cS2 c_126_84 (Nat.le_of_ble_eq_true rfl) <| ?_
        refine ct_putF hl2 p (by omega) (by simp only [List.length_append, List.length_cons, List.length_nil]; omega) (fun σ3 hl3 hf3 => ?_)
        refine r_if_eq c_126_87 (fun h => absurd h (by decide)) <| (fun _ => ?_)
        refine r_iconst c_126_90 <| r_goto c_126_91 <| r_zret c_126_95 (Or.inr rfl) <| ?_
        exact k σ3 (by simpa using hl3) ((hf1.tr hf2).tr hf3)
    · rw [if_pos (by omega)] at k h
      simp only [List.length_append, List.length_cons, List.length_nil] at h
      refine r_aload_n c_126_20 rfl <| r_sipush c_126_21 <| r_iload_n c_126_24 rfl <| r_bipush c_126_25 <| r_idiv c_126_27 (by omega) (by omega) <| r_iadd c_126_28 (by omega) <| r_cV1 c_126_29 rfl (Nat.le_of_ble_eq_true rfl) <| ?_
      refine ct_app1 hl _ (by omega) (fun σ1 hl1 hf1 => ?_)
      refine r_if_eq c_126_32 (fun h => absurd h (by decide)) <| (fun _ => ?_)
      refine r_iload_n c_126_35 rfl <| r_aload_n c_126_36 rfl <| r_cS2 c_126_37 (Nat.le_of_ble_eq_true rfl) <| ?_
      refine ct_putF hl1 p (by omega) (by simp only [List.length_append, List.length_cons, List.length_nil]; omega) (fun σ2 hl2 hf2 => ?_)
      refine r_if_eq c_126_40 (fun h => absurd h (by decide)) <| (fun _ => ?_)
      refine r_iconst c_126_43 <| r_goto c_126_44 <| r_zret c_126_48 (Or.inr rfl) <| ?_
      exact k σ2 (by simpa using hl2) (hf1.tr hf2)
  · rw [if_pos (by omega)] at k h
    simp only [List.length_append, List.length_cons, List.length_nil] at h
    refine r_aload_n c_126_7 rfl <| r_iload_n c_126_8 rfl <| r_cV1 c_126_9 rfl (Nat.le_of_ble_eq_true rfl) <| ?_
    refine ct_app1 hl _ (by omega) (fun σ1 hl1 hf1 => ?_)
    refine r_zret c_126_12 (by omega) <| ?_
    exact k σ1 hl1 hf1
theorem lp_wwi {ls : List (List Int)} {i : Nat} (hpl : ∀ y, y ∈ ls → pts y) (hi : i < ls.length) : ∀ (k j : Nat) (o : List Int) (σ : mk_S) (Q : Option mm_V → mm_H → Prop), j + k = (ls.getD i []).length → lbs σ ls → rowOK σ 51 1200 o → (o ++ wdN ((ls.getD i []).drop j)).length ≤ 1200 →
    (∀ σ', rowOK σ' 51 1200 (o ++ wdN ((ls.getD i []).drop j)) → fr2 51 σ σ' → mm_X 125 73 [vP 34, vI (i : Nat), vI ((ofs ls (i + 1) : Nat) : Int)] [] (hp L σ') Q) →
    mm_X 125 36 [vP 34, vI (i : Nat), vI ((ofs ls i + j : Nat) : Int)] [] (hp L σ) Q := by
  intro k
  have h2 := ofs_succ hi
  have h4 := ofs_fit hi
  have hx : pts (ls.getD i []) := hpl _ (by rw [List.getD_eq_getElem?_getD, List.getElem?_eq_getElem hi]; exact List.getElem_mem hi)
  induction k with
  | zero =>
    intro j o σ Q hj hs ho hle kk
    have h3 := hs.1.2.1
    have ej : j = (ls.getD i []).length := by omega
    rw [ej, List.drop_length] at kk
    have kk := kk σ (by simpa [wdN] using ho) fr2.rf
    refine r_iload_n c_125_36 rfl <| r_aload_n c_125_37 rfl <| r_getf_a c_125_38 rfl rfl <| r_iload_n c_125_41 rfl <| r_cV1 c_125_42 rfl (Nat.le_of_ble_eq_true rfl) <| ?_
    refine ct_lend hs hi ?_
    refine r_icmp_ge c_125_45 (fun h45 => ?_) <| (fun h45 => ?_)
    · rw [show ofs ls i + j = ofs ls (i + 1) by omega]
      exact kk
    · exact absurd (show False by omega) (by decide)
  | succ k ih =>
    intro j o σ Q hj hs ho hle kk
    have h3 := hs.1.2.1
    have h5 := hs.2.2.1
    rw [drop_at (by omega)] at kk hle
    unfold wdN at kk hle
    rw [List.flatMap_cons, ← List.append_assoc] at kk hle
    have hg : ls.flatten.getD (ofs ls i + j) 0 = (ls.getD i []).getD j 0 := by rw [← sg_fl hi, sg_get (by omega)]
    have hpt := hx j (by omega)
    refine r_iload_n c_125_36 rfl <| r_aload_n c_125_37 rfl <| r_getf_a c_125_38 rfl rfl <| r_iload_n c_125_41 rfl <| r_cV1 c_125_42 rfl (Nat.le_of_ble_eq_true rfl) <| ?_
    refine ct_lend hs hi ?_
    refine r_icmp_ge c_125_45 (fun h45 => ?_) <| (fun h45 => ?_)
    · exact absurd (show False by omega) (by decide)
    · refine r_aload_n c_125_48 rfl <| r_getf_a c_125_49 rfl rfl <| r_cV0 c_125_52 rfl (Nat.le_of_ble_eq_true rfl) <| ?_
      refine ct_lpts (L := L) ?_ ⟨σ, rfl⟩
      refine r_iload_n c_125_55 rfl <| r_cV1 c_125_56 row47.1 (Nat.le_of_ble_eq_true rfl) <| ?_
      refine ct_atn row47 hs.1 (by omega) ?_; rw [hg]
      refine r_aload_n c_125_59 rfl <| r_getf_a c_125_60 rfl rfl <| r_cS2 c_125_63 (Nat.le_of_ble_eq_true rfl) <| ?_
      refine ct_putOut ho _ hpt (by simp only [List.length_append] at hle ⊢; omega) (fun σ1 hl1 hf1 => ?_)
      refine r_pop c_125_66 (v := vI _) rfl <| r_iinc_3_2 c_125_67 rfl (by omega) <| r_goto c_125_70 <| ?_
      rw [show ((ofs ls i + j : Nat) : Int) + 1 = ((ofs ls i + (j + 1) : Nat) : Int) by omega]
      exact ih (j + 1) _ σ1 Q (by omega) (hs.cf (hf1.cf (A := [51, 52]) (by decide) (by decide)) (by decide)) hl1 hle (fun σ2 w1 w2 => kk σ2 w1 (hf1.tr w2))
theorem lp_ww {ls : List (List Int)} (hpl : ∀ y, y ∈ ls → pts y) (hsz : ls.flatten.length + ls.length ≤ 301) : ∀ (k i : Nat) (a2 : mm_V) (σ : mk_S) (Q : Option mm_V → mm_H → Prop), i + k = ls.length → lbs σ ls → rowOK σ 51 1200 (outF wdN (ls.take i) 0) →
    (∀ σ', rowOK σ' 51 1200 (outF wdN ls 0) → fr2 51 σ σ' → Q (some (vI 1)) (hp L σ')) →
    mm_X 125 2 [vP 34, vI (i : Nat), a2] [] (hp L σ) Q := by
  intro k
  induction k with
  | zero =>
    intro i a2 σ Q hi hs ho kk
    have e46 := hs.2.1
    have ei : i = ls.length := by omega
    subst ei
    rw [List.take_length] at ho
    refine r_iload_n c_125_2 rfl <| r_aload_n c_125_3 rfl <| r_getf_a c_125_4 rfl rfl <| r_cV0 c_125_7 rfl (Nat.le_of_ble_eq_true rfl) <| ?_
    refine ct_count ?_; rw [e46]
    refine r_icmp_ge c_125_10 (fun h10 => ?_) <| (fun h10 => ?_)
    · refine r_iconst c_125_79 <| r_zret c_125_80 (Or.inr rfl) <| ?_
      exact kk σ ho fr2.rf
    · exact absurd h10 (by omega)
  | succ k ih =>
    intro i a2 σ Q hi hs ho kk
    have e46 := hs.2.1
    have hlt : i < ls.length := by omega
    have htk := tks_at hlt
    have hfit : (outF wdN (ls.take (i + 1)) 0).length ≤ 1200 := by
      have h1 := outW_len0 (ls.take (i + 1))
      have h2 : (ls.take (i + 1)).flatten.length = ofs ls (i + 1) := rfl
      have h3 := ofs_le (os := ls) (i := i + 1) (j := ls.length) (by omega) (Nat.le_refl _)
      rw [ofs_all] at h3
      rw [List.length_take] at h1
      omega
    have htl : (ls.take i).length = i := by rw [List.length_take]; omega
    rw [htk, outF_snoc, htl, Nat.zero_add] at hfit
    have hstep : outF wdN (ls.take (i + 1)) 0 = outF wdN (ls.take i) 0 ++ ((if 0 < i then [46] else []) ++ wdN (ls.getD i [])) := by rw [htk, outF_snoc, htl, Nat.zero_add]
    have key : ∀ σ1, lbs σ1 ls → fr2 51 σ σ1 → rowOK σ1 51 1200 (outF wdN (ls.take i) 0 ++ (if 0 < i then [46] else [])) → mm_X 125 27 [vP 34, vI (i : Nat), a2] [] (hp L σ1) Q := by
      intro σ1 g1 g2 g3
      rw [← List.append_assoc] at hfit hstep
      refine r_aload_n c_125_27 rfl <| r_getf_a c_125_28 rfl rfl <| r_iload_n c_125_31 rfl <| r_cV1 c_125_32 rfl (Nat.le_of_ble_eq_true rfl) <| ?_
      refine ct_lstart g1 (by omega) ?_
      refine r_istore_n_3_2 c_125_35 rfl <| ?_
      refine lp_wwi hpl hlt (ls.getD i []).length 0 _ σ1 Q (by omega) g1 g3 (by rw [List.drop_zero]; exact hfit) (fun σ2 w1 w2 => ?_)
      rw [List.drop_zero, ← hstep] at w1
      refine r_iinc_3_1 c_125_73 rfl (by have := hs.2.2.1; omega) <| r_goto c_125_76 <| ?_
      exact ih (i + 1) _ σ2 Q (by omega) (g1.cf (w2.cf (A := [51, 52]) (by decide) (by decide)) (by decide)) w1 (fun σ3 u1 u2 => kk σ3 u1 ((g2.tr w2).tr u2))
    refine r_iload_n c_125_2 rfl <| r_aload_n c_125_3 rfl <| r_getf_a c_125_4 rfl rfl <| r_cV0 c_125_7 rfl (Nat.le_of_ble_eq_true rfl) <| ?_
    refine ct_count ?_; rw [e46]
    refine r_icmp_ge c_125_10 (fun h10 => ?_) <| (fun h10 => ?_)
    · exact absurd h10 (by omega)
    · refine r_iload_n c_125_13 rfl <| r_if_le c_125_14 (fun h14 => ?_) <| (fun h14 => ?_)
      · first
        | exact key σ1 (hs.cf (hf1.cf (A := [51, 52]) (by decide) (by decide)) (by decide)) hf1 (by rw [if_pos (by omega)]; exact hl1)
        | exact key σ hs fr2.rf (by rw [if_neg (by omega), List.append_nil]; exact ho)
      · refine r_aload_n c_125_17 rfl <| r_getf_a c_125_18 rfl rfl <| r_bipush c_125_21 <| r_cV1 c_125_23 rfl (Nat.le_of_ble_eq_true rfl) <| ?_
        refine ct_app1 ho _ (by simp only [List.length_append] at hfit; rw [if_pos (by omega)] at hfit; simp only [List.length_cons, List.length_nil] at hfit; omega) (fun σ1 hl1 hf1 => ?_)
        refine r_pop c_125_26 (v := vI _) rfl <| ?_
        first
        | exact key σ1 (hs.cf (hf1.cf (A := [51, 52]) (by decide) (by decide)) (by decide)) hf1 (by rw [if_pos (by omega)]; exact hl1)
        | exact key σ hs fr2.rf (by rw [if_neg (by omega), List.append_nil]; exact ho)
theorem ct_ww {σ : mk_S} {ls : List (List Int)} {Q : Option mm_V → mm_H → Prop} (hpl : ∀ y, y ∈ ls → pts y) (hsz : ls.flatten.length + ls.length ≤ 301) (hs : lbs σ ls) (ho : rowOK σ 51 1200 []) (k : ∀ σ', rowOK σ' 51 1200 (outF wdN ls 0) → fr2 51 σ σ' → Q (some (vI 1)) (hp L σ')) : mm_call 125 [vP 34] (hp L σ) Q := by
  refine ⟨Nat.le_of_ble_eq_true rfl, ?_⟩
  show mm_X 125 0 [vP 34, mm_null, mm_null] [] _ _
  refine r_iconst c_125_0 <| r_istore_n_3_1 c_125_1 rfl <| ?_
  exact lp_ww hpl hsz ls.length 0 _ σ Q (by omega) hs ho k
end COUT
