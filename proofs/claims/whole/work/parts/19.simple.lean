/-! SMALL METHODS without cells: what points are, the first octets, digits. -/
theorem r_lc_eq {y pc x k t k9 : Nat} {c c2 d : Int} {pl pl2 : List Nat} {z w : Int} {ls st : List mm_V} {h : mm_H} {Q : Option mm_V → mm_H → Prop} (hc : mm_code y pc = some (.lcmp, 1, c, x, k, pl)) (hc2 : mm_code y (pc + 1) = some (.ifCond .eq d, 3, c2, t, k9, pl2)) (k1 : z = w → mm_X y t ls st h Q) (kk : z ≠ w → mm_X y (pc + 1 + 3) ls st h Q) : mm_X y pc ls (vJ w :: vJ z :: st) h Q := r_lcmp_eq (x2 := 0) hc hc2 k1 kk
theorem r_lc_ne {y pc x k t k9 : Nat} {c c2 d : Int} {pl pl2 : List Nat} {z w : Int} {ls st : List mm_V} {h : mm_H} {Q : Option mm_V → mm_H → Prop} (hc : mm_code y pc = some (.lcmp, 1, c, x, k, pl)) (hc2 : mm_code y (pc + 1) = some (.ifCond .ne d, 3, c2, t, k9, pl2)) (k1 : z ≠ w → mm_X y t ls st h Q) (kk : z = w → mm_X y (pc + 1 + 3) ls st h Q) : mm_X y pc ls (vJ w :: vJ z :: st) h Q := r_lcmp_ne (x2 := 0) hc hc2 k1 kk
theorem r_lc_lt {y pc x k t k9 : Nat} {c c2 d : Int} {pl pl2 : List Nat} {z w : Int} {ls st : List mm_V} {h : mm_H} {Q : Option mm_V → mm_H → Prop} (hc : mm_code y pc = some (.lcmp, 1, c, x, k, pl)) (hc2 : mm_code y (pc + 1) = some (.ifCond .lt d, 3, c2, t, k9, pl2)) (k1 : z < w → mm_X y t ls st h Q) (kk : w ≤ z → mm_X y (pc + 1 + 3) ls st h Q) : mm_X y pc ls (vJ w :: vJ z :: st) h Q := r_lcmp_lt (x2 := 0) hc hc2 k1 kk
theorem r_lc_ge {y pc x k t k9 : Nat} {c c2 d : Int} {pl pl2 : List Nat} {z w : Int} {ls st : List mm_V} {h : mm_H} {Q : Option mm_V → mm_H → Prop} (hc : mm_code y pc = some (.lcmp, 1, c, x, k, pl)) (hc2 : mm_code y (pc + 1) = some (.ifCond .ge d, 3, c2, t, k9, pl2)) (k1 : w ≤ z → mm_X y t ls st h Q) (kk : z < w → mm_X y (pc + 1 + 3) ls st h Q) : mm_X y pc ls (vJ w :: vJ z :: st) h Q := r_lcmp_ge (x2 := 0) hc hc2 k1 kk
theorem r_lc_gt {y pc x k t k9 : Nat} {c c2 d : Int} {pl pl2 : List Nat} {z w : Int} {ls st : List mm_V} {h : mm_H} {Q : Option mm_V → mm_H → Prop} (hc : mm_code y pc = some (.lcmp, 1, c, x, k, pl)) (hc2 : mm_code y (pc + 1) = some (.ifCond .gt d, 3, c2, t, k9, pl2)) (k1 : w < z → mm_X y t ls st h Q) (kk : z ≤ w → mm_X y (pc + 1 + 3) ls st h Q) : mm_X y pc ls (vJ w :: vJ z :: st) h Q := r_lcmp_gt (x2 := 0) hc hc2 k1 kk
theorem r_lc_le {y pc x k t k9 : Nat} {c c2 d : Int} {pl pl2 : List Nat} {z w : Int} {ls st : List mm_V} {h : mm_H} {Q : Option mm_V → mm_H → Prop} (hc : mm_code y pc = some (.lcmp, 1, c, x, k, pl)) (hc2 : mm_code y (pc + 1) = some (.ifCond .le d, 3, c2, t, k9, pl2)) (k1 : z ≤ w → mm_X y t ls st h Q) (kk : w < z → mm_X y (pc + 1 + 3) ls st h Q) : mm_X y pc ls (vJ w :: vJ z :: st) h Q := r_lcmp_le (x2 := 0) hc hc2 k1 kk
theorem q_val {Q : Option mm_V → mm_H → Prop} {h : mm_H} {v w : Int} (k : Q (some (vI v)) h) (e : w = v) : Q (some (vI w)) h := e ▸ k
abbrev isPt (z : Int) : Prop := 0 ≤ z ∧ z ≤ 1114111 ∧ ¬ (55296 ≤ z ∧ z ≤ 57343)
abbrev isSp (a b : Int) : Prop := 0 ≤ a ∧ a ≤ b ∧ b ≤ 1114111
abbrev isSyl (z : Int) : Prop := 44032 ≤ z ∧ z ≤ 55203
abbrev isLd (z : Int) : Prop := 4352 ≤ z ∧ z ≤ 4370
abbrev isVw (z : Int) : Prop := 4449 ≤ z ∧ z ≤ 4469
abbrev isTl (z : Int) : Prop := 4520 ≤ z ∧ z ≤ 4546
abbrev isOS (z : Int) : Prop := isSyl z ∨ isLd z ∨ isVw z ∨ isTl z
def fol (c : Int) : Int := if c < 128 then 0 else if c < 194 ∨ 244 < c then -1 else if c < 224 then 1 else if c < 240 then 2 else 3
def bof (c m : Int) : Int := if m = 1 then c - 192 else if m = 2 then c - 224 else if m = 3 then c - 240 else c
def loS (c : Int) : Int := if c = 224 then 160 else if c = 240 then 144 else 128
def hiS (c : Int) : Int := if c = 237 then 159 else if c = 244 then 143 else 191
def dirF (z : Int) : Int := if 48 ≤ z ∧ z ≤ 57 then 4 else if z = 45 then 5 else 0
def stF (z : Int) : Int := if 128 ≤ z ∨ (97 ≤ z ∧ z ≤ 122) ∨ (48 ≤ z ∧ z ≤ 57) ∨ z = 45 ∨ z = 46 then 0 else if 65 ≤ z ∧ z ≤ 90 then 2 else 3
def dg (v : Int) : Int := if v < 26 then 97 + v else 48 + v - 26
def vl (c : Int) : Int := if 97 ≤ c ∧ c ≤ 122 then c - 97 else if 65 ≤ c ∧ c ≤ 90 then c - 65 else if 48 ≤ c ∧ c ≤ 57 then c - 48 + 26 else -1
def thr (k b : Int) : Int := if k - b < 1 then 1 else if 26 < k - b then 26 else k - b
def hiK (k : Int) : Int := if k = 0 then 1 else if k = 1 then 10 else if k = 2 then 4 else -1
section SIMPLE
variable {L : Nat} {σ : mk_S} {Q : Option mm_V → mm_H → Prop} {h : mm_H}
theorem ct_isPoint (z : Int) (k1 : isPt z → Q (some (vI 1)) h) (k0 : ¬ isPt z → Q (some (vI 0)) h) : mm_call 27 [vJ z] h Q := by
  refine ⟨Nat.le_of_ble_eq_true rfl, ?_⟩
  show mm_X 27 0 [vJ z, mm_null] [] _ _
  refine r_lload_n c_27_0 rfl <| r_lconst c_27_1 <| r_lc_lt c_27_2 c_27_3 (fun h2 => ?_) <| (fun h2 => ?_)
  · refine r_iconst c_27_34 <| r_zret c_27_35 (Or.inl rfl) <| ?_
    first | exact k1 (by unfold isPt; omega) | exact k0 (by unfold isPt; omega)
  · refine r_lload_n c_27_6 rfl <| r_ldc2_w c_27_7 <| r_lc_gt c_27_10 c_27_11 (fun h10 => ?_) <| (fun h10 => ?_)
    · refine r_iconst c_27_34 <| r_zret c_27_35 (Or.inl rfl) <| ?_
      first | exact k1 (by unfold isPt; omega) | exact k0 (by unfold isPt; omega)
    · refine r_lload_n c_27_14 rfl <| r_ldc2_w c_27_15 <| r_lc_lt c_27_18 c_27_19 (fun h18 => ?_) <| (fun h18 => ?_)
      · refine r_iconst c_27_30 <| r_goto c_27_31 <| r_zret c_27_35 (Or.inr rfl) <| ?_
        first | exact k1 (by unfold isPt; omega) | exact k0 (by unfold isPt; omega)
      · refine r_lload_n c_27_22 rfl <| r_ldc2_w c_27_23 <| r_lc_le c_27_26 c_27_27 (fun h26 => ?_) <| (fun h26 => ?_)
        · refine r_iconst c_27_34 <| r_zret c_27_35 (Or.inl rfl) <| ?_
          first | exact k1 (by unfold isPt; omega) | exact k0 (by unfold isPt; omega)
        · refine r_iconst c_27_30 <| r_goto c_27_31 <| r_zret c_27_35 (Or.inr rfl) <| ?_
          first | exact k1 (by unfold isPt; omega) | exact k0 (by unfold isPt; omega)
theorem ct_isSpan (a b : Int) (k1 : isSp a b → Q (some (vI 1)) h) (k0 : ¬ isSp a b → Q (some (vI 0)) h) : mm_call 30 [vI a, vI b] h Q := by
  refine ⟨Nat.le_of_ble_eq_true rfl, ?_⟩
  show mm_X 30 0 [vI a, vI b] [] _ _
  refine r_iload_n c_30_0 rfl <| r_if_lt c_30_1 (fun h1 => ?_) <| (fun h1 => ?_)
  · refine r_iconst c_30_19 <| r_zret c_30_20 (Or.inl rfl) <| ?_
    first | exact k1 (by unfold isSp; omega) | exact k0 (by unfold isSp; omega)
  · refine r_iload_n c_30_4 rfl <| r_iload_n c_30_5 rfl <| r_icmp_gt c_30_6 (fun h6 => ?_) <| (fun h6 => ?_)
    · refine r_iconst c_30_19 <| r_zret c_30_20 (Or.inl rfl) <| ?_
      first | exact k1 (by unfold isSp; omega) | exact k0 (by unfold isSp; omega)
    · refine r_iload_n c_30_9 rfl <| r_ldc c_30_10 <| r_icmp_gt c_30_12 (fun h12 => ?_) <| (fun h12 => ?_)
      · refine r_iconst c_30_19 <| r_zret c_30_20 (Or.inl rfl) <| ?_
        first | exact k1 (by unfold isSp; omega) | exact k0 (by unfold isSp; omega)
      · refine r_iconst c_30_15 <| r_goto c_30_16 <| r_zret c_30_20 (Or.inr rfl) <| ?_
        first | exact k1 (by unfold isSp; omega) | exact k0 (by unfold isSp; omega)
theorem ct_followersOf (c : Int) (k : Q (some (vI (fol c))) h) : mm_call 18 [vI c] h Q := by
  refine ⟨Nat.le_of_ble_eq_true rfl, ?_⟩
  show mm_X 18 0 [vI c] [] _ _
  refine r_iload_n c_18_0 rfl <| r_sipush c_18_1 <| r_icmp_ge c_18_4 (fun h4 => ?_) <| (fun h4 => ?_)
  · refine r_iload_n c_18_9 rfl <| r_sipush c_18_10 <| r_icmp_lt c_18_13 (fun h13 => ?_) <| (fun h13 => ?_)
    · refine r_iconst c_18_23 <| r_iret c_18_24 <| ?_
      exact q_val k (by unfold fol; (repeat' split) <;> omega)
    · refine r_iload_n c_18_16 rfl <| r_sipush c_18_17 <| r_icmp_le c_18_20 (fun h20 => ?_) <| (fun h20 => ?_)
      · refine r_iload_n c_18_25 rfl <| r_sipush c_18_26 <| r_icmp_ge c_18_29 (fun h29 => ?_) <| (fun h29 => ?_)
        · refine r_iload_n c_18_36 rfl <| r_sipush c_18_37 <| r_icmp_ge c_18_40 (fun h40 => ?_) <| (fun h40 => ?_)
          · refine r_iconst c_18_47 <| r_iret c_18_48 <| ?_
            exact q_val k (by unfold fol; (repeat' split) <;> omega)
          · refine r_iconst c_18_43 <| r_goto c_18_44 <| r_iret c_18_48 <| ?_
            exact q_val k (by unfold fol; (repeat' split) <;> omega)
        · refine r_iconst c_18_32 <| r_goto c_18_33 <| r_iret c_18_48 <| ?_
          exact q_val k (by unfold fol; (repeat' split) <;> omega)
      · refine r_iconst c_18_23 <| r_iret c_18_24 <| ?_
        exact q_val k (by unfold fol; (repeat' split) <;> omega)
  · refine r_iconst c_18_7 <| r_iret c_18_8 <| ?_
    exact q_val k (by unfold fol; (repeat' split) <;> omega)
theorem ct_bitsOfFirst (c m : Int) (hc : 0 ≤ c ∧ c ≤ 255) (hm : m = fol c) (k : Q (some (vI (bof c m))) h) : mm_call 19 [vI c, vI m] h Q := by
  have hm2 : (m = 1 → 194 ≤ c) ∧ (m = 2 → 224 ≤ c) ∧ (m = 3 → 240 ≤ c) := by
    subst hm
    unfold fol
    repeat' split
    all_goals omega
  refine ⟨Nat.le_of_ble_eq_true rfl, ?_⟩
  show mm_X 19 0 [vI c, vI m] [] _ _
  refine r_iload_n c_19_0 rfl <| r_tsw c_19_1 (by decide) (fun h1 => ?_) <| (fun i1 o1 ho1 h1 => ?_)
  · refine r_iload_n c_19_46 rfl <| r_iret c_19_47 <| ?_
    exact q_val k (by unfold bof; (repeat' split) <;> omega)
  · match i1, ho1, h1 with
    | 0, ho1, h1 =>
      obtain rfl : 27 = o1 := Option.some.inj ho1
      refine r_iload_n c_19_28 rfl <| r_sipush c_19_29 <| r_isub c_19_32 (by omega) <| r_iret c_19_33 <| ?_
      exact q_val k (by unfold bof; (repeat' split) <;> omega)
    | 1, ho1, h1 =>
      obtain rfl : 33 = o1 := Option.some.inj ho1
      refine r_iload_n c_19_34 rfl <| r_sipush c_19_35 <| r_isub c_19_38 (by omega) <| r_iret c_19_39 <| ?_
      exact q_val k (by unfold bof; (repeat' split) <;> omega)
    | 2, ho1, h1 =>
      obtain rfl : 39 = o1 := Option.some.inj ho1
      refine r_iload_n c_19_40 rfl <| r_sipush c_19_41 <| r_isub c_19_44 (by omega) <| r_iret c_19_45 <| ?_
      exact q_val k (by unfold bof; (repeat' split) <;> omega)
    | _ + 3, ho1, h1 => exact absurd ho1 (by simp)
theorem ct_lowestSecond (c : Int) (k : Q (some (vI (loS c))) h) : mm_call 20 [vI c] h Q := by
  refine ⟨Nat.le_of_ble_eq_true rfl, ?_⟩
  show mm_X 20 0 [vI c] [] _ _
  refine r_iload_n c_20_0 rfl <| r_sipush c_20_1 <| r_icmp_ne c_20_4 (fun h4 => ?_) <| (fun h4 => ?_)
  · refine r_iload_n c_20_13 rfl <| r_sipush c_20_14 <| r_icmp_ne c_20_17 (fun h17 => ?_) <| (fun h17 => ?_)
    · refine r_sipush c_20_26 <| r_iret c_20_29 <| ?_
      exact q_val k (by unfold loS; (repeat' split) <;> omega)
    · refine r_sipush c_20_20 <| r_goto c_20_23 <| r_iret c_20_29 <| ?_
      exact q_val k (by unfold loS; (repeat' split) <;> omega)
  · refine r_sipush c_20_7 <| r_goto c_20_10 <| r_iret c_20_29 <| ?_
    exact q_val k (by unfold loS; (repeat' split) <;> omega)
theorem ct_highestSecond (c : Int) (k : Q (some (vI (hiS c))) h) : mm_call 21 [vI c] h Q := by
  refine ⟨Nat.le_of_ble_eq_true rfl, ?_⟩
  show mm_X 21 0 [vI c] [] _ _
  refine r_iload_n c_21_0 rfl <| r_sipush c_21_1 <| r_icmp_ne c_21_4 (fun h4 => ?_) <| (fun h4 => ?_)
  · refine r_iload_n c_21_13 rfl <| r_sipush c_21_14 <| r_icmp_ne c_21_17 (fun h17 => ?_) <| (fun h17 => ?_)
    · refine r_sipush c_21_26 <| r_iret c_21_29 <| ?_
      exact q_val k (by unfold hiS; (repeat' split) <;> omega)
    · refine r_sipush c_21_20 <| r_goto c_21_23 <| r_iret c_21_29 <| ?_
      exact q_val k (by unfold hiS; (repeat' split) <;> omega)
  · refine r_sipush c_21_7 <| r_goto c_21_10 <| r_iret c_21_29 <| ?_
    exact q_val k (by unfold hiS; (repeat' split) <;> omega)
theorem ct_refusal (z : Int) (hz : -2 ≤ z ∧ z ≤ 1000) (k : Q (some (vI (if z = -2 then -4 else -10 - z))) h) : mm_call 22 [vI z] h Q := by
  refine ⟨Nat.le_of_ble_eq_true rfl, ?_⟩
  show mm_X 22 0 [vI z] [] _ _
  refine r_iload_n c_22_0 rfl <| r_bipush c_22_1 <| r_icmp_ne c_22_3 (fun h3 => ?_) <| (fun h3 => ?_)
  · refine r_bipush c_22_11 <| r_iload_n c_22_13 rfl <| r_isub c_22_14 (by omega) <| r_iret c_22_15 <| ?_
    exact q_val k (by (repeat' split) <;> omega)
  · refine r_bipush c_22_6 <| r_goto c_22_8 <| r_iret c_22_15 <| ?_
    exact q_val k (by (repeat' split) <;> omega)
theorem ct_in (a b c : Int) (k1 : b ≤ a ∧ a ≤ c → Q (some (vI 1)) h) (k0 : a < b ∨ c < a → Q (some (vI 0)) h) : mm_call 135 [vI a, vI b, vI c] h Q := by
  refine ⟨Nat.le_of_ble_eq_true rfl, ?_⟩
  show mm_X 135 0 [vI a, vI b, vI c] [] _ _
  refine r_iload_n c_135_0 rfl <| r_iload_n c_135_1 rfl <| r_icmp_lt c_135_2 (fun h2 => ?_) <| (fun h2 => ?_)
  · refine r_iconst c_135_14 <| r_zret c_135_15 (Or.inl rfl) <| ?_
    first | exact k1 (by omega) | exact k0 (by omega)
  · refine r_iload_n c_135_5 rfl <| r_iload_n c_135_6 rfl <| r_icmp_gt c_135_7 (fun h7 => ?_) <| (fun h7 => ?_)
    · refine r_iconst c_135_14 <| r_zret c_135_15 (Or.inl rfl) <| ?_
      first | exact k1 (by omega) | exact k0 (by omega)
    · refine r_iconst c_135_10 <| r_goto c_135_11 <| r_zret c_135_15 (Or.inr rfl) <| ?_
      first | exact k1 (by omega) | exact k0 (by omega)
theorem ct_mPoint (z : Int) (k1 : isPt z → Q (some (vI 1)) h) (k0 : ¬ isPt z → Q (some (vI 0)) h) : mm_call 141 [vI z] h Q := by
  refine ⟨Nat.le_of_ble_eq_true rfl, ?_⟩
  show mm_X 141 0 [vI z] [] _ _
  refine r_iload_n c_141_0 rfl <| r_iconst c_141_1 <| r_ldc c_141_2 <| r_cS3 c_141_4 (Nat.le_of_ble_eq_true rfl) <| ?_
  refine ct_in _ _ _ (fun h4 => ?_) (fun h4 => ?_)
  · refine r_if_eq c_141_7 (fun h => absurd h (by decide)) <| (fun _ => ?_)
    refine r_iload_n c_141_10 rfl <| r_ldc c_141_11 <| r_ldc c_141_13 <| r_cS3 c_141_15 (Nat.le_of_ble_eq_true rfl) <| ?_
    refine ct_in _ _ _ (fun h15 => ?_) (fun h15 => ?_)
    · refine r_if_ne c_141_18 (fun _ => ?_) <| (fun h => absurd h (by decide))
      refine r_iconst c_141_25 <| r_zret c_141_26 (Or.inl rfl) <| ?_
      first | exact k1 (by unfold isPt; omega) | exact k0 (by unfold isPt; omega)
    · refine r_if_ne c_141_18 (fun h => absurd h (by decide)) <| (fun _ => ?_)
      refine r_iconst c_141_21 <| r_goto c_141_22 <| r_zret c_141_26 (Or.inr rfl) <| ?_
      first | exact k1 (by unfold isPt; omega) | exact k0 (by unfold isPt; omega)
  · refine r_if_eq c_141_7 (fun _ => ?_) <| (fun h => absurd h (by decide))
    refine r_iconst c_141_25 <| r_zret c_141_26 (Or.inl rfl) <| ?_
    first | exact k1 (by unfold isPt; omega) | exact k0 (by unfold isPt; omega)
theorem ct_mSyl (z : Int) (k1 : isSyl z → Q (some (vI 1)) h) (k0 : ¬ isSyl z → Q (some (vI 0)) h) : mm_call 147 [vI z] h Q := by
  refine ⟨Nat.le_of_ble_eq_true rfl, ?_⟩
  show mm_X 147 0 [vI z] [] _ _
  refine r_iload_n c_147_0 rfl <| r_ldc c_147_1 <| r_ldc c_147_3 <| r_cS3 c_147_5 (Nat.le_of_ble_eq_true rfl) <| ?_
  refine ct_in _ _ _ (fun h5 => ?_) (fun h5 => ?_)
  · refine r_zret c_147_8 (Or.inr rfl) <| ?_
    first | exact k1 (by unfold isSyl; omega) | exact k0 (by unfold isSyl; omega)
  · refine r_zret c_147_8 (Or.inl rfl) <| ?_
    first | exact k1 (by unfold isSyl; omega) | exact k0 (by unfold isSyl; omega)
theorem ct_mLetter (z : Int) (k1 : isOS z → Q (some (vI 1)) h) (k0 : ¬ isOS z → Q (some (vI 0)) h) : mm_call 146 [vI z] h Q := by
  refine ⟨Nat.le_of_ble_eq_true rfl, ?_⟩
  show mm_X 146 0 [vI z] [] _ _
  refine r_iload_n c_146_0 rfl <| r_cS1 c_146_1 (Nat.le_of_ble_eq_true rfl) <| ?_
  refine ct_mSyl _ (fun h1 => ?_) (fun h1 => ?_)
  · refine r_if_ne c_146_4 (fun _ => ?_) <| (fun h => absurd h (by decide))
    refine r_iconst c_146_46 <| r_goto c_146_47 <| r_zret c_146_51 (Or.inr rfl) <| ?_
    first | exact k1 (by unfold isSyl at *; unfold isOS isSyl isLd isVw isTl; omega) | exact k0 (by unfold isSyl at *; unfold isOS isSyl isLd isVw isTl; omega)
  · refine r_if_ne c_146_4 (fun h => absurd h (by decide)) <| (fun _ => ?_)
    refine r_iload_n c_146_7 rfl <| r_sipush c_146_8 <| r_sipush c_146_11 <| r_cS3 c_146_14 (Nat.le_of_ble_eq_true rfl) <| ?_
    refine ct_in _ _ _ (fun h14 => ?_) (fun h14 => ?_)
    · refine r_if_ne c_146_17 (fun _ => ?_) <| (fun h => absurd h (by decide))
      refine r_iconst c_146_46 <| r_goto c_146_47 <| r_zret c_146_51 (Or.inr rfl) <| ?_
      first | exact k1 (by unfold isSyl at *; unfold isOS isSyl isLd isVw isTl; omega) | exact k0 (by unfold isSyl at *; unfold isOS isSyl isLd isVw isTl; omega)
    · refine r_if_ne c_146_17 (fun h => absurd h (by decide)) <| (fun _ => ?_)
      refine r_iload_n c_146_20 rfl <| r_sipush c_146_21 <| r_sipush c_146_24 <| r_cS3 c_146_27 (Nat.le_of_ble_eq_true rfl) <| ?_
      refine ct_in _ _ _ (fun h27 => ?_) (fun h27 => ?_)
      · refine r_if_ne c_146_30 (fun _ => ?_) <| (fun h => absurd h (by decide))
        refine r_iconst c_146_46 <| r_goto c_146_47 <| r_zret c_146_51 (Or.inr rfl) <| ?_
        first | exact k1 (by unfold isSyl at *; unfold isOS isSyl isLd isVw isTl; omega) | exact k0 (by unfold isSyl at *; unfold isOS isSyl isLd isVw isTl; omega)
      · refine r_if_ne c_146_30 (fun h => absurd h (by decide)) <| (fun _ => ?_)
        refine r_iload_n c_146_33 rfl <| r_sipush c_146_34 <| r_sipush c_146_37 <| r_cS3 c_146_40 (Nat.le_of_ble_eq_true rfl) <| ?_
        refine ct_in _ _ _ (fun h40 => ?_) (fun h40 => ?_)
        · refine r_if_eq c_146_43 (fun h => absurd h (by decide)) <| (fun _ => ?_)
          refine r_iconst c_146_46 <| r_goto c_146_47 <| r_zret c_146_51 (Or.inr rfl) <| ?_
          first | exact k1 (by unfold isSyl at *; unfold isOS isSyl isLd isVw isTl; omega) | exact k0 (by unfold isSyl at *; unfold isOS isSyl isLd isVw isTl; omega)
        · refine r_if_eq c_146_43 (fun _ => ?_) <| (fun h => absurd h (by decide))
          refine r_iconst c_146_50 <| r_zret c_146_51 (Or.inl rfl) <| ?_
          first | exact k1 (by unfold isSyl at *; unfold isOS isSyl isLd isVw isTl; omega) | exact k0 (by unfold isSyl at *; unfold isOS isSyl isLd isVw isTl; omega)
theorem ct_syl (z : Int) (k1 : isSyl z → Q (some (vI 1)) h) (k0 : ¬ isSyl z → Q (some (vI 0)) h) : mm_call 38 [vI z] h Q := by
  refine ⟨Nat.le_of_ble_eq_true rfl, ?_⟩
  show mm_X 38 0 [vI z] [] _ _
  refine r_iload_n c_38_0 rfl <| r_ldc c_38_1 <| r_icmp_lt c_38_3 (fun h3 => ?_) <| (fun h3 => ?_)
  · refine r_iconst c_38_16 <| r_zret c_38_17 (Or.inl rfl) <| ?_
    first | exact k1 (by unfold isSyl; omega) | exact k0 (by unfold isSyl; omega)
  · refine r_iload_n c_38_6 rfl <| r_ldc c_38_7 <| r_icmp_gt c_38_9 (fun h9 => ?_) <| (fun h9 => ?_)
    · refine r_iconst c_38_16 <| r_zret c_38_17 (Or.inl rfl) <| ?_
      first | exact k1 (by unfold isSyl; omega) | exact k0 (by unfold isSyl; omega)
    · refine r_iconst c_38_12 <| r_goto c_38_13 <| r_zret c_38_17 (Or.inr rfl) <| ?_
      first | exact k1 (by unfold isSyl; omega) | exact k0 (by unfold isSyl; omega)
theorem ct_lead (z : Int) (k1 : isLd z → Q (some (vI 1)) h) (k0 : ¬ isLd z → Q (some (vI 0)) h) : mm_call 39 [vI z] h Q := by
  refine ⟨Nat.le_of_ble_eq_true rfl, ?_⟩
  show mm_X 39 0 [vI z] [] _ _
  refine r_iload_n c_39_0 rfl <| r_sipush c_39_1 <| r_icmp_lt c_39_4 (fun h4 => ?_) <| (fun h4 => ?_)
  · refine r_iconst c_39_18 <| r_zret c_39_19 (Or.inl rfl) <| ?_
    first | exact k1 (by unfold isLd; omega) | exact k0 (by unfold isLd; omega)
  · refine r_iload_n c_39_7 rfl <| r_sipush c_39_8 <| r_icmp_gt c_39_11 (fun h11 => ?_) <| (fun h11 => ?_)
    · refine r_iconst c_39_18 <| r_zret c_39_19 (Or.inl rfl) <| ?_
      first | exact k1 (by unfold isLd; omega) | exact k0 (by unfold isLd; omega)
    · refine r_iconst c_39_14 <| r_goto c_39_15 <| r_zret c_39_19 (Or.inr rfl) <| ?_
      first | exact k1 (by unfold isLd; omega) | exact k0 (by unfold isLd; omega)
theorem ct_vowel (z : Int) (k1 : isVw z → Q (some (vI 1)) h) (k0 : ¬ isVw z → Q (some (vI 0)) h) : mm_call 40 [vI z] h Q := by
  refine ⟨Nat.le_of_ble_eq_true rfl, ?_⟩
  show mm_X 40 0 [vI z] [] _ _
  refine r_iload_n c_40_0 rfl <| r_sipush c_40_1 <| r_icmp_lt c_40_4 (fun h4 => ?_) <| (fun h4 => ?_)
  · refine r_iconst c_40_18 <| r_zret c_40_19 (Or.inl rfl) <| ?_
    first | exact k1 (by unfold isVw; omega) | exact k0 (by unfold isVw; omega)
  · refine r_iload_n c_40_7 rfl <| r_sipush c_40_8 <| r_icmp_gt c_40_11 (fun h11 => ?_) <| (fun h11 => ?_)
    · refine r_iconst c_40_18 <| r_zret c_40_19 (Or.inl rfl) <| ?_
      first | exact k1 (by unfold isVw; omega) | exact k0 (by unfold isVw; omega)
    · refine r_iconst c_40_14 <| r_goto c_40_15 <| r_zret c_40_19 (Or.inr rfl) <| ?_
      first | exact k1 (by unfold isVw; omega) | exact k0 (by unfold isVw; omega)
theorem ct_tail (z : Int) (k1 : isTl z → Q (some (vI 1)) h) (k0 : ¬ isTl z → Q (some (vI 0)) h) : mm_call 41 [vI z] h Q := by
  refine ⟨Nat.le_of_ble_eq_true rfl, ?_⟩
  show mm_X 41 0 [vI z] [] _ _
  refine r_iload_n c_41_0 rfl <| r_sipush c_41_1 <| r_icmp_le c_41_4 (fun h4 => ?_) <| (fun h4 => ?_)
  · refine r_iconst c_41_18 <| r_zret c_41_19 (Or.inl rfl) <| ?_
    first | exact k1 (by unfold isTl; omega) | exact k0 (by unfold isTl; omega)
  · refine r_iload_n c_41_7 rfl <| r_sipush c_41_8 <| r_icmp_gt c_41_11 (fun h11 => ?_) <| (fun h11 => ?_)
    · refine r_iconst c_41_18 <| r_zret c_41_19 (Or.inl rfl) <| ?_
      first | exact k1 (by unfold isTl; omega) | exact k0 (by unfold isTl; omega)
    · refine r_iconst c_41_14 <| r_goto c_41_15 <| r_zret c_41_19 (Or.inr rfl) <| ?_
      first | exact k1 (by unfold isTl; omega) | exact k0 (by unfold isTl; omega)
theorem ct_ofSyl (z : Int) (k1 : isOS z → Q (some (vI 1)) h) (k0 : ¬ isOS z → Q (some (vI 0)) h) : mm_call 37 [vI z] h Q := by
  refine ⟨Nat.le_of_ble_eq_true rfl, ?_⟩
  show mm_X 37 0 [vI z] [] _ _
  refine r_iload_n c_37_0 rfl <| r_cS1 c_37_1 (Nat.le_of_ble_eq_true rfl) <| ?_
  refine ct_syl _ (fun h1 => ?_) (fun h1 => ?_)
  · refine r_if_ne c_37_4 (fun _ => ?_) <| (fun h => absurd h (by decide))
    refine r_iconst c_37_28 <| r_goto c_37_29 <| r_zret c_37_33 (Or.inr rfl) <| ?_
    first | exact k1 (by unfold isOS; first | exact Or.inl (by assumption) | exact Or.inr (Or.inl (by assumption)) | exact Or.inr (Or.inr (Or.inl (by assumption))) | exact Or.inr (Or.inr (Or.inr (by assumption)))) | exact k0 (by unfold isOS; rintro (q | q | q | q) <;> contradiction)
  · refine r_if_ne c_37_4 (fun h => absurd h (by decide)) <| (fun _ => ?_)
    refine r_iload_n c_37_7 rfl <| r_cS1 c_37_8 (Nat.le_of_ble_eq_true rfl) <| ?_
    refine ct_lead _ (fun h8 => ?_) (fun h8 => ?_)
    · refine r_if_ne c_37_11 (fun _ => ?_) <| (fun h => absurd h (by decide))
      refine r_iconst c_37_28 <| r_goto c_37_29 <| r_zret c_37_33 (Or.inr rfl) <| ?_
      first | exact k1 (by unfold isOS; first | exact Or.inl (by assumption) | exact Or.inr (Or.inl (by assumption)) | exact Or.inr (Or.inr (Or.inl (by assumption))) | exact Or.inr (Or.inr (Or.inr (by assumption)))) | exact k0 (by unfold isOS; rintro (q | q | q | q) <;> contradiction)
    · refine r_if_ne c_37_11 (fun h => absurd h (by decide)) <| (fun _ => ?_)
      refine r_iload_n c_37_14 rfl <| r_cS1 c_37_15 (Nat.le_of_ble_eq_true rfl) <| ?_
      refine ct_vowel _ (fun h15 => ?_) (fun h15 => ?_)
      · refine r_if_ne c_37_18 (fun _ => ?_) <| (fun h => absurd h (by decide))
        refine r_iconst c_37_28 <| r_goto c_37_29 <| r_zret c_37_33 (Or.inr rfl) <| ?_
        first | exact k1 (by unfold isOS; first | exact Or.inl (by assumption) | exact Or.inr (Or.inl (by assumption)) | exact Or.inr (Or.inr (Or.inl (by assumption))) | exact Or.inr (Or.inr (Or.inr (by assumption)))) | exact k0 (by unfold isOS; rintro (q | q | q | q) <;> contradiction)
      · refine r_if_ne c_37_18 (fun h => absurd h (by decide)) <| (fun _ => ?_)
        refine r_iload_n c_37_21 rfl <| r_cS1 c_37_22 (Nat.le_of_ble_eq_true rfl) <| ?_
        refine ct_tail _ (fun h22 => ?_) (fun h22 => ?_)
        · refine r_if_eq c_37_25 (fun h => absurd h (by decide)) <| (fun _ => ?_)
          refine r_iconst c_37_28 <| r_goto c_37_29 <| r_zret c_37_33 (Or.inr rfl) <| ?_
          first | exact k1 (by unfold isOS; first | exact Or.inl (by assumption) | exact Or.inr (Or.inl (by assumption)) | exact Or.inr (Or.inr (Or.inl (by assumption))) | exact Or.inr (Or.inr (Or.inr (by assumption)))) | exact k0 (by unfold isOS; rintro (q | q | q | q) <;> contradiction)
        · refine r_if_eq c_37_25 (fun _ => ?_) <| (fun h => absurd h (by decide))
          refine r_iconst c_37_32 <| r_zret c_37_33 (Or.inl rfl) <| ?_
          first | exact k1 (by unfold isOS; first | exact Or.inl (by assumption) | exact Or.inr (Or.inl (by assumption)) | exact Or.inr (Or.inr (Or.inl (by assumption))) | exact Or.inr (Or.inr (Or.inr (by assumption)))) | exact k0 (by unfold isOS; rintro (q | q | q | q) <;> contradiction)
theorem ct_mayBePart (a p : Int) (k1 : isPt a ∧ a < p ∧ ¬ isOS a → Q (some (vI 1)) h) (k0 : ¬ (isPt a ∧ a < p ∧ ¬ isOS a) → Q (some (vI 0)) h) : mm_call 36 [vI a, vI p] h Q := by
  refine ⟨Nat.le_of_ble_eq_true rfl, ?_⟩
  show mm_X 36 0 [vI a, vI p] [] _ _
  refine r_iload_n c_36_0 rfl <| r_i2l c_36_1 <| r_cS1 c_36_2 (Nat.le_of_ble_eq_true rfl) <| ?_
  refine ct_isPoint _ (fun h2 => ?_) (fun h2 => ?_)
  · refine r_if_eq c_36_5 (fun h => absurd h (by decide)) <| (fun _ => ?_)
    refine r_iload_n c_36_8 rfl <| r_iload_n c_36_9 rfl <| r_icmp_ge c_36_10 (fun h10 => ?_) <| (fun h10 => ?_)
    · refine r_iconst c_36_24 <| r_zret c_36_25 (Or.inl rfl) <| ?_
      first | exact k1 ⟨by assumption, by omega, by assumption⟩ | exact k0 (fun q => by first | (exact absurd q.1 (by assumption)) | omega | exact absurd (by assumption) q.2.2)
    · refine r_iload_n c_36_13 rfl <| r_cS1 c_36_14 (Nat.le_of_ble_eq_true rfl) <| ?_
      refine ct_ofSyl _ (fun h14 => ?_) (fun h14 => ?_)
      · refine r_if_ne c_36_17 (fun _ => ?_) <| (fun h => absurd h (by decide))
        refine r_iconst c_36_24 <| r_zret c_36_25 (Or.inl rfl) <| ?_
        first | exact k1 ⟨by assumption, by omega, by assumption⟩ | exact k0 (fun q => by first | (exact absurd q.1 (by assumption)) | omega | exact absurd (by assumption) q.2.2)
      · refine r_if_ne c_36_17 (fun h => absurd h (by decide)) <| (fun _ => ?_)
        refine r_iconst c_36_20 <| r_goto c_36_21 <| r_zret c_36_25 (Or.inr rfl) <| ?_
        first | exact k1 ⟨by assumption, by omega, by assumption⟩ | exact k0 (fun q => by first | (exact absurd q.1 (by assumption)) | omega | exact absurd (by assumption) q.2.2)
  · refine r_if_eq c_36_5 (fun _ => ?_) <| (fun h => absurd h (by decide))
    refine r_iconst c_36_24 <| r_zret c_36_25 (Or.inl rfl) <| ?_
    first | exact k1 ⟨by assumption, by omega, by assumption⟩ | exact k0 (fun q => by first | (exact absurd q.1 (by assumption)) | omega | exact absurd (by assumption) q.2.2)
theorem ct_tailOf (s : Int) (hs : isSyl s) (k : Q (some (vI (if (s - 44032) % 28 = 0 then 0 else 4519 + (s - 44032) % 28))) h) : mm_call 60 [vI s] h Q := by
  unfold isSyl at hs
  refine ⟨Nat.le_of_ble_eq_true rfl, ?_⟩
  show mm_X 60 0 [vI s, mm_null] [] _ _
  refine r_iload_n c_60_0 rfl <| r_ldc c_60_1 <| r_isub c_60_3 (by omega) <| r_bipush c_60_4 <| r_irem c_60_6 (by omega) (by omega) <| r_istore_n_2_1 c_60_7 rfl <| r_iload_n c_60_8 rfl <| r_if_ne c_60_9 (fun h9 => ?_) <| (fun h9 => ?_)
  · refine r_sipush c_60_16 <| r_iload_n c_60_19 rfl <| r_iadd c_60_20 (by omega) <| r_iret c_60_21 <| ?_
    exact q_val k (by (repeat' split) <;> omega)
  · refine r_iconst c_60_12 <| r_goto c_60_13 <| r_iret c_60_21 <| ?_
    exact q_val k (by (repeat' split) <;> omega)
theorem ct_leadOf (s : Int) (hs : isSyl s) (k : Q (some (vI (4352 + (s - 44032) / 588))) h) : mm_call 61 [vI s] h Q := by
  unfold isSyl at hs
  refine ⟨Nat.le_of_ble_eq_true rfl, ?_⟩
  show mm_X 61 0 [vI s] [] _ _
  refine r_sipush c_61_0 <| r_iload_n c_61_3 rfl <| r_ldc c_61_4 <| r_isub c_61_6 (by omega) <| r_sipush c_61_7 <| r_idiv c_61_10 (by omega) (by omega) <| r_iadd c_61_11 (by omega) <| r_iret c_61_12 <| ?_
  exact k
theorem ct_vowelOf (s : Int) (hs : isSyl s) (k : Q (some (vI (4449 + (s - 44032) % 588 / 28))) h) : mm_call 62 [vI s] h Q := by
  unfold isSyl at hs
  refine ⟨Nat.le_of_ble_eq_true rfl, ?_⟩
  show mm_X 62 0 [vI s] [] _ _
  refine r_sipush c_62_0 <| r_iload_n c_62_3 rfl <| r_ldc c_62_4 <| r_isub c_62_6 (by omega) <| r_sipush c_62_7 <| r_irem c_62_10 (by omega) (by omega) <| r_bipush c_62_11 <| r_idiv c_62_13 (by omega) (by omega) <| r_iadd c_62_14 (by omega) <| r_iret c_62_15 <| ?_
  exact k
theorem ct_mDigit (v : Int) (hv : 0 ≤ v ∧ v ≤ 1000) (k : Q (some (vI (dg v))) h) : mm_call 169 [vI v] h Q := by
  refine ⟨Nat.le_of_ble_eq_true rfl, ?_⟩
  show mm_X 169 0 [vI v] [] _ _
  refine r_iload_n c_169_0 rfl <| r_bipush c_169_1 <| r_icmp_ge c_169_3 (fun h3 => ?_) <| (fun h3 => ?_)
  · refine r_bipush c_169_13 <| r_iload_n c_169_15 rfl <| r_iadd c_169_16 (by omega) <| r_bipush c_169_17 <| r_isub c_169_19 (by omega) <| r_iret c_169_20 <| ?_
    exact q_val k (by unfold dg; (repeat' split) <;> omega)
  · refine r_bipush c_169_6 <| r_iload_n c_169_8 rfl <| r_iadd c_169_9 (by omega) <| r_goto c_169_10 <| r_iret c_169_20 <| ?_
    exact q_val k (by unfold dg; (repeat' split) <;> omega)
theorem ct_digitOf (v : Int) (hv : 0 ≤ v ∧ v ≤ 1000) (k : Q (some (vI (dg v))) h) : mm_call 84 [vI v] h Q := by
  refine ⟨Nat.le_of_ble_eq_true rfl, ?_⟩
  show mm_X 84 0 [vI v] [] _ _
  refine r_iload_n c_84_0 rfl <| r_bipush c_84_1 <| r_icmp_ge c_84_3 (fun h3 => ?_) <| (fun h3 => ?_)
  · refine r_bipush c_84_13 <| r_iload_n c_84_15 rfl <| r_iadd c_84_16 (by omega) <| r_bipush c_84_17 <| r_isub c_84_19 (by omega) <| r_iret c_84_20 <| ?_
    exact q_val k (by unfold dg; (repeat' split) <;> omega)
  · refine r_bipush c_84_6 <| r_iload_n c_84_8 rfl <| r_iadd c_84_9 (by omega) <| r_goto c_84_10 <| r_iret c_84_20 <| ?_
    exact q_val k (by unfold dg; (repeat' split) <;> omega)
theorem ct_mBound (a b : Int) (ha : 0 ≤ a ∧ a ≤ 1000000 ∧ 0 ≤ b ∧ b ≤ 1000000) (k : Q (some (vI (thr a b))) h) : mm_call 168 [vI a, vI b] h Q := by
  refine ⟨Nat.le_of_ble_eq_true rfl, ?_⟩
  show mm_X 168 0 [vI a, vI b, mm_null] [] _ _
  refine r_iload_n c_168_0 rfl <| r_iload_n c_168_1 rfl <| r_isub c_168_2 (by omega) <| r_istore_n_3_2 c_168_3 rfl <| r_iload_n c_168_4 rfl <| r_iconst c_168_5 <| r_icmp_ge c_168_6 (fun h6 => ?_) <| (fun h6 => ?_)
  · refine r_iload_n c_168_13 rfl <| r_bipush c_168_14 <| r_icmp_le c_168_16 (fun h16 => ?_) <| (fun h16 => ?_)
    · refine r_iload_n c_168_24 rfl <| r_iret c_168_25 <| ?_
      exact q_val k (by unfold thr; (repeat' split) <;> omega)
    · refine r_bipush c_168_19 <| r_goto c_168_21 <| r_iret c_168_25 <| ?_
      exact q_val k (by unfold thr; (repeat' split) <;> omega)
  · refine r_iconst c_168_9 <| r_goto c_168_10 <| r_iret c_168_25 <| ?_
    exact q_val k (by unfold thr; (repeat' split) <;> omega)
theorem ct_threshold (a b : Int) (ha : 0 ≤ a ∧ a ≤ 1000000 ∧ 0 ≤ b ∧ b ≤ 1000000) (k : Q (some (vI (thr a b))) h) : mm_call 83 [vI a, vI b] h Q := by
  refine ⟨Nat.le_of_ble_eq_true rfl, ?_⟩
  show mm_X 83 0 [vI a, vI b] [] _ _
  refine r_iload_n c_83_0 rfl <| r_iload_n c_83_1 rfl <| r_isub c_83_2 (by omega) <| r_iconst c_83_3 <| r_icmp_ge c_83_4 (fun h4 => ?_) <| (fun h4 => ?_)
  · refine r_iload_n c_83_11 rfl <| r_iload_n c_83_12 rfl <| r_isub c_83_13 (by omega) <| r_bipush c_83_14 <| r_icmp_le c_83_16 (fun h16 => ?_) <| (fun h16 => ?_)
    · refine r_iload_n c_83_24 rfl <| r_iload_n c_83_25 rfl <| r_isub c_83_26 (by omega) <| r_iret c_83_27 <| ?_
      exact q_val k (by unfold thr; (repeat' split) <;> omega)
    · refine r_bipush c_83_19 <| r_goto c_83_21 <| r_iret c_83_27 <| ?_
      exact q_val k (by unfold thr; (repeat' split) <;> omega)
  · refine r_iconst c_83_7 <| r_goto c_83_8 <| r_iret c_83_27 <| ?_
    exact q_val k (by unfold thr; (repeat' split) <;> omega)
theorem ct_mValue (c : Int) (hc : -1 ≤ c ∧ c ≤ 2000000) (k : Q (some (vI (vl c))) h) : mm_call 173 [vI c] h Q := by
  refine ⟨Nat.le_of_ble_eq_true rfl, ?_⟩
  show mm_X 173 0 [vI c] [] _ _
  refine r_iload_n c_173_0 rfl <| r_bipush c_173_1 <| r_bipush c_173_3 <| r_cS3 c_173_5 (Nat.le_of_ble_eq_true rfl) <| ?_
  refine ct_in _ _ _ (fun h5 => ?_) (fun h5 => ?_)
  · refine r_if_eq c_173_8 (fun h => absurd h (by decide)) <| (fun _ => ?_)
    refine r_iload_n c_173_11 rfl <| r_bipush c_173_12 <| r_isub c_173_14 (by omega) <| r_goto c_173_15 <| r_iret c_173_58 <| ?_
    exact q_val k (by unfold vl; (repeat' split) <;> omega)
  · refine r_if_eq c_173_8 (fun _ => ?_) <| (fun h => absurd h (by decide))
    refine r_iload_n c_173_18 rfl <| r_bipush c_173_19 <| r_bipush c_173_21 <| r_cS3 c_173_23 (Nat.le_of_ble_eq_true rfl) <| ?_
    refine ct_in _ _ _ (fun h23 => ?_) (fun h23 => ?_)
    · refine r_if_eq c_173_26 (fun h => absurd h (by decide)) <| (fun _ => ?_)
      refine r_iload_n c_173_29 rfl <| r_bipush c_173_30 <| r_isub c_173_32 (by omega) <| r_goto c_173_33 <| r_iret c_173_58 <| ?_
      exact q_val k (by unfold vl; (repeat' split) <;> omega)
    · refine r_if_eq c_173_26 (fun _ => ?_) <| (fun h => absurd h (by decide))
      refine r_iload_n c_173_36 rfl <| r_bipush c_173_37 <| r_bipush c_173_39 <| r_cS3 c_173_41 (Nat.le_of_ble_eq_true rfl) <| ?_
      refine ct_in _ _ _ (fun h41 => ?_) (fun h41 => ?_)
      · refine r_if_eq c_173_44 (fun h => absurd h (by decide)) <| (fun _ => ?_)
        refine r_iload_n c_173_47 rfl <| r_bipush c_173_48 <| r_isub c_173_50 (by omega) <| r_bipush c_173_51 <| r_iadd c_173_53 (by omega) <| r_goto c_173_54 <| r_iret c_173_58 <| ?_
        exact q_val k (by unfold vl; (repeat' split) <;> omega)
      · refine r_if_eq c_173_44 (fun _ => ?_) <| (fun h => absurd h (by decide))
        refine r_iconst c_173_57 <| r_iret c_173_58 <| ?_
        exact q_val k (by unfold vl; (repeat' split) <;> omega)
theorem ct_valueOf (c : Int) (hc : -1 ≤ c ∧ c ≤ 2000000) (k : Q (some (vI (vl c))) h) : mm_call 89 [vI c] h Q := by
  refine ⟨Nat.le_of_ble_eq_true rfl, ?_⟩
  show mm_X 89 0 [vI c] [] _ _
  refine r_iload_n c_89_0 rfl <| r_bipush c_89_1 <| r_icmp_lt c_89_3 (fun h3 => ?_) <| (fun h3 => ?_)
  · refine r_iload_n c_89_17 rfl <| r_bipush c_89_18 <| r_icmp_lt c_89_20 (fun h20 => ?_) <| (fun h20 => ?_)
    · refine r_iload_n c_89_34 rfl <| r_bipush c_89_35 <| r_icmp_lt c_89_37 (fun h37 => ?_) <| (fun h37 => ?_)
      · refine r_iconst c_89_56 <| r_iret c_89_57 <| ?_
        exact q_val k (by unfold vl; (repeat' split) <;> omega)
      · refine r_iload_n c_89_40 rfl <| r_bipush c_89_41 <| r_icmp_gt c_89_43 (fun h43 => ?_) <| (fun h43 => ?_)
        · refine r_iconst c_89_56 <| r_iret c_89_57 <| ?_
          exact q_val k (by unfold vl; (repeat' split) <;> omega)
        · refine r_iload_n c_89_46 rfl <| r_bipush c_89_47 <| r_isub c_89_49 (by omega) <| r_bipush c_89_50 <| r_iadd c_89_52 (by omega) <| r_goto c_89_53 <| r_iret c_89_57 <| ?_
          exact q_val k (by unfold vl; (repeat' split) <;> omega)
    · refine r_iload_n c_89_23 rfl <| r_bipush c_89_24 <| r_icmp_gt c_89_26 (fun h26 => ?_) <| (fun h26 => ?_)
      · refine r_iload_n c_89_34 rfl <| r_bipush c_89_35 <| r_icmp_lt c_89_37 (fun h37 => ?_) <| (fun h37 => ?_)
        · refine r_iconst c_89_56 <| r_iret c_89_57 <| ?_
          exact q_val k (by unfold vl; (repeat' split) <;> omega)
        · refine r_iload_n c_89_40 rfl <| r_bipush c_89_41 <| r_icmp_gt c_89_43 (fun h43 => ?_) <| (fun h43 => ?_)
          · refine r_iconst c_89_56 <| r_iret c_89_57 <| ?_
            exact q_val k (by unfold vl; (repeat' split) <;> omega)
          · refine r_iload_n c_89_46 rfl <| r_bipush c_89_47 <| r_isub c_89_49 (by omega) <| r_bipush c_89_50 <| r_iadd c_89_52 (by omega) <| r_goto c_89_53 <| r_iret c_89_57 <| ?_
            exact q_val k (by unfold vl; (repeat' split) <;> omega)
      · refine r_iload_n c_89_29 rfl <| r_bipush c_89_30 <| r_isub c_89_32 (by omega) <| r_iret c_89_33 <| ?_
        exact q_val k (by unfold vl; (repeat' split) <;> omega)
  · refine r_iload_n c_89_6 rfl <| r_bipush c_89_7 <| r_icmp_gt c_89_9 (fun h9 => ?_) <| (fun h9 => ?_)
    · refine r_iload_n c_89_17 rfl <| r_bipush c_89_18 <| r_icmp_lt c_89_20 (fun h20 => ?_) <| (fun h20 => ?_)
      · refine r_iload_n c_89_34 rfl <| r_bipush c_89_35 <| r_icmp_lt c_89_37 (fun h37 => ?_) <| (fun h37 => ?_)
        · refine r_iconst c_89_56 <| r_iret c_89_57 <| ?_
          exact q_val k (by unfold vl; (repeat' split) <;> omega)
        · refine r_iload_n c_89_40 rfl <| r_bipush c_89_41 <| r_icmp_gt c_89_43 (fun h43 => ?_) <| (fun h43 => ?_)
          · refine r_iconst c_89_56 <| r_iret c_89_57 <| ?_
            exact q_val k (by unfold vl; (repeat' split) <;> omega)
          · refine r_iload_n c_89_46 rfl <| r_bipush c_89_47 <| r_isub c_89_49 (by omega) <| r_bipush c_89_50 <| r_iadd c_89_52 (by omega) <| r_goto c_89_53 <| r_iret c_89_57 <| ?_
            exact q_val k (by unfold vl; (repeat' split) <;> omega)
      · refine r_iload_n c_89_23 rfl <| r_bipush c_89_24 <| r_icmp_gt c_89_26 (fun h26 => ?_) <| (fun h26 => ?_)
        · refine r_iload_n c_89_34 rfl <| r_bipush c_89_35 <| r_icmp_lt c_89_37 (fun h37 => ?_) <| (fun h37 => ?_)
          · refine r_iconst c_89_56 <| r_iret c_89_57 <| ?_
            exact q_val k (by unfold vl; (repeat' split) <;> omega)
          · refine r_iload_n c_89_40 rfl <| r_bipush c_89_41 <| r_icmp_gt c_89_43 (fun h43 => ?_) <| (fun h43 => ?_)
            · refine r_iconst c_89_56 <| r_iret c_89_57 <| ?_
              exact q_val k (by unfold vl; (repeat' split) <;> omega)
            · refine r_iload_n c_89_46 rfl <| r_bipush c_89_47 <| r_isub c_89_49 (by omega) <| r_bipush c_89_50 <| r_iadd c_89_52 (by omega) <| r_goto c_89_53 <| r_iret c_89_57 <| ?_
              exact q_val k (by unfold vl; (repeat' split) <;> omega)
        · refine r_iload_n c_89_29 rfl <| r_bipush c_89_30 <| r_isub c_89_32 (by omega) <| r_iret c_89_33 <| ?_
          exact q_val k (by unfold vl; (repeat' split) <;> omega)
    · refine r_iload_n c_89_12 rfl <| r_bipush c_89_13 <| r_isub c_89_15 (by omega) <| r_iret c_89_16 <| ?_
      exact q_val k (by unfold vl; (repeat' split) <;> omega)
theorem ct_highestOf (z : Int) (k : Q (some (vI (hiK z))) h) : mm_call 49 [vI z] h Q := by
  refine ⟨Nat.le_of_ble_eq_true rfl, ?_⟩
  show mm_X 49 0 [vI z] [] _ _
  refine r_iload_n c_49_0 rfl <| r_tsw c_49_1 (by decide) (fun h1 => ?_) <| (fun i1 o1 ho1 h1 => ?_)
  · refine r_iconst c_49_35 <| r_iret c_49_36 <| ?_
    exact q_val k (by unfold hiK; (repeat' split) <;> omega)
  · match i1, ho1, h1 with
    | 0, ho1, h1 =>
      obtain rfl : 27 = o1 := Option.some.inj ho1
      refine r_iconst c_49_28 <| r_iret c_49_29 <| ?_
      exact q_val k (by unfold hiK; (repeat' split) <;> omega)
    | 1, ho1, h1 =>
      obtain rfl : 29 = o1 := Option.some.inj ho1
      refine r_bipush c_49_30 <| r_iret c_49_32 <| ?_
      exact q_val k (by unfold hiK; (repeat' split) <;> omega)
    | 2, ho1, h1 =>
      obtain rfl : 32 = o1 := Option.some.inj ho1
      refine r_iconst c_49_33 <| r_iret c_49_34 <| ?_
      exact q_val k (by unfold hiK; (repeat' split) <;> omega)
    | _ + 3, ho1, h1 => exact absurd ho1 (by simp)
theorem ct_dirF (z : Int) (k : Q (some (vI (dirF z))) h) : mm_call 56 [vI z] h Q := by
  refine ⟨Nat.le_of_ble_eq_true rfl, ?_⟩
  show mm_X 56 0 [vI z] [] _ _
  refine r_iload_n c_56_0 rfl <| r_bipush c_56_1 <| r_icmp_lt c_56_3 (fun h3 => ?_) <| (fun h3 => ?_)
  · refine r_iload_n c_56_14 rfl <| r_bipush c_56_15 <| r_icmp_ne c_56_17 (fun h17 => ?_) <| (fun h17 => ?_)
    · refine r_iconst c_56_24 <| r_iret c_56_25 <| ?_
      exact q_val k (by unfold dirF; (repeat' split) <;> omega)
    · refine r_iconst c_56_20 <| r_goto c_56_21 <| r_iret c_56_25 <| ?_
      exact q_val k (by unfold dirF; (repeat' split) <;> omega)
  · refine r_iload_n c_56_6 rfl <| r_bipush c_56_7 <| r_icmp_gt c_56_9 (fun h9 => ?_) <| (fun h9 => ?_)
    · refine r_iload_n c_56_14 rfl <| r_bipush c_56_15 <| r_icmp_ne c_56_17 (fun h17 => ?_) <| (fun h17 => ?_)
      · refine r_iconst c_56_24 <| r_iret c_56_25 <| ?_
        exact q_val k (by unfold dirF; (repeat' split) <;> omega)
      · refine r_iconst c_56_20 <| r_goto c_56_21 <| r_iret c_56_25 <| ?_
        exact q_val k (by unfold dirF; (repeat' split) <;> omega)
    · refine r_iconst c_56_12 <| r_iret c_56_13 <| ?_
      exact q_val k (by unfold dirF; (repeat' split) <;> omega)
theorem ct_stF (z : Int) (k : Q (some (vI (stF z))) h) : mm_call 53 [vI z] h Q := by
  refine ⟨Nat.le_of_ble_eq_true rfl, ?_⟩
  show mm_X 53 0 [vI z] [] _ _
  refine r_iload_n c_53_0 rfl <| r_sipush c_53_1 <| r_icmp_ge c_53_4 (fun h4 => ?_) <| (fun h4 => ?_)
  · refine r_iconst c_53_31 <| r_iret c_53_32 <| ?_
    exact q_val k (by unfold stF; (repeat' split) <;> omega)
  · refine r_iload_n c_53_7 rfl <| r_bipush c_53_8 <| r_icmp_lt c_53_10 (fun h10 => ?_) <| (fun h10 => ?_)
    · refine r_iload_n c_53_19 rfl <| r_bipush c_53_20 <| r_icmp_lt c_53_22 (fun h22 => ?_) <| (fun h22 => ?_)
      · refine r_iload_n c_53_33 rfl <| r_bipush c_53_34 <| r_icmp_eq c_53_36 (fun h36 => ?_) <| (fun h36 => ?_)
        · refine r_iconst c_53_45 <| r_iret c_53_46 <| ?_
          exact q_val k (by unfold stF; (repeat' split) <;> omega)
        · refine r_iload_n c_53_39 rfl <| r_bipush c_53_40 <| r_icmp_ne c_53_42 (fun h42 => ?_) <| (fun h42 => ?_)
          · refine r_iload_n c_53_47 rfl <| r_bipush c_53_48 <| r_icmp_lt c_53_50 (fun h50 => ?_) <| (fun h50 => ?_)
            · refine r_iconst c_53_63 <| r_iret c_53_64 <| ?_
              exact q_val k (by unfold stF; (repeat' split) <;> omega)
            · refine r_iload_n c_53_53 rfl <| r_bipush c_53_54 <| r_icmp_gt c_53_56 (fun h56 => ?_) <| (fun h56 => ?_)
              · refine r_iconst c_53_63 <| r_iret c_53_64 <| ?_
                exact q_val k (by unfold stF; (repeat' split) <;> omega)
              · refine r_iconst c_53_59 <| r_goto c_53_60 <| r_iret c_53_64 <| ?_
                exact q_val k (by unfold stF; (repeat' split) <;> omega)
          · refine r_iconst c_53_45 <| r_iret c_53_46 <| ?_
            exact q_val k (by unfold stF; (repeat' split) <;> omega)
      · refine r_iload_n c_53_25 rfl <| r_bipush c_53_26 <| r_icmp_gt c_53_28 (fun h28 => ?_) <| (fun h28 => ?_)
        · refine r_iload_n c_53_33 rfl <| r_bipush c_53_34 <| r_icmp_eq c_53_36 (fun h36 => ?_) <| (fun h36 => ?_)
          · refine r_iconst c_53_45 <| r_iret c_53_46 <| ?_
            exact q_val k (by unfold stF; (repeat' split) <;> omega)
          · refine r_iload_n c_53_39 rfl <| r_bipush c_53_40 <| r_icmp_ne c_53_42 (fun h42 => ?_) <| (fun h42 => ?_)
            · refine r_iload_n c_53_47 rfl <| r_bipush c_53_48 <| r_icmp_lt c_53_50 (fun h50 => ?_) <| (fun h50 => ?_)
              · refine r_iconst c_53_63 <| r_iret c_53_64 <| ?_
                exact q_val k (by unfold stF; (repeat' split) <;> omega)
              · refine r_iload_n c_53_53 rfl <| r_bipush c_53_54 <| r_icmp_gt c_53_56 (fun h56 => ?_) <| (fun h56 => ?_)
                · refine r_iconst c_53_63 <| r_iret c_53_64 <| ?_
                  exact q_val k (by unfold stF; (repeat' split) <;> omega)
                · refine r_iconst c_53_59 <| r_goto c_53_60 <| r_iret c_53_64 <| ?_
                  exact q_val k (by unfold stF; (repeat' split) <;> omega)
            · refine r_iconst c_53_45 <| r_iret c_53_46 <| ?_
              exact q_val k (by unfold stF; (repeat' split) <;> omega)
        · refine r_iconst c_53_31 <| r_iret c_53_32 <| ?_
          exact q_val k (by unfold stF; (repeat' split) <;> omega)
    · refine r_iload_n c_53_13 rfl <| r_bipush c_53_14 <| r_icmp_le c_53_16 (fun h16 => ?_) <| (fun h16 => ?_)
      · refine r_iconst c_53_31 <| r_iret c_53_32 <| ?_
        exact q_val k (by unfold stF; (repeat' split) <;> omega)
      · refine r_iload_n c_53_19 rfl <| r_bipush c_53_20 <| r_icmp_lt c_53_22 (fun h22 => ?_) <| (fun h22 => ?_)
        · refine r_iload_n c_53_33 rfl <| r_bipush c_53_34 <| r_icmp_eq c_53_36 (fun h36 => ?_) <| (fun h36 => ?_)
          · refine r_iconst c_53_45 <| r_iret c_53_46 <| ?_
            exact q_val k (by unfold stF; (repeat' split) <;> omega)
          · refine r_iload_n c_53_39 rfl <| r_bipush c_53_40 <| r_icmp_ne c_53_42 (fun h42 => ?_) <| (fun h42 => ?_)
            · refine r_iload_n c_53_47 rfl <| r_bipush c_53_48 <| r_icmp_lt c_53_50 (fun h50 => ?_) <| (fun h50 => ?_)
              · refine r_iconst c_53_63 <| r_iret c_53_64 <| ?_
                exact q_val k (by unfold stF; (repeat' split) <;> omega)
              · refine r_iload_n c_53_53 rfl <| r_bipush c_53_54 <| r_icmp_gt c_53_56 (fun h56 => ?_) <| (fun h56 => ?_)
                · refine r_iconst c_53_63 <| r_iret c_53_64 <| ?_
                  exact q_val k (by unfold stF; (repeat' split) <;> omega)
                · refine r_iconst c_53_59 <| r_goto c_53_60 <| r_iret c_53_64 <| ?_
                  exact q_val k (by unfold stF; (repeat' split) <;> omega)
            · refine r_iconst c_53_45 <| r_iret c_53_46 <| ?_
              exact q_val k (by unfold stF; (repeat' split) <;> omega)
        · refine r_iload_n c_53_25 rfl <| r_bipush c_53_26 <| r_icmp_gt c_53_28 (fun h28 => ?_) <| (fun h28 => ?_)
          · refine r_iload_n c_53_33 rfl <| r_bipush c_53_34 <| r_icmp_eq c_53_36 (fun h36 => ?_) <| (fun h36 => ?_)
            · refine r_iconst c_53_45 <| r_iret c_53_46 <| ?_
              exact q_val k (by unfold stF; (repeat' split) <;> omega)
            · refine r_iload_n c_53_39 rfl <| r_bipush c_53_40 <| r_icmp_ne c_53_42 (fun h42 => ?_) <| (fun h42 => ?_)
              · refine r_iload_n c_53_47 rfl <| r_bipush c_53_48 <| r_icmp_lt c_53_50 (fun h50 => ?_) <| (fun h50 => ?_)
                · refine r_iconst c_53_63 <| r_iret c_53_64 <| ?_
                  exact q_val k (by unfold stF; (repeat' split) <;> omega)
                · refine r_iload_n c_53_53 rfl <| r_bipush c_53_54 <| r_icmp_gt c_53_56 (fun h56 => ?_) <| (fun h56 => ?_)
                  · refine r_iconst c_53_63 <| r_iret c_53_64 <| ?_
                    exact q_val k (by unfold stF; (repeat' split) <;> omega)
                  · refine r_iconst c_53_59 <| r_goto c_53_60 <| r_iret c_53_64 <| ?_
                    exact q_val k (by unfold stF; (repeat' split) <;> omega)
              · refine r_iconst c_53_45 <| r_iret c_53_46 <| ?_
                exact q_val k (by unfold stF; (repeat' split) <;> omega)
          · refine r_iconst c_53_31 <| r_iret c_53_32 <| ?_
            exact q_val k (by unfold stF; (repeat' split) <;> omega)
theorem ct_joins (a b : Int) (k1 : a = b ∨ a = 3 → Q (some (vI 1)) h) (k0 : ¬ (a = b ∨ a = 3) → Q (some (vI 0)) h) : mm_call 109 [vI a, vI b] h Q := by
  refine ⟨Nat.le_of_ble_eq_true rfl, ?_⟩
  show mm_X 109 0 [vI a, vI b] [] _ _
  refine r_iload_n c_109_0 rfl <| r_iload_n c_109_1 rfl <| r_icmp_eq c_109_2 (fun h2 => ?_) <| (fun h2 => ?_)
  · refine r_iconst c_109_10 <| r_goto c_109_11 <| r_zret c_109_15 (Or.inr rfl) <| ?_
    first | exact k1 (by omega) | exact k0 (by omega)
  · refine r_iload_n c_109_5 rfl <| r_iconst c_109_6 <| r_icmp_ne c_109_7 (fun h7 => ?_) <| (fun h7 => ?_)
    · refine r_iconst c_109_14 <| r_zret c_109_15 (Or.inl rfl) <| ?_
      first | exact k1 (by omega) | exact k0 (by omega)
    · refine r_iconst c_109_10 <| r_goto c_109_11 <| r_zret c_109_15 (Or.inr rfl) <| ?_
      first | exact k1 (by omega) | exact k0 (by omega)
end SIMPLE
