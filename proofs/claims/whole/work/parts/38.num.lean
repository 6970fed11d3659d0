/-! NUMBERS with few letters: biases and digits, both sides. -/
def adE (r k : Int) : Int := k + 36 * r / (r + 38)
def adN : Nat → Int → Int → Int
  | 0, r, k => adE r k
  | n + 1, r, k => if 455 < r then adN n (r / 35) (k + 36) else adE r k
def adF (d p f : Int) : Int := adN 40 ((if f = 0 then d / 2 else d / 700) + (if f = 0 then d / 2 else d / 700) / p) 0
theorem adE_rng {r k : Int} (hr : 0 ≤ r) : k ≤ adE r k ∧ adE r k ≤ k + 36 ∧ 0 ≤ 36 * r / (r + 38) ∧ 36 * r / (r + 38) ≤ 36 := by
  have h1 : 0 ≤ 36 * r / (r + 38) := Int.ediv_nonneg (by omega) (by omega)
  have h2 : 36 * r / (r + 38) ≤ 36 := Int.ediv_le_of_le_mul (by omega) (by omega)
  unfold adE
  omega
theorem adN_rng : ∀ (n : Nat) (r k : Int), 0 ≤ r → k ≤ adN n r k ∧ adN n r k ≤ k + 36 * n + 36
  | 0, r, k, hr => by
    have := adE_rng (k := k) hr
    simp only [adN]; omega
  | n + 1, r, k, hr => by
    simp only [adN]
    split
    · have := adN_rng n (r / 35) (k + 36) (by omega)
      omega
    · have := adE_rng (k := k) hr
      omega
theorem edq {x d : Int} (hx : 0 ≤ x) (hd : 1 ≤ d) : 0 ≤ x / d ∧ x / d ≤ x := ⟨Int.ediv_nonneg hx (by omega), Int.ediv_le_self d hx⟩
theorem adF_rng {d p f : Int} (hd : 0 ≤ d) (hp : 1 ≤ p) : 0 ≤ adF d p f ∧ adF d p f ≤ 1476 := by
  have h0 : 0 ≤ (if f = 0 then d / 2 else d / 700) := by split <;> omega
  have h1 := edq h0 hp
  have := adN_rng 40 ((if f = 0 then d / 2 else d / 700) + (if f = 0 then d / 2 else d / 700) / p) 0 (by omega)
  unfold adF
  omega
theorem thr_rng (k b : Int) : 1 ≤ thr k b ∧ thr k b ≤ 26 := by unfold thr; (repeat' split) <;> omega
def wrN : Nat → Int → Int → Int → List Int
  | 0, q, _, _ => [dg q]
  | n + 1, q, k, b => if q < thr k b then [dg q] else dg (thr k b + (q - thr k b) % (36 - thr k b)) :: wrN n ((q - thr k b) / (36 - thr k b)) (k + 36) b
def wr (q b : Int) : List Int := wrN 40 q 36 b
theorem wr_step {q t : Int} (ht : 1 ≤ t ∧ t ≤ 26) (hq : t ≤ q) : 0 ≤ (q - t) % (36 - t) ∧ (q - t) % (36 - t) < 36 - t ∧ 0 ≤ (q - t) / (36 - t) ∧ (q - t) / (36 - t) ≤ q / 10 := by
  have h1 := Int.emod_nonneg (q - t) (show 36 - t ≠ 0 by omega)
  have h2 := Int.emod_lt_of_pos (q - t) (show 0 < 36 - t by omega)
  have h3 : 0 ≤ (q - t) / (36 - t) := Int.ediv_nonneg (by omega) (by omega)
  refine ⟨h1, h2, h3, ?_⟩
  have h4 : (q - t) / (36 - t) ≤ (q - t) / 10 := by
    apply Int.le_ediv_of_mul_le (by decide)
    have h5 : (q - t) / (36 - t) * (36 - t) ≤ q - t := Int.ediv_mul_le _ (by omega)
    have h6 : (q - t) / (36 - t) * 10 ≤ (q - t) / (36 - t) * (36 - t) := Int.mul_le_mul_of_nonneg_left (by omega) h3
    omega
  omega
theorem wrN_len : ∀ (n : Nat) (q k b : Int) (j : Nat), 0 ≤ q → q < 10 ^ j → (wrN n q k b).length ≤ j + 1
  | 0, q, k, b, j, h0, hj => by simp [wrN]
  | n + 1, q, k, b, 0, h0, hj => by
    have ht := thr_rng k b
    simp only [wrN]
    rw [if_pos (by simp at hj; omega)]; simp
  | n + 1, q, k, b, j + 1, h0, hj => by
    have ht := thr_rng k b
    simp only [wrN]
    split
    · simp
    · next h =>
      have hs := wr_step ht (by omega : thr k b ≤ q)
      rw [Int.pow_succ] at hj
      have := wrN_len n ((q - thr k b) / (36 - thr k b)) (k + 36) b j hs.2.2.1 (by omega)
      simp only [List.length_cons]; omega
theorem wr_len {q b : Int} (h0 : 0 ≤ q) (h1 : q < 1000000000) : ((wr q b).length : Int) ≤ 8 + q / 10000000 ∧ 1 ≤ (wr q b).length := by
  have hp : 1 ≤ (wr q b).length := by unfold wr wrN; split <;> simp
  refine ⟨?_, hp⟩
  rcases (show q < 10000000 ∨ (10000000 ≤ q ∧ q < 100000000) ∨ 100000000 ≤ q by omega) with h | ⟨h, h2⟩ | h
  · have := wrN_len 40 q 36 b 7 h0 h
    unfold wr; omega
  · have := wrN_len 40 q 36 b 8 h0 h2
    unfold wr; omega
  · have := wrN_len 40 q 36 b 9 h0 h1
    unfold wr; omega
section NUM
variable {L : Nat} {Q : Option mm_V → mm_H → Prop}
theorem pow_step {r : Int} {n : Nat} (h : r < 456 * 35 ^ (n + 1)) : r / 35 < 456 * 35 ^ n := by
  rw [Int.pow_succ] at h
  omega
theorem pow_big {r : Int} (h : r ≤ 20000000000) : r < 456 * 35 ^ 40 := by
  have : (20000000000 : Int) < 456 * 35 ^ 40 := by decide
  omega
theorem lp_adC {h : mm_H} {a0 a1 a2 : mm_V} {f : Int} : ∀ (n i : Nat) (r k : Int), i + n = 40 → 0 ≤ r → r ≤ 20000000000 → 0 ≤ k → k ≤ 36 * i → r < 456 * 35 ^ n → Q (some (vI (adN n r k))) h → mm_X 85 35 [a0, a1, a2, vI f, vJ r, mm_null, vI k, vI i] [] h Q := by
  intro n
  induction n with
  | zero =>
    intro i r k hi h0 hb hk hk2 hp kk
    have hp : r < 456 := by simpa using hp
    have hE := adE_rng (k := k) h0
    have kk : Q (some (vI (adE r k))) h := kk
    refine r_lload c_85_35 rfl <| r_ldc2_w c_85_37 <| r_lc_le c_85_40 c_85_41 (fun h40 => ?_) <| (fun h40 => ?_)
    · refine r_iload c_85_68 rfl <| r_ldc2_w c_85_70 <| r_lload c_85_73 rfl <| r_lmul c_85_75 (by omega) <| r_lload c_85_76 rfl <| r_ldc2_w c_85_78 <| r_ladd c_85_81 (by omega) <| r_ldiv c_85_82 (by omega) (by omega) <| r_l2i c_85_83 (by omega) <| r_iadd c_85_84 (by omega) <| ?_
      refine r_iret c_85_85 <| ?_
      exact kk
    · refine r_iload c_85_44 rfl <| r_bipush c_85_46 <| r_icmp_ge c_85_48 (fun h48 => ?_) <| (fun h48 => ?_)
      · refine r_iload c_85_68 rfl <| r_ldc2_w c_85_70 <| r_lload c_85_73 rfl <| r_lmul c_85_75 (by omega) <| r_lload c_85_76 rfl <| r_ldc2_w c_85_78 <| r_ladd c_85_81 (by omega) <| r_ldiv c_85_82 (by omega) (by omega) <| r_l2i c_85_83 (by omega) <| r_iadd c_85_84 (by omega) <| ?_
        refine r_iret c_85_85 <| ?_
        exact kk
      · exact absurd h40 (by omega)
  | succ n ih =>
    intro i r k hi h0 hb hk hk2 hp kk
    have hE := adE_rng (k := k) h0
    simp only [adN] at kk
    refine r_lload c_85_35 rfl <| r_ldc2_w c_85_37 <| r_lc_le c_85_40 c_85_41 (fun h40 => ?_) <| (fun h40 => ?_)
    · refine r_iload c_85_68 rfl <| r_ldc2_w c_85_70 <| r_lload c_85_73 rfl <| r_lmul c_85_75 (by omega) <| r_lload c_85_76 rfl <| r_ldc2_w c_85_78 <| r_ladd c_85_81 (by omega) <| r_ldiv c_85_82 (by omega) (by omega) <| r_l2i c_85_83 (by omega) <| r_iadd c_85_84 (by omega) <| ?_
      refine r_iret c_85_85 <| ?_
      first
      | exact absurd h48 (by omega)
      | (rw [if_neg (by omega)] at kk; exact kk)
    · refine r_iload c_85_44 rfl <| r_bipush c_85_46 <| r_icmp_ge c_85_48 (fun h48 => ?_) <| (fun h48 => ?_)
      · refine r_iload c_85_68 rfl <| r_ldc2_w c_85_70 <| r_lload c_85_73 rfl <| r_lmul c_85_75 (by omega) <| r_lload c_85_76 rfl <| r_ldc2_w c_85_78 <| r_ladd c_85_81 (by omega) <| r_ldiv c_85_82 (by omega) (by omega) <| r_l2i c_85_83 (by omega) <| r_iadd c_85_84 (by omega) <| ?_
        refine r_iret c_85_85 <| ?_
        first
        | exact absurd h48 (by omega)
        | (rw [if_neg (by omega)] at kk; exact kk)
      · refine r_lload c_85_51 rfl <| r_ldc2_w c_85_53 <| r_ldiv c_85_56 (by omega) (by omega) <| r_lstore_8_4 c_85_57 rfl <| r_iinc_8_6 c_85_59 rfl (by omega) <| r_iinc_8_7 c_85_62 rfl (by omega) <| r_goto c_85_65 <| ?_
        rw [if_pos (by omega)] at kk
        exact ih (i + 1) (r / 35) (k + 36) (by omega) (by omega) (by omega) (by omega) (by omega) (pow_step hp) kk
theorem ct_adapted {h : mm_H} (d p f : Int) (hd : 0 ≤ d ∧ d ≤ 10000000000) (hp : 1 ≤ p ∧ p ≤ 1000) (k : Q (some (vI (adF d p f))) h) : mm_call 85 [vJ d, vI p, vI f] h Q := by
  have key : ∀ r, r = (if f = 0 then d / 2 else d / 700) → mm_X 85 19 [vJ d, mm_null, vI p, vI f, vJ r, mm_null, mm_null, mm_null] [] h Q := by
    intro r hr
    have h0 : 0 ≤ r ∧ r ≤ 5000000000 := by rw [hr]; split <;> omega
    have h1 := edq h0.1 hp.1
    have k : Q (some (vI (adN 40 (r + r / p) 0))) h := by rw [hr]; exact k
    refine r_lload c_85_19 rfl <| r_lload c_85_21 rfl <| r_iload_n c_85_23 rfl <| r_i2l c_85_24 <| r_ldiv c_85_25 (by omega) (by omega) <| r_ladd c_85_26 (by omega) <| r_lstore_8_4 c_85_27 rfl <| r_iconst c_85_29 <| r_istore_8_6 c_85_30 rfl <| r_iconst c_85_32 <| ?_
    refine r_istore_8_7 c_85_33 rfl <| ?_
    exact lp_adC 40 0 _ 0 rfl (by omega) (by omega) (by omega) (by omega) (pow_big (by omega)) k
  refine ⟨Nat.le_of_ble_eq_true rfl, ?_⟩
  show mm_X 85 0 [vJ d, mm_null, vI p, vI f, mm_null, mm_null, mm_null, mm_null] [] _ _
  refine r_iload_n c_85_0 rfl <| r_if_eq c_85_1 (fun h1 => ?_) <| (fun h1 => ?_)
  · refine r_lload_n c_85_12 rfl <| r_ldc2_w c_85_13 <| r_ldiv c_85_16 (by omega) (by omega) <| r_lstore_8_4 c_85_17 rfl <| ?_
    first | exact key _ (by rw [if_pos (by omega)]) | exact key _ (by rw [if_neg (by omega)])
  · refine r_lload_n c_85_4 rfl <| r_ldc2_w c_85_5 <| r_ldiv c_85_8 (by omega) (by omega) <| r_goto c_85_9 <| r_lstore_8_4 c_85_17 rfl <| ?_
    first | exact key _ (by rw [if_pos (by omega)]) | exact key _ (by rw [if_neg (by omega)])
theorem lp_adM {h : mm_H} {a0 a1 a2 : mm_V} {f : Int} : ∀ (n : Nat) (r k : Int), 0 ≤ r → r ≤ 20000000000 → 0 ≤ k → k + 36 * n ≤ 1440 → r < 456 * 35 ^ n → Q (some (vI (adN n r k))) h → mm_X 170 32 [a0, a1, a2, vI f, vJ r, mm_null, vI k] [] h Q := by
  intro n
  induction n with
  | zero =>
    intro r k h0 hb hk hk2 hp kk
    have hp : r < 456 := by simpa using hp
    have hE := adE_rng (k := k) h0
    have kk : Q (some (vI (adE r k))) h := kk
    refine r_lload c_170_32 rfl <| r_ldc2_w c_170_34 <| r_lc_le c_170_37 c_170_38 (fun h37 => ?_) <| (fun h37 => ?_)
    · refine r_iload c_170_55 rfl <| r_i2l c_170_57 <| r_ldc2_w c_170_58 <| r_lload c_170_61 rfl <| r_lmul c_170_63 (by omega) <| r_lload c_170_64 rfl <| r_ldc2_w c_170_66 <| r_ladd c_170_69 (by omega) <| r_ldiv c_170_70 (by omega) (by omega) <| r_ladd c_170_71 (by omega) <| ?_
      refine r_l2i c_170_72 (by omega) <| r_iret c_170_73 <| ?_
      exact kk
    · exact absurd h37 (by omega)
  | succ n ih =>
    intro r k h0 hb hk hk2 hp kk
    have hE := adE_rng (k := k) h0
    simp only [adN] at kk
    refine r_lload c_170_32 rfl <| r_ldc2_w c_170_34 <| r_lc_le c_170_37 c_170_38 (fun h37 => ?_) <| (fun h37 => ?_)
    · refine r_iload c_170_55 rfl <| r_i2l c_170_57 <| r_ldc2_w c_170_58 <| r_lload c_170_61 rfl <| r_lmul c_170_63 (by omega) <| r_lload c_170_64 rfl <| r_ldc2_w c_170_66 <| r_ladd c_170_69 (by omega) <| r_ldiv c_170_70 (by omega) (by omega) <| r_ladd c_170_71 (by omega) <| ?_
      refine r_l2i c_170_72 (by omega) <| r_iret c_170_73 <| ?_
      rw [if_neg (by omega)] at kk; exact kk
    · refine r_lload c_170_41 rfl <| r_ldc2_w c_170_43 <| r_ldiv c_170_46 (by omega) (by omega) <| r_lstore_7_4 c_170_47 rfl <| r_iinc_7_6 c_170_49 rfl (by omega) <| r_goto c_170_52 <| ?_
      rw [if_pos (by omega)] at kk
      exact ih (r / 35) (k + 36) (by omega) (by omega) (by omega) (by omega) (pow_step hp) kk
theorem ct_madapted {h : mm_H} (d p f : Int) (hd : 0 ≤ d ∧ d ≤ 10000000000) (hp : 1 ≤ p ∧ p ≤ 1000) (k : Q (some (vI (adF d p f))) h) : mm_call 170 [vJ d, vI p, vI f] h Q := by
  have key : ∀ r, r = (if f = 0 then d / 2 else d / 700) → mm_X 170 19 [vJ d, mm_null, vI p, vI f, vJ r, mm_null, mm_null] [] h Q := by
    intro r hr
    have h0 : 0 ≤ r ∧ r ≤ 5000000000 := by rw [hr]; split <;> omega
    have h1 := edq h0.1 hp.1
    have k : Q (some (vI (adN 40 (r + r / p) 0))) h := by rw [hr]; exact k
    refine r_lload c_170_19 rfl <| r_lload c_170_21 rfl <| r_iload_n c_170_23 rfl <| r_i2l c_170_24 <| r_ldiv c_170_25 (by omega) (by omega) <| r_ladd c_170_26 (by omega) <| r_lstore_7_4 c_170_27 rfl <| r_iconst c_170_29 <| r_istore_7_6 c_170_30 rfl <| ?_
    exact lp_adM 40 _ 0 (by omega) (by omega) (by omega) (by omega) (pow_big (by omega)) k
  refine ⟨Nat.le_of_ble_eq_true rfl, ?_⟩
  show mm_X 170 0 [vJ d, mm_null, vI p, vI f, mm_null, mm_null, mm_null] [] _ _
  refine r_iload_n c_170_0 rfl <| r_if_eq c_170_1 (fun h1 => ?_) <| (fun h1 => ?_)
  · refine r_lload_n c_170_12 rfl <| r_ldc2_w c_170_13 <| r_ldiv c_170_16 (by omega) (by omega) <| r_lstore_7_4 c_170_17 rfl <| ?_
    first | exact key _ (by rw [if_pos (by omega)]) | exact key _ (by rw [if_neg (by omega)])
  · refine r_lload_n c_170_4 rfl <| r_ldc2_w c_170_5 <| r_ldiv c_170_8 (by omega) (by omega) <| r_goto c_170_9 <| r_lstore_7_4 c_170_17 rfl <| ?_
    first | exact key _ (by rw [if_pos (by omega)]) | exact key _ (by rw [if_neg (by omega)])
theorem p10_step {q q' : Int} {n : Nat} (h : q < 10 ^ (n + 1)) (h2 : q' ≤ q / 10) : q' < 10 ^ n := by
  rw [Int.pow_succ] at h
  omega
theorem lp_wrC {rt : Nat} {b q0 : Int} (hrt : isRow L rt 300) (hb : 0 ≤ b ∧ b ≤ 100000) : ∀ (n i : Nat) (q : Int) (l : List Int) (σ : mk_S) (a7 : mm_V) (Q : Option mm_V → mm_H → Prop), i + n = 40 → 1 ≤ i → 0 ≤ q → q ≤ 10000000000 → q < 10 ^ n → rowOK σ rt 300 l →
    ((l ++ wrN (n + 1) q (36 * i) b).length ≤ 300 → ∀ σ', rowOK σ' rt 300 (l ++ wrN (n + 1) q (36 * i) b) → fr2 rt σ σ' → Q (some (vI 1)) (hp L σ')) → (300 < (l ++ wrN (n + 1) q (36 * i) b).length → ∀ σ' l', rowOK σ' rt 300 l' → l'.length = 300 → fr2 rt σ σ' → Q (some (vI 0)) (hp L σ')) →
    mm_X 82 6 [vJ q0, mm_null, vI b, vP rt, vJ q, mm_null, vI i, a7] [] (hp L σ) Q := by
  intro n
  induction n with
  | zero =>
    intro i q l σ a7 Q hi hi1 h0 hb2 hp hl k1 k0
    have hq : q = 0 := by simp at hp; omega
    have ht := thr_rng (36 * i) b
    have e : wrN 1 q (36 * i) b = [dg q] := by simp only [wrN]; rw [if_pos (by omega)]
    rw [show 0 + 1 = 1 from rfl, e] at k1 k0
    refine r_iload c_82_6 rfl <| r_bipush c_82_8 <| r_icmp_gt c_82_10 (fun h10 => ?_) <| (fun h10 => ?_)
    · exact absurd h10 (by omega)
    · refine r_bipush c_82_13 <| r_iload c_82_15 rfl <| r_imul c_82_17 (by omega) <| r_iload_n c_82_18 rfl <| r_cS2 c_82_19 (Nat.le_of_ble_eq_true rfl) <| ?_
      refine ct_threshold _ _ (by omega) ?_
      refine r_istore_8_7 c_82_22 rfl <| r_lload c_82_24 rfl <| r_iload c_82_26 rfl <| r_i2l c_82_28 <| r_lc_ge c_82_29 c_82_30 (fun h29 => ?_) <| (fun h29 => ?_)
      · exact absurd h29 (by omega)
      · refine r_aload_n c_82_33 rfl <| r_lload c_82_34 rfl <| r_l2i c_82_36 (by omega) <| r_cS1 c_82_37 (Nat.le_of_ble_eq_true rfl) <| ?_
        refine ct_digitOf q (by omega) ?_
        refine r_cV1 c_82_40 hrt.1 (Nat.le_of_ble_eq_true rfl) <| ?_
        refine ct_append hrt hl _ (fun hlt σ1 hl1 hf1 => ?_) (fun hfull => ?_)
        · refine r_zret c_82_43 (Or.inr rfl) <| ?_
          first | exact k1 (by simp; omega) σ1 hl1 hf1 | exact k0 (by simp; omega) σ l hl hfull fr2.rf
        · refine r_zret c_82_43 (Or.inl rfl) <| ?_
          first | exact k1 (by simp; omega) σ1 hl1 hf1 | exact k0 (by simp; omega) σ l hl hfull fr2.rf
  | succ n ih =>
    intro i q l σ a7 Q hi hi1 h0 hb2 hp hl k1 k0
    have ht := thr_rng (36 * i) b
    have hs := fun h => wr_step ht (h : thr (36 * i) b ≤ q)
    have hle := hl.2.1
    rw [wrN] at k1 k0
    refine r_iload c_82_6 rfl <| r_bipush c_82_8 <| r_icmp_gt c_82_10 (fun h10 => ?_) <| (fun h10 => ?_)
    · exact absurd h10 (by omega)
    · refine r_bipush c_82_13 <| r_iload c_82_15 rfl <| r_imul c_82_17 (by omega) <| r_iload_n c_82_18 rfl <| r_cS2 c_82_19 (Nat.le_of_ble_eq_true rfl) <| ?_
      refine ct_threshold _ _ (by omega) ?_
      refine r_istore_8_7 c_82_22 rfl <| r_lload c_82_24 rfl <| r_iload c_82_26 rfl <| r_i2l c_82_28 <| r_lc_ge c_82_29 c_82_30 (fun h29 => ?_) <| (fun h29 => ?_)
      · have hs := hs (by omega)
        rw [if_neg (by omega)] at k1 k0
        refine r_aload_n c_82_44 rfl <| r_iload c_82_45 rfl <| r_i2l c_82_47 <| r_lload c_82_48 rfl <| r_iload c_82_50 rfl <| r_i2l c_82_52 <| r_lsub c_82_53 (by omega) <| r_bipush c_82_54 <| r_iload c_82_56 rfl <| r_isub c_82_58 (by omega) <| ?_
        refine r_i2l c_82_59 <| r_lrem c_82_60 (by omega) (by omega) <| r_ladd c_82_61 (by omega) <| r_l2i c_82_62 (by omega) <| r_cS1 c_82_63 (Nat.le_of_ble_eq_true rfl) <| ?_
        refine ct_digitOf _ (by omega) ?_
        refine r_cV1 c_82_66 hrt.1 (Nat.le_of_ble_eq_true rfl) <| ?_
        refine ct_append hrt hl _ (fun hlt σ1 hl1 hf1 => ?_) (fun hfull => ?_)
        · refine r_if_ne c_82_69 (fun _ => ?_) <| (fun h => absurd h (by decide))
          refine r_lload c_82_74 rfl <| r_iload c_82_76 rfl <| r_i2l c_82_78 <| r_lsub c_82_79 (by omega) <| r_bipush c_82_80 <| r_iload c_82_82 rfl <| r_isub c_82_84 (by omega) <| r_i2l c_82_85 <| r_ldiv c_82_86 (by omega) (by omega) <| r_lstore_8_4 c_82_87 rfl <| ?_
          refine r_iinc_8_6 c_82_89 rfl (by omega) <| r_goto c_82_92 <| ?_
          have ek : (36 : Int) * (i : Int) + 36 = 36 * ((i + 1 : Nat) : Int) := by omega
          rw [ek] at k1 k0
          refine ih (i + 1) _ _ σ1 _ Q (by omega) (by omega) hs.2.2.1 (by omega) (p10_step hp hs.2.2.2) hl1 (fun h9 σ2 g1 g2 => k1 (by simpa using h9) σ2 (by simpa using g1) (hf1.tr g2)) (fun h9 σ2 l2 g1 g3 g2 => k0 (by simpa using h9) σ2 l2 g1 g3 (hf1.tr g2))
        · refine r_if_ne c_82_69 (fun h => absurd h (by decide)) <| (fun _ => ?_)
          refine r_iconst c_82_72 <| r_zret c_82_73 (Or.inl rfl) <| ?_
          exact k0 (by simp only [List.length_append, List.length_cons]; omega) σ l hl hfull fr2.rf
      · refine r_aload_n c_82_33 rfl <| r_lload c_82_34 rfl <| r_l2i c_82_36 (by omega) <| r_cS1 c_82_37 (Nat.le_of_ble_eq_true rfl) <| ?_
        refine ct_digitOf q (by omega) ?_
        refine r_cV1 c_82_40 hrt.1 (Nat.le_of_ble_eq_true rfl) <| ?_
        refine ct_append hrt hl _ (fun hlt σ1 hl1 hf1 => ?_) (fun hfull => ?_)
        · refine r_zret c_82_43 (Or.inr rfl) <| ?_
          rw [if_pos (by omega)] at k1 k0
          first | exact k1 (by simp; omega) σ1 hl1 hf1 | exact k0 (by simp; omega) σ l hl hfull fr2.rf
        · refine r_zret c_82_43 (Or.inl rfl) <| ?_
          rw [if_pos (by omega)] at k1 k0
          first | exact k1 (by simp; omega) σ1 hl1 hf1 | exact k0 (by simp; omega) σ l hl hfull fr2.rf
theorem ct_wrC {σ : mk_S} {rt : Nat} {l : List Int} (q b : Int) (hrt : isRow L rt 300) (hb : 0 ≤ b ∧ b ≤ 100000) (hq : 0 ≤ q ∧ q ≤ 10000000000) (hl : rowOK σ rt 300 l)
    (k1 : (l ++ wr q b).length ≤ 300 → ∀ σ', rowOK σ' rt 300 (l ++ wr q b) → fr2 rt σ σ' → Q (some (vI 1)) (hp L σ')) (k0 : 300 < (l ++ wr q b).length → ∀ σ' l', rowOK σ' rt 300 l' → l'.length = 300 → fr2 rt σ σ' → Q (some (vI 0)) (hp L σ')) : mm_call 82 [vJ q, vI b, vP rt] (hp L σ) Q := by
  refine ⟨Nat.le_of_ble_eq_true rfl, ?_⟩
  show mm_X 82 0 [vJ q, mm_null, vI b, vP rt, mm_null, mm_null, mm_null, mm_null] [] _ _
  refine r_lload_n c_82_0 rfl <| r_lstore_8_4 c_82_1 rfl <| r_iconst c_82_3 <| r_istore_8_6 c_82_4 rfl <| ?_
  have hbig : (10000000000 : Int) < 10 ^ 39 := by decide
  exact lp_wrC hrt hb 39 1 q l σ _ Q rfl (by omega) hq.1 hq.2 (by omega) hl k1 k0
end NUM
