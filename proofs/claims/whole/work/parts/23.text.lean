/-! THE TEXT: octets that come in, and are read as points; both sides. -/
-- octets of a long
def oct (v : Int) (i : Nat) : Int := mm_s64 (fun x y => x &&& y) (mm_lushr1 v (8 * i)) 255
theorem oct_key (x : Int64) (k : Nat) (hk : k < 8) : (((x.toUInt64 >>> ((Int32.ofInt (8 * (k : Int))).toInt64.toUInt64 &&& Int64.toUInt64 63)).toInt64) &&& (Int64.ofInt 255)).toInt = (x.toBitVec.toNat / 2 ^ (8 * k) % 256 : Nat) ∧ (x >>> ((Int32.ofInt (8 * (k : Int))).toInt64 &&& 63)).toInt = x.toInt / (2 ^ (8 * k) : Nat) := by
  have hs : ((Int32.ofInt (8 * (k : Int))).toInt64.toUInt64 &&& Int64.toUInt64 63).toBitVec % 64 = BitVec.ofNat 64 (8 * k) ∧ ((Int32.ofInt (8 * (k : Int))).toInt64 &&& 63).toBitVec.smod 64 = BitVec.ofNat 64 (8 * k) := by
    match k, hk with
    | 0, _ => decide
    | 1, _ => decide
    | 2, _ => decide
    | 3, _ => decide
    | 4, _ => decide
    | 5, _ => decide
    | 6, _ => decide
    | 7, _ => decide
    | k + 8, hk => exact absurd hk (by omega)
  constructor
  · have e : (((x.toUInt64 >>> ((Int32.ofInt (8 * (k : Int))).toInt64.toUInt64 &&& Int64.toUInt64 63)).toInt64) &&& (Int64.ofInt 255)).toBitVec = (x.toBitVec >>> (8 * k)) &&& 255#64 := by
      rw [Int64.toBitVec_and]
      show (x.toUInt64 >>> ((Int32.ofInt (8 * (k : Int))).toInt64.toUInt64 &&& Int64.toUInt64 63)).toBitVec &&& 255#64 = _
      rw [UInt64.toBitVec_shiftRight, hs.1]
      congr 1
      rw [BitVec.ushiftRight_eq', BitVec.toNat_ofNat, Nat.mod_eq_of_lt (by omega)]
      rfl
    have hn : ((x.toBitVec >>> (8 * k)) &&& 255#64).toNat = x.toBitVec.toNat / 2 ^ (8 * k) % 256 := by
      rw [BitVec.toNat_and, BitVec.toNat_ushiftRight, Nat.shiftRight_eq_div_pow]
      exact Nat.and_two_pow_sub_one_eq_mod _ 8
    show (((x.toUInt64 >>> ((Int32.ofInt (8 * (k : Int))).toInt64.toUInt64 &&& Int64.toUInt64 63)).toInt64) &&& (Int64.ofInt 255)).toBitVec.toInt = _
    rw [e, BitVec.toInt_eq_toNat_of_lt (by rw [hn]; omega), hn]
  · show (x >>> ((Int32.ofInt (8 * (k : Int))).toInt64 &&& 63)).toBitVec.toInt = _
    rw [Int64.toBitVec_shiftRight, hs.2, BitVec.sshiftRight_eq', BitVec.toNat_ofNat, Nat.mod_eq_of_lt (by omega), BitVec.toInt_sshiftRight, Int.shiftRight_eq_div_pow]
    rfl
theorem oct_rng (v : Int) (i : Nat) (hi : i < 8) : 0 ≤ oct v i ∧ oct v i ≤ 255 := by
  have := (oct_key (Int64.ofInt v) i hi).1
  unfold oct mm_s64 mm_lushr1
  rw [Int64.ofInt_toInt, this]
  omega
theorem w8_mod {z z' : Int} (h : z % 256 = z' % 256) : mm_w8 (mm_w32 z) = mm_w8 z' := by unfold mm_w8 mm_w32; omega
theorem w8w8 (z : Int) : mm_w8 (mm_w8 z) = mm_w8 z := by unfold mm_w8; omega
theorem oct_arith {m W : Nat} {x d e : Int} (hd : d ≠ 0) (hW : (W : Int) = d * (256 * e)) (hx : x = if 2 * m < W then (m : Int) else (m : Int) - W) : (x / d) % 256 = ((m : Int) / d) % 256 := by
  subst hx
  split
  · rfl
  · rw [hW, show (m : Int) - d * (256 * e) = m + d * (-(256 * e)) by rw [Int.mul_neg]; rfl, Int.add_mul_ediv_left _ _ hd]
    omega
theorem oct_w8 (v : Int) (i : Nat) (hi : i < 8) : mm_w8 (mm_w32 (mm_lshr1 v (8 * i))) = mm_w8 (oct v i) := by
  obtain ⟨h1, h2⟩ := oct_key (Int64.ofInt v) i hi
  unfold oct mm_s64 mm_lushr1 mm_lshr1
  rw [Int64.ofInt_toInt, h1, h2]
  have h4 : (Int64.ofInt v).toInt = if 2 * (Int64.ofInt v).toBitVec.toNat < 2 ^ 64 then ((Int64.ofInt v).toBitVec.toNat : Int) else ((Int64.ofInt v).toBitVec.toNat : Int) - ((2 ^ 64 : Nat) : Int) := BitVec.toInt_eq_toNat_cond (Int64.ofInt v).toBitVec
  have hW : (((2 ^ 64 : Nat)) : Int) = ((2 ^ (8 * i) : Nat) : Int) * (256 * ((2 ^ (56 - 8 * i) : Nat) : Int)) := by
    have e : (2 : Nat) ^ 64 = 2 ^ (8 * i) * (2 ^ 8 * 2 ^ (56 - 8 * i)) := by
      rw [← Nat.pow_add, ← Nat.pow_add]
      congr 1
      omega
    rw [e, Int.natCast_mul, Int.natCast_mul]
    rfl
  have hd : ((2 ^ (8 * i) : Nat) : Int) ≠ 0 := by
    have := Nat.two_pow_pos (8 * i)
    omega
  have h5 := oct_arith hd hW h4
  apply w8_mod
  rw [h5, Int.natCast_emod, Int.natCast_ediv]
  generalize ((Int64.ofInt v).toBitVec.toNat : Int) / ((2 ^ (8 * i) : Nat) : Int) = q
  show q % 256 = q % 256 % 256
  omega
def octL (v : Int) : Nat → List Int
  | 0 => []
  | n + 1 => oct v n :: octL v n
theorem octL_len (v : Int) : ∀ n, (octL v n).length = n
  | 0 => rfl
  | n + 1 => by simp [octL, octL_len v n]
-- what lists hold
def octs (l : List Int) : Prop := ∀ i, i < l.length → 0 ≤ l.getD i 0 ∧ l.getD i 0 ≤ 255
def pts (l : List Int) : Prop := ∀ i, i < l.length → isPt (l.getD i 0)
theorem octs_nil : octs [] := fun i h => absurd h (Nat.not_lt_zero i)
theorem pts_nil : pts [] := fun i h => absurd h (Nat.not_lt_zero i)
theorem octs_app {l : List Int} {z : Int} (h : octs l) (hz : 0 ≤ z ∧ z ≤ 255) : octs (l ++ [z]) := by
  intro i hi
  simp only [List.length_append, List.length_cons, List.length_nil] at hi
  by_cases e : i = l.length
  · subst e; rw [gd_app_at]; exact hz
  · rw [gd_app (by omega)]; exact h i (by omega)
theorem pts_app {l : List Int} {z : Int} (h : pts l) (hz : isPt z) : pts (l ++ [z]) := by
  intro i hi
  simp only [List.length_append, List.length_cons, List.length_nil] at hi
  by_cases e : i = l.length
  · subst e; rw [gd_app_at]; exact hz
  · rw [gd_app (by omega)]; exact h i (by omega)
-- the reference's frames: cells A may change, and of cell 55 the fields F
def mf (A F : List Nat) (σ σ' : mk_S) : Prop := (∀ a, a ≠ 55 → a ∉ A → σ' a = σ a) ∧ ∀ j, j ∉ F → σ' 55 j = σ 55 j
theorem mf.rf {A F : List Nat} {σ : mk_S} : mf A F σ σ := ⟨fun _ _ _ => rfl, fun _ _ => rfl⟩
theorem mf.tr {A F : List Nat} {σ σ' σ'' : mk_S} (h : mf A F σ σ') (g : mf A F σ' σ'') : mf A F σ σ'' := ⟨fun a h1 h2 => (g.1 a h1 h2).trans (h.1 a h1 h2), fun j hj => (g.2 j hj).trans (h.2 j hj)⟩
theorem mf.up {A F A' F' : List Nat} {σ σ' : mk_S} (h : mf A F σ σ') (hA : ∀ a, a ∈ A → a ∈ A') (hF : ∀ a, a ∈ F → a ∈ F') : mf A' F' σ σ' := ⟨fun a h1 h2 => h.1 a h1 (fun q => h2 (hA a q)), fun j hj => h.2 j (fun q => hj (hF j q))⟩
theorem mf.stA {A F : List Nat} {σ σ' : mk_S} {a k : Nat} {z : Int} (h : mf A F σ σ') (h1 : a ≠ 55) (h2 : a ∈ A) : mf A F σ (sto σ' a k z) := ⟨fun b g1 g2 => by rw [sto_ne (fun (e : b = a) => g2 (by rw [e]; exact h2))]; exact h.1 b g1 g2, fun j hj => by rw [sto_ne (Ne.symm h1)]; exact h.2 j hj⟩
theorem mf.stF {A F : List Nat} {σ σ' : mk_S} {k : Nat} {z : Int} (h : mf A F σ σ') (h2 : k ∈ F) : mf A F σ (sto σ' 55 k z) := ⟨fun b g1 g2 => by rw [sto_ne g1]; exact h.1 b g1 g2, fun j hj => by rw [sto_get2 (Or.inr (fun (e : j = k) => hj (by rw [e]; exact h2)))]; exact h.2 j hj⟩
def arr (σ : mk_S) (a : Nat) (l : List Int) : Prop := ∀ i, i < l.length → σ a i = l.getD i 0
theorem arr.eq {σ σ' : mk_S} {a : Nat} {l : List Int} (h : arr σ a l) (e : σ' a = σ a) : arr σ' a l := fun i hi => by rw [e]; exact h i hi
theorem arr_push {σ σ' : mk_S} {a : Nat} {l : List Int} {z : Int} (h : arr σ a l) (e : σ' a = mm_st (σ a) l.length z) : arr σ' a (l ++ [z]) := by
  intro i hi
  simp only [List.length_append, List.length_cons, List.length_nil] at hi
  rw [e]
  by_cases q : i = l.length
  · subst q; rw [st_at, gd_app_at]
  · rw [st_ne q, gd_app (by omega)]; exact h i (by omega)
theorem arr_nil {σ : mk_S} {a : Nat} : arr σ a [] := fun i h => absurd h (Nat.not_lt_zero i)
def mText (σ : mk_S) (t : List Int) : Prop := σ 55 2 = (t.length : Int) ∧ t.length ≤ 400 ∧ ∀ i, i < t.length → σ 56 i = mm_w8 (t.getD i 0)
def mRow (σ : mk_S) (w : List Int) : Prop := σ 55 4 = (w.length : Int) ∧ w.length ≤ 300 ∧ arr σ 57 w
theorem mText.eq {σ σ' : mk_S} {t : List Int} (h : mText σ t) (e1 : σ' 55 2 = σ 55 2) (e2 : σ' 56 = σ 56) : mText σ' t := by
  unfold mText; rw [e1, e2]; exact h
theorem mRow.eq {σ σ' : mk_S} {t : List Int} (h : mRow σ t) (e1 : σ' 55 4 = σ 55 4) (e2 : σ' 57 = σ 57) : mRow σ' t := by
  unfold mRow; rw [e1]; exact ⟨h.1, h.2.1, h.2.2.eq e2⟩
section TEXT
variable {L : Nat} {Q : Option mm_V → mm_H → Prop}
-- feed
def feedN (t : List Int) (n : Int) : Int := if n < 0 ∨ 8 < n then -2 else if n = 0 then 0 else if 400 < t.length + n then -4 else t.length + n
def feedT (t : List Int) (v n : Int) : List Int := if n < 0 ∨ 8 < n then t else if n = 0 then [] else if 400 < t.length + n then t else t ++ octL v n.toNat
theorem lp_feed {v n : Int} : ∀ (k : Nat) (t : List Int) (σ : mk_S) (Q : Option mm_V → mm_H → Prop), k ≤ 8 → rowOK σ 3 400 t → t.length + k ≤ 400 → (∀ σ', rowOK σ' 3 400 (t ++ octL v k) → fr2 3 σ σ' → Q (some (vI ((t.length + k : Nat) : Int))) (hp L σ')) →
    mm_X 11 49 [vP 2, vJ v, mm_null, vI n, vI ((k : Int) - 1)] [] (hp L σ) Q := by
  intro k
  induction k with
  | zero =>
    intro t σ Q hk hl hle kk
    refine r_iload c_11_49 rfl <| r_if_lt c_11_51 (fun h51 => ?_) <| (fun h51 => ?_)
    · refine r_aload_n c_11_80 rfl <| r_getf_a c_11_81 rfl rfl <| r_cV0 c_11_84 rfl (Nat.le_of_ble_eq_true rfl) <| ?_
      refine ct_size row3 hl ?_
      refine r_iret c_11_87 <| ?_
      exact kk σ (by simpa [octL] using hl) fr2.rf
    · exact absurd h51 (by omega)
  | succ k ih =>
    intro t σ Q hk hl hle kk
    rw [show ((k + 1 : Nat) : Int) - 1 = (k : Int) by omega]
    have ho := oct_rng v k (by omega)
    refine r_iload c_11_49 rfl <| r_if_lt c_11_51 (fun h51 => ?_) <| (fun h51 => ?_)
    · exact absurd h51 (by omega)
    · refine r_aload_n c_11_54 rfl <| r_getf_a c_11_55 rfl rfl <| r_lload_n c_11_58 rfl <| r_bipush c_11_59 <| r_iload c_11_61 rfl <| r_imul c_11_63 (by omega) <| r_lushr c_11_64 rfl <| r_ldc2_w c_11_65 <| r_land c_11_68 rfl <| r_l2i c_11_69 (by show _ ≤ oct v k ∧ oct v k ≤ _; omega) <| ?_
      refine r_cV1 c_11_70 rfl (Nat.le_of_ble_eq_true rfl) <| ?_
      refine ct_append row3 hl _ (fun hlt σ1 hl1 hf1 => ?_) (fun hfull => ?_)
      · refine r_pop c_11_73 (v := vI _) rfl <| r_iinc_5_4 c_11_74 rfl (by omega) <| r_goto c_11_77 <| ?_
        first
        | exact absurd hfull (by omega)
        | (refine ih _ σ1 Q (by omega) hl1 (by simp; omega) (fun σ2 g1 g2 => ?_)
           have e := kk σ2 (by simpa [octL, oct] using g1) (hf1.tr g2)
           simp only [List.length_append, List.length_cons, List.length_nil]
           rw [show t.length + (0 + 1) + k = t.length + (k + 1) by omega]
           exact e)
      · refine r_pop c_11_73 (v := vI _) rfl <| r_iinc_5_4 c_11_74 rfl (by omega) <| r_goto c_11_77 <| ?_
        first
        | exact absurd hfull (by omega)
        | (refine ih _ σ1 Q (by omega) hl1 (by simp; omega) (fun σ2 g1 g2 => ?_)
           have e := kk σ2 (by simpa [octL, oct] using g1) (hf1.tr g2)
           simp only [List.length_append, List.length_cons, List.length_nil]
           rw [show t.length + (0 + 1) + k = t.length + (k + 1) by omega]
           exact e)
theorem ct_feed {σ : mk_S} {t : List Int} (hl : rowOK σ 3 400 t) (v n : Int) (hn : -2147483648 ≤ n ∧ n ≤ 2147483647) (k : ∀ σ', rowOK σ' 3 400 (feedT t v n) → fr2 3 σ σ' → Q (some (vI (feedN t n))) (hp L σ')) : mm_call 11 [vP 2, vJ v, vI n] (hp L σ) Q := by
  refine ⟨Nat.le_of_ble_eq_true rfl, ?_⟩
  show mm_X 11 0 [vP 2, vJ v, mm_null, vI n, mm_null] [] _ _
  refine r_iload_n c_11_0 rfl <| r_if_lt c_11_1 (fun h1 => ?_) <| (fun h1 => ?_)
  · refine r_bipush c_11_10 <| r_iret c_11_12 <| ?_
    have e1 : feedN t n = -2 := by unfold feedN; rw [if_pos (by omega)]
    have e2 : feedT t v n = t := by unfold feedT; rw [if_pos (by omega)]
    have := k σ (by rw [e2]; exact hl) fr2.rf
    rw [e1] at this; exact this
  · refine r_iload_n c_11_4 rfl <| r_bipush c_11_5 <| r_icmp_le c_11_7 (fun h7 => ?_) <| (fun h7 => ?_)
    · refine r_iload_n c_11_13 rfl <| r_if_ne c_11_14 (fun h14 => ?_) <| (fun h14 => ?_)
      · refine r_aload_n c_11_26 rfl <| r_getf_a c_11_27 rfl rfl <| r_cV0 c_11_30 rfl (Nat.le_of_ble_eq_true rfl) <| ?_
        refine ct_size row3 hl ?_
        refine r_iload_n c_11_33 rfl <| r_iadd c_11_34 (by have := hl.2.1; omega) <| r_sipush c_11_35 <| r_icmp_le c_11_38 (fun h38 => ?_) <| (fun h38 => ?_)
        · refine r_iload_n c_11_44 rfl <| r_iconst c_11_45 <| r_isub c_11_46 (by omega) <| r_istore_5_4 c_11_47 rfl <| ?_
          have e1 : feedN t n = ((t.length + n.toNat : Nat) : Int) := by unfold feedN; rw [if_neg (by omega), if_neg (by omega), if_neg (by omega)]; omega
          have e2 : feedT t v n = t ++ octL v n.toNat := by unfold feedT; rw [if_neg (by omega), if_neg (by omega), if_neg (by omega)]
          have := lp_feed (L := L) (v := v) (n := n) n.toNat t σ Q (by omega) hl (by omega) (fun σ' g1 g2 => by have := k σ' (by rw [e2]; exact g1) g2; rw [e1] at this; exact this)
          rw [show ((n.toNat : Nat) : Int) = n by omega] at this
          exact this
        · refine r_bipush c_11_41 <| r_iret c_11_43 <| ?_
          have e1 : feedN t n = -4 := by unfold feedN; rw [if_neg (by omega), if_neg (by omega), if_pos (by omega)]
          have e2 : feedT t v n = t := by unfold feedT; rw [if_neg (by omega), if_neg (by omega), if_pos (by omega)]
          have := k σ (by rw [e2]; exact hl) fr2.rf
          rw [e1] at this; exact this
      · refine r_aload_n c_11_17 rfl <| r_getf_a c_11_18 rfl rfl <| r_cV0 c_11_21 rfl (Nat.le_of_ble_eq_true rfl) <| ?_
        refine ct_clear row3 (fun σ1 hl1 hf1 => ?_)
        refine r_iconst c_11_24 <| r_iret c_11_25 <| ?_
        have e1 : feedN t n = 0 := by unfold feedN; rw [if_neg (by omega), if_pos (by omega)]
        have e2 : feedT t v n = [] := by unfold feedT; rw [if_neg (by omega), if_pos (by omega)]
        have := k σ1 (by rw [e2]; exact hl1) hf1
        rw [e1] at this; exact this
    · refine r_bipush c_11_10 <| r_iret c_11_12 <| ?_
      have e1 : feedN t n = -2 := by unfold feedN; rw [if_pos (by omega)]
      have e2 : feedT t v n = t := by unfold feedT; rw [if_pos (by omega)]
      have := k σ (by rw [e2]; exact hl) fr2.rf
      rw [e1] at this; exact this
theorem lp_mfeed {v n : Int} : ∀ (k : Nat) (t : List Int) (σ : mk_S) (Q : Option mm_V → mm_H → Prop), k ≤ 8 → octs t → mText σ t → t.length + k ≤ 400 → (∀ σ', mText σ' (t ++ octL v k) → octs (t ++ octL v k) → mf [56] [0, 2] σ σ' → Q (some (vI ((t.length + k : Nat) : Int))) (hp L σ')) →
    mm_X 134 49 [vP 55, vJ v, mm_null, vI n, vI ((k : Int) - 1)] [] (hp L σ) Q := by
  intro k
  induction k with
  | zero =>
    intro t σ Q hk ho hl hle kk
    refine r_iload c_134_49 rfl <| r_if_lt c_134_51 (fun h51 => ?_) <| (fun h51 => ?_)
    · refine r_aload_n c_134_88 rfl <| r_getf_i c_134_89 rfl rfl <| r_iret c_134_92 <| ?_
      rw [hl.1]; exact kk σ (by simpa [octL] using hl) (by simpa [octL] using ho) mf.rf
    · exact absurd h51 (by omega)
  | succ k ih =>
    intro t σ Q hk ho hl hle kk
    rw [show ((k + 1 : Nat) : Int) - 1 = (k : Int) by omega]
    have hr := oct_rng v k (by omega)
    have e1 := hl.1
    refine r_iload c_134_49 rfl <| r_if_lt c_134_51 (fun h51 => ?_) <| (fun h51 => ?_)
    · exact absurd h51 (by omega)
    · refine r_aload_n c_134_54 rfl <| r_getf_a c_134_55 rfl rfl <| r_aload_n c_134_58 rfl <| r_getf_i c_134_59 rfl rfl <| r_lload_n c_134_62 rfl <| r_bipush c_134_63 <| r_iload c_134_65 rfl <| r_imul c_134_67 (by omega) <| r_lshr c_134_68 rfl <| r_l2i_w c_134_69  <| ?_
      refine r_i2b c_134_70 <| r_bast2 c_134_71 rfl (jn := t.length) (by omega) (by omega) <| r_aload_n c_134_72 rfl <| r_dup c_134_73 rfl <| r_getf_i c_134_74 rfl rfl <| r_iconst c_134_77 <| r_iadd c_134_78 (by rw [sto_get2 (Or.inl (by decide)), e1]; omega) <| r_putf c_134_79 rfl rfl <| r_iinc_5_4 c_134_82 rfl (by omega) <| r_goto c_134_85 <| ?_
      have ew : mm_w8 (mm_w32 (mm_lshr1 v (8 * (k : Int)))) = mm_w8 (oct v k) := oct_w8 v k (by omega)
      refine ih (t ++ [oct v k]) _ Q (by omega) (octs_app ho hr) ⟨?_, by simp; omega, fun i hi => ?_⟩ (by simp; omega) (fun σ2 g1 g2 g3 => ?_)
      · rw [sto_get, sto_get2 (Or.inl (by decide)), e1]; simp
      · rw [sto_ne (by decide), sto_at]
        simp only [List.length_append, List.length_cons, List.length_nil] at hi
        by_cases q : i = t.length
        · subst q; rw [st_at, gd_app_at]; exact (w8w8 _).trans ew
        · rw [st_ne q, gd_app (by omega)]; exact hl.2.2 i (by omega)
      · have e := kk σ2 (by simpa [octL] using g1) (by simpa [octL] using g2) (((mf.rf.stA (by decide) (by decide)).stF (by decide)).tr g3)
        simp only [List.length_append, List.length_cons, List.length_nil]
        rw [show t.length + (0 + 1) + k = t.length + (k + 1) by omega]
        exact e
theorem ct_mfeed {σ : mk_S} {t : List Int} (ho : octs t) (hl : mText σ t) (v n : Int) (hn : -2147483648 ≤ n ∧ n ≤ 2147483647) (k : ∀ σ', mText σ' (feedT t v n) → octs (feedT t v n) → mf [56] [0, 2] σ σ' → Q (some (vI (feedN t n))) (hp L σ')) : mm_call 134 [vP 55, vJ v, vI n] (hp L σ) Q := by
  have f0 : mf [56] [0, 2] σ (sto σ 55 0 0) := mf.rf.stF (by decide)
  have hl0 : mText (sto σ 55 0 0) t := hl.eq (sto_get2 (Or.inr (by decide))) (sto_ne (by decide))
  have e0 := hl0.1
  have e3 := hl.2.1
  refine ⟨Nat.le_of_ble_eq_true rfl, ?_⟩
  show mm_X 134 0 [vP 55, vJ v, mm_null, vI n, mm_null] [] _ _
  refine r_aload_n c_134_0 rfl <| r_iconst c_134_1 <| r_putf c_134_2 rfl rfl <| r_iload_n c_134_5 rfl <| r_iconst c_134_6 <| r_bipush c_134_7 <| r_cS3 c_134_9 (Nat.le_of_ble_eq_true rfl) <| ?_
  refine ct_in _ _ _ (fun h9 => ?_) (fun h9 => ?_)
  · refine r_if_ne c_134_12 (fun _ => ?_) <| (fun h => absurd h (by decide))
    refine r_iload_n c_134_18 rfl <| r_if_ne c_134_19 (fun h19 => ?_) <| (fun h19 => ?_)
    · refine r_aload_n c_134_29 rfl <| r_getf_i c_134_30 rfl rfl <| r_iload_n c_134_33 rfl <| r_iadd c_134_34 (by omega) <| r_sipush c_134_35 <| r_icmp_le c_134_38 (fun h38 => ?_) <| (fun h38 => ?_)
      · refine r_iload_n c_134_44 rfl <| r_iconst c_134_45 <| r_isub c_134_46 (by omega) <| r_istore_5_4 c_134_47 rfl <| ?_
        have e1 : feedN t n = ((t.length + n.toNat : Nat) : Int) := by unfold feedN; rw [if_neg (by omega), if_neg (by omega), if_neg (by omega)]; omega
        have e2 : feedT t v n = t ++ octL v n.toNat := by unfold feedT; rw [if_neg (by omega), if_neg (by omega), if_neg (by omega)]
        have := lp_mfeed (L := L) (v := v) (n := n) n.toNat t _ Q (by omega) ho hl0 (by omega) (fun σ' g1 g2 g3 => by have := k σ' (by rw [e2]; exact g1) (by rw [e2]; exact g2) (f0.tr g3); rw [e1] at this; exact this)
        rw [show ((n.toNat : Nat) : Int) = n by omega] at this
        exact this
      · refine r_bipush c_134_41 <| r_iret c_134_43 <| ?_
        have e1 : feedN t n = -4 := by unfold feedN; rw [if_neg (by omega), if_neg (by omega), if_pos (by omega)]
        have e2 : feedT t v n = t := by unfold feedT; rw [if_neg (by omega), if_neg (by omega), if_pos (by omega)]
        have := k _ (by rw [e2]; exact hl0) (by rw [e2]; exact ho) f0
        rw [e1] at this; exact this
    · refine r_aload_n c_134_22 rfl <| r_iconst c_134_23 <| r_putf c_134_24 rfl rfl <| r_iconst c_134_27 <| r_iret c_134_28 <| ?_
      have e1 : feedN t n = 0 := by unfold feedN; rw [if_neg (by omega), if_pos (by omega)]
      have e2 : feedT t v n = [] := by unfold feedT; rw [if_neg (by omega), if_pos (by omega)]
      have := k _ (by rw [e2]; exact ⟨sto_get _ _ _ _, Nat.zero_le _, fun i hi => absurd hi (Nat.not_lt_zero i)⟩) (by rw [e2]; exact octs_nil) (f0.stF (by decide))
      rw [e1] at this; exact this
  · refine r_if_ne c_134_12 (fun h => absurd h (by decide)) <| (fun _ => ?_)
    refine r_bipush c_134_15 <| r_iret c_134_17 <| ?_
    have e1 : feedN t n = -2 := by unfold feedN; rw [if_pos (by omega)]
    have e2 : feedT t v n = t := by unfold feedT; rw [if_pos (by omega)]
    have := k _ (by rw [e2]; exact hl0) (by rw [e2]; exact ho) f0
    rw [e1] at this; exact this
end TEXT
