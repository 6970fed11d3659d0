/-! THE REFERENCE'S SEARCHES, in tables that say the same as T. -/
def MTn (σ T : mk_S) : Prop := σ 55 5 = T 11 5 ∧ σ 55 11 = T 17 4 ∧ σ 55 16 = T 22 2 ∧ σ 55 19 = T 25 4
def MTs (σ T : mk_S) : Prop := ∀ i, i < nS T → σ 58 i = T 12 i ∧ σ 59 i = T 13 i ∧ σ 60 i = T 14 i ∧ (T 14 i = 2 → σ 62 i = T 15 i ∧ ∀ j : Nat, (j : Int) < T 15 i → σ 61 (4 * i + j) = T 16 (4 * i + j))
def MTp (σ T : mk_S) : Prop := ∀ i, i < nP T → σ 63 i = T 18 i ∧ σ 64 i = T 19 i ∧ σ 65 i = T 20 i ∧ σ 66 i = T 21 i
def MTr (σ T : mk_S) : Prop := ∀ i, i < nR T → σ 67 i = T 23 i ∧ σ 68 i = T 24 i
def MTg (σ T : mk_S) : Prop := ∀ i, i < nG T → σ 69 i = T 26 i ∧ σ 70 i = T 27 i ∧ σ 71 i = T 28 i ∧ σ 72 i = T 29 i
def MT (σ T : mk_S) : Prop := MTn σ T ∧ MTs σ T ∧ MTp σ T ∧ MTr σ T ∧ MTg σ T
section MLOOK
variable {L : Nat} {σ T : mk_S} {Q : Option mm_V → mm_H → Prop}
theorem lp_mrank (hM : MT σ T) (hO : TOK T) {p : Int} (k0 : Q (some (vI (rkI T p))) (hp L σ)) : ∀ (k i : Nat), nR T + 1 ≤ i + k → i ≤ nR T → rkI T p = fsI (fun i => decide (T 23 i = p)) (nR T - i) i → mm_X 149 2 [vP 55, vI p, vI i] [] (hp L σ) Q := by
  obtain ⟨⟨-, -, ⟨hn, hn2⟩, -⟩, -⟩ := hO
  have hn := hM.1.2.2.1.trans hn
  intro k
  induction k with
  | zero => intro i h1 h2; omega
  | succ k ih =>
    intro i hk hi he
    refine r_iload_n c_149_2 rfl <| r_aload_n c_149_3 rfl <| r_getf_i c_149_4 rfl rfl <| r_icmp_ge c_149_7 (fun h7 => ?_) <| (fun h7 => ?_)
    · refine r_iconst c_149_28 <| r_iret c_149_29 <| ?_
      exact q_val k0 (by rw [he, fsI_end (by omega)])
    · refine r_aload_n c_149_10 rfl <| r_getf_a c_149_11 rfl rfl <| r_iload_n c_149_14 rfl <| r_iald c_149_15 rfl (Or.inl rfl) rfl (by omega) <| r_iload_n c_149_16 rfl <| r_icmp_ne c_149_17 (fun h17 => ?_) <| (fun h17 => ?_)
      · refine r_iinc_3_2 c_149_22 rfl (by omega) <| r_goto c_149_25 <| ?_
        exact ih (i + 1) (by omega) (by omega) (by rw [he, fsI_step (by omega), if_neg (by rw [(hM.2.2.2.1 i (by omega)).1] at h17; simpa using h17)])
      · refine r_iload_n c_149_20 rfl <| r_iret c_149_21 <| ?_
        exact q_val k0 (by rw [he, fsI_step (by omega), if_pos (by rw [(hM.2.2.2.1 i (by omega)).1] at h17; simpa using h17)])
theorem ct_mrankAt (hM : MT σ T) (hO : TOK T) (p : Int) (k : Q (some (vI (rkI T p))) (hp L σ)) : mm_call 149 [vP 55, vI p] (hp L σ) Q := by
  refine ⟨Nat.le_of_ble_eq_true rfl, ?_⟩
  show mm_X 149 0 [vP 55, vI p, mm_null] [] _ _
  refine r_iconst c_149_0 <| r_istore_n_3_2 c_149_1 rfl <| ?_
  exact lp_mrank hM hO k (nR T + 1) 0 (by omega) (by omega) rfl
theorem ct_mrankOf (hM : MT σ T) (hO : TOK T) (p : Int) (k : Q (some (vI (rkO T p))) (hp L σ)) : mm_call 150 [vP 55, vI p] (hp L σ) Q := by
  have hn2 := hO.1.2.2.1.2
  have hb := rkI_lt (T := T) p
  refine ⟨Nat.le_of_ble_eq_true rfl, ?_⟩
  show mm_X 150 0 [vP 55, vI p, mm_null] [] _ _
  refine r_aload_n c_150_0 rfl <| r_iload_n c_150_1 rfl <| r_cV1 c_150_2 rfl (Nat.le_of_ble_eq_true rfl) <| ?_
  refine ct_mrankAt hM hO p ?_
  refine r_istore_n_3_2 c_150_5 rfl <| r_iload_n c_150_6 rfl <| r_if_ge c_150_7 (fun h7 => ?_) <| (fun h7 => ?_)
  · refine r_aload_n c_150_14 rfl <| r_getf_a c_150_15 rfl rfl <| r_iload_n c_150_18 rfl <| r_iald c_150_19 rfl (Or.inl rfl) (jn := (rkI T p).toNat) (by omega) (by omega) <| r_iret c_150_20 <| ?_
    first | (rw [(hM.2.2.2.1 (rkI T p).toNat (by omega)).2]; exact q_val k (by unfold rkO; rw [if_neg (by omega)])) | exact q_val k (by unfold rkO; rw [if_pos (by omega)])
  · refine r_iconst c_150_10 <| r_goto c_150_11 <| r_iret c_150_20 <| ?_
    first | (rw [(hM.2.2.2.1 (rkI T p).toNat (by omega)).2]; exact q_val k (by unfold rkO; rw [if_neg (by omega)])) | exact q_val k (by unfold rkO; rw [if_pos (by omega)])
theorem lp_mpart (hM : MT σ T) (hO : TOK T) {p : Int} (k0 : Q (some (vI (ptI T p))) (hp L σ)) : ∀ (k i : Nat), nP T + 1 ≤ i + k → i ≤ nP T → ptI T p = fsI (fun i => decide (T 18 i = p)) (nP T - i) i → mm_X 159 2 [vP 55, vI p, vI i] [] (hp L σ) Q := by
  obtain ⟨⟨-, ⟨hn, hn2⟩, -⟩, -⟩ := hO
  have hn := hM.1.2.1.trans hn
  intro k
  induction k with
  | zero => intro i h1 h2; omega
  | succ k ih =>
    intro i hk hi he
    refine r_iload_n c_159_2 rfl <| r_aload_n c_159_3 rfl <| r_getf_i c_159_4 rfl rfl <| r_icmp_ge c_159_7 (fun h7 => ?_) <| (fun h7 => ?_)
    · refine r_iconst c_159_28 <| r_iret c_159_29 <| ?_
      exact q_val k0 (by rw [he, fsI_end (by omega)])
    · refine r_aload_n c_159_10 rfl <| r_getf_a c_159_11 rfl rfl <| r_iload_n c_159_14 rfl <| r_iald c_159_15 rfl (Or.inl rfl) rfl (by omega) <| r_iload_n c_159_16 rfl <| r_icmp_ne c_159_17 (fun h17 => ?_) <| (fun h17 => ?_)
      · refine r_iinc_3_2 c_159_22 rfl (by omega) <| r_goto c_159_25 <| ?_
        exact ih (i + 1) (by omega) (by omega) (by rw [he, fsI_step (by omega), if_neg (by rw [(hM.2.2.1 i (by omega)).1] at h17; simpa using h17)])
      · refine r_iload_n c_159_20 rfl <| r_iret c_159_21 <| ?_
        exact q_val k0 (by rw [he, fsI_step (by omega), if_pos (by rw [(hM.2.2.1 i (by omega)).1] at h17; simpa using h17)])
theorem ct_mpartOf (hM : MT σ T) (hO : TOK T) (p : Int) (k : Q (some (vI (ptI T p))) (hp L σ)) : mm_call 159 [vP 55, vI p] (hp L σ) Q := by
  refine ⟨Nat.le_of_ble_eq_true rfl, ?_⟩
  show mm_X 159 0 [vP 55, vI p, mm_null] [] _ _
  refine r_iconst c_159_0 <| r_istore_n_3_2 c_159_1 rfl <| ?_
  exact lp_mpart hM hO k (nP T + 1) 0 (by omega) (by omega) rfl
theorem lp_mthing (hM : MT σ T) (hO : TOK T) {p : Int} (k0 : Q (some (vI (stI T p))) (hp L σ)) : ∀ (k : Nat), k ≤ nS T → stI T p = lsI (fun i => decide (T 12 i ≤ p ∧ p ≤ T 13 i)) k → mm_X 154 7 [vP 55, vI p, vI (k - 1)] [] (hp L σ) Q := by
  have hn2 := hO.1.1.2
  intro k
  induction k with
  | zero =>
    intro hk he
    refine r_iload_n c_154_7 rfl <| r_if_lt c_154_8 (fun h8 => ?_) <| (fun h8 => ?_)
    · refine r_iconst c_154_38 <| r_iret c_154_39 <| ?_
      exact q_val k0 (by rw [he]; rfl)
    · exact absurd h8 (by omega)
  | succ k ih =>
    intro hk he
    rw [show ((k + 1 : Nat) : Int) - 1 = (k : Int) by omega]
    have e12 := (hM.2.1 k (by omega)).1
    have e13 := (hM.2.1 k (by omega)).2.1
    refine r_iload_n c_154_7 rfl <| r_if_lt c_154_8 (fun h8 => ?_) <| (fun h8 => ?_)
    · refine r_iconst c_154_38 <| r_iret c_154_39 <| ?_
      exact absurd h8 (by omega)
    · refine r_iload_n c_154_11 rfl <| r_aload_n c_154_12 rfl <| r_getf_a c_154_13 rfl rfl <| r_iload_n c_154_16 rfl <| r_iald c_154_17 rfl (Or.inl rfl) rfl (by omega) <| r_aload_n c_154_18 rfl <| r_getf_a c_154_19 rfl rfl <| r_iload_n c_154_22 rfl <| r_iald c_154_23 rfl (Or.inl rfl) rfl (by omega) <| r_cS3 c_154_24 (Nat.le_of_ble_eq_true rfl) <| ?_
      refine ct_in _ _ _ (fun h24 => ?_) (fun h24 => ?_)
      · refine r_if_eq c_154_27 (fun h => absurd h (by decide)) <| (fun _ => ?_)
        refine r_iload_n c_154_30 rfl <| r_iret c_154_31 <| ?_
        exact q_val k0 (by rw [he]; show _ = (if _ then _ else _); rw [if_pos (by simp only [decide_eq_true_eq]; omega)])
      · refine r_if_eq c_154_27 (fun _ => ?_) <| (fun h => absurd h (by decide))
        refine r_iinc_3_2 c_154_32 rfl (by omega) <| r_goto c_154_35 <| ?_
        exact ih (by omega) (by rw [he]; show (if _ then _ else _) = _; rw [if_neg (by simp only [decide_eq_true_eq]; omega)])
theorem ct_mthing (hM : MT σ T) (hO : TOK T) (p : Int) (k : Q (some (vI (stI T p))) (hp L σ)) : mm_call 154 [vP 55, vI p] (hp L σ) Q := by
  have hn2 := hO.1.1
  have e11 := hM.1.1
  refine ⟨Nat.le_of_ble_eq_true rfl, ?_⟩
  show mm_X 154 0 [vP 55, vI p, mm_null] [] _ _
  refine r_aload_n c_154_0 rfl <| r_getf_i c_154_1 rfl rfl <| r_iconst c_154_4 <| r_isub c_154_5 (by rw [e11]; omega) <| r_istore_n_3_2 c_154_6 rfl <| ?_
  rw [e11, hn2.1]
  exact lp_mthing hM hO k (nS T) (Nat.le_refl _) rfl
theorem ct_mstatus (hM : MT σ T) (hO : TOK T) (p : Int) (k : Q (some (vI (stO T p))) (hp L σ)) : mm_call 153 [vP 55, vI p] (hp L σ) Q := by
  have hn2 := hO.1.1.2
  have hb := stI_lt (T := T) p
  refine ⟨Nat.le_of_ble_eq_true rfl, ?_⟩
  show mm_X 153 0 [vP 55, vI p, mm_null] [] _ _
  refine r_aload_n c_153_0 rfl <| r_iload_n c_153_1 rfl <| r_cV1 c_153_2 rfl (Nat.le_of_ble_eq_true rfl) <| ?_
  refine ct_mthing hM hO p ?_
  refine r_istore_n_3_2 c_153_5 rfl <| r_iload_n c_153_6 rfl <| r_if_lt c_153_7 (fun h7 => ?_) <| (fun h7 => ?_)
  · refine r_iload_n c_153_17 rfl <| r_bipush c_153_18 <| r_icmp_gt c_153_20 (fun h20 => ?_) <| (fun h20 => ?_)
    · refine r_iconst c_153_57 <| r_goto c_153_58 <| r_iret c_153_77 <| ?_
      exact q_val k (by unfold stO stF; rw [if_pos (by omega)]; (repeat' split) <;> omega)
    · refine r_iload_n c_153_23 rfl <| r_bipush c_153_24 <| r_bipush c_153_26 <| r_cS3 c_153_28 (Nat.le_of_ble_eq_true rfl) <| ?_
      refine ct_in _ _ _ (fun h28 => ?_) (fun h28 => ?_)
      · refine r_if_ne c_153_31 (fun _ => ?_) <| (fun h => absurd h (by decide))
        refine r_iconst c_153_57 <| r_goto c_153_58 <| r_iret c_153_77 <| ?_
        exact q_val k (by unfold stO stF; rw [if_pos (by omega)]; (repeat' split) <;> omega)
      · refine r_if_ne c_153_31 (fun h => absurd h (by decide)) <| (fun _ => ?_)
        refine r_iload_n c_153_34 rfl <| r_bipush c_153_35 <| r_bipush c_153_37 <| r_cS3 c_153_39 (Nat.le_of_ble_eq_true rfl) <| ?_
        refine ct_in _ _ _ (fun h39 => ?_) (fun h39 => ?_)
        · refine r_if_ne c_153_42 (fun _ => ?_) <| (fun h => absurd h (by decide))
          refine r_iconst c_153_57 <| r_goto c_153_58 <| r_iret c_153_77 <| ?_
          exact q_val k (by unfold stO stF; rw [if_pos (by omega)]; (repeat' split) <;> omega)
        · refine r_if_ne c_153_42 (fun h => absurd h (by decide)) <| (fun _ => ?_)
          refine r_iload_n c_153_45 rfl <| r_bipush c_153_46 <| r_icmp_eq c_153_48 (fun h48 => ?_) <| (fun h48 => ?_)
          · refine r_iconst c_153_57 <| r_goto c_153_58 <| r_iret c_153_77 <| ?_
            exact q_val k (by unfold stO stF; rw [if_pos (by omega)]; (repeat' split) <;> omega)
          · refine r_iload_n c_153_51 rfl <| r_bipush c_153_52 <| r_icmp_ne c_153_54 (fun h54 => ?_) <| (fun h54 => ?_)
            · refine r_iload_n c_153_61 rfl <| r_bipush c_153_62 <| r_bipush c_153_64 <| r_cS3 c_153_66 (Nat.le_of_ble_eq_true rfl) <| ?_
              refine ct_in _ _ _ (fun h66 => ?_) (fun h66 => ?_)
              · refine r_if_eq c_153_69 (fun h => absurd h (by decide)) <| (fun _ => ?_)
                refine r_iconst c_153_72 <| r_goto c_153_73 <| r_iret c_153_77 <| ?_
                exact q_val k (by unfold stO stF; rw [if_pos (by omega)]; (repeat' split) <;> omega)
              · refine r_if_eq c_153_69 (fun _ => ?_) <| (fun h => absurd h (by decide))
                refine r_iconst c_153_76 <| r_iret c_153_77 <| ?_
                exact q_val k (by unfold stO stF; rw [if_pos (by omega)]; (repeat' split) <;> omega)
            · refine r_iconst c_153_57 <| r_goto c_153_58 <| r_iret c_153_77 <| ?_
              exact q_val k (by unfold stO stF; rw [if_pos (by omega)]; (repeat' split) <;> omega)
  · refine r_aload_n c_153_10 rfl <| r_getf_a c_153_11 rfl rfl <| r_iload_n c_153_14 rfl <| r_iald c_153_15 rfl (Or.inl rfl) (jn := (stI T p).toNat) (by omega) (by omega) <| r_iret c_153_16 <| ?_
    rw [(hM.2.1 (stI T p).toNat (by omega)).2.2.1]; exact q_val k (by unfold stO; rw [if_neg (by omega)])
theorem lp_mrange (hM : MT σ T) (hO : TOK T) {kd p : Int} (k0 : Q (some (vI (rgO T kd p))) (hp L σ)) : ∀ (k : Nat), k ≤ nG T → rgI T kd p = lsI (fun i => decide (T 26 i = kd ∧ T 27 i ≤ p ∧ p ≤ T 28 i)) k → mm_X 155 7 [vP 55, vI kd, vI p, vI (k - 1)] [] (hp L σ) Q := by
  have hn2 := hO.1.2.2.2.2
  intro k
  induction k with
  | zero =>
    intro hk he
    have he : rgI T kd p = -1 := he
    refine r_iload_n c_155_7 rfl <| r_if_lt c_155_8 (fun h8 => ?_) <| (fun h8 => ?_)
    · refine r_iload_n c_155_53 rfl <| r_iconst c_155_54 <| r_icmp_eq c_155_55 (fun h55 => ?_) <| (fun h55 => ?_)
      · refine r_iload_n c_155_62 rfl <| r_bipush c_155_63 <| r_bipush c_155_65 <| r_cS3 c_155_67 (Nat.le_of_ble_eq_true rfl) <| ?_
        refine ct_in _ _ _ (fun h67 => ?_) (fun h67 => ?_)
        · refine r_if_eq c_155_70 (fun h => absurd h (by decide)) <| (fun _ => ?_)
          refine r_iconst c_155_73 <| r_goto c_155_74 <| r_iret c_155_88 <| ?_
          exact q_val k0 (by unfold rgO dirF; rw [he, if_pos (by decide)]; (repeat' split) <;> omega)
        · refine r_if_eq c_155_70 (fun _ => ?_) <| (fun h => absurd h (by decide))
          refine r_iload_n c_155_77 rfl <| r_bipush c_155_78 <| r_icmp_ne c_155_80 (fun h80 => ?_) <| (fun h80 => ?_)
          · refine r_iconst c_155_87 <| r_iret c_155_88 <| ?_
            exact q_val k0 (by unfold rgO dirF; rw [he, if_pos (by decide)]; (repeat' split) <;> omega)
          · refine r_iconst c_155_83 <| r_goto c_155_84 <| r_iret c_155_88 <| ?_
            exact q_val k0 (by unfold rgO dirF; rw [he, if_pos (by decide)]; (repeat' split) <;> omega)
      · refine r_iconst c_155_58 <| r_goto c_155_59 <| r_iret c_155_88 <| ?_
        exact q_val k0 (by unfold rgO dirF; rw [he, if_pos (by decide)]; (repeat' split) <;> omega)
    · exact absurd h8 (by omega)
  | succ k ih =>
    intro hk he
    rw [show ((k + 1 : Nat) : Int) - 1 = (k : Int) by omega]
    obtain ⟨e26, e27, e28, e29⟩ := hM.2.2.2.2 k (by omega)
    refine r_iload_n c_155_7 rfl <| r_if_lt c_155_8 (fun h8 => ?_) <| (fun h8 => ?_)
    · exact absurd h8 (by omega)
    · refine r_aload_n c_155_11 rfl <| r_getf_a c_155_12 rfl rfl <| r_iload_n c_155_15 rfl <| r_iald c_155_16 rfl (Or.inl rfl) rfl (by omega) <| r_iload_n c_155_17 rfl <| r_icmp_ne c_155_18 (fun h18 => ?_) <| (fun h18 => ?_)
      · refine r_iinc_4_3 c_155_47 rfl (by omega) <| r_goto c_155_50 <| ?_
        exact ih (by omega) (by rw [he]; show (if _ then _ else _) = _; rw [if_neg (by simp only [decide_eq_true_eq]; omega)])
      · refine r_iload_n c_155_21 rfl <| r_aload_n c_155_22 rfl <| r_getf_a c_155_23 rfl rfl <| r_iload_n c_155_26 rfl <| r_iald c_155_27 rfl (Or.inl rfl) rfl (by omega) <| r_aload_n c_155_28 rfl <| r_getf_a c_155_29 rfl rfl <| r_iload_n c_155_32 rfl <| r_iald c_155_33 rfl (Or.inl rfl) rfl (by omega) <| r_cS3 c_155_34 (Nat.le_of_ble_eq_true rfl) <| ?_
        refine ct_in _ _ _ (fun h34 => ?_) (fun h34 => ?_)
        · refine r_if_eq c_155_37 (fun h => absurd h (by decide)) <| (fun _ => ?_)
          refine r_aload_n c_155_40 rfl <| r_getf_a c_155_41 rfl rfl <| r_iload_n c_155_44 rfl <| r_iald c_155_45 rfl (Or.inl rfl) rfl (by omega) <| r_iret c_155_46 <| ?_
          have he2 : rgI T kd p = (k : Int) := by rw [he]; show (if _ then _ else _) = _; rw [if_pos (by simp only [decide_eq_true_eq]; omega)]
          rw [e29]
          exact q_val k0 (by unfold rgO; rw [he2, if_neg (by omega), Int.toNat_natCast])
        · refine r_if_eq c_155_37 (fun _ => ?_) <| (fun h => absurd h (by decide))
          refine r_iinc_4_3 c_155_47 rfl (by omega) <| r_goto c_155_50 <| ?_
          exact ih (by omega) (by rw [he]; show (if _ then _ else _) = _; rw [if_neg (by simp only [decide_eq_true_eq]; omega)])
theorem ct_mrange (hM : MT σ T) (hO : TOK T) (kd p : Int) (k : Q (some (vI (rgO T kd p))) (hp L σ)) : mm_call 155 [vP 55, vI kd, vI p] (hp L σ) Q := by
  have hn2 := hO.1.2.2.2
  have e11 := hM.1.2.2.2
  refine ⟨Nat.le_of_ble_eq_true rfl, ?_⟩
  show mm_X 155 0 [vP 55, vI kd, vI p, mm_null] [] _ _
  refine r_aload_n c_155_0 rfl <| r_getf_i c_155_1 rfl rfl <| r_iconst c_155_4 <| r_isub c_155_5 (by rw [e11]; omega) <| r_istore_n_4_3 c_155_6 rfl <| ?_
  rw [e11, hn2.1]
  exact lp_mrange hM hO k (nG T) (Nat.le_refl _) rfl
theorem lp_mtog (hM : MT σ T) (hO : TOK T) {a b : Int} (k0 : Q (some (vI (if b = 0 ∨ prI T a b < 0 then -1 else T 18 (prI T a b).toNat))) (hp L σ)) : ∀ (k i : Nat), nP T + 1 ≤ i + k → i ≤ nP T → b = 0 ∨ prI T a b = fsI (fun i => decide (T 19 i = a ∧ T 20 i = b ∧ T 21 i = 0)) (nP T - i) i → mm_X 160 88 [vP 55, vI a, vI b, vI i] [] (hp L σ) Q := by
  obtain ⟨⟨-, ⟨hn, hn2⟩, -⟩, -⟩ := hO
  have hn := hM.1.2.1.trans hn
  intro k
  induction k with
  | zero => intro i h1 h2; omega
  | succ k ih =>
    intro i hk hi he
    refine r_iload_n c_160_88 rfl <| r_aload_n c_160_89 rfl <| r_getf_i c_160_90 rfl rfl <| r_icmp_ge c_160_93 (fun h93 => ?_) <| (fun h93 => ?_)
    · refine r_iconst c_160_147 <| r_iret c_160_148 <| ?_
      refine q_val k0 ?_
      rcases he with he | he
      · rw [if_pos (Or.inl he)]
      · rw [he, fsI_end (by omega), if_pos (Or.inr (by decide))]
    · refine r_aload_n c_160_96 rfl <| r_getf_a c_160_97 rfl rfl <| r_iload_n c_160_100 rfl <| r_bald c_160_101 rfl (Or.inl rfl) rfl (by omega) <| r_if_ne c_160_102 (fun h102 => ?_) <| (fun h102 => ?_)
      · refine r_iinc_4_3 c_160_141 rfl (by omega) <| r_goto c_160_144 <| ?_
        obtain ⟨g1, g2, g3, g4⟩ := hM.2.2.1 i (by omega)
        refine ih (i + 1) (by omega) (by omega) ?_
        rcases he with he | he
        · exact Or.inl he
        · by_cases hb0 : b = 0
          · exact Or.inl hb0
          · exact Or.inr (by rw [he, fsI_step (by omega), if_neg (by rw [← g2, ← g3, ← g4]; simp only [decide_eq_true_eq]; omega)])
      · refine r_aload_n c_160_105 rfl <| r_getf_a c_160_106 rfl rfl <| r_iload_n c_160_109 rfl <| r_iald c_160_110 rfl (Or.inl rfl) rfl (by omega) <| r_if_eq c_160_111 (fun h111 => ?_) <| (fun h111 => ?_)
        · refine r_iinc_4_3 c_160_141 rfl (by omega) <| r_goto c_160_144 <| ?_
          obtain ⟨g1, g2, g3, g4⟩ := hM.2.2.1 i (by omega)
          refine ih (i + 1) (by omega) (by omega) ?_
          rcases he with he | he
          · exact Or.inl he
          · by_cases hb0 : b = 0
            · exact Or.inl hb0
            · exact Or.inr (by rw [he, fsI_step (by omega), if_neg (by rw [← g2, ← g3, ← g4]; simp only [decide_eq_true_eq]; omega)])
        · refine r_aload_n c_160_114 rfl <| r_getf_a c_160_115 rfl rfl <| r_iload_n c_160_118 rfl <| r_iald c_160_119 rfl (Or.inl rfl) rfl (by omega) <| r_iload_n c_160_120 rfl <| r_icmp_ne c_160_121 (fun h121 => ?_) <| (fun h121 => ?_)
          · refine r_iinc_4_3 c_160_141 rfl (by omega) <| r_goto c_160_144 <| ?_
            obtain ⟨g1, g2, g3, g4⟩ := hM.2.2.1 i (by omega)
            refine ih (i + 1) (by omega) (by omega) ?_
            rcases he with he | he
            · exact Or.inl he
            · by_cases hb0 : b = 0
              · exact Or.inl hb0
              · exact Or.inr (by rw [he, fsI_step (by omega), if_neg (by rw [← g2, ← g3, ← g4]; simp only [decide_eq_true_eq]; omega)])
          · refine r_aload_n c_160_124 rfl <| r_getf_a c_160_125 rfl rfl <| r_iload_n c_160_128 rfl <| r_iald c_160_129 rfl (Or.inl rfl) rfl (by omega) <| r_iload_n c_160_130 rfl <| r_icmp_ne c_160_131 (fun h131 => ?_) <| (fun h131 => ?_)
            · refine r_iinc_4_3 c_160_141 rfl (by omega) <| r_goto c_160_144 <| ?_
              obtain ⟨g1, g2, g3, g4⟩ := hM.2.2.1 i (by omega)
              refine ih (i + 1) (by omega) (by omega) ?_
              rcases he with he | he
              · exact Or.inl he
              · by_cases hb0 : b = 0
                · exact Or.inl hb0
                · exact Or.inr (by rw [he, fsI_step (by omega), if_neg (by rw [← g2, ← g3, ← g4]; simp only [decide_eq_true_eq]; omega)])
            · refine r_aload_n c_160_134 rfl <| r_getf_a c_160_135 rfl rfl <| r_iload_n c_160_138 rfl <| r_iald c_160_139 rfl (Or.inl rfl) rfl (by omega) <| r_iret c_160_140 <| ?_
              obtain ⟨g1, g2, g3, g4⟩ := hM.2.2.1 i (by omega)
              have he2 : prI T a b = (i : Int) := by
                rw [he.resolve_left (by omega), fsI_step (by omega), if_pos (by rw [← g2, ← g3, ← g4]; simp only [decide_eq_true_eq]; omega)]
              rw [g1]
              exact q_val k0 (by rw [he2, if_neg (by omega), Int.toNat_natCast])
theorem ct_mtog (hM : MT σ T) (hO : TOK T) (a b : Int) (k : Q (some (vI (tgO T a b))) (hp L σ)) : mm_call 160 [vP 55, vI a, vI b] (hp L σ) Q := by
  refine ⟨Nat.le_of_ble_eq_true rfl, ?_⟩
  show mm_X 160 0 [vP 55, vI a, vI b, mm_null] [] _ _
  refine r_iload_n c_160_0 rfl <| r_sipush c_160_1 <| r_sipush c_160_4 <| r_cS3 c_160_7 (Nat.le_of_ble_eq_true rfl) <| ?_
  refine ct_in _ _ _ (fun h7 => ?_) (fun h7 => ?_)
  · refine r_if_eq c_160_10 (fun h => absurd h (by decide)) <| (fun _ => ?_)
    refine r_iload_n c_160_13 rfl <| r_sipush c_160_14 <| r_sipush c_160_17 <| r_cS3 c_160_20 (Nat.le_of_ble_eq_true rfl) <| ?_
    refine ct_in _ _ _ (fun h20 => ?_) (fun h20 => ?_)
    · refine r_if_eq c_160_23 (fun h => absurd h (by decide)) <| (fun _ => ?_)
      refine r_ldc c_160_26 <| r_sipush c_160_28 <| r_iload_n c_160_31 rfl <| r_sipush c_160_32 <| r_isub c_160_35 (by omega) <| r_imul c_160_36 (by omega) <| r_iadd c_160_37 (by omega) <| r_bipush c_160_38 <| r_iload_n c_160_40 rfl <| r_sipush c_160_41 <| ?_
      refine r_isub c_160_44 (by omega) <| r_imul c_160_45 (by omega) <| r_iadd c_160_46 (by omega) <| r_iret c_160_47 <| ?_
      exact q_val k (by unfold tgO isLd isVw; rw [if_pos ⟨by omega, by omega⟩]; omega)
    · refine r_if_eq c_160_23 (fun _ => ?_) <| (fun h => absurd h (by decide))
      refine r_iload_n c_160_48 rfl <| r_cS1 c_160_49 (Nat.le_of_ble_eq_true rfl) <| ?_
      refine ct_mSyl _ (fun h49 => ?_) (fun h49 => ?_)
      · refine r_if_eq c_160_52 (fun h => absurd h (by decide)) <| (fun _ => ?_)
        refine r_iload_n c_160_55 rfl <| r_ldc c_160_56 <| r_isub c_160_58 (by omega) <| r_bipush c_160_59 <| r_irem c_160_61 (by unfold isSyl at *; omega) (by omega) <| r_if_ne c_160_62 (fun h62 => ?_) <| (fun h62 => ?_)
        · refine r_iconst c_160_86 <| r_istore_n_4_3 c_160_87 rfl <| ?_
          have g1 : ¬ (isLd a ∧ isVw b) := by unfold isLd isVw; omega
          have g2 : ¬ (isSyl a ∧ (a - 44032) % 28 = 0 ∧ isTl b) := fun q => by first | exact absurd q.1 (by assumption) | exact absurd q.2.1 (by assumption) | exact absurd q.2.2 (by unfold isTl; omega)
          refine lp_mtog hM hO ?_ (nP T + 1) 0 (by omega) (by omega) (Or.inr rfl)
          unfold tgO at k
          rw [if_neg g1, if_neg g2] at k
          exact k
        · refine r_iload_n c_160_65 rfl <| r_sipush c_160_66 <| r_sipush c_160_69 <| r_cS3 c_160_72 (Nat.le_of_ble_eq_true rfl) <| ?_
          refine ct_in _ _ _ (fun h72 => ?_) (fun h72 => ?_)
          · refine r_if_eq c_160_75 (fun h => absurd h (by decide)) <| (fun _ => ?_)
            refine r_iload_n c_160_78 rfl <| r_iload_n c_160_79 rfl <| r_iadd c_160_80 (by unfold isSyl at *; omega) <| r_sipush c_160_81 <| r_isub c_160_84 (by omega) <| r_iret c_160_85 <| ?_
            exact q_val k (by unfold tgO; rw [if_neg (by unfold isLd isVw; omega), if_pos ⟨by assumption, by assumption, by unfold isTl; omega⟩])
          · refine r_if_eq c_160_75 (fun _ => ?_) <| (fun h => absurd h (by decide))
            refine r_iconst c_160_86 <| r_istore_n_4_3 c_160_87 rfl <| ?_
            have g1 : ¬ (isLd a ∧ isVw b) := by unfold isLd isVw; omega
            have g2 : ¬ (isSyl a ∧ (a - 44032) % 28 = 0 ∧ isTl b) := fun q => by first | exact absurd q.1 (by assumption) | exact absurd q.2.1 (by assumption) | exact absurd q.2.2 (by unfold isTl; omega)
            refine lp_mtog hM hO ?_ (nP T + 1) 0 (by omega) (by omega) (Or.inr rfl)
            unfold tgO at k
            rw [if_neg g1, if_neg g2] at k
            exact k
      · refine r_if_eq c_160_52 (fun _ => ?_) <| (fun h => absurd h (by decide))
        refine r_iconst c_160_86 <| r_istore_n_4_3 c_160_87 rfl <| ?_
        have g1 : ¬ (isLd a ∧ isVw b) := by unfold isLd isVw; omega
        have g2 : ¬ (isSyl a ∧ (a - 44032) % 28 = 0 ∧ isTl b) := fun q => by first | exact absurd q.1 (by assumption) | exact absurd q.2.1 (by assumption) | exact absurd q.2.2 (by unfold isTl; omega)
        refine lp_mtog hM hO ?_ (nP T + 1) 0 (by omega) (by omega) (Or.inr rfl)
        unfold tgO at k
        rw [if_neg g1, if_neg g2] at k
        exact k
  · refine r_if_eq c_160_10 (fun _ => ?_) <| (fun h => absurd h (by decide))
    refine r_iload_n c_160_48 rfl <| r_cS1 c_160_49 (Nat.le_of_ble_eq_true rfl) <| ?_
    refine ct_mSyl _ (fun h49 => ?_) (fun h49 => ?_)
    · refine r_if_eq c_160_52 (fun h => absurd h (by decide)) <| (fun _ => ?_)
      refine r_iload_n c_160_55 rfl <| r_ldc c_160_56 <| r_isub c_160_58 (by omega) <| r_bipush c_160_59 <| r_irem c_160_61 (by unfold isSyl at *; omega) (by omega) <| r_if_ne c_160_62 (fun h62 => ?_) <| (fun h62 => ?_)
      · refine r_iconst c_160_86 <| r_istore_n_4_3 c_160_87 rfl <| ?_
        have g1 : ¬ (isLd a ∧ isVw b) := by unfold isLd isVw; omega
        have g2 : ¬ (isSyl a ∧ (a - 44032) % 28 = 0 ∧ isTl b) := fun q => by first | exact absurd q.1 (by assumption) | exact absurd q.2.1 (by assumption) | exact absurd q.2.2 (by unfold isTl; omega)
        refine lp_mtog hM hO ?_ (nP T + 1) 0 (by omega) (by omega) (Or.inr rfl)
        unfold tgO at k
        rw [if_neg g1, if_neg g2] at k
        exact k
      · refine r_iload_n c_160_65 rfl <| r_sipush c_160_66 <| r_sipush c_160_69 <| r_cS3 c_160_72 (Nat.le_of_ble_eq_true rfl) <| ?_
        refine ct_in _ _ _ (fun h72 => ?_) (fun h72 => ?_)
        · refine r_if_eq c_160_75 (fun h => absurd h (by decide)) <| (fun _ => ?_)
          refine r_iload_n c_160_78 rfl <| r_iload_n c_160_79 rfl <| r_iadd c_160_80 (by unfold isSyl at *; omega) <| r_sipush c_160_81 <| r_isub c_160_84 (by omega) <| r_iret c_160_85 <| ?_
          exact q_val k (by unfold tgO; rw [if_neg (by unfold isLd isVw; omega), if_pos ⟨by assumption, by assumption, by unfold isTl; omega⟩])
        · refine r_if_eq c_160_75 (fun _ => ?_) <| (fun h => absurd h (by decide))
          refine r_iconst c_160_86 <| r_istore_n_4_3 c_160_87 rfl <| ?_
          have g1 : ¬ (isLd a ∧ isVw b) := by unfold isLd isVw; omega
          have g2 : ¬ (isSyl a ∧ (a - 44032) % 28 = 0 ∧ isTl b) := fun q => by first | exact absurd q.1 (by assumption) | exact absurd q.2.1 (by assumption) | exact absurd q.2.2 (by unfold isTl; omega)
          refine lp_mtog hM hO ?_ (nP T + 1) 0 (by omega) (by omega) (Or.inr rfl)
          unfold tgO at k
          rw [if_neg g1, if_neg g2] at k
          exact k
    · refine r_if_eq c_160_52 (fun _ => ?_) <| (fun h => absurd h (by decide))
      refine r_iconst c_160_86 <| r_istore_n_4_3 c_160_87 rfl <| ?_
      have g1 : ¬ (isLd a ∧ isVw b) := by unfold isLd isVw; omega
      have g2 : ¬ (isSyl a ∧ (a - 44032) % 28 = 0 ∧ isTl b) := fun q => by first | exact absurd q.1 (by assumption) | exact absurd q.2.1 (by assumption) | exact absurd q.2.2 (by unfold isTl; omega)
      refine lp_mtog hM hO ?_ (nP T + 1) 0 (by omega) (by omega) (Or.inr rfl)
      unfold tgO at k
      rw [if_neg g1, if_neg g2] at k
      exact k
end MLOOK
