/-! LOOKING UP: what was told, by one function T of the class's tables (cells 11 .. 29), and both sides' searches in it. -/
def fsI (P : Nat → Bool) : Nat → Nat → Int
  | 0, _ => -1
  | k + 1, i => if P i = true then i else fsI P k (i + 1)
def lsI (P : Nat → Bool) : Nat → Int
  | 0 => -1
  | n + 1 => if P n = true then n else lsI P n
theorem fsI_step {P : Nat → Bool} {n i : Nat} (h : i < n) : fsI P (n - i) i = if P i = true then (i : Int) else fsI P (n - (i + 1)) (i + 1) := by
  rw [show n - i = (n - (i + 1)) + 1 by omega]
  rfl
theorem fsI_end {P : Nat → Bool} {n i : Nat} (h : n ≤ i) : fsI P (n - i) i = -1 := by
  rw [show n - i = 0 by omega]
  rfl
theorem fsI_spec (P : Nat → Bool) : ∀ (k i : Nat), fsI P k i = -1 ∧ (∀ j : Nat, i ≤ j → j < i + k → P j = false) ∨ ∃ j : Nat, fsI P k i = (j : Int) ∧ i ≤ j ∧ j < i + k ∧ P j = true
  | 0, i => Or.inl ⟨rfl, fun j h1 h2 => by omega⟩
  | k + 1, i => by
    simp only [fsI]
    split
    · next h => exact Or.inr ⟨i, rfl, Nat.le_refl _, by omega, h⟩
    · next h =>
      rcases fsI_spec P k (i + 1) with ⟨h1, h2⟩ | ⟨j, h1, h2, h3, h4⟩
      · refine Or.inl ⟨h1, fun j g1 g2 => ?_⟩
        by_cases e : j = i
        · subst e; simpa using h
        · exact h2 j (by omega) (by omega)
      · exact Or.inr ⟨j, h1, by omega, by omega, h4⟩
theorem lsI_spec (P : Nat → Bool) : ∀ (n : Nat), lsI P n = -1 ∧ (∀ j : Nat, j < n → P j = false) ∨ ∃ j : Nat, lsI P n = (j : Int) ∧ j < n ∧ P j = true
  | 0 => Or.inl ⟨rfl, fun j h => by omega⟩
  | n + 1 => by
    simp only [lsI]
    split
    · next h => exact Or.inr ⟨n, rfl, by omega, h⟩
    · next h =>
      rcases lsI_spec P n with ⟨h1, h2⟩ | ⟨j, h1, h2, h3⟩
      · refine Or.inl ⟨h1, fun j g => ?_⟩
        by_cases e : j = n
        · subst e; simpa using h
        · exact h2 j (by omega)
      · exact Or.inr ⟨j, h1, by omega, h3⟩
theorem fsI_congr {P R : Nat → Bool} : ∀ (k i : Nat), (∀ j, i ≤ j → j < i + k → P j = R j) → fsI P k i = fsI R k i
  | 0, _, _ => rfl
  | k + 1, i, h => by
    simp only [fsI]
    rw [h i (Nat.le_refl _) (by omega), fsI_congr k (i + 1) (fun j g1 g2 => h j (by omega) (by omega))]
theorem lsI_congr {P R : Nat → Bool} : ∀ (n : Nat), (∀ j, j < n → P j = R j) → lsI P n = lsI R n
  | 0, _ => rfl
  | n + 1, h => by
    simp only [lsI]
    rw [h n (by omega), lsI_congr n (fun j g => h j (by omega))]
-- the tables
def TC (σ T : mk_S) : Prop := ∀ a, 11 ≤ a → a ≤ 29 → σ a = T a
def nS (T : mk_S) : Nat := (T 11 5).toNat
def nP (T : mk_S) : Nat := (T 17 4).toNat
def nR (T : mk_S) : Nat := (T 22 2).toNat
def nG (T : mk_S) : Nat := (T 25 4).toNat
def TOKn (T : mk_S) : Prop := (T 11 5 = (nS T : Int) ∧ nS T ≤ 200) ∧ (T 17 4 = (nP T : Int) ∧ nP T ≤ 100) ∧ (T 22 2 = (nR T : Int) ∧ nR T ≤ 100) ∧ (T 25 4 = (nG T : Int) ∧ nG T ≤ 200)
def TOKs (T : mk_S) : Prop := ∀ i, i < nS T → (T 14 i = 0 ∨ T 14 i = 1 ∨ T 14 i = 2 ∨ T 14 i = 3) ∧ (T 14 i = 2 → 1 ≤ T 15 i ∧ T 15 i ≤ 4 ∧ ∀ j : Nat, (j : Int) < T 15 i → isPt (T 16 (4 * i + j)))
def TOKp (T : mk_S) : Prop := ∀ i, i < nP T → 128 ≤ T 18 i ∧ isPt (T 18 i) ∧ ¬ isOS (T 18 i) ∧ isPt (T 19 i) ∧ T 19 i < T 18 i ∧ T 19 i ≠ 0 ∧ ¬ isOS (T 19 i) ∧ isPt (T 20 i) ∧ T 20 i < T 18 i ∧ ¬ isOS (T 20 i) ∧ (T 21 i = 0 ∨ T 21 i = 1)
def TOKr (T : mk_S) : Prop := ∀ i, i < nR T → 128 ≤ T 23 i ∧ 0 ≤ T 24 i ∧ T 24 i ≤ 254
def TOKg (T : mk_S) : Prop := ∀ i, i < nG T → 0 ≤ T 26 i ∧ T 26 i ≤ 2 ∧ 0 ≤ T 29 i ∧ T 29 i ≤ 10
def TOK (T : mk_S) : Prop := TOKn T ∧ TOKs T ∧ TOKp T ∧ TOKr T ∧ TOKg T
-- what is looked up
def stI (T : mk_S) (p : Int) : Int := lsI (fun i => decide (T 12 i ≤ p ∧ p ≤ T 13 i)) (nS T)
def stO (T : mk_S) (p : Int) : Int := if stI T p < 0 then stF p else T 14 (stI T p).toNat
def rkI (T : mk_S) (p : Int) : Int := fsI (fun i => decide (T 23 i = p)) (nR T - 0) 0
def rkO (T : mk_S) (p : Int) : Int := if rkI T p < 0 then 0 else T 24 (rkI T p).toNat
def rgI (T : mk_S) (k p : Int) : Int := lsI (fun i => decide (T 26 i = k ∧ T 27 i ≤ p ∧ p ≤ T 28 i)) (nG T)
def rgO (T : mk_S) (k p : Int) : Int := if rgI T k p < 0 then (if k = 1 then dirF p else 0) else T 29 (rgI T k p).toNat
def ptI (T : mk_S) (p : Int) : Int := fsI (fun i => decide (T 18 i = p)) (nP T - 0) 0
def prI (T : mk_S) (a b : Int) : Int := fsI (fun i => decide (T 19 i = a ∧ T 20 i = b ∧ T 21 i = 0)) (nP T - 0) 0
def tgO (T : mk_S) (a b : Int) : Int :=
  if isLd a ∧ isVw b then 44032 + (a - 4352) * 588 + (b - 4449) * 28
  else if isSyl a ∧ (a - 44032) % 28 = 0 ∧ isTl b then a + b - 4519
  else if b = 0 ∨ prI T a b < 0 then -1 else T 18 (prI T a b).toNat
theorem rkI_low {T : mk_S} (hT : TOK T) {p : Int} (hp : p < 128) : rkI T p = -1 := by
  unfold rkI
  rcases fsI_spec (fun i => decide (T 23 i = p)) (nR T - 0) 0 with ⟨h, -⟩ | ⟨j, h1, h2, h3, h4⟩
  · exact h
  · have := (hT.2.2.2.1 j (by omega)).1
    simp only [decide_eq_true_eq] at h4
    omega
theorem ptI_low {T : mk_S} (hT : TOK T) {p : Int} (hp : p < 128) : ptI T p = -1 := by
  unfold ptI
  rcases fsI_spec (fun i => decide (T 18 i = p)) (nP T - 0) 0 with ⟨h, -⟩ | ⟨j, h1, h2, h3, h4⟩
  · exact h
  · have := (hT.2.2.1 j (by omega)).1
    simp only [decide_eq_true_eq] at h4
    omega
theorem rkI_cases (T : mk_S) (p : Int) : rkI T p = -1 ∨ ∃ j : Nat, rkI T p = j ∧ j < nR T ∧ T 23 j = p := by
  unfold rkI
  rcases fsI_spec (fun i => decide (T 23 i = p)) (nR T - 0) 0 with ⟨h, -⟩ | ⟨j, h1, h2, h3, h4⟩
  · exact Or.inl h
  · exact Or.inr ⟨j, h1, by omega, of_decide_eq_true h4⟩
theorem ptI_cases (T : mk_S) (p : Int) : ptI T p = -1 ∨ ∃ j : Nat, ptI T p = j ∧ j < nP T ∧ T 18 j = p := by
  unfold ptI
  rcases fsI_spec (fun i => decide (T 18 i = p)) (nP T - 0) 0 with ⟨h, -⟩ | ⟨j, h1, h2, h3, h4⟩
  · exact Or.inl h
  · exact Or.inr ⟨j, h1, by omega, of_decide_eq_true h4⟩
theorem prI_cases (T : mk_S) (a b : Int) : prI T a b = -1 ∨ ∃ j : Nat, prI T a b = j ∧ j < nP T ∧ T 19 j = a ∧ T 20 j = b ∧ T 21 j = 0 := by
  unfold prI
  rcases fsI_spec (fun i => decide (T 19 i = a ∧ T 20 i = b ∧ T 21 i = 0)) (nP T - 0) 0 with ⟨h, -⟩ | ⟨j, h1, h2, h3, h4⟩
  · exact Or.inl h
  · exact Or.inr ⟨j, h1, by omega, of_decide_eq_true h4⟩
theorem stI_cases (T : mk_S) (p : Int) : stI T p = -1 ∨ ∃ j : Nat, stI T p = j ∧ j < nS T ∧ T 12 j ≤ p ∧ p ≤ T 13 j := by
  unfold stI
  rcases lsI_spec (fun i => decide (T 12 i ≤ p ∧ p ≤ T 13 i)) (nS T) with ⟨h, -⟩ | ⟨j, h1, h2, h3⟩
  · exact Or.inl h
  · exact Or.inr ⟨j, h1, h2, of_decide_eq_true h3⟩
theorem rgI_cases (T : mk_S) (k p : Int) : rgI T k p = -1 ∨ ∃ j : Nat, rgI T k p = j ∧ j < nG T := by
  unfold rgI
  rcases lsI_spec (fun i => decide (T 26 i = k ∧ T 27 i ≤ p ∧ p ≤ T 28 i)) (nG T) with ⟨h, -⟩ | ⟨j, h1, h2, h3⟩
  · exact Or.inl h
  · exact Or.inr ⟨j, h1, h2⟩
section LOOK
variable {L : Nat} {σ T : mk_S} {Q : Option mm_V → mm_H → Prop}
theorem lp_rfind (hC : TC σ T) (hO : TOK T) {p : Int} (k0 : Q (some (vI (rkI T p))) (hp L σ)) : ∀ (k i : Nat), nR T + 1 ≤ i + k → i ≤ nR T → rkI T p = fsI (fun i => decide (T 23 i = p)) (nR T - i) i → mm_X 46 11 [vP 22, vI p, vI i] [] (hp L σ) Q := by
  obtain ⟨⟨-, -, ⟨hn, hn2⟩, -⟩, -⟩ := hO
  have e22 := hC 22 (by decide) (by decide)
  have e23 := hC 23 (by decide) (by decide)
  rw [← e22] at hn
  intro k
  induction k with
  | zero => intro i h1 h2; omega
  | succ k ih =>
    intro i hk hi he
    refine r_iload_n c_46_11 rfl <| r_aload_n c_46_12 rfl <| r_getf_i c_46_13 rfl rfl <| r_icmp_ge c_46_16 (fun h16 => ?_) <| (fun h16 => ?_)
    · refine r_iconst c_46_37 <| r_iret c_46_38 <| ?_
      exact q_val k0 (by rw [he, fsI_end (by omega)])
    · refine r_aload_n c_46_19 rfl <| r_getf_a c_46_20 rfl rfl <| r_iload_n c_46_23 rfl <| r_iald c_46_24 rfl (Or.inl rfl) rfl (by omega) <| r_iload_n c_46_25 rfl <| r_icmp_ne c_46_26 (fun h26 => ?_) <| (fun h26 => ?_)
      · refine r_iinc_3_2 c_46_31 rfl (by omega) <| r_goto c_46_34 <| ?_
        exact ih (i + 1) (by omega) (by omega) (by rw [he, fsI_step (by omega), if_neg (by rw [e23] at h26; simpa using h26)])
      · refine r_iload_n c_46_29 rfl <| r_iret c_46_30 <| ?_
        exact q_val k0 (by rw [he, fsI_step (by omega), if_pos (by rw [e23] at h26; simpa using h26)])
theorem ct_rfind (hC : TC σ T) (hO : TOK T) (p : Int) (k : Q (some (vI (rkI T p))) (hp L σ)) : mm_call 46 [vP 22, vI p] (hp L σ) Q := by
  refine ⟨Nat.le_of_ble_eq_true rfl, ?_⟩
  show mm_X 46 0 [vP 22, vI p, mm_null] [] _ _
  refine r_iload_n c_46_0 rfl <| r_sipush c_46_1 <| r_icmp_ge c_46_4 (fun h4 => ?_) <| (fun h4 => ?_)
  · refine r_iconst c_46_9 <| r_istore_n_3_2 c_46_10 rfl <| ?_
    exact lp_rfind hC hO k (nR T + 1) 0 (by omega) (by omega) rfl
  · refine r_iconst c_46_7 <| r_iret c_46_8 <| ?_
    exact q_val k (rkI_low hO (by omega)).symm
theorem rkI_lt {T : mk_S} (p : Int) : rkI T p < nR T ∧ -1 ≤ rkI T p := by rcases rkI_cases T p with h | ⟨j, h, h2, -⟩ <;> omega
theorem ptI_lt {T : mk_S} (p : Int) : ptI T p < nP T ∧ -1 ≤ ptI T p := by rcases ptI_cases T p with h | ⟨j, h, h2, -⟩ <;> omega
theorem prI_lt {T : mk_S} (a b : Int) : prI T a b < nP T ∧ -1 ≤ prI T a b := by rcases prI_cases T a b with h | ⟨j, h, h2, -⟩ <;> omega
theorem stI_lt {T : mk_S} (p : Int) : stI T p < nS T ∧ -1 ≤ stI T p := by rcases stI_cases T p with h | ⟨j, h, h2, -⟩ <;> omega
theorem rgI_lt {T : mk_S} (k p : Int) : rgI T k p < nG T ∧ -1 ≤ rgI T k p := by rcases rgI_cases T k p with h | ⟨j, h, h2⟩ <;> omega
theorem ct_rof (hC : TC σ T) (hO : TOK T) (p : Int) (k : Q (some (vI (rkO T p))) (hp L σ)) : mm_call 54 [vP 22, vI p] (hp L σ) Q := by
  have e24 := hC 24 (by decide) (by decide)
  have hn2 := hO.1.2.2.1.2
  have hb := rkI_lt (T := T) p
  refine ⟨Nat.le_of_ble_eq_true rfl, ?_⟩
  show mm_X 54 0 [vP 22, vI p, mm_null] [] _ _
  refine r_aload_n c_54_0 rfl <| r_iload_n c_54_1 rfl <| r_cV1 c_54_2 rfl (Nat.le_of_ble_eq_true rfl) <| ?_
  refine ct_rfind hC hO p ?_
  refine r_istore_n_3_2 c_54_5 rfl <| r_iload_n c_54_6 rfl <| r_if_lt c_54_7 (fun h7 => ?_) <| (fun h7 => ?_)
  · refine r_iconst c_54_19 <| r_iret c_54_20 <| ?_
    first | (rw [e24]; exact q_val k (by unfold rkO; rw [if_neg (by omega)])) | exact q_val k (by unfold rkO; rw [if_pos (by omega)])
  · refine r_aload_n c_54_10 rfl <| r_getf_a c_54_11 rfl rfl <| r_iload_n c_54_14 rfl <| r_iald c_54_15 rfl (Or.inl rfl) (jn := (rkI T p).toNat) (by omega) (by omega) <| r_goto c_54_16 <| r_iret c_54_20 <| ?_
    first | (rw [e24]; exact q_val k (by unfold rkO; rw [if_neg (by omega)])) | exact q_val k (by unfold rkO; rw [if_pos (by omega)])
theorem lp_pfind (hC : TC σ T) (hO : TOK T) {p : Int} (k0 : Q (some (vI (ptI T p))) (hp L σ)) : ∀ (k i : Nat), nP T + 1 ≤ i + k → i ≤ nP T → ptI T p = fsI (fun i => decide (T 18 i = p)) (nP T - i) i → mm_X 42 11 [vP 17, vI p, vI i] [] (hp L σ) Q := by
  obtain ⟨⟨-, ⟨hn, hn2⟩, -⟩, -⟩ := hO
  have e22 := hC 17 (by decide) (by decide)
  have e23 := hC 18 (by decide) (by decide)
  rw [← e22] at hn
  intro k
  induction k with
  | zero => intro i h1 h2; omega
  | succ k ih =>
    intro i hk hi he
    refine r_iload_n c_42_11 rfl <| r_aload_n c_42_12 rfl <| r_getf_i c_42_13 rfl rfl <| r_icmp_ge c_42_16 (fun h16 => ?_) <| (fun h16 => ?_)
    · refine r_iconst c_42_37 <| r_iret c_42_38 <| ?_
      exact q_val k0 (by rw [he, fsI_end (by omega)])
    · refine r_aload_n c_42_19 rfl <| r_getf_a c_42_20 rfl rfl <| r_iload_n c_42_23 rfl <| r_iald c_42_24 rfl (Or.inl rfl) rfl (by omega) <| r_iload_n c_42_25 rfl <| r_icmp_ne c_42_26 (fun h26 => ?_) <| (fun h26 => ?_)
      · refine r_iinc_3_2 c_42_31 rfl (by omega) <| r_goto c_42_34 <| ?_
        exact ih (i + 1) (by omega) (by omega) (by rw [he, fsI_step (by omega), if_neg (by rw [e23] at h26; simpa using h26)])
      · refine r_iload_n c_42_29 rfl <| r_iret c_42_30 <| ?_
        exact q_val k0 (by rw [he, fsI_step (by omega), if_pos (by rw [e23] at h26; simpa using h26)])
theorem ct_pfind (hC : TC σ T) (hO : TOK T) (p : Int) (k : Q (some (vI (ptI T p))) (hp L σ)) : mm_call 42 [vP 17, vI p] (hp L σ) Q := by
  refine ⟨Nat.le_of_ble_eq_true rfl, ?_⟩
  show mm_X 42 0 [vP 17, vI p, mm_null] [] _ _
  refine r_iload_n c_42_0 rfl <| r_sipush c_42_1 <| r_icmp_ge c_42_4 (fun h4 => ?_) <| (fun h4 => ?_)
  · refine r_iconst c_42_9 <| r_istore_n_3_2 c_42_10 rfl <| ?_
    exact lp_pfind hC hO k (nP T + 1) 0 (by omega) (by omega) rfl
  · refine r_iconst c_42_7 <| r_iret c_42_8 <| ?_
    exact q_val k (ptI_low hO (by omega)).symm
theorem lp_pair (hC : TC σ T) (hO : TOK T) {a b : Int} (k0 : Q (some (vI (prI T a b))) (hp L σ)) : ∀ (k i : Nat), nP T + 1 ≤ i + k → i ≤ nP T → prI T a b = fsI (fun i => decide (T 19 i = a ∧ T 20 i = b ∧ T 21 i = 0)) (nP T - i) i → mm_X 43 2 [vP 17, vI a, vI b, vI i] [] (hp L σ) Q := by
  obtain ⟨⟨-, ⟨hn, hn2⟩, -⟩, -⟩ := hO
  have e22 := hC 17 (by decide) (by decide)
  have e23 := hC 19 (by decide) (by decide)
  have e24 := hC 20 (by decide) (by decide)
  have e25 := hC 21 (by decide) (by decide)
  rw [← e22] at hn
  intro k
  induction k with
  | zero => intro i h1 h2; omega
  | succ k ih =>
    intro i hk hi he
    refine r_iload_n c_43_2 rfl <| r_aload_n c_43_3 rfl <| r_getf_i c_43_4 rfl rfl <| r_icmp_ge c_43_7 (fun h7 => ?_) <| (fun h7 => ?_)
    · refine r_iconst c_43_47 <| r_iret c_43_48 <| ?_
      exact q_val k0 (by rw [he, fsI_end (by omega)])
    · refine r_aload_n c_43_10 rfl <| r_getf_a c_43_11 rfl rfl <| r_iload_n c_43_14 rfl <| r_iald c_43_15 rfl (Or.inl rfl) rfl (by omega) <| r_iload_n c_43_16 rfl <| r_icmp_ne c_43_17 (fun h17 => ?_) <| (fun h17 => ?_)
      · refine r_iinc_4_3 c_43_41 rfl (by omega) <| r_goto c_43_44 <| ?_
        exact ih (i + 1) (by omega) (by omega) (by rw [he, fsI_step (by omega), if_neg (by rw [← e23, ← e24, ← e25]; simp only [decide_eq_true_eq]; omega)])
      · refine r_aload_n c_43_20 rfl <| r_getf_a c_43_21 rfl rfl <| r_iload_n c_43_24 rfl <| r_iald c_43_25 rfl (Or.inl rfl) rfl (by omega) <| r_iload_n c_43_26 rfl <| r_icmp_ne c_43_27 (fun h27 => ?_) <| (fun h27 => ?_)
        · refine r_iinc_4_3 c_43_41 rfl (by omega) <| r_goto c_43_44 <| ?_
          exact ih (i + 1) (by omega) (by omega) (by rw [he, fsI_step (by omega), if_neg (by rw [← e23, ← e24, ← e25]; simp only [decide_eq_true_eq]; omega)])
        · refine r_aload_n c_43_30 rfl <| r_getf_a c_43_31 rfl rfl <| r_iload_n c_43_34 rfl <| r_bald c_43_35 rfl (Or.inl rfl) rfl (by omega) <| r_if_ne c_43_36 (fun h36 => ?_) <| (fun h36 => ?_)
          · refine r_iinc_4_3 c_43_41 rfl (by omega) <| r_goto c_43_44 <| ?_
            exact ih (i + 1) (by omega) (by omega) (by rw [he, fsI_step (by omega), if_neg (by rw [← e23, ← e24, ← e25]; simp only [decide_eq_true_eq]; omega)])
          · refine r_iload_n c_43_39 rfl <| r_iret c_43_40 <| ?_
            exact q_val k0 (by rw [he, fsI_step (by omega), if_pos (by rw [← e23, ← e24, ← e25]; simp only [decide_eq_true_eq]; omega)])
theorem ct_pair (hC : TC σ T) (hO : TOK T) (a b : Int) (k : Q (some (vI (prI T a b))) (hp L σ)) : mm_call 43 [vP 17, vI a, vI b] (hp L σ) Q := by
  refine ⟨Nat.le_of_ble_eq_true rfl, ?_⟩
  show mm_X 43 0 [vP 17, vI a, vI b, mm_null] [] _ _
  refine r_iconst c_43_0 <| r_istore_n_4_3 c_43_1 rfl <| ?_
  exact lp_pair hC hO k (nP T + 1) 0 (by omega) (by omega) rfl
theorem ct_earlier (hC : TC σ T) (hO : TOK T) {j : Nat} (hj : j < nP T) (k : Q (some (vI (T 19 j))) (hp L σ)) : mm_call 65 [vP 17, vI j] (hp L σ) Q := by
  obtain ⟨⟨-, ⟨hn, hn2⟩, -⟩, -⟩ := hO
  have e22 := hC 17 (by decide) (by decide)
  have e23 := hC 19 (by decide) (by decide)
  rw [← e22] at hn
  refine ⟨Nat.le_of_ble_eq_true rfl, ?_⟩
  show mm_X 65 0 [vP 17, vI j] [] _ _
  refine r_iload_n c_65_0 rfl <| r_if_lt c_65_1 (fun h1 => ?_) <| (fun h1 => ?_)
  · refine r_iconst c_65_21 <| r_iret c_65_22 <| ?_
    first | (rw [e23]; exact k) | exact absurd h1 (by omega) | exact absurd h9 (by omega)
  · refine r_iload_n c_65_4 rfl <| r_aload_n c_65_5 rfl <| r_getf_i c_65_6 rfl rfl <| r_icmp_ge c_65_9 (fun h9 => ?_) <| (fun h9 => ?_)
    · refine r_iconst c_65_21 <| r_iret c_65_22 <| ?_
      first | (rw [e23]; exact k) | exact absurd h1 (by omega) | exact absurd h9 (by omega)
    · refine r_aload_n c_65_12 rfl <| r_getf_a c_65_13 rfl rfl <| r_iload_n c_65_16 rfl <| r_iald c_65_17 rfl (Or.inl rfl) rfl (by omega) <| r_goto c_65_18 <| r_iret c_65_22 <| ?_
      first | (rw [e23]; exact k) | exact absurd h1 (by omega) | exact absurd h9 (by omega)
theorem ct_later (hC : TC σ T) (hO : TOK T) {j : Nat} (hj : j < nP T) (k : Q (some (vI (T 20 j))) (hp L σ)) : mm_call 64 [vP 17, vI j] (hp L σ) Q := by
  obtain ⟨⟨-, ⟨hn, hn2⟩, -⟩, -⟩ := hO
  have e22 := hC 17 (by decide) (by decide)
  have e23 := hC 20 (by decide) (by decide)
  rw [← e22] at hn
  refine ⟨Nat.le_of_ble_eq_true rfl, ?_⟩
  show mm_X 64 0 [vP 17, vI j] [] _ _
  refine r_iload_n c_64_0 rfl <| r_if_lt c_64_1 (fun h1 => ?_) <| (fun h1 => ?_)
  · refine r_iconst c_64_21 <| r_iret c_64_22 <| ?_
    first | (rw [e23]; exact k) | exact absurd h1 (by omega) | exact absurd h9 (by omega)
  · refine r_iload_n c_64_4 rfl <| r_aload_n c_64_5 rfl <| r_getf_i c_64_6 rfl rfl <| r_icmp_ge c_64_9 (fun h9 => ?_) <| (fun h9 => ?_)
    · refine r_iconst c_64_21 <| r_iret c_64_22 <| ?_
      first | (rw [e23]; exact k) | exact absurd h1 (by omega) | exact absurd h9 (by omega)
    · refine r_aload_n c_64_12 rfl <| r_getf_a c_64_13 rfl rfl <| r_iload_n c_64_16 rfl <| r_iald c_64_17 rfl (Or.inl rfl) rfl (by omega) <| r_goto c_64_18 <| r_iret c_64_22 <| ?_
      first | (rw [e23]; exact k) | exact absurd h1 (by omega) | exact absurd h9 (by omega)
theorem ct_together (hC : TC σ T) (hO : TOK T) (a b : Int) (k : Q (some (vI (tgO T a b))) (hp L σ)) : mm_call 71 [vP 17, vI a, vI b] (hp L σ) Q := by
  have e18 := hC 18 (by decide) (by decide)
  have hn2 := hO.1.2.1.2
  have hb := prI_lt (T := T) a b
  refine ⟨Nat.le_of_ble_eq_true rfl, ?_⟩
  show mm_X 71 0 [vP 17, vI a, vI b, mm_null] [] _ _
  refine r_iload_n c_71_0 rfl <| r_cS1 c_71_1 (Nat.le_of_ble_eq_true rfl) <| ?_
  refine ct_lead _ (fun h1 => ?_) (fun h1 => ?_)
  · refine r_if_eq c_71_4 (fun h => absurd h (by decide)) <| (fun _ => ?_)
    refine r_iload_n c_71_7 rfl <| r_cS1 c_71_8 (Nat.le_of_ble_eq_true rfl) <| ?_
    refine ct_vowel _ (fun h8 => ?_) (fun h8 => ?_)
    · refine r_if_eq c_71_11 (fun h => absurd h (by decide)) <| (fun _ => ?_)
      refine r_ldc c_71_14 <| r_iload_n c_71_16 rfl <| r_sipush c_71_17 <| r_isub c_71_20 (by unfold isLd at *; omega) <| r_sipush c_71_21 <| r_imul c_71_24 (by unfold isLd at *; omega) <| r_iadd c_71_25 (by unfold isLd at *; omega) <| r_iload_n c_71_26 rfl <| r_sipush c_71_27 <| r_isub c_71_30 (by unfold isVw at *; omega) <| ?_
      refine r_bipush c_71_31 <| r_imul c_71_33 (by unfold isVw at *; omega) <| r_iadd c_71_34 (by unfold isLd isVw at *; omega) <| r_iret c_71_35 <| ?_
      exact q_val k (by unfold tgO; rw [if_pos ⟨by assumption, by assumption⟩])
    · refine r_if_eq c_71_11 (fun _ => ?_) <| (fun h => absurd h (by decide))
      refine r_iload_n c_71_36 rfl <| r_cS1 c_71_37 (Nat.le_of_ble_eq_true rfl) <| ?_
      refine ct_syl _ (fun h37 => ?_) (fun h37 => ?_)
      · refine r_if_eq c_71_40 (fun h => absurd h (by decide)) <| (fun _ => ?_)
        refine r_iload_n c_71_43 rfl <| r_ldc c_71_44 <| r_isub c_71_46 (by unfold isSyl at *; omega) <| r_bipush c_71_47 <| r_irem c_71_49 (by unfold isSyl at *; omega) (by omega) <| r_if_ne c_71_50 (fun h50 => ?_) <| (fun h50 => ?_)
        · refine r_iload_n c_71_68 rfl <| r_if_ne c_71_69 (fun h69 => ?_) <| (fun h69 => ?_)
          · refine r_aload_n c_71_76 rfl <| r_iload_n c_71_77 rfl <| r_iload_n c_71_78 rfl <| r_cV2 c_71_79 rfl (Nat.le_of_ble_eq_true rfl) <| ?_
            refine ct_pair hC hO a b ?_
            refine r_istore_n_4_3 c_71_82 rfl <| r_iload_n c_71_83 rfl <| r_if_lt c_71_84 (fun h84 => ?_) <| (fun h84 => ?_)
            · refine r_iconst c_71_96 <| r_iret c_71_97 <| ?_
              have g1 : ¬ (isLd a ∧ isVw b) := fun q => by first | exact absurd q.1 (by assumption) | exact absurd q.2 (by assumption)
              have g2 : ¬ (isSyl a ∧ (a - 44032) % 28 = 0 ∧ isTl b) := fun q => by first | exact absurd q.1 (by assumption) | exact absurd q.2.1 (by assumption) | exact absurd q.2.2 (by assumption)
              first
                | (exfalso; omega)
                | exact q_val k (by unfold tgO; rw [if_neg g1, if_neg g2, if_pos (by omega)])
                | exact q_val k (by unfold tgO; rw [if_neg g1, if_neg g2, if_neg (by omega), e18])
            · refine r_aload_n c_71_87 rfl <| r_getf_a c_71_88 rfl rfl <| r_iload_n c_71_91 rfl <| r_iald c_71_92 rfl (Or.inl rfl) (jn := (prI T a b).toNat) (by omega) (by omega) <| r_goto c_71_93 <| r_iret c_71_97 <| ?_
              have g1 : ¬ (isLd a ∧ isVw b) := fun q => by first | exact absurd q.1 (by assumption) | exact absurd q.2 (by assumption)
              have g2 : ¬ (isSyl a ∧ (a - 44032) % 28 = 0 ∧ isTl b) := fun q => by first | exact absurd q.1 (by assumption) | exact absurd q.2.1 (by assumption) | exact absurd q.2.2 (by assumption)
              first
                | (exfalso; omega)
                | exact q_val k (by unfold tgO; rw [if_neg g1, if_neg g2, if_pos (by omega)])
                | exact q_val k (by unfold tgO; rw [if_neg g1, if_neg g2, if_neg (by omega), e18])
          · refine r_iconst c_71_72 <| r_goto c_71_73 <| r_istore_n_4_3 c_71_82 rfl <| r_iload_n c_71_83 rfl <| r_if_lt c_71_84 (fun _ => ?_) <| (fun h => absurd h (by decide))
            refine r_iconst c_71_96 <| r_iret c_71_97 <| ?_
            have g1 : ¬ (isLd a ∧ isVw b) := fun q => by first | exact absurd q.1 (by assumption) | exact absurd q.2 (by assumption)
            have g2 : ¬ (isSyl a ∧ (a - 44032) % 28 = 0 ∧ isTl b) := fun q => by first | exact absurd q.1 (by assumption) | exact absurd q.2.1 (by assumption) | exact absurd q.2.2 (by assumption)
            first
              | (exfalso; omega)
              | exact q_val k (by unfold tgO; rw [if_neg g1, if_neg g2, if_pos (by omega)])
              | exact q_val k (by unfold tgO; rw [if_neg g1, if_neg g2, if_neg (by omega), e18])
        · refine r_iload_n c_71_53 rfl <| r_cS1 c_71_54 (Nat.le_of_ble_eq_true rfl) <| ?_
          refine ct_tail _ (fun h54 => ?_) (fun h54 => ?_)
          · refine r_if_eq c_71_57 (fun h => absurd h (by decide)) <| (fun _ => ?_)
            refine r_iload_n c_71_60 rfl <| r_iload_n c_71_61 rfl <| r_iadd c_71_62 (by unfold isSyl isTl at *; omega) <| r_sipush c_71_63 <| r_isub c_71_66 (by unfold isSyl isTl at *; omega) <| r_iret c_71_67 <| ?_
            exact q_val k (by unfold tgO; rw [if_neg (fun q => by first | exact absurd q.1 (by assumption) | exact absurd q.2 (by assumption)), if_pos ⟨by assumption, by assumption, by assumption⟩])
          · refine r_if_eq c_71_57 (fun _ => ?_) <| (fun h => absurd h (by decide))
            refine r_iload_n c_71_68 rfl <| r_if_ne c_71_69 (fun h69 => ?_) <| (fun h69 => ?_)
            · refine r_aload_n c_71_76 rfl <| r_iload_n c_71_77 rfl <| r_iload_n c_71_78 rfl <| r_cV2 c_71_79 rfl (Nat.le_of_ble_eq_true rfl) <| ?_
              refine ct_pair hC hO a b ?_
              refine r_istore_n_4_3 c_71_82 rfl <| r_iload_n c_71_83 rfl <| r_if_lt c_71_84 (fun h84 => ?_) <| (fun h84 => ?_)
              · refine r_iconst c_71_96 <| r_iret c_71_97 <| ?_
                have g1 : ¬ (isLd a ∧ isVw b) := fun q => by first | exact absurd q.1 (by assumption) | exact absurd q.2 (by assumption)
                have g2 : ¬ (isSyl a ∧ (a - 44032) % 28 = 0 ∧ isTl b) := fun q => by first | exact absurd q.1 (by assumption) | exact absurd q.2.1 (by assumption) | exact absurd q.2.2 (by assumption)
                first
                  | (exfalso; omega)
                  | exact q_val k (by unfold tgO; rw [if_neg g1, if_neg g2, if_pos (by omega)])
                  | exact q_val k (by unfold tgO; rw [if_neg g1, if_neg g2, if_neg (by omega), e18])
              · refine r_aload_n c_71_87 rfl <| r_getf_a c_71_88 rfl rfl <| r_iload_n c_71_91 rfl <| r_iald c_71_92 rfl (Or.inl rfl) (jn := (prI T a b).toNat) (by omega) (by omega) <| r_goto c_71_93 <| r_iret c_71_97 <| ?_
                have g1 : ¬ (isLd a ∧ isVw b) := fun q => by first | exact absurd q.1 (by assumption) | exact absurd q.2 (by assumption)
                have g2 : ¬ (isSyl a ∧ (a - 44032) % 28 = 0 ∧ isTl b) := fun q => by first | exact absurd q.1 (by assumption) | exact absurd q.2.1 (by assumption) | exact absurd q.2.2 (by assumption)
                first
                  | (exfalso; omega)
                  | exact q_val k (by unfold tgO; rw [if_neg g1, if_neg g2, if_pos (by omega)])
                  | exact q_val k (by unfold tgO; rw [if_neg g1, if_neg g2, if_neg (by omega), e18])
            · refine r_iconst c_71_72 <| r_goto c_71_73 <| r_istore_n_4_3 c_71_82 rfl <| r_iload_n c_71_83 rfl <| r_if_lt c_71_84 (fun _ => ?_) <| (fun h => absurd h (by decide))
              refine r_iconst c_71_96 <| r_iret c_71_97 <| ?_
              have g1 : ¬ (isLd a ∧ isVw b) := fun q => by first | exact absurd q.1 (by assumption) | exact absurd q.2 (by assumption)
              have g2 : ¬ (isSyl a ∧ (a - 44032) % 28 = 0 ∧ isTl b) := fun q => by first | exact absurd q.1 (by assumption) | exact absurd q.2.1 (by assumption) | exact absurd q.2.2 (by assumption)
              first
                | (exfalso; omega)
                | exact q_val k (by unfold tgO; rw [if_neg g1, if_neg g2, if_pos (by omega)])
                | exact q_val k (by unfold tgO; rw [if_neg g1, if_neg g2, if_neg (by omega), e18])
      · refine r_if_eq c_71_40 (fun _ => ?_) <| (fun h => absurd h (by decide))
        refine r_iload_n c_71_68 rfl <| r_if_ne c_71_69 (fun h69 => ?_) <| (fun h69 => ?_)
        · refine r_aload_n c_71_76 rfl <| r_iload_n c_71_77 rfl <| r_iload_n c_71_78 rfl <| r_cV2 c_71_79 rfl (Nat.le_of_ble_eq_true rfl) <| ?_
          refine ct_pair hC hO a b ?_
          refine r_istore_n_4_3 c_71_82 rfl <| r_iload_n c_71_83 rfl <| r_if_lt c_71_84 (fun h84 => ?_) <| (fun h84 => ?_)
          · refine r_iconst c_71_96 <| r_iret c_71_97 <| ?_
            have g1 : ¬ (isLd a ∧ isVw b) := fun q => by first | exact absurd q.1 (by assumption) | exact absurd q.2 (by assumption)
            have g2 : ¬ (isSyl a ∧ (a - 44032) % 28 = 0 ∧ isTl b) := fun q => by first | exact absurd q.1 (by assumption) | exact absurd q.2.1 (by assumption) | exact absurd q.2.2 (by assumption)
            first
              | (exfalso; omega)
              | exact q_val k (by unfold tgO; rw [if_neg g1, if_neg g2, if_pos (by omega)])
              | exact q_val k (by unfold tgO; rw [if_neg g1, if_neg g2, if_neg (by omega), e18])
          · refine r_aload_n c_71_87 rfl <| r_getf_a c_71_88 rfl rfl <| r_iload_n c_71_91 rfl <| r_iald c_71_92 rfl (Or.inl rfl) (jn := (prI T a b).toNat) (by omega) (by omega) <| r_goto c_71_93 <| r_iret c_71_97 <| ?_
            have g1 : ¬ (isLd a ∧ isVw b) := fun q => by first | exact absurd q.1 (by assumption) | exact absurd q.2 (by assumption)
            have g2 : ¬ (isSyl a ∧ (a - 44032) % 28 = 0 ∧ isTl b) := fun q => by first | exact absurd q.1 (by assumption) | exact absurd q.2.1 (by assumption) | exact absurd q.2.2 (by assumption)
            first
              | (exfalso; omega)
              | exact q_val k (by unfold tgO; rw [if_neg g1, if_neg g2, if_pos (by omega)])
              | exact q_val k (by unfold tgO; rw [if_neg g1, if_neg g2, if_neg (by omega), e18])
        · refine r_iconst c_71_72 <| r_goto c_71_73 <| r_istore_n_4_3 c_71_82 rfl <| r_iload_n c_71_83 rfl <| r_if_lt c_71_84 (fun _ => ?_) <| (fun h => absurd h (by decide))
          refine r_iconst c_71_96 <| r_iret c_71_97 <| ?_
          have g1 : ¬ (isLd a ∧ isVw b) := fun q => by first | exact absurd q.1 (by assumption) | exact absurd q.2 (by assumption)
          have g2 : ¬ (isSyl a ∧ (a - 44032) % 28 = 0 ∧ isTl b) := fun q => by first | exact absurd q.1 (by assumption) | exact absurd q.2.1 (by assumption) | exact absurd q.2.2 (by assumption)
          first
            | (exfalso; omega)
            | exact q_val k (by unfold tgO; rw [if_neg g1, if_neg g2, if_pos (by omega)])
            | exact q_val k (by unfold tgO; rw [if_neg g1, if_neg g2, if_neg (by omega), e18])
  · refine r_if_eq c_71_4 (fun _ => ?_) <| (fun h => absurd h (by decide))
    refine r_iload_n c_71_36 rfl <| r_cS1 c_71_37 (Nat.le_of_ble_eq_true rfl) <| ?_
    refine ct_syl _ (fun h37 => ?_) (fun h37 => ?_)
    · refine r_if_eq c_71_40 (fun h => absurd h (by decide)) <| (fun _ => ?_)
      refine r_iload_n c_71_43 rfl <| r_ldc c_71_44 <| r_isub c_71_46 (by unfold isSyl at *; omega) <| r_bipush c_71_47 <| r_irem c_71_49 (by unfold isSyl at *; omega) (by omega) <| r_if_ne c_71_50 (fun h50 => ?_) <| (fun h50 => ?_)
      · refine r_iload_n c_71_68 rfl <| r_if_ne c_71_69 (fun h69 => ?_) <| (fun h69 => ?_)
        · refine r_aload_n c_71_76 rfl <| r_iload_n c_71_77 rfl <| r_iload_n c_71_78 rfl <| r_cV2 c_71_79 rfl (Nat.le_of_ble_eq_true rfl) <| ?_
          refine ct_pair hC hO a b ?_
          refine r_istore_n_4_3 c_71_82 rfl <| r_iload_n c_71_83 rfl <| r_if_lt c_71_84 (fun h84 => ?_) <| (fun h84 => ?_)
          · refine r_iconst c_71_96 <| r_iret c_71_97 <| ?_
            have g1 : ¬ (isLd a ∧ isVw b) := fun q => by first | exact absurd q.1 (by assumption) | exact absurd q.2 (by assumption)
            have g2 : ¬ (isSyl a ∧ (a - 44032) % 28 = 0 ∧ isTl b) := fun q => by first | exact absurd q.1 (by assumption) | exact absurd q.2.1 (by assumption) | exact absurd q.2.2 (by assumption)
            first
              | (exfalso; omega)
              | exact q_val k (by unfold tgO; rw [if_neg g1, if_neg g2, if_pos (by omega)])
              | exact q_val k (by unfold tgO; rw [if_neg g1, if_neg g2, if_neg (by omega), e18])
          · refine r_aload_n c_71_87 rfl <| r_getf_a c_71_88 rfl rfl <| r_iload_n c_71_91 rfl <| r_iald c_71_92 rfl (Or.inl rfl) (jn := (prI T a b).toNat) (by omega) (by omega) <| r_goto c_71_93 <| r_iret c_71_97 <| ?_
            have g1 : ¬ (isLd a ∧ isVw b) := fun q => by first | exact absurd q.1 (by assumption) | exact absurd q.2 (by assumption)
            have g2 : ¬ (isSyl a ∧ (a - 44032) % 28 = 0 ∧ isTl b) := fun q => by first | exact absurd q.1 (by assumption) | exact absurd q.2.1 (by assumption) | exact absurd q.2.2 (by assumption)
            first
              | (exfalso; omega)
              | exact q_val k (by unfold tgO; rw [if_neg g1, if_neg g2, if_pos (by omega)])
              | exact q_val k (by unfold tgO; rw [if_neg g1, if_neg g2, if_neg (by omega), e18])
        · refine r_iconst c_71_72 <| r_goto c_71_73 <| r_istore_n_4_3 c_71_82 rfl <| r_iload_n c_71_83 rfl <| r_if_lt c_71_84 (fun _ => ?_) <| (fun h => absurd h (by decide))
          refine r_iconst c_71_96 <| r_iret c_71_97 <| ?_
          have g1 : ¬ (isLd a ∧ isVw b) := fun q => by first | exact absurd q.1 (by assumption) | exact absurd q.2 (by assumption)
          have g2 : ¬ (isSyl a ∧ (a - 44032) % 28 = 0 ∧ isTl b) := fun q => by first | exact absurd q.1 (by assumption) | exact absurd q.2.1 (by assumption) | exact absurd q.2.2 (by assumption)
          first
            | (exfalso; omega)
            | exact q_val k (by unfold tgO; rw [if_neg g1, if_neg g2, if_pos (by omega)])
            | exact q_val k (by unfold tgO; rw [if_neg g1, if_neg g2, if_neg (by omega), e18])
      · refine r_iload_n c_71_53 rfl <| r_cS1 c_71_54 (Nat.le_of_ble_eq_true rfl) <| ?_
        refine ct_tail _ (fun h54 => ?_) (fun h54 => ?_)
        · refine r_if_eq c_71_57 (fun h => absurd h (by decide)) <| (fun _ => ?_)
          refine r_iload_n c_71_60 rfl <| r_iload_n c_71_61 rfl <| r_iadd c_71_62 (by unfold isSyl isTl at *; omega) <| r_sipush c_71_63 <| r_isub c_71_66 (by unfold isSyl isTl at *; omega) <| r_iret c_71_67 <| ?_
          exact q_val k (by unfold tgO; rw [if_neg (fun q => by first | exact absurd q.1 (by assumption) | exact absurd q.2 (by assumption)), if_pos ⟨by assumption, by assumption, by assumption⟩])
        · refine r_if_eq c_71_57 (fun _ => ?_) <| (fun h => absurd h (by decide))
          refine r_iload_n c_71_68 rfl <| r_if_ne c_71_69 (fun h69 => ?_) <| (fun h69 => ?_)
          · refine r_aload_n c_71_76 rfl <| r_iload_n c_71_77 rfl <| r_iload_n c_71_78 rfl <| r_cV2 c_71_79 rfl (Nat.le_of_ble_eq_true rfl) <| ?_
            refine ct_pair hC hO a b ?_
            refine r_istore_n_4_3 c_71_82 rfl <| r_iload_n c_71_83 rfl <| r_if_lt c_71_84 (fun h84 => ?_) <| (fun h84 => ?_)
            · refine r_iconst c_71_96 <| r_iret c_71_97 <| ?_
              have g1 : ¬ (isLd a ∧ isVw b) := fun q => by first | exact absurd q.1 (by assumption) | exact absurd q.2 (by assumption)
              have g2 : ¬ (isSyl a ∧ (a - 44032) % 28 = 0 ∧ isTl b) := fun q => by first | exact absurd q.1 (by assumption) | exact absurd q.2.1 (by assumption) | exact absurd q.2.2 (by assumption)
              first
                | (exfalso; omega)
                | exact q_val k (by unfold tgO; rw [if_neg g1, if_neg g2, if_pos (by omega)])
                | exact q_val k (by unfold tgO; rw [if_neg g1, if_neg g2, if_neg (by omega), e18])
            · refine r_aload_n c_71_87 rfl <| r_getf_a c_71_88 rfl rfl <| r_iload_n c_71_91 rfl <| r_iald c_71_92 rfl (Or.inl rfl) (jn := (prI T a b).toNat) (by omega) (by omega) <| r_goto c_71_93 <| r_iret c_71_97 <| ?_
              have g1 : ¬ (isLd a ∧ isVw b) := fun q => by first | exact absurd q.1 (by assumption) | exact absurd q.2 (by assumption)
              have g2 : ¬ (isSyl a ∧ (a - 44032) % 28 = 0 ∧ isTl b) := fun q => by first | exact absurd q.1 (by assumption) | exact absurd q.2.1 (by assumption) | exact absurd q.2.2 (by assumption)
              first
                | (exfalso; omega)
                | exact q_val k (by unfold tgO; rw [if_neg g1, if_neg g2, if_pos (by omega)])
                | exact q_val k (by unfold tgO; rw [if_neg g1, if_neg g2, if_neg (by omega), e18])
          · refine r_iconst c_71_72 <| r_goto c_71_73 <| r_istore_n_4_3 c_71_82 rfl <| r_iload_n c_71_83 rfl <| r_if_lt c_71_84 (fun _ => ?_) <| (fun h => absurd h (by decide))
            refine r_iconst c_71_96 <| r_iret c_71_97 <| ?_
            have g1 : ¬ (isLd a ∧ isVw b) := fun q => by first | exact absurd q.1 (by assumption) | exact absurd q.2 (by assumption)
            have g2 : ¬ (isSyl a ∧ (a - 44032) % 28 = 0 ∧ isTl b) := fun q => by first | exact absurd q.1 (by assumption) | exact absurd q.2.1 (by assumption) | exact absurd q.2.2 (by assumption)
            first
              | (exfalso; omega)
              | exact q_val k (by unfold tgO; rw [if_neg g1, if_neg g2, if_pos (by omega)])
              | exact q_val k (by unfold tgO; rw [if_neg g1, if_neg g2, if_neg (by omega), e18])
    · refine r_if_eq c_71_40 (fun _ => ?_) <| (fun h => absurd h (by decide))
      refine r_iload_n c_71_68 rfl <| r_if_ne c_71_69 (fun h69 => ?_) <| (fun h69 => ?_)
      · refine r_aload_n c_71_76 rfl <| r_iload_n c_71_77 rfl <| r_iload_n c_71_78 rfl <| r_cV2 c_71_79 rfl (Nat.le_of_ble_eq_true rfl) <| ?_
        refine ct_pair hC hO a b ?_
        refine r_istore_n_4_3 c_71_82 rfl <| r_iload_n c_71_83 rfl <| r_if_lt c_71_84 (fun h84 => ?_) <| (fun h84 => ?_)
        · refine r_iconst c_71_96 <| r_iret c_71_97 <| ?_
          have g1 : ¬ (isLd a ∧ isVw b) := fun q => by first | exact absurd q.1 (by assumption) | exact absurd q.2 (by assumption)
          have g2 : ¬ (isSyl a ∧ (a - 44032) % 28 = 0 ∧ isTl b) := fun q => by first | exact absurd q.1 (by assumption) | exact absurd q.2.1 (by assumption) | exact absurd q.2.2 (by assumption)
          first
            | (exfalso; omega)
            | exact q_val k (by unfold tgO; rw [if_neg g1, if_neg g2, if_pos (by omega)])
            | exact q_val k (by unfold tgO; rw [if_neg g1, if_neg g2, if_neg (by omega), e18])
        · refine r_aload_n c_71_87 rfl <| r_getf_a c_71_88 rfl rfl <| r_iload_n c_71_91 rfl <| r_iald c_71_92 rfl (Or.inl rfl) (jn := (prI T a b).toNat) (by omega) (by omega) <| r_goto c_71_93 <| r_iret c_71_97 <| ?_
          have g1 : ¬ (isLd a ∧ isVw b) := fun q => by first | exact absurd q.1 (by assumption) | exact absurd q.2 (by assumption)
          have g2 : ¬ (isSyl a ∧ (a - 44032) % 28 = 0 ∧ isTl b) := fun q => by first | exact absurd q.1 (by assumption) | exact absurd q.2.1 (by assumption) | exact absurd q.2.2 (by assumption)
          first
            | (exfalso; omega)
            | exact q_val k (by unfold tgO; rw [if_neg g1, if_neg g2, if_pos (by omega)])
            | exact q_val k (by unfold tgO; rw [if_neg g1, if_neg g2, if_neg (by omega), e18])
      · refine r_iconst c_71_72 <| r_goto c_71_73 <| r_istore_n_4_3 c_71_82 rfl <| r_iload_n c_71_83 rfl <| r_if_lt c_71_84 (fun _ => ?_) <| (fun h => absurd h (by decide))
        refine r_iconst c_71_96 <| r_iret c_71_97 <| ?_
        have g1 : ¬ (isLd a ∧ isVw b) := fun q => by first | exact absurd q.1 (by assumption) | exact absurd q.2 (by assumption)
        have g2 : ¬ (isSyl a ∧ (a - 44032) % 28 = 0 ∧ isTl b) := fun q => by first | exact absurd q.1 (by assumption) | exact absurd q.2.1 (by assumption) | exact absurd q.2.2 (by assumption)
        first
          | (exfalso; omega)
          | exact q_val k (by unfold tgO; rw [if_neg g1, if_neg g2, if_pos (by omega)])
          | exact q_val k (by unfold tgO; rw [if_neg g1, if_neg g2, if_neg (by omega), e18])
theorem lp_latest (hC : TC σ T) (hO : TOK T) {p : Int} (k0 : Q (some (vI (stI T p))) (hp L σ)) : ∀ (k : Nat), k ≤ nS T → stI T p = lsI (fun i => decide (T 12 i ≤ p ∧ p ≤ T 13 i)) k → mm_X 52 7 [vP 11, vI p, vI (k - 1)] [] (hp L σ) Q := by
  have hn2 := hO.1.1.2
  have e12 := hC 12 (by decide) (by decide)
  have e13 := hC 13 (by decide) (by decide)
  intro k
  induction k with
  | zero =>
    intro hk he
    refine r_iload_n c_52_7 rfl <| r_if_lt c_52_8 (fun h8 => ?_) <| (fun h8 => ?_)
    · refine r_iconst c_52_39 <| r_iret c_52_40 <| ?_
      exact q_val k0 (by rw [he]; rfl)
    · exact absurd h8 (by omega)
  | succ k ih =>
    intro hk he
    rw [show ((k + 1 : Nat) : Int) - 1 = (k : Int) by omega]
    refine r_iload_n c_52_7 rfl <| r_if_lt c_52_8 (fun h8 => ?_) <| (fun h8 => ?_)
    · refine r_iconst c_52_39 <| r_iret c_52_40 <| ?_
      exact absurd h8 (by omega)
    · refine r_aload_n c_52_11 rfl <| r_getf_a c_52_12 rfl rfl <| r_iload_n c_52_15 rfl <| r_iald c_52_16 rfl (Or.inl rfl) rfl (by omega) <| r_iload_n c_52_17 rfl <| r_icmp_gt c_52_18 (fun h18 => ?_) <| (fun h18 => ?_)
      · refine r_iinc_3_2 c_52_33 rfl (by omega) <| r_goto c_52_36 <| ?_
        exact ih (by omega) (by rw [he]; show (if _ then _ else _) = _; rw [if_neg (by rw [← e12, ← e13]; simp only [decide_eq_true_eq]; omega)])
      · refine r_iload_n c_52_21 rfl <| r_aload_n c_52_22 rfl <| r_getf_a c_52_23 rfl rfl <| r_iload_n c_52_26 rfl <| r_iald c_52_27 rfl (Or.inl rfl) rfl (by omega) <| r_icmp_gt c_52_28 (fun h28 => ?_) <| (fun h28 => ?_)
        · refine r_iinc_3_2 c_52_33 rfl (by omega) <| r_goto c_52_36 <| ?_
          exact ih (by omega) (by rw [he]; show (if _ then _ else _) = _; rw [if_neg (by rw [← e12, ← e13]; simp only [decide_eq_true_eq]; omega)])
        · refine r_iload_n c_52_31 rfl <| r_iret c_52_32 <| ?_
          exact q_val k0 (by rw [he]; show _ = (if _ then _ else _); rw [if_pos (by rw [← e12, ← e13]; simp only [decide_eq_true_eq]; omega)])
theorem ct_latest (hC : TC σ T) (hO : TOK T) (p : Int) (k : Q (some (vI (stI T p))) (hp L σ)) : mm_call 52 [vP 11, vI p] (hp L σ) Q := by
  have hn2 := hO.1.1
  have e11 := hC 11 (by decide) (by decide)
  refine ⟨Nat.le_of_ble_eq_true rfl, ?_⟩
  show mm_X 52 0 [vP 11, vI p, mm_null] [] _ _
  refine r_aload_n c_52_0 rfl <| r_getf_i c_52_1 rfl rfl <| r_iconst c_52_4 <| r_isub c_52_5 (by rw [e11]; omega) <| r_istore_n_3_2 c_52_6 rfl <| ?_
  rw [e11, hn2.1]
  exact lp_latest hC hO k (nS T) (Nat.le_refl _) rfl
theorem ct_sof (hC : TC σ T) (hO : TOK T) (p : Int) (k : Q (some (vI (stO T p))) (hp L σ)) : mm_call 51 [vP 11, vI p] (hp L σ) Q := by
  have e14 := hC 14 (by decide) (by decide)
  have hn2 := hO.1.1.2
  have hb := stI_lt (T := T) p
  refine ⟨Nat.le_of_ble_eq_true rfl, ?_⟩
  show mm_X 51 0 [vP 11, vI p, mm_null] [] _ _
  refine r_aload_n c_51_0 rfl <| r_iload_n c_51_1 rfl <| r_cV1 c_51_2 rfl (Nat.le_of_ble_eq_true rfl) <| ?_
  refine ct_latest hC hO p ?_
  refine r_istore_n_3_2 c_51_5 rfl <| r_iload_n c_51_6 rfl <| r_if_lt c_51_7 (fun h7 => ?_) <| (fun h7 => ?_)
  · refine r_iload_n c_51_19 rfl <| r_cS1 c_51_20 (Nat.le_of_ble_eq_true rfl) <| ?_
    refine ct_stF p ?_
    refine r_iret c_51_23 <| ?_
    first | (rw [e14]; exact q_val k (by unfold stO; rw [if_neg (by omega)])) | exact q_val k (by unfold stO; rw [if_pos (by omega)])
  · refine r_aload_n c_51_10 rfl <| r_getf_a c_51_11 rfl rfl <| r_iload_n c_51_14 rfl <| r_iald c_51_15 rfl (Or.inl rfl) (jn := (stI T p).toNat) (by omega) (by omega) <| r_goto c_51_16 <| r_iret c_51_23 <| ?_
    first | (rw [e14]; exact q_val k (by unfold stO; rw [if_neg (by omega)])) | exact q_val k (by unfold stO; rw [if_pos (by omega)])
theorem lp_range (hC : TC σ T) (hO : TOK T) {kd p : Int} (k0 : Q (some (vI (rgO T kd p))) (hp L σ)) : ∀ (k : Nat), k ≤ nG T → rgI T kd p = lsI (fun i => decide (T 26 i = kd ∧ T 27 i ≤ p ∧ p ≤ T 28 i)) k → mm_X 55 7 [vP 25, vI kd, vI p, vI (k - 1)] [] (hp L σ) Q := by
  have hn2 := hO.1.2.2.2.2
  have e26 := hC 26 (by decide) (by decide)
  have e27 := hC 27 (by decide) (by decide)
  have e28 := hC 28 (by decide) (by decide)
  have e29 := hC 29 (by decide) (by decide)
  intro k
  induction k with
  | zero =>
    intro hk he
    have he : rgI T kd p = -1 := he
    refine r_iload_n c_55_7 rfl <| r_if_lt c_55_8 (fun h8 => ?_) <| (fun h8 => ?_)
    · refine r_iload_n c_55_54 rfl <| r_iconst c_55_55 <| r_icmp_ne c_55_56 (fun h56 => ?_) <| (fun h56 => ?_)
      · refine r_iconst c_55_66 <| r_iret c_55_67 <| ?_
        first | exact q_val k0 (by unfold rgO; rw [he, if_pos (by decide), if_pos (by omega)]) | exact q_val k0 (by unfold rgO; rw [he, if_pos (by decide), if_neg (by omega)])
      · refine r_iload_n c_55_59 rfl <| r_cS1 c_55_60 (Nat.le_of_ble_eq_true rfl) <| ?_
        refine ct_dirF p ?_
        refine r_goto c_55_63 <| r_iret c_55_67 <| ?_
        first | exact q_val k0 (by unfold rgO; rw [he, if_pos (by decide), if_pos (by omega)]) | exact q_val k0 (by unfold rgO; rw [he, if_pos (by decide), if_neg (by omega)])
    · exact absurd h8 (by omega)
  | succ k ih =>
    intro hk he
    rw [show ((k + 1 : Nat) : Int) - 1 = (k : Int) by omega]
    refine r_iload_n c_55_7 rfl <| r_if_lt c_55_8 (fun h8 => ?_) <| (fun h8 => ?_)
    · exact absurd h8 (by omega)
    · refine r_aload_n c_55_11 rfl <| r_getf_a c_55_12 rfl rfl <| r_iload_n c_55_15 rfl <| r_iald c_55_16 rfl (Or.inl rfl) rfl (by omega) <| r_iload_n c_55_17 rfl <| r_icmp_ne c_55_18 (fun h18 => ?_) <| (fun h18 => ?_)
      · refine r_iinc_4_3 c_55_48 rfl (by omega) <| r_goto c_55_51 <| ?_
        exact ih (by omega) (by rw [he]; show (if _ then _ else _) = _; rw [if_neg (by rw [← e26, ← e27, ← e28]; simp only [decide_eq_true_eq]; omega)])
      · refine r_aload_n c_55_21 rfl <| r_getf_a c_55_22 rfl rfl <| r_iload_n c_55_25 rfl <| r_iald c_55_26 rfl (Or.inl rfl) rfl (by omega) <| r_iload_n c_55_27 rfl <| r_icmp_gt c_55_28 (fun h28 => ?_) <| (fun h28 => ?_)
        · refine r_iinc_4_3 c_55_48 rfl (by omega) <| r_goto c_55_51 <| ?_
          exact ih (by omega) (by rw [he]; show (if _ then _ else _) = _; rw [if_neg (by rw [← e26, ← e27, ← e28]; simp only [decide_eq_true_eq]; omega)])
        · refine r_iload_n c_55_31 rfl <| r_aload_n c_55_32 rfl <| r_getf_a c_55_33 rfl rfl <| r_iload_n c_55_36 rfl <| r_iald c_55_37 rfl (Or.inl rfl) rfl (by omega) <| r_icmp_gt c_55_38 (fun h38 => ?_) <| (fun h38 => ?_)
          · refine r_iinc_4_3 c_55_48 rfl (by omega) <| r_goto c_55_51 <| ?_
            exact ih (by omega) (by rw [he]; show (if _ then _ else _) = _; rw [if_neg (by rw [← e26, ← e27, ← e28]; simp only [decide_eq_true_eq]; omega)])
          · refine r_aload_n c_55_41 rfl <| r_getf_a c_55_42 rfl rfl <| r_iload_n c_55_45 rfl <| r_iald c_55_46 rfl (Or.inl rfl) rfl (by omega) <| r_iret c_55_47 <| ?_
            have he2 : rgI T kd p = (k : Int) := by rw [he]; show (if _ then _ else _) = _; rw [if_pos (by rw [← e26, ← e27, ← e28]; simp only [decide_eq_true_eq]; omega)]
            rw [e29]
            exact q_val k0 (by unfold rgO; rw [he2, if_neg (by omega), Int.toNat_natCast])
theorem ct_range (hC : TC σ T) (hO : TOK T) (kd p : Int) (k : Q (some (vI (rgO T kd p))) (hp L σ)) : mm_call 55 [vP 25, vI kd, vI p] (hp L σ) Q := by
  have hn2 := hO.1.2.2.2
  have e11 := hC 25 (by decide) (by decide)
  refine ⟨Nat.le_of_ble_eq_true rfl, ?_⟩
  show mm_X 55 0 [vP 25, vI kd, vI p, mm_null] [] _ _
  refine r_aload_n c_55_0 rfl <| r_getf_i c_55_1 rfl rfl <| r_iconst c_55_4 <| r_isub c_55_5 (by rw [e11]; omega) <| r_istore_n_4_3 c_55_6 rfl <| ?_
  rw [e11, hn2.1]
  exact lp_range hC hO k (nG T) (Nat.le_refl _) rfl
end LOOK
