/-! WHAT IS TOLD: status, map, parts, rank, range; the class's side. -/
theorem q_st {L : Nat} {Q : Option mm_V → mm_H → Prop} {v : Option mm_V} {σ σ' : mk_S} (k : Q v (hp L σ)) (e : σ' = σ) : Q v (hp L σ') := e ▸ k
theorem TC.sto {σ T : mk_S} (h : TC σ T) (a k : Nat) (z : Int) : TC (sto σ a k z) (sto T a k z) := fun b h1 h2 => by
  by_cases e : b = a
  · subst e; rw [sto_at, sto_at, h b h1 h2]
  · rw [sto_ne e, sto_ne e]; exact h b h1 h2
def sta (σ : mk_S) (a : Nat) (f : Nat → Int) : mk_S := fun b => if b = a then f else σ b
theorem sta_at {σ : mk_S} {a : Nat} {f : Nat → Int} : sta σ a f a = f := if_pos rfl
theorem sta_ne {σ : mk_S} {a b : Nat} {f : Nat → Int} (h : b ≠ a) : sta σ a f b = σ b := if_neg h
theorem TC.sta {σ T : mk_S} (h : TC σ T) (a : Nat) (f : Nat → Int) : TC (sta σ a f) (sta T a f) := fun b h1 h2 => by
  by_cases e : b = a
  · subst e; rw [sta_at, sta_at]
  · rw [sta_ne e, sta_ne e]; exact h b h1 h2
def keepS (T : mk_S) (f l v : Int) : mk_S := sto (sto (sto (sto T 12 (nS T) f) 13 (nS T) l) 14 (nS T) v) 11 5 ((nS T : Int) + 1)
def mpF (f : Nat → Int) (n : Nat) (w : List Int) : Nat → Int := fun j => if 4 * n ≤ j ∧ j < 4 * n + w.length then w.getD (j - 4 * n) 0 else f j
def statN (T : mk_S) (f l s : Int) : Int := if ¬ isSp f l ∨ ¬ (s = 0 ∨ s = 1 ∨ s = 3) then -2 else if nS T = 200 then -4 else 1
def statT (T : mk_S) (f l s : Int) : mk_S := if ¬ isSp f l ∨ ¬ (s = 0 ∨ s = 1 ∨ s = 3) then T else if nS T = 200 then T else keepS T f l s
def mapN (T : mk_S) (p : Int) (w : List Int) : Int := if ¬ isPt p ∨ w.length < 1 ∨ 4 < w.length then -2 else if nS T = 200 then -4 else 1
def mapT (T : mk_S) (p : Int) (w : List Int) : mk_S := if ¬ isPt p ∨ w.length < 1 ∨ 4 < w.length then T else if nS T = 200 then T else sta (sto (keepS T p p 2) 15 (nS T) w.length) 16 (mpF (T 16) (nS T) w)
abbrev partR (p a b : Int) : Prop := isPt p ∧ (isPt a ∧ a < p ∧ ¬ isOS a) ∧ (isPt b ∧ b < p ∧ ¬ isOS b) ∧ a ≠ 0 ∧ 128 ≤ p ∧ ¬ isOS p
abbrev partD (T : mk_S) (p a b x : Int) : Prop := 0 ≤ ptI T p ∨ (b ≠ 0 ∧ x = 0 ∧ 0 ≤ prI T a b)
def partS (T : mk_S) (p a b x : Int) : mk_S := sto (sto (sto (sto (sto T 18 (nP T) p) 19 (nP T) a) 20 (nP T) b) 21 (nP T) x) 17 4 ((nP T : Int) + 1)
abbrev rankR (p r : Int) : Prop := isPt p ∧ 128 ≤ p ∧ 0 ≤ r ∧ r ≤ 254
def rankS (T : mk_S) (p r : Int) : mk_S := if 0 ≤ rkI T p then sto T 24 (rkI T p).toNat r else sto (sto (sto T 23 (nR T) p) 24 (nR T) r) 22 2 ((nR T : Int) + 1)
abbrev rangR (k f l v : Int) : Prop := 0 ≤ v ∧ v ≤ hiK k ∧ isSp f l
def rangS (T : mk_S) (k f l v : Int) : mk_S := sto (sto (sto (sto (sto T 26 (nG T) k) 27 (nG T) f) 28 (nG T) l) 29 (nG T) v) 25 4 ((nG T : Int) + 1)
section TABS
variable {L : Nat} {σ T : mk_S} {Q : Option mm_V → mm_H → Prop}
theorem ct_keep (hC : TC σ T) (hO : TOK T) (f l v : Int) (k1 : nS T < 200 → ∀ σ', σ' = sto (sto (sto (sto σ 12 (nS T) f) 13 (nS T) l) 14 (nS T) v) 11 5 ((nS T : Int) + 1) → Q (some (vI 1)) (hp L σ')) (k0 : nS T = 200 → Q (some (vI 0)) (hp L σ)) : mm_call 31 [vP 11, vI f, vI l, vI v] (hp L σ) Q := by
  have e5 : σ 11 5 = (nS T : Int) := by rw [hC 11 (by decide) (by decide)]; exact hO.1.1.1
  have hn := hO.1.1.2
  refine ⟨Nat.le_of_ble_eq_true rfl, ?_⟩
  show mm_X 31 0 [vP 11, vI f, vI l, vI v] [] _ _
  refine r_aload_n c_31_0 rfl <| r_getf_i c_31_1 rfl rfl <| r_sipush c_31_4 <| r_icmp_lt c_31_7 (fun h7 => ?_) <| (fun h7 => ?_)
  · refine r_aload_n c_31_12 rfl <| r_getf_a c_31_13 rfl rfl <| r_aload_n c_31_16 rfl <| r_getf_i c_31_17 rfl rfl <| r_iload_n c_31_20 rfl <| r_iast c_31_21 rfl (jn := nS T) e5 (by omega) <| r_aload_n c_31_22 rfl <| r_getf_a c_31_23 rfl rfl <| r_aload_n c_31_26 rfl <| r_getf_i c_31_27 rfl rfl <| ?_
    refine r_iload_n c_31_30 rfl <| r_iast c_31_31 rfl (jn := nS T) (by simp [sto, e5]) (by omega) <| r_aload_n c_31_32 rfl <| r_getf_a c_31_33 rfl rfl <| r_aload_n c_31_36 rfl <| r_getf_i c_31_37 rfl rfl <| r_iload_n c_31_40 rfl <| r_iast c_31_41 rfl (jn := nS T) (by simp [sto, e5]) (by omega) <| r_aload_n c_31_42 rfl <| r_dup c_31_43 rfl <| ?_
    refine r_getf_i c_31_44 rfl rfl <| r_iconst c_31_47 <| r_iadd c_31_48 (by simp only [sto]; simp [e5]; omega) <| r_putf c_31_49 rfl rfl <| r_iconst c_31_52 <| r_zret c_31_53 (Or.inr rfl) <| ?_
    exact k1 (by omega) _ (by congr 1; simp [sto, e5])
  · refine r_iconst c_31_10 <| r_zret c_31_11 (Or.inl rfl) <| ?_
    exact k0 (by omega)
theorem tc_keep (hC : TC σ T) (f l v : Int) : TC (sto (sto (sto (sto σ 12 (nS T) f) 13 (nS T) l) 14 (nS T) v) 11 5 ((nS T : Int) + 1)) (keepS T f l v) := (((hC.sto _ _ _).sto _ _ _).sto _ _ _).sto _ _ _
theorem cf_keep {f l v : Int} {n : Nat} {z : Int} : cf [11, 12, 13, 14, 15, 16] σ (sto (sto (sto (sto σ 12 n f) 13 n l) 14 n v) 11 5 z) := (((cf.rf.sto (by decide)).sto (by decide)).sto (by decide)).sto (by decide)
theorem ct_stell (hC : TC σ T) (hO : TOK T) (f l v : Int) (k : ∀ σ', TC σ' (statT T f l v) → cf [11, 12, 13, 14, 15, 16] σ σ' → Q (some (vI (statN T f l v))) (hp L σ')) : mm_call 29 [vP 11, vI f, vI l, vI v] (hp L σ) Q := by
  refine ⟨Nat.le_of_ble_eq_true rfl, ?_⟩
  show mm_X 29 0 [vP 11, vI f, vI l, vI v] [] _ _
  refine r_iload_n c_29_0 rfl <| r_iload_n c_29_1 rfl <| r_cS2 c_29_2 (Nat.le_of_ble_eq_true rfl) <| ?_
  refine ct_isSpan _ _ (fun h2 => ?_) (fun h2 => ?_)
  · refine r_if_eq c_29_5 (fun h => absurd h (by decide)) <| (fun _ => ?_)
    refine r_iload_n c_29_8 rfl <| r_if_eq c_29_9 (fun h9 => ?_) <| (fun h9 => ?_)
    · refine r_aload_n c_29_25 rfl <| r_iload_n c_29_26 rfl <| r_iload_n c_29_27 rfl <| r_iload_n c_29_28 rfl <| r_cV3 c_29_29 rfl (Nat.le_of_ble_eq_true rfl) <| ?_
      refine ct_keep hC hO f l v (fun hlt σ1 hσ => ?_) (fun hfull => ?_)
      · refine r_if_eq c_29_32 (fun h => absurd h (by decide)) <| (fun _ => ?_)
        refine r_iconst c_29_35 <| r_goto c_29_36 <| r_iret c_29_41 <| ?_
        first
        | (have e1 : statT T f l v = T := by unfold statT; rw [if_neg (by omega), if_pos hfull]
           have e2 : statN T f l v = -4 := by unfold statN; rw [if_neg (by omega), if_pos hfull]
           rw [← e2]; exact k σ (by rw [e1]; exact hC) cf.rf)
        | (have e1 : statT T f l v = keepS T f l v := by unfold statT; rw [if_neg (by omega), if_neg (by omega)]
           have e2 : statN T f l v = 1 := by unfold statN; rw [if_neg (by omega), if_neg (by omega)]
           subst hσ
           exact q_val (k _ (by rw [e1]; exact tc_keep hC f l v) cf_keep) e2.symm)
      · refine r_if_eq c_29_32 (fun _ => ?_) <| (fun h => absurd h (by decide))
        refine r_bipush c_29_39 <| r_iret c_29_41 <| ?_
        first
        | (have e1 : statT T f l v = T := by unfold statT; rw [if_neg (by omega), if_pos hfull]
           have e2 : statN T f l v = -4 := by unfold statN; rw [if_neg (by omega), if_pos hfull]
           rw [← e2]; exact k σ (by rw [e1]; exact hC) cf.rf)
        | (have e1 : statT T f l v = keepS T f l v := by unfold statT; rw [if_neg (by omega), if_neg (by omega)]
           have e2 : statN T f l v = 1 := by unfold statN; rw [if_neg (by omega), if_neg (by omega)]
           subst hσ
           exact q_val (k _ (by rw [e1]; exact tc_keep hC f l v) cf_keep) e2.symm)
    · refine r_iload_n c_29_12 rfl <| r_iconst c_29_13 <| r_icmp_eq c_29_14 (fun h14 => ?_) <| (fun h14 => ?_)
      · refine r_aload_n c_29_25 rfl <| r_iload_n c_29_26 rfl <| r_iload_n c_29_27 rfl <| r_iload_n c_29_28 rfl <| r_cV3 c_29_29 rfl (Nat.le_of_ble_eq_true rfl) <| ?_
        refine ct_keep hC hO f l v (fun hlt σ1 hσ => ?_) (fun hfull => ?_)
        · refine r_if_eq c_29_32 (fun h => absurd h (by decide)) <| (fun _ => ?_)
          refine r_iconst c_29_35 <| r_goto c_29_36 <| r_iret c_29_41 <| ?_
          first
          | (have e1 : statT T f l v = T := by unfold statT; rw [if_neg (by omega), if_pos hfull]
             have e2 : statN T f l v = -4 := by unfold statN; rw [if_neg (by omega), if_pos hfull]
             rw [← e2]; exact k σ (by rw [e1]; exact hC) cf.rf)
          | (have e1 : statT T f l v = keepS T f l v := by unfold statT; rw [if_neg (by omega), if_neg (by omega)]
             have e2 : statN T f l v = 1 := by unfold statN; rw [if_neg (by omega), if_neg (by omega)]
             subst hσ
             exact q_val (k _ (by rw [e1]; exact tc_keep hC f l v) cf_keep) e2.symm)
        · refine r_if_eq c_29_32 (fun _ => ?_) <| (fun h => absurd h (by decide))
          refine r_bipush c_29_39 <| r_iret c_29_41 <| ?_
          first
          | (have e1 : statT T f l v = T := by unfold statT; rw [if_neg (by omega), if_pos hfull]
             have e2 : statN T f l v = -4 := by unfold statN; rw [if_neg (by omega), if_pos hfull]
             rw [← e2]; exact k σ (by rw [e1]; exact hC) cf.rf)
          | (have e1 : statT T f l v = keepS T f l v := by unfold statT; rw [if_neg (by omega), if_neg (by omega)]
             have e2 : statN T f l v = 1 := by unfold statN; rw [if_neg (by omega), if_neg (by omega)]
             subst hσ
             exact q_val (k _ (by rw [e1]; exact tc_keep hC f l v) cf_keep) e2.symm)
      · refine r_iload_n c_29_17 rfl <| r_iconst c_29_18 <| r_icmp_eq c_29_19 (fun h19 => ?_) <| (fun h19 => ?_)
        · refine r_aload_n c_29_25 rfl <| r_iload_n c_29_26 rfl <| r_iload_n c_29_27 rfl <| r_iload_n c_29_28 rfl <| r_cV3 c_29_29 rfl (Nat.le_of_ble_eq_true rfl) <| ?_
          refine ct_keep hC hO f l v (fun hlt σ1 hσ => ?_) (fun hfull => ?_)
          · refine r_if_eq c_29_32 (fun h => absurd h (by decide)) <| (fun _ => ?_)
            refine r_iconst c_29_35 <| r_goto c_29_36 <| r_iret c_29_41 <| ?_
            first
            | (have e1 : statT T f l v = T := by unfold statT; rw [if_neg (by omega), if_pos hfull]
               have e2 : statN T f l v = -4 := by unfold statN; rw [if_neg (by omega), if_pos hfull]
               rw [← e2]; exact k σ (by rw [e1]; exact hC) cf.rf)
            | (have e1 : statT T f l v = keepS T f l v := by unfold statT; rw [if_neg (by omega), if_neg (by omega)]
               have e2 : statN T f l v = 1 := by unfold statN; rw [if_neg (by omega), if_neg (by omega)]
               subst hσ
               exact q_val (k _ (by rw [e1]; exact tc_keep hC f l v) cf_keep) e2.symm)
          · refine r_if_eq c_29_32 (fun _ => ?_) <| (fun h => absurd h (by decide))
            refine r_bipush c_29_39 <| r_iret c_29_41 <| ?_
            first
            | (have e1 : statT T f l v = T := by unfold statT; rw [if_neg (by omega), if_pos hfull]
               have e2 : statN T f l v = -4 := by unfold statN; rw [if_neg (by omega), if_pos hfull]
               rw [← e2]; exact k σ (by rw [e1]; exact hC) cf.rf)
            | (have e1 : statT T f l v = keepS T f l v := by unfold statT; rw [if_neg (by omega), if_neg (by omega)]
               have e2 : statN T f l v = 1 := by unfold statN; rw [if_neg (by omega), if_neg (by omega)]
               subst hσ
               exact q_val (k _ (by rw [e1]; exact tc_keep hC f l v) cf_keep) e2.symm)
        · refine r_bipush c_29_22 <| r_iret c_29_24 <| ?_
          have e1 : statT T f l v = T := by unfold statT; rw [if_pos (by omega)]
          have e2 : statN T f l v = -2 := by unfold statN; rw [if_pos (by omega)]
          rw [← e2]; exact k σ (by rw [e1]; exact hC) cf.rf
  · refine r_if_eq c_29_5 (fun _ => ?_) <| (fun h => absurd h (by decide))
    refine r_bipush c_29_22 <| r_iret c_29_24 <| ?_
    have e1 : statT T f l v = T := by unfold statT; rw [if_pos (by omega)]
    have e2 : statN T f l v = -2 := by unfold statN; rw [if_pos (by omega)]
    rw [← e2]; exact k σ (by rw [e1]; exact hC) cf.rf
theorem ct_status (hC : TC σ T) (hO : TOK T) (f l v : Int) (k : ∀ σ', TC σ' (statT T f l v) → cf [11, 12, 13, 14, 15, 16] σ σ' → Q (some (vI (statN T f l v))) (hp L σ')) : mm_call 28 [vP 2, vI f, vI l, vI v] (hp L σ) Q := by
  refine ⟨Nat.le_of_ble_eq_true rfl, ?_⟩
  show mm_X 28 0 [vP 2, vI f, vI l, vI v] [] _ _
  refine r_aload_n c_28_0 rfl <| r_getf_a c_28_1 rfl rfl <| r_iload_n c_28_4 rfl <| r_iload_n c_28_5 rfl <| r_iload_n c_28_6 rfl <| r_cV3 c_28_7 rfl (Nat.le_of_ble_eq_true rfl) <| ?_
  refine ct_stell hC hO f l v (fun σ1 hC1 hf1 => ?_)
  refine r_iret c_28_10 <| ?_
  exact k σ1 hC1 hf1
theorem lp_tmap {w : List Int} {n : Nat} (hn : n < 200) (h4 : w.length ≤ 4) {p : Int} : ∀ (k i : Nat) (σ1 : mk_S) (Q : Option mm_V → mm_H → Prop), w.length + 1 ≤ i + k → i ≤ w.length → rowOK σ1 5 300 w → (∀ j, σ1 16 j = if 4 * n ≤ j ∧ j < 4 * n + i then w.getD (j - 4 * n) 0 else σ 16 j) → (∀ b, b ≠ 16 → σ1 b = σ b) →
    (∀ σ', σ' = sta σ 16 (mpF (σ 16) n w) → Q (some (vI 1)) (hp L σ')) → mm_X 33 60 [vP 11, vI p, vP 5, vI n, vI i] [] (hp L σ1) Q := by
  intro k
  induction k with
  | zero => intro i σ1 Q h1 h2; omega
  | succ k ih =>
    intro i σ1 Q hk hi hw h16 hb kk
    refine r_iload c_33_60 rfl <| r_aload_n c_33_62 rfl <| r_cV0 c_33_63 row5.1 (Nat.le_of_ble_eq_true rfl) <| ?_
    refine ct_size row5 hw ?_
    refine r_icmp_ge c_33_66 (fun h66 => ?_) <| (fun h66 => ?_)
    · refine r_iconst c_33_92 <| r_iret c_33_93 <| ?_
      refine kk σ1 ?_
      have hi9 : i = w.length := by omega
      subst hi9
      funext b
      by_cases e : b = 16
      · subst e; rw [sta_at]; funext j; exact h16 j
      · rw [sta_ne e]; exact hb b e
    · refine r_aload_n c_33_69 rfl <| r_getf_a c_33_70 rfl rfl <| r_iload_n c_33_73 rfl <| r_iconst c_33_74 <| r_imul c_33_75 (by omega) <| r_iload c_33_76 rfl <| r_iadd c_33_78 (by omega) <| r_aload_n c_33_79 rfl <| r_iload c_33_80 rfl <| r_cV1 c_33_82 row5.1 (Nat.le_of_ble_eq_true rfl) <| ?_
      refine ct_atn row5 hw (by omega) ?_
      refine r_iast c_33_85 rfl (jn := 4 * n + i) (by omega) (by omega) <| r_iinc_5_4 c_33_86 rfl (by omega) <| r_goto c_33_89 <| ?_
      refine ih (i + 1) _ Q (by omega) (by omega) (hw.fr (sto_ne (by decide)) (sto_ne (by decide))) (fun j => ?_) (fun b hbn => by rw [sto_ne hbn]; exact hb b hbn) kk
      rw [sto_at]
      by_cases e : j = 4 * n + i
      · subst e; rw [st_at, if_pos (by omega)]; congr 1; omega
      · rw [st_ne e, h16]
        by_cases g : 4 * n ≤ j ∧ j < 4 * n + i
        · rw [if_pos g, if_pos (by omega)]
        · rw [if_neg g, if_neg (by omega)]
theorem ct_tellMap {w : List Int} (hC : TC σ T) (hO : TOK T) (hw : rowOK σ 5 300 w) (p : Int) (k : ∀ σ', TC σ' (mapT T p w) → cf [11, 12, 13, 14, 15, 16] σ σ' → Q (some (vI (mapN T p w))) (hp L σ')) : mm_call 33 [vP 11, vI p, vP 5] (hp L σ) Q := by
  have hn := hO.1.1.2
  refine ⟨Nat.le_of_ble_eq_true rfl, ?_⟩
  show mm_X 33 0 [vP 11, vI p, vP 5, mm_null, mm_null] [] _ _
  refine r_iload_n c_33_0 rfl <| r_i2l c_33_1 <| r_cS1 c_33_2 (Nat.le_of_ble_eq_true rfl) <| ?_
  refine ct_isPoint _ (fun h2 => ?_) (fun h2 => ?_)
  · refine r_if_eq c_33_5 (fun h => absurd h (by decide)) <| (fun _ => ?_)
    refine r_aload_n c_33_8 rfl <| r_cV0 c_33_9 row5.1 (Nat.le_of_ble_eq_true rfl) <| ?_
    refine ct_size row5 hw ?_
    refine r_iconst c_33_12 <| r_icmp_lt c_33_13 (fun h13 => ?_) <| (fun h13 => ?_)
    · refine r_bipush c_33_24 <| r_iret c_33_26 <| ?_
      have e1 : mapT T p w = T := by unfold mapT; rw [if_pos (by omega)]
      have e2 : mapN T p w = -2 := by unfold mapN; rw [if_pos (by omega)]
      rw [← e2]; exact k σ (by rw [e1]; exact hC) cf.rf
    · refine r_aload_n c_33_16 rfl <| r_cV0 c_33_17 row5.1 (Nat.le_of_ble_eq_true rfl) <| ?_
      refine ct_size row5 hw ?_
      refine r_iconst c_33_20 <| r_icmp_le c_33_21 (fun h21 => ?_) <| (fun h21 => ?_)
      · refine r_aload_n c_33_27 rfl <| r_iload_n c_33_28 rfl <| r_iload_n c_33_29 rfl <| r_iconst c_33_30 <| r_cV3 c_33_31 rfl (Nat.le_of_ble_eq_true rfl) <| ?_
        refine ct_keep hC hO p p 2 (fun hlt σ1 hσ => ?_) (fun hfull => ?_)
        · refine r_if_ne c_33_34 (fun _ => ?_) <| (fun h => absurd h (by decide))
          refine r_aload_n c_33_40 rfl <| r_getf_i c_33_41 rfl rfl <| r_iconst c_33_44 <| r_isub c_33_45 (by rw [hσ, sto_get]; omega) <| r_istore_n_5_3 c_33_46 rfl <| r_aload_n c_33_47 rfl <| r_getf_a c_33_48 rfl rfl <| r_iload_n c_33_51 rfl <| r_aload_n c_33_52 rfl <| r_cV0 c_33_53 row5.1 (Nat.le_of_ble_eq_true rfl) <| ?_
          have hw1 : rowOK σ1 5 300 w := by rw [hσ]; exact hw.cf cf_keep (by decide) (by decide)
          refine ct_size row5 hw1 ?_
          refine r_iast c_33_56 rfl (jn := nS T) (by rw [hσ, sto_get]; omega) (by omega) <| r_iconst c_33_57 <| r_istore_5_4 c_33_58 rfl <| ?_
          have e0 : σ1 11 5 - 1 = (nS T : Int) := by rw [hσ, sto_get]; omega
          rw [e0]
          have e1 : mapT T p w = sta (sto (keepS T p p 2) 15 (nS T) w.length) 16 (mpF (T 16) (nS T) w) := by unfold mapT; rw [if_neg (by omega), if_neg (by omega)]
          have e2 : mapN T p w = 1 := by unfold mapN; rw [if_neg (by omega), if_neg (by omega)]
          refine lp_tmap hlt (by omega) (w.length + 1) 0 _ Q (by omega) (by omega) (hw1.fr (sto_ne (by decide)) (sto_ne (by decide))) (fun j => by rw [if_neg (by omega)]) (fun _ _ => rfl) (fun σ' hσ' => ?_)
          refine q_val (k σ' ?_ ?_) e2.symm
          · rw [e1, hσ', hσ]
            have e16 : (sto (sto (sto (sto (sto σ 12 (nS T) p) 13 (nS T) p) 14 (nS T) 2) 11 5 ((nS T : Int) + 1)) 15 (nS T) w.length) 16 = T 16 := by
              simp only [sto]
              exact hC 16 (by decide) (by decide)
            rw [e16]
            exact ((tc_keep hC p p 2).sto _ _ _).sta _ _
          · rw [hσ', hσ]
            intro b hb
            rw [sta_ne (fun e => hb (by rw [e]; decide)), sto_ne (fun e => hb (by rw [e]; decide))]
            exact cf_keep b hb
        · refine r_if_ne c_33_34 (fun h => absurd h (by decide)) <| (fun _ => ?_)
          refine r_bipush c_33_37 <| r_iret c_33_39 <| ?_
          have e1 : mapT T p w = T := by unfold mapT; rw [if_neg (by omega), if_pos hfull]
          have e2 : mapN T p w = -4 := by unfold mapN; rw [if_neg (by omega), if_pos hfull]
          rw [← e2]; exact k σ (by rw [e1]; exact hC) cf.rf
      · refine r_bipush c_33_24 <| r_iret c_33_26 <| ?_
        have e1 : mapT T p w = T := by unfold mapT; rw [if_pos (by omega)]
        have e2 : mapN T p w = -2 := by unfold mapN; rw [if_pos (by omega)]
        rw [← e2]; exact k σ (by rw [e1]; exact hC) cf.rf
  · refine r_if_eq c_33_5 (fun _ => ?_) <| (fun h => absurd h (by decide))
    refine r_bipush c_33_24 <| r_iret c_33_26 <| ?_
    have e1 : mapT T p w = T := by unfold mapT; rw [if_pos (by omega)]
    have e2 : mapN T p w = -2 := by unfold mapN; rw [if_pos (by omega)]
    rw [← e2]; exact k σ (by rw [e1]; exact hC) cf.rf
theorem ct_map {w : List Int} (hC : TC σ T) (hO : TOK T) (hw : rowOK σ 5 300 w) (p : Int) (k : ∀ σ', TC σ' (mapT T p w) → cf [11, 12, 13, 14, 15, 16] σ σ' → Q (some (vI (mapN T p w))) (hp L σ')) : mm_call 32 [vP 2, vI p] (hp L σ) Q := by
  refine ⟨Nat.le_of_ble_eq_true rfl, ?_⟩
  show mm_X 32 0 [vP 2, vI p] [] _ _
  refine r_aload_n c_32_0 rfl <| r_getf_a c_32_1 rfl rfl <| r_iload_n c_32_4 rfl <| r_aload_n c_32_5 rfl <| r_getf_a c_32_6 rfl rfl <| r_cV2 c_32_9 rfl (Nat.le_of_ble_eq_true rfl) <| ?_
  refine ct_tellMap hC hO hw p (fun σ1 hC1 hf1 => ?_)
  refine r_iret c_32_12 <| ?_
  exact k σ1 hC1 hf1
def partN (T : mk_S) (p a b x : Int) : Int := if ¬ partR p a b then -2 else if partD T p a b x then -3 else if nP T = 100 then -4 else nP T + 1
def partT (T : mk_S) (p a b x : Int) : mk_S := if ¬ partR p a b then T else if partD T p a b x then T else if nP T = 100 then T else partS T p a b x
theorem ct_ptell (hC : TC σ T) (hO : TOK T) (p a b x : Int) (hx : x = 0 ∨ x = 1) (k : ∀ σ', TC σ' (partT T p a b x) → cf [17, 18, 19, 20, 21] σ σ' → Q (some (vI (partN T p a b x))) (hp L σ')) : mm_call 35 [vP 17, vI p, vI a, vI b, vI x] (hp L σ) Q := by
  have e5 : σ 17 4 = (nP T : Int) := by rw [hC 17 (by decide) (by decide)]; exact hO.1.2.1.1
  have hn := hO.1.2.1.2
  refine ⟨Nat.le_of_ble_eq_true rfl, ?_⟩
  show mm_X 35 0 [vP 17, vI p, vI a, vI b, vI x] [] _ _
  refine r_iload_n c_35_0 rfl <| r_i2l c_35_1 <| r_cS1 c_35_2 (Nat.le_of_ble_eq_true rfl) <| ?_
  refine ct_isPoint _ (fun h2 => ?_) (fun h2 => ?_)
  · refine r_if_eq c_35_5 (fun h => absurd h (by decide)) <| (fun _ => ?_)
    refine r_iload_n c_35_8 rfl <| r_iload_n c_35_9 rfl <| r_cS2 c_35_10 (Nat.le_of_ble_eq_true rfl) <| ?_
    refine ct_mayBePart _ _ (fun h10 => ?_) (fun h10 => ?_)
    · refine r_if_eq c_35_13 (fun h => absurd h (by decide)) <| (fun _ => ?_)
      refine r_iload_n c_35_16 rfl <| r_iload_n c_35_17 rfl <| r_cS2 c_35_18 (Nat.le_of_ble_eq_true rfl) <| ?_
      refine ct_mayBePart _ _ (fun h18 => ?_) (fun h18 => ?_)
      · refine r_if_ne c_35_21 (fun _ => ?_) <| (fun h => absurd h (by decide))
        refine r_iload_n c_35_27 rfl <| r_if_eq c_35_28 (fun h28 => ?_) <| (fun h28 => ?_)
        · refine r_bipush c_35_45 <| r_iret c_35_47 <| ?_
          have hR : ¬ partR p a b := fun q => by first | exact absurd q.2.2.2.1 (by omega) | exact absurd q.2.2.2.2.1 (by omega) | exact absurd (by assumption) q.2.2.2.2.2
          have e1 : partT T p a b x = T := by unfold partT; rw [if_pos hR]
          have e2 : partN T p a b x = -2 := by unfold partN; rw [if_pos hR]
          rw [← e2]; exact k σ (by rw [e1]; exact hC) cf.rf
        · refine r_iload_n c_35_31 rfl <| r_sipush c_35_32 <| r_icmp_lt c_35_35 (fun h35 => ?_) <| (fun h35 => ?_)
          · refine r_bipush c_35_45 <| r_iret c_35_47 <| ?_
            have hR : ¬ partR p a b := fun q => by first | exact absurd q.2.2.2.1 (by omega) | exact absurd q.2.2.2.2.1 (by omega) | exact absurd (by assumption) q.2.2.2.2.2
            have e1 : partT T p a b x = T := by unfold partT; rw [if_pos hR]
            have e2 : partN T p a b x = -2 := by unfold partN; rw [if_pos hR]
            rw [← e2]; exact k σ (by rw [e1]; exact hC) cf.rf
          · refine r_iload_n c_35_38 rfl <| r_cS1 c_35_39 (Nat.le_of_ble_eq_true rfl) <| ?_
            refine ct_ofSyl _ (fun h39 => ?_) (fun h39 => ?_)
            · refine r_if_eq c_35_42 (fun h => absurd h (by decide)) <| (fun _ => ?_)
              refine r_bipush c_35_45 <| r_iret c_35_47 <| ?_
              have hR : ¬ partR p a b := fun q => by first | exact absurd q.2.2.2.1 (by omega) | exact absurd q.2.2.2.2.1 (by omega) | exact absurd (by assumption) q.2.2.2.2.2
              have e1 : partT T p a b x = T := by unfold partT; rw [if_pos hR]
              have e2 : partN T p a b x = -2 := by unfold partN; rw [if_pos hR]
              rw [← e2]; exact k σ (by rw [e1]; exact hC) cf.rf
            · refine r_if_eq c_35_42 (fun _ => ?_) <| (fun h => absurd h (by decide))
              refine r_aload_n c_35_48 rfl <| r_iload_n c_35_49 rfl <| r_cV1 c_35_50 rfl (Nat.le_of_ble_eq_true rfl) <| ?_
              refine ct_pfind hC hO p ?_
              refine r_if_ge c_35_53 (fun h53 => ?_) <| (fun h53 => ?_)
              · refine r_bipush c_35_74 <| r_iret c_35_76 <| ?_
                have hR : partR p a b := ⟨by assumption, by assumption, by assumption, by omega, by omega, by assumption⟩
                have hD : partD T p a b x := by unfold partD; omega
                have e1 : partT T p a b x = T := by unfold partT; rw [if_neg (not_not_intro hR), if_pos hD]
                have e2 : partN T p a b x = -3 := by unfold partN; rw [if_neg (not_not_intro hR), if_pos hD]
                rw [← e2]; exact k σ (by rw [e1]; exact hC) cf.rf
              · refine r_iload_n c_35_56 rfl <| r_if_eq c_35_57 (fun h57 => ?_) <| (fun h57 => ?_)
                · refine r_aload_n c_35_77 rfl <| r_getf_i c_35_78 rfl rfl <| r_bipush c_35_81 <| r_icmp_lt c_35_83 (fun h83 => ?_) <| (fun h83 => ?_)
                  · refine r_aload_n c_35_89 rfl <| r_getf_a c_35_90 rfl rfl <| r_aload_n c_35_93 rfl <| r_getf_i c_35_94 rfl rfl <| r_iload_n c_35_97 rfl <| r_iast c_35_98 rfl (jn := nP T) e5 (by omega) <| r_aload_n c_35_99 rfl <| r_getf_a c_35_100 rfl rfl <| r_aload_n c_35_103 rfl <| r_getf_i c_35_104 rfl rfl <| ?_
                    refine r_iload_n c_35_107 rfl <| r_iast c_35_108 rfl (jn := nP T) (by simp [sto, e5]) (by omega) <| r_aload_n c_35_109 rfl <| r_getf_a c_35_110 rfl rfl <| r_aload_n c_35_113 rfl <| r_getf_i c_35_114 rfl rfl <| r_iload_n c_35_117 rfl <| r_iast c_35_118 rfl (jn := nP T) (by simp [sto, e5]) (by omega) <| r_aload_n c_35_119 rfl <| r_getf_a c_35_120 rfl rfl <| ?_
                    refine r_aload_n c_35_123 rfl <| r_getf_i c_35_124 rfl rfl <| r_iload c_35_127 rfl <| r_bast1 c_35_129 rfl (jn := nP T) (by simp [sto, e5]) (by omega) hx <| r_aload_n c_35_130 rfl <| r_dup c_35_131 rfl <| r_getf_i c_35_132 rfl rfl <| r_iconst c_35_135 <| r_iadd c_35_136 (by simp only [sto]; simp [e5]; omega) <| r_putf c_35_137 rfl rfl <| ?_
                    refine r_aload_n c_35_140 rfl <| r_getf_i c_35_141 rfl rfl <| r_iret c_35_144 <| ?_
                    have hR : partR p a b := ⟨by assumption, by assumption, by assumption, by omega, by omega, by assumption⟩
                    have hD : ¬ partD T p a b x := by unfold partD; omega
                    have e1 : partT T p a b x = partS T p a b x := by unfold partT; rw [if_neg (not_not_intro hR), if_neg hD, if_neg (by omega)]
                    have e2 : partN T p a b x = nP T + 1 := by unfold partN; rw [if_neg (not_not_intro hR), if_neg hD, if_neg (by omega)]
                    have e9 : sto (sto (sto (sto σ 18 (nP T) p) 19 (nP T) a) 20 (nP T) b) 21 (nP T) x 17 4 + 1 = (nP T : Int) + 1 := by simp only [sto]; simp [e5]
                    rw [sto_get, e9]
                    refine q_val (k _ ?_ ?_) e2.symm
                    · rw [e1]; exact ((((hC.sto _ _ _).sto _ _ _).sto _ _ _).sto _ _ _).sto _ _ _
                    · exact ((((cf.rf.sto (by decide)).sto (by decide)).sto (by decide)).sto (by decide)).sto (by decide)
                  · refine r_bipush c_35_86 <| r_iret c_35_88 <| ?_
                    have hR : partR p a b := ⟨by assumption, by assumption, by assumption, by omega, by omega, by assumption⟩
                    have hD : ¬ partD T p a b x := by unfold partD; omega
                    have e1 : partT T p a b x = T := by unfold partT; rw [if_neg (not_not_intro hR), if_neg hD, if_pos (by omega)]
                    have e2 : partN T p a b x = -4 := by unfold partN; rw [if_neg (not_not_intro hR), if_neg hD, if_pos (by omega)]
                    rw [← e2]; exact k σ (by rw [e1]; exact hC) cf.rf
                · refine r_iload c_35_60 rfl <| r_if_ne c_35_62 (fun h62 => ?_) <| (fun h62 => ?_)
                  · refine r_aload_n c_35_77 rfl <| r_getf_i c_35_78 rfl rfl <| r_bipush c_35_81 <| r_icmp_lt c_35_83 (fun h83 => ?_) <| (fun h83 => ?_)
                    · refine r_aload_n c_35_89 rfl <| r_getf_a c_35_90 rfl rfl <| r_aload_n c_35_93 rfl <| r_getf_i c_35_94 rfl rfl <| r_iload_n c_35_97 rfl <| r_iast c_35_98 rfl (jn := nP T) e5 (by omega) <| r_aload_n c_35_99 rfl <| r_getf_a c_35_100 rfl rfl <| r_aload_n c_35_103 rfl <| r_getf_i c_35_104 rfl rfl <| ?_
                      refine r_iload_n c_35_107 rfl <| r_iast c_35_108 rfl (jn := nP T) (by simp [sto, e5]) (by omega) <| r_aload_n c_35_109 rfl <| r_getf_a c_35_110 rfl rfl <| r_aload_n c_35_113 rfl <| r_getf_i c_35_114 rfl rfl <| r_iload_n c_35_117 rfl <| r_iast c_35_118 rfl (jn := nP T) (by simp [sto, e5]) (by omega) <| r_aload_n c_35_119 rfl <| r_getf_a c_35_120 rfl rfl <| ?_
                      refine r_aload_n c_35_123 rfl <| r_getf_i c_35_124 rfl rfl <| r_iload c_35_127 rfl <| r_bast1 c_35_129 rfl (jn := nP T) (by simp [sto, e5]) (by omega) hx <| r_aload_n c_35_130 rfl <| r_dup c_35_131 rfl <| r_getf_i c_35_132 rfl rfl <| r_iconst c_35_135 <| r_iadd c_35_136 (by simp only [sto]; simp [e5]; omega) <| r_putf c_35_137 rfl rfl <| ?_
                      refine r_aload_n c_35_140 rfl <| r_getf_i c_35_141 rfl rfl <| r_iret c_35_144 <| ?_
                      have hR : partR p a b := ⟨by assumption, by assumption, by assumption, by omega, by omega, by assumption⟩
                      have hD : ¬ partD T p a b x := by unfold partD; omega
                      have e1 : partT T p a b x = partS T p a b x := by unfold partT; rw [if_neg (not_not_intro hR), if_neg hD, if_neg (by omega)]
                      have e2 : partN T p a b x = nP T + 1 := by unfold partN; rw [if_neg (not_not_intro hR), if_neg hD, if_neg (by omega)]
                      have e9 : sto (sto (sto (sto σ 18 (nP T) p) 19 (nP T) a) 20 (nP T) b) 21 (nP T) x 17 4 + 1 = (nP T : Int) + 1 := by simp only [sto]; simp [e5]
                      rw [sto_get, e9]
                      refine q_val (k _ ?_ ?_) e2.symm
                      · rw [e1]; exact ((((hC.sto _ _ _).sto _ _ _).sto _ _ _).sto _ _ _).sto _ _ _
                      · exact ((((cf.rf.sto (by decide)).sto (by decide)).sto (by decide)).sto (by decide)).sto (by decide)
                    · refine r_bipush c_35_86 <| r_iret c_35_88 <| ?_
                      have hR : partR p a b := ⟨by assumption, by assumption, by assumption, by omega, by omega, by assumption⟩
                      have hD : ¬ partD T p a b x := by unfold partD; omega
                      have e1 : partT T p a b x = T := by unfold partT; rw [if_neg (not_not_intro hR), if_neg hD, if_pos (by omega)]
                      have e2 : partN T p a b x = -4 := by unfold partN; rw [if_neg (not_not_intro hR), if_neg hD, if_pos (by omega)]
                      rw [← e2]; exact k σ (by rw [e1]; exact hC) cf.rf
                  · refine r_aload_n c_35_65 rfl <| r_iload_n c_35_66 rfl <| r_iload_n c_35_67 rfl <| r_cV2 c_35_68 rfl (Nat.le_of_ble_eq_true rfl) <| ?_
                    refine ct_pair hC hO a b ?_
                    refine r_if_lt c_35_71 (fun h71 => ?_) <| (fun h71 => ?_)
                    · refine r_aload_n c_35_77 rfl <| r_getf_i c_35_78 rfl rfl <| r_bipush c_35_81 <| r_icmp_lt c_35_83 (fun h83 => ?_) <| (fun h83 => ?_)
                      · refine r_aload_n c_35_89 rfl <| r_getf_a c_35_90 rfl rfl <| r_aload_n c_35_93 rfl <| r_getf_i c_35_94 rfl rfl <| r_iload_n c_35_97 rfl <| r_iast c_35_98 rfl (jn := nP T) e5 (by omega) <| r_aload_n c_35_99 rfl <| r_getf_a c_35_100 rfl rfl <| r_aload_n c_35_103 rfl <| r_getf_i c_35_104 rfl rfl <| ?_
                        refine r_iload_n c_35_107 rfl <| r_iast c_35_108 rfl (jn := nP T) (by simp [sto, e5]) (by omega) <| r_aload_n c_35_109 rfl <| r_getf_a c_35_110 rfl rfl <| r_aload_n c_35_113 rfl <| r_getf_i c_35_114 rfl rfl <| r_iload_n c_35_117 rfl <| r_iast c_35_118 rfl (jn := nP T) (by simp [sto, e5]) (by omega) <| r_aload_n c_35_119 rfl <| r_getf_a c_35_120 rfl rfl <| ?_
                        refine r_aload_n c_35_123 rfl <| r_getf_i c_35_124 rfl rfl <| r_iload c_35_127 rfl <| r_bast1 c_35_129 rfl (jn := nP T) (by simp [sto, e5]) (by omega) hx <| r_aload_n c_35_130 rfl <| r_dup c_35_131 rfl <| r_getf_i c_35_132 rfl rfl <| r_iconst c_35_135 <| r_iadd c_35_136 (by simp only [sto]; simp [e5]; omega) <| r_putf c_35_137 rfl rfl <| ?_
                        refine r_aload_n c_35_140 rfl <| r_getf_i c_35_141 rfl rfl <| r_iret c_35_144 <| ?_
                        have hR : partR p a b := ⟨by assumption, by assumption, by assumption, by omega, by omega, by assumption⟩
                        have hD : ¬ partD T p a b x := by unfold partD; omega
                        have e1 : partT T p a b x = partS T p a b x := by unfold partT; rw [if_neg (not_not_intro hR), if_neg hD, if_neg (by omega)]
                        have e2 : partN T p a b x = nP T + 1 := by unfold partN; rw [if_neg (not_not_intro hR), if_neg hD, if_neg (by omega)]
                        have e9 : sto (sto (sto (sto σ 18 (nP T) p) 19 (nP T) a) 20 (nP T) b) 21 (nP T) x 17 4 + 1 = (nP T : Int) + 1 := by simp only [sto]; simp [e5]
                        rw [sto_get, e9]
                        refine q_val (k _ ?_ ?_) e2.symm
                        · rw [e1]; exact ((((hC.sto _ _ _).sto _ _ _).sto _ _ _).sto _ _ _).sto _ _ _
                        · exact ((((cf.rf.sto (by decide)).sto (by decide)).sto (by decide)).sto (by decide)).sto (by decide)
                      · refine r_bipush c_35_86 <| r_iret c_35_88 <| ?_
                        have hR : partR p a b := ⟨by assumption, by assumption, by assumption, by omega, by omega, by assumption⟩
                        have hD : ¬ partD T p a b x := by unfold partD; omega
                        have e1 : partT T p a b x = T := by unfold partT; rw [if_neg (not_not_intro hR), if_neg hD, if_pos (by omega)]
                        have e2 : partN T p a b x = -4 := by unfold partN; rw [if_neg (not_not_intro hR), if_neg hD, if_pos (by omega)]
                        rw [← e2]; exact k σ (by rw [e1]; exact hC) cf.rf
                    · refine r_bipush c_35_74 <| r_iret c_35_76 <| ?_
                      have hR : partR p a b := ⟨by assumption, by assumption, by assumption, by omega, by omega, by assumption⟩
                      have hD : partD T p a b x := by unfold partD; omega
                      have e1 : partT T p a b x = T := by unfold partT; rw [if_neg (not_not_intro hR), if_pos hD]
                      have e2 : partN T p a b x = -3 := by unfold partN; rw [if_neg (not_not_intro hR), if_pos hD]
                      rw [← e2]; exact k σ (by rw [e1]; exact hC) cf.rf
      · refine r_if_ne c_35_21 (fun h => absurd h (by decide)) <| (fun _ => ?_)
        refine r_bipush c_35_24 <| r_iret c_35_26 <| ?_
        have hR : ¬ partR p a b := fun q => by first | exact absurd q.1 (by assumption) | exact absurd q.2.1 (by assumption) | exact absurd q.2.2.1 (by assumption)
        have e1 : partT T p a b x = T := by unfold partT; rw [if_pos hR]
        have e2 : partN T p a b x = -2 := by unfold partN; rw [if_pos hR]
        rw [← e2]; exact k σ (by rw [e1]; exact hC) cf.rf
    · refine r_if_eq c_35_13 (fun _ => ?_) <| (fun h => absurd h (by decide))
      refine r_bipush c_35_24 <| r_iret c_35_26 <| ?_
      have hR : ¬ partR p a b := fun q => by first | exact absurd q.1 (by assumption) | exact absurd q.2.1 (by assumption) | exact absurd q.2.2.1 (by assumption)
      have e1 : partT T p a b x = T := by unfold partT; rw [if_pos hR]
      have e2 : partN T p a b x = -2 := by unfold partN; rw [if_pos hR]
      rw [← e2]; exact k σ (by rw [e1]; exact hC) cf.rf
  · refine r_if_eq c_35_5 (fun _ => ?_) <| (fun h => absurd h (by decide))
    refine r_bipush c_35_24 <| r_iret c_35_26 <| ?_
    have hR : ¬ partR p a b := fun q => by first | exact absurd q.1 (by assumption) | exact absurd q.2.1 (by assumption) | exact absurd q.2.2.1 (by assumption)
    have e1 : partT T p a b x = T := by unfold partT; rw [if_pos hR]
    have e2 : partN T p a b x = -2 := by unfold partN; rw [if_pos hR]
    rw [← e2]; exact k σ (by rw [e1]; exact hC) cf.rf
theorem ct_parts (hC : TC σ T) (hO : TOK T) (p a b x : Int) (hx : x = 0 ∨ x = 1) (k : ∀ σ', TC σ' (partT T p a b x) → cf [17, 18, 19, 20, 21] σ σ' → Q (some (vI (partN T p a b x))) (hp L σ')) : mm_call 34 [vP 2, vI p, vI a, vI b, vI x] (hp L σ) Q := by
  refine ⟨Nat.le_of_ble_eq_true rfl, ?_⟩
  show mm_X 34 0 [vP 2, vI p, vI a, vI b, vI x] [] _ _
  refine r_aload_n c_34_0 rfl <| r_getf_a c_34_1 rfl rfl <| r_iload_n c_34_4 rfl <| r_iload_n c_34_5 rfl <| r_iload_n c_34_6 rfl <| r_iload c_34_7 rfl <| r_cV4 c_34_9 rfl (Nat.le_of_ble_eq_true rfl) <| ?_
  refine ct_ptell hC hO p a b x hx (fun σ1 hC1 hf1 => ?_)
  refine r_iret c_34_12 <| ?_
  exact k σ1 hC1 hf1
def rankN (T : mk_S) (p r : Int) : Int := if ¬ rankR p r then -2 else if rkI T p < 0 ∧ nR T = 100 then -4 else rkO T p
def rankT (T : mk_S) (p r : Int) : mk_S := if ¬ rankR p r then T else if rkI T p < 0 ∧ nR T = 100 then T else rankS T p r
theorem ct_rtell (hC : TC σ T) (hO : TOK T) (p r : Int) (k : ∀ σ', TC σ' (rankT T p r) → cf [22, 23, 24] σ σ' → Q (some (vI (rankN T p r))) (hp L σ')) : mm_call 45 [vP 22, vI p, vI r] (hp L σ) Q := by
  have e5 : σ 22 2 = (nR T : Int) := by rw [hC 22 (by decide) (by decide)]; exact hO.1.2.2.1.1
  have hn := hO.1.2.2.1.2
  have hb := rkI_lt (T := T) p
  refine ⟨Nat.le_of_ble_eq_true rfl, ?_⟩
  show mm_X 45 0 [vP 22, vI p, vI r, mm_null, mm_null] [] _ _
  refine r_iload_n c_45_0 rfl <| r_i2l c_45_1 <| r_cS1 c_45_2 (Nat.le_of_ble_eq_true rfl) <| ?_
  refine ct_isPoint _ (fun h2 => ?_) (fun h2 => ?_)
  · refine r_if_eq c_45_5 (fun h => absurd h (by decide)) <| (fun _ => ?_)
    refine r_iload_n c_45_8 rfl <| r_sipush c_45_9 <| r_icmp_lt c_45_12 (fun h12 => ?_) <| (fun h12 => ?_)
    · refine r_bipush c_45_26 <| r_iret c_45_28 <| ?_
      have hR : ¬ rankR p r := by unfold rankR; omega
      have e1 : rankT T p r = T := by unfold rankT; rw [if_pos hR]
      have e2 : rankN T p r = -2 := by unfold rankN; rw [if_pos hR]
      rw [← e2]; exact k σ (by rw [e1]; exact hC) cf.rf
    · refine r_iload_n c_45_15 rfl <| r_if_lt c_45_16 (fun h16 => ?_) <| (fun h16 => ?_)
      · refine r_bipush c_45_26 <| r_iret c_45_28 <| ?_
        have hR : ¬ rankR p r := by unfold rankR; omega
        have e1 : rankT T p r = T := by unfold rankT; rw [if_pos hR]
        have e2 : rankN T p r = -2 := by unfold rankN; rw [if_pos hR]
        rw [← e2]; exact k σ (by rw [e1]; exact hC) cf.rf
      · refine r_iload_n c_45_19 rfl <| r_sipush c_45_20 <| r_icmp_le c_45_23 (fun h23 => ?_) <| (fun h23 => ?_)
        · refine r_aload_n c_45_29 rfl <| r_iload_n c_45_30 rfl <| r_cV1 c_45_31 rfl (Nat.le_of_ble_eq_true rfl) <| ?_
          refine ct_rfind hC hO p ?_
          refine r_istore_n_5_3 c_45_34 rfl <| r_iload_n c_45_35 rfl <| r_if_lt c_45_36 (fun h36 => ?_) <| (fun h36 => ?_)
          · refine r_aload_n c_45_57 rfl <| r_getf_i c_45_58 rfl rfl <| r_bipush c_45_61 <| r_icmp_lt c_45_63 (fun h63 => ?_) <| (fun h63 => ?_)
            · refine r_aload_n c_45_69 rfl <| r_getf_a c_45_70 rfl rfl <| r_aload_n c_45_73 rfl <| r_getf_i c_45_74 rfl rfl <| r_iload_n c_45_77 rfl <| r_iast c_45_78 rfl (jn := nR T) e5 (by omega) <| r_aload_n c_45_79 rfl <| r_getf_a c_45_80 rfl rfl <| r_aload_n c_45_83 rfl <| r_getf_i c_45_84 rfl rfl <| ?_
              refine r_iload_n c_45_87 rfl <| r_iast c_45_88 rfl (jn := nR T) (by simp [sto, e5]) (by omega) <| r_aload_n c_45_89 rfl <| r_dup c_45_90 rfl <| r_getf_i c_45_91 rfl rfl <| r_iconst c_45_94 <| r_iadd c_45_95 (by simp only [sto]; simp [e5]; omega) <| r_putf c_45_96 rfl rfl <| r_iconst c_45_99 <| r_iret c_45_100 <| ?_
              have hR : rankR p r := by unfold rankR; omega
              have e1 : rankT T p r = sto (sto (sto T 23 (nR T) p) 24 (nR T) r) 22 2 ((nR T : Int) + 1) := by unfold rankT rankS; rw [if_neg (not_not_intro hR), if_neg (by omega), if_neg (by omega)]
              have e2 : rankN T p r = 0 := by unfold rankN rkO; rw [if_neg (not_not_intro hR), if_neg (by omega), if_pos (by omega)]
              have e9 : sto (sto σ 23 (nR T) p) 24 (nR T) r 22 2 + 1 = (nR T : Int) + 1 := by simp only [sto]; simp [e5]
              rw [e9]
              exact q_val (k _ (by rw [e1]; exact ((hC.sto _ _ _).sto _ _ _).sto _ _ _) (((cf.rf.sto (by decide)).sto (by decide)).sto (by decide))) e2.symm
            · refine r_bipush c_45_66 <| r_iret c_45_68 <| ?_
              have hR : rankR p r := by unfold rankR; omega
              have e1 : rankT T p r = T := by unfold rankT; rw [if_neg (not_not_intro hR), if_pos (by omega)]
              have e2 : rankN T p r = -4 := by unfold rankN; rw [if_neg (not_not_intro hR), if_pos (by omega)]
              rw [← e2]; exact k σ (by rw [e1]; exact hC) cf.rf
          · refine r_aload_n c_45_39 rfl <| r_getf_a c_45_40 rfl rfl <| r_iload_n c_45_43 rfl <| r_iald c_45_44 rfl (Or.inl rfl) (jn := (rkI T p).toNat) (by omega) (by omega) <| r_istore_5_4 c_45_45 rfl <| r_aload_n c_45_47 rfl <| r_getf_a c_45_48 rfl rfl <| r_iload_n c_45_51 rfl <| r_iload_n c_45_52 rfl <| r_iast c_45_53 rfl (jn := (rkI T p).toNat) (by omega) (by omega) <| ?_
            refine r_iload c_45_54 rfl <| r_iret c_45_56 <| ?_
            have hR : rankR p r := by unfold rankR; omega
            have e1 : rankT T p r = sto T 24 (rkI T p).toNat r := by unfold rankT rankS; rw [if_neg (not_not_intro hR), if_neg (by omega), if_pos (by omega)]
            have e2 : rankN T p r = σ 24 (rkI T p).toNat := by unfold rankN rkO; rw [if_neg (not_not_intro hR), if_neg (by omega), if_neg (by omega), hC 24 (by decide) (by decide)]
            rw [← e2]; exact k _ (by rw [e1]; exact hC.sto _ _ _) (cf.rf.sto (by decide))
        · refine r_bipush c_45_26 <| r_iret c_45_28 <| ?_
          have hR : ¬ rankR p r := by unfold rankR; omega
          have e1 : rankT T p r = T := by unfold rankT; rw [if_pos hR]
          have e2 : rankN T p r = -2 := by unfold rankN; rw [if_pos hR]
          rw [← e2]; exact k σ (by rw [e1]; exact hC) cf.rf
  · refine r_if_eq c_45_5 (fun _ => ?_) <| (fun h => absurd h (by decide))
    refine r_bipush c_45_26 <| r_iret c_45_28 <| ?_
    have hR : ¬ rankR p r := by unfold rankR; omega
    have e1 : rankT T p r = T := by unfold rankT; rw [if_pos hR]
    have e2 : rankN T p r = -2 := by unfold rankN; rw [if_pos hR]
    rw [← e2]; exact k σ (by rw [e1]; exact hC) cf.rf
theorem ct_rank (hC : TC σ T) (hO : TOK T) (p r : Int) (k : ∀ σ', TC σ' (rankT T p r) → cf [22, 23, 24] σ σ' → Q (some (vI (rankN T p r))) (hp L σ')) : mm_call 44 [vP 2, vI p, vI r] (hp L σ) Q := by
  refine ⟨Nat.le_of_ble_eq_true rfl, ?_⟩
  show mm_X 44 0 [vP 2, vI p, vI r] [] _ _
  refine r_aload_n c_44_0 rfl <| r_getf_a c_44_1 rfl rfl <| r_iload_n c_44_4 rfl <| r_iload_n c_44_5 rfl <| r_cV2 c_44_6 rfl (Nat.le_of_ble_eq_true rfl) <| ?_
  refine ct_rtell hC hO p r (fun σ1 hC1 hf1 => ?_)
  refine r_iret c_44_9 <| ?_
  exact k σ1 hC1 hf1
def rangN (T : mk_S) (k f l v : Int) : Int := if ¬ rangR k f l v then -2 else if nG T = 200 then -4 else 1
def rangT (T : mk_S) (k f l v : Int) : mk_S := if ¬ rangR k f l v then T else if nG T = 200 then T else rangS T k f l v
theorem ct_gtell (hC : TC σ T) (hO : TOK T) (kd f l v : Int) (k : ∀ σ', TC σ' (rangT T kd f l v) → cf [25, 26, 27, 28, 29] σ σ' → Q (some (vI (rangN T kd f l v))) (hp L σ')) : mm_call 48 [vP 25, vI kd, vI f, vI l, vI v] (hp L σ) Q := by
  have e5 : σ 25 4 = (nG T : Int) := by rw [hC 25 (by decide) (by decide)]; exact hO.1.2.2.2.1
  have hn := hO.1.2.2.2.2
  refine ⟨Nat.le_of_ble_eq_true rfl, ?_⟩
  show mm_X 48 0 [vP 25, vI kd, vI f, vI l, vI v] [] _ _
  refine r_iload c_48_0 rfl <| r_if_lt c_48_2 (fun h2 => ?_) <| (fun h2 => ?_)
  · refine r_bipush c_48_22 <| r_iret c_48_24 <| ?_
    have hR : ¬ rangR kd f l v := fun q => by first | exact absurd q.1 (by omega) | exact absurd q.2.1 (by omega) | exact absurd q.2.2 (by assumption)
    have e1 : rangT T kd f l v = T := by unfold rangT; rw [if_pos hR]
    have e2 : rangN T kd f l v = -2 := by unfold rangN; rw [if_pos hR]
    rw [← e2]; exact k σ (by rw [e1]; exact hC) cf.rf
  · refine r_iload c_48_5 rfl <| r_iload_n c_48_7 rfl <| r_cS1 c_48_8 (Nat.le_of_ble_eq_true rfl) <| ?_
    refine ct_highestOf kd ?_
    refine r_icmp_gt c_48_11 (fun h11 => ?_) <| (fun h11 => ?_)
    · refine r_bipush c_48_22 <| r_iret c_48_24 <| ?_
      have hR : ¬ rangR kd f l v := fun q => by first | exact absurd q.1 (by omega) | exact absurd q.2.1 (by omega) | exact absurd q.2.2 (by assumption)
      have e1 : rangT T kd f l v = T := by unfold rangT; rw [if_pos hR]
      have e2 : rangN T kd f l v = -2 := by unfold rangN; rw [if_pos hR]
      rw [← e2]; exact k σ (by rw [e1]; exact hC) cf.rf
    · refine r_iload_n c_48_14 rfl <| r_iload_n c_48_15 rfl <| r_cS2 c_48_16 (Nat.le_of_ble_eq_true rfl) <| ?_
      refine ct_isSpan _ _ (fun h16 => ?_) (fun h16 => ?_)
      · refine r_if_ne c_48_19 (fun _ => ?_) <| (fun h => absurd h (by decide))
        refine r_aload_n c_48_25 rfl <| r_getf_i c_48_26 rfl rfl <| r_sipush c_48_29 <| r_icmp_lt c_48_32 (fun h32 => ?_) <| (fun h32 => ?_)
        · refine r_aload_n c_48_38 rfl <| r_getf_a c_48_39 rfl rfl <| r_aload_n c_48_42 rfl <| r_getf_i c_48_43 rfl rfl <| r_iload_n c_48_46 rfl <| r_iast c_48_47 rfl (jn := nG T) e5 (by omega) <| r_aload_n c_48_48 rfl <| r_getf_a c_48_49 rfl rfl <| r_aload_n c_48_52 rfl <| r_getf_i c_48_53 rfl rfl <| ?_
          refine r_iload_n c_48_56 rfl <| r_iast c_48_57 rfl (jn := nG T) (by simp [sto, e5]) (by omega) <| r_aload_n c_48_58 rfl <| r_getf_a c_48_59 rfl rfl <| r_aload_n c_48_62 rfl <| r_getf_i c_48_63 rfl rfl <| r_iload_n c_48_66 rfl <| r_iast c_48_67 rfl (jn := nG T) (by simp [sto, e5]) (by omega) <| r_aload_n c_48_68 rfl <| r_getf_a c_48_69 rfl rfl <| ?_
          refine r_aload_n c_48_72 rfl <| r_getf_i c_48_73 rfl rfl <| r_iload c_48_76 rfl <| r_iast c_48_78 rfl (jn := nG T) (by simp [sto, e5]) (by omega) <| r_aload_n c_48_79 rfl <| r_dup c_48_80 rfl <| r_getf_i c_48_81 rfl rfl <| r_iconst c_48_84 <| r_iadd c_48_85 (by simp only [sto]; simp [e5]; omega) <| r_putf c_48_86 rfl rfl <| ?_
          refine r_iconst c_48_89 <| r_iret c_48_90 <| ?_
          have hR : rangR kd f l v := ⟨by omega, by omega, by assumption⟩
          have e1 : rangT T kd f l v = rangS T kd f l v := by unfold rangT; rw [if_neg (not_not_intro hR), if_neg (by omega)]
          have e2 : rangN T kd f l v = 1 := by unfold rangN; rw [if_neg (not_not_intro hR), if_neg (by omega)]
          have e9 : sto (sto (sto (sto σ 26 (nG T) kd) 27 (nG T) f) 28 (nG T) l) 29 (nG T) v 25 4 + 1 = (nG T : Int) + 1 := by simp only [sto]; simp [e5]
          rw [e9]
          refine q_val (k _ ?_ ?_) e2.symm
          · rw [e1]; exact ((((hC.sto _ _ _).sto _ _ _).sto _ _ _).sto _ _ _).sto _ _ _
          · exact ((((cf.rf.sto (by decide)).sto (by decide)).sto (by decide)).sto (by decide)).sto (by decide)
        · refine r_bipush c_48_35 <| r_iret c_48_37 <| ?_
          have hR : rangR kd f l v := ⟨by omega, by omega, by assumption⟩
          have e1 : rangT T kd f l v = T := by unfold rangT; rw [if_neg (not_not_intro hR), if_pos (by omega)]
          have e2 : rangN T kd f l v = -4 := by unfold rangN; rw [if_neg (not_not_intro hR), if_pos (by omega)]
          rw [← e2]; exact k σ (by rw [e1]; exact hC) cf.rf
      · refine r_if_ne c_48_19 (fun h => absurd h (by decide)) <| (fun _ => ?_)
        refine r_bipush c_48_22 <| r_iret c_48_24 <| ?_
        have hR : ¬ rangR kd f l v := fun q => by first | exact absurd q.1 (by omega) | exact absurd q.2.1 (by omega) | exact absurd q.2.2 (by assumption)
        have e1 : rangT T kd f l v = T := by unfold rangT; rw [if_pos hR]
        have e2 : rangN T kd f l v = -2 := by unfold rangN; rw [if_pos hR]
        rw [← e2]; exact k σ (by rw [e1]; exact hC) cf.rf
theorem ct_rangeP (hC : TC σ T) (hO : TOK T) (kd f l v : Int) (k : ∀ σ', TC σ' (rangT T kd f l v) → cf [25, 26, 27, 28, 29] σ σ' → Q (some (vI (rangN T kd f l v))) (hp L σ')) : mm_call 47 [vP 2, vI kd, vI f, vI l, vI v] (hp L σ) Q := by
  refine ⟨Nat.le_of_ble_eq_true rfl, ?_⟩
  show mm_X 47 0 [vP 2, vI kd, vI f, vI l, vI v] [] _ _
  refine r_aload_n c_47_0 rfl <| r_getf_a c_47_1 rfl rfl <| r_iload_n c_47_4 rfl <| r_iload_n c_47_5 rfl <| r_iload_n c_47_6 rfl <| r_iload c_47_7 rfl <| r_cV4 c_47_9 rfl (Nat.le_of_ble_eq_true rfl) <| ?_
  refine ct_gtell hC hO kd f l v (fun σ1 hC1 hf1 => ?_)
  refine r_iret c_47_12 <| ?_
  exact k σ1 hC1 hf1
def abouN (T : mk_S) (p w : Int) : Int := if ¬ isPt p then -1 else if w = 0 then stO T p else if w = 1 then rkO T p else if w = 2 then rgO T 0 p else if w = 3 then rgO T 1 p else if w = 4 then rgO T 2 p else -2
theorem ct_about (hC : TC σ T) (hO : TOK T) (p w : Int) (k : Q (some (vI (abouN T p w))) (hp L σ)) : mm_call 50 [vP 2, vI p, vI w] (hp L σ) Q := by
  refine ⟨Nat.le_of_ble_eq_true rfl, ?_⟩
  show mm_X 50 0 [vP 2, vI p, vI w] [] _ _
  refine r_iload_n c_50_0 rfl <| r_i2l c_50_1 <| r_cS1 c_50_2 (Nat.le_of_ble_eq_true rfl) <| ?_
  refine ct_isPoint _ (fun h2 => ?_) (fun h2 => ?_)
  · refine r_if_ne c_50_5 (fun _ => ?_) <| (fun h => absurd h (by decide))
    refine r_iload_n c_50_10 rfl <| r_tsw c_50_11 (by decide) (fun h11 => ?_) <| (fun i11 o11 ho11 h11 => ?_)
    · refine r_bipush c_50_92 <| r_iret c_50_94 <| ?_
      exact q_val k (by unfold abouN; (repeat' split) <;> omega)
    · match i11, ho11, h11 with
      | 0, ho11, h11 =>
        obtain rfl : 33 = o11 := Option.some.inj ho11
        refine r_aload_n c_50_44 rfl <| r_getf_a c_50_45 rfl rfl <| r_iload_n c_50_48 rfl <| r_cV1 c_50_49 rfl (Nat.le_of_ble_eq_true rfl) <| ?_
        refine ct_sof hC hO p ?_
        refine r_iret c_50_52 <| ?_
        exact q_val k (by unfold abouN; (repeat' split) <;> omega)
      | 1, ho11, h11 =>
        obtain rfl : 42 = o11 := Option.some.inj ho11
        refine r_aload_n c_50_53 rfl <| r_getf_a c_50_54 rfl rfl <| r_iload_n c_50_57 rfl <| r_cV1 c_50_58 rfl (Nat.le_of_ble_eq_true rfl) <| ?_
        refine ct_rof hC hO p ?_
        refine r_iret c_50_61 <| ?_
        exact q_val k (by unfold abouN; (repeat' split) <;> omega)
      | 2, ho11, h11 =>
        obtain rfl : 51 = o11 := Option.some.inj ho11
        refine r_aload_n c_50_62 rfl <| r_getf_a c_50_63 rfl rfl <| r_iconst c_50_66 <| r_iload_n c_50_67 rfl <| r_cV2 c_50_68 rfl (Nat.le_of_ble_eq_true rfl) <| ?_
        refine ct_range hC hO 0 p ?_
        refine r_iret c_50_71 <| ?_
        exact q_val k (by unfold abouN; (repeat' split) <;> omega)
      | 3, ho11, h11 =>
        obtain rfl : 61 = o11 := Option.some.inj ho11
        refine r_aload_n c_50_72 rfl <| r_getf_a c_50_73 rfl rfl <| r_iconst c_50_76 <| r_iload_n c_50_77 rfl <| r_cV2 c_50_78 rfl (Nat.le_of_ble_eq_true rfl) <| ?_
        refine ct_range hC hO 1 p ?_
        refine r_iret c_50_81 <| ?_
        exact q_val k (by unfold abouN; (repeat' split) <;> omega)
      | 4, ho11, h11 =>
        obtain rfl : 71 = o11 := Option.some.inj ho11
        refine r_aload_n c_50_82 rfl <| r_getf_a c_50_83 rfl rfl <| r_iconst c_50_86 <| r_iload_n c_50_87 rfl <| r_cV2 c_50_88 rfl (Nat.le_of_ble_eq_true rfl) <| ?_
        refine ct_range hC hO 2 p ?_
        refine r_iret c_50_91 <| ?_
        exact q_val k (by unfold abouN; (repeat' split) <;> omega)
      | _ + 5, ho11, h11 => exact absurd ho11 (by simp)
  · refine r_if_ne c_50_5 (fun h => absurd h (by decide)) <| (fun _ => ?_)
    refine r_iconst c_50_8 <| r_iret c_50_9 <| ?_
    exact q_val k (by unfold abouN; (repeat' split) <;> omega)
end TABS
