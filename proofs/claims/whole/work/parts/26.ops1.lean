/-! read, point, add of both. -/
def cf (A : List Nat) (σ σ' : mk_S) : Prop := ∀ a, a ∉ A → σ' a = σ a
theorem cf.rf {A : List Nat} {σ : mk_S} : cf A σ σ := fun _ _ => rfl
theorem cf.tr {A : List Nat} {σ σ' σ'' : mk_S} (h : cf A σ σ') (g : cf A σ' σ'') : cf A σ σ'' := fun a h1 => (g a h1).trans (h a h1)
theorem cf.up {A B : List Nat} {σ σ' : mk_S} (h : cf A σ σ') (hA : ∀ a, a ∈ A → a ∈ B) : cf B σ σ' := fun a h1 => h a (fun q => h1 (hA a q))
theorem fr2.cf {A : List Nat} {r : Nat} {σ σ' : mk_S} (h : fr2 r σ σ') (h1 : r ∈ A) (h2 : r + 1 ∈ A) : cf A σ σ' := fun a g => h a (fun e => g (by rw [e]; exact h1)) (fun e => g (by rw [e]; exact h2))
theorem cf.sto {A : List Nat} {σ σ' : mk_S} {a k : Nat} {z : Int} (h : cf A σ σ') (h2 : a ∈ A) : cf A σ (sto σ' a k z) := fun b g => by rw [sto_ne (fun (e : b = a) => g (by rw [e]; exact h2))]; exact h b g
theorem TC.cf {A : List Nat} {σ σ' T : mk_S} (h : TC σ T) (g : cf A σ σ') (hA : ∀ a, a ∈ A → a < 11 ∨ 29 < a) : TC σ' T := fun a h1 h2 => by
  rw [g a (fun q => by have := hA a q; omega)]
  exact h a h1 h2
theorem rowOK.cf {A : List Nat} {σ σ' : mk_S} {r n : Nat} {l : List Int} (h : rowOK σ r n l) (g : cf A σ σ') (h1 : r ∉ A) (h2 : r + 1 ∉ A) : rowOK σ' r n l := h.fr (g r h1) (g (r + 1) h2)
def readN (t : List Int) : Int := if (RD t).2 = -1 then (RD t).1.length else if (RD t).2 = -2 then -4 else -10 - (RD t).2
def readW (t w : List Int) : List Int := if (RD t).2 = -1 then (RD t).1 else w
section OPS1
variable {L : Nat} {Q : Option mm_V → mm_H → Prop}
theorem ct_read {σ : mk_S} {t w : List Int} (ho : octs t) (ht : rowOK σ 3 400 t) (hw : rowOK σ 5 300 w) (k : ∀ σ', rowOK σ' 5 300 (readW t w) → cf [5, 6, 7, 8] σ σ' → Q (some (vI (readN t))) (hp L σ')) : mm_call 15 [vP 2] (hp L σ) Q := by
  have hR := RD_pts ho
  have hl := ht.2.1
  refine ⟨Nat.le_of_ble_eq_true rfl, ?_⟩
  show mm_X 15 0 [vP 2, mm_null] [] _ _
  refine r_aload_n c_15_0 rfl <| r_getf_a c_15_1 rfl rfl <| r_aload_n c_15_4 rfl <| r_getf_a c_15_5 rfl rfl <| r_cS2 c_15_8 (Nat.le_of_ble_eq_true rfl) <| ?_
  refine ct_take row3 row7 (by decide) ho ht (fun σ1 hs1 hf1 => ?_)
  refine r_istore_n_2_1 c_15_11 rfl <| r_iload_n c_15_12 rfl <| r_iconst c_15_13 <| r_icmp_eq c_15_14 (fun h14 => ?_) <| (fun h14 => ?_)
  · refine r_aload_n c_15_22 rfl <| r_getf_a c_15_23 rfl rfl <| r_aload_n c_15_26 rfl <| r_getf_a c_15_27 rfl rfl <| r_cV1 c_15_30 rfl (Nat.le_of_ble_eq_true rfl) <| ?_
    refine ct_become row5 row7 (by decide) hs1 hR.2.1 (fun σ2 hs2 hf2 => ?_)
    refine r_aload_n c_15_33 rfl <| r_getf_a c_15_34 rfl rfl <| r_cV0 c_15_37 rfl (Nat.le_of_ble_eq_true rfl) <| ?_
    refine ct_size row5 hs2 ?_
    refine r_iret c_15_40 <| ?_
    have e1 : readW t w = (RD t).1 := by unfold readW; rw [if_pos (by omega)]
    have e2 : readN t = (RD t).1.length := by unfold readN; rw [if_pos (by omega)]
    rw [← e2]
    exact k σ2 (by rw [e1]; exact hs2) ((hf1.cf (by decide) (by decide)).tr (hf2.cf (by decide) (by decide)))
  · refine r_iload_n c_15_17 rfl <| r_cS1 c_15_18 (Nat.le_of_ble_eq_true rfl) <| ?_
    refine ct_refusal _ (by omega) ?_
    refine r_iret c_15_21 <| ?_
    have e1 : readW t w = w := by unfold readW; rw [if_neg (by omega)]
    have e2 : readN t = if (RD t).2 = -2 then -4 else -10 - (RD t).2 := by unfold readN; rw [if_neg (by omega)]
    rw [← e2]
    exact k σ1 (by rw [e1]; exact hw.fr2 hf1 (by decide)) (hf1.cf (by decide) (by decide))
theorem ct_point {σ : mk_S} {w : List Int} (hw : rowOK σ 5 300 w) (i : Int) (k : Q (some (vI (gt w i))) (hp L σ)) : mm_call 25 [vP 2, vI i] (hp L σ) Q := by
  refine ⟨Nat.le_of_ble_eq_true rfl, ?_⟩
  show mm_X 25 0 [vP 2, vI i] [] _ _
  refine r_iload_n c_25_0 rfl <| r_if_lt c_25_1 (fun h1 => ?_) <| (fun h1 => ?_)
  · refine r_iconst c_25_26 <| r_iret c_25_27 <| ?_
    first | exact k | (rw [gt_out (by omega)] at k; exact k)
  · refine r_iload_n c_25_4 rfl <| r_aload_n c_25_5 rfl <| r_getf_a c_25_6 rfl rfl <| r_cV0 c_25_9 rfl (Nat.le_of_ble_eq_true rfl) <| ?_
    refine ct_size row5 hw ?_
    refine r_icmp_ge c_25_12 (fun h12 => ?_) <| (fun h12 => ?_)
    · refine r_iconst c_25_26 <| r_iret c_25_27 <| ?_
      first | exact k | (rw [gt_out (by omega)] at k; exact k)
    · refine r_aload_n c_25_15 rfl <| r_getf_a c_25_16 rfl rfl <| r_iload_n c_25_19 rfl <| r_cV1 c_25_20 rfl (Nat.le_of_ble_eq_true rfl) <| ?_
      refine ct_at row5 hw i ?_
      refine r_goto c_25_23 <| r_iret c_25_27 <| ?_
      first | exact k | (rw [gt_out (by omega)] at k; exact k)
def addN (w : List Int) (p : Int) : Int := if p = -1 then 0 else if ¬ isPt p then -2 else if w.length = 300 then -4 else w.length + 1
def addW (w : List Int) (p : Int) : List Int := if p = -1 then [] else if ¬ isPt p then w else if w.length = 300 then w else w ++ [p]
theorem ct_add {σ : mk_S} {w : List Int} (hw : rowOK σ 5 300 w) (p : Int) (k : ∀ σ', rowOK σ' 5 300 (addW w p) → cf [5, 6] σ σ' → Q (some (vI (addN w p))) (hp L σ')) : mm_call 26 [vP 2, vI p] (hp L σ) Q := by
  have hle := hw.2.1
  refine ⟨Nat.le_of_ble_eq_true rfl, ?_⟩
  show mm_X 26 0 [vP 2, vI p] [] _ _
  refine r_iload_n c_26_0 rfl <| r_iconst c_26_1 <| r_icmp_ne c_26_2 (fun h2 => ?_) <| (fun h2 => ?_)
  · refine r_iload_n c_26_14 rfl <| r_i2l c_26_15 <| r_cS1 c_26_16 (Nat.le_of_ble_eq_true rfl) <| ?_
    refine ct_isPoint _ (fun h16 => ?_) (fun h16 => ?_)
    · refine r_if_ne c_26_19 (fun _ => ?_) <| (fun h => absurd h (by decide))
      refine r_aload_n c_26_25 rfl <| r_getf_a c_26_26 rfl rfl <| r_iload_n c_26_29 rfl <| r_cV1 c_26_30 rfl (Nat.le_of_ble_eq_true rfl) <| ?_
      refine ct_append row5 hw _ (fun hlt σ1 hl1 hf1 => ?_) (fun hfull => ?_)
      · refine r_if_eq c_26_33 (fun h => absurd h (by decide)) <| (fun _ => ?_)
        refine r_aload_n c_26_36 rfl <| r_getf_a c_26_37 rfl rfl <| r_cV0 c_26_40 rfl (Nat.le_of_ble_eq_true rfl) <| ?_
        refine ct_size row5 hl1 ?_
        refine r_goto c_26_43 <| r_iret c_26_48 <| ?_
        first
        | (have e1 : addW w p = w := by unfold addW; rw [if_neg (by omega), if_neg (by omega), if_pos hfull]
           have e2 : addN w p = -4 := by unfold addN; rw [if_neg (by omega), if_neg (by omega), if_pos hfull]
           rw [← e2]; exact k σ (by rw [e1]; exact hw) cf.rf)
        | (have e1 : addW w p = w ++ [p] := by unfold addW; rw [if_neg (by omega), if_neg (by omega), if_neg (by omega)]
           have e2 : addN w p = (w ++ [p]).length := by unfold addN; rw [if_neg (by omega), if_neg (by omega), if_neg (by omega)]; simp
           rw [← e2]; exact k σ1 (by rw [e1]; exact hl1) (hf1.cf (by decide) (by decide)))
      · refine r_if_eq c_26_33 (fun _ => ?_) <| (fun h => absurd h (by decide))
        refine r_bipush c_26_46 <| r_iret c_26_48 <| ?_
        first
        | (have e1 : addW w p = w := by unfold addW; rw [if_neg (by omega), if_neg (by omega), if_pos hfull]
           have e2 : addN w p = -4 := by unfold addN; rw [if_neg (by omega), if_neg (by omega), if_pos hfull]
           rw [← e2]; exact k σ (by rw [e1]; exact hw) cf.rf)
        | (have e1 : addW w p = w ++ [p] := by unfold addW; rw [if_neg (by omega), if_neg (by omega), if_neg (by omega)]
           have e2 : addN w p = (w ++ [p]).length := by unfold addN; rw [if_neg (by omega), if_neg (by omega), if_neg (by omega)]; simp
           rw [← e2]; exact k σ1 (by rw [e1]; exact hl1) (hf1.cf (by decide) (by decide)))
    · refine r_if_ne c_26_19 (fun h => absurd h (by decide)) <| (fun _ => ?_)
      refine r_bipush c_26_22 <| r_iret c_26_24 <| ?_
      have e1 : addW w p = w := by unfold addW; rw [if_neg (by omega), if_pos (by assumption)]
      have e2 : addN w p = -2 := by unfold addN; rw [if_neg (by omega), if_pos (by assumption)]
      rw [← e2]; exact k σ (by rw [e1]; exact hw) cf.rf
  · refine r_aload_n c_26_5 rfl <| r_getf_a c_26_6 rfl rfl <| r_cV0 c_26_9 rfl (Nat.le_of_ble_eq_true rfl) <| ?_
    refine ct_clear row5 (fun σ1 hl1 hf1 => ?_)
    refine r_iconst c_26_12 <| r_iret c_26_13 <| ?_
    have e1 : addW w p = [] := by unfold addW; rw [if_pos (by omega)]
    have e2 : addN w p = 0 := by unfold addN; rw [if_pos (by omega)]
    rw [← e2]; exact k σ1 (by rw [e1]; exact hl1) (hf1.cf (by decide) (by decide))
-- the reference's
theorem lp_mreadc {ps : List Int} (hps : ps.length ≤ 300) : ∀ (k i : Nat) (σ : mk_S) (Q : Option mm_V → mm_H → Prop), ps.length + 1 ≤ i + k → i ≤ ps.length → mGot σ ps → (∀ j, j < i → σ 57 j = ps.getD j 0) →
    (∀ σ', mRow σ' ps → mf [57] [4] σ σ' → Q (some (vI ps.length)) (hp L σ')) → mm_X 136 38 [vP 55, vI i] [] (hp L σ) Q := by
  intro k
  induction k with
  | zero => intro i σ Q h1 h2; omega
  | succ k ih =>
    intro i σ Q hk hi hg hr kk
    have e1 := hg.1
    refine r_iload_n c_136_38 rfl <| r_aload_n c_136_39 rfl <| r_getf_i c_136_40 rfl rfl <| r_icmp_ge c_136_43 (fun h43 => ?_) <| (fun h43 => ?_)
    · refine r_aload_n c_136_64 rfl <| r_aload_n c_136_65 rfl <| r_getf_i c_136_66 rfl rfl <| r_putf c_136_69 rfl rfl <| r_aload_n c_136_72 rfl <| r_getf_i c_136_73 rfl rfl <| r_iret c_136_76 <| ?_
      rw [sto_get]
      have := kk (sto σ 55 4 (σ 55 25)) ⟨by rw [sto_get, e1], hps, fun j hj => by rw [sto_ne (by decide)]; exact hr j (by omega)⟩ (mf.rf.stF (by decide))
      rw [e1] at this ⊢
      exact this
    · refine r_aload_n c_136_46 rfl <| r_getf_a c_136_47 rfl rfl <| r_iload_n c_136_50 rfl <| r_aload_n c_136_51 rfl <| r_getf_a c_136_52 rfl rfl <| r_iload_n c_136_55 rfl <| r_iald c_136_56 rfl (Or.inl rfl) rfl (by omega) <| r_iast c_136_57 rfl rfl (by omega) <| r_iinc_2_1 c_136_58 rfl (by omega) <| r_goto c_136_61 <| ?_
      refine ih (i + 1) _ Q (by omega) (by omega) (hg.eq (by rw [sto_ne (by decide)]) (sto_ne (by decide))) (fun j hj => ?_) (fun σ2 g1 g2 => kk σ2 g1 ((mf.rf.stA (by decide) (by decide)).tr g2))
      rw [sto_at]
      by_cases e : j = i
      · subst e; rw [st_at]; exact hg.2 j (by omega)
      · rw [st_ne e]; exact hr j (by omega)
theorem mRow.mf {A F : List Nat} {σ σ' : mk_S} {w : List Int} (h : mRow σ w) (g : mf A F σ σ') (h1 : 57 ∉ A) (h2 : 4 ∉ F) : mRow σ' w := h.eq (g.2 4 h2) (g.1 57 (by decide) h1)
theorem mText.mf {A F : List Nat} {σ σ' : mk_S} {w : List Int} (h : mText σ w) (g : mf A F σ σ') (h1 : 56 ∉ A) (h2 : 2 ∉ F) : mText σ' w := h.eq (g.2 2 h2) (g.1 56 (by decide) h1)
theorem MT.mf {A F : List Nat} {σ σ' T : mk_S} (h : MT σ T) (g : mf A F σ σ') (hA : ∀ a, a ∈ A → a < 58 ∨ 72 < a) (hF : 5 ∉ F ∧ 11 ∉ F ∧ 16 ∉ F ∧ 19 ∉ F) : MT σ' T := by
  have e : ∀ a, 58 ≤ a → a ≤ 72 → σ' a = σ a := fun a h1 h2 => g.1 a (by omega) (fun q => by have := hA a q; omega)
  obtain ⟨h1, h2, h3, h4, h5⟩ := h
  unfold MT MTn MTs MTp MTr MTg
  rw [g.2 5 hF.1, g.2 11 hF.2.1, g.2 16 hF.2.2.1, g.2 19 hF.2.2.2, e 58 (by decide) (by decide), e 59 (by decide) (by decide), e 60 (by decide) (by decide), e 61 (by decide) (by decide), e 62 (by decide) (by decide), e 63 (by decide) (by decide), e 64 (by decide) (by decide), e 65 (by decide) (by decide), e 66 (by decide) (by decide), e 67 (by decide) (by decide), e 68 (by decide) (by decide), e 69 (by decide) (by decide), e 70 (by decide) (by decide), e 71 (by decide) (by decide), e 72 (by decide) (by decide)]
  exact ⟨h1, h2, h3, h4, h5⟩
theorem ct_mreadP {σ : mk_S} {t w : List Int} (ho : octs t) (ht : mText σ t) (hw : mRow σ w) (k : ∀ σ', mRow σ' (readW t w) → mf [73, 57] [0, 25, 26, 4] σ σ' → Q (some (vI (readN t))) (hp L σ')) : mm_call 136 [vP 55] (hp L σ) Q := by
  have hR := RD_pts ho
  have hl := ht.2.1
  refine ⟨Nat.le_of_ble_eq_true rfl, ?_⟩
  show mm_X 136 0 [vP 55, mm_null] [] _ _
  refine r_aload_n c_136_0 rfl <| r_iconst c_136_1 <| r_putf c_136_2 rfl rfl <| r_aload_n c_136_5 rfl <| r_cV0 c_136_6 rfl (Nat.le_of_ble_eq_true rfl) <| ?_
  have f0 : mf [73] [0, 25, 26] σ (sto σ 55 0 0) := mf.rf.stF (by decide)
  refine ct_mread ho (ht.eq (sto_get2 (Or.inr (by decide))) (sto_ne (by decide))) (fun σ1 hg1 ho1 hf1 => ?_)
  have hf1 := f0.tr (hf1.up (by decide) (by decide))
  refine r_aload_n c_136_9 rfl <| r_getf_i c_136_10 rfl rfl <| r_bipush c_136_13 <| r_icmp_ne c_136_15 (fun h15 => ?_) <| (fun h15 => ?_)
  · refine r_aload_n c_136_21 rfl <| r_getf_i c_136_22 rfl rfl <| r_if_lt c_136_25 (fun h25 => ?_) <| (fun h25 => ?_)
    · refine r_iconst c_136_36 <| r_istore_n_2_1 c_136_37 rfl <| ?_
      have e1 : readW t w = (RD t).1 := by unfold readW; rw [if_pos (by omega)]
      have e2 : readN t = (RD t).1.length := by unfold readN; rw [if_pos (by omega)]
      exact lp_mreadc hR.2.1 ((RD t).1.length + 1) 0 σ1 Q (by omega) (by omega) hg1 (fun j hj => absurd hj (Nat.not_lt_zero j)) (fun σ2 g1 g2 => by rw [← e2]; exact k σ2 (by rw [e1]; exact g1) ((hf1.up (by decide) (by decide)).tr (g2.up (by decide) (by decide))))
    · refine r_bipush c_136_28 <| r_aload_n c_136_30 rfl <| r_getf_i c_136_31 rfl rfl <| r_isub c_136_34 (by rw [ho1]; omega) <| r_iret c_136_35 <| ?_
      have e1 : readW t w = w := by unfold readW; rw [if_neg (by omega)]
      have e2 : readN t = -10 - σ1 55 26 := by unfold readN; rw [if_neg (by omega), if_neg (by omega), ho1]
      rw [← e2]
      exact k σ1 (by rw [e1]; exact hw.mf hf1 (by decide) (by decide)) (hf1.up (by decide) (by decide))
  · refine r_bipush c_136_18 <| r_iret c_136_20 <| ?_
    have e1 : readW t w = w := by unfold readW; rw [if_neg (by omega)]
    have e2 : readN t = -4 := by unfold readN; rw [if_neg (by omega), if_pos (by omega)]
    rw [← e2]
    exact k σ1 (by rw [e1]; exact hw.mf hf1 (by decide) (by decide)) (hf1.up (by decide) (by decide))
theorem ct_mpoint {σ : mk_S} {w : List Int} (hw : mRow σ w) (i : Int) (k : ∀ σ', mf [] [0] σ σ' → Q (some (vI (gt w i))) (hp L σ')) : mm_call 139 [vP 55, vI i] (hp L σ) Q := by
  have e1 := hw.1
  have hle := hw.2.1
  have k := k _ ((mf.rf (A := []) (F := [0]) (σ := σ)).stF (k := 0) (z := 0) (by decide))
  have e2 : sto σ 55 0 0 55 4 = σ 55 4 := sto_get2 (Or.inr (by decide))
  refine ⟨Nat.le_of_ble_eq_true rfl, ?_⟩
  show mm_X 139 0 [vP 55, vI i] [] _ _
  refine r_aload_n c_139_0 rfl <| r_iconst c_139_1 <| r_putf c_139_2 rfl rfl <| r_iload_n c_139_5 rfl <| r_iconst c_139_6 <| r_aload_n c_139_7 rfl <| r_getf_i c_139_8 rfl rfl <| r_iconst c_139_11 <| r_isub c_139_12 (by rw [e2]; omega) <| r_cS3 c_139_13 (Nat.le_of_ble_eq_true rfl) <| ?_
  refine ct_in _ _ _ (fun h13 => ?_) (fun h13 => ?_)
  · refine r_if_eq c_139_16 (fun h => absurd h (by decide)) <| (fun _ => ?_)
    refine r_aload_n c_139_19 rfl <| r_getf_a c_139_20 rfl rfl <| r_iload_n c_139_23 rfl <| r_iald c_139_24 rfl (Or.inl rfl) (jn := i.toNat) (by omega) (by omega) <| r_goto c_139_25 <| r_iret c_139_29 <| ?_
    first | (rw [gt_out (by omega)] at k; exact k) | (refine q_val k ?_; unfold gt; rw [if_pos (by omega), sto_ne (by decide)]; exact hw.2.2 _ (by omega))
  · refine r_if_eq c_139_16 (fun _ => ?_) <| (fun h => absurd h (by decide))
    refine r_iconst c_139_28 <| r_iret c_139_29 <| ?_
    first | (rw [gt_out (by omega)] at k; exact k) | (refine q_val k ?_; unfold gt; rw [if_pos (by omega), sto_ne (by decide)]; exact hw.2.2 _ (by omega))
theorem ct_madd {σ : mk_S} {w : List Int} (hw : mRow σ w) (p : Int) (k : ∀ σ', mRow σ' (addW w p) → mf [57] [0, 4] σ σ' → Q (some (vI (addN w p))) (hp L σ')) : mm_call 140 [vP 55, vI p] (hp L σ) Q := by
  have e0 := hw.1
  have hle := hw.2.1
  have f0 : mf [57] [0, 4] σ (sto σ 55 0 0) := mf.rf.stF (by decide)
  have hw0 : mRow (sto σ 55 0 0) w := hw.eq (sto_get2 (Or.inr (by decide))) (sto_ne (by decide))
  have e1 := hw0.1
  refine ⟨Nat.le_of_ble_eq_true rfl, ?_⟩
  show mm_X 140 0 [vP 55, vI p] [] _ _
  refine r_aload_n c_140_0 rfl <| r_iconst c_140_1 <| r_putf c_140_2 rfl rfl <| r_iload_n c_140_5 rfl <| r_iconst c_140_6 <| r_icmp_ne c_140_7 (fun h7 => ?_) <| (fun h7 => ?_)
  · refine r_iload_n c_140_17 rfl <| r_cS1 c_140_18 (Nat.le_of_ble_eq_true rfl) <| ?_
    refine ct_mPoint _ (fun h18 => ?_) (fun h18 => ?_)
    · refine r_if_ne c_140_21 (fun _ => ?_) <| (fun h => absurd h (by decide))
      refine r_aload_n c_140_27 rfl <| r_getf_i c_140_28 rfl rfl <| r_sipush c_140_31 <| r_icmp_ne c_140_34 (fun h34 => ?_) <| (fun h34 => ?_)
      · refine r_aload_n c_140_40 rfl <| r_getf_a c_140_41 rfl rfl <| r_aload_n c_140_44 rfl <| r_getf_i c_140_45 rfl rfl <| r_iload_n c_140_48 rfl <| r_iast c_140_49 rfl (jn := w.length) (by omega) (by omega) <| r_aload_n c_140_50 rfl <| r_dup c_140_51 rfl <| r_getf_i c_140_52 rfl rfl <| r_iconst c_140_55 <| ?_
        refine r_iadd c_140_56 (by rw [sto_get2 (Or.inl (by decide)), e1]; omega) <| r_putf c_140_57 rfl rfl <| r_aload_n c_140_60 rfl <| r_getf_i c_140_61 rfl rfl <| r_iret c_140_64 <| ?_
        have e3 : addW w p = w ++ [p] := by unfold addW; rw [if_neg (by omega), if_neg (by omega), if_neg (by omega)]
        have e2 : addN w p = w.length + 1 := by unfold addN; rw [if_neg (by omega), if_neg (by omega), if_neg (by omega)]
        rw [sto_get, sto_get2 (Or.inl (by decide)), e1]
        rw [← e2]
        refine k _ (by rw [e3]; exact ⟨by rw [sto_get, e2]; simp, by simp; omega, arr_push hw0.2.2 (by rw [sto_ne (by decide), sto_at])⟩) ((f0.stA (by decide) (by decide)).stF (by decide))
      · refine r_bipush c_140_37 <| r_iret c_140_39 <| ?_
        have e1 : addW w p = w := by unfold addW; rw [if_neg (by omega), if_neg (by omega), if_pos (by omega)]
        have e2 : addN w p = -4 := by unfold addN; rw [if_neg (by omega), if_neg (by omega), if_pos (by omega)]
        rw [← e2]; exact k _ (by rw [e1]; exact hw0) f0
    · refine r_if_ne c_140_21 (fun h => absurd h (by decide)) <| (fun _ => ?_)
      refine r_bipush c_140_24 <| r_iret c_140_26 <| ?_
      have e1 : addW w p = w := by unfold addW; rw [if_neg (by omega), if_pos (by assumption)]
      have e2 : addN w p = -2 := by unfold addN; rw [if_neg (by omega), if_pos (by assumption)]
      rw [← e2]; exact k _ (by rw [e1]; exact hw0) f0
  · refine r_aload_n c_140_10 rfl <| r_iconst c_140_11 <| r_putf c_140_12 rfl rfl <| r_iconst c_140_15 <| r_iret c_140_16 <| ?_
    have e1 : addW w p = [] := by unfold addW; rw [if_pos (by omega)]
    have e2 : addN w p = 0 := by unfold addN; rw [if_pos (by omega)]
    exact q_val (k _ (by rw [e1]; exact ⟨sto_get _ _ _ _, Nat.zero_le _, arr_nil⟩) (f0.stF (by decide))) e2.symm
end OPS1
