/-! ENCODE: both operations. -/
def encN (w : List Int) : Int := if (enc w).length ≤ 300 then (enc w).length else -4
def encW (w : List Int) : List Int := if (enc w).length ≤ 300 then enc w else w
theorem dg_pt {v : Int} (h : 0 ≤ v ∧ v < 36) : 0 ≤ dg v ∧ dg v ≤ 127 := by unfold dg; split <;> omega
theorem wrN_pt : ∀ (n : Nat) (q k b : Int), 0 ≤ q → q < 10 ^ n → ∀ y, y ∈ wrN n q k b → 0 ≤ y ∧ y ≤ 127
  | 0, q, k, b, h0, hj, y, hy => by
    simp only [wrN, List.mem_singleton] at hy
    subst hy; exact dg_pt (by simp at hj; omega)
  | n + 1, q, k, b, h0, hj, y, hy => by
    have ht := thr_rng k b
    simp only [wrN] at hy
    split at hy
    · simp only [List.mem_singleton] at hy
      subst hy; exact dg_pt (by omega)
    · next h =>
      have hs := wr_step ht (by omega : thr k b ≤ q)
      rcases List.mem_cons.1 hy with rfl | hy
      · exact dg_pt (by omega)
      · exact wrN_pt n _ _ b hs.2.2.1 (p10_step hj hs.2.2.2) y hy
theorem wr_pt {q b : Int} (h0 : 0 ≤ q) (h1 : q ≤ 10000000000) : ∀ y, y ∈ wr q b → 0 ≤ y ∧ y ≤ 127 := by
  have hbig : (10000000000 : Int) < 10 ^ 40 := by decide
  exact wrN_pt 40 q 36 b h0 (by omega)
theorem enI_pt {m hb : Int} : ∀ (l : List Int) (d b h : Int), 0 ≤ d → d + l.length ≤ 400000000 → 0 ≤ b ∧ b ≤ 1476 → 0 ≤ h → ∀ y, y ∈ (enI m hb l d b h).1 → 0 ≤ y ∧ y ≤ 127
  | [], d, b, h, h1, h2, h3, h4, y, hy => absurd hy (by simp [enI])
  | x :: xs, d, b, h, h1, h2, h3, h4, y, hy => by
    simp only [List.length_cons] at h2
    simp only [enI] at hy
    by_cases g : x = m
    · rw [if_pos g] at hy
      have ha := adF_rng (d := d) (p := h + 1) (f := if h = hb then 1 else 0) h1 (by omega)
      rcases List.mem_append.1 hy with hy | hy
      · exact wr_pt h1 (by omega) y hy
      · exact enI_pt xs 0 _ _ (by omega) (by omega) ha (by omega) y hy
    · rw [if_neg g] at hy
      have hc : 0 ≤ (if x < m then d + 1 else d) ∧ (if x < m then d + 1 else d) ≤ d + 1 := by split <;> omega
      exact enI_pt xs _ b h hc.1 (by omega) h3 h4 y hy
theorem enO_pt {l : List Int} {hb : Int} (hl : l.length ≤ 300) (hp : ∀ y, y ∈ l → y ≤ 1114111) : ∀ (k : Nat) (n d b h : Int), enR l n d b h → ∀ y, y ∈ enO l hb k n d b h → 0 ≤ y ∧ y ≤ 127
  | 0, n, d, b, h, hR, y, hy => absurd hy (by simp [enO])
  | k + 1, n, d, b, h, hR, y, hy => by
    by_cases hh : h < l.length
    · have hs := enR_step (hb := hb) hl hp hR hh
      rw [enO_step hh] at hy
      have hd : enD l n d h = d + (le1 l n - n) * (h + 1) := rfl
      rcases List.mem_append.1 hy with hy | hy
      · obtain ⟨⟨q1, q2, q3, q4⟩, q5, q6, -⟩ := hs
        obtain ⟨r1, r2, r3, r4, r5, r6, r7⟩ := hR
        exact enI_pt l _ b h (by omega) (by omega) ⟨r6, r7⟩ (by omega) y hy
      · exact enO_pt hl hp k _ _ _ _ hs.2.2.2.1 y hy
    · rw [enO_end hh] at hy; exact absurd hy (by simp)
theorem bs_mem : ∀ (l : List Int) (y : Int), y ∈ bs l → y ∈ l ∧ y < 128
  | x :: xs, y, hy => by
    simp only [bs] at hy
    split at hy
    · rcases List.mem_cons.1 hy with rfl | hy
      · exact ⟨List.mem_cons_self, by assumption⟩
      · exact ⟨List.mem_cons_of_mem _ (bs_mem xs y hy).1, (bs_mem xs y hy).2⟩
    · exact ⟨List.mem_cons_of_mem _ (bs_mem xs y hy).1, (bs_mem xs y hy).2⟩
theorem pts_iff {l : List Int} : pts l ↔ ∀ y, y ∈ l → isPt y := by
  constructor
  · intro h y hy
    obtain ⟨i, hi, e⟩ := List.getElem_of_mem hy
    have := h i hi
    rw [List.getD_eq_getElem?_getD, List.getElem?_eq_getElem hi, Option.getD_some, e] at this
    exact this
  · intro h i hi
    exact h _ (gd_mem hi)
theorem enc_pt {l : List Int} (hl : l.length ≤ 300) (hp : pts l) : ∀ y, y ∈ enc l → 0 ≤ y ∧ y ≤ 127 := by
  intro y hy
  have hp := pts_iff.1 hp
  have hp2 : ∀ y, y ∈ l → y ≤ 1114111 := fun y h => by have := hp y h; unfold isPt at this; omega
  unfold enc at hy
  rcases List.mem_append.1 hy with hy | hy
  · have h1 := bs_mem l y hy
    have := hp y h1.1
    unfold isPt at this; omega
  · rcases List.mem_append.1 hy with hy | hy
    · split at hy
      · simp only [List.mem_singleton] at hy; omega
      · exact absurd hy (by simp)
    · exact enO_pt hl hp2 _ _ _ _ _ enR_start y hy
theorem pts_le {l : List Int} (h : pts l) : ∀ y, y ∈ l → y ≤ 1114111 := fun y hy => by have := pts_iff.1 h y hy; unfold isPt at this; omega
theorem encW_pts {w : List Int} (hl : w.length ≤ 300) (hp : pts w) : pts (encW w) := by
  unfold encW
  split
  · exact pts_iff.2 (fun y hy => by have := enc_pt hl hp y hy; unfold isPt; omega)
  · exact hp
section ENCP
variable {L : Nat} {Q : Option mm_V → mm_H → Prop}
theorem ct_encode {σ : mk_S} {w : List Int} (hpw : pts w) (hw : rowOK σ 5 300 w) (k : ∀ σ', rowOK σ' 5 300 (encW w) → cf [5, 6, 7, 8] σ σ' → Q (some (vI (encN w))) (hp L σ')) : mm_call 78 [vP 2] (hp L σ) Q := by
  have hle := hw.2.1
  have hpl := pts_le hpw
  have esg : sg w 0 w.length = w := sg_all
  refine ⟨Nat.le_of_ble_eq_true rfl, ?_⟩
  show mm_X 78 0 [vP 2] [] _ _
  refine r_aload_n c_78_0 rfl <| r_getf_a c_78_1 rfl rfl <| r_cV0 c_78_4 rfl (Nat.le_of_ble_eq_true rfl) <| ?_
  refine ct_clear row7 (fun σ1 hl1 hf1 => ?_)
  have hw1 := hw.fr2 hf1 (by decide)
  refine r_aload_n c_78_7 rfl <| r_getf_a c_78_8 rfl rfl <| r_iconst c_78_11 <| r_aload_n c_78_12 rfl <| r_getf_a c_78_13 rfl rfl <| r_cV0 c_78_16 rfl (Nat.le_of_ble_eq_true rfl) <| ?_
  refine ct_size row5 hw1 ?_
  refine r_aload_n c_78_19 rfl <| r_getf_a c_78_20 rfl rfl <| r_cS4 c_78_23 (Nat.le_of_ble_eq_true rfl) <| ?_
  refine ct_fold (a := 0) (lw := w) row5 row7 (by decide) (Nat.le_refl _) (Nat.zero_le _) (by omega) (by rw [esg]; exact hpl) hw1 hl1 (fun hlen σ2 hl2 hf2 => ?_) (fun hlen σ2 hf2 => ?_)
  · refine r_iconst c_78_26 <| r_icmp_eq c_78_27 (fun _ => ?_) <| (fun h => absurd h (by decide))
    refine r_aload_n c_78_33 rfl <| r_getf_a c_78_34 rfl rfl <| r_aload_n c_78_37 rfl <| r_getf_a c_78_38 rfl rfl <| r_cV1 c_78_41 rfl (Nat.le_of_ble_eq_true rfl) <| ?_
    refine ct_become row5 row7 (by decide) hl2 (hl2.2.1) (fun σ3 hl3 hf3 => ?_)
    refine r_aload_n c_78_44 rfl <| r_getf_a c_78_45 rfl rfl <| r_cV0 c_78_48 rfl (Nat.le_of_ble_eq_true rfl) <| ?_
    refine ct_size row5 hl3 ?_
    refine r_iret c_78_51 <| ?_
    rw [esg] at hlen hl3
    have e1 : encW w = enc w := by unfold encW; rw [if_pos (by omega)]
    have e2 : encN w = (enc w).length := by unfold encN; rw [if_pos (by omega)]
    rw [esg]
    exact q_val (k _ (by rw [e1]; exact hl3) (((hf1.cf (by decide) (by decide)).tr (hf2.cf (by decide) (by decide))).tr (hf3.cf (by decide) (by decide)))) e2.symm
  · refine r_iconst c_78_26 <| r_icmp_eq c_78_27 (fun h => absurd h (by decide)) <| (fun _ => ?_)
    refine r_bipush c_78_30 <| r_iret c_78_32 <| ?_
    rw [esg] at hlen
    have e1 : encW w = w := by unfold encW; rw [if_neg (by omega)]
    have e2 : encN w = -4 := by unfold encN; rw [if_neg (by omega)]
    exact q_val (k _ (by rw [e1]; exact hw1.fr2 hf2 (by decide)) ((hf1.cf (by decide) (by decide)).tr (hf2.cf (by decide) (by decide)))) e2.symm
theorem lp_mencc {l : List Int} (hll : l.length ≤ 300) : ∀ (k i : Nat) (σ : mk_S) (Q : Option mm_V → mm_H → Prop), l.length + 1 ≤ i + k → i ≤ l.length → arr σ 78 l → σ 55 4 = l.length → (∀ j, j < i → σ 57 j = l.getD j 0) →
    (∀ σ', mRow σ' l → mf [57] [] σ σ' → Q (some (vI l.length)) (hp L σ')) → mm_X 164 44 [vP 55, vI i] [] (hp L σ) Q := by
  intro k
  induction k with
  | zero => intro i σ Q h1 h2; omega
  | succ k ih =>
    intro i σ Q hk hi hg e1 hr kk
    refine r_iload_n c_164_44 rfl <| r_aload_n c_164_45 rfl <| r_getf_i c_164_46 rfl rfl <| r_icmp_ge c_164_49 (fun h49 => ?_) <| (fun h49 => ?_)
    · refine r_aload_n c_164_70 rfl <| r_getf_i c_164_71 rfl rfl <| r_iret c_164_74 <| ?_
      rw [e1]
      exact kk σ ⟨e1, hll, fun j hj => hr j (by omega)⟩ mf.rf
    · refine r_aload_n c_164_52 rfl <| r_getf_a c_164_53 rfl rfl <| r_iload_n c_164_56 rfl <| r_aload_n c_164_57 rfl <| r_getf_a c_164_58 rfl rfl <| r_iload_n c_164_61 rfl <| r_iald c_164_62 rfl (Or.inl rfl) rfl (by omega) <| r_iast c_164_63 rfl rfl (by omega) <| r_iinc_2_1 c_164_64 rfl (by omega) <| r_goto c_164_67 <| ?_
      refine ih (i + 1) _ Q (by omega) (by omega) (hg.eq (sto_ne (by decide))) (by rw [sto_ne (by decide)]; exact e1) (fun j hj => ?_) (fun σ2 g1 g2 => kk σ2 g1 ((mf.rf.stA (by decide) (by decide)).tr g2))
      rw [sto_at]
      by_cases e : j = i
      · subst e; rw [st_at]; exact hg j (by omega)
      · rw [st_ne e]; exact hr j (by omega)
theorem ct_mencode {σ : mk_S} {w : List Int} (hpw : pts w) (hw : mRow σ w) (k : ∀ σ', mRow σ' (encW w) → mf [78, 57] [0, 34, 4] σ σ' → Q (some (vI (encN w))) (hp L σ')) : mm_call 164 [vP 55] (hp L σ) Q := by
  have hle := hw.2.1
  have hpl := pts_le hpw
  have hlen := enc_len hle hpl
  have f0 : mf [78, 57] [0, 34, 4] σ (sto σ 55 0 0) := mf.rf.stF (by decide)
  have hw0 : mRow (sto σ 55 0 0) w := hw.eq (sto_get2 (Or.inr (by decide))) (sto_ne (by decide))
  have e4 := hw0.1
  refine ⟨Nat.le_of_ble_eq_true rfl, ?_⟩
  show mm_X 164 0 [vP 55, mm_null] [] _ _
  refine r_aload_n c_164_0 rfl <| r_iconst c_164_1 <| r_putf c_164_2 rfl rfl <| r_aload_n c_164_5 rfl <| r_aload_n c_164_6 rfl <| r_getf_a c_164_7 rfl rfl <| r_iconst c_164_10 <| r_aload_n c_164_11 rfl <| r_getf_i c_164_12 rfl rfl <| ?_
  rw [e4]
  refine r_cV3 c_164_15 rfl (Nat.le_of_ble_eq_true rfl) <| ?_
  refine ct_encoded (ra := 57) (na := 300) (at0 := 0) rfl (by decide) (by omega) (by decide) hle hpl (fun j hj => by rw [Nat.zero_add]; exact hw0.2.2 j hj) (fun σ1 h1 hf1 => ?_)
  have e34 := h1.1
  refine r_if_eq c_164_18 (fun h18 => ?_) <| (fun h18 => ?_)
  · refine r_bipush c_164_31 <| r_iret c_164_33 <| ?_
    have e1 : encW w = w := by unfold encW; rw [if_neg (by omega)]
    have e2 : encN w = -4 := by unfold encN; rw [if_neg (by omega)]
    exact q_val (k _ (by rw [e1]; exact hw0.mf hf1 (by decide) (by decide)) (f0.tr (hf1.up (by decide) (by decide)))) e2.symm
  · refine r_aload_n c_164_21 rfl <| r_getf_i c_164_22 rfl rfl <| r_sipush c_164_25 <| r_icmp_le c_164_28 (fun h28 => ?_) <| (fun h28 => ?_)
    · refine r_aload_n c_164_34 rfl <| r_aload_n c_164_35 rfl <| r_getf_i c_164_36 rfl rfl <| r_putf c_164_39 rfl rfl <| r_iconst c_164_42 <| r_istore_n_2_1 c_164_43 rfl <| ?_
      have e1 : encW w = enc w := by unfold encW; rw [if_pos (by omega)]
      have e2 : encN w = (enc w).length := by unfold encN; rw [if_pos (by omega)]
      rw [e34]
      refine lp_mencc (by omega) ((enc w).length + 1) 0 _ Q (by omega) (Nat.zero_le _) (h1.2.eq (sto_ne (by decide))) (sto_get _ _ _ _) (fun j hj => absurd hj (Nat.not_lt_zero j)) (fun σ2 g1 g2 => ?_)
      exact q_val (k _ (by rw [e1]; exact g1) ((f0.tr (hf1.up (by decide) (by decide))).tr ((mf.rf.stF (by decide)).tr (g2.up (by decide) (by decide))))) e2.symm
    · refine r_bipush c_164_31 <| r_iret c_164_33 <| ?_
      have e1 : encW w = w := by unfold encW; rw [if_neg (by omega)]
      have e2 : encN w = -4 := by unfold encN; rw [if_neg (by omega)]
      exact q_val (k _ (by rw [e1]; exact hw0.mf hf1 (by decide) (by decide)) (f0.tr (hf1.up (by decide) (by decide)))) e2.symm
end ENCP
