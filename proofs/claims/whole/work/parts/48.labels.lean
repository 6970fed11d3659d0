/-! MAKE: looking at the labels. What it asks, and the class's side. -/
def wdF : List Int → Bool
  | [] => false
  | x :: xs => if 127 < x then true else wdF xs
abbrev pfx (lb : List Int) : Prop := gt lb 0 = 120 ∧ gt lb 1 = 110 ∧ gt lb 2 = 45 ∧ gt lb 3 = 45
def unL (T : mk_S) (lb : List Int) : List Int × Int × Int :=
  if ¬ pfx lb then (lb, 0, 0)
  else if (DE (lb.drop 4)).2 ≠ -1 then ([], 30, 4 + (DE (lb.drop 4)).2)
  else if wdF (DE (lb.drop 4)).1 = false then ([], 32, 0)
  else if 300 < (exL T (DE (lb.drop 4)).1).length then ([], 60, 0)
  else if 0 ≤ onat (fdiff (DE (lb.drop 4)).1 (oF T (DE (lb.drop 4)).1) 0) then ([], 40, onat (fdiff (DE (lb.drop 4)).1 (oF T (DE (lb.drop 4)).1) 0))
  else ((DE (lb.drop 4)).1, 0, 0)
def lkL (T : mk_S) (lb : List Int) : List Int × Int × Int :=
  if lb.length = 0 then ([], 0, 0)
  else if (unL T lb).2.1 ≠ 0 then unL T lb
  else ((unL T lb).1, (ruL T (unL T lb).1).1, (ruL T (unL T lb).1).2)
def lkF (T : mk_S) : List Int → List Int → List (List Int) → List (List Int) × Int × Int × Int
  | [], cur, ls => if (lkL T cur).2.1 ≠ 0 then (ls, (lkL T cur).2.1, ls.length, (lkL T cur).2.2) else (ls ++ [(lkL T cur).1], 0, 0, 0)
  | c :: cs, cur, ls => if c = 46 then (if (lkL T cur).2.1 ≠ 0 then (ls, (lkL T cur).2.1, ls.length, (lkL T cur).2.2) else lkF T cs [] (ls ++ [(lkL T cur).1])) else lkF T cs (cur ++ [c]) ls
theorem pfx_len {lb : List Int} (h : pfx lb) : 4 ≤ lb.length := by
  rcases Nat.lt_or_ge lb.length 4 with g | g
  · have := h.2.2.2
    rw [gt_out (Or.inr (by omega))] at this
    omega
  · exact g
theorem unL_out {T : mk_S} {lb : List Int} (hp : pts lb) (hl : lb.length ≤ 300) (h0 : (unL T lb).2.1 = 0) : pts (unL T lb).1 ∧ (unL T lb).1.length ≤ lb.length ∧ (lb.length ≠ 0 → (unL T lb).1.length ≠ 0) := by
  unfold unL at h0 ⊢
  by_cases hx : pfx lb
  · have h4 := pfx_len hx
    have hd := DE_out (l := lb.drop 4) (pts_iff.2 (fun y hy => pts_iff.1 hp y (List.mem_of_mem_drop hy))) (by rw [List.length_drop]; omega)
    rw [List.length_drop] at hd
    rw [if_neg (not_not_intro hx)] at h0 ⊢
    split at h0
    · exact absurd h0 (by simp)
    · next g1 =>
      rw [if_neg g1]
      split at h0
      · exact absurd h0 (by simp)
      · next g2 =>
        rw [if_neg g2]
        split at h0
        · exact absurd h0 (by simp)
        · next g3 =>
          rw [if_neg g3]
          split at h0
          · exact absurd h0 (by simp)
          · next g4 =>
            rw [if_neg g4]
            refine ⟨hd.1, by simp only []; omega, fun _ => ?_⟩
            intro e
            have e : (DE (lb.drop 4)).1 = [] := List.eq_nil_of_length_eq_zero e
            rw [e] at g2
            exact g2 rfl
  · rw [if_pos hx]
    exact ⟨hp, Nat.le_refl _, fun h => h⟩
theorem lkL_out {T : mk_S} {lb : List Int} (hp : pts lb) (hl : lb.length ≤ 300) (h0 : (lkL T lb).2.1 = 0) : pts (lkL T lb).1 ∧ (lkL T lb).1.length ≤ lb.length := by
  unfold lkL at h0 ⊢
  split
  · exact ⟨pts_nil, Nat.zero_le _⟩
  · next h =>
    rw [if_neg h] at h0
    split
    · next g => rw [if_pos g] at h0; exact absurd h0 g
    · next g =>
      have := unL_out hp hl (Decidable.not_not.1 g)
      exact ⟨this.1, this.2.1⟩
def lbs (σ : mk_S) (ls : List (List Int)) : Prop := rowOK σ 47 300 ls.flatten ∧ σ 46 2 = (ls.length : Int) ∧ ls.length ≤ 301 ∧ ∀ i, i < ls.length → σ 49 i = ((ls.take (i + 1)).flatten.length : Int)
theorem lbs.cf {A : List Nat} {σ σ' : mk_S} {ls : List (List Int)} (h : lbs σ ls) (g : cf A σ σ') (h1 : 46 ∉ A ∧ 47 ∉ A ∧ 48 ∉ A ∧ 49 ∉ A) : lbs σ' ls :=
  ⟨h.1.fr (g 47 h1.2.1) (g 48 h1.2.2.1), by rw [g 46 h1.1]; exact h.2.1, h.2.2.1, fun i hi => by rw [g 49 h1.2.2.2]; exact h.2.2.2 i hi⟩
section LABELS
variable {L : Nat} {T : mk_S} {Q : Option mm_V → mm_H → Prop}
theorem lp_hw {σ : mk_S} {r n b : Nat} {l : List Int} {a1 : mm_V} (hr : isRow L r n) (hl : rowOK σ r n l) (hb : b ≤ l.length) : ∀ (k i : Nat), i + k = b →
    (wdF (sg l i b) = true → Q (some (vI 1)) (hp L σ)) → (wdF (sg l i b) = false → Q (some (vI 0)) (hp L σ)) → mm_X 103 2 [vP r, a1, vI (b : Nat), vI (i : Nat)] [] (hp L σ) Q := by
  intro k
  have h1 := hr.2.2
  have h2 := hl.2.1
  induction k with
  | zero =>
    intro i hi k1 k0
    rw [sg_nil (by omega)] at k0
    refine r_iload_n c_103_2 rfl <| r_iload_n c_103_3 rfl <| r_icmp_ge c_103_4 (fun h4 => ?_) <| (fun h4 => ?_)
    · refine r_iconst c_103_25 <| r_zret c_103_26 (Or.inl rfl) <| ?_
      exact k0 rfl
    · exact absurd h4 (by omega)
  | succ k ih =>
    intro i hi k1 k0
    rw [sg_cons (by omega) hb] at k1 k0
    simp only [wdF] at k1 k0
    refine r_iload_n c_103_2 rfl <| r_iload_n c_103_3 rfl <| r_icmp_ge c_103_4 (fun h4 => ?_) <| (fun h4 => ?_)
    · exact absurd h4 (by omega)
    · refine r_aload_n c_103_7 rfl <| r_iload_n c_103_8 rfl <| r_cV1 c_103_9 hr.1 (Nat.le_of_ble_eq_true rfl) <| ?_
      refine ct_atn hr hl (by omega) ?_
      refine r_bipush c_103_12 <| r_icmp_le c_103_14 (fun h14 => ?_) <| (fun h14 => ?_)
      · refine r_iinc_4_3 c_103_19 rfl (by omega) <| r_goto c_103_22 <| ?_
        rw [if_neg (by omega)] at k1 k0
        exact ih (i + 1) (by omega) k1 k0
      · refine r_iconst c_103_17 <| r_zret c_103_18 (Or.inr rfl) <| ?_
        exact k1 (by rw [if_pos (by omega)])
theorem ct_hw {σ : mk_S} {r n a b : Nat} {l : List Int} (hr : isRow L r n) (hl : rowOK σ r n l) (hb : b ≤ l.length) (hab : a ≤ b) (k1 : wdF (sg l a b) = true → Q (some (vI 1)) (hp L σ)) (k0 : wdF (sg l a b) = false → Q (some (vI 0)) (hp L σ)) : mm_call 103 [vP r, vI (a : Nat), vI (b : Nat)] (hp L σ) Q := by
  refine ⟨Nat.le_of_ble_eq_true rfl, ?_⟩
  show mm_X 103 0 [vP r, vI (a : Nat), vI (b : Nat), mm_null] [] _ _
  refine r_iload_n c_103_0 rfl <| r_istore_n_4_3 c_103_1 rfl <| ?_
  exact lp_hw hr hl hb (b - a) a (by omega) k1 k0
theorem ct_pfx {σ : mk_S} {lb : List Int} (hl : rowOK σ 44 300 lb) (k1 : pfx lb → Q (some (vI 1)) (hp L σ)) (k0 : ¬ pfx lb → Q (some (vI 0)) (hp L σ)) : mm_call 101 [vP 34] (hp L σ) Q := by
  refine ⟨Nat.le_of_ble_eq_true rfl, ?_⟩
  show mm_X 101 0 [vP 34] [] _ _
  refine r_aload_n c_101_0 rfl <| r_getf_a c_101_1 rfl rfl <| r_iconst c_101_4 <| r_cV1 c_101_5 rfl (Nat.le_of_ble_eq_true rfl) <| ?_
  refine ct_at row44 hl _ ?_
  refine r_bipush c_101_8 <| r_icmp_ne c_101_10 (fun h10 => ?_) <| (fun h10 => ?_)
  · refine r_iconst c_101_56 <| r_zret c_101_57 (Or.inl rfl) <| ?_
    first
    | exact k1 ⟨by assumption, by assumption, by assumption, by assumption⟩
    | exact k0 (fun h => absurd h.1 (by assumption))
    | exact k0 (fun h => absurd h.2.1 (by assumption))
    | exact k0 (fun h => absurd h.2.2.1 (by assumption))
    | exact k0 (fun h => absurd h.2.2.2 (by assumption))
  · refine r_aload_n c_101_13 rfl <| r_getf_a c_101_14 rfl rfl <| r_iconst c_101_17 <| r_cV1 c_101_18 rfl (Nat.le_of_ble_eq_true rfl) <| ?_
    refine ct_at row44 hl _ ?_
    refine r_bipush c_101_21 <| r_icmp_ne c_101_23 (fun h23 => ?_) <| (fun h23 => ?_)
    · refine r_iconst c_101_56 <| r_zret c_101_57 (Or.inl rfl) <| ?_
      first
      | exact k1 ⟨by assumption, by assumption, by assumption, by assumption⟩
      | exact k0 (fun h => absurd h.1 (by assumption))
      | exact k0 (fun h => absurd h.2.1 (by assumption))
      | exact k0 (fun h => absurd h.2.2.1 (by assumption))
      | exact k0 (fun h => absurd h.2.2.2 (by assumption))
    · refine r_aload_n c_101_26 rfl <| r_getf_a c_101_27 rfl rfl <| r_iconst c_101_30 <| r_cV1 c_101_31 rfl (Nat.le_of_ble_eq_true rfl) <| ?_
      refine ct_at row44 hl _ ?_
      refine r_bipush c_101_34 <| r_icmp_ne c_101_36 (fun h36 => ?_) <| (fun h36 => ?_)
      · refine r_iconst c_101_56 <| r_zret c_101_57 (Or.inl rfl) <| ?_
        first
        | exact k1 ⟨by assumption, by assumption, by assumption, by assumption⟩
        | exact k0 (fun h => absurd h.1 (by assumption))
        | exact k0 (fun h => absurd h.2.1 (by assumption))
        | exact k0 (fun h => absurd h.2.2.1 (by assumption))
        | exact k0 (fun h => absurd h.2.2.2 (by assumption))
      · refine r_aload_n c_101_39 rfl <| r_getf_a c_101_40 rfl rfl <| r_iconst c_101_43 <| r_cV1 c_101_44 rfl (Nat.le_of_ble_eq_true rfl) <| ?_
        refine ct_at row44 hl _ ?_
        refine r_bipush c_101_47 <| r_icmp_ne c_101_49 (fun h49 => ?_) <| (fun h49 => ?_)
        · refine r_iconst c_101_56 <| r_zret c_101_57 (Or.inl rfl) <| ?_
          first
          | exact k1 ⟨by assumption, by assumption, by assumption, by assumption⟩
          | exact k0 (fun h => absurd h.1 (by assumption))
          | exact k0 (fun h => absurd h.2.1 (by assumption))
          | exact k0 (fun h => absurd h.2.2.1 (by assumption))
          | exact k0 (fun h => absurd h.2.2.2 (by assumption))
        · refine r_iconst c_101_52 <| r_goto c_101_53 <| r_zret c_101_57 (Or.inr rfl) <| ?_
          first
          | exact k1 ⟨by assumption, by assumption, by assumption, by assumption⟩
          | exact k0 (fun h => absurd h.1 (by assumption))
          | exact k0 (fun h => absurd h.2.1 (by assumption))
          | exact k0 (fun h => absurd h.2.2.1 (by assumption))
          | exact k0 (fun h => absurd h.2.2.2 (by assumption))
theorem ct_count {σ : mk_S} (k : Q (some (vI (σ 46 2))) (hp L σ)) : mm_call 102 [vP 46] (hp L σ) Q := by
  refine ⟨Nat.le_of_ble_eq_true rfl, ?_⟩
  show mm_X 102 0 [vP 46] [] _ _
  refine r_aload_n c_102_0 rfl <| r_getf_i c_102_1 rfl rfl <| r_iret c_102_4 <| ?_
  exact k
theorem ct_unl {σ : mk_S} {lb : List Int} {n : Int} (hC : TC σ T) (hO : TOK T) (hl : rowOK σ 44 300 lb) (hpl : pts lb) (hn : σ 46 2 = n)
    (k1 : (unL T lb).2.1 = 0 → ∀ σ', rowOK σ' 44 300 (unL T lb).1 → cf [31, 32, 33, 42, 43, 44, 45] σ σ' → Q (some (vI 1)) (hp L σ'))
    (k0 : (unL T lb).2.1 ≠ 0 → ∀ σ', dF σ' (unL T lb).2.1 n (unL T lb).2.2 → cf [31, 32, 33, 34, 42, 43, 44, 45] σ σ' → Q (some (vI 0)) (hp L σ')) : mm_call 100 [vP 34] (hp L σ) Q := by
  have hll := hl.2.1
  unfold unL at k1 k0
  refine ⟨Nat.le_of_ble_eq_true rfl, ?_⟩
  show mm_X 100 0 [vP 34, mm_null, mm_null, mm_null] [] _ _
  refine r_aload_n c_100_0 rfl <| r_cV0 c_100_1 rfl (Nat.le_of_ble_eq_true rfl) <| ?_
  refine ct_pfx hl (fun hx => ?_) (fun hx => ?_)
  · refine r_if_ne c_100_4 (fun _ => ?_) <| (fun h => absurd h (by decide))
    rw [if_neg (not_not_intro hx)] at k1 k0
    have h4 := pfx_len hx
    have hdl : (lb.drop 4).length = lb.length - 4 := List.length_drop
    have hd := DE_out (l := lb.drop 4) (pts_iff.2 (fun y hy => pts_iff.1 hpl y (List.mem_of_mem_drop hy))) (by omega)
    generalize hD : DE (lb.drop 4) = D at *
    refine r_aload_n c_100_9 rfl <| r_getf_a c_100_10 rfl rfl <| r_cV0 c_100_13 rfl (Nat.le_of_ble_eq_true rfl) <| ?_
    refine ct_count ?_; rw [hn]
    refine r_istore_n_4_1 c_100_16 rfl <| r_aload_n c_100_17 rfl <| r_getf_a c_100_18 rfl rfl <| r_iconst c_100_21 <| r_aload_n c_100_22 rfl <| r_getf_a c_100_23 rfl rfl <| r_cS3 c_100_26 (Nat.le_of_ble_eq_true rfl) <| ?_
    refine ct_unfold (a := 4) row44 row42 (by decide) h4 (by omega) hpl hl (fun σ1 g1 hf1 => ?_)
    rw [hD] at g1 ⊢
    have hl1 := hl.fr2 hf1 (by decide)
    have hC1 := hC.cf (hf1.cf (A := [42, 43]) (by decide) (by decide)) (by decide)
    have c1 : cf [31, 32, 33, 42, 43, 44, 45] σ σ1 := hf1.cf (by decide) (by decide)
    refine r_istore_n_4_2 c_100_29 rfl <| r_iload_n c_100_30 rfl <| r_iconst c_100_31 <| r_icmp_eq c_100_32 (fun h32 => ?_) <| (fun h32 => ?_)
    · rw [if_neg (not_not_intro (by assumption))] at k1 k0
      have g1 := g1 (by assumption)
      have esg : sg D.1 0 D.1.length = D.1 := sg_all
      refine r_aload_n c_100_46 rfl <| r_getf_a c_100_47 rfl rfl <| r_iconst c_100_50 <| r_aload_n c_100_51 rfl <| r_getf_a c_100_52 rfl rfl <| r_cV0 c_100_55 rfl (Nat.le_of_ble_eq_true rfl) <| ?_
      refine ct_size row42 g1 ?_
      refine r_cS3 c_100_58 (Nat.le_of_ble_eq_true rfl) <| ?_
      refine ct_hw (a := 0) (b := D.1.length) row42 g1 (Nat.le_refl _) (Nat.zero_le _) (fun hw => ?_) (fun hw => ?_)
      · refine r_if_ne c_100_61 (fun _ => ?_) <| (fun h => absurd h (by decide))
        rw [esg] at hw
        rw [if_neg (by rw [hw]; decide)] at k1 k0
        refine r_aload_n c_100_73 rfl <| r_getf_a c_100_74 rfl rfl <| r_aload_n c_100_77 rfl <| r_getf_a c_100_78 rfl rfl <| r_cV1 c_100_81 rfl (Nat.le_of_ble_eq_true rfl) <| ?_
        refine ct_become row44 row42 (by decide) g1 (by omega) (fun σ2 hl2 hf2 => ?_)
        have hC2 := hC1.cf (hf2.cf (A := [44, 45]) (by decide) (by decide)) (by decide)
        have c2 : cf [31, 32, 33, 42, 43, 44, 45] σ σ2 := c1.tr (hf2.cf (by decide) (by decide))
        refine r_aload_n c_100_84 rfl <| r_getf_a c_100_85 rfl rfl <| r_aload_n c_100_88 rfl <| r_getf_a c_100_89 rfl rfl <| r_aload_n c_100_92 rfl <| r_getf_a c_100_93 rfl rfl <| r_cV2 c_100_96 rfl (Nat.le_of_ble_eq_true rfl) <| ?_
        refine ct_form hC2 hO row44 row42 (Or.inr (by decide)) (Or.inr (by decide)) (by decide) hl2 (fun hlen σ3 hl3 hf3 => ?_) (fun hlen σ3 hf3 => ?_)
        · refine r_if_ne c_100_99 (fun _ => ?_) <| (fun h => absurd h (by decide))
          rw [if_neg (by omega)] at k1 k0
          have hl2' := hl2.cf hf3 (by decide) (by decide)
          refine r_aload_n c_100_111 rfl <| r_getf_a c_100_112 rfl rfl <| r_aload_n c_100_115 rfl <| r_getf_a c_100_116 rfl rfl <| r_cV1 c_100_119 rfl (Nat.le_of_ble_eq_true rfl) <| ?_
          refine ct_fd row44 row42 hl2' hl3 ?_
          refine r_istore_n_4_3 c_100_122 rfl <| r_iload_n c_100_123 rfl <| r_if_lt c_100_124 (fun h124 => ?_) <| (fun h124 => ?_)
          · refine r_iconst c_100_138 <| r_goto c_100_139 <| r_zret c_100_143 (Or.inr rfl) <| ?_
            first
            | (rw [if_neg (by omega)] at k1
               exact k1 rfl σ3 hl2' (c2.tr (hf3.up (by decide))))
            | exact absurd rfl (by assumption)
            | (rw [if_pos (by omega)] at k0
               exact k0 (by simp) σ4 hd4 (((c2.up (by decide)).tr (hf3.up (by decide))).tr (hf4.up (by decide))))
          · refine r_aload_n c_100_127 rfl <| r_bipush c_100_128 <| r_iload_n c_100_130 rfl <| r_iload_n c_100_131 rfl <| r_cV3 c_100_132 rfl (Nat.le_of_ble_eq_true rfl) <| ?_
            refine ct_fail _ _ _ (fun σ4 hd4 hf4 => ?_)
            refine r_if_eq c_100_135 (fun h135 => ?_) <| (fun h135 => ?_)
            · refine r_iconst c_100_142 <| r_zret c_100_143 (Or.inl rfl) <| ?_
              first
              | (rw [if_neg (by omega)] at k1
                 exact k1 rfl σ3 hl2' (c2.tr (hf3.up (by decide))))
              | exact absurd rfl (by assumption)
              | (rw [if_pos (by omega)] at k0
                 exact k0 (by simp) σ4 hd4 (((c2.up (by decide)).tr (hf3.up (by decide))).tr (hf4.up (by decide))))
            · refine r_iconst c_100_138 <| r_goto c_100_139 <| r_zret c_100_143 (Or.inr rfl) <| ?_
              first
              | (rw [if_neg (by omega)] at k1
                 exact k1 rfl σ3 hl2' (c2.tr (hf3.up (by decide))))
              | exact absurd rfl (by assumption)
              | (rw [if_pos (by omega)] at k0
                 exact k0 (by simp) σ4 hd4 (((c2.up (by decide)).tr (hf3.up (by decide))).tr (hf4.up (by decide))))
        · refine r_if_ne c_100_99 (fun h => absurd h (by decide)) <| (fun _ => ?_)
          refine r_aload_n c_100_102 rfl <| r_bipush c_100_103 <| r_iload_n c_100_105 rfl <| r_iconst c_100_106 <| r_cV3 c_100_107 rfl (Nat.le_of_ble_eq_true rfl) <| ?_
          refine ct_fail _ _ _ (fun σ4 hd4 hf4 => ?_)
          refine r_zret c_100_110 (by omega) <| ?_
          rw [if_pos hlen] at k0
          exact k0 (by simp) σ4 hd4 (((c2.up (by decide)).tr (hf3.up (by decide))).tr (hf4.up (by decide)))
      · refine r_if_ne c_100_61 (fun h => absurd h (by decide)) <| (fun _ => ?_)
        refine r_aload_n c_100_64 rfl <| r_bipush c_100_65 <| r_iload_n c_100_67 rfl <| r_iconst c_100_68 <| r_cV3 c_100_69 rfl (Nat.le_of_ble_eq_true rfl) <| ?_
        refine ct_fail _ _ _ (fun σ2 hd2 hf2 => ?_)
        refine r_zret c_100_72 (by omega) <| ?_
        rw [esg] at hw
        rw [if_pos hw] at k0
        exact k0 (by simp) σ2 hd2 ((c1.up (by decide)).tr (hf2.up (by decide)))
    · refine r_aload_n c_100_35 rfl <| r_bipush c_100_36 <| r_iload_n c_100_38 rfl <| r_iconst c_100_39 <| r_iload_n c_100_40 rfl <| r_iadd c_100_41 (by omega) <| r_cV3 c_100_42 rfl (Nat.le_of_ble_eq_true rfl) <| ?_
      refine ct_fail _ _ _ (fun σ2 hd2 hf2 => ?_)
      refine r_zret c_100_45 (by omega) <| ?_
      rw [if_pos (by assumption)] at k0
      exact k0 (by simp) σ2 hd2 ((c1.up (by decide)).tr (hf2.up (by decide)))
  · refine r_if_ne c_100_4 (fun h => absurd h (by decide)) <| (fun _ => ?_)
    refine r_iconst c_100_7 <| r_zret c_100_8 (Or.inr rfl) <| ?_
    rw [if_pos hx] at k1
    exact k1 rfl σ hl cf.rf
theorem ct_place {σ : mk_S} (k : Q (some (vI (σ 35 5))) (hp L σ)) : mm_call 110 [vP 35] (hp L σ) Q := by
  refine ⟨Nat.le_of_ble_eq_true rfl, ?_⟩
  show mm_X 110 0 [vP 35] [] _ _
  refine r_aload_n c_110_0 rfl <| r_getf_i c_110_1 rfl rfl <| r_iret c_110_4 <| ?_
  exact k
theorem ct_fr {σ : mk_S} {lb : List Int} {n : Int} (hC : TC σ T) (hO : TOK T) (hl : rowOK σ 44 300 lb) (hn : σ 46 2 = n)
    (k1 : (ruL T lb).1 = 0 → ∀ σ', cf [35, 36, 37] σ σ' → Q (some (vI 1)) (hp L σ'))
    (k0 : (ruL T lb).1 ≠ 0 → ∀ σ', dF σ' (ruL T lb).1 n (ruL T lb).2 → cf [34, 35, 36, 37] σ σ' → Q (some (vI 0)) (hp L σ')) : mm_call 104 [vP 34] (hp L σ) Q := by
  refine ⟨Nat.le_of_ble_eq_true rfl, ?_⟩
  show mm_X 104 0 [vP 34, mm_null] [] _ _
  refine r_aload_n c_104_0 rfl <| r_getf_a c_104_1 rfl rfl <| r_aload_n c_104_4 rfl <| r_getf_a c_104_5 rfl rfl <| r_cV1 c_104_8 rfl (Nat.le_of_ble_eq_true rfl) <| ?_
  refine ct_look hC hO hl (fun σ1 g1 hf1 => ?_)
  refine r_istore_n_2_1 c_104_11 rfl <| r_iload_n c_104_12 rfl <| r_if_eq c_104_13 (fun h13 => ?_) <| (fun h13 => ?_)
  · refine r_iconst c_104_38 <| r_goto c_104_39 <| r_zret c_104_43 (Or.inr rfl) <| ?_
    first
    | exact k1 (by assumption) σ1 (hf1.up (by decide))
    | exact k0 (by assumption) σ2 hd2 ((hf1.up (by decide)).tr (hf2.up (by decide)))
    | exact absurd rfl (by assumption)
  · refine r_aload_n c_104_16 rfl <| r_iload_n c_104_17 rfl <| r_aload_n c_104_18 rfl <| r_getf_a c_104_19 rfl rfl <| r_cV0 c_104_22 rfl (Nat.le_of_ble_eq_true rfl) <| ?_
    refine ct_count ?_; rw [hf1 46 (by decide), hn]
    refine r_aload_n c_104_25 rfl <| r_getf_a c_104_26 rfl rfl <| r_cV0 c_104_29 rfl (Nat.le_of_ble_eq_true rfl) <| ?_
    refine ct_place ?_; rw [g1 (by assumption)]
    refine r_cV3 c_104_32 rfl (Nat.le_of_ble_eq_true rfl) <| ?_
    refine ct_fail _ _ _ (fun σ2 hd2 hf2 => ?_)
    refine r_if_eq c_104_35 (fun h35 => ?_) <| (fun h35 => ?_)
    · refine r_iconst c_104_42 <| r_zret c_104_43 (Or.inl rfl) <| ?_
      first
      | exact k1 (by assumption) σ1 (hf1.up (by decide))
      | exact k0 (by assumption) σ2 hd2 ((hf1.up (by decide)).tr (hf2.up (by decide)))
      | exact absurd rfl (by assumption)
    · refine r_iconst c_104_38 <| r_goto c_104_39 <| r_zret c_104_43 (Or.inr rfl) <| ?_
      first
      | exact k1 (by assumption) σ1 (hf1.up (by decide))
      | exact k0 (by assumption) σ2 hd2 ((hf1.up (by decide)).tr (hf2.up (by decide)))
      | exact absurd rfl (by assumption)
theorem ct_lapp {σ : mk_S} {ls : List (List Int)} {lb : List Int} (hl : rowOK σ 44 300 lb) (hs : lbs σ ls) (hn : ls.length ≤ 300) (hle : ls.flatten.length + lb.length ≤ 300) (k : ∀ σ', lbs σ' (ls ++ [lb]) → cf [46, 47, 48, 49] σ σ' → Q none (hp L σ')) : mm_call 111 [vP 46, vP 44] (hp L σ) Q := by
  obtain ⟨h1, h2, h3, h4⟩ := hs
  have ef : (ls ++ [lb]).flatten = ls.flatten ++ sg lb 0 lb.length := by rw [sg_all, List.flatten_append]; simp
  refine ⟨Nat.le_of_ble_eq_true rfl, ?_⟩
  show mm_X 111 0 [vP 46, vP 44] [] _ _
  refine r_aload_n c_111_0 rfl <| r_getf_i c_111_1 rfl rfl <| r_aload_n c_111_4 rfl <| r_getf_a c_111_5 rfl rfl <| r_alen c_111_8 rfl (by decide) (by decide) <| r_icmp_ge c_111_9 (fun h9 => ?_) <| (fun h9 => ?_)
  · refine r_ret c_111_54 <| ?_
    first
    | exact absurd hgt (by omega)
    | exact absurd h9 (by omega)
    | (refine k _ ⟨?_, ?_, ?_, ?_⟩ (((hf1.cf (by decide) (by decide)).sto (by decide)).sto (by decide))
       · rw [ef]
         exact hl1.fr (by rw [sto_ne (by decide), sto_ne (by decide)]) (by rw [sto_ne (by decide), sto_ne (by decide)])
       · rw [sto_get, List.length_append]; simp
       · rw [List.length_append]; simp; omega
       · intro i hi
         rw [List.length_append] at hi
         simp at hi
         rw [sto_ne (by decide), sto_at]
         by_cases e : i = ls.length
         · subst e
           rw [st_at, List.take_of_length_le (by simp), ef]
         · rw [st_ne e, hf1 49 (by decide) (by decide), h4 i (by omega), List.take_append_of_le_length (by omega)])
  · refine r_aload_n c_111_12 rfl <| r_getf_a c_111_13 rfl rfl <| r_aload_n c_111_16 rfl <| r_iconst c_111_17 <| r_aload_n c_111_18 rfl <| r_cV0 c_111_19 rfl (Nat.le_of_ble_eq_true rfl) <| ?_
    refine ct_size row44 hl ?_
    refine r_cV3 c_111_22 rfl (Nat.le_of_ble_eq_true rfl) <| ?_
    refine ct_appendFrom (a := 0) (b := lb.length) row47 row44 (by decide) h1 hl (Nat.zero_le _) (Nat.le_refl _) (fun hlt σ1 hl1 hf1 => ?_) (fun hgt σ1 hl1 hf1 => ?_)
    · refine r_if_eq c_111_25 (fun h => absurd h (by decide)) <| (fun _ => ?_)
      refine r_aload_n c_111_28 rfl <| r_getf_a c_111_29 rfl rfl <| r_aload_n c_111_32 rfl <| r_getf_i c_111_33 rfl rfl <| ?_
      rw [hf1 46 (by decide) (by decide), h2]
      refine r_aload_n c_111_36 rfl <| r_getf_a c_111_37 rfl rfl <| r_cV0 c_111_40 rfl (Nat.le_of_ble_eq_true rfl) <| ?_
      refine ct_size row47 hl1 ?_
      refine r_iast c_111_43 rfl (jn := ls.length) (by omega) (by omega) <| r_aload_n c_111_44 rfl <| r_dup c_111_45 rfl <| r_getf_i c_111_46 rfl rfl <| ?_
      rw [sto_ne (by decide), hf1 46 (by decide) (by decide), h2]
      refine r_iconst c_111_49 <| r_iadd c_111_50 (by omega) <| r_putf c_111_51 rfl rfl <| r_ret c_111_54 <| ?_
      first
      | exact absurd hgt (by omega)
      | exact absurd h9 (by omega)
      | (refine k _ ⟨?_, ?_, ?_, ?_⟩ (((hf1.cf (by decide) (by decide)).sto (by decide)).sto (by decide))
         · rw [ef]
           exact hl1.fr (by rw [sto_ne (by decide), sto_ne (by decide)]) (by rw [sto_ne (by decide), sto_ne (by decide)])
         · rw [sto_get, List.length_append]; simp
         · rw [List.length_append]; simp; omega
         · intro i hi
           rw [List.length_append] at hi
           simp at hi
           rw [sto_ne (by decide), sto_at]
           by_cases e : i = ls.length
           · subst e
             rw [st_at, List.take_of_length_le (by simp), ef]
           · rw [st_ne e, hf1 49 (by decide) (by decide), h4 i (by omega), List.take_append_of_le_length (by omega)])
    · refine r_if_eq c_111_25 (fun _ => ?_) <| (fun h => absurd h (by decide))
      refine r_ret c_111_54 <| ?_
      first
      | exact absurd hgt (by omega)
      | exact absurd h9 (by omega)
      | (refine k _ ⟨?_, ?_, ?_, ?_⟩ (((hf1.cf (by decide) (by decide)).sto (by decide)).sto (by decide))
         · rw [ef]
           exact hl1.fr (by rw [sto_ne (by decide), sto_ne (by decide)]) (by rw [sto_ne (by decide), sto_ne (by decide)])
         · rw [sto_get, List.length_append]; simp
         · rw [List.length_append]; simp; omega
         · intro i hi
           rw [List.length_append] at hi
           simp at hi
           rw [sto_ne (by decide), sto_at]
           by_cases e : i = ls.length
           · subst e
             rw [st_at, List.take_of_length_le (by simp), ef]
           · rw [st_ne e, hf1 49 (by decide) (by decide), h4 i (by omega), List.take_append_of_le_length (by omega)])
end LABELS
