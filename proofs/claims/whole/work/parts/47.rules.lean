/-! MAKE: the rules for one label. What they are, and the class's side. -/
def lvF (J : List Int) : Nat → Int
  | 0 => 0
  | k + 1 => if J.getD k 0 = 4 then lvF J k else J.getD k 0
def rvF : List Int → Int
  | [] => 0
  | v :: vs => if v = 4 then rvF vs else v
def jnL (T : mk_S) (lb : List Int) : List Int := lb.map (rgO T 2)
abbrev btw (J : List Int) (i : Nat) : Prop := (lvF J i = 1 ∨ lvF J i = 3) ∧ (rvF (J.drop (i + 1)) = 2 ∨ rvF (J.drop (i + 1)) = 3)
abbrev fitP (T : mk_S) (lb : List Int) (i : Nat) : Prop := (0 < i ∧ rkO T (lb.getD (i - 1) 0) = 9) ∨ (lb.getD i 0 ≠ 8205 ∧ btw (jnL T lb) i)
def joF (T : mk_S) (lb : List Int) : Nat → Nat → Int
  | 0, _ => -1
  | k + 1, i => if (lb.getD i 0 = 8204 ∨ lb.getD i 0 = 8205) ∧ ¬ fitP T lb i then i else joF T lb k (i + 1)
def badF (T : mk_S) : List Int → Nat → Int
  | [], _ => -1
  | p :: ps, i => if p = 46 ∨ stO T p ≠ 0 then i else badF T ps (i + 1)
def ruL (T : mk_S) (lb : List Int) : Int × Int :=
  if gt lb 2 = 45 ∧ gt lb 3 = 45 then (41, 2)
  else if gt lb 0 = 45 then (42, 0)
  else if gt lb ((lb.length : Int) - 1) = 45 then (42, (lb.length : Int) - 1)
  else if rgO T 0 (gt lb 0) = 1 then (43, 0)
  else if 0 ≤ badF T lb 0 then (44, badF T lb 0)
  else if 0 ≤ joF T lb lb.length 0 then (45, joF T lb lb.length 0)
  else (0, 0)
theorem gd_map {l : List Int} {f : Int → Int} {i : Nat} (h : i < l.length) : (l.map f).getD i 0 = f (l.getD i 0) := by
  rw [List.getD_eq_getElem?_getD, List.getD_eq_getElem?_getD, List.getElem?_map, List.getElem?_eq_getElem h]; rfl
theorem jnL_len (T : mk_S) (lb : List Int) : (jnL T lb).length = lb.length := List.length_map ..
section RULES
variable {L : Nat} {T : mk_S} {Q : Option mm_V → mm_H → Prop}
theorem lp_sl {J : List Int} {σ : mk_S} {i : Nat} {a3 : mm_V} (hJ : rowOK σ 36 300 J) (hi : i ≤ J.length) : ∀ (n : Nat), n ≤ i → lvF J i = lvF J n →
    (∀ r : Int, -1 ≤ r → r < i → lvF J i = (if r < 0 then 0 else gt J r) → mm_X 108 26 [vP 35, vI (i : Nat), vI r, a3] [] (hp L σ) Q) →
    mm_X 108 4 [vP 35, vI (i : Nat), vI ((n : Int) - 1), a3] [] (hp L σ) Q := by
  intro n
  have hJl := hJ.2.1
  induction n with
  | zero =>
    intro h1 h2 kk
    refine r_iload_n c_108_4 rfl <| r_if_lt c_108_5 (fun h5 => ?_) <| (fun h5 => ?_)
    · exact kk _ (by omega) (by omega) (by rw [h2, if_pos (by omega)]; rfl)
    · exact absurd h5 (by omega)
  | succ n ih =>
    intro h1 h2 kk
    simp only [lvF] at h2
    have hg := gt_nat (l := J) (j := n) (by omega)
    rw [show (((n + 1 : Nat) : Int) - 1) = (n : Int) by omega]
    refine r_iload_n c_108_4 rfl <| r_if_lt c_108_5 (fun h5 => ?_) <| (fun h5 => ?_)
    · first
      | exact absurd h5 (by omega)
      | (rw [if_neg h17] at h2
         exact kk n (by omega) (by omega) (by rw [h2, if_neg (by omega), hg]))
    · refine r_aload_n c_108_8 rfl <| r_getf_a c_108_9 rfl rfl <| r_iload_n c_108_12 rfl <| r_cV1 c_108_13 rfl (Nat.le_of_ble_eq_true rfl) <| ?_
      refine ct_atn row36 hJ (by omega) ?_
      refine r_iconst c_108_16 <| r_icmp_ne c_108_17 (fun h17 => ?_) <| (fun h17 => ?_)
      · first
        | exact absurd h5 (by omega)
        | (rw [if_neg h17] at h2
           exact kk n (by omega) (by omega) (by rw [h2, if_neg (by omega), hg]))
      · refine r_iinc_4_2 c_108_20 rfl (by omega) <| r_goto c_108_23 <| ?_
        rw [if_pos h17] at h2
        exact ih (by omega) h2 kk
theorem lp_sr {J : List Int} {σ : mk_S} {i : Nat} {a2 : Int} (hJ : rowOK σ 36 300 J) : ∀ (k n : Nat), n + k = J.length → rvF (J.drop (i + 1)) = rvF (J.drop n) →
    (∀ r : Int, (r = J.length ∨ 0 ≤ r) → rvF (J.drop (i + 1)) = (if r = J.length then 0 else gt J r) → mm_X 108 59 [vP 35, vI (i : Nat), vI a2, vI r] [] (hp L σ) Q) →
    mm_X 108 30 [vP 35, vI (i : Nat), vI a2, vI (n : Nat)] [] (hp L σ) Q := by
  intro k
  have hJl := hJ.2.1
  induction k with
  | zero =>
    intro n h1 h2 kk
    have en : n = J.length := by omega
    subst en
    rw [List.drop_length] at h2
    refine r_iload_n c_108_30 rfl <| r_aload_n c_108_31 rfl <| r_getf_a c_108_32 rfl rfl <| r_cV0 c_108_35 rfl (Nat.le_of_ble_eq_true rfl) <| ?_
    refine ct_size row36 hJ ?_
    refine r_icmp_ge c_108_38 (fun h38 => ?_) <| (fun h38 => ?_)
    · exact kk _ (Or.inl rfl) (by rw [h2, if_pos rfl]; rfl)
    · exact absurd h38 (by omega)
  | succ k ih =>
    intro n h1 h2 kk
    rw [drop_at (by omega : n < J.length)] at h2
    simp only [rvF] at h2
    have hg := gt_nat (l := J) (j := n) (by omega)
    refine r_iload_n c_108_30 rfl <| r_aload_n c_108_31 rfl <| r_getf_a c_108_32 rfl rfl <| r_cV0 c_108_35 rfl (Nat.le_of_ble_eq_true rfl) <| ?_
    refine ct_size row36 hJ ?_
    refine r_icmp_ge c_108_38 (fun h38 => ?_) <| (fun h38 => ?_)
    · first
      | exact absurd h38 (by omega)
      | (rw [if_neg h50] at h2
         exact kk n (Or.inr (by omega)) (by rw [h2, if_neg (by omega), hg]))
    · refine r_aload_n c_108_41 rfl <| r_getf_a c_108_42 rfl rfl <| r_iload_n c_108_45 rfl <| r_cV1 c_108_46 rfl (Nat.le_of_ble_eq_true rfl) <| ?_
      refine ct_atn row36 hJ (by omega) ?_
      refine r_iconst c_108_49 <| r_icmp_ne c_108_50 (fun h50 => ?_) <| (fun h50 => ?_)
      · first
        | exact absurd h38 (by omega)
        | (rw [if_neg h50] at h2
           exact kk n (Or.inr (by omega)) (by rw [h2, if_neg (by omega), hg]))
      · refine r_iinc_4_3 c_108_53 rfl (by omega) <| r_goto c_108_56 <| ?_
        rw [if_pos h50] at h2
        exact ih (n + 1) (by omega) h2 kk
theorem ct_btw {σ : mk_S} {J : List Int} {i : Nat} (hJ : rowOK σ 36 300 J) (hi : i < J.length) (k1 : btw J i → Q (some (vI 1)) (hp L σ)) (k0 : ¬ btw J i → Q (some (vI 0)) (hp L σ)) : mm_call 108 [vP 35, vI (i : Nat)] (hp L σ) Q := by
  have hJl := hJ.2.1
  unfold btw at k1 k0
  refine ⟨Nat.le_of_ble_eq_true rfl, ?_⟩
  show mm_X 108 0 [vP 35, vI (i : Nat), mm_null, mm_null] [] _ _
  refine r_iload_n c_108_0 rfl <| r_iconst c_108_1 <| r_isub c_108_2 (by omega) <| r_istore_n_4_2 c_108_3 rfl <| ?_
  refine lp_sl hJ (by omega) i (Nat.le_refl _) rfl (fun r r1 r2 r3 => ?_)
  refine r_iload_n c_108_26 rfl <| r_iconst c_108_27 <| r_iadd c_108_28 (by omega) <| r_istore_n_4_3 c_108_29 rfl <| ?_
  refine lp_sr hJ (J.length - (i + 1)) (i + 1) (by omega) rfl (fun q q1 q2 => ?_)
  have hr0 : r < 0 → gt J r = -1 := fun h => gt_out (Or.inl h)
  have hq0 : q = J.length → gt J q = -1 := fun h => gt_out (Or.inr (by omega))
  generalize lvF J i = x at *
  generalize rvF (J.drop (i + 1)) = y at *
  have hx : x = 1 ∨ x = 3 ↔ gt J r = 1 ∨ gt J r = 3 := by
    rw [r3]; split
    · next h => rw [hr0 h]; omega
    · exact Iff.rfl
  have hy : y = 2 ∨ y = 3 ↔ gt J q = 2 ∨ gt J q = 3 := by
    rw [q2]; split
    · next h => rw [hq0 h]; omega
    · exact Iff.rfl
  refine r_aload_n c_108_59 rfl <| r_getf_a c_108_60 rfl rfl <| r_iload_n c_108_63 rfl <| r_cV1 c_108_64 rfl (Nat.le_of_ble_eq_true rfl) <| ?_
  refine ct_at row36 hJ r ?_
  refine r_iconst c_108_67 <| r_cS2 c_108_68 (Nat.le_of_ble_eq_true rfl) <| ?_
  refine ct_joins _ _ (fun j1 => ?_) (fun j1 => ?_)
  · refine r_if_eq c_108_71 (fun h => absurd h (by decide)) <| (fun _ => ?_)
    refine r_aload_n c_108_74 rfl <| r_getf_a c_108_75 rfl rfl <| r_iload_n c_108_78 rfl <| r_cV1 c_108_79 rfl (Nat.le_of_ble_eq_true rfl) <| ?_
    refine ct_at row36 hJ q ?_
    refine r_iconst c_108_82 <| r_cS2 c_108_83 (Nat.le_of_ble_eq_true rfl) <| ?_
    refine ct_joins _ _ (fun j2 => ?_) (fun j2 => ?_)
    · refine r_if_eq c_108_86 (fun h => absurd h (by decide)) <| (fun _ => ?_)
      refine r_iconst c_108_89 <| r_goto c_108_90 <| r_zret c_108_94 (Or.inr rfl) <| ?_
      first
      | exact k1 ⟨hx.2 j1, hy.2 j2⟩
      | exact k0 (fun h => j2 (hy.1 h.2))
      | exact k0 (fun h => j1 (hx.1 h.1))
    · refine r_if_eq c_108_86 (fun _ => ?_) <| (fun h => absurd h (by decide))
      refine r_iconst c_108_93 <| r_zret c_108_94 (Or.inl rfl) <| ?_
      first
      | exact k1 ⟨hx.2 j1, hy.2 j2⟩
      | exact k0 (fun h => j2 (hy.1 h.2))
      | exact k0 (fun h => j1 (hx.1 h.1))
  · refine r_if_eq c_108_71 (fun _ => ?_) <| (fun h => absurd h (by decide))
    refine r_iconst c_108_93 <| r_zret c_108_94 (Or.inl rfl) <| ?_
    first
    | exact k1 ⟨hx.2 j1, hy.2 j2⟩
    | exact k0 (fun h => j2 (hy.1 h.2))
    | exact k0 (fun h => j1 (hx.1 h.1))
theorem ct_found {σ : mk_S} (f p : Int) (k : ∀ σ', σ' 35 5 = p → cf [35] σ σ' → Q (some (vI f)) (hp L σ')) : mm_call 106 [vP 35, vI f, vI p] (hp L σ) Q := by
  refine ⟨Nat.le_of_ble_eq_true rfl, ?_⟩
  show mm_X 106 0 [vP 35, vI f, vI p] [] _ _
  refine r_aload_n c_106_0 rfl <| r_iload_n c_106_1 rfl <| r_putf c_106_2 rfl rfl <| r_iload_n c_106_5 rfl <| r_iret c_106_6 <| ?_
  exact k _ (sto_get _ _ _ _) (cf.rf.sto (by decide))
theorem lp_jr {lb : List Int} {i : Nat} {a3 : mm_V} {v4 : Int} (hO : TOK T) (hlb : lb.length ≤ 300) : ∀ (k m : Nat) (σ : mk_S) (Q : Option mm_V → mm_H → Prop), m + k = lb.length → TC σ T → rowOK σ 44 300 lb → rowOK σ 36 300 ((jnL T lb).take m) →
    (∀ σ' a5, rowOK σ' 36 300 (jnL T lb) → fr2 36 σ σ' → mm_X 107 114 [vP 35, vP 44, vI (i : Nat), a3, vI v4, a5] [] (hp L σ') Q) →
    mm_X 107 77 [vP 35, vP 44, vI (i : Nat), a3, vI v4, vI (m : Nat)] [] (hp L σ) Q := by
  intro k
  have hjl := jnL_len T lb
  induction k with
  | zero =>
    intro m σ Q hm hC hl hJ kk
    have em : m = (jnL T lb).length := by omega
    subst em
    rw [List.take_length] at hJ
    refine r_iload c_107_77 rfl <| r_aload_n c_107_79 rfl <| r_cV0 c_107_80 rfl (Nat.le_of_ble_eq_true rfl) <| ?_
    refine ct_size row44 hl ?_
    refine r_icmp_ge c_107_83 (fun h83 => ?_) <| (fun h83 => ?_)
    · exact kk σ _ hJ fr2.rf
    · exact absurd h83 (by omega)
  | succ k ih =>
    intro m σ Q hm hC hl hJ kk
    have htl : ((jnL T lb).take m).length = m := by rw [List.length_take]; omega
    refine r_iload c_107_77 rfl <| r_aload_n c_107_79 rfl <| r_cV0 c_107_80 rfl (Nat.le_of_ble_eq_true rfl) <| ?_
    refine ct_size row44 hl ?_
    refine r_icmp_ge c_107_83 (fun h83 => ?_) <| (fun h83 => ?_)
    · exact absurd h83 (by omega)
    · refine r_aload_n c_107_86 rfl <| r_getf_a c_107_87 rfl rfl <| r_aload_n c_107_90 rfl <| r_getf_a c_107_91 rfl rfl <| r_iconst c_107_94 <| r_aload_n c_107_95 rfl <| r_iload c_107_96 rfl <| r_cV1 c_107_98 rfl (Nat.le_of_ble_eq_true rfl) <| ?_
      refine ct_atn row44 hl (by omega) ?_
      refine r_cV2 c_107_101 rfl (Nat.le_of_ble_eq_true rfl) <| ?_
      refine ct_range hC hO _ _ ?_
      refine r_cV1 c_107_104 rfl (Nat.le_of_ble_eq_true rfl) <| ?_
      refine ct_append row36 hJ _ (fun hlt σ1 hl1 hf1 => ?_) (fun hfull => ?_)
      · refine r_pop c_107_107 (v := vI _) rfl <| r_iinc_6_5 c_107_108 rfl (by omega) <| r_goto c_107_111 <| ?_
        first
        | exact absurd hfull (by omega)
        | (refine ih (m + 1) σ1 Q (by omega) (hC.cf (hf1.cf (A := [36, 37]) (by decide) (by decide)) (by decide)) (hl.fr2 hf1 (by decide)) ?_ (fun σ2 a5 w2 w3 => kk σ2 a5 w2 (hf1.tr w3))
           have et : (jnL T lb).take (m + 1) = (jnL T lb).take m ++ [rgO T 2 (lb.getD m 0)] := by
             rw [← gd_map (f := rgO T 2) (by omega : m < lb.length)]
             rw [List.take_succ, List.getElem?_eq_getElem (by omega)]
             rw [List.getD_eq_getElem?_getD, List.getElem?_eq_getElem (by rw [List.length_map]; omega)]
             rfl
           rw [et]; exact hl1)
      · refine r_pop c_107_107 (v := vI _) rfl <| r_iinc_6_5 c_107_108 rfl (by omega) <| r_goto c_107_111 <| ?_
        first
        | exact absurd hfull (by omega)
        | (refine ih (m + 1) σ1 Q (by omega) (hC.cf (hf1.cf (A := [36, 37]) (by decide) (by decide)) (by decide)) (hl.fr2 hf1 (by decide)) ?_ (fun σ2 a5 w2 w3 => kk σ2 a5 w2 (hf1.tr w3))
           have et : (jnL T lb).take (m + 1) = (jnL T lb).take m ++ [rgO T 2 (lb.getD m 0)] := by
             rw [← gd_map (f := rgO T 2) (by omega : m < lb.length)]
             rw [List.take_succ, List.getElem?_eq_getElem (by omega)]
             rw [List.getD_eq_getElem?_getD, List.getElem?_eq_getElem (by rw [List.length_map]; omega)]
             rfl
           rw [et]; exact hl1)
theorem lp_laj {lb : List Int} {R : Int} (hO : TOK T) (hlb : lb.length ≤ 300) : ∀ (k i m : Nat) (a3 a4 a5 : mm_V) (σ : mk_S) (Q : Option mm_V → mm_H → Prop), i + k = lb.length → TC σ T → rowOK σ 44 300 lb → rowOK σ 36 300 ((jnL T lb).take m) → m ≤ lb.length → R = joF T lb k i →
    (∀ σ', (0 ≤ R → σ' 35 5 = R) → cf [35, 36, 37] σ σ' → Q (some (vI (if 0 ≤ R then 45 else 0))) (hp L σ')) →
    mm_X 107 9 [vP 35, vP 44, vI (i : Nat), a3, a4, a5] [] (hp L σ) Q := by
  intro k
  have hjl := jnL_len T lb
  induction k with
  | zero =>
    intro i m a3 a4 a5 σ Q hi hC hl hJ hm hR kk
    simp only [joF] at hR
    have kk := kk σ (fun h => absurd h (by omega)) cf.rf
    rw [if_neg (by omega)] at kk
    refine r_iload_n c_107_9 rfl <| r_aload_n c_107_10 rfl <| r_cV0 c_107_11 rfl (Nat.le_of_ble_eq_true rfl) <| ?_
    refine ct_size row44 hl ?_
    refine r_icmp_ge c_107_14 (fun h14 => ?_) <| (fun h14 => ?_)
    · refine r_iconst c_107_143 <| r_iret c_107_144 <| ?_
      exact kk
    · exact absurd h14 (by omega)
  | succ k ih =>
    intro i m a3 a4 a5 σ Q hi hC hl hJ hm hR kk
    simp only [joF] at hR
    have hrk : rkO T (gt lb ((i : Int) - 1)) = 9 ↔ (0 < i ∧ rkO T (lb.getD (i - 1) 0) = 9) := by
      by_cases h0 : i = 0
      · subst h0
        rw [gt_out (Or.inl (by omega)), rkO_low hO (by decide)]
        omega
      · rw [show (i : Int) - 1 = ((i - 1 : Nat) : Int) by omega, gt_nat (by omega)]
        exact ⟨fun h => ⟨by omega, h⟩, fun h => h.2⟩
    have htl : ((jnL T lb).take m).length = m := by rw [List.length_take]; omega
    have next : ¬ ((lb.getD i 0 = 8204 ∨ lb.getD i 0 = 8205) ∧ ¬ fitP T lb i) → ∀ σ1 m1 b3 b4 b5, rowOK σ1 36 300 ((jnL T lb).take m1) → m1 ≤ lb.length → cf [36, 37] σ σ1 → mm_X 107 9 [vP 35, vP 44, vI ((i : Int) + 1), b3, b4, b5] [] (hp L σ1) Q := by
      intro hn σ1 m1 b3 b4 b5 g1 g2 g3
      rw [if_neg hn] at hR
      exact ih (i + 1) m1 b3 b4 b5 σ1 Q (by omega) (hC.cf g3 (by decide)) (hl.cf g3 (by decide) (by decide)) g1 g2 hR (fun σ2 w1 w2 => kk σ2 w1 ((g3.up (by decide)).tr w2))
    have halt : ((lb.getD i 0 = 8204 ∨ lb.getD i 0 = 8205) ∧ ¬ fitP T lb i) → ∀ σ1, σ1 35 5 = (i : Int) → cf [35, 36, 37] σ σ1 → Q (some (vI 45)) (hp L σ1) := by
      intro hy σ1 g1 g2
      rw [if_pos hy] at hR
      have kk := kk σ1 (fun _ => by rw [hR]; exact g1) g2
      rw [if_pos (by omega)] at kk
      exact kk
    unfold fitP at next halt
    clear hR kk ih
    generalize hpv : lb.getD i 0 = p at *
    refine r_iload_n c_107_9 rfl <| r_aload_n c_107_10 rfl <| r_cV0 c_107_11 rfl (Nat.le_of_ble_eq_true rfl) <| ?_
    refine ct_size row44 hl ?_
    refine r_icmp_ge c_107_14 (fun h14 => ?_) <| (fun h14 => ?_)
    · exact absurd h14 (by omega)
    · refine r_aload_n c_107_17 rfl <| r_iload_n c_107_18 rfl <| r_cV1 c_107_19 rfl (Nat.le_of_ble_eq_true rfl) <| ?_
      refine ct_atn row44 hl (by omega) ?_; rw [hpv]
      refine r_istore_n_6_3 c_107_22 rfl <| r_iload_n c_107_23 rfl <| r_sipush c_107_24 <| r_icmp_eq c_107_27 (fun h27 => ?_) <| (fun h27 => ?_)
      · refine r_iconst c_107_37 <| r_goto c_107_38 <| r_istore_6_4 c_107_42 rfl <| r_iload c_107_44 rfl <| r_if_eq c_107_46 (fun h => absurd h (by decide)) <| (fun _ => ?_)
        refine r_aload_n c_107_49 rfl <| r_getf_a c_107_50 rfl rfl <| r_aload_n c_107_53 rfl <| r_iload_n c_107_54 rfl <| r_iconst c_107_55 <| r_isub c_107_56 (by omega) <| r_cV1 c_107_57 rfl (Nat.le_of_ble_eq_true rfl) <| ?_
        refine ct_at row44 hl _ ?_
        refine r_cV1 c_107_60 rfl (Nat.le_of_ble_eq_true rfl) <| ?_
        refine ct_rof hC hO _ ?_
        refine r_bipush c_107_63 <| r_icmp_eq c_107_65 (fun h65 => ?_) <| (fun h65 => ?_)
        · refine r_iinc_6_2 c_107_137 rfl (by omega) <| r_goto c_107_140 <| ?_
          first
          | exact next (fun h => by omega) σ m _ _ _ hJ hm cf.rf
          | exact next (fun h => h.2 (Or.inl (hrk.1 h65))) σ m _ _ _ hJ hm cf.rf
        · refine r_aload_n c_107_68 rfl <| r_getf_a c_107_69 rfl rfl <| r_cV0 c_107_72 rfl (Nat.le_of_ble_eq_true rfl) <| ?_
          refine ct_size row36 hJ ?_
          refine r_istore_6_5 c_107_75 rfl <| ?_
          rw [htl]
          refine lp_jr hO hlb (lb.length - m) m σ Q (by omega) hC hl hJ (fun σ1 b5 w2 w3 => ?_)
          have hf1 : cf [36, 37] σ σ1 := w3.cf (by decide) (by decide)
          have hdone : rowOK σ1 36 300 ((jnL T lb).take lb.length) := by rw [← hjl, List.take_length]; exact w2
          refine r_iload_n c_107_114 rfl <| r_sipush c_107_115 <| r_icmp_eq c_107_118 (fun h118 => ?_) <| (fun h118 => ?_)
          · refine r_aload_n c_107_129 rfl <| r_bipush c_107_130 <| r_iload_n c_107_132 rfl <| r_cV2 c_107_133 rfl (Nat.le_of_ble_eq_true rfl) <| ?_
            refine ct_found _ _ (fun σ2 g1 g2 => ?_)
            refine r_iret c_107_136 <| ?_
            first | exact halt ⟨by omega, fun h => h.elim (fun h => absurd (hrk.2 h) (by assumption)) (fun h => absurd h.2 hb)⟩ σ2 g1 ((hf1.up (by decide)).tr (g2.up (by decide))) | exact halt ⟨by omega, fun h => h.elim (fun h => absurd (hrk.2 h) (by assumption)) (fun h => absurd h118 h.1)⟩ σ2 g1 ((hf1.up (by decide)).tr (g2.up (by decide)))
          · refine r_aload_n c_107_121 rfl <| r_iload_n c_107_122 rfl <| r_cV1 c_107_123 rfl (Nat.le_of_ble_eq_true rfl) <| ?_
            refine ct_btw w2 (by omega) (fun hb => ?_) (fun hb => ?_)
            · refine r_if_ne c_107_126 (fun _ => ?_) <| (fun h => absurd h (by decide))
              refine r_iinc_6_2 c_107_137 rfl (by omega) <| r_goto c_107_140 <| ?_
              exact next (fun h => h.2 (Or.inr ⟨h118, hb⟩)) σ1 lb.length _ _ _ hdone (Nat.le_refl _) hf1
            · refine r_if_ne c_107_126 (fun h => absurd h (by decide)) <| (fun _ => ?_)
              refine r_aload_n c_107_129 rfl <| r_bipush c_107_130 <| r_iload_n c_107_132 rfl <| r_cV2 c_107_133 rfl (Nat.le_of_ble_eq_true rfl) <| ?_
              refine ct_found _ _ (fun σ2 g1 g2 => ?_)
              refine r_iret c_107_136 <| ?_
              first | exact halt ⟨by omega, fun h => h.elim (fun h => absurd (hrk.2 h) (by assumption)) (fun h => absurd h.2 hb)⟩ σ2 g1 ((hf1.up (by decide)).tr (g2.up (by decide))) | exact halt ⟨by omega, fun h => h.elim (fun h => absurd (hrk.2 h) (by assumption)) (fun h => absurd h118 h.1)⟩ σ2 g1 ((hf1.up (by decide)).tr (g2.up (by decide)))
      · refine r_iload_n c_107_30 rfl <| r_sipush c_107_31 <| r_icmp_ne c_107_34 (fun h34 => ?_) <| (fun h34 => ?_)
        · refine r_iconst c_107_41 <| r_istore_6_4 c_107_42 rfl <| r_iload c_107_44 rfl <| r_if_eq c_107_46 (fun _ => ?_) <| (fun h => absurd h (by decide))
          refine r_iinc_6_2 c_107_137 rfl (by omega) <| r_goto c_107_140 <| ?_
          first
          | exact next (fun h => by omega) σ m _ _ _ hJ hm cf.rf
          | exact next (fun h => h.2 (Or.inl (hrk.1 h65))) σ m _ _ _ hJ hm cf.rf
        · refine r_iconst c_107_37 <| r_goto c_107_38 <| r_istore_6_4 c_107_42 rfl <| r_iload c_107_44 rfl <| r_if_eq c_107_46 (fun h => absurd h (by decide)) <| (fun _ => ?_)
          refine r_aload_n c_107_49 rfl <| r_getf_a c_107_50 rfl rfl <| r_aload_n c_107_53 rfl <| r_iload_n c_107_54 rfl <| r_iconst c_107_55 <| r_isub c_107_56 (by omega) <| r_cV1 c_107_57 rfl (Nat.le_of_ble_eq_true rfl) <| ?_
          refine ct_at row44 hl _ ?_
          refine r_cV1 c_107_60 rfl (Nat.le_of_ble_eq_true rfl) <| ?_
          refine ct_rof hC hO _ ?_
          refine r_bipush c_107_63 <| r_icmp_eq c_107_65 (fun h65 => ?_) <| (fun h65 => ?_)
          · refine r_iinc_6_2 c_107_137 rfl (by omega) <| r_goto c_107_140 <| ?_
            first
            | exact next (fun h => by omega) σ m _ _ _ hJ hm cf.rf
            | exact next (fun h => h.2 (Or.inl (hrk.1 h65))) σ m _ _ _ hJ hm cf.rf
          · refine r_aload_n c_107_68 rfl <| r_getf_a c_107_69 rfl rfl <| r_cV0 c_107_72 rfl (Nat.le_of_ble_eq_true rfl) <| ?_
            refine ct_size row36 hJ ?_
            refine r_istore_6_5 c_107_75 rfl <| ?_
            rw [htl]
            refine lp_jr hO hlb (lb.length - m) m σ Q (by omega) hC hl hJ (fun σ1 b5 w2 w3 => ?_)
            have hf1 : cf [36, 37] σ σ1 := w3.cf (by decide) (by decide)
            have hdone : rowOK σ1 36 300 ((jnL T lb).take lb.length) := by rw [← hjl, List.take_length]; exact w2
            refine r_iload_n c_107_114 rfl <| r_sipush c_107_115 <| r_icmp_eq c_107_118 (fun h118 => ?_) <| (fun h118 => ?_)
            · refine r_aload_n c_107_129 rfl <| r_bipush c_107_130 <| r_iload_n c_107_132 rfl <| r_cV2 c_107_133 rfl (Nat.le_of_ble_eq_true rfl) <| ?_
              refine ct_found _ _ (fun σ2 g1 g2 => ?_)
              refine r_iret c_107_136 <| ?_
              first | exact halt ⟨by omega, fun h => h.elim (fun h => absurd (hrk.2 h) (by assumption)) (fun h => absurd h.2 hb)⟩ σ2 g1 ((hf1.up (by decide)).tr (g2.up (by decide))) | exact halt ⟨by omega, fun h => h.elim (fun h => absurd (hrk.2 h) (by assumption)) (fun h => absurd h118 h.1)⟩ σ2 g1 ((hf1.up (by decide)).tr (g2.up (by decide)))
            · refine r_aload_n c_107_121 rfl <| r_iload_n c_107_122 rfl <| r_cV1 c_107_123 rfl (Nat.le_of_ble_eq_true rfl) <| ?_
              refine ct_btw w2 (by omega) (fun hb => ?_) (fun hb => ?_)
              · refine r_if_ne c_107_126 (fun _ => ?_) <| (fun h => absurd h (by decide))
                refine r_iinc_6_2 c_107_137 rfl (by omega) <| r_goto c_107_140 <| ?_
                exact next (fun h => h.2 (Or.inr ⟨h118, hb⟩)) σ1 lb.length _ _ _ hdone (Nat.le_refl _) hf1
              · refine r_if_ne c_107_126 (fun h => absurd h (by decide)) <| (fun _ => ?_)
                refine r_aload_n c_107_129 rfl <| r_bipush c_107_130 <| r_iload_n c_107_132 rfl <| r_cV2 c_107_133 rfl (Nat.le_of_ble_eq_true rfl) <| ?_
                refine ct_found _ _ (fun σ2 g1 g2 => ?_)
                refine r_iret c_107_136 <| ?_
                first | exact halt ⟨by omega, fun h => h.elim (fun h => absurd (hrk.2 h) (by assumption)) (fun h => absurd h.2 hb)⟩ σ2 g1 ((hf1.up (by decide)).tr (g2.up (by decide))) | exact halt ⟨by omega, fun h => h.elim (fun h => absurd (hrk.2 h) (by assumption)) (fun h => absurd h118 h.1)⟩ σ2 g1 ((hf1.up (by decide)).tr (g2.up (by decide)))
theorem ct_laj {σ : mk_S} {lb : List Int} (hC : TC σ T) (hO : TOK T) (hl : rowOK σ 44 300 lb) (k : ∀ σ', (0 ≤ joF T lb lb.length 0 → σ' 35 5 = joF T lb lb.length 0) → cf [35, 36, 37] σ σ' → Q (some (vI (if 0 ≤ joF T lb lb.length 0 then 45 else 0))) (hp L σ')) : mm_call 107 [vP 35, vP 44] (hp L σ) Q := by
  refine ⟨Nat.le_of_ble_eq_true rfl, ?_⟩
  show mm_X 107 0 [vP 35, vP 44, mm_null, mm_null, mm_null, mm_null] [] _ _
  refine r_aload_n c_107_0 rfl <| r_getf_a c_107_1 rfl rfl <| r_cV0 c_107_4 rfl (Nat.le_of_ble_eq_true rfl) <| ?_
  refine ct_clear row36 (fun σ1 hl1 hf1 => ?_)
  refine r_iconst c_107_7 <| r_istore_n_6_2 c_107_8 rfl <| ?_
  exact lp_laj hO hl.2.1 lb.length 0 0 _ _ _ σ1 Q (by omega) (hC.cf (hf1.cf (A := [36, 37]) (by decide) (by decide)) (by decide)) (hl.fr2 hf1 (by decide)) hl1 (Nat.zero_le _) rfl (fun σ2 w1 w2 => k σ2 w1 ((hf1.cf (by decide) (by decide)).tr w2))
theorem lp_bad {lb : List Int} {σ : mk_S} {R : Int} {z : Int} (hC : TC σ T) (hO : TOK T) (hl : rowOK σ 44 300 lb) (hz : z = (lb.length : Int) - 1)
    (k1 : R = -1 → ∀ b3, mm_X 105 142 [vP 35, vP 44, vI z, b3] [] (hp L σ) Q) (k0 : 0 ≤ R → ∀ σ', σ' 35 5 = R → cf [35] σ σ' → Q (some (vI 44)) (hp L σ')) : ∀ (k i : Nat), i + k = lb.length → R = badF T (lb.drop i) i → mm_X 105 98 [vP 35, vP 44, vI z, vI (i : Nat)] [] (hp L σ) Q := by
  intro k
  have hll := hl.2.1
  induction k with
  | zero =>
    intro i hi hR
    have ei : i = lb.length := by omega
    subst ei
    rw [List.drop_length] at hR
    simp only [badF] at hR
    refine r_iload_n c_105_98 rfl <| r_iload_n c_105_99 rfl <| r_icmp_gt c_105_100 (fun h100 => ?_) <| (fun h100 => ?_)
    · exact k1 hR _
    · exact absurd h100 (by omega)
  | succ k ih =>
    intro i hi hR
    rw [drop_at (by omega)] at hR
    simp only [badF] at hR
    generalize hpv : lb.getD i 0 = p at *
    refine r_iload_n c_105_98 rfl <| r_iload_n c_105_99 rfl <| r_icmp_gt c_105_100 (fun h100 => ?_) <| (fun h100 => ?_)
    · exact absurd h100 (by omega)
    · refine r_aload_n c_105_103 rfl <| r_iload_n c_105_104 rfl <| r_cV1 c_105_105 rfl (Nat.le_of_ble_eq_true rfl) <| ?_
      refine ct_atn row44 hl (by omega) ?_; rw [hpv]
      refine r_bipush c_105_108 <| r_icmp_eq c_105_110 (fun h110 => ?_) <| (fun h110 => ?_)
      · refine r_aload_n c_105_128 rfl <| r_bipush c_105_129 <| r_iload_n c_105_131 rfl <| r_cV2 c_105_132 rfl (Nat.le_of_ble_eq_true rfl) <| ?_
        refine ct_found _ _ (fun σ2 g1 g2 => ?_)
        refine r_iret c_105_135 <| ?_
        first | (rw [if_pos (Or.inl h110)] at hR; exact k0 (by omega) σ2 (by rw [g1, hR]) g2) | (rw [if_pos (Or.inr h125)] at hR; exact k0 (by omega) σ2 (by rw [g1, hR]) g2)
      · refine r_aload_n c_105_113 rfl <| r_getf_a c_105_114 rfl rfl <| r_aload_n c_105_117 rfl <| r_iload_n c_105_118 rfl <| r_cV1 c_105_119 rfl (Nat.le_of_ble_eq_true rfl) <| ?_
        refine ct_atn row44 hl (by omega) ?_; rw [hpv]
        refine r_cV1 c_105_122 rfl (Nat.le_of_ble_eq_true rfl) <| ?_
        refine ct_sof hC hO p ?_
        refine r_if_eq c_105_125 (fun h125 => ?_) <| (fun h125 => ?_)
        · refine r_iinc_4_3 c_105_136 rfl (by omega) <| r_goto c_105_139 <| ?_
          rw [if_neg (fun h => h.elim (fun h => h110 h) (fun h => h h125))] at hR
          exact ih (i + 1) (by omega) hR
        · refine r_aload_n c_105_128 rfl <| r_bipush c_105_129 <| r_iload_n c_105_131 rfl <| r_cV2 c_105_132 rfl (Nat.le_of_ble_eq_true rfl) <| ?_
          refine ct_found _ _ (fun σ2 g1 g2 => ?_)
          refine r_iret c_105_135 <| ?_
          first | (rw [if_pos (Or.inl h110)] at hR; exact k0 (by omega) σ2 (by rw [g1, hR]) g2) | (rw [if_pos (Or.inr h125)] at hR; exact k0 (by omega) σ2 (by rw [g1, hR]) g2)
theorem badF_or {T : mk_S} : ∀ (l : List Int) (i : Nat), badF T l i = -1 ∨ ((i : Int) ≤ badF T l i ∧ badF T l i < i + l.length)
  | [], i => Or.inl rfl
  | p :: ps, i => by
    simp only [badF, List.length_cons]
    split
    · right; omega
    · have := badF_or (T := T) ps (i + 1); omega
theorem joF_or {T : mk_S} {lb : List Int} : ∀ (k i : Nat), joF T lb k i = -1 ∨ ((i : Int) ≤ joF T lb k i ∧ joF T lb k i < i + k)
  | 0, i => Or.inl rfl
  | k + 1, i => by
    simp only [joF]
    split
    · right; omega
    · have := joF_or (T := T) (lb := lb) k (i + 1); omega
theorem ct_look {σ : mk_S} {lb : List Int} (hC : TC σ T) (hO : TOK T) (hl : rowOK σ 44 300 lb) (k : ∀ σ', ((ruL T lb).1 ≠ 0 → σ' 35 5 = (ruL T lb).2) → cf [35, 36, 37] σ σ' → Q (some (vI (ruL T lb).1)) (hp L σ')) : mm_call 105 [vP 35, vP 44] (hp L σ) Q := by
  have hll := hl.2.1
  unfold ruL at k
  have hb := badF_or (T := T) lb 0
  refine ⟨Nat.le_of_ble_eq_true rfl, ?_⟩
  show mm_X 105 0 [vP 35, vP 44, mm_null, mm_null] [] _ _
  refine r_aload_n c_105_0 rfl <| r_cV0 c_105_1 rfl (Nat.le_of_ble_eq_true rfl) <| ?_
  refine ct_size row44 hl ?_
  refine r_iconst c_105_4 <| r_isub c_105_5 (by omega) <| r_istore_n_4_2 c_105_6 rfl <| r_aload_n c_105_7 rfl <| r_iconst c_105_8 <| r_cV1 c_105_9 rfl (Nat.le_of_ble_eq_true rfl) <| ?_
  refine ct_at row44 hl _ ?_
  refine r_bipush c_105_12 <| r_icmp_ne c_105_14 (fun h14 => ?_) <| (fun h14 => ?_)
  · rw [if_neg (by omega)] at k
    refine r_aload_n c_105_35 rfl <| r_iconst c_105_36 <| r_cV1 c_105_37 rfl (Nat.le_of_ble_eq_true rfl) <| ?_
    refine ct_at row44 hl _ ?_
    refine r_bipush c_105_40 <| r_icmp_ne c_105_42 (fun h42 => ?_) <| (fun h42 => ?_)
    · rw [if_neg (by assumption)] at k
      refine r_aload_n c_105_53 rfl <| r_iload_n c_105_54 rfl <| r_cV1 c_105_55 rfl (Nat.le_of_ble_eq_true rfl) <| ?_
      refine ct_at row44 hl _ ?_
      refine r_bipush c_105_58 <| r_icmp_ne c_105_60 (fun h60 => ?_) <| (fun h60 => ?_)
      · rw [if_neg (by assumption)] at k
        refine r_aload_n c_105_71 rfl <| r_getf_a c_105_72 rfl rfl <| r_iconst c_105_75 <| r_aload_n c_105_76 rfl <| r_iconst c_105_77 <| r_cV1 c_105_78 rfl (Nat.le_of_ble_eq_true rfl) <| ?_
        refine ct_at row44 hl _ ?_
        refine r_cV2 c_105_81 rfl (Nat.le_of_ble_eq_true rfl) <| ?_
        refine ct_range hC hO _ _ ?_
        refine r_iconst c_105_84 <| r_icmp_ne c_105_85 (fun h85 => ?_) <| (fun h85 => ?_)
        · rw [if_neg (by assumption)] at k
          refine r_iconst c_105_96 <| r_istore_n_4_3 c_105_97 rfl <| ?_
          refine lp_bad hC hO hl rfl (fun e b3 => ?_) (fun e σ2 g1 g2 => ?_) lb.length 0 (by omega) rfl
          · rw [List.drop_zero] at e
            rw [if_neg (by omega)] at k
            have hj := joF_or (T := T) (lb := lb) lb.length 0
            refine r_aload_n c_105_142 rfl <| r_aload_n c_105_143 rfl <| r_cV1 c_105_144 rfl (Nat.le_of_ble_eq_true rfl) <| ?_
            refine ct_laj hC hO hl (fun σ2 g1 g2 => ?_)
            refine r_iret c_105_147 <| ?_
            by_cases h : 0 ≤ joF T lb lb.length 0
            · rw [if_pos h] at k ⊢
              exact k σ2 (fun _ => g1 h) g2
            · rw [if_neg h] at k ⊢
              exact k σ2 (fun h => absurd rfl h) g2
          · rw [List.drop_zero] at e g1
            rw [if_pos e] at k
            exact k σ2 (fun _ => g1) (g2.up (by decide))
        · refine r_aload_n c_105_88 rfl <| r_bipush c_105_89 <| r_iconst c_105_91 <| r_cV2 c_105_92 rfl (Nat.le_of_ble_eq_true rfl) <| ?_
          refine ct_found _ _ (fun σ2 g1 g2 => ?_)
          refine r_iret c_105_95 <| ?_
          rw [if_pos (by assumption)] at k
          exact k σ2 (fun _ => g1) (g2.up (by decide))
      · refine r_aload_n c_105_63 rfl <| r_bipush c_105_64 <| r_iload_n c_105_66 rfl <| r_cV2 c_105_67 rfl (Nat.le_of_ble_eq_true rfl) <| ?_
        refine ct_found _ _ (fun σ2 g1 g2 => ?_)
        refine r_iret c_105_70 <| ?_
        rw [if_pos (by assumption)] at k
        exact k σ2 (fun _ => g1) (g2.up (by decide))
    · refine r_aload_n c_105_45 rfl <| r_bipush c_105_46 <| r_iconst c_105_48 <| r_cV2 c_105_49 rfl (Nat.le_of_ble_eq_true rfl) <| ?_
      refine ct_found _ _ (fun σ2 g1 g2 => ?_)
      refine r_iret c_105_52 <| ?_
      rw [if_pos (by assumption)] at k
      exact k σ2 (fun _ => g1) (g2.up (by decide))
  · refine r_aload_n c_105_17 rfl <| r_iconst c_105_18 <| r_cV1 c_105_19 rfl (Nat.le_of_ble_eq_true rfl) <| ?_
    refine ct_at row44 hl _ ?_
    refine r_bipush c_105_22 <| r_icmp_ne c_105_24 (fun h24 => ?_) <| (fun h24 => ?_)
    · rw [if_neg (by omega)] at k
      refine r_aload_n c_105_35 rfl <| r_iconst c_105_36 <| r_cV1 c_105_37 rfl (Nat.le_of_ble_eq_true rfl) <| ?_
      refine ct_at row44 hl _ ?_
      refine r_bipush c_105_40 <| r_icmp_ne c_105_42 (fun h42 => ?_) <| (fun h42 => ?_)
      · rw [if_neg (by assumption)] at k
        refine r_aload_n c_105_53 rfl <| r_iload_n c_105_54 rfl <| r_cV1 c_105_55 rfl (Nat.le_of_ble_eq_true rfl) <| ?_
        refine ct_at row44 hl _ ?_
        refine r_bipush c_105_58 <| r_icmp_ne c_105_60 (fun h60 => ?_) <| (fun h60 => ?_)
        · rw [if_neg (by assumption)] at k
          refine r_aload_n c_105_71 rfl <| r_getf_a c_105_72 rfl rfl <| r_iconst c_105_75 <| r_aload_n c_105_76 rfl <| r_iconst c_105_77 <| r_cV1 c_105_78 rfl (Nat.le_of_ble_eq_true rfl) <| ?_
          refine ct_at row44 hl _ ?_
          refine r_cV2 c_105_81 rfl (Nat.le_of_ble_eq_true rfl) <| ?_
          refine ct_range hC hO _ _ ?_
          refine r_iconst c_105_84 <| r_icmp_ne c_105_85 (fun h85 => ?_) <| (fun h85 => ?_)
          · rw [if_neg (by assumption)] at k
            refine r_iconst c_105_96 <| r_istore_n_4_3 c_105_97 rfl <| ?_
            refine lp_bad hC hO hl rfl (fun e b3 => ?_) (fun e σ2 g1 g2 => ?_) lb.length 0 (by omega) rfl
            · rw [List.drop_zero] at e
              rw [if_neg (by omega)] at k
              have hj := joF_or (T := T) (lb := lb) lb.length 0
              refine r_aload_n c_105_142 rfl <| r_aload_n c_105_143 rfl <| r_cV1 c_105_144 rfl (Nat.le_of_ble_eq_true rfl) <| ?_
              refine ct_laj hC hO hl (fun σ2 g1 g2 => ?_)
              refine r_iret c_105_147 <| ?_
              by_cases h : 0 ≤ joF T lb lb.length 0
              · rw [if_pos h] at k ⊢
                exact k σ2 (fun _ => g1 h) g2
              · rw [if_neg h] at k ⊢
                exact k σ2 (fun h => absurd rfl h) g2
            · rw [List.drop_zero] at e g1
              rw [if_pos e] at k
              exact k σ2 (fun _ => g1) (g2.up (by decide))
          · refine r_aload_n c_105_88 rfl <| r_bipush c_105_89 <| r_iconst c_105_91 <| r_cV2 c_105_92 rfl (Nat.le_of_ble_eq_true rfl) <| ?_
            refine ct_found _ _ (fun σ2 g1 g2 => ?_)
            refine r_iret c_105_95 <| ?_
            rw [if_pos (by assumption)] at k
            exact k σ2 (fun _ => g1) (g2.up (by decide))
        · refine r_aload_n c_105_63 rfl <| r_bipush c_105_64 <| r_iload_n c_105_66 rfl <| r_cV2 c_105_67 rfl (Nat.le_of_ble_eq_true rfl) <| ?_
          refine ct_found _ _ (fun σ2 g1 g2 => ?_)
          refine r_iret c_105_70 <| ?_
          rw [if_pos (by assumption)] at k
          exact k σ2 (fun _ => g1) (g2.up (by decide))
      · refine r_aload_n c_105_45 rfl <| r_bipush c_105_46 <| r_iconst c_105_48 <| r_cV2 c_105_49 rfl (Nat.le_of_ble_eq_true rfl) <| ?_
        refine ct_found _ _ (fun σ2 g1 g2 => ?_)
        refine r_iret c_105_52 <| ?_
        rw [if_pos (by assumption)] at k
        exact k σ2 (fun _ => g1) (g2.up (by decide))
    · refine r_aload_n c_105_27 rfl <| r_bipush c_105_28 <| r_iconst c_105_30 <| r_cV2 c_105_31 rfl (Nat.le_of_ble_eq_true rfl) <| ?_
      refine ct_found _ _ (fun σ2 g1 g2 => ?_)
      refine r_iret c_105_34 <| ?_
      rw [if_pos ⟨by assumption, by assumption⟩] at k
      exact k σ2 (fun _ => g1) (g2.up (by decide))
end RULES
