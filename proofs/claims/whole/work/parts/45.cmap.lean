/-! MAKE, the first steps: the text's points, what they become, their form. The class's side. -/
def dF (σ : mk_S) (f l p : Int) : Prop := σ 34 10 = f ∧ σ 34 11 = l ∧ σ 34 12 = p
theorem dF.eq {σ σ' : mk_S} {f l p : Int} (h : dF σ f l p) (e : σ' 34 = σ 34) : dF σ' f l p := by unfold dF; rw [e]; exact h
def mqL (T : mk_S) (p : Int) : List Int := if stO T p = 0 then [p] else if stO T p = 2 then (if stI T p < 0 then [p + 32] else (List.range (T 15 (stI T p).toNat).toNat).map (fun j => T 16 (4 * (stI T p).toNat + j))) else []
def mqF (T : mk_S) : List Int → Nat → List Int → List Int × Int × Int
  | [], _, a => (a, 0, 0)
  | p :: ps, i, a => if stO T p = 3 then (a, 20, i) else if 300 < (a ++ mqL T p).length then (a, 60, i) else mqF T ps (i + 1) (a ++ mqL T p)
def mkM (T : mk_S) (ps : List Int) : List Int × Int × Int := if (mqF T ps 0 []).2.1 ≠ 0 then mqF T ps 0 [] else if 300 < (exL T (mqF T ps 0 []).1).length then ([], 60, 0) else (oF T (mqF T ps 0 []).1, 0, 0)
theorem stO_two {T : mk_S} (hO : TOK T) {p : Int} (h : stO T p = 2) : (stI T p < 0 ∧ 65 ≤ p ∧ p ≤ 90) ∨ ∃ i : Nat, stI T p = i ∧ i < nS T ∧ 1 ≤ T 15 i ∧ T 15 i ≤ 4 ∧ (∀ j : Nat, (j : Int) < T 15 i → isPt (T 16 (4 * i + j))) ∧ T 14 i = 2 := by
  unfold stO at h
  rcases stI_cases T p with g | ⟨i, g1, g2, -⟩
  · left
    rw [if_pos (by omega)] at h
    unfold stF at h
    refine ⟨by omega, ?_⟩
    split at h
    · omega
    · split at h <;> omega
  · right
    rw [if_neg (by omega), g1, Int.toNat_natCast] at h
    have := (hO.2.1 i g2).2 h
    exact ⟨i, g1, g2, this.1, this.2.1, this.2.2, h⟩
theorem mqL_pts {T : mk_S} (hO : TOK T) {p : Int} (hp : isPt p) : ∀ y, y ∈ mqL T p → isPt y := by
  intro y hy
  unfold mqL at hy
  split at hy
  · simp only [List.mem_singleton] at hy; subst hy; exact hp
  · split at hy
    · next h2 =>
      rcases stO_two hO h2 with ⟨g, g2, g3⟩ | ⟨i, g1, g2, g3, g4, g5, g6⟩
      · rw [if_pos g] at hy
        simp only [List.mem_singleton] at hy; subst hy; unfold isPt; omega
      · rw [if_neg (by omega), g1, Int.toNat_natCast] at hy
        obtain ⟨j, j1, j2⟩ := List.mem_map.1 hy
        have := List.mem_range.1 j1
        rw [← j2]; exact g5 j (by omega)
    · exact absurd hy (by simp)
theorem mqF_pts {T : mk_S} (hO : TOK T) : ∀ (l : List Int) (i : Nat) (a : List Int), pts l → pts a → a.length ≤ 300 → pts (mqF T l i a).1 ∧ (mqF T l i a).1.length ≤ 300
  | [], i, a, h1, h2, h3 => ⟨h2, h3⟩
  | p :: ps, i, a, h1, h2, h3 => by
    have g := pts_iff.1 h1
    have g1 : pts ps := pts_iff.2 (fun y hy => g y (List.mem_cons_of_mem _ hy))
    simp only [mqF]
    split
    · exact ⟨h2, h3⟩
    · split
      · exact ⟨h2, h3⟩
      · exact mqF_pts hO ps (i + 1) _ g1 (pts_iff.2 (fun y hy => by
          rcases List.mem_append.1 hy with hy | hy
          · exact pts_iff.1 h2 y hy
          · exact mqL_pts hO (g p List.mem_cons_self) y hy)) (by omega)
theorem mkM_pts {T : mk_S} (hO : TOK T) {l : List Int} (h : pts l) : (mkM T l).2.1 = 0 → pts (mkM T l).1 ∧ (mkM T l).1.length ≤ 300 := by
  have h1 := mqF_pts hO l 0 [] h pts_nil (Nat.zero_le _)
  unfold mkM
  split
  · next g => intro e; exact absurd e g
  · split
    · intro e; exact absurd e (by decide)
    · intro _
      have := oF_len T (mqF T l 0 []).1
      exact ⟨oF_pts hO h1.1, by simp only []; omega⟩
section CMAP
variable {L : Nat} {T : mk_S} {Q : Option mm_V → mm_H → Prop}
theorem ct_fail {σ : mk_S} (f l p : Int) (k : ∀ σ', dF σ' f l p → cf [34] σ σ' → Q (some (vI 0)) (hp L σ')) : mm_call 95 [vP 34, vI f, vI l, vI p] (hp L σ) Q := by
  refine ⟨Nat.le_of_ble_eq_true rfl, ?_⟩
  show mm_X 95 0 [vP 34, vI f, vI l, vI p] [] _ _
  refine r_aload_n c_95_0 rfl <| r_iload_n c_95_1 rfl <| r_putf c_95_2 rfl rfl <| r_aload_n c_95_5 rfl <| r_iload_n c_95_6 rfl <| r_putf c_95_7 rfl rfl <| r_aload_n c_95_10 rfl <| r_iload_n c_95_11 rfl <| r_putf c_95_12 rfl rfl <| r_iconst c_95_15 <| ?_
  refine r_zret c_95_16 (Or.inl rfl) <| ?_
  exact k _ ⟨by rw [sto_get2 (Or.inr (by decide)), sto_get2 (Or.inr (by decide)), sto_get], by rw [sto_get2 (Or.inr (by decide)), sto_get], sto_get _ _ _ _⟩ (((cf.rf.sto (by decide)).sto (by decide)).sto (by decide))
theorem ct_takeText {σ : mk_S} {t : List Int} (ho : octs t) (ht : rowOK σ 3 400 t)
    (k1 : (RD t).2 = -1 → ∀ σ', rowOK σ' 40 300 (RD t).1 → cf [40, 41] σ σ' → Q (some (vI 1)) (hp L σ'))
    (k0 : (RD t).2 ≠ -1 → ∀ σ', dF σ' (if (RD t).2 = -2 then 60 else 10) 0 (if (RD t).2 = -2 then 300 else (RD t).2) → cf [34, 40, 41] σ σ' → Q (some (vI 0)) (hp L σ')) : mm_call 94 [vP 34, vP 3] (hp L σ) Q := by
  refine ⟨Nat.le_of_ble_eq_true rfl, ?_⟩
  show mm_X 94 0 [vP 34, vP 3, mm_null] [] _ _
  refine r_aload_n c_94_0 rfl <| r_aload_n c_94_1 rfl <| r_getf_a c_94_2 rfl rfl <| r_cS2 c_94_5 (Nat.le_of_ble_eq_true rfl) <| ?_
  refine ct_take row3 row40 (by decide) ho ht (fun σ1 hl1 hf1 => ?_)
  refine r_istore_n_3_2 c_94_8 rfl <| r_iload_n c_94_9 rfl <| r_bipush c_94_10 <| r_icmp_ne c_94_12 (fun h12 => ?_) <| (fun h12 => ?_)
  · refine r_iload_n c_94_26 rfl <| r_iconst c_94_27 <| r_icmp_eq c_94_28 (fun h28 => ?_) <| (fun h28 => ?_)
    · refine r_iconst c_94_42 <| r_goto c_94_43 <| r_zret c_94_47 (Or.inr rfl) <| ?_
      first
      | exact k1 (by omega) σ1 hl1 (hf1.cf (by decide) (by decide))
      | (rw [if_neg (by omega), if_neg (by omega)] at k0
         exact k0 (by omega) σ2 hd ((hf1.cf (by decide) (by decide)).tr (hf2.up (by decide))))
      | exact absurd rfl (by assumption)
    · refine r_aload_n c_94_31 rfl <| r_bipush c_94_32 <| r_iconst c_94_34 <| r_iload_n c_94_35 rfl <| r_cV3 c_94_36 rfl (Nat.le_of_ble_eq_true rfl) <| ?_
      refine ct_fail _ _ _ (fun σ2 hd hf2 => ?_)
      refine r_if_eq c_94_39 (fun h39 => ?_) <| (fun h39 => ?_)
      · refine r_iconst c_94_46 <| r_zret c_94_47 (Or.inl rfl) <| ?_
        first
        | exact k1 (by omega) σ1 hl1 (hf1.cf (by decide) (by decide))
        | (rw [if_neg (by omega), if_neg (by omega)] at k0
           exact k0 (by omega) σ2 hd ((hf1.cf (by decide) (by decide)).tr (hf2.up (by decide))))
        | exact absurd rfl (by assumption)
      · refine r_iconst c_94_42 <| r_goto c_94_43 <| r_zret c_94_47 (Or.inr rfl) <| ?_
        first
        | exact k1 (by omega) σ1 hl1 (hf1.cf (by decide) (by decide))
        | (rw [if_neg (by omega), if_neg (by omega)] at k0
           exact k0 (by omega) σ2 hd ((hf1.cf (by decide) (by decide)).tr (hf2.up (by decide))))
        | exact absurd rfl (by assumption)
  · refine r_aload_n c_94_15 rfl <| r_bipush c_94_16 <| r_iconst c_94_18 <| r_sipush c_94_19 <| r_cV3 c_94_22 rfl (Nat.le_of_ble_eq_true rfl) <| ?_
    refine ct_fail _ _ _ (fun σ2 hd hf2 => ?_)
    refine r_zret c_94_25 (by omega) <| ?_
    rw [if_pos (by omega), if_pos (by omega)] at k0
    exact k0 (by omega) σ2 hd ((hf1.cf (by decide) (by decide)).tr (hf2.up (by decide)))
theorem lp_am {i n : Nat} {p : Int} (hO : TOK T) (hi : i < nS T) (hn : T 15 i = (n : Int) ∧ n ≤ 4) : ∀ (k j : Nat) (a : List Int) (σ : mk_S) (Q : Option mm_V → mm_H → Prop), j + k = n → TC σ T → rowOK σ 42 300 (a ++ (List.range j).map (fun x => T 16 (4 * i + x))) →
    ((a ++ (List.range n).map (fun x => T 16 (4 * i + x))).length ≤ 300 → ∀ σ', rowOK σ' 42 300 (a ++ (List.range n).map (fun x => T 16 (4 * i + x))) → fr2 42 σ σ' → Q (some (vI 1)) (hp L σ')) →
    (300 < (a ++ (List.range n).map (fun x => T 16 (4 * i + x))).length → ∀ σ', fr2 42 σ σ' → Q (some (vI 0)) (hp L σ')) →
    mm_X 97 25 [vP 11, vI p, vP 42, vI (i : Nat), vI (j : Nat)] [] (hp L σ) Q := by
  have hn2 := hO.1.1.2
  intro k
  induction k with
  | zero =>
    intro j a σ Q hj hC hl k1 k0
    have ej : j = n := by omega
    subst ej
    have e15 := hC 15 (by decide) (by decide)
    have k1 := k1 hl.2.1 σ hl fr2.rf
    refine r_iload c_97_25 rfl <| r_aload_n c_97_27 rfl <| r_getf_a c_97_28 rfl rfl <| r_iload_n c_97_31 rfl <| r_iald c_97_32 rfl (Or.inl rfl) (jn := i) (by omega) (by omega) <| ?_
    rw [e15, hn.1]
    refine r_icmp_ge c_97_33 (fun h33 => ?_) <| (fun h33 => ?_)
    · refine r_iconst c_97_62 <| r_zret c_97_63 (Or.inr rfl) <| ?_
      exact k1
    · exact absurd h33 (by omega)
  | succ k ih =>
    intro j a σ Q hj hC hl k1 k0
    have e15 := hC 15 (by decide) (by decide)
    have e16 := hC 16 (by decide) (by decide)
    refine r_iload c_97_25 rfl <| r_aload_n c_97_27 rfl <| r_getf_a c_97_28 rfl rfl <| r_iload_n c_97_31 rfl <| r_iald c_97_32 rfl (Or.inl rfl) (jn := i) (by omega) (by omega) <| ?_
    rw [e15, hn.1]
    refine r_icmp_ge c_97_33 (fun h33 => ?_) <| (fun h33 => ?_)
    · exact absurd h33 (by omega)
    · refine r_aload_n c_97_36 rfl <| r_aload_n c_97_37 rfl <| r_getf_a c_97_38 rfl rfl <| r_iload_n c_97_41 rfl <| r_iconst c_97_42 <| r_imul c_97_43 (by omega) <| r_iload c_97_44 rfl <| r_iadd c_97_46 (by omega) <| r_iald c_97_47 rfl (Or.inl rfl) (jn := 4 * i + j) (by omega) (by omega) <| ?_
      rw [e16]
      refine r_cV1 c_97_48 rfl (Nat.le_of_ble_eq_true rfl) <| ?_
      refine ct_append row42 hl _ (fun hlt σ1 hl1 hf1 => ?_) (fun hfull => ?_)
      · refine r_if_ne c_97_51 (fun _ => ?_) <| (fun h => absurd h (by decide))
        refine r_iinc_5_4 c_97_56 rfl (by omega) <| r_goto c_97_59 <| ?_
        refine ih (j + 1) a σ1 Q (by omega) (fun b g1 g2 => by rw [hf1 b (by omega) (by omega)]; exact hC b g1 g2) (by rw [List.range_succ, List.map_append, ← List.append_assoc]; exact hl1) (fun w1 σ2 w2 w3 => k1 w1 σ2 w2 (hf1.tr w3)) (fun w1 σ2 w3 => k0 w1 σ2 (hf1.tr w3))
      · refine r_if_ne c_97_51 (fun h => absurd h (by decide)) <| (fun _ => ?_)
        refine r_iconst c_97_54 <| r_zret c_97_55 (Or.inl rfl) <| ?_
        refine k0 ?_ σ fr2.rf
        simp only [List.length_append, List.length_map, List.length_range] at hfull ⊢
        omega
theorem ct_am {σ : mk_S} {a : List Int} {p : Int} (hC : TC σ T) (hO : TOK T) (hl : rowOK σ 42 300 a) (h2 : stO T p = 2)
    (k1 : (a ++ mqL T p).length ≤ 300 → ∀ σ', rowOK σ' 42 300 (a ++ mqL T p) → fr2 42 σ σ' → Q (some (vI 1)) (hp L σ')) (k0 : 300 < (a ++ mqL T p).length → ∀ σ', fr2 42 σ σ' → Q (some (vI 0)) (hp L σ')) : mm_call 97 [vP 11, vI p, vP 42] (hp L σ) Q := by
  have hn2 := hO.1.1.2
  unfold mqL at k1 k0
  rw [if_neg (by omega), if_pos h2] at k1 k0
  have hc1 : stI T p < 0 → 65 ≤ p ∧ p ≤ 90 := fun g => by
    rcases stO_two hO h2 with q | ⟨i, q1, -⟩
    · exact q.2
    · omega
  have hlt := stI_lt (T := T) p
  refine ⟨Nat.le_of_ble_eq_true rfl, ?_⟩
  show mm_X 97 0 [vP 11, vI p, vP 42, mm_null, mm_null] [] _ _
  refine r_aload_n c_97_0 rfl <| r_iload_n c_97_1 rfl <| r_cV1 c_97_2 rfl (Nat.le_of_ble_eq_true rfl) <| ?_
  refine ct_latest hC hO p ?_
  refine r_istore_n_5_3 c_97_5 rfl <| r_iload_n c_97_6 rfl <| r_if_ge c_97_7 (fun h7 => ?_) <| (fun h7 => ?_)
  · refine r_iconst c_97_22 <| r_istore_5_4 c_97_23 rfl <| ?_
    rw [if_neg (by omega)] at k1 k0
    obtain ⟨i, g1, g2, g3, g4, g5, g6⟩ := (stO_two hO h2).resolve_left (by omega)
    obtain ⟨n, hn⟩ : ∃ n : Nat, T 15 i = n := ⟨(T 15 i).toNat, by omega⟩
    rw [g1, Int.toNat_natCast, hn, Int.toNat_natCast] at k1 k0
    rw [g1]
    exact lp_am hO g2 ⟨hn, by omega⟩ n 0 a σ Q (by omega) hC (by simpa using hl) k1 k0
  · refine r_aload_n c_97_10 rfl <| r_iload_n c_97_11 rfl <| r_bipush c_97_12 <| r_isub c_97_14 (by omega) <| r_bipush c_97_15 <| r_iadd c_97_17 (by omega) <| r_cV1 c_97_18 rfl (Nat.le_of_ble_eq_true rfl) <| ?_
    refine ct_append row42 hl _ (fun hlt σ1 hl1 hf1 => ?_) (fun hfull => ?_)
    · refine r_zret c_97_21 (Or.inr rfl) <| ?_
      rw [if_pos (by omega)] at k1 k0
      first
      | (refine k1 (by simp only [List.length_append, List.length_cons, List.length_nil]; omega) σ1 ?_ hf1
         rw [show p + 32 = p - 65 + 97 by omega]; exact hl1)
      | exact k0 (by simp only [List.length_append, List.length_cons, List.length_nil]; omega) σ fr2.rf
    · refine r_zret c_97_21 (Or.inl rfl) <| ?_
      rw [if_pos (by omega)] at k1 k0
      first
      | (refine k1 (by simp only [List.length_append, List.length_cons, List.length_nil]; omega) σ1 ?_ hf1
         rw [show p + 32 = p - 65 + 97 by omega]; exact hl1)
      | exact k0 (by simp only [List.length_append, List.length_cons, List.length_nil]; omega) σ fr2.rf
theorem lp_ra {ps : List Int} {R : List Int × Int × Int} (hO : TOK T) : ∀ (k i : Nat) (a : List Int) (σ : mk_S) (a2 a3 a4 : mm_V) (Q : Option mm_V → mm_H → Prop), i + k = ps.length → TC σ T → rowOK σ 40 300 ps → rowOK σ 42 300 a → R = mqF T (ps.drop i) i a →
    (R.2.1 = 0 → ∀ σ', rowOK σ' 42 300 R.1 → cf [42, 43] σ σ' → Q (some (vI 1)) (hp L σ')) →
    (R.2.1 ≠ 0 → ∀ σ', dF σ' R.2.1 0 R.2.2 → cf [34, 42, 43] σ σ' → Q (some (vI 0)) (hp L σ')) →
    mm_X 96 9 [vP 34, vI (i : Nat), a2, a3, a4] [] (hp L σ) Q := by
  intro k
  induction k with
  | zero =>
    intro i a σ a2 a3 a4 Q hi hC hps hl hR k1 k0
    have hle := hps.2.1
    have ei : i = ps.length := by omega
    subst ei
    rw [List.drop_length] at hR
    simp only [mqF] at hR
    refine r_iload_n c_96_9 rfl <| r_aload_n c_96_10 rfl <| r_getf_a c_96_11 rfl rfl <| r_cV0 c_96_14 rfl (Nat.le_of_ble_eq_true rfl) <| ?_
    refine ct_size row40 hps ?_
    refine r_icmp_ge c_96_17 (fun h17 => ?_) <| (fun h17 => ?_)
    · refine r_iconst c_96_111 <| r_zret c_96_112 (Or.inr rfl) <| ?_
      exact k1 (by rw [hR]) σ (by rw [hR]; exact hl) cf.rf
    · exact absurd h17 (by omega)
  | succ k ih =>
    intro i a σ a2 a3 a4 Q hi hC hps hl hR k1 k0
    have hle := hps.2.1
    have hal := hl.2.1
    rw [drop_at (by omega)] at hR
    simp only [mqF] at hR
    generalize hpv : ps.getD i 0 = p at *
    have hml : stO T p = 0 → mqL T p = [p] := fun h => by unfold mqL; rw [if_pos h]
    have hml2 : stO T p ≠ 0 → stO T p ≠ 2 → mqL T p = [] := fun h h2 => by unfold mqL; rw [if_neg h, if_neg h2]
    generalize hsv : stO T p = s at *
    refine r_iload_n c_96_9 rfl <| r_aload_n c_96_10 rfl <| r_getf_a c_96_11 rfl rfl <| r_cV0 c_96_14 rfl (Nat.le_of_ble_eq_true rfl) <| ?_
    refine ct_size row40 hps ?_
    refine r_icmp_ge c_96_17 (fun h17 => ?_) <| (fun h17 => ?_)
    · exact absurd h17 (by omega)
    · refine r_aload_n c_96_20 rfl <| r_getf_a c_96_21 rfl rfl <| r_iload_n c_96_24 rfl <| r_cV1 c_96_25 rfl (Nat.le_of_ble_eq_true rfl) <| ?_
      refine ct_atn row40 hps (by omega) ?_; rw [hpv]
      refine r_istore_n_5_2 c_96_28 rfl <| r_aload_n c_96_29 rfl <| r_getf_a c_96_30 rfl rfl <| r_iload_n c_96_33 rfl <| r_cV1 c_96_34 rfl (Nat.le_of_ble_eq_true rfl) <| ?_
      refine ct_sof hC hO p ?_; rw [hsv]
      refine r_istore_n_5_3 c_96_37 rfl <| r_iload_n c_96_38 rfl <| r_iconst c_96_39 <| r_icmp_ne c_96_40 (fun h40 => ?_) <| (fun h40 => ?_)
      · refine r_iconst c_96_52 <| r_istore_5_4 c_96_53 rfl <| r_iload_n c_96_55 rfl <| r_if_ne c_96_56 (fun h56 => ?_) <| (fun h56 => ?_)
        · refine r_iload_n c_96_72 rfl <| r_iconst c_96_73 <| r_icmp_ne c_96_74 (fun h74 => ?_) <| (fun h74 => ?_)
          · refine r_iload c_96_91 rfl <| r_if_ne c_96_93 (fun _ => ?_) <| (fun h => absurd h (by decide))
            refine r_iinc_5_1 c_96_105 rfl (by omega) <| r_goto c_96_108 <| ?_
            first
            | (rw [if_neg (by omega), if_neg (by rw [hml (by omega)]; simp only [List.length_append, List.length_cons, List.length_nil]; omega), hml (by omega)] at hR
               exact ih (i + 1) _ σ1 _ _ _ Q (by omega) (hC.cf (hf1.cf (A := [42, 43]) (by decide) (by decide)) (by decide)) (hps.fr2 hf1 (by decide)) hl1 hR (fun w1 σ2 w2 w3 => k1 w1 σ2 w2 ((hf1.cf (by decide) (by decide)).tr w3)) (fun w1 σ2 w2 w3 => k0 w1 σ2 w2 ((hf1.cf (by decide) (by decide)).tr w3)))
            | (rw [if_neg (by omega), if_neg (by omega)] at hR
               exact ih (i + 1) _ σ1 _ _ _ Q (by omega) (hC.cf (hf1.cf (A := [42, 43]) (by decide) (by decide)) (by decide)) (hps.fr2 hf1 (by decide)) hl1 hR (fun w1 σ2 w2 w3 => k1 w1 σ2 w2 ((hf1.cf (by decide) (by decide)).tr w3)) (fun w1 σ2 w2 w3 => k0 w1 σ2 w2 ((hf1.cf (by decide) (by decide)).tr w3)))
            | (rw [if_neg (by omega), hml2 (by omega) (by omega), List.append_nil, if_neg (by omega)] at hR
               exact ih (i + 1) a σ _ _ _ Q (by omega) hC hps hl hR k1 k0)
          · refine r_aload_n c_96_77 rfl <| r_getf_a c_96_78 rfl rfl <| r_iload_n c_96_81 rfl <| r_aload_n c_96_82 rfl <| r_getf_a c_96_83 rfl rfl <| r_cV2 c_96_86 rfl (Nat.le_of_ble_eq_true rfl) <| ?_
            refine ct_am hC hO hl (by omega) (fun hlen σ1 hl1 hf1 => ?_) (fun hlen σ1 hf1 => ?_)
            · refine r_istore_5_4 c_96_89 rfl <| r_iload c_96_91 rfl <| r_if_ne c_96_93 (fun _ => ?_) <| (fun h => absurd h (by decide))
              refine r_iinc_5_1 c_96_105 rfl (by omega) <| r_goto c_96_108 <| ?_
              first
              | (rw [if_neg (by omega), if_neg (by rw [hml (by omega)]; simp only [List.length_append, List.length_cons, List.length_nil]; omega), hml (by omega)] at hR
                 exact ih (i + 1) _ σ1 _ _ _ Q (by omega) (hC.cf (hf1.cf (A := [42, 43]) (by decide) (by decide)) (by decide)) (hps.fr2 hf1 (by decide)) hl1 hR (fun w1 σ2 w2 w3 => k1 w1 σ2 w2 ((hf1.cf (by decide) (by decide)).tr w3)) (fun w1 σ2 w2 w3 => k0 w1 σ2 w2 ((hf1.cf (by decide) (by decide)).tr w3)))
              | (rw [if_neg (by omega), if_neg (by omega)] at hR
                 exact ih (i + 1) _ σ1 _ _ _ Q (by omega) (hC.cf (hf1.cf (A := [42, 43]) (by decide) (by decide)) (by decide)) (hps.fr2 hf1 (by decide)) hl1 hR (fun w1 σ2 w2 w3 => k1 w1 σ2 w2 ((hf1.cf (by decide) (by decide)).tr w3)) (fun w1 σ2 w2 w3 => k0 w1 σ2 w2 ((hf1.cf (by decide) (by decide)).tr w3)))
              | (rw [if_neg (by omega), hml2 (by omega) (by omega), List.append_nil, if_neg (by omega)] at hR
                 exact ih (i + 1) a σ _ _ _ Q (by omega) hC hps hl hR k1 k0)
            · refine r_istore_5_4 c_96_89 rfl <| r_iload c_96_91 rfl <| r_if_ne c_96_93 (fun h => absurd h (by decide)) <| (fun _ => ?_)
              refine r_aload_n c_96_96 rfl <| r_bipush c_96_97 <| r_iconst c_96_99 <| r_iload_n c_96_100 rfl <| r_cV3 c_96_101 rfl (Nat.le_of_ble_eq_true rfl) <| ?_
              refine ct_fail _ _ _ (fun σ2 hd hf2 => ?_)
              refine r_zret c_96_104 (by omega) <| ?_
              first
              | (rw [if_neg (by omega), if_pos (by rw [hml (by omega)]; simp only [List.length_append, List.length_cons, List.length_nil]; omega)] at hR
                 rw [hR] at k0
                 exact k0 (by simp) σ2 hd (hf2.up (by decide)))
              | (rw [if_neg (by omega), if_pos hlen] at hR
                 rw [hR] at k0
                 exact k0 (by simp) σ2 hd ((hf1.cf (by decide) (by decide)).tr (hf2.up (by decide))))
        · refine r_aload_n c_96_59 rfl <| r_getf_a c_96_60 rfl rfl <| r_iload_n c_96_63 rfl <| r_cV1 c_96_64 rfl (Nat.le_of_ble_eq_true rfl) <| ?_
          refine ct_append row42 hl _ (fun hlt σ1 hl1 hf1 => ?_) (fun hfull => ?_)
          · refine r_istore_5_4 c_96_67 rfl <| r_goto c_96_69 <| r_iload c_96_91 rfl <| r_if_ne c_96_93 (fun _ => ?_) <| (fun h => absurd h (by decide))
            refine r_iinc_5_1 c_96_105 rfl (by omega) <| r_goto c_96_108 <| ?_
            first
            | (rw [if_neg (by omega), if_neg (by rw [hml (by omega)]; simp only [List.length_append, List.length_cons, List.length_nil]; omega), hml (by omega)] at hR
               exact ih (i + 1) _ σ1 _ _ _ Q (by omega) (hC.cf (hf1.cf (A := [42, 43]) (by decide) (by decide)) (by decide)) (hps.fr2 hf1 (by decide)) hl1 hR (fun w1 σ2 w2 w3 => k1 w1 σ2 w2 ((hf1.cf (by decide) (by decide)).tr w3)) (fun w1 σ2 w2 w3 => k0 w1 σ2 w2 ((hf1.cf (by decide) (by decide)).tr w3)))
            | (rw [if_neg (by omega), if_neg (by omega)] at hR
               exact ih (i + 1) _ σ1 _ _ _ Q (by omega) (hC.cf (hf1.cf (A := [42, 43]) (by decide) (by decide)) (by decide)) (hps.fr2 hf1 (by decide)) hl1 hR (fun w1 σ2 w2 w3 => k1 w1 σ2 w2 ((hf1.cf (by decide) (by decide)).tr w3)) (fun w1 σ2 w2 w3 => k0 w1 σ2 w2 ((hf1.cf (by decide) (by decide)).tr w3)))
            | (rw [if_neg (by omega), hml2 (by omega) (by omega), List.append_nil, if_neg (by omega)] at hR
               exact ih (i + 1) a σ _ _ _ Q (by omega) hC hps hl hR k1 k0)
          · refine r_istore_5_4 c_96_67 rfl <| r_goto c_96_69 <| r_iload c_96_91 rfl <| r_if_ne c_96_93 (fun h => absurd h (by decide)) <| (fun _ => ?_)
            refine r_aload_n c_96_96 rfl <| r_bipush c_96_97 <| r_iconst c_96_99 <| r_iload_n c_96_100 rfl <| r_cV3 c_96_101 rfl (Nat.le_of_ble_eq_true rfl) <| ?_
            refine ct_fail _ _ _ (fun σ2 hd hf2 => ?_)
            refine r_zret c_96_104 (by omega) <| ?_
            first
            | (rw [if_neg (by omega), if_pos (by rw [hml (by omega)]; simp only [List.length_append, List.length_cons, List.length_nil]; omega)] at hR
               rw [hR] at k0
               exact k0 (by simp) σ2 hd (hf2.up (by decide)))
            | (rw [if_neg (by omega), if_pos hlen] at hR
               rw [hR] at k0
               exact k0 (by simp) σ2 hd ((hf1.cf (by decide) (by decide)).tr (hf2.up (by decide))))
      · refine r_aload_n c_96_43 rfl <| r_bipush c_96_44 <| r_iconst c_96_46 <| r_iload_n c_96_47 rfl <| r_cV3 c_96_48 rfl (Nat.le_of_ble_eq_true rfl) <| ?_
        refine ct_fail _ _ _ (fun σ2 hd hf2 => ?_)
        refine r_zret c_96_51 (by omega) <| ?_
        rw [if_pos (by omega)] at hR
        rw [hR] at k0
        exact k0 (by simp) σ2 hd (hf2.up (by decide))
theorem ct_ra {σ : mk_S} {ps : List Int} (hC : TC σ T) (hO : TOK T) (hps : rowOK σ 40 300 ps)
    (k1 : (mqF T ps 0 []).2.1 = 0 → ∀ σ', rowOK σ' 42 300 (mqF T ps 0 []).1 → cf [42, 43] σ σ' → Q (some (vI 1)) (hp L σ'))
    (k0 : (mqF T ps 0 []).2.1 ≠ 0 → ∀ σ', dF σ' (mqF T ps 0 []).2.1 0 (mqF T ps 0 []).2.2 → cf [34, 42, 43] σ σ' → Q (some (vI 0)) (hp L σ')) : mm_call 96 [vP 34] (hp L σ) Q := by
  refine ⟨Nat.le_of_ble_eq_true rfl, ?_⟩
  show mm_X 96 0 [vP 34, mm_null, mm_null, mm_null, mm_null] [] _ _
  refine r_aload_n c_96_0 rfl <| r_getf_a c_96_1 rfl rfl <| r_cV0 c_96_4 rfl (Nat.le_of_ble_eq_true rfl) <| ?_
  refine ct_clear row42 (fun σ1 hl1 hf1 => ?_)
  refine r_iconst c_96_7 <| r_istore_n_5_1 c_96_8 rfl <| ?_
  exact lp_ra hO ps.length 0 [] σ1 _ _ _ Q (by omega) (hC.cf (hf1.cf (A := [42, 43]) (by decide) (by decide)) (by decide)) (hps.fr2 hf1 (by decide)) hl1 rfl (fun w1 σ2 w2 w3 => k1 w1 σ2 w2 ((hf1.cf (by decide) (by decide)).tr w3)) (fun w1 σ2 w2 w3 => k0 w1 σ2 w2 ((hf1.cf (by decide) (by decide)).tr w3))
theorem ct_fa {σ : mk_S} {a : List Int} (hC : TC σ T) (hO : TOK T) (hl : rowOK σ 42 300 a)
    (k1 : (exL T a).length ≤ 300 → ∀ σ', rowOK σ' 40 300 (oF T a) → cf [31, 32, 33, 40, 41] σ σ' → Q (some (vI 1)) (hp L σ'))
    (k0 : 300 < (exL T a).length → ∀ σ', dF σ' 60 0 0 → cf [31, 32, 33, 34, 40, 41] σ σ' → Q (some (vI 0)) (hp L σ')) : mm_call 98 [vP 34] (hp L σ) Q := by
  refine ⟨Nat.le_of_ble_eq_true rfl, ?_⟩
  show mm_X 98 0 [vP 34] [] _ _
  refine r_aload_n c_98_0 rfl <| r_getf_a c_98_1 rfl rfl <| r_aload_n c_98_4 rfl <| r_getf_a c_98_5 rfl rfl <| r_aload_n c_98_8 rfl <| r_getf_a c_98_9 rfl rfl <| r_cV2 c_98_12 rfl (Nat.le_of_ble_eq_true rfl) <| ?_
  refine ct_form hC hO row42 row40 (Or.inr (by decide)) (Or.inr (by decide)) (by decide) hl (fun hlen σ1 hl1 hf1 => ?_) (fun hlen σ1 hf1 => ?_)
  · refine r_if_ne c_98_15 (fun _ => ?_) <| (fun h => absurd h (by decide))
    refine r_iconst c_98_29 <| r_goto c_98_30 <| r_zret c_98_34 (Or.inr rfl) <| ?_
    first
    | exact k1 hlen σ1 hl1 (hf1.up (by decide))
    | exact absurd rfl (by assumption)
    | exact k0 hlen σ2 hd ((hf1.up (by decide)).tr (hf2.up (by decide)))
  · refine r_if_ne c_98_15 (fun h => absurd h (by decide)) <| (fun _ => ?_)
    refine r_aload_n c_98_18 rfl <| r_bipush c_98_19 <| r_iconst c_98_21 <| r_iconst c_98_22 <| r_cV3 c_98_23 rfl (Nat.le_of_ble_eq_true rfl) <| ?_
    refine ct_fail _ _ _ (fun σ2 hd hf2 => ?_)
    refine r_if_eq c_98_26 (fun h26 => ?_) <| (fun h26 => ?_)
    · refine r_iconst c_98_33 <| r_zret c_98_34 (Or.inl rfl) <| ?_
      first
      | exact k1 hlen σ1 hl1 (hf1.up (by decide))
      | exact absurd rfl (by assumption)
      | exact k0 hlen σ2 hd ((hf1.up (by decide)).tr (hf2.up (by decide)))
    · refine r_iconst c_98_29 <| r_goto c_98_30 <| r_zret c_98_34 (Or.inr rfl) <| ?_
      first
      | exact k1 hlen σ1 hl1 (hf1.up (by decide))
      | exact absurd rfl (by assumption)
      | exact k0 hlen σ2 hd ((hf1.up (by decide)).tr (hf2.up (by decide)))
end CMAP
