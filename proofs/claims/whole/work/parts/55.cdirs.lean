/-! MAKE: directions of all labels, the class's side. -/
def rtF (T : mk_S) : List Int → Bool
  | [] => false
  | p :: ps => if 1 ≤ rgO T 1 p ∧ rgO T 1 p ≤ 3 then true else rtF T ps
def drL (T : mk_S) (l : List Int) : List Int := l.map (rgO T 1)
def drF (T : mk_S) : List (List Int) → Nat → Int × Int
  | [], _ => (-1, 0)
  | x :: xs, i => if x.length ≠ 0 ∧ 0 ≤ dirW (drL T x) then (i, dirW (drL T x)) else drF T xs (i + 1)
def DR (T : mk_S) (ls : List (List Int)) : Int × Int := if rtF T ls.flatten = false then (-1, 0) else drF T ls 0
theorem sg_map {l : List Int} {a b : Nat} {f : Int → Int} : sg (l.map f) a b = (sg l a b).map f := by unfold sg; rw [List.map_take, List.map_drop]
theorem sg_fl {ls : List (List Int)} {i : Nat} (h : i < ls.length) : sg ls.flatten (ofs ls i) (ofs ls (i + 1)) = ls.getD i [] := by
  have e : ls = ls.take i ++ (ls.getD i [] :: ls.drop (i + 1)) := by
    rw [List.getD_eq_getElem?_getD, List.getElem?_eq_getElem h, Option.getD_some]
    rw [List.getElem_cons_drop]
    exact (List.take_append_drop i ls).symm
  have h2 := ofs_succ h
  unfold sg
  rw [show ofs ls (i + 1) - ofs ls i = (ls.getD i []).length by omega]
  have e2 : ls.flatten = (ls.take i).flatten ++ (ls.getD i [] ++ (ls.drop (i + 1)).flatten) := by
    have := congrArg List.flatten e
    rw [this, List.flatten_append, List.flatten_cons]
  rw [e2]
  unfold ofs
  rw [List.drop_left, List.take_left]
theorem drs_at {ls : List (List Int)} {i : Nat} (h : i < ls.length) : ls.drop i = ls.getD i [] :: ls.drop (i + 1) := by
  rw [List.getD_eq_getElem?_getD, List.getElem?_eq_getElem h, Option.getD_some, List.getElem_cons_drop]
theorem drL_dr0 {T : mk_S} (hO : TOK T) (l : List Int) : dr0 (drL T l) := by
  intro i hi
  unfold drL at hi ⊢
  rw [List.length_map] at hi
  rw [gd_map hi]
  exact rgO_rng hO _ _
theorem drF_or {T : mk_S} : ∀ (l : List (List Int)) (i : Nat), drF T l i = (-1, 0) ∨ ((i : Int) ≤ (drF T l i).1)
  | [], i => Or.inl rfl
  | x :: xs, i => by
    simp only [drF]
    split
    · exact Or.inr (Int.le_refl _)
    · rcases drF_or (T := T) xs (i + 1) with h | h
      · exact Or.inl h
      · right; omega
section CDIRS
variable {L : Nat} {T : mk_S} {Q : Option mm_V → mm_H → Prop}
theorem lp_gr {l : List Int} (hO : TOK T) (hll : l.length ≤ 300) : ∀ (k i : Nat) (f : Int) (a4 : mm_V) (σ : mk_S) (Q : Option mm_V → mm_H → Prop), i + k = l.length → TC σ T → rowOK σ 47 300 l → rowOK σ 38 300 ((drL T l).take i) → (f = 1 ∧ rtF T l = true ∨ f = 0 ∧ rtF T l = rtF T (l.drop i)) →
    (∀ σ', rowOK σ' 38 300 (drL T l) → fr2 38 σ σ' → (rtF T l = true → Q (some (vI 1)) (hp L σ')) ∧ (rtF T l = false → Q (some (vI 0)) (hp L σ')) → True) →
    (rtF T l = true → ∀ σ', rowOK σ' 38 300 (drL T l) → fr2 38 σ σ' → Q (some (vI 1)) (hp L σ')) → (rtF T l = false → ∀ σ', fr2 38 σ σ' → Q (some (vI 0)) (hp L σ')) →
    mm_X 114 11 [vP 35, vP 47, vI f, vI (i : Nat), a4] [] (hp L σ) Q := by
  intro k
  have hdl : (drL T l).length = l.length := List.length_map ..
  induction k with
  | zero =>
    intro i f a4 σ Q hi hC hl hD hf _ k1 k0
    have ei : i = l.length := by omega
    subst ei
    rw [List.drop_length] at hf
    rw [show l.length = (drL T l).length by omega, List.take_length] at hD
    refine r_iload_n c_114_11 rfl <| r_aload_n c_114_12 rfl <| r_cV0 c_114_13 rfl (Nat.le_of_ble_eq_true rfl) <| ?_
    refine ct_size row47 hl ?_
    refine r_icmp_ge c_114_16 (fun h16 => ?_) <| (fun h16 => ?_)
    · refine r_iload_n c_114_70 rfl <| r_zret c_114_71 (by omega) <| ?_
      rcases hf with ⟨e, g⟩ | ⟨e, g⟩
      · rw [e]; exact k1 g σ hD fr2.rf
      · rw [e]; exact k0 g σ fr2.rf
    · exact absurd h16 (by omega)
  | succ k ih =>
    intro i f a4 σ Q hi hC hl hD hf _ k1 k0
    rw [drop_at (by omega)] at hf
    simp only [rtF] at hf
    have htl : ((drL T l).take i).length = i := by rw [List.length_take]; omega
    have eg : (drL T l).getD i 0 = rgO T 1 (l.getD i 0) := gd_map (by omega)
    have et : (drL T l).take (i + 1) = (drL T l).take i ++ [rgO T 1 (l.getD i 0)] := by rw [take_at (by omega), eg]
    have hr := rgO_rng hO 1 (l.getD i 0)
    generalize hv : rgO T 1 (l.getD i 0) = v at *
    have hm := inM14 (v := v) (by omega)
    refine r_iload_n c_114_11 rfl <| r_aload_n c_114_12 rfl <| r_cV0 c_114_13 rfl (Nat.le_of_ble_eq_true rfl) <| ?_
    refine ct_size row47 hl ?_
    refine r_icmp_ge c_114_16 (fun h16 => ?_) <| (fun h16 => ?_)
    · exact absurd h16 (by omega)
    · refine r_aload_n c_114_19 rfl <| r_getf_a c_114_20 rfl rfl <| r_iconst c_114_23 <| r_aload_n c_114_24 rfl <| r_iload_n c_114_25 rfl <| r_cV1 c_114_26 rfl (Nat.le_of_ble_eq_true rfl) <| ?_
      refine ct_atn row47 hl (by omega) ?_
      refine r_cV2 c_114_29 rfl (Nat.le_of_ble_eq_true rfl) <| ?_
      refine ct_range hC hO _ _ ?_; rw [hv]
      refine r_istore_5_4 c_114_32 rfl <| r_aload_n c_114_34 rfl <| r_getf_a c_114_35 rfl rfl <| r_iload c_114_38 rfl <| r_cV1 c_114_40 rfl (Nat.le_of_ble_eq_true rfl) <| ?_
      refine ct_append row38 hD _ (fun hlt σ1 hl1 hf1 => ?_) (fun hfull => ?_)
      · refine r_pop c_114_43 (v := vI _) rfl <| r_iload_n c_114_44 rfl <| r_if_ne c_114_45 (fun h45 => ?_) <| (fun h45 => ?_)
        · refine r_iconst c_114_58 <| r_goto c_114_59 <| r_istore_n_5_2 c_114_63 rfl <| r_iinc_5_3 c_114_64 rfl (by omega) <| r_goto c_114_67 <| ?_
          first
          | exact absurd hfull (by omega)
          | exact ih (i + 1) _ _ σ1 Q (by omega) (hC.cf (hf1.cf (A := [38, 39]) (by decide) (by decide)) (by decide)) (hl.fr2 hf1 (by decide)) (by rw [et]; exact hl1) (Or.inl ⟨rfl, hf.elim (fun g => g.2) (fun g => absurd g.1 (by assumption))⟩) (fun _ _ _ _ => trivial) (fun w1 σ2 w2 w3 => k1 w1 σ2 w2 (hf1.tr w3)) (fun w1 σ2 w3 => k0 w1 σ2 (hf1.tr w3))
          | exact ih (i + 1) _ _ σ1 Q (by omega) (hC.cf (hf1.cf (A := [38, 39]) (by decide) (by decide)) (by decide)) (hl.fr2 hf1 (by decide)) (by rw [et]; exact hl1) (Or.inl ⟨rfl, hf.elim (fun g => g.2) (fun g => by rw [g.2, if_pos (hm.1 hi)])⟩) (fun _ _ _ _ => trivial) (fun w1 σ2 w2 w3 => k1 w1 σ2 w2 (hf1.tr w3)) (fun w1 σ2 w3 => k0 w1 σ2 (hf1.tr w3))
          | exact ih (i + 1) _ _ σ1 Q (by omega) (hC.cf (hf1.cf (A := [38, 39]) (by decide) (by decide)) (by decide)) (hl.fr2 hf1 (by decide)) (by rw [et]; exact hl1) (Or.inr ⟨rfl, hf.elim (fun g => absurd g.1 (by omega)) (fun g => by rw [g.2, if_neg (fun h => hi (hm.2 h))])⟩) (fun _ _ _ _ => trivial) (fun w1 σ2 w2 w3 => k1 w1 σ2 w2 (hf1.tr w3)) (fun w1 σ2 w3 => k0 w1 σ2 (hf1.tr w3))
        · refine r_iload c_114_48 rfl <| r_bipush c_114_50 <| r_cS2 c_114_52 (Nat.le_of_ble_eq_true rfl) <| ?_
          refine ct_isOf _ _ (fun hi => ?_) (fun hi => ?_)
          · refine r_if_eq c_114_55 (fun h => absurd h (by decide)) <| (fun _ => ?_)
            refine r_iconst c_114_58 <| r_goto c_114_59 <| r_istore_n_5_2 c_114_63 rfl <| r_iinc_5_3 c_114_64 rfl (by omega) <| r_goto c_114_67 <| ?_
            first
            | exact absurd hfull (by omega)
            | exact ih (i + 1) _ _ σ1 Q (by omega) (hC.cf (hf1.cf (A := [38, 39]) (by decide) (by decide)) (by decide)) (hl.fr2 hf1 (by decide)) (by rw [et]; exact hl1) (Or.inl ⟨rfl, hf.elim (fun g => g.2) (fun g => absurd g.1 (by assumption))⟩) (fun _ _ _ _ => trivial) (fun w1 σ2 w2 w3 => k1 w1 σ2 w2 (hf1.tr w3)) (fun w1 σ2 w3 => k0 w1 σ2 (hf1.tr w3))
            | exact ih (i + 1) _ _ σ1 Q (by omega) (hC.cf (hf1.cf (A := [38, 39]) (by decide) (by decide)) (by decide)) (hl.fr2 hf1 (by decide)) (by rw [et]; exact hl1) (Or.inl ⟨rfl, hf.elim (fun g => g.2) (fun g => by rw [g.2, if_pos (hm.1 hi)])⟩) (fun _ _ _ _ => trivial) (fun w1 σ2 w2 w3 => k1 w1 σ2 w2 (hf1.tr w3)) (fun w1 σ2 w3 => k0 w1 σ2 (hf1.tr w3))
            | exact ih (i + 1) _ _ σ1 Q (by omega) (hC.cf (hf1.cf (A := [38, 39]) (by decide) (by decide)) (by decide)) (hl.fr2 hf1 (by decide)) (by rw [et]; exact hl1) (Or.inr ⟨rfl, hf.elim (fun g => absurd g.1 (by omega)) (fun g => by rw [g.2, if_neg (fun h => hi (hm.2 h))])⟩) (fun _ _ _ _ => trivial) (fun w1 σ2 w2 w3 => k1 w1 σ2 w2 (hf1.tr w3)) (fun w1 σ2 w3 => k0 w1 σ2 (hf1.tr w3))
          · refine r_if_eq c_114_55 (fun _ => ?_) <| (fun h => absurd h (by decide))
            refine r_iconst c_114_62 <| r_istore_n_5_2 c_114_63 rfl <| r_iinc_5_3 c_114_64 rfl (by omega) <| r_goto c_114_67 <| ?_
            first
            | exact absurd hfull (by omega)
            | exact ih (i + 1) _ _ σ1 Q (by omega) (hC.cf (hf1.cf (A := [38, 39]) (by decide) (by decide)) (by decide)) (hl.fr2 hf1 (by decide)) (by rw [et]; exact hl1) (Or.inl ⟨rfl, hf.elim (fun g => g.2) (fun g => absurd g.1 (by assumption))⟩) (fun _ _ _ _ => trivial) (fun w1 σ2 w2 w3 => k1 w1 σ2 w2 (hf1.tr w3)) (fun w1 σ2 w3 => k0 w1 σ2 (hf1.tr w3))
            | exact ih (i + 1) _ _ σ1 Q (by omega) (hC.cf (hf1.cf (A := [38, 39]) (by decide) (by decide)) (by decide)) (hl.fr2 hf1 (by decide)) (by rw [et]; exact hl1) (Or.inl ⟨rfl, hf.elim (fun g => g.2) (fun g => by rw [g.2, if_pos (hm.1 hi)])⟩) (fun _ _ _ _ => trivial) (fun w1 σ2 w2 w3 => k1 w1 σ2 w2 (hf1.tr w3)) (fun w1 σ2 w3 => k0 w1 σ2 (hf1.tr w3))
            | exact ih (i + 1) _ _ σ1 Q (by omega) (hC.cf (hf1.cf (A := [38, 39]) (by decide) (by decide)) (by decide)) (hl.fr2 hf1 (by decide)) (by rw [et]; exact hl1) (Or.inr ⟨rfl, hf.elim (fun g => absurd g.1 (by omega)) (fun g => by rw [g.2, if_neg (fun h => hi (hm.2 h))])⟩) (fun _ _ _ _ => trivial) (fun w1 σ2 w2 w3 => k1 w1 σ2 w2 (hf1.tr w3)) (fun w1 σ2 w3 => k0 w1 σ2 (hf1.tr w3))
      · refine r_pop c_114_43 (v := vI _) rfl <| r_iload_n c_114_44 rfl <| r_if_ne c_114_45 (fun h45 => ?_) <| (fun h45 => ?_)
        · refine r_iconst c_114_58 <| r_goto c_114_59 <| r_istore_n_5_2 c_114_63 rfl <| r_iinc_5_3 c_114_64 rfl (by omega) <| r_goto c_114_67 <| ?_
          first
          | exact absurd hfull (by omega)
          | exact ih (i + 1) _ _ σ1 Q (by omega) (hC.cf (hf1.cf (A := [38, 39]) (by decide) (by decide)) (by decide)) (hl.fr2 hf1 (by decide)) (by rw [et]; exact hl1) (Or.inl ⟨rfl, hf.elim (fun g => g.2) (fun g => absurd g.1 (by assumption))⟩) (fun _ _ _ _ => trivial) (fun w1 σ2 w2 w3 => k1 w1 σ2 w2 (hf1.tr w3)) (fun w1 σ2 w3 => k0 w1 σ2 (hf1.tr w3))
          | exact ih (i + 1) _ _ σ1 Q (by omega) (hC.cf (hf1.cf (A := [38, 39]) (by decide) (by decide)) (by decide)) (hl.fr2 hf1 (by decide)) (by rw [et]; exact hl1) (Or.inl ⟨rfl, hf.elim (fun g => g.2) (fun g => by rw [g.2, if_pos (hm.1 hi)])⟩) (fun _ _ _ _ => trivial) (fun w1 σ2 w2 w3 => k1 w1 σ2 w2 (hf1.tr w3)) (fun w1 σ2 w3 => k0 w1 σ2 (hf1.tr w3))
          | exact ih (i + 1) _ _ σ1 Q (by omega) (hC.cf (hf1.cf (A := [38, 39]) (by decide) (by decide)) (by decide)) (hl.fr2 hf1 (by decide)) (by rw [et]; exact hl1) (Or.inr ⟨rfl, hf.elim (fun g => absurd g.1 (by omega)) (fun g => by rw [g.2, if_neg (fun h => hi (hm.2 h))])⟩) (fun _ _ _ _ => trivial) (fun w1 σ2 w2 w3 => k1 w1 σ2 w2 (hf1.tr w3)) (fun w1 σ2 w3 => k0 w1 σ2 (hf1.tr w3))
        · refine r_iload c_114_48 rfl <| r_bipush c_114_50 <| r_cS2 c_114_52 (Nat.le_of_ble_eq_true rfl) <| ?_
          refine ct_isOf _ _ (fun hi => ?_) (fun hi => ?_)
          · refine r_if_eq c_114_55 (fun h => absurd h (by decide)) <| (fun _ => ?_)
            refine r_iconst c_114_58 <| r_goto c_114_59 <| r_istore_n_5_2 c_114_63 rfl <| r_iinc_5_3 c_114_64 rfl (by omega) <| r_goto c_114_67 <| ?_
            first
            | exact absurd hfull (by omega)
            | exact ih (i + 1) _ _ σ1 Q (by omega) (hC.cf (hf1.cf (A := [38, 39]) (by decide) (by decide)) (by decide)) (hl.fr2 hf1 (by decide)) (by rw [et]; exact hl1) (Or.inl ⟨rfl, hf.elim (fun g => g.2) (fun g => absurd g.1 (by assumption))⟩) (fun _ _ _ _ => trivial) (fun w1 σ2 w2 w3 => k1 w1 σ2 w2 (hf1.tr w3)) (fun w1 σ2 w3 => k0 w1 σ2 (hf1.tr w3))
            | exact ih (i + 1) _ _ σ1 Q (by omega) (hC.cf (hf1.cf (A := [38, 39]) (by decide) (by decide)) (by decide)) (hl.fr2 hf1 (by decide)) (by rw [et]; exact hl1) (Or.inl ⟨rfl, hf.elim (fun g => g.2) (fun g => by rw [g.2, if_pos (hm.1 hi)])⟩) (fun _ _ _ _ => trivial) (fun w1 σ2 w2 w3 => k1 w1 σ2 w2 (hf1.tr w3)) (fun w1 σ2 w3 => k0 w1 σ2 (hf1.tr w3))
            | exact ih (i + 1) _ _ σ1 Q (by omega) (hC.cf (hf1.cf (A := [38, 39]) (by decide) (by decide)) (by decide)) (hl.fr2 hf1 (by decide)) (by rw [et]; exact hl1) (Or.inr ⟨rfl, hf.elim (fun g => absurd g.1 (by omega)) (fun g => by rw [g.2, if_neg (fun h => hi (hm.2 h))])⟩) (fun _ _ _ _ => trivial) (fun w1 σ2 w2 w3 => k1 w1 σ2 w2 (hf1.tr w3)) (fun w1 σ2 w3 => k0 w1 σ2 (hf1.tr w3))
          · refine r_if_eq c_114_55 (fun _ => ?_) <| (fun h => absurd h (by decide))
            refine r_iconst c_114_62 <| r_istore_n_5_2 c_114_63 rfl <| r_iinc_5_3 c_114_64 rfl (by omega) <| r_goto c_114_67 <| ?_
            first
            | exact absurd hfull (by omega)
            | exact ih (i + 1) _ _ σ1 Q (by omega) (hC.cf (hf1.cf (A := [38, 39]) (by decide) (by decide)) (by decide)) (hl.fr2 hf1 (by decide)) (by rw [et]; exact hl1) (Or.inl ⟨rfl, hf.elim (fun g => g.2) (fun g => absurd g.1 (by assumption))⟩) (fun _ _ _ _ => trivial) (fun w1 σ2 w2 w3 => k1 w1 σ2 w2 (hf1.tr w3)) (fun w1 σ2 w3 => k0 w1 σ2 (hf1.tr w3))
            | exact ih (i + 1) _ _ σ1 Q (by omega) (hC.cf (hf1.cf (A := [38, 39]) (by decide) (by decide)) (by decide)) (hl.fr2 hf1 (by decide)) (by rw [et]; exact hl1) (Or.inl ⟨rfl, hf.elim (fun g => g.2) (fun g => by rw [g.2, if_pos (hm.1 hi)])⟩) (fun _ _ _ _ => trivial) (fun w1 σ2 w2 w3 => k1 w1 σ2 w2 (hf1.tr w3)) (fun w1 σ2 w3 => k0 w1 σ2 (hf1.tr w3))
            | exact ih (i + 1) _ _ σ1 Q (by omega) (hC.cf (hf1.cf (A := [38, 39]) (by decide) (by decide)) (by decide)) (hl.fr2 hf1 (by decide)) (by rw [et]; exact hl1) (Or.inr ⟨rfl, hf.elim (fun g => absurd g.1 (by omega)) (fun g => by rw [g.2, if_neg (fun h => hi (hm.2 h))])⟩) (fun _ _ _ _ => trivial) (fun w1 σ2 w2 w3 => k1 w1 σ2 w2 (hf1.tr w3)) (fun w1 σ2 w3 => k0 w1 σ2 (hf1.tr w3))
theorem ct_gr {σ : mk_S} {l : List Int} (hC : TC σ T) (hO : TOK T) (hl : rowOK σ 47 300 l)
    (k1 : rtF T l = true → ∀ σ', rowOK σ' 38 300 (drL T l) → fr2 38 σ σ' → Q (some (vI 1)) (hp L σ')) (k0 : rtF T l = false → ∀ σ', fr2 38 σ σ' → Q (some (vI 0)) (hp L σ')) : mm_call 114 [vP 35, vP 47] (hp L σ) Q := by
  refine ⟨Nat.le_of_ble_eq_true rfl, ?_⟩
  show mm_X 114 0 [vP 35, vP 47, mm_null, mm_null, mm_null] [] _ _
  refine r_aload_n c_114_0 rfl <| r_getf_a c_114_1 rfl rfl <| r_cV0 c_114_4 rfl (Nat.le_of_ble_eq_true rfl) <| ?_
  refine ct_clear row38 (fun σ1 hl1 hf1 => ?_)
  refine r_iconst c_114_7 <| r_istore_n_5_2 c_114_8 rfl <| r_iconst c_114_9 <| r_istore_n_5_3 c_114_10 rfl <| ?_
  exact lp_gr hO hl.2.1 l.length 0 0 _ σ1 Q (by omega) (hC.cf (hf1.cf (A := [38, 39]) (by decide) (by decide)) (by decide)) (hl.fr2 hf1 (by decide)) hl1 (Or.inr ⟨rfl, by rw [List.drop_zero]⟩) (fun _ _ _ _ => trivial) (fun w1 σ2 w2 w3 => k1 w1 σ2 w2 (hf1.tr w3)) (fun w1 σ2 w3 => k0 w1 σ2 (hf1.tr w3))
theorem ct_lpts {h : mm_H} (k : Q (some (vP 47)) h) (hh : ∃ σ, h = hp L σ) : mm_call 113 [vP 46] h Q := by
  obtain ⟨σ, rfl⟩ := hh
  refine ⟨Nat.le_of_ble_eq_true rfl, ?_⟩
  show mm_X 113 0 [vP 46] [] _ _
  refine r_aload_n c_113_0 rfl <| r_getf_a c_113_1 rfl rfl <| r_aret c_113_4 <| ?_
  exact k
theorem ct_lstart {σ : mk_S} {ls : List (List Int)} (hs : lbs σ ls) {i : Nat} (hi : i ≤ ls.length) (k : Q (some (vI (ofs ls i))) (hp L σ)) : mm_call 117 [vP 46, vI (i : Nat)] (hp L σ) Q := by
  obtain ⟨h1, h2, h3, h4⟩ := hs
  have e := h4 (i - 1)
  refine ⟨Nat.le_of_ble_eq_true rfl, ?_⟩
  show mm_X 117 0 [vP 46, vI (i : Nat)] [] _ _
  refine r_iload_n c_117_0 rfl <| r_if_le c_117_1 (fun h1 => ?_) <| (fun h1 => ?_)
  · refine r_iconst c_117_23 <| r_iret c_117_24 <| ?_
    first
    | exact absurd h9 (by omega)
    | (refine q_val k ?_
       rw [e (by omega), show i - 1 + 1 = i by omega]; rfl)
    | (refine q_val k ?_
       have e0 : i = 0 := by omega
       subst e0; rfl)
  · refine r_iload_n c_117_4 rfl <| r_aload_n c_117_5 rfl <| r_getf_i c_117_6 rfl rfl <| r_icmp_gt c_117_9 (fun h9 => ?_) <| (fun h9 => ?_)
    · refine r_iconst c_117_23 <| r_iret c_117_24 <| ?_
      first
      | exact absurd h9 (by omega)
      | (refine q_val k ?_
         rw [e (by omega), show i - 1 + 1 = i by omega]; rfl)
      | (refine q_val k ?_
         have e0 : i = 0 := by omega
         subst e0; rfl)
    · refine r_aload_n c_117_12 rfl <| r_getf_a c_117_13 rfl rfl <| r_iload_n c_117_16 rfl <| r_iconst c_117_17 <| r_isub c_117_18 (by omega) <| r_iald c_117_19 rfl (Or.inl rfl) (jn := i - 1) (by omega) (by omega) <| r_goto c_117_20 <| r_iret c_117_24 <| ?_
      first
      | exact absurd h9 (by omega)
      | (refine q_val k ?_
         rw [e (by omega), show i - 1 + 1 = i by omega]; rfl)
      | (refine q_val k ?_
         have e0 : i = 0 := by omega
         subst e0; rfl)
theorem ct_lend {σ : mk_S} {ls : List (List Int)} (hs : lbs σ ls) {i : Nat} (hi : i < ls.length) (k : Q (some (vI (ofs ls (i + 1) : Nat))) (hp L σ)) : mm_call 118 [vP 46, vI (i : Nat)] (hp L σ) Q := by
  obtain ⟨g1, g2, g3, g4⟩ := hs
  refine ⟨Nat.le_of_ble_eq_true rfl, ?_⟩
  show mm_X 118 0 [vP 46, vI (i : Nat)] [] _ _
  refine r_iload_n c_118_0 rfl <| r_if_lt c_118_1 (fun h1 => ?_) <| (fun h1 => ?_)
  · refine r_aload_n c_118_21 rfl <| r_getf_a c_118_22 rfl rfl <| r_cV0 c_118_25 rfl (Nat.le_of_ble_eq_true rfl) <| ?_
    refine ct_size row47 g1 ?_
    refine r_iret c_118_28 <| ?_
    first
    | exact absurd h9 (by omega)
    | exact absurd h1 (by omega)
    | (refine q_val k ?_
       rw [g4 i hi]; rfl)
  · refine r_iload_n c_118_4 rfl <| r_aload_n c_118_5 rfl <| r_getf_i c_118_6 rfl rfl <| r_icmp_ge c_118_9 (fun h9 => ?_) <| (fun h9 => ?_)
    · refine r_aload_n c_118_21 rfl <| r_getf_a c_118_22 rfl rfl <| r_cV0 c_118_25 rfl (Nat.le_of_ble_eq_true rfl) <| ?_
      refine ct_size row47 g1 ?_
      refine r_iret c_118_28 <| ?_
      first
      | exact absurd h9 (by omega)
      | exact absurd h1 (by omega)
      | (refine q_val k ?_
         rw [g4 i hi]; rfl)
    · refine r_aload_n c_118_12 rfl <| r_getf_a c_118_13 rfl rfl <| r_iload_n c_118_16 rfl <| r_iald c_118_17 rfl (Or.inl rfl) (jn := i) (by omega) (by omega) <| r_goto c_118_18 <| r_iret c_118_28 <| ?_
      first
      | exact absurd h9 (by omega)
      | exact absurd h1 (by omega)
      | (refine q_val k ?_
         rw [g4 i hi]; rfl)
theorem ct_lempty {σ : mk_S} {ls : List (List Int)} (hs : lbs σ ls) {i : Nat} (hi : i < ls.length) (k1 : (ls.getD i []).length = 0 → Q (some (vI 1)) (hp L σ)) (k0 : (ls.getD i []).length ≠ 0 → Q (some (vI 0)) (hp L σ)) : mm_call 116 [vP 46, vI (i : Nat)] (hp L σ) Q := by
  have h2 := ofs_succ hi
  have h3 := hs.1.2.1
  have h4 := ofs_fit hi
  refine ⟨Nat.le_of_ble_eq_true rfl, ?_⟩
  show mm_X 116 0 [vP 46, vI (i : Nat)] [] _ _
  refine r_aload_n c_116_0 rfl <| r_iload_n c_116_1 rfl <| r_cV1 c_116_2 rfl (Nat.le_of_ble_eq_true rfl) <| ?_
  refine ct_lstart hs (by omega) ?_
  refine r_aload_n c_116_5 rfl <| r_iload_n c_116_6 rfl <| r_cV1 c_116_7 rfl (Nat.le_of_ble_eq_true rfl) <| ?_
  refine ct_lend hs hi ?_
  refine r_icmp_ne c_116_10 (fun h10 => ?_) <| (fun h10 => ?_)
  · refine r_iconst c_116_17 <| r_zret c_116_18 (Or.inl rfl) <| ?_
    first | exact k1 (by omega) | exact k0 (by omega)
  · refine r_iconst c_116_13 <| r_goto c_116_14 <| r_zret c_116_18 (Or.inr rfl) <| ?_
    first | exact k1 (by omega) | exact k0 (by omega)
theorem lp_ld {ls : List (List Int)} {R : Int × Int} {σ : mk_S} (hO : TOK T) (hs : lbs σ ls) (hD : rowOK σ 38 300 (drL T ls.flatten)) (k1 : R = (-1, 0) → Q (some (vI 1)) (hp L σ)) (k0 : 0 ≤ R.1 → ∀ σ', dF σ' 46 R.1 R.2 → cf [34] σ σ' → Q (some (vI 0)) (hp L σ')) : ∀ (k i : Nat) (a2 : mm_V), i + k = ls.length → R = drF T (ls.drop i) i → mm_X 112 21 [vP 34, vI (i : Nat), a2] [] (hp L σ) Q := by
  intro k
  have hfl := hs.1.2.1
  have h301 := hs.2.2.1
  have e46 := hs.2.1
  have hdl : (drL T ls.flatten).length = ls.flatten.length := List.length_map ..
  induction k with
  | zero =>
    intro i a2 hi hR
    have ei : i = ls.length := by omega
    subst ei
    rw [List.drop_length] at hR
    simp only [drF] at hR
    refine r_iload_n c_112_21 rfl <| r_aload_n c_112_22 rfl <| r_getf_a c_112_23 rfl rfl <| r_cV0 c_112_26 rfl (Nat.le_of_ble_eq_true rfl) <| ?_
    refine ct_count ?_; rw [e46]
    refine r_icmp_ge c_112_29 (fun h29 => ?_) <| (fun h29 => ?_)
    · refine r_iconst c_112_86 <| r_zret c_112_87 (Or.inr rfl) <| ?_
      exact k1 hR
    · exact absurd h29 (by omega)
  | succ k ih =>
    intro i a2 hi hR
    rw [drs_at (by omega)] at hR
    simp only [drF] at hR
    have h2 := ofs_succ (os := ls) (i := i) (by omega)
    have h4 := ofs_fit (os := ls) (i := i) (by omega)
    have esg : sg (drL T ls.flatten) (ofs ls i) (ofs ls (i + 1)) = drL T (ls.getD i []) := by unfold drL; rw [sg_map, sg_fl (by omega)]
    refine r_iload_n c_112_21 rfl <| r_aload_n c_112_22 rfl <| r_getf_a c_112_23 rfl rfl <| r_cV0 c_112_26 rfl (Nat.le_of_ble_eq_true rfl) <| ?_
    refine ct_count ?_; rw [e46]
    refine r_icmp_ge c_112_29 (fun h29 => ?_) <| (fun h29 => ?_)
    · exact absurd h29 (by omega)
    · refine r_aload_n c_112_32 rfl <| r_getf_a c_112_33 rfl rfl <| r_iload_n c_112_36 rfl <| r_cV1 c_112_37 rfl (Nat.le_of_ble_eq_true rfl) <| ?_
      refine ct_lempty hs (by omega) (fun he => ?_) (fun he => ?_)
      · refine r_if_ne c_112_40 (fun _ => ?_) <| (fun h => absurd h (by decide))
        refine r_iinc_3_1 c_112_80 rfl (by omega) <| r_goto c_112_83 <| ?_
        have hn : ¬ ((ls.getD i []).length ≠ 0 ∧ 0 ≤ dirW (drL T (ls.getD i []))) := by
          intro h
          omega
        rw [if_neg hn] at hR
        exact ih (i + 1) _ (by omega) hR
      · refine r_if_ne c_112_40 (fun h => absurd h (by decide)) <| (fun _ => ?_)
        refine r_aload_n c_112_43 rfl <| r_getf_a c_112_44 rfl rfl <| r_aload_n c_112_47 rfl <| r_getf_a c_112_48 rfl rfl <| r_iload_n c_112_51 rfl <| r_cV1 c_112_52 rfl (Nat.le_of_ble_eq_true rfl) <| ?_
        refine ct_lstart hs (by omega) ?_
        refine r_aload_n c_112_55 rfl <| r_getf_a c_112_56 rfl rfl <| r_iload_n c_112_59 rfl <| r_cV1 c_112_60 rfl (Nat.le_of_ble_eq_true rfl) <| ?_
        refine ct_lend hs (by omega) ?_
        refine r_cV2 c_112_63 rfl (Nat.le_of_ble_eq_true rfl) <| ?_
        refine ct_dirW hD (by omega) (by omega) (drL_dr0 hO _) ?_; rw [esg]
        refine r_istore_n_3_2 c_112_66 rfl <| r_iload_n c_112_67 rfl <| r_if_lt c_112_68 (fun h68 => ?_) <| (fun h68 => ?_)
        · refine r_iinc_3_1 c_112_80 rfl (by omega) <| r_goto c_112_83 <| ?_
          have hn : ¬ ((ls.getD i []).length ≠ 0 ∧ 0 ≤ dirW (drL T (ls.getD i []))) := by
            intro h
            omega
          rw [if_neg hn] at hR
          exact ih (i + 1) _ (by omega) hR
        · refine r_aload_n c_112_71 rfl <| r_bipush c_112_72 <| r_iload_n c_112_74 rfl <| r_iload_n c_112_75 rfl <| r_cV3 c_112_76 rfl (Nat.le_of_ble_eq_true rfl) <| ?_
          refine ct_fail _ _ _ (fun σ2 hd2 hf2 => ?_)
          refine r_zret c_112_79 (by omega) <| ?_
          rw [if_pos ⟨he, by omega⟩] at hR
          rw [hR] at k0
          exact k0 (by simp only []; omega) σ2 hd2 hf2
theorem ct_ld {σ : mk_S} {ls : List (List Int)} (hC : TC σ T) (hO : TOK T) (hs : lbs σ ls) (k1 : (DR T ls).1 < 0 → ∀ σ', cf [38, 39] σ σ' → Q (some (vI 1)) (hp L σ')) (k0 : 0 ≤ (DR T ls).1 → ∀ σ', dF σ' 46 (DR T ls).1 (DR T ls).2 → cf [34, 38, 39] σ σ' → Q (some (vI 0)) (hp L σ')) : mm_call 112 [vP 34] (hp L σ) Q := by
  unfold DR at k1 k0
  refine ⟨Nat.le_of_ble_eq_true rfl, ?_⟩
  show mm_X 112 0 [vP 34, mm_null, mm_null] [] _ _
  refine r_aload_n c_112_0 rfl <| r_getf_a c_112_1 rfl rfl <| r_aload_n c_112_4 rfl <| r_getf_a c_112_5 rfl rfl <| r_cV0 c_112_8 rfl (Nat.le_of_ble_eq_true rfl) <| ?_
  refine ct_lpts (L := L) ?_ ⟨σ, rfl⟩
  refine r_cV1 c_112_11 rfl (Nat.le_of_ble_eq_true rfl) <| ?_
  refine ct_gr hC hO hs.1 (fun hr σ1 hl1 hf1 => ?_) (fun hr σ1 hf1 => ?_)
  · refine r_if_ne c_112_14 (fun _ => ?_) <| (fun h => absurd h (by decide))
    refine r_iconst c_112_19 <| r_istore_n_3_1 c_112_20 rfl <| ?_
    rw [if_neg (by rw [hr]; decide)] at k1 k0
    refine lp_ld (R := drF T ls 0) hO (hs.cf (hf1.cf (A := [38, 39]) (by decide) (by decide)) (by decide)) hl1 (fun e => ?_) (fun e σ2 w1 w2 => ?_) ls.length 0 _ (by omega) (by rw [List.drop_zero])
    · exact k1 (by rw [e]; decide) σ1 (hf1.cf (by decide) (by decide))
    · exact k0 e σ2 w1 ((hf1.cf (by decide) (by decide)).tr (w2.up (by decide)))
  · refine r_if_ne c_112_14 (fun h => absurd h (by decide)) <| (fun _ => ?_)
    refine r_iconst c_112_17 <| r_zret c_112_18 (Or.inr rfl) <| ?_
    rw [if_pos hr] at k1
    exact k1 (by decide) σ1 (hf1.cf (by decide) (by decide))
end CDIRS
