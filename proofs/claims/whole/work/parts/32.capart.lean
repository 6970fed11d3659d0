/-! APART, the class's way. -/
theorem exL_len1 {T : mk_S} (hO : TOK T) : ∀ (n : Nat) (p : Int), p.toNat ≤ n → 1 ≤ (ex T p).length := by
  intro n
  induction n with
  | zero =>
    intro p hp
    by_cases h : isSyl p
    · unfold isSyl at h; omega
    · have : ptI T p = -1 := ptI_low hO (by omega)
      rw [ex_leaf h (by omega)]; simp
  | succ n ih =>
    intro p hp
    by_cases h : isSyl p
    · rw [ex_syl h]; unfold sylL; split <;> simp
    · rcases ptI_cases T p with g | ⟨j, g1, g2, g3⟩
      · rw [ex_leaf h (by omega)]; simp
      · obtain ⟨q1, q2, q3, q4, q5, q6, q7, q8, q9, q10, q11⟩ := hO.2.2.1 j g2
        rw [ex_part hO h g1, List.length_append]
        unfold isPt at q4
        have := ih (T 19 j) (by omega)
        omega
theorem ex_len1 {T : mk_S} (hO : TOK T) (p : Int) : 1 ≤ (ex T p).length := exL_len1 hO p.toNat p (Nat.le_refl _)
def remS (T : mk_S) (ps : List Int) : List Int := ps.reverse.flatMap (ex T)
theorem remS_snoc {T : mk_S} (ps : List Int) (p : Int) : remS T (ps ++ [p]) = ex T p ++ remS T ps := by unfold remS; simp
theorem snoc_of {ps : List Int} (h : ps.length ≠ 0) : ps = ps.take (ps.length - 1) ++ [ps.getD (ps.length - 1) 0] := by
  apply gd_ext
  · simp; omega
  · intro i hi
    by_cases e : i = ps.length - 1
    · have hl : (ps.take (ps.length - 1)).length = ps.length - 1 := by simp
      have := gd_app_at (l := ps.take (ps.length - 1)) (m := []) (z := ps.getD (ps.length - 1) 0)
      rw [hl] at this
      rw [e, this]
    · rw [gd_app (by simp; omega), gd_take (by omega)]
theorem set_at {A B : List Int} {y z : Int} {n : Nat} (h : n = A.length) : (A ++ y :: B).set n z = A ++ z :: B := by
  subst h
  rw [List.set_append_right _ _ (Nat.le_refl _), Nat.sub_self, List.set_cons_zero]
theorem gd_at {A B : List Int} {y : Int} {n : Nat} (h : n = A.length) : (A ++ y :: B).getD n 0 = y := by subst h; exact gd_app_at
section CAPART
variable {L : Nat} {T : mk_S}
theorem ct_appSyl {σ : mk_S} {rt : Nat} {l : List Int} {p : Int} {Q : Option mm_V → mm_H → Prop} (hrt : isRow L rt 300) (hsy : isSyl p) (hl : rowOK σ rt 300 l) (k1 : (l ++ sylL p).length ≤ 300 → ∀ σ', rowOK σ' rt 300 (l ++ sylL p) → fr2 rt σ σ' → Q (some (vI 1)) (hp L σ')) (k0 : 300 < (l ++ sylL p).length → ∀ σ', fr2 rt σ σ' → Q (some (vI 0)) (hp L σ')) : mm_call 59 [vI p, vP rt] (hp L σ) Q := by
  have hle := hl.2.1
  have hsl : 2 ≤ (sylL p).length := by unfold sylL; split <;> simp
  have hsl3 : (p - 44032) % 28 ≠ 0 → (sylL p).length = 3 := fun h => by unfold sylL; rw [if_neg h]; rfl
  have hsl2 : (p - 44032) % 28 = 0 → (sylL p).length = 2 := fun h => by unfold sylL; rw [if_pos h]; rfl
  have hlen : (l ++ sylL p).length = l.length + (sylL p).length := List.length_append
  refine ⟨Nat.le_of_ble_eq_true rfl, ?_⟩
  show mm_X 59 0 [vI p, vP rt, mm_null] [] _ _
  refine r_iload_n c_59_0 rfl <| r_cS1 c_59_1 (Nat.le_of_ble_eq_true rfl) <| ?_
  refine ct_tailOf p hsy ?_
  refine r_istore_n_3_2 c_59_4 rfl <| r_aload_n c_59_5 rfl <| r_iload_n c_59_6 rfl <| r_cS1 c_59_7 (Nat.le_of_ble_eq_true rfl) <| ?_
  refine ct_leadOf p hsy ?_
  refine r_cV1 c_59_10 hrt.1 (Nat.le_of_ble_eq_true rfl) <| ?_
  refine ct_append hrt hl _ (fun hlt1 σ1 hl1 hf1 => ?_) (fun hfull1 => ?_)
  · refine r_if_eq c_59_13 (fun h => absurd h (by decide)) <| (fun _ => ?_)
    refine r_aload_n c_59_16 rfl <| r_iload_n c_59_17 rfl <| r_cS1 c_59_18 (Nat.le_of_ble_eq_true rfl) <| ?_
    refine ct_vowelOf p hsy ?_
    refine r_cV1 c_59_21 hrt.1 (Nat.le_of_ble_eq_true rfl) <| ?_
    refine ct_append hrt hl1 _ (fun hlt2 σ2 hl2 hf2 => ?_) (fun hfull2 => ?_)
    · refine r_if_eq c_59_24 (fun h => absurd h (by decide)) <| (fun _ => ?_)
      refine r_iload_n c_59_27 rfl <| r_if_eq c_59_28 (fun h28 => ?_) <| (fun h28 => ?_)
      · refine r_iconst c_59_39 <| r_goto c_59_40 <| r_zret c_59_44 (Or.inr rfl) <| ?_
        first
        | exact k0 (by omega) σ fr2.rf
        | exact k0 (by simp at hfull2; omega) σ1 hf1
        | (exact k0 (by
            have h9 : (p - 44032) % 28 ≠ 0 := fun e => by rw [if_pos e] at h28; exact h28 rfl
            have := hsl3 h9; simp at hfull3; omega) σ2 (hf1.tr hf2))
        | (have h9 : (p - 44032) % 28 = 0 := by
             by_cases e : (p - 44032) % 28 = 0
             · exact e
             · rw [if_neg e] at h28; omega
           refine k1 (by have := hsl2 h9; simp at hlt2; omega) σ2 ?_ (hf1.tr hf2)
           unfold sylL; rw [if_pos h9]; simpa using hl2)
        | (have h9 : (p - 44032) % 28 ≠ 0 := fun e => by rw [if_pos e] at h28; exact h28 rfl
           refine k1 (by have := hsl3 h9; simp at hlt3; omega) σ3 ?_ ((hf1.tr hf2).tr hf3)
           rw [if_neg h9] at hl3
           unfold sylL; rw [if_neg h9]; simpa using hl3)
      · refine r_aload_n c_59_31 rfl <| r_iload_n c_59_32 rfl <| r_cV1 c_59_33 hrt.1 (Nat.le_of_ble_eq_true rfl) <| ?_
        refine ct_append hrt hl2 _ (fun hlt3 σ3 hl3 hf3 => ?_) (fun hfull3 => ?_)
        · refine r_if_eq c_59_36 (fun h => absurd h (by decide)) <| (fun _ => ?_)
          refine r_iconst c_59_39 <| r_goto c_59_40 <| r_zret c_59_44 (Or.inr rfl) <| ?_
          first
          | exact k0 (by omega) σ fr2.rf
          | exact k0 (by simp at hfull2; omega) σ1 hf1
          | (exact k0 (by
              have h9 : (p - 44032) % 28 ≠ 0 := fun e => by rw [if_pos e] at h28; exact h28 rfl
              have := hsl3 h9; simp at hfull3; omega) σ2 (hf1.tr hf2))
          | (have h9 : (p - 44032) % 28 = 0 := by
               by_cases e : (p - 44032) % 28 = 0
               · exact e
               · rw [if_neg e] at h28; omega
             refine k1 (by have := hsl2 h9; simp at hlt2; omega) σ2 ?_ (hf1.tr hf2)
             unfold sylL; rw [if_pos h9]; simpa using hl2)
          | (have h9 : (p - 44032) % 28 ≠ 0 := fun e => by rw [if_pos e] at h28; exact h28 rfl
             refine k1 (by have := hsl3 h9; simp at hlt3; omega) σ3 ?_ ((hf1.tr hf2).tr hf3)
             rw [if_neg h9] at hl3
             unfold sylL; rw [if_neg h9]; simpa using hl3)
        · refine r_if_eq c_59_36 (fun _ => ?_) <| (fun h => absurd h (by decide))
          refine r_iconst c_59_43 <| r_zret c_59_44 (Or.inl rfl) <| ?_
          first
          | exact k0 (by omega) σ fr2.rf
          | exact k0 (by simp at hfull2; omega) σ1 hf1
          | (exact k0 (by
              have h9 : (p - 44032) % 28 ≠ 0 := fun e => by rw [if_pos e] at h28; exact h28 rfl
              have := hsl3 h9; simp at hfull3; omega) σ2 (hf1.tr hf2))
          | (have h9 : (p - 44032) % 28 = 0 := by
               by_cases e : (p - 44032) % 28 = 0
               · exact e
               · rw [if_neg e] at h28; omega
             refine k1 (by have := hsl2 h9; simp at hlt2; omega) σ2 ?_ (hf1.tr hf2)
             unfold sylL; rw [if_pos h9]; simpa using hl2)
          | (have h9 : (p - 44032) % 28 ≠ 0 := fun e => by rw [if_pos e] at h28; exact h28 rfl
             refine k1 (by have := hsl3 h9; simp at hlt3; omega) σ3 ?_ ((hf1.tr hf2).tr hf3)
             rw [if_neg h9] at hl3
             unfold sylL; rw [if_neg h9]; simpa using hl3)
    · refine r_if_eq c_59_24 (fun _ => ?_) <| (fun h => absurd h (by decide))
      refine r_iconst c_59_43 <| r_zret c_59_44 (Or.inl rfl) <| ?_
      first
      | exact k0 (by omega) σ fr2.rf
      | exact k0 (by simp at hfull2; omega) σ1 hf1
      | (exact k0 (by
          have h9 : (p - 44032) % 28 ≠ 0 := fun e => by rw [if_pos e] at h28; exact h28 rfl
          have := hsl3 h9; simp at hfull3; omega) σ2 (hf1.tr hf2))
      | (have h9 : (p - 44032) % 28 = 0 := by
           by_cases e : (p - 44032) % 28 = 0
           · exact e
           · rw [if_neg e] at h28; omega
         refine k1 (by have := hsl2 h9; simp at hlt2; omega) σ2 ?_ (hf1.tr hf2)
         unfold sylL; rw [if_pos h9]; simpa using hl2)
      | (have h9 : (p - 44032) % 28 ≠ 0 := fun e => by rw [if_pos e] at h28; exact h28 rfl
         refine k1 (by have := hsl3 h9; simp at hlt3; omega) σ3 ?_ ((hf1.tr hf2).tr hf3)
         rw [if_neg h9] at hl3
         unfold sylL; rw [if_neg h9]; simpa using hl3)
  · refine r_if_eq c_59_13 (fun _ => ?_) <| (fun h => absurd h (by decide))
    refine r_iconst c_59_43 <| r_zret c_59_44 (Or.inl rfl) <| ?_
    first
    | exact k0 (by omega) σ fr2.rf
    | exact k0 (by simp at hfull2; omega) σ1 hf1
    | (exact k0 (by
        have h9 : (p - 44032) % 28 ≠ 0 := fun e => by rw [if_pos e] at h28; exact h28 rfl
        have := hsl3 h9; simp at hfull3; omega) σ2 (hf1.tr hf2))
    | (have h9 : (p - 44032) % 28 = 0 := by
         by_cases e : (p - 44032) % 28 = 0
         · exact e
         · rw [if_neg e] at h28; omega
       refine k1 (by have := hsl2 h9; simp at hlt2; omega) σ2 ?_ (hf1.tr hf2)
       unfold sylL; rw [if_pos h9]; simpa using hl2)
    | (have h9 : (p - 44032) % 28 ≠ 0 := fun e => by rw [if_pos e] at h28; exact h28 rfl
       refine k1 (by have := hsl3 h9; simp at hlt3; omega) σ3 ?_ ((hf1.tr hf2).tr hf3)
       rw [if_neg h9] at hl3
       unfold sylL; rw [if_neg h9]; simpa using hl3)
def nsy (p : Int) : Prop := ¬ isSyl p
theorem part_facts (hO : TOK T) {p : Int} {j : Nat} (hjn : j < nP T) (hpj : T 18 j = p) : dT T p + 1 ≤ dT T (T 19 j) ∧ dT T p + 1 ≤ dT T (T 20 j) ∧ nsy (T 19 j) ∧ nsy (T 20 j) ∧ dT T (T 19 j) ≤ 100 := by
  obtain ⟨q1, q2, q3, q4, q5, q6, q7, q8, q9, q10, q11⟩ := hO.2.2.1 j hjn
  exact ⟨dT_lt hjn hpj (by rw [← hpj]; exact q5), dT_lt hjn hpj (by rw [← hpj]; exact q9), fun q => q7 (Or.inl q), fun q => q10 (Or.inl q), dT_le hO _⟩
/-- the walk at its head, with k steps' fuel -/
def PSt (L : Nat) (T : mk_S) (rt : Nat) (p0 : Int) (R : List Int) (k : Nat) : Prop := ∀ (ps l : List Int) (s : Nat) (σ : mk_S) (a5 a6 : mm_V) (Q : Option mm_V → mm_H → Prop),
    (if ps.length = 0 then 0 else (301 - l.length) * 102 + (101 - dT T (ps.getD (ps.length - 1) 0))) < k → TC σ T → (∀ i, i < ps.length → σ 31 i = ps.getD i 0) → (∀ i, i < ps.length → i ≤ dT T (ps.getD i 0) ∧ nsy (ps.getD i 0)) → (ps.length ≠ 0 → s ≤ 101 * l.length + dT T (ps.getD (ps.length - 1) 0)) → rowOK σ rt 300 l → R = l ++ remS T ps →
    (R.length ≤ 300 → ∀ σ', rowOK σ' rt 300 R → cf [31, rt, rt + 1] σ σ' → Q (some (vI 1)) (hp L σ')) → (300 < R.length → ∀ σ', cf [31, rt, rt + 1] σ σ' → Q (some (vI 0)) (hp L σ')) →
    mm_X 63 12 [vP 30, vI p0, vP rt, vI ps.length, vI s, a5, a6] [] (hp L σ) Q
theorem ps_A {rt : Nat} {p0 : Int} {R : List Int} {k : Nat} (ih : PSt L T rt p0 R k) (hd : rt + 1 < 11 ∨ 33 < rt) {ps l : List Int} {s : Nat} {σ σ1 : mk_S} {p : Int} {a5 a6 : mm_V} {Q : Option mm_V → mm_H → Prop} (hz : ps.length ≠ 0) (hk : (301 - l.length) * 102 + (101 - dT T p) < k + 1) (hle : l.length < 300) (hd9 : dT T p ≤ 100) (hC : TC σ T) (harr : ∀ i, i < ps.length → σ 31 i = ps.getD i 0) (hinv : ∀ i, i < ps.length → i ≤ dT T (ps.getD i 0) ∧ nsy (ps.getD i 0)) (hs : s ≤ 101 * l.length + dT T p) (hl1 : rowOK σ1 rt 300 (l ++ [p])) (hf1 : fr2 rt σ σ1) (hRn : R = (l ++ [p]) ++ remS T (ps.take (ps.length - 1)))
    (k1 : R.length ≤ 300 → ∀ σ', rowOK σ' rt 300 R → cf [31, rt, rt + 1] σ σ' → Q (some (vI 1)) (hp L σ')) (k0 : 300 < R.length → ∀ σ', cf [31, rt, rt + 1] σ σ' → Q (some (vI 0)) (hp L σ')) : mm_X 63 12 [vP 30, vI p0, vP rt, vI ((ps.length : Int) + -1), vI ((s : Int) + 1), a5, a6] [] (hp L σ1) Q := by
  have htl : (ps.take (ps.length - 1)).length = ps.length - 1 := by simp
  have htg : ∀ i, i < ps.length - 1 → (ps.take (ps.length - 1)).getD i 0 = ps.getD i 0 := fun i hi => gd_take hi
  have hcf : cf [31, rt, rt + 1] σ σ1 := hf1.cf (by simp) (by simp)
  have hll : (l ++ [p]).length = l.length + 1 := by simp
  rw [show (ps.length : Int) + -1 = ((ps.take (ps.length - 1)).length : Int) by omega, show (s : Int) + 1 = ((s + 1 : Nat) : Int) by omega]
  refine ih (ps.take (ps.length - 1)) (l ++ [p]) (s + 1) σ1 _ _ Q ?_ (hC.cf hcf (fun a ha => by simp at ha; omega)) (fun i hi => ?_) (fun i hi => ?_) (fun hz2 => ?_) hl1 hRn (fun h9 σ2 g1 g2 => k1 h9 σ2 g1 (hcf.tr g2)) (fun h9 σ2 g2 => k0 h9 σ2 (hcf.tr g2))
  · rw [hll]
    split
    · omega
    · omega
  · rw [htg i (by omega), hf1 31 (by omega) (by omega)]; exact harr i (by omega)
  · rw [htg i (by omega)]; exact hinv i (by omega)
  · rw [hll]; omega
theorem ps_B {rt : Nat} {p0 : Int} {R : List Int} {k : Nat} (ih : PSt L T rt p0 R k) (hd : rt + 1 < 11 ∨ 33 < rt) {ps l : List Int} {s : Nat} {σ : mk_S} {p x : Int} {a5 a6 : mm_V} {Q : Option mm_V → mm_H → Prop} (hz : ps.length ≠ 0) (hk : (301 - l.length) * 102 + (101 - dT T p) < k + 1) (hle : l.length ≤ 300) (hd9 : dT T p ≤ 100) (hC : TC σ T) (harr : ∀ i, i < ps.length → σ 31 i = ps.getD i 0) (hinv : ∀ i, i < ps.length → i ≤ dT T (ps.getD i 0) ∧ nsy (ps.getD i 0)) (hi1 : ps.length - 1 ≤ dT T p) (hs : s ≤ 101 * l.length + dT T p) (hl : rowOK σ rt 300 l) (hd1 : dT T p + 1 ≤ dT T x) (hd3 : dT T x ≤ 100) (hx : nsy x) (hRn : R = l ++ remS T (ps.take (ps.length - 1) ++ [x]))
    (k1 : R.length ≤ 300 → ∀ σ', rowOK σ' rt 300 R → cf [31, rt, rt + 1] σ σ' → Q (some (vI 1)) (hp L σ')) (k0 : 300 < R.length → ∀ σ', cf [31, rt, rt + 1] σ σ' → Q (some (vI 0)) (hp L σ')) : mm_X 63 12 [vP 30, vI p0, vP rt, vI ((ps.length : Int) + -1 + 1), vI ((s : Int) + 1), a5, a6] [] (hp L (sto σ 31 (ps.length - 1) x)) Q := by
  have htl : (ps.take (ps.length - 1)).length = ps.length - 1 := by simp
  have htg : ∀ i, i < ps.length - 1 → (ps.take (ps.length - 1)).getD i 0 = ps.getD i 0 := fun i hi => gd_take hi
  have hln : (ps.take (ps.length - 1) ++ [x]).length = ps.length := by simp; omega
  have hcf : cf [31, rt, rt + 1] σ (sto σ 31 (ps.length - 1) x) := cf.rf.sto (by simp)
  have hlast : (ps.take (ps.length - 1) ++ [x]).getD ((ps.take (ps.length - 1) ++ [x]).length - 1) 0 = x := by rw [hln]; exact gd_at (by omega)
  rw [show (ps.length : Int) + -1 + 1 = ((ps.take (ps.length - 1) ++ [x]).length : Int) by rw [hln]; omega, show (s : Int) + 1 = ((s + 1 : Nat) : Int) by omega]
  refine ih (ps.take (ps.length - 1) ++ [x]) l (s + 1) _ _ _ Q ?_ (hC.cf hcf (fun a ha => by simp at ha; omega)) (fun i hi => ?_) (fun i hi => ?_) (fun hz2 => ?_) (hl.fr (sto_ne (by omega)) (sto_ne (by omega))) hRn (fun h9 σ2 g1 g2 => k1 h9 σ2 g1 (hcf.tr g2)) (fun h9 σ2 g2 => k0 h9 σ2 (hcf.tr g2))
  · rw [if_neg (by omega), hlast]; omega
  · rw [hln] at hi
    rw [sto_at]
    by_cases e : i = ps.length - 1
    · subst e; rw [st_at]; exact (gd_at (by omega)).symm
    · rw [st_ne e, gd_app (by omega), htg i (by omega)]; exact harr i (by omega)
  · rw [hln] at hi
    by_cases e : i = ps.length - 1
    · subst e; rw [gd_at (by omega)]; exact ⟨by omega, hx⟩
    · rw [gd_app (by omega), htg i (by omega)]; exact hinv i (by omega)
  · rw [hlast]; omega
theorem ps_C {rt : Nat} {p0 : Int} {R : List Int} {k : Nat} (ih : PSt L T rt p0 R k) (hd : rt + 1 < 11 ∨ 33 < rt) {ps l : List Int} {s : Nat} {σ : mk_S} {p x y : Int} {a5 a6 : mm_V} {Q : Option mm_V → mm_H → Prop} (hz : ps.length ≠ 0) (hk : (301 - l.length) * 102 + (101 - dT T p) < k + 1) (hle : l.length ≤ 300) (hd9 : dT T p ≤ 100) (hC : TC σ T) (harr : ∀ i, i < ps.length → σ 31 i = ps.getD i 0) (hinv : ∀ i, i < ps.length → i ≤ dT T (ps.getD i 0) ∧ nsy (ps.getD i 0)) (hi1 : ps.length - 1 ≤ dT T p) (hs : s ≤ 101 * l.length + dT T p) (hl : rowOK σ rt 300 l) (hd1 : dT T p + 1 ≤ dT T x) (hd3 : dT T x ≤ 100) (hx : nsy x) (hd2 : dT T p + 1 ≤ dT T y) (hy : nsy y) (hRn : R = l ++ remS T (ps.take (ps.length - 1) ++ [y] ++ [x]))
    (k1 : R.length ≤ 300 → ∀ σ', rowOK σ' rt 300 R → cf [31, rt, rt + 1] σ σ' → Q (some (vI 1)) (hp L σ')) (k0 : 300 < R.length → ∀ σ', cf [31, rt, rt + 1] σ σ' → Q (some (vI 0)) (hp L σ')) : mm_X 63 12 [vP 30, vI p0, vP rt, vI ((ps.length : Int) + -1 + 1 + 1), vI ((s : Int) + 1), a5, a6] [] (hp L (sto (sto σ 31 (ps.length - 1) y) 31 ps.length x)) Q := by
  have htl : (ps.take (ps.length - 1)).length = ps.length - 1 := by simp
  have htg : ∀ i, i < ps.length - 1 → (ps.take (ps.length - 1)).getD i 0 = ps.getD i 0 := fun i hi => gd_take hi
  have hln2 : (ps.take (ps.length - 1) ++ [y]).length = ps.length := by simp; omega
  have hln : (ps.take (ps.length - 1) ++ [y] ++ [x]).length = ps.length + 1 := by rw [List.length_append, hln2]; rfl
  have hcf : cf [31, rt, rt + 1] σ (sto (sto σ 31 (ps.length - 1) y) 31 ps.length x) := (cf.rf.sto (by simp)).sto (by simp)
  have hlast : (ps.take (ps.length - 1) ++ [y] ++ [x]).getD ((ps.take (ps.length - 1) ++ [y] ++ [x]).length - 1) 0 = x := by rw [hln]; exact gd_at (by omega)
  rw [show (ps.length : Int) + -1 + 1 + 1 = ((ps.take (ps.length - 1) ++ [y] ++ [x]).length : Int) by rw [hln]; omega, show (s : Int) + 1 = ((s + 1 : Nat) : Int) by omega]
  refine ih (ps.take (ps.length - 1) ++ [y] ++ [x]) l (s + 1) _ _ _ Q ?_ (hC.cf hcf (fun a ha => by simp at ha; omega)) (fun i hi => ?_) (fun i hi => ?_) (fun hz2 => ?_) (hl.fr ((sto_ne (by omega)).trans (sto_ne (by omega))) ((sto_ne (by omega)).trans (sto_ne (by omega)))) hRn (fun h9 σ2 g1 g2 => k1 h9 σ2 g1 (hcf.tr g2)) (fun h9 σ2 g2 => k0 h9 σ2 (hcf.tr g2))
  · rw [if_neg (by omega), hlast]; omega
  · rw [hln] at hi
    rw [sto_at, sto_at]
    by_cases e : i = ps.length
    · subst e; rw [st_at]; exact (gd_at (by omega)).symm
    · rw [st_ne e, gd_app (by omega)]
      by_cases e2 : i = ps.length - 1
      · subst e2; rw [st_at]; exact (gd_at (by omega)).symm
      · rw [st_ne e2, gd_app (by omega), htg i (by omega)]; exact harr i (by omega)
  · rw [hln] at hi
    by_cases e : i = ps.length
    · subst e; rw [gd_at (by omega)]; exact ⟨by omega, hx⟩
    · rw [gd_app (by omega)]
      by_cases e2 : i = ps.length - 1
      · subst e2; rw [gd_at (by omega)]; exact ⟨by omega, hy⟩
      · rw [gd_app (by omega), htg i (by omega)]; exact hinv i (by omega)
  · rw [hlast]; omega
theorem lp_parts {rt : Nat} {R : List Int} (hO : TOK T) (hrt : isRow L rt 300) (hd : rt + 1 < 11 ∨ 33 < rt) {p0 : Int} : ∀ (k : Nat), PSt L T rt p0 R k := by
  intro k
  induction k with
  | zero => intro ps l s σ a5 a6 Q h1; exact absurd h1 (Nat.not_lt_zero _)
  | succ k ih =>
    intro ps l s σ a5 a6 Q hk hC harr hinv hs hl hR k1 k0
    have hle := hl.2.1
    have hd9 : dT T (ps.getD (ps.length - 1) 0) ≤ 100 := dT_le hO _
    by_cases hz : ps.length = 0
    · have hps : ps = [] := List.length_eq_zero_iff.mp hz
      rw [hps] at hR
      have hR : R = l := by rw [hR]; simp [remS]
      refine r_iload_n c_63_12 rfl <| r_if_le c_63_13 (fun h13 => ?_) <| (fun h13 => ?_)
      · refine r_iload_n c_63_126 rfl <| r_if_ne c_63_127 (fun h127 => ?_) <| (fun h127 => ?_)
        · refine r_iconst c_63_134 <| r_zret c_63_135 (Or.inl rfl) <| ?_
          first | exact absurd hz (by omega) | exact k1 (by rw [hR]; exact hle) σ (by rw [hR]; exact hl) cf.rf
        · refine r_iconst c_63_130 <| r_goto c_63_131 <| r_zret c_63_135 (Or.inr rfl) <| ?_
          first | exact absurd hz (by omega) | exact k1 (by rw [hR]; exact hle) σ (by rw [hR]; exact hl) cf.rf
      · exact absurd h13 (by omega)
    · rw [if_neg hz] at hk
      have hs := hs hz
      obtain ⟨hi1, hi2⟩ := hinv (ps.length - 1) (by omega)
      have hps := snoc_of hz
      have hval := harr (ps.length - 1) (by omega)
      have hRp : R = l ++ (ex T (ps.getD (ps.length - 1) 0) ++ remS T (ps.take (ps.length - 1))) := by rw [hR]; conv => lhs; rw [hps, remS_snoc]
      generalize hpe : ps.getD (ps.length - 1) 0 = p at hs hi1 hi2 hval hRp hk hd9
      have hex := ex_len1 hO p
      refine r_iload_n c_63_12 rfl <| r_if_le c_63_13 (fun h13 => ?_) <| (fun h13 => ?_)
      · refine r_iload_n c_63_126 rfl <| r_if_ne c_63_127 (fun h127 => ?_) <| (fun h127 => ?_)
        · refine r_iconst c_63_134 <| r_zret c_63_135 (Or.inl rfl) <| ?_
          first | exact absurd h13 (by omega) | exact absurd h20 (by omega)
        · refine r_iconst c_63_130 <| r_goto c_63_131 <| r_zret c_63_135 (Or.inr rfl) <| ?_
          first | exact absurd h13 (by omega) | exact absurd h20 (by omega)
      · refine r_iload c_63_16 rfl <| r_ldc c_63_18 <| r_icmp_ge c_63_20 (fun h20 => ?_) <| (fun h20 => ?_)
        · refine r_iload_n c_63_126 rfl <| r_if_ne c_63_127 (fun h127 => ?_) <| (fun h127 => ?_)
          · refine r_iconst c_63_134 <| r_zret c_63_135 (Or.inl rfl) <| ?_
            first | exact absurd h13 (by omega) | exact absurd h20 (by omega)
          · refine r_iconst c_63_130 <| r_goto c_63_131 <| r_zret c_63_135 (Or.inr rfl) <| ?_
            first | exact absurd h13 (by omega) | exact absurd h20 (by omega)
        · refine r_iinc_7_3 c_63_23 rfl (by omega) <| r_aload_n c_63_26 rfl <| r_getf_a c_63_27 rfl rfl <| r_iload_n c_63_30 rfl <| r_iald c_63_31 rfl (Or.inl rfl) (jn := ps.length - 1) (by omega) (by omega) <| ?_
          rw [hval]
          refine r_istore_7_5 c_63_32 rfl <| r_aload_n c_63_34 rfl <| r_getf_a c_63_35 rfl rfl <| r_iload c_63_38 rfl <| r_cV1 c_63_40 rfl (Nat.le_of_ble_eq_true rfl) <| ?_
          refine ct_pfind hC hO p ?_
          refine r_istore_7_6 c_63_43 rfl <| r_iload c_63_45 rfl <| r_if_ge c_63_47 (fun h47 => ?_) <| (fun h47 => ?_)
          · obtain ⟨j, hj, hjn, hpj⟩ := (ptI_cases T p).resolve_left (by omega)
            obtain ⟨hd1, hd2, hn1, hn2, hd3⟩ := part_facts hO hjn hpj
            have hexp := ex_part hO hi2 hj
            rw [hj]
            have hRp : R = l ++ (ex T (T 19 j) ++ (if T 20 j ≠ 0 then ex T (T 20 j) else []) ++ remS T (ps.take (ps.length - 1))) := by rw [hRp, hexp]
            clear hexp hi2 hR hps hex hval hpe
            refine r_iload_n c_63_61 rfl <| r_iconst c_63_62 <| r_iadd c_63_63 (by omega) <| r_sipush c_63_64 <| r_icmp_le c_63_67 (fun h67 => ?_) <| (fun h67 => ?_)
            · refine r_aload_n c_63_72 rfl <| r_getf_a c_63_73 rfl rfl <| r_iload c_63_76 rfl <| r_cV1 c_63_78 rfl (Nat.le_of_ble_eq_true rfl) <| ?_
              refine ct_later hC hO hjn ?_
              refine r_if_eq c_63_81 (fun h81 => ?_) <| (fun h81 => ?_)
              · refine r_aload_n c_63_102 rfl <| r_getf_a c_63_103 rfl rfl <| r_iload_n c_63_106 rfl <| r_aload_n c_63_107 rfl <| r_getf_a c_63_108 rfl rfl <| r_iload c_63_111 rfl <| r_cV1 c_63_113 rfl (Nat.le_of_ble_eq_true rfl) <| ?_
                first | refine ct_earlier hC hO hjn ?_ | refine ct_earlier (hC.cf ((cf.rf (A := [31])).sto (by decide)) (by decide)) hO hjn ?_
                refine r_iast c_63_116 rfl (jn := if T 20 j = 0 then ps.length - 1 else ps.length) (by split <;> omega) (by split <;> omega) <| r_iinc_7_3 c_63_117 rfl (by omega) <| r_iinc_7_4 c_63_120 rfl (by omega) <| r_goto c_63_123 <| ?_
                first
                | (rw [if_pos (by assumption)]
                   exact ps_B ih hd hz hk hle hd9 hC harr hinv hi1 hs hl hd1 hd3 hn1 (by rw [hRp, if_neg (not_not_intro (by assumption)), remS_snoc, List.append_nil]) k1 k0)
                | (rw [if_neg (by assumption)]
                   exact ps_C ih hd hz hk hle hd9 hC harr hinv hi1 hs hl hd1 hd3 hn1 hd2 hn2 (by rw [hRp, if_pos (by assumption), remS_snoc, remS_snoc, List.append_assoc]) k1 k0)
              · refine r_aload_n c_63_84 rfl <| r_getf_a c_63_85 rfl rfl <| r_iload_n c_63_88 rfl <| r_aload_n c_63_89 rfl <| r_getf_a c_63_90 rfl rfl <| r_iload c_63_93 rfl <| r_cV1 c_63_95 rfl (Nat.le_of_ble_eq_true rfl) <| ?_
                refine ct_later hC hO hjn ?_
                refine r_iast c_63_98 rfl (jn := ps.length - 1) (by omega) (by omega) <| r_iinc_7_3 c_63_99 rfl (by omega) <| r_aload_n c_63_102 rfl <| r_getf_a c_63_103 rfl rfl <| r_iload_n c_63_106 rfl <| r_aload_n c_63_107 rfl <| r_getf_a c_63_108 rfl rfl <| r_iload c_63_111 rfl <| r_cV1 c_63_113 rfl (Nat.le_of_ble_eq_true rfl) <| ?_
                first | refine ct_earlier hC hO hjn ?_ | refine ct_earlier (hC.cf ((cf.rf (A := [31])).sto (by decide)) (by decide)) hO hjn ?_
                refine r_iast c_63_116 rfl (jn := if T 20 j = 0 then ps.length - 1 else ps.length) (by split <;> omega) (by split <;> omega) <| r_iinc_7_3 c_63_117 rfl (by omega) <| r_iinc_7_4 c_63_120 rfl (by omega) <| r_goto c_63_123 <| ?_
                first
                | (rw [if_pos (by assumption)]
                   exact ps_B ih hd hz hk hle hd9 hC harr hinv hi1 hs hl hd1 hd3 hn1 (by rw [hRp, if_neg (not_not_intro (by assumption)), remS_snoc, List.append_nil]) k1 k0)
                | (rw [if_neg (by assumption)]
                   exact ps_C ih hd hz hk hle hd9 hC harr hinv hi1 hs hl hd1 hd3 hn1 hd2 hn2 (by rw [hRp, if_pos (by assumption), remS_snoc, remS_snoc, List.append_assoc]) k1 k0)
            · refine r_iconst c_63_70 <| r_zret c_63_71 (Or.inl rfl) <| ?_
              exact absurd h67 (by omega)
          · refine r_aload_n c_63_50 rfl <| r_iload c_63_51 rfl <| r_cV1 c_63_53 hrt.1 (Nat.le_of_ble_eq_true rfl) <| ?_
            refine ct_append hrt hl _ (fun hlt σ1 hl1 hf1 => ?_) (fun hfull => ?_)
            · refine r_if_ne c_63_56 (fun _ => ?_) <| (fun h => absurd h (by decide))
              refine r_iinc_7_4 c_63_120 rfl (by omega) <| r_goto c_63_123 <| ?_
              exact ps_A ih hd hz hk hlt hd9 hC harr hinv hs hl1 hf1 (by rw [hRp, ex_leaf hi2 (by omega)]; simp) k1 k0
            · refine r_if_ne c_63_56 (fun h => absurd h (by decide)) <| (fun _ => ?_)
              refine r_iconst c_63_59 <| r_zret c_63_60 (Or.inl rfl) <| ?_
              refine k0 ?_ σ cf.rf
              rw [hRp, List.length_append, List.length_append]; omega
theorem ct_appParts {σ : mk_S} {rt : Nat} {l : List Int} {p : Int} {Q : Option mm_V → mm_H → Prop} (hC : TC σ T) (hO : TOK T) (hrt : isRow L rt 300) (hd : rt + 1 < 11 ∨ 33 < rt) (hsy : ¬ isSyl p) (hl : rowOK σ rt 300 l) (k1 : (l ++ ex T p).length ≤ 300 → ∀ σ', rowOK σ' rt 300 (l ++ ex T p) → cf [31, rt, rt + 1] σ σ' → Q (some (vI 1)) (hp L σ')) (k0 : 300 < (l ++ ex T p).length → ∀ σ', cf [31, rt, rt + 1] σ σ' → Q (some (vI 0)) (hp L σ')) : mm_call 63 [vP 30, vI p, vP rt] (hp L σ) Q := by
  have hd9 := dT_le hO p
  refine ⟨Nat.le_of_ble_eq_true rfl, ?_⟩
  show mm_X 63 0 [vP 30, vI p, vP rt, mm_null, mm_null, mm_null, mm_null] [] _ _
  refine r_iconst c_63_0 <| r_istore_n_7_3 c_63_1 rfl <| r_aload_n c_63_2 rfl <| r_getf_a c_63_3 rfl rfl <| r_iconst c_63_6 <| r_iload_n c_63_7 rfl <| r_iast c_63_8 rfl (jn := 0) rfl (by decide) <| r_iconst c_63_9 <| r_istore_7_4 c_63_10 rfl <| ?_
  have hcf : cf [31, rt, rt + 1] σ (sto σ 31 0 p) := cf.rf.sto (by simp)
  have hlt := hl.2.1
  have e0 : ∀ i, i < [p].length → i = 0 := fun i hi => by simpa using hi
  refine lp_parts (R := l ++ ex T p) hO hrt hd 40000 [p] l 0 (sto σ 31 0 p) _ _ Q ?_ (hC.cf hcf (fun a ha => by simp at ha; omega)) (fun i hi => ?_) (fun i hi => ?_) (fun _ => Nat.zero_le _) (hl.fr (sto_ne (by omega)) (sto_ne (by omega))) (by simp [remS]) (fun h9 σ2 g1 g2 => k1 h9 σ2 g1 (hcf.tr g2)) (fun h9 σ2 g2 => k0 h9 σ2 (hcf.tr g2))
  · show (if 1 = 0 then 0 else (301 - l.length) * 102 + (101 - dT T p)) < 40000
    rw [if_neg (by decide)]; omega
  · rw [e0 i hi, sto_get]; rfl
  · rw [e0 i hi]; exact ⟨Nat.zero_le _, hsy⟩
end CAPART
