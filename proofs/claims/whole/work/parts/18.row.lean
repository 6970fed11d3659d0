/-! ROW: the class's rows, by lists. -/
def isRow (L r n : Nat) : Prop := kd L r = .inr (7, [some (r + 1), none]) ∧ kd L (r + 1) = .inl (0, n) ∧ n ≤ 1200
theorem row3 {L : Nat} : isRow L 3 400 := ⟨rfl, rfl, by decide⟩
theorem row5 {L : Nat} : isRow L 5 300 := ⟨rfl, rfl, by decide⟩
theorem row7 {L : Nat} : isRow L 7 300 := ⟨rfl, rfl, by decide⟩
theorem row9 {L : Nat} : isRow L 9 300 := ⟨rfl, rfl, by decide⟩
theorem row32 {L : Nat} : isRow L 32 300 := ⟨rfl, rfl, by decide⟩
theorem row36 {L : Nat} : isRow L 36 300 := ⟨rfl, rfl, by decide⟩
theorem row38 {L : Nat} : isRow L 38 300 := ⟨rfl, rfl, by decide⟩
theorem row40 {L : Nat} : isRow L 40 300 := ⟨rfl, rfl, by decide⟩
theorem row42 {L : Nat} : isRow L 42 300 := ⟨rfl, rfl, by decide⟩
theorem row44 {L : Nat} : isRow L 44 300 := ⟨rfl, rfl, by decide⟩
theorem row47 {L : Nat} : isRow L 47 300 := ⟨rfl, rfl, by decide⟩
theorem row51 {L : Nat} : isRow L 51 1200 := ⟨rfl, rfl, by decide⟩
theorem row53 {L : Nat} : isRow L 53 1200 := ⟨rfl, rfl, by decide⟩
def rowOK (σ : mk_S) (r n : Nat) (l : List Int) : Prop := σ r 1 = (l.length : Int) ∧ l.length ≤ n ∧ ∀ i, i < l.length → σ (r + 1) i = l.getD i 0
def fr2 (r : Nat) (σ σ' : mk_S) : Prop := ∀ a, a ≠ r → a ≠ r + 1 → σ' a = σ a
theorem fr2.tr {r : Nat} {σ σ' σ'' : mk_S} (h : fr2 r σ σ') (g : fr2 r σ' σ'') : fr2 r σ σ'' := fun a h1 h2 => (g a h1 h2).trans (h a h1 h2)
theorem fr2.rf {r : Nat} {σ : mk_S} : fr2 r σ σ := fun _ _ _ => rfl
theorem rowOK.fr {σ σ' : mk_S} {r n : Nat} {l : List Int} (h : rowOK σ r n l) (h1 : σ' r = σ r) (h2 : σ' (r + 1) = σ (r + 1)) : rowOK σ' r n l := by
  unfold rowOK
  rw [h1, h2]
  exact h
theorem rowOK.fr2 {σ σ' : mk_S} {r r' n : Nat} {l : List Int} (h : rowOK σ r n l) (hf : fr2 r' σ σ') (h1 : r ≠ r' ∧ r ≠ r' + 1 ∧ r + 1 ≠ r') : rowOK σ' r n l :=
  h.fr (hf r h1.1 h1.2.1) (hf (r + 1) h1.2.2 (by omega))
def gt (l : List Int) (i : Int) : Int := if 0 ≤ i ∧ i < l.length then l.getD i.toNat 0 else -1
theorem gt_nat {l : List Int} {j : Nat} (h : j < l.length) : gt l j = l.getD j 0 := by
  unfold gt
  rw [if_pos (by omega), Int.toNat_natCast]
theorem gt_out {l : List Int} {i : Int} (h : i < 0 ∨ l.length ≤ i) : gt l i = -1 := by
  unfold gt
  rw [if_neg (by omega)]
theorem gd_app {l m : List Int} {i : Nat} (h : i < l.length) : (l ++ m).getD i 0 = l.getD i 0 := by
  simp [List.getD_eq_getElem?_getD, List.getElem?_append_left h]
theorem gd_app_at {l m : List Int} {z : Int} : (l ++ z :: m).getD l.length 0 = z := by
  simp [List.getD_eq_getElem?_getD]
theorem gd_app_r {l m : List Int} {i : Nat} (h : l.length ≤ i) : (l ++ m).getD i 0 = m.getD (i - l.length) 0 := by
  simp [List.getD_eq_getElem?_getD, List.getElem?_append_right h]
theorem gd_take {l : List Int} {i k : Nat} (h : i < k) : (l.take k).getD i 0 = l.getD i 0 := by
  simp [List.getD_eq_getElem?_getD, List.getElem?_take, h]
theorem gd_drop {l : List Int} {i k : Nat} : (l.drop k).getD i 0 = l.getD (k + i) 0 := by
  simp [List.getD_eq_getElem?_getD]
theorem gd_set {l : List Int} {i j : Nat} {z : Int} (hi : i < l.length) : (l.set i z).getD j 0 = if j = i then z else l.getD j 0 := by
  simp only [List.getD_eq_getElem?_getD, List.getElem?_set]
  by_cases e : i = j
  · subst e; simp [hi]
  · rw [if_neg e, if_neg (fun q => e q.symm)]
theorem gd_mem {l : List Int} {i : Nat} (h : i < l.length) : l.getD i 0 ∈ l := by
  rw [List.getD_eq_getElem?_getD, List.getElem?_eq_getElem h]
  exact List.getElem_mem h
theorem gd_ext {l m : List Int} (h : l.length = m.length) (hx : ∀ i, i < l.length → l.getD i 0 = m.getD i 0) : l = m := by
  apply List.ext_getElem h
  intro i h1 h2
  have := hx i h1
  rw [List.getD_eq_getElem?_getD, List.getD_eq_getElem?_getD, List.getElem?_eq_getElem h1, List.getElem?_eq_getElem h2] at this
  exact this
theorem rowOK.uniq {σ : mk_S} {r n : Nat} {l m : List Int} (h : rowOK σ r n l) (g : rowOK σ r n m) : l = m := by
  have e : l.length = m.length := by have := h.1; have := g.1; omega
  exact gd_ext e (fun i hi => by rw [← h.2.2 i hi, ← g.2.2 i (by omega)])
theorem row_push {σ : mk_S} {r n : Nat} {l : List Int} {z w : Int} (h : rowOK σ r n l) (hn : l.length < n) (hw : w = (l.length : Int) + 1) : rowOK (sto (sto σ (r + 1) l.length z) r 1 w) r n (l ++ [z]) := by
  obtain ⟨h1, h2, h3⟩ := h
  refine ⟨?_, by simp; omega, fun i hi => ?_⟩
  · rw [sto_get, hw]; simp
  · rw [sto_ne (by omega), sto_at]
    simp only [List.length_append, List.length_cons, List.length_nil] at hi
    by_cases e : i = l.length
    · subst e; rw [st_at, gd_app_at]
    · rw [st_ne e, h3 i (by omega), gd_app (by omega)]
-- sg: the part of a list from a to before b
def sg (l : List Int) (a b : Nat) : List Int := (l.drop a).take (b - a)
theorem sg_nil {l : List Int} {a b : Nat} (h : b ≤ a) : sg l a b = [] := by
  unfold sg; rw [show b - a = 0 by omega]; rfl
theorem sg_cons {l : List Int} {a b : Nat} (h : a < b) (hb : b ≤ l.length) : sg l a b = l.getD a 0 :: sg l (a + 1) b := by
  unfold sg
  rw [List.drop_eq_getElem_cons (by omega), show b - a = (b - (a + 1)) + 1 by omega, List.take_succ_cons, List.getD_eq_getElem?_getD, List.getElem?_eq_getElem (by omega)]
  rfl
theorem sg_len {l : List Int} {a b : Nat} (hb : b ≤ l.length) : (sg l a b).length = b - a := by
  unfold sg; rw [List.length_take, List.length_drop]; omega
theorem sg_all {l : List Int} : sg l 0 l.length = l := by unfold sg; simp
theorem sg_snoc {l : List Int} {a b : Nat} (h : a ≤ b) (hb : b < l.length) : sg l a (b + 1) = sg l a b ++ [l.getD b 0] := by
  unfold sg
  rw [show b + 1 - a = (b - a) + 1 by omega, List.take_succ, List.getElem?_drop, show a + (b - a) = b by omega, List.getElem?_eq_getElem hb, List.getD_eq_getElem?_getD, List.getElem?_eq_getElem hb]
  rfl
theorem sg_get {l : List Int} {a b i : Nat} (h : i < b - a) : (sg l a b).getD i 0 = l.getD (a + i) 0 := by
  unfold sg; rw [gd_take h, gd_drop]
def insAt (l : List Int) (p : Nat) (z : Int) : List Int := l.take p ++ z :: l.drop p
theorem insAt_len {l : List Int} {p : Nat} {z : Int} : (insAt l p z).length = l.length + 1 := by
  unfold insAt; simp only [List.length_append, List.length_take, List.length_cons, List.length_drop]; omega
theorem insAt_get {l : List Int} {p i : Nat} {z : Int} (hp : p ≤ l.length) : (insAt l p z).getD i 0 = if i < p then l.getD i 0 else if i = p then z else l.getD (i - 1) 0 := by
  unfold insAt
  have hl : (l.take p).length = p := by rw [List.length_take]; omega
  split
  · next h => rw [gd_app (by omega), gd_take h]
  · next h =>
    split
    · next h2 => subst h2; conv => lhs; rw [← hl, hl]
                 have := gd_app_at (l := l.take i) (m := l.drop i) (z := z)
                 rw [hl] at this; exact this
    · next h2 =>
      rw [gd_app_r (by omega), hl, show i - p = (i - p - 1) + 1 by omega]
      show (l.drop p).getD (i - p - 1) 0 = _
      rw [gd_drop, show p + (i - p - 1) = i - 1 by omega]
section ROWC
variable {L r n : Nat} {σ : mk_S} {l : List Int} {Q : Option mm_V → mm_H → Prop}
theorem ct_size (hr : isRow L r n) (hl : rowOK σ r n l) (k : Q (some (vI l.length)) (hp L σ)) : mm_call 13 [vP r] (hp L σ) Q := by
  refine ⟨Nat.le_of_ble_eq_true rfl, ?_⟩
  show mm_X 13 0 [vP r] [] _ _
  refine r_aload_n c_13_0 rfl <| r_getf_i c_13_1 hr.1 rfl <| r_iret c_13_4 <| ?_
  rw [hl.1]; exact k
theorem ct_at (hr : isRow L r n) (hl : rowOK σ r n l) (i : Int) (k : Q (some (vI (gt l i))) (hp L σ)) : mm_call 17 [vP r, vI i] (hp L σ) Q := by
  obtain ⟨e1, e2, e3⟩ := hl
  refine ⟨Nat.le_of_ble_eq_true rfl, ?_⟩
  show mm_X 17 0 [vP r, vI i] [] _ _
  refine r_iload_n c_17_0 rfl <| r_if_lt c_17_1 (fun h1 => ?_) <| (fun h1 => ?_)
  · refine r_iconst c_17_21 <| r_iret c_17_22 <| ?_
    first | (rw [e3 i.toNat (by omega)]; rw [gt, if_pos (by omega)] at k; exact k) | (rw [gt, if_neg (by omega)] at k; exact k)
  · refine r_iload_n c_17_4 rfl <| r_aload_n c_17_5 rfl <| r_getf_i c_17_6 hr.1 rfl <| r_icmp_ge c_17_9 (fun h9 => ?_) <| (fun h9 => ?_)
    · refine r_iconst c_17_21 <| r_iret c_17_22 <| ?_
      first | (rw [e3 i.toNat (by omega)]; rw [gt, if_pos (by omega)] at k; exact k) | (rw [gt, if_neg (by omega)] at k; exact k)
    · refine r_aload_n c_17_12 rfl <| r_getf_a c_17_13 hr.1 rfl <| r_iload_n c_17_16 rfl <| r_iald c_17_17 hr.2.1 (Or.inl rfl) (jn := i.toNat) (by omega) (by omega) <| r_goto c_17_18 <| r_iret c_17_22 <| ?_
      first | (rw [e3 i.toNat (by omega)]; rw [gt, if_pos (by omega)] at k; exact k) | (rw [gt, if_neg (by omega)] at k; exact k)
theorem ct_atn (hr : isRow L r n) (hl : rowOK σ r n l) {j : Nat} (hj : j < l.length) (k : Q (some (vI (l.getD j 0))) (hp L σ)) : mm_call 17 [vP r, vI j] (hp L σ) Q :=
  ct_at hr hl j (by rw [gt_nat hj]; exact k)
theorem ct_put (hr : isRow L r n) (hl : rowOK σ r n l) {j : Nat} (hj : j < l.length) (z : Int) (k : ∀ σ', rowOK σ' r n (l.set j z) → fr2 r σ σ' → Q none (hp L σ')) : mm_call 68 [vP r, vI j, vI z] (hp L σ) Q := by
  obtain ⟨e1, e2, e3⟩ := hl
  refine ⟨Nat.le_of_ble_eq_true rfl, ?_⟩
  show mm_X 68 0 [vP r, vI j, vI z] [] _ _
  refine r_iload_n c_68_0 rfl <| r_if_lt c_68_1 (fun h1 => ?_) <| (fun h1 => ?_)
  · refine r_ret c_68_19 <| ?_
    first | exact absurd h1 (by omega) | exact absurd h9 (by omega) | (refine k _ ⟨?_, by simpa using e2, fun i hi => ?_⟩ (fun a h1 h2 => sto_ne h2); (focus (rw [sto_ne (by omega)]; simpa using e1)); rw [sto_at, gd_set hj]; simp only [mm_st]; (repeat' split) <;> first | rfl | exact e3 i (by simpa using hi))
  · refine r_iload_n c_68_4 rfl <| r_aload_n c_68_5 rfl <| r_getf_i c_68_6 hr.1 rfl <| r_icmp_ge c_68_9 (fun h9 => ?_) <| (fun h9 => ?_)
    · refine r_ret c_68_19 <| ?_
      first | exact absurd h1 (by omega) | exact absurd h9 (by omega) | (refine k _ ⟨?_, by simpa using e2, fun i hi => ?_⟩ (fun a h1 h2 => sto_ne h2); (focus (rw [sto_ne (by omega)]; simpa using e1)); rw [sto_at, gd_set hj]; simp only [mm_st]; (repeat' split) <;> first | rfl | exact e3 i (by simpa using hi))
    · refine r_aload_n c_68_12 rfl <| r_getf_a c_68_13 hr.1 rfl <| r_iload_n c_68_16 rfl <| r_iload_n c_68_17 rfl <| r_iast c_68_18 hr.2.1 rfl (by omega) <| r_ret c_68_19 <| ?_
      first | exact absurd h1 (by omega) | exact absurd h9 (by omega) | (refine k _ ⟨?_, by simpa using e2, fun i hi => ?_⟩ (fun a h1 h2 => sto_ne h2); (focus (rw [sto_ne (by omega)]; simpa using e1)); rw [sto_at, gd_set hj]; simp only [mm_st]; (repeat' split) <;> first | rfl | exact e3 i (by simpa using hi))
theorem ct_clear (hr : isRow L r n) (k : ∀ σ', rowOK σ' r n [] → fr2 r σ σ' → Q none (hp L σ')) : mm_call 12 [vP r] (hp L σ) Q := by
  refine ⟨Nat.le_of_ble_eq_true rfl, ?_⟩
  show mm_X 12 0 [vP r] [] _ _
  refine r_aload_n c_12_0 rfl <| r_iconst c_12_1 <| r_putf c_12_2 hr.1 rfl <| r_ret c_12_5 <| ?_
  exact k _ ⟨sto_get _ _ _ _, Nat.zero_le _, fun i hi => absurd hi (Nat.not_lt_zero i)⟩ (fun a h1 _ => sto_ne h1)
theorem ct_cut (hr : isRow L r n) (hl : rowOK σ r n l) {j : Nat} (hj : j ≤ l.length) (k : ∀ σ', rowOK σ' r n (l.take j) → fr2 r σ σ' → Q none (hp L σ')) : mm_call 72 [vP r, vI j] (hp L σ) Q := by
  obtain ⟨e1, e2, e3⟩ := hl
  refine ⟨Nat.le_of_ble_eq_true rfl, ?_⟩
  show mm_X 72 0 [vP r, vI j] [] _ _
  refine r_iload_n c_72_0 rfl <| r_if_lt c_72_1 (fun h1 => ?_) <| (fun h1 => ?_)
  · refine r_ret c_72_17 <| ?_
    first | exact absurd h1 (by omega) | (refine k _ ?_ fr2.rf; rw [List.take_of_length_le (by omega)]; exact ⟨e1, e2, e3⟩) | (refine k _ ⟨?_, by rw [List.length_take]; omega, fun i hi => ?_⟩ (fun a h1 _ => sto_ne h1); (focus (rw [sto_get, List.length_take]; omega)); rw [List.length_take] at hi; rw [sto_ne (by omega), e3 i (by omega), gd_take (by omega)])
  · refine r_iload_n c_72_4 rfl <| r_aload_n c_72_5 rfl <| r_getf_i c_72_6 hr.1 rfl <| r_icmp_ge c_72_9 (fun h9 => ?_) <| (fun h9 => ?_)
    · refine r_ret c_72_17 <| ?_
      first | exact absurd h1 (by omega) | (refine k _ ?_ fr2.rf; rw [List.take_of_length_le (by omega)]; exact ⟨e1, e2, e3⟩) | (refine k _ ⟨?_, by rw [List.length_take]; omega, fun i hi => ?_⟩ (fun a h1 _ => sto_ne h1); (focus (rw [sto_get, List.length_take]; omega)); rw [List.length_take] at hi; rw [sto_ne (by omega), e3 i (by omega), gd_take (by omega)])
    · refine r_aload_n c_72_12 rfl <| r_iload_n c_72_13 rfl <| r_putf c_72_14 hr.1 rfl <| r_ret c_72_17 <| ?_
      first | exact absurd h1 (by omega) | (refine k _ ?_ fr2.rf; rw [List.take_of_length_le (by omega)]; exact ⟨e1, e2, e3⟩) | (refine k _ ⟨?_, by rw [List.length_take]; omega, fun i hi => ?_⟩ (fun a h1 _ => sto_ne h1); (focus (rw [sto_get, List.length_take]; omega)); rw [List.length_take] at hi; rw [sto_ne (by omega), e3 i (by omega), gd_take (by omega)])
theorem ct_append (hr : isRow L r n) (hl : rowOK σ r n l) (z : Int) (k1 : l.length < n → ∀ σ', rowOK σ' r n (l ++ [z]) → fr2 r σ σ' → Q (some (vI 1)) (hp L σ')) (k0 : l.length = n → Q (some (vI 0)) (hp L σ)) : mm_call 14 [vP r, vI z] (hp L σ) Q := by
  have hnn := hr.2.2
  have e1 := hl.1
  have e2 := hl.2.1
  refine ⟨Nat.le_of_ble_eq_true rfl, ?_⟩
  show mm_X 14 0 [vP r, vI z] [] _ _
  refine r_aload_n c_14_0 rfl <| r_getf_i c_14_1 hr.1 rfl <| r_aload_n c_14_4 rfl <| r_getf_a c_14_5 hr.1 rfl <| r_alen c_14_8 hr.2.1 (by decide) (by omega) <| r_icmp_lt c_14_9 (fun h9 => ?_) <| (fun h9 => ?_)
  · refine r_aload_n c_14_14 rfl <| r_getf_a c_14_15 hr.1 rfl <| r_aload_n c_14_18 rfl <| r_getf_i c_14_19 hr.1 rfl <| r_iload_n c_14_22 rfl <| r_iast c_14_23 hr.2.1 (jn := l.length) (by omega) (by omega) <| r_aload_n c_14_24 rfl <| r_dup c_14_25 rfl <| r_getf_i c_14_26 hr.1 rfl <| r_iconst c_14_29 <| ?_
    refine r_iadd c_14_30 (by rw [sto_get2 (Or.inl (by omega)), e1]; omega) <| r_putf c_14_31 hr.1 rfl <| r_iconst c_14_34 <| r_zret c_14_35 (Or.inr rfl) <| ?_
    refine k1 (by omega) _ (row_push hl (by omega) ?_) (fun a h1 h2 => by rw [sto_ne h1, sto_ne h2]); rw [sto_get2 (Or.inl (by omega)), e1]
  · refine r_iconst c_14_12 <| r_zret c_14_13 (Or.inl rfl) <| ?_
    exact k0 (by omega)
theorem lp_appendFrom {ro no : Nat} {lo : List Int} {i0 : Int} (hr : isRow L r n) (hro : isRow L ro no) (hne : ro ≠ r ∧ ro ≠ r + 1 ∧ ro + 1 ≠ r) {b : Nat} (hb : b ≤ lo.length) : ∀ (k i : Nat) (l : List Int) (σ : mk_S) (Q : Option mm_V → mm_H → Prop), b + 1 ≤ i + k → i ≤ b → rowOK σ r n l → rowOK σ ro no lo →
    (l.length + (b - i) ≤ n → ∀ σ', rowOK σ' r n (l ++ sg lo i b) → fr2 r σ σ' → Q (some (vI 1)) (hp L σ')) → (n < l.length + (b - i) → ∀ σ', rowOK σ' r n ((l ++ sg lo i b).take n) → fr2 r σ σ' → Q (some (vI 0)) (hp L σ')) →
    mm_X 24 3 [vP r, vP ro, vI i0, vI b, vI i] [] (hp L σ) Q := by
  intro k
  induction k with
  | zero => intro i l σ Q h1 h2; omega
  | succ k ih =>
    intro i l σ Q hk hi hl hlo k1 k0
    have hnn := hr.2.2
    have hno := hro.2.2
    have e2 := hlo.2.1
    have e4 := hl.2.1
    refine r_iload c_24_3 rfl <| r_iload_n c_24_5 rfl <| r_icmp_ge c_24_6 (fun h6 => ?_) <| (fun h6 => ?_)
    · refine r_iconst c_24_30 <| r_zret c_24_31 (Or.inr rfl) <| ?_
      exact k1 (by omega) σ (by rw [sg_nil (by omega), List.append_nil]; exact hl) fr2.rf
    · refine r_aload_n c_24_9 rfl <| r_aload_n c_24_10 rfl <| r_iload c_24_11 rfl <| r_cV1 c_24_13 hro.1 (Nat.le_of_ble_eq_true rfl) <| ?_
      refine ct_atn hro hlo (by omega) ?_
      refine r_cV1 c_24_16 hr.1 (Nat.le_of_ble_eq_true rfl) <| ?_
      refine ct_append hr hl _ (fun hlt σ1 hl1 hf1 => ?_) (fun hfull => ?_)
      · refine r_if_ne c_24_19 (fun _ => ?_) <| (fun h => absurd h (by decide))
        refine r_iinc_5_4 c_24_24 rfl (by omega) <| r_goto c_24_27 <| ?_
        refine ih (i + 1) _ σ1 Q (by omega) (by omega) hl1 (hlo.fr2 hf1 hne) (fun hle σ2 g1 g2 => ?_) (fun hle σ2 g1 g2 => ?_)
        · refine k1 (by simp at hle; omega) σ2 ?_ (hf1.tr g2)
          rw [sg_cons (by omega) hb]
          simpa using g1
        · refine k0 (by simp at hle; omega) σ2 ?_ (hf1.tr g2)
          rw [sg_cons (by omega) hb]
          simpa using g1
      · refine r_if_ne c_24_19 (fun h => absurd h (by decide)) <| (fun _ => ?_)
        refine r_iconst c_24_22 <| r_zret c_24_23 (Or.inl rfl) <| ?_
        exact k0 (by omega) σ (by rw [List.take_append_of_le_length (by omega), List.take_of_length_le (by omega)]; exact hl) fr2.rf
theorem ct_appendFrom {ro no : Nat} {lo : List Int} (hr : isRow L r n) (hro : isRow L ro no) (hne : ro ≠ r ∧ ro ≠ r + 1 ∧ ro + 1 ≠ r) (hl : rowOK σ r n l) (hlo : rowOK σ ro no lo) {a b : Nat} (hab : a ≤ b) (hb : b ≤ lo.length)
    (k1 : l.length + (b - a) ≤ n → ∀ σ', rowOK σ' r n (l ++ sg lo a b) → fr2 r σ σ' → Q (some (vI 1)) (hp L σ')) (k0 : n < l.length + (b - a) → ∀ σ', rowOK σ' r n ((l ++ sg lo a b).take n) → fr2 r σ σ' → Q (some (vI 0)) (hp L σ')) :
    mm_call 24 [vP r, vP ro, vI a, vI b] (hp L σ) Q := by
  refine ⟨Nat.le_of_ble_eq_true rfl, ?_⟩
  show mm_X 24 0 [vP r, vP ro, vI a, vI b, mm_null] [] _ _
  refine r_iload_n c_24_0 rfl <| r_istore_5_4 c_24_1 rfl <| ?_
  exact lp_appendFrom hr hro hne hb (b + 1) a l σ Q (by omega) hab hl hlo k1 k0
theorem ct_become {ro no : Nat} {lo : List Int} (hr : isRow L r n) (hro : isRow L ro no) (hne : ro ≠ r ∧ ro ≠ r + 1 ∧ ro + 1 ≠ r) (hlo : rowOK σ ro no lo) (hle : lo.length ≤ n) (k : ∀ σ', rowOK σ' r n lo → fr2 r σ σ' → Q none (hp L σ')) : mm_call 23 [vP r, vP ro] (hp L σ) Q := by
  refine ⟨Nat.le_of_ble_eq_true rfl, ?_⟩
  show mm_X 23 0 [vP r, vP ro] [] _ _
  refine r_aload_n c_23_0 rfl <| r_cV0 c_23_1 hr.1 (Nat.le_of_ble_eq_true rfl) <| ?_
  refine ct_clear hr (fun σ1 hl1 hf1 => ?_)
  refine r_aload_n c_23_4 rfl <| r_aload_n c_23_5 rfl <| r_iconst c_23_6 <| r_aload_n c_23_7 rfl <| r_cV0 c_23_8 hro.1 (Nat.le_of_ble_eq_true rfl) <| ?_
  refine ct_size hro (hlo.fr2 hf1 hne) ?_
  refine r_cV3 c_23_11 hr.1 (Nat.le_of_ble_eq_true rfl) <| ?_
  refine ct_appendFrom (a := 0) hr hro hne hl1 (hlo.fr2 hf1 hne) (Nat.zero_le _) (Nat.le_refl _) (fun hc σ2 hl2 hf2 => ?_) (fun hc σ2 hl2 hf2 => ?_)
  · refine r_pop c_23_14 (v := vI _) rfl <| r_ret c_23_15 <| ?_
    first | exact absurd hc (by simp; omega) | (rw [sg_all, List.nil_append] at hl2; exact k σ2 hl2 (hf1.tr hf2))
  · refine r_pop c_23_14 (v := vI _) rfl <| r_ret c_23_15 <| ?_
    first | exact absurd hc (by simp; omega) | (rw [sg_all, List.nil_append] at hl2; exact k σ2 hl2 (hf1.tr hf2))
theorem lp_insert {p : Nat} {z : Int} (hr : isRow L r n) (hl : rowOK σ r n l) (hn : l.length < n) (hp0 : p ≤ l.length) : ∀ (k i : Nat) (σ1 : mk_S) (Q : Option mm_V → mm_H → Prop), i ≤ p + k → p ≤ i → i ≤ l.length → σ1 r 1 = l.length → (∀ j, j < i → σ1 (r + 1) j = l.getD j 0) → (∀ j, i < j → j ≤ l.length → σ1 (r + 1) j = l.getD (j - 1) 0) → fr2 r σ σ1 →
    (∀ σ', rowOK σ' r n (insAt l p z) → fr2 r σ σ' → Q (some (vI 1)) (hp L σ')) → mm_X 90 31 [vP r, vI p, vI z, vI i] [] (hp L σ1) Q := by
  have hnn := hr.2.2
  intro k
  induction k with
  | zero =>
    intro i σ1 Q hk hi hil e1 e3 e4 hf k
    refine r_iload_n c_90_31 rfl <| r_iload_n c_90_32 rfl <| r_icmp_le c_90_33 (fun h33 => ?_) <| (fun h33 => ?_)
    · refine r_aload_n c_90_56 rfl <| r_getf_a c_90_57 hr.1 rfl <| r_iload_n c_90_60 rfl <| r_iload_n c_90_61 rfl <| r_iast c_90_62 hr.2.1 rfl (by omega) <| r_aload_n c_90_63 rfl <| r_dup c_90_64 rfl <| r_getf_i c_90_65 hr.1 rfl <| r_iconst c_90_68 <| r_iadd c_90_69 (by rw [sto_get2 (Or.inl (by omega)), e1]; omega) <| ?_
      refine r_putf c_90_70 hr.1 rfl <| r_iconst c_90_73 <| r_zret c_90_74 (Or.inr rfl) <| ?_
      refine k _ ⟨?_, by rw [insAt_len]; omega, fun j hj => ?_⟩ (fun a h1 h2 => by rw [sto_ne h1, sto_ne h2]; exact hf a h1 h2)
      · rw [sto_get, sto_get2 (Or.inl (by omega)), e1, insAt_len]; omega
      · rw [insAt_len] at hj
        rw [sto_ne (by omega), sto_at, insAt_get hp0]
        simp only [mm_st]
        split
        · next e => subst e; first | rw [if_neg (by omega)] | rw [if_neg (by omega), if_pos rfl]
        · next e =>
          split
          · next g => exact e3 j (by omega)
          · next g => first | exact e4 j (by omega) (by omega) | (rw [if_neg e]; exact e4 j (by omega) (by omega))
    · exact absurd h33 (by omega)
  | succ k ih =>
    intro i σ1 Q hk hi hil e1 e3 e4 hf k
    refine r_iload_n c_90_31 rfl <| r_iload_n c_90_32 rfl <| r_icmp_le c_90_33 (fun h33 => ?_) <| (fun h33 => ?_)
    · refine r_aload_n c_90_56 rfl <| r_getf_a c_90_57 hr.1 rfl <| r_iload_n c_90_60 rfl <| r_iload_n c_90_61 rfl <| r_iast c_90_62 hr.2.1 rfl (by omega) <| r_aload_n c_90_63 rfl <| r_dup c_90_64 rfl <| r_getf_i c_90_65 hr.1 rfl <| r_iconst c_90_68 <| r_iadd c_90_69 (by rw [sto_get2 (Or.inl (by omega)), e1]; omega) <| ?_
      refine r_putf c_90_70 hr.1 rfl <| r_iconst c_90_73 <| r_zret c_90_74 (Or.inr rfl) <| ?_
      refine k _ ⟨?_, by rw [insAt_len]; omega, fun j hj => ?_⟩ (fun a h1 h2 => by rw [sto_ne h1, sto_ne h2]; exact hf a h1 h2)
      · rw [sto_get, sto_get2 (Or.inl (by omega)), e1, insAt_len]; omega
      · rw [insAt_len] at hj
        rw [sto_ne (by omega), sto_at, insAt_get hp0]
        simp only [mm_st]
        split
        · next e => subst e; first | rw [if_neg (by omega)] | rw [if_neg (by omega), if_pos rfl]
        · next e =>
          split
          · next g => exact e3 j (by omega)
          · next g => first | exact e4 j (by omega) (by omega) | (rw [if_neg e]; exact e4 j (by omega) (by omega))
    · refine r_aload_n c_90_36 rfl <| r_getf_a c_90_37 hr.1 rfl <| r_iload_n c_90_40 rfl <| r_aload_n c_90_41 rfl <| r_getf_a c_90_42 hr.1 rfl <| r_iload_n c_90_45 rfl <| r_iconst c_90_46 <| r_isub c_90_47 (by omega) <| r_iald c_90_48 hr.2.1 (Or.inl rfl) (jn := i - 1) (by omega) (by omega) <| r_iast c_90_49 hr.2.1 rfl (by omega) <| ?_
      refine r_iinc_4_3 c_90_50 rfl (by omega) <| r_goto c_90_53 <| ?_
      rw [show (i : Int) + -1 = ((i - 1 : Nat) : Int) by omega]
      refine ih (i - 1) _ Q (by omega) (by omega) (by omega) ?_ (fun j hj => ?_) (fun j h1 h2 => ?_) (fun a h1 h2 => by rw [sto_ne h2]; exact hf a h1 h2) k
      · rw [sto_ne (by omega)]; exact e1
      · rw [sto_at, st_ne (by omega)]; exact e3 j (by omega)
      · rw [sto_at]
        simp only [mm_st]
        split
        · next e => subst e; exact e3 _ (by omega)
        · exact e4 j (by omega) h2
theorem ct_insert (hr : isRow L r n) (hl : rowOK σ r n l) {p : Nat} (hp0 : p ≤ l.length) (z : Int) (k1 : l.length < n → ∀ σ', rowOK σ' r n (insAt l p z) → fr2 r σ σ' → Q (some (vI 1)) (hp L σ')) (k0 : l.length = n → Q (some (vI 0)) (hp L σ)) : mm_call 90 [vP r, vI p, vI z] (hp L σ) Q := by
  have hnn := hr.2.2
  have e1 := hl.1
  have e2 := hl.2.1
  refine ⟨Nat.le_of_ble_eq_true rfl, ?_⟩
  show mm_X 90 0 [vP r, vI p, vI z, mm_null] [] _ _
  refine r_aload_n c_90_0 rfl <| r_getf_i c_90_1 hr.1 rfl <| r_aload_n c_90_4 rfl <| r_getf_a c_90_5 hr.1 rfl <| r_alen c_90_8 hr.2.1 (by decide) (by omega) <| r_icmp_ge c_90_9 (fun h9 => ?_) <| (fun h9 => ?_)
  · refine r_iconst c_90_24 <| r_zret c_90_25 (Or.inl rfl) <| ?_
    first | exact k0 (by omega) | exact absurd h13 (by omega) | exact absurd h21 (by omega)
    
  · refine r_iload_n c_90_12 rfl <| r_if_lt c_90_13 (fun h13 => ?_) <| (fun h13 => ?_)
    · refine r_iconst c_90_24 <| r_zret c_90_25 (Or.inl rfl) <| ?_
      first | exact k0 (by omega) | exact absurd h13 (by omega) | exact absurd h21 (by omega)
      
    · refine r_iload_n c_90_16 rfl <| r_aload_n c_90_17 rfl <| r_getf_i c_90_18 hr.1 rfl <| r_icmp_le c_90_21 (fun h21 => ?_) <| (fun h21 => ?_)
      · refine r_aload_n c_90_26 rfl <| r_getf_i c_90_27 hr.1 rfl <| r_istore_n_4_3 c_90_30 rfl <| ?_
        rw [e1]
        exact lp_insert hr hl (by omega) hp0 l.length l.length σ Q (by omega) hp0 (Nat.le_refl _) e1 hl.2.2 (fun j h1 h2 => absurd h1 (by omega)) fr2.rf (k1 (by omega))
      · refine r_iconst c_90_24 <| r_zret c_90_25 (Or.inl rfl) <| ?_
        first | exact k0 (by omega) | exact absurd h13 (by omega) | exact absurd h21 (by omega)
        
-- the first place at which two lists differ
def fdF (l m : List Int) (b : Nat) : Nat → Nat → Nat
  | 0, i => i
  | k + 1, i => if i < b then (if l.getD i 0 = m.getD i 0 then fdF l m b k (i + 1) else i) else i
theorem ct_min {h : mm_H} (a b : Int) (k : Q (some (vI (if a ≤ b then a else b))) h) : mm_call 76 [vI a, vI b] h Q := by
  refine ⟨Nat.le_of_ble_eq_true rfl, ?_⟩
  show mm_X 76 0 [vI a, vI b] [] _ _
  refine r_iload_n c_76_0 rfl <| r_iload_n c_76_1 rfl <| r_icmp_gt c_76_2 (fun h2 => ?_) <| (fun h2 => ?_)
  · refine r_iload_n c_76_9 rfl <| r_iret c_76_10 <| ?_
    first | (rw [if_pos (by omega)] at k; exact k) | (rw [if_neg (by omega)] at k; exact k)
  · refine r_iload_n c_76_5 rfl <| r_goto c_76_6 <| r_iret c_76_10 <| ?_
    first | (rw [if_pos (by omega)] at k; exact k) | (rw [if_neg (by omega)] at k; exact k)
-- the place at which two rows differ, or where one ends; none if they are the same
def fdiff : List Int → List Int → Nat → Option Nat
  | [], [], _ => none
  | a :: l, b :: m, i => if a = b then fdiff l m (i + 1) else some i
  | _, _, i => some i
theorem fdiff_none : ∀ (l m : List Int) (i : Nat), fdiff l m i = none ↔ l = m
  | [], [], i => by simp [fdiff]
  | a :: l, b :: m, i => by
    simp only [fdiff]
    split
    · next e => rw [fdiff_none l m (i + 1)]; simp [e]
    · next e => simp [e]
  | [], b :: m, i => by simp [fdiff]
  | a :: l, [], i => by simp [fdiff]
theorem fdiff_step {l m : List Int} {i : Nat} (h1 : i < l.length) (h2 : i < m.length) : fdiff (l.drop i) (m.drop i) i = if l.getD i 0 = m.getD i 0 then fdiff (l.drop (i + 1)) (m.drop (i + 1)) (i + 1) else some i := by
  rw [List.drop_eq_getElem_cons h1, List.drop_eq_getElem_cons h2]
  simp only [fdiff, List.getD_eq_getElem?_getD, List.getElem?_eq_getElem h1, List.getElem?_eq_getElem h2, Option.getD_some]
theorem fdiff_end {l m : List Int} {i : Nat} (h : i = l.length ∨ i = m.length) (h1 : i ≤ l.length) (h2 : i ≤ m.length) : fdiff (l.drop i) (m.drop i) i = if l.length = m.length then none else some i := by
  by_cases e1 : i = l.length
  · by_cases e2 : i = m.length
    · rw [List.drop_of_length_le (by omega), List.drop_of_length_le (by omega), if_pos (by omega)]; rfl
    · rw [List.drop_of_length_le (l := l) (by omega), List.drop_eq_getElem_cons (l := m) (by omega), if_neg (by omega)]; rfl
  · have e2 : i = m.length := by omega
    rw [List.drop_of_length_le (l := m) (by omega), List.drop_eq_getElem_cons (l := l) (by omega), if_neg (by omega)]; rfl
def onat (o : Option Nat) : Int := match o with
  | none => -1
  | some i => i
theorem lp_fd {ro no : Nat} {lo : List Int} (hr : isRow L r n) (hro : isRow L ro no) (hl : rowOK σ r n l) (hlo : rowOK σ ro no lo) {b : Nat} (hb : b ≤ l.length ∧ b ≤ lo.length ∧ (b = l.length ∨ b = lo.length)) (k : ∀ j, fdiff (l.drop 0) (lo.drop 0) 0 = j → Q (some (vI (onat j))) (hp L σ)) :
    ∀ (t i : Nat), b + 1 ≤ i + t → i ≤ b → fdiff (l.drop 0) (lo.drop 0) 0 = fdiff (l.drop i) (lo.drop i) i → mm_X 75 14 [vP r, vP ro, vI b, vI i] [] (hp L σ) Q := by
  have hnn := hr.2.2
  have hno := hro.2.2
  have e2 := hl.2.1
  have e3 := hl.1
  intro t
  induction t with
  | zero => intro i h1 h2; omega
  | succ t ih =>
    intro i ht hi he
    refine r_iload_n c_75_14 rfl <| r_iload_n c_75_15 rfl <| r_icmp_ge c_75_16 (fun h16 => ?_) <| (fun h16 => ?_)
    · refine r_aload_n c_75_40 rfl <| r_getf_i c_75_41 hr.1 rfl <| r_aload_n c_75_44 rfl <| r_cV0 c_75_45 hro.1 (Nat.le_of_ble_eq_true rfl) <| ?_
      refine ct_size hro hlo ?_
      refine r_icmp_ne c_75_48 (fun h48 => ?_) <| (fun h48 => ?_)
      · refine r_iload_n c_75_55 rfl <| r_iret c_75_56 <| ?_
        have hib : i = b := by omega
        subst hib
        first
          | exact k none (by rw [he, fdiff_end (by omega) (by omega) (by omega), if_pos (by omega)])
          | exact k (some i) (by rw [he, fdiff_end (by omega) (by omega) (by omega), if_neg (by omega)])
      · refine r_iconst c_75_51 <| r_goto c_75_52 <| r_iret c_75_56 <| ?_
        have hib : i = b := by omega
        subst hib
        first
          | exact k none (by rw [he, fdiff_end (by omega) (by omega) (by omega), if_pos (by omega)])
          | exact k (some i) (by rw [he, fdiff_end (by omega) (by omega) (by omega), if_neg (by omega)])
    · refine r_aload_n c_75_19 rfl <| r_iload_n c_75_20 rfl <| r_cV1 c_75_21 hr.1 (Nat.le_of_ble_eq_true rfl) <| ?_
      refine ct_atn hr hl (by omega) ?_
      refine r_aload_n c_75_24 rfl <| r_iload_n c_75_25 rfl <| r_cV1 c_75_26 hro.1 (Nat.le_of_ble_eq_true rfl) <| ?_
      refine ct_atn hro hlo (by omega) ?_
      refine r_icmp_eq c_75_29 (fun h29 => ?_) <| (fun h29 => ?_)
      · refine r_iinc_4_3 c_75_34 rfl (by omega) <| r_goto c_75_37 <| ?_
        exact ih (i + 1) (by omega) (by omega) (by rw [he, fdiff_step (by omega) (by omega), if_pos h29])
      · refine r_iload_n c_75_32 rfl <| r_iret c_75_33 <| ?_
        exact k (some i) (by rw [he, fdiff_step (by omega) (by omega), if_neg h29])
theorem ct_fd {ro no : Nat} {lo : List Int} (hr : isRow L r n) (hro : isRow L ro no) (hl : rowOK σ r n l) (hlo : rowOK σ ro no lo) (k : Q (some (vI (onat (fdiff l lo 0)))) (hp L σ)) : mm_call 75 [vP r, vP ro] (hp L σ) Q := by
  have e3 := hl.1
  refine ⟨Nat.le_of_ble_eq_true rfl, ?_⟩
  show mm_X 75 0 [vP r, vP ro, mm_null, mm_null] [] _ _
  refine r_aload_n c_75_0 rfl <| r_getf_i c_75_1 hr.1 rfl <| r_aload_n c_75_4 rfl <| r_cV0 c_75_5 hro.1 (Nat.le_of_ble_eq_true rfl) <| ?_
  refine ct_size hro hlo ?_
  refine r_cS2 c_75_8 (Nat.le_of_ble_eq_true rfl) <| ?_
  refine ct_min _ _ ?_
  refine r_istore_n_4_2 c_75_11 rfl <| r_iconst c_75_12 <| r_istore_n_4_3 c_75_13 rfl <| ?_
  rw [show (if σ r 1 ≤ (lo.length : Int) then σ r 1 else (lo.length : Int)) = ((min l.length lo.length : Nat) : Int) by rw [e3]; split <;> omega]
  exact lp_fd hr hro hl hlo (b := min l.length lo.length) (by omega) (fun j hj => by rw [← hj]; exact k) (min l.length lo.length + 1) 0 (by omega) (by omega) rfl
theorem ct_isLike {ro no : Nat} {lo : List Int} (hr : isRow L r n) (hro : isRow L ro no) (hl : rowOK σ r n l) (hlo : rowOK σ ro no lo) (k : Q (some (vI (if l = lo then 1 else 0))) (hp L σ)) : mm_call 74 [vP r, vP ro] (hp L σ) Q := by
  refine ⟨Nat.le_of_ble_eq_true rfl, ?_⟩
  show mm_X 74 0 [vP r, vP ro] [] _ _
  refine r_aload_n c_74_0 rfl <| r_aload_n c_74_1 rfl <| r_cV1 c_74_2 hr.1 (Nat.le_of_ble_eq_true rfl) <| ?_
  refine ct_fd hr hro hl hlo ?_
  refine r_if_ge c_74_5 (fun h5 => ?_) <| (fun h5 => ?_)
  · refine r_iconst c_74_12 <| r_zret c_74_13 (Or.inl rfl) <| ?_
    cases hd : fdiff l lo 0 with
    | none =>
      rw [hd] at h5
      rw [if_pos ((fdiff_none l lo 0).mp hd)] at k
      first | exact k | (simp [onat] at h5)
    | some j =>
      rw [hd] at h5
      rw [if_neg (fun e => by rw [(fdiff_none l lo 0).mpr e] at hd; cases hd)] at k
      first | exact k | (simp [onat] at h5; omega)
  · refine r_iconst c_74_8 <| r_goto c_74_9 <| r_zret c_74_13 (Or.inr rfl) <| ?_
    cases hd : fdiff l lo 0 with
    | none =>
      rw [hd] at h5
      rw [if_pos ((fdiff_none l lo 0).mp hd)] at k
      first | exact k | (simp [onat] at h5)
    | some j =>
      rw [hd] at h5
      rw [if_neg (fun e => by rw [(fdiff_none l lo 0).mpr e] at hd; cases hd)] at k
      first | exact k | (simp [onat] at h5; omega)
end ROWC
