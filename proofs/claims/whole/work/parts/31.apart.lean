/-! APART: what it is, in lists. -/
def sylL (p : Int) : List Int := if (p - 44032) % 28 = 0 then [4352 + (p - 44032) / 588, 4449 + (p - 44032) % 588 / 28] else [4352 + (p - 44032) / 588, 4449 + (p - 44032) % 588 / 28, 4519 + (p - 44032) % 28]
def ex (T : mk_S) (p : Int) : List Int :=
  if isSyl p then sylL p
  else if ptI T p < 0 then [p]
  else (if _h : (T 19 (ptI T p).toNat).toNat < p.toNat then ex T (T 19 (ptI T p).toNat) else []) ++ (if _h : T 20 (ptI T p).toNat ≠ 0 ∧ (T 20 (ptI T p).toNat).toNat < p.toNat then ex T (T 20 (ptI T p).toNat) else [])
termination_by p.toNat
decreasing_by
  all_goals first | assumption | exact _h.2
theorem ex_syl {T : mk_S} {p : Int} (h : isSyl p) : ex T p = sylL p := by rw [ex, if_pos h]
theorem ex_leaf {T : mk_S} {p : Int} (h : ¬ isSyl p) (h2 : ptI T p < 0) : ex T p = [p] := by rw [ex, if_neg h, if_pos h2]
theorem ex_part {T : mk_S} (hO : TOK T) {p : Int} {j : Nat} (h : ¬ isSyl p) (hj : ptI T p = (j : Int)) : ex T p = ex T (T 19 j) ++ (if T 20 j ≠ 0 then ex T (T 20 j) else []) := by
  obtain ⟨j', hj', hjn, hp⟩ := (ptI_cases T p).resolve_left (by omega)
  have e : j' = j := by omega
  subst e
  obtain ⟨q1, q2, q3, q4, q5, q6, q7, q8, q9, q10, q11⟩ := hO.2.2.1 j' hjn
  rw [ex, if_neg h, if_neg (by omega), hj, Int.toNat_natCast]
  unfold isPt at q4 q8
  rw [dif_pos (by omega)]
  by_cases g : T 20 j' ≠ 0
  · rw [dif_pos ⟨g, by omega⟩, if_pos g]
  · rw [dif_neg (fun q => g q.1), if_neg g]
def cntF (P : Nat → Bool) : Nat → Nat
  | 0 => 0
  | n + 1 => cntF P n + (if P n = true then 1 else 0)
theorem cntF_le (P : Nat → Bool) : ∀ n, cntF P n ≤ n
  | 0 => Nat.le_refl _
  | n + 1 => by have := cntF_le P n; simp only [cntF]; split <;> omega
theorem cntF_mono {P R : Nat → Bool} (h : ∀ i, P i = true → R i = true) : ∀ n, cntF P n ≤ cntF R n
  | 0 => Nat.le_refl _
  | n + 1 => by
    have := cntF_mono h n
    simp only [cntF]
    by_cases g : P n = true
    · rw [if_pos g, if_pos (h n g)]; omega
    · rw [if_neg g]; omega
theorem cntF_lt {P R : Nat → Bool} (h : ∀ i, P i = true → R i = true) {j : Nat} (hj : R j = true) (hj' : P j ≠ true) : ∀ n, j < n → cntF P n + 1 ≤ cntF R n
  | 0, hn => absurd hn (Nat.not_lt_zero j)
  | n + 1, hn => by
    simp only [cntF]
    by_cases e : j = n
    · subst e
      have := cntF_mono h j
      rw [if_neg hj', if_pos hj]; omega
    · have := cntF_lt h hj hj' n (by omega)
      by_cases g : P n = true
      · rw [if_pos g, if_pos (h n g)]; omega
      · rw [if_neg g]; omega
def dT (T : mk_S) (p : Int) : Nat := cntF (fun i => decide (p < T 18 i)) (nP T)
theorem dT_le {T : mk_S} (hO : TOK T) (p : Int) : dT T p ≤ 100 := Nat.le_trans (cntF_le _ _) hO.1.2.1.2
theorem dT_mono {T : mk_S} {p q : Int} (h : q ≤ p) : dT T p ≤ dT T q := cntF_mono (fun i g => by simp only [decide_eq_true_eq] at g ⊢; omega) _
theorem dT_lt {T : mk_S} {p q : Int} {j : Nat} (hj : j < nP T) (hp : T 18 j = p) (h : q < p) : dT T p + 1 ≤ dT T q := cntF_lt (j := j) (fun i g => by simp only [decide_eq_true_eq] at g ⊢; omega) (decide_eq_true (by omega)) (fun e => by have := of_decide_eq_true e; omega) _ hj
def exL (T : mk_S) (l : List Int) : List Int := l.flatMap (ex T)
-- the sorting
def insR (rk : Int → Int) (p : Int) : List Int → List Int
  | [] => [p]
  | q :: r => if 0 < rk p ∧ rk p < rk q then q :: insR rk p r else p :: q :: r
def srtR (rk : Int → Int) (l : List Int) : List Int := l.foldl (fun acc p => insR rk p acc) []
def srt (rk : Int → Int) (l : List Int) : List Int := (srtR rk l).reverse
theorem insR_comm {rk : Int → Int} {a b : Int} (h : 0 < rk b ∧ rk b < rk a) : ∀ X, insR rk b (insR rk a X) = insR rk a (insR rk b X)
  | [] => by
    show insR rk b [a] = insR rk a [b]
    simp only [insR]
    rw [if_pos h, if_neg (by omega)]
  | q :: r => by
    have ih := insR_comm h r
    simp only [insR]
    by_cases g1 : rk a < rk q
    · rw [if_pos ⟨by omega, g1⟩, if_pos ⟨h.1, by omega⟩]
      simp only [insR]
      rw [if_pos ⟨h.1, by omega⟩, if_pos ⟨by omega, g1⟩, ih]
    · rw [if_neg (fun e => g1 e.2)]
      by_cases g2 : rk b < rk q
      · rw [if_pos ⟨h.1, g2⟩]
        simp only [insR]
        rw [if_pos h, if_pos ⟨h.1, g2⟩, if_neg (fun e => g1 e.2)]
      · rw [if_neg (fun e => g2 e.2)]
        simp only [insR]
        rw [if_pos h, if_neg (fun e => g2 e.2), if_neg (by omega)]
theorem srtR_swap {rk : Int → Int} {a b : Int} (h : 0 < rk b ∧ rk b < rk a) (A B : List Int) : srtR rk (A ++ a :: b :: B) = srtR rk (A ++ b :: a :: B) := by
  unfold srtR
  rw [List.foldl_append, List.foldl_append]
  simp only [List.foldl_cons]
  rw [insR_comm h]
theorem insR_len {rk : Int → Int} {p : Int} : ∀ X, (insR rk p X).length = X.length + 1
  | [] => rfl
  | q :: r => by simp only [insR]; split <;> simp [insR_len r]
theorem srtR_len {rk : Int → Int} (l : List Int) : (srtR rk l).length = l.length := by
  have key : ∀ (l X : List Int), (l.foldl (fun acc p => insR rk p acc) X).length = X.length + l.length := by
    intro l
    induction l with
    | nil => intro X; rfl
    | cons a l ih => intro X; simp only [List.foldl_cons, List.length_cons]; rw [ih, insR_len]; omega
  have := key l []
  unfold srtR
  simpa using this
theorem srt_len {rk : Int → Int} (l : List Int) : (srt rk l).length = l.length := by unfold srt; rw [List.length_reverse, srtR_len]
theorem insR_mem {rk : Int → Int} {p x : Int} : ∀ X, x ∈ insR rk p X ↔ x = p ∨ x ∈ X
  | [] => by simp [insR]
  | q :: r => by
    simp only [insR]
    split
    · simp only [List.mem_cons, insR_mem r]
      constructor
      · rintro (h | h | h)
        · exact Or.inr (Or.inl h)
        · exact Or.inl h
        · exact Or.inr (Or.inr h)
      · rintro (h | h | h)
        · exact Or.inr (Or.inl h)
        · exact Or.inl h
        · exact Or.inr (Or.inr h)
    · simp
theorem srt_mem {rk : Int → Int} {x : Int} (l : List Int) : x ∈ srt rk l ↔ x ∈ l := by
  have key : ∀ (l X : List Int), x ∈ l.foldl (fun acc p => insR rk p acc) X ↔ x ∈ X ∨ x ∈ l := by
    intro l
    induction l with
    | nil => intro X; simp
    | cons a l ih =>
      intro X
      simp only [List.foldl_cons, ih, insR_mem, List.mem_cons]
      constructor
      · rintro ((h | h) | h)
        · exact Or.inr (Or.inl h)
        · exact Or.inl h
        · exact Or.inr (Or.inr h)
      · rintro (h | h | h)
        · exact Or.inl (Or.inr h)
        · exact Or.inl (Or.inl h)
        · exact Or.inr h
  unfold srt srtR
  rw [List.mem_reverse, key]
  simp
theorem srtR_snoc {rk : Int → Int} (l : List Int) (p : Int) : srtR rk (l ++ [p]) = insR rk p (srtR rk l) := by unfold srtR; rw [List.foldl_append]; rfl
-- no neighbours stand wrong
def okS (rk : Int → Int) (l : List Int) : Prop := ∀ j, j + 1 < l.length → ¬ (0 < rk (l.getD (j + 1) 0) ∧ rk (l.getD (j + 1) 0) < rk (l.getD j 0))
theorem srtR_ok {rk : Int → Int} : ∀ (n : Nat) (l : List Int), l.length = n → okS rk l → srtR rk l = l.reverse := by
  intro n
  induction n with
  | zero => intro l hl h; rw [List.length_eq_zero_iff.mp hl]; rfl
  | succ n ih =>
    intro l hl h
    have hne : l ≠ [] := fun e => by rw [e] at hl; cases hl
    have e : l = l.dropLast ++ [l.getLast hne] := (List.dropLast_concat_getLast hne).symm
    generalize hA : l.dropLast = A at e
    generalize l.getLast hne = p at e
    subst e
    have hl' : A.length = n := by simpa using hl
    have hA' : okS rk A := fun j hj => by
      have := h j (by simp; omega)
      rwa [gd_app (by omega), gd_app (by omega)] at this
    rw [srtR_snoc, ih A hl' hA', List.reverse_append]
    show insR rk p A.reverse = p :: A.reverse
    cases hr : A.reverse with
    | nil => rfl
    | cons q r =>
      simp only [insR]
      have hA2 : A = r.reverse ++ [q] := by rw [← List.reverse_reverse A, hr]; simp
      have h3 := h r.length (by rw [hA2]; simp)
      have e1 : (A ++ [p]).getD (r.length + 1) 0 = p := by rw [show r.length + 1 = A.length by rw [hA2]; simp]; exact gd_app_at
      have e2 : (A ++ [p]).getD r.length 0 = q := by
        rw [gd_app (by rw [hA2]; simp), hA2]
        have := gd_app_at (l := r.reverse) (m := []) (z := q)
        rwa [List.length_reverse] at this
      rw [e1, e2] at h3
      rw [if_neg h3]
theorem srt_ok {rk : Int → Int} {l : List Int} (h : okS rk l) : srt rk l = l := by unfold srt; rw [srtR_ok l.length l rfl h, List.reverse_reverse]
-- how many pairs stand wrong
def invs (rk : Int → Int) : List Int → Nat
  | [] => 0
  | a :: l => l.countP (fun b => decide (0 < rk b ∧ rk b < rk a)) + invs rk l
theorem invs_swap {rk : Int → Int} {a b : Int} (h : 0 < rk b ∧ rk b < rk a) : ∀ (A B : List Int), invs rk (A ++ a :: b :: B) = invs rk (A ++ b :: a :: B) + 1
  | [], B => by
    simp only [List.nil_append, invs, List.countP_cons]
    rw [if_pos (by simpa using h), if_neg (by simp; omega)]
    omega
  | c :: A, B => by
    have ih := invs_swap h A B
    simp only [List.cons_append, invs, ih, List.countP_append, List.countP_cons]
    omega
def ap (T : mk_S) (l : List Int) : List Int := srt (rkO T) (exL T l)
