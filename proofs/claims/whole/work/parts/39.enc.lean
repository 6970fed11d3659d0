/-! ENCODE: what the document asks, and the class's side. -/
def leF (n : Int) : Int → List Int → Int
  | d, [] => d
  | d, x :: xs => leF n (if n ≤ x ∧ x < d then x else d) xs
theorem leF_le {n : Int} : ∀ (l : List Int) (d : Int), leF n d l ≤ d
  | [], d => Int.le_refl d
  | x :: xs, d => by
    have := leF_le xs (if n ≤ x ∧ x < d then x else d) (n := n)
    simp only [leF]
    generalize hw : (if n ≤ x ∧ x < d then x else d) = w at *
    split at hw <;> omega
theorem leF_lb {n : Int} : ∀ (l : List Int) (d y : Int), y ∈ l → n ≤ y → leF n d l ≤ y
  | x :: xs, d, y, hy, hn => by
    simp only [leF]
    rcases List.mem_cons.1 hy with rfl | hy
    · have := leF_le xs (if n ≤ y ∧ y < d then y else d) (n := n)
      generalize hw : (if n ≤ y ∧ y < d then y else d) = w at *
      split at hw <;> omega
    · exact leF_lb xs _ y hy hn
theorem leF_mem {n : Int} : ∀ (l : List Int) (d : Int), leF n d l = d ∨ (leF n d l ∈ l ∧ n ≤ leF n d l)
  | [], d => Or.inl rfl
  | x :: xs, d => by
    simp only [leF]
    rcases leF_mem xs (if n ≤ x ∧ x < d then x else d) (n := n) with h | h
    · rw [h]
      split
      · next g => exact Or.inr ⟨List.mem_cons_self, g.1⟩
      · exact Or.inl rfl
    · exact Or.inr ⟨List.mem_cons_of_mem _ h.1, h.2⟩
theorem leF_ok {n d : Int} {l : List Int} (hd : 1114111 ≤ d) (hx : ∃ x, x ∈ l ∧ n ≤ x ∧ x ≤ 1114111) : leF n d l ∈ l ∧ n ≤ leF n d l ∧ leF n d l ≤ 1114111 ∧ ∀ y, y ∈ l → n ≤ y → leF n d l ≤ y := by
  obtain ⟨x, h1, h2, h3⟩ := hx
  have h4 := leF_lb l d x h1 h2
  rcases leF_mem l d (n := n) with h | h
  · rw [h] at h4 ⊢
    have : d = x := by omega
    rw [this] at h ⊢
    exact ⟨h1, h2, h3, fun y g1 g2 => by rw [← h]; exact leF_lb l _ y g1 g2⟩
  · exact ⟨h.1, h.2, by omega, fun y g1 g2 => leF_lb l _ y g1 g2⟩
theorem leF_eq {n : Int} {l : List Int} (hx : ∃ x, x ∈ l ∧ n ≤ x ∧ x ≤ 1114111) : leF n 1114111 l = leF n 1114112 l := by
  have h1 := leF_ok (d := 1114111) (by decide) hx
  have h2 := leF_ok (d := 1114112) (by decide) hx
  have a := h1.2.2.2 _ h2.1 h2.2.1
  have b := h2.2.2.2 _ h1.1 h1.2.1
  omega
def enI (m hb : Int) : List Int → Int → Int → Int → List Int × (Int × Int × Int)
  | [], d, b, h => ([], d, b, h)
  | x :: xs, d, b, h =>
    if x = m then (wr d b ++ (enI m hb xs 0 (adF d (h + 1) (if h = hb then 1 else 0)) (h + 1)).1, (enI m hb xs 0 (adF d (h + 1) (if h = hb then 1 else 0)) (h + 1)).2)
    else enI m hb xs (if x < m then d + 1 else d) b h
def enO (l : List Int) (hb : Int) : Nat → Int → Int → Int → Int → List Int
  | 0, _, _, _, _ => []
  | k + 1, n, d, b, h =>
    if h < l.length then
      (enI (leF n 1114112 l) hb l (d + (leF n 1114112 l - n) * (h + 1)) b h).1 ++
        enO l hb k (leF n 1114112 l + 1) ((enI (leF n 1114112 l) hb l (d + (leF n 1114112 l - n) * (h + 1)) b h).2.1 + 1) (enI (leF n 1114112 l) hb l (d + (leF n 1114112 l - n) * (h + 1)) b h).2.2.1 (enI (leF n 1114112 l) hb l (d + (leF n 1114112 l - n) * (h + 1)) b h).2.2.2
    else []
def bs : List Int → List Int
  | [] => []
  | x :: xs => if x < 128 then x :: bs xs else bs xs
def enc (l : List Int) : List Int := bs l ++ ((if 0 < (bs l).length then [45] else []) ++ enO l (bs l).length l.length 128 0 72 (bs l).length)
def cnt (n : Int) : List Int → Nat
  | [] => 0
  | x :: xs => (if x < n then 1 else 0) + cnt n xs
def ceq (m : Int) : List Int → Nat
  | [] => 0
  | x :: xs => (if x = m then 1 else 0) + ceq m xs
theorem cnt_le (n : Int) : ∀ l : List Int, cnt n l ≤ l.length
  | [] => Nat.le_refl 0
  | x :: xs => by have := cnt_le n xs; simp only [cnt, List.length_cons]; split <;> omega
theorem cnt_ex {n : Int} : ∀ l : List Int, cnt n l < l.length → ∃ x, x ∈ l ∧ n ≤ x
  | [], h => absurd h (Nat.not_lt_zero _)
  | x :: xs, h => by
    simp only [cnt, List.length_cons] at h
    by_cases g : x < n
    · rw [if_pos g] at h
      obtain ⟨y, h1, h2⟩ := cnt_ex (n := n) xs (by omega)
      exact ⟨y, List.mem_cons_of_mem _ h1, h2⟩
    · exact ⟨x, List.mem_cons_self, by omega⟩
theorem cnt_up {n m : Int} (hnm : n ≤ m) : ∀ l : List Int, (∀ y, y ∈ l → n ≤ y → m ≤ y) → cnt (m + 1) l = cnt n l + ceq m l
  | [], _ => rfl
  | x :: xs, h => by
    have ih := cnt_up hnm xs (fun y hy => h y (List.mem_cons_of_mem _ hy))
    have hx := h x List.mem_cons_self
    simp only [cnt, ceq, ih]
    (repeat' split) <;> omega
theorem ceq_pos {m : Int} : ∀ l : List Int, m ∈ l → 1 ≤ ceq m l
  | x :: xs, h => by
    simp only [ceq]
    rcases List.mem_cons.1 h with e | h
    · rw [if_pos e.symm]; omega
    · have := ceq_pos xs h; omega
theorem bs_len : ∀ l : List Int, (bs l).length = cnt 128 l
  | [] => rfl
  | x :: xs => by
    have := bs_len xs
    simp only [bs, cnt]
    split
    · simp only [List.length_cons]; omega
    · omega
theorem enI_h {m hb : Int} : ∀ (l : List Int) (d b h : Int), (enI m hb l d b h).2.2.2 = h + ceq m l
  | [], d, b, h => by simp [enI, ceq]
  | x :: xs, d, b, h => by
    simp only [enI, ceq]
    by_cases g : x = m
    · rw [if_pos g, if_pos g]
      simp only [enI_h xs]; omega
    · rw [if_neg g, if_neg g, enI_h xs]; omega
theorem enI_rng {m hb : Int} : ∀ (l : List Int) (d b h : Int), 0 ≤ d → d + l.length ≤ 400000000 → 0 ≤ b ∧ b ≤ 1476 → 0 ≤ h →
    0 ≤ (enI m hb l d b h).2.1 ∧ (enI m hb l d b h).2.1 ≤ d + l.length ∧ (m ∈ l → (enI m hb l d b h).2.1 ≤ l.length) ∧ 0 ≤ (enI m hb l d b h).2.2.1 ∧ (enI m hb l d b h).2.2.1 ≤ 1476 ∧
    10000000 * ((enI m hb l d b h).1.length : Int) + (enI m hb l d b h).2.1 ≤ 80000000 * (ceq m l : Int) + d + l.length
  | [], d, b, h, h1, h2, h3, h4 => by simp [enI, ceq]; omega
  | x :: xs, d, b, h, h1, h2, h3, h4 => by
    simp only [List.length_cons] at h2 ⊢
    simp only [enI, ceq]
    by_cases g : x = m
    · rw [if_pos g, if_pos g]
      have hw := wr_len (q := d) (b := b) h1 (by omega)
      have ha := adF_rng (d := d) (p := h + 1) (f := if h = hb then 1 else 0) h1 (by omega)
      have ih := enI_rng xs 0 (adF d (h + 1) (if h = hb then 1 else 0)) (h + 1) (m := m) (hb := hb) (by omega) (by omega) ha (by omega)
      simp only [List.length_append]
      refine ⟨ih.1, by omega, fun _ => by omega, ih.2.2.2.1, ih.2.2.2.2.1, ?_⟩
      have := ih.2.2.2.2.2
      omega
    · rw [if_neg g, if_neg g]
      have hc : 0 ≤ (if x < m then d + 1 else d) ∧ (if x < m then d + 1 else d) ≤ d + 1 := by split <;> omega
      have ih := enI_rng xs (if x < m then d + 1 else d) b h (m := m) (hb := hb) hc.1 (by omega) h3 h4
      refine ⟨ih.1, by omega, fun hm => ?_, ih.2.2.2.1, ih.2.2.2.2.1, by omega⟩
      rcases List.mem_cons.1 hm with e | hm
      · exact absurd e.symm g
      · have := ih.2.2.1 hm; omega
theorem mul_rng {m n h : Int} (h1 : n ≤ m) (h3 : 0 ≤ h ∧ h ≤ 300) : 0 ≤ (m - n) * (h + 1) ∧ (m - n) * (h + 1) ≤ (m - n) * 301 :=
  ⟨Int.mul_nonneg (by omega) (by omega), Int.mul_le_mul_of_nonneg_left (by omega) (by omega)⟩
/-- one round: what holds before it, holds after it -/
def enR (l : List Int) (n d b h : Int) : Prop := h = cnt n l ∧ 0 ≤ n ∧ n ≤ 1114112 ∧ 0 ≤ d ∧ d ≤ l.length + 1 ∧ 0 ≤ b ∧ b ≤ 1476
def le1 (l : List Int) (n : Int) : Int := leF n 1114112 l
def enD (l : List Int) (n d h : Int) : Int := d + (le1 l n - n) * (h + 1)
theorem enR_step {l : List Int} {n d b h hb : Int} (hl : l.length ≤ 300) (hp : ∀ y, y ∈ l → y ≤ 1114111) (hR : enR l n d b h) (hh : h < l.length) :
    (leF n 1114111 l = le1 l n ∧ le1 l n ∈ l ∧ n ≤ le1 l n ∧ le1 l n ≤ 1114111) ∧ (0 ≤ (le1 l n - n) * (h + 1) ∧ (le1 l n - n) * (h + 1) ≤ (le1 l n - n) * 301) ∧ 0 ≤ h ∧ enR l (le1 l n + 1) ((enI (le1 l n) hb l (enD l n d h) b h).2.1 + 1) (enI (le1 l n) hb l (enD l n d h) b h).2.2.1 (enI (le1 l n) hb l (enD l n d h) b h).2.2.2 ∧
    h + 1 ≤ (enI (le1 l n) hb l (enD l n d h) b h).2.2.2 ∧ 10000000 * ((enI (le1 l n) hb l (enD l n d h) b h).1.length : Int) + (enI (le1 l n) hb l (enD l n d h) b h).2.1 ≤ 80000000 * ((enI (le1 l n) hb l (enD l n d h) b h).2.2.2 - h) + d + (le1 l n - n) * 301 + l.length := by
  obtain ⟨r1, r2, r3, r4, r5, r6, r7⟩ := hR
  obtain ⟨x, x1, x2⟩ := cnt_ex (n := n) l (by omega)
  have hx : ∃ x, x ∈ l ∧ n ≤ x ∧ x ≤ 1114111 := ⟨x, x1, x2, hp x x1⟩
  have h2 := leF_ok (d := 1114112) (by decide) hx
  have he := leF_eq hx
  unfold enD
  rw [show leF n 1114112 l = le1 l n from rfl] at h2 he
  have hm := mul_rng h2.2.1 (show 0 ≤ h ∧ h ≤ 300 by omega)
  have hI := enI_rng l (d + (le1 l n - n) * (h + 1)) b h (m := le1 l n) (hb := hb) (by omega) (by omega) ⟨r6, r7⟩ (by omega)
  have hH := enI_h l (d + (le1 l n - n) * (h + 1)) b h (m := le1 l n) (hb := hb)
  have hc := cnt_up h2.2.1 l h2.2.2.2
  have hq := ceq_pos l h2.1
  refine ⟨⟨he, h2.1, h2.2.1, h2.2.2.1⟩, hm, by omega, ⟨by rw [hH, hc, r1]; omega, by omega, by omega, by omega, ?_, hI.2.2.2.1, hI.2.2.2.2.1⟩, by rw [hH]; omega, ?_⟩
  · have := hI.2.2.1 h2.1; omega
  · rw [hH]
    have := hI.2.2.2.2.2
    omega
theorem enO_step {l : List Int} {hb : Int} {k : Nat} {n d b h : Int} (hh : h < l.length) : enO l hb (k + 1) n d b h = (enI (le1 l n) hb l (enD l n d h) b h).1 ++ enO l hb k (le1 l n + 1) ((enI (le1 l n) hb l (enD l n d h) b h).2.1 + 1) (enI (le1 l n) hb l (enD l n d h) b h).2.2.1 (enI (le1 l n) hb l (enD l n d h) b h).2.2.2 := by
  simp only [enO, enD, le1]; rw [if_pos hh]
theorem enO_end {l : List Int} {hb : Int} {k : Nat} {n d b h : Int} (hh : ¬ h < l.length) : enO l hb k n d b h = [] := by
  cases k with
  | zero => rfl
  | succ k => simp only [enO]; rw [if_neg hh]
theorem enO_len {l : List Int} {hb : Int} (hl : l.length ≤ 300) (hp : ∀ y, y ∈ l → y ≤ 1114111) : ∀ (k : Nat) (n d b h : Int), enR l n d b h → 10000000 * ((enO l hb k n d b h).length : Int) ≤ 80000000 * (l.length - h) + d + (1114112 - n) * 301 + 302 * k
  | 0, n, d, b, h, hR => by
    obtain ⟨r1, r2, r3, r4, r5, r6, r7⟩ := hR
    have := cnt_le n l
    simp only [enO, List.length_nil]; omega
  | k + 1, n, d, b, h, hR => by
    by_cases hh : h < l.length
    · have hs := enR_step (hb := hb) hl hp hR hh
      have ih := enO_len hl hp k _ _ _ _ hs.2.2.2.1 (hb := hb)
      have h6 := hs.2.2.2.2.2
      rw [enO_step hh, List.length_append]
      generalize enI (le1 l n) hb l (enD l n d h) b h = r at *
      generalize (enO l hb k (le1 l n + 1) (r.2.1 + 1) r.2.2.1 r.2.2.2).length = z at *
      generalize r.1.length = y at *
      omega
    · rw [enO_end hh]
      obtain ⟨r1, r2, r3, r4, r5, r6, r7⟩ := hR
      have := cnt_le n l
      simp only [List.length_nil]; omega
theorem enR_start {l : List Int} : enR l 128 0 72 (bs l).length := by rw [bs_len]; exact ⟨rfl, by decide, by decide, by decide, by omega, by decide, by decide⟩
theorem bs_le (l : List Int) : (bs l).length ≤ l.length := by rw [bs_len]; exact cnt_le _ _
theorem enc_len {l : List Int} (hl : l.length ≤ 300) (hp : ∀ y, y ∈ l → y ≤ 1114111) : (enc l).length ≤ 2600 := by
  have h1 := enO_len (hb := (bs l).length) hl hp l.length 128 0 72 _ enR_start
  have h2 := bs_le l
  unfold enc
  simp only [List.length_append]
  have h3 : (if 0 < (bs l).length then [45] else ([] : List Int)).length ≤ 1 := by split <;> simp
  omega
section ENC
variable {L : Nat}
theorem lp_least {σ : mk_S} {rs ns a e : Nat} {lw : List Int} {n : Int} (hrs : isRow L rs ns) (hs : rowOK σ rs ns lw) (he : e ≤ lw.length) {Q : Option mm_V → mm_H → Prop} : ∀ (k j : Nat) (c : Int), j + k = e → Q (some (vI (leF n c (sg lw j e)))) (hp L σ) → mm_X 81 7 [vP rs, vI (a : Nat), vI (e : Nat), vI n, vI c, vI (j : Nat)] [] (hp L σ) Q := by
  intro k
  have hb := hrs.2.2
  have hb2 := hs.2.1
  induction k with
  | zero =>
    intro j c hj kk
    refine r_iload c_81_7 rfl <| r_iload_n c_81_9 rfl <| r_icmp_ge c_81_10 (fun h10 => ?_) <| (fun h10 => ?_)
    · refine r_iload c_81_48 rfl <| r_iret c_81_50 <| ?_
      rw [sg_nil (by omega)] at kk; exact kk
    · exact absurd h10 (by omega)
  | succ k ih =>
    intro j c hj kk
    rw [sg_cons (by omega) he] at kk
    simp only [leF] at kk
    refine r_iload c_81_7 rfl <| r_iload_n c_81_9 rfl <| r_icmp_ge c_81_10 (fun h10 => ?_) <| (fun h10 => ?_)
    · exact absurd h10 (by omega)
    · refine r_aload_n c_81_13 rfl <| r_iload c_81_14 rfl <| r_cV1 c_81_16 hrs.1 (Nat.le_of_ble_eq_true rfl) <| ?_
      refine ct_atn hrs hs (by omega) ?_
      refine r_iload_n c_81_19 rfl <| r_icmp_lt c_81_20 (fun h20 => ?_) <| (fun h20 => ?_)
      · refine r_iinc_6_5 c_81_42 rfl (by omega) <| r_goto c_81_45 <| ?_
        first
        | (rw [if_pos (by omega)] at kk; exact ih (j + 1) _ (by omega) kk)
        | (rw [if_neg (by omega)] at kk; exact ih (j + 1) _ (by omega) kk)
      · refine r_aload_n c_81_23 rfl <| r_iload c_81_24 rfl <| r_cV1 c_81_26 hrs.1 (Nat.le_of_ble_eq_true rfl) <| ?_
        refine ct_atn hrs hs (by omega) ?_
        refine r_iload c_81_29 rfl <| r_icmp_ge c_81_31 (fun h31 => ?_) <| (fun h31 => ?_)
        · refine r_iinc_6_5 c_81_42 rfl (by omega) <| r_goto c_81_45 <| ?_
          first
          | (rw [if_pos (by omega)] at kk; exact ih (j + 1) _ (by omega) kk)
          | (rw [if_neg (by omega)] at kk; exact ih (j + 1) _ (by omega) kk)
        · refine r_aload_n c_81_34 rfl <| r_iload c_81_35 rfl <| r_cV1 c_81_37 hrs.1 (Nat.le_of_ble_eq_true rfl) <| ?_
          refine ct_atn hrs hs (by omega) ?_
          refine r_istore_6_4 c_81_40 rfl <| r_iinc_6_5 c_81_42 rfl (by omega) <| r_goto c_81_45 <| ?_
          first
          | (rw [if_pos (by omega)] at kk; exact ih (j + 1) _ (by omega) kk)
          | (rw [if_neg (by omega)] at kk; exact ih (j + 1) _ (by omega) kk)
theorem ct_least {σ : mk_S} {rs ns a e : Nat} {lw : List Int} (n : Int) (hrs : isRow L rs ns) (hs : rowOK σ rs ns lw) (hae : a ≤ e) (he : e ≤ lw.length) {Q : Option mm_V → mm_H → Prop} (k : Q (some (vI (leF n 1114111 (sg lw a e)))) (hp L σ)) : mm_call 81 [vP rs, vI (a : Nat), vI (e : Nat), vI n] (hp L σ) Q := by
  refine ⟨Nat.le_of_ble_eq_true rfl, ?_⟩
  show mm_X 81 0 [vP rs, vI (a : Nat), vI (e : Nat), vI n, mm_null, mm_null] [] _ _
  refine r_ldc c_81_0 <| r_istore_6_4 c_81_2 rfl <| r_iload_n c_81_4 rfl <| r_istore_6_5 c_81_5 rfl <| ?_
  exact lp_least hrs hs he (e - a) a _ (by omega) k
theorem lp_fwI {rs ns ro a e : Nat} {lw : List Int} {m i : Int} {hb : Nat} {R : List Int × (Int × Int × Int)} (hrs : isRow L rs ns) (hro : isRow L ro 300) (hne : rs ≠ ro ∧ rs ≠ ro + 1 ∧ rs + 1 ≠ ro) (he : e ≤ lw.length) (hi : 0 ≤ i ∧ i ≤ 1300) : ∀ (k j : Nat) (d b : Int) (h : Nat) (o : List Int) (σ : mk_S) (Q : Option mm_V → mm_H → Prop), j + k = e → rowOK σ rs ns lw → rowOK σ ro 300 o → 0 ≤ d → d + k ≤ 400000000 → 0 ≤ b → b ≤ 1476 → h + k ≤ 700 → R.2 = (enI m hb (sg lw j e) d b h).2 →
    ((o ++ (enI m hb (sg lw j e) d b h).1).length ≤ 300 → ∀ σ', rowOK σ' ro 300 (o ++ (enI m hb (sg lw j e) d b h).1) → fr2 ro σ σ' → mm_X 80 173 [vP rs, vI (a : Nat), vI (e : Nat), vI (hb : Nat), vP ro, vI m, vJ R.2.1, mm_null, vI R.2.2.1, vI R.2.2.2, vI i, vI m, vI (e : Nat)] [] (hp L σ') Q) →
    (300 < (o ++ (enI m hb (sg lw j e) d b h).1).length → ∀ σ' l', rowOK σ' ro 300 l' → l'.length = 300 → fr2 ro σ σ' → Q (some (vI (-3))) (hp L σ')) →
    mm_X 80 78 [vP rs, vI (a : Nat), vI (e : Nat), vI (hb : Nat), vP ro, vI m, vJ d, mm_null, vI b, vI (h : Nat), vI i, vI m, vI (j : Nat)] [] (hp L σ) Q := by
  intro k
  have hb1 := hrs.2.2
  induction k with
  | zero =>
    intro j d b h o σ Q hj hs ho h1 h2 h3 h4 h5 hR k1 k0
    have hb2 := hs.2.1
    have ej : j = e := by omega
    subst ej
    rw [sg_nil (by omega)] at k1 k0 hR
    simp only [enI, List.append_nil] at k1 k0 hR
    rw [hR] at k1
    have k1 := k1 ho.2.1 σ ho fr2.rf
    refine r_iload c_80_78 rfl <| r_iload_n c_80_80 rfl <| r_icmp_ge c_80_81 (fun h81 => ?_) <| (fun h81 => ?_)
    · exact k1
    · exact absurd h81 (by omega)
  | succ k ih =>
    intro j d b h o σ Q hj hs ho h1 h2 h3 h4 h5 hR k1 k0
    have hb2 := hs.2.1
    have ha := fun f => adF_rng (d := d) (p := (h : Int) + 1) (f := f) h1 (by omega)
    rw [sg_cons (by omega) he] at k1 k0 hR
    simp only [enI] at k1 k0 hR
    generalize hx : lw.getD j 0 = x at *
    refine r_iload c_80_78 rfl <| r_iload_n c_80_80 rfl <| r_icmp_ge c_80_81 (fun h81 => ?_) <| (fun h81 => ?_)
    · exact absurd h81 (by omega)
    · refine r_aload_n c_80_84 rfl <| r_iload c_80_85 rfl <| r_cV1 c_80_87 hrs.1 (Nat.le_of_ble_eq_true rfl) <| ?_
      refine ct_atn hrs hs (by omega) ?_; rw [hx]
      refine r_iload c_80_90 rfl <| r_icmp_ge c_80_92 (fun h92 => ?_) <| (fun h92 => ?_)
      · refine r_aload_n c_80_113 rfl <| r_iload c_80_114 rfl <| r_cV1 c_80_116 hrs.1 (Nat.le_of_ble_eq_true rfl) <| ?_
        refine ct_atn hrs hs (by omega) ?_; rw [hx]
        refine r_iload c_80_119 rfl <| r_icmp_ne c_80_121 (fun h121 => ?_) <| (fun h121 => ?_)
        · refine r_iinc_13_12 c_80_167 rfl (by omega) <| r_goto c_80_170 <| ?_
          first
          | exact absurd h92 (by omega)
          | (rw [if_neg (by omega), if_pos (by omega)] at k1 k0 hR
             exact ih (j + 1) _ _ h o σ Q (by omega) hs ho (by omega) (by omega) h3 h4 (by omega) hR k1 k0)
          | (rw [if_neg (by omega), if_neg (by omega)] at k1 k0 hR
             exact ih (j + 1) _ _ h o σ Q (by omega) hs ho (by omega) (by omega) h3 h4 (by omega) hR k1 k0)
          | (rw [if_pos (by omega), if_pos (by omega)] at k1 k0 hR
             rw [← List.append_assoc] at k1 k0
             have ha := ha 1
             exact ih (j + 1) _ _ (h + 1) _ σ1 Q (by omega) (hs.fr2 hf1 hne) hl1 (by omega) (by omega) ha.1 ha.2 (by omega) hR (fun g1 σ2 g2 g3 => k1 g1 σ2 g2 (hf1.tr g3)) (fun g1 σ2 l2 g2 g4 g3 => k0 g1 σ2 l2 g2 g4 (hf1.tr g3)))
          | (rw [if_pos (by omega), if_neg (by omega)] at k1 k0 hR
             rw [← List.append_assoc] at k1 k0
             have ha := ha 0
             exact ih (j + 1) _ _ (h + 1) _ σ1 Q (by omega) (hs.fr2 hf1 hne) hl1 (by omega) (by omega) ha.1 ha.2 (by omega) hR (fun g1 σ2 g2 g3 => k1 g1 σ2 g2 (hf1.tr g3)) (fun g1 σ2 l2 g2 g4 g3 => k0 g1 σ2 l2 g2 g4 (hf1.tr g3)))
        · refine r_lload c_80_124 rfl <| r_iload c_80_126 rfl <| r_aload c_80_128 rfl <| r_cS3 c_80_130 (Nat.le_of_ble_eq_true rfl) <| ?_
          refine ct_wrC _ _ hro (by omega) (by omega) ho (fun hlt σ1 hl1 hf1 => ?_) (fun hgt σ1 l1 hl1 hlen hf1 => ?_)
          · refine r_if_ne c_80_133 (fun _ => ?_) <| (fun h => absurd h (by decide))
            refine r_lload c_80_139 rfl <| r_iload c_80_141 rfl <| r_iconst c_80_143 <| r_iadd c_80_144 (by omega) <| r_iload c_80_145 rfl <| r_iload_n c_80_147 rfl <| r_icmp_ne c_80_148 (fun h148 => ?_) <| (fun h148 => ?_)
            · refine r_iconst c_80_155 <| r_cS3 c_80_156 (Nat.le_of_ble_eq_true rfl) <| ?_
              refine ct_adapted _ _ _ (by omega) (by omega) ?_
              refine r_istore_13_8 c_80_159 rfl <| r_lconst c_80_161 <| r_lstore_13_6 c_80_162 rfl <| r_iinc_13_9 c_80_164 rfl (by omega) <| r_iinc_13_12 c_80_167 rfl (by omega) <| r_goto c_80_170 <| ?_
              first
              | exact absurd h92 (by omega)
              | (rw [if_neg (by omega), if_pos (by omega)] at k1 k0 hR
                 exact ih (j + 1) _ _ h o σ Q (by omega) hs ho (by omega) (by omega) h3 h4 (by omega) hR k1 k0)
              | (rw [if_neg (by omega), if_neg (by omega)] at k1 k0 hR
                 exact ih (j + 1) _ _ h o σ Q (by omega) hs ho (by omega) (by omega) h3 h4 (by omega) hR k1 k0)
              | (rw [if_pos (by omega), if_pos (by omega)] at k1 k0 hR
                 rw [← List.append_assoc] at k1 k0
                 have ha := ha 1
                 exact ih (j + 1) _ _ (h + 1) _ σ1 Q (by omega) (hs.fr2 hf1 hne) hl1 (by omega) (by omega) ha.1 ha.2 (by omega) hR (fun g1 σ2 g2 g3 => k1 g1 σ2 g2 (hf1.tr g3)) (fun g1 σ2 l2 g2 g4 g3 => k0 g1 σ2 l2 g2 g4 (hf1.tr g3)))
              | (rw [if_pos (by omega), if_neg (by omega)] at k1 k0 hR
                 rw [← List.append_assoc] at k1 k0
                 have ha := ha 0
                 exact ih (j + 1) _ _ (h + 1) _ σ1 Q (by omega) (hs.fr2 hf1 hne) hl1 (by omega) (by omega) ha.1 ha.2 (by omega) hR (fun g1 σ2 g2 g3 => k1 g1 σ2 g2 (hf1.tr g3)) (fun g1 σ2 l2 g2 g4 g3 => k0 g1 σ2 l2 g2 g4 (hf1.tr g3)))
            · refine r_iconst c_80_151 <| r_goto c_80_152 <| r_cS3 c_80_156 (Nat.le_of_ble_eq_true rfl) <| ?_
              refine ct_adapted _ _ _ (by omega) (by omega) ?_
              refine r_istore_13_8 c_80_159 rfl <| r_lconst c_80_161 <| r_lstore_13_6 c_80_162 rfl <| r_iinc_13_9 c_80_164 rfl (by omega) <| r_iinc_13_12 c_80_167 rfl (by omega) <| r_goto c_80_170 <| ?_
              first
              | exact absurd h92 (by omega)
              | (rw [if_neg (by omega), if_pos (by omega)] at k1 k0 hR
                 exact ih (j + 1) _ _ h o σ Q (by omega) hs ho (by omega) (by omega) h3 h4 (by omega) hR k1 k0)
              | (rw [if_neg (by omega), if_neg (by omega)] at k1 k0 hR
                 exact ih (j + 1) _ _ h o σ Q (by omega) hs ho (by omega) (by omega) h3 h4 (by omega) hR k1 k0)
              | (rw [if_pos (by omega), if_pos (by omega)] at k1 k0 hR
                 rw [← List.append_assoc] at k1 k0
                 have ha := ha 1
                 exact ih (j + 1) _ _ (h + 1) _ σ1 Q (by omega) (hs.fr2 hf1 hne) hl1 (by omega) (by omega) ha.1 ha.2 (by omega) hR (fun g1 σ2 g2 g3 => k1 g1 σ2 g2 (hf1.tr g3)) (fun g1 σ2 l2 g2 g4 g3 => k0 g1 σ2 l2 g2 g4 (hf1.tr g3)))
              | (rw [if_pos (by omega), if_neg (by omega)] at k1 k0 hR
                 rw [← List.append_assoc] at k1 k0
                 have ha := ha 0
                 exact ih (j + 1) _ _ (h + 1) _ σ1 Q (by omega) (hs.fr2 hf1 hne) hl1 (by omega) (by omega) ha.1 ha.2 (by omega) hR (fun g1 σ2 g2 g3 => k1 g1 σ2 g2 (hf1.tr g3)) (fun g1 σ2 l2 g2 g4 g3 => k0 g1 σ2 l2 g2 g4 (hf1.tr g3)))
          · refine r_if_ne c_80_133 (fun h => absurd h (by decide)) <| (fun _ => ?_)
            refine r_bipush c_80_136 <| r_iret c_80_138 <| ?_
            rw [if_pos (by omega)] at k0
            exact k0 (by simp only [List.length_append] at hgt ⊢; omega) σ1 l1 hl1 hlen hf1
      · refine r_lload c_80_95 rfl <| r_lconst c_80_97 <| r_ladd c_80_98 (by omega) <| r_lstore_13_6 c_80_99 rfl <| r_lload c_80_101 rfl <| r_ldc2_w c_80_103 <| r_lc_le c_80_106 c_80_107 (fun h106 => ?_) <| (fun h106 => ?_)
        · refine r_aload_n c_80_113 rfl <| r_iload c_80_114 rfl <| r_cV1 c_80_116 hrs.1 (Nat.le_of_ble_eq_true rfl) <| ?_
          refine ct_atn hrs hs (by omega) ?_; rw [hx]
          refine r_iload c_80_119 rfl <| r_icmp_ne c_80_121 (fun h121 => ?_) <| (fun h121 => ?_)
          · refine r_iinc_13_12 c_80_167 rfl (by omega) <| r_goto c_80_170 <| ?_
            first
            | exact absurd h92 (by omega)
            | (rw [if_neg (by omega), if_pos (by omega)] at k1 k0 hR
               exact ih (j + 1) _ _ h o σ Q (by omega) hs ho (by omega) (by omega) h3 h4 (by omega) hR k1 k0)
            | (rw [if_neg (by omega), if_neg (by omega)] at k1 k0 hR
               exact ih (j + 1) _ _ h o σ Q (by omega) hs ho (by omega) (by omega) h3 h4 (by omega) hR k1 k0)
            | (rw [if_pos (by omega), if_pos (by omega)] at k1 k0 hR
               rw [← List.append_assoc] at k1 k0
               have ha := ha 1
               exact ih (j + 1) _ _ (h + 1) _ σ1 Q (by omega) (hs.fr2 hf1 hne) hl1 (by omega) (by omega) ha.1 ha.2 (by omega) hR (fun g1 σ2 g2 g3 => k1 g1 σ2 g2 (hf1.tr g3)) (fun g1 σ2 l2 g2 g4 g3 => k0 g1 σ2 l2 g2 g4 (hf1.tr g3)))
            | (rw [if_pos (by omega), if_neg (by omega)] at k1 k0 hR
               rw [← List.append_assoc] at k1 k0
               have ha := ha 0
               exact ih (j + 1) _ _ (h + 1) _ σ1 Q (by omega) (hs.fr2 hf1 hne) hl1 (by omega) (by omega) ha.1 ha.2 (by omega) hR (fun g1 σ2 g2 g3 => k1 g1 σ2 g2 (hf1.tr g3)) (fun g1 σ2 l2 g2 g4 g3 => k0 g1 σ2 l2 g2 g4 (hf1.tr g3)))
          · refine r_lload c_80_124 rfl <| r_iload c_80_126 rfl <| r_aload c_80_128 rfl <| r_cS3 c_80_130 (Nat.le_of_ble_eq_true rfl) <| ?_
            refine ct_wrC _ _ hro (by omega) (by omega) ho (fun hlt σ1 hl1 hf1 => ?_) (fun hgt σ1 l1 hl1 hlen hf1 => ?_)
            · refine r_if_ne c_80_133 (fun _ => ?_) <| (fun h => absurd h (by decide))
              refine r_lload c_80_139 rfl <| r_iload c_80_141 rfl <| r_iconst c_80_143 <| r_iadd c_80_144 (by omega) <| r_iload c_80_145 rfl <| r_iload_n c_80_147 rfl <| r_icmp_ne c_80_148 (fun h148 => ?_) <| (fun h148 => ?_)
              · refine r_iconst c_80_155 <| r_cS3 c_80_156 (Nat.le_of_ble_eq_true rfl) <| ?_
                refine ct_adapted _ _ _ (by omega) (by omega) ?_
                refine r_istore_13_8 c_80_159 rfl <| r_lconst c_80_161 <| r_lstore_13_6 c_80_162 rfl <| r_iinc_13_9 c_80_164 rfl (by omega) <| r_iinc_13_12 c_80_167 rfl (by omega) <| r_goto c_80_170 <| ?_
                first
                | exact absurd h92 (by omega)
                | (rw [if_neg (by omega), if_pos (by omega)] at k1 k0 hR
                   exact ih (j + 1) _ _ h o σ Q (by omega) hs ho (by omega) (by omega) h3 h4 (by omega) hR k1 k0)
                | (rw [if_neg (by omega), if_neg (by omega)] at k1 k0 hR
                   exact ih (j + 1) _ _ h o σ Q (by omega) hs ho (by omega) (by omega) h3 h4 (by omega) hR k1 k0)
                | (rw [if_pos (by omega), if_pos (by omega)] at k1 k0 hR
                   rw [← List.append_assoc] at k1 k0
                   have ha := ha 1
                   exact ih (j + 1) _ _ (h + 1) _ σ1 Q (by omega) (hs.fr2 hf1 hne) hl1 (by omega) (by omega) ha.1 ha.2 (by omega) hR (fun g1 σ2 g2 g3 => k1 g1 σ2 g2 (hf1.tr g3)) (fun g1 σ2 l2 g2 g4 g3 => k0 g1 σ2 l2 g2 g4 (hf1.tr g3)))
                | (rw [if_pos (by omega), if_neg (by omega)] at k1 k0 hR
                   rw [← List.append_assoc] at k1 k0
                   have ha := ha 0
                   exact ih (j + 1) _ _ (h + 1) _ σ1 Q (by omega) (hs.fr2 hf1 hne) hl1 (by omega) (by omega) ha.1 ha.2 (by omega) hR (fun g1 σ2 g2 g3 => k1 g1 σ2 g2 (hf1.tr g3)) (fun g1 σ2 l2 g2 g4 g3 => k0 g1 σ2 l2 g2 g4 (hf1.tr g3)))
              · refine r_iconst c_80_151 <| r_goto c_80_152 <| r_cS3 c_80_156 (Nat.le_of_ble_eq_true rfl) <| ?_
                refine ct_adapted _ _ _ (by omega) (by omega) ?_
                refine r_istore_13_8 c_80_159 rfl <| r_lconst c_80_161 <| r_lstore_13_6 c_80_162 rfl <| r_iinc_13_9 c_80_164 rfl (by omega) <| r_iinc_13_12 c_80_167 rfl (by omega) <| r_goto c_80_170 <| ?_
                first
                | exact absurd h92 (by omega)
                | (rw [if_neg (by omega), if_pos (by omega)] at k1 k0 hR
                   exact ih (j + 1) _ _ h o σ Q (by omega) hs ho (by omega) (by omega) h3 h4 (by omega) hR k1 k0)
                | (rw [if_neg (by omega), if_neg (by omega)] at k1 k0 hR
                   exact ih (j + 1) _ _ h o σ Q (by omega) hs ho (by omega) (by omega) h3 h4 (by omega) hR k1 k0)
                | (rw [if_pos (by omega), if_pos (by omega)] at k1 k0 hR
                   rw [← List.append_assoc] at k1 k0
                   have ha := ha 1
                   exact ih (j + 1) _ _ (h + 1) _ σ1 Q (by omega) (hs.fr2 hf1 hne) hl1 (by omega) (by omega) ha.1 ha.2 (by omega) hR (fun g1 σ2 g2 g3 => k1 g1 σ2 g2 (hf1.tr g3)) (fun g1 σ2 l2 g2 g4 g3 => k0 g1 σ2 l2 g2 g4 (hf1.tr g3)))
                | (rw [if_pos (by omega), if_neg (by omega)] at k1 k0 hR
                   rw [← List.append_assoc] at k1 k0
                   have ha := ha 0
                   exact ih (j + 1) _ _ (h + 1) _ σ1 Q (by omega) (hs.fr2 hf1 hne) hl1 (by omega) (by omega) ha.1 ha.2 (by omega) hR (fun g1 σ2 g2 g3 => k1 g1 σ2 g2 (hf1.tr g3)) (fun g1 σ2 l2 g2 g4 g3 => k0 g1 σ2 l2 g2 g4 (hf1.tr g3)))
            · refine r_if_ne c_80_133 (fun h => absurd h (by decide)) <| (fun _ => ?_)
              refine r_bipush c_80_136 <| r_iret c_80_138 <| ?_
              rw [if_pos (by omega)] at k0
              exact k0 (by simp only [List.length_append] at hgt ⊢; omega) σ1 l1 hl1 hlen hf1
        · exact absurd h106 (by omega)
theorem enI_hn {m hb : Int} {l : List Int} {d b : Int} {h : Nat} : (enI m hb l d b h).2.2.2 = ((h + ceq m l : Nat) : Int) := by rw [enI_h]; omega
theorem lp_fwO {rs ns ro a e : Nat} {lw : List Int} {hb : Nat} (hrs : isRow L rs ns) (hro : isRow L ro 300) (hne : rs ≠ ro ∧ rs ≠ ro + 1 ∧ rs + 1 ≠ ro) (he : e ≤ lw.length) (hae : a ≤ e) (hea : e - a ≤ 300) (hpl : ∀ y, y ∈ sg lw a e → y ≤ 1114111) : ∀ (k i : Nat) (n d b : Int) (h : Nat) (o : List Int) (σ : mk_S) (a11 a12 : mm_V) (Q : Option mm_V → mm_H → Prop), i + k = e → rowOK σ rs ns lw → rowOK σ ro 300 o → enR (sg lw a e) n d b h →
    ((o ++ enO (sg lw a e) hb k n d b h).length ≤ 300 → ∀ σ', rowOK σ' ro 300 (o ++ enO (sg lw a e) hb k n d b h) → fr2 ro σ σ' → Q (some (vI (-1))) (hp L σ')) →
    (300 < (o ++ enO (sg lw a e) hb k n d b h).length → ∀ σ' l', rowOK σ' ro 300 l' → l'.length = 300 → fr2 ro σ σ' → Q (some (vI (-3))) (hp L σ')) →
    mm_X 80 18 [vP rs, vI (a : Nat), vI (e : Nat), vI (hb : Nat), vP ro, vI n, vJ d, mm_null, vI b, vI (h : Nat), vI (i : Nat), a11, a12] [] (hp L σ) Q := by
  intro k
  have hb1 := hrs.2.2
  have hlen : (sg lw a e).length = e - a := sg_len he
  induction k with
  | zero =>
    intro i n d b h o σ a11 a12 Q hj hs ho hR k1 k0
    have hb2 := hs.2.1
    simp only [enO, List.append_nil] at k1
    have k1 := k1 ho.2.1 σ ho fr2.rf
    refine r_iload c_80_18 rfl <| r_iload_n c_80_20 rfl <| r_icmp_ge c_80_21 (fun h21 => ?_) <| (fun h21 => ?_)
    · refine r_iconst c_80_188 <| r_iret c_80_189 <| ?_
      exact k1
    · exact absurd h21 (by omega)
  | succ k ih =>
    intro i n d b h o σ a11 a12 Q hj hs ho hR k1 k0
    have hb2 := hs.2.1
    by_cases hh : (h : Int) < (sg lw a e).length
    · have hS := enR_step (hb := hb) (by omega) hpl hR hh
      obtain ⟨⟨q1, q2, q3, q4⟩, q5, q6, q7, q8, q9⟩ := hS
      have q5 : 0 ≤ (le1 (sg lw a e) n - n) * ((h : Int) + 1) ∧ (le1 (sg lw a e) n - n) * ((h : Int) + 1) ≤ (le1 (sg lw a e) n - n) * 301 := q5
      rw [enO_step hh] at k1 k0
      rw [enI_hn] at k1 k0 q7
      obtain ⟨r1, r2, r3, r4, r5, r6, r7⟩ := hR
      have qd : enD (sg lw a e) n d h = d + (le1 (sg lw a e) n - n) * ((h : Int) + 1) := rfl
      rw [hlen] at hh
      refine r_iload c_80_18 rfl <| r_iload_n c_80_20 rfl <| r_icmp_ge c_80_21 (fun h21 => ?_) <| (fun h21 => ?_)
      · exact absurd trivial (by omega)
      · refine r_iload c_80_24 rfl <| r_iload_n c_80_26 rfl <| r_iload_n c_80_27 rfl <| r_isub c_80_28 (by omega) <| r_icmp_ge c_80_29 (fun h29 => ?_) <| (fun h29 => ?_)
        · exact absurd trivial (by omega)
        · refine r_aload_n c_80_32 rfl <| r_iload_n c_80_33 rfl <| r_iload_n c_80_34 rfl <| r_iload c_80_35 rfl <| r_cS4 c_80_37 (Nat.le_of_ble_eq_true rfl) <| ?_
          refine ct_least n hrs hs hae he ?_; rw [q1]; generalize hm : le1 (sg lw a e) n = m at *
          refine r_istore_13_11 c_80_40 rfl <| r_lload c_80_42 rfl <| r_iload c_80_44 rfl <| r_iload c_80_46 rfl <| r_isub c_80_48 (by omega) <| r_i2l c_80_49 <| r_iload c_80_50 rfl <| r_iconst c_80_52 <| r_iadd c_80_53 (by omega) <| r_i2l c_80_54 <| ?_
          refine r_lmul c_80_55 (by omega) <| r_ladd c_80_56 (by omega) <| r_lstore_13_6 c_80_57 rfl <| r_iload c_80_59 rfl <| r_istore_13_5 c_80_61 rfl <| r_lload c_80_63 rfl <| r_ldc2_w c_80_65 <| r_lc_le c_80_68 c_80_69 (fun h68 => ?_) <| (fun h68 => ?_)
          · refine r_iload_n c_80_75 rfl <| r_istore_13_12 c_80_76 rfl <| ?_
            rw [← List.append_assoc] at k1 k0
            rw [← qd]
            refine lp_fwI (R := enI m hb (sg lw a e) (enD (sg lw a e) n d h) b h) hrs hro hne he ⟨by omega, by omega⟩ (e - a) a (enD (sg lw a e) n d h) b h o σ Q (by omega) hs ho (by omega) (by omega) r6 r7 (by omega) rfl (fun g1 σ1 g2 g3 => ?_) (fun g1 σ1 l1 g2 g4 g3 => ?_)
            · rw [enI_hn]
              generalize hRR : enI m hb (sg lw a e) (enD (sg lw a e) n d h) b h = R at *
              have hs1 := hs.fr2 g3 hne
              have q6' := q7
              obtain ⟨u1, u2, u3, u4, u5, u6, u7⟩ := q7
              refine r_lload c_80_173 rfl <| r_lconst c_80_175 <| r_ladd c_80_176 (by omega) <| r_lstore_13_6 c_80_177 rfl <| r_iinc_13_5 c_80_179 rfl (by omega) <| r_iinc_13_10 c_80_182 rfl (by omega) <| r_goto c_80_185 <| ?_
              exact ih (i + 1) _ _ _ _ _ σ1 _ _ Q (by omega) hs1 g2 q6' (fun w1 σ2 w2 w3 => k1 w1 σ2 w2 (g3.tr w3)) (fun w1 σ2 l2 w2 w4 w3 => k0 w1 σ2 l2 w2 w4 (g3.tr w3))
            · exact k0 (by simp only [List.length_append] at g1 ⊢; omega) σ1 l1 g2 g4 g3
          · exact absurd h68 (by omega)
    · rw [enO_end hh] at k1 k0
      simp only [List.append_nil] at k1
      have k1 := k1 ho.2.1 σ ho fr2.rf
      rw [hlen] at hh
      refine r_iload c_80_18 rfl <| r_iload_n c_80_20 rfl <| r_icmp_ge c_80_21 (fun h21 => ?_) <| (fun h21 => ?_)
      · refine r_iconst c_80_188 <| r_iret c_80_189 <| ?_
        exact k1
      · refine r_iload c_80_24 rfl <| r_iload_n c_80_26 rfl <| r_iload_n c_80_27 rfl <| r_isub c_80_28 (by omega) <| r_icmp_ge c_80_29 (fun h29 => ?_) <| (fun h29 => ?_)
        · refine r_iconst c_80_188 <| r_iret c_80_189 <| ?_
          exact k1
        · exact absurd h29 (by omega)
theorem lp_fold {rs ns ro a e : Nat} {lw : List Int} (hrs : isRow L rs ns) (hro : isRow L ro 300) (hne : rs ≠ ro ∧ rs ≠ ro + 1 ∧ rs + 1 ≠ ro) (he : e ≤ lw.length) : ∀ (k j c : Nat) (o : List Int) (σ : mk_S) (Q : Option mm_V → mm_H → Prop), j + k = e → c ≤ j → rowOK σ rs ns lw → rowOK σ ro 300 o →
    ((o ++ bs (sg lw j e)).length ≤ 300 → ∀ σ', rowOK σ' ro 300 (o ++ bs (sg lw j e)) → fr2 ro σ σ' → mm_X 79 49 [vP rs, vI (a : Nat), vI (e : Nat), vP ro, vI ((c + (bs (sg lw j e)).length : Nat) : Int), vI (e : Nat)] [] (hp L σ') Q) →
    (300 < (o ++ bs (sg lw j e)).length → ∀ σ' l', rowOK σ' ro 300 l' → l'.length = 300 → fr2 ro σ σ' → Q (some (vI (-3))) (hp L σ')) →
    mm_X 79 6 [vP rs, vI (a : Nat), vI (e : Nat), vP ro, vI (c : Nat), vI (j : Nat)] [] (hp L σ) Q := by
  intro k
  have hb1 := hrs.2.2
  induction k with
  | zero =>
    intro j c o σ Q hj hc hs ho k1 k0
    have hb2 := hs.2.1
    have ej : j = e := by omega
    subst ej
    rw [sg_nil (Nat.le_refl j)] at k1
    simp only [bs, List.append_nil, List.length_nil, Nat.add_zero] at k1
    have k1 := k1 ho.2.1 σ ho fr2.rf
    refine r_iload c_79_6 rfl <| r_iload_n c_79_8 rfl <| r_icmp_ge c_79_9 (fun h9 => ?_) <| (fun h9 => ?_)
    · exact k1
    · exact absurd h9 (by omega)
  | succ k ih =>
    intro j c o σ Q hj hc hs ho k1 k0
    have hb2 := hs.2.1
    rw [sg_cons (by omega) he] at k1 k0
    simp only [bs] at k1 k0
    generalize hx : lw.getD j 0 = x at *
    refine r_iload c_79_6 rfl <| r_iload_n c_79_8 rfl <| r_icmp_ge c_79_9 (fun h9 => ?_) <| (fun h9 => ?_)
    · exact absurd h9 (by omega)
    · refine r_aload_n c_79_12 rfl <| r_iload c_79_13 rfl <| r_cV1 c_79_15 hrs.1 (Nat.le_of_ble_eq_true rfl) <| ?_
      refine ct_atn hrs hs (by omega) ?_; rw [hx]
      refine r_sipush c_79_18 <| r_icmp_ge c_79_21 (fun h21 => ?_) <| (fun h21 => ?_)
      · refine r_iinc_6_5 c_79_43 rfl (by omega) <| r_goto c_79_46 <| ?_
        first
        | (rw [if_neg (by omega)] at k1 k0
           exact ih (j + 1) c o σ Q (by omega) (by omega) hs ho k1 k0)
        | (rw [if_pos (by omega)] at k1 k0
           refine ih (j + 1) (c + 1) _ σ1 Q (by omega) (by omega) (hs.fr2 hf1 hne) hl1 (fun w1 σ2 w2 w3 => ?_) (fun w1 σ2 l2 w2 w4 w3 => k0 (by simpa using w1) σ2 l2 w2 w4 (hf1.tr w3))
           have k1 := k1 (by simpa using w1) σ2 (by simpa using w2) (hf1.tr w3)
           rw [List.length_cons, show c + ((bs (sg lw (j + 1) e)).length + 1) = c + 1 + (bs (sg lw (j + 1) e)).length by omega] at k1
           exact k1)
      · refine r_iinc_6_4 c_79_24 rfl (by omega) <| r_aload_n c_79_27 rfl <| r_aload_n c_79_28 rfl <| r_iload c_79_29 rfl <| r_cV1 c_79_31 hrs.1 (Nat.le_of_ble_eq_true rfl) <| ?_
        refine ct_atn hrs hs (by omega) ?_; rw [hx]
        refine r_cV1 c_79_34 hro.1 (Nat.le_of_ble_eq_true rfl) <| ?_
        refine ct_append hro ho _ (fun hlt σ1 hl1 hf1 => ?_) (fun hfull => ?_)
        · refine r_if_ne c_79_37 (fun _ => ?_) <| (fun h => absurd h (by decide))
          refine r_iinc_6_5 c_79_43 rfl (by omega) <| r_goto c_79_46 <| ?_
          first
          | (rw [if_neg (by omega)] at k1 k0
             exact ih (j + 1) c o σ Q (by omega) (by omega) hs ho k1 k0)
          | (rw [if_pos (by omega)] at k1 k0
             refine ih (j + 1) (c + 1) _ σ1 Q (by omega) (by omega) (hs.fr2 hf1 hne) hl1 (fun w1 σ2 w2 w3 => ?_) (fun w1 σ2 l2 w2 w4 w3 => k0 (by simpa using w1) σ2 l2 w2 w4 (hf1.tr w3))
             have k1 := k1 (by simpa using w1) σ2 (by simpa using w2) (hf1.tr w3)
             rw [List.length_cons, show c + ((bs (sg lw (j + 1) e)).length + 1) = c + 1 + (bs (sg lw (j + 1) e)).length by omega] at k1
             exact k1)
        · refine r_if_ne c_79_37 (fun h => absurd h (by decide)) <| (fun _ => ?_)
          refine r_bipush c_79_40 <| r_iret c_79_42 <| ?_
          rw [if_pos (by omega)] at k0
          exact k0 (by simp only [List.length_append, List.length_cons]; omega) σ o ho hfull fr2.rf
theorem ct_fold {rs ns ro a e : Nat} {lw : List Int} {σ : mk_S} {Q : Option mm_V → mm_H → Prop} (hrs : isRow L rs ns) (hro : isRow L ro 300) (hne : rs ≠ ro ∧ rs ≠ ro + 1 ∧ rs + 1 ≠ ro) (he : e ≤ lw.length) (hae : a ≤ e) (hea : e - a ≤ 300) (hpl : ∀ y, y ∈ sg lw a e → y ≤ 1114111) (hs : rowOK σ rs ns lw) (ho : rowOK σ ro 300 [])
    (k1 : (enc (sg lw a e)).length ≤ 300 → ∀ σ', rowOK σ' ro 300 (enc (sg lw a e)) → fr2 ro σ σ' → Q (some (vI (-1))) (hp L σ'))
    (k0 : 300 < (enc (sg lw a e)).length → ∀ σ', fr2 ro σ σ' → Q (some (vI (-3))) (hp L σ')) : mm_call 79 [vP rs, vI (a : Nat), vI (e : Nat), vP ro] (hp L σ) Q := by
  have hb1 := hrs.2.2
  have hb2 := hs.2.1
  have hlen : (sg lw a e).length = e - a := sg_len he
  have hble := bs_le (sg lw a e)
  generalize hB : (bs (sg lw a e)).length = B at *
  have key : ∀ σ1 o (Q' : Option mm_V → mm_H → Prop), rowOK σ1 rs ns lw → fr2 ro σ σ1 → rowOK σ1 ro 300 o → o = bs (sg lw a e) ++ (if 0 < B then [45] else []) → ((enc (sg lw a e)).length ≤ 300 → ∀ σ', rowOK σ' ro 300 (enc (sg lw a e)) → fr2 ro σ σ' → Q' (some (vI (-1))) (hp L σ')) → (300 < (enc (sg lw a e)).length → ∀ σ', fr2 ro σ σ' → Q' (some (vI (-3))) (hp L σ')) →
      mm_call 80 [vP rs, vI (a : Nat), vI (e : Nat), vI (B : Nat), vP ro] (hp L σ1) Q' := by
    intro σ1 o Q' g1 g3 g2 eo k1 k0
    unfold enc at k1 k0
    rw [hB, ← List.append_assoc, ← eo] at k1 k0
    have hR := enR_start (l := sg lw a e)
    rw [hB] at hR
    refine ⟨Nat.le_of_ble_eq_true rfl, ?_⟩
    show mm_X 80 0 [vP rs, vI (a : Nat), vI (e : Nat), vI (B : Nat), vP ro, mm_null, mm_null, mm_null, mm_null, mm_null, mm_null, mm_null, mm_null] [] _ _
    refine r_sipush c_80_0 <| r_istore_13_5 c_80_3 rfl <| r_lconst c_80_5 <| r_lstore_13_6 c_80_6 rfl <| r_bipush c_80_8 <| r_istore_13_8 c_80_10 rfl <| r_iload_n c_80_12 rfl <| r_istore_13_9 c_80_13 rfl <| r_iload_n c_80_15 rfl <| r_istore_13_10 c_80_16 rfl <| ?_
    rw [hlen] at k1 k0
    exact lp_fwO hrs hro hne he hae hea hpl (e - a) a 128 0 72 _ o σ1 _ _ Q' (by omega) g1 g2 hR (fun w1 σ2 w2 w3 => k1 w1 σ2 w2 (g3.tr w3)) (fun w1 σ2 l2 w2 w4 w3 => k0 w1 σ2 (g3.tr w3))
  have hE : enc (sg lw a e) = bs (sg lw a e) ++ ((if 0 < B then [45] else []) ++ enO (sg lw a e) B (sg lw a e).length 128 0 72 B) := by rw [← hB]; rfl
  refine ⟨Nat.le_of_ble_eq_true rfl, ?_⟩
  show mm_X 79 0 [vP rs, vI (a : Nat), vI (e : Nat), vP ro, mm_null, mm_null] [] _ _
  refine r_iconst c_79_0 <| r_istore_6_4 c_79_1 rfl <| r_iload_n c_79_3 rfl <| r_istore_6_5 c_79_4 rfl <| ?_
  refine lp_fold hrs hro hne he (e - a) a 0 [] σ Q (by omega) (by omega) hs ho (fun w1 σ1 w2 w3 => ?_) (fun w1 σ1 l1 w2 w4 w3 => k0 (by rw [hE]; simp only [List.length_append, List.nil_append] at w1 ⊢; omega) σ1 w3)
  rw [Nat.zero_add, hB]
  rw [List.nil_append] at w1 w2
  have hs1 := hs.fr2 w3 hne
  refine r_iload c_79_49 rfl <| r_if_le c_79_51 (fun h51 => ?_) <| (fun h51 => ?_)
  · refine r_aload_n c_79_66 rfl <| r_iload_n c_79_67 rfl <| r_iload_n c_79_68 rfl <| r_iload c_79_69 rfl <| r_aload_n c_79_71 rfl <| r_cS5 c_79_72 (Nat.le_of_ble_eq_true rfl) <| ?_
    refine key _ _ _ (by first|exact hs1.fr2 hf2 hne|exact hs1) (by first|exact w3.tr hf2|exact w3) (by first|exact hl2|exact w2) (by first|(rw [if_pos (by omega)])|(rw [if_neg (by omega), List.append_nil])) (fun z1 σ3 z2 z3 => ?_) (fun z1 σ3 z3 => ?_)
    · refine r_iret c_79_75 <| ?_
      first | exact k1 z1 σ3 z2 z3 | exact k0 z1 σ3 z3
    · refine r_iret c_79_75 <| ?_
      first | exact k1 z1 σ3 z2 z3 | exact k0 z1 σ3 z3
  · refine r_aload_n c_79_54 rfl <| r_bipush c_79_55 <| r_cV1 c_79_57 hro.1 (Nat.le_of_ble_eq_true rfl) <| ?_
    refine ct_append hro w2 _ (fun hlt σ2 hl2 hf2 => ?_) (fun hfull => ?_)
    · refine r_if_ne c_79_60 (fun _ => ?_) <| (fun h => absurd h (by decide))
      refine r_aload_n c_79_66 rfl <| r_iload_n c_79_67 rfl <| r_iload_n c_79_68 rfl <| r_iload c_79_69 rfl <| r_aload_n c_79_71 rfl <| r_cS5 c_79_72 (Nat.le_of_ble_eq_true rfl) <| ?_
      refine key _ _ _ (by first|exact hs1.fr2 hf2 hne|exact hs1) (by first|exact w3.tr hf2|exact w3) (by first|exact hl2|exact w2) (by first|(rw [if_pos (by omega)])|(rw [if_neg (by omega), List.append_nil])) (fun z1 σ3 z2 z3 => ?_) (fun z1 σ3 z3 => ?_)
      · refine r_iret c_79_75 <| ?_
        first | exact k1 z1 σ3 z2 z3 | exact k0 z1 σ3 z3
      · refine r_iret c_79_75 <| ?_
        first | exact k1 z1 σ3 z2 z3 | exact k0 z1 σ3 z3
    · refine r_if_ne c_79_60 (fun h => absurd h (by decide)) <| (fun _ => ?_)
      refine r_bipush c_79_63 <| r_iret c_79_65 <| ?_
      exact k0 (by rw [hE, if_pos (by omega)]; simp only [List.length_append, List.length_cons]; omega) σ1 w3
end ENC
