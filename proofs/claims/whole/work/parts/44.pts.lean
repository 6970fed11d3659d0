/-! POINTS stay points; what isOf answers; octets of points. -/
theorem ex_pts {T : mk_S} (hO : TOK T) : ∀ (n : Nat) (p : Int), p.toNat ≤ n → isPt p → ∀ y, y ∈ ex T p → isPt y := by
  intro n
  induction n with
  | zero =>
    intro p hn hp y hy
    have h0 : p = 0 := by unfold isPt at hp; omega
    rw [ex_leaf (by unfold isSyl; omega) (by
      rcases ptI_cases T p with h | ⟨j, h1, h2, h3⟩
      · omega
      · have := (hO.2.2.1 j h2).1; omega)] at hy
    simp only [List.mem_singleton] at hy
    subst hy; exact hp
  | succ n ih =>
    intro p hn hp y hy
    by_cases hs : isSyl p
    · rw [ex_syl hs] at hy
      unfold sylL at hy
      unfold isSyl at hs
      unfold isPt
      split at hy <;> simp only [List.mem_cons, List.not_mem_nil, or_false] at hy <;> omega
    · rcases ptI_cases T p with h | ⟨j, h1, h2, h3⟩
      · rw [ex_leaf hs (by omega)] at hy
        simp only [List.mem_singleton] at hy
        subst hy; exact hp
      · rw [ex_part hO hs h1] at hy
        obtain ⟨q1, q2, q3, q4, q5, q6, q7, q8, q9, q10, q11⟩ := hO.2.2.1 j h2
        rcases List.mem_append.1 hy with hy | hy
        · exact ih _ (by unfold isPt at q4; omega) q4 y hy
        · split at hy
          · exact ih _ (by unfold isPt at q8; omega) q8 y hy
          · exact absurd hy (by simp)
theorem exL_pts {T : mk_S} (hO : TOK T) {l : List Int} (h : pts l) : pts (exL T l) := by
  refine pts_iff.2 (fun y hy => ?_)
  unfold exL at hy
  obtain ⟨p, h1, h2⟩ := List.mem_flatMap.1 hy
  exact ex_pts hO p.toNat p (Nat.le_refl _) (pts_iff.1 h p h1) y h2
theorem ap_pts {T : mk_S} (hO : TOK T) {l : List Int} (h : pts l) : pts (ap T l) :=
  pts_iff.2 (fun y hy => pts_iff.1 (exL_pts hO h) y ((srt_mem _).1 hy))
theorem tgO_pt {T : mk_S} (hO : TOK T) (a b : Int) : tgO T a b = -1 ∨ isPt (tgO T a b) := by
  unfold tgO
  split
  · next h => right; unfold isLd isVw at h; unfold isPt; omega
  · split
    · next h => right; unfold isSyl isTl at h; unfold isPt; omega
    · split
      · exact Or.inl rfl
      · next h =>
        right
        rcases prI_cases T a b with g | ⟨j, g1, g2, -⟩
        · omega
        · rw [g1, Int.toNat_natCast]
          exact (hO.2.2.1 j g2).2.1
theorem set_pts {o : List Int} {i : Nat} {z : Int} (ho : pts o) (hz : isPt z) : pts (o.set i z) :=
  pts_iff.2 (fun y hy => by
    rcases List.mem_or_eq_of_mem_set hy with h | h
    · exact pts_iff.1 ho y h
    · rw [h]; exact hz)
theorem cmF_pts {T : mk_S} (hO : TOK T) : ∀ (l out : List Int) (b : Int), pts l → pts out → pts (cmF T l out b)
  | [], out, b, h1, h2 => h2
  | p :: ps, out, b, h1, h2 => by
    have g := pts_iff.1 h1
    have g1 : pts ps := pts_iff.2 (fun y hy => g y (List.mem_cons_of_mem _ hy))
    simp only [cmF]
    split
    · exact cmF_pts hO ps _ _ g1 (pts_app h2 (g p List.mem_cons_self))
    · next h =>
      refine cmF_pts hO ps _ _ g1 (set_pts h2 ?_)
      unfold cmW at h ⊢
      split
      · next e => rw [if_pos e] at h; exact (tgO_pt hO _ _).resolve_left h
      · next e => rw [if_neg e] at h; exact absurd rfl h
theorem oF_pts {T : mk_S} (hO : TOK T) {l : List Int} (h : pts l) : pts (oF T l) := cmF_pts hO _ _ _ (ap_pts hO h) pts_nil
theorem formW_pts {T : mk_S} (hO : TOK T) {w : List Int} (h : pts w) (k : Int) : pts (formW T w k) := by
  unfold formW
  repeat' split
  all_goals first | exact h | exact ap_pts hO h | exact oF_pts hO h
theorem rgO_rng {T : mk_S} (hO : TOK T) (k p : Int) : 0 ≤ rgO T k p ∧ rgO T k p ≤ 10 := by
  unfold rgO
  split
  · split
    · unfold dirF; (repeat' split) <;> omega
    · omega
  · rcases rgI_cases T k p with g | ⟨j, g1, g2⟩
    · omega
    · rw [g1, Int.toNat_natCast]
      have := hO.2.2.2.2 j g2
      omega
theorem rkO_low {T : mk_S} (hO : TOK T) {p : Int} (h : p < 128) : rkO T p = 0 := by
  unfold rkO; rw [rkI_low hO h, if_pos (by decide)]
def inM (m v : Int) : Prop := 0 ≤ v ∧ mm_s32 (fun x y => x &&& y) (mm_s32 (fun x y => x >>> (y &&& 31)) m v) 1 = 1
theorem inM14 {v : Int} (h : -1 ≤ v ∧ v ≤ 10) : inM 14 v ↔ (1 ≤ v ∧ v ≤ 3) := by
  rcases (show v = -1 ∨ v = 0 ∨ v = 1 ∨ v = 2 ∨ v = 3 ∨ v = 4 ∨ v = 5 ∨ v = 6 ∨ v = 7 ∨ v = 8 ∨ v = 9 ∨ v = 10 by omega) with rfl | rfl | rfl | rfl | rfl | rfl | rfl | rfl | rfl | rfl | rfl | rfl <;> unfold inM <;> decide
theorem inM7 {v : Int} (h : -1 ≤ v ∧ v ≤ 10) : inM 7 v ↔ (0 ≤ v ∧ v ≤ 2) := by
  rcases (show v = -1 ∨ v = 0 ∨ v = 1 ∨ v = 2 ∨ v = 3 ∨ v = 4 ∨ v = 5 ∨ v = 6 ∨ v = 7 ∨ v = 8 ∨ v = 9 ∨ v = 10 by omega) with rfl | rfl | rfl | rfl | rfl | rfl | rfl | rfl | rfl | rfl | rfl | rfl <;> unfold inM <;> decide
theorem inM6 {v : Int} (h : -1 ≤ v ∧ v ≤ 10) : inM 6 v ↔ (1 ≤ v ∧ v ≤ 2) := by
  rcases (show v = -1 ∨ v = 0 ∨ v = 1 ∨ v = 2 ∨ v = 3 ∨ v = 4 ∨ v = 5 ∨ v = 6 ∨ v = 7 ∨ v = 8 ∨ v = 9 ∨ v = 10 by omega) with rfl | rfl | rfl | rfl | rfl | rfl | rfl | rfl | rfl | rfl | rfl | rfl <;> unfold inM <;> decide
theorem inM2046 {v : Int} (h : -1 ≤ v ∧ v ≤ 10) : inM 2046 v ↔ (1 ≤ v) := by
  rcases (show v = -1 ∨ v = 0 ∨ v = 1 ∨ v = 2 ∨ v = 3 ∨ v = 4 ∨ v = 5 ∨ v = 6 ∨ v = 7 ∨ v = 8 ∨ v = 9 ∨ v = 10 by omega) with rfl | rfl | rfl | rfl | rfl | rfl | rfl | rfl | rfl | rfl | rfl | rfl <;> unfold inM <;> decide
theorem inM2033 {v : Int} (h : -1 ≤ v ∧ v ≤ 10) : inM 2033 v ↔ (v = 0 ∨ 4 ≤ v) := by
  rcases (show v = -1 ∨ v = 0 ∨ v = 1 ∨ v = 2 ∨ v = 3 ∨ v = 4 ∨ v = 5 ∨ v = 6 ∨ v = 7 ∨ v = 8 ∨ v = 9 ∨ v = 10 by omega) with rfl | rfl | rfl | rfl | rfl | rfl | rfl | rfl | rfl | rfl | rfl | rfl <;> unfold inM <;> decide
theorem inM1024 {v : Int} (h : -1 ≤ v ∧ v ≤ 10) : inM 1024 v ↔ v = 10 := by
  rcases (show v = -1 ∨ v = 0 ∨ v = 1 ∨ v = 2 ∨ v = 3 ∨ v = 4 ∨ v = 5 ∨ v = 6 ∨ v = 7 ∨ v = 8 ∨ v = 9 ∨ v = 10 by omega) with rfl | rfl | rfl | rfl | rfl | rfl | rfl | rfl | rfl | rfl | rfl | rfl <;> unfold inM <;> decide
theorem inM30 {v : Int} (h : -1 ≤ v ∧ v ≤ 10) : inM 30 v ↔ (1 ≤ v ∧ v ≤ 4) := by
  rcases (show v = -1 ∨ v = 0 ∨ v = 1 ∨ v = 2 ∨ v = 3 ∨ v = 4 ∨ v = 5 ∨ v = 6 ∨ v = 7 ∨ v = 8 ∨ v = 9 ∨ v = 10 by omega) with rfl | rfl | rfl | rfl | rfl | rfl | rfl | rfl | rfl | rfl | rfl | rfl <;> unfold inM <;> decide
theorem inM17 {v : Int} (h : -1 ≤ v ∧ v ≤ 10) : inM 17 v ↔ (v = 0 ∨ v = 4) := by
  rcases (show v = -1 ∨ v = 0 ∨ v = 1 ∨ v = 2 ∨ v = 3 ∨ v = 4 ∨ v = 5 ∨ v = 6 ∨ v = 7 ∨ v = 8 ∨ v = 9 ∨ v = 10 by omega) with rfl | rfl | rfl | rfl | rfl | rfl | rfl | rfl | rfl | rfl | rfl | rfl <;> unfold inM <;> decide
theorem inM24 {v : Int} (h : -1 ≤ v ∧ v ≤ 10) : inM 24 v ↔ (v = 3 ∨ v = 4) := by
  rcases (show v = -1 ∨ v = 0 ∨ v = 1 ∨ v = 2 ∨ v = 3 ∨ v = 4 ∨ v = 5 ∨ v = 6 ∨ v = 7 ∨ v = 8 ∨ v = 9 ∨ v = 10 by omega) with rfl | rfl | rfl | rfl | rfl | rfl | rfl | rfl | rfl | rfl | rfl | rfl <;> unfold inM <;> decide
theorem or2032a : mm_s32 (fun x y => x ||| y) 2032 14 = 2046 := by decide
theorem or2032b : mm_s32 (fun x y => x ||| y) 2032 1 = 2033 := by decide
section PTS
variable {L : Nat} {h : mm_H} {Q : Option mm_V → mm_H → Prop}
theorem ct_isOf (v m : Int) (k1 : inM m v → Q (some (vI 1)) h) (k0 : ¬ inM m v → Q (some (vI 0)) h) : mm_call 115 [vI v, vI m] h Q := by
  refine ⟨Nat.le_of_ble_eq_true rfl, ?_⟩
  show mm_X 115 0 [vI v, vI m] [] _ _
  refine r_iload_n c_115_0 rfl <| r_if_lt c_115_1 (fun h1 => ?_) <| (fun h1 => ?_)
  · refine r_iconst c_115_17 <| r_zret c_115_18 (Or.inl rfl) <| ?_
    first | exact k1 ⟨by omega, h10⟩ | exact k0 (fun g => h10 g.2) | exact k0 (fun g => by have := g.1; omega)
  · refine r_iload_n c_115_4 rfl <| r_iload_n c_115_5 rfl <| r_ishr c_115_6 rfl <| r_iconst c_115_7 <| r_iand c_115_8 rfl <| r_iconst c_115_9 <| r_icmp_ne c_115_10 (fun h10 => ?_) <| (fun h10 => ?_)
    · refine r_iconst c_115_17 <| r_zret c_115_18 (Or.inl rfl) <| ?_
      first | exact k1 ⟨by omega, h10⟩ | exact k0 (fun g => h10 g.2) | exact k0 (fun g => by have := g.1; omega)
    · refine r_iconst c_115_13 <| r_goto c_115_14 <| r_zret c_115_18 (Or.inr rfl) <| ?_
      first | exact k1 ⟨by omega, h10⟩ | exact k0 (fun g => h10 g.2) | exact k0 (fun g => by have := g.1; omega)
end PTS
