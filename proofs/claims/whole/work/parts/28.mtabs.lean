/-! WHAT IS TOLD: the tables stay well; the reference's side. -/
theorem tok_s {T T' : mk_S} (hO : TOK T) (e : ∀ a, 17 ≤ a → a ≤ 29 → T' a = T a) (hn : T' 11 5 = (nS T' : Int) ∧ nS T' ≤ 200) (hs : TOKs T') : TOK T' := by
  obtain ⟨⟨-, h2, h3, h4⟩, -, hp, hr, hg⟩ := hO
  refine ⟨⟨hn, ?_, ?_, ?_⟩, hs, ?_, ?_, ?_⟩
  · unfold nP at *; rw [e 17 (by decide) (by decide)]; exact h2
  · unfold nR at *; rw [e 22 (by decide) (by decide)]; exact h3
  · unfold nG at *; rw [e 25 (by decide) (by decide)]; exact h4
  · unfold TOKp nP at *; rw [e 17 (by decide) (by decide), e 18 (by decide) (by decide), e 19 (by decide) (by decide), e 20 (by decide) (by decide), e 21 (by decide) (by decide)]; exact hp
  · unfold TOKr nR at *; rw [e 22 (by decide) (by decide), e 23 (by decide) (by decide), e 24 (by decide) (by decide)]; exact hr
  · unfold TOKg nG at *; rw [e 25 (by decide) (by decide), e 26 (by decide) (by decide), e 29 (by decide) (by decide)]; exact hg
theorem tok_p {T T' : mk_S} (hO : TOK T) (e : ∀ a, 11 ≤ a → a ≤ 29 → a < 17 ∨ 21 < a → T' a = T a) (hn : T' 17 4 = (nP T' : Int) ∧ nP T' ≤ 100) (hs : TOKp T') : TOK T' := by
  obtain ⟨⟨h1, h2, h3, h4⟩, ht, hp, hr, hg⟩ := hO
  refine ⟨⟨?_, hn, ?_, ?_⟩, ?_, hs, ?_, ?_⟩
  · unfold nS at *; rw [e 11 (by decide) (by decide) (by decide)]; exact h1
  · unfold nR at *; rw [e 22 (by decide) (by decide) (by decide)]; exact h3
  · unfold nG at *; rw [e 25 (by decide) (by decide) (by decide)]; exact h4
  · unfold TOKs nS at *; rw [e 11 (by decide) (by decide) (by decide), e 14 (by decide) (by decide) (by decide), e 15 (by decide) (by decide) (by decide), e 16 (by decide) (by decide) (by decide)]; exact ht
  · unfold TOKr nR at *; rw [e 22 (by decide) (by decide) (by decide), e 23 (by decide) (by decide) (by decide), e 24 (by decide) (by decide) (by decide)]; exact hr
  · unfold TOKg nG at *; rw [e 25 (by decide) (by decide) (by decide), e 26 (by decide) (by decide) (by decide), e 29 (by decide) (by decide) (by decide)]; exact hg
theorem tok_r {T T' : mk_S} (hO : TOK T) (e : ∀ a, 11 ≤ a → a ≤ 29 → a < 22 ∨ 24 < a → T' a = T a) (hn : T' 22 2 = (nR T' : Int) ∧ nR T' ≤ 100) (hs : TOKr T') : TOK T' := by
  obtain ⟨⟨h1, h2, h3, h4⟩, ht, hp, hr, hg⟩ := hO
  refine ⟨⟨?_, ?_, hn, ?_⟩, ?_, ?_, hs, ?_⟩
  · unfold nS at *; rw [e 11 (by decide) (by decide) (by decide)]; exact h1
  · unfold nP at *; rw [e 17 (by decide) (by decide) (by decide)]; exact h2
  · unfold nG at *; rw [e 25 (by decide) (by decide) (by decide)]; exact h4
  · unfold TOKs nS at *; rw [e 11 (by decide) (by decide) (by decide), e 14 (by decide) (by decide) (by decide), e 15 (by decide) (by decide) (by decide), e 16 (by decide) (by decide) (by decide)]; exact ht
  · unfold TOKp nP at *; rw [e 17 (by decide) (by decide) (by decide), e 18 (by decide) (by decide) (by decide), e 19 (by decide) (by decide) (by decide), e 20 (by decide) (by decide) (by decide), e 21 (by decide) (by decide) (by decide)]; exact hp
  · unfold TOKg nG at *; rw [e 25 (by decide) (by decide) (by decide), e 26 (by decide) (by decide) (by decide), e 29 (by decide) (by decide) (by decide)]; exact hg
theorem tok_g {T T' : mk_S} (hO : TOK T) (e : ∀ a, 11 ≤ a → a ≤ 24 → T' a = T a) (hn : T' 25 4 = (nG T' : Int) ∧ nG T' ≤ 200) (hs : TOKg T') : TOK T' := by
  obtain ⟨⟨h1, h2, h3, h4⟩, ht, hp, hr, hg⟩ := hO
  refine ⟨⟨?_, ?_, ?_, hn⟩, ?_, ?_, ?_, hs⟩
  · unfold nS at *; rw [e 11 (by decide) (by decide)]; exact h1
  · unfold nP at *; rw [e 17 (by decide) (by decide)]; exact h2
  · unfold nR at *; rw [e 22 (by decide) (by decide)]; exact h3
  · unfold TOKs nS at *; rw [e 11 (by decide) (by decide), e 14 (by decide) (by decide), e 15 (by decide) (by decide), e 16 (by decide) (by decide)]; exact ht
  · unfold TOKp nP at *; rw [e 17 (by decide) (by decide), e 18 (by decide) (by decide), e 19 (by decide) (by decide), e 20 (by decide) (by decide), e 21 (by decide) (by decide)]; exact hp
  · unfold TOKr nR at *; rw [e 22 (by decide) (by decide), e 23 (by decide) (by decide), e 24 (by decide) (by decide)]; exact hr
theorem nS_keep {T : mk_S} {f l v : Int} : nS (keepS T f l v) = nS T + 1 ∧ keepS T f l v 11 5 = ((nS T + 1 : Nat) : Int) := by
  have e : keepS T f l v 11 5 = ((nS T + 1 : Nat) : Int) := by unfold keepS; rw [sto_get]; omega
  exact ⟨by unfold nS at *; rw [e]; omega, e⟩
theorem tok_stat {T : mk_S} (hO : TOK T) (f l s : Int) : TOK (statT T f l s) := by
  unfold statT
  split
  · exact hO
  · next h =>
    split
    · exact hO
    · next hn =>
      have hn0 := hO.1.1.2
      refine tok_s hO (fun a h1 h2 => ?_) ⟨by rw [nS_keep.1, nS_keep.2], by rw [nS_keep.1]; omega⟩ (fun i hi => ?_)
      · unfold keepS; rw [sto_ne (by omega), sto_ne (by omega), sto_ne (by omega), sto_ne (by omega)]
      · rw [nS_keep.1] at hi
        have e14 : keepS T f l s 14 = mm_st (T 14) (nS T) s := by simp [keepS, sto]
        have e15 : keepS T f l s 15 = T 15 := by simp [keepS, sto]
        have e16 : keepS T f l s 16 = T 16 := by simp [keepS, sto]
        rw [e14, e15, e16]
        by_cases e : i = nS T
        · subst e; rw [st_at]; omega
        · rw [st_ne e]; exact hO.2.1 i (by omega)
theorem tok_map {T : mk_S} (hO : TOK T) (p : Int) {w : List Int} (hw : pts w) : TOK (mapT T p w) := by
  unfold mapT
  split
  · exact hO
  · next h =>
    split
    · exact hO
    · next hn =>
      have hn0 := hO.1.1.2
      have eA : ∀ a, a ≠ 15 → a ≠ 16 → sta (sto (keepS T p p 2) 15 (nS T) w.length) 16 (mpF (T 16) (nS T) w) a = keepS T p p 2 a := fun a h1 h2 => by rw [sta_ne h2, sto_ne h1]
      have eS : nS (sta (sto (keepS T p p 2) 15 (nS T) w.length) 16 (mpF (T 16) (nS T) w)) = nS T + 1 := (congrArg (fun f : Nat → Int => (f 5).toNat) (eA 11 (by decide) (by decide))).trans nS_keep.1
      refine tok_s hO (fun a h1 h2 => ?_) ⟨by rw [eS, eA 11 (by decide) (by decide), nS_keep.2], by rw [eS]; omega⟩ (fun i hi => ?_)
      · rw [eA a (by omega) (by omega)]; unfold keepS; rw [sto_ne (by omega), sto_ne (by omega), sto_ne (by omega), sto_ne (by omega)]
      · rw [eS] at hi
        have e14 : keepS T p p 2 14 = mm_st (T 14) (nS T) 2 := by simp [keepS, sto]
        have e15 : sta (sto (keepS T p p 2) 15 (nS T) w.length) 16 (mpF (T 16) (nS T) w) 15 = mm_st (T 15) (nS T) w.length := by rw [sta_ne (by decide), sto_at]; simp [keepS, sto]
        rw [eA 14 (by decide) (by decide), e14, e15, sta_at]
        by_cases e : i = nS T
        · subst e; rw [st_at, st_at]
          refine ⟨by omega, fun _ => ⟨by omega, by omega, fun j hj => ?_⟩⟩
          unfold mpF
          rw [if_pos (by omega), show 4 * nS T + j - 4 * nS T = j by omega]
          exact hw j (by omega)
        · rw [st_ne e, st_ne e]
          obtain ⟨g1, g2⟩ := hO.2.1 i (by omega)
          refine ⟨g1, fun g => ⟨(g2 g).1, (g2 g).2.1, fun j hj => ?_⟩⟩
          have g3 := (g2 g).2.1
          unfold mpF
          rw [if_neg (by omega)]
          exact (g2 g).2.2 j hj
theorem tok_part {T : mk_S} (hO : TOK T) (p a b x : Int) (hx : x = 0 ∨ x = 1) : TOK (partT T p a b x) := by
  unfold partT
  split
  · exact hO
  · next h =>
    split
    · exact hO
    · split
      · exact hO
      · next hn =>
        have hR : partR p a b := Decidable.not_not.mp h
        have hn0 := hO.1.2.1.2
        have e4 : partS T p a b x 17 4 = ((nP T + 1 : Nat) : Int) := by unfold partS; rw [sto_get]; omega
        have eP : nP (partS T p a b x) = nP T + 1 := by unfold nP at *; rw [e4]; omega
        refine tok_p hO (fun c h1 h2 h3 => ?_) ⟨by rw [eP, e4], by rw [eP]; omega⟩ (fun i hi => ?_)
        · unfold partS; rw [sto_ne (by omega), sto_ne (by omega), sto_ne (by omega), sto_ne (by omega), sto_ne (by omega)]
        · rw [eP] at hi
          have e18 : partS T p a b x 18 = mm_st (T 18) (nP T) p := by simp [partS, sto]
          have e19 : partS T p a b x 19 = mm_st (T 19) (nP T) a := by simp [partS, sto]
          have e20 : partS T p a b x 20 = mm_st (T 20) (nP T) b := by simp [partS, sto]
          have e21 : partS T p a b x 21 = mm_st (T 21) (nP T) x := by simp [partS, sto]
          rw [e18, e19, e20, e21]
          by_cases e : i = nP T
          · subst e; rw [st_at, st_at, st_at, st_at]
            exact ⟨hR.2.2.2.2.1, hR.1, hR.2.2.2.2.2, hR.2.1.1, hR.2.1.2.1, hR.2.2.2.1, hR.2.1.2.2, hR.2.2.1.1, hR.2.2.1.2.1, hR.2.2.1.2.2, hx⟩
          · rw [st_ne e, st_ne e, st_ne e, st_ne e]; exact hO.2.2.1 i (by omega)
theorem tok_rank {T : mk_S} (hO : TOK T) (p r : Int) : TOK (rankT T p r) := by
  unfold rankT
  split
  · exact hO
  · next h =>
    have hR : rankR p r := Decidable.not_not.mp h
    have hn0 := hO.1.2.2.1.2
    split
    · exact hO
    · next hn =>
      unfold rankS
      split
      · next hk =>
        refine tok_r hO (fun c h1 h2 h3 => sto_ne (by omega)) ?_ (fun i hi => ?_)
        · unfold nR; rw [sto_ne (by decide)]; exact hO.1.2.2.1
        · have hi' : i < nR T := by unfold nR at *; rw [sto_ne (by decide)] at hi; exact hi
          rw [sto_ne (by decide), sto_at]
          have := hO.2.2.2.1 i hi'
          simp only [mm_st]
          split
          · exact ⟨this.1, hR.2.2.1, hR.2.2.2⟩
          · exact this
      · next hk =>
        have e4 : sto (sto (sto T 23 (nR T) p) 24 (nR T) r) 22 2 ((nR T : Int) + 1) 22 2 = ((nR T + 1 : Nat) : Int) := by rw [sto_get]; omega
        have eP : nR (sto (sto (sto T 23 (nR T) p) 24 (nR T) r) 22 2 ((nR T : Int) + 1)) = nR T + 1 := by unfold nR at *; rw [e4]; omega
        refine tok_r hO (fun c h1 h2 h3 => ?_) ⟨by rw [eP, e4], by rw [eP]; omega⟩ (fun i hi => ?_)
        · rw [sto_ne (by omega), sto_ne (by omega), sto_ne (by omega)]
        · rw [eP] at hi
          rw [sto_ne (show 23 ≠ 22 by decide), sto_ne (show 23 ≠ 24 by decide), sto_at, sto_ne (show 24 ≠ 22 by decide), sto_at, sto_ne (show 24 ≠ 23 by decide)]
          by_cases e : i = nR T
          · subst e; rw [st_at, st_at]; exact ⟨hR.2.1, hR.2.2.1, hR.2.2.2⟩
          · rw [st_ne e, st_ne e]; exact hO.2.2.2.1 i (by omega)
theorem tok_rang {T : mk_S} (hO : TOK T) (k f l v : Int) : TOK (rangT T k f l v) := by
  unfold rangT
  split
  · exact hO
  · next h =>
    have hR : rangR k f l v := Decidable.not_not.mp h
    have hn0 := hO.1.2.2.2.2
    split
    · exact hO
    · next hn =>
      have e4 : rangS T k f l v 25 4 = ((nG T + 1 : Nat) : Int) := by unfold rangS; rw [sto_get]; omega
      have eP : nG (rangS T k f l v) = nG T + 1 := by unfold nG at *; rw [e4]; omega
      refine tok_g hO (fun c h1 h2 => ?_) ⟨by rw [eP, e4], by rw [eP]; omega⟩ (fun i hi => ?_)
      · unfold rangS; rw [sto_ne (by omega), sto_ne (by omega), sto_ne (by omega), sto_ne (by omega), sto_ne (by omega)]
      · rw [eP] at hi
        have e26 : rangS T k f l v 26 = mm_st (T 26) (nG T) k := by simp [rangS, sto]
        have e29 : rangS T k f l v 29 = mm_st (T 29) (nG T) v := by simp [rangS, sto]
        rw [e26, e29]
        by_cases e : i = nG T
        · subst e; rw [st_at, st_at]
          have h1 := hR.1; have h2 := hR.2.1
          unfold hiK at h2
          refine ⟨?_, ?_, h1, ?_⟩
          all_goals (revert h2; (repeat' split) <;> omega)
        · rw [st_ne e, st_ne e]; exact hO.2.2.2.2 i (by omega)
-- the two tables say the same
theorem mt_st {σ σ' T T' : mk_S} {f l v : Int} (hM : MT σ T) (e5 : σ' 55 5 = T' 11 5) (nT : nS T' = nS T + 1) (h58 : σ' 58 = mm_st (σ 58) (nS T) f) (h59 : σ' 59 = mm_st (σ 59) (nS T) l) (h60 : σ' 60 = mm_st (σ 60) (nS T) v) (t12 : T' 12 = mm_st (T 12) (nS T) f) (t13 : T' 13 = mm_st (T 13) (nS T) l) (t14 : T' 14 = mm_st (T 14) (nS T) v)
    (hx : ∀ i, i < nS T + 1 → T' 14 i = 2 → σ' 62 i = T' 15 i ∧ ∀ j : Nat, (j : Int) < T' 15 i → σ' 61 (4 * i + j) = T' 16 (4 * i + j)) (eσ : ∀ a, 63 ≤ a → a ≤ 72 → σ' a = σ a) (eT : ∀ a, 17 ≤ a → a ≤ 29 → T' a = T a) (eF : σ' 55 11 = σ 55 11 ∧ σ' 55 16 = σ 55 16 ∧ σ' 55 19 = σ 55 19) : MT σ' T' := by
  obtain ⟨⟨n1, n2, n3, n4⟩, hs, hp, hr, hg⟩ := hM
  refine ⟨⟨e5, ?_, ?_, ?_⟩, ?_, ?_, ?_, ?_⟩
  · rw [eF.1, eT 17 (by decide) (by decide)]; exact n2
  · rw [eF.2.1, eT 22 (by decide) (by decide)]; exact n3
  · rw [eF.2.2, eT 25 (by decide) (by decide)]; exact n4
  · intro i hi
    rw [nT] at hi
    refine ⟨?_, ?_, ?_, hx i hi⟩
    all_goals
      by_cases e : i = nS T
      · subst e; simp only [h58, h59, h60, t12, t13, t14, st_at]
      · have := hs i (by omega)
        simp only [h58, h59, h60, t12, t13, t14, st_ne e]
        first | exact this.1 | exact this.2.1 | exact this.2.2.1
  · unfold MTp nP at *; rw [eT 17 (by decide) (by decide), eT 18 (by decide) (by decide), eT 19 (by decide) (by decide), eT 20 (by decide) (by decide), eT 21 (by decide) (by decide), eσ 63 (by decide) (by decide), eσ 64 (by decide) (by decide), eσ 65 (by decide) (by decide), eσ 66 (by decide) (by decide)]; exact hp
  · unfold MTr nR at *; rw [eT 22 (by decide) (by decide), eT 23 (by decide) (by decide), eT 24 (by decide) (by decide), eσ 67 (by decide) (by decide), eσ 68 (by decide) (by decide)]; exact hr
  · unfold MTg nG at *; rw [eT 25 (by decide) (by decide), eT 26 (by decide) (by decide), eT 27 (by decide) (by decide), eT 28 (by decide) (by decide), eT 29 (by decide) (by decide), eσ 69 (by decide) (by decide), eσ 70 (by decide) (by decide), eσ 71 (by decide) (by decide), eσ 72 (by decide) (by decide)]; exact hg
def toldM (σ : mk_S) (n : Nat) (f l v : Int) : mk_S := sto (sto (sto (sto (sto σ 58 n f) 59 n l) 60 n v) 62 n 0) 55 5 ((n : Int) + 1)
theorem mf_told {σ : mk_S} {n : Nat} {f l v : Int} : mf [58, 59, 60, 61, 62] [0, 5] σ (toldM σ n f l v) := ((((mf.rf.stA (by decide) (by decide)).stA (by decide) (by decide)).stA (by decide) (by decide)).stA (by decide) (by decide)).stF (by decide)
theorem mt_stat {σ T : mk_S} (hM : MT σ T) (f l s : Int) (hs : s ≠ 2) : MT (toldM σ (nS T) f l s) (keepS T f l s) := by
  refine mt_st (f := f) (l := l) (v := s) hM ?_ nS_keep.1 (by simp [toldM, sto]) (by simp [toldM, sto]) (by simp [toldM, sto]) (by simp [keepS, sto]) (by simp [keepS, sto]) (by simp [keepS, sto]) (fun i hi h2 => ?_) (fun a h1 h2 => ?_) (fun a h1 h2 => ?_) ⟨?_, ?_, ?_⟩
  · rw [nS_keep.2]; unfold toldM; rw [sto_get]; omega
  · have e14 : keepS T f l s 14 = mm_st (T 14) (nS T) s := by simp [keepS, sto]
    have e15 : keepS T f l s 15 = T 15 := by simp [keepS, sto]
    have e16 : keepS T f l s 16 = T 16 := by simp [keepS, sto]
    have e61 : toldM σ (nS T) f l s 61 = σ 61 := by simp [toldM, sto]
    have e62 : toldM σ (nS T) f l s 62 = mm_st (σ 62) (nS T) 0 := by simp [toldM, sto]
    rw [e14] at h2
    by_cases e : i = nS T
    · subst e; rw [st_at] at h2; exact absurd h2 hs
    · rw [st_ne e] at h2
      rw [e15, e16, e61, e62, st_ne e]
      exact (hM.2.1 i (by omega)).2.2.2 h2
  · unfold toldM; rw [sto_ne (by omega), sto_ne (by omega), sto_ne (by omega), sto_ne (by omega), sto_ne (by omega)]
  · unfold keepS; rw [sto_ne (by omega), sto_ne (by omega), sto_ne (by omega), sto_ne (by omega)]
  all_goals exact mf_told.2 _ (by decide)
theorem mt_map {σ σ' T : mk_S} (hM : MT σ T) (p : Int) {w : List Int} (h4 : w.length ≤ 4) (h61 : σ' 61 = mpF (σ 61) (nS T) w) (h62 : σ' 62 = mm_st (mm_st (σ 62) (nS T) 0) (nS T) w.length) (hb : ∀ b, b ≠ 61 → b ≠ 62 → σ' b = toldM σ (nS T) p p 2 b) (hTs : TOKs T) : MT σ' (sta (sto (keepS T p p 2) 15 (nS T) w.length) 16 (mpF (T 16) (nS T) w)) := by
  have eA : ∀ a, a ≠ 15 → a ≠ 16 → sta (sto (keepS T p p 2) 15 (nS T) w.length) 16 (mpF (T 16) (nS T) w) a = keepS T p p 2 a := fun a h1 h2 => by rw [sta_ne h2, sto_ne h1]
  have eS : nS (sta (sto (keepS T p p 2) 15 (nS T) w.length) 16 (mpF (T 16) (nS T) w)) = nS T + 1 := (congrArg (fun f : Nat → Int => (f 5).toNat) (eA 11 (by decide) (by decide))).trans nS_keep.1
  have e14 : keepS T p p 2 14 = mm_st (T 14) (nS T) 2 := by simp [keepS, sto]
  have e15 : sta (sto (keepS T p p 2) 15 (nS T) w.length) 16 (mpF (T 16) (nS T) w) 15 = mm_st (T 15) (nS T) w.length := by rw [sta_ne (by decide), sto_at]; simp [keepS, sto]
  refine mt_st (f := p) (l := p) (v := 2) hM ?_ eS (by rw [hb 58 (by decide) (by decide)]; simp [toldM, sto]) (by rw [hb 59 (by decide) (by decide)]; simp [toldM, sto]) (by rw [hb 60 (by decide) (by decide)]; simp [toldM, sto]) (by rw [eA 12 (by decide) (by decide)]; simp [keepS, sto]) (by rw [eA 13 (by decide) (by decide)]; simp [keepS, sto]) (by rw [eA 14 (by decide) (by decide)]; exact e14) (fun i hi h2 => ?_) (fun a h1 h2 => ?_) (fun a h1 h2 => ?_) ⟨?_, ?_, ?_⟩
  · rw [eA 11 (by decide) (by decide), nS_keep.2, hb 55 (by decide) (by decide)]; unfold toldM; rw [sto_get]; omega
  · rw [eA 14 (by decide) (by decide), e14] at h2
    rw [e15, sta_at, h61, h62]
    by_cases e : i = nS T
    · subst e; rw [st_at, st_at]
      refine ⟨rfl, fun j hj => ?_⟩
      unfold mpF
      rw [if_pos (by omega), if_pos (by omega)]
    · rw [st_ne e] at h2
      rw [st_ne e, st_ne e, st_ne e]
      have := (hM.2.1 i (by omega)).2.2.2 h2
      refine ⟨this.1, fun j hj => ?_⟩
      have h3 := ((hTs i (by omega)).2 h2).2.1
      unfold mpF
      rw [if_neg (by omega), if_neg (by omega)]
      exact this.2 j hj
  · rw [hb a (by omega) (by omega)]; unfold toldM; rw [sto_ne (by omega), sto_ne (by omega), sto_ne (by omega), sto_ne (by omega), sto_ne (by omega)]
  · rw [eA a (by omega) (by omega)]; unfold keepS; rw [sto_ne (by omega), sto_ne (by omega), sto_ne (by omega), sto_ne (by omega)]
  all_goals (rw [hb 55 (by decide) (by decide)]; exact mf_told.2 _ (by decide))
