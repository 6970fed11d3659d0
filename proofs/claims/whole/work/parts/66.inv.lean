/-! THE LAW'S LOOP: what holds before each call. -/
def CI (σ T : mk_S) (t w o : List Int) (f l p n : Int) : Prop := TC σ T ∧ rowOK σ 3 400 t ∧ rowOK σ 5 300 w ∧ rowOK σ 53 1200 o ∧ dF σ f l p ∧ σ 46 2 = n
def MI (σ T : mk_S) (t w o : List Int) (f l p n : Int) : Prop := MT σ T ∧ mText σ t ∧ mRow σ w ∧ mMade σ o ∧ mD σ f l p ∧ σ 55 40 = n
def SI (T : mk_S) (t w o : List Int) : Prop := TOK T ∧ octs t ∧ pts w ∧ octs o
theorem mf_below {A F : List Nat} {σ σ' : mk_S} (h : mf A F σ σ') (hA : ∀ a, a ∈ A → 55 < a) : ∀ a, a < 55 → σ' a = σ a := fun a ha => h.1 a (by omega) (fun q => by have := hA a q; omega)
theorem cf_above {A : List Nat} {σ σ' : mk_S} (h : cf A σ σ') (hA : ∀ a, a ∈ A → a < 55) : ∀ a, 55 ≤ a → σ' a = σ a := fun a ha => h a (fun q => by have := hA a q; omega)
theorem CI.keep {σ σ' T : mk_S} {t w o : List Int} {f l p n : Int} (h : CI σ T t w o f l p n) (g : ∀ a, a < 55 → σ' a = σ a) : CI σ' T t w o f l p n := by
  obtain ⟨a1, a2, a3, a4, a5, a6⟩ := h
  exact ⟨fun b h1 h2 => by rw [g b (by omega)]; exact a1 b h1 h2, a2.fr (g 3 (by decide)) (g 4 (by decide)), a3.fr (g 5 (by decide)) (g 6 (by decide)), a4.fr (g 53 (by decide)) (g 54 (by decide)), a5.eq (g 34 (by decide)), by rw [g 46 (by decide)]; exact a6⟩
theorem MI.keep {σ σ' T : mk_S} {t w o : List Int} {f l p n : Int} (h : MI σ T t w o f l p n) (g : ∀ a, 55 ≤ a → σ' a = σ a) : MI σ' T t w o f l p n := by
  obtain ⟨a1, a2, a3, a4, a5, a6⟩ := h
  have e := g 55 (by decide)
  refine ⟨?_, a2.eq (by rw [e]) (g 56 (by decide)), a3.eq (by rw [e]) (g 57 (by decide)), a4.eq (by rw [e]) (g 84 (by decide)), ?_, by rw [e]; exact a6⟩
  · unfold MT MTn MTs MTp MTr MTg at a1 ⊢
    rw [e, g 58 (by decide), g 59 (by decide), g 60 (by decide), g 61 (by decide), g 62 (by decide), g 63 (by decide), g 64 (by decide), g 65 (by decide), g 66 (by decide), g 67 (by decide), g 68 (by decide), g 69 (by decide), g 70 (by decide), g 71 (by decide), g 72 (by decide)]
    exact a1
  · unfold mD at a5 ⊢
    rw [e]; exact a5
