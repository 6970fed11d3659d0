/-! EACH METHOD over the law's two states. -/
def mkG (T : mk_S) (t : List Int) (kd : Int) (o : List Int) : List Int := if (mkR T t kd).1.1 = 0 then (mkR T t kd).2.2 else o
def mkN (T : mk_S) (t : List Int) (kd : Int) : Int := if (mkR T t kd).1.1 = 0 then ((mkR T t kd).2.2.length : Int) else -10 - (mkR T t kd).1.1
def deW (w : List Int) : List Int := if (DE w).2 = -1 then (DE w).1 else w
def deN (w : List Int) : Int := if (DE w).2 = -1 then ((DE w).1.length : Int) else -10 - (DE w).2
theorem addW_pts {w : List Int} (h : pts w) (p : Int) : pts (addW w p) := by
  unfold addW; split
  · exact pts_nil
  · split
    · exact h
    · next g => split
                · exact h
                · exact pts_app h (Decidable.not_not.1 g)
theorem readW_pts {t w : List Int} (ho : octs t) (h : pts w) : pts (readW t w) := by
  unfold readW; split
  · exact (RD_pts ho).1
  · exact h
theorem deW_pts {w : List Int} (hl : w.length ≤ 300) (h : pts w) : pts (deW w) := by
  unfold deW; split
  · exact (DE_out h hl).1
  · exact h
section CC
variable {L : Nat} {σ T : mk_S} {t w o : List Int} {f l p n : Int} {Q : Option mm_V → mm_H → Prop}
theorem CI.wl (h : CI σ T t w o f l p n) : w.length ≤ 300 := h.2.2.1.2.1
theorem cc_feed (h : CI σ T t w o f l p n) (s : SI T t w o) (v m : Int) (hm : -2147483648 ≤ m ∧ m ≤ 2147483647) (k : ∀ σ', CI σ' T (feedT t v m) w o f l p n → (∀ a, 55 ≤ a → σ' a = σ a) → σ' 1 = σ 1 → Q (some (vI (feedN t m))) (hp L σ')) : mm_call 11 [vP 2, vJ v, vI m] (hp L σ) Q := by
  refine ct_feed h.2.1 v m hm (fun σ' c1 g => ?_)
  have g := g.cf (A := [3, 4]) (by decide) (by decide)
  exact k σ' ⟨h.1.cf g (by decide), c1, h.2.2.1.cf g (by decide) (by decide), h.2.2.2.1.cf g (by decide) (by decide), h.2.2.2.2.1.eq (g 34 (by decide)), (congrFun (g 46 (by decide)) 2).trans h.2.2.2.2.2⟩ (cf_above g (by decide)) (g 1 (by decide))
theorem cm_feed (h : MI σ T t w o f l p n) (s : SI T t w o) (v m : Int) (hm : -2147483648 ≤ m ∧ m ≤ 2147483647) (k : ∀ σ', MI σ' T (feedT t v m) w o f l p n → octs (feedT t v m) → (∀ a, a < 55 → σ' a = σ a) → Q (some (vI (feedN t m))) (hp L σ')) : mm_call 134 [vP 55, vJ v, vI m] (hp L σ) Q := by
  refine ct_mfeed s.2.1 h.2.1 v m hm (fun σ' c1 e1 g => ?_)
  exact k σ' ⟨h.1.mf g (by decide) (by decide), c1, h.2.2.1.mf g (by decide) (by decide), h.2.2.2.1.eq (g.2 48 (by decide)) (g.1 84 (by decide) (by decide)), h.2.2.2.2.1.mf g (by decide), (g.2 40 (by decide)).trans h.2.2.2.2.2⟩ e1 (mf_below g (by decide))
theorem cc_read (h : CI σ T t w o f l p n) (s : SI T t w o) (k : ∀ σ', CI σ' T t (readW t w) o f l p n → (∀ a, 55 ≤ a → σ' a = σ a) → σ' 1 = σ 1 → Q (some (vI (readN t))) (hp L σ')) : mm_call 15 [vP 2] (hp L σ) Q := by
  refine ct_read s.2.1 h.2.1 h.2.2.1 (fun σ' c1 g => ?_)
  exact k σ' ⟨h.1.cf g (by decide), h.2.1.cf g (by decide) (by decide), c1, h.2.2.2.1.cf g (by decide) (by decide), h.2.2.2.2.1.eq (g 34 (by decide)), (congrFun (g 46 (by decide)) 2).trans h.2.2.2.2.2⟩ (cf_above g (by decide)) (g 1 (by decide))
theorem cm_read (h : MI σ T t w o f l p n) (s : SI T t w o) (k : ∀ σ', MI σ' T t (readW t w) o f l p n → (∀ a, a < 55 → σ' a = σ a) → Q (some (vI (readN t))) (hp L σ')) : mm_call 136 [vP 55] (hp L σ) Q := by
  refine ct_mreadP s.2.1 h.2.1 h.2.2.1 (fun σ' c1 g => ?_)
  exact k σ' ⟨h.1.mf g (by decide) (by decide), h.2.1.mf g (by decide) (by decide), c1, h.2.2.2.1.eq (g.2 48 (by decide)) (g.1 84 (by decide) (by decide)), h.2.2.2.2.1.mf g (by decide), (g.2 40 (by decide)).trans h.2.2.2.2.2⟩ (mf_below g (by decide))
theorem cc_point (h : CI σ T t w o f l p n) (s : SI T t w o) (i : Int) (k : ∀ σ', CI σ' T t w o f l p n → (∀ a, 55 ≤ a → σ' a = σ a) → σ' 1 = σ 1 → Q (some (vI (gt w i))) (hp L σ')) : mm_call 25 [vP 2, vI i] (hp L σ) Q := by
  exact ct_point h.2.2.1 i (k σ h (fun _ _ => rfl) rfl)
theorem cm_point (h : MI σ T t w o f l p n) (s : SI T t w o) (i : Int) (k : ∀ σ', MI σ' T t w o f l p n → (∀ a, a < 55 → σ' a = σ a) → Q (some (vI (gt w i))) (hp L σ')) : mm_call 139 [vP 55, vI i] (hp L σ) Q := by
  refine ct_mpoint h.2.2.1 i (fun σ' g => ?_)
  exact k σ' ⟨h.1.mf g (by decide) (by decide), h.2.1.mf g (by decide) (by decide), h.2.2.1.mf g (by decide) (by decide), h.2.2.2.1.eq (g.2 48 (by decide)) (g.1 84 (by decide) (by decide)), h.2.2.2.2.1.mf g (by decide), (g.2 40 (by decide)).trans h.2.2.2.2.2⟩ (mf_below g (by decide))
theorem cc_add (h : CI σ T t w o f l p n) (s : SI T t w o) (i : Int) (k : ∀ σ', CI σ' T t (addW w i) o f l p n → (∀ a, 55 ≤ a → σ' a = σ a) → σ' 1 = σ 1 → Q (some (vI (addN w i))) (hp L σ')) : mm_call 26 [vP 2, vI i] (hp L σ) Q := by
  refine ct_add h.2.2.1 i (fun σ' c1 g => ?_)
  exact k σ' ⟨h.1.cf g (by decide), h.2.1.cf g (by decide) (by decide), c1, h.2.2.2.1.cf g (by decide) (by decide), h.2.2.2.2.1.eq (g 34 (by decide)), (congrFun (g 46 (by decide)) 2).trans h.2.2.2.2.2⟩ (cf_above g (by decide)) (g 1 (by decide))
theorem cm_add (h : MI σ T t w o f l p n) (s : SI T t w o) (i : Int) (k : ∀ σ', MI σ' T t (addW w i) o f l p n → (∀ a, a < 55 → σ' a = σ a) → Q (some (vI (addN w i))) (hp L σ')) : mm_call 140 [vP 55, vI i] (hp L σ) Q := by
  refine ct_madd h.2.2.1 i (fun σ' c1 g => ?_)
  exact k σ' ⟨h.1.mf g (by decide) (by decide), h.2.1.mf g (by decide) (by decide), c1, h.2.2.2.1.eq (g.2 48 (by decide)) (g.1 84 (by decide) (by decide)), h.2.2.2.2.1.mf g (by decide), (g.2 40 (by decide)).trans h.2.2.2.2.2⟩ (mf_below g (by decide))
theorem cc_status (h : CI σ T t w o f l p n) (s : SI T t w o) (a b c : Int) (k : ∀ σ', CI σ' (statT T a b c) t w o f l p n → (∀ a, 55 ≤ a → σ' a = σ a) → σ' 1 = σ 1 → Q (some (vI (statN T a b c))) (hp L σ')) : mm_call 28 [vP 2, vI a, vI b, vI c] (hp L σ) Q := by
  refine ct_status h.1 s.1 a b c (fun σ' c1 g => ?_)
  exact k σ' ⟨c1, h.2.1.cf g (by decide) (by decide), h.2.2.1.cf g (by decide) (by decide), h.2.2.2.1.cf g (by decide) (by decide), h.2.2.2.2.1.eq (g 34 (by decide)), (congrFun (g 46 (by decide)) 2).trans h.2.2.2.2.2⟩ (cf_above g (by decide)) (g 1 (by decide))
theorem cm_status (h : MI σ T t w o f l p n) (s : SI T t w o) (a b c : Int) (k : ∀ σ', MI σ' (statT T a b c) t w o f l p n → (∀ a, a < 55 → σ' a = σ a) → Q (some (vI (statN T a b c))) (hp L σ')) : mm_call 142 [vP 55, vI a, vI b, vI c] (hp L σ) Q := by
  refine ct_mstat h.1 s.1 a b c (fun σ' c1 g => ?_)
  exact k σ' ⟨c1, h.2.1.mf g (by decide) (by decide), h.2.2.1.mf g (by decide) (by decide), h.2.2.2.1.eq (g.2 48 (by decide)) (g.1 84 (by decide) (by decide)), h.2.2.2.2.1.mf g (by decide), (g.2 40 (by decide)).trans h.2.2.2.2.2⟩ (mf_below g (by decide))
theorem cc_map (h : CI σ T t w o f l p n) (s : SI T t w o) (a : Int) (k : ∀ σ', CI σ' (mapT T a w) t w o f l p n → (∀ a, 55 ≤ a → σ' a = σ a) → σ' 1 = σ 1 → Q (some (vI (mapN T a w))) (hp L σ')) : mm_call 32 [vP 2, vI a] (hp L σ) Q := by
  refine ct_map h.1 s.1 h.2.2.1 a (fun σ' c1 g => ?_)
  exact k σ' ⟨c1, h.2.1.cf g (by decide) (by decide), h.2.2.1.cf g (by decide) (by decide), h.2.2.2.1.cf g (by decide) (by decide), h.2.2.2.2.1.eq (g 34 (by decide)), (congrFun (g 46 (by decide)) 2).trans h.2.2.2.2.2⟩ (cf_above g (by decide)) (g 1 (by decide))
theorem cm_map (h : MI σ T t w o f l p n) (s : SI T t w o) (a : Int) (k : ∀ σ', MI σ' (mapT T a w) t w o f l p n → (∀ a, a < 55 → σ' a = σ a) → Q (some (vI (mapN T a w))) (hp L σ')) : mm_call 144 [vP 55, vI a] (hp L σ) Q := by
  refine ct_mmap h.1 s.1 h.2.2.1 a (fun σ' c1 g => ?_)
  exact k σ' ⟨c1, h.2.1.mf g (by decide) (by decide), h.2.2.1.mf g (by decide) (by decide), h.2.2.2.1.eq (g.2 48 (by decide)) (g.1 84 (by decide) (by decide)), h.2.2.2.2.1.mf g (by decide), (g.2 40 (by decide)).trans h.2.2.2.2.2⟩ (mf_below g (by decide))
theorem cc_parts (h : CI σ T t w o f l p n) (s : SI T t w o) (a b c d : Int) (hd : d = 0 ∨ d = 1) (k : ∀ σ', CI σ' (partT T a b c d) t w o f l p n → (∀ a, 55 ≤ a → σ' a = σ a) → σ' 1 = σ 1 → Q (some (vI (partN T a b c d))) (hp L σ')) : mm_call 34 [vP 2, vI a, vI b, vI c, vI d] (hp L σ) Q := by
  refine ct_parts h.1 s.1 a b c d hd (fun σ' c1 g => ?_)
  exact k σ' ⟨c1, h.2.1.cf g (by decide) (by decide), h.2.2.1.cf g (by decide) (by decide), h.2.2.2.1.cf g (by decide) (by decide), h.2.2.2.2.1.eq (g 34 (by decide)), (congrFun (g 46 (by decide)) 2).trans h.2.2.2.2.2⟩ (cf_above g (by decide)) (g 1 (by decide))
theorem cm_parts (h : MI σ T t w o f l p n) (s : SI T t w o) (a b c d : Int) (hd : d = 0 ∨ d = 1) (k : ∀ σ', MI σ' (partT T a b c d) t w o f l p n → (∀ a, a < 55 → σ' a = σ a) → Q (some (vI (partN T a b c d))) (hp L σ')) : mm_call 145 [vP 55, vI a, vI b, vI c, vI d] (hp L σ) Q := by
  refine ct_mparts h.1 s.1 a b c d hd (fun σ' c1 g => ?_)
  exact k σ' ⟨c1, h.2.1.mf g (by decide) (by decide), h.2.2.1.mf g (by decide) (by decide), h.2.2.2.1.eq (g.2 48 (by decide)) (g.1 84 (by decide) (by decide)), h.2.2.2.2.1.mf g (by decide), (g.2 40 (by decide)).trans h.2.2.2.2.2⟩ (mf_below g (by decide))
theorem cc_rank (h : CI σ T t w o f l p n) (s : SI T t w o) (a b : Int) (k : ∀ σ', CI σ' (rankT T a b) t w o f l p n → (∀ a, 55 ≤ a → σ' a = σ a) → σ' 1 = σ 1 → Q (some (vI (rankN T a b))) (hp L σ')) : mm_call 44 [vP 2, vI a, vI b] (hp L σ) Q := by
  refine ct_rank h.1 s.1 a b (fun σ' c1 g => ?_)
  exact k σ' ⟨c1, h.2.1.cf g (by decide) (by decide), h.2.2.1.cf g (by decide) (by decide), h.2.2.2.1.cf g (by decide) (by decide), h.2.2.2.2.1.eq (g 34 (by decide)), (congrFun (g 46 (by decide)) 2).trans h.2.2.2.2.2⟩ (cf_above g (by decide)) (g 1 (by decide))
theorem cm_rank (h : MI σ T t w o f l p n) (s : SI T t w o) (a b : Int) (k : ∀ σ', MI σ' (rankT T a b) t w o f l p n → (∀ a, a < 55 → σ' a = σ a) → Q (some (vI (rankN T a b))) (hp L σ')) : mm_call 148 [vP 55, vI a, vI b] (hp L σ) Q := by
  refine ct_mrank h.1 s.1 a b (fun σ' c1 g => ?_)
  exact k σ' ⟨c1, h.2.1.mf g (by decide) (by decide), h.2.2.1.mf g (by decide) (by decide), h.2.2.2.1.eq (g.2 48 (by decide)) (g.1 84 (by decide) (by decide)), h.2.2.2.2.1.mf g (by decide), (g.2 40 (by decide)).trans h.2.2.2.2.2⟩ (mf_below g (by decide))
theorem cc_range (h : CI σ T t w o f l p n) (s : SI T t w o) (a b c d : Int) (k : ∀ σ', CI σ' (rangT T a b c d) t w o f l p n → (∀ a, 55 ≤ a → σ' a = σ a) → σ' 1 = σ 1 → Q (some (vI (rangN T a b c d))) (hp L σ')) : mm_call 47 [vP 2, vI a, vI b, vI c, vI d] (hp L σ) Q := by
  refine ct_rangeP h.1 s.1 a b c d (fun σ' c1 g => ?_)
  exact k σ' ⟨c1, h.2.1.cf g (by decide) (by decide), h.2.2.1.cf g (by decide) (by decide), h.2.2.2.1.cf g (by decide) (by decide), h.2.2.2.2.1.eq (g 34 (by decide)), (congrFun (g 46 (by decide)) 2).trans h.2.2.2.2.2⟩ (cf_above g (by decide)) (g 1 (by decide))
theorem cm_range (h : MI σ T t w o f l p n) (s : SI T t w o) (a b c d : Int) (k : ∀ σ', MI σ' (rangT T a b c d) t w o f l p n → (∀ a, a < 55 → σ' a = σ a) → Q (some (vI (rangN T a b c d))) (hp L σ')) : mm_call 151 [vP 55, vI a, vI b, vI c, vI d] (hp L σ) Q := by
  refine ct_mrangeT h.1 s.1 a b c d (fun σ' c1 g => ?_)
  exact k σ' ⟨c1, h.2.1.mf g (by decide) (by decide), h.2.2.1.mf g (by decide) (by decide), h.2.2.2.1.eq (g.2 48 (by decide)) (g.1 84 (by decide) (by decide)), h.2.2.2.2.1.mf g (by decide), (g.2 40 (by decide)).trans h.2.2.2.2.2⟩ (mf_below g (by decide))
theorem cc_about (h : CI σ T t w o f l p n) (s : SI T t w o) (a b : Int) (k : ∀ σ', CI σ' T t w o f l p n → (∀ a, 55 ≤ a → σ' a = σ a) → σ' 1 = σ 1 → Q (some (vI (abouN T a b))) (hp L σ')) : mm_call 50 [vP 2, vI a, vI b] (hp L σ) Q := by
  exact ct_about h.1 s.1 a b (k σ h (fun _ _ => rfl) rfl)
theorem cm_about (h : MI σ T t w o f l p n) (s : SI T t w o) (a b : Int) (k : ∀ σ', MI σ' T t w o f l p n → (∀ a, a < 55 → σ' a = σ a) → Q (some (vI (abouN T a b))) (hp L σ')) : mm_call 152 [vP 55, vI a, vI b] (hp L σ) Q := by
  refine ct_mabout h.1 s.1 a b (fun σ' g => ?_)
  exact k σ' ⟨h.1.mf g (by decide) (by decide), h.2.1.mf g (by decide) (by decide), h.2.2.1.mf g (by decide) (by decide), h.2.2.2.1.eq (g.2 48 (by decide)) (g.1 84 (by decide) (by decide)), h.2.2.2.2.1.mf g (by decide), (g.2 40 (by decide)).trans h.2.2.2.2.2⟩ (mf_below g (by decide))
theorem cc_form (h : CI σ T t w o f l p n) (s : SI T t w o) (a : Int) (k : ∀ σ', CI σ' T t (formW T w a) o f l p n → (∀ a, 55 ≤ a → σ' a = σ a) → σ' 1 = σ 1 → Q (some (vI (formN T w a))) (hp L σ')) : mm_call 57 [vP 2, vI a] (hp L σ) Q := by
  refine ct_formP h.1 s.1 h.2.2.1 a (fun σ' c1 g => ?_)
  exact k σ' ⟨h.1.cf g (by decide), h.2.1.cf g (by decide) (by decide), c1, h.2.2.2.1.cf g (by decide) (by decide), h.2.2.2.2.1.eq (g 34 (by decide)), (congrFun (g 46 (by decide)) 2).trans h.2.2.2.2.2⟩ (cf_above g (by decide)) (g 1 (by decide))
theorem cm_form (h : MI σ T t w o f l p n) (s : SI T t w o) (a : Int) (k : ∀ σ', MI σ' T t (formW T w a) o f l p n → (∀ a, a < 55 → σ' a = σ a) → Q (some (vI (formN T w a))) (hp L σ')) : mm_call 156 [vP 55, vI a] (hp L σ) Q := by
  refine ct_mformP h.1 s.1 h.2.2.1 a (fun σ' c1 g => ?_)
  exact k σ' ⟨h.1.mf g (by decide) (by decide), h.2.1.mf g (by decide) (by decide), c1, h.2.2.2.1.eq (g.2 48 (by decide)) (g.1 84 (by decide) (by decide)), h.2.2.2.2.1.mf g (by decide), (g.2 40 (by decide)).trans h.2.2.2.2.2⟩ (mf_below g (by decide))
theorem cc_inForm (h : CI σ T t w o f l p n) (s : SI T t w o) (k : ∀ σ', CI σ' T t w o f l p n → (∀ a, 55 ≤ a → σ' a = σ a) → σ' 1 = σ 1 → Q (some (vI (inFN T w))) (hp L σ')) : mm_call 73 [vP 2] (hp L σ) Q := by
  refine ct_inForm h.1 s.1 h.2.2.1 (fun σ' g => ?_)
  exact k σ' ⟨h.1.cf g (by decide), h.2.1.cf g (by decide) (by decide), h.2.2.1.cf g (by decide) (by decide), h.2.2.2.1.cf g (by decide) (by decide), h.2.2.2.2.1.eq (g 34 (by decide)), (congrFun (g 46 (by decide)) 2).trans h.2.2.2.2.2⟩ (cf_above g (by decide)) (g 1 (by decide))
theorem cm_inForm (h : MI σ T t w o f l p n) (s : SI T t w o) (k : ∀ σ', MI σ' T t w o f l p n → (∀ a, a < 55 → σ' a = σ a) → Q (some (vI (inFN T w))) (hp L σ')) : mm_call 161 [vP 55] (hp L σ) Q := by
  refine ct_minForm h.1 s.1 h.2.2.1 (fun σ' g => ?_)
  exact k σ' ⟨h.1.mf g (by decide) (by decide), h.2.1.mf g (by decide) (by decide), h.2.2.1.mf g (by decide) (by decide), h.2.2.2.1.eq (g.2 48 (by decide)) (g.1 84 (by decide) (by decide)), h.2.2.2.2.1.mf g (by decide), (g.2 40 (by decide)).trans h.2.2.2.2.2⟩ (mf_below g (by decide))
theorem cc_alike (h : CI σ T t w o f l p n) (s : SI T t w o) (k : ∀ σ', CI σ' T t w o f l p n → (∀ a, 55 ≤ a → σ' a = σ a) → σ' 1 = σ 1 → Q (some (vI (alikN T t w))) (hp L σ')) : mm_call 77 [vP 2] (hp L σ) Q := by
  refine ct_alike h.1 s.1 s.2.1 h.2.1 h.2.2.1 (fun σ' g => ?_)
  exact k σ' ⟨h.1.cf g (by decide), h.2.1.cf g (by decide) (by decide), h.2.2.1.cf g (by decide) (by decide), h.2.2.2.1.cf g (by decide) (by decide), h.2.2.2.2.1.eq (g 34 (by decide)), (congrFun (g 46 (by decide)) 2).trans h.2.2.2.2.2⟩ (cf_above g (by decide)) (g 1 (by decide))
theorem cm_alike (h : MI σ T t w o f l p n) (s : SI T t w o) (k : ∀ σ', MI σ' T t w o f l p n → (∀ a, a < 55 → σ' a = σ a) → Q (some (vI (alikN T t w))) (hp L σ')) : mm_call 163 [vP 55] (hp L σ) Q := by
  refine ct_malike h.1 s.1 s.2.1 h.2.1 h.2.2.1 (fun σ' g => ?_)
  exact k σ' ⟨h.1.mf g (by decide) (by decide), h.2.1.mf g (by decide) (by decide), h.2.2.1.mf g (by decide) (by decide), h.2.2.2.1.eq (g.2 48 (by decide)) (g.1 84 (by decide) (by decide)), h.2.2.2.2.1.mf g (by decide), (g.2 40 (by decide)).trans h.2.2.2.2.2⟩ (mf_below g (by decide))
theorem cc_encode (h : CI σ T t w o f l p n) (s : SI T t w o) (k : ∀ σ', CI σ' T t (encW w) o f l p n → (∀ a, 55 ≤ a → σ' a = σ a) → σ' 1 = σ 1 → Q (some (vI (encN w))) (hp L σ')) : mm_call 78 [vP 2] (hp L σ) Q := by
  refine ct_encode s.2.2.1 h.2.2.1 (fun σ' c1 g => ?_)
  exact k σ' ⟨h.1.cf g (by decide), h.2.1.cf g (by decide) (by decide), c1, h.2.2.2.1.cf g (by decide) (by decide), h.2.2.2.2.1.eq (g 34 (by decide)), (congrFun (g 46 (by decide)) 2).trans h.2.2.2.2.2⟩ (cf_above g (by decide)) (g 1 (by decide))
theorem cm_encode (h : MI σ T t w o f l p n) (s : SI T t w o) (k : ∀ σ', MI σ' T t (encW w) o f l p n → (∀ a, a < 55 → σ' a = σ a) → Q (some (vI (encN w))) (hp L σ')) : mm_call 164 [vP 55] (hp L σ) Q := by
  refine ct_mencode s.2.2.1 h.2.2.1 (fun σ' c1 g => ?_)
  exact k σ' ⟨h.1.mf g (by decide) (by decide), h.2.1.mf g (by decide) (by decide), c1, h.2.2.2.1.eq (g.2 48 (by decide)) (g.1 84 (by decide) (by decide)), h.2.2.2.2.1.mf g (by decide), (g.2 40 (by decide)).trans h.2.2.2.2.2⟩ (mf_below g (by decide))
theorem cc_decode (h : CI σ T t w o f l p n) (s : SI T t w o) (k : ∀ σ', CI σ' T t (deW w) o f l p n → (∀ a, 55 ≤ a → σ' a = σ a) → σ' 1 = σ 1 → Q (some (vI (deN w))) (hp L σ')) : mm_call 86 [vP 2] (hp L σ) Q := by
  refine ct_decodeC s.2.2.1 h.2.2.1 (fun σ' c1 g => ?_)
  exact k σ' ⟨h.1.cf g (by decide), h.2.1.cf g (by decide) (by decide), c1, h.2.2.2.1.cf g (by decide) (by decide), h.2.2.2.2.1.eq (g 34 (by decide)), (congrFun (g 46 (by decide)) 2).trans h.2.2.2.2.2⟩ (cf_above g (by decide)) (g 1 (by decide))
theorem cm_decode (h : MI σ T t w o f l p n) (s : SI T t w o) (k : ∀ σ', MI σ' T t (deW w) o f l p n → (∀ a, a < 55 → σ' a = σ a) → Q (some (vI (deN w))) (hp L σ')) : mm_call 171 [vP 55] (hp L σ) Q := by
  refine ct_mdecode s.2.2.1 h.2.2.1 (fun σ' c1 g => ?_)
  exact k σ' ⟨h.1.mf g (by decide) (by decide), h.2.1.mf g (by decide) (by decide), c1, h.2.2.2.1.eq (g.2 48 (by decide)) (g.1 84 (by decide) (by decide)), h.2.2.2.2.1.mf g (by decide), (g.2 40 (by decide)).trans h.2.2.2.2.2⟩ (mf_below g (by decide))
theorem cc_fault (h : CI σ T t w o f l p n) (z : Int) (k : Q (some (vI (fauN f l p n z))) (hp L σ)) : mm_call 130 [vP 2, vI z] (hp L σ) Q := ct_fault h.2.2.2.2.1 h.2.2.2.2.2 z k
theorem cm_fault (h : MI σ T t w o f l p n) (z : Int) (k : ∀ σ', MI σ' T t w o f l p n → (∀ a, a < 55 → σ' a = σ a) → Q (some (vI (fauN f l p n z))) (hp L σ')) : mm_call 189 [vP 55, vI z] (hp L σ) Q := by
  refine ct_mfault h.2.2.2.2.1 h.2.2.2.2.2 z (fun σ' g => ?_)
  exact k σ' ⟨h.1.mf g (by decide) (by decide), h.2.1.mf g (by decide) (by decide), h.2.2.1.mf g (by decide) (by decide), h.2.2.2.1.eq (g.2 48 (by decide)) (g.1 84 (by decide) (by decide)), h.2.2.2.2.1.mf g (by decide), (g.2 40 (by decide)).trans h.2.2.2.2.2⟩ (mf_below g (by decide))
theorem cc_octet (h : CI σ T t w o f l p n) (z : Int) (k : Q (some (vI (gt o z))) (hp L σ)) : mm_call 131 [vP 2, vI z] (hp L σ) Q := ct_octet h.2.2.2.1 z k
theorem cm_octet (h : MI σ T t w o f l p n) (s : SI T t w o) (z : Int) (k : ∀ σ', MI σ' T t w o f l p n → (∀ a, a < 55 → σ' a = σ a) → Q (some (vI (gt o z))) (hp L σ')) : mm_call 190 [vP 55, vI z] (hp L σ) Q := by
  refine ct_moctet h.2.2.2.1 s.2.2.2 z (fun σ' g => ?_)
  exact k σ' ⟨h.1.mf g (by decide) (by decide), h.2.1.mf g (by decide) (by decide), h.2.2.1.mf g (by decide) (by decide), h.2.2.2.1.eq (g.2 48 (by decide)) (g.1 84 (by decide) (by decide)), h.2.2.2.2.1.mf g (by decide), (g.2 40 (by decide)).trans h.2.2.2.2.2⟩ (mf_below g (by decide))
theorem mkG_oct {kd : Int} (s : SI T t w o) : octs (mkG T t kd o) := by
  unfold mkG; split
  · exact (mkR_rng s.1 s.2.1 kd).2.2.1
  · exact s.2.2.2
theorem cc_make (h : CI σ T t w o f l p n) (s : SI T t w o) (kd : Int) (k : ∀ σ', CI σ' T t w (mkG T t kd o) (mkR T t kd).1.1 (mkR T t kd).1.2.1 (mkR T t kd).1.2.2 ((mkR T t kd).2.1 : Int) → (∀ a, 55 ≤ a → σ' a = σ a) → σ' 1 = σ 1 → Q (some (vI (mkN T t kd))) (hp L σ')) : mm_call 91 [vP 2, vI kd] (hp L σ) Q := by
  have hr := mkR_rng s.1 s.2.1 kd
  unfold mkG mkN at k
  refine ct_make h.1 s.1 s.2.1 h.2.1 ⟨by omega, by omega⟩ (fun e σ' d1 d2 d3 g => ?_) (fun e σ' d1 d2 g => ?_)
  · rw [if_pos e, if_pos e, hr.2.1 e] at k
    exact k σ' ⟨h.1.cf g (by decide), h.2.1.cf g (by decide) (by decide), h.2.2.1.cf g (by decide) (by decide), d3, d1, d2⟩ (cf_above g (by decide)) (g 1 (by decide))
  · rw [if_neg e, if_neg e] at k
    exact k σ' ⟨h.1.cf g (by decide), h.2.1.cf g (by decide) (by decide), h.2.2.1.cf g (by decide) (by decide), h.2.2.2.1.cf g (by decide) (by decide), d1, d2⟩ (cf_above g (by decide)) (g 1 (by decide))
theorem cm_make (h : MI σ T t w o f l p n) (s : SI T t w o) (kd : Int) (k : ∀ σ', MI σ' T t w (mkG T t kd o) (mkR T t kd).1.1 (mkR T t kd).1.2.1 (mkR T t kd).1.2.2 ((mkR T t kd).2.1 : Int) → (∀ a, a < 55 → σ' a = σ a) → Q (some (vI (mkN T t kd))) (hp L σ')) : mm_call 174 [vP 55, vI kd] (hp L σ) Q := by
  have hr := mkR_rng s.1 s.2.1 kd
  unfold mkG mkN at k
  refine ct_mmake h.1 s.1 s.2.1 h.2.1 ⟨by omega, by omega⟩ hr.2.2.2 (fun σ' d1 d2 d3 d4 g => ?_)
  refine k σ' ⟨h.1.mf g (by decide) (by decide), h.2.1.mf g (by decide) (by decide), h.2.2.1.mf g (by decide) (by decide), ?_, d1, d2⟩ (mf_below g (by decide))
  by_cases e : (mkR T t kd).1.1 = 0
  · rw [if_pos e]; exact d3 e
  · rw [if_neg e]; exact h.2.2.2.1.eq (d4 e).2 (d4 e).1
end CC
