def mm_allok : Nat → List (List (Nat × mm_I)) → Prop
  | _, [] => True
  | i, t :: r => t.all (fun q => mm_okI i q.1 q.2) = true ∧ mm_allok (i + 1) r
set_option maxRecDepth 100000 in
theorem mm_allok_tabs : mm_allok 0 mm_tabs := ⟨mm_okT0, mm_okT1, mm_okT2, mm_okT3, mm_okT4, mm_okT5, mm_okT6, mm_okT7, mm_okT8, mm_okT9, mm_okT10, mm_okT11, mm_okT12, mm_okT13, mm_okT14, mm_okT15, mm_okT16, mm_okT17, mm_okT18, mm_okT19, mm_okT20, mm_okT21, mm_okT22, mm_okT23, mm_okT24, mm_okT25, mm_okT26, mm_okT27, mm_okT28, mm_okT29, mm_okT30, mm_okT31, mm_okT32, mm_okT33, mm_okT34, mm_okT35, mm_okT36, mm_okT37, mm_okT38, mm_okT39, mm_okT40, mm_okT41, mm_okT42, mm_okT43, mm_okT44, mm_okT45, mm_okT46, mm_okT47, mm_okT48, mm_okT49, mm_okT50, mm_okT51, mm_okT52, mm_okT53, mm_okT54, mm_okT55, mm_okT56, mm_okT57, mm_okT58, mm_okT59, mm_okT60, mm_okT61, mm_okT62, mm_okT63, mm_okT64, mm_okT65, mm_okT66, mm_okT67, mm_okT68, mm_okT69, mm_okT70, mm_okT71, mm_okT72, mm_okT73, mm_okT74, mm_okT75, mm_okT76, mm_okT77, mm_okT78, mm_okT79, mm_okT80, mm_okT81, mm_okT82, mm_okT83, mm_okT84, mm_okT85, mm_okT86, mm_okT87, mm_okT88, mm_okT89, mm_okT90, mm_okT91, mm_okT92, mm_okT93, mm_okT94, mm_okT95, mm_okT96, mm_okT97, mm_okT98, mm_okT99, mm_okT100, mm_okT101, mm_okT102, mm_okT103, mm_okT104, mm_okT105, mm_okT106, mm_okT107, mm_okT108, mm_okT109, mm_okT110, mm_okT111, mm_okT112, mm_okT113, mm_okT114, mm_okT115, mm_okT116, mm_okT117, mm_okT118, mm_okT119, mm_okT120, mm_okT121, mm_okT122, mm_okT123, mm_okT124, mm_okT125, mm_okT126, mm_okT127, mm_okT128, mm_okT129, mm_okT130, mm_okT131, mm_okT132, mm_okT133, mm_okT134, mm_okT135, mm_okT136, mm_okT137, mm_okT138, mm_okT139, mm_okT140, mm_okT141, mm_okT142, mm_okT143, mm_okT144, mm_okT145, mm_okT146, mm_okT147, mm_okT148, mm_okT149, mm_okT150, mm_okT151, mm_okT152, mm_okT153, mm_okT154, mm_okT155, mm_okT156, mm_okT157, mm_okT158, mm_okT159, mm_okT160, mm_okT161, mm_okT162, mm_okT163, mm_okT164, mm_okT165, mm_okT166, mm_okT167, mm_okT168, mm_okT169, mm_okT170, mm_okT171, mm_okT172, mm_okT173, mm_okT174, mm_okT175, mm_okT176, mm_okT177, mm_okT178, mm_okT179, mm_okT180, mm_okT181, mm_okT182, mm_okT183, mm_okT184, mm_okT185, mm_okT186, mm_okT187, mm_okT188, mm_okT189, mm_okT190, trivial⟩
theorem mm_allok_at : ∀ (l : List (List (Nat × mm_I))) (i k : Nat) (t : List (Nat × mm_I)), mm_allok i l → l[k]? = some t → t.all (fun q => mm_okI (i + k) q.1 q.2) = true
  | [], _, _, _, _, h => by simp at h
  | a :: r, i, 0, t, h, ht => by
    simp only [List.getElem?_cons_zero, Option.some.injEq] at ht
    subst ht
    exact h.1
  | a :: r, i, k + 1, t, h, ht => by
    simp only [List.getElem?_cons_succ] at ht
    have := mm_allok_at r (i + 1) k t h.2 ht
    rwa [show i + 1 + k = i + (k + 1) by omega] at this
theorem mm_lookup_mem {α : Type} : ∀ (l : List (Nat × α)) (k : Nat) (v : α), l.lookup k = some v → (k, v) ∈ l
  | [], _, _, h => by simp at h
  | (a, b) :: r, k, v, h => by
    by_cases e : k = a
    · subst e
      simp only [List.lookup_cons, beq_self_eq_true, Option.some.injEq] at h
      subst h
      exact List.mem_cons_self
    · have e2 : (k == a) = false := by simpa using e
      rw [List.lookup_cons, e2] at h
      exact List.mem_cons_of_mem _ (mm_lookup_mem r k v h)
theorem mm_ok_all {y pc : Nat} {I : mm_I} (h : mm_code y pc = some I) : mm_okI y pc I = true := by
  unfold mm_code at h
  have hm := mm_lookup_mem _ _ _ h
  cases ht : mm_tabs[y]? with
  | none =>
    rw [List.getD_eq_getElem?_getD, ht] at hm
    simp at hm
  | some t =>
    rw [List.getD_eq_getElem?_getD, ht] at hm
    have h1 := mm_allok_at mm_tabs 0 y t mm_allok_tabs ht
    rw [Nat.zero_add] at h1
    exact List.all_eq_true.mp h1 (pc, I) hm
def mm_run : Nat → Nat → mm_F → Option (Option mm_V × mm_H)
  | 0, _, _ => none
  | n + 1, y, f => match mm_code y f.1 with
    | none => none
    | some I => match mm_step I f.1 f.2.1 f.2.2.1 f.2.2.2 with
      | none => none
      | some (.inl f') => mm_run n y f'
      | some (.inr (.inl r)) => some r
      | some (.inr (.inr (m, as, pc, ls, rest, h))) => if (mm_spread as).length ≤ mm_maxL m then (match mm_run n m (0, mm_pad (mm_maxL m) (mm_spread as), [], h) with
        | none => none
        | some (v, h') => mm_run n y (pc, ls, v.toList ++ rest, h')) else none
theorem mm_mono : ∀ (n k y : Nat) (f : mm_F) (r : Option mm_V × mm_H), mm_run n y f = some r → n ≤ k → mm_run k y f = some r := by
  intro n
  induction n with
  | zero => intro k y f r h; simp [mm_run] at h
  | succ n ih =>
    intro k y f r h hk
    obtain ⟨k, rfl⟩ : ∃ j, k = j + 1 := ⟨k - 1, by omega⟩
    have hk' : n ≤ k := by omega
    unfold mm_run at h ⊢
    cases hc : mm_code y f.1 with
    | none => rw [hc] at h; cases h
    | some I =>
      rw [hc] at h
      dsimp only at h ⊢
      cases hs : mm_step I f.1 f.2.1 f.2.2.1 f.2.2.2 with
      | none => rw [hs] at h; cases h
      | some o =>
        rw [hs] at h
        rcases o with f' | r' | ⟨m, as, pc, ls, rest, h0⟩
        · exact ih _ _ _ _ h hk'
        · exact h
        · dsimp only at h ⊢
          by_cases hl : (mm_spread as).length ≤ mm_maxL m
          · rw [if_pos hl] at h ⊢
            cases hr : mm_run n m (0, mm_pad (mm_maxL m) (mm_spread as), [], h0) with
            | none => rw [hr] at h; cases h
            | some q =>
              rw [hr] at h
              rw [ih _ _ _ _ hr hk']
              exact ih _ _ _ _ h hk'
          · rw [if_neg hl] at h; cases h
/-- from here the method comes to its end, with Q of its answer and of the cells -/
def mm_X (y pc : Nat) (ls st : List mm_V) (h : mm_H) (Q : Option mm_V → mm_H → Prop) : Prop := ∃ (n : Nat) (r : Option mm_V × mm_H), mm_run n y (pc, ls, st, h) = some r ∧ Q r.1 r.2
def mm_go (y : Nat) (o : Option mm_O) (Q : Option mm_V → mm_H → Prop) : Prop := match o with
  | none => False
  | some (.inl f) => mm_X y f.1 f.2.1 f.2.2.1 f.2.2.2 Q
  | some (.inr (.inl r)) => Q r.1 r.2
  | some (.inr (.inr (m, as, pc, ls, rest, h))) => (mm_spread as).length ≤ mm_maxL m ∧ mm_X m 0 (mm_pad (mm_maxL m) (mm_spread as)) [] h (fun v h' => mm_X y pc ls (v.toList ++ rest) h' Q)
theorem mm_unf {y pc : Nat} {I : mm_I} (hI : mm_code y pc = some I) (ls st : List mm_V) (h : mm_H) (Q : Option mm_V → mm_H → Prop) : mm_X y pc ls st h Q = mm_go y (mm_step I pc ls st h) Q := by
  apply propext
  constructor
  · rintro ⟨n, r, hr, hq⟩
    cases n with
    | zero => simp [mm_run] at hr
    | succ n =>
      unfold mm_run at hr
      rw [hI] at hr
      dsimp only at hr
      cases hs : mm_step I pc ls st h with
      | none => rw [hs] at hr; cases hr
      | some o =>
        rw [hs] at hr
        rcases o with f' | r' | ⟨m, as, pc, ls, rest, h0⟩
        · exact ⟨n, r, hr, hq⟩
        · simp only [Option.some.injEq] at hr
          subst hr
          exact hq
        · dsimp only at hr
          by_cases hl : (mm_spread as).length ≤ mm_maxL m
          · rw [if_pos hl] at hr
            cases hc : mm_run n m (0, mm_pad (mm_maxL m) (mm_spread as), [], h0) with
            | none => rw [hc] at hr; cases hr
            | some q =>
              rw [hc] at hr
              exact ⟨hl, n, q, hc, n, r, hr, hq⟩
          · rw [if_neg hl] at hr; cases hr
  · intro hg
    cases hs : mm_step I pc ls st h with
    | none => rw [hs] at hg; exact hg.elim
    | some o =>
      rw [hs] at hg
      rcases o with f' | r' | ⟨m, as, pc', ls', rest, h0⟩
      · obtain ⟨n, r, hr, hq⟩ := hg
        exact ⟨n + 1, r, by unfold mm_run; rw [hI]; dsimp only; rw [hs]; exact hr, hq⟩
      · exact ⟨1, r', by unfold mm_run; rw [hI]; dsimp only; rw [hs], hg⟩
      · obtain ⟨hl, n, q, hc, n2, r, hr, hq⟩ := hg
        refine ⟨max n n2 + 1, r, ?_, hq⟩
        unfold mm_run
        rw [hI]
        dsimp only
        rw [hs]
        dsimp only
        rw [if_pos hl]
        rw [mm_mono _ _ _ _ _ hc (Nat.le_max_left n n2)]
        exact mm_mono _ _ _ _ _ hr (Nat.le_max_right n n2)
theorem mm_X.mono {y pc : Nat} {ls st : List mm_V} {h : mm_H} {Q Q' : Option mm_V → mm_H → Prop} (k : ∀ v h', Q v h' → Q' v h') (hx : mm_X y pc ls st h Q) : mm_X y pc ls st h Q' := by
  obtain ⟨n, r, hr, hq⟩ := hx
  exact ⟨n, r, hr, k _ _ hq⟩
-- the next cell's number, and the slots so far
def mm_nx (h : mm_H) : Nat := match h 0 with
  | .inl (_, n, _) => n
  | .inr _ => 0
def mm_sl (h : mm_H) : Nat := match h 0 with
  | .inl (t, _, _) => t
  | .inr _ => 0
/-- cell 0 is what it must be -/
def mm_c0 (h : mm_H) : Prop := ∃ t n f, h 0 = .inl (t, n, f) ∧ 100 ≤ t ∧ 2 ≤ n
