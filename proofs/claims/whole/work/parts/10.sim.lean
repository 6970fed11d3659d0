def mm_Cx (p : Program) (s : State) (m : MethodId) (args : Array Value) (meth : Method) (c : Code) (y : Nat) (D : va_G) (cA : Nat → ClassId) (b L : Nat) (xs : Nat → Int32) (A : Nat → Prop) (R : Room) : Prop :=
  p.tables.exec = Jvm.exec ∧ c.code = mm_bytes y ∧ c.maxLocals = mm_maxL y ∧ s.vm.findClass (mm_cls y) = some m.cls ∧ (∀ w ∈ mm_tbl, w.before args s = true) ∧ meth.sig.returnType = mm_ret y ∧ meth.locks = false ∧ (mm_kind y = 2 → meth.name = "<init>") ∧ va_K D vwCl (mm_tys cA) s ∧ va_X b L xs s s.heap ∧ b < s.heap.size ∧ ¬ A b ∧ (∀ q, s.heap.size ≤ q → A q) ∧ mm_dep y ≤ R.frames ∧ 39 * mm_dep y ≤ R.locals
def mm_At (s : State) (y : Nat) (D : va_G) (cA : Nat → ClassId) (b L : Nat) (xs : Nat → Int32) (A : Nat → Prop) (mls mst : List mm_V) (h : mm_H) (H : Heap) (locs : List Loc) (ls : Array Slot) (st : List Value) (as : List Nat) (ws : va_W) : Prop :=
  mm_RL b as mls ls (mm_maxL y) ∧ mm_RS b as mst st ∧ mm_RH cA b L xs as ws h ∧ va_P D vwCl ws H ∧ va_D A ws ∧ va_S A s.heap H locs
theorem mm_pl_in {I : mm_I} {k : Nat} {w : Jvm.Cond} (h : mm_pl I k = some w) : w ∈ mm_tbl := List.mem_of_getElem? h
theorem mm_lcmp_eq (x y : Int64) : (lg_cmp x y).toInt = if x.toInt < y.toInt then -1 else if x.toInt = y.toInt then 0 else 1 := by
  unfold lg_cmp
  simp only [gt_iff_lt, Int64.lt_iff_toInt_lt, ← Int64.toInt_inj]
  split
  · next h => rw [if_neg (by omega), if_neg (by omega)]; rfl
  · next h =>
    split
    · next h2 => rw [if_neg (by omega)]; first | rfl | (rw [if_pos h2]; rfl)
    · next h2 => rw [if_pos (by omega)]; rfl
theorem mm_upd {g : Nat → Int32} {f : Nat → Int} (hg : ∀ j, (g j).toInt = f j) (k : Nat) {x : Int32} {z : Int} (hx : x.toInt = z) : ∀ j, (upd g k x j).toInt = mm_st f k z j := by
  intro j
  simp only [upd, mm_st]
  split
  · exact hx
  · exact hg j
theorem mm_in {i : Int32} {n : Nat} {z : Int} (hz : i.toInt = z) (h0 : 0 ≤ z) (h1 : z < n) : vp_in i n := by
  subst hz
  unfold vp_in
  rintro (h | h)
  · rw [Int32.lt_iff_toInt_lt] at h
    simp at h
    omega
  · have : i.toNatClampNeg = i.toInt.toNat := rfl
    omega
section SIM
variable {p : Program} {l : Launch} {e : Env} {R : Room} {s : State} {m : MethodId} {args : Array Value} {below : List Frame} {meth : Method} {c : Code} {H : Heap} {locs : List Loc} {cells slots : Nat} {Q : State → Prop}
variable {y pc : Nat} {D : va_G} {cA : Nat → ClassId} {b L : Nat} {xs : Nat → Int32} {A : Nat → Prop} {as : List Nat} {ws : va_W} {mls mst : List mm_V} {h : mm_H} {ls : Array Slot} {st : List Value}
set_option maxHeartbeats 4000000 in
set_option maxRecDepth 100000 in
theorem mm_sim1 (C : mm_Cx p s m args meth c y D cA b L xs A R) {I : mm_I} (hok : mm_okI y pc I = true) (hat : mm_At s y D cA b L xs A mls mst h H locs ls st as ws) {f : mm_F} (hstep : mm_step I pc mls mst h = some (.inl f))
    (hcc : cells + (mm_nx f.2.2.2 - mm_nx h) ≤ R.cells) (hss : slots + (mm_sl f.2.2.2 - mm_sl h) ≤ R.slots)
    (k : ∀ (H' : Heap) (locs' : List Loc) (ls' : Array Slot) (st' : List Value) (as2 : List Nat) (ws' : va_W), mm_At s y D cA b L xs A f.2.1 f.2.2.1 f.2.2.2 H' locs' ls' st' (as ++ as2) ws' → W p l e R s m args below meth c H' locs' (cells + (mm_nx f.2.2.2 - mm_nx h)) (slots + (mm_sl f.2.2.2 - mm_sl h)) Q (F0 m f.1 ls' st')) :
    W p l e R s m args below meth c H locs cells slots Q (F0 m pc ls st) := by
  obtain ⟨hx, hb, hml, hown, hts, hr, hlk, hin, hK, hX, hbl, hbA, hA, hfr, hlo⟩ := C
  obtain ⟨hRL, hRS, hRH, hP, hD, hS⟩ := hat
  obtain ⟨ins, len, cst, xx, kk, pls⟩ := I
  have k0 : f.2.2.2 = h → ∀ (ls' : Array Slot) (st' : List Value), mm_RL b as f.2.1 ls' (mm_maxL y) → mm_RS b as f.2.2.1 st' → W p l e R s m args below meth c H locs cells slots Q (F0 m f.1 ls' st') := by
    intro hf ls' st' h1 h2
    have := k H locs ls' st' [] ws (by rw [List.append_nil, hf]; exact ⟨h1, h2, hRH, hP, hD, hS⟩)
    rw [hf] at this
    simpa only [Nat.sub_self, Nat.add_zero] using this
  cases ins with
  | iconst n =>
    simp only [mm_okI, mm_okD, Bool.and_eq_true, decide_eq_true_eq] at hok
    obtain ⟨hd, h1, h2⟩ := hok
    subst h1
    simp only [mm_step, mm_push, Option.some.injEq, Sum.inl.injEq] at hstep
    subst hstep
    exact lv_iconst hx hb hd rfl (k0 rfl _ _ hRL ⟨_, _, rfl, ⟨_, rfl, h2⟩, hRS⟩)
  | bipush n =>
    simp only [mm_okI, mm_okD, Bool.and_eq_true, decide_eq_true_eq] at hok
    obtain ⟨hd, h1, h2⟩ := hok
    subst h1
    simp only [mm_step, mm_push, Option.some.injEq, Sum.inl.injEq] at hstep
    subst hstep
    exact lv_bipush hx hb hd rfl (k0 rfl _ _ hRL ⟨_, _, rfl, ⟨_, rfl, h2⟩, hRS⟩)
  | sipush n =>
    simp only [mm_okI, mm_okD, Bool.and_eq_true, decide_eq_true_eq] at hok
    obtain ⟨hd, h1, h2⟩ := hok
    subst h1
    simp only [mm_step, mm_push, Option.some.injEq, Sum.inl.injEq] at hstep
    subst hstep
    exact lv_sipush hx hb hd rfl (k0 rfl _ _ hRL ⟨_, _, rfl, ⟨_, rfl, h2⟩, hRS⟩)
  | lconst n =>
    simp only [mm_okI, mm_okD, Bool.and_eq_true, decide_eq_true_eq] at hok
    obtain ⟨hd, h1, h2⟩ := hok
    subst h1
    simp only [mm_step, mm_push, Option.some.injEq, Sum.inl.injEq] at hstep
    subst hstep
    exact lv_lconst hx hb hd rfl (k0 rfl _ _ hRL ⟨_, _, rfl, ⟨_, rfl, h2⟩, hRS⟩)
  | ldc n =>
    simp only [mm_okI, mm_okD, Bool.and_eq_true, decide_eq_true_eq] at hok
    obtain ⟨hd, h1, h3, h2⟩ := hok
    subst h1
    simp only [mm_step, mm_push, Option.some.injEq, Sum.inl.injEq] at hstep
    subst hstep
    exact lv_ldc hx hb hown (hts _ (mm_pl_in h3)) hd (k0 rfl _ _ hRL ⟨_, _, rfl, ⟨_, rfl, h2⟩, hRS⟩)
  | ldc_w n =>
    simp only [mm_okI, mm_okD, Bool.and_eq_true, decide_eq_true_eq] at hok
    obtain ⟨hd, h1, h3, h2⟩ := hok
    subst h1
    simp only [mm_step, mm_push, Option.some.injEq, Sum.inl.injEq] at hstep
    subst hstep
    exact lv_ldcw hx hb hown (hts _ (mm_pl_in h3)) hd (k0 rfl _ _ hRL ⟨_, _, rfl, ⟨_, rfl, h2⟩, hRS⟩)
  | ldc2_w n =>
    simp only [mm_okI, mm_okD, Bool.and_eq_true, decide_eq_true_eq] at hok
    obtain ⟨hd, h1, h3, h2⟩ := hok
    subst h1
    simp only [mm_step, mm_push, Option.some.injEq, Sum.inl.injEq] at hstep
    subst hstep
    exact lv_ldc2 hx hb hown (hts _ (mm_pl_in h3)) hd (k0 rfl _ _ hRL ⟨_, _, rfl, ⟨_, rfl, h2⟩, hRS⟩)
  | iload i =>
    simp only [mm_okI, mm_okD, Bool.and_eq_true, decide_eq_true_eq] at hok
    obtain ⟨hd, h1⟩ := hok
    subst h1
    simp only [mm_step, mm_iload] at hstep
    split at hstep
    · next z hg =>
      simp only [Option.some.injEq, Sum.inl.injEq] at hstep
      subst hstep
      obtain ⟨w, hw1, hw2⟩ := hRL.at hg (by intro q; cases q)
      obtain ⟨x, hq, hz⟩ := hw2
      subst hq
      exact lv_iload hx hb hd hw1 (k0 rfl _ _ hRL ⟨_, _, rfl, ⟨x, rfl, hz⟩, hRS⟩)
    · cases hstep
  | iload_n i =>
    simp only [mm_okI, mm_okD, Bool.and_eq_true, decide_eq_true_eq] at hok
    obtain ⟨hd, h1⟩ := hok
    subst h1
    simp only [mm_step, mm_iload] at hstep
    split at hstep
    · next z hg =>
      simp only [Option.some.injEq, Sum.inl.injEq] at hstep
      subst hstep
      obtain ⟨w, hw1, hw2⟩ := hRL.at hg (by intro q; cases q)
      obtain ⟨x, hq, hz⟩ := hw2
      subst hq
      exact lv_iload_n hx hb hd rfl hw1 (k0 rfl _ _ hRL ⟨_, _, rfl, ⟨x, rfl, hz⟩, hRS⟩)
    · cases hstep
  | lload i =>
    simp only [mm_okI, mm_okD, Bool.and_eq_true, decide_eq_true_eq] at hok
    obtain ⟨hd, h1⟩ := hok
    subst h1
    simp only [mm_step, mm_lload] at hstep
    split at hstep
    · next z hg =>
      simp only [Option.some.injEq, Sum.inl.injEq] at hstep
      subst hstep
      obtain ⟨w, hw1, hw2⟩ := hRL.at hg (by intro q; cases q)
      obtain ⟨x, hq, hz⟩ := hw2
      subst hq
      exact lv_lload hx hb hd hw1 (k0 rfl _ _ hRL ⟨_, _, rfl, ⟨x, rfl, hz⟩, hRS⟩)
    · cases hstep
  | lload_n i =>
    simp only [mm_okI, mm_okD, Bool.and_eq_true, decide_eq_true_eq] at hok
    obtain ⟨hd, h1⟩ := hok
    subst h1
    simp only [mm_step, mm_lload] at hstep
    split at hstep
    · next z hg =>
      simp only [Option.some.injEq, Sum.inl.injEq] at hstep
      subst hstep
      obtain ⟨w, hw1, hw2⟩ := hRL.at hg (by intro q; cases q)
      obtain ⟨x, hq, hz⟩ := hw2
      subst hq
      exact lv_lload_n hx hb hd rfl hw1 (k0 rfl _ _ hRL ⟨_, _, rfl, ⟨x, rfl, hz⟩, hRS⟩)
    · cases hstep
  | aload i =>
    simp only [mm_okI, mm_okD, Bool.and_eq_true, decide_eq_true_eq] at hok
    obtain ⟨hd, h1⟩ := hok
    subst h1
    simp only [mm_step, mm_aload] at hstep
    split at hstep
    · next a hg =>
      simp only [Option.some.injEq, Sum.inl.injEq] at hstep
      subst hstep
      obtain ⟨w, hw1, hw2⟩ := hRL.at hg (by intro q; cases q)
      obtain ⟨q, hq⟩ : ∃ q, w = .ref q := by
        match a, hw2 with
        | 1, hw2 => exact ⟨_, hw2⟩
        | j + 2, ⟨q, _, hw2⟩ => exact ⟨q, hw2⟩
      subst hq
      exact lv_aload hx hb hd hw1 (k0 rfl _ _ hRL ⟨_, _, rfl, hw2, hRS⟩)
    · cases hstep
  | aload_n i =>
    simp only [mm_okI, mm_okD, Bool.and_eq_true, decide_eq_true_eq] at hok
    obtain ⟨hd, h1⟩ := hok
    subst h1
    simp only [mm_step, mm_aload] at hstep
    split at hstep
    · next a hg =>
      simp only [Option.some.injEq, Sum.inl.injEq] at hstep
      subst hstep
      obtain ⟨w, hw1, hw2⟩ := hRL.at hg (by intro q; cases q)
      obtain ⟨q, hq⟩ : ∃ q, w = .ref q := by
        match a, hw2 with
        | 1, hw2 => exact ⟨_, hw2⟩
        | j + 2, ⟨q, _, hw2⟩ => exact ⟨q, hw2⟩
      subst hq
      exact lv_aload_n hx hb hd rfl hw1 (k0 rfl _ _ hRL ⟨_, _, rfl, hw2, hRS⟩)
    · cases hstep
  | istore i =>
    simp only [mm_okI, mm_okD, Bool.and_eq_true, decide_eq_true_eq] at hok
    obtain ⟨hd, h1, h2⟩ := hok
    subst h1
    simp only [mm_step, mm_istore] at hstep
    split at hstep
    · next z r =>
      split at hstep
      · next hfree =>
        simp only [Option.some.injEq, Sum.inl.injEq] at hstep
        subst hstep
        obtain ⟨w, s2, hst, hw, hRS⟩ := hRS
        subst hst
        obtain ⟨x, hq, hz⟩ := hw
        subst hq
        exact lv_istore hx hb hd (mm_full_has hRL.1 hRL.2.1) h2 rfl (fun ls' h' => k0 rfl _ _ (hRL.store1 hfree ⟨x, rfl, hz⟩ (fun _ q => q) h') hRS)
      · cases hstep
    · cases hstep
  | istore_n i =>
    simp only [mm_okI, mm_okD, Bool.and_eq_true, decide_eq_true_eq] at hok
    obtain ⟨hd, h1, h2⟩ := hok
    subst h1
    simp only [mm_step, mm_istore] at hstep
    split at hstep
    · next z r =>
      split at hstep
      · next hfree =>
        simp only [Option.some.injEq, Sum.inl.injEq] at hstep
        subst hstep
        obtain ⟨w, s2, hst, hw, hRS⟩ := hRS
        subst hst
        obtain ⟨x, hq, hz⟩ := hw
        subst hq
        exact lv_istore_n hx hb hd rfl (mm_full_has hRL.1 hRL.2.1) h2 rfl (fun ls' h' => k0 rfl _ _ (hRL.store1 hfree ⟨x, rfl, hz⟩ (fun _ q => q) h') hRS)
      · cases hstep
    · cases hstep
  | lstore i =>
    simp only [mm_okI, mm_okD, Bool.and_eq_true, decide_eq_true_eq] at hok
    obtain ⟨hd, h1, h2⟩ := hok
    subst h1
    simp only [mm_step, mm_lstore] at hstep
    split at hstep
    · next z r =>
      split at hstep
      · next hfree =>
        simp only [Option.some.injEq, Sum.inl.injEq] at hstep
        subst hstep
        obtain ⟨w, s2, hst, hw, hRS⟩ := hRS
        subst hst
        obtain ⟨x, hq, hz⟩ := hw
        subst hq
        exact lv_lstore hx hb hd (mm_full_has hRL.1 hRL.2.1) h2 rfl (fun ls' h' => k0 rfl _ _ (hRL.store2 hfree ⟨x, rfl, hz⟩ (fun _ q => q) h') hRS)
      · cases hstep
    · cases hstep
  | lstore_n i =>
    simp only [mm_okI, mm_okD, Bool.and_eq_true, decide_eq_true_eq] at hok
    obtain ⟨hd, h1, h2⟩ := hok
    subst h1
    simp only [mm_step, mm_lstore] at hstep
    split at hstep
    · next z r =>
      split at hstep
      · next hfree =>
        simp only [Option.some.injEq, Sum.inl.injEq] at hstep
        subst hstep
        obtain ⟨w, s2, hst, hw, hRS⟩ := hRS
        subst hst
        obtain ⟨x, hq, hz⟩ := hw
        subst hq
        exact lv_lstore_n hx hb hd rfl (mm_full_has hRL.1 hRL.2.1) h2 rfl (fun ls' h' => k0 rfl _ _ (hRL.store2 hfree ⟨x, rfl, hz⟩ (fun _ q => q) h') hRS)
      · cases hstep
    · cases hstep
  | astore i =>
    simp only [mm_okI, mm_okD, Bool.and_eq_true, decide_eq_true_eq] at hok
    obtain ⟨hd, h1, h2⟩ := hok
    subst h1
    simp only [mm_step, mm_astore] at hstep
    split at hstep
    · next z r =>
      split at hstep
      · next hfree =>
        simp only [Option.some.injEq, Sum.inl.injEq] at hstep
        subst hstep
        obtain ⟨w, s2, hst, hw, hRS⟩ := hRS
        subst hst
        obtain ⟨q, hq⟩ : ∃ q, w = .ref q := by
          match z, hw with
          | 1, hw2 => exact ⟨_, hw2⟩
          | j + 2, ⟨q, _, hw2⟩ => exact ⟨q, hw2⟩
        subst hq
        exact lv_astore hx hb hd (mm_full_has hRL.1 hRL.2.1) h2 rfl (fun ls' h' => k0 rfl _ _ (hRL.store1 hfree hw (fun _ q => q) h') hRS)
      · cases hstep
    · cases hstep
  | astore_n i =>
    simp only [mm_okI, mm_okD, Bool.and_eq_true, decide_eq_true_eq] at hok
    obtain ⟨hd, h1, h2⟩ := hok
    subst h1
    simp only [mm_step, mm_astore] at hstep
    split at hstep
    · next z r =>
      split at hstep
      · next hfree =>
        simp only [Option.some.injEq, Sum.inl.injEq] at hstep
        subst hstep
        obtain ⟨w, s2, hst, hw, hRS⟩ := hRS
        subst hst
        obtain ⟨q, hq⟩ : ∃ q, w = .ref q := by
          match z, hw with
          | 1, hw2 => exact ⟨_, hw2⟩
          | j + 2, ⟨q, _, hw2⟩ => exact ⟨q, hw2⟩
        subst hq
        exact lv_astore_n hx hb hd rfl (mm_full_has hRL.1 hRL.2.1) h2 rfl (fun ls' h' => k0 rfl _ _ (hRL.store1 hfree hw (fun _ q => q) h') hRS)
      · cases hstep
    · cases hstep
  | iinc i n =>
    simp only [mm_okI, mm_okD, Bool.and_eq_true, decide_eq_true_eq] at hok
    obtain ⟨hd, h1, h2, h3⟩ := hok
    subst h1
    simp only [mm_step, mm_iinc] at hstep
    split at hstep
    · next z hg =>
      split at hstep
      · next hfree =>
        simp only [Option.some.injEq, Sum.inl.injEq] at hstep
        subst hstep
        obtain ⟨w, hw1, hw2⟩ := hRL.at hg (by intro q; cases q)
        obtain ⟨x, hq, hz⟩ := hw2
        subst hq
        have hf := mm_full_has hRL.1 hRL.2.1
        have hl2 : lv_has ls (mm_maxL y) ((i, .int x) :: mm_full ls (mm_maxL y)) := ⟨hf.1, hf.2.1, fun q hq => by
          rcases List.mem_cons.mp hq with h9 | h9
          · rw [h9]; exact hw1
          · exact hf.2.2 q h9⟩
        exact lv_iinc hx hb hd hl2 (k := 0) rfl rfl h2 rfl (fun ls' h' => k0 rfl _ _ (hRL.store1 hfree ⟨_, rfl, by rw [mm_add32, hz, h3]⟩ (fun _ q => List.mem_cons_of_mem _ q) h') hRS)
      · cases hstep
    · cases hstep
  | iadd =>
    simp only [mm_okI, mm_okD, Bool.and_eq_true, decide_eq_true_eq] at hok
    obtain ⟨hd, h1⟩ := hok
    subst h1
    simp only [mm_step, mm_bin] at hstep
    split at hstep
    · next z2 z1 r =>
      simp only [Option.some.injEq, Sum.inl.injEq] at hstep
      subst hstep
      obtain ⟨w2, s2, hst, ⟨x2, hq2, hz2⟩, w1, s1, hst1, ⟨x1, hq1, hz1⟩, hRS⟩ := hRS
      subst hst
      subst hst1
      subst hq2
      subst hq1
      exact lv_iadd hx hb hd (k0 rfl _ _ hRL ⟨_, _, rfl, ⟨_, rfl, by rw [mm_add32, hz1, hz2]⟩, hRS⟩)
    · cases hstep
  | ladd =>
    simp only [mm_okI, mm_okD, Bool.and_eq_true, decide_eq_true_eq] at hok
    obtain ⟨hd, h1⟩ := hok
    subst h1
    simp only [mm_step, mm_lbin] at hstep
    split at hstep
    · next z2 z1 r =>
      simp only [Option.some.injEq, Sum.inl.injEq] at hstep
      subst hstep
      obtain ⟨w2, s2, hst, ⟨x2, hq2, hz2⟩, w1, s1, hst1, ⟨x1, hq1, hz1⟩, hRS⟩ := hRS
      subst hst
      subst hst1
      subst hq2
      subst hq1
      exact lv_ladd hx hb hd (k0 rfl _ _ hRL ⟨_, _, rfl, ⟨_, rfl, by rw [mm_add64, hz1, hz2]⟩, hRS⟩)
    · cases hstep
  | isub =>
    simp only [mm_okI, mm_okD, Bool.and_eq_true, decide_eq_true_eq] at hok
    obtain ⟨hd, h1⟩ := hok
    subst h1
    simp only [mm_step, mm_bin] at hstep
    split at hstep
    · next z2 z1 r =>
      simp only [Option.some.injEq, Sum.inl.injEq] at hstep
      subst hstep
      obtain ⟨w2, s2, hst, ⟨x2, hq2, hz2⟩, w1, s1, hst1, ⟨x1, hq1, hz1⟩, hRS⟩ := hRS
      subst hst
      subst hst1
      subst hq2
      subst hq1
      exact lv_isub hx hb hd (k0 rfl _ _ hRL ⟨_, _, rfl, ⟨_, rfl, by rw [mm_sub32, hz1, hz2]⟩, hRS⟩)
    · cases hstep
  | lsub =>
    simp only [mm_okI, mm_okD, Bool.and_eq_true, decide_eq_true_eq] at hok
    obtain ⟨hd, h1⟩ := hok
    subst h1
    simp only [mm_step, mm_lbin] at hstep
    split at hstep
    · next z2 z1 r =>
      simp only [Option.some.injEq, Sum.inl.injEq] at hstep
      subst hstep
      obtain ⟨w2, s2, hst, ⟨x2, hq2, hz2⟩, w1, s1, hst1, ⟨x1, hq1, hz1⟩, hRS⟩ := hRS
      subst hst
      subst hst1
      subst hq2
      subst hq1
      exact lv_lsub hx hb hd (k0 rfl _ _ hRL ⟨_, _, rfl, ⟨_, rfl, by rw [mm_sub64, hz1, hz2]⟩, hRS⟩)
    · cases hstep
  | imul =>
    simp only [mm_okI, mm_okD, Bool.and_eq_true, decide_eq_true_eq] at hok
    obtain ⟨hd, h1⟩ := hok
    subst h1
    simp only [mm_step, mm_bin] at hstep
    split at hstep
    · next z2 z1 r =>
      simp only [Option.some.injEq, Sum.inl.injEq] at hstep
      subst hstep
      obtain ⟨w2, s2, hst, ⟨x2, hq2, hz2⟩, w1, s1, hst1, ⟨x1, hq1, hz1⟩, hRS⟩ := hRS
      subst hst
      subst hst1
      subst hq2
      subst hq1
      exact lv_imul hx hb hd (k0 rfl _ _ hRL ⟨_, _, rfl, ⟨_, rfl, by rw [mm_mul32, hz1, hz2]⟩, hRS⟩)
    · cases hstep
  | lmul =>
    simp only [mm_okI, mm_okD, Bool.and_eq_true, decide_eq_true_eq] at hok
    obtain ⟨hd, h1⟩ := hok
    subst h1
    simp only [mm_step, mm_lbin] at hstep
    split at hstep
    · next z2 z1 r =>
      simp only [Option.some.injEq, Sum.inl.injEq] at hstep
      subst hstep
      obtain ⟨w2, s2, hst, ⟨x2, hq2, hz2⟩, w1, s1, hst1, ⟨x1, hq1, hz1⟩, hRS⟩ := hRS
      subst hst
      subst hst1
      subst hq2
      subst hq1
      exact lv_lmul hx hb hd (k0 rfl _ _ hRL ⟨_, _, rfl, ⟨_, rfl, by rw [mm_mul64, hz1, hz2]⟩, hRS⟩)
    · cases hstep
  | iand =>
    simp only [mm_okI, mm_okD, Bool.and_eq_true, decide_eq_true_eq] at hok
    obtain ⟨hd, h1⟩ := hok
    subst h1
    simp only [mm_step, mm_bin, mm_s32] at hstep
    split at hstep
    · next z2 z1 r =>
      simp only [Option.some.injEq, Sum.inl.injEq] at hstep
      subst hstep
      obtain ⟨w2, s2, hst, ⟨x2, hq2, hz2⟩, w1, s1, hst1, ⟨x1, hq1, hz1⟩, hRS⟩ := hRS
      subst hst
      subst hst1
      subst hq2
      subst hq1
      exact lv_iand hx hb hd (k0 rfl _ _ hRL ⟨_, _, rfl, ⟨_, rfl, by rw [← hz1, ← hz2, Int32.ofInt_toInt, Int32.ofInt_toInt]⟩, hRS⟩)
    · cases hstep
  | land =>
    simp only [mm_okI, mm_okD, Bool.and_eq_true, decide_eq_true_eq] at hok
    obtain ⟨hd, h1⟩ := hok
    subst h1
    simp only [mm_step, mm_lbin, mm_s64] at hstep
    split at hstep
    · next z2 z1 r =>
      simp only [Option.some.injEq, Sum.inl.injEq] at hstep
      subst hstep
      obtain ⟨w2, s2, hst, ⟨x2, hq2, hz2⟩, w1, s1, hst1, ⟨x1, hq1, hz1⟩, hRS⟩ := hRS
      subst hst
      subst hst1
      subst hq2
      subst hq1
      exact lv_land hx hb hd (k0 rfl _ _ hRL ⟨_, _, rfl, ⟨_, rfl, by rw [← hz1, ← hz2, Int64.ofInt_toInt, Int64.ofInt_toInt]⟩, hRS⟩)
    · cases hstep
  | ior =>
    simp only [mm_okI, mm_okD, Bool.and_eq_true, decide_eq_true_eq] at hok
    obtain ⟨hd, h1⟩ := hok
    subst h1
    simp only [mm_step, mm_bin, mm_s32] at hstep
    split at hstep
    · next z2 z1 r =>
      simp only [Option.some.injEq, Sum.inl.injEq] at hstep
      subst hstep
      obtain ⟨w2, s2, hst, ⟨x2, hq2, hz2⟩, w1, s1, hst1, ⟨x1, hq1, hz1⟩, hRS⟩ := hRS
      subst hst
      subst hst1
      subst hq2
      subst hq1
      exact lv_ior hx hb hd (k0 rfl _ _ hRL ⟨_, _, rfl, ⟨_, rfl, by rw [← hz1, ← hz2, Int32.ofInt_toInt, Int32.ofInt_toInt]⟩, hRS⟩)
    · cases hstep
  | lor =>
    simp only [mm_okI, mm_okD, Bool.and_eq_true, decide_eq_true_eq] at hok
    obtain ⟨hd, h1⟩ := hok
    subst h1
    simp only [mm_step, mm_lbin, mm_s64] at hstep
    split at hstep
    · next z2 z1 r =>
      simp only [Option.some.injEq, Sum.inl.injEq] at hstep
      subst hstep
      obtain ⟨w2, s2, hst, ⟨x2, hq2, hz2⟩, w1, s1, hst1, ⟨x1, hq1, hz1⟩, hRS⟩ := hRS
      subst hst
      subst hst1
      subst hq2
      subst hq1
      exact lv_lor hx hb hd (k0 rfl _ _ hRL ⟨_, _, rfl, ⟨_, rfl, by rw [← hz1, ← hz2, Int64.ofInt_toInt, Int64.ofInt_toInt]⟩, hRS⟩)
    · cases hstep
  | ishl =>
    simp only [mm_okI, mm_okD, Bool.and_eq_true, decide_eq_true_eq] at hok
    obtain ⟨hd, h1⟩ := hok
    subst h1
    simp only [mm_step, mm_bin, mm_s32] at hstep
    split at hstep
    · next z2 z1 r =>
      simp only [Option.some.injEq, Sum.inl.injEq] at hstep
      subst hstep
      obtain ⟨w2, s2, hst, ⟨x2, hq2, hz2⟩, w1, s1, hst1, ⟨x1, hq1, hz1⟩, hRS⟩ := hRS
      subst hst
      subst hst1
      subst hq2
      subst hq1
      exact lv_ishl hx hb hd (k0 rfl _ _ hRL ⟨_, _, rfl, ⟨_, rfl, by rw [← hz1, ← hz2, Int32.ofInt_toInt, Int32.ofInt_toInt]⟩, hRS⟩)
    · cases hstep
  | lshl =>
    simp only [mm_okI, mm_okD, Bool.and_eq_true, decide_eq_true_eq] at hok
    obtain ⟨hd, h1⟩ := hok
    subst h1
    simp only [mm_step, mm_lsh, mm_lshl1] at hstep
    split at hstep
    · next z2 z1 r =>
      simp only [Option.some.injEq, Sum.inl.injEq] at hstep
      subst hstep
      obtain ⟨w2, s2, hst, ⟨x2, hq2, hz2⟩, w1, s1, hst1, ⟨x1, hq1, hz1⟩, hRS⟩ := hRS
      subst hst
      subst hst1
      subst hq2
      subst hq1
      exact (fun a b d q => lv_lshl a b d rfl q) hx hb hd (k0 rfl _ _ hRL ⟨_, _, rfl, ⟨_, rfl, by rw [← hz1, ← hz2, Int32.ofInt_toInt, Int64.ofInt_toInt]⟩, hRS⟩)
    · cases hstep
  | ishr =>
    simp only [mm_okI, mm_okD, Bool.and_eq_true, decide_eq_true_eq] at hok
    obtain ⟨hd, h1⟩ := hok
    subst h1
    simp only [mm_step, mm_bin, mm_s32] at hstep
    split at hstep
    · next z2 z1 r =>
      simp only [Option.some.injEq, Sum.inl.injEq] at hstep
      subst hstep
      obtain ⟨w2, s2, hst, ⟨x2, hq2, hz2⟩, w1, s1, hst1, ⟨x1, hq1, hz1⟩, hRS⟩ := hRS
      subst hst
      subst hst1
      subst hq2
      subst hq1
      exact lv_ishr hx hb hd (k0 rfl _ _ hRL ⟨_, _, rfl, ⟨_, rfl, by rw [← hz1, ← hz2, Int32.ofInt_toInt, Int32.ofInt_toInt]⟩, hRS⟩)
    · cases hstep
  | lshr =>
    simp only [mm_okI, mm_okD, Bool.and_eq_true, decide_eq_true_eq] at hok
    obtain ⟨hd, h1⟩ := hok
    subst h1
    simp only [mm_step, mm_lsh, mm_lshr1] at hstep
    split at hstep
    · next z2 z1 r =>
      simp only [Option.some.injEq, Sum.inl.injEq] at hstep
      subst hstep
      obtain ⟨w2, s2, hst, ⟨x2, hq2, hz2⟩, w1, s1, hst1, ⟨x1, hq1, hz1⟩, hRS⟩ := hRS
      subst hst
      subst hst1
      subst hq2
      subst hq1
      exact (fun a b d q => lv_lshr a b d rfl q) hx hb hd (k0 rfl _ _ hRL ⟨_, _, rfl, ⟨_, rfl, by rw [← hz1, ← hz2, Int32.ofInt_toInt, Int64.ofInt_toInt]⟩, hRS⟩)
    · cases hstep
  | lushr =>
    simp only [mm_okI, mm_okD, Bool.and_eq_true, decide_eq_true_eq] at hok
    obtain ⟨hd, h1⟩ := hok
    subst h1
    simp only [mm_step, mm_lsh, mm_lushr1] at hstep
    split at hstep
    · next z2 z1 r =>
      simp only [Option.some.injEq, Sum.inl.injEq] at hstep
      subst hstep
      obtain ⟨w2, s2, hst, ⟨x2, hq2, hz2⟩, w1, s1, hst1, ⟨x1, hq1, hz1⟩, hRS⟩ := hRS
      subst hst
      subst hst1
      subst hq2
      subst hq1
      exact (fun a b d q => lv_lushr a b d rfl q) hx hb hd (k0 rfl _ _ hRL ⟨_, _, rfl, ⟨_, rfl, by rw [← hz1, ← hz2, Int32.ofInt_toInt, Int64.ofInt_toInt]⟩, hRS⟩)
    · cases hstep
  | idiv =>
    simp only [mm_okI, mm_okD, Bool.and_eq_true, decide_eq_true_eq] at hok
    obtain ⟨hd, h1⟩ := hok
    subst h1
    simp only [mm_step, mm_binz] at hstep
    split at hstep
    · next z2 z1 r =>
      split at hstep
      · cases hstep
      next hne =>
      simp only [Option.some.injEq, Sum.inl.injEq] at hstep
      subst hstep
      obtain ⟨w2, s2, hst, ⟨x2, hq2, hz2⟩, w1, s1, hst1, ⟨x1, hq1, hz1⟩, hRS⟩ := hRS
      subst hst
      subst hst1
      subst hq2
      subst hq1
      exact lv_idiv hx hb hd (fun q => hne (by rw [← hz2, q]; rfl)) (k0 rfl _ _ hRL ⟨_, _, rfl, ⟨_, rfl, by rw [mm_div32, hz1, hz2]⟩, hRS⟩)
    · cases hstep
  | irem =>
    simp only [mm_okI, mm_okD, Bool.and_eq_true, decide_eq_true_eq] at hok
    obtain ⟨hd, h1⟩ := hok
    subst h1
    simp only [mm_step, mm_binz] at hstep
    split at hstep
    · next z2 z1 r =>
      split at hstep
      · cases hstep
      next hne =>
      simp only [Option.some.injEq, Sum.inl.injEq] at hstep
      subst hstep
      obtain ⟨w2, s2, hst, ⟨x2, hq2, hz2⟩, w1, s1, hst1, ⟨x1, hq1, hz1⟩, hRS⟩ := hRS
      subst hst
      subst hst1
      subst hq2
      subst hq1
      exact lv_irem hx hb hd (fun q => hne (by rw [← hz2, q]; rfl)) (k0 rfl _ _ hRL ⟨_, _, rfl, ⟨_, rfl, by rw [mm_rem32, hz1, hz2]⟩, hRS⟩)
    · cases hstep
  | ldiv =>
    simp only [mm_okI, mm_okD, Bool.and_eq_true, decide_eq_true_eq] at hok
    obtain ⟨hd, h1⟩ := hok
    subst h1
    simp only [mm_step, mm_lbinz] at hstep
    split at hstep
    · next z2 z1 r =>
      split at hstep
      · cases hstep
      next hne =>
      simp only [Option.some.injEq, Sum.inl.injEq] at hstep
      subst hstep
      obtain ⟨w2, s2, hst, ⟨x2, hq2, hz2⟩, w1, s1, hst1, ⟨x1, hq1, hz1⟩, hRS⟩ := hRS
      subst hst
      subst hst1
      subst hq2
      subst hq1
      exact lv_ldiv hx hb hd (fun q => hne (by rw [← hz2, q]; rfl)) (k0 rfl _ _ hRL ⟨_, _, rfl, ⟨_, rfl, by rw [mm_div64, hz1, hz2]⟩, hRS⟩)
    · cases hstep
  | lrem =>
    simp only [mm_okI, mm_okD, Bool.and_eq_true, decide_eq_true_eq] at hok
    obtain ⟨hd, h1⟩ := hok
    subst h1
    simp only [mm_step, mm_lbinz] at hstep
    split at hstep
    · next z2 z1 r =>
      split at hstep
      · cases hstep
      next hne =>
      simp only [Option.some.injEq, Sum.inl.injEq] at hstep
      subst hstep
      obtain ⟨w2, s2, hst, ⟨x2, hq2, hz2⟩, w1, s1, hst1, ⟨x1, hq1, hz1⟩, hRS⟩ := hRS
      subst hst
      subst hst1
      subst hq2
      subst hq1
      exact lv_lrem hx hb hd (fun q => hne (by rw [← hz2, q]; rfl)) (k0 rfl _ _ hRL ⟨_, _, rfl, ⟨_, rfl, by rw [mm_rem64, hz1, hz2]⟩, hRS⟩)
    · cases hstep
  | lcmp =>
    simp only [mm_okI, mm_okD, Bool.and_eq_true, decide_eq_true_eq] at hok
    obtain ⟨hd, h1⟩ := hok
    subst h1
    simp only [mm_step, mm_lcmp] at hstep
    split at hstep
    · next z2 z1 r =>
      simp only [Option.some.injEq, Sum.inl.injEq] at hstep
      subst hstep
      obtain ⟨w2, s2, hst, ⟨x2, hq2, hz2⟩, w1, s1, hst1, ⟨x1, hq1, hz1⟩, hRS⟩ := hRS
      subst hst
      subst hst1
      subst hq2
      subst hq1
      exact W.lcmp hx hb hd (k0 rfl _ _ hRL ⟨_, _, rfl, ⟨_, rfl, by rw [mm_lcmp_eq, hz1, hz2]⟩, hRS⟩)
    · cases hstep
  | i2l =>
    simp only [mm_okI, mm_okD, Bool.and_eq_true, decide_eq_true_eq] at hok
    obtain ⟨hd, h1⟩ := hok
    subst h1
    simp only [mm_step, mm_i2l] at hstep
    split at hstep
    · next z1 r =>
      simp only [Option.some.injEq, Sum.inl.injEq] at hstep
      subst hstep
      obtain ⟨w1, s1, hst1, ⟨x1, hq1, hz1⟩, hRS⟩ := hRS
      subst hst1
      subst hq1
      exact lv_i2l hx hb hd rfl (k0 rfl _ _ hRL ⟨_, _, rfl, ⟨_, rfl, by rw [Int32.toInt_toInt64, hz1]⟩, hRS⟩)
    · cases hstep
  | l2i =>
    simp only [mm_okI, mm_okD, Bool.and_eq_true, decide_eq_true_eq] at hok
    obtain ⟨hd, h1⟩ := hok
    subst h1
    simp only [mm_step, mm_l2i] at hstep
    split at hstep
    · next z1 r =>
      simp only [Option.some.injEq, Sum.inl.injEq] at hstep
      subst hstep
      obtain ⟨w1, s1, hst1, ⟨x1, hq1, hz1⟩, hRS⟩ := hRS
      subst hst1
      subst hq1
      exact lv_l2i hx hb hd rfl (k0 rfl _ _ hRL ⟨_, _, rfl, ⟨_, rfl, by rw [Int64.toInt_toInt32, mm_b32, hz1]⟩, hRS⟩)
    · cases hstep
  | i2b =>
    simp only [mm_okI, mm_okD, Bool.and_eq_true, decide_eq_true_eq] at hok
    obtain ⟨hd, h1⟩ := hok
    subst h1
    simp only [mm_step, mm_un] at hstep
    split at hstep
    · next z1 r =>
      simp only [Option.some.injEq, Sum.inl.injEq] at hstep
      subst hstep
      obtain ⟨w1, s1, hst1, ⟨x1, hq1, hz1⟩, hRS⟩ := hRS
      subst hst1
      subst hq1
      exact lv_i2b hx hb hd rfl (k0 rfl _ _ hRL ⟨_, _, rfl, ⟨_, rfl, by rw [Int8.toInt_toInt32, Int32.toInt_toInt8, mm_b8, hz1]⟩, hRS⟩)
    · cases hstep
  | ifCond cc off =>
    simp only [mm_okI, mm_okD, Bool.and_eq_true, decide_eq_true_eq] at hok
    obtain ⟨hd, h1, ht⟩ := hok
    subst h1
    simp only [mm_step, mm_if] at hstep
    split at hstep
    · next z1 r =>
      obtain ⟨w1, s1, hst1, ⟨x1, hq1, hz1⟩, hRS⟩ := hRS
      subst hst1
      subst hq1
      cases cc with
      | eq =>
        refine lv_if_eq hx hb hd ht (fun hc => ?_) (fun hc => ?_)
        · have hh : mm_cmp .eq z1 0 = true := by simp only [mm_cmp, decide_eq_true_eq]; simp only [Int32.lt_iff_toInt_lt, Int32.le_iff_toInt_le, ← Int32.toInt_inj, hz1, Int32.toInt_zero] at hc; first | exact hc | omega
          rw [if_pos hh] at hstep
          simp only [Option.some.injEq, Sum.inl.injEq] at hstep
          subst hstep
          exact k0 rfl _ _ hRL hRS
        · have hh : ¬ mm_cmp .eq z1 0 = true := by simp only [mm_cmp, decide_eq_true_eq]; simp only [Int32.lt_iff_toInt_lt, Int32.le_iff_toInt_le, ← Int32.toInt_inj, hz1, Int32.toInt_zero] at hc; first | exact hc | omega
          rw [if_neg hh] at hstep
          simp only [Option.some.injEq, Sum.inl.injEq] at hstep
          subst hstep
          exact k0 rfl _ _ hRL hRS
      | ne =>
        refine lv_if_ne hx hb hd ht (fun hc => ?_) (fun hc => ?_)
        · have hh : mm_cmp .ne z1 0 = true := by simp only [mm_cmp, decide_eq_true_eq]; simp only [Int32.lt_iff_toInt_lt, Int32.le_iff_toInt_le, ← Int32.toInt_inj, hz1, Int32.toInt_zero] at hc; first | exact hc | omega
          rw [if_pos hh] at hstep
          simp only [Option.some.injEq, Sum.inl.injEq] at hstep
          subst hstep
          exact k0 rfl _ _ hRL hRS
        · have hh : ¬ mm_cmp .ne z1 0 = true := by simp only [mm_cmp, decide_eq_true_eq]; simp only [Int32.lt_iff_toInt_lt, Int32.le_iff_toInt_le, ← Int32.toInt_inj, hz1, Int32.toInt_zero] at hc; first | exact hc | omega
          rw [if_neg hh] at hstep
          simp only [Option.some.injEq, Sum.inl.injEq] at hstep
          subst hstep
          exact k0 rfl _ _ hRL hRS
      | lt =>
        refine lv_if_lt hx hb hd ht (fun hc => ?_) (fun hc => ?_)
        · have hh : mm_cmp .lt z1 0 = true := by simp only [mm_cmp, decide_eq_true_eq]; simp only [Int32.lt_iff_toInt_lt, Int32.le_iff_toInt_le, ← Int32.toInt_inj, hz1, Int32.toInt_zero] at hc; first | exact hc | omega
          rw [if_pos hh] at hstep
          simp only [Option.some.injEq, Sum.inl.injEq] at hstep
          subst hstep
          exact k0 rfl _ _ hRL hRS
        · have hh : ¬ mm_cmp .lt z1 0 = true := by simp only [mm_cmp, decide_eq_true_eq]; simp only [Int32.lt_iff_toInt_lt, Int32.le_iff_toInt_le, ← Int32.toInt_inj, hz1, Int32.toInt_zero] at hc; first | exact hc | omega
          rw [if_neg hh] at hstep
          simp only [Option.some.injEq, Sum.inl.injEq] at hstep
          subst hstep
          exact k0 rfl _ _ hRL hRS
      | ge =>
        refine lv_if_ge hx hb hd ht (fun hc => ?_) (fun hc => ?_)
        · have hh : mm_cmp .ge z1 0 = true := by simp only [mm_cmp, decide_eq_true_eq]; simp only [Int32.lt_iff_toInt_lt, Int32.le_iff_toInt_le, ← Int32.toInt_inj, hz1, Int32.toInt_zero] at hc; first | exact hc | omega
          rw [if_pos hh] at hstep
          simp only [Option.some.injEq, Sum.inl.injEq] at hstep
          subst hstep
          exact k0 rfl _ _ hRL hRS
        · have hh : ¬ mm_cmp .ge z1 0 = true := by simp only [mm_cmp, decide_eq_true_eq]; simp only [Int32.lt_iff_toInt_lt, Int32.le_iff_toInt_le, ← Int32.toInt_inj, hz1, Int32.toInt_zero] at hc; first | exact hc | omega
          rw [if_neg hh] at hstep
          simp only [Option.some.injEq, Sum.inl.injEq] at hstep
          subst hstep
          exact k0 rfl _ _ hRL hRS
      | gt =>
        refine lv_if_gt hx hb hd ht (fun hc => ?_) (fun hc => ?_)
        · have hh : mm_cmp .gt z1 0 = true := by simp only [mm_cmp, decide_eq_true_eq]; simp only [Int32.lt_iff_toInt_lt, Int32.le_iff_toInt_le, ← Int32.toInt_inj, hz1, Int32.toInt_zero] at hc; first | exact hc | omega
          rw [if_pos hh] at hstep
          simp only [Option.some.injEq, Sum.inl.injEq] at hstep
          subst hstep
          exact k0 rfl _ _ hRL hRS
        · have hh : ¬ mm_cmp .gt z1 0 = true := by simp only [mm_cmp, decide_eq_true_eq]; simp only [Int32.lt_iff_toInt_lt, Int32.le_iff_toInt_le, ← Int32.toInt_inj, hz1, Int32.toInt_zero] at hc; first | exact hc | omega
          rw [if_neg hh] at hstep
          simp only [Option.some.injEq, Sum.inl.injEq] at hstep
          subst hstep
          exact k0 rfl _ _ hRL hRS
      | le =>
        refine lv_if_le hx hb hd ht (fun hc => ?_) (fun hc => ?_)
        · have hh : mm_cmp .le z1 0 = true := by simp only [mm_cmp, decide_eq_true_eq]; simp only [Int32.lt_iff_toInt_lt, Int32.le_iff_toInt_le, ← Int32.toInt_inj, hz1, Int32.toInt_zero] at hc; first | exact hc | omega
          rw [if_pos hh] at hstep
          simp only [Option.some.injEq, Sum.inl.injEq] at hstep
          subst hstep
          exact k0 rfl _ _ hRL hRS
        · have hh : ¬ mm_cmp .le z1 0 = true := by simp only [mm_cmp, decide_eq_true_eq]; simp only [Int32.lt_iff_toInt_lt, Int32.le_iff_toInt_le, ← Int32.toInt_inj, hz1, Int32.toInt_zero] at hc; first | exact hc | omega
          rw [if_neg hh] at hstep
          simp only [Option.some.injEq, Sum.inl.injEq] at hstep
          subst hstep
          exact k0 rfl _ _ hRL hRS
    · cases hstep
  | if_icmp cc off =>
    simp only [mm_okI, mm_okD, Bool.and_eq_true, decide_eq_true_eq] at hok
    obtain ⟨hd, h1, ht⟩ := hok
    subst h1
    simp only [mm_step, mm_icmp] at hstep
    split at hstep
    · next z2 z1 r =>
      obtain ⟨w2, s2, hst, ⟨x2, hq2, hz2⟩, w1, s1, hst1, ⟨x1, hq1, hz1⟩, hRS⟩ := hRS
      subst hst
      subst hst1
      subst hq2
      subst hq1
      cases cc with
      | eq =>
        refine lv_icmp_eq hx hb hd ht (fun hc => ?_) (fun hc => ?_)
        · have hh : mm_cmp .eq z1 z2 = true := by simp only [mm_cmp, decide_eq_true_eq]; simp only [Int32.lt_iff_toInt_lt, Int32.le_iff_toInt_le, ← Int32.toInt_inj, hz1, hz2, Int32.toInt_zero] at hc; first | exact hc | omega
          rw [if_pos hh] at hstep
          simp only [Option.some.injEq, Sum.inl.injEq] at hstep
          subst hstep
          exact k0 rfl _ _ hRL hRS
        · have hh : ¬ mm_cmp .eq z1 z2 = true := by simp only [mm_cmp, decide_eq_true_eq]; simp only [Int32.lt_iff_toInt_lt, Int32.le_iff_toInt_le, ← Int32.toInt_inj, hz1, hz2, Int32.toInt_zero] at hc; first | exact hc | omega
          rw [if_neg hh] at hstep
          simp only [Option.some.injEq, Sum.inl.injEq] at hstep
          subst hstep
          exact k0 rfl _ _ hRL hRS
      | ne =>
        refine lv_icmp_ne hx hb hd ht (fun hc => ?_) (fun hc => ?_)
        · have hh : mm_cmp .ne z1 z2 = true := by simp only [mm_cmp, decide_eq_true_eq]; simp only [Int32.lt_iff_toInt_lt, Int32.le_iff_toInt_le, ← Int32.toInt_inj, hz1, hz2, Int32.toInt_zero] at hc; first | exact hc | omega
          rw [if_pos hh] at hstep
          simp only [Option.some.injEq, Sum.inl.injEq] at hstep
          subst hstep
          exact k0 rfl _ _ hRL hRS
        · have hh : ¬ mm_cmp .ne z1 z2 = true := by simp only [mm_cmp, decide_eq_true_eq]; simp only [Int32.lt_iff_toInt_lt, Int32.le_iff_toInt_le, ← Int32.toInt_inj, hz1, hz2, Int32.toInt_zero] at hc; first | exact hc | omega
          rw [if_neg hh] at hstep
          simp only [Option.some.injEq, Sum.inl.injEq] at hstep
          subst hstep
          exact k0 rfl _ _ hRL hRS
      | lt =>
        refine lv_icmp_lt hx hb hd ht (fun hc => ?_) (fun hc => ?_)
        · have hh : mm_cmp .lt z1 z2 = true := by simp only [mm_cmp, decide_eq_true_eq]; simp only [Int32.lt_iff_toInt_lt, Int32.le_iff_toInt_le, ← Int32.toInt_inj, hz1, hz2, Int32.toInt_zero] at hc; first | exact hc | omega
          rw [if_pos hh] at hstep
          simp only [Option.some.injEq, Sum.inl.injEq] at hstep
          subst hstep
          exact k0 rfl _ _ hRL hRS
        · have hh : ¬ mm_cmp .lt z1 z2 = true := by simp only [mm_cmp, decide_eq_true_eq]; simp only [Int32.lt_iff_toInt_lt, Int32.le_iff_toInt_le, ← Int32.toInt_inj, hz1, hz2, Int32.toInt_zero] at hc; first | exact hc | omega
          rw [if_neg hh] at hstep
          simp only [Option.some.injEq, Sum.inl.injEq] at hstep
          subst hstep
          exact k0 rfl _ _ hRL hRS
      | ge =>
        refine lv_icmp_ge hx hb hd ht (fun hc => ?_) (fun hc => ?_)
        · have hh : mm_cmp .ge z1 z2 = true := by simp only [mm_cmp, decide_eq_true_eq]; simp only [Int32.lt_iff_toInt_lt, Int32.le_iff_toInt_le, ← Int32.toInt_inj, hz1, hz2, Int32.toInt_zero] at hc; first | exact hc | omega
          rw [if_pos hh] at hstep
          simp only [Option.some.injEq, Sum.inl.injEq] at hstep
          subst hstep
          exact k0 rfl _ _ hRL hRS
        · have hh : ¬ mm_cmp .ge z1 z2 = true := by simp only [mm_cmp, decide_eq_true_eq]; simp only [Int32.lt_iff_toInt_lt, Int32.le_iff_toInt_le, ← Int32.toInt_inj, hz1, hz2, Int32.toInt_zero] at hc; first | exact hc | omega
          rw [if_neg hh] at hstep
          simp only [Option.some.injEq, Sum.inl.injEq] at hstep
          subst hstep
          exact k0 rfl _ _ hRL hRS
      | gt =>
        refine lv_icmp_gt hx hb hd ht (fun hc => ?_) (fun hc => ?_)
        · have hh : mm_cmp .gt z1 z2 = true := by simp only [mm_cmp, decide_eq_true_eq]; simp only [Int32.lt_iff_toInt_lt, Int32.le_iff_toInt_le, ← Int32.toInt_inj, hz1, hz2, Int32.toInt_zero] at hc; first | exact hc | omega
          rw [if_pos hh] at hstep
          simp only [Option.some.injEq, Sum.inl.injEq] at hstep
          subst hstep
          exact k0 rfl _ _ hRL hRS
        · have hh : ¬ mm_cmp .gt z1 z2 = true := by simp only [mm_cmp, decide_eq_true_eq]; simp only [Int32.lt_iff_toInt_lt, Int32.le_iff_toInt_le, ← Int32.toInt_inj, hz1, hz2, Int32.toInt_zero] at hc; first | exact hc | omega
          rw [if_neg hh] at hstep
          simp only [Option.some.injEq, Sum.inl.injEq] at hstep
          subst hstep
          exact k0 rfl _ _ hRL hRS
      | le =>
        refine lv_icmp_le hx hb hd ht (fun hc => ?_) (fun hc => ?_)
        · have hh : mm_cmp .le z1 z2 = true := by simp only [mm_cmp, decide_eq_true_eq]; simp only [Int32.lt_iff_toInt_lt, Int32.le_iff_toInt_le, ← Int32.toInt_inj, hz1, hz2, Int32.toInt_zero] at hc; first | exact hc | omega
          rw [if_pos hh] at hstep
          simp only [Option.some.injEq, Sum.inl.injEq] at hstep
          subst hstep
          exact k0 rfl _ _ hRL hRS
        · have hh : ¬ mm_cmp .le z1 z2 = true := by simp only [mm_cmp, decide_eq_true_eq]; simp only [Int32.lt_iff_toInt_lt, Int32.le_iff_toInt_le, ← Int32.toInt_inj, hz1, hz2, Int32.toInt_zero] at hc; first | exact hc | omega
          rw [if_neg hh] at hstep
          simp only [Option.some.injEq, Sum.inl.injEq] at hstep
          subst hstep
          exact k0 rfl _ _ hRL hRS
    · cases hstep
  | goto off =>
    simp only [mm_okI, mm_okD, Bool.and_eq_true, decide_eq_true_eq] at hok
    obtain ⟨hd, h1, ht⟩ := hok
    subst h1
    simp only [mm_step, Option.some.injEq, Sum.inl.injEq] at hstep
    subst hstep
    exact lv_goto hx hb hd ht (k0 rfl _ _ hRL hRS)
  | tableswitch d lo hi offs =>
    simp only [mm_okI, mm_okD, Bool.and_eq_true, decide_eq_true_eq, List.all_eq_true] at hok
    obtain ⟨hd, h1, h2⟩ := hok
    simp only [mm_step, mm_switch] at hstep
    split at hstep
    · next z1 r =>
      obtain ⟨w1, s1, hst1, ⟨x1, hq1, hz1⟩, hRS⟩ := hRS
      subst hst1
      subst hq1
      split at hstep
      · next hout =>
        simp only [Option.some.injEq, Sum.inl.injEq] at hstep
        subst hstep
        exact lv_tableOut hx hb hd (by rw [hz1]; exact hout) (by rw [Int.toNat_of_nonneg h1]) (k0 rfl _ _ hRL hRS)
      · next hnot =>
        split at hstep
        · next o ho =>
          simp only [Option.some.injEq, Sum.inl.injEq] at hstep
          subst hstep
          refine lv_tableIn hx hb hd (by rw [hz1]; omega) (by rw [hz1]; omega) (by rw [hz1]; exact ho) ?_ (k0 rfl _ _ hRL hRS)
          rw [Int.toNat_of_nonneg (h2 o (by
            rw [← Array.getElem?_toList] at ho
            exact List.mem_of_getElem? ho))]
        · cases hstep
    · cases hstep
  | dup =>
    simp only [mm_okI, mm_okD, Bool.and_eq_true, decide_eq_true_eq] at hok
    obtain ⟨hd, h1⟩ := hok
    subst h1
    simp only [mm_step, mm_dup] at hstep
    split at hstep
    · next v r =>
      split at hstep
      · cases hstep
      · next hw =>
        simp only [Option.some.injEq, Sum.inl.injEq] at hstep
        subst hstep
        obtain ⟨w, s1, hst, hv, hRS⟩ := hRS
        subst hst
        exact lv_dup hx hb hd (hv.narrow hw) (k0 rfl _ _ hRL ⟨_, _, rfl, hv, _, _, rfl, hv, hRS⟩)
    · cases hstep
  | dup2 =>
    simp only [mm_okI, mm_okD, Bool.and_eq_true, decide_eq_true_eq] at hok
    obtain ⟨hd, h1⟩ := hok
    subst h1
    simp only [mm_step, mm_dup2] at hstep
    split at hstep
    · next v v2 r =>
      split at hstep
      · cases hstep
      · next hw =>
        simp only [Option.some.injEq, Sum.inl.injEq] at hstep
        subst hstep
        obtain ⟨w, s1, hst, hv, w2, s2, hst2, hv2, hRS⟩ := hRS
        subst hst
        subst hst2
        exact lv_dup2_11 hx hb hd (hv.narrow (fun q => hw (Or.inl q))) (hv2.narrow (fun q => hw (Or.inr q))) (k0 rfl _ _ hRL ⟨_, _, rfl, hv, _, _, rfl, hv2, _, _, rfl, hv, _, _, rfl, hv2, hRS⟩)
    · cases hstep
  | pop =>
    simp only [mm_okI, mm_okD, Bool.and_eq_true, decide_eq_true_eq] at hok
    obtain ⟨hd, h1⟩ := hok
    subst h1
    simp only [mm_step, mm_pop] at hstep
    split at hstep
    · next v r =>
      split at hstep
      · cases hstep
      · next hw =>
        simp only [Option.some.injEq, Sum.inl.injEq] at hstep
        subst hstep
        obtain ⟨w, s1, hst, hv, hRS⟩ := hRS
        subst hst
        exact lv_pop hx hb hd (hv.narrow hw) (k0 rfl _ _ hRL hRS)
    · cases hstep
  | getfield i =>
    simp only [mm_okI, mm_okD, Bool.and_eq_true, decide_eq_true_eq] at hok
    obtain ⟨hd, h1, hcl⟩ := hok
    subst h1
    split at hcl
    · next C T N hv =>
      simp only [Bool.and_eq_true, decide_eq_true_eq] at hcl
      obtain ⟨hkN, hlink⟩ := hcl
      obtain ⟨hin1, hty1, hnm1⟩ := mm_cls_ok _ _ _ _ hv
      simp only [mm_step, mm_getf] at hstep
      split at hstep
      · next r rest =>
        split at hstep
        · next fs ho =>
          split at hstep
          · next v hv2 =>
            simp only [Option.some.injEq, Sum.inl.injEq] at hstep
            subst hstep
            obtain ⟨w, s1, hst, hw, hRS⟩ := hRS
            subst hst
            obtain ⟨q0, q, gs, hq1, hq2, ha, he, hfs⟩ := hRH.obj ho hw
            subst hq2
            obtain ⟨v', hv3, hv4⟩ := hfs.at _ _ hv2
            exact va_get (D := D) hx hb hts hin1 hown hK hP q0 he hv _ hkN (hts _ (mm_pl_in hlink)) (fun _ h9 => h9) hv3 hd (k0 rfl _ _ hRL ⟨_, _, rfl, hv4, hRS⟩)
          · cases hstep
        · cases hstep
      · cases hstep
    · cases hcl
  | putfield i =>
    simp only [mm_okI, mm_okD, Bool.and_eq_true, decide_eq_true_eq] at hok
    obtain ⟨hd, h1, hcl⟩ := hok
    subst h1
    split at hcl
    · next C T N hv =>
      simp only [Bool.and_eq_true, decide_eq_true_eq] at hcl
      obtain ⟨⟨⟨hkN, hlink⟩, hfin⟩, htc⟩ := hcl
      obtain ⟨hin1, hty1, hnm1⟩ := mm_cls_ok _ _ _ _ hv
      simp only [mm_step, mm_putf] at hstep
      split at hstep
      · next z a rest =>
        split at hstep
        · next fs ho =>
          split at hstep
          · next hlen0 =>
            obtain ⟨hq1c, hlen⟩ := hlen0
            simp only [Option.some.injEq, Sum.inl.injEq] at hstep
            subst hstep
            have hty : mm_ty xx kk = .int := by
              split at htc
              · assumption
              · simp only [decide_eq_true_eq] at htc; omega
              · simp only [decide_eq_true_eq] at htc; omega
              · cases htc
            obtain ⟨w0, s0, hst0, ⟨x0, hx0, hz0⟩, w, s1, hst, hw, hRS⟩ := hRS
            subst hst0
            subst hst
            subst hx0
            obtain ⟨q0, q, gs, hq1, hq2, ha, he, hfs⟩ := hRH.obj ho hw
            subst hq2
            cases hq1
            have hnx := mm_nx_up (h := h) (a := q0 + 2) (c := .inr (xx, fs.set kk (.inl z))) (by omega)
            have kq : ∀ (H1 : Heap) (locs1 : List Loc), va_P D vwCl (ws.set q0 (q, .inr (xx, gs.set kk (.int x0)))) H1 → va_D A (ws.set q0 (q, .inr (xx, gs.set kk (.int x0)))) → va_S A s.heap H1 locs1 → W p l e R s m args below meth c H1 locs1 cells slots Q (F0 m (pc + 3) ls s1) := by
              intro H1 locs1 g1 g2 g3
              have := k H1 locs1 ls s1 [] _ (by rw [List.append_nil]; exact ⟨hRL, hRS, hRH.set ha ⟨_, rfl, hfs.set (show mm_R b as (.inl z) (.int x0) from ⟨x0, rfl, hz0⟩) kk⟩, g1, g2, g3⟩)
              dsimp only at this
              rw [hnx.1, hnx.2] at this
              simpa only [Nat.sub_self, Nat.add_zero] using this
            rcases hfin with hff | ⟨hff, hk2, hde⟩
            · exact va_put (D := D) hx hb hts hin1 (mm_ty xx) hty1 hnm1 hown hK hP hD hS q0 he hv _ hkN (hts _ (mm_pl_in hlink)) (fun _ h9 => h9) hff (hty1 _ hkN) (by rw [hty]; rfl) (by rw [hty]; rfl) (by rw [hfs.len]; exact hlen) hd kq
            · exact va_putF (D := D) hx hb hts hin1 (mm_ty xx) hty1 hnm1 hown hK hP hD hS q0 he hv _ hkN (hts _ (mm_pl_in hlink)) (fun _ h9 => h9) hff (hin hk2) hde (hty1 _ hkN) (by rw [hty]; rfl) (by rw [hty]; rfl) (by rw [hfs.len]; exact hlen) hd kq
          · cases hstep
        · cases hstep
      · next z a rest =>
        split at hstep
        · next fs ho =>
          split at hstep
          · next hlen0 =>
            obtain ⟨hq1c, hlen⟩ := hlen0
            simp only [Option.some.injEq, Sum.inl.injEq] at hstep
            subst hstep
            have hty : (∃ z, mm_ty xx kk = .object z) ∨ (∃ z, mm_ty xx kk = .array z) := by
              split at htc
              · simp only [decide_eq_true_eq] at htc; omega
              · next z hz => exact Or.inl ⟨z, hz⟩
              · next z hz => exact Or.inr ⟨z, hz⟩
              · cases htc
            obtain ⟨w0, s0, hst0, hw0, w, s1, hst, hw, hRS⟩ := hRS
            subst hst0
            subst hst
            obtain ⟨x0, hx0⟩ : ∃ q, w0 = .ref q := by
              match z, hw0 with
              | 1, hw2 => exact ⟨_, hw2⟩
              | j + 2, ⟨q, _, hw2⟩ => exact ⟨q, hw2⟩
            subst hx0
            obtain ⟨q0, q, gs, hq1, hq2, ha, he, hfs⟩ := hRH.obj ho hw
            subst hq2
            cases hq1
            have hnx := mm_nx_up (h := h) (a := q0 + 2) (c := .inr (xx, fs.set kk (.inr (.inr (some z))))) (by omega)
            have kq : ∀ (H1 : Heap) (locs1 : List Loc), va_P D vwCl (ws.set q0 (q, .inr (xx, gs.set kk (.ref x0)))) H1 → va_D A (ws.set q0 (q, .inr (xx, gs.set kk (.ref x0)))) → va_S A s.heap H1 locs1 → W p l e R s m args below meth c H1 locs1 cells slots Q (F0 m (pc + 3) ls s1) := by
              intro H1 locs1 g1 g2 g3
              have := k H1 locs1 ls s1 [] _ (by rw [List.append_nil]; exact ⟨hRL, hRS, hRH.set ha ⟨_, rfl, hfs.set hw0 kk⟩, g1, g2, g3⟩)
              dsimp only at this
              rw [hnx.1, hnx.2] at this
              simpa only [Nat.sub_self, Nat.add_zero] using this
            rcases hfin with hff | ⟨hff, hk2, hde⟩
            · exact va_put (D := D) hx hb hts hin1 (mm_ty xx) hty1 hnm1 hown hK hP hD hS q0 he hv _ hkN (hts _ (mm_pl_in hlink)) (fun _ h9 => h9) hff (hty1 _ hkN) (by rcases hty with ⟨_, hty⟩ | ⟨_, hty⟩ <;> (rw [hty]; rfl)) (by rcases hty with ⟨_, hty⟩ | ⟨_, hty⟩ <;> (rw [hty]; rfl)) (by rw [hfs.len]; exact hlen) hd kq
            · exact va_putF (D := D) hx hb hts hin1 (mm_ty xx) hty1 hnm1 hown hK hP hD hS q0 he hv _ hkN (hts _ (mm_pl_in hlink)) (fun _ h9 => h9) hff (hin hk2) hde (hty1 _ hkN) (by rcases hty with ⟨_, hty⟩ | ⟨_, hty⟩ <;> (rw [hty]; rfl)) (by rcases hty with ⟨_, hty⟩ | ⟨_, hty⟩ <;> (rw [hty]; rfl)) (by rw [hfs.len]; exact hlen) hd kq
          · cases hstep
        · cases hstep
      · cases hstep
    · cases hcl
  | iaload =>
    simp only [mm_okI, mm_okD, Bool.and_eq_true, decide_eq_true_eq] at hok
    obtain ⟨hd, h1⟩ := hok
    subst h1
    simp only [mm_step, mm_iald] at hstep
    split at hstep
    · next j r rest =>
      split at hstep
      · next t n f0 ho =>
        split at hstep
        · next hj =>
          obtain ⟨ht, hj0, hjn⟩ := hj
          simp only [Option.some.injEq, Sum.inl.injEq] at hstep
          subst hstep
          obtain ⟨w0, s0, hst0, ⟨x0, hx0, hz0⟩, w, s1, hst, hw, hRS⟩ := hRS
          subst hst0
          subst hst
          subst hx0
          have hidx : x0.toNatClampNeg = j.toNat := by rw [← hz0]; rfl
          rcases hRH.arr ho hw with ⟨hr1, hv1, ht1, hn1, hf1⟩ | ⟨q0, q, g, hr1, hv1, ha1, he1, ht1, hf1⟩
          · subst hv1
            subst hn1
            exact va_sld hx hb hX hbl hbA hS (mm_in hz0 hj0 hjn) hd (k0 rfl _ _ hRL ⟨_, _, rfl, ⟨_, rfl, by rw [hf1, hidx]⟩, hRS⟩)
          · subst hv1
            have ht0 : t = 0 := by omega
            subst ht0
            exact va_iald (D := D) hx hb hK hP q0 0 he1 rfl (mm_in hz0 hj0 hjn) hd (k0 rfl _ _ hRL ⟨_, _, rfl, ⟨_, rfl, by rw [hf1, hidx]⟩, hRS⟩)
        · cases hstep
      · cases hstep
    · cases hstep
  | baload =>
    simp only [mm_okI, mm_okD, Bool.and_eq_true, decide_eq_true_eq] at hok
    obtain ⟨hd, h1⟩ := hok
    subst h1
    simp only [mm_step, mm_bald] at hstep
    split at hstep
    · next j r rest =>
      split at hstep
      · next t n f0 ho =>
        split at hstep
        · next hj =>
          obtain ⟨ht, hj0, hjn⟩ := hj
          simp only [Option.some.injEq, Sum.inl.injEq] at hstep
          subst hstep
          obtain ⟨w0, s0, hst0, ⟨x0, hx0, hz0⟩, w, s1, hst, hw, hRS⟩ := hRS
          subst hst0
          subst hst
          subst hx0
          have hidx : x0.toNatClampNeg = j.toNat := by rw [← hz0]; rfl
          rcases hRH.arr ho hw with ⟨hr1, hv1, ht1, hn1, hf1⟩ | ⟨q0, q, g, hr1, hv1, ha1, he1, ht1, hf1⟩
          · omega
          · subst hv1
            rcases ht with ht | ht
            · subst ht
              exact va_zald (D := D) hx hb hK hP q0 1 he1 rfl (mm_in hz0 hj0 hjn) hd (k0 rfl _ _ hRL ⟨_, _, rfl, ⟨_, rfl, by rw [hf1, hidx]⟩, hRS⟩)
            · subst ht
              exact va_bald (D := D) hx hb hK hP q0 2 he1 rfl (mm_in hz0 hj0 hjn) hd (k0 rfl _ _ hRL ⟨_, _, rfl, ⟨_, rfl, by rw [hf1, hidx]⟩, hRS⟩)
        · cases hstep
      · cases hstep
    · cases hstep
  | iastore =>
    simp only [mm_okI, mm_okD, Bool.and_eq_true, decide_eq_true_eq] at hok
    obtain ⟨hd, h1⟩ := hok
    subst h1
    simp only [mm_step, mm_iast] at hstep
    split at hstep
    · next z j a rest =>
      obtain ⟨w9, s9, hst9, ⟨x9, hx9, hz9⟩, w0, s0, hst0, ⟨x0, hx0, hz0⟩, w, s1, hst, hw, hRS⟩ := hRS
      subst hst9
      subst hst0
      subst hst
      subst hx9
      subst hx0
      have hidx : x0.toNatClampNeg = j.toNat := by rw [← hz0]; rfl
      split at hstep
      · next t n f0 ho =>
        split at hstep
        · next hj =>
          obtain ⟨ht, hj0, hjn⟩ := hj
          simp only [Option.some.injEq, Sum.inl.injEq] at hstep
          subst hstep
          subst ht
          rcases hRH.arr ho hw with ⟨hr1, hv1, ht1, hn1, hf1⟩ | ⟨q0, q, g, hr1, hv1, ha1, he1, ht1, hf1⟩
          · omega
          · subst hv1
            cases hr1
            have hnx := mm_nx_up (h := h) (a := q0 + 2) (c := .inl (0, n, mm_st f0 j.toNat z)) (by omega)
            have kq : ∀ (H1 : Heap) (locs1 : List Loc), va_P D vwCl (ws.set q0 (q, .inl (cA 0, n, .inl (upd g x0.toNatClampNeg x9)))) H1 → va_D A (ws.set q0 (q, .inl (cA 0, n, .inl (upd g x0.toNatClampNeg x9)))) → va_S A s.heap H1 locs1 → W p l e R s m args below meth c H1 locs1 cells slots Q (F0 m (pc + 1) ls s1) := by
              intro H1 locs1 g1 g2 g3
              have := k H1 locs1 ls s1 [] _ (by rw [List.append_nil]; exact ⟨hRL, hRS, hRH.set ha1 (c := .inl (0, n, mm_st f0 j.toNat z)) ⟨by decide, _, rfl, by rw [hidx]; exact mm_upd hf1 _ hz9⟩, g1, g2, g3⟩)
              dsimp only at this
              rw [hnx.1, hnx.2] at this
              simpa only [Nat.sub_self, Nat.add_zero] using this
            exact va_iast (D := D) hx hb hK hP hD hS q0 0 he1 rfl (mm_in hz0 hj0 hjn) hd kq
        · cases hstep
      · cases hstep
    · cases hstep
  | bastore =>
    simp only [mm_okI, mm_okD, Bool.and_eq_true, decide_eq_true_eq] at hok
    obtain ⟨hd, h1⟩ := hok
    subst h1
    simp only [mm_step, mm_bast] at hstep
    split at hstep
    · next z j a rest =>
      obtain ⟨w9, s9, hst9, ⟨x9, hx9, hz9⟩, w0, s0, hst0, ⟨x0, hx0, hz0⟩, w, s1, hst, hw, hRS⟩ := hRS
      subst hst9
      subst hst0
      subst hst
      subst hx9
      subst hx0
      have hidx : x0.toNatClampNeg = j.toNat := by rw [← hz0]; rfl
      split at hstep
      · next t n f0 ho =>
        split at hstep
        · next hj =>
          obtain ⟨ht, hj0, hjn⟩ := hj
          simp only [Option.some.injEq, Sum.inl.injEq] at hstep
          subst hstep
          subst ht
          rcases hRH.arr ho hw with ⟨hr1, hv1, ht1, hn1, hf1⟩ | ⟨q0, q, g, hr1, hv1, ha1, he1, ht1, hf1⟩
          · omega
          · subst hv1
            cases hr1
            have hnx := mm_nx_up (h := h) (a := q0 + 2) (c := .inl (2, n, mm_st f0 j.toNat (mm_w8 z))) (by omega)
            have kq : ∀ (H1 : Heap) (locs1 : List Loc), va_P D vwCl (ws.set q0 (q, .inl (cA 2, n, .inl (upd g x0.toNatClampNeg (vp_nar .byte x9))))) H1 → va_D A (ws.set q0 (q, .inl (cA 2, n, .inl (upd g x0.toNatClampNeg (vp_nar .byte x9))))) → va_S A s.heap H1 locs1 → W p l e R s m args below meth c H1 locs1 cells slots Q (F0 m (pc + 1) ls s1) := by
              intro H1 locs1 g1 g2 g3
              have := k H1 locs1 ls s1 [] _ (by rw [List.append_nil]; exact ⟨hRL, hRS, hRH.set ha1 (c := .inl (2, n, mm_st f0 j.toNat (mm_w8 z))) ⟨by decide, _, rfl, by rw [hidx]; exact mm_upd hf1 _ (show (x9.toInt8.toInt32).toInt = mm_w8 z by rw [Int8.toInt_toInt32, Int32.toInt_toInt8, mm_b8, hz9])⟩, g1, g2, g3⟩)
              dsimp only at this
              rw [hnx.1, hnx.2] at this
              simpa only [Nat.sub_self, Nat.add_zero] using this
            exact va_bast (D := D) hx hb hK hP hD hS q0 2 he1 rfl (mm_in hz0 hj0 hjn) hd kq
        · split at hstep
          · next hj =>
            obtain ⟨ht, hj0, hjn, hz01⟩ := hj
            simp only [Option.some.injEq, Sum.inl.injEq] at hstep
            subst hstep
            subst ht
            rcases hRH.arr ho hw with ⟨hr1, hv1, ht1, hn1, hf1⟩ | ⟨q0, q, g, hr1, hv1, ha1, he1, ht1, hf1⟩
            · omega
            · subst hv1
              cases hr1
              have hbit : (vp_nar .boolean x9).toInt = z := by
                show (x9 &&& 1).toInt = z
                rcases hz01 with h0 | h0
                · have : x9 = 0 := Int32.toInt_inj.mp (by rw [hz9, h0]; rfl)
                  rw [this, h0]; rfl
                · have : x9 = 1 := Int32.toInt_inj.mp (by rw [hz9, h0]; rfl)
                  rw [this, h0]; rfl
              have hnx := mm_nx_up (h := h) (a := q0 + 2) (c := .inl (1, n, mm_st f0 j.toNat z)) (by omega)
              have kq : ∀ (H1 : Heap) (locs1 : List Loc), va_P D vwCl (ws.set q0 (q, .inl (cA 1, n, .inl (upd g x0.toNatClampNeg (vp_nar .boolean x9))))) H1 → va_D A (ws.set q0 (q, .inl (cA 1, n, .inl (upd g x0.toNatClampNeg (vp_nar .boolean x9))))) → va_S A s.heap H1 locs1 → W p l e R s m args below meth c H1 locs1 cells slots Q (F0 m (pc + 1) ls s1) := by
                intro H1 locs1 g1 g2 g3
                have := k H1 locs1 ls s1 [] _ (by rw [List.append_nil]; exact ⟨hRL, hRS, hRH.set ha1 (c := .inl (1, n, mm_st f0 j.toNat z)) ⟨by decide, _, rfl, by rw [hidx]; exact mm_upd hf1 _ hbit⟩, g1, g2, g3⟩)
                dsimp only at this
                rw [hnx.1, hnx.2] at this
                simpa only [Nat.sub_self, Nat.add_zero] using this
              exact va_zast (D := D) hx hb hK hP hD hS q0 1 he1 rfl (mm_in hz0 hj0 hjn) hd kq
          · cases hstep
      · cases hstep
    · cases hstep
  | arraylength =>
    simp only [mm_okI, mm_okD, Bool.and_eq_true, decide_eq_true_eq] at hok
    obtain ⟨hd, h1⟩ := hok
    subst h1
    simp only [mm_step, mm_alen] at hstep
    split at hstep
    · next r rest =>
      split at hstep
      · next t n f0 ho =>
        split at hstep
        · next hj =>
          simp only [Option.some.injEq, Sum.inl.injEq] at hstep
          subst hstep
          obtain ⟨w, s1, hst, hw, hRS⟩ := hRS
          subst hst
          have hnn : (Int32.ofNat n).toInt = (n : Int) := by
            have h9 := Int32.toInt_ofInt_of_le (n := (n : Int)) (by omega) (by omega)
            rw [← h9]; rfl
          rcases hRH.arr ho hw with ⟨hr1, hv1, ht1, hn1, hf1⟩ | ⟨q0, q, g, hr1, hv1, ha1, he1, ht1, hf1⟩
          · subst hv1
            subst hn1
            exact va_slen hx hb hX hbl hbA hS hd (k0 rfl _ _ hRL ⟨_, _, rfl, ⟨_, rfl, hnn⟩, hRS⟩)
          · subst hv1
            have ht3 : t = 0 ∨ t = 1 ∨ t = 2 := by omega
            rcases ht3 with ht3 | ht3 | ht3
            · subst ht3
              exact va_alen (D := D) hx hb hK hP q0 0 he1 rfl rfl hd (k0 rfl _ _ hRL ⟨_, _, rfl, ⟨_, rfl, hnn⟩, hRS⟩)
            · subst ht3
              exact va_alen (D := D) hx hb hK hP q0 1 he1 rfl rfl hd (k0 rfl _ _ hRL ⟨_, _, rfl, ⟨_, rfl, hnn⟩, hRS⟩)
            · subst ht3
              exact va_alen (D := D) hx hb hK hP q0 2 he1 rfl rfl hd (k0 rfl _ _ hRL ⟨_, _, rfl, ⟨_, rfl, hnn⟩, hRS⟩)
        · cases hstep
      · cases hstep
    · cases hstep
  | newarray ty =>
    simp only [mm_okI, mm_okD, Bool.and_eq_true, decide_eq_true_eq] at hok
    obtain ⟨hd, h1, harr⟩ := hok
    subst h1
    cases ty with
      | int =>
        simp only [decide_eq_true_eq] at harr
        simp only [mm_step, mm_newa, mm_aty] at hstep
        split at hstep
        · next z rest =>
          split at hstep
          · next hz =>
            split at hstep
            · next a h' hal =>
              simp only [Option.some.injEq, Sum.inl.injEq] at hstep
              subst hstep
              obtain ⟨w, s1, hst, ⟨x1, hx1, hz1⟩, hRS⟩ := hRS
              subst hst
              subst hx1
              have hnx := (hRH.push (e := .inl (cA 0, z.toNat, .inl (fun _ => 0))) (q := 0) hal ⟨by decide, _, rfl, fun _ => rfl⟩).2.2
              dsimp only at hcc hss k
              rw [hnx.1] at hcc
              rw [hnx.2] at hss
              refine va_newa (D := D) (atype := .int) (ty := .int) (N' := z.toNat) (a0 := (z.toNat, .inl (fun _ => 0))) hx hb (hts _ (mm_pl_in harr)) rfl hK hP hD hS hA (fun _ => rfl) (by rw [Int32.lt_iff_toInt_lt, hz1]; simp; omega) (by show x1.toInt.toNat = _; rw [hz1]) (by show z.toNat * 4 ≤ _; omega) (by omega) (by omega) hd (fun q cA' H1 g0 g1 g2 g3 => ?_)
              have hcA : cA' = cA 0 := by
                have e1 : va_RA s cA' .int := (g0.2 3 _ rfl).2
                have e2 : va_RA s (cA 0) .int := (hK.2 0 _ rfl).2
                exact Option.some.inj (Eq.trans (Eq.symm e1) e2)
              subst hcA
              obtain ⟨ea, hRH', -, -⟩ := hRH.push (e := .inl (cA 0, z.toNat, .inl (fun _ => 0))) (q := q) hal ⟨by decide, _, rfl, fun _ => rfl⟩
              have := k H1 locs ls (.ref q :: s1) [q] (ws ++ [(q, .inl (cA 0, z.toNat, .inl (fun _ => 0)))]) ⟨hRL.app _, ⟨_, _, rfl, by rw [ea]; exact ⟨q, by simp, rfl⟩, hRS.app _⟩, hRH', g1, g2, g3⟩
              rw [hnx.1, hnx.2, Nat.add_sub_cancel_left, Nat.add_sub_cancel_left] at this
              exact this
            · cases hstep
          · cases hstep
        · cases hstep
      | boolean =>
        simp only [decide_eq_true_eq] at harr
        simp only [mm_step, mm_newa, mm_aty] at hstep
        split at hstep
        · next z rest =>
          split at hstep
          · next hz =>
            split at hstep
            · next a h' hal =>
              simp only [Option.some.injEq, Sum.inl.injEq] at hstep
              subst hstep
              obtain ⟨w, s1, hst, ⟨x1, hx1, hz1⟩, hRS⟩ := hRS
              subst hst
              subst hx1
              have hnx := (hRH.push (e := .inl (cA 1, z.toNat, .inl (fun _ => 0))) (q := 0) hal ⟨by decide, _, rfl, fun _ => rfl⟩).2.2
              dsimp only at hcc hss k
              rw [hnx.1] at hcc
              rw [hnx.2] at hss
              refine va_newa (D := D) (atype := .boolean) (ty := .boolean) (N' := z.toNat) (a0 := (z.toNat, .inl (fun _ => 0))) hx hb (hts _ (mm_pl_in harr)) rfl hK hP hD hS hA (fun _ => rfl) (by rw [Int32.lt_iff_toInt_lt, hz1]; simp; omega) (by show x1.toInt.toNat = _; rw [hz1]) (by show z.toNat * 1 ≤ _; omega) (by omega) (by omega) hd (fun q cA' H1 g0 g1 g2 g3 => ?_)
              have hcA : cA' = cA 1 := by
                have e1 : va_RA s cA' .boolean := (g0.2 3 _ rfl).2
                have e2 : va_RA s (cA 1) .boolean := (hK.2 1 _ rfl).2
                exact Option.some.inj (Eq.trans (Eq.symm e1) e2)
              subst hcA
              obtain ⟨ea, hRH', -, -⟩ := hRH.push (e := .inl (cA 1, z.toNat, .inl (fun _ => 0))) (q := q) hal ⟨by decide, _, rfl, fun _ => rfl⟩
              have := k H1 locs ls (.ref q :: s1) [q] (ws ++ [(q, .inl (cA 1, z.toNat, .inl (fun _ => 0)))]) ⟨hRL.app _, ⟨_, _, rfl, by rw [ea]; exact ⟨q, by simp, rfl⟩, hRS.app _⟩, hRH', g1, g2, g3⟩
              rw [hnx.1, hnx.2, Nat.add_sub_cancel_left, Nat.add_sub_cancel_left] at this
              exact this
            · cases hstep
          · cases hstep
        · cases hstep
      | byte =>
        simp only [decide_eq_true_eq] at harr
        simp only [mm_step, mm_newa, mm_aty] at hstep
        split at hstep
        · next z rest =>
          split at hstep
          · next hz =>
            split at hstep
            · next a h' hal =>
              simp only [Option.some.injEq, Sum.inl.injEq] at hstep
              subst hstep
              obtain ⟨w, s1, hst, ⟨x1, hx1, hz1⟩, hRS⟩ := hRS
              subst hst
              subst hx1
              have hnx := (hRH.push (e := .inl (cA 2, z.toNat, .inl (fun _ => 0))) (q := 0) hal ⟨by decide, _, rfl, fun _ => rfl⟩).2.2
              dsimp only at hcc hss k
              rw [hnx.1] at hcc
              rw [hnx.2] at hss
              refine va_newa (D := D) (atype := .byte) (ty := .byte) (N' := z.toNat) (a0 := (z.toNat, .inl (fun _ => 0))) hx hb (hts _ (mm_pl_in harr)) rfl hK hP hD hS hA (fun _ => rfl) (by rw [Int32.lt_iff_toInt_lt, hz1]; simp; omega) (by show x1.toInt.toNat = _; rw [hz1]) (by show z.toNat * 1 ≤ _; omega) (by omega) (by omega) hd (fun q cA' H1 g0 g1 g2 g3 => ?_)
              have hcA : cA' = cA 2 := by
                have e1 : va_RA s cA' .byte := (g0.2 3 _ rfl).2
                have e2 : va_RA s (cA 2) .byte := (hK.2 2 _ rfl).2
                exact Option.some.inj (Eq.trans (Eq.symm e1) e2)
              subst hcA
              obtain ⟨ea, hRH', -, -⟩ := hRH.push (e := .inl (cA 2, z.toNat, .inl (fun _ => 0))) (q := q) hal ⟨by decide, _, rfl, fun _ => rfl⟩
              have := k H1 locs ls (.ref q :: s1) [q] (ws ++ [(q, .inl (cA 2, z.toNat, .inl (fun _ => 0)))]) ⟨hRL.app _, ⟨_, _, rfl, by rw [ea]; exact ⟨q, by simp, rfl⟩, hRS.app _⟩, hRH', g1, g2, g3⟩
              rw [hnx.1, hnx.2, Nat.add_sub_cancel_left, Nat.add_sub_cancel_left] at this
              exact this
            · cases hstep
          · cases hstep
        · cases hstep
      | _ => cases harr
  | new i =>
    simp only [mm_okI, mm_okD, Bool.and_eq_true, decide_eq_true_eq] at hok
    obtain ⟨hd, h1, hcl⟩ := hok
    subst h1
    split at hcl
    · next C T N hv =>
      simp only [Bool.and_eq_true, decide_eq_true_eq, List.all_eq_true, List.mem_range] at hcl
      obtain ⟨⟨⟨hl1, hl2⟩, hl3⟩, htys⟩ := hcl
      obtain ⟨hin1, hty1, hnm1⟩ := mm_cls_ok _ _ _ _ hv
      simp only [mm_step, mm_new] at hstep
      split at hstep
      · next a h' hal =>
        simp only [Option.some.injEq, Sum.inl.injEq] at hstep
        subst hstep
        have hfs : ∀ (as' : List Nat), mm_RS b as' (mm_blank xx) ((List.range N).map (fun j => defaultValue (mm_ty xx j))) := by
          intro as'
          unfold mm_blank
          rw [hv]
          have key : ∀ (l : List Nat), (∀ j ∈ l, j < N) → mm_RS b as' (l.map (fun k => mm_dfl (mm_ty xx k))) (l.map (fun j => defaultValue (mm_ty xx j))) := by
            intro l
            induction l with
            | nil => intro _; exact rfl
            | cons j l ih =>
              intro hl
              refine ⟨_, _, rfl, ?_, ih (fun i hi => hl i (List.mem_cons_of_mem _ hi))⟩
              show mm_R b as' (mm_dfl (mm_ty xx j)) (defaultValue (mm_ty xx j))
              have h9 := htys j (hl j List.mem_cons_self)
              split at h9
              · next e9 => rw [e9]; exact ⟨0, rfl, rfl⟩
              · next e9 => rw [e9]; exact rfl
              · next e9 => rw [e9]; exact rfl
              · cases h9
          exact key _ (fun j hj => List.mem_range.mp hj)
        have hlen : (mm_blank xx).length = N := by unfold mm_blank; rw [hv]; simp
        have hnx := (hRH.push (e := .inr (xx, (List.range N).map (fun j => defaultValue (mm_ty xx j)))) (q := 0) hal ⟨_, rfl, hfs _⟩).2.2
        dsimp only at hcc hss k
        rw [hnx.1] at hcc
        rw [hnx.2, hlen] at hss
        refine va_new (D := D) (fs := (List.range N).map (fun j => defaultValue (mm_ty xx j))) hx hb hts hin1 (mm_ty xx) hty1 hown (hts _ (mm_pl_in hl1)) (hts _ (mm_pl_in hl2)) (hts _ (mm_pl_in hl3)) hK hP hD hS hA hv (fun j hj => by simp [vp_V, hj]) (by omega) (by omega) hd (fun q H1 g1 g2 g3 => ?_)
        obtain ⟨ea, hRH', -, -⟩ := hRH.push (e := .inr (xx, (List.range N).map (fun j => defaultValue (mm_ty xx j)))) (q := q) hal ⟨_, rfl, hfs _⟩
        have := k H1 locs ls (.ref q :: st) [q] (ws ++ [(q, .inr (xx, (List.range N).map (fun j => defaultValue (mm_ty xx j))))]) ⟨hRL.app _, ⟨_, _, rfl, by rw [ea]; exact ⟨q, by simp, rfl⟩, hRS.app _⟩, hRH', g1, g2, g3⟩
        rw [hnx.1, hnx.2, hlen, Nat.add_sub_cancel_left, Nat.add_sub_cancel_left] at this
        exact this
      · cases hstep
    · cases hcl
  | invokespecial i =>
    simp only [mm_okI, mm_okD, Bool.and_eq_true, decide_eq_true_eq] at hok
    obtain ⟨hd, h1, hcl⟩ := hok
    subst h1
    simp only [mm_step] at hstep
    split at hstep
    · next hk =>
      rw [if_pos hk] at hcl
      simp only [Bool.and_eq_true, decide_eq_true_eq] at hcl
      obtain ⟨⟨⟨hdep, hl1⟩, hl2⟩, hl3⟩ := hcl
      simp only [mm_objInit] at hstep
      split at hstep
      · next a rest =>
        split at hstep
        · next hcat =>
          simp only [Option.some.injEq, Sum.inl.injEq] at hstep
          subst hstep
          obtain ⟨w, s1, hst, hw, hRS⟩ := hRS
          subst hst
          obtain ⟨q, hq⟩ : ∃ q, w = .ref q := by
            match a, hw with
            | 1, hw2 => exact ⟨_, hw2⟩
            | j + 2, ⟨q, _, hw2⟩ => exact ⟨q, hw2⟩
          subst hq
          have hcs := hRS.cat
          refine W.objInit hx hb hown (hts _ (mm_pl_in hl1)) (hts _ (mm_pl_in hl2)) (hts _ (mm_pl_in hl3)) rfl (by rw [hml]; exact hRL.1) rfl hd (by omega) ?_ (W.eq (g2 := F0 m (pc + 3) ls s1) rfl (k0 rfl _ _ hRL hRS))
          show 2 * 0 + _ + 12 ≤ _
          rw [hcs]
          omega
        · cases hstep
      · cases hstep
    · next hk =>
      exfalso
      simp only [mm_callI] at hstep
      split at hstep
      · split at hstep
        · cases hstep
        · cases hstep
      · cases hstep
  | invokestatic i =>
    exfalso
    simp only [mm_step, mm_callS] at hstep
    split at hstep
    · cases hstep
    · cases hstep
  | invokevirtual i =>
    exfalso
    simp only [mm_step, mm_callV] at hstep
    split at hstep
    · split at hstep
      · split at hstep
        · cases hstep
        · cases hstep
      · cases hstep
    · cases hstep
  | ireturn =>
    exfalso
    simp only [mm_step, mm_iret] at hstep
    split at hstep
    · split at hstep
      · cases hstep
      · cases hstep
    · cases hstep
  | areturn =>
    exfalso
    simp only [mm_step, mm_aret] at hstep
    split at hstep
    · cases hstep
    · cases hstep
  | return_ =>
    exfalso
    simp only [mm_step] at hstep
    split at hstep
    · cases hstep
    · cases hstep
  | _ =>
    simp [mm_step] at hstep
end SIM
