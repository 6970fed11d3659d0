/-! THE SMALL MACHINE'S RUNS ARE THE STATEMENT'S: a run of the small machine is followed by the Statement's machine, calls and all. -/
theorem mm_retchk : (List.range 191).all (fun y => (mm_tabs.getD y []).all (fun q => decide (q.2.1 = .return_ → mm_ret y = none))) = true := by decide +kernel
theorem mm_code_mem {y pc : Nat} {I : mm_I} (h : mm_code y pc = some I) : (pc, I) ∈ mm_tabs.getD y [] := mm_lookup_mem _ _ _ h
theorem mm_ret_none {y pc : Nat} {I : mm_I} (hy : y < 191) (h : mm_code y pc = some I) (hI : I.1 = .return_) : mm_ret y = none := by
  have h1 := List.all_eq_true.mp mm_retchk y (List.mem_range.mpr hy)
  have h2 := List.all_eq_true.mp h1 _ (mm_code_mem h)
  exact (of_decide_eq_true h2) hI
theorem mm_arrK {args : Array Value} {s : State} : ((Cond.arrayClass .int).before args s = true → ∃ cA, ArrOfT s cA .int ∧ va_RA s cA .int) ∧ ((Cond.arrayClass .boolean).before args s = true → ∃ cA, ArrOfT s cA .boolean ∧ va_RA s cA .boolean) ∧ ((Cond.arrayClass .byte).before args s = true → ∃ cA, ArrOfT s cA .byte ∧ va_RA s cA .byte) := by
  refine ⟨fun h => ?_, fun h => ?_, fun h => ?_⟩
  all_goals
    obtain ⟨cA, kA, comp, h1, h2, h3⟩ := Cond.arrayClass_spec h
    exact ⟨cA, fun n z => ⟨fun k h => (by cases h), kA, h2, comp, h3⟩, h1⟩
theorem mm_callG {p : Program} {l : Launch} {e : Env} {R : Room} {s : State} {m : MethodId} {args : Array Value} {below : List Frame} {meth : Method} {c : Code} {H : Heap} {locs : List Loc} {cells slots mc ms : Nat} {Q : State → Prop} {pc : Nat} {ls : Array Slot} {rest st0 : List Value} {A0 A1 : Nat → Prop} {H0 : Heap} {free : Addr → Prop} {PB : Option Value → State → Prop}
    (hr : va_Run p l e R s m args below meth c H locs cells slots mc ms (F0 m pc ls st0) rest (fun st oc t => (∃ v, oc = .returned v ∧ PB v t) ∧ va_F A1 st t) free) (hS : va_S A0 H0 H locs) (hA : ∀ q, q < H.size → A1 q → A0 q) (hf : ∀ q, free q → A0 q)
    (kk : ∀ (v : Option Value) (t : State) (H1 : Heap) (locs1 : List Loc), t.heap = H1 → s.vm.Alike t.vm → PB v t → va_S A0 H0 H1 locs1 → W p l e R s m args below meth c H1 locs1 (cells + mc) (slots + ms) Q (F0 m (pc + 3) ls (v.toList ++ rest))) :
    W p l e R s m args below meth c H locs cells slots Q (F0 m pc ls st0) := by
  intro T hT X
  obtain ⟨v, st₀, t, T', L, h0, X', hL, e1, e2, ⟨⟨w, hv, hp⟩, hz, hk⟩, st⟩ := hr T hT X
  cases hv
  rw [h0] at hz hk
  obtain ⟨t2, a1, b1⟩ := kk _ t T'.heap (locs ++ L) e1.symm (by rw [← e2]; exact X'.warmed.alike) hp
    ⟨Nat.le_trans hS.1 (by rw [e1]; exact hz), fun q h1 h2 => by rw [e1, hk q (Nat.lt_of_lt_of_le h1 hS.1) (fun z => h2 (hA q (Nat.lt_of_lt_of_le h1 hS.1) z))]; exact hS.2.1 q h1 h2, fun q hq => by
      rcases List.mem_append.mp hq with h | h
      · exact hS.2.2 q h
      · exact hf _ (hL q h)⟩ T' rfl X'
  exact ⟨t2, st t2 a1, b1⟩
def mm_PB (D : va_G) (cA : Nat → ClassId) (b L : Nat) (xs : Nat → Int32) (as : List Nat) (A : Nat → Prop) (r : Option mm_V × mm_H) (v : Option Value) (t : State) : Prop := ∃ (as2 : List Nat) (ws' : va_W), mm_RO b (as ++ as2) r.1 v ∧ mm_RH cA b L xs (as ++ as2) ws' r.2 ∧ va_P D vwCl ws' t.heap ∧ va_K D vwCl (mm_tys cA) t ∧ va_D A ws'
def mm_Qc (D : va_G) (cA : Nat → ClassId) (b L : Nat) (xs : Nat → Int32) (as : List Nat) (A : Nat → Prop) (r : Option mm_V × mm_H) : Array Value → State → Outcome → State → Prop := fun _ st oc t => (∃ v, oc = .returned v ∧ mm_PB D cA b L xs as A r v t) ∧ va_F A st t
def mm_B (D : va_G) (cA : Nat → ClassId) (b L : Nat) (xs : Nat → Int32) (ws : va_W) (sz : Nat) : State → Prop := fun U => U.heap.size = sz ∧ va_P D vwCl ws U.heap ∧ va_K D vwCl (mm_tys cA) U ∧ va_D (fun _ => True) ws ∧ va_X b L xs U U.heap ∧ b < U.heap.size ∧ ¬ va_A ws sz b
def mm_ws (m : Nat) : List Cond := Cond.code (mm_name m) (mm_bytes m) (mm_maxL m) (mm_ret m) :: mm_tbl
def mm_rm (m mc ms : Nat) : Room := { frames := mm_dep m, cells := mc, slots := ms, locals := 39 * mm_dep m }
def mm_End (p : Program) (l : Launch) (e : Env) (R : Room) (s : State) (m : MethodId) (args : Array Value) (below : List Frame) (meth : Method) (c : Code) (y : Nat) (D : va_G) (cA : Nat → ClassId) (b L : Nat) (xs : Nat → Int32) (A : Nat → Prop) (as : List Nat) (cells slots : Nat) (Q : State → Prop) (r : Option mm_V × mm_H) (h : mm_H) : Prop :=
  ∀ (pc' : Nat) (I : mm_I) (ls1 st1 : List mm_V) (H' : Heap) (locs' : List Loc) (ls' : Array Slot) (st' : List Value) (as2 : List Nat) (ws' : va_W), mm_code y pc' = some I → mm_step I pc' ls1 st1 r.2 = some (.inr (.inl r)) → mm_At s y D cA b L xs A ls1 st1 r.2 H' locs' ls' st' (as ++ as2) ws' →
    W p l e R s m args below meth c H' locs' (cells + (mm_nx r.2 - mm_nx h)) (slots + (mm_sl r.2 - mm_sl h)) Q (F0 m pc' ls' st')
def mm_Sim (l : Launch) (n : Nat) : Prop := ∀ (y : Nat) (f : mm_F) (r : Option mm_V × mm_H), mm_run n y f = some r → mm_c0 f.2.2.2 →
  ∀ (p : Program) (e : Env) (R : Room) (s : State) (m : MethodId) (args : Array Value) (below : List Frame) (meth : Method) (c : Code) (D : va_G) (cA : Nat → ClassId) (b L : Nat) (xs : Nat → Int32) (A : Nat → Prop), mm_Cx p s m args meth c y D cA b L xs A R →
  ∀ (H : Heap) (locs : List Loc) (cells slots : Nat) (Q : State → Prop) (as : List Nat) (ws : va_W) (ls : Array Slot) (st : List Value), mm_At s y D cA b L xs A f.2.1 f.2.2.1 f.2.2.2 H locs ls st as ws →
    cells + (mm_nx r.2 - mm_nx f.2.2.2) ≤ R.cells → slots + (mm_sl r.2 - mm_sl f.2.2.2) ≤ R.slots → mm_End p l e R s m args below meth c y D cA b L xs A as cells slots Q r f.2.2.2 →
    W p l e R s m args below meth c H locs cells slots Q (F0 m f.1 ls st)
theorem mm_ofWF {l : Launch} {y : MethodName} {ws ws' : List Cond} {rm : Room} {Pc : Array Value → State → Prop} {Qc : Array Value → State → Outcome → State → Prop} {mc ms : Nat} {free : Addr → Prop} {cc : ByteArray} {maxL : Nat} {ret : Option FieldType}
    (hy : plainFor y = true) (hw : ws = Cond.code y cc maxL ret :: ws')
    (body : ∀ p e s m args below meth c s₁, BodyLoose p l y (headSpec ws rm) cc maxL ret e s m args below meth c s₁ → c.maxLocals = maxL → Pc args s →
      W p l e (headSpec ws rm).room s m args below meth c s.heap [] 0 0 (MQ below Qc args s mc ms free) (entryFrame m args maxL)) : Met l y ws rm Pc Qc mc ms free := by
  refine MetFree.of_bodySF (code := cc) (maxLocals := maxL) (ret := ret) hy ?_ ?_
  · intro args s m h hn
    obtain ⟨meth, c, h1, h2, h3, h4, h5, h6, -, -⟩ := Cond.code_spec hn (atoms_spec (ws := ws) h _ (by rw [hw]; exact List.mem_cons_self))
    exact ⟨meth, c, h1, h2, h3, h4, h5, h6⟩
  · intro p e s m args below meth c s₁ B hml hP _
    have hh0 : s₁.heap = s.heap := by rw [B.state]; rfl
    obtain ⟨t, a1, o, b1, b2, b3⟩ := body p e s m args below meth c s₁ B hml hP s₁ hh0 (Stand.of_body B)
    exact ⟨t, o, a1, b1, b2, ⟨b3.1, b3.2⟩⟩
theorem mm_met {l : Launch} {n : Nat} (hs : mm_Sim l n) {m : Nat} (hm : m < 191) {vs : List mm_V} {h : mm_H} {r : Option mm_V × mm_H} (hrun : mm_run n m (0, mm_pad (mm_maxL m) (mm_spread vs), [], h) = some r) (h0 : mm_c0 h) (hl : (mm_spread vs).length ≤ mm_maxL m)
    {D : va_G} {cA : Nat → ClassId} {b L : Nat} {xs : Nat → Int32} {as : List Nat} {ws : va_W} {vals : List Value} (hRS : mm_RS b as vs vals) (hRH : mm_RH cA b L xs as ws h) (sz : Nat) :
    Met l (mm_name m) (mm_ws m) (mm_rm m (mm_nx r.2 - mm_nx h) (mm_sl r.2 - mm_sl h)) (va_Pc vals (mm_B D cA b L xs ws sz)) (mm_Qc D cA b L xs as (va_A ws sz) r) (mm_nx r.2 - mm_nx h) (mm_sl r.2 - mm_sl h) (va_A ws sz) := by
  refine mm_ofWF (cc := mm_bytes m) (maxL := mm_maxL m) (ret := mm_ret m) (mm_plain hm).1 rfl ?_
  intro p e s mid args below meth c s₁ B hml hv
  obtain ⟨rfl, hsz, hP, hK, hD0, hX, hbl, hbA⟩ := hv
  have hts0 := atoms_spec (ws := mm_ws m) B.pre
  have hts : ∀ w ∈ mm_tbl, w.before vals.toArray s = true := fun w hw => hts0 w (List.mem_cons_of_mem _ hw)
  have hown : s.vm.findClass (mm_cls m) = some mid.cls := findClass_of_methodNamed B.named
  subst hsz
  have hA : ∀ q, s.heap.size ≤ q → va_A ws s.heap.size q := fun q h => Or.inr h
  have C : mm_Cx p s mid vals.toArray meth c m D cA b L xs (va_A ws s.heap.size) (mm_rm m (mm_nx r.2 - mm_nx h) (mm_sl r.2 - mm_sl h)) :=
    ⟨B.exec, B.bytes, hml, hown, hts, B.returns, B.notSynchronized, fun hk => by rw [(name_of_methodNamed B.named B.method).1]; exact (mm_plain hm).2.2 hk, hK, hX, hbl, hbA, hA, Nat.le_refl _, Nat.le_refl _⟩
  rw [lg_entry_eq]
  refine hs m (0, mm_pad (mm_maxL m) (mm_spread vs), [], h) r hrun h0 p e _ s mid _ below meth c D cA b L xs _ C s.heap [] 0 0 _ as ws _ [] ⟨mm_entry hRS hl, rfl, hRH, hP, hD0.self, va_S.rf⟩ (by rw [Nat.zero_add]; exact Nat.le_refl _) (by rw [Nat.zero_add]; exact Nat.le_refl _) ?_
  intro pc' I ls1 st1 H' locs' ls' st' as2 ws' hcode hst hat
  have hok := mm_ok_all hcode
  have hrn := mm_ret_none hm hcode
  obtain ⟨-, hc⟩ := mm_step_ret hst
  obtain ⟨hRL', hRS', hRH', hP', hD', hS'⟩ := hat
  dsimp only
  rw [Nat.zero_add, Nat.zero_add]
  obtain ⟨ins, len, cst, xx, kk, pls⟩ := I
  rcases hc with ⟨hI, hst0, hr1⟩ | ⟨hI, z, hst0, hr1, hz⟩ | ⟨hI, a, hst0, hr1⟩
  · dsimp only at hI
    subst hI
    subst hst0
    have hst' : st' = [] := hRS'
    subst hst'
    simp only [mm_okI, mm_okD, Bool.and_eq_true, decide_eq_true_eq] at hok
    obtain ⟨hd, hl1⟩ := hok
    subst hl1
    refine W.vret B.exec B.bytes (B.returns.trans (hrn rfl)) (fun t ht hW => ⟨⟨none, rfl, as2, ws', ?_, hRH', by rw [ht]; exact hP', hK.moved hW.alike, hD'⟩, hS'.F ht⟩) hS'.2.2 hd B.notSynchronized
    rw [hr1]
    exact rfl
  · dsimp only at hI hz
    subst hI
    subst hst0
    obtain ⟨w, s2, hst', ⟨x, hw, hx⟩, hs2⟩ := hRS'
    have hs2' : s2 = [] := hs2
    subst hst' hw hs2'
    simp only [mm_okI, mm_okD, Bool.and_eq_true, decide_eq_true_eq] at hok
    obtain ⟨hd, hl1, hret⟩ := hok
    subst hl1
    have hq : ∀ t : State, t.heap = H' → s.WarmedH t.vm → mm_Qc D cA b L xs as (va_A ws s.heap.size) r vals.toArray s (.returned (some (.int x))) t := fun t ht hW => ⟨⟨_, rfl, as2, ws', by rw [hr1]; exact ⟨_, rfl, x, rfl, hx⟩, hRH', by rw [ht]; exact hP', hK.moved hW.alike, hD'⟩, hS'.F ht⟩
    split at hret
    · next h1 =>
      have hret := of_decide_eq_true hret
      have hxz : x = 0 ∨ x = 1 := by
        rcases hz h1 with e | e
        · left; apply Int32.toInt_inj.mp; rw [hx, e]; rfl
        · right; apply Int32.toInt_inj.mp; rw [hx, e]; rfl
      refine W.zret B.exec B.bytes (B.returns.trans hret) ?_ hq hS'.2.2 hd B.notSynchronized
      rcases hxz with e | e
      · subst e; rfl
      · subst e; rfl
    · have hret := of_decide_eq_true hret
      exact W.iret B.exec B.bytes (B.returns.trans hret.2) hq hS'.2.2 hd B.notSynchronized
  · dsimp only at hI
    subst hI
    subst hst0
    obtain ⟨w, s2, hst', hw, hs2⟩ := hRS'
    have hs2' : s2 = [] := hs2
    subst hst' hs2'
    simp only [mm_okI, mm_okD, Bool.and_eq_true, decide_eq_true_eq] at hok
    obtain ⟨hd, hl1, hret⟩ := hok
    subst hl1
    obtain ⟨q, hq⟩ : ∃ q, w = .ref q := by
      match a, hw with
      | 1, hw2 => exact ⟨_, hw2⟩
      | j + 2, ⟨q, _, hw2⟩ => exact ⟨q, hw2⟩
    split at hret
    · next o ho =>
      refine W.aret B.exec B.bytes (B.returns.trans ho) (Or.inl ⟨_, rfl⟩) (Or.inr ⟨q, hq⟩) (fun t ht hW => ⟨⟨_, rfl, as2, ws', by rw [hr1]; exact ⟨_, rfl, hw⟩, hRH', by rw [ht]; exact hP', hK.moved hW.alike, hD'⟩, hS'.F ht⟩) hS'.2.2 hd B.notSynchronized
    · cases hret
theorem mm_blind {D : va_G} {cA : Nat → ClassId} {b L : Nat} {xs : Nat → Int32} {ws : va_W} {sz : Nat} {vals : List Value} : FrameBlind (va_Pc vals (mm_B D cA b L xs ws sz)) := fun a U g mk q => by
  obtain ⟨q0, q1, qP, qK, qD, qX, q2, q3⟩ := q
  exact ⟨q0, q1, qP, va_K.moved (u := U) (U := U.calling g mk a) (Vm.Alike.refl U.vm) qK, qD, va_X.moved (u := U) (U := U.calling g mk a) (Vm.Alike.refl U.vm) qX, q2, q3⟩
