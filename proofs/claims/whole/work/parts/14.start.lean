def mm_h0 (L : Nat) (f : Nat → Int) : mm_H := fun a => match a with
  | 0 => .inl (100, 2, fun _ => 0)
  | 1 => .inl (3, L, f)
  | _ => mm_dead
def R_law : String := "WideNamesLaw"
def lw_P (b : Addr) (xs : List Int32) (args : Array Value) (s : State) : Prop := args = #[.ref b] ∧ s.IntsAt b xs ∧ xs.length ≤ 320 ∧ (Jvm.Cond.and given_1 narrow_1).before args s = true
def lw_Q (_ : Array Value) (s : State) (o : Outcome) (t : State) : Prop := o = .returned (some (.int 1)) ∧ Framed s o t [] 600000 7302250
def lw_Z (below : List Frame) (a : Array Value) (s : State) : State → Prop := fun t => ∃ o, t.status = .running ∧ Ended t below o ∧ lw_Q a s o t
/-- the law's own end, with 1 on the stack, nothing written that was there before, its room as the claim has it -/
theorem lw_ret {p : Program} {l : Launch} {e : Env} {s : State} {m : MethodId} {below : List Frame} {meth : Method} {c : Code} {b : Nat} (hx : p.tables.exec = Jvm.exec) (hb : c.code = code) (hr : meth.sig.returnType = ret) (hlocks : meth.locks = false) {pc : Nat} {H : Heap} {ls : Array Slot} (hdg : decode code pc = .ok (.ireturn, 1)) : W p l e room_1 s m #[Value.ref b] below meth c H [] 600000 7302250 (lw_Z below #[Value.ref b] s) (F0 m pc ls [.int 1]) := by
  intro T hT X
  obtain ⟨fs, hret, hrun, hended, hW, hframe⟩ := X.leave (v := some (.int 1)) (hlocks := hlocks) (fun h => by rw [hr] at h; cases h)
  have hmeth' : T.vm.method? m = some meth := X.method'
  refine ⟨T.setFrames fs, ?_, .returned (some (.int 1)), hrun, hended, rfl, ⟨_, rfl⟩, hW, hframe⟩
  jvm_step X.here [X.here.top, hx, hb, hdg, hmeth', hr, ret, narrow_b1]
  (try refine ⟨rfl, ?_⟩); (try refine ⟨rfl, ?_⟩)
  first | (intro acts; rw [hret _ acts rfl rfl rfl]) | rw [hret _ _ rfl rfl rfl]
  exact Steps.refl _
def lw_At (p : Program) (s : State) (m : MethodId) (meth : Method) (c : Code) (b L : Nat) (xs : Nat → Int32) : Prop :=
  p.tables.exec = Jvm.exec ∧ c.code = code ∧ meth.sig.returnType = ret ∧ c.maxLocals = 4 ∧ s.vm.findClass R_law = some m.cls ∧ (∀ w ∈ lw_tbl, w.before #[Value.ref b] s = true) ∧ va_X b L xs s s.heap ∧ b < s.heap.size ∧ meth.locks = false ∧ (Jvm.Cond.and given_1 narrow_1).before #[Value.ref b] s = true
theorem mm_inst : ∀ (k : Nat) (q : vw_C), vwCl[k]? = some q → Jvm.Cond.instantiable q.1 q.2.2 ∈ lw_tbl := by
  have h : vwCl.all (fun q => decide (Jvm.Cond.instantiable q.1 q.2.2 ∈ lw_tbl)) = true := by decide +kernel
  intro k q hq
  exact of_decide_eq_true (List.all_eq_true.mp h q (List.mem_of_getElem? hq))
/-- what is left to show: the law on the small machine -/
def mm_Law : Prop := ∀ (L : Nat) (f : Nat → Int), L ≤ 320 → (∀ j, -2147483648 ≤ f j ∧ f j < 2147483648) → ∃ (n : Nat) (h' : mm_H), mm_run n 0 (0, [.inr (.inr (some 1)), mm_null, mm_null, mm_null], [], mm_h0 L f) = some (some (.inl 1), h') ∧ mm_nx h' ≤ 600002 ∧ mm_sl h' ≤ 7302350
set_option maxHeartbeats 4000000 in
theorem mm_start (HL : mm_Law) {p : Program} {e : Env} {s : State} {m : MethodId} {below : List Frame} {meth : Method} {c : Code} (l : Launch) {b L : Nat} {xs : Nat → Int32} (hL : L ≤ 320) (C0 : lw_At p s m meth c b L xs) : W p l e room_1 s m #[Value.ref b] below meth c s.heap [] 0 0 (lw_Z below #[Value.ref b] s) (entryFrame m ([Value.ref b] : List Value).toArray 4) := by
  obtain ⟨hx, hb, hr, hml, hown, hts0, hX, hbl, hlocks, hgv⟩ := id C0
  have hts := mm_tbl_hts hts0
  obtain ⟨cA0, ha0⟩ := mm_arrK.1 (hts _ mm_arrcls.1)
  obtain ⟨cA1, ha1⟩ := mm_arrK.2.1 (hts _ mm_arrcls.2.1)
  obtain ⟨cA2, ha2⟩ := mm_arrK.2.2 (hts _ mm_arrcls.2.2)
  let cA : Nat → ClassId := fun k => if k = 0 then cA0 else if k = 1 then cA1 else cA2
  have hcls : ∀ (k : Nat), ∃ (d : ClassId × (Nat → Nat)), ∀ (q : vw_C), vwCl[k]? = some q → u_Kn s q.1 q.2.1 q.2.2 d.1 d.2 := by
    intro k
    cases hq : vwCl[k]? with
    | none => exact ⟨(cA0, fun _ => 0), fun q h => by cases h⟩
    | some q =>
      obtain ⟨C, T, N⟩ := q
      obtain ⟨cC, iS, hk⟩ := u_known hts (mm_cls_ok k C T N hq).1 (hts0 _ (mm_inst k _ hq))
      exact ⟨(cC, iS), fun q h => by cases h; exact hk⟩
  let dC : Nat → ClassId := fun k => (Classical.choose (hcls k)).1
  let dI : Nat → Nat → Nat := fun k => (Classical.choose (hcls k)).2
  have hK : va_K (dC, dI) vwCl (mm_tys cA) s := by
    refine ⟨fun k q hq => Classical.choose_spec (hcls k) q hq, fun k q hk => ?_⟩
    match k, hk with
    | 0, hk => cases hk; exact ha0
    | 1, hk => cases hk; exact ha1
    | 2, hk => cases hk; exact ha2
    | j + 3, hk => simp [mm_tys] at hk
  have hP : va_P (dC, dI) vwCl [] s.heap := fun k q h => by simp at h
  have hD : va_D (fun q : Nat => s.heap.size ≤ q) [] := ⟨fun i j p q h => by simp at h, fun k q h => by simp at h⟩
  obtain ⟨n, h', hrun, hn1, hn2⟩ := HL L (fun j => (xs j).toInt) hL (fun j => mm_rng (xs j))
  have C : mm_Cx p s m #[Value.ref b] meth c 0 (dC, dI) cA b L xs (fun q : Nat => s.heap.size ≤ q) room_1 :=
    ⟨hx, hb, hml, hown, hts, hr, hlocks, fun h => absurd h (by decide), hK, hX, hbl, Nat.not_le.mpr hbl, fun _ h => h, by decide +kernel, by decide +kernel⟩
  have hRS : mm_RS b [] [.inr (.inr (some 1))] [.ref b] := ⟨_, _, rfl, rfl, rfl⟩
  have hRH : mm_RH cA b L xs [] [] (mm_h0 L (fun j => (xs j).toInt)) := ⟨⟨100, _, rfl, Nat.le_refl _⟩, ⟨_, rfl, fun _ => rfl⟩, rfl, fun k a h => by simp at h, fun k _ => rfl⟩
  have hc0 : mm_c0 (mm_h0 L (fun j => (xs j).toInt)) := ⟨100, 2, _, rfl, Nat.le_refl _, Nat.le_refl _⟩
  have he := mm_entry (n := 4) hRS (by decide)
  rw [lg_entry_eq]
  have hnx : mm_nx (mm_h0 L (fun j => (xs j).toInt)) = 2 := rfl
  have hsl : mm_sl (mm_h0 L (fun j => (xs j).toInt)) = 100 := rfl
  refine mm_sim l n 0 (0, [.inr (.inr (some 1)), mm_null, mm_null, mm_null], [], mm_h0 L (fun j => (xs j).toInt)) _ hrun hc0 p e room_1 s m _ below meth c (dC, dI) cA b L xs _ C s.heap [] 0 0 _ [] [] _ [] ⟨he, rfl, hRH, hP, hD, va_S.rf⟩ ?_ ?_ ?_
  · dsimp only; rw [hnx]; show 0 + (mm_nx h' - 2) ≤ 600000; omega
  · dsimp only; rw [hsl]; show 0 + (mm_sl h' - 100) ≤ 7302250; omega
  · intro pc' I ls1 st1 H' locs' ls' st' as2 ws' hcode hst hat
    dsimp only
    rw [hnx, hsl]
    have hok := mm_ok_all hcode
    have hrn := mm_ret_none (by decide) hcode
    obtain ⟨-, hc⟩ := mm_step_ret hst
    obtain ⟨hRL', hRS', hRH', hP', hD', hS'⟩ := hat
    obtain ⟨ins, len, cst, xx, kk, pls⟩ := I
    rcases hc with ⟨hI, hst0, hr1⟩ | ⟨hI, z, hst0, hr1, hz⟩ | ⟨hI, a, hst0, hr1⟩
    · cases hr1
    · dsimp only at hI hr1
      cases hr1
      subst hI
      subst hst0
      obtain ⟨w, s2, hst', ⟨x, hw, hx1⟩, hs2⟩ := hRS'
      have hs2' : s2 = [] := hs2
      subst hst' hw hs2'
      have hx2 : x = 1 := Int32.toInt_inj.mp hx1
      subst hx2
      simp only [mm_okI, mm_okD, Bool.and_eq_true, decide_eq_true_eq] at hok
      obtain ⟨hd, hl1, -⟩ := hok
      subst hl1
      refine va_forget (fun q hq => hS'.2.2 q hq) ?_
      refine W.widen (k := 600000) (n := 7302250) (by omega) (by omega) ?_
      exact lw_ret hx hb hr hlocks hd
    · cases hr1
