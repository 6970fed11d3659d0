set_option maxHeartbeats 4000000 in
theorem mm_sim (l : Launch) : ∀ n, mm_Sim l n := by
  intro n
  induction n with
  | zero => intro y f r h; simp [mm_run] at h
  | succ n ih =>
    intro y f r h h0 p e R s m args below meth c D cA b L xs A C H locs cells slots Q as ws ls st hat hcc hss hend
    unfold mm_run at h
    cases hc : mm_code y f.1 with
    | none => rw [hc] at h; cases h
    | some I =>
      rw [hc] at h
      dsimp only at h
      have hok := mm_ok_all hc
      cases hstep : mm_step I f.1 f.2.1 f.2.2.1 f.2.2.2 with
      | none => rw [hstep] at h; cases h
      | some o =>
        rw [hstep] at h
        rcases o with f' | r' | ⟨m', vs, pc', mls', rest, h1⟩
        · -- a simple step
          dsimp only at h
          have le1 := mm_step_le h0 hstep
          have le2 := mm_run_le _ _ _ _ h le1.1
          refine mm_sim1 C hok hat hstep (by have := le1.2.1; have := le2.2.1; omega) (by have := le1.2.2; have := le2.2.2; omega) (fun H' locs' ls' st' as2 ws' hat' => ?_)
          refine ih y f' r h le1.1 p e R s m args below meth c D cA b L xs A C H' locs' _ _ Q (as ++ as2) ws' ls' st' hat' (by have := le1.2.1; have := le2.2.1; omega) (by have := le1.2.2; have := le2.2.2; omega) ?_
          intro pc2 I2 ls2 st2 H2 locs2 ls3 st3 as3 ws3 g1 g2 g3
          have := hend pc2 I2 ls2 st2 H2 locs2 ls3 st3 (as2 ++ as3) ws3 g1 g2 (by rw [← List.append_assoc]; exact g3)
          exact W.cs (by have := le1.2.1; have := le2.2.1; omega) (by have := le1.2.2; have := le2.2.2; omega) this
        · -- the end
          simp only [Option.some.injEq] at h
          subst h
          obtain ⟨e1, -⟩ := mm_step_ret hstep
          have := hend f.1 I f.2.1 f.2.2.1 H locs ls st [] ws hc (by rw [e1]; exact hstep) (by rw [List.append_nil, e1]; exact hat)
          rw [e1] at this
          exact W.cs (by omega) (by omega) this
        · -- a call
          dsimp only at h
          obtain ⟨e1, e2, e3, e4, -, hcat, hkind⟩ := mm_step_call hstep
          subst e1 e2 e3 e4
          have hl : (mm_spread vs).length ≤ mm_maxL I.2.2.2.1 := by
            rcases Nat.lt_or_ge (mm_maxL I.2.2.2.1) (mm_spread vs).length with g | g
            · rw [if_neg (by omega)] at h; cases h
            · exact g
          rw [if_pos hl] at h
          cases hr : mm_run n I.2.2.2.1 (0, mm_pad (mm_maxL I.2.2.2.1) (mm_spread vs), [], f.2.2.2) with
          | none => rw [hr] at h; cases h
          | some r0 =>
            rw [hr] at h
            dsimp only at h
            have le1 : mm_le f.2.2.2 r0.2 := mm_run_le n I.2.2.2.1 (0, mm_pad (mm_maxL I.2.2.2.1) (mm_spread vs), [], f.2.2.2) r0 hr h0
            have le2 : mm_le r0.2 r.2 := mm_run_le n y (f.1 + 3, f.2.1, r0.1.toList ++ rest, r0.2) r h le1.1
            obtain ⟨hRL, hRS, hRH, hP, hD, hS⟩ := hat
            obtain ⟨hx, hb, hml, hown, hts, hrt, hlk, hini, hK, hX, hbl, hbA, hA, hfr, hlo⟩ := id C
            have hcat8 : ∀ {rv : List Value}, mm_RS b as rest rv → (rv.map fun v => v.category).sum ≤ 8 := fun g => by rw [g.cat]; exact hcat
            have hAin : ∀ q, va_A ws H.size q → A q := fun q hq => by
              rcases hq with ⟨k, e, hk⟩ | hq
              · exact hD.2 k _ hk
              · exact hA q (Nat.le_trans hS.1 hq)
            have hXH : H[b]? = s.heap[b]? := hS.2.1 b hbl hbA
            have hB : ∀ (U : State), U.heap = H → s.WarmedH U.vm → mm_B D cA b L xs ws H.size U := fun U hU hW =>
              ⟨by rw [hU], by rw [hU]; exact hP, hK.moved hW.alike, hD.weaken (fun _ _ _ _ => trivial), by rw [hU]; exact (hX.moved hW.alike).kept hXH, by rw [hU]; exact Nat.lt_of_lt_of_le hbl hS.1, fun q => hbA (hAin b q)⟩
            have hfix : CallFix p m c (mm_bytes y) (mm_maxL y) s args mm_tbl (mm_cls y) := ⟨hx, hb, hml, hown, hts⟩
            have hfit : cells + (mm_nx r0.2 - mm_nx f.2.2.2) ≤ R.cells ∧ slots + (mm_sl r0.2 - mm_sl f.2.2.2) ≤ R.slots := ⟨by have := le1.2.1; have := le2.2.1; omega, by have := le1.2.2; have := le2.2.2; omega⟩
            have hcb : ∀ {idx k : Nat}, mm_okC y I idx I.2.2.2.1 = true → k = I.2.2.2.2.1 → (Cond.initialized (mm_cls I.2.2.2.1)).before args s = true → I.2.2.2.1 < 191 ∧ mm_dep I.2.2.2.1 < mm_dep y ∧
                CallB R s args (mm_cls y) idx (mm_name I.2.2.2.1) (mm_bytes I.2.2.2.1) (mm_maxL I.2.2.2.1) (mm_ret I.2.2.2.1) (mm_ws I.2.2.2.1) (mm_rm I.2.2.2.1 (mm_nx r0.2 - mm_nx f.2.2.2) (mm_sl r0.2 - mm_sl f.2.2.2)) (mm_nx r0.2 - mm_nx f.2.2.2) (mm_sl r0.2 - mm_sl f.2.2.2) k := by
              intro idx k hC hk hinit
              simp only [mm_okC, Bool.and_eq_true, decide_eq_true_eq] at hC
              obtain ⟨⟨hp0, hm1, hm2, hdep, hmx, -⟩, hcl⟩ := hC
              subst hk
              refine ⟨hm2, hdep, callB_of _ hts (mm_gin (fun w hw => ?_)) rfl rfl rfl hinit (hts _ (mm_pl_in hp0)) hcl ⟨by show mm_dep I.2.2.2.1 + 1 ≤ R.frames; omega, by show 8 + (mm_maxL I.2.2.2.1 + 11) + 39 * mm_dep I.2.2.2.1 ≤ R.locals; omega⟩⟩
              rcases List.mem_cons.mp hw with e | hw
              · rw [e]; exact mm_code_in _ hm1 hm2
              · exact hw
            have hgo : ∀ (rv : List Value) (av : Array Value), mm_RS b as rest rv → va_Run p l e R s m args below meth c H locs cells slots (mm_nx r0.2 - mm_nx f.2.2.2) (mm_sl r0.2 - mm_sl f.2.2.2) (F0 m f.1 ls st) rv (mm_Qc D cA b L xs as (va_A ws H.size) r0 av) (va_A ws H.size) → W p l e R s m args below meth c H locs cells slots Q (F0 m f.1 ls st) := by
              intro rv av hrv hrun
              refine mm_callG (PB := mm_PB D cA b L xs as (va_A ws H.size) r0) hrun hS (fun q _ hq => hAin q hq) hAin (fun v t H1 locs1 ht hvm hpb hS1 => ?_)
              obtain ⟨as2, ws', hRO, hRH', hP', hK', hD'⟩ := hpb
              refine ih y (f.1 + 3, f.2.1, r0.1.toList ++ rest, r0.2) r h le1.1 p e R s m args below meth c D cA b L xs A C H1 locs1 _ _ Q (as ++ as2) ws' ls _ ⟨hRL.app _, hRO.stack (hrv.app _), hRH', by rw [← ht]; exact hP', hD'.weaken (fun _ _ _ hq => hAin _ hq), hS1⟩ (by have := le1.2.1; have := le2.2.1; dsimp only; omega) (by have := le1.2.2; have := le2.2.2; dsimp only; omega) ?_
              intro pc2 I2 ls2 st2 H2 locs2 ls3 st3 as3 ws3 g1 g2 g3
              have := hend pc2 I2 ls2 st2 H2 locs2 ls3 st3 (as2 ++ as3) ws3 g1 g2 (by rw [← List.append_assoc]; exact g3)
              refine W.cs ?_ ?_ this
              · have := le1.2.1; have := le2.2.1; dsimp only; omega
              · have := le1.2.2; have := le2.2.2; dsimp only; omega
            rcases hkind with ⟨i, hI, hk, hvs, hrest⟩ | ⟨i, a, hI, hdrop, hvs, fs, hobj⟩ | ⟨i, a, hI, hk1000, hdrop, hvs⟩
            · -- static
              obtain ⟨ins, len, cst, xx, kk, pls⟩ := I
              dsimp only at hI
              subst hI
              simp only [mm_okI, mm_okD, Bool.and_eq_true, decide_eq_true_eq] at hok
              obtain ⟨hd, ⟨⟨⟨hlen, hC⟩, hkd⟩, hst1⟩, hin1⟩ := hok
              subst hlen
              dsimp only at *
              obtain ⟨hm2, hdep, hCB⟩ := hcb (k := kk) hC rfl (hts _ (mm_pl_in hin1))
              have hlenS := hRS.len
              have hsv : mm_RS b as vs ((st.take kk).reverse) := by rw [hvs]; exact (hRS.take kk).rev
              have hrv : mm_RS b as rest (st.drop kk) := by rw [hrest]; exact hRS.drop kk
              refine hgo (st.drop kk) ((st.take kk).reverse).toArray hrv (va_runS (n := kk) (As := (st.take kk).reverse) hfix (mm_met (ih) hm2 hr h0 hl hsv hRH H.size) ⟨hCB, hts _ (mm_pl_in hst1)⟩ ⟨mm_blind, fun U hU hW => ⟨rfl, hB U hU hW⟩⟩ rfl (by rw [List.length_reverse, List.length_take]; omega) hRL.1 (by rw [List.reverse_reverse]; exact (List.take_append_drop kk st).symm) (lv_room (hcat8 hrv)) hd hfit)
            · -- of an object
              obtain ⟨ins, len, cst, xx, kk, pls⟩ := I
              dsimp only at hI
              subst hI
              simp only [mm_okI, mm_okD, Bool.and_eq_true, decide_eq_true_eq] at hok
              obtain ⟨hd, ⟨⟨⟨⟨⟨hlen, hC⟩, hkd⟩, hst1⟩, hsel⟩, hin1⟩, hvc⟩ := hok
              subst hlen
              dsimp only at *
              obtain ⟨hm2, hdep, hCB⟩ := hcb (k := kk) hC rfl (hts _ (mm_pl_in hin1))
              have hlenS := hRS.len
              have hdr := hRS.drop kk
              rw [hdrop] at hdr
              obtain ⟨w, rv, hdv, hw, hrv⟩ := hdr
              obtain ⟨q0, q, gs, ea, ew, ha, hwq, hfs⟩ := hRH.obj hobj hw
              have hsv : mm_RS b as vs (w :: (st.take kk).reverse) := by rw [hvs]; exact ⟨w, _, rfl, hw, (hRS.take kk).rev⟩
              split at hvc
              · next C0 T0 N0 hcl =>
                have hvc := of_decide_eq_true hvc
                subst ew
                have hklt : kk < st.length := by
                  rcases Nat.lt_or_ge kk st.length with g | g
                  · exact g
                  · rw [List.drop_eq_nil_of_le g] at hdv; cases hdv
                obtain ⟨cell, hc1, hc2, hc3⟩ := va_recv hK hP (ci := cst.toNat) (q0 := q0) hcl hwq
                refine hgo rv (Value.ref q :: (st.take kk).reverse).toArray hrv (va_runV (n := kk) (C := mm_cls xx) (b := q) (As := (st.take kk).reverse) hfix (mm_met (ih) hm2 hr h0 hl hsv hRH H.size) ⟨hCB, hts _ (mm_pl_in hst1), hts _ (mm_pl_in hsel)⟩ ⟨mm_blind, ⟨cell, hc1, hc2, by rw [← hvc]; exact hc3⟩, fun U hU hW => ⟨rfl, hB U hU hW⟩⟩ rfl (by rw [List.length_reverse, List.length_take]; omega) hRL.1 (by rw [List.reverse_reverse, ← hdv]; exact (List.take_append_drop kk st).symm) (lv_room (hcat8 hrv)) hd hfit)
              · cases hvc
            · -- a constructor
              obtain ⟨ins, len, cst, xx, kk, pls⟩ := I
              dsimp only at hI
              subst hI
              dsimp only at hk1000
              simp only [mm_okI, mm_okD, Bool.and_eq_true, decide_eq_true_eq] at hok
              rw [if_neg hk1000] at hok
              simp only [Bool.and_eq_true, decide_eq_true_eq] at hok
              obtain ⟨hd, hlen, ⟨⟨⟨⟨hC, hkd⟩, hst1⟩, hin1⟩, hnm⟩, hrn⟩ := hok
              subst hlen
              dsimp only at *
              obtain ⟨hm2, hdep, hCB⟩ := hcb (k := kk) hC rfl (hts _ (mm_pl_in hin1))
              have hlenS := hRS.len
              have hdr := hRS.drop kk
              rw [hdrop] at hdr
              obtain ⟨w, rv, hdv, hw, hrv⟩ := hdr
              obtain ⟨q, ew⟩ : ∃ q, w = .ref q := by
                match a, hw with
                | 1, hw2 => exact ⟨_, hw2⟩
                | j + 2, ⟨q, _, hw2⟩ => exact ⟨q, hw2⟩
              have hsv : mm_RS b as vs (w :: (st.take kk).reverse) := by rw [hvs]; exact ⟨w, _, rfl, hw, (hRS.take kk).rev⟩
              subst ew
              have hklt : kk < st.length := by
                rcases Nat.lt_or_ge kk st.length with g | g
                · exact g
                · rw [List.drop_eq_nil_of_le g] at hdv; cases hdv
              rw [hrn] at hCB
              refine hgo rv (Value.ref q :: (st.take kk).reverse).toArray hrv (va_runI (n := kk) (b := q) (As := (st.take kk).reverse) hfix (mm_met (ih) hm2 hr h0 hl hsv hRH H.size) ⟨hCB, hnm, hts _ (mm_pl_in hst1)⟩ ⟨mm_blind, fun U hU hW => ⟨rfl, hB U hU hW⟩⟩ rfl (by rw [List.length_reverse, List.length_take]; omega) hRL.1 (by rw [List.reverse_reverse, ← hdv]; exact (List.take_append_drop kk st).symm) (lv_room (hcat8 hrv)) hd hfit)
