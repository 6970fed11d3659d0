/-! DECODE: the model's side. -/
def mBack (σ : mk_S) (l : List Int) : Prop := σ 55 36 = (l.length : Int) ∧ arr σ 79 l
section MDEC
variable {L : Nat}
theorem lp_mins {o : List Int} {r : Nat} {a1 a2 a3 a4 a5 a6 a11 a12 a13 a14 a15 a18 a19 : mm_V} {n : Int} {Q : Option mm_V → mm_H → Prop} (hol : o.length ≤ 300) (hr : r ≤ o.length) : ∀ (q j : Nat) (σ : mk_S), j = r + q → j ≤ o.length → (∀ x, x < j → σ 79 x = o.getD x 0) → (∀ x, j < x → x ≤ o.length → σ 79 x = o.getD (x - 1) 0) →
    (∀ σ', (∀ x, x < r → σ' 79 x = o.getD x 0) → (∀ x, r < x → x ≤ o.length → σ' 79 x = o.getD (x - 1) 0) → mf [79] [] σ σ' → mm_X 172 394 [vP 55, a1, a2, a3, a4, a5, a6, vJ r, mm_null, vJ n, mm_null, a11, a12, a13, a14, a15, vI 0, vI r, a18, a19] [] (hp L σ') Q) →
    mm_X 172 363 [vP 55, a1, a2, a3, a4, a5, a6, vJ r, mm_null, vJ n, mm_null, a11, a12, a13, a14, a15, vI 0, vI (j : Nat), a18, a19] [] (hp L σ) Q := by
  intro q
  induction q with
  | zero =>
    intro j σ hj hjo g1 g2 kk
    have ej : j = r := by omega
    subst ej
    refine r_iload c_172_363 rfl <| r_i2l c_172_365 <| r_lload c_172_366 rfl <| r_lc_le c_172_368 c_172_369 (fun h368 => ?_) <| (fun h368 => ?_)
    · exact kk σ g1 g2 mf.rf
    · exact absurd h368 (by omega)
  | succ q ih =>
    intro j σ hj hjo g1 g2 kk
    refine r_iload c_172_363 rfl <| r_i2l c_172_365 <| r_lload c_172_366 rfl <| r_lc_le c_172_368 c_172_369 (fun h368 => ?_) <| (fun h368 => ?_)
    · exact absurd h368 (by omega)
    · refine r_aload_n c_172_372 rfl <| r_getf_a c_172_373 rfl rfl <| r_iload c_172_376 rfl <| r_aload_n c_172_378 rfl <| r_getf_a c_172_379 rfl rfl <| r_iload c_172_382 rfl <| r_iconst c_172_384 <| r_isub c_172_385 (by omega) <| r_iald c_172_386 rfl (Or.inl rfl) (jn := j - 1) (by omega) (by omega) <| r_iast c_172_387 rfl rfl (by omega) <| ?_
      refine r_iinc_20_17 c_172_388 rfl (by omega) <| r_goto c_172_391 <| ?_
      rw [g1 (j - 1) (by omega)]
      rw [show (j : Int) + -1 = ((j - 1 : Nat) : Int) by omega]
      refine ih (j - 1) _ (by omega) (by omega) (fun x hx => ?_) (fun x hx hx2 => ?_) (fun σ2 w1 w2 w3 => kk σ2 w1 w2 ((mf.rf.stA (by decide) (by decide)).tr w3))
      · rw [sto_at, st_ne (by omega)]; exact g1 x (by omega)
      · rw [sto_at]
        by_cases e : x = j
        · subst e; rw [st_at]
        · rw [st_ne e]; exact g2 x (by omega) hx2
theorem lp_mdI {ra na at0 : Nat} {l : List Int} {R : List Int × Int} (ha : kd L ra = .inl (0, na)) (hra : ra ≠ 55 ∧ ra ≠ 79) (hat : at0 + l.length ≤ na) (hna : na ≤ 2000) (hll : l.length ≤ 300) (hpl : ∀ j, j < l.length → -1 ≤ l.getD j 0 ∧ l.getD j 0 ≤ 2000000) : ∀ (q p : Nat) (n i old w k b : Int) (o : List Int) (σ : mk_S) (a4 : mm_V) (a5 : Int) (a18 a19 : mm_V) (Q : Option mm_V → mm_H → Prop), p + q = l.length → (q = 0 → k ≠ 36) → seg σ ra at0 l → mBack σ o → o.length ≤ 300 → 0 ≤ n → n ≤ 1114111 → 0 ≤ old → old ≤ i → i ≤ 2147483647 → 1 ≤ w → w ≤ 2147483647 → 36 ≤ k → k ≤ 36 + 36 * p → 0 ≤ b → b ≤ 1476 → R = deF (l.drop p) p n i old w k b o →
    (∀ σ', (R.2 = -1 → mBack σ' R.1) → mf [79] [36] σ σ' → Q (some (vI R.2)) (hp L σ')) →
    mm_X 172 147 [vP 55, vP ra, vI (at0 : Nat), vI (l.length : Nat), a4, vI a5, vI (p : Nat), vJ i, mm_null, vJ n, mm_null, vI b, vJ old, mm_null, vJ w, mm_null, vI 1, vI k, a18, a19] [] (hp L σ) Q := by
  intro q
  induction q with
  | zero =>
    intro p n i old w k b o σ a4 a5 a18 a19 Q hj hq hs ho hol h1 h2 h3 h4 h5 h6 h7 h8 h8b h9 h10 hR kk
    have ej : p = l.length := by omega
    subst ej
    rw [List.drop_length] at hR
    simp only [deF] at hR
    rw [if_neg (hq rfl)] at hR
    have kk := kk σ (fun h => absurd h (by rw [hR]; simp only []; omega)) mf.rf
    rw [hR] at kk
    refine r_iload c_172_147 rfl <| r_if_eq c_172_149 (fun h149 => ?_) <| (fun h149 => ?_)
    · exact absurd h149 (by omega)
    · refine r_iload c_172_152 rfl <| r_iload_n c_172_154 rfl <| r_icmp_ge c_172_155 (fun h155 => ?_) <| (fun h155 => ?_)
      · refine r_iconst c_172_170 <| r_istore_20_18 c_172_171 rfl <| r_iload c_172_173 rfl <| r_if_ge c_172_175 (fun h => absurd h (by decide)) <| (fun _ => ?_)
        refine r_iload c_172_178 rfl <| r_iret c_172_180 <| ?_
        exact kk
      · exact absurd h155 (by omega)
  | succ q ih =>
    intro p n i old w k b o σ a4 a5 a18 a19 Q hj hq hs ho hol h1 h2 h3 h4 h5 h6 h7 h8 h8b h9 h10 hR kk
    rw [drop_at (by omega)] at hR
    simp only [deF] at hR
    have hc := hpl p (by omega)
    have hx := hs p (by omega)
    have e36 := ho.1
    generalize hxc : l.getD p 0 = c at *
    have hv := vl_rng c
    have ht := thr_rng k b
    have hmk : ∀ (σ1 : mk_S) (n' : Int) (rn : Nat), (∀ x, x < rn → σ1 79 x = o.getD x 0) → (∀ x, rn < x → x ≤ o.length → σ1 79 x = o.getD (x - 1) 0) → rn ≤ o.length → mBack (sto (sto σ1 79 rn n') 55 36 ((o.length : Int) + 1)) (insAt o rn n') := by
      intro σ1 n' rn g1 g2 g3
      refine ⟨?_, fun x hx => ?_⟩
      · rw [sto_get, insAt_len]; omega
      · rw [insAt_len] at hx
        rw [sto_ne (by decide), sto_at, insAt_get g3]
        by_cases e : x = rn
        · subst e; rw [st_at, if_neg (by omega), if_pos rfl]
        · rw [st_ne e]
          by_cases e2 : x < rn
          · rw [if_pos e2]; exact g1 x e2
          · rw [if_neg e2, if_neg e]; exact g2 x (by omega) (by omega)
    have stop : ∀ z : Int, z = p → R = (o, (p : Int)) → Q (some (vI z)) (hp L σ) := fun z hz e => by
      subst hz
      have kk := kk σ (fun h => absurd h (by rw [e]; simp only []; omega)) mf.rf
      rw [e] at kk
      exact kk
    generalize hvv : vl c = v at *
    generalize htt : thr k b = t at *
    have m1 := fun h0 => vw_rng (v := v) (w := w) ⟨h0, by omega⟩ (by omega)
    have m2 := wt_rng (v := 36 - t) (w := w) ⟨by omega, by omega⟩ h6
    generalize hxx : i + v * w = x at *
    have m3 := fun h0 : 0 ≤ x => dm_rng (x := x) (d := (o.length : Int) + 1) h0 (by omega)
    have key2 : ∀ b', 0 ≤ b' ∧ b' ≤ 1476 → (0 ≤ x / ((o.length : Int) + 1) ∧ x / ((o.length : Int) + 1) ≤ x ∧ 0 ≤ x % ((o.length : Int) + 1) ∧ x % ((o.length : Int) + 1) < (o.length : Int) + 1) → isPt (n + x / ((o.length : Int) + 1)) → o.length < 300 → R = deF (l.drop (p + 1)) (p + 1) (n + x / ((o.length : Int) + 1)) (x % ((o.length : Int) + 1) + 1) (x % ((o.length : Int) + 1) + 1) 1 36 b' (insAt o (x % ((o.length : Int) + 1)).toNat (n + x / ((o.length : Int) + 1))) →
        mm_X 172 363 [vP 55, vP ra, vI (at0 : Nat), vI (l.length : Nat), a4, vI a5, vI ((p : Int) + 1), vJ (x % ((o.length : Int) + 1)), mm_null, vJ (n + x / ((o.length : Int) + 1)), mm_null, vI b', vJ old, mm_null, vJ w, mm_null, vI 0, vI (o.length : Nat), vI v, vI t] [] (hp L σ) Q := by
      intro b' hb' m3 hpt hol3 hR
      obtain ⟨rn, hrn⟩ : ∃ rn : Nat, x % ((o.length : Int) + 1) = rn := ⟨(x % ((o.length : Int) + 1)).toNat, (Int.toNat_of_nonneg m3.2.2.1).symm⟩
      rw [hrn] at hR ⊢
      rw [Int.toNat_natCast] at hR
      have hn' : 0 ≤ n + x / ((o.length : Int) + 1) ∧ n + x / ((o.length : Int) + 1) ≤ 1114111 := ⟨hpt.1, hpt.2.1⟩
      generalize n + x / ((o.length : Int) + 1) = n' at *
      refine lp_mins hol (by omega) (o.length - rn) o.length σ (by omega) (Nat.le_refl _) (fun x hx => ho.2 x hx) (fun x hx hx2 => by omega) (fun σ1 g1 g2 g3 => ?_)
      have e36b : σ1 55 36 = (o.length : Int) := by rw [g3.2 36 (by decide)]; exact e36
      have hs1 := hs.mf g3 (by simp; omega)
      refine r_aload_n c_172_394 rfl <| r_getf_a c_172_395 rfl rfl <| r_lload c_172_398 rfl <| r_l2i c_172_400 (by omega) <| r_lload c_172_401 rfl <| r_l2i c_172_403 (by omega) <| r_iast c_172_404 rfl (jn := rn) (by omega) (by omega) <| r_aload_n c_172_405 rfl <| r_dup c_172_406 rfl <| r_getf_i c_172_407 rfl rfl <| ?_
      rw [sto_ne (by decide), e36b]
      refine r_iconst c_172_410 <| r_iadd c_172_411 (by omega) <| r_putf c_172_412 rfl rfl <| r_lload c_172_415 rfl <| r_lconst c_172_417 <| r_ladd c_172_418 (by omega) <| r_lstore_20_7 c_172_419 rfl <| r_goto c_172_421 <| ?_
      refine r_iload c_172_127 rfl <| r_iload_n c_172_129 rfl <| r_icmp_ge c_172_130 (fun h130 => ?_) <| (fun h130 => ?_)
      · refine r_iconst c_172_424 <| r_iret c_172_425 <| ?_
        have hle : l.length ≤ p + 1 := by omega
        rw [List.drop_eq_nil_of_le hle] at hR
        simp only [deF] at hR
        rw [if_pos trivial] at hR
        have kk := kk (sto (sto σ1 79 rn n') 55 36 ((o.length : Int) + 1)) (fun _ => by rw [hR]; exact hmk σ1 n' rn g1 g2 (by omega)) ((g3.up (by decide) (by decide)).tr ((mf.rf.stA (by decide) (by decide)).stF (by decide)))
        rw [hR] at kk
        exact kk
      · refine r_lload c_172_133 rfl <| r_lstore_20_12 c_172_135 rfl <| r_lconst c_172_137 <| r_lstore_20_14 c_172_138 rfl <| r_iconst c_172_140 <| r_istore_20_16 c_172_141 rfl <| r_bipush c_172_143 <| r_istore_20_17 c_172_145 rfl <| ?_
        refine ih (p + 1) n' _ _ 1 36 b' (insAt o rn n') _ _ _ _ _ Q (by omega) (fun _ => by omega) (fun j hj => by rw [sto_ne hra.1, sto_ne hra.2]; exact hs1 j hj) (hmk σ1 n' rn g1 g2 (by omega)) (by rw [insAt_len]; omega) hn'.1 hn'.2 (by omega) (by omega) (by omega) (by omega) (by omega) (by omega) (by omega) hb'.1 hb'.2 hR (fun σ2 w1 w2 => kk σ2 w1 (((g3.up (by decide) (by decide)).tr ((mf.rf.stA (by decide) (by decide)).stF (by decide))).tr w2))
    have key : 0 ≤ v → x ≤ 2147483647 → v < t → 0 ≤ v * w → mm_X 172 147 [vP 55, vP ra, vI (at0 : Nat), vI (l.length : Nat), a4, vI a5, vI ((p : Int) + 1), vJ x, mm_null, vJ n, mm_null, vI b, vJ old, mm_null, vJ w, mm_null, vI 0, vI (k + 36), vI v, vI t] [] (hp L σ) Q := by
      intro g0 g1 g2 g3
      have m3 := m3 (by omega)
      rw [if_neg (by omega), if_neg (by omega), if_neg (by omega)] at hR
      refine r_iload c_172_147 rfl <| r_if_eq c_172_149 (fun _ => ?_) <| (fun h => absurd h (by decide))
      refine r_lload c_172_264 rfl <| r_lload c_172_266 rfl <| r_lsub c_172_268 (by omega) <| r_aload_n c_172_269 rfl <| r_getf_i c_172_270 rfl rfl <| ?_
      rw [e36]
      refine r_iconst c_172_273 <| r_iadd c_172_274 (by omega) <| r_lload c_172_275 rfl <| r_lconst c_172_277 <| r_lc_ne c_172_278 c_172_279 (fun h278 => ?_) <| (fun h278 => ?_)
      · refine r_iconst c_172_286 <| r_cS3 c_172_287 (Nat.le_of_ble_eq_true rfl) <| ?_
        refine ct_madapted _ _ _ (by omega) (by omega) ?_
        refine r_istore_20_11 c_172_290 rfl <| r_lload c_172_292 rfl <| r_lload c_172_294 rfl <| r_aload_n c_172_296 rfl <| r_getf_i c_172_297 rfl rfl <| ?_
        rw [e36]
        refine r_iconst c_172_300 <| r_iadd c_172_301 (by omega) <| r_i2l c_172_302 <| r_ldiv c_172_303 (by omega) (by omega) <| r_ladd c_172_304 (by omega) <| r_lstore_20_9 c_172_305 rfl <| r_lload c_172_307 rfl <| r_aload_n c_172_309 rfl <| r_getf_i c_172_310 rfl rfl <| ?_
        rw [e36]
        refine r_iconst c_172_313 <| r_iadd c_172_314 (by omega) <| r_i2l c_172_315 <| r_lrem c_172_316 (by omega) (by omega) <| r_lstore_20_7 c_172_317 rfl <| r_lload c_172_319 rfl <| r_ldc2_w c_172_321 <| r_lc_gt c_172_324 c_172_325 (fun h324 => ?_) <| (fun h324 => ?_)
        · refine r_iload c_172_337 rfl <| r_iconst c_172_339 <| r_isub c_172_340 (by omega) <| r_iret c_172_341 <| ?_
          first | exact stop _ (by omega) (by rw [hR, if_neg (fun h => hpt h.1)]) | exact stop _ (by omega) (by rw [hR, if_neg (by intro h; unfold isPt at h; omega)])
        · refine r_lload c_172_328 rfl <| r_l2i c_172_330 (by omega) <| r_cS1 c_172_331 (Nat.le_of_ble_eq_true rfl) <| ?_
          refine ct_mPoint _ (fun hpt => ?_) (fun hpt => ?_)
          · refine r_if_ne c_172_334 (fun _ => ?_) <| (fun h => absurd h (by decide))
            refine r_aload_n c_172_342 rfl <| r_getf_i c_172_343 rfl rfl <| ?_
            rw [e36]
            refine r_sipush c_172_346 <| r_icmp_ne c_172_349 (fun h349 => ?_) <| (fun h349 => ?_)
            · refine r_aload_n c_172_357 rfl <| r_getf_i c_172_358 rfl rfl <| ?_
              rw [e36]
              refine r_istore_20_17 c_172_361 rfl <| ?_
              rw [if_pos ⟨hpt, by omega⟩] at hR
              first
              | (rw [if_pos (by omega)] at hR; exact key2 _ (adF_rng (by omega) (by omega)) m3 hpt (by omega) hR)
              | (rw [if_neg (by omega)] at hR; exact key2 _ (adF_rng (by omega) (by omega)) m3 hpt (by omega) hR)
            · refine r_iload c_172_352 rfl <| r_iconst c_172_354 <| r_isub c_172_355 (by omega) <| r_iret c_172_356 <| ?_
              exact stop _ (by omega) (by rw [hR, if_neg (by omega)])
          · refine r_if_ne c_172_334 (fun h => absurd h (by decide)) <| (fun _ => ?_)
            refine r_iload c_172_337 rfl <| r_iconst c_172_339 <| r_isub c_172_340 (by omega) <| r_iret c_172_341 <| ?_
            first | exact stop _ (by omega) (by rw [hR, if_neg (fun h => hpt h.1)]) | exact stop _ (by omega) (by rw [hR, if_neg (by intro h; unfold isPt at h; omega)])
      · refine r_iconst c_172_282 <| r_goto c_172_283 <| r_cS3 c_172_287 (Nat.le_of_ble_eq_true rfl) <| ?_
        refine ct_madapted _ _ _ (by omega) (by omega) ?_
        refine r_istore_20_11 c_172_290 rfl <| r_lload c_172_292 rfl <| r_lload c_172_294 rfl <| r_aload_n c_172_296 rfl <| r_getf_i c_172_297 rfl rfl <| ?_
        rw [e36]
        refine r_iconst c_172_300 <| r_iadd c_172_301 (by omega) <| r_i2l c_172_302 <| r_ldiv c_172_303 (by omega) (by omega) <| r_ladd c_172_304 (by omega) <| r_lstore_20_9 c_172_305 rfl <| r_lload c_172_307 rfl <| r_aload_n c_172_309 rfl <| r_getf_i c_172_310 rfl rfl <| ?_
        rw [e36]
        refine r_iconst c_172_313 <| r_iadd c_172_314 (by omega) <| r_i2l c_172_315 <| r_lrem c_172_316 (by omega) (by omega) <| r_lstore_20_7 c_172_317 rfl <| r_lload c_172_319 rfl <| r_ldc2_w c_172_321 <| r_lc_gt c_172_324 c_172_325 (fun h324 => ?_) <| (fun h324 => ?_)
        · refine r_iload c_172_337 rfl <| r_iconst c_172_339 <| r_isub c_172_340 (by omega) <| r_iret c_172_341 <| ?_
          first | exact stop _ (by omega) (by rw [hR, if_neg (fun h => hpt h.1)]) | exact stop _ (by omega) (by rw [hR, if_neg (by intro h; unfold isPt at h; omega)])
        · refine r_lload c_172_328 rfl <| r_l2i c_172_330 (by omega) <| r_cS1 c_172_331 (Nat.le_of_ble_eq_true rfl) <| ?_
          refine ct_mPoint _ (fun hpt => ?_) (fun hpt => ?_)
          · refine r_if_ne c_172_334 (fun _ => ?_) <| (fun h => absurd h (by decide))
            refine r_aload_n c_172_342 rfl <| r_getf_i c_172_343 rfl rfl <| ?_
            rw [e36]
            refine r_sipush c_172_346 <| r_icmp_ne c_172_349 (fun h349 => ?_) <| (fun h349 => ?_)
            · refine r_aload_n c_172_357 rfl <| r_getf_i c_172_358 rfl rfl <| ?_
              rw [e36]
              refine r_istore_20_17 c_172_361 rfl <| ?_
              rw [if_pos ⟨hpt, by omega⟩] at hR
              first
              | (rw [if_pos (by omega)] at hR; exact key2 _ (adF_rng (by omega) (by omega)) m3 hpt (by omega) hR)
              | (rw [if_neg (by omega)] at hR; exact key2 _ (adF_rng (by omega) (by omega)) m3 hpt (by omega) hR)
            · refine r_iload c_172_352 rfl <| r_iconst c_172_354 <| r_isub c_172_355 (by omega) <| r_iret c_172_356 <| ?_
              exact stop _ (by omega) (by rw [hR, if_neg (by omega)])
          · refine r_if_ne c_172_334 (fun h => absurd h (by decide)) <| (fun _ => ?_)
            refine r_iload c_172_337 rfl <| r_iconst c_172_339 <| r_isub c_172_340 (by omega) <| r_iret c_172_341 <| ?_
            first | exact stop _ (by omega) (by rw [hR, if_neg (fun h => hpt h.1)]) | exact stop _ (by omega) (by rw [hR, if_neg (by intro h; unfold isPt at h; omega)])
    refine r_iload c_172_147 rfl <| r_if_eq c_172_149 (fun h => absurd h (by decide)) <| (fun _ => ?_)
    refine r_iload c_172_152 rfl <| r_iload_n c_172_154 rfl <| r_icmp_ge c_172_155 (fun h155 => ?_) <| (fun h155 => ?_)
    · exact absurd h155 (by omega)
    · refine r_aload_n c_172_158 rfl <| r_iload_n c_172_159 rfl <| r_iload c_172_160 rfl <| r_iadd c_172_162 (by omega) <| r_iald c_172_163 ha (Or.inl rfl) (jn := at0 + p) (by omega) (by omega) <| ?_
      rw [hx]
      refine r_cS1 c_172_164 (Nat.le_of_ble_eq_true rfl) <| ?_
      refine ct_mValue c (by omega) ?_; rw [hvv]
      refine r_goto c_172_167 <| r_istore_20_18 c_172_171 rfl <| r_iload c_172_173 rfl <| r_if_ge c_172_175 (fun h175 => ?_) <| (fun h175 => ?_)
      · have m1 := m1 (by omega)
        refine r_lload c_172_181 rfl <| r_iload c_172_183 rfl <| r_i2l c_172_185 <| r_lload c_172_186 rfl <| r_lmul c_172_188 (by omega) <| r_ladd c_172_189 (by omega) <| ?_
        rw [hxx]
        refine r_lstore_20_7 c_172_190 rfl <| r_lload c_172_192 rfl <| r_ldc2_w c_172_194 <| r_lc_le c_172_197 c_172_198 (fun h197 => ?_) <| (fun h197 => ?_)
        · refine r_iload c_172_204 rfl <| r_iload c_172_206 rfl <| r_cS2 c_172_208 (Nat.le_of_ble_eq_true rfl) <| ?_
          refine ct_mBound _ _ (by omega) ?_; rw [htt]
          refine r_istore_20_19 c_172_211 rfl <| r_iload c_172_213 rfl <| r_iload c_172_215 rfl <| r_icmp_lt c_172_217 (fun h217 => ?_) <| (fun h217 => ?_)
          · refine r_iconst c_172_224 <| r_istore_20_16 c_172_225 rfl <| r_iload c_172_227 rfl <| r_if_eq c_172_229 (fun _ => ?_) <| (fun h => absurd h (by decide))
            refine r_iinc_20_6 c_172_255 rfl (by omega) <| r_iinc_20_17 c_172_258 rfl (by omega) <| r_goto c_172_261 <| ?_
            first
            | (rw [if_neg (by omega), if_neg (by omega), if_pos (by omega)] at hR
               exact ih (p + 1) n x old _ (k + 36) b o σ _ _ _ _ Q (by omega) (fun _ => by omega) hs ho hol h1 h2 h3 (by omega) (by omega) m2.1 (by omega) (by omega) (by omega) h9 h10 hR kk)
            | exact key (by omega) (by omega) (by omega) m1.1
          · refine r_iconst c_172_220 <| r_goto c_172_221 <| r_istore_20_16 c_172_225 rfl <| r_iload c_172_227 rfl <| r_if_eq c_172_229 (fun h => absurd h (by decide)) <| (fun _ => ?_)
            refine r_lload c_172_232 rfl <| r_bipush c_172_234 <| r_iload c_172_236 rfl <| r_isub c_172_238 (by omega) <| r_i2l c_172_239 <| r_lmul c_172_240 (by omega) <| r_lstore_20_14 c_172_241 rfl <| r_lload c_172_243 rfl <| r_ldc2_w c_172_245 <| r_lc_le c_172_248 c_172_249 (fun h248 => ?_) <| (fun h248 => ?_)
            · refine r_iinc_20_6 c_172_255 rfl (by omega) <| r_iinc_20_17 c_172_258 rfl (by omega) <| r_goto c_172_261 <| ?_
              first
              | (rw [if_neg (by omega), if_neg (by omega), if_pos (by omega)] at hR
                 exact ih (p + 1) n x old _ (k + 36) b o σ _ _ _ _ Q (by omega) (fun _ => by omega) hs ho hol h1 h2 h3 (by omega) (by omega) m2.1 (by omega) (by omega) (by omega) h9 h10 hR kk)
              | exact key (by omega) (by omega) (by omega) m1.1
            · refine r_iload c_172_252 rfl <| r_iret c_172_254 <| ?_
              exact stop _ rfl (by rw [hR, if_neg (by omega), if_pos (by omega)])
        · refine r_iload c_172_201 rfl <| r_iret c_172_203 <| ?_
          exact stop _ rfl (by rw [hR, if_neg (by omega), if_pos (by omega)])
      · refine r_iload c_172_178 rfl <| r_iret c_172_180 <| ?_
        exact stop _ rfl (by rw [hR, if_pos (by omega)])
theorem lp_mda {ra na at0 : Nat} {l : List Int} {σ : mk_S} {Q : Option mm_V → mm_H → Prop} (ha : kd L ra = .inl (0, na)) (hat : at0 + l.length ≤ na) (hna : na ≤ 2000) (hs : seg σ ra at0 l) : ∀ (q j s : Nat) (c : Int), j + q = l.length → (c = s ∨ (c = -1 ∧ s = 0)) →
    (∀ i : Int, 0 ≤ i → hiF (l.drop j) j = i → Q (some (vI i)) (hp L σ)) →
    (hiF (l.drop j) j = -1 → ∀ c' : Int, (c' = (dsF (l.drop j) j s : Nat) ∨ (c' = -1 ∧ dsF (l.drop j) j s = 0)) → mm_X 172 52 [vP 55, vP ra, vI (at0 : Nat), vI (l.length : Nat), vI c', vI (l.length : Nat), mm_null, mm_null, mm_null, mm_null, mm_null, mm_null, mm_null, mm_null, mm_null, mm_null, mm_null, mm_null, mm_null, mm_null] [] (hp L σ) Q) →
    mm_X 172 6 [vP 55, vP ra, vI (at0 : Nat), vI (l.length : Nat), vI c, vI (j : Nat), mm_null, mm_null, mm_null, mm_null, mm_null, mm_null, mm_null, mm_null, mm_null, mm_null, mm_null, mm_null, mm_null, mm_null] [] (hp L σ) Q := by
  intro q
  induction q with
  | zero =>
    intro j s c hj hc kf kk
    have ej : j = l.length := by omega
    subst ej
    rw [List.drop_length] at kk
    have kk := kk rfl c (by simp only [dsF]; exact hc)
    refine r_iload c_172_6 rfl <| r_iload_n c_172_8 rfl <| r_icmp_ge c_172_9 (fun h9 => ?_) <| (fun h9 => ?_)
    · exact kk
    · exact absurd h9 (by omega)
  | succ q ih =>
    intro j s c hj hc kf kk
    rw [drop_at (by omega)] at kk kf
    simp only [dsF, hiF] at kk kf
    have hx := hs j (by omega)
    generalize hxv : l.getD j 0 = x at *
    refine r_iload c_172_6 rfl <| r_iload_n c_172_8 rfl <| r_icmp_ge c_172_9 (fun h9 => ?_) <| (fun h9 => ?_)
    · exact absurd h9 (by omega)
    · refine r_aload_n c_172_12 rfl <| r_iload_n c_172_13 rfl <| r_iload c_172_14 rfl <| r_iadd c_172_16 (by omega) <| r_iald c_172_17 ha (Or.inl rfl) (jn := at0 + j) (by omega) (by omega) <| r_bipush c_172_18 <| r_icmp_le c_172_20 (fun h20 => ?_) <| (fun h20 => ?_)
      · rw [if_neg (by omega)] at kf kk
        refine r_aload_n c_172_26 rfl <| r_iload_n c_172_27 rfl <| r_iload c_172_28 rfl <| r_iadd c_172_30 (by omega) <| r_iald c_172_31 ha (Or.inl rfl) (jn := at0 + j) (by omega) (by omega) <| r_bipush c_172_32 <| r_icmp_ne c_172_34 (fun h34 => ?_) <| (fun h34 => ?_)
        · refine r_iload c_172_42 rfl <| r_istore_20_4 c_172_44 rfl <| r_iinc_20_5 c_172_46 rfl (by omega) <| r_goto c_172_49 <| ?_
          first
          | (rw [if_pos (by omega)] at kk; exact ih (j + 1) j _ (by omega) (Or.inl rfl) kf kk)
          | (rw [if_neg (by omega)] at kk; exact ih (j + 1) s _ (by omega) hc kf kk)
        · refine r_iload c_172_37 rfl <| r_goto c_172_39 <| r_istore_20_4 c_172_44 rfl <| r_iinc_20_5 c_172_46 rfl (by omega) <| r_goto c_172_49 <| ?_
          first
          | (rw [if_pos (by omega)] at kk; exact ih (j + 1) j _ (by omega) (Or.inl rfl) kf kk)
          | (rw [if_neg (by omega)] at kk; exact ih (j + 1) s _ (by omega) hc kf kk)
      · refine r_iload c_172_23 rfl <| r_iret c_172_25 <| ?_
        rw [if_pos (by omega)] at kf
        exact kf j (by omega) rfl
theorem lp_mdb {ra na at0 s : Nat} {c : Int} {l : List Int} {Q : Option mm_V → mm_H → Prop} (ha : kd L ra = .inl (0, na)) (hra : ra ≠ 55 ∧ ra ≠ 79) (hat : at0 + l.length ≤ na) (hna : na ≤ 2000) (hll : l.length ≤ 300) (hsl : s ≤ l.length) : ∀ (q j : Nat) (σ : mk_S), j + q = s → seg σ ra at0 l → (∀ x, x < j → σ 79 x = l.getD x 0) →
    (∀ σ', arr σ' 79 (l.take s) → mf [79] [] σ σ' → mm_X 172 100 [vP 55, vP ra, vI (at0 : Nat), vI (l.length : Nat), vI c, vI (s : Nat), vI (s : Nat), mm_null, mm_null, mm_null, mm_null, mm_null, mm_null, mm_null, mm_null, mm_null, mm_null, mm_null, mm_null, mm_null] [] (hp L σ') Q) →
    mm_X 172 74 [vP 55, vP ra, vI (at0 : Nat), vI (l.length : Nat), vI c, vI (s : Nat), vI (j : Nat), mm_null, mm_null, mm_null, mm_null, mm_null, mm_null, mm_null, mm_null, mm_null, mm_null, mm_null, mm_null, mm_null] [] (hp L σ) Q := by
  intro q
  induction q with
  | zero =>
    intro j σ hj hs hb kk
    have ej : j = s := by omega
    subst ej
    have kk := kk σ (fun x hx => by rw [List.length_take] at hx; rw [gd_take (by omega)]; exact hb x (by omega)) mf.rf
    refine r_iload c_172_74 rfl <| r_iload c_172_76 rfl <| r_icmp_ge c_172_78 (fun h78 => ?_) <| (fun h78 => ?_)
    · exact kk
    · exact absurd h78 (by omega)
  | succ q ih =>
    intro j σ hj hs hb kk
    have hx := hs j (by omega)
    refine r_iload c_172_74 rfl <| r_iload c_172_76 rfl <| r_icmp_ge c_172_78 (fun h78 => ?_) <| (fun h78 => ?_)
    · exact absurd h78 (by omega)
    · refine r_aload_n c_172_81 rfl <| r_getf_a c_172_82 rfl rfl <| r_iload c_172_85 rfl <| r_aload_n c_172_87 rfl <| r_iload_n c_172_88 rfl <| r_iload c_172_89 rfl <| r_iadd c_172_91 (by omega) <| r_iald c_172_92 ha (Or.inl rfl) (jn := at0 + j) (by omega) (by omega) <| ?_
      rw [hx]
      refine r_iast c_172_93 rfl (jn := j) rfl (by omega) <| r_iinc_20_6 c_172_94 rfl (by omega) <| r_goto c_172_97 <| ?_
      refine ih (j + 1) _ (by omega) (fun i hi => by rw [sto_ne hra.2]; exact hs i hi) (fun x hx => ?_) (fun σ2 g1 g2 => kk σ2 g1 ((mf.rf.stA (by decide) (by decide)).tr g2))
      rw [sto_at]
      by_cases e : x = j
      · subst e; rw [st_at]
      · rw [st_ne e]; exact hb x (by omega)
theorem ct_decoded {ra na at0 : Nat} {l : List Int} {σ : mk_S} {Q : Option mm_V → mm_H → Prop} (ha : kd L ra = .inl (0, na)) (hra : ra ≠ 55 ∧ ra ≠ 79) (hat : at0 + l.length ≤ na) (hna : na ≤ 2000) (hll : l.length ≤ 300) (hpl : pts l) (hs : seg σ ra at0 l)
    (k : ∀ σ', ((DE l).2 = -1 → mBack σ' (DE l).1) → mf [79] [36] σ σ' → Q (some (vI (DE l).2)) (hp L σ')) : mm_call 172 [vP 55, vP ra, vI (at0 : Nat), vI (l.length : Nat)] (hp L σ) Q := by
  have hd := dsF_le l
  have hP : dsP (dsF l 0 0) = if 0 < dsF l 0 0 then dsF l 0 0 + 1 else 0 := rfl
  unfold DE at k
  refine ⟨Nat.le_of_ble_eq_true rfl, ?_⟩
  show mm_X 172 0 [vP 55, vP ra, vI (at0 : Nat), vI (l.length : Nat), mm_null, mm_null, mm_null, mm_null, mm_null, mm_null, mm_null, mm_null, mm_null, mm_null, mm_null, mm_null, mm_null, mm_null, mm_null, mm_null] [] _ _
  refine r_iconst c_172_0 <| r_istore_20_4 c_172_1 rfl <| r_iconst c_172_3 <| r_istore_20_5 c_172_4 rfl <| ?_
  refine lp_mda ha hat hna hs l.length 0 0 (-1) (by omega) (Or.inr ⟨rfl, rfl⟩) (fun i hi e => ?_) (fun e c hc => ?_)
  · rw [List.drop_zero] at e
    rw [e, if_pos hi] at k
    exact k σ (fun h => absurd h (by simp only []; omega)) mf.rf
  · rw [List.drop_zero] at e hc
    rw [e, if_neg (by omega)] at k
    generalize dsF l 0 0 = s at *
    generalize dsP s = p at *
    have key : mm_X 172 65 [vP 55, vP ra, vI (at0 : Nat), vI (l.length : Nat), vI c, vI (s : Nat), mm_null, mm_null, mm_null, mm_null, mm_null, mm_null, mm_null, mm_null, mm_null, mm_null, mm_null, mm_null, mm_null, mm_null] [] (hp L σ) Q := by
      refine r_aload_n c_172_65 rfl <| r_iload c_172_66 rfl <| r_putf c_172_68 rfl rfl <| r_iconst c_172_71 <| r_istore_20_6 c_172_72 rfl <| ?_
      refine lp_mdb ha hra hat hna hll hd.1 s 0 _ (by omega) (fun j hj => by rw [sto_ne hra.1]; exact hs j hj) (fun x hx => absurd hx (Nat.not_lt_zero x)) (fun σ1 g1 g2 => ?_)
      have hB : mBack σ1 (l.take s) := ⟨by rw [g2.2 36 (by decide), sto_get, List.length_take]; omega, g1⟩
      have hf : mf [79] [36] σ σ1 := (mf.rf.stF (by decide)).tr (g2.up (by decide) (by decide))
      have hs1 := hs.mf hf (by simp; omega)
      have key3 : mm_X 172 127 [vP 55, vP ra, vI (at0 : Nat), vI (l.length : Nat), vI c, vI (s : Nat), vI (p : Nat), vJ 0, mm_null, vJ 128, mm_null, vI 72, mm_null, mm_null, mm_null, mm_null, mm_null, mm_null, mm_null, mm_null] [] (hp L σ1) Q := by
        refine r_iload c_172_127 rfl <| r_iload_n c_172_129 rfl <| r_icmp_ge c_172_130 (fun h130 => ?_) <| (fun h130 => ?_)
        · refine r_iconst c_172_424 <| r_iret c_172_425 <| ?_
          have hle : l.length ≤ p := by omega
          rw [List.drop_eq_nil_of_le hle] at k
          simp only [deF] at k
          rw [if_pos trivial] at k
          exact k σ1 (fun _ => hB) hf
        · refine r_lload c_172_133 rfl <| r_lstore_20_12 c_172_135 rfl <| r_lconst c_172_137 <| r_lstore_20_14 c_172_138 rfl <| r_iconst c_172_140 <| r_istore_20_16 c_172_141 rfl <| r_bipush c_172_143 <| r_istore_20_17 c_172_145 rfl <| ?_
          refine lp_mdI ha hra hat hna hll (fun j hj => by have := hpl j hj; unfold isPt at this; omega) (l.length - p) p 128 0 0 1 36 72 (l.take s) σ1 _ _ _ _ Q (by omega) (fun h => by omega) hs1 hB (by rw [List.length_take]; omega) (by omega) (by omega) (by omega) (by omega) (by omega) (by omega) (by omega) (by omega) (by omega) (by omega) (by omega) rfl (fun σ2 w1 w2 => k σ2 w1 (hf.tr w2))
      refine r_iload c_172_100 rfl <| r_if_le c_172_102 (fun h102 => ?_) <| (fun h102 => ?_)
      · refine r_iconst c_172_112 <| r_istore_20_6 c_172_113 rfl <| r_lconst c_172_115 <| r_lstore_20_7 c_172_116 rfl <| r_ldc2_w c_172_118 <| r_lstore_20_9 c_172_121 rfl <| r_bipush c_172_123 <| r_istore_20_11 c_172_125 rfl <| ?_
        first
        | (rw [if_pos (by omega)] at hP; rw [show c + 1 = (p : Int) by omega]; exact key3)
        | (rw [if_neg (by omega)] at hP; have h0 : p = 0 := hP; subst h0; exact key3)
      · refine r_iload c_172_105 rfl <| r_iconst c_172_107 <| r_iadd c_172_108 (by omega) <| r_goto c_172_109 <| r_istore_20_6 c_172_113 rfl <| r_lconst c_172_115 <| r_lstore_20_7 c_172_116 rfl <| r_ldc2_w c_172_118 <| r_lstore_20_9 c_172_121 rfl <| r_bipush c_172_123 <| ?_
        refine r_istore_20_11 c_172_125 rfl <| ?_
        first
        | (rw [if_pos (by omega)] at hP; rw [show c + 1 = (p : Int) by omega]; exact key3)
        | (rw [if_neg (by omega)] at hP; have h0 : p = 0 := hP; subst h0; exact key3)
    refine r_iload c_172_52 rfl <| r_if_le c_172_54 (fun h54 => ?_) <| (fun h54 => ?_)
    · refine r_iconst c_172_62 <| r_istore_20_5 c_172_63 rfl <| ?_
      first
      | (rw [show c = (s : Int) by omega] at key ⊢; exact key)
      | (have h0 : s = 0 := by omega
         subst h0; exact key)
    · refine r_iload c_172_57 rfl <| r_goto c_172_59 <| r_istore_20_5 c_172_63 rfl <| ?_
      first
      | (rw [show c = (s : Int) by omega] at key ⊢; exact key)
      | (have h0 : s = 0 := by omega
         subst h0; exact key)
theorem lp_mdcc {l : List Int} (hll : l.length ≤ 300) : ∀ (k i : Nat) (σ : mk_S) (a1 : Int) (Q : Option mm_V → mm_H → Prop), l.length + 1 ≤ i + k → i ≤ l.length → arr σ 79 l → σ 55 4 = l.length → (∀ j, j < i → σ 57 j = l.getD j 0) →
    (∀ σ', mRow σ' l → mf [57] [] σ σ' → Q (some (vI l.length)) (hp L σ')) → mm_X 171 38 [vP 55, vI a1, vI i] [] (hp L σ) Q := by
  intro k
  induction k with
  | zero => intro i σ a1 Q h1 h2; omega
  | succ k ih =>
    intro i σ a1 Q hk hi hg e1 hr kk
    refine r_iload_n c_171_38 rfl <| r_aload_n c_171_39 rfl <| r_getf_i c_171_40 rfl rfl <| r_icmp_ge c_171_43 (fun h43 => ?_) <| (fun h43 => ?_)
    · refine r_aload_n c_171_64 rfl <| r_getf_i c_171_65 rfl rfl <| r_iret c_171_68 <| ?_
      rw [e1]
      exact kk σ ⟨e1, hll, fun j hj => hr j (by omega)⟩ mf.rf
    · refine r_aload_n c_171_46 rfl <| r_getf_a c_171_47 rfl rfl <| r_iload_n c_171_50 rfl <| r_aload_n c_171_51 rfl <| r_getf_a c_171_52 rfl rfl <| r_iload_n c_171_55 rfl <| r_iald c_171_56 rfl (Or.inl rfl) rfl (by omega) <| r_iast c_171_57 rfl rfl (by omega) <| r_iinc_3_2 c_171_58 rfl (by omega) <| r_goto c_171_61 <| ?_
      refine ih (i + 1) _ _ Q (by omega) (by omega) (hg.eq (sto_ne (by decide))) (by rw [sto_ne (by decide)]; exact e1) (fun j hj => ?_) (fun σ2 g1 g2 => kk σ2 g1 ((mf.rf.stA (by decide) (by decide)).tr g2))
      rw [sto_at]
      by_cases e : j = i
      · subst e; rw [st_at]; exact hg j (by omega)
      · rw [st_ne e]; exact hr j (by omega)
theorem ct_mdecode {σ : mk_S} {w : List Int} {Q : Option mm_V → mm_H → Prop} (hpw : pts w) (hw : mRow σ w) (k : ∀ σ', mRow σ' (if (DE w).2 = -1 then (DE w).1 else w) → mf [79, 57] [0, 36, 4] σ σ' → Q (some (vI (if (DE w).2 = -1 then ((DE w).1.length : Int) else -10 - (DE w).2))) (hp L σ')) : mm_call 171 [vP 55] (hp L σ) Q := by
  have hle := hw.2.1
  have hD := DE_out hpw hle
  have f0 : mf [79, 57] [0, 36, 4] σ (sto σ 55 0 0) := mf.rf.stF (by decide)
  have hw0 : mRow (sto σ 55 0 0) w := hw.eq (sto_get2 (Or.inr (by decide))) (sto_ne (by decide))
  have e4 := hw0.1
  refine ⟨Nat.le_of_ble_eq_true rfl, ?_⟩
  show mm_X 171 0 [vP 55, mm_null, mm_null] [] _ _
  refine r_aload_n c_171_0 rfl <| r_iconst c_171_1 <| r_putf c_171_2 rfl rfl <| r_aload_n c_171_5 rfl <| r_aload_n c_171_6 rfl <| r_getf_a c_171_7 rfl rfl <| r_iconst c_171_10 <| r_aload_n c_171_11 rfl <| r_getf_i c_171_12 rfl rfl <| ?_
  rw [e4]
  refine r_cV3 c_171_15 rfl (Nat.le_of_ble_eq_true rfl) <| ?_
  refine ct_decoded (ra := 57) (na := 300) (at0 := 0) rfl (by decide) (by omega) (by decide) hle hpw (fun j hj => by rw [Nat.zero_add]; exact hw0.2.2 j hj) (fun σ1 g1 hf1 => ?_)
  refine r_istore_n_3_1 c_171_18 rfl <| r_iload_n c_171_19 rfl <| r_if_lt c_171_20 (fun h20 => ?_) <| (fun h20 => ?_)
  · have g1 := g1 (by omega)
    have e36 := g1.1
    refine r_aload_n c_171_28 rfl <| r_aload_n c_171_29 rfl <| r_getf_i c_171_30 rfl rfl <| r_putf c_171_33 rfl rfl <| r_iconst c_171_36 <| r_istore_n_3_2 c_171_37 rfl <| ?_
    rw [if_pos (by omega), if_pos (by omega)] at k
    rw [e36]
    refine lp_mdcc (by omega) ((DE w).1.length + 1) 0 _ _ Q (by omega) (Nat.zero_le _) (g1.2.eq (sto_ne (by decide))) (sto_get _ _ _ _) (fun j hj => absurd hj (Nat.not_lt_zero j)) (fun σ2 u1 u2 => ?_)
    exact k _ u1 ((f0.tr (hf1.up (by decide) (by decide))).tr ((mf.rf.stF (by decide)).tr (u2.up (by decide) (by decide))))
  · refine r_bipush c_171_23 <| r_iload_n c_171_25 rfl <| r_isub c_171_26 (by omega) <| r_iret c_171_27 <| ?_
    rw [if_neg (by omega), if_neg (by omega)] at k
    exact k σ1 (hw0.mf hf1 (by decide) (by decide)) (f0.tr (hf1.up (by decide) (by decide)))
end MDEC
