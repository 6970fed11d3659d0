/-! ROWS: backwards, one an instruction. -/
section ROWS
variable {y pc L : Nat} {ls st rest : List mm_V} {h : mm_H} {σ : mk_S} {Q : Option mm_V → mm_H → Prop} {c : Int} {x k : Nat} {pl : List Nat} {z w : Int}
theorem r_iconst {n} (hc : mm_code y pc = some (.iconst n, 1, c, x, k, pl)) (kk : mm_X y (pc + 1) ls (vI c :: st) h Q) : mm_X y pc ls st h Q := by
  rw [mm_unf hc]
  simp only [mm_step, mm_push, mm_go]
  exact kk
theorem r_bipush {n} (hc : mm_code y pc = some (.bipush n, 2, c, x, k, pl)) (kk : mm_X y (pc + 2) ls (vI c :: st) h Q) : mm_X y pc ls st h Q := by
  rw [mm_unf hc]
  simp only [mm_step, mm_push, mm_go]
  exact kk
theorem r_sipush {n} (hc : mm_code y pc = some (.sipush n, 3, c, x, k, pl)) (kk : mm_X y (pc + 3) ls (vI c :: st) h Q) : mm_X y pc ls st h Q := by
  rw [mm_unf hc]
  simp only [mm_step, mm_push, mm_go]
  exact kk
theorem r_ldc {n} (hc : mm_code y pc = some (.ldc n, 2, c, x, k, pl)) (kk : mm_X y (pc + 2) ls (vI c :: st) h Q) : mm_X y pc ls st h Q := by
  rw [mm_unf hc]
  simp only [mm_step, mm_push, mm_go]
  exact kk
theorem r_ldc_w {n} (hc : mm_code y pc = some (.ldc_w n, 3, c, x, k, pl)) (kk : mm_X y (pc + 3) ls (vI c :: st) h Q) : mm_X y pc ls st h Q := by
  rw [mm_unf hc]
  simp only [mm_step, mm_push, mm_go]
  exact kk
theorem r_lconst {n} (hc : mm_code y pc = some (.lconst n, 1, c, x, k, pl)) (kk : mm_X y (pc + 1) ls (vJ c :: st) h Q) : mm_X y pc ls st h Q := by
  rw [mm_unf hc]
  simp only [mm_step, mm_push, mm_go]
  exact kk
theorem r_ldc2_w {n} (hc : mm_code y pc = some (.ldc2_w n, 3, c, x, k, pl)) (kk : mm_X y (pc + 3) ls (vJ c :: st) h Q) : mm_X y pc ls st h Q := by
  rw [mm_unf hc]
  simp only [mm_step, mm_push, mm_go]
  exact kk
theorem r_iload {n} {z : Int} (hc : mm_code y pc = some (.iload n, 2, c, x, k, pl)) (hg : mm_get ls n = vI z) (kk : mm_X y (pc + 2) ls (vI z :: st) h Q) : mm_X y pc ls st h Q := by
  rw [mm_unf hc]
  simp only [mm_step, mm_iload, hg, mm_go]
  exact kk
theorem r_iload_n {n} {z : Int} (hc : mm_code y pc = some (.iload_n n, 1, c, x, k, pl)) (hg : mm_get ls n = vI z) (kk : mm_X y (pc + 1) ls (vI z :: st) h Q) : mm_X y pc ls st h Q := by
  rw [mm_unf hc]
  simp only [mm_step, mm_iload, hg, mm_go]
  exact kk
theorem r_lload {n} {z : Int} (hc : mm_code y pc = some (.lload n, 2, c, x, k, pl)) (hg : mm_get ls n = vJ z) (kk : mm_X y (pc + 2) ls (vJ z :: st) h Q) : mm_X y pc ls st h Q := by
  rw [mm_unf hc]
  simp only [mm_step, mm_lload, hg, mm_go]
  exact kk
theorem r_lload_n {n} {z : Int} (hc : mm_code y pc = some (.lload_n n, 1, c, x, k, pl)) (hg : mm_get ls n = vJ z) (kk : mm_X y (pc + 1) ls (vJ z :: st) h Q) : mm_X y pc ls st h Q := by
  rw [mm_unf hc]
  simp only [mm_step, mm_lload, hg, mm_go]
  exact kk
theorem r_aload {n} {a : Nat} (hc : mm_code y pc = some (.aload n, 2, c, x, k, pl)) (hg : mm_get ls n = vP a) (kk : mm_X y (pc + 2) ls (vP a :: st) h Q) : mm_X y pc ls st h Q := by
  rw [mm_unf hc]
  simp only [mm_step, mm_aload, hg, mm_go]
  exact kk
theorem r_aload_n {n} {a : Nat} (hc : mm_code y pc = some (.aload_n n, 1, c, x, k, pl)) (hg : mm_get ls n = vP a) (kk : mm_X y (pc + 1) ls (vP a :: st) h Q) : mm_X y pc ls st h Q := by
  rw [mm_unf hc]
  simp only [mm_step, mm_aload, hg, mm_go]
  exact kk
theorem r_istore_g {n} {z : Int} (hc : mm_code y pc = some (.istore n, 2, c, x, k, pl)) (ho : mm_ok1 ls n = true) (kk : mm_X y (pc + 2) (ls.set n (vI z)) st h Q) : mm_X y pc ls (vI z :: st) h Q := by
  rw [mm_unf hc]
  simp only [mm_step, mm_istore, ho, if_true, mm_go]
  exact kk
theorem r_istore_n_g {n} {z : Int} (hc : mm_code y pc = some (.istore_n n, 1, c, x, k, pl)) (ho : mm_ok1 ls n = true) (kk : mm_X y (pc + 1) (ls.set n (vI z)) st h Q) : mm_X y pc ls (vI z :: st) h Q := by
  rw [mm_unf hc]
  simp only [mm_step, mm_istore, ho, if_true, mm_go]
  exact kk
theorem r_astore_g {n} {a : Nat} (hc : mm_code y pc = some (.astore n, 2, c, x, k, pl)) (ho : mm_ok1 ls n = true) (kk : mm_X y (pc + 2) (ls.set n (vP a)) st h Q) : mm_X y pc ls (vP a :: st) h Q := by
  rw [mm_unf hc]
  simp only [mm_step, mm_astore, ho, if_true, mm_go]
  exact kk
theorem r_astore_n_g {n} {a : Nat} (hc : mm_code y pc = some (.astore_n n, 1, c, x, k, pl)) (ho : mm_ok1 ls n = true) (kk : mm_X y (pc + 1) (ls.set n (vP a)) st h Q) : mm_X y pc ls (vP a :: st) h Q := by
  rw [mm_unf hc]
  simp only [mm_step, mm_astore, ho, if_true, mm_go]
  exact kk
theorem r_lstore_g {n} {z : Int} (hc : mm_code y pc = some (.lstore n, 2, c, x, k, pl)) (ho : mm_ok1 ls n = true) (kk : mm_X y (pc + 2) ((ls.set n (vJ z)).set (n + 1) mm_null) st h Q) : mm_X y pc ls (vJ z :: st) h Q := by
  rw [mm_unf hc]
  simp only [mm_step, mm_lstore, ho, if_true, mm_go]
  exact kk
theorem r_lstore_n_g {n} {z : Int} (hc : mm_code y pc = some (.lstore_n n, 1, c, x, k, pl)) (ho : mm_ok1 ls n = true) (kk : mm_X y (pc + 1) ((ls.set n (vJ z)).set (n + 1) mm_null) st h Q) : mm_X y pc ls (vJ z :: st) h Q := by
  rw [mm_unf hc]
  simp only [mm_step, mm_lstore, ho, if_true, mm_go]
  exact kk
theorem r_iinc_g {n} {d : Int} {z : Int} (hc : mm_code y pc = some (.iinc n d, 3, c, x, k, pl)) (hg : mm_get ls n = vI z) (ho : mm_ok1 ls n = true) (hr : -2147483648 ≤ z + d ∧ z + d ≤ 2147483647) (kk : mm_X y (pc + 3) (ls.set n (vI (z + d))) st h Q) : mm_X y pc ls st h Q := by
  rw [mm_unf hc]
  simp only [mm_step, mm_iinc, hg, ho, if_true, mm_go, w32_id hr]
  exact kk
theorem r_iadd  (hc : mm_code y pc = some (.iadd, 1, c, x, k, pl)) (hr : -2147483648 ≤ z + w ∧ z + w ≤ 2147483647) (kk : mm_X y (pc + 1) ls (vI (z + w) :: st) h Q) : mm_X y pc ls (vI w :: vI z :: st) h Q := by
  rw [mm_unf hc]
  simp only [mm_step, mm_bin, mm_go, w32_id hr]
  exact kk
theorem r_isub  (hc : mm_code y pc = some (.isub, 1, c, x, k, pl)) (hr : -2147483648 ≤ z - w ∧ z - w ≤ 2147483647) (kk : mm_X y (pc + 1) ls (vI (z - w) :: st) h Q) : mm_X y pc ls (vI w :: vI z :: st) h Q := by
  rw [mm_unf hc]
  simp only [mm_step, mm_bin, mm_go, w32_id hr]
  exact kk
theorem r_imul  (hc : mm_code y pc = some (.imul, 1, c, x, k, pl)) (hr : -2147483648 ≤ z * w ∧ z * w ≤ 2147483647) (kk : mm_X y (pc + 1) ls (vI (z * w) :: st) h Q) : mm_X y pc ls (vI w :: vI z :: st) h Q := by
  rw [mm_unf hc]
  simp only [mm_step, mm_bin, mm_go, w32_id hr]
  exact kk
theorem r_ladd  (hc : mm_code y pc = some (.ladd, 1, c, x, k, pl)) (hr : -9223372036854775808 ≤ z + w ∧ z + w ≤ 9223372036854775807) (kk : mm_X y (pc + 1) ls (vJ (z + w) :: st) h Q) : mm_X y pc ls (vJ w :: vJ z :: st) h Q := by
  rw [mm_unf hc]
  simp only [mm_step, mm_lbin, mm_go, w64_id hr]
  exact kk
theorem r_lsub  (hc : mm_code y pc = some (.lsub, 1, c, x, k, pl)) (hr : -9223372036854775808 ≤ z - w ∧ z - w ≤ 9223372036854775807) (kk : mm_X y (pc + 1) ls (vJ (z - w) :: st) h Q) : mm_X y pc ls (vJ w :: vJ z :: st) h Q := by
  rw [mm_unf hc]
  simp only [mm_step, mm_lbin, mm_go, w64_id hr]
  exact kk
theorem r_lmul  (hc : mm_code y pc = some (.lmul, 1, c, x, k, pl)) (hr : -9223372036854775808 ≤ z * w ∧ z * w ≤ 9223372036854775807) (kk : mm_X y (pc + 1) ls (vJ (z * w) :: st) h Q) : mm_X y pc ls (vJ w :: vJ z :: st) h Q := by
  rw [mm_unf hc]
  simp only [mm_step, mm_lbin, mm_go, w64_id hr]
  exact kk
theorem r_idiv  (hc : mm_code y pc = some (.idiv, 1, c, x, k, pl)) (hz : 0 ≤ z ∧ z ≤ 2147483647) (hw : 0 < w) (kk : mm_X y (pc + 1) ls (vI (z / w) :: st) h Q) : mm_X y pc ls (vI w :: vI z :: st) h Q := by
  rw [mm_unf hc]
  have e : z.tdiv w = z / w := Int.tdiv_eq_ediv_of_nonneg hz.1
  have b1 : 0 ≤ z / w := Int.ediv_nonneg hz.1 (by omega)
  have b2 : z / w ≤ z := Int.ediv_le_self w hz.1
  simp only [mm_step, mm_binz, mm_go, e]
  rw [if_neg (by omega), w32_id (by omega)]
  exact kk
theorem r_irem  (hc : mm_code y pc = some (.irem, 1, c, x, k, pl)) (hz : 0 ≤ z) (hw : 0 < w) (kk : mm_X y (pc + 1) ls (vI (z % w) :: st) h Q) : mm_X y pc ls (vI w :: vI z :: st) h Q := by
  rw [mm_unf hc]
  have e : z.tmod w = z % w := Int.tmod_eq_emod_of_nonneg hz
  simp only [mm_step, mm_binz, mm_go, e]
  rw [if_neg (by omega)]
  exact kk
theorem r_ldiv  (hc : mm_code y pc = some (.ldiv, 1, c, x, k, pl)) (hz : 0 ≤ z ∧ z ≤ 9223372036854775807) (hw : 0 < w) (kk : mm_X y (pc + 1) ls (vJ (z / w) :: st) h Q) : mm_X y pc ls (vJ w :: vJ z :: st) h Q := by
  rw [mm_unf hc]
  have e : z.tdiv w = z / w := Int.tdiv_eq_ediv_of_nonneg hz.1
  have b1 : 0 ≤ z / w := Int.ediv_nonneg hz.1 (by omega)
  have b2 : z / w ≤ z := Int.ediv_le_self w hz.1
  simp only [mm_step, mm_lbinz, mm_go, e]
  rw [if_neg (by omega), w64_id (by omega)]
  exact kk
theorem r_lrem  (hc : mm_code y pc = some (.lrem, 1, c, x, k, pl)) (hz : 0 ≤ z) (hw : 0 < w) (kk : mm_X y (pc + 1) ls (vJ (z % w) :: st) h Q) : mm_X y pc ls (vJ w :: vJ z :: st) h Q := by
  rw [mm_unf hc]
  have e : z.tmod w = z % w := Int.tmod_eq_emod_of_nonneg hz
  simp only [mm_step, mm_lbinz, mm_go, e]
  rw [if_neg (by omega)]
  exact kk
theorem r_iand {x0 : Int}  (hc : mm_code y pc = some (.iand, 1, c, x, k, pl)) (he : mm_s32 (fun x y => x &&& y) z w = x0) (kk : mm_X y (pc + 1) ls (vI x0 :: st) h Q) : mm_X y pc ls (vI w :: vI z :: st) h Q := by
  rw [mm_unf hc]
  simp only [mm_step, mm_bin, mm_go, he]
  exact kk
theorem r_ior {x0 : Int}  (hc : mm_code y pc = some (.ior, 1, c, x, k, pl)) (he : mm_s32 (fun x y => x ||| y) z w = x0) (kk : mm_X y (pc + 1) ls (vI x0 :: st) h Q) : mm_X y pc ls (vI w :: vI z :: st) h Q := by
  rw [mm_unf hc]
  simp only [mm_step, mm_bin, mm_go, he]
  exact kk
theorem r_ishl {x0 : Int}  (hc : mm_code y pc = some (.ishl, 1, c, x, k, pl)) (he : mm_s32 (fun x y => x <<< (y &&& 31)) z w = x0) (kk : mm_X y (pc + 1) ls (vI x0 :: st) h Q) : mm_X y pc ls (vI w :: vI z :: st) h Q := by
  rw [mm_unf hc]
  simp only [mm_step, mm_bin, mm_go, he]
  exact kk
theorem r_ishr {x0 : Int}  (hc : mm_code y pc = some (.ishr, 1, c, x, k, pl)) (he : mm_s32 (fun x y => x >>> (y &&& 31)) z w = x0) (kk : mm_X y (pc + 1) ls (vI x0 :: st) h Q) : mm_X y pc ls (vI w :: vI z :: st) h Q := by
  rw [mm_unf hc]
  simp only [mm_step, mm_bin, mm_go, he]
  exact kk
theorem r_land {x0 : Int}  (hc : mm_code y pc = some (.land, 1, c, x, k, pl)) (he : mm_s64 (fun x y => x &&& y) z w = x0) (kk : mm_X y (pc + 1) ls (vJ x0 :: st) h Q) : mm_X y pc ls (vJ w :: vJ z :: st) h Q := by
  rw [mm_unf hc]
  simp only [mm_step, mm_lbin, mm_go, he]
  exact kk
theorem r_lor {x0 : Int}  (hc : mm_code y pc = some (.lor, 1, c, x, k, pl)) (he : mm_s64 (fun x y => x ||| y) z w = x0) (kk : mm_X y (pc + 1) ls (vJ x0 :: st) h Q) : mm_X y pc ls (vJ w :: vJ z :: st) h Q := by
  rw [mm_unf hc]
  simp only [mm_step, mm_lbin, mm_go, he]
  exact kk
theorem r_lshl {x0 : Int}  (hc : mm_code y pc = some (.lshl, 1, c, x, k, pl)) (he : mm_lshl1 z w = x0) (kk : mm_X y (pc + 1) ls (vJ x0 :: st) h Q) : mm_X y pc ls (vI w :: vJ z :: st) h Q := by
  rw [mm_unf hc]
  simp only [mm_step, mm_lsh, mm_go, he]
  exact kk
theorem r_lshr {x0 : Int}  (hc : mm_code y pc = some (.lshr, 1, c, x, k, pl)) (he : mm_lshr1 z w = x0) (kk : mm_X y (pc + 1) ls (vJ x0 :: st) h Q) : mm_X y pc ls (vI w :: vJ z :: st) h Q := by
  rw [mm_unf hc]
  simp only [mm_step, mm_lsh, mm_go, he]
  exact kk
theorem r_lushr {x0 : Int}  (hc : mm_code y pc = some (.lushr, 1, c, x, k, pl)) (he : mm_lushr1 z w = x0) (kk : mm_X y (pc + 1) ls (vJ x0 :: st) h Q) : mm_X y pc ls (vI w :: vJ z :: st) h Q := by
  rw [mm_unf hc]
  simp only [mm_step, mm_lsh, mm_go, he]
  exact kk
theorem r_i2b  (hc : mm_code y pc = some (.i2b, 1, c, x, k, pl)) (kk : mm_X y (pc + 1) ls (vI (mm_w8 z) :: st) h Q) : mm_X y pc ls (vI z :: st) h Q := by
  rw [mm_unf hc]
  simp only [mm_step, mm_un, mm_go]
  exact kk
theorem r_i2l  (hc : mm_code y pc = some (.i2l, 1, c, x, k, pl)) (kk : mm_X y (pc + 1) ls (vJ z :: st) h Q) : mm_X y pc ls (vI z :: st) h Q := by
  rw [mm_unf hc]
  simp only [mm_step, mm_i2l, mm_go]
  exact kk
theorem r_l2i  (hc : mm_code y pc = some (.l2i, 1, c, x, k, pl)) (hr : -2147483648 ≤ z ∧ z ≤ 2147483647) (kk : mm_X y (pc + 1) ls (vI z :: st) h Q) : mm_X y pc ls (vJ z :: st) h Q := by
  rw [mm_unf hc]
  simp only [mm_step, mm_l2i, mm_go, w32_id hr]
  exact kk
theorem r_l2i_w  (hc : mm_code y pc = some (.l2i, 1, c, x, k, pl)) (kk : mm_X y (pc + 1) ls (vI (mm_w32 z) :: st) h Q) : mm_X y pc ls (vJ z :: st) h Q := by
  rw [mm_unf hc]
  simp only [mm_step, mm_l2i, mm_go]
  exact kk
theorem r_lcmp  (hc : mm_code y pc = some (.lcmp, 1, c, x, k, pl)) (kk : mm_X y (pc + 1) ls (vI (if z < w then -1 else if z = w then 0 else 1) :: st) h Q) : mm_X y pc ls (vJ w :: vJ z :: st) h Q := by
  rw [mm_unf hc]
  simp only [mm_step, mm_lcmp, mm_go]
  exact kk
theorem r_goto {d} {t : Nat} (hc : mm_code y pc = some (.goto d, 3, c, t, k, pl)) (kk : mm_X y (t) ls st h Q) : mm_X y pc ls st h Q := by
  rw [mm_unf hc]
  simp only [mm_step, mm_go]
  exact kk
theorem r_dup {v : mm_V} (hc : mm_code y pc = some (.dup, 1, c, x, k, pl)) (hv : mm_wide v = false) (kk : mm_X y (pc + 1) ls (v :: v :: st) h Q) : mm_X y pc ls (v :: st) h Q := by
  rw [mm_unf hc]
  simp only [mm_step, mm_dup, hv, Bool.false_eq_true, if_false, mm_go]
  exact kk
theorem r_dup2 {v u : mm_V} (hc : mm_code y pc = some (.dup2, 1, c, x, k, pl)) (hv : mm_wide v = false) (hu : mm_wide u = false) (kk : mm_X y (pc + 1) ls (v :: u :: v :: u :: st) h Q) : mm_X y pc ls (v :: u :: st) h Q := by
  rw [mm_unf hc]
  simp only [mm_step, mm_dup2, hv, hu, Bool.false_eq_true, or_self, if_false, mm_go]
  exact kk
theorem r_pop {v : mm_V} (hc : mm_code y pc = some (.pop, 1, c, x, k, pl)) (hv : mm_wide v = false) (kk : mm_X y (pc + 1) ls st h Q) : mm_X y pc ls (v :: st) h Q := by
  rw [mm_unf hc]
  simp only [mm_step, mm_pop, hv, Bool.false_eq_true, if_false, mm_go]
  exact kk
theorem r_icmp_eq {d : Int} {t : Nat} (hc : mm_code y pc = some (.if_icmp .eq d, 3, c, t, k, pl)) (k1 : z = w → mm_X y t ls st h Q) (k2 : z ≠ w → mm_X y (pc + 3) ls st h Q) : mm_X y pc ls (vI w :: vI z :: st) h Q := by
  rw [mm_unf hc]
  simp only [mm_step, mm_icmp, mm_cmp, decide_eq_true_eq]
  split
  · next q => exact k1 q
  · next q => exact k2 (by omega)
theorem r_if_eq {d : Int} {t : Nat} (hc : mm_code y pc = some (.ifCond .eq d, 3, c, t, k, pl)) (k1 : z = 0 → mm_X y t ls st h Q) (k2 : z ≠ 0 → mm_X y (pc + 3) ls st h Q) : mm_X y pc ls (vI z :: st) h Q := by
  rw [mm_unf hc]
  simp only [mm_step, mm_if, mm_cmp, decide_eq_true_eq]
  split
  · next q => exact k1 q
  · next q => exact k2 (by omega)
theorem r_icmp_ne {d : Int} {t : Nat} (hc : mm_code y pc = some (.if_icmp .ne d, 3, c, t, k, pl)) (k1 : z ≠ w → mm_X y t ls st h Q) (k2 : z = w → mm_X y (pc + 3) ls st h Q) : mm_X y pc ls (vI w :: vI z :: st) h Q := by
  rw [mm_unf hc]
  simp only [mm_step, mm_icmp, mm_cmp, decide_eq_true_eq]
  split
  · next q => exact k1 q
  · next q => exact k2 (by omega)
theorem r_if_ne {d : Int} {t : Nat} (hc : mm_code y pc = some (.ifCond .ne d, 3, c, t, k, pl)) (k1 : z ≠ 0 → mm_X y t ls st h Q) (k2 : z = 0 → mm_X y (pc + 3) ls st h Q) : mm_X y pc ls (vI z :: st) h Q := by
  rw [mm_unf hc]
  simp only [mm_step, mm_if, mm_cmp, decide_eq_true_eq]
  split
  · next q => exact k1 q
  · next q => exact k2 (by omega)
theorem r_icmp_lt {d : Int} {t : Nat} (hc : mm_code y pc = some (.if_icmp .lt d, 3, c, t, k, pl)) (k1 : z < w → mm_X y t ls st h Q) (k2 : w ≤ z → mm_X y (pc + 3) ls st h Q) : mm_X y pc ls (vI w :: vI z :: st) h Q := by
  rw [mm_unf hc]
  simp only [mm_step, mm_icmp, mm_cmp, decide_eq_true_eq]
  split
  · next q => exact k1 q
  · next q => exact k2 (by omega)
theorem r_if_lt {d : Int} {t : Nat} (hc : mm_code y pc = some (.ifCond .lt d, 3, c, t, k, pl)) (k1 : z < 0 → mm_X y t ls st h Q) (k2 : 0 ≤ z → mm_X y (pc + 3) ls st h Q) : mm_X y pc ls (vI z :: st) h Q := by
  rw [mm_unf hc]
  simp only [mm_step, mm_if, mm_cmp, decide_eq_true_eq]
  split
  · next q => exact k1 q
  · next q => exact k2 (by omega)
theorem r_icmp_ge {d : Int} {t : Nat} (hc : mm_code y pc = some (.if_icmp .ge d, 3, c, t, k, pl)) (k1 : w ≤ z → mm_X y t ls st h Q) (k2 : z < w → mm_X y (pc + 3) ls st h Q) : mm_X y pc ls (vI w :: vI z :: st) h Q := by
  rw [mm_unf hc]
  simp only [mm_step, mm_icmp, mm_cmp, decide_eq_true_eq]
  split
  · next q => exact k1 q
  · next q => exact k2 (by omega)
theorem r_if_ge {d : Int} {t : Nat} (hc : mm_code y pc = some (.ifCond .ge d, 3, c, t, k, pl)) (k1 : 0 ≤ z → mm_X y t ls st h Q) (k2 : z < 0 → mm_X y (pc + 3) ls st h Q) : mm_X y pc ls (vI z :: st) h Q := by
  rw [mm_unf hc]
  simp only [mm_step, mm_if, mm_cmp, decide_eq_true_eq]
  split
  · next q => exact k1 q
  · next q => exact k2 (by omega)
theorem r_icmp_gt {d : Int} {t : Nat} (hc : mm_code y pc = some (.if_icmp .gt d, 3, c, t, k, pl)) (k1 : w < z → mm_X y t ls st h Q) (k2 : z ≤ w → mm_X y (pc + 3) ls st h Q) : mm_X y pc ls (vI w :: vI z :: st) h Q := by
  rw [mm_unf hc]
  simp only [mm_step, mm_icmp, mm_cmp, decide_eq_true_eq]
  split
  · next q => exact k1 q
  · next q => exact k2 (by omega)
theorem r_if_gt {d : Int} {t : Nat} (hc : mm_code y pc = some (.ifCond .gt d, 3, c, t, k, pl)) (k1 : 0 < z → mm_X y t ls st h Q) (k2 : z ≤ 0 → mm_X y (pc + 3) ls st h Q) : mm_X y pc ls (vI z :: st) h Q := by
  rw [mm_unf hc]
  simp only [mm_step, mm_if, mm_cmp, decide_eq_true_eq]
  split
  · next q => exact k1 q
  · next q => exact k2 (by omega)
theorem r_icmp_le {d : Int} {t : Nat} (hc : mm_code y pc = some (.if_icmp .le d, 3, c, t, k, pl)) (k1 : z ≤ w → mm_X y t ls st h Q) (k2 : w < z → mm_X y (pc + 3) ls st h Q) : mm_X y pc ls (vI w :: vI z :: st) h Q := by
  rw [mm_unf hc]
  simp only [mm_step, mm_icmp, mm_cmp, decide_eq_true_eq]
  split
  · next q => exact k1 q
  · next q => exact k2 (by omega)
theorem r_if_le {d : Int} {t : Nat} (hc : mm_code y pc = some (.ifCond .le d, 3, c, t, k, pl)) (k1 : z ≤ 0 → mm_X y t ls st h Q) (k2 : 0 < z → mm_X y (pc + 3) ls st h Q) : mm_X y pc ls (vI z :: st) h Q := by
  rw [mm_unf hc]
  simp only [mm_step, mm_if, mm_cmp, decide_eq_true_eq]
  split
  · next q => exact k1 q
  · next q => exact k2 (by omega)
theorem r_lcmp_eq {c2 : Int} {x2 k2 : Nat} {pl2 : List Nat} {d : Int} {t : Nat} (hc : mm_code y pc = some (.lcmp, 1, c, x, k, pl)) (hc2 : mm_code y (pc + 1) = some (.ifCond .eq d, 3, c2, t, k2, pl2)) (k1 : z = w → mm_X y t ls st h Q) (kk : z ≠ w → mm_X y (pc + 1 + 3) ls st h Q) : mm_X y pc ls (vJ w :: vJ z :: st) h Q := by
  refine r_lcmp hc (r_if_eq hc2 (fun q => k1 ?_) (fun q => kk ?_))
  all_goals (revert q; repeat' split)
  all_goals omega
theorem r_lcmp_ne {c2 : Int} {x2 k2 : Nat} {pl2 : List Nat} {d : Int} {t : Nat} (hc : mm_code y pc = some (.lcmp, 1, c, x, k, pl)) (hc2 : mm_code y (pc + 1) = some (.ifCond .ne d, 3, c2, t, k2, pl2)) (k1 : z ≠ w → mm_X y t ls st h Q) (kk : z = w → mm_X y (pc + 1 + 3) ls st h Q) : mm_X y pc ls (vJ w :: vJ z :: st) h Q := by
  refine r_lcmp hc (r_if_ne hc2 (fun q => k1 ?_) (fun q => kk ?_))
  all_goals (revert q; repeat' split)
  all_goals omega
theorem r_lcmp_lt {c2 : Int} {x2 k2 : Nat} {pl2 : List Nat} {d : Int} {t : Nat} (hc : mm_code y pc = some (.lcmp, 1, c, x, k, pl)) (hc2 : mm_code y (pc + 1) = some (.ifCond .lt d, 3, c2, t, k2, pl2)) (k1 : z < w → mm_X y t ls st h Q) (kk : w ≤ z → mm_X y (pc + 1 + 3) ls st h Q) : mm_X y pc ls (vJ w :: vJ z :: st) h Q := by
  refine r_lcmp hc (r_if_lt hc2 (fun q => k1 ?_) (fun q => kk ?_))
  all_goals (revert q; repeat' split)
  all_goals omega
theorem r_lcmp_ge {c2 : Int} {x2 k2 : Nat} {pl2 : List Nat} {d : Int} {t : Nat} (hc : mm_code y pc = some (.lcmp, 1, c, x, k, pl)) (hc2 : mm_code y (pc + 1) = some (.ifCond .ge d, 3, c2, t, k2, pl2)) (k1 : w ≤ z → mm_X y t ls st h Q) (kk : z < w → mm_X y (pc + 1 + 3) ls st h Q) : mm_X y pc ls (vJ w :: vJ z :: st) h Q := by
  refine r_lcmp hc (r_if_ge hc2 (fun q => k1 ?_) (fun q => kk ?_))
  all_goals (revert q; repeat' split)
  all_goals omega
theorem r_lcmp_gt {c2 : Int} {x2 k2 : Nat} {pl2 : List Nat} {d : Int} {t : Nat} (hc : mm_code y pc = some (.lcmp, 1, c, x, k, pl)) (hc2 : mm_code y (pc + 1) = some (.ifCond .gt d, 3, c2, t, k2, pl2)) (k1 : w < z → mm_X y t ls st h Q) (kk : z ≤ w → mm_X y (pc + 1 + 3) ls st h Q) : mm_X y pc ls (vJ w :: vJ z :: st) h Q := by
  refine r_lcmp hc (r_if_gt hc2 (fun q => k1 ?_) (fun q => kk ?_))
  all_goals (revert q; repeat' split)
  all_goals omega
theorem r_lcmp_le {c2 : Int} {x2 k2 : Nat} {pl2 : List Nat} {d : Int} {t : Nat} (hc : mm_code y pc = some (.lcmp, 1, c, x, k, pl)) (hc2 : mm_code y (pc + 1) = some (.ifCond .le d, 3, c2, t, k2, pl2)) (k1 : z ≤ w → mm_X y t ls st h Q) (kk : w < z → mm_X y (pc + 1 + 3) ls st h Q) : mm_X y pc ls (vJ w :: vJ z :: st) h Q := by
  refine r_lcmp hc (r_if_le hc2 (fun q => k1 ?_) (fun q => kk ?_))
  all_goals (revert q; repeat' split)
  all_goals omega
theorem r_tsw {d lo hi : Int} {offs : Array Int} (hc : mm_code y pc = some (.tableswitch d lo hi offs, k, c, x, 0, pl)) (hsz : (offs.size : Int) = hi + 1 - lo) (ko : z < lo ∨ hi < z → mm_X y ((pc : Int) + d).toNat ls st h Q)
    (ki : ∀ (i : Nat) (o : Int), offs[i]? = some o → z = lo + i → mm_X y ((pc : Int) + o).toNat ls st h Q) : mm_X y pc ls (vI z :: st) h Q := by
  rw [mm_unf hc]
  simp only [mm_step, mm_switch]
  split
  · next q => exact ko q
  · next q =>
    have hlt : (z - lo).toNat < offs.size := by omega
    rw [Array.getElem?_eq_getElem hlt]
    exact ki (z - lo).toNat _ (Array.getElem?_eq_getElem hlt) (by omega)
theorem r_getf_i {r ci f : Nat} {fs : List (Option Nat)} {i} (hc : mm_code y pc = some (.getfield i, 3, c, ci, f, pl)) (hk : kd L r = .inr (ci, fs)) (hf : fs[f]? = some none) (kk : mm_X y (pc + 3) ls (vI (σ r f) :: st) (hp L σ) Q) : mm_X y pc ls (vP r :: st) (hp L σ) Q := by
  rw [mm_unf hc]
  simp only [mm_step, mm_getf, hp_objq hk, fl_get, hf, Nat.zero_add, mm_go]
  exact kk
theorem r_getf_a {r ci f a : Nat} {fs : List (Option Nat)} {i} (hc : mm_code y pc = some (.getfield i, 3, c, ci, f, pl)) (hk : kd L r = .inr (ci, fs)) (hf : fs[f]? = some (some a)) (kk : mm_X y (pc + 3) ls (vP a :: st) (hp L σ) Q) : mm_X y pc ls (vP r :: st) (hp L σ) Q := by
  rw [mm_unf hc]
  simp only [mm_step, mm_getf, hp_objq hk, fl_get, hf, mm_go]
  exact kk
theorem r_putf {r ci f : Nat} {fs : List (Option Nat)} {i} (hc : mm_code y pc = some (.putfield i, 3, 1, ci, f, pl)) (hk : kd L r = .inr (ci, fs)) (hf : fs[f]? = some none) (kk : mm_X y (pc + 3) ls st (hp L (sto σ r f z)) Q) : mm_X y pc ls (vI z :: vP r :: st) (hp L σ) Q := by
  rw [mm_unf hc]
  have hl : f < (fl fs (σ r) 0).length := by rw [fl_len]; exact (List.getElem?_eq_some_iff.mp hf).1
  simp only [mm_step, mm_putf, hp_objq hk, hl, and_self, if_true, mm_go]
  rw [hp_put hk hf]
  exact kk
theorem r_iald {r t n jn : Nat} {j : Int} (hc : mm_code y pc = some (.iaload, 1, c, x, k, pl)) (hk : kd L r = .inl (t, n)) (ht : t = 0 ∨ t = 3) (ej : j = (jn : Int)) (hj : jn < n) (kk : mm_X y (pc + 1) ls (vI (σ r jn) :: st) (hp L σ) Q) : mm_X y pc ls (vI j :: vP r :: st) (hp L σ) Q := by
  rw [mm_unf hc]
  subst ej
  have h0 : (0 : Int) ≤ jn ∧ (jn : Int) < n := by omega
  simp only [mm_step, mm_iald, hp_arrq hk, ht, h0, and_self, if_true, mm_go, Int.toNat_natCast]
  exact kk
theorem r_bald {r t n jn : Nat} {j : Int} (hc : mm_code y pc = some (.baload, 1, c, x, k, pl)) (hk : kd L r = .inl (t, n)) (ht : t = 1 ∨ t = 2) (ej : j = (jn : Int)) (hj : jn < n) (kk : mm_X y (pc + 1) ls (vI (σ r jn) :: st) (hp L σ) Q) : mm_X y pc ls (vI j :: vP r :: st) (hp L σ) Q := by
  rw [mm_unf hc]
  subst ej
  have h0 : (0 : Int) ≤ jn ∧ (jn : Int) < n := by omega
  simp only [mm_step, mm_bald, hp_arrq hk, ht, h0, and_self, if_true, mm_go, Int.toNat_natCast]
  exact kk
theorem r_iast {r n jn : Nat} {j : Int} (hc : mm_code y pc = some (.iastore, 1, c, x, k, pl)) (hk : kd L r = .inl (0, n)) (ej : j = (jn : Int)) (hj : jn < n) (kk : mm_X y (pc + 1) ls st (hp L (sto σ r jn z)) Q) : mm_X y pc ls (vI z :: vI j :: vP r :: st) (hp L σ) Q := by
  rw [mm_unf hc]
  subst ej
  have h0 : (0 : Int) ≤ jn ∧ (jn : Int) < n := by omega
  simp only [mm_step, mm_iast, hp_arrq hk, h0, and_self, if_true, mm_go, Int.toNat_natCast]
  rw [hp_sta hk]
  exact kk
theorem r_bast2 {r n jn : Nat} {j : Int} (hc : mm_code y pc = some (.bastore, 1, c, x, k, pl)) (hk : kd L r = .inl (2, n)) (ej : j = (jn : Int)) (hj : jn < n) (kk : mm_X y (pc + 1) ls st (hp L (sto σ r jn (mm_w8 z))) Q) : mm_X y pc ls (vI z :: vI j :: vP r :: st) (hp L σ) Q := by
  rw [mm_unf hc]
  subst ej
  have h0 : (0 : Int) ≤ jn ∧ (jn : Int) < n := by omega
  simp only [mm_step, mm_bast, hp_arrq hk, h0, and_self, if_true, mm_go, Int.toNat_natCast]
  rw [hp_sta hk]
  exact kk
theorem r_bast1 {r n jn : Nat} {j : Int} (hc : mm_code y pc = some (.bastore, 1, c, x, k, pl)) (hk : kd L r = .inl (1, n)) (ej : j = (jn : Int)) (hj : jn < n) (hz : z = 0 ∨ z = 1) (kk : mm_X y (pc + 1) ls st (hp L (sto σ r jn z)) Q) : mm_X y pc ls (vI z :: vI j :: vP r :: st) (hp L σ) Q := by
  rw [mm_unf hc]
  subst ej
  have h0 : (0 : Int) ≤ jn ∧ (jn : Int) < n := by omega
  simp only [mm_step, mm_bast, hp_arrq hk, h0, hz, and_self, if_true, mm_go, Int.toNat_natCast, show ¬ ((1 : Nat) = 2) by decide, false_and, if_false]
  rw [hp_sta hk]
  exact kk
theorem r_alen {r t n : Nat} (hc : mm_code y pc = some (.arraylength, 1, c, x, k, pl)) (hk : kd L r = .inl (t, n)) (ht : t < 4) (hn : n < 2147483648) (kk : mm_X y (pc + 1) ls (vI n :: st) (hp L σ) Q) : mm_X y pc ls (vP r :: st) (hp L σ) Q := by
  rw [mm_unf hc]
  simp only [mm_step, mm_alen, hp_arrq hk, ht, hn, and_self, if_true, mm_go]
  exact kk
theorem r_iret (hc : mm_code y pc = some (.ireturn, 1, 0, x, k, pl)) (kk : Q (some (vI z)) h) : mm_X y pc ls [vI z] h Q := by
  rw [mm_unf hc]
  simp only [mm_step, mm_iret, show ¬ ((0 : Int) = 1) by decide, false_imp_iff, if_true, mm_go]
  exact kk
theorem r_zret (hc : mm_code y pc = some (.ireturn, 1, 1, x, k, pl)) (hz : z = 0 ∨ z = 1) (kk : Q (some (vI z)) h) : mm_X y pc ls [vI z] h Q := by
  rw [mm_unf hc]
  simp only [mm_step, mm_iret]
  rw [if_pos (fun _ => hz)]
  exact kk
theorem r_aret {a : Nat} (hc : mm_code y pc = some (.areturn, 1, c, x, k, pl)) (kk : Q (some (vP a)) h) : mm_X y pc ls [vP a] h Q := by
  rw [mm_unf hc]
  simp only [mm_step, mm_aret, mm_go]
  exact kk
theorem r_ret (hc : mm_code y pc = some (.return_, 1, c, x, k, pl)) (kk : Q none h) : mm_X y pc ls [] h Q := by
  rw [mm_unf hc]
  simp only [mm_step, mm_go]
  exact kk
theorem r_cS0 {i} {m : Nat} (hc : mm_code y pc = some (.invokestatic i, 3, c, m, 0, pl)) (hr : mm_cat rest ≤ 8) (kk : mm_call m [] h (fun v h' => mm_X y (pc + 3) ls (v.toList ++ rest) h' Q)) : mm_X y pc ls (rest) h Q := by
  rw [mm_unf hc]
  simp only [mm_step, mm_callS]
  rw [if_pos ⟨by simp, hr⟩]
  exact kk
theorem r_cV0 {i} {m a : Nat} {fs : List (Option Nat)} (hc : mm_code y pc = some (.invokevirtual i, 3, c, m, 0, pl)) (hk : kd L a = .inr (c.toNat, fs)) (hr : mm_cat rest ≤ 8) (kk : mm_call m [vP a] (hp L σ) (fun v h' => mm_X y (pc + 3) ls (v.toList ++ rest) h' Q)) : mm_X y pc ls (vP a :: rest) (hp L σ) Q := by
  rw [mm_unf hc]
  simp only [mm_step, mm_callV, List.drop, hp_objq hk]
  rw [if_pos hr]
  exact kk
theorem r_cS1 {v0 : mm_V} {i} {m : Nat} (hc : mm_code y pc = some (.invokestatic i, 3, c, m, 1, pl)) (hr : mm_cat rest ≤ 8) (kk : mm_call m [v0] h (fun v h' => mm_X y (pc + 3) ls (v.toList ++ rest) h' Q)) : mm_X y pc ls (v0 :: rest) h Q := by
  rw [mm_unf hc]
  simp only [mm_step, mm_callS]
  rw [if_pos ⟨by simp, hr⟩]
  exact kk
theorem r_cV1 {v0 : mm_V} {i} {m a : Nat} {fs : List (Option Nat)} (hc : mm_code y pc = some (.invokevirtual i, 3, c, m, 1, pl)) (hk : kd L a = .inr (c.toNat, fs)) (hr : mm_cat rest ≤ 8) (kk : mm_call m [vP a, v0] (hp L σ) (fun v h' => mm_X y (pc + 3) ls (v.toList ++ rest) h' Q)) : mm_X y pc ls (v0 :: vP a :: rest) (hp L σ) Q := by
  rw [mm_unf hc]
  simp only [mm_step, mm_callV, List.drop, hp_objq hk]
  rw [if_pos hr]
  exact kk
theorem r_cS2 {v0 v1 : mm_V} {i} {m : Nat} (hc : mm_code y pc = some (.invokestatic i, 3, c, m, 2, pl)) (hr : mm_cat rest ≤ 8) (kk : mm_call m [v0, v1] h (fun v h' => mm_X y (pc + 3) ls (v.toList ++ rest) h' Q)) : mm_X y pc ls (v1 :: v0 :: rest) h Q := by
  rw [mm_unf hc]
  simp only [mm_step, mm_callS]
  rw [if_pos ⟨by simp, hr⟩]
  exact kk
theorem r_cV2 {v0 v1 : mm_V} {i} {m a : Nat} {fs : List (Option Nat)} (hc : mm_code y pc = some (.invokevirtual i, 3, c, m, 2, pl)) (hk : kd L a = .inr (c.toNat, fs)) (hr : mm_cat rest ≤ 8) (kk : mm_call m [vP a, v0, v1] (hp L σ) (fun v h' => mm_X y (pc + 3) ls (v.toList ++ rest) h' Q)) : mm_X y pc ls (v1 :: v0 :: vP a :: rest) (hp L σ) Q := by
  rw [mm_unf hc]
  simp only [mm_step, mm_callV, List.drop, hp_objq hk]
  rw [if_pos hr]
  exact kk
theorem r_cS3 {v0 v1 v2 : mm_V} {i} {m : Nat} (hc : mm_code y pc = some (.invokestatic i, 3, c, m, 3, pl)) (hr : mm_cat rest ≤ 8) (kk : mm_call m [v0, v1, v2] h (fun v h' => mm_X y (pc + 3) ls (v.toList ++ rest) h' Q)) : mm_X y pc ls (v2 :: v1 :: v0 :: rest) h Q := by
  rw [mm_unf hc]
  simp only [mm_step, mm_callS]
  rw [if_pos ⟨by simp, hr⟩]
  exact kk
theorem r_cV3 {v0 v1 v2 : mm_V} {i} {m a : Nat} {fs : List (Option Nat)} (hc : mm_code y pc = some (.invokevirtual i, 3, c, m, 3, pl)) (hk : kd L a = .inr (c.toNat, fs)) (hr : mm_cat rest ≤ 8) (kk : mm_call m [vP a, v0, v1, v2] (hp L σ) (fun v h' => mm_X y (pc + 3) ls (v.toList ++ rest) h' Q)) : mm_X y pc ls (v2 :: v1 :: v0 :: vP a :: rest) (hp L σ) Q := by
  rw [mm_unf hc]
  simp only [mm_step, mm_callV, List.drop, hp_objq hk]
  rw [if_pos hr]
  exact kk
theorem r_cS4 {v0 v1 v2 v3 : mm_V} {i} {m : Nat} (hc : mm_code y pc = some (.invokestatic i, 3, c, m, 4, pl)) (hr : mm_cat rest ≤ 8) (kk : mm_call m [v0, v1, v2, v3] h (fun v h' => mm_X y (pc + 3) ls (v.toList ++ rest) h' Q)) : mm_X y pc ls (v3 :: v2 :: v1 :: v0 :: rest) h Q := by
  rw [mm_unf hc]
  simp only [mm_step, mm_callS]
  rw [if_pos ⟨by simp, hr⟩]
  exact kk
theorem r_cV4 {v0 v1 v2 v3 : mm_V} {i} {m a : Nat} {fs : List (Option Nat)} (hc : mm_code y pc = some (.invokevirtual i, 3, c, m, 4, pl)) (hk : kd L a = .inr (c.toNat, fs)) (hr : mm_cat rest ≤ 8) (kk : mm_call m [vP a, v0, v1, v2, v3] (hp L σ) (fun v h' => mm_X y (pc + 3) ls (v.toList ++ rest) h' Q)) : mm_X y pc ls (v3 :: v2 :: v1 :: v0 :: vP a :: rest) (hp L σ) Q := by
  rw [mm_unf hc]
  simp only [mm_step, mm_callV, List.drop, hp_objq hk]
  rw [if_pos hr]
  exact kk
theorem r_cS5 {v0 v1 v2 v3 v4 : mm_V} {i} {m : Nat} (hc : mm_code y pc = some (.invokestatic i, 3, c, m, 5, pl)) (hr : mm_cat rest ≤ 8) (kk : mm_call m [v0, v1, v2, v3, v4] h (fun v h' => mm_X y (pc + 3) ls (v.toList ++ rest) h' Q)) : mm_X y pc ls (v4 :: v3 :: v2 :: v1 :: v0 :: rest) h Q := by
  rw [mm_unf hc]
  simp only [mm_step, mm_callS]
  rw [if_pos ⟨by simp, hr⟩]
  exact kk
theorem r_cV5 {v0 v1 v2 v3 v4 : mm_V} {i} {m a : Nat} {fs : List (Option Nat)} (hc : mm_code y pc = some (.invokevirtual i, 3, c, m, 5, pl)) (hk : kd L a = .inr (c.toNat, fs)) (hr : mm_cat rest ≤ 8) (kk : mm_call m [vP a, v0, v1, v2, v3, v4] (hp L σ) (fun v h' => mm_X y (pc + 3) ls (v.toList ++ rest) h' Q)) : mm_X y pc ls (v4 :: v3 :: v2 :: v1 :: v0 :: vP a :: rest) (hp L σ) Q := by
  rw [mm_unf hc]
  simp only [mm_step, mm_callV, List.drop, hp_objq hk]
  rw [if_pos hr]
  exact kk
theorem r_astore_n_4_1 {a0 a1 a2 a3 : mm_V} {r : Nat} (hc : mm_code y pc = some (.astore_n 1, 1, c, x, k, pl)) (ho : mm_wide a0 = false) (kk : mm_X y (pc + 1) [a0, vP r, a2, a3] st h Q) : mm_X y pc [a0, a1, a2, a3] (vP r :: st) h Q := r_astore_n_g hc (by show (!(mm_wide a0)) = true; rw [ho]; rfl) kk
theorem r_astore_n_4_2 {a0 a1 a2 a3 : mm_V} {r : Nat} (hc : mm_code y pc = some (.astore_n 2, 1, c, x, k, pl)) (ho : mm_wide a1 = false) (kk : mm_X y (pc + 1) [a0, a1, vP r, a3] st h Q) : mm_X y pc [a0, a1, a2, a3] (vP r :: st) h Q := r_astore_n_g hc (by show (!(mm_wide a1)) = true; rw [ho]; rfl) kk
theorem r_iinc_2_1 {a0 : mm_V} {d : Int} (hc : mm_code y pc = some (.iinc 1 d, 3, c, x, k, pl)) (ho : mm_wide a0 = false) (hr : -2147483648 ≤ z + d ∧ z + d ≤ 2147483647) (kk : mm_X y (pc + 3) [a0, vI (z + d)] st h Q) : mm_X y pc [a0, vI z] st h Q := r_iinc_g hc rfl (by show (!(mm_wide a0)) = true; rw [ho]; rfl) hr kk
theorem r_iinc_3_1 {a0 a2 : mm_V} {d : Int} (hc : mm_code y pc = some (.iinc 1 d, 3, c, x, k, pl)) (ho : mm_wide a0 = false) (hr : -2147483648 ≤ z + d ∧ z + d ≤ 2147483647) (kk : mm_X y (pc + 3) [a0, vI (z + d), a2] st h Q) : mm_X y pc [a0, vI z, a2] st h Q := r_iinc_g hc rfl (by show (!(mm_wide a0)) = true; rw [ho]; rfl) hr kk
theorem r_iinc_3_2 {a0 a1 : mm_V} {d : Int} (hc : mm_code y pc = some (.iinc 2 d, 3, c, x, k, pl)) (ho : mm_wide a1 = false) (hr : -2147483648 ≤ z + d ∧ z + d ≤ 2147483647) (kk : mm_X y (pc + 3) [a0, a1, vI (z + d)] st h Q) : mm_X y pc [a0, a1, vI z] st h Q := r_iinc_g hc rfl (by show (!(mm_wide a1)) = true; rw [ho]; rfl) hr kk
theorem r_iinc_4_2 {a0 a1 a3 : mm_V} {d : Int} (hc : mm_code y pc = some (.iinc 2 d, 3, c, x, k, pl)) (ho : mm_wide a1 = false) (hr : -2147483648 ≤ z + d ∧ z + d ≤ 2147483647) (kk : mm_X y (pc + 3) [a0, a1, vI (z + d), a3] st h Q) : mm_X y pc [a0, a1, vI z, a3] st h Q := r_iinc_g hc rfl (by show (!(mm_wide a1)) = true; rw [ho]; rfl) hr kk
theorem r_iinc_4_3 {a0 a1 a2 : mm_V} {d : Int} (hc : mm_code y pc = some (.iinc 3 d, 3, c, x, k, pl)) (ho : mm_wide a2 = false) (hr : -2147483648 ≤ z + d ∧ z + d ≤ 2147483647) (kk : mm_X y (pc + 3) [a0, a1, a2, vI (z + d)] st h Q) : mm_X y pc [a0, a1, a2, vI z] st h Q := r_iinc_g hc rfl (by show (!(mm_wide a2)) = true; rw [ho]; rfl) hr kk
theorem r_iinc_5_1 {a0 a2 a3 a4 : mm_V} {d : Int} (hc : mm_code y pc = some (.iinc 1 d, 3, c, x, k, pl)) (ho : mm_wide a0 = false) (hr : -2147483648 ≤ z + d ∧ z + d ≤ 2147483647) (kk : mm_X y (pc + 3) [a0, vI (z + d), a2, a3, a4] st h Q) : mm_X y pc [a0, vI z, a2, a3, a4] st h Q := r_iinc_g hc rfl (by show (!(mm_wide a0)) = true; rw [ho]; rfl) hr kk
theorem r_iinc_5_3 {a0 a1 a2 a4 : mm_V} {d : Int} (hc : mm_code y pc = some (.iinc 3 d, 3, c, x, k, pl)) (ho : mm_wide a2 = false) (hr : -2147483648 ≤ z + d ∧ z + d ≤ 2147483647) (kk : mm_X y (pc + 3) [a0, a1, a2, vI (z + d), a4] st h Q) : mm_X y pc [a0, a1, a2, vI z, a4] st h Q := r_iinc_g hc rfl (by show (!(mm_wide a2)) = true; rw [ho]; rfl) hr kk
theorem r_iinc_5_4 {a0 a1 a2 a3 : mm_V} {d : Int} (hc : mm_code y pc = some (.iinc 4 d, 3, c, x, k, pl)) (ho : mm_wide a3 = false) (hr : -2147483648 ≤ z + d ∧ z + d ≤ 2147483647) (kk : mm_X y (pc + 3) [a0, a1, a2, a3, vI (z + d)] st h Q) : mm_X y pc [a0, a1, a2, a3, vI z] st h Q := r_iinc_g hc rfl (by show (!(mm_wide a3)) = true; rw [ho]; rfl) hr kk
theorem r_iinc_6_2 {a0 a1 a3 a4 a5 : mm_V} {d : Int} (hc : mm_code y pc = some (.iinc 2 d, 3, c, x, k, pl)) (ho : mm_wide a1 = false) (hr : -2147483648 ≤ z + d ∧ z + d ≤ 2147483647) (kk : mm_X y (pc + 3) [a0, a1, vI (z + d), a3, a4, a5] st h Q) : mm_X y pc [a0, a1, vI z, a3, a4, a5] st h Q := r_iinc_g hc rfl (by show (!(mm_wide a1)) = true; rw [ho]; rfl) hr kk
theorem r_iinc_6_4 {a0 a1 a2 a3 a5 : mm_V} {d : Int} (hc : mm_code y pc = some (.iinc 4 d, 3, c, x, k, pl)) (ho : mm_wide a3 = false) (hr : -2147483648 ≤ z + d ∧ z + d ≤ 2147483647) (kk : mm_X y (pc + 3) [a0, a1, a2, a3, vI (z + d), a5] st h Q) : mm_X y pc [a0, a1, a2, a3, vI z, a5] st h Q := r_iinc_g hc rfl (by show (!(mm_wide a3)) = true; rw [ho]; rfl) hr kk
theorem r_iinc_6_5 {a0 a1 a2 a3 a4 : mm_V} {d : Int} (hc : mm_code y pc = some (.iinc 5 d, 3, c, x, k, pl)) (ho : mm_wide a4 = false) (hr : -2147483648 ≤ z + d ∧ z + d ≤ 2147483647) (kk : mm_X y (pc + 3) [a0, a1, a2, a3, a4, vI (z + d)] st h Q) : mm_X y pc [a0, a1, a2, a3, a4, vI z] st h Q := r_iinc_g hc rfl (by show (!(mm_wide a4)) = true; rw [ho]; rfl) hr kk
theorem r_iinc_7_1 {a0 a2 a3 a4 a5 a6 : mm_V} {d : Int} (hc : mm_code y pc = some (.iinc 1 d, 3, c, x, k, pl)) (ho : mm_wide a0 = false) (hr : -2147483648 ≤ z + d ∧ z + d ≤ 2147483647) (kk : mm_X y (pc + 3) [a0, vI (z + d), a2, a3, a4, a5, a6] st h Q) : mm_X y pc [a0, vI z, a2, a3, a4, a5, a6] st h Q := r_iinc_g hc rfl (by show (!(mm_wide a0)) = true; rw [ho]; rfl) hr kk
theorem r_iinc_7_3 {a0 a1 a2 a4 a5 a6 : mm_V} {d : Int} (hc : mm_code y pc = some (.iinc 3 d, 3, c, x, k, pl)) (ho : mm_wide a2 = false) (hr : -2147483648 ≤ z + d ∧ z + d ≤ 2147483647) (kk : mm_X y (pc + 3) [a0, a1, a2, vI (z + d), a4, a5, a6] st h Q) : mm_X y pc [a0, a1, a2, vI z, a4, a5, a6] st h Q := r_iinc_g hc rfl (by show (!(mm_wide a2)) = true; rw [ho]; rfl) hr kk
theorem r_iinc_7_4 {a0 a1 a2 a3 a5 a6 : mm_V} {d : Int} (hc : mm_code y pc = some (.iinc 4 d, 3, c, x, k, pl)) (ho : mm_wide a3 = false) (hr : -2147483648 ≤ z + d ∧ z + d ≤ 2147483647) (kk : mm_X y (pc + 3) [a0, a1, a2, a3, vI (z + d), a5, a6] st h Q) : mm_X y pc [a0, a1, a2, a3, vI z, a5, a6] st h Q := r_iinc_g hc rfl (by show (!(mm_wide a3)) = true; rw [ho]; rfl) hr kk
theorem r_iinc_7_5 {a0 a1 a2 a3 a4 a6 : mm_V} {d : Int} (hc : mm_code y pc = some (.iinc 5 d, 3, c, x, k, pl)) (ho : mm_wide a4 = false) (hr : -2147483648 ≤ z + d ∧ z + d ≤ 2147483647) (kk : mm_X y (pc + 3) [a0, a1, a2, a3, a4, vI (z + d), a6] st h Q) : mm_X y pc [a0, a1, a2, a3, a4, vI z, a6] st h Q := r_iinc_g hc rfl (by show (!(mm_wide a4)) = true; rw [ho]; rfl) hr kk
theorem r_iinc_7_6 {a0 a1 a2 a3 a4 a5 : mm_V} {d : Int} (hc : mm_code y pc = some (.iinc 6 d, 3, c, x, k, pl)) (ho : mm_wide a5 = false) (hr : -2147483648 ≤ z + d ∧ z + d ≤ 2147483647) (kk : mm_X y (pc + 3) [a0, a1, a2, a3, a4, a5, vI (z + d)] st h Q) : mm_X y pc [a0, a1, a2, a3, a4, a5, vI z] st h Q := r_iinc_g hc rfl (by show (!(mm_wide a5)) = true; rw [ho]; rfl) hr kk
theorem r_iinc_8_3 {a0 a1 a2 a4 a5 a6 a7 : mm_V} {d : Int} (hc : mm_code y pc = some (.iinc 3 d, 3, c, x, k, pl)) (ho : mm_wide a2 = false) (hr : -2147483648 ≤ z + d ∧ z + d ≤ 2147483647) (kk : mm_X y (pc + 3) [a0, a1, a2, vI (z + d), a4, a5, a6, a7] st h Q) : mm_X y pc [a0, a1, a2, vI z, a4, a5, a6, a7] st h Q := r_iinc_g hc rfl (by show (!(mm_wide a2)) = true; rw [ho]; rfl) hr kk
theorem r_iinc_8_4 {a0 a1 a2 a3 a5 a6 a7 : mm_V} {d : Int} (hc : mm_code y pc = some (.iinc 4 d, 3, c, x, k, pl)) (ho : mm_wide a3 = false) (hr : -2147483648 ≤ z + d ∧ z + d ≤ 2147483647) (kk : mm_X y (pc + 3) [a0, a1, a2, a3, vI (z + d), a5, a6, a7] st h Q) : mm_X y pc [a0, a1, a2, a3, vI z, a5, a6, a7] st h Q := r_iinc_g hc rfl (by show (!(mm_wide a3)) = true; rw [ho]; rfl) hr kk
theorem r_iinc_8_5 {a0 a1 a2 a3 a4 a6 a7 : mm_V} {d : Int} (hc : mm_code y pc = some (.iinc 5 d, 3, c, x, k, pl)) (ho : mm_wide a4 = false) (hr : -2147483648 ≤ z + d ∧ z + d ≤ 2147483647) (kk : mm_X y (pc + 3) [a0, a1, a2, a3, a4, vI (z + d), a6, a7] st h Q) : mm_X y pc [a0, a1, a2, a3, a4, vI z, a6, a7] st h Q := r_iinc_g hc rfl (by show (!(mm_wide a4)) = true; rw [ho]; rfl) hr kk
theorem r_iinc_8_6 {a0 a1 a2 a3 a4 a5 a7 : mm_V} {d : Int} (hc : mm_code y pc = some (.iinc 6 d, 3, c, x, k, pl)) (ho : mm_wide a5 = false) (hr : -2147483648 ≤ z + d ∧ z + d ≤ 2147483647) (kk : mm_X y (pc + 3) [a0, a1, a2, a3, a4, a5, vI (z + d), a7] st h Q) : mm_X y pc [a0, a1, a2, a3, a4, a5, vI z, a7] st h Q := r_iinc_g hc rfl (by show (!(mm_wide a5)) = true; rw [ho]; rfl) hr kk
theorem r_iinc_8_7 {a0 a1 a2 a3 a4 a5 a6 : mm_V} {d : Int} (hc : mm_code y pc = some (.iinc 7 d, 3, c, x, k, pl)) (ho : mm_wide a6 = false) (hr : -2147483648 ≤ z + d ∧ z + d ≤ 2147483647) (kk : mm_X y (pc + 3) [a0, a1, a2, a3, a4, a5, a6, vI (z + d)] st h Q) : mm_X y pc [a0, a1, a2, a3, a4, a5, a6, vI z] st h Q := r_iinc_g hc rfl (by show (!(mm_wide a6)) = true; rw [ho]; rfl) hr kk
theorem r_iinc_9_4 {a0 a1 a2 a3 a5 a6 a7 a8 : mm_V} {d : Int} (hc : mm_code y pc = some (.iinc 4 d, 3, c, x, k, pl)) (ho : mm_wide a3 = false) (hr : -2147483648 ≤ z + d ∧ z + d ≤ 2147483647) (kk : mm_X y (pc + 3) [a0, a1, a2, a3, vI (z + d), a5, a6, a7, a8] st h Q) : mm_X y pc [a0, a1, a2, a3, vI z, a5, a6, a7, a8] st h Q := r_iinc_g hc rfl (by show (!(mm_wide a3)) = true; rw [ho]; rfl) hr kk
theorem r_iinc_9_5 {a0 a1 a2 a3 a4 a6 a7 a8 : mm_V} {d : Int} (hc : mm_code y pc = some (.iinc 5 d, 3, c, x, k, pl)) (ho : mm_wide a4 = false) (hr : -2147483648 ≤ z + d ∧ z + d ≤ 2147483647) (kk : mm_X y (pc + 3) [a0, a1, a2, a3, a4, vI (z + d), a6, a7, a8] st h Q) : mm_X y pc [a0, a1, a2, a3, a4, vI z, a6, a7, a8] st h Q := r_iinc_g hc rfl (by show (!(mm_wide a4)) = true; rw [ho]; rfl) hr kk
theorem r_iinc_10_5 {a0 a1 a2 a3 a4 a6 a7 a8 a9 : mm_V} {d : Int} (hc : mm_code y pc = some (.iinc 5 d, 3, c, x, k, pl)) (ho : mm_wide a4 = false) (hr : -2147483648 ≤ z + d ∧ z + d ≤ 2147483647) (kk : mm_X y (pc + 3) [a0, a1, a2, a3, a4, vI (z + d), a6, a7, a8, a9] st h Q) : mm_X y pc [a0, a1, a2, a3, a4, vI z, a6, a7, a8, a9] st h Q := r_iinc_g hc rfl (by show (!(mm_wide a4)) = true; rw [ho]; rfl) hr kk
theorem r_iinc_12_7 {a0 a1 a2 a3 a4 a5 a6 a8 a9 a10 a11 : mm_V} {d : Int} (hc : mm_code y pc = some (.iinc 7 d, 3, c, x, k, pl)) (ho : mm_wide a6 = false) (hr : -2147483648 ≤ z + d ∧ z + d ≤ 2147483647) (kk : mm_X y (pc + 3) [a0, a1, a2, a3, a4, a5, a6, vI (z + d), a8, a9, a10, a11] st h Q) : mm_X y pc [a0, a1, a2, a3, a4, a5, a6, vI z, a8, a9, a10, a11] st h Q := r_iinc_g hc rfl (by show (!(mm_wide a6)) = true; rw [ho]; rfl) hr kk
theorem r_iinc_12_10 {a0 a1 a2 a3 a4 a5 a6 a7 a8 a9 a11 : mm_V} {d : Int} (hc : mm_code y pc = some (.iinc 10 d, 3, c, x, k, pl)) (ho : mm_wide a9 = false) (hr : -2147483648 ≤ z + d ∧ z + d ≤ 2147483647) (kk : mm_X y (pc + 3) [a0, a1, a2, a3, a4, a5, a6, a7, a8, a9, vI (z + d), a11] st h Q) : mm_X y pc [a0, a1, a2, a3, a4, a5, a6, a7, a8, a9, vI z, a11] st h Q := r_iinc_g hc rfl (by show (!(mm_wide a9)) = true; rw [ho]; rfl) hr kk
theorem r_iinc_13_4 {a0 a1 a2 a3 a5 a6 a7 a8 a9 a10 a11 a12 : mm_V} {d : Int} (hc : mm_code y pc = some (.iinc 4 d, 3, c, x, k, pl)) (ho : mm_wide a3 = false) (hr : -2147483648 ≤ z + d ∧ z + d ≤ 2147483647) (kk : mm_X y (pc + 3) [a0, a1, a2, a3, vI (z + d), a5, a6, a7, a8, a9, a10, a11, a12] st h Q) : mm_X y pc [a0, a1, a2, a3, vI z, a5, a6, a7, a8, a9, a10, a11, a12] st h Q := r_iinc_g hc rfl (by show (!(mm_wide a3)) = true; rw [ho]; rfl) hr kk
theorem r_iinc_13_5 {a0 a1 a2 a3 a4 a6 a7 a8 a9 a10 a11 a12 : mm_V} {d : Int} (hc : mm_code y pc = some (.iinc 5 d, 3, c, x, k, pl)) (ho : mm_wide a4 = false) (hr : -2147483648 ≤ z + d ∧ z + d ≤ 2147483647) (kk : mm_X y (pc + 3) [a0, a1, a2, a3, a4, vI (z + d), a6, a7, a8, a9, a10, a11, a12] st h Q) : mm_X y pc [a0, a1, a2, a3, a4, vI z, a6, a7, a8, a9, a10, a11, a12] st h Q := r_iinc_g hc rfl (by show (!(mm_wide a4)) = true; rw [ho]; rfl) hr kk
theorem r_iinc_13_8 {a0 a1 a2 a3 a4 a5 a6 a7 a9 a10 a11 a12 : mm_V} {d : Int} (hc : mm_code y pc = some (.iinc 8 d, 3, c, x, k, pl)) (ho : mm_wide a7 = false) (hr : -2147483648 ≤ z + d ∧ z + d ≤ 2147483647) (kk : mm_X y (pc + 3) [a0, a1, a2, a3, a4, a5, a6, a7, vI (z + d), a9, a10, a11, a12] st h Q) : mm_X y pc [a0, a1, a2, a3, a4, a5, a6, a7, vI z, a9, a10, a11, a12] st h Q := r_iinc_g hc rfl (by show (!(mm_wide a7)) = true; rw [ho]; rfl) hr kk
theorem r_iinc_13_9 {a0 a1 a2 a3 a4 a5 a6 a7 a8 a10 a11 a12 : mm_V} {d : Int} (hc : mm_code y pc = some (.iinc 9 d, 3, c, x, k, pl)) (ho : mm_wide a8 = false) (hr : -2147483648 ≤ z + d ∧ z + d ≤ 2147483647) (kk : mm_X y (pc + 3) [a0, a1, a2, a3, a4, a5, a6, a7, a8, vI (z + d), a10, a11, a12] st h Q) : mm_X y pc [a0, a1, a2, a3, a4, a5, a6, a7, a8, vI z, a10, a11, a12] st h Q := r_iinc_g hc rfl (by show (!(mm_wide a8)) = true; rw [ho]; rfl) hr kk
theorem r_iinc_13_10 {a0 a1 a2 a3 a4 a5 a6 a7 a8 a9 a11 a12 : mm_V} {d : Int} (hc : mm_code y pc = some (.iinc 10 d, 3, c, x, k, pl)) (ho : mm_wide a9 = false) (hr : -2147483648 ≤ z + d ∧ z + d ≤ 2147483647) (kk : mm_X y (pc + 3) [a0, a1, a2, a3, a4, a5, a6, a7, a8, a9, vI (z + d), a11, a12] st h Q) : mm_X y pc [a0, a1, a2, a3, a4, a5, a6, a7, a8, a9, vI z, a11, a12] st h Q := r_iinc_g hc rfl (by show (!(mm_wide a9)) = true; rw [ho]; rfl) hr kk
theorem r_iinc_13_11 {a0 a1 a2 a3 a4 a5 a6 a7 a8 a9 a10 a12 : mm_V} {d : Int} (hc : mm_code y pc = some (.iinc 11 d, 3, c, x, k, pl)) (ho : mm_wide a10 = false) (hr : -2147483648 ≤ z + d ∧ z + d ≤ 2147483647) (kk : mm_X y (pc + 3) [a0, a1, a2, a3, a4, a5, a6, a7, a8, a9, a10, vI (z + d), a12] st h Q) : mm_X y pc [a0, a1, a2, a3, a4, a5, a6, a7, a8, a9, a10, vI z, a12] st h Q := r_iinc_g hc rfl (by show (!(mm_wide a10)) = true; rw [ho]; rfl) hr kk
theorem r_iinc_13_12 {a0 a1 a2 a3 a4 a5 a6 a7 a8 a9 a10 a11 : mm_V} {d : Int} (hc : mm_code y pc = some (.iinc 12 d, 3, c, x, k, pl)) (ho : mm_wide a11 = false) (hr : -2147483648 ≤ z + d ∧ z + d ≤ 2147483647) (kk : mm_X y (pc + 3) [a0, a1, a2, a3, a4, a5, a6, a7, a8, a9, a10, a11, vI (z + d)] st h Q) : mm_X y pc [a0, a1, a2, a3, a4, a5, a6, a7, a8, a9, a10, a11, vI z] st h Q := r_iinc_g hc rfl (by show (!(mm_wide a11)) = true; rw [ho]; rfl) hr kk
theorem r_iinc_18_13 {a0 a1 a2 a3 a4 a5 a6 a7 a8 a9 a10 a11 a12 a14 a15 a16 a17 : mm_V} {d : Int} (hc : mm_code y pc = some (.iinc 13 d, 3, c, x, k, pl)) (ho : mm_wide a12 = false) (hr : -2147483648 ≤ z + d ∧ z + d ≤ 2147483647) (kk : mm_X y (pc + 3) [a0, a1, a2, a3, a4, a5, a6, a7, a8, a9, a10, a11, a12, vI (z + d), a14, a15, a16, a17] st h Q) : mm_X y pc [a0, a1, a2, a3, a4, a5, a6, a7, a8, a9, a10, a11, a12, vI z, a14, a15, a16, a17] st h Q := r_iinc_g hc rfl (by show (!(mm_wide a12)) = true; rw [ho]; rfl) hr kk
theorem r_iinc_20_5 {a0 a1 a2 a3 a4 a6 a7 a8 a9 a10 a11 a12 a13 a14 a15 a16 a17 a18 a19 : mm_V} {d : Int} (hc : mm_code y pc = some (.iinc 5 d, 3, c, x, k, pl)) (ho : mm_wide a4 = false) (hr : -2147483648 ≤ z + d ∧ z + d ≤ 2147483647) (kk : mm_X y (pc + 3) [a0, a1, a2, a3, a4, vI (z + d), a6, a7, a8, a9, a10, a11, a12, a13, a14, a15, a16, a17, a18, a19] st h Q) : mm_X y pc [a0, a1, a2, a3, a4, vI z, a6, a7, a8, a9, a10, a11, a12, a13, a14, a15, a16, a17, a18, a19] st h Q := r_iinc_g hc rfl (by show (!(mm_wide a4)) = true; rw [ho]; rfl) hr kk
theorem r_iinc_20_6 {a0 a1 a2 a3 a4 a5 a7 a8 a9 a10 a11 a12 a13 a14 a15 a16 a17 a18 a19 : mm_V} {d : Int} (hc : mm_code y pc = some (.iinc 6 d, 3, c, x, k, pl)) (ho : mm_wide a5 = false) (hr : -2147483648 ≤ z + d ∧ z + d ≤ 2147483647) (kk : mm_X y (pc + 3) [a0, a1, a2, a3, a4, a5, vI (z + d), a7, a8, a9, a10, a11, a12, a13, a14, a15, a16, a17, a18, a19] st h Q) : mm_X y pc [a0, a1, a2, a3, a4, a5, vI z, a7, a8, a9, a10, a11, a12, a13, a14, a15, a16, a17, a18, a19] st h Q := r_iinc_g hc rfl (by show (!(mm_wide a5)) = true; rw [ho]; rfl) hr kk
theorem r_iinc_20_17 {a0 a1 a2 a3 a4 a5 a6 a7 a8 a9 a10 a11 a12 a13 a14 a15 a16 a18 a19 : mm_V} {d : Int} (hc : mm_code y pc = some (.iinc 17 d, 3, c, x, k, pl)) (ho : mm_wide a16 = false) (hr : -2147483648 ≤ z + d ∧ z + d ≤ 2147483647) (kk : mm_X y (pc + 3) [a0, a1, a2, a3, a4, a5, a6, a7, a8, a9, a10, a11, a12, a13, a14, a15, a16, vI (z + d), a18, a19] st h Q) : mm_X y pc [a0, a1, a2, a3, a4, a5, a6, a7, a8, a9, a10, a11, a12, a13, a14, a15, a16, vI z, a18, a19] st h Q := r_iinc_g hc rfl (by show (!(mm_wide a16)) = true; rw [ho]; rfl) hr kk
theorem r_istore_5_4 {a0 a1 a2 a3 a4 : mm_V} (hc : mm_code y pc = some (.istore 4, 2, c, x, k, pl)) (ho : mm_wide a3 = false) (kk : mm_X y (pc + 2) [a0, a1, a2, a3, vI z] st h Q) : mm_X y pc [a0, a1, a2, a3, a4] (vI z :: st) h Q := r_istore_g hc (by show (!(mm_wide a3)) = true; rw [ho]; rfl) kk
theorem r_istore_6_4 {a0 a1 a2 a3 a4 a5 : mm_V} (hc : mm_code y pc = some (.istore 4, 2, c, x, k, pl)) (ho : mm_wide a3 = false) (kk : mm_X y (pc + 2) [a0, a1, a2, a3, vI z, a5] st h Q) : mm_X y pc [a0, a1, a2, a3, a4, a5] (vI z :: st) h Q := r_istore_g hc (by show (!(mm_wide a3)) = true; rw [ho]; rfl) kk
theorem r_istore_6_5 {a0 a1 a2 a3 a4 a5 : mm_V} (hc : mm_code y pc = some (.istore 5, 2, c, x, k, pl)) (ho : mm_wide a4 = false) (kk : mm_X y (pc + 2) [a0, a1, a2, a3, a4, vI z] st h Q) : mm_X y pc [a0, a1, a2, a3, a4, a5] (vI z :: st) h Q := r_istore_g hc (by show (!(mm_wide a4)) = true; rw [ho]; rfl) kk
theorem r_istore_7_4 {a0 a1 a2 a3 a4 a5 a6 : mm_V} (hc : mm_code y pc = some (.istore 4, 2, c, x, k, pl)) (ho : mm_wide a3 = false) (kk : mm_X y (pc + 2) [a0, a1, a2, a3, vI z, a5, a6] st h Q) : mm_X y pc [a0, a1, a2, a3, a4, a5, a6] (vI z :: st) h Q := r_istore_g hc (by show (!(mm_wide a3)) = true; rw [ho]; rfl) kk
theorem r_istore_7_5 {a0 a1 a2 a3 a4 a5 a6 : mm_V} (hc : mm_code y pc = some (.istore 5, 2, c, x, k, pl)) (ho : mm_wide a4 = false) (kk : mm_X y (pc + 2) [a0, a1, a2, a3, a4, vI z, a6] st h Q) : mm_X y pc [a0, a1, a2, a3, a4, a5, a6] (vI z :: st) h Q := r_istore_g hc (by show (!(mm_wide a4)) = true; rw [ho]; rfl) kk
theorem r_istore_7_6 {a0 a1 a2 a3 a4 a5 a6 : mm_V} (hc : mm_code y pc = some (.istore 6, 2, c, x, k, pl)) (ho : mm_wide a5 = false) (kk : mm_X y (pc + 2) [a0, a1, a2, a3, a4, a5, vI z] st h Q) : mm_X y pc [a0, a1, a2, a3, a4, a5, a6] (vI z :: st) h Q := r_istore_g hc (by show (!(mm_wide a5)) = true; rw [ho]; rfl) kk
theorem r_istore_8_4 {a0 a1 a2 a3 a4 a5 a6 a7 : mm_V} (hc : mm_code y pc = some (.istore 4, 2, c, x, k, pl)) (ho : mm_wide a3 = false) (kk : mm_X y (pc + 2) [a0, a1, a2, a3, vI z, a5, a6, a7] st h Q) : mm_X y pc [a0, a1, a2, a3, a4, a5, a6, a7] (vI z :: st) h Q := r_istore_g hc (by show (!(mm_wide a3)) = true; rw [ho]; rfl) kk
theorem r_istore_8_5 {a0 a1 a2 a3 a4 a5 a6 a7 : mm_V} (hc : mm_code y pc = some (.istore 5, 2, c, x, k, pl)) (ho : mm_wide a4 = false) (kk : mm_X y (pc + 2) [a0, a1, a2, a3, a4, vI z, a6, a7] st h Q) : mm_X y pc [a0, a1, a2, a3, a4, a5, a6, a7] (vI z :: st) h Q := r_istore_g hc (by show (!(mm_wide a4)) = true; rw [ho]; rfl) kk
theorem r_istore_8_6 {a0 a1 a2 a3 a4 a5 a6 a7 : mm_V} (hc : mm_code y pc = some (.istore 6, 2, c, x, k, pl)) (ho : mm_wide a5 = false) (kk : mm_X y (pc + 2) [a0, a1, a2, a3, a4, a5, vI z, a7] st h Q) : mm_X y pc [a0, a1, a2, a3, a4, a5, a6, a7] (vI z :: st) h Q := r_istore_g hc (by show (!(mm_wide a5)) = true; rw [ho]; rfl) kk
theorem r_istore_8_7 {a0 a1 a2 a3 a4 a5 a6 a7 : mm_V} (hc : mm_code y pc = some (.istore 7, 2, c, x, k, pl)) (ho : mm_wide a6 = false) (kk : mm_X y (pc + 2) [a0, a1, a2, a3, a4, a5, a6, vI z] st h Q) : mm_X y pc [a0, a1, a2, a3, a4, a5, a6, a7] (vI z :: st) h Q := r_istore_g hc (by show (!(mm_wide a6)) = true; rw [ho]; rfl) kk
theorem r_istore_9_4 {a0 a1 a2 a3 a4 a5 a6 a7 a8 : mm_V} (hc : mm_code y pc = some (.istore 4, 2, c, x, k, pl)) (ho : mm_wide a3 = false) (kk : mm_X y (pc + 2) [a0, a1, a2, a3, vI z, a5, a6, a7, a8] st h Q) : mm_X y pc [a0, a1, a2, a3, a4, a5, a6, a7, a8] (vI z :: st) h Q := r_istore_g hc (by show (!(mm_wide a3)) = true; rw [ho]; rfl) kk
theorem r_istore_9_5 {a0 a1 a2 a3 a4 a5 a6 a7 a8 : mm_V} (hc : mm_code y pc = some (.istore 5, 2, c, x, k, pl)) (ho : mm_wide a4 = false) (kk : mm_X y (pc + 2) [a0, a1, a2, a3, a4, vI z, a6, a7, a8] st h Q) : mm_X y pc [a0, a1, a2, a3, a4, a5, a6, a7, a8] (vI z :: st) h Q := r_istore_g hc (by show (!(mm_wide a4)) = true; rw [ho]; rfl) kk
theorem r_istore_9_6 {a0 a1 a2 a3 a4 a5 a6 a7 a8 : mm_V} (hc : mm_code y pc = some (.istore 6, 2, c, x, k, pl)) (ho : mm_wide a5 = false) (kk : mm_X y (pc + 2) [a0, a1, a2, a3, a4, a5, vI z, a7, a8] st h Q) : mm_X y pc [a0, a1, a2, a3, a4, a5, a6, a7, a8] (vI z :: st) h Q := r_istore_g hc (by show (!(mm_wide a5)) = true; rw [ho]; rfl) kk
theorem r_istore_9_7 {a0 a1 a2 a3 a4 a5 a6 a7 a8 : mm_V} (hc : mm_code y pc = some (.istore 7, 2, c, x, k, pl)) (ho : mm_wide a6 = false) (kk : mm_X y (pc + 2) [a0, a1, a2, a3, a4, a5, a6, vI z, a8] st h Q) : mm_X y pc [a0, a1, a2, a3, a4, a5, a6, a7, a8] (vI z :: st) h Q := r_istore_g hc (by show (!(mm_wide a6)) = true; rw [ho]; rfl) kk
theorem r_istore_9_8 {a0 a1 a2 a3 a4 a5 a6 a7 a8 : mm_V} (hc : mm_code y pc = some (.istore 8, 2, c, x, k, pl)) (ho : mm_wide a7 = false) (kk : mm_X y (pc + 2) [a0, a1, a2, a3, a4, a5, a6, a7, vI z] st h Q) : mm_X y pc [a0, a1, a2, a3, a4, a5, a6, a7, a8] (vI z :: st) h Q := r_istore_g hc (by show (!(mm_wide a7)) = true; rw [ho]; rfl) kk
theorem r_istore_10_4 {a0 a1 a2 a3 a4 a5 a6 a7 a8 a9 : mm_V} (hc : mm_code y pc = some (.istore 4, 2, c, x, k, pl)) (ho : mm_wide a3 = false) (kk : mm_X y (pc + 2) [a0, a1, a2, a3, vI z, a5, a6, a7, a8, a9] st h Q) : mm_X y pc [a0, a1, a2, a3, a4, a5, a6, a7, a8, a9] (vI z :: st) h Q := r_istore_g hc (by show (!(mm_wide a3)) = true; rw [ho]; rfl) kk
theorem r_istore_10_5 {a0 a1 a2 a3 a4 a5 a6 a7 a8 a9 : mm_V} (hc : mm_code y pc = some (.istore 5, 2, c, x, k, pl)) (ho : mm_wide a4 = false) (kk : mm_X y (pc + 2) [a0, a1, a2, a3, a4, vI z, a6, a7, a8, a9] st h Q) : mm_X y pc [a0, a1, a2, a3, a4, a5, a6, a7, a8, a9] (vI z :: st) h Q := r_istore_g hc (by show (!(mm_wide a4)) = true; rw [ho]; rfl) kk
theorem r_istore_10_6 {a0 a1 a2 a3 a4 a5 a6 a7 a8 a9 : mm_V} (hc : mm_code y pc = some (.istore 6, 2, c, x, k, pl)) (ho : mm_wide a5 = false) (kk : mm_X y (pc + 2) [a0, a1, a2, a3, a4, a5, vI z, a7, a8, a9] st h Q) : mm_X y pc [a0, a1, a2, a3, a4, a5, a6, a7, a8, a9] (vI z :: st) h Q := r_istore_g hc (by show (!(mm_wide a5)) = true; rw [ho]; rfl) kk
theorem r_istore_10_7 {a0 a1 a2 a3 a4 a5 a6 a7 a8 a9 : mm_V} (hc : mm_code y pc = some (.istore 7, 2, c, x, k, pl)) (ho : mm_wide a6 = false) (kk : mm_X y (pc + 2) [a0, a1, a2, a3, a4, a5, a6, vI z, a8, a9] st h Q) : mm_X y pc [a0, a1, a2, a3, a4, a5, a6, a7, a8, a9] (vI z :: st) h Q := r_istore_g hc (by show (!(mm_wide a6)) = true; rw [ho]; rfl) kk
theorem r_istore_10_8 {a0 a1 a2 a3 a4 a5 a6 a7 a8 a9 : mm_V} (hc : mm_code y pc = some (.istore 8, 2, c, x, k, pl)) (ho : mm_wide a7 = false) (kk : mm_X y (pc + 2) [a0, a1, a2, a3, a4, a5, a6, a7, vI z, a9] st h Q) : mm_X y pc [a0, a1, a2, a3, a4, a5, a6, a7, a8, a9] (vI z :: st) h Q := r_istore_g hc (by show (!(mm_wide a7)) = true; rw [ho]; rfl) kk
theorem r_istore_10_9 {a0 a1 a2 a3 a4 a5 a6 a7 a8 a9 : mm_V} (hc : mm_code y pc = some (.istore 9, 2, c, x, k, pl)) (ho : mm_wide a8 = false) (kk : mm_X y (pc + 2) [a0, a1, a2, a3, a4, a5, a6, a7, a8, vI z] st h Q) : mm_X y pc [a0, a1, a2, a3, a4, a5, a6, a7, a8, a9] (vI z :: st) h Q := r_istore_g hc (by show (!(mm_wide a8)) = true; rw [ho]; rfl) kk
theorem r_istore_12_4 {a0 a1 a2 a3 a4 a5 a6 a7 a8 a9 a10 a11 : mm_V} (hc : mm_code y pc = some (.istore 4, 2, c, x, k, pl)) (ho : mm_wide a3 = false) (kk : mm_X y (pc + 2) [a0, a1, a2, a3, vI z, a5, a6, a7, a8, a9, a10, a11] st h Q) : mm_X y pc [a0, a1, a2, a3, a4, a5, a6, a7, a8, a9, a10, a11] (vI z :: st) h Q := r_istore_g hc (by show (!(mm_wide a3)) = true; rw [ho]; rfl) kk
theorem r_istore_12_5 {a0 a1 a2 a3 a4 a5 a6 a7 a8 a9 a10 a11 : mm_V} (hc : mm_code y pc = some (.istore 5, 2, c, x, k, pl)) (ho : mm_wide a4 = false) (kk : mm_X y (pc + 2) [a0, a1, a2, a3, a4, vI z, a6, a7, a8, a9, a10, a11] st h Q) : mm_X y pc [a0, a1, a2, a3, a4, a5, a6, a7, a8, a9, a10, a11] (vI z :: st) h Q := r_istore_g hc (by show (!(mm_wide a4)) = true; rw [ho]; rfl) kk
theorem r_istore_12_6 {a0 a1 a2 a3 a4 a5 a6 a7 a8 a9 a10 a11 : mm_V} (hc : mm_code y pc = some (.istore 6, 2, c, x, k, pl)) (ho : mm_wide a5 = false) (kk : mm_X y (pc + 2) [a0, a1, a2, a3, a4, a5, vI z, a7, a8, a9, a10, a11] st h Q) : mm_X y pc [a0, a1, a2, a3, a4, a5, a6, a7, a8, a9, a10, a11] (vI z :: st) h Q := r_istore_g hc (by show (!(mm_wide a5)) = true; rw [ho]; rfl) kk
theorem r_istore_12_7 {a0 a1 a2 a3 a4 a5 a6 a7 a8 a9 a10 a11 : mm_V} (hc : mm_code y pc = some (.istore 7, 2, c, x, k, pl)) (ho : mm_wide a6 = false) (kk : mm_X y (pc + 2) [a0, a1, a2, a3, a4, a5, a6, vI z, a8, a9, a10, a11] st h Q) : mm_X y pc [a0, a1, a2, a3, a4, a5, a6, a7, a8, a9, a10, a11] (vI z :: st) h Q := r_istore_g hc (by show (!(mm_wide a6)) = true; rw [ho]; rfl) kk
theorem r_istore_12_8 {a0 a1 a2 a3 a4 a5 a6 a7 a8 a9 a10 a11 : mm_V} (hc : mm_code y pc = some (.istore 8, 2, c, x, k, pl)) (ho : mm_wide a7 = false) (kk : mm_X y (pc + 2) [a0, a1, a2, a3, a4, a5, a6, a7, vI z, a9, a10, a11] st h Q) : mm_X y pc [a0, a1, a2, a3, a4, a5, a6, a7, a8, a9, a10, a11] (vI z :: st) h Q := r_istore_g hc (by show (!(mm_wide a7)) = true; rw [ho]; rfl) kk
theorem r_istore_12_9 {a0 a1 a2 a3 a4 a5 a6 a7 a8 a9 a10 a11 : mm_V} (hc : mm_code y pc = some (.istore 9, 2, c, x, k, pl)) (ho : mm_wide a8 = false) (kk : mm_X y (pc + 2) [a0, a1, a2, a3, a4, a5, a6, a7, a8, vI z, a10, a11] st h Q) : mm_X y pc [a0, a1, a2, a3, a4, a5, a6, a7, a8, a9, a10, a11] (vI z :: st) h Q := r_istore_g hc (by show (!(mm_wide a8)) = true; rw [ho]; rfl) kk
theorem r_istore_12_10 {a0 a1 a2 a3 a4 a5 a6 a7 a8 a9 a10 a11 : mm_V} (hc : mm_code y pc = some (.istore 10, 2, c, x, k, pl)) (ho : mm_wide a9 = false) (kk : mm_X y (pc + 2) [a0, a1, a2, a3, a4, a5, a6, a7, a8, a9, vI z, a11] st h Q) : mm_X y pc [a0, a1, a2, a3, a4, a5, a6, a7, a8, a9, a10, a11] (vI z :: st) h Q := r_istore_g hc (by show (!(mm_wide a9)) = true; rw [ho]; rfl) kk
theorem r_istore_12_11 {a0 a1 a2 a3 a4 a5 a6 a7 a8 a9 a10 a11 : mm_V} (hc : mm_code y pc = some (.istore 11, 2, c, x, k, pl)) (ho : mm_wide a10 = false) (kk : mm_X y (pc + 2) [a0, a1, a2, a3, a4, a5, a6, a7, a8, a9, a10, vI z] st h Q) : mm_X y pc [a0, a1, a2, a3, a4, a5, a6, a7, a8, a9, a10, a11] (vI z :: st) h Q := r_istore_g hc (by show (!(mm_wide a10)) = true; rw [ho]; rfl) kk
theorem r_istore_13_4 {a0 a1 a2 a3 a4 a5 a6 a7 a8 a9 a10 a11 a12 : mm_V} (hc : mm_code y pc = some (.istore 4, 2, c, x, k, pl)) (ho : mm_wide a3 = false) (kk : mm_X y (pc + 2) [a0, a1, a2, a3, vI z, a5, a6, a7, a8, a9, a10, a11, a12] st h Q) : mm_X y pc [a0, a1, a2, a3, a4, a5, a6, a7, a8, a9, a10, a11, a12] (vI z :: st) h Q := r_istore_g hc (by show (!(mm_wide a3)) = true; rw [ho]; rfl) kk
theorem r_istore_13_5 {a0 a1 a2 a3 a4 a5 a6 a7 a8 a9 a10 a11 a12 : mm_V} (hc : mm_code y pc = some (.istore 5, 2, c, x, k, pl)) (ho : mm_wide a4 = false) (kk : mm_X y (pc + 2) [a0, a1, a2, a3, a4, vI z, a6, a7, a8, a9, a10, a11, a12] st h Q) : mm_X y pc [a0, a1, a2, a3, a4, a5, a6, a7, a8, a9, a10, a11, a12] (vI z :: st) h Q := r_istore_g hc (by show (!(mm_wide a4)) = true; rw [ho]; rfl) kk
theorem r_istore_13_8 {a0 a1 a2 a3 a4 a5 a6 a7 a8 a9 a10 a11 a12 : mm_V} (hc : mm_code y pc = some (.istore 8, 2, c, x, k, pl)) (ho : mm_wide a7 = false) (kk : mm_X y (pc + 2) [a0, a1, a2, a3, a4, a5, a6, a7, vI z, a9, a10, a11, a12] st h Q) : mm_X y pc [a0, a1, a2, a3, a4, a5, a6, a7, a8, a9, a10, a11, a12] (vI z :: st) h Q := r_istore_g hc (by show (!(mm_wide a7)) = true; rw [ho]; rfl) kk
theorem r_istore_13_9 {a0 a1 a2 a3 a4 a5 a6 a7 a8 a9 a10 a11 a12 : mm_V} (hc : mm_code y pc = some (.istore 9, 2, c, x, k, pl)) (ho : mm_wide a8 = false) (kk : mm_X y (pc + 2) [a0, a1, a2, a3, a4, a5, a6, a7, a8, vI z, a10, a11, a12] st h Q) : mm_X y pc [a0, a1, a2, a3, a4, a5, a6, a7, a8, a9, a10, a11, a12] (vI z :: st) h Q := r_istore_g hc (by show (!(mm_wide a8)) = true; rw [ho]; rfl) kk
theorem r_istore_13_10 {a0 a1 a2 a3 a4 a5 a6 a7 a8 a9 a10 a11 a12 : mm_V} (hc : mm_code y pc = some (.istore 10, 2, c, x, k, pl)) (ho : mm_wide a9 = false) (kk : mm_X y (pc + 2) [a0, a1, a2, a3, a4, a5, a6, a7, a8, a9, vI z, a11, a12] st h Q) : mm_X y pc [a0, a1, a2, a3, a4, a5, a6, a7, a8, a9, a10, a11, a12] (vI z :: st) h Q := r_istore_g hc (by show (!(mm_wide a9)) = true; rw [ho]; rfl) kk
theorem r_istore_13_11 {a0 a1 a2 a3 a4 a5 a6 a7 a8 a9 a10 a11 a12 : mm_V} (hc : mm_code y pc = some (.istore 11, 2, c, x, k, pl)) (ho : mm_wide a10 = false) (kk : mm_X y (pc + 2) [a0, a1, a2, a3, a4, a5, a6, a7, a8, a9, a10, vI z, a12] st h Q) : mm_X y pc [a0, a1, a2, a3, a4, a5, a6, a7, a8, a9, a10, a11, a12] (vI z :: st) h Q := r_istore_g hc (by show (!(mm_wide a10)) = true; rw [ho]; rfl) kk
theorem r_istore_13_12 {a0 a1 a2 a3 a4 a5 a6 a7 a8 a9 a10 a11 a12 : mm_V} (hc : mm_code y pc = some (.istore 12, 2, c, x, k, pl)) (ho : mm_wide a11 = false) (kk : mm_X y (pc + 2) [a0, a1, a2, a3, a4, a5, a6, a7, a8, a9, a10, a11, vI z] st h Q) : mm_X y pc [a0, a1, a2, a3, a4, a5, a6, a7, a8, a9, a10, a11, a12] (vI z :: st) h Q := r_istore_g hc (by show (!(mm_wide a11)) = true; rw [ho]; rfl) kk
theorem r_istore_18_11 {a0 a1 a2 a3 a4 a5 a6 a7 a8 a9 a10 a11 a12 a13 a14 a15 a16 a17 : mm_V} (hc : mm_code y pc = some (.istore 11, 2, c, x, k, pl)) (ho : mm_wide a10 = false) (kk : mm_X y (pc + 2) [a0, a1, a2, a3, a4, a5, a6, a7, a8, a9, a10, vI z, a12, a13, a14, a15, a16, a17] st h Q) : mm_X y pc [a0, a1, a2, a3, a4, a5, a6, a7, a8, a9, a10, a11, a12, a13, a14, a15, a16, a17] (vI z :: st) h Q := r_istore_g hc (by show (!(mm_wide a10)) = true; rw [ho]; rfl) kk
theorem r_istore_18_12 {a0 a1 a2 a3 a4 a5 a6 a7 a8 a9 a10 a11 a12 a13 a14 a15 a16 a17 : mm_V} (hc : mm_code y pc = some (.istore 12, 2, c, x, k, pl)) (ho : mm_wide a11 = false) (kk : mm_X y (pc + 2) [a0, a1, a2, a3, a4, a5, a6, a7, a8, a9, a10, a11, vI z, a13, a14, a15, a16, a17] st h Q) : mm_X y pc [a0, a1, a2, a3, a4, a5, a6, a7, a8, a9, a10, a11, a12, a13, a14, a15, a16, a17] (vI z :: st) h Q := r_istore_g hc (by show (!(mm_wide a11)) = true; rw [ho]; rfl) kk
theorem r_istore_18_13 {a0 a1 a2 a3 a4 a5 a6 a7 a8 a9 a10 a11 a12 a13 a14 a15 a16 a17 : mm_V} (hc : mm_code y pc = some (.istore 13, 2, c, x, k, pl)) (ho : mm_wide a12 = false) (kk : mm_X y (pc + 2) [a0, a1, a2, a3, a4, a5, a6, a7, a8, a9, a10, a11, a12, vI z, a14, a15, a16, a17] st h Q) : mm_X y pc [a0, a1, a2, a3, a4, a5, a6, a7, a8, a9, a10, a11, a12, a13, a14, a15, a16, a17] (vI z :: st) h Q := r_istore_g hc (by show (!(mm_wide a12)) = true; rw [ho]; rfl) kk
theorem r_istore_18_14 {a0 a1 a2 a3 a4 a5 a6 a7 a8 a9 a10 a11 a12 a13 a14 a15 a16 a17 : mm_V} (hc : mm_code y pc = some (.istore 14, 2, c, x, k, pl)) (ho : mm_wide a13 = false) (kk : mm_X y (pc + 2) [a0, a1, a2, a3, a4, a5, a6, a7, a8, a9, a10, a11, a12, a13, vI z, a15, a16, a17] st h Q) : mm_X y pc [a0, a1, a2, a3, a4, a5, a6, a7, a8, a9, a10, a11, a12, a13, a14, a15, a16, a17] (vI z :: st) h Q := r_istore_g hc (by show (!(mm_wide a13)) = true; rw [ho]; rfl) kk
theorem r_istore_18_15 {a0 a1 a2 a3 a4 a5 a6 a7 a8 a9 a10 a11 a12 a13 a14 a15 a16 a17 : mm_V} (hc : mm_code y pc = some (.istore 15, 2, c, x, k, pl)) (ho : mm_wide a14 = false) (kk : mm_X y (pc + 2) [a0, a1, a2, a3, a4, a5, a6, a7, a8, a9, a10, a11, a12, a13, a14, vI z, a16, a17] st h Q) : mm_X y pc [a0, a1, a2, a3, a4, a5, a6, a7, a8, a9, a10, a11, a12, a13, a14, a15, a16, a17] (vI z :: st) h Q := r_istore_g hc (by show (!(mm_wide a14)) = true; rw [ho]; rfl) kk
theorem r_istore_18_16 {a0 a1 a2 a3 a4 a5 a6 a7 a8 a9 a10 a11 a12 a13 a14 a15 a16 a17 : mm_V} (hc : mm_code y pc = some (.istore 16, 2, c, x, k, pl)) (ho : mm_wide a15 = false) (kk : mm_X y (pc + 2) [a0, a1, a2, a3, a4, a5, a6, a7, a8, a9, a10, a11, a12, a13, a14, a15, vI z, a17] st h Q) : mm_X y pc [a0, a1, a2, a3, a4, a5, a6, a7, a8, a9, a10, a11, a12, a13, a14, a15, a16, a17] (vI z :: st) h Q := r_istore_g hc (by show (!(mm_wide a15)) = true; rw [ho]; rfl) kk
theorem r_istore_18_17 {a0 a1 a2 a3 a4 a5 a6 a7 a8 a9 a10 a11 a12 a13 a14 a15 a16 a17 : mm_V} (hc : mm_code y pc = some (.istore 17, 2, c, x, k, pl)) (ho : mm_wide a16 = false) (kk : mm_X y (pc + 2) [a0, a1, a2, a3, a4, a5, a6, a7, a8, a9, a10, a11, a12, a13, a14, a15, a16, vI z] st h Q) : mm_X y pc [a0, a1, a2, a3, a4, a5, a6, a7, a8, a9, a10, a11, a12, a13, a14, a15, a16, a17] (vI z :: st) h Q := r_istore_g hc (by show (!(mm_wide a16)) = true; rw [ho]; rfl) kk
theorem r_istore_20_4 {a0 a1 a2 a3 a4 a5 a6 a7 a8 a9 a10 a11 a12 a13 a14 a15 a16 a17 a18 a19 : mm_V} (hc : mm_code y pc = some (.istore 4, 2, c, x, k, pl)) (ho : mm_wide a3 = false) (kk : mm_X y (pc + 2) [a0, a1, a2, a3, vI z, a5, a6, a7, a8, a9, a10, a11, a12, a13, a14, a15, a16, a17, a18, a19] st h Q) : mm_X y pc [a0, a1, a2, a3, a4, a5, a6, a7, a8, a9, a10, a11, a12, a13, a14, a15, a16, a17, a18, a19] (vI z :: st) h Q := r_istore_g hc (by show (!(mm_wide a3)) = true; rw [ho]; rfl) kk
theorem r_istore_20_5 {a0 a1 a2 a3 a4 a5 a6 a7 a8 a9 a10 a11 a12 a13 a14 a15 a16 a17 a18 a19 : mm_V} (hc : mm_code y pc = some (.istore 5, 2, c, x, k, pl)) (ho : mm_wide a4 = false) (kk : mm_X y (pc + 2) [a0, a1, a2, a3, a4, vI z, a6, a7, a8, a9, a10, a11, a12, a13, a14, a15, a16, a17, a18, a19] st h Q) : mm_X y pc [a0, a1, a2, a3, a4, a5, a6, a7, a8, a9, a10, a11, a12, a13, a14, a15, a16, a17, a18, a19] (vI z :: st) h Q := r_istore_g hc (by show (!(mm_wide a4)) = true; rw [ho]; rfl) kk
theorem r_istore_20_6 {a0 a1 a2 a3 a4 a5 a6 a7 a8 a9 a10 a11 a12 a13 a14 a15 a16 a17 a18 a19 : mm_V} (hc : mm_code y pc = some (.istore 6, 2, c, x, k, pl)) (ho : mm_wide a5 = false) (kk : mm_X y (pc + 2) [a0, a1, a2, a3, a4, a5, vI z, a7, a8, a9, a10, a11, a12, a13, a14, a15, a16, a17, a18, a19] st h Q) : mm_X y pc [a0, a1, a2, a3, a4, a5, a6, a7, a8, a9, a10, a11, a12, a13, a14, a15, a16, a17, a18, a19] (vI z :: st) h Q := r_istore_g hc (by show (!(mm_wide a5)) = true; rw [ho]; rfl) kk
theorem r_istore_20_11 {a0 a1 a2 a3 a4 a5 a6 a7 a8 a9 a10 a11 a12 a13 a14 a15 a16 a17 a18 a19 : mm_V} (hc : mm_code y pc = some (.istore 11, 2, c, x, k, pl)) (ho : mm_wide a10 = false) (kk : mm_X y (pc + 2) [a0, a1, a2, a3, a4, a5, a6, a7, a8, a9, a10, vI z, a12, a13, a14, a15, a16, a17, a18, a19] st h Q) : mm_X y pc [a0, a1, a2, a3, a4, a5, a6, a7, a8, a9, a10, a11, a12, a13, a14, a15, a16, a17, a18, a19] (vI z :: st) h Q := r_istore_g hc (by show (!(mm_wide a10)) = true; rw [ho]; rfl) kk
theorem r_istore_20_16 {a0 a1 a2 a3 a4 a5 a6 a7 a8 a9 a10 a11 a12 a13 a14 a15 a16 a17 a18 a19 : mm_V} (hc : mm_code y pc = some (.istore 16, 2, c, x, k, pl)) (ho : mm_wide a15 = false) (kk : mm_X y (pc + 2) [a0, a1, a2, a3, a4, a5, a6, a7, a8, a9, a10, a11, a12, a13, a14, a15, vI z, a17, a18, a19] st h Q) : mm_X y pc [a0, a1, a2, a3, a4, a5, a6, a7, a8, a9, a10, a11, a12, a13, a14, a15, a16, a17, a18, a19] (vI z :: st) h Q := r_istore_g hc (by show (!(mm_wide a15)) = true; rw [ho]; rfl) kk
theorem r_istore_20_17 {a0 a1 a2 a3 a4 a5 a6 a7 a8 a9 a10 a11 a12 a13 a14 a15 a16 a17 a18 a19 : mm_V} (hc : mm_code y pc = some (.istore 17, 2, c, x, k, pl)) (ho : mm_wide a16 = false) (kk : mm_X y (pc + 2) [a0, a1, a2, a3, a4, a5, a6, a7, a8, a9, a10, a11, a12, a13, a14, a15, a16, vI z, a18, a19] st h Q) : mm_X y pc [a0, a1, a2, a3, a4, a5, a6, a7, a8, a9, a10, a11, a12, a13, a14, a15, a16, a17, a18, a19] (vI z :: st) h Q := r_istore_g hc (by show (!(mm_wide a16)) = true; rw [ho]; rfl) kk
theorem r_istore_20_18 {a0 a1 a2 a3 a4 a5 a6 a7 a8 a9 a10 a11 a12 a13 a14 a15 a16 a17 a18 a19 : mm_V} (hc : mm_code y pc = some (.istore 18, 2, c, x, k, pl)) (ho : mm_wide a17 = false) (kk : mm_X y (pc + 2) [a0, a1, a2, a3, a4, a5, a6, a7, a8, a9, a10, a11, a12, a13, a14, a15, a16, a17, vI z, a19] st h Q) : mm_X y pc [a0, a1, a2, a3, a4, a5, a6, a7, a8, a9, a10, a11, a12, a13, a14, a15, a16, a17, a18, a19] (vI z :: st) h Q := r_istore_g hc (by show (!(mm_wide a17)) = true; rw [ho]; rfl) kk
theorem r_istore_20_19 {a0 a1 a2 a3 a4 a5 a6 a7 a8 a9 a10 a11 a12 a13 a14 a15 a16 a17 a18 a19 : mm_V} (hc : mm_code y pc = some (.istore 19, 2, c, x, k, pl)) (ho : mm_wide a18 = false) (kk : mm_X y (pc + 2) [a0, a1, a2, a3, a4, a5, a6, a7, a8, a9, a10, a11, a12, a13, a14, a15, a16, a17, a18, vI z] st h Q) : mm_X y pc [a0, a1, a2, a3, a4, a5, a6, a7, a8, a9, a10, a11, a12, a13, a14, a15, a16, a17, a18, a19] (vI z :: st) h Q := r_istore_g hc (by show (!(mm_wide a18)) = true; rw [ho]; rfl) kk
theorem r_istore_n_2_1 {a0 a1 : mm_V} (hc : mm_code y pc = some (.istore_n 1, 1, c, x, k, pl)) (ho : mm_wide a0 = false) (kk : mm_X y (pc + 1) [a0, vI z] st h Q) : mm_X y pc [a0, a1] (vI z :: st) h Q := r_istore_n_g hc (by show (!(mm_wide a0)) = true; rw [ho]; rfl) kk
theorem r_istore_n_3_1 {a0 a1 a2 : mm_V} (hc : mm_code y pc = some (.istore_n 1, 1, c, x, k, pl)) (ho : mm_wide a0 = false) (kk : mm_X y (pc + 1) [a0, vI z, a2] st h Q) : mm_X y pc [a0, a1, a2] (vI z :: st) h Q := r_istore_n_g hc (by show (!(mm_wide a0)) = true; rw [ho]; rfl) kk
theorem r_istore_n_3_2 {a0 a1 a2 : mm_V} (hc : mm_code y pc = some (.istore_n 2, 1, c, x, k, pl)) (ho : mm_wide a1 = false) (kk : mm_X y (pc + 1) [a0, a1, vI z] st h Q) : mm_X y pc [a0, a1, a2] (vI z :: st) h Q := r_istore_n_g hc (by show (!(mm_wide a1)) = true; rw [ho]; rfl) kk
theorem r_istore_n_4_1 {a0 a1 a2 a3 : mm_V} (hc : mm_code y pc = some (.istore_n 1, 1, c, x, k, pl)) (ho : mm_wide a0 = false) (kk : mm_X y (pc + 1) [a0, vI z, a2, a3] st h Q) : mm_X y pc [a0, a1, a2, a3] (vI z :: st) h Q := r_istore_n_g hc (by show (!(mm_wide a0)) = true; rw [ho]; rfl) kk
theorem r_istore_n_4_2 {a0 a1 a2 a3 : mm_V} (hc : mm_code y pc = some (.istore_n 2, 1, c, x, k, pl)) (ho : mm_wide a1 = false) (kk : mm_X y (pc + 1) [a0, a1, vI z, a3] st h Q) : mm_X y pc [a0, a1, a2, a3] (vI z :: st) h Q := r_istore_n_g hc (by show (!(mm_wide a1)) = true; rw [ho]; rfl) kk
theorem r_istore_n_4_3 {a0 a1 a2 a3 : mm_V} (hc : mm_code y pc = some (.istore_n 3, 1, c, x, k, pl)) (ho : mm_wide a2 = false) (kk : mm_X y (pc + 1) [a0, a1, a2, vI z] st h Q) : mm_X y pc [a0, a1, a2, a3] (vI z :: st) h Q := r_istore_n_g hc (by show (!(mm_wide a2)) = true; rw [ho]; rfl) kk
theorem r_istore_n_5_1 {a0 a1 a2 a3 a4 : mm_V} (hc : mm_code y pc = some (.istore_n 1, 1, c, x, k, pl)) (ho : mm_wide a0 = false) (kk : mm_X y (pc + 1) [a0, vI z, a2, a3, a4] st h Q) : mm_X y pc [a0, a1, a2, a3, a4] (vI z :: st) h Q := r_istore_n_g hc (by show (!(mm_wide a0)) = true; rw [ho]; rfl) kk
theorem r_istore_n_5_2 {a0 a1 a2 a3 a4 : mm_V} (hc : mm_code y pc = some (.istore_n 2, 1, c, x, k, pl)) (ho : mm_wide a1 = false) (kk : mm_X y (pc + 1) [a0, a1, vI z, a3, a4] st h Q) : mm_X y pc [a0, a1, a2, a3, a4] (vI z :: st) h Q := r_istore_n_g hc (by show (!(mm_wide a1)) = true; rw [ho]; rfl) kk
theorem r_istore_n_5_3 {a0 a1 a2 a3 a4 : mm_V} (hc : mm_code y pc = some (.istore_n 3, 1, c, x, k, pl)) (ho : mm_wide a2 = false) (kk : mm_X y (pc + 1) [a0, a1, a2, vI z, a4] st h Q) : mm_X y pc [a0, a1, a2, a3, a4] (vI z :: st) h Q := r_istore_n_g hc (by show (!(mm_wide a2)) = true; rw [ho]; rfl) kk
theorem r_istore_n_6_2 {a0 a1 a2 a3 a4 a5 : mm_V} (hc : mm_code y pc = some (.istore_n 2, 1, c, x, k, pl)) (ho : mm_wide a1 = false) (kk : mm_X y (pc + 1) [a0, a1, vI z, a3, a4, a5] st h Q) : mm_X y pc [a0, a1, a2, a3, a4, a5] (vI z :: st) h Q := r_istore_n_g hc (by show (!(mm_wide a1)) = true; rw [ho]; rfl) kk
theorem r_istore_n_6_3 {a0 a1 a2 a3 a4 a5 : mm_V} (hc : mm_code y pc = some (.istore_n 3, 1, c, x, k, pl)) (ho : mm_wide a2 = false) (kk : mm_X y (pc + 1) [a0, a1, a2, vI z, a4, a5] st h Q) : mm_X y pc [a0, a1, a2, a3, a4, a5] (vI z :: st) h Q := r_istore_n_g hc (by show (!(mm_wide a2)) = true; rw [ho]; rfl) kk
theorem r_istore_n_7_1 {a0 a1 a2 a3 a4 a5 a6 : mm_V} (hc : mm_code y pc = some (.istore_n 1, 1, c, x, k, pl)) (ho : mm_wide a0 = false) (kk : mm_X y (pc + 1) [a0, vI z, a2, a3, a4, a5, a6] st h Q) : mm_X y pc [a0, a1, a2, a3, a4, a5, a6] (vI z :: st) h Q := r_istore_n_g hc (by show (!(mm_wide a0)) = true; rw [ho]; rfl) kk
theorem r_istore_n_7_2 {a0 a1 a2 a3 a4 a5 a6 : mm_V} (hc : mm_code y pc = some (.istore_n 2, 1, c, x, k, pl)) (ho : mm_wide a1 = false) (kk : mm_X y (pc + 1) [a0, a1, vI z, a3, a4, a5, a6] st h Q) : mm_X y pc [a0, a1, a2, a3, a4, a5, a6] (vI z :: st) h Q := r_istore_n_g hc (by show (!(mm_wide a1)) = true; rw [ho]; rfl) kk
theorem r_istore_n_7_3 {a0 a1 a2 a3 a4 a5 a6 : mm_V} (hc : mm_code y pc = some (.istore_n 3, 1, c, x, k, pl)) (ho : mm_wide a2 = false) (kk : mm_X y (pc + 1) [a0, a1, a2, vI z, a4, a5, a6] st h Q) : mm_X y pc [a0, a1, a2, a3, a4, a5, a6] (vI z :: st) h Q := r_istore_n_g hc (by show (!(mm_wide a2)) = true; rw [ho]; rfl) kk
theorem r_istore_n_8_2 {a0 a1 a2 a3 a4 a5 a6 a7 : mm_V} (hc : mm_code y pc = some (.istore_n 2, 1, c, x, k, pl)) (ho : mm_wide a1 = false) (kk : mm_X y (pc + 1) [a0, a1, vI z, a3, a4, a5, a6, a7] st h Q) : mm_X y pc [a0, a1, a2, a3, a4, a5, a6, a7] (vI z :: st) h Q := r_istore_n_g hc (by show (!(mm_wide a1)) = true; rw [ho]; rfl) kk
theorem r_istore_n_8_3 {a0 a1 a2 a3 a4 a5 a6 a7 : mm_V} (hc : mm_code y pc = some (.istore_n 3, 1, c, x, k, pl)) (ho : mm_wide a2 = false) (kk : mm_X y (pc + 1) [a0, a1, a2, vI z, a4, a5, a6, a7] st h Q) : mm_X y pc [a0, a1, a2, a3, a4, a5, a6, a7] (vI z :: st) h Q := r_istore_n_g hc (by show (!(mm_wide a2)) = true; rw [ho]; rfl) kk
theorem r_istore_n_9_1 {a0 a1 a2 a3 a4 a5 a6 a7 a8 : mm_V} (hc : mm_code y pc = some (.istore_n 1, 1, c, x, k, pl)) (ho : mm_wide a0 = false) (kk : mm_X y (pc + 1) [a0, vI z, a2, a3, a4, a5, a6, a7, a8] st h Q) : mm_X y pc [a0, a1, a2, a3, a4, a5, a6, a7, a8] (vI z :: st) h Q := r_istore_n_g hc (by show (!(mm_wide a0)) = true; rw [ho]; rfl) kk
theorem r_istore_n_9_2 {a0 a1 a2 a3 a4 a5 a6 a7 a8 : mm_V} (hc : mm_code y pc = some (.istore_n 2, 1, c, x, k, pl)) (ho : mm_wide a1 = false) (kk : mm_X y (pc + 1) [a0, a1, vI z, a3, a4, a5, a6, a7, a8] st h Q) : mm_X y pc [a0, a1, a2, a3, a4, a5, a6, a7, a8] (vI z :: st) h Q := r_istore_n_g hc (by show (!(mm_wide a1)) = true; rw [ho]; rfl) kk
theorem r_istore_n_9_3 {a0 a1 a2 a3 a4 a5 a6 a7 a8 : mm_V} (hc : mm_code y pc = some (.istore_n 3, 1, c, x, k, pl)) (ho : mm_wide a2 = false) (kk : mm_X y (pc + 1) [a0, a1, a2, vI z, a4, a5, a6, a7, a8] st h Q) : mm_X y pc [a0, a1, a2, a3, a4, a5, a6, a7, a8] (vI z :: st) h Q := r_istore_n_g hc (by show (!(mm_wide a2)) = true; rw [ho]; rfl) kk
theorem r_istore_n_12_2 {a0 a1 a2 a3 a4 a5 a6 a7 a8 a9 a10 a11 : mm_V} (hc : mm_code y pc = some (.istore_n 2, 1, c, x, k, pl)) (ho : mm_wide a1 = false) (kk : mm_X y (pc + 1) [a0, a1, vI z, a3, a4, a5, a6, a7, a8, a9, a10, a11] st h Q) : mm_X y pc [a0, a1, a2, a3, a4, a5, a6, a7, a8, a9, a10, a11] (vI z :: st) h Q := r_istore_n_g hc (by show (!(mm_wide a1)) = true; rw [ho]; rfl) kk
theorem r_istore_n_12_3 {a0 a1 a2 a3 a4 a5 a6 a7 a8 a9 a10 a11 : mm_V} (hc : mm_code y pc = some (.istore_n 3, 1, c, x, k, pl)) (ho : mm_wide a2 = false) (kk : mm_X y (pc + 1) [a0, a1, a2, vI z, a4, a5, a6, a7, a8, a9, a10, a11] st h Q) : mm_X y pc [a0, a1, a2, a3, a4, a5, a6, a7, a8, a9, a10, a11] (vI z :: st) h Q := r_istore_n_g hc (by show (!(mm_wide a2)) = true; rw [ho]; rfl) kk
theorem r_lstore_7_4 {a0 a1 a2 a3 a4 a5 a6 : mm_V} (hc : mm_code y pc = some (.lstore 4, 2, c, x, k, pl)) (ho : mm_wide a3 = false) (kk : mm_X y (pc + 2) [a0, a1, a2, a3, vJ z, mm_null, a6] st h Q) : mm_X y pc [a0, a1, a2, a3, a4, a5, a6] (vJ z :: st) h Q := r_lstore_g hc (by show (!(mm_wide a3)) = true; rw [ho]; rfl) kk
theorem r_lstore_8_4 {a0 a1 a2 a3 a4 a5 a6 a7 : mm_V} (hc : mm_code y pc = some (.lstore 4, 2, c, x, k, pl)) (ho : mm_wide a3 = false) (kk : mm_X y (pc + 2) [a0, a1, a2, a3, vJ z, mm_null, a6, a7] st h Q) : mm_X y pc [a0, a1, a2, a3, a4, a5, a6, a7] (vJ z :: st) h Q := r_lstore_g hc (by show (!(mm_wide a3)) = true; rw [ho]; rfl) kk
theorem r_lstore_13_6 {a0 a1 a2 a3 a4 a5 a6 a7 a8 a9 a10 a11 a12 : mm_V} (hc : mm_code y pc = some (.lstore 6, 2, c, x, k, pl)) (ho : mm_wide a5 = false) (kk : mm_X y (pc + 2) [a0, a1, a2, a3, a4, a5, vJ z, mm_null, a8, a9, a10, a11, a12] st h Q) : mm_X y pc [a0, a1, a2, a3, a4, a5, a6, a7, a8, a9, a10, a11, a12] (vJ z :: st) h Q := r_lstore_g hc (by show (!(mm_wide a5)) = true; rw [ho]; rfl) kk
theorem r_lstore_18_5 {a0 a1 a2 a3 a4 a5 a6 a7 a8 a9 a10 a11 a12 a13 a14 a15 a16 a17 : mm_V} (hc : mm_code y pc = some (.lstore 5, 2, c, x, k, pl)) (ho : mm_wide a4 = false) (kk : mm_X y (pc + 2) [a0, a1, a2, a3, a4, vJ z, mm_null, a7, a8, a9, a10, a11, a12, a13, a14, a15, a16, a17] st h Q) : mm_X y pc [a0, a1, a2, a3, a4, a5, a6, a7, a8, a9, a10, a11, a12, a13, a14, a15, a16, a17] (vJ z :: st) h Q := r_lstore_g hc (by show (!(mm_wide a4)) = true; rw [ho]; rfl) kk
theorem r_lstore_18_7 {a0 a1 a2 a3 a4 a5 a6 a7 a8 a9 a10 a11 a12 a13 a14 a15 a16 a17 : mm_V} (hc : mm_code y pc = some (.lstore 7, 2, c, x, k, pl)) (ho : mm_wide a6 = false) (kk : mm_X y (pc + 2) [a0, a1, a2, a3, a4, a5, a6, vJ z, mm_null, a9, a10, a11, a12, a13, a14, a15, a16, a17] st h Q) : mm_X y pc [a0, a1, a2, a3, a4, a5, a6, a7, a8, a9, a10, a11, a12, a13, a14, a15, a16, a17] (vJ z :: st) h Q := r_lstore_g hc (by show (!(mm_wide a6)) = true; rw [ho]; rfl) kk
theorem r_lstore_18_9 {a0 a1 a2 a3 a4 a5 a6 a7 a8 a9 a10 a11 a12 a13 a14 a15 a16 a17 : mm_V} (hc : mm_code y pc = some (.lstore 9, 2, c, x, k, pl)) (ho : mm_wide a8 = false) (kk : mm_X y (pc + 2) [a0, a1, a2, a3, a4, a5, a6, a7, a8, vJ z, mm_null, a11, a12, a13, a14, a15, a16, a17] st h Q) : mm_X y pc [a0, a1, a2, a3, a4, a5, a6, a7, a8, a9, a10, a11, a12, a13, a14, a15, a16, a17] (vJ z :: st) h Q := r_lstore_g hc (by show (!(mm_wide a8)) = true; rw [ho]; rfl) kk
theorem r_lstore_20_7 {a0 a1 a2 a3 a4 a5 a6 a7 a8 a9 a10 a11 a12 a13 a14 a15 a16 a17 a18 a19 : mm_V} (hc : mm_code y pc = some (.lstore 7, 2, c, x, k, pl)) (ho : mm_wide a6 = false) (kk : mm_X y (pc + 2) [a0, a1, a2, a3, a4, a5, a6, vJ z, mm_null, a9, a10, a11, a12, a13, a14, a15, a16, a17, a18, a19] st h Q) : mm_X y pc [a0, a1, a2, a3, a4, a5, a6, a7, a8, a9, a10, a11, a12, a13, a14, a15, a16, a17, a18, a19] (vJ z :: st) h Q := r_lstore_g hc (by show (!(mm_wide a6)) = true; rw [ho]; rfl) kk
theorem r_lstore_20_9 {a0 a1 a2 a3 a4 a5 a6 a7 a8 a9 a10 a11 a12 a13 a14 a15 a16 a17 a18 a19 : mm_V} (hc : mm_code y pc = some (.lstore 9, 2, c, x, k, pl)) (ho : mm_wide a8 = false) (kk : mm_X y (pc + 2) [a0, a1, a2, a3, a4, a5, a6, a7, a8, vJ z, mm_null, a11, a12, a13, a14, a15, a16, a17, a18, a19] st h Q) : mm_X y pc [a0, a1, a2, a3, a4, a5, a6, a7, a8, a9, a10, a11, a12, a13, a14, a15, a16, a17, a18, a19] (vJ z :: st) h Q := r_lstore_g hc (by show (!(mm_wide a8)) = true; rw [ho]; rfl) kk
theorem r_lstore_20_12 {a0 a1 a2 a3 a4 a5 a6 a7 a8 a9 a10 a11 a12 a13 a14 a15 a16 a17 a18 a19 : mm_V} (hc : mm_code y pc = some (.lstore 12, 2, c, x, k, pl)) (ho : mm_wide a11 = false) (kk : mm_X y (pc + 2) [a0, a1, a2, a3, a4, a5, a6, a7, a8, a9, a10, a11, vJ z, mm_null, a14, a15, a16, a17, a18, a19] st h Q) : mm_X y pc [a0, a1, a2, a3, a4, a5, a6, a7, a8, a9, a10, a11, a12, a13, a14, a15, a16, a17, a18, a19] (vJ z :: st) h Q := r_lstore_g hc (by show (!(mm_wide a11)) = true; rw [ho]; rfl) kk
theorem r_lstore_20_14 {a0 a1 a2 a3 a4 a5 a6 a7 a8 a9 a10 a11 a12 a13 a14 a15 a16 a17 a18 a19 : mm_V} (hc : mm_code y pc = some (.lstore 14, 2, c, x, k, pl)) (ho : mm_wide a13 = false) (kk : mm_X y (pc + 2) [a0, a1, a2, a3, a4, a5, a6, a7, a8, a9, a10, a11, a12, a13, vJ z, mm_null, a16, a17, a18, a19] st h Q) : mm_X y pc [a0, a1, a2, a3, a4, a5, a6, a7, a8, a9, a10, a11, a12, a13, a14, a15, a16, a17, a18, a19] (vJ z :: st) h Q := r_lstore_g hc (by show (!(mm_wide a13)) = true; rw [ho]; rfl) kk
theorem r_lstore_n_18_3 {a0 a1 a2 a3 a4 a5 a6 a7 a8 a9 a10 a11 a12 a13 a14 a15 a16 a17 : mm_V} (hc : mm_code y pc = some (.lstore_n 3, 1, c, x, k, pl)) (ho : mm_wide a2 = false) (kk : mm_X y (pc + 1) [a0, a1, a2, vJ z, mm_null, a5, a6, a7, a8, a9, a10, a11, a12, a13, a14, a15, a16, a17] st h Q) : mm_X y pc [a0, a1, a2, a3, a4, a5, a6, a7, a8, a9, a10, a11, a12, a13, a14, a15, a16, a17] (vJ z :: st) h Q := r_lstore_n_g hc (by show (!(mm_wide a2)) = true; rw [ho]; rfl) kk
end ROWS
