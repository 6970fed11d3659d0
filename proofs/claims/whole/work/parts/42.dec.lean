/-! DECODE: what the document asks, and the class's side. -/
def deF : List Int → Nat → Int → Int → Int → Int → Int → Int → List Int → List Int × Int
  | [], p, _, _, _, _, k, _, o => (o, if k = 36 then -1 else p)
  | c :: cs, p, n, i, old, w, k, b, o =>
    if vl c < 0 then (o, p)
    else if 2147483647 < i + vl c * w ∨ (thr k b ≤ vl c ∧ 2147483647 < w * (36 - thr k b)) then (o, p)
    else if thr k b ≤ vl c then deF cs (p + 1) n (i + vl c * w) old (w * (36 - thr k b)) (k + 36) b o
    else if isPt (n + (i + vl c * w) / ((o.length : Int) + 1)) ∧ o.length < 300 then
      deF cs (p + 1) (n + (i + vl c * w) / ((o.length : Int) + 1)) ((i + vl c * w) % ((o.length : Int) + 1) + 1) ((i + vl c * w) % ((o.length : Int) + 1) + 1) 1 36 (adF (i + vl c * w - old) ((o.length : Int) + 1) (if old = 0 then 1 else 0)) (insAt o ((i + vl c * w) % ((o.length : Int) + 1)).toNat (n + (i + vl c * w) / ((o.length : Int) + 1)))
    else (o, p)
def hiF : List Int → Nat → Int
  | [], _ => -1
  | c :: cs, i => if 128 ≤ c then i else hiF cs (i + 1)
def dsF : List Int → Nat → Nat → Nat
  | [], _, s => s
  | c :: cs, i, s => dsF cs (i + 1) (if c = 45 then i else s)
def dsP (s : Nat) : Nat := if 0 < s then s + 1 else 0
def DE (l : List Int) : List Int × Int := if 0 ≤ hiF l 0 then ([], hiF l 0) else deF (l.drop (dsP (dsF l 0 0))) (dsP (dsF l 0 0)) 128 0 0 1 36 72 (l.take (dsF l 0 0))
theorem vl_rng (c : Int) : -1 ≤ vl c ∧ vl c ≤ 35 := by unfold vl; (repeat' split) <;> omega
theorem vw_rng {v w : Int} (hv : 0 ≤ v ∧ v ≤ 36) (hw : 0 ≤ w) : 0 ≤ v * w ∧ v * w ≤ 36 * w := ⟨Int.mul_nonneg hv.1 hw, Int.mul_le_mul_of_nonneg_right hv.2 hw⟩
theorem wt_rng {v w : Int} (hv : 1 ≤ v ∧ v ≤ 36) (hw : 1 ≤ w) : 1 ≤ w * v ∧ w * v ≤ w * 36 := by
  have h1 : w * 1 ≤ w * v := Int.mul_le_mul_of_nonneg_left hv.1 (by omega)
  have h2 : w * v ≤ w * 36 := Int.mul_le_mul_of_nonneg_left hv.2 (by omega)
  omega
theorem dm_rng {x d : Int} (hx : 0 ≤ x) (hd : 1 ≤ d) : 0 ≤ x / d ∧ x / d ≤ x ∧ 0 ≤ x % d ∧ x % d < d :=
  ⟨Int.ediv_nonneg hx (by omega), Int.ediv_le_self d hx, Int.emod_nonneg x (by omega), Int.emod_lt_of_pos x (by omega)⟩
theorem dsF_rng : ∀ (l : List Int) (i s : Nat), s ≤ i → (dsF l i s = s ∨ dsF l i s < i + l.length) ∧ (0 < dsF l i s → dsF l i s + 1 ≤ i + l.length ∨ dsF l i s = s)
  | [], i, s, h => ⟨Or.inl rfl, fun _ => Or.inr rfl⟩
  | c :: cs, i, s, h => by
    simp only [dsF, List.length_cons]
    have ih := dsF_rng cs (i + 1) (if c = 45 then i else s) (by split <;> omega)
    generalize dsF cs (i + 1) (if c = 45 then i else s) = z at *
    split at ih <;> omega
theorem dsF_le (l : List Int) : dsF l 0 0 ≤ l.length ∧ dsP (dsF l 0 0) ≤ l.length ∧ dsF l 0 0 ≤ dsP (dsF l 0 0) := by
  have := dsF_rng l 0 0 (Nat.le_refl 0)
  unfold dsP
  split <;> omega
theorem hiF_rng : ∀ (l : List Int) (i : Nat), hiF l i = -1 ∨ ((i : Int) ≤ hiF l i ∧ hiF l i < i + l.length)
  | [], i => Or.inl rfl
  | c :: cs, i => by
    simp only [hiF, List.length_cons]
    split
    · right; omega
    · have := hiF_rng cs (i + 1); omega
theorem hiF_low : ∀ (l : List Int) (i : Nat), hiF l i = -1 → ∀ y, y ∈ l → y < 128
  | c :: cs, i, h, y, hy => by
    simp only [hiF] at h
    split at h
    · omega
    · rcases List.mem_cons.1 hy with rfl | hy
      · omega
      · exact hiF_low cs (i + 1) h y hy
theorem insAt_pts {o : List Int} {p : Nat} {z : Int} (ho : pts o) (hz : isPt z) : pts (insAt o p z) := by
  refine pts_iff.2 (fun y hy => ?_)
  unfold insAt at hy
  rcases List.mem_append.1 hy with hy | hy
  · exact pts_iff.1 ho y (List.mem_of_mem_take hy)
  · rcases List.mem_cons.1 hy with rfl | hy
    · exact hz
    · exact pts_iff.1 ho y (List.mem_of_mem_drop hy)
theorem deF_out : ∀ (l : List Int) (p : Nat) (n i old w k b : Int) (o : List Int), pts o → o.length ≤ 300 → pts (deF l p n i old w k b o).1 ∧ (deF l p n i old w k b o).1.length ≤ o.length + l.length ∧ (deF l p n i old w k b o).1.length ≤ 300 ∧ -1 ≤ (deF l p n i old w k b o).2 ∧ (deF l p n i old w k b o).2 ≤ p + l.length
  | [], p, n, i, old, w, k, b, o, h, h2 => by
    simp only [deF, List.length_nil]
    refine ⟨h, by omega, h2, ?_⟩
    split <;> omega
  | c :: cs, p, n, i, old, w, k, b, o, h, h2 => by
    simp only [deF, List.length_cons]
    split
    · exact ⟨h, by simp only []; omega, h2, by simp only []; omega⟩
    · split
      · exact ⟨h, by simp only []; omega, h2, by simp only []; omega⟩
      · split
        · have ih := deF_out cs (p + 1) n (i + vl c * w) old (w * (36 - thr k b)) (k + 36) b o h h2
          refine ⟨ih.1, by omega, ih.2.2.1, by omega⟩
        · split
          · next g =>
            have ih := deF_out cs (p + 1) (n + (i + vl c * w) / ((o.length : Int) + 1)) ((i + vl c * w) % ((o.length : Int) + 1) + 1) ((i + vl c * w) % ((o.length : Int) + 1) + 1) 1 36 (adF (i + vl c * w - old) ((o.length : Int) + 1) (if old = 0 then 1 else 0)) (insAt o ((i + vl c * w) % ((o.length : Int) + 1)).toNat (n + (i + vl c * w) / ((o.length : Int) + 1))) (insAt_pts h g.1) (by rw [insAt_len]; omega)
            rw [insAt_len] at ih
            refine ⟨ih.1, by omega, ih.2.2.1, by omega⟩
          · exact ⟨h, by simp only []; omega, h2, by simp only []; omega⟩
theorem DE_out {l : List Int} (hp : pts l) (hl : l.length ≤ 300) : pts (DE l).1 ∧ (DE l).1.length ≤ l.length ∧ -1 ≤ (DE l).2 ∧ (DE l).2 ≤ l.length := by
  have h1 := hiF_rng l 0
  have h2 := dsF_le l
  unfold DE
  split
  · exact ⟨pts_nil, Nat.zero_le _, by simp only []; omega⟩
  · have ht : (l.take (dsF l 0 0)).length = dsF l 0 0 := by rw [List.length_take]; omega
    have := deF_out (l.drop (dsP (dsF l 0 0))) (dsP (dsF l 0 0)) 128 0 0 1 36 72 (l.take (dsF l 0 0)) (pts_iff.2 (fun y hy => pts_iff.1 hp y (List.mem_of_mem_take hy))) (by omega)
    rw [ht, List.length_drop] at this
    refine ⟨this.1, by omega, by omega⟩
section DEC
variable {L : Nat}
theorem lp_ud {rs ns ro a : Nat} {lw : List Int} {R : List Int × Int} (hrs : isRow L rs ns) (hro : isRow L ro 300) (hne : rs ≠ ro ∧ rs ≠ ro + 1 ∧ rs + 1 ≠ ro) (hlw : lw.length ≤ 1200) (hpl : ∀ j, j < lw.length → -1 ≤ lw.getD j 0 ∧ lw.getD j 0 ≤ 2000000) : ∀ (q j p : Nat) (n i old w k b : Int) (o : List Int) (σ : mk_S) (a1 : mm_V) (v14 v15 v16 v17 : mm_V) (Q : Option mm_V → mm_H → Prop), j + q = lw.length → j = a + p → rowOK σ rs ns lw → rowOK σ ro 300 o → 0 ≤ n → n ≤ 1114111 → 0 ≤ old → old ≤ i → i ≤ 2147483647 → 1 ≤ w → w ≤ 2147483647 → 36 ≤ k → k ≤ 36 + 36 * j → 0 ≤ b → b ≤ 1476 → R = deF (lw.drop j) p n i old w k b o →
    (∀ σ' o', rowOK σ' ro 300 o' → (R.2 = -1 → o' = R.1) → fr2 ro σ σ' → Q (some (vI (if R.2 = -1 then -1 else R.2 + a))) (hp L σ')) →
    mm_X 88 24 [vP rs, a1, vP ro, vJ n, mm_null, vJ i, mm_null, vJ old, mm_null, vJ w, mm_null, vI k, vI b, vI (j : Nat), v14, v15, v16, v17] [] (hp L σ) Q := by
  intro q
  have hb1 := hrs.2.2
  induction q with
  | zero =>
    intro j p n i old w k b o σ a1 v14 v15 v16 v17 Q hj hjp hs ho h1 h2 h3 h4 h5 h6 h7 h8 h8b h9 h10 hR kk
    have ej : j = lw.length := by omega
    subst ej
    rw [List.drop_length] at hR
    simp only [deF] at hR
    have kk := kk σ o ho (fun _ => by rw [hR]) fr2.rf
    have e2 : R.2 = if k = 36 then -1 else (p : Int) := by rw [hR]
    refine r_iload c_88_24 rfl <| r_aload_n c_88_26 rfl <| r_cV0 c_88_27 hrs.1 (Nat.le_of_ble_eq_true rfl) <| ?_
    refine ct_size hrs hs ?_
    refine r_icmp_ge c_88_30 (fun h30 => ?_) <| (fun h30 => ?_)
    · refine r_iload c_88_236 rfl <| r_bipush c_88_238 <| r_icmp_ne c_88_240 (fun h240 => ?_) <| (fun h240 => ?_)
      · refine r_aload_n c_88_247 rfl <| r_cV0 c_88_248 hrs.1 (Nat.le_of_ble_eq_true rfl) <| ?_
        refine ct_size hrs hs ?_
        refine r_iret c_88_251 <| ?_
        first
        | (rw [if_pos (by omega)] at e2; rw [if_pos e2] at kk; exact kk)
        | (rw [if_neg (by omega)] at e2; rw [if_neg (by omega), e2] at kk; exact q_val kk (by omega))
      · refine r_iconst c_88_243 <| r_goto c_88_244 <| r_iret c_88_251 <| ?_
        first
        | (rw [if_pos (by omega)] at e2; rw [if_pos e2] at kk; exact kk)
        | (rw [if_neg (by omega)] at e2; rw [if_neg (by omega), e2] at kk; exact q_val kk (by omega))
    · exact absurd h30 (by omega)
  | succ q ih =>
    intro j p n i old w k b o σ a1 v14 v15 v16 v17 Q hj hjp hs ho h1 h2 h3 h4 h5 h6 h7 h8 h8b h9 h10 hR kk
    have hol := ho.2.1
    rw [drop_at (by omega)] at hR
    simp only [deF] at hR
    have hc := hpl j (by omega)
    generalize hx : lw.getD j 0 = c at *
    have hv := vl_rng c
    have ht := thr_rng k b
    have stop : R = (o, (p : Int)) → Q (some (vI (j : Nat))) (hp L σ) := fun e => by
      have kk := kk σ o ho (fun h => by rw [e]) fr2.rf
      rw [e, if_neg (by simp only []; omega)] at kk
      exact q_val kk (by simp only []; omega)
    generalize hvv : vl c = v at *
    generalize htt : thr k b = t at *
    have m1 := fun h0 => vw_rng (v := v) (w := w) ⟨h0, by omega⟩ (by omega)
    have m2 := wt_rng (v := 36 - t) (w := w) ⟨by omega, by omega⟩ h6
    generalize hxx : i + v * w = x at *
    have m3 := fun h0 : 0 ≤ x => dm_rng (x := x) (d := (o.length : Int) + 1) h0 (by omega)
    refine r_iload c_88_24 rfl <| r_aload_n c_88_26 rfl <| r_cV0 c_88_27 hrs.1 (Nat.le_of_ble_eq_true rfl) <| ?_
    refine ct_size hrs hs ?_
    refine r_icmp_ge c_88_30 (fun h30 => ?_) <| (fun h30 => ?_)
    · exact absurd h30 (by omega)
    · refine r_aload_n c_88_33 rfl <| r_iload c_88_34 rfl <| r_cV1 c_88_36 hrs.1 (Nat.le_of_ble_eq_true rfl) <| ?_
      refine ct_atn hrs hs (by omega) ?_; rw [hx]
      refine r_cS1 c_88_39 (Nat.le_of_ble_eq_true rfl) <| ?_
      refine ct_valueOf c (by omega) ?_; rw [hvv]
      refine r_istore_18_14 c_88_42 rfl <| r_iload c_88_44 rfl <| r_if_ge c_88_46 (fun h46 => ?_) <| (fun h46 => ?_)
      · have m1 := m1 (by omega)
        refine r_lload c_88_52 rfl <| r_iload c_88_54 rfl <| r_i2l c_88_56 <| r_lload c_88_57 rfl <| r_lmul c_88_59 (by omega) <| r_ladd c_88_60 (by omega) <| ?_
        rw [hxx]
        refine r_lstore_18_5 c_88_61 rfl <| r_iload c_88_63 rfl <| r_iload c_88_65 rfl <| r_cS2 c_88_67 (Nat.le_of_ble_eq_true rfl) <| ?_
        refine ct_threshold _ _ (by omega) ?_; rw [htt]
        refine r_istore_18_15 c_88_70 rfl <| r_iload c_88_72 rfl <| r_iload c_88_74 rfl <| r_icmp_lt c_88_76 (fun h76 => ?_) <| (fun h76 => ?_)
        · refine r_iconst c_88_83 <| r_istore_18_16 c_88_84 rfl <| r_iload c_88_86 rfl <| r_if_eq c_88_88 (fun _ => ?_) <| (fun h => absurd h (by decide))
          refine r_lconst c_88_103 <| r_lstore_18_9 c_88_104 rfl <| r_iload c_88_106 rfl <| r_if_eq c_88_108 (fun _ => ?_) <| (fun h => absurd h (by decide))
          refine r_bipush c_88_119 <| r_istore_18_11 c_88_121 rfl <| r_lload c_88_123 rfl <| r_ldc2_w c_88_125 <| r_lc_gt c_88_128 c_88_129 (fun h128 => ?_) <| (fun h128 => ?_)
          · refine r_iload c_88_141 rfl <| r_iret c_88_143 <| ?_
            first | exact absurd h138 (by omega) | exact stop (by rw [hR, if_neg (by omega), if_pos (by omega)])
          · refine r_lload c_88_132 rfl <| r_ldc2_w c_88_134 <| r_lc_le c_88_137 c_88_138 (fun h137 => ?_) <| (fun h137 => ?_)
            · refine r_iload c_88_144 rfl <| r_if_ne c_88_146 (fun h => absurd h (by decide)) <| (fun _ => ?_)
              refine r_aload_n c_88_149 rfl <| r_cV0 c_88_150 hro.1 (Nat.le_of_ble_eq_true rfl) <| ?_
              refine ct_size hro ho ?_
              refine r_iconst c_88_153 <| r_iadd c_88_154 (by omega) <| r_istore_18_17 c_88_155 rfl <| ?_
              have m3 := m3 (by omega)
              rw [if_neg (by omega), if_neg (by omega), if_neg (by omega)] at hR
              refine r_lload c_88_157 rfl <| r_lload c_88_159 rfl <| r_lsub c_88_161 (by omega) <| r_iload c_88_162 rfl <| r_lload c_88_164 rfl <| r_lconst c_88_166 <| r_lc_ne c_88_167 c_88_168 (fun h167 => ?_) <| (fun h167 => ?_)
              · refine r_iconst c_88_175 <| r_cS3 c_88_176 (Nat.le_of_ble_eq_true rfl) <| ?_
                refine ct_adapted _ _ _ (by omega) (by omega) ?_
                refine r_istore_18_12 c_88_179 rfl <| r_lload_n c_88_181 rfl <| r_lload c_88_182 rfl <| r_iload c_88_184 rfl <| r_i2l c_88_186 <| r_ldiv c_88_187 (by omega) (by omega) <| r_ladd c_88_188 (by omega) <| r_lstore_n_18_3 c_88_189 rfl <| r_lload c_88_190 rfl <| r_iload c_88_192 rfl <| ?_
                refine r_i2l c_88_194 <| r_lrem c_88_195 (by omega) (by omega) <| r_lstore_18_5 c_88_196 rfl <| r_lload_n c_88_198 rfl <| r_cS1 c_88_199 (Nat.le_of_ble_eq_true rfl) <| ?_
                refine ct_isPoint _ (fun hpt => ?_) (fun hpt => ?_)
                · refine r_if_eq c_88_202 (fun h => absurd h (by decide)) <| (fun _ => ?_)
                  obtain ⟨rn, hrn⟩ : ∃ rn : Nat, x % ((o.length : Int) + 1) = rn := ⟨(x % ((o.length : Int) + 1)).toNat, (Int.toNat_of_nonneg m3.2.2.1).symm⟩
                  rw [hrn] at hR ⊢
                  refine r_aload_n c_88_205 rfl <| r_lload c_88_206 rfl <| r_l2i c_88_208 (by omega) <| r_lload_n c_88_209 rfl <| r_l2i c_88_210 (by unfold isPt at hpt; omega) <| r_cV2 c_88_211 hro.1 (Nat.le_of_ble_eq_true rfl) <| ?_
                  refine ct_insert hro ho (by omega) _ (fun hlt σ1 hl1 hf1 => ?_) (fun hfull => ?_)
                  · refine r_if_ne c_88_214 (fun _ => ?_) <| (fun h => absurd h (by decide))
                    refine r_lload c_88_220 rfl <| r_lconst c_88_222 <| r_ladd c_88_223 (by omega) <| r_lstore_18_5 c_88_224 rfl <| r_lload c_88_226 rfl <| r_lstore_18_7 c_88_228 rfl <| r_iinc_18_13 c_88_230 rfl (by omega) <| r_goto c_88_233 <| ?_
                    first
                    | (rw [if_neg (by omega), if_neg (by omega), if_pos (by omega)] at hR
                       exact ih (j + 1) (p + 1) n x old _ (k + 36) b o σ _ _ _ _ _ Q (by omega) (by omega) hs ho h1 h2 h3 (by omega) (by omega) m2.1 (by omega) (by omega) (by omega) h9 h10 hR kk)
                    | (rw [if_pos ⟨hpt, hlt⟩, Int.toNat_natCast] at hR
                       have hn' : 0 ≤ n + x / ((o.length : Int) + 1) ∧ n + x / ((o.length : Int) + 1) ≤ 1114111 := ⟨hpt.1, hpt.2.1⟩
                       have hbb := fun f => adF_rng (d := x - old) (p := (o.length : Int) + 1) (f := f) (by omega) (by omega)
                       first
                       | (rw [if_pos (by omega)] at hR
                          exact ih (j + 1) (p + 1) _ _ _ 1 36 _ _ σ1 _ _ _ _ _ Q (by omega) (by omega) (hs.fr2 hf1 hne) hl1 hn'.1 hn'.2 (by omega) (by omega) (by omega) (by omega) (by omega) (by omega) (by omega) (hbb 1).1 (hbb 1).2 hR (fun σ2 o2 g1 g2 g3 => kk σ2 o2 g1 g2 (hf1.tr g3)))
                       | (rw [if_neg (by omega)] at hR
                          exact ih (j + 1) (p + 1) _ _ _ 1 36 _ _ σ1 _ _ _ _ _ Q (by omega) (by omega) (hs.fr2 hf1 hne) hl1 hn'.1 hn'.2 (by omega) (by omega) (by omega) (by omega) (by omega) (by omega) (by omega) (hbb 0).1 (hbb 0).2 hR (fun σ2 o2 g1 g2 g3 => kk σ2 o2 g1 g2 (hf1.tr g3))))
                  · refine r_if_ne c_88_214 (fun h => absurd h (by decide)) <| (fun _ => ?_)
                    refine r_iload c_88_217 rfl <| r_iret c_88_219 <| ?_
                    first | exact stop (by rw [hR, if_neg (fun h => hpt h.1)]) | exact stop (by rw [hR, if_neg (by omega)])
                · refine r_if_eq c_88_202 (fun _ => ?_) <| (fun h => absurd h (by decide))
                  refine r_iload c_88_217 rfl <| r_iret c_88_219 <| ?_
                  first | exact stop (by rw [hR, if_neg (fun h => hpt h.1)]) | exact stop (by rw [hR, if_neg (by omega)])
              · refine r_iconst c_88_171 <| r_goto c_88_172 <| r_cS3 c_88_176 (Nat.le_of_ble_eq_true rfl) <| ?_
                refine ct_adapted _ _ _ (by omega) (by omega) ?_
                refine r_istore_18_12 c_88_179 rfl <| r_lload_n c_88_181 rfl <| r_lload c_88_182 rfl <| r_iload c_88_184 rfl <| r_i2l c_88_186 <| r_ldiv c_88_187 (by omega) (by omega) <| r_ladd c_88_188 (by omega) <| r_lstore_n_18_3 c_88_189 rfl <| r_lload c_88_190 rfl <| r_iload c_88_192 rfl <| ?_
                refine r_i2l c_88_194 <| r_lrem c_88_195 (by omega) (by omega) <| r_lstore_18_5 c_88_196 rfl <| r_lload_n c_88_198 rfl <| r_cS1 c_88_199 (Nat.le_of_ble_eq_true rfl) <| ?_
                refine ct_isPoint _ (fun hpt => ?_) (fun hpt => ?_)
                · refine r_if_eq c_88_202 (fun h => absurd h (by decide)) <| (fun _ => ?_)
                  obtain ⟨rn, hrn⟩ : ∃ rn : Nat, x % ((o.length : Int) + 1) = rn := ⟨(x % ((o.length : Int) + 1)).toNat, (Int.toNat_of_nonneg m3.2.2.1).symm⟩
                  rw [hrn] at hR ⊢
                  refine r_aload_n c_88_205 rfl <| r_lload c_88_206 rfl <| r_l2i c_88_208 (by omega) <| r_lload_n c_88_209 rfl <| r_l2i c_88_210 (by unfold isPt at hpt; omega) <| r_cV2 c_88_211 hro.1 (Nat.le_of_ble_eq_true rfl) <| ?_
                  refine ct_insert hro ho (by omega) _ (fun hlt σ1 hl1 hf1 => ?_) (fun hfull => ?_)
                  · refine r_if_ne c_88_214 (fun _ => ?_) <| (fun h => absurd h (by decide))
                    refine r_lload c_88_220 rfl <| r_lconst c_88_222 <| r_ladd c_88_223 (by omega) <| r_lstore_18_5 c_88_224 rfl <| r_lload c_88_226 rfl <| r_lstore_18_7 c_88_228 rfl <| r_iinc_18_13 c_88_230 rfl (by omega) <| r_goto c_88_233 <| ?_
                    first
                    | (rw [if_neg (by omega), if_neg (by omega), if_pos (by omega)] at hR
                       exact ih (j + 1) (p + 1) n x old _ (k + 36) b o σ _ _ _ _ _ Q (by omega) (by omega) hs ho h1 h2 h3 (by omega) (by omega) m2.1 (by omega) (by omega) (by omega) h9 h10 hR kk)
                    | (rw [if_pos ⟨hpt, hlt⟩, Int.toNat_natCast] at hR
                       have hn' : 0 ≤ n + x / ((o.length : Int) + 1) ∧ n + x / ((o.length : Int) + 1) ≤ 1114111 := ⟨hpt.1, hpt.2.1⟩
                       have hbb := fun f => adF_rng (d := x - old) (p := (o.length : Int) + 1) (f := f) (by omega) (by omega)
                       first
                       | (rw [if_pos (by omega)] at hR
                          exact ih (j + 1) (p + 1) _ _ _ 1 36 _ _ σ1 _ _ _ _ _ Q (by omega) (by omega) (hs.fr2 hf1 hne) hl1 hn'.1 hn'.2 (by omega) (by omega) (by omega) (by omega) (by omega) (by omega) (by omega) (hbb 1).1 (hbb 1).2 hR (fun σ2 o2 g1 g2 g3 => kk σ2 o2 g1 g2 (hf1.tr g3)))
                       | (rw [if_neg (by omega)] at hR
                          exact ih (j + 1) (p + 1) _ _ _ 1 36 _ _ σ1 _ _ _ _ _ Q (by omega) (by omega) (hs.fr2 hf1 hne) hl1 hn'.1 hn'.2 (by omega) (by omega) (by omega) (by omega) (by omega) (by omega) (by omega) (hbb 0).1 (hbb 0).2 hR (fun σ2 o2 g1 g2 g3 => kk σ2 o2 g1 g2 (hf1.tr g3))))
                  · refine r_if_ne c_88_214 (fun h => absurd h (by decide)) <| (fun _ => ?_)
                    refine r_iload c_88_217 rfl <| r_iret c_88_219 <| ?_
                    first | exact stop (by rw [hR, if_neg (fun h => hpt h.1)]) | exact stop (by rw [hR, if_neg (by omega)])
                · refine r_if_eq c_88_202 (fun _ => ?_) <| (fun h => absurd h (by decide))
                  refine r_iload c_88_217 rfl <| r_iret c_88_219 <| ?_
                  first | exact stop (by rw [hR, if_neg (fun h => hpt h.1)]) | exact stop (by rw [hR, if_neg (by omega)])
            · refine r_iload c_88_141 rfl <| r_iret c_88_143 <| ?_
              first | exact absurd h138 (by omega) | exact stop (by rw [hR, if_neg (by omega), if_pos (by omega)])
        · refine r_iconst c_88_79 <| r_goto c_88_80 <| r_istore_18_16 c_88_84 rfl <| r_iload c_88_86 rfl <| r_if_eq c_88_88 (fun h => absurd h (by decide)) <| (fun _ => ?_)
          refine r_lload c_88_91 rfl <| r_bipush c_88_93 <| r_iload c_88_95 rfl <| r_isub c_88_97 (by omega) <| r_i2l c_88_98 <| r_lmul c_88_99 (by omega) <| r_goto c_88_100 <| r_lstore_18_9 c_88_104 rfl <| r_iload c_88_106 rfl <| r_if_eq c_88_108 (fun h => absurd h (by decide)) <| (fun _ => ?_)
          refine r_iload c_88_111 rfl <| r_bipush c_88_113 <| r_iadd c_88_115 (by omega) <| r_goto c_88_116 <| r_istore_18_11 c_88_121 rfl <| r_lload c_88_123 rfl <| r_ldc2_w c_88_125 <| r_lc_gt c_88_128 c_88_129 (fun h128 => ?_) <| (fun h128 => ?_)
          · refine r_iload c_88_141 rfl <| r_iret c_88_143 <| ?_
            first | exact absurd h138 (by omega) | exact stop (by rw [hR, if_neg (by omega), if_pos (by omega)])
          · refine r_lload c_88_132 rfl <| r_ldc2_w c_88_134 <| r_lc_le c_88_137 c_88_138 (fun h137 => ?_) <| (fun h137 => ?_)
            · refine r_iload c_88_144 rfl <| r_if_ne c_88_146 (fun _ => ?_) <| (fun h => absurd h (by decide))
              refine r_iinc_18_13 c_88_230 rfl (by omega) <| r_goto c_88_233 <| ?_
              first
              | (rw [if_neg (by omega), if_neg (by omega), if_pos (by omega)] at hR
                 exact ih (j + 1) (p + 1) n x old _ (k + 36) b o σ _ _ _ _ _ Q (by omega) (by omega) hs ho h1 h2 h3 (by omega) (by omega) m2.1 (by omega) (by omega) (by omega) h9 h10 hR kk)
              | (rw [if_pos ⟨hpt, hlt⟩, Int.toNat_natCast] at hR
                 have hn' : 0 ≤ n + x / ((o.length : Int) + 1) ∧ n + x / ((o.length : Int) + 1) ≤ 1114111 := ⟨hpt.1, hpt.2.1⟩
                 have hbb := fun f => adF_rng (d := x - old) (p := (o.length : Int) + 1) (f := f) (by omega) (by omega)
                 first
                 | (rw [if_pos (by omega)] at hR
                    exact ih (j + 1) (p + 1) _ _ _ 1 36 _ _ σ1 _ _ _ _ _ Q (by omega) (by omega) (hs.fr2 hf1 hne) hl1 hn'.1 hn'.2 (by omega) (by omega) (by omega) (by omega) (by omega) (by omega) (by omega) (hbb 1).1 (hbb 1).2 hR (fun σ2 o2 g1 g2 g3 => kk σ2 o2 g1 g2 (hf1.tr g3)))
                 | (rw [if_neg (by omega)] at hR
                    exact ih (j + 1) (p + 1) _ _ _ 1 36 _ _ σ1 _ _ _ _ _ Q (by omega) (by omega) (hs.fr2 hf1 hne) hl1 hn'.1 hn'.2 (by omega) (by omega) (by omega) (by omega) (by omega) (by omega) (by omega) (hbb 0).1 (hbb 0).2 hR (fun σ2 o2 g1 g2 g3 => kk σ2 o2 g1 g2 (hf1.tr g3))))
            · refine r_iload c_88_141 rfl <| r_iret c_88_143 <| ?_
              first | exact absurd h138 (by omega) | exact stop (by rw [hR, if_neg (by omega), if_pos (by omega)])
      · refine r_iload c_88_49 rfl <| r_iret c_88_51 <| ?_
        exact stop (by rw [hR, if_pos (by omega)])
theorem ct_ud {rs ns ro a j p : Nat} {lw o : List Int} {σ : mk_S} {Q : Option mm_V → mm_H → Prop} {z : Int} (hz : z = (j : Int)) (hrs : isRow L rs ns) (hro : isRow L ro 300) (hne : rs ≠ ro ∧ rs ≠ ro + 1 ∧ rs + 1 ≠ ro) (hlw : lw.length ≤ 1200) (hpl : ∀ j, j < lw.length → -1 ≤ lw.getD j 0 ∧ lw.getD j 0 ≤ 2000000) (hj : j ≤ lw.length) (hjp : j = a + p) (hs : rowOK σ rs ns lw) (ho : rowOK σ ro 300 o)
    (k : ∀ σ' o', rowOK σ' ro 300 o' → ((deF (lw.drop j) p 128 0 0 1 36 72 o).2 = -1 → o' = (deF (lw.drop j) p 128 0 0 1 36 72 o).1) → fr2 ro σ σ' → Q (some (vI (if (deF (lw.drop j) p 128 0 0 1 36 72 o).2 = -1 then -1 else (deF (lw.drop j) p 128 0 0 1 36 72 o).2 + a))) (hp L σ')) : mm_call 88 [vP rs, vI z, vP ro] (hp L σ) Q := by
  subst hz
  refine ⟨Nat.le_of_ble_eq_true rfl, ?_⟩
  show mm_X 88 0 [vP rs, vI (j : Nat), vP ro, mm_null, mm_null, mm_null, mm_null, mm_null, mm_null, mm_null, mm_null, mm_null, mm_null, mm_null, mm_null, mm_null, mm_null, mm_null] [] _ _
  refine r_ldc2_w c_88_0 <| r_lstore_n_18_3 c_88_3 rfl <| r_lconst c_88_4 <| r_lstore_18_5 c_88_5 rfl <| r_lconst c_88_7 <| r_lstore_18_7 c_88_8 rfl <| r_lconst c_88_10 <| r_lstore_18_9 c_88_11 rfl <| r_bipush c_88_13 <| r_istore_18_11 c_88_15 rfl <| ?_
  refine r_bipush c_88_17 <| r_istore_18_12 c_88_19 rfl <| r_iload_n c_88_21 rfl <| r_istore_18_13 c_88_22 rfl <| ?_
  exact lp_ud hrs hro hne hlw hpl (lw.length - j) j p 128 0 0 1 36 72 o σ _ _ _ _ _ Q (by omega) hjp hs ho (by omega) (by omega) (by omega) (by omega) (by omega) (by omega) (by omega) (by omega) (by omega) (by omega) (by omega) rfl k
theorem lp_uf {rs ns ro a : Nat} {lw : List Int} {σ : mk_S} {Q : Option mm_V → mm_H → Prop} (hrs : isRow L rs ns) (hs : rowOK σ rs ns lw) (hll : lw.length ≤ 1200) : ∀ (q j p s : Nat), j + q = lw.length → j = a + p → s ≤ 1200 →
    (∀ i : Int, 0 ≤ i → hiF (lw.drop j) p = i → Q (some (vI i)) (hp L σ)) →
    (hiF (lw.drop j) p = -1 → mm_X 87 51 [vP rs, vI (a : Nat), vP ro, vI ((a + dsF (lw.drop j) p s : Nat) : Int), vI (lw.length : Nat)] [] (hp L σ) Q) →
    mm_X 87 5 [vP rs, vI (a : Nat), vP ro, vI ((a + s : Nat) : Int), vI (j : Nat)] [] (hp L σ) Q := by
  intro q
  induction q with
  | zero =>
    intro j p s hj hjp hs2 kf kk
    have ej : j = lw.length := by omega
    subst ej
    rw [List.drop_length] at kk
    have kk := kk rfl
    simp only [dsF] at kk
    refine r_iload c_87_5 rfl <| r_aload_n c_87_7 rfl <| r_cV0 c_87_8 hrs.1 (Nat.le_of_ble_eq_true rfl) <| ?_
    refine ct_size hrs hs ?_
    refine r_icmp_ge c_87_11 (fun h11 => ?_) <| (fun h11 => ?_)
    · exact kk
    · exact absurd h11 (by omega)
  | succ q ih =>
    intro j p s hj hjp hs2 kf kk
    rw [drop_at (by omega)] at kk kf
    simp only [dsF, hiF] at kk kf
    generalize hx : lw.getD j 0 = x at *
    refine r_iload c_87_5 rfl <| r_aload_n c_87_7 rfl <| r_cV0 c_87_8 hrs.1 (Nat.le_of_ble_eq_true rfl) <| ?_
    refine ct_size hrs hs ?_
    refine r_icmp_ge c_87_11 (fun h11 => ?_) <| (fun h11 => ?_)
    · exact absurd h11 (by omega)
    · refine r_aload_n c_87_14 rfl <| r_iload c_87_15 rfl <| r_cV1 c_87_17 hrs.1 (Nat.le_of_ble_eq_true rfl) <| ?_
      refine ct_atn hrs hs (by omega) ?_; rw [hx]
      refine r_sipush c_87_20 <| r_icmp_lt c_87_23 (fun h23 => ?_) <| (fun h23 => ?_)
      · rw [if_neg (by omega)] at kf kk
        refine r_aload_n c_87_31 rfl <| r_iload c_87_32 rfl <| r_cV1 c_87_34 hrs.1 (Nat.le_of_ble_eq_true rfl) <| ?_
        refine ct_atn hrs hs (by omega) ?_; rw [hx]
        refine r_bipush c_87_37 <| r_icmp_ne c_87_39 (fun h39 => ?_) <| (fun h39 => ?_)
        · refine r_iinc_5_4 c_87_45 rfl (by omega) <| r_goto c_87_48 <| ?_
          first
          | (rw [if_pos (by omega)] at kk
             rw [show (j : Int) = ((a + p : Nat) : Int) by omega]
             rw [show ((a + p : Nat) : Int) + 1 = ((j + 1 : Nat) : Int) by omega]
             exact ih (j + 1) (p + 1) p (by omega) (by omega) (by omega) kf kk)
          | (rw [if_neg (by omega)] at kk
             exact ih (j + 1) (p + 1) s (by omega) (by omega) (by omega) kf kk)
        · refine r_iload c_87_42 rfl <| r_istore_n_5_3 c_87_44 rfl <| r_iinc_5_4 c_87_45 rfl (by omega) <| r_goto c_87_48 <| ?_
          first
          | (rw [if_pos (by omega)] at kk
             rw [show (j : Int) = ((a + p : Nat) : Int) by omega]
             rw [show ((a + p : Nat) : Int) + 1 = ((j + 1 : Nat) : Int) by omega]
             exact ih (j + 1) (p + 1) p (by omega) (by omega) (by omega) kf kk)
          | (rw [if_neg (by omega)] at kk
             exact ih (j + 1) (p + 1) s (by omega) (by omega) (by omega) kf kk)
      · refine r_iload c_87_26 rfl <| r_iload_n c_87_28 rfl <| r_isub c_87_29 (by omega) <| r_iret c_87_30 <| ?_
        rw [if_pos (by omega)] at kf
        exact q_val (kf p (by omega) rfl) (by omega)
theorem ct_unfold {rs ns ro a : Nat} {lw : List Int} {σ : mk_S} {Q : Option mm_V → mm_H → Prop} (hrs : isRow L rs ns) (hro : isRow L ro 300) (hne : rs ≠ ro ∧ rs ≠ ro + 1 ∧ rs + 1 ≠ ro) (hal : a ≤ lw.length) (hll : lw.length - a ≤ 300) (hpl : pts lw) (hs : rowOK σ rs ns lw)
    (k : ∀ σ', ((DE (lw.drop a)).2 = -1 → rowOK σ' ro 300 (DE (lw.drop a)).1) → fr2 ro σ σ' → Q (some (vI (DE (lw.drop a)).2)) (hp L σ')) : mm_call 87 [vP rs, vI (a : Nat), vP ro] (hp L σ) Q := by
  have hb1 := hrs.2.2
  have hb2 := hs.2.1
  have hd := dsF_le (lw.drop a)
  rw [List.length_drop] at hd
  unfold DE at k
  refine ⟨Nat.le_of_ble_eq_true rfl, ?_⟩
  show mm_X 87 0 [vP rs, vI (a : Nat), vP ro, mm_null, mm_null] [] _ _
  refine r_iload_n c_87_0 rfl <| r_istore_n_5_3 c_87_1 rfl <| r_iload_n c_87_2 rfl <| r_istore_5_4 c_87_3 rfl <| ?_
  refine lp_uf (a := a) hrs hs (by omega) (lw.length - a) a 0 0 (by omega) (by omega) (by omega) (fun i hi e => ?_) (fun e => ?_)
  · rw [e, if_pos hi] at k
    exact k σ (fun h => absurd h (by simp only []; omega)) fr2.rf
  · rw [e, if_neg (by omega)] at k
    generalize hS : dsF (lw.drop a) 0 0 = s at *
    have hw := hs.2.1
    have esg : sg lw a (a + s) = (lw.drop a).take s := by unfold sg; rw [show a + s - a = s by omega]
    have hP : dsP s = if 0 < s then s + 1 else 0 := rfl
    have hR := (DE_out (l := lw.drop a) (pts_iff.2 (fun y hy => pts_iff.1 hpl y (List.mem_of_mem_drop hy))) (by rw [List.length_drop]; exact hll)).2.2
    unfold DE at hR
    rw [e, if_neg (by omega), hS, List.length_drop] at hR
    rw [List.drop_drop] at k hR
    refine r_aload_n c_87_51 rfl <| r_cV0 c_87_52 hro.1 (Nat.le_of_ble_eq_true rfl) <| ?_
    refine ct_clear hro (fun σ1 hl1 hf1 => ?_)
    have hs1 := hs.fr2 hf1 hne
    refine r_aload_n c_87_55 rfl <| r_aload_n c_87_56 rfl <| r_iload_n c_87_57 rfl <| r_iload_n c_87_58 rfl <| r_cV3 c_87_59 hro.1 (Nat.le_of_ble_eq_true rfl) <| ?_
    refine ct_appendFrom (a := a) (b := a + s) hro hrs (by omega) hl1 hs1 (by omega) (by omega) (fun hlt σ2 hl2 hf2 => ?_) (fun hgt => absurd hgt (by simp only [List.length_nil]; omega))
    rw [List.nil_append, esg] at hl2
    have hs2 := hs1.fr2 hf2 hne
    refine r_pop c_87_62 (v := vI _) rfl <| r_aload_n c_87_63 rfl <| r_iload_n c_87_64 rfl <| r_iload_n c_87_65 rfl <| r_icmp_le c_87_66 (fun h66 => ?_) <| (fun h66 => ?_)
    · refine r_iload_n c_87_75 rfl <| r_aload_n c_87_76 rfl <| r_cS3 c_87_77 (Nat.le_of_ble_eq_true rfl) <| ?_
      refine ct_ud (j := a + dsP s) (p := dsP s) (a := a) (by rw [hP]; first | (rw [if_pos (by omega)]; omega) | (rw [if_neg (by omega)]; omega)) hrs hro hne (by omega) (fun j hj => by have := hpl j hj; unfold isPt at this; omega) (by omega) rfl hs2 hl2 (fun σ3 o3 g1 g2 g3 => ?_)
      have kk := k σ3 (fun h => g2 h ▸ g1) ((hf1.tr hf2).tr g3)
      generalize (deF (lw.drop (a + dsP s)) (dsP s) 128 0 0 1 36 72 ((lw.drop a).take s)).2 = r at *
      generalize hz : (if r = -1 then -1 else r + (a : Int)) = z at *
      have hz' : (r = -1 ∧ z = -1) ∨ (0 ≤ r ∧ z = r + a) := by
        rw [← hz]
        split
        · left; omega
        · right; omega
      refine r_istore_5_4 c_87_80 rfl <| r_iload c_87_82 rfl <| r_iconst c_87_84 <| r_icmp_ne c_87_85 (fun h85 => ?_) <| (fun h85 => ?_)
      · refine r_iload c_87_92 rfl <| r_iload_n c_87_94 rfl <| r_isub c_87_95 (by omega) <| r_iret c_87_96 <| ?_
        exact q_val kk (by omega)
      · refine r_iconst c_87_88 <| r_goto c_87_89 <| r_iret c_87_96 <| ?_
        exact q_val kk (by omega)
    · refine r_iload_n c_87_69 rfl <| r_iconst c_87_70 <| r_iadd c_87_71 (by omega) <| r_goto c_87_72 <| r_aload_n c_87_76 rfl <| r_cS3 c_87_77 (Nat.le_of_ble_eq_true rfl) <| ?_
      refine ct_ud (j := a + dsP s) (p := dsP s) (a := a) (by rw [hP]; first | (rw [if_pos (by omega)]; omega) | (rw [if_neg (by omega)]; omega)) hrs hro hne (by omega) (fun j hj => by have := hpl j hj; unfold isPt at this; omega) (by omega) rfl hs2 hl2 (fun σ3 o3 g1 g2 g3 => ?_)
      have kk := k σ3 (fun h => g2 h ▸ g1) ((hf1.tr hf2).tr g3)
      generalize (deF (lw.drop (a + dsP s)) (dsP s) 128 0 0 1 36 72 ((lw.drop a).take s)).2 = r at *
      generalize hz : (if r = -1 then -1 else r + (a : Int)) = z at *
      have hz' : (r = -1 ∧ z = -1) ∨ (0 ≤ r ∧ z = r + a) := by
        rw [← hz]
        split
        · left; omega
        · right; omega
      refine r_istore_5_4 c_87_80 rfl <| r_iload c_87_82 rfl <| r_iconst c_87_84 <| r_icmp_ne c_87_85 (fun h85 => ?_) <| (fun h85 => ?_)
      · refine r_iload c_87_92 rfl <| r_iload_n c_87_94 rfl <| r_isub c_87_95 (by omega) <| r_iret c_87_96 <| ?_
        exact q_val kk (by omega)
      · refine r_iconst c_87_88 <| r_goto c_87_89 <| r_iret c_87_96 <| ?_
        exact q_val kk (by omega)
theorem ct_decodeC {σ : mk_S} {w : List Int} {Q : Option mm_V → mm_H → Prop} (hpw : pts w) (hw : rowOK σ 5 300 w) (k : ∀ σ', rowOK σ' 5 300 (if (DE w).2 = -1 then (DE w).1 else w) → cf [5, 6, 7, 8] σ σ' → Q (some (vI (if (DE w).2 = -1 then ((DE w).1.length : Int) else -10 - (DE w).2))) (hp L σ')) : mm_call 86 [vP 2] (hp L σ) Q := by
  have hle := hw.2.1
  have hD := DE_out hpw hle
  have ed : w.drop 0 = w := List.drop_zero
  refine ⟨Nat.le_of_ble_eq_true rfl, ?_⟩
  show mm_X 86 0 [vP 2, mm_null] [] _ _
  refine r_aload_n c_86_0 rfl <| r_getf_a c_86_1 rfl rfl <| r_iconst c_86_4 <| r_aload_n c_86_5 rfl <| r_getf_a c_86_6 rfl rfl <| r_cS3 c_86_9 (Nat.le_of_ble_eq_true rfl) <| ?_
  refine ct_unfold (a := 0) row5 row7 (by decide) (Nat.zero_le _) (by omega) hpw hw (fun σ1 g1 hf1 => ?_)
  rw [ed] at g1 ⊢
  have hw1 := hw.fr2 hf1 (by decide)
  refine r_istore_n_2_1 c_86_12 rfl <| r_iload_n c_86_13 rfl <| r_iconst c_86_14 <| r_icmp_eq c_86_15 (fun h15 => ?_) <| (fun h15 => ?_)
  · have g1 := g1 (by omega)
    refine r_aload_n c_86_23 rfl <| r_getf_a c_86_24 rfl rfl <| r_aload_n c_86_27 rfl <| r_getf_a c_86_28 rfl rfl <| r_cV1 c_86_31 rfl (Nat.le_of_ble_eq_true rfl) <| ?_
    refine ct_become row5 row7 (by decide) g1 (by omega) (fun σ3 hl3 hf3 => ?_)
    refine r_aload_n c_86_34 rfl <| r_getf_a c_86_35 rfl rfl <| r_cV0 c_86_38 rfl (Nat.le_of_ble_eq_true rfl) <| ?_
    refine ct_size row5 hl3 ?_
    refine r_iret c_86_41 <| ?_
    rw [if_pos (by omega), if_pos (by omega)] at k
    exact k σ3 hl3 ((hf1.cf (by decide) (by decide)).tr (hf3.cf (by decide) (by decide)))
  · refine r_bipush c_86_18 <| r_iload_n c_86_20 rfl <| r_isub c_86_21 (by omega) <| r_iret c_86_22 <| ?_
    rw [if_neg (by omega), if_neg (by omega)] at k
    exact k σ1 hw1 (hf1.cf (by decide) (by decide))
end DEC
