/-! MAKE, whole, the model's side: what is kept. -/
section MMAKE2
variable {L : Nat} {T : mk_S}
theorem lp_mkc {o : List Int} {kd : Int} {Q : Option mm_V → mm_H → Prop} (hol : o.length ≤ 8000) : ∀ (k i : Nat) (σ : mk_S), i + k = o.length → mDr σ o → (∀ j, j < i → σ 84 j = mm_w8 (o.getD j 0)) →
    (∀ σ', mMade σ' o → mf [84] [48] σ σ' → Q (some (vI o.length)) (hp L σ')) → mm_X 174 52 [vP 55, vI kd, vI (i : Nat)] [] (hp L σ) Q := by
  intro k
  induction k with
  | zero =>
    intro i σ hi ho h84 kk
    have e50 := ho.1
    have ei : i = o.length := by omega
    subst ei
    have kk := kk (sto σ 55 48 (σ 55 50)) ⟨by rw [sto_get, e50], hol, fun j hj => by rw [sto_ne (by decide)]; exact h84 j hj⟩ (mf.rf.stF (by decide))
    refine r_iload_n c_174_52 rfl <| r_aload_n c_174_53 rfl <| r_getf_i c_174_54 rfl rfl <| r_icmp_ge c_174_57 (fun h57 => ?_) <| (fun h57 => ?_)
    · refine r_aload_n c_174_78 rfl <| r_aload_n c_174_79 rfl <| r_getf_i c_174_80 rfl rfl <| r_putf c_174_83 rfl rfl <| r_aload_n c_174_86 rfl <| r_getf_i c_174_87 rfl rfl <| r_iret c_174_90 <| ?_
      rw [sto_get]
      rw [e50] at kk ⊢
      exact kk
    · exact absurd (show False by omega) (by decide)
  | succ k ih =>
    intro i σ hi ho h84 kk
    have e50 := ho.1
    refine r_iload_n c_174_52 rfl <| r_aload_n c_174_53 rfl <| r_getf_i c_174_54 rfl rfl <| r_icmp_ge c_174_57 (fun h57 => ?_) <| (fun h57 => ?_)
    · exact absurd (show False by omega) (by decide)
    · refine r_aload_n c_174_60 rfl <| r_getf_a c_174_61 rfl rfl <| r_iload_n c_174_64 rfl <| r_aload_n c_174_65 rfl <| r_getf_a c_174_66 rfl rfl <| r_iload_n c_174_69 rfl <| r_bald c_174_70 rfl (Or.inr rfl) (jn := i) rfl (by omega) <| r_bast2 c_174_71 rfl (jn := i) rfl (by omega) <| r_iinc_3_2 c_174_72 rfl (by omega) <| r_goto c_174_75 <| ?_
      refine ih (i + 1) _ (by omega) ⟨by rw [sto_ne (by decide)]; exact ho.1, fun j hj => by rw [sto_ne (by decide)]; exact ho.2 j hj⟩ (fun j hj => ?_) (fun σ2 w1 w2 => kk σ2 w1 ((mf.rf.stA (by decide) (by decide)).tr w2))
      rw [sto_at]
      by_cases q : j = i
      · subst q; rw [st_at, ho.2 j (by omega)]; exact w8w8 _
      · rw [st_ne q]; exact h84 j (by omega)
theorem ct_mmake {σ : mk_S} {t : List Int} {kd : Int} {Q : Option mm_V → mm_H → Prop} (hM : MT σ T) (hO : TOK T) (hot : octs t) (ht : mText σ t) (hrng : 0 ≤ (mkR T t kd).1.1 ∧ (mkR T t kd).1.1 ≤ 1000) (hol : (mkR T t kd).2.2.length ≤ 8000)
    (k : ∀ σ', mD σ' (mkR T t kd).1.1 (mkR T t kd).1.2.1 (mkR T t kd).1.2.2 → σ' 55 40 = ((mkR T t kd).2.1 : Int) → ((mkR T t kd).1.1 = 0 → mMade σ' (mkR T t kd).2.2) → ((mkR T t kd).1.1 ≠ 0 → σ' 84 = σ 84 ∧ σ' 55 48 = σ 55 48) → mf (84 :: mkA) (0 :: 48 :: mkF) σ σ' → Q (some (vI (if (mkR T t kd).1.1 = 0 then ((mkR T t kd).2.2.length : Int) else -10 - (mkR T t kd).1.1))) (hp L σ')) : mm_call 174 [vP 55, vI kd] (hp L σ) Q := by
  have key : ∀ σ0, mf [] [0, 37, 38, 39, 40, 50] σ σ0 → mD σ0 0 0 0 → σ0 55 40 = 0 → σ0 55 50 = 0 → mm_X 174 30 [vP 55, vI kd, mm_null] [] (hp L σ0) Q := by
    intro σ0 f0 g1 g2 g3
    have hM0 := hM.mf f0 (by decide) (by decide)
    have ht0 := ht.mf f0 (by decide) (by decide)
    refine r_aload_n c_174_30 rfl <| r_iload_n c_174_31 rfl <| r_cV1 c_174_32 rfl (Nat.le_of_ble_eq_true rfl) <| ?_
    refine ct_makeAll hM0 hO hot ht0 g1 g2 g3 (fun σ1 h1 h2 h3 hf1 => ?_)
    have e37 := h1.1
    have c1 : mf (84 :: mkA) (0 :: 48 :: mkF) σ σ1 := (f0.up (by decide) (by decide)).tr (hf1.up (by decide) (by decide))
    refine r_aload_n c_174_35 rfl <| r_getf_i c_174_36 rfl rfl <| r_if_le c_174_39 (fun h39 => ?_) <| (fun h39 => ?_)
    · refine r_iconst c_174_50 <| r_istore_n_3_2 c_174_51 rfl <| ?_
      have he : (mkR T t kd).1.1 = 0 := by omega
      rw [if_pos he] at k
      refine lp_mkc hol (mkR T t kd).2.2.length 0 σ1 (by omega) (h3 he) (fun j hj => absurd hj (Nat.not_lt_zero j)) (fun σ2 w1 w2 => ?_)
      exact k σ2 (h1.mf w2 (by decide)) (by rw [w2.2 40 (by decide)]; exact h2) (fun _ => w1) (fun h => absurd he h) (c1.tr (w2.up (by decide) (by decide)))
    · refine r_bipush c_174_42 <| r_aload_n c_174_44 rfl <| r_getf_i c_174_45 rfl rfl <| r_isub c_174_48 (by omega) <| r_iret c_174_49 <| ?_
      rw [e37]
      have hne : (mkR T t kd).1.1 ≠ 0 := by omega
      rw [if_neg hne] at k
      exact k σ1 h1 h2 (fun h => absurd h hne) (fun _ => ⟨by rw [hf1.1 84 (by decide) (by decide), f0.1 84 (by decide) (by decide)], by rw [hf1.2 48 (by decide), f0.2 48 (by decide)]⟩) c1
  refine ⟨Nat.le_of_ble_eq_true rfl, ?_⟩
  show mm_X 174 0 [vP 55, vI kd, mm_null] [] _ _
  refine r_aload_n c_174_0 rfl <| r_iconst c_174_1 <| r_putf c_174_2 rfl rfl <| r_aload_n c_174_5 rfl <| r_iconst c_174_6 <| r_putf c_174_7 rfl rfl <| r_aload_n c_174_10 rfl <| r_iconst c_174_11 <| r_putf c_174_12 rfl rfl <| r_aload_n c_174_15 rfl <| ?_
  refine r_iconst c_174_16 <| r_putf c_174_17 rfl rfl <| r_aload_n c_174_20 rfl <| r_iconst c_174_21 <| r_putf c_174_22 rfl rfl <| r_aload_n c_174_25 rfl <| r_iconst c_174_26 <| r_putf c_174_27 rfl rfl <| ?_
  refine key _ ((((((mf.rf.stF (by decide)).stF (by decide)).stF (by decide)).stF (by decide)).stF (by decide)).stF (by decide)) ⟨?_, ?_, ?_⟩ ?_ ?_
  · rw [sto_get2 (Or.inr (by decide)), sto_get2 (Or.inr (by decide)), sto_get2 (Or.inr (by decide)), sto_get2 (Or.inr (by decide)), sto_get]
  · rw [sto_get2 (Or.inr (by decide)), sto_get2 (Or.inr (by decide)), sto_get2 (Or.inr (by decide)), sto_get]
  · rw [sto_get2 (Or.inr (by decide)), sto_get2 (Or.inr (by decide)), sto_get]
  · rw [sto_get2 (Or.inr (by decide)), sto_get]
  · exact sto_get _ _ _ _
end MMAKE2
