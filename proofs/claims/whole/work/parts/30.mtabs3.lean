/-! WHAT IS TOLD: rank, range, about of the reference. -/
section MTABS3
variable {L : Nat} {σ T : mk_S} {Q : Option mm_V → mm_H → Prop}
theorem mt_rank1 {σ T : mk_S} {p : Int} (hM : MT σ T) {j : Nat} (hj : j < nR T) (hp : T 23 j = p) (r : Int) : MT (sto (sto σ 67 j p) 68 j r) (sto T 24 j r) := by
  obtain ⟨⟨n1, n2, n3, n4⟩, hs, hp', hr, hg⟩ := hM
  refine ⟨⟨?_, ?_, ?_, ?_⟩, ?_, ?_, ?_, ?_⟩
  · simpa [sto] using n1
  · simpa [sto] using n2
  · simpa [sto] using n3
  · simpa [sto] using n4
  · unfold MTs nS at *; simpa [sto] using hs
  · unfold MTp nP at *; simpa [sto] using hp'
  · unfold MTr nR at *
    intro i hi
    have hi : i < (T 22 2).toNat := by simpa [sto] using hi
    have := hr i hi
    simp only [sto]
    by_cases e : i = j
    · subst e; simp [st_at, hp]
    · simpa [st_ne e] using this
  · unfold MTg nG at *; simpa [sto] using hg
theorem mt_rank2 {σ T : mk_S} (hM : MT σ T) (p r : Int) : MT (sto (sto (sto σ 55 16 ((nR T : Int) + 1)) 67 (nR T) p) 68 (nR T) r) (sto (sto (sto T 23 (nR T) p) 24 (nR T) r) 22 2 ((nR T : Int) + 1)) := by
  have eP : nR (sto (sto (sto T 23 (nR T) p) 24 (nR T) r) 22 2 ((nR T : Int) + 1)) = nR T + 1 := (congrArg Int.toNat (sto_get _ _ _ _)).trans (by omega)
  obtain ⟨⟨n1, n2, n3, n4⟩, hs, hp', hr, hg⟩ := hM
  refine ⟨⟨?_, ?_, ?_, ?_⟩, ?_, ?_, ?_, ?_⟩
  · simpa [sto, mm_st] using n1
  · simpa [sto, mm_st] using n2
  · simp [sto, mm_st]
  · simpa [sto, mm_st] using n4
  · unfold MTs nS at *; simpa [sto] using hs
  · unfold MTp nP at *; simpa [sto] using hp'
  · intro i hi
    rw [eP] at hi
    by_cases e : i = nR T
    · subst e; simp [sto, mm_st]
    · have := hr i (by omega)
      simp only [sto]
      simpa [st_ne e] using this
  · unfold MTg nG at *; simpa [sto] using hg
theorem ct_mrank (hM : MT σ T) (hO : TOK T) (p r : Int) (k : ∀ σ', MT σ' (rankT T p r) → mf [67, 68] [0, 16] σ σ' → Q (some (vI (rankN T p r))) (hp L σ')) : mm_call 148 [vP 55, vI p, vI r] (hp L σ) Q := by
  have f0 : mf [67, 68] [0, 16] σ (sto σ 55 0 0) := mf.rf.stF (by decide)
  have hM0 := hM.c0
  have e5 : sto σ 55 0 0 55 16 = (nR T : Int) := hM0.1.2.2.1.trans hO.1.2.2.1.1
  have hn := hO.1.2.2.1.2
  have hb := rkI_lt (T := T) p
  refine ⟨Nat.le_of_ble_eq_true rfl, ?_⟩
  show mm_X 148 0 [vP 55, vI p, vI r, mm_null, mm_null] [] _ _
  refine r_aload_n c_148_0 rfl <| r_iconst c_148_1 <| r_putf c_148_2 rfl rfl <| r_iload_n c_148_5 rfl <| r_cS1 c_148_6 (Nat.le_of_ble_eq_true rfl) <| ?_
  refine ct_mPoint _ (fun h6 => ?_) (fun h6 => ?_)
  · refine r_if_eq c_148_9 (fun h => absurd h (by decide)) <| (fun _ => ?_)
    refine r_iload_n c_148_12 rfl <| r_sipush c_148_13 <| r_icmp_lt c_148_16 (fun h16 => ?_) <| (fun h16 => ?_)
    · refine r_bipush c_148_30 <| r_iret c_148_32 <| ?_
      have hR : ¬ rankR p r := by unfold rankR; omega
      have e1 : rankT T p r = T := by unfold rankT; rw [if_pos hR]
      have e2 : rankN T p r = -2 := by unfold rankN; rw [if_pos hR]
      rw [← e2]; exact k _ (by rw [e1]; exact hM0) f0
    · refine r_iload_n c_148_19 rfl <| r_iconst c_148_20 <| r_sipush c_148_21 <| r_cS3 c_148_24 (Nat.le_of_ble_eq_true rfl) <| ?_
      refine ct_in _ _ _ (fun h24 => ?_) (fun h24 => ?_)
      · refine r_if_ne c_148_27 (fun _ => ?_) <| (fun h => absurd h (by decide))
        refine r_aload_n c_148_33 rfl <| r_iload_n c_148_34 rfl <| r_cV1 c_148_35 rfl (Nat.le_of_ble_eq_true rfl) <| ?_
        refine ct_mrankAt hM0 hO p ?_
        refine r_istore_n_5_3 c_148_38 rfl <| r_iload_n c_148_39 rfl <| r_if_ge c_148_40 (fun h40 => ?_) <| (fun h40 => ?_)
        · refine r_aload_n c_148_55 rfl <| r_iload_n c_148_56 rfl <| r_cV1 c_148_57 rfl (Nat.le_of_ble_eq_true rfl) <| ?_
          refine ct_mrankOf hM0 hO p ?_
          refine r_istore_5_4 c_148_60 rfl <| r_iload_n c_148_62 rfl <| r_if_ge c_148_63 (fun h63 => ?_) <| (fun h63 => ?_)
          · refine r_aload_n c_148_81 rfl <| r_getf_a c_148_82 rfl rfl <| r_iload_n c_148_85 rfl <| r_iload_n c_148_86 rfl <| r_iast c_148_87 rfl (jn := (if 0 ≤ rkI T p then (rkI T p).toNat else nR T)) (by split <;> omega) (by split <;> omega) <| r_aload_n c_148_88 rfl <| r_getf_a c_148_89 rfl rfl <| r_iload_n c_148_92 rfl <| r_iload_n c_148_93 rfl <| r_iast c_148_94 rfl (jn := (if 0 ≤ rkI T p then (rkI T p).toNat else nR T)) (by split <;> omega) (by split <;> omega) <| ?_
            refine r_iload c_148_95 rfl <| r_iret c_148_97 <| ?_
            have hR : rankR p r := by unfold rankR; omega
            have e2 : rankN T p r = rkO T p := by unfold rankN; rw [if_neg (not_not_intro hR), if_neg (by omega)]
            first
            | (have hk : 0 ≤ rkI T p := by omega
               have e1 : rankT T p r = sto T 24 (rkI T p).toNat r := by unfold rankT rankS; rw [if_neg (not_not_intro hR), if_neg (by omega), if_pos hk]
               rw [if_pos hk]
               rw [← e2]
               obtain ⟨j, hj1, hj2, hj3⟩ := (rkI_cases T p).resolve_left (by omega)
               rw [hj1] at e1 ⊢
               rw [Int.toNat_natCast] at e1 ⊢
               exact k _ (by rw [e1]; exact mt_rank1 hM0 hj2 hj3 r) ((f0.stA (by decide) (by decide)).stA (by decide) (by decide)))
            | (have hk : ¬ 0 ≤ rkI T p := by omega
               have e1 : rankT T p r = sto (sto (sto T 23 (nR T) p) 24 (nR T) r) 22 2 ((nR T : Int) + 1) := by unfold rankT rankS; rw [if_neg (not_not_intro hR), if_neg (by omega), if_neg hk]
               rw [if_neg hk, e5]
               rw [← e2]
               exact k _ (by rw [e1]; exact mt_rank2 hM0 p r) (((f0.stF (by decide)).stA (by decide) (by decide)).stA (by decide) (by decide)))
          · refine r_aload_n c_148_66 rfl <| r_getf_i c_148_67 rfl rfl <| r_istore_n_5_3 c_148_70 rfl <| r_aload_n c_148_71 rfl <| r_dup c_148_72 rfl <| r_getf_i c_148_73 rfl rfl <| r_iconst c_148_76 <| r_iadd c_148_77 (by rw [e5]; omega) <| r_putf c_148_78 rfl rfl <| r_aload_n c_148_81 rfl <| ?_
            refine r_getf_a c_148_82 rfl rfl <| r_iload_n c_148_85 rfl <| r_iload_n c_148_86 rfl <| r_iast c_148_87 rfl (jn := (if 0 ≤ rkI T p then (rkI T p).toNat else nR T)) (by split <;> omega) (by split <;> omega) <| r_aload_n c_148_88 rfl <| r_getf_a c_148_89 rfl rfl <| r_iload_n c_148_92 rfl <| r_iload_n c_148_93 rfl <| r_iast c_148_94 rfl (jn := (if 0 ≤ rkI T p then (rkI T p).toNat else nR T)) (by split <;> omega) (by split <;> omega) <| r_iload c_148_95 rfl <| ?_
            refine r_iret c_148_97 <| ?_
            have hR : rankR p r := by unfold rankR; omega
            have e2 : rankN T p r = rkO T p := by unfold rankN; rw [if_neg (not_not_intro hR), if_neg (by omega)]
            first
            | (have hk : 0 ≤ rkI T p := by omega
               have e1 : rankT T p r = sto T 24 (rkI T p).toNat r := by unfold rankT rankS; rw [if_neg (not_not_intro hR), if_neg (by omega), if_pos hk]
               rw [if_pos hk]
               rw [← e2]
               obtain ⟨j, hj1, hj2, hj3⟩ := (rkI_cases T p).resolve_left (by omega)
               rw [hj1] at e1 ⊢
               rw [Int.toNat_natCast] at e1 ⊢
               exact k _ (by rw [e1]; exact mt_rank1 hM0 hj2 hj3 r) ((f0.stA (by decide) (by decide)).stA (by decide) (by decide)))
            | (have hk : ¬ 0 ≤ rkI T p := by omega
               have e1 : rankT T p r = sto (sto (sto T 23 (nR T) p) 24 (nR T) r) 22 2 ((nR T : Int) + 1) := by unfold rankT rankS; rw [if_neg (not_not_intro hR), if_neg (by omega), if_neg hk]
               rw [if_neg hk, e5]
               rw [← e2]
               exact k _ (by rw [e1]; exact mt_rank2 hM0 p r) (((f0.stF (by decide)).stA (by decide) (by decide)).stA (by decide) (by decide)))
        · refine r_aload_n c_148_43 rfl <| r_getf_i c_148_44 rfl rfl <| r_bipush c_148_47 <| r_icmp_ne c_148_49 (fun h49 => ?_) <| (fun h49 => ?_)
          · refine r_aload_n c_148_55 rfl <| r_iload_n c_148_56 rfl <| r_cV1 c_148_57 rfl (Nat.le_of_ble_eq_true rfl) <| ?_
            refine ct_mrankOf hM0 hO p ?_
            refine r_istore_5_4 c_148_60 rfl <| r_iload_n c_148_62 rfl <| r_if_ge c_148_63 (fun h63 => ?_) <| (fun h63 => ?_)
            · refine r_aload_n c_148_81 rfl <| r_getf_a c_148_82 rfl rfl <| r_iload_n c_148_85 rfl <| r_iload_n c_148_86 rfl <| r_iast c_148_87 rfl (jn := (if 0 ≤ rkI T p then (rkI T p).toNat else nR T)) (by split <;> omega) (by split <;> omega) <| r_aload_n c_148_88 rfl <| r_getf_a c_148_89 rfl rfl <| r_iload_n c_148_92 rfl <| r_iload_n c_148_93 rfl <| r_iast c_148_94 rfl (jn := (if 0 ≤ rkI T p then (rkI T p).toNat else nR T)) (by split <;> omega) (by split <;> omega) <| ?_
              refine r_iload c_148_95 rfl <| r_iret c_148_97 <| ?_
              have hR : rankR p r := by unfold rankR; omega
              have e2 : rankN T p r = rkO T p := by unfold rankN; rw [if_neg (not_not_intro hR), if_neg (by omega)]
              first
              | (have hk : 0 ≤ rkI T p := by omega
                 have e1 : rankT T p r = sto T 24 (rkI T p).toNat r := by unfold rankT rankS; rw [if_neg (not_not_intro hR), if_neg (by omega), if_pos hk]
                 rw [if_pos hk]
                 rw [← e2]
                 obtain ⟨j, hj1, hj2, hj3⟩ := (rkI_cases T p).resolve_left (by omega)
                 rw [hj1] at e1 ⊢
                 rw [Int.toNat_natCast] at e1 ⊢
                 exact k _ (by rw [e1]; exact mt_rank1 hM0 hj2 hj3 r) ((f0.stA (by decide) (by decide)).stA (by decide) (by decide)))
              | (have hk : ¬ 0 ≤ rkI T p := by omega
                 have e1 : rankT T p r = sto (sto (sto T 23 (nR T) p) 24 (nR T) r) 22 2 ((nR T : Int) + 1) := by unfold rankT rankS; rw [if_neg (not_not_intro hR), if_neg (by omega), if_neg hk]
                 rw [if_neg hk, e5]
                 rw [← e2]
                 exact k _ (by rw [e1]; exact mt_rank2 hM0 p r) (((f0.stF (by decide)).stA (by decide) (by decide)).stA (by decide) (by decide)))
            · refine r_aload_n c_148_66 rfl <| r_getf_i c_148_67 rfl rfl <| r_istore_n_5_3 c_148_70 rfl <| r_aload_n c_148_71 rfl <| r_dup c_148_72 rfl <| r_getf_i c_148_73 rfl rfl <| r_iconst c_148_76 <| r_iadd c_148_77 (by rw [e5]; omega) <| r_putf c_148_78 rfl rfl <| r_aload_n c_148_81 rfl <| ?_
              refine r_getf_a c_148_82 rfl rfl <| r_iload_n c_148_85 rfl <| r_iload_n c_148_86 rfl <| r_iast c_148_87 rfl (jn := (if 0 ≤ rkI T p then (rkI T p).toNat else nR T)) (by split <;> omega) (by split <;> omega) <| r_aload_n c_148_88 rfl <| r_getf_a c_148_89 rfl rfl <| r_iload_n c_148_92 rfl <| r_iload_n c_148_93 rfl <| r_iast c_148_94 rfl (jn := (if 0 ≤ rkI T p then (rkI T p).toNat else nR T)) (by split <;> omega) (by split <;> omega) <| r_iload c_148_95 rfl <| ?_
              refine r_iret c_148_97 <| ?_
              have hR : rankR p r := by unfold rankR; omega
              have e2 : rankN T p r = rkO T p := by unfold rankN; rw [if_neg (not_not_intro hR), if_neg (by omega)]
              first
              | (have hk : 0 ≤ rkI T p := by omega
                 have e1 : rankT T p r = sto T 24 (rkI T p).toNat r := by unfold rankT rankS; rw [if_neg (not_not_intro hR), if_neg (by omega), if_pos hk]
                 rw [if_pos hk]
                 rw [← e2]
                 obtain ⟨j, hj1, hj2, hj3⟩ := (rkI_cases T p).resolve_left (by omega)
                 rw [hj1] at e1 ⊢
                 rw [Int.toNat_natCast] at e1 ⊢
                 exact k _ (by rw [e1]; exact mt_rank1 hM0 hj2 hj3 r) ((f0.stA (by decide) (by decide)).stA (by decide) (by decide)))
              | (have hk : ¬ 0 ≤ rkI T p := by omega
                 have e1 : rankT T p r = sto (sto (sto T 23 (nR T) p) 24 (nR T) r) 22 2 ((nR T : Int) + 1) := by unfold rankT rankS; rw [if_neg (not_not_intro hR), if_neg (by omega), if_neg hk]
                 rw [if_neg hk, e5]
                 rw [← e2]
                 exact k _ (by rw [e1]; exact mt_rank2 hM0 p r) (((f0.stF (by decide)).stA (by decide) (by decide)).stA (by decide) (by decide)))
          · refine r_bipush c_148_52 <| r_iret c_148_54 <| ?_
            have hR : rankR p r := by unfold rankR; omega
            have e1 : rankT T p r = T := by unfold rankT; rw [if_neg (not_not_intro hR), if_pos (by omega)]
            have e2 : rankN T p r = -4 := by unfold rankN; rw [if_neg (not_not_intro hR), if_pos (by omega)]
            rw [← e2]; exact k _ (by rw [e1]; exact hM0) f0
      · refine r_if_ne c_148_27 (fun h => absurd h (by decide)) <| (fun _ => ?_)
        refine r_bipush c_148_30 <| r_iret c_148_32 <| ?_
        have hR : ¬ rankR p r := by unfold rankR; omega
        have e1 : rankT T p r = T := by unfold rankT; rw [if_pos hR]
        have e2 : rankN T p r = -2 := by unfold rankN; rw [if_pos hR]
        rw [← e2]; exact k _ (by rw [e1]; exact hM0) f0
  · refine r_if_eq c_148_9 (fun _ => ?_) <| (fun h => absurd h (by decide))
    refine r_bipush c_148_30 <| r_iret c_148_32 <| ?_
    have hR : ¬ rankR p r := by unfold rankR; omega
    have e1 : rankT T p r = T := by unfold rankT; rw [if_pos hR]
    have e2 : rankN T p r = -2 := by unfold rankN; rw [if_pos hR]
    rw [← e2]; exact k _ (by rw [e1]; exact hM0) f0
theorem mt_rang {σ T : mk_S} (hM : MT σ T) (kd f l v : Int) : MT (sto (sto (sto (sto (sto σ 69 (nG T) kd) 70 (nG T) f) 71 (nG T) l) 72 (nG T) v) 55 19 ((nG T : Int) + 1)) (rangS T kd f l v) := by
  have e4 : rangS T kd f l v 25 4 = ((nG T + 1 : Nat) : Int) := by unfold rangS; rw [sto_get]; omega
  have eP : nG (rangS T kd f l v) = nG T + 1 := (congrArg Int.toNat e4).trans (by omega)
  have eT : ∀ c, c < 25 → rangS T kd f l v c = T c := fun c h => by unfold rangS; rw [sto_ne (by omega), sto_ne (by omega), sto_ne (by omega), sto_ne (by omega), sto_ne (by omega)]
  obtain ⟨⟨n1, n2, n3, n4⟩, hs, hp, hr, hg⟩ := hM
  refine ⟨⟨?_, ?_, ?_, ?_⟩, ?_, ?_, ?_, ?_⟩
  · rw [eT 11 (by decide), sto_get2 (Or.inr (by decide))]; simpa [sto] using n1
  · rw [eT 17 (by decide), sto_get2 (Or.inr (by decide))]; simpa [sto] using n2
  · rw [eT 22 (by decide), sto_get2 (Or.inr (by decide))]; simpa [sto] using n3
  · rw [e4, sto_get]; omega
  · unfold MTs nS at *
    rw [eT 11 (by decide), eT 12 (by decide), eT 13 (by decide), eT 14 (by decide), eT 15 (by decide), eT 16 (by decide)]
    simpa [sto] using hs
  · unfold MTp nP at *
    rw [eT 17 (by decide), eT 18 (by decide), eT 19 (by decide), eT 20 (by decide), eT 21 (by decide)]
    simpa [sto] using hp
  · unfold MTr nR at *
    rw [eT 22 (by decide), eT 23 (by decide), eT 24 (by decide)]
    simpa [sto] using hr
  · intro i hi
    rw [eP] at hi
    have e26 : rangS T kd f l v 26 = mm_st (T 26) (nG T) kd := by simp [rangS, sto]
    have e27 : rangS T kd f l v 27 = mm_st (T 27) (nG T) f := by simp [rangS, sto]
    have e28 : rangS T kd f l v 28 = mm_st (T 28) (nG T) l := by simp [rangS, sto]
    have e29 : rangS T kd f l v 29 = mm_st (T 29) (nG T) v := by simp [rangS, sto]
    rw [e26, e27, e28, e29]
    by_cases e : i = nG T
    · subst e; simp [sto, st_at]
    · have := hg i (by omega)
      simp only [sto]
      simpa [st_ne e] using this
theorem ct_mrangeT (hM : MT σ T) (hO : TOK T) (kd f l v : Int) (k : ∀ σ', MT σ' (rangT T kd f l v) → mf [69, 70, 71, 72] [0, 19] σ σ' → Q (some (vI (rangN T kd f l v))) (hp L σ')) : mm_call 151 [vP 55, vI kd, vI f, vI l, vI v] (hp L σ) Q := by
  have f0 : mf [69, 70, 71, 72] [0, 19] σ (sto σ 55 0 0) := mf.rf.stF (by decide)
  have hM0 := hM.c0
  have e5 : sto σ 55 0 0 55 19 = (nG T : Int) := hM0.1.2.2.2.trans hO.1.2.2.2.1
  have hn := hO.1.2.2.2.2
  refine ⟨Nat.le_of_ble_eq_true rfl, ?_⟩
  show mm_X 151 0 [vP 55, vI kd, vI f, vI l, vI v, mm_null] [] _ _
  refine r_aload_n c_151_0 rfl <| r_iconst c_151_1 <| r_putf c_151_2 rfl rfl <| r_iload_n c_151_5 rfl <| r_if_ne c_151_6 (fun h6 => ?_) <| (fun h6 => ?_)
  · refine r_iload_n c_151_13 rfl <| r_iconst c_151_14 <| r_icmp_ne c_151_15 (fun h15 => ?_) <| (fun h15 => ?_)
    · refine r_iconst c_151_23 <| r_istore_6_5 c_151_24 rfl <| r_iload_n c_151_26 rfl <| r_iconst c_151_27 <| r_iconst c_151_28 <| r_cS3 c_151_29 (Nat.le_of_ble_eq_true rfl) <| ?_
      refine ct_in _ _ _ (fun h29 => ?_) (fun h29 => ?_)
      · refine r_if_eq c_151_32 (fun h => absurd h (by decide)) <| (fun _ => ?_)
        refine r_iload c_151_35 rfl <| r_iconst c_151_37 <| r_iload c_151_38 rfl <| r_cS3 c_151_40 (Nat.le_of_ble_eq_true rfl) <| ?_
        refine ct_in _ _ _ (fun h40 => ?_) (fun h40 => ?_)
        · refine r_if_eq c_151_43 (fun h => absurd h (by decide)) <| (fun _ => ?_)
          refine r_iload_n c_151_46 rfl <| r_iconst c_151_47 <| r_ldc c_151_48 <| r_cS3 c_151_50 (Nat.le_of_ble_eq_true rfl) <| ?_
          refine ct_in _ _ _ (fun h50 => ?_) (fun h50 => ?_)
          · refine r_if_eq c_151_53 (fun h => absurd h (by decide)) <| (fun _ => ?_)
            refine r_iload_n c_151_56 rfl <| r_iconst c_151_57 <| r_ldc c_151_58 <| r_cS3 c_151_60 (Nat.le_of_ble_eq_true rfl) <| ?_
            refine ct_in _ _ _ (fun h60 => ?_) (fun h60 => ?_)
            · refine r_if_eq c_151_63 (fun h => absurd h (by decide)) <| (fun _ => ?_)
              refine r_iload_n c_151_66 rfl <| r_iload_n c_151_67 rfl <| r_icmp_le c_151_68 (fun h68 => ?_) <| (fun h68 => ?_)
              · refine r_aload_n c_151_74 rfl <| r_getf_i c_151_75 rfl rfl <| r_sipush c_151_78 <| r_icmp_ne c_151_81 (fun h81 => ?_) <| (fun h81 => ?_)
                · refine r_aload_n c_151_87 rfl <| r_getf_a c_151_88 rfl rfl <| r_aload_n c_151_91 rfl <| r_getf_i c_151_92 rfl rfl <| r_iload_n c_151_95 rfl <| r_iast c_151_96 rfl (jn := nG T) e5 (by omega) <| r_aload_n c_151_97 rfl <| r_getf_a c_151_98 rfl rfl <| r_aload_n c_151_101 rfl <| r_getf_i c_151_102 rfl rfl <| ?_
                  refine r_iload_n c_151_105 rfl <| r_iast c_151_106 rfl (jn := nG T) ((congrFun (sto_ne (by decide)) 19).trans e5) (by omega) <| r_aload_n c_151_107 rfl <| r_getf_a c_151_108 rfl rfl <| r_aload_n c_151_111 rfl <| r_getf_i c_151_112 rfl rfl <| r_iload_n c_151_115 rfl <| r_iast c_151_116 rfl (jn := nG T) ((congrFun (sto_ne (by decide)) 19).trans ((congrFun (sto_ne (by decide)) 19).trans e5)) (by omega) <| r_aload_n c_151_117 rfl <| r_getf_a c_151_118 rfl rfl <| ?_
                  refine r_aload_n c_151_121 rfl <| r_getf_i c_151_122 rfl rfl <| r_iload c_151_125 rfl <| r_iast c_151_127 rfl (jn := nG T) ((congrFun (sto_ne (by decide)) 19).trans ((congrFun (sto_ne (by decide)) 19).trans ((congrFun (sto_ne (by decide)) 19).trans e5))) (by omega) <| r_aload_n c_151_128 rfl <| r_dup c_151_129 rfl <| r_getf_i c_151_130 rfl rfl <| r_iconst c_151_133 <| r_iadd c_151_134 (by rw [(congrFun (sto_ne (by decide)) 19).trans ((congrFun (sto_ne (by decide)) 19).trans ((congrFun (sto_ne (by decide)) 19).trans ((congrFun (sto_ne (by decide)) 19).trans e5)))]; omega) <| r_putf c_151_135 rfl rfl <| ?_
                  refine r_iconst c_151_138 <| r_iret c_151_139 <| ?_
                  have hR : rangR kd f l v := ⟨by omega, by unfold hiK; (repeat' split) <;> omega, by unfold isSp; omega⟩
                  have e1 : rangT T kd f l v = rangS T kd f l v := by unfold rangT; rw [if_neg (not_not_intro hR), if_neg (by omega)]
                  have e2 : rangN T kd f l v = 1 := by unfold rangN; rw [if_neg (not_not_intro hR), if_neg (by omega)]
                  rw [(congrFun (sto_ne (by decide)) 19).trans ((congrFun (sto_ne (by decide)) 19).trans ((congrFun (sto_ne (by decide)) 19).trans ((congrFun (sto_ne (by decide)) 19).trans e5)))]
                  refine q_val (k _ ?_ ?_) e2.symm
                  · rw [e1]; exact mt_rang hM0 kd f l v
                  · exact ((((f0.stA (by decide) (by decide)).stA (by decide) (by decide)).stA (by decide) (by decide)).stA (by decide) (by decide)).stF (by decide)
                · refine r_bipush c_151_84 <| r_iret c_151_86 <| ?_
                  have hR : rangR kd f l v := ⟨by omega, by unfold hiK; (repeat' split) <;> omega, by unfold isSp; omega⟩
                  have e1 : rangT T kd f l v = T := by unfold rangT; rw [if_neg (not_not_intro hR), if_pos (by omega)]
                  have e2 : rangN T kd f l v = -4 := by unfold rangN; rw [if_neg (not_not_intro hR), if_pos (by omega)]
                  rw [← e2]; exact k _ (by rw [e1]; exact hM0) f0
              · refine r_bipush c_151_71 <| r_iret c_151_73 <| ?_
                have hR : ¬ rangR kd f l v := fun q => by
                  have h2 := q.2.1
                  have h3 := q.2.2
                  unfold hiK at h2
                  unfold isSp at h3
                  have h1 := q.1
                  revert h2
                  (repeat' split) <;> omega
                have e1 : rangT T kd f l v = T := by unfold rangT; rw [if_pos hR]
                have e2 : rangN T kd f l v = -2 := by unfold rangN; rw [if_pos hR]
                rw [← e2]; exact k _ (by rw [e1]; exact hM0) f0
            · refine r_if_eq c_151_63 (fun _ => ?_) <| (fun h => absurd h (by decide))
              refine r_bipush c_151_71 <| r_iret c_151_73 <| ?_
              have hR : ¬ rangR kd f l v := fun q => by
                have h2 := q.2.1
                have h3 := q.2.2
                unfold hiK at h2
                unfold isSp at h3
                have h1 := q.1
                revert h2
                (repeat' split) <;> omega
              have e1 : rangT T kd f l v = T := by unfold rangT; rw [if_pos hR]
              have e2 : rangN T kd f l v = -2 := by unfold rangN; rw [if_pos hR]
              rw [← e2]; exact k _ (by rw [e1]; exact hM0) f0
          · refine r_if_eq c_151_53 (fun _ => ?_) <| (fun h => absurd h (by decide))
            refine r_bipush c_151_71 <| r_iret c_151_73 <| ?_
            have hR : ¬ rangR kd f l v := fun q => by
              have h2 := q.2.1
              have h3 := q.2.2
              unfold hiK at h2
              unfold isSp at h3
              have h1 := q.1
              revert h2
              (repeat' split) <;> omega
            have e1 : rangT T kd f l v = T := by unfold rangT; rw [if_pos hR]
            have e2 : rangN T kd f l v = -2 := by unfold rangN; rw [if_pos hR]
            rw [← e2]; exact k _ (by rw [e1]; exact hM0) f0
        · refine r_if_eq c_151_43 (fun _ => ?_) <| (fun h => absurd h (by decide))
          refine r_bipush c_151_71 <| r_iret c_151_73 <| ?_
          have hR : ¬ rangR kd f l v := fun q => by
            have h2 := q.2.1
            have h3 := q.2.2
            unfold hiK at h2
            unfold isSp at h3
            have h1 := q.1
            revert h2
            (repeat' split) <;> omega
          have e1 : rangT T kd f l v = T := by unfold rangT; rw [if_pos hR]
          have e2 : rangN T kd f l v = -2 := by unfold rangN; rw [if_pos hR]
          rw [← e2]; exact k _ (by rw [e1]; exact hM0) f0
      · refine r_if_eq c_151_32 (fun _ => ?_) <| (fun h => absurd h (by decide))
        refine r_bipush c_151_71 <| r_iret c_151_73 <| ?_
        have hR : ¬ rangR kd f l v := fun q => by
          have h2 := q.2.1
          have h3 := q.2.2
          unfold hiK at h2
          unfold isSp at h3
          have h1 := q.1
          revert h2
          (repeat' split) <;> omega
        have e1 : rangT T kd f l v = T := by unfold rangT; rw [if_pos hR]
        have e2 : rangN T kd f l v = -2 := by unfold rangN; rw [if_pos hR]
        rw [← e2]; exact k _ (by rw [e1]; exact hM0) f0
    · refine r_bipush c_151_18 <| r_goto c_151_20 <| r_istore_6_5 c_151_24 rfl <| r_iload_n c_151_26 rfl <| r_iconst c_151_27 <| r_iconst c_151_28 <| r_cS3 c_151_29 (Nat.le_of_ble_eq_true rfl) <| ?_
      refine ct_in _ _ _ (fun h29 => ?_) (fun h29 => ?_)
      · refine r_if_eq c_151_32 (fun h => absurd h (by decide)) <| (fun _ => ?_)
        refine r_iload c_151_35 rfl <| r_iconst c_151_37 <| r_iload c_151_38 rfl <| r_cS3 c_151_40 (Nat.le_of_ble_eq_true rfl) <| ?_
        refine ct_in _ _ _ (fun h40 => ?_) (fun h40 => ?_)
        · refine r_if_eq c_151_43 (fun h => absurd h (by decide)) <| (fun _ => ?_)
          refine r_iload_n c_151_46 rfl <| r_iconst c_151_47 <| r_ldc c_151_48 <| r_cS3 c_151_50 (Nat.le_of_ble_eq_true rfl) <| ?_
          refine ct_in _ _ _ (fun h50 => ?_) (fun h50 => ?_)
          · refine r_if_eq c_151_53 (fun h => absurd h (by decide)) <| (fun _ => ?_)
            refine r_iload_n c_151_56 rfl <| r_iconst c_151_57 <| r_ldc c_151_58 <| r_cS3 c_151_60 (Nat.le_of_ble_eq_true rfl) <| ?_
            refine ct_in _ _ _ (fun h60 => ?_) (fun h60 => ?_)
            · refine r_if_eq c_151_63 (fun h => absurd h (by decide)) <| (fun _ => ?_)
              refine r_iload_n c_151_66 rfl <| r_iload_n c_151_67 rfl <| r_icmp_le c_151_68 (fun h68 => ?_) <| (fun h68 => ?_)
              · refine r_aload_n c_151_74 rfl <| r_getf_i c_151_75 rfl rfl <| r_sipush c_151_78 <| r_icmp_ne c_151_81 (fun h81 => ?_) <| (fun h81 => ?_)
                · refine r_aload_n c_151_87 rfl <| r_getf_a c_151_88 rfl rfl <| r_aload_n c_151_91 rfl <| r_getf_i c_151_92 rfl rfl <| r_iload_n c_151_95 rfl <| r_iast c_151_96 rfl (jn := nG T) e5 (by omega) <| r_aload_n c_151_97 rfl <| r_getf_a c_151_98 rfl rfl <| r_aload_n c_151_101 rfl <| r_getf_i c_151_102 rfl rfl <| ?_
                  refine r_iload_n c_151_105 rfl <| r_iast c_151_106 rfl (jn := nG T) ((congrFun (sto_ne (by decide)) 19).trans e5) (by omega) <| r_aload_n c_151_107 rfl <| r_getf_a c_151_108 rfl rfl <| r_aload_n c_151_111 rfl <| r_getf_i c_151_112 rfl rfl <| r_iload_n c_151_115 rfl <| r_iast c_151_116 rfl (jn := nG T) ((congrFun (sto_ne (by decide)) 19).trans ((congrFun (sto_ne (by decide)) 19).trans e5)) (by omega) <| r_aload_n c_151_117 rfl <| r_getf_a c_151_118 rfl rfl <| ?_
                  refine r_aload_n c_151_121 rfl <| r_getf_i c_151_122 rfl rfl <| r_iload c_151_125 rfl <| r_iast c_151_127 rfl (jn := nG T) ((congrFun (sto_ne (by decide)) 19).trans ((congrFun (sto_ne (by decide)) 19).trans ((congrFun (sto_ne (by decide)) 19).trans e5))) (by omega) <| r_aload_n c_151_128 rfl <| r_dup c_151_129 rfl <| r_getf_i c_151_130 rfl rfl <| r_iconst c_151_133 <| r_iadd c_151_134 (by rw [(congrFun (sto_ne (by decide)) 19).trans ((congrFun (sto_ne (by decide)) 19).trans ((congrFun (sto_ne (by decide)) 19).trans ((congrFun (sto_ne (by decide)) 19).trans e5)))]; omega) <| r_putf c_151_135 rfl rfl <| ?_
                  refine r_iconst c_151_138 <| r_iret c_151_139 <| ?_
                  have hR : rangR kd f l v := ⟨by omega, by unfold hiK; (repeat' split) <;> omega, by unfold isSp; omega⟩
                  have e1 : rangT T kd f l v = rangS T kd f l v := by unfold rangT; rw [if_neg (not_not_intro hR), if_neg (by omega)]
                  have e2 : rangN T kd f l v = 1 := by unfold rangN; rw [if_neg (not_not_intro hR), if_neg (by omega)]
                  rw [(congrFun (sto_ne (by decide)) 19).trans ((congrFun (sto_ne (by decide)) 19).trans ((congrFun (sto_ne (by decide)) 19).trans ((congrFun (sto_ne (by decide)) 19).trans e5)))]
                  refine q_val (k _ ?_ ?_) e2.symm
                  · rw [e1]; exact mt_rang hM0 kd f l v
                  · exact ((((f0.stA (by decide) (by decide)).stA (by decide) (by decide)).stA (by decide) (by decide)).stA (by decide) (by decide)).stF (by decide)
                · refine r_bipush c_151_84 <| r_iret c_151_86 <| ?_
                  have hR : rangR kd f l v := ⟨by omega, by unfold hiK; (repeat' split) <;> omega, by unfold isSp; omega⟩
                  have e1 : rangT T kd f l v = T := by unfold rangT; rw [if_neg (not_not_intro hR), if_pos (by omega)]
                  have e2 : rangN T kd f l v = -4 := by unfold rangN; rw [if_neg (not_not_intro hR), if_pos (by omega)]
                  rw [← e2]; exact k _ (by rw [e1]; exact hM0) f0
              · refine r_bipush c_151_71 <| r_iret c_151_73 <| ?_
                have hR : ¬ rangR kd f l v := fun q => by
                  have h2 := q.2.1
                  have h3 := q.2.2
                  unfold hiK at h2
                  unfold isSp at h3
                  have h1 := q.1
                  revert h2
                  (repeat' split) <;> omega
                have e1 : rangT T kd f l v = T := by unfold rangT; rw [if_pos hR]
                have e2 : rangN T kd f l v = -2 := by unfold rangN; rw [if_pos hR]
                rw [← e2]; exact k _ (by rw [e1]; exact hM0) f0
            · refine r_if_eq c_151_63 (fun _ => ?_) <| (fun h => absurd h (by decide))
              refine r_bipush c_151_71 <| r_iret c_151_73 <| ?_
              have hR : ¬ rangR kd f l v := fun q => by
                have h2 := q.2.1
                have h3 := q.2.2
                unfold hiK at h2
                unfold isSp at h3
                have h1 := q.1
                revert h2
                (repeat' split) <;> omega
              have e1 : rangT T kd f l v = T := by unfold rangT; rw [if_pos hR]
              have e2 : rangN T kd f l v = -2 := by unfold rangN; rw [if_pos hR]
              rw [← e2]; exact k _ (by rw [e1]; exact hM0) f0
          · refine r_if_eq c_151_53 (fun _ => ?_) <| (fun h => absurd h (by decide))
            refine r_bipush c_151_71 <| r_iret c_151_73 <| ?_
            have hR : ¬ rangR kd f l v := fun q => by
              have h2 := q.2.1
              have h3 := q.2.2
              unfold hiK at h2
              unfold isSp at h3
              have h1 := q.1
              revert h2
              (repeat' split) <;> omega
            have e1 : rangT T kd f l v = T := by unfold rangT; rw [if_pos hR]
            have e2 : rangN T kd f l v = -2 := by unfold rangN; rw [if_pos hR]
            rw [← e2]; exact k _ (by rw [e1]; exact hM0) f0
        · refine r_if_eq c_151_43 (fun _ => ?_) <| (fun h => absurd h (by decide))
          refine r_bipush c_151_71 <| r_iret c_151_73 <| ?_
          have hR : ¬ rangR kd f l v := fun q => by
            have h2 := q.2.1
            have h3 := q.2.2
            unfold hiK at h2
            unfold isSp at h3
            have h1 := q.1
            revert h2
            (repeat' split) <;> omega
          have e1 : rangT T kd f l v = T := by unfold rangT; rw [if_pos hR]
          have e2 : rangN T kd f l v = -2 := by unfold rangN; rw [if_pos hR]
          rw [← e2]; exact k _ (by rw [e1]; exact hM0) f0
      · refine r_if_eq c_151_32 (fun _ => ?_) <| (fun h => absurd h (by decide))
        refine r_bipush c_151_71 <| r_iret c_151_73 <| ?_
        have hR : ¬ rangR kd f l v := fun q => by
          have h2 := q.2.1
          have h3 := q.2.2
          unfold hiK at h2
          unfold isSp at h3
          have h1 := q.1
          revert h2
          (repeat' split) <;> omega
        have e1 : rangT T kd f l v = T := by unfold rangT; rw [if_pos hR]
        have e2 : rangN T kd f l v = -2 := by unfold rangN; rw [if_pos hR]
        rw [← e2]; exact k _ (by rw [e1]; exact hM0) f0
  · refine r_iconst c_151_9 <| r_goto c_151_10 <| r_istore_6_5 c_151_24 rfl <| r_iload_n c_151_26 rfl <| r_iconst c_151_27 <| r_iconst c_151_28 <| r_cS3 c_151_29 (Nat.le_of_ble_eq_true rfl) <| ?_
    refine ct_in _ _ _ (fun h29 => ?_) (fun h29 => ?_)
    · refine r_if_eq c_151_32 (fun h => absurd h (by decide)) <| (fun _ => ?_)
      refine r_iload c_151_35 rfl <| r_iconst c_151_37 <| r_iload c_151_38 rfl <| r_cS3 c_151_40 (Nat.le_of_ble_eq_true rfl) <| ?_
      refine ct_in _ _ _ (fun h40 => ?_) (fun h40 => ?_)
      · refine r_if_eq c_151_43 (fun h => absurd h (by decide)) <| (fun _ => ?_)
        refine r_iload_n c_151_46 rfl <| r_iconst c_151_47 <| r_ldc c_151_48 <| r_cS3 c_151_50 (Nat.le_of_ble_eq_true rfl) <| ?_
        refine ct_in _ _ _ (fun h50 => ?_) (fun h50 => ?_)
        · refine r_if_eq c_151_53 (fun h => absurd h (by decide)) <| (fun _ => ?_)
          refine r_iload_n c_151_56 rfl <| r_iconst c_151_57 <| r_ldc c_151_58 <| r_cS3 c_151_60 (Nat.le_of_ble_eq_true rfl) <| ?_
          refine ct_in _ _ _ (fun h60 => ?_) (fun h60 => ?_)
          · refine r_if_eq c_151_63 (fun h => absurd h (by decide)) <| (fun _ => ?_)
            refine r_iload_n c_151_66 rfl <| r_iload_n c_151_67 rfl <| r_icmp_le c_151_68 (fun h68 => ?_) <| (fun h68 => ?_)
            · refine r_aload_n c_151_74 rfl <| r_getf_i c_151_75 rfl rfl <| r_sipush c_151_78 <| r_icmp_ne c_151_81 (fun h81 => ?_) <| (fun h81 => ?_)
              · refine r_aload_n c_151_87 rfl <| r_getf_a c_151_88 rfl rfl <| r_aload_n c_151_91 rfl <| r_getf_i c_151_92 rfl rfl <| r_iload_n c_151_95 rfl <| r_iast c_151_96 rfl (jn := nG T) e5 (by omega) <| r_aload_n c_151_97 rfl <| r_getf_a c_151_98 rfl rfl <| r_aload_n c_151_101 rfl <| r_getf_i c_151_102 rfl rfl <| ?_
                refine r_iload_n c_151_105 rfl <| r_iast c_151_106 rfl (jn := nG T) ((congrFun (sto_ne (by decide)) 19).trans e5) (by omega) <| r_aload_n c_151_107 rfl <| r_getf_a c_151_108 rfl rfl <| r_aload_n c_151_111 rfl <| r_getf_i c_151_112 rfl rfl <| r_iload_n c_151_115 rfl <| r_iast c_151_116 rfl (jn := nG T) ((congrFun (sto_ne (by decide)) 19).trans ((congrFun (sto_ne (by decide)) 19).trans e5)) (by omega) <| r_aload_n c_151_117 rfl <| r_getf_a c_151_118 rfl rfl <| ?_
                refine r_aload_n c_151_121 rfl <| r_getf_i c_151_122 rfl rfl <| r_iload c_151_125 rfl <| r_iast c_151_127 rfl (jn := nG T) ((congrFun (sto_ne (by decide)) 19).trans ((congrFun (sto_ne (by decide)) 19).trans ((congrFun (sto_ne (by decide)) 19).trans e5))) (by omega) <| r_aload_n c_151_128 rfl <| r_dup c_151_129 rfl <| r_getf_i c_151_130 rfl rfl <| r_iconst c_151_133 <| r_iadd c_151_134 (by rw [(congrFun (sto_ne (by decide)) 19).trans ((congrFun (sto_ne (by decide)) 19).trans ((congrFun (sto_ne (by decide)) 19).trans ((congrFun (sto_ne (by decide)) 19).trans e5)))]; omega) <| r_putf c_151_135 rfl rfl <| ?_
                refine r_iconst c_151_138 <| r_iret c_151_139 <| ?_
                have hR : rangR kd f l v := ⟨by omega, by unfold hiK; (repeat' split) <;> omega, by unfold isSp; omega⟩
                have e1 : rangT T kd f l v = rangS T kd f l v := by unfold rangT; rw [if_neg (not_not_intro hR), if_neg (by omega)]
                have e2 : rangN T kd f l v = 1 := by unfold rangN; rw [if_neg (not_not_intro hR), if_neg (by omega)]
                rw [(congrFun (sto_ne (by decide)) 19).trans ((congrFun (sto_ne (by decide)) 19).trans ((congrFun (sto_ne (by decide)) 19).trans ((congrFun (sto_ne (by decide)) 19).trans e5)))]
                refine q_val (k _ ?_ ?_) e2.symm
                · rw [e1]; exact mt_rang hM0 kd f l v
                · exact ((((f0.stA (by decide) (by decide)).stA (by decide) (by decide)).stA (by decide) (by decide)).stA (by decide) (by decide)).stF (by decide)
              · refine r_bipush c_151_84 <| r_iret c_151_86 <| ?_
                have hR : rangR kd f l v := ⟨by omega, by unfold hiK; (repeat' split) <;> omega, by unfold isSp; omega⟩
                have e1 : rangT T kd f l v = T := by unfold rangT; rw [if_neg (not_not_intro hR), if_pos (by omega)]
                have e2 : rangN T kd f l v = -4 := by unfold rangN; rw [if_neg (not_not_intro hR), if_pos (by omega)]
                rw [← e2]; exact k _ (by rw [e1]; exact hM0) f0
            · refine r_bipush c_151_71 <| r_iret c_151_73 <| ?_
              have hR : ¬ rangR kd f l v := fun q => by
                have h2 := q.2.1
                have h3 := q.2.2
                unfold hiK at h2
                unfold isSp at h3
                have h1 := q.1
                revert h2
                (repeat' split) <;> omega
              have e1 : rangT T kd f l v = T := by unfold rangT; rw [if_pos hR]
              have e2 : rangN T kd f l v = -2 := by unfold rangN; rw [if_pos hR]
              rw [← e2]; exact k _ (by rw [e1]; exact hM0) f0
          · refine r_if_eq c_151_63 (fun _ => ?_) <| (fun h => absurd h (by decide))
            refine r_bipush c_151_71 <| r_iret c_151_73 <| ?_
            have hR : ¬ rangR kd f l v := fun q => by
              have h2 := q.2.1
              have h3 := q.2.2
              unfold hiK at h2
              unfold isSp at h3
              have h1 := q.1
              revert h2
              (repeat' split) <;> omega
            have e1 : rangT T kd f l v = T := by unfold rangT; rw [if_pos hR]
            have e2 : rangN T kd f l v = -2 := by unfold rangN; rw [if_pos hR]
            rw [← e2]; exact k _ (by rw [e1]; exact hM0) f0
        · refine r_if_eq c_151_53 (fun _ => ?_) <| (fun h => absurd h (by decide))
          refine r_bipush c_151_71 <| r_iret c_151_73 <| ?_
          have hR : ¬ rangR kd f l v := fun q => by
            have h2 := q.2.1
            have h3 := q.2.2
            unfold hiK at h2
            unfold isSp at h3
            have h1 := q.1
            revert h2
            (repeat' split) <;> omega
          have e1 : rangT T kd f l v = T := by unfold rangT; rw [if_pos hR]
          have e2 : rangN T kd f l v = -2 := by unfold rangN; rw [if_pos hR]
          rw [← e2]; exact k _ (by rw [e1]; exact hM0) f0
      · refine r_if_eq c_151_43 (fun _ => ?_) <| (fun h => absurd h (by decide))
        refine r_bipush c_151_71 <| r_iret c_151_73 <| ?_
        have hR : ¬ rangR kd f l v := fun q => by
          have h2 := q.2.1
          have h3 := q.2.2
          unfold hiK at h2
          unfold isSp at h3
          have h1 := q.1
          revert h2
          (repeat' split) <;> omega
        have e1 : rangT T kd f l v = T := by unfold rangT; rw [if_pos hR]
        have e2 : rangN T kd f l v = -2 := by unfold rangN; rw [if_pos hR]
        rw [← e2]; exact k _ (by rw [e1]; exact hM0) f0
    · refine r_if_eq c_151_32 (fun _ => ?_) <| (fun h => absurd h (by decide))
      refine r_bipush c_151_71 <| r_iret c_151_73 <| ?_
      have hR : ¬ rangR kd f l v := fun q => by
        have h2 := q.2.1
        have h3 := q.2.2
        unfold hiK at h2
        unfold isSp at h3
        have h1 := q.1
        revert h2
        (repeat' split) <;> omega
      have e1 : rangT T kd f l v = T := by unfold rangT; rw [if_pos hR]
      have e2 : rangN T kd f l v = -2 := by unfold rangN; rw [if_pos hR]
      rw [← e2]; exact k _ (by rw [e1]; exact hM0) f0
theorem ct_mabout (hM : MT σ T) (hO : TOK T) (p w : Int) (k : ∀ σ', mf [] [0] σ σ' → Q (some (vI (abouN T p w))) (hp L σ')) : mm_call 152 [vP 55, vI p, vI w] (hp L σ) Q := by
  have k := k _ ((mf.rf (A := []) (F := [0]) (σ := σ)).stF (k := 0) (z := 0) (by decide))
  have hM0 := hM.c0
  refine ⟨Nat.le_of_ble_eq_true rfl, ?_⟩
  show mm_X 152 0 [vP 55, vI p, vI w] [] _ _
  refine r_aload_n c_152_0 rfl <| r_iconst c_152_1 <| r_putf c_152_2 rfl rfl <| r_iload_n c_152_5 rfl <| r_cS1 c_152_6 (Nat.le_of_ble_eq_true rfl) <| ?_
  refine ct_mPoint _ (fun h6 => ?_) (fun h6 => ?_)
  · refine r_if_ne c_152_9 (fun _ => ?_) <| (fun h => absurd h (by decide))
    refine r_iload_n c_152_14 rfl <| r_tsw c_152_15 (by decide) (fun h15 => ?_) <| (fun i15 o15 ho15 h15 => ?_)
    · refine r_bipush c_152_81 <| r_iret c_152_83 <| ?_
      exact q_val k (by unfold abouN; (repeat' split) <;> omega)
    · match i15, ho15, h15 with
      | 0, ho15, h15 =>
        obtain rfl : 33 = o15 := Option.some.inj ho15
        refine r_aload_n c_152_48 rfl <| r_iload_n c_152_49 rfl <| r_cV1 c_152_50 rfl (Nat.le_of_ble_eq_true rfl) <| ?_
        refine ct_mstatus hM0 hO p ?_
        refine r_iret c_152_53 <| ?_
        exact q_val k (by unfold abouN; (repeat' split) <;> omega)
      | 1, ho15, h15 =>
        obtain rfl : 39 = o15 := Option.some.inj ho15
        refine r_aload_n c_152_54 rfl <| r_iload_n c_152_55 rfl <| r_cV1 c_152_56 rfl (Nat.le_of_ble_eq_true rfl) <| ?_
        refine ct_mrankOf hM0 hO p ?_
        refine r_iret c_152_59 <| ?_
        exact q_val k (by unfold abouN; (repeat' split) <;> omega)
      | 2, ho15, h15 =>
        obtain rfl : 45 = o15 := Option.some.inj ho15
        refine r_aload_n c_152_60 rfl <| r_iconst c_152_61 <| r_iload_n c_152_62 rfl <| r_cV2 c_152_63 rfl (Nat.le_of_ble_eq_true rfl) <| ?_
        refine ct_mrange hM0 hO 0 p ?_
        refine r_iret c_152_66 <| ?_
        exact q_val k (by unfold abouN; (repeat' split) <;> omega)
      | 3, ho15, h15 =>
        obtain rfl : 52 = o15 := Option.some.inj ho15
        refine r_aload_n c_152_67 rfl <| r_iconst c_152_68 <| r_iload_n c_152_69 rfl <| r_cV2 c_152_70 rfl (Nat.le_of_ble_eq_true rfl) <| ?_
        refine ct_mrange hM0 hO 1 p ?_
        refine r_iret c_152_73 <| ?_
        exact q_val k (by unfold abouN; (repeat' split) <;> omega)
      | 4, ho15, h15 =>
        obtain rfl : 59 = o15 := Option.some.inj ho15
        refine r_aload_n c_152_74 rfl <| r_iconst c_152_75 <| r_iload_n c_152_76 rfl <| r_cV2 c_152_77 rfl (Nat.le_of_ble_eq_true rfl) <| ?_
        refine ct_mrange hM0 hO 2 p ?_
        refine r_iret c_152_80 <| ?_
        exact q_val k (by unfold abouN; (repeat' split) <;> omega)
      | _ + 5, ho15, h15 => exact absurd ho15 (by simp)
  · refine r_if_ne c_152_9 (fun h => absurd h (by decide)) <| (fun _ => ?_)
    refine r_iconst c_152_12 <| r_iret c_152_13 <| ?_
    exact q_val k (by unfold abouN; (repeat' split) <;> omega)
end MTABS3
