/-! WHAT IS TOLD: the reference's methods. -/
section MTABS
variable {L : Nat} {σ T : mk_S} {Q : Option mm_V → mm_H → Prop}
theorem MT.c0 (hM : MT σ T) : MT (sto σ 55 0 0) T := hM.mf (mf.stF (A := []) (F := [0]) mf.rf (by decide)) (fun a h => absurd h List.not_mem_nil) (by decide)
theorem ct_mtold (hM : MT σ T) (hn : nS T < 200) (hO : TOK T) (f l v : Int) (k : ∀ σ', σ' = toldM σ (nS T) f l v → Q none (hp L σ')) : mm_call 143 [vP 55, vI f, vI l, vI v] (hp L σ) Q := by
  have e5 : σ 55 5 = (nS T : Int) := hM.1.1.trans hO.1.1.1
  refine ⟨Nat.le_of_ble_eq_true rfl, ?_⟩
  show mm_X 143 0 [vP 55, vI f, vI l, vI v] [] _ _
  refine r_aload_n c_143_0 rfl <| r_getf_a c_143_1 rfl rfl <| r_aload_n c_143_4 rfl <| r_getf_i c_143_5 rfl rfl <| r_iload_n c_143_8 rfl <| r_iast c_143_9 rfl (jn := nS T) e5 (by omega) <| r_aload_n c_143_10 rfl <| r_getf_a c_143_11 rfl rfl <| r_aload_n c_143_14 rfl <| r_getf_i c_143_15 rfl rfl <| ?_
  refine r_iload_n c_143_18 rfl <| r_iast c_143_19 rfl (jn := nS T) (by simp [sto, e5]) (by omega) <| r_aload_n c_143_20 rfl <| r_getf_a c_143_21 rfl rfl <| r_aload_n c_143_24 rfl <| r_getf_i c_143_25 rfl rfl <| r_iload_n c_143_28 rfl <| r_iast c_143_29 rfl (jn := nS T) (by simp [sto, e5]) (by omega) <| r_aload_n c_143_30 rfl <| r_getf_a c_143_31 rfl rfl <| ?_
  refine r_aload_n c_143_34 rfl <| r_getf_i c_143_35 rfl rfl <| r_iconst c_143_38 <| r_iast c_143_39 rfl (jn := nS T) (by simp [sto, e5]) (by omega) <| r_aload_n c_143_40 rfl <| r_dup c_143_41 rfl <| r_getf_i c_143_42 rfl rfl <| r_iconst c_143_45 <| r_iadd c_143_46 (by simp only [sto]; simp [e5]; omega) <| r_putf c_143_47 rfl rfl <| ?_
  refine r_ret c_143_50 <| ?_
  exact k _ (by unfold toldM; congr 1; simp [sto, e5])
theorem ct_mstat (hM : MT σ T) (hO : TOK T) (f l s : Int) (k : ∀ σ', MT σ' (statT T f l s) → mf [58, 59, 60, 61, 62] [0, 5] σ σ' → Q (some (vI (statN T f l s))) (hp L σ')) : mm_call 142 [vP 55, vI f, vI l, vI s] (hp L σ) Q := by
  have f0 : mf [58, 59, 60, 61, 62] [0, 5] σ (sto σ 55 0 0) := mf.rf.stF (by decide)
  have hM0 := hM.c0
  have e5 : sto σ 55 0 0 55 5 = (nS T : Int) := hM0.1.1.trans hO.1.1.1
  have hn := hO.1.1.2
  refine ⟨Nat.le_of_ble_eq_true rfl, ?_⟩
  show mm_X 142 0 [vP 55, vI f, vI l, vI s] [] _ _
  refine r_aload_n c_142_0 rfl <| r_iconst c_142_1 <| r_putf c_142_2 rfl rfl <| r_iload_n c_142_5 rfl <| r_iconst c_142_6 <| r_ldc c_142_7 <| r_cS3 c_142_9 (Nat.le_of_ble_eq_true rfl) <| ?_
  refine ct_in _ _ _ (fun h9 => ?_) (fun h9 => ?_)
  · refine r_if_eq c_142_12 (fun h => absurd h (by decide)) <| (fun _ => ?_)
    refine r_iload_n c_142_15 rfl <| r_iconst c_142_16 <| r_ldc c_142_17 <| r_cS3 c_142_19 (Nat.le_of_ble_eq_true rfl) <| ?_
    refine ct_in _ _ _ (fun h19 => ?_) (fun h19 => ?_)
    · refine r_if_eq c_142_22 (fun h => absurd h (by decide)) <| (fun _ => ?_)
      refine r_iload_n c_142_25 rfl <| r_iload_n c_142_26 rfl <| r_icmp_gt c_142_27 (fun h27 => ?_) <| (fun h27 => ?_)
      · refine r_bipush c_142_44 <| r_iret c_142_46 <| ?_
        have e1 : statT T f l s = T := by unfold statT; rw [if_pos (by unfold isSp; omega)]
        have e2 : statN T f l s = -2 := by unfold statN; rw [if_pos (by unfold isSp; omega)]
        rw [← e2]; exact k _ (by rw [e1]; exact hM0) f0
      · refine r_iload_n c_142_30 rfl <| r_if_eq c_142_31 (fun h31 => ?_) <| (fun h31 => ?_)
        · refine r_aload_n c_142_47 rfl <| r_getf_i c_142_48 rfl rfl <| r_sipush c_142_51 <| r_icmp_ne c_142_54 (fun h54 => ?_) <| (fun h54 => ?_)
          · refine r_aload_n c_142_60 rfl <| r_iload_n c_142_61 rfl <| r_iload_n c_142_62 rfl <| r_iload_n c_142_63 rfl <| r_cV3 c_142_64 rfl (Nat.le_of_ble_eq_true rfl) <| ?_
            refine ct_mtold hM0 (by omega) hO f l s (fun σ1 hσ => ?_)
            refine r_iconst c_142_67 <| r_iret c_142_68 <| ?_
            have e1 : statT T f l s = keepS T f l s := by unfold statT; rw [if_neg (by unfold isSp; omega), if_neg (by omega)]
            have e2 : statN T f l s = 1 := by unfold statN; rw [if_neg (by unfold isSp; omega), if_neg (by omega)]
            rw [← e2]; exact k _ (by rw [e1, hσ]; exact mt_stat hM0 f l s (by omega)) (f0.tr (by rw [hσ]; exact mf_told))
          · refine r_bipush c_142_57 <| r_iret c_142_59 <| ?_
            have e1 : statT T f l s = T := by unfold statT; rw [if_neg (by unfold isSp; omega), if_pos (by omega)]
            have e2 : statN T f l s = -4 := by unfold statN; rw [if_neg (by unfold isSp; omega), if_pos (by omega)]
            rw [← e2]; exact k _ (by rw [e1]; exact hM0) f0
        · refine r_iload_n c_142_34 rfl <| r_iconst c_142_35 <| r_icmp_eq c_142_36 (fun h36 => ?_) <| (fun h36 => ?_)
          · refine r_aload_n c_142_47 rfl <| r_getf_i c_142_48 rfl rfl <| r_sipush c_142_51 <| r_icmp_ne c_142_54 (fun h54 => ?_) <| (fun h54 => ?_)
            · refine r_aload_n c_142_60 rfl <| r_iload_n c_142_61 rfl <| r_iload_n c_142_62 rfl <| r_iload_n c_142_63 rfl <| r_cV3 c_142_64 rfl (Nat.le_of_ble_eq_true rfl) <| ?_
              refine ct_mtold hM0 (by omega) hO f l s (fun σ1 hσ => ?_)
              refine r_iconst c_142_67 <| r_iret c_142_68 <| ?_
              have e1 : statT T f l s = keepS T f l s := by unfold statT; rw [if_neg (by unfold isSp; omega), if_neg (by omega)]
              have e2 : statN T f l s = 1 := by unfold statN; rw [if_neg (by unfold isSp; omega), if_neg (by omega)]
              rw [← e2]; exact k _ (by rw [e1, hσ]; exact mt_stat hM0 f l s (by omega)) (f0.tr (by rw [hσ]; exact mf_told))
            · refine r_bipush c_142_57 <| r_iret c_142_59 <| ?_
              have e1 : statT T f l s = T := by unfold statT; rw [if_neg (by unfold isSp; omega), if_pos (by omega)]
              have e2 : statN T f l s = -4 := by unfold statN; rw [if_neg (by unfold isSp; omega), if_pos (by omega)]
              rw [← e2]; exact k _ (by rw [e1]; exact hM0) f0
          · refine r_iload_n c_142_39 rfl <| r_iconst c_142_40 <| r_icmp_eq c_142_41 (fun h41 => ?_) <| (fun h41 => ?_)
            · refine r_aload_n c_142_47 rfl <| r_getf_i c_142_48 rfl rfl <| r_sipush c_142_51 <| r_icmp_ne c_142_54 (fun h54 => ?_) <| (fun h54 => ?_)
              · refine r_aload_n c_142_60 rfl <| r_iload_n c_142_61 rfl <| r_iload_n c_142_62 rfl <| r_iload_n c_142_63 rfl <| r_cV3 c_142_64 rfl (Nat.le_of_ble_eq_true rfl) <| ?_
                refine ct_mtold hM0 (by omega) hO f l s (fun σ1 hσ => ?_)
                refine r_iconst c_142_67 <| r_iret c_142_68 <| ?_
                have e1 : statT T f l s = keepS T f l s := by unfold statT; rw [if_neg (by unfold isSp; omega), if_neg (by omega)]
                have e2 : statN T f l s = 1 := by unfold statN; rw [if_neg (by unfold isSp; omega), if_neg (by omega)]
                rw [← e2]; exact k _ (by rw [e1, hσ]; exact mt_stat hM0 f l s (by omega)) (f0.tr (by rw [hσ]; exact mf_told))
              · refine r_bipush c_142_57 <| r_iret c_142_59 <| ?_
                have e1 : statT T f l s = T := by unfold statT; rw [if_neg (by unfold isSp; omega), if_pos (by omega)]
                have e2 : statN T f l s = -4 := by unfold statN; rw [if_neg (by unfold isSp; omega), if_pos (by omega)]
                rw [← e2]; exact k _ (by rw [e1]; exact hM0) f0
            · refine r_bipush c_142_44 <| r_iret c_142_46 <| ?_
              have e1 : statT T f l s = T := by unfold statT; rw [if_pos (by unfold isSp; omega)]
              have e2 : statN T f l s = -2 := by unfold statN; rw [if_pos (by unfold isSp; omega)]
              rw [← e2]; exact k _ (by rw [e1]; exact hM0) f0
    · refine r_if_eq c_142_22 (fun _ => ?_) <| (fun h => absurd h (by decide))
      refine r_bipush c_142_44 <| r_iret c_142_46 <| ?_
      have e1 : statT T f l s = T := by unfold statT; rw [if_pos (by unfold isSp; omega)]
      have e2 : statN T f l s = -2 := by unfold statN; rw [if_pos (by unfold isSp; omega)]
      rw [← e2]; exact k _ (by rw [e1]; exact hM0) f0
  · refine r_if_eq c_142_12 (fun _ => ?_) <| (fun h => absurd h (by decide))
    refine r_bipush c_142_44 <| r_iret c_142_46 <| ?_
    have e1 : statT T f l s = T := by unfold statT; rw [if_pos (by unfold isSp; omega)]
    have e2 : statN T f l s = -2 := by unfold statN; rw [if_pos (by unfold isSp; omega)]
    rw [← e2]; exact k _ (by rw [e1]; exact hM0) f0
theorem lp_mmap {w : List Int} {n : Nat} {p : Int} {σ0 : mk_S} (hn : n < 200) (h4 : w.length ≤ 4) : ∀ (k i : Nat) (σ1 : mk_S) (Q : Option mm_V → mm_H → Prop), w.length + 1 ≤ i + k → i ≤ w.length → σ1 55 5 = (n : Int) + 1 → mRow σ1 w → (∀ j, σ1 61 j = if 4 * n ≤ j ∧ j < 4 * n + i then w.getD (j - 4 * n) 0 else σ0 61 j) → (∀ b, b ≠ 61 → σ1 b = σ0 b) →
    (∀ σ', σ' 61 = mpF (σ0 61) n w → σ' 62 = mm_st (σ0 62) n w.length → (∀ b, b ≠ 61 → b ≠ 62 → σ' b = σ0 b) → Q (some (vI 1)) (hp L σ')) → mm_X 144 49 [vP 55, vI p, vI i] [] (hp L σ1) Q := by
  intro k
  induction k with
  | zero => intro i σ1 Q h1 h2; omega
  | succ k ih =>
    intro i σ1 Q hk hi e5 hw h61 hb kk
    have e4 := hw.1
    refine r_iload_n c_144_49 rfl <| r_aload_n c_144_50 rfl <| r_getf_i c_144_51 rfl rfl <| r_icmp_ge c_144_54 (fun h54 => ?_) <| (fun h54 => ?_)
    · refine r_aload_n c_144_84 rfl <| r_getf_a c_144_85 rfl rfl <| r_aload_n c_144_88 rfl <| r_getf_i c_144_89 rfl rfl <| r_iconst c_144_92 <| r_isub c_144_93 (by omega) <| r_aload_n c_144_94 rfl <| r_getf_i c_144_95 rfl rfl <| r_iast c_144_98 rfl (jn := n) (by omega) (by omega) <| r_iconst c_144_99 <| ?_
      refine r_iret c_144_100 <| ?_
      have hi9 : i = w.length := by omega
      subst hi9
      refine kk _ ?_ ?_ (fun b g1 g2 => by rw [sto_ne g2]; exact hb b g1)
      · rw [sto_ne (by decide)]; funext j; exact h61 j
      · rw [sto_at, hb 62 (by decide), e4]
    · refine r_aload_n c_144_57 rfl <| r_getf_a c_144_58 rfl rfl <| r_iconst c_144_61 <| r_aload_n c_144_62 rfl <| r_getf_i c_144_63 rfl rfl <| r_iconst c_144_66 <| r_isub c_144_67 (by omega) <| r_imul c_144_68 (by omega) <| r_iload_n c_144_69 rfl <| r_iadd c_144_70 (by omega) <| ?_
      refine r_aload_n c_144_71 rfl <| r_getf_a c_144_72 rfl rfl <| r_iload_n c_144_75 rfl <| r_iald c_144_76 rfl (Or.inl rfl) rfl (by omega) <| r_iast c_144_77 rfl (jn := 4 * n + i) (by omega) (by omega) <| r_iinc_3_2 c_144_78 rfl (by omega) <| r_goto c_144_81 <| ?_
      refine ih (i + 1) _ Q (by omega) (by omega) ((congrFun (sto_ne (by decide)) 5).trans e5) (hw.eq (congrFun (sto_ne (by decide)) 4) (sto_ne (by decide))) (fun j => ?_) (fun b hbn => by rw [sto_ne hbn]; exact hb b hbn) kk
      rw [sto_at]
      by_cases e : j = 4 * n + i
      · subst e; rw [st_at, if_pos (by omega), hw.2.2 i (by omega)]; congr 1; omega
      · rw [st_ne e, h61]
        by_cases g : 4 * n ≤ j ∧ j < 4 * n + i
        · rw [if_pos g, if_pos (by omega)]
        · rw [if_neg g, if_neg (by omega)]
theorem ct_mmap {w : List Int} (hM : MT σ T) (hO : TOK T) (hw : mRow σ w) (p : Int) (k : ∀ σ', MT σ' (mapT T p w) → mf [58, 59, 60, 61, 62] [0, 5] σ σ' → Q (some (vI (mapN T p w))) (hp L σ')) : mm_call 144 [vP 55, vI p] (hp L σ) Q := by
  have f0 : mf [58, 59, 60, 61, 62] [0, 5] σ (sto σ 55 0 0) := mf.rf.stF (by decide)
  have hM0 := hM.c0
  have e5 : sto σ 55 0 0 55 5 = (nS T : Int) := hM0.1.1.trans hO.1.1.1
  have hn := hO.1.1.2
  have hw0 : mRow (sto σ 55 0 0) w := hw.mf f0 (by decide) (by decide)
  have e4 := hw0.1
  refine ⟨Nat.le_of_ble_eq_true rfl, ?_⟩
  show mm_X 144 0 [vP 55, vI p, mm_null] [] _ _
  refine r_aload_n c_144_0 rfl <| r_iconst c_144_1 <| r_putf c_144_2 rfl rfl <| r_iload_n c_144_5 rfl <| r_cS1 c_144_6 (Nat.le_of_ble_eq_true rfl) <| ?_
  refine ct_mPoint _ (fun h6 => ?_) (fun h6 => ?_)
  · refine r_if_eq c_144_9 (fun h => absurd h (by decide)) <| (fun _ => ?_)
    refine r_aload_n c_144_12 rfl <| r_getf_i c_144_13 rfl rfl <| r_iconst c_144_16 <| r_iconst c_144_17 <| r_cS3 c_144_18 (Nat.le_of_ble_eq_true rfl) <| ?_
    refine ct_in _ _ _ (fun h18 => ?_) (fun h18 => ?_)
    · refine r_if_ne c_144_21 (fun _ => ?_) <| (fun h => absurd h (by decide))
      refine r_aload_n c_144_27 rfl <| r_getf_i c_144_28 rfl rfl <| r_sipush c_144_31 <| r_icmp_ne c_144_34 (fun h34 => ?_) <| (fun h34 => ?_)
      · refine r_aload_n c_144_40 rfl <| r_iload_n c_144_41 rfl <| r_iload_n c_144_42 rfl <| r_iconst c_144_43 <| r_cV3 c_144_44 rfl (Nat.le_of_ble_eq_true rfl) <| ?_
        refine ct_mtold hM0 (by omega) hO p p 2 (fun σ1 hσ => ?_)
        refine r_iconst c_144_47 <| r_istore_n_3_2 c_144_48 rfl <| ?_
        have e1 : mapT T p w = sta (sto (keepS T p p 2) 15 (nS T) w.length) 16 (mpF (T 16) (nS T) w) := by unfold mapT; rw [if_neg (by omega), if_neg (by omega)]
        have e2 : mapN T p w = 1 := by unfold mapN; rw [if_neg (by omega), if_neg (by omega)]
        have f1 : mf [58, 59, 60, 61, 62] [0, 5] (sto σ 55 0 0) σ1 := by rw [hσ]; exact mf_told
        refine lp_mmap (σ0 := σ1) (n := nS T) (by omega) (by omega) (w.length + 1) 0 σ1 Q (by omega) (by omega) (by rw [hσ]; unfold toldM; rw [sto_get]) (hw0.mf f1 (by decide) (by decide)) (fun j => by rw [if_neg (by omega)]) (fun _ _ => rfl) (fun σ' h61 h62 hb => ?_)
        refine q_val (k σ' ?_ ?_) e2.symm
        · rw [e1]
          refine mt_map hM0 p (by omega) (by rw [h61, hσ]; congr 1) (by rw [h62, hσ]; congr 1) (fun b g1 g2 => by rw [hb b g1 g2, hσ]) hO.2.1
        · refine f0.tr (f1.tr ⟨fun a g1 g2 => hb a (fun e => g2 (by rw [e]; decide)) (fun e => g2 (by rw [e]; decide)), fun j hj => congrFun (hb 55 (by decide) (by decide)) j⟩)
      · refine r_bipush c_144_37 <| r_iret c_144_39 <| ?_
        have e1 : mapT T p w = T := by unfold mapT; rw [if_neg (by omega), if_pos (by omega)]
        have e2 : mapN T p w = -4 := by unfold mapN; rw [if_neg (by omega), if_pos (by omega)]
        rw [← e2]; exact k _ (by rw [e1]; exact hM0) f0
    · refine r_if_ne c_144_21 (fun h => absurd h (by decide)) <| (fun _ => ?_)
      refine r_bipush c_144_24 <| r_iret c_144_26 <| ?_
      have e1 : mapT T p w = T := by unfold mapT; rw [if_pos (by omega)]
      have e2 : mapN T p w = -2 := by unfold mapN; rw [if_pos (by omega)]
      rw [← e2]; exact k _ (by rw [e1]; exact hM0) f0
  · refine r_if_eq c_144_9 (fun _ => ?_) <| (fun h => absurd h (by decide))
    refine r_bipush c_144_24 <| r_iret c_144_26 <| ?_
    have e1 : mapT T p w = T := by unfold mapT; rw [if_pos (by omega)]
    have e2 : mapN T p w = -2 := by unfold mapN; rw [if_pos (by omega)]
    rw [← e2]; exact k _ (by rw [e1]; exact hM0) f0
theorem mt_part {σ T : mk_S} (hM : MT σ T) (p a b x : Int) : MT (sto (sto (sto (sto (sto σ 63 (nP T) p) 64 (nP T) a) 65 (nP T) b) 66 (nP T) x) 55 11 ((nP T : Int) + 1)) (partS T p a b x) := by
  have e4 : partS T p a b x 17 4 = ((nP T + 1 : Nat) : Int) := by unfold partS; rw [sto_get]; omega
  have eP : nP (partS T p a b x) = nP T + 1 := (congrArg Int.toNat e4).trans (by omega)
  have eT : ∀ c, c < 17 ∨ 21 < c → partS T p a b x c = T c := fun c h => by unfold partS; rw [sto_ne (by omega), sto_ne (by omega), sto_ne (by omega), sto_ne (by omega), sto_ne (by omega)]
  obtain ⟨⟨n1, n2, n3, n4⟩, hs, hp, hr, hg⟩ := hM
  refine ⟨⟨?_, ?_, ?_, ?_⟩, ?_, ?_, ?_, ?_⟩
  · rw [eT 11 (by decide), sto_get2 (Or.inr (by decide))]; simpa [sto] using n1
  · rw [e4, sto_get]; omega
  · rw [eT 22 (by decide), sto_get2 (Or.inr (by decide))]; simpa [sto] using n3
  · rw [eT 25 (by decide), sto_get2 (Or.inr (by decide))]; simpa [sto] using n4
  · unfold MTs nS at *
    rw [eT 11 (by decide), eT 12 (by decide), eT 13 (by decide), eT 14 (by decide), eT 15 (by decide), eT 16 (by decide)]
    simpa [sto] using hs
  · intro i hi
    rw [eP] at hi
    have e18 : partS T p a b x 18 = mm_st (T 18) (nP T) p := by simp [partS, sto]
    have e19 : partS T p a b x 19 = mm_st (T 19) (nP T) a := by simp [partS, sto]
    have e20 : partS T p a b x 20 = mm_st (T 20) (nP T) b := by simp [partS, sto]
    have e21 : partS T p a b x 21 = mm_st (T 21) (nP T) x := by simp [partS, sto]
    rw [e18, e19, e20, e21]
    by_cases e : i = nP T
    · subst e; simp [sto, st_at]
    · have := hp i (by omega)
      simp only [sto]
      simpa [st_ne e] using this
  · unfold MTr nR at *
    rw [eT 22 (by decide), eT 23 (by decide), eT 24 (by decide)]
    simpa [sto] using hr
  · unfold MTg nG at *
    rw [eT 25 (by decide), eT 26 (by decide), eT 27 (by decide), eT 28 (by decide), eT 29 (by decide)]
    simpa [sto] using hg
theorem partD_iff {T : mk_S} {p a b x : Int} : partD T p a b x ↔ ∃ i, i < nP T ∧ (T 18 i = p ∨ (b ≠ 0 ∧ x = 0 ∧ T 19 i = a ∧ T 20 i = b ∧ T 21 i = 0)) := by
  constructor
  · rintro (h | ⟨h1, h2, h3⟩)
    · rcases ptI_cases T p with g | ⟨j, g1, g2, g3⟩
      · omega
      · exact ⟨j, g2, Or.inl g3⟩
    · rcases prI_cases T a b with g | ⟨j, g1, g2, g3⟩
      · omega
      · exact ⟨j, g2, Or.inr ⟨h1, h2, g3⟩⟩
  · rintro ⟨i, hi, h | ⟨h1, h2, h3, h4, h5⟩⟩
    · left
      unfold ptI
      rcases fsI_spec (fun i => decide (T 18 i = p)) (nP T - 0) 0 with ⟨-, g⟩ | ⟨j, g, -⟩
      · have := g i (Nat.zero_le _) (by omega); simp [h] at this
      · rw [g]; omega
    · right
      refine ⟨h1, h2, ?_⟩
      unfold prI
      rcases fsI_spec (fun i => decide (T 19 i = a ∧ T 20 i = b ∧ T 21 i = 0)) (nP T - 0) 0 with ⟨-, g⟩ | ⟨j, g, -⟩
      · have := g i (Nat.zero_le _) (by omega); simp [h3, h4, h5] at this
      · rw [g]; omega
theorem lp_mparts {p a b x : Int} (hM : MT σ T) (hO : TOK T) (hx : x = 0 ∨ x = 1) (hR : partR p a b) (kk : ∀ σ', MT σ' (partT T p a b x) → mf [63, 64, 65, 66] [0, 11] σ σ' → Q (some (vI (partN T p a b x))) (hp L σ')) : ∀ (k i : Nat) (a6 : mm_V), nP T + 1 ≤ i + k → i ≤ nP T → (∀ j, j < i → ¬ (T 18 j = p ∨ (b ≠ 0 ∧ x = 0 ∧ T 19 j = a ∧ T 20 j = b ∧ T 21 j = 0))) →
    mm_X 145 74 [vP 55, vI p, vI a, vI b, vI x, vI i, a6] [] (hp L σ) Q := by
  have e5 : σ 55 11 = (nP T : Int) := hM.1.2.1.trans hO.1.2.1.1
  have hn := hO.1.2.1.2
  intro k
  induction k with
  | zero => intro i a6 h1 h2; omega
  | succ k ih =>
    intro i a6 hk hi hno
    have hMi := fun (h : i < nP T) => hM.2.2.1 i h
    have Xn : i = nP T → ¬ partD T p a b x := fun e q => by
      obtain ⟨j, h1, h2⟩ := partD_iff.mp q
      exact hno j (by omega) h2
    refine r_iload c_145_74 rfl <| r_aload_n c_145_76 rfl <| r_getf_i c_145_77 rfl rfl <| r_icmp_ge c_145_80 (fun h80 => ?_) <| (fun h80 => ?_)
    · refine r_aload_n c_145_156 rfl <| r_getf_i c_145_157 rfl rfl <| r_bipush c_145_160 <| r_icmp_ne c_145_162 (fun h162 => ?_) <| (fun h162 => ?_)
      · refine r_aload_n c_145_168 rfl <| r_getf_a c_145_169 rfl rfl <| r_aload_n c_145_172 rfl <| r_getf_i c_145_173 rfl rfl <| r_iload_n c_145_176 rfl <| r_iast c_145_177 rfl (jn := nP T) e5 (by omega) <| r_aload_n c_145_178 rfl <| r_getf_a c_145_179 rfl rfl <| r_aload_n c_145_182 rfl <| r_getf_i c_145_183 rfl rfl <| ?_
        refine r_iload_n c_145_186 rfl <| r_iast c_145_187 rfl (jn := nP T) (by simp [sto, e5]) (by omega) <| r_aload_n c_145_188 rfl <| r_getf_a c_145_189 rfl rfl <| r_aload_n c_145_192 rfl <| r_getf_i c_145_193 rfl rfl <| r_iload_n c_145_196 rfl <| r_iast c_145_197 rfl (jn := nP T) (by simp [sto, e5]) (by omega) <| r_aload_n c_145_198 rfl <| r_getf_a c_145_199 rfl rfl <| ?_
        refine r_aload_n c_145_202 rfl <| r_getf_i c_145_203 rfl rfl <| r_iload c_145_206 rfl <| r_bast1 c_145_208 rfl (jn := nP T) (by simp [sto, e5]) (by omega) hx <| r_aload_n c_145_209 rfl <| r_dup c_145_210 rfl <| r_getf_i c_145_211 rfl rfl <| r_iconst c_145_214 <| r_iadd c_145_215 (by simp only [sto]; simp [e5]; omega) <| r_putf c_145_216 rfl rfl <| ?_
        refine r_aload_n c_145_219 rfl <| r_getf_i c_145_220 rfl rfl <| r_iret c_145_223 <| ?_
        have hD := Xn (by omega)
        have e1 : partT T p a b x = partS T p a b x := by unfold partT; rw [if_neg (not_not_intro hR), if_neg hD, if_neg (by omega)]
        have e2 : partN T p a b x = nP T + 1 := by unfold partN; rw [if_neg (not_not_intro hR), if_neg hD, if_neg (by omega)]
        have e9 : sto (sto (sto (sto σ 63 (nP T) p) 64 (nP T) a) 65 (nP T) b) 66 (nP T) x 55 11 + 1 = (nP T : Int) + 1 := by simp only [sto]; simp [e5]
        rw [sto_get, e9]
        refine q_val (kk _ ?_ ?_) e2.symm
        · rw [e1]; exact mt_part hM p a b x
        · exact ((((mf.rf.stA (by decide) (by decide)).stA (by decide) (by decide)).stA (by decide) (by decide)).stA (by decide) (by decide)).stF (by decide)
      · refine r_bipush c_145_165 <| r_iret c_145_167 <| ?_
        have hD := Xn (by omega)
        have e1 : partT T p a b x = T := by unfold partT; rw [if_neg (not_not_intro hR), if_neg hD, if_pos (by omega)]
        have e2 : partN T p a b x = -4 := by unfold partN; rw [if_neg (not_not_intro hR), if_neg hD, if_pos (by omega)]
        rw [← e2]; exact kk σ (by rw [e1]; exact hM) mf.rf
    · refine r_iload_n c_145_83 rfl <| r_if_eq c_145_84 (fun h84 => ?_) <| (fun h84 => ?_)
      · refine r_iconst c_145_128 <| r_istore_7_6 c_145_129 rfl <| r_aload_n c_145_131 rfl <| r_getf_a c_145_132 rfl rfl <| r_iload c_145_135 rfl <| r_iald c_145_137 rfl (Or.inl rfl) rfl (by omega) <| r_iload_n c_145_138 rfl <| r_icmp_eq c_145_139 (fun h139 => ?_) <| (fun h139 => ?_)
        · refine r_bipush c_145_147 <| r_iret c_145_149 <| ?_
          obtain ⟨g1, g2, g3, g4⟩ := hMi (by omega)
          have hD : partD T p a b x := partD_iff.mpr ⟨i, by omega, by omega⟩
          have e1 : partT T p a b x = T := by unfold partT; rw [if_neg (not_not_intro hR), if_pos hD]
          have e2 : partN T p a b x = -3 := by unfold partN; rw [if_neg (not_not_intro hR), if_pos hD]
          rw [← e2]; exact kk σ (by rw [e1]; exact hM) mf.rf
        · refine r_iload c_145_142 rfl <| r_if_eq c_145_144 (fun _ => ?_) <| (fun h => absurd h (by decide))
          refine r_iinc_7_5 c_145_150 rfl (by omega) <| r_goto c_145_153 <| ?_
          obtain ⟨g1, g2, g3, g4⟩ := hMi (by omega)
          refine ih (i + 1) _ (by omega) (by omega) (fun j hj => ?_)
          by_cases e : j = i
          · subst e; omega
          · exact hno j (by omega)
      · refine r_iload c_145_87 rfl <| r_if_ne c_145_89 (fun h89 => ?_) <| (fun h89 => ?_)
        · refine r_iconst c_145_128 <| r_istore_7_6 c_145_129 rfl <| r_aload_n c_145_131 rfl <| r_getf_a c_145_132 rfl rfl <| r_iload c_145_135 rfl <| r_iald c_145_137 rfl (Or.inl rfl) rfl (by omega) <| r_iload_n c_145_138 rfl <| r_icmp_eq c_145_139 (fun h139 => ?_) <| (fun h139 => ?_)
          · refine r_bipush c_145_147 <| r_iret c_145_149 <| ?_
            obtain ⟨g1, g2, g3, g4⟩ := hMi (by omega)
            have hD : partD T p a b x := partD_iff.mpr ⟨i, by omega, by omega⟩
            have e1 : partT T p a b x = T := by unfold partT; rw [if_neg (not_not_intro hR), if_pos hD]
            have e2 : partN T p a b x = -3 := by unfold partN; rw [if_neg (not_not_intro hR), if_pos hD]
            rw [← e2]; exact kk σ (by rw [e1]; exact hM) mf.rf
          · refine r_iload c_145_142 rfl <| r_if_eq c_145_144 (fun _ => ?_) <| (fun h => absurd h (by decide))
            refine r_iinc_7_5 c_145_150 rfl (by omega) <| r_goto c_145_153 <| ?_
            obtain ⟨g1, g2, g3, g4⟩ := hMi (by omega)
            refine ih (i + 1) _ (by omega) (by omega) (fun j hj => ?_)
            by_cases e : j = i
            · subst e; omega
            · exact hno j (by omega)
        · refine r_aload_n c_145_92 rfl <| r_getf_a c_145_93 rfl rfl <| r_iload c_145_96 rfl <| r_bald c_145_98 rfl (Or.inl rfl) rfl (by omega) <| r_if_ne c_145_99 (fun h99 => ?_) <| (fun h99 => ?_)
          · refine r_iconst c_145_128 <| r_istore_7_6 c_145_129 rfl <| r_aload_n c_145_131 rfl <| r_getf_a c_145_132 rfl rfl <| r_iload c_145_135 rfl <| r_iald c_145_137 rfl (Or.inl rfl) rfl (by omega) <| r_iload_n c_145_138 rfl <| r_icmp_eq c_145_139 (fun h139 => ?_) <| (fun h139 => ?_)
            · refine r_bipush c_145_147 <| r_iret c_145_149 <| ?_
              obtain ⟨g1, g2, g3, g4⟩ := hMi (by omega)
              have hD : partD T p a b x := partD_iff.mpr ⟨i, by omega, by omega⟩
              have e1 : partT T p a b x = T := by unfold partT; rw [if_neg (not_not_intro hR), if_pos hD]
              have e2 : partN T p a b x = -3 := by unfold partN; rw [if_neg (not_not_intro hR), if_pos hD]
              rw [← e2]; exact kk σ (by rw [e1]; exact hM) mf.rf
            · refine r_iload c_145_142 rfl <| r_if_eq c_145_144 (fun _ => ?_) <| (fun h => absurd h (by decide))
              refine r_iinc_7_5 c_145_150 rfl (by omega) <| r_goto c_145_153 <| ?_
              obtain ⟨g1, g2, g3, g4⟩ := hMi (by omega)
              refine ih (i + 1) _ (by omega) (by omega) (fun j hj => ?_)
              by_cases e : j = i
              · subst e; omega
              · exact hno j (by omega)
          · refine r_aload_n c_145_102 rfl <| r_getf_a c_145_103 rfl rfl <| r_iload c_145_106 rfl <| r_iald c_145_108 rfl (Or.inl rfl) rfl (by omega) <| r_iload_n c_145_109 rfl <| r_icmp_ne c_145_110 (fun h110 => ?_) <| (fun h110 => ?_)
            · refine r_iconst c_145_128 <| r_istore_7_6 c_145_129 rfl <| r_aload_n c_145_131 rfl <| r_getf_a c_145_132 rfl rfl <| r_iload c_145_135 rfl <| r_iald c_145_137 rfl (Or.inl rfl) rfl (by omega) <| r_iload_n c_145_138 rfl <| r_icmp_eq c_145_139 (fun h139 => ?_) <| (fun h139 => ?_)
              · refine r_bipush c_145_147 <| r_iret c_145_149 <| ?_
                obtain ⟨g1, g2, g3, g4⟩ := hMi (by omega)
                have hD : partD T p a b x := partD_iff.mpr ⟨i, by omega, by omega⟩
                have e1 : partT T p a b x = T := by unfold partT; rw [if_neg (not_not_intro hR), if_pos hD]
                have e2 : partN T p a b x = -3 := by unfold partN; rw [if_neg (not_not_intro hR), if_pos hD]
                rw [← e2]; exact kk σ (by rw [e1]; exact hM) mf.rf
              · refine r_iload c_145_142 rfl <| r_if_eq c_145_144 (fun _ => ?_) <| (fun h => absurd h (by decide))
                refine r_iinc_7_5 c_145_150 rfl (by omega) <| r_goto c_145_153 <| ?_
                obtain ⟨g1, g2, g3, g4⟩ := hMi (by omega)
                refine ih (i + 1) _ (by omega) (by omega) (fun j hj => ?_)
                by_cases e : j = i
                · subst e; omega
                · exact hno j (by omega)
            · refine r_aload_n c_145_113 rfl <| r_getf_a c_145_114 rfl rfl <| r_iload c_145_117 rfl <| r_iald c_145_119 rfl (Or.inl rfl) rfl (by omega) <| r_iload_n c_145_120 rfl <| r_icmp_ne c_145_121 (fun h121 => ?_) <| (fun h121 => ?_)
              · refine r_iconst c_145_128 <| r_istore_7_6 c_145_129 rfl <| r_aload_n c_145_131 rfl <| r_getf_a c_145_132 rfl rfl <| r_iload c_145_135 rfl <| r_iald c_145_137 rfl (Or.inl rfl) rfl (by omega) <| r_iload_n c_145_138 rfl <| r_icmp_eq c_145_139 (fun h139 => ?_) <| (fun h139 => ?_)
                · refine r_bipush c_145_147 <| r_iret c_145_149 <| ?_
                  obtain ⟨g1, g2, g3, g4⟩ := hMi (by omega)
                  have hD : partD T p a b x := partD_iff.mpr ⟨i, by omega, by omega⟩
                  have e1 : partT T p a b x = T := by unfold partT; rw [if_neg (not_not_intro hR), if_pos hD]
                  have e2 : partN T p a b x = -3 := by unfold partN; rw [if_neg (not_not_intro hR), if_pos hD]
                  rw [← e2]; exact kk σ (by rw [e1]; exact hM) mf.rf
                · refine r_iload c_145_142 rfl <| r_if_eq c_145_144 (fun _ => ?_) <| (fun h => absurd h (by decide))
                  refine r_iinc_7_5 c_145_150 rfl (by omega) <| r_goto c_145_153 <| ?_
                  obtain ⟨g1, g2, g3, g4⟩ := hMi (by omega)
                  refine ih (i + 1) _ (by omega) (by omega) (fun j hj => ?_)
                  by_cases e : j = i
                  · subst e; omega
                  · exact hno j (by omega)
              · refine r_iconst c_145_124 <| r_goto c_145_125 <| r_istore_7_6 c_145_129 rfl <| r_aload_n c_145_131 rfl <| r_getf_a c_145_132 rfl rfl <| r_iload c_145_135 rfl <| r_iald c_145_137 rfl (Or.inl rfl) rfl (by omega) <| r_iload_n c_145_138 rfl <| r_icmp_eq c_145_139 (fun h139 => ?_) <| (fun h139 => ?_)
                · refine r_bipush c_145_147 <| r_iret c_145_149 <| ?_
                  obtain ⟨g1, g2, g3, g4⟩ := hMi (by omega)
                  have hD : partD T p a b x := partD_iff.mpr ⟨i, by omega, by omega⟩
                  have e1 : partT T p a b x = T := by unfold partT; rw [if_neg (not_not_intro hR), if_pos hD]
                  have e2 : partN T p a b x = -3 := by unfold partN; rw [if_neg (not_not_intro hR), if_pos hD]
                  rw [← e2]; exact kk σ (by rw [e1]; exact hM) mf.rf
                · refine r_iload c_145_142 rfl <| r_if_eq c_145_144 (fun h => absurd h (by decide)) <| (fun _ => ?_)
                  refine r_bipush c_145_147 <| r_iret c_145_149 <| ?_
                  obtain ⟨g1, g2, g3, g4⟩ := hMi (by omega)
                  have hD : partD T p a b x := partD_iff.mpr ⟨i, by omega, by omega⟩
                  have e1 : partT T p a b x = T := by unfold partT; rw [if_neg (not_not_intro hR), if_pos hD]
                  have e2 : partN T p a b x = -3 := by unfold partN; rw [if_neg (not_not_intro hR), if_pos hD]
                  rw [← e2]; exact kk σ (by rw [e1]; exact hM) mf.rf
theorem ct_mparts (hM : MT σ T) (hO : TOK T) (p a b x : Int) (hx : x = 0 ∨ x = 1) (k : ∀ σ', MT σ' (partT T p a b x) → mf [63, 64, 65, 66] [0, 11] σ σ' → Q (some (vI (partN T p a b x))) (hp L σ')) : mm_call 145 [vP 55, vI p, vI a, vI b, vI x] (hp L σ) Q := by
  have f0 : mf [63, 64, 65, 66] [0, 11] σ (sto σ 55 0 0) := mf.rf.stF (by decide)
  have hM0 := hM.c0
  refine ⟨Nat.le_of_ble_eq_true rfl, ?_⟩
  show mm_X 145 0 [vP 55, vI p, vI a, vI b, vI x, mm_null, mm_null] [] _ _
  refine r_aload_n c_145_0 rfl <| r_iconst c_145_1 <| r_putf c_145_2 rfl rfl <| r_iload_n c_145_5 rfl <| r_cS1 c_145_6 (Nat.le_of_ble_eq_true rfl) <| ?_
  refine ct_mPoint _ (fun h6 => ?_) (fun h6 => ?_)
  · refine r_if_eq c_145_9 (fun h => absurd h (by decide)) <| (fun _ => ?_)
    refine r_iload_n c_145_12 rfl <| r_cS1 c_145_13 (Nat.le_of_ble_eq_true rfl) <| ?_
    refine ct_mPoint _ (fun h13 => ?_) (fun h13 => ?_)
    · refine r_if_eq c_145_16 (fun h => absurd h (by decide)) <| (fun _ => ?_)
      refine r_iload_n c_145_19 rfl <| r_cS1 c_145_20 (Nat.le_of_ble_eq_true rfl) <| ?_
      refine ct_mPoint _ (fun h20 => ?_) (fun h20 => ?_)
      · refine r_if_eq c_145_23 (fun h => absurd h (by decide)) <| (fun _ => ?_)
        refine r_iload_n c_145_26 rfl <| r_iload_n c_145_27 rfl <| r_icmp_ge c_145_28 (fun h28 => ?_) <| (fun h28 => ?_)
        · refine r_bipush c_145_68 <| r_iret c_145_70 <| ?_
          have hR : ¬ partR p a b := by unfold partR; omega
          have e1 : partT T p a b x = T := by unfold partT; rw [if_pos hR]
          have e2 : partN T p a b x = -2 := by unfold partN; rw [if_pos hR]
          rw [← e2]; exact k _ (by rw [e1]; exact hM0) f0
        · refine r_iload_n c_145_31 rfl <| r_iload_n c_145_32 rfl <| r_icmp_ge c_145_33 (fun h33 => ?_) <| (fun h33 => ?_)
          · refine r_bipush c_145_68 <| r_iret c_145_70 <| ?_
            have hR : ¬ partR p a b := by unfold partR; omega
            have e1 : partT T p a b x = T := by unfold partT; rw [if_pos hR]
            have e2 : partN T p a b x = -2 := by unfold partN; rw [if_pos hR]
            rw [← e2]; exact k _ (by rw [e1]; exact hM0) f0
          · refine r_iload_n c_145_36 rfl <| r_if_eq c_145_37 (fun h37 => ?_) <| (fun h37 => ?_)
            · refine r_bipush c_145_68 <| r_iret c_145_70 <| ?_
              have hR : ¬ partR p a b := by unfold partR; omega
              have e1 : partT T p a b x = T := by unfold partT; rw [if_pos hR]
              have e2 : partN T p a b x = -2 := by unfold partN; rw [if_pos hR]
              rw [← e2]; exact k _ (by rw [e1]; exact hM0) f0
            · refine r_iload_n c_145_40 rfl <| r_sipush c_145_41 <| r_icmp_lt c_145_44 (fun h44 => ?_) <| (fun h44 => ?_)
              · refine r_bipush c_145_68 <| r_iret c_145_70 <| ?_
                have hR : ¬ partR p a b := by unfold partR; omega
                have e1 : partT T p a b x = T := by unfold partT; rw [if_pos hR]
                have e2 : partN T p a b x = -2 := by unfold partN; rw [if_pos hR]
                rw [← e2]; exact k _ (by rw [e1]; exact hM0) f0
              · refine r_iload_n c_145_47 rfl <| r_cS1 c_145_48 (Nat.le_of_ble_eq_true rfl) <| ?_
                refine ct_mLetter _ (fun h48 => ?_) (fun h48 => ?_)
                · refine r_if_ne c_145_51 (fun _ => ?_) <| (fun h => absurd h (by decide))
                  refine r_bipush c_145_68 <| r_iret c_145_70 <| ?_
                  have hR : ¬ partR p a b := by unfold partR; omega
                  have e1 : partT T p a b x = T := by unfold partT; rw [if_pos hR]
                  have e2 : partN T p a b x = -2 := by unfold partN; rw [if_pos hR]
                  rw [← e2]; exact k _ (by rw [e1]; exact hM0) f0
                · refine r_if_ne c_145_51 (fun h => absurd h (by decide)) <| (fun _ => ?_)
                  refine r_iload_n c_145_54 rfl <| r_cS1 c_145_55 (Nat.le_of_ble_eq_true rfl) <| ?_
                  refine ct_mLetter _ (fun h55 => ?_) (fun h55 => ?_)
                  · refine r_if_ne c_145_58 (fun _ => ?_) <| (fun h => absurd h (by decide))
                    refine r_bipush c_145_68 <| r_iret c_145_70 <| ?_
                    have hR : ¬ partR p a b := by unfold partR; omega
                    have e1 : partT T p a b x = T := by unfold partT; rw [if_pos hR]
                    have e2 : partN T p a b x = -2 := by unfold partN; rw [if_pos hR]
                    rw [← e2]; exact k _ (by rw [e1]; exact hM0) f0
                  · refine r_if_ne c_145_58 (fun h => absurd h (by decide)) <| (fun _ => ?_)
                    refine r_iload_n c_145_61 rfl <| r_cS1 c_145_62 (Nat.le_of_ble_eq_true rfl) <| ?_
                    refine ct_mLetter _ (fun h62 => ?_) (fun h62 => ?_)
                    · refine r_if_eq c_145_65 (fun h => absurd h (by decide)) <| (fun _ => ?_)
                      refine r_bipush c_145_68 <| r_iret c_145_70 <| ?_
                      have hR : ¬ partR p a b := by unfold partR; omega
                      have e1 : partT T p a b x = T := by unfold partT; rw [if_pos hR]
                      have e2 : partN T p a b x = -2 := by unfold partN; rw [if_pos hR]
                      rw [← e2]; exact k _ (by rw [e1]; exact hM0) f0
                    · refine r_if_eq c_145_65 (fun _ => ?_) <| (fun h => absurd h (by decide))
                      refine r_iconst c_145_71 <| r_istore_7_5 c_145_72 rfl <| ?_
                      have hR : partR p a b := ⟨by assumption, ⟨by assumption, by omega, by assumption⟩, ⟨by assumption, by omega, by assumption⟩, by omega, by omega, by assumption⟩
                      exact lp_mparts hM0 hO hx hR (fun σ' g1 g2 => k σ' g1 (f0.tr g2)) (nP T + 1) 0 _ (by omega) (by omega) (fun j hj => absurd hj (Nat.not_lt_zero j))
      · refine r_if_eq c_145_23 (fun _ => ?_) <| (fun h => absurd h (by decide))
        refine r_bipush c_145_68 <| r_iret c_145_70 <| ?_
        have hR : ¬ partR p a b := by unfold partR; omega
        have e1 : partT T p a b x = T := by unfold partT; rw [if_pos hR]
        have e2 : partN T p a b x = -2 := by unfold partN; rw [if_pos hR]
        rw [← e2]; exact k _ (by rw [e1]; exact hM0) f0
    · refine r_if_eq c_145_16 (fun _ => ?_) <| (fun h => absurd h (by decide))
      refine r_bipush c_145_68 <| r_iret c_145_70 <| ?_
      have hR : ¬ partR p a b := by unfold partR; omega
      have e1 : partT T p a b x = T := by unfold partT; rw [if_pos hR]
      have e2 : partN T p a b x = -2 := by unfold partN; rw [if_pos hR]
      rw [← e2]; exact k _ (by rw [e1]; exact hM0) f0
  · refine r_if_eq c_145_9 (fun _ => ?_) <| (fun h => absurd h (by decide))
    refine r_bipush c_145_68 <| r_iret c_145_70 <| ?_
    have hR : ¬ partR p a b := by unfold partR; omega
    have e1 : partT T p a b x = T := by unfold partT; rw [if_pos hR]
    have e2 : partN T p a b x = -2 := by unfold partN; rw [if_pos hR]
    rw [← e2]; exact k _ (by rw [e1]; exact hM0) f0
end MTABS
