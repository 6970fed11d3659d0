/-! MAKE, whole: what is asked, and the class's side. -/
def mkR (T : mk_S) (t : List Int) (kd : Int) : (Int × Int × Int) × Nat × List Int :=
  if (RD t).2 ≠ -1 then ((if (RD t).2 = -2 then 60 else 10, 0, if (RD t).2 = -2 then 300 else (RD t).2), 0, [])
  else if (mkM T (RD t).1).2.1 ≠ 0 then (((mkM T (RD t).1).2.1, 0, (mkM T (RD t).1).2.2), 0, [])
  else if (lkF T (mkM T (RD t).1).1 [] []).2.1 ≠ 0 then (((lkF T (mkM T (RD t).1).1 [] []).2.1, (lkF T (mkM T (RD t).1).1 [] []).2.2.1, (lkF T (mkM T (RD t).1).1 [] []).2.2.2), (lkF T (mkM T (RD t).1).1 [] []).1.length, [])
  else if 0 ≤ (DR T (lkF T (mkM T (RD t).1).1 [] []).1).1 then ((46, (DR T (lkF T (mkM T (RD t).1).1 [] []).1).1, (DR T (lkF T (mkM T (RD t).1).1 [] []).1).2), (lkF T (mkM T (RD t).1).1 [] []).1.length, [])
  else if kd = 0 then ((0, 0, 0), (lkF T (mkM T (RD t).1).1 [] []).1.length, outF wdN (lkF T (mkM T (RD t).1).1 [] []).1 0)
  else if (PL (lkF T (mkM T (RD t).1).1 [] []).1).1 ≠ 0 then (((PL (lkF T (mkM T (RD t).1).1 [] []).1).1, (PL (lkF T (mkM T (RD t).1).1 [] []).1).2.1, (PL (lkF T (mkM T (RD t).1).1 [] []).1).2.2), (lkF T (mkM T (RD t).1).1 [] []).1.length, [])
  else ((0, 0, 0), (lkF T (mkM T (RD t).1).1 [] []).1.length, outF plN (lkF T (mkM T (RD t).1).1 [] []).1 0)
abbrev mkC : List Nat := [31, 32, 33, 34, 35, 36, 37, 38, 39, 40, 41, 42, 43, 44, 45, 46, 47, 48, 49, 50, 51, 52]
abbrev mkB : List Nat := [31, 32, 33, 35, 36, 37, 38, 39, 40, 41, 42, 43, 44, 45, 46, 47, 48, 49, 50, 51, 52]
abbrev mkE : List Nat := [31, 32, 33, 34, 35, 36, 37, 38, 39, 40, 41, 42, 43, 44, 45, 46, 47, 48, 49, 50, 51, 52, 53, 54]
section MAKE
variable {L : Nat} {T : mk_S} {Q : Option mm_V → mm_H → Prop}
theorem ct_lclear {σ : mk_S} {Q : Option mm_V → mm_H → Prop} (k : ∀ σ', lbs σ' [] → cf [46, 47, 48] σ σ' → Q none (hp L σ')) : mm_call 93 [vP 46] (hp L σ) Q := by
  refine ⟨Nat.le_of_ble_eq_true rfl, ?_⟩
  show mm_X 93 0 [vP 46] [] _ _
  refine r_aload_n c_93_0 rfl <| r_getf_a c_93_1 rfl rfl <| r_cV0 c_93_4 rfl (Nat.le_of_ble_eq_true rfl) <| ?_
  refine ct_clear row47 (fun σ1 hl1 hf1 => ?_)
  refine r_aload_n c_93_7 rfl <| r_iconst c_93_8 <| r_putf c_93_9 rfl rfl <| r_ret c_93_12 <| ?_
  refine k _ ⟨?_, ?_, Nat.zero_le _, fun i hi => absurd hi (Nat.not_lt_zero i)⟩ ((hf1.cf (by decide) (by decide)).sto (by decide))
  · exact hl1.fr (by rw [sto_ne (by decide)]) (by rw [sto_ne (by decide)])
  · rw [sto_get]; rfl
theorem ct_build {σ : mk_S} {t : List Int} {kd : Int} (hC : TC σ T) (hO : TOK T) (hot : octs t) (ht : rowOK σ 3 400 t)
    (k1 : (mkR T t kd).1.1 = 0 → ∀ σ', dF σ' 0 0 0 → σ' 46 2 = ((mkR T t kd).2.1 : Int) → rowOK σ' 53 1200 (mkR T t kd).2.2 → cf mkE σ σ' → Q (some (vI 1)) (hp L σ'))
    (k0 : (mkR T t kd).1.1 ≠ 0 → ∀ σ', dF σ' (mkR T t kd).1.1 (mkR T t kd).1.2.1 (mkR T t kd).1.2.2 → σ' 46 2 = ((mkR T t kd).2.1 : Int) → cf mkC σ σ' → Q (some (vI 0)) (hp L σ')) : mm_call 92 [vP 34, vP 3, vI kd] (hp L σ) Q := by
  have hrd := RD_pts hot
  refine ⟨Nat.le_of_ble_eq_true rfl, ?_⟩
  show mm_X 92 0 [vP 34, vP 3, vI kd, mm_null] [] _ _
  refine r_aload_n c_92_0 rfl <| r_iconst c_92_1 <| r_putf c_92_2 rfl rfl <| r_aload_n c_92_5 rfl <| r_iconst c_92_6 <| r_putf c_92_7 rfl rfl <| r_aload_n c_92_10 rfl <| r_iconst c_92_11 <| r_putf c_92_12 rfl rfl <| r_aload_n c_92_15 rfl <| ?_
  refine r_getf_a c_92_16 rfl rfl <| r_cV0 c_92_19 rfl (Nat.le_of_ble_eq_true rfl) <| ?_
  refine ct_lclear (fun σ1 hs1 hf1 => ?_)
  refine r_aload_n c_92_22 rfl <| r_getf_a c_92_23 rfl rfl <| r_cV0 c_92_26 rfl (Nat.le_of_ble_eq_true rfl) <| ?_
  refine ct_clear row51 (fun σ2 hd2 hf2 => ?_)
  have z0 : dF (sto (sto (sto σ 34 10 0) 34 11 0) 34 12 0) 0 0 0 := ⟨by rw [sto_get2 (Or.inr (by decide)), sto_get2 (Or.inr (by decide)), sto_get], by rw [sto_get2 (Or.inr (by decide)), sto_get], sto_get _ _ _ _⟩
  have d2 : dF σ2 0 0 0 := (z0.eq (hf1 34 (by decide))).eq (hf2 34 (by decide) (by decide))
  have c2 : cf mkC σ σ2 := ((((cf.rf.sto (by decide)).sto (by decide)).sto (by decide)).tr (hf1.up (by decide))).tr (hf2.cf (by decide) (by decide))
  have hs2 : lbs σ2 [] := hs1.cf (hf2.cf (A := [51, 52]) (by decide) (by decide)) (by decide)
  have e2 : σ2 46 2 = 0 := hs2.2.1
  have hC2 := hC.cf c2 (by decide)
  have ht2 := ht.cf c2 (by decide) (by decide)
  unfold mkR at k1 k0
  clear hC ht hf1 hf2 hs1 z0
  refine r_aload_n c_92_29 rfl <| r_aload_n c_92_30 rfl <| r_cV1 c_92_31 rfl (Nat.le_of_ble_eq_true rfl) <| ?_
  refine ct_takeText hot ht2 (fun g3 σ3 hp3 hf3 => ?_) (fun g3 σ3 hd3 hf3 => ?_)
  · refine r_if_eq c_92_34 (fun h => absurd h (by decide)) <| (fun _ => ?_)
    refine r_aload_n c_92_37 rfl <| r_cV0 c_92_38 rfl (Nat.le_of_ble_eq_true rfl) <| ?_
    refine ct_ra (hC2.cf hf3 (by decide)) hO hp3 (fun g4 σ4 hl4 hf4 => ?_) (fun g4 σ4 hd4 hf4 => ?_)
    · refine r_if_eq c_92_41 (fun h => absurd h (by decide)) <| (fun _ => ?_)
      refine r_aload_n c_92_44 rfl <| r_cV0 c_92_45 rfl (Nat.le_of_ble_eq_true rfl) <| ?_
      refine ct_fa ((hC2.cf hf3 (by decide)).cf hf4 (by decide)) hO hl4 (fun g5 σ5 hl5 hf5 => ?_) (fun g5 σ5 hd5 hf5 => ?_)
      · refine r_if_eq c_92_48 (fun h => absurd h (by decide)) <| (fun _ => ?_)
        have em : mkM T (RD t).1 = (oF T (mqF T (RD t).1 0 []).1, 0, 0) := by unfold mkM; rw [if_neg (not_not_intro g4), if_neg (by omega)]
        rw [if_neg (not_not_intro g3), em, if_neg (by simp)] at k1 k0
        have hpf : pts (oF T (mqF T (RD t).1 0 []).1) := oF_pts hO (mqF_pts hO (RD t).1 0 [] hrd.1 pts_nil (Nat.zero_le _)).1
        have c5 : cf mkB σ2 σ5 := ((hf3.up (by decide)).tr (hf4.up (by decide))).tr (hf5.up (by decide))
        have hlen5 : (oF T (mqF T (RD t).1 0 []).1).length ≤ 300 := hl5.2.1
        have hs5 : lbs σ5 [] := ((hs2.cf hf3 (by decide)).cf hf4 (by decide)).cf hf5 (by decide)
        have hlk := lkF_out (T := T) (oF T (mqF T (RD t).1 0 []).1) [] [] hpf pts_nil (by simpa using hlen5) (fun y hy => absurd hy (by simp))
        simp only [] at k1 k0
        generalize oF T (mqF T (RD t).1 0 []).1 = w at *
        refine r_aload_n c_92_51 rfl <| r_cV0 c_92_52 rfl (Nat.le_of_ble_eq_true rfl) <| ?_
        refine ct_lk (hC2.cf c5 (by decide)) hO hpf hl5 hs5 (fun g6 σ6 hs6 hf6 => ?_) (fun g6 σ6 hs6 hd6 hf6 => ?_)
        · refine r_if_eq c_92_55 (fun h => absurd h (by decide)) <| (fun _ => ?_)
          refine r_aload_n c_92_58 rfl <| r_cV0 c_92_59 rfl (Nat.le_of_ble_eq_true rfl) <| ?_
          refine ct_ld ((hC2.cf c5 (by decide)).cf hf6 (by decide)) hO hs6 (fun g7 σ7 hf7 => ?_) (fun g7 σ7 hd7 hf7 => ?_)
          · refine r_if_eq c_92_62 (fun h => absurd h (by decide)) <| (fun _ => ?_)
            refine r_iconst c_92_65 <| ?_
            rw [if_neg (not_not_intro g6), if_neg (by omega)] at k1 k0
            have d7 : dF σ7 0 0 0 := ((d2.eq (c5 34 (by decide))).eq (hf6 34 (by decide))).eq (hf7 34 (by decide))
            have c7 : cf mkB σ2 σ7 := (c5.tr (hf6.up (by decide))).tr (hf7.up (by decide))
            have hs7 := hs6.cf hf7 (by decide)
            have e7 := hs7.2.1
            have hd7 : rowOK σ7 51 1200 [] := (((((hd2.cf hf3 (by decide) (by decide)).cf hf4 (by decide) (by decide)).cf hf5 (by decide) (by decide)).cf hf6 (by decide) (by decide)).cf hf7 (by decide) (by decide))
            have hk : ((lkF T w [] []).1.flatten.length + (lkF T w [] []).1.length ≤ 301) ∧ 1 ≤ (lkF T w [] []).1.length := by
              have h1 := hlk.2.2.1
              have h2 := hlk.2.2.2 g6
              simp only [List.flatten_nil, List.length_nil] at h1
              omega
            refine r_goto c_92_66 <| r_istore_n_4_3 c_92_70 rfl <| r_iload_n c_92_71 rfl <| r_if_eq c_92_72 (fun h => absurd h (by decide)) <| (fun _ => ?_)
            refine r_iload_n c_92_75 rfl <| r_if_eq c_92_76 (fun h76 => ?_) <| (fun h76 => ?_)
            · refine r_aload_n c_92_89 rfl <| r_cV0 c_92_90 rfl (Nat.le_of_ble_eq_true rfl) <| ?_
              refine ct_ww hlk.1 hk.1 hs7 hd7 (fun σ8 hl8 hf8 => ?_)
              refine r_if_eq c_92_93 (fun h => absurd h (by decide)) <| (fun _ => ?_)
              refine r_aload_n c_92_96 rfl <| r_getf_a c_92_97 rfl rfl <| r_aload_n c_92_100 rfl <| r_getf_a c_92_101 rfl rfl <| r_cV1 c_92_104 rfl (Nat.le_of_ble_eq_true rfl) <| ?_
              refine ct_become row53 row51 (by decide) hl8 hl8.2.1 (fun σ9 hl9 hf9 => ?_)
              refine r_iconst c_92_107 <| r_zret c_92_108 (Or.inr rfl) <| ?_
              first
              | (rw [if_neg (by assumption), if_neg (not_not_intro g8)] at k1
                 have d8 : dF σ8 0 0 0 := d7.eq (hf8 34 (by decide))
                 have x46 : σ9 46 2 = σ7 46 2 := by rw [hf9 46 (by decide) (by decide), hf8 46 (by decide)]
                 exact k1 rfl σ9 (d8.eq (hf9 34 (by decide) (by decide))) (by rw [x46]; exact e7) hl9 ((((c2.up (by decide)).tr (c7.up (by decide))).tr (hf8.up (by decide))).tr (hf9.cf (by decide) (by decide))))
              | (rw [if_pos (by assumption)] at k1
                 have d8 : dF σ8 0 0 0 := d7.eq (hf8 34 (by decide) (by decide))
                 have x46 : σ9 46 2 = σ7 46 2 := by rw [hf9 46 (by decide) (by decide), hf8 46 (by decide) (by decide)]
                 exact k1 rfl σ9 (d8.eq (hf9 34 (by decide) (by decide))) (by rw [x46]; exact e7) hl9 ((((c2.up (by decide)).tr (c7.up (by decide))).tr (hf8.cf (by decide) (by decide))).tr (hf9.cf (by decide) (by decide))))
            · refine r_aload_n c_92_79 rfl <| r_cV0 c_92_80 rfl (Nat.le_of_ble_eq_true rfl) <| ?_
              refine ct_wp hlk.1 hk.2 hs7 hd7 (fun g8 σ8 hl8 hf8 => ?_) (fun g8 σ8 hd8 hf8 => ?_)
              · refine r_if_eq c_92_83 (fun h => absurd h (by decide)) <| (fun _ => ?_)
                refine r_goto c_92_86 <| r_aload_n c_92_96 rfl <| r_getf_a c_92_97 rfl rfl <| r_aload_n c_92_100 rfl <| r_getf_a c_92_101 rfl rfl <| r_cV1 c_92_104 rfl (Nat.le_of_ble_eq_true rfl) <| ?_
                refine ct_become row53 row51 (by decide) hl8 hl8.2.1 (fun σ9 hl9 hf9 => ?_)
                refine r_iconst c_92_107 <| r_zret c_92_108 (Or.inr rfl) <| ?_
                first
                | (rw [if_neg (by assumption), if_neg (not_not_intro g8)] at k1
                   have d8 : dF σ8 0 0 0 := d7.eq (hf8 34 (by decide))
                   have x46 : σ9 46 2 = σ7 46 2 := by rw [hf9 46 (by decide) (by decide), hf8 46 (by decide)]
                   exact k1 rfl σ9 (d8.eq (hf9 34 (by decide) (by decide))) (by rw [x46]; exact e7) hl9 ((((c2.up (by decide)).tr (c7.up (by decide))).tr (hf8.up (by decide))).tr (hf9.cf (by decide) (by decide))))
                | (rw [if_pos (by assumption)] at k1
                   have d8 : dF σ8 0 0 0 := d7.eq (hf8 34 (by decide) (by decide))
                   have x46 : σ9 46 2 = σ7 46 2 := by rw [hf9 46 (by decide) (by decide), hf8 46 (by decide) (by decide)]
                   exact k1 rfl σ9 (d8.eq (hf9 34 (by decide) (by decide))) (by rw [x46]; exact e7) hl9 ((((c2.up (by decide)).tr (c7.up (by decide))).tr (hf8.cf (by decide) (by decide))).tr (hf9.cf (by decide) (by decide))))
              · refine r_if_eq c_92_83 (fun _ => ?_) <| (fun h => absurd h (by decide))
                refine r_iconst c_92_109 <| r_zret c_92_110 (Or.inl rfl) <| ?_
                first
                | (rw [if_neg (by assumption), if_pos g8] at k0
                   exact k0 g8 σ8 hd8 (by rw [hf8 46 (by decide)]; exact e7) ((c2.tr (c7.up (by decide))).tr (hf8.up (by decide))))
                | (rw [if_neg (not_not_intro g6), if_pos g7] at k0
                   exact k0 (by simp) σ7 hd7 (by rw [hf7 46 (by decide)]; exact hs6.2.1) (((c2.tr (c5.up (by decide))).tr (hf6.up (by decide))).tr (hf7.up (by decide))))
                | (rw [if_pos g6] at k0
                   exact k0 g6 σ6 hd6 hs6.2.1 ((c2.tr (c5.up (by decide))).tr (hf6.up (by decide))))
                | (have em : mkM T (RD t).1 = ([], 60, 0) := by unfold mkM; rw [if_neg (not_not_intro g4), if_pos g5]
                   rw [if_neg (not_not_intro g3), em, if_pos (by simp)] at k0
                   exact k0 (by simp) σ5 hd5 (by rw [hf5 46 (by decide), hf4 46 (by decide), hf3 46 (by decide)]; exact e2) (((c2.tr (hf3.up (by decide))).tr (hf4.up (by decide))).tr (hf5.up (by decide))))
                | (have em : mkM T (RD t).1 = mqF T (RD t).1 0 [] := by unfold mkM; rw [if_pos g4]
                   rw [if_neg (not_not_intro g3), em, if_pos g4] at k0
                   exact k0 g4 σ4 hd4 (by rw [hf4 46 (by decide), hf3 46 (by decide)]; exact e2) ((c2.tr (hf3.up (by decide))).tr (hf4.up (by decide))))
                | (rw [if_pos g3] at k0
                   exact k0 (by simp only []; split <;> decide) σ3 hd3 (by rw [hf3 46 (by decide)]; exact e2) (c2.tr (hf3.up (by decide))))
          · refine r_if_eq c_92_62 (fun _ => ?_) <| (fun h => absurd h (by decide))
            refine r_iconst c_92_69 <| r_istore_n_4_3 c_92_70 rfl <| r_iload_n c_92_71 rfl <| r_if_eq c_92_72 (fun _ => ?_) <| (fun h => absurd h (by decide))
            refine r_iconst c_92_109 <| r_zret c_92_110 (Or.inl rfl) <| ?_
            first
            | (rw [if_neg (by assumption), if_pos g8] at k0
               exact k0 g8 σ8 hd8 (by rw [hf8 46 (by decide)]; exact e7) ((c2.tr (c7.up (by decide))).tr (hf8.up (by decide))))
            | (rw [if_neg (not_not_intro g6), if_pos g7] at k0
               exact k0 (by simp) σ7 hd7 (by rw [hf7 46 (by decide)]; exact hs6.2.1) (((c2.tr (c5.up (by decide))).tr (hf6.up (by decide))).tr (hf7.up (by decide))))
            | (rw [if_pos g6] at k0
               exact k0 g6 σ6 hd6 hs6.2.1 ((c2.tr (c5.up (by decide))).tr (hf6.up (by decide))))
            | (have em : mkM T (RD t).1 = ([], 60, 0) := by unfold mkM; rw [if_neg (not_not_intro g4), if_pos g5]
               rw [if_neg (not_not_intro g3), em, if_pos (by simp)] at k0
               exact k0 (by simp) σ5 hd5 (by rw [hf5 46 (by decide), hf4 46 (by decide), hf3 46 (by decide)]; exact e2) (((c2.tr (hf3.up (by decide))).tr (hf4.up (by decide))).tr (hf5.up (by decide))))
            | (have em : mkM T (RD t).1 = mqF T (RD t).1 0 [] := by unfold mkM; rw [if_pos g4]
               rw [if_neg (not_not_intro g3), em, if_pos g4] at k0
               exact k0 g4 σ4 hd4 (by rw [hf4 46 (by decide), hf3 46 (by decide)]; exact e2) ((c2.tr (hf3.up (by decide))).tr (hf4.up (by decide))))
            | (rw [if_pos g3] at k0
               exact k0 (by simp only []; split <;> decide) σ3 hd3 (by rw [hf3 46 (by decide)]; exact e2) (c2.tr (hf3.up (by decide))))
        · refine r_if_eq c_92_55 (fun _ => ?_) <| (fun h => absurd h (by decide))
          refine r_iconst c_92_69 <| r_istore_n_4_3 c_92_70 rfl <| r_iload_n c_92_71 rfl <| r_if_eq c_92_72 (fun _ => ?_) <| (fun h => absurd h (by decide))
          refine r_iconst c_92_109 <| r_zret c_92_110 (Or.inl rfl) <| ?_
          first
          | (rw [if_neg (by assumption), if_pos g8] at k0
             exact k0 g8 σ8 hd8 (by rw [hf8 46 (by decide)]; exact e7) ((c2.tr (c7.up (by decide))).tr (hf8.up (by decide))))
          | (rw [if_neg (not_not_intro g6), if_pos g7] at k0
             exact k0 (by simp) σ7 hd7 (by rw [hf7 46 (by decide)]; exact hs6.2.1) (((c2.tr (c5.up (by decide))).tr (hf6.up (by decide))).tr (hf7.up (by decide))))
          | (rw [if_pos g6] at k0
             exact k0 g6 σ6 hd6 hs6.2.1 ((c2.tr (c5.up (by decide))).tr (hf6.up (by decide))))
          | (have em : mkM T (RD t).1 = ([], 60, 0) := by unfold mkM; rw [if_neg (not_not_intro g4), if_pos g5]
             rw [if_neg (not_not_intro g3), em, if_pos (by simp)] at k0
             exact k0 (by simp) σ5 hd5 (by rw [hf5 46 (by decide), hf4 46 (by decide), hf3 46 (by decide)]; exact e2) (((c2.tr (hf3.up (by decide))).tr (hf4.up (by decide))).tr (hf5.up (by decide))))
          | (have em : mkM T (RD t).1 = mqF T (RD t).1 0 [] := by unfold mkM; rw [if_pos g4]
             rw [if_neg (not_not_intro g3), em, if_pos g4] at k0
             exact k0 g4 σ4 hd4 (by rw [hf4 46 (by decide), hf3 46 (by decide)]; exact e2) ((c2.tr (hf3.up (by decide))).tr (hf4.up (by decide))))
          | (rw [if_pos g3] at k0
             exact k0 (by simp only []; split <;> decide) σ3 hd3 (by rw [hf3 46 (by decide)]; exact e2) (c2.tr (hf3.up (by decide))))
      · refine r_if_eq c_92_48 (fun _ => ?_) <| (fun h => absurd h (by decide))
        refine r_iconst c_92_69 <| r_istore_n_4_3 c_92_70 rfl <| r_iload_n c_92_71 rfl <| r_if_eq c_92_72 (fun _ => ?_) <| (fun h => absurd h (by decide))
        refine r_iconst c_92_109 <| r_zret c_92_110 (Or.inl rfl) <| ?_
        first
        | (rw [if_neg (by assumption), if_pos g8] at k0
           exact k0 g8 σ8 hd8 (by rw [hf8 46 (by decide)]; exact e7) ((c2.tr (c7.up (by decide))).tr (hf8.up (by decide))))
        | (rw [if_neg (not_not_intro g6), if_pos g7] at k0
           exact k0 (by simp) σ7 hd7 (by rw [hf7 46 (by decide)]; exact hs6.2.1) (((c2.tr (c5.up (by decide))).tr (hf6.up (by decide))).tr (hf7.up (by decide))))
        | (rw [if_pos g6] at k0
           exact k0 g6 σ6 hd6 hs6.2.1 ((c2.tr (c5.up (by decide))).tr (hf6.up (by decide))))
        | (have em : mkM T (RD t).1 = ([], 60, 0) := by unfold mkM; rw [if_neg (not_not_intro g4), if_pos g5]
           rw [if_neg (not_not_intro g3), em, if_pos (by simp)] at k0
           exact k0 (by simp) σ5 hd5 (by rw [hf5 46 (by decide), hf4 46 (by decide), hf3 46 (by decide)]; exact e2) (((c2.tr (hf3.up (by decide))).tr (hf4.up (by decide))).tr (hf5.up (by decide))))
        | (have em : mkM T (RD t).1 = mqF T (RD t).1 0 [] := by unfold mkM; rw [if_pos g4]
           rw [if_neg (not_not_intro g3), em, if_pos g4] at k0
           exact k0 g4 σ4 hd4 (by rw [hf4 46 (by decide), hf3 46 (by decide)]; exact e2) ((c2.tr (hf3.up (by decide))).tr (hf4.up (by decide))))
        | (rw [if_pos g3] at k0
           exact k0 (by simp only []; split <;> decide) σ3 hd3 (by rw [hf3 46 (by decide)]; exact e2) (c2.tr (hf3.up (by decide))))
    · refine r_if_eq c_92_41 (fun _ => ?_) <| (fun h => absurd h (by decide))
      refine r_iconst c_92_69 <| r_istore_n_4_3 c_92_70 rfl <| r_iload_n c_92_71 rfl <| r_if_eq c_92_72 (fun _ => ?_) <| (fun h => absurd h (by decide))
      refine r_iconst c_92_109 <| r_zret c_92_110 (Or.inl rfl) <| ?_
      first
      | (rw [if_neg (by assumption), if_pos g8] at k0
         exact k0 g8 σ8 hd8 (by rw [hf8 46 (by decide)]; exact e7) ((c2.tr (c7.up (by decide))).tr (hf8.up (by decide))))
      | (rw [if_neg (not_not_intro g6), if_pos g7] at k0
         exact k0 (by simp) σ7 hd7 (by rw [hf7 46 (by decide)]; exact hs6.2.1) (((c2.tr (c5.up (by decide))).tr (hf6.up (by decide))).tr (hf7.up (by decide))))
      | (rw [if_pos g6] at k0
         exact k0 g6 σ6 hd6 hs6.2.1 ((c2.tr (c5.up (by decide))).tr (hf6.up (by decide))))
      | (have em : mkM T (RD t).1 = ([], 60, 0) := by unfold mkM; rw [if_neg (not_not_intro g4), if_pos g5]
         rw [if_neg (not_not_intro g3), em, if_pos (by simp)] at k0
         exact k0 (by simp) σ5 hd5 (by rw [hf5 46 (by decide), hf4 46 (by decide), hf3 46 (by decide)]; exact e2) (((c2.tr (hf3.up (by decide))).tr (hf4.up (by decide))).tr (hf5.up (by decide))))
      | (have em : mkM T (RD t).1 = mqF T (RD t).1 0 [] := by unfold mkM; rw [if_pos g4]
         rw [if_neg (not_not_intro g3), em, if_pos g4] at k0
         exact k0 g4 σ4 hd4 (by rw [hf4 46 (by decide), hf3 46 (by decide)]; exact e2) ((c2.tr (hf3.up (by decide))).tr (hf4.up (by decide))))
      | (rw [if_pos g3] at k0
         exact k0 (by simp only []; split <;> decide) σ3 hd3 (by rw [hf3 46 (by decide)]; exact e2) (c2.tr (hf3.up (by decide))))
  · refine r_if_eq c_92_34 (fun _ => ?_) <| (fun h => absurd h (by decide))
    refine r_iconst c_92_69 <| r_istore_n_4_3 c_92_70 rfl <| r_iload_n c_92_71 rfl <| r_if_eq c_92_72 (fun _ => ?_) <| (fun h => absurd h (by decide))
    refine r_iconst c_92_109 <| r_zret c_92_110 (Or.inl rfl) <| ?_
    first
    | (rw [if_neg (by assumption), if_pos g8] at k0
       exact k0 g8 σ8 hd8 (by rw [hf8 46 (by decide)]; exact e7) ((c2.tr (c7.up (by decide))).tr (hf8.up (by decide))))
    | (rw [if_neg (not_not_intro g6), if_pos g7] at k0
       exact k0 (by simp) σ7 hd7 (by rw [hf7 46 (by decide)]; exact hs6.2.1) (((c2.tr (c5.up (by decide))).tr (hf6.up (by decide))).tr (hf7.up (by decide))))
    | (rw [if_pos g6] at k0
       exact k0 g6 σ6 hd6 hs6.2.1 ((c2.tr (c5.up (by decide))).tr (hf6.up (by decide))))
    | (have em : mkM T (RD t).1 = ([], 60, 0) := by unfold mkM; rw [if_neg (not_not_intro g4), if_pos g5]
       rw [if_neg (not_not_intro g3), em, if_pos (by simp)] at k0
       exact k0 (by simp) σ5 hd5 (by rw [hf5 46 (by decide), hf4 46 (by decide), hf3 46 (by decide)]; exact e2) (((c2.tr (hf3.up (by decide))).tr (hf4.up (by decide))).tr (hf5.up (by decide))))
    | (have em : mkM T (RD t).1 = mqF T (RD t).1 0 [] := by unfold mkM; rw [if_pos g4]
       rw [if_neg (not_not_intro g3), em, if_pos g4] at k0
       exact k0 g4 σ4 hd4 (by rw [hf4 46 (by decide), hf3 46 (by decide)]; exact e2) ((c2.tr (hf3.up (by decide))).tr (hf4.up (by decide))))
    | (rw [if_pos g3] at k0
       exact k0 (by simp only []; split <;> decide) σ3 hd3 (by rw [hf3 46 (by decide)]; exact e2) (c2.tr (hf3.up (by decide))))
def tdV (σ : mk_S) (k : Int) : Int := if k = 0 then σ 34 10 else if k = 1 then σ 34 11 else if k = 2 then σ 34 12 else σ 46 2
theorem ct_told {σ : mk_S} (z : Int) (hz : 0 ≤ z ∧ z ≤ 3) (k : Q (some (vI (tdV σ z))) (hp L σ)) : mm_call 129 [vP 34, vI z] (hp L σ) Q := by
  unfold tdV at k
  refine ⟨Nat.le_of_ble_eq_true rfl, ?_⟩
  show mm_X 129 0 [vP 34, vI z] [] _ _
  refine r_iload_n c_129_0 rfl <| r_tsw c_129_1 (by decide) (fun h1 => ?_) <| (fun i1 o1 ho1 h1 => ?_)
  · refine r_aload_n c_129_43 rfl <| r_getf_a c_129_44 rfl rfl <| r_cV0 c_129_47 rfl (Nat.le_of_ble_eq_true rfl) <| ?_
    refine ct_count ?_
    refine r_iret c_129_50 <| ?_
    first
    | (rw [if_neg (by omega), if_neg (by omega), if_neg (by omega)] at k; exact k)
    | (rw [if_neg (by omega), if_neg (by omega), if_pos (by omega)] at k; exact k)
    | (rw [if_neg (by omega), if_pos (by omega)] at k; exact k)
    | (rw [if_pos (by omega)] at k; exact k)
  · match i1, ho1, h1 with
    | 0, ho1, h1 =>
      obtain rfl : 27 = o1 := Option.some.inj ho1
      refine r_aload_n c_129_28 rfl <| r_getf_i c_129_29 rfl rfl <| r_iret c_129_32 <| ?_
      first
      | (rw [if_neg (by omega), if_neg (by omega), if_neg (by omega)] at k; exact k)
      | (rw [if_neg (by omega), if_neg (by omega), if_pos (by omega)] at k; exact k)
      | (rw [if_neg (by omega), if_pos (by omega)] at k; exact k)
      | (rw [if_pos (by omega)] at k; exact k)
    | 1, ho1, h1 =>
      obtain rfl : 32 = o1 := Option.some.inj ho1
      refine r_aload_n c_129_33 rfl <| r_getf_i c_129_34 rfl rfl <| r_iret c_129_37 <| ?_
      first
      | (rw [if_neg (by omega), if_neg (by omega), if_neg (by omega)] at k; exact k)
      | (rw [if_neg (by omega), if_neg (by omega), if_pos (by omega)] at k; exact k)
      | (rw [if_neg (by omega), if_pos (by omega)] at k; exact k)
      | (rw [if_pos (by omega)] at k; exact k)
    | 2, ho1, h1 =>
      obtain rfl : 37 = o1 := Option.some.inj ho1
      refine r_aload_n c_129_38 rfl <| r_getf_i c_129_39 rfl rfl <| r_iret c_129_42 <| ?_
      first
      | (rw [if_neg (by omega), if_neg (by omega), if_neg (by omega)] at k; exact k)
      | (rw [if_neg (by omega), if_neg (by omega), if_pos (by omega)] at k; exact k)
      | (rw [if_neg (by omega), if_pos (by omega)] at k; exact k)
      | (rw [if_pos (by omega)] at k; exact k)
    | _ + 3, ho1, h1 => exact absurd ho1 (by simp)
theorem ct_msz {σ : mk_S} {l : List Int} (hl : rowOK σ 53 1200 l) (k : Q (some (vI l.length)) (hp L σ)) : mm_call 128 [vP 34] (hp L σ) Q := by
  refine ⟨Nat.le_of_ble_eq_true rfl, ?_⟩
  show mm_X 128 0 [vP 34] [] _ _
  refine r_aload_n c_128_0 rfl <| r_getf_a c_128_1 rfl rfl <| r_cV0 c_128_4 rfl (Nat.le_of_ble_eq_true rfl) <| ?_
  refine ct_size row53 hl ?_
  refine r_iret c_128_7 <| ?_
  exact k
theorem ct_make {σ : mk_S} {t : List Int} {kd : Int} (hC : TC σ T) (hO : TOK T) (hot : octs t) (ht : rowOK σ 3 400 t) (hrng : -1000 ≤ (mkR T t kd).1.1 ∧ (mkR T t kd).1.1 ≤ 1000)
    (k1 : (mkR T t kd).1.1 = 0 → ∀ σ', dF σ' 0 0 0 → σ' 46 2 = ((mkR T t kd).2.1 : Int) → rowOK σ' 53 1200 (mkR T t kd).2.2 → cf mkE σ σ' → Q (some (vI (mkR T t kd).2.2.length)) (hp L σ'))
    (k0 : (mkR T t kd).1.1 ≠ 0 → ∀ σ', dF σ' (mkR T t kd).1.1 (mkR T t kd).1.2.1 (mkR T t kd).1.2.2 → σ' 46 2 = ((mkR T t kd).2.1 : Int) → cf mkC σ σ' → Q (some (vI (-10 - (mkR T t kd).1.1))) (hp L σ')) : mm_call 91 [vP 2, vI kd] (hp L σ) Q := by
  refine ⟨Nat.le_of_ble_eq_true rfl, ?_⟩
  show mm_X 91 0 [vP 2, vI kd] [] _ _
  refine r_aload_n c_91_0 rfl <| r_getf_a c_91_1 rfl rfl <| r_aload_n c_91_4 rfl <| r_getf_a c_91_5 rfl rfl <| r_iload_n c_91_8 rfl <| r_cV2 c_91_9 rfl (Nat.le_of_ble_eq_true rfl) <| ?_
  refine ct_build hC hO hot ht (fun g σ1 h1 h2 h3 h4 => ?_) (fun g σ1 h1 h2 h4 => ?_)
  · refine r_if_eq c_91_12 (fun h => absurd h (by decide)) <| (fun _ => ?_)
    refine r_aload_n c_91_15 rfl <| r_getf_a c_91_16 rfl rfl <| r_cV0 c_91_19 rfl (Nat.le_of_ble_eq_true rfl) <| ?_
    refine ct_msz h3 ?_
    refine r_goto c_91_22 <| r_iret c_91_36 <| ?_
    first
    | exact k1 g σ1 h1 h2 h3 h4
    | (have e : tdV σ1 0 = (mkR T t kd).1.1 := by unfold tdV; rw [if_pos rfl, h1.1]
       rw [e]
       exact k0 g σ1 h1 h2 h4)
  · refine r_if_eq c_91_12 (fun _ => ?_) <| (fun h => absurd h (by decide))
    refine r_bipush c_91_25 <| r_aload_n c_91_27 rfl <| r_getf_a c_91_28 rfl rfl <| r_iconst c_91_31 <| r_cV1 c_91_32 rfl (Nat.le_of_ble_eq_true rfl) <| ?_
    refine ct_told 0 (by decide) ?_
    refine r_isub c_91_35 (by unfold tdV; rw [if_pos rfl, h1.1]; omega) <| r_iret c_91_36 <| ?_
    first
    | exact k1 g σ1 h1 h2 h3 h4
    | (have e : tdV σ1 0 = (mkR T t kd).1.1 := by unfold tdV; rw [if_pos rfl, h1.1]
       rw [e]
       exact k0 g σ1 h1 h2 h4)
def fauN (f l p n k : Int) : Int := if k = 0 then f else if k = 1 then l else if k = 2 then p else if k = 3 then n else -2
theorem ct_fault {σ : mk_S} {f l p n : Int} (hd : dF σ f l p) (hn : σ 46 2 = n) (z : Int) (k : Q (some (vI (fauN f l p n z))) (hp L σ)) : mm_call 130 [vP 2, vI z] (hp L σ) Q := by
  have e : 0 ≤ z → z ≤ 3 → tdV σ z = fauN f l p n z := by
    intro h1 h2
    unfold tdV fauN
    rw [hd.1, hd.2.1, hd.2.2, hn]
    rcases (show z = 0 ∨ z = 1 ∨ z = 2 ∨ z = 3 by omega) with rfl | rfl | rfl | rfl <;> rfl
  refine ⟨Nat.le_of_ble_eq_true rfl, ?_⟩
  show mm_X 130 0 [vP 2, vI z] [] _ _
  refine r_iload_n c_130_0 rfl <| r_if_lt c_130_1 (fun h1 => ?_) <| (fun h1 => ?_)
  · refine r_bipush c_130_20 <| r_iret c_130_22 <| ?_
    first
    | (rw [e (by omega) (by omega)]; exact k)
    | exact q_val k (by unfold fauN; rw [if_neg (by omega), if_neg (by omega), if_neg (by omega), if_neg (by omega)])
  · refine r_iload_n c_130_4 rfl <| r_iconst c_130_5 <| r_icmp_gt c_130_6 (fun h6 => ?_) <| (fun h6 => ?_)
    · refine r_bipush c_130_20 <| r_iret c_130_22 <| ?_
      first
      | (rw [e (by omega) (by omega)]; exact k)
      | exact q_val k (by unfold fauN; rw [if_neg (by omega), if_neg (by omega), if_neg (by omega), if_neg (by omega)])
    · refine r_aload_n c_130_9 rfl <| r_getf_a c_130_10 rfl rfl <| r_iload_n c_130_13 rfl <| r_cV1 c_130_14 rfl (Nat.le_of_ble_eq_true rfl) <| ?_
      refine ct_told z (by omega) ?_
      refine r_goto c_130_17 <| r_iret c_130_22 <| ?_
      first
      | (rw [e (by omega) (by omega)]; exact k)
      | exact q_val k (by unfold fauN; rw [if_neg (by omega), if_neg (by omega), if_neg (by omega), if_neg (by omega)])
theorem ct_mfault {σ : mk_S} {f l p n : Int} (hd : mD σ f l p) (hn : σ 55 40 = n) (z : Int) (k : ∀ σ', mf [] [0] σ σ' → Q (some (vI (fauN f l p n z))) (hp L σ')) : mm_call 189 [vP 55, vI z] (hp L σ) Q := by
  have f0 : mf [] [0] σ (sto σ 55 0 0) := mf.rf.stF (by decide)
  have k := k _ f0
  have e37 : (sto σ 55 0 0) 55 37 = f := by rw [f0.2 37 (by decide)]; exact hd.1
  have e38 : (sto σ 55 0 0) 55 38 = l := by rw [f0.2 38 (by decide)]; exact hd.2.1
  have e39 : (sto σ 55 0 0) 55 39 = p := by rw [f0.2 39 (by decide)]; exact hd.2.2
  have e40 : (sto σ 55 0 0) 55 40 = n := by rw [f0.2 40 (by decide)]; exact hn
  unfold fauN at k
  refine ⟨Nat.le_of_ble_eq_true rfl, ?_⟩
  show mm_X 189 0 [vP 55, vI z] [] _ _
  refine r_aload_n c_189_0 rfl <| r_iconst c_189_1 <| r_putf c_189_2 rfl rfl <| r_iload_n c_189_5 rfl <| r_if_ne c_189_6 (fun h6 => ?_) <| (fun h6 => ?_)
  · refine r_iload_n c_189_16 rfl <| r_iconst c_189_17 <| r_icmp_ne c_189_18 (fun h18 => ?_) <| (fun h18 => ?_)
    · refine r_iload_n c_189_28 rfl <| r_iconst c_189_29 <| r_icmp_ne c_189_30 (fun h30 => ?_) <| (fun h30 => ?_)
      · refine r_iload_n c_189_40 rfl <| r_iconst c_189_41 <| r_icmp_ne c_189_42 (fun h42 => ?_) <| (fun h42 => ?_)
        · refine r_bipush c_189_52 <| r_iret c_189_54 <| ?_
          first
          | (rw [if_neg (by omega), if_neg (by omega), if_neg (by omega), if_neg (by omega)] at k; exact k)
          | (rw [if_pos (by omega)] at k; rw [e37]; exact k)
          | (rw [if_neg (by omega), if_pos (by omega)] at k; rw [e38]; exact k)
          | (rw [if_neg (by omega), if_neg (by omega), if_pos (by omega)] at k; rw [e39]; exact k)
          | (rw [if_neg (by omega), if_neg (by omega), if_neg (by omega), if_pos (by omega)] at k; rw [e40]; exact k)
        · refine r_aload_n c_189_45 rfl <| r_getf_i c_189_46 rfl rfl <| r_goto c_189_49 <| r_iret c_189_54 <| ?_
          first
          | (rw [if_neg (by omega), if_neg (by omega), if_neg (by omega), if_neg (by omega)] at k; exact k)
          | (rw [if_pos (by omega)] at k; rw [e37]; exact k)
          | (rw [if_neg (by omega), if_pos (by omega)] at k; rw [e38]; exact k)
          | (rw [if_neg (by omega), if_neg (by omega), if_pos (by omega)] at k; rw [e39]; exact k)
          | (rw [if_neg (by omega), if_neg (by omega), if_neg (by omega), if_pos (by omega)] at k; rw [e40]; exact k)
      · refine r_aload_n c_189_33 rfl <| r_getf_i c_189_34 rfl rfl <| r_goto c_189_37 <| r_iret c_189_54 <| ?_
        first
        | (rw [if_neg (by omega), if_neg (by omega), if_neg (by omega), if_neg (by omega)] at k; exact k)
        | (rw [if_pos (by omega)] at k; rw [e37]; exact k)
        | (rw [if_neg (by omega), if_pos (by omega)] at k; rw [e38]; exact k)
        | (rw [if_neg (by omega), if_neg (by omega), if_pos (by omega)] at k; rw [e39]; exact k)
        | (rw [if_neg (by omega), if_neg (by omega), if_neg (by omega), if_pos (by omega)] at k; rw [e40]; exact k)
    · refine r_aload_n c_189_21 rfl <| r_getf_i c_189_22 rfl rfl <| r_goto c_189_25 <| r_iret c_189_54 <| ?_
      first
      | (rw [if_neg (by omega), if_neg (by omega), if_neg (by omega), if_neg (by omega)] at k; exact k)
      | (rw [if_pos (by omega)] at k; rw [e37]; exact k)
      | (rw [if_neg (by omega), if_pos (by omega)] at k; rw [e38]; exact k)
      | (rw [if_neg (by omega), if_neg (by omega), if_pos (by omega)] at k; rw [e39]; exact k)
      | (rw [if_neg (by omega), if_neg (by omega), if_neg (by omega), if_pos (by omega)] at k; rw [e40]; exact k)
  · refine r_aload_n c_189_9 rfl <| r_getf_i c_189_10 rfl rfl <| r_goto c_189_13 <| r_iret c_189_54 <| ?_
    first
    | (rw [if_neg (by omega), if_neg (by omega), if_neg (by omega), if_neg (by omega)] at k; exact k)
    | (rw [if_pos (by omega)] at k; rw [e37]; exact k)
    | (rw [if_neg (by omega), if_pos (by omega)] at k; rw [e38]; exact k)
    | (rw [if_neg (by omega), if_neg (by omega), if_pos (by omega)] at k; rw [e39]; exact k)
    | (rw [if_neg (by omega), if_neg (by omega), if_neg (by omega), if_pos (by omega)] at k; rw [e40]; exact k)
theorem ct_moc {σ : mk_S} {o : List Int} (ho : rowOK σ 53 1200 o) (i : Int) (k : Q (some (vI (gt o i))) (hp L σ)) : mm_call 132 [vP 34, vI i] (hp L σ) Q := by
  refine ⟨Nat.le_of_ble_eq_true rfl, ?_⟩
  show mm_X 132 0 [vP 34, vI i] [] _ _
  refine r_aload_n c_132_0 rfl <| r_getf_a c_132_1 rfl rfl <| r_iload_n c_132_4 rfl <| r_cV1 c_132_5 rfl (Nat.le_of_ble_eq_true rfl) <| ?_
  refine ct_at row53 ho i ?_
  refine r_iret c_132_8 <| ?_
  exact k
theorem ct_octet {σ : mk_S} {o : List Int} (ho : rowOK σ 53 1200 o) (i : Int) (k : Q (some (vI (gt o i))) (hp L σ)) : mm_call 131 [vP 2, vI i] (hp L σ) Q := by
  refine ⟨Nat.le_of_ble_eq_true rfl, ?_⟩
  show mm_X 131 0 [vP 2, vI i] [] _ _
  refine r_iload_n c_131_0 rfl <| r_if_lt c_131_1 (fun h1 => ?_) <| (fun h1 => ?_)
  · refine r_iconst c_131_26 <| r_iret c_131_27 <| ?_
    first | exact k | exact q_val k (gt_out (l := o) (i := i) (by omega)).symm
  · refine r_iload_n c_131_4 rfl <| r_aload_n c_131_5 rfl <| r_getf_a c_131_6 rfl rfl <| r_cV0 c_131_9 rfl (Nat.le_of_ble_eq_true rfl) <| ?_
    refine ct_msz ho ?_
    refine r_icmp_ge c_131_12 (fun h12 => ?_) <| (fun h12 => ?_)
    · refine r_iconst c_131_26 <| r_iret c_131_27 <| ?_
      first | exact k | exact q_val k (gt_out (l := o) (i := i) (by omega)).symm
    · refine r_aload_n c_131_15 rfl <| r_getf_a c_131_16 rfl rfl <| r_iload_n c_131_19 rfl <| r_cV1 c_131_20 rfl (Nat.le_of_ble_eq_true rfl) <| ?_
      refine ct_moc ho i ?_
      refine r_goto c_131_23 <| r_iret c_131_27 <| ?_
      first | exact k | exact q_val k (gt_out (l := o) (i := i) (by omega)).symm
def mMade (σ : mk_S) (o : List Int) : Prop := σ 55 48 = (o.length : Int) ∧ o.length ≤ 8000 ∧ ∀ i, i < o.length → σ 84 i = mm_w8 (o.getD i 0)
theorem mMade.eq {σ σ' : mk_S} {o : List Int} (h : mMade σ o) (e1 : σ' 55 48 = σ 55 48) (e2 : σ' 84 = σ 84) : mMade σ' o := by
  refine ⟨e1.trans h.1, h.2.1, fun i hi => ?_⟩
  rw [e2]; exact h.2.2 i hi
theorem ct_moctet {σ : mk_S} {o : List Int} (ho : mMade σ o) (hoc : octs o) (i : Int) (k : ∀ σ', mf [] [0] σ σ' → Q (some (vI (gt o i))) (hp L σ')) : mm_call 190 [vP 55, vI i] (hp L σ) Q := by
  have f0 : mf [] [0] σ (sto σ 55 0 0) := mf.rf.stF (by decide)
  have k := k _ f0
  have ho0 : mMade (sto σ 55 0 0) o := ho.eq (f0.2 48 (by decide)) (f0.1 84 (by decide) (by decide))
  have e48 := ho0.1
  have h8 := ho0.2.1
  refine ⟨Nat.le_of_ble_eq_true rfl, ?_⟩
  show mm_X 190 0 [vP 55, vI i] [] _ _
  refine r_aload_n c_190_0 rfl <| r_iconst c_190_1 <| r_putf c_190_2 rfl rfl <| r_iload_n c_190_5 rfl <| r_iconst c_190_6 <| r_aload_n c_190_7 rfl <| r_getf_i c_190_8 rfl rfl <| ?_
  rw [e48]
  refine r_iconst c_190_11 <| r_isub c_190_12 (by omega) <| r_cS3 c_190_13 (Nat.le_of_ble_eq_true rfl) <| ?_
  refine ct_in _ _ _ (fun hi => ?_) (fun hi => ?_)
  · refine r_if_eq c_190_16 (fun h => absurd h (by decide)) <| (fun _ => ?_)
    refine r_aload_n c_190_19 rfl <| r_getf_a c_190_20 rfl rfl <| r_iload_n c_190_23 rfl <| r_bald c_190_24 rfl (Or.inr rfl) (jn := i.toNat) (by omega) (by omega) <| r_sipush c_190_25 <| r_iand c_190_28 rfl <| r_goto c_190_29 <| r_iret c_190_33 <| ?_
    first
    | (refine q_val k ?_
       have e : gt o i = o.getD i.toNat 0 := by
         rw [show i = (i.toNat : Int) by omega, gt_nat (by omega), Int.toNat_natCast]
       rw [ho0.2.2 i.toNat (by omega), w8_255 (hoc i.toNat (by omega)), e])
    | exact q_val k (gt_out (l := o) (i := i) (by omega)).symm
  · refine r_if_eq c_190_16 (fun _ => ?_) <| (fun h => absurd h (by decide))
    refine r_iconst c_190_32 <| r_iret c_190_33 <| ?_
    first
    | (refine q_val k ?_
       have e : gt o i = o.getD i.toNat 0 := by
         rw [show i = (i.toNat : Int) by omega, gt_nat (by omega), Int.toNat_natCast]
       rw [ho0.2.2 i.toNat (by omega), w8_255 (hoc i.toNat (by omega)), e])
    | exact q_val k (gt_out (l := o) (i := i) (by omega)).symm
end MAKE
