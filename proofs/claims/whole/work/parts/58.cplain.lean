/-! MAKE: plain letters out, the class's side. -/
def p51 (last : Nat) : List (List Int) → Nat → Int
  | [], _ => -1
  | x :: xs, i => if (plN x).length = 0 ∧ (i < last ∨ last = 0) then i else p51 last xs (i + 1)
def p52 : List (List Int) → Nat → Int
  | [], _ => -1
  | x :: xs, i => if 63 < (plN x).length then i else p52 xs (i + 1)
def ptot (ls : List (List Int)) : Int := ((outF plN ls 0).length : Int) - (if 1 < ls.length ∧ (plN (ls.getD (ls.length - 1) [])).length = 0 then 1 else 0)
def PL (ls : List (List Int)) : Int × Int × Int :=
  if 0 ≤ p51 (ls.length - 1) ls 0 then (51, p51 (ls.length - 1) ls 0, 0)
  else if 0 ≤ p52 ls 0 then (52, p52 ls 0, 63)
  else if ptot ls ≤ 0 ∨ 253 < ptot ls then (53, (ls.length : Int) - 1, 0)
  else (0, 0, 0)
def mn3 (n : Nat) : Nat := if n ≤ 300 then n else 300
def smF : List (List Int) → Nat
  | [] => 0
  | x :: xs => mn3 (plN x).length + smF xs
theorem p51_or {last : Nat} : ∀ (l : List (List Int)) (i : Nat), p51 last l i = -1 ∨ ((i : Int) ≤ p51 last l i ∧ p51 last l i < i + l.length)
  | [], i => Or.inl rfl
  | x :: xs, i => by
    simp only [p51, List.length_cons]
    split
    · right; omega
    · have := p51_or (last := last) xs (i + 1); omega
theorem p52_or : ∀ (l : List (List Int)) (i : Nat), p52 l i = -1 ∨ ((i : Int) ≤ p52 l i ∧ p52 l i < i + l.length)
  | [], i => Or.inl rfl
  | x :: xs, i => by
    simp only [p52, List.length_cons]
    split
    · right; omega
    · have := p52_or xs (i + 1); omega
theorem smF_out : ∀ (l : List (List Int)) (i : Nat), p52 l i = -1 → (outF plN l i).length = smF l + (if 0 < i then l.length else l.length - 1) ∧ ∀ y, y ∈ l → (plN y).length ≤ 63
  | [], i, h => ⟨by simp [outF, smF], fun y hy => absurd hy (by simp)⟩
  | x :: xs, i, h => by
    simp only [p52] at h
    split at h
    · omega
    · next g =>
      have ih := smF_out xs (i + 1) h
      rw [if_pos (by omega)] at ih
      refine ⟨?_, fun y hy => ?_⟩
      · simp only [outF, smF, List.length_append, List.length_cons]
        rw [ih.1]
        have hm : mn3 (plN x).length = (plN x).length := by unfold mn3; rw [if_pos (by omega)]
        rw [hm]
        by_cases e : 0 < i
        · rw [if_pos e, if_pos e]; simp only [List.length_cons, List.length_nil]; omega
        · rw [if_neg e, if_neg e]; simp only [List.length_nil]; omega
      · rcases List.mem_cons.1 hy with rfl | hy
        · omega
        · exact ih.2 y hy
theorem smF_le : ∀ l : List (List Int), smF l ≤ 300 * l.length
  | [] => Nat.le_refl _
  | x :: xs => by
    have := smF_le xs
    have h2 : mn3 (plN x).length ≤ 300 := by unfold mn3; split <;> omega
    simp only [smF, List.length_cons]; omega
theorem smF_snoc : ∀ (l : List (List Int)) (x : List Int), smF (l ++ [x]) = smF l + mn3 (plN x).length
  | [], x => by simp [smF]
  | y :: ys, x => by
    simp only [List.cons_append, smF]
    rw [smF_snoc ys x]; omega
section CPLAIN
variable {L : Nat} {T : mk_S}
theorem ct_fold2 {rs ns ro a e : Nat} {lw o0 : List Int} {σ : mk_S} {Q : Option mm_V → mm_H → Prop} (hrs : isRow L rs ns) (hro : isRow L ro 300) (hne : rs ≠ ro ∧ rs ≠ ro + 1 ∧ rs + 1 ≠ ro) (he : e ≤ lw.length) (hae : a ≤ e) (hea : e - a ≤ 300) (hpl : ∀ y, y ∈ sg lw a e → y ≤ 1114111) (hs : rowOK σ rs ns lw) (ho : rowOK σ ro 300 o0)
    (k1 : (o0 ++ enc (sg lw a e)).length ≤ 300 → ∀ σ', rowOK σ' ro 300 (o0 ++ enc (sg lw a e)) → fr2 ro σ σ' → Q (some (vI (-1))) (hp L σ'))
    (k0 : 300 < (o0 ++ enc (sg lw a e)).length → ∀ σ' l', rowOK σ' ro 300 l' → l'.length = 300 → fr2 ro σ σ' → Q (some (vI (-3))) (hp L σ')) : mm_call 79 [vP rs, vI (a : Nat), vI (e : Nat), vP ro] (hp L σ) Q := by
  have hb1 := hrs.2.2
  have hb2 := hs.2.1
  have hlen : (sg lw a e).length = e - a := sg_len he
  have hble := bs_le (sg lw a e)
  generalize hB : (bs (sg lw a e)).length = B at *
  have key : ∀ σ1 o (Q' : Option mm_V → mm_H → Prop), rowOK σ1 rs ns lw → fr2 ro σ σ1 → rowOK σ1 ro 300 o → o = o0 ++ (bs (sg lw a e) ++ (if 0 < B then [45] else [])) → ((o0 ++ enc (sg lw a e)).length ≤ 300 → ∀ σ', rowOK σ' ro 300 (o0 ++ enc (sg lw a e)) → fr2 ro σ σ' → Q' (some (vI (-1))) (hp L σ')) → (300 < (o0 ++ enc (sg lw a e)).length → ∀ σ' l', rowOK σ' ro 300 l' → l'.length = 300 → fr2 ro σ σ' → Q' (some (vI (-3))) (hp L σ')) →
      mm_call 80 [vP rs, vI (a : Nat), vI (e : Nat), vI (B : Nat), vP ro] (hp L σ1) Q' := by
    intro σ1 o Q' g1 g3 g2 eo k1 k0
    unfold enc at k1 k0
    rw [hB, ← List.append_assoc (bs _), ← List.append_assoc o0, ← eo] at k1 k0
    have hR := enR_start (l := sg lw a e)
    rw [hB] at hR
    refine ⟨Nat.le_of_ble_eq_true rfl, ?_⟩
    show mm_X 80 0 [vP rs, vI (a : Nat), vI (e : Nat), vI (B : Nat), vP ro, mm_null, mm_null, mm_null, mm_null, mm_null, mm_null, mm_null, mm_null] [] _ _
    refine r_sipush c_80_0 <| r_istore_13_5 c_80_3 rfl <| r_lconst c_80_5 <| r_lstore_13_6 c_80_6 rfl <| r_bipush c_80_8 <| r_istore_13_8 c_80_10 rfl <| r_iload_n c_80_12 rfl <| r_istore_13_9 c_80_13 rfl <| r_iload_n c_80_15 rfl <| r_istore_13_10 c_80_16 rfl <| ?_
    rw [hlen] at k1 k0
    exact lp_fwO hrs hro hne he hae hea hpl (e - a) a 128 0 72 _ o σ1 _ _ Q' (by omega) g1 g2 hR (fun w1 σ2 w2 w3 => k1 w1 σ2 w2 (g3.tr w3)) (fun w1 σ2 l2 w2 w4 w3 => k0 w1 σ2 l2 w2 w4 (g3.tr w3))
  have hE : enc (sg lw a e) = bs (sg lw a e) ++ ((if 0 < B then [45] else []) ++ enO (sg lw a e) B (sg lw a e).length 128 0 72 B) := by rw [← hB]; rfl
  refine ⟨Nat.le_of_ble_eq_true rfl, ?_⟩
  show mm_X 79 0 [vP rs, vI (a : Nat), vI (e : Nat), vP ro, mm_null, mm_null] [] _ _
  refine r_iconst c_79_0 <| r_istore_6_4 c_79_1 rfl <| r_iload_n c_79_3 rfl <| r_istore_6_5 c_79_4 rfl <| ?_
  refine lp_fold hrs hro hne he (e - a) a 0 o0 σ Q (by omega) (by omega) hs ho (fun w1 σ1 w2 w3 => ?_) (fun w1 σ1 l1 w2 w4 w3 => k0 (by rw [hE]; simp only [List.length_append] at w1 ⊢; omega) σ1 l1 w2 w4 w3)
  rw [Nat.zero_add, hB]
  have hs1 := hs.fr2 w3 hne
  refine r_iload c_79_49 rfl <| r_if_le c_79_51 (fun h51 => ?_) <| (fun h51 => ?_)
  · refine r_aload_n c_79_66 rfl <| r_iload_n c_79_67 rfl <| r_iload_n c_79_68 rfl <| r_iload c_79_69 rfl <| r_aload_n c_79_71 rfl <| r_cS5 c_79_72 (Nat.le_of_ble_eq_true rfl) <| ?_
    refine key _ _ _ (by first|exact hs1.fr2 hf2 hne|exact hs1) (by first|exact w3.tr hf2|exact w3) (by first|exact hl2|exact w2) (by first|(rw [if_pos (by omega), List.append_assoc])|(rw [if_neg (by omega), List.append_nil])) (fun z1 σ3 z2 z3 => ?_) (fun z1 σ3 l3 z2 z4 z3 => ?_)
    · refine r_iret c_79_75 <| ?_
      first | exact k1 z1 σ3 z2 z3 | exact k0 z1 σ3 l3 z2 z4 z3
    · refine r_iret c_79_75 <| ?_
      first | exact k1 z1 σ3 z2 z3 | exact k0 z1 σ3 l3 z2 z4 z3
  · refine r_aload_n c_79_54 rfl <| r_bipush c_79_55 <| r_cV1 c_79_57 hro.1 (Nat.le_of_ble_eq_true rfl) <| ?_
    refine ct_append hro w2 _ (fun hlt σ2 hl2 hf2 => ?_) (fun hfull => ?_)
    · refine r_if_ne c_79_60 (fun _ => ?_) <| (fun h => absurd h (by decide))
      refine r_aload_n c_79_66 rfl <| r_iload_n c_79_67 rfl <| r_iload_n c_79_68 rfl <| r_iload c_79_69 rfl <| r_aload_n c_79_71 rfl <| r_cS5 c_79_72 (Nat.le_of_ble_eq_true rfl) <| ?_
      refine key _ _ _ (by first|exact hs1.fr2 hf2 hne|exact hs1) (by first|exact w3.tr hf2|exact w3) (by first|exact hl2|exact w2) (by first|(rw [if_pos (by omega), List.append_assoc])|(rw [if_neg (by omega), List.append_nil])) (fun z1 σ3 z2 z3 => ?_) (fun z1 σ3 l3 z2 z4 z3 => ?_)
      · refine r_iret c_79_75 <| ?_
        first | exact k1 z1 σ3 z2 z3 | exact k0 z1 σ3 l3 z2 z4 z3
      · refine r_iret c_79_75 <| ?_
        first | exact k1 z1 σ3 z2 z3 | exact k0 z1 σ3 l3 z2 z4 z3
    · refine r_if_ne c_79_60 (fun h => absurd h (by decide)) <| (fun _ => ?_)
      refine r_bipush c_79_63 <| r_iret c_79_65 <| ?_
      exact k0 (by rw [hE, if_pos (by omega)]; simp only [List.length_append, List.length_cons] at hfull ⊢; omega) σ1 _ w2 hfull w3
theorem ct_isWide {σ : mk_S} {ls : List (List Int)} {Q : Option mm_V → mm_H → Prop} (hs : lbs σ ls) {i : Nat} (hi : i < ls.length) (k1 : wdF (ls.getD i []) = true → Q (some (vI 1)) (hp L σ)) (k0 : wdF (ls.getD i []) = false → Q (some (vI 0)) (hp L σ)) : mm_call 123 [vP 46, vI (i : Nat)] (hp L σ) Q := by
  have h2 := ofs_succ hi
  have h4 := ofs_fit hi
  have esg := sg_fl hi
  refine ⟨Nat.le_of_ble_eq_true rfl, ?_⟩
  show mm_X 123 0 [vP 46, vI (i : Nat)] [] _ _
  refine r_aload_n c_123_0 rfl <| r_getf_a c_123_1 rfl rfl <| r_aload_n c_123_4 rfl <| r_iload_n c_123_5 rfl <| r_cV1 c_123_6 rfl (Nat.le_of_ble_eq_true rfl) <| ?_
  refine ct_lstart hs (by omega) ?_
  refine r_aload_n c_123_9 rfl <| r_iload_n c_123_10 rfl <| r_cV1 c_123_11 rfl (Nat.le_of_ble_eq_true rfl) <| ?_
  refine ct_lend hs hi ?_
  refine r_cS3 c_123_14 (Nat.le_of_ble_eq_true rfl) <| ?_
  refine ct_hw row47 hs.1 (by omega) (by omega) (fun hw => ?_) (fun hw => ?_)
  · refine r_zret c_123_17 (Or.inr rfl) <| ?_
    rw [esg] at hw
    first | exact k1 hw | exact k0 hw
  · refine r_zret c_123_17 (Or.inl rfl) <| ?_
    rw [esg] at hw
    first | exact k1 hw | exact k0 hw
theorem ct_tpl {σ : mk_S} {ls : List (List Int)} {Q : Option mm_V → mm_H → Prop} (hs : lbs σ ls) (hpl : ∀ y, y ∈ ls → pts y) {i : Nat} (hi : i < ls.length) (k : ∀ σ' l', rowOK σ' 42 300 l' → ((plN (ls.getD i [])).length ≤ 300 → l' = plN (ls.getD i [])) → (300 < (plN (ls.getD i [])).length → l'.length = 300) → cf [42, 43] σ σ' → Q (some (vI 1)) (hp L σ')) : mm_call 122 [vP 34, vI (i : Nat)] (hp L σ) Q := by
  have h2 := ofs_succ hi
  have h4 := ofs_fit hi
  have h5 := hs.1.2.1
  have esg := sg_fl hi
  have hx : pts (ls.getD i []) := hpl _ (by rw [List.getD_eq_getElem?_getD, List.getElem?_eq_getElem hi]; exact List.getElem_mem hi)
  unfold plN at k
  refine ⟨Nat.le_of_ble_eq_true rfl, ?_⟩
  show mm_X 122 0 [vP 34, vI (i : Nat)] [] _ _
  refine r_aload_n c_122_0 rfl <| r_getf_a c_122_1 rfl rfl <| r_cV0 c_122_4 rfl (Nat.le_of_ble_eq_true rfl) <| ?_
  refine ct_clear row42 (fun σ1 hl1 hf1 => ?_)
  have hs1 := hs.cf (hf1.cf (A := [42, 43]) (by decide) (by decide)) (by decide)
  refine r_aload_n c_122_7 rfl <| r_getf_a c_122_8 rfl rfl <| r_iload_n c_122_11 rfl <| r_cV1 c_122_12 rfl (Nat.le_of_ble_eq_true rfl) <| ?_
  refine ct_isWide hs1 hi (fun hw => ?_) (fun hw => ?_)
  · refine r_if_ne c_122_15 (fun _ => ?_) <| (fun h => absurd h (by decide))
    refine r_aload_n c_122_51 rfl <| r_getf_a c_122_52 rfl rfl <| r_bipush c_122_55 <| r_cV1 c_122_57 rfl (Nat.le_of_ble_eq_true rfl) <| ?_
    refine ct_append row42 hl1 _ (fun _ σ2 hl2 hf2 => ?_) (fun e => absurd e (by decide))
    refine r_pop c_122_60 (v := vI _) rfl <| r_aload_n c_122_61 rfl <| r_getf_a c_122_62 rfl rfl <| r_bipush c_122_65 <| r_cV1 c_122_67 rfl (Nat.le_of_ble_eq_true rfl) <| ?_
    refine ct_append row42 hl2 _ (fun _ σ3 hl3 hf3 => ?_) (fun e => absurd e (by simp))
    refine r_pop c_122_70 (v := vI _) rfl <| r_aload_n c_122_71 rfl <| r_getf_a c_122_72 rfl rfl <| r_bipush c_122_75 <| r_cV1 c_122_77 rfl (Nat.le_of_ble_eq_true rfl) <| ?_
    refine ct_append row42 hl3 _ (fun _ σ4 hl4 hf4 => ?_) (fun e => absurd e (by simp))
    refine r_pop c_122_80 (v := vI _) rfl <| r_aload_n c_122_81 rfl <| r_getf_a c_122_82 rfl rfl <| r_bipush c_122_85 <| r_cV1 c_122_87 rfl (Nat.le_of_ble_eq_true rfl) <| ?_
    refine ct_append row42 hl4 _ (fun _ σ5 hl5 hf5 => ?_) (fun e => absurd e (by simp))
    have c5 : cf [42, 43] σ σ5 := ((((hf1.cf (by decide) (by decide)).tr (hf2.cf (by decide) (by decide))).tr (hf3.cf (by decide) (by decide))).tr (hf4.cf (by decide) (by decide))).tr (hf5.cf (by decide) (by decide))
    have hs5 := hs.cf c5 (by decide)
    refine r_pop c_122_90 (v := vI _) rfl <| r_aload_n c_122_91 rfl <| r_getf_a c_122_92 rfl rfl <| r_cV0 c_122_95 rfl (Nat.le_of_ble_eq_true rfl) <| ?_
    refine ct_lpts (L := L) ?_ ⟨σ5, rfl⟩
    refine r_aload_n c_122_98 rfl <| r_getf_a c_122_99 rfl rfl <| r_iload_n c_122_102 rfl <| r_cV1 c_122_103 rfl (Nat.le_of_ble_eq_true rfl) <| ?_
    refine ct_lstart hs5 (by omega) ?_
    refine r_aload_n c_122_106 rfl <| r_getf_a c_122_107 rfl rfl <| r_iload_n c_122_110 rfl <| r_cV1 c_122_111 rfl (Nat.le_of_ble_eq_true rfl) <| ?_
    refine ct_lend hs5 hi ?_
    refine r_aload_n c_122_114 rfl <| r_getf_a c_122_115 rfl rfl <| r_cS4 c_122_118 (Nat.le_of_ble_eq_true rfl) <| ?_
    refine ct_fold2 (a := ofs ls i) (e := ofs ls (i + 1)) row47 row42 (by decide) (by omega) (by omega) (by omega) (by rw [esg]; exact pts_le hx) hs5.1 hl5 (fun hlen σ6 hl6 hf6 => ?_) (fun hlen σ6 l6 hl6 he6 hf6 => ?_)
    · refine r_bipush c_122_121 <| r_icmp_eq c_122_123 (fun h => absurd h (by decide)) <| (fun _ => ?_)
      refine r_iconst c_122_126 <| r_goto c_122_127 <| r_zret c_122_131 (Or.inr rfl) <| ?_
      rw [esg] at hlen
      rw [if_neg (by rw [hw]; decide)] at k
      first
      | exact k σ6 _ hl6 (fun _ => by rw [esg]; rfl) (fun h => absurd h (by simp only [List.length_append, List.length_cons, List.length_nil] at hlen ⊢; omega)) (c5.tr (hf6.cf (by decide) (by decide)))
      | exact k σ6 _ hl6 (fun h => absurd h (by simp only [List.length_append, List.length_cons, List.length_nil] at hlen ⊢; omega)) (fun _ => he6) (c5.tr (hf6.cf (by decide) (by decide)))
    · refine r_bipush c_122_121 <| r_icmp_eq c_122_123 (fun h => absurd h (by decide)) <| (fun _ => ?_)
      refine r_iconst c_122_126 <| r_goto c_122_127 <| r_zret c_122_131 (Or.inr rfl) <| ?_
      rw [esg] at hlen
      rw [if_neg (by rw [hw]; decide)] at k
      first
      | exact k σ6 _ hl6 (fun _ => by rw [esg]; rfl) (fun h => absurd h (by simp only [List.length_append, List.length_cons, List.length_nil] at hlen ⊢; omega)) (c5.tr (hf6.cf (by decide) (by decide)))
      | exact k σ6 _ hl6 (fun h => absurd h (by simp only [List.length_append, List.length_cons, List.length_nil] at hlen ⊢; omega)) (fun _ => he6) (c5.tr (hf6.cf (by decide) (by decide)))
  · refine r_if_ne c_122_15 (fun h => absurd h (by decide)) <| (fun _ => ?_)
    refine r_aload_n c_122_18 rfl <| r_getf_a c_122_19 rfl rfl <| r_aload_n c_122_22 rfl <| r_getf_a c_122_23 rfl rfl <| r_cV0 c_122_26 rfl (Nat.le_of_ble_eq_true rfl) <| ?_
    refine ct_lpts (L := L) ?_ ⟨σ1, rfl⟩
    refine r_aload_n c_122_29 rfl <| r_getf_a c_122_30 rfl rfl <| r_iload_n c_122_33 rfl <| r_cV1 c_122_34 rfl (Nat.le_of_ble_eq_true rfl) <| ?_
    refine ct_lstart hs1 (by omega) ?_
    refine r_aload_n c_122_37 rfl <| r_getf_a c_122_38 rfl rfl <| r_iload_n c_122_41 rfl <| r_cV1 c_122_42 rfl (Nat.le_of_ble_eq_true rfl) <| ?_
    refine ct_lend hs1 hi ?_
    refine r_cV3 c_122_45 rfl (Nat.le_of_ble_eq_true rfl) <| ?_
    refine ct_appendFrom (a := ofs ls i) (b := ofs ls (i + 1)) row42 row47 (by decide) hl1 hs1.1 (by omega) (by omega) (fun hlt σ2 hl2 hf2 => ?_) (fun hgt => absurd hgt (by simp only [List.length_nil]; omega))
    refine r_pop c_122_48 (v := vI _) rfl <| r_iconst c_122_49 <| r_zret c_122_50 (Or.inr rfl) <| ?_
    rw [List.nil_append, esg] at hl2
    rw [if_pos hw] at k
    exact k σ2 _ hl2 (fun _ => rfl) (fun h => absurd h (by omega)) ((hf1.cf (by decide) (by decide)).tr (hf2.cf (by decide) (by decide)))
theorem lp_s53 {σ : mk_S} {ls : List (List Int)} {z tot : Int} {Q : Option mm_V → mm_H → Prop} (hn : 1 ≤ ls.length ∧ ls.length ≤ 301) (hz : z = (ls.length : Int) - 1) (hP : ∀ j, j < ls.length → σ 50 j = (mn3 (plN (ls.getD j [])).length : Int)) (htot : -1000000 ≤ tot ∧ tot ≤ 1000000)
    (k1 : p52 ls 0 = -1 → ∀ b3, mm_X 124 95 [vP 34, vI z, vI tot, b3] [] (hp L σ) Q) (k0 : 0 ≤ p52 ls 0 → ∀ σ', dF σ' 52 (p52 ls 0) 63 → cf [34] σ σ' → Q (some (vI 0)) (hp L σ')) : ∀ (k j : Nat), j + k = ls.length → p52 ls 0 = p52 (ls.drop j) j → mm_X 124 63 [vP 34, vI z, vI tot, vI (j : Nat)] [] (hp L σ) Q := by
  intro k
  induction k with
  | zero =>
    intro j hj hR
    have ej : j = ls.length := by omega
    subst ej
    rw [List.drop_length] at hR
    simp only [p52] at hR
    have k1 := k1 hR
    refine r_iload_n c_124_63 rfl <| r_iload_n c_124_64 rfl <| r_icmp_gt c_124_65 (fun h65 => ?_) <| (fun h65 => ?_)
    · exact k1 _
    · exact absurd h65 (by omega)
  | succ k ih =>
    intro j hj hR
    rw [drs_at (by omega)] at hR
    simp only [p52] at hR
    have hPj := hP j (by omega)
    have hm : (63 < mn3 (plN (ls.getD j [])).length) ↔ 63 < (plN (ls.getD j [])).length := by unfold mn3; split <;> omega
    refine r_iload_n c_124_63 rfl <| r_iload_n c_124_64 rfl <| r_icmp_gt c_124_65 (fun h65 => ?_) <| (fun h65 => ?_)
    · exact absurd h65 (by omega)
    · refine r_aload_n c_124_68 rfl <| r_getf_a c_124_69 rfl rfl <| r_iload_n c_124_72 rfl <| r_iald c_124_73 rfl (Or.inl rfl) (jn := j) (by omega) (by omega) <| ?_
      rw [hPj]
      refine r_bipush c_124_74 <| r_icmp_le c_124_76 (fun h76 => ?_) <| (fun h76 => ?_)
      · refine r_iinc_4_3 c_124_89 rfl (by omega) <| r_goto c_124_92 <| ?_
        rw [if_neg (by omega)] at hR
        exact ih (j + 1) (by omega) hR
      · refine r_aload_n c_124_79 rfl <| r_bipush c_124_80 <| r_iload_n c_124_82 rfl <| r_bipush c_124_83 <| r_cV3 c_124_85 rfl (Nat.le_of_ble_eq_true rfl) <| ?_
        refine ct_fail _ _ _ (fun σ2 hd2 hf2 => ?_)
        refine r_zret c_124_88 (by omega) <| ?_
        rw [if_pos (by omega)] at hR
        exact k0 (by omega) σ2 (by rw [hR]; exact hd2) hf2
theorem mn3_0 (n : Nat) : mn3 n = 0 ↔ n = 0 := by unfold mn3; split <;> omega
theorem mn3_le (n : Nat) : mn3 n ≤ 300 := by unfold mn3; split <;> omega
theorem lp_s51 {σ : mk_S} {ls : List (List Int)} {z : Int} {Q : Option mm_V → mm_H → Prop} (hn : 1 ≤ ls.length ∧ ls.length ≤ 301) (hz : z = (ls.length : Int) - 1) (hP : ∀ j, j < ls.length → σ 50 j = (mn3 (plN (ls.getD j [])).length : Int))
    (k1 : p51 (ls.length - 1) ls 0 = -1 → ∀ b3, mm_X 124 61 [vP 34, vI z, vI (z + smF ls), b3] [] (hp L σ) Q) (k0 : 0 ≤ p51 (ls.length - 1) ls 0 → ∀ σ', dF σ' 51 (p51 (ls.length - 1) ls 0) 0 → cf [34] σ σ' → Q (some (vI 0)) (hp L σ')) : ∀ (k j : Nat), j + k = ls.length → p51 (ls.length - 1) ls 0 = p51 (ls.length - 1) (ls.drop j) j → mm_X 124 14 [vP 34, vI z, vI (z + smF (ls.take j)), vI (j : Nat)] [] (hp L σ) Q := by
  intro k
  induction k with
  | zero =>
    intro j hj hR
    have ej : j = ls.length := by omega
    subst ej
    rw [List.drop_length] at hR
    rw [List.take_length]
    simp only [p51] at hR
    have k1 := k1 hR
    refine r_iload_n c_124_14 rfl <| r_iload_n c_124_15 rfl <| r_icmp_gt c_124_16 (fun h16 => ?_) <| (fun h16 => ?_)
    · exact k1 _
    · exact absurd h16 (by omega)
  | succ k ih =>
    intro j hj hR
    rw [drs_at (by omega)] at hR
    simp only [p51] at hR
    have hPj := hP j (by omega)
    have hm0 := mn3_0 (plN (ls.getD j [])).length
    have hml := mn3_le (plN (ls.getD j [])).length
    have hsl := smF_le (ls.take j)
    have htl : (ls.take j).length = j := by rw [List.length_take]; omega
    have hsn : smF (ls.take (j + 1)) = smF (ls.take j) + mn3 (plN (ls.getD j [])).length := by rw [tks_at (by omega), smF_snoc]
    have go : ¬ ((plN (ls.getD j [])).length = 0 ∧ (j < ls.length - 1 ∨ ls.length - 1 = 0)) → mm_X 124 46 [vP 34, vI z, vI (z + smF (ls.take j)), vI (j : Nat)] [] (hp L σ) Q := by
      intro hn2
      rw [if_neg hn2] at hR
      have ih := ih (j + 1) (by omega) hR
      rw [hsn] at ih
      refine r_iload_n c_124_46 rfl <| r_aload_n c_124_47 rfl <| r_getf_a c_124_48 rfl rfl <| r_iload_n c_124_51 rfl <| r_iald c_124_52 rfl (Or.inl rfl) (jn := j) (by omega) (by omega) <| ?_
      rw [hPj]
      refine r_iadd c_124_53 (by omega) <| r_istore_n_4_2 c_124_54 rfl <| r_iinc_4_3 c_124_55 rfl (by omega) <| r_goto c_124_58 <| ?_
      rw [show z + (smF (ls.take j) : Int) + (mn3 (plN (ls.getD j [])).length : Int) = z + ((smF (ls.take j) + mn3 (plN (ls.getD j [])).length : Nat) : Int) by omega]
      exact ih
    refine r_iload_n c_124_14 rfl <| r_iload_n c_124_15 rfl <| r_icmp_gt c_124_16 (fun h16 => ?_) <| (fun h16 => ?_)
    · exact absurd h16 (by omega)
    · refine r_aload_n c_124_19 rfl <| r_getf_a c_124_20 rfl rfl <| r_iload_n c_124_23 rfl <| r_iald c_124_24 rfl (Or.inl rfl) (jn := j) (by omega) (by omega) <| ?_
      rw [hPj]
      refine r_if_ne c_124_25 (fun h25 => ?_) <| (fun h25 => ?_)
      · exact go (by intro h; omega)
      · refine r_iload_n c_124_28 rfl <| r_iload_n c_124_29 rfl <| r_icmp_lt c_124_30 (fun h30 => ?_) <| (fun h30 => ?_)
        · refine r_aload_n c_124_37 rfl <| r_bipush c_124_38 <| r_iload_n c_124_40 rfl <| r_iconst c_124_41 <| r_cV3 c_124_42 rfl (Nat.le_of_ble_eq_true rfl) <| ?_
          refine ct_fail _ _ _ (fun σ2 hd2 hf2 => ?_)
          refine r_zret c_124_45 (by omega) <| ?_
          have hy : (plN (ls.getD j [])).length = 0 ∧ (j < ls.length - 1 ∨ ls.length - 1 = 0) := by omega
          rw [if_pos hy] at hR
          exact k0 (by omega) σ2 (by rw [hR]; exact hd2) hf2
        · refine r_iload_n c_124_33 rfl <| r_if_ne c_124_34 (fun h34 => ?_) <| (fun h34 => ?_)
          · exact go (by intro h; omega)
          · refine r_aload_n c_124_37 rfl <| r_bipush c_124_38 <| r_iload_n c_124_40 rfl <| r_iconst c_124_41 <| r_cV3 c_124_42 rfl (Nat.le_of_ble_eq_true rfl) <| ?_
            refine ct_fail _ _ _ (fun σ2 hd2 hf2 => ?_)
            refine r_zret c_124_45 (by omega) <| ?_
            have hy : (plN (ls.getD j [])).length = 0 ∧ (j < ls.length - 1 ∨ ls.length - 1 = 0) := by omega
            rw [if_pos hy] at hR
            exact k0 (by omega) σ2 (by rw [hR]; exact hd2) hf2
theorem ct_lps {σ : mk_S} {ls : List (List Int)} {Q : Option mm_V → mm_H → Prop} (hs : lbs σ ls) (hn : 1 ≤ ls.length) (hP : ∀ j, j < ls.length → σ 50 j = (mn3 (plN (ls.getD j [])).length : Int))
    (k1 : (PL ls).1 = 0 → Q (some (vI 1)) (hp L σ)) (k0 : (PL ls).1 ≠ 0 → ∀ σ', dF σ' (PL ls).1 (PL ls).2.1 (PL ls).2.2 → cf [34] σ σ' → Q (some (vI 0)) (hp L σ')) : mm_call 124 [vP 34] (hp L σ) Q := by
  have e46 := hs.2.1
  have h301 := hs.2.2.1
  have hsl := smF_le ls
  unfold PL at k1 k0
  have ho1 := p51_or (last := ls.length - 1) ls 0
  have ho2 := p52_or ls 0
  have hPl := hP (ls.length - 1) (by omega)
  refine ⟨Nat.le_of_ble_eq_true rfl, ?_⟩
  show mm_X 124 0 [vP 34, mm_null, mm_null, mm_null] [] _ _
  refine r_aload_n c_124_0 rfl <| r_getf_a c_124_1 rfl rfl <| r_cV0 c_124_4 rfl (Nat.le_of_ble_eq_true rfl) <| ?_
  refine ct_count ?_; rw [e46]
  refine r_iconst c_124_7 <| r_isub c_124_8 (by omega) <| r_istore_n_4_1 c_124_9 rfl <| r_iload_n c_124_10 rfl <| r_istore_n_4_2 c_124_11 rfl <| r_iconst c_124_12 <| r_istore_n_4_3 c_124_13 rfl <| ?_
  rw [show (ls.length : Int) - 1 = (ls.length : Int) - 1 + smF (ls.take 0) by simp [smF]]
  rw [show (ls.length : Int) - 1 + smF (ls.take 0) = (ls.length : Int) - 1 by simp [smF]]
  have key := lp_s51 (L := L) (Q := Q) (σ := σ) (z := (ls.length : Int) - 1) ⟨hn, h301⟩ rfl hP (fun e b3 => ?_) (fun e σ2 g1 g2 => ?_) ls.length 0 (by omega) (by rw [List.drop_zero])
  · simp only [List.take_zero, smF] at key
    simpa using key
  · rw [if_neg (by omega)] at k1 k0
    refine r_iconst c_124_61 <| r_istore_n_4_3 c_124_62 rfl <| ?_
    refine lp_s53 ⟨hn, h301⟩ rfl hP (by omega) (fun e b3 => ?_) (fun e σ2 g1 g2 => ?_) ls.length 0 (by omega) (by rw [List.drop_zero])
    · rw [if_neg (by omega)] at k1 k0
      have hso := smF_out ls 0 e
      rw [if_neg (by omega)] at hso
      have hlast := hso.2 (ls.getD (ls.length - 1) []) (by rw [List.getD_eq_getElem?_getD, List.getElem?_eq_getElem (by omega)]; exact List.getElem_mem (by omega))
      have hm : mn3 (plN (ls.getD (ls.length - 1) [])).length = (plN (ls.getD (ls.length - 1) [])).length := by unfold mn3; rw [if_pos (by omega)]
      rw [hm] at hPl
      have htot : ptot ls = (ls.length : Int) - 1 + smF ls - (if 1 < ls.length ∧ (plN (ls.getD (ls.length - 1) [])).length = 0 then 1 else 0) := by
        unfold ptot; rw [hso.1]; omega
      have fin : ∀ t : Int, t = ptot ls → ∀ b3, mm_X 124 111 [vP 34, vI ((ls.length : Int) - 1), vI t, b3] [] (hp L σ) Q := by
        intro t ht b3
        subst ht
        refine r_iload_n c_124_111 rfl <| r_if_le c_124_112 (fun h112 => ?_) <| (fun h112 => ?_)
        · refine r_aload_n c_124_122 rfl <| r_bipush c_124_123 <| r_iload_n c_124_125 rfl <| r_iconst c_124_126 <| r_cV3 c_124_127 rfl (Nat.le_of_ble_eq_true rfl) <| ?_
          refine ct_fail _ _ _ (fun σ2 hd2 hf2 => ?_)
          refine r_if_eq c_124_130 (fun h130 => ?_) <| (fun h130 => ?_)
          · refine r_iconst c_124_137 <| r_zret c_124_138 (Or.inl rfl) <| ?_
            first
            | (rw [if_neg (by omega)] at k1; exact k1 rfl)
            | exact absurd rfl (by assumption)
            | (rw [if_pos (by omega)] at k0; exact k0 (by simp) σ2 hd2 hf2)
          · refine r_iconst c_124_133 <| r_goto c_124_134 <| r_zret c_124_138 (Or.inr rfl) <| ?_
            first
            | (rw [if_neg (by omega)] at k1; exact k1 rfl)
            | exact absurd rfl (by assumption)
            | (rw [if_pos (by omega)] at k0; exact k0 (by simp) σ2 hd2 hf2)
        · refine r_iload_n c_124_115 rfl <| r_sipush c_124_116 <| r_icmp_le c_124_119 (fun h119 => ?_) <| (fun h119 => ?_)
          · refine r_iconst c_124_133 <| r_goto c_124_134 <| r_zret c_124_138 (Or.inr rfl) <| ?_
            first
            | (rw [if_neg (by omega)] at k1; exact k1 rfl)
            | exact absurd rfl (by assumption)
            | (rw [if_pos (by omega)] at k0; exact k0 (by simp) σ2 hd2 hf2)
          · refine r_aload_n c_124_122 rfl <| r_bipush c_124_123 <| r_iload_n c_124_125 rfl <| r_iconst c_124_126 <| r_cV3 c_124_127 rfl (Nat.le_of_ble_eq_true rfl) <| ?_
            refine ct_fail _ _ _ (fun σ2 hd2 hf2 => ?_)
            refine r_if_eq c_124_130 (fun h130 => ?_) <| (fun h130 => ?_)
            · refine r_iconst c_124_137 <| r_zret c_124_138 (Or.inl rfl) <| ?_
              first
              | (rw [if_neg (by omega)] at k1; exact k1 rfl)
              | exact absurd rfl (by assumption)
              | (rw [if_pos (by omega)] at k0; exact k0 (by simp) σ2 hd2 hf2)
            · refine r_iconst c_124_133 <| r_goto c_124_134 <| r_zret c_124_138 (Or.inr rfl) <| ?_
              first
              | (rw [if_neg (by omega)] at k1; exact k1 rfl)
              | exact absurd rfl (by assumption)
              | (rw [if_pos (by omega)] at k0; exact k0 (by simp) σ2 hd2 hf2)
      refine r_iload_n c_124_95 rfl <| r_if_le c_124_96 (fun h96 => ?_) <| (fun h96 => ?_)
      · first
        | exact fin _ (by rw [htot, if_pos (by omega)]; omega) _
        | exact fin _ (by rw [htot, if_neg (by omega)]; omega) _
      · refine r_aload_n c_124_99 rfl <| r_getf_a c_124_100 rfl rfl <| r_iload_n c_124_103 rfl <| r_iald c_124_104 rfl (Or.inl rfl) (jn := ls.length - 1) (by omega) (by omega) <| ?_
        rw [hPl]
        refine r_if_ne c_124_105 (fun h105 => ?_) <| (fun h105 => ?_)
        · first
          | exact fin _ (by rw [htot, if_pos (by omega)]; omega) _
          | exact fin _ (by rw [htot, if_neg (by omega)]; omega) _
        · refine r_iinc_4_2 c_124_108 rfl (by omega) <| ?_
          first
          | exact fin _ (by rw [htot, if_pos (by omega)]; omega) _
          | exact fin _ (by rw [htot, if_neg (by omega)]; omega) _
    · rw [if_pos e] at k0
      exact k0 (by simp) σ2 g1 g2
  · rw [if_pos e] at k0
    exact k0 (by simp) σ2 g1 g2
def okW (ls : List (List Int)) (i : Nat) : Prop := (∀ j, j < i → (plN (ls.getD j [])).length ≤ 300) ∧ (outF plN (ls.take i) 0).length ≤ 1200
theorem lp_wp {ls : List (List Int)} (hpl : ∀ y, y ∈ ls → pts y) (hn : 1 ≤ ls.length) : ∀ (k i : Nat) (dl : List Int) (σ : mk_S) (Q : Option mm_V → mm_H → Prop), i + k = ls.length → lbs σ ls → rowOK σ 51 1200 dl → (okW ls i → dl = outF plN (ls.take i) 0) → (∀ j, j < i → σ 50 j = (mn3 (plN (ls.getD j [])).length : Int)) →
    ((PL ls).1 = 0 → ∀ σ' dl, rowOK σ' 51 1200 dl → (okW ls ls.length → dl = outF plN ls 0) → cf [42, 43, 50, 51, 52] σ σ' → Q (some (vI 1)) (hp L σ')) →
    ((PL ls).1 ≠ 0 → ∀ σ', dF σ' (PL ls).1 (PL ls).2.1 (PL ls).2.2 → cf [34, 42, 43, 50, 51, 52] σ σ' → Q (some (vI 0)) (hp L σ')) →
    mm_X 121 2 [vP 34, vI (i : Nat)] [] (hp L σ) Q := by
  intro k
  induction k with
  | zero =>
    intro i dl σ Q hi hs ho hd hP k1 k0
    have e46 := hs.2.1
    have ei : i = ls.length := by omega
    subst ei
    rw [List.take_length] at hd
    refine r_iload_n c_121_2 rfl <| r_aload_n c_121_3 rfl <| r_getf_a c_121_4 rfl rfl <| r_cV0 c_121_7 rfl (Nat.le_of_ble_eq_true rfl) <| ?_
    refine ct_count ?_; rw [e46]
    refine r_icmp_ge c_121_10 (fun h10 => ?_) <| (fun h10 => ?_)
    · refine r_aload_n c_121_83 rfl <| r_cV0 c_121_84 rfl (Nat.le_of_ble_eq_true rfl) <| ?_
      refine ct_lps hs hn hP (fun h => ?_) (fun h σ1 g1 g2 => ?_)
      · refine r_zret c_121_87 (Or.inr rfl) <| ?_
        first | exact k1 h σ dl ho hd cf.rf | exact k0 h σ1 g1 (g2.up (by decide))
      · refine r_zret c_121_87 (Or.inl rfl) <| ?_
        first | exact k1 h σ dl ho hd cf.rf | exact k0 h σ1 g1 (g2.up (by decide))
    · exact absurd h10 (by omega)
  | succ k ih =>
    intro i dl σ Q hi hs ho hd hP k1 k0
    have e46 := hs.2.1
    have h301 := hs.2.2.1
    have hlt : i < ls.length := by omega
    have htl : (ls.take i).length = i := by rw [List.length_take]; omega
    have hst : outF plN (ls.take (i + 1)) 0 = outF plN (ls.take i) 0 ++ ((if 0 < i then [46] else []) ++ plN (ls.getD i [])) := by rw [tks_at hlt, outF_snoc, htl, Nat.zero_add]
    have hok : okW ls (i + 1) → okW ls i ∧ (plN (ls.getD i [])).length ≤ 300 ∧ (outF plN (ls.take i) 0).length + (if 0 < i then [46] else ([] : List Int)).length + (plN (ls.getD i [])).length ≤ 1200 := by
      intro h
      have h2 := h.2
      rw [hst, List.length_append, List.length_append] at h2
      exact ⟨⟨fun j hj => h.1 j (by omega), by omega⟩, h.1 i (by omega), by omega⟩
    have key : ∀ σ1 l' d1, lbs σ1 ls → rowOK σ1 42 300 l' → ((plN (ls.getD i [])).length ≤ 300 → l' = plN (ls.getD i [])) → (300 < (plN (ls.getD i [])).length → l'.length = 300) → cf [42, 43, 50, 51, 52] σ σ1 → (∀ j, j < i → σ1 50 j = (mn3 (plN (ls.getD j [])).length : Int)) → rowOK σ1 51 1200 d1 → (okW ls (i + 1) → d1 = outF plN (ls.take i) 0 ++ (if 0 < i then [46] else [])) → mm_X 121 44 [vP 34, vI (i : Nat)] [] (hp L σ1) Q := by
      intro σ1 l' d1 g1 g2 g3 g4 g5 g6 g7 g8
      have hm : (l'.length : Int) = (mn3 (plN (ls.getD i [])).length : Int) := by
        unfold mn3
        split
        · next h => rw [g3 h]
        · next h => rw [g4 (by omega)]
      have fin : ∀ σ2 d2, lbs σ2 ls → rowOK σ2 42 300 l' → cf [42, 43, 50, 51, 52] σ σ2 → (∀ j, j < i → σ2 50 j = (mn3 (plN (ls.getD j [])).length : Int)) → rowOK σ2 51 1200 d2 → (okW ls (i + 1) → d2 = outF plN (ls.take (i + 1)) 0) → mm_X 121 64 [vP 34, vI (i : Nat)] [] (hp L σ2) Q := by
        intro σ2 d2 w1 w2 w3 w4 w5 w6
        refine r_aload_n c_121_64 rfl <| r_getf_a c_121_65 rfl rfl <| r_iload_n c_121_68 rfl <| r_aload_n c_121_69 rfl <| r_getf_a c_121_70 rfl rfl <| r_cV0 c_121_73 rfl (Nat.le_of_ble_eq_true rfl) <| ?_
        refine ct_size row42 w2 ?_
        refine r_iast c_121_76 rfl (jn := i) (by omega) (by omega) <| r_iinc_2_1 c_121_77 rfl (by omega) <| r_goto c_121_80 <| ?_
        have c3 : cf [42, 43, 50, 51, 52] σ2 (sto σ2 50 i l'.length) := cf.rf.sto (by decide)
        refine ih (i + 1) d2 _ Q (by omega) (w1.cf (A := [50]) (cf.rf.sto (by decide)) (by decide)) (w5.cf (A := [50]) (cf.rf.sto (by decide)) (by decide) (by decide)) w6 (fun j hj => ?_) (fun u1 σ3 d3 u2 u3 u4 => k1 u1 σ3 d3 u2 u3 ((w3.tr c3).tr u4)) (fun u1 σ3 u2 u3 => k0 u1 σ3 u2 (((w3.tr c3).up (by decide)).tr u3))
        rw [sto_at]
        by_cases e : j = i
        · subst e; rw [st_at]; exact hm
        · rw [st_ne e]; exact w4 j (by omega)
      have esg : sg l' 0 l'.length = l' := sg_all
      refine r_aload_n c_121_44 rfl <| r_getf_a c_121_45 rfl rfl <| r_aload_n c_121_48 rfl <| r_getf_a c_121_49 rfl rfl <| r_iconst c_121_52 <| r_aload_n c_121_53 rfl <| r_getf_a c_121_54 rfl rfl <| r_cV0 c_121_57 rfl (Nat.le_of_ble_eq_true rfl) <| ?_
      refine ct_size row42 g2 ?_
      refine r_cV3 c_121_60 rfl (Nat.le_of_ble_eq_true rfl) <| ?_
      refine ct_appendFrom (a := 0) (b := l'.length) row51 row42 (by decide) g7 g2 (Nat.zero_le _) (Nat.le_refl _) (fun hlt σ2 hl2 hf2 => ?_) (fun hgt σ2 hl2 hf2 => ?_)
      · refine r_pop c_121_63 (v := vI _) rfl <| ?_
        have c2 : cf [42, 43, 50, 51, 52] σ1 σ2 := hf2.cf (by decide) (by decide)
        refine fin σ2 _ (g1.cf (hf2.cf (A := [51, 52]) (by decide) (by decide)) (by decide)) (g2.fr2 hf2 (by decide)) (g5.tr c2) (fun j hj => by rw [hf2 50 (by decide) (by decide)]; exact g6 j hj) hl2 (fun h => ?_)
        have hk := hok h
        have e1 := g8 h
        have e2 := g3 hk.2.1
        first
        | (exfalso
           rw [e1, e2, List.length_append] at hgt
           omega)
        | (rw [esg, e1, e2, hst, List.append_assoc])
      · refine r_pop c_121_63 (v := vI _) rfl <| ?_
        have c2 : cf [42, 43, 50, 51, 52] σ1 σ2 := hf2.cf (by decide) (by decide)
        refine fin σ2 _ (g1.cf (hf2.cf (A := [51, 52]) (by decide) (by decide)) (by decide)) (g2.fr2 hf2 (by decide)) (g5.tr c2) (fun j hj => by rw [hf2 50 (by decide) (by decide)]; exact g6 j hj) hl2 (fun h => ?_)
        have hk := hok h
        have e1 := g8 h
        have e2 := g3 hk.2.1
        first
        | (exfalso
           rw [e1, e2, List.length_append] at hgt
           omega)
        | (rw [esg, e1, e2, hst, List.append_assoc])
    refine r_iload_n c_121_2 rfl <| r_aload_n c_121_3 rfl <| r_getf_a c_121_4 rfl rfl <| r_cV0 c_121_7 rfl (Nat.le_of_ble_eq_true rfl) <| ?_
    refine ct_count ?_; rw [e46]
    refine r_icmp_ge c_121_10 (fun h10 => ?_) <| (fun h10 => ?_)
    · exact absurd h10 (by omega)
    · refine r_aload_n c_121_13 rfl <| r_iload_n c_121_14 rfl <| r_cV1 c_121_15 rfl (Nat.le_of_ble_eq_true rfl) <| ?_
      refine ct_tpl hs hpl hlt (fun σ1 l' hl1 q1 q2 hf1 => ?_)
      have c1 : cf [42, 43, 50, 51, 52] σ σ1 := hf1.up (by decide)
      have hs1 := hs.cf hf1 (by decide)
      have ho1 := ho.cf hf1 (by decide) (by decide)
      have hP1 : ∀ j, j < i → σ1 50 j = (mn3 (plN (ls.getD j [])).length : Int) := fun j hj => by rw [hf1 50 (by decide)]; exact hP j hj
      refine r_if_ne c_121_18 (fun _ => ?_) <| (fun h => absurd h (by decide))
      refine r_iload_n c_121_30 rfl <| r_if_le c_121_31 (fun h31 => ?_) <| (fun h31 => ?_)
      · first
        | exact key σ2 l' _ (hs1.cf (hf2.cf (A := [51, 52]) (by decide) (by decide)) (by decide)) (hl1.fr2 hf2 (by decide)) q1 q2 (c1.tr (hf2.cf (by decide) (by decide))) (fun j hj => by rw [hf2 50 (by decide) (by decide)]; exact hP1 j hj) hl2 (fun h => by rw [if_pos (by omega), hd (hok h).1])
        | (refine key σ1 l' dl hs1 hl1 q1 q2 c1 hP1 ho1 (fun h => ?_)
           have hk := (hok h).2.2
           have e := hd (hok h).1
           first
           | (rw [if_neg (by omega), List.append_nil]; exact e)
           | (exfalso
              rw [e] at hfull
              rw [if_pos (by omega)] at hk
              simp only [List.length_cons, List.length_nil] at hk
              omega))
      · refine r_aload_n c_121_34 rfl <| r_getf_a c_121_35 rfl rfl <| r_bipush c_121_38 <| r_cV1 c_121_40 rfl (Nat.le_of_ble_eq_true rfl) <| ?_
        refine ct_append row51 ho1 _ (fun hlt2 σ2 hl2 hf2 => ?_) (fun hfull => ?_)
        · refine r_pop c_121_43 (v := vI _) rfl <| ?_
          first
          | exact key σ2 l' _ (hs1.cf (hf2.cf (A := [51, 52]) (by decide) (by decide)) (by decide)) (hl1.fr2 hf2 (by decide)) q1 q2 (c1.tr (hf2.cf (by decide) (by decide))) (fun j hj => by rw [hf2 50 (by decide) (by decide)]; exact hP1 j hj) hl2 (fun h => by rw [if_pos (by omega), hd (hok h).1])
          | (refine key σ1 l' dl hs1 hl1 q1 q2 c1 hP1 ho1 (fun h => ?_)
             have hk := (hok h).2.2
             have e := hd (hok h).1
             first
             | (rw [if_neg (by omega), List.append_nil]; exact e)
             | (exfalso
                rw [e] at hfull
                rw [if_pos (by omega)] at hk
                simp only [List.length_cons, List.length_nil] at hk
                omega))
        · refine r_pop c_121_43 (v := vI _) rfl <| ?_
          first
          | exact key σ2 l' _ (hs1.cf (hf2.cf (A := [51, 52]) (by decide) (by decide)) (by decide)) (hl1.fr2 hf2 (by decide)) q1 q2 (c1.tr (hf2.cf (by decide) (by decide))) (fun j hj => by rw [hf2 50 (by decide) (by decide)]; exact hP1 j hj) hl2 (fun h => by rw [if_pos (by omega), hd (hok h).1])
          | (refine key σ1 l' dl hs1 hl1 q1 q2 c1 hP1 ho1 (fun h => ?_)
             have hk := (hok h).2.2
             have e := hd (hok h).1
             first
             | (rw [if_neg (by omega), List.append_nil]; exact e)
             | (exfalso
                rw [e] at hfull
                rw [if_pos (by omega)] at hk
                simp only [List.length_cons, List.length_nil] at hk
                omega))
theorem ct_wp {σ : mk_S} {ls : List (List Int)} {Q : Option mm_V → mm_H → Prop} (hpl : ∀ y, y ∈ ls → pts y) (hn : 1 ≤ ls.length) (hs : lbs σ ls) (ho : rowOK σ 51 1200 [])
    (k1 : (PL ls).1 = 0 → ∀ σ', rowOK σ' 51 1200 (outF plN ls 0) → cf [42, 43, 50, 51, 52] σ σ' → Q (some (vI 1)) (hp L σ'))
    (k0 : (PL ls).1 ≠ 0 → ∀ σ', dF σ' (PL ls).1 (PL ls).2.1 (PL ls).2.2 → cf [34, 42, 43, 50, 51, 52] σ σ' → Q (some (vI 0)) (hp L σ')) : mm_call 121 [vP 34] (hp L σ) Q := by
  refine ⟨Nat.le_of_ble_eq_true rfl, ?_⟩
  show mm_X 121 0 [vP 34, mm_null] [] _ _
  refine r_iconst c_121_0 <| r_istore_n_2_1 c_121_1 rfl <| ?_
  refine lp_wp hpl hn ls.length 0 [] σ Q (by omega) hs ho (fun _ => rfl) (fun j hj => absurd hj (Nat.not_lt_zero j)) (fun h σ1 dl w1 w2 w3 => ?_) k0
  have hok : okW ls ls.length := by
    have ho1 := p51_or (last := ls.length - 1) ls 0
    have ho2 := p52_or ls 0
    unfold PL at h
    split at h
    · exact absurd h (by simp)
    · split at h
      · exact absurd h (by simp)
      · split at h
        · exact absurd h (by simp)
        · next g1 g2 g3 =>
          have hso := smF_out ls 0 (by omega)
          refine ⟨fun j hj => ?_, ?_⟩
          · have := hso.2 (ls.getD j []) (by rw [List.getD_eq_getElem?_getD, List.getElem?_eq_getElem hj]; exact List.getElem_mem hj)
            omega
          · rw [List.take_length]
            unfold ptot at g3
            split at g3 <;> omega
  rw [w2 hok] at w1
  exact k1 h σ1 w1 w3
end CPLAIN
