/-! READ: one function of the octets, and both sides' walks through them. -/
def rdF : List Int → Nat → Int → Int → Int → Int → List Int → List Int × Int
  | [], i, _, m, _, _, ps => (ps, if m = 0 then -1 else (i : Int))
  | c :: t, i, v, m, lo, hi, ps =>
    if m = 0 then
      if fol c < 0 then (ps, (i : Int))
      else if fol c = 0 then (if ps.length < 300 then rdF t (i + 1) (bof c 0) 0 (loS c) (hiS c) (ps ++ [bof c 0]) else (ps, -2))
      else rdF t (i + 1) (bof c (fol c)) (fol c) (loS c) (hiS c) ps
    else if c < lo ∨ hi < c then (ps, (i : Int))
    else if m = 1 then (if ps.length < 300 then rdF t (i + 1) (v * 64 + c - 128) 0 128 191 (ps ++ [v * 64 + c - 128]) else (ps, -2))
    else rdF t (i + 1) (v * 64 + c - 128) (m - 1) 128 191 ps
def RD (t : List Int) : List Int × Int := rdF t 0 0 0 128 191 []
theorem rdF_z (l : List Int) (i : Nat) (v v' lo lo' hi hi' : Int) (ps : List Int) : rdF l i v 0 lo hi ps = rdF l i v' 0 lo' hi' ps := by
  cases l with
  | nil => rfl
  | cons c t => simp only [rdF, if_true]
theorem fol_cases (c : Int) : (fol c = 0 ∧ c < 128) ∨ (fol c = -1) ∨ (fol c = 1 ∧ 194 ≤ c ∧ c ≤ 223) ∨ (fol c = 2 ∧ 224 ≤ c ∧ c ≤ 239) ∨ (fol c = 3 ∧ 240 ≤ c ∧ c ≤ 244) := by
  unfold fol
  repeat' split
  all_goals omega
def rdV (v m lo hi : Int) : Prop := m = 0 ∨ (128 ≤ lo ∧ hi ≤ 191 ∧ ((m = 1 ∧ ((2 ≤ v ∧ v ≤ 863) ∨ (896 ≤ v ∧ v ≤ 17407))) ∨ (m = 2 ∧ ((0 ≤ v ∧ v ≤ 15 ∧ (v = 0 → 160 ≤ lo) ∧ (v = 13 → hi ≤ 159)) ∨ (16 ≤ v ∧ v ≤ 271))) ∨ (m = 3 ∧ 0 ≤ v ∧ v ≤ 4 ∧ (v = 0 → 144 ≤ lo) ∧ (v = 4 → hi ≤ 143))))
theorem rdV_first {c : Int} (h : 0 < fol c) : rdV (bof c (fol c)) (fol c) (loS c) (hiS c) := by
  rcases fol_cases c with ⟨e, h1⟩ | e | ⟨e, h1, h2⟩ | ⟨e, h1, h2⟩ | ⟨e, h1, h2⟩
  · omega
  · omega
  · have e1 : bof c 1 = c - 192 := by unfold bof; simp
    have e2 : loS c = 128 := by unfold loS; (repeat' split) <;> omega
    have e3 : hiS c = 191 := by unfold hiS; (repeat' split) <;> omega
    rw [e, e1, e2, e3]; unfold rdV; omega
  · have e1 : bof c 2 = c - 224 := by unfold bof; simp
    have e2 : (c = 224 ∧ loS c = 160) ∨ (c ≠ 224 ∧ loS c = 128) := by unfold loS; (repeat' split) <;> omega
    have e3 : (c = 237 ∧ hiS c = 159) ∨ (c ≠ 237 ∧ hiS c = 191) := by unfold hiS; (repeat' split) <;> omega
    rw [e, e1]; unfold rdV; omega
  · have e1 : bof c 3 = c - 240 := by unfold bof; simp
    have e2 : (c = 240 ∧ loS c = 144) ∨ (c ≠ 240 ∧ loS c = 128) := by unfold loS; (repeat' split) <;> omega
    have e3 : (c = 244 ∧ hiS c = 143) ∨ (c ≠ 244 ∧ hiS c = 191) := by unfold hiS; (repeat' split) <;> omega
    rw [e, e1]; unfold rdV; omega
theorem rdV_next {v m lo hi c : Int} (h : rdV v m lo hi) (hm : m ≠ 0) (h1 : lo ≤ c) (h2 : c ≤ hi) : (m = 1 → isPt (v * 64 + c - 128)) ∧ (m ≠ 1 → rdV (v * 64 + c - 128) (m - 1) 128 191) := by
  unfold rdV at h ⊢
  constructor
  · intro e; unfold isPt; omega
  · intro e; omega
theorem bof_pt {c : Int} (hc : 0 ≤ c) (h : fol c = 0) : isPt (bof c 0) := by
  rcases fol_cases c with ⟨e, h1⟩ | e | ⟨e, h1, h2⟩ | ⟨e, h1, h2⟩ | ⟨e, h1, h2⟩
  · unfold bof isPt; simp only [show ¬ ((0 : Int) = 1) by decide, show ¬ ((0 : Int) = 2) by decide, show ¬ ((0 : Int) = 3) by decide, if_false]; omega
  all_goals omega
theorem rdF_pts : ∀ (l : List Int) (i : Nat) (v m lo hi : Int) (ps : List Int), octs l → rdV v m lo hi → pts ps → ps.length ≤ 300 → pts (rdF l i v m lo hi ps).1 ∧ (rdF l i v m lo hi ps).1.length ≤ 300 ∧ -2 ≤ (rdF l i v m lo hi ps).2 ∧ (rdF l i v m lo hi ps).2 ≤ i + l.length
  | [], i, v, m, lo, hi, ps, ho, hv, hp, hl => by
    simp only [rdF]
    refine ⟨hp, hl, ?_, ?_⟩ <;> split <;> simp <;> omega
  | c :: t, i, v, m, lo, hi, ps, ho, hv, hp, hl => by
    have hc := ho 0 (by simp)
    simp only [List.getD_cons_zero] at hc
    have ht : octs t := fun j hj => by have := ho (j + 1) (by simpa using hj); simpa using this
    simp only [rdF, List.length_cons]
    split
    · next hm =>
      split
      · exact ⟨hp, hl, by dsimp only; omega, by dsimp only; omega⟩
      · next h1 =>
        split
        · next h2 =>
          split
          · next h3 =>
            have := rdF_pts t (i + 1) (bof c 0) 0 (loS c) (hiS c) (ps ++ [bof c 0]) ht (Or.inl rfl) (pts_app hp (bof_pt hc.1 h2)) (by simp; omega)
            refine ⟨this.1, this.2.1, this.2.2.1, ?_⟩
            have := this.2.2.2
            omega
          · exact ⟨hp, hl, by simp, by simp; omega⟩
        · next h2 =>
          have := rdF_pts t (i + 1) (bof c (fol c)) (fol c) (loS c) (hiS c) ps ht (rdV_first (by omega)) hp hl
          refine ⟨this.1, this.2.1, this.2.2.1, ?_⟩
          have := this.2.2.2
          omega
    · next hm =>
      split
      · exact ⟨hp, hl, by dsimp only; omega, by dsimp only; omega⟩
      · next h1 =>
        have hn := rdV_next (c := c) hv hm (by omega) (by omega)
        split
        · next h2 =>
          split
          · next h3 =>
            have := rdF_pts t (i + 1) (v * 64 + c - 128) 0 128 191 (ps ++ [v * 64 + c - 128]) ht (Or.inl rfl) (pts_app hp (hn.1 h2)) (by simp; omega)
            refine ⟨this.1, this.2.1, this.2.2.1, ?_⟩
            have := this.2.2.2
            omega
          · exact ⟨hp, hl, by simp, by simp; omega⟩
        · next h2 =>
          have := rdF_pts t (i + 1) (v * 64 + c - 128) (m - 1) 128 191 ps ht (hn.2 h2) hp hl
          refine ⟨this.1, this.2.1, this.2.2.1, ?_⟩
          have := this.2.2.2
          omega
theorem RD_pts {t : List Int} (h : octs t) : pts (RD t).1 ∧ (RD t).1.length ≤ 300 ∧ -2 ≤ (RD t).2 ∧ (RD t).2 ≤ t.length := by
  have := rdF_pts t 0 0 0 128 191 [] h (Or.inl rfl) pts_nil (Nat.zero_le _)
  refine ⟨this.1, this.2.1, this.2.2.1, ?_⟩
  have := this.2.2.2
  unfold RD
  omega
theorem drop_at {l : List Int} {i : Nat} (h : i < l.length) : l.drop i = l.getD i 0 :: l.drop (i + 1) := by
  rw [List.drop_eq_getElem_cons h, List.getD_eq_getElem?_getD, List.getElem?_eq_getElem h]
  rfl
section READ
variable {L : Nat} {Q : Option mm_V → mm_H → Prop}
theorem lp_take {rt rp : Nat} {t : List Int} {R : List Int × Int} (hrt : isRow L rt 400) (hrp : isRow L rp 300) (hne : rt ≠ rp ∧ rt ≠ rp + 1 ∧ rt + 1 ≠ rp) (ho : octs t) : ∀ (k i : Nat) (v m lo hi : Int) (ps : List Int) (a7 : mm_V) (σ : mk_S) (Q : Option mm_V → mm_H → Prop), t.length + 1 ≤ i + k → i ≤ t.length → rdV v m lo hi → rowOK σ rp 300 ps → rowOK σ rt 400 t → R = rdF (t.drop i) i v m lo hi ps →
    (∀ σ', rowOK σ' rp 300 R.1 → fr2 rp σ σ' → Q (some (vI R.2)) (hp L σ')) → mm_X 16 21 [vP rt, vP rp, vI v, vI m, vI lo, vI hi, vI i, a7] [] (hp L σ) Q := by
  intro k
  induction k with
  | zero => intro i v m lo hi ps a7 σ Q h1 h2; omega
  | succ k ih =>
    intro i v m lo hi ps a7 σ Q hk hi2 hv hps ht hR kk
    have hle := ht.2.1
    have hoi : i < t.length → 0 ≤ t.getD i 0 ∧ t.getD i 0 ≤ 255 := ho i
    refine r_iload c_16_21 rfl <| r_aload_n c_16_23 rfl <| r_cV0 c_16_24 hrt.1 (Nat.le_of_ble_eq_true rfl) <| ?_
    refine ct_size hrt ht ?_
    refine r_icmp_ge c_16_27 (fun h27 => ?_) <| (fun h27 => ?_)
    · refine r_iload_n c_16_142 rfl <| r_if_ne c_16_143 (fun h143 => ?_) <| (fun h143 => ?_)
      · refine r_aload_n c_16_150 rfl <| r_cV0 c_16_151 hrt.1 (Nat.le_of_ble_eq_true rfl) <| ?_
        refine ct_size hrt ht ?_
        refine r_iret c_16_154 <| ?_
        rw [show i = t.length by omega, List.drop_length] at hR
        have := kk σ
        first
        | (rw [hR, rdF, if_pos (by omega)] at this
           exact this hps fr2.rf)
        | (rw [hR, rdF, if_neg (by omega)] at this
           exact this hps fr2.rf)
      · refine r_iconst c_16_146 <| r_goto c_16_147 <| r_iret c_16_154 <| ?_
        rw [show i = t.length by omega, List.drop_length] at hR
        have := kk σ
        first
        | (rw [hR, rdF, if_pos (by omega)] at this
           exact this hps fr2.rf)
        | (rw [hR, rdF, if_neg (by omega)] at this
           exact this hps fr2.rf)
    · refine r_aload_n c_16_30 rfl <| r_iload c_16_31 rfl <| r_cV1 c_16_33 hrt.1 (Nat.le_of_ble_eq_true rfl) <| ?_
      rw [drop_at (by omega)] at hR
      have hoi := hoi (by omega)
      refine ct_atn hrt ht (by omega) ?_
      generalize t.getD i 0 = c at hR hoi ⊢
      refine r_istore_8_7 c_16_36 rfl <| r_iload_n c_16_38 rfl <| r_if_ne c_16_39 (fun h39 => ?_) <| (fun h39 => ?_)
      · refine r_iload c_16_79 rfl <| r_iload c_16_81 rfl <| r_icmp_lt c_16_83 (fun h83 => ?_) <| (fun h83 => ?_)
        · refine r_iload c_16_93 rfl <| r_iret c_16_95 <| ?_
          have := kk σ
          rw [hR, rdF, if_neg h39, if_pos (by omega)] at this
          exact this hps fr2.rf
        · refine r_iload c_16_86 rfl <| r_iload c_16_88 rfl <| r_icmp_le c_16_90 (fun h90 => ?_) <| (fun h90 => ?_)
          · refine r_iload_n c_16_96 rfl <| r_bipush c_16_97 <| r_imul c_16_99 (by unfold rdV at hv; omega) <| r_iload c_16_100 rfl <| r_iadd c_16_102 (by unfold rdV at hv; omega) <| r_sipush c_16_103 <| r_isub c_16_106 (by unfold rdV at hv; omega) <| r_istore_n_8_2 c_16_107 rfl <| r_iinc_8_3 c_16_108 rfl (by unfold rdV at hv; omega) <| r_sipush c_16_111 <| ?_
            refine r_istore_8_4 c_16_114 rfl <| r_sipush c_16_116 <| r_istore_8_5 c_16_119 rfl <| r_iload_n c_16_121 rfl <| r_if_ne c_16_122 (fun h122 => ?_) <| (fun h122 => ?_)
            · refine r_iinc_8_6 c_16_136 rfl (by omega) <| r_goto c_16_139 <| ?_
              first
              | (refine ih (i + 1) _ _ _ _ (ps ++ [_]) _ σ1 Q (by omega) (by omega) ?_ hl1 (ht.fr2 hf1 hne) ?_ (fun σ2 g1 g2 => kk σ2 g1 (hf1.tr g2))
                 · exact Or.inl (by omega)
                 · first
                   | (rw [hR, rdF, if_pos h39, if_neg (by omega), if_pos (by omega), if_pos hlt, show fol c = 0 by omega])
                   | (rw [hR, rdF, if_neg h39, if_neg (by omega), if_pos (by omega), if_pos hlt]
                      exact rdF_z _ _ _ _ _ _ _ _ _ |>.trans (by rw [show m + -1 = 0 by omega])))
              | (refine ih (i + 1) _ _ _ _ ps _ σ Q (by omega) (by omega) ?_ hps ht ?_ kk
                 · first
                   | exact rdV_first (by omega)
                   | exact (rdV_next hv (by omega) (by omega) (by omega)).2 (by omega)
                 · first
                   | rw [hR, rdF, if_pos h39, if_neg (by omega), if_neg (by omega)]
                   | (rw [hR, rdF, if_neg h39, if_neg (by omega), if_neg (by omega)]; rfl))
            · refine r_aload_n c_16_125 rfl <| r_iload_n c_16_126 rfl <| r_cV1 c_16_127 hrp.1 (Nat.le_of_ble_eq_true rfl) <| ?_
              refine ct_append hrp hps _ (fun hlt σ1 hl1 hf1 => ?_) (fun hfull => ?_)
              · refine r_if_ne c_16_130 (fun _ => ?_) <| (fun h => absurd h (by decide))
                refine r_iinc_8_6 c_16_136 rfl (by omega) <| r_goto c_16_139 <| ?_
                first
                | (refine ih (i + 1) _ _ _ _ (ps ++ [_]) _ σ1 Q (by omega) (by omega) ?_ hl1 (ht.fr2 hf1 hne) ?_ (fun σ2 g1 g2 => kk σ2 g1 (hf1.tr g2))
                   · exact Or.inl (by omega)
                   · first
                     | (rw [hR, rdF, if_pos h39, if_neg (by omega), if_pos (by omega), if_pos hlt, show fol c = 0 by omega])
                     | (rw [hR, rdF, if_neg h39, if_neg (by omega), if_pos (by omega), if_pos hlt]
                        exact rdF_z _ _ _ _ _ _ _ _ _ |>.trans (by rw [show m + -1 = 0 by omega])))
                | (refine ih (i + 1) _ _ _ _ ps _ σ Q (by omega) (by omega) ?_ hps ht ?_ kk
                   · first
                     | exact rdV_first (by omega)
                     | exact (rdV_next hv (by omega) (by omega) (by omega)).2 (by omega)
                   · first
                     | rw [hR, rdF, if_pos h39, if_neg (by omega), if_neg (by omega)]
                     | (rw [hR, rdF, if_neg h39, if_neg (by omega), if_neg (by omega)]; rfl))
              · refine r_if_ne c_16_130 (fun h => absurd h (by decide)) <| (fun _ => ?_)
                refine r_bipush c_16_133 <| r_iret c_16_135 <| ?_
                have := kk σ
                first
                | (rw [hR, rdF, if_pos h39, if_neg (by omega), if_pos (by omega), if_neg (by omega)] at this
                   exact this hps fr2.rf)
                | (rw [hR, rdF, if_neg h39, if_neg (by omega), if_pos (by omega), if_neg (by omega)] at this
                   exact this hps fr2.rf)
          · refine r_iload c_16_93 rfl <| r_iret c_16_95 <| ?_
            have := kk σ
            rw [hR, rdF, if_neg h39, if_pos (by omega)] at this
            exact this hps fr2.rf
      · refine r_iload c_16_42 rfl <| r_cS1 c_16_44 (Nat.le_of_ble_eq_true rfl) <| ?_
        refine ct_followersOf c ?_
        refine r_istore_n_8_3 c_16_47 rfl <| r_iload_n c_16_48 rfl <| r_if_ge c_16_49 (fun h49 => ?_) <| (fun h49 => ?_)
        · refine r_iload c_16_55 rfl <| r_iload_n c_16_57 rfl <| r_cS2 c_16_58 (Nat.le_of_ble_eq_true rfl) <| ?_
          refine ct_bitsOfFirst c (fol c) hoi rfl ?_
          refine r_istore_n_8_2 c_16_61 rfl <| r_iload c_16_62 rfl <| r_cS1 c_16_64 (Nat.le_of_ble_eq_true rfl) <| ?_
          refine ct_lowestSecond c ?_
          refine r_istore_8_4 c_16_67 rfl <| r_iload c_16_69 rfl <| r_cS1 c_16_71 (Nat.le_of_ble_eq_true rfl) <| ?_
          refine ct_highestSecond c ?_
          refine r_istore_8_5 c_16_74 rfl <| r_goto c_16_76 <| r_iload_n c_16_121 rfl <| r_if_ne c_16_122 (fun h122 => ?_) <| (fun h122 => ?_)
          · refine r_iinc_8_6 c_16_136 rfl (by omega) <| r_goto c_16_139 <| ?_
            first
            | (refine ih (i + 1) _ _ _ _ (ps ++ [_]) _ σ1 Q (by omega) (by omega) ?_ hl1 (ht.fr2 hf1 hne) ?_ (fun σ2 g1 g2 => kk σ2 g1 (hf1.tr g2))
               · exact Or.inl (by omega)
               · first
                 | (rw [hR, rdF, if_pos h39, if_neg (by omega), if_pos (by omega), if_pos hlt, show fol c = 0 by omega])
                 | (rw [hR, rdF, if_neg h39, if_neg (by omega), if_pos (by omega), if_pos hlt]
                    exact rdF_z _ _ _ _ _ _ _ _ _ |>.trans (by rw [show m + -1 = 0 by omega])))
            | (refine ih (i + 1) _ _ _ _ ps _ σ Q (by omega) (by omega) ?_ hps ht ?_ kk
               · first
                 | exact rdV_first (by omega)
                 | exact (rdV_next hv (by omega) (by omega) (by omega)).2 (by omega)
               · first
                 | rw [hR, rdF, if_pos h39, if_neg (by omega), if_neg (by omega)]
                 | (rw [hR, rdF, if_neg h39, if_neg (by omega), if_neg (by omega)]; rfl))
          · refine r_aload_n c_16_125 rfl <| r_iload_n c_16_126 rfl <| r_cV1 c_16_127 hrp.1 (Nat.le_of_ble_eq_true rfl) <| ?_
            refine ct_append hrp hps _ (fun hlt σ1 hl1 hf1 => ?_) (fun hfull => ?_)
            · refine r_if_ne c_16_130 (fun _ => ?_) <| (fun h => absurd h (by decide))
              refine r_iinc_8_6 c_16_136 rfl (by omega) <| r_goto c_16_139 <| ?_
              first
              | (refine ih (i + 1) _ _ _ _ (ps ++ [_]) _ σ1 Q (by omega) (by omega) ?_ hl1 (ht.fr2 hf1 hne) ?_ (fun σ2 g1 g2 => kk σ2 g1 (hf1.tr g2))
                 · exact Or.inl (by omega)
                 · first
                   | (rw [hR, rdF, if_pos h39, if_neg (by omega), if_pos (by omega), if_pos hlt, show fol c = 0 by omega])
                   | (rw [hR, rdF, if_neg h39, if_neg (by omega), if_pos (by omega), if_pos hlt]
                      exact rdF_z _ _ _ _ _ _ _ _ _ |>.trans (by rw [show m + -1 = 0 by omega])))
              | (refine ih (i + 1) _ _ _ _ ps _ σ Q (by omega) (by omega) ?_ hps ht ?_ kk
                 · first
                   | exact rdV_first (by omega)
                   | exact (rdV_next hv (by omega) (by omega) (by omega)).2 (by omega)
                 · first
                   | rw [hR, rdF, if_pos h39, if_neg (by omega), if_neg (by omega)]
                   | (rw [hR, rdF, if_neg h39, if_neg (by omega), if_neg (by omega)]; rfl))
            · refine r_if_ne c_16_130 (fun h => absurd h (by decide)) <| (fun _ => ?_)
              refine r_bipush c_16_133 <| r_iret c_16_135 <| ?_
              have := kk σ
              first
              | (rw [hR, rdF, if_pos h39, if_neg (by omega), if_pos (by omega), if_neg (by omega)] at this
                 exact this hps fr2.rf)
              | (rw [hR, rdF, if_neg h39, if_neg (by omega), if_pos (by omega), if_neg (by omega)] at this
                 exact this hps fr2.rf)
        · refine r_iload c_16_52 rfl <| r_iret c_16_54 <| ?_
          have := kk σ
          rw [hR, rdF, if_pos h39, if_pos h49] at this
          exact this hps fr2.rf
theorem ct_take {rt rp : Nat} {t : List Int} {σ : mk_S} (hrt : isRow L rt 400) (hrp : isRow L rp 300) (hne : rt ≠ rp ∧ rt ≠ rp + 1 ∧ rt + 1 ≠ rp) (ho : octs t) (ht : rowOK σ rt 400 t) (k : ∀ σ', rowOK σ' rp 300 (RD t).1 → fr2 rp σ σ' → Q (some (vI (RD t).2)) (hp L σ')) : mm_call 16 [vP rt, vP rp] (hp L σ) Q := by
  refine ⟨Nat.le_of_ble_eq_true rfl, ?_⟩
  show mm_X 16 0 [vP rt, vP rp, mm_null, mm_null, mm_null, mm_null, mm_null, mm_null] [] _ _
  refine r_aload_n c_16_0 rfl <| r_cV0 c_16_1 hrp.1 (Nat.le_of_ble_eq_true rfl) <| ?_
  refine ct_clear hrp (fun σ1 hl1 hf1 => ?_)
  refine r_iconst c_16_4 <| r_istore_n_8_2 c_16_5 rfl <| r_iconst c_16_6 <| r_istore_n_8_3 c_16_7 rfl <| r_sipush c_16_8 <| r_istore_8_4 c_16_11 rfl <| r_sipush c_16_13 <| r_istore_8_5 c_16_16 rfl <| r_iconst c_16_18 <| r_istore_8_6 c_16_19 rfl <| ?_
  exact lp_take (R := RD t) hrt hrp hne ho (t.length + 1) 0 0 0 128 191 [] mm_null σ1 Q (by omega) (by omega) (Or.inl rfl) hl1 (ht.fr2 hf1 hne) (by rw [List.drop_zero]; rfl) (fun σ2 g1 g2 => k σ2 g1 (hf1.tr g2))
end READ
