/-! ONE FORM: both sides. -/
def cmW (T : mk_S) (p : Int) (out : List Int) (b : Int) : Int := if 0 ≤ b ∧ (b = (out.length : Int) - 1 ∨ (0 < rkO T (out.getD (out.length - 1) 0) ∧ rkO T (out.getD (out.length - 1) 0) < rkO T p)) then tgO T (out.getD b.toNat 0) p else -1
def cmF (T : mk_S) : List Int → List Int → Int → List Int
  | [], out, _ => out
  | p :: ps, out, b => if cmW T p out b = -1 then cmF T ps (out ++ [p]) (if rkO T p = 0 then (out.length : Int) else b) else cmF T ps (out.set b.toNat (cmW T p out b)) b
def oF (T : mk_S) (l : List Int) : List Int := cmF T (ap T l) [] (-1)
theorem cmF_len (T : mk_S) : ∀ (l out : List Int) (b : Int), (cmF T l out b).length ≤ out.length + l.length
  | [], out, b => by simp [cmF]
  | p :: ps, out, b => by
    simp only [cmF]
    split
    · have := cmF_len T ps (out ++ [p]) (if rkO T p = 0 then (out.length : Int) else b)
      simp at this ⊢; omega
    · have := cmF_len T ps (out.set b.toNat (cmW T p out b)) b
      simp at this ⊢; omega
theorem oF_len (T : mk_S) (l : List Int) : (oF T l).length ≤ (exL T l).length := by
  have := cmF_len T (ap T l) [] (-1)
  unfold oF
  unfold ap at this ⊢
  rw [srt_len] at this
  simpa using this
theorem tgO_or {T : mk_S} (hO : TOK T) (a b : Int) : tgO T a b = -1 ∨ 0 ≤ tgO T a b := by
  unfold tgO
  split
  · next h => right; unfold isLd isVw at h; omega
  · split
    · next h => right; unfold isSyl isTl at h; omega
    · split
      · exact Or.inl rfl
      · next h =>
        right
        rcases prI_cases T a b with g | ⟨j, g1, g2, -⟩
        · omega
        · rw [g1, Int.toNat_natCast]
          have := (hO.2.2.1 j g2).1
          omega
theorem cmW_or {T : mk_S} (hO : TOK T) (p : Int) (out : List Int) (b : Int) : cmW T p out b = -1 ∨ 0 ≤ cmW T p out b := by
  unfold cmW
  split
  · exact tgO_or hO _ _
  · exact Or.inl rfl
section FORM
variable {L : Nat} {T : mk_S}
theorem ct_putI {σ : mk_S} {r n : Nat} {l : List Int} {Q : Option mm_V → mm_H → Prop} (hr : isRow L r n) (hl : rowOK σ r n l) {i : Int} (hi : 0 ≤ i ∧ i < l.length) (z : Int) (k : ∀ σ', rowOK σ' r n (l.set i.toNat z) → fr2 r σ σ' → Q none (hp L σ')) : mm_call 68 [vP r, vI i, vI z] (hp L σ) Q := by
  obtain ⟨j, rfl⟩ : ∃ j : Nat, i = j := ⟨i.toNat, by omega⟩
  exact ct_put hr hl (by omega) z (by rw [Int.toNat_natCast] at k; exact k)
theorem ct_reaches {σ : mk_S} {B : List Int} {Q : Option mm_V → mm_H → Prop} (hB : rowOK σ 32 300 B) {b r : Int} {kept : Nat} (hk : 1 ≤ kept ∧ kept ≤ B.length) (k1 : b = (kept : Int) - 1 ∨ (0 < B.getD (kept - 1) 0 ∧ B.getD (kept - 1) 0 < r) → Q (some (vI 1)) (hp L σ)) (k0 : ¬ (b = (kept : Int) - 1 ∨ (0 < B.getD (kept - 1) 0 ∧ B.getD (kept - 1) 0 < r)) → Q (some (vI 0)) (hp L σ)) : mm_call 70 [vP 30, vI b, vI kept, vI r] (hp L σ) Q := by
  have hle := hB.2.1
  refine ⟨Nat.le_of_ble_eq_true rfl, ?_⟩
  show mm_X 70 0 [vP 30, vI b, vI kept, vI r, mm_null] [] _ _
  refine r_aload_n c_70_0 rfl <| r_getf_a c_70_1 rfl rfl <| r_iload_n c_70_4 rfl <| r_iconst c_70_5 <| r_isub c_70_6 (by omega) <| r_cV1 c_70_7 rfl (Nat.le_of_ble_eq_true rfl) <| ?_
  rw [show (kept : Int) - 1 = ((kept - 1 : Nat) : Int) by omega]
  refine ct_atn row32 hB (by omega) ?_
  refine r_istore_5_4 c_70_10 rfl <| r_iload_n c_70_12 rfl <| r_iload_n c_70_13 rfl <| r_iconst c_70_14 <| r_isub c_70_15 (by omega) <| r_icmp_eq c_70_16 (fun h16 => ?_) <| (fun h16 => ?_)
  · refine r_iconst c_70_30 <| r_goto c_70_31 <| r_zret c_70_35 (Or.inr rfl) <| ?_
    first | exact k1 (by omega) | exact k0 (by omega)
  · refine r_iload c_70_19 rfl <| r_if_le c_70_21 (fun h21 => ?_) <| (fun h21 => ?_)
    · refine r_iconst c_70_34 <| r_zret c_70_35 (Or.inl rfl) <| ?_
      first | exact k1 (by omega) | exact k0 (by omega)
    · refine r_iload c_70_24 rfl <| r_iload_n c_70_26 rfl <| r_icmp_ge c_70_27 (fun h27 => ?_) <| (fun h27 => ?_)
      · refine r_iconst c_70_34 <| r_zret c_70_35 (Or.inl rfl) <| ?_
        first | exact k1 (by omega) | exact k0 (by omega)
      · refine r_iconst c_70_30 <| r_goto c_70_31 <| r_zret c_70_35 (Or.inr rfl) <| ?_
        first | exact k1 (by omega) | exact k0 (by omega)
theorem cast_form {m pc i n : Nat} {rf rt : Nat} {b : Int} {a6 a7 a8 : mm_V} {h : mm_H} {Q : Option mm_V → mm_H → Prop} (k : mm_X m pc [vP 30, vP rf, vP rt, vI b, vI (n : Int), vI ((i + 1 : Nat) : Int), a6, a7, a8] [] h Q) {n' : Nat} (e : n = n' + 1) : mm_X m pc [vP 30, vP rf, vP rt, vI b, vI ((n' : Int) + 1), vI ((i : Int) + 1), a6, a7, a8] [] h Q := by
  subst e
  exact k
theorem lp_form {rf rt : Nat} {l R : List Int} (hO : TOK T) (hrt : isRow L rt 300) (hd : rt + 1 < 11 ∨ 33 < rt) : ∀ (k i : Nat) (out C B : List Int) (b : Int) (σ : mk_S) (a6 a7 a8 : mm_V) (Q : Option mm_V → mm_H → Prop), l.length + 1 ≤ i + k → i ≤ l.length → TC σ T → rowOK σ rt 300 C → rowOK σ 32 300 B → C.length = l.length → B.length = l.length → out.length ≤ i → -1 ≤ b → b < out.length →
    (∀ j, j < out.length → C.getD j 0 = out.getD j 0) → (∀ j, i ≤ j → j < l.length → C.getD j 0 = l.getD j 0) → (∀ j, i ≤ j → j < l.length → B.getD j 0 = rkO T (l.getD j 0)) → (∀ j, j < out.length → b < j → B.getD j 0 = rkO T (out.getD j 0)) → R = cmF T (l.drop i) out b →
    (∀ σ', rowOK σ' rt 300 R → cf [32, 33, rt, rt + 1] σ σ' → Q (some (vI 1)) (hp L σ')) → mm_X 69 19 [vP 30, vP rf, vP rt, vI b, vI out.length, vI i, a6, a7, a8] [] (hp L σ) Q := by
  intro k
  induction k with
  | zero => intro i out C B b σ a6 a7 a8 Q h1 h2; omega
  | succ k ih =>
    intro i out C B b σ a6 a7 a8 Q hk hi hT hC hB hCl hBl hoi hb1 hb2 hCo hCl2 hBl2 hBo hR K
    have hle := hC.2.1
    have X128 : i < l.length → cmW T (l.getD i 0) out b = -1 → ∀ a8, mm_X 69 98 [vP 30, vP rf, vP rt, vI b, vI out.length, vI i, vI (l.getD i 0), vI (rkO T (l.getD i 0)), a8] [] (hp L σ) Q := by
      intro hil hw a8
      have hR1 : R = cmF T (l.drop (i + 1)) (out ++ [l.getD i 0]) (if rkO T (l.getD i 0) = 0 then (out.length : Int) else b) := by rw [hR, drop_at hil]; simp only [cmF]; rw [if_pos hw]
      have hol : (out ++ [l.getD i 0]).length = out.length + 1 := by simp
      refine r_iload c_69_98 rfl <| r_if_ne c_69_100 (fun h100 => ?_) <| (fun h100 => ?_)
      · refine r_aload_n c_69_106 rfl <| r_iload c_69_107 rfl <| r_iload c_69_109 rfl <| r_cV2 c_69_111 hrt.1 (Nat.le_of_ble_eq_true rfl) <| ?_
        refine ct_put (j := out.length) hrt hC (by omega) _ (fun σ1 hl1 hf1 => ?_)
        refine r_aload_n c_69_114 rfl <| r_getf_a c_69_115 rfl rfl <| r_iload c_69_118 rfl <| r_iload c_69_120 rfl <| r_cV2 c_69_122 rfl (Nat.le_of_ble_eq_true rfl) <| ?_
        refine ct_put (j := out.length) row32 (hB.fr2 hf1 (by omega)) (by omega) _ (fun σ2 hl2 hf2 => ?_)
        refine r_iinc_9_4 c_69_125 rfl (by omega) <| r_iinc_9_5 c_69_128 rfl (by omega) <| r_goto c_69_131 <| ?_
        have hcf : cf [32, 33, rt, rt + 1] σ σ2 := (hf1.cf (by simp) (by simp)).tr (hf2.cf (by simp) (by simp))
        have key := ih (i + 1) (out ++ [l.getD i 0]) (C.set out.length (l.getD i 0)) (B.set out.length (rkO T (l.getD i 0))) (if rkO T (l.getD i 0) = 0 then (out.length : Int) else b) σ2
        first
        | (rw [if_pos h100] at key hR1
           refine cast_form (key _ _ _ Q (by omega) (by omega) (hT.cf hcf (fun a ha => by simp at ha; omega)) (hl1.fr2 hf2 (by omega)) hl2 (by simpa using hCl) (by simpa using hBl) (by omega) (by omega) (by omega) (fun j hj => ?_) (fun j h1 h2 => ?_) (fun j h1 h2 => ?_) (fun j h1 h2 => ?_) hR1 (fun σ3 q1 q2 => K σ3 q1 (hcf.tr q2))) hol
           · rw [hol] at hj
             rw [gd_set (by omega)]
             by_cases e : j = out.length
             · rw [if_pos e, e, gd_app_at]
             · rw [if_neg e, gd_app (by omega)]; exact hCo j (by omega)
           · rw [gd_set (by omega), if_neg (by omega)]; exact hCl2 j (by omega) h2
           · rw [gd_set (by omega), if_neg (by omega)]; exact hBl2 j (by omega) h2
           · rw [hol] at h1
             rw [gd_set (by omega)]
             by_cases e : j = out.length
             · rw [if_pos e, e, gd_app_at]
             · rw [if_neg e, gd_app (by omega)]; exact hBo j (by omega) (by omega))
        | (rw [if_neg h100] at key hR1
           refine cast_form (key _ _ _ Q (by omega) (by omega) (hT.cf hcf (fun a ha => by simp at ha; omega)) (hl1.fr2 hf2 (by omega)) hl2 (by simpa using hCl) (by simpa using hBl) (by omega) (by omega) (by omega) (fun j hj => ?_) (fun j h1 h2 => ?_) (fun j h1 h2 => ?_) (fun j h1 h2 => ?_) hR1 (fun σ3 q1 q2 => K σ3 q1 (hcf.tr q2))) hol
           · rw [hol] at hj
             rw [gd_set (by omega)]
             by_cases e : j = out.length
             · rw [if_pos e, e, gd_app_at]
             · rw [if_neg e, gd_app (by omega)]; exact hCo j (by omega)
           · rw [gd_set (by omega), if_neg (by omega)]; exact hCl2 j (by omega) h2
           · rw [gd_set (by omega), if_neg (by omega)]; exact hBl2 j (by omega) h2
           · rw [hol] at h1
             rw [gd_set (by omega)]
             by_cases e : j = out.length
             · rw [if_pos e, e, gd_app_at]
             · rw [if_neg e, gd_app (by omega)]; exact hBo j (by omega) (by omega))
      · refine r_iload c_69_103 rfl <| r_istore_n_9_3 c_69_105 rfl <| r_aload_n c_69_106 rfl <| r_iload c_69_107 rfl <| r_iload c_69_109 rfl <| r_cV2 c_69_111 hrt.1 (Nat.le_of_ble_eq_true rfl) <| ?_
        refine ct_put (j := out.length) hrt hC (by omega) _ (fun σ1 hl1 hf1 => ?_)
        refine r_aload_n c_69_114 rfl <| r_getf_a c_69_115 rfl rfl <| r_iload c_69_118 rfl <| r_iload c_69_120 rfl <| r_cV2 c_69_122 rfl (Nat.le_of_ble_eq_true rfl) <| ?_
        refine ct_put (j := out.length) row32 (hB.fr2 hf1 (by omega)) (by omega) _ (fun σ2 hl2 hf2 => ?_)
        refine r_iinc_9_4 c_69_125 rfl (by omega) <| r_iinc_9_5 c_69_128 rfl (by omega) <| r_goto c_69_131 <| ?_
        have hcf : cf [32, 33, rt, rt + 1] σ σ2 := (hf1.cf (by simp) (by simp)).tr (hf2.cf (by simp) (by simp))
        have key := ih (i + 1) (out ++ [l.getD i 0]) (C.set out.length (l.getD i 0)) (B.set out.length (rkO T (l.getD i 0))) (if rkO T (l.getD i 0) = 0 then (out.length : Int) else b) σ2
        first
        | (rw [if_pos h100] at key hR1
           refine cast_form (key _ _ _ Q (by omega) (by omega) (hT.cf hcf (fun a ha => by simp at ha; omega)) (hl1.fr2 hf2 (by omega)) hl2 (by simpa using hCl) (by simpa using hBl) (by omega) (by omega) (by omega) (fun j hj => ?_) (fun j h1 h2 => ?_) (fun j h1 h2 => ?_) (fun j h1 h2 => ?_) hR1 (fun σ3 q1 q2 => K σ3 q1 (hcf.tr q2))) hol
           · rw [hol] at hj
             rw [gd_set (by omega)]
             by_cases e : j = out.length
             · rw [if_pos e, e, gd_app_at]
             · rw [if_neg e, gd_app (by omega)]; exact hCo j (by omega)
           · rw [gd_set (by omega), if_neg (by omega)]; exact hCl2 j (by omega) h2
           · rw [gd_set (by omega), if_neg (by omega)]; exact hBl2 j (by omega) h2
           · rw [hol] at h1
             rw [gd_set (by omega)]
             by_cases e : j = out.length
             · rw [if_pos e, e, gd_app_at]
             · rw [if_neg e, gd_app (by omega)]; exact hBo j (by omega) (by omega))
        | (rw [if_neg h100] at key hR1
           refine cast_form (key _ _ _ Q (by omega) (by omega) (hT.cf hcf (fun a ha => by simp at ha; omega)) (hl1.fr2 hf2 (by omega)) hl2 (by simpa using hCl) (by simpa using hBl) (by omega) (by omega) (by omega) (fun j hj => ?_) (fun j h1 h2 => ?_) (fun j h1 h2 => ?_) (fun j h1 h2 => ?_) hR1 (fun σ3 q1 q2 => K σ3 q1 (hcf.tr q2))) hol
           · rw [hol] at hj
             rw [gd_set (by omega)]
             by_cases e : j = out.length
             · rw [if_pos e, e, gd_app_at]
             · rw [if_neg e, gd_app (by omega)]; exact hCo j (by omega)
           · rw [gd_set (by omega), if_neg (by omega)]; exact hCl2 j (by omega) h2
           · rw [gd_set (by omega), if_neg (by omega)]; exact hBl2 j (by omega) h2
           · rw [hol] at h1
             rw [gd_set (by omega)]
             by_cases e : j = out.length
             · rw [if_pos e, e, gd_app_at]
             · rw [if_neg e, gd_app (by omega)]; exact hBo j (by omega) (by omega))
    have hkey : i < l.length → 0 ≤ b → (b = (out.length : Int) - 1 ∨ (0 < B.getD (out.length - 1) 0 ∧ B.getD (out.length - 1) 0 < rkO T (l.getD i 0)) ↔ b = (out.length : Int) - 1 ∨ (0 < rkO T (out.getD (out.length - 1) 0) ∧ rkO T (out.getD (out.length - 1) 0) < rkO T (l.getD i 0))) := by
      intro hil hb0
      by_cases e : b = (out.length : Int) - 1
      · simp [e]
      · rw [hBo (out.length - 1) (by omega) (by omega)]
    have Xput : i < l.length → 0 ≤ b → cmW T (l.getD i 0) out b = tgO T (out.getD b.toNat 0) (l.getD i 0) → tgO T (out.getD b.toNat 0) (l.getD i 0) ≠ -1 → mm_X 69 88 [vP 30, vP rf, vP rt, vI b, vI out.length, vI i, vI (l.getD i 0), vI (rkO T (l.getD i 0)), vI (tgO T (out.getD b.toNat 0) (l.getD i 0))] [] (hp L σ) Q := by
      intro hil hb0 hw hne
      have hR1 : R = cmF T (l.drop (i + 1)) (out.set b.toNat (tgO T (out.getD b.toNat 0) (l.getD i 0))) b := by rw [hR, drop_at hil]; simp only [cmF]; rw [hw, if_neg hne]
      generalize tgO T (out.getD b.toNat 0) (l.getD i 0) = w at hR1
      refine r_aload_n c_69_88 rfl <| r_iload_n c_69_89 rfl <| r_iload c_69_90 rfl <| r_cV2 c_69_92 hrt.1 (Nat.le_of_ble_eq_true rfl) <| ?_
      refine ct_putI hrt hC (by omega) _ (fun σ1 hl1 hf1 => ?_)
      refine r_goto c_69_95 <| r_iinc_9_5 c_69_128 rfl (by omega) <| r_goto c_69_131 <| ?_
      have hcf : cf [32, 33, rt, rt + 1] σ σ1 := hf1.cf (by simp) (by simp)
      have key := ih (i + 1) (out.set b.toNat w) (C.set b.toNat w) B b σ1
      simp only [List.length_set] at key
      refine key _ _ _ Q (by omega) (by omega) (hT.cf hcf (fun a ha => by simp at ha; omega)) hl1 (hB.fr2 hf1 (by omega)) hCl hBl (by omega) hb1 hb2 (fun j hj => ?_) (fun j h1 h2 => ?_) (fun j h1 h2 => hBl2 j (by omega) h2) (fun j h1 h2 => ?_) hR1 (fun σ3 q1 q2 => K σ3 q1 (hcf.tr q2))
      · rw [gd_set (by omega), gd_set (by omega)]
        split
        · rfl
        · exact hCo j hj
      · rw [gd_set (by omega), if_neg (by omega)]; exact hCl2 j (by omega) h2
      · rw [gd_set (by omega), if_neg (by omega)]; exact hBo j h1 h2
    refine r_iload c_69_19 rfl <| r_aload_n c_69_21 rfl <| r_cV0 c_69_22 hrt.1 (Nat.le_of_ble_eq_true rfl) <| ?_
    refine ct_size hrt hC ?_
    refine r_icmp_ge c_69_25 (fun h25 => ?_) <| (fun h25 => ?_)
    · refine r_aload_n c_69_134 rfl <| r_iload c_69_135 rfl <| r_cV1 c_69_137 hrt.1 (Nat.le_of_ble_eq_true rfl) <| ?_
      refine ct_cut hrt hC (by omega) (fun σ1 hl1 hf1 => ?_)
      refine r_iconst c_69_140 <| r_zret c_69_141 (Or.inr rfl) <| ?_
      have e1 : R = C.take out.length := by
        rw [hR, List.drop_of_length_le (by omega)]
        show out = _
        refine gd_ext (by rw [List.length_take]; omega) (fun j hj => ?_)
        rw [gd_take hj, hCo j hj]
      exact K σ1 (by rw [e1]; exact hl1) (hf1.cf (by simp) (by simp))
    · refine r_aload_n c_69_28 rfl <| r_iload c_69_29 rfl <| r_cV1 c_69_31 hrt.1 (Nat.le_of_ble_eq_true rfl) <| ?_
      have hil : i < l.length := by omega
      refine ct_atn hrt hC (by omega) ?_
      rw [hCl2 i (Nat.le_refl _) hil]
      refine r_istore_9_6 c_69_34 rfl <| r_aload_n c_69_36 rfl <| r_getf_a c_69_37 rfl rfl <| r_iload c_69_40 rfl <| r_cV1 c_69_42 rfl (Nat.le_of_ble_eq_true rfl) <| ?_
      refine ct_atn row32 hB (by omega) ?_
      rw [hBl2 i (Nat.le_refl _) hil]
      refine r_istore_9_7 c_69_45 rfl <| r_iconst c_69_47 <| r_istore_9_8 c_69_48 rfl <| r_iload_n c_69_50 rfl <| r_if_lt c_69_51 (fun h51 => ?_) <| (fun h51 => ?_)
      · refine r_iload c_69_82 rfl <| r_iconst c_69_84 <| r_icmp_eq c_69_85 (fun _ => ?_) <| (fun h => absurd h (by decide))
        first
        | exact X128 hil (by unfold cmW; rw [if_neg (by omega)]) _
        | exact X128 hil (by unfold cmW; rw [if_neg (fun q => h60 ((hkey hil (by omega)).mpr q.2))]) _
        | exact X128 hil (by rw [hw]; omega) _
      · refine r_aload_n c_69_54 rfl <| r_iload_n c_69_55 rfl <| r_iload c_69_56 rfl <| r_iload c_69_58 rfl <| r_cV3 c_69_60 rfl (Nat.le_of_ble_eq_true rfl) <| ?_
        refine ct_reaches hB (by omega) (fun h60 => ?_) (fun h60 => ?_)
        · refine r_if_eq c_69_63 (fun h => absurd h (by decide)) <| (fun _ => ?_)
          refine r_aload_n c_69_66 rfl <| r_getf_a c_69_67 rfl rfl <| r_aload_n c_69_70 rfl <| r_iload_n c_69_71 rfl <| r_cV1 c_69_72 hrt.1 (Nat.le_of_ble_eq_true rfl) <| ?_
          have hg : gt C b = out.getD b.toNat 0 := by unfold gt; rw [if_pos (by omega)]; exact hCo _ (by omega)
          have hw : cmW T (l.getD i 0) out b = tgO T (out.getD b.toNat 0) (l.getD i 0) := by unfold cmW; rw [if_pos ⟨by omega, (hkey hil (by omega)).mp h60⟩]
          refine ct_at hrt hC b ?_
          rw [hg]
          refine r_iload c_69_75 rfl <| r_cV2 c_69_77 rfl (Nat.le_of_ble_eq_true rfl) <| ?_
          refine ct_together hT hO _ _ ?_
          refine r_istore_9_8 c_69_80 rfl <| r_iload c_69_82 rfl <| r_iconst c_69_84 <| r_icmp_eq c_69_85 (fun h85 => ?_) <| (fun h85 => ?_)
          · first
            | exact X128 hil (by unfold cmW; rw [if_neg (by omega)]) _
            | exact X128 hil (by unfold cmW; rw [if_neg (fun q => h60 ((hkey hil (by omega)).mpr q.2))]) _
            | exact X128 hil (by rw [hw]; omega) _
          · exact Xput hil (by omega) hw (by omega)
        · refine r_if_eq c_69_63 (fun _ => ?_) <| (fun h => absurd h (by decide))
          refine r_iload c_69_82 rfl <| r_iconst c_69_84 <| r_icmp_eq c_69_85 (fun _ => ?_) <| (fun h => absurd h (by decide))
          first
          | exact X128 hil (by unfold cmW; rw [if_neg (by omega)]) _
          | exact X128 hil (by unfold cmW; rw [if_neg (fun q => h60 ((hkey hil (by omega)).mpr q.2))]) _
          | exact X128 hil (by rw [hw]; omega) _
theorem ct_form {σ : mk_S} {rf nf rt : Nat} {lf : List Int} {Q : Option mm_V → mm_H → Prop} (hC : TC σ T) (hO : TOK T) (hrf : isRow L rf nf) (hrt : isRow L rt 300) (hd : rt + 1 < 11 ∨ 33 < rt) (hdf : rf + 1 < 11 ∨ 33 < rf) (hne : rf ≠ rt ∧ rf ≠ rt + 1 ∧ rf + 1 ≠ rt) (hf : rowOK σ rf nf lf)
    (k1 : (exL T lf).length ≤ 300 → ∀ σ', rowOK σ' rt 300 (oF T lf) → cf [31, 32, 33, rt, rt + 1] σ σ' → Q (some (vI 1)) (hp L σ')) (k0 : 300 < (exL T lf).length → ∀ σ', cf [31, 32, 33, rt, rt + 1] σ σ' → Q (some (vI 0)) (hp L σ')) : mm_call 69 [vP 30, vP rf, vP rt] (hp L σ) Q := by
  refine ⟨Nat.le_of_ble_eq_true rfl, ?_⟩
  show mm_X 69 0 [vP 30, vP rf, vP rt, mm_null, mm_null, mm_null, mm_null, mm_null, mm_null] [] _ _
  refine r_aload_n c_69_0 rfl <| r_aload_n c_69_1 rfl <| r_aload_n c_69_2 rfl <| r_cV2 c_69_3 rfl (Nat.le_of_ble_eq_true rfl) <| ?_
  refine ct_apart hC hO hrf hrt hd hdf hne hf (fun hlen σ1 hl1 hb1 hf1 => ?_) (fun hlen σ1 hf1 => ?_)
  · refine r_if_ne c_69_6 (fun _ => ?_) <| (fun h => absurd h (by decide))
    refine r_iconst c_69_11 <| r_istore_n_9_3 c_69_12 rfl <| r_iconst c_69_13 <| r_istore_9_4 c_69_14 rfl <| r_iconst c_69_16 <| r_istore_9_5 c_69_17 rfl <| ?_
    have e9 : ∀ j, j < (ap T lf).length → ((ap T lf).map (rkO T)).getD j 0 = rkO T ((ap T lf).getD j 0) := fun j hj => by
      simp only [List.getD_eq_getElem?_getD, List.getElem?_map, List.getElem?_eq_getElem hj]
      rfl
    exact lp_form (R := oF T lf) hO hrt hd ((ap T lf).length + 1) 0 [] (ap T lf) ((ap T lf).map (rkO T)) (-1) σ1 _ _ _ Q (by omega) (by omega) (hC.cf hf1 (fun a ha => by simp at ha; omega)) hl1 hb1 rfl (List.length_map _) (Nat.le_refl _) (by omega) (by simp) (fun j hj => absurd hj (Nat.not_lt_zero j)) (fun j h1 h2 => rfl) (fun j h1 h2 => e9 j h2) (fun j h1 h2 => absurd h1 (Nat.not_lt_zero j)) rfl (fun σ2 q1 q2 => k1 hlen σ2 q1 (hf1.tr (q2.up (by simp))))
  · refine r_if_ne c_69_6 (fun h => absurd h (by decide)) <| (fun _ => ?_)
    refine r_iconst c_69_9 <| r_zret c_69_10 (Or.inl rfl) <| ?_
    exact k0 hlen σ1 hf1
-- the reference's
def mOne (σ : mk_S) (l : List Int) : Prop := σ 55 31 = (l.length : Int) ∧ arr σ 76 l
theorem mOne.eq {σ σ' : mk_S} {t : List Int} (h : mOne σ t) (e1 : σ' 55 31 = σ 55 31) (e2 : σ' 76 = σ 76) : mOne σ' t := by
  unfold mOne; rw [e1]; exact ⟨h.1, h.2.eq e2⟩
theorem lp_mform {ra : Nat} {at0 n0 : Int} {l R : List Int} (hO : TOK T) (hll : l.length ≤ 300) : ∀ (k i : Nat) (out : List Int) (b : Int) (σ : mk_S) (a6 a7 a8 a9 : mm_V) (Q : Option mm_V → mm_H → Prop), l.length + 1 ≤ i + k → i ≤ l.length → MT σ T → mAp σ l → mOne σ out → out.length ≤ i → -1 ≤ b → b < out.length → R = cmF T (l.drop i) out b →
    (∀ σ', mOne σ' R → mf [76] [31] σ σ' → Q (some (vI 1)) (hp L σ')) → mm_X 157 23 [vP 55, vP ra, vI at0, vI n0, vI b, vI i, a6, a7, a8, a9] [] (hp L σ) Q := by
  intro k
  induction k with
  | zero => intro i out b σ a6 a7 a8 a9 Q h1 h2; omega
  | succ k ih =>
    intro i out b σ a6 a7 a8 a9 Q hk hi hM hA hl hoi hb1 hb2 hR K
    have e28 := hA.1
    have e31 := hl.1
    have hAi := fun (h : i < l.length) => hA.2 i h
    have Xapp : i < l.length → cmW T (l.getD i 0) out b = -1 → ∀ a8 a9, mm_X 157 151 [vP 55, vP ra, vI at0, vI n0, vI b, vI i, vI (l.getD i 0), vI (rkO T (l.getD i 0)), a8, a9] [] (hp L σ) Q := by
      intro hil hw a8 a9
      have hR1 : R = cmF T (l.drop (i + 1)) (out ++ [l.getD i 0]) (if rkO T (l.getD i 0) = 0 then (out.length : Int) else b) := by rw [hR, drop_at hil]; simp only [cmF]; rw [if_pos hw]
      have hol : (out ++ [l.getD i 0]).length = out.length + 1 := by simp
      have hfr : ∀ z, mf [76] [31] σ (sto (sto σ 76 out.length (l.getD i 0)) 55 31 z) := fun z => (mf.rf.stA (by decide) (by decide)).stF (by decide)
      have e31' : sto σ 76 out.length (l.getD i 0) 55 31 = (out.length : Int) := (congrFun (sto_ne (by decide)) 31).trans e31
      refine r_aload_n c_157_151 rfl <| r_getf_a c_157_152 rfl rfl <| r_aload_n c_157_155 rfl <| r_getf_i c_157_156 rfl rfl <| r_iload c_157_159 rfl <| r_iast c_157_161 rfl (jn := out.length) (by omega) (by omega) <| r_iload c_157_162 rfl <| r_if_ne c_157_164 (fun h164 => ?_) <| (fun h164 => ?_)
      · refine r_iload c_157_174 rfl <| r_istore_10_4 c_157_176 rfl <| r_aload_n c_157_178 rfl <| r_dup c_157_179 rfl <| r_getf_i c_157_180 rfl rfl <| r_iconst c_157_183 <| r_iadd c_157_184 (by rw [e31']; omega) <| r_putf c_157_185 rfl rfl <| r_iinc_10_5 c_157_188 rfl (by omega) <| r_goto c_157_191 <| ?_
        first
        | (rw [if_pos (by omega)] at hR1
           rw [e31']
           exact ih (i + 1) _ _ _ _ _ _ _ Q (by omega) (by omega) (hM.mf (hfr _) (fun a ha => by simp at ha; omega) (by decide)) (hA.eq ((hfr _).2 28 (by decide)) ((hfr _).1 74 (by decide) (by decide))) ⟨by rw [sto_get, hol]; omega, arr_push hl.2 (by rw [sto_ne (by decide), sto_at])⟩ (by omega) (by omega) (by omega) hR1 (fun σ3 q1 q2 => K σ3 q1 ((hfr _).tr q2)))
        | (rw [if_neg (by omega)] at hR1
           rw [e31']
           exact ih (i + 1) _ _ _ _ _ _ _ Q (by omega) (by omega) (hM.mf (hfr _) (fun a ha => by simp at ha; omega) (by decide)) (hA.eq ((hfr _).2 28 (by decide)) ((hfr _).1 74 (by decide) (by decide))) ⟨by rw [sto_get, hol]; omega, arr_push hl.2 (by rw [sto_ne (by decide), sto_at])⟩ (by omega) (by omega) (by omega) hR1 (fun σ3 q1 q2 => K σ3 q1 ((hfr _).tr q2)))
      · refine r_aload_n c_157_167 rfl <| r_getf_i c_157_168 rfl rfl <| r_goto c_157_171 <| r_istore_10_4 c_157_176 rfl <| r_aload_n c_157_178 rfl <| r_dup c_157_179 rfl <| r_getf_i c_157_180 rfl rfl <| r_iconst c_157_183 <| r_iadd c_157_184 (by rw [e31']; omega) <| r_putf c_157_185 rfl rfl <| ?_
        refine r_iinc_10_5 c_157_188 rfl (by omega) <| r_goto c_157_191 <| ?_
        first
        | (rw [if_pos (by omega)] at hR1
           rw [e31']
           exact ih (i + 1) _ _ _ _ _ _ _ Q (by omega) (by omega) (hM.mf (hfr _) (fun a ha => by simp at ha; omega) (by decide)) (hA.eq ((hfr _).2 28 (by decide)) ((hfr _).1 74 (by decide) (by decide))) ⟨by rw [sto_get, hol]; omega, arr_push hl.2 (by rw [sto_ne (by decide), sto_at])⟩ (by omega) (by omega) (by omega) hR1 (fun σ3 q1 q2 => K σ3 q1 ((hfr _).tr q2)))
        | (rw [if_neg (by omega)] at hR1
           rw [e31']
           exact ih (i + 1) _ _ _ _ _ _ _ Q (by omega) (by omega) (hM.mf (hfr _) (fun a ha => by simp at ha; omega) (by decide)) (hA.eq ((hfr _).2 28 (by decide)) ((hfr _).1 74 (by decide) (by decide))) ⟨by rw [sto_get, hol]; omega, arr_push hl.2 (by rw [sto_ne (by decide), sto_at])⟩ (by omega) (by omega) (by omega) hR1 (fun σ3 q1 q2 => K σ3 q1 ((hfr _).tr q2)))
    have Xput : i < l.length → 0 ≤ b → 0 ≤ cmW T (l.getD i 0) out b → ∀ a8, mm_X 157 139 [vP 55, vP ra, vI at0, vI n0, vI b, vI i, vI (l.getD i 0), vI (rkO T (l.getD i 0)), a8, vI (cmW T (l.getD i 0) out b)] [] (hp L σ) Q := by
      intro hil hb0 hw a8
      have hR1 : R = cmF T (l.drop (i + 1)) (out.set b.toNat (cmW T (l.getD i 0) out b)) b := by rw [hR, drop_at hil]; simp only [cmF]; rw [if_neg (by omega)]
      generalize cmW T (l.getD i 0) out b = w at hR1
      refine r_aload_n c_157_139 rfl <| r_getf_a c_157_140 rfl rfl <| r_iload c_157_143 rfl <| r_iload c_157_145 rfl <| r_iast c_157_147 rfl (jn := b.toNat) (by omega) (by omega) <| r_goto c_157_148 <| r_iinc_10_5 c_157_188 rfl (by omega) <| r_goto c_157_191 <| ?_
      have hfr : mf [76] [31] σ (sto σ 76 b.toNat w) := mf.rf.stA (by decide) (by decide)
      exact ih (i + 1) (out.set b.toNat w) b _ _ _ _ _ Q (by omega) (by omega) (hM.mf hfr (fun a ha => by simp at ha; omega) (by decide)) (hA.eq (hfr.2 28 (by decide)) (hfr.1 74 (by decide) (by decide))) ⟨by rw [List.length_set, ← e31, sto_ne (by decide)], arrSet hl.2 (by omega) (sto_at _ _ _ _)⟩ (by rw [List.length_set]; omega) hb1 (by rw [List.length_set]; exact hb2) hR1 (fun σ3 q1 q2 => K σ3 q1 (hfr.tr q2))
    have X108 : ∀ nr, i < l.length → (nr = 1 ∧ 0 ≤ b ∧ (b = (out.length : Int) - 1 ∨ (0 < rkO T (out.getD (out.length - 1) 0) ∧ rkO T (out.getD (out.length - 1) 0) < rkO T (l.getD i 0))) ∨ nr = 0 ∧ ¬ (0 ≤ b ∧ (b = (out.length : Int) - 1 ∨ (0 < rkO T (out.getD (out.length - 1) 0) ∧ rkO T (out.getD (out.length - 1) 0) < rkO T (l.getD i 0))))) → ∀ a8 a9, mm_X 157 108 [vP 55, vP ra, vI at0, vI n0, vI b, vI i, vI (l.getD i 0), vI (rkO T (l.getD i 0)), a8, a9] [vI nr] (hp L σ) Q := by
      intro nr hil hnr a8 a9
      have hor := cmW_or hO (l.getD i 0) out b
      refine r_istore_10_8 c_157_108 rfl <| r_iload c_157_110 rfl <| r_if_eq c_157_112 (fun h112 => ?_) <| (fun h112 => ?_)
      · refine r_iconst c_157_131 <| ?_
        have hw : cmW T (l.getD i 0) out b = (if nr = 1 then tgO T (out.getD b.toNat 0) (l.getD i 0) else -1) := by
          unfold cmW
          rcases hnr with ⟨g1, g2⟩ | ⟨g1, g2⟩
          · rw [if_pos g2, if_pos g1]
          · rw [if_neg g2, if_neg (by omega)]
        first
        | (rw [if_pos (by omega)] at hw
           rw [← hw]
           refine r_istore_10_9 c_157_132 rfl <| r_iload c_157_134 rfl <| r_if_lt c_157_136 (fun h136 => ?_) <| (fun h136 => ?_)
           · exact Xapp hil (by omega) _ _
           · exact Xput hil (by omega) (by omega) _
           done)
        | (rw [if_neg (by omega)] at hw
           rw [← hw]
           refine r_istore_10_9 c_157_132 rfl <| r_iload c_157_134 rfl <| r_if_lt c_157_136 (fun h136 => ?_) <| (fun h136 => ?_)
           · exact Xapp hil (by omega) _ _
           · exact absurd hw (by omega)
           done)
      · refine r_aload_n c_157_115 rfl <| r_aload_n c_157_116 rfl <| r_getf_a c_157_117 rfl rfl <| r_iload c_157_120 rfl <| r_iald c_157_122 rfl (Or.inl rfl) (jn := b.toNat) (by omega) (by omega) <| r_iload c_157_123 rfl <| r_cV2 c_157_125 rfl (Nat.le_of_ble_eq_true rfl) <| ?_
        refine ct_mtog hM hO _ _ ?_
        rw [hl.2 b.toNat (by omega)]
        refine r_goto c_157_128 <| ?_
        have hw : cmW T (l.getD i 0) out b = (if nr = 1 then tgO T (out.getD b.toNat 0) (l.getD i 0) else -1) := by
          unfold cmW
          rcases hnr with ⟨g1, g2⟩ | ⟨g1, g2⟩
          · rw [if_pos g2, if_pos g1]
          · rw [if_neg g2, if_neg (by omega)]
        first
        | (rw [if_pos (by omega)] at hw
           rw [← hw]
           refine r_istore_10_9 c_157_132 rfl <| r_iload c_157_134 rfl <| r_if_lt c_157_136 (fun h136 => ?_) <| (fun h136 => ?_)
           · exact Xapp hil (by omega) _ _
           · exact Xput hil (by omega) (by omega) _
           done)
        | (rw [if_neg (by omega)] at hw
           rw [← hw]
           refine r_istore_10_9 c_157_132 rfl <| r_iload c_157_134 rfl <| r_if_lt c_157_136 (fun h136 => ?_) <| (fun h136 => ?_)
           · exact Xapp hil (by omega) _ _
           · exact absurd hw (by omega)
           done)
    refine r_iload c_157_23 rfl <| r_aload_n c_157_25 rfl <| r_getf_i c_157_26 rfl rfl <| r_icmp_ge c_157_29 (fun h29 => ?_) <| (fun h29 => ?_)
    · refine r_iconst c_157_194 <| r_zret c_157_195 (Or.inr rfl) <| ?_
      have e1 : R = out := by rw [hR, List.drop_of_length_le (by omega)]; rfl
      exact K σ (by rw [e1]; exact hl) mf.rf
    · refine r_aload_n c_157_32 rfl <| r_getf_a c_157_33 rfl rfl <| r_iload c_157_36 rfl <| r_iald c_157_38 rfl (Or.inl rfl) (jn := i) rfl (by omega) <| ?_
      have hil : i < l.length := by omega
      rw [hAi hil]
      refine r_istore_10_6 c_157_39 rfl <| r_aload_n c_157_41 rfl <| r_iload c_157_42 rfl <| r_cV1 c_157_44 rfl (Nat.le_of_ble_eq_true rfl) <| ?_
      refine ct_mrankOf hM hO _ ?_
      refine r_istore_10_7 c_157_47 rfl <| r_iload c_157_49 rfl <| r_if_lt c_157_51 (fun h51 => ?_) <| (fun h51 => ?_)
      · refine r_iconst c_157_107 <| ?_
        first | exact X108 _ hil (Or.inl ⟨rfl, by omega⟩) _ _ | exact X108 _ hil (Or.inr ⟨rfl, by omega⟩) _ _
      · refine r_iload c_157_54 rfl <| r_aload_n c_157_56 rfl <| r_getf_i c_157_57 rfl rfl <| r_iconst c_157_60 <| r_isub c_157_61 (by omega) <| r_icmp_eq c_157_62 (fun h62 => ?_) <| (fun h62 => ?_)
        · refine r_iconst c_157_103 <| r_goto c_157_104 <| ?_
          first | exact X108 _ hil (Or.inl ⟨rfl, by omega⟩) _ _ | exact X108 _ hil (Or.inr ⟨rfl, by omega⟩) _ _
        · refine r_aload_n c_157_65 rfl <| r_aload_n c_157_66 rfl <| r_getf_a c_157_67 rfl rfl <| r_aload_n c_157_70 rfl <| r_getf_i c_157_71 rfl rfl <| r_iconst c_157_74 <| r_isub c_157_75 (by omega) <| r_iald c_157_76 rfl (Or.inl rfl) (jn := out.length - 1) (by omega) (by omega) <| ?_
          rw [hl.2 (out.length - 1) (by omega)]
          refine r_cV1 c_157_77 rfl (Nat.le_of_ble_eq_true rfl) <| ?_
          refine ct_mrankOf hM hO _ ?_
          refine r_if_le c_157_80 (fun h80 => ?_) <| (fun h80 => ?_)
          · refine r_iconst c_157_107 <| ?_
            first | exact X108 _ hil (Or.inl ⟨rfl, by omega⟩) _ _ | exact X108 _ hil (Or.inr ⟨rfl, by omega⟩) _ _
          · refine r_aload_n c_157_83 rfl <| r_aload_n c_157_84 rfl <| r_getf_a c_157_85 rfl rfl <| r_aload_n c_157_88 rfl <| r_getf_i c_157_89 rfl rfl <| r_iconst c_157_92 <| r_isub c_157_93 (by omega) <| r_iald c_157_94 rfl (Or.inl rfl) (jn := out.length - 1) (by omega) (by omega) <| ?_
            rw [hl.2 (out.length - 1) (by omega)]
            refine r_cV1 c_157_95 rfl (Nat.le_of_ble_eq_true rfl) <| ?_
            refine ct_mrankOf hM hO _ ?_
            refine r_iload c_157_98 rfl <| r_icmp_ge c_157_100 (fun h100 => ?_) <| (fun h100 => ?_)
            · refine r_iconst c_157_107 <| ?_
              first | exact X108 _ hil (Or.inl ⟨rfl, by omega⟩) _ _ | exact X108 _ hil (Or.inr ⟨rfl, by omega⟩) _ _
            · refine r_iconst c_157_103 <| r_goto c_157_104 <| ?_
              first | exact X108 _ hil (Or.inl ⟨rfl, by omega⟩) _ _ | exact X108 _ hil (Or.inr ⟨rfl, by omega⟩) _ _
theorem ct_mform {σ : mk_S} {ra na at0 : Nat} {lf : List Int} {Q : Option mm_V → mm_H → Prop} (hM : MT σ T) (hO : TOK T) (ha : kd L ra = .inl (0, na)) (hra : ra ≠ 55 ∧ ra ≠ 74 ∧ ra ≠ 75) (hat : at0 + lf.length ≤ na) (hna : na ≤ 2000) (hf : ∀ j, j < lf.length → σ ra (at0 + j) = lf.getD j 0)
    (k1 : (exL T lf).length ≤ 300 → ∀ σ', mAp σ' (ap T lf) → mOne σ' (oF T lf) → mf [74, 75, 76] [28, 31] σ σ' → Q (some (vI 1)) (hp L σ')) (k0 : 300 < (exL T lf).length → ∀ σ', mf [74, 75, 76] [28, 31] σ σ' → Q (some (vI 0)) (hp L σ')) : mm_call 157 [vP 55, vP ra, vI at0, vI lf.length] (hp L σ) Q := by
  refine ⟨Nat.le_of_ble_eq_true rfl, ?_⟩
  show mm_X 157 0 [vP 55, vP ra, vI at0, vI lf.length, mm_null, mm_null, mm_null, mm_null, mm_null, mm_null] [] _ _
  refine r_aload_n c_157_0 rfl <| r_aload_n c_157_1 rfl <| r_iload_n c_157_2 rfl <| r_iload_n c_157_3 rfl <| r_cV3 c_157_4 rfl (Nat.le_of_ble_eq_true rfl) <| ?_
  refine ct_mapart hM hO ha hra hat hna hf (fun hlen σ1 hA1 hf1 => ?_) (fun hlen σ1 hf1 => ?_)
  · refine r_if_ne c_157_7 (fun _ => ?_) <| (fun h => absurd h (by decide))
    refine r_aload_n c_157_12 rfl <| r_iconst c_157_13 <| r_putf c_157_14 rfl rfl <| r_iconst c_157_17 <| r_istore_10_4 c_157_18 rfl <| r_iconst c_157_20 <| r_istore_10_5 c_157_21 rfl <| ?_
    have hfr : mf [74, 75, 76] [28, 31] σ (sto σ1 55 31 0) := (hf1.up (by simp) (by simp)).stF (by simp)
    have hA2 := hA1.eq (σ' := sto σ1 55 31 0) (sto_get2 (Or.inr (by decide))) (sto_ne (by decide))
    have hal : (ap T lf).length = (exL T lf).length := by unfold ap; rw [srt_len]
    exact lp_mform (R := oF T lf) hO (by omega) ((ap T lf).length + 1) 0 [] (-1) _ _ _ _ _ Q (by omega) (by omega) (hM.mf hfr (fun a ha => by simp at ha; omega) (by decide)) hA2 ⟨sto_get _ _ _ _, arr_nil⟩ (Nat.le_refl _) (by omega) (by simp) rfl (fun σ2 q1 q2 => k1 hlen σ2 (hA2.eq (q2.2 28 (by decide)) (q2.1 74 (by decide) (by decide))) q1 (hfr.tr (q2.up (by simp) (by simp))))
  · refine r_if_ne c_157_7 (fun h => absurd h (by decide)) <| (fun _ => ?_)
    refine r_iconst c_157_10 <| r_zret c_157_11 (Or.inl rfl) <| ?_
    exact k0 hlen σ1 (hf1.up (by simp) (by simp))
end FORM
