/-! MAKE: directions. What is asked, and the class's side. -/
abbrev alD (rt : Prop) (v : Int) : Prop := (rt ∧ 1 ≤ v) ∨ (¬ rt ∧ (v = 0 ∨ 4 ≤ v))
abbrev okE (rt : Prop) (v : Int) : Prop := (rt ∧ 1 ≤ v ∧ v ≤ 4) ∨ (¬ rt ∧ (v = 0 ∨ v = 4))
def wfF (f : Int) : List Int → Nat → Int
  | [], _ => -1
  | v :: vs, i => if alD (f ≠ 0) v then wfF f vs (i + 1) else i
def lnF : List Int → Nat → Nat → Nat
  | [], _, c => c
  | v :: vs, i, c => lnF vs (i + 1) (if v = 10 then c else i)
def onF : List Int → Nat → Int → Int
  | [], _, _ => -1
  | v :: vs, i, s => if v = 3 ∨ v = 4 then (if s ≠ 0 ∧ v ≠ s then i else onF vs (i + 1) v) else onF vs (i + 1) s
def dirW (d : List Int) : Int :=
  if 2 < d.getD 0 0 then 0
  else if 0 ≤ wfF (d.getD 0 0) d 0 then wfF (d.getD 0 0) d 0
  else if ¬ okE (d.getD 0 0 ≠ 0) (d.getD (lnF d 0 0) 0) then lnF d 0 0
  else if d.getD 0 0 ≠ 0 then onF d 0 0 else -1
def dr0 (d : List Int) : Prop := ∀ i, i < d.length → 0 ≤ d.getD i 0 ∧ d.getD i 0 ≤ 10
theorem lnF_app : ∀ (l : List Int) (i c : Nat) (v : Int), lnF (l ++ [v]) i c = if v = 10 then lnF l i c else i + l.length
  | [], i, c, v => by simp only [List.nil_append, lnF, List.length_nil, Nat.add_zero]
  | x :: xs, i, c, v => by
    simp only [List.cons_append, lnF, List.length_cons]
    rw [lnF_app xs]
    split
    · rfl
    · omega
theorem take_at {l : List Int} {n : Nat} (h : n < l.length) : l.take (n + 1) = l.take n ++ [l.getD n 0] := by
  rw [List.take_succ, List.getElem?_eq_getElem h, List.getD_eq_getElem?_getD, List.getElem?_eq_getElem h]; rfl
theorem lnF_take {l : List Int} {n : Nat} (h : n < l.length) : lnF (l.take (n + 1)) 0 0 = if l.getD n 0 = 10 then lnF (l.take n) 0 0 else n := by
  rw [take_at h, lnF_app, List.length_take]
  split
  · rfl
  · omega
theorem wfF_or {f : Int} : ∀ (l : List Int) (i : Nat), wfF f l i = -1 ∨ ((i : Int) ≤ wfF f l i ∧ wfF f l i < i + l.length)
  | [], i => Or.inl rfl
  | v :: vs, i => by
    simp only [wfF, List.length_cons]
    split
    · have := wfF_or (f := f) vs (i + 1); omega
    · right; omega
section CDIR
variable {L : Nat} {T : mk_S} {Q : Option mm_V → mm_H → Prop}
theorem lp_wf {σ : mk_S} {D : List Int} {a b : Nat} {R f m : Int} {a3 : mm_V} {v4 : Int} (hD : rowOK σ 38 300 D) (hb : b ≤ D.length) (hdr : dr0 D) (hm : ∀ v, -1 ≤ v ∧ v ≤ 10 → (inM m v ↔ alD (f ≠ 0) v))
    (k1 : R = -1 → mm_X 119 82 [vP 35, vI (a : Nat), vI (b : Nat), a3, vI v4, vI m, vI (b : Nat)] [] (hp L σ) Q) (k0 : 0 ≤ R → Q (some (vI R)) (hp L σ)) : ∀ (k i j : Nat), i + k = b → i = a + j → R = wfF f (sg D i b) j → mm_X 119 48 [vP 35, vI (a : Nat), vI (b : Nat), a3, vI v4, vI m, vI (i : Nat)] [] (hp L σ) Q := by
  intro k
  have hDl := hD.2.1
  induction k with
  | zero =>
    intro i j hi hij hR
    have ei : i = b := by omega
    subst ei
    rw [sg_nil (Nat.le_refl _)] at hR
    simp only [wfF] at hR
    refine r_iload c_119_48 rfl <| r_iload_n c_119_50 rfl <| r_icmp_ge c_119_51 (fun h51 => ?_) <| (fun h51 => ?_)
    · exact k1 hR
    · exact absurd h51 (by omega)
  | succ k ih =>
    intro i j hi hij hR
    rw [sg_cons (by omega) hb] at hR
    simp only [wfF] at hR
    have hv := hdr i (by omega)
    have hmv := hm (D.getD i 0) (by omega)
    refine r_iload c_119_48 rfl <| r_iload_n c_119_50 rfl <| r_icmp_ge c_119_51 (fun h51 => ?_) <| (fun h51 => ?_)
    · exact absurd h51 (by omega)
    · refine r_aload_n c_119_54 rfl <| r_getf_a c_119_55 rfl rfl <| r_iload c_119_58 rfl <| r_cV1 c_119_60 rfl (Nat.le_of_ble_eq_true rfl) <| ?_
      refine ct_atn row38 hD (by omega) ?_
      refine r_iload c_119_63 rfl <| r_cS2 c_119_65 (Nat.le_of_ble_eq_true rfl) <| ?_
      refine ct_isOf _ _ (fun hi => ?_) (fun hi => ?_)
      · refine r_if_ne c_119_68 (fun _ => ?_) <| (fun h => absurd h (by decide))
        refine r_iinc_7_6 c_119_76 rfl (by omega) <| r_goto c_119_79 <| ?_
        rw [if_pos (hmv.1 hi)] at hR
        exact ih (i + 1) (j + 1) (by omega) (by omega) hR
      · refine r_if_ne c_119_68 (fun h => absurd h (by decide)) <| (fun _ => ?_)
        refine r_iload c_119_71 rfl <| r_iload_n c_119_73 rfl <| r_isub c_119_74 (by omega) <| r_iret c_119_75 <| ?_
        rw [if_neg (fun h => hi (hmv.2 h))] at hR
        exact q_val (k0 (by omega)) (by omega)
theorem lp_ln {σ : mk_S} {D : List Int} {a b : Nat} {a3 : mm_V} {v4 m : Int} (hD : rowOK σ 38 300 D) (hb : b ≤ D.length) (hdr : dr0 D) 
    (kk : mm_X 119 117 [vP 35, vI (a : Nat), vI (b : Nat), a3, vI v4, vI m, vI ((a + lnF (sg D a b) 0 0 : Nat) : Int)] [] (hp L σ) Q) : ∀ (n : Nat), a + n < b → lnF (sg D a b) 0 0 = lnF ((sg D a b).take (n + 1)) 0 0 → mm_X 119 87 [vP 35, vI (a : Nat), vI (b : Nat), a3, vI v4, vI m, vI ((a + n : Nat) : Int)] [] (hp L σ) Q := by
  intro n
  have hDl := hD.2.1
  have hsl : (sg D a b).length = b - a := sg_len hb
  induction n with
  | zero =>
    intro hn hR
    rw [lnF_take (by omega)] at hR
    have hR : lnF (sg D a b) 0 0 = 0 := by rw [hR]; split <;> rfl
    rw [hR] at kk
    refine r_iload c_119_87 rfl <| r_iload_n c_119_89 rfl <| r_icmp_le c_119_90 (fun h90 => ?_) <| (fun h90 => ?_)
    · exact kk
    · exact absurd h90 (by omega)
  | succ n ih =>
    intro hn hR
    rw [lnF_take (by omega), sg_get (by omega)] at hR
    have hv := hdr (a + (n + 1)) (by omega)
    refine r_iload c_119_87 rfl <| r_iload_n c_119_89 rfl <| r_icmp_le c_119_90 (fun h90 => ?_) <| (fun h90 => ?_)
    · first
      | exact absurd h90 (by omega)
      | (rw [if_neg (fun h => hi ((inM1024 (by omega)).2 h))] at hR
         rw [hR] at kk
         exact kk)
    · refine r_aload_n c_119_93 rfl <| r_getf_a c_119_94 rfl rfl <| r_iload c_119_97 rfl <| r_cV1 c_119_99 rfl (Nat.le_of_ble_eq_true rfl) <| ?_
      refine ct_atn row38 hD (by omega) ?_
      refine r_sipush c_119_102 <| r_cS2 c_119_105 (Nat.le_of_ble_eq_true rfl) <| ?_
      refine ct_isOf _ _ (fun hi => ?_) (fun hi => ?_)
      · refine r_if_eq c_119_108 (fun h => absurd h (by decide)) <| (fun _ => ?_)
        refine r_iinc_7_6 c_119_111 rfl (by omega) <| r_goto c_119_114 <| ?_
        rw [if_pos ((inM1024 (by omega)).1 hi)] at hR
        rw [show ((a + (n + 1) : Nat) : Int) + -1 = ((a + n : Nat) : Int) by omega]
        exact ih (by omega) hR
      · refine r_if_eq c_119_108 (fun _ => ?_) <| (fun h => absurd h (by decide))
        first
        | exact absurd h90 (by omega)
        | (rw [if_neg (fun h => hi ((inM1024 (by omega)).2 h))] at hR
           rw [hR] at kk
           exact kk)
theorem lp_on {σ : mk_S} {D : List Int} {a b : Nat} {R : Int} (hD : rowOK σ 38 300 D) (hb : b ≤ D.length) (hdr : dr0 D)
    (kk : Q (some (vI R)) (hp L σ)) : ∀ (k i j : Nat) (s c : Int) (a5 : mm_V), i + k = b → i = a + j → (c = -1 ∧ s = 0 ∨ c = s ∧ 3 ≤ s) → R = onF (sg D i b) j s → mm_X 120 5 [vP 35, vI (a : Nat), vI (b : Nat), vI c, vI (i : Nat), a5] [] (hp L σ) Q := by
  intro k
  have hDl := hD.2.1
  induction k with
  | zero =>
    intro i j s c a5 hi hij hs hR
    have ei : i = b := by omega
    subst ei
    rw [sg_nil (Nat.le_refl _)] at hR
    simp only [onF] at hR
    refine r_iload c_120_5 rfl <| r_iload_n c_120_7 rfl <| r_icmp_ge c_120_8 (fun h8 => ?_) <| (fun h8 => ?_)
    · refine r_iconst c_120_56 <| r_iret c_120_57 <| ?_
      exact q_val kk hR.symm
    · exact absurd h8 (by omega)
  | succ k ih =>
    intro i j s c a5 hi hij hs hR
    rw [sg_cons (by omega) hb] at hR
    simp only [onF] at hR
    have hv := hdr i (by omega)
    generalize hvv : D.getD i 0 = v at *
    have hm := inM24 (v := v) (by omega)
    refine r_iload c_120_5 rfl <| r_iload_n c_120_7 rfl <| r_icmp_ge c_120_8 (fun h8 => ?_) <| (fun h8 => ?_)
    · exact absurd h8 (by omega)
    · refine r_aload_n c_120_11 rfl <| r_getf_a c_120_12 rfl rfl <| r_iload c_120_15 rfl <| r_cV1 c_120_17 rfl (Nat.le_of_ble_eq_true rfl) <| ?_
      refine ct_atn row38 hD (by omega) ?_; rw [hvv]
      refine r_istore_6_5 c_120_20 rfl <| r_iload c_120_22 rfl <| r_bipush c_120_24 <| r_cS2 c_120_26 (Nat.le_of_ble_eq_true rfl) <| ?_
      refine ct_isOf _ _ (fun hi => ?_) (fun hi => ?_)
      · refine r_if_eq c_120_29 (fun h => absurd h (by decide)) <| (fun _ => ?_)
        refine r_iload_n c_120_32 rfl <| r_if_lt c_120_33 (fun h33 => ?_) <| (fun h33 => ?_)
        · refine r_iload c_120_47 rfl <| r_istore_n_6_3 c_120_49 rfl <| r_iinc_6_4 c_120_50 rfl (by omega) <| r_goto c_120_53 <| ?_
          first
          | (rw [if_neg (fun h => hi (hm.2 h))] at hR
             exact ih (i + 1) (j + 1) s _ _ (by omega) (by omega) hs hR)
          | (rw [if_pos (hm.1 hi), if_neg (by omega)] at hR
             have := hm.1 hi
             exact ih (i + 1) (j + 1) v _ _ (by omega) (by omega) (Or.inr ⟨rfl, by omega⟩) hR)
        · refine r_iload c_120_36 rfl <| r_iload_n c_120_38 rfl <| r_icmp_eq c_120_39 (fun h39 => ?_) <| (fun h39 => ?_)
          · refine r_iload c_120_47 rfl <| r_istore_n_6_3 c_120_49 rfl <| r_iinc_6_4 c_120_50 rfl (by omega) <| r_goto c_120_53 <| ?_
            first
            | (rw [if_neg (fun h => hi (hm.2 h))] at hR
               exact ih (i + 1) (j + 1) s _ _ (by omega) (by omega) hs hR)
            | (rw [if_pos (hm.1 hi), if_neg (by omega)] at hR
               have := hm.1 hi
               exact ih (i + 1) (j + 1) v _ _ (by omega) (by omega) (Or.inr ⟨rfl, by omega⟩) hR)
          · refine r_iload c_120_42 rfl <| r_iload_n c_120_44 rfl <| r_isub c_120_45 (by omega) <| r_iret c_120_46 <| ?_
            rw [if_pos (hm.1 hi), if_pos (by omega)] at hR
            exact q_val kk (by omega)
      · refine r_if_eq c_120_29 (fun _ => ?_) <| (fun h => absurd h (by decide))
        refine r_iinc_6_4 c_120_50 rfl (by omega) <| r_goto c_120_53 <| ?_
        first
        | (rw [if_neg (fun h => hi (hm.2 h))] at hR
           exact ih (i + 1) (j + 1) s _ _ (by omega) (by omega) hs hR)
        | (rw [if_pos (hm.1 hi), if_neg (by omega)] at hR
           have := hm.1 hi
           exact ih (i + 1) (j + 1) v _ _ (by omega) (by omega) (Or.inr ⟨rfl, by omega⟩) hR)
theorem ct_on {σ : mk_S} {D : List Int} {a b : Nat} (hD : rowOK σ 38 300 D) (hb : b ≤ D.length) (hab : a < b) (hdr : dr0 D) (k : Q (some (vI (onF (sg D a b) 0 0))) (hp L σ)) : mm_call 120 [vP 35, vI (a : Nat), vI (b : Nat)] (hp L σ) Q := by
  refine ⟨Nat.le_of_ble_eq_true rfl, ?_⟩
  show mm_X 120 0 [vP 35, vI (a : Nat), vI (b : Nat), mm_null, mm_null, mm_null] [] _ _
  refine r_iconst c_120_0 <| r_istore_n_6_3 c_120_1 rfl <| r_iload_n c_120_2 rfl <| r_istore_6_4 c_120_3 rfl <| ?_
  exact lp_on hD hb hdr k (b - a) a 0 0 (-1) _ (by omega) (by omega) (Or.inl ⟨rfl, rfl⟩) rfl
theorem ct_dirW {σ : mk_S} {D : List Int} {a b : Nat} (hD : rowOK σ 38 300 D) (hb : b ≤ D.length) (hab : a < b) (hdr : dr0 D) (k : Q (some (vI (dirW (sg D a b)))) (hp L σ)) : mm_call 119 [vP 35, vI (a : Nat), vI (b : Nat)] (hp L σ) Q := by
  have hDl := hD.2.1
  have hsl : (sg D a b).length = b - a := sg_len hb
  have h0 : (sg D a b).getD 0 0 = D.getD a 0 := by rw [sg_get (by omega), Nat.add_zero]
  have hv := hdr a (by omega)
  unfold dirW at k
  rw [h0] at k
  have hln : lnF (sg D a b) 0 0 < b - a := by
    have aux : ∀ (l : List Int) (i c : Nat), lnF l i c = c ∨ lnF l i c < i + l.length := by
      intro l
      induction l with
      | nil => intro i c; exact Or.inl rfl
      | cons x xs ih =>
        intro i c
        simp only [lnF, List.length_cons]
        by_cases e : x = 10
        · rw [if_pos e]; have := ih (i + 1) c; omega
        · rw [if_neg e]; have := ih (i + 1) i; omega
    have := aux (sg D a b) 0 0
    omega
  have hlv := hdr (a + lnF (sg D a b) 0 0) (by omega)
  have hlg : (sg D a b).getD (lnF (sg D a b) 0 0) 0 = D.getD (a + lnF (sg D a b) 0 0) 0 := sg_get (by omega)
  rw [hlg] at k
  have hwf := wfF_or (f := D.getD a 0) (sg D a b) 0
  generalize hf : D.getD a 0 = f at *
  have t7 := inM7 (v := f) (by omega)
  have t6 := inM6 (v := f) (by omega)
  have key : f ≤ 2 → ∀ v4 m : Int, (v4 = 1 ∧ m = 2046 ∧ f ≠ 0 ∨ v4 = 0 ∧ m = 2033 ∧ f = 0) → mm_X 119 48 [vP 35, vI (a : Nat), vI (b : Nat), vI f, vI v4, vI m, vI (a : Nat)] [] (hp L σ) Q := by
    intro hf2 v4 m hvm
    rw [if_neg (by omega)] at k
    refine lp_wf (R := wfF f (sg D a b) 0) (f := f) hD hb hdr ?_ (fun e => ?_) (fun e => ?_) (b - a) a 0 (by omega) (by omega) rfl
    · intro v hvr
      rcases hvm with ⟨-, e, g⟩ | ⟨-, e, g⟩
      · rw [e, inM2046 hvr]; unfold alD; omega
      · rw [e, inM2033 hvr]; unfold alD; omega
    · rw [if_neg (by omega)] at k
      refine r_iload_n c_119_82 rfl <| r_iconst c_119_83 <| r_isub c_119_84 (by omega) <| r_istore_7_6 c_119_85 rfl <| ?_
      rw [show (b : Int) - 1 = ((a + (b - a - 1) : Nat) : Int) by omega]
      refine lp_ln hD hb hdr ?_ (b - a - 1) (by omega) (by rw [show b - a - 1 + 1 = (sg D a b).length by omega, List.take_length])
      generalize lnF (sg D a b) 0 0 = j at *
      generalize hw : D.getD (a + j) 0 = w at *
      have t30 := inM30 (v := w) (by omega)
      have t17 := inM17 (v := w) (by omega)
      refine r_aload_n c_119_117 rfl <| r_getf_a c_119_118 rfl rfl <| r_iload c_119_121 rfl <| r_cV1 c_119_123 rfl (Nat.le_of_ble_eq_true rfl) <| ?_
      refine ct_atn row38 hD (by omega) ?_; rw [hw]
      refine r_iload c_119_126 rfl <| r_if_eq c_119_128 (fun h128 => ?_) <| (fun h128 => ?_)
      · refine r_bipush c_119_136 <| r_cS2 c_119_138 (Nat.le_of_ble_eq_true rfl) <| ?_
        refine ct_isOf _ _ (fun hi => ?_) (fun hi => ?_)
        · refine r_if_ne c_119_141 (fun _ => ?_) <| (fun h => absurd h (by decide))
          rw [if_neg (show ¬ ¬ okE (f ≠ 0) w from by have h30 := t30.1; have h17 := t17.1; unfold okE; intro g; first | (have := h30 hi; omega) | (have := h17 hi; omega))] at k
          refine r_iload c_119_149 rfl <| r_if_eq c_119_151 (fun h151 => ?_) <| (fun h151 => ?_)
          · refine r_iconst c_119_163 <| r_iret c_119_164 <| ?_
            first
            | (rw [if_pos (by omega)] at k; exact k)
            | (rw [if_neg (by omega)] at k; exact k)
          · refine r_aload_n c_119_154 rfl <| r_iload_n c_119_155 rfl <| r_iload_n c_119_156 rfl <| r_cV2 c_119_157 rfl (Nat.le_of_ble_eq_true rfl) <| ?_
            refine ct_on hD hb hab hdr ?_
            refine r_goto c_119_160 <| r_iret c_119_164 <| ?_
            first
            | (rw [if_pos (by omega)] at k; exact k)
            | (rw [if_neg (by omega)] at k; exact k)
        · refine r_if_ne c_119_141 (fun h => absurd h (by decide)) <| (fun _ => ?_)
          refine r_iload c_119_144 rfl <| r_iload_n c_119_146 rfl <| r_isub c_119_147 (by omega) <| r_iret c_119_148 <| ?_
          first
          | (rw [if_pos (show ¬ okE (f ≠ 0) w from by have := t30.2; unfold okE; intro g; exact hi (this (by omega)))] at k
             exact q_val k (by omega))
          | (rw [if_pos (show ¬ okE (f ≠ 0) w from by have := t17.2; unfold okE; intro g; exact hi (this (by omega)))] at k
             exact q_val k (by omega))
      · refine r_bipush c_119_131 <| r_goto c_119_133 <| r_cS2 c_119_138 (Nat.le_of_ble_eq_true rfl) <| ?_
        refine ct_isOf _ _ (fun hi => ?_) (fun hi => ?_)
        · refine r_if_ne c_119_141 (fun _ => ?_) <| (fun h => absurd h (by decide))
          rw [if_neg (show ¬ ¬ okE (f ≠ 0) w from by have h30 := t30.1; have h17 := t17.1; unfold okE; intro g; first | (have := h30 hi; omega) | (have := h17 hi; omega))] at k
          refine r_iload c_119_149 rfl <| r_if_eq c_119_151 (fun h151 => ?_) <| (fun h151 => ?_)
          · refine r_iconst c_119_163 <| r_iret c_119_164 <| ?_
            first
            | (rw [if_pos (by omega)] at k; exact k)
            | (rw [if_neg (by omega)] at k; exact k)
          · refine r_aload_n c_119_154 rfl <| r_iload_n c_119_155 rfl <| r_iload_n c_119_156 rfl <| r_cV2 c_119_157 rfl (Nat.le_of_ble_eq_true rfl) <| ?_
            refine ct_on hD hb hab hdr ?_
            refine r_goto c_119_160 <| r_iret c_119_164 <| ?_
            first
            | (rw [if_pos (by omega)] at k; exact k)
            | (rw [if_neg (by omega)] at k; exact k)
        · refine r_if_ne c_119_141 (fun h => absurd h (by decide)) <| (fun _ => ?_)
          refine r_iload c_119_144 rfl <| r_iload_n c_119_146 rfl <| r_isub c_119_147 (by omega) <| r_iret c_119_148 <| ?_
          first
          | (rw [if_pos (show ¬ okE (f ≠ 0) w from by have := t30.2; unfold okE; intro g; exact hi (this (by omega)))] at k
             exact q_val k (by omega))
          | (rw [if_pos (show ¬ okE (f ≠ 0) w from by have := t17.2; unfold okE; intro g; exact hi (this (by omega)))] at k
             exact q_val k (by omega))
    · rw [if_pos e] at k
      exact k
  refine ⟨Nat.le_of_ble_eq_true rfl, ?_⟩
  show mm_X 119 0 [vP 35, vI (a : Nat), vI (b : Nat), mm_null, mm_null, mm_null, mm_null] [] _ _
  refine r_aload_n c_119_0 rfl <| r_getf_a c_119_1 rfl rfl <| r_iload_n c_119_4 rfl <| r_cV1 c_119_5 rfl (Nat.le_of_ble_eq_true rfl) <| ?_
  refine ct_atn row38 hD (by omega) ?_; rw [hf]
  refine r_istore_n_7_3 c_119_8 rfl <| r_iload_n c_119_9 rfl <| r_bipush c_119_10 <| r_cS2 c_119_12 (Nat.le_of_ble_eq_true rfl) <| ?_
  refine ct_isOf _ _ (fun hi => ?_) (fun hi => ?_)
  · refine r_if_ne c_119_15 (fun _ => ?_) <| (fun h => absurd h (by decide))
    refine r_iload_n c_119_20 rfl <| r_bipush c_119_21 <| r_cS2 c_119_23 (Nat.le_of_ble_eq_true rfl) <| ?_
    refine ct_isOf _ _ (fun hj => ?_) (fun hj => ?_)
    · refine r_istore_7_4 c_119_26 rfl <| r_sipush c_119_28 <| r_iload c_119_31 rfl <| r_if_eq c_119_33 (fun h => absurd h (by decide)) <| (fun _ => ?_)
      refine r_bipush c_119_36 <| r_goto c_119_38 <| r_ior c_119_42 (by first | exact or2032a | exact or2032b) <| r_istore_7_5 c_119_43 rfl <| r_iload_n c_119_45 rfl <| r_istore_7_6 c_119_46 rfl <| ?_
      have h7 := t7.1 hi
      first
      | exact key h7.2 _ _ (Or.inl ⟨rfl, rfl, by have := t6.1 hj; omega⟩)
      | exact key h7.2 _ _ (Or.inr ⟨rfl, rfl, by have := t6.2; rcases Decidable.em (f = 0) with g | g; exact g; exact absurd (this (by omega)) hj⟩)
    · refine r_istore_7_4 c_119_26 rfl <| r_sipush c_119_28 <| r_iload c_119_31 rfl <| r_if_eq c_119_33 (fun _ => ?_) <| (fun h => absurd h (by decide))
      refine r_iconst c_119_41 <| r_ior c_119_42 (by first | exact or2032a | exact or2032b) <| r_istore_7_5 c_119_43 rfl <| r_iload_n c_119_45 rfl <| r_istore_7_6 c_119_46 rfl <| ?_
      have h7 := t7.1 hi
      first
      | exact key h7.2 _ _ (Or.inl ⟨rfl, rfl, by have := t6.1 hj; omega⟩)
      | exact key h7.2 _ _ (Or.inr ⟨rfl, rfl, by have := t6.2; rcases Decidable.em (f = 0) with g | g; exact g; exact absurd (this (by omega)) hj⟩)
  · refine r_if_ne c_119_15 (fun h => absurd h (by decide)) <| (fun _ => ?_)
    refine r_iconst c_119_18 <| r_iret c_119_19 <| ?_
    rw [if_pos (by have := t7.2; rcases Decidable.em (2 < f) with g | g; exact g; exact absurd (this (by omega)) hi)] at k
    exact k
end CDIR
