/-! MAKE: the model parts the points into labels. -/
def splF : List Int → List Int → List (List Int)
  | [], cur => [cur]
  | c :: cs, cur => if c = 46 then cur :: splF cs [] else splF cs (cur ++ [c])
def lkG (T : mk_S) : List (List Int) → List (List Int) → List (List Int) × Int × Int × Int
  | [], ls => (ls, 0, 0, 0)
  | x :: xs, ls => if (lkL T x).2.1 ≠ 0 then (ls, (lkL T x).2.1, ls.length, (lkL T x).2.2) else lkG T xs (ls ++ [(lkL T x).1])
theorem lkF_eq (T : mk_S) : ∀ (l cur : List Int) (ls : List (List Int)), lkF T l cur ls = lkG T (splF l cur) ls
  | [], cur, ls => by simp only [lkF, splF, lkG]
  | c :: cs, cur, ls => by
    simp only [lkF, splF]
    split
    · simp only [lkG]
      split
      · rfl
      · exact lkF_eq T cs [] _
    · exact lkF_eq T cs _ ls
theorem splF_out : ∀ (l cur : List Int), pts l → pts cur → (∀ y, y ∈ splF l cur → pts y) ∧ (splF l cur).flatten.length + (splF l cur).length ≤ cur.length + l.length + 1 ∧ 1 ≤ (splF l cur).length
  | [], cur, h1, h2 => by
    simp only [splF]
    exact ⟨fun y hy => by rw [List.mem_singleton.1 hy]; exact h2, by simp, by simp⟩
  | c :: cs, cur, h1, h2 => by
    have g := pts_iff.1 h1
    have g1 : pts cs := pts_iff.2 (fun y hy => g y (List.mem_cons_of_mem _ hy))
    simp only [splF]
    split
    · have ih := splF_out cs [] g1 pts_nil
      refine ⟨fun y hy => ?_, ?_, by simp⟩
      · rcases List.mem_cons.1 hy with rfl | hy
        · exact h2
        · exact ih.1 y hy
      · have := ih.2.1
        simp only [List.flatten_cons, List.length_append, List.length_cons, List.length_nil] at this ⊢
        omega
    · have ih := splF_out cs (cur ++ [c]) g1 (pts_app h2 (g c List.mem_cons_self))
      refine ⟨ih.1, ?_, ih.2.2⟩
      have := ih.2.1
      simp only [List.length_append, List.length_cons, List.length_nil] at this ⊢
      omega
def PI (σ : mk_S) (ds : List (List Int)) (cu : List Int) : Prop := σ 55 43 = (ds.length : Int) ∧ (∀ i, i < ds.length → σ 82 i = (ofs ds i : Int) ∧ σ 83 i = ((ds.getD i []).length : Int) ∧ seg σ 81 (ofs ds i) (ds.getD i [])) ∧ σ 82 ds.length = (ds.flatten.length : Int) ∧ σ 83 ds.length = (cu.length : Int) ∧ seg σ 81 ds.flatten.length cu
theorem gds_app {ds : List (List Int)} {x : List Int} {i : Nat} (h : i < ds.length) : (ds ++ [x]).getD i [] = ds.getD i [] := by
  rw [List.getD_eq_getElem?_getD, List.getD_eq_getElem?_getD, List.getElem?_append_left h]
theorem gds_at {ds : List (List Int)} {x : List Int} : (ds ++ [x]).getD ds.length [] = x := by
  rw [List.getD_eq_getElem?_getD, List.getElem?_append_right (Nat.le_refl _), Nat.sub_self]; rfl
theorem ofs_app {ds : List (List Int)} {x : List Int} {i : Nat} (h : i ≤ ds.length) : ofs (ds ++ [x]) i = ofs ds i := by
  unfold ofs; rw [List.take_append_of_le_length h]
theorem ofs_end {ds : List (List Int)} {x : List Int} : ofs (ds ++ [x]) ds.length = ds.flatten.length := by rw [ofs_app (Nat.le_refl _), ofs_all]
theorem PI_all {σ : mk_S} {ds : List (List Int)} {cu : List Int} (h : PI σ ds cu) : ∀ i, i < (ds ++ [cu]).length → σ 82 i = (ofs (ds ++ [cu]) i : Int) ∧ σ 83 i = (((ds ++ [cu]).getD i []).length : Int) ∧ seg σ 81 (ofs (ds ++ [cu]) i) ((ds ++ [cu]).getD i []) := by
  intro i hi
  obtain ⟨a1, a2, a3, a4, a5⟩ := h
  rw [List.length_append] at hi
  simp only [List.length_cons, List.length_nil] at hi
  by_cases e : i = ds.length
  · subst e
    rw [gds_at, ofs_end]
    exact ⟨a3, a4, a5⟩
  · rw [gds_app (by omega), ofs_app (by omega)]
    exact a2 i (by omega)
section MPART
variable {L : Nat} {T : mk_S} {Q : Option mm_V → mm_H → Prop}
theorem lp_mp {w : List Int} (hw : w.length ≤ 300) : ∀ (k r : Nat) (ds : List (List Int)) (cu : List Int) (σ : mk_S) (Q : Option mm_V → mm_H → Prop), r + k = w.length → mOne σ w → PI σ ds cu → ds.length + ds.flatten.length + cu.length ≤ r →
    (∀ σ', σ' 55 43 = ((ds ++ splF (w.drop r) cu).length : Int) → (∀ i, i < (ds ++ splF (w.drop r) cu).length → σ' 82 i = (ofs (ds ++ splF (w.drop r) cu) i : Int) ∧ σ' 83 i = (((ds ++ splF (w.drop r) cu).getD i []).length : Int) ∧ seg σ' 81 (ofs (ds ++ splF (w.drop r) cu) i) ((ds ++ splF (w.drop r) cu).getD i [])) → mf [81, 82, 83] [43] σ σ' → Q none (hp L σ')) →
    mm_X 178 23 [vP 55, vI ((ds.flatten.length + cu.length : Nat) : Int), vI (r : Nat)] [] (hp L σ) Q := by
  intro k
  induction k with
  | zero =>
    intro r ds cu σ Q hr ho hP hsz kk
    have e31 := ho.1
    have er : r = w.length := by omega
    subst er
    rw [List.drop_length] at kk
    simp only [splF] at kk
    have hA := PI_all hP
    have e43 := hP.1
    refine r_iload_n c_178_23 rfl <| r_aload_n c_178_24 rfl <| r_getf_i c_178_25 rfl rfl <| r_icmp_ge c_178_28 (fun h28 => ?_) <| (fun h28 => ?_)
    · refine r_aload_n c_178_109 rfl <| r_dup c_178_110 rfl <| r_getf_i c_178_111 rfl rfl <| r_iconst c_178_114 <| r_iadd c_178_115 (by omega) <| r_putf c_178_116 rfl rfl <| r_ret c_178_119 <| ?_
      refine kk _ ?_ (fun i hi => ?_) (mf.rf.stF (by decide))
      · rw [sto_get, e43, List.length_append]; rfl
      · have := hA i hi
        rw [sto_ne (by decide), sto_ne (by decide)]
        exact ⟨this.1, this.2.1, fun j hj => by rw [sto_ne (by decide)]; exact this.2.2 j hj⟩
    · exact absurd h28 (by omega)
  | succ k ih =>
    intro r ds cu σ Q hr ho hP hsz kk
    have e31 := ho.1
    have hx := ho.2 r (by omega)
    obtain ⟨a1, a2, a3, a4, a5⟩ := hP
    rw [drop_at (by omega)] at kk
    simp only [splF] at kk
    generalize hc : w.getD r 0 = c at *
    have st1 : c = 46 → ∀ σ1, PI σ1 (ds ++ [cu]) [] → mf [81, 82, 83] [43] σ σ1 → mm_X 178 23 [vP 55, vI ((ds.flatten.length + cu.length : Nat) : Int), vI ((r : Int) + 1)] [] (hp L σ1) Q := by
      intro h σ1 g1 g2
      rw [if_pos h] at kk
      have ih := ih (r + 1) (ds ++ [cu]) [] σ1 Q (by omega) (ho.eq (g2.2 31 (by decide)) (g2.1 76 (by decide) (by decide))) g1 (by simp only [List.length_append, List.length_cons, List.length_nil, List.flatten_append, List.flatten_cons, List.flatten_nil]; omega)
      rw [List.append_assoc] at ih
      have ih := ih (fun σ2 w1 w2 w3 => kk σ2 w1 w2 (g2.tr w3))
      rw [show (ds ++ [cu]).flatten.length + ([] : List Int).length = ds.flatten.length + cu.length by simp only [List.length_append, List.length_nil, List.flatten_append, List.flatten_cons, List.flatten_nil]; omega] at ih
      exact ih
    have st0 : ¬ c = 46 → ∀ σ1, PI σ1 ds (cu ++ [c]) → mf [81, 82, 83] [43] σ σ1 → mm_X 178 23 [vP 55, vI (((ds.flatten.length + cu.length : Nat) : Int) + 1), vI ((r : Int) + 1)] [] (hp L σ1) Q := by
      intro h σ1 g1 g2
      rw [if_neg h] at kk
      have ih := ih (r + 1) ds (cu ++ [c]) σ1 Q (by omega) (ho.eq (g2.2 31 (by decide)) (g2.1 76 (by decide) (by decide))) g1 (by simp only [List.length_append, List.length_cons, List.length_nil]; omega) (fun σ2 w1 w2 w3 => kk σ2 w1 w2 (g2.tr w3))
      rw [show ((ds.flatten.length + (cu ++ [c]).length : Nat) : Int) = ((ds.flatten.length + cu.length : Nat) : Int) + 1 by simp only [List.length_append, List.length_cons, List.length_nil]; omega] at ih
      exact ih
    clear kk ih
    refine r_iload_n c_178_23 rfl <| r_aload_n c_178_24 rfl <| r_getf_i c_178_25 rfl rfl <| r_icmp_ge c_178_28 (fun h28 => ?_) <| (fun h28 => ?_)
    · exact absurd h28 (by omega)
    · refine r_aload_n c_178_31 rfl <| r_getf_a c_178_32 rfl rfl <| r_iload_n c_178_35 rfl <| r_iald c_178_36 rfl (Or.inl rfl) (jn := r) (by omega) (by omega) <| ?_
      rw [hx]
      refine r_bipush c_178_37 <| r_icmp_ne c_178_39 (fun h39 => ?_) <| (fun h39 => ?_)
      · refine r_aload_n c_178_75 rfl <| r_getf_a c_178_76 rfl rfl <| r_iload_n c_178_79 rfl <| r_aload_n c_178_80 rfl <| r_getf_a c_178_81 rfl rfl <| r_iload_n c_178_84 rfl <| r_iald c_178_85 rfl (Or.inl rfl) (jn := r) (by omega) (by omega) <| ?_
        rw [hx]
        refine r_iast c_178_86 rfl (jn := ds.flatten.length + cu.length) (by omega) (by omega) <| r_aload_n c_178_87 rfl <| r_getf_a c_178_88 rfl rfl <| r_aload_n c_178_91 rfl <| r_getf_i c_178_92 rfl rfl <| ?_
        rw [sto_ne (by decide), a1]
        refine r_dup2 c_178_95 rfl rfl <| r_iald c_178_96 rfl (Or.inl rfl) (jn := ds.length) (by omega) (by omega) <| ?_
        rw [sto_ne (by decide), a4]
        refine r_iconst c_178_97 <| r_iadd c_178_98 (by omega) <| r_iast c_178_99 rfl (jn := ds.length) (by omega) (by omega) <| r_iinc_3_1 c_178_100 rfl (by omega) <| r_iinc_3_2 c_178_103 rfl (by omega) <| r_goto c_178_106 <| ?_
        first
        | (refine st1 (by assumption) _ ⟨?_, fun i hi => ?_, ?_, ?_, ?_⟩ (((mf.rf.stF (by decide)).stA (by decide) (by decide)).stA (by decide) (by decide))
           · rw [sto_ne (by decide), sto_ne (by decide), sto_get, List.length_append]; simp
           · rw [List.length_append] at hi
             simp only [List.length_cons, List.length_nil] at hi
             rw [sto_ne (by decide), sto_at, st_ne (by omega), sto_ne (by decide), sto_at, st_ne (by omega), sto_ne (by decide), sto_ne (by decide)]
             by_cases e : i = ds.length
             · subst e
               rw [gds_at, ofs_end]
               exact ⟨a3, a4, fun j hj => by rw [sto_ne (by decide), sto_ne (by decide), sto_ne (by decide)]; exact a5 j hj⟩
             · rw [gds_app (by omega), ofs_app (by omega)]
               have := a2 i (by omega)
               exact ⟨this.1, this.2.1, fun j hj => by rw [sto_ne (by decide), sto_ne (by decide), sto_ne (by decide)]; exact this.2.2 j hj⟩
           · rw [sto_ne (by decide), sto_at, List.length_append]
             simp only [List.length_cons, List.length_nil, List.flatten_append, List.flatten_cons, List.flatten_nil, List.append_nil, List.length_append]
             rw [st_at]
           · rw [sto_at, List.length_append]
             simp only [List.length_cons, List.length_nil]
             rw [st_at]; rfl
           · exact fun j hj => absurd hj (Nat.not_lt_zero j))
        | (refine st0 (by assumption) _ ⟨?_, fun i hi => ?_, ?_, ?_, ?_⟩ ((mf.rf.stA (by decide) (by decide)).stA (by decide) (by decide))
           · rw [sto_ne (by decide), sto_ne (by decide)]; exact a1
           · rw [sto_ne (by decide), sto_ne (by decide), sto_at, st_ne (by omega), sto_ne (by decide)]
             have := a2 i hi
             refine ⟨this.1, this.2.1, fun j hj => ?_⟩
             have hf := ofs_fit hi
             rw [sto_ne (by decide), sto_at, st_ne (by omega)]
             exact this.2.2 j hj
           · rw [sto_ne (by decide), sto_ne (by decide)]; exact a3
           · rw [sto_at, st_at, List.length_append]; simp
           · intro j hj
             rw [List.length_append] at hj
             simp only [List.length_cons, List.length_nil] at hj
             rw [sto_ne (by decide), sto_at]
             by_cases e : j = cu.length
             · subst e
               rw [st_at, gd_app_at]
             · rw [st_ne (by omega), gd_app (by omega)]
               exact a5 j (by omega))
      · refine r_aload_n c_178_42 rfl <| r_dup c_178_43 rfl <| r_getf_i c_178_44 rfl rfl <| ?_
        rw [a1]
        refine r_iconst c_178_47 <| r_iadd c_178_48 (by omega) <| r_putf c_178_49 rfl rfl <| r_aload_n c_178_52 rfl <| r_getf_a c_178_53 rfl rfl <| r_aload_n c_178_56 rfl <| r_getf_i c_178_57 rfl rfl <| ?_
        rw [sto_get]
        refine r_iload_n c_178_60 rfl <| r_iast c_178_61 rfl (jn := ds.length + 1) (by omega) (by omega) <| r_aload_n c_178_62 rfl <| r_getf_a c_178_63 rfl rfl <| r_aload_n c_178_66 rfl <| r_getf_i c_178_67 rfl rfl <| ?_
        rw [sto_ne (by decide), sto_get]
        refine r_iconst c_178_70 <| r_iast c_178_71 rfl (jn := ds.length + 1) (by omega) (by omega) <| r_goto c_178_72 <| r_iinc_3_2 c_178_103 rfl (by omega) <| r_goto c_178_106 <| ?_
        first
        | (refine st1 (by assumption) _ ⟨?_, fun i hi => ?_, ?_, ?_, ?_⟩ (((mf.rf.stF (by decide)).stA (by decide) (by decide)).stA (by decide) (by decide))
           · rw [sto_ne (by decide), sto_ne (by decide), sto_get, List.length_append]; simp
           · rw [List.length_append] at hi
             simp only [List.length_cons, List.length_nil] at hi
             rw [sto_ne (by decide), sto_at, st_ne (by omega), sto_ne (by decide), sto_at, st_ne (by omega), sto_ne (by decide), sto_ne (by decide)]
             by_cases e : i = ds.length
             · subst e
               rw [gds_at, ofs_end]
               exact ⟨a3, a4, fun j hj => by rw [sto_ne (by decide), sto_ne (by decide), sto_ne (by decide)]; exact a5 j hj⟩
             · rw [gds_app (by omega), ofs_app (by omega)]
               have := a2 i (by omega)
               exact ⟨this.1, this.2.1, fun j hj => by rw [sto_ne (by decide), sto_ne (by decide), sto_ne (by decide)]; exact this.2.2 j hj⟩
           · rw [sto_ne (by decide), sto_at, List.length_append]
             simp only [List.length_cons, List.length_nil, List.flatten_append, List.flatten_cons, List.flatten_nil, List.append_nil, List.length_append]
             rw [st_at]
           · rw [sto_at, List.length_append]
             simp only [List.length_cons, List.length_nil]
             rw [st_at]; rfl
           · exact fun j hj => absurd hj (Nat.not_lt_zero j))
        | (refine st0 (by assumption) _ ⟨?_, fun i hi => ?_, ?_, ?_, ?_⟩ ((mf.rf.stA (by decide) (by decide)).stA (by decide) (by decide))
           · rw [sto_ne (by decide), sto_ne (by decide)]; exact a1
           · rw [sto_ne (by decide), sto_ne (by decide), sto_at, st_ne (by omega), sto_ne (by decide)]
             have := a2 i hi
             refine ⟨this.1, this.2.1, fun j hj => ?_⟩
             have hf := ofs_fit hi
             rw [sto_ne (by decide), sto_at, st_ne (by omega)]
             exact this.2.2 j hj
           · rw [sto_ne (by decide), sto_ne (by decide)]; exact a3
           · rw [sto_at, st_at, List.length_append]; simp
           · intro j hj
             rw [List.length_append] at hj
             simp only [List.length_cons, List.length_nil] at hj
             rw [sto_ne (by decide), sto_at]
             by_cases e : j = cu.length
             · subst e
               rw [st_at, gd_app_at]
             · rw [st_ne (by omega), gd_app (by omega)]
               exact a5 j (by omega))
theorem ct_mpart {σ : mk_S} {w : List Int} (hw : w.length ≤ 300) (hpw : pts w) (ho : mOne σ w) (k : ∀ σ', σ' 55 43 = ((splF w []).length : Int) → mLx σ' (splF w []) (splF w []) → mf [81, 82, 83] [43] σ σ' → Q none (hp L σ')) : mm_call 178 [vP 55] (hp L σ) Q := by
  have hs := splF_out w [] hpw pts_nil
  simp only [List.length_nil] at hs
  refine ⟨Nat.le_of_ble_eq_true rfl, ?_⟩
  show mm_X 178 0 [vP 55, mm_null, mm_null] [] _ _
  refine r_aload_n c_178_0 rfl <| r_iconst c_178_1 <| r_putf c_178_2 rfl rfl <| r_aload_n c_178_5 rfl <| r_getf_a c_178_6 rfl rfl <| r_iconst c_178_9 <| r_iconst c_178_10 <| r_iast c_178_11 rfl (jn := 0) rfl (by decide) <| r_aload_n c_178_12 rfl <| r_getf_a c_178_13 rfl rfl <| ?_
  refine r_iconst c_178_16 <| r_iconst c_178_17 <| r_iast c_178_18 rfl (jn := 0) rfl (by decide) <| r_iconst c_178_19 <| r_istore_n_3_1 c_178_20 rfl <| r_iconst c_178_21 <| r_istore_n_3_2 c_178_22 rfl <| ?_
  have f0 : mf [81, 82, 83] [43] σ (sto (sto (sto σ 55 43 0) 82 0 0) 83 0 0) := ((mf.rf.stF (by decide)).stA (by decide) (by decide)).stA (by decide) (by decide)
  refine lp_mp hw w.length 0 [] [] _ Q (by omega) (ho.eq (f0.2 31 (by decide)) (f0.1 76 (by decide) (by decide))) ⟨?_, fun i hi => absurd hi (Nat.not_lt_zero i), ?_, ?_, fun j hj => absurd hj (Nat.not_lt_zero j)⟩ (Nat.le_refl _) (fun σ1 g1 g2 g3 => ?_)
  · rw [sto_ne (by decide), sto_ne (by decide), sto_get]; rfl
  · rw [sto_ne (by decide), sto_at]; exact st_at _ _ _
  · rw [sto_at]; exact st_at _ _ _
  · rw [List.drop_zero, List.nil_append] at g1 g2
    refine k σ1 g1 ⟨rfl, by omega, by omega, fun i hi => ?_⟩ (f0.tr g3)
    have := g2 i hi
    exact ⟨this.1, this.2.1, Nat.le_refl _, this.2.2⟩
end MPART
