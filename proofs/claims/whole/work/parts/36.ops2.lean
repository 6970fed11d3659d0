/-! form, inForm, alike: both sides. -/
def formN (T : mk_S) (w : List Int) (k : Int) : Int := if ¬ (k = 0 ∨ k = 1) then -2 else if 300 < (exL T w).length then -4 else if k = 0 then (ap T w).length else (oF T w).length
def formW (T : mk_S) (w : List Int) (k : Int) : List Int := if ¬ (k = 0 ∨ k = 1) then w else if 300 < (exL T w).length then w else if k = 0 then ap T w else oF T w
def inFN (T : mk_S) (w : List Int) : Int := if (exL T w).length ≤ 300 ∧ w = oF T w then 1 else 0
def alikN (T : mk_S) (t w : List Int) : Int := if (RD t).2 = -2 then -4 else if (RD t).2 ≠ -1 then -10 - (RD t).2 else if 300 < (exL T (RD t).1).length ∨ 300 < (exL T w).length then -4 else if ap T w = ap T (RD t).1 then 1 else 0
theorem ap_len (T : mk_S) (l : List Int) : (ap T l).length = (exL T l).length := by unfold ap; rw [srt_len]
section OPS2
variable {L : Nat} {T : mk_S} {Q : Option mm_V → mm_H → Prop}
theorem ct_formP {σ : mk_S} {w : List Int} (hC : TC σ T) (hO : TOK T) (hw : rowOK σ 5 300 w) (kd : Int) (k : ∀ σ', rowOK σ' 5 300 (formW T w kd) → cf [5, 6, 7, 8, 31, 32, 33] σ σ' → Q (some (vI (formN T w kd))) (hp L σ')) : mm_call 57 [vP 2, vI kd] (hp L σ) Q := by
  have ha := ap_len T w
  have ho := oF_len T w
  refine ⟨Nat.le_of_ble_eq_true rfl, ?_⟩
  show mm_X 57 0 [vP 2, vI kd, mm_null] [] _ _
  refine r_iload_n c_57_0 rfl <| r_if_eq c_57_1 (fun h1 => ?_) <| (fun h1 => ?_)
  · refine r_iload_n c_57_12 rfl <| r_if_ne c_57_13 (fun h13 => ?_) <| (fun h13 => ?_)
    · refine r_aload_n c_57_34 rfl <| r_getf_a c_57_35 rfl rfl <| r_aload_n c_57_38 rfl <| r_getf_a c_57_39 rfl rfl <| r_aload_n c_57_42 rfl <| r_getf_a c_57_43 rfl rfl <| r_cV2 c_57_46 rfl (Nat.le_of_ble_eq_true rfl) <| ?_
      refine ct_form hC hO row5 row7 (by decide) (by decide) (by decide) hw (fun hlen σ1 hl1 hf1 => ?_) (fun hlen σ1 hf1 => ?_)
      · refine r_istore_n_3_2 c_57_49 rfl <| r_iload_n c_57_50 rfl <| r_if_ne c_57_51 (fun _ => ?_) <| (fun h => absurd h (by decide))
        refine r_aload_n c_57_57 rfl <| r_getf_a c_57_58 rfl rfl <| r_aload_n c_57_61 rfl <| r_getf_a c_57_62 rfl rfl <| r_cV1 c_57_65 rfl (Nat.le_of_ble_eq_true rfl) <| ?_
        refine ct_become row5 row7 (by decide) hl1 (by omega) (fun σ2 hl2 hf2 => ?_)
        refine r_aload_n c_57_68 rfl <| r_getf_a c_57_69 rfl rfl <| r_cV0 c_57_72 rfl (Nat.le_of_ble_eq_true rfl) <| ?_
        refine ct_size row5 hl2 ?_
        refine r_iret c_57_75 <| ?_
        first
        | (have e1 : formW T w kd = ap T w := by unfold formW; rw [if_neg (by omega), if_neg (by omega), if_pos (by omega)]
           have e2 : formN T w kd = (ap T w).length := by unfold formN; rw [if_neg (by omega), if_neg (by omega), if_pos (by omega)]
           exact q_val (k σ2 (by rw [e1]; exact hl2) ((hf1.up (by decide)).tr (hf2.cf (by decide) (by decide)))) e2.symm)
        | (have e1 : formW T w kd = oF T w := by unfold formW; rw [if_neg (by omega), if_neg (by omega), if_neg (by omega)]
           have e2 : formN T w kd = (oF T w).length := by unfold formN; rw [if_neg (by omega), if_neg (by omega), if_neg (by omega)]
           exact q_val (k σ2 (by rw [e1]; exact hl2) ((hf1.up (by decide)).tr (hf2.cf (by decide) (by decide)))) e2.symm)
      · refine r_istore_n_3_2 c_57_49 rfl <| r_iload_n c_57_50 rfl <| r_if_ne c_57_51 (fun h => absurd h (by decide)) <| (fun _ => ?_)
        refine r_bipush c_57_54 <| r_iret c_57_56 <| ?_
        have e1 : formW T w kd = w := by unfold formW; rw [if_neg (by omega), if_pos hlen]
        have e2 : formN T w kd = -4 := by unfold formN; rw [if_neg (by omega), if_pos hlen]
        exact q_val (k σ1 (by rw [e1]; exact hw.cf hf1 (by decide) (by decide)) (hf1.up (by decide))) e2.symm
    · refine r_aload_n c_57_16 rfl <| r_getf_a c_57_17 rfl rfl <| r_aload_n c_57_20 rfl <| r_getf_a c_57_21 rfl rfl <| r_aload_n c_57_24 rfl <| r_getf_a c_57_25 rfl rfl <| r_cV2 c_57_28 rfl (Nat.le_of_ble_eq_true rfl) <| ?_
      refine ct_apart hC hO row5 row7 (by decide) (by decide) (by decide) hw (fun hlen σ1 hl1 hb1 hf1 => ?_) (fun hlen σ1 hf1 => ?_)
      · refine r_goto c_57_31 <| r_istore_n_3_2 c_57_49 rfl <| r_iload_n c_57_50 rfl <| r_if_ne c_57_51 (fun _ => ?_) <| (fun h => absurd h (by decide))
        refine r_aload_n c_57_57 rfl <| r_getf_a c_57_58 rfl rfl <| r_aload_n c_57_61 rfl <| r_getf_a c_57_62 rfl rfl <| r_cV1 c_57_65 rfl (Nat.le_of_ble_eq_true rfl) <| ?_
        refine ct_become row5 row7 (by decide) hl1 (by omega) (fun σ2 hl2 hf2 => ?_)
        refine r_aload_n c_57_68 rfl <| r_getf_a c_57_69 rfl rfl <| r_cV0 c_57_72 rfl (Nat.le_of_ble_eq_true rfl) <| ?_
        refine ct_size row5 hl2 ?_
        refine r_iret c_57_75 <| ?_
        first
        | (have e1 : formW T w kd = ap T w := by unfold formW; rw [if_neg (by omega), if_neg (by omega), if_pos (by omega)]
           have e2 : formN T w kd = (ap T w).length := by unfold formN; rw [if_neg (by omega), if_neg (by omega), if_pos (by omega)]
           exact q_val (k σ2 (by rw [e1]; exact hl2) ((hf1.up (by decide)).tr (hf2.cf (by decide) (by decide)))) e2.symm)
        | (have e1 : formW T w kd = oF T w := by unfold formW; rw [if_neg (by omega), if_neg (by omega), if_neg (by omega)]
           have e2 : formN T w kd = (oF T w).length := by unfold formN; rw [if_neg (by omega), if_neg (by omega), if_neg (by omega)]
           exact q_val (k σ2 (by rw [e1]; exact hl2) ((hf1.up (by decide)).tr (hf2.cf (by decide) (by decide)))) e2.symm)
      · refine r_goto c_57_31 <| r_istore_n_3_2 c_57_49 rfl <| r_iload_n c_57_50 rfl <| r_if_ne c_57_51 (fun h => absurd h (by decide)) <| (fun _ => ?_)
        refine r_bipush c_57_54 <| r_iret c_57_56 <| ?_
        have e1 : formW T w kd = w := by unfold formW; rw [if_neg (by omega), if_pos hlen]
        have e2 : formN T w kd = -4 := by unfold formN; rw [if_neg (by omega), if_pos hlen]
        exact q_val (k σ1 (by rw [e1]; exact hw.cf hf1 (by decide) (by decide)) (hf1.up (by decide))) e2.symm
  · refine r_iload_n c_57_4 rfl <| r_iconst c_57_5 <| r_icmp_eq c_57_6 (fun h6 => ?_) <| (fun h6 => ?_)
    · refine r_iload_n c_57_12 rfl <| r_if_ne c_57_13 (fun h13 => ?_) <| (fun h13 => ?_)
      · refine r_aload_n c_57_34 rfl <| r_getf_a c_57_35 rfl rfl <| r_aload_n c_57_38 rfl <| r_getf_a c_57_39 rfl rfl <| r_aload_n c_57_42 rfl <| r_getf_a c_57_43 rfl rfl <| r_cV2 c_57_46 rfl (Nat.le_of_ble_eq_true rfl) <| ?_
        refine ct_form hC hO row5 row7 (by decide) (by decide) (by decide) hw (fun hlen σ1 hl1 hf1 => ?_) (fun hlen σ1 hf1 => ?_)
        · refine r_istore_n_3_2 c_57_49 rfl <| r_iload_n c_57_50 rfl <| r_if_ne c_57_51 (fun _ => ?_) <| (fun h => absurd h (by decide))
          refine r_aload_n c_57_57 rfl <| r_getf_a c_57_58 rfl rfl <| r_aload_n c_57_61 rfl <| r_getf_a c_57_62 rfl rfl <| r_cV1 c_57_65 rfl (Nat.le_of_ble_eq_true rfl) <| ?_
          refine ct_become row5 row7 (by decide) hl1 (by omega) (fun σ2 hl2 hf2 => ?_)
          refine r_aload_n c_57_68 rfl <| r_getf_a c_57_69 rfl rfl <| r_cV0 c_57_72 rfl (Nat.le_of_ble_eq_true rfl) <| ?_
          refine ct_size row5 hl2 ?_
          refine r_iret c_57_75 <| ?_
          first
          | (have e1 : formW T w kd = ap T w := by unfold formW; rw [if_neg (by omega), if_neg (by omega), if_pos (by omega)]
             have e2 : formN T w kd = (ap T w).length := by unfold formN; rw [if_neg (by omega), if_neg (by omega), if_pos (by omega)]
             exact q_val (k σ2 (by rw [e1]; exact hl2) ((hf1.up (by decide)).tr (hf2.cf (by decide) (by decide)))) e2.symm)
          | (have e1 : formW T w kd = oF T w := by unfold formW; rw [if_neg (by omega), if_neg (by omega), if_neg (by omega)]
             have e2 : formN T w kd = (oF T w).length := by unfold formN; rw [if_neg (by omega), if_neg (by omega), if_neg (by omega)]
             exact q_val (k σ2 (by rw [e1]; exact hl2) ((hf1.up (by decide)).tr (hf2.cf (by decide) (by decide)))) e2.symm)
        · refine r_istore_n_3_2 c_57_49 rfl <| r_iload_n c_57_50 rfl <| r_if_ne c_57_51 (fun h => absurd h (by decide)) <| (fun _ => ?_)
          refine r_bipush c_57_54 <| r_iret c_57_56 <| ?_
          have e1 : formW T w kd = w := by unfold formW; rw [if_neg (by omega), if_pos hlen]
          have e2 : formN T w kd = -4 := by unfold formN; rw [if_neg (by omega), if_pos hlen]
          exact q_val (k σ1 (by rw [e1]; exact hw.cf hf1 (by decide) (by decide)) (hf1.up (by decide))) e2.symm
      · refine r_aload_n c_57_16 rfl <| r_getf_a c_57_17 rfl rfl <| r_aload_n c_57_20 rfl <| r_getf_a c_57_21 rfl rfl <| r_aload_n c_57_24 rfl <| r_getf_a c_57_25 rfl rfl <| r_cV2 c_57_28 rfl (Nat.le_of_ble_eq_true rfl) <| ?_
        refine ct_apart hC hO row5 row7 (by decide) (by decide) (by decide) hw (fun hlen σ1 hl1 hb1 hf1 => ?_) (fun hlen σ1 hf1 => ?_)
        · refine r_goto c_57_31 <| r_istore_n_3_2 c_57_49 rfl <| r_iload_n c_57_50 rfl <| r_if_ne c_57_51 (fun _ => ?_) <| (fun h => absurd h (by decide))
          refine r_aload_n c_57_57 rfl <| r_getf_a c_57_58 rfl rfl <| r_aload_n c_57_61 rfl <| r_getf_a c_57_62 rfl rfl <| r_cV1 c_57_65 rfl (Nat.le_of_ble_eq_true rfl) <| ?_
          refine ct_become row5 row7 (by decide) hl1 (by omega) (fun σ2 hl2 hf2 => ?_)
          refine r_aload_n c_57_68 rfl <| r_getf_a c_57_69 rfl rfl <| r_cV0 c_57_72 rfl (Nat.le_of_ble_eq_true rfl) <| ?_
          refine ct_size row5 hl2 ?_
          refine r_iret c_57_75 <| ?_
          first
          | (have e1 : formW T w kd = ap T w := by unfold formW; rw [if_neg (by omega), if_neg (by omega), if_pos (by omega)]
             have e2 : formN T w kd = (ap T w).length := by unfold formN; rw [if_neg (by omega), if_neg (by omega), if_pos (by omega)]
             exact q_val (k σ2 (by rw [e1]; exact hl2) ((hf1.up (by decide)).tr (hf2.cf (by decide) (by decide)))) e2.symm)
          | (have e1 : formW T w kd = oF T w := by unfold formW; rw [if_neg (by omega), if_neg (by omega), if_neg (by omega)]
             have e2 : formN T w kd = (oF T w).length := by unfold formN; rw [if_neg (by omega), if_neg (by omega), if_neg (by omega)]
             exact q_val (k σ2 (by rw [e1]; exact hl2) ((hf1.up (by decide)).tr (hf2.cf (by decide) (by decide)))) e2.symm)
        · refine r_goto c_57_31 <| r_istore_n_3_2 c_57_49 rfl <| r_iload_n c_57_50 rfl <| r_if_ne c_57_51 (fun h => absurd h (by decide)) <| (fun _ => ?_)
          refine r_bipush c_57_54 <| r_iret c_57_56 <| ?_
          have e1 : formW T w kd = w := by unfold formW; rw [if_neg (by omega), if_pos hlen]
          have e2 : formN T w kd = -4 := by unfold formN; rw [if_neg (by omega), if_pos hlen]
          exact q_val (k σ1 (by rw [e1]; exact hw.cf hf1 (by decide) (by decide)) (hf1.up (by decide))) e2.symm
    · refine r_bipush c_57_9 <| r_iret c_57_11 <| ?_
      have e1 : formW T w kd = w := by unfold formW; rw [if_pos (by omega)]
      have e2 : formN T w kd = -2 := by unfold formN; rw [if_pos (by omega)]
      exact q_val (k σ (by rw [e1]; exact hw) cf.rf) e2.symm
theorem ct_inForm {σ : mk_S} {w : List Int} (hC : TC σ T) (hO : TOK T) (hw : rowOK σ 5 300 w) (k : ∀ σ', cf [7, 8, 31, 32, 33] σ σ' → Q (some (vI (inFN T w))) (hp L σ')) : mm_call 73 [vP 2] (hp L σ) Q := by
  refine ⟨Nat.le_of_ble_eq_true rfl, ?_⟩
  show mm_X 73 0 [vP 2] [] _ _
  refine r_aload_n c_73_0 rfl <| r_getf_a c_73_1 rfl rfl <| r_aload_n c_73_4 rfl <| r_getf_a c_73_5 rfl rfl <| r_aload_n c_73_8 rfl <| r_getf_a c_73_9 rfl rfl <| r_cV2 c_73_12 rfl (Nat.le_of_ble_eq_true rfl) <| ?_
  refine ct_form hC hO row5 row7 (by decide) (by decide) (by decide) hw (fun hlen σ1 hl1 hf1 => ?_) (fun hlen σ1 hf1 => ?_)
  · refine r_if_eq c_73_15 (fun h => absurd h (by decide)) <| (fun _ => ?_)
    refine r_aload_n c_73_18 rfl <| r_getf_a c_73_19 rfl rfl <| r_aload_n c_73_22 rfl <| r_getf_a c_73_23 rfl rfl <| r_cV1 c_73_26 rfl (Nat.le_of_ble_eq_true rfl) <| ?_
    refine ct_isLike row5 row7 (hw.cf hf1 (by decide) (by decide)) hl1 ?_
    refine r_if_eq c_73_29 (fun h29 => ?_) <| (fun h29 => ?_)
    · refine r_iconst c_73_36 <| r_iret c_73_37 <| ?_
      first
      | exact q_val (k σ1 (hf1.up (by decide))) (by unfold inFN; rw [if_neg (by omega)])
      | (by_cases e : w = oF T w
         · rw [if_pos e] at h29
           first
           | exact absurd h29 (by decide)
           | exact q_val (k σ1 (hf1.up (by decide))) (by unfold inFN; rw [if_pos ⟨hlen, e⟩])
         · rw [if_neg e] at h29
           first
           | exact absurd h29 (by decide)
           | exact q_val (k σ1 (hf1.up (by decide))) (by unfold inFN; rw [if_neg (fun q => e q.2)]))
    · refine r_iconst c_73_32 <| r_goto c_73_33 <| r_iret c_73_37 <| ?_
      first
      | exact q_val (k σ1 (hf1.up (by decide))) (by unfold inFN; rw [if_neg (by omega)])
      | (by_cases e : w = oF T w
         · rw [if_pos e] at h29
           first
           | exact absurd h29 (by decide)
           | exact q_val (k σ1 (hf1.up (by decide))) (by unfold inFN; rw [if_pos ⟨hlen, e⟩])
         · rw [if_neg e] at h29
           first
           | exact absurd h29 (by decide)
           | exact q_val (k σ1 (hf1.up (by decide))) (by unfold inFN; rw [if_neg (fun q => e q.2)]))
  · refine r_if_eq c_73_15 (fun _ => ?_) <| (fun h => absurd h (by decide))
    refine r_iconst c_73_36 <| r_iret c_73_37 <| ?_
    first
    | exact q_val (k σ1 (hf1.up (by decide))) (by unfold inFN; rw [if_neg (by omega)])
    | (by_cases e : w = oF T w
       · rw [if_pos e] at h29
         first
         | exact absurd h29 (by decide)
         | exact q_val (k σ1 (hf1.up (by decide))) (by unfold inFN; rw [if_pos ⟨hlen, e⟩])
       · rw [if_neg e] at h29
         first
         | exact absurd h29 (by decide)
         | exact q_val (k σ1 (hf1.up (by decide))) (by unfold inFN; rw [if_neg (fun q => e q.2)]))
theorem ct_alike {σ : mk_S} {t w : List Int} (hC : TC σ T) (hO : TOK T) (hot : octs t) (ht : rowOK σ 3 400 t) (hw : rowOK σ 5 300 w) (k : ∀ σ', cf [7, 8, 9, 10, 31, 32, 33] σ σ' → Q (some (vI (alikN T t w))) (hp L σ')) : mm_call 77 [vP 2] (hp L σ) Q := by
  have hR := RD_pts hot
  have hle := ht.2.1
  refine ⟨Nat.le_of_ble_eq_true rfl, ?_⟩
  show mm_X 77 0 [vP 2, mm_null] [] _ _
  refine r_aload_n c_77_0 rfl <| r_getf_a c_77_1 rfl rfl <| r_aload_n c_77_4 rfl <| r_getf_a c_77_5 rfl rfl <| r_cS2 c_77_8 (Nat.le_of_ble_eq_true rfl) <| ?_
  refine ct_take row3 row7 (by decide) hot ht (fun σ1 hs1 hf1 => ?_)
  refine r_istore_n_2_1 c_77_11 rfl <| r_iload_n c_77_12 rfl <| r_iconst c_77_13 <| r_icmp_eq c_77_14 (fun h14 => ?_) <| (fun h14 => ?_)
  · refine r_aload_n c_77_22 rfl <| r_getf_a c_77_23 rfl rfl <| r_aload_n c_77_26 rfl <| r_getf_a c_77_27 rfl rfl <| r_aload_n c_77_30 rfl <| r_getf_a c_77_31 rfl rfl <| r_cV2 c_77_34 rfl (Nat.le_of_ble_eq_true rfl) <| ?_
    refine ct_apart (hC.cf (A := [7, 8]) (hf1.cf (by decide) (by decide)) (by decide)) hO row7 row9 (by decide) (by decide) (by decide) hs1 (fun hlen σ2 hl2 hb2 hf2 => ?_) (fun hlen σ2 hf2 => ?_)
    · refine r_if_eq c_77_37 (fun h => absurd h (by decide)) <| (fun _ => ?_)
      refine r_aload_n c_77_40 rfl <| r_getf_a c_77_41 rfl rfl <| r_aload_n c_77_44 rfl <| r_getf_a c_77_45 rfl rfl <| r_aload_n c_77_48 rfl <| r_getf_a c_77_49 rfl rfl <| r_cV2 c_77_52 rfl (Nat.le_of_ble_eq_true rfl) <| ?_
      refine ct_apart ((hC.cf (A := [7, 8]) (hf1.cf (by decide) (by decide)) (by decide)).cf hf2 (by decide)) hO row5 row7 (by decide) (by decide) (by decide) ((hw.fr2 hf1 (by decide)).cf hf2 (by decide) (by decide)) (fun hlen2 σ3 hl3 hb3 hf3 => ?_) (fun hlen2 σ3 hf3 => ?_)
      · refine r_if_ne c_77_55 (fun _ => ?_) <| (fun h => absurd h (by decide))
        refine r_aload_n c_77_61 rfl <| r_getf_a c_77_62 rfl rfl <| r_aload_n c_77_65 rfl <| r_getf_a c_77_66 rfl rfl <| r_cV1 c_77_69 rfl (Nat.le_of_ble_eq_true rfl) <| ?_
        refine ct_isLike row7 row9 hl3 (hl2.cf hf3 (by decide) (by decide)) ?_
        refine r_if_eq c_77_72 (fun h72 => ?_) <| (fun h72 => ?_)
        · refine r_iconst c_77_79 <| r_iret c_77_80 <| ?_
          have hcf : cf [7, 8, 9, 10, 31, 32, 33] σ σ3 := (((hf1.cf (by decide) (by decide)) : cf [7, 8, 9, 10, 31, 32, 33] σ σ1).tr (hf2.up (by decide))).tr (hf3.up (by decide))
          by_cases e : ap T w = ap T (RD t).1
          · rw [if_pos e] at h72
            first
            | exact absurd h72 (by decide)
            | exact q_val (k σ3 hcf) (by unfold alikN; rw [if_neg (by omega), if_neg (by omega), if_neg (by omega), if_pos e])
          · rw [if_neg e] at h72
            first
            | exact absurd h72 (by decide)
            | exact q_val (k σ3 hcf) (by unfold alikN; rw [if_neg (by omega), if_neg (by omega), if_neg (by omega), if_neg e])
        · refine r_iconst c_77_75 <| r_goto c_77_76 <| r_iret c_77_80 <| ?_
          have hcf : cf [7, 8, 9, 10, 31, 32, 33] σ σ3 := (((hf1.cf (by decide) (by decide)) : cf [7, 8, 9, 10, 31, 32, 33] σ σ1).tr (hf2.up (by decide))).tr (hf3.up (by decide))
          by_cases e : ap T w = ap T (RD t).1
          · rw [if_pos e] at h72
            first
            | exact absurd h72 (by decide)
            | exact q_val (k σ3 hcf) (by unfold alikN; rw [if_neg (by omega), if_neg (by omega), if_neg (by omega), if_pos e])
          · rw [if_neg e] at h72
            first
            | exact absurd h72 (by decide)
            | exact q_val (k σ3 hcf) (by unfold alikN; rw [if_neg (by omega), if_neg (by omega), if_neg (by omega), if_neg e])
      · refine r_if_ne c_77_55 (fun h => absurd h (by decide)) <| (fun _ => ?_)
        refine r_bipush c_77_58 <| r_iret c_77_60 <| ?_
        first
        | exact q_val (k σ2 (((hf1.cf (by decide) (by decide)) : cf [7, 8, 9, 10, 31, 32, 33] σ σ1).tr (hf2.up (by decide)))) (by unfold alikN; rw [if_neg (by omega), if_neg (by omega), if_pos (Or.inl hlen)])
        | exact q_val (k σ3 ((((hf1.cf (by decide) (by decide)) : cf [7, 8, 9, 10, 31, 32, 33] σ σ1).tr (hf2.up (by decide))).tr (hf3.up (by decide)))) (by unfold alikN; rw [if_neg (by omega), if_neg (by omega), if_pos (Or.inr hlen2)])
    · refine r_if_eq c_77_37 (fun _ => ?_) <| (fun h => absurd h (by decide))
      refine r_bipush c_77_58 <| r_iret c_77_60 <| ?_
      first
      | exact q_val (k σ2 (((hf1.cf (by decide) (by decide)) : cf [7, 8, 9, 10, 31, 32, 33] σ σ1).tr (hf2.up (by decide)))) (by unfold alikN; rw [if_neg (by omega), if_neg (by omega), if_pos (Or.inl hlen)])
      | exact q_val (k σ3 ((((hf1.cf (by decide) (by decide)) : cf [7, 8, 9, 10, 31, 32, 33] σ σ1).tr (hf2.up (by decide))).tr (hf3.up (by decide)))) (by unfold alikN; rw [if_neg (by omega), if_neg (by omega), if_pos (Or.inr hlen2)])
  · refine r_iload_n c_77_17 rfl <| r_cS1 c_77_18 (Nat.le_of_ble_eq_true rfl) <| ?_
    refine ct_refusal _ (by omega) ?_
    refine r_iret c_77_21 <| ?_
    exact q_val (k σ1 (hf1.cf (by decide) (by decide))) (by unfold alikN; (repeat' split) <;> omega)
-- the reference's
theorem lp_mformc {l : List Int} {kd : Int} (hll : l.length ≤ 300) : ∀ (k i : Nat) (σ : mk_S) (Q : Option mm_V → mm_H → Prop), l.length + 1 ≤ i + k → i ≤ l.length → σ 55 4 = l.length → (kd = 0 ∧ arr σ 74 l ∨ kd ≠ 0 ∧ arr σ 76 l) → (∀ j, j < i → σ 57 j = l.getD j 0) →
    (∀ σ', mRow σ' l → mf [57] [4] σ σ' → Q (some (vI l.length)) (hp L σ')) → mm_X 156 57 [vP 55, vI kd, vI i] [] (hp L σ) Q := by
  intro k
  induction k with
  | zero => intro i σ Q h1 h2; omega
  | succ k ih =>
    intro i σ Q hk hi e4 hA hr kk
    have Xst : i < l.length → ∀ z, z = l.getD i 0 → mm_X 156 90 [vP 55, vI kd, vI i] [] (hp L (sto σ 57 i z)) Q := by
      intro hil z hz
      have hfr : mf [57] [4] σ (sto σ 57 i z) := mf.rf.stA (by decide) (by decide)
      refine r_iinc_3_2 c_156_90 rfl (by omega) <| r_goto c_156_93 <| ?_
      refine ih (i + 1) _ Q (by omega) (by omega) ((congrFun (sto_ne (by decide)) 4).trans e4) ?_ (fun j hj => ?_) (fun σ2 g1 g2 => kk σ2 g1 (hfr.tr g2))
      · rcases hA with ⟨g1, g2⟩ | ⟨g1, g2⟩
        · exact Or.inl ⟨g1, g2.eq (sto_ne (by decide))⟩
        · exact Or.inr ⟨g1, g2.eq (sto_ne (by decide))⟩
      · rw [sto_at]
        by_cases e : j = i
        · subst e; rw [st_at]; exact hz
        · rw [st_ne e]; exact hr j (by omega)
    refine r_iload_n c_156_57 rfl <| r_aload_n c_156_58 rfl <| r_getf_i c_156_59 rfl rfl <| r_icmp_ge c_156_62 (fun h62 => ?_) <| (fun h62 => ?_)
    · refine r_aload_n c_156_96 rfl <| r_getf_i c_156_97 rfl rfl <| r_iret c_156_100 <| ?_
      rw [e4]
      exact kk σ ⟨e4, hll, fun j hj => hr j (by omega)⟩ mf.rf
    · refine r_aload_n c_156_65 rfl <| r_getf_a c_156_66 rfl rfl <| r_iload_n c_156_69 rfl <| r_iload_n c_156_70 rfl <| r_if_ne c_156_71 (fun h71 => ?_) <| (fun h71 => ?_)
      · refine r_aload_n c_156_83 rfl <| r_getf_a c_156_84 rfl rfl <| r_iload_n c_156_87 rfl <| r_iald c_156_88 rfl (Or.inl rfl) rfl (by omega) <| r_iast c_156_89 rfl rfl (by omega) <| ?_
        first
        | exact Xst (by omega) _ ((hA.resolve_right (by omega)).2 i (by omega))
        | exact Xst (by omega) _ ((hA.resolve_left (by omega)).2 i (by omega))
      · refine r_aload_n c_156_74 rfl <| r_getf_a c_156_75 rfl rfl <| r_iload_n c_156_78 rfl <| r_iald c_156_79 rfl (Or.inl rfl) rfl (by omega) <| r_goto c_156_80 <| r_iast c_156_89 rfl rfl (by omega) <| ?_
        first
        | exact Xst (by omega) _ ((hA.resolve_right (by omega)).2 i (by omega))
        | exact Xst (by omega) _ ((hA.resolve_left (by omega)).2 i (by omega))
theorem ct_mformP {σ : mk_S} {w : List Int} (hM : MT σ T) (hO : TOK T) (hw : mRow σ w) (kd : Int) (k : ∀ σ', mRow σ' (formW T w kd) → mf [57, 74, 75, 76] [0, 4, 28, 31] σ σ' → Q (some (vI (formN T w kd))) (hp L σ')) : mm_call 156 [vP 55, vI kd] (hp L σ) Q := by
  have ha := ap_len T w
  have ho := oF_len T w
  have f0 : mf [57, 74, 75, 76] [0, 4, 28, 31] σ (sto σ 55 0 0) := mf.rf.stF (by decide)
  have hM0 := hM.c0
  have hw0 : mRow (sto σ 55 0 0) w := hw.eq (sto_get2 (Or.inr (by decide))) (sto_ne (by decide))
  have e4 := hw0.1
  have hle := hw0.2.1
  refine ⟨Nat.le_of_ble_eq_true rfl, ?_⟩
  show mm_X 156 0 [vP 55, vI kd, mm_null] [] _ _
  refine r_aload_n c_156_0 rfl <| r_iconst c_156_1 <| r_putf c_156_2 rfl rfl <| r_iload_n c_156_5 rfl <| r_iconst c_156_6 <| r_iconst c_156_7 <| r_cS3 c_156_8 (Nat.le_of_ble_eq_true rfl) <| ?_
  refine ct_in _ _ _ (fun h8 => ?_) (fun h8 => ?_)
  · refine r_if_ne c_156_11 (fun _ => ?_) <| (fun h => absurd h (by decide))
    refine r_aload_n c_156_17 rfl <| r_aload_n c_156_18 rfl <| r_getf_a c_156_19 rfl rfl <| r_iconst c_156_22 <| r_aload_n c_156_23 rfl <| r_getf_i c_156_24 rfl rfl <| ?_
    rw [e4]
    refine r_cV3 c_156_27 rfl (Nat.le_of_ble_eq_true rfl) <| ?_
    refine ct_mform (ra := 57) (na := 300) (at0 := 0) hM0 hO rfl (by decide) (by omega) (by decide) (fun j hj => by rw [Nat.zero_add]; exact hw0.2.2 j hj) (fun hlen σ1 hA1 hl1 hf1 => ?_) (fun hlen σ1 hf1 => ?_)
    · refine r_if_ne c_156_30 (fun _ => ?_) <| (fun h => absurd h (by decide))
      refine r_aload_n c_156_36 rfl <| r_iload_n c_156_37 rfl <| r_if_ne c_156_38 (fun h38 => ?_) <| (fun h38 => ?_)
      · refine r_aload_n c_156_48 rfl <| r_getf_i c_156_49 rfl rfl <| ?_
        have e1 : formW T w kd = if kd = 0 then ap T w else oF T w := by unfold formW; rw [if_neg (by omega), if_neg (by omega)]
        have e2 : formN T w kd = ((if kd = 0 then ap T w else oF T w).length : Int) := by unfold formN; rw [if_neg (by omega), if_neg (by omega)]; split <;> rfl
        have key := fun z (hz : z = ((if kd = 0 then ap T w else oF T w).length : Int)) => lp_mformc (L := L) (l := if kd = 0 then ap T w else oF T w) (kd := kd) (by split <;> omega) ((if kd = 0 then ap T w else oF T w).length + 1) 0 (sto σ1 55 4 z) Q (by omega) (by omega) (by rw [sto_get]; exact hz) (by
          by_cases e : kd = 0
          · exact Or.inl ⟨e, by rw [if_pos e]; exact hA1.2.eq (sto_ne (by decide))⟩
          · exact Or.inr ⟨e, by rw [if_neg e]; exact hl1.2.eq (sto_ne (by decide))⟩) (fun j hj => absurd hj (Nat.not_lt_zero j)) (fun σ' g1 g2 => by
            rw [← e2]
            exact k σ' (by rw [e1]; exact g1) ((f0.tr (hf1.up (by decide) (by decide))).tr ((mf.rf.stF (by decide)).tr (g2.up (by decide) (by decide)))))
        refine r_putf c_156_52 rfl rfl <| r_iconst c_156_55 <| r_istore_n_3_2 c_156_56 rfl <| ?_
        first | exact key _ (by rw [if_pos (by omega)]; exact hA1.1) | exact key _ (by rw [if_neg (by omega)]; exact hl1.1)
      · refine r_aload_n c_156_41 rfl <| r_getf_i c_156_42 rfl rfl <| r_goto c_156_45 <| ?_
        have e1 : formW T w kd = if kd = 0 then ap T w else oF T w := by unfold formW; rw [if_neg (by omega), if_neg (by omega)]
        have e2 : formN T w kd = ((if kd = 0 then ap T w else oF T w).length : Int) := by unfold formN; rw [if_neg (by omega), if_neg (by omega)]; split <;> rfl
        have key := fun z (hz : z = ((if kd = 0 then ap T w else oF T w).length : Int)) => lp_mformc (L := L) (l := if kd = 0 then ap T w else oF T w) (kd := kd) (by split <;> omega) ((if kd = 0 then ap T w else oF T w).length + 1) 0 (sto σ1 55 4 z) Q (by omega) (by omega) (by rw [sto_get]; exact hz) (by
          by_cases e : kd = 0
          · exact Or.inl ⟨e, by rw [if_pos e]; exact hA1.2.eq (sto_ne (by decide))⟩
          · exact Or.inr ⟨e, by rw [if_neg e]; exact hl1.2.eq (sto_ne (by decide))⟩) (fun j hj => absurd hj (Nat.not_lt_zero j)) (fun σ' g1 g2 => by
            rw [← e2]
            exact k σ' (by rw [e1]; exact g1) ((f0.tr (hf1.up (by decide) (by decide))).tr ((mf.rf.stF (by decide)).tr (g2.up (by decide) (by decide)))))
        refine r_putf c_156_52 rfl rfl <| r_iconst c_156_55 <| r_istore_n_3_2 c_156_56 rfl <| ?_
        first | exact key _ (by rw [if_pos (by omega)]; exact hA1.1) | exact key _ (by rw [if_neg (by omega)]; exact hl1.1)
    · refine r_if_ne c_156_30 (fun h => absurd h (by decide)) <| (fun _ => ?_)
      refine r_bipush c_156_33 <| r_iret c_156_35 <| ?_
      have e1 : formW T w kd = w := by unfold formW; rw [if_neg (by omega), if_pos hlen]
      have e2 : formN T w kd = -4 := by unfold formN; rw [if_neg (by omega), if_pos hlen]
      exact q_val (k σ1 (by rw [e1]; exact hw0.mf hf1 (by decide) (by decide)) (f0.tr (hf1.up (by decide) (by decide)))) e2.symm
  · refine r_if_ne c_156_11 (fun h => absurd h (by decide)) <| (fun _ => ?_)
    refine r_bipush c_156_14 <| r_iret c_156_16 <| ?_
    have e1 : formW T w kd = w := by unfold formW; rw [if_pos (by omega)]
    have e2 : formN T w kd = -2 := by unfold formN; rw [if_pos (by omega)]
    exact q_val (k _ (by rw [e1]; exact hw0) f0) e2.symm
theorem lp_mfirst {ra na at0 : Nat} {lf o : List Int} {σ : mk_S} (ha : kd L ra = .inl (0, na)) (hat : at0 + lf.length ≤ na) (hna : na ≤ 2000) (hf : ∀ j, j < lf.length → σ ra (at0 + j) = lf.getD j 0) (hl : mOne σ o) (hol : o.length ≤ 300) (k : ∀ j, fdiff (lf.drop 0) (o.drop 0) 0 = j → Q (some (vI (onat j))) (hp L σ)) :
    ∀ (t i : Nat), lf.length + 1 ≤ i + t → i ≤ lf.length → i ≤ o.length → fdiff (lf.drop 0) (o.drop 0) 0 = fdiff (lf.drop i) (o.drop i) i → mm_X 162 3 [vP 55, vP ra, vI at0, vI lf.length, vI i] [] (hp L σ) Q := by
  have e31 := hl.1
  intro t
  induction t with
  | zero => intro i h1 h2; omega
  | succ t ih =>
    intro i ht hi hi2 he
    have Xe : i = lf.length ∨ i = o.length → fdiff (lf.drop 0) (o.drop 0) 0 = if lf.length = o.length then none else some i := fun h => by rw [he, fdiff_end h hi hi2]
    have Xend : (if lf.length = o.length then fdiff (lf.drop 0) (o.drop 0) 0 = none ∨ i < lf.length else True) → fdiff (lf.drop 0) (o.drop 0) 0 = (if i = lf.length ∧ i = o.length then none else some i) → mm_X 162 40 [vP 55, vP ra, vI at0, vI lf.length, vI i] [] (hp L σ) Q := by
      intro _ hx
      refine r_iload c_162_40 rfl <| r_iload_n c_162_42 rfl <| r_icmp_ne c_162_43 (fun h43 => ?_) <| (fun h43 => ?_)
      · refine r_iload c_162_59 rfl <| r_iret c_162_61 <| ?_
        first
        | exact k none (by rw [hx, if_pos ⟨by omega, by omega⟩])
        | exact k (some i) (by rw [hx, if_neg (by omega)])
      · refine r_iload c_162_46 rfl <| r_aload_n c_162_48 rfl <| r_getf_i c_162_49 rfl rfl <| r_icmp_ne c_162_52 (fun h52 => ?_) <| (fun h52 => ?_)
        · refine r_iload c_162_59 rfl <| r_iret c_162_61 <| ?_
          first
          | exact k none (by rw [hx, if_pos ⟨by omega, by omega⟩])
          | exact k (some i) (by rw [hx, if_neg (by omega)])
        · refine r_iconst c_162_55 <| r_goto c_162_56 <| r_iret c_162_61 <| ?_
          first
          | exact k none (by rw [hx, if_pos ⟨by omega, by omega⟩])
          | exact k (some i) (by rw [hx, if_neg (by omega)])
    refine r_iload c_162_3 rfl <| r_iload_n c_162_5 rfl <| r_icmp_ge c_162_6 (fun h6 => ?_) <| (fun h6 => ?_)
    · refine Xend (by split <;> first | trivial | (by_cases q : i < lf.length; exact Or.inr q; left; rw [Xe (by omega), if_pos (by assumption)])) ?_
      first
      | (rw [he, fdiff_step (by omega) (by omega), if_neg (by rw [← hf i (by omega), ← hl.2 i (by omega)]; exact h31), if_neg (by omega)])
      | (rw [Xe (by omega)]
         by_cases q : lf.length = o.length
         · rw [if_pos q, if_pos (by omega)]
         · rw [if_neg q, if_neg (by omega)])
    · refine r_iload c_162_9 rfl <| r_aload_n c_162_11 rfl <| r_getf_i c_162_12 rfl rfl <| r_icmp_ge c_162_15 (fun h15 => ?_) <| (fun h15 => ?_)
      · refine Xend (by split <;> first | trivial | (by_cases q : i < lf.length; exact Or.inr q; left; rw [Xe (by omega), if_pos (by assumption)])) ?_
        first
        | (rw [he, fdiff_step (by omega) (by omega), if_neg (by rw [← hf i (by omega), ← hl.2 i (by omega)]; exact h31), if_neg (by omega)])
        | (rw [Xe (by omega)]
           by_cases q : lf.length = o.length
           · rw [if_pos q, if_pos (by omega)]
           · rw [if_neg q, if_neg (by omega)])
      · refine r_aload_n c_162_18 rfl <| r_iload_n c_162_19 rfl <| r_iload c_162_20 rfl <| r_iadd c_162_22 (by omega) <| r_iald c_162_23 ha (Or.inl rfl) (jn := at0 + i) (by omega) (by omega) <| r_aload_n c_162_24 rfl <| r_getf_a c_162_25 rfl rfl <| r_iload c_162_28 rfl <| r_iald c_162_30 rfl (Or.inl rfl) (jn := i) rfl (by omega) <| r_icmp_ne c_162_31 (fun h31 => ?_) <| (fun h31 => ?_)
        · refine Xend (by split <;> first | trivial | (by_cases q : i < lf.length; exact Or.inr q; left; rw [Xe (by omega), if_pos (by assumption)])) ?_
          first
          | (rw [he, fdiff_step (by omega) (by omega), if_neg (by rw [← hf i (by omega), ← hl.2 i (by omega)]; exact h31), if_neg (by omega)])
          | (rw [Xe (by omega)]
             by_cases q : lf.length = o.length
             · rw [if_pos q, if_pos (by omega)]
             · rw [if_neg q, if_neg (by omega)])
        · refine r_iinc_5_4 c_162_34 rfl (by omega) <| r_goto c_162_37 <| ?_
          refine ih (i + 1) (by omega) (by omega) (by omega) ?_
          rw [he, fdiff_step (by omega) (by omega), if_pos (by rw [← hf i (by omega), ← hl.2 i (by omega)]; exact h31)]
theorem ct_mfirst {ra na at0 : Nat} {lf o : List Int} {σ : mk_S} (ha : kd L ra = .inl (0, na)) (hat : at0 + lf.length ≤ na) (hna : na ≤ 2000) (hf : ∀ j, j < lf.length → σ ra (at0 + j) = lf.getD j 0) (hl : mOne σ o) (hol : o.length ≤ 300) (k : Q (some (vI (onat (fdiff lf o 0)))) (hp L σ)) : mm_call 162 [vP 55, vP ra, vI at0, vI lf.length] (hp L σ) Q := by
  refine ⟨Nat.le_of_ble_eq_true rfl, ?_⟩
  show mm_X 162 0 [vP 55, vP ra, vI at0, vI lf.length, mm_null] [] _ _
  refine r_iconst c_162_0 <| r_istore_5_4 c_162_1 rfl <| ?_
  exact lp_mfirst ha hat hna hf hl hol (fun j hj => by rw [← hj]; exact k) (lf.length + 1) 0 (by omega) (by omega) (by omega) rfl
theorem ct_minForm {σ : mk_S} {w : List Int} (hM : MT σ T) (hO : TOK T) (hw : mRow σ w) (k : ∀ σ', mf [74, 75, 76] [0, 28, 31] σ σ' → Q (some (vI (inFN T w))) (hp L σ')) : mm_call 161 [vP 55] (hp L σ) Q := by
  have ho := oF_len T w
  have f0 : mf [74, 75, 76] [0, 28, 31] σ (sto σ 55 0 0) := mf.rf.stF (by decide)
  have hM0 := hM.c0
  have hw0 : mRow (sto σ 55 0 0) w := hw.eq (sto_get2 (Or.inr (by decide))) (sto_ne (by decide))
  have e4 := hw0.1
  have hle := hw0.2.1
  refine ⟨Nat.le_of_ble_eq_true rfl, ?_⟩
  show mm_X 161 0 [vP 55] [] _ _
  refine r_aload_n c_161_0 rfl <| r_iconst c_161_1 <| r_putf c_161_2 rfl rfl <| r_aload_n c_161_5 rfl <| r_aload_n c_161_6 rfl <| r_getf_a c_161_7 rfl rfl <| r_iconst c_161_10 <| r_aload_n c_161_11 rfl <| r_getf_i c_161_12 rfl rfl <| ?_
  rw [e4]
  refine r_cV3 c_161_15 rfl (Nat.le_of_ble_eq_true rfl) <| ?_
  refine ct_mform (ra := 57) (na := 300) (at0 := 0) hM0 hO rfl (by decide) (by omega) (by decide) (fun j hj => by rw [Nat.zero_add]; exact hw0.2.2 j hj) (fun hlen σ1 hA1 hl1 hf1 => ?_) (fun hlen σ1 hf1 => ?_)
  · refine r_if_eq c_161_18 (fun h => absurd h (by decide)) <| (fun _ => ?_)
    refine r_aload_n c_161_21 rfl <| r_aload_n c_161_22 rfl <| r_getf_a c_161_23 rfl rfl <| r_iconst c_161_26 <| r_aload_n c_161_27 rfl <| r_getf_i c_161_28 rfl rfl <| ?_
    have hw1 := hw0.mf hf1 (by decide) (by decide)
    rw [hw1.1]
    refine r_cV3 c_161_31 rfl (Nat.le_of_ble_eq_true rfl) <| ?_
    refine ct_mfirst (ra := 57) (na := 300) (at0 := 0) rfl (by omega) (by decide) (fun j hj => by rw [Nat.zero_add]; exact hw1.2.2 j hj) hl1 (by omega) ?_
    refine r_if_ge c_161_34 (fun h34 => ?_) <| (fun h34 => ?_)
    · refine r_iconst c_161_41 <| r_iret c_161_42 <| ?_
      first
      | exact q_val (k σ1 (f0.tr (hf1.up (by decide) (by decide)))) (by unfold inFN; rw [if_neg (by omega)])
      | (have hfd := fdiff_none w (oF T w) 0
         cases hd : fdiff w (oF T w) 0 with
         | none =>
           rw [hd] at h34
           first
           | exact absurd h34 (by decide)
           | exact q_val (k σ1 (f0.tr (hf1.up (by decide) (by decide)))) (by unfold inFN; rw [if_pos ⟨hlen, hfd.mp hd⟩])
         | some j =>
           rw [hd] at h34
           first
           | exact absurd h34 (by show ¬ ((j : Int) < 0); omega)
           | exact q_val (k σ1 (f0.tr (hf1.up (by decide) (by decide)))) (by unfold inFN; rw [if_neg (fun q => by rw [hfd.mpr q.2] at hd; cases hd)]))
    · refine r_iconst c_161_37 <| r_goto c_161_38 <| r_iret c_161_42 <| ?_
      first
      | exact q_val (k σ1 (f0.tr (hf1.up (by decide) (by decide)))) (by unfold inFN; rw [if_neg (by omega)])
      | (have hfd := fdiff_none w (oF T w) 0
         cases hd : fdiff w (oF T w) 0 with
         | none =>
           rw [hd] at h34
           first
           | exact absurd h34 (by decide)
           | exact q_val (k σ1 (f0.tr (hf1.up (by decide) (by decide)))) (by unfold inFN; rw [if_pos ⟨hlen, hfd.mp hd⟩])
         | some j =>
           rw [hd] at h34
           first
           | exact absurd h34 (by show ¬ ((j : Int) < 0); omega)
           | exact q_val (k σ1 (f0.tr (hf1.up (by decide) (by decide)))) (by unfold inFN; rw [if_neg (fun q => by rw [hfd.mpr q.2] at hd; cases hd)]))
  · refine r_if_eq c_161_18 (fun _ => ?_) <| (fun h => absurd h (by decide))
    refine r_iconst c_161_41 <| r_iret c_161_42 <| ?_
    first
    | exact q_val (k σ1 (f0.tr (hf1.up (by decide) (by decide)))) (by unfold inFN; rw [if_neg (by omega)])
    | (have hfd := fdiff_none w (oF T w) 0
       cases hd : fdiff w (oF T w) 0 with
       | none =>
         rw [hd] at h34
         first
         | exact absurd h34 (by decide)
         | exact q_val (k σ1 (f0.tr (hf1.up (by decide) (by decide)))) (by unfold inFN; rw [if_pos ⟨hlen, hfd.mp hd⟩])
       | some j =>
         rw [hd] at h34
         first
         | exact absurd h34 (by show ¬ ((j : Int) < 0); omega)
         | exact q_val (k σ1 (f0.tr (hf1.up (by decide) (by decide)))) (by unfold inFN; rw [if_neg (fun q => by rw [hfd.mpr q.2] at hd; cases hd)]))
end OPS2
