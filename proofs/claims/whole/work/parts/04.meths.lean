/-! the methods: name, bytes, locals, what it returns, kind (0 static, 1 of an object, 2 constructor), depth -/
abbrev mm_MI : Type := MethodName × ByteArray × Nat × Option FieldType × Nat × Nat
def mm_meths : List mm_MI := [
  (yL_law, cL_law, 4, (some .boolean), 0, 8),
  (yX11_init, cX11_init, 1, none, 2, 4),
  (yX9_init, cX9_init, 2, none, 2, 1),
  (yX10_init, cX10_init, 1, none, 2, 1),
  (yX6_init, cX6_init, 1, none, 2, 1),
  (yX8_init, cX8_init, 1, none, 2, 1),
  (yX7_init, cX7_init, 1, none, 2, 1),
  (yX1_init, cX1_init, 3, none, 2, 2),
  (yX2_init, cX2_init, 4, none, 2, 2),
  (yX0_init, cX0_init, 4, none, 2, 3),
  (yX3_init, cX3_init, 1, none, 2, 2),
  (yX11_feed, cX11_feed, 5, (some .int), 1, 1),
  (yX9_clear, cX9_clear, 1, none, 1, 0),
  (yX9_size, cX9_size, 1, (some .int), 1, 0),
  (yX9_append, cX9_append, 2, (some .boolean), 1, 0),
  (yX11_read, cX11_read, 2, (some .int), 1, 3),
  (yX5_takeIn, cX5_takeIn, 8, (some .int), 0, 1),
  (yX9_at, cX9_at, 2, (some .int), 1, 0),
  (yX5_followersOf, cX5_followersOf, 1, (some .int), 0, 0),
  (yX5_bitsOfFirst, cX5_bitsOfFirst, 2, (some .int), 0, 0),
  (yX5_lowestSecond, cX5_lowestSecond, 1, (some .int), 0, 0),
  (yX5_highestSecond, cX5_highestSecond, 1, (some .int), 0, 0),
  (yX11_refusalOfText, cX11_refusalOfText, 1, (some .int), 0, 0),
  (yX9_become, cX9_become, 2, none, 1, 2),
  (yX9_appendFrom, cX9_appendFrom, 5, (some .boolean), 1, 1),
  (yX11_point, cX11_point, 2, (some .int), 1, 1),
  (yX11_add, cX11_add, 2, (some .int), 1, 1),
  (yX5_isPoint, cX5_isPoint, 2, (some .boolean), 0, 0),
  (yX11_status, cX11_status, 4, (some .int), 1, 2),
  (yX10_tell, cX10_tell, 4, (some .int), 1, 1),
  (yX5_isSpan, cX5_isSpan, 2, (some .boolean), 0, 0),
  (yX10_keep, cX10_keep, 4, (some .boolean), 1, 0),
  (yX11_map, cX11_map, 2, (some .int), 1, 2),
  (yX10_tellMapping, cX10_tellMapping, 5, (some .int), 1, 1),
  (yX11_parts, cX11_parts, 5, (some .int), 1, 4),
  (yX6_tell, cX6_tell, 5, (some .int), 1, 3),
  (yX6_mayBePart, cX6_mayBePart, 2, (some .boolean), 0, 2),
  (yX6_isOfSyllables, cX6_isOfSyllables, 1, (some .boolean), 0, 1),
  (yX6_isSyllable, cX6_isSyllable, 1, (some .boolean), 0, 0),
  (yX6_isLead, cX6_isLead, 1, (some .boolean), 0, 0),
  (yX6_isVowel, cX6_isVowel, 1, (some .boolean), 0, 0),
  (yX6_isTail, cX6_isTail, 1, (some .boolean), 0, 0),
  (yX6_find, cX6_find, 3, (some .int), 1, 0),
  (yX6_findPair, cX6_findPair, 4, (some .int), 1, 0),
  (yX11_rank, cX11_rank, 3, (some .int), 1, 2),
  (yX8_tell, cX8_tell, 5, (some .int), 1, 1),
  (yX8_find, cX8_find, 3, (some .int), 1, 0),
  (yX11_range, cX11_range, 5, (some .int), 1, 2),
  (yX7_tell, cX7_tell, 5, (some .int), 1, 1),
  (yX7_highestOf, cX7_highestOf, 1, (some .int), 0, 0),
  (yX11_about, cX11_about, 3, (some .int), 1, 2),
  (yX10_of, cX10_of, 3, (some .int), 1, 1),
  (yX10_latestAbout, cX10_latestAbout, 3, (some .int), 1, 0),
  (yX10_atFirst, cX10_atFirst, 1, (some .int), 0, 0),
  (yX8_of, cX8_of, 3, (some .int), 1, 1),
  (yX7_of, cX7_of, 4, (some .int), 1, 1),
  (yX7_directionAtFirst, cX7_directionAtFirst, 1, (some .int), 0, 0),
  (yX11_form, cX11_form, 3, (some .int), 1, 4),
  (yX1_takeApart, cX1_takeApart, 5, (some .boolean), 1, 2),
  (yX1_appendSyllable, cX1_appendSyllable, 3, (some .boolean), 0, 1),
  (yX6_tailOf, cX6_tailOf, 2, (some .int), 0, 0),
  (yX6_leadOf, cX6_leadOf, 1, (some .int), 0, 0),
  (yX6_vowelOf, cX6_vowelOf, 1, (some .int), 0, 0),
  (yX1_appendParts, cX1_appendParts, 7, (some .boolean), 1, 1),
  (yX6_laterAt, cX6_laterAt, 2, (some .int), 1, 0),
  (yX6_earlierAt, cX6_earlierAt, 2, (some .int), 1, 0),
  (yX8_takeAll, cX8_takeAll, 5, none, 1, 1),
  (yX1_sortByRanks, cX1_sortByRanks, 6, none, 1, 1),
  (yX9_put, cX9_put, 3, none, 1, 0),
  (yX1_bringIntoForm, cX1_bringIntoForm, 9, (some .boolean), 1, 3),
  (yX1_reaches, cX1_reaches, 5, (some .boolean), 1, 1),
  (yX6_together, cX6_together, 4, (some .int), 1, 1),
  (yX9_cut, cX9_cut, 2, none, 1, 0),
  (yX11_inForm, cX11_inForm, 1, (some .int), 1, 4),
  (yX9_isLike, cX9_isLike, 2, (some .boolean), 1, 2),
  (yX9_firstDifference, cX9_firstDifference, 4, (some .int), 1, 1),
  (yJ9_min_7cf53, cJ9_min_7cf53, 2, (some .int), 0, 0),
  (yX11_alike, cX11_alike, 2, (some .int), 1, 3),
  (yX11_encode, cX11_encode, 1, (some .int), 1, 4),
  (yX4_fold, cX4_fold, 6, (some .int), 0, 3),
  (yX4_foldWide, cX4_foldWide, 13, (some .int), 0, 2),
  (yX4_leastFrom, cX4_leastFrom, 6, (some .int), 0, 1),
  (yX4_appendNumber, cX4_appendNumber, 8, (some .boolean), 0, 1),
  (yX4_threshold, cX4_threshold, 2, (some .int), 0, 0),
  (yX4_digitOf, cX4_digitOf, 1, (some .int), 0, 0),
  (yX4_adapted, cX4_adapted, 8, (some .int), 0, 0),
  (yX11_decode, cX11_decode, 2, (some .int), 1, 3),
  (yX4_unfold, cX4_unfold, 5, (some .int), 0, 2),
  (yX4_unfoldDigits, cX4_unfoldDigits, 18, (some .int), 0, 1),
  (yX4_valueOf, cX4_valueOf, 1, (some .int), 0, 0),
  (yX9_insert, cX9_insert, 4, (some .boolean), 1, 0),
  (yX11_make, cX11_make, 2, (some .int), 1, 7),
  (yX0_build, cX0_build, 4, (some .boolean), 1, 6),
  (yX3_clear, cX3_clear, 1, none, 1, 1),
  (yX0_takeText, cX0_takeText, 3, (some .boolean), 1, 2),
  (yX0_fail, cX0_fail, 4, (some .boolean), 1, 0),
  (yX0_replaceAll, cX0_replaceAll, 5, (some .boolean), 1, 2),
  (yX10_appendMapped, cX10_appendMapped, 5, (some .boolean), 1, 1),
  (yX0_formAll, cX0_formAll, 1, (some .boolean), 1, 4),
  (yX0_lookAtLabels, cX0_lookAtLabels, 3, (some .boolean), 1, 5),
  (yX0_unfoldLabel, cX0_unfoldLabel, 4, (some .boolean), 1, 4),
  (yX0_hasPrefix, cX0_hasPrefix, 1, (some .boolean), 1, 1),
  (yX3_count, cX3_count, 1, (some .int), 1, 0),
  (yX3_hasWide, cX3_hasWide, 4, (some .boolean), 0, 1),
  (yX0_followsRules, cX0_followsRules, 2, (some .boolean), 1, 4),
  (yX2_look, cX2_look, 4, (some .int), 1, 3),
  (yX2_found, cX2_found, 3, (some .int), 1, 0),
  (yX2_lookAtJoiners, cX2_lookAtJoiners, 6, (some .int), 1, 2),
  (yX2_standsBetweenJoining, cX2_standsBetweenJoining, 4, (some .boolean), 1, 1),
  (yX2_joins, cX2_joins, 2, (some .boolean), 0, 0),
  (yX2_place, cX2_place, 1, (some .int), 1, 0),
  (yX3_append, cX3_append, 2, none, 1, 2),
  (yX0_lookAtDirections, cX0_lookAtDirections, 3, (some .boolean), 1, 3),
  (yX3_points, cX3_points, 1, (some (.object "WideNames$Row")), 1, 0),
  (yX2_goesRight, cX2_goesRight, 5, (some .boolean), 1, 2),
  (yX2_isOf, cX2_isOf, 2, (some .boolean), 0, 0),
  (yX3_isEmpty, cX3_isEmpty, 2, (some .boolean), 1, 2),
  (yX3_start, cX3_start, 2, (some .int), 1, 0),
  (yX3_end, cX3_end, 2, (some .int), 1, 1),
  (yX2_placeOfWrongDirection, cX2_placeOfWrongDirection, 7, (some .int), 1, 2),
  (yX2_placeOfOtherNumber, cX2_placeOfOtherNumber, 6, (some .int), 1, 1),
  (yX0_writePlain, cX0_writePlain, 2, (some .boolean), 1, 5),
  (yX0_takePlainLabel, cX0_takePlainLabel, 2, (some .boolean), 1, 4),
  (yX3_isWide, cX3_isWide, 2, (some .boolean), 1, 2),
  (yX0_lookAtPlainSizes, cX0_lookAtPlainSizes, 4, (some .boolean), 1, 1),
  (yX0_writeWide, cX0_writeWide, 3, (some .boolean), 1, 3),
  (yX5_putOut, cX5_putOut, 2, (some .boolean), 0, 2),
  (yX5_putFollower, cX5_putFollower, 2, (some .boolean), 0, 1),
  (yX0_madeSize, cX0_madeSize, 1, (some .int), 1, 1),
  (yX0_told, cX0_told, 2, (some .int), 1, 1),
  (yX11_fault, cX11_fault, 2, (some .int), 1, 2),
  (yX11_octet, cX11_octet, 2, (some .int), 1, 2),
  (yX0_madeOctet, cX0_madeOctet, 2, (some .int), 1, 1),
  (yX12_init, cX12_init, 1, none, 2, 1),
  (yX12_feed, cX12_feed, 5, (some .int), 1, 1),
  (yX12_in, cX12_in, 3, (some .boolean), 0, 0),
  (yX12_read, cX12_read, 2, (some .int), 1, 2),
  (yX12_readText, cX12_readText, 9, none, 1, 1),
  (yX12_octetAt, cX12_octetAt, 2, (some .int), 1, 0),
  (yX12_point, cX12_point, 2, (some .int), 1, 1),
  (yX12_add, cX12_add, 2, (some .int), 1, 2),
  (yX12_isPoint, cX12_isPoint, 1, (some .boolean), 0, 1),
  (yX12_status, cX12_status, 4, (some .int), 1, 1),
  (yX12_told, cX12_told, 4, none, 1, 0),
  (yX12_map, cX12_map, 3, (some .int), 1, 2),
  (yX12_parts, cX12_parts, 7, (some .int), 1, 3),
  (yX12_isLetter, cX12_isLetter, 1, (some .boolean), 0, 2),
  (yX12_isSyllable, cX12_isSyllable, 1, (some .boolean), 0, 1),
  (yX12_rank, cX12_rank, 5, (some .int), 1, 2),
  (yX12_rankAt, cX12_rankAt, 3, (some .int), 1, 0),
  (yX12_rankOf, cX12_rankOf, 3, (some .int), 1, 1),
  (yX12_range, cX12_range, 6, (some .int), 1, 1),
  (yX12_about, cX12_about, 3, (some .int), 1, 3),
  (yX12_statusOf, cX12_statusOf, 3, (some .int), 1, 2),
  (yX12_thing, cX12_thing, 3, (some .int), 1, 1),
  (yX12_rangeOf, cX12_rangeOf, 4, (some .int), 1, 1),
  (yX12_form, cX12_form, 3, (some .int), 1, 4),
  (yX12_oneForm, cX12_oneForm, 10, (some .boolean), 1, 3),
  (yX12_takeApart, cX12_takeApart, 9, (some .boolean), 1, 2),
  (yX12_partOf, cX12_partOf, 3, (some .int), 1, 0),
  (yX12_together, cX12_together, 4, (some .int), 1, 2),
  (yX12_inForm, cX12_inForm, 1, (some .int), 1, 4),
  (yX12_firstOther, cX12_firstOther, 5, (some .int), 1, 0),
  (yX12_alike, cX12_alike, 4, (some .int), 1, 3),
  (yX12_encode, cX12_encode, 2, (some .int), 1, 3),
  (yX12_encoded, cX12_encoded, 13, (some .boolean), 1, 2),
  (yX12_letter, cX12_letter, 2, none, 1, 0),
  (yX12_write, cX12_write, 8, none, 1, 1),
  (yX12_bound, cX12_bound, 3, (some .int), 0, 0),
  (yX12_digit, cX12_digit, 1, (some .int), 0, 0),
  (yX12_adapted, cX12_adapted, 7, (some .int), 0, 0),
  (yX12_decode, cX12_decode, 3, (some .int), 1, 3),
  (yX12_decoded, cX12_decoded, 20, (some .int), 1, 2),
  (yX12_value, cX12_value, 1, (some .int), 0, 1),
  (yX12_make, cX12_make, 3, (some .int), 1, 7),
  (yX12_makeAll, cX12_makeAll, 3, none, 1, 6),
  (yX12_wrong, cX12_wrong, 4, (some .boolean), 1, 0),
  (yX12_mapAll, cX12_mapAll, 7, (some .boolean), 1, 4),
  (yX12_part, cX12_part, 3, none, 1, 0),
  (yX12_lookAt, cX12_lookAt, 6, (some .boolean), 1, 5),
  (yX12_unfold, cX12_unfold, 6, (some .boolean), 1, 4),
  (yX12_fits, cX12_fits, 8, (some .boolean), 1, 2),
  (yX12_directions, cX12_directions, 4, (some .boolean), 1, 3),
  (yX12_direction, cX12_direction, 12, (some .boolean), 1, 2),
  (yX12_plain, cX12_plain, 3, none, 1, 4),
  (yX12_octetOut, cX12_octetOut, 2, none, 1, 0),
  (yX12_plainLabel, cX12_plainLabel, 5, none, 1, 3),
  (yX12_wide, cX12_wide, 3, none, 1, 2),
  (yX12_pointOut, cX12_pointOut, 2, none, 1, 1),
  (yX12_fault, cX12_fault, 2, (some .int), 1, 0),
  (yX12_octet, cX12_octet, 2, (some .int), 1, 1)]
def mm_mi (y : Nat) : mm_MI := mm_meths.getD y (yL_law, cL_law, 4, some .boolean, 0, 8)
def mm_name (y : Nat) : MethodName := (mm_mi y).1
def mm_cls (y : Nat) : String := (mm_mi y).1.cls
def mm_bytes (y : Nat) : ByteArray := (mm_mi y).2.1
def mm_maxL (y : Nat) : Nat := (mm_mi y).2.2.1
def mm_ret (y : Nat) : Option FieldType := (mm_mi y).2.2.2.1
def mm_kind (y : Nat) : Nat := (mm_mi y).2.2.2.2.1
def mm_dep (y : Nat) : Nat := (mm_mi y).2.2.2.2.2
def mm_isCode (q : mm_MI) : Prop := Cond.code q.1 q.2.1 q.2.2.1 q.2.2.2.1 ∈ mm_tbl
set_option maxRecDepth 100000 in
theorem mm_cw0 : ∀ q ∈ (mm_meths.drop 1).take 16, mm_isCode q := List.forall_mem_cons.mpr ⟨List.mem_of_getElem? (i := 74) (by decide +kernel), List.forall_mem_cons.mpr ⟨List.mem_of_getElem? (i := 82) (by decide +kernel), List.forall_mem_cons.mpr ⟨List.mem_of_getElem? (i := 96) (by decide +kernel), List.forall_mem_cons.mpr ⟨List.mem_of_getElem? (i := 121) (by decide +kernel), List.forall_mem_cons.mpr ⟨List.mem_of_getElem? (i := 144) (by decide +kernel), List.forall_mem_cons.mpr ⟨List.mem_of_getElem? (i := 160) (by decide +kernel), List.forall_mem_cons.mpr ⟨List.mem_of_getElem? (i := 182) (by decide +kernel), List.forall_mem_cons.mpr ⟨List.mem_of_getElem? (i := 205) (by decide +kernel), List.forall_mem_cons.mpr ⟨List.mem_of_getElem? (i := 230) (by decide +kernel), List.forall_mem_cons.mpr ⟨List.mem_of_getElem? (i := 238) (by decide +kernel), List.forall_mem_cons.mpr ⟨List.mem_of_getElem? (i := 326) (by decide +kernel), List.forall_mem_cons.mpr ⟨List.mem_of_getElem? (i := 330) (by decide +kernel), List.forall_mem_cons.mpr ⟨List.mem_of_getElem? (i := 334) (by decide +kernel), List.forall_mem_cons.mpr ⟨List.mem_of_getElem? (i := 339) (by decide +kernel), List.forall_mem_cons.mpr ⟨List.mem_of_getElem? (i := 343) (by decide +kernel), List.forall_mem_cons.mpr ⟨List.mem_of_getElem? (i := 346) (by decide +kernel), fun _ h => absurd h List.not_mem_nil⟩⟩⟩⟩⟩⟩⟩⟩⟩⟩⟩⟩⟩⟩⟩⟩
set_option maxRecDepth 100000 in
theorem mm_cw1 : ∀ q ∈ (mm_meths.drop 17).take 16, mm_isCode q := List.forall_mem_cons.mpr ⟨List.mem_of_getElem? (i := 352) (by decide +kernel), List.forall_mem_cons.mpr ⟨List.mem_of_getElem? (i := 355) (by decide +kernel), List.forall_mem_cons.mpr ⟨List.mem_of_getElem? (i := 358) (by decide +kernel), List.forall_mem_cons.mpr ⟨List.mem_of_getElem? (i := 361) (by decide +kernel), List.forall_mem_cons.mpr ⟨List.mem_of_getElem? (i := 364) (by decide +kernel), List.forall_mem_cons.mpr ⟨List.mem_of_getElem? (i := 368) (by decide +kernel), List.forall_mem_cons.mpr ⟨List.mem_of_getElem? (i := 372) (by decide +kernel), List.forall_mem_cons.mpr ⟨List.mem_of_getElem? (i := 378) (by decide +kernel), List.forall_mem_cons.mpr ⟨List.mem_of_getElem? (i := 384) (by decide +kernel), List.forall_mem_cons.mpr ⟨List.mem_of_getElem? (i := 389) (by decide +kernel), List.forall_mem_cons.mpr ⟨List.mem_of_getElem? (i := 392) (by decide +kernel), List.forall_mem_cons.mpr ⟨List.mem_of_getElem? (i := 399) (by decide +kernel), List.forall_mem_cons.mpr ⟨List.mem_of_getElem? (i := 403) (by decide +kernel), List.forall_mem_cons.mpr ⟨List.mem_of_getElem? (i := 406) (by decide +kernel), List.forall_mem_cons.mpr ⟨List.mem_of_getElem? (i := 411) (by decide +kernel), List.forall_mem_cons.mpr ⟨List.mem_of_getElem? (i := 415) (by decide +kernel), fun _ h => absurd h List.not_mem_nil⟩⟩⟩⟩⟩⟩⟩⟩⟩⟩⟩⟩⟩⟩⟩⟩
set_option maxRecDepth 100000 in
theorem mm_cw2 : ∀ q ∈ (mm_meths.drop 33).take 16, mm_isCode q := List.forall_mem_cons.mpr ⟨List.mem_of_getElem? (i := 419) (by decide +kernel), List.forall_mem_cons.mpr ⟨List.mem_of_getElem? (i := 426) (by decide +kernel), List.forall_mem_cons.mpr ⟨List.mem_of_getElem? (i := 430) (by decide +kernel), List.forall_mem_cons.mpr ⟨List.mem_of_getElem? (i := 434) (by decide +kernel), List.forall_mem_cons.mpr ⟨List.mem_of_getElem? (i := 437) (by decide +kernel), List.forall_mem_cons.mpr ⟨List.mem_of_getElem? (i := 440) (by decide +kernel), List.forall_mem_cons.mpr ⟨List.mem_of_getElem? (i := 445) (by decide +kernel), List.forall_mem_cons.mpr ⟨List.mem_of_getElem? (i := 448) (by decide +kernel), List.forall_mem_cons.mpr ⟨List.mem_of_getElem? (i := 451) (by decide +kernel), List.forall_mem_cons.mpr ⟨List.mem_of_getElem? (i := 455) (by decide +kernel), List.forall_mem_cons.mpr ⟨List.mem_of_getElem? (i := 459) (by decide +kernel), List.forall_mem_cons.mpr ⟨List.mem_of_getElem? (i := 463) (by decide +kernel), List.forall_mem_cons.mpr ⟨List.mem_of_getElem? (i := 467) (by decide +kernel), List.forall_mem_cons.mpr ⟨List.mem_of_getElem? (i := 472) (by decide +kernel), List.forall_mem_cons.mpr ⟨List.mem_of_getElem? (i := 476) (by decide +kernel), List.forall_mem_cons.mpr ⟨List.mem_of_getElem? (i := 480) (by decide +kernel), fun _ h => absurd h List.not_mem_nil⟩⟩⟩⟩⟩⟩⟩⟩⟩⟩⟩⟩⟩⟩⟩⟩
set_option maxRecDepth 100000 in
theorem mm_cw3 : ∀ q ∈ (mm_meths.drop 49).take 16, mm_isCode q := List.forall_mem_cons.mpr ⟨List.mem_of_getElem? (i := 483) (by decide +kernel), List.forall_mem_cons.mpr ⟨List.mem_of_getElem? (i := 488) (by decide +kernel), List.forall_mem_cons.mpr ⟨List.mem_of_getElem? (i := 492) (by decide +kernel), List.forall_mem_cons.mpr ⟨List.mem_of_getElem? (i := 496) (by decide +kernel), List.forall_mem_cons.mpr ⟨List.mem_of_getElem? (i := 499) (by decide +kernel), List.forall_mem_cons.mpr ⟨List.mem_of_getElem? (i := 503) (by decide +kernel), List.forall_mem_cons.mpr ⟨List.mem_of_getElem? (i := 507) (by decide +kernel), List.forall_mem_cons.mpr ⟨List.mem_of_getElem? (i := 510) (by decide +kernel), List.forall_mem_cons.mpr ⟨List.mem_of_getElem? (i := 514) (by decide +kernel), List.forall_mem_cons.mpr ⟨List.mem_of_getElem? (i := 518) (by decide +kernel), List.forall_mem_cons.mpr ⟨List.mem_of_getElem? (i := 525) (by decide +kernel), List.forall_mem_cons.mpr ⟨List.mem_of_getElem? (i := 528) (by decide +kernel), List.forall_mem_cons.mpr ⟨List.mem_of_getElem? (i := 531) (by decide +kernel), List.forall_mem_cons.mpr ⟨List.mem_of_getElem? (i := 535) (by decide +kernel), List.forall_mem_cons.mpr ⟨List.mem_of_getElem? (i := 539) (by decide +kernel), List.forall_mem_cons.mpr ⟨List.mem_of_getElem? (i := 545) (by decide +kernel), fun _ h => absurd h List.not_mem_nil⟩⟩⟩⟩⟩⟩⟩⟩⟩⟩⟩⟩⟩⟩⟩⟩
set_option maxRecDepth 100000 in
theorem mm_cw4 : ∀ q ∈ (mm_meths.drop 65).take 16, mm_isCode q := List.forall_mem_cons.mpr ⟨List.mem_of_getElem? (i := 549) (by decide +kernel), List.forall_mem_cons.mpr ⟨List.mem_of_getElem? (i := 553) (by decide +kernel), List.forall_mem_cons.mpr ⟨List.mem_of_getElem? (i := 561) (by decide +kernel), List.forall_mem_cons.mpr ⟨List.mem_of_getElem? (i := 565) (by decide +kernel), List.forall_mem_cons.mpr ⟨List.mem_of_getElem? (i := 569) (by decide +kernel), List.forall_mem_cons.mpr ⟨List.mem_of_getElem? (i := 574) (by decide +kernel), List.forall_mem_cons.mpr ⟨List.mem_of_getElem? (i := 578) (by decide +kernel), List.forall_mem_cons.mpr ⟨List.mem_of_getElem? (i := 582) (by decide +kernel), List.forall_mem_cons.mpr ⟨List.mem_of_getElem? (i := 586) (by decide +kernel), List.forall_mem_cons.mpr ⟨List.mem_of_getElem? (i := 590) (by decide +kernel), List.forall_mem_cons.mpr ⟨List.mem_of_getElem? (i := 594) (by decide +kernel), List.forall_mem_cons.mpr ⟨List.mem_of_getElem? (i := 597) (by decide +kernel), List.forall_mem_cons.mpr ⟨List.mem_of_getElem? (i := 601) (by decide +kernel), List.forall_mem_cons.mpr ⟨List.mem_of_getElem? (i := 605) (by decide +kernel), List.forall_mem_cons.mpr ⟨List.mem_of_getElem? (i := 608) (by decide +kernel), List.forall_mem_cons.mpr ⟨List.mem_of_getElem? (i := 613) (by decide +kernel), fun _ h => absurd h List.not_mem_nil⟩⟩⟩⟩⟩⟩⟩⟩⟩⟩⟩⟩⟩⟩⟩⟩
set_option maxRecDepth 100000 in
theorem mm_cw5 : ∀ q ∈ (mm_meths.drop 81).take 16, mm_isCode q := List.forall_mem_cons.mpr ⟨List.mem_of_getElem? (i := 616) (by decide +kernel), List.forall_mem_cons.mpr ⟨List.mem_of_getElem? (i := 621) (by decide +kernel), List.forall_mem_cons.mpr ⟨List.mem_of_getElem? (i := 624) (by decide +kernel), List.forall_mem_cons.mpr ⟨List.mem_of_getElem? (i := 627) (by decide +kernel), List.forall_mem_cons.mpr ⟨List.mem_of_getElem? (i := 630) (by decide +kernel), List.forall_mem_cons.mpr ⟨List.mem_of_getElem? (i := 640) (by decide +kernel), List.forall_mem_cons.mpr ⟨List.mem_of_getElem? (i := 643) (by decide +kernel), List.forall_mem_cons.mpr ⟨List.mem_of_getElem? (i := 649) (by decide +kernel), List.forall_mem_cons.mpr ⟨List.mem_of_getElem? (i := 653) (by decide +kernel), List.forall_mem_cons.mpr ⟨List.mem_of_getElem? (i := 658) (by decide +kernel), List.forall_mem_cons.mpr ⟨List.mem_of_getElem? (i := 662) (by decide +kernel), List.forall_mem_cons.mpr ⟨List.mem_of_getElem? (i := 666) (by decide +kernel), List.forall_mem_cons.mpr ⟨List.mem_of_getElem? (i := 670) (by decide +kernel), List.forall_mem_cons.mpr ⟨List.mem_of_getElem? (i := 676) (by decide +kernel), List.forall_mem_cons.mpr ⟨List.mem_of_getElem? (i := 681) (by decide +kernel), List.forall_mem_cons.mpr ⟨List.mem_of_getElem? (i := 685) (by decide +kernel), fun _ h => absurd h List.not_mem_nil⟩⟩⟩⟩⟩⟩⟩⟩⟩⟩⟩⟩⟩⟩⟩⟩
set_option maxRecDepth 100000 in
theorem mm_cw6 : ∀ q ∈ (mm_meths.drop 97).take 16, mm_isCode q := List.forall_mem_cons.mpr ⟨List.mem_of_getElem? (i := 693) (by decide +kernel), List.forall_mem_cons.mpr ⟨List.mem_of_getElem? (i := 698) (by decide +kernel), List.forall_mem_cons.mpr ⟨List.mem_of_getElem? (i := 703) (by decide +kernel), List.forall_mem_cons.mpr ⟨List.mem_of_getElem? (i := 708) (by decide +kernel), List.forall_mem_cons.mpr ⟨List.mem_of_getElem? (i := 712) (by decide +kernel), List.forall_mem_cons.mpr ⟨List.mem_of_getElem? (i := 716) (by decide +kernel), List.forall_mem_cons.mpr ⟨List.mem_of_getElem? (i := 720) (by decide +kernel), List.forall_mem_cons.mpr ⟨List.mem_of_getElem? (i := 727) (by decide +kernel), List.forall_mem_cons.mpr ⟨List.mem_of_getElem? (i := 731) (by decide +kernel), List.forall_mem_cons.mpr ⟨List.mem_of_getElem? (i := 737) (by decide +kernel), List.forall_mem_cons.mpr ⟨List.mem_of_getElem? (i := 743) (by decide +kernel), List.forall_mem_cons.mpr ⟨List.mem_of_getElem? (i := 750) (by decide +kernel), List.forall_mem_cons.mpr ⟨List.mem_of_getElem? (i := 753) (by decide +kernel), List.forall_mem_cons.mpr ⟨List.mem_of_getElem? (i := 757) (by decide +kernel), List.forall_mem_cons.mpr ⟨List.mem_of_getElem? (i := 761) (by decide +kernel), List.forall_mem_cons.mpr ⟨List.mem_of_getElem? (i := 767) (by decide +kernel), fun _ h => absurd h List.not_mem_nil⟩⟩⟩⟩⟩⟩⟩⟩⟩⟩⟩⟩⟩⟩⟩⟩
set_option maxRecDepth 100000 in
theorem mm_cw7 : ∀ q ∈ (mm_meths.drop 113).take 16, mm_isCode q := List.forall_mem_cons.mpr ⟨List.mem_of_getElem? (i := 771) (by decide +kernel), List.forall_mem_cons.mpr ⟨List.mem_of_getElem? (i := 775) (by decide +kernel), List.forall_mem_cons.mpr ⟨List.mem_of_getElem? (i := 778) (by decide +kernel), List.forall_mem_cons.mpr ⟨List.mem_of_getElem? (i := 782) (by decide +kernel), List.forall_mem_cons.mpr ⟨List.mem_of_getElem? (i := 786) (by decide +kernel), List.forall_mem_cons.mpr ⟨List.mem_of_getElem? (i := 790) (by decide +kernel), List.forall_mem_cons.mpr ⟨List.mem_of_getElem? (i := 796) (by decide +kernel), List.forall_mem_cons.mpr ⟨List.mem_of_getElem? (i := 800) (by decide +kernel), List.forall_mem_cons.mpr ⟨List.mem_of_getElem? (i := 804) (by decide +kernel), List.forall_mem_cons.mpr ⟨List.mem_of_getElem? (i := 808) (by decide +kernel), List.forall_mem_cons.mpr ⟨List.mem_of_getElem? (i := 812) (by decide +kernel), List.forall_mem_cons.mpr ⟨List.mem_of_getElem? (i := 818) (by decide +kernel), List.forall_mem_cons.mpr ⟨List.mem_of_getElem? (i := 822) (by decide +kernel), List.forall_mem_cons.mpr ⟨List.mem_of_getElem? (i := 825) (by decide +kernel), List.forall_mem_cons.mpr ⟨List.mem_of_getElem? (i := 828) (by decide +kernel), List.forall_mem_cons.mpr ⟨List.mem_of_getElem? (i := 834) (by decide +kernel), fun _ h => absurd h List.not_mem_nil⟩⟩⟩⟩⟩⟩⟩⟩⟩⟩⟩⟩⟩⟩⟩⟩
set_option maxRecDepth 100000 in
theorem mm_cw8 : ∀ q ∈ (mm_meths.drop 129).take 16, mm_isCode q := List.forall_mem_cons.mpr ⟨List.mem_of_getElem? (i := 838) (by decide +kernel), List.forall_mem_cons.mpr ⟨List.mem_of_getElem? (i := 842) (by decide +kernel), List.forall_mem_cons.mpr ⟨List.mem_of_getElem? (i := 846) (by decide +kernel), List.forall_mem_cons.mpr ⟨List.mem_of_getElem? (i := 850) (by decide +kernel), List.forall_mem_cons.mpr ⟨List.mem_of_getElem? (i := 855) (by decide +kernel), List.forall_mem_cons.mpr ⟨List.mem_of_getElem? (i := 1021) (by decide +kernel), List.forall_mem_cons.mpr ⟨List.mem_of_getElem? (i := 1024) (by decide +kernel), List.forall_mem_cons.mpr ⟨List.mem_of_getElem? (i := 1028) (by decide +kernel), List.forall_mem_cons.mpr ⟨List.mem_of_getElem? (i := 1032) (by decide +kernel), List.forall_mem_cons.mpr ⟨List.mem_of_getElem? (i := 1036) (by decide +kernel), List.forall_mem_cons.mpr ⟨List.mem_of_getElem? (i := 1040) (by decide +kernel), List.forall_mem_cons.mpr ⟨List.mem_of_getElem? (i := 1044) (by decide +kernel), List.forall_mem_cons.mpr ⟨List.mem_of_getElem? (i := 1047) (by decide +kernel), List.forall_mem_cons.mpr ⟨List.mem_of_getElem? (i := 1054) (by decide +kernel), List.forall_mem_cons.mpr ⟨List.mem_of_getElem? (i := 1058) (by decide +kernel), List.forall_mem_cons.mpr ⟨List.mem_of_getElem? (i := 1062) (by decide +kernel), fun _ h => absurd h List.not_mem_nil⟩⟩⟩⟩⟩⟩⟩⟩⟩⟩⟩⟩⟩⟩⟩⟩
set_option maxRecDepth 100000 in
theorem mm_cw9 : ∀ q ∈ (mm_meths.drop 145).take 16, mm_isCode q := List.forall_mem_cons.mpr ⟨List.mem_of_getElem? (i := 1066) (by decide +kernel), List.forall_mem_cons.mpr ⟨List.mem_of_getElem? (i := 1069) (by decide +kernel), List.forall_mem_cons.mpr ⟨List.mem_of_getElem? (i := 1072) (by decide +kernel), List.forall_mem_cons.mpr ⟨List.mem_of_getElem? (i := 1078) (by decide +kernel), List.forall_mem_cons.mpr ⟨List.mem_of_getElem? (i := 1082) (by decide +kernel), List.forall_mem_cons.mpr ⟨List.mem_of_getElem? (i := 1086) (by decide +kernel), List.forall_mem_cons.mpr ⟨List.mem_of_getElem? (i := 1090) (by decide +kernel), List.forall_mem_cons.mpr ⟨List.mem_of_getElem? (i := 1094) (by decide +kernel), List.forall_mem_cons.mpr ⟨List.mem_of_getElem? (i := 1098) (by decide +kernel), List.forall_mem_cons.mpr ⟨List.mem_of_getElem? (i := 1102) (by decide +kernel), List.forall_mem_cons.mpr ⟨List.mem_of_getElem? (i := 1106) (by decide +kernel), List.forall_mem_cons.mpr ⟨List.mem_of_getElem? (i := 1110) (by decide +kernel), List.forall_mem_cons.mpr ⟨List.mem_of_getElem? (i := 1114) (by decide +kernel), List.forall_mem_cons.mpr ⟨List.mem_of_getElem? (i := 1118) (by decide +kernel), List.forall_mem_cons.mpr ⟨List.mem_of_getElem? (i := 1122) (by decide +kernel), List.forall_mem_cons.mpr ⟨List.mem_of_getElem? (i := 1126) (by decide +kernel), fun _ h => absurd h List.not_mem_nil⟩⟩⟩⟩⟩⟩⟩⟩⟩⟩⟩⟩⟩⟩⟩⟩
set_option maxRecDepth 100000 in
theorem mm_cw10 : ∀ q ∈ (mm_meths.drop 161).take 16, mm_isCode q := List.forall_mem_cons.mpr ⟨List.mem_of_getElem? (i := 1130) (by decide +kernel), List.forall_mem_cons.mpr ⟨List.mem_of_getElem? (i := 1134) (by decide +kernel), List.forall_mem_cons.mpr ⟨List.mem_of_getElem? (i := 1138) (by decide +kernel), List.forall_mem_cons.mpr ⟨List.mem_of_getElem? (i := 1142) (by decide +kernel), List.forall_mem_cons.mpr ⟨List.mem_of_getElem? (i := 1146) (by decide +kernel), List.forall_mem_cons.mpr ⟨List.mem_of_getElem? (i := 1150) (by decide +kernel), List.forall_mem_cons.mpr ⟨List.mem_of_getElem? (i := 1156) (by decide +kernel), List.forall_mem_cons.mpr ⟨List.mem_of_getElem? (i := 1159) (by decide +kernel), List.forall_mem_cons.mpr ⟨List.mem_of_getElem? (i := 1162) (by decide +kernel), List.forall_mem_cons.mpr ⟨List.mem_of_getElem? (i := 1165) (by decide +kernel), List.forall_mem_cons.mpr ⟨List.mem_of_getElem? (i := 1175) (by decide +kernel), List.forall_mem_cons.mpr ⟨List.mem_of_getElem? (i := 1179) (by decide +kernel), List.forall_mem_cons.mpr ⟨List.mem_of_getElem? (i := 1183) (by decide +kernel), List.forall_mem_cons.mpr ⟨List.mem_of_getElem? (i := 1188) (by decide +kernel), List.forall_mem_cons.mpr ⟨List.mem_of_getElem? (i := 1192) (by decide +kernel), List.forall_mem_cons.mpr ⟨List.mem_of_getElem? (i := 1196) (by decide +kernel), fun _ h => absurd h List.not_mem_nil⟩⟩⟩⟩⟩⟩⟩⟩⟩⟩⟩⟩⟩⟩⟩⟩
set_option maxRecDepth 100000 in
theorem mm_cw11 : ∀ q ∈ (mm_meths.drop 177).take 14, mm_isCode q := List.forall_mem_cons.mpr ⟨List.mem_of_getElem? (i := 1200) (by decide +kernel), List.forall_mem_cons.mpr ⟨List.mem_of_getElem? (i := 1204) (by decide +kernel), List.forall_mem_cons.mpr ⟨List.mem_of_getElem? (i := 1208) (by decide +kernel), List.forall_mem_cons.mpr ⟨List.mem_of_getElem? (i := 1212) (by decide +kernel), List.forall_mem_cons.mpr ⟨List.mem_of_getElem? (i := 1216) (by decide +kernel), List.forall_mem_cons.mpr ⟨List.mem_of_getElem? (i := 1220) (by decide +kernel), List.forall_mem_cons.mpr ⟨List.mem_of_getElem? (i := 1224) (by decide +kernel), List.forall_mem_cons.mpr ⟨List.mem_of_getElem? (i := 1228) (by decide +kernel), List.forall_mem_cons.mpr ⟨List.mem_of_getElem? (i := 1232) (by decide +kernel), List.forall_mem_cons.mpr ⟨List.mem_of_getElem? (i := 1236) (by decide +kernel), List.forall_mem_cons.mpr ⟨List.mem_of_getElem? (i := 1240) (by decide +kernel), List.forall_mem_cons.mpr ⟨List.mem_of_getElem? (i := 1244) (by decide +kernel), List.forall_mem_cons.mpr ⟨List.mem_of_getElem? (i := 1249) (by decide +kernel), List.forall_mem_cons.mpr ⟨List.mem_of_getElem? (i := 1253) (by decide +kernel), fun _ h => absurd h List.not_mem_nil⟩⟩⟩⟩⟩⟩⟩⟩⟩⟩⟩⟩⟩⟩
theorem mm_code_in : ∀ m, 1 ≤ m → m < 191 → mm_isCode (mm_mi m) := by
  intro m h1 h2
  have key : ∀ k n, 1 + 16 * k ≤ m → m < 1 + 16 * k + n → (∀ q ∈ (mm_meths.drop (1 + 16 * k)).take n, mm_isCode q) → mm_isCode (mm_mi m) := by
    intro k n a1 a2 a3
    refine a3 _ (List.mem_of_getElem? (i := m - (1 + 16 * k)) ?_)
    rw [List.getElem?_take_of_lt (by omega), List.getElem?_drop, show 1 + 16 * k + (m - (1 + 16 * k)) = m by omega]
    have hl : m < mm_meths.length := by show m < 191; omega
    rw [List.getElem?_eq_getElem hl, mm_mi, List.getD_eq_getElem?_getD, List.getElem?_eq_getElem hl]
    rfl
  rcases Nat.lt_or_ge m 17 with h | h3
  · exact key 0 16 (by omega) (by omega) mm_cw0
  skip
  rcases Nat.lt_or_ge m 33 with h | h3
  · exact key 1 16 (by omega) (by omega) mm_cw1
  skip
  rcases Nat.lt_or_ge m 49 with h | h3
  · exact key 2 16 (by omega) (by omega) mm_cw2
  skip
  rcases Nat.lt_or_ge m 65 with h | h3
  · exact key 3 16 (by omega) (by omega) mm_cw3
  skip
  rcases Nat.lt_or_ge m 81 with h | h3
  · exact key 4 16 (by omega) (by omega) mm_cw4
  skip
  rcases Nat.lt_or_ge m 97 with h | h3
  · exact key 5 16 (by omega) (by omega) mm_cw5
  skip
  rcases Nat.lt_or_ge m 113 with h | h3
  · exact key 6 16 (by omega) (by omega) mm_cw6
  skip
  rcases Nat.lt_or_ge m 129 with h | h3
  · exact key 7 16 (by omega) (by omega) mm_cw7
  skip
  rcases Nat.lt_or_ge m 145 with h | h3
  · exact key 8 16 (by omega) (by omega) mm_cw8
  skip
  rcases Nat.lt_or_ge m 161 with h | h3
  · exact key 9 16 (by omega) (by omega) mm_cw9
  skip
  rcases Nat.lt_or_ge m 177 with h | h3
  · exact key 10 16 (by omega) (by omega) mm_cw10
  skip
  exact key 11 14 (by omega) (by omega) mm_cw11
