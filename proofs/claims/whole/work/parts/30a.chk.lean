/-! ===== each method's table is its bytecode, and its words are the tables' ===== -/
set_option maxRecDepth 100000 in
theorem ck_0 : chkM MT lw_tbl kNsl kSts kCl MI_0 = true := by decide +kernel
set_option maxRecDepth 100000 in
theorem cw_0 : CW lw_tbl MI_0 := by
  refine ⟨fun _ => List.mem_filter.mpr ⟨List.mem_of_getElem? (i := 474) ?_, ?_⟩, fun h => (by cases h)⟩
  · rfl
  · rfl
set_option maxRecDepth 100000 in
theorem ck_1 : chkM MT lw_tbl kNsl kSts kCl MI_1 = true := by decide +kernel
set_option maxRecDepth 100000 in
theorem cw_1 : CW lw_tbl MI_1 := by
  refine ⟨fun _ => List.mem_filter.mpr ⟨List.mem_of_getElem? (i := 470) ?_, ?_⟩, fun h => (by cases h)⟩
  · rfl
  · rfl
set_option maxRecDepth 100000 in
theorem ck_2 : chkM MT lw_tbl kNsl kSts kCl MI_2 = true := by decide +kernel
set_option maxRecDepth 100000 in
theorem cw_2 : CW lw_tbl MI_2 := by
  refine ⟨fun _ => List.mem_filter.mpr ⟨List.mem_of_getElem? (i := 1531) ?_, ?_⟩, fun h => (by cases h)⟩
  · rfl
  · rfl
set_option maxRecDepth 100000 in
theorem ck_3 : chkM MT lw_tbl kNsl kSts kCl MI_3 = true := by decide +kernel
set_option maxRecDepth 100000 in
theorem cw_3 : CW lw_tbl MI_3 := by
  refine ⟨fun _ => List.mem_filter.mpr ⟨List.mem_of_getElem? (i := 722) ?_, ?_⟩, fun h => (by cases h)⟩
  · rfl
  · rfl
set_option maxRecDepth 100000 in
theorem ck_4 : chkM MT lw_tbl kNsl kSts kCl MI_4 = true := by decide +kernel
set_option maxRecDepth 100000 in
theorem cw_4 : CW lw_tbl MI_4 := by
  refine ⟨fun _ => List.mem_filter.mpr ⟨List.mem_of_getElem? (i := 718) ?_, ?_⟩, fun h => (by cases h)⟩
  · rfl
  · rfl
set_option maxRecDepth 100000 in
theorem ck_5 : chkM MT lw_tbl kNsl kSts kCl MI_5 = true := by decide +kernel
set_option maxRecDepth 100000 in
theorem cw_5 : CW lw_tbl MI_5 := by
  refine ⟨fun _ => List.mem_filter.mpr ⟨List.mem_of_getElem? (i := 730) ?_, ?_⟩, fun h => (by cases h)⟩
  · rfl
  · rfl
set_option maxRecDepth 100000 in
theorem ck_6 : chkM MT lw_tbl kNsl kSts kCl MI_6 = true := by decide +kernel
set_option maxRecDepth 100000 in
theorem cw_6 : CW lw_tbl MI_6 := by
  refine ⟨fun _ => List.mem_filter.mpr ⟨List.mem_of_getElem? (i := 733) ?_, ?_⟩, fun h => (by cases h)⟩
  · rfl
  · rfl
set_option maxRecDepth 100000 in
theorem ck_7 : chkM MT lw_tbl kNsl kSts kCl MI_7 = true := by decide +kernel
set_option maxRecDepth 100000 in
theorem cw_7 : CW lw_tbl MI_7 := by
  refine ⟨fun _ => List.mem_filter.mpr ⟨List.mem_of_getElem? (i := 736) ?_, ?_⟩, fun h => (by cases h)⟩
  · rfl
  · rfl
set_option maxRecDepth 100000 in
theorem ck_8 : chkM MT lw_tbl kNsl kSts kCl MI_8 = true := by decide +kernel
set_option maxRecDepth 100000 in
theorem cw_8 : CW lw_tbl MI_8 := by
  refine ⟨fun _ => List.mem_filter.mpr ⟨List.mem_of_getElem? (i := 739) ?_, ?_⟩, fun h => (by cases h)⟩
  · rfl
  · rfl
set_option maxRecDepth 100000 in
theorem ck_9 : chkM MT lw_tbl kNsl kSts kCl MI_9 = true := by decide +kernel
set_option maxRecDepth 100000 in
theorem cw_9 : CW lw_tbl MI_9 := by
  refine ⟨fun _ => List.mem_filter.mpr ⟨List.mem_of_getElem? (i := 726) ?_, ?_⟩, fun h => (by cases h)⟩
  · rfl
  · rfl
set_option maxRecDepth 100000 in
theorem ck_10 : chkM MT lw_tbl kNsl kSts kCl MI_10 = true := by decide +kernel
set_option maxRecDepth 100000 in
theorem cw_10 : CW lw_tbl MI_10 := by
  refine ⟨fun _ => List.mem_filter.mpr ⟨List.mem_of_getElem? (i := 748) ?_, ?_⟩, fun h => (by cases h)⟩
  · rfl
  · rfl
set_option maxRecDepth 100000 in
theorem ck_11 : chkM MT lw_tbl kNsl kSts kCl MI_11 = true := by decide +kernel
set_option maxRecDepth 100000 in
theorem cw_11 : CW lw_tbl MI_11 := by
  refine ⟨fun _ => List.mem_filter.mpr ⟨List.mem_of_getElem? (i := 743) ?_, ?_⟩, fun h => (by cases h)⟩
  · rfl
  · rfl
set_option maxRecDepth 100000 in
theorem ck_12 : chkM MT lw_tbl kNsl kSts kCl MI_12 = true := by decide +kernel
set_option maxRecDepth 100000 in
theorem cw_12 : CW lw_tbl MI_12 := by
  refine ⟨fun _ => List.mem_filter.mpr ⟨List.mem_of_getElem? (i := 807) ?_, ?_⟩, fun h => (by cases h)⟩
  · rfl
  · rfl
set_option maxRecDepth 100000 in
theorem ck_13 : chkM MT lw_tbl kNsl kSts kCl MI_13 = true := by decide +kernel
set_option maxRecDepth 100000 in
theorem cw_13 : CW lw_tbl MI_13 := by
  refine ⟨fun _ => List.mem_filter.mpr ⟨List.mem_of_getElem? (i := 815) ?_, ?_⟩, fun h => (by cases h)⟩
  · rfl
  · rfl
set_option maxRecDepth 100000 in
theorem ck_14 : chkM MT lw_tbl kNsl kSts kCl MI_14 = true := by decide +kernel
set_option maxRecDepth 100000 in
theorem cw_14 : CW lw_tbl MI_14 := by
  refine ⟨fun _ => List.mem_filter.mpr ⟨List.mem_of_getElem? (i := 811) ?_, ?_⟩, fun h => (by cases h)⟩
  · rfl
  · rfl
set_option maxRecDepth 100000 in
theorem ck_15 : chkM MT lw_tbl kNsl kSts kCl MI_15 = true := by decide +kernel
set_option maxRecDepth 100000 in
theorem cw_15 : CW lw_tbl MI_15 := by
  refine ⟨fun _ => List.mem_filter.mpr ⟨List.mem_of_getElem? (i := 509) ?_, ?_⟩, fun h => (by cases h)⟩
  · rfl
  · rfl
set_option maxRecDepth 100000 in
theorem ck_16 : chkM MT lw_tbl kNsl kSts kCl MI_16 = true := by decide +kernel
set_option maxRecDepth 100000 in
theorem cw_16 : CW lw_tbl MI_16 := by
  refine ⟨fun _ => List.mem_filter.mpr ⟨List.mem_of_getElem? (i := 823) ?_, ?_⟩, fun h => (by cases h)⟩
  · rfl
  · rfl
set_option maxRecDepth 100000 in
theorem ck_17 : chkM MT lw_tbl kNsl kSts kCl MI_17 = true := by decide +kernel
set_option maxRecDepth 100000 in
theorem cw_17 : CW lw_tbl MI_17 := by
  refine ⟨fun _ => List.mem_filter.mpr ⟨List.mem_of_getElem? (i := 819) ?_, ?_⟩, fun h => (by cases h)⟩
  · rfl
  · rfl
set_option maxRecDepth 100000 in
theorem ck_18 : chkM MT lw_tbl kNsl kSts kCl MI_18 = true := by decide +kernel
set_option maxRecDepth 100000 in
theorem cw_18 : CW lw_tbl MI_18 := by
  refine ⟨fun _ => List.mem_filter.mpr ⟨List.mem_of_getElem? (i := 836) ?_, ?_⟩, fun h => (by cases h)⟩
  · rfl
  · rfl
set_option maxRecDepth 100000 in
theorem ck_19 : chkM MT lw_tbl kNsl kSts kCl MI_19 = true := by decide +kernel
set_option maxRecDepth 100000 in
theorem cw_19 : CW lw_tbl MI_19 := by
  refine ⟨fun _ => List.mem_filter.mpr ⟨List.mem_of_getElem? (i := 865) ?_, ?_⟩, fun h => (by cases h)⟩
  · rfl
  · rfl
set_option maxRecDepth 100000 in
theorem ck_20 : chkM MT lw_tbl kNsl kSts kCl MI_20 = true := by decide +kernel
set_option maxRecDepth 100000 in
theorem cw_20 : CW lw_tbl MI_20 := by
  refine ⟨fun _ => List.mem_filter.mpr ⟨List.mem_of_getElem? (i := 873) ?_, ?_⟩, fun h => (by cases h)⟩
  · rfl
  · rfl
set_option maxRecDepth 100000 in
theorem ck_21 : chkM MT lw_tbl kNsl kSts kCl MI_21 = true := by decide +kernel
set_option maxRecDepth 100000 in
theorem cw_21 : CW lw_tbl MI_21 := by
  refine ⟨fun _ => List.mem_filter.mpr ⟨List.mem_of_getElem? (i := 869) ?_, ?_⟩, fun h => (by cases h)⟩
  · rfl
  · rfl
set_option maxRecDepth 100000 in
theorem ck_22 : chkM MT lw_tbl kNsl kSts kCl MI_22 = true := by decide +kernel
set_option maxRecDepth 100000 in
theorem cw_22 : CW lw_tbl MI_22 := by
  refine ⟨fun _ => List.mem_filter.mpr ⟨List.mem_of_getElem? (i := 884) ?_, ?_⟩, fun h => (by cases h)⟩
  · rfl
  · rfl
set_option maxRecDepth 100000 in
theorem ck_23 : chkM MT lw_tbl kNsl kSts kCl MI_23 = true := by decide +kernel
set_option maxRecDepth 100000 in
theorem cw_23 : CW lw_tbl MI_23 := by
  refine ⟨fun _ => List.mem_filter.mpr ⟨List.mem_of_getElem? (i := 861) ?_, ?_⟩, fun h => (by cases h)⟩
  · rfl
  · rfl
set_option maxRecDepth 100000 in
theorem ck_24 : chkM MT lw_tbl kNsl kSts kCl MI_24 = true := by decide +kernel
set_option maxRecDepth 100000 in
theorem cw_24 : CW lw_tbl MI_24 := by
  refine ⟨fun _ => List.mem_filter.mpr ⟨List.mem_of_getElem? (i := 857) ?_, ?_⟩, fun h => (by cases h)⟩
  · rfl
  · rfl
set_option maxRecDepth 100000 in
theorem ck_25 : chkM MT lw_tbl kNsl kSts kCl MI_25 = true := by decide +kernel
set_option maxRecDepth 100000 in
theorem cw_25 : CW lw_tbl MI_25 := by
  refine ⟨fun _ => List.mem_filter.mpr ⟨List.mem_of_getElem? (i := 853) ?_, ?_⟩, fun h => (by cases h)⟩
  · rfl
  · rfl
set_option maxRecDepth 100000 in
theorem ck_26 : chkM MT lw_tbl kNsl kSts kCl MI_26 = true := by decide +kernel
set_option maxRecDepth 100000 in
theorem cw_26 : CW lw_tbl MI_26 := by
  refine ⟨fun _ => List.mem_filter.mpr ⟨List.mem_of_getElem? (i := 849) ?_, ?_⟩, fun h => (by cases h)⟩
  · rfl
  · rfl
set_option maxRecDepth 100000 in
theorem ck_27 : chkM MT lw_tbl kNsl kSts kCl MI_27 = true := by decide +kernel
set_option maxRecDepth 100000 in
theorem cw_27 : CW lw_tbl MI_27 := by
  refine ⟨fun _ => List.mem_filter.mpr ⟨List.mem_of_getElem? (i := 844) ?_, ?_⟩, fun h => (by cases h)⟩
  · rfl
  · rfl
set_option maxRecDepth 100000 in
theorem ck_28 : chkM MT lw_tbl kNsl kSts kCl MI_28 = true := by decide +kernel
set_option maxRecDepth 100000 in
theorem cw_28 : CW lw_tbl MI_28 := by
  refine ⟨fun _ => List.mem_filter.mpr ⟨List.mem_of_getElem? (i := 840) ?_, ?_⟩, fun h => (by cases h)⟩
  · rfl
  · rfl
set_option maxRecDepth 100000 in
theorem ck_29 : chkM MT lw_tbl kNsl kSts kCl MI_29 = true := by decide +kernel
set_option maxRecDepth 100000 in
theorem cw_29 : CW lw_tbl MI_29 := by
  refine ⟨fun _ => List.mem_filter.mpr ⟨List.mem_of_getElem? (i := 832) ?_, ?_⟩, fun h => (by cases h)⟩
  · rfl
  · rfl
set_option maxRecDepth 100000 in
theorem ck_30 : chkM MT lw_tbl kNsl kSts kCl MI_30 = true := by decide +kernel
set_option maxRecDepth 100000 in
theorem cw_30 : CW lw_tbl MI_30 := by
  refine ⟨fun _ => List.mem_filter.mpr ⟨List.mem_of_getElem? (i := 828) ?_, ?_⟩, fun h => (by cases h)⟩
  · rfl
  · rfl
set_option maxRecDepth 100000 in
theorem ck_31 : chkM MT lw_tbl kNsl kSts kCl MI_31 = true := by decide +kernel
set_option maxRecDepth 100000 in
theorem cw_31 : CW lw_tbl MI_31 := by
  refine ⟨fun _ => List.mem_filter.mpr ⟨List.mem_of_getElem? (i := 893) ?_, ?_⟩, fun h => (by cases h)⟩
  · rfl
  · rfl
set_option maxRecDepth 100000 in
theorem ck_32 : chkM MT lw_tbl kNsl kSts kCl MI_32 = true := by decide +kernel
set_option maxRecDepth 100000 in
theorem cw_32 : CW lw_tbl MI_32 := by
  refine ⟨fun _ => List.mem_filter.mpr ⟨List.mem_of_getElem? (i := 903) ?_, ?_⟩, fun h => (by cases h)⟩
  · rfl
  · rfl
set_option maxRecDepth 100000 in
theorem ck_33 : chkM MT lw_tbl kNsl kSts kCl MI_33 = true := by decide +kernel
set_option maxRecDepth 100000 in
theorem cw_33 : CW lw_tbl MI_33 := by
  refine ⟨fun _ => List.mem_filter.mpr ⟨List.mem_of_getElem? (i := 908) ?_, ?_⟩, fun h => (by cases h)⟩
  · rfl
  · rfl
set_option maxRecDepth 100000 in
theorem ck_34 : chkM MT lw_tbl kNsl kSts kCl MI_34 = true := by decide +kernel
set_option maxRecDepth 100000 in
theorem cw_34 : CW lw_tbl MI_34 := by
  refine ⟨fun _ => List.mem_filter.mpr ⟨List.mem_of_getElem? (i := 897) ?_, ?_⟩, fun h => (by cases h)⟩
  · rfl
  · rfl
set_option maxRecDepth 100000 in
theorem ck_35 : chkM MT lw_tbl kNsl kSts kCl MI_35 = true := by decide +kernel
set_option maxRecDepth 100000 in
theorem cw_35 : CW lw_tbl MI_35 := by
  refine ⟨fun _ => List.mem_filter.mpr ⟨List.mem_of_getElem? (i := 890) ?_, ?_⟩, fun h => (by cases h)⟩
  · rfl
  · rfl
set_option maxRecDepth 100000 in
theorem ck_36 : chkM MT lw_tbl kNsl kSts kCl MI_36 = true := by decide +kernel
set_option maxRecDepth 100000 in
theorem cw_36 : CW lw_tbl MI_36 := by
  refine ⟨fun _ => List.mem_filter.mpr ⟨List.mem_of_getElem? (i := 714) ?_, ?_⟩, fun h => (by cases h)⟩
  · rfl
  · rfl
set_option maxRecDepth 100000 in
theorem ck_37 : chkM MT lw_tbl kNsl kSts kCl MI_37 = true := by decide +kernel
set_option maxRecDepth 100000 in
theorem cw_37 : CW lw_tbl MI_37 := by
  refine ⟨fun _ => List.mem_filter.mpr ⟨List.mem_of_getElem? (i := 490) ?_, ?_⟩, fun h => (by cases h)⟩
  · rfl
  · rfl
set_option maxRecDepth 100000 in
theorem ck_38 : chkM MT lw_tbl kNsl kSts kCl MI_38 = true := by decide +kernel
set_option maxRecDepth 100000 in
theorem cw_38 : CW lw_tbl MI_38 := by
  refine ⟨fun _ => List.mem_filter.mpr ⟨List.mem_of_getElem? (i := 916) ?_, ?_⟩, fun h => (by cases h)⟩
  · rfl
  · rfl
set_option maxRecDepth 100000 in
theorem ck_39 : chkM MT lw_tbl kNsl kSts kCl MI_39 = true := by decide +kernel
set_option maxRecDepth 100000 in
theorem cw_39 : CW lw_tbl MI_39 := by
  refine ⟨fun _ => List.mem_filter.mpr ⟨List.mem_of_getElem? (i := 912) ?_, ?_⟩, fun h => (by cases h)⟩
  · rfl
  · rfl
set_option maxRecDepth 100000 in
theorem ck_40 : chkM MT lw_tbl kNsl kSts kCl MI_40 = true := by decide +kernel
set_option maxRecDepth 100000 in
theorem cw_40 : CW lw_tbl MI_40 := by
  refine ⟨fun _ => List.mem_filter.mpr ⟨List.mem_of_getElem? (i := 554) ?_, ?_⟩, fun h => (by cases h)⟩
  · rfl
  · rfl
set_option maxRecDepth 100000 in
theorem ck_41 : chkM MT lw_tbl kNsl kSts kCl MI_41 = true := by decide +kernel
set_option maxRecDepth 100000 in
theorem cw_41 : CW lw_tbl MI_41 := by
  refine ⟨fun _ => List.mem_filter.mpr ⟨List.mem_of_getElem? (i := 561) ?_, ?_⟩, fun h => (by cases h)⟩
  · rfl
  · rfl
set_option maxRecDepth 100000 in
theorem ck_42 : chkM MT lw_tbl kNsl kSts kCl MI_42 = true := by decide +kernel
set_option maxRecDepth 100000 in
theorem cw_42 : CW lw_tbl MI_42 := by
  refine ⟨fun _ => List.mem_filter.mpr ⟨List.mem_of_getElem? (i := 927) ?_, ?_⟩, fun h => (by cases h)⟩
  · rfl
  · rfl
set_option maxRecDepth 100000 in
theorem ck_43 : chkM MT lw_tbl kNsl kSts kCl MI_43 = true := by decide +kernel
set_option maxRecDepth 100000 in
theorem cw_43 : CW lw_tbl MI_43 := by
  refine ⟨fun _ => List.mem_filter.mpr ⟨List.mem_of_getElem? (i := 567) ?_, ?_⟩, fun h => (by cases h)⟩
  · rfl
  · rfl
set_option maxRecDepth 100000 in
theorem ck_44 : chkM MT lw_tbl kNsl kSts kCl MI_44 = true := by decide +kernel
set_option maxRecDepth 100000 in
theorem cw_44 : CW lw_tbl MI_44 := by
  refine ⟨fun _ => List.mem_filter.mpr ⟨List.mem_of_getElem? (i := 930) ?_, ?_⟩, fun h => (by cases h)⟩
  · rfl
  · rfl
set_option maxRecDepth 100000 in
theorem ck_45 : chkM MT lw_tbl kNsl kSts kCl MI_45 = true := by decide +kernel
set_option maxRecDepth 100000 in
theorem cw_45 : CW lw_tbl MI_45 := by
  refine ⟨fun _ => List.mem_filter.mpr ⟨List.mem_of_getElem? (i := 924) ?_, ?_⟩, fun h => (by cases h)⟩
  · rfl
  · rfl
set_option maxRecDepth 100000 in
theorem ck_46 : chkM MT lw_tbl kNsl kSts kCl MI_46 = true := by decide +kernel
set_option maxRecDepth 100000 in
theorem cw_46 : CW lw_tbl MI_46 := by
  refine ⟨fun _ => List.mem_filter.mpr ⟨List.mem_of_getElem? (i := 920) ?_, ?_⟩, fun h => (by cases h)⟩
  · rfl
  · rfl
set_option maxRecDepth 100000 in
theorem ck_47 : chkM MT lw_tbl kNsl kSts kCl MI_47 = true := by decide +kernel
set_option maxRecDepth 100000 in
theorem cw_47 : CW lw_tbl MI_47 := by
  refine ⟨fun _ => List.mem_filter.mpr ⟨List.mem_of_getElem? (i := 934) ?_, ?_⟩, fun h => (by cases h)⟩
  · rfl
  · rfl
