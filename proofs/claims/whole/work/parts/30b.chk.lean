/-! ===== each method's table is its bytecode, and its words are the tables' ===== -/
set_option maxRecDepth 100000 in
theorem ck_48 : chkM MT lw_tbl kNsl kSts kCl MI_48 = true := by decide +kernel
set_option maxRecDepth 100000 in
theorem cw_48 : CW lw_tbl MI_48 := by
  refine ⟨fun _ => List.mem_filter.mpr ⟨List.mem_of_getElem? (i := 648) ?_, ?_⟩, fun h => (by cases h)⟩
  · rfl
  · rfl
set_option maxRecDepth 100000 in
theorem ck_49 : chkM MT lw_tbl kNsl kSts kCl MI_49 = true := by decide +kernel
set_option maxRecDepth 100000 in
theorem cw_49 : CW lw_tbl MI_49 := by
  refine ⟨fun h => (by rcases h with h | h <;> cases h), fun _ => List.mem_filter.mpr ⟨List.mem_of_getElem? (i := 643) ?_, ?_⟩⟩
  · rfl
  · rfl
set_option maxRecDepth 100000 in
theorem ck_50 : chkM MT lw_tbl kNsl kSts kCl MI_50 = true := by decide +kernel
set_option maxRecDepth 100000 in
theorem cw_50 : CW lw_tbl MI_50 := by
  refine ⟨fun _ => List.mem_filter.mpr ⟨List.mem_of_getElem? (i := 1539) ?_, ?_⟩, fun h => (by cases h)⟩
  · rfl
  · rfl
set_option maxRecDepth 100000 in
theorem ck_51 : chkM MT lw_tbl kNsl kSts kCl MI_51 = true := by decide +kernel
set_option maxRecDepth 100000 in
theorem cw_51 : CW lw_tbl MI_51 := by
  refine ⟨fun _ => List.mem_filter.mpr ⟨List.mem_of_getElem? (i := 1547) ?_, ?_⟩, fun h => (by cases h)⟩
  · rfl
  · rfl
set_option maxRecDepth 100000 in
theorem ck_52 : chkM MT lw_tbl kNsl kSts kCl MI_52 = true := by decide +kernel
set_option maxRecDepth 100000 in
theorem cw_52 : CW lw_tbl MI_52 := by
  refine ⟨fun _ => List.mem_filter.mpr ⟨List.mem_of_getElem? (i := 1550) ?_, ?_⟩, fun h => (by cases h)⟩
  · rfl
  · rfl
set_option maxRecDepth 100000 in
theorem ck_53 : chkM MT lw_tbl kNsl kSts kCl MI_53 = true := by decide +kernel
set_option maxRecDepth 100000 in
theorem cw_53 : CW lw_tbl MI_53 := by
  refine ⟨fun _ => List.mem_filter.mpr ⟨List.mem_of_getElem? (i := 1553) ?_, ?_⟩, fun h => (by cases h)⟩
  · rfl
  · rfl
set_option maxRecDepth 100000 in
theorem ck_54 : chkM MT lw_tbl kNsl kSts kCl MI_54 = true := by decide +kernel
set_option maxRecDepth 100000 in
theorem cw_54 : CW lw_tbl MI_54 := by
  refine ⟨fun _ => List.mem_filter.mpr ⟨List.mem_of_getElem? (i := 1558) ?_, ?_⟩, fun h => (by cases h)⟩
  · rfl
  · rfl
set_option maxRecDepth 100000 in
theorem ck_55 : chkM MT lw_tbl kNsl kSts kCl MI_55 = true := by decide +kernel
set_option maxRecDepth 100000 in
theorem cw_55 : CW lw_tbl MI_55 := by
  refine ⟨fun _ => List.mem_filter.mpr ⟨List.mem_of_getElem? (i := 1543) ?_, ?_⟩, fun h => (by cases h)⟩
  · rfl
  · rfl
set_option maxRecDepth 100000 in
theorem ck_56 : chkM MT lw_tbl kNsl kSts kCl MI_56 = true := by decide +kernel
set_option maxRecDepth 100000 in
theorem cw_56 : CW lw_tbl MI_56 := by
  refine ⟨fun _ => List.mem_filter.mpr ⟨List.mem_of_getElem? (i := 1567) ?_, ?_⟩, fun h => (by cases h)⟩
  · rfl
  · rfl
set_option maxRecDepth 100000 in
theorem ck_57 : chkM MT lw_tbl kNsl kSts kCl MI_57 = true := by decide +kernel
set_option maxRecDepth 100000 in
theorem cw_57 : CW lw_tbl MI_57 := by
  refine ⟨fun _ => List.mem_filter.mpr ⟨List.mem_of_getElem? (i := 1575) ?_, ?_⟩, fun h => (by cases h)⟩
  · rfl
  · rfl
set_option maxRecDepth 100000 in
theorem ck_58 : chkM MT lw_tbl kNsl kSts kCl MI_58 = true := by decide +kernel
set_option maxRecDepth 100000 in
theorem cw_58 : CW lw_tbl MI_58 := by
  refine ⟨fun _ => List.mem_filter.mpr ⟨List.mem_of_getElem? (i := 1579) ?_, ?_⟩, fun h => (by cases h)⟩
  · rfl
  · rfl
set_option maxRecDepth 100000 in
theorem ck_59 : chkM MT lw_tbl kNsl kSts kCl MI_59 = true := by decide +kernel
set_option maxRecDepth 100000 in
theorem cw_59 : CW lw_tbl MI_59 := by
  refine ⟨fun _ => List.mem_filter.mpr ⟨List.mem_of_getElem? (i := 1591) ?_, ?_⟩, fun h => (by cases h)⟩
  · rfl
  · rfl
set_option maxRecDepth 100000 in
theorem ck_60 : chkM MT lw_tbl kNsl kSts kCl MI_60 = true := by decide +kernel
set_option maxRecDepth 100000 in
theorem cw_60 : CW lw_tbl MI_60 := by
  refine ⟨fun _ => List.mem_filter.mpr ⟨List.mem_of_getElem? (i := 1587) ?_, ?_⟩, fun h => (by cases h)⟩
  · rfl
  · rfl
set_option maxRecDepth 100000 in
theorem ck_61 : chkM MT lw_tbl kNsl kSts kCl MI_61 = true := by decide +kernel
set_option maxRecDepth 100000 in
theorem cw_61 : CW lw_tbl MI_61 := by
  refine ⟨fun _ => List.mem_filter.mpr ⟨List.mem_of_getElem? (i := 1595) ?_, ?_⟩, fun h => (by cases h)⟩
  · rfl
  · rfl
set_option maxRecDepth 100000 in
theorem ck_62 : chkM MT lw_tbl kNsl kSts kCl MI_62 = true := by decide +kernel
set_option maxRecDepth 100000 in
theorem cw_62 : CW lw_tbl MI_62 := by
  refine ⟨fun _ => List.mem_filter.mpr ⟨List.mem_of_getElem? (i := 1583) ?_, ?_⟩, fun h => (by cases h)⟩
  · rfl
  · rfl
set_option maxRecDepth 100000 in
theorem ck_63 : chkM MT lw_tbl kNsl kSts kCl MI_63 = true := by decide +kernel
set_option maxRecDepth 100000 in
theorem cw_63 : CW lw_tbl MI_63 := by
  refine ⟨fun _ => List.mem_filter.mpr ⟨List.mem_of_getElem? (i := 1602) ?_, ?_⟩, fun h => (by cases h)⟩
  · rfl
  · rfl
set_option maxRecDepth 100000 in
theorem ck_64 : chkM MT lw_tbl kNsl kSts kCl MI_64 = true := by decide +kernel
set_option maxRecDepth 100000 in
theorem cw_64 : CW lw_tbl MI_64 := by
  refine ⟨fun _ => List.mem_filter.mpr ⟨List.mem_of_getElem? (i := 1610) ?_, ?_⟩, fun h => (by cases h)⟩
  · rfl
  · rfl
set_option maxRecDepth 100000 in
theorem ck_65 : chkM MT lw_tbl kNsl kSts kCl MI_65 = true := by decide +kernel
set_option maxRecDepth 100000 in
theorem cw_65 : CW lw_tbl MI_65 := by
  refine ⟨fun _ => List.mem_filter.mpr ⟨List.mem_of_getElem? (i := 1635) ?_, ?_⟩, fun h => (by cases h)⟩
  · rfl
  · rfl
set_option maxRecDepth 100000 in
theorem ck_66 : chkM MT lw_tbl kNsl kSts kCl MI_66 = true := by decide +kernel
set_option maxRecDepth 100000 in
theorem cw_66 : CW lw_tbl MI_66 := by
  refine ⟨fun _ => List.mem_filter.mpr ⟨List.mem_of_getElem? (i := 1639) ?_, ?_⟩, fun h => (by cases h)⟩
  · rfl
  · rfl
set_option maxRecDepth 100000 in
theorem ck_67 : chkM MT lw_tbl kNsl kSts kCl MI_67 = true := by decide +kernel
set_option maxRecDepth 100000 in
theorem cw_67 : CW lw_tbl MI_67 := by
  refine ⟨fun _ => List.mem_filter.mpr ⟨List.mem_of_getElem? (i := 1631) ?_, ?_⟩, fun h => (by cases h)⟩
  · rfl
  · rfl
set_option maxRecDepth 100000 in
theorem ck_68 : chkM MT lw_tbl kNsl kSts kCl MI_68 = true := by decide +kernel
set_option maxRecDepth 100000 in
theorem cw_68 : CW lw_tbl MI_68 := by
  refine ⟨fun _ => List.mem_filter.mpr ⟨List.mem_of_getElem? (i := 1627) ?_, ?_⟩, fun h => (by cases h)⟩
  · rfl
  · rfl
set_option maxRecDepth 100000 in
theorem ck_69 : chkM MT lw_tbl kNsl kSts kCl MI_69 = true := by decide +kernel
set_option maxRecDepth 100000 in
theorem cw_69 : CW lw_tbl MI_69 := by
  refine ⟨fun _ => List.mem_filter.mpr ⟨List.mem_of_getElem? (i := 1623) ?_, ?_⟩, fun h => (by cases h)⟩
  · rfl
  · rfl
set_option maxRecDepth 100000 in
theorem ck_70 : chkM MT lw_tbl kNsl kSts kCl MI_70 = true := by decide +kernel
set_option maxRecDepth 100000 in
theorem cw_70 : CW lw_tbl MI_70 := by
  refine ⟨fun _ => List.mem_filter.mpr ⟨List.mem_of_getElem? (i := 1618) ?_, ?_⟩, fun h => (by cases h)⟩
  · rfl
  · rfl
set_option maxRecDepth 100000 in
theorem ck_71 : chkM MT lw_tbl kNsl kSts kCl MI_71 = true := by decide +kernel
set_option maxRecDepth 100000 in
theorem cw_71 : CW lw_tbl MI_71 := by
  refine ⟨fun _ => List.mem_filter.mpr ⟨List.mem_of_getElem? (i := 1614) ?_, ?_⟩, fun h => (by cases h)⟩
  · rfl
  · rfl
set_option maxRecDepth 100000 in
theorem ck_72 : chkM MT lw_tbl kNsl kSts kCl MI_72 = true := by decide +kernel
set_option maxRecDepth 100000 in
theorem cw_72 : CW lw_tbl MI_72 := by
  refine ⟨fun _ => List.mem_filter.mpr ⟨List.mem_of_getElem? (i := 1606) ?_, ?_⟩, fun h => (by cases h)⟩
  · rfl
  · rfl
set_option maxRecDepth 100000 in
theorem ck_73 : chkM MT lw_tbl kNsl kSts kCl MI_73 = true := by decide +kernel
set_option maxRecDepth 100000 in
theorem cw_73 : CW lw_tbl MI_73 := by
  refine ⟨fun _ => List.mem_filter.mpr ⟨List.mem_of_getElem? (i := 1562) ?_, ?_⟩, fun h => (by cases h)⟩
  · rfl
  · rfl
set_option maxRecDepth 100000 in
theorem ck_74 : chkM MT lw_tbl kNsl kSts kCl MI_74 = true := by decide +kernel
set_option maxRecDepth 100000 in
theorem cw_74 : CW lw_tbl MI_74 := by
  refine ⟨fun _ => List.mem_filter.mpr ⟨List.mem_of_getElem? (i := 1648) ?_, ?_⟩, fun h => (by cases h)⟩
  · rfl
  · rfl
set_option maxRecDepth 100000 in
theorem ck_75 : chkM MT lw_tbl kNsl kSts kCl MI_75 = true := by decide +kernel
set_option maxRecDepth 100000 in
theorem cw_75 : CW lw_tbl MI_75 := by
  refine ⟨fun _ => List.mem_filter.mpr ⟨List.mem_of_getElem? (i := 1645) ?_, ?_⟩, fun h => (by cases h)⟩
  · rfl
  · rfl
set_option maxRecDepth 100000 in
theorem ck_76 : chkM MT lw_tbl kNsl kSts kCl MI_76 = true := by decide +kernel
set_option maxRecDepth 100000 in
theorem cw_76 : CW lw_tbl MI_76 := by
  refine ⟨fun _ => List.mem_filter.mpr ⟨List.mem_of_getElem? (i := 1535) ?_, ?_⟩, fun h => (by cases h)⟩
  · rfl
  · rfl
set_option maxRecDepth 100000 in
theorem ck_77 : chkM MT lw_tbl kNsl kSts kCl MI_77 = true := by decide +kernel
set_option maxRecDepth 100000 in
theorem cw_77 : CW lw_tbl MI_77 := by
  refine ⟨fun _ => List.mem_filter.mpr ⟨List.mem_of_getElem? (i := 1527) ?_, ?_⟩, fun h => (by cases h)⟩
  · rfl
  · rfl
set_option maxRecDepth 100000 in
theorem ck_78 : chkM MT lw_tbl kNsl kSts kCl MI_78 = true := by decide +kernel
set_option maxRecDepth 100000 in
theorem cw_78 : CW lw_tbl MI_78 := by
  refine ⟨fun _ => List.mem_filter.mpr ⟨List.mem_of_getElem? (i := 478) ?_, ?_⟩, fun h => (by cases h)⟩
  · rfl
  · rfl
set_option maxRecDepth 100000 in
theorem ck_79 : chkM MT lw_tbl kNsl kSts kCl MI_79 = true := by decide +kernel
set_option maxRecDepth 100000 in
theorem cw_79 : CW lw_tbl MI_79 := by
  refine ⟨fun _ => List.mem_filter.mpr ⟨List.mem_of_getElem? (i := 1652) ?_, ?_⟩, fun h => (by cases h)⟩
  · rfl
  · rfl
set_option maxRecDepth 100000 in
theorem ck_80 : chkM MT lw_tbl kNsl kSts kCl MI_80 = true := by decide +kernel
set_option maxRecDepth 100000 in
theorem cw_80 : CW lw_tbl MI_80 := by
  refine ⟨fun _ => List.mem_filter.mpr ⟨List.mem_of_getElem? (i := 516) ?_, ?_⟩, fun h => (by cases h)⟩
  · rfl
  · rfl
set_option maxRecDepth 100000 in
theorem ck_81 : chkM MT lw_tbl kNsl kSts kCl MI_81 = true := by decide +kernel
set_option maxRecDepth 100000 in
theorem cw_81 : CW lw_tbl MI_81 := by
  refine ⟨fun _ => List.mem_filter.mpr ⟨List.mem_of_getElem? (i := 947) ?_, ?_⟩, fun h => (by cases h)⟩
  · rfl
  · rfl
set_option maxRecDepth 100000 in
theorem ck_82 : chkM MT lw_tbl kNsl kSts kCl MI_82 = true := by decide +kernel
set_option maxRecDepth 100000 in
theorem cw_82 : CW lw_tbl MI_82 := by
  refine ⟨fun _ => List.mem_filter.mpr ⟨List.mem_of_getElem? (i := 951) ?_, ?_⟩, fun h => (by cases h)⟩
  · rfl
  · rfl
set_option maxRecDepth 100000 in
theorem ck_83 : chkM MT lw_tbl kNsl kSts kCl MI_83 = true := by decide +kernel
set_option maxRecDepth 100000 in
theorem cw_83 : CW lw_tbl MI_83 := by
  refine ⟨fun _ => List.mem_filter.mpr ⟨List.mem_of_getElem? (i := 943) ?_, ?_⟩, fun h => (by cases h)⟩
  · rfl
  · rfl
set_option maxRecDepth 100000 in
theorem ck_84 : chkM MT lw_tbl kNsl kSts kCl MI_84 = true := by decide +kernel
set_option maxRecDepth 100000 in
theorem cw_84 : CW lw_tbl MI_84 := by
  refine ⟨fun h => (by rcases h with h | h <;> cases h), fun _ => List.mem_filter.mpr ⟨List.mem_of_getElem? (i := 938) ?_, ?_⟩⟩
  · rfl
  · rfl
set_option maxRecDepth 100000 in
theorem ck_85 : chkM MT lw_tbl kNsl kSts kCl MI_85 = true := by decide +kernel
set_option maxRecDepth 100000 in
theorem cw_85 : CW lw_tbl MI_85 := by
  refine ⟨fun _ => List.mem_filter.mpr ⟨List.mem_of_getElem? (i := 1659) ?_, ?_⟩, fun h => (by cases h)⟩
  · rfl
  · rfl
set_option maxRecDepth 100000 in
theorem ck_86 : chkM MT lw_tbl kNsl kSts kCl MI_86 = true := by decide +kernel
set_option maxRecDepth 100000 in
theorem cw_86 : CW lw_tbl MI_86 := by
  refine ⟨fun _ => List.mem_filter.mpr ⟨List.mem_of_getElem? (i := 1656) ?_, ?_⟩, fun h => (by cases h)⟩
  · rfl
  · rfl
set_option maxRecDepth 100000 in
theorem ck_87 : chkM MT lw_tbl kNsl kSts kCl MI_87 = true := by decide +kernel
set_option maxRecDepth 100000 in
theorem cw_87 : CW lw_tbl MI_87 := by
  refine ⟨fun _ => List.mem_filter.mpr ⟨List.mem_of_getElem? (i := 977) ?_, ?_⟩, fun h => (by cases h)⟩
  · rfl
  · rfl
set_option maxRecDepth 100000 in
theorem ck_88 : chkM MT lw_tbl kNsl kSts kCl MI_88 = true := by decide +kernel
set_option maxRecDepth 100000 in
theorem cw_88 : CW lw_tbl MI_88 := by
  refine ⟨fun _ => List.mem_filter.mpr ⟨List.mem_of_getElem? (i := 981) ?_, ?_⟩, fun h => (by cases h)⟩
  · rfl
  · rfl
set_option maxRecDepth 100000 in
theorem ck_89 : chkM MT lw_tbl kNsl kSts kCl MI_89 = true := by decide +kernel
set_option maxRecDepth 100000 in
theorem cw_89 : CW lw_tbl MI_89 := by
  refine ⟨fun _ => List.mem_filter.mpr ⟨List.mem_of_getElem? (i := 973) ?_, ?_⟩, fun h => (by cases h)⟩
  · rfl
  · rfl
set_option maxRecDepth 100000 in
theorem ck_90 : chkM MT lw_tbl kNsl kSts kCl MI_90 = true := by decide +kernel
set_option maxRecDepth 100000 in
theorem cw_90 : CW lw_tbl MI_90 := by
  refine ⟨fun h => (by rcases h with h | h <;> cases h), fun _ => List.mem_filter.mpr ⟨List.mem_of_getElem? (i := 969) ?_, ?_⟩⟩
  · rfl
  · rfl
set_option maxRecDepth 100000 in
theorem ck_91 : chkM MT lw_tbl kNsl kSts kCl MI_91 = true := by decide +kernel
set_option maxRecDepth 100000 in
theorem cw_91 : CW lw_tbl MI_91 := by
  refine ⟨fun _ => List.mem_filter.mpr ⟨List.mem_of_getElem? (i := 1666) ?_, ?_⟩, fun h => (by cases h)⟩
  · rfl
  · rfl
set_option maxRecDepth 100000 in
theorem ck_92 : chkM MT lw_tbl kNsl kSts kCl MI_92 = true := by decide +kernel
set_option maxRecDepth 100000 in
theorem cw_92 : CW lw_tbl MI_92 := by
  refine ⟨fun _ => List.mem_filter.mpr ⟨List.mem_of_getElem? (i := 1670) ?_, ?_⟩, fun h => (by cases h)⟩
  · rfl
  · rfl
set_option maxRecDepth 100000 in
theorem ck_93 : chkM MT lw_tbl kNsl kSts kCl MI_93 = true := by decide +kernel
set_option maxRecDepth 100000 in
theorem cw_93 : CW lw_tbl MI_93 := by
  refine ⟨fun _ => List.mem_filter.mpr ⟨List.mem_of_getElem? (i := 1674) ?_, ?_⟩, fun h => (by cases h)⟩
  · rfl
  · rfl
set_option maxRecDepth 100000 in
theorem ck_94 : chkM MT lw_tbl kNsl kSts kCl MI_94 = true := by decide +kernel
set_option maxRecDepth 100000 in
theorem cw_94 : CW lw_tbl MI_94 := by
  refine ⟨fun _ => List.mem_filter.mpr ⟨List.mem_of_getElem? (i := 1663) ?_, ?_⟩, fun h => (by cases h)⟩
  · rfl
  · rfl
set_option maxRecDepth 100000 in
theorem ck_95 : chkM MT lw_tbl kNsl kSts kCl MI_95 = true := by decide +kernel
set_option maxRecDepth 100000 in
theorem cw_95 : CW lw_tbl MI_95 := by
  refine ⟨fun _ => List.mem_filter.mpr ⟨List.mem_of_getElem? (i := 990) ?_, ?_⟩, fun h => (by cases h)⟩
  · rfl
  · rfl
