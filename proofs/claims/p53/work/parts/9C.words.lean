/-! THE START'S WORDS: what the Statement says of the start, each found by the kernel. -/
def stF : List Cond := flatC (Cond.and given_1 narrow_1)
def stL : List (Nat × Term) := (xzs.filterMap (fun q => match q.2.2.2 with | .ref a => some (a, Term.static q.1 q.2.1 q.2.2.1) | _ => none)) ++ ((xsts.map (fun q => (q.2.2.2, Term.string q.1 q.2.1))) ++ ((xsts.take 40).map (fun q => (q.2.2.2 + 40, Term.field (Term.string q.1 q.2.1) "java/lang/String" "value" "[B"))))
/-- the term that names a constant -/
def stT (a : Nat) : Term := (stL.lookup a).getD (.int 0)
def stV : Value → Term
  | .int z => .int z
  | .ref a => stT a
  | _ => .int 0
def stK : List Nat := xcoT.map (fun q => q.1) ++ xarT.map (fun q => q.1)
def stVk : Value → Bool
  | .int _ => true
  | .ref a => stK.contains a
  | _ => false
def stEl (q : Nat × (Nat × List Value)) : List Cond := (List.range q.2.2.length).map (fun j => Cond.eq (.elem (stT q.1) (.int (Int32.ofNat j))) (stV (q.2.2.getD j .null)))
/-- where each array's places begin among the words -/
def stIx : List Nat := [833, 878, 845, 901, 888, 856, 908, 868, 921, 931, 943, 956, 979, 989, 1000, 1015, 1023, 1036, 1059, 1072, 1094, 1108, 1132, 1143, 1161, 1171, 1182, 1201, 1213, 1234, 1246, 1258, 1271, 1284, 1296, 1310, 1322, 1332, 1345, 669, 26, 49, 13, 258, 155, 123]
def stOk : List Nat → List (Nat × (Nat × List Value)) → Bool
  | i :: is, q :: qs => decide ((stF.drop i).take q.2.2.length = stEl q) && stOk is qs
  | [], [] => true
  | _, _ => false
theorem stOk_of : ∀ (is : List Nat) (qs : List (Nat × (Nat × List Value))), stOk is qs = true → ∀ q ∈ qs, ∀ j, j < q.2.2.length → Cond.eq (.elem (stT q.1) (.int (Int32.ofNat j))) (stV (q.2.2.getD j .null)) ∈ stF
  | [], [], _, q, hq, _, _ => absurd hq List.not_mem_nil
  | [], _ :: _, h, _, _, _, _ => by cases h
  | _ :: _, [], h, _, _, _, _ => by cases h
  | i :: is, q0 :: qs, h, q, hq, j, hj => by
    rw [stOk, Bool.and_eq_true] at h
    rcases List.mem_cons.mp hq with rfl | hq
    · have e := of_decide_eq_true h.1
      have hm : Cond.eq (.elem (stT q.1) (.int (Int32.ofNat j))) (stV (q.2.2.getD j .null)) ∈ stEl q := List.mem_map.mpr ⟨j, List.mem_range.mpr hj, rfl⟩
      rw [← e] at hm
      exact List.mem_of_mem_drop (List.mem_of_mem_take hm)
    · exact stOk_of is qs h.2 q hq j hj
/-- words found each at its place -/
def stAt : List Nat → List Cond → Bool
  | i :: is, w :: ws => decide (stF[i]? = some w) && stAt is ws
  | _, [] => true
  | [], _ :: _ => false
theorem stAt_of : ∀ (is : List Nat) (ws : List Cond), stAt is ws = true → ∀ w ∈ ws, w ∈ stF
  | _, [], _, w, hw => absurd hw List.not_mem_nil
  | [], _ :: _, h, _, _ => by cases h
  | i :: is, w0 :: ws, h, w, hw => by
    rw [stAt, Bool.and_eq_true] at h
    rcases List.mem_cons.mp hw with rfl | hw
    · exact List.mem_of_getElem? (of_decide_eq_true h.1)
    · exact stAt_of is ws h.2 w hw
theorem st_el : stOk stIx xarT = true := by decide +kernel
theorem st_va : ∀ q ∈ xarT, ∀ v ∈ q.2.2, stVk v = true := by decide +kernel
theorem st_ar0 : stAt [831, 876, 843, 899, 886, 854, 906, 866, 919, 929, 941, 954, 977, 987, 998, 1013, 1021, 1034, 1057, 1070, 1092, 1106, 1130, 1141, 1159, 1169, 1180, 1199, 1211, 1232, 1244, 1256, 1269, 1282, 1294, 1308, 1320, 1330, 1343, 667, 24, 46, 11, 256, 153, 121] (xarT.map (fun q => Cond.arrayOf (stT q.1) (xarK q.2.1))) = true := by decide +kernel
theorem st_ar : ∀ q ∈ xarT, Cond.arrayOf (stT q.1) (xarK q.2.1) ∈ stF := fun _ hq => stAt_of _ _ st_ar0 _ (List.mem_map_of_mem hq)
theorem st_le0 : stAt [832, 877, 844, 900, 887, 855, 907, 867, 920, 930, 942, 955, 978, 988, 999, 1014, 1022, 1035, 1058, 1071, 1093, 1107, 1131, 1142, 1160, 1170, 1181, 1200, 1212, 1233, 1245, 1257, 1270, 1283, 1295, 1309, 1321, 1331, 1344, 668, 25, 47, 12, 257, 154, 122] (xarT.map (fun q => Cond.eq (.length (stT q.1)) (.int (Int32.ofNat q.2.2.length)))) = true := by decide +kernel
theorem st_le1 : ∀ q ∈ xarT, q.2.2.length < 2 ^ 31 ∧ q.1 < xSp := by decide +kernel
theorem st_le : ∀ q ∈ xarT, Cond.eq (.length (stT q.1)) (.int (Int32.ofNat q.2.2.length)) ∈ stF ∧ q.2.2.length < 2 ^ 31 ∧ q.1 < xSp := fun q hq => ⟨stAt_of _ _ st_le0 _ (List.mem_map_of_mem hq), st_le1 q hq⟩
theorem st_ex0 : stAt [7, 63, 29, 78, 70, 33, 87, 38, 97, 108, 829, 874, 841, 897, 884, 852, 904, 864, 917, 927, 939, 952, 975, 985, 996, 1011, 1019, 1032, 1055, 1068, 1090, 1104, 1128, 1139, 1157, 1167, 1178, 1197, 1209, 1230, 1242, 1254, 1267, 1280, 1292, 1306, 1318, 1328, 1341, 665] (xcoT.map (fun q => Cond.exactly (stT q.1) (xcn q.2))) = true := by decide +kernel
theorem st_ex1 : ∀ q ∈ xcoT, q.1 < xSp := by decide +kernel
theorem st_ex : ∀ q ∈ xcoT, Cond.exactly (stT q.1) (xcn q.2) ∈ stF ∧ q.1 < xSp := fun q hq => ⟨stAt_of _ _ st_ex0 _ (List.mem_map_of_mem hq), st_ex1 q hq⟩
theorem st_st0 : stAt [829, 874, 841, 897, 884, 852, 904, 864, 917, 927, 939, 952, 975, 985, 996, 1011, 1019, 1032, 1055, 1068, 1090, 1104, 1128, 1139, 1157, 1167, 1178, 1197, 1209, 1230, 1242, 1254, 1267, 1280, 1292, 1306, 1318, 1328, 1341, 665, 595, 624, 643, 801, 463, 673, 491, 521, 552, 578] (xsts.map (fun q => Cond.exactly (stT q.2.2.2) "java/lang/String")) = true := by decide +kernel
theorem st_st1 : ∀ q ∈ xsts, q.2.2.2 < xSp ∧ stT q.2.2.2 = Term.string q.1 q.2.1 ∧ Cond.stringRef q.1 q.2.1 q.2.2.1 ∈ lw_tbl := by decide +kernel
theorem st_st : ∀ q ∈ xsts, Cond.exactly (stT q.2.2.2) "java/lang/String" ∈ stF ∧ q.2.2.2 < xSp ∧ stT q.2.2.2 = Term.string q.1 q.2.1 ∧ Cond.stringRef q.1 q.2.1 q.2.2.1 ∈ lw_tbl := fun q hq => ⟨stAt_of _ _ st_st0 _ (List.mem_map_of_mem (f := fun q : String × (Nat × (String × Nat)) => Cond.exactly (stT q.2.2.2) "java/lang/String") hq), st_st1 q hq⟩
def stZ (q : String × (String × (String × Value))) : Bool := match q.2.2.2 with
  | .int z => decide (Cond.eq (.static q.1 q.2.1 q.2.2.1) (.int z) ∈ stF)
  | .ref a => decide (stT a = Term.static q.1 q.2.1 q.2.2.1) && stK.contains a
  | _ => false
theorem st_zs : ∀ q ∈ xzs, Cond.laysStatic q.1 q.2.1 q.2.2.1 ∈ lw_tbl ∧ Cond.initialized q.1 ∈ lw_tbl ∧ stZ q = true := by decide +kernel
def stO (q : Nat × Value) : Bool := match q.2 with
  | .ref a => decide (stT a = Term.field (stT q.1) "java/lang/String" "value" "[B") && (stK.contains a && stK.contains q.1)
  | _ => false
theorem st_o0 : ∀ q ∈ xof0, stO q = true := by decide +kernel
def stO1 : List (Nat × (String × (String × (String × Value)))) := xof1.map (fun q => (q.1, "java/lang/String", "coder", "B", q.2)) ++ (xof2.map (fun q => (q.1, "java/lang/Enum", "ordinal", "I", q.2)) ++ xof3.map (fun q => (q.1, "RingKiln$Command", "pattern", "Ljava/lang/String;", q.2)))
theorem st_o10 : stAt [830, 875, 842, 898, 885, 853, 905, 865, 918, 928, 940, 953, 976, 986, 997, 1012, 1020, 1033, 1056, 1069, 1091, 1105, 1129, 1140, 1158, 1168, 1179, 1198, 1210, 1231, 1243, 1255, 1268, 1281, 1293, 1307, 1319, 1329, 1342, 666, 8, 64, 30, 79, 71, 34, 88, 39, 98, 109, 9, 65, 31, 80, 72, 35, 89, 40, 99, 110] (stO1.map (fun q => Cond.eq (.field (stT q.1) q.2.1 q.2.2.1 q.2.2.2.1) (stV q.2.2.2.2))) = true := by decide +kernel
theorem st_o11 : ∀ q ∈ stO1, stK.contains q.1 = true ∧ stVk q.2.2.2.2 = true := by decide +kernel
theorem st_o1 : ∀ q ∈ stO1, Cond.eq (.field (stT q.1) q.2.1 q.2.2.1 q.2.2.2.1) (stV q.2.2.2.2) ∈ stF ∧ stK.contains q.1 = true ∧ stVk q.2.2.2.2 = true := fun q hq => ⟨stAt_of _ _ st_o10 _ (List.mem_map_of_mem (f := fun q : Nat × (String × (String × (String × Value))) => Cond.eq (.field (stT q.1) q.2.1 q.2.2.1 q.2.2.2.1) (stV q.2.2.2.2)) hq), st_o11 q hq⟩
theorem st_nf : ∀ q ∈ xnfs, Cond.fieldLinkNest q.1 q.2.1 q.2.2.1 q.2.2.2.1 q.2.2.2.2.1 q.2.2.2.2.2 ∈ lw_tbl := by decide +kernel
theorem st_nm : ∀ q ∈ xnms, Cond.methodLinkNest q.1 q.2.1 q.2.2.1 q.2.2.2 ∈ lw_tbl := by decide +kernel
theorem st_ao : ∀ q ∈ xaos, Cond.arrayOver (.object q) ∈ lw_tbl := by decide +kernel
theorem st_aa : ∀ q ∈ xaas, Cond.arrayOver (.array q) ∈ lw_tbl := by decide +kernel
theorem st_ca : ∀ q ∈ xcas, Cond.castable q.1 q.2 ∈ lw_tbl := by decide +kernel
theorem st_de : ∀ q ∈ xdes, Cond.declares q ∈ lw_tbl := by decide +kernel
theorem st_nc : ∀ q ∈ xncs, Cond.not (Cond.castable q.1 q.2) ∈ stF := by decide +kernel
theorem st_qq : ∀ q ∈ ([("java/lang/Throwable", "UNASSIGNED_STACK", "[Ljava/lang/StackTraceElement;"), ("java/lang/Throwable", "SUPPRESSED_SENTINEL", "Ljava/util/List;"), ("jdk/internal/util/Preconditions", "SIOOBE_FORMATTER", "Ljava/util/function/BiFunction;")] : List (String × (String × String))), Cond.laysStatic q.1 q.2.1 q.2.2 ∈ lw_tbl ∧ Cond.initialized q.1 ∈ lw_tbl ∧ Cond.isRef (.static q.1 q.2.1 q.2.2) ∈ stF := by decide +kernel
theorem st_cl : ∀ q ∈ vwCl, ∃ n, Cond.instantiable q.1 n ∈ lw_tbl := by
  have h : ∀ q ∈ List.zip (vwCl.map (fun q => q.1)) [4, 4, 6, 6, 7, 3, 17, 5, 9, 12], Cond.instantiable q.1 q.2 ∈ lw_tbl := by decide +kernel
  intro q hq
  obtain ⟨i, hi⟩ := List.getElem?_of_mem hq
  have hlt : i < 10 := by
    have := (List.getElem?_eq_some_iff.mp hi).1
    exact this
  have hj : ∃ n, ([4, 4, 6, 6, 7, 3, 17, 5, 9, 12] : List Nat)[i]? = some n := ⟨_, List.getElem?_eq_getElem hlt⟩
  obtain ⟨n, hn⟩ := hj
  refine ⟨n, h (q.1, n) (List.mem_of_getElem? (i := i) ?_)⟩
  rw [List.getElem?_zip_eq_some]
  exact ⟨by rw [List.getElem?_map, hi]; rfl, hn⟩
theorem st_pv : ∀ q ∈ ([⟨"java/lang/AbstractStringBuilder", "ensureCapacityInternal", "(I)V"⟩, ⟨"java/lang/AbstractStringBuilder", "newCapacity", "(I)I"⟩] : List MethodName), Cond.privateMethod q ∈ lw_tbl ∧ Cond.instanceMethod q ∈ lw_tbl := by decide +kernel
theorem st_il : Cond.selects "java/lang/StringBuilder" ⟨"java/lang/AbstractStringBuilder", "isLatin1", "()Z"⟩ ⟨"java/lang/AbstractStringBuilder", "isLatin1", "()Z"⟩ ∈ lw_tbl := by decide +kernel
