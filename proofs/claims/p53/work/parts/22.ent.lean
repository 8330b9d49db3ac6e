theorem xk_0_0 : xP 0 0 (.aload_n 0, 1, 0, 0, .null) := ⟨⟨⟨(by decide +kernel : decode cX2_init 0 = .ok (.aload_n 0, 1)), rfl⟩, rfl⟩, rfl⟩
theorem xk_0_1 : xP 0 1 (.invokespecial 3, 4, 9003, 0, .null) := ⟨⟨(by decide +kernel : decode cX2_init 1 = .ok (.invokespecial 3, 3)), rfl, fun _ => ⟨xw_194, xw_65, xw_66⟩, fun h => absurd rfl h⟩, rfl⟩
theorem xk_0_4 : xP 0 4 (.aload_n 0, 5, 0, 0, .null) := ⟨⟨⟨(by decide +kernel : decode cX2_init 4 = .ok (.aload_n 0, 1)), rfl⟩, rfl⟩, rfl⟩
theorem xk_0_5 : xP 0 5 (.bipush 19, 7, 0, 0, .int 19) := ⟨⟨(by decide +kernel : decode cX2_init 5 = .ok (.bipush 19, 2)), rfl, by decide⟩, rfl⟩
theorem xk_0_7 : xP 0 7 (.bipush 65, 9, 0, 0, .int 65) := ⟨⟨(by decide +kernel : decode cX2_init 7 = .ok (.bipush 65, 2)), rfl, by decide⟩, rfl⟩
theorem xk_0_9 : xP 0 9 (.multianewarray 11 2, 13, 0, 6, .null) := ⟨⟨(by decide +kernel : decode cX2_init 9 = .ok (.multianewarray 11 2, 4)), rfl, rfl, Or.inl ⟨rfl, rfl⟩, xw_195, xw_142, List.mem_of_getElem? (i := 0) rfl⟩, rfl⟩
theorem xk_0_13 : xP 0 13 (.putfield 13, 16, 4, 0, .null) := ⟨⟨(by decide +kernel : decode cX2_init 13 = .ok (.putfield 13, 3)), rfl, _, _, _, xcl_4, by decide, Or.inr ⟨rfl, rfl, rfl, xw_203⟩⟩, rfl⟩
theorem xk_0_16 : xP 0 16 (.aload_n 0, 17, 0, 0, .null) := ⟨⟨⟨(by decide +kernel : decode cX2_init 16 = .ok (.aload_n 0, 1)), rfl⟩, rfl⟩, rfl⟩
theorem xk_0_17 : xP 0 17 (.bipush 19, 19, 0, 0, .int 19) := ⟨⟨(by decide +kernel : decode cX2_init 17 = .ok (.bipush 19, 2)), rfl, by decide⟩, rfl⟩
theorem xk_0_19 : xP 0 19 (.newarray .int, 21, 0, 0, .null) := ⟨⟨(by decide +kernel : decode cX2_init 19 = .ok (.newarray .int, 2)), rfl, by decide, rfl, xw_142⟩, rfl⟩
theorem xk_0_21 : xP 0 21 (.putfield 16, 24, 4, 1, .null) := ⟨⟨(by decide +kernel : decode cX2_init 21 = .ok (.putfield 16, 3)), rfl, _, _, _, xcl_4, by decide, Or.inr ⟨rfl, rfl, rfl, xw_204⟩⟩, rfl⟩
theorem xk_0_24 : xP 0 24 (.aload_n 0, 25, 0, 0, .null) := ⟨⟨⟨(by decide +kernel : decode cX2_init 24 = .ok (.aload_n 0, 1)), rfl⟩, rfl⟩, rfl⟩
theorem xk_0_25 : xP 0 25 (.bipush 65, 27, 0, 0, .int 65) := ⟨⟨(by decide +kernel : decode cX2_init 25 = .ok (.bipush 65, 2)), rfl, by decide⟩, rfl⟩
theorem xk_0_27 : xP 0 27 (.newarray .long, 29, 3, 0, .null) := ⟨⟨(by decide +kernel : decode cX2_init 27 = .ok (.newarray .long, 2)), rfl, by decide, rfl, xw_226⟩, rfl⟩
theorem xk_0_29 : xP 0 29 (.putfield 20, 32, 4, 2, .null) := ⟨⟨(by decide +kernel : decode cX2_init 29 = .ok (.putfield 20, 3)), rfl, _, _, _, xcl_4, by decide, Or.inl ⟨rfl, Or.inl xw_206⟩⟩, rfl⟩
theorem xk_0_32 : xP 0 32 (.aload_n 0, 33, 0, 0, .null) := ⟨⟨⟨(by decide +kernel : decode cX2_init 32 = .ok (.aload_n 0, 1)), rfl⟩, rfl⟩, rfl⟩
theorem xk_0_33 : xP 0 33 (.bipush 65, 35, 0, 0, .int 65) := ⟨⟨(by decide +kernel : decode cX2_init 33 = .ok (.bipush 65, 2)), rfl, by decide⟩, rfl⟩
theorem xk_0_35 : xP 0 35 (.newarray .long, 37, 3, 0, .null) := ⟨⟨(by decide +kernel : decode cX2_init 35 = .ok (.newarray .long, 2)), rfl, by decide, rfl, xw_226⟩, rfl⟩
theorem xk_0_37 : xP 0 37 (.putfield 24, 40, 4, 3, .null) := ⟨⟨(by decide +kernel : decode cX2_init 37 = .ok (.putfield 24, 3)), rfl, _, _, _, xcl_4, by decide, Or.inl ⟨rfl, Or.inl xw_207⟩⟩, rfl⟩
theorem xk_0_40 : xP 0 40 (.aload_n 0, 41, 0, 0, .null) := ⟨⟨⟨(by decide +kernel : decode cX2_init 40 = .ok (.aload_n 0, 1)), rfl⟩, rfl⟩, rfl⟩
theorem xk_0_41 : xP 0 41 (.bipush 65, 43, 0, 0, .int 65) := ⟨⟨(by decide +kernel : decode cX2_init 41 = .ok (.bipush 65, 2)), rfl, by decide⟩, rfl⟩
theorem xk_0_43 : xP 0 43 (.newarray .int, 45, 0, 0, .null) := ⟨⟨(by decide +kernel : decode cX2_init 43 = .ok (.newarray .int, 2)), rfl, by decide, rfl, xw_142⟩, rfl⟩
theorem xk_0_45 : xP 0 45 (.putfield 27, 48, 4, 4, .null) := ⟨⟨(by decide +kernel : decode cX2_init 45 = .ok (.putfield 27, 3)), rfl, _, _, _, xcl_4, by decide, Or.inl ⟨rfl, Or.inl xw_208⟩⟩, rfl⟩
theorem xk_0_48 : xP 0 48 (.aload_n 0, 49, 0, 0, .null) := ⟨⟨⟨(by decide +kernel : decode cX2_init 48 = .ok (.aload_n 0, 1)), rfl⟩, rfl⟩, rfl⟩
theorem xk_0_49 : xP 0 49 (.bipush 65, 51, 0, 0, .int 65) := ⟨⟨(by decide +kernel : decode cX2_init 49 = .ok (.bipush 65, 2)), rfl, by decide⟩, rfl⟩
theorem xk_0_51 : xP 0 51 (.newarray .int, 53, 0, 0, .null) := ⟨⟨(by decide +kernel : decode cX2_init 51 = .ok (.newarray .int, 2)), rfl, by decide, rfl, xw_142⟩, rfl⟩
theorem xk_0_53 : xP 0 53 (.putfield 30, 56, 4, 5, .null) := ⟨⟨(by decide +kernel : decode cX2_init 53 = .ok (.putfield 30, 3)), rfl, _, _, _, xcl_4, by decide, Or.inl ⟨rfl, Or.inl xw_209⟩⟩, rfl⟩
theorem xk_0_56 : xP 0 56 (.aload_n 0, 57, 0, 0, .null) := ⟨⟨⟨(by decide +kernel : decode cX2_init 56 = .ok (.aload_n 0, 1)), rfl⟩, rfl⟩, rfl⟩
theorem xk_0_57 : xP 0 57 (.bipush 8, 59, 0, 0, .int 8) := ⟨⟨(by decide +kernel : decode cX2_init 57 = .ok (.bipush 8, 2)), rfl, by decide⟩, rfl⟩
theorem xk_0_59 : xP 0 59 (.bipush 65, 61, 0, 0, .int 65) := ⟨⟨(by decide +kernel : decode cX2_init 59 = .ok (.bipush 65, 2)), rfl, by decide⟩, rfl⟩
theorem xk_0_61 : xP 0 61 (.multianewarray 33 2, 65, 3, 7, .null) := ⟨⟨(by decide +kernel : decode cX2_init 61 = .ok (.multianewarray 33 2, 4)), rfl, rfl, Or.inr ⟨rfl, rfl⟩, xw_197, xw_226, List.mem_of_getElem? (i := 1) rfl⟩, rfl⟩
theorem xk_0_65 : xP 0 65 (.putfield 35, 68, 4, 6, .null) := ⟨⟨(by decide +kernel : decode cX2_init 65 = .ok (.putfield 35, 3)), rfl, _, _, _, xcl_4, by decide, Or.inr ⟨rfl, rfl, rfl, xw_210⟩⟩, rfl⟩
theorem xk_0_68 : xP 0 68 (.aload_n 0, 69, 0, 0, .null) := ⟨⟨⟨(by decide +kernel : decode cX2_init 68 = .ok (.aload_n 0, 1)), rfl⟩, rfl⟩, rfl⟩
theorem xk_0_69 : xP 0 69 (.getfield 16, 72, 4, 1, .null) := ⟨⟨(by decide +kernel : decode cX2_init 69 = .ok (.getfield 16, 3)), rfl, Or.inr ⟨by decide, _, _, _, xcl_4, by decide, Or.inl xw_204⟩⟩, rfl⟩
theorem xk_0_72 : xP 0 72 (.iconst 0, 73, 0, 0, .int 0) := ⟨⟨⟨(by decide +kernel : decode cX2_init 72 = .ok (.iconst 0, 1)), rfl⟩, by decide⟩, rfl⟩
theorem xk_0_73 : xP 0 73 (.iconst 1, 74, 0, 0, .int 1) := ⟨⟨⟨(by decide +kernel : decode cX2_init 73 = .ok (.iconst 1, 1)), rfl⟩, by decide⟩, rfl⟩
theorem xk_0_74 : xP 0 74 (.iastore, 75, 0, 0, .null) := ⟨⟨(by decide +kernel : decode cX2_init 74 = .ok (.iastore, 1)), rfl⟩, rfl⟩
theorem xk_0_75 : xP 0 75 (.iconst 2, 76, 0, 0, .int 2) := ⟨⟨⟨(by decide +kernel : decode cX2_init 75 = .ok (.iconst 2, 1)), rfl⟩, by decide⟩, rfl⟩
theorem xk_0_76 : xP 0 76 (.istore_n 1, 77, 1, 0, .null) := ⟨⟨⟨(by decide +kernel : decode cX2_init 76 = .ok (.istore_n 1, 1)), rfl⟩, rfl⟩, rfl⟩
theorem xk_0_77 : xP 0 77 (.iload_n 1, 78, 1, 0, .null) := ⟨⟨⟨(by decide +kernel : decode cX2_init 77 = .ok (.iload_n 1, 1)), rfl⟩, rfl⟩, rfl⟩
theorem xk_0_78 : xP 0 78 (.bipush 18, 80, 0, 0, .int 18) := ⟨⟨(by decide +kernel : decode cX2_init 78 = .ok (.bipush 18, 2)), rfl, by decide⟩, rfl⟩
theorem xk_0_80 : xP 0 80 (.if_icmp .gt 21, 83, 101, 0, .null) := ⟨⟨(by decide +kernel : decode cX2_init 80 = .ok (.if_icmp .gt 21, 3)), rfl, by decide⟩, rfl⟩
theorem xk_0_83 : xP 0 83 (.aload_n 0, 84, 0, 0, .null) := ⟨⟨⟨(by decide +kernel : decode cX2_init 83 = .ok (.aload_n 0, 1)), rfl⟩, rfl⟩, rfl⟩
theorem xk_0_84 : xP 0 84 (.iconst 2, 85, 0, 0, .int 2) := ⟨⟨⟨(by decide +kernel : decode cX2_init 84 = .ok (.iconst 2, 1)), rfl⟩, by decide⟩, rfl⟩
theorem xk_0_85 : xP 0 85 (.iload_n 1, 86, 1, 0, .null) := ⟨⟨⟨(by decide +kernel : decode cX2_init 85 = .ok (.iload_n 1, 1)), rfl⟩, rfl⟩, rfl⟩
theorem xk_0_86 : xP 0 86 (.invokevirtual 38, 89, 1, 3, .null) := ⟨⟨(by decide +kernel : decode cX2_init 86 = .ok (.invokevirtual 38, 3)), rfl, by decide, xhd_1, rfl, _, "RingKiln$Courses", rfl, xrcl_4, Or.inl ⟨xgen_1, rfl, List.forall_mem_cons.mpr ⟨xw_199, List.forall_mem_cons.mpr ⟨xw_201, List.forall_mem_cons.mpr ⟨xw_2, List.forall_mem_cons.mpr ⟨xw_32, fun _ h => absurd h List.not_mem_nil⟩⟩⟩⟩⟩⟩, rfl⟩
theorem xk_0_89 : xP 0 89 (.aload_n 0, 90, 0, 0, .null) := ⟨⟨⟨(by decide +kernel : decode cX2_init 89 = .ok (.aload_n 0, 1)), rfl⟩, rfl⟩, rfl⟩
theorem xk_0_90 : xP 0 90 (.iconst 3, 91, 0, 0, .int 3) := ⟨⟨⟨(by decide +kernel : decode cX2_init 90 = .ok (.iconst 3, 1)), rfl⟩, by decide⟩, rfl⟩
theorem xk_0_91 : xP 0 91 (.iload_n 1, 92, 1, 0, .null) := ⟨⟨⟨(by decide +kernel : decode cX2_init 91 = .ok (.iload_n 1, 1)), rfl⟩, rfl⟩, rfl⟩
theorem xk_0_92 : xP 0 92 (.invokevirtual 38, 95, 1, 3, .null) := ⟨⟨(by decide +kernel : decode cX2_init 92 = .ok (.invokevirtual 38, 3)), rfl, by decide, xhd_1, rfl, _, "RingKiln$Courses", rfl, xrcl_4, Or.inl ⟨xgen_1, rfl, List.forall_mem_cons.mpr ⟨xw_199, List.forall_mem_cons.mpr ⟨xw_201, List.forall_mem_cons.mpr ⟨xw_2, List.forall_mem_cons.mpr ⟨xw_32, fun _ h => absurd h List.not_mem_nil⟩⟩⟩⟩⟩⟩, rfl⟩
theorem xk_0_95 : xP 0 95 (.iinc 1 1, 98, 1, 0, .int 1) := ⟨⟨(by decide +kernel : decode cX2_init 95 = .ok (.iinc 1 1, 3)), rfl, rfl, by decide⟩, rfl⟩
theorem xk_0_98 : xP 0 98 (.goto (-21), 101, 77, 0, .null) := ⟨⟨(by decide +kernel : decode cX2_init 98 = .ok (.goto (-21), 3)), by decide⟩, rfl⟩
theorem xk_0_101 : xP 0 101 (.return_, 102, 0, 0, .null) := ⟨⟨(by decide +kernel : decode cX2_init 101 = .ok (.return_, 1)), rfl⟩, rfl⟩
theorem xkM_0 (pc : Nat) : ∀ e, xcM0 pc = some e → xP 0 pc e := by
  unfold xcM0
  exact xt_if (P := xP 0) (xt_if (P := xP 0) (xt_if (P := xP 0) (xt_if (P := xP 0) (xt_if (P := xP 0) (xt_leaf (P := xP 0) xk_0_0) (xt_if (P := xP 0) (xt_leaf (P := xP 0) xk_0_1) (xt_leaf (P := xP 0) xk_0_4))) (xt_if (P := xP 0) (xt_leaf (P := xP 0) xk_0_5) (xt_if (P := xP 0) (xt_leaf (P := xP 0) xk_0_7) (xt_leaf (P := xP 0) xk_0_9)))) (xt_if (P := xP 0) (xt_if (P := xP 0) (xt_leaf (P := xP 0) xk_0_13) (xt_if (P := xP 0) (xt_leaf (P := xP 0) xk_0_16) (xt_leaf (P := xP 0) xk_0_17))) (xt_if (P := xP 0) (xt_if (P := xP 0) (xt_leaf (P := xP 0) xk_0_19) (xt_leaf (P := xP 0) xk_0_21)) (xt_if (P := xP 0) (xt_leaf (P := xP 0) xk_0_24) (xt_leaf (P := xP 0) xk_0_25))))) (xt_if (P := xP 0) (xt_if (P := xP 0) (xt_if (P := xP 0) (xt_leaf (P := xP 0) xk_0_27) (xt_if (P := xP 0) (xt_leaf (P := xP 0) xk_0_29) (xt_leaf (P := xP 0) xk_0_32))) (xt_if (P := xP 0) (xt_leaf (P := xP 0) xk_0_33) (xt_if (P := xP 0) (xt_leaf (P := xP 0) xk_0_35) (xt_leaf (P := xP 0) xk_0_37)))) (xt_if (P := xP 0) (xt_if (P := xP 0) (xt_leaf (P := xP 0) xk_0_40) (xt_if (P := xP 0) (xt_leaf (P := xP 0) xk_0_41) (xt_leaf (P := xP 0) xk_0_43))) (xt_if (P := xP 0) (xt_if (P := xP 0) (xt_leaf (P := xP 0) xk_0_45) (xt_leaf (P := xP 0) xk_0_48)) (xt_if (P := xP 0) (xt_leaf (P := xP 0) xk_0_49) (xt_leaf (P := xP 0) xk_0_51)))))) (xt_if (P := xP 0) (xt_if (P := xP 0) (xt_if (P := xP 0) (xt_if (P := xP 0) (xt_leaf (P := xP 0) xk_0_53) (xt_if (P := xP 0) (xt_leaf (P := xP 0) xk_0_56) (xt_leaf (P := xP 0) xk_0_57))) (xt_if (P := xP 0) (xt_leaf (P := xP 0) xk_0_59) (xt_if (P := xP 0) (xt_leaf (P := xP 0) xk_0_61) (xt_leaf (P := xP 0) xk_0_65)))) (xt_if (P := xP 0) (xt_if (P := xP 0) (xt_leaf (P := xP 0) xk_0_68) (xt_if (P := xP 0) (xt_leaf (P := xP 0) xk_0_69) (xt_leaf (P := xP 0) xk_0_72))) (xt_if (P := xP 0) (xt_if (P := xP 0) (xt_leaf (P := xP 0) xk_0_73) (xt_leaf (P := xP 0) xk_0_74)) (xt_if (P := xP 0) (xt_leaf (P := xP 0) xk_0_75) (xt_leaf (P := xP 0) xk_0_76))))) (xt_if (P := xP 0) (xt_if (P := xP 0) (xt_if (P := xP 0) (xt_leaf (P := xP 0) xk_0_77) (xt_if (P := xP 0) (xt_leaf (P := xP 0) xk_0_78) (xt_leaf (P := xP 0) xk_0_80))) (xt_if (P := xP 0) (xt_if (P := xP 0) (xt_leaf (P := xP 0) xk_0_83) (xt_leaf (P := xP 0) xk_0_84)) (xt_if (P := xP 0) (xt_leaf (P := xP 0) xk_0_85) (xt_leaf (P := xP 0) xk_0_86)))) (xt_if (P := xP 0) (xt_if (P := xP 0) (xt_leaf (P := xP 0) xk_0_89) (xt_if (P := xP 0) (xt_leaf (P := xP 0) xk_0_90) (xt_leaf (P := xP 0) xk_0_91))) (xt_if (P := xP 0) (xt_if (P := xP 0) (xt_leaf (P := xP 0) xk_0_92) (xt_leaf (P := xP 0) xk_0_95)) (xt_if (P := xP 0) (xt_leaf (P := xP 0) xk_0_98) (xt_leaf (P := xP 0) xk_0_101))))))
theorem xk_1_0 : xP 1 0 (.iload_n 2, 1, 2, 0, .null) := ⟨⟨⟨(by decide +kernel : decode cX2_addCoursesEndingWith 0 = .ok (.iload_n 2, 1)), rfl⟩, rfl⟩, rfl⟩
theorem xk_1_1 : xP 1 1 (.iload_n 1, 2, 1, 0, .null) := ⟨⟨⟨(by decide +kernel : decode cX2_addCoursesEndingWith 1 = .ok (.iload_n 1, 1)), rfl⟩, rfl⟩, rfl⟩
theorem xk_1_2 : xP 1 2 (.isub, 3, 0, 0, .null) := ⟨⟨(by decide +kernel : decode cX2_addCoursesEndingWith 2 = .ok (.isub, 1)), rfl⟩, rfl⟩
theorem xk_1_3 : xP 1 3 (.istore_n 3, 4, 3, 0, .null) := ⟨⟨⟨(by decide +kernel : decode cX2_addCoursesEndingWith 3 = .ok (.istore_n 3, 1)), rfl⟩, rfl⟩, rfl⟩
theorem xk_1_4 : xP 1 4 (.iload_n 3, 5, 3, 0, .null) := ⟨⟨⟨(by decide +kernel : decode cX2_addCoursesEndingWith 4 = .ok (.iload_n 3, 1)), rfl⟩, rfl⟩, rfl⟩
theorem xk_1_5 : xP 1 5 (.ifCond .ge 4, 8, 9, 0, .null) := ⟨⟨(by decide +kernel : decode cX2_addCoursesEndingWith 5 = .ok (.ifCond .ge 4, 3)), rfl, by decide⟩, rfl⟩
theorem xk_1_8 : xP 1 8 (.return_, 9, 0, 0, .null) := ⟨⟨(by decide +kernel : decode cX2_addCoursesEndingWith 8 = .ok (.return_, 1)), rfl⟩, rfl⟩
theorem xk_1_9 : xP 1 9 (.iload_n 3, 10, 3, 0, .null) := ⟨⟨⟨(by decide +kernel : decode cX2_addCoursesEndingWith 9 = .ok (.iload_n 3, 1)), rfl⟩, rfl⟩, rfl⟩
theorem xk_1_10 : xP 1 10 (.ifCond .ne 7, 13, 17, 0, .null) := ⟨⟨(by decide +kernel : decode cX2_addCoursesEndingWith 10 = .ok (.ifCond .ne 7, 3)), rfl, by decide⟩, rfl⟩
theorem xk_1_13 : xP 1 13 (.iconst 0, 14, 0, 0, .int 0) := ⟨⟨⟨(by decide +kernel : decode cX2_addCoursesEndingWith 13 = .ok (.iconst 0, 1)), rfl⟩, by decide⟩, rfl⟩
theorem xk_1_14 : xP 1 14 (.goto 6, 17, 20, 0, .null) := ⟨⟨(by decide +kernel : decode cX2_addCoursesEndingWith 14 = .ok (.goto 6, 3)), by decide⟩, rfl⟩
theorem xk_1_17 : xP 1 17 (.iconst 1, 18, 0, 0, .int 1) := ⟨⟨⟨(by decide +kernel : decode cX2_addCoursesEndingWith 17 = .ok (.iconst 1, 1)), rfl⟩, by decide⟩, rfl⟩
theorem xk_1_18 : xP 1 18 (.iload_n 3, 19, 3, 0, .null) := ⟨⟨⟨(by decide +kernel : decode cX2_addCoursesEndingWith 18 = .ok (.iload_n 3, 1)), rfl⟩, rfl⟩, rfl⟩
theorem xk_1_19 : xP 1 19 (.ishl, 20, 0, 0, .null) := ⟨⟨(by decide +kernel : decode cX2_addCoursesEndingWith 19 = .ok (.ishl, 1)), rfl⟩, rfl⟩
theorem xk_1_20 : xP 1 20 (.istore 4, 22, 4, 0, .null) := ⟨⟨(by decide +kernel : decode cX2_addCoursesEndingWith 20 = .ok (.istore 4, 2)), rfl, rfl⟩, rfl⟩
theorem xk_1_22 : xP 1 22 (.iconst 0, 23, 0, 0, .int 0) := ⟨⟨⟨(by decide +kernel : decode cX2_addCoursesEndingWith 22 = .ok (.iconst 0, 1)), rfl⟩, by decide⟩, rfl⟩
theorem xk_1_23 : xP 1 23 (.istore 5, 25, 5, 0, .null) := ⟨⟨(by decide +kernel : decode cX2_addCoursesEndingWith 23 = .ok (.istore 5, 2)), rfl, rfl⟩, rfl⟩
theorem xk_1_25 : xP 1 25 (.iload 5, 27, 5, 0, .null) := ⟨⟨(by decide +kernel : decode cX2_addCoursesEndingWith 25 = .ok (.iload 5, 2)), rfl, rfl⟩, rfl⟩
theorem xk_1_27 : xP 1 27 (.aload_n 0, 28, 0, 0, .null) := ⟨⟨⟨(by decide +kernel : decode cX2_addCoursesEndingWith 27 = .ok (.aload_n 0, 1)), rfl⟩, rfl⟩, rfl⟩
theorem xk_1_28 : xP 1 28 (.getfield 16, 31, 4, 1, .null) := ⟨⟨(by decide +kernel : decode cX2_addCoursesEndingWith 28 = .ok (.getfield 16, 3)), rfl, Or.inr ⟨by decide, _, _, _, xcl_4, by decide, Or.inl xw_204⟩⟩, rfl⟩
theorem xk_1_31 : xP 1 31 (.iload_n 3, 32, 3, 0, .null) := ⟨⟨⟨(by decide +kernel : decode cX2_addCoursesEndingWith 31 = .ok (.iload_n 3, 1)), rfl⟩, rfl⟩, rfl⟩
theorem xk_1_32 : xP 1 32 (.iaload, 33, 0, 0, .null) := ⟨⟨(by decide +kernel : decode cX2_addCoursesEndingWith 32 = .ok (.iaload, 1)), rfl⟩, rfl⟩
theorem xk_1_33 : xP 1 33 (.if_icmp .ge 55, 36, 88, 0, .null) := ⟨⟨(by decide +kernel : decode cX2_addCoursesEndingWith 33 = .ok (.if_icmp .ge 55, 3)), rfl, by decide⟩, rfl⟩
theorem xk_1_36 : xP 1 36 (.aload_n 0, 37, 0, 0, .null) := ⟨⟨⟨(by decide +kernel : decode cX2_addCoursesEndingWith 36 = .ok (.aload_n 0, 1)), rfl⟩, rfl⟩, rfl⟩
theorem xk_1_37 : xP 1 37 (.getfield 16, 40, 4, 1, .null) := ⟨⟨(by decide +kernel : decode cX2_addCoursesEndingWith 37 = .ok (.getfield 16, 3)), rfl, Or.inr ⟨by decide, _, _, _, xcl_4, by decide, Or.inl xw_204⟩⟩, rfl⟩
theorem xk_1_40 : xP 1 40 (.iload_n 2, 41, 2, 0, .null) := ⟨⟨⟨(by decide +kernel : decode cX2_addCoursesEndingWith 40 = .ok (.iload_n 2, 1)), rfl⟩, rfl⟩, rfl⟩
theorem xk_1_41 : xP 1 41 (.iaload, 42, 0, 0, .null) := ⟨⟨(by decide +kernel : decode cX2_addCoursesEndingWith 41 = .ok (.iaload, 1)), rfl⟩, rfl⟩
theorem xk_1_42 : xP 1 42 (.bipush 65, 44, 0, 0, .int 65) := ⟨⟨(by decide +kernel : decode cX2_addCoursesEndingWith 42 = .ok (.bipush 65, 2)), rfl, by decide⟩, rfl⟩
theorem xk_1_44 : xP 1 44 (.if_icmp .ge 44, 47, 88, 0, .null) := ⟨⟨(by decide +kernel : decode cX2_addCoursesEndingWith 44 = .ok (.if_icmp .ge 44, 3)), rfl, by decide⟩, rfl⟩
theorem xk_1_47 : xP 1 47 (.aload_n 0, 48, 0, 0, .null) := ⟨⟨⟨(by decide +kernel : decode cX2_addCoursesEndingWith 47 = .ok (.aload_n 0, 1)), rfl⟩, rfl⟩, rfl⟩
theorem xk_1_48 : xP 1 48 (.getfield 13, 51, 4, 0, .null) := ⟨⟨(by decide +kernel : decode cX2_addCoursesEndingWith 48 = .ok (.getfield 13, 3)), rfl, Or.inr ⟨by decide, _, _, _, xcl_4, by decide, Or.inl xw_203⟩⟩, rfl⟩
theorem xk_1_51 : xP 1 51 (.iload_n 2, 52, 2, 0, .null) := ⟨⟨⟨(by decide +kernel : decode cX2_addCoursesEndingWith 51 = .ok (.iload_n 2, 1)), rfl⟩, rfl⟩, rfl⟩
theorem xk_1_52 : xP 1 52 (.aaload, 53, 0, 0, .null) := ⟨⟨(by decide +kernel : decode cX2_addCoursesEndingWith 52 = .ok (.aaload, 1)), rfl⟩, rfl⟩
theorem xk_1_53 : xP 1 53 (.aload_n 0, 54, 0, 0, .null) := ⟨⟨⟨(by decide +kernel : decode cX2_addCoursesEndingWith 53 = .ok (.aload_n 0, 1)), rfl⟩, rfl⟩, rfl⟩
theorem xk_1_54 : xP 1 54 (.getfield 16, 57, 4, 1, .null) := ⟨⟨(by decide +kernel : decode cX2_addCoursesEndingWith 54 = .ok (.getfield 16, 3)), rfl, Or.inr ⟨by decide, _, _, _, xcl_4, by decide, Or.inl xw_204⟩⟩, rfl⟩
theorem xk_1_57 : xP 1 57 (.iload_n 2, 58, 2, 0, .null) := ⟨⟨⟨(by decide +kernel : decode cX2_addCoursesEndingWith 57 = .ok (.iload_n 2, 1)), rfl⟩, rfl⟩, rfl⟩
theorem xk_1_58 : xP 1 58 (.iaload, 59, 0, 0, .null) := ⟨⟨(by decide +kernel : decode cX2_addCoursesEndingWith 58 = .ok (.iaload, 1)), rfl⟩, rfl⟩
theorem xk_1_59 : xP 1 59 (.aload_n 0, 60, 0, 0, .null) := ⟨⟨⟨(by decide +kernel : decode cX2_addCoursesEndingWith 59 = .ok (.aload_n 0, 1)), rfl⟩, rfl⟩, rfl⟩
theorem xk_1_60 : xP 1 60 (.getfield 13, 63, 4, 0, .null) := ⟨⟨(by decide +kernel : decode cX2_addCoursesEndingWith 60 = .ok (.getfield 13, 3)), rfl, Or.inr ⟨by decide, _, _, _, xcl_4, by decide, Or.inl xw_203⟩⟩, rfl⟩
theorem xk_1_63 : xP 1 63 (.iload_n 3, 64, 3, 0, .null) := ⟨⟨⟨(by decide +kernel : decode cX2_addCoursesEndingWith 63 = .ok (.iload_n 3, 1)), rfl⟩, rfl⟩, rfl⟩
theorem xk_1_64 : xP 1 64 (.aaload, 65, 0, 0, .null) := ⟨⟨(by decide +kernel : decode cX2_addCoursesEndingWith 64 = .ok (.aaload, 1)), rfl⟩, rfl⟩
theorem xk_1_65 : xP 1 65 (.iload 5, 67, 5, 0, .null) := ⟨⟨(by decide +kernel : decode cX2_addCoursesEndingWith 65 = .ok (.iload 5, 2)), rfl, rfl⟩, rfl⟩
theorem xk_1_67 : xP 1 67 (.iaload, 68, 0, 0, .null) := ⟨⟨(by decide +kernel : decode cX2_addCoursesEndingWith 67 = .ok (.iaload, 1)), rfl⟩, rfl⟩
theorem xk_1_68 : xP 1 68 (.iload 4, 70, 4, 0, .null) := ⟨⟨(by decide +kernel : decode cX2_addCoursesEndingWith 68 = .ok (.iload 4, 2)), rfl, rfl⟩, rfl⟩
theorem xk_1_70 : xP 1 70 (.ior, 71, 0, 0, .null) := ⟨⟨(by decide +kernel : decode cX2_addCoursesEndingWith 70 = .ok (.ior, 1)), rfl⟩, rfl⟩
theorem xk_1_71 : xP 1 71 (.iastore, 72, 0, 0, .null) := ⟨⟨(by decide +kernel : decode cX2_addCoursesEndingWith 71 = .ok (.iastore, 1)), rfl⟩, rfl⟩
theorem xk_1_72 : xP 1 72 (.aload_n 0, 73, 0, 0, .null) := ⟨⟨⟨(by decide +kernel : decode cX2_addCoursesEndingWith 72 = .ok (.aload_n 0, 1)), rfl⟩, rfl⟩, rfl⟩
theorem xk_1_73 : xP 1 73 (.getfield 16, 76, 4, 1, .null) := ⟨⟨(by decide +kernel : decode cX2_addCoursesEndingWith 73 = .ok (.getfield 16, 3)), rfl, Or.inr ⟨by decide, _, _, _, xcl_4, by decide, Or.inl xw_204⟩⟩, rfl⟩
theorem xk_1_76 : xP 1 76 (.iload_n 2, 77, 2, 0, .null) := ⟨⟨⟨(by decide +kernel : decode cX2_addCoursesEndingWith 76 = .ok (.iload_n 2, 1)), rfl⟩, rfl⟩, rfl⟩
theorem xk_1_77 : xP 1 77 (.dup2, 78, 0, 0, .null) := ⟨⟨(by decide +kernel : decode cX2_addCoursesEndingWith 77 = .ok (.dup2, 1)), rfl⟩, rfl⟩
theorem xk_1_78 : xP 1 78 (.iaload, 79, 0, 0, .null) := ⟨⟨(by decide +kernel : decode cX2_addCoursesEndingWith 78 = .ok (.iaload, 1)), rfl⟩, rfl⟩
theorem xk_1_79 : xP 1 79 (.iconst 1, 80, 0, 0, .int 1) := ⟨⟨⟨(by decide +kernel : decode cX2_addCoursesEndingWith 79 = .ok (.iconst 1, 1)), rfl⟩, by decide⟩, rfl⟩
theorem xk_1_80 : xP 1 80 (.iadd, 81, 0, 0, .null) := ⟨⟨(by decide +kernel : decode cX2_addCoursesEndingWith 80 = .ok (.iadd, 1)), rfl⟩, rfl⟩
theorem xk_1_81 : xP 1 81 (.iastore, 82, 0, 0, .null) := ⟨⟨(by decide +kernel : decode cX2_addCoursesEndingWith 81 = .ok (.iastore, 1)), rfl⟩, rfl⟩
theorem xk_1_82 : xP 1 82 (.iinc 5 1, 85, 5, 0, .int 1) := ⟨⟨(by decide +kernel : decode cX2_addCoursesEndingWith 82 = .ok (.iinc 5 1, 3)), rfl, rfl, by decide⟩, rfl⟩
theorem xk_1_85 : xP 1 85 (.goto (-60), 88, 25, 0, .null) := ⟨⟨(by decide +kernel : decode cX2_addCoursesEndingWith 85 = .ok (.goto (-60), 3)), by decide⟩, rfl⟩
theorem xk_1_88 : xP 1 88 (.return_, 89, 0, 0, .null) := ⟨⟨(by decide +kernel : decode cX2_addCoursesEndingWith 88 = .ok (.return_, 1)), rfl⟩, rfl⟩
theorem xkM_1 (pc : Nat) : ∀ e, xcM1 pc = some e → xP 1 pc e := by
  unfold xcM1
  exact xt_if (P := xP 1) (xt_if (P := xP 1) (xt_if (P := xP 1) (xt_if (P := xP 1) (xt_if (P := xP 1) (xt_leaf (P := xP 1) xk_1_0) (xt_if (P := xP 1) (xt_leaf (P := xP 1) xk_1_1) (xt_leaf (P := xP 1) xk_1_2))) (xt_if (P := xP 1) (xt_if (P := xP 1) (xt_leaf (P := xP 1) xk_1_3) (xt_leaf (P := xP 1) xk_1_4)) (xt_if (P := xP 1) (xt_leaf (P := xP 1) xk_1_5) (xt_leaf (P := xP 1) xk_1_8)))) (xt_if (P := xP 1) (xt_if (P := xP 1) (xt_leaf (P := xP 1) xk_1_9) (xt_if (P := xP 1) (xt_leaf (P := xP 1) xk_1_10) (xt_leaf (P := xP 1) xk_1_13))) (xt_if (P := xP 1) (xt_if (P := xP 1) (xt_leaf (P := xP 1) xk_1_14) (xt_leaf (P := xP 1) xk_1_17)) (xt_if (P := xP 1) (xt_leaf (P := xP 1) xk_1_18) (xt_leaf (P := xP 1) xk_1_19))))) (xt_if (P := xP 1) (xt_if (P := xP 1) (xt_if (P := xP 1) (xt_leaf (P := xP 1) xk_1_20) (xt_if (P := xP 1) (xt_leaf (P := xP 1) xk_1_22) (xt_leaf (P := xP 1) xk_1_23))) (xt_if (P := xP 1) (xt_if (P := xP 1) (xt_leaf (P := xP 1) xk_1_25) (xt_leaf (P := xP 1) xk_1_27)) (xt_if (P := xP 1) (xt_leaf (P := xP 1) xk_1_28) (xt_leaf (P := xP 1) xk_1_31)))) (xt_if (P := xP 1) (xt_if (P := xP 1) (xt_leaf (P := xP 1) xk_1_32) (xt_if (P := xP 1) (xt_leaf (P := xP 1) xk_1_33) (xt_leaf (P := xP 1) xk_1_36))) (xt_if (P := xP 1) (xt_if (P := xP 1) (xt_leaf (P := xP 1) xk_1_37) (xt_leaf (P := xP 1) xk_1_40)) (xt_if (P := xP 1) (xt_leaf (P := xP 1) xk_1_41) (xt_leaf (P := xP 1) xk_1_42)))))) (xt_if (P := xP 1) (xt_if (P := xP 1) (xt_if (P := xP 1) (xt_if (P := xP 1) (xt_leaf (P := xP 1) xk_1_44) (xt_if (P := xP 1) (xt_leaf (P := xP 1) xk_1_47) (xt_leaf (P := xP 1) xk_1_48))) (xt_if (P := xP 1) (xt_if (P := xP 1) (xt_leaf (P := xP 1) xk_1_51) (xt_leaf (P := xP 1) xk_1_52)) (xt_if (P := xP 1) (xt_leaf (P := xP 1) xk_1_53) (xt_leaf (P := xP 1) xk_1_54)))) (xt_if (P := xP 1) (xt_if (P := xP 1) (xt_leaf (P := xP 1) xk_1_57) (xt_if (P := xP 1) (xt_leaf (P := xP 1) xk_1_58) (xt_leaf (P := xP 1) xk_1_59))) (xt_if (P := xP 1) (xt_if (P := xP 1) (xt_leaf (P := xP 1) xk_1_60) (xt_leaf (P := xP 1) xk_1_63)) (xt_if (P := xP 1) (xt_leaf (P := xP 1) xk_1_64) (xt_leaf (P := xP 1) xk_1_65))))) (xt_if (P := xP 1) (xt_if (P := xP 1) (xt_if (P := xP 1) (xt_leaf (P := xP 1) xk_1_67) (xt_if (P := xP 1) (xt_leaf (P := xP 1) xk_1_68) (xt_leaf (P := xP 1) xk_1_70))) (xt_if (P := xP 1) (xt_if (P := xP 1) (xt_leaf (P := xP 1) xk_1_71) (xt_leaf (P := xP 1) xk_1_72)) (xt_if (P := xP 1) (xt_leaf (P := xP 1) xk_1_73) (xt_leaf (P := xP 1) xk_1_76)))) (xt_if (P := xP 1) (xt_if (P := xP 1) (xt_if (P := xP 1) (xt_leaf (P := xP 1) xk_1_77) (xt_leaf (P := xP 1) xk_1_78)) (xt_if (P := xP 1) (xt_leaf (P := xP 1) xk_1_79) (xt_leaf (P := xP 1) xk_1_80))) (xt_if (P := xP 1) (xt_if (P := xP 1) (xt_leaf (P := xP 1) xk_1_81) (xt_leaf (P := xP 1) xk_1_82)) (xt_if (P := xP 1) (xt_leaf (P := xP 1) xk_1_85) (xt_leaf (P := xP 1) xk_1_88))))))
theorem xk_2_0 : xP 2 0 (.iload_n 0, 1, 0, 0, .null) := ⟨⟨⟨(by decide +kernel : decode cX2_canLie 0 = .ok (.iload_n 0, 1)), rfl⟩, rfl⟩, rfl⟩
theorem xk_2_1 : xP 2 1 (.iload_n 1, 2, 1, 0, .null) := ⟨⟨⟨(by decide +kernel : decode cX2_canLie 1 = .ok (.iload_n 1, 1)), rfl⟩, rfl⟩, rfl⟩
theorem xk_2_2 : xP 2 2 (.iand, 3, 0, 0, .null) := ⟨⟨(by decide +kernel : decode cX2_canLie 2 = .ok (.iand, 1)), rfl⟩, rfl⟩
theorem xk_2_3 : xP 2 3 (.ifCond .ne 7, 6, 10, 0, .null) := ⟨⟨(by decide +kernel : decode cX2_canLie 3 = .ok (.ifCond .ne 7, 3)), rfl, by decide⟩, rfl⟩
theorem xk_2_6 : xP 2 6 (.iconst 1, 7, 0, 0, .int 1) := ⟨⟨⟨(by decide +kernel : decode cX2_canLie 6 = .ok (.iconst 1, 1)), rfl⟩, by decide⟩, rfl⟩
theorem xk_2_7 : xP 2 7 (.goto 4, 10, 11, 0, .null) := ⟨⟨(by decide +kernel : decode cX2_canLie 7 = .ok (.goto 4, 3)), by decide⟩, rfl⟩
theorem xk_2_10 : xP 2 10 (.iconst 0, 11, 0, 0, .int 0) := ⟨⟨⟨(by decide +kernel : decode cX2_canLie 10 = .ok (.iconst 0, 1)), rfl⟩, by decide⟩, rfl⟩
theorem xk_2_11 : xP 2 11 (.ireturn, 12, 0, 0, .null) := ⟨⟨(by decide +kernel : decode cX2_canLie 11 = .ok (.ireturn, 1)), rfl⟩, rfl⟩
theorem xkM_2 (pc : Nat) : ∀ e, xcM2 pc = some e → xP 2 pc e := by
  unfold xcM2
  exact xt_if (P := xP 2) (xt_if (P := xP 2) (xt_if (P := xP 2) (xt_leaf (P := xP 2) xk_2_0) (xt_leaf (P := xP 2) xk_2_1)) (xt_if (P := xP 2) (xt_leaf (P := xP 2) xk_2_2) (xt_leaf (P := xP 2) xk_2_3))) (xt_if (P := xP 2) (xt_if (P := xP 2) (xt_leaf (P := xP 2) xk_2_6) (xt_leaf (P := xP 2) xk_2_7)) (xt_if (P := xP 2) (xt_leaf (P := xP 2) xk_2_10) (xt_leaf (P := xP 2) xk_2_11)))
theorem xk_3_0 : xP 3 0 (.aload_n 0, 1, 0, 0, .null) := ⟨⟨⟨(by decide +kernel : decode cX2_countByTable 0 = .ok (.aload_n 0, 1)), rfl⟩, rfl⟩, rfl⟩
theorem xk_3_1 : xP 3 1 (.getfield 16, 4, 4, 1, .null) := ⟨⟨(by decide +kernel : decode cX2_countByTable 1 = .ok (.getfield 16, 3)), rfl, Or.inr ⟨by decide, _, _, _, xcl_4, by decide, Or.inl xw_204⟩⟩, rfl⟩
theorem xk_3_4 : xP 3 4 (.iload_n 1, 5, 1, 0, .null) := ⟨⟨⟨(by decide +kernel : decode cX2_countByTable 4 = .ok (.iload_n 1, 1)), rfl⟩, rfl⟩, rfl⟩
theorem xk_3_5 : xP 3 5 (.iaload, 6, 0, 0, .null) := ⟨⟨(by decide +kernel : decode cX2_countByTable 5 = .ok (.iaload, 1)), rfl⟩, rfl⟩
theorem xk_3_6 : xP 3 6 (.istore_n 3, 7, 3, 0, .null) := ⟨⟨⟨(by decide +kernel : decode cX2_countByTable 6 = .ok (.istore_n 3, 1)), rfl⟩, rfl⟩, rfl⟩
theorem xk_3_7 : xP 3 7 (.iconst 0, 8, 0, 0, .int 0) := ⟨⟨⟨(by decide +kernel : decode cX2_countByTable 7 = .ok (.iconst 0, 1)), rfl⟩, by decide⟩, rfl⟩
theorem xk_3_8 : xP 3 8 (.istore 4, 10, 4, 0, .null) := ⟨⟨(by decide +kernel : decode cX2_countByTable 8 = .ok (.istore 4, 2)), rfl, rfl⟩, rfl⟩
theorem xk_3_10 : xP 3 10 (.iload 4, 12, 4, 0, .null) := ⟨⟨(by decide +kernel : decode cX2_countByTable 10 = .ok (.iload 4, 2)), rfl, rfl⟩, rfl⟩
theorem xk_3_12 : xP 3 12 (.iload_n 3, 13, 3, 0, .null) := ⟨⟨⟨(by decide +kernel : decode cX2_countByTable 12 = .ok (.iload_n 3, 1)), rfl⟩, rfl⟩, rfl⟩
theorem xk_3_13 : xP 3 13 (.if_icmp .ge 17, 16, 30, 0, .null) := ⟨⟨(by decide +kernel : decode cX2_countByTable 13 = .ok (.if_icmp .ge 17, 3)), rfl, by decide⟩, rfl⟩
theorem xk_3_16 : xP 3 16 (.aload_n 0, 17, 0, 0, .null) := ⟨⟨⟨(by decide +kernel : decode cX2_countByTable 16 = .ok (.aload_n 0, 1)), rfl⟩, rfl⟩, rfl⟩
theorem xk_3_17 : xP 3 17 (.getfield 20, 20, 4, 2, .null) := ⟨⟨(by decide +kernel : decode cX2_countByTable 17 = .ok (.getfield 20, 3)), rfl, Or.inr ⟨by decide, _, _, _, xcl_4, by decide, Or.inl xw_206⟩⟩, rfl⟩
theorem xk_3_20 : xP 3 20 (.iload 4, 22, 4, 0, .null) := ⟨⟨(by decide +kernel : decode cX2_countByTable 20 = .ok (.iload 4, 2)), rfl, rfl⟩, rfl⟩
theorem xk_3_22 : xP 3 22 (.lconst 1, 23, 0, 0, .long 1) := ⟨⟨⟨(by decide +kernel : decode cX2_countByTable 22 = .ok (.lconst 1, 1)), rfl⟩, by decide⟩, rfl⟩
theorem xk_3_23 : xP 3 23 (.lastore, 24, 0, 0, .null) := ⟨⟨(by decide +kernel : decode cX2_countByTable 23 = .ok (.lastore, 1)), rfl⟩, rfl⟩
theorem xk_3_24 : xP 3 24 (.iinc 4 1, 27, 4, 0, .int 1) := ⟨⟨(by decide +kernel : decode cX2_countByTable 24 = .ok (.iinc 4 1, 3)), rfl, rfl, by decide⟩, rfl⟩
theorem xk_3_27 : xP 3 27 (.goto (-17), 30, 10, 0, .null) := ⟨⟨(by decide +kernel : decode cX2_countByTable 27 = .ok (.goto (-17), 3)), by decide⟩, rfl⟩
theorem xk_3_30 : xP 3 30 (.iconst 2, 31, 0, 0, .int 2) := ⟨⟨⟨(by decide +kernel : decode cX2_countByTable 30 = .ok (.iconst 2, 1)), rfl⟩, by decide⟩, rfl⟩
theorem xk_3_31 : xP 3 31 (.istore 4, 33, 4, 0, .null) := ⟨⟨(by decide +kernel : decode cX2_countByTable 31 = .ok (.istore 4, 2)), rfl, rfl⟩, rfl⟩
theorem xk_3_33 : xP 3 33 (.iload 4, 35, 4, 0, .null) := ⟨⟨(by decide +kernel : decode cX2_countByTable 33 = .ok (.iload 4, 2)), rfl, rfl⟩, rfl⟩
theorem xk_3_35 : xP 3 35 (.iload_n 2, 36, 2, 0, .null) := ⟨⟨⟨(by decide +kernel : decode cX2_countByTable 35 = .ok (.iload_n 2, 1)), rfl⟩, rfl⟩, rfl⟩
theorem xk_3_36 : xP 3 36 (.if_icmp .gt 20, 39, 56, 0, .null) := ⟨⟨(by decide +kernel : decode cX2_countByTable 36 = .ok (.if_icmp .gt 20, 3)), rfl, by decide⟩, rfl⟩
theorem xk_3_39 : xP 3 39 (.aload_n 0, 40, 0, 0, .null) := ⟨⟨⟨(by decide +kernel : decode cX2_countByTable 39 = .ok (.aload_n 0, 1)), rfl⟩, rfl⟩, rfl⟩
theorem xk_3_40 : xP 3 40 (.aload_n 0, 41, 0, 0, .null) := ⟨⟨⟨(by decide +kernel : decode cX2_countByTable 40 = .ok (.aload_n 0, 1)), rfl⟩, rfl⟩, rfl⟩
theorem xk_3_41 : xP 3 41 (.getfield 13, 44, 4, 0, .null) := ⟨⟨(by decide +kernel : decode cX2_countByTable 41 = .ok (.getfield 13, 3)), rfl, Or.inr ⟨by decide, _, _, _, xcl_4, by decide, Or.inl xw_203⟩⟩, rfl⟩
theorem xk_3_44 : xP 3 44 (.iload_n 1, 45, 1, 0, .null) := ⟨⟨⟨(by decide +kernel : decode cX2_countByTable 44 = .ok (.iload_n 1, 1)), rfl⟩, rfl⟩, rfl⟩
theorem xk_3_45 : xP 3 45 (.aaload, 46, 0, 0, .null) := ⟨⟨(by decide +kernel : decode cX2_countByTable 45 = .ok (.aaload, 1)), rfl⟩, rfl⟩
theorem xk_3_46 : xP 3 46 (.iload_n 3, 47, 3, 0, .null) := ⟨⟨⟨(by decide +kernel : decode cX2_countByTable 46 = .ok (.iload_n 3, 1)), rfl⟩, rfl⟩, rfl⟩
theorem xk_3_47 : xP 3 47 (.invokevirtual 42, 50, 4, 3, .null) := ⟨⟨(by decide +kernel : decode cX2_countByTable 47 = .ok (.invokevirtual 42, 3)), rfl, by decide, xhd_4, rfl, _, "RingKiln$Courses", rfl, xrcl_4, Or.inl ⟨xgen_4, rfl, List.forall_mem_cons.mpr ⟨xw_1022, List.forall_mem_cons.mpr ⟨xw_1024, List.forall_mem_cons.mpr ⟨xw_24, List.forall_mem_cons.mpr ⟨xw_32, fun _ h => absurd h List.not_mem_nil⟩⟩⟩⟩⟩⟩, rfl⟩
theorem xk_3_50 : xP 3 50 (.iinc 4 1, 53, 4, 0, .int 1) := ⟨⟨(by decide +kernel : decode cX2_countByTable 50 = .ok (.iinc 4 1, 3)), rfl, rfl, by decide⟩, rfl⟩
theorem xk_3_53 : xP 3 53 (.goto (-20), 56, 33, 0, .null) := ⟨⟨(by decide +kernel : decode cX2_countByTable 53 = .ok (.goto (-20), 3)), by decide⟩, rfl⟩
theorem xk_3_56 : xP 3 56 (.lconst 0, 57, 0, 0, .long 0) := ⟨⟨⟨(by decide +kernel : decode cX2_countByTable 56 = .ok (.lconst 0, 1)), rfl⟩, by decide⟩, rfl⟩
theorem xk_3_57 : xP 3 57 (.lstore 4, 59, 4, 0, .null) := ⟨⟨(by decide +kernel : decode cX2_countByTable 57 = .ok (.lstore 4, 2)), rfl, rfl⟩, rfl⟩
theorem xk_3_59 : xP 3 59 (.iconst 0, 60, 0, 0, .int 0) := ⟨⟨⟨(by decide +kernel : decode cX2_countByTable 59 = .ok (.iconst 0, 1)), rfl⟩, by decide⟩, rfl⟩
theorem xk_3_60 : xP 3 60 (.istore 6, 62, 6, 0, .null) := ⟨⟨(by decide +kernel : decode cX2_countByTable 60 = .ok (.istore 6, 2)), rfl, rfl⟩, rfl⟩
theorem xk_3_62 : xP 3 62 (.iload 6, 64, 6, 0, .null) := ⟨⟨(by decide +kernel : decode cX2_countByTable 62 = .ok (.iload 6, 2)), rfl, rfl⟩, rfl⟩
theorem xk_3_64 : xP 3 64 (.iload_n 3, 65, 3, 0, .null) := ⟨⟨⟨(by decide +kernel : decode cX2_countByTable 64 = .ok (.iload_n 3, 1)), rfl⟩, rfl⟩, rfl⟩
theorem xk_3_65 : xP 3 65 (.if_icmp .ge 21, 68, 86, 0, .null) := ⟨⟨(by decide +kernel : decode cX2_countByTable 65 = .ok (.if_icmp .ge 21, 3)), rfl, by decide⟩, rfl⟩
theorem xk_3_68 : xP 3 68 (.lload 4, 70, 4, 0, .null) := ⟨⟨(by decide +kernel : decode cX2_countByTable 68 = .ok (.lload 4, 2)), rfl, rfl⟩, rfl⟩
theorem xk_3_70 : xP 3 70 (.aload_n 0, 71, 0, 0, .null) := ⟨⟨⟨(by decide +kernel : decode cX2_countByTable 70 = .ok (.aload_n 0, 1)), rfl⟩, rfl⟩, rfl⟩
theorem xk_3_71 : xP 3 71 (.getfield 20, 74, 4, 2, .null) := ⟨⟨(by decide +kernel : decode cX2_countByTable 71 = .ok (.getfield 20, 3)), rfl, Or.inr ⟨by decide, _, _, _, xcl_4, by decide, Or.inl xw_206⟩⟩, rfl⟩
theorem xk_3_74 : xP 3 74 (.iload 6, 76, 6, 0, .null) := ⟨⟨(by decide +kernel : decode cX2_countByTable 74 = .ok (.iload 6, 2)), rfl, rfl⟩, rfl⟩
theorem xk_3_76 : xP 3 76 (.laload, 77, 0, 0, .null) := ⟨⟨(by decide +kernel : decode cX2_countByTable 76 = .ok (.laload, 1)), rfl⟩, rfl⟩
theorem xk_3_77 : xP 3 77 (.ladd, 78, 0, 0, .null) := ⟨⟨(by decide +kernel : decode cX2_countByTable 77 = .ok (.ladd, 1)), rfl⟩, rfl⟩
theorem xk_3_78 : xP 3 78 (.lstore 4, 80, 4, 0, .null) := ⟨⟨(by decide +kernel : decode cX2_countByTable 78 = .ok (.lstore 4, 2)), rfl, rfl⟩, rfl⟩
theorem xk_3_80 : xP 3 80 (.iinc 6 1, 83, 6, 0, .int 1) := ⟨⟨(by decide +kernel : decode cX2_countByTable 80 = .ok (.iinc 6 1, 3)), rfl, rfl, by decide⟩, rfl⟩
theorem xk_3_83 : xP 3 83 (.goto (-21), 86, 62, 0, .null) := ⟨⟨(by decide +kernel : decode cX2_countByTable 83 = .ok (.goto (-21), 3)), by decide⟩, rfl⟩
theorem xk_3_86 : xP 3 86 (.lload 4, 88, 4, 0, .null) := ⟨⟨(by decide +kernel : decode cX2_countByTable 86 = .ok (.lload 4, 2)), rfl, rfl⟩, rfl⟩
theorem xk_3_88 : xP 3 88 (.lreturn, 89, 0, 0, .null) := ⟨⟨⟨(by decide +kernel : decode cX2_countByTable 88 = .ok (.lreturn, 1)), rfl⟩, rfl⟩, rfl⟩
theorem xkM_3 (pc : Nat) : ∀ e, xcM3 pc = some e → xP 3 pc e := by
  unfold xcM3
  exact xt_if (P := xP 3) (xt_if (P := xP 3) (xt_if (P := xP 3) (xt_if (P := xP 3) (xt_if (P := xP 3) (xt_leaf (P := xP 3) xk_3_0) (xt_if (P := xP 3) (xt_leaf (P := xP 3) xk_3_1) (xt_leaf (P := xP 3) xk_3_4))) (xt_if (P := xP 3) (xt_leaf (P := xP 3) xk_3_5) (xt_if (P := xP 3) (xt_leaf (P := xP 3) xk_3_6) (xt_leaf (P := xP 3) xk_3_7)))) (xt_if (P := xP 3) (xt_if (P := xP 3) (xt_leaf (P := xP 3) xk_3_8) (xt_if (P := xP 3) (xt_leaf (P := xP 3) xk_3_10) (xt_leaf (P := xP 3) xk_3_12))) (xt_if (P := xP 3) (xt_leaf (P := xP 3) xk_3_13) (xt_if (P := xP 3) (xt_leaf (P := xP 3) xk_3_16) (xt_leaf (P := xP 3) xk_3_17))))) (xt_if (P := xP 3) (xt_if (P := xP 3) (xt_if (P := xP 3) (xt_leaf (P := xP 3) xk_3_20) (xt_if (P := xP 3) (xt_leaf (P := xP 3) xk_3_22) (xt_leaf (P := xP 3) xk_3_23))) (xt_if (P := xP 3) (xt_leaf (P := xP 3) xk_3_24) (xt_if (P := xP 3) (xt_leaf (P := xP 3) xk_3_27) (xt_leaf (P := xP 3) xk_3_30)))) (xt_if (P := xP 3) (xt_if (P := xP 3) (xt_leaf (P := xP 3) xk_3_31) (xt_if (P := xP 3) (xt_leaf (P := xP 3) xk_3_33) (xt_leaf (P := xP 3) xk_3_35))) (xt_if (P := xP 3) (xt_leaf (P := xP 3) xk_3_36) (xt_if (P := xP 3) (xt_leaf (P := xP 3) xk_3_39) (xt_leaf (P := xP 3) xk_3_40)))))) (xt_if (P := xP 3) (xt_if (P := xP 3) (xt_if (P := xP 3) (xt_if (P := xP 3) (xt_leaf (P := xP 3) xk_3_41) (xt_if (P := xP 3) (xt_leaf (P := xP 3) xk_3_44) (xt_leaf (P := xP 3) xk_3_45))) (xt_if (P := xP 3) (xt_leaf (P := xP 3) xk_3_46) (xt_if (P := xP 3) (xt_leaf (P := xP 3) xk_3_47) (xt_leaf (P := xP 3) xk_3_50)))) (xt_if (P := xP 3) (xt_if (P := xP 3) (xt_leaf (P := xP 3) xk_3_53) (xt_if (P := xP 3) (xt_leaf (P := xP 3) xk_3_56) (xt_leaf (P := xP 3) xk_3_57))) (xt_if (P := xP 3) (xt_leaf (P := xP 3) xk_3_59) (xt_if (P := xP 3) (xt_leaf (P := xP 3) xk_3_60) (xt_leaf (P := xP 3) xk_3_62))))) (xt_if (P := xP 3) (xt_if (P := xP 3) (xt_if (P := xP 3) (xt_leaf (P := xP 3) xk_3_64) (xt_if (P := xP 3) (xt_leaf (P := xP 3) xk_3_65) (xt_leaf (P := xP 3) xk_3_68))) (xt_if (P := xP 3) (xt_leaf (P := xP 3) xk_3_70) (xt_if (P := xP 3) (xt_leaf (P := xP 3) xk_3_71) (xt_leaf (P := xP 3) xk_3_74)))) (xt_if (P := xP 3) (xt_if (P := xP 3) (xt_leaf (P := xP 3) xk_3_76) (xt_if (P := xP 3) (xt_leaf (P := xP 3) xk_3_77) (xt_leaf (P := xP 3) xk_3_78))) (xt_if (P := xP 3) (xt_if (P := xP 3) (xt_leaf (P := xP 3) xk_3_80) (xt_leaf (P := xP 3) xk_3_83)) (xt_if (P := xP 3) (xt_leaf (P := xP 3) xk_3_86) (xt_leaf (P := xP 3) xk_3_88))))))
theorem xk_4_0 : xP 4 0 (.iconst 0, 1, 0, 0, .int 0) := ⟨⟨⟨(by decide +kernel : decode cX2_addCourseToWays 0 = .ok (.iconst 0, 1)), rfl⟩, by decide⟩, rfl⟩
theorem xk_4_1 : xP 4 1 (.istore_n 3, 2, 3, 0, .null) := ⟨⟨⟨(by decide +kernel : decode cX2_addCourseToWays 1 = .ok (.istore_n 3, 1)), rfl⟩, rfl⟩, rfl⟩
theorem xk_4_2 : xP 4 2 (.iload_n 3, 3, 3, 0, .null) := ⟨⟨⟨(by decide +kernel : decode cX2_addCourseToWays 2 = .ok (.iload_n 3, 1)), rfl⟩, rfl⟩, rfl⟩
theorem xk_4_3 : xP 4 3 (.iload_n 2, 4, 2, 0, .null) := ⟨⟨⟨(by decide +kernel : decode cX2_addCourseToWays 3 = .ok (.iload_n 2, 1)), rfl⟩, rfl⟩, rfl⟩
theorem xk_4_4 : xP 4 4 (.if_icmp .ge 60, 7, 64, 0, .null) := ⟨⟨(by decide +kernel : decode cX2_addCourseToWays 4 = .ok (.if_icmp .ge 60, 3)), rfl, by decide⟩, rfl⟩
theorem xk_4_7 : xP 4 7 (.lconst 0, 8, 0, 0, .long 0) := ⟨⟨⟨(by decide +kernel : decode cX2_addCourseToWays 7 = .ok (.lconst 0, 1)), rfl⟩, by decide⟩, rfl⟩
theorem xk_4_8 : xP 4 8 (.lstore 4, 10, 4, 0, .null) := ⟨⟨(by decide +kernel : decode cX2_addCourseToWays 8 = .ok (.lstore 4, 2)), rfl, rfl⟩, rfl⟩
theorem xk_4_10 : xP 4 10 (.iconst 0, 11, 0, 0, .int 0) := ⟨⟨⟨(by decide +kernel : decode cX2_addCourseToWays 10 = .ok (.iconst 0, 1)), rfl⟩, by decide⟩, rfl⟩
theorem xk_4_11 : xP 4 11 (.istore 6, 13, 6, 0, .null) := ⟨⟨(by decide +kernel : decode cX2_addCourseToWays 11 = .ok (.istore 6, 2)), rfl, rfl⟩, rfl⟩
theorem xk_4_13 : xP 4 13 (.iload 6, 15, 6, 0, .null) := ⟨⟨(by decide +kernel : decode cX2_addCourseToWays 13 = .ok (.iload 6, 2)), rfl, rfl⟩, rfl⟩
theorem xk_4_15 : xP 4 15 (.iload_n 2, 16, 2, 0, .null) := ⟨⟨⟨(by decide +kernel : decode cX2_addCourseToWays 15 = .ok (.iload_n 2, 1)), rfl⟩, rfl⟩, rfl⟩
theorem xk_4_16 : xP 4 16 (.if_icmp .ge 34, 19, 50, 0, .null) := ⟨⟨(by decide +kernel : decode cX2_addCourseToWays 16 = .ok (.if_icmp .ge 34, 3)), rfl, by decide⟩, rfl⟩
theorem xk_4_19 : xP 4 19 (.aload_n 1, 20, 1, 0, .null) := ⟨⟨⟨(by decide +kernel : decode cX2_addCourseToWays 19 = .ok (.aload_n 1, 1)), rfl⟩, rfl⟩, rfl⟩
theorem xk_4_20 : xP 4 20 (.iload_n 3, 21, 3, 0, .null) := ⟨⟨⟨(by decide +kernel : decode cX2_addCourseToWays 20 = .ok (.iload_n 3, 1)), rfl⟩, rfl⟩, rfl⟩
theorem xk_4_21 : xP 4 21 (.iaload, 22, 0, 0, .null) := ⟨⟨(by decide +kernel : decode cX2_addCourseToWays 21 = .ok (.iaload, 1)), rfl⟩, rfl⟩
theorem xk_4_22 : xP 4 22 (.aload_n 1, 23, 1, 0, .null) := ⟨⟨⟨(by decide +kernel : decode cX2_addCourseToWays 22 = .ok (.aload_n 1, 1)), rfl⟩, rfl⟩, rfl⟩
theorem xk_4_23 : xP 4 23 (.iload 6, 25, 6, 0, .null) := ⟨⟨(by decide +kernel : decode cX2_addCourseToWays 23 = .ok (.iload 6, 2)), rfl, rfl⟩, rfl⟩
theorem xk_4_25 : xP 4 25 (.iaload, 26, 0, 0, .null) := ⟨⟨(by decide +kernel : decode cX2_addCourseToWays 25 = .ok (.iaload, 1)), rfl⟩, rfl⟩
theorem xk_4_26 : xP 4 26 (.invokestatic 46, 29, 2, 2, .null) := ⟨⟨(by decide +kernel : decode cX2_addCourseToWays 26 = .ok (.invokestatic 46, 3)), rfl, fun h => absurd h (by decide), fun h => absurd h (by decide), fun h => absurd h (by decide), fun _ _ _ => ⟨by decide, xhd_2, xgen_2, xw_585, xw_32, Or.inl xw_584⟩⟩, rfl⟩
theorem xk_4_29 : xP 4 29 (.ifCond .eq 15, 32, 44, 0, .null) := ⟨⟨(by decide +kernel : decode cX2_addCourseToWays 29 = .ok (.ifCond .eq 15, 3)), rfl, by decide⟩, rfl⟩
theorem xk_4_32 : xP 4 32 (.lload 4, 34, 4, 0, .null) := ⟨⟨(by decide +kernel : decode cX2_addCourseToWays 32 = .ok (.lload 4, 2)), rfl, rfl⟩, rfl⟩
theorem xk_4_34 : xP 4 34 (.aload_n 0, 35, 0, 0, .null) := ⟨⟨⟨(by decide +kernel : decode cX2_addCourseToWays 34 = .ok (.aload_n 0, 1)), rfl⟩, rfl⟩, rfl⟩
theorem xk_4_35 : xP 4 35 (.getfield 20, 38, 4, 2, .null) := ⟨⟨(by decide +kernel : decode cX2_addCourseToWays 35 = .ok (.getfield 20, 3)), rfl, Or.inr ⟨by decide, _, _, _, xcl_4, by decide, Or.inl xw_206⟩⟩, rfl⟩
theorem xk_4_38 : xP 4 38 (.iload 6, 40, 6, 0, .null) := ⟨⟨(by decide +kernel : decode cX2_addCourseToWays 38 = .ok (.iload 6, 2)), rfl, rfl⟩, rfl⟩
theorem xk_4_40 : xP 4 40 (.laload, 41, 0, 0, .null) := ⟨⟨(by decide +kernel : decode cX2_addCourseToWays 40 = .ok (.laload, 1)), rfl⟩, rfl⟩
theorem xk_4_41 : xP 4 41 (.ladd, 42, 0, 0, .null) := ⟨⟨(by decide +kernel : decode cX2_addCourseToWays 41 = .ok (.ladd, 1)), rfl⟩, rfl⟩
theorem xk_4_42 : xP 4 42 (.lstore 4, 44, 4, 0, .null) := ⟨⟨(by decide +kernel : decode cX2_addCourseToWays 42 = .ok (.lstore 4, 2)), rfl, rfl⟩, rfl⟩
theorem xk_4_44 : xP 4 44 (.iinc 6 1, 47, 6, 0, .int 1) := ⟨⟨(by decide +kernel : decode cX2_addCourseToWays 44 = .ok (.iinc 6 1, 3)), rfl, rfl, by decide⟩, rfl⟩
theorem xk_4_47 : xP 4 47 (.goto (-34), 50, 13, 0, .null) := ⟨⟨(by decide +kernel : decode cX2_addCourseToWays 47 = .ok (.goto (-34), 3)), by decide⟩, rfl⟩
theorem xk_4_50 : xP 4 50 (.aload_n 0, 51, 0, 0, .null) := ⟨⟨⟨(by decide +kernel : decode cX2_addCourseToWays 50 = .ok (.aload_n 0, 1)), rfl⟩, rfl⟩, rfl⟩
theorem xk_4_51 : xP 4 51 (.getfield 24, 54, 4, 3, .null) := ⟨⟨(by decide +kernel : decode cX2_addCourseToWays 51 = .ok (.getfield 24, 3)), rfl, Or.inr ⟨by decide, _, _, _, xcl_4, by decide, Or.inl xw_207⟩⟩, rfl⟩
theorem xk_4_54 : xP 4 54 (.iload_n 3, 55, 3, 0, .null) := ⟨⟨⟨(by decide +kernel : decode cX2_addCourseToWays 54 = .ok (.iload_n 3, 1)), rfl⟩, rfl⟩, rfl⟩
theorem xk_4_55 : xP 4 55 (.lload 4, 57, 4, 0, .null) := ⟨⟨(by decide +kernel : decode cX2_addCourseToWays 55 = .ok (.lload 4, 2)), rfl, rfl⟩, rfl⟩
theorem xk_4_57 : xP 4 57 (.lastore, 58, 0, 0, .null) := ⟨⟨(by decide +kernel : decode cX2_addCourseToWays 57 = .ok (.lastore, 1)), rfl⟩, rfl⟩
theorem xk_4_58 : xP 4 58 (.iinc 3 1, 61, 3, 0, .int 1) := ⟨⟨(by decide +kernel : decode cX2_addCourseToWays 58 = .ok (.iinc 3 1, 3)), rfl, rfl, by decide⟩, rfl⟩
theorem xk_4_61 : xP 4 61 (.goto (-59), 64, 2, 0, .null) := ⟨⟨(by decide +kernel : decode cX2_addCourseToWays 61 = .ok (.goto (-59), 3)), by decide⟩, rfl⟩
theorem xk_4_64 : xP 4 64 (.aload_n 0, 65, 0, 0, .null) := ⟨⟨⟨(by decide +kernel : decode cX2_addCourseToWays 64 = .ok (.aload_n 0, 1)), rfl⟩, rfl⟩, rfl⟩
theorem xk_4_65 : xP 4 65 (.getfield 20, 68, 4, 2, .null) := ⟨⟨(by decide +kernel : decode cX2_addCourseToWays 65 = .ok (.getfield 20, 3)), rfl, Or.inr ⟨by decide, _, _, _, xcl_4, by decide, Or.inl xw_206⟩⟩, rfl⟩
theorem xk_4_68 : xP 4 68 (.astore_n 3, 69, 3, 0, .null) := ⟨⟨⟨(by decide +kernel : decode cX2_addCourseToWays 68 = .ok (.astore_n 3, 1)), rfl⟩, rfl⟩, rfl⟩
theorem xk_4_69 : xP 4 69 (.aload_n 0, 70, 0, 0, .null) := ⟨⟨⟨(by decide +kernel : decode cX2_addCourseToWays 69 = .ok (.aload_n 0, 1)), rfl⟩, rfl⟩, rfl⟩
theorem xk_4_70 : xP 4 70 (.aload_n 0, 71, 0, 0, .null) := ⟨⟨⟨(by decide +kernel : decode cX2_addCourseToWays 70 = .ok (.aload_n 0, 1)), rfl⟩, rfl⟩, rfl⟩
theorem xk_4_71 : xP 4 71 (.getfield 24, 74, 4, 3, .null) := ⟨⟨(by decide +kernel : decode cX2_addCourseToWays 71 = .ok (.getfield 24, 3)), rfl, Or.inr ⟨by decide, _, _, _, xcl_4, by decide, Or.inl xw_207⟩⟩, rfl⟩
theorem xk_4_74 : xP 4 74 (.putfield 20, 77, 4, 2, .null) := ⟨⟨(by decide +kernel : decode cX2_addCourseToWays 74 = .ok (.putfield 20, 3)), rfl, _, _, _, xcl_4, by decide, Or.inl ⟨rfl, Or.inl xw_206⟩⟩, rfl⟩
theorem xk_4_77 : xP 4 77 (.aload_n 0, 78, 0, 0, .null) := ⟨⟨⟨(by decide +kernel : decode cX2_addCourseToWays 77 = .ok (.aload_n 0, 1)), rfl⟩, rfl⟩, rfl⟩
theorem xk_4_78 : xP 4 78 (.aload_n 3, 79, 3, 0, .null) := ⟨⟨⟨(by decide +kernel : decode cX2_addCourseToWays 78 = .ok (.aload_n 3, 1)), rfl⟩, rfl⟩, rfl⟩
theorem xk_4_79 : xP 4 79 (.putfield 24, 82, 4, 3, .null) := ⟨⟨(by decide +kernel : decode cX2_addCourseToWays 79 = .ok (.putfield 24, 3)), rfl, _, _, _, xcl_4, by decide, Or.inl ⟨rfl, Or.inl xw_207⟩⟩, rfl⟩
theorem xk_4_82 : xP 4 82 (.return_, 83, 0, 0, .null) := ⟨⟨(by decide +kernel : decode cX2_addCourseToWays 82 = .ok (.return_, 1)), rfl⟩, rfl⟩
theorem xkM_4 (pc : Nat) : ∀ e, xcM4 pc = some e → xP 4 pc e := by
  unfold xcM4
  exact xt_if (P := xP 4) (xt_if (P := xP 4) (xt_if (P := xP 4) (xt_if (P := xP 4) (xt_if (P := xP 4) (xt_leaf (P := xP 4) xk_4_0) (xt_leaf (P := xP 4) xk_4_1)) (xt_if (P := xP 4) (xt_leaf (P := xP 4) xk_4_2) (xt_if (P := xP 4) (xt_leaf (P := xP 4) xk_4_3) (xt_leaf (P := xP 4) xk_4_4)))) (xt_if (P := xP 4) (xt_if (P := xP 4) (xt_leaf (P := xP 4) xk_4_7) (xt_if (P := xP 4) (xt_leaf (P := xP 4) xk_4_8) (xt_leaf (P := xP 4) xk_4_10))) (xt_if (P := xP 4) (xt_leaf (P := xP 4) xk_4_11) (xt_if (P := xP 4) (xt_leaf (P := xP 4) xk_4_13) (xt_leaf (P := xP 4) xk_4_15))))) (xt_if (P := xP 4) (xt_if (P := xP 4) (xt_if (P := xP 4) (xt_leaf (P := xP 4) xk_4_16) (xt_if (P := xP 4) (xt_leaf (P := xP 4) xk_4_19) (xt_leaf (P := xP 4) xk_4_20))) (xt_if (P := xP 4) (xt_leaf (P := xP 4) xk_4_21) (xt_if (P := xP 4) (xt_leaf (P := xP 4) xk_4_22) (xt_leaf (P := xP 4) xk_4_23)))) (xt_if (P := xP 4) (xt_if (P := xP 4) (xt_leaf (P := xP 4) xk_4_25) (xt_if (P := xP 4) (xt_leaf (P := xP 4) xk_4_26) (xt_leaf (P := xP 4) xk_4_29))) (xt_if (P := xP 4) (xt_leaf (P := xP 4) xk_4_32) (xt_if (P := xP 4) (xt_leaf (P := xP 4) xk_4_34) (xt_leaf (P := xP 4) xk_4_35)))))) (xt_if (P := xP 4) (xt_if (P := xP 4) (xt_if (P := xP 4) (xt_if (P := xP 4) (xt_leaf (P := xP 4) xk_4_38) (xt_if (P := xP 4) (xt_leaf (P := xP 4) xk_4_40) (xt_leaf (P := xP 4) xk_4_41))) (xt_if (P := xP 4) (xt_leaf (P := xP 4) xk_4_42) (xt_if (P := xP 4) (xt_leaf (P := xP 4) xk_4_44) (xt_leaf (P := xP 4) xk_4_47)))) (xt_if (P := xP 4) (xt_if (P := xP 4) (xt_leaf (P := xP 4) xk_4_50) (xt_if (P := xP 4) (xt_leaf (P := xP 4) xk_4_51) (xt_leaf (P := xP 4) xk_4_54))) (xt_if (P := xP 4) (xt_leaf (P := xP 4) xk_4_55) (xt_if (P := xP 4) (xt_leaf (P := xP 4) xk_4_57) (xt_leaf (P := xP 4) xk_4_58))))) (xt_if (P := xP 4) (xt_if (P := xP 4) (xt_if (P := xP 4) (xt_leaf (P := xP 4) xk_4_61) (xt_if (P := xP 4) (xt_leaf (P := xP 4) xk_4_64) (xt_leaf (P := xP 4) xk_4_65))) (xt_if (P := xP 4) (xt_leaf (P := xP 4) xk_4_68) (xt_if (P := xP 4) (xt_leaf (P := xP 4) xk_4_69) (xt_leaf (P := xP 4) xk_4_70)))) (xt_if (P := xP 4) (xt_if (P := xP 4) (xt_leaf (P := xP 4) xk_4_71) (xt_if (P := xP 4) (xt_leaf (P := xP 4) xk_4_74) (xt_leaf (P := xP 4) xk_4_77))) (xt_if (P := xP 4) (xt_leaf (P := xP 4) xk_4_78) (xt_if (P := xP 4) (xt_leaf (P := xP 4) xk_4_79) (xt_leaf (P := xP 4) xk_4_82))))))
theorem xk_5_0 : xP 5 0 (.aload_n 0, 1, 0, 0, .null) := ⟨⟨⟨(by decide +kernel : decode cX2_countByMemory 0 = .ok (.aload_n 0, 1)), rfl⟩, rfl⟩, rfl⟩
theorem xk_5_1 : xP 5 1 (.getfield 16, 4, 4, 1, .null) := ⟨⟨(by decide +kernel : decode cX2_countByMemory 1 = .ok (.getfield 16, 3)), rfl, Or.inr ⟨by decide, _, _, _, xcl_4, by decide, Or.inl xw_204⟩⟩, rfl⟩
theorem xk_5_4 : xP 5 4 (.iload_n 1, 5, 1, 0, .null) := ⟨⟨⟨(by decide +kernel : decode cX2_countByMemory 4 = .ok (.iload_n 1, 1)), rfl⟩, rfl⟩, rfl⟩
theorem xk_5_5 : xP 5 5 (.iaload, 6, 0, 0, .null) := ⟨⟨(by decide +kernel : decode cX2_countByMemory 5 = .ok (.iaload, 1)), rfl⟩, rfl⟩
theorem xk_5_6 : xP 5 6 (.istore_n 3, 7, 3, 0, .null) := ⟨⟨⟨(by decide +kernel : decode cX2_countByMemory 6 = .ok (.istore_n 3, 1)), rfl⟩, rfl⟩, rfl⟩
theorem xk_5_7 : xP 5 7 (.iconst 1, 8, 0, 0, .int 1) := ⟨⟨⟨(by decide +kernel : decode cX2_countByMemory 7 = .ok (.iconst 1, 1)), rfl⟩, by decide⟩, rfl⟩
theorem xk_5_8 : xP 5 8 (.istore 4, 10, 4, 0, .null) := ⟨⟨(by decide +kernel : decode cX2_countByMemory 8 = .ok (.istore 4, 2)), rfl, rfl⟩, rfl⟩
theorem xk_5_10 : xP 5 10 (.iload 4, 12, 4, 0, .null) := ⟨⟨(by decide +kernel : decode cX2_countByMemory 10 = .ok (.iload 4, 2)), rfl, rfl⟩, rfl⟩
theorem xk_5_12 : xP 5 12 (.iload_n 2, 13, 2, 0, .null) := ⟨⟨⟨(by decide +kernel : decode cX2_countByMemory 12 = .ok (.iload_n 2, 1)), rfl⟩, rfl⟩, rfl⟩
theorem xk_5_13 : xP 5 13 (.if_icmp .ge 37, 16, 50, 0, .null) := ⟨⟨(by decide +kernel : decode cX2_countByMemory 13 = .ok (.if_icmp .ge 37, 3)), rfl, by decide⟩, rfl⟩
theorem xk_5_16 : xP 5 16 (.iconst 0, 17, 0, 0, .int 0) := ⟨⟨⟨(by decide +kernel : decode cX2_countByMemory 16 = .ok (.iconst 0, 1)), rfl⟩, by decide⟩, rfl⟩
theorem xk_5_17 : xP 5 17 (.istore 5, 19, 5, 0, .null) := ⟨⟨(by decide +kernel : decode cX2_countByMemory 17 = .ok (.istore 5, 2)), rfl, rfl⟩, rfl⟩
theorem xk_5_19 : xP 5 19 (.iload 5, 21, 5, 0, .null) := ⟨⟨(by decide +kernel : decode cX2_countByMemory 19 = .ok (.iload 5, 2)), rfl, rfl⟩, rfl⟩
theorem xk_5_21 : xP 5 21 (.iload_n 3, 22, 3, 0, .null) := ⟨⟨⟨(by decide +kernel : decode cX2_countByMemory 21 = .ok (.iload_n 3, 1)), rfl⟩, rfl⟩, rfl⟩
theorem xk_5_22 : xP 5 22 (.if_icmp .ge 22, 25, 44, 0, .null) := ⟨⟨(by decide +kernel : decode cX2_countByMemory 22 = .ok (.if_icmp .ge 22, 3)), rfl, by decide⟩, rfl⟩
theorem xk_5_25 : xP 5 25 (.aload_n 0, 26, 0, 0, .null) := ⟨⟨⟨(by decide +kernel : decode cX2_countByMemory 25 = .ok (.aload_n 0, 1)), rfl⟩, rfl⟩, rfl⟩
theorem xk_5_26 : xP 5 26 (.getfield 35, 29, 4, 6, .null) := ⟨⟨(by decide +kernel : decode cX2_countByMemory 26 = .ok (.getfield 35, 3)), rfl, Or.inr ⟨by decide, _, _, _, xcl_4, by decide, Or.inl xw_210⟩⟩, rfl⟩
theorem xk_5_29 : xP 5 29 (.iload 4, 31, 4, 0, .null) := ⟨⟨(by decide +kernel : decode cX2_countByMemory 29 = .ok (.iload 4, 2)), rfl, rfl⟩, rfl⟩
theorem xk_5_31 : xP 5 31 (.aaload, 32, 0, 0, .null) := ⟨⟨(by decide +kernel : decode cX2_countByMemory 31 = .ok (.aaload, 1)), rfl⟩, rfl⟩
theorem xk_5_32 : xP 5 32 (.iload 5, 34, 5, 0, .null) := ⟨⟨(by decide +kernel : decode cX2_countByMemory 32 = .ok (.iload 5, 2)), rfl, rfl⟩, rfl⟩
theorem xk_5_34 : xP 5 34 (.ldc2_w 50, 37, 0, 0, .long (-1)) := ⟨⟨(by decide +kernel : decode cX2_countByMemory 34 = .ok (.ldc2_w 50, 3)), rfl, Or.inl ⟨_, rfl, xw_1030⟩⟩, rfl⟩
theorem xk_5_37 : xP 5 37 (.lastore, 38, 0, 0, .null) := ⟨⟨(by decide +kernel : decode cX2_countByMemory 37 = .ok (.lastore, 1)), rfl⟩, rfl⟩
theorem xk_5_38 : xP 5 38 (.iinc 5 1, 41, 5, 0, .int 1) := ⟨⟨(by decide +kernel : decode cX2_countByMemory 38 = .ok (.iinc 5 1, 3)), rfl, rfl, by decide⟩, rfl⟩
theorem xk_5_41 : xP 5 41 (.goto (-22), 44, 19, 0, .null) := ⟨⟨(by decide +kernel : decode cX2_countByMemory 41 = .ok (.goto (-22), 3)), by decide⟩, rfl⟩
theorem xk_5_44 : xP 5 44 (.iinc 4 1, 47, 4, 0, .int 1) := ⟨⟨(by decide +kernel : decode cX2_countByMemory 44 = .ok (.iinc 4 1, 3)), rfl, rfl, by decide⟩, rfl⟩
theorem xk_5_47 : xP 5 47 (.goto (-37), 50, 10, 0, .null) := ⟨⟨(by decide +kernel : decode cX2_countByMemory 47 = .ok (.goto (-37), 3)), by decide⟩, rfl⟩
theorem xk_5_50 : xP 5 50 (.lconst 0, 51, 0, 0, .long 0) := ⟨⟨⟨(by decide +kernel : decode cX2_countByMemory 50 = .ok (.lconst 0, 1)), rfl⟩, by decide⟩, rfl⟩
theorem xk_5_51 : xP 5 51 (.lstore 4, 53, 4, 0, .null) := ⟨⟨(by decide +kernel : decode cX2_countByMemory 51 = .ok (.lstore 4, 2)), rfl, rfl⟩, rfl⟩
theorem xk_5_53 : xP 5 53 (.iconst 0, 54, 0, 0, .int 0) := ⟨⟨⟨(by decide +kernel : decode cX2_countByMemory 53 = .ok (.iconst 0, 1)), rfl⟩, by decide⟩, rfl⟩
theorem xk_5_54 : xP 5 54 (.istore 6, 56, 6, 0, .null) := ⟨⟨(by decide +kernel : decode cX2_countByMemory 54 = .ok (.istore 6, 2)), rfl, rfl⟩, rfl⟩
theorem xk_5_56 : xP 5 56 (.iload 6, 58, 6, 0, .null) := ⟨⟨(by decide +kernel : decode cX2_countByMemory 56 = .ok (.iload 6, 2)), rfl, rfl⟩, rfl⟩
theorem xk_5_58 : xP 5 58 (.iload_n 3, 59, 3, 0, .null) := ⟨⟨⟨(by decide +kernel : decode cX2_countByMemory 58 = .ok (.iload_n 3, 1)), rfl⟩, rfl⟩, rfl⟩
theorem xk_5_59 : xP 5 59 (.if_icmp .ge 33, 62, 92, 0, .null) := ⟨⟨(by decide +kernel : decode cX2_countByMemory 59 = .ok (.if_icmp .ge 33, 3)), rfl, by decide⟩, rfl⟩
theorem xk_5_62 : xP 5 62 (.lload 4, 64, 4, 0, .null) := ⟨⟨(by decide +kernel : decode cX2_countByMemory 62 = .ok (.lload 4, 2)), rfl, rfl⟩, rfl⟩
theorem xk_5_64 : xP 5 64 (.aload_n 0, 65, 0, 0, .null) := ⟨⟨⟨(by decide +kernel : decode cX2_countByMemory 64 = .ok (.aload_n 0, 1)), rfl⟩, rfl⟩, rfl⟩
theorem xk_5_65 : xP 5 65 (.getfield 13, 68, 4, 0, .null) := ⟨⟨(by decide +kernel : decode cX2_countByMemory 65 = .ok (.getfield 13, 3)), rfl, Or.inr ⟨by decide, _, _, _, xcl_4, by decide, Or.inl xw_203⟩⟩, rfl⟩
theorem xk_5_68 : xP 5 68 (.iload_n 1, 69, 1, 0, .null) := ⟨⟨⟨(by decide +kernel : decode cX2_countByMemory 68 = .ok (.iload_n 1, 1)), rfl⟩, rfl⟩, rfl⟩
theorem xk_5_69 : xP 5 69 (.aaload, 70, 0, 0, .null) := ⟨⟨(by decide +kernel : decode cX2_countByMemory 69 = .ok (.aaload, 1)), rfl⟩, rfl⟩
theorem xk_5_70 : xP 5 70 (.iload_n 3, 71, 3, 0, .null) := ⟨⟨⟨(by decide +kernel : decode cX2_countByMemory 70 = .ok (.iload_n 3, 1)), rfl⟩, rfl⟩, rfl⟩
theorem xk_5_71 : xP 5 71 (.iload 6, 73, 6, 0, .null) := ⟨⟨(by decide +kernel : decode cX2_countByMemory 71 = .ok (.iload 6, 2)), rfl, rfl⟩, rfl⟩
theorem xk_5_73 : xP 5 73 (.iload_n 2, 74, 2, 0, .null) := ⟨⟨⟨(by decide +kernel : decode cX2_countByMemory 73 = .ok (.iload_n 2, 1)), rfl⟩, rfl⟩, rfl⟩
theorem xk_5_74 : xP 5 74 (.iconst 1, 75, 0, 0, .int 1) := ⟨⟨⟨(by decide +kernel : decode cX2_countByMemory 74 = .ok (.iconst 1, 1)), rfl⟩, by decide⟩, rfl⟩
theorem xk_5_75 : xP 5 75 (.isub, 76, 0, 0, .null) := ⟨⟨(by decide +kernel : decode cX2_countByMemory 75 = .ok (.isub, 1)), rfl⟩, rfl⟩
theorem xk_5_76 : xP 5 76 (.aload_n 0, 77, 0, 0, .null) := ⟨⟨⟨(by decide +kernel : decode cX2_countByMemory 76 = .ok (.aload_n 0, 1)), rfl⟩, rfl⟩, rfl⟩
theorem xk_5_77 : xP 5 77 (.getfield 35, 80, 4, 6, .null) := ⟨⟨(by decide +kernel : decode cX2_countByMemory 77 = .ok (.getfield 35, 3)), rfl, Or.inr ⟨by decide, _, _, _, xcl_4, by decide, Or.inl xw_210⟩⟩, rfl⟩
theorem xk_5_80 : xP 5 80 (.invokestatic 52, 83, 6, 5, .null) := ⟨⟨(by decide +kernel : decode cX2_countByMemory 80 = .ok (.invokestatic 52, 3)), rfl, fun h => absurd h (by decide), fun h => absurd h (by decide), fun h => absurd h (by decide), fun _ _ _ => ⟨by decide, xhd_6, xgen_6, xw_1032, xw_32, Or.inl xw_1031⟩⟩, rfl⟩
theorem xk_5_83 : xP 5 83 (.ladd, 84, 0, 0, .null) := ⟨⟨(by decide +kernel : decode cX2_countByMemory 83 = .ok (.ladd, 1)), rfl⟩, rfl⟩
theorem xk_5_84 : xP 5 84 (.lstore 4, 86, 4, 0, .null) := ⟨⟨(by decide +kernel : decode cX2_countByMemory 84 = .ok (.lstore 4, 2)), rfl, rfl⟩, rfl⟩
theorem xk_5_86 : xP 5 86 (.iinc 6 1, 89, 6, 0, .int 1) := ⟨⟨(by decide +kernel : decode cX2_countByMemory 86 = .ok (.iinc 6 1, 3)), rfl, rfl, by decide⟩, rfl⟩
theorem xk_5_89 : xP 5 89 (.goto (-33), 92, 56, 0, .null) := ⟨⟨(by decide +kernel : decode cX2_countByMemory 89 = .ok (.goto (-33), 3)), by decide⟩, rfl⟩
theorem xk_5_92 : xP 5 92 (.lload 4, 94, 4, 0, .null) := ⟨⟨(by decide +kernel : decode cX2_countByMemory 92 = .ok (.lload 4, 2)), rfl, rfl⟩, rfl⟩
theorem xk_5_94 : xP 5 94 (.lreturn, 95, 0, 0, .null) := ⟨⟨⟨(by decide +kernel : decode cX2_countByMemory 94 = .ok (.lreturn, 1)), rfl⟩, rfl⟩, rfl⟩
theorem xkM_5 (pc : Nat) : ∀ e, xcM5 pc = some e → xP 5 pc e := by
  unfold xcM5
  exact xt_if (P := xP 5) (xt_if (P := xP 5) (xt_if (P := xP 5) (xt_if (P := xP 5) (xt_if (P := xP 5) (xt_leaf (P := xP 5) xk_5_0) (xt_if (P := xP 5) (xt_leaf (P := xP 5) xk_5_1) (xt_leaf (P := xP 5) xk_5_4))) (xt_if (P := xP 5) (xt_leaf (P := xP 5) xk_5_5) (xt_if (P := xP 5) (xt_leaf (P := xP 5) xk_5_6) (xt_leaf (P := xP 5) xk_5_7)))) (xt_if (P := xP 5) (xt_if (P := xP 5) (xt_leaf (P := xP 5) xk_5_8) (xt_if (P := xP 5) (xt_leaf (P := xP 5) xk_5_10) (xt_leaf (P := xP 5) xk_5_12))) (xt_if (P := xP 5) (xt_if (P := xP 5) (xt_leaf (P := xP 5) xk_5_13) (xt_leaf (P := xP 5) xk_5_16)) (xt_if (P := xP 5) (xt_leaf (P := xP 5) xk_5_17) (xt_leaf (P := xP 5) xk_5_19))))) (xt_if (P := xP 5) (xt_if (P := xP 5) (xt_if (P := xP 5) (xt_leaf (P := xP 5) xk_5_21) (xt_if (P := xP 5) (xt_leaf (P := xP 5) xk_5_22) (xt_leaf (P := xP 5) xk_5_25))) (xt_if (P := xP 5) (xt_leaf (P := xP 5) xk_5_26) (xt_if (P := xP 5) (xt_leaf (P := xP 5) xk_5_29) (xt_leaf (P := xP 5) xk_5_31)))) (xt_if (P := xP 5) (xt_if (P := xP 5) (xt_leaf (P := xP 5) xk_5_32) (xt_if (P := xP 5) (xt_leaf (P := xP 5) xk_5_34) (xt_leaf (P := xP 5) xk_5_37))) (xt_if (P := xP 5) (xt_if (P := xP 5) (xt_leaf (P := xP 5) xk_5_38) (xt_leaf (P := xP 5) xk_5_41)) (xt_if (P := xP 5) (xt_leaf (P := xP 5) xk_5_44) (xt_leaf (P := xP 5) xk_5_47)))))) (xt_if (P := xP 5) (xt_if (P := xP 5) (xt_if (P := xP 5) (xt_if (P := xP 5) (xt_leaf (P := xP 5) xk_5_50) (xt_if (P := xP 5) (xt_leaf (P := xP 5) xk_5_51) (xt_leaf (P := xP 5) xk_5_53))) (xt_if (P := xP 5) (xt_leaf (P := xP 5) xk_5_54) (xt_if (P := xP 5) (xt_leaf (P := xP 5) xk_5_56) (xt_leaf (P := xP 5) xk_5_58)))) (xt_if (P := xP 5) (xt_if (P := xP 5) (xt_leaf (P := xP 5) xk_5_59) (xt_if (P := xP 5) (xt_leaf (P := xP 5) xk_5_62) (xt_leaf (P := xP 5) xk_5_64))) (xt_if (P := xP 5) (xt_if (P := xP 5) (xt_leaf (P := xP 5) xk_5_65) (xt_leaf (P := xP 5) xk_5_68)) (xt_if (P := xP 5) (xt_leaf (P := xP 5) xk_5_69) (xt_leaf (P := xP 5) xk_5_70))))) (xt_if (P := xP 5) (xt_if (P := xP 5) (xt_if (P := xP 5) (xt_leaf (P := xP 5) xk_5_71) (xt_if (P := xP 5) (xt_leaf (P := xP 5) xk_5_73) (xt_leaf (P := xP 5) xk_5_74))) (xt_if (P := xP 5) (xt_leaf (P := xP 5) xk_5_75) (xt_if (P := xP 5) (xt_leaf (P := xP 5) xk_5_76) (xt_leaf (P := xP 5) xk_5_77)))) (xt_if (P := xP 5) (xt_if (P := xP 5) (xt_leaf (P := xP 5) xk_5_80) (xt_if (P := xP 5) (xt_leaf (P := xP 5) xk_5_83) (xt_leaf (P := xP 5) xk_5_84))) (xt_if (P := xP 5) (xt_if (P := xP 5) (xt_leaf (P := xP 5) xk_5_86) (xt_leaf (P := xP 5) xk_5_89)) (xt_if (P := xP 5) (xt_leaf (P := xP 5) xk_5_92) (xt_leaf (P := xP 5) xk_5_94))))))
theorem xk_6_0 : xP 6 0 (.iload_n 3, 1, 3, 0, .null) := ⟨⟨⟨(by decide +kernel : decode cX2_countAbove 0 = .ok (.iload_n 3, 1)), rfl⟩, rfl⟩, rfl⟩
theorem xk_6_1 : xP 6 1 (.ifCond .le 9, 4, 10, 0, .null) := ⟨⟨(by decide +kernel : decode cX2_countAbove 1 = .ok (.ifCond .le 9, 3)), rfl, by decide⟩, rfl⟩
theorem xk_6_4 : xP 6 4 (.iload_n 3, 5, 3, 0, .null) := ⟨⟨⟨(by decide +kernel : decode cX2_countAbove 4 = .ok (.iload_n 3, 1)), rfl⟩, rfl⟩, rfl⟩
theorem xk_6_5 : xP 6 5 (.bipush 8, 7, 0, 0, .int 8) := ⟨⟨(by decide +kernel : decode cX2_countAbove 5 = .ok (.bipush 8, 2)), rfl, by decide⟩, rfl⟩
theorem xk_6_7 : xP 6 7 (.if_icmp .lt 5, 10, 12, 0, .null) := ⟨⟨(by decide +kernel : decode cX2_countAbove 7 = .ok (.if_icmp .lt 5, 3)), rfl, by decide⟩, rfl⟩
theorem xk_6_10 : xP 6 10 (.lconst 1, 11, 0, 0, .long 1) := ⟨⟨⟨(by decide +kernel : decode cX2_countAbove 10 = .ok (.lconst 1, 1)), rfl⟩, by decide⟩, rfl⟩
theorem xk_6_11 : xP 6 11 (.lreturn, 12, 0, 0, .null) := ⟨⟨⟨(by decide +kernel : decode cX2_countAbove 11 = .ok (.lreturn, 1)), rfl⟩, rfl⟩, rfl⟩
theorem xk_6_12 : xP 6 12 (.aload 4, 14, 4, 0, .null) := ⟨⟨(by decide +kernel : decode cX2_countAbove 12 = .ok (.aload 4, 2)), rfl, rfl⟩, rfl⟩
theorem xk_6_14 : xP 6 14 (.iload_n 3, 15, 3, 0, .null) := ⟨⟨⟨(by decide +kernel : decode cX2_countAbove 14 = .ok (.iload_n 3, 1)), rfl⟩, rfl⟩, rfl⟩
theorem xk_6_15 : xP 6 15 (.aaload, 16, 0, 0, .null) := ⟨⟨(by decide +kernel : decode cX2_countAbove 15 = .ok (.aaload, 1)), rfl⟩, rfl⟩
theorem xk_6_16 : xP 6 16 (.iload_n 2, 17, 2, 0, .null) := ⟨⟨⟨(by decide +kernel : decode cX2_countAbove 16 = .ok (.iload_n 2, 1)), rfl⟩, rfl⟩, rfl⟩
theorem xk_6_17 : xP 6 17 (.laload, 18, 0, 0, .null) := ⟨⟨(by decide +kernel : decode cX2_countAbove 17 = .ok (.laload, 1)), rfl⟩, rfl⟩
theorem xk_6_18 : xP 6 18 (.ldc2_w 50, 21, 0, 0, .long (-1)) := ⟨⟨(by decide +kernel : decode cX2_countAbove 18 = .ok (.ldc2_w 50, 3)), rfl, Or.inl ⟨_, rfl, xw_1030⟩⟩, rfl⟩
theorem xk_6_21 : xP 6 21 (.lcmp, 22, 0, 0, .null) := ⟨⟨(by decide +kernel : decode cX2_countAbove 21 = .ok (.lcmp, 1)), rfl⟩, rfl⟩
theorem xk_6_22 : xP 6 22 (.ifCond .ne 59, 25, 81, 0, .null) := ⟨⟨(by decide +kernel : decode cX2_countAbove 22 = .ok (.ifCond .ne 59, 3)), rfl, by decide⟩, rfl⟩
theorem xk_6_25 : xP 6 25 (.lconst 0, 26, 0, 0, .long 0) := ⟨⟨⟨(by decide +kernel : decode cX2_countAbove 25 = .ok (.lconst 0, 1)), rfl⟩, by decide⟩, rfl⟩
theorem xk_6_26 : xP 6 26 (.lstore 5, 28, 5, 0, .null) := ⟨⟨(by decide +kernel : decode cX2_countAbove 26 = .ok (.lstore 5, 2)), rfl, rfl⟩, rfl⟩
theorem xk_6_28 : xP 6 28 (.iconst 0, 29, 0, 0, .int 0) := ⟨⟨⟨(by decide +kernel : decode cX2_countAbove 28 = .ok (.iconst 0, 1)), rfl⟩, by decide⟩, rfl⟩
theorem xk_6_29 : xP 6 29 (.istore 7, 31, 7, 0, .null) := ⟨⟨(by decide +kernel : decode cX2_countAbove 29 = .ok (.istore 7, 2)), rfl, rfl⟩, rfl⟩
theorem xk_6_31 : xP 6 31 (.iload 7, 33, 7, 0, .null) := ⟨⟨(by decide +kernel : decode cX2_countAbove 31 = .ok (.iload 7, 2)), rfl, rfl⟩, rfl⟩
theorem xk_6_33 : xP 6 33 (.iload_n 1, 34, 1, 0, .null) := ⟨⟨⟨(by decide +kernel : decode cX2_countAbove 33 = .ok (.iload_n 1, 1)), rfl⟩, rfl⟩, rfl⟩
theorem xk_6_34 : xP 6 34 (.if_icmp .ge 39, 37, 73, 0, .null) := ⟨⟨(by decide +kernel : decode cX2_countAbove 34 = .ok (.if_icmp .ge 39, 3)), rfl, by decide⟩, rfl⟩
theorem xk_6_37 : xP 6 37 (.aload_n 0, 38, 0, 0, .null) := ⟨⟨⟨(by decide +kernel : decode cX2_countAbove 37 = .ok (.aload_n 0, 1)), rfl⟩, rfl⟩, rfl⟩
theorem xk_6_38 : xP 6 38 (.iload 7, 40, 7, 0, .null) := ⟨⟨(by decide +kernel : decode cX2_countAbove 38 = .ok (.iload 7, 2)), rfl, rfl⟩, rfl⟩
theorem xk_6_40 : xP 6 40 (.iaload, 41, 0, 0, .null) := ⟨⟨(by decide +kernel : decode cX2_countAbove 40 = .ok (.iaload, 1)), rfl⟩, rfl⟩
theorem xk_6_41 : xP 6 41 (.aload_n 0, 42, 0, 0, .null) := ⟨⟨⟨(by decide +kernel : decode cX2_countAbove 41 = .ok (.aload_n 0, 1)), rfl⟩, rfl⟩, rfl⟩
theorem xk_6_42 : xP 6 42 (.iload_n 2, 43, 2, 0, .null) := ⟨⟨⟨(by decide +kernel : decode cX2_countAbove 42 = .ok (.iload_n 2, 1)), rfl⟩, rfl⟩, rfl⟩
theorem xk_6_43 : xP 6 43 (.iaload, 44, 0, 0, .null) := ⟨⟨(by decide +kernel : decode cX2_countAbove 43 = .ok (.iaload, 1)), rfl⟩, rfl⟩
theorem xk_6_44 : xP 6 44 (.invokestatic 46, 47, 2, 2, .null) := ⟨⟨(by decide +kernel : decode cX2_countAbove 44 = .ok (.invokestatic 46, 3)), rfl, fun h => absurd h (by decide), fun h => absurd h (by decide), fun h => absurd h (by decide), fun _ _ _ => ⟨by decide, xhd_2, xgen_2, xw_585, xw_32, Or.inl xw_584⟩⟩, rfl⟩
theorem xk_6_47 : xP 6 47 (.ifCond .eq 20, 50, 67, 0, .null) := ⟨⟨(by decide +kernel : decode cX2_countAbove 47 = .ok (.ifCond .eq 20, 3)), rfl, by decide⟩, rfl⟩
theorem xk_6_50 : xP 6 50 (.lload 5, 52, 5, 0, .null) := ⟨⟨(by decide +kernel : decode cX2_countAbove 50 = .ok (.lload 5, 2)), rfl, rfl⟩, rfl⟩
theorem xk_6_52 : xP 6 52 (.aload_n 0, 53, 0, 0, .null) := ⟨⟨⟨(by decide +kernel : decode cX2_countAbove 52 = .ok (.aload_n 0, 1)), rfl⟩, rfl⟩, rfl⟩
theorem xk_6_53 : xP 6 53 (.iload_n 1, 54, 1, 0, .null) := ⟨⟨⟨(by decide +kernel : decode cX2_countAbove 53 = .ok (.iload_n 1, 1)), rfl⟩, rfl⟩, rfl⟩
theorem xk_6_54 : xP 6 54 (.iload 7, 56, 7, 0, .null) := ⟨⟨(by decide +kernel : decode cX2_countAbove 54 = .ok (.iload 7, 2)), rfl, rfl⟩, rfl⟩
theorem xk_6_56 : xP 6 56 (.iload_n 3, 57, 3, 0, .null) := ⟨⟨⟨(by decide +kernel : decode cX2_countAbove 56 = .ok (.iload_n 3, 1)), rfl⟩, rfl⟩, rfl⟩
theorem xk_6_57 : xP 6 57 (.iconst 1, 58, 0, 0, .int 1) := ⟨⟨⟨(by decide +kernel : decode cX2_countAbove 57 = .ok (.iconst 1, 1)), rfl⟩, by decide⟩, rfl⟩
theorem xk_6_58 : xP 6 58 (.isub, 59, 0, 0, .null) := ⟨⟨(by decide +kernel : decode cX2_countAbove 58 = .ok (.isub, 1)), rfl⟩, rfl⟩
theorem xk_6_59 : xP 6 59 (.aload 4, 61, 4, 0, .null) := ⟨⟨(by decide +kernel : decode cX2_countAbove 59 = .ok (.aload 4, 2)), rfl, rfl⟩, rfl⟩
theorem xk_6_61 : xP 6 61 (.invokestatic 52, 64, 6, 5, .null) := ⟨⟨(by decide +kernel : decode cX2_countAbove 61 = .ok (.invokestatic 52, 3)), rfl, fun h => absurd h (by decide), fun h => absurd h (by decide), fun h => absurd h (by decide), fun _ _ _ => ⟨by decide, xhd_6, xgen_6, xw_1032, xw_32, Or.inl xw_1031⟩⟩, rfl⟩
theorem xk_6_64 : xP 6 64 (.ladd, 65, 0, 0, .null) := ⟨⟨(by decide +kernel : decode cX2_countAbove 64 = .ok (.ladd, 1)), rfl⟩, rfl⟩
theorem xk_6_65 : xP 6 65 (.lstore 5, 67, 5, 0, .null) := ⟨⟨(by decide +kernel : decode cX2_countAbove 65 = .ok (.lstore 5, 2)), rfl, rfl⟩, rfl⟩
theorem xk_6_67 : xP 6 67 (.iinc 7 1, 70, 7, 0, .int 1) := ⟨⟨(by decide +kernel : decode cX2_countAbove 67 = .ok (.iinc 7 1, 3)), rfl, rfl, by decide⟩, rfl⟩
theorem xk_6_70 : xP 6 70 (.goto (-39), 73, 31, 0, .null) := ⟨⟨(by decide +kernel : decode cX2_countAbove 70 = .ok (.goto (-39), 3)), by decide⟩, rfl⟩
theorem xk_6_73 : xP 6 73 (.aload 4, 75, 4, 0, .null) := ⟨⟨(by decide +kernel : decode cX2_countAbove 73 = .ok (.aload 4, 2)), rfl, rfl⟩, rfl⟩
theorem xk_6_75 : xP 6 75 (.iload_n 3, 76, 3, 0, .null) := ⟨⟨⟨(by decide +kernel : decode cX2_countAbove 75 = .ok (.iload_n 3, 1)), rfl⟩, rfl⟩, rfl⟩
theorem xk_6_76 : xP 6 76 (.aaload, 77, 0, 0, .null) := ⟨⟨(by decide +kernel : decode cX2_countAbove 76 = .ok (.aaload, 1)), rfl⟩, rfl⟩
theorem xk_6_77 : xP 6 77 (.iload_n 2, 78, 2, 0, .null) := ⟨⟨⟨(by decide +kernel : decode cX2_countAbove 77 = .ok (.iload_n 2, 1)), rfl⟩, rfl⟩, rfl⟩
theorem xk_6_78 : xP 6 78 (.lload 5, 80, 5, 0, .null) := ⟨⟨(by decide +kernel : decode cX2_countAbove 78 = .ok (.lload 5, 2)), rfl, rfl⟩, rfl⟩
theorem xk_6_80 : xP 6 80 (.lastore, 81, 0, 0, .null) := ⟨⟨(by decide +kernel : decode cX2_countAbove 80 = .ok (.lastore, 1)), rfl⟩, rfl⟩
theorem xk_6_81 : xP 6 81 (.aload 4, 83, 4, 0, .null) := ⟨⟨(by decide +kernel : decode cX2_countAbove 81 = .ok (.aload 4, 2)), rfl, rfl⟩, rfl⟩
theorem xk_6_83 : xP 6 83 (.iload_n 3, 84, 3, 0, .null) := ⟨⟨⟨(by decide +kernel : decode cX2_countAbove 83 = .ok (.iload_n 3, 1)), rfl⟩, rfl⟩, rfl⟩
theorem xk_6_84 : xP 6 84 (.aaload, 85, 0, 0, .null) := ⟨⟨(by decide +kernel : decode cX2_countAbove 84 = .ok (.aaload, 1)), rfl⟩, rfl⟩
theorem xk_6_85 : xP 6 85 (.iload_n 2, 86, 2, 0, .null) := ⟨⟨⟨(by decide +kernel : decode cX2_countAbove 85 = .ok (.iload_n 2, 1)), rfl⟩, rfl⟩, rfl⟩
theorem xk_6_86 : xP 6 86 (.laload, 87, 0, 0, .null) := ⟨⟨(by decide +kernel : decode cX2_countAbove 86 = .ok (.laload, 1)), rfl⟩, rfl⟩
theorem xk_6_87 : xP 6 87 (.lreturn, 88, 0, 0, .null) := ⟨⟨⟨(by decide +kernel : decode cX2_countAbove 87 = .ok (.lreturn, 1)), rfl⟩, rfl⟩, rfl⟩
theorem xkM_6 (pc : Nat) : ∀ e, xcM6 pc = some e → xP 6 pc e := by
  unfold xcM6
  exact xt_if (P := xP 6) (xt_if (P := xP 6) (xt_if (P := xP 6) (xt_if (P := xP 6) (xt_if (P := xP 6) (xt_leaf (P := xP 6) xk_6_0) (xt_if (P := xP 6) (xt_leaf (P := xP 6) xk_6_1) (xt_leaf (P := xP 6) xk_6_4))) (xt_if (P := xP 6) (xt_leaf (P := xP 6) xk_6_5) (xt_if (P := xP 6) (xt_leaf (P := xP 6) xk_6_7) (xt_leaf (P := xP 6) xk_6_10)))) (xt_if (P := xP 6) (xt_if (P := xP 6) (xt_leaf (P := xP 6) xk_6_11) (xt_if (P := xP 6) (xt_leaf (P := xP 6) xk_6_12) (xt_leaf (P := xP 6) xk_6_14))) (xt_if (P := xP 6) (xt_if (P := xP 6) (xt_leaf (P := xP 6) xk_6_15) (xt_leaf (P := xP 6) xk_6_16)) (xt_if (P := xP 6) (xt_leaf (P := xP 6) xk_6_17) (xt_leaf (P := xP 6) xk_6_18))))) (xt_if (P := xP 6) (xt_if (P := xP 6) (xt_if (P := xP 6) (xt_leaf (P := xP 6) xk_6_21) (xt_if (P := xP 6) (xt_leaf (P := xP 6) xk_6_22) (xt_leaf (P := xP 6) xk_6_25))) (xt_if (P := xP 6) (xt_if (P := xP 6) (xt_leaf (P := xP 6) xk_6_26) (xt_leaf (P := xP 6) xk_6_28)) (xt_if (P := xP 6) (xt_leaf (P := xP 6) xk_6_29) (xt_leaf (P := xP 6) xk_6_31)))) (xt_if (P := xP 6) (xt_if (P := xP 6) (xt_leaf (P := xP 6) xk_6_33) (xt_if (P := xP 6) (xt_leaf (P := xP 6) xk_6_34) (xt_leaf (P := xP 6) xk_6_37))) (xt_if (P := xP 6) (xt_if (P := xP 6) (xt_leaf (P := xP 6) xk_6_38) (xt_leaf (P := xP 6) xk_6_40)) (xt_if (P := xP 6) (xt_leaf (P := xP 6) xk_6_41) (xt_leaf (P := xP 6) xk_6_42)))))) (xt_if (P := xP 6) (xt_if (P := xP 6) (xt_if (P := xP 6) (xt_if (P := xP 6) (xt_leaf (P := xP 6) xk_6_43) (xt_if (P := xP 6) (xt_leaf (P := xP 6) xk_6_44) (xt_leaf (P := xP 6) xk_6_47))) (xt_if (P := xP 6) (xt_if (P := xP 6) (xt_leaf (P := xP 6) xk_6_50) (xt_leaf (P := xP 6) xk_6_52)) (xt_if (P := xP 6) (xt_leaf (P := xP 6) xk_6_53) (xt_leaf (P := xP 6) xk_6_54)))) (xt_if (P := xP 6) (xt_if (P := xP 6) (xt_leaf (P := xP 6) xk_6_56) (xt_if (P := xP 6) (xt_leaf (P := xP 6) xk_6_57) (xt_leaf (P := xP 6) xk_6_58))) (xt_if (P := xP 6) (xt_if (P := xP 6) (xt_leaf (P := xP 6) xk_6_59) (xt_leaf (P := xP 6) xk_6_61)) (xt_if (P := xP 6) (xt_leaf (P := xP 6) xk_6_64) (xt_leaf (P := xP 6) xk_6_65))))) (xt_if (P := xP 6) (xt_if (P := xP 6) (xt_if (P := xP 6) (xt_leaf (P := xP 6) xk_6_67) (xt_if (P := xP 6) (xt_leaf (P := xP 6) xk_6_70) (xt_leaf (P := xP 6) xk_6_73))) (xt_if (P := xP 6) (xt_if (P := xP 6) (xt_leaf (P := xP 6) xk_6_75) (xt_leaf (P := xP 6) xk_6_76)) (xt_if (P := xP 6) (xt_leaf (P := xP 6) xk_6_77) (xt_leaf (P := xP 6) xk_6_78)))) (xt_if (P := xP 6) (xt_if (P := xP 6) (xt_leaf (P := xP 6) xk_6_80) (xt_if (P := xP 6) (xt_leaf (P := xP 6) xk_6_81) (xt_leaf (P := xP 6) xk_6_83))) (xt_if (P := xP 6) (xt_if (P := xP 6) (xt_leaf (P := xP 6) xk_6_84) (xt_leaf (P := xP 6) xk_6_85)) (xt_if (P := xP 6) (xt_leaf (P := xP 6) xk_6_86) (xt_leaf (P := xP 6) xk_6_87))))))
theorem xk_7_0 : xP 7 0 (.aload_n 0, 1, 0, 0, .null) := ⟨⟨⟨(by decide +kernel : decode cX2_leastBricks 0 = .ok (.aload_n 0, 1)), rfl⟩, rfl⟩, rfl⟩
theorem xk_7_1 : xP 7 1 (.getfield 16, 4, 4, 1, .null) := ⟨⟨(by decide +kernel : decode cX2_leastBricks 1 = .ok (.getfield 16, 3)), rfl, Or.inr ⟨by decide, _, _, _, xcl_4, by decide, Or.inl xw_204⟩⟩, rfl⟩
theorem xk_7_4 : xP 7 4 (.iload_n 1, 5, 1, 0, .null) := ⟨⟨⟨(by decide +kernel : decode cX2_leastBricks 4 = .ok (.iload_n 1, 1)), rfl⟩, rfl⟩, rfl⟩
theorem xk_7_5 : xP 7 5 (.iaload, 6, 0, 0, .null) := ⟨⟨(by decide +kernel : decode cX2_leastBricks 5 = .ok (.iaload, 1)), rfl⟩, rfl⟩
theorem xk_7_6 : xP 7 6 (.istore_n 3, 7, 3, 0, .null) := ⟨⟨⟨(by decide +kernel : decode cX2_leastBricks 6 = .ok (.istore_n 3, 1)), rfl⟩, rfl⟩, rfl⟩
theorem xk_7_7 : xP 7 7 (.iconst 0, 8, 0, 0, .int 0) := ⟨⟨⟨(by decide +kernel : decode cX2_leastBricks 7 = .ok (.iconst 0, 1)), rfl⟩, by decide⟩, rfl⟩
theorem xk_7_8 : xP 7 8 (.istore 4, 10, 4, 0, .null) := ⟨⟨(by decide +kernel : decode cX2_leastBricks 8 = .ok (.istore 4, 2)), rfl, rfl⟩, rfl⟩
theorem xk_7_10 : xP 7 10 (.iload 4, 12, 4, 0, .null) := ⟨⟨(by decide +kernel : decode cX2_leastBricks 10 = .ok (.iload 4, 2)), rfl, rfl⟩, rfl⟩
theorem xk_7_12 : xP 7 12 (.iload_n 3, 13, 3, 0, .null) := ⟨⟨⟨(by decide +kernel : decode cX2_leastBricks 12 = .ok (.iload_n 3, 1)), rfl⟩, rfl⟩, rfl⟩
theorem xk_7_13 : xP 7 13 (.if_icmp .ge 28, 16, 41, 0, .null) := ⟨⟨(by decide +kernel : decode cX2_leastBricks 13 = .ok (.if_icmp .ge 28, 3)), rfl, by decide⟩, rfl⟩
theorem xk_7_16 : xP 7 16 (.aload_n 0, 17, 0, 0, .null) := ⟨⟨⟨(by decide +kernel : decode cX2_leastBricks 16 = .ok (.aload_n 0, 1)), rfl⟩, rfl⟩, rfl⟩
theorem xk_7_17 : xP 7 17 (.getfield 27, 20, 4, 4, .null) := ⟨⟨(by decide +kernel : decode cX2_leastBricks 17 = .ok (.getfield 27, 3)), rfl, Or.inr ⟨by decide, _, _, _, xcl_4, by decide, Or.inl xw_208⟩⟩, rfl⟩
theorem xk_7_20 : xP 7 20 (.iload 4, 22, 4, 0, .null) := ⟨⟨(by decide +kernel : decode cX2_leastBricks 20 = .ok (.iload 4, 2)), rfl, rfl⟩, rfl⟩
theorem xk_7_22 : xP 7 22 (.aload_n 0, 23, 0, 0, .null) := ⟨⟨⟨(by decide +kernel : decode cX2_leastBricks 22 = .ok (.aload_n 0, 1)), rfl⟩, rfl⟩, rfl⟩
theorem xk_7_23 : xP 7 23 (.getfield 13, 26, 4, 0, .null) := ⟨⟨(by decide +kernel : decode cX2_leastBricks 23 = .ok (.getfield 13, 3)), rfl, Or.inr ⟨by decide, _, _, _, xcl_4, by decide, Or.inl xw_203⟩⟩, rfl⟩
theorem xk_7_26 : xP 7 26 (.iload_n 1, 27, 1, 0, .null) := ⟨⟨⟨(by decide +kernel : decode cX2_leastBricks 26 = .ok (.iload_n 1, 1)), rfl⟩, rfl⟩, rfl⟩
theorem xk_7_27 : xP 7 27 (.aaload, 28, 0, 0, .null) := ⟨⟨(by decide +kernel : decode cX2_leastBricks 27 = .ok (.aaload, 1)), rfl⟩, rfl⟩
theorem xk_7_28 : xP 7 28 (.iload 4, 30, 4, 0, .null) := ⟨⟨(by decide +kernel : decode cX2_leastBricks 28 = .ok (.iload 4, 2)), rfl, rfl⟩, rfl⟩
theorem xk_7_30 : xP 7 30 (.iaload, 31, 0, 0, .null) := ⟨⟨(by decide +kernel : decode cX2_leastBricks 30 = .ok (.iaload, 1)), rfl⟩, rfl⟩
theorem xk_7_31 : xP 7 31 (.invokestatic 56, 34, 9, 1, .null) := ⟨⟨(by decide +kernel : decode cX2_leastBricks 31 = .ok (.invokestatic 56, 3)), rfl, fun h => absurd h (by decide), fun h => absurd h (by decide), fun h => absurd h (by decide), fun _ _ _ => ⟨by decide, xhd_9, xgen_9, xw_571, xw_32, Or.inl xw_570⟩⟩, rfl⟩
theorem xk_7_34 : xP 7 34 (.iastore, 35, 0, 0, .null) := ⟨⟨(by decide +kernel : decode cX2_leastBricks 34 = .ok (.iastore, 1)), rfl⟩, rfl⟩
theorem xk_7_35 : xP 7 35 (.iinc 4 1, 38, 4, 0, .int 1) := ⟨⟨(by decide +kernel : decode cX2_leastBricks 35 = .ok (.iinc 4 1, 3)), rfl, rfl, by decide⟩, rfl⟩
theorem xk_7_38 : xP 7 38 (.goto (-28), 41, 10, 0, .null) := ⟨⟨(by decide +kernel : decode cX2_leastBricks 38 = .ok (.goto (-28), 3)), by decide⟩, rfl⟩
theorem xk_7_41 : xP 7 41 (.iconst 2, 42, 0, 0, .int 2) := ⟨⟨⟨(by decide +kernel : decode cX2_leastBricks 41 = .ok (.iconst 2, 1)), rfl⟩, by decide⟩, rfl⟩
theorem xk_7_42 : xP 7 42 (.istore 4, 44, 4, 0, .null) := ⟨⟨(by decide +kernel : decode cX2_leastBricks 42 = .ok (.istore 4, 2)), rfl, rfl⟩, rfl⟩
theorem xk_7_44 : xP 7 44 (.iload 4, 46, 4, 0, .null) := ⟨⟨(by decide +kernel : decode cX2_leastBricks 44 = .ok (.iload 4, 2)), rfl, rfl⟩, rfl⟩
theorem xk_7_46 : xP 7 46 (.iload_n 2, 47, 2, 0, .null) := ⟨⟨⟨(by decide +kernel : decode cX2_leastBricks 46 = .ok (.iload_n 2, 1)), rfl⟩, rfl⟩, rfl⟩
theorem xk_7_47 : xP 7 47 (.if_icmp .gt 20, 50, 67, 0, .null) := ⟨⟨(by decide +kernel : decode cX2_leastBricks 47 = .ok (.if_icmp .gt 20, 3)), rfl, by decide⟩, rfl⟩
theorem xk_7_50 : xP 7 50 (.aload_n 0, 51, 0, 0, .null) := ⟨⟨⟨(by decide +kernel : decode cX2_leastBricks 50 = .ok (.aload_n 0, 1)), rfl⟩, rfl⟩, rfl⟩
theorem xk_7_51 : xP 7 51 (.aload_n 0, 52, 0, 0, .null) := ⟨⟨⟨(by decide +kernel : decode cX2_leastBricks 51 = .ok (.aload_n 0, 1)), rfl⟩, rfl⟩, rfl⟩
theorem xk_7_52 : xP 7 52 (.getfield 13, 55, 4, 0, .null) := ⟨⟨(by decide +kernel : decode cX2_leastBricks 52 = .ok (.getfield 13, 3)), rfl, Or.inr ⟨by decide, _, _, _, xcl_4, by decide, Or.inl xw_203⟩⟩, rfl⟩
theorem xk_7_55 : xP 7 55 (.iload_n 1, 56, 1, 0, .null) := ⟨⟨⟨(by decide +kernel : decode cX2_leastBricks 55 = .ok (.iload_n 1, 1)), rfl⟩, rfl⟩, rfl⟩
theorem xk_7_56 : xP 7 56 (.aaload, 57, 0, 0, .null) := ⟨⟨(by decide +kernel : decode cX2_leastBricks 56 = .ok (.aaload, 1)), rfl⟩, rfl⟩
theorem xk_7_57 : xP 7 57 (.iload_n 3, 58, 3, 0, .null) := ⟨⟨⟨(by decide +kernel : decode cX2_leastBricks 57 = .ok (.iload_n 3, 1)), rfl⟩, rfl⟩, rfl⟩
theorem xk_7_58 : xP 7 58 (.invokevirtual 60, 61, 8, 3, .null) := ⟨⟨(by decide +kernel : decode cX2_leastBricks 58 = .ok (.invokevirtual 60, 3)), rfl, by decide, xhd_8, rfl, _, "RingKiln$Courses", rfl, xrcl_4, Or.inl ⟨xgen_8, rfl, List.forall_mem_cons.mpr ⟨xw_579, List.forall_mem_cons.mpr ⟨xw_581, List.forall_mem_cons.mpr ⟨xw_13, List.forall_mem_cons.mpr ⟨xw_32, fun _ h => absurd h List.not_mem_nil⟩⟩⟩⟩⟩⟩, rfl⟩
theorem xk_7_61 : xP 7 61 (.iinc 4 1, 64, 4, 0, .int 1) := ⟨⟨(by decide +kernel : decode cX2_leastBricks 61 = .ok (.iinc 4 1, 3)), rfl, rfl, by decide⟩, rfl⟩
theorem xk_7_64 : xP 7 64 (.goto (-20), 67, 44, 0, .null) := ⟨⟨(by decide +kernel : decode cX2_leastBricks 64 = .ok (.goto (-20), 3)), by decide⟩, rfl⟩
theorem xk_7_67 : xP 7 67 (.ldc 63, 69, 0, 0, .int 1000000) := ⟨⟨(by decide +kernel : decode cX2_leastBricks 67 = .ok (.ldc 63, 2)), rfl, Or.inl ⟨_, rfl, xw_583⟩⟩, rfl⟩
theorem xk_7_69 : xP 7 69 (.istore 4, 71, 4, 0, .null) := ⟨⟨(by decide +kernel : decode cX2_leastBricks 69 = .ok (.istore 4, 2)), rfl, rfl⟩, rfl⟩
theorem xk_7_71 : xP 7 71 (.iconst 0, 72, 0, 0, .int 0) := ⟨⟨⟨(by decide +kernel : decode cX2_leastBricks 71 = .ok (.iconst 0, 1)), rfl⟩, by decide⟩, rfl⟩
theorem xk_7_72 : xP 7 72 (.istore 5, 74, 5, 0, .null) := ⟨⟨(by decide +kernel : decode cX2_leastBricks 72 = .ok (.istore 5, 2)), rfl, rfl⟩, rfl⟩
theorem xk_7_74 : xP 7 74 (.iload 5, 76, 5, 0, .null) := ⟨⟨(by decide +kernel : decode cX2_leastBricks 74 = .ok (.iload 5, 2)), rfl, rfl⟩, rfl⟩
theorem xk_7_76 : xP 7 76 (.iload_n 3, 77, 3, 0, .null) := ⟨⟨⟨(by decide +kernel : decode cX2_leastBricks 76 = .ok (.iload_n 3, 1)), rfl⟩, rfl⟩, rfl⟩
theorem xk_7_77 : xP 7 77 (.if_icmp .ge 23, 80, 100, 0, .null) := ⟨⟨(by decide +kernel : decode cX2_leastBricks 77 = .ok (.if_icmp .ge 23, 3)), rfl, by decide⟩, rfl⟩
theorem xk_7_80 : xP 7 80 (.iload 4, 82, 4, 0, .null) := ⟨⟨(by decide +kernel : decode cX2_leastBricks 80 = .ok (.iload 4, 2)), rfl, rfl⟩, rfl⟩
theorem xk_7_82 : xP 7 82 (.aload_n 0, 83, 0, 0, .null) := ⟨⟨⟨(by decide +kernel : decode cX2_leastBricks 82 = .ok (.aload_n 0, 1)), rfl⟩, rfl⟩, rfl⟩
theorem xk_7_83 : xP 7 83 (.getfield 27, 86, 4, 4, .null) := ⟨⟨(by decide +kernel : decode cX2_leastBricks 83 = .ok (.getfield 27, 3)), rfl, Or.inr ⟨by decide, _, _, _, xcl_4, by decide, Or.inl xw_208⟩⟩, rfl⟩
theorem xk_7_86 : xP 7 86 (.iload 5, 88, 5, 0, .null) := ⟨⟨(by decide +kernel : decode cX2_leastBricks 86 = .ok (.iload 5, 2)), rfl, rfl⟩, rfl⟩
theorem xk_7_88 : xP 7 88 (.iaload, 89, 0, 0, .null) := ⟨⟨(by decide +kernel : decode cX2_leastBricks 88 = .ok (.iaload, 1)), rfl⟩, rfl⟩
theorem xk_7_89 : xP 7 89 (.invokestatic 64, 92, 9001, 0, .null) := ⟨⟨(by decide +kernel : decode cX2_leastBricks 89 = .ok (.invokestatic 64, 3)), rfl, fun h => absurd h (by decide), fun _ => ⟨xw_587, xw_525, xw_47, xw_526⟩, fun h => absurd h (by decide), fun _ h => absurd rfl h⟩, rfl⟩
theorem xk_7_92 : xP 7 92 (.istore 4, 94, 4, 0, .null) := ⟨⟨(by decide +kernel : decode cX2_leastBricks 92 = .ok (.istore 4, 2)), rfl, rfl⟩, rfl⟩
theorem xk_7_94 : xP 7 94 (.iinc 5 1, 97, 5, 0, .int 1) := ⟨⟨(by decide +kernel : decode cX2_leastBricks 94 = .ok (.iinc 5 1, 3)), rfl, rfl, by decide⟩, rfl⟩
theorem xk_7_97 : xP 7 97 (.goto (-23), 100, 74, 0, .null) := ⟨⟨(by decide +kernel : decode cX2_leastBricks 97 = .ok (.goto (-23), 3)), by decide⟩, rfl⟩
theorem xk_7_100 : xP 7 100 (.iload 4, 102, 4, 0, .null) := ⟨⟨(by decide +kernel : decode cX2_leastBricks 100 = .ok (.iload 4, 2)), rfl, rfl⟩, rfl⟩
theorem xk_7_102 : xP 7 102 (.ldc 63, 104, 0, 0, .int 1000000) := ⟨⟨(by decide +kernel : decode cX2_leastBricks 102 = .ok (.ldc 63, 2)), rfl, Or.inl ⟨_, rfl, xw_583⟩⟩, rfl⟩
theorem xk_7_104 : xP 7 104 (.if_icmp .ne 8, 107, 112, 0, .null) := ⟨⟨(by decide +kernel : decode cX2_leastBricks 104 = .ok (.if_icmp .ne 8, 3)), rfl, by decide⟩, rfl⟩
theorem xk_7_107 : xP 7 107 (.bipush (-5), 109, 0, 0, .int (-5)) := ⟨⟨(by decide +kernel : decode cX2_leastBricks 107 = .ok (.bipush (-5), 2)), rfl, by decide⟩, rfl⟩
theorem xk_7_109 : xP 7 109 (.goto 5, 112, 114, 0, .null) := ⟨⟨(by decide +kernel : decode cX2_leastBricks 109 = .ok (.goto 5, 3)), by decide⟩, rfl⟩
theorem xk_7_112 : xP 7 112 (.iload 4, 114, 4, 0, .null) := ⟨⟨(by decide +kernel : decode cX2_leastBricks 112 = .ok (.iload 4, 2)), rfl, rfl⟩, rfl⟩
theorem xk_7_114 : xP 7 114 (.ireturn, 115, 0, 0, .null) := ⟨⟨(by decide +kernel : decode cX2_leastBricks 114 = .ok (.ireturn, 1)), rfl⟩, rfl⟩
theorem xkM_7 (pc : Nat) : ∀ e, xcM7 pc = some e → xP 7 pc e := by
  unfold xcM7
  exact xt_if (P := xP 7) (xt_if (P := xP 7) (xt_if (P := xP 7) (xt_if (P := xP 7) (xt_if (P := xP 7) (xt_leaf (P := xP 7) xk_7_0) (xt_if (P := xP 7) (xt_leaf (P := xP 7) xk_7_1) (xt_leaf (P := xP 7) xk_7_4))) (xt_if (P := xP 7) (xt_if (P := xP 7) (xt_leaf (P := xP 7) xk_7_5) (xt_leaf (P := xP 7) xk_7_6)) (xt_if (P := xP 7) (xt_leaf (P := xP 7) xk_7_7) (xt_leaf (P := xP 7) xk_7_8)))) (xt_if (P := xP 7) (xt_if (P := xP 7) (xt_if (P := xP 7) (xt_leaf (P := xP 7) xk_7_10) (xt_leaf (P := xP 7) xk_7_12)) (xt_if (P := xP 7) (xt_leaf (P := xP 7) xk_7_13) (xt_leaf (P := xP 7) xk_7_16))) (xt_if (P := xP 7) (xt_if (P := xP 7) (xt_leaf (P := xP 7) xk_7_17) (xt_leaf (P := xP 7) xk_7_20)) (xt_if (P := xP 7) (xt_leaf (P := xP 7) xk_7_22) (xt_leaf (P := xP 7) xk_7_23))))) (xt_if (P := xP 7) (xt_if (P := xP 7) (xt_if (P := xP 7) (xt_leaf (P := xP 7) xk_7_26) (xt_if (P := xP 7) (xt_leaf (P := xP 7) xk_7_27) (xt_leaf (P := xP 7) xk_7_28))) (xt_if (P := xP 7) (xt_if (P := xP 7) (xt_leaf (P := xP 7) xk_7_30) (xt_leaf (P := xP 7) xk_7_31)) (xt_if (P := xP 7) (xt_leaf (P := xP 7) xk_7_34) (xt_leaf (P := xP 7) xk_7_35)))) (xt_if (P := xP 7) (xt_if (P := xP 7) (xt_if (P := xP 7) (xt_leaf (P := xP 7) xk_7_38) (xt_leaf (P := xP 7) xk_7_41)) (xt_if (P := xP 7) (xt_leaf (P := xP 7) xk_7_42) (xt_leaf (P := xP 7) xk_7_44))) (xt_if (P := xP 7) (xt_if (P := xP 7) (xt_leaf (P := xP 7) xk_7_46) (xt_leaf (P := xP 7) xk_7_47)) (xt_if (P := xP 7) (xt_leaf (P := xP 7) xk_7_50) (xt_leaf (P := xP 7) xk_7_51)))))) (xt_if (P := xP 7) (xt_if (P := xP 7) (xt_if (P := xP 7) (xt_if (P := xP 7) (xt_leaf (P := xP 7) xk_7_52) (xt_if (P := xP 7) (xt_leaf (P := xP 7) xk_7_55) (xt_leaf (P := xP 7) xk_7_56))) (xt_if (P := xP 7) (xt_if (P := xP 7) (xt_leaf (P := xP 7) xk_7_57) (xt_leaf (P := xP 7) xk_7_58)) (xt_if (P := xP 7) (xt_leaf (P := xP 7) xk_7_61) (xt_leaf (P := xP 7) xk_7_64)))) (xt_if (P := xP 7) (xt_if (P := xP 7) (xt_if (P := xP 7) (xt_leaf (P := xP 7) xk_7_67) (xt_leaf (P := xP 7) xk_7_69)) (xt_if (P := xP 7) (xt_leaf (P := xP 7) xk_7_71) (xt_leaf (P := xP 7) xk_7_72))) (xt_if (P := xP 7) (xt_if (P := xP 7) (xt_leaf (P := xP 7) xk_7_74) (xt_leaf (P := xP 7) xk_7_76)) (xt_if (P := xP 7) (xt_leaf (P := xP 7) xk_7_77) (xt_leaf (P := xP 7) xk_7_80))))) (xt_if (P := xP 7) (xt_if (P := xP 7) (xt_if (P := xP 7) (xt_leaf (P := xP 7) xk_7_82) (xt_if (P := xP 7) (xt_leaf (P := xP 7) xk_7_83) (xt_leaf (P := xP 7) xk_7_86))) (xt_if (P := xP 7) (xt_if (P := xP 7) (xt_leaf (P := xP 7) xk_7_88) (xt_leaf (P := xP 7) xk_7_89)) (xt_if (P := xP 7) (xt_leaf (P := xP 7) xk_7_92) (xt_leaf (P := xP 7) xk_7_94)))) (xt_if (P := xP 7) (xt_if (P := xP 7) (xt_if (P := xP 7) (xt_leaf (P := xP 7) xk_7_97) (xt_leaf (P := xP 7) xk_7_100)) (xt_if (P := xP 7) (xt_leaf (P := xP 7) xk_7_102) (xt_leaf (P := xP 7) xk_7_104))) (xt_if (P := xP 7) (xt_if (P := xP 7) (xt_leaf (P := xP 7) xk_7_107) (xt_leaf (P := xP 7) xk_7_109)) (xt_if (P := xP 7) (xt_leaf (P := xP 7) xk_7_112) (xt_leaf (P := xP 7) xk_7_114))))))
