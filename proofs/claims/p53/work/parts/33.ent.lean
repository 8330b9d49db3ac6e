theorem xk_164_0 : xP 164 0 (.aload_n 0, 1, 0, 0, .null) := ⟨⟨⟨(by decide +kernel : decode cJ5_ensureCapacityInternal_d00df 0 = .ok (.aload_n 0, 1)), rfl⟩, rfl⟩, rfl⟩
theorem xk_164_1 : xP 164 1 (.getfield 15, 4, 1, 0, .null) := ⟨⟨(by decide +kernel : decode cJ5_ensureCapacityInternal_d00df 1 = .ok (.getfield 15, 3)), rfl, Or.inr ⟨by decide, _, _, _, xcl_1, by decide, Or.inl xw_286⟩⟩, rfl⟩
theorem xk_164_4 : xP 164 4 (.arraylength, 5, 0, 0, .null) := ⟨⟨(by decide +kernel : decode cJ5_ensureCapacityInternal_d00df 4 = .ok (.arraylength, 1)), rfl⟩, rfl⟩
theorem xk_164_5 : xP 164 5 (.aload_n 0, 6, 0, 0, .null) := ⟨⟨⟨(by decide +kernel : decode cJ5_ensureCapacityInternal_d00df 5 = .ok (.aload_n 0, 1)), rfl⟩, rfl⟩, rfl⟩
theorem xk_164_6 : xP 164 6 (.getfield 22, 9, 1, 1, .null) := ⟨⟨(by decide +kernel : decode cJ5_ensureCapacityInternal_d00df 6 = .ok (.getfield 22, 3)), rfl, Or.inr ⟨by decide, _, _, _, xcl_1, by decide, Or.inl xw_287⟩⟩, rfl⟩
theorem xk_164_9 : xP 164 9 (.ishr, 10, 0, 0, .null) := ⟨⟨(by decide +kernel : decode cJ5_ensureCapacityInternal_d00df 9 = .ok (.ishr, 1)), rfl⟩, rfl⟩
theorem xk_164_10 : xP 164 10 (.istore_n 2, 11, 2, 0, .null) := ⟨⟨⟨(by decide +kernel : decode cJ5_ensureCapacityInternal_d00df 10 = .ok (.istore_n 2, 1)), rfl⟩, rfl⟩, rfl⟩
theorem xk_164_11 : xP 164 11 (.iload_n 1, 12, 1, 0, .null) := ⟨⟨⟨(by decide +kernel : decode cJ5_ensureCapacityInternal_d00df 11 = .ok (.iload_n 1, 1)), rfl⟩, rfl⟩, rfl⟩
theorem xk_164_12 : xP 164 12 (.iload_n 2, 13, 2, 0, .null) := ⟨⟨⟨(by decide +kernel : decode cJ5_ensureCapacityInternal_d00df 12 = .ok (.iload_n 2, 1)), rfl⟩, rfl⟩, rfl⟩
theorem xk_164_13 : xP 164 13 (.isub, 14, 0, 0, .null) := ⟨⟨(by decide +kernel : decode cJ5_ensureCapacityInternal_d00df 13 = .ok (.isub, 1)), rfl⟩, rfl⟩
theorem xk_164_14 : xP 164 14 (.ifCond .le 24, 17, 38, 0, .null) := ⟨⟨(by decide +kernel : decode cJ5_ensureCapacityInternal_d00df 14 = .ok (.ifCond .le 24, 3)), rfl, by decide⟩, rfl⟩
theorem xk_164_17 : xP 164 17 (.aload_n 0, 18, 0, 0, .null) := ⟨⟨⟨(by decide +kernel : decode cJ5_ensureCapacityInternal_d00df 17 = .ok (.aload_n 0, 1)), rfl⟩, rfl⟩, rfl⟩
theorem xk_164_18 : xP 164 18 (.aload_n 0, 19, 0, 0, .null) := ⟨⟨⟨(by decide +kernel : decode cJ5_ensureCapacityInternal_d00df 18 = .ok (.aload_n 0, 1)), rfl⟩, rfl⟩, rfl⟩
theorem xk_164_19 : xP 164 19 (.getfield 15, 22, 1, 0, .null) := ⟨⟨(by decide +kernel : decode cJ5_ensureCapacityInternal_d00df 19 = .ok (.getfield 15, 3)), rfl, Or.inr ⟨by decide, _, _, _, xcl_1, by decide, Or.inl xw_286⟩⟩, rfl⟩
theorem xk_164_22 : xP 164 22 (.aload_n 0, 23, 0, 0, .null) := ⟨⟨⟨(by decide +kernel : decode cJ5_ensureCapacityInternal_d00df 22 = .ok (.aload_n 0, 1)), rfl⟩, rfl⟩, rfl⟩
theorem xk_164_23 : xP 164 23 (.iload_n 1, 24, 1, 0, .null) := ⟨⟨⟨(by decide +kernel : decode cJ5_ensureCapacityInternal_d00df 23 = .ok (.iload_n 1, 1)), rfl⟩, rfl⟩, rfl⟩
theorem xk_164_24 : xP 164 24 (.invokevirtual 104, 27, 165, 2, .null) := ⟨⟨(by decide +kernel : decode cJ5_ensureCapacityInternal_d00df 24 = .ok (.invokevirtual 104, 3)), rfl, by decide, xhd_165, rfl, _, "java/lang/StringBuilder", rfl, xrcl_1, Or.inr (Or.inr ⟨rfl, "java/lang/AbstractStringBuilder", ⟨"java/lang/AbstractStringBuilder", "newCapacity", "(I)I"⟩, rfl, by decide, by decide, by decide +kernel, List.forall_mem_cons.mpr ⟨xw_1117, List.forall_mem_cons.mpr ⟨xw_1416, List.forall_mem_cons.mpr ⟨xw_1, List.forall_mem_cons.mpr ⟨xw_1119, List.forall_mem_cons.mpr ⟨xw_34, fun _ h => absurd h List.not_mem_nil⟩⟩⟩⟩⟩⟩)⟩, rfl⟩
theorem xk_164_27 : xP 164 27 (.aload_n 0, 28, 0, 0, .null) := ⟨⟨⟨(by decide +kernel : decode cJ5_ensureCapacityInternal_d00df 27 = .ok (.aload_n 0, 1)), rfl⟩, rfl⟩, rfl⟩
theorem xk_164_28 : xP 164 28 (.getfield 22, 31, 1, 1, .null) := ⟨⟨(by decide +kernel : decode cJ5_ensureCapacityInternal_d00df 28 = .ok (.getfield 22, 3)), rfl, Or.inr ⟨by decide, _, _, _, xcl_1, by decide, Or.inl xw_287⟩⟩, rfl⟩
theorem xk_164_31 : xP 164 31 (.ishl, 32, 0, 0, .null) := ⟨⟨(by decide +kernel : decode cJ5_ensureCapacityInternal_d00df 31 = .ok (.ishl, 1)), rfl⟩, rfl⟩
theorem xk_164_32 : xP 164 32 (.invokestatic 108, 35, 177, 2, .null) := ⟨⟨(by decide +kernel : decode cJ5_ensureCapacityInternal_d00df 32 = .ok (.invokestatic 108, 3)), rfl, fun h => absurd h (by decide), fun h => absurd h (by decide), fun h => absurd h (by decide), fun _ _ _ => ⟨by decide, xhd_177, xgen_177, xw_1131, xw_58, Or.inl xw_1130⟩⟩, rfl⟩
theorem xk_164_35 : xP 164 35 (.putfield 15, 38, 1, 0, .null) := ⟨⟨(by decide +kernel : decode cJ5_ensureCapacityInternal_d00df 35 = .ok (.putfield 15, 3)), rfl, _, _, _, xcl_1, by decide, Or.inl ⟨rfl, Or.inl xw_286⟩⟩, rfl⟩
theorem xk_164_38 : xP 164 38 (.return_, 39, 0, 0, .null) := ⟨⟨(by decide +kernel : decode cJ5_ensureCapacityInternal_d00df 38 = .ok (.return_, 1)), rfl⟩, rfl⟩
theorem xkM_164 (pc : Nat) : ∀ e, xcM164 pc = some e → xP 164 pc e := by
  unfold xcM164
  exact xt_if (P := xP 164) (xt_if (P := xP 164) (xt_if (P := xP 164) (xt_if (P := xP 164) (xt_leaf (P := xP 164) xk_164_0) (xt_leaf (P := xP 164) xk_164_1)) (xt_if (P := xP 164) (xt_leaf (P := xP 164) xk_164_4) (xt_if (P := xP 164) (xt_leaf (P := xP 164) xk_164_5) (xt_leaf (P := xP 164) xk_164_6)))) (xt_if (P := xP 164) (xt_if (P := xP 164) (xt_leaf (P := xP 164) xk_164_9) (xt_if (P := xP 164) (xt_leaf (P := xP 164) xk_164_10) (xt_leaf (P := xP 164) xk_164_11))) (xt_if (P := xP 164) (xt_leaf (P := xP 164) xk_164_12) (xt_if (P := xP 164) (xt_leaf (P := xP 164) xk_164_13) (xt_leaf (P := xP 164) xk_164_14))))) (xt_if (P := xP 164) (xt_if (P := xP 164) (xt_if (P := xP 164) (xt_leaf (P := xP 164) xk_164_17) (xt_if (P := xP 164) (xt_leaf (P := xP 164) xk_164_18) (xt_leaf (P := xP 164) xk_164_19))) (xt_if (P := xP 164) (xt_leaf (P := xP 164) xk_164_22) (xt_if (P := xP 164) (xt_leaf (P := xP 164) xk_164_23) (xt_leaf (P := xP 164) xk_164_24)))) (xt_if (P := xP 164) (xt_if (P := xP 164) (xt_leaf (P := xP 164) xk_164_27) (xt_if (P := xP 164) (xt_leaf (P := xP 164) xk_164_28) (xt_leaf (P := xP 164) xk_164_31))) (xt_if (P := xP 164) (xt_leaf (P := xP 164) xk_164_32) (xt_if (P := xP 164) (xt_leaf (P := xP 164) xk_164_35) (xt_leaf (P := xP 164) xk_164_38)))))
theorem xk_165_0 : xP 165 0 (.aload_n 0, 1, 0, 0, .null) := ⟨⟨⟨(by decide +kernel : decode cJ5_newCapacity_0f7a4 0 = .ok (.aload_n 0, 1)), rfl⟩, rfl⟩, rfl⟩
theorem xk_165_1 : xP 165 1 (.getfield 15, 4, 1, 0, .null) := ⟨⟨(by decide +kernel : decode cJ5_newCapacity_0f7a4 1 = .ok (.getfield 15, 3)), rfl, Or.inr ⟨by decide, _, _, _, xcl_1, by decide, Or.inl xw_286⟩⟩, rfl⟩
theorem xk_165_4 : xP 165 4 (.arraylength, 5, 0, 0, .null) := ⟨⟨(by decide +kernel : decode cJ5_newCapacity_0f7a4 4 = .ok (.arraylength, 1)), rfl⟩, rfl⟩
theorem xk_165_5 : xP 165 5 (.istore_n 2, 6, 2, 0, .null) := ⟨⟨⟨(by decide +kernel : decode cJ5_newCapacity_0f7a4 5 = .ok (.istore_n 2, 1)), rfl⟩, rfl⟩, rfl⟩
theorem xk_165_6 : xP 165 6 (.iload_n 1, 7, 1, 0, .null) := ⟨⟨⟨(by decide +kernel : decode cJ5_newCapacity_0f7a4 6 = .ok (.iload_n 1, 1)), rfl⟩, rfl⟩, rfl⟩
theorem xk_165_7 : xP 165 7 (.aload_n 0, 8, 0, 0, .null) := ⟨⟨⟨(by decide +kernel : decode cJ5_newCapacity_0f7a4 7 = .ok (.aload_n 0, 1)), rfl⟩, rfl⟩, rfl⟩
theorem xk_165_8 : xP 165 8 (.getfield 22, 11, 1, 1, .null) := ⟨⟨(by decide +kernel : decode cJ5_newCapacity_0f7a4 8 = .ok (.getfield 22, 3)), rfl, Or.inr ⟨by decide, _, _, _, xcl_1, by decide, Or.inl xw_287⟩⟩, rfl⟩
theorem xk_165_11 : xP 165 11 (.ishl, 12, 0, 0, .null) := ⟨⟨(by decide +kernel : decode cJ5_newCapacity_0f7a4 11 = .ok (.ishl, 1)), rfl⟩, rfl⟩
theorem xk_165_12 : xP 165 12 (.istore_n 3, 13, 3, 0, .null) := ⟨⟨⟨(by decide +kernel : decode cJ5_newCapacity_0f7a4 12 = .ok (.istore_n 3, 1)), rfl⟩, rfl⟩, rfl⟩
theorem xk_165_13 : xP 165 13 (.iload_n 3, 14, 3, 0, .null) := ⟨⟨⟨(by decide +kernel : decode cJ5_newCapacity_0f7a4 13 = .ok (.iload_n 3, 1)), rfl⟩, rfl⟩, rfl⟩
theorem xk_165_14 : xP 165 14 (.iload_n 2, 15, 2, 0, .null) := ⟨⟨⟨(by decide +kernel : decode cJ5_newCapacity_0f7a4 14 = .ok (.iload_n 2, 1)), rfl⟩, rfl⟩, rfl⟩
theorem xk_165_15 : xP 165 15 (.isub, 16, 0, 0, .null) := ⟨⟨(by decide +kernel : decode cJ5_newCapacity_0f7a4 15 = .ok (.isub, 1)), rfl⟩, rfl⟩
theorem xk_165_16 : xP 165 16 (.istore 4, 18, 4, 0, .null) := ⟨⟨(by decide +kernel : decode cJ5_newCapacity_0f7a4 16 = .ok (.istore 4, 2)), rfl, rfl⟩, rfl⟩
theorem xk_165_18 : xP 165 18 (.iload_n 2, 19, 2, 0, .null) := ⟨⟨⟨(by decide +kernel : decode cJ5_newCapacity_0f7a4 18 = .ok (.iload_n 2, 1)), rfl⟩, rfl⟩, rfl⟩
theorem xk_165_19 : xP 165 19 (.iload 4, 21, 4, 0, .null) := ⟨⟨(by decide +kernel : decode cJ5_newCapacity_0f7a4 19 = .ok (.iload 4, 2)), rfl, rfl⟩, rfl⟩
theorem xk_165_21 : xP 165 21 (.iload_n 2, 22, 2, 0, .null) := ⟨⟨⟨(by decide +kernel : decode cJ5_newCapacity_0f7a4 21 = .ok (.iload_n 2, 1)), rfl⟩, rfl⟩, rfl⟩
theorem xk_165_22 : xP 165 22 (.iconst 2, 23, 0, 0, .int 2) := ⟨⟨⟨(by decide +kernel : decode cJ5_newCapacity_0f7a4 22 = .ok (.iconst 2, 1)), rfl⟩, by decide⟩, rfl⟩
theorem xk_165_23 : xP 165 23 (.aload_n 0, 24, 0, 0, .null) := ⟨⟨⟨(by decide +kernel : decode cJ5_newCapacity_0f7a4 23 = .ok (.aload_n 0, 1)), rfl⟩, rfl⟩, rfl⟩
theorem xk_165_24 : xP 165 24 (.getfield 22, 27, 1, 1, .null) := ⟨⟨(by decide +kernel : decode cJ5_newCapacity_0f7a4 24 = .ok (.getfield 22, 3)), rfl, Or.inr ⟨by decide, _, _, _, xcl_1, by decide, Or.inl xw_287⟩⟩, rfl⟩
theorem xk_165_27 : xP 165 27 (.ishl, 28, 0, 0, .null) := ⟨⟨(by decide +kernel : decode cJ5_newCapacity_0f7a4 27 = .ok (.ishl, 1)), rfl⟩, rfl⟩
theorem xk_165_28 : xP 165 28 (.iadd, 29, 0, 0, .null) := ⟨⟨(by decide +kernel : decode cJ5_newCapacity_0f7a4 28 = .ok (.iadd, 1)), rfl⟩, rfl⟩
theorem xk_165_29 : xP 165 29 (.invokestatic 114, 32, 178, 3, .null) := ⟨⟨(by decide +kernel : decode cJ5_newCapacity_0f7a4 29 = .ok (.invokestatic 114, 3)), rfl, fun h => absurd h (by decide), fun h => absurd h (by decide), fun h => absurd h (by decide), fun _ _ _ => ⟨by decide, xhd_178, xgen_178, xw_1122, xw_57, Or.inl xw_1121⟩⟩, rfl⟩
theorem xk_165_32 : xP 165 32 (.istore 5, 34, 5, 0, .null) := ⟨⟨(by decide +kernel : decode cJ5_newCapacity_0f7a4 32 = .ok (.istore 5, 2)), rfl, rfl⟩, rfl⟩
theorem xk_165_34 : xP 165 34 (.iload 5, 36, 5, 0, .null) := ⟨⟨(by decide +kernel : decode cJ5_newCapacity_0f7a4 34 = .ok (.iload 5, 2)), rfl, rfl⟩, rfl⟩
theorem xk_165_36 : xP 165 36 (.ldc 39, 38, 0, 0, .int 2147483647) := ⟨⟨(by decide +kernel : decode cJ5_newCapacity_0f7a4 36 = .ok (.ldc 39, 2)), rfl, Or.inl ⟨_, rfl, xw_1129⟩⟩, rfl⟩
theorem xk_165_38 : xP 165 38 (.if_icmp .ne 13, 41, 51, 0, .null) := ⟨⟨(by decide +kernel : decode cJ5_newCapacity_0f7a4 38 = .ok (.if_icmp .ne 13, 3)), rfl, by decide⟩, rfl⟩
theorem xk_165_44 : xP 165 44 (.dup, 45, 0, 0, .null) := ⟨⟨(by decide +kernel : decode cJ5_newCapacity_0f7a4 44 = .ok (.dup, 1)), rfl⟩, rfl⟩
theorem xk_165_51 : xP 165 51 (.iload 5, 53, 5, 0, .null) := ⟨⟨(by decide +kernel : decode cJ5_newCapacity_0f7a4 51 = .ok (.iload 5, 2)), rfl, rfl⟩, rfl⟩
theorem xk_165_53 : xP 165 53 (.aload_n 0, 54, 0, 0, .null) := ⟨⟨⟨(by decide +kernel : decode cJ5_newCapacity_0f7a4 53 = .ok (.aload_n 0, 1)), rfl⟩, rfl⟩, rfl⟩
theorem xk_165_54 : xP 165 54 (.getfield 22, 57, 1, 1, .null) := ⟨⟨(by decide +kernel : decode cJ5_newCapacity_0f7a4 54 = .ok (.getfield 22, 3)), rfl, Or.inr ⟨by decide, _, _, _, xcl_1, by decide, Or.inl xw_287⟩⟩, rfl⟩
theorem xk_165_57 : xP 165 57 (.ishr, 58, 0, 0, .null) := ⟨⟨(by decide +kernel : decode cJ5_newCapacity_0f7a4 57 = .ok (.ishr, 1)), rfl⟩, rfl⟩
theorem xk_165_58 : xP 165 58 (.ireturn, 59, 0, 0, .null) := ⟨⟨(by decide +kernel : decode cJ5_newCapacity_0f7a4 58 = .ok (.ireturn, 1)), rfl⟩, rfl⟩
theorem xkM_165 (pc : Nat) : ∀ e, xcM165 pc = some e → xP 165 pc e := by
  unfold xcM165
  exact xt_if (P := xP 165) (xt_if (P := xP 165) (xt_if (P := xP 165) (xt_if (P := xP 165) (xt_if (P := xP 165) (xt_leaf (P := xP 165) xk_165_0) (xt_leaf (P := xP 165) xk_165_1)) (xt_if (P := xP 165) (xt_leaf (P := xP 165) xk_165_4) (xt_leaf (P := xP 165) xk_165_5))) (xt_if (P := xP 165) (xt_if (P := xP 165) (xt_leaf (P := xP 165) xk_165_6) (xt_leaf (P := xP 165) xk_165_7)) (xt_if (P := xP 165) (xt_leaf (P := xP 165) xk_165_8) (xt_leaf (P := xP 165) xk_165_11)))) (xt_if (P := xP 165) (xt_if (P := xP 165) (xt_if (P := xP 165) (xt_leaf (P := xP 165) xk_165_12) (xt_leaf (P := xP 165) xk_165_13)) (xt_if (P := xP 165) (xt_leaf (P := xP 165) xk_165_14) (xt_leaf (P := xP 165) xk_165_15))) (xt_if (P := xP 165) (xt_if (P := xP 165) (xt_leaf (P := xP 165) xk_165_16) (xt_leaf (P := xP 165) xk_165_18)) (xt_if (P := xP 165) (xt_leaf (P := xP 165) xk_165_19) (xt_leaf (P := xP 165) xk_165_21))))) (xt_if (P := xP 165) (xt_if (P := xP 165) (xt_if (P := xP 165) (xt_if (P := xP 165) (xt_leaf (P := xP 165) xk_165_22) (xt_leaf (P := xP 165) xk_165_23)) (xt_if (P := xP 165) (xt_leaf (P := xP 165) xk_165_24) (xt_leaf (P := xP 165) xk_165_27))) (xt_if (P := xP 165) (xt_if (P := xP 165) (xt_leaf (P := xP 165) xk_165_28) (xt_leaf (P := xP 165) xk_165_29)) (xt_if (P := xP 165) (xt_leaf (P := xP 165) xk_165_32) (xt_leaf (P := xP 165) xk_165_34)))) (xt_if (P := xP 165) (xt_if (P := xP 165) (xt_if (P := xP 165) (xt_leaf (P := xP 165) xk_165_36) (xt_leaf (P := xP 165) xk_165_38)) (xt_if (P := xP 165) (xt_leaf (P := xP 165) xk_165_44) (xt_leaf (P := xP 165) xk_165_51))) (xt_if (P := xP 165) (xt_if (P := xP 165) (xt_leaf (P := xP 165) xk_165_53) (xt_leaf (P := xP 165) xk_165_54)) (xt_if (P := xP 165) (xt_leaf (P := xP 165) xk_165_57) (xt_leaf (P := xP 165) xk_165_58)))))
theorem xk_166_0 : xP 166 0 (.getstatic 18, 3, 0, 0, .int 1) := ⟨⟨(by decide +kernel : decode cJ5_isLatin1_aae02 0 = .ok (.getstatic 18, 3)), rfl, (fun q h => by cases h), _, _, _, List.mem_of_getElem? (i := 0) rfl, Or.inl xw_277⟩, rfl⟩
theorem xk_166_3 : xP 166 3 (.ifCond .eq 14, 6, 17, 0, .null) := ⟨⟨(by decide +kernel : decode cJ5_isLatin1_aae02 3 = .ok (.ifCond .eq 14, 3)), rfl, by decide⟩, rfl⟩
theorem xk_166_6 : xP 166 6 (.aload_n 0, 7, 0, 0, .null) := ⟨⟨⟨(by decide +kernel : decode cJ5_isLatin1_aae02 6 = .ok (.aload_n 0, 1)), rfl⟩, rfl⟩, rfl⟩
theorem xk_166_7 : xP 166 7 (.getfield 22, 10, 1, 1, .null) := ⟨⟨(by decide +kernel : decode cJ5_isLatin1_aae02 7 = .ok (.getfield 22, 3)), rfl, Or.inr ⟨by decide, _, _, _, xcl_1, by decide, Or.inl xw_287⟩⟩, rfl⟩
theorem xk_166_10 : xP 166 10 (.ifCond .ne 7, 13, 17, 0, .null) := ⟨⟨(by decide +kernel : decode cJ5_isLatin1_aae02 10 = .ok (.ifCond .ne 7, 3)), rfl, by decide⟩, rfl⟩
theorem xk_166_13 : xP 166 13 (.iconst 1, 14, 0, 0, .int 1) := ⟨⟨⟨(by decide +kernel : decode cJ5_isLatin1_aae02 13 = .ok (.iconst 1, 1)), rfl⟩, by decide⟩, rfl⟩
theorem xk_166_14 : xP 166 14 (.goto 4, 17, 18, 0, .null) := ⟨⟨(by decide +kernel : decode cJ5_isLatin1_aae02 14 = .ok (.goto 4, 3)), by decide⟩, rfl⟩
theorem xk_166_17 : xP 166 17 (.iconst 0, 18, 0, 0, .int 0) := ⟨⟨⟨(by decide +kernel : decode cJ5_isLatin1_aae02 17 = .ok (.iconst 0, 1)), rfl⟩, by decide⟩, rfl⟩
theorem xk_166_18 : xP 166 18 (.ireturn, 19, 0, 0, .null) := ⟨⟨(by decide +kernel : decode cJ5_isLatin1_aae02 18 = .ok (.ireturn, 1)), rfl⟩, rfl⟩
theorem xkM_166 (pc : Nat) : ∀ e, xcM166 pc = some e → xP 166 pc e := by
  unfold xcM166
  exact xt_if (P := xP 166) (xt_if (P := xP 166) (xt_if (P := xP 166) (xt_leaf (P := xP 166) xk_166_0) (xt_leaf (P := xP 166) xk_166_3)) (xt_if (P := xP 166) (xt_leaf (P := xP 166) xk_166_6) (xt_leaf (P := xP 166) xk_166_7))) (xt_if (P := xP 166) (xt_if (P := xP 166) (xt_leaf (P := xP 166) xk_166_10) (xt_leaf (P := xP 166) xk_166_13)) (xt_if (P := xP 166) (xt_leaf (P := xP 166) xk_166_14) (xt_if (P := xP 166) (xt_leaf (P := xP 166) xk_166_17) (xt_leaf (P := xP 166) xk_166_18))))
theorem xk_167_0 : xP 167 0 (.aload_n 0, 1, 0, 0, .null) := ⟨⟨⟨(by decide +kernel : decode cJ0_length_8abf5 0 = .ok (.aload_n 0, 1)), rfl⟩, rfl⟩, rfl⟩
theorem xk_167_1 : xP 167 1 (.getfield 9, 4, 1000, 0, .null) := ⟨⟨(by decide +kernel : decode cJ0_length_8abf5 1 = .ok (.getfield 9, 3)), rfl, Or.inl ⟨rfl, _, _, _, Or.inl xw_1275, xcf_ok0⟩⟩, rfl⟩
theorem xk_167_4 : xP 167 4 (.arraylength, 5, 0, 0, .null) := ⟨⟨(by decide +kernel : decode cJ0_length_8abf5 4 = .ok (.arraylength, 1)), rfl⟩, rfl⟩
theorem xk_167_5 : xP 167 5 (.aload_n 0, 6, 0, 0, .null) := ⟨⟨⟨(by decide +kernel : decode cJ0_length_8abf5 5 = .ok (.aload_n 0, 1)), rfl⟩, rfl⟩, rfl⟩
theorem xk_167_6 : xP 167 6 (.invokevirtual 335, 9, 169, 1, .null) := ⟨⟨(by decide +kernel : decode cJ0_length_8abf5 6 = .ok (.invokevirtual 335, 3)), rfl, by decide, xhd_169, rfl, _, "java/lang/String", rfl, xrcl_1000, Or.inl ⟨xgen_169, rfl, List.forall_mem_cons.mpr ⟨xw_725, List.forall_mem_cons.mpr ⟨xw_726, List.forall_mem_cons.mpr ⟨xw_727, List.forall_mem_cons.mpr ⟨xw_36, fun _ h => absurd h List.not_mem_nil⟩⟩⟩⟩⟩⟩, rfl⟩
theorem xk_167_9 : xP 167 9 (.ishr, 10, 0, 0, .null) := ⟨⟨(by decide +kernel : decode cJ0_length_8abf5 9 = .ok (.ishr, 1)), rfl⟩, rfl⟩
theorem xk_167_10 : xP 167 10 (.ireturn, 11, 0, 0, .null) := ⟨⟨(by decide +kernel : decode cJ0_length_8abf5 10 = .ok (.ireturn, 1)), rfl⟩, rfl⟩
theorem xkM_167 (pc : Nat) : ∀ e, xcM167 pc = some e → xP 167 pc e := by
  unfold xcM167
  exact xt_if (P := xP 167) (xt_if (P := xP 167) (xt_leaf (P := xP 167) xk_167_0) (xt_if (P := xP 167) (xt_leaf (P := xP 167) xk_167_1) (xt_leaf (P := xP 167) xk_167_4))) (xt_if (P := xP 167) (xt_if (P := xP 167) (xt_leaf (P := xP 167) xk_167_5) (xt_leaf (P := xP 167) xk_167_6)) (xt_if (P := xP 167) (xt_leaf (P := xP 167) xk_167_9) (xt_leaf (P := xP 167) xk_167_10)))
theorem xk_168_0 : xP 168 0 (.aload_n 0, 1, 0, 0, .null) := ⟨⟨⟨(by decide +kernel : decode cJ0_charAt_5068e 0 = .ok (.aload_n 0, 1)), rfl⟩, rfl⟩, rfl⟩
theorem xk_168_1 : xP 168 1 (.invokevirtual 492, 4, 170, 1, .null) := ⟨⟨(by decide +kernel : decode cJ0_charAt_5068e 1 = .ok (.invokevirtual 492, 3)), rfl, by decide, xhd_170, rfl, _, "java/lang/String", rfl, xrcl_1000, Or.inl ⟨xgen_170, rfl, List.forall_mem_cons.mpr ⟨xw_734, List.forall_mem_cons.mpr ⟨xw_735, List.forall_mem_cons.mpr ⟨xw_736, List.forall_mem_cons.mpr ⟨xw_36, fun _ h => absurd h List.not_mem_nil⟩⟩⟩⟩⟩⟩, rfl⟩
theorem xk_168_4 : xP 168 4 (.ifCond .eq 12, 7, 16, 0, .null) := ⟨⟨(by decide +kernel : decode cJ0_charAt_5068e 4 = .ok (.ifCond .eq 12, 3)), rfl, by decide⟩, rfl⟩
theorem xk_168_7 : xP 168 7 (.aload_n 0, 8, 0, 0, .null) := ⟨⟨⟨(by decide +kernel : decode cJ0_charAt_5068e 7 = .ok (.aload_n 0, 1)), rfl⟩, rfl⟩, rfl⟩
theorem xk_168_8 : xP 168 8 (.getfield 9, 11, 1000, 0, .null) := ⟨⟨(by decide +kernel : decode cJ0_charAt_5068e 8 = .ok (.getfield 9, 3)), rfl, Or.inl ⟨rfl, _, _, _, Or.inl xw_1275, xcf_ok0⟩⟩, rfl⟩
theorem xk_168_11 : xP 168 11 (.iload_n 1, 12, 1, 0, .null) := ⟨⟨⟨(by decide +kernel : decode cJ0_charAt_5068e 11 = .ok (.iload_n 1, 1)), rfl⟩, rfl⟩, rfl⟩
theorem xk_168_12 : xP 168 12 (.invokestatic 495, 15, 172, 2, .null) := ⟨⟨(by decide +kernel : decode cJ0_charAt_5068e 12 = .ok (.invokestatic 495, 3)), rfl, fun h => absurd h (by decide), fun h => absurd h (by decide), fun h => absurd h (by decide), fun _ _ _ => ⟨by decide, xhd_172, xgen_172, xw_739, xw_54, Or.inl xw_738⟩⟩, rfl⟩
theorem xk_168_15 : xP 168 15 (.ireturn, 16, 0, 0, .null) := ⟨⟨(by decide +kernel : decode cJ0_charAt_5068e 15 = .ok (.ireturn, 1)), rfl⟩, rfl⟩
theorem xk_168_16 : xP 168 16 (.aload_n 0, 17, 0, 0, .null) := ⟨⟨⟨(by decide +kernel : decode cJ0_charAt_5068e 16 = .ok (.aload_n 0, 1)), rfl⟩, rfl⟩, rfl⟩
theorem xk_168_17 : xP 168 17 (.getfield 9, 20, 1000, 0, .null) := ⟨⟨(by decide +kernel : decode cJ0_charAt_5068e 17 = .ok (.getfield 9, 3)), rfl, Or.inl ⟨rfl, _, _, _, Or.inl xw_1275, xcf_ok0⟩⟩, rfl⟩
theorem xk_168_20 : xP 168 20 (.iload_n 1, 21, 1, 0, .null) := ⟨⟨⟨(by decide +kernel : decode cJ0_charAt_5068e 20 = .ok (.iload_n 1, 1)), rfl⟩, rfl⟩, rfl⟩
theorem xk_168_24 : xP 168 24 (.ireturn, 25, 0, 0, .null) := ⟨⟨(by decide +kernel : decode cJ0_charAt_5068e 24 = .ok (.ireturn, 1)), rfl⟩, rfl⟩
theorem xkM_168 (pc : Nat) : ∀ e, xcM168 pc = some e → xP 168 pc e := by
  unfold xcM168
  exact xt_if (P := xP 168) (xt_if (P := xP 168) (xt_if (P := xP 168) (xt_leaf (P := xP 168) xk_168_0) (xt_if (P := xP 168) (xt_leaf (P := xP 168) xk_168_1) (xt_leaf (P := xP 168) xk_168_4))) (xt_if (P := xP 168) (xt_leaf (P := xP 168) xk_168_7) (xt_if (P := xP 168) (xt_leaf (P := xP 168) xk_168_8) (xt_leaf (P := xP 168) xk_168_11)))) (xt_if (P := xP 168) (xt_if (P := xP 168) (xt_leaf (P := xP 168) xk_168_12) (xt_if (P := xP 168) (xt_leaf (P := xP 168) xk_168_15) (xt_leaf (P := xP 168) xk_168_16))) (xt_if (P := xP 168) (xt_leaf (P := xP 168) xk_168_17) (xt_if (P := xP 168) (xt_leaf (P := xP 168) xk_168_20) (xt_leaf (P := xP 168) xk_168_24))))
theorem xk_169_0 : xP 169 0 (.getstatic 38, 3, 0, 0, .int 1) := ⟨⟨(by decide +kernel : decode cJ0_coder_7d493 0 = .ok (.getstatic 38, 3)), rfl, (fun q h => by cases h), _, _, _, List.mem_of_getElem? (i := 0) rfl, Or.inl xw_729⟩, rfl⟩
theorem xk_169_3 : xP 169 3 (.ifCond .eq 10, 6, 13, 0, .null) := ⟨⟨(by decide +kernel : decode cJ0_coder_7d493 3 = .ok (.ifCond .eq 10, 3)), rfl, by decide⟩, rfl⟩
theorem xk_169_6 : xP 169 6 (.aload_n 0, 7, 0, 0, .null) := ⟨⟨⟨(by decide +kernel : decode cJ0_coder_7d493 6 = .ok (.aload_n 0, 1)), rfl⟩, rfl⟩, rfl⟩
theorem xk_169_7 : xP 169 7 (.getfield 15, 10, 1000, 1, .null) := ⟨⟨(by decide +kernel : decode cJ0_coder_7d493 7 = .ok (.getfield 15, 3)), rfl, Or.inl ⟨rfl, _, _, _, Or.inl xw_1276, xcf_ok1⟩⟩, rfl⟩
theorem xk_169_10 : xP 169 10 (.goto 4, 13, 14, 0, .null) := ⟨⟨(by decide +kernel : decode cJ0_coder_7d493 10 = .ok (.goto 4, 3)), by decide⟩, rfl⟩
theorem xk_169_13 : xP 169 13 (.iconst 1, 14, 0, 0, .int 1) := ⟨⟨⟨(by decide +kernel : decode cJ0_coder_7d493 13 = .ok (.iconst 1, 1)), rfl⟩, by decide⟩, rfl⟩
theorem xk_169_14 : xP 169 14 (.ireturn, 15, 0, 0, .null) := ⟨⟨(by decide +kernel : decode cJ0_coder_7d493 14 = .ok (.ireturn, 1)), rfl⟩, rfl⟩
theorem xkM_169 (pc : Nat) : ∀ e, xcM169 pc = some e → xP 169 pc e := by
  unfold xcM169
  exact xt_if (P := xP 169) (xt_if (P := xP 169) (xt_leaf (P := xP 169) xk_169_0) (xt_if (P := xP 169) (xt_leaf (P := xP 169) xk_169_3) (xt_leaf (P := xP 169) xk_169_6))) (xt_if (P := xP 169) (xt_if (P := xP 169) (xt_leaf (P := xP 169) xk_169_7) (xt_leaf (P := xP 169) xk_169_10)) (xt_if (P := xP 169) (xt_leaf (P := xP 169) xk_169_13) (xt_leaf (P := xP 169) xk_169_14)))
theorem xk_170_0 : xP 170 0 (.getstatic 38, 3, 0, 0, .int 1) := ⟨⟨(by decide +kernel : decode cJ0_isLatin1_aae02 0 = .ok (.getstatic 38, 3)), rfl, (fun q h => by cases h), _, _, _, List.mem_of_getElem? (i := 0) rfl, Or.inl xw_729⟩, rfl⟩
theorem xk_170_3 : xP 170 3 (.ifCond .eq 14, 6, 17, 0, .null) := ⟨⟨(by decide +kernel : decode cJ0_isLatin1_aae02 3 = .ok (.ifCond .eq 14, 3)), rfl, by decide⟩, rfl⟩
theorem xk_170_6 : xP 170 6 (.aload_n 0, 7, 0, 0, .null) := ⟨⟨⟨(by decide +kernel : decode cJ0_isLatin1_aae02 6 = .ok (.aload_n 0, 1)), rfl⟩, rfl⟩, rfl⟩
theorem xk_170_7 : xP 170 7 (.getfield 15, 10, 1000, 1, .null) := ⟨⟨(by decide +kernel : decode cJ0_isLatin1_aae02 7 = .ok (.getfield 15, 3)), rfl, Or.inl ⟨rfl, _, _, _, Or.inl xw_1276, xcf_ok1⟩⟩, rfl⟩
theorem xk_170_10 : xP 170 10 (.ifCond .ne 7, 13, 17, 0, .null) := ⟨⟨(by decide +kernel : decode cJ0_isLatin1_aae02 10 = .ok (.ifCond .ne 7, 3)), rfl, by decide⟩, rfl⟩
theorem xk_170_13 : xP 170 13 (.iconst 1, 14, 0, 0, .int 1) := ⟨⟨⟨(by decide +kernel : decode cJ0_isLatin1_aae02 13 = .ok (.iconst 1, 1)), rfl⟩, by decide⟩, rfl⟩
theorem xk_170_14 : xP 170 14 (.goto 4, 17, 18, 0, .null) := ⟨⟨(by decide +kernel : decode cJ0_isLatin1_aae02 14 = .ok (.goto 4, 3)), by decide⟩, rfl⟩
theorem xk_170_17 : xP 170 17 (.iconst 0, 18, 0, 0, .int 0) := ⟨⟨⟨(by decide +kernel : decode cJ0_isLatin1_aae02 17 = .ok (.iconst 0, 1)), rfl⟩, by decide⟩, rfl⟩
theorem xk_170_18 : xP 170 18 (.ireturn, 19, 0, 0, .null) := ⟨⟨(by decide +kernel : decode cJ0_isLatin1_aae02 18 = .ok (.ireturn, 1)), rfl⟩, rfl⟩
theorem xkM_170 (pc : Nat) : ∀ e, xcM170 pc = some e → xP 170 pc e := by
  unfold xcM170
  exact xt_if (P := xP 170) (xt_if (P := xP 170) (xt_if (P := xP 170) (xt_leaf (P := xP 170) xk_170_0) (xt_leaf (P := xP 170) xk_170_3)) (xt_if (P := xP 170) (xt_leaf (P := xP 170) xk_170_6) (xt_leaf (P := xP 170) xk_170_7))) (xt_if (P := xP 170) (xt_if (P := xP 170) (xt_leaf (P := xP 170) xk_170_10) (xt_leaf (P := xP 170) xk_170_13)) (xt_if (P := xP 170) (xt_leaf (P := xP 170) xk_170_14) (xt_if (P := xP 170) (xt_leaf (P := xP 170) xk_170_17) (xt_leaf (P := xP 170) xk_170_18))))
theorem xk_171_0 : xP 171 0 (.iload_n 0, 1, 0, 0, .null) := ⟨⟨⟨(by decide +kernel : decode cJ0_checkIndex_df160 0 = .ok (.iload_n 0, 1)), rfl⟩, rfl⟩, rfl⟩
theorem xk_171_1 : xP 171 1 (.iload_n 1, 2, 1, 0, .null) := ⟨⟨⟨(by decide +kernel : decode cJ0_checkIndex_df160 1 = .ok (.iload_n 1, 1)), rfl⟩, rfl⟩, rfl⟩
theorem xk_171_8 : xP 171 8 (.pop, 9, 0, 0, .null) := ⟨⟨(by decide +kernel : decode cJ0_checkIndex_df160 8 = .ok (.pop, 1)), rfl⟩, rfl⟩
theorem xk_171_9 : xP 171 9 (.return_, 10, 0, 0, .null) := ⟨⟨(by decide +kernel : decode cJ0_checkIndex_df160 9 = .ok (.return_, 1)), rfl⟩, rfl⟩
theorem xkM_171 (pc : Nat) : ∀ e, xcM171 pc = some e → xP 171 pc e := by
  unfold xcM171
  exact xt_if (P := xP 171) (xt_if (P := xP 171) (xt_leaf (P := xP 171) xk_171_0) (xt_leaf (P := xP 171) xk_171_1)) (xt_if (P := xP 171) (xt_leaf (P := xP 171) xk_171_8) (xt_leaf (P := xP 171) xk_171_9))
theorem xk_172_0 : xP 172 0 (.iload_n 1, 1, 1, 0, .null) := ⟨⟨⟨(by decide +kernel : decode cJ1_charAt_3b067 0 = .ok (.iload_n 1, 1)), rfl⟩, rfl⟩, rfl⟩
theorem xk_172_1 : xP 172 1 (.aload_n 0, 2, 0, 0, .null) := ⟨⟨⟨(by decide +kernel : decode cJ1_charAt_3b067 1 = .ok (.aload_n 0, 1)), rfl⟩, rfl⟩, rfl⟩
theorem xk_172_2 : xP 172 2 (.arraylength, 3, 0, 0, .null) := ⟨⟨(by decide +kernel : decode cJ1_charAt_3b067 2 = .ok (.arraylength, 1)), rfl⟩, rfl⟩
theorem xk_172_3 : xP 172 3 (.invokestatic 9, 6, 171, 2, .null) := ⟨⟨(by decide +kernel : decode cJ1_charAt_3b067 3 = .ok (.invokestatic 9, 3)), rfl, fun h => absurd h (by decide), fun h => absurd h (by decide), fun h => absurd h (by decide), fun _ _ _ => ⟨by decide, xhd_171, xgen_171, xw_742, xw_36, Or.inl xw_741⟩⟩, rfl⟩
theorem xk_172_6 : xP 172 6 (.aload_n 0, 7, 0, 0, .null) := ⟨⟨⟨(by decide +kernel : decode cJ1_charAt_3b067 6 = .ok (.aload_n 0, 1)), rfl⟩, rfl⟩, rfl⟩
theorem xk_172_7 : xP 172 7 (.iload_n 1, 8, 1, 0, .null) := ⟨⟨⟨(by decide +kernel : decode cJ1_charAt_3b067 7 = .ok (.iload_n 1, 1)), rfl⟩, rfl⟩, rfl⟩
theorem xk_172_8 : xP 172 8 (.baload, 9, 0, 0, .null) := ⟨⟨(by decide +kernel : decode cJ1_charAt_3b067 8 = .ok (.baload, 1)), rfl⟩, rfl⟩
theorem xk_172_9 : xP 172 9 (.sipush 255, 12, 0, 0, .int 255) := ⟨⟨(by decide +kernel : decode cJ1_charAt_3b067 9 = .ok (.sipush 255, 3)), rfl, by decide⟩, rfl⟩
theorem xk_172_12 : xP 172 12 (.iand, 13, 0, 0, .null) := ⟨⟨(by decide +kernel : decode cJ1_charAt_3b067 12 = .ok (.iand, 1)), rfl⟩, rfl⟩
theorem xk_172_13 : xP 172 13 (.i2c, 14, 0, 0, .null) := ⟨⟨(by decide +kernel : decode cJ1_charAt_3b067 13 = .ok (.i2c, 1)), rfl⟩, rfl⟩
theorem xk_172_14 : xP 172 14 (.ireturn, 15, 0, 0, .null) := ⟨⟨(by decide +kernel : decode cJ1_charAt_3b067 14 = .ok (.ireturn, 1)), rfl⟩, rfl⟩
theorem xkM_172 (pc : Nat) : ∀ e, xcM172 pc = some e → xP 172 pc e := by
  unfold xcM172
  exact xt_if (P := xP 172) (xt_if (P := xP 172) (xt_if (P := xP 172) (xt_leaf (P := xP 172) xk_172_0) (xt_leaf (P := xP 172) xk_172_1)) (xt_if (P := xP 172) (xt_leaf (P := xP 172) xk_172_2) (xt_if (P := xP 172) (xt_leaf (P := xP 172) xk_172_3) (xt_leaf (P := xP 172) xk_172_6)))) (xt_if (P := xP 172) (xt_if (P := xP 172) (xt_leaf (P := xP 172) xk_172_7) (xt_if (P := xP 172) (xt_leaf (P := xP 172) xk_172_8) (xt_leaf (P := xP 172) xk_172_9))) (xt_if (P := xP 172) (xt_leaf (P := xP 172) xk_172_12) (xt_if (P := xP 172) (xt_leaf (P := xP 172) xk_172_13) (xt_leaf (P := xP 172) xk_172_14))))
theorem xk_173_0 : xP 173 0 (.iload_n 0, 1, 0, 0, .null) := ⟨⟨⟨(by decide +kernel : decode cJ1_canEncode_fc78d 0 = .ok (.iload_n 0, 1)), rfl⟩, rfl⟩, rfl⟩
theorem xk_173_1 : xP 173 1 (.sipush 255, 4, 0, 0, .int 255) := ⟨⟨(by decide +kernel : decode cJ1_canEncode_fc78d 1 = .ok (.sipush 255, 3)), rfl, by decide⟩, rfl⟩
theorem xk_173_4 : xP 173 4 (.if_icmp .gt 7, 7, 11, 0, .null) := ⟨⟨(by decide +kernel : decode cJ1_canEncode_fc78d 4 = .ok (.if_icmp .gt 7, 3)), rfl, by decide⟩, rfl⟩
theorem xk_173_7 : xP 173 7 (.iconst 1, 8, 0, 0, .int 1) := ⟨⟨⟨(by decide +kernel : decode cJ1_canEncode_fc78d 7 = .ok (.iconst 1, 1)), rfl⟩, by decide⟩, rfl⟩
theorem xk_173_8 : xP 173 8 (.goto 4, 11, 12, 0, .null) := ⟨⟨(by decide +kernel : decode cJ1_canEncode_fc78d 8 = .ok (.goto 4, 3)), by decide⟩, rfl⟩
theorem xk_173_11 : xP 173 11 (.iconst 0, 12, 0, 0, .int 0) := ⟨⟨⟨(by decide +kernel : decode cJ1_canEncode_fc78d 11 = .ok (.iconst 0, 1)), rfl⟩, by decide⟩, rfl⟩
theorem xk_173_12 : xP 173 12 (.ireturn, 13, 0, 0, .null) := ⟨⟨(by decide +kernel : decode cJ1_canEncode_fc78d 12 = .ok (.ireturn, 1)), rfl⟩, rfl⟩
theorem xkM_173 (pc : Nat) : ∀ e, xcM173 pc = some e → xP 173 pc e := by
  unfold xcM173
  exact xt_if (P := xP 173) (xt_if (P := xP 173) (xt_leaf (P := xP 173) xk_173_0) (xt_if (P := xP 173) (xt_leaf (P := xP 173) xk_173_1) (xt_leaf (P := xP 173) xk_173_4))) (xt_if (P := xP 173) (xt_if (P := xP 173) (xt_leaf (P := xP 173) xk_173_7) (xt_leaf (P := xP 173) xk_173_8)) (xt_if (P := xP 173) (xt_leaf (P := xP 173) xk_173_11) (xt_leaf (P := xP 173) xk_173_12)))
theorem xk_174_0 : xP 174 0 (.iload_n 1, 1, 1, 0, .null) := ⟨⟨⟨(by decide +kernel : decode cJ6_getChars_ba4f3 0 = .ok (.iload_n 1, 1)), rfl⟩, rfl⟩, rfl⟩
theorem xk_174_1 : xP 174 1 (.istore 5, 3, 5, 0, .null) := ⟨⟨(by decide +kernel : decode cJ6_getChars_ba4f3 1 = .ok (.istore 5, 2)), rfl, rfl⟩, rfl⟩
theorem xk_174_3 : xP 174 3 (.iload_n 0, 4, 0, 0, .null) := ⟨⟨⟨(by decide +kernel : decode cJ6_getChars_ba4f3 3 = .ok (.iload_n 0, 1)), rfl⟩, rfl⟩, rfl⟩
theorem xk_174_4 : xP 174 4 (.ifCond .ge 7, 7, 11, 0, .null) := ⟨⟨(by decide +kernel : decode cJ6_getChars_ba4f3 4 = .ok (.ifCond .ge 7, 3)), rfl, by decide⟩, rfl⟩
theorem xk_174_7 : xP 174 7 (.iconst 1, 8, 0, 0, .int 1) := ⟨⟨⟨(by decide +kernel : decode cJ6_getChars_ba4f3 7 = .ok (.iconst 1, 1)), rfl⟩, by decide⟩, rfl⟩
theorem xk_174_8 : xP 174 8 (.goto 4, 11, 12, 0, .null) := ⟨⟨(by decide +kernel : decode cJ6_getChars_ba4f3 8 = .ok (.goto 4, 3)), by decide⟩, rfl⟩
theorem xk_174_11 : xP 174 11 (.iconst 0, 12, 0, 0, .int 0) := ⟨⟨⟨(by decide +kernel : decode cJ6_getChars_ba4f3 11 = .ok (.iconst 0, 1)), rfl⟩, by decide⟩, rfl⟩
theorem xk_174_12 : xP 174 12 (.istore 6, 14, 6, 0, .null) := ⟨⟨(by decide +kernel : decode cJ6_getChars_ba4f3 12 = .ok (.istore 6, 2)), rfl, rfl⟩, rfl⟩
theorem xk_174_14 : xP 174 14 (.iload 6, 16, 6, 0, .null) := ⟨⟨(by decide +kernel : decode cJ6_getChars_ba4f3 14 = .ok (.iload 6, 2)), rfl, rfl⟩, rfl⟩
theorem xk_174_16 : xP 174 16 (.ifCond .ne 6, 19, 22, 0, .null) := ⟨⟨(by decide +kernel : decode cJ6_getChars_ba4f3 16 = .ok (.ifCond .ne 6, 3)), rfl, by decide⟩, rfl⟩
theorem xk_174_19 : xP 174 19 (.iload_n 0, 20, 0, 0, .null) := ⟨⟨⟨(by decide +kernel : decode cJ6_getChars_ba4f3 19 = .ok (.iload_n 0, 1)), rfl⟩, rfl⟩, rfl⟩
theorem xk_174_20 : xP 174 20 (.ineg, 21, 0, 0, .null) := ⟨⟨(by decide +kernel : decode cJ6_getChars_ba4f3 20 = .ok (.ineg, 1)), rfl⟩, rfl⟩
theorem xk_174_21 : xP 174 21 (.istore_n 0, 22, 0, 0, .null) := ⟨⟨⟨(by decide +kernel : decode cJ6_getChars_ba4f3 21 = .ok (.istore_n 0, 1)), rfl⟩, rfl⟩, rfl⟩
theorem xk_174_22 : xP 174 22 (.iload_n 0, 23, 0, 0, .null) := ⟨⟨⟨(by decide +kernel : decode cJ6_getChars_ba4f3 22 = .ok (.iload_n 0, 1)), rfl⟩, rfl⟩, rfl⟩
theorem xk_174_23 : xP 174 23 (.bipush (-100), 25, 0, 0, .int (-100)) := ⟨⟨(by decide +kernel : decode cJ6_getChars_ba4f3 23 = .ok (.bipush (-100), 2)), rfl, by decide⟩, rfl⟩
theorem xk_174_25 : xP 174 25 (.if_icmp .gt 47, 28, 72, 0, .null) := ⟨⟨(by decide +kernel : decode cJ6_getChars_ba4f3 25 = .ok (.if_icmp .gt 47, 3)), rfl, by decide⟩, rfl⟩
theorem xk_174_28 : xP 174 28 (.iload_n 0, 29, 0, 0, .null) := ⟨⟨⟨(by decide +kernel : decode cJ6_getChars_ba4f3 28 = .ok (.iload_n 0, 1)), rfl⟩, rfl⟩, rfl⟩
theorem xk_174_29 : xP 174 29 (.bipush 100, 31, 0, 0, .int 100) := ⟨⟨(by decide +kernel : decode cJ6_getChars_ba4f3 29 = .ok (.bipush 100, 2)), rfl, by decide⟩, rfl⟩
theorem xk_174_31 : xP 174 31 (.idiv, 32, 0, 0, .null) := ⟨⟨(by decide +kernel : decode cJ6_getChars_ba4f3 31 = .ok (.idiv, 1)), rfl⟩, rfl⟩
theorem xk_174_32 : xP 174 32 (.istore_n 3, 33, 3, 0, .null) := ⟨⟨⟨(by decide +kernel : decode cJ6_getChars_ba4f3 32 = .ok (.istore_n 3, 1)), rfl⟩, rfl⟩, rfl⟩
theorem xk_174_33 : xP 174 33 (.iload_n 3, 34, 3, 0, .null) := ⟨⟨⟨(by decide +kernel : decode cJ6_getChars_ba4f3 33 = .ok (.iload_n 3, 1)), rfl⟩, rfl⟩, rfl⟩
theorem xk_174_34 : xP 174 34 (.bipush 100, 36, 0, 0, .int 100) := ⟨⟨(by decide +kernel : decode cJ6_getChars_ba4f3 34 = .ok (.bipush 100, 2)), rfl, by decide⟩, rfl⟩
theorem xk_174_36 : xP 174 36 (.imul, 37, 0, 0, .null) := ⟨⟨(by decide +kernel : decode cJ6_getChars_ba4f3 36 = .ok (.imul, 1)), rfl⟩, rfl⟩
theorem xk_174_37 : xP 174 37 (.iload_n 0, 38, 0, 0, .null) := ⟨⟨⟨(by decide +kernel : decode cJ6_getChars_ba4f3 37 = .ok (.iload_n 0, 1)), rfl⟩, rfl⟩, rfl⟩
theorem xk_174_38 : xP 174 38 (.isub, 39, 0, 0, .null) := ⟨⟨(by decide +kernel : decode cJ6_getChars_ba4f3 38 = .ok (.isub, 1)), rfl⟩, rfl⟩
theorem xk_174_39 : xP 174 39 (.istore 4, 41, 4, 0, .null) := ⟨⟨(by decide +kernel : decode cJ6_getChars_ba4f3 39 = .ok (.istore 4, 2)), rfl, rfl⟩, rfl⟩
theorem xk_174_41 : xP 174 41 (.iload_n 3, 42, 3, 0, .null) := ⟨⟨⟨(by decide +kernel : decode cJ6_getChars_ba4f3 41 = .ok (.iload_n 3, 1)), rfl⟩, rfl⟩, rfl⟩
theorem xk_174_42 : xP 174 42 (.istore_n 0, 43, 0, 0, .null) := ⟨⟨⟨(by decide +kernel : decode cJ6_getChars_ba4f3 42 = .ok (.istore_n 0, 1)), rfl⟩, rfl⟩, rfl⟩
theorem xk_174_43 : xP 174 43 (.aload_n 2, 44, 2, 0, .null) := ⟨⟨⟨(by decide +kernel : decode cJ6_getChars_ba4f3 43 = .ok (.aload_n 2, 1)), rfl⟩, rfl⟩, rfl⟩
theorem xk_174_44 : xP 174 44 (.iinc 5 (-1), 47, 5, 0, .int (-1)) := ⟨⟨(by decide +kernel : decode cJ6_getChars_ba4f3 44 = .ok (.iinc 5 (-1), 3)), rfl, rfl, by decide⟩, rfl⟩
theorem xk_174_47 : xP 174 47 (.iload 5, 49, 5, 0, .null) := ⟨⟨(by decide +kernel : decode cJ6_getChars_ba4f3 47 = .ok (.iload 5, 2)), rfl, rfl⟩, rfl⟩
theorem xk_174_49 : xP 174 49 (.getstatic 83, 52, 0, 0, .ref 1000094) := ⟨⟨(by decide +kernel : decode cJ6_getChars_ba4f3 49 = .ok (.getstatic 83, 3)), rfl, fun q h => by cases h; decide, _, _, _, List.mem_of_getElem? (i := 15) rfl, Or.inl xw_1210⟩, rfl⟩
theorem xk_174_52 : xP 174 52 (.iload 4, 54, 4, 0, .null) := ⟨⟨(by decide +kernel : decode cJ6_getChars_ba4f3 52 = .ok (.iload 4, 2)), rfl, rfl⟩, rfl⟩
theorem xk_174_54 : xP 174 54 (.baload, 55, 0, 0, .null) := ⟨⟨(by decide +kernel : decode cJ6_getChars_ba4f3 54 = .ok (.baload, 1)), rfl⟩, rfl⟩
theorem xk_174_55 : xP 174 55 (.bastore, 56, 0, 0, .null) := ⟨⟨(by decide +kernel : decode cJ6_getChars_ba4f3 55 = .ok (.bastore, 1)), rfl⟩, rfl⟩
theorem xk_174_56 : xP 174 56 (.aload_n 2, 57, 2, 0, .null) := ⟨⟨⟨(by decide +kernel : decode cJ6_getChars_ba4f3 56 = .ok (.aload_n 2, 1)), rfl⟩, rfl⟩, rfl⟩
theorem xk_174_57 : xP 174 57 (.iinc 5 (-1), 60, 5, 0, .int (-1)) := ⟨⟨(by decide +kernel : decode cJ6_getChars_ba4f3 57 = .ok (.iinc 5 (-1), 3)), rfl, rfl, by decide⟩, rfl⟩
theorem xk_174_60 : xP 174 60 (.iload 5, 62, 5, 0, .null) := ⟨⟨(by decide +kernel : decode cJ6_getChars_ba4f3 60 = .ok (.iload 5, 2)), rfl, rfl⟩, rfl⟩
theorem xk_174_62 : xP 174 62 (.getstatic 87, 65, 0, 0, .ref 1000093) := ⟨⟨(by decide +kernel : decode cJ6_getChars_ba4f3 62 = .ok (.getstatic 87, 3)), rfl, fun q h => by cases h; decide, _, _, _, List.mem_of_getElem? (i := 14) rfl, Or.inl xw_1212⟩, rfl⟩
theorem xk_174_65 : xP 174 65 (.iload 4, 67, 4, 0, .null) := ⟨⟨(by decide +kernel : decode cJ6_getChars_ba4f3 65 = .ok (.iload 4, 2)), rfl, rfl⟩, rfl⟩
theorem xk_174_67 : xP 174 67 (.baload, 68, 0, 0, .null) := ⟨⟨(by decide +kernel : decode cJ6_getChars_ba4f3 67 = .ok (.baload, 1)), rfl⟩, rfl⟩
theorem xk_174_68 : xP 174 68 (.bastore, 69, 0, 0, .null) := ⟨⟨(by decide +kernel : decode cJ6_getChars_ba4f3 68 = .ok (.bastore, 1)), rfl⟩, rfl⟩
theorem xk_174_69 : xP 174 69 (.goto (-47), 72, 22, 0, .null) := ⟨⟨(by decide +kernel : decode cJ6_getChars_ba4f3 69 = .ok (.goto (-47), 3)), by decide⟩, rfl⟩
theorem xk_174_72 : xP 174 72 (.aload_n 2, 73, 2, 0, .null) := ⟨⟨⟨(by decide +kernel : decode cJ6_getChars_ba4f3 72 = .ok (.aload_n 2, 1)), rfl⟩, rfl⟩, rfl⟩
theorem xk_174_73 : xP 174 73 (.iinc 5 (-1), 76, 5, 0, .int (-1)) := ⟨⟨(by decide +kernel : decode cJ6_getChars_ba4f3 73 = .ok (.iinc 5 (-1), 3)), rfl, rfl, by decide⟩, rfl⟩
theorem xk_174_76 : xP 174 76 (.iload 5, 78, 5, 0, .null) := ⟨⟨(by decide +kernel : decode cJ6_getChars_ba4f3 76 = .ok (.iload 5, 2)), rfl, rfl⟩, rfl⟩
theorem xk_174_78 : xP 174 78 (.getstatic 83, 81, 0, 0, .ref 1000094) := ⟨⟨(by decide +kernel : decode cJ6_getChars_ba4f3 78 = .ok (.getstatic 83, 3)), rfl, fun q h => by cases h; decide, _, _, _, List.mem_of_getElem? (i := 15) rfl, Or.inl xw_1210⟩, rfl⟩
theorem xk_174_81 : xP 174 81 (.iload_n 0, 82, 0, 0, .null) := ⟨⟨⟨(by decide +kernel : decode cJ6_getChars_ba4f3 81 = .ok (.iload_n 0, 1)), rfl⟩, rfl⟩, rfl⟩
theorem xk_174_82 : xP 174 82 (.ineg, 83, 0, 0, .null) := ⟨⟨(by decide +kernel : decode cJ6_getChars_ba4f3 82 = .ok (.ineg, 1)), rfl⟩, rfl⟩
theorem xk_174_83 : xP 174 83 (.baload, 84, 0, 0, .null) := ⟨⟨(by decide +kernel : decode cJ6_getChars_ba4f3 83 = .ok (.baload, 1)), rfl⟩, rfl⟩
theorem xk_174_84 : xP 174 84 (.bastore, 85, 0, 0, .null) := ⟨⟨(by decide +kernel : decode cJ6_getChars_ba4f3 84 = .ok (.bastore, 1)), rfl⟩, rfl⟩
theorem xk_174_85 : xP 174 85 (.iload_n 0, 86, 0, 0, .null) := ⟨⟨⟨(by decide +kernel : decode cJ6_getChars_ba4f3 85 = .ok (.iload_n 0, 1)), rfl⟩, rfl⟩, rfl⟩
theorem xk_174_86 : xP 174 86 (.bipush (-9), 88, 0, 0, .int (-9)) := ⟨⟨(by decide +kernel : decode cJ6_getChars_ba4f3 86 = .ok (.bipush (-9), 2)), rfl, by decide⟩, rfl⟩
theorem xk_174_88 : xP 174 88 (.if_icmp .ge 16, 91, 104, 0, .null) := ⟨⟨(by decide +kernel : decode cJ6_getChars_ba4f3 88 = .ok (.if_icmp .ge 16, 3)), rfl, by decide⟩, rfl⟩
theorem xk_174_91 : xP 174 91 (.aload_n 2, 92, 2, 0, .null) := ⟨⟨⟨(by decide +kernel : decode cJ6_getChars_ba4f3 91 = .ok (.aload_n 2, 1)), rfl⟩, rfl⟩, rfl⟩
theorem xk_174_92 : xP 174 92 (.iinc 5 (-1), 95, 5, 0, .int (-1)) := ⟨⟨(by decide +kernel : decode cJ6_getChars_ba4f3 92 = .ok (.iinc 5 (-1), 3)), rfl, rfl, by decide⟩, rfl⟩
theorem xk_174_95 : xP 174 95 (.iload 5, 97, 5, 0, .null) := ⟨⟨(by decide +kernel : decode cJ6_getChars_ba4f3 95 = .ok (.iload 5, 2)), rfl, rfl⟩, rfl⟩
theorem xk_174_97 : xP 174 97 (.getstatic 87, 100, 0, 0, .ref 1000093) := ⟨⟨(by decide +kernel : decode cJ6_getChars_ba4f3 97 = .ok (.getstatic 87, 3)), rfl, fun q h => by cases h; decide, _, _, _, List.mem_of_getElem? (i := 14) rfl, Or.inl xw_1212⟩, rfl⟩
theorem xk_174_100 : xP 174 100 (.iload_n 0, 101, 0, 0, .null) := ⟨⟨⟨(by decide +kernel : decode cJ6_getChars_ba4f3 100 = .ok (.iload_n 0, 1)), rfl⟩, rfl⟩, rfl⟩
theorem xk_174_101 : xP 174 101 (.ineg, 102, 0, 0, .null) := ⟨⟨(by decide +kernel : decode cJ6_getChars_ba4f3 101 = .ok (.ineg, 1)), rfl⟩, rfl⟩
theorem xk_174_102 : xP 174 102 (.baload, 103, 0, 0, .null) := ⟨⟨(by decide +kernel : decode cJ6_getChars_ba4f3 102 = .ok (.baload, 1)), rfl⟩, rfl⟩
theorem xk_174_103 : xP 174 103 (.bastore, 104, 0, 0, .null) := ⟨⟨(by decide +kernel : decode cJ6_getChars_ba4f3 103 = .ok (.bastore, 1)), rfl⟩, rfl⟩
theorem xk_174_104 : xP 174 104 (.iload 6, 106, 6, 0, .null) := ⟨⟨(by decide +kernel : decode cJ6_getChars_ba4f3 104 = .ok (.iload 6, 2)), rfl, rfl⟩, rfl⟩
theorem xk_174_106 : xP 174 106 (.ifCond .eq 12, 109, 118, 0, .null) := ⟨⟨(by decide +kernel : decode cJ6_getChars_ba4f3 106 = .ok (.ifCond .eq 12, 3)), rfl, by decide⟩, rfl⟩
theorem xk_174_109 : xP 174 109 (.aload_n 2, 110, 2, 0, .null) := ⟨⟨⟨(by decide +kernel : decode cJ6_getChars_ba4f3 109 = .ok (.aload_n 2, 1)), rfl⟩, rfl⟩, rfl⟩
theorem xk_174_110 : xP 174 110 (.iinc 5 (-1), 113, 5, 0, .int (-1)) := ⟨⟨(by decide +kernel : decode cJ6_getChars_ba4f3 110 = .ok (.iinc 5 (-1), 3)), rfl, rfl, by decide⟩, rfl⟩
theorem xk_174_113 : xP 174 113 (.iload 5, 115, 5, 0, .null) := ⟨⟨(by decide +kernel : decode cJ6_getChars_ba4f3 113 = .ok (.iload 5, 2)), rfl, rfl⟩, rfl⟩
theorem xk_174_115 : xP 174 115 (.bipush 45, 117, 0, 0, .int 45) := ⟨⟨(by decide +kernel : decode cJ6_getChars_ba4f3 115 = .ok (.bipush 45, 2)), rfl, by decide⟩, rfl⟩
theorem xk_174_117 : xP 174 117 (.bastore, 118, 0, 0, .null) := ⟨⟨(by decide +kernel : decode cJ6_getChars_ba4f3 117 = .ok (.bastore, 1)), rfl⟩, rfl⟩
theorem xk_174_118 : xP 174 118 (.iload 5, 120, 5, 0, .null) := ⟨⟨(by decide +kernel : decode cJ6_getChars_ba4f3 118 = .ok (.iload 5, 2)), rfl, rfl⟩, rfl⟩
theorem xk_174_120 : xP 174 120 (.ireturn, 121, 0, 0, .null) := ⟨⟨(by decide +kernel : decode cJ6_getChars_ba4f3 120 = .ok (.ireturn, 1)), rfl⟩, rfl⟩
theorem xkM_174 (pc : Nat) : ∀ e, xcM174 pc = some e → xP 174 pc e := by
  unfold xcM174
  exact xt_if (P := xP 174) (xt_if (P := xP 174) (xt_if (P := xP 174) (xt_if (P := xP 174) (xt_if (P := xP 174) (xt_if (P := xP 174) (xt_leaf (P := xP 174) xk_174_0) (xt_leaf (P := xP 174) xk_174_1)) (xt_if (P := xP 174) (xt_leaf (P := xP 174) xk_174_3) (xt_leaf (P := xP 174) xk_174_4))) (xt_if (P := xP 174) (xt_if (P := xP 174) (xt_leaf (P := xP 174) xk_174_7) (xt_leaf (P := xP 174) xk_174_8)) (xt_if (P := xP 174) (xt_leaf (P := xP 174) xk_174_11) (xt_leaf (P := xP 174) xk_174_12)))) (xt_if (P := xP 174) (xt_if (P := xP 174) (xt_if (P := xP 174) (xt_leaf (P := xP 174) xk_174_14) (xt_leaf (P := xP 174) xk_174_16)) (xt_if (P := xP 174) (xt_leaf (P := xP 174) xk_174_19) (xt_leaf (P := xP 174) xk_174_20))) (xt_if (P := xP 174) (xt_if (P := xP 174) (xt_leaf (P := xP 174) xk_174_21) (xt_leaf (P := xP 174) xk_174_22)) (xt_if (P := xP 174) (xt_leaf (P := xP 174) xk_174_23) (xt_if (P := xP 174) (xt_leaf (P := xP 174) xk_174_25) (xt_leaf (P := xP 174) xk_174_28)))))) (xt_if (P := xP 174) (xt_if (P := xP 174) (xt_if (P := xP 174) (xt_if (P := xP 174) (xt_leaf (P := xP 174) xk_174_29) (xt_leaf (P := xP 174) xk_174_31)) (xt_if (P := xP 174) (xt_leaf (P := xP 174) xk_174_32) (xt_leaf (P := xP 174) xk_174_33))) (xt_if (P := xP 174) (xt_if (P := xP 174) (xt_leaf (P := xP 174) xk_174_34) (xt_leaf (P := xP 174) xk_174_36)) (xt_if (P := xP 174) (xt_leaf (P := xP 174) xk_174_37) (xt_if (P := xP 174) (xt_leaf (P := xP 174) xk_174_38) (xt_leaf (P := xP 174) xk_174_39))))) (xt_if (P := xP 174) (xt_if (P := xP 174) (xt_if (P := xP 174) (xt_leaf (P := xP 174) xk_174_41) (xt_leaf (P := xP 174) xk_174_42)) (xt_if (P := xP 174) (xt_leaf (P := xP 174) xk_174_43) (xt_leaf (P := xP 174) xk_174_44))) (xt_if (P := xP 174) (xt_if (P := xP 174) (xt_leaf (P := xP 174) xk_174_47) (xt_leaf (P := xP 174) xk_174_49)) (xt_if (P := xP 174) (xt_leaf (P := xP 174) xk_174_52) (xt_if (P := xP 174) (xt_leaf (P := xP 174) xk_174_54) (xt_leaf (P := xP 174) xk_174_55))))))) (xt_if (P := xP 174) (xt_if (P := xP 174) (xt_if (P := xP 174) (xt_if (P := xP 174) (xt_if (P := xP 174) (xt_leaf (P := xP 174) xk_174_56) (xt_leaf (P := xP 174) xk_174_57)) (xt_if (P := xP 174) (xt_leaf (P := xP 174) xk_174_60) (xt_leaf (P := xP 174) xk_174_62))) (xt_if (P := xP 174) (xt_if (P := xP 174) (xt_leaf (P := xP 174) xk_174_65) (xt_leaf (P := xP 174) xk_174_67)) (xt_if (P := xP 174) (xt_leaf (P := xP 174) xk_174_68) (xt_if (P := xP 174) (xt_leaf (P := xP 174) xk_174_69) (xt_leaf (P := xP 174) xk_174_72))))) (xt_if (P := xP 174) (xt_if (P := xP 174) (xt_if (P := xP 174) (xt_leaf (P := xP 174) xk_174_73) (xt_leaf (P := xP 174) xk_174_76)) (xt_if (P := xP 174) (xt_leaf (P := xP 174) xk_174_78) (xt_leaf (P := xP 174) xk_174_81))) (xt_if (P := xP 174) (xt_if (P := xP 174) (xt_leaf (P := xP 174) xk_174_82) (xt_leaf (P := xP 174) xk_174_83)) (xt_if (P := xP 174) (xt_leaf (P := xP 174) xk_174_84) (xt_if (P := xP 174) (xt_leaf (P := xP 174) xk_174_85) (xt_leaf (P := xP 174) xk_174_86)))))) (xt_if (P := xP 174) (xt_if (P := xP 174) (xt_if (P := xP 174) (xt_if (P := xP 174) (xt_leaf (P := xP 174) xk_174_88) (xt_leaf (P := xP 174) xk_174_91)) (xt_if (P := xP 174) (xt_leaf (P := xP 174) xk_174_92) (xt_leaf (P := xP 174) xk_174_95))) (xt_if (P := xP 174) (xt_if (P := xP 174) (xt_leaf (P := xP 174) xk_174_97) (xt_leaf (P := xP 174) xk_174_100)) (xt_if (P := xP 174) (xt_leaf (P := xP 174) xk_174_101) (xt_if (P := xP 174) (xt_leaf (P := xP 174) xk_174_102) (xt_leaf (P := xP 174) xk_174_103))))) (xt_if (P := xP 174) (xt_if (P := xP 174) (xt_if (P := xP 174) (xt_leaf (P := xP 174) xk_174_104) (xt_leaf (P := xP 174) xk_174_106)) (xt_if (P := xP 174) (xt_leaf (P := xP 174) xk_174_109) (xt_leaf (P := xP 174) xk_174_110))) (xt_if (P := xP 174) (xt_if (P := xP 174) (xt_leaf (P := xP 174) xk_174_113) (xt_leaf (P := xP 174) xk_174_115)) (xt_if (P := xP 174) (xt_leaf (P := xP 174) xk_174_117) (xt_if (P := xP 174) (xt_leaf (P := xP 174) xk_174_118) (xt_leaf (P := xP 174) xk_174_120)))))))
theorem xk_175_0 : xP 175 0 (.iconst 1, 1, 0, 0, .int 1) := ⟨⟨⟨(by decide +kernel : decode cJ6_stringSize_0f7a4 0 = .ok (.iconst 1, 1)), rfl⟩, by decide⟩, rfl⟩
theorem xk_175_1 : xP 175 1 (.istore_n 1, 2, 1, 0, .null) := ⟨⟨⟨(by decide +kernel : decode cJ6_stringSize_0f7a4 1 = .ok (.istore_n 1, 1)), rfl⟩, rfl⟩, rfl⟩
theorem xk_175_2 : xP 175 2 (.iload_n 0, 3, 0, 0, .null) := ⟨⟨⟨(by decide +kernel : decode cJ6_stringSize_0f7a4 2 = .ok (.iload_n 0, 1)), rfl⟩, rfl⟩, rfl⟩
theorem xk_175_3 : xP 175 3 (.ifCond .lt 8, 6, 11, 0, .null) := ⟨⟨(by decide +kernel : decode cJ6_stringSize_0f7a4 3 = .ok (.ifCond .lt 8, 3)), rfl, by decide⟩, rfl⟩
theorem xk_175_6 : xP 175 6 (.iconst 0, 7, 0, 0, .int 0) := ⟨⟨⟨(by decide +kernel : decode cJ6_stringSize_0f7a4 6 = .ok (.iconst 0, 1)), rfl⟩, by decide⟩, rfl⟩
theorem xk_175_7 : xP 175 7 (.istore_n 1, 8, 1, 0, .null) := ⟨⟨⟨(by decide +kernel : decode cJ6_stringSize_0f7a4 7 = .ok (.istore_n 1, 1)), rfl⟩, rfl⟩, rfl⟩
theorem xk_175_8 : xP 175 8 (.iload_n 0, 9, 0, 0, .null) := ⟨⟨⟨(by decide +kernel : decode cJ6_stringSize_0f7a4 8 = .ok (.iload_n 0, 1)), rfl⟩, rfl⟩, rfl⟩
theorem xk_175_9 : xP 175 9 (.ineg, 10, 0, 0, .null) := ⟨⟨(by decide +kernel : decode cJ6_stringSize_0f7a4 9 = .ok (.ineg, 1)), rfl⟩, rfl⟩
theorem xk_175_10 : xP 175 10 (.istore_n 0, 11, 0, 0, .null) := ⟨⟨⟨(by decide +kernel : decode cJ6_stringSize_0f7a4 10 = .ok (.istore_n 0, 1)), rfl⟩, rfl⟩, rfl⟩
theorem xk_175_11 : xP 175 11 (.bipush (-10), 13, 0, 0, .int (-10)) := ⟨⟨(by decide +kernel : decode cJ6_stringSize_0f7a4 11 = .ok (.bipush (-10), 2)), rfl, by decide⟩, rfl⟩
theorem xk_175_13 : xP 175 13 (.istore_n 2, 14, 2, 0, .null) := ⟨⟨⟨(by decide +kernel : decode cJ6_stringSize_0f7a4 13 = .ok (.istore_n 2, 1)), rfl⟩, rfl⟩, rfl⟩
theorem xk_175_14 : xP 175 14 (.iconst 1, 15, 0, 0, .int 1) := ⟨⟨⟨(by decide +kernel : decode cJ6_stringSize_0f7a4 14 = .ok (.iconst 1, 1)), rfl⟩, by decide⟩, rfl⟩
theorem xk_175_15 : xP 175 15 (.istore_n 3, 16, 3, 0, .null) := ⟨⟨⟨(by decide +kernel : decode cJ6_stringSize_0f7a4 15 = .ok (.istore_n 3, 1)), rfl⟩, rfl⟩, rfl⟩
theorem xk_175_16 : xP 175 16 (.iload_n 3, 17, 3, 0, .null) := ⟨⟨⟨(by decide +kernel : decode cJ6_stringSize_0f7a4 16 = .ok (.iload_n 3, 1)), rfl⟩, rfl⟩, rfl⟩
theorem xk_175_17 : xP 175 17 (.bipush 10, 19, 0, 0, .int 10) := ⟨⟨(by decide +kernel : decode cJ6_stringSize_0f7a4 17 = .ok (.bipush 10, 2)), rfl, by decide⟩, rfl⟩
theorem xk_175_19 : xP 175 19 (.if_icmp .ge 23, 22, 42, 0, .null) := ⟨⟨(by decide +kernel : decode cJ6_stringSize_0f7a4 19 = .ok (.if_icmp .ge 23, 3)), rfl, by decide⟩, rfl⟩
theorem xk_175_22 : xP 175 22 (.iload_n 0, 23, 0, 0, .null) := ⟨⟨⟨(by decide +kernel : decode cJ6_stringSize_0f7a4 22 = .ok (.iload_n 0, 1)), rfl⟩, rfl⟩, rfl⟩
theorem xk_175_23 : xP 175 23 (.iload_n 2, 24, 2, 0, .null) := ⟨⟨⟨(by decide +kernel : decode cJ6_stringSize_0f7a4 23 = .ok (.iload_n 2, 1)), rfl⟩, rfl⟩, rfl⟩
theorem xk_175_24 : xP 175 24 (.if_icmp .le 7, 27, 31, 0, .null) := ⟨⟨(by decide +kernel : decode cJ6_stringSize_0f7a4 24 = .ok (.if_icmp .le 7, 3)), rfl, by decide⟩, rfl⟩
theorem xk_175_27 : xP 175 27 (.iload_n 3, 28, 3, 0, .null) := ⟨⟨⟨(by decide +kernel : decode cJ6_stringSize_0f7a4 27 = .ok (.iload_n 3, 1)), rfl⟩, rfl⟩, rfl⟩
theorem xk_175_28 : xP 175 28 (.iload_n 1, 29, 1, 0, .null) := ⟨⟨⟨(by decide +kernel : decode cJ6_stringSize_0f7a4 28 = .ok (.iload_n 1, 1)), rfl⟩, rfl⟩, rfl⟩
theorem xk_175_29 : xP 175 29 (.iadd, 30, 0, 0, .null) := ⟨⟨(by decide +kernel : decode cJ6_stringSize_0f7a4 29 = .ok (.iadd, 1)), rfl⟩, rfl⟩
theorem xk_175_30 : xP 175 30 (.ireturn, 31, 0, 0, .null) := ⟨⟨(by decide +kernel : decode cJ6_stringSize_0f7a4 30 = .ok (.ireturn, 1)), rfl⟩, rfl⟩
theorem xk_175_31 : xP 175 31 (.bipush 10, 33, 0, 0, .int 10) := ⟨⟨(by decide +kernel : decode cJ6_stringSize_0f7a4 31 = .ok (.bipush 10, 2)), rfl, by decide⟩, rfl⟩
theorem xk_175_33 : xP 175 33 (.iload_n 2, 34, 2, 0, .null) := ⟨⟨⟨(by decide +kernel : decode cJ6_stringSize_0f7a4 33 = .ok (.iload_n 2, 1)), rfl⟩, rfl⟩, rfl⟩
theorem xk_175_34 : xP 175 34 (.imul, 35, 0, 0, .null) := ⟨⟨(by decide +kernel : decode cJ6_stringSize_0f7a4 34 = .ok (.imul, 1)), rfl⟩, rfl⟩
theorem xk_175_35 : xP 175 35 (.istore_n 2, 36, 2, 0, .null) := ⟨⟨⟨(by decide +kernel : decode cJ6_stringSize_0f7a4 35 = .ok (.istore_n 2, 1)), rfl⟩, rfl⟩, rfl⟩
theorem xk_175_36 : xP 175 36 (.iinc 3 1, 39, 3, 0, .int 1) := ⟨⟨(by decide +kernel : decode cJ6_stringSize_0f7a4 36 = .ok (.iinc 3 1, 3)), rfl, rfl, by decide⟩, rfl⟩
theorem xk_175_39 : xP 175 39 (.goto (-23), 42, 16, 0, .null) := ⟨⟨(by decide +kernel : decode cJ6_stringSize_0f7a4 39 = .ok (.goto (-23), 3)), by decide⟩, rfl⟩
theorem xk_175_42 : xP 175 42 (.bipush 10, 44, 0, 0, .int 10) := ⟨⟨(by decide +kernel : decode cJ6_stringSize_0f7a4 42 = .ok (.bipush 10, 2)), rfl, by decide⟩, rfl⟩
theorem xk_175_44 : xP 175 44 (.iload_n 1, 45, 1, 0, .null) := ⟨⟨⟨(by decide +kernel : decode cJ6_stringSize_0f7a4 44 = .ok (.iload_n 1, 1)), rfl⟩, rfl⟩, rfl⟩
theorem xk_175_45 : xP 175 45 (.iadd, 46, 0, 0, .null) := ⟨⟨(by decide +kernel : decode cJ6_stringSize_0f7a4 45 = .ok (.iadd, 1)), rfl⟩, rfl⟩
theorem xk_175_46 : xP 175 46 (.ireturn, 47, 0, 0, .null) := ⟨⟨(by decide +kernel : decode cJ6_stringSize_0f7a4 46 = .ok (.ireturn, 1)), rfl⟩, rfl⟩
theorem xkM_175 (pc : Nat) : ∀ e, xcM175 pc = some e → xP 175 pc e := by
  unfold xcM175
  exact xt_if (P := xP 175) (xt_if (P := xP 175) (xt_if (P := xP 175) (xt_if (P := xP 175) (xt_if (P := xP 175) (xt_leaf (P := xP 175) xk_175_0) (xt_leaf (P := xP 175) xk_175_1)) (xt_if (P := xP 175) (xt_leaf (P := xP 175) xk_175_2) (xt_leaf (P := xP 175) xk_175_3))) (xt_if (P := xP 175) (xt_if (P := xP 175) (xt_leaf (P := xP 175) xk_175_6) (xt_leaf (P := xP 175) xk_175_7)) (xt_if (P := xP 175) (xt_leaf (P := xP 175) xk_175_8) (xt_leaf (P := xP 175) xk_175_9)))) (xt_if (P := xP 175) (xt_if (P := xP 175) (xt_if (P := xP 175) (xt_leaf (P := xP 175) xk_175_10) (xt_leaf (P := xP 175) xk_175_11)) (xt_if (P := xP 175) (xt_leaf (P := xP 175) xk_175_13) (xt_leaf (P := xP 175) xk_175_14))) (xt_if (P := xP 175) (xt_if (P := xP 175) (xt_leaf (P := xP 175) xk_175_15) (xt_leaf (P := xP 175) xk_175_16)) (xt_if (P := xP 175) (xt_leaf (P := xP 175) xk_175_17) (xt_leaf (P := xP 175) xk_175_19))))) (xt_if (P := xP 175) (xt_if (P := xP 175) (xt_if (P := xP 175) (xt_if (P := xP 175) (xt_leaf (P := xP 175) xk_175_22) (xt_leaf (P := xP 175) xk_175_23)) (xt_if (P := xP 175) (xt_leaf (P := xP 175) xk_175_24) (xt_leaf (P := xP 175) xk_175_27))) (xt_if (P := xP 175) (xt_if (P := xP 175) (xt_leaf (P := xP 175) xk_175_28) (xt_leaf (P := xP 175) xk_175_29)) (xt_if (P := xP 175) (xt_leaf (P := xP 175) xk_175_30) (xt_leaf (P := xP 175) xk_175_31)))) (xt_if (P := xP 175) (xt_if (P := xP 175) (xt_if (P := xP 175) (xt_leaf (P := xP 175) xk_175_33) (xt_leaf (P := xP 175) xk_175_34)) (xt_if (P := xP 175) (xt_leaf (P := xP 175) xk_175_35) (xt_leaf (P := xP 175) xk_175_36))) (xt_if (P := xP 175) (xt_if (P := xP 175) (xt_leaf (P := xP 175) xk_175_39) (xt_leaf (P := xP 175) xk_175_42)) (xt_if (P := xP 175) (xt_leaf (P := xP 175) xk_175_44) (xt_if (P := xP 175) (xt_leaf (P := xP 175) xk_175_45) (xt_leaf (P := xP 175) xk_175_46))))))
theorem xk_176_0 : xP 176 0 (.iload_n 0, 1, 0, 0, .null) := ⟨⟨⟨(by decide +kernel : decode cJ6_bitCount_0f7a4 0 = .ok (.iload_n 0, 1)), rfl⟩, rfl⟩, rfl⟩
theorem xk_176_1 : xP 176 1 (.iload_n 0, 2, 0, 0, .null) := ⟨⟨⟨(by decide +kernel : decode cJ6_bitCount_0f7a4 1 = .ok (.iload_n 0, 1)), rfl⟩, rfl⟩, rfl⟩
theorem xk_176_2 : xP 176 2 (.iconst 1, 3, 0, 0, .int 1) := ⟨⟨⟨(by decide +kernel : decode cJ6_bitCount_0f7a4 2 = .ok (.iconst 1, 1)), rfl⟩, by decide⟩, rfl⟩
theorem xk_176_3 : xP 176 3 (.iushr, 4, 0, 0, .null) := ⟨⟨(by decide +kernel : decode cJ6_bitCount_0f7a4 3 = .ok (.iushr, 1)), rfl⟩, rfl⟩
theorem xk_176_4 : xP 176 4 (.ldc_w 265, 7, 0, 0, .int 1431655765) := ⟨⟨(by decide +kernel : decode cJ6_bitCount_0f7a4 4 = .ok (.ldc_w 265, 3)), rfl, _, rfl, xw_576⟩, rfl⟩
theorem xk_176_7 : xP 176 7 (.iand, 8, 0, 0, .null) := ⟨⟨(by decide +kernel : decode cJ6_bitCount_0f7a4 7 = .ok (.iand, 1)), rfl⟩, rfl⟩
theorem xk_176_8 : xP 176 8 (.isub, 9, 0, 0, .null) := ⟨⟨(by decide +kernel : decode cJ6_bitCount_0f7a4 8 = .ok (.isub, 1)), rfl⟩, rfl⟩
theorem xk_176_9 : xP 176 9 (.istore_n 0, 10, 0, 0, .null) := ⟨⟨⟨(by decide +kernel : decode cJ6_bitCount_0f7a4 9 = .ok (.istore_n 0, 1)), rfl⟩, rfl⟩, rfl⟩
theorem xk_176_10 : xP 176 10 (.iload_n 0, 11, 0, 0, .null) := ⟨⟨⟨(by decide +kernel : decode cJ6_bitCount_0f7a4 10 = .ok (.iload_n 0, 1)), rfl⟩, rfl⟩, rfl⟩
theorem xk_176_11 : xP 176 11 (.ldc_w 266, 14, 0, 0, .int 858993459) := ⟨⟨(by decide +kernel : decode cJ6_bitCount_0f7a4 11 = .ok (.ldc_w 266, 3)), rfl, _, rfl, xw_577⟩, rfl⟩
theorem xk_176_14 : xP 176 14 (.iand, 15, 0, 0, .null) := ⟨⟨(by decide +kernel : decode cJ6_bitCount_0f7a4 14 = .ok (.iand, 1)), rfl⟩, rfl⟩
theorem xk_176_15 : xP 176 15 (.iload_n 0, 16, 0, 0, .null) := ⟨⟨⟨(by decide +kernel : decode cJ6_bitCount_0f7a4 15 = .ok (.iload_n 0, 1)), rfl⟩, rfl⟩, rfl⟩
theorem xk_176_16 : xP 176 16 (.iconst 2, 17, 0, 0, .int 2) := ⟨⟨⟨(by decide +kernel : decode cJ6_bitCount_0f7a4 16 = .ok (.iconst 2, 1)), rfl⟩, by decide⟩, rfl⟩
theorem xk_176_17 : xP 176 17 (.iushr, 18, 0, 0, .null) := ⟨⟨(by decide +kernel : decode cJ6_bitCount_0f7a4 17 = .ok (.iushr, 1)), rfl⟩, rfl⟩
theorem xk_176_18 : xP 176 18 (.ldc_w 266, 21, 0, 0, .int 858993459) := ⟨⟨(by decide +kernel : decode cJ6_bitCount_0f7a4 18 = .ok (.ldc_w 266, 3)), rfl, _, rfl, xw_577⟩, rfl⟩
theorem xk_176_21 : xP 176 21 (.iand, 22, 0, 0, .null) := ⟨⟨(by decide +kernel : decode cJ6_bitCount_0f7a4 21 = .ok (.iand, 1)), rfl⟩, rfl⟩
theorem xk_176_22 : xP 176 22 (.iadd, 23, 0, 0, .null) := ⟨⟨(by decide +kernel : decode cJ6_bitCount_0f7a4 22 = .ok (.iadd, 1)), rfl⟩, rfl⟩
theorem xk_176_23 : xP 176 23 (.istore_n 0, 24, 0, 0, .null) := ⟨⟨⟨(by decide +kernel : decode cJ6_bitCount_0f7a4 23 = .ok (.istore_n 0, 1)), rfl⟩, rfl⟩, rfl⟩
theorem xk_176_24 : xP 176 24 (.iload_n 0, 25, 0, 0, .null) := ⟨⟨⟨(by decide +kernel : decode cJ6_bitCount_0f7a4 24 = .ok (.iload_n 0, 1)), rfl⟩, rfl⟩, rfl⟩
theorem xk_176_25 : xP 176 25 (.iload_n 0, 26, 0, 0, .null) := ⟨⟨⟨(by decide +kernel : decode cJ6_bitCount_0f7a4 25 = .ok (.iload_n 0, 1)), rfl⟩, rfl⟩, rfl⟩
theorem xk_176_26 : xP 176 26 (.iconst 4, 27, 0, 0, .int 4) := ⟨⟨⟨(by decide +kernel : decode cJ6_bitCount_0f7a4 26 = .ok (.iconst 4, 1)), rfl⟩, by decide⟩, rfl⟩
theorem xk_176_27 : xP 176 27 (.iushr, 28, 0, 0, .null) := ⟨⟨(by decide +kernel : decode cJ6_bitCount_0f7a4 27 = .ok (.iushr, 1)), rfl⟩, rfl⟩
theorem xk_176_28 : xP 176 28 (.iadd, 29, 0, 0, .null) := ⟨⟨(by decide +kernel : decode cJ6_bitCount_0f7a4 28 = .ok (.iadd, 1)), rfl⟩, rfl⟩
theorem xk_176_29 : xP 176 29 (.ldc_w 267, 32, 0, 0, .int 252645135) := ⟨⟨(by decide +kernel : decode cJ6_bitCount_0f7a4 29 = .ok (.ldc_w 267, 3)), rfl, _, rfl, xw_578⟩, rfl⟩
theorem xk_176_32 : xP 176 32 (.iand, 33, 0, 0, .null) := ⟨⟨(by decide +kernel : decode cJ6_bitCount_0f7a4 32 = .ok (.iand, 1)), rfl⟩, rfl⟩
theorem xk_176_33 : xP 176 33 (.istore_n 0, 34, 0, 0, .null) := ⟨⟨⟨(by decide +kernel : decode cJ6_bitCount_0f7a4 33 = .ok (.istore_n 0, 1)), rfl⟩, rfl⟩, rfl⟩
theorem xk_176_34 : xP 176 34 (.iload_n 0, 35, 0, 0, .null) := ⟨⟨⟨(by decide +kernel : decode cJ6_bitCount_0f7a4 34 = .ok (.iload_n 0, 1)), rfl⟩, rfl⟩, rfl⟩
theorem xk_176_35 : xP 176 35 (.iload_n 0, 36, 0, 0, .null) := ⟨⟨⟨(by decide +kernel : decode cJ6_bitCount_0f7a4 35 = .ok (.iload_n 0, 1)), rfl⟩, rfl⟩, rfl⟩
theorem xk_176_36 : xP 176 36 (.bipush 8, 38, 0, 0, .int 8) := ⟨⟨(by decide +kernel : decode cJ6_bitCount_0f7a4 36 = .ok (.bipush 8, 2)), rfl, by decide⟩, rfl⟩
theorem xk_176_38 : xP 176 38 (.iushr, 39, 0, 0, .null) := ⟨⟨(by decide +kernel : decode cJ6_bitCount_0f7a4 38 = .ok (.iushr, 1)), rfl⟩, rfl⟩
theorem xk_176_39 : xP 176 39 (.iadd, 40, 0, 0, .null) := ⟨⟨(by decide +kernel : decode cJ6_bitCount_0f7a4 39 = .ok (.iadd, 1)), rfl⟩, rfl⟩
theorem xk_176_40 : xP 176 40 (.istore_n 0, 41, 0, 0, .null) := ⟨⟨⟨(by decide +kernel : decode cJ6_bitCount_0f7a4 40 = .ok (.istore_n 0, 1)), rfl⟩, rfl⟩, rfl⟩
theorem xk_176_41 : xP 176 41 (.iload_n 0, 42, 0, 0, .null) := ⟨⟨⟨(by decide +kernel : decode cJ6_bitCount_0f7a4 41 = .ok (.iload_n 0, 1)), rfl⟩, rfl⟩, rfl⟩
theorem xk_176_42 : xP 176 42 (.iload_n 0, 43, 0, 0, .null) := ⟨⟨⟨(by decide +kernel : decode cJ6_bitCount_0f7a4 42 = .ok (.iload_n 0, 1)), rfl⟩, rfl⟩, rfl⟩
theorem xk_176_43 : xP 176 43 (.bipush 16, 45, 0, 0, .int 16) := ⟨⟨(by decide +kernel : decode cJ6_bitCount_0f7a4 43 = .ok (.bipush 16, 2)), rfl, by decide⟩, rfl⟩
theorem xk_176_45 : xP 176 45 (.iushr, 46, 0, 0, .null) := ⟨⟨(by decide +kernel : decode cJ6_bitCount_0f7a4 45 = .ok (.iushr, 1)), rfl⟩, rfl⟩
theorem xk_176_46 : xP 176 46 (.iadd, 47, 0, 0, .null) := ⟨⟨(by decide +kernel : decode cJ6_bitCount_0f7a4 46 = .ok (.iadd, 1)), rfl⟩, rfl⟩
theorem xk_176_47 : xP 176 47 (.istore_n 0, 48, 0, 0, .null) := ⟨⟨⟨(by decide +kernel : decode cJ6_bitCount_0f7a4 47 = .ok (.istore_n 0, 1)), rfl⟩, rfl⟩, rfl⟩
theorem xk_176_48 : xP 176 48 (.iload_n 0, 49, 0, 0, .null) := ⟨⟨⟨(by decide +kernel : decode cJ6_bitCount_0f7a4 48 = .ok (.iload_n 0, 1)), rfl⟩, rfl⟩, rfl⟩
theorem xk_176_49 : xP 176 49 (.bipush 63, 51, 0, 0, .int 63) := ⟨⟨(by decide +kernel : decode cJ6_bitCount_0f7a4 49 = .ok (.bipush 63, 2)), rfl, by decide⟩, rfl⟩
theorem xk_176_51 : xP 176 51 (.iand, 52, 0, 0, .null) := ⟨⟨(by decide +kernel : decode cJ6_bitCount_0f7a4 51 = .ok (.iand, 1)), rfl⟩, rfl⟩
theorem xk_176_52 : xP 176 52 (.ireturn, 53, 0, 0, .null) := ⟨⟨(by decide +kernel : decode cJ6_bitCount_0f7a4 52 = .ok (.ireturn, 1)), rfl⟩, rfl⟩
theorem xkM_176 (pc : Nat) : ∀ e, xcM176 pc = some e → xP 176 pc e := by
  unfold xcM176
  exact xt_if (P := xP 176) (xt_if (P := xP 176) (xt_if (P := xP 176) (xt_if (P := xP 176) (xt_if (P := xP 176) (xt_leaf (P := xP 176) xk_176_0) (xt_leaf (P := xP 176) xk_176_1)) (xt_if (P := xP 176) (xt_leaf (P := xP 176) xk_176_2) (xt_if (P := xP 176) (xt_leaf (P := xP 176) xk_176_3) (xt_leaf (P := xP 176) xk_176_4)))) (xt_if (P := xP 176) (xt_if (P := xP 176) (xt_leaf (P := xP 176) xk_176_7) (xt_leaf (P := xP 176) xk_176_8)) (xt_if (P := xP 176) (xt_leaf (P := xP 176) xk_176_9) (xt_if (P := xP 176) (xt_leaf (P := xP 176) xk_176_10) (xt_leaf (P := xP 176) xk_176_11))))) (xt_if (P := xP 176) (xt_if (P := xP 176) (xt_if (P := xP 176) (xt_leaf (P := xP 176) xk_176_14) (xt_leaf (P := xP 176) xk_176_15)) (xt_if (P := xP 176) (xt_leaf (P := xP 176) xk_176_16) (xt_if (P := xP 176) (xt_leaf (P := xP 176) xk_176_17) (xt_leaf (P := xP 176) xk_176_18)))) (xt_if (P := xP 176) (xt_if (P := xP 176) (xt_leaf (P := xP 176) xk_176_21) (xt_if (P := xP 176) (xt_leaf (P := xP 176) xk_176_22) (xt_leaf (P := xP 176) xk_176_23))) (xt_if (P := xP 176) (xt_leaf (P := xP 176) xk_176_24) (xt_if (P := xP 176) (xt_leaf (P := xP 176) xk_176_25) (xt_leaf (P := xP 176) xk_176_26)))))) (xt_if (P := xP 176) (xt_if (P := xP 176) (xt_if (P := xP 176) (xt_if (P := xP 176) (xt_leaf (P := xP 176) xk_176_27) (xt_leaf (P := xP 176) xk_176_28)) (xt_if (P := xP 176) (xt_leaf (P := xP 176) xk_176_29) (xt_if (P := xP 176) (xt_leaf (P := xP 176) xk_176_32) (xt_leaf (P := xP 176) xk_176_33)))) (xt_if (P := xP 176) (xt_if (P := xP 176) (xt_leaf (P := xP 176) xk_176_34) (xt_leaf (P := xP 176) xk_176_35)) (xt_if (P := xP 176) (xt_leaf (P := xP 176) xk_176_36) (xt_if (P := xP 176) (xt_leaf (P := xP 176) xk_176_38) (xt_leaf (P := xP 176) xk_176_39))))) (xt_if (P := xP 176) (xt_if (P := xP 176) (xt_if (P := xP 176) (xt_leaf (P := xP 176) xk_176_40) (xt_leaf (P := xP 176) xk_176_41)) (xt_if (P := xP 176) (xt_leaf (P := xP 176) xk_176_42) (xt_if (P := xP 176) (xt_leaf (P := xP 176) xk_176_43) (xt_leaf (P := xP 176) xk_176_45)))) (xt_if (P := xP 176) (xt_if (P := xP 176) (xt_leaf (P := xP 176) xk_176_46) (xt_if (P := xP 176) (xt_leaf (P := xP 176) xk_176_47) (xt_leaf (P := xP 176) xk_176_48))) (xt_if (P := xP 176) (xt_leaf (P := xP 176) xk_176_49) (xt_if (P := xP 176) (xt_leaf (P := xP 176) xk_176_51) (xt_leaf (P := xP 176) xk_176_52))))))
theorem xk_177_0 : xP 177 0 (.iload_n 1, 1, 1, 0, .null) := ⟨⟨⟨(by decide +kernel : decode cJ7_copyOf_9075b 0 = .ok (.iload_n 1, 1)), rfl⟩, rfl⟩, rfl⟩
theorem xk_177_1 : xP 177 1 (.aload_n 0, 2, 0, 0, .null) := ⟨⟨⟨(by decide +kernel : decode cJ7_copyOf_9075b 1 = .ok (.aload_n 0, 1)), rfl⟩, rfl⟩, rfl⟩
theorem xk_177_2 : xP 177 2 (.arraylength, 3, 0, 0, .null) := ⟨⟨(by decide +kernel : decode cJ7_copyOf_9075b 2 = .ok (.arraylength, 1)), rfl⟩, rfl⟩
theorem xk_177_3 : xP 177 3 (.if_icmp .ne 11, 6, 14, 0, .null) := ⟨⟨(by decide +kernel : decode cJ7_copyOf_9075b 3 = .ok (.if_icmp .ne 11, 3)), rfl, by decide⟩, rfl⟩
theorem xk_177_6 : xP 177 6 (.aload_n 0, 7, 0, 0, .null) := ⟨⟨⟨(by decide +kernel : decode cJ7_copyOf_9075b 6 = .ok (.aload_n 0, 1)), rfl⟩, rfl⟩, rfl⟩
theorem xk_177_13 : xP 177 13 (.areturn, 14, 0, 0, .null) := ⟨⟨⟨(by decide +kernel : decode cJ7_copyOf_9075b 13 = .ok (.areturn, 1)), rfl⟩, _, rfl, Or.inr ⟨_, rfl⟩⟩, rfl⟩
theorem xk_177_14 : xP 177 14 (.iload_n 1, 15, 1, 0, .null) := ⟨⟨⟨(by decide +kernel : decode cJ7_copyOf_9075b 14 = .ok (.iload_n 1, 1)), rfl⟩, rfl⟩, rfl⟩
theorem xk_177_15 : xP 177 15 (.newarray .byte, 17, 2, 0, .null) := ⟨⟨(by decide +kernel : decode cJ7_copyOf_9075b 15 = .ok (.newarray .byte, 2)), rfl, by decide, rfl, xw_300⟩, rfl⟩
theorem xk_177_17 : xP 177 17 (.astore_n 2, 18, 2, 0, .null) := ⟨⟨⟨(by decide +kernel : decode cJ7_copyOf_9075b 17 = .ok (.astore_n 2, 1)), rfl⟩, rfl⟩, rfl⟩
theorem xk_177_18 : xP 177 18 (.aload_n 0, 19, 0, 0, .null) := ⟨⟨⟨(by decide +kernel : decode cJ7_copyOf_9075b 18 = .ok (.aload_n 0, 1)), rfl⟩, rfl⟩, rfl⟩
theorem xk_177_19 : xP 177 19 (.iconst 0, 20, 0, 0, .int 0) := ⟨⟨⟨(by decide +kernel : decode cJ7_copyOf_9075b 19 = .ok (.iconst 0, 1)), rfl⟩, by decide⟩, rfl⟩
theorem xk_177_20 : xP 177 20 (.aload_n 2, 21, 2, 0, .null) := ⟨⟨⟨(by decide +kernel : decode cJ7_copyOf_9075b 20 = .ok (.aload_n 2, 1)), rfl⟩, rfl⟩, rfl⟩
theorem xk_177_21 : xP 177 21 (.iconst 0, 22, 0, 0, .int 0) := ⟨⟨⟨(by decide +kernel : decode cJ7_copyOf_9075b 21 = .ok (.iconst 0, 1)), rfl⟩, by decide⟩, rfl⟩
theorem xk_177_22 : xP 177 22 (.aload_n 0, 23, 0, 0, .null) := ⟨⟨⟨(by decide +kernel : decode cJ7_copyOf_9075b 22 = .ok (.aload_n 0, 1)), rfl⟩, rfl⟩, rfl⟩
theorem xk_177_23 : xP 177 23 (.arraylength, 24, 0, 0, .null) := ⟨⟨(by decide +kernel : decode cJ7_copyOf_9075b 23 = .ok (.arraylength, 1)), rfl⟩, rfl⟩
theorem xk_177_24 : xP 177 24 (.iload_n 1, 25, 1, 0, .null) := ⟨⟨⟨(by decide +kernel : decode cJ7_copyOf_9075b 24 = .ok (.iload_n 1, 1)), rfl⟩, rfl⟩, rfl⟩
theorem xk_177_25 : xP 177 25 (.invokestatic 304, 28, 9001, 0, .null) := ⟨⟨(by decide +kernel : decode cJ7_copyOf_9075b 25 = .ok (.invokestatic 304, 3)), rfl, fun h => absurd h (by decide), fun _ => ⟨xw_1140, xw_525, xw_47, xw_526⟩, fun h => absurd h (by decide), fun _ h => absurd rfl h⟩, rfl⟩
theorem xk_177_28 : xP 177 28 (.invokestatic 150, 31, 9000, 0, .null) := ⟨⟨(by decide +kernel : decode cJ7_copyOf_9075b 28 = .ok (.invokestatic 150, 3)), rfl, fun _ => ⟨xw_1141, xw_348, xw_347, xw_45⟩, fun h => absurd h (by decide), fun h => absurd h (by decide), fun h => absurd rfl h⟩, rfl⟩
theorem xk_177_31 : xP 177 31 (.aload_n 2, 32, 2, 0, .null) := ⟨⟨⟨(by decide +kernel : decode cJ7_copyOf_9075b 31 = .ok (.aload_n 2, 1)), rfl⟩, rfl⟩, rfl⟩
theorem xk_177_32 : xP 177 32 (.areturn, 33, 0, 0, .null) := ⟨⟨⟨(by decide +kernel : decode cJ7_copyOf_9075b 32 = .ok (.areturn, 1)), rfl⟩, _, rfl, Or.inr ⟨_, rfl⟩⟩, rfl⟩
theorem xkM_177 (pc : Nat) : ∀ e, xcM177 pc = some e → xP 177 pc e := by
  unfold xcM177
  exact xt_if (P := xP 177) (xt_if (P := xP 177) (xt_if (P := xP 177) (xt_if (P := xP 177) (xt_leaf (P := xP 177) xk_177_0) (xt_leaf (P := xP 177) xk_177_1)) (xt_if (P := xP 177) (xt_leaf (P := xP 177) xk_177_2) (xt_if (P := xP 177) (xt_leaf (P := xP 177) xk_177_3) (xt_leaf (P := xP 177) xk_177_6)))) (xt_if (P := xP 177) (xt_if (P := xP 177) (xt_leaf (P := xP 177) xk_177_13) (xt_leaf (P := xP 177) xk_177_14)) (xt_if (P := xP 177) (xt_leaf (P := xP 177) xk_177_15) (xt_if (P := xP 177) (xt_leaf (P := xP 177) xk_177_17) (xt_leaf (P := xP 177) xk_177_18))))) (xt_if (P := xP 177) (xt_if (P := xP 177) (xt_if (P := xP 177) (xt_leaf (P := xP 177) xk_177_19) (xt_leaf (P := xP 177) xk_177_20)) (xt_if (P := xP 177) (xt_leaf (P := xP 177) xk_177_21) (xt_if (P := xP 177) (xt_leaf (P := xP 177) xk_177_22) (xt_leaf (P := xP 177) xk_177_23)))) (xt_if (P := xP 177) (xt_if (P := xP 177) (xt_leaf (P := xP 177) xk_177_24) (xt_leaf (P := xP 177) xk_177_25)) (xt_if (P := xP 177) (xt_leaf (P := xP 177) xk_177_28) (xt_if (P := xP 177) (xt_leaf (P := xP 177) xk_177_31) (xt_leaf (P := xP 177) xk_177_32)))))
theorem xk_178_0 : xP 178 0 (.iload_n 0, 1, 0, 0, .null) := ⟨⟨⟨(by decide +kernel : decode cJ8_newLength_cabcc 0 = .ok (.iload_n 0, 1)), rfl⟩, rfl⟩, rfl⟩
theorem xk_178_1 : xP 178 1 (.iload_n 1, 2, 1, 0, .null) := ⟨⟨⟨(by decide +kernel : decode cJ8_newLength_cabcc 1 = .ok (.iload_n 1, 1)), rfl⟩, rfl⟩, rfl⟩
theorem xk_178_2 : xP 178 2 (.iload_n 2, 3, 2, 0, .null) := ⟨⟨⟨(by decide +kernel : decode cJ8_newLength_cabcc 2 = .ok (.iload_n 2, 1)), rfl⟩, rfl⟩, rfl⟩
theorem xk_178_3 : xP 178 3 (.invokestatic 194, 6, 9002, 0, .null) := ⟨⟨(by decide +kernel : decode cJ8_newLength_cabcc 3 = .ok (.invokestatic 194, 3)), rfl, fun h => absurd h (by decide), fun h => absurd h (by decide), fun _ => ⟨xw_1124, xw_528, xw_47, xw_529⟩, fun _ _ h => absurd rfl h⟩, rfl⟩
theorem xk_178_6 : xP 178 6 (.iadd, 7, 0, 0, .null) := ⟨⟨(by decide +kernel : decode cJ8_newLength_cabcc 6 = .ok (.iadd, 1)), rfl⟩, rfl⟩
theorem xk_178_7 : xP 178 7 (.istore_n 3, 8, 3, 0, .null) := ⟨⟨⟨(by decide +kernel : decode cJ8_newLength_cabcc 7 = .ok (.istore_n 3, 1)), rfl⟩, rfl⟩, rfl⟩
theorem xk_178_8 : xP 178 8 (.iconst 0, 9, 0, 0, .int 0) := ⟨⟨⟨(by decide +kernel : decode cJ8_newLength_cabcc 8 = .ok (.iconst 0, 1)), rfl⟩, by decide⟩, rfl⟩
theorem xk_178_9 : xP 178 9 (.iload_n 3, 10, 3, 0, .null) := ⟨⟨⟨(by decide +kernel : decode cJ8_newLength_cabcc 9 = .ok (.iload_n 3, 1)), rfl⟩, rfl⟩, rfl⟩
theorem xk_178_10 : xP 178 10 (.if_icmp .ge 11, 13, 21, 0, .null) := ⟨⟨(by decide +kernel : decode cJ8_newLength_cabcc 10 = .ok (.if_icmp .ge 11, 3)), rfl, by decide⟩, rfl⟩
theorem xk_178_13 : xP 178 13 (.iload_n 3, 14, 3, 0, .null) := ⟨⟨⟨(by decide +kernel : decode cJ8_newLength_cabcc 13 = .ok (.iload_n 3, 1)), rfl⟩, rfl⟩, rfl⟩
theorem xk_178_14 : xP 178 14 (.ldc 200, 16, 0, 0, .int 2147483639) := ⟨⟨(by decide +kernel : decode cJ8_newLength_cabcc 14 = .ok (.ldc 200, 2)), rfl, Or.inl ⟨_, rfl, xw_1125⟩⟩, rfl⟩
theorem xk_178_16 : xP 178 16 (.if_icmp .gt 5, 19, 21, 0, .null) := ⟨⟨(by decide +kernel : decode cJ8_newLength_cabcc 16 = .ok (.if_icmp .gt 5, 3)), rfl, by decide⟩, rfl⟩
theorem xk_178_19 : xP 178 19 (.iload_n 3, 20, 3, 0, .null) := ⟨⟨⟨(by decide +kernel : decode cJ8_newLength_cabcc 19 = .ok (.iload_n 3, 1)), rfl⟩, rfl⟩, rfl⟩
theorem xk_178_20 : xP 178 20 (.ireturn, 21, 0, 0, .null) := ⟨⟨(by decide +kernel : decode cJ8_newLength_cabcc 20 = .ok (.ireturn, 1)), rfl⟩, rfl⟩
theorem xk_178_21 : xP 178 21 (.iload_n 0, 22, 0, 0, .null) := ⟨⟨⟨(by decide +kernel : decode cJ8_newLength_cabcc 21 = .ok (.iload_n 0, 1)), rfl⟩, rfl⟩, rfl⟩
theorem xk_178_22 : xP 178 22 (.iload_n 1, 23, 1, 0, .null) := ⟨⟨⟨(by decide +kernel : decode cJ8_newLength_cabcc 22 = .ok (.iload_n 1, 1)), rfl⟩, rfl⟩, rfl⟩
theorem xk_178_26 : xP 178 26 (.ireturn, 27, 0, 0, .null) := ⟨⟨(by decide +kernel : decode cJ8_newLength_cabcc 26 = .ok (.ireturn, 1)), rfl⟩, rfl⟩
theorem xkM_178 (pc : Nat) : ∀ e, xcM178 pc = some e → xP 178 pc e := by
  unfold xcM178
  exact xt_if (P := xP 178) (xt_if (P := xP 178) (xt_if (P := xP 178) (xt_if (P := xP 178) (xt_leaf (P := xP 178) xk_178_0) (xt_leaf (P := xP 178) xk_178_1)) (xt_if (P := xP 178) (xt_leaf (P := xP 178) xk_178_2) (xt_leaf (P := xP 178) xk_178_3))) (xt_if (P := xP 178) (xt_if (P := xP 178) (xt_leaf (P := xP 178) xk_178_6) (xt_leaf (P := xP 178) xk_178_7)) (xt_if (P := xP 178) (xt_leaf (P := xP 178) xk_178_8) (xt_leaf (P := xP 178) xk_178_9)))) (xt_if (P := xP 178) (xt_if (P := xP 178) (xt_if (P := xP 178) (xt_leaf (P := xP 178) xk_178_10) (xt_leaf (P := xP 178) xk_178_13)) (xt_if (P := xP 178) (xt_leaf (P := xP 178) xk_178_14) (xt_leaf (P := xP 178) xk_178_16))) (xt_if (P := xP 178) (xt_if (P := xP 178) (xt_leaf (P := xP 178) xk_178_19) (xt_leaf (P := xP 178) xk_178_20)) (xt_if (P := xP 178) (xt_leaf (P := xP 178) xk_178_21) (xt_if (P := xP 178) (xt_leaf (P := xP 178) xk_178_22) (xt_leaf (P := xP 178) xk_178_26)))))
theorem xk_179_0 : xP 179 0 (.aload_n 0, 1, 0, 0, .null) := ⟨⟨⟨(by decide +kernel : decode cJx29ce0_ordinal_8abf5 0 = .ok (.aload_n 0, 1)), rfl⟩, rfl⟩, rfl⟩
theorem xk_179_1 : xP 179 1 (.getfield 7, 4, 1000, 2, .null) := ⟨⟨(by decide +kernel : decode cJx29ce0_ordinal_8abf5 1 = .ok (.getfield 7, 3)), rfl, Or.inl ⟨rfl, _, _, _, Or.inl xw_1442, xcf_ok2⟩⟩, rfl⟩
theorem xk_179_4 : xP 179 4 (.ireturn, 5, 0, 0, .null) := ⟨⟨(by decide +kernel : decode cJx29ce0_ordinal_8abf5 4 = .ok (.ireturn, 1)), rfl⟩, rfl⟩
theorem xkM_179 (pc : Nat) : ∀ e, xcM179 pc = some e → xP 179 pc e := by
  unfold xcM179
  exact xt_if (P := xP 179) (xt_leaf (P := xP 179) xk_179_0) (xt_if (P := xP 179) (xt_leaf (P := xP 179) xk_179_1) (xt_leaf (P := xP 179) xk_179_4))
