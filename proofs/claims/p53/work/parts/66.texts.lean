/-! TEXTS: the constant strings. -/
/-- the constant at q is the text cs -/
def xstr (q : Nat) (cs : List Int32) : Prop := (xco q == some 1000) = true ∧ 1000000 ≤ q ∧ ∃ r, 1000000 ≤ r ∧ xcf q 0 = some (.ref r) ∧ xcf q 1 = some (.int 0) ∧ xct r = some (2, cs.map .int) ∧ cs.length < 100 ∧ ∀ i, i < cs.length → ((gd cs i &&& 255).toUInt32 % 65536).toInt32 = gd cs i
theorem shr0 (x : Int32) : x >>> ((0 : Int32) &&& 31) = x := by
  rw [show ((0 : Int32) &&& 31) = 0 by decide]
  exact Int32.shiftRight_zero
section XS
variable {S : List Int32} {d : Nat} {h : xH} {k0 : Nat × Nat} {q : Nat} {cs : List Int32}
theorem s_coder (hd : 1 ≤ d) (wl : h.length ≤ 1000000) (hq : xstr q cs) : yT S d 169 [.ref q] (h, k0) (· = (.inl (some (.int 0)), (h, k0))) := by
  obtain ⟨q1, q2, r, q3, q4, q5, q6, q7, q8⟩ := id hq
  obtain ⟨d, rfl⟩ : ∃ e, d = e + 1 := ⟨d - 1, by omega⟩
  refine yT_eq (Nat.le_of_ble_eq_true rfl) ?_
  show yW S d 169 (0, [.ref q], [], (h, k0)) _
  refine y_go rfl rfl ?_
  refine y_if_eq rfl (fun c => absurd c (by decide)) (fun _ => ?_)
  refine y_go rfl rfl ?_
  refine y_getc rfl (w := .int 0) q5 ?_
  refine y_go rfl rfl ?_
  exact y_ireturn rfl rfl rfl rfl
theorem s_isLatin (hd : 1 ≤ d) (wl : h.length ≤ 1000000) (hq : xstr q cs) : yT S d 170 [.ref q] (h, k0) (· = (.inl (some (.int 1)), (h, k0))) := by
  obtain ⟨q1, q2, r, q3, q4, q5, q6, q7, q8⟩ := id hq
  obtain ⟨d, rfl⟩ : ∃ e, d = e + 1 := ⟨d - 1, by omega⟩
  refine yT_eq (Nat.le_of_ble_eq_true rfl) ?_
  show yW S d 170 (0, [.ref q], [], (h, k0)) _
  refine y_go rfl rfl ?_
  refine y_if_eq rfl (fun c => absurd c (by decide)) (fun _ => ?_)
  refine y_go rfl rfl ?_
  refine y_getc rfl (w := .int 0) q5 ?_
  refine y_if_ne rfl (fun c => absurd (by decide) c) (fun _ => ?_)
  refine y_go rfl rfl ?_
  refine y_go rfl rfl ?_
  exact y_ireturn rfl rfl rfl rfl
theorem s_strlen (hd : 2 ≤ d) (wl : h.length ≤ 1000000) (hq : xstr q cs) : yT S d 167 [.ref q] (h, k0) (· = (.inl (some (.int (nI cs.length))), (h, k0))) := by
  obtain ⟨q1, q2, r, q3, q4, q5, q6, q7, q8⟩ := id hq
  obtain ⟨d, rfl⟩ : ∃ e, d = e + 1 := ⟨d - 1, by omega⟩
  refine yT_eq (Nat.le_of_ble_eq_true rfl) ?_
  show yW S d 167 (0, [.ref q], [], (h, k0)) _
  refine y_go rfl rfl ?_
  refine y_getc rfl (w := .ref r) q4 ?_
  refine y_alenc rfl (xnoh wl q3) q6 (n := cs.length) (List.length_map ..) ?_
  refine y_go rfl rfl ?_
  refine y_V1 rfl (Nat.le_of_ble_eq_true rfl) (Nat.le_of_ble_eq_true rfl) rfl rfl (xrcv_k (xnoh wl q2) q1) (s_coder (by omega) wl hq) ?_
  refine y_go rfl rfl ?_
  exact y_ireturn rfl rfl rfl (by rw [shr0])
end XS
theorem s_chkIdx {S : List Int32} {d : Nat} (hd : 1 ≤ d) (i n : Nat) (hi : i < n) (hn : n < 1000) (s : xS) : yT S d 171 [.int (nI i), .int (nI n)] s (· = (.inl none, s)) := by
  obtain ⟨d, rfl⟩ : ∃ e, d = e + 1 := ⟨d - 1, by omega⟩
  refine yT_eq (Nat.le_of_ble_eq_true rfl) ?_
  show yW S d 171 (0, [.int (nI i), .int (nI n)], [], s) _
  refine y_go rfl rfl ?_
  refine y_go rfl rfl ?_
  refine y_chk rfl (nI_pos (by omega)) (nI_lt hi (by omega)) ?_
  refine y_go rfl rfl ?_
  exact y_end rfl rfl rfl
section XS
variable {S : List Int32} {d : Nat} {h : xH} {k0 : Nat × Nat} {q : Nat} {cs : List Int32}
theorem i2c_idem (x : Int32) : (((x.toUInt32 % 65536).toInt32).toUInt32 % 65536).toInt32 = (x.toUInt32 % 65536).toInt32 := by
  rw [UInt32.toUInt32_toInt32]
  exact congrArg UInt32.toInt32 (UInt32.toNat_inj.1 (by rw [UInt32.toNat_mod, UInt32.toNat_mod, show (65536 : UInt32).toNat = 65536 from rfl, Nat.mod_mod]))
theorem s_latinAt (hd : 2 ≤ d) (wl : h.length ≤ 1000000) {r : Nat} (q3 : 1000000 ≤ r) (q6 : xct r = some (2, cs.map .int)) (q7 : cs.length < 100) (i : Nat) (hi : i < cs.length) (q8 : ((gd cs i &&& 255).toUInt32 % 65536).toInt32 = gd cs i) : yT S d 172 [.ref r, .int (nI i)] (h, k0) (· = (.inl (some (.int (gd cs i))), (h, k0))) := by
  obtain ⟨d, rfl⟩ : ∃ e, d = e + 1 := ⟨d - 1, by omega⟩
  refine yT_eq (Nat.le_of_ble_eq_true rfl) ?_
  show yW S d 172 (0, [.ref r, .int (nI i)], [], (h, k0)) _
  refine y_go rfl rfl ?_
  refine y_go rfl rfl ?_
  refine y_alenc rfl (xnoh wl q3) q6 (n := cs.length) (List.length_map ..) ?_
  refine y_S0 rfl rfl (Nat.le_of_ble_eq_true rfl) (Nat.le_of_ble_eq_true rfl) rfl rfl (s_chkIdx (by omega) i cs.length hi (by omega) _) ?_
  refine y_go rfl rfl ?_
  refine y_go rfl rfl ?_
  refine y_aldc (t := 2) (j := i) (w := .int (gd cs i)) rfl (Or.inr (Or.inr ⟨rfl, rfl⟩)) (xnoh wl q3) q6 (xidx_nI (by omega)) (by rw [List.getElem?_map, xgd hi]; rfl) ?_
  refine y_go rfl rfl ?_
  refine y_go rfl rfl ?_
  refine y_go rfl rfl ?_
  rw [q8]
  exact y_ireturn rfl rfl (by show Value.int ((gd cs i).toUInt32 % 65536).toInt32 = _; rw [← q8]; exact congrArg Value.int (i2c_idem _)) rfl
theorem s_charAt (hd : 3 ≤ d) (wl : h.length ≤ 1000000) (hq : xstr q cs) (i : Nat) (hi : i < cs.length) : yT S d 168 [.ref q, .int (nI i)] (h, k0) (· = (.inl (some (.int (gd cs i))), (h, k0))) := by
  obtain ⟨q1, q2, r, q3, q4, q5, q6, q7, q8⟩ := id hq
  obtain ⟨d, rfl⟩ : ∃ e, d = e + 1 := ⟨d - 1, by omega⟩
  refine yT_eq (Nat.le_of_ble_eq_true rfl) ?_
  show yW S d 168 (0, [.ref q, .int (nI i)], [], (h, k0)) _
  refine y_go rfl rfl ?_
  refine y_V1 rfl (Nat.le_of_ble_eq_true rfl) (Nat.le_of_ble_eq_true rfl) rfl rfl (xrcv_k (xnoh wl q2) q1) (s_isLatin (by omega) wl hq) ?_
  refine y_if_eq rfl (fun c => absurd c (by decide)) (fun _ => ?_)
  refine y_go rfl rfl ?_
  refine y_getc rfl (w := .ref r) q4 ?_
  refine y_go rfl rfl ?_
  refine y_S1 rfl rfl (Nat.le_of_ble_eq_true rfl) (Nat.le_of_ble_eq_true rfl) rfl rfl (s_latinAt (by omega) wl q3 q6 q7 i hi (q8 i hi)) ?_
  exact y_ireturn rfl rfl (by show Value.int ((gd cs i).toUInt32 % 65536).toInt32 = _; rw [← q8 i hi]; exact congrArg Value.int (i2c_idem _)) rfl
end XS
theorem xstr_10 : xstr 1000010 [108, 111, 97, 100, 32, 35, 32, 37] := ⟨by decide +kernel, by decide, 1000050, by decide, by decide +kernel, by decide +kernel, by decide +kernel, by decide, by decide +kernel⟩
theorem xstr_11 : xstr 1000011 [116, 97, 107, 101, 32, 35] := ⟨by decide +kernel, by decide, 1000051, by decide, by decide +kernel, by decide +kernel, by decide +kernel, by decide, by decide +kernel⟩
theorem xstr_12 : xstr 1000012 [108, 105, 103, 104, 116, 32, 35] := ⟨by decide +kernel, by decide, 1000052, by decide, by decide +kernel, by decide +kernel, by decide +kernel, by decide, by decide +kernel⟩
theorem xstr_13 : xstr 1000013 [111, 117, 116] := ⟨by decide +kernel, by decide, 1000053, by decide, by decide +kernel, by decide +kernel, by decide +kernel, by decide, by decide +kernel⟩
theorem xstr_14 : xstr 1000014 [100, 114, 97, 117, 103, 104, 116, 32, 35] := ⟨by decide +kernel, by decide, 1000054, by decide, by decide +kernel, by decide +kernel, by decide +kernel, by decide, by decide +kernel⟩
theorem xstr_15 : xstr 1000015 [102, 117, 101, 108, 32, 64, 32, 37] := ⟨by decide +kernel, by decide, 1000055, by decide, by decide +kernel, by decide +kernel, by decide +kernel, by decide, by decide +kernel⟩
theorem xstr_16 : xstr 1000016 [112, 114, 105, 99, 101, 32, 64, 32, 37] := ⟨by decide +kernel, by decide, 1000056, by decide, by decide +kernel, by decide +kernel, by decide +kernel, by decide, by decide +kernel⟩
theorem xstr_17 : xstr 1000017 [102, 101, 101, 100, 32, 37] := ⟨by decide +kernel, by decide, 1000057, by decide, by decide +kernel, by decide +kernel, by decide +kernel, by decide, by decide +kernel⟩
theorem xstr_18 : xstr 1000018 [112, 97, 115, 115, 32, 37] := ⟨by decide +kernel, by decide, 1000058, by decide, by decide +kernel, by decide +kernel, by decide +kernel, by decide, by decide +kernel⟩
theorem xstr_19 : xstr 1000019 [119, 97, 108, 108, 32, 37, 32, 35] := ⟨by decide +kernel, by decide, 1000059, by decide, by decide +kernel, by decide +kernel, by decide +kernel, by decide, by decide +kernel⟩
theorem xstr_20 : xstr 1000020 [108, 111, 97, 100, 32, 48, 32, 50, 48] := ⟨by decide +kernel, by decide, 1000060, by decide, by decide +kernel, by decide +kernel, by decide +kernel, by decide, by decide +kernel⟩
theorem xstr_21 : xstr 1000021 [108, 111, 97, 100, 32, 49, 32, 54, 48, 59, 108, 111, 97, 100, 32, 50, 32, 48, 49] := ⟨by decide +kernel, by decide, 1000061, by decide, by decide +kernel, by decide +kernel, by decide +kernel, by decide, by decide +kernel⟩
theorem xstr_22 : xstr 1000022 [116, 97, 107, 101, 32, 48] := ⟨by decide +kernel, by decide, 1000062, by decide, by decide +kernel, by decide +kernel, by decide +kernel, by decide, by decide +kernel⟩
theorem xstr_23 : xstr 1000023 [108, 105, 103, 104, 116, 32, 48] := ⟨by decide +kernel, by decide, 1000063, by decide, by decide +kernel, by decide +kernel, by decide +kernel, by decide, by decide +kernel⟩
theorem xstr_24 : xstr 1000024 [108, 105, 103, 104, 116, 32, 49, 59, 111, 117, 116] := ⟨by decide +kernel, by decide, 1000064, by decide, by decide +kernel, by decide +kernel, by decide +kernel, by decide, by decide +kernel⟩
theorem xstr_25 : xstr 1000025 [111, 117, 116] := ⟨by decide +kernel, by decide, 1000065, by decide, by decide +kernel, by decide +kernel, by decide +kernel, by decide, by decide +kernel⟩
theorem xstr_26 : xstr 1000026 [100, 114, 97, 117, 103, 104, 116, 32, 53] := ⟨by decide +kernel, by decide, 1000066, by decide, by decide +kernel, by decide +kernel, by decide +kernel, by decide, by decide +kernel⟩
theorem xstr_27 : xstr 1000027 [100, 114, 97, 117, 103, 104, 116, 32, 48, 59, 100, 114, 97, 117, 103, 104, 116, 32, 51] := ⟨by decide +kernel, by decide, 1000067, by decide, by decide +kernel, by decide +kernel, by decide +kernel, by decide, by decide +kernel⟩
theorem xstr_28 : xstr 1000028 [102, 117, 101, 108, 32, 119, 32, 53, 48] := ⟨by decide +kernel, by decide, 1000068, by decide, by decide +kernel, by decide +kernel, by decide +kernel, by decide, by decide +kernel⟩
theorem xstr_29 : xstr 1000029 [102, 117, 101, 108, 32, 99, 32, 50, 48, 59, 102, 117, 101, 108, 32, 111, 32, 53] := ⟨by decide +kernel, by decide, 1000069, by decide, by decide +kernel, by decide +kernel, by decide +kernel, by decide, by decide +kernel⟩
theorem xstr_30 : xstr 1000030 [112, 114, 105, 99, 101, 32, 119, 32, 50, 48] := ⟨by decide +kernel, by decide, 1000070, by decide, by decide +kernel, by decide +kernel, by decide +kernel, by decide, by decide +kernel⟩
theorem xstr_31 : xstr 1000031 [112, 114, 105, 99, 101, 32, 111, 32, 49, 59, 112, 114, 105, 99, 101, 32, 99, 32, 48, 50] := ⟨by decide +kernel, by decide, 1000071, by decide, by decide +kernel, by decide +kernel, by decide +kernel, by decide, by decide +kernel⟩
theorem xstr_32 : xstr 1000032 [102, 101, 101, 100, 32, 49, 48] := ⟨by decide +kernel, by decide, 1000072, by decide, by decide +kernel, by decide +kernel, by decide +kernel, by decide, by decide +kernel⟩
theorem xstr_33 : xstr 1000033 [102, 101, 101, 100, 32, 57, 57, 59, 102, 101, 101, 100, 32, 55] := ⟨by decide +kernel, by decide, 1000073, by decide, by decide +kernel, by decide +kernel, by decide +kernel, by decide, by decide +kernel⟩
theorem xstr_34 : xstr 1000034 [112, 97, 115, 115, 32, 49] := ⟨by decide +kernel, by decide, 1000074, by decide, by decide +kernel, by decide +kernel, by decide +kernel, by decide, by decide +kernel⟩
theorem xstr_35 : xstr 1000035 [112, 97, 115, 115, 32, 52, 56] := ⟨by decide +kernel, by decide, 1000075, by decide, by decide +kernel, by decide +kernel, by decide +kernel, by decide, by decide +kernel⟩
theorem xstr_36 : xstr 1000036 [112, 97, 115, 115, 32, 48, 48, 54, 59, 112, 97, 115, 115, 32, 53] := ⟨by decide +kernel, by decide, 1000076, by decide, by decide +kernel, by decide +kernel, by decide +kernel, by decide, by decide +kernel⟩
theorem xstr_37 : xstr 1000037 [119, 97, 108, 108, 32, 53, 32, 51] := ⟨by decide +kernel, by decide, 1000077, by decide, by decide +kernel, by decide +kernel, by decide +kernel, by decide, by decide +kernel⟩
theorem xstr_38 : xstr 1000038 [119, 97, 108, 108, 32, 57, 32, 51, 59, 119, 97, 108, 108, 32, 50, 32, 49] := ⟨by decide +kernel, by decide, 1000078, by decide, by decide +kernel, by decide +kernel, by decide +kernel, by decide, by decide +kernel⟩
theorem xstr_39 : xstr 1000039 [108, 111, 97, 100, 32, 56, 32, 49] := ⟨by decide +kernel, by decide, 1000079, by decide, by decide +kernel, by decide +kernel, by decide +kernel, by decide, by decide +kernel⟩
theorem xstr_40 : xstr 1000040 [108, 111, 97, 100, 32, 48, 32, 48] := ⟨by decide +kernel, by decide, 1000080, by decide, by decide +kernel, by decide +kernel, by decide +kernel, by decide, by decide +kernel⟩
theorem xstr_41 : xstr 1000041 [108, 111, 97, 100, 32, 48, 32, 54, 49] := ⟨by decide +kernel, by decide, 1000081, by decide, by decide +kernel, by decide +kernel, by decide +kernel, by decide, by decide +kernel⟩
theorem xstr_42 : xstr 1000042 [100, 114, 97, 117, 103, 104, 116, 32, 54] := ⟨by decide +kernel, by decide, 1000082, by decide, by decide +kernel, by decide +kernel, by decide +kernel, by decide, by decide +kernel⟩
theorem xstr_43 : xstr 1000043 [102, 117, 101, 108, 32, 119, 32, 48] := ⟨by decide +kernel, by decide, 1000083, by decide, by decide +kernel, by decide +kernel, by decide +kernel, by decide, by decide +kernel⟩
theorem xstr_44 : xstr 1000044 [112, 114, 105, 99, 101, 32, 99, 32, 50, 49] := ⟨by decide +kernel, by decide, 1000084, by decide, by decide +kernel, by decide +kernel, by decide +kernel, by decide, by decide +kernel⟩
theorem xstr_45 : xstr 1000045 [102, 101, 101, 100, 32, 50, 48, 49] := ⟨by decide +kernel, by decide, 1000085, by decide, by decide +kernel, by decide +kernel, by decide +kernel, by decide, by decide +kernel⟩
theorem xstr_46 : xstr 1000046 [112, 97, 115, 115, 32, 48] := ⟨by decide +kernel, by decide, 1000086, by decide, by decide +kernel, by decide +kernel, by decide +kernel, by decide, by decide +kernel⟩
theorem xstr_47 : xstr 1000047 [119, 97, 108, 108, 32, 49, 57, 32, 49] := ⟨by decide +kernel, by decide, 1000087, by decide, by decide +kernel, by decide +kernel, by decide +kernel, by decide, by decide +kernel⟩
theorem xstr_48 : xstr 1000048 [119, 97, 108, 108, 32, 52, 32, 50] := ⟨by decide +kernel, by decide, 1000088, by decide, by decide +kernel, by decide +kernel, by decide +kernel, by decide, by decide +kernel⟩
theorem xstr_49 : xstr 1000049 [119, 99, 111, 120] := ⟨by decide +kernel, by decide, 1000089, by decide, by decide +kernel, by decide +kernel, by decide +kernel, by decide, by decide +kernel⟩
