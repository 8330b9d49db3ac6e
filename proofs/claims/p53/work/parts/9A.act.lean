/-! THE LAW: all checks together; the script's cells; the programs. -/
theorem o_fit {S : List Int32} {d : Nat} (hd : 23 ≤ d) {n : Nat} {f sv : Int32} {K V : kK} {H : List kK} {T : List Int32} {s : xS} (hW : LW n f sv K V H T s) (hn : n ≤ 700000) : yT S d 152 [.ref 0] s (fun r => ∃ s2, LWx (n + 850) f sv K V T s2 ∧ r = (.inl (some (.int 1)), s2)) := by
  obtain ⟨d, rfl⟩ : ∃ e, d = e + 1 := ⟨d - 1, by omega⟩
  refine yT_e (Nat.le_of_ble_eq_true rfl) ?_
  show yW S d 152 (0, [.ref 0], [], s) _
  refine y_go rfl rfl ?_
  refine y_S1e rfl rfl (Nat.le_of_ble_eq_true rfl) (Nat.le_of_ble_eq_true rfl) rfl rfl (o_chambers (by omega) hW) (fun s1 h1 => ?_)
  refine y_if_eq rfl (fun c => absurd c (by decide)) (fun _ => ?_)
  refine y_go rfl rfl ?_
  refine y_go rfl rfl ?_
  refine y_S1e rfl rfl (Nat.le_of_ble_eq_true rfl) (Nat.le_of_ble_eq_true rfl) rfl rfl (o_mixed (by omega) h1 (by omega) 1 (by decide)) (fun s2 hz2 => ?_)
  obtain ⟨H2, h2⟩ := hz2
  refine y_if_eq rfl (fun c => absurd c (by decide)) (fun _ => ?_)
  refine y_go rfl rfl ?_
  refine y_go rfl rfl ?_
  refine y_S1e rfl rfl (Nat.le_of_ble_eq_true rfl) (Nat.le_of_ble_eq_true rfl) rfl rfl (o_mixed (by omega) h2 (by omega) 10 (by decide)) (fun s3 hz3 => ?_)
  obtain ⟨H3, h3⟩ := hz3
  refine y_if_eq rfl (fun c => absurd c (by decide)) (fun _ => ?_)
  refine y_go rfl rfl ?_
  refine y_go rfl rfl ?_
  refine y_S1e rfl rfl (Nat.le_of_ble_eq_true rfl) (Nat.le_of_ble_eq_true rfl) rfl rfl (o_mixed (by omega) h3 (by omega) 37 (by decide)) (fun s4 hz4 => ?_)
  obtain ⟨H4, h4⟩ := hz4
  refine y_if_eq rfl (fun c => absurd c (by decide)) (fun _ => ?_)
  refine y_go rfl rfl ?_
  refine y_go rfl rfl ?_
  refine y_S1e rfl rfl (Nat.le_of_ble_eq_true rfl) (Nat.le_of_ble_eq_true rfl) rfl rfl (o_mixed (by omega) h4 (by omega) 150 (by decide)) (fun s5 hz5 => ?_)
  obtain ⟨H5, h5⟩ := hz5
  refine y_if_eq rfl (fun c => absurd c (by decide)) (fun _ => ?_)
  refine y_go rfl rfl ?_
  refine y_go rfl rfl ?_
  refine y_go rfl rfl ?_
  refine y_S1e rfl rfl (Nat.le_of_ble_eq_true rfl) (Nat.le_of_ble_eq_true rfl) rfl rfl (o_walls_5_3 (by omega) h5 (by omega)) (fun s6 hz6 => ?_)
  obtain ⟨H6, h6⟩ := hz6
  refine y_if_eq rfl (fun c => absurd c (by decide)) (fun _ => ?_)
  refine y_go rfl rfl ?_
  refine y_go rfl rfl ?_
  refine y_go rfl rfl ?_
  refine y_S1e rfl rfl (Nat.le_of_ble_eq_true rfl) (Nat.le_of_ble_eq_true rfl) rfl rfl (o_walls_9_2 (by omega) h6 (by omega)) (fun s7 hz7 => ?_)
  obtain ⟨H7, h7⟩ := hz7
  refine y_if_eq rfl (fun c => absurd c (by decide)) (fun _ => ?_)
  refine y_go rfl rfl ?_
  refine y_go rfl rfl ?_
  refine y_go rfl rfl ?_
  refine y_S1e rfl rfl (Nat.le_of_ble_eq_true rfl) (Nat.le_of_ble_eq_true rfl) rfl rfl (o_walls_4_2 (by omega) h7 (by omega)) (fun s8 hz8 => ?_)
  obtain ⟨H8, h8⟩ := hz8
  refine y_if_eq rfl (fun c => absurd c (by decide)) (fun _ => ?_)
  refine y_go rfl rfl ?_
  refine y_go rfl rfl ?_
  refine y_go rfl rfl ?_
  refine y_S1e rfl rfl (Nat.le_of_ble_eq_true rfl) (Nat.le_of_ble_eq_true rfl) rfl rfl (o_walls_12_4 (by omega) h8 (by omega)) (fun s9 hz9 => ?_)
  obtain ⟨H9, h9⟩ := hz9
  refine y_if_eq rfl (fun c => absurd c (by decide)) (fun _ => ?_)
  refine y_go rfl rfl ?_
  refine y_S1e rfl rfl (Nat.le_of_ble_eq_true rfl) (Nat.le_of_ble_eq_true rfl) rfl rfl (o_foretold (by omega) h9 (by omega)) (fun s10 hz10 => ?_)
  obtain ⟨H10, h10⟩ := hz10
  refine y_if_eq rfl (fun c => absurd c (by decide)) (fun _ => ?_)
  refine y_go rfl rfl ?_
  refine y_go rfl rfl ?_
  exact y_ireturn rfl rfl rfl ⟨_, ⟨_, LW_mono (by omega) h10⟩, rfl⟩
theorem o_cell {S : List Int32} {d : Nat} (hd : 1 ≤ d) (hS : S.length < 2 ^ 31) {s : xS} (wl : s.1.length ≤ 1000000) (i : Nat) (hi : i < 65536) : ∃ x : Int32, yT S d 120 [.ref xSp, .int (nI i)] s (· = (.inl (some (.int x)), s)) := by
  obtain ⟨d, rfl⟩ : ∃ e, d = e + 1 := ⟨d - 1, by omega⟩
  have hp : s.1[xSp]? = none := xnoh wl (by decide)
  have hc : xct xSp = none := by decide +kernel
  by_cases hz : S.length = 0
  · refine ⟨577 * nI i, yT_eq (Nat.le_of_ble_eq_true rfl) ?_⟩
    show yW S d 120 (0, [.ref xSp, .int (nI i)], [], s) _
    refine y_go rfl rfl ?_
    refine y_slen rfl rfl hp hc ?_
    refine y_if_ne rfl (fun c => absurd ((by rw [hz]; rfl)) c) (fun _ => ?_)
    refine y_go rfl rfl ?_
    refine y_go rfl rfl ?_
    refine y_go rfl rfl ?_
    refine y_go rfl rfl ?_
    exact y_ireturn rfl rfl rfl rfl
  · have hlt : i % 2 ^ 16 % S.length < S.length := Nat.mod_lt _ (by omega)
    refine ⟨gd S (i % 2 ^ 16 % S.length), yT_eq (Nat.le_of_ble_eq_true rfl) ?_⟩
    show yW S d 120 (0, [.ref xSp, .int (nI i)], [], s) _
    refine y_go rfl rfl ?_
    refine y_slen rfl rfl hp hc ?_
    refine y_if_ne rfl (fun _ => ?_) (fun c => absurd c (nI_ne0 (by omega) hS))
    refine y_go rfl rfl ?_
    refine y_go rfl rfl ?_
    refine y_go rfl rfl ?_
    refine y_go rfl rfl ?_
    refine y_go rfl rfl ?_
    refine y_slen rfl rfl hp hc ?_
    rw [pk_andN (by omega) 16 (by decide)]
    refine y_div rfl (by simpa using nI_ne0 (by omega) hS) (Or.inr ⟨rfl, nI_mod (a := i % 2 ^ 16) (b := S.length) (by omega) hS⟩) ?_
    refine y_sld (x := gd S (i % 2 ^ 16 % S.length)) rfl rfl hp hc (xidx_nI (by omega)) (xgd hlt) ?_
    exact y_ireturn rfl rfl rfl rfl
/-- what is known of a program's text at q -/
def prgP (q : Nat) (N : List Nat) (s5 : pV) (l5 : List (Nat × (Nat × Nat))) : Prop := xstr q (N.map nI) ∧ N.length ≤ 60 ∧ (∀ i, i < N.length → gn N i < 128) ∧ rtx N 16 (0, 0, 5000, 6000) [] = (true, s5, l5) ∧ okS s5 = true ∧ l5.length ≤ 2 ∧ l5.all okC = true
theorem prg_all : ∀ k, k < 29 → ∃ N s5 l5, prgP (1000020 + k) N s5 l5 := by
  intro k hk
  rcases (by omega : k = 0 ∨ k = 1 ∨ k = 2 ∨ k = 3 ∨ k = 4 ∨ k = 5 ∨ k = 6 ∨ k = 7 ∨ k = 8 ∨ k = 9 ∨ k = 10 ∨ k = 11 ∨ k = 12 ∨ k = 13 ∨ k = 14 ∨ k = 15 ∨ k = 16 ∨ k = 17 ∨ k = 18 ∨ k = 19 ∨ k = 20 ∨ k = 21 ∨ k = 22 ∨ k = 23 ∨ k = 24 ∨ k = 25 ∨ k = 26 ∨ k = 27 ∨ k = 28) with rfl | rfl | rfl | rfl | rfl | rfl | rfl | rfl | rfl | rfl | rfl | rfl | rfl | rfl | rfl | rfl | rfl | rfl | rfl | rfl | rfl | rfl | rfl | rfl | rfl | rfl | rfl | rfl | rfl
  · exact ⟨[108, 111, 97, 100, 32, 48, 32, 50, 48], _, _, xstr_20, by decide, by decide +kernel, prg_0, by decide +kernel, by decide, by decide +kernel⟩
  · exact ⟨[108, 111, 97, 100, 32, 49, 32, 54, 48, 59, 108, 111, 97, 100, 32, 50, 32, 48, 49], _, _, xstr_21, by decide, by decide +kernel, prg_1, by decide +kernel, by decide, by decide +kernel⟩
  · exact ⟨[116, 97, 107, 101, 32, 48], _, _, xstr_22, by decide, by decide +kernel, prg_2, by decide +kernel, by decide, by decide +kernel⟩
  · exact ⟨[108, 105, 103, 104, 116, 32, 48], _, _, xstr_23, by decide, by decide +kernel, prg_3, by decide +kernel, by decide, by decide +kernel⟩
  · exact ⟨[108, 105, 103, 104, 116, 32, 49, 59, 111, 117, 116], _, _, xstr_24, by decide, by decide +kernel, prg_4, by decide +kernel, by decide, by decide +kernel⟩
  · exact ⟨[111, 117, 116], _, _, xstr_25, by decide, by decide +kernel, prg_5, by decide +kernel, by decide, by decide +kernel⟩
  · exact ⟨[100, 114, 97, 117, 103, 104, 116, 32, 53], _, _, xstr_26, by decide, by decide +kernel, prg_6, by decide +kernel, by decide, by decide +kernel⟩
  · exact ⟨[100, 114, 97, 117, 103, 104, 116, 32, 48, 59, 100, 114, 97, 117, 103, 104, 116, 32, 51], _, _, xstr_27, by decide, by decide +kernel, prg_7, by decide +kernel, by decide, by decide +kernel⟩
  · exact ⟨[102, 117, 101, 108, 32, 119, 32, 53, 48], _, _, xstr_28, by decide, by decide +kernel, prg_8, by decide +kernel, by decide, by decide +kernel⟩
  · exact ⟨[102, 117, 101, 108, 32, 99, 32, 50, 48, 59, 102, 117, 101, 108, 32, 111, 32, 53], _, _, xstr_29, by decide, by decide +kernel, prg_9, by decide +kernel, by decide, by decide +kernel⟩
  · exact ⟨[112, 114, 105, 99, 101, 32, 119, 32, 50, 48], _, _, xstr_30, by decide, by decide +kernel, prg_10, by decide +kernel, by decide, by decide +kernel⟩
  · exact ⟨[112, 114, 105, 99, 101, 32, 111, 32, 49, 59, 112, 114, 105, 99, 101, 32, 99, 32, 48, 50], _, _, xstr_31, by decide, by decide +kernel, prg_11, by decide +kernel, by decide, by decide +kernel⟩
  · exact ⟨[102, 101, 101, 100, 32, 49, 48], _, _, xstr_32, by decide, by decide +kernel, prg_12, by decide +kernel, by decide, by decide +kernel⟩
  · exact ⟨[102, 101, 101, 100, 32, 57, 57, 59, 102, 101, 101, 100, 32, 55], _, _, xstr_33, by decide, by decide +kernel, prg_13, by decide +kernel, by decide, by decide +kernel⟩
  · exact ⟨[112, 97, 115, 115, 32, 49], _, _, xstr_34, by decide, by decide +kernel, prg_14, by decide +kernel, by decide, by decide +kernel⟩
  · exact ⟨[112, 97, 115, 115, 32, 52, 56], _, _, xstr_35, by decide, by decide +kernel, prg_15, by decide +kernel, by decide, by decide +kernel⟩
  · exact ⟨[112, 97, 115, 115, 32, 48, 48, 54, 59, 112, 97, 115, 115, 32, 53], _, _, xstr_36, by decide, by decide +kernel, prg_16, by decide +kernel, by decide, by decide +kernel⟩
  · exact ⟨[119, 97, 108, 108, 32, 53, 32, 51], _, _, xstr_37, by decide, by decide +kernel, prg_17, by decide +kernel, by decide, by decide +kernel⟩
  · exact ⟨[119, 97, 108, 108, 32, 57, 32, 51, 59, 119, 97, 108, 108, 32, 50, 32, 49], _, _, xstr_38, by decide, by decide +kernel, prg_18, by decide +kernel, by decide, by decide +kernel⟩
  · exact ⟨[108, 111, 97, 100, 32, 56, 32, 49], _, _, xstr_39, by decide, by decide +kernel, prg_19, by decide +kernel, by decide, by decide +kernel⟩
  · exact ⟨[108, 111, 97, 100, 32, 48, 32, 48], _, _, xstr_40, by decide, by decide +kernel, prg_20, by decide +kernel, by decide, by decide +kernel⟩
  · exact ⟨[108, 111, 97, 100, 32, 48, 32, 54, 49], _, _, xstr_41, by decide, by decide +kernel, prg_21, by decide +kernel, by decide, by decide +kernel⟩
  · exact ⟨[100, 114, 97, 117, 103, 104, 116, 32, 54], _, _, xstr_42, by decide, by decide +kernel, prg_22, by decide +kernel, by decide, by decide +kernel⟩
  · exact ⟨[102, 117, 101, 108, 32, 119, 32, 48], _, _, xstr_43, by decide, by decide +kernel, prg_23, by decide +kernel, by decide, by decide +kernel⟩
  · exact ⟨[112, 114, 105, 99, 101, 32, 99, 32, 50, 49], _, _, xstr_44, by decide, by decide +kernel, prg_24, by decide +kernel, by decide, by decide +kernel⟩
  · exact ⟨[102, 101, 101, 100, 32, 50, 48, 49], _, _, xstr_45, by decide, by decide +kernel, prg_25, by decide +kernel, by decide, by decide +kernel⟩
  · exact ⟨[112, 97, 115, 115, 32, 48], _, _, xstr_46, by decide, by decide +kernel, prg_26, by decide +kernel, by decide, by decide +kernel⟩
  · exact ⟨[119, 97, 108, 108, 32, 49, 57, 32, 49], _, _, xstr_47, by decide, by decide +kernel, prg_27, by decide +kernel, by decide, by decide +kernel⟩
  · exact ⟨[119, 97, 108, 108, 32, 52, 32, 50], _, _, xstr_48, by decide, by decide +kernel, prg_28, by decide +kernel, by decide, by decide +kernel⟩
theorem prg_at : ∀ k, k < 29 → ((xct 1000095).getD (0, [])).2[k]? = some (.ref (1000020 + k)) := by decide +kernel
theorem prg_arr : ∃ t l, xct 1000095 = some (t, l) ∧ 4 ≤ t ∧ l.length = 29 ∧ ∀ k, k < 29 → l[k]? = some (.ref (1000020 + k)) := by
  cases h : xct 1000095 with
  | none => exact absurd h (by decide +kernel)
  | some m =>
    obtain ⟨t, l⟩ := m
    have h1 : ((xct 1000095).getD (0, [])).1 = t ∧ ((xct 1000095).getD (0, [])).2 = l := by rw [h]; exact ⟨rfl, rfl⟩
    have h2 : 4 ≤ ((xct 1000095).getD (0, [])).1 ∧ ((xct 1000095).getD (0, [])).2.length = 29 := by decide +kernel
    rw [h1.1, h1.2] at h2
    have h3 := prg_at
    rw [h1.2] at h3
    exact ⟨t, l, rfl, h2.1, h2.2, h3⟩
theorem op_eq {n c : Nat} (hc : c < 10) {K : kK} (hK : GK n K) (hn : n ≤ 1000000) {a b : Nat} (ha : a ≤ 1000) (hb : b ≤ 1000) (h : opV c a b K = -100000000) : (cmdX c a b K).2 = K := by
  rcases cm_all hc hK hn ha hb with ⟨-, h1⟩ | ⟨⟨j, h1, h2⟩, -⟩
  · exact h1
  · rw [(opV_yes h1 (by omega)).1] at h
    exact absurd h (nI_big (by omega))
theorem kd_ok : ∀ i, i < 4 → ∃ k : Nat, k ≤ 120 ∧ gd [119, 99, 111, 120] i = nI k := by
  intro i hi
  match i, hi with
  | 0, _ => exact ⟨119, by decide, rfl⟩
  | 1, _ => exact ⟨99, by decide, rfl⟩
  | 2, _ => exact ⟨111, by decide, rfl⟩
  | 3, _ => exact ⟨120, by decide, rfl⟩
theorem LW_hist {n : Nat} {f sv : Int32} {K V : kK} {H : List kK} {T : List Int32} {s : xS} (hW : LW n f sv K V H T s) : H.length ≤ 8 := by
  obtain ⟨⟨e, ol, sz, R, hw, hh, -⟩, -⟩ := hW
  rw [hh]
  exact (W2_olsz hw).2
theorem o_act {S : List Int32} {d : Nat} (hd : 16 ≤ d) {n : Nat} {f sv : Int32} {K V : kK} {H : List kK} {s : xS} (hW : LW n f sv K V H [] s) (hn : n ≤ 800000) (x : Int32) : yT S d 146 [.ref 0, .int x] s (fun r => ∃ z : xS × Int32, (∃ f2 sv2 K2 V2 H2, LW (n + 100) f2 sv2 K2 V2 H2 [] z.1 ∧ (z.2 = -100000000 → K2 = K)) ∧ r = (.inl (some (.int z.2)), z.1)) := by
  obtain ⟨d, rfl⟩ : ∃ e, d = e + 1 := ⟨d - 1, by omega⟩
  have hG := hW.2.1
  refine yT_e (Nat.le_of_ble_eq_true rfl) ?_
  show yW S d 146 (0, [.ref 0, .int x, xno, xno, xno], [], s) _
  generalize hQd : (fun r : xR => ∃ z : xS × Int32, (∃ f2 sv2 K2 V2 H2, LW (n + 100) f2 sv2 K2 V2 H2 [] z.1 ∧ (z.2 = -100000000 → K2 = K)) ∧ r = (.inl (some (.int z.2)), z.1)) = Q
  obtain ⟨y, hy, ey⟩ := pk_andE (x >>> (4 &&& 31)) (m := 65535) 16 (by decide)
  obtain ⟨t, ht, et⟩ := pk_andE x (m := 15) 4 (by decide)
  refine y_go rfl rfl ?_
  refine y_go rfl rfl ?_
  refine y_go rfl rfl ?_
  refine y_go rfl rfl ?_
  refine y_go rfl rfl ?_
  rw [ey]
  refine y_go (g' := (7, [.ref 0, .int x, .int (nI y), xno, xno], _, _)) rfl rfl ?_
  refine y_go rfl rfl ?_
  refine y_go rfl rfl ?_
  refine y_go rfl rfl ?_
  refine y_div rfl (by decide) (Or.inr ⟨rfl, nI_mod (a := y) (b := 10) (by omega) (by decide)⟩) ?_
  refine y_go rfl rfl ?_
  suffices k1 : yW S d 146 (25, [.ref 0, .int x, .int (nI y), xno, xno], [.int (if nI (y % 10) = 9 then 3 else nI (y % 3)), .ref 1000049], s) Q by
    refine y_ic_ne rfl (fun c15 => ?_) (fun c15 => ?_)
    · refine y_go rfl rfl ?_
      refine y_go rfl rfl ?_
      refine y_div rfl (by decide) (Or.inr ⟨rfl, nI_mod (a := y) (b := 3) (by omega) (by decide)⟩) ?_
      rw [show ((if nI (y % 10) = 9 then 3 else nI (y % 3)) : Int32) = nI (y % 3) by rw [if_neg c15]] at k1
      exact k1
    · refine y_go rfl rfl ?_
      refine y_go rfl rfl ?_
      rw [show ((if nI (y % 10) = 9 then 3 else nI (y % 3)) : Int32) = 3 by rw [if_pos c15]] at k1
      exact k1
  obtain ⟨i4, hi4, ei4⟩ : ∃ i4 : Nat, i4 < 4 ∧ ((if nI (y % 10) = 9 then 3 else nI (y % 3)) : Int32) = nI i4 := by split; exact ⟨3, by decide, rfl⟩; exact ⟨y % 3, by omega, rfl⟩
  rw [ei4]
  refine y_V1 rfl (Nat.le_of_ble_eq_true rfl) (Nat.le_of_ble_eq_true rfl) rfl rfl (xrcv_k (xnoh (LW_len hW) (by decide)) xstr_49.1) (s_charAt (by omega) (LW_len hW) xstr_49 i4 hi4) ?_
  obtain ⟨kd, hk1, hk2⟩ := kd_ok i4 hi4
  rw [hk2]
  refine y_go (g' := (29, [.ref 0, .int x, .int (nI y), .int (nI kd), xno], _, _)) rfl rfl ?_
  refine y_go rfl rfl ?_
  refine y_go rfl rfl ?_
  refine y_go rfl rfl ?_
  refine y_go rfl rfl ?_
  rw [show nI y >>> ((3 : Int32) &&& 31) = nI (y / 8) from pk_shrN (by omega) _ 3 (by decide)]
  refine y_div rfl (by decide) (Or.inr ⟨rfl, nI_mod (a := (y / 8)) (b := 9) (by omega) (by decide)⟩) ?_
  refine y_go (g' := (37, [.ref 0, .int x, .int (nI y), .int (nI kd), .int (nI ((y / 8) % 9))], _, _)) rfl rfl ?_
  refine y_go rfl rfl ?_
  refine y_go rfl rfl ?_
  refine y_go rfl rfl ?_
  rw [et]
  rcases (by omega : t = 0 ∨ t = 1 ∨ t = 2 ∨ t = 3 ∨ t = 4 ∨ t = 5 ∨ t = 6 ∨ t = 7 ∨ t = 8 ∨ t = 9 ∨ t = 10 ∨ t = 11 ∨ t = 12 ∨ t = 13 ∨ t = 14 ∨ t = 15) with rfl | rfl | rfl | rfl | rfl | rfl | rfl | rfl | rfl | rfl | rfl | rfl | rfl | rfl | rfl | rfl
  · refine y_go (g' := (116, [.ref 0, .int x, .int (nI y), .int (nI kd), .int (nI ((y / 8) % 9))], [], _)) rfl rfl ?_
    refine y_go rfl rfl ?_
    refine y_go rfl rfl ?_
    refine y_go rfl rfl ?_
    refine y_go rfl rfl ?_
    refine y_go rfl rfl ?_
    refine y_go rfl rfl ?_
    rw [show nI y >>> ((5 : Int32) &&& 31) = nI (y / 32) from pk_shrN (by omega) _ 5 (by decide)]
    refine y_div rfl (by decide) (Or.inr ⟨rfl, nI_mod (a := (y / 32)) (b := 62) (by omega) (by decide)⟩) ?_
    refine y_S1e rfl rfl (Nat.le_of_ble_eq_true rfl) (Nat.le_of_ble_eq_true rfl) rfl rfl (o_load (by omega) hW (by omega) ((y / 8) % 9) (by omega) ((y / 32) % 62) (by omega)) (fun s1 h1 => ?_)
    exact y_ireturn rfl rfl rfl (by subst hQd; exact ⟨(s1, opV 0 ((y / 8) % 9) ((y / 32) % 62) K), ⟨f, sv, (cmdX 0 ((y / 8) % 9) ((y / 32) % 62) K).2, V, opH 0 ((y / 8) % 9) ((y / 32) % 62) K H, LW_mono (by omega) h1, op_eq (by decide) hG (by omega) (by omega) (by omega)⟩, rfl⟩)
  · refine y_go (g' := (116, [.ref 0, .int x, .int (nI y), .int (nI kd), .int (nI ((y / 8) % 9))], [], _)) rfl rfl ?_
    refine y_go rfl rfl ?_
    refine y_go rfl rfl ?_
    refine y_go rfl rfl ?_
    refine y_go rfl rfl ?_
    refine y_go rfl rfl ?_
    refine y_go rfl rfl ?_
    rw [show nI y >>> ((5 : Int32) &&& 31) = nI (y / 32) from pk_shrN (by omega) _ 5 (by decide)]
    refine y_div rfl (by decide) (Or.inr ⟨rfl, nI_mod (a := (y / 32)) (b := 62) (by omega) (by decide)⟩) ?_
    refine y_S1e rfl rfl (Nat.le_of_ble_eq_true rfl) (Nat.le_of_ble_eq_true rfl) rfl rfl (o_load (by omega) hW (by omega) ((y / 8) % 9) (by omega) ((y / 32) % 62) (by omega)) (fun s1 h1 => ?_)
    exact y_ireturn rfl rfl rfl (by subst hQd; exact ⟨(s1, opV 0 ((y / 8) % 9) ((y / 32) % 62) K), ⟨f, sv, (cmdX 0 ((y / 8) % 9) ((y / 32) % 62) K).2, V, opH 0 ((y / 8) % 9) ((y / 32) % 62) K H, LW_mono (by omega) h1, op_eq (by decide) hG (by omega) (by omega) (by omega)⟩, rfl⟩)
  · refine y_go (g' := (116, [.ref 0, .int x, .int (nI y), .int (nI kd), .int (nI ((y / 8) % 9))], [], _)) rfl rfl ?_
    refine y_go rfl rfl ?_
    refine y_go rfl rfl ?_
    refine y_go rfl rfl ?_
    refine y_go rfl rfl ?_
    refine y_go rfl rfl ?_
    refine y_go rfl rfl ?_
    rw [show nI y >>> ((5 : Int32) &&& 31) = nI (y / 32) from pk_shrN (by omega) _ 5 (by decide)]
    refine y_div rfl (by decide) (Or.inr ⟨rfl, nI_mod (a := (y / 32)) (b := 62) (by omega) (by decide)⟩) ?_
    refine y_S1e rfl rfl (Nat.le_of_ble_eq_true rfl) (Nat.le_of_ble_eq_true rfl) rfl rfl (o_load (by omega) hW (by omega) ((y / 8) % 9) (by omega) ((y / 32) % 62) (by omega)) (fun s1 h1 => ?_)
    exact y_ireturn rfl rfl rfl (by subst hQd; exact ⟨(s1, opV 0 ((y / 8) % 9) ((y / 32) % 62) K), ⟨f, sv, (cmdX 0 ((y / 8) % 9) ((y / 32) % 62) K).2, V, opH 0 ((y / 8) % 9) ((y / 32) % 62) K H, LW_mono (by omega) h1, op_eq (by decide) hG (by omega) (by omega) (by omega)⟩, rfl⟩)
  · refine y_go (g' := (129, [.ref 0, .int x, .int (nI y), .int (nI kd), .int (nI ((y / 8) % 9))], [], _)) rfl rfl ?_
    refine y_go rfl rfl ?_
    refine y_go rfl rfl ?_
    refine y_S1e rfl rfl (Nat.le_of_ble_eq_true rfl) (Nat.le_of_ble_eq_true rfl) rfl rfl (o_unload (by omega) hW (by omega) ((y / 8) % 9) (by omega)) (fun s1 h1 => ?_)
    exact y_ireturn rfl rfl rfl (by subst hQd; exact ⟨(s1, opV 1 ((y / 8) % 9) 0 K), ⟨f, sv, (cmdX 1 ((y / 8) % 9) 0 K).2, V, opH 1 ((y / 8) % 9) 0 K H, LW_mono (by omega) h1, op_eq (by decide) hG (by omega) (by omega) (by omega)⟩, rfl⟩)
  · refine y_go (g' := (136, [.ref 0, .int x, .int (nI y), .int (nI kd), .int (nI ((y / 8) % 9))], [], _)) rfl rfl ?_
    refine y_go rfl rfl ?_
    refine y_go rfl rfl ?_
    refine y_S1e rfl rfl (Nat.le_of_ble_eq_true rfl) (Nat.le_of_ble_eq_true rfl) rfl rfl (o_light (by omega) hW (by omega) ((y / 8) % 9) (by omega)) (fun s1 h1 => ?_)
    exact y_ireturn rfl rfl rfl (by subst hQd; exact ⟨(s1, opV 2 ((y / 8) % 9) 0 K), ⟨f, sv, (cmdX 2 ((y / 8) % 9) 0 K).2, V, opH 2 ((y / 8) % 9) 0 K H, LW_mono (by omega) h1, op_eq (by decide) hG (by omega) (by omega) (by omega)⟩, rfl⟩)
  · refine y_go (g' := (136, [.ref 0, .int x, .int (nI y), .int (nI kd), .int (nI ((y / 8) % 9))], [], _)) rfl rfl ?_
    refine y_go rfl rfl ?_
    refine y_go rfl rfl ?_
    refine y_S1e rfl rfl (Nat.le_of_ble_eq_true rfl) (Nat.le_of_ble_eq_true rfl) rfl rfl (o_light (by omega) hW (by omega) ((y / 8) % 9) (by omega)) (fun s1 h1 => ?_)
    exact y_ireturn rfl rfl rfl (by subst hQd; exact ⟨(s1, opV 2 ((y / 8) % 9) 0 K), ⟨f, sv, (cmdX 2 ((y / 8) % 9) 0 K).2, V, opH 2 ((y / 8) % 9) 0 K H, LW_mono (by omega) h1, op_eq (by decide) hG (by omega) (by omega) (by omega)⟩, rfl⟩)
  · refine y_go (g' := (143, [.ref 0, .int x, .int (nI y), .int (nI kd), .int (nI ((y / 8) % 9))], [], _)) rfl rfl ?_
    refine y_go rfl rfl ?_
    refine y_go rfl rfl ?_
    refine y_go rfl rfl ?_
    refine y_if_ne rfl (fun c147 => ?_) (fun c147 => ?_)
    · refine y_go rfl rfl ?_
      refine y_go rfl rfl ?_
      refine y_go rfl rfl ?_
      refine y_if_ne rfl (fun c168 => ?_) (fun c168 => ?_)
      · refine y_go rfl rfl ?_
        refine y_go rfl rfl ?_
        refine y_go rfl rfl ?_
        refine y_go rfl rfl ?_
        refine y_go rfl rfl ?_
        refine y_go rfl rfl ?_
        rw [show nI y >>> ((3 : Int32) &&& 31) = nI (y / 8) from pk_shrN (by omega) _ 3 (by decide)]
        refine y_div rfl (by decide) (Or.inr ⟨rfl, nI_mod (a := (y / 8)) (b := 22) (by omega) (by decide)⟩) ?_
        refine y_S1e rfl rfl (Nat.le_of_ble_eq_true rfl) (Nat.le_of_ble_eq_true rfl) rfl rfl (o_setPrice (by omega) hW (by omega) kd (by omega) ((y / 8) % 22) (by omega)) (fun s1 h1 => ?_)
        exact y_ireturn rfl rfl rfl (by subst hQd; exact ⟨(s1, opV 6 kd ((y / 8) % 22) K), ⟨f, sv, (cmdX 6 kd ((y / 8) % 22) K).2, V, opH 6 kd ((y / 8) % 22) K H, LW_mono (by omega) h1, op_eq (by decide) hG (by omega) (by omega) (by omega)⟩, rfl⟩)
      · refine y_go rfl rfl ?_
        refine y_S1e rfl rfl (Nat.le_of_ble_eq_true rfl) (Nat.le_of_ble_eq_true rfl) rfl rfl (o_quench (by omega) hW (by omega)) (fun s2 h2 => ?_)
        refine y_go rfl rfl ?_
        exact y_ireturn rfl rfl rfl (by subst hQd; exact ⟨(s2, opV 3 0 0 K), ⟨f, sv, (cmdX 3 0 0 K).2, V, opH 3 0 0 K H, LW_mono (by omega) h2, op_eq (by decide) hG (by omega) (by omega) (by omega)⟩, rfl⟩)
    · refine y_go rfl rfl ?_
      refine y_go rfl rfl ?_
      refine y_go rfl rfl ?_
      refine y_go rfl rfl ?_
      refine y_go rfl rfl ?_
      rw [show nI y >>> ((3 : Int32) &&& 31) = nI (y / 8) from pk_shrN (by omega) _ 3 (by decide)]
      refine y_div rfl (by decide) (Or.inr ⟨rfl, nI_mod (a := (y / 8)) (b := 7) (by omega) (by decide)⟩) ?_
      refine y_S1e rfl rfl (Nat.le_of_ble_eq_true rfl) (Nat.le_of_ble_eq_true rfl) rfl rfl (o_setDraught (by omega) hW (by omega) ((y / 8) % 7) (by omega)) (fun s3 h3 => ?_)
      refine y_go rfl rfl ?_
      exact y_ireturn rfl rfl rfl (by subst hQd; exact ⟨(s3, opV 4 ((y / 8) % 7) 0 K), ⟨f, sv, (cmdX 4 ((y / 8) % 7) 0 K).2, V, opH 4 ((y / 8) % 7) 0 K H, LW_mono (by omega) h3, op_eq (by decide) hG (by omega) (by omega) (by omega)⟩, rfl⟩)
  · refine y_go (g' := (190, [.ref 0, .int x, .int (nI y), .int (nI kd), .int (nI ((y / 8) % 9))], [], _)) rfl rfl ?_
    refine y_go rfl rfl ?_
    refine y_go rfl rfl ?_
    refine y_go rfl rfl ?_
    refine y_go rfl rfl ?_
    refine y_go rfl rfl ?_
    refine y_go rfl rfl ?_
    rw [show nI y >>> ((3 : Int32) &&& 31) = nI (y / 8) from pk_shrN (by omega) _ 3 (by decide)]
    refine y_div rfl (by decide) (Or.inr ⟨rfl, nI_mod (a := (y / 8)) (b := 52) (by omega) (by decide)⟩) ?_
    refine y_S1e rfl rfl (Nat.le_of_ble_eq_true rfl) (Nat.le_of_ble_eq_true rfl) rfl rfl (o_addFuel (by omega) hW (by omega) kd (by omega) ((y / 8) % 52) (by omega)) (fun s1 h1 => ?_)
    exact y_ireturn rfl rfl rfl (by subst hQd; exact ⟨(s1, opV 5 kd ((y / 8) % 52) K), ⟨f, sv, (cmdX 5 kd ((y / 8) % 52) K).2, V, opH 5 kd ((y / 8) % 52) K H, LW_mono (by omega) h1, op_eq (by decide) hG (by omega) (by omega) (by omega)⟩, rfl⟩)
  · refine y_go (g' := (190, [.ref 0, .int x, .int (nI y), .int (nI kd), .int (nI ((y / 8) % 9))], [], _)) rfl rfl ?_
    refine y_go rfl rfl ?_
    refine y_go rfl rfl ?_
    refine y_go rfl rfl ?_
    refine y_go rfl rfl ?_
    refine y_go rfl rfl ?_
    refine y_go rfl rfl ?_
    rw [show nI y >>> ((3 : Int32) &&& 31) = nI (y / 8) from pk_shrN (by omega) _ 3 (by decide)]
    refine y_div rfl (by decide) (Or.inr ⟨rfl, nI_mod (a := (y / 8)) (b := 52) (by omega) (by decide)⟩) ?_
    refine y_S1e rfl rfl (Nat.le_of_ble_eq_true rfl) (Nat.le_of_ble_eq_true rfl) rfl rfl (o_addFuel (by omega) hW (by omega) kd (by omega) ((y / 8) % 52) (by omega)) (fun s1 h1 => ?_)
    exact y_ireturn rfl rfl rfl (by subst hQd; exact ⟨(s1, opV 5 kd ((y / 8) % 52) K), ⟨f, sv, (cmdX 5 kd ((y / 8) % 52) K).2, V, opH 5 kd ((y / 8) % 52) K H, LW_mono (by omega) h1, op_eq (by decide) hG (by omega) (by omega) (by omega)⟩, rfl⟩)
  · refine y_go (g' := (202, [.ref 0, .int x, .int (nI y), .int (nI kd), .int (nI ((y / 8) % 9))], [], _)) rfl rfl ?_
    refine y_go rfl rfl ?_
    refine y_go rfl rfl ?_
    refine y_go rfl rfl ?_
    refine y_go rfl rfl ?_
    refine y_go rfl rfl ?_
    rw [show nI y >>> ((3 : Int32) &&& 31) = nI (y / 8) from pk_shrN (by omega) _ 3 (by decide)]
    refine y_div rfl (by decide) (Or.inr ⟨rfl, nI_mod (a := (y / 8)) (b := 202) (by omega) (by decide)⟩) ?_
    refine y_S1e rfl rfl (Nat.le_of_ble_eq_true rfl) (Nat.le_of_ble_eq_true rfl) rfl rfl (o_feed (by omega) hW (by omega) ((y / 8) % 202) (by omega)) (fun s1 h1 => ?_)
    exact y_ireturn rfl rfl rfl (by subst hQd; exact ⟨(s1, opV 7 ((y / 8) % 202) 0 K), ⟨f, sv, (cmdX 7 ((y / 8) % 202) 0 K).2, V, opH 7 ((y / 8) % 202) 0 K H, LW_mono (by omega) h1, op_eq (by decide) hG (by omega) (by omega) (by omega)⟩, rfl⟩)
  · refine y_go (g' := (214, [.ref 0, .int x, .int (nI y), .int (nI kd), .int (nI ((y / 8) % 9))], [], _)) rfl rfl ?_
    refine y_go rfl rfl ?_
    refine y_go rfl rfl ?_
    refine y_go rfl rfl ?_
    refine y_go rfl rfl ?_
    refine y_go rfl rfl ?_
    rw [show nI y >>> ((3 : Int32) &&& 31) = nI (y / 8) from pk_shrN (by omega) _ 3 (by decide)]
    refine y_div rfl (by decide) (Or.inr ⟨rfl, nI_mod (a := (y / 8)) (b := 13) (by omega) (by decide)⟩) ?_
    refine y_S1e rfl rfl (Nat.le_of_ble_eq_true rfl) (Nat.le_of_ble_eq_true rfl) rfl rfl (o_passHours (by omega) hW (by omega) ((y / 8) % 13) (by omega)) (fun s1 h1 => ?_)
    exact y_ireturn rfl rfl rfl (by subst hQd; exact ⟨(s1, opV 8 ((y / 8) % 13) 0 K), ⟨f, sv, (cmdX 8 ((y / 8) % 13) 0 K).2, V, opH 8 ((y / 8) % 13) 0 K H, LW_mono (by omega) h1, op_eq (by decide) hG (by omega) (by omega) (by omega)⟩, rfl⟩)
  · refine y_go (g' := (214, [.ref 0, .int x, .int (nI y), .int (nI kd), .int (nI ((y / 8) % 9))], [], _)) rfl rfl ?_
    refine y_go rfl rfl ?_
    refine y_go rfl rfl ?_
    refine y_go rfl rfl ?_
    refine y_go rfl rfl ?_
    refine y_go rfl rfl ?_
    rw [show nI y >>> ((3 : Int32) &&& 31) = nI (y / 8) from pk_shrN (by omega) _ 3 (by decide)]
    refine y_div rfl (by decide) (Or.inr ⟨rfl, nI_mod (a := (y / 8)) (b := 13) (by omega) (by decide)⟩) ?_
    refine y_S1e rfl rfl (Nat.le_of_ble_eq_true rfl) (Nat.le_of_ble_eq_true rfl) rfl rfl (o_passHours (by omega) hW (by omega) ((y / 8) % 13) (by omega)) (fun s1 h1 => ?_)
    exact y_ireturn rfl rfl rfl (by subst hQd; exact ⟨(s1, opV 8 ((y / 8) % 13) 0 K), ⟨f, sv, (cmdX 8 ((y / 8) % 13) 0 K).2, V, opH 8 ((y / 8) % 13) 0 K H, LW_mono (by omega) h1, op_eq (by decide) hG (by omega) (by omega) (by omega)⟩, rfl⟩)
  · refine y_go (g' := (225, [.ref 0, .int x, .int (nI y), .int (nI kd), .int (nI ((y / 8) % 9))], [], _)) rfl rfl ?_
    refine y_go rfl rfl ?_
    refine y_go rfl rfl ?_
    refine y_go rfl rfl ?_
    refine y_if_ne rfl (fun c230 => ?_) (fun c230 => ?_)
    · refine y_go rfl rfl ?_
      refine y_go rfl rfl ?_
      refine y_go rfl rfl ?_
      refine y_go rfl rfl ?_
      obtain ⟨ta, la, pa1, pa2, pa3, pa4⟩ := prg_arr
      refine y_alenc (n := 29) rfl (xnoh (LW_len hW) (by decide)) pa1 pa3 ?_
      refine y_div rfl (by decide) (Or.inr ⟨rfl, nI_mod (a := y) (b := 29) (by omega) (by decide)⟩) ?_
      refine y_aaldc (j := y % 29) rfl (xnoh (LW_len hW) (by decide)) pa1 pa2 (xidx_nI (by omega)) (pa4 (y % 29) (by omega)) ?_
      obtain ⟨N, s5, l5, r1, r2, r3, r4, r5, r6, r7⟩ := prg_all (y % 29) (by omega)
      refine y_S1e rfl rfl (Nat.le_of_ble_eq_true rfl) (Nat.le_of_ble_eq_true rfl) rfl rfl (o_typed (by omega) hW rfl N r2 r3 r1) (fun s1 h1 => ?_)
      refine y_callS rfl rfl (Nat.le_of_ble_eq_true rfl) (Nat.le_of_ble_eq_true rfl) rfl rfl (o_run (by omega) h1 (by omega) N rfl r3 s5 l5 r4 r5 r6 r7) (fun q hq => ?_)
      rcases hq with ⟨s2, ⟨K2, h2⟩, rfl⟩ | ⟨s2, ⟨j, hj, h2⟩, rfl⟩
      · refine Or.inl ⟨_, rfl, ?_⟩
        exact y_ireturn rfl rfl rfl (by subst hQd; exact ⟨(s2, nI l5.length), ⟨f, sv, K2, V, _, LW_mono (by omega) h2, fun z => absurd z (nI_big (by omega))⟩, rfl⟩)
      · refine Or.inl ⟨_, rfl, ?_⟩
        exact y_ireturn rfl rfl rfl (by subst hQd; exact ⟨(s2, -100000000), ⟨nI j, sv, K, V, H, LW_mono (by omega) h2, fun _ => rfl⟩, rfl⟩)
    · refine y_go rfl rfl ?_
      refine y_go rfl rfl ?_
      refine y_go rfl rfl ?_
      refine y_go rfl rfl ?_
      refine y_go rfl rfl ?_
      refine y_go rfl rfl ?_
      rw [show nI y >>> ((3 : Int32) &&& 31) = nI (y / 8) from pk_shrN (by omega) _ 3 (by decide)]
      refine y_div rfl (by decide) (Or.inr ⟨rfl, nI_mod (a := (y / 8)) (b := 10) (by omega) (by decide)⟩) ?_
      refine y_go (g' := (242, [.ref 0, .int x, .int (nI y), .int (nI kd), .int (nI ((y / 8) % 9))], [.int (nI (1 + ((y / 8) % 10))), .ref 0], _)) rfl (by rw [← nI_add 1 ((y / 8) % 10)]; rfl) ?_
      refine y_go rfl rfl ?_
      refine y_go rfl rfl ?_
      refine y_go rfl rfl ?_
      refine y_go rfl rfl ?_
      rw [show nI y >>> ((5 : Int32) &&& 31) = nI (y / 32) from pk_shrN (by omega) _ 5 (by decide)]
      refine y_div rfl (by decide) (Or.inr ⟨rfl, nI_mod (a := (y / 32)) (b := 5) (by omega) (by decide)⟩) ?_
      refine y_S1e rfl rfl (Nat.le_of_ble_eq_true rfl) (Nat.le_of_ble_eq_true rfl) rfl rfl (o_buildWall (by omega) hW (by omega) (1 + ((y / 8) % 10)) (by omega) ((y / 32) % 5) (by omega)) (fun s1 h1 => ?_)
      refine y_go rfl rfl ?_
      exact y_ireturn rfl rfl rfl (by subst hQd; exact ⟨(s1, opV 9 (1 + ((y / 8) % 10)) ((y / 32) % 5) K), ⟨f, sv, (cmdX 9 (1 + ((y / 8) % 10)) ((y / 32) % 5) K).2, V, opH 9 (1 + ((y / 8) % 10)) ((y / 32) % 5) K H, LW_mono (by omega) h1, op_eq (by decide) hG (by omega) (by omega) (by omega)⟩, rfl⟩)
  · refine y_go (g' := (225, [.ref 0, .int x, .int (nI y), .int (nI kd), .int (nI ((y / 8) % 9))], [], _)) rfl rfl ?_
    refine y_go rfl rfl ?_
    refine y_go rfl rfl ?_
    refine y_go rfl rfl ?_
    refine y_if_ne rfl (fun c230 => ?_) (fun c230 => ?_)
    · refine y_go rfl rfl ?_
      refine y_go rfl rfl ?_
      refine y_go rfl rfl ?_
      refine y_go rfl rfl ?_
      obtain ⟨ta, la, pa1, pa2, pa3, pa4⟩ := prg_arr
      refine y_alenc (n := 29) rfl (xnoh (LW_len hW) (by decide)) pa1 pa3 ?_
      refine y_div rfl (by decide) (Or.inr ⟨rfl, nI_mod (a := y) (b := 29) (by omega) (by decide)⟩) ?_
      refine y_aaldc (j := y % 29) rfl (xnoh (LW_len hW) (by decide)) pa1 pa2 (xidx_nI (by omega)) (pa4 (y % 29) (by omega)) ?_
      obtain ⟨N, s5, l5, r1, r2, r3, r4, r5, r6, r7⟩ := prg_all (y % 29) (by omega)
      refine y_S1e rfl rfl (Nat.le_of_ble_eq_true rfl) (Nat.le_of_ble_eq_true rfl) rfl rfl (o_typed (by omega) hW rfl N r2 r3 r1) (fun s1 h1 => ?_)
      refine y_callS rfl rfl (Nat.le_of_ble_eq_true rfl) (Nat.le_of_ble_eq_true rfl) rfl rfl (o_run (by omega) h1 (by omega) N rfl r3 s5 l5 r4 r5 r6 r7) (fun q hq => ?_)
      rcases hq with ⟨s2, ⟨K2, h2⟩, rfl⟩ | ⟨s2, ⟨j, hj, h2⟩, rfl⟩
      · refine Or.inl ⟨_, rfl, ?_⟩
        exact y_ireturn rfl rfl rfl (by subst hQd; exact ⟨(s2, nI l5.length), ⟨f, sv, K2, V, _, LW_mono (by omega) h2, fun z => absurd z (nI_big (by omega))⟩, rfl⟩)
      · refine Or.inl ⟨_, rfl, ?_⟩
        exact y_ireturn rfl rfl rfl (by subst hQd; exact ⟨(s2, -100000000), ⟨nI j, sv, K, V, H, LW_mono (by omega) h2, fun _ => rfl⟩, rfl⟩)
    · refine y_go rfl rfl ?_
      refine y_go rfl rfl ?_
      refine y_go rfl rfl ?_
      refine y_go rfl rfl ?_
      refine y_go rfl rfl ?_
      refine y_go rfl rfl ?_
      rw [show nI y >>> ((3 : Int32) &&& 31) = nI (y / 8) from pk_shrN (by omega) _ 3 (by decide)]
      refine y_div rfl (by decide) (Or.inr ⟨rfl, nI_mod (a := (y / 8)) (b := 10) (by omega) (by decide)⟩) ?_
      refine y_go (g' := (242, [.ref 0, .int x, .int (nI y), .int (nI kd), .int (nI ((y / 8) % 9))], [.int (nI (1 + ((y / 8) % 10))), .ref 0], _)) rfl (by rw [← nI_add 1 ((y / 8) % 10)]; rfl) ?_
      refine y_go rfl rfl ?_
      refine y_go rfl rfl ?_
      refine y_go rfl rfl ?_
      refine y_go rfl rfl ?_
      rw [show nI y >>> ((5 : Int32) &&& 31) = nI (y / 32) from pk_shrN (by omega) _ 5 (by decide)]
      refine y_div rfl (by decide) (Or.inr ⟨rfl, nI_mod (a := (y / 32)) (b := 5) (by omega) (by decide)⟩) ?_
      refine y_S1e rfl rfl (Nat.le_of_ble_eq_true rfl) (Nat.le_of_ble_eq_true rfl) rfl rfl (o_buildWall (by omega) hW (by omega) (1 + ((y / 8) % 10)) (by omega) ((y / 32) % 5) (by omega)) (fun s1 h1 => ?_)
      refine y_go rfl rfl ?_
      exact y_ireturn rfl rfl rfl (by subst hQd; exact ⟨(s1, opV 9 (1 + ((y / 8) % 10)) ((y / 32) % 5) K), ⟨f, sv, (cmdX 9 (1 + ((y / 8) % 10)) ((y / 32) % 5) K).2, V, opH 9 (1 + ((y / 8) % 10)) ((y / 32) % 5) K H, LW_mono (by omega) h1, op_eq (by decide) hG (by omega) (by omega) (by omega)⟩, rfl⟩)
  · refine y_go (g' := (225, [.ref 0, .int x, .int (nI y), .int (nI kd), .int (nI ((y / 8) % 9))], [], _)) rfl rfl ?_
    refine y_go rfl rfl ?_
    refine y_go rfl rfl ?_
    refine y_go rfl rfl ?_
    refine y_if_ne rfl (fun c230 => ?_) (fun c230 => ?_)
    · refine y_go rfl rfl ?_
      refine y_go rfl rfl ?_
      refine y_go rfl rfl ?_
      refine y_go rfl rfl ?_
      obtain ⟨ta, la, pa1, pa2, pa3, pa4⟩ := prg_arr
      refine y_alenc (n := 29) rfl (xnoh (LW_len hW) (by decide)) pa1 pa3 ?_
      refine y_div rfl (by decide) (Or.inr ⟨rfl, nI_mod (a := y) (b := 29) (by omega) (by decide)⟩) ?_
      refine y_aaldc (j := y % 29) rfl (xnoh (LW_len hW) (by decide)) pa1 pa2 (xidx_nI (by omega)) (pa4 (y % 29) (by omega)) ?_
      obtain ⟨N, s5, l5, r1, r2, r3, r4, r5, r6, r7⟩ := prg_all (y % 29) (by omega)
      refine y_S1e rfl rfl (Nat.le_of_ble_eq_true rfl) (Nat.le_of_ble_eq_true rfl) rfl rfl (o_typed (by omega) hW rfl N r2 r3 r1) (fun s1 h1 => ?_)
      refine y_callS rfl rfl (Nat.le_of_ble_eq_true rfl) (Nat.le_of_ble_eq_true rfl) rfl rfl (o_run (by omega) h1 (by omega) N rfl r3 s5 l5 r4 r5 r6 r7) (fun q hq => ?_)
      rcases hq with ⟨s2, ⟨K2, h2⟩, rfl⟩ | ⟨s2, ⟨j, hj, h2⟩, rfl⟩
      · refine Or.inl ⟨_, rfl, ?_⟩
        exact y_ireturn rfl rfl rfl (by subst hQd; exact ⟨(s2, nI l5.length), ⟨f, sv, K2, V, _, LW_mono (by omega) h2, fun z => absurd z (nI_big (by omega))⟩, rfl⟩)
      · refine Or.inl ⟨_, rfl, ?_⟩
        exact y_ireturn rfl rfl rfl (by subst hQd; exact ⟨(s2, -100000000), ⟨nI j, sv, K, V, H, LW_mono (by omega) h2, fun _ => rfl⟩, rfl⟩)
    · refine y_go rfl rfl ?_
      refine y_go rfl rfl ?_
      refine y_go rfl rfl ?_
      refine y_go rfl rfl ?_
      refine y_go rfl rfl ?_
      refine y_go rfl rfl ?_
      rw [show nI y >>> ((3 : Int32) &&& 31) = nI (y / 8) from pk_shrN (by omega) _ 3 (by decide)]
      refine y_div rfl (by decide) (Or.inr ⟨rfl, nI_mod (a := (y / 8)) (b := 10) (by omega) (by decide)⟩) ?_
      refine y_go (g' := (242, [.ref 0, .int x, .int (nI y), .int (nI kd), .int (nI ((y / 8) % 9))], [.int (nI (1 + ((y / 8) % 10))), .ref 0], _)) rfl (by rw [← nI_add 1 ((y / 8) % 10)]; rfl) ?_
      refine y_go rfl rfl ?_
      refine y_go rfl rfl ?_
      refine y_go rfl rfl ?_
      refine y_go rfl rfl ?_
      rw [show nI y >>> ((5 : Int32) &&& 31) = nI (y / 32) from pk_shrN (by omega) _ 5 (by decide)]
      refine y_div rfl (by decide) (Or.inr ⟨rfl, nI_mod (a := (y / 32)) (b := 5) (by omega) (by decide)⟩) ?_
      refine y_S1e rfl rfl (Nat.le_of_ble_eq_true rfl) (Nat.le_of_ble_eq_true rfl) rfl rfl (o_buildWall (by omega) hW (by omega) (1 + ((y / 8) % 10)) (by omega) ((y / 32) % 5) (by omega)) (fun s1 h1 => ?_)
      refine y_go rfl rfl ?_
      exact y_ireturn rfl rfl rfl (by subst hQd; exact ⟨(s1, opV 9 (1 + ((y / 8) % 10)) ((y / 32) % 5) K), ⟨f, sv, (cmdX 9 (1 + ((y / 8) % 10)) ((y / 32) % 5) K).2, V, opH 9 (1 + ((y / 8) % 10)) ((y / 32) % 5) K H, LW_mono (by omega) h1, op_eq (by decide) hG (by omega) (by omega) (by omega)⟩, rfl⟩)
  · refine y_go (g' := (271, [.ref 0, .int x, .int (nI y), .int (nI kd), .int (nI ((y / 8) % 9))], [], _)) rfl rfl ?_
    refine y_go rfl rfl ?_
    refine y_go rfl rfl ?_
    refine y_go rfl rfl ?_
    refine y_if_ne rfl (fun c274 => ?_) (fun c274 => ?_)
    · refine y_go rfl rfl ?_
      refine y_go rfl rfl ?_
      refine y_go rfl rfl ?_
      refine y_go rfl rfl ?_
      refine y_ic_ne rfl (fun c288 => ?_) (fun c288 => ?_)
      · refine y_go rfl rfl ?_
        cases H with
        | nil =>
          refine y_S1e rfl rfl (Nat.le_of_ble_eq_true rfl) (Nat.le_of_ble_eq_true rfl) rfl rfl (o_undo0 (by omega) hW rfl) (fun s1 h1 => ?_)
          exact y_ireturn rfl rfl rfl (by subst hQd; exact ⟨(s1, -100000000), ⟨f, sv, K, V, [], LW_mono (by omega) h1, fun _ => rfl⟩, rfl⟩)
        | cons X H2 =>
          have hlen : H2.length < 2 ^ 31 := by have := LW_hist hW; rw [List.length_cons] at this; omega
          refine y_S1e rfl rfl (Nat.le_of_ble_eq_true rfl) (Nat.le_of_ble_eq_true rfl) rfl rfl (o_undo (by omega) hW X H2 rfl) (fun s1 h1 => ?_)
          exact y_ireturn rfl rfl rfl (by subst hQd; exact ⟨(s1, nI H2.length), ⟨f, sv, X, V, H2, LW_mono (by omega) h1, fun z => absurd z (nI_big hlen)⟩, rfl⟩)
      · refine y_go rfl rfl ?_
        by_cases q : sv = 0
        · refine y_S1e rfl rfl (Nat.le_of_ble_eq_true rfl) (Nat.le_of_ble_eq_true rfl) rfl rfl (o_restored0 (by omega) hW q) (fun s1 h1 => ?_)
          refine y_go rfl rfl ?_
          exact y_ireturn rfl rfl rfl (by subst hQd; exact ⟨(s1, -100000000), ⟨f, sv, K, V, H, LW_mono (by omega) h1, fun _ => rfl⟩, rfl⟩)
        · refine y_S1e rfl rfl (Nat.le_of_ble_eq_true rfl) (Nat.le_of_ble_eq_true rfl) rfl rfl (o_restored (by omega) hW q) (fun s1 h1 => ?_)
          refine y_go rfl rfl ?_
          exact y_ireturn rfl rfl rfl (by subst hQd; exact ⟨(s1, 0), ⟨f, sv, V, V, [], LW_mono (by omega) h1, fun z => absurd (show (0 : Int32) = -100000000 from z) (by decide)⟩, rfl⟩)
    · refine y_go rfl rfl ?_
      refine y_S1e rfl rfl (Nat.le_of_ble_eq_true rfl) (Nat.le_of_ble_eq_true rfl) rfl rfl (o_saved (by omega) hW) (fun s2 h2 => ?_)
      refine y_go rfl rfl ?_
      exact y_ireturn rfl rfl rfl (by subst hQd; exact ⟨(s2, 0), ⟨f, 1, K, K, H, LW_mono (by omega) h2, fun z => absurd (show (0 : Int32) = -100000000 from z) (by decide)⟩, rfl⟩)
