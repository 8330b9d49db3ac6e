/-! THE LAW'S WORLD: what the kiln tells, runs, undoes, saves. -/
theorem t_time {S : List Int32} {d : Nat} (hd : 8 ≤ d) {n : Nat} {f sv : Int32} {K V : kK} {H : List kK} {T : List Int32} {s : xS} (hW : LW n f sv K V H T s) : yT S d 71 [.ref 0] s (· = (.inl (some (.int (K.1 0))), s)) := by
  obtain ⟨⟨e, ol, sz, R, hw, hh⟩, g1, g2, g3, c1, c2⟩ := id hW
  exact q_time hd hw s.2
theorem t_heat {S : List Int32} {d : Nat} (hd : 8 ≤ d) {n : Nat} {f sv : Int32} {K V : kK} {H : List kK} {T : List Int32} {s : xS} (hW : LW n f sv K V H T s) : yT S d 74 [.ref 0] s (· = (.inl (some (.int (K.1 2))), s)) := by
  obtain ⟨⟨e, ol, sz, R, hw, hh⟩, g1, g2, g3, c1, c2⟩ := id hW
  exact q_heat hd hw s.2
theorem t_draught {S : List Int32} {d : Nat} (hd : 8 ≤ d) {n : Nat} {f sv : Int32} {K V : kK} {H : List kK} {T : List Int32} {s : xS} (hW : LW n f sv K V H T s) : yT S d 75 [.ref 0] s (· = (.inl (some (.int (K.1 3))), s)) := by
  obtain ⟨⟨e, ol, sz, R, hw, hh⟩, g1, g2, g3, c1, c2⟩ := id hW
  exact q_draught hd hw s.2
theorem t_stock {S : List Int32} {d : Nat} (hd : 8 ≤ d) {n : Nat} {f sv : Int32} {K V : kK} {H : List kK} {T : List Int32} {s : xS} (hW : LW n f sv K V H T s) : yT S d 93 [.ref 0] s (· = (.inl (some (.int (K.1 9))), s)) := by
  obtain ⟨⟨e, ol, sz, R, hw, hh⟩, g1, g2, g3, c1, c2⟩ := id hW
  exact q_stock hd hw s.2
theorem t_walls {S : List Int32} {d : Nat} (hd : 8 ≤ d) {n : Nat} {f sv : Int32} {K V : kK} {H : List kK} {T : List Int32} {s : xS} (hW : LW n f sv K V H T s) : yT S d 94 [.ref 0] s (· = (.inl (some (.int (K.1 10))), s)) := by
  obtain ⟨⟨e, ol, sz, R, hw, hh⟩, g1, g2, g3, c1, c2⟩ := id hW
  exact q_walls hd hw s.2
theorem t_paid {S : List Int32} {d : Nat} (hd : 8 ≤ d) {n : Nat} {f sv : Int32} {K V : kK} {H : List kK} {T : List Int32} {s : xS} (hW : LW n f sv K V H T s) : yT S d 97 [.ref 0] s (· = (.inl (some (.int (K.1 14))), s)) := by
  obtain ⟨⟨e, ol, sz, R, hw, hh⟩, g1, g2, g3, c1, c2⟩ := id hW
  exact q_paid hd hw s.2
theorem t_accounts {S : List Int32} {d : Nat} (hd : 8 ≤ d) {n : Nat} {f sv : Int32} {K V : kK} {H : List kK} {T : List Int32} {s : xS} (hW : LW n f sv K V H T s) : yT S d 96 [.ref 0] s (· = (.inl (some (.int (K.1 11 - K.1 13))), s)) := by
  obtain ⟨⟨e, ol, sz, R, hw, hh⟩, g1, g2, g3, c1, c2⟩ := id hW
  exact q_accounts hd hw s.2
theorem t_isLit {S : List Int32} {d : Nat} (hd : 8 ≤ d) {n : Nat} {f sv : Int32} {K V : kK} {H : List kK} {T : List Int32} {s : xS} (hW : LW n f sv K V H T s) : yT S d 72 [.ref 0] s (· = (.inl (some (.int (if K.1 1 = -1 then 0 else 1))), s)) := by
  obtain ⟨⟨e, ol, sz, R, hw, hh⟩, g1, g2, g3, c1, c2⟩ := id hW
  exact q_isLit hd hw s.2
theorem t_brickTotal {S : List Int32} {d : Nat} (hd : 8 ≤ d) {n : Nat} {f sv : Int32} {K V : kK} {H : List kK} {T : List Int32} {s : xS} (hW : LW n f sv K V H T s) : yT S d 95 [.ref 0] s (· = (.inl (some (.int (sumTo (K.1 9) K.2.2.1 8))), s)) := by
  obtain ⟨⟨e, ol, sz, R, hw, hh⟩, g1, g2, g3, c1, c2⟩ := id hW
  exact q_brickTotal hd hw s.2
theorem t_state {S : List Int32} {d : Nat} (hd : 8 ≤ d) {n : Nat} {f sv : Int32} {K V : kK} {H : List kK} {T : List Int32} {s : xS} (hW : LW n f sv K V H T s) (j : Nat) (hj : j < 8) : yT S d 76 [.ref 0, .int (nI j)] s (· = (.inl (some (.int (gd K.2.1 j))), s)) := by
  obtain ⟨⟨e, ol, sz, R, hw, hh⟩, g1, g2, g3, c1, c2⟩ := id hW
  exact q_state hd hw s.2 j hj (by obtain ⟨b, -, -, hb⟩ := g1.2.1 j hj; rcases hb with hb | hb; exact Or.inl hb.1; rcases hb.1 with hb | hb; exact Or.inr (Or.inl hb); exact Or.inr (Or.inr hb))
theorem t_bricks {S : List Int32} {d : Nat} (hd : 8 ≤ d) {n : Nat} {f sv : Int32} {K V : kK} {H : List kK} {T : List Int32} {s : xS} (hW : LW n f sv K V H T s) (j : Nat) (hj : j < 8) : yT S d 77 [.ref 0, .int (nI j)] s (· = (.inl (some (.int (gd K.2.2.1 j))), s)) := by
  obtain ⟨⟨e, ol, sz, R, hw, hh⟩, g1, g2, g3, c1, c2⟩ := id hW
  exact q_bricks hd hw s.2 j hj
theorem t_temperature {S : List Int32} {d : Nat} (hd : 8 ≤ d) {n : Nat} {f sv : Int32} {K V : kK} {H : List kK} {T : List Int32} {s : xS} (hW : LW n f sv K V H T s) (j : Nat) (hj : j < 8) : yT S d 78 [.ref 0, .int (nI j)] s (· = (.inl (some (.int (gd K.2.2.2.1 j))), s)) := by
  obtain ⟨⟨e, ol, sz, R, hw, hh⟩, g1, g2, g3, c1, c2⟩ := id hW
  exact q_temperature hd hw s.2 j hj
theorem t_fuel0 {S : List Int32} {d : Nat} (hd : 8 ≤ d) {n : Nat} {f sv : Int32} {K V : kK} {H : List kK} {T : List Int32} {s : xS} (hW : LW n f sv K V H T s) : yT S d 84 [.ref 0, .int 119] s (· = (.inl (some (.int (gd K.2.2.2.2.1 0))), s)) := by
  obtain ⟨⟨e, ol, sz, R, hw, hh⟩, g1, g2, g3, c1, c2⟩ := id hW
  exact q_fuel0 hd hw s.2
theorem t_price0 {S : List Int32} {d : Nat} (hd : 8 ≤ d) {n : Nat} {f sv : Int32} {K V : kK} {H : List kK} {T : List Int32} {s : xS} (hW : LW n f sv K V H T s) : yT S d 85 [.ref 0, .int 119] s (· = (.inl (some (.int (gd K.2.2.2.2.2 0))), s)) := by
  obtain ⟨⟨e, ol, sz, R, hw, hh⟩, g1, g2, g3, c1, c2⟩ := id hW
  exact q_price0 hd hw s.2
theorem t_fuel1 {S : List Int32} {d : Nat} (hd : 8 ≤ d) {n : Nat} {f sv : Int32} {K V : kK} {H : List kK} {T : List Int32} {s : xS} (hW : LW n f sv K V H T s) : yT S d 84 [.ref 0, .int 99] s (· = (.inl (some (.int (gd K.2.2.2.2.1 1))), s)) := by
  obtain ⟨⟨e, ol, sz, R, hw, hh⟩, g1, g2, g3, c1, c2⟩ := id hW
  exact q_fuel1 hd hw s.2
theorem t_price1 {S : List Int32} {d : Nat} (hd : 8 ≤ d) {n : Nat} {f sv : Int32} {K V : kK} {H : List kK} {T : List Int32} {s : xS} (hW : LW n f sv K V H T s) : yT S d 85 [.ref 0, .int 99] s (· = (.inl (some (.int (gd K.2.2.2.2.2 1))), s)) := by
  obtain ⟨⟨e, ol, sz, R, hw, hh⟩, g1, g2, g3, c1, c2⟩ := id hW
  exact q_price1 hd hw s.2
theorem t_fuel2 {S : List Int32} {d : Nat} (hd : 8 ≤ d) {n : Nat} {f sv : Int32} {K V : kK} {H : List kK} {T : List Int32} {s : xS} (hW : LW n f sv K V H T s) : yT S d 84 [.ref 0, .int 111] s (· = (.inl (some (.int (gd K.2.2.2.2.1 2))), s)) := by
  obtain ⟨⟨e, ol, sz, R, hw, hh⟩, g1, g2, g3, c1, c2⟩ := id hW
  exact q_fuel2 hd hw s.2
theorem t_price2 {S : List Int32} {d : Nat} (hd : 8 ≤ d) {n : Nat} {f sv : Int32} {K V : kK} {H : List kK} {T : List Int32} {s : xS} (hW : LW n f sv K V H T s) : yT S d 85 [.ref 0, .int 111] s (· = (.inl (some (.int (gd K.2.2.2.2.2 2))), s)) := by
  obtain ⟨⟨e, ol, sz, R, hw, hh⟩, g1, g2, g3, c1, c2⟩ := id hW
  exact q_price2 hd hw s.2
theorem t_mean {S : List Int32} {d : Nat} (hd : 8 ≤ d) {n : Nat} {f sv : Int32} {K V : kK} {H : List kK} {T : List Int32} {s : xS} (hW : LW n f sv K V H T s) : yT S d 98 [.ref 0] s (· = (.inl (some (.double (mnT K))), s)) := by
  obtain ⟨⟨e, ol, sz, R, hw, hh⟩, g1, g2, g3, c1, c2⟩ := id hW
  exact q_mean hd hw s.2 g1.2.2.1
theorem t_courses {S : List Int32} {d : Nat} (hd : 8 ≤ d) {n : Nat} {f sv : Int32} {K V : kK} {H : List kK} {T : List Int32} {s : xS} (hW : LW n f sv K V H T s) (w : Nat) (hu : 2 ≤ w ∧ w ≤ 18) : yT S d 89 [.ref 0, .int (nI w)] s (· = (.inl (some (.int (nI (xCn w)))), s)) := by
  obtain ⟨⟨e, ol, sz, R, hw, hh⟩, g1, g2, g3, c1, c2⟩ := id hW
  exact q_courses hd hw s.2 w hu
theorem ans_ok {v : Int32} {W : xH → Prop} {k0 : Nat × Nat} {r : xR} (hx : xcode v = none) (h : ansP v W k0 r) : ∃ h2, W h2 ∧ r = (.inl (some (.int v)), (h2, k0)) := by
  rcases h with ⟨-, h2, hw, hr⟩ | ⟨E, hE, -⟩
  · exact ⟨h2, hw, hr⟩
  · rw [hx] at hE; cases hE
theorem t_in_e {S : List Int32} {d : Nat} (hd : 14 ≤ d) {n : Nat} {f sv : Int32} {K V : kK} {H : List kK} {T : List Int32} {s : xS} (hW : LW n f sv K V H T s) : yT S d 80 [.ref 0, .int 101] s (fun r => ∃ s2, LW (n + 1) f sv K V H T s2 ∧ r = (.inl (some (.int (cntTo K.2.1 101 8))), s2)) := by
  obtain ⟨⟨e, ol, sz, R, hw, hh⟩, g1, g2, g3, c1, c2⟩ := id hW
  refine yT_mono (q_in_e (by omega) hw s.2) fun r hr => ?_
  obtain ⟨h2, hw2, hr⟩ := ans_ok (by obtain ⟨j, hj, hj2⟩ := cntTo_nI K.2.1 101 8; rw [hj]; exact xcode_pos (nI_pos (by omega))) hr
  exact ⟨(h2, s.2), LW_up hw2 hh g1 g2 g3 c1 c2, hr⟩
theorem t_in_g {S : List Int32} {d : Nat} (hd : 14 ≤ d) {n : Nat} {f sv : Int32} {K V : kK} {H : List kK} {T : List Int32} {s : xS} (hW : LW n f sv K V H T s) : yT S d 80 [.ref 0, .int 103] s (fun r => ∃ s2, LW (n + 1) f sv K V H T s2 ∧ r = (.inl (some (.int (cntTo K.2.1 103 8))), s2)) := by
  obtain ⟨⟨e, ol, sz, R, hw, hh⟩, g1, g2, g3, c1, c2⟩ := id hW
  refine yT_mono (q_in_g (by omega) hw s.2) fun r hr => ?_
  obtain ⟨h2, hw2, hr⟩ := ans_ok (by obtain ⟨j, hj, hj2⟩ := cntTo_nI K.2.1 103 8; rw [hj]; exact xcode_pos (nI_pos (by omega))) hr
  exact ⟨(h2, s.2), LW_up hw2 hh g1 g2 g3 c1 c2, hr⟩
theorem t_in_f {S : List Int32} {d : Nat} (hd : 14 ≤ d) {n : Nat} {f sv : Int32} {K V : kK} {H : List kK} {T : List Int32} {s : xS} (hW : LW n f sv K V H T s) : yT S d 80 [.ref 0, .int 102] s (fun r => ∃ s2, LW (n + 1) f sv K V H T s2 ∧ r = (.inl (some (.int (cntTo K.2.1 102 8))), s2)) := by
  obtain ⟨⟨e, ol, sz, R, hw, hh⟩, g1, g2, g3, c1, c2⟩ := id hW
  refine yT_mono (q_in_f (by omega) hw s.2) fun r hr => ?_
  obtain ⟨h2, hw2, hr⟩ := ans_ok (by obtain ⟨j, hj, hj2⟩ := cntTo_nI K.2.1 102 8; rw [hj]; exact xcode_pos (nI_pos (by omega))) hr
  exact ⟨(h2, s.2), LW_up hw2 hh g1 g2 g3 c1 c2, hr⟩
theorem t_firedIn {S : List Int32} {d : Nat} (hd : 14 ≤ d) {n : Nat} {f sv : Int32} {K V : kK} {H : List kK} {T : List Int32} {s : xS} (hW : LW n f sv K V H T s) (m : Nat) (hm : m ≤ 100) : yT S d 83 [.ref 0, .int (nI m)] s (fun r => ∃ s2, LW (n + 1) f sv K V H T s2 ∧ r = (.inl (some (.int ((hoursK K m).1 12 - K.1 12))), s2)) := by
  obtain ⟨⟨e, ol, sz, R, hw, hh⟩, g1, g2, g3, c1, c2⟩ := id hW
  refine yT_mono (q_firedIn (by omega) hw s.2 m hm) fun r hr => ?_
  obtain ⟨h2, hw2, hr⟩ := hr
  exact ⟨(h2, s.2), LW_up hw2 hh g1 g2 g3 c1 c2, hr⟩
theorem t_wallCount {S : List Int32} {d : Nat} (hd : 14 ≤ d) {n : Nat} {f sv : Int32} {K V : kK} {H : List kK} {T : List Int32} {s : xS} (hW : LW n f sv K V H T s) (w k : Nat) (hu : 2 ≤ w ∧ w ≤ 18) (hk : 1 ≤ k ∧ k ≤ 8) : yT S d 90 [.ref 0, .int (nI w), .int (nI k)] s (fun r => ∃ s2, LW (n + 1) f sv K V H T s2 ∧ r = (.inl (some (.long (wcn w k))), s2)) := by
  obtain ⟨⟨e, ol, sz, R, hw, hh⟩, g1, g2, g3, c1, c2⟩ := id hW
  refine yT_mono (q_wallCount hd hw s.2 w k hu hk) fun r hr => ?_
  obtain ⟨h2, hw2, hr⟩ := hr
  exact ⟨(h2, s.2), LW_up hw2 hh g1 g2 g3 c1 c2, hr⟩
theorem t_wallMemory {S : List Int32} {d : Nat} (hd : 14 ≤ d) {n : Nat} {f sv : Int32} {K V : kK} {H : List kK} {T : List Int32} {s : xS} (hW : LW n f sv K V H T s) (w k : Nat) (hu : 2 ≤ w ∧ w ≤ 18) (hk : 1 ≤ k ∧ k ≤ 8) : yT S d 91 [.ref 0, .int (nI w), .int (nI k)] s (fun r => ∃ s2, LW (n + 1) f sv K V H T s2 ∧ r = (.inl (some (.long (wcn w k))), s2)) := by
  obtain ⟨⟨e, ol, sz, R, hw, hh⟩, g1, g2, g3, c1, c2⟩ := id hW
  refine yT_mono (q_wallMemory hd hw s.2 w k hu hk) fun r hr => ?_
  obtain ⟨h2, hw2, hr⟩ := hr
  exact ⟨(h2, s.2), LW_up hw2 hh g1 g2 g3 c1 c2, hr⟩
theorem t_consistent {S : List Int32} {d : Nat} (hd : 14 ≤ d) {n : Nat} {f sv : Int32} {K V : kK} {H : List kK} {T : List Int32} {s : xS} (hW : LW n f sv K V H T s) : yT S d 99 [.ref 0] s (fun r => ∃ s2, LW (n + 1) f sv K V H T s2 ∧ r = (.inl (some (.int 1)), s2)) := by
  obtain ⟨⟨e, ol, sz, R, hw, hh⟩, g1, g2, g3, c1, c2⟩ := id hW
  refine yT_mono (q_consistent hd hw s.2 g1.2.2.2.2.2.2.1 g1.2.2.2.2.2.1 g1.1.2) fun r hr => ?_
  obtain ⟨h2, hw2, hr⟩ := hr
  exact ⟨(h2, s.2), LW_up hw2 hh g1 g2 g3 c1 c2, hr⟩
theorem t_pieces0 {S : List Int32} {d : Nat} (hd : 14 ≤ d) {n : Nat} {f sv : Int32} {K V : kK} {H : List kK} {T : List Int32} {s : xS} (hW : LW n f sv K V H T s) (u : Nat) (hu : 1 ≤ u ∧ u ≤ 200) {w c oo : Nat} (hb : bst K u = some (w, c, oo)) : yT S d 88 [.ref 0, .int 119, .int (nI u)] s (fun r => ∃ s2, LW (n + 1) f sv K V H T s2 ∧ r = (.inl (some (.int (nI w))), s2)) := by
  obtain ⟨⟨e, ol, sz, R, hw, hh⟩, g1, g2, g3, c1, c2⟩ := id hW
  obtain ⟨-, -, h1, h2, h3, -⟩ := kp_eq g1.1.2
  obtain ⟨b1, b2, b3, -⟩ := bst_facts g1.1.2 hb
  have e9 : bpc K u 0 = nI w := by rw [bpc_some hb]; rfl
  refine yT_mono (q_pieces0 (by omega) hw s.2 u hu) fun r hr => ?_
  rw [e9] at hr
  obtain ⟨h2, hw2, hr⟩ := ans_ok (xcode_pos (nI_pos (by omega))) hr
  exact ⟨(h2, s.2), LW_up hw2 hh g1 g2 g3 c1 c2, hr⟩
theorem t_pieces1 {S : List Int32} {d : Nat} (hd : 14 ≤ d) {n : Nat} {f sv : Int32} {K V : kK} {H : List kK} {T : List Int32} {s : xS} (hW : LW n f sv K V H T s) (u : Nat) (hu : 1 ≤ u ∧ u ≤ 200) {w c oo : Nat} (hb : bst K u = some (w, c, oo)) : yT S d 88 [.ref 0, .int 99, .int (nI u)] s (fun r => ∃ s2, LW (n + 1) f sv K V H T s2 ∧ r = (.inl (some (.int (nI c))), s2)) := by
  obtain ⟨⟨e, ol, sz, R, hw, hh⟩, g1, g2, g3, c1, c2⟩ := id hW
  obtain ⟨-, -, h1, h2, h3, -⟩ := kp_eq g1.1.2
  obtain ⟨b1, b2, b3, -⟩ := bst_facts g1.1.2 hb
  have e9 : bpc K u 1 = nI c := by rw [bpc_some hb]; rfl
  refine yT_mono (q_pieces1 (by omega) hw s.2 u hu) fun r hr => ?_
  rw [e9] at hr
  obtain ⟨h2, hw2, hr⟩ := ans_ok (xcode_pos (nI_pos (by omega))) hr
  exact ⟨(h2, s.2), LW_up hw2 hh g1 g2 g3 c1 c2, hr⟩
theorem t_pieces2 {S : List Int32} {d : Nat} (hd : 14 ≤ d) {n : Nat} {f sv : Int32} {K V : kK} {H : List kK} {T : List Int32} {s : xS} (hW : LW n f sv K V H T s) (u : Nat) (hu : 1 ≤ u ∧ u ≤ 200) {w c oo : Nat} (hb : bst K u = some (w, c, oo)) : yT S d 88 [.ref 0, .int 111, .int (nI u)] s (fun r => ∃ s2, LW (n + 1) f sv K V H T s2 ∧ r = (.inl (some (.int (nI oo))), s2)) := by
  obtain ⟨⟨e, ol, sz, R, hw, hh⟩, g1, g2, g3, c1, c2⟩ := id hW
  obtain ⟨-, -, h1, h2, h3, -⟩ := kp_eq g1.1.2
  obtain ⟨b1, b2, b3, -⟩ := bst_facts g1.1.2 hb
  have e9 : bpc K u 2 = nI oo := by rw [bpc_some hb]; rfl
  refine yT_mono (q_pieces2 (by omega) hw s.2 u hu) fun r hr => ?_
  rw [e9] at hr
  obtain ⟨h2, hw2, hr⟩ := ans_ok (xcode_pos (nI_pos (by omega))) hr
  exact ⟨(h2, s.2), LW_up hw2 hh g1 g2 g3 c1 c2, hr⟩
/-- the characters that the ring takes -/
def sgn (K : kK) : Nat := rgl_ (fun j => (gd K.2.1 j).toNatClampNeg) (fun j => (gd K.2.2.1 j).toNatClampNeg) (fun j => (gd K.2.2.2.1 j).toNatClampNeg) (fun j => decide (nI j = K.1 1)) 8
theorem GK_ring {n : Nat} {K : kK} (hK : GK n K) : ∀ j, j < 8 → gd K.2.1 j = nI (gd K.2.1 j).toNatClampNeg ∧ (gd K.2.1 j).toNatClampNeg < 128 ∧ gd K.2.2.1 j = nI (gd K.2.2.1 j).toNatClampNeg ∧ (gd K.2.2.1 j).toNatClampNeg ≤ 60 ∧ gd K.2.2.2.1 j = nI (gd K.2.2.2.1 j).toNatClampNeg ∧ (gd K.2.2.2.1 j).toNatClampNeg ≤ 1100 := fun j hj => by
  obtain ⟨b, h1, h2, h3⟩ := hK.2.1 j hj
  obtain ⟨t, k1, k2, k3⟩ := hK.2.2.1 j hj
  rw [h1, k1, nI_back (by omega), nI_back (by omega)]
  have hc : gd K.2.1 j = nI (gd K.2.1 j).toNatClampNeg ∧ (gd K.2.1 j).toNatClampNeg < 128 := by
    rcases h3 with ⟨h3, -⟩ | ⟨h3 | h3, -⟩ <;> rw [h3] <;> exact ⟨rfl, by decide⟩
  exact ⟨hc.1, hc.2, rfl, h2, rfl, k3⟩
theorem t_ring {S : List Int32} {d : Nat} (hd : 14 ≤ d) {n : Nat} {f sv : Int32} {K V : kK} {H : List kK} {T : List Int32} {s : xS} (hW : LW n f sv K V H T s) : yT S d 103 [.ref 0] s (fun r => ∃ s2, LW (n + 50) f sv K V H T s2 ∧ r = (.inl (some (.int (nI (sgn K)))), s2)) := by
  obtain ⟨⟨e, ol, sz, R, hw, hh⟩, g1, g2, g3, c1, c2⟩ := id hW
  refine yT_mono (q_ring (by omega) hw s.2 g1.1.1 _ _ _ (GK_ring g1)) fun r hr => ?_
  obtain ⟨z, ⟨hw2, k1, k2⟩, hr⟩ := hr
  refine ⟨z, LW_mk hw2 hh (GK_mono (by omega) g1) (GK_mono (by omega) g2) (fun X hX => GK_mono (by omega) (g3 X hX)) ?_ ?_, hr⟩
  · rw [Nat.mul_add]; omega
  · rw [Nat.mul_add]; omega
theorem o_undo0 {S : List Int32} {d : Nat} (hd : 12 ≤ d) {n : Nat} {f sv : Int32} {K V : kK} {H : List kK} {T : List Int32} {s : xS} (hW : LW n f sv K V H T s) (hH : H = []) : yT S d 141 [.ref 0] s (fun r => ∃ s2, LW (n + 1) f sv K V H T s2 ∧ r = (.inl (some (.int (-100000000))), s2)) := by
  obtain ⟨d, rfl⟩ : ∃ e, d = e + 1 := ⟨d - 1, by omega⟩
  subst hH
  obtain ⟨⟨e, ol, sz, R, hw, hh⟩, g1, g2, g3, c1, c2⟩ := id hW
  have hT : yT S d 104 [.ref 0] s (pubP ["java/lang/IllegalStateException"] 0 (fun _ => False) (fun s2 => LW (n + 1) f sv K V ([]) T s2)) := yT_mono (w_undo0 (by omega) hw s.2 hh.1.symm) fun r hr => Or.inr ⟨_, by decide, xth s, LW_mk (s := xth s) hw hh (GK_mono (Nat.le_succ n) g1) (GK_mono (Nat.le_succ n) g2) (GKs g3) (ct_1 c1 (by decide)) (ct_1 c2 (by decide)), hr⟩
  refine yT_mono (c_undo (LW_rcv hW) hT) fun r hr => ?_
  rcases hr with ⟨s2, h, -⟩ | ⟨s2, h, hr⟩
  · exact h.elim
  · exact ⟨s2, h, hr⟩
theorem o_undo {S : List Int32} {d : Nat} (hd : 12 ≤ d) {n : Nat} {f sv : Int32} {K V : kK} {H : List kK} {T : List Int32} {s : xS} (hW : LW n f sv K V H T s) (X : kK) (H2 : List kK) (hH : H = X :: H2) : yT S d 141 [.ref 0] s (fun r => ∃ s2, LW (n + 1) f sv X V H2 T s2 ∧ r = (.inl (some (.int (nI H2.length))), s2)) := by
  obtain ⟨d, rfl⟩ : ∃ e, d = e + 1 := ⟨d - 1, by omega⟩
  subst hH
  obtain ⟨⟨e, ol, sz, R, hw, hh⟩, g1, g2, g3, c1, c2⟩ := id hW
  obtain ⟨h1, h2⟩ := hh
  rw [List.length_cons] at h1
  have hX := h2 0 (by omega)
  have eX : X = R ((ol + H2.length) % 8) := by have := Option.some.inj hX; rw [this, show sz - 1 - 0 = H2.length by omega]
  have hh2 : hsR ol H2.length R H2 := ⟨rfl, fun i hi => by have := h2 (i + 1) (by omega); rw [List.getElem?_cons_succ] at this; rw [this, show sz - 1 - (i + 1) = H2.length - 1 - i by omega]⟩
  have hT : yT S d 104 [.ref 0] s (pubP ["java/lang/IllegalStateException"] (nI H2.length) (fun s2 => LW (n + 1) f sv X V H2 T s2) (fun _ => False)) := yT_mono (w_undo (by omega) hw s.2 H2.length (by omega)) fun r hr => by
    obtain ⟨h2, hw2, hr⟩ := hr
    rw [← eX] at hw2
    exact Or.inl ⟨(h2, s.2), LW_mk (s := (h2, s.2)) hw2 hh2 (GK_mono (Nat.le_succ n) (g3 X List.mem_cons_self)) (GK_mono (Nat.le_succ n) g2) (fun Y hY => GK_mono (Nat.le_succ n) (g3 Y (List.mem_cons_of_mem _ hY))) (ct_1 (k := 0) c1 (by decide)) (ct_1 (k := 0) c2 (by decide)), hr⟩
  refine yT_mono (c_undo (LW_rcv hW) hT) fun r hr => ?_
  rcases hr with ⟨s2, h, hr⟩ | ⟨s2, h, -⟩
  · exact ⟨s2, h, hr⟩
  · exact h.elim
theorem t_save {S : List Int32} {d : Nat} (hd : 8 ≤ d) {n : Nat} {f sv : Int32} {K V : kK} {H : List kK} {T : List Int32} {s : xS} (hW : LW n f sv K V H T s) : yT S d 105 [.ref 0] s (fun r => ∃ s2, LW (n + 1) f 1 K K H T s2 ∧ r = (.inl none, s2)) := by
  obtain ⟨⟨e, ol, sz, R, hw, hh⟩, g1, g2, g3, c1, c2⟩ := id hW
  refine yT_mono (w_save (by omega) hw s.2) fun r hr => ?_
  obtain ⟨h2, hw2, hr⟩ := hr
  exact ⟨(h2, s.2), LW_up hw2 hh g1 g1 g3 c1 c2, hr⟩
theorem o_saved {S : List Int32} {d : Nat} (hd : 12 ≤ d) {n : Nat} {f sv : Int32} {K V : kK} {H : List kK} {T : List Int32} {s : xS} (hW : LW n f sv K V H T s) : yT S d 144 [.ref 0] s (fun r => ∃ s2, LW (n + 1) f 1 K K H T s2 ∧ r = (.inl (some (.int 0)), s2)) := by
  obtain ⟨d, rfl⟩ : ∃ e, d = e + 1 := ⟨d - 1, by omega⟩
  refine yT_e (Nat.le_of_ble_eq_true rfl) ?_
  show yW S d 144 (0, [.ref 0], [], s) _
  refine y_go rfl rfl ?_
  refine y_V0e rfl (Nat.le_of_ble_eq_true rfl) (Nat.le_of_ble_eq_true rfl) rfl rfl (LW_rcv hW) (t_save (by omega) hW) (fun s2 h2 => ?_)
  refine y_go rfl rfl ?_
  exact y_ireturn rfl rfl rfl ⟨s2, h2, rfl⟩
theorem o_restored0 {S : List Int32} {d : Nat} (hd : 12 ≤ d) {n : Nat} {f sv : Int32} {K V : kK} {H : List kK} {T : List Int32} {s : xS} (hW : LW n f sv K V H T s) (h0 : sv = 0) : yT S d 145 [.ref 0] s (fun r => ∃ s2, LW (n + 1) f sv K V H T s2 ∧ r = (.inl (some (.int (-100000000))), s2)) := by
  have hrc := LW_rcv hW
  obtain ⟨d, rfl⟩ : ∃ e, d = e + 1 := ⟨d - 1, by omega⟩
  obtain ⟨⟨e, ol, sz, R, hw, hh⟩, g1, g2, g3, c1, c2⟩ := id hW
  refine yT_e (Nat.le_of_ble_eq_true rfl) ?_
  show yW S d 145 (0, [.ref 0, xno], [], s) _
  refine y_go rfl rfl ?_
  refine y_callV rfl (Nat.le_of_ble_eq_true rfl) (Nat.le_of_ble_eq_true rfl) rfl rfl hrc (w_restore0 (by omega) hw s.2 h0) fun q hq => ?_
  subst hq
  refine Or.inr (Or.inr ⟨_, rfl, Or.inl ⟨8, 1, rfl, (Nat.le_of_ble_eq_true rfl), ?_⟩⟩)
  show yW S d 145 (8, [.ref 0, xno], [], xth s) _
  refine y_go rfl rfl ?_
  exact y_ireturn rfl rfl rfl ⟨xth s, LW_mk (s := xth s) hw hh (GK_mono (Nat.le_succ n) g1) (GK_mono (Nat.le_succ n) g2) (GKs g3) (ct_1 c1 (by decide)) (ct_1 c2 (by decide)), rfl⟩
theorem o_restored {S : List Int32} {d : Nat} (hd : 12 ≤ d) {n : Nat} {f sv : Int32} {K V : kK} {H : List kK} {T : List Int32} {s : xS} (hW : LW n f sv K V H T s) (h0 : ¬ sv = 0) : yT S d 145 [.ref 0] s (fun r => ∃ s2, LW (n + 1) f sv V V ([]) T s2 ∧ r = (.inl (some (.int 0)), s2)) := by
  have hrc := LW_rcv hW
  obtain ⟨d, rfl⟩ : ∃ e, d = e + 1 := ⟨d - 1, by omega⟩
  obtain ⟨⟨e, ol, sz, R, hw, hh⟩, g1, g2, g3, c1, c2⟩ := id hW
  refine yT_e (Nat.le_of_ble_eq_true rfl) ?_
  show yW S d 145 (0, [.ref 0, xno], [], s) _
  refine y_go rfl rfl ?_
  refine y_V0e rfl (Nat.le_of_ble_eq_true rfl) (Nat.le_of_ble_eq_true rfl) rfl rfl hrc (w_restore (by omega) hw s.2 h0) (fun h2 hw2 => ?_)
  refine y_go rfl rfl ?_
  refine y_go rfl rfl ?_
  exact y_ireturn rfl rfl rfl ⟨(h2, s.2), LW_up hw2 (⟨rfl, fun i hi => absurd hi (Nat.not_lt_zero _)⟩ : hsR ol 0 R []) g2 g2 (fun X hX => absurd hX List.not_mem_nil) c1 c2, rfl⟩
theorem cm_1b {n : Nat} {K : kK} (hK : GK n K) {a b : Nat} (ha : a ≤ 1000) : cmP n 1 K (cmdX 1 a b K) := by
  obtain ⟨f, ss, bs, ts, ps, rs⟩ := K
  obtain ⟨⟨⟨l1, l2, l3, l4, l5, hf⟩, hp⟩, hs, ht, hn⟩ := hK
  dsimp only at l1 l2 l3 l4 l5 hf hs ht hn
  show cmP n 1 _ (emptyX f ss bs ts ps rs (nI a))
  unfold emptyX
  split
  · exact Or.inl ⟨rfI rfl, rfl⟩
  rename_i c1
  have ha8 := in7 ha c1
  rw [nI_back (by omega)]
  split
  · rename_i c3
    split
    · exact Or.inl ⟨rfI rfl, rfl⟩
    · obtain ⟨b0, g1, g2, g3⟩ := hs a ha8
      obtain ⟨h1, h2, h3, h4, s, h5, h6⟩ := hn
      refine Or.inr ⟨⟨s + b0, ?_, by omega⟩, ⟨⟨by rw [List.length_set]; exact l1, by rw [List.length_set]; exact l2, l3, l4, l5, hf⟩, hp⟩, fun i hi => ?_, ht, ?_⟩
      · show f 9 + gd bs a = nI (s + b0)
        rw [h5, g1, nI_add]
      · show ∃ b2 : Nat, gd (bs.set a 0) i = nI b2 ∧ b2 ≤ 60 ∧ ((gd (ss.set a 101) i = 101 ∧ b2 = 0) ∨ ((gd (ss.set a 101) i = 103 ∨ gd (ss.set a 101) i = 102) ∧ 0 < b2))
        rw [gd_set (by omega), gd_set (by omega)]
        by_cases e : a = i
        · rw [if_pos e, if_pos e]
          exact ⟨0, rfl, by omega, Or.inl ⟨rfl, rfl⟩⟩
        · rw [if_neg e, if_neg e]; exact hs i hi
      · refine ⟨h1, h2, h3, ?_, s + b0, ?_, by omega⟩
        · show sumTo (f 9 + gd bs a) (bs.set a 0) 8 = f 11 - f 13
          rw [sumTo_set (by omega), if_pos ha8, sumTo_x, h4]
          grind
        · show f 9 + gd bs a = nI (s + b0)
          rw [h5, g1, nI_add]
  · exact Or.inl ⟨rfI rfl, rfl⟩
theorem cm_GKb {n c : Nat} (hc : c < 10) {K : kK} (hK : GK n K) {a b : Nat} (ha : a ≤ 1000) (hb : b ≤ 1000) : GK (n + 1) (cmdX c a b K).2 := by
  have h : cmP n c K (cmdX c a b K) := by
    match c, hc with
    | 0, _ => exact cm_0 hK ha hb
    | 1, _ => exact cm_1b hK ha
    | 2, _ => exact cm_2 hK ha
    | 3, _ => exact cm_3 hK
    | 4, _ => exact cm_4 hK ha
    | 5, _ => exact cm_5 hK hb
    | 6, _ => exact cm_6 hK hb
    | 7, _ => exact cm_7 hK
    | 8, _ => exact cm_8 hK
    | 9, _ => exact cm_9 hK
  rcases h with ⟨-, h⟩ | ⟨-, h⟩
  · rw [h]; exact GK_mono (by omega) hK
  · exact h
theorem o_runBad {S : List Int32} {d : Nat} (hd : 14 ≤ d) {n : Nat} {f sv : Int32} {K V : kK} {H : List kK} {T : List Int32} {s : xS} (hW : LW n f sv K V H T s) (N : List Nat) (hTN : T = N.map nI) (hB : ∀ i, i < N.length → gn N i < 128) (s5 : pV) (l5 : List (Nat × (Nat × Nat))) (hR5 : rtx N 16 (0, 0, 5000, 6000) [] = (false, s5, l5)) (h5 : okS s5 = true) (hl5 : l5.length ≤ 16) : yT S d 139 [.ref 0] s (fun r => ∃ s2, LW (n + 1) f sv K V H ([]) s2 ∧ r = (.inl (some (.int (-100000000))), s2)) := by
  obtain ⟨d, rfl⟩ : ∃ e, d = e + 1 := ⟨d - 1, by omega⟩
  obtain ⟨⟨e, ol, sz, R, hw, hh⟩, g1, g2, g3, c1, c2⟩ := id hW
  have hT : yT S d 101 [.ref 0] s (pubP ["java/lang/IllegalArgumentException", "java/lang/UnsupportedOperationException"] 0 (fun _ => False) (fun s2 => LW (n + 1) f sv K V H ([]) s2)) := yT_mono (q_runBad (by omega) hw s.2 N hTN hB s5 l5 hR5 h5 hl5) fun r hr => by
    obtain ⟨h2, hw2, hr⟩ := hr
    exact Or.inr ⟨_, by decide, xth (h2, s.2), LW_mk (s := xth (h2, s.2)) hw2 hh (GK_mono (Nat.le_succ n) g1) (GK_mono (Nat.le_succ n) g2) (GKs g3) (ct_1 c1 (by decide)) (ct_1 c2 (by decide)), hr⟩
  refine yT_mono (c_run (LW_rcv hW) hT) fun r hr => ?_
  rcases hr with ⟨s2, h, -⟩ | ⟨s2, h, hr⟩
  · exact h.elim
  · exact ⟨s2, h, hr⟩
theorem o_run {S : List Int32} {d : Nat} (hd : 14 ≤ d) {n : Nat} {f sv : Int32} {K V : kK} {H : List kK} {T : List Int32} {s : xS} (hW : LW n f sv K V H T s) (hn : n ≤ 900000) (N : List Nat) (hTN : T = N.map nI) (hB : ∀ i, i < N.length → gn N i < 128) (s5 : pV) (l5 : List (Nat × (Nat × Nat))) (hR5 : rtx N 16 (0, 0, 5000, 6000) [] = (true, s5, l5)) (h5 : okS s5 = true) (hl5 : l5.length ≤ 2) (hq5 : l5.all okC = true) : yT S d 139 [.ref 0] s (fun r => (∃ s2, (∃ K2, LW (n + 3) f sv K2 V ((K :: H).take 8) ([]) s2) ∧ r = (.inl (some (.int (nI l5.length))), s2)) ∨ ∃ s2, (∃ j : Nat, j ≤ 16 ∧ LW (n + 3) (nI j) sv K V H ([]) s2) ∧ r = (.inl (some (.int (-100000000))), s2)) := by
  obtain ⟨d, rfl⟩ : ∃ e, d = e + 1 := ⟨d - 1, by omega⟩
  obtain ⟨⟨e, ol, sz, R, hw, hh⟩, g1, g2, g3, c1, c2⟩ := id hW
  obtain ⟨q1, q2⟩ := W2_olsz hw
  have hT : yT S d 101 [.ref 0] s (pubP ["java/lang/IllegalArgumentException", "java/lang/UnsupportedOperationException"] (nI l5.length) (fun s2 => ∃ K2, LW (n + 3) f sv K2 V ((K :: H).take 8) ([]) s2) (fun s2 => ∃ j : Nat, j ≤ 16 ∧ LW (n + 3) (nI j) sv K V H ([]) s2)) := by
    refine yT_mono (q_run (by omega) hw s.2 N hTN hB s5 l5 hR5 h5 (by omega) hq5 (fun i X => GK (n + i) X) g1 (fun i X h => h.1) (fun i j X hij h => GK_mono (by omega) h) (fun i c a b hc ha hb X h => cm_GKb hc h ha hb)) fun r hr => ?_
    rcases hr with ⟨h2, K2, hJ, hw2, hr⟩ | ⟨h2, j, hj, hw2, hr⟩
    · exact Or.inl ⟨(h2, s.2), ⟨K2, LW_mono (n := n + 2) (by omega) (LW_mk (s := (h2, s.2)) hw2 (hsR_push q1 q2 hh K) (GK_mono (by omega) hJ) (GK_mono (by omega) g2) (mem_push (GK_mono (by omega) g1) (fun X hX => GK_mono (by omega) (g3 X hX))) (Nat.le_trans c1 (Nat.mul_le_mul_left 10 (by omega))) (Nat.le_trans c2 (Nat.mul_le_mul_left 150 (by omega))))⟩, hr⟩
    · exact Or.inr ⟨_, by decide, xth (h2, s.2), ⟨j, hj, LW_mono (n := n + 1) (by omega) (LW_mk (s := xth (h2, s.2)) hw2 hh (GK_mono (by omega) g1) (GK_mono (by omega) g2) (GKs g3) (ct_1 c1 (by decide)) (ct_1 c2 (by decide)))⟩, hr⟩
  exact c_run (LW_rcv hW) hT
theorem t_append {S : List Int32} {d : Nat} (hd : 8 ≤ d) {n : Nat} {f sv : Int32} {K V : kK} {H : List kK} {T : List Int32} {s : xS} (hW : LW n f sv K V H T s) (hT : T.length < 60) (c : Nat) (hc : c < 128) : yT S d 100 [.ref 0, .int (nI c)] s (fun r => ∃ s2, LW (n + 1) f sv K V H (T ++ [nI c]) s2 ∧ r = (.inl (some (.int (nI (T.length + 1)))), s2)) := by
  obtain ⟨⟨e, ol, sz, R, hw, hh⟩, g1, g2, g3, c1, c2⟩ := id hW
  refine yT_mono (q_append hd hw s.2 hT c hc) fun r hr => ?_
  obtain ⟨h2, hw2, hr⟩ := hr
  exact ⟨(h2, s.2), LW_up hw2 hh g1 g2 g3 c1 c2, hr⟩
theorem o_put {S : List Int32} {d : Nat} (hd : 9 ≤ d) {n : Nat} {f sv : Int32} {K V : kK} {H : List kK} {T : List Int32} {s : xS} (hW : LW n f sv K V H T s) (hT : T.length < 60) (c : Nat) (hc : c < 128) : yT S d 142 [.ref 0, .int (nI c)] s (fun r => ∃ s2, LW (n + 1) f sv K V H (T ++ [nI c]) s2 ∧ r = (.inl (some (.int 1)), s2)) := by
  obtain ⟨d, rfl⟩ : ∃ e, d = e + 1 := ⟨d - 1, by omega⟩
  refine yT_e (Nat.le_of_ble_eq_true rfl) ?_
  show yW S d 142 (0, [.ref 0, .int (nI c), xno], [], s) _
  refine y_go rfl rfl ?_
  refine y_go rfl rfl ?_
  refine y_V1e rfl (Nat.le_of_ble_eq_true rfl) (Nat.le_of_ble_eq_true rfl) rfl rfl (LW_rcv hW) (t_append (by omega) hW hT c hc) (fun s2 h2 => ?_)
  refine y_go rfl rfl ?_
  refine y_go rfl rfl ?_
  refine y_go rfl rfl ?_
  exact y_ireturn rfl rfl rfl ⟨s2, h2, rfl⟩
theorem take_n {N : List Nat} {i : Nat} (h : i < N.length) : (N.take i).map nI ++ [nI (gn N i)] = (N.take (i + 1)).map nI := by
  rw [List.take_add_one, List.map_append, List.getElem?_eq_getElem h]
  unfold gn
  rw [List.getD_eq_getElem?_getD, List.getElem?_eq_getElem h]
  rfl
theorem LW_len {n : Nat} {f sv : Int32} {K V : kK} {H : List kK} {T : List Int32} {s : xS} (hW : LW n f sv K V H T s) : s.1.length ≤ 1000000 := by
  obtain ⟨⟨e, ol, sz, R, hw, -⟩, -⟩ := hW
  obtain ⟨B, F, P, vp, ml, ln, D, ⟨M, G, hM, hG, hW⟩, -⟩ := hw
  exact hW.1
theorem l_typed {S : List Int32} {d : Nat} (hd : 9 ≤ d) {f sv : Int32} {K V : kK} {H : List kK} {n : Nat} {q : Nat} {N : List Nat} (hN : N.length ≤ 60) (hB : ∀ i, i < N.length → gn N i < 128) (hq : xstr q (N.map nI)) : ∀ (i0 i : Nat), i + i0 = N.length → ∀ s : xS, LW (n + i) f sv K V H ((N.take i).map nI) s → yW S d 143 (2, [.ref 0, .ref q, .int (nI i)], [], s) (fun r => ∃ s2, LW (n + N.length) f sv K V H (N.map nI) s2 ∧ r = (.inl (some (.ref 0)), s2)) := by
  intro i0
  induction i0 with
  | zero =>
    intro i hi s hW
    obtain rfl : i = N.length := by omega
    have wl := LW_len hW
    have hrc : xrcv 1000 s (.ref q) = true := by
      have hq2 := hq.1
      have hq3 := hq.2.1
      refine xrcv_k (List.getElem?_eq_none (by omega)) hq2
    refine y_go rfl rfl ?_
    refine y_go rfl rfl ?_
    refine y_V1 rfl (Nat.le_of_ble_eq_true rfl) (Nat.le_of_ble_eq_true rfl) rfl rfl hrc (s_strlen (by omega) wl hq) ?_
    rw [List.length_map]
    refine y_ic_ge rfl (fun _ => ?_) (fun c => absurd c (nI_nlt (Nat.le_refl _) (by omega)))
    refine y_go rfl rfl ?_
    rw [List.take_length] at hW
    exact y_end rfl rfl ⟨s, hW, rfl⟩
  | succ i0 ih =>
    intro i hi s hW
    have hlt : i < N.length := by omega
    have wl := LW_len hW
    have hrc : xrcv 1000 s (.ref q) = true := by
      have hq2 := hq.1
      have hq3 := hq.2.1
      refine xrcv_k (List.getElem?_eq_none (by omega)) hq2
    refine y_go rfl rfl ?_
    refine y_go rfl rfl ?_
    refine y_V1 rfl (Nat.le_of_ble_eq_true rfl) (Nat.le_of_ble_eq_true rfl) rfl rfl hrc (s_strlen (by omega) wl hq) ?_
    rw [List.length_map]
    refine y_ic_ge rfl (fun c => absurd (nI_lt hlt (by omega)) c) (fun _ => ?_)
    refine y_go rfl rfl ?_
    refine y_go rfl rfl ?_
    refine y_go rfl rfl ?_
    refine y_V1 rfl (Nat.le_of_ble_eq_true rfl) (Nat.le_of_ble_eq_true rfl) rfl rfl hrc (s_charAt (by omega) wl hq i (by rw [List.length_map]; exact hlt)) ?_
    rw [gd_mapI hlt]
    refine y_S1e rfl rfl (Nat.le_of_ble_eq_true rfl) (Nat.le_of_ble_eq_true rfl) rfl rfl (o_put (by omega) hW (by rw [List.length_map, List.length_take]; omega) (gn N i) (hB i hlt)) (fun s2 h2 => ?_)
    rw [take_n hlt] at h2
    refine y_go rfl rfl ?_
    refine y_go (g' := (23, [.ref 0, .ref q, .int (nI (i + 1))], _, _)) rfl (by rw [← nI_1 i]; rfl) ?_
    refine y_go rfl rfl ?_
    exact ih (i + 1) (by omega) s2 h2
theorem o_typed {S : List Int32} {d : Nat} (hd : 10 ≤ d) {n : Nat} {f sv : Int32} {K V : kK} {H : List kK} {T : List Int32} {s : xS} (hW : LW n f sv K V H T s) (hT0 : T = []) {q : Nat} (N : List Nat) (hN : N.length ≤ 60) (hB : ∀ i, i < N.length → gn N i < 128) (hq : xstr q (N.map nI)) : yT S d 143 [.ref 0, .ref q] s (fun r => ∃ s2, LW (n + N.length) f sv K V H (N.map nI) s2 ∧ r = (.inl (some (.ref 0)), s2)) := by
  obtain ⟨d, rfl⟩ : ∃ e, d = e + 1 := ⟨d - 1, by omega⟩
  subst hT0
  refine yT_e (Nat.le_of_ble_eq_true rfl) ?_
  show yW S d 143 (0, [.ref 0, .ref q, xno], [], s) _
  refine y_go rfl rfl ?_
  refine y_go (g' := (2, [.ref 0, .ref q, .int (nI 0)], _, _)) rfl rfl ?_
  exact l_typed (by omega) hN hB hq N.length 0 (by omega) s hW
