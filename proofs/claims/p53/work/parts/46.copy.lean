/-! THE KILN: a copy of another. -/
/-- the same numbers in the same places -/
theorem up_all {f g : Nat → Int32} (p : Nat) (h : ∀ i, i = 0 ∨ i = 1 ∨ i = 2 ∨ i = 3 ∨ i = 9 ∨ i = 10 ∨ i = 11 ∨ i = 12 ∨ i = 13 ∨ i = 14 ∨ i = 15 ∨ i = 16 → f i = g i) : kO p f = kO p g := by
  unfold kO
  rw [h 0 (by simp), h 1 (by simp), h 2 (by simp), h 3 (by simp), h 9 (by simp), h 10 (by simp), h 11 (by simp), h 12 (by simp), h 13 (by simp), h 14 (by simp), h 15 (by simp), h 16 (by simp)]
theorem s_copyFromF {S : List Int32} {d : Nat} (hd : 1 ≤ d) {h : xH} {p : Nat} (hl : p + 6 ≤ h.length) (f : Nat → Int32) (ss bs ts ps rs : List Int32) (k0 : Nat × Nat) (h1 : ss.length = 8) (h2 : bs.length = 8) (h3 : ts.length = 8) (h4 : ps.length = 3) (h5 : rs.length = 3) {q : Nat} (hq : q + 6 ≤ p ∨ p + 6 ≤ q) (f2 : Nat → Int32) (ss2 bs2 ts2 ps2 rs2 : List Int32) (hs : has h q (kC q (f2, ss2, bs2, ts2, ps2, rs2))) (g1 : ss2.length = 8) (g2 : bs2.length = 8) (g3 : ts2.length = 8) (g4 : ps2.length = 3) (g5 : rs2.length = 3) : yT S d 15 [.ref p, .ref q] ((put h p (kC p (f, ss, bs, ts, ps, rs))), k0) (· = (.inl none, (put h p (kC p (f2, ss2, bs2, ts2, ps2, rs2)), k0))) := by
  obtain ⟨d, rfl⟩ : ∃ e, d = e + 1 := ⟨d - 1, by omega⟩
  refine yT_eq (Nat.le_of_ble_eq_true rfl) ?_
  show yW S d 15 (0, [.ref p, .ref q], [], ((put h p (kC p (f, ss, bs, ts, ps, rs))), k0)) _
  refine y_go rfl rfl ?_
  refine y_go rfl rfl ?_
  refine y_getf (w := .int (f2 0)) rfl rfl (xsrc hl hs hq (i := 0) rfl) rfl ?_
  refine y_putR (j := 0) (cs' := (kC p ((up f 0 (f2 0)), ss, bs, ts, ps, rs))) rfl hl rfl rfl (Nat.le_of_ble_eq_true rfl) (xf_int rfl) rfl ?_
  refine y_go rfl rfl ?_
  refine y_go rfl rfl ?_
  refine y_getf (w := .int (f2 1)) rfl rfl (xsrc hl hs hq (i := 0) rfl) rfl ?_
  refine y_putR (j := 0) (cs' := (kC p ((up (up f 0 (f2 0)) 1 (f2 1)), ss, bs, ts, ps, rs))) rfl hl rfl rfl (Nat.le_of_ble_eq_true rfl) (xf_int rfl) rfl ?_
  refine y_go rfl rfl ?_
  refine y_go rfl rfl ?_
  refine y_getf (w := .int (f2 2)) rfl rfl (xsrc hl hs hq (i := 0) rfl) rfl ?_
  refine y_putR (j := 0) (cs' := (kC p ((up (up (up f 0 (f2 0)) 1 (f2 1)) 2 (f2 2)), ss, bs, ts, ps, rs))) rfl hl rfl rfl (Nat.le_of_ble_eq_true rfl) (xf_int rfl) rfl ?_
  refine y_go rfl rfl ?_
  refine y_go rfl rfl ?_
  refine y_getf (w := .int (f2 3)) rfl rfl (xsrc hl hs hq (i := 0) rfl) rfl ?_
  refine y_putR (j := 0) (cs' := (kC p ((up (up (up (up f 0 (f2 0)) 1 (f2 1)) 2 (f2 2)) 3 (f2 3)), ss, bs, ts, ps, rs))) rfl hl rfl rfl (Nat.le_of_ble_eq_true rfl) (xf_int rfl) rfl ?_
  refine y_go rfl rfl ?_
  refine y_getf (w := .ref (q + 1)) rfl rfl (xsrc hl hs hq (i := 0) rfl) rfl ?_
  refine y_go rfl rfl ?_
  refine y_go rfl rfl ?_
  refine y_getR (w := .ref (p + 1)) (j := 0) rfl hl rfl rfl rfl rfl ?_
  refine y_go rfl rfl ?_
  refine y_go rfl rfl ?_
  refine y_copyR (t := 1) (n := 1) (k := 8) (cs' := (kC p ((up (up (up (up f 0 (f2 0)) 1 (f2 1)) 2 (f2 2)) 3 (f2 3)), ss2, bs, ts, ps, rs))) rfl (Nat.le_of_ble_eq_true rfl) hl rfl rfl (xsrc hl hs hq (i := 1) rfl) (by decide) g1 h1 rfl ?_
  refine y_go rfl rfl ?_
  refine y_getf (w := .ref (q + 2)) rfl rfl (xsrc hl hs hq (i := 0) rfl) rfl ?_
  refine y_go rfl rfl ?_
  refine y_go rfl rfl ?_
  refine y_getR (w := .ref (p + 2)) (j := 0) rfl hl rfl rfl rfl rfl ?_
  refine y_go rfl rfl ?_
  refine y_go rfl rfl ?_
  refine y_copyR (t := 0) (n := 2) (k := 8) (cs' := (kC p ((up (up (up (up f 0 (f2 0)) 1 (f2 1)) 2 (f2 2)) 3 (f2 3)), ss2, bs2, ts, ps, rs))) rfl (Nat.le_of_ble_eq_true rfl) hl rfl rfl (xsrc hl hs hq (i := 2) rfl) (by decide) g2 h2 rfl ?_
  refine y_go rfl rfl ?_
  refine y_getf (w := .ref (q + 3)) rfl rfl (xsrc hl hs hq (i := 0) rfl) rfl ?_
  refine y_go rfl rfl ?_
  refine y_go rfl rfl ?_
  refine y_getR (w := .ref (p + 3)) (j := 0) rfl hl rfl rfl rfl rfl ?_
  refine y_go rfl rfl ?_
  refine y_go rfl rfl ?_
  refine y_copyR (t := 0) (n := 3) (k := 8) (cs' := (kC p ((up (up (up (up f 0 (f2 0)) 1 (f2 1)) 2 (f2 2)) 3 (f2 3)), ss2, bs2, ts2, ps, rs))) rfl (Nat.le_of_ble_eq_true rfl) hl rfl rfl (xsrc hl hs hq (i := 3) rfl) (by decide) g3 h3 rfl ?_
  refine y_go rfl rfl ?_
  refine y_getf (w := .ref (q + 4)) rfl rfl (xsrc hl hs hq (i := 0) rfl) rfl ?_
  refine y_go rfl rfl ?_
  refine y_go rfl rfl ?_
  refine y_getR (w := .ref (p + 4)) (j := 0) rfl hl rfl rfl rfl rfl ?_
  refine y_go rfl rfl ?_
  refine y_go rfl rfl ?_
  refine y_copyR (t := 0) (n := 4) (k := 3) (cs' := (kC p ((up (up (up (up f 0 (f2 0)) 1 (f2 1)) 2 (f2 2)) 3 (f2 3)), ss2, bs2, ts2, ps2, rs))) rfl (Nat.le_of_ble_eq_true rfl) hl rfl rfl (xsrc hl hs hq (i := 4) rfl) (by decide) g4 h4 rfl ?_
  refine y_go rfl rfl ?_
  refine y_getf (w := .ref (q + 5)) rfl rfl (xsrc hl hs hq (i := 0) rfl) rfl ?_
  refine y_go rfl rfl ?_
  refine y_go rfl rfl ?_
  refine y_getR (w := .ref (p + 5)) (j := 0) rfl hl rfl rfl rfl rfl ?_
  refine y_go rfl rfl ?_
  refine y_go rfl rfl ?_
  refine y_copyR (t := 0) (n := 5) (k := 3) (cs' := (kC p ((up (up (up (up f 0 (f2 0)) 1 (f2 1)) 2 (f2 2)) 3 (f2 3)), ss2, bs2, ts2, ps2, rs2))) rfl (Nat.le_of_ble_eq_true rfl) hl rfl rfl (xsrc hl hs hq (i := 5) rfl) (by decide) g5 h5 rfl ?_
  refine y_go rfl rfl ?_
  refine y_go rfl rfl ?_
  refine y_getf (w := .int (f2 9)) rfl rfl (xsrc hl hs hq (i := 0) rfl) rfl ?_
  refine y_putR (j := 0) (cs' := (kC p ((up (up (up (up (up f 0 (f2 0)) 1 (f2 1)) 2 (f2 2)) 3 (f2 3)) 9 (f2 9)), ss2, bs2, ts2, ps2, rs2))) rfl hl rfl rfl (Nat.le_of_ble_eq_true rfl) (xf_int rfl) rfl ?_
  refine y_go rfl rfl ?_
  refine y_go rfl rfl ?_
  refine y_getf (w := .int (f2 10)) rfl rfl (xsrc hl hs hq (i := 0) rfl) rfl ?_
  refine y_putR (j := 0) (cs' := (kC p ((up (up (up (up (up (up f 0 (f2 0)) 1 (f2 1)) 2 (f2 2)) 3 (f2 3)) 9 (f2 9)) 10 (f2 10)), ss2, bs2, ts2, ps2, rs2))) rfl hl rfl rfl (Nat.le_of_ble_eq_true rfl) (xf_int rfl) rfl ?_
  refine y_go rfl rfl ?_
  refine y_go rfl rfl ?_
  refine y_getf (w := .int (f2 11)) rfl rfl (xsrc hl hs hq (i := 0) rfl) rfl ?_
  refine y_putR (j := 0) (cs' := (kC p ((up (up (up (up (up (up (up f 0 (f2 0)) 1 (f2 1)) 2 (f2 2)) 3 (f2 3)) 9 (f2 9)) 10 (f2 10)) 11 (f2 11)), ss2, bs2, ts2, ps2, rs2))) rfl hl rfl rfl (Nat.le_of_ble_eq_true rfl) (xf_int rfl) rfl ?_
  refine y_go rfl rfl ?_
  refine y_go rfl rfl ?_
  refine y_getf (w := .int (f2 12)) rfl rfl (xsrc hl hs hq (i := 0) rfl) rfl ?_
  refine y_putR (j := 0) (cs' := (kC p ((up (up (up (up (up (up (up (up f 0 (f2 0)) 1 (f2 1)) 2 (f2 2)) 3 (f2 3)) 9 (f2 9)) 10 (f2 10)) 11 (f2 11)) 12 (f2 12)), ss2, bs2, ts2, ps2, rs2))) rfl hl rfl rfl (Nat.le_of_ble_eq_true rfl) (xf_int rfl) rfl ?_
  refine y_go rfl rfl ?_
  refine y_go rfl rfl ?_
  refine y_getf (w := .int (f2 13)) rfl rfl (xsrc hl hs hq (i := 0) rfl) rfl ?_
  refine y_putR (j := 0) (cs' := (kC p ((up (up (up (up (up (up (up (up (up f 0 (f2 0)) 1 (f2 1)) 2 (f2 2)) 3 (f2 3)) 9 (f2 9)) 10 (f2 10)) 11 (f2 11)) 12 (f2 12)) 13 (f2 13)), ss2, bs2, ts2, ps2, rs2))) rfl hl rfl rfl (Nat.le_of_ble_eq_true rfl) (xf_int rfl) rfl ?_
  refine y_go rfl rfl ?_
  refine y_go rfl rfl ?_
  refine y_getf (w := .int (f2 14)) rfl rfl (xsrc hl hs hq (i := 0) rfl) rfl ?_
  refine y_putR (j := 0) (cs' := (kC p ((up (up (up (up (up (up (up (up (up (up f 0 (f2 0)) 1 (f2 1)) 2 (f2 2)) 3 (f2 3)) 9 (f2 9)) 10 (f2 10)) 11 (f2 11)) 12 (f2 12)) 13 (f2 13)) 14 (f2 14)), ss2, bs2, ts2, ps2, rs2))) rfl hl rfl rfl (Nat.le_of_ble_eq_true rfl) (xf_int rfl) rfl ?_
  refine y_go rfl rfl ?_
  refine y_go rfl rfl ?_
  refine y_getf (w := .int (f2 15)) rfl rfl (xsrc hl hs hq (i := 0) rfl) rfl ?_
  refine y_putR (j := 0) (cs' := (kC p ((up (up (up (up (up (up (up (up (up (up (up f 0 (f2 0)) 1 (f2 1)) 2 (f2 2)) 3 (f2 3)) 9 (f2 9)) 10 (f2 10)) 11 (f2 11)) 12 (f2 12)) 13 (f2 13)) 14 (f2 14)) 15 (f2 15)), ss2, bs2, ts2, ps2, rs2))) rfl hl rfl rfl (Nat.le_of_ble_eq_true rfl) (xf_int rfl) rfl ?_
  refine y_go rfl rfl ?_
  refine y_go rfl rfl ?_
  refine y_getf (w := .int (f2 16)) rfl rfl (xsrc hl hs hq (i := 0) rfl) rfl ?_
  refine y_putR (j := 0) (cs' := (kC p ((up (up (up (up (up (up (up (up (up (up (up (up f 0 (f2 0)) 1 (f2 1)) 2 (f2 2)) 3 (f2 3)) 9 (f2 9)) 10 (f2 10)) 11 (f2 11)) 12 (f2 12)) 13 (f2 13)) 14 (f2 14)) 15 (f2 15)) 16 (f2 16)), ss2, bs2, ts2, ps2, rs2))) rfl hl rfl rfl (Nat.le_of_ble_eq_true rfl) (xf_int rfl) rfl ?_
  exact y_end rfl rfl rfl
theorem s_copyFrom {S : List Int32} {d : Nat} (hd : 1 ≤ d) {h : xH} {p : Nat} (hl : p + 6 ≤ h.length) {K K2 : kK} (hK : kv K) {q : Nat} (hq : q + 6 ≤ p ∨ p + 6 ≤ q) (hK2 : kv K2) (hs : has h q (kC q K2)) (k0 : Nat × Nat) : yT S d 15 [.ref p, .ref q] (put h p (kC p K), k0) (· = (.inl none, (put h p (kC p K2), k0))) := by
  obtain ⟨f, ss, bs, ts, ps, rs⟩ := K
  obtain ⟨f2, ss2, bs2, ts2, ps2, rs2⟩ := K2
  obtain ⟨h1, h2, h3, h4, h5, -⟩ := hK
  obtain ⟨g1, g2, g3, g4, g5, -⟩ := hK2
  exact s_copyFromF hd hl f ss bs ts ps rs k0 h1 h2 h3 h4 h5 hq f2 ss2 bs2 ts2 ps2 rs2 hs g1 g2 g3 g4 g5
