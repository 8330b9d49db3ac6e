/-! THE LINE: the JDK's builder of texts; how long it is. -/
theorem set_at {h : xH} {p : Nat} {c : xC} (hh : has h p [c]) (x : xC) : h.set p x = put h p [x] := by
  have hs := W_self hh (by show 0 < 1; decide)
  have hp := put_set (h := h) (p := p) (cs := [c]) (c := x) (i := 0) (has_len hh (by show 0 < 1; decide)) (by show 0 < 1; decide)
  rw [hs] at hp
  exact hp
theorem has_app {h l : xH} {p : Nat} {cs : List xC} (hh : has h p cs) : has (h ++ l) p cs := fun i c hi => by
  have h1 := hh i c hi
  rw [List.getElem?_append_left (List.getElem?_eq_some_iff.mp h1).1]
  exact h1
theorem shl0 (x : Int32) : x <<< ((0 : Int32) &&& 31) = x := by
  rw [show ((0 : Int32) &&& 31) = 0 by decide]
  exact Int32.shiftLeft_zero
theorem sub_np {a b : Nat} (ha : a < 2 ^ 31) (hb : b < 2 ^ 31) (h : a ≤ b) : ¬ (0 : Int32) < nI a - nI b := by
  have q := nI_sub0 ha hb
  rw [show a - b = 0 by omega] at q
  unfold imax at q
  split at q
  · rename_i c
    exact fun h2 => Int32.lt_irrefl (Int32.lt_trans h2 c)
  · rw [q, nI_0]; decide
theorem sub_p {a b : Nat} (ha : a < 2 ^ 31) (h : b < a) : (0 : Int32) < nI a - nI b := by
  rw [nI_sub (by omega)]
  exact nI_lt (a := 0) (by omega) (by omega)
/-- the world with the line: n characters, room for m; the counters c more than k0 -/
def LN (e f sv : Int32) (K B F V : kK) (ol sz : Nat) (R : Nat → kK) (M : List xC) (G : Nat → xC) (P : List xC) (n m : Nat) (k0 : Nat × Nat) (c : Nat) (z : xS) : Prop := (∃ vp ml D, W0 e f sv K B F V ol sz R M G P vp ml (nI n) D z.1 ∧ n ≤ D.length ∧ m ≤ D.length ∧ (D.length = 16 ∨ D.length = 34 ∨ D.length = 70 ∨ D.length = 142)) ∧ z.2.1 ≤ k0.1 + c ∧ z.2.2 ≤ k0.2 + 150 * c
section YI
variable {S : List Int32} {d m pc nx a b i : Nat} {v w : Value} {L st args rest : List Value} {s s' : xS} {Q : xR → Prop}
theorem y_I1e {α : Type} {P : α → Prop} {wv : α → Value} {F : α → xS} (hc : xc m pc = some (.invokespecial i, nx, a, b, v)) (h9 : (a == 9003) = false) (hb : b ≤ st.length) (h8 : xcat (st.drop b) ≤ 8) (ha : (st.take b).reverse = args) (hr : st.drop b = rest) (hrc : xrq (if xmc a = 5000 then 2 else 1) a s (args.headD .null) = true) (hT : yT S d a args s (fun r => ∃ z, P z ∧ r = (.inl (some (wv z)), F z))) (k : ∀ z, P z → yW S d m (nx, L, wv z :: rest, F z) Q) : yW S d m (pc, L, st, s) Q :=
  y_callI hc h9 hb h8 ha hr hrc hT fun q hq => by obtain ⟨z, hz, rfl⟩ := hq; exact Or.inl ⟨_, rfl, k z hz⟩
theorem y_I0e {α : Type} {P : α → Prop} {F : α → xS} (hc : xc m pc = some (.invokespecial i, nx, a, b, v)) (h9 : (a == 9003) = false) (hb : b ≤ st.length) (h8 : xcat (st.drop b) ≤ 8) (ha : (st.take b).reverse = args) (hr : st.drop b = rest) (hrc : xrq (if xmc a = 5000 then 2 else 1) a s (args.headD .null) = true) (hT : yT S d a args s (fun r => ∃ z, P z ∧ r = (.inl none, F z))) (k : ∀ z, P z → yW S d m (nx, L, rest, F z) Q) : yW S d m (pc, L, st, s) Q :=
  y_callI hc h9 hb h8 ha hr hrc hT fun q hq => by obtain ⟨z, hz, rfl⟩ := hq; exact Or.inr (Or.inl ⟨rfl, k z hz⟩)
end YI
/-- the row of the line is made anew at the heap's end -/
theorem W_grow {e f sv : Int32} {K B F V : kK} {ol sz : Nat} {R : Nat → kK} {M : List xC} {G : Nat → xC} {P : List xC} {vp : Nat} {ml : Int32} {n : Nat} {D : List Int32} {h : xH} (hW : W0 e f sv K B F V ol sz R M G P vp ml (nI n) D h) {D2 : List Int32} (hD2 : hlen D2.length = h.length + 1) (hB : h.length + 1 ≤ 1000000) (x : Int32) : W0 e f sv K B F V ol sz R M G P h.length ml x D2 ((h ++ [byC D2]).set 119 (liO h.length ml x)) := by
  obtain ⟨wl, wl2, wlM, wlP, wvp, w0, wK, wB, wF, wV, wH, wM, wG, wP, wL, wD, wR⟩ := id hW
  have a0 := has_app (l := [byC D2]) w0
  have aK := has_app (l := [byC D2]) wK
  have aB := has_app (l := [byC D2]) wB
  have aF := has_app (l := [byC D2]) wF
  have aV := has_app (l := [byC D2]) wV
  have aH := has_app (l := [byC D2]) wH
  have aM := has_app (l := [byC D2]) wM
  have aG := has_app (l := [byC D2]) wG
  have aP := has_app (l := [byC D2]) wP
  have aL := has_app (l := [byC D2]) wL
  have lh : 119 < h.length := has_len wL (by show 0 < 1; decide)
  have aD : has (h ++ [byC D2]) h.length [byC D2] := fun i c hi => by rw [List.getElem?_append_right (by omega), Nat.add_sub_cancel_left]; exact hi
  have hlA : (h ++ [byC D2]).length = h.length + 1 := by rw [List.length_append]; rfl
  rw [set_at aL]
  generalize hg : h ++ [byC D2] = g at *
  have hl : 119 + ([liO h.length ml x] : List xC).length ≤ g.length := by show 119 + 1 ≤ g.length; omega
  exact ⟨by rw [put_len hl]; omega, by rw [put_len hl, hlA, hD2], wlM, wlP, by omega, has_out hl (by show 0 + 1 ≤ 119 ∨ 119 + 1 ≤ 0; omega) a0, has_out hl (by show 1 + 6 ≤ 119 ∨ 119 + 1 ≤ 1; omega) aK, has_out hl (by show 7 + 6 ≤ 119 ∨ 119 + 1 ≤ 7; omega) aB, has_out hl (by show 13 + 6 ≤ 119 ∨ 119 + 1 ≤ 13; omega) aF, has_out hl (by show 19 + 6 ≤ 119 ∨ 119 + 1 ≤ 19; omega) aV, has_out hl (by show 25 + 2 ≤ 119 ∨ 119 + 1 ≤ 25; omega) aH, has_out hl (by rw [wlM]; show 75 + 3 ≤ 119 ∨ 119 + 1 ≤ 75; omega) aM, has_out hl (by rw [rg_len]; show 78 + 35 ≤ 119 ∨ 119 + 1 ≤ 78; omega) aG, has_out hl (by rw [wlP]; show 113 + 6 ≤ 119 ∨ 119 + 1 ≤ 113; omega) aP, has_put hl, has_out hl (by show h.length + 1 ≤ 119 ∨ 119 + 1 ≤ h.length; omega) aD, fun i hi => has_out hl (by show 27 + 6 * i + 6 ≤ 119 ∨ 119 + 1 ≤ 27 + 6 * i; omega) (by rw [← hg]; exact has_app (wR i hi))⟩
theorem s_sbLatin {S : List Int32} {d : Nat} (hd : 1 ≤ d) {e f sv : Int32} {K B F V : kK} {ol sz : Nat} {R : Nat → kK} {M : List xC} {G : Nat → xC} {P : List xC} {vp : Nat} {ml : Int32} {n : Nat} {D : List Int32} {h : xH} {k0 : Nat × Nat} (hW : W0 e f sv K B F V ol sz R M G P vp ml (nI n) D h) : yT S d 166 [.ref 119] (h, k0) (· = (.inl (some (.int 1)), (h, k0))) := by
  obtain ⟨d, rfl⟩ : ∃ e, d = e + 1 := ⟨d - 1, by omega⟩
  obtain ⟨wl, wl2, wlM, wlP, wvp, w0, wK, wB, wF, wV, wH, wM, wG, wP, wL, wD, wR⟩ := id hW
  refine yT_eq (Nat.le_of_ble_eq_true rfl) ?_
  show yW S d 166 (0, [.ref 119], [], (h, k0)) _
  refine y_go rfl rfl ?_
  refine y_if_eq rfl (fun c => absurd c (by decide)) (fun _ => ?_)
  refine y_go rfl rfl ?_
  refine y_getf (w := .int 0) rfl rfl (has_at wL (i := 0) rfl) rfl ?_
  refine y_if_ne rfl (fun c => absurd (by decide) c) (fun _ => ?_)
  refine y_go rfl rfl ?_
  refine y_go rfl rfl ?_
  exact y_ireturn rfl rfl rfl rfl
theorem s_sbLen0 {S : List Int32} {d : Nat} (hd : 1 ≤ d) {e f sv : Int32} {K B F V : kK} {ol sz : Nat} {R : Nat → kK} {M : List xC} {G : Nat → xC} {P : List xC} {vp : Nat} {ml : Int32} {n : Nat} {D : List Int32} {h : xH} {k0 : Nat × Nat} (hW : W0 e f sv K B F V ol sz R M G P vp ml (nI n) D h) : yT S d 163 [.ref 119] (h, k0) (· = (.inl (some (.int (nI n))), (h, k0))) := by
  obtain ⟨d, rfl⟩ : ∃ e, d = e + 1 := ⟨d - 1, by omega⟩
  obtain ⟨wl, wl2, wlM, wlP, wvp, w0, wK, wB, wF, wV, wH, wM, wG, wP, wL, wD, wR⟩ := id hW
  refine yT_eq (Nat.le_of_ble_eq_true rfl) ?_
  show yW S d 163 (0, [.ref 119], [], (h, k0)) _
  refine y_go rfl rfl ?_
  refine y_getf (w := .int (nI n)) rfl rfl (has_at wL (i := 0) rfl) rfl ?_
  exact y_ireturn rfl rfl rfl rfl
theorem s_sbLen {S : List Int32} {d : Nat} (hd : 2 ≤ d) {e f sv : Int32} {K B F V : kK} {ol sz : Nat} {R : Nat → kK} {M : List xC} {G : Nat → xC} {P : List xC} {vp : Nat} {ml : Int32} {n : Nat} {D : List Int32} {h : xH} {k0 : Nat × Nat} (hW : W0 e f sv K B F V ol sz R M G P vp ml (nI n) D h) : yT S d 158 [.ref 119] (h, k0) (· = (.inl (some (.int (nI n))), (h, k0))) := by
  obtain ⟨d, rfl⟩ : ∃ e, d = e + 1 := ⟨d - 1, by omega⟩
  obtain ⟨wl, wl2, wlM, wlP, wvp, w0, wK, wB, wF, wV, wH, wM, wG, wP, wL, wD, wR⟩ := id hW
  refine yT_eq (Nat.le_of_ble_eq_true rfl) ?_
  show yW S d 158 (0, [.ref 119], [], (h, k0)) _
  refine y_go rfl rfl ?_
  refine y_I1 rfl rfl (Nat.le_of_ble_eq_true rfl) (Nat.le_of_ble_eq_true rfl) rfl rfl (xrcv_of (has_at wL (i := 0) rfl)) (s_sbLen0 (by omega) hW) ?_
  exact y_ireturn rfl rfl rfl rfl
theorem s_canEnc {S : List Int32} {d : Nat} (hd : 1 ≤ d) (ch : Nat) (hc : ch < 128) (s : xS) : yT S d 173 [.int (nI ch)] s (· = (.inl (some (.int 1)), s)) := by
  obtain ⟨d, rfl⟩ : ∃ e, d = e + 1 := ⟨d - 1, by omega⟩
  refine yT_eq (Nat.le_of_ble_eq_true rfl) ?_
  show yW S d 173 (0, [.int (nI ch)], [], s) _
  refine y_go rfl rfl ?_
  refine y_go rfl rfl ?_
  refine y_ic_gt rfl (fun c => absurd c (nI_nlt (a := 255) (b := ch) (by omega) (by decide))) (fun _ => ?_)
  refine y_go rfl rfl ?_
  refine y_go rfl rfl ?_
  exact y_ireturn rfl rfl rfl rfl
theorem s_newLen {S : List Int32} {d : Nat} (hd : 1 ≤ d) (x y z : Nat) (hx : x ≤ 1000) (hy : y ≤ 1000) (hz : z ≤ 1000) (h1 : 1 ≤ x) (s : xS) : yT S d 178 [.int (nI x), .int (nI y), .int (nI z)] s (· = (.inl (some (.int (nI (x + max y z)))), s)) := by
  obtain ⟨d, rfl⟩ : ∃ e, d = e + 1 := ⟨d - 1, by omega⟩
  refine yT_eq (Nat.le_of_ble_eq_true rfl) ?_
  show yW S d 178 (0, [.int (nI x), .int (nI y), .int (nI z), xno], [], s) _
  refine y_go rfl rfl ?_
  refine y_go rfl rfl ?_
  refine y_go rfl rfl ?_
  refine y_max (z := nI (max y z)) rfl (Nat.le_of_ble_eq_true rfl) (imax_nI (by omega) (by omega)) ?_
  refine y_go rfl rfl ?_
  rw [nI_add]
  refine y_go (g' := (8, [.int (nI x), .int (nI y), .int (nI z), .int (nI (x + max y z))], _, _)) rfl rfl ?_
  refine y_go rfl rfl ?_
  refine y_go rfl rfl ?_
  refine y_ic_ge rfl (fun c => absurd (nI_lt (a := 0) (b := x + max y z) (by omega) (by omega)) c) (fun _ => ?_)
  refine y_go rfl rfl ?_
  refine y_go rfl rfl ?_
  refine y_ic_gt rfl (fun c => absurd c (nI_nlt (a := 2147483639) (b := x + max y z) (by omega) (by decide))) (fun _ => ?_)
  refine y_go rfl rfl ?_
  exact y_ireturn rfl rfl rfl rfl
theorem s_newCap {S : List Int32} {d : Nat} (hd : 2 ≤ d) {e f sv : Int32} {K B F V : kK} {ol sz : Nat} {R : Nat → kK} {M : List xC} {G : Nat → xC} {P : List xC} {vp : Nat} {ml : Int32} {n : Nat} {D : List Int32} {h : xH} {k0 : Nat × Nat} (hW : W0 e f sv K B F V ol sz R M G P vp ml (nI n) D h) (hn : n ≤ D.length) (hD : D.length = 16 ∨ D.length = 34 ∨ D.length = 70 ∨ D.length = 142) (m : Nat) (h1 : D.length < m) (h2 : m ≤ D.length + 4) : yT S d 165 [.ref 119, .int (nI m)] (h, k0) (· = (.inl (some (.int (nI (2 * D.length + 2)))), (h, k0))) := by
  obtain ⟨d, rfl⟩ : ∃ e, d = e + 1 := ⟨d - 1, by omega⟩
  obtain ⟨wl, wl2, wlM, wlP, wvp, w0, wK, wB, wF, wV, wH, wM, wG, wP, wL, wD, wR⟩ := id hW
  refine yT_eq (Nat.le_of_ble_eq_true rfl) ?_
  show yW S d 165 (0, [.ref 119, .int (nI m), xno, xno, xno, xno], [], (h, k0)) _
  refine y_go rfl rfl ?_
  refine y_getf (w := .ref vp) rfl rfl (has_at wL (i := 0) rfl) rfl ?_
  refine y_alen rfl (has_at wD (i := 0) rfl) rfl ?_
  refine y_go (g' := (6, [.ref 119, .int (nI m), .int (nI D.length), xno, xno, xno], _, _)) rfl rfl ?_
  refine y_go rfl rfl ?_
  refine y_go rfl rfl ?_
  refine y_getf (w := .int 0) rfl rfl (has_at wL (i := 0) rfl) rfl ?_
  refine y_go rfl rfl ?_
  refine y_go (g' := (13, [.ref 119, .int (nI m), .int (nI D.length), .int ((nI m) <<< (0 &&& 31)), xno, xno], _, _)) rfl rfl ?_
  refine y_go rfl rfl ?_
  refine y_go rfl rfl ?_
  refine y_go rfl rfl ?_
  refine y_go (g' := (18, [.ref 119, .int (nI m), .int (nI D.length), .int ((nI m) <<< (0 &&& 31)), .int (((nI m) <<< (0 &&& 31)) - (nI D.length)), xno], _, _)) rfl rfl ?_
  refine y_go rfl rfl ?_
  refine y_go rfl rfl ?_
  refine y_go rfl rfl ?_
  refine y_go rfl rfl ?_
  refine y_go rfl rfl ?_
  refine y_getf (w := .int 0) rfl rfl (has_at wL (i := 0) rfl) rfl ?_
  refine y_go rfl rfl ?_
  refine y_go rfl rfl ?_
  rw [shl0, shl0, nI_sub (by omega), show nI D.length + 2 = nI (D.length + 2) from nI_add _ 2]
  refine y_S1 rfl rfl (Nat.le_of_ble_eq_true rfl) (Nat.le_of_ble_eq_true rfl) rfl rfl (s_newLen (by omega) D.length (m - D.length) (D.length + 2) (by omega) (by omega) (by omega) (by omega) _) ?_
  rw [show D.length + max (m - D.length) (D.length + 2) = 2 * D.length + 2 by omega]
  refine y_go (g' := (34, [.ref 119, .int (nI m), .int (nI D.length), .int (nI m), .int (nI (m - D.length)), .int (nI (2 * D.length + 2))], _, _)) rfl rfl ?_
  refine y_go rfl rfl ?_
  refine y_go rfl rfl ?_
  refine y_ic_ne rfl (fun _ => ?_) (fun c => absurd c (fun q => by have := (nI_eq (a := 2 * D.length + 2) (b := 2147483647) (by omega) (by decide)).mp q; omega))
  refine y_go rfl rfl ?_
  refine y_go rfl rfl ?_
  refine y_getf (w := .int 0) rfl rfl (has_at wL (i := 0) rfl) rfl ?_
  refine y_go rfl rfl ?_
  exact y_ireturn rfl rfl rfl (by rw [shr0])
theorem s_copyOf {S : List Int32} {d : Nat} (hd : 1 ≤ d) {e f sv : Int32} {K B F V : kK} {ol sz : Nat} {R : Nat → kK} {M : List xC} {G : Nat → xC} {P : List xC} {vp : Nat} {ml : Int32} {n : Nat} {D : List Int32} {h : xH} {k0 : Nat × Nat} (hW : W0 e f sv K B F V ol sz R M G P vp ml (nI n) D h) (hn : n ≤ D.length) (hD : D.length = 16 ∨ D.length = 34 ∨ D.length = 70 ∨ D.length = 142) (j : Nat) (h1 : D.length < j) (h2 : j ≤ 1000) : yT S d 177 [.ref vp, .int (nI j)] (h, k0) (fun r => ∃ D2, D2.length = j ∧ r = (.inl (some (.ref h.length)), (h ++ [byC D2], k0.1 + 1, k0.2 + j))) := by
  obtain ⟨d, rfl⟩ : ∃ e, d = e + 1 := ⟨d - 1, by omega⟩
  obtain ⟨wl, wl2, wlM, wlP, wvp, w0, wK, wB, wF, wV, wH, wM, wG, wP, wL, wD, wR⟩ := id hW
  refine yT_e (Nat.le_of_ble_eq_true rfl) ?_
  show yW S d 177 (0, [.ref vp, .int (nI j), xno], [], (h, k0)) _
  refine y_go rfl rfl ?_
  refine y_go rfl rfl ?_
  refine y_alen rfl (has_at wD (i := 0) rfl) rfl ?_
  refine y_ic_ne rfl (fun _ => ?_) (fun c => absurd c (fun q => by have := (nI_eq (a := j) (b := D.length) (by omega) (by omega)).mp q; omega))
  refine y_go rfl rfl ?_
  refine y_newa (j := j) rfl (Or.inl ⟨_, rfl⟩) (xidx_nI (by omega)) (by omega) (by show h.length < 1000000; rw [wl2]; unfold hlen; (repeat' split) <;> omega) rfl ?_
  show yW S d 177 (17, [.ref vp, .int (nI j), xno], [.ref h.length], (h ++ [byC (List.replicate j 0)], k0.1 + 1, k0.2 + j)) _
  have wD2 := has_app (l := [byC (List.replicate j 0)]) wD
  refine y_go (g' := (18, [.ref vp, .int (nI j), .ref h.length], _, _)) rfl rfl ?_
  refine y_go rfl rfl ?_
  refine y_go rfl rfl ?_
  refine y_go rfl rfl ?_
  refine y_go rfl rfl ?_
  refine y_go rfl rfl ?_
  refine y_alen rfl (has_at wD2 (i := 0) rfl) rfl ?_
  refine y_go rfl rfl ?_
  refine y_min (z := nI D.length) rfl (Nat.le_of_ble_eq_true rfl) (by rw [imin_nI (by omega) (by omega), Nat.min_eq_left (by omega)]) ?_
  have hq : (h ++ [byC (List.replicate j 0)])[h.length]? = some (byC (List.replicate j 0)) := by rw [List.getElem?_append_right (Nat.le_refl _), Nat.sub_self]; rfl
  refine y_copy (n := D.length) (k := 0) (j := 0) rfl (Nat.le_of_ble_eq_true rfl) (has_at wD2 (i := 0) rfl) hq (xidx_nI (by omega)) (by decide) (by decide) (by omega) (by rw [List.length_replicate]; omega) ?_
  have es : (h ++ [byC (List.replicate j 0)]).set h.length (byC ((List.replicate j (0 : Int32)).take 0 ++ ((D.drop 0).take D.length ++ (List.replicate j (0 : Int32)).drop (0 + D.length)))) = h ++ [byC ((List.replicate j (0 : Int32)).take 0 ++ ((D.drop 0).take D.length ++ (List.replicate j (0 : Int32)).drop (0 + D.length)))] := by rw [List.set_append_right _ _ (Nat.le_refl _), Nat.sub_self]; rfl
  show yW S d 177 (31, [.ref vp, .int (nI j), .ref h.length], [], ((h ++ [byC (List.replicate j 0)]).set h.length (byC ((List.replicate j (0 : Int32)).take 0 ++ ((D.drop 0).take D.length ++ (List.replicate j (0 : Int32)).drop (0 + D.length)))), k0.1 + 1, k0.2 + j)) _
  rw [es]
  refine y_go rfl rfl ?_
  exact y_end rfl rfl ⟨_, by simp only [List.length_append, List.length_take, List.length_drop, List.length_replicate]; omega, rfl⟩
theorem s_ensure {S : List Int32} {d : Nat} (hd : 4 ≤ d) {e f sv : Int32} {K B F V : kK} {ol sz : Nat} {R : Nat → kK} {M : List xC} {G : Nat → xC} {P : List xC} {vp : Nat} {ml : Int32} {n : Nat} {D : List Int32} {h : xH} {k0 : Nat × Nat} (hW : W0 e f sv K B F V ol sz R M G P vp ml (nI n) D h) (hn : n ≤ D.length) (hD : D.length = 16 ∨ D.length = 34 ∨ D.length = 70 ∨ D.length = 142) (m : Nat) (h2 : m ≤ n + 4) (h3 : m ≤ 142) : yT S d 164 [.ref 119, .int (nI m)] (h, k0) (fun r => ∃ z : xS, LN e f sv K B F V ol sz R M G P n m k0 1 z ∧ r = (.inl none, z)) := by
  obtain ⟨d, rfl⟩ : ∃ e, d = e + 1 := ⟨d - 1, by omega⟩
  obtain ⟨wl, wl2, wlM, wlP, wvp, w0, wK, wB, wF, wV, wH, wM, wG, wP, wL, wD, wR⟩ := id hW
  refine yT_e (Nat.le_of_ble_eq_true rfl) ?_
  show yW S d 164 (0, [.ref 119, .int (nI m), xno], [], (h, k0)) _
  refine y_go rfl rfl ?_
  refine y_getf (w := .ref vp) rfl rfl (has_at wL (i := 0) rfl) rfl ?_
  refine y_alen rfl (has_at wD (i := 0) rfl) rfl ?_
  refine y_go rfl rfl ?_
  refine y_getf (w := .int 0) rfl rfl (has_at wL (i := 0) rfl) rfl ?_
  refine y_go rfl rfl ?_
  refine y_go (g' := (11, [.ref 119, .int (nI m), .int ((nI D.length) >>> (0 &&& 31))], _, _)) rfl rfl ?_
  refine y_go rfl rfl ?_
  refine y_go rfl rfl ?_
  refine y_go rfl rfl ?_
  rw [shr0]
  by_cases hc : m ≤ D.length
  · refine y_if_le rfl (fun _ => ?_) (fun c => absurd c (sub_np (by omega) (by omega) hc))
    exact y_end rfl rfl ⟨(h, k0), ⟨⟨vp, ml, D, hW, hn, hc, hD⟩, Nat.le_add_right _ _, Nat.le_add_right _ _⟩, rfl⟩
  · refine y_if_le rfl (fun c => absurd (sub_p (by omega) (by omega)) c) (fun _ => ?_)
    refine y_go rfl rfl ?_
    refine y_go rfl rfl ?_
    refine y_getf (w := .ref vp) rfl rfl (has_at wL (i := 0) rfl) rfl ?_
    refine y_go rfl rfl ?_
    refine y_go rfl rfl ?_
    refine y_V1 rfl (Nat.le_of_ble_eq_true rfl) (Nat.le_of_ble_eq_true rfl) rfl rfl (xrcv_of (has_at wL (i := 0) rfl)) (s_newCap (by omega) hW hn hD m (by omega) (by omega)) ?_
    refine y_go rfl rfl ?_
    refine y_getf (w := .int 0) rfl rfl (has_at wL (i := 0) rfl) rfl ?_
    refine y_go rfl rfl ?_
    rw [shl0]
    refine y_S1e rfl rfl (Nat.le_of_ble_eq_true rfl) (Nat.le_of_ble_eq_true rfl) rfl rfl (s_copyOf (by omega) hW hn hD (2 * D.length + 2) (by omega) (by omega)) (fun D2 hD2 => ?_)
    refine y_putf rfl (has_at (has_app wL) (i := 0) rfl) (Nat.le_of_ble_eq_true rfl) (xf_ref rfl) ?_
    have hW2 := W_grow hW (D2 := D2) (by rw [hD2, wl2]; rcases hD with e | e | e | e <;> rw [e] <;> first | decide | omega) (by rw [wl2]; unfold hlen; (repeat' split) <;> omega) (nI n)
    exact y_end rfl rfl ⟨((h ++ [byC D2]).set 119 (liO h.length ml (nI n)), (k0.1 + 1, k0.2 + (2 * D.length + 2))), ⟨⟨h.length, ml, D2, hW2, by omega, by omega, by omega⟩, Nat.le_refl _, by show k0.2 + (2 * D.length + 2) ≤ _; omega⟩, rfl⟩
