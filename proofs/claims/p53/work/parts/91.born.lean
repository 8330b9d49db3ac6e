/-! THE KILN AS A WHOLE: it is made. -/
def lst (i : Nat) : List (Option Nat) := (List.range i).map (fun z => some (27 + 6 * z)) ++ List.replicate (8 - i) none
theorem lst_set : ∀ i, i < 8 → (lst i).set i (some (27 + 6 * i)) = lst (i + 1) ∧ i < (lst i).length := by decide +kernel
/-- the history's constructor, i kilns made -/
def hiI (h : xH) (i : Nat) (g : xH) : Prop := g.length = 27 + 6 * i ∧ has g 25 [.inl (5, [.ref 26, .int 0, .int 0])] ∧ has g 26 [.inr (.inr (.inr (4, lst i)))] ∧ (∀ z, z < i → has g (27 + 6 * z) (kC (27 + 6 * z) K0)) ∧ ∀ q cs, q + cs.length ≤ 25 → has h q cs → has g q cs
theorem has_own {h : xH} {n : Nat} {cs : xH} (hn : h.length = n) : has (h ++ cs) n cs := fun i c hi => app_at hn hi
theorem hiI_step {h g : xH} {i : Nat} (hi : i < 8) (hg : hiI h i g) : hiI h (i + 1) ((g ++ kC (27 + 6 * i) K0).set 26 (.inr (.inr (.inr (4, (lst i).set i (some (27 + 6 * i))))))) := by
  obtain ⟨h1, h2, h3, h4, h5⟩ := hg
  have hl : (g ++ kC (27 + 6 * i) K0).length = 27 + 6 * (i + 1) := by rw [List.length_append, h1]; show 27 + 6 * i + 6 = _; omega
  rw [set_at (has_app h3), (lst_set i hi).1]
  have hb : 26 + ([.inr (.inr (.inr (4, lst (i + 1))))] : List xC).length ≤ (g ++ kC (27 + 6 * i) K0).length := by show 26 + 1 ≤ _; omega
  refine ⟨by rw [put_len hb]; exact hl, has_out hb (by show 25 + 1 ≤ 26 ∨ 26 + 1 ≤ 25; omega) (has_app h2), has_put hb, fun z hz => ?_, fun q cs hq hh => has_out hb (by show _ ∨ 26 + 1 ≤ q; omega) (has_app (h5 q cs hq hh))⟩
  refine has_out hb (by show _ ∨ 26 + 1 ≤ 27 + 6 * z; omega) ?_
  by_cases e : z = i
  · subst e; exact has_own h1
  · exact has_app (h4 z (by omega))
theorem l_hist {S : List Int32} {d : Nat} (hd : 2 ≤ d) {h : xH} (k0 : Nat × Nat) : ∀ (n i : Nat), i + n = 8 → ∀ g : xH, hiI h i g → yW S d 10 (25, [.ref 25, .int (nI i)], [], (g, k0.1 + 1 + 6 * i, k0.2 + 8 + 47 * i)) (fun r => ∃ g : xH, (g.length = 75 ∧ has g 25 (hiC 0 0) ∧ (∀ z, z < 8 → has g (27 + 6 * z) (kC (27 + 6 * z) K0)) ∧ ∀ q cs, q + cs.length ≤ 25 → has h q cs → has g q cs) ∧ r = (.inl none, (g, k0.1 + 49, k0.2 + 384))) := by
  intro n
  induction n with
  | zero =>
    intro i hi g hg
    obtain rfl : i = 8 := by omega
    obtain ⟨h1, h2, h3, h4, h5⟩ := hg
    refine y_go rfl rfl ?_
    refine y_go rfl rfl ?_
    refine y_ic_ge rfl (fun _ => ?_) (fun c => absurd c (by decide))
    have h25 : has g 25 (hiC 0 0) := fun i c hi => by
      match i, hi with
      | 0, hi => exact h2 0 c hi
      | 1, hi => exact h3 0 c hi
    exact y_end rfl rfl ⟨g, ⟨h1, h25, h4, h5⟩, rfl⟩
  | succ n ih =>
    intro i hi g hg
    have hi8 : i < 8 := by omega
    obtain ⟨h1, h2, h3, h4, h5⟩ := id hg
    refine y_go rfl rfl ?_
    refine y_go rfl rfl ?_
    refine y_ic_ge rfl (fun c => absurd (nI_lt (a := i) (b := 8) hi8 (by decide)) c) (fun _ => ?_)
    refine y_go rfl rfl ?_
    refine y_getf (w := .ref 26) rfl rfl (has_at h2 (i := 0) rfl) rfl ?_
    refine y_go rfl rfl ?_
    refine y_new (n := 27 + 6 * i) (fs := xdef 6) (k := 17) rfl rfl (by show g.length < 1000000; omega) h1 rfl rfl ?_
    refine y_go rfl rfl ?_
    refine y_I0 rfl rfl (Nat.le_of_ble_eq_true rfl) (Nat.le_of_ble_eq_true rfl) rfl rfl rfl (s_initK (by omega) h1 (by omega) _) ?_
    refine y_aast (j := i) rfl (has_at (has_app h3) (i := 0) rfl) (by decide) (xidx_nI (by omega)) (lst_set i hi8).2 (xrcv_of (has_at (has_own h1) (i := 0) rfl)) ?_
    refine y_go (g' := (47, [.ref 25, .int (nI (i + 1))], _, _)) rfl (by rw [← nI_1 i]; rfl) ?_
    refine y_go rfl rfl ?_
    have hk := ih (i + 1) (by omega) _ (hiI_step hi8 hg)
    rw [show k0.1 + 1 + 6 * (i + 1) = k0.1 + 1 + 6 * i + 1 + 5 by omega, show k0.2 + 8 + 47 * (i + 1) = k0.2 + 8 + 47 * i + 17 + 30 by omega] at hk
    exact hk
theorem s_initH {S : List Int32} {d : Nat} (hd : 3 ≤ d) {h : xH} (hn : h.length = 25) (k0 : Nat × Nat) : yT S d 10 [.ref 25] (h ++ [.inl (5, xdef 5)], k0) (fun r => ∃ g : xH, (g.length = 75 ∧ has g 25 (hiC 0 0) ∧ (∀ z, z < 8 → has g (27 + 6 * z) (kC (27 + 6 * z) K0)) ∧ ∀ q cs, q + cs.length ≤ 25 → has h q cs → has g q cs) ∧ r = (.inl none, (g, k0.1 + 49, k0.2 + 384))) := by
  obtain ⟨d, rfl⟩ : ∃ e, d = e + 1 := ⟨d - 1, by omega⟩
  refine yT_e (Nat.le_of_ble_eq_true rfl) ?_
  have hB : 25 ≤ 1000 := by decide
  show yW S d 10 (0, [.ref 25, xno], [], (h ++ [.inl (5, [.null, .int 0, .int 0])], k0.1 + 0, k0.2 + 0)) _
  refine y_go rfl rfl ?_
  refine y_objinit rfl (Nat.le_of_ble_eq_true rfl) ?_
  refine y_go rfl rfl ?_
  refine y_go rfl rfl ?_
  refine y_newaT (j := 8) (cs' := [.inl (5, [.null, .int 0, .int 0]), .inr (.inr (.inr (4, [none, none, none, none, none, none, none, none])))]) (k := 1) rfl (Or.inr ⟨_, rfl⟩) (by decide) (by decide) hB hn rfl rfl rfl ?_
  show yW S d 10 (10, [.ref 25, xno], [.ref 26, .ref 25], ((h ++ [.inl (5, [.null, .int 0, .int 0]), .inr (.inr (.inr (4, [none, none, none, none, none, none, none, none])))]), k0.1 + 1, k0.2 + 8)) _
  refine y_putT (i := 0) (cs' := [.inl (5, [.ref 26, .int 0, .int 0]), .inr (.inr (.inr (4, [none, none, none, none, none, none, none, none])))]) rfl hn rfl rfl (Nat.le_of_ble_eq_true rfl) (by first | exact xf_ref rfl | exact xf_obj rfl) rfl ?_
  refine y_go rfl rfl ?_
  refine y_go rfl rfl ?_
  refine y_putT (i := 0) (cs' := [.inl (5, [.ref 26, .int 0, .int 0]), .inr (.inr (.inr (4, [none, none, none, none, none, none, none, none])))]) rfl hn rfl rfl (Nat.le_of_ble_eq_true rfl) (xf_int rfl) rfl ?_
  refine y_go rfl rfl ?_
  refine y_go rfl rfl ?_
  refine y_putT (i := 0) (cs' := [.inl (5, [.ref 26, .int 0, .int 0]), .inr (.inr (.inr (4, [none, none, none, none, none, none, none, none])))]) rfl hn rfl rfl (Nat.le_of_ble_eq_true rfl) (xf_int rfl) rfl ?_
  refine y_go rfl rfl ?_
  refine y_go (g' := (25, [.ref 25, .int 0], _, _)) rfl rfl ?_
  refine yW_mono (l_hist (by omega) k0 8 0 rfl (h ++ [.inl (5, [.ref 26, .int 0, .int 0]), .inr (.inr (.inr (4, [none, none, none, none, none, none, none, none])))]) ⟨by rw [List.length_append, hn]; rfl, fun i c hi => ?_, fun i c hi => ?_, fun z hz => absurd hz (Nat.not_lt_zero _), fun q cs hq hh => has_app hh⟩) fun r hr => hr
  · match i, hi with
    | 0, hi => exact app_at hn (i := 0) hi
  · match i, hi with
    | 0, hi => exact app_at hn (i := 1) hi
theorem grow {g cells : xH} {n : Nat} {o1 : xC} (hn : g.length = n) (h0 : 0 < n) (w0 : has g 0 [o1]) (o2 : xC) : ((g ++ cells).set 0 o2).length = n + cells.length ∧ has ((g ++ cells).set 0 o2) 0 [o2] ∧ has ((g ++ cells).set 0 o2) n cells ∧ ∀ q cs, 1 ≤ q → has g q cs → has ((g ++ cells).set 0 o2) q cs := by
  have hl : (g ++ cells).length = n + cells.length := by rw [List.length_append, hn]
  have hb : 0 + ([o2] : List xC).length ≤ (g ++ cells).length := by show 0 + 1 ≤ _; omega
  rw [set_at (has_app w0)]
  exact ⟨by rw [put_len hb]; exact hl, has_put hb, has_out hb (by show _ ∨ 0 + 1 ≤ n; omega) (has_own hn), fun q cs hq hh => has_out hb (by show _ ∨ 0 + 1 ≤ q; omega) (has_app hh)⟩
theorem set0 {g : xH} {n : Nat} {o1 : xC} (hn : g.length = n) (h0 : 0 < n) (w0 : has g 0 [o1]) (o2 : xC) : (g.set 0 o2).length = n ∧ has (g.set 0 o2) 0 [o2] ∧ ∀ q cs, 1 ≤ q → has g q cs → has (g.set 0 o2) q cs := by
  have hb : 0 + ([o2] : List xC).length ≤ g.length := by show 0 + 1 ≤ _; omega
  rw [set_at w0]
  exact ⟨by rw [put_len hb]; exact hn, has_put hb, fun q cs hq hh => has_out hb (by show _ ∨ 0 + 1 ≤ q; omega) hh⟩
theorem kvp_K0 : kvp K0 := ⟨⟨rfl, rfl, rfl, rfl, rfl, Or.inl rfl⟩, 0, 0, 0, 1, 3, 5, by decide, by decide, by decide, by decide, by decide, by decide, rfl, rfl⟩
theorem GK_K0 : GK 0 K0 := by
  refine ⟨kvp_K0, fun j hj => ⟨0, ?_, by omega, Or.inl ⟨?_, rfl⟩⟩, fun j hj => ⟨20, ?_, by omega, by omega⟩, ⟨0, rfl, by omega⟩, ⟨1, rfl, by omega⟩, by decide +kernel, by decide +kernel, 0, rfl, by omega⟩
  · have : ∀ j, j < 8 → gd K0.2.2.1 j = nI 0 := by decide +kernel
    exact this j hj
  · have : ∀ j, j < 8 → gd K0.2.1 j = 101 := by decide +kernel
    exact this j hj
  · have : ∀ j, j < 8 → gd K0.2.2.2.1 j = nI 20 := by decide +kernel
    exact this j hj
theorem s_made {S : List Int32} {d : Nat} (hd : 5 ≤ d) (k0 : Nat × Nat) : yT S d 60 [.ref 0] ([.inl (9, xdef 9)], k0) (fun r => ∃ z : xS, (W2 (-1) (-1) 0 K0 K0 0 0 (fun _ => K0) [] z.1 ∧ z.2.1 ≤ k0.1 + 120 ∧ z.2.2 ≤ k0.2 + 3100) ∧ r = (.inl none, z)) := by
  obtain ⟨d, rfl⟩ : ∃ e, d = e + 1 := ⟨d - 1, by omega⟩
  refine yT_of (Nat.le_of_ble_eq_true rfl) ?_ (fun r hr hx => by obtain ⟨z, -, rfl⟩ := hr; cases hx)
  have hn : ([.inl (9, xdef 9)] : xH).length = 1 := rfl
  have w0 : has ([.inl (9, xdef 9)] : xH) 0 [.inl (9, [.null, .null, .null, .null, .int 0, .null, .null, .null, .null, .null, .int 0, .int 0])] := fun i c hi => by rw [Nat.zero_add]; exact hi
  show yW S d 60 (0, [.ref 0], [], ([.inl (9, xdef 9)], k0.1 + 0, k0.2 + 0)) _
  generalize ([.inl (9, xdef 9)] : xH) = g at *
  refine y_go rfl rfl ?_
  refine y_objinit rfl (Nat.le_of_ble_eq_true rfl) ?_
  refine y_go rfl rfl ?_
  refine y_new (n := 1) (fs := xdef 6) (k := 17) rfl rfl (by show g.length < 1000000; omega) hn rfl rfl ?_
  refine y_go rfl rfl ?_
  refine y_I0 rfl rfl (Nat.le_of_ble_eq_true rfl) (Nat.le_of_ble_eq_true rfl) rfl rfl rfl (s_initK (by omega) hn (by omega) _) ?_
  refine y_putf rfl (has_at (has_app w0) (i := 0) rfl) (Nat.le_of_ble_eq_true rfl) (by first | exact xf_ref rfl | exact xf_obj rfl) ?_
  show yW S d 60 (15, [.ref 0], [], ((g ++ kC 1 K0).set 0 (.inl (9, [.ref 1, .null, .null, .null, .int 0, .null, .null, .null, .null, .null, .int 0, .int 0])), k0.1 + 6, k0.2 + 47)) _
  have hgr := grow (cells := kC 1 K0) hn (by decide) w0 (.inl (9, [.ref 1, .null, .null, .null, .int 0, .null, .null, .null, .null, .null, .int 0, .int 0]))
  clear hn w0
  obtain ⟨hn, w0, wK, hfr⟩ := hgr
  clear hfr
  generalize (g ++ kC 1 K0).set 0 (.inl (9, [.ref 1, .null, .null, .null, .int 0, .null, .null, .null, .null, .null, .int 0, .int 0])) = g11 at *
  replace hn : g11.length = 7 := hn
  refine y_go rfl rfl ?_
  refine y_new (n := 7) (fs := xdef 6) (k := 17) rfl rfl (by show g11.length < 1000000; omega) hn rfl rfl ?_
  refine y_go rfl rfl ?_
  refine y_I0 rfl rfl (Nat.le_of_ble_eq_true rfl) (Nat.le_of_ble_eq_true rfl) rfl rfl rfl (s_initK (by omega) hn (by omega) _) ?_
  refine y_putf rfl (has_at (has_app w0) (i := 0) rfl) (Nat.le_of_ble_eq_true rfl) (by first | exact xf_ref rfl | exact xf_obj rfl) ?_
  show yW S d 60 (26, [.ref 0], [], ((g11 ++ kC 7 K0).set 0 (.inl (9, [.ref 1, .ref 7, .null, .null, .int 0, .null, .null, .null, .null, .null, .int 0, .int 0])), k0.1 + 12, k0.2 + 94)) _
  have hgr := grow (cells := kC 7 K0) hn (by decide) w0 (.inl (9, [.ref 1, .ref 7, .null, .null, .int 0, .null, .null, .null, .null, .null, .int 0, .int 0]))
  clear hn w0
  obtain ⟨hn, w0, wB, hfr⟩ := hgr
  have wK' := hfr _ _ (by decide) wK
  clear wK
  have wK := wK'
  clear wK'
  clear hfr
  generalize (g11 ++ kC 7 K0).set 0 (.inl (9, [.ref 1, .ref 7, .null, .null, .int 0, .null, .null, .null, .null, .null, .int 0, .int 0])) = g12 at *
  replace hn : g12.length = 13 := hn
  refine y_go rfl rfl ?_
  refine y_new (n := 13) (fs := xdef 6) (k := 17) rfl rfl (by show g12.length < 1000000; omega) hn rfl rfl ?_
  refine y_go rfl rfl ?_
  refine y_I0 rfl rfl (Nat.le_of_ble_eq_true rfl) (Nat.le_of_ble_eq_true rfl) rfl rfl rfl (s_initK (by omega) hn (by omega) _) ?_
  refine y_putf rfl (has_at (has_app w0) (i := 0) rfl) (Nat.le_of_ble_eq_true rfl) (by first | exact xf_ref rfl | exact xf_obj rfl) ?_
  show yW S d 60 (37, [.ref 0], [], ((g12 ++ kC 13 K0).set 0 (.inl (9, [.ref 1, .ref 7, .ref 13, .null, .int 0, .null, .null, .null, .null, .null, .int 0, .int 0])), k0.1 + 18, k0.2 + 141)) _
  have hgr := grow (cells := kC 13 K0) hn (by decide) w0 (.inl (9, [.ref 1, .ref 7, .ref 13, .null, .int 0, .null, .null, .null, .null, .null, .int 0, .int 0]))
  clear hn w0
  obtain ⟨hn, w0, wF, hfr⟩ := hgr
  have wK' := hfr _ _ (by decide) wK
  clear wK
  have wB' := hfr _ _ (by decide) wB
  clear wB
  have wK := wK'
  clear wK'
  have wB := wB'
  clear wB'
  clear hfr
  generalize (g12 ++ kC 13 K0).set 0 (.inl (9, [.ref 1, .ref 7, .ref 13, .null, .int 0, .null, .null, .null, .null, .null, .int 0, .int 0])) = g13 at *
  replace hn : g13.length = 19 := hn
  refine y_go rfl rfl ?_
  refine y_new (n := 19) (fs := xdef 6) (k := 17) rfl rfl (by show g13.length < 1000000; omega) hn rfl rfl ?_
  refine y_go rfl rfl ?_
  refine y_I0 rfl rfl (Nat.le_of_ble_eq_true rfl) (Nat.le_of_ble_eq_true rfl) rfl rfl rfl (s_initK (by omega) hn (by omega) _) ?_
  refine y_putf rfl (has_at (has_app w0) (i := 0) rfl) (Nat.le_of_ble_eq_true rfl) (by first | exact xf_ref rfl | exact xf_obj rfl) ?_
  show yW S d 60 (48, [.ref 0], [], ((g13 ++ kC 19 K0).set 0 (.inl (9, [.ref 1, .ref 7, .ref 13, .ref 19, .int 0, .null, .null, .null, .null, .null, .int 0, .int 0])), k0.1 + 24, k0.2 + 188)) _
  have hgr := grow (cells := kC 19 K0) hn (by decide) w0 (.inl (9, [.ref 1, .ref 7, .ref 13, .ref 19, .int 0, .null, .null, .null, .null, .null, .int 0, .int 0]))
  clear hn w0
  obtain ⟨hn, w0, wV, hfr⟩ := hgr
  have wK' := hfr _ _ (by decide) wK
  clear wK
  have wB' := hfr _ _ (by decide) wB
  clear wB
  have wF' := hfr _ _ (by decide) wF
  clear wF
  have wK := wK'
  clear wK'
  have wB := wB'
  clear wB'
  have wF := wF'
  clear wF'
  clear hfr
  generalize (g13 ++ kC 19 K0).set 0 (.inl (9, [.ref 1, .ref 7, .ref 13, .ref 19, .int 0, .null, .null, .null, .null, .null, .int 0, .int 0])) = g14 at *
  replace hn : g14.length = 25 := hn
  refine y_go rfl rfl ?_
  refine y_go rfl rfl ?_
  refine y_putf rfl (has_at w0 (i := 0) rfl) (Nat.le_of_ble_eq_true rfl) rfl ?_
  show yW S d 60 (53, [.ref 0], [], (g14.set 0 (.inl (9, [.ref 1, .ref 7, .ref 13, .ref 19, .int 0, .null, .null, .null, .null, .null, .int 0, .int 0])), k0.1 + 24, k0.2 + 188)) _
  have hgr := set0 hn (by decide) w0 (.inl (9, [.ref 1, .ref 7, .ref 13, .ref 19, .int 0, .null, .null, .null, .null, .null, .int 0, .int 0]))
  clear hn w0
  obtain ⟨hn, w0, hfr⟩ := hgr
  have wK' := hfr _ _ (by decide) wK
  clear wK
  have wK := wK'
  clear wK'
  have wB' := hfr _ _ (by decide) wB
  clear wB
  have wB := wB'
  clear wB'
  have wF' := hfr _ _ (by decide) wF
  clear wF
  have wF := wF'
  clear wF'
  have wV' := hfr _ _ (by decide) wV
  clear wV
  have wV := wV'
  clear wV'
  clear hfr
  generalize g14.set 0 (.inl (9, [.ref 1, .ref 7, .ref 13, .ref 19, .int 0, .null, .null, .null, .null, .null, .int 0, .int 0])) = g15 at *
  refine y_go rfl rfl ?_
  refine y_new (n := 25) (fs := xdef 5) (k := 3) rfl rfl (by show g15.length < 1000000; omega) hn rfl rfl ?_
  refine y_go rfl rfl ?_
  refine y_I0e rfl rfl (Nat.le_of_ble_eq_true rfl) (Nat.le_of_ble_eq_true rfl) rfl rfl rfl (s_initH (by omega) hn _) (fun g2 hg2 => ?_)
  obtain ⟨hn2, wH, wR, hf2⟩ := hg2
  clear hn
  have hn := hn2
  clear hn2
  have w0' := hf2 _ _ (by decide) w0
  clear w0
  have w0 := w0'
  clear w0'
  have wK' := hf2 _ _ (by decide) wK
  clear wK
  have wK := wK'
  clear wK'
  have wB' := hf2 _ _ (by decide) wB
  clear wB
  have wB := wB'
  clear wB'
  have wF' := hf2 _ _ (by decide) wF
  clear wF
  have wF := wF'
  clear wF'
  have wV' := hf2 _ _ (by decide) wV
  clear wV
  have wV := wV'
  clear wV'
  clear hf2
  refine y_putf rfl (has_at w0 (i := 0) rfl) (Nat.le_of_ble_eq_true rfl) (by first | exact xf_ref rfl | exact xf_obj rfl) ?_
  show yW S d 60 (64, [.ref 0], [], (g2.set 0 (.inl (9, [.ref 1, .ref 7, .ref 13, .ref 19, .int 0, .ref 25, .null, .null, .null, .null, .int 0, .int 0])), k0.1 + 74, k0.2 + 575)) _
  have hgr := set0 hn (by decide) w0 (.inl (9, [.ref 1, .ref 7, .ref 13, .ref 19, .int 0, .ref 25, .null, .null, .null, .null, .int 0, .int 0]))
  clear hn w0
  obtain ⟨hn, w0, hfr⟩ := hgr
  have wK' := hfr _ _ (by decide) wK
  clear wK
  have wK := wK'
  clear wK'
  have wB' := hfr _ _ (by decide) wB
  clear wB
  have wB := wB'
  clear wB'
  have wF' := hfr _ _ (by decide) wF
  clear wF
  have wF := wF'
  clear wF'
  have wV' := hfr _ _ (by decide) wV
  clear wV
  have wV := wV'
  clear wV'
  have wH' := hfr _ _ (by decide) wH
  clear wH
  have wH := wH'
  clear wH'
  have wR2 : ∀ i, i < 8 → has (g2.set 0 (.inl (9, [.ref 1, .ref 7, .ref 13, .ref 19, .int 0, .ref 25, .null, .null, .null, .null, .int 0, .int 0]))) (27 + 6 * i) (kC (27 + 6 * i) K0) := fun i hi => hfr _ _ (by omega) (wR i hi)
  clear wR
  have wR := wR2
  clear wR2
  clear hfr
  generalize g2.set 0 (.inl (9, [.ref 1, .ref 7, .ref 13, .ref 19, .int 0, .ref 25, .null, .null, .null, .null, .int 0, .int 0])) = g17 at *
  refine y_go rfl rfl ?_
  refine y_new (n := 75) (fs := xdef 7) (k := 5) rfl rfl (by show g17.length < 1000000; omega) hn rfl rfl ?_
  refine y_go rfl rfl ?_
  refine y_I0 rfl rfl (Nat.le_of_ble_eq_true rfl) (Nat.le_of_ble_eq_true rfl) rfl rfl rfl (s_initM (by omega) hn (by omega) _) ?_
  refine y_putf rfl (has_at (has_app w0) (i := 0) rfl) (Nat.le_of_ble_eq_true rfl) (by first | exact xf_ref rfl | exact xf_obj rfl) ?_
  show yW S d 60 (75, [.ref 0], [], ((g17 ++ ([.inl (7, [.ref (75 + 1), .ref (75 + 2), .int 0, .int 0, .int 0]), .inr (.inl (0, List.replicate 212 0)), .inr (.inl (0, [0, 0, 0]))] : xH)).set 0 (.inl (9, [.ref 1, .ref 7, .ref 13, .ref 19, .int 0, .ref 25, .ref 75, .null, .null, .null, .int 0, .int 0])), k0.1 + 77, k0.2 + 795)) _
  have hgr := grow (cells := ([.inl (7, [.ref (75 + 1), .ref (75 + 2), .int 0, .int 0, .int 0]), .inr (.inl (0, List.replicate 212 0)), .inr (.inl (0, [0, 0, 0]))] : xH)) hn (by decide) w0 (.inl (9, [.ref 1, .ref 7, .ref 13, .ref 19, .int 0, .ref 25, .ref 75, .null, .null, .null, .int 0, .int 0]))
  clear hn w0
  obtain ⟨hn, w0, wM, hfr⟩ := hgr
  have wK' := hfr _ _ (by decide) wK
  clear wK
  have wK := wK'
  clear wK'
  have wB' := hfr _ _ (by decide) wB
  clear wB
  have wB := wB'
  clear wB'
  have wF' := hfr _ _ (by decide) wF
  clear wF
  have wF := wF'
  clear wF'
  have wV' := hfr _ _ (by decide) wV
  clear wV
  have wV := wV'
  clear wV'
  have wH' := hfr _ _ (by decide) wH
  clear wH
  have wH := wH'
  clear wH'
  have wR2 : ∀ i, i < 8 → has ((g17 ++ ([.inl (7, [.ref (75 + 1), .ref (75 + 2), .int 0, .int 0, .int 0]), .inr (.inl (0, List.replicate 212 0)), .inr (.inl (0, [0, 0, 0]))] : xH)).set 0 (.inl (9, [.ref 1, .ref 7, .ref 13, .ref 19, .int 0, .ref 25, .ref 75, .null, .null, .null, .int 0, .int 0]))) (27 + 6 * i) (kC (27 + 6 * i) K0) := fun i hi => hfr _ _ (by omega) (wR i hi)
  clear wR
  have wR := wR2
  clear wR2
  clear hfr
  generalize (g17 ++ ([.inl (7, [.ref (75 + 1), .ref (75 + 2), .int 0, .int 0, .int 0]), .inr (.inl (0, List.replicate 212 0)), .inr (.inl (0, [0, 0, 0]))] : xH)).set 0 (.inl (9, [.ref 1, .ref 7, .ref 13, .ref 19, .int 0, .ref 25, .ref 75, .null, .null, .null, .int 0, .int 0])) = g18 at *
  replace hn : g18.length = 78 := hn
  refine y_go rfl rfl ?_
  refine y_new (n := 78) (fs := xdef 4) (k := 7) rfl rfl (by show g18.length < 1000000; omega) hn rfl rfl ?_
  refine y_go rfl rfl ?_
  refine y_I0e rfl rfl (Nat.le_of_ble_eq_true rfl) (Nat.le_of_ble_eq_true rfl) rfl rfl rfl (s_initC (by omega) hn (by omega) _) (fun zG hzG => ?_)
  refine y_putf rfl (has_at (has_app w0) (i := 0) rfl) (Nat.le_of_ble_eq_true rfl) (by first | exact xf_ref rfl | exact xf_obj rfl) ?_
  show yW S d 60 (86, [.ref 0], [], ((g18 ++ rg 35 zG).set 0 (.inl (9, [.ref 1, .ref 7, .ref 13, .ref 19, .int 0, .ref 25, .ref 75, .ref 78, .null, .null, .int 0, .int 0])), k0.1 + 112, k0.2 + 2863)) _
  have hgr := grow (cells := rg 35 zG) hn (by decide) w0 (.inl (9, [.ref 1, .ref 7, .ref 13, .ref 19, .int 0, .ref 25, .ref 75, .ref 78, .null, .null, .int 0, .int 0]))
  clear hn w0
  obtain ⟨hn, w0, wG, hfr⟩ := hgr
  have wK' := hfr _ _ (by decide) wK
  clear wK
  have wK := wK'
  clear wK'
  have wB' := hfr _ _ (by decide) wB
  clear wB
  have wB := wB'
  clear wB'
  have wF' := hfr _ _ (by decide) wF
  clear wF
  have wF := wF'
  clear wF'
  have wV' := hfr _ _ (by decide) wV
  clear wV
  have wV := wV'
  clear wV'
  have wH' := hfr _ _ (by decide) wH
  clear wH
  have wH := wH'
  clear wH'
  have wR2 : ∀ i, i < 8 → has ((g18 ++ rg 35 zG).set 0 (.inl (9, [.ref 1, .ref 7, .ref 13, .ref 19, .int 0, .ref 25, .ref 75, .ref 78, .null, .null, .int 0, .int 0]))) (27 + 6 * i) (kC (27 + 6 * i) K0) := fun i hi => hfr _ _ (by omega) (wR i hi)
  clear wR
  have wR := wR2
  clear wR2
  have wM' := hfr _ _ (by decide) wM
  clear wM
  have wM := wM'
  clear wM'
  clear hfr
  generalize (g18 ++ rg 35 zG).set 0 (.inl (9, [.ref 1, .ref 7, .ref 13, .ref 19, .int 0, .ref 25, .ref 75, .ref 78, .null, .null, .int 0, .int 0])) = g19 at *
  replace hn : g19.length = 113 := by rw [hn, rg_len]
  refine y_go rfl rfl ?_
  refine y_new (n := 113) (fs := xdef 8) (k := 9) rfl rfl (by show g19.length < 1000000; omega) hn rfl rfl ?_
  refine y_go rfl rfl ?_
  refine y_I0 rfl rfl (Nat.le_of_ble_eq_true rfl) (Nat.le_of_ble_eq_true rfl) rfl rfl rfl (s_initP (by omega) hn (by omega) _) ?_
  refine y_putf rfl (has_at (has_app w0) (i := 0) rfl) (Nat.le_of_ble_eq_true rfl) (by first | exact xf_ref rfl | exact xf_obj rfl) ?_
  show yW S d 60 (97, [.ref 0], [], ((g19 ++ ([.inl (8, [.ref (113 + 1), .int 0, .int 0, .ref (113 + 2), .ref (113 + 3), .ref (113 + 4), .int 0, .ref (113 + 5), .int 0]), .inr (.inl (1, List.replicate 60 0)), .inr (.inr (.inr (5, [none, none, none, none, none, none, none, none, none, none, none, none, none, none, none, none]))), .inr (.inl (0, [0, 0, 0, 0, 0, 0, 0, 0, 0, 0, 0, 0, 0, 0, 0, 0])), .inr (.inl (0, [0, 0, 0, 0, 0, 0, 0, 0, 0, 0, 0, 0, 0, 0, 0, 0])), .inr (.inl (0, [0, 0]))] : xH)).set 0 (.inl (9, [.ref 1, .ref 7, .ref 13, .ref 19, .int 0, .ref 25, .ref 75, .ref 78, .ref 113, .null, .int 0, .int 0])), k0.1 + 118, k0.2 + 2982)) _
  have hgr := grow (cells := ([.inl (8, [.ref (113 + 1), .int 0, .int 0, .ref (113 + 2), .ref (113 + 3), .ref (113 + 4), .int 0, .ref (113 + 5), .int 0]), .inr (.inl (1, List.replicate 60 0)), .inr (.inr (.inr (5, [none, none, none, none, none, none, none, none, none, none, none, none, none, none, none, none]))), .inr (.inl (0, [0, 0, 0, 0, 0, 0, 0, 0, 0, 0, 0, 0, 0, 0, 0, 0])), .inr (.inl (0, [0, 0, 0, 0, 0, 0, 0, 0, 0, 0, 0, 0, 0, 0, 0, 0])), .inr (.inl (0, [0, 0]))] : xH)) hn (by decide) w0 (.inl (9, [.ref 1, .ref 7, .ref 13, .ref 19, .int 0, .ref 25, .ref 75, .ref 78, .ref 113, .null, .int 0, .int 0]))
  clear hn w0
  obtain ⟨hn, w0, wP, hfr⟩ := hgr
  have wK' := hfr _ _ (by decide) wK
  clear wK
  have wK := wK'
  clear wK'
  have wB' := hfr _ _ (by decide) wB
  clear wB
  have wB := wB'
  clear wB'
  have wF' := hfr _ _ (by decide) wF
  clear wF
  have wF := wF'
  clear wF'
  have wV' := hfr _ _ (by decide) wV
  clear wV
  have wV := wV'
  clear wV'
  have wH' := hfr _ _ (by decide) wH
  clear wH
  have wH := wH'
  clear wH'
  have wR2 : ∀ i, i < 8 → has ((g19 ++ ([.inl (8, [.ref (113 + 1), .int 0, .int 0, .ref (113 + 2), .ref (113 + 3), .ref (113 + 4), .int 0, .ref (113 + 5), .int 0]), .inr (.inl (1, List.replicate 60 0)), .inr (.inr (.inr (5, [none, none, none, none, none, none, none, none, none, none, none, none, none, none, none, none]))), .inr (.inl (0, [0, 0, 0, 0, 0, 0, 0, 0, 0, 0, 0, 0, 0, 0, 0, 0])), .inr (.inl (0, [0, 0, 0, 0, 0, 0, 0, 0, 0, 0, 0, 0, 0, 0, 0, 0])), .inr (.inl (0, [0, 0]))] : xH)).set 0 (.inl (9, [.ref 1, .ref 7, .ref 13, .ref 19, .int 0, .ref 25, .ref 75, .ref 78, .ref 113, .null, .int 0, .int 0]))) (27 + 6 * i) (kC (27 + 6 * i) K0) := fun i hi => hfr _ _ (by omega) (wR i hi)
  clear wR
  have wR := wR2
  clear wR2
  have wM' := hfr _ _ (by decide) wM
  clear wM
  have wM := wM'
  clear wM'
  have wG' := hfr _ _ (by decide) wG
  clear wG
  have wG := wG'
  clear wG'
  clear hfr
  generalize (g19 ++ ([.inl (8, [.ref (113 + 1), .int 0, .int 0, .ref (113 + 2), .ref (113 + 3), .ref (113 + 4), .int 0, .ref (113 + 5), .int 0]), .inr (.inl (1, List.replicate 60 0)), .inr (.inr (.inr (5, [none, none, none, none, none, none, none, none, none, none, none, none, none, none, none, none]))), .inr (.inl (0, [0, 0, 0, 0, 0, 0, 0, 0, 0, 0, 0, 0, 0, 0, 0, 0])), .inr (.inl (0, [0, 0, 0, 0, 0, 0, 0, 0, 0, 0, 0, 0, 0, 0, 0, 0])), .inr (.inl (0, [0, 0]))] : xH)).set 0 (.inl (9, [.ref 1, .ref 7, .ref 13, .ref 19, .int 0, .ref 25, .ref 75, .ref 78, .ref 113, .null, .int 0, .int 0])) = g20 at *
  replace hn : g20.length = 119 := hn
  refine y_go rfl rfl ?_
  refine y_new (n := 119) (fs := xdef 1) (k := 4) rfl rfl (by show g20.length < 1000000; omega) hn rfl rfl ?_
  refine y_go rfl rfl ?_
  refine y_I0 rfl rfl (Nat.le_of_ble_eq_true rfl) (Nat.le_of_ble_eq_true rfl) rfl rfl rfl (s_initB (by omega) hn (by omega) _) ?_
  refine y_putf rfl (has_at (has_app w0) (i := 0) rfl) (Nat.le_of_ble_eq_true rfl) (by first | exact xf_ref rfl | exact xf_obj rfl) ?_
  show yW S d 60 (108, [.ref 0], [], ((g20 ++ ([.inl (1, [.ref (119 + 1), .int 0, .int 0, .int 0]), .inr (.inl (2, [0, 0, 0, 0, 0, 0, 0, 0, 0, 0, 0, 0, 0, 0, 0, 0]))] : xH)).set 0 (.inl (9, [.ref 1, .ref 7, .ref 13, .ref 19, .int 0, .ref 25, .ref 75, .ref 78, .ref 113, .ref 119, .int 0, .int 0])), k0.1 + 120, k0.2 + 3002)) _
  have hgr := grow (cells := ([.inl (1, [.ref (119 + 1), .int 0, .int 0, .int 0]), .inr (.inl (2, [0, 0, 0, 0, 0, 0, 0, 0, 0, 0, 0, 0, 0, 0, 0, 0]))] : xH)) hn (by decide) w0 (.inl (9, [.ref 1, .ref 7, .ref 13, .ref 19, .int 0, .ref 25, .ref 75, .ref 78, .ref 113, .ref 119, .int 0, .int 0]))
  clear hn w0
  obtain ⟨hn, w0, wL, hfr⟩ := hgr
  have wK' := hfr _ _ (by decide) wK
  clear wK
  have wK := wK'
  clear wK'
  have wB' := hfr _ _ (by decide) wB
  clear wB
  have wB := wB'
  clear wB'
  have wF' := hfr _ _ (by decide) wF
  clear wF
  have wF := wF'
  clear wF'
  have wV' := hfr _ _ (by decide) wV
  clear wV
  have wV := wV'
  clear wV'
  have wH' := hfr _ _ (by decide) wH
  clear wH
  have wH := wH'
  clear wH'
  have wR2 : ∀ i, i < 8 → has ((g20 ++ ([.inl (1, [.ref (119 + 1), .int 0, .int 0, .int 0]), .inr (.inl (2, [0, 0, 0, 0, 0, 0, 0, 0, 0, 0, 0, 0, 0, 0, 0, 0]))] : xH)).set 0 (.inl (9, [.ref 1, .ref 7, .ref 13, .ref 19, .int 0, .ref 25, .ref 75, .ref 78, .ref 113, .ref 119, .int 0, .int 0]))) (27 + 6 * i) (kC (27 + 6 * i) K0) := fun i hi => hfr _ _ (by omega) (wR i hi)
  clear wR
  have wR := wR2
  clear wR2
  have wM' := hfr _ _ (by decide) wM
  clear wM
  have wM := wM'
  clear wM'
  have wG' := hfr _ _ (by decide) wG
  clear wG
  have wG := wG'
  clear wG'
  have wP' := hfr _ _ (by decide) wP
  clear wP
  have wP := wP'
  clear wP'
  clear hfr
  generalize (g20 ++ ([.inl (1, [.ref (119 + 1), .int 0, .int 0, .int 0]), .inr (.inl (2, [0, 0, 0, 0, 0, 0, 0, 0, 0, 0, 0, 0, 0, 0, 0, 0]))] : xH)).set 0 (.inl (9, [.ref 1, .ref 7, .ref 13, .ref 19, .int 0, .ref 25, .ref 75, .ref 78, .ref 113, .ref 119, .int 0, .int 0])) = g21 at *
  replace hn : g21.length = 121 := hn
  refine y_go rfl rfl ?_
  refine y_go rfl rfl ?_
  refine y_putf rfl (has_at w0 (i := 0) rfl) (Nat.le_of_ble_eq_true rfl) (xf_int rfl) ?_
  show yW S d 60 (113, [.ref 0], [], (g21.set 0 (.inl (9, [.ref 1, .ref 7, .ref 13, .ref 19, .int 0, .ref 25, .ref 75, .ref 78, .ref 113, .ref 119, .int (-1), .int 0])), k0.1 + 120, k0.2 + 3002)) _
  have hgr := set0 hn (by decide) w0 (.inl (9, [.ref 1, .ref 7, .ref 13, .ref 19, .int 0, .ref 25, .ref 75, .ref 78, .ref 113, .ref 119, .int (-1), .int 0]))
  clear hn w0
  obtain ⟨hn, w0, hfr⟩ := hgr
  have wK' := hfr _ _ (by decide) wK
  clear wK
  have wK := wK'
  clear wK'
  have wB' := hfr _ _ (by decide) wB
  clear wB
  have wB := wB'
  clear wB'
  have wF' := hfr _ _ (by decide) wF
  clear wF
  have wF := wF'
  clear wF'
  have wV' := hfr _ _ (by decide) wV
  clear wV
  have wV := wV'
  clear wV'
  have wH' := hfr _ _ (by decide) wH
  clear wH
  have wH := wH'
  clear wH'
  have wR2 : ∀ i, i < 8 → has (g21.set 0 (.inl (9, [.ref 1, .ref 7, .ref 13, .ref 19, .int 0, .ref 25, .ref 75, .ref 78, .ref 113, .ref 119, .int (-1), .int 0]))) (27 + 6 * i) (kC (27 + 6 * i) K0) := fun i hi => hfr _ _ (by omega) (wR i hi)
  clear wR
  have wR := wR2
  clear wR2
  have wM' := hfr _ _ (by decide) wM
  clear wM
  have wM := wM'
  clear wM'
  have wG' := hfr _ _ (by decide) wG
  clear wG
  have wG := wG'
  clear wG'
  have wP' := hfr _ _ (by decide) wP
  clear wP
  have wP := wP'
  clear wP'
  have wL' := hfr _ _ (by decide) wL
  clear wL
  have wL := wL'
  clear wL'
  clear hfr
  generalize g21.set 0 (.inl (9, [.ref 1, .ref 7, .ref 13, .ref 19, .int 0, .ref 25, .ref 75, .ref 78, .ref 113, .ref 119, .int (-1), .int 0])) = g22 at *
  refine y_go rfl rfl ?_
  refine y_go rfl rfl ?_
  refine y_putf rfl (has_at w0 (i := 0) rfl) (Nat.le_of_ble_eq_true rfl) (xf_int rfl) ?_
  show yW S d 60 (118, [.ref 0], [], (g22.set 0 (.inl (9, [.ref 1, .ref 7, .ref 13, .ref 19, .int 0, .ref 25, .ref 75, .ref 78, .ref 113, .ref 119, .int (-1), .int (-1)])), k0.1 + 120, k0.2 + 3002)) _
  have hgr := set0 hn (by decide) w0 (.inl (9, [.ref 1, .ref 7, .ref 13, .ref 19, .int 0, .ref 25, .ref 75, .ref 78, .ref 113, .ref 119, .int (-1), .int (-1)]))
  clear hn w0
  obtain ⟨hn, w0, hfr⟩ := hgr
  have wK' := hfr _ _ (by decide) wK
  clear wK
  have wK := wK'
  clear wK'
  have wB' := hfr _ _ (by decide) wB
  clear wB
  have wB := wB'
  clear wB'
  have wF' := hfr _ _ (by decide) wF
  clear wF
  have wF := wF'
  clear wF'
  have wV' := hfr _ _ (by decide) wV
  clear wV
  have wV := wV'
  clear wV'
  have wH' := hfr _ _ (by decide) wH
  clear wH
  have wH := wH'
  clear wH'
  have wR2 : ∀ i, i < 8 → has (g22.set 0 (.inl (9, [.ref 1, .ref 7, .ref 13, .ref 19, .int 0, .ref 25, .ref 75, .ref 78, .ref 113, .ref 119, .int (-1), .int (-1)]))) (27 + 6 * i) (kC (27 + 6 * i) K0) := fun i hi => hfr _ _ (by omega) (wR i hi)
  clear wR
  have wR := wR2
  clear wR2
  have wM' := hfr _ _ (by decide) wM
  clear wM
  have wM := wM'
  clear wM'
  have wG' := hfr _ _ (by decide) wG
  clear wG
  have wG := wG'
  clear wG'
  have wP' := hfr _ _ (by decide) wP
  clear wP
  have wP := wP'
  clear wP'
  have wL' := hfr _ _ (by decide) wL
  clear wL
  have wL := wL'
  clear wL'
  clear hfr
  generalize g22.set 0 (.inl (9, [.ref 1, .ref 7, .ref 13, .ref 19, .int 0, .ref 25, .ref 75, .ref 78, .ref 113, .ref 119, .int (-1), .int (-1)])) = g23 at *
  have wL1 : has g23 119 [liO 120 0 0] := fun i c hi => by
    match i, hi with
    | 0, hi => exact wL 0 c hi
  have wD : has g23 120 [byC (List.replicate 16 0)] := fun i c hi => by
    match i, hi with
    | 0, hi => exact wL 1 c hi
  refine y_end rfl rfl ⟨(g23, k0.1 + 120, k0.2 + 3002), ⟨⟨K0, K0, _, 120, 0, 0, List.replicate 16 0, ⟨_, zG, ⟨List.replicate 212 0, 0, 0, 0, 0, 0, 0, List.length_replicate, rfl⟩, hzG, ?_⟩, kvp_K0, kvp_K0.1, kvp_K0, kvp_K0, fun i hi => kvp_K0, by decide, by decide, ⟨0, 0, 0, List.replicate 60 0, List.replicate 16 none, List.replicate 16 0, List.replicate 16 0, 0, 0, rfl, List.length_replicate, by decide, fun i hi => absurd hi (Nat.not_lt_zero _), List.length_replicate, List.length_replicate, List.length_replicate, by decide, by decide, by decide, by decide, by decide⟩, ⟨0, rfl, by decide, Or.inl List.length_replicate⟩⟩, by show k0.1 + 120 ≤ _; omega, by show k0.2 + 3002 ≤ _; omega⟩, rfl⟩
  exact ⟨by show g23.length ≤ _; omega, by show g23.length = _; rw [hn]; rfl, rfl, rfl, by decide, w0, wK, wB, wF, wV, wH, wM, wG, wP, wL1, wD, fun i hi => wR i hi⟩
