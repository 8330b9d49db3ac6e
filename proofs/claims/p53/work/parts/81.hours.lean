/-! WHAT ALWAYS HOLDS OF A KILN: hours, a mixture burnt, a wall. -/
theorem coolTo_gt {f : Nat → Int32} (hq : ∃ q : Nat, f 3 = nI q ∧ q ≤ 5) {ts : List Int32} (hl : ts.length = 8) (ht : gtm ts) : ∀ i, i ≤ 8 → gtm (coolTo f ts i)
  | 0, _ => ht
  | i + 1, hi => by
    have ih := coolTo_gt hq hl ht i (by omega)
    simp only [coolTo]
    split
    · exact ih
    · intro j hj
      have hlen : (coolTo f ts i).length = 8 := by rw [coolTo_len]; exact hl
      rw [gd_set (by omega)]
      by_cases e : i = j
      · rw [if_pos e]
        obtain ⟨t, h1, h2, h3⟩ := ih i (by omega)
        obtain ⟨q, h4, h5⟩ := hq
        have hm : (t - 20) * (q + 1) ≤ (t - 20) * 6 := Nat.mul_le_mul_left _ (by omega)
        refine ⟨t - (t - 20) * (q + 1) / 20, ?_, by omega, by omega⟩
        have e2 : (20 : Int32) = nI 20 := rfl
        rw [h1, h4, e2, nI_sub h2, nI_1, nI_mul, nI_div (by omega) (by decide), nI_sub (by omega)]
      · rw [if_neg e]; exact ih j hj
theorem gtm_set {ts : List Int32} (hl : ts.length = 8) (ht : gtm ts) {j : Nat} (hj : j < 8) {t : Nat} (h1 : 20 ≤ t) (h2 : t ≤ 1100) : gtm (ts.set j (nI t)) := by
  intro i hi
  rw [gd_set (by omega)]
  by_cases e : j = i
  · rw [if_pos e]; exact ⟨t, rfl, h1, h2⟩
  · rw [if_neg e]; exact ht i hi
theorem imin_add {t k m : Nat} (ht : t ≤ 1100) (hk : k ≤ 1000) (hm : m ≤ 1100) {x y z : Int32} (hx : x = nI t) (hy : y = nI k) (hz : z = nI m) : imin (x + y) z = nI (min (t + k) m) := by
  subst hx hy hz
  rw [nI_add, imin_nI (by omega) (by omega)]
theorem heatT_gt {j : Nat} (hj : j < 8) {ts : List Int32} (hl : ts.length = 8) (ht : gtm ts) : gtm (heatT j ts) := by
  obtain ⟨t, h1, h2, h3⟩ := ht j hj
  have e1 : imin (gd ts j + 150) 1100 = nI (min (t + 150) 1100) := imin_add (by omega) (by decide) (by decide) h1 rfl rfl
  unfold heatT
  rw [e1]
  have g1 : gtm (ts.set j (nI (min (t + 150) 1100))) := gtm_set hl ht hj (by omega) (by omega)
  split
  · obtain ⟨t2, k1, k2, k3⟩ := g1 (xnx j) (xnx_lt hj)
    have e2 : imin (gd (ts.set j (nI (min (t + 150) 1100))) (xnx j) + 40) 500 = nI (min (t2 + 40) 500) := imin_add (by omega) (by decide) (by decide) k1 rfl rfl
    rw [e2]
    exact gtm_set (by rw [List.length_set]; exact hl) g1 (xnx_lt hj) (by omega) (by omega)
  · exact g1
theorem finS_gs {j : Nat} {ss bs : List Int32} (hl : ss.length = 8) (hj : j < 8) (h : gsb ss bs) : gsb (finS j ss) bs := by
  unfold finS
  split
  · rename_i c
    intro i hi
    obtain ⟨b, h1, h2, h3⟩ := h i hi
    refine ⟨b, h1, h2, ?_⟩
    rw [gd_set (by omega)]
    by_cases e : j = i
    · rw [if_pos e]
      subst e
      rw [c] at h3
      rcases h3 with h3 | h3
      · exact absurd h3.1 (by decide)
      · exact Or.inr ⟨Or.inr rfl, h3.2⟩
    · rw [if_neg e]; exact h3
  · exact h
/-- the numbers besides the fire, the time and the fired bricks are the same -/
def nfo (f g : Nat → Int32) : Prop := f 2 = g 2 ∧ f 3 = g 3 ∧ f 9 = g 9 ∧ f 11 = g 11 ∧ f 13 = g 13 ∧ f 15 = g 15 ∧ f 16 = g 16
theorem gnf_nfo {n : Nat} {f g : Nat → Int32} {bs : List Int32} (h : nfo f g) (hg : gnf n g bs) : gnf n f bs := by
  obtain ⟨e1, e2, e3, e4, e5, e6, e7⟩ := h
  unfold gnf at *
  rw [e1, e2, e3, e4, e5, e6, e7]
  exact hg
theorem finF_nfo (j : Nat) (f : Nat → Int32) (ss bs : List Int32) : nfo (finF j f ss bs) f := by
  unfold finF
  split
  · split <;> exact ⟨rfl, rfl, rfl, rfl, rfl, rfl, rfl⟩
  · split <;> exact ⟨rfl, rfl, rfl, rfl, rfl, rfl, rfl⟩
theorem finF_12 (j : Nat) (f : Nat → Int32) (ss bs : List Int32) : finF j f ss bs 12 = f 12 ∨ finF j f ss bs 12 = f 12 + gd bs j := by
  unfold finF
  split
  · split <;> exact Or.inr rfl
  · split <;> exact Or.inl rfl
/-- the fired bricks grow by at most 60 -/
def fgr (K K2 : kK) (m : Nat) : Prop := ∃ j : Nat, K2.1 12 = K.1 12 + nI j ∧ j ≤ m
theorem GK_hour2 {n : Nat} {f : Nat → Int32} {ss bs ts ps rs : List Int32} (hK : GK n (f, ss, bs, ts, ps, rs)) : GK n (hour2 f ss bs ts ps rs) ∧ fgr (f, ss, bs, ts, ps, rs) (hour2 f ss bs ts ps rs) 60 := by
  have hkv := kv_hour2 hK.1.1
  obtain ⟨⟨⟨l1, l2, l3, l4, l5, hf⟩, hp⟩, hs, ht, hn⟩ := hK
  dsimp only at l1 l2 l3 l4 l5 hf hs ht hn
  have hc : gtm (coolTo f ts 8) := coolTo_gt hn.2.1 l3 ht 8 (Nat.le_refl _)
  unfold hour2 at hkv ⊢
  split
  · rename_i c1
    rw [if_pos c1] at hkv
    exact ⟨⟨⟨hkv, hp⟩, hs, hc, hn⟩, 0, by rw [nI_0, Int32.add_zero], by omega⟩
  · rename_i c1
    rw [if_neg c1] at hkv
    split
    · rename_i c2
      rw [if_pos c2] at hkv
      exact ⟨⟨⟨hkv, hp⟩, hs, hc, hn⟩, 0, by rw [nI_0, Int32.add_zero], by omega⟩
    · rename_i c2
      rw [if_neg c2] at hkv
      rcases hf with hf | ⟨j, hj, hf⟩
      · exact absurd hf c1
      · rw [hf, nI_back (by omega)] at hkv ⊢
        refine ⟨⟨⟨hkv, hp⟩, finS_gs l1 hj hs, hc, gnf_nfo (finF_nfo _ _ _ _) hn⟩, ?_⟩
        obtain ⟨b, h1, h2, -⟩ := hs j hj
        rcases finF_12 j f ss bs with e | e
        · exact ⟨0, by rw [nI_0, Int32.add_zero]; exact e, by omega⟩
        · exact ⟨b, by rw [← h1]; exact e, h2⟩
theorem GK_hour1 {n : Nat} {f : Nat → Int32} {ss bs ts ps rs : List Int32} (hK : GK n (f, ss, bs, ts, ps, rs)) (hq : f 1 = -1 ∨ ¬ f 2 < 10) : GK n (hour1 f ss bs ts ps rs) ∧ fgr (f, ss, bs, ts, ps, rs) (hour1 f ss bs ts ps rs) 60 := by
  unfold hour1
  split
  · exact GK_hour2 hK
  · rename_i c1
    obtain ⟨⟨⟨l1, l2, l3, l4, l5, hf⟩, hp⟩, hs, ht, hn⟩ := hK
    dsimp only at l1 l2 l3 l4 l5 hf hs ht hn
    rcases hf with hf | ⟨j, hj, hf⟩
    · exact absurd hf c1
    rcases hq with hq | hq
    · exact absurd hq c1
    rw [hf, nI_back (by omega)]
    refine GK_hour2 (f := up (up f 2 (f 2 - 10)) 16 (f 16 + 10)) ⟨⟨⟨l1, l2, by rw [heatT_len]; exact l3, l4, l5, Or.inr ⟨j, hj, hf⟩⟩, hp⟩, hs, heatT_gt hj l3 ht, ?_⟩
    obtain ⟨⟨h, h1, h1'⟩, h2, h3, h4, h5⟩ := hn
    have hh : 10 ≤ h := by
      rw [h1] at hq
      exact Nat.le_of_not_lt fun q => hq (nI_lt (a := h) (b := 10) q (by decide))
    refine ⟨⟨h - 10, ?_, by omega⟩, h2, ?_, h4, h5⟩
    · show f 2 - 10 = nI (h - 10)
      rw [h1]; exact nI_sub (a := h) (b := 10) hh
    · show f 15 = f 2 - 10 + (f 16 + 10)
      exact i_s4 h3
theorem GK_hour {n : Nat} {K : kK} (hK : GK n K) : GK n (hourK K) ∧ fgr K (hourK K) 60 := by
  obtain ⟨f, ss, bs, ts, ps, rs⟩ := K
  have hK0 := hK
  obtain ⟨⟨⟨l1, l2, l3, l4, l5, hf⟩, hp⟩, hs, ht, hn⟩ := hK
  dsimp only at l1 l2 l3 l4 l5 hf hs ht hn
  show GK n (hour1 (hour0 f) ss bs ts ps rs) ∧ fgr _ (hour1 (hour0 f) ss bs ts ps rs) 60
  have h0 : nfo (hour0 f) f ∧ hour0 f 12 = f 12 ∧ (hour0 f 1 = -1 ∨ (hour0 f 1 = f 1 ∧ ¬ hour0 f 2 < 10)) := by
    unfold hour0
    split
    · exact ⟨⟨rfl, rfl, rfl, rfl, rfl, rfl, rfl⟩, rfl, Or.inl (by assumption)⟩
    · split
      · exact ⟨⟨rfl, rfl, rfl, rfl, rfl, rfl, rfl⟩, rfl, Or.inl rfl⟩
      · exact ⟨⟨rfl, rfl, rfl, rfl, rfl, rfl, rfl⟩, rfl, Or.inr ⟨rfl, by assumption⟩⟩
  obtain ⟨q1, q2, q3⟩ := h0
  have g := GK_hour1 (f := hour0 f) (ss := ss) (bs := bs) (ts := ts) (ps := ps) (rs := rs) (n := n) ⟨⟨⟨l1, l2, l3, l4, l5, by
    rcases q3 with q | ⟨q, -⟩
    · exact Or.inl q
    · show hour0 f 1 = -1 ∨ ∃ j, j < 8 ∧ hour0 f 1 = nI j
      rw [q]; exact hf⟩, hp⟩, hs, ht, gnf_nfo q1 hn⟩ (by
    rcases q3 with q | ⟨-, q⟩
    · exact Or.inl q
    · exact Or.inr q)
  refine ⟨g.1, ?_⟩
  obtain ⟨j, k1, k2⟩ := g.2
  exact ⟨j, by rw [k1]; show hour0 f 12 + nI j = f 12 + nI j; rw [q2], k2⟩
theorem GK_hours {n : Nat} {K : kK} (hK : GK n K) : ∀ m, GK n (hoursK K m) ∧ fgr K (hoursK K m) (60 * m)
  | 0 => ⟨hK, 0, by rw [nI_0, Int32.add_zero]; rfl, by omega⟩
  | m + 1 => by
    obtain ⟨h1, j, h2, h3⟩ := GK_hours hK m
    obtain ⟨k1, i, k2, k3⟩ := GK_hour h1
    exact ⟨k1, j + i, by show (hourK (hoursK K m)).1 12 = _; rw [k2, h2, i_s8, nI_add], by omega⟩
theorem GK_fired {n : Nat} {K : kK} (hK : GK n K) (m : Nat) : ∃ j : Nat, (hoursK K m).1 12 - K.1 12 = nI j ∧ j ≤ 60 * m := by
  obtain ⟨-, j, h2, h3⟩ := GK_hours hK m
  exact ⟨j, by rw [h2]; exact i_s7 _ _, h3⟩
theorem cm_8 {n : Nat} {K : kK} (hK : GK n K) {a b : Nat} : cmP n 8 K (cmdX 8 a b K) := by
  show cmP n 8 K (passK a K)
  unfold passK
  split
  · rename_i c
    obtain ⟨j, h1, h2⟩ := GK_fired hK a
    exact Or.inr ⟨⟨j, h1, by omega⟩, GK_mono (by omega) (GK_hours hK a).1⟩
  · exact Or.inl ⟨rfI rfl, rfl⟩
theorem cm_7 {n : Nat} {K : kK} (hK : GK n K) {a b : Nat} : cmP n 7 K (cmdX 7 a b K) := by
  show cmP n 7 K (feedK a K)
  have hp0 := hK.1.2
  obtain ⟨z1, z2, z3, z4, z5, z6, z7, z8⟩ := kp_eq hp0
  have eK : K = (K.1, K.2.1, K.2.2.1, K.2.2.2.1, [nI (pN K 0), nI (pN K 1), nI (pN K 2)], [nI (rN K 0), nI (rN K 1), nI (rN K 2)]) := by
    rw [← z1, ← z2]
  unfold feedK
  by_cases hr : 1 ≤ a ∧ a ≤ 200
  · cases hb : bst K a with
    | none =>
      rw [feedX_none hr hb]
      exact Or.inl ⟨rfI rfl, eK.symm⟩
    | some m =>
      obtain ⟨w, c, o⟩ := m
      rw [feedX_some hr hb]
      obtain ⟨b1, b2, b3, b4, b5, b6, -⟩ := bst_facts hp0 hb
      unfold burnX
      split
      · exact Or.inl ⟨rfI rfl, eK.symm⟩
      · rename_i c1
        obtain ⟨⟨⟨l1, l2, l3, l4, l5, hf⟩, hp⟩, hs, ht, ⟨h, h1, h1'⟩, h2, h3, h4, h5⟩ := hK
        have hh : h + mheat w c o ≤ 999 := by
          rw [h1, nI_add] at c1
          exact Nat.le_of_not_lt fun q => c1 (nI_lt (a := 999) (b := h + mheat w c o) q (by omega))
        refine Or.inr ⟨⟨_, rfl, by omega⟩, ⟨⟨l1, l2, l3, rfl, rfl, hf⟩, pN K 0 - w, pN K 1 - c, pN K 2 - o, rN K 0, rN K 1, rN K 2, by omega, by omega, by omega, z6, z7, z8, ?_, rfl⟩, hs, ht, ?_⟩
        · show [nI (pN K 0) - nI w, nI (pN K 1) - nI c, nI (pN K 2) - nI o] = _
          rw [nI_sub b1, nI_sub b2, nI_sub b3]
        · refine gnf_mono (n := n) (by omega) ⟨⟨h + mheat w c o, ?_, hh⟩, h2, ?_, h4, h5⟩
          · show K.1 2 + nI (mheat w c o) = _
            rw [h1, nI_add]
          · show K.1 15 + nI (mheat w c o) = K.1 2 + nI (mheat w c o) + K.1 16
            exact i_s3 h3
  · have e : feedX a K.1 K.2.1 K.2.2.1 K.2.2.2.1 (pN K 0) (pN K 1) (pN K 2) (rN K 0) (rN K 1) (rN K 2) = (-2, (K.1, K.2.1, K.2.2.1, K.2.2.2.1, [nI (pN K 0), nI (pN K 1), nI (pN K 2)], [nI (rN K 0), nI (rN K 1), nI (rN K 2)])) := if_neg hr
    rw [e]
    exact Or.inl ⟨rfI rfl, eK.symm⟩
/-! walls -/
theorem brk_b : ∀ w, w < 19 → ∀ i, i < 65 → ¬ brk (gd (xJ w) i) < 0 ∧ ¬ (100 : Int32) < brk (gd (xJ w) i) := by decide +kernel
theorem brk_n {w i : Nat} (hw : w < 19) (hi : i < 65) : ∃ j : Nat, brk (gd (xJ w) i) = nI j ∧ j ≤ 100 := by
  obtain ⟨h1, h2⟩ := brk_b w hw i hi
  obtain ⟨j, k1, k2⟩ := nI_of h1
  exact ⟨j, k2, Nat.le_of_not_lt fun q => h2 (by rw [k2]; exact nI_lt (a := 100) (b := j) q k1)⟩
/-- a small number, or none -/
def fwv (k : Nat) (x : Int32) : Prop := ∃ v : Nat, x = nI v ∧ (v ≤ k ∨ v = 1000000)
theorem imin_fw {k l : Nat} (hkl : k ≤ l) (hl : l ≤ 100000) {x y : Int32} (h1 : fwv l x) (h2 : fwv k y) : fwv l (imin x y) := by
  obtain ⟨v, rfl, h1⟩ := h1
  obtain ⟨w, rfl, h2⟩ := h2
  exact ⟨min v w, imin_nI (by omega) (by omega), by omega⟩
theorem lsTo_fw {w : Nat} (hw : w < 19) {F : Nat → Int32} {k : Nat} (hk : k ≤ 10000) (hF : ∀ i, i < 65 → fwv k (F i)) {u : Nat} (hu : u < 65) : ∀ i, i ≤ 65 → fwv (k + 100) (lsTo (xJ w) F u i)
  | 0, _ => ⟨1000000, rfl, Or.inr rfl⟩
  | i + 1, hi => by
    have ih := lsTo_fw hw hk hF hu i (by omega)
    simp only [lsTo]
    split
    · rename_i c
      split
      · refine imin_fw (k := k + 100) (Nat.le_refl _) (by omega) ih ?_
        obtain ⟨v, h1, h2⟩ := hF i (by omega)
        obtain ⟨j, k1, k2⟩ := brk_n hw hu
        rw [h1] at c
        rcases h2 with h2 | h2
        · exact ⟨v + j, by rw [h1, k1, nI_add], Or.inl (by omega)⟩
        · subst h2; exact absurd c (by decide)
      · exact ih
    · exact ih
theorem fwy_fw {w n : Nat} (hw : w < 19) (hn : n ≤ 65) : ∀ k, k ≤ 20 → ∀ i, i < 65 → fwv (100 * (k + 1)) (fwy (xJ w) n k i)
  | 0, _, i, hi => by
    obtain ⟨j, k1, k2⟩ := brk_n hw hi
    exact ⟨j, k1, Or.inl (by omega)⟩
  | k + 1, hk, i, hi => by
    have h := lsTo_fw hw (k := 100 * (k + 1)) (by omega) (fwy_fw hw hn k (by omega)) hi n hn
    rw [show 100 * (k + 1) + 100 = 100 * (k + 1 + 1) by omega] at h
    exact h
theorem minL_fw {X : Nat → Int32} {k : Nat} (hk : k ≤ 10000) {m : Nat} (hX : ∀ i, i < m → fwv k (X i)) : ∀ i, i ≤ m → fwv k (minL X i)
  | 0, _ => ⟨1000000, rfl, Or.inr rfl⟩
  | i + 1, hi => imin_fw (Nat.le_refl _) (by omega) (minL_fw hk hX i (by omega)) (hX i (by omega))
theorem lbk_n {w n k : Nat} (hw : w < 19) (hn : n ≤ 65) (hk : k ≤ 20) : lbk (xJ w) n k = -5 ∨ ∃ v : Nat, lbk (xJ w) n k = nI v ∧ v ≤ 100 * (k + 1) := by
  obtain ⟨v, h1, h2⟩ := minL_fw (k := 100 * (k + 1)) (by omega) (fun i hi => fwy_fw hw hn k hk i (by omega)) n hn
  unfold lbk
  split
  · exact Or.inl rfl
  · rename_i c
    rcases h2 with h2 | h2
    · exact Or.inr ⟨v, h1, h2⟩
    · exact absurd (by rw [h1, h2]; rfl) c
theorem cm_9 {n : Nat} {K : kK} (hK : GK n K) {a b : Nat} : cmP n 9 K (cmdX 9 a b K) := by
  show cmP n 9 K (wallX xJ xCn a b K)
  unfold wallX
  split
  · split
    · rename_i c1 c2
      have hcn := (xJ_ok.2 a (by omega)).2.2
      rcases lbk_n (w := a) (n := xCn a) (k := b - 1) (by omega) hcn (by omega) with e | ⟨v, e, hv⟩
      · rw [if_pos e]; exact Or.inl ⟨rfI rfl, rfl⟩
      · rw [e]
        rw [if_neg (fun q => by
          have h9 := nI_pos (n := v) (by omega)
          rw [q] at h9
          exact h9 (by decide))]
        split
        · exact Or.inl ⟨rfI rfl, rfl⟩
        · rename_i c3
          obtain ⟨f, ss, bs, ts, ps, rs⟩ := K
          obtain ⟨⟨⟨l1, l2, l3, l4, l5, hf⟩, hp⟩, hs, ht, h1, h2, h3, h4, s, h5, h6⟩ := hK
          dsimp only at l1 l2 l3 l4 l5 hf hs ht h1 h2 h3 h4 h5 c3
          have hvs : v ≤ s := by
            rw [h5] at c3
            exact Nat.le_of_not_lt fun q => c3 (nI_lt q (by omega))
          refine Or.inr ⟨⟨v, rfl, by omega⟩, ⟨⟨l1, l2, l3, l4, l5, hf⟩, hp⟩, hs, ht, h1, h2, h3, ?_, s - v, ?_, by omega⟩
          · show sumTo (f 9 - nI v) bs 8 = f 11 - (f 13 + nI v)
            rw [show f 9 - nI v = f 9 + -(nI v) by grind, sumTo_x, h4]
            grind
          · show f 9 - nI v = nI (s - v)
            rw [h5, nI_sub hvs]
    · exact Or.inl ⟨rfI rfl, rfl⟩
  · exact Or.inl ⟨rfI rfl, rfl⟩
theorem cm_all {n c : Nat} (hc : c < 10) {K : kK} (hK : GK n K) (hn : n ≤ 1000000) {a b : Nat} (ha : a ≤ 1000) (hb : b ≤ 1000) : cmP n c K (cmdX c a b K) := by
  match c, hc with
  | 0, _ => exact cm_0 hK ha hb
  | 1, _ => exact cm_1 hK hn ha
  | 2, _ => exact cm_2 hK ha
  | 3, _ => exact cm_3 hK
  | 4, _ => exact cm_4 hK ha
  | 5, _ => exact cm_5 hK hb
  | 6, _ => exact cm_6 hK hb
  | 7, _ => exact cm_7 hK
  | 8, _ => exact cm_8 hK
  | 9, _ => exact cm_9 hK
theorem cm_GK {n c : Nat} (hc : c < 10) {K : kK} (hK : GK n K) (hn : n ≤ 1000000) {a b : Nat} (ha : a ≤ 1000) (hb : b ≤ 1000) : GK (n + 1) (cmdX c a b K).2 := by
  rcases cm_all hc hK hn ha hb with ⟨-, h⟩ | ⟨-, h⟩
  · rw [h]; exact GK_mono (by omega) hK
  · exact h
