/-! THE LAW: what is asked of the chambers. -/
def sgI (K : kK) : Nat → Int32
  | 0 => 7
  | i + 1 => sgI K i + (2 + (if gd K.2.2.1 i = 0 then 0 else if 9 < gd K.2.2.1 i then 2 else 1) + (if 999 < gd K.2.2.2.1 i then 4 else if 99 < gd K.2.2.2.1 i then 3 else 2) + (if nv (-1000) (fireV K) = nI i then 1 else 0))
theorem fire_eq {K : kK} (hK : kv K) {i : Nat} (hi : i < 8) : nv (-1000) (fireV K) = nI i ↔ nI i = K.1 1 := by
  unfold fireV
  by_cases c : K.1 1 = -1
  · rw [if_pos c, c]
    have h1 : ∀ j, j < 8 → (nv (-1000) (-5) = nI j ↔ nI j = -1) := by decide +kernel
    exact h1 i hi
  · rw [if_neg c]
    rcases hK.2.2.2.2.2 with h | ⟨j, hj, h⟩
    · exact absurd h c
    · rw [h, nv_nI (by omega)]
      exact ⟨fun q => q.symm, fun q => q.symm⟩
theorem lit_eq {K : kK} (hK : kv K) : nv (-1000) (fireV K) = -1000 ↔ K.1 1 = -1 := by
  unfold fireV
  by_cases c : K.1 1 = -1
  · rw [if_pos c]; exact ⟨fun _ => c, fun _ => by decide⟩
  · rw [if_neg c]
    rcases hK.2.2.2.2.2 with h | ⟨j, hj, h⟩
    · exact absurd h c
    · rw [h, nv_nI (by omega)]
      have h1 : ∀ j, j < 8 → (nI j = -1000 ↔ nI j = -1) := by decide +kernel
      exact h1 j hj
theorem sg_step {n : Nat} {K : kK} (hK : GK n K) {i : Nat} (hi : i < 8) : 2 + (if gd K.2.2.1 i = 0 then 0 else if 9 < gd K.2.2.1 i then 2 else 1) + (if 999 < gd K.2.2.2.1 i then 4 else if 99 < gd K.2.2.2.1 i then 3 else 2) + (if nv (-1000) (fireV K) = nI i then 1 else 0) = nI (wcl (gd K.2.1 i).toNatClampNeg (gd K.2.2.1 i).toNatClampNeg (gd K.2.2.2.1 i).toNatClampNeg (decide (nI i = K.1 1))) := by
  obtain ⟨b, h1, h2, h3⟩ := hK.2.1 i hi
  obtain ⟨t, k1, k2, k3⟩ := hK.2.2.1 i hi
  have hA : (if gd K.2.2.1 i = 0 then 0 else if 9 < gd K.2.2.1 i then 2 else 1) = nI (if (gd K.2.1 i).toNatClampNeg = 101 then 0 else dg b) := by
    rw [h1]
    rcases h3 with ⟨h3, rfl⟩ | ⟨h3, hb⟩
    · rw [h3, if_pos nI_0, if_pos (by decide)]; rfl
    · have hc : ¬ (gd K.2.1 i).toNatClampNeg = 101 := by rcases h3 with h3 | h3 <;> rw [h3] <;> decide
      rw [if_neg (nI_ne0 hb (by omega)), if_neg hc]
      unfold dg
      by_cases q : b < 10
      · rw [if_neg (show ¬ (9 : Int32) < nI b from nI_nlt (a := 9) (b := b) (by omega) (by decide)), if_pos q]; rfl
      · rw [if_pos (show (9 : Int32) < nI b from nI_lt (a := 9) (b := b) (by omega) (by omega)), if_neg q, if_pos (by omega)]; rfl
  have hB : (if 999 < gd K.2.2.2.1 i then 4 else if 99 < gd K.2.2.2.1 i then 3 else 2) = nI (dg t) := by
    rw [k1]
    unfold dg
    by_cases q : t < 1000
    · rw [if_neg (show ¬ (999 : Int32) < nI t from nI_nlt (a := 999) (b := t) (by omega) (by decide))]
      by_cases q2 : t < 100
      · rw [if_neg (show ¬ (99 : Int32) < nI t from nI_nlt (a := 99) (b := t) (by omega) (by decide)), if_neg (by omega), if_pos q2]; rfl
      · rw [if_pos (show (99 : Int32) < nI t from nI_lt (a := 99) (b := t) (by omega) (by omega)), if_neg (by omega), if_neg q2, if_pos q]; rfl
    · rw [if_pos (show (999 : Int32) < nI t from nI_lt (a := 999) (b := t) (by omega) (by omega)), if_neg (by omega), if_neg (by omega), if_neg q]; rfl
  have hC : (if nv (-1000) (fireV K) = nI i then 1 else 0) = nI (if decide (nI i = K.1 1) = true then 1 else 0) := by
    by_cases q : nI i = K.1 1
    · rw [if_pos ((fire_eq hK.1.1 hi).mpr q), if_pos (decide_eq_true q)]; rfl
    · rw [if_neg (fun z => q ((fire_eq hK.1.1 hi).mp z)), if_neg (by simpa using q)]; rfl
  rw [hA, hB, hC, h1, k1, nI_back (by omega), nI_back (by omega)]
  unfold wcl
  rw [show (2 : Int32) = nI 2 from rfl, nI_add, nI_add, nI_add]
theorem rgl_s {c b t : Nat → Nat} {x : Nat → Bool} {i : Nat} : rgl_ c b t x (i + 1) = rgl_ c b t x i + (if i = 0 then 0 else 1) + wcl (c i) (b i) (t i) (x i) := rfl
theorem sg_eq {n : Nat} {K : kK} (hK : GK n K) : sgI K 8 = nI (sgn K) := by
  have key : ∀ i, i < 8 → sgI K (i + 1) = nI (rgl_ (fun j => (gd K.2.1 j).toNatClampNeg) (fun j => (gd K.2.2.1 j).toNatClampNeg) (fun j => (gd K.2.2.2.1 j).toNatClampNeg) (fun j => decide (nI j = K.1 1)) (i + 1) + (7 - i)) := by
    intro i
    induction i with
    | zero =>
      intro hi
      rw [rgl_s, if_pos rfl]
      simp only [sgI, rgl_]
      rw [sg_step hK hi, show (7 : Int32) = nI 7 from rfl, nI_add]
      congr 1
      omega
    | succ i ih =>
      intro hi
      rw [sgI, ih (by omega), sg_step hK hi, nI_add]
      rw [rgl_s (i := i + 1), if_neg (Nat.succ_ne_zero i)]
      congr 1
      omega
  have h := key 7 (by decide)
  exact h
theorem cool_eq {K : kK} (j : Nat) : (if nv (-1000) (tillCool j 101 0 K).1 = 0 then (1 : Int32) else 0) = (if 60 < gd K.2.2.2.1 j then 0 else 1) := by
  rcases tillCool_at j 101 0 K with ⟨h1, h2⟩ | ⟨m, h1, h2, h3, h4⟩
  · rw [h1, if_pos (h2 (by decide)), if_neg (by decide)]
  · rw [h2, nv_nI (by omega), Nat.zero_add]
    cases m with
    | zero => rw [if_pos nI_0, if_neg (show ¬ (60 : Int32) < gd K.2.2.2.1 j from h3)]
    | succ m => rw [if_neg (nI_ne0 (by omega) (by omega)), if_pos (h4 (by omega))]
theorem cnt8 {ss bs : List Int32} (h : gsb ss bs) : ∀ i, i ≤ 8 → cntTo ss 101 i + cntTo ss 103 i + cntTo ss 102 i = nI i
  | 0, _ => rfl
  | i + 1, hi => by
    have ih := cnt8 h i (by omega)
    obtain ⟨b, -, -, hb⟩ := h i (by omega)
    simp only [cntTo]
    rw [← nI_1, ← ih]
    rcases hb with ⟨hb, -⟩ | ⟨hb | hb, -⟩
    · rw [hb, if_pos rfl, if_neg (by decide), if_neg (by decide)]; grind
    · rw [hb, if_neg (by decide), if_pos rfl, if_neg (by decide)]; grind
    · rw [hb, if_neg (by decide), if_neg (by decide), if_pos rfl]; grind
theorem em_eq {ss bs : List Int32} (h : gsb ss bs) {i : Nat} (hi : i < 8) : (if gd ss i = 101 then (1 : Int32) else 0) = (if gd bs i = 0 then 1 else 0) := by
  obtain ⟨b, h1, h2, hb⟩ := h i hi
  rw [h1]
  rcases hb with ⟨hb, rfl⟩ | ⟨hb, h0⟩
  · rw [hb, if_pos rfl, if_pos nI_0]
  · rw [if_neg (nI_ne0 h0 (by omega))]
    rcases hb with hb | hb <;> rw [hb, if_neg (by decide)]
theorem l_ch1 {S : List Int32} {d : Nat} (hd : 14 ≤ d) {n : Nat} {f sv : Int32} {K V : kK} {H : List kK} {T : List Int32} (hG : GK n K) {Q : xR → Prop} (k : ∀ (s : xS) (x6 x7 x8 x9 : Value), LW (n + 16) f sv K V H T s → yW S d 148 (267, [.ref 0, .int (sumTo (K.1 9) K.2.2.1 8), .int (sumTo 0 K.2.2.2.1 8), .int (sgI K 8), .int 1, .int (nI 8), x6, x7, x8, x9], [], s) Q) : ∀ (i0 i : Nat), i + i0 = 8 → ∀ (s : xS) (x6 x7 x8 x9 : Value), LW (n + 2 * i) f sv K V H T s → yW S d 148 (66, [.ref 0, .int (sumTo (K.1 9) K.2.2.1 i), .int (sumTo 0 K.2.2.2.1 i), .int (sgI K i), .int 1, .int (nI i), x6, x7, x8, x9], [], s) Q := by
  intro i0
  induction i0 with
  | zero =>
    intro i hi s x6 x7 x8 x9 hW
    obtain rfl : i = 8 := by omega
    refine y_go rfl rfl ?_
    refine y_if_eq rfl (fun c => absurd c (by decide)) (fun _ => ?_)
    refine y_go rfl rfl ?_
    refine y_go rfl rfl ?_
    refine y_ic_ge rfl (fun _ => ?_) (fun c => absurd c (nI_nlt (a := 8) (b := 8) (Nat.le_refl _) (by decide)))
    exact k s x6 x7 x8 x9 hW
  | succ i0 ih =>
    intro i hi s x6 x7 x8 x9 hW
    have hlt : i < 8 := by omega
    obtain ⟨b, b1, b2, -⟩ := hG.2.1 i hlt
    obtain ⟨t, t1, t2, t3⟩ := hG.2.2.1 i hlt
    refine y_go rfl rfl ?_
    refine y_if_eq rfl (fun c => absurd c (by decide)) (fun _ => ?_)
    refine y_go rfl rfl ?_
    refine y_go rfl rfl ?_
    refine y_ic_ge rfl (fun c => absurd (nI_lt (a := i) (b := 8) hlt (by decide)) c) (fun _ => ?_)
    refine y_go rfl rfl ?_
    refine y_go rfl rfl ?_
    refine y_V1 rfl (Nat.le_of_ble_eq_true rfl) (Nat.le_of_ble_eq_true rfl) rfl rfl (LW_rcv hW) (t_bricks (by omega) hW i (by omega)) ?_
    refine y_go (g' := (86, [.ref 0, .int (sumTo (K.1 9) K.2.2.1 i), .int (sumTo 0 K.2.2.2.1 i), .int (sgI K i), .int 1, .int (nI i), .int (gd K.2.2.1 i), x7, x8, x9], _, _)) rfl rfl ?_
    refine y_go rfl rfl ?_
    refine y_go rfl rfl ?_
    refine y_V1 rfl (Nat.le_of_ble_eq_true rfl) (Nat.le_of_ble_eq_true rfl) rfl rfl (LW_rcv hW) (t_state (by omega) hW i (by omega)) ?_
    refine y_go (g' := (94, [.ref 0, .int (sumTo (K.1 9) K.2.2.1 i), .int (sumTo 0 K.2.2.2.1 i), .int (sgI K i), .int 1, .int (nI i), .int (gd K.2.2.1 i), .int (gd K.2.1 i), x8, x9], _, _)) rfl rfl ?_
    refine y_go rfl rfl ?_
    refine y_go rfl rfl ?_
    refine y_V1 rfl (Nat.le_of_ble_eq_true rfl) (Nat.le_of_ble_eq_true rfl) rfl rfl (LW_rcv hW) (t_temperature (by omega) hW i (by omega)) ?_
    refine y_go (g' := (102, [.ref 0, .int (sumTo (K.1 9) K.2.2.1 i), .int (sumTo 0 K.2.2.2.1 i), .int (sgI K i), .int 1, .int (nI i), .int (gd K.2.2.1 i), .int (gd K.2.1 i), .int (gd K.2.2.2.1 i), x9], _, _)) rfl rfl ?_
    refine y_go rfl rfl ?_
    refine y_go rfl rfl ?_
    refine y_go rfl rfl ?_
    refine y_go (g' := (107, [.ref 0, .int ((sumTo (K.1 9) K.2.2.1 i) + (gd K.2.2.1 i)), .int (sumTo 0 K.2.2.2.1 i), .int (sgI K i), .int 1, .int (nI i), .int (gd K.2.2.1 i), .int (gd K.2.1 i), .int (gd K.2.2.2.1 i), x9], _, _)) rfl rfl ?_
    refine y_go rfl rfl ?_
    refine y_go rfl rfl ?_
    refine y_go rfl rfl ?_
    refine y_go (g' := (112, [.ref 0, .int ((sumTo (K.1 9) K.2.2.1 i) + (gd K.2.2.1 i)), .int ((sumTo 0 K.2.2.2.1 i) + (gd K.2.2.2.1 i)), .int (sgI K i), .int 1, .int (nI i), .int (gd K.2.2.1 i), .int (gd K.2.1 i), .int (gd K.2.2.2.1 i), x9], _, _)) rfl rfl ?_
    refine y_go rfl rfl ?_
    refine y_go rfl rfl ?_
    refine y_go rfl rfl ?_
    suffices k1 : yW S d 148 (135, [.ref 0, .int ((sumTo (K.1 9) K.2.2.1 i) + (gd K.2.2.1 i)), .int ((sumTo 0 K.2.2.2.1 i) + (gd K.2.2.2.1 i)), .int (sgI K i), .int 1, .int (nI i), .int (gd K.2.2.1 i), .int (gd K.2.1 i), .int (gd K.2.2.2.1 i), x9], [.int (if gd K.2.2.1 i = 0 then 0 else if 9 < gd K.2.2.1 i then 2 else 1), .int 2, .int (sgI K i)], s) Q by
      refine y_if_ne rfl (fun c116 => ?_) (fun c116 => ?_)
      · refine y_go rfl rfl ?_
        refine y_go rfl rfl ?_
        refine y_ic_le rfl (fun c127 => ?_) (fun c127 => ?_)
        · refine y_go rfl rfl ?_
          rw [show ((if gd K.2.2.1 i = 0 then 0 else if 9 < gd K.2.2.1 i then 2 else 1) : Int32) = 1 by rw [if_neg c116, if_neg c127]] at k1
          exact k1
        · refine y_go rfl rfl ?_
          refine y_go rfl rfl ?_
          rw [show ((if gd K.2.2.1 i = 0 then 0 else if 9 < gd K.2.2.1 i then 2 else 1) : Int32) = 2 by rw [if_neg c116, if_pos c127]] at k1
          exact k1
      · refine y_go rfl rfl ?_
        refine y_go rfl rfl ?_
        rw [show ((if gd K.2.2.1 i = 0 then 0 else if 9 < gd K.2.2.1 i then 2 else 1) : Int32) = 0 by rw [if_pos c116]] at k1
        exact k1
    refine y_go rfl rfl ?_
    refine y_go rfl rfl ?_
    refine y_go rfl rfl ?_
    suffices k2 : yW S d 148 (160, [.ref 0, .int ((sumTo (K.1 9) K.2.2.1 i) + (gd K.2.2.1 i)), .int ((sumTo 0 K.2.2.2.1 i) + (gd K.2.2.2.1 i)), .int (sgI K i), .int 1, .int (nI i), .int (gd K.2.2.1 i), .int (gd K.2.1 i), .int (gd K.2.2.2.1 i), x9], [.int (if 999 < gd K.2.2.2.1 i then 4 else if 99 < gd K.2.2.2.1 i then 3 else 2), .int (2 + (if gd K.2.2.1 i = 0 then 0 else if 9 < gd K.2.2.1 i then 2 else 1)), .int (sgI K i)], s) Q by
      refine y_ic_le rfl (fun c141 => ?_) (fun c141 => ?_)
      · refine y_go rfl rfl ?_
        refine y_go rfl rfl ?_
        refine y_ic_le rfl (fun c152 => ?_) (fun c152 => ?_)
        · refine y_go rfl rfl ?_
          rw [show ((if 999 < gd K.2.2.2.1 i then 4 else if 99 < gd K.2.2.2.1 i then 3 else 2) : Int32) = 2 by rw [if_neg c141, if_neg c152]] at k2
          exact k2
        · refine y_go rfl rfl ?_
          refine y_go rfl rfl ?_
          rw [show ((if 999 < gd K.2.2.2.1 i then 4 else if 99 < gd K.2.2.2.1 i then 3 else 2) : Int32) = 3 by rw [if_neg c141, if_pos c152]] at k2
          exact k2
      · refine y_go rfl rfl ?_
        refine y_go rfl rfl ?_
        rw [show ((if 999 < gd K.2.2.2.1 i then 4 else if 99 < gd K.2.2.2.1 i then 3 else 2) : Int32) = 4 by rw [if_pos c141]] at k2
        exact k2
    refine y_go rfl rfl ?_
    refine y_go rfl rfl ?_
    refine y_S1e rfl rfl (Nat.le_of_ble_eq_true rfl) (Nat.le_of_ble_eq_true rfl) rfl rfl (o_fire (by omega) hW) (fun s3 h3 => ?_)
    refine y_go rfl rfl ?_
    suffices k4 : yW S d 148 (175, [.ref 0, .int ((sumTo (K.1 9) K.2.2.1 i) + (gd K.2.2.1 i)), .int ((sumTo 0 K.2.2.2.1 i) + (gd K.2.2.2.1 i)), .int (sgI K i), .int 1, .int (nI i), .int (gd K.2.2.1 i), .int (gd K.2.1 i), .int (gd K.2.2.2.1 i), x9], [.int (if nv (-1000) (fireV K) = nI i then 1 else 0), .int ((2 + (if gd K.2.2.1 i = 0 then 0 else if 9 < gd K.2.2.1 i then 2 else 1)) + (if 999 < gd K.2.2.2.1 i then 4 else if 99 < gd K.2.2.2.1 i then 3 else 2)), .int (sgI K i)], s3) Q by
      refine y_ic_ne rfl (fun c167 => ?_) (fun c167 => ?_)
      · refine y_go rfl rfl ?_
        rw [show ((if nv (-1000) (fireV K) = nI i then 1 else 0) : Int32) = 0 by rw [if_neg c167]] at k4
        exact k4
      · refine y_go rfl rfl ?_
        refine y_go rfl rfl ?_
        rw [show ((if nv (-1000) (fireV K) = nI i then 1 else 0) : Int32) = 1 by rw [if_pos c167]] at k4
        exact k4
    refine y_go rfl rfl ?_
    refine y_go rfl rfl ?_
    refine y_go (g' := (178, [.ref 0, .int ((sumTo (K.1 9) K.2.2.1 i) + (gd K.2.2.1 i)), .int ((sumTo 0 K.2.2.2.1 i) + (gd K.2.2.2.1 i)), .int ((sgI K i) + (((2 + (if gd K.2.2.1 i = 0 then 0 else if 9 < gd K.2.2.1 i then 2 else 1)) + (if 999 < gd K.2.2.2.1 i then 4 else if 99 < gd K.2.2.2.1 i then 3 else 2)) + (if nv (-1000) (fireV K) = nI i then 1 else 0))), .int 1, .int (nI i), .int (gd K.2.2.1 i), .int (gd K.2.1 i), .int (gd K.2.2.2.1 i), x9], _, _)) rfl rfl ?_
    refine y_go rfl rfl ?_
    refine y_go rfl rfl ?_
    suffices k5 : yW S d 148 (190, [.ref 0, .int ((sumTo (K.1 9) K.2.2.1 i) + (gd K.2.2.1 i)), .int ((sumTo 0 K.2.2.2.1 i) + (gd K.2.2.2.1 i)), .int ((sgI K i) + (((2 + (if gd K.2.2.1 i = 0 then 0 else if 9 < gd K.2.2.1 i then 2 else 1)) + (if 999 < gd K.2.2.2.1 i then 4 else if 99 < gd K.2.2.2.1 i then 3 else 2)) + (if nv (-1000) (fireV K) = nI i then 1 else 0))), .int 1, .int (nI i), .int (gd K.2.2.1 i), .int (gd K.2.1 i), .int (gd K.2.2.2.1 i), x9], [.int (if gd K.2.1 i = 101 then 1 else 0)], s3) Q by
      refine y_ic_ne rfl (fun c182 => ?_) (fun c182 => ?_)
      · refine y_go rfl rfl ?_
        rw [show ((if gd K.2.1 i = 101 then 1 else 0) : Int32) = 0 by rw [if_neg c182]] at k5
        exact k5
      · refine y_go rfl rfl ?_
        refine y_go rfl rfl ?_
        rw [show ((if gd K.2.1 i = 101 then 1 else 0) : Int32) = 1 by rw [if_pos c182]] at k5
        exact k5
    refine y_go rfl rfl ?_
    suffices k6 : yW S d 148 (200, [.ref 0, .int ((sumTo (K.1 9) K.2.2.1 i) + (gd K.2.2.1 i)), .int ((sumTo 0 K.2.2.2.1 i) + (gd K.2.2.2.1 i)), .int ((sgI K i) + (((2 + (if gd K.2.2.1 i = 0 then 0 else if 9 < gd K.2.2.1 i then 2 else 1)) + (if 999 < gd K.2.2.2.1 i then 4 else if 99 < gd K.2.2.2.1 i then 3 else 2)) + (if nv (-1000) (fireV K) = nI i then 1 else 0))), .int 1, .int (nI i), .int (gd K.2.2.1 i), .int (gd K.2.1 i), .int (gd K.2.2.2.1 i), x9], [.int (if gd K.2.2.1 i = 0 then 1 else 0), .int (if gd K.2.1 i = 101 then 1 else 0)], s3) Q by
      refine y_if_ne rfl (fun c192 => ?_) (fun c192 => ?_)
      · refine y_go rfl rfl ?_
        rw [show ((if gd K.2.2.1 i = 0 then 1 else 0) : Int32) = 0 by rw [if_neg c192]] at k6
        exact k6
      · refine y_go rfl rfl ?_
        refine y_go rfl rfl ?_
        rw [show ((if gd K.2.2.1 i = 0 then 1 else 0) : Int32) = 1 by rw [if_pos c192]] at k6
        exact k6
    refine y_ic_ne rfl (fun c => absurd (em_eq hG.2.1 hlt) c) (fun _ => ?_)
    refine y_go rfl rfl ?_
    refine y_go rfl rfl ?_
    refine y_ic_gt rfl (fun c => absurd c ((by rw [b1]; exact nI_nlt (a := 60) (b := b) (by omega) (by decide)))) (fun _ => ?_)
    refine y_go rfl rfl ?_
    refine y_go rfl rfl ?_
    refine y_ic_lt rfl (fun c => absurd c ((by rw [t1]; exact nI_nlt (a := t) (b := 20) (by omega) (by omega)))) (fun _ => ?_)
    refine y_go rfl rfl ?_
    refine y_go rfl rfl ?_
    refine y_ic_gt rfl (fun c => absurd c ((by rw [t1]; exact nI_nlt (a := 1100) (b := t) (by omega) (by decide)))) (fun _ => ?_)
    refine y_go rfl rfl ?_
    refine y_go rfl rfl ?_
    refine y_S1e rfl rfl (Nat.le_of_ble_eq_true rfl) (Nat.le_of_ble_eq_true rfl) rfl rfl (o_cool (by omega) h3 i (by omega)) (fun s7 h7 => ?_)
    suffices k8 : yW S d 148 (239, [.ref 0, .int ((sumTo (K.1 9) K.2.2.1 i) + (gd K.2.2.1 i)), .int ((sumTo 0 K.2.2.2.1 i) + (gd K.2.2.2.1 i)), .int ((sgI K i) + (((2 + (if gd K.2.2.1 i = 0 then 0 else if 9 < gd K.2.2.1 i then 2 else 1)) + (if 999 < gd K.2.2.2.1 i then 4 else if 99 < gd K.2.2.2.1 i then 3 else 2)) + (if nv (-1000) (fireV K) = nI i then 1 else 0))), .int 1, .int (nI i), .int (gd K.2.2.1 i), .int (gd K.2.1 i), .int (gd K.2.2.2.1 i), x9], [.int (if nv (-1000) (tillCool i 101 0 K).1 = 0 then 1 else 0)], s7) Q by
      refine y_if_ne rfl (fun c231 => ?_) (fun c231 => ?_)
      · refine y_go rfl rfl ?_
        rw [show ((if nv (-1000) (tillCool i 101 0 K).1 = 0 then 1 else 0) : Int32) = 0 by rw [if_neg c231]] at k8
        exact k8
      · refine y_go rfl rfl ?_
        refine y_go rfl rfl ?_
        rw [show ((if nv (-1000) (tillCool i 101 0 K).1 = 0 then 1 else 0) : Int32) = 1 by rw [if_pos c231]] at k8
        exact k8
    refine y_go rfl rfl ?_
    refine y_go rfl rfl ?_
    suffices k9 : yW S d 148 (251, [.ref 0, .int ((sumTo (K.1 9) K.2.2.1 i) + (gd K.2.2.1 i)), .int ((sumTo 0 K.2.2.2.1 i) + (gd K.2.2.2.1 i)), .int ((sgI K i) + (((2 + (if gd K.2.2.1 i = 0 then 0 else if 9 < gd K.2.2.1 i then 2 else 1)) + (if 999 < gd K.2.2.2.1 i then 4 else if 99 < gd K.2.2.2.1 i then 3 else 2)) + (if nv (-1000) (fireV K) = nI i then 1 else 0))), .int 1, .int (nI i), .int (gd K.2.2.1 i), .int (gd K.2.1 i), .int (gd K.2.2.2.1 i), x9], [.int (if 60 < gd K.2.2.2.1 i then 0 else 1), .int (if nv (-1000) (tillCool i 101 0 K).1 = 0 then 1 else 0)], s7) Q by
      refine y_ic_gt rfl (fun c243 => ?_) (fun c243 => ?_)
      · refine y_go rfl rfl ?_
        rw [show ((if 60 < gd K.2.2.2.1 i then 0 else 1) : Int32) = 0 by rw [if_pos c243]] at k9
        exact k9
      · refine y_go rfl rfl ?_
        refine y_go rfl rfl ?_
        rw [show ((if 60 < gd K.2.2.2.1 i then 0 else 1) : Int32) = 1 by rw [if_neg c243]] at k9
        exact k9
    refine y_ic_ne rfl (fun c => absurd (cool_eq i) c) (fun _ => ?_)
    refine y_go rfl rfl ?_
    refine y_go rfl rfl ?_
    refine y_go (g' := (261, [.ref 0, .int ((sumTo (K.1 9) K.2.2.1 i) + (gd K.2.2.1 i)), .int ((sumTo 0 K.2.2.2.1 i) + (gd K.2.2.2.1 i)), .int ((sgI K i) + (((2 + (if gd K.2.2.1 i = 0 then 0 else if 9 < gd K.2.2.1 i then 2 else 1)) + (if 999 < gd K.2.2.2.1 i then 4 else if 99 < gd K.2.2.2.1 i then 3 else 2)) + (if nv (-1000) (fireV K) = nI i then 1 else 0))), .int 1, .int (nI i), .int (gd K.2.2.1 i), .int (gd K.2.1 i), .int (gd K.2.2.2.1 i), x9], _, _)) rfl rfl ?_
    refine y_go (g' := (264, [.ref 0, .int ((sumTo (K.1 9) K.2.2.1 i) + (gd K.2.2.1 i)), .int ((sumTo 0 K.2.2.2.1 i) + (gd K.2.2.2.1 i)), .int ((sgI K i) + (((2 + (if gd K.2.2.1 i = 0 then 0 else if 9 < gd K.2.2.1 i then 2 else 1)) + (if 999 < gd K.2.2.2.1 i then 4 else if 99 < gd K.2.2.2.1 i then 3 else 2)) + (if nv (-1000) (fireV K) = nI i then 1 else 0))), .int 1, .int (nI (i + 1)), .int (gd K.2.2.1 i), .int (gd K.2.1 i), .int (gd K.2.2.2.1 i), x9], _, _)) rfl (by rw [← nI_1 i]; rfl) ?_
    refine y_go rfl rfl ?_
    exact ih (i + 1) (by omega) _ _ _ _ _ (LW_mono (by omega) h7)
theorem l_ch2 {S : List Int32} {d : Nat} (hd : 14 ≤ d) {n : Nat} {f sv : Int32} {K V : kK} {H : List kK} {T : List Int32} (y1 y2 y3 : Int32) (t b c : Nat → Nat) (ht : ∀ j, j < 8 → gd K.2.2.2.1 j = nI (t j) ∧ t j < 2 ^ 31) (hb : ∀ j, j < 8 → gd K.2.2.1 j = nI (b j) ∧ b j < 2 ^ 31) (hc1 : ∀ r, r < 8 → c r < 8 ∧ crk K.2.2.2.1 K.2.2.1 (nI r) 8 0 = nI (c r)) (hc2 : ∀ r, r < 7 → bfN t b (c r) (c (r + 1))) {Q : xR → Prop} (k : ∀ (s : xS) (x6 x7 x8 x9 : Value), LW (n + 14) f sv K V H T s → yW S d 148 (370, [.ref 0, .int y1, .int y2, .int y3, .int 1, .int (nI 8), x6, x7, x8, x9], [], s) Q) : ∀ (i0 r : Nat), r + i0 = 7 → ∀ (s : xS) (x6 x7 x8 x9 : Value), LW (n + 2 * r) f sv K V H T s → yW S d 148 (270, [.ref 0, .int y1, .int y2, .int y3, .int 1, .int (nI (r + 1)), x6, x7, x8, x9], [], s) Q := by
  intro i0
  induction i0 with
  | zero =>
    intro r hi s x6 x7 x8 x9 hW
    obtain rfl : r = 7 := by omega
    refine y_go rfl rfl ?_
    refine y_if_eq rfl (fun c => absurd c (by decide)) (fun _ => ?_)
    refine y_go rfl rfl ?_
    refine y_go rfl rfl ?_
    refine y_ic_ge rfl (fun _ => ?_) (fun c => absurd c (nI_nlt (a := 8) (b := 8) (Nat.le_refl _) (by decide)))
    exact k s x6 x7 x8 x9 hW
  | succ i0 ih =>
    intro r hi s x6 x7 x8 x9 hW
    have hlt : r < 7 := by omega
    obtain ⟨p1, p2⟩ := hc1 r (by omega)
    obtain ⟨p3, p4⟩ := hc1 (r + 1) (by omega)
    have hbf := hc2 r hlt
    obtain ⟨t1, t2⟩ := ht (c r) p1
    obtain ⟨t3, t4⟩ := ht (c (r + 1)) p3
    obtain ⟨b1, b2⟩ := hb (c r) p1
    obtain ⟨b3, b4⟩ := hb (c (r + 1)) p3
    refine y_go rfl rfl ?_
    refine y_if_eq rfl (fun c => absurd c (by decide)) (fun _ => ?_)
    refine y_go rfl rfl ?_
    refine y_go rfl rfl ?_
    refine y_ic_ge rfl (fun c => absurd (nI_lt (a := r + 1) (b := 8) (by omega) (by decide)) c) (fun _ => ?_)
    refine y_go rfl rfl ?_
    refine y_go rfl rfl ?_
    refine y_go rfl rfl ?_
    refine y_go rfl rfl ?_
    rw [nI_pred]
    refine y_S1e rfl rfl (Nat.le_of_ble_eq_true rfl) (Nat.le_of_ble_eq_true rfl) rfl rfl (o_rank (by omega) hW (nI r)) (fun s1 h1 => ?_)
    rw [p2, nv_nI (by omega)]
    refine y_go (g' := (292, [.ref 0, .int y1, .int y2, .int y3, .int 1, .int (nI (r + 1)), .int (nI (c r)), x7, x8, x9], _, _)) rfl rfl ?_
    refine y_go rfl rfl ?_
    refine y_go rfl rfl ?_
    refine y_S1e rfl rfl (Nat.le_of_ble_eq_true rfl) (Nat.le_of_ble_eq_true rfl) rfl rfl (o_rank (by omega) h1 (nI (r + 1))) (fun s2 h2 => ?_)
    rw [p4, nv_nI (by omega)]
    refine y_go (g' := (300, [.ref 0, .int y1, .int y2, .int y3, .int 1, .int (nI (r + 1)), .int (nI (c r)), .int (nI (c (r + 1))), x8, x9], _, _)) rfl rfl ?_
    refine y_go rfl rfl ?_
    refine y_go rfl rfl ?_
    refine y_V1 rfl (Nat.le_of_ble_eq_true rfl) (Nat.le_of_ble_eq_true rfl) rfl rfl (LW_rcv h2) (t_temperature (by omega) h2 (c r) (by omega)) ?_
    refine y_go rfl rfl ?_
    refine y_go rfl rfl ?_
    refine y_V1 rfl (Nat.le_of_ble_eq_true rfl) (Nat.le_of_ble_eq_true rfl) rfl rfl (LW_rcv h2) (t_temperature (by omega) h2 (c (r + 1)) (by omega)) ?_
    refine y_go rfl rfl ?_
    refine y_go (g' := (315, [.ref 0, .int y1, .int y2, .int y3, .int 1, .int (nI (r + 1)), .int (nI (c r)), .int (nI (c (r + 1))), .int ((gd K.2.2.2.1 (c r)) - (gd K.2.2.2.1 (c (r + 1)))), x9], _, _)) rfl rfl ?_
    refine y_go rfl rfl ?_
    refine y_go rfl rfl ?_
    refine y_V1 rfl (Nat.le_of_ble_eq_true rfl) (Nat.le_of_ble_eq_true rfl) rfl rfl (LW_rcv h2) (t_bricks (by omega) h2 (c r) (by omega)) ?_
    refine y_go rfl rfl ?_
    refine y_go rfl rfl ?_
    refine y_V1 rfl (Nat.le_of_ble_eq_true rfl) (Nat.le_of_ble_eq_true rfl) rfl rfl (LW_rcv h2) (t_bricks (by omega) h2 (c (r + 1)) (by omega)) ?_
    refine y_go rfl rfl ?_
    refine y_go (g' := (330, [.ref 0, .int y1, .int y2, .int y3, .int 1, .int (nI (r + 1)), .int (nI (c r)), .int (nI (c (r + 1))), .int ((gd K.2.2.2.1 (c r)) - (gd K.2.2.2.1 (c (r + 1)))), .int ((gd K.2.2.1 (c r)) - (gd K.2.2.1 (c (r + 1))))], _, _)) rfl rfl ?_
    rw [t1, t3, b1, b3]
    rcases hbf with q | ⟨q1, q | ⟨q2, q3⟩⟩
    · refine y_go rfl rfl ?_
      refine y_if_gt rfl (fun _ => ?_) (fun c => absurd (sub_p (by omega) q) c)
      refine y_go rfl rfl ?_
      refine y_go rfl rfl ?_
      refine y_go (g' := (364, [.ref 0, .int y1, .int y2, .int y3, .int 1, .int (nI (r + 1)), .int (nI (c r)), .int (nI (c (r + 1))), .int (nI (t (c r)) - nI (t (c (r + 1)))), .int (nI (b (c r)) - nI (b (c (r + 1))))], _, _)) rfl rfl ?_
      refine y_go (g' := (367, [.ref 0, .int y1, .int y2, .int y3, .int 1, .int (nI (r + 1 + 1)), .int (nI (c r)), .int (nI (c (r + 1))), .int (nI (t (c r)) - nI (t (c (r + 1)))), .int (nI (b (c r)) - nI (b (c (r + 1))))], _, _)) rfl (by rw [← nI_1 (r + 1)]; rfl) ?_
      refine y_go rfl rfl ?_
      exact ih (r + 1) (by omega) _ _ _ _ _ (LW_mono (by omega) h2)
    · refine y_go rfl rfl ?_
      refine y_if_gt rfl (fun c => absurd c ((by rw [q1, Int32.sub_self]; decide))) (fun _ => ?_)
      refine y_go rfl rfl ?_
      refine y_if_ne rfl (fun c => absurd ((by rw [q1]; exact Int32.sub_self _)) c) (fun _ => ?_)
      refine y_go rfl rfl ?_
      refine y_if_gt rfl (fun _ => ?_) (fun c => absurd (sub_p (by omega) q) c)
      refine y_go rfl rfl ?_
      refine y_go rfl rfl ?_
      refine y_go (g' := (364, [.ref 0, .int y1, .int y2, .int y3, .int 1, .int (nI (r + 1)), .int (nI (c r)), .int (nI (c (r + 1))), .int (nI (t (c r)) - nI (t (c (r + 1)))), .int (nI (b (c r)) - nI (b (c (r + 1))))], _, _)) rfl rfl ?_
      refine y_go (g' := (367, [.ref 0, .int y1, .int y2, .int y3, .int 1, .int (nI (r + 1 + 1)), .int (nI (c r)), .int (nI (c (r + 1))), .int (nI (t (c r)) - nI (t (c (r + 1)))), .int (nI (b (c r)) - nI (b (c (r + 1))))], _, _)) rfl (by rw [← nI_1 (r + 1)]; rfl) ?_
      refine y_go rfl rfl ?_
      exact ih (r + 1) (by omega) _ _ _ _ _ (LW_mono (by omega) h2)
    · refine y_go rfl rfl ?_
      refine y_if_gt rfl (fun c => absurd c ((by rw [q1, Int32.sub_self]; decide))) (fun _ => ?_)
      refine y_go rfl rfl ?_
      refine y_if_ne rfl (fun c => absurd ((by rw [q1]; exact Int32.sub_self _)) c) (fun _ => ?_)
      refine y_go rfl rfl ?_
      refine y_if_gt rfl (fun c => absurd c ((by rw [q2, Int32.sub_self]; decide))) (fun _ => ?_)
      refine y_go rfl rfl ?_
      refine y_if_ne rfl (fun c => absurd ((by rw [q2]; exact Int32.sub_self _)) c) (fun _ => ?_)
      refine y_go rfl rfl ?_
      refine y_go rfl rfl ?_
      refine y_ic_ge rfl (fun c => absurd (nI_lt q3 (by omega)) c) (fun _ => ?_)
      refine y_go rfl rfl ?_
      refine y_go rfl rfl ?_
      refine y_go (g' := (364, [.ref 0, .int y1, .int y2, .int y3, .int 1, .int (nI (r + 1)), .int (nI (c r)), .int (nI (c (r + 1))), .int (nI (t (c r)) - nI (t (c (r + 1)))), .int (nI (b (c r)) - nI (b (c (r + 1))))], _, _)) rfl rfl ?_
      refine y_go (g' := (367, [.ref 0, .int y1, .int y2, .int y3, .int 1, .int (nI (r + 1 + 1)), .int (nI (c r)), .int (nI (c (r + 1))), .int (nI (t (c r)) - nI (t (c (r + 1)))), .int (nI (b (c r)) - nI (b (c (r + 1))))], _, _)) rfl (by rw [← nI_1 (r + 1)]; rfl) ?_
      refine y_go rfl rfl ?_
      exact ih (r + 1) (by omega) _ _ _ _ _ (LW_mono (by omega) h2)
theorem l_ch3 {S : List Int32} {d : Nat} (hd : 15 ≤ d) {n : Nat} {f sv : Int32} {K V : kK} {H : List kK} {T : List Int32} (s : xS) (hW : LW (n + 1) f sv K V H T s) : yW S d 148 (32, [.ref 0, .int (K.1 9), .int 0, .int 7, xno, xno, xno, xno, xno, xno], [], s) (fun r => ∃ s2, LW (n + 100) f sv K V H T s2 ∧ r = (.inl (some (.int 1)), s2)) := by
  have hG := hW.2.1
  obtain ⟨⟨hh, e1, e2⟩, -⟩ := hG.2.2.2
  obtain ⟨t, ht⟩ := gtm_N hG.2.2.1
  obtain ⟨b, hb⟩ := gsb_N hG.2.1
  have ht2 : ∀ j, j < 8 → gd K.2.2.2.1 j = nI (t j) ∧ t j < 2 ^ 31 := fun j hj => ⟨(ht j hj).1, by have := (ht j hj).2.2; omega⟩
  have hb2 : ∀ j, j < 8 → gd K.2.2.1 j = nI (b j) ∧ b j < 2 ^ 31 := fun j hj => ⟨(hb j hj).1, by have := (hb j hj).2.1; omega⟩
  obtain ⟨c, hc1, hc2⟩ := crk_facts ht2 hb2
  obtain ⟨sm, es, hsb⟩ := sumT_b hG.2.2.1 8 (Nat.le_refl _)
  refine y_go rfl rfl ?_
  refine y_V1 rfl (Nat.le_of_ble_eq_true rfl) (Nat.le_of_ble_eq_true rfl) rfl rfl (LW_rcv hW) (t_heat (by omega) hW) ?_
  refine y_if_lt rfl (fun c => absurd c ((by rw [e1]; exact nI_pos (by omega)))) (fun _ => ?_)
  refine y_go rfl rfl ?_
  refine y_V1 rfl (Nat.le_of_ble_eq_true rfl) (Nat.le_of_ble_eq_true rfl) rfl rfl (LW_rcv hW) (t_heat (by omega) hW) ?_
  refine y_go rfl rfl ?_
  refine y_ic_gt rfl (fun c => absurd c ((by rw [e1]; exact nI_nlt (a := 999) (b := hh) (by omega) (by decide)))) (fun _ => ?_)
  refine y_go rfl rfl ?_
  refine y_V1e rfl (Nat.le_of_ble_eq_true rfl) (Nat.le_of_ble_eq_true rfl) rfl rfl (LW_rcv hW) (t_consistent (by omega) hW) (fun s1 h1 => ?_)
  refine y_if_eq rfl (fun c => absurd c (by decide)) (fun _ => ?_)
  refine y_go rfl rfl ?_
  refine y_go rfl rfl ?_
  refine y_go (g' := (63, [.ref 0, .int (K.1 9), .int 0, .int 7, .int 1, xno, xno, xno, xno, xno], _, _)) rfl rfl ?_
  refine y_go rfl rfl ?_
  refine y_go (g' := (66, [.ref 0, .int (K.1 9), .int 0, .int 7, .int 1, .int 0, xno, xno, xno, xno], _, _)) rfl rfl ?_
  refine l_ch1 (n := n + 2) (by omega) (GK_mono (by omega) hG) (fun s2 x6 x7 x8 x9 h2 => ?_) 8 0 rfl _ _ _ _ _ (LW_mono (by omega) h1)
  refine y_go rfl rfl ?_
  refine y_go (g' := (270, [.ref 0, .int (sumTo (K.1 9) K.2.2.1 8), .int (sumTo 0 K.2.2.2.1 8), .int (sgI K 8), .int 1, .int 1, x6, x7, x8, x9], _, _)) rfl rfl ?_
  refine l_ch2 (n := n + 18) (by omega) _ _ _ t b c ht2 hb2 hc1 hc2 (fun s3 x6 x7 x8 x9 h3 => ?_) 7 0 rfl _ _ _ _ _ (LW_mono (by omega) h2)
  refine y_go rfl rfl ?_
  refine y_if_eq rfl (fun c => absurd c (by decide)) (fun _ => ?_)
  refine y_go rfl rfl ?_
  refine y_go rfl rfl ?_
  refine y_V1e rfl (Nat.le_of_ble_eq_true rfl) (Nat.le_of_ble_eq_true rfl) rfl rfl (LW_rcv h3) (t_in_e (by omega) h3) (fun s2 h2 => ?_)
  refine y_go rfl rfl ?_
  refine y_go rfl rfl ?_
  refine y_V1e rfl (Nat.le_of_ble_eq_true rfl) (Nat.le_of_ble_eq_true rfl) rfl rfl (LW_rcv h2) (t_in_g (by omega) h2) (fun s3 h3 => ?_)
  refine y_go rfl rfl ?_
  refine y_go rfl rfl ?_
  refine y_go rfl rfl ?_
  refine y_V1e rfl (Nat.le_of_ble_eq_true rfl) (Nat.le_of_ble_eq_true rfl) rfl rfl (LW_rcv h3) (t_in_f (by omega) h3) (fun s4 h4 => ?_)
  refine y_go rfl rfl ?_
  refine y_go rfl rfl ?_
  refine y_ic_ne rfl (fun c => absurd (cnt8 hG.2.1 8 (Nat.le_refl _)) c) (fun _ => ?_)
  refine y_go rfl rfl ?_
  refine y_V1 rfl (Nat.le_of_ble_eq_true rfl) (Nat.le_of_ble_eq_true rfl) rfl rfl (LW_rcv h4) (t_brickTotal (by omega) h4) ?_
  refine y_go rfl rfl ?_
  refine y_ic_ne rfl (fun c => absurd (rfl) c) (fun _ => ?_)
  refine y_go rfl rfl ?_
  refine y_V1 rfl (Nat.le_of_ble_eq_true rfl) (Nat.le_of_ble_eq_true rfl) rfl rfl (LW_rcv h4) (t_accounts (by omega) h4) ?_
  refine y_go rfl rfl ?_
  refine y_ic_ne rfl (fun c => absurd (hG.2.2.2.2.2.2.1.symm) c) (fun _ => ?_)
  refine y_go rfl rfl ?_
  refine y_V1 rfl (Nat.le_of_ble_eq_true rfl) (Nat.le_of_ble_eq_true rfl) rfl rfl (LW_rcv h4) (t_mean (by omega) h4) ?_
  refine y_go rfl rfl ?_
  refine y_go rfl rfl ?_
  refine y_go rfl rfl ?_
  refine y_ddiv rfl (by rw [es]; exact mok_1 hsb) ?_
  refine y_go (g' := (427, [.ref 0, .int (sumTo (K.1 9) K.2.2.1 8), .int (sumTo 0 K.2.2.2.1 8), .int (sgI K 8), .int 1, .int (nI 8), x6, x7, x8, x9], [.int 0], _)) rfl (by rw [show xnext _ _ _ _ _ _ _ _ _ = xgo 427 [.ref 0, .int (sumTo (K.1 9) K.2.2.1 8), .int (sumTo 0 K.2.2.2.1 8), .int (sgI K 8), .int 1, .int (nI 8), x6, x7, x8, x9] (.int (Op.cmpValue (FP.dcmp (mnT K) (mnT K)) .l) :: []) _ from rfl, show FP.dcmp (mnT K) (mnT K) = some .eq by show FP.dcmp (FP.ddiv (FP.i2d (sumTo 0 K.2.2.2.1 8)) _) (FP.ddiv (FP.i2d (sumTo 0 K.2.2.2.1 8)) _) = _; rw [es]; exact mok_2 hsb]; rfl) ?_
  refine y_if_ne rfl (fun c => absurd (by decide) c) (fun _ => ?_)
  refine y_go rfl rfl ?_
  refine y_V1e rfl (Nat.le_of_ble_eq_true rfl) (Nat.le_of_ble_eq_true rfl) rfl rfl (LW_rcv h4) (t_ring (by omega) h4) (fun s5 h5 => ?_)
  refine y_go rfl rfl ?_
  refine y_ic_ne rfl (fun c => absurd ((sg_eq hG).symm) c) (fun _ => ?_)
  refine y_go rfl rfl ?_
  refine y_go rfl rfl ?_
  refine y_S1e rfl rfl (Nat.le_of_ble_eq_true rfl) (Nat.le_of_ble_eq_true rfl) rfl rfl (o_rank (by omega) h5 8) (fun s6 h6 => ?_)
  refine y_go rfl rfl ?_
  refine y_ic_ne rfl (fun c => absurd ((by rw [crk_no ht2 hb2 (v := 8) (by decide +kernel) 8 0 rfl]; decide)) c) (fun _ => ?_)
  refine y_go rfl rfl ?_
  refine y_go rfl rfl ?_
  refine y_S1e rfl rfl (Nat.le_of_ble_eq_true rfl) (Nat.le_of_ble_eq_true rfl) rfl rfl (o_rank (by omega) h6 (-1)) (fun s7 h7 => ?_)
  refine y_go rfl rfl ?_
  refine y_ic_ne rfl (fun c => absurd ((by rw [crk_no ht2 hb2 (v := (-1)) (by decide +kernel) 8 0 rfl]; decide)) c) (fun _ => ?_)
  refine y_go rfl rfl ?_
  refine y_go rfl rfl ?_
  exact y_ireturn rfl rfl rfl ⟨_, LW_mono (by omega) h7, rfl⟩
theorem o_chambers {S : List Int32} {d : Nat} (hd : 16 ≤ d) {n : Nat} {f sv : Int32} {K V : kK} {H : List kK} {T : List Int32} {s : xS} (hW : LW n f sv K V H T s) : yT S d 148 [.ref 0] s (fun r => ∃ s2, LW (n + 100) f sv K V H T s2 ∧ r = (.inl (some (.int 1)), s2)) := by
  obtain ⟨d, rfl⟩ : ∃ e, d = e + 1 := ⟨d - 1, by omega⟩
  have hkv := hW.2.1.1.1
  refine yT_e (Nat.le_of_ble_eq_true rfl) ?_
  show yW S d 148 (0, [.ref 0, xno, xno, xno, xno, xno, xno, xno, xno, xno], [], s) _
  refine y_go rfl rfl ?_
  refine y_V1 rfl (Nat.le_of_ble_eq_true rfl) (Nat.le_of_ble_eq_true rfl) rfl rfl (LW_rcv hW) (t_stock (by omega) hW) ?_
  refine y_go (g' := (5, [.ref 0, .int (K.1 9), xno, xno, xno, xno, xno, xno, xno, xno], _, _)) rfl rfl ?_
  refine y_go rfl rfl ?_
  refine y_go (g' := (7, [.ref 0, .int (K.1 9), .int 0, xno, xno, xno, xno, xno, xno, xno], _, _)) rfl rfl ?_
  refine y_go rfl rfl ?_
  refine y_go (g' := (10, [.ref 0, .int (K.1 9), .int 0, .int 7, xno, xno, xno, xno, xno, xno], _, _)) rfl rfl ?_
  by_cases q : K.1 1 = -1
  · refine y_go rfl rfl ?_
    refine y_V1 rfl (Nat.le_of_ble_eq_true rfl) (Nat.le_of_ble_eq_true rfl) rfl rfl (LW_rcv hW) (t_isLit (by omega) hW) ?_
    refine y_go rfl rfl ?_
    refine y_S1e rfl rfl (Nat.le_of_ble_eq_true rfl) (Nat.le_of_ble_eq_true rfl) rfl rfl (o_fire (by omega) hW) (fun s1 h1 => ?_)
    refine y_go rfl rfl ?_
    refine y_ic_eq rfl (fun _ => ?_) (fun c => absurd ((lit_eq hkv).mpr q) c)
    refine y_go rfl rfl ?_
    refine y_ic_ne rfl (fun c => absurd (if_pos q) c) (fun _ => ?_)
    exact l_ch3 (by omega) _ h1
  · refine y_go rfl rfl ?_
    refine y_V1 rfl (Nat.le_of_ble_eq_true rfl) (Nat.le_of_ble_eq_true rfl) rfl rfl (LW_rcv hW) (t_isLit (by omega) hW) ?_
    refine y_go rfl rfl ?_
    refine y_S1e rfl rfl (Nat.le_of_ble_eq_true rfl) (Nat.le_of_ble_eq_true rfl) rfl rfl (o_fire (by omega) hW) (fun s2 h2 => ?_)
    refine y_go rfl rfl ?_
    refine y_ic_eq rfl (fun c => absurd c (fun z => q ((lit_eq hkv).mp z))) (fun _ => ?_)
    refine y_go rfl rfl ?_
    refine y_go rfl rfl ?_
    refine y_ic_ne rfl (fun c => absurd (if_neg q) c) (fun _ => ?_)
    exact l_ch3 (by omega) _ h2
