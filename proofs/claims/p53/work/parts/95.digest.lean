/-! THE LAW: the digest. -/
def dgC (K : kK) (h : Int64) : Nat → Int64
  | 0 => h
  | i + 1 => 31 * (31 * (31 * dgC K h i + (gd K.2.1 i).toInt64) + (gd K.2.2.1 i).toInt64) + (gd K.2.2.2.1 i).toInt64
def dgF (K : kK) (h : Int64) : Nat → Int64
  | 0 => h
  | i + 1 => 31 * (31 * dgF K h i + (gd K.2.2.2.2.1 i).toInt64) + (gd K.2.2.2.2.2 i).toInt64
def dgN (K : kK) : Int64 := 7 * (K.1 0).toInt64 + 11 * (K.1 2).toInt64 + 13 * (K.1 3).toInt64 + 17 * (K.1 9).toInt64 + 19 * (K.1 10).toInt64 + 23 * (sumTo (K.1 9) K.2.2.1 8).toInt64 + 29 * (K.1 14).toInt64 + (nv (-1000) (fireV K)).toInt64
/-- the digest of a kiln -/
def dgs (K : kK) : Int64 := dgF K (dgC K (dgN K) 8) 3
theorem l_dig {S : List Int32} {d : Nat} (hd : 8 ≤ d) {n : Nat} {f sv : Int32} {K V : kK} {H : List kK} {T : List Int32} {s : xS} (hW : LW n f sv K V H T s) {Q : xR → Prop} (x0 : Int64) (k : yW S d 147 (125, [.ref 0, .long (dgC K x0 8), xno, .int (nI 8)], [], s) Q) : ∀ (i0 i : Nat), i + i0 = 8 → yW S d 147 (78, [.ref 0, .long (dgC K x0 i), xno, .int (nI i)], [], s) Q := by
  intro i0
  induction i0 with
  | zero =>
    intro i hi
    obtain rfl : i = 8 := by omega
    refine y_go rfl rfl ?_
    refine y_go rfl rfl ?_
    refine y_ic_ge rfl (fun _ => ?_) (fun c => absurd c (nI_nlt (a := 8) (b := 8) (Nat.le_refl _) (by decide)))
    exact k
  | succ i0 ih =>
    intro i hi
    have hlt : i < 8 := by omega
    refine y_go rfl rfl ?_
    refine y_go rfl rfl ?_
    refine y_ic_ge rfl (fun c => absurd (nI_lt (a := i) (b := 8) hlt (by decide)) c) (fun _ => ?_)
    refine y_go rfl rfl ?_
    refine y_go rfl rfl ?_
    refine y_go rfl rfl ?_
    refine y_go rfl rfl ?_
    refine y_go rfl rfl ?_
    refine y_go rfl rfl ?_
    refine y_go rfl rfl ?_
    refine y_V1 rfl (Nat.le_of_ble_eq_true rfl) (Nat.le_of_ble_eq_true rfl) rfl rfl (LW_rcv hW) (t_state (by omega) hW i (by omega)) ?_
    refine y_go rfl rfl ?_
    refine y_go rfl rfl ?_
    refine y_go rfl rfl ?_
    refine y_go rfl rfl ?_
    refine y_go rfl rfl ?_
    refine y_V1 rfl (Nat.le_of_ble_eq_true rfl) (Nat.le_of_ble_eq_true rfl) rfl rfl (LW_rcv hW) (t_bricks (by omega) hW i (by omega)) ?_
    refine y_go rfl rfl ?_
    refine y_go rfl rfl ?_
    refine y_go rfl rfl ?_
    refine y_go rfl rfl ?_
    refine y_go rfl rfl ?_
    refine y_V1 rfl (Nat.le_of_ble_eq_true rfl) (Nat.le_of_ble_eq_true rfl) rfl rfl (LW_rcv hW) (t_temperature (by omega) hW i (by omega)) ?_
    refine y_go rfl rfl ?_
    refine y_go rfl rfl ?_
    refine y_go (g' := (119, [.ref 0, .long ((31 * ((31 * ((31 * (dgC K x0 i)) + ((gd K.2.1 i).toInt64))) + ((gd K.2.2.1 i).toInt64))) + ((gd K.2.2.2.1 i).toInt64)), xno, .int (nI i)], _, _)) rfl rfl ?_
    refine y_go (g' := (122, [.ref 0, .long ((31 * ((31 * ((31 * (dgC K x0 i)) + ((gd K.2.1 i).toInt64))) + ((gd K.2.2.1 i).toInt64))) + ((gd K.2.2.2.1 i).toInt64)), xno, .int (nI (i + 1))], _, _)) rfl (by rw [← nI_1 i]; rfl) ?_
    refine y_go rfl rfl ?_
    exact ih (i + 1) (by omega)
theorem o_digest {S : List Int32} {d : Nat} (hd : 14 ≤ d) {n : Nat} {f sv : Int32} {K V : kK} {H : List kK} {T : List Int32} {s : xS} (hW : LW n f sv K V H T s) : yT S d 147 [.ref 0] s (fun r => ∃ s2, LW (n + 1) f sv K V H T s2 ∧ r = (.inl (some (.long (dgs K))), s2)) := by
  obtain ⟨d, rfl⟩ : ∃ e, d = e + 1 := ⟨d - 1, by omega⟩
  refine yT_e (Nat.le_of_ble_eq_true rfl) ?_
  show yW S d 147 (0, [.ref 0, xno, xno, xno], [], s) _
  refine y_go rfl rfl ?_
  refine y_go rfl rfl ?_
  refine y_V1 rfl (Nat.le_of_ble_eq_true rfl) (Nat.le_of_ble_eq_true rfl) rfl rfl (LW_rcv hW) (t_time (by omega) hW) ?_
  refine y_go rfl rfl ?_
  refine y_go rfl rfl ?_
  refine y_go rfl rfl ?_
  refine y_go rfl rfl ?_
  refine y_V1 rfl (Nat.le_of_ble_eq_true rfl) (Nat.le_of_ble_eq_true rfl) rfl rfl (LW_rcv hW) (t_heat (by omega) hW) ?_
  refine y_go rfl rfl ?_
  refine y_go rfl rfl ?_
  refine y_go rfl rfl ?_
  refine y_go rfl rfl ?_
  refine y_go rfl rfl ?_
  refine y_V1 rfl (Nat.le_of_ble_eq_true rfl) (Nat.le_of_ble_eq_true rfl) rfl rfl (LW_rcv hW) (t_draught (by omega) hW) ?_
  refine y_go rfl rfl ?_
  refine y_go rfl rfl ?_
  refine y_go rfl rfl ?_
  refine y_go rfl rfl ?_
  refine y_go rfl rfl ?_
  refine y_V1 rfl (Nat.le_of_ble_eq_true rfl) (Nat.le_of_ble_eq_true rfl) rfl rfl (LW_rcv hW) (t_stock (by omega) hW) ?_
  refine y_go rfl rfl ?_
  refine y_go rfl rfl ?_
  refine y_go rfl rfl ?_
  refine y_go rfl rfl ?_
  refine y_go rfl rfl ?_
  refine y_V1 rfl (Nat.le_of_ble_eq_true rfl) (Nat.le_of_ble_eq_true rfl) rfl rfl (LW_rcv hW) (t_walls (by omega) hW) ?_
  refine y_go rfl rfl ?_
  refine y_go rfl rfl ?_
  refine y_go rfl rfl ?_
  refine y_go rfl rfl ?_
  refine y_go rfl rfl ?_
  refine y_V1 rfl (Nat.le_of_ble_eq_true rfl) (Nat.le_of_ble_eq_true rfl) rfl rfl (LW_rcv hW) (t_brickTotal (by omega) hW) ?_
  refine y_go rfl rfl ?_
  refine y_go rfl rfl ?_
  refine y_go rfl rfl ?_
  refine y_go rfl rfl ?_
  refine y_go rfl rfl ?_
  refine y_V1 rfl (Nat.le_of_ble_eq_true rfl) (Nat.le_of_ble_eq_true rfl) rfl rfl (LW_rcv hW) (t_paid (by omega) hW) ?_
  refine y_go rfl rfl ?_
  refine y_go rfl rfl ?_
  refine y_go rfl rfl ?_
  refine y_go rfl rfl ?_
  refine y_S1e rfl rfl (Nat.le_of_ble_eq_true rfl) (Nat.le_of_ble_eq_true rfl) rfl rfl (o_fire (by omega) hW) (fun s1 h1 => ?_)
  refine y_go rfl rfl ?_
  refine y_go rfl rfl ?_
  refine y_go (g' := (76, [.ref 0, .long ((((((((7 * ((K.1 0).toInt64)) + (11 * ((K.1 2).toInt64))) + (13 * ((K.1 3).toInt64))) + (17 * ((K.1 9).toInt64))) + (19 * ((K.1 10).toInt64))) + (23 * ((sumTo (K.1 9) K.2.2.1 8).toInt64))) + (29 * ((K.1 14).toInt64))) + ((nv (-1000) (fireV K)).toInt64)), xno, xno], _, _)) rfl rfl ?_
  refine y_go rfl rfl ?_
  refine y_go (g' := (78, [.ref 0, .long ((((((((7 * ((K.1 0).toInt64)) + (11 * ((K.1 2).toInt64))) + (13 * ((K.1 3).toInt64))) + (17 * ((K.1 9).toInt64))) + (19 * ((K.1 10).toInt64))) + (23 * ((sumTo (K.1 9) K.2.2.1 8).toInt64))) + (29 * ((K.1 14).toInt64))) + ((nv (-1000) (fireV K)).toInt64)), xno, .int 0], _, _)) rfl rfl ?_
  refine l_dig (by omega) h1 (dgN K) ?_ 8 0 rfl
  refine y_go rfl rfl ?_
  refine y_go (g' := (127, [.ref 0, .long (dgC K (dgN K) 8), xno, .int 0], _, _)) rfl rfl ?_
  refine y_go rfl rfl ?_
  refine y_go rfl rfl ?_
  refine y_ic_ge rfl (fun c => absurd (by decide) c) (fun _ => ?_)
  refine y_go rfl rfl ?_
  refine y_go rfl rfl ?_
  refine y_go rfl rfl ?_
  refine y_go rfl rfl ?_
  refine y_go rfl rfl ?_
  refine y_go rfl rfl ?_
  refine y_go rfl rfl ?_
  refine y_V1 (w := .int 119) rfl (Nat.le_of_ble_eq_true rfl) (Nat.le_of_ble_eq_true rfl) rfl rfl (xrcv_k (xnoh (LW_len h1) (by decide)) xstr_49.1) (s_charAt (by omega) (LW_len h1) xstr_49 0 (by decide)) ?_
  refine y_V1 rfl (Nat.le_of_ble_eq_true rfl) (Nat.le_of_ble_eq_true rfl) rfl rfl (LW_rcv h1) (t_fuel0 (by omega) h1) ?_
  refine y_go rfl rfl ?_
  refine y_go rfl rfl ?_
  refine y_go rfl rfl ?_
  refine y_go rfl rfl ?_
  refine y_go rfl rfl ?_
  refine y_go rfl rfl ?_
  refine y_V1 (w := .int 119) rfl (Nat.le_of_ble_eq_true rfl) (Nat.le_of_ble_eq_true rfl) rfl rfl (xrcv_k (xnoh (LW_len h1) (by decide)) xstr_49.1) (s_charAt (by omega) (LW_len h1) xstr_49 0 (by decide)) ?_
  refine y_V1 rfl (Nat.le_of_ble_eq_true rfl) (Nat.le_of_ble_eq_true rfl) rfl rfl (LW_rcv h1) (t_price0 (by omega) h1) ?_
  refine y_go rfl rfl ?_
  refine y_go rfl rfl ?_
  refine y_go (g' := (166, [.ref 0, .long ((31 * ((31 * (dgC K (dgN K) 8)) + ((gd K.2.2.2.2.1 0).toInt64))) + ((gd K.2.2.2.2.2 0).toInt64)), xno, .int 0], _, _)) rfl rfl ?_
  refine y_go (g' := (169, [.ref 0, .long ((31 * ((31 * (dgC K (dgN K) 8)) + ((gd K.2.2.2.2.1 0).toInt64))) + ((gd K.2.2.2.2.2 0).toInt64)), xno, .int 1], _, _)) rfl rfl ?_
  refine y_go rfl rfl ?_
  refine y_go rfl rfl ?_
  refine y_go rfl rfl ?_
  refine y_ic_ge rfl (fun c => absurd (by decide) c) (fun _ => ?_)
  refine y_go rfl rfl ?_
  refine y_go rfl rfl ?_
  refine y_go rfl rfl ?_
  refine y_go rfl rfl ?_
  refine y_go rfl rfl ?_
  refine y_go rfl rfl ?_
  refine y_go rfl rfl ?_
  refine y_V1 (w := .int 99) rfl (Nat.le_of_ble_eq_true rfl) (Nat.le_of_ble_eq_true rfl) rfl rfl (xrcv_k (xnoh (LW_len h1) (by decide)) xstr_49.1) (s_charAt (by omega) (LW_len h1) xstr_49 1 (by decide)) ?_
  refine y_V1 rfl (Nat.le_of_ble_eq_true rfl) (Nat.le_of_ble_eq_true rfl) rfl rfl (LW_rcv h1) (t_fuel1 (by omega) h1) ?_
  refine y_go rfl rfl ?_
  refine y_go rfl rfl ?_
  refine y_go rfl rfl ?_
  refine y_go rfl rfl ?_
  refine y_go rfl rfl ?_
  refine y_go rfl rfl ?_
  refine y_V1 (w := .int 99) rfl (Nat.le_of_ble_eq_true rfl) (Nat.le_of_ble_eq_true rfl) rfl rfl (xrcv_k (xnoh (LW_len h1) (by decide)) xstr_49.1) (s_charAt (by omega) (LW_len h1) xstr_49 1 (by decide)) ?_
  refine y_V1 rfl (Nat.le_of_ble_eq_true rfl) (Nat.le_of_ble_eq_true rfl) rfl rfl (LW_rcv h1) (t_price1 (by omega) h1) ?_
  refine y_go rfl rfl ?_
  refine y_go rfl rfl ?_
  refine y_go (g' := (166, [.ref 0, .long ((31 * ((31 * ((31 * ((31 * (dgC K (dgN K) 8)) + ((gd K.2.2.2.2.1 0).toInt64))) + ((gd K.2.2.2.2.2 0).toInt64))) + ((gd K.2.2.2.2.1 1).toInt64))) + ((gd K.2.2.2.2.2 1).toInt64)), xno, .int 1], _, _)) rfl rfl ?_
  refine y_go (g' := (169, [.ref 0, .long ((31 * ((31 * ((31 * ((31 * (dgC K (dgN K) 8)) + ((gd K.2.2.2.2.1 0).toInt64))) + ((gd K.2.2.2.2.2 0).toInt64))) + ((gd K.2.2.2.2.1 1).toInt64))) + ((gd K.2.2.2.2.2 1).toInt64)), xno, .int 2], _, _)) rfl rfl ?_
  refine y_go rfl rfl ?_
  refine y_go rfl rfl ?_
  refine y_go rfl rfl ?_
  refine y_ic_ge rfl (fun c => absurd (by decide) c) (fun _ => ?_)
  refine y_go rfl rfl ?_
  refine y_go rfl rfl ?_
  refine y_go rfl rfl ?_
  refine y_go rfl rfl ?_
  refine y_go rfl rfl ?_
  refine y_go rfl rfl ?_
  refine y_go rfl rfl ?_
  refine y_V1 (w := .int 111) rfl (Nat.le_of_ble_eq_true rfl) (Nat.le_of_ble_eq_true rfl) rfl rfl (xrcv_k (xnoh (LW_len h1) (by decide)) xstr_49.1) (s_charAt (by omega) (LW_len h1) xstr_49 2 (by decide)) ?_
  refine y_V1 rfl (Nat.le_of_ble_eq_true rfl) (Nat.le_of_ble_eq_true rfl) rfl rfl (LW_rcv h1) (t_fuel2 (by omega) h1) ?_
  refine y_go rfl rfl ?_
  refine y_go rfl rfl ?_
  refine y_go rfl rfl ?_
  refine y_go rfl rfl ?_
  refine y_go rfl rfl ?_
  refine y_go rfl rfl ?_
  refine y_V1 (w := .int 111) rfl (Nat.le_of_ble_eq_true rfl) (Nat.le_of_ble_eq_true rfl) rfl rfl (xrcv_k (xnoh (LW_len h1) (by decide)) xstr_49.1) (s_charAt (by omega) (LW_len h1) xstr_49 2 (by decide)) ?_
  refine y_V1 rfl (Nat.le_of_ble_eq_true rfl) (Nat.le_of_ble_eq_true rfl) rfl rfl (LW_rcv h1) (t_price2 (by omega) h1) ?_
  refine y_go rfl rfl ?_
  refine y_go rfl rfl ?_
  refine y_go (g' := (166, [.ref 0, .long ((31 * ((31 * ((31 * ((31 * ((31 * ((31 * (dgC K (dgN K) 8)) + ((gd K.2.2.2.2.1 0).toInt64))) + ((gd K.2.2.2.2.2 0).toInt64))) + ((gd K.2.2.2.2.1 1).toInt64))) + ((gd K.2.2.2.2.2 1).toInt64))) + ((gd K.2.2.2.2.1 2).toInt64))) + ((gd K.2.2.2.2.2 2).toInt64)), xno, .int 2], _, _)) rfl rfl ?_
  refine y_go (g' := (169, [.ref 0, .long ((31 * ((31 * ((31 * ((31 * ((31 * ((31 * (dgC K (dgN K) 8)) + ((gd K.2.2.2.2.1 0).toInt64))) + ((gd K.2.2.2.2.2 0).toInt64))) + ((gd K.2.2.2.2.1 1).toInt64))) + ((gd K.2.2.2.2.2 1).toInt64))) + ((gd K.2.2.2.2.1 2).toInt64))) + ((gd K.2.2.2.2.2 2).toInt64)), xno, .int 3], _, _)) rfl rfl ?_
  refine y_go rfl rfl ?_
  refine y_go rfl rfl ?_
  refine y_go rfl rfl ?_
  refine y_ic_ge rfl (fun _ => ?_) (fun c => absurd c (by decide))
  refine y_go rfl rfl ?_
  exact y_end rfl rfl ⟨_, h1, rfl⟩
