/-! THE PROGRAM: a command is kept. -/
theorem y_aastR {S : List Int32} {d m pc nx a b : Nat} {v : Value} {L st : List Value} {h : xH} {p : Nat} {cs cs' : List xC} {k0 : Nat × Nat} {Q : xR → Prop} {t n j q r : Nat} {l : List (Option Nat)} {k : Int32} (hc : xc m pc = some (.aastore, nx, a, b, v)) (hl : p + cs.length ≤ h.length) (hq : p + n = q) (hp : cs[n]? = some (.inr (.inr (.inr (t, l))))) (ht : t < 6) (hk : xidx k j) (hj : j < l.length) (hr : xrcv (xkc t) (put h p cs, k0) (.ref r) = true) (he : cs.set n (.inr (.inr (.inr (t, l.set j (some r))))) = cs') (kk : yW S d m (nx, L, st, (put h p cs', k0)) Q) : yW S d m (pc, L, .ref r :: .int k :: .ref q :: st, (put h p cs, k0)) Q := by
  subst hq he
  refine y_aast hc (put_in hl hp) ht hk hj hr ?_
  show yW S d m (nx, L, st, ((put h p cs).set (p + n) _, k0)) Q
  rw [put_set hl (List.getElem?_eq_some_iff.mp hp).1]
  exact kk
theorem s_keep {S : List Int32} {d : Nat} (hd : 1 ≤ d) {h : xH} (hl : 113 + 6 ≤ h.length) (hl6 : h.length ≤ 1000000) (k0 : Nat × Nat) (len ps vc : Int32) (tx : List Int32) (cm : List (Option Nat)) (fi se : List Int32) (cnt v0 v1 : Nat) (h1 : cm.length = 16) (h2 : fi.length = 16) (h3 : se.length = 16) (hcn : cnt < 16) (c : Nat) (hc : c < 10) : yT S d 54 [.ref 113, .ref (1000000 + c)] (put h 113 (prC len ps (nI cnt) vc tx cm fi se [nI v0, nI v1]), k0) (· = (.inl none, (put h 113 (prC len ps (nI (cnt + 1)) vc tx (cm.set cnt (some (1000000 + c))) (fi.set cnt (nI v0)) (se.set cnt (nI v1)) [nI v0, nI v1]), k0))) := by
  obtain ⟨d, rfl⟩ : ∃ e, d = e + 1 := ⟨d - 1, by omega⟩
  have hx : (xco (1000000 + c) == some 1001) = true := by
    have : ∀ c, c < 10 → (xco (1000000 + c) == some 1001) = true := by decide +kernel
    exact this c hc
  refine yT_eq (Nat.le_of_ble_eq_true rfl) ?_
  show yW S d 54 (0, [.ref 113, .ref (1000000 + c)], [], (put h 113 (prC len ps (nI cnt) vc tx cm fi se [nI v0, nI v1]), k0)) _
  refine y_go rfl rfl ?_
  refine y_getR (w := .ref 115) (j := 0) rfl hl rfl rfl rfl rfl ?_
  refine y_go rfl rfl ?_
  refine y_getR (w := .int (nI cnt)) (j := 0) rfl hl rfl rfl rfl rfl ?_
  refine y_go rfl rfl ?_
  refine y_aastR (t := 5) (n := 2) (j := cnt) (cs' := (prC len ps (nI cnt) vc tx (cm.set cnt (some (1000000 + c))) fi se ([nI v0, nI v1]))) rfl hl rfl rfl (by decide) (xidx_nI (by omega)) (by omega) (xrcv_k (xnoh (by rw [put_len (cs := prC _ _ _ _ _ _ _ _ _) hl]; exact hl6) (by omega)) hx) rfl ?_
  refine y_go rfl rfl ?_
  refine y_getR (w := .ref 116) (j := 0) rfl hl rfl rfl rfl rfl ?_
  refine y_go rfl rfl ?_
  refine y_getR (w := .int (nI cnt)) (j := 0) rfl hl rfl rfl rfl rfl ?_
  refine y_go rfl rfl ?_
  refine y_getR (w := .ref 118) (j := 0) rfl hl rfl rfl rfl rfl ?_
  refine y_go rfl rfl ?_
  refine y_aldR (t := 0) (n := 5) (j := 0) (l := [nI v0, nI v1]) rfl (Or.inl ⟨rfl, rfl⟩) hl rfl rfl (by decide) rfl ?_
  refine y_astR (t := 0) (n := 3) (j := cnt) (y := (nI v0)) (cs' := (prC len ps (nI cnt) vc tx (cm.set cnt (some (1000000 + c))) (fi.set cnt (nI v0)) se ([nI v0, nI v1]))) rfl (Or.inl ⟨rfl, rfl⟩) hl rfl rfl (xidx_nI (by omega)) (by first | omega | (simp only [List.length_set]; omega)) rfl rfl ?_
  refine y_go rfl rfl ?_
  refine y_getR (w := .ref 117) (j := 0) rfl hl rfl rfl rfl rfl ?_
  refine y_go rfl rfl ?_
  refine y_getR (w := .int (nI cnt)) (j := 0) rfl hl rfl rfl rfl rfl ?_
  refine y_go rfl rfl ?_
  refine y_getR (w := .ref 118) (j := 0) rfl hl rfl rfl rfl rfl ?_
  refine y_go rfl rfl ?_
  refine y_aldR (t := 0) (n := 5) (j := 1) (l := [nI v0, nI v1]) rfl (Or.inl ⟨rfl, rfl⟩) hl rfl rfl (by decide) rfl ?_
  refine y_astR (t := 0) (n := 4) (j := cnt) (y := (nI v1)) (cs' := (prC len ps (nI cnt) vc tx (cm.set cnt (some (1000000 + c))) (fi.set cnt (nI v0)) (se.set cnt (nI v1)) ([nI v0, nI v1]))) rfl (Or.inl ⟨rfl, rfl⟩) hl rfl rfl (xidx_nI (by omega)) (by first | omega | (simp only [List.length_set]; omega)) rfl rfl ?_
  refine y_go rfl rfl ?_
  refine y_go rfl rfl ?_
  refine y_getR (w := .int (nI cnt)) (j := 0) rfl hl rfl rfl rfl rfl ?_
  refine y_go rfl rfl ?_
  refine y_go rfl rfl ?_
  rw [show nI cnt + 1 = nI (cnt + 1) from nI_1 cnt]
  refine y_putR (j := 0) (cs' := (prC len ps (nI (cnt + 1)) vc tx (cm.set cnt (some (1000000 + c))) (fi.set cnt (nI v0)) (se.set cnt (nI v1)) ([nI v0, nI v1]))) rfl hl rfl rfl (Nat.le_of_ble_eq_true rfl) (xf_int rfl) rfl ?_
  exact y_end rfl rfl rfl
