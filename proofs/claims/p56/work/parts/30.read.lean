/-! X7_requirePhase -/
def f_X7_requirePhase (zb : SX0) (zt : SX0) (zn : SX0) (zv : Int32) (zh : SX3) (zx : SX6) (zk : Int32) (zd : Int32) (ze : Int32) (zc : Int32) (p1 : Int32) : Option ((Unit ⊕ String) × SX7) :=
  (g_X2_has zb.1 p1).bind fun r2 =>
  (if r2 = 0 then some (.inr "java/lang/IndexOutOfBoundsException", (zb, zt, zn, zv, zh, zx, zk, zd, ze, zc)) else
  some (.inl (), (zb, zt, zn, zv, zh, zx, zk, zd, ze, zc)))
set_option maxRecDepth 100000 in
set_option maxHeartbeats 4000000 in
theorem m_X7_requirePhase (l : Launch) (hl0 : l.stackTraces = false) (dC : Nat → ClassId) (dI : Nat → Nat → Nat) (dA gz : Nat → Nat) (oa : Nat → Nat) (sz : Nat) (ln : LN) (zb : SX0) (zt : SX0) (zn : SX0) (zv : Int32) (zh : SX3) (zx : SX6) (zk : Int32) (zd : Int32) (ze : Int32) (zc : Int32) (p1 : Int32) (rr : Unit ⊕ String) (uu : SX7) (hf : f_X7_requirePhase zb zt zn zv zh zx zk zd ze zc p1 = some (rr, uu)) : vx_Met l yX7_requirePhase ws_X7_requirePhase ({ frames := 14, cells := 1, slots := 6, locals := 400 } : Room) (va_Pc [.ref (oa 0), .int p1] (pP (dC, dI) dA gz (wX7 dA oa (zb, zt, zn, zv, zh, zx, zk, zd, ze, zc) ln) sz)) (va_Qv (S := Unit) (fun _ => rr = Sum.inl ()) (fun _ t => pQ (dC, dI) (va_A (wX7 dA oa (zb, zt, zn, zv, zh, zx, zk, zd, ze, zc) ln) sz) (wX7 dA oa uu ln) t) (va_A (wX7 dA oa (zb, zt, zn, zv, zh, zx, zk, zd, ze, zc) ln) sz)) (XCx (dC, dI) (va_A (wX7 dA oa (zb, zt, zn, zv, zh, zx, zk, zd, ze, zc) ln) sz) rr (wX7 dA oa uu ln)) 1 6 (va_A (wX7 dA oa (zb, zt, zn, zv, zh, zx, zk, zd, ze, zc) ln) sz) := by
  refine vx_ofW (cc := cX7_requirePhase) (maxL := 2) (ret := none) (by decide) rfl ?_
  intro p e s m args below meth c s₁ B hml ht9 hv
  obtain ⟨rfl, hsz, hP, hK, hD0, hN, hZ⟩ := hv
  have hx := B.exec
  have hb := B.bytes
  have hr := B.returns
  have hts := atoms_spec (ws := ws_X7_requirePhase) B.pre
  have htb : ∀ w ∈ BIG, w.before _ s = true := fun w h => hts w (bg w h)
  have hown : s.vm.findClass RX7 = some m.cls := findClass_of_methodNamed B.named
  have hlocks := B.notSynchronized
  subst hsz
  have hD := hD0.self (sz := s.heap.size)
  generalize hAe : va_A (wX7 dA oa (zb, zt, zn, zv, zh, zx, zk, zd, ze, zc) ln) s.heap.size = A at hD hZ ⊢
  have hA : ∀ q : Nat, s.heap.size ≤ q → A q := fun q h => by rw [← hAe]; exact Or.inr h
  have hS : va_S A s.heap s.heap [] := va_S.rf
  have hP : va_P (dC, dI) vwCl ([[(oa 0, .inr (11, [.ref (oa 1), .ref (oa 14), .ref (oa 27), .int zv, .ref (oa 40), .ref (oa 146), .int zk, .ref (oa 152), .int zd, .int ze, .int zc]))], wX0 dA (fun k => oa (1 + k)) zb, wX0 dA (fun k => oa (14 + k)) zt, wX0 dA (fun k => oa (27 + k)) zn, wX3 dA (fun k => oa (40 + k)) zh, wX6 dA (fun k => oa (146 + k)) zx, wLN dA (oa 152) ln].flatten) s.heap := hP
  have hD : va_D A ([[(oa 0, .inr (11, [.ref (oa 1), .ref (oa 14), .ref (oa 27), .int zv, .ref (oa 40), .ref (oa 146), .int zk, .ref (oa 152), .int zd, .int ze, .int zc]))], wX0 dA (fun k => oa (1 + k)) zb, wX0 dA (fun k => oa (14 + k)) zt, wX0 dA (fun k => oa (27 + k)) zn, wX3 dA (fun k => oa (40 + k)) zh, wX6 dA (fun k => oa (146 + k)) zx, wLN dA (oa 152) ln].flatten) := hD
  have hl := lv_entry [.ref (oa 0), .int p1] (n := 2) (Nat.le_of_ble_eq_true rfl)
  rw [lg_entry_eq]
  generalize (lg_sl [.ref (oa 0), .int p1] ++ List.replicate (2 - (lg_sl [.ref (oa 0), .int p1]).length) Slot.unset).toArray = ls at hl ⊢
  have hl : lv_has ls 2 [(0, .ref (oa 0)), (1, .int p1)] := hl
  have in_X0 : ∀ w ∈ wsX00, w ∈ ws_X7_requirePhase := fun w h => bg _ (inB_X0 w h)
  have in_X7 : ∀ w ∈ wsX70, w ∈ ws_X7_requirePhase := fun w h => bg _ (inB_X7 w h)
  rw [f_X7_requirePhase] at hf
  refine lv_aload_n hx hb dX7_requirePhase_0 rfl (lv_at hl 0 rfl) ?_
  refine va_get (D := (dC, dI)) (ci := 11) (v := .ref (oa 1)) (C := RX7) (T := TX7) (N := 11) hx hb hts in_X7 hown hK hP 0 rfl rfl 0 (by decide) (hts _ (bg _ wd_274)) (fun _ h9 => h9) rfl dX7_requirePhase_1 ?_
  refine va_get (D := (dC, dI)) (ci := 4) (v := .ref (oa 2)) (C := RX0) (T := TX0) (N := 4) hx hb hts in_X0 hown hK hP 1 rfl rfl 0 (by decide) (hts _ (bg _ wd_167)) (fun _ h9 => h9) rfl dX7_requirePhase_4 ?_
  refine lv_iload_n hx hb dX7_requirePhase_7 rfl (lv_at hl 1 rfl) ?_
  obtain ⟨r2, eh1, hf⟩ := bd hf
  refine jr_i (va_runV (As := [.int p1]) (rest := []) ⟨hx, hb, hml, hown, hts⟩ (mt_X2_has l dC dI dA gz (fun k => oa (2 + k)) s.heap.size zb.1 p1 r2 eh1) (cwV 1 hts (gi_v bg wd_1040 wd_370 wd_371 wd_3 wd_372) rfl rfl rfl hd_X2_has ⟨Nat.le_of_ble_eq_true rfl, Nat.le_of_ble_eq_true rfl⟩) ⟨pP_blind, va_recv (ci := 6) (q0 := 2) hK hP rfl rfl, pP_pre hP hD hS hA hK hN hZ [2, 3, 4, 5] (by decide) rfl⟩ rfl rfl hl.1 rfl (lv_room (Nat.le_of_ble_eq_true rfl)) dX7_requirePhase_8 ⟨Nat.le_of_ble_eq_true rfl, Nat.le_of_ble_eq_true rfl⟩) hP hD hS hA [2, 3, 4, 5] rfl (fun H locs hP hS => ?_)
  refine lv_if_ne (tgt := 25) hx hb dX7_requirePhase_11 (by decide) (fun q3 => ?_) (fun q3 => ?_)
  · have hf := ie q3 hf
    obtain ⟨e8, e9⟩ := Prod.mk.inj (sm hf)
    refine W.widen (k := 1) (n := 6) (Nat.le_of_ble_eq_true rfl) (Nat.le_of_ble_eq_true rfl) ?_
    exact vx_ret (W.vret hx hb hr (fun t ht hW => ⟨⟨(), rfl, e8.symm, by rw [← e9, ht]; exact hP, by rw [← e9]; exact hD⟩, hS.F ht⟩) hS.2.2 dX7_requirePhase_25)
  · have hf := it q3 hf
    obtain ⟨e8, e9⟩ := Prod.mk.inj (sm hf)
    exact vx_throwSW hx hb hl0 hown (cls := "java/lang/IndexOutOfBoundsException") (text := "there is no such phase") (names := xn) (ik := 332) (is := 372) (ic := 336) (by decide) xn_fit (hts _ (bg _ wd_932)) (hts _ (bg _ wd_23)) (hZ.1 22 (by decide)).1 (th_336 htb hN) tg_336 hZ.2.2.2.2.2.1 hZ.2.2.2.2.2.2.1 hS (hl.1.trans hml.symm) dX7_requirePhase_14 dX7_requirePhase_17 dX7_requirePhase_18 dX7_requirePhase_21 dX7_requirePhase_24 (fun x9 hx9 => absurd (ht9 x9 hx9) id) (Nat.le_of_ble_eq_true rfl) (Nat.le_of_ble_eq_true rfl) (Nat.le_of_ble_eq_true rfl) (Nat.le_of_ble_eq_true rfl) hlocks (fun t hvm hz9 hq9 => by rw [← e9]; exact xq e8.symm hP hD hS hz9 hq9) hS.2.2 (Nat.le_of_ble_eq_true rfl) (Nat.le_of_ble_eq_true rfl)
/-! X7_requirePat -/
def f_X7_requirePat (zb : SX0) (zt : SX0) (zn : SX0) (zv : Int32) (zh : SX3) (zx : SX6) (zk : Int32) (zd : Int32) (ze : Int32) (zc : Int32) (p1 : Int32) : Option ((Unit ⊕ String) × SX7) :=
  (g_X4_has zb.2.2.1 p1).bind fun r2 =>
  (if r2 = 0 then some (.inr "java/lang/IndexOutOfBoundsException", (zb, zt, zn, zv, zh, zx, zk, zd, ze, zc)) else
  some (.inl (), (zb, zt, zn, zv, zh, zx, zk, zd, ze, zc)))
set_option maxRecDepth 100000 in
set_option maxHeartbeats 4000000 in
theorem m_X7_requirePat (l : Launch) (hl0 : l.stackTraces = false) (dC : Nat → ClassId) (dI : Nat → Nat → Nat) (dA gz : Nat → Nat) (oa : Nat → Nat) (sz : Nat) (ln : LN) (zb : SX0) (zt : SX0) (zn : SX0) (zv : Int32) (zh : SX3) (zx : SX6) (zk : Int32) (zd : Int32) (ze : Int32) (zc : Int32) (p1 : Int32) (rr : Unit ⊕ String) (uu : SX7) (hf : f_X7_requirePat zb zt zn zv zh zx zk zd ze zc p1 = some (rr, uu)) : vx_Met l yX7_requirePat ws_X7_requirePat ({ frames := 14, cells := 1, slots := 6, locals := 400 } : Room) (va_Pc [.ref (oa 0), .int p1] (pP (dC, dI) dA gz (wX7 dA oa (zb, zt, zn, zv, zh, zx, zk, zd, ze, zc) ln) sz)) (va_Qv (S := Unit) (fun _ => rr = Sum.inl ()) (fun _ t => pQ (dC, dI) (va_A (wX7 dA oa (zb, zt, zn, zv, zh, zx, zk, zd, ze, zc) ln) sz) (wX7 dA oa uu ln) t) (va_A (wX7 dA oa (zb, zt, zn, zv, zh, zx, zk, zd, ze, zc) ln) sz)) (XCx (dC, dI) (va_A (wX7 dA oa (zb, zt, zn, zv, zh, zx, zk, zd, ze, zc) ln) sz) rr (wX7 dA oa uu ln)) 1 6 (va_A (wX7 dA oa (zb, zt, zn, zv, zh, zx, zk, zd, ze, zc) ln) sz) := by
  refine vx_ofW (cc := cX7_requirePat) (maxL := 2) (ret := none) (by decide) rfl ?_
  intro p e s m args below meth c s₁ B hml ht9 hv
  obtain ⟨rfl, hsz, hP, hK, hD0, hN, hZ⟩ := hv
  have hx := B.exec
  have hb := B.bytes
  have hr := B.returns
  have hts := atoms_spec (ws := ws_X7_requirePat) B.pre
  have htb : ∀ w ∈ BIG, w.before _ s = true := fun w h => hts w (bg w h)
  have hown : s.vm.findClass RX7 = some m.cls := findClass_of_methodNamed B.named
  have hlocks := B.notSynchronized
  subst hsz
  have hD := hD0.self (sz := s.heap.size)
  generalize hAe : va_A (wX7 dA oa (zb, zt, zn, zv, zh, zx, zk, zd, ze, zc) ln) s.heap.size = A at hD hZ ⊢
  have hA : ∀ q : Nat, s.heap.size ≤ q → A q := fun q h => by rw [← hAe]; exact Or.inr h
  have hS : va_S A s.heap s.heap [] := va_S.rf
  have hP : va_P (dC, dI) vwCl ([[(oa 0, .inr (11, [.ref (oa 1), .ref (oa 14), .ref (oa 27), .int zv, .ref (oa 40), .ref (oa 146), .int zk, .ref (oa 152), .int zd, .int ze, .int zc]))], wX0 dA (fun k => oa (1 + k)) zb, wX0 dA (fun k => oa (14 + k)) zt, wX0 dA (fun k => oa (27 + k)) zn, wX3 dA (fun k => oa (40 + k)) zh, wX6 dA (fun k => oa (146 + k)) zx, wLN dA (oa 152) ln].flatten) s.heap := hP
  have hD : va_D A ([[(oa 0, .inr (11, [.ref (oa 1), .ref (oa 14), .ref (oa 27), .int zv, .ref (oa 40), .ref (oa 146), .int zk, .ref (oa 152), .int zd, .int ze, .int zc]))], wX0 dA (fun k => oa (1 + k)) zb, wX0 dA (fun k => oa (14 + k)) zt, wX0 dA (fun k => oa (27 + k)) zn, wX3 dA (fun k => oa (40 + k)) zh, wX6 dA (fun k => oa (146 + k)) zx, wLN dA (oa 152) ln].flatten) := hD
  have hl := lv_entry [.ref (oa 0), .int p1] (n := 2) (Nat.le_of_ble_eq_true rfl)
  rw [lg_entry_eq]
  generalize (lg_sl [.ref (oa 0), .int p1] ++ List.replicate (2 - (lg_sl [.ref (oa 0), .int p1]).length) Slot.unset).toArray = ls at hl ⊢
  have hl : lv_has ls 2 [(0, .ref (oa 0)), (1, .int p1)] := hl
  have in_X0 : ∀ w ∈ wsX00, w ∈ ws_X7_requirePat := fun w h => bg _ (inB_X0 w h)
  have in_X7 : ∀ w ∈ wsX70, w ∈ ws_X7_requirePat := fun w h => bg _ (inB_X7 w h)
  rw [f_X7_requirePat] at hf
  refine lv_aload_n hx hb dX7_requirePat_0 rfl (lv_at hl 0 rfl) ?_
  refine va_get (D := (dC, dI)) (ci := 11) (v := .ref (oa 1)) (C := RX7) (T := TX7) (N := 11) hx hb hts in_X7 hown hK hP 0 rfl rfl 0 (by decide) (hts _ (bg _ wd_274)) (fun _ h9 => h9) rfl dX7_requirePat_1 ?_
  refine va_get (D := (dC, dI)) (ci := 4) (v := .ref (oa 7)) (C := RX0) (T := TX0) (N := 4) hx hb hts in_X0 hown hK hP 1 rfl rfl 2 (by decide) (hts _ (bg _ wd_171)) (fun _ h9 => h9) rfl dX7_requirePat_4 ?_
  refine lv_iload_n hx hb dX7_requirePat_7 rfl (lv_at hl 1 rfl) ?_
  obtain ⟨r2, eh1, hf⟩ := bd hf
  refine jr_i (va_runV (As := [.int p1]) (rest := []) ⟨hx, hb, hml, hown, hts⟩ (mt_X4_has l dC dI dA gz (fun k => oa (7 + k)) s.heap.size zb.2.2.1 p1 r2 eh1) (cwV 1 hts (gi_v bg wd_1058 wd_741 wd_742 wd_5 wd_743) rfl rfl rfl hd_X4_has ⟨Nat.le_of_ble_eq_true rfl, Nat.le_of_ble_eq_true rfl⟩) ⟨pP_blind, va_recv (ci := 8) (q0 := 7) hK hP rfl rfl, pP_pre hP hD hS hA hK hN hZ [7, 8, 9, 10, 11] (by decide) rfl⟩ rfl rfl hl.1 rfl (lv_room (Nat.le_of_ble_eq_true rfl)) dX7_requirePat_8 ⟨Nat.le_of_ble_eq_true rfl, Nat.le_of_ble_eq_true rfl⟩) hP hD hS hA [7, 8, 9, 10, 11] rfl (fun H locs hP hS => ?_)
  refine lv_if_ne (tgt := 25) hx hb dX7_requirePat_11 (by decide) (fun q3 => ?_) (fun q3 => ?_)
  · have hf := ie q3 hf
    obtain ⟨e8, e9⟩ := Prod.mk.inj (sm hf)
    refine W.widen (k := 1) (n := 6) (Nat.le_of_ble_eq_true rfl) (Nat.le_of_ble_eq_true rfl) ?_
    exact vx_ret (W.vret hx hb hr (fun t ht hW => ⟨⟨(), rfl, e8.symm, by rw [← e9, ht]; exact hP, by rw [← e9]; exact hD⟩, hS.F ht⟩) hS.2.2 dX7_requirePat_25)
  · have hf := it q3 hf
    obtain ⟨e8, e9⟩ := Prod.mk.inj (sm hf)
    exact vx_throwSW hx hb hl0 hown (cls := "java/lang/IndexOutOfBoundsException") (text := "there is no such pat") (names := xn) (ik := 332) (is := 375) (ic := 336) (by decide) xn_fit (hts _ (bg _ wd_932)) (hts _ (bg _ wd_23)) (hZ.1 23 (by decide)).1 (th_336 htb hN) tg_336 hZ.2.2.2.2.2.1 hZ.2.2.2.2.2.2.1 hS (hl.1.trans hml.symm) dX7_requirePat_14 dX7_requirePat_17 dX7_requirePat_18 dX7_requirePat_21 dX7_requirePat_24 (fun x9 hx9 => absurd (ht9 x9 hx9) id) (Nat.le_of_ble_eq_true rfl) (Nat.le_of_ble_eq_true rfl) (Nat.le_of_ble_eq_true rfl) (Nat.le_of_ble_eq_true rfl) hlocks (fun t hvm hz9 hq9 => by rw [← e9]; exact xq e8.symm hP hD hS hz9 hq9) hS.2.2 (Nat.le_of_ble_eq_true rfl) (Nat.le_of_ble_eq_true rfl)
/-! X7_requireDenial -/
def f_X7_requireDenial (zb : SX0) (zt : SX0) (zn : SX0) (zv : Int32) (zh : SX3) (zx : SX6) (zk : Int32) (zd : Int32) (ze : Int32) (zc : Int32) : Option ((Unit ⊕ String) × SX7) :=
  (if zd = 0 then some (.inr "java/util/NoSuchElementException", (zb, zt, zn, zv, zh, zx, zk, zd, ze, zc)) else
  some (.inl (), (zb, zt, zn, zv, zh, zx, zk, zd, ze, zc)))
set_option maxRecDepth 100000 in
set_option maxHeartbeats 4000000 in
theorem m_X7_requireDenial (l : Launch) (hl0 : l.stackTraces = false) (dC : Nat → ClassId) (dI : Nat → Nat → Nat) (dA gz : Nat → Nat) (oa : Nat → Nat) (sz : Nat) (ln : LN) (zb : SX0) (zt : SX0) (zn : SX0) (zv : Int32) (zh : SX3) (zx : SX6) (zk : Int32) (zd : Int32) (ze : Int32) (zc : Int32) (rr : Unit ⊕ String) (uu : SX7) (hf : f_X7_requireDenial zb zt zn zv zh zx zk zd ze zc = some (rr, uu)) : vx_Met l yX7_requireDenial ws_X7_requireDenial ({ frames := 10, cells := 1, slots := 6, locals := 200 } : Room) (va_Pc [.ref (oa 0)] (pP (dC, dI) dA gz (wX7 dA oa (zb, zt, zn, zv, zh, zx, zk, zd, ze, zc) ln) sz)) (va_Qv (S := Unit) (fun _ => rr = Sum.inl ()) (fun _ t => pQ (dC, dI) (va_A (wX7 dA oa (zb, zt, zn, zv, zh, zx, zk, zd, ze, zc) ln) sz) (wX7 dA oa uu ln) t) (va_A (wX7 dA oa (zb, zt, zn, zv, zh, zx, zk, zd, ze, zc) ln) sz)) (XCx (dC, dI) (va_A (wX7 dA oa (zb, zt, zn, zv, zh, zx, zk, zd, ze, zc) ln) sz) rr (wX7 dA oa uu ln)) 1 6 (va_A (wX7 dA oa (zb, zt, zn, zv, zh, zx, zk, zd, ze, zc) ln) sz) := by
  refine vx_ofW (cc := cX7_requireDenial) (maxL := 1) (ret := none) (by decide) rfl ?_
  intro p e s m args below meth c s₁ B hml ht9 hv
  obtain ⟨rfl, hsz, hP, hK, hD0, hN, hZ⟩ := hv
  have hx := B.exec
  have hb := B.bytes
  have hr := B.returns
  have hts := atoms_spec (ws := ws_X7_requireDenial) B.pre
  have htb : ∀ w ∈ BIG, w.before _ s = true := fun w h => hts w (bg w h)
  have hown : s.vm.findClass RX7 = some m.cls := findClass_of_methodNamed B.named
  have hlocks := B.notSynchronized
  subst hsz
  have hD := hD0.self (sz := s.heap.size)
  generalize hAe : va_A (wX7 dA oa (zb, zt, zn, zv, zh, zx, zk, zd, ze, zc) ln) s.heap.size = A at hD hZ ⊢
  have hA : ∀ q : Nat, s.heap.size ≤ q → A q := fun q h => by rw [← hAe]; exact Or.inr h
  have hS : va_S A s.heap s.heap [] := va_S.rf
  have hP : va_P (dC, dI) vwCl ([[(oa 0, .inr (11, [.ref (oa 1), .ref (oa 14), .ref (oa 27), .int zv, .ref (oa 40), .ref (oa 146), .int zk, .ref (oa 152), .int zd, .int ze, .int zc]))], wX0 dA (fun k => oa (1 + k)) zb, wX0 dA (fun k => oa (14 + k)) zt, wX0 dA (fun k => oa (27 + k)) zn, wX3 dA (fun k => oa (40 + k)) zh, wX6 dA (fun k => oa (146 + k)) zx, wLN dA (oa 152) ln].flatten) s.heap := hP
  have hD : va_D A ([[(oa 0, .inr (11, [.ref (oa 1), .ref (oa 14), .ref (oa 27), .int zv, .ref (oa 40), .ref (oa 146), .int zk, .ref (oa 152), .int zd, .int ze, .int zc]))], wX0 dA (fun k => oa (1 + k)) zb, wX0 dA (fun k => oa (14 + k)) zt, wX0 dA (fun k => oa (27 + k)) zn, wX3 dA (fun k => oa (40 + k)) zh, wX6 dA (fun k => oa (146 + k)) zx, wLN dA (oa 152) ln].flatten) := hD
  have hl := lv_entry [.ref (oa 0)] (n := 1) (Nat.le_of_ble_eq_true rfl)
  rw [lg_entry_eq]
  generalize (lg_sl [.ref (oa 0)] ++ List.replicate (1 - (lg_sl [.ref (oa 0)]).length) Slot.unset).toArray = ls at hl ⊢
  have hl : lv_has ls 1 [(0, .ref (oa 0))] := hl
  have in_X7 : ∀ w ∈ wsX70, w ∈ ws_X7_requireDenial := fun w h => bg _ (inB_X7 w h)
  rw [f_X7_requireDenial] at hf
  refine lv_aload_n hx hb dX7_requireDenial_0 rfl (lv_at hl 0 rfl) ?_
  refine va_get (D := (dC, dI)) (ci := 11) (v := .int zd) (C := RX7) (T := TX7) (N := 11) hx hb hts in_X7 hown hK hP 0 rfl rfl 8 (by decide) (hts _ (bg _ wd_282)) (fun _ h9 => h9) rfl dX7_requireDenial_1 ?_
  refine lv_if_ne (tgt := 18) hx hb dX7_requireDenial_4 (by decide) (fun q1 => ?_) (fun q1 => ?_)
  · have hf := ie q1 hf
    obtain ⟨e8, e9⟩ := Prod.mk.inj (sm hf)
    refine W.widen (k := 1) (n := 6) (Nat.le_of_ble_eq_true rfl) (Nat.le_of_ble_eq_true rfl) ?_
    exact vx_ret (W.vret hx hb hr (fun t ht hW => ⟨⟨(), rfl, e8.symm, by rw [← e9, ht]; exact hP, by rw [← e9]; exact hD⟩, hS.F ht⟩) hS.2.2 dX7_requireDenial_18)
  · have hf := it q1 hf
    obtain ⟨e8, e9⟩ := Prod.mk.inj (sm hf)
    exact vn_throwSW ns_0 ns_1 ns_2 ns_5 (Y0 := "java/lang/RuntimeException") (r0 := ["java/lang/Exception"]) hx hb hl0 hown (cls := "java/util/NoSuchElementException") (text := "nothing was denied yet") (ik := 119) (is := 377) (ic := 123) (by decide) (by decide) (by decide) (hts _ (bg _ wd_807)) (hts _ (bg _ wd_22)) (hZ.1 13 (by decide)).1 (th_123 htb hN) tg_123 hZ.2.2.2.2.2.1 hZ.2.2.2.2.2.2.1 hS (hl.1.trans hml.symm) dX7_requireDenial_7 dX7_requireDenial_10 dX7_requireDenial_11 dX7_requireDenial_14 dX7_requireDenial_17 (fun x9 hx9 => absurd (ht9 x9 hx9) id) (Nat.le_of_ble_eq_true rfl) (Nat.le_of_ble_eq_true rfl) (Nat.le_of_ble_eq_true rfl) (Nat.le_of_ble_eq_true rfl) hlocks (fun t hvm hz9 hq9 => by rw [← e9]; exact xq e8.symm hP hD hS hz9 hq9) hS.2.2 (Nat.le_of_ble_eq_true rfl) (Nat.le_of_ble_eq_true rfl)
/-! X7_requireRightNumbers -/
def f_X7_requireRightNumbers (zb : SX0) (zt : SX0) (zn : SX0) (zv : Int32) (zh : SX3) (zx : SX6) (zk : Int32) (zd : Int32) (ze : Int32) (zc : Int32) (p1 : Int32) : Option ((Unit ⊕ String) × SX7) :=
  (if p1 = 8 then some (.inr "java/lang/IllegalArgumentException", (zb, zt, zn, zv, zh, zx, zk, zd, ze, zc)) else
  some (.inl (), (zb, zt, zn, zv, zh, zx, zk, zd, ze, zc)))
set_option maxRecDepth 100000 in
set_option maxHeartbeats 4000000 in
theorem m_X7_requireRightNumbers (l : Launch) (hl0 : l.stackTraces = false) (dC : Nat → ClassId) (dI : Nat → Nat → Nat) (dA gz : Nat → Nat) (oa : Nat → Nat) (sz : Nat) (ln : LN) (zb : SX0) (zt : SX0) (zn : SX0) (zv : Int32) (zh : SX3) (zx : SX6) (zk : Int32) (zd : Int32) (ze : Int32) (zc : Int32) (p1 : Int32) (rr : Unit ⊕ String) (uu : SX7) (hf : f_X7_requireRightNumbers zb zt zn zv zh zx zk zd ze zc p1 = some (rr, uu)) : vx_Met l yX7_requireRightNumbers ws_X7_requireRightNumbers ({ frames := 10, cells := 1, slots := 6, locals := 200 } : Room) (va_Pc [.ref (oa 0), .int p1] (pP (dC, dI) dA gz (wX7 dA oa (zb, zt, zn, zv, zh, zx, zk, zd, ze, zc) ln) sz)) (va_Qv (S := Unit) (fun _ => rr = Sum.inl ()) (fun _ t => pQ (dC, dI) (va_A (wX7 dA oa (zb, zt, zn, zv, zh, zx, zk, zd, ze, zc) ln) sz) (wX7 dA oa uu ln) t) (va_A (wX7 dA oa (zb, zt, zn, zv, zh, zx, zk, zd, ze, zc) ln) sz)) (XCx (dC, dI) (va_A (wX7 dA oa (zb, zt, zn, zv, zh, zx, zk, zd, ze, zc) ln) sz) rr (wX7 dA oa uu ln)) 1 6 (va_A (wX7 dA oa (zb, zt, zn, zv, zh, zx, zk, zd, ze, zc) ln) sz) := by
  refine vx_ofW (cc := cX7_requireRightNumbers) (maxL := 2) (ret := none) (by decide) rfl ?_
  intro p e s m args below meth c s₁ B hml ht9 hv
  obtain ⟨rfl, hsz, hP, hK, hD0, hN, hZ⟩ := hv
  have hx := B.exec
  have hb := B.bytes
  have hr := B.returns
  have hts := atoms_spec (ws := ws_X7_requireRightNumbers) B.pre
  have htb : ∀ w ∈ BIG, w.before _ s = true := fun w h => hts w (bg w h)
  have hown : s.vm.findClass RX7 = some m.cls := findClass_of_methodNamed B.named
  have hlocks := B.notSynchronized
  subst hsz
  have hD := hD0.self (sz := s.heap.size)
  generalize hAe : va_A (wX7 dA oa (zb, zt, zn, zv, zh, zx, zk, zd, ze, zc) ln) s.heap.size = A at hD hZ ⊢
  have hA : ∀ q : Nat, s.heap.size ≤ q → A q := fun q h => by rw [← hAe]; exact Or.inr h
  have hS : va_S A s.heap s.heap [] := va_S.rf
  have hP : va_P (dC, dI) vwCl ([[(oa 0, .inr (11, [.ref (oa 1), .ref (oa 14), .ref (oa 27), .int zv, .ref (oa 40), .ref (oa 146), .int zk, .ref (oa 152), .int zd, .int ze, .int zc]))], wX0 dA (fun k => oa (1 + k)) zb, wX0 dA (fun k => oa (14 + k)) zt, wX0 dA (fun k => oa (27 + k)) zn, wX3 dA (fun k => oa (40 + k)) zh, wX6 dA (fun k => oa (146 + k)) zx, wLN dA (oa 152) ln].flatten) s.heap := hP
  have hD : va_D A ([[(oa 0, .inr (11, [.ref (oa 1), .ref (oa 14), .ref (oa 27), .int zv, .ref (oa 40), .ref (oa 146), .int zk, .ref (oa 152), .int zd, .int ze, .int zc]))], wX0 dA (fun k => oa (1 + k)) zb, wX0 dA (fun k => oa (14 + k)) zt, wX0 dA (fun k => oa (27 + k)) zn, wX3 dA (fun k => oa (40 + k)) zh, wX6 dA (fun k => oa (146 + k)) zx, wLN dA (oa 152) ln].flatten) := hD
  have hl := lv_entry [.ref (oa 0), .int p1] (n := 2) (Nat.le_of_ble_eq_true rfl)
  rw [lg_entry_eq]
  generalize (lg_sl [.ref (oa 0), .int p1] ++ List.replicate (2 - (lg_sl [.ref (oa 0), .int p1]).length) Slot.unset).toArray = ls at hl ⊢
  have hl : lv_has ls 2 [(0, .ref (oa 0)), (1, .int p1)] := hl
  rw [f_X7_requireRightNumbers] at hf
  refine lv_iload_n hx hb dX7_requireRightNumbers_0 rfl (lv_at hl 1 rfl) ?_
  refine lv_bipush (v := 8) hx hb dX7_requireRightNumbers_1 (by decide) ?_
  refine lv_icmp_ne (tgt := 17) hx hb dX7_requireRightNumbers_3 (by decide) (fun q1 => ?_) (fun q1 => ?_)
  · have hf := ie q1 hf
    obtain ⟨e8, e9⟩ := Prod.mk.inj (sm hf)
    refine W.widen (k := 1) (n := 6) (Nat.le_of_ble_eq_true rfl) (Nat.le_of_ble_eq_true rfl) ?_
    exact vx_ret (W.vret hx hb hr (fun t ht hW => ⟨⟨(), rfl, e8.symm, by rw [← e9, ht]; exact hP, by rw [← e9]; exact hD⟩, hS.F ht⟩) hS.2.2 dX7_requireRightNumbers_17)
  · have hf := it q1 hf
    obtain ⟨e8, e9⟩ := Prod.mk.inj (sm hf)
    exact vx_throwSW hx hb hl0 hown (cls := "java/lang/IllegalArgumentException") (text := "there is no such kind, or a number is out of range") (names := xn) (ik := 244) (is := 379) (ic := 248) (by decide) xn_fit (hts _ (bg _ wd_377)) (hts _ (bg _ wd_18)) (hZ.1 0 (by decide)).1 (th_248 htb hN) tg_248 hZ.2.2.2.2.2.1 hZ.2.2.2.2.2.2.1 hS (hl.1.trans hml.symm) dX7_requireRightNumbers_6 dX7_requireRightNumbers_9 dX7_requireRightNumbers_10 dX7_requireRightNumbers_13 dX7_requireRightNumbers_16 (fun x9 hx9 => absurd (ht9 x9 hx9) id) (Nat.le_of_ble_eq_true rfl) (Nat.le_of_ble_eq_true rfl) (Nat.le_of_ble_eq_true rfl) (Nat.le_of_ble_eq_true rfl) hlocks (fun t hvm hz9 hq9 => by rw [← e9]; exact xq e8.symm hP hD hS hz9 hq9) hS.2.2 (Nat.le_of_ble_eq_true rfl) (Nat.le_of_ble_eq_true rfl)
/-! X7_requireRightIndex -/
def f_X7_requireRightIndex (zb : SX0) (zt : SX0) (zn : SX0) (zv : Int32) (zh : SX3) (zx : SX6) (zk : Int32) (zd : Int32) (ze : Int32) (zc : Int32) (p1 : Int32) : Option ((Unit ⊕ String) × SX7) :=
  (if p1 = 8 then some (.inr "java/lang/IndexOutOfBoundsException", (zb, zt, zn, zv, zh, zx, zk, zd, ze, zc)) else
  some (.inl (), (zb, zt, zn, zv, zh, zx, zk, zd, ze, zc)))
set_option maxRecDepth 100000 in
set_option maxHeartbeats 4000000 in
theorem m_X7_requireRightIndex (l : Launch) (hl0 : l.stackTraces = false) (dC : Nat → ClassId) (dI : Nat → Nat → Nat) (dA gz : Nat → Nat) (oa : Nat → Nat) (sz : Nat) (ln : LN) (zb : SX0) (zt : SX0) (zn : SX0) (zv : Int32) (zh : SX3) (zx : SX6) (zk : Int32) (zd : Int32) (ze : Int32) (zc : Int32) (p1 : Int32) (rr : Unit ⊕ String) (uu : SX7) (hf : f_X7_requireRightIndex zb zt zn zv zh zx zk zd ze zc p1 = some (rr, uu)) : vx_Met l yX7_requireRightIndex ws_X7_requireRightIndex ({ frames := 10, cells := 1, slots := 6, locals := 200 } : Room) (va_Pc [.ref (oa 0), .int p1] (pP (dC, dI) dA gz (wX7 dA oa (zb, zt, zn, zv, zh, zx, zk, zd, ze, zc) ln) sz)) (va_Qv (S := Unit) (fun _ => rr = Sum.inl ()) (fun _ t => pQ (dC, dI) (va_A (wX7 dA oa (zb, zt, zn, zv, zh, zx, zk, zd, ze, zc) ln) sz) (wX7 dA oa uu ln) t) (va_A (wX7 dA oa (zb, zt, zn, zv, zh, zx, zk, zd, ze, zc) ln) sz)) (XCx (dC, dI) (va_A (wX7 dA oa (zb, zt, zn, zv, zh, zx, zk, zd, ze, zc) ln) sz) rr (wX7 dA oa uu ln)) 1 6 (va_A (wX7 dA oa (zb, zt, zn, zv, zh, zx, zk, zd, ze, zc) ln) sz) := by
  refine vx_ofW (cc := cX7_requireRightIndex) (maxL := 2) (ret := none) (by decide) rfl ?_
  intro p e s m args below meth c s₁ B hml ht9 hv
  obtain ⟨rfl, hsz, hP, hK, hD0, hN, hZ⟩ := hv
  have hx := B.exec
  have hb := B.bytes
  have hr := B.returns
  have hts := atoms_spec (ws := ws_X7_requireRightIndex) B.pre
  have htb : ∀ w ∈ BIG, w.before _ s = true := fun w h => hts w (bg w h)
  have hown : s.vm.findClass RX7 = some m.cls := findClass_of_methodNamed B.named
  have hlocks := B.notSynchronized
  subst hsz
  have hD := hD0.self (sz := s.heap.size)
  generalize hAe : va_A (wX7 dA oa (zb, zt, zn, zv, zh, zx, zk, zd, ze, zc) ln) s.heap.size = A at hD hZ ⊢
  have hA : ∀ q : Nat, s.heap.size ≤ q → A q := fun q h => by rw [← hAe]; exact Or.inr h
  have hS : va_S A s.heap s.heap [] := va_S.rf
  have hP : va_P (dC, dI) vwCl ([[(oa 0, .inr (11, [.ref (oa 1), .ref (oa 14), .ref (oa 27), .int zv, .ref (oa 40), .ref (oa 146), .int zk, .ref (oa 152), .int zd, .int ze, .int zc]))], wX0 dA (fun k => oa (1 + k)) zb, wX0 dA (fun k => oa (14 + k)) zt, wX0 dA (fun k => oa (27 + k)) zn, wX3 dA (fun k => oa (40 + k)) zh, wX6 dA (fun k => oa (146 + k)) zx, wLN dA (oa 152) ln].flatten) s.heap := hP
  have hD : va_D A ([[(oa 0, .inr (11, [.ref (oa 1), .ref (oa 14), .ref (oa 27), .int zv, .ref (oa 40), .ref (oa 146), .int zk, .ref (oa 152), .int zd, .int ze, .int zc]))], wX0 dA (fun k => oa (1 + k)) zb, wX0 dA (fun k => oa (14 + k)) zt, wX0 dA (fun k => oa (27 + k)) zn, wX3 dA (fun k => oa (40 + k)) zh, wX6 dA (fun k => oa (146 + k)) zx, wLN dA (oa 152) ln].flatten) := hD
  have hl := lv_entry [.ref (oa 0), .int p1] (n := 2) (Nat.le_of_ble_eq_true rfl)
  rw [lg_entry_eq]
  generalize (lg_sl [.ref (oa 0), .int p1] ++ List.replicate (2 - (lg_sl [.ref (oa 0), .int p1]).length) Slot.unset).toArray = ls at hl ⊢
  have hl : lv_has ls 2 [(0, .ref (oa 0)), (1, .int p1)] := hl
  rw [f_X7_requireRightIndex] at hf
  refine lv_iload_n hx hb dX7_requireRightIndex_0 rfl (lv_at hl 1 rfl) ?_
  refine lv_bipush (v := 8) hx hb dX7_requireRightIndex_1 (by decide) ?_
  refine lv_icmp_ne (tgt := 17) hx hb dX7_requireRightIndex_3 (by decide) (fun q1 => ?_) (fun q1 => ?_)
  · have hf := ie q1 hf
    obtain ⟨e8, e9⟩ := Prod.mk.inj (sm hf)
    refine W.widen (k := 1) (n := 6) (Nat.le_of_ble_eq_true rfl) (Nat.le_of_ble_eq_true rfl) ?_
    exact vx_ret (W.vret hx hb hr (fun t ht hW => ⟨⟨(), rfl, e8.symm, by rw [← e9, ht]; exact hP, by rw [← e9]; exact hD⟩, hS.F ht⟩) hS.2.2 dX7_requireRightIndex_17)
  · have hf := it q1 hf
    obtain ⟨e8, e9⟩ := Prod.mk.inj (sm hf)
    exact vx_throwSW hx hb hl0 hown (cls := "java/lang/IndexOutOfBoundsException") (text := "there is no such index") (names := xn) (ik := 332) (is := 381) (ic := 336) (by decide) xn_fit (hts _ (bg _ wd_932)) (hts _ (bg _ wd_23)) (hZ.1 19 (by decide)).1 (th_336 htb hN) tg_336 hZ.2.2.2.2.2.1 hZ.2.2.2.2.2.2.1 hS (hl.1.trans hml.symm) dX7_requireRightIndex_6 dX7_requireRightIndex_9 dX7_requireRightIndex_10 dX7_requireRightIndex_13 dX7_requireRightIndex_16 (fun x9 hx9 => absurd (ht9 x9 hx9) id) (Nat.le_of_ble_eq_true rfl) (Nat.le_of_ble_eq_true rfl) (Nat.le_of_ble_eq_true rfl) (Nat.le_of_ble_eq_true rfl) hlocks (fun t hvm hz9 hq9 => by rw [← e9]; exact xq e8.symm hP hD hS hz9 hq9) hS.2.2 (Nat.le_of_ble_eq_true rfl) (Nat.le_of_ble_eq_true rfl)
/-! X7_keepDenial -/
def f_X7_keepDenial (zb : SX0) (zt : SX0) (zn : SX0) (zv : Int32) (zh : SX3) (zx : SX6) (zk : Int32) (zd : Int32) (ze : Int32) (zc : Int32) (p1 : Int32) (p2 : Int32) (p3 : Int32) : Option (SX7) :=
  some (zb, zt, zn, zv, zh, zx, zk, p1, p2, p3)
set_option maxRecDepth 100000 in
set_option maxHeartbeats 4000000 in
theorem m_X7_keepDenial (l : Launch) (dC : Nat → ClassId) (dI : Nat → Nat → Nat) (dA gz : Nat → Nat) (oa : Nat → Nat) (sz : Nat) (ln : LN) (zb : SX0) (zt : SX0) (zn : SX0) (zv : Int32) (zh : SX3) (zx : SX6) (zk : Int32) (zd : Int32) (ze : Int32) (zc : Int32) (p1 : Int32) (p2 : Int32) (p3 : Int32) (uu : SX7) (hf : f_X7_keepDenial zb zt zn zv zh zx zk zd ze zc p1 p2 p3 = some uu) : Met l yX7_keepDenial ws_X7_keepDenial ({ frames := 10, cells := 0, slots := 0, locals := 200 } : Room) (va_Pc [.ref (oa 0), .int p1, .int p2, .int p3] (pP (dC, dI) dA gz (wX7 dA oa (zb, zt, zn, zv, zh, zx, zk, zd, ze, zc) ln) sz)) (va_Qv (S := Unit) (fun _ => True) (fun _ t => pQ (dC, dI) (va_A (wX7 dA oa (zb, zt, zn, zv, zh, zx, zk, zd, ze, zc) ln) sz) (wX7 dA oa uu ln) t) (va_A (wX7 dA oa (zb, zt, zn, zv, zh, zx, zk, zd, ze, zc) ln) sz)) 0 0 (va_A (wX7 dA oa (zb, zt, zn, zv, zh, zx, zk, zd, ze, zc) ln) sz) := by
  refine Met.ofW (cc := cX7_keepDenial) (maxL := 4) (ret := none) (by decide) rfl ?_
  intro p e s m args below meth c s₁ B hml hv
  obtain ⟨rfl, hsz, hP, hK, hD0, hN, hZ⟩ := hv
  have hx := B.exec
  have hb := B.bytes
  have hr := B.returns
  have hts := atoms_spec (ws := ws_X7_keepDenial) B.pre
  have htb : ∀ w ∈ BIG, w.before _ s = true := fun w h => hts w (bg w h)
  have hown : s.vm.findClass RX7 = some m.cls := findClass_of_methodNamed B.named
  have hlocks := B.notSynchronized
  subst hsz
  have hD := hD0.self (sz := s.heap.size)
  generalize hAe : va_A (wX7 dA oa (zb, zt, zn, zv, zh, zx, zk, zd, ze, zc) ln) s.heap.size = A at hD hZ ⊢
  have hA : ∀ q : Nat, s.heap.size ≤ q → A q := fun q h => by rw [← hAe]; exact Or.inr h
  have hS : va_S A s.heap s.heap [] := va_S.rf
  have hP : va_P (dC, dI) vwCl ([[(oa 0, .inr (11, [.ref (oa 1), .ref (oa 14), .ref (oa 27), .int zv, .ref (oa 40), .ref (oa 146), .int zk, .ref (oa 152), .int zd, .int ze, .int zc]))], wX0 dA (fun k => oa (1 + k)) zb, wX0 dA (fun k => oa (14 + k)) zt, wX0 dA (fun k => oa (27 + k)) zn, wX3 dA (fun k => oa (40 + k)) zh, wX6 dA (fun k => oa (146 + k)) zx, wLN dA (oa 152) ln].flatten) s.heap := hP
  have hD : va_D A ([[(oa 0, .inr (11, [.ref (oa 1), .ref (oa 14), .ref (oa 27), .int zv, .ref (oa 40), .ref (oa 146), .int zk, .ref (oa 152), .int zd, .int ze, .int zc]))], wX0 dA (fun k => oa (1 + k)) zb, wX0 dA (fun k => oa (14 + k)) zt, wX0 dA (fun k => oa (27 + k)) zn, wX3 dA (fun k => oa (40 + k)) zh, wX6 dA (fun k => oa (146 + k)) zx, wLN dA (oa 152) ln].flatten) := hD
  have hl := lv_entry [.ref (oa 0), .int p1, .int p2, .int p3] (n := 4) (Nat.le_of_ble_eq_true rfl)
  rw [lg_entry_eq]
  generalize (lg_sl [.ref (oa 0), .int p1, .int p2, .int p3] ++ List.replicate (4 - (lg_sl [.ref (oa 0), .int p1, .int p2, .int p3]).length) Slot.unset).toArray = ls at hl ⊢
  have hl : lv_has ls 4 [(0, .ref (oa 0)), (1, .int p1), (2, .int p2), (3, .int p3)] := hl
  have in_X7 : ∀ w ∈ wsX70, w ∈ ws_X7_keepDenial := fun w h => bg _ (inB_X7 w h)
  rw [f_X7_keepDenial] at hf
  refine lv_aload_n hx hb dX7_keepDenial_0 rfl (lv_at hl 0 rfl) ?_
  refine lv_iload_n hx hb dX7_keepDenial_1 rfl (lv_at hl 1 rfl) ?_
  refine va_put (D := (dC, dI)) (ci := 11) (v := .int p1) (ty := .int) (C := RX7) (T := TX7) (N := 11) hx hb hts in_X7 tyX7 tyX7_ok nmX7 hown hK hP hD hS 0 rfl rfl 8 (by decide) (hts _ (bg _ wd_282)) (fun _ h9 => h9) rfl (by decide +kernel) rfl rfl (Nat.le_of_ble_eq_true rfl) dX7_keepDenial_2 (fun H locs hP hD hS => ?_)
  have hP : va_P (dC, dI) vwCl ([[(oa 0, .inr (11, [.ref (oa 1), .ref (oa 14), .ref (oa 27), .int zv, .ref (oa 40), .ref (oa 146), .int zk, .ref (oa 152), .int p1, .int ze, .int zc]))], wX0 dA (fun k => oa (1 + k)) zb, wX0 dA (fun k => oa (14 + k)) zt, wX0 dA (fun k => oa (27 + k)) zn, wX3 dA (fun k => oa (40 + k)) zh, wX6 dA (fun k => oa (146 + k)) zx, wLN dA (oa 152) ln].flatten : va_W) H := hP
  have hD : va_D A ([[(oa 0, .inr (11, [.ref (oa 1), .ref (oa 14), .ref (oa 27), .int zv, .ref (oa 40), .ref (oa 146), .int zk, .ref (oa 152), .int p1, .int ze, .int zc]))], wX0 dA (fun k => oa (1 + k)) zb, wX0 dA (fun k => oa (14 + k)) zt, wX0 dA (fun k => oa (27 + k)) zn, wX3 dA (fun k => oa (40 + k)) zh, wX6 dA (fun k => oa (146 + k)) zx, wLN dA (oa 152) ln].flatten) := hD
  refine lv_aload_n hx hb dX7_keepDenial_5 rfl (lv_at hl 0 rfl) ?_
  refine lv_iload_n hx hb dX7_keepDenial_6 rfl (lv_at hl 2 rfl) ?_
  refine va_put (D := (dC, dI)) (ci := 11) (v := .int p2) (ty := .int) (C := RX7) (T := TX7) (N := 11) hx hb hts in_X7 tyX7 tyX7_ok nmX7 hown hK hP hD hS 0 rfl rfl 9 (by decide) (hts _ (bg _ wd_283)) (fun _ h9 => h9) rfl (by decide +kernel) rfl rfl (Nat.le_of_ble_eq_true rfl) dX7_keepDenial_7 (fun H locs hP hD hS => ?_)
  have hP : va_P (dC, dI) vwCl ([[(oa 0, .inr (11, [.ref (oa 1), .ref (oa 14), .ref (oa 27), .int zv, .ref (oa 40), .ref (oa 146), .int zk, .ref (oa 152), .int p1, .int p2, .int zc]))], wX0 dA (fun k => oa (1 + k)) zb, wX0 dA (fun k => oa (14 + k)) zt, wX0 dA (fun k => oa (27 + k)) zn, wX3 dA (fun k => oa (40 + k)) zh, wX6 dA (fun k => oa (146 + k)) zx, wLN dA (oa 152) ln].flatten : va_W) H := hP
  have hD : va_D A ([[(oa 0, .inr (11, [.ref (oa 1), .ref (oa 14), .ref (oa 27), .int zv, .ref (oa 40), .ref (oa 146), .int zk, .ref (oa 152), .int p1, .int p2, .int zc]))], wX0 dA (fun k => oa (1 + k)) zb, wX0 dA (fun k => oa (14 + k)) zt, wX0 dA (fun k => oa (27 + k)) zn, wX3 dA (fun k => oa (40 + k)) zh, wX6 dA (fun k => oa (146 + k)) zx, wLN dA (oa 152) ln].flatten) := hD
  refine lv_aload_n hx hb dX7_keepDenial_10 rfl (lv_at hl 0 rfl) ?_
  refine lv_iload_n hx hb dX7_keepDenial_11 rfl (lv_at hl 3 rfl) ?_
  refine va_put (D := (dC, dI)) (ci := 11) (v := .int p3) (ty := .int) (C := RX7) (T := TX7) (N := 11) hx hb hts in_X7 tyX7 tyX7_ok nmX7 hown hK hP hD hS 0 rfl rfl 10 (by decide) (hts _ (bg _ wd_284)) (fun _ h9 => h9) rfl (by decide +kernel) rfl rfl (Nat.le_of_ble_eq_true rfl) dX7_keepDenial_12 (fun H locs hP hD hS => ?_)
  have hP : va_P (dC, dI) vwCl ([[(oa 0, .inr (11, [.ref (oa 1), .ref (oa 14), .ref (oa 27), .int zv, .ref (oa 40), .ref (oa 146), .int zk, .ref (oa 152), .int p1, .int p2, .int p3]))], wX0 dA (fun k => oa (1 + k)) zb, wX0 dA (fun k => oa (14 + k)) zt, wX0 dA (fun k => oa (27 + k)) zn, wX3 dA (fun k => oa (40 + k)) zh, wX6 dA (fun k => oa (146 + k)) zx, wLN dA (oa 152) ln].flatten : va_W) H := hP
  have hD : va_D A ([[(oa 0, .inr (11, [.ref (oa 1), .ref (oa 14), .ref (oa 27), .int zv, .ref (oa 40), .ref (oa 146), .int zk, .ref (oa 152), .int p1, .int p2, .int p3]))], wX0 dA (fun k => oa (1 + k)) zb, wX0 dA (fun k => oa (14 + k)) zt, wX0 dA (fun k => oa (27 + k)) zn, wX3 dA (fun k => oa (40 + k)) zh, wX6 dA (fun k => oa (146 + k)) zx, wLN dA (oa 152) ln].flatten) := hD
  have e9 := sm hf
  exact W.vret hx hb hr (fun t ht hW => ⟨⟨(), rfl, trivial, by rw [← e9, ht]; exact hP, by rw [← e9]; exact hD⟩, hS.F ht⟩) hS.2.2 dX7_keepDenial_15
/-! X7_requireAllowed -/
def f_X7_requireAllowed (zb : SX0) (zt : SX0) (zn : SX0) (zv : Int32) (zh : SX3) (zx : SX6) (zk : Int32) (zd : Int32) (ze : Int32) (zc : Int32) (p1 : Int32) (p2 : Int32) : Option ((Unit ⊕ String) × SX7) :=
  (if p1 = 0 then some (.inl (), (zb, zt, zn, zv, zh, zx, zk, zd, ze, zc)) else
  (g_X0_detailOf zb p1 p2).bind fun r3 =>
  b7 (f_X7_keepDenial zb zt zn zv zh zx zk zd ze zc p1 r3 0) fun c5_zb c5_zt c5_zn c5_zv c5_zh c5_zx c5_zk c5_zd c5_ze c5_zc =>
  some (.inr "java/lang/UnsupportedOperationException", (c5_zb, c5_zt, c5_zn, c5_zv, c5_zh, c5_zx, c5_zk, c5_zd, c5_ze, c5_zc)))
set_option maxRecDepth 100000 in
set_option maxHeartbeats 4000000 in
theorem m_X7_requireAllowed (l : Launch) (hl0 : l.stackTraces = false) (dC : Nat → ClassId) (dI : Nat → Nat → Nat) (dA gz : Nat → Nat) (oa : Nat → Nat) (sz : Nat) (ln : LN) (zb : SX0) (zt : SX0) (zn : SX0) (zv : Int32) (zh : SX3) (zx : SX6) (zk : Int32) (zd : Int32) (ze : Int32) (zc : Int32) (p1 : Int32) (p2 : Int32) (rr : Unit ⊕ String) (uu : SX7) (hf : f_X7_requireAllowed zb zt zn zv zh zx zk zd ze zc p1 p2 = some (rr, uu)) : vx_Met l yX7_requireAllowed ws_X7_requireAllowed ({ frames := 14, cells := 1, slots := 6, locals := 400 } : Room) (va_Pc [.ref (oa 0), .int p1, .int p2] (pP (dC, dI) dA gz (wX7 dA oa (zb, zt, zn, zv, zh, zx, zk, zd, ze, zc) ln) sz)) (va_Qv (S := Unit) (fun _ => rr = Sum.inl ()) (fun _ t => pQ (dC, dI) (va_A (wX7 dA oa (zb, zt, zn, zv, zh, zx, zk, zd, ze, zc) ln) sz) (wX7 dA oa uu ln) t) (va_A (wX7 dA oa (zb, zt, zn, zv, zh, zx, zk, zd, ze, zc) ln) sz)) (XCx (dC, dI) (va_A (wX7 dA oa (zb, zt, zn, zv, zh, zx, zk, zd, ze, zc) ln) sz) rr (wX7 dA oa uu ln)) 1 6 (va_A (wX7 dA oa (zb, zt, zn, zv, zh, zx, zk, zd, ze, zc) ln) sz) := by
  refine vx_ofW (cc := cX7_requireAllowed) (maxL := 3) (ret := none) (by decide) rfl ?_
  intro p e s m args below meth c s₁ B hml ht9 hv
  obtain ⟨rfl, hsz, hP, hK, hD0, hN, hZ⟩ := hv
  have hx := B.exec
  have hb := B.bytes
  have hr := B.returns
  have hts := atoms_spec (ws := ws_X7_requireAllowed) B.pre
  have htb : ∀ w ∈ BIG, w.before _ s = true := fun w h => hts w (bg w h)
  have hown : s.vm.findClass RX7 = some m.cls := findClass_of_methodNamed B.named
  have hlocks := B.notSynchronized
  subst hsz
  have hD := hD0.self (sz := s.heap.size)
  generalize hAe : va_A (wX7 dA oa (zb, zt, zn, zv, zh, zx, zk, zd, ze, zc) ln) s.heap.size = A at hD hZ ⊢
  have hA : ∀ q : Nat, s.heap.size ≤ q → A q := fun q h => by rw [← hAe]; exact Or.inr h
  have hS : va_S A s.heap s.heap [] := va_S.rf
  have hP : va_P (dC, dI) vwCl ([[(oa 0, .inr (11, [.ref (oa 1), .ref (oa 14), .ref (oa 27), .int zv, .ref (oa 40), .ref (oa 146), .int zk, .ref (oa 152), .int zd, .int ze, .int zc]))], wX0 dA (fun k => oa (1 + k)) zb, wX0 dA (fun k => oa (14 + k)) zt, wX0 dA (fun k => oa (27 + k)) zn, wX3 dA (fun k => oa (40 + k)) zh, wX6 dA (fun k => oa (146 + k)) zx, wLN dA (oa 152) ln].flatten) s.heap := hP
  have hD : va_D A ([[(oa 0, .inr (11, [.ref (oa 1), .ref (oa 14), .ref (oa 27), .int zv, .ref (oa 40), .ref (oa 146), .int zk, .ref (oa 152), .int zd, .int ze, .int zc]))], wX0 dA (fun k => oa (1 + k)) zb, wX0 dA (fun k => oa (14 + k)) zt, wX0 dA (fun k => oa (27 + k)) zn, wX3 dA (fun k => oa (40 + k)) zh, wX6 dA (fun k => oa (146 + k)) zx, wLN dA (oa 152) ln].flatten) := hD
  have hl := lv_entry [.ref (oa 0), .int p1, .int p2] (n := 3) (Nat.le_of_ble_eq_true rfl)
  rw [lg_entry_eq]
  generalize (lg_sl [.ref (oa 0), .int p1, .int p2] ++ List.replicate (3 - (lg_sl [.ref (oa 0), .int p1, .int p2]).length) Slot.unset).toArray = ls at hl ⊢
  have hl : lv_has ls 3 [(0, .ref (oa 0)), (1, .int p1), (2, .int p2)] := hl
  have in_X7 : ∀ w ∈ wsX70, w ∈ ws_X7_requireAllowed := fun w h => bg _ (inB_X7 w h)
  rw [f_X7_requireAllowed] at hf
  refine lv_iload_n hx hb dX7_requireAllowed_0 rfl (lv_at hl 1 rfl) ?_
  refine lv_if_eq (tgt := 30) hx hb dX7_requireAllowed_1 (by decide) (fun q1 => ?_) (fun q1 => ?_)
  · have hf := it q1 hf
    obtain ⟨e8, e9⟩ := Prod.mk.inj (sm hf)
    refine W.widen (k := 1) (n := 6) (Nat.le_of_ble_eq_true rfl) (Nat.le_of_ble_eq_true rfl) ?_
    exact vx_ret (W.vret hx hb hr (fun t ht hW => ⟨⟨(), rfl, e8.symm, by rw [← e9, ht]; exact hP, by rw [← e9]; exact hD⟩, hS.F ht⟩) hS.2.2 dX7_requireAllowed_30)
  · have hf := ie q1 hf
    refine lv_aload_n hx hb dX7_requireAllowed_4 rfl (lv_at hl 0 rfl) ?_
    refine lv_iload_n hx hb dX7_requireAllowed_5 rfl (lv_at hl 1 rfl) ?_
    refine lv_aload_n hx hb dX7_requireAllowed_6 rfl (lv_at hl 0 rfl) ?_
    refine va_get (D := (dC, dI)) (ci := 11) (v := .ref (oa 1)) (C := RX7) (T := TX7) (N := 11) hx hb hts in_X7 hown hK hP 0 rfl rfl 0 (by decide) (hts _ (bg _ wd_274)) (fun _ h9 => h9) rfl dX7_requireAllowed_7 ?_
    refine lv_iload_n hx hb dX7_requireAllowed_10 rfl (lv_at hl 1 rfl) ?_
    refine lv_iload_n hx hb dX7_requireAllowed_11 rfl (lv_at hl 2 rfl) ?_
    obtain ⟨r3, eh2, hf⟩ := bd hf
    refine jgr_i (va_runV (As := [.int p1, .int p2]) (rest := [.int p1, .ref (oa 0)]) ⟨hx, hb, hml, hown, hts⟩ (mt_X0_detailOf l dC dI dA gz (fun k => oa (1 + k)) s.heap.size zb p1 p2 r3 eh2) (cwV 2 hts (gi_v bg wd_453 wd_454 wd_455 wd_2 wd_456) rfl rfl rfl hd_X0_detailOf ⟨Nat.le_of_ble_eq_true rfl, Nat.le_of_ble_eq_true rfl⟩) ⟨pP_blind, va_recv (ci := 4) (q0 := 0) hK (seg_P hP 1 rfl) rfl rfl, pP_pre1 hP hD hS hA hK hN hZ 1 rfl⟩ rfl rfl hl.1 rfl (lv_room (Nat.le_of_ble_eq_true rfl)) dX7_requireAllowed_12 ⟨Nat.le_of_ble_eq_true rfl, Nat.le_of_ble_eq_true rfl⟩) hP hD hS hA 1 rfl (fun H locs hP hS => ?_)
    refine lv_iconst (v := 0) hx hb dX7_requireAllowed_15 (by decide) ?_
    obtain ⟨c5_zb, c5_zt, c5_zn, c5_zv, c5_zh, c5_zx, c5_zk, c5_zd, c5_ze, c5_zc, eh4, hf⟩ := b7_inv hf
    refine jw_v (w1 := wX7 dA oa (c5_zb, c5_zt, c5_zn, c5_zv, c5_zh, c5_zx, c5_zk, c5_zd, c5_ze, c5_zc) ln) (va_runV (As := [.int p1, .int r3, .int 0]) (rest := []) ⟨hx, hb, hml, hown, hts⟩ (m_X7_keepDenial l dC dI dA gz oa H.size ln zb zt zn zv zh zx zk zd ze zc p1 r3 0 (c5_zb, c5_zt, c5_zn, c5_zv, c5_zh, c5_zx, c5_zk, c5_zd, c5_ze, c5_zc) eh4) (cwV 3 hts (gi_v bg wd_457 wd_459 ws_3 wd_1 wd_460) rfl rfl rfl hd_X7_keepDenial ⟨Nat.le_of_ble_eq_true rfl, Nat.le_of_ble_eq_true rfl⟩) ⟨pP_blind, va_recv (ci := 11) (q0 := 0) hK hP rfl rfl, pP_preW hP hD hS hA hK hN hZ⟩ rfl rfl hl.1 rfl (lv_room (Nat.le_of_ble_eq_true rfl)) dX7_requireAllowed_16 ⟨Nat.le_of_ble_eq_true rfl, Nat.le_of_ble_eq_true rfl⟩) hD hS hA (fun H locs hP hD hS => ?_)
    have hP : va_P (dC, dI) vwCl ([[(oa 0, .inr (11, [.ref (oa 1), .ref (oa 14), .ref (oa 27), .int c5_zv, .ref (oa 40), .ref (oa 146), .int c5_zk, .ref (oa 152), .int c5_zd, .int c5_ze, .int c5_zc]))], wX0 dA (fun k => oa (1 + k)) c5_zb, wX0 dA (fun k => oa (14 + k)) c5_zt, wX0 dA (fun k => oa (27 + k)) c5_zn, wX3 dA (fun k => oa (40 + k)) c5_zh, wX6 dA (fun k => oa (146 + k)) c5_zx, wLN dA (oa 152) ln].flatten : va_W) H := hP
    have hD : va_D A ([[(oa 0, .inr (11, [.ref (oa 1), .ref (oa 14), .ref (oa 27), .int c5_zv, .ref (oa 40), .ref (oa 146), .int c5_zk, .ref (oa 152), .int c5_zd, .int c5_ze, .int c5_zc]))], wX0 dA (fun k => oa (1 + k)) c5_zb, wX0 dA (fun k => oa (14 + k)) c5_zt, wX0 dA (fun k => oa (27 + k)) c5_zn, wX3 dA (fun k => oa (40 + k)) c5_zh, wX6 dA (fun k => oa (146 + k)) c5_zx, wLN dA (oa 152) ln].flatten) := hD
    obtain ⟨e8, e9⟩ := Prod.mk.inj (sm hf)
    exact vx_throwSW hx hb hl0 hown (cls := "java/lang/UnsupportedOperationException") (text := "the call is denied") (names := xn) (ik := 305) (is := 386) (ic := 309) (by decide) xn_fit (hts _ (bg _ wd_461)) (hts _ (bg _ wd_19)) (hZ.1 1 (by decide)).1 (th_309 htb hN) tg_309 hZ.2.2.2.2.2.1 hZ.2.2.2.2.2.2.1 hS (hl.1.trans hml.symm) dX7_requireAllowed_19 dX7_requireAllowed_22 dX7_requireAllowed_23 dX7_requireAllowed_26 dX7_requireAllowed_29 (fun x9 hx9 => absurd (ht9 x9 hx9) id) (Nat.le_of_ble_eq_true rfl) (Nat.le_of_ble_eq_true rfl) (Nat.le_of_ble_eq_true rfl) (Nat.le_of_ble_eq_true rfl) hlocks (fun t hvm hz9 hq9 => by rw [← e9]; exact xq e8.symm hP hD hS hz9 hq9) hS.2.2 (Nat.le_of_ble_eq_true rfl) (Nat.le_of_ble_eq_true rfl)
/-! X7_tryMinutes -/
def f_X7_tryMinutes (zb : SX0) (zt : SX0) (zn : SX0) (zv : Int32) (zh : SX3) (zx : SX6) (zk : Int32) (zd : Int32) (ze : Int32) (zc : Int32) (p1 : Int32) : Option ((Unit ⊕ String) × SX7) :=
  (f_X7_isWithin p1 0 240).bind fun r2 =>
  (if r2 = 0 then some (.inr "java/lang/IllegalArgumentException", (zb, zt, zn, zv, zh, zx, zk, zd, ze, zc)) else
  (g_X0_copyFrom zt zb).bind fun c5 =>
  bP (g_X0_passMinutes c5 p1) fun r7 c8 =>
  some (.inl (), (zb, c8, zn, zv, zh, zx, zk, zd, ze, zc)))
set_option maxRecDepth 100000 in
set_option maxHeartbeats 4000000 in
theorem m_X7_tryMinutes (l : Launch) (hl0 : l.stackTraces = false) (dC : Nat → ClassId) (dI : Nat → Nat → Nat) (dA gz : Nat → Nat) (oa : Nat → Nat) (sz : Nat) (ln : LN) (zb : SX0) (zt : SX0) (zn : SX0) (zv : Int32) (zh : SX3) (zx : SX6) (zk : Int32) (zd : Int32) (ze : Int32) (zc : Int32) (p1 : Int32) (rr : Unit ⊕ String) (uu : SX7) (hf : f_X7_tryMinutes zb zt zn zv zh zx zk zd ze zc p1 = some (rr, uu)) : vx_Met l yX7_tryMinutes ws_X7_tryMinutes ({ frames := 30, cells := 1, slots := 6, locals := 1200 } : Room) (va_Pc [.ref (oa 0), .int p1] (pP (dC, dI) dA gz (wX7 dA oa (zb, zt, zn, zv, zh, zx, zk, zd, ze, zc) ln) sz)) (va_Qv (S := Unit) (fun _ => rr = Sum.inl ()) (fun _ t => pQ (dC, dI) (va_A (wX7 dA oa (zb, zt, zn, zv, zh, zx, zk, zd, ze, zc) ln) sz) (wX7 dA oa uu ln) t) (va_A (wX7 dA oa (zb, zt, zn, zv, zh, zx, zk, zd, ze, zc) ln) sz)) (XCx (dC, dI) (va_A (wX7 dA oa (zb, zt, zn, zv, zh, zx, zk, zd, ze, zc) ln) sz) rr (wX7 dA oa uu ln)) 1 6 (va_A (wX7 dA oa (zb, zt, zn, zv, zh, zx, zk, zd, ze, zc) ln) sz) := by
  refine vx_ofW (cc := cX7_tryMinutes) (maxL := 2) (ret := none) (by decide) rfl ?_
  intro p e s m args below meth c s₁ B hml ht9 hv
  obtain ⟨rfl, hsz, hP, hK, hD0, hN, hZ⟩ := hv
  have hx := B.exec
  have hb := B.bytes
  have hr := B.returns
  have hts := atoms_spec (ws := ws_X7_tryMinutes) B.pre
  have htb : ∀ w ∈ BIG, w.before _ s = true := fun w h => hts w (bg w h)
  have hown : s.vm.findClass RX7 = some m.cls := findClass_of_methodNamed B.named
  have hlocks := B.notSynchronized
  subst hsz
  have hD := hD0.self (sz := s.heap.size)
  generalize hAe : va_A (wX7 dA oa (zb, zt, zn, zv, zh, zx, zk, zd, ze, zc) ln) s.heap.size = A at hD hZ ⊢
  have hA : ∀ q : Nat, s.heap.size ≤ q → A q := fun q h => by rw [← hAe]; exact Or.inr h
  have hS : va_S A s.heap s.heap [] := va_S.rf
  have hP : va_P (dC, dI) vwCl ([[(oa 0, .inr (11, [.ref (oa 1), .ref (oa 14), .ref (oa 27), .int zv, .ref (oa 40), .ref (oa 146), .int zk, .ref (oa 152), .int zd, .int ze, .int zc]))], wX0 dA (fun k => oa (1 + k)) zb, wX0 dA (fun k => oa (14 + k)) zt, wX0 dA (fun k => oa (27 + k)) zn, wX3 dA (fun k => oa (40 + k)) zh, wX6 dA (fun k => oa (146 + k)) zx, wLN dA (oa 152) ln].flatten) s.heap := hP
  have hD : va_D A ([[(oa 0, .inr (11, [.ref (oa 1), .ref (oa 14), .ref (oa 27), .int zv, .ref (oa 40), .ref (oa 146), .int zk, .ref (oa 152), .int zd, .int ze, .int zc]))], wX0 dA (fun k => oa (1 + k)) zb, wX0 dA (fun k => oa (14 + k)) zt, wX0 dA (fun k => oa (27 + k)) zn, wX3 dA (fun k => oa (40 + k)) zh, wX6 dA (fun k => oa (146 + k)) zx, wLN dA (oa 152) ln].flatten) := hD
  have hl := lv_entry [.ref (oa 0), .int p1] (n := 2) (Nat.le_of_ble_eq_true rfl)
  rw [lg_entry_eq]
  generalize (lg_sl [.ref (oa 0), .int p1] ++ List.replicate (2 - (lg_sl [.ref (oa 0), .int p1]).length) Slot.unset).toArray = ls at hl ⊢
  have hl : lv_has ls 2 [(0, .ref (oa 0)), (1, .int p1)] := hl
  have in_X7 : ∀ w ∈ wsX70, w ∈ ws_X7_tryMinutes := fun w h => bg _ (inB_X7 w h)
  rw [f_X7_tryMinutes] at hf
  refine lv_iload_n hx hb dX7_tryMinutes_0 rfl (lv_at hl 1 rfl) ?_
  refine lv_iconst (v := 0) hx hb dX7_tryMinutes_1 (by decide) ?_
  refine lv_sipush (v := 240) hx hb dX7_tryMinutes_2 (by decide) ?_
  obtain ⟨r2, eh1, hf⟩ := bd hf
  refine jr_i (va_runS (As := [.int p1, .int 0, .int 240]) (rest := []) ⟨hx, hb, hml, hown, hts⟩ (m_X7_isWithin l dC dI dA gz  s.heap.size p1 0 240 r2 eh1) (cwS 3 hts (gi_s bg wd_1012 wd_363 wd_1 wd_364) rfl rfl rfl hd_X7_isWithin ⟨Nat.le_of_ble_eq_true rfl, Nat.le_of_ble_eq_true rfl⟩) ⟨pP_blind, pP_pre hP hD hS hA hK hN hZ [] (by decide) rfl⟩ rfl rfl hl.1 rfl (lv_room (Nat.le_of_ble_eq_true rfl)) dX7_tryMinutes_5 ⟨Nat.le_of_ble_eq_true rfl, Nat.le_of_ble_eq_true rfl⟩) hP hD hS hA [] rfl (fun H locs hP hS => ?_)
  refine lv_if_ne (tgt := 22) hx hb dX7_tryMinutes_8 (by decide) (fun q3 => ?_) (fun q3 => ?_)
  · have hf := ie q3 hf
    refine lv_aload_n hx hb dX7_tryMinutes_22 rfl (lv_at hl 0 rfl) ?_
    refine va_get (D := (dC, dI)) (ci := 11) (v := .ref (oa 14)) (C := RX7) (T := TX7) (N := 11) hx hb hts in_X7 hown hK hP 0 rfl rfl 1 (by decide) (hts _ (bg _ wd_275)) (fun _ h9 => h9) rfl dX7_tryMinutes_23 ?_
    refine lv_aload_n hx hb dX7_tryMinutes_26 rfl (lv_at hl 0 rfl) ?_
    refine va_get (D := (dC, dI)) (ci := 11) (v := .ref (oa 1)) (C := RX7) (T := TX7) (N := 11) hx hb hts in_X7 hown hK hP 0 rfl rfl 0 (by decide) (hts _ (bg _ wd_274)) (fun _ h9 => h9) rfl dX7_tryMinutes_27 ?_
    obtain ⟨c5, eh4, hf⟩ := bd hf
    refine jg2_v (va_runV (As := [.ref (oa 1)]) (rest := []) ⟨hx, hb, hml, hown, hts⟩ (mt_X0_copyFrom l dC dI dA gz (fun k => oa (14 + k)) (fun k => oa (1 + k)) H.size zt zb c5 eh4) (cwV 1 hts (gi_v bg wd_316 wd_317 wd_318 wd_2 wd_319) rfl rfl rfl hd_X0_copyFrom ⟨Nat.le_of_ble_eq_true rfl, Nat.le_of_ble_eq_true rfl⟩) ⟨pP_blind, va_recv (ci := 4) (q0 := 0) hK (seg_P hP 2 rfl) rfl rfl, pP_pre2 hP hD hS hA hK hN hZ 2 1 rfl rfl (by decide)⟩ rfl rfl hl.1 rfl (lv_room (Nat.le_of_ble_eq_true rfl)) dX7_tryMinutes_30 ⟨Nat.le_of_ble_eq_true rfl, Nat.le_of_ble_eq_true rfl⟩) hP hD hS hA 2 1 rfl rfl (by decide) (aX0 _ _ _ _) (fun H locs hP hD hS => ?_)
    have hP : va_P (dC, dI) vwCl ([[(oa 0, .inr (11, [.ref (oa 1), .ref (oa 14), .ref (oa 27), .int zv, .ref (oa 40), .ref (oa 146), .int zk, .ref (oa 152), .int zd, .int ze, .int zc]))], wX0 dA (fun k => oa (1 + k)) zb, wX0 dA (fun k => oa (14 + k)) c5, wX0 dA (fun k => oa (27 + k)) zn, wX3 dA (fun k => oa (40 + k)) zh, wX6 dA (fun k => oa (146 + k)) zx, wLN dA (oa 152) ln].flatten : va_W) H := hP
    have hD : va_D A ([[(oa 0, .inr (11, [.ref (oa 1), .ref (oa 14), .ref (oa 27), .int zv, .ref (oa 40), .ref (oa 146), .int zk, .ref (oa 152), .int zd, .int ze, .int zc]))], wX0 dA (fun k => oa (1 + k)) zb, wX0 dA (fun k => oa (14 + k)) c5, wX0 dA (fun k => oa (27 + k)) zn, wX3 dA (fun k => oa (40 + k)) zh, wX6 dA (fun k => oa (146 + k)) zx, wLN dA (oa 152) ln].flatten) := hD
    refine lv_aload_n hx hb dX7_tryMinutes_33 rfl (lv_at hl 0 rfl) ?_
    refine va_get (D := (dC, dI)) (ci := 11) (v := .ref (oa 14)) (C := RX7) (T := TX7) (N := 11) hx hb hts in_X7 hown hK hP 0 rfl rfl 1 (by decide) (hts _ (bg _ wd_275)) (fun _ h9 => h9) rfl dX7_tryMinutes_34 ?_
    refine lv_iload_n hx hb dX7_tryMinutes_37 rfl (lv_at hl 1 rfl) ?_
    obtain ⟨r7, c8, eh6, hf⟩ := bP_inv hf
    refine jg1_i (va_runV (As := [.int p1]) (rest := []) ⟨hx, hb, hml, hown, hts⟩ (mt_X0_passMinutes l dC dI dA gz (fun k => oa (14 + k)) H.size c5 p1 r7 c8 eh6) (cwV 1 hts (gi_v bg wd_547 wd_548 wd_549 wd_2 wd_550) rfl rfl rfl hd_X0_passMinutes ⟨Nat.le_of_ble_eq_true rfl, Nat.le_of_ble_eq_true rfl⟩) ⟨pP_blind, va_recv (ci := 4) (q0 := 0) hK (seg_P hP 2 rfl) rfl rfl, pP_pre1 hP hD hS hA hK hN hZ 2 rfl⟩ rfl rfl hl.1 rfl (lv_room (Nat.le_of_ble_eq_true rfl)) dX7_tryMinutes_38 ⟨Nat.le_of_ble_eq_true rfl, Nat.le_of_ble_eq_true rfl⟩) hP hD hS hA 2 rfl (aX0 _ _ _ _) (fun H locs hP hD hS => ?_)
    have hP : va_P (dC, dI) vwCl ([[(oa 0, .inr (11, [.ref (oa 1), .ref (oa 14), .ref (oa 27), .int zv, .ref (oa 40), .ref (oa 146), .int zk, .ref (oa 152), .int zd, .int ze, .int zc]))], wX0 dA (fun k => oa (1 + k)) zb, wX0 dA (fun k => oa (14 + k)) c8, wX0 dA (fun k => oa (27 + k)) zn, wX3 dA (fun k => oa (40 + k)) zh, wX6 dA (fun k => oa (146 + k)) zx, wLN dA (oa 152) ln].flatten : va_W) H := hP
    have hD : va_D A ([[(oa 0, .inr (11, [.ref (oa 1), .ref (oa 14), .ref (oa 27), .int zv, .ref (oa 40), .ref (oa 146), .int zk, .ref (oa 152), .int zd, .int ze, .int zc]))], wX0 dA (fun k => oa (1 + k)) zb, wX0 dA (fun k => oa (14 + k)) c8, wX0 dA (fun k => oa (27 + k)) zn, wX3 dA (fun k => oa (40 + k)) zh, wX6 dA (fun k => oa (146 + k)) zx, wLN dA (oa 152) ln].flatten) := hD
    refine lv_pop hx hb dX7_tryMinutes_41 rfl ?_
    obtain ⟨e8, e9⟩ := Prod.mk.inj (sm hf)
    refine W.widen (k := 1) (n := 6) (Nat.le_of_ble_eq_true rfl) (Nat.le_of_ble_eq_true rfl) ?_
    exact vx_ret (W.vret hx hb hr (fun t ht hW => ⟨⟨(), rfl, e8.symm, by rw [← e9, ht]; exact hP, by rw [← e9]; exact hD⟩, hS.F ht⟩) hS.2.2 dX7_tryMinutes_42)
  · have hf := it q3 hf
    obtain ⟨e8, e9⟩ := Prod.mk.inj (sm hf)
    exact vx_throwSW hx hb hl0 hown (cls := "java/lang/IllegalArgumentException") (text := "the number of minutes is out of range") (names := xn) (ik := 244) (is := 388) (ic := 248) (by decide) xn_fit (hts _ (bg _ wd_377)) (hts _ (bg _ wd_18)) (hZ.1 33 (by decide)).1 (th_248 htb hN) tg_248 hZ.2.2.2.2.2.1 hZ.2.2.2.2.2.2.1 hS (hl.1.trans hml.symm) dX7_tryMinutes_11 dX7_tryMinutes_14 dX7_tryMinutes_15 dX7_tryMinutes_18 dX7_tryMinutes_21 (fun x9 hx9 => absurd (ht9 x9 hx9) id) (Nat.le_of_ble_eq_true rfl) (Nat.le_of_ble_eq_true rfl) (Nat.le_of_ble_eq_true rfl) (Nat.le_of_ble_eq_true rfl) hlocks (fun t hvm hz9 hq9 => by rw [← e9]; exact xq e8.symm hP hD hS hz9 hq9) hS.2.2 (Nat.le_of_ble_eq_true rfl) (Nat.le_of_ble_eq_true rfl)
