/-! X7_requirePhase -/
def f_X7_requirePhase (zb : SX0) (zt : SX0) (zn : SX0) (zv : Int32) (zh : SX3) (zx : SX6) (zk : Int32) (zd : Int32) (ze : Int32) (zc : Int32) (p1 : Int32) : Option ((Unit ⊕ String) × SX7) :=
  (g_X2_has zb.1 p1).bind fun r2 =>
  (if r2 = 0 then some (.inr "java/lang/IndexOutOfBoundsException", (zb, zt, zn, zv, zh, zx, zk, zd, ze, zc)) else
  some (.inl (), (zb, zt, zn, zv, zh, zx, zk, zd, ze, zc)))
set_option maxRecDepth 100000 in
set_option maxHeartbeats 4000000 in
theorem m_X7_requirePhase (l : Launch) (hl0 : l.stackTraces = false) (dC : Nat → ClassId) (dI : Nat → Nat → Nat) (dA gz : Nat → Nat) (oa : Nat → Nat) (sz : Nat) (ln : LN) (zb : SX0) (zt : SX0) (zn : SX0) (zv : Int32) (zh : SX3) (zx : SX6) (zk : Int32) (zd : Int32) (ze : Int32) (zc : Int32) (p1 : Int32) (rr : Unit ⊕ String) (uu : SX7) (hf : f_X7_requirePhase zb zt zn zv zh zx zk zd ze zc p1 = some (rr, uu)) : vx_Met l yX7_requirePhase ws_X7_requirePhase ({ frames := 14, cells := 1, slots := 6, locals := 400 } : Room) (va_Pc [.ref (oa 0), .int p1] (pP (dC, dI) dA gz (wX7 dA oa (zb, zt, zn, zv, zh, zx, zk, zd, ze, zc) ln) sz)) (va_Qv (S := Unit) (fun _ => rr = Sum.inl ()) (fun _ t => pQ (dC, dI) (va_A (wX7 dA oa (zb, zt, zn, zv, zh, zx, zk, zd, ze, zc) ln) sz) (wX7 dA oa uu ln) t) (va_A (wX7 dA oa (zb, zt, zn, zv, zh, zx, zk, zd, ze, zc) ln) sz)) (XCx (dC, dI) (va_A (wX7 dA oa (zb, zt, zn, zv, zh, zx, zk, zd, ze, zc) ln) sz) rr (wX7 dA oa uu ln)) 1 6 (va_A (wX7 dA oa (zb, zt, zn, zv, zh, zx, zk, zd, ze, zc) ln) sz) := by
  refine vx_ofW (cc := cX7_requirePhase) (maxL := 2) (ret := none) (by decide) rfl ?_
  intro p e s m args below meth c s₁ B hml ht9 hv
  obtain ⟨rfl, hsz, hP, hK, hD0, hN, hZ⟩ := hv
  have hx := B.exec
  have hb := B.bytes
  have hr := B.returns
  have hts := atoms_spec (ws := ws_X7_requirePhase) B.pre
  have htb : ∀ w ∈ BIG, w.before _ s = true := fun w h => hts w (bg w h)
  have hown : s.vm.findClass RX7 = some m.cls := findClass_of_methodNamed B.named
  have hlocks := B.notSynchronized
  subst hsz
  have hD := hD0.self (sz := s.heap.size)
  generalize hAe : va_A (wX7 dA oa (zb, zt, zn, zv, zh, zx, zk, zd, ze, zc) ln) s.heap.size = A at hD hZ ⊢
  have hA : ∀ q : Nat, s.heap.size ≤ q → A q := fun q h => by rw [← hAe]; exact Or.inr h
  have hS : va_S A s.heap s.heap [] := va_S.rf
  have hP : va_P (dC, dI) vwCl ((oa 0, .inr (11, [.ref (oa 1), .ref (oa 14), .ref (oa 27), .int zv, .ref (oa 40), .ref (oa 146), .int zk, .ref (oa 152), .int zd, .int ze, .int zc])) :: (wX0 dA (fun k => oa (1 + k)) zb ++ (wX0 dA (fun k => oa (14 + k)) zt ++ (wX0 dA (fun k => oa (27 + k)) zn ++ (wX3 dA (fun k => oa (40 + k)) zh ++ (wX6 dA (fun k => oa (146 + k)) zx ++ wLN dA (oa 152) ln)))))) s.heap := hP
  have hD : va_D A ((oa 0, .inr (11, [.ref (oa 1), .ref (oa 14), .ref (oa 27), .int zv, .ref (oa 40), .ref (oa 146), .int zk, .ref (oa 152), .int zd, .int ze, .int zc])) :: (wX0 dA (fun k => oa (1 + k)) zb ++ (wX0 dA (fun k => oa (14 + k)) zt ++ (wX0 dA (fun k => oa (27 + k)) zn ++ (wX3 dA (fun k => oa (40 + k)) zh ++ (wX6 dA (fun k => oa (146 + k)) zx ++ wLN dA (oa 152) ln)))))) := hD
  have hl := lv_entry [.ref (oa 0), .int p1] (n := 2) (Nat.le_of_ble_eq_true rfl)
  rw [lg_entry_eq]
  generalize (lg_sl [.ref (oa 0), .int p1] ++ List.replicate (2 - (lg_sl [.ref (oa 0), .int p1]).length) Slot.unset).toArray = ls at hl ⊢
  have hl : lv_has ls 2 [(0, .ref (oa 0)), (1, .int p1)] := hl
  have in_X0 : ∀ w ∈ wsX00, w ∈ ws_X7_requirePhase := fun w h => bg _ (inB_X0 w h)
  have in_X7 : ∀ w ∈ wsX70, w ∈ ws_X7_requirePhase := fun w h => bg _ (inB_X7 w h)
  rw [f_X7_requirePhase] at hf
  refine lv_aload_n hx hb dX7_requirePhase_0 rfl (lv_at hl 0 rfl) ?_
  refine va_get (D := (dC, dI)) (ci := 11) (v := .ref (oa 1)) (C := RX7) (T := TX7) (N := 11) hx hb hts in_X7 hown hK hP 0 rfl rfl 0 (by decide) (hts _ (bg _ wd_274)) (fun _ h9 => h9) rfl dX7_requirePhase_1 ?_
  refine va_get (D := (dC, dI)) (ci := 4) (v := .ref (oa 2)) (C := RX0) (T := TX0) (N := 4) hx hb hts in_X0 hown hK hP 1 rfl rfl 0 (by decide) (hts _ (bg _ wd_167)) (fun _ h9 => h9) rfl dX7_requirePhase_4 ?_
  refine lv_iload_n hx hb dX7_requirePhase_7 rfl (lv_at hl 1 rfl) ?_
  obtain ⟨r2, e1, hf⟩ := bd hf
  refine jr_i (va_runV (As := [.int p1]) (rest := []) ⟨hx, hb, hml, hown, hts⟩ (mt_X2_has l dC dI dA gz (fun k => oa (2 + k)) s.heap.size zb.1 p1 r2 e1) (cwV 1 hts (gi_v bg wd_1040 wd_370 wd_371 wd_3 wd_372) rfl rfl rfl hd_X2_has ⟨Nat.le_of_ble_eq_true rfl, Nat.le_of_ble_eq_true rfl⟩) ⟨pP_blind, va_recv (ci := 6) (q0 := 2) hK hP rfl rfl, pP_pre hP hD hS hA hK hN hZ [2, 3, 4, 5] (by decide) rfl⟩ rfl rfl hl.1 rfl (lv_room (Nat.le_of_ble_eq_true rfl)) dX7_requirePhase_8 ⟨Nat.le_of_ble_eq_true rfl, Nat.le_of_ble_eq_true rfl⟩) hP hD hS hA [2, 3, 4, 5] rfl (fun H locs hP hS => ?_)
  refine lv_if_ne (tgt := 25) hx hb dX7_requirePhase_11 (by decide) (fun q3 => ?_) (fun q3 => ?_)
  · have hf := ie q3 hf
    obtain ⟨e8, e9⟩ := Prod.mk.inj (sm hf)
    refine W.widen (k := 1) (n := 6) (Nat.le_of_ble_eq_true rfl) (Nat.le_of_ble_eq_true rfl) ?_
    exact vx_ret (W.vret hx hb hr (fun t ht hW => ⟨⟨(), rfl, e8.symm, by rw [← e9, ht]; exact hP, by rw [← e9]; exact hD⟩, hS.F ht⟩) hS.2.2 dX7_requirePhase_25)
  · have hf := it q3 hf
    obtain ⟨e8, e9⟩ := Prod.mk.inj (sm hf)
    exact vx_throwSW hx hb hl0 hown (cls := "java/lang/IndexOutOfBoundsException") (text := "there is no such phase") (names := xn) (ik := 332) (is := 372) (ic := 336) (by decide) xn_fit (hts _ (bg _ wd_932)) (hts _ (bg _ wd_23)) (hZ.1 22 (by decide)).1 (th_336 htb hN) tg_336 hZ.2.2.2.2.2.1 hZ.2.2.2.2.2.2.1 hS (hl.1.trans hml.symm) dX7_requirePhase_14 dX7_requirePhase_17 dX7_requirePhase_18 dX7_requirePhase_21 dX7_requirePhase_24 (fun x9 hx9 => absurd (ht9 x9 hx9) id) (Nat.le_of_ble_eq_true rfl) (Nat.le_of_ble_eq_true rfl) (Nat.le_of_ble_eq_true rfl) (Nat.le_of_ble_eq_true rfl) hlocks (fun t hvm hz9 hq9 => by rw [← e9]; exact xq e8.symm hP hD hS hz9 hq9) hS.2.2 (Nat.le_of_ble_eq_true rfl) (Nat.le_of_ble_eq_true rfl)
/-! X7_requirePat -/
def f_X7_requirePat (zb : SX0) (zt : SX0) (zn : SX0) (zv : Int32) (zh : SX3) (zx : SX6) (zk : Int32) (zd : Int32) (ze : Int32) (zc : Int32) (p1 : Int32) : Option ((Unit ⊕ String) × SX7) :=
  (g_X4_has zb.2.2.1 p1).bind fun r2 =>
  (if r2 = 0 then some (.inr "java/lang/IndexOutOfBoundsException", (zb, zt, zn, zv, zh, zx, zk, zd, ze, zc)) else
  some (.inl (), (zb, zt, zn, zv, zh, zx, zk, zd, ze, zc)))
set_option maxRecDepth 100000 in
set_option maxHeartbeats 4000000 in
theorem m_X7_requirePat (l : Launch) (hl0 : l.stackTraces = false) (dC : Nat → ClassId) (dI : Nat → Nat → Nat) (dA gz : Nat → Nat) (oa : Nat → Nat) (sz : Nat) (ln : LN) (zb : SX0) (zt : SX0) (zn : SX0) (zv : Int32) (zh : SX3) (zx : SX6) (zk : Int32) (zd : Int32) (ze : Int32) (zc : Int32) (p1 : Int32) (rr : Unit ⊕ String) (uu : SX7) (hf : f_X7_requirePat zb zt zn zv zh zx zk zd ze zc p1 = some (rr, uu)) : vx_Met l yX7_requirePat ws_X7_requirePat ({ frames := 14, cells := 1, slots := 6, locals := 400 } : Room) (va_Pc [.ref (oa 0), .int p1] (pP (dC, dI) dA gz (wX7 dA oa (zb, zt, zn, zv, zh, zx, zk, zd, ze, zc) ln) sz)) (va_Qv (S := Unit) (fun _ => rr = Sum.inl ()) (fun _ t => pQ (dC, dI) (va_A (wX7 dA oa (zb, zt, zn, zv, zh, zx, zk, zd, ze, zc) ln) sz) (wX7 dA oa uu ln) t) (va_A (wX7 dA oa (zb, zt, zn, zv, zh, zx, zk, zd, ze, zc) ln) sz)) (XCx (dC, dI) (va_A (wX7 dA oa (zb, zt, zn, zv, zh, zx, zk, zd, ze, zc) ln) sz) rr (wX7 dA oa uu ln)) 1 6 (va_A (wX7 dA oa (zb, zt, zn, zv, zh, zx, zk, zd, ze, zc) ln) sz) := by
  refine vx_ofW (cc := cX7_requirePat) (maxL := 2) (ret := none) (by decide) rfl ?_
  intro p e s m args below meth c s₁ B hml ht9 hv
  obtain ⟨rfl, hsz, hP, hK, hD0, hN, hZ⟩ := hv
  have hx := B.exec
  have hb := B.bytes
  have hr := B.returns
  have hts := atoms_spec (ws := ws_X7_requirePat) B.pre
  have htb : ∀ w ∈ BIG, w.before _ s = true := fun w h => hts w (bg w h)
  have hown : s.vm.findClass RX7 = some m.cls := findClass_of_methodNamed B.named
  have hlocks := B.notSynchronized
  subst hsz
  have hD := hD0.self (sz := s.heap.size)
  generalize hAe : va_A (wX7 dA oa (zb, zt, zn, zv, zh, zx, zk, zd, ze, zc) ln) s.heap.size = A at hD hZ ⊢
  have hA : ∀ q : Nat, s.heap.size ≤ q → A q := fun q h => by rw [← hAe]; exact Or.inr h
  have hS : va_S A s.heap s.heap [] := va_S.rf
  have hP : va_P (dC, dI) vwCl ((oa 0, .inr (11, [.ref (oa 1), .ref (oa 14), .ref (oa 27), .int zv, .ref (oa 40), .ref (oa 146), .int zk, .ref (oa 152), .int zd, .int ze, .int zc])) :: (wX0 dA (fun k => oa (1 + k)) zb ++ (wX0 dA (fun k => oa (14 + k)) zt ++ (wX0 dA (fun k => oa (27 + k)) zn ++ (wX3 dA (fun k => oa (40 + k)) zh ++ (wX6 dA (fun k => oa (146 + k)) zx ++ wLN dA (oa 152) ln)))))) s.heap := hP
  have hD : va_D A ((oa 0, .inr (11, [.ref (oa 1), .ref (oa 14), .ref (oa 27), .int zv, .ref (oa 40), .ref (oa 146), .int zk, .ref (oa 152), .int zd, .int ze, .int zc])) :: (wX0 dA (fun k => oa (1 + k)) zb ++ (wX0 dA (fun k => oa (14 + k)) zt ++ (wX0 dA (fun k => oa (27 + k)) zn ++ (wX3 dA (fun k => oa (40 + k)) zh ++ (wX6 dA (fun k => oa (146 + k)) zx ++ wLN dA (oa 152) ln)))))) := hD
  have hl := lv_entry [.ref (oa 0), .int p1] (n := 2) (Nat.le_of_ble_eq_true rfl)
  rw [lg_entry_eq]
  generalize (lg_sl [.ref (oa 0), .int p1] ++ List.replicate (2 - (lg_sl [.ref (oa 0), .int p1]).length) Slot.unset).toArray = ls at hl ⊢
  have hl : lv_has ls 2 [(0, .ref (oa 0)), (1, .int p1)] := hl
  have in_X0 : ∀ w ∈ wsX00, w ∈ ws_X7_requirePat := fun w h => bg _ (inB_X0 w h)
  have in_X7 : ∀ w ∈ wsX70, w ∈ ws_X7_requirePat := fun w h => bg _ (inB_X7 w h)
  rw [f_X7_requirePat] at hf
  refine lv_aload_n hx hb dX7_requirePat_0 rfl (lv_at hl 0 rfl) ?_
  refine va_get (D := (dC, dI)) (ci := 11) (v := .ref (oa 1)) (C := RX7) (T := TX7) (N := 11) hx hb hts in_X7 hown hK hP 0 rfl rfl 0 (by decide) (hts _ (bg _ wd_274)) (fun _ h9 => h9) rfl dX7_requirePat_1 ?_
  refine va_get (D := (dC, dI)) (ci := 4) (v := .ref (oa 7)) (C := RX0) (T := TX0) (N := 4) hx hb hts in_X0 hown hK hP 1 rfl rfl 2 (by decide) (hts _ (bg _ wd_171)) (fun _ h9 => h9) rfl dX7_requirePat_4 ?_
  refine lv_iload_n hx hb dX7_requirePat_7 rfl (lv_at hl 1 rfl) ?_
  obtain ⟨r2, e1, hf⟩ := bd hf
  refine jr_i (va_runV (As := [.int p1]) (rest := []) ⟨hx, hb, hml, hown, hts⟩ (mt_X4_has l dC dI dA gz (fun k => oa (7 + k)) s.heap.size zb.2.2.1 p1 r2 e1) (cwV 1 hts (gi_v bg wd_1058 wd_741 wd_742 wd_5 wd_743) rfl rfl rfl hd_X4_has ⟨Nat.le_of_ble_eq_true rfl, Nat.le_of_ble_eq_true rfl⟩) ⟨pP_blind, va_recv (ci := 8) (q0 := 7) hK hP rfl rfl, pP_pre hP hD hS hA hK hN hZ [7, 8, 9, 10, 11] (by decide) rfl⟩ rfl rfl hl.1 rfl (lv_room (Nat.le_of_ble_eq_true rfl)) dX7_requirePat_8 ⟨Nat.le_of_ble_eq_true rfl, Nat.le_of_ble_eq_true rfl⟩) hP hD hS hA [7, 8, 9, 10, 11] rfl (fun H locs hP hS => ?_)
  refine lv_if_ne (tgt := 25) hx hb dX7_requirePat_11 (by decide) (fun q3 => ?_) (fun q3 => ?_)
  · have hf := ie q3 hf
    obtain ⟨e8, e9⟩ := Prod.mk.inj (sm hf)
    refine W.widen (k := 1) (n := 6) (Nat.le_of_ble_eq_true rfl) (Nat.le_of_ble_eq_true rfl) ?_
    exact vx_ret (W.vret hx hb hr (fun t ht hW => ⟨⟨(), rfl, e8.symm, by rw [← e9, ht]; exact hP, by rw [← e9]; exact hD⟩, hS.F ht⟩) hS.2.2 dX7_requirePat_25)
  · have hf := it q3 hf
    obtain ⟨e8, e9⟩ := Prod.mk.inj (sm hf)
    exact vx_throwSW hx hb hl0 hown (cls := "java/lang/IndexOutOfBoundsException") (text := "there is no such pat") (names := xn) (ik := 332) (is := 375) (ic := 336) (by decide) xn_fit (hts _ (bg _ wd_932)) (hts _ (bg _ wd_23)) (hZ.1 23 (by decide)).1 (th_336 htb hN) tg_336 hZ.2.2.2.2.2.1 hZ.2.2.2.2.2.2.1 hS (hl.1.trans hml.symm) dX7_requirePat_14 dX7_requirePat_17 dX7_requirePat_18 dX7_requirePat_21 dX7_requirePat_24 (fun x9 hx9 => absurd (ht9 x9 hx9) id) (Nat.le_of_ble_eq_true rfl) (Nat.le_of_ble_eq_true rfl) (Nat.le_of_ble_eq_true rfl) (Nat.le_of_ble_eq_true rfl) hlocks (fun t hvm hz9 hq9 => by rw [← e9]; exact xq e8.symm hP hD hS hz9 hq9) hS.2.2 (Nat.le_of_ble_eq_true rfl) (Nat.le_of_ble_eq_true rfl)
/-! X7_requireDenial -/
def f_X7_requireDenial (zb : SX0) (zt : SX0) (zn : SX0) (zv : Int32) (zh : SX3) (zx : SX6) (zk : Int32) (zd : Int32) (ze : Int32) (zc : Int32) : Option ((Unit ⊕ String) × SX7) :=
  (if zd = 0 then some (.inr "java/util/NoSuchElementException", (zb, zt, zn, zv, zh, zx, zk, zd, ze, zc)) else
  some (.inl (), (zb, zt, zn, zv, zh, zx, zk, zd, ze, zc)))
set_option maxRecDepth 100000 in
set_option maxHeartbeats 4000000 in
theorem m_X7_requireDenial (l : Launch) (hl0 : l.stackTraces = false) (dC : Nat → ClassId) (dI : Nat → Nat → Nat) (dA gz : Nat → Nat) (oa : Nat → Nat) (sz : Nat) (ln : LN) (zb : SX0) (zt : SX0) (zn : SX0) (zv : Int32) (zh : SX3) (zx : SX6) (zk : Int32) (zd : Int32) (ze : Int32) (zc : Int32) (rr : Unit ⊕ String) (uu : SX7) (hf : f_X7_requireDenial zb zt zn zv zh zx zk zd ze zc = some (rr, uu)) : vx_Met l yX7_requireDenial ws_X7_requireDenial ({ frames := 10, cells := 1, slots := 6, locals := 200 } : Room) (va_Pc [.ref (oa 0)] (pP (dC, dI) dA gz (wX7 dA oa (zb, zt, zn, zv, zh, zx, zk, zd, ze, zc) ln) sz)) (va_Qv (S := Unit) (fun _ => rr = Sum.inl ()) (fun _ t => pQ (dC, dI) (va_A (wX7 dA oa (zb, zt, zn, zv, zh, zx, zk, zd, ze, zc) ln) sz) (wX7 dA oa uu ln) t) (va_A (wX7 dA oa (zb, zt, zn, zv, zh, zx, zk, zd, ze, zc) ln) sz)) (XCx (dC, dI) (va_A (wX7 dA oa (zb, zt, zn, zv, zh, zx, zk, zd, ze, zc) ln) sz) rr (wX7 dA oa uu ln)) 1 6 (va_A (wX7 dA oa (zb, zt, zn, zv, zh, zx, zk, zd, ze, zc) ln) sz) := by
  refine vx_ofW (cc := cX7_requireDenial) (maxL := 1) (ret := none) (by decide) rfl ?_
  intro p e s m args below meth c s₁ B hml ht9 hv
  obtain ⟨rfl, hsz, hP, hK, hD0, hN, hZ⟩ := hv
  have hx := B.exec
  have hb := B.bytes
  have hr := B.returns
  have hts := atoms_spec (ws := ws_X7_requireDenial) B.pre
  have htb : ∀ w ∈ BIG, w.before _ s = true := fun w h => hts w (bg w h)
  have hown : s.vm.findClass RX7 = some m.cls := findClass_of_methodNamed B.named
  have hlocks := B.notSynchronized
  subst hsz
  have hD := hD0.self (sz := s.heap.size)
  generalize hAe : va_A (wX7 dA oa (zb, zt, zn, zv, zh, zx, zk, zd, ze, zc) ln) s.heap.size = A at hD hZ ⊢
  have hA : ∀ q : Nat, s.heap.size ≤ q → A q := fun q h => by rw [← hAe]; exact Or.inr h
  have hS : va_S A s.heap s.heap [] := va_S.rf
  have hP : va_P (dC, dI) vwCl ((oa 0, .inr (11, [.ref (oa 1), .ref (oa 14), .ref (oa 27), .int zv, .ref (oa 40), .ref (oa 146), .int zk, .ref (oa 152), .int zd, .int ze, .int zc])) :: (wX0 dA (fun k => oa (1 + k)) zb ++ (wX0 dA (fun k => oa (14 + k)) zt ++ (wX0 dA (fun k => oa (27 + k)) zn ++ (wX3 dA (fun k => oa (40 + k)) zh ++ (wX6 dA (fun k => oa (146 + k)) zx ++ wLN dA (oa 152) ln)))))) s.heap := hP
  have hD : va_D A ((oa 0, .inr (11, [.ref (oa 1), .ref (oa 14), .ref (oa 27), .int zv, .ref (oa 40), .ref (oa 146), .int zk, .ref (oa 152), .int zd, .int ze, .int zc])) :: (wX0 dA (fun k => oa (1 + k)) zb ++ (wX0 dA (fun k => oa (14 + k)) zt ++ (wX0 dA (fun k => oa (27 + k)) zn ++ (wX3 dA (fun k => oa (40 + k)) zh ++ (wX6 dA (fun k => oa (146 + k)) zx ++ wLN dA (oa 152) ln)))))) := hD
  have hl := lv_entry [.ref (oa 0)] (n := 1) (Nat.le_of_ble_eq_true rfl)
  rw [lg_entry_eq]
  generalize (lg_sl [.ref (oa 0)] ++ List.replicate (1 - (lg_sl [.ref (oa 0)]).length) Slot.unset).toArray = ls at hl ⊢
  have hl : lv_has ls 1 [(0, .ref (oa 0))] := hl
  have in_X7 : ∀ w ∈ wsX70, w ∈ ws_X7_requireDenial := fun w h => bg _ (inB_X7 w h)
  rw [f_X7_requireDenial] at hf
  refine lv_aload_n hx hb dX7_requireDenial_0 rfl (lv_at hl 0 rfl) ?_
  refine va_get (D := (dC, dI)) (ci := 11) (v := .int zd) (C := RX7) (T := TX7) (N := 11) hx hb hts in_X7 hown hK hP 0 rfl rfl 8 (by decide) (hts _ (bg _ wd_282)) (fun _ h9 => h9) rfl dX7_requireDenial_1 ?_
  refine lv_if_ne (tgt := 18) hx hb dX7_requireDenial_4 (by decide) (fun q1 => ?_) (fun q1 => ?_)
  · have hf := ie q1 hf
    obtain ⟨e8, e9⟩ := Prod.mk.inj (sm hf)
    refine W.widen (k := 1) (n := 6) (Nat.le_of_ble_eq_true rfl) (Nat.le_of_ble_eq_true rfl) ?_
    exact vx_ret (W.vret hx hb hr (fun t ht hW => ⟨⟨(), rfl, e8.symm, by rw [← e9, ht]; exact hP, by rw [← e9]; exact hD⟩, hS.F ht⟩) hS.2.2 dX7_requireDenial_18)
  · have hf := it q1 hf
    obtain ⟨e8, e9⟩ := Prod.mk.inj (sm hf)
    exact vn_throwSW ns_0 ns_1 ns_2 ns_5 (Y0 := "java/lang/RuntimeException") (r0 := ["java/lang/Exception"]) hx hb hl0 hown (cls := "java/util/NoSuchElementException") (text := "nothing was denied yet") (ik := 119) (is := 377) (ic := 123) (by decide) (by decide) (by decide) (hts _ (bg _ wd_807)) (hts _ (bg _ wd_22)) (hZ.1 13 (by decide)).1 (th_123 htb hN) tg_123 hZ.2.2.2.2.2.1 hZ.2.2.2.2.2.2.1 hS (hl.1.trans hml.symm) dX7_requireDenial_7 dX7_requireDenial_10 dX7_requireDenial_11 dX7_requireDenial_14 dX7_requireDenial_17 (fun x9 hx9 => absurd (ht9 x9 hx9) id) (Nat.le_of_ble_eq_true rfl) (Nat.le_of_ble_eq_true rfl) (Nat.le_of_ble_eq_true rfl) (Nat.le_of_ble_eq_true rfl) hlocks (fun t hvm hz9 hq9 => by rw [← e9]; exact xq e8.symm hP hD hS hz9 hq9) hS.2.2 (Nat.le_of_ble_eq_true rfl) (Nat.le_of_ble_eq_true rfl)
/-! X7_phaseCount -/
def f_X7_phaseCount (zb : SX0) (zt : SX0) (zn : SX0) (zv : Int32) (zh : SX3) (zx : SX6) (zk : Int32) (zd : Int32) (ze : Int32) (zc : Int32) : Option (Int32) :=
  some zb.1.2.2.2.1
set_option maxRecDepth 100000 in
set_option maxHeartbeats 4000000 in
theorem m_X7_phaseCount (l : Launch) (dC : Nat → ClassId) (dI : Nat → Nat → Nat) (dA gz : Nat → Nat) (oa : Nat → Nat) (sz : Nat) (ln : LN) (zb : SX0) (zt : SX0) (zn : SX0) (zv : Int32) (zh : SX3) (zx : SX6) (zk : Int32) (zd : Int32) (ze : Int32) (zc : Int32) (rr : Int32) (hf : f_X7_phaseCount zb zt zn zv zh zx zk zd ze zc = some rr) : Met l yX7_phaseCount ws_X7_phaseCount ({ frames := 10, cells := 0, slots := 0, locals := 200 } : Room) (va_Pc [.ref (oa 0)] (pP (dC, dI) dA gz (wX7 dA oa (zb, zt, zn, zv, zh, zx, zk, zd, ze, zc) ln) sz)) (va_Qi (S := Unit) (fun r' _ => r' = rr) (fun _ t => pQ (dC, dI) (va_A (wX7 dA oa (zb, zt, zn, zv, zh, zx, zk, zd, ze, zc) ln) sz) (wX7 dA oa (zb, zt, zn, zv, zh, zx, zk, zd, ze, zc) ln) t) (va_A (wX7 dA oa (zb, zt, zn, zv, zh, zx, zk, zd, ze, zc) ln) sz)) 0 0 (va_A (wX7 dA oa (zb, zt, zn, zv, zh, zx, zk, zd, ze, zc) ln) sz) := by
  refine Met.ofW (cc := cX7_phaseCount) (maxL := 1) (ret := (some .int)) (by decide) rfl ?_
  intro p e s m args below meth c s₁ B hml hv
  obtain ⟨rfl, hsz, hP, hK, hD0, hN, hZ⟩ := hv
  have hx := B.exec
  have hb := B.bytes
  have hr := B.returns
  have hts := atoms_spec (ws := ws_X7_phaseCount) B.pre
  have htb : ∀ w ∈ BIG, w.before _ s = true := fun w h => hts w (bg w h)
  have hown : s.vm.findClass RX7 = some m.cls := findClass_of_methodNamed B.named
  have hlocks := B.notSynchronized
  subst hsz
  have hD := hD0.self (sz := s.heap.size)
  generalize hAe : va_A (wX7 dA oa (zb, zt, zn, zv, zh, zx, zk, zd, ze, zc) ln) s.heap.size = A at hD hZ ⊢
  have hA : ∀ q : Nat, s.heap.size ≤ q → A q := fun q h => by rw [← hAe]; exact Or.inr h
  have hS : va_S A s.heap s.heap [] := va_S.rf
  have hP : va_P (dC, dI) vwCl ((oa 0, .inr (11, [.ref (oa 1), .ref (oa 14), .ref (oa 27), .int zv, .ref (oa 40), .ref (oa 146), .int zk, .ref (oa 152), .int zd, .int ze, .int zc])) :: (wX0 dA (fun k => oa (1 + k)) zb ++ (wX0 dA (fun k => oa (14 + k)) zt ++ (wX0 dA (fun k => oa (27 + k)) zn ++ (wX3 dA (fun k => oa (40 + k)) zh ++ (wX6 dA (fun k => oa (146 + k)) zx ++ wLN dA (oa 152) ln)))))) s.heap := hP
  have hD : va_D A ((oa 0, .inr (11, [.ref (oa 1), .ref (oa 14), .ref (oa 27), .int zv, .ref (oa 40), .ref (oa 146), .int zk, .ref (oa 152), .int zd, .int ze, .int zc])) :: (wX0 dA (fun k => oa (1 + k)) zb ++ (wX0 dA (fun k => oa (14 + k)) zt ++ (wX0 dA (fun k => oa (27 + k)) zn ++ (wX3 dA (fun k => oa (40 + k)) zh ++ (wX6 dA (fun k => oa (146 + k)) zx ++ wLN dA (oa 152) ln)))))) := hD
  have hl := lv_entry [.ref (oa 0)] (n := 1) (Nat.le_of_ble_eq_true rfl)
  rw [lg_entry_eq]
  generalize (lg_sl [.ref (oa 0)] ++ List.replicate (1 - (lg_sl [.ref (oa 0)]).length) Slot.unset).toArray = ls at hl ⊢
  have hl : lv_has ls 1 [(0, .ref (oa 0))] := hl
  have in_X0 : ∀ w ∈ wsX00, w ∈ ws_X7_phaseCount := fun w h => bg _ (inB_X0 w h)
  have in_X2 : ∀ w ∈ wsX20, w ∈ ws_X7_phaseCount := fun w h => bg _ (inB_X2 w h)
  have in_X7 : ∀ w ∈ wsX70, w ∈ ws_X7_phaseCount := fun w h => bg _ (inB_X7 w h)
  rw [f_X7_phaseCount] at hf
  refine lv_aload_n hx hb dX7_phaseCount_0 rfl (lv_at hl 0 rfl) ?_
  refine va_get (D := (dC, dI)) (ci := 11) (v := .ref (oa 1)) (C := RX7) (T := TX7) (N := 11) hx hb hts in_X7 hown hK hP 0 rfl rfl 0 (by decide) (hts _ (bg _ wd_274)) (fun _ h9 => h9) rfl dX7_phaseCount_1 ?_
  refine va_get (D := (dC, dI)) (ci := 4) (v := .ref (oa 2)) (C := RX0) (T := TX0) (N := 4) hx hb hts in_X0 hown hK hP 1 rfl rfl 0 (by decide) (hts _ (bg _ wd_167)) (fun _ h9 => h9) rfl dX7_phaseCount_4 ?_
  refine va_get (D := (dC, dI)) (ci := 6) (v := .int zb.1.2.2.2.1) (C := RX2) (T := TX2) (N := 7) hx hb hts in_X2 hown hK hP 2 rfl rfl 3 (by decide) (hts _ (bg _ wd_62)) (fun _ h9 => h9) rfl dX7_phaseCount_7 ?_
  exact W.iret hx hb hr (fun t ht hW => ⟨⟨_, (), rfl, sm hf, by rw [ht]; exact hP, hD⟩, hS.F ht⟩) hS.2.2 dX7_phaseCount_10
/-! X7_mass -/
def f_X7_mass (zb : SX0) (zt : SX0) (zn : SX0) (zv : Int32) (zh : SX3) (zx : SX6) (zk : Int32) (zd : Int32) (ze : Int32) (zc : Int32) : Option (Int32) :=
  some zb.2.1.1
set_option maxRecDepth 100000 in
set_option maxHeartbeats 4000000 in
theorem m_X7_mass (l : Launch) (dC : Nat → ClassId) (dI : Nat → Nat → Nat) (dA gz : Nat → Nat) (oa : Nat → Nat) (sz : Nat) (ln : LN) (zb : SX0) (zt : SX0) (zn : SX0) (zv : Int32) (zh : SX3) (zx : SX6) (zk : Int32) (zd : Int32) (ze : Int32) (zc : Int32) (rr : Int32) (hf : f_X7_mass zb zt zn zv zh zx zk zd ze zc = some rr) : Met l yX7_mass ws_X7_mass ({ frames := 10, cells := 0, slots := 0, locals := 200 } : Room) (va_Pc [.ref (oa 0)] (pP (dC, dI) dA gz (wX7 dA oa (zb, zt, zn, zv, zh, zx, zk, zd, ze, zc) ln) sz)) (va_Qi (S := Unit) (fun r' _ => r' = rr) (fun _ t => pQ (dC, dI) (va_A (wX7 dA oa (zb, zt, zn, zv, zh, zx, zk, zd, ze, zc) ln) sz) (wX7 dA oa (zb, zt, zn, zv, zh, zx, zk, zd, ze, zc) ln) t) (va_A (wX7 dA oa (zb, zt, zn, zv, zh, zx, zk, zd, ze, zc) ln) sz)) 0 0 (va_A (wX7 dA oa (zb, zt, zn, zv, zh, zx, zk, zd, ze, zc) ln) sz) := by
  refine Met.ofW (cc := cX7_mass) (maxL := 1) (ret := (some .int)) (by decide) rfl ?_
  intro p e s m args below meth c s₁ B hml hv
  obtain ⟨rfl, hsz, hP, hK, hD0, hN, hZ⟩ := hv
  have hx := B.exec
  have hb := B.bytes
  have hr := B.returns
  have hts := atoms_spec (ws := ws_X7_mass) B.pre
  have htb : ∀ w ∈ BIG, w.before _ s = true := fun w h => hts w (bg w h)
  have hown : s.vm.findClass RX7 = some m.cls := findClass_of_methodNamed B.named
  have hlocks := B.notSynchronized
  subst hsz
  have hD := hD0.self (sz := s.heap.size)
  generalize hAe : va_A (wX7 dA oa (zb, zt, zn, zv, zh, zx, zk, zd, ze, zc) ln) s.heap.size = A at hD hZ ⊢
  have hA : ∀ q : Nat, s.heap.size ≤ q → A q := fun q h => by rw [← hAe]; exact Or.inr h
  have hS : va_S A s.heap s.heap [] := va_S.rf
  have hP : va_P (dC, dI) vwCl ((oa 0, .inr (11, [.ref (oa 1), .ref (oa 14), .ref (oa 27), .int zv, .ref (oa 40), .ref (oa 146), .int zk, .ref (oa 152), .int zd, .int ze, .int zc])) :: (wX0 dA (fun k => oa (1 + k)) zb ++ (wX0 dA (fun k => oa (14 + k)) zt ++ (wX0 dA (fun k => oa (27 + k)) zn ++ (wX3 dA (fun k => oa (40 + k)) zh ++ (wX6 dA (fun k => oa (146 + k)) zx ++ wLN dA (oa 152) ln)))))) s.heap := hP
  have hD : va_D A ((oa 0, .inr (11, [.ref (oa 1), .ref (oa 14), .ref (oa 27), .int zv, .ref (oa 40), .ref (oa 146), .int zk, .ref (oa 152), .int zd, .int ze, .int zc])) :: (wX0 dA (fun k => oa (1 + k)) zb ++ (wX0 dA (fun k => oa (14 + k)) zt ++ (wX0 dA (fun k => oa (27 + k)) zn ++ (wX3 dA (fun k => oa (40 + k)) zh ++ (wX6 dA (fun k => oa (146 + k)) zx ++ wLN dA (oa 152) ln)))))) := hD
  have hl := lv_entry [.ref (oa 0)] (n := 1) (Nat.le_of_ble_eq_true rfl)
  rw [lg_entry_eq]
  generalize (lg_sl [.ref (oa 0)] ++ List.replicate (1 - (lg_sl [.ref (oa 0)]).length) Slot.unset).toArray = ls at hl ⊢
  have hl : lv_has ls 1 [(0, .ref (oa 0))] := hl
  have in_X0 : ∀ w ∈ wsX00, w ∈ ws_X7_mass := fun w h => bg _ (inB_X0 w h)
  have in_X1 : ∀ w ∈ wsX10, w ∈ ws_X7_mass := fun w h => bg _ (inB_X1 w h)
  have in_X7 : ∀ w ∈ wsX70, w ∈ ws_X7_mass := fun w h => bg _ (inB_X7 w h)
  rw [f_X7_mass] at hf
  refine lv_aload_n hx hb dX7_mass_0 rfl (lv_at hl 0 rfl) ?_
  refine va_get (D := (dC, dI)) (ci := 11) (v := .ref (oa 1)) (C := RX7) (T := TX7) (N := 11) hx hb hts in_X7 hown hK hP 0 rfl rfl 0 (by decide) (hts _ (bg _ wd_274)) (fun _ h9 => h9) rfl dX7_mass_1 ?_
  refine va_get (D := (dC, dI)) (ci := 4) (v := .ref (oa 6)) (C := RX0) (T := TX0) (N := 4) hx hb hts in_X0 hown hK hP 1 rfl rfl 1 (by decide) (hts _ (bg _ wd_169)) (fun _ h9 => h9) rfl dX7_mass_4 ?_
  refine va_get (D := (dC, dI)) (ci := 5) (v := .int zb.2.1.1) (C := RX1) (T := TX1) (N := 4) hx hb hts in_X1 hown hK hP 6 rfl rfl 0 (by decide) (hts _ (bg _ wd_95)) (fun _ h9 => h9) rfl dX7_mass_7 ?_
  exact W.iret hx hb hr (fun t ht hW => ⟨⟨_, (), rfl, sm hf, by rw [ht]; exact hP, hD⟩, hS.F ht⟩) hS.2.2 dX7_mass_10
/-! X7_temperature -/
def f_X7_temperature (zb : SX0) (zt : SX0) (zn : SX0) (zv : Int32) (zh : SX3) (zx : SX6) (zk : Int32) (zd : Int32) (ze : Int32) (zc : Int32) : Option (Int32) :=
  some zb.2.1.2.1
set_option maxRecDepth 100000 in
set_option maxHeartbeats 4000000 in
theorem m_X7_temperature (l : Launch) (dC : Nat → ClassId) (dI : Nat → Nat → Nat) (dA gz : Nat → Nat) (oa : Nat → Nat) (sz : Nat) (ln : LN) (zb : SX0) (zt : SX0) (zn : SX0) (zv : Int32) (zh : SX3) (zx : SX6) (zk : Int32) (zd : Int32) (ze : Int32) (zc : Int32) (rr : Int32) (hf : f_X7_temperature zb zt zn zv zh zx zk zd ze zc = some rr) : Met l yX7_temperature ws_X7_temperature ({ frames := 10, cells := 0, slots := 0, locals := 200 } : Room) (va_Pc [.ref (oa 0)] (pP (dC, dI) dA gz (wX7 dA oa (zb, zt, zn, zv, zh, zx, zk, zd, ze, zc) ln) sz)) (va_Qi (S := Unit) (fun r' _ => r' = rr) (fun _ t => pQ (dC, dI) (va_A (wX7 dA oa (zb, zt, zn, zv, zh, zx, zk, zd, ze, zc) ln) sz) (wX7 dA oa (zb, zt, zn, zv, zh, zx, zk, zd, ze, zc) ln) t) (va_A (wX7 dA oa (zb, zt, zn, zv, zh, zx, zk, zd, ze, zc) ln) sz)) 0 0 (va_A (wX7 dA oa (zb, zt, zn, zv, zh, zx, zk, zd, ze, zc) ln) sz) := by
  refine Met.ofW (cc := cX7_temperature) (maxL := 1) (ret := (some .int)) (by decide) rfl ?_
  intro p e s m args below meth c s₁ B hml hv
  obtain ⟨rfl, hsz, hP, hK, hD0, hN, hZ⟩ := hv
  have hx := B.exec
  have hb := B.bytes
  have hr := B.returns
  have hts := atoms_spec (ws := ws_X7_temperature) B.pre
  have htb : ∀ w ∈ BIG, w.before _ s = true := fun w h => hts w (bg w h)
  have hown : s.vm.findClass RX7 = some m.cls := findClass_of_methodNamed B.named
  have hlocks := B.notSynchronized
  subst hsz
  have hD := hD0.self (sz := s.heap.size)
  generalize hAe : va_A (wX7 dA oa (zb, zt, zn, zv, zh, zx, zk, zd, ze, zc) ln) s.heap.size = A at hD hZ ⊢
  have hA : ∀ q : Nat, s.heap.size ≤ q → A q := fun q h => by rw [← hAe]; exact Or.inr h
  have hS : va_S A s.heap s.heap [] := va_S.rf
  have hP : va_P (dC, dI) vwCl ((oa 0, .inr (11, [.ref (oa 1), .ref (oa 14), .ref (oa 27), .int zv, .ref (oa 40), .ref (oa 146), .int zk, .ref (oa 152), .int zd, .int ze, .int zc])) :: (wX0 dA (fun k => oa (1 + k)) zb ++ (wX0 dA (fun k => oa (14 + k)) zt ++ (wX0 dA (fun k => oa (27 + k)) zn ++ (wX3 dA (fun k => oa (40 + k)) zh ++ (wX6 dA (fun k => oa (146 + k)) zx ++ wLN dA (oa 152) ln)))))) s.heap := hP
  have hD : va_D A ((oa 0, .inr (11, [.ref (oa 1), .ref (oa 14), .ref (oa 27), .int zv, .ref (oa 40), .ref (oa 146), .int zk, .ref (oa 152), .int zd, .int ze, .int zc])) :: (wX0 dA (fun k => oa (1 + k)) zb ++ (wX0 dA (fun k => oa (14 + k)) zt ++ (wX0 dA (fun k => oa (27 + k)) zn ++ (wX3 dA (fun k => oa (40 + k)) zh ++ (wX6 dA (fun k => oa (146 + k)) zx ++ wLN dA (oa 152) ln)))))) := hD
  have hl := lv_entry [.ref (oa 0)] (n := 1) (Nat.le_of_ble_eq_true rfl)
  rw [lg_entry_eq]
  generalize (lg_sl [.ref (oa 0)] ++ List.replicate (1 - (lg_sl [.ref (oa 0)]).length) Slot.unset).toArray = ls at hl ⊢
  have hl : lv_has ls 1 [(0, .ref (oa 0))] := hl
  have in_X0 : ∀ w ∈ wsX00, w ∈ ws_X7_temperature := fun w h => bg _ (inB_X0 w h)
  have in_X1 : ∀ w ∈ wsX10, w ∈ ws_X7_temperature := fun w h => bg _ (inB_X1 w h)
  have in_X7 : ∀ w ∈ wsX70, w ∈ ws_X7_temperature := fun w h => bg _ (inB_X7 w h)
  rw [f_X7_temperature] at hf
  refine lv_aload_n hx hb dX7_temperature_0 rfl (lv_at hl 0 rfl) ?_
  refine va_get (D := (dC, dI)) (ci := 11) (v := .ref (oa 1)) (C := RX7) (T := TX7) (N := 11) hx hb hts in_X7 hown hK hP 0 rfl rfl 0 (by decide) (hts _ (bg _ wd_274)) (fun _ h9 => h9) rfl dX7_temperature_1 ?_
  refine va_get (D := (dC, dI)) (ci := 4) (v := .ref (oa 6)) (C := RX0) (T := TX0) (N := 4) hx hb hts in_X0 hown hK hP 1 rfl rfl 1 (by decide) (hts _ (bg _ wd_169)) (fun _ h9 => h9) rfl dX7_temperature_4 ?_
  refine va_get (D := (dC, dI)) (ci := 5) (v := .int zb.2.1.2.1) (C := RX1) (T := TX1) (N := 4) hx hb hts in_X1 hown hK hP 6 rfl rfl 1 (by decide) (hts _ (bg _ wd_98)) (fun _ h9 => h9) rfl dX7_temperature_7 ?_
  exact W.iret hx hb hr (fun t ht hW => ⟨⟨_, (), rfl, sm hf, by rw [ht]; exact hP, hD⟩, hS.F ht⟩) hS.2.2 dX7_temperature_10
/-! X7_phaseKind -/
def f_X7_phaseKind (zb : SX0) (zt : SX0) (zn : SX0) (zv : Int32) (zh : SX3) (zx : SX6) (zk : Int32) (zd : Int32) (ze : Int32) (zc : Int32) (p1 : Int32) : Option ((Int32 ⊕ String) × SX7) :=
  bE7 (f_X7_requirePhase zb zt zn zv zh zx zk zd ze zc p1) fun _ c2_zb c2_zt c2_zn c2_zv c2_zh c2_zx c2_zk c2_zd c2_ze c2_zc =>
  if p1 < 0 ∨ 8 ≤ p1.toNatClampNeg then none else
  if ¬ (0 ≤ (c2_zb.1.1 p1.toNatClampNeg) ∧ (c2_zb.1.1 p1.toNatClampNeg) ≤ 65535) then none else
  some (.inl (c2_zb.1.1 p1.toNatClampNeg), (c2_zb, c2_zt, c2_zn, c2_zv, c2_zh, c2_zx, c2_zk, c2_zd, c2_ze, c2_zc))
set_option maxRecDepth 100000 in
set_option maxHeartbeats 4000000 in
theorem m_X7_phaseKind (l : Launch) (hl0 : l.stackTraces = false) (dC : Nat → ClassId) (dI : Nat → Nat → Nat) (dA gz : Nat → Nat) (oa : Nat → Nat) (sz : Nat) (ln : LN) (zb : SX0) (zt : SX0) (zn : SX0) (zv : Int32) (zh : SX3) (zx : SX6) (zk : Int32) (zd : Int32) (ze : Int32) (zc : Int32) (p1 : Int32) (rr : Int32 ⊕ String) (uu : SX7) (hf : f_X7_phaseKind zb zt zn zv zh zx zk zd ze zc p1 = some (rr, uu)) : vx_Met l yX7_phaseKind ws_X7_phaseKind ({ frames := 18, cells := 1, slots := 6, locals := 600 } : Room) (va_Pc [.ref (oa 0), .int p1] (pP (dC, dI) dA gz (wX7 dA oa (zb, zt, zn, zv, zh, zx, zk, zd, ze, zc) ln) sz)) (va_Qi (S := Unit) (fun r' _ => rr = Sum.inl r') (fun _ t => pQ (dC, dI) (va_A (wX7 dA oa (zb, zt, zn, zv, zh, zx, zk, zd, ze, zc) ln) sz) (wX7 dA oa uu ln) t) (va_A (wX7 dA oa (zb, zt, zn, zv, zh, zx, zk, zd, ze, zc) ln) sz)) (XCx (dC, dI) (va_A (wX7 dA oa (zb, zt, zn, zv, zh, zx, zk, zd, ze, zc) ln) sz) rr (wX7 dA oa uu ln)) 1 6 (va_A (wX7 dA oa (zb, zt, zn, zv, zh, zx, zk, zd, ze, zc) ln) sz) := by
  refine vx_ofW (cc := cX7_phaseKind) (maxL := 2) (ret := (some .char)) (by decide) rfl ?_
  intro p e s m args below meth c s₁ B hml ht9 hv
  obtain ⟨rfl, hsz, hP, hK, hD0, hN, hZ⟩ := hv
  have hx := B.exec
  have hb := B.bytes
  have hr := B.returns
  have hts := atoms_spec (ws := ws_X7_phaseKind) B.pre
  have htb : ∀ w ∈ BIG, w.before _ s = true := fun w h => hts w (bg w h)
  have hown : s.vm.findClass RX7 = some m.cls := findClass_of_methodNamed B.named
  have hlocks := B.notSynchronized
  subst hsz
  have hD := hD0.self (sz := s.heap.size)
  generalize hAe : va_A (wX7 dA oa (zb, zt, zn, zv, zh, zx, zk, zd, ze, zc) ln) s.heap.size = A at hD hZ ⊢
  have hA : ∀ q : Nat, s.heap.size ≤ q → A q := fun q h => by rw [← hAe]; exact Or.inr h
  have hS : va_S A s.heap s.heap [] := va_S.rf
  have hP : va_P (dC, dI) vwCl ((oa 0, .inr (11, [.ref (oa 1), .ref (oa 14), .ref (oa 27), .int zv, .ref (oa 40), .ref (oa 146), .int zk, .ref (oa 152), .int zd, .int ze, .int zc])) :: (wX0 dA (fun k => oa (1 + k)) zb ++ (wX0 dA (fun k => oa (14 + k)) zt ++ (wX0 dA (fun k => oa (27 + k)) zn ++ (wX3 dA (fun k => oa (40 + k)) zh ++ (wX6 dA (fun k => oa (146 + k)) zx ++ wLN dA (oa 152) ln)))))) s.heap := hP
  have hD : va_D A ((oa 0, .inr (11, [.ref (oa 1), .ref (oa 14), .ref (oa 27), .int zv, .ref (oa 40), .ref (oa 146), .int zk, .ref (oa 152), .int zd, .int ze, .int zc])) :: (wX0 dA (fun k => oa (1 + k)) zb ++ (wX0 dA (fun k => oa (14 + k)) zt ++ (wX0 dA (fun k => oa (27 + k)) zn ++ (wX3 dA (fun k => oa (40 + k)) zh ++ (wX6 dA (fun k => oa (146 + k)) zx ++ wLN dA (oa 152) ln)))))) := hD
  have hl := lv_entry [.ref (oa 0), .int p1] (n := 2) (Nat.le_of_ble_eq_true rfl)
  rw [lg_entry_eq]
  generalize (lg_sl [.ref (oa 0), .int p1] ++ List.replicate (2 - (lg_sl [.ref (oa 0), .int p1]).length) Slot.unset).toArray = ls at hl ⊢
  have hl : lv_has ls 2 [(0, .ref (oa 0)), (1, .int p1)] := hl
  have in_X0 : ∀ w ∈ wsX00, w ∈ ws_X7_phaseKind := fun w h => bg _ (inB_X0 w h)
  have in_X2 : ∀ w ∈ wsX20, w ∈ ws_X7_phaseKind := fun w h => bg _ (inB_X2 w h)
  have in_X7 : ∀ w ∈ wsX70, w ∈ ws_X7_phaseKind := fun w h => bg _ (inB_X7 w h)
  rw [f_X7_phaseKind] at hf
  refine lv_aload_n hx hb dX7_phaseKind_0 rfl (lv_at hl 0 rfl) ?_
  refine lv_iload_n hx hb dX7_phaseKind_1 rfl (lv_at hl 1 rfl) ?_
  rcases bE7_inv hf with ⟨r3, c2_zb, c2_zt, c2_zn, c2_zv, c2_zh, c2_zx, c2_zk, c2_zd, c2_ze, c2_zc, e1, hf⟩ | ⟨E9, S9, e1, hf⟩
  · refine jx_v (w1 := wX7 dA oa (c2_zb, c2_zt, c2_zn, c2_zv, c2_zh, c2_zx, c2_zk, c2_zd, c2_ze, c2_zc) ln) (vx_runV (As := [.int p1]) (rest := []) ⟨hx, hb, hml, hown, hts⟩ (m_X7_requirePhase l hl0 dC dI dA gz oa s.heap.size ln zb zt zn zv zh zx zk zd ze zc p1 (.inl ()) (c2_zb, c2_zt, c2_zn, c2_zv, c2_zh, c2_zx, c2_zk, c2_zd, c2_ze, c2_zc) e1) (cwV 1 hts (gi_v bg wd_1036 wd_1038 ws_16 wd_1 wd_1039) rfl rfl rfl hd_X7_requirePhase ⟨Nat.le_of_ble_eq_true rfl, Nat.le_of_ble_eq_true rfl⟩) ⟨pP_blind, va_recv (ci := 11) (q0 := 0) hK hP rfl rfl, pP_preW hP hD hS hA hK hN hZ⟩ rfl rfl hl.1 rfl (lv_room (Nat.le_of_ble_eq_true rfl)) dX7_phaseKind_2 ⟨Nat.le_of_ble_eq_true rfl, Nat.le_of_ble_eq_true rfl⟩) hD hS hA (fun E ce q9 H locs h9 _ _ _ _ _ _ => nomatch h9) (fun H locs h9 hP hD hS => ?_)
    have hP : va_P (dC, dI) vwCl ((oa 0, .inr (11, [.ref (oa 1), .ref (oa 14), .ref (oa 27), .int c2_zv, .ref (oa 40), .ref (oa 146), .int c2_zk, .ref (oa 152), .int c2_zd, .int c2_ze, .int c2_zc])) :: (wX0 dA (fun k => oa (1 + k)) c2_zb ++ (wX0 dA (fun k => oa (14 + k)) c2_zt ++ (wX0 dA (fun k => oa (27 + k)) c2_zn ++ (wX3 dA (fun k => oa (40 + k)) c2_zh ++ (wX6 dA (fun k => oa (146 + k)) c2_zx ++ wLN dA (oa 152) ln)))))) H := hP
    have hD : va_D A ((oa 0, .inr (11, [.ref (oa 1), .ref (oa 14), .ref (oa 27), .int c2_zv, .ref (oa 40), .ref (oa 146), .int c2_zk, .ref (oa 152), .int c2_zd, .int c2_ze, .int c2_zc])) :: (wX0 dA (fun k => oa (1 + k)) c2_zb ++ (wX0 dA (fun k => oa (14 + k)) c2_zt ++ (wX0 dA (fun k => oa (27 + k)) c2_zn ++ (wX3 dA (fun k => oa (40 + k)) c2_zh ++ (wX6 dA (fun k => oa (146 + k)) c2_zx ++ wLN dA (oa 152) ln)))))) := hD
    refine lv_aload_n hx hb dX7_phaseKind_5 rfl (lv_at hl 0 rfl) ?_
    refine va_get (D := (dC, dI)) (ci := 11) (v := .ref (oa 1)) (C := RX7) (T := TX7) (N := 11) hx hb hts in_X7 hown hK hP 0 rfl rfl 0 (by decide) (hts _ (bg _ wd_274)) (fun _ h9 => h9) rfl dX7_phaseKind_6 ?_
    refine va_get (D := (dC, dI)) (ci := 4) (v := .ref (oa 2)) (C := RX0) (T := TX0) (N := 4) hx hb hts in_X0 hown hK hP 1 rfl rfl 0 (by decide) (hts _ (bg _ wd_167)) (fun _ h9 => h9) rfl dX7_phaseKind_9 ?_
    refine va_get (D := (dC, dI)) (ci := 6) (v := .ref (oa 3)) (C := RX2) (T := TX2) (N := 7) hx hb hts in_X2 hown hK hP 2 rfl rfl 0 (by decide) (hts _ (bg _ wd_53)) (fun _ h9 => h9) rfl dX7_phaseKind_12 ?_
    refine lv_iload_n hx hb dX7_phaseKind_15 rfl (lv_at hl 1 rfl) ?_
    obtain ⟨z4, hf⟩ := gd hf
    refine va_cald hx hb hK hP 3 0 rfl rfl z4 dX7_phaseKind_16 ?_
    obtain ⟨z5, hf⟩ := gd hf
    obtain ⟨e8, e9⟩ := Prod.mk.inj (sm hf)
    exact vx_ret (W.zret hx hb hr (nar_c (Decidable.not_not.mp z5)).1 (fun t ht hW => ⟨⟨_, (), rfl, e8.symm, by rw [← e9, ht]; exact hP, by rw [← e9]; exact hD⟩, hS.F ht⟩) hS.2.2 dX7_phaseKind_17)
  · obtain ⟨e8, e9⟩ := Prod.mk.inj hf
    refine jx_v (w1 := wX7 dA oa S9 ln) (vx_runV (As := [.int p1]) (rest := []) ⟨hx, hb, hml, hown, hts⟩ (m_X7_requirePhase l hl0 dC dI dA gz oa s.heap.size ln zb zt zn zv zh zx zk zd ze zc p1 (.inr E9) S9 e1) (cwV 1 hts (gi_v bg wd_1036 wd_1038 ws_16 wd_1 wd_1039) rfl rfl rfl hd_X7_requirePhase ⟨Nat.le_of_ble_eq_true rfl, Nat.le_of_ble_eq_true rfl⟩) ⟨pP_blind, va_recv (ci := 11) (q0 := 0) hK hP rfl rfl, pP_preW hP hD hS hA hK hN hZ⟩ rfl rfl hl.1 rfl (lv_room (Nat.le_of_ble_eq_true rfl)) dX7_phaseKind_2 ⟨Nat.le_of_ble_eq_true rfl, Nat.le_of_ble_eq_true rfl⟩) hD hS hA (fun E ce q9 H locs h9 hP hD hS h1 h2 h3 => ?_) (fun H locs h9 _ _ _ => nomatch h9)
    cases h9
    exact vx_out (fun x9 hx9 => absurd (ht9 x9 hx9) id) hlocks h1 h2 h3 (fun t ht hvm => by rw [← e9]; exact xp e8.symm hP hD hS ht) hS.2.2 (Nat.le_of_ble_eq_true rfl) (Nat.le_of_ble_eq_true rfl)
