/-! X7_addPhase -/
def f_X7_addPhase (zb : SX0) (zt : SX0) (zn : SX0) (zv : Int32) (zh : SX3) (zx : SX6) (zk : Int32) (zd : Int32) (ze : Int32) (zc : Int32) (p1 : Int32) (p2 : Int32) (p3 : Int32) : Option ((Int32 ⊕ String) × SX7) :=
  (g_X0_judgePhase zb p1 p2 p3).bind fun r2 =>
  bE7 (f_X7_requireRightNumbers zb zt zn zv zh zx zk zd ze zc r2) fun _ c4_zb c4_zt c4_zn c4_zv c4_zh c4_zx c4_zk c4_zd c4_ze c4_zc =>
  bE7 (f_X7_requireAllowed c4_zb c4_zt c4_zn c4_zv c4_zh c4_zx c4_zk c4_zd c4_ze c4_zc r2 8) fun _ c7_zb c7_zt c7_zn c7_zv c7_zh c7_zx c7_zk c7_zd c7_ze c7_zc =>
  (g_X3_push c7_zh c7_zb).bind fun c10 =>
  bP (g_X0_appendPhase c7_zb p1 p2 p3) fun r12 c13 =>
  some (.inl r12, (c13, c7_zt, c7_zn, c7_zv, c10, c7_zx, c7_zk, c7_zd, c7_ze, c7_zc))
set_option maxRecDepth 100000 in
set_option maxHeartbeats 4000000 in
theorem m_X7_addPhase (l : Launch) (hl0 : l.stackTraces = false) (dC : Nat → ClassId) (dI : Nat → Nat → Nat) (dA gz : Nat → Nat) (oa : Nat → Nat) (sz : Nat) (ln : LN) (zb : SX0) (zt : SX0) (zn : SX0) (zv : Int32) (zh : SX3) (zx : SX6) (zk : Int32) (zd : Int32) (ze : Int32) (zc : Int32) (p1 : Int32) (p2 : Int32) (p3 : Int32) (rr : Int32 ⊕ String) (uu : SX7) (hf : f_X7_addPhase zb zt zn zv zh zx zk zd ze zc p1 p2 p3 = some (rr, uu)) : vx_Met l yX7_addPhase ws_X7_addPhase ({ frames := 34, cells := 2, slots := 12, locals := 1400 } : Room) (va_Pc [.ref (oa 0), .int p1, .int p2, .int p3] (pP (dC, dI) dA gz (wX7 dA oa (zb, zt, zn, zv, zh, zx, zk, zd, ze, zc) ln) sz)) (va_Qi (S := Unit) (fun r' _ => rr = Sum.inl r') (fun _ t => pQ (dC, dI) (va_A (wX7 dA oa (zb, zt, zn, zv, zh, zx, zk, zd, ze, zc) ln) sz) (wX7 dA oa uu ln) t) (va_A (wX7 dA oa (zb, zt, zn, zv, zh, zx, zk, zd, ze, zc) ln) sz)) (XCx (dC, dI) (va_A (wX7 dA oa (zb, zt, zn, zv, zh, zx, zk, zd, ze, zc) ln) sz) rr (wX7 dA oa uu ln)) 2 12 (va_A (wX7 dA oa (zb, zt, zn, zv, zh, zx, zk, zd, ze, zc) ln) sz) := by
  refine vx_ofW (cc := cX7_addPhase) (maxL := 5) (ret := (some .int)) (by decide) rfl ?_
  intro p e s m args below meth c s₁ B hml ht9 hv
  obtain ⟨rfl, hsz, hP, hK, hD0, hN, hZ⟩ := hv
  have hx := B.exec
  have hb := B.bytes
  have hr := B.returns
  have hts := atoms_spec (ws := ws_X7_addPhase) B.pre
  have htb : ∀ w ∈ BIG, w.before _ s = true := fun w h => hts w (bg w h)
  have hown : s.vm.findClass RX7 = some m.cls := findClass_of_methodNamed B.named
  have hlocks := B.notSynchronized
  subst hsz
  have hD := hD0.self (sz := s.heap.size)
  generalize hAe : va_A (wX7 dA oa (zb, zt, zn, zv, zh, zx, zk, zd, ze, zc) ln) s.heap.size = A at hD hZ ⊢
  have hA : ∀ q : Nat, s.heap.size ≤ q → A q := fun q h => by rw [← hAe]; exact Or.inr h
  have hS : va_S A s.heap s.heap [] := va_S.rf
  have hP : va_P (dC, dI) vwCl ([[(oa 0, .inr (11, [.ref (oa 1), .ref (oa 14), .ref (oa 27), .int zv, .ref (oa 40), .ref (oa 146), .int zk, .ref (oa 152), .int zd, .int ze, .int zc]))], wX0 dA (fun k => oa (1 + k)) zb, wX0 dA (fun k => oa (14 + k)) zt, wX0 dA (fun k => oa (27 + k)) zn, wX3 dA (fun k => oa (40 + k)) zh, wX6 dA (fun k => oa (146 + k)) zx, wLN dA (oa 152) ln].flatten) s.heap := hP
  have hD : va_D A ([[(oa 0, .inr (11, [.ref (oa 1), .ref (oa 14), .ref (oa 27), .int zv, .ref (oa 40), .ref (oa 146), .int zk, .ref (oa 152), .int zd, .int ze, .int zc]))], wX0 dA (fun k => oa (1 + k)) zb, wX0 dA (fun k => oa (14 + k)) zt, wX0 dA (fun k => oa (27 + k)) zn, wX3 dA (fun k => oa (40 + k)) zh, wX6 dA (fun k => oa (146 + k)) zx, wLN dA (oa 152) ln].flatten) := hD
  have hl := lv_entry [.ref (oa 0), .int p1, .int p2, .int p3] (n := 5) (Nat.le_of_ble_eq_true rfl)
  rw [lg_entry_eq]
  generalize (lg_sl [.ref (oa 0), .int p1, .int p2, .int p3] ++ List.replicate (5 - (lg_sl [.ref (oa 0), .int p1, .int p2, .int p3]).length) Slot.unset).toArray = ls at hl ⊢
  have hl : lv_has ls 5 [(0, .ref (oa 0)), (1, .int p1), (2, .int p2), (3, .int p3)] := hl
  have in_X7 : ∀ w ∈ wsX70, w ∈ ws_X7_addPhase := fun w h => bg _ (inB_X7 w h)
  rw [f_X7_addPhase] at hf
  refine lv_aload_n hx hb dX7_addPhase_0 rfl (lv_at hl 0 rfl) ?_
  refine va_get (D := (dC, dI)) (ci := 11) (v := .ref (oa 1)) (C := RX7) (T := TX7) (N := 11) hx hb hts in_X7 hown hK hP 0 rfl rfl 0 (by decide) (hts _ (bg _ wd_274)) (fun _ h9 => h9) rfl dX7_addPhase_1 ?_
  refine lv_iload_n hx hb dX7_addPhase_4 rfl (lv_at hl 1 rfl) ?_
  refine lv_iload_n hx hb dX7_addPhase_5 rfl (lv_at hl 2 rfl) ?_
  refine lv_iload_n hx hb dX7_addPhase_6 rfl (lv_at hl 3 rfl) ?_
  obtain ⟨r2, eh1, hf⟩ := bd hf
  refine jgr_i (va_runV (As := [.int p1, .int p2, .int p3]) (rest := []) ⟨hx, hb, hml, hown, hts⟩ (mt_X0_judgePhase l dC dI dA gz (fun k => oa (1 + k)) s.heap.size zb p1 p2 p3 r2 eh1) (cwV 3 hts (gi_v bg wd_355 wd_356 wd_357 wd_2 wd_358) rfl rfl rfl hd_X0_judgePhase ⟨Nat.le_of_ble_eq_true rfl, Nat.le_of_ble_eq_true rfl⟩) ⟨pP_blind, va_recv (ci := 4) (q0 := 0) hK (seg_P hP 1 rfl) rfl rfl, pP_pre1 hP hD hS hA hK hN hZ 1 rfl⟩ rfl rfl hl.1 rfl (lv_room (Nat.le_of_ble_eq_true rfl)) dX7_addPhase_7 ⟨Nat.le_of_ble_eq_true rfl, Nat.le_of_ble_eq_true rfl⟩) hP hD hS hA 1 rfl (fun H locs hP hS => ?_)
  refine lv_istore (lv' := [(4, .int r2), (0, .ref (oa 0)), (1, .int p1), (2, .int p2), (3, .int p3)]) hx hb dX7_addPhase_10 hl (by decide) rfl (fun ls hl => ?_)
  refine lv_aload_n hx hb dX7_addPhase_12 rfl (lv_at hl 1 rfl) ?_
  refine lv_iload hx hb dX7_addPhase_13 (lv_at hl 0 rfl) ?_
  rcases bE7_inv hf with ⟨r5, c4_zb, c4_zt, c4_zn, c4_zv, c4_zh, c4_zx, c4_zk, c4_zd, c4_ze, c4_zc, eh3, hf⟩ | ⟨E9, S9, eh3, hf⟩
  · refine jx_v (w1 := wX7 dA oa (c4_zb, c4_zt, c4_zn, c4_zv, c4_zh, c4_zx, c4_zk, c4_zd, c4_ze, c4_zc) ln) (vx_runV (As := [.int r2]) (rest := []) ⟨hx, hb, hml, hown, hts⟩ (m_X7_requireRightNumbers l hl0 dC dI dA gz oa H.size ln zb zt zn zv zh zx zk zd ze zc r2 (.inl ()) (c4_zb, c4_zt, c4_zn, c4_zv, c4_zh, c4_zx, c4_zk, c4_zd, c4_ze, c4_zc) eh3) (cwV 1 hts (gi_v bg wd_373 wd_375 ws_0 wd_1 wd_376) rfl rfl rfl hd_X7_requireRightNumbers ⟨Nat.le_of_ble_eq_true rfl, Nat.le_of_ble_eq_true rfl⟩) ⟨pP_blind, va_recv (ci := 11) (q0 := 0) hK hP rfl rfl, pP_preW hP hD hS hA hK hN hZ⟩ rfl rfl hl.1 rfl (lv_room (Nat.le_of_ble_eq_true rfl)) dX7_addPhase_15 ⟨Nat.le_of_ble_eq_true rfl, Nat.le_of_ble_eq_true rfl⟩) hD hS hA (fun E ce q9 H locs h9 _ _ _ _ _ _ => nomatch h9) (fun H locs h9 hP hD hS => ?_)
    have hP : va_P (dC, dI) vwCl ([[(oa 0, .inr (11, [.ref (oa 1), .ref (oa 14), .ref (oa 27), .int c4_zv, .ref (oa 40), .ref (oa 146), .int c4_zk, .ref (oa 152), .int c4_zd, .int c4_ze, .int c4_zc]))], wX0 dA (fun k => oa (1 + k)) c4_zb, wX0 dA (fun k => oa (14 + k)) c4_zt, wX0 dA (fun k => oa (27 + k)) c4_zn, wX3 dA (fun k => oa (40 + k)) c4_zh, wX6 dA (fun k => oa (146 + k)) c4_zx, wLN dA (oa 152) ln].flatten) H := hP
    have hD : va_D A ([[(oa 0, .inr (11, [.ref (oa 1), .ref (oa 14), .ref (oa 27), .int c4_zv, .ref (oa 40), .ref (oa 146), .int c4_zk, .ref (oa 152), .int c4_zd, .int c4_ze, .int c4_zc]))], wX0 dA (fun k => oa (1 + k)) c4_zb, wX0 dA (fun k => oa (14 + k)) c4_zt, wX0 dA (fun k => oa (27 + k)) c4_zn, wX3 dA (fun k => oa (40 + k)) c4_zh, wX6 dA (fun k => oa (146 + k)) c4_zx, wLN dA (oa 152) ln].flatten) := hD
    refine lv_aload_n hx hb dX7_addPhase_18 rfl (lv_at hl 1 rfl) ?_
    refine lv_iload hx hb dX7_addPhase_19 (lv_at hl 0 rfl) ?_
    refine lv_bipush (v := 8) hx hb dX7_addPhase_21 (by decide) ?_
    rcases bE7_inv hf with ⟨r8, c7_zb, c7_zt, c7_zn, c7_zv, c7_zh, c7_zx, c7_zk, c7_zd, c7_ze, c7_zc, eh6, hf⟩ | ⟨E9, S9, eh6, hf⟩
    · refine jx_v (w1 := wX7 dA oa (c7_zb, c7_zt, c7_zn, c7_zv, c7_zh, c7_zx, c7_zk, c7_zd, c7_ze, c7_zc) ln) (vx_runV (As := [.int r2, .int 8]) (rest := []) ⟨hx, hb, hml, hown, hts⟩ (m_X7_requireAllowed l hl0 dC dI dA gz oa H.size ln c4_zb c4_zt c4_zn c4_zv c4_zh c4_zx c4_zk c4_zd c4_ze c4_zc r2 8 (.inl ()) (c7_zb, c7_zt, c7_zn, c7_zv, c7_zh, c7_zx, c7_zk, c7_zd, c7_ze, c7_zc) eh6) (cwV 2 hts (gi_v bg wd_449 wd_451 ws_2 wd_1 wd_452) rfl rfl rfl hd_X7_requireAllowed ⟨Nat.le_of_ble_eq_true rfl, Nat.le_of_ble_eq_true rfl⟩) ⟨pP_blind, va_recv (ci := 11) (q0 := 0) hK hP rfl rfl, pP_preW hP hD hS hA hK hN hZ⟩ rfl rfl hl.1 rfl (lv_room (Nat.le_of_ble_eq_true rfl)) dX7_addPhase_23 ⟨Nat.le_of_ble_eq_true rfl, Nat.le_of_ble_eq_true rfl⟩) hD hS hA (fun E ce q9 H locs h9 _ _ _ _ _ _ => nomatch h9) (fun H locs h9 hP hD hS => ?_)
      have hP : va_P (dC, dI) vwCl ([[(oa 0, .inr (11, [.ref (oa 1), .ref (oa 14), .ref (oa 27), .int c7_zv, .ref (oa 40), .ref (oa 146), .int c7_zk, .ref (oa 152), .int c7_zd, .int c7_ze, .int c7_zc]))], wX0 dA (fun k => oa (1 + k)) c7_zb, wX0 dA (fun k => oa (14 + k)) c7_zt, wX0 dA (fun k => oa (27 + k)) c7_zn, wX3 dA (fun k => oa (40 + k)) c7_zh, wX6 dA (fun k => oa (146 + k)) c7_zx, wLN dA (oa 152) ln].flatten) H := hP
      have hD : va_D A ([[(oa 0, .inr (11, [.ref (oa 1), .ref (oa 14), .ref (oa 27), .int c7_zv, .ref (oa 40), .ref (oa 146), .int c7_zk, .ref (oa 152), .int c7_zd, .int c7_ze, .int c7_zc]))], wX0 dA (fun k => oa (1 + k)) c7_zb, wX0 dA (fun k => oa (14 + k)) c7_zt, wX0 dA (fun k => oa (27 + k)) c7_zn, wX3 dA (fun k => oa (40 + k)) c7_zh, wX6 dA (fun k => oa (146 + k)) c7_zx, wLN dA (oa 152) ln].flatten) := hD
      refine lv_aload_n hx hb dX7_addPhase_26 rfl (lv_at hl 1 rfl) ?_
      refine va_get (D := (dC, dI)) (ci := 11) (v := .ref (oa 40)) (C := RX7) (T := TX7) (N := 11) hx hb hts in_X7 hown hK hP 0 rfl rfl 4 (by decide) (hts _ (bg _ wd_278)) (fun _ h9 => h9) rfl dX7_addPhase_27 ?_
      refine lv_aload_n hx hb dX7_addPhase_30 rfl (lv_at hl 1 rfl) ?_
      refine va_get (D := (dC, dI)) (ci := 11) (v := .ref (oa 1)) (C := RX7) (T := TX7) (N := 11) hx hb hts in_X7 hown hK hP 0 rfl rfl 0 (by decide) (hts _ (bg _ wd_274)) (fun _ h9 => h9) rfl dX7_addPhase_31 ?_
      obtain ⟨c10, eh9, hf⟩ := bd hf
      refine jg2_v (va_runV (As := [.ref (oa 1)]) (rest := []) ⟨hx, hb, hml, hown, hts⟩ (mt_X3_push l dC dI dA gz (fun k => oa (40 + k)) (fun k => oa (1 + k)) H.size c7_zh c7_zb c10 eh9) (cwV 1 hts (gi_v bg wd_477 wd_478 wd_479 wd_7 wd_480) rfl rfl rfl hd_X3_push ⟨Nat.le_of_ble_eq_true rfl, Nat.le_of_ble_eq_true rfl⟩) ⟨pP_blind, va_recv (ci := 7) (q0 := 0) hK (seg_P hP 4 rfl) rfl rfl, pP_pre2 hP hD hS hA hK hN hZ 4 1 rfl rfl (by decide)⟩ rfl rfl hl.1 rfl (lv_room (Nat.le_of_ble_eq_true rfl)) dX7_addPhase_34 ⟨Nat.le_of_ble_eq_true rfl, Nat.le_of_ble_eq_true rfl⟩) hP hD hS hA 4 1 rfl rfl (by decide) (aX3 _ _ _ _) (fun H locs hP hD hS => ?_)
      have hP : va_P (dC, dI) vwCl ([[(oa 0, .inr (11, [.ref (oa 1), .ref (oa 14), .ref (oa 27), .int c7_zv, .ref (oa 40), .ref (oa 146), .int c7_zk, .ref (oa 152), .int c7_zd, .int c7_ze, .int c7_zc]))], wX0 dA (fun k => oa (1 + k)) c7_zb, wX0 dA (fun k => oa (14 + k)) c7_zt, wX0 dA (fun k => oa (27 + k)) c7_zn, wX3 dA (fun k => oa (40 + k)) c10, wX6 dA (fun k => oa (146 + k)) c7_zx, wLN dA (oa 152) ln].flatten : va_W) H := hP
      have hD : va_D A ([[(oa 0, .inr (11, [.ref (oa 1), .ref (oa 14), .ref (oa 27), .int c7_zv, .ref (oa 40), .ref (oa 146), .int c7_zk, .ref (oa 152), .int c7_zd, .int c7_ze, .int c7_zc]))], wX0 dA (fun k => oa (1 + k)) c7_zb, wX0 dA (fun k => oa (14 + k)) c7_zt, wX0 dA (fun k => oa (27 + k)) c7_zn, wX3 dA (fun k => oa (40 + k)) c10, wX6 dA (fun k => oa (146 + k)) c7_zx, wLN dA (oa 152) ln].flatten) := hD
      refine lv_aload_n hx hb dX7_addPhase_37 rfl (lv_at hl 1 rfl) ?_
      refine va_get (D := (dC, dI)) (ci := 11) (v := .ref (oa 1)) (C := RX7) (T := TX7) (N := 11) hx hb hts in_X7 hown hK hP 0 rfl rfl 0 (by decide) (hts _ (bg _ wd_274)) (fun _ h9 => h9) rfl dX7_addPhase_38 ?_
      refine lv_iload_n hx hb dX7_addPhase_41 rfl (lv_at hl 2 rfl) ?_
      refine lv_iload_n hx hb dX7_addPhase_42 rfl (lv_at hl 3 rfl) ?_
      refine lv_iload_n hx hb dX7_addPhase_43 rfl (lv_at hl 4 rfl) ?_
      obtain ⟨r12, c13, eh11, hf⟩ := bP_inv hf
      refine jg1_i (va_runV (As := [.int p1, .int p2, .int p3]) (rest := []) ⟨hx, hb, hml, hown, hts⟩ (mt_X0_appendPhase l dC dI dA gz (fun k => oa (1 + k)) H.size c7_zb p1 p2 p3 r12 c13 eh11) (cwV 3 hts (gi_v bg wd_485 wd_486 wd_487 wd_2 wd_488) rfl rfl rfl hd_X0_appendPhase ⟨Nat.le_of_ble_eq_true rfl, Nat.le_of_ble_eq_true rfl⟩) ⟨pP_blind, va_recv (ci := 4) (q0 := 0) hK (seg_P hP 1 rfl) rfl rfl, pP_pre1 hP hD hS hA hK hN hZ 1 rfl⟩ rfl rfl hl.1 rfl (lv_room (Nat.le_of_ble_eq_true rfl)) dX7_addPhase_44 ⟨Nat.le_of_ble_eq_true rfl, Nat.le_of_ble_eq_true rfl⟩) hP hD hS hA 1 rfl (aX0 _ _ _ _) (fun H locs hP hD hS => ?_)
      have hP : va_P (dC, dI) vwCl ([[(oa 0, .inr (11, [.ref (oa 1), .ref (oa 14), .ref (oa 27), .int c7_zv, .ref (oa 40), .ref (oa 146), .int c7_zk, .ref (oa 152), .int c7_zd, .int c7_ze, .int c7_zc]))], wX0 dA (fun k => oa (1 + k)) c13, wX0 dA (fun k => oa (14 + k)) c7_zt, wX0 dA (fun k => oa (27 + k)) c7_zn, wX3 dA (fun k => oa (40 + k)) c10, wX6 dA (fun k => oa (146 + k)) c7_zx, wLN dA (oa 152) ln].flatten : va_W) H := hP
      have hD : va_D A ([[(oa 0, .inr (11, [.ref (oa 1), .ref (oa 14), .ref (oa 27), .int c7_zv, .ref (oa 40), .ref (oa 146), .int c7_zk, .ref (oa 152), .int c7_zd, .int c7_ze, .int c7_zc]))], wX0 dA (fun k => oa (1 + k)) c13, wX0 dA (fun k => oa (14 + k)) c7_zt, wX0 dA (fun k => oa (27 + k)) c7_zn, wX3 dA (fun k => oa (40 + k)) c10, wX6 dA (fun k => oa (146 + k)) c7_zx, wLN dA (oa 152) ln].flatten) := hD
      obtain ⟨e8, e9⟩ := Prod.mk.inj (sm hf)
      exact vx_ret (W.iret hx hb hr (fun t ht hW => ⟨⟨_, (), rfl, e8.symm, by rw [← e9, ht]; exact hP, by rw [← e9]; exact hD⟩, hS.F ht⟩) hS.2.2 dX7_addPhase_47)
    · obtain ⟨e8, e9⟩ := Prod.mk.inj hf
      refine jx_v (w1 := wX7 dA oa S9 ln) (vx_runV (As := [.int r2, .int 8]) (rest := []) ⟨hx, hb, hml, hown, hts⟩ (m_X7_requireAllowed l hl0 dC dI dA gz oa H.size ln c4_zb c4_zt c4_zn c4_zv c4_zh c4_zx c4_zk c4_zd c4_ze c4_zc r2 8 (.inr E9) S9 eh6) (cwV 2 hts (gi_v bg wd_449 wd_451 ws_2 wd_1 wd_452) rfl rfl rfl hd_X7_requireAllowed ⟨Nat.le_of_ble_eq_true rfl, Nat.le_of_ble_eq_true rfl⟩) ⟨pP_blind, va_recv (ci := 11) (q0 := 0) hK hP rfl rfl, pP_preW hP hD hS hA hK hN hZ⟩ rfl rfl hl.1 rfl (lv_room (Nat.le_of_ble_eq_true rfl)) dX7_addPhase_23 ⟨Nat.le_of_ble_eq_true rfl, Nat.le_of_ble_eq_true rfl⟩) hD hS hA (fun E ce q9 H locs h9 hP hD hS h1 h2 h3 => ?_) (fun H locs h9 _ _ _ => nomatch h9)
      cases h9
      exact vx_out (fun x9 hx9 => absurd (ht9 x9 hx9) id) hlocks h1 h2 h3 (fun t ht hvm => by rw [← e9]; exact xp e8.symm hP hD hS ht) hS.2.2 (Nat.le_of_ble_eq_true rfl) (Nat.le_of_ble_eq_true rfl)
  · obtain ⟨e8, e9⟩ := Prod.mk.inj hf
    refine jx_v (w1 := wX7 dA oa S9 ln) (vx_runV (As := [.int r2]) (rest := []) ⟨hx, hb, hml, hown, hts⟩ (m_X7_requireRightNumbers l hl0 dC dI dA gz oa H.size ln zb zt zn zv zh zx zk zd ze zc r2 (.inr E9) S9 eh3) (cwV 1 hts (gi_v bg wd_373 wd_375 ws_0 wd_1 wd_376) rfl rfl rfl hd_X7_requireRightNumbers ⟨Nat.le_of_ble_eq_true rfl, Nat.le_of_ble_eq_true rfl⟩) ⟨pP_blind, va_recv (ci := 11) (q0 := 0) hK hP rfl rfl, pP_preW hP hD hS hA hK hN hZ⟩ rfl rfl hl.1 rfl (lv_room (Nat.le_of_ble_eq_true rfl)) dX7_addPhase_15 ⟨Nat.le_of_ble_eq_true rfl, Nat.le_of_ble_eq_true rfl⟩) hD hS hA (fun E ce q9 H locs h9 hP hD hS h1 h2 h3 => ?_) (fun H locs h9 _ _ _ => nomatch h9)
    cases h9
    exact vx_out (fun x9 hx9 => absurd (ht9 x9 hx9) id) hlocks h1 h2 h3 (fun t ht hvm => by rw [← e9]; exact xp e8.symm hP hD hS ht) hS.2.2 (Nat.le_of_ble_eq_true rfl) (Nat.le_of_ble_eq_true rfl)
/-! X7_removePhase -/
def f_X7_removePhase (zb : SX0) (zt : SX0) (zn : SX0) (zv : Int32) (zh : SX3) (zx : SX6) (zk : Int32) (zd : Int32) (ze : Int32) (zc : Int32) (p1 : Int32) : Option ((Int32 ⊕ String) × SX7) :=
  (g_X0_judgeCut zb p1).bind fun r2 =>
  bE7 (f_X7_requireRightIndex zb zt zn zv zh zx zk zd ze zc r2) fun _ c4_zb c4_zt c4_zn c4_zv c4_zh c4_zx c4_zk c4_zd c4_ze c4_zc =>
  bE7 (f_X7_requireAllowed c4_zb c4_zt c4_zn c4_zv c4_zh c4_zx c4_zk c4_zd c4_ze c4_zc r2 (-1)) fun _ c7_zb c7_zt c7_zn c7_zv c7_zh c7_zx c7_zk c7_zd c7_ze c7_zc =>
  (g_X3_push c7_zh c7_zb).bind fun c10 =>
  bP (g_X0_cutPhase c7_zb p1) fun r12 c13 =>
  some (.inl r12, (c13, c7_zt, c7_zn, c7_zv, c10, c7_zx, c7_zk, c7_zd, c7_ze, c7_zc))
set_option maxRecDepth 100000 in
set_option maxHeartbeats 4000000 in
theorem m_X7_removePhase (l : Launch) (hl0 : l.stackTraces = false) (dC : Nat → ClassId) (dI : Nat → Nat → Nat) (dA gz : Nat → Nat) (oa : Nat → Nat) (sz : Nat) (ln : LN) (zb : SX0) (zt : SX0) (zn : SX0) (zv : Int32) (zh : SX3) (zx : SX6) (zk : Int32) (zd : Int32) (ze : Int32) (zc : Int32) (p1 : Int32) (rr : Int32 ⊕ String) (uu : SX7) (hf : f_X7_removePhase zb zt zn zv zh zx zk zd ze zc p1 = some (rr, uu)) : vx_Met l yX7_removePhase ws_X7_removePhase ({ frames := 34, cells := 2, slots := 12, locals := 1400 } : Room) (va_Pc [.ref (oa 0), .int p1] (pP (dC, dI) dA gz (wX7 dA oa (zb, zt, zn, zv, zh, zx, zk, zd, ze, zc) ln) sz)) (va_Qi (S := Unit) (fun r' _ => rr = Sum.inl r') (fun _ t => pQ (dC, dI) (va_A (wX7 dA oa (zb, zt, zn, zv, zh, zx, zk, zd, ze, zc) ln) sz) (wX7 dA oa uu ln) t) (va_A (wX7 dA oa (zb, zt, zn, zv, zh, zx, zk, zd, ze, zc) ln) sz)) (XCx (dC, dI) (va_A (wX7 dA oa (zb, zt, zn, zv, zh, zx, zk, zd, ze, zc) ln) sz) rr (wX7 dA oa uu ln)) 2 12 (va_A (wX7 dA oa (zb, zt, zn, zv, zh, zx, zk, zd, ze, zc) ln) sz) := by
  refine vx_ofW (cc := cX7_removePhase) (maxL := 3) (ret := (some .int)) (by decide) rfl ?_
  intro p e s m args below meth c s₁ B hml ht9 hv
  obtain ⟨rfl, hsz, hP, hK, hD0, hN, hZ⟩ := hv
  have hx := B.exec
  have hb := B.bytes
  have hr := B.returns
  have hts := atoms_spec (ws := ws_X7_removePhase) B.pre
  have htb : ∀ w ∈ BIG, w.before _ s = true := fun w h => hts w (bg w h)
  have hown : s.vm.findClass RX7 = some m.cls := findClass_of_methodNamed B.named
  have hlocks := B.notSynchronized
  subst hsz
  have hD := hD0.self (sz := s.heap.size)
  generalize hAe : va_A (wX7 dA oa (zb, zt, zn, zv, zh, zx, zk, zd, ze, zc) ln) s.heap.size = A at hD hZ ⊢
  have hA : ∀ q : Nat, s.heap.size ≤ q → A q := fun q h => by rw [← hAe]; exact Or.inr h
  have hS : va_S A s.heap s.heap [] := va_S.rf
  have hP : va_P (dC, dI) vwCl ([[(oa 0, .inr (11, [.ref (oa 1), .ref (oa 14), .ref (oa 27), .int zv, .ref (oa 40), .ref (oa 146), .int zk, .ref (oa 152), .int zd, .int ze, .int zc]))], wX0 dA (fun k => oa (1 + k)) zb, wX0 dA (fun k => oa (14 + k)) zt, wX0 dA (fun k => oa (27 + k)) zn, wX3 dA (fun k => oa (40 + k)) zh, wX6 dA (fun k => oa (146 + k)) zx, wLN dA (oa 152) ln].flatten) s.heap := hP
  have hD : va_D A ([[(oa 0, .inr (11, [.ref (oa 1), .ref (oa 14), .ref (oa 27), .int zv, .ref (oa 40), .ref (oa 146), .int zk, .ref (oa 152), .int zd, .int ze, .int zc]))], wX0 dA (fun k => oa (1 + k)) zb, wX0 dA (fun k => oa (14 + k)) zt, wX0 dA (fun k => oa (27 + k)) zn, wX3 dA (fun k => oa (40 + k)) zh, wX6 dA (fun k => oa (146 + k)) zx, wLN dA (oa 152) ln].flatten) := hD
  have hl := lv_entry [.ref (oa 0), .int p1] (n := 3) (Nat.le_of_ble_eq_true rfl)
  rw [lg_entry_eq]
  generalize (lg_sl [.ref (oa 0), .int p1] ++ List.replicate (3 - (lg_sl [.ref (oa 0), .int p1]).length) Slot.unset).toArray = ls at hl ⊢
  have hl : lv_has ls 3 [(0, .ref (oa 0)), (1, .int p1)] := hl
  have in_X7 : ∀ w ∈ wsX70, w ∈ ws_X7_removePhase := fun w h => bg _ (inB_X7 w h)
  rw [f_X7_removePhase] at hf
  refine lv_aload_n hx hb dX7_removePhase_0 rfl (lv_at hl 0 rfl) ?_
  refine va_get (D := (dC, dI)) (ci := 11) (v := .ref (oa 1)) (C := RX7) (T := TX7) (N := 11) hx hb hts in_X7 hown hK hP 0 rfl rfl 0 (by decide) (hts _ (bg _ wd_274)) (fun _ h9 => h9) rfl dX7_removePhase_1 ?_
  refine lv_iload_n hx hb dX7_removePhase_4 rfl (lv_at hl 1 rfl) ?_
  obtain ⟨r2, eh1, hf⟩ := bd hf
  refine jgr_i (va_runV (As := [.int p1]) (rest := []) ⟨hx, hb, hml, hown, hts⟩ (mt_X0_judgeCut l dC dI dA gz (fun k => oa (1 + k)) s.heap.size zb p1 r2 eh1) (cwV 1 hts (gi_v bg wd_731 wd_732 wd_733 wd_2 wd_734) rfl rfl rfl hd_X0_judgeCut ⟨Nat.le_of_ble_eq_true rfl, Nat.le_of_ble_eq_true rfl⟩) ⟨pP_blind, va_recv (ci := 4) (q0 := 0) hK (seg_P hP 1 rfl) rfl rfl, pP_pre1 hP hD hS hA hK hN hZ 1 rfl⟩ rfl rfl hl.1 rfl (lv_room (Nat.le_of_ble_eq_true rfl)) dX7_removePhase_5 ⟨Nat.le_of_ble_eq_true rfl, Nat.le_of_ble_eq_true rfl⟩) hP hD hS hA 1 rfl (fun H locs hP hS => ?_)
  refine lv_istore_n (lv' := [(2, .int r2), (0, .ref (oa 0)), (1, .int p1)]) hx hb dX7_removePhase_8 rfl hl (by decide) rfl (fun ls hl => ?_)
  refine lv_aload_n hx hb dX7_removePhase_9 rfl (lv_at hl 1 rfl) ?_
  refine lv_iload_n hx hb dX7_removePhase_10 rfl (lv_at hl 0 rfl) ?_
  rcases bE7_inv hf with ⟨r5, c4_zb, c4_zt, c4_zn, c4_zv, c4_zh, c4_zx, c4_zk, c4_zd, c4_ze, c4_zc, eh3, hf⟩ | ⟨E9, S9, eh3, hf⟩
  · refine jx_v (w1 := wX7 dA oa (c4_zb, c4_zt, c4_zn, c4_zv, c4_zh, c4_zx, c4_zk, c4_zd, c4_ze, c4_zc) ln) (vx_runV (As := [.int r2]) (rest := []) ⟨hx, hb, hml, hown, hts⟩ (m_X7_requireRightIndex l hl0 dC dI dA gz oa H.size ln zb zt zn zv zh zx zk zd ze zc r2 (.inl ()) (c4_zb, c4_zt, c4_zn, c4_zv, c4_zh, c4_zx, c4_zk, c4_zd, c4_ze, c4_zc) eh3) (cwV 1 hts (gi_v bg wd_928 wd_930 ws_15 wd_1 wd_931) rfl rfl rfl hd_X7_requireRightIndex ⟨Nat.le_of_ble_eq_true rfl, Nat.le_of_ble_eq_true rfl⟩) ⟨pP_blind, va_recv (ci := 11) (q0 := 0) hK hP rfl rfl, pP_preW hP hD hS hA hK hN hZ⟩ rfl rfl hl.1 rfl (lv_room (Nat.le_of_ble_eq_true rfl)) dX7_removePhase_11 ⟨Nat.le_of_ble_eq_true rfl, Nat.le_of_ble_eq_true rfl⟩) hD hS hA (fun E ce q9 H locs h9 _ _ _ _ _ _ => nomatch h9) (fun H locs h9 hP hD hS => ?_)
    have hP : va_P (dC, dI) vwCl ([[(oa 0, .inr (11, [.ref (oa 1), .ref (oa 14), .ref (oa 27), .int c4_zv, .ref (oa 40), .ref (oa 146), .int c4_zk, .ref (oa 152), .int c4_zd, .int c4_ze, .int c4_zc]))], wX0 dA (fun k => oa (1 + k)) c4_zb, wX0 dA (fun k => oa (14 + k)) c4_zt, wX0 dA (fun k => oa (27 + k)) c4_zn, wX3 dA (fun k => oa (40 + k)) c4_zh, wX6 dA (fun k => oa (146 + k)) c4_zx, wLN dA (oa 152) ln].flatten) H := hP
    have hD : va_D A ([[(oa 0, .inr (11, [.ref (oa 1), .ref (oa 14), .ref (oa 27), .int c4_zv, .ref (oa 40), .ref (oa 146), .int c4_zk, .ref (oa 152), .int c4_zd, .int c4_ze, .int c4_zc]))], wX0 dA (fun k => oa (1 + k)) c4_zb, wX0 dA (fun k => oa (14 + k)) c4_zt, wX0 dA (fun k => oa (27 + k)) c4_zn, wX3 dA (fun k => oa (40 + k)) c4_zh, wX6 dA (fun k => oa (146 + k)) c4_zx, wLN dA (oa 152) ln].flatten) := hD
    refine lv_aload_n hx hb dX7_removePhase_14 rfl (lv_at hl 1 rfl) ?_
    refine lv_iload_n hx hb dX7_removePhase_15 rfl (lv_at hl 0 rfl) ?_
    refine lv_iconst (v := (-1)) hx hb dX7_removePhase_16 (by decide) ?_
    rcases bE7_inv hf with ⟨r8, c7_zb, c7_zt, c7_zn, c7_zv, c7_zh, c7_zx, c7_zk, c7_zd, c7_ze, c7_zc, eh6, hf⟩ | ⟨E9, S9, eh6, hf⟩
    · refine jx_v (w1 := wX7 dA oa (c7_zb, c7_zt, c7_zn, c7_zv, c7_zh, c7_zx, c7_zk, c7_zd, c7_ze, c7_zc) ln) (vx_runV (As := [.int r2, .int (-1)]) (rest := []) ⟨hx, hb, hml, hown, hts⟩ (m_X7_requireAllowed l hl0 dC dI dA gz oa H.size ln c4_zb c4_zt c4_zn c4_zv c4_zh c4_zx c4_zk c4_zd c4_ze c4_zc r2 (-1) (.inl ()) (c7_zb, c7_zt, c7_zn, c7_zv, c7_zh, c7_zx, c7_zk, c7_zd, c7_ze, c7_zc) eh6) (cwV 2 hts (gi_v bg wd_449 wd_451 ws_2 wd_1 wd_452) rfl rfl rfl hd_X7_requireAllowed ⟨Nat.le_of_ble_eq_true rfl, Nat.le_of_ble_eq_true rfl⟩) ⟨pP_blind, va_recv (ci := 11) (q0 := 0) hK hP rfl rfl, pP_preW hP hD hS hA hK hN hZ⟩ rfl rfl hl.1 rfl (lv_room (Nat.le_of_ble_eq_true rfl)) dX7_removePhase_17 ⟨Nat.le_of_ble_eq_true rfl, Nat.le_of_ble_eq_true rfl⟩) hD hS hA (fun E ce q9 H locs h9 _ _ _ _ _ _ => nomatch h9) (fun H locs h9 hP hD hS => ?_)
      have hP : va_P (dC, dI) vwCl ([[(oa 0, .inr (11, [.ref (oa 1), .ref (oa 14), .ref (oa 27), .int c7_zv, .ref (oa 40), .ref (oa 146), .int c7_zk, .ref (oa 152), .int c7_zd, .int c7_ze, .int c7_zc]))], wX0 dA (fun k => oa (1 + k)) c7_zb, wX0 dA (fun k => oa (14 + k)) c7_zt, wX0 dA (fun k => oa (27 + k)) c7_zn, wX3 dA (fun k => oa (40 + k)) c7_zh, wX6 dA (fun k => oa (146 + k)) c7_zx, wLN dA (oa 152) ln].flatten) H := hP
      have hD : va_D A ([[(oa 0, .inr (11, [.ref (oa 1), .ref (oa 14), .ref (oa 27), .int c7_zv, .ref (oa 40), .ref (oa 146), .int c7_zk, .ref (oa 152), .int c7_zd, .int c7_ze, .int c7_zc]))], wX0 dA (fun k => oa (1 + k)) c7_zb, wX0 dA (fun k => oa (14 + k)) c7_zt, wX0 dA (fun k => oa (27 + k)) c7_zn, wX3 dA (fun k => oa (40 + k)) c7_zh, wX6 dA (fun k => oa (146 + k)) c7_zx, wLN dA (oa 152) ln].flatten) := hD
      refine lv_aload_n hx hb dX7_removePhase_20 rfl (lv_at hl 1 rfl) ?_
      refine va_get (D := (dC, dI)) (ci := 11) (v := .ref (oa 40)) (C := RX7) (T := TX7) (N := 11) hx hb hts in_X7 hown hK hP 0 rfl rfl 4 (by decide) (hts _ (bg _ wd_278)) (fun _ h9 => h9) rfl dX7_removePhase_21 ?_
      refine lv_aload_n hx hb dX7_removePhase_24 rfl (lv_at hl 1 rfl) ?_
      refine va_get (D := (dC, dI)) (ci := 11) (v := .ref (oa 1)) (C := RX7) (T := TX7) (N := 11) hx hb hts in_X7 hown hK hP 0 rfl rfl 0 (by decide) (hts _ (bg _ wd_274)) (fun _ h9 => h9) rfl dX7_removePhase_25 ?_
      obtain ⟨c10, eh9, hf⟩ := bd hf
      refine jg2_v (va_runV (As := [.ref (oa 1)]) (rest := []) ⟨hx, hb, hml, hown, hts⟩ (mt_X3_push l dC dI dA gz (fun k => oa (40 + k)) (fun k => oa (1 + k)) H.size c7_zh c7_zb c10 eh9) (cwV 1 hts (gi_v bg wd_477 wd_478 wd_479 wd_7 wd_480) rfl rfl rfl hd_X3_push ⟨Nat.le_of_ble_eq_true rfl, Nat.le_of_ble_eq_true rfl⟩) ⟨pP_blind, va_recv (ci := 7) (q0 := 0) hK (seg_P hP 4 rfl) rfl rfl, pP_pre2 hP hD hS hA hK hN hZ 4 1 rfl rfl (by decide)⟩ rfl rfl hl.1 rfl (lv_room (Nat.le_of_ble_eq_true rfl)) dX7_removePhase_28 ⟨Nat.le_of_ble_eq_true rfl, Nat.le_of_ble_eq_true rfl⟩) hP hD hS hA 4 1 rfl rfl (by decide) (aX3 _ _ _ _) (fun H locs hP hD hS => ?_)
      have hP : va_P (dC, dI) vwCl ([[(oa 0, .inr (11, [.ref (oa 1), .ref (oa 14), .ref (oa 27), .int c7_zv, .ref (oa 40), .ref (oa 146), .int c7_zk, .ref (oa 152), .int c7_zd, .int c7_ze, .int c7_zc]))], wX0 dA (fun k => oa (1 + k)) c7_zb, wX0 dA (fun k => oa (14 + k)) c7_zt, wX0 dA (fun k => oa (27 + k)) c7_zn, wX3 dA (fun k => oa (40 + k)) c10, wX6 dA (fun k => oa (146 + k)) c7_zx, wLN dA (oa 152) ln].flatten : va_W) H := hP
      have hD : va_D A ([[(oa 0, .inr (11, [.ref (oa 1), .ref (oa 14), .ref (oa 27), .int c7_zv, .ref (oa 40), .ref (oa 146), .int c7_zk, .ref (oa 152), .int c7_zd, .int c7_ze, .int c7_zc]))], wX0 dA (fun k => oa (1 + k)) c7_zb, wX0 dA (fun k => oa (14 + k)) c7_zt, wX0 dA (fun k => oa (27 + k)) c7_zn, wX3 dA (fun k => oa (40 + k)) c10, wX6 dA (fun k => oa (146 + k)) c7_zx, wLN dA (oa 152) ln].flatten) := hD
      refine lv_aload_n hx hb dX7_removePhase_31 rfl (lv_at hl 1 rfl) ?_
      refine va_get (D := (dC, dI)) (ci := 11) (v := .ref (oa 1)) (C := RX7) (T := TX7) (N := 11) hx hb hts in_X7 hown hK hP 0 rfl rfl 0 (by decide) (hts _ (bg _ wd_274)) (fun _ h9 => h9) rfl dX7_removePhase_32 ?_
      refine lv_iload_n hx hb dX7_removePhase_35 rfl (lv_at hl 2 rfl) ?_
      obtain ⟨r12, c13, eh11, hf⟩ := bP_inv hf
      refine jg1_i (va_runV (As := [.int p1]) (rest := []) ⟨hx, hb, hml, hown, hts⟩ (mt_X0_cutPhase l dC dI dA gz (fun k => oa (1 + k)) H.size c7_zb p1 r12 c13 eh11) (cwV 1 hts (gi_v bg wd_762 wd_763 wd_764 wd_2 wd_765) rfl rfl rfl hd_X0_cutPhase ⟨Nat.le_of_ble_eq_true rfl, Nat.le_of_ble_eq_true rfl⟩) ⟨pP_blind, va_recv (ci := 4) (q0 := 0) hK (seg_P hP 1 rfl) rfl rfl, pP_pre1 hP hD hS hA hK hN hZ 1 rfl⟩ rfl rfl hl.1 rfl (lv_room (Nat.le_of_ble_eq_true rfl)) dX7_removePhase_36 ⟨Nat.le_of_ble_eq_true rfl, Nat.le_of_ble_eq_true rfl⟩) hP hD hS hA 1 rfl (aX0 _ _ _ _) (fun H locs hP hD hS => ?_)
      have hP : va_P (dC, dI) vwCl ([[(oa 0, .inr (11, [.ref (oa 1), .ref (oa 14), .ref (oa 27), .int c7_zv, .ref (oa 40), .ref (oa 146), .int c7_zk, .ref (oa 152), .int c7_zd, .int c7_ze, .int c7_zc]))], wX0 dA (fun k => oa (1 + k)) c13, wX0 dA (fun k => oa (14 + k)) c7_zt, wX0 dA (fun k => oa (27 + k)) c7_zn, wX3 dA (fun k => oa (40 + k)) c10, wX6 dA (fun k => oa (146 + k)) c7_zx, wLN dA (oa 152) ln].flatten : va_W) H := hP
      have hD : va_D A ([[(oa 0, .inr (11, [.ref (oa 1), .ref (oa 14), .ref (oa 27), .int c7_zv, .ref (oa 40), .ref (oa 146), .int c7_zk, .ref (oa 152), .int c7_zd, .int c7_ze, .int c7_zc]))], wX0 dA (fun k => oa (1 + k)) c13, wX0 dA (fun k => oa (14 + k)) c7_zt, wX0 dA (fun k => oa (27 + k)) c7_zn, wX3 dA (fun k => oa (40 + k)) c10, wX6 dA (fun k => oa (146 + k)) c7_zx, wLN dA (oa 152) ln].flatten) := hD
      obtain ⟨e8, e9⟩ := Prod.mk.inj (sm hf)
      exact vx_ret (W.iret hx hb hr (fun t ht hW => ⟨⟨_, (), rfl, e8.symm, by rw [← e9, ht]; exact hP, by rw [← e9]; exact hD⟩, hS.F ht⟩) hS.2.2 dX7_removePhase_39)
    · obtain ⟨e8, e9⟩ := Prod.mk.inj hf
      refine jx_v (w1 := wX7 dA oa S9 ln) (vx_runV (As := [.int r2, .int (-1)]) (rest := []) ⟨hx, hb, hml, hown, hts⟩ (m_X7_requireAllowed l hl0 dC dI dA gz oa H.size ln c4_zb c4_zt c4_zn c4_zv c4_zh c4_zx c4_zk c4_zd c4_ze c4_zc r2 (-1) (.inr E9) S9 eh6) (cwV 2 hts (gi_v bg wd_449 wd_451 ws_2 wd_1 wd_452) rfl rfl rfl hd_X7_requireAllowed ⟨Nat.le_of_ble_eq_true rfl, Nat.le_of_ble_eq_true rfl⟩) ⟨pP_blind, va_recv (ci := 11) (q0 := 0) hK hP rfl rfl, pP_preW hP hD hS hA hK hN hZ⟩ rfl rfl hl.1 rfl (lv_room (Nat.le_of_ble_eq_true rfl)) dX7_removePhase_17 ⟨Nat.le_of_ble_eq_true rfl, Nat.le_of_ble_eq_true rfl⟩) hD hS hA (fun E ce q9 H locs h9 hP hD hS h1 h2 h3 => ?_) (fun H locs h9 _ _ _ => nomatch h9)
      cases h9
      exact vx_out (fun x9 hx9 => absurd (ht9 x9 hx9) id) hlocks h1 h2 h3 (fun t ht hvm => by rw [← e9]; exact xp e8.symm hP hD hS ht) hS.2.2 (Nat.le_of_ble_eq_true rfl) (Nat.le_of_ble_eq_true rfl)
  · obtain ⟨e8, e9⟩ := Prod.mk.inj hf
    refine jx_v (w1 := wX7 dA oa S9 ln) (vx_runV (As := [.int r2]) (rest := []) ⟨hx, hb, hml, hown, hts⟩ (m_X7_requireRightIndex l hl0 dC dI dA gz oa H.size ln zb zt zn zv zh zx zk zd ze zc r2 (.inr E9) S9 eh3) (cwV 1 hts (gi_v bg wd_928 wd_930 ws_15 wd_1 wd_931) rfl rfl rfl hd_X7_requireRightIndex ⟨Nat.le_of_ble_eq_true rfl, Nat.le_of_ble_eq_true rfl⟩) ⟨pP_blind, va_recv (ci := 11) (q0 := 0) hK hP rfl rfl, pP_preW hP hD hS hA hK hN hZ⟩ rfl rfl hl.1 rfl (lv_room (Nat.le_of_ble_eq_true rfl)) dX7_removePhase_11 ⟨Nat.le_of_ble_eq_true rfl, Nat.le_of_ble_eq_true rfl⟩) hD hS hA (fun E ce q9 H locs h9 hP hD hS h1 h2 h3 => ?_) (fun H locs h9 _ _ _ => nomatch h9)
    cases h9
    exact vx_out (fun x9 hx9 => absurd (ht9 x9 hx9) id) hlocks h1 h2 h3 (fun t ht hvm => by rw [← e9]; exact xp e8.symm hP hD hS ht) hS.2.2 (Nat.le_of_ble_eq_true rfl) (Nat.le_of_ble_eq_true rfl)
/-! X7_start -/
def f_X7_start (zb : SX0) (zt : SX0) (zn : SX0) (zv : Int32) (zh : SX3) (zx : SX6) (zk : Int32) (zd : Int32) (ze : Int32) (zc : Int32) : Option ((Int32 ⊕ String) × SX7) :=
  (g_X0_judgeStart zb).bind fun r2 =>
  bE7 (f_X7_requireAllowed zb zt zn zv zh zx zk zd ze zc r2 (-1)) fun _ c4_zb c4_zt c4_zn c4_zv c4_zh c4_zx c4_zk c4_zd c4_ze c4_zc =>
  (g_X3_push c4_zh c4_zb).bind fun c7 =>
  bP (g_X0_startCycle c4_zb) fun r9 c10 =>
  some (.inl r9, (c10, c4_zt, c4_zn, c4_zv, c7, c4_zx, c4_zk, c4_zd, c4_ze, c4_zc))
set_option maxRecDepth 100000 in
set_option maxHeartbeats 4000000 in
theorem m_X7_start (l : Launch) (hl0 : l.stackTraces = false) (dC : Nat → ClassId) (dI : Nat → Nat → Nat) (dA gz : Nat → Nat) (oa : Nat → Nat) (sz : Nat) (ln : LN) (zb : SX0) (zt : SX0) (zn : SX0) (zv : Int32) (zh : SX3) (zx : SX6) (zk : Int32) (zd : Int32) (ze : Int32) (zc : Int32) (rr : Int32 ⊕ String) (uu : SX7) (hf : f_X7_start zb zt zn zv zh zx zk zd ze zc = some (rr, uu)) : vx_Met l yX7_start ws_X7_start ({ frames := 34, cells := 1, slots := 6, locals := 1400 } : Room) (va_Pc [.ref (oa 0)] (pP (dC, dI) dA gz (wX7 dA oa (zb, zt, zn, zv, zh, zx, zk, zd, ze, zc) ln) sz)) (va_Qi (S := Unit) (fun r' _ => rr = Sum.inl r') (fun _ t => pQ (dC, dI) (va_A (wX7 dA oa (zb, zt, zn, zv, zh, zx, zk, zd, ze, zc) ln) sz) (wX7 dA oa uu ln) t) (va_A (wX7 dA oa (zb, zt, zn, zv, zh, zx, zk, zd, ze, zc) ln) sz)) (XCx (dC, dI) (va_A (wX7 dA oa (zb, zt, zn, zv, zh, zx, zk, zd, ze, zc) ln) sz) rr (wX7 dA oa uu ln)) 1 6 (va_A (wX7 dA oa (zb, zt, zn, zv, zh, zx, zk, zd, ze, zc) ln) sz) := by
  refine vx_ofW (cc := cX7_start) (maxL := 1) (ret := (some .int)) (by decide) rfl ?_
  intro p e s m args below meth c s₁ B hml ht9 hv
  obtain ⟨rfl, hsz, hP, hK, hD0, hN, hZ⟩ := hv
  have hx := B.exec
  have hb := B.bytes
  have hr := B.returns
  have hts := atoms_spec (ws := ws_X7_start) B.pre
  have htb : ∀ w ∈ BIG, w.before _ s = true := fun w h => hts w (bg w h)
  have hown : s.vm.findClass RX7 = some m.cls := findClass_of_methodNamed B.named
  have hlocks := B.notSynchronized
  subst hsz
  have hD := hD0.self (sz := s.heap.size)
  generalize hAe : va_A (wX7 dA oa (zb, zt, zn, zv, zh, zx, zk, zd, ze, zc) ln) s.heap.size = A at hD hZ ⊢
  have hA : ∀ q : Nat, s.heap.size ≤ q → A q := fun q h => by rw [← hAe]; exact Or.inr h
  have hS : va_S A s.heap s.heap [] := va_S.rf
  have hP : va_P (dC, dI) vwCl ([[(oa 0, .inr (11, [.ref (oa 1), .ref (oa 14), .ref (oa 27), .int zv, .ref (oa 40), .ref (oa 146), .int zk, .ref (oa 152), .int zd, .int ze, .int zc]))], wX0 dA (fun k => oa (1 + k)) zb, wX0 dA (fun k => oa (14 + k)) zt, wX0 dA (fun k => oa (27 + k)) zn, wX3 dA (fun k => oa (40 + k)) zh, wX6 dA (fun k => oa (146 + k)) zx, wLN dA (oa 152) ln].flatten) s.heap := hP
  have hD : va_D A ([[(oa 0, .inr (11, [.ref (oa 1), .ref (oa 14), .ref (oa 27), .int zv, .ref (oa 40), .ref (oa 146), .int zk, .ref (oa 152), .int zd, .int ze, .int zc]))], wX0 dA (fun k => oa (1 + k)) zb, wX0 dA (fun k => oa (14 + k)) zt, wX0 dA (fun k => oa (27 + k)) zn, wX3 dA (fun k => oa (40 + k)) zh, wX6 dA (fun k => oa (146 + k)) zx, wLN dA (oa 152) ln].flatten) := hD
  have hl := lv_entry [.ref (oa 0)] (n := 1) (Nat.le_of_ble_eq_true rfl)
  rw [lg_entry_eq]
  generalize (lg_sl [.ref (oa 0)] ++ List.replicate (1 - (lg_sl [.ref (oa 0)]).length) Slot.unset).toArray = ls at hl ⊢
  have hl : lv_has ls 1 [(0, .ref (oa 0))] := hl
  have in_X7 : ∀ w ∈ wsX70, w ∈ ws_X7_start := fun w h => bg _ (inB_X7 w h)
  rw [f_X7_start] at hf
  refine lv_aload_n hx hb dX7_start_0 rfl (lv_at hl 0 rfl) ?_
  refine lv_aload_n hx hb dX7_start_1 rfl (lv_at hl 0 rfl) ?_
  refine va_get (D := (dC, dI)) (ci := 11) (v := .ref (oa 1)) (C := RX7) (T := TX7) (N := 11) hx hb hts in_X7 hown hK hP 0 rfl rfl 0 (by decide) (hts _ (bg _ wd_274)) (fun _ h9 => h9) rfl dX7_start_2 ?_
  obtain ⟨r2, eh1, hf⟩ := bd hf
  refine jgr_i (va_runV (As := []) (rest := [.ref (oa 0)]) ⟨hx, hb, hml, hown, hts⟩ (mt_X0_judgeStart l dC dI dA gz (fun k => oa (1 + k)) s.heap.size zb r2 eh1) (cwV 0 hts (gi_v bg wd_500 wd_501 wd_502 wd_2 wd_503) rfl rfl rfl hd_X0_judgeStart ⟨Nat.le_of_ble_eq_true rfl, Nat.le_of_ble_eq_true rfl⟩) ⟨pP_blind, va_recv (ci := 4) (q0 := 0) hK (seg_P hP 1 rfl) rfl rfl, pP_pre1 hP hD hS hA hK hN hZ 1 rfl⟩ rfl rfl hl.1 rfl (lv_room (Nat.le_of_ble_eq_true rfl)) dX7_start_5 ⟨Nat.le_of_ble_eq_true rfl, Nat.le_of_ble_eq_true rfl⟩) hP hD hS hA 1 rfl (fun H locs hP hS => ?_)
  refine lv_iconst (v := (-1)) hx hb dX7_start_8 (by decide) ?_
  rcases bE7_inv hf with ⟨r5, c4_zb, c4_zt, c4_zn, c4_zv, c4_zh, c4_zx, c4_zk, c4_zd, c4_ze, c4_zc, eh3, hf⟩ | ⟨E9, S9, eh3, hf⟩
  · refine jx_v (w1 := wX7 dA oa (c4_zb, c4_zt, c4_zn, c4_zv, c4_zh, c4_zx, c4_zk, c4_zd, c4_ze, c4_zc) ln) (vx_runV (As := [.int r2, .int (-1)]) (rest := []) ⟨hx, hb, hml, hown, hts⟩ (m_X7_requireAllowed l hl0 dC dI dA gz oa H.size ln zb zt zn zv zh zx zk zd ze zc r2 (-1) (.inl ()) (c4_zb, c4_zt, c4_zn, c4_zv, c4_zh, c4_zx, c4_zk, c4_zd, c4_ze, c4_zc) eh3) (cwV 2 hts (gi_v bg wd_449 wd_451 ws_2 wd_1 wd_452) rfl rfl rfl hd_X7_requireAllowed ⟨Nat.le_of_ble_eq_true rfl, Nat.le_of_ble_eq_true rfl⟩) ⟨pP_blind, va_recv (ci := 11) (q0 := 0) hK hP rfl rfl, pP_preW hP hD hS hA hK hN hZ⟩ rfl rfl hl.1 rfl (lv_room (Nat.le_of_ble_eq_true rfl)) dX7_start_9 ⟨Nat.le_of_ble_eq_true rfl, Nat.le_of_ble_eq_true rfl⟩) hD hS hA (fun E ce q9 H locs h9 _ _ _ _ _ _ => nomatch h9) (fun H locs h9 hP hD hS => ?_)
    have hP : va_P (dC, dI) vwCl ([[(oa 0, .inr (11, [.ref (oa 1), .ref (oa 14), .ref (oa 27), .int c4_zv, .ref (oa 40), .ref (oa 146), .int c4_zk, .ref (oa 152), .int c4_zd, .int c4_ze, .int c4_zc]))], wX0 dA (fun k => oa (1 + k)) c4_zb, wX0 dA (fun k => oa (14 + k)) c4_zt, wX0 dA (fun k => oa (27 + k)) c4_zn, wX3 dA (fun k => oa (40 + k)) c4_zh, wX6 dA (fun k => oa (146 + k)) c4_zx, wLN dA (oa 152) ln].flatten) H := hP
    have hD : va_D A ([[(oa 0, .inr (11, [.ref (oa 1), .ref (oa 14), .ref (oa 27), .int c4_zv, .ref (oa 40), .ref (oa 146), .int c4_zk, .ref (oa 152), .int c4_zd, .int c4_ze, .int c4_zc]))], wX0 dA (fun k => oa (1 + k)) c4_zb, wX0 dA (fun k => oa (14 + k)) c4_zt, wX0 dA (fun k => oa (27 + k)) c4_zn, wX3 dA (fun k => oa (40 + k)) c4_zh, wX6 dA (fun k => oa (146 + k)) c4_zx, wLN dA (oa 152) ln].flatten) := hD
    refine lv_aload_n hx hb dX7_start_12 rfl (lv_at hl 0 rfl) ?_
    refine va_get (D := (dC, dI)) (ci := 11) (v := .ref (oa 40)) (C := RX7) (T := TX7) (N := 11) hx hb hts in_X7 hown hK hP 0 rfl rfl 4 (by decide) (hts _ (bg _ wd_278)) (fun _ h9 => h9) rfl dX7_start_13 ?_
    refine lv_aload_n hx hb dX7_start_16 rfl (lv_at hl 0 rfl) ?_
    refine va_get (D := (dC, dI)) (ci := 11) (v := .ref (oa 1)) (C := RX7) (T := TX7) (N := 11) hx hb hts in_X7 hown hK hP 0 rfl rfl 0 (by decide) (hts _ (bg _ wd_274)) (fun _ h9 => h9) rfl dX7_start_17 ?_
    obtain ⟨c7, eh6, hf⟩ := bd hf
    refine jg2_v (va_runV (As := [.ref (oa 1)]) (rest := []) ⟨hx, hb, hml, hown, hts⟩ (mt_X3_push l dC dI dA gz (fun k => oa (40 + k)) (fun k => oa (1 + k)) H.size c4_zh c4_zb c7 eh6) (cwV 1 hts (gi_v bg wd_477 wd_478 wd_479 wd_7 wd_480) rfl rfl rfl hd_X3_push ⟨Nat.le_of_ble_eq_true rfl, Nat.le_of_ble_eq_true rfl⟩) ⟨pP_blind, va_recv (ci := 7) (q0 := 0) hK (seg_P hP 4 rfl) rfl rfl, pP_pre2 hP hD hS hA hK hN hZ 4 1 rfl rfl (by decide)⟩ rfl rfl hl.1 rfl (lv_room (Nat.le_of_ble_eq_true rfl)) dX7_start_20 ⟨Nat.le_of_ble_eq_true rfl, Nat.le_of_ble_eq_true rfl⟩) hP hD hS hA 4 1 rfl rfl (by decide) (aX3 _ _ _ _) (fun H locs hP hD hS => ?_)
    have hP : va_P (dC, dI) vwCl ([[(oa 0, .inr (11, [.ref (oa 1), .ref (oa 14), .ref (oa 27), .int c4_zv, .ref (oa 40), .ref (oa 146), .int c4_zk, .ref (oa 152), .int c4_zd, .int c4_ze, .int c4_zc]))], wX0 dA (fun k => oa (1 + k)) c4_zb, wX0 dA (fun k => oa (14 + k)) c4_zt, wX0 dA (fun k => oa (27 + k)) c4_zn, wX3 dA (fun k => oa (40 + k)) c7, wX6 dA (fun k => oa (146 + k)) c4_zx, wLN dA (oa 152) ln].flatten : va_W) H := hP
    have hD : va_D A ([[(oa 0, .inr (11, [.ref (oa 1), .ref (oa 14), .ref (oa 27), .int c4_zv, .ref (oa 40), .ref (oa 146), .int c4_zk, .ref (oa 152), .int c4_zd, .int c4_ze, .int c4_zc]))], wX0 dA (fun k => oa (1 + k)) c4_zb, wX0 dA (fun k => oa (14 + k)) c4_zt, wX0 dA (fun k => oa (27 + k)) c4_zn, wX3 dA (fun k => oa (40 + k)) c7, wX6 dA (fun k => oa (146 + k)) c4_zx, wLN dA (oa 152) ln].flatten) := hD
    refine lv_aload_n hx hb dX7_start_23 rfl (lv_at hl 0 rfl) ?_
    refine va_get (D := (dC, dI)) (ci := 11) (v := .ref (oa 1)) (C := RX7) (T := TX7) (N := 11) hx hb hts in_X7 hown hK hP 0 rfl rfl 0 (by decide) (hts _ (bg _ wd_274)) (fun _ h9 => h9) rfl dX7_start_24 ?_
    obtain ⟨r9, c10, eh8, hf⟩ := bP_inv hf
    refine jg1_i (va_runV (As := []) (rest := []) ⟨hx, hb, hml, hown, hts⟩ (mt_X0_startCycle l dC dI dA gz (fun k => oa (1 + k)) H.size c4_zb r9 c10 eh8) (cwV 0 hts (gi_v bg wd_504 wd_505 wd_506 wd_2 wd_507) rfl rfl rfl hd_X0_startCycle ⟨Nat.le_of_ble_eq_true rfl, Nat.le_of_ble_eq_true rfl⟩) ⟨pP_blind, va_recv (ci := 4) (q0 := 0) hK (seg_P hP 1 rfl) rfl rfl, pP_pre1 hP hD hS hA hK hN hZ 1 rfl⟩ rfl rfl hl.1 rfl (lv_room (Nat.le_of_ble_eq_true rfl)) dX7_start_27 ⟨Nat.le_of_ble_eq_true rfl, Nat.le_of_ble_eq_true rfl⟩) hP hD hS hA 1 rfl (aX0 _ _ _ _) (fun H locs hP hD hS => ?_)
    have hP : va_P (dC, dI) vwCl ([[(oa 0, .inr (11, [.ref (oa 1), .ref (oa 14), .ref (oa 27), .int c4_zv, .ref (oa 40), .ref (oa 146), .int c4_zk, .ref (oa 152), .int c4_zd, .int c4_ze, .int c4_zc]))], wX0 dA (fun k => oa (1 + k)) c10, wX0 dA (fun k => oa (14 + k)) c4_zt, wX0 dA (fun k => oa (27 + k)) c4_zn, wX3 dA (fun k => oa (40 + k)) c7, wX6 dA (fun k => oa (146 + k)) c4_zx, wLN dA (oa 152) ln].flatten : va_W) H := hP
    have hD : va_D A ([[(oa 0, .inr (11, [.ref (oa 1), .ref (oa 14), .ref (oa 27), .int c4_zv, .ref (oa 40), .ref (oa 146), .int c4_zk, .ref (oa 152), .int c4_zd, .int c4_ze, .int c4_zc]))], wX0 dA (fun k => oa (1 + k)) c10, wX0 dA (fun k => oa (14 + k)) c4_zt, wX0 dA (fun k => oa (27 + k)) c4_zn, wX3 dA (fun k => oa (40 + k)) c7, wX6 dA (fun k => oa (146 + k)) c4_zx, wLN dA (oa 152) ln].flatten) := hD
    obtain ⟨e8, e9⟩ := Prod.mk.inj (sm hf)
    exact vx_ret (W.iret hx hb hr (fun t ht hW => ⟨⟨_, (), rfl, e8.symm, by rw [← e9, ht]; exact hP, by rw [← e9]; exact hD⟩, hS.F ht⟩) hS.2.2 dX7_start_30)
  · obtain ⟨e8, e9⟩ := Prod.mk.inj hf
    refine jx_v (w1 := wX7 dA oa S9 ln) (vx_runV (As := [.int r2, .int (-1)]) (rest := []) ⟨hx, hb, hml, hown, hts⟩ (m_X7_requireAllowed l hl0 dC dI dA gz oa H.size ln zb zt zn zv zh zx zk zd ze zc r2 (-1) (.inr E9) S9 eh3) (cwV 2 hts (gi_v bg wd_449 wd_451 ws_2 wd_1 wd_452) rfl rfl rfl hd_X7_requireAllowed ⟨Nat.le_of_ble_eq_true rfl, Nat.le_of_ble_eq_true rfl⟩) ⟨pP_blind, va_recv (ci := 11) (q0 := 0) hK hP rfl rfl, pP_preW hP hD hS hA hK hN hZ⟩ rfl rfl hl.1 rfl (lv_room (Nat.le_of_ble_eq_true rfl)) dX7_start_9 ⟨Nat.le_of_ble_eq_true rfl, Nat.le_of_ble_eq_true rfl⟩) hD hS hA (fun E ce q9 H locs h9 hP hD hS h1 h2 h3 => ?_) (fun H locs h9 _ _ _ => nomatch h9)
    cases h9
    exact vx_out (fun x9 hx9 => absurd (ht9 x9 hx9) id) hlocks h1 h2 h3 (fun t ht hvm => by rw [← e9]; exact xp e8.symm hP hD hS ht) hS.2.2 (Nat.le_of_ble_eq_true rfl) (Nat.le_of_ble_eq_true rfl)
/-! X7_stop -/
def f_X7_stop (zb : SX0) (zt : SX0) (zn : SX0) (zv : Int32) (zh : SX3) (zx : SX6) (zk : Int32) (zd : Int32) (ze : Int32) (zc : Int32) : Option ((Int32 ⊕ String) × SX7) :=
  (g_X0_judgeStop zb).bind fun r2 =>
  bE7 (f_X7_requireAllowed zb zt zn zv zh zx zk zd ze zc r2 (-1)) fun _ c4_zb c4_zt c4_zn c4_zv c4_zh c4_zx c4_zk c4_zd c4_ze c4_zc =>
  (g_X3_push c4_zh c4_zb).bind fun c7 =>
  bP (g_X0_stopCycle c4_zb) fun r9 c10 =>
  some (.inl r9, (c10, c4_zt, c4_zn, c4_zv, c7, c4_zx, c4_zk, c4_zd, c4_ze, c4_zc))
set_option maxRecDepth 100000 in
set_option maxHeartbeats 4000000 in
theorem m_X7_stop (l : Launch) (hl0 : l.stackTraces = false) (dC : Nat → ClassId) (dI : Nat → Nat → Nat) (dA gz : Nat → Nat) (oa : Nat → Nat) (sz : Nat) (ln : LN) (zb : SX0) (zt : SX0) (zn : SX0) (zv : Int32) (zh : SX3) (zx : SX6) (zk : Int32) (zd : Int32) (ze : Int32) (zc : Int32) (rr : Int32 ⊕ String) (uu : SX7) (hf : f_X7_stop zb zt zn zv zh zx zk zd ze zc = some (rr, uu)) : vx_Met l yX7_stop ws_X7_stop ({ frames := 34, cells := 1, slots := 6, locals := 1400 } : Room) (va_Pc [.ref (oa 0)] (pP (dC, dI) dA gz (wX7 dA oa (zb, zt, zn, zv, zh, zx, zk, zd, ze, zc) ln) sz)) (va_Qi (S := Unit) (fun r' _ => rr = Sum.inl r') (fun _ t => pQ (dC, dI) (va_A (wX7 dA oa (zb, zt, zn, zv, zh, zx, zk, zd, ze, zc) ln) sz) (wX7 dA oa uu ln) t) (va_A (wX7 dA oa (zb, zt, zn, zv, zh, zx, zk, zd, ze, zc) ln) sz)) (XCx (dC, dI) (va_A (wX7 dA oa (zb, zt, zn, zv, zh, zx, zk, zd, ze, zc) ln) sz) rr (wX7 dA oa uu ln)) 1 6 (va_A (wX7 dA oa (zb, zt, zn, zv, zh, zx, zk, zd, ze, zc) ln) sz) := by
  refine vx_ofW (cc := cX7_stop) (maxL := 1) (ret := (some .int)) (by decide) rfl ?_
  intro p e s m args below meth c s₁ B hml ht9 hv
  obtain ⟨rfl, hsz, hP, hK, hD0, hN, hZ⟩ := hv
  have hx := B.exec
  have hb := B.bytes
  have hr := B.returns
  have hts := atoms_spec (ws := ws_X7_stop) B.pre
  have htb : ∀ w ∈ BIG, w.before _ s = true := fun w h => hts w (bg w h)
  have hown : s.vm.findClass RX7 = some m.cls := findClass_of_methodNamed B.named
  have hlocks := B.notSynchronized
  subst hsz
  have hD := hD0.self (sz := s.heap.size)
  generalize hAe : va_A (wX7 dA oa (zb, zt, zn, zv, zh, zx, zk, zd, ze, zc) ln) s.heap.size = A at hD hZ ⊢
  have hA : ∀ q : Nat, s.heap.size ≤ q → A q := fun q h => by rw [← hAe]; exact Or.inr h
  have hS : va_S A s.heap s.heap [] := va_S.rf
  have hP : va_P (dC, dI) vwCl ([[(oa 0, .inr (11, [.ref (oa 1), .ref (oa 14), .ref (oa 27), .int zv, .ref (oa 40), .ref (oa 146), .int zk, .ref (oa 152), .int zd, .int ze, .int zc]))], wX0 dA (fun k => oa (1 + k)) zb, wX0 dA (fun k => oa (14 + k)) zt, wX0 dA (fun k => oa (27 + k)) zn, wX3 dA (fun k => oa (40 + k)) zh, wX6 dA (fun k => oa (146 + k)) zx, wLN dA (oa 152) ln].flatten) s.heap := hP
  have hD : va_D A ([[(oa 0, .inr (11, [.ref (oa 1), .ref (oa 14), .ref (oa 27), .int zv, .ref (oa 40), .ref (oa 146), .int zk, .ref (oa 152), .int zd, .int ze, .int zc]))], wX0 dA (fun k => oa (1 + k)) zb, wX0 dA (fun k => oa (14 + k)) zt, wX0 dA (fun k => oa (27 + k)) zn, wX3 dA (fun k => oa (40 + k)) zh, wX6 dA (fun k => oa (146 + k)) zx, wLN dA (oa 152) ln].flatten) := hD
  have hl := lv_entry [.ref (oa 0)] (n := 1) (Nat.le_of_ble_eq_true rfl)
  rw [lg_entry_eq]
  generalize (lg_sl [.ref (oa 0)] ++ List.replicate (1 - (lg_sl [.ref (oa 0)]).length) Slot.unset).toArray = ls at hl ⊢
  have hl : lv_has ls 1 [(0, .ref (oa 0))] := hl
  have in_X7 : ∀ w ∈ wsX70, w ∈ ws_X7_stop := fun w h => bg _ (inB_X7 w h)
  rw [f_X7_stop] at hf
  refine lv_aload_n hx hb dX7_stop_0 rfl (lv_at hl 0 rfl) ?_
  refine lv_aload_n hx hb dX7_stop_1 rfl (lv_at hl 0 rfl) ?_
  refine va_get (D := (dC, dI)) (ci := 11) (v := .ref (oa 1)) (C := RX7) (T := TX7) (N := 11) hx hb hts in_X7 hown hK hP 0 rfl rfl 0 (by decide) (hts _ (bg _ wd_274)) (fun _ h9 => h9) rfl dX7_stop_2 ?_
  obtain ⟨r2, eh1, hf⟩ := bd hf
  refine jgr_i (va_runV (As := []) (rest := [.ref (oa 0)]) ⟨hx, hb, hml, hown, hts⟩ (mt_X0_judgeStop l dC dI dA gz (fun k => oa (1 + k)) s.heap.size zb r2 eh1) (cwV 0 hts (gi_v bg wd_524 wd_525 wd_526 wd_2 wd_527) rfl rfl rfl hd_X0_judgeStop ⟨Nat.le_of_ble_eq_true rfl, Nat.le_of_ble_eq_true rfl⟩) ⟨pP_blind, va_recv (ci := 4) (q0 := 0) hK (seg_P hP 1 rfl) rfl rfl, pP_pre1 hP hD hS hA hK hN hZ 1 rfl⟩ rfl rfl hl.1 rfl (lv_room (Nat.le_of_ble_eq_true rfl)) dX7_stop_5 ⟨Nat.le_of_ble_eq_true rfl, Nat.le_of_ble_eq_true rfl⟩) hP hD hS hA 1 rfl (fun H locs hP hS => ?_)
  refine lv_iconst (v := (-1)) hx hb dX7_stop_8 (by decide) ?_
  rcases bE7_inv hf with ⟨r5, c4_zb, c4_zt, c4_zn, c4_zv, c4_zh, c4_zx, c4_zk, c4_zd, c4_ze, c4_zc, eh3, hf⟩ | ⟨E9, S9, eh3, hf⟩
  · refine jx_v (w1 := wX7 dA oa (c4_zb, c4_zt, c4_zn, c4_zv, c4_zh, c4_zx, c4_zk, c4_zd, c4_ze, c4_zc) ln) (vx_runV (As := [.int r2, .int (-1)]) (rest := []) ⟨hx, hb, hml, hown, hts⟩ (m_X7_requireAllowed l hl0 dC dI dA gz oa H.size ln zb zt zn zv zh zx zk zd ze zc r2 (-1) (.inl ()) (c4_zb, c4_zt, c4_zn, c4_zv, c4_zh, c4_zx, c4_zk, c4_zd, c4_ze, c4_zc) eh3) (cwV 2 hts (gi_v bg wd_449 wd_451 ws_2 wd_1 wd_452) rfl rfl rfl hd_X7_requireAllowed ⟨Nat.le_of_ble_eq_true rfl, Nat.le_of_ble_eq_true rfl⟩) ⟨pP_blind, va_recv (ci := 11) (q0 := 0) hK hP rfl rfl, pP_preW hP hD hS hA hK hN hZ⟩ rfl rfl hl.1 rfl (lv_room (Nat.le_of_ble_eq_true rfl)) dX7_stop_9 ⟨Nat.le_of_ble_eq_true rfl, Nat.le_of_ble_eq_true rfl⟩) hD hS hA (fun E ce q9 H locs h9 _ _ _ _ _ _ => nomatch h9) (fun H locs h9 hP hD hS => ?_)
    have hP : va_P (dC, dI) vwCl ([[(oa 0, .inr (11, [.ref (oa 1), .ref (oa 14), .ref (oa 27), .int c4_zv, .ref (oa 40), .ref (oa 146), .int c4_zk, .ref (oa 152), .int c4_zd, .int c4_ze, .int c4_zc]))], wX0 dA (fun k => oa (1 + k)) c4_zb, wX0 dA (fun k => oa (14 + k)) c4_zt, wX0 dA (fun k => oa (27 + k)) c4_zn, wX3 dA (fun k => oa (40 + k)) c4_zh, wX6 dA (fun k => oa (146 + k)) c4_zx, wLN dA (oa 152) ln].flatten) H := hP
    have hD : va_D A ([[(oa 0, .inr (11, [.ref (oa 1), .ref (oa 14), .ref (oa 27), .int c4_zv, .ref (oa 40), .ref (oa 146), .int c4_zk, .ref (oa 152), .int c4_zd, .int c4_ze, .int c4_zc]))], wX0 dA (fun k => oa (1 + k)) c4_zb, wX0 dA (fun k => oa (14 + k)) c4_zt, wX0 dA (fun k => oa (27 + k)) c4_zn, wX3 dA (fun k => oa (40 + k)) c4_zh, wX6 dA (fun k => oa (146 + k)) c4_zx, wLN dA (oa 152) ln].flatten) := hD
    refine lv_aload_n hx hb dX7_stop_12 rfl (lv_at hl 0 rfl) ?_
    refine va_get (D := (dC, dI)) (ci := 11) (v := .ref (oa 40)) (C := RX7) (T := TX7) (N := 11) hx hb hts in_X7 hown hK hP 0 rfl rfl 4 (by decide) (hts _ (bg _ wd_278)) (fun _ h9 => h9) rfl dX7_stop_13 ?_
    refine lv_aload_n hx hb dX7_stop_16 rfl (lv_at hl 0 rfl) ?_
    refine va_get (D := (dC, dI)) (ci := 11) (v := .ref (oa 1)) (C := RX7) (T := TX7) (N := 11) hx hb hts in_X7 hown hK hP 0 rfl rfl 0 (by decide) (hts _ (bg _ wd_274)) (fun _ h9 => h9) rfl dX7_stop_17 ?_
    obtain ⟨c7, eh6, hf⟩ := bd hf
    refine jg2_v (va_runV (As := [.ref (oa 1)]) (rest := []) ⟨hx, hb, hml, hown, hts⟩ (mt_X3_push l dC dI dA gz (fun k => oa (40 + k)) (fun k => oa (1 + k)) H.size c4_zh c4_zb c7 eh6) (cwV 1 hts (gi_v bg wd_477 wd_478 wd_479 wd_7 wd_480) rfl rfl rfl hd_X3_push ⟨Nat.le_of_ble_eq_true rfl, Nat.le_of_ble_eq_true rfl⟩) ⟨pP_blind, va_recv (ci := 7) (q0 := 0) hK (seg_P hP 4 rfl) rfl rfl, pP_pre2 hP hD hS hA hK hN hZ 4 1 rfl rfl (by decide)⟩ rfl rfl hl.1 rfl (lv_room (Nat.le_of_ble_eq_true rfl)) dX7_stop_20 ⟨Nat.le_of_ble_eq_true rfl, Nat.le_of_ble_eq_true rfl⟩) hP hD hS hA 4 1 rfl rfl (by decide) (aX3 _ _ _ _) (fun H locs hP hD hS => ?_)
    have hP : va_P (dC, dI) vwCl ([[(oa 0, .inr (11, [.ref (oa 1), .ref (oa 14), .ref (oa 27), .int c4_zv, .ref (oa 40), .ref (oa 146), .int c4_zk, .ref (oa 152), .int c4_zd, .int c4_ze, .int c4_zc]))], wX0 dA (fun k => oa (1 + k)) c4_zb, wX0 dA (fun k => oa (14 + k)) c4_zt, wX0 dA (fun k => oa (27 + k)) c4_zn, wX3 dA (fun k => oa (40 + k)) c7, wX6 dA (fun k => oa (146 + k)) c4_zx, wLN dA (oa 152) ln].flatten : va_W) H := hP
    have hD : va_D A ([[(oa 0, .inr (11, [.ref (oa 1), .ref (oa 14), .ref (oa 27), .int c4_zv, .ref (oa 40), .ref (oa 146), .int c4_zk, .ref (oa 152), .int c4_zd, .int c4_ze, .int c4_zc]))], wX0 dA (fun k => oa (1 + k)) c4_zb, wX0 dA (fun k => oa (14 + k)) c4_zt, wX0 dA (fun k => oa (27 + k)) c4_zn, wX3 dA (fun k => oa (40 + k)) c7, wX6 dA (fun k => oa (146 + k)) c4_zx, wLN dA (oa 152) ln].flatten) := hD
    refine lv_aload_n hx hb dX7_stop_23 rfl (lv_at hl 0 rfl) ?_
    refine va_get (D := (dC, dI)) (ci := 11) (v := .ref (oa 1)) (C := RX7) (T := TX7) (N := 11) hx hb hts in_X7 hown hK hP 0 rfl rfl 0 (by decide) (hts _ (bg _ wd_274)) (fun _ h9 => h9) rfl dX7_stop_24 ?_
    obtain ⟨r9, c10, eh8, hf⟩ := bP_inv hf
    refine jg1_i (va_runV (As := []) (rest := []) ⟨hx, hb, hml, hown, hts⟩ (mt_X0_stopCycle l dC dI dA gz (fun k => oa (1 + k)) H.size c4_zb r9 c10 eh8) (cwV 0 hts (gi_v bg wd_528 wd_529 wd_530 wd_2 wd_531) rfl rfl rfl hd_X0_stopCycle ⟨Nat.le_of_ble_eq_true rfl, Nat.le_of_ble_eq_true rfl⟩) ⟨pP_blind, va_recv (ci := 4) (q0 := 0) hK (seg_P hP 1 rfl) rfl rfl, pP_pre1 hP hD hS hA hK hN hZ 1 rfl⟩ rfl rfl hl.1 rfl (lv_room (Nat.le_of_ble_eq_true rfl)) dX7_stop_27 ⟨Nat.le_of_ble_eq_true rfl, Nat.le_of_ble_eq_true rfl⟩) hP hD hS hA 1 rfl (aX0 _ _ _ _) (fun H locs hP hD hS => ?_)
    have hP : va_P (dC, dI) vwCl ([[(oa 0, .inr (11, [.ref (oa 1), .ref (oa 14), .ref (oa 27), .int c4_zv, .ref (oa 40), .ref (oa 146), .int c4_zk, .ref (oa 152), .int c4_zd, .int c4_ze, .int c4_zc]))], wX0 dA (fun k => oa (1 + k)) c10, wX0 dA (fun k => oa (14 + k)) c4_zt, wX0 dA (fun k => oa (27 + k)) c4_zn, wX3 dA (fun k => oa (40 + k)) c7, wX6 dA (fun k => oa (146 + k)) c4_zx, wLN dA (oa 152) ln].flatten : va_W) H := hP
    have hD : va_D A ([[(oa 0, .inr (11, [.ref (oa 1), .ref (oa 14), .ref (oa 27), .int c4_zv, .ref (oa 40), .ref (oa 146), .int c4_zk, .ref (oa 152), .int c4_zd, .int c4_ze, .int c4_zc]))], wX0 dA (fun k => oa (1 + k)) c10, wX0 dA (fun k => oa (14 + k)) c4_zt, wX0 dA (fun k => oa (27 + k)) c4_zn, wX3 dA (fun k => oa (40 + k)) c7, wX6 dA (fun k => oa (146 + k)) c4_zx, wLN dA (oa 152) ln].flatten) := hD
    obtain ⟨e8, e9⟩ := Prod.mk.inj (sm hf)
    exact vx_ret (W.iret hx hb hr (fun t ht hW => ⟨⟨_, (), rfl, e8.symm, by rw [← e9, ht]; exact hP, by rw [← e9]; exact hD⟩, hS.F ht⟩) hS.2.2 dX7_stop_30)
  · obtain ⟨e8, e9⟩ := Prod.mk.inj hf
    refine jx_v (w1 := wX7 dA oa S9 ln) (vx_runV (As := [.int r2, .int (-1)]) (rest := []) ⟨hx, hb, hml, hown, hts⟩ (m_X7_requireAllowed l hl0 dC dI dA gz oa H.size ln zb zt zn zv zh zx zk zd ze zc r2 (-1) (.inr E9) S9 eh3) (cwV 2 hts (gi_v bg wd_449 wd_451 ws_2 wd_1 wd_452) rfl rfl rfl hd_X7_requireAllowed ⟨Nat.le_of_ble_eq_true rfl, Nat.le_of_ble_eq_true rfl⟩) ⟨pP_blind, va_recv (ci := 11) (q0 := 0) hK hP rfl rfl, pP_preW hP hD hS hA hK hN hZ⟩ rfl rfl hl.1 rfl (lv_room (Nat.le_of_ble_eq_true rfl)) dX7_stop_9 ⟨Nat.le_of_ble_eq_true rfl, Nat.le_of_ble_eq_true rfl⟩) hD hS hA (fun E ce q9 H locs h9 hP hD hS h1 h2 h3 => ?_) (fun H locs h9 _ _ _ => nomatch h9)
    cases h9
    exact vx_out (fun x9 hx9 => absurd (ht9 x9 hx9) id) hlocks h1 h2 h3 (fun t ht hvm => by rw [← e9]; exact xp e8.symm hP hD hS ht) hS.2.2 (Nat.le_of_ble_eq_true rfl) (Nat.le_of_ble_eq_true rfl)
/-! X7_run -/
def f_X7_run (zb : SX0) (zt : SX0) (zn : SX0) (zv : Int32) (zh : SX3) (zx : SX6) (zk : Int32) (zd : Int32) (ze : Int32) (zc : Int32) (p1 : Int32) : Option ((Int32 ⊕ String) × SX7) :=
  (g_X0_judgeRun zb p1).bind fun r2 =>
  bE7 (f_X7_requireRightNumbers zb zt zn zv zh zx zk zd ze zc r2) fun _ c4_zb c4_zt c4_zn c4_zv c4_zh c4_zx c4_zk c4_zd c4_ze c4_zc =>
  (g_X3_push c4_zh c4_zb).bind fun c7 =>
  bP (g_X0_passMinutes c4_zb p1) fun r9 c10 =>
  some (.inl r9, (c10, c4_zt, c4_zn, c4_zv, c7, c4_zx, c4_zk, c4_zd, c4_ze, c4_zc))
set_option maxRecDepth 100000 in
set_option maxHeartbeats 4000000 in
theorem m_X7_run (l : Launch) (hl0 : l.stackTraces = false) (dC : Nat → ClassId) (dI : Nat → Nat → Nat) (dA gz : Nat → Nat) (oa : Nat → Nat) (sz : Nat) (ln : LN) (zb : SX0) (zt : SX0) (zn : SX0) (zv : Int32) (zh : SX3) (zx : SX6) (zk : Int32) (zd : Int32) (ze : Int32) (zc : Int32) (p1 : Int32) (rr : Int32 ⊕ String) (uu : SX7) (hf : f_X7_run zb zt zn zv zh zx zk zd ze zc p1 = some (rr, uu)) : vx_Met l yX7_run ws_X7_run ({ frames := 34, cells := 1, slots := 6, locals := 1400 } : Room) (va_Pc [.ref (oa 0), .int p1] (pP (dC, dI) dA gz (wX7 dA oa (zb, zt, zn, zv, zh, zx, zk, zd, ze, zc) ln) sz)) (va_Qi (S := Unit) (fun r' _ => rr = Sum.inl r') (fun _ t => pQ (dC, dI) (va_A (wX7 dA oa (zb, zt, zn, zv, zh, zx, zk, zd, ze, zc) ln) sz) (wX7 dA oa uu ln) t) (va_A (wX7 dA oa (zb, zt, zn, zv, zh, zx, zk, zd, ze, zc) ln) sz)) (XCx (dC, dI) (va_A (wX7 dA oa (zb, zt, zn, zv, zh, zx, zk, zd, ze, zc) ln) sz) rr (wX7 dA oa uu ln)) 1 6 (va_A (wX7 dA oa (zb, zt, zn, zv, zh, zx, zk, zd, ze, zc) ln) sz) := by
  refine vx_ofW (cc := cX7_run) (maxL := 2) (ret := (some .int)) (by decide) rfl ?_
  intro p e s m args below meth c s₁ B hml ht9 hv
  obtain ⟨rfl, hsz, hP, hK, hD0, hN, hZ⟩ := hv
  have hx := B.exec
  have hb := B.bytes
  have hr := B.returns
  have hts := atoms_spec (ws := ws_X7_run) B.pre
  have htb : ∀ w ∈ BIG, w.before _ s = true := fun w h => hts w (bg w h)
  have hown : s.vm.findClass RX7 = some m.cls := findClass_of_methodNamed B.named
  have hlocks := B.notSynchronized
  subst hsz
  have hD := hD0.self (sz := s.heap.size)
  generalize hAe : va_A (wX7 dA oa (zb, zt, zn, zv, zh, zx, zk, zd, ze, zc) ln) s.heap.size = A at hD hZ ⊢
  have hA : ∀ q : Nat, s.heap.size ≤ q → A q := fun q h => by rw [← hAe]; exact Or.inr h
  have hS : va_S A s.heap s.heap [] := va_S.rf
  have hP : va_P (dC, dI) vwCl ([[(oa 0, .inr (11, [.ref (oa 1), .ref (oa 14), .ref (oa 27), .int zv, .ref (oa 40), .ref (oa 146), .int zk, .ref (oa 152), .int zd, .int ze, .int zc]))], wX0 dA (fun k => oa (1 + k)) zb, wX0 dA (fun k => oa (14 + k)) zt, wX0 dA (fun k => oa (27 + k)) zn, wX3 dA (fun k => oa (40 + k)) zh, wX6 dA (fun k => oa (146 + k)) zx, wLN dA (oa 152) ln].flatten) s.heap := hP
  have hD : va_D A ([[(oa 0, .inr (11, [.ref (oa 1), .ref (oa 14), .ref (oa 27), .int zv, .ref (oa 40), .ref (oa 146), .int zk, .ref (oa 152), .int zd, .int ze, .int zc]))], wX0 dA (fun k => oa (1 + k)) zb, wX0 dA (fun k => oa (14 + k)) zt, wX0 dA (fun k => oa (27 + k)) zn, wX3 dA (fun k => oa (40 + k)) zh, wX6 dA (fun k => oa (146 + k)) zx, wLN dA (oa 152) ln].flatten) := hD
  have hl := lv_entry [.ref (oa 0), .int p1] (n := 2) (Nat.le_of_ble_eq_true rfl)
  rw [lg_entry_eq]
  generalize (lg_sl [.ref (oa 0), .int p1] ++ List.replicate (2 - (lg_sl [.ref (oa 0), .int p1]).length) Slot.unset).toArray = ls at hl ⊢
  have hl : lv_has ls 2 [(0, .ref (oa 0)), (1, .int p1)] := hl
  have in_X7 : ∀ w ∈ wsX70, w ∈ ws_X7_run := fun w h => bg _ (inB_X7 w h)
  rw [f_X7_run] at hf
  refine lv_aload_n hx hb dX7_run_0 rfl (lv_at hl 0 rfl) ?_
  refine lv_aload_n hx hb dX7_run_1 rfl (lv_at hl 0 rfl) ?_
  refine va_get (D := (dC, dI)) (ci := 11) (v := .ref (oa 1)) (C := RX7) (T := TX7) (N := 11) hx hb hts in_X7 hown hK hP 0 rfl rfl 0 (by decide) (hts _ (bg _ wd_274)) (fun _ h9 => h9) rfl dX7_run_2 ?_
  refine lv_iload_n hx hb dX7_run_5 rfl (lv_at hl 1 rfl) ?_
  obtain ⟨r2, eh1, hf⟩ := bd hf
  refine jgr_i (va_runV (As := [.int p1]) (rest := [.ref (oa 0)]) ⟨hx, hb, hml, hown, hts⟩ (mt_X0_judgeRun l dC dI dA gz (fun k => oa (1 + k)) s.heap.size zb p1 r2 eh1) (cwV 1 hts (gi_v bg wd_543 wd_544 wd_545 wd_2 wd_546) rfl rfl rfl hd_X0_judgeRun ⟨Nat.le_of_ble_eq_true rfl, Nat.le_of_ble_eq_true rfl⟩) ⟨pP_blind, va_recv (ci := 4) (q0 := 0) hK (seg_P hP 1 rfl) rfl rfl, pP_pre1 hP hD hS hA hK hN hZ 1 rfl⟩ rfl rfl hl.1 rfl (lv_room (Nat.le_of_ble_eq_true rfl)) dX7_run_6 ⟨Nat.le_of_ble_eq_true rfl, Nat.le_of_ble_eq_true rfl⟩) hP hD hS hA 1 rfl (fun H locs hP hS => ?_)
  rcases bE7_inv hf with ⟨r5, c4_zb, c4_zt, c4_zn, c4_zv, c4_zh, c4_zx, c4_zk, c4_zd, c4_ze, c4_zc, eh3, hf⟩ | ⟨E9, S9, eh3, hf⟩
  · refine jx_v (w1 := wX7 dA oa (c4_zb, c4_zt, c4_zn, c4_zv, c4_zh, c4_zx, c4_zk, c4_zd, c4_ze, c4_zc) ln) (vx_runV (As := [.int r2]) (rest := []) ⟨hx, hb, hml, hown, hts⟩ (m_X7_requireRightNumbers l hl0 dC dI dA gz oa H.size ln zb zt zn zv zh zx zk zd ze zc r2 (.inl ()) (c4_zb, c4_zt, c4_zn, c4_zv, c4_zh, c4_zx, c4_zk, c4_zd, c4_ze, c4_zc) eh3) (cwV 1 hts (gi_v bg wd_373 wd_375 ws_0 wd_1 wd_376) rfl rfl rfl hd_X7_requireRightNumbers ⟨Nat.le_of_ble_eq_true rfl, Nat.le_of_ble_eq_true rfl⟩) ⟨pP_blind, va_recv (ci := 11) (q0 := 0) hK hP rfl rfl, pP_preW hP hD hS hA hK hN hZ⟩ rfl rfl hl.1 rfl (lv_room (Nat.le_of_ble_eq_true rfl)) dX7_run_9 ⟨Nat.le_of_ble_eq_true rfl, Nat.le_of_ble_eq_true rfl⟩) hD hS hA (fun E ce q9 H locs h9 _ _ _ _ _ _ => nomatch h9) (fun H locs h9 hP hD hS => ?_)
    have hP : va_P (dC, dI) vwCl ([[(oa 0, .inr (11, [.ref (oa 1), .ref (oa 14), .ref (oa 27), .int c4_zv, .ref (oa 40), .ref (oa 146), .int c4_zk, .ref (oa 152), .int c4_zd, .int c4_ze, .int c4_zc]))], wX0 dA (fun k => oa (1 + k)) c4_zb, wX0 dA (fun k => oa (14 + k)) c4_zt, wX0 dA (fun k => oa (27 + k)) c4_zn, wX3 dA (fun k => oa (40 + k)) c4_zh, wX6 dA (fun k => oa (146 + k)) c4_zx, wLN dA (oa 152) ln].flatten) H := hP
    have hD : va_D A ([[(oa 0, .inr (11, [.ref (oa 1), .ref (oa 14), .ref (oa 27), .int c4_zv, .ref (oa 40), .ref (oa 146), .int c4_zk, .ref (oa 152), .int c4_zd, .int c4_ze, .int c4_zc]))], wX0 dA (fun k => oa (1 + k)) c4_zb, wX0 dA (fun k => oa (14 + k)) c4_zt, wX0 dA (fun k => oa (27 + k)) c4_zn, wX3 dA (fun k => oa (40 + k)) c4_zh, wX6 dA (fun k => oa (146 + k)) c4_zx, wLN dA (oa 152) ln].flatten) := hD
    refine lv_aload_n hx hb dX7_run_12 rfl (lv_at hl 0 rfl) ?_
    refine va_get (D := (dC, dI)) (ci := 11) (v := .ref (oa 40)) (C := RX7) (T := TX7) (N := 11) hx hb hts in_X7 hown hK hP 0 rfl rfl 4 (by decide) (hts _ (bg _ wd_278)) (fun _ h9 => h9) rfl dX7_run_13 ?_
    refine lv_aload_n hx hb dX7_run_16 rfl (lv_at hl 0 rfl) ?_
    refine va_get (D := (dC, dI)) (ci := 11) (v := .ref (oa 1)) (C := RX7) (T := TX7) (N := 11) hx hb hts in_X7 hown hK hP 0 rfl rfl 0 (by decide) (hts _ (bg _ wd_274)) (fun _ h9 => h9) rfl dX7_run_17 ?_
    obtain ⟨c7, eh6, hf⟩ := bd hf
    refine jg2_v (va_runV (As := [.ref (oa 1)]) (rest := []) ⟨hx, hb, hml, hown, hts⟩ (mt_X3_push l dC dI dA gz (fun k => oa (40 + k)) (fun k => oa (1 + k)) H.size c4_zh c4_zb c7 eh6) (cwV 1 hts (gi_v bg wd_477 wd_478 wd_479 wd_7 wd_480) rfl rfl rfl hd_X3_push ⟨Nat.le_of_ble_eq_true rfl, Nat.le_of_ble_eq_true rfl⟩) ⟨pP_blind, va_recv (ci := 7) (q0 := 0) hK (seg_P hP 4 rfl) rfl rfl, pP_pre2 hP hD hS hA hK hN hZ 4 1 rfl rfl (by decide)⟩ rfl rfl hl.1 rfl (lv_room (Nat.le_of_ble_eq_true rfl)) dX7_run_20 ⟨Nat.le_of_ble_eq_true rfl, Nat.le_of_ble_eq_true rfl⟩) hP hD hS hA 4 1 rfl rfl (by decide) (aX3 _ _ _ _) (fun H locs hP hD hS => ?_)
    have hP : va_P (dC, dI) vwCl ([[(oa 0, .inr (11, [.ref (oa 1), .ref (oa 14), .ref (oa 27), .int c4_zv, .ref (oa 40), .ref (oa 146), .int c4_zk, .ref (oa 152), .int c4_zd, .int c4_ze, .int c4_zc]))], wX0 dA (fun k => oa (1 + k)) c4_zb, wX0 dA (fun k => oa (14 + k)) c4_zt, wX0 dA (fun k => oa (27 + k)) c4_zn, wX3 dA (fun k => oa (40 + k)) c7, wX6 dA (fun k => oa (146 + k)) c4_zx, wLN dA (oa 152) ln].flatten : va_W) H := hP
    have hD : va_D A ([[(oa 0, .inr (11, [.ref (oa 1), .ref (oa 14), .ref (oa 27), .int c4_zv, .ref (oa 40), .ref (oa 146), .int c4_zk, .ref (oa 152), .int c4_zd, .int c4_ze, .int c4_zc]))], wX0 dA (fun k => oa (1 + k)) c4_zb, wX0 dA (fun k => oa (14 + k)) c4_zt, wX0 dA (fun k => oa (27 + k)) c4_zn, wX3 dA (fun k => oa (40 + k)) c7, wX6 dA (fun k => oa (146 + k)) c4_zx, wLN dA (oa 152) ln].flatten) := hD
    refine lv_aload_n hx hb dX7_run_23 rfl (lv_at hl 0 rfl) ?_
    refine va_get (D := (dC, dI)) (ci := 11) (v := .ref (oa 1)) (C := RX7) (T := TX7) (N := 11) hx hb hts in_X7 hown hK hP 0 rfl rfl 0 (by decide) (hts _ (bg _ wd_274)) (fun _ h9 => h9) rfl dX7_run_24 ?_
    refine lv_iload_n hx hb dX7_run_27 rfl (lv_at hl 1 rfl) ?_
    obtain ⟨r9, c10, eh8, hf⟩ := bP_inv hf
    refine jg1_i (va_runV (As := [.int p1]) (rest := []) ⟨hx, hb, hml, hown, hts⟩ (mt_X0_passMinutes l dC dI dA gz (fun k => oa (1 + k)) H.size c4_zb p1 r9 c10 eh8) (cwV 1 hts (gi_v bg wd_547 wd_548 wd_549 wd_2 wd_550) rfl rfl rfl hd_X0_passMinutes ⟨Nat.le_of_ble_eq_true rfl, Nat.le_of_ble_eq_true rfl⟩) ⟨pP_blind, va_recv (ci := 4) (q0 := 0) hK (seg_P hP 1 rfl) rfl rfl, pP_pre1 hP hD hS hA hK hN hZ 1 rfl⟩ rfl rfl hl.1 rfl (lv_room (Nat.le_of_ble_eq_true rfl)) dX7_run_28 ⟨Nat.le_of_ble_eq_true rfl, Nat.le_of_ble_eq_true rfl⟩) hP hD hS hA 1 rfl (aX0 _ _ _ _) (fun H locs hP hD hS => ?_)
    have hP : va_P (dC, dI) vwCl ([[(oa 0, .inr (11, [.ref (oa 1), .ref (oa 14), .ref (oa 27), .int c4_zv, .ref (oa 40), .ref (oa 146), .int c4_zk, .ref (oa 152), .int c4_zd, .int c4_ze, .int c4_zc]))], wX0 dA (fun k => oa (1 + k)) c10, wX0 dA (fun k => oa (14 + k)) c4_zt, wX0 dA (fun k => oa (27 + k)) c4_zn, wX3 dA (fun k => oa (40 + k)) c7, wX6 dA (fun k => oa (146 + k)) c4_zx, wLN dA (oa 152) ln].flatten : va_W) H := hP
    have hD : va_D A ([[(oa 0, .inr (11, [.ref (oa 1), .ref (oa 14), .ref (oa 27), .int c4_zv, .ref (oa 40), .ref (oa 146), .int c4_zk, .ref (oa 152), .int c4_zd, .int c4_ze, .int c4_zc]))], wX0 dA (fun k => oa (1 + k)) c10, wX0 dA (fun k => oa (14 + k)) c4_zt, wX0 dA (fun k => oa (27 + k)) c4_zn, wX3 dA (fun k => oa (40 + k)) c7, wX6 dA (fun k => oa (146 + k)) c4_zx, wLN dA (oa 152) ln].flatten) := hD
    obtain ⟨e8, e9⟩ := Prod.mk.inj (sm hf)
    exact vx_ret (W.iret hx hb hr (fun t ht hW => ⟨⟨_, (), rfl, e8.symm, by rw [← e9, ht]; exact hP, by rw [← e9]; exact hD⟩, hS.F ht⟩) hS.2.2 dX7_run_31)
  · obtain ⟨e8, e9⟩ := Prod.mk.inj hf
    refine jx_v (w1 := wX7 dA oa S9 ln) (vx_runV (As := [.int r2]) (rest := []) ⟨hx, hb, hml, hown, hts⟩ (m_X7_requireRightNumbers l hl0 dC dI dA gz oa H.size ln zb zt zn zv zh zx zk zd ze zc r2 (.inr E9) S9 eh3) (cwV 1 hts (gi_v bg wd_373 wd_375 ws_0 wd_1 wd_376) rfl rfl rfl hd_X7_requireRightNumbers ⟨Nat.le_of_ble_eq_true rfl, Nat.le_of_ble_eq_true rfl⟩) ⟨pP_blind, va_recv (ci := 11) (q0 := 0) hK hP rfl rfl, pP_preW hP hD hS hA hK hN hZ⟩ rfl rfl hl.1 rfl (lv_room (Nat.le_of_ble_eq_true rfl)) dX7_run_9 ⟨Nat.le_of_ble_eq_true rfl, Nat.le_of_ble_eq_true rfl⟩) hD hS hA (fun E ce q9 H locs h9 hP hD hS h1 h2 h3 => ?_) (fun H locs h9 _ _ _ => nomatch h9)
    cases h9
    exact vx_out (fun x9 hx9 => absurd (ht9 x9 hx9) id) hlocks h1 h2 h3 (fun t ht hvm => by rw [← e9]; exact xp e8.symm hP hD hS ht) hS.2.2 (Nat.le_of_ble_eq_true rfl) (Nat.le_of_ble_eq_true rfl)
/-! X7_load -/
def f_X7_load (zb : SX0) (zt : SX0) (zn : SX0) (zv : Int32) (zh : SX3) (zx : SX6) (zk : Int32) (zd : Int32) (ze : Int32) (zc : Int32) (p1 : Int32) : Option ((Int32 ⊕ String) × SX7) :=
  (g_X0_judgeLoad zb p1).bind fun r2 =>
  bE7 (f_X7_requireRightNumbers zb zt zn zv zh zx zk zd ze zc r2) fun _ c4_zb c4_zt c4_zn c4_zv c4_zh c4_zx c4_zk c4_zd c4_ze c4_zc =>
  bE7 (f_X7_requireAllowed c4_zb c4_zt c4_zn c4_zv c4_zh c4_zx c4_zk c4_zd c4_ze c4_zc r2 100) fun _ c7_zb c7_zt c7_zn c7_zv c7_zh c7_zx c7_zk c7_zd c7_ze c7_zc =>
  (g_X3_push c7_zh c7_zb).bind fun c10 =>
  bP (g_X0_loadRock c7_zb p1) fun r12 c13 =>
  some (.inl r12, (c13, c7_zt, c7_zn, c7_zv, c10, c7_zx, c7_zk, c7_zd, c7_ze, c7_zc))
set_option maxRecDepth 100000 in
set_option maxHeartbeats 4000000 in
theorem m_X7_load (l : Launch) (hl0 : l.stackTraces = false) (dC : Nat → ClassId) (dI : Nat → Nat → Nat) (dA gz : Nat → Nat) (oa : Nat → Nat) (sz : Nat) (ln : LN) (zb : SX0) (zt : SX0) (zn : SX0) (zv : Int32) (zh : SX3) (zx : SX6) (zk : Int32) (zd : Int32) (ze : Int32) (zc : Int32) (p1 : Int32) (rr : Int32 ⊕ String) (uu : SX7) (hf : f_X7_load zb zt zn zv zh zx zk zd ze zc p1 = some (rr, uu)) : vx_Met l yX7_load ws_X7_load ({ frames := 34, cells := 2, slots := 12, locals := 1400 } : Room) (va_Pc [.ref (oa 0), .int p1] (pP (dC, dI) dA gz (wX7 dA oa (zb, zt, zn, zv, zh, zx, zk, zd, ze, zc) ln) sz)) (va_Qi (S := Unit) (fun r' _ => rr = Sum.inl r') (fun _ t => pQ (dC, dI) (va_A (wX7 dA oa (zb, zt, zn, zv, zh, zx, zk, zd, ze, zc) ln) sz) (wX7 dA oa uu ln) t) (va_A (wX7 dA oa (zb, zt, zn, zv, zh, zx, zk, zd, ze, zc) ln) sz)) (XCx (dC, dI) (va_A (wX7 dA oa (zb, zt, zn, zv, zh, zx, zk, zd, ze, zc) ln) sz) rr (wX7 dA oa uu ln)) 2 12 (va_A (wX7 dA oa (zb, zt, zn, zv, zh, zx, zk, zd, ze, zc) ln) sz) := by
  refine vx_ofW (cc := cX7_load) (maxL := 3) (ret := (some .int)) (by decide) rfl ?_
  intro p e s m args below meth c s₁ B hml ht9 hv
  obtain ⟨rfl, hsz, hP, hK, hD0, hN, hZ⟩ := hv
  have hx := B.exec
  have hb := B.bytes
  have hr := B.returns
  have hts := atoms_spec (ws := ws_X7_load) B.pre
  have htb : ∀ w ∈ BIG, w.before _ s = true := fun w h => hts w (bg w h)
  have hown : s.vm.findClass RX7 = some m.cls := findClass_of_methodNamed B.named
  have hlocks := B.notSynchronized
  subst hsz
  have hD := hD0.self (sz := s.heap.size)
  generalize hAe : va_A (wX7 dA oa (zb, zt, zn, zv, zh, zx, zk, zd, ze, zc) ln) s.heap.size = A at hD hZ ⊢
  have hA : ∀ q : Nat, s.heap.size ≤ q → A q := fun q h => by rw [← hAe]; exact Or.inr h
  have hS : va_S A s.heap s.heap [] := va_S.rf
  have hP : va_P (dC, dI) vwCl ([[(oa 0, .inr (11, [.ref (oa 1), .ref (oa 14), .ref (oa 27), .int zv, .ref (oa 40), .ref (oa 146), .int zk, .ref (oa 152), .int zd, .int ze, .int zc]))], wX0 dA (fun k => oa (1 + k)) zb, wX0 dA (fun k => oa (14 + k)) zt, wX0 dA (fun k => oa (27 + k)) zn, wX3 dA (fun k => oa (40 + k)) zh, wX6 dA (fun k => oa (146 + k)) zx, wLN dA (oa 152) ln].flatten) s.heap := hP
  have hD : va_D A ([[(oa 0, .inr (11, [.ref (oa 1), .ref (oa 14), .ref (oa 27), .int zv, .ref (oa 40), .ref (oa 146), .int zk, .ref (oa 152), .int zd, .int ze, .int zc]))], wX0 dA (fun k => oa (1 + k)) zb, wX0 dA (fun k => oa (14 + k)) zt, wX0 dA (fun k => oa (27 + k)) zn, wX3 dA (fun k => oa (40 + k)) zh, wX6 dA (fun k => oa (146 + k)) zx, wLN dA (oa 152) ln].flatten) := hD
  have hl := lv_entry [.ref (oa 0), .int p1] (n := 3) (Nat.le_of_ble_eq_true rfl)
  rw [lg_entry_eq]
  generalize (lg_sl [.ref (oa 0), .int p1] ++ List.replicate (3 - (lg_sl [.ref (oa 0), .int p1]).length) Slot.unset).toArray = ls at hl ⊢
  have hl : lv_has ls 3 [(0, .ref (oa 0)), (1, .int p1)] := hl
  have in_X7 : ∀ w ∈ wsX70, w ∈ ws_X7_load := fun w h => bg _ (inB_X7 w h)
  rw [f_X7_load] at hf
  refine lv_aload_n hx hb dX7_load_0 rfl (lv_at hl 0 rfl) ?_
  refine va_get (D := (dC, dI)) (ci := 11) (v := .ref (oa 1)) (C := RX7) (T := TX7) (N := 11) hx hb hts in_X7 hown hK hP 0 rfl rfl 0 (by decide) (hts _ (bg _ wd_274)) (fun _ h9 => h9) rfl dX7_load_1 ?_
  refine lv_iload_n hx hb dX7_load_4 rfl (lv_at hl 1 rfl) ?_
  obtain ⟨r2, eh1, hf⟩ := bd hf
  refine jgr_i (va_runV (As := [.int p1]) (rest := []) ⟨hx, hb, hml, hown, hts⟩ (mt_X0_judgeLoad l dC dI dA gz (fun k => oa (1 + k)) s.heap.size zb p1 r2 eh1) (cwV 1 hts (gi_v bg wd_588 wd_589 wd_590 wd_2 wd_591) rfl rfl rfl hd_X0_judgeLoad ⟨Nat.le_of_ble_eq_true rfl, Nat.le_of_ble_eq_true rfl⟩) ⟨pP_blind, va_recv (ci := 4) (q0 := 0) hK (seg_P hP 1 rfl) rfl rfl, pP_pre1 hP hD hS hA hK hN hZ 1 rfl⟩ rfl rfl hl.1 rfl (lv_room (Nat.le_of_ble_eq_true rfl)) dX7_load_5 ⟨Nat.le_of_ble_eq_true rfl, Nat.le_of_ble_eq_true rfl⟩) hP hD hS hA 1 rfl (fun H locs hP hS => ?_)
  refine lv_istore_n (lv' := [(2, .int r2), (0, .ref (oa 0)), (1, .int p1)]) hx hb dX7_load_8 rfl hl (by decide) rfl (fun ls hl => ?_)
  refine lv_aload_n hx hb dX7_load_9 rfl (lv_at hl 1 rfl) ?_
  refine lv_iload_n hx hb dX7_load_10 rfl (lv_at hl 0 rfl) ?_
  rcases bE7_inv hf with ⟨r5, c4_zb, c4_zt, c4_zn, c4_zv, c4_zh, c4_zx, c4_zk, c4_zd, c4_ze, c4_zc, eh3, hf⟩ | ⟨E9, S9, eh3, hf⟩
  · refine jx_v (w1 := wX7 dA oa (c4_zb, c4_zt, c4_zn, c4_zv, c4_zh, c4_zx, c4_zk, c4_zd, c4_ze, c4_zc) ln) (vx_runV (As := [.int r2]) (rest := []) ⟨hx, hb, hml, hown, hts⟩ (m_X7_requireRightNumbers l hl0 dC dI dA gz oa H.size ln zb zt zn zv zh zx zk zd ze zc r2 (.inl ()) (c4_zb, c4_zt, c4_zn, c4_zv, c4_zh, c4_zx, c4_zk, c4_zd, c4_ze, c4_zc) eh3) (cwV 1 hts (gi_v bg wd_373 wd_375 ws_0 wd_1 wd_376) rfl rfl rfl hd_X7_requireRightNumbers ⟨Nat.le_of_ble_eq_true rfl, Nat.le_of_ble_eq_true rfl⟩) ⟨pP_blind, va_recv (ci := 11) (q0 := 0) hK hP rfl rfl, pP_preW hP hD hS hA hK hN hZ⟩ rfl rfl hl.1 rfl (lv_room (Nat.le_of_ble_eq_true rfl)) dX7_load_11 ⟨Nat.le_of_ble_eq_true rfl, Nat.le_of_ble_eq_true rfl⟩) hD hS hA (fun E ce q9 H locs h9 _ _ _ _ _ _ => nomatch h9) (fun H locs h9 hP hD hS => ?_)
    have hP : va_P (dC, dI) vwCl ([[(oa 0, .inr (11, [.ref (oa 1), .ref (oa 14), .ref (oa 27), .int c4_zv, .ref (oa 40), .ref (oa 146), .int c4_zk, .ref (oa 152), .int c4_zd, .int c4_ze, .int c4_zc]))], wX0 dA (fun k => oa (1 + k)) c4_zb, wX0 dA (fun k => oa (14 + k)) c4_zt, wX0 dA (fun k => oa (27 + k)) c4_zn, wX3 dA (fun k => oa (40 + k)) c4_zh, wX6 dA (fun k => oa (146 + k)) c4_zx, wLN dA (oa 152) ln].flatten) H := hP
    have hD : va_D A ([[(oa 0, .inr (11, [.ref (oa 1), .ref (oa 14), .ref (oa 27), .int c4_zv, .ref (oa 40), .ref (oa 146), .int c4_zk, .ref (oa 152), .int c4_zd, .int c4_ze, .int c4_zc]))], wX0 dA (fun k => oa (1 + k)) c4_zb, wX0 dA (fun k => oa (14 + k)) c4_zt, wX0 dA (fun k => oa (27 + k)) c4_zn, wX3 dA (fun k => oa (40 + k)) c4_zh, wX6 dA (fun k => oa (146 + k)) c4_zx, wLN dA (oa 152) ln].flatten) := hD
    refine lv_aload_n hx hb dX7_load_14 rfl (lv_at hl 1 rfl) ?_
    refine lv_iload_n hx hb dX7_load_15 rfl (lv_at hl 0 rfl) ?_
    refine lv_bipush (v := 100) hx hb dX7_load_16 (by decide) ?_
    rcases bE7_inv hf with ⟨r8, c7_zb, c7_zt, c7_zn, c7_zv, c7_zh, c7_zx, c7_zk, c7_zd, c7_ze, c7_zc, eh6, hf⟩ | ⟨E9, S9, eh6, hf⟩
    · refine jx_v (w1 := wX7 dA oa (c7_zb, c7_zt, c7_zn, c7_zv, c7_zh, c7_zx, c7_zk, c7_zd, c7_ze, c7_zc) ln) (vx_runV (As := [.int r2, .int 100]) (rest := []) ⟨hx, hb, hml, hown, hts⟩ (m_X7_requireAllowed l hl0 dC dI dA gz oa H.size ln c4_zb c4_zt c4_zn c4_zv c4_zh c4_zx c4_zk c4_zd c4_ze c4_zc r2 100 (.inl ()) (c7_zb, c7_zt, c7_zn, c7_zv, c7_zh, c7_zx, c7_zk, c7_zd, c7_ze, c7_zc) eh6) (cwV 2 hts (gi_v bg wd_449 wd_451 ws_2 wd_1 wd_452) rfl rfl rfl hd_X7_requireAllowed ⟨Nat.le_of_ble_eq_true rfl, Nat.le_of_ble_eq_true rfl⟩) ⟨pP_blind, va_recv (ci := 11) (q0 := 0) hK hP rfl rfl, pP_preW hP hD hS hA hK hN hZ⟩ rfl rfl hl.1 rfl (lv_room (Nat.le_of_ble_eq_true rfl)) dX7_load_18 ⟨Nat.le_of_ble_eq_true rfl, Nat.le_of_ble_eq_true rfl⟩) hD hS hA (fun E ce q9 H locs h9 _ _ _ _ _ _ => nomatch h9) (fun H locs h9 hP hD hS => ?_)
      have hP : va_P (dC, dI) vwCl ([[(oa 0, .inr (11, [.ref (oa 1), .ref (oa 14), .ref (oa 27), .int c7_zv, .ref (oa 40), .ref (oa 146), .int c7_zk, .ref (oa 152), .int c7_zd, .int c7_ze, .int c7_zc]))], wX0 dA (fun k => oa (1 + k)) c7_zb, wX0 dA (fun k => oa (14 + k)) c7_zt, wX0 dA (fun k => oa (27 + k)) c7_zn, wX3 dA (fun k => oa (40 + k)) c7_zh, wX6 dA (fun k => oa (146 + k)) c7_zx, wLN dA (oa 152) ln].flatten) H := hP
      have hD : va_D A ([[(oa 0, .inr (11, [.ref (oa 1), .ref (oa 14), .ref (oa 27), .int c7_zv, .ref (oa 40), .ref (oa 146), .int c7_zk, .ref (oa 152), .int c7_zd, .int c7_ze, .int c7_zc]))], wX0 dA (fun k => oa (1 + k)) c7_zb, wX0 dA (fun k => oa (14 + k)) c7_zt, wX0 dA (fun k => oa (27 + k)) c7_zn, wX3 dA (fun k => oa (40 + k)) c7_zh, wX6 dA (fun k => oa (146 + k)) c7_zx, wLN dA (oa 152) ln].flatten) := hD
      refine lv_aload_n hx hb dX7_load_21 rfl (lv_at hl 1 rfl) ?_
      refine va_get (D := (dC, dI)) (ci := 11) (v := .ref (oa 40)) (C := RX7) (T := TX7) (N := 11) hx hb hts in_X7 hown hK hP 0 rfl rfl 4 (by decide) (hts _ (bg _ wd_278)) (fun _ h9 => h9) rfl dX7_load_22 ?_
      refine lv_aload_n hx hb dX7_load_25 rfl (lv_at hl 1 rfl) ?_
      refine va_get (D := (dC, dI)) (ci := 11) (v := .ref (oa 1)) (C := RX7) (T := TX7) (N := 11) hx hb hts in_X7 hown hK hP 0 rfl rfl 0 (by decide) (hts _ (bg _ wd_274)) (fun _ h9 => h9) rfl dX7_load_26 ?_
      obtain ⟨c10, eh9, hf⟩ := bd hf
      refine jg2_v (va_runV (As := [.ref (oa 1)]) (rest := []) ⟨hx, hb, hml, hown, hts⟩ (mt_X3_push l dC dI dA gz (fun k => oa (40 + k)) (fun k => oa (1 + k)) H.size c7_zh c7_zb c10 eh9) (cwV 1 hts (gi_v bg wd_477 wd_478 wd_479 wd_7 wd_480) rfl rfl rfl hd_X3_push ⟨Nat.le_of_ble_eq_true rfl, Nat.le_of_ble_eq_true rfl⟩) ⟨pP_blind, va_recv (ci := 7) (q0 := 0) hK (seg_P hP 4 rfl) rfl rfl, pP_pre2 hP hD hS hA hK hN hZ 4 1 rfl rfl (by decide)⟩ rfl rfl hl.1 rfl (lv_room (Nat.le_of_ble_eq_true rfl)) dX7_load_29 ⟨Nat.le_of_ble_eq_true rfl, Nat.le_of_ble_eq_true rfl⟩) hP hD hS hA 4 1 rfl rfl (by decide) (aX3 _ _ _ _) (fun H locs hP hD hS => ?_)
      have hP : va_P (dC, dI) vwCl ([[(oa 0, .inr (11, [.ref (oa 1), .ref (oa 14), .ref (oa 27), .int c7_zv, .ref (oa 40), .ref (oa 146), .int c7_zk, .ref (oa 152), .int c7_zd, .int c7_ze, .int c7_zc]))], wX0 dA (fun k => oa (1 + k)) c7_zb, wX0 dA (fun k => oa (14 + k)) c7_zt, wX0 dA (fun k => oa (27 + k)) c7_zn, wX3 dA (fun k => oa (40 + k)) c10, wX6 dA (fun k => oa (146 + k)) c7_zx, wLN dA (oa 152) ln].flatten : va_W) H := hP
      have hD : va_D A ([[(oa 0, .inr (11, [.ref (oa 1), .ref (oa 14), .ref (oa 27), .int c7_zv, .ref (oa 40), .ref (oa 146), .int c7_zk, .ref (oa 152), .int c7_zd, .int c7_ze, .int c7_zc]))], wX0 dA (fun k => oa (1 + k)) c7_zb, wX0 dA (fun k => oa (14 + k)) c7_zt, wX0 dA (fun k => oa (27 + k)) c7_zn, wX3 dA (fun k => oa (40 + k)) c10, wX6 dA (fun k => oa (146 + k)) c7_zx, wLN dA (oa 152) ln].flatten) := hD
      refine lv_aload_n hx hb dX7_load_32 rfl (lv_at hl 1 rfl) ?_
      refine va_get (D := (dC, dI)) (ci := 11) (v := .ref (oa 1)) (C := RX7) (T := TX7) (N := 11) hx hb hts in_X7 hown hK hP 0 rfl rfl 0 (by decide) (hts _ (bg _ wd_274)) (fun _ h9 => h9) rfl dX7_load_33 ?_
      refine lv_iload_n hx hb dX7_load_36 rfl (lv_at hl 2 rfl) ?_
      obtain ⟨r12, c13, eh11, hf⟩ := bP_inv hf
      refine jg1_i (va_runV (As := [.int p1]) (rest := []) ⟨hx, hb, hml, hown, hts⟩ (mt_X0_loadRock l dC dI dA gz (fun k => oa (1 + k)) H.size c7_zb p1 r12 c13 eh11) (cwV 1 hts (gi_v bg wd_592 wd_593 wd_594 wd_2 wd_595) rfl rfl rfl hd_X0_loadRock ⟨Nat.le_of_ble_eq_true rfl, Nat.le_of_ble_eq_true rfl⟩) ⟨pP_blind, va_recv (ci := 4) (q0 := 0) hK (seg_P hP 1 rfl) rfl rfl, pP_pre1 hP hD hS hA hK hN hZ 1 rfl⟩ rfl rfl hl.1 rfl (lv_room (Nat.le_of_ble_eq_true rfl)) dX7_load_37 ⟨Nat.le_of_ble_eq_true rfl, Nat.le_of_ble_eq_true rfl⟩) hP hD hS hA 1 rfl (aX0 _ _ _ _) (fun H locs hP hD hS => ?_)
      have hP : va_P (dC, dI) vwCl ([[(oa 0, .inr (11, [.ref (oa 1), .ref (oa 14), .ref (oa 27), .int c7_zv, .ref (oa 40), .ref (oa 146), .int c7_zk, .ref (oa 152), .int c7_zd, .int c7_ze, .int c7_zc]))], wX0 dA (fun k => oa (1 + k)) c13, wX0 dA (fun k => oa (14 + k)) c7_zt, wX0 dA (fun k => oa (27 + k)) c7_zn, wX3 dA (fun k => oa (40 + k)) c10, wX6 dA (fun k => oa (146 + k)) c7_zx, wLN dA (oa 152) ln].flatten : va_W) H := hP
      have hD : va_D A ([[(oa 0, .inr (11, [.ref (oa 1), .ref (oa 14), .ref (oa 27), .int c7_zv, .ref (oa 40), .ref (oa 146), .int c7_zk, .ref (oa 152), .int c7_zd, .int c7_ze, .int c7_zc]))], wX0 dA (fun k => oa (1 + k)) c13, wX0 dA (fun k => oa (14 + k)) c7_zt, wX0 dA (fun k => oa (27 + k)) c7_zn, wX3 dA (fun k => oa (40 + k)) c10, wX6 dA (fun k => oa (146 + k)) c7_zx, wLN dA (oa 152) ln].flatten) := hD
      obtain ⟨e8, e9⟩ := Prod.mk.inj (sm hf)
      exact vx_ret (W.iret hx hb hr (fun t ht hW => ⟨⟨_, (), rfl, e8.symm, by rw [← e9, ht]; exact hP, by rw [← e9]; exact hD⟩, hS.F ht⟩) hS.2.2 dX7_load_40)
    · obtain ⟨e8, e9⟩ := Prod.mk.inj hf
      refine jx_v (w1 := wX7 dA oa S9 ln) (vx_runV (As := [.int r2, .int 100]) (rest := []) ⟨hx, hb, hml, hown, hts⟩ (m_X7_requireAllowed l hl0 dC dI dA gz oa H.size ln c4_zb c4_zt c4_zn c4_zv c4_zh c4_zx c4_zk c4_zd c4_ze c4_zc r2 100 (.inr E9) S9 eh6) (cwV 2 hts (gi_v bg wd_449 wd_451 ws_2 wd_1 wd_452) rfl rfl rfl hd_X7_requireAllowed ⟨Nat.le_of_ble_eq_true rfl, Nat.le_of_ble_eq_true rfl⟩) ⟨pP_blind, va_recv (ci := 11) (q0 := 0) hK hP rfl rfl, pP_preW hP hD hS hA hK hN hZ⟩ rfl rfl hl.1 rfl (lv_room (Nat.le_of_ble_eq_true rfl)) dX7_load_18 ⟨Nat.le_of_ble_eq_true rfl, Nat.le_of_ble_eq_true rfl⟩) hD hS hA (fun E ce q9 H locs h9 hP hD hS h1 h2 h3 => ?_) (fun H locs h9 _ _ _ => nomatch h9)
      cases h9
      exact vx_out (fun x9 hx9 => absurd (ht9 x9 hx9) id) hlocks h1 h2 h3 (fun t ht hvm => by rw [← e9]; exact xp e8.symm hP hD hS ht) hS.2.2 (Nat.le_of_ble_eq_true rfl) (Nat.le_of_ble_eq_true rfl)
  · obtain ⟨e8, e9⟩ := Prod.mk.inj hf
    refine jx_v (w1 := wX7 dA oa S9 ln) (vx_runV (As := [.int r2]) (rest := []) ⟨hx, hb, hml, hown, hts⟩ (m_X7_requireRightNumbers l hl0 dC dI dA gz oa H.size ln zb zt zn zv zh zx zk zd ze zc r2 (.inr E9) S9 eh3) (cwV 1 hts (gi_v bg wd_373 wd_375 ws_0 wd_1 wd_376) rfl rfl rfl hd_X7_requireRightNumbers ⟨Nat.le_of_ble_eq_true rfl, Nat.le_of_ble_eq_true rfl⟩) ⟨pP_blind, va_recv (ci := 11) (q0 := 0) hK hP rfl rfl, pP_preW hP hD hS hA hK hN hZ⟩ rfl rfl hl.1 rfl (lv_room (Nat.le_of_ble_eq_true rfl)) dX7_load_11 ⟨Nat.le_of_ble_eq_true rfl, Nat.le_of_ble_eq_true rfl⟩) hD hS hA (fun E ce q9 H locs h9 hP hD hS h1 h2 h3 => ?_) (fun H locs h9 _ _ _ => nomatch h9)
    cases h9
    exact vx_out (fun x9 hx9 => absurd (ht9 x9 hx9) id) hlocks h1 h2 h3 (fun t ht hvm => by rw [← e9]; exact xp e8.symm hP hD hS ht) hS.2.2 (Nat.le_of_ble_eq_true rfl) (Nat.le_of_ble_eq_true rfl)
/-! X7_press -/
def f_X7_press (zb : SX0) (zt : SX0) (zn : SX0) (zv : Int32) (zh : SX3) (zx : SX6) (zk : Int32) (zd : Int32) (ze : Int32) (zc : Int32) (p1 : Int32) : Option ((Int32 ⊕ String) × SX7) :=
  (g_X0_judgePress zb p1).bind fun r2 =>
  bE7 (f_X7_requireRightNumbers zb zt zn zv zh zx zk zd ze zc r2) fun _ c4_zb c4_zt c4_zn c4_zv c4_zh c4_zx c4_zk c4_zd c4_ze c4_zc =>
  bE7 (f_X7_requireAllowed c4_zb c4_zt c4_zn c4_zv c4_zh c4_zx c4_zk c4_zd c4_ze c4_zc r2 12) fun _ c7_zb c7_zt c7_zn c7_zv c7_zh c7_zx c7_zk c7_zd c7_ze c7_zc =>
  (g_X3_push c7_zh c7_zb).bind fun c10 =>
  bP (g_X0_pressPat c7_zb p1) fun r12 c13 =>
  some (.inl r12, (c13, c7_zt, c7_zn, c7_zv, c10, c7_zx, c7_zk, c7_zd, c7_ze, c7_zc))
set_option maxRecDepth 100000 in
set_option maxHeartbeats 4000000 in
theorem m_X7_press (l : Launch) (hl0 : l.stackTraces = false) (dC : Nat → ClassId) (dI : Nat → Nat → Nat) (dA gz : Nat → Nat) (oa : Nat → Nat) (sz : Nat) (ln : LN) (zb : SX0) (zt : SX0) (zn : SX0) (zv : Int32) (zh : SX3) (zx : SX6) (zk : Int32) (zd : Int32) (ze : Int32) (zc : Int32) (p1 : Int32) (rr : Int32 ⊕ String) (uu : SX7) (hf : f_X7_press zb zt zn zv zh zx zk zd ze zc p1 = some (rr, uu)) : vx_Met l yX7_press ws_X7_press ({ frames := 34, cells := 2, slots := 12, locals := 1400 } : Room) (va_Pc [.ref (oa 0), .int p1] (pP (dC, dI) dA gz (wX7 dA oa (zb, zt, zn, zv, zh, zx, zk, zd, ze, zc) ln) sz)) (va_Qi (S := Unit) (fun r' _ => rr = Sum.inl r') (fun _ t => pQ (dC, dI) (va_A (wX7 dA oa (zb, zt, zn, zv, zh, zx, zk, zd, ze, zc) ln) sz) (wX7 dA oa uu ln) t) (va_A (wX7 dA oa (zb, zt, zn, zv, zh, zx, zk, zd, ze, zc) ln) sz)) (XCx (dC, dI) (va_A (wX7 dA oa (zb, zt, zn, zv, zh, zx, zk, zd, ze, zc) ln) sz) rr (wX7 dA oa uu ln)) 2 12 (va_A (wX7 dA oa (zb, zt, zn, zv, zh, zx, zk, zd, ze, zc) ln) sz) := by
  refine vx_ofW (cc := cX7_press) (maxL := 3) (ret := (some .int)) (by decide) rfl ?_
  intro p e s m args below meth c s₁ B hml ht9 hv
  obtain ⟨rfl, hsz, hP, hK, hD0, hN, hZ⟩ := hv
  have hx := B.exec
  have hb := B.bytes
  have hr := B.returns
  have hts := atoms_spec (ws := ws_X7_press) B.pre
  have htb : ∀ w ∈ BIG, w.before _ s = true := fun w h => hts w (bg w h)
  have hown : s.vm.findClass RX7 = some m.cls := findClass_of_methodNamed B.named
  have hlocks := B.notSynchronized
  subst hsz
  have hD := hD0.self (sz := s.heap.size)
  generalize hAe : va_A (wX7 dA oa (zb, zt, zn, zv, zh, zx, zk, zd, ze, zc) ln) s.heap.size = A at hD hZ ⊢
  have hA : ∀ q : Nat, s.heap.size ≤ q → A q := fun q h => by rw [← hAe]; exact Or.inr h
  have hS : va_S A s.heap s.heap [] := va_S.rf
  have hP : va_P (dC, dI) vwCl ([[(oa 0, .inr (11, [.ref (oa 1), .ref (oa 14), .ref (oa 27), .int zv, .ref (oa 40), .ref (oa 146), .int zk, .ref (oa 152), .int zd, .int ze, .int zc]))], wX0 dA (fun k => oa (1 + k)) zb, wX0 dA (fun k => oa (14 + k)) zt, wX0 dA (fun k => oa (27 + k)) zn, wX3 dA (fun k => oa (40 + k)) zh, wX6 dA (fun k => oa (146 + k)) zx, wLN dA (oa 152) ln].flatten) s.heap := hP
  have hD : va_D A ([[(oa 0, .inr (11, [.ref (oa 1), .ref (oa 14), .ref (oa 27), .int zv, .ref (oa 40), .ref (oa 146), .int zk, .ref (oa 152), .int zd, .int ze, .int zc]))], wX0 dA (fun k => oa (1 + k)) zb, wX0 dA (fun k => oa (14 + k)) zt, wX0 dA (fun k => oa (27 + k)) zn, wX3 dA (fun k => oa (40 + k)) zh, wX6 dA (fun k => oa (146 + k)) zx, wLN dA (oa 152) ln].flatten) := hD
  have hl := lv_entry [.ref (oa 0), .int p1] (n := 3) (Nat.le_of_ble_eq_true rfl)
  rw [lg_entry_eq]
  generalize (lg_sl [.ref (oa 0), .int p1] ++ List.replicate (3 - (lg_sl [.ref (oa 0), .int p1]).length) Slot.unset).toArray = ls at hl ⊢
  have hl : lv_has ls 3 [(0, .ref (oa 0)), (1, .int p1)] := hl
  have in_X7 : ∀ w ∈ wsX70, w ∈ ws_X7_press := fun w h => bg _ (inB_X7 w h)
  rw [f_X7_press] at hf
  refine lv_aload_n hx hb dX7_press_0 rfl (lv_at hl 0 rfl) ?_
  refine va_get (D := (dC, dI)) (ci := 11) (v := .ref (oa 1)) (C := RX7) (T := TX7) (N := 11) hx hb hts in_X7 hown hK hP 0 rfl rfl 0 (by decide) (hts _ (bg _ wd_274)) (fun _ h9 => h9) rfl dX7_press_1 ?_
  refine lv_iload_n hx hb dX7_press_4 rfl (lv_at hl 1 rfl) ?_
  obtain ⟨r2, eh1, hf⟩ := bd hf
  refine jgr_i (va_runV (As := [.int p1]) (rest := []) ⟨hx, hb, hml, hown, hts⟩ (mt_X0_judgePress l dC dI dA gz (fun k => oa (1 + k)) s.heap.size zb p1 r2 eh1) (cwV 1 hts (gi_v bg wd_607 wd_608 wd_609 wd_2 wd_610) rfl rfl rfl hd_X0_judgePress ⟨Nat.le_of_ble_eq_true rfl, Nat.le_of_ble_eq_true rfl⟩) ⟨pP_blind, va_recv (ci := 4) (q0 := 0) hK (seg_P hP 1 rfl) rfl rfl, pP_pre1 hP hD hS hA hK hN hZ 1 rfl⟩ rfl rfl hl.1 rfl (lv_room (Nat.le_of_ble_eq_true rfl)) dX7_press_5 ⟨Nat.le_of_ble_eq_true rfl, Nat.le_of_ble_eq_true rfl⟩) hP hD hS hA 1 rfl (fun H locs hP hS => ?_)
  refine lv_istore_n (lv' := [(2, .int r2), (0, .ref (oa 0)), (1, .int p1)]) hx hb dX7_press_8 rfl hl (by decide) rfl (fun ls hl => ?_)
  refine lv_aload_n hx hb dX7_press_9 rfl (lv_at hl 1 rfl) ?_
  refine lv_iload_n hx hb dX7_press_10 rfl (lv_at hl 0 rfl) ?_
  rcases bE7_inv hf with ⟨r5, c4_zb, c4_zt, c4_zn, c4_zv, c4_zh, c4_zx, c4_zk, c4_zd, c4_ze, c4_zc, eh3, hf⟩ | ⟨E9, S9, eh3, hf⟩
  · refine jx_v (w1 := wX7 dA oa (c4_zb, c4_zt, c4_zn, c4_zv, c4_zh, c4_zx, c4_zk, c4_zd, c4_ze, c4_zc) ln) (vx_runV (As := [.int r2]) (rest := []) ⟨hx, hb, hml, hown, hts⟩ (m_X7_requireRightNumbers l hl0 dC dI dA gz oa H.size ln zb zt zn zv zh zx zk zd ze zc r2 (.inl ()) (c4_zb, c4_zt, c4_zn, c4_zv, c4_zh, c4_zx, c4_zk, c4_zd, c4_ze, c4_zc) eh3) (cwV 1 hts (gi_v bg wd_373 wd_375 ws_0 wd_1 wd_376) rfl rfl rfl hd_X7_requireRightNumbers ⟨Nat.le_of_ble_eq_true rfl, Nat.le_of_ble_eq_true rfl⟩) ⟨pP_blind, va_recv (ci := 11) (q0 := 0) hK hP rfl rfl, pP_preW hP hD hS hA hK hN hZ⟩ rfl rfl hl.1 rfl (lv_room (Nat.le_of_ble_eq_true rfl)) dX7_press_11 ⟨Nat.le_of_ble_eq_true rfl, Nat.le_of_ble_eq_true rfl⟩) hD hS hA (fun E ce q9 H locs h9 _ _ _ _ _ _ => nomatch h9) (fun H locs h9 hP hD hS => ?_)
    have hP : va_P (dC, dI) vwCl ([[(oa 0, .inr (11, [.ref (oa 1), .ref (oa 14), .ref (oa 27), .int c4_zv, .ref (oa 40), .ref (oa 146), .int c4_zk, .ref (oa 152), .int c4_zd, .int c4_ze, .int c4_zc]))], wX0 dA (fun k => oa (1 + k)) c4_zb, wX0 dA (fun k => oa (14 + k)) c4_zt, wX0 dA (fun k => oa (27 + k)) c4_zn, wX3 dA (fun k => oa (40 + k)) c4_zh, wX6 dA (fun k => oa (146 + k)) c4_zx, wLN dA (oa 152) ln].flatten) H := hP
    have hD : va_D A ([[(oa 0, .inr (11, [.ref (oa 1), .ref (oa 14), .ref (oa 27), .int c4_zv, .ref (oa 40), .ref (oa 146), .int c4_zk, .ref (oa 152), .int c4_zd, .int c4_ze, .int c4_zc]))], wX0 dA (fun k => oa (1 + k)) c4_zb, wX0 dA (fun k => oa (14 + k)) c4_zt, wX0 dA (fun k => oa (27 + k)) c4_zn, wX3 dA (fun k => oa (40 + k)) c4_zh, wX6 dA (fun k => oa (146 + k)) c4_zx, wLN dA (oa 152) ln].flatten) := hD
    refine lv_aload_n hx hb dX7_press_14 rfl (lv_at hl 1 rfl) ?_
    refine lv_iload_n hx hb dX7_press_15 rfl (lv_at hl 0 rfl) ?_
    refine lv_bipush (v := 12) hx hb dX7_press_16 (by decide) ?_
    rcases bE7_inv hf with ⟨r8, c7_zb, c7_zt, c7_zn, c7_zv, c7_zh, c7_zx, c7_zk, c7_zd, c7_ze, c7_zc, eh6, hf⟩ | ⟨E9, S9, eh6, hf⟩
    · refine jx_v (w1 := wX7 dA oa (c7_zb, c7_zt, c7_zn, c7_zv, c7_zh, c7_zx, c7_zk, c7_zd, c7_ze, c7_zc) ln) (vx_runV (As := [.int r2, .int 12]) (rest := []) ⟨hx, hb, hml, hown, hts⟩ (m_X7_requireAllowed l hl0 dC dI dA gz oa H.size ln c4_zb c4_zt c4_zn c4_zv c4_zh c4_zx c4_zk c4_zd c4_ze c4_zc r2 12 (.inl ()) (c7_zb, c7_zt, c7_zn, c7_zv, c7_zh, c7_zx, c7_zk, c7_zd, c7_ze, c7_zc) eh6) (cwV 2 hts (gi_v bg wd_449 wd_451 ws_2 wd_1 wd_452) rfl rfl rfl hd_X7_requireAllowed ⟨Nat.le_of_ble_eq_true rfl, Nat.le_of_ble_eq_true rfl⟩) ⟨pP_blind, va_recv (ci := 11) (q0 := 0) hK hP rfl rfl, pP_preW hP hD hS hA hK hN hZ⟩ rfl rfl hl.1 rfl (lv_room (Nat.le_of_ble_eq_true rfl)) dX7_press_18 ⟨Nat.le_of_ble_eq_true rfl, Nat.le_of_ble_eq_true rfl⟩) hD hS hA (fun E ce q9 H locs h9 _ _ _ _ _ _ => nomatch h9) (fun H locs h9 hP hD hS => ?_)
      have hP : va_P (dC, dI) vwCl ([[(oa 0, .inr (11, [.ref (oa 1), .ref (oa 14), .ref (oa 27), .int c7_zv, .ref (oa 40), .ref (oa 146), .int c7_zk, .ref (oa 152), .int c7_zd, .int c7_ze, .int c7_zc]))], wX0 dA (fun k => oa (1 + k)) c7_zb, wX0 dA (fun k => oa (14 + k)) c7_zt, wX0 dA (fun k => oa (27 + k)) c7_zn, wX3 dA (fun k => oa (40 + k)) c7_zh, wX6 dA (fun k => oa (146 + k)) c7_zx, wLN dA (oa 152) ln].flatten) H := hP
      have hD : va_D A ([[(oa 0, .inr (11, [.ref (oa 1), .ref (oa 14), .ref (oa 27), .int c7_zv, .ref (oa 40), .ref (oa 146), .int c7_zk, .ref (oa 152), .int c7_zd, .int c7_ze, .int c7_zc]))], wX0 dA (fun k => oa (1 + k)) c7_zb, wX0 dA (fun k => oa (14 + k)) c7_zt, wX0 dA (fun k => oa (27 + k)) c7_zn, wX3 dA (fun k => oa (40 + k)) c7_zh, wX6 dA (fun k => oa (146 + k)) c7_zx, wLN dA (oa 152) ln].flatten) := hD
      refine lv_aload_n hx hb dX7_press_21 rfl (lv_at hl 1 rfl) ?_
      refine va_get (D := (dC, dI)) (ci := 11) (v := .ref (oa 40)) (C := RX7) (T := TX7) (N := 11) hx hb hts in_X7 hown hK hP 0 rfl rfl 4 (by decide) (hts _ (bg _ wd_278)) (fun _ h9 => h9) rfl dX7_press_22 ?_
      refine lv_aload_n hx hb dX7_press_25 rfl (lv_at hl 1 rfl) ?_
      refine va_get (D := (dC, dI)) (ci := 11) (v := .ref (oa 1)) (C := RX7) (T := TX7) (N := 11) hx hb hts in_X7 hown hK hP 0 rfl rfl 0 (by decide) (hts _ (bg _ wd_274)) (fun _ h9 => h9) rfl dX7_press_26 ?_
      obtain ⟨c10, eh9, hf⟩ := bd hf
      refine jg2_v (va_runV (As := [.ref (oa 1)]) (rest := []) ⟨hx, hb, hml, hown, hts⟩ (mt_X3_push l dC dI dA gz (fun k => oa (40 + k)) (fun k => oa (1 + k)) H.size c7_zh c7_zb c10 eh9) (cwV 1 hts (gi_v bg wd_477 wd_478 wd_479 wd_7 wd_480) rfl rfl rfl hd_X3_push ⟨Nat.le_of_ble_eq_true rfl, Nat.le_of_ble_eq_true rfl⟩) ⟨pP_blind, va_recv (ci := 7) (q0 := 0) hK (seg_P hP 4 rfl) rfl rfl, pP_pre2 hP hD hS hA hK hN hZ 4 1 rfl rfl (by decide)⟩ rfl rfl hl.1 rfl (lv_room (Nat.le_of_ble_eq_true rfl)) dX7_press_29 ⟨Nat.le_of_ble_eq_true rfl, Nat.le_of_ble_eq_true rfl⟩) hP hD hS hA 4 1 rfl rfl (by decide) (aX3 _ _ _ _) (fun H locs hP hD hS => ?_)
      have hP : va_P (dC, dI) vwCl ([[(oa 0, .inr (11, [.ref (oa 1), .ref (oa 14), .ref (oa 27), .int c7_zv, .ref (oa 40), .ref (oa 146), .int c7_zk, .ref (oa 152), .int c7_zd, .int c7_ze, .int c7_zc]))], wX0 dA (fun k => oa (1 + k)) c7_zb, wX0 dA (fun k => oa (14 + k)) c7_zt, wX0 dA (fun k => oa (27 + k)) c7_zn, wX3 dA (fun k => oa (40 + k)) c10, wX6 dA (fun k => oa (146 + k)) c7_zx, wLN dA (oa 152) ln].flatten : va_W) H := hP
      have hD : va_D A ([[(oa 0, .inr (11, [.ref (oa 1), .ref (oa 14), .ref (oa 27), .int c7_zv, .ref (oa 40), .ref (oa 146), .int c7_zk, .ref (oa 152), .int c7_zd, .int c7_ze, .int c7_zc]))], wX0 dA (fun k => oa (1 + k)) c7_zb, wX0 dA (fun k => oa (14 + k)) c7_zt, wX0 dA (fun k => oa (27 + k)) c7_zn, wX3 dA (fun k => oa (40 + k)) c10, wX6 dA (fun k => oa (146 + k)) c7_zx, wLN dA (oa 152) ln].flatten) := hD
      refine lv_aload_n hx hb dX7_press_32 rfl (lv_at hl 1 rfl) ?_
      refine va_get (D := (dC, dI)) (ci := 11) (v := .ref (oa 1)) (C := RX7) (T := TX7) (N := 11) hx hb hts in_X7 hown hK hP 0 rfl rfl 0 (by decide) (hts _ (bg _ wd_274)) (fun _ h9 => h9) rfl dX7_press_33 ?_
      refine lv_iload_n hx hb dX7_press_36 rfl (lv_at hl 2 rfl) ?_
      obtain ⟨r12, c13, eh11, hf⟩ := bP_inv hf
      refine jg1_i (va_runV (As := [.int p1]) (rest := []) ⟨hx, hb, hml, hown, hts⟩ (mt_X0_pressPat l dC dI dA gz (fun k => oa (1 + k)) H.size c7_zb p1 r12 c13 eh11) (cwV 1 hts (gi_v bg wd_611 wd_612 wd_613 wd_2 wd_614) rfl rfl rfl hd_X0_pressPat ⟨Nat.le_of_ble_eq_true rfl, Nat.le_of_ble_eq_true rfl⟩) ⟨pP_blind, va_recv (ci := 4) (q0 := 0) hK (seg_P hP 1 rfl) rfl rfl, pP_pre1 hP hD hS hA hK hN hZ 1 rfl⟩ rfl rfl hl.1 rfl (lv_room (Nat.le_of_ble_eq_true rfl)) dX7_press_37 ⟨Nat.le_of_ble_eq_true rfl, Nat.le_of_ble_eq_true rfl⟩) hP hD hS hA 1 rfl (aX0 _ _ _ _) (fun H locs hP hD hS => ?_)
      have hP : va_P (dC, dI) vwCl ([[(oa 0, .inr (11, [.ref (oa 1), .ref (oa 14), .ref (oa 27), .int c7_zv, .ref (oa 40), .ref (oa 146), .int c7_zk, .ref (oa 152), .int c7_zd, .int c7_ze, .int c7_zc]))], wX0 dA (fun k => oa (1 + k)) c13, wX0 dA (fun k => oa (14 + k)) c7_zt, wX0 dA (fun k => oa (27 + k)) c7_zn, wX3 dA (fun k => oa (40 + k)) c10, wX6 dA (fun k => oa (146 + k)) c7_zx, wLN dA (oa 152) ln].flatten : va_W) H := hP
      have hD : va_D A ([[(oa 0, .inr (11, [.ref (oa 1), .ref (oa 14), .ref (oa 27), .int c7_zv, .ref (oa 40), .ref (oa 146), .int c7_zk, .ref (oa 152), .int c7_zd, .int c7_ze, .int c7_zc]))], wX0 dA (fun k => oa (1 + k)) c13, wX0 dA (fun k => oa (14 + k)) c7_zt, wX0 dA (fun k => oa (27 + k)) c7_zn, wX3 dA (fun k => oa (40 + k)) c10, wX6 dA (fun k => oa (146 + k)) c7_zx, wLN dA (oa 152) ln].flatten) := hD
      obtain ⟨e8, e9⟩ := Prod.mk.inj (sm hf)
      exact vx_ret (W.iret hx hb hr (fun t ht hW => ⟨⟨_, (), rfl, e8.symm, by rw [← e9, ht]; exact hP, by rw [← e9]; exact hD⟩, hS.F ht⟩) hS.2.2 dX7_press_40)
    · obtain ⟨e8, e9⟩ := Prod.mk.inj hf
      refine jx_v (w1 := wX7 dA oa S9 ln) (vx_runV (As := [.int r2, .int 12]) (rest := []) ⟨hx, hb, hml, hown, hts⟩ (m_X7_requireAllowed l hl0 dC dI dA gz oa H.size ln c4_zb c4_zt c4_zn c4_zv c4_zh c4_zx c4_zk c4_zd c4_ze c4_zc r2 12 (.inr E9) S9 eh6) (cwV 2 hts (gi_v bg wd_449 wd_451 ws_2 wd_1 wd_452) rfl rfl rfl hd_X7_requireAllowed ⟨Nat.le_of_ble_eq_true rfl, Nat.le_of_ble_eq_true rfl⟩) ⟨pP_blind, va_recv (ci := 11) (q0 := 0) hK hP rfl rfl, pP_preW hP hD hS hA hK hN hZ⟩ rfl rfl hl.1 rfl (lv_room (Nat.le_of_ble_eq_true rfl)) dX7_press_18 ⟨Nat.le_of_ble_eq_true rfl, Nat.le_of_ble_eq_true rfl⟩) hD hS hA (fun E ce q9 H locs h9 hP hD hS h1 h2 h3 => ?_) (fun H locs h9 _ _ _ => nomatch h9)
      cases h9
      exact vx_out (fun x9 hx9 => absurd (ht9 x9 hx9) id) hlocks h1 h2 h3 (fun t ht hvm => by rw [← e9]; exact xp e8.symm hP hD hS ht) hS.2.2 (Nat.le_of_ble_eq_true rfl) (Nat.le_of_ble_eq_true rfl)
  · obtain ⟨e8, e9⟩ := Prod.mk.inj hf
    refine jx_v (w1 := wX7 dA oa S9 ln) (vx_runV (As := [.int r2]) (rest := []) ⟨hx, hb, hml, hown, hts⟩ (m_X7_requireRightNumbers l hl0 dC dI dA gz oa H.size ln zb zt zn zv zh zx zk zd ze zc r2 (.inr E9) S9 eh3) (cwV 1 hts (gi_v bg wd_373 wd_375 ws_0 wd_1 wd_376) rfl rfl rfl hd_X7_requireRightNumbers ⟨Nat.le_of_ble_eq_true rfl, Nat.le_of_ble_eq_true rfl⟩) ⟨pP_blind, va_recv (ci := 11) (q0 := 0) hK hP rfl rfl, pP_preW hP hD hS hA hK hN hZ⟩ rfl rfl hl.1 rfl (lv_room (Nat.le_of_ble_eq_true rfl)) dX7_press_11 ⟨Nat.le_of_ble_eq_true rfl, Nat.le_of_ble_eq_true rfl⟩) hD hS hA (fun E ce q9 H locs h9 hP hD hS h1 h2 h3 => ?_) (fun H locs h9 _ _ _ => nomatch h9)
    cases h9
    exact vx_out (fun x9 hx9 => absurd (ht9 x9 hx9) id) hlocks h1 h2 h3 (fun t ht hvm => by rw [← e9]; exact xp e8.symm hP hD hS ht) hS.2.2 (Nat.le_of_ble_eq_true rfl) (Nat.le_of_ble_eq_true rfl)
/-! X7_gradePat -/
def f_X7_gradePat (zb : SX0) (zt : SX0) (zn : SX0) (zv : Int32) (zh : SX3) (zx : SX6) (zk : Int32) (zd : Int32) (ze : Int32) (zc : Int32) (p1 : Int32) : Option ((Int32 ⊕ String) × SX7) :=
  (g_X0_judgeGrading zb p1).bind fun r2 =>
  bE7 (f_X7_requireRightIndex zb zt zn zv zh zx zk zd ze zc r2) fun _ c4_zb c4_zt c4_zn c4_zv c4_zh c4_zx c4_zk c4_zd c4_ze c4_zc =>
  (g_X4_temperatureOf c4_zb.2.2.1 p1).bind fun r7 =>
  bE7 (f_X7_requireAllowed c4_zb c4_zt c4_zn c4_zv c4_zh c4_zx c4_zk c4_zd c4_ze c4_zc r2 r7) fun _ c9_zb c9_zt c9_zn c9_zv c9_zh c9_zx c9_zk c9_zd c9_ze c9_zc =>
  (g_X3_push c9_zh c9_zb).bind fun c12 =>
  bP (g_X0_takeGrade c9_zb p1) fun r14 c15 =>
  if ¬ (0 ≤ r14 ∧ r14 ≤ 65535) then none else
  some (.inl r14, (c15, c9_zt, c9_zn, c9_zv, c12, c9_zx, c9_zk, c9_zd, c9_ze, c9_zc))
set_option maxRecDepth 100000 in
set_option maxHeartbeats 4000000 in
theorem m_X7_gradePat (l : Launch) (hl0 : l.stackTraces = false) (dC : Nat → ClassId) (dI : Nat → Nat → Nat) (dA gz : Nat → Nat) (oa : Nat → Nat) (sz : Nat) (ln : LN) (zb : SX0) (zt : SX0) (zn : SX0) (zv : Int32) (zh : SX3) (zx : SX6) (zk : Int32) (zd : Int32) (ze : Int32) (zc : Int32) (p1 : Int32) (rr : Int32 ⊕ String) (uu : SX7) (hf : f_X7_gradePat zb zt zn zv zh zx zk zd ze zc p1 = some (rr, uu)) : vx_Met l yX7_gradePat ws_X7_gradePat ({ frames := 34, cells := 2, slots := 12, locals := 1400 } : Room) (va_Pc [.ref (oa 0), .int p1] (pP (dC, dI) dA gz (wX7 dA oa (zb, zt, zn, zv, zh, zx, zk, zd, ze, zc) ln) sz)) (va_Qi (S := Unit) (fun r' _ => rr = Sum.inl r') (fun _ t => pQ (dC, dI) (va_A (wX7 dA oa (zb, zt, zn, zv, zh, zx, zk, zd, ze, zc) ln) sz) (wX7 dA oa uu ln) t) (va_A (wX7 dA oa (zb, zt, zn, zv, zh, zx, zk, zd, ze, zc) ln) sz)) (XCx (dC, dI) (va_A (wX7 dA oa (zb, zt, zn, zv, zh, zx, zk, zd, ze, zc) ln) sz) rr (wX7 dA oa uu ln)) 2 12 (va_A (wX7 dA oa (zb, zt, zn, zv, zh, zx, zk, zd, ze, zc) ln) sz) := by
  refine vx_ofW (cc := cX7_gradePat) (maxL := 3) (ret := (some .char)) (by decide) rfl ?_
  intro p e s m args below meth c s₁ B hml ht9 hv
  obtain ⟨rfl, hsz, hP, hK, hD0, hN, hZ⟩ := hv
  have hx := B.exec
  have hb := B.bytes
  have hr := B.returns
  have hts := atoms_spec (ws := ws_X7_gradePat) B.pre
  have htb : ∀ w ∈ BIG, w.before _ s = true := fun w h => hts w (bg w h)
  have hown : s.vm.findClass RX7 = some m.cls := findClass_of_methodNamed B.named
  have hlocks := B.notSynchronized
  subst hsz
  have hD := hD0.self (sz := s.heap.size)
  generalize hAe : va_A (wX7 dA oa (zb, zt, zn, zv, zh, zx, zk, zd, ze, zc) ln) s.heap.size = A at hD hZ ⊢
  have hA : ∀ q : Nat, s.heap.size ≤ q → A q := fun q h => by rw [← hAe]; exact Or.inr h
  have hS : va_S A s.heap s.heap [] := va_S.rf
  have hP : va_P (dC, dI) vwCl ([[(oa 0, .inr (11, [.ref (oa 1), .ref (oa 14), .ref (oa 27), .int zv, .ref (oa 40), .ref (oa 146), .int zk, .ref (oa 152), .int zd, .int ze, .int zc]))], wX0 dA (fun k => oa (1 + k)) zb, wX0 dA (fun k => oa (14 + k)) zt, wX0 dA (fun k => oa (27 + k)) zn, wX3 dA (fun k => oa (40 + k)) zh, wX6 dA (fun k => oa (146 + k)) zx, wLN dA (oa 152) ln].flatten) s.heap := hP
  have hD : va_D A ([[(oa 0, .inr (11, [.ref (oa 1), .ref (oa 14), .ref (oa 27), .int zv, .ref (oa 40), .ref (oa 146), .int zk, .ref (oa 152), .int zd, .int ze, .int zc]))], wX0 dA (fun k => oa (1 + k)) zb, wX0 dA (fun k => oa (14 + k)) zt, wX0 dA (fun k => oa (27 + k)) zn, wX3 dA (fun k => oa (40 + k)) zh, wX6 dA (fun k => oa (146 + k)) zx, wLN dA (oa 152) ln].flatten) := hD
  have hl := lv_entry [.ref (oa 0), .int p1] (n := 3) (Nat.le_of_ble_eq_true rfl)
  rw [lg_entry_eq]
  generalize (lg_sl [.ref (oa 0), .int p1] ++ List.replicate (3 - (lg_sl [.ref (oa 0), .int p1]).length) Slot.unset).toArray = ls at hl ⊢
  have hl : lv_has ls 3 [(0, .ref (oa 0)), (1, .int p1)] := hl
  have in_X0 : ∀ w ∈ wsX00, w ∈ ws_X7_gradePat := fun w h => bg _ (inB_X0 w h)
  have in_X7 : ∀ w ∈ wsX70, w ∈ ws_X7_gradePat := fun w h => bg _ (inB_X7 w h)
  rw [f_X7_gradePat] at hf
  refine lv_aload_n hx hb dX7_gradePat_0 rfl (lv_at hl 0 rfl) ?_
  refine va_get (D := (dC, dI)) (ci := 11) (v := .ref (oa 1)) (C := RX7) (T := TX7) (N := 11) hx hb hts in_X7 hown hK hP 0 rfl rfl 0 (by decide) (hts _ (bg _ wd_274)) (fun _ h9 => h9) rfl dX7_gradePat_1 ?_
  refine lv_iload_n hx hb dX7_gradePat_4 rfl (lv_at hl 1 rfl) ?_
  obtain ⟨r2, eh1, hf⟩ := bd hf
  refine jgr_i (va_runV (As := [.int p1]) (rest := []) ⟨hx, hb, hml, hown, hts⟩ (mt_X0_judgeGrading l dC dI dA gz (fun k => oa (1 + k)) s.heap.size zb p1 r2 eh1) (cwV 1 hts (gi_v bg wd_736 wd_737 wd_738 wd_2 wd_739) rfl rfl rfl hd_X0_judgeGrading ⟨Nat.le_of_ble_eq_true rfl, Nat.le_of_ble_eq_true rfl⟩) ⟨pP_blind, va_recv (ci := 4) (q0 := 0) hK (seg_P hP 1 rfl) rfl rfl, pP_pre1 hP hD hS hA hK hN hZ 1 rfl⟩ rfl rfl hl.1 rfl (lv_room (Nat.le_of_ble_eq_true rfl)) dX7_gradePat_5 ⟨Nat.le_of_ble_eq_true rfl, Nat.le_of_ble_eq_true rfl⟩) hP hD hS hA 1 rfl (fun H locs hP hS => ?_)
  refine lv_istore_n (lv' := [(2, .int r2), (0, .ref (oa 0)), (1, .int p1)]) hx hb dX7_gradePat_8 rfl hl (by decide) rfl (fun ls hl => ?_)
  refine lv_aload_n hx hb dX7_gradePat_9 rfl (lv_at hl 1 rfl) ?_
  refine lv_iload_n hx hb dX7_gradePat_10 rfl (lv_at hl 0 rfl) ?_
  rcases bE7_inv hf with ⟨r5, c4_zb, c4_zt, c4_zn, c4_zv, c4_zh, c4_zx, c4_zk, c4_zd, c4_ze, c4_zc, eh3, hf⟩ | ⟨E9, S9, eh3, hf⟩
  · refine jx_v (w1 := wX7 dA oa (c4_zb, c4_zt, c4_zn, c4_zv, c4_zh, c4_zx, c4_zk, c4_zd, c4_ze, c4_zc) ln) (vx_runV (As := [.int r2]) (rest := []) ⟨hx, hb, hml, hown, hts⟩ (m_X7_requireRightIndex l hl0 dC dI dA gz oa H.size ln zb zt zn zv zh zx zk zd ze zc r2 (.inl ()) (c4_zb, c4_zt, c4_zn, c4_zv, c4_zh, c4_zx, c4_zk, c4_zd, c4_ze, c4_zc) eh3) (cwV 1 hts (gi_v bg wd_928 wd_930 ws_15 wd_1 wd_931) rfl rfl rfl hd_X7_requireRightIndex ⟨Nat.le_of_ble_eq_true rfl, Nat.le_of_ble_eq_true rfl⟩) ⟨pP_blind, va_recv (ci := 11) (q0 := 0) hK hP rfl rfl, pP_preW hP hD hS hA hK hN hZ⟩ rfl rfl hl.1 rfl (lv_room (Nat.le_of_ble_eq_true rfl)) dX7_gradePat_11 ⟨Nat.le_of_ble_eq_true rfl, Nat.le_of_ble_eq_true rfl⟩) hD hS hA (fun E ce q9 H locs h9 _ _ _ _ _ _ => nomatch h9) (fun H locs h9 hP hD hS => ?_)
    have hP : va_P (dC, dI) vwCl ([[(oa 0, .inr (11, [.ref (oa 1), .ref (oa 14), .ref (oa 27), .int c4_zv, .ref (oa 40), .ref (oa 146), .int c4_zk, .ref (oa 152), .int c4_zd, .int c4_ze, .int c4_zc]))], wX0 dA (fun k => oa (1 + k)) c4_zb, wX0 dA (fun k => oa (14 + k)) c4_zt, wX0 dA (fun k => oa (27 + k)) c4_zn, wX3 dA (fun k => oa (40 + k)) c4_zh, wX6 dA (fun k => oa (146 + k)) c4_zx, wLN dA (oa 152) ln].flatten) H := hP
    have hD : va_D A ([[(oa 0, .inr (11, [.ref (oa 1), .ref (oa 14), .ref (oa 27), .int c4_zv, .ref (oa 40), .ref (oa 146), .int c4_zk, .ref (oa 152), .int c4_zd, .int c4_ze, .int c4_zc]))], wX0 dA (fun k => oa (1 + k)) c4_zb, wX0 dA (fun k => oa (14 + k)) c4_zt, wX0 dA (fun k => oa (27 + k)) c4_zn, wX3 dA (fun k => oa (40 + k)) c4_zh, wX6 dA (fun k => oa (146 + k)) c4_zx, wLN dA (oa 152) ln].flatten) := hD
    refine lv_aload_n hx hb dX7_gradePat_14 rfl (lv_at hl 1 rfl) ?_
    refine lv_iload_n hx hb dX7_gradePat_15 rfl (lv_at hl 0 rfl) ?_
    refine lv_aload_n hx hb dX7_gradePat_16 rfl (lv_at hl 1 rfl) ?_
    refine va_get (D := (dC, dI)) (ci := 11) (v := .ref (oa 1)) (C := RX7) (T := TX7) (N := 11) hx hb hts in_X7 hown hK hP 0 rfl rfl 0 (by decide) (hts _ (bg _ wd_274)) (fun _ h9 => h9) rfl dX7_gradePat_17 ?_
    refine va_get (D := (dC, dI)) (ci := 4) (v := .ref (oa 7)) (C := RX0) (T := TX0) (N := 4) hx hb hts in_X0 hown hK hP 1 rfl rfl 2 (by decide) (hts _ (bg _ wd_171)) (fun _ h9 => h9) rfl dX7_gradePat_20 ?_
    refine lv_iload_n hx hb dX7_gradePat_23 rfl (lv_at hl 2 rfl) ?_
    obtain ⟨r7, eh6, hf⟩ := bd hf
    refine jr_i (va_runV (As := [.int p1]) (rest := [.int r2, .ref (oa 0)]) ⟨hx, hb, hml, hown, hts⟩ (mt_X4_temperatureOf l dC dI dA gz (fun k => oa (7 + k)) H.size c4_zb.2.2.1 p1 r7 eh6) (cwV 1 hts (gi_v bg wd_952 wd_953 wd_954 wd_5 wd_955) rfl rfl rfl hd_X4_temperatureOf ⟨Nat.le_of_ble_eq_true rfl, Nat.le_of_ble_eq_true rfl⟩) ⟨pP_blind, va_recv (ci := 8) (q0 := 7) hK hP rfl rfl, pP_pre hP hD hS hA hK hN hZ [7, 8, 9, 10, 11] (by decide) rfl⟩ rfl rfl hl.1 rfl (lv_room (Nat.le_of_ble_eq_true rfl)) dX7_gradePat_24 ⟨Nat.le_of_ble_eq_true rfl, Nat.le_of_ble_eq_true rfl⟩) hP hD hS hA [7, 8, 9, 10, 11] rfl (fun H locs hP hS => ?_)
    rcases bE7_inv hf with ⟨r10, c9_zb, c9_zt, c9_zn, c9_zv, c9_zh, c9_zx, c9_zk, c9_zd, c9_ze, c9_zc, eh8, hf⟩ | ⟨E9, S9, eh8, hf⟩
    · refine jx_v (w1 := wX7 dA oa (c9_zb, c9_zt, c9_zn, c9_zv, c9_zh, c9_zx, c9_zk, c9_zd, c9_ze, c9_zc) ln) (vx_runV (As := [.int r2, .int r7]) (rest := []) ⟨hx, hb, hml, hown, hts⟩ (m_X7_requireAllowed l hl0 dC dI dA gz oa H.size ln c4_zb c4_zt c4_zn c4_zv c4_zh c4_zx c4_zk c4_zd c4_ze c4_zc r2 r7 (.inl ()) (c9_zb, c9_zt, c9_zn, c9_zv, c9_zh, c9_zx, c9_zk, c9_zd, c9_ze, c9_zc) eh8) (cwV 2 hts (gi_v bg wd_449 wd_451 ws_2 wd_1 wd_452) rfl rfl rfl hd_X7_requireAllowed ⟨Nat.le_of_ble_eq_true rfl, Nat.le_of_ble_eq_true rfl⟩) ⟨pP_blind, va_recv (ci := 11) (q0 := 0) hK hP rfl rfl, pP_preW hP hD hS hA hK hN hZ⟩ rfl rfl hl.1 rfl (lv_room (Nat.le_of_ble_eq_true rfl)) dX7_gradePat_27 ⟨Nat.le_of_ble_eq_true rfl, Nat.le_of_ble_eq_true rfl⟩) hD hS hA (fun E ce q9 H locs h9 _ _ _ _ _ _ => nomatch h9) (fun H locs h9 hP hD hS => ?_)
      have hP : va_P (dC, dI) vwCl ([[(oa 0, .inr (11, [.ref (oa 1), .ref (oa 14), .ref (oa 27), .int c9_zv, .ref (oa 40), .ref (oa 146), .int c9_zk, .ref (oa 152), .int c9_zd, .int c9_ze, .int c9_zc]))], wX0 dA (fun k => oa (1 + k)) c9_zb, wX0 dA (fun k => oa (14 + k)) c9_zt, wX0 dA (fun k => oa (27 + k)) c9_zn, wX3 dA (fun k => oa (40 + k)) c9_zh, wX6 dA (fun k => oa (146 + k)) c9_zx, wLN dA (oa 152) ln].flatten) H := hP
      have hD : va_D A ([[(oa 0, .inr (11, [.ref (oa 1), .ref (oa 14), .ref (oa 27), .int c9_zv, .ref (oa 40), .ref (oa 146), .int c9_zk, .ref (oa 152), .int c9_zd, .int c9_ze, .int c9_zc]))], wX0 dA (fun k => oa (1 + k)) c9_zb, wX0 dA (fun k => oa (14 + k)) c9_zt, wX0 dA (fun k => oa (27 + k)) c9_zn, wX3 dA (fun k => oa (40 + k)) c9_zh, wX6 dA (fun k => oa (146 + k)) c9_zx, wLN dA (oa 152) ln].flatten) := hD
      refine lv_aload_n hx hb dX7_gradePat_30 rfl (lv_at hl 1 rfl) ?_
      refine va_get (D := (dC, dI)) (ci := 11) (v := .ref (oa 40)) (C := RX7) (T := TX7) (N := 11) hx hb hts in_X7 hown hK hP 0 rfl rfl 4 (by decide) (hts _ (bg _ wd_278)) (fun _ h9 => h9) rfl dX7_gradePat_31 ?_
      refine lv_aload_n hx hb dX7_gradePat_34 rfl (lv_at hl 1 rfl) ?_
      refine va_get (D := (dC, dI)) (ci := 11) (v := .ref (oa 1)) (C := RX7) (T := TX7) (N := 11) hx hb hts in_X7 hown hK hP 0 rfl rfl 0 (by decide) (hts _ (bg _ wd_274)) (fun _ h9 => h9) rfl dX7_gradePat_35 ?_
      obtain ⟨c12, eh11, hf⟩ := bd hf
      refine jg2_v (va_runV (As := [.ref (oa 1)]) (rest := []) ⟨hx, hb, hml, hown, hts⟩ (mt_X3_push l dC dI dA gz (fun k => oa (40 + k)) (fun k => oa (1 + k)) H.size c9_zh c9_zb c12 eh11) (cwV 1 hts (gi_v bg wd_477 wd_478 wd_479 wd_7 wd_480) rfl rfl rfl hd_X3_push ⟨Nat.le_of_ble_eq_true rfl, Nat.le_of_ble_eq_true rfl⟩) ⟨pP_blind, va_recv (ci := 7) (q0 := 0) hK (seg_P hP 4 rfl) rfl rfl, pP_pre2 hP hD hS hA hK hN hZ 4 1 rfl rfl (by decide)⟩ rfl rfl hl.1 rfl (lv_room (Nat.le_of_ble_eq_true rfl)) dX7_gradePat_38 ⟨Nat.le_of_ble_eq_true rfl, Nat.le_of_ble_eq_true rfl⟩) hP hD hS hA 4 1 rfl rfl (by decide) (aX3 _ _ _ _) (fun H locs hP hD hS => ?_)
      have hP : va_P (dC, dI) vwCl ([[(oa 0, .inr (11, [.ref (oa 1), .ref (oa 14), .ref (oa 27), .int c9_zv, .ref (oa 40), .ref (oa 146), .int c9_zk, .ref (oa 152), .int c9_zd, .int c9_ze, .int c9_zc]))], wX0 dA (fun k => oa (1 + k)) c9_zb, wX0 dA (fun k => oa (14 + k)) c9_zt, wX0 dA (fun k => oa (27 + k)) c9_zn, wX3 dA (fun k => oa (40 + k)) c12, wX6 dA (fun k => oa (146 + k)) c9_zx, wLN dA (oa 152) ln].flatten : va_W) H := hP
      have hD : va_D A ([[(oa 0, .inr (11, [.ref (oa 1), .ref (oa 14), .ref (oa 27), .int c9_zv, .ref (oa 40), .ref (oa 146), .int c9_zk, .ref (oa 152), .int c9_zd, .int c9_ze, .int c9_zc]))], wX0 dA (fun k => oa (1 + k)) c9_zb, wX0 dA (fun k => oa (14 + k)) c9_zt, wX0 dA (fun k => oa (27 + k)) c9_zn, wX3 dA (fun k => oa (40 + k)) c12, wX6 dA (fun k => oa (146 + k)) c9_zx, wLN dA (oa 152) ln].flatten) := hD
      refine lv_aload_n hx hb dX7_gradePat_41 rfl (lv_at hl 1 rfl) ?_
      refine va_get (D := (dC, dI)) (ci := 11) (v := .ref (oa 1)) (C := RX7) (T := TX7) (N := 11) hx hb hts in_X7 hown hK hP 0 rfl rfl 0 (by decide) (hts _ (bg _ wd_274)) (fun _ h9 => h9) rfl dX7_gradePat_42 ?_
      refine lv_iload_n hx hb dX7_gradePat_45 rfl (lv_at hl 2 rfl) ?_
      obtain ⟨r14, c15, eh13, hf⟩ := bP_inv hf
      refine jg1_i (va_runV (As := [.int p1]) (rest := []) ⟨hx, hb, hml, hown, hts⟩ (mt_X0_takeGrade l dC dI dA gz (fun k => oa (1 + k)) H.size c9_zb p1 r14 c15 eh13) (cwV 1 hts (gi_v bg wd_770 wd_771 wd_772 wd_2 wd_773) rfl rfl rfl hd_X0_takeGrade ⟨Nat.le_of_ble_eq_true rfl, Nat.le_of_ble_eq_true rfl⟩) ⟨pP_blind, va_recv (ci := 4) (q0 := 0) hK (seg_P hP 1 rfl) rfl rfl, pP_pre1 hP hD hS hA hK hN hZ 1 rfl⟩ rfl rfl hl.1 rfl (lv_room (Nat.le_of_ble_eq_true rfl)) dX7_gradePat_46 ⟨Nat.le_of_ble_eq_true rfl, Nat.le_of_ble_eq_true rfl⟩) hP hD hS hA 1 rfl (aX0 _ _ _ _) (fun H locs hP hD hS => ?_)
      have hP : va_P (dC, dI) vwCl ([[(oa 0, .inr (11, [.ref (oa 1), .ref (oa 14), .ref (oa 27), .int c9_zv, .ref (oa 40), .ref (oa 146), .int c9_zk, .ref (oa 152), .int c9_zd, .int c9_ze, .int c9_zc]))], wX0 dA (fun k => oa (1 + k)) c15, wX0 dA (fun k => oa (14 + k)) c9_zt, wX0 dA (fun k => oa (27 + k)) c9_zn, wX3 dA (fun k => oa (40 + k)) c12, wX6 dA (fun k => oa (146 + k)) c9_zx, wLN dA (oa 152) ln].flatten : va_W) H := hP
      have hD : va_D A ([[(oa 0, .inr (11, [.ref (oa 1), .ref (oa 14), .ref (oa 27), .int c9_zv, .ref (oa 40), .ref (oa 146), .int c9_zk, .ref (oa 152), .int c9_zd, .int c9_ze, .int c9_zc]))], wX0 dA (fun k => oa (1 + k)) c15, wX0 dA (fun k => oa (14 + k)) c9_zt, wX0 dA (fun k => oa (27 + k)) c9_zn, wX3 dA (fun k => oa (40 + k)) c12, wX6 dA (fun k => oa (146 + k)) c9_zx, wLN dA (oa 152) ln].flatten) := hD
      obtain ⟨z16, hf⟩ := gd hf
      obtain ⟨e8, e9⟩ := Prod.mk.inj (sm hf)
      exact vx_ret (W.zret hx hb hr (nar_c (Decidable.not_not.mp z16)).1 (fun t ht hW => ⟨⟨_, (), rfl, e8.symm, by rw [← e9, ht]; exact hP, by rw [← e9]; exact hD⟩, hS.F ht⟩) hS.2.2 dX7_gradePat_49)
    · obtain ⟨e8, e9⟩ := Prod.mk.inj hf
      refine jx_v (w1 := wX7 dA oa S9 ln) (vx_runV (As := [.int r2, .int r7]) (rest := []) ⟨hx, hb, hml, hown, hts⟩ (m_X7_requireAllowed l hl0 dC dI dA gz oa H.size ln c4_zb c4_zt c4_zn c4_zv c4_zh c4_zx c4_zk c4_zd c4_ze c4_zc r2 r7 (.inr E9) S9 eh8) (cwV 2 hts (gi_v bg wd_449 wd_451 ws_2 wd_1 wd_452) rfl rfl rfl hd_X7_requireAllowed ⟨Nat.le_of_ble_eq_true rfl, Nat.le_of_ble_eq_true rfl⟩) ⟨pP_blind, va_recv (ci := 11) (q0 := 0) hK hP rfl rfl, pP_preW hP hD hS hA hK hN hZ⟩ rfl rfl hl.1 rfl (lv_room (Nat.le_of_ble_eq_true rfl)) dX7_gradePat_27 ⟨Nat.le_of_ble_eq_true rfl, Nat.le_of_ble_eq_true rfl⟩) hD hS hA (fun E ce q9 H locs h9 hP hD hS h1 h2 h3 => ?_) (fun H locs h9 _ _ _ => nomatch h9)
      cases h9
      exact vx_out (fun x9 hx9 => absurd (ht9 x9 hx9) id) hlocks h1 h2 h3 (fun t ht hvm => by rw [← e9]; exact xp e8.symm hP hD hS ht) hS.2.2 (Nat.le_of_ble_eq_true rfl) (Nat.le_of_ble_eq_true rfl)
  · obtain ⟨e8, e9⟩ := Prod.mk.inj hf
    refine jx_v (w1 := wX7 dA oa S9 ln) (vx_runV (As := [.int r2]) (rest := []) ⟨hx, hb, hml, hown, hts⟩ (m_X7_requireRightIndex l hl0 dC dI dA gz oa H.size ln zb zt zn zv zh zx zk zd ze zc r2 (.inr E9) S9 eh3) (cwV 1 hts (gi_v bg wd_928 wd_930 ws_15 wd_1 wd_931) rfl rfl rfl hd_X7_requireRightIndex ⟨Nat.le_of_ble_eq_true rfl, Nat.le_of_ble_eq_true rfl⟩) ⟨pP_blind, va_recv (ci := 11) (q0 := 0) hK hP rfl rfl, pP_preW hP hD hS hA hK hN hZ⟩ rfl rfl hl.1 rfl (lv_room (Nat.le_of_ble_eq_true rfl)) dX7_gradePat_11 ⟨Nat.le_of_ble_eq_true rfl, Nat.le_of_ble_eq_true rfl⟩) hD hS hA (fun E ce q9 H locs h9 hP hD hS h1 h2 h3 => ?_) (fun H locs h9 _ _ _ => nomatch h9)
    cases h9
    exact vx_out (fun x9 hx9 => absurd (ht9 x9 hx9) id) hlocks h1 h2 h3 (fun t ht hvm => by rw [← e9]; exact xp e8.symm hP hD hS ht) hS.2.2 (Nat.le_of_ble_eq_true rfl) (Nat.le_of_ble_eq_true rfl)
/-! X7_crush -/
def f_X7_crush (zb : SX0) (zt : SX0) (zn : SX0) (zv : Int32) (zh : SX3) (zx : SX6) (zk : Int32) (zd : Int32) (ze : Int32) (zc : Int32) (p1 : Int32) : Option ((Int32 ⊕ String) × SX7) :=
  (g_X0_judgeCrush zb p1).bind fun r2 =>
  bE7 (f_X7_requireRightIndex zb zt zn zv zh zx zk zd ze zc r2) fun _ c4_zb c4_zt c4_zn c4_zv c4_zh c4_zx c4_zk c4_zd c4_ze c4_zc =>
  bE7 (f_X7_requireAllowed c4_zb c4_zt c4_zn c4_zv c4_zh c4_zx c4_zk c4_zd c4_ze c4_zc r2 100) fun _ c7_zb c7_zt c7_zn c7_zv c7_zh c7_zx c7_zk c7_zd c7_ze c7_zc =>
  (g_X3_push c7_zh c7_zb).bind fun c10 =>
  bP (g_X0_crushPat c7_zb p1) fun r12 c13 =>
  some (.inl r12, (c13, c7_zt, c7_zn, c7_zv, c10, c7_zx, c7_zk, c7_zd, c7_ze, c7_zc))
set_option maxRecDepth 100000 in
set_option maxHeartbeats 4000000 in
theorem m_X7_crush (l : Launch) (hl0 : l.stackTraces = false) (dC : Nat → ClassId) (dI : Nat → Nat → Nat) (dA gz : Nat → Nat) (oa : Nat → Nat) (sz : Nat) (ln : LN) (zb : SX0) (zt : SX0) (zn : SX0) (zv : Int32) (zh : SX3) (zx : SX6) (zk : Int32) (zd : Int32) (ze : Int32) (zc : Int32) (p1 : Int32) (rr : Int32 ⊕ String) (uu : SX7) (hf : f_X7_crush zb zt zn zv zh zx zk zd ze zc p1 = some (rr, uu)) : vx_Met l yX7_crush ws_X7_crush ({ frames := 34, cells := 2, slots := 12, locals := 1400 } : Room) (va_Pc [.ref (oa 0), .int p1] (pP (dC, dI) dA gz (wX7 dA oa (zb, zt, zn, zv, zh, zx, zk, zd, ze, zc) ln) sz)) (va_Qi (S := Unit) (fun r' _ => rr = Sum.inl r') (fun _ t => pQ (dC, dI) (va_A (wX7 dA oa (zb, zt, zn, zv, zh, zx, zk, zd, ze, zc) ln) sz) (wX7 dA oa uu ln) t) (va_A (wX7 dA oa (zb, zt, zn, zv, zh, zx, zk, zd, ze, zc) ln) sz)) (XCx (dC, dI) (va_A (wX7 dA oa (zb, zt, zn, zv, zh, zx, zk, zd, ze, zc) ln) sz) rr (wX7 dA oa uu ln)) 2 12 (va_A (wX7 dA oa (zb, zt, zn, zv, zh, zx, zk, zd, ze, zc) ln) sz) := by
  refine vx_ofW (cc := cX7_crush) (maxL := 3) (ret := (some .int)) (by decide) rfl ?_
  intro p e s m args below meth c s₁ B hml ht9 hv
  obtain ⟨rfl, hsz, hP, hK, hD0, hN, hZ⟩ := hv
  have hx := B.exec
  have hb := B.bytes
  have hr := B.returns
  have hts := atoms_spec (ws := ws_X7_crush) B.pre
  have htb : ∀ w ∈ BIG, w.before _ s = true := fun w h => hts w (bg w h)
  have hown : s.vm.findClass RX7 = some m.cls := findClass_of_methodNamed B.named
  have hlocks := B.notSynchronized
  subst hsz
  have hD := hD0.self (sz := s.heap.size)
  generalize hAe : va_A (wX7 dA oa (zb, zt, zn, zv, zh, zx, zk, zd, ze, zc) ln) s.heap.size = A at hD hZ ⊢
  have hA : ∀ q : Nat, s.heap.size ≤ q → A q := fun q h => by rw [← hAe]; exact Or.inr h
  have hS : va_S A s.heap s.heap [] := va_S.rf
  have hP : va_P (dC, dI) vwCl ([[(oa 0, .inr (11, [.ref (oa 1), .ref (oa 14), .ref (oa 27), .int zv, .ref (oa 40), .ref (oa 146), .int zk, .ref (oa 152), .int zd, .int ze, .int zc]))], wX0 dA (fun k => oa (1 + k)) zb, wX0 dA (fun k => oa (14 + k)) zt, wX0 dA (fun k => oa (27 + k)) zn, wX3 dA (fun k => oa (40 + k)) zh, wX6 dA (fun k => oa (146 + k)) zx, wLN dA (oa 152) ln].flatten) s.heap := hP
  have hD : va_D A ([[(oa 0, .inr (11, [.ref (oa 1), .ref (oa 14), .ref (oa 27), .int zv, .ref (oa 40), .ref (oa 146), .int zk, .ref (oa 152), .int zd, .int ze, .int zc]))], wX0 dA (fun k => oa (1 + k)) zb, wX0 dA (fun k => oa (14 + k)) zt, wX0 dA (fun k => oa (27 + k)) zn, wX3 dA (fun k => oa (40 + k)) zh, wX6 dA (fun k => oa (146 + k)) zx, wLN dA (oa 152) ln].flatten) := hD
  have hl := lv_entry [.ref (oa 0), .int p1] (n := 3) (Nat.le_of_ble_eq_true rfl)
  rw [lg_entry_eq]
  generalize (lg_sl [.ref (oa 0), .int p1] ++ List.replicate (3 - (lg_sl [.ref (oa 0), .int p1]).length) Slot.unset).toArray = ls at hl ⊢
  have hl : lv_has ls 3 [(0, .ref (oa 0)), (1, .int p1)] := hl
  have in_X7 : ∀ w ∈ wsX70, w ∈ ws_X7_crush := fun w h => bg _ (inB_X7 w h)
  rw [f_X7_crush] at hf
  refine lv_aload_n hx hb dX7_crush_0 rfl (lv_at hl 0 rfl) ?_
  refine va_get (D := (dC, dI)) (ci := 11) (v := .ref (oa 1)) (C := RX7) (T := TX7) (N := 11) hx hb hts in_X7 hown hK hP 0 rfl rfl 0 (by decide) (hts _ (bg _ wd_274)) (fun _ h9 => h9) rfl dX7_crush_1 ?_
  refine lv_iload_n hx hb dX7_crush_4 rfl (lv_at hl 1 rfl) ?_
  obtain ⟨r2, eh1, hf⟩ := bd hf
  refine jgr_i (va_runV (As := [.int p1]) (rest := []) ⟨hx, hb, hml, hown, hts⟩ (mt_X0_judgeCrush l dC dI dA gz (fun k => oa (1 + k)) s.heap.size zb p1 r2 eh1) (cwV 1 hts (gi_v bg wd_749 wd_750 wd_751 wd_2 wd_752) rfl rfl rfl hd_X0_judgeCrush ⟨Nat.le_of_ble_eq_true rfl, Nat.le_of_ble_eq_true rfl⟩) ⟨pP_blind, va_recv (ci := 4) (q0 := 0) hK (seg_P hP 1 rfl) rfl rfl, pP_pre1 hP hD hS hA hK hN hZ 1 rfl⟩ rfl rfl hl.1 rfl (lv_room (Nat.le_of_ble_eq_true rfl)) dX7_crush_5 ⟨Nat.le_of_ble_eq_true rfl, Nat.le_of_ble_eq_true rfl⟩) hP hD hS hA 1 rfl (fun H locs hP hS => ?_)
  refine lv_istore_n (lv' := [(2, .int r2), (0, .ref (oa 0)), (1, .int p1)]) hx hb dX7_crush_8 rfl hl (by decide) rfl (fun ls hl => ?_)
  refine lv_aload_n hx hb dX7_crush_9 rfl (lv_at hl 1 rfl) ?_
  refine lv_iload_n hx hb dX7_crush_10 rfl (lv_at hl 0 rfl) ?_
  rcases bE7_inv hf with ⟨r5, c4_zb, c4_zt, c4_zn, c4_zv, c4_zh, c4_zx, c4_zk, c4_zd, c4_ze, c4_zc, eh3, hf⟩ | ⟨E9, S9, eh3, hf⟩
  · refine jx_v (w1 := wX7 dA oa (c4_zb, c4_zt, c4_zn, c4_zv, c4_zh, c4_zx, c4_zk, c4_zd, c4_ze, c4_zc) ln) (vx_runV (As := [.int r2]) (rest := []) ⟨hx, hb, hml, hown, hts⟩ (m_X7_requireRightIndex l hl0 dC dI dA gz oa H.size ln zb zt zn zv zh zx zk zd ze zc r2 (.inl ()) (c4_zb, c4_zt, c4_zn, c4_zv, c4_zh, c4_zx, c4_zk, c4_zd, c4_ze, c4_zc) eh3) (cwV 1 hts (gi_v bg wd_928 wd_930 ws_15 wd_1 wd_931) rfl rfl rfl hd_X7_requireRightIndex ⟨Nat.le_of_ble_eq_true rfl, Nat.le_of_ble_eq_true rfl⟩) ⟨pP_blind, va_recv (ci := 11) (q0 := 0) hK hP rfl rfl, pP_preW hP hD hS hA hK hN hZ⟩ rfl rfl hl.1 rfl (lv_room (Nat.le_of_ble_eq_true rfl)) dX7_crush_11 ⟨Nat.le_of_ble_eq_true rfl, Nat.le_of_ble_eq_true rfl⟩) hD hS hA (fun E ce q9 H locs h9 _ _ _ _ _ _ => nomatch h9) (fun H locs h9 hP hD hS => ?_)
    have hP : va_P (dC, dI) vwCl ([[(oa 0, .inr (11, [.ref (oa 1), .ref (oa 14), .ref (oa 27), .int c4_zv, .ref (oa 40), .ref (oa 146), .int c4_zk, .ref (oa 152), .int c4_zd, .int c4_ze, .int c4_zc]))], wX0 dA (fun k => oa (1 + k)) c4_zb, wX0 dA (fun k => oa (14 + k)) c4_zt, wX0 dA (fun k => oa (27 + k)) c4_zn, wX3 dA (fun k => oa (40 + k)) c4_zh, wX6 dA (fun k => oa (146 + k)) c4_zx, wLN dA (oa 152) ln].flatten) H := hP
    have hD : va_D A ([[(oa 0, .inr (11, [.ref (oa 1), .ref (oa 14), .ref (oa 27), .int c4_zv, .ref (oa 40), .ref (oa 146), .int c4_zk, .ref (oa 152), .int c4_zd, .int c4_ze, .int c4_zc]))], wX0 dA (fun k => oa (1 + k)) c4_zb, wX0 dA (fun k => oa (14 + k)) c4_zt, wX0 dA (fun k => oa (27 + k)) c4_zn, wX3 dA (fun k => oa (40 + k)) c4_zh, wX6 dA (fun k => oa (146 + k)) c4_zx, wLN dA (oa 152) ln].flatten) := hD
    refine lv_aload_n hx hb dX7_crush_14 rfl (lv_at hl 1 rfl) ?_
    refine lv_iload_n hx hb dX7_crush_15 rfl (lv_at hl 0 rfl) ?_
    refine lv_bipush (v := 100) hx hb dX7_crush_16 (by decide) ?_
    rcases bE7_inv hf with ⟨r8, c7_zb, c7_zt, c7_zn, c7_zv, c7_zh, c7_zx, c7_zk, c7_zd, c7_ze, c7_zc, eh6, hf⟩ | ⟨E9, S9, eh6, hf⟩
    · refine jx_v (w1 := wX7 dA oa (c7_zb, c7_zt, c7_zn, c7_zv, c7_zh, c7_zx, c7_zk, c7_zd, c7_ze, c7_zc) ln) (vx_runV (As := [.int r2, .int 100]) (rest := []) ⟨hx, hb, hml, hown, hts⟩ (m_X7_requireAllowed l hl0 dC dI dA gz oa H.size ln c4_zb c4_zt c4_zn c4_zv c4_zh c4_zx c4_zk c4_zd c4_ze c4_zc r2 100 (.inl ()) (c7_zb, c7_zt, c7_zn, c7_zv, c7_zh, c7_zx, c7_zk, c7_zd, c7_ze, c7_zc) eh6) (cwV 2 hts (gi_v bg wd_449 wd_451 ws_2 wd_1 wd_452) rfl rfl rfl hd_X7_requireAllowed ⟨Nat.le_of_ble_eq_true rfl, Nat.le_of_ble_eq_true rfl⟩) ⟨pP_blind, va_recv (ci := 11) (q0 := 0) hK hP rfl rfl, pP_preW hP hD hS hA hK hN hZ⟩ rfl rfl hl.1 rfl (lv_room (Nat.le_of_ble_eq_true rfl)) dX7_crush_18 ⟨Nat.le_of_ble_eq_true rfl, Nat.le_of_ble_eq_true rfl⟩) hD hS hA (fun E ce q9 H locs h9 _ _ _ _ _ _ => nomatch h9) (fun H locs h9 hP hD hS => ?_)
      have hP : va_P (dC, dI) vwCl ([[(oa 0, .inr (11, [.ref (oa 1), .ref (oa 14), .ref (oa 27), .int c7_zv, .ref (oa 40), .ref (oa 146), .int c7_zk, .ref (oa 152), .int c7_zd, .int c7_ze, .int c7_zc]))], wX0 dA (fun k => oa (1 + k)) c7_zb, wX0 dA (fun k => oa (14 + k)) c7_zt, wX0 dA (fun k => oa (27 + k)) c7_zn, wX3 dA (fun k => oa (40 + k)) c7_zh, wX6 dA (fun k => oa (146 + k)) c7_zx, wLN dA (oa 152) ln].flatten) H := hP
      have hD : va_D A ([[(oa 0, .inr (11, [.ref (oa 1), .ref (oa 14), .ref (oa 27), .int c7_zv, .ref (oa 40), .ref (oa 146), .int c7_zk, .ref (oa 152), .int c7_zd, .int c7_ze, .int c7_zc]))], wX0 dA (fun k => oa (1 + k)) c7_zb, wX0 dA (fun k => oa (14 + k)) c7_zt, wX0 dA (fun k => oa (27 + k)) c7_zn, wX3 dA (fun k => oa (40 + k)) c7_zh, wX6 dA (fun k => oa (146 + k)) c7_zx, wLN dA (oa 152) ln].flatten) := hD
      refine lv_aload_n hx hb dX7_crush_21 rfl (lv_at hl 1 rfl) ?_
      refine va_get (D := (dC, dI)) (ci := 11) (v := .ref (oa 40)) (C := RX7) (T := TX7) (N := 11) hx hb hts in_X7 hown hK hP 0 rfl rfl 4 (by decide) (hts _ (bg _ wd_278)) (fun _ h9 => h9) rfl dX7_crush_22 ?_
      refine lv_aload_n hx hb dX7_crush_25 rfl (lv_at hl 1 rfl) ?_
      refine va_get (D := (dC, dI)) (ci := 11) (v := .ref (oa 1)) (C := RX7) (T := TX7) (N := 11) hx hb hts in_X7 hown hK hP 0 rfl rfl 0 (by decide) (hts _ (bg _ wd_274)) (fun _ h9 => h9) rfl dX7_crush_26 ?_
      obtain ⟨c10, eh9, hf⟩ := bd hf
      refine jg2_v (va_runV (As := [.ref (oa 1)]) (rest := []) ⟨hx, hb, hml, hown, hts⟩ (mt_X3_push l dC dI dA gz (fun k => oa (40 + k)) (fun k => oa (1 + k)) H.size c7_zh c7_zb c10 eh9) (cwV 1 hts (gi_v bg wd_477 wd_478 wd_479 wd_7 wd_480) rfl rfl rfl hd_X3_push ⟨Nat.le_of_ble_eq_true rfl, Nat.le_of_ble_eq_true rfl⟩) ⟨pP_blind, va_recv (ci := 7) (q0 := 0) hK (seg_P hP 4 rfl) rfl rfl, pP_pre2 hP hD hS hA hK hN hZ 4 1 rfl rfl (by decide)⟩ rfl rfl hl.1 rfl (lv_room (Nat.le_of_ble_eq_true rfl)) dX7_crush_29 ⟨Nat.le_of_ble_eq_true rfl, Nat.le_of_ble_eq_true rfl⟩) hP hD hS hA 4 1 rfl rfl (by decide) (aX3 _ _ _ _) (fun H locs hP hD hS => ?_)
      have hP : va_P (dC, dI) vwCl ([[(oa 0, .inr (11, [.ref (oa 1), .ref (oa 14), .ref (oa 27), .int c7_zv, .ref (oa 40), .ref (oa 146), .int c7_zk, .ref (oa 152), .int c7_zd, .int c7_ze, .int c7_zc]))], wX0 dA (fun k => oa (1 + k)) c7_zb, wX0 dA (fun k => oa (14 + k)) c7_zt, wX0 dA (fun k => oa (27 + k)) c7_zn, wX3 dA (fun k => oa (40 + k)) c10, wX6 dA (fun k => oa (146 + k)) c7_zx, wLN dA (oa 152) ln].flatten : va_W) H := hP
      have hD : va_D A ([[(oa 0, .inr (11, [.ref (oa 1), .ref (oa 14), .ref (oa 27), .int c7_zv, .ref (oa 40), .ref (oa 146), .int c7_zk, .ref (oa 152), .int c7_zd, .int c7_ze, .int c7_zc]))], wX0 dA (fun k => oa (1 + k)) c7_zb, wX0 dA (fun k => oa (14 + k)) c7_zt, wX0 dA (fun k => oa (27 + k)) c7_zn, wX3 dA (fun k => oa (40 + k)) c10, wX6 dA (fun k => oa (146 + k)) c7_zx, wLN dA (oa 152) ln].flatten) := hD
      refine lv_aload_n hx hb dX7_crush_32 rfl (lv_at hl 1 rfl) ?_
      refine va_get (D := (dC, dI)) (ci := 11) (v := .ref (oa 1)) (C := RX7) (T := TX7) (N := 11) hx hb hts in_X7 hown hK hP 0 rfl rfl 0 (by decide) (hts _ (bg _ wd_274)) (fun _ h9 => h9) rfl dX7_crush_33 ?_
      refine lv_iload_n hx hb dX7_crush_36 rfl (lv_at hl 2 rfl) ?_
      obtain ⟨r12, c13, eh11, hf⟩ := bP_inv hf
      refine jg1_i (va_runV (As := [.int p1]) (rest := []) ⟨hx, hb, hml, hown, hts⟩ (mt_X0_crushPat l dC dI dA gz (fun k => oa (1 + k)) H.size c7_zb p1 r12 c13 eh11) (cwV 1 hts (gi_v bg wd_791 wd_792 wd_793 wd_2 wd_794) rfl rfl rfl hd_X0_crushPat ⟨Nat.le_of_ble_eq_true rfl, Nat.le_of_ble_eq_true rfl⟩) ⟨pP_blind, va_recv (ci := 4) (q0 := 0) hK (seg_P hP 1 rfl) rfl rfl, pP_pre1 hP hD hS hA hK hN hZ 1 rfl⟩ rfl rfl hl.1 rfl (lv_room (Nat.le_of_ble_eq_true rfl)) dX7_crush_37 ⟨Nat.le_of_ble_eq_true rfl, Nat.le_of_ble_eq_true rfl⟩) hP hD hS hA 1 rfl (aX0 _ _ _ _) (fun H locs hP hD hS => ?_)
      have hP : va_P (dC, dI) vwCl ([[(oa 0, .inr (11, [.ref (oa 1), .ref (oa 14), .ref (oa 27), .int c7_zv, .ref (oa 40), .ref (oa 146), .int c7_zk, .ref (oa 152), .int c7_zd, .int c7_ze, .int c7_zc]))], wX0 dA (fun k => oa (1 + k)) c13, wX0 dA (fun k => oa (14 + k)) c7_zt, wX0 dA (fun k => oa (27 + k)) c7_zn, wX3 dA (fun k => oa (40 + k)) c10, wX6 dA (fun k => oa (146 + k)) c7_zx, wLN dA (oa 152) ln].flatten : va_W) H := hP
      have hD : va_D A ([[(oa 0, .inr (11, [.ref (oa 1), .ref (oa 14), .ref (oa 27), .int c7_zv, .ref (oa 40), .ref (oa 146), .int c7_zk, .ref (oa 152), .int c7_zd, .int c7_ze, .int c7_zc]))], wX0 dA (fun k => oa (1 + k)) c13, wX0 dA (fun k => oa (14 + k)) c7_zt, wX0 dA (fun k => oa (27 + k)) c7_zn, wX3 dA (fun k => oa (40 + k)) c10, wX6 dA (fun k => oa (146 + k)) c7_zx, wLN dA (oa 152) ln].flatten) := hD
      obtain ⟨e8, e9⟩ := Prod.mk.inj (sm hf)
      exact vx_ret (W.iret hx hb hr (fun t ht hW => ⟨⟨_, (), rfl, e8.symm, by rw [← e9, ht]; exact hP, by rw [← e9]; exact hD⟩, hS.F ht⟩) hS.2.2 dX7_crush_40)
    · obtain ⟨e8, e9⟩ := Prod.mk.inj hf
      refine jx_v (w1 := wX7 dA oa S9 ln) (vx_runV (As := [.int r2, .int 100]) (rest := []) ⟨hx, hb, hml, hown, hts⟩ (m_X7_requireAllowed l hl0 dC dI dA gz oa H.size ln c4_zb c4_zt c4_zn c4_zv c4_zh c4_zx c4_zk c4_zd c4_ze c4_zc r2 100 (.inr E9) S9 eh6) (cwV 2 hts (gi_v bg wd_449 wd_451 ws_2 wd_1 wd_452) rfl rfl rfl hd_X7_requireAllowed ⟨Nat.le_of_ble_eq_true rfl, Nat.le_of_ble_eq_true rfl⟩) ⟨pP_blind, va_recv (ci := 11) (q0 := 0) hK hP rfl rfl, pP_preW hP hD hS hA hK hN hZ⟩ rfl rfl hl.1 rfl (lv_room (Nat.le_of_ble_eq_true rfl)) dX7_crush_18 ⟨Nat.le_of_ble_eq_true rfl, Nat.le_of_ble_eq_true rfl⟩) hD hS hA (fun E ce q9 H locs h9 hP hD hS h1 h2 h3 => ?_) (fun H locs h9 _ _ _ => nomatch h9)
      cases h9
      exact vx_out (fun x9 hx9 => absurd (ht9 x9 hx9) id) hlocks h1 h2 h3 (fun t ht hvm => by rw [← e9]; exact xp e8.symm hP hD hS ht) hS.2.2 (Nat.le_of_ble_eq_true rfl) (Nat.le_of_ble_eq_true rfl)
  · obtain ⟨e8, e9⟩ := Prod.mk.inj hf
    refine jx_v (w1 := wX7 dA oa S9 ln) (vx_runV (As := [.int r2]) (rest := []) ⟨hx, hb, hml, hown, hts⟩ (m_X7_requireRightIndex l hl0 dC dI dA gz oa H.size ln zb zt zn zv zh zx zk zd ze zc r2 (.inr E9) S9 eh3) (cwV 1 hts (gi_v bg wd_928 wd_930 ws_15 wd_1 wd_931) rfl rfl rfl hd_X7_requireRightIndex ⟨Nat.le_of_ble_eq_true rfl, Nat.le_of_ble_eq_true rfl⟩) ⟨pP_blind, va_recv (ci := 11) (q0 := 0) hK hP rfl rfl, pP_preW hP hD hS hA hK hN hZ⟩ rfl rfl hl.1 rfl (lv_room (Nat.le_of_ble_eq_true rfl)) dX7_crush_11 ⟨Nat.le_of_ble_eq_true rfl, Nat.le_of_ble_eq_true rfl⟩) hD hS hA (fun E ce q9 H locs h9 hP hD hS h1 h2 h3 => ?_) (fun H locs h9 _ _ _ => nomatch h9)
    cases h9
    exact vx_out (fun x9 hx9 => absurd (ht9 x9 hx9) id) hlocks h1 h2 h3 (fun t ht hvm => by rw [← e9]; exact xp e8.symm hP hD hS ht) hS.2.2 (Nat.le_of_ble_eq_true rfl) (Nat.le_of_ble_eq_true rfl)
/-! X7_feed -/
def f_X7_feed (zb : SX0) (zt : SX0) (zn : SX0) (zv : Int32) (zh : SX3) (zx : SX6) (zk : Int32) (zd : Int32) (ze : Int32) (zc : Int32) (p1 : Int32) : Option ((Int32 ⊕ String) × SX7) :=
  (g_X6_isFull zx).bind fun r2 =>
  (if r2 = 0 then (g_X6_append zx p1).bind fun c5 =>
  some (.inl c5.2.1, (zb, zt, zn, zv, zh, c5, zk, zd, ze, zc)) else
  some (.inr "java/lang/IllegalStateException", (zb, zt, zn, zv, zh, zx, zk, zd, ze, zc)))
set_option maxRecDepth 100000 in
set_option maxHeartbeats 4000000 in
theorem m_X7_feed (l : Launch) (hl0 : l.stackTraces = false) (dC : Nat → ClassId) (dI : Nat → Nat → Nat) (dA gz : Nat → Nat) (oa : Nat → Nat) (sz : Nat) (ln : LN) (zb : SX0) (zt : SX0) (zn : SX0) (zv : Int32) (zh : SX3) (zx : SX6) (zk : Int32) (zd : Int32) (ze : Int32) (zc : Int32) (p1 : Int32) (rr : Int32 ⊕ String) (uu : SX7) (hf : f_X7_feed zb zt zn zv zh zx zk zd ze zc p1 = some (rr, uu)) : vx_Met l yX7_feed ws_X7_feed ({ frames := 18, cells := 1, slots := 6, locals := 600 } : Room) (va_Pc [.ref (oa 0), .int p1] (pP (dC, dI) dA gz (wX7 dA oa (zb, zt, zn, zv, zh, zx, zk, zd, ze, zc) ln) sz)) (va_Qi (S := Unit) (fun r' _ => rr = Sum.inl r') (fun _ t => pQ (dC, dI) (va_A (wX7 dA oa (zb, zt, zn, zv, zh, zx, zk, zd, ze, zc) ln) sz) (wX7 dA oa uu ln) t) (va_A (wX7 dA oa (zb, zt, zn, zv, zh, zx, zk, zd, ze, zc) ln) sz)) (XCx (dC, dI) (va_A (wX7 dA oa (zb, zt, zn, zv, zh, zx, zk, zd, ze, zc) ln) sz) rr (wX7 dA oa uu ln)) 1 6 (va_A (wX7 dA oa (zb, zt, zn, zv, zh, zx, zk, zd, ze, zc) ln) sz) := by
  refine vx_ofW (cc := cX7_feed) (maxL := 2) (ret := (some .int)) (by decide) rfl ?_
  intro p e s m args below meth c s₁ B hml ht9 hv
  obtain ⟨rfl, hsz, hP, hK, hD0, hN, hZ⟩ := hv
  have hx := B.exec
  have hb := B.bytes
  have hr := B.returns
  have hts := atoms_spec (ws := ws_X7_feed) B.pre
  have htb : ∀ w ∈ BIG, w.before _ s = true := fun w h => hts w (bg w h)
  have hown : s.vm.findClass RX7 = some m.cls := findClass_of_methodNamed B.named
  have hlocks := B.notSynchronized
  subst hsz
  have hD := hD0.self (sz := s.heap.size)
  generalize hAe : va_A (wX7 dA oa (zb, zt, zn, zv, zh, zx, zk, zd, ze, zc) ln) s.heap.size = A at hD hZ ⊢
  have hA : ∀ q : Nat, s.heap.size ≤ q → A q := fun q h => by rw [← hAe]; exact Or.inr h
  have hS : va_S A s.heap s.heap [] := va_S.rf
  have hP : va_P (dC, dI) vwCl ([[(oa 0, .inr (11, [.ref (oa 1), .ref (oa 14), .ref (oa 27), .int zv, .ref (oa 40), .ref (oa 146), .int zk, .ref (oa 152), .int zd, .int ze, .int zc]))], wX0 dA (fun k => oa (1 + k)) zb, wX0 dA (fun k => oa (14 + k)) zt, wX0 dA (fun k => oa (27 + k)) zn, wX3 dA (fun k => oa (40 + k)) zh, wX6 dA (fun k => oa (146 + k)) zx, wLN dA (oa 152) ln].flatten) s.heap := hP
  have hD : va_D A ([[(oa 0, .inr (11, [.ref (oa 1), .ref (oa 14), .ref (oa 27), .int zv, .ref (oa 40), .ref (oa 146), .int zk, .ref (oa 152), .int zd, .int ze, .int zc]))], wX0 dA (fun k => oa (1 + k)) zb, wX0 dA (fun k => oa (14 + k)) zt, wX0 dA (fun k => oa (27 + k)) zn, wX3 dA (fun k => oa (40 + k)) zh, wX6 dA (fun k => oa (146 + k)) zx, wLN dA (oa 152) ln].flatten) := hD
  have hl := lv_entry [.ref (oa 0), .int p1] (n := 2) (Nat.le_of_ble_eq_true rfl)
  rw [lg_entry_eq]
  generalize (lg_sl [.ref (oa 0), .int p1] ++ List.replicate (2 - (lg_sl [.ref (oa 0), .int p1]).length) Slot.unset).toArray = ls at hl ⊢
  have hl : lv_has ls 2 [(0, .ref (oa 0)), (1, .int p1)] := hl
  have in_X6 : ∀ w ∈ wsX60, w ∈ ws_X7_feed := fun w h => bg _ (inB_X6 w h)
  have in_X7 : ∀ w ∈ wsX70, w ∈ ws_X7_feed := fun w h => bg _ (inB_X7 w h)
  rw [f_X7_feed] at hf
  refine lv_aload_n hx hb dX7_feed_0 rfl (lv_at hl 0 rfl) ?_
  refine va_get (D := (dC, dI)) (ci := 11) (v := .ref (oa 146)) (C := RX7) (T := TX7) (N := 11) hx hb hts in_X7 hown hK hP 0 rfl rfl 5 (by decide) (hts _ (bg _ wd_279)) (fun _ h9 => h9) rfl dX7_feed_1 ?_
  obtain ⟨r2, eh1, hf⟩ := bd hf
  refine jgr_i (va_runV (As := []) (rest := []) ⟨hx, hb, hml, hown, hts⟩ (mt_X6_isFull l dC dI dA gz (fun k => oa (146 + k)) s.heap.size zx r2 eh1) (cwV 0 hts (gi_v bg wd_883 wd_884 wd_885 wd_8 wd_886) rfl rfl rfl hd_X6_isFull ⟨Nat.le_of_ble_eq_true rfl, Nat.le_of_ble_eq_true rfl⟩) ⟨pP_blind, va_recv (ci := 10) (q0 := 0) hK (seg_P hP 5 rfl) rfl rfl, pP_pre1 hP hD hS hA hK hN hZ 5 rfl⟩ rfl rfl hl.1 rfl (lv_room (Nat.le_of_ble_eq_true rfl)) dX7_feed_4 ⟨Nat.le_of_ble_eq_true rfl, Nat.le_of_ble_eq_true rfl⟩) hP hD hS hA 5 rfl (fun H locs hP hS => ?_)
  refine lv_if_eq (tgt := 21) hx hb dX7_feed_7 (by decide) (fun q3 => ?_) (fun q3 => ?_)
  · have hf := it q3 hf
    refine lv_aload_n hx hb dX7_feed_21 rfl (lv_at hl 0 rfl) ?_
    refine va_get (D := (dC, dI)) (ci := 11) (v := .ref (oa 146)) (C := RX7) (T := TX7) (N := 11) hx hb hts in_X7 hown hK hP 0 rfl rfl 5 (by decide) (hts _ (bg _ wd_279)) (fun _ h9 => h9) rfl dX7_feed_22 ?_
    refine lv_iload_n hx hb dX7_feed_25 rfl (lv_at hl 1 rfl) ?_
    obtain ⟨c5, eh4, hf⟩ := bd hf
    refine jg1_v (va_runV (As := [.int p1]) (rest := []) ⟨hx, hb, hml, hown, hts⟩ (mt_X6_append l dC dI dA gz (fun k => oa (146 + k)) H.size zx p1 c5 eh4) (cwV 1 hts (gi_v bg wd_888 wd_889 wd_890 wd_8 wd_891) rfl rfl rfl hd_X6_append ⟨Nat.le_of_ble_eq_true rfl, Nat.le_of_ble_eq_true rfl⟩) ⟨pP_blind, va_recv (ci := 10) (q0 := 0) hK (seg_P hP 5 rfl) rfl rfl, pP_pre1 hP hD hS hA hK hN hZ 5 rfl⟩ rfl rfl hl.1 rfl (lv_room (Nat.le_of_ble_eq_true rfl)) dX7_feed_26 ⟨Nat.le_of_ble_eq_true rfl, Nat.le_of_ble_eq_true rfl⟩) hP hD hS hA 5 rfl (aX6 _ _ _ _) (fun H locs hP hD hS => ?_)
    have hP : va_P (dC, dI) vwCl ([[(oa 0, .inr (11, [.ref (oa 1), .ref (oa 14), .ref (oa 27), .int zv, .ref (oa 40), .ref (oa 146), .int zk, .ref (oa 152), .int zd, .int ze, .int zc]))], wX0 dA (fun k => oa (1 + k)) zb, wX0 dA (fun k => oa (14 + k)) zt, wX0 dA (fun k => oa (27 + k)) zn, wX3 dA (fun k => oa (40 + k)) zh, wX6 dA (fun k => oa (146 + k)) c5, wLN dA (oa 152) ln].flatten : va_W) H := hP
    have hD : va_D A ([[(oa 0, .inr (11, [.ref (oa 1), .ref (oa 14), .ref (oa 27), .int zv, .ref (oa 40), .ref (oa 146), .int zk, .ref (oa 152), .int zd, .int ze, .int zc]))], wX0 dA (fun k => oa (1 + k)) zb, wX0 dA (fun k => oa (14 + k)) zt, wX0 dA (fun k => oa (27 + k)) zn, wX3 dA (fun k => oa (40 + k)) zh, wX6 dA (fun k => oa (146 + k)) c5, wLN dA (oa 152) ln].flatten) := hD
    refine lv_aload_n hx hb dX7_feed_29 rfl (lv_at hl 0 rfl) ?_
    refine va_get (D := (dC, dI)) (ci := 11) (v := .ref (oa 146)) (C := RX7) (T := TX7) (N := 11) hx hb hts in_X7 hown hK hP 0 rfl rfl 5 (by decide) (hts _ (bg _ wd_279)) (fun _ h9 => h9) rfl dX7_feed_30 ?_
    refine va_get (D := (dC, dI)) (ci := 10) (v := .int c5.2.1) (C := RX6) (T := TX6) (N := 8) hx hb hts in_X6 hown hK hP 146 rfl rfl 1 (by decide) (hts _ (bg _ wd_211)) (fun _ h9 => h9) rfl dX7_feed_33 ?_
    obtain ⟨e8, e9⟩ := Prod.mk.inj (sm hf)
    refine W.widen (k := 1) (n := 6) (Nat.le_of_ble_eq_true rfl) (Nat.le_of_ble_eq_true rfl) ?_
    exact vx_ret (W.iret hx hb hr (fun t ht hW => ⟨⟨_, (), rfl, e8.symm, by rw [← e9, ht]; exact hP, by rw [← e9]; exact hD⟩, hS.F ht⟩) hS.2.2 dX7_feed_36)
  · have hf := ie q3 hf
    obtain ⟨e8, e9⟩ := Prod.mk.inj (sm hf)
    exact vx_throwSW hx hb hl0 hown (cls := "java/lang/IllegalStateException") (text := "the text buffer is full") (names := xn) (ik := 272) (is := 274) (ic := 276) (by decide) xn_fit (hts _ (bg _ wd_839)) (hts _ (bg _ wd_25)) (hZ.1 17 (by decide)).1 (th_276 htb hN) tg_276 hZ.2.2.2.2.2.1 hZ.2.2.2.2.2.2.1 hS (hl.1.trans hml.symm) dX7_feed_10 dX7_feed_13 dX7_feed_14 dX7_feed_17 dX7_feed_20 (fun x9 hx9 => absurd (ht9 x9 hx9) id) (Nat.le_of_ble_eq_true rfl) (Nat.le_of_ble_eq_true rfl) (Nat.le_of_ble_eq_true rfl) (Nat.le_of_ble_eq_true rfl) hlocks (fun t hvm hz9 hq9 => by rw [← e9]; exact xq e8.symm hP hD hS hz9 hq9) hS.2.2 (Nat.le_of_ble_eq_true rfl) (Nat.le_of_ble_eq_true rfl)
/-! X7_undo -/
def f_X7_undo (zb : SX0) (zt : SX0) (zn : SX0) (zv : Int32) (zh : SX3) (zx : SX6) (zk : Int32) (zd : Int32) (ze : Int32) (zc : Int32) : Option ((Int32 ⊕ String) × SX7) :=
  (if zh.2.1 = 0 then some (.inr "java/lang/IllegalStateException", (zb, zt, zn, zv, zh, zx, zk, zd, ze, zc)) else
  bP (g_X3_pop zh zb) fun c3 c4 =>
  some (.inl c3.2.1, (c4, zt, zn, zv, c3, zx, zk, zd, ze, zc)))
set_option maxRecDepth 100000 in
set_option maxHeartbeats 4000000 in
theorem m_X7_undo (l : Launch) (hl0 : l.stackTraces = false) (dC : Nat → ClassId) (dI : Nat → Nat → Nat) (dA gz : Nat → Nat) (oa : Nat → Nat) (sz : Nat) (ln : LN) (zb : SX0) (zt : SX0) (zn : SX0) (zv : Int32) (zh : SX3) (zx : SX6) (zk : Int32) (zd : Int32) (ze : Int32) (zc : Int32) (rr : Int32 ⊕ String) (uu : SX7) (hf : f_X7_undo zb zt zn zv zh zx zk zd ze zc = some (rr, uu)) : vx_Met l yX7_undo ws_X7_undo ({ frames := 34, cells := 1, slots := 6, locals := 1400 } : Room) (va_Pc [.ref (oa 0)] (pP (dC, dI) dA gz (wX7 dA oa (zb, zt, zn, zv, zh, zx, zk, zd, ze, zc) ln) sz)) (va_Qi (S := Unit) (fun r' _ => rr = Sum.inl r') (fun _ t => pQ (dC, dI) (va_A (wX7 dA oa (zb, zt, zn, zv, zh, zx, zk, zd, ze, zc) ln) sz) (wX7 dA oa uu ln) t) (va_A (wX7 dA oa (zb, zt, zn, zv, zh, zx, zk, zd, ze, zc) ln) sz)) (XCx (dC, dI) (va_A (wX7 dA oa (zb, zt, zn, zv, zh, zx, zk, zd, ze, zc) ln) sz) rr (wX7 dA oa uu ln)) 1 6 (va_A (wX7 dA oa (zb, zt, zn, zv, zh, zx, zk, zd, ze, zc) ln) sz) := by
  refine vx_ofW (cc := cX7_undo) (maxL := 1) (ret := (some .int)) (by decide) rfl ?_
  intro p e s m args below meth c s₁ B hml ht9 hv
  obtain ⟨rfl, hsz, hP, hK, hD0, hN, hZ⟩ := hv
  have hx := B.exec
  have hb := B.bytes
  have hr := B.returns
  have hts := atoms_spec (ws := ws_X7_undo) B.pre
  have htb : ∀ w ∈ BIG, w.before _ s = true := fun w h => hts w (bg w h)
  have hown : s.vm.findClass RX7 = some m.cls := findClass_of_methodNamed B.named
  have hlocks := B.notSynchronized
  subst hsz
  have hD := hD0.self (sz := s.heap.size)
  generalize hAe : va_A (wX7 dA oa (zb, zt, zn, zv, zh, zx, zk, zd, ze, zc) ln) s.heap.size = A at hD hZ ⊢
  have hA : ∀ q : Nat, s.heap.size ≤ q → A q := fun q h => by rw [← hAe]; exact Or.inr h
  have hS : va_S A s.heap s.heap [] := va_S.rf
  have hP : va_P (dC, dI) vwCl ([[(oa 0, .inr (11, [.ref (oa 1), .ref (oa 14), .ref (oa 27), .int zv, .ref (oa 40), .ref (oa 146), .int zk, .ref (oa 152), .int zd, .int ze, .int zc]))], wX0 dA (fun k => oa (1 + k)) zb, wX0 dA (fun k => oa (14 + k)) zt, wX0 dA (fun k => oa (27 + k)) zn, wX3 dA (fun k => oa (40 + k)) zh, wX6 dA (fun k => oa (146 + k)) zx, wLN dA (oa 152) ln].flatten) s.heap := hP
  have hD : va_D A ([[(oa 0, .inr (11, [.ref (oa 1), .ref (oa 14), .ref (oa 27), .int zv, .ref (oa 40), .ref (oa 146), .int zk, .ref (oa 152), .int zd, .int ze, .int zc]))], wX0 dA (fun k => oa (1 + k)) zb, wX0 dA (fun k => oa (14 + k)) zt, wX0 dA (fun k => oa (27 + k)) zn, wX3 dA (fun k => oa (40 + k)) zh, wX6 dA (fun k => oa (146 + k)) zx, wLN dA (oa 152) ln].flatten) := hD
  have hl := lv_entry [.ref (oa 0)] (n := 1) (Nat.le_of_ble_eq_true rfl)
  rw [lg_entry_eq]
  generalize (lg_sl [.ref (oa 0)] ++ List.replicate (1 - (lg_sl [.ref (oa 0)]).length) Slot.unset).toArray = ls at hl ⊢
  have hl : lv_has ls 1 [(0, .ref (oa 0))] := hl
  have in_X3 : ∀ w ∈ wsX30, w ∈ ws_X7_undo := fun w h => bg _ (inB_X3 w h)
  have in_X7 : ∀ w ∈ wsX70, w ∈ ws_X7_undo := fun w h => bg _ (inB_X7 w h)
  rw [f_X7_undo] at hf
  refine lv_aload_n hx hb dX7_undo_0 rfl (lv_at hl 0 rfl) ?_
  refine va_get (D := (dC, dI)) (ci := 11) (v := .ref (oa 40)) (C := RX7) (T := TX7) (N := 11) hx hb hts in_X7 hown hK hP 0 rfl rfl 4 (by decide) (hts _ (bg _ wd_278)) (fun _ h9 => h9) rfl dX7_undo_1 ?_
  refine va_get (D := (dC, dI)) (ci := 7) (v := .int zh.2.1) (C := RX3) (T := TX3) (N := 3) hx hb hts in_X3 hown hK hP 40 rfl rfl 2 (by decide) (hts _ (bg _ wd_195)) (fun _ h9 => h9) rfl dX7_undo_4 ?_
  refine lv_if_ne (tgt := 21) hx hb dX7_undo_7 (by decide) (fun q1 => ?_) (fun q1 => ?_)
  · have hf := ie q1 hf
    refine lv_aload_n hx hb dX7_undo_21 rfl (lv_at hl 0 rfl) ?_
    refine va_get (D := (dC, dI)) (ci := 11) (v := .ref (oa 40)) (C := RX7) (T := TX7) (N := 11) hx hb hts in_X7 hown hK hP 0 rfl rfl 4 (by decide) (hts _ (bg _ wd_278)) (fun _ h9 => h9) rfl dX7_undo_22 ?_
    refine lv_aload_n hx hb dX7_undo_25 rfl (lv_at hl 0 rfl) ?_
    refine va_get (D := (dC, dI)) (ci := 11) (v := .ref (oa 1)) (C := RX7) (T := TX7) (N := 11) hx hb hts in_X7 hown hK hP 0 rfl rfl 0 (by decide) (hts _ (bg _ wd_274)) (fun _ h9 => h9) rfl dX7_undo_26 ?_
    obtain ⟨c3, c4, eh2, hf⟩ := bP_inv hf
    refine jg3_v (va_runV (As := [.ref (oa 1)]) (rest := []) ⟨hx, hb, hml, hown, hts⟩ (mt_X3_pop l dC dI dA gz (fun k => oa (40 + k)) (fun k => oa (1 + k)) s.heap.size zh zb c3 c4 eh2) (cwV 1 hts (gi_v bg wd_855 wd_856 wd_857 wd_7 wd_858) rfl rfl rfl hd_X3_pop ⟨Nat.le_of_ble_eq_true rfl, Nat.le_of_ble_eq_true rfl⟩) ⟨pP_blind, va_recv (ci := 7) (q0 := 0) hK (seg_P hP 4 rfl) rfl rfl, pP_pre2 hP hD hS hA hK hN hZ 4 1 rfl rfl (by decide)⟩ rfl rfl hl.1 rfl (lv_room (Nat.le_of_ble_eq_true rfl)) dX7_undo_29 ⟨Nat.le_of_ble_eq_true rfl, Nat.le_of_ble_eq_true rfl⟩) hP hD hS hA 4 1 rfl rfl (by decide) (aX3 _ _ _ _) (aX0 _ _ _ _) (fun H locs hP hD hS => ?_)
    have hP : va_P (dC, dI) vwCl ([[(oa 0, .inr (11, [.ref (oa 1), .ref (oa 14), .ref (oa 27), .int zv, .ref (oa 40), .ref (oa 146), .int zk, .ref (oa 152), .int zd, .int ze, .int zc]))], wX0 dA (fun k => oa (1 + k)) c4, wX0 dA (fun k => oa (14 + k)) zt, wX0 dA (fun k => oa (27 + k)) zn, wX3 dA (fun k => oa (40 + k)) c3, wX6 dA (fun k => oa (146 + k)) zx, wLN dA (oa 152) ln].flatten : va_W) H := hP
    have hD : va_D A ([[(oa 0, .inr (11, [.ref (oa 1), .ref (oa 14), .ref (oa 27), .int zv, .ref (oa 40), .ref (oa 146), .int zk, .ref (oa 152), .int zd, .int ze, .int zc]))], wX0 dA (fun k => oa (1 + k)) c4, wX0 dA (fun k => oa (14 + k)) zt, wX0 dA (fun k => oa (27 + k)) zn, wX3 dA (fun k => oa (40 + k)) c3, wX6 dA (fun k => oa (146 + k)) zx, wLN dA (oa 152) ln].flatten) := hD
    refine lv_aload_n hx hb dX7_undo_32 rfl (lv_at hl 0 rfl) ?_
    refine va_get (D := (dC, dI)) (ci := 11) (v := .ref (oa 40)) (C := RX7) (T := TX7) (N := 11) hx hb hts in_X7 hown hK hP 0 rfl rfl 4 (by decide) (hts _ (bg _ wd_278)) (fun _ h9 => h9) rfl dX7_undo_33 ?_
    refine va_get (D := (dC, dI)) (ci := 7) (v := .int c3.2.1) (C := RX3) (T := TX3) (N := 3) hx hb hts in_X3 hown hK hP 40 rfl rfl 2 (by decide) (hts _ (bg _ wd_195)) (fun _ h9 => h9) rfl dX7_undo_36 ?_
    obtain ⟨e8, e9⟩ := Prod.mk.inj (sm hf)
    refine W.widen (k := 1) (n := 6) (Nat.le_of_ble_eq_true rfl) (Nat.le_of_ble_eq_true rfl) ?_
    exact vx_ret (W.iret hx hb hr (fun t ht hW => ⟨⟨_, (), rfl, e8.symm, by rw [← e9, ht]; exact hP, by rw [← e9]; exact hD⟩, hS.F ht⟩) hS.2.2 dX7_undo_39)
  · have hf := it q1 hf
    obtain ⟨e8, e9⟩ := Prod.mk.inj (sm hf)
    exact vx_throwSW hx hb hl0 hown (cls := "java/lang/IllegalStateException") (text := "there is no change to undo") (names := xn) (ik := 272) (is := 355) (ic := 276) (by decide) xn_fit (hts _ (bg _ wd_839)) (hts _ (bg _ wd_25)) (hZ.1 15 (by decide)).1 (th_276 htb hN) tg_276 hZ.2.2.2.2.2.1 hZ.2.2.2.2.2.2.1 hS (hl.1.trans hml.symm) dX7_undo_10 dX7_undo_13 dX7_undo_14 dX7_undo_17 dX7_undo_20 (fun x9 hx9 => absurd (ht9 x9 hx9) id) (Nat.le_of_ble_eq_true rfl) (Nat.le_of_ble_eq_true rfl) (Nat.le_of_ble_eq_true rfl) (Nat.le_of_ble_eq_true rfl) hlocks (fun t hvm hz9 hq9 => by rw [← e9]; exact xq e8.symm hP hD hS hz9 hq9) hS.2.2 (Nat.le_of_ble_eq_true rfl) (Nat.le_of_ble_eq_true rfl)
/-! X7_saveSnapshot -/
def f_X7_saveSnapshot (zb : SX0) (zt : SX0) (zn : SX0) (zv : Int32) (zh : SX3) (zx : SX6) (zk : Int32) (zd : Int32) (ze : Int32) (zc : Int32) : Option (Int32 × SX7) :=
  (g_X0_copyFrom zn zb).bind fun c2 =>
  some (zb.2.2.1.2.2.2.2, (zb, zt, c2, 1, zh, zx, zk, zd, ze, zc))
set_option maxRecDepth 100000 in
set_option maxHeartbeats 4000000 in
theorem m_X7_saveSnapshot (l : Launch) (dC : Nat → ClassId) (dI : Nat → Nat → Nat) (dA gz : Nat → Nat) (oa : Nat → Nat) (sz : Nat) (ln : LN) (zb : SX0) (zt : SX0) (zn : SX0) (zv : Int32) (zh : SX3) (zx : SX6) (zk : Int32) (zd : Int32) (ze : Int32) (zc : Int32) (rr : Int32) (uu : SX7) (hf : f_X7_saveSnapshot zb zt zn zv zh zx zk zd ze zc = some (rr, uu)) : Met l yX7_saveSnapshot ws_X7_saveSnapshot ({ frames := 18, cells := 0, slots := 0, locals := 600 } : Room) (va_Pc [.ref (oa 0)] (pP (dC, dI) dA gz (wX7 dA oa (zb, zt, zn, zv, zh, zx, zk, zd, ze, zc) ln) sz)) (va_Qi (S := Unit) (fun r' _ => r' = rr) (fun _ t => pQ (dC, dI) (va_A (wX7 dA oa (zb, zt, zn, zv, zh, zx, zk, zd, ze, zc) ln) sz) (wX7 dA oa uu ln) t) (va_A (wX7 dA oa (zb, zt, zn, zv, zh, zx, zk, zd, ze, zc) ln) sz)) 0 0 (va_A (wX7 dA oa (zb, zt, zn, zv, zh, zx, zk, zd, ze, zc) ln) sz) := by
  refine Met.ofW (cc := cX7_saveSnapshot) (maxL := 1) (ret := (some .int)) (by decide) rfl ?_
  intro p e s m args below meth c s₁ B hml hv
  obtain ⟨rfl, hsz, hP, hK, hD0, hN, hZ⟩ := hv
  have hx := B.exec
  have hb := B.bytes
  have hr := B.returns
  have hts := atoms_spec (ws := ws_X7_saveSnapshot) B.pre
  have htb : ∀ w ∈ BIG, w.before _ s = true := fun w h => hts w (bg w h)
  have hown : s.vm.findClass RX7 = some m.cls := findClass_of_methodNamed B.named
  have hlocks := B.notSynchronized
  subst hsz
  have hD := hD0.self (sz := s.heap.size)
  generalize hAe : va_A (wX7 dA oa (zb, zt, zn, zv, zh, zx, zk, zd, ze, zc) ln) s.heap.size = A at hD hZ ⊢
  have hA : ∀ q : Nat, s.heap.size ≤ q → A q := fun q h => by rw [← hAe]; exact Or.inr h
  have hS : va_S A s.heap s.heap [] := va_S.rf
  have hP : va_P (dC, dI) vwCl ([[(oa 0, .inr (11, [.ref (oa 1), .ref (oa 14), .ref (oa 27), .int zv, .ref (oa 40), .ref (oa 146), .int zk, .ref (oa 152), .int zd, .int ze, .int zc]))], wX0 dA (fun k => oa (1 + k)) zb, wX0 dA (fun k => oa (14 + k)) zt, wX0 dA (fun k => oa (27 + k)) zn, wX3 dA (fun k => oa (40 + k)) zh, wX6 dA (fun k => oa (146 + k)) zx, wLN dA (oa 152) ln].flatten) s.heap := hP
  have hD : va_D A ([[(oa 0, .inr (11, [.ref (oa 1), .ref (oa 14), .ref (oa 27), .int zv, .ref (oa 40), .ref (oa 146), .int zk, .ref (oa 152), .int zd, .int ze, .int zc]))], wX0 dA (fun k => oa (1 + k)) zb, wX0 dA (fun k => oa (14 + k)) zt, wX0 dA (fun k => oa (27 + k)) zn, wX3 dA (fun k => oa (40 + k)) zh, wX6 dA (fun k => oa (146 + k)) zx, wLN dA (oa 152) ln].flatten) := hD
  have hl := lv_entry [.ref (oa 0)] (n := 1) (Nat.le_of_ble_eq_true rfl)
  rw [lg_entry_eq]
  generalize (lg_sl [.ref (oa 0)] ++ List.replicate (1 - (lg_sl [.ref (oa 0)]).length) Slot.unset).toArray = ls at hl ⊢
  have hl : lv_has ls 1 [(0, .ref (oa 0))] := hl
  have in_X0 : ∀ w ∈ wsX00, w ∈ ws_X7_saveSnapshot := fun w h => bg _ (inB_X0 w h)
  have in_X4 : ∀ w ∈ wsX40, w ∈ ws_X7_saveSnapshot := fun w h => bg _ (inB_X4 w h)
  have in_X7 : ∀ w ∈ wsX70, w ∈ ws_X7_saveSnapshot := fun w h => bg _ (inB_X7 w h)
  rw [f_X7_saveSnapshot] at hf
  refine lv_aload_n hx hb dX7_saveSnapshot_0 rfl (lv_at hl 0 rfl) ?_
  refine va_get (D := (dC, dI)) (ci := 11) (v := .ref (oa 27)) (C := RX7) (T := TX7) (N := 11) hx hb hts in_X7 hown hK hP 0 rfl rfl 2 (by decide) (hts _ (bg _ wd_276)) (fun _ h9 => h9) rfl dX7_saveSnapshot_1 ?_
  refine lv_aload_n hx hb dX7_saveSnapshot_4 rfl (lv_at hl 0 rfl) ?_
  refine va_get (D := (dC, dI)) (ci := 11) (v := .ref (oa 1)) (C := RX7) (T := TX7) (N := 11) hx hb hts in_X7 hown hK hP 0 rfl rfl 0 (by decide) (hts _ (bg _ wd_274)) (fun _ h9 => h9) rfl dX7_saveSnapshot_5 ?_
  obtain ⟨c2, eh1, hf⟩ := bd hf
  refine jg2_v (va_runV (As := [.ref (oa 1)]) (rest := []) ⟨hx, hb, hml, hown, hts⟩ (mt_X0_copyFrom l dC dI dA gz (fun k => oa (27 + k)) (fun k => oa (1 + k)) s.heap.size zn zb c2 eh1) (cwV 1 hts (gi_v bg wd_316 wd_317 wd_318 wd_2 wd_319) rfl rfl rfl hd_X0_copyFrom ⟨Nat.le_of_ble_eq_true rfl, Nat.le_of_ble_eq_true rfl⟩) ⟨pP_blind, va_recv (ci := 4) (q0 := 0) hK (seg_P hP 3 rfl) rfl rfl, pP_pre2 hP hD hS hA hK hN hZ 3 1 rfl rfl (by decide)⟩ rfl rfl hl.1 rfl (lv_room (Nat.le_of_ble_eq_true rfl)) dX7_saveSnapshot_8 ⟨Nat.le_of_ble_eq_true rfl, Nat.le_of_ble_eq_true rfl⟩) hP hD hS hA 3 1 rfl rfl (by decide) (aX0 _ _ _ _) (fun H locs hP hD hS => ?_)
  have hP : va_P (dC, dI) vwCl ([[(oa 0, .inr (11, [.ref (oa 1), .ref (oa 14), .ref (oa 27), .int zv, .ref (oa 40), .ref (oa 146), .int zk, .ref (oa 152), .int zd, .int ze, .int zc]))], wX0 dA (fun k => oa (1 + k)) zb, wX0 dA (fun k => oa (14 + k)) zt, wX0 dA (fun k => oa (27 + k)) c2, wX3 dA (fun k => oa (40 + k)) zh, wX6 dA (fun k => oa (146 + k)) zx, wLN dA (oa 152) ln].flatten : va_W) H := hP
  have hD : va_D A ([[(oa 0, .inr (11, [.ref (oa 1), .ref (oa 14), .ref (oa 27), .int zv, .ref (oa 40), .ref (oa 146), .int zk, .ref (oa 152), .int zd, .int ze, .int zc]))], wX0 dA (fun k => oa (1 + k)) zb, wX0 dA (fun k => oa (14 + k)) zt, wX0 dA (fun k => oa (27 + k)) c2, wX3 dA (fun k => oa (40 + k)) zh, wX6 dA (fun k => oa (146 + k)) zx, wLN dA (oa 152) ln].flatten) := hD
  refine lv_aload_n hx hb dX7_saveSnapshot_11 rfl (lv_at hl 0 rfl) ?_
  refine lv_iconst (v := 1) hx hb dX7_saveSnapshot_12 (by decide) ?_
  refine va_put (D := (dC, dI)) (ci := 11) (v := .int 1) (ty := .boolean) (C := RX7) (T := TX7) (N := 11) hx hb hts in_X7 tyX7 tyX7_ok nmX7 hown hK hP hD hS 0 rfl rfl 3 (by decide) (hts _ (bg _ wd_277)) (fun _ h9 => h9) rfl (by decide +kernel) rfl rfl (Nat.le_of_ble_eq_true rfl) dX7_saveSnapshot_13 (fun H locs hP hD hS => ?_)
  have hP : va_P (dC, dI) vwCl ([[(oa 0, .inr (11, [.ref (oa 1), .ref (oa 14), .ref (oa 27), .int 1, .ref (oa 40), .ref (oa 146), .int zk, .ref (oa 152), .int zd, .int ze, .int zc]))], wX0 dA (fun k => oa (1 + k)) zb, wX0 dA (fun k => oa (14 + k)) zt, wX0 dA (fun k => oa (27 + k)) c2, wX3 dA (fun k => oa (40 + k)) zh, wX6 dA (fun k => oa (146 + k)) zx, wLN dA (oa 152) ln].flatten : va_W) H := hP
  have hD : va_D A ([[(oa 0, .inr (11, [.ref (oa 1), .ref (oa 14), .ref (oa 27), .int 1, .ref (oa 40), .ref (oa 146), .int zk, .ref (oa 152), .int zd, .int ze, .int zc]))], wX0 dA (fun k => oa (1 + k)) zb, wX0 dA (fun k => oa (14 + k)) zt, wX0 dA (fun k => oa (27 + k)) c2, wX3 dA (fun k => oa (40 + k)) zh, wX6 dA (fun k => oa (146 + k)) zx, wLN dA (oa 152) ln].flatten) := hD
  refine lv_aload_n hx hb dX7_saveSnapshot_16 rfl (lv_at hl 0 rfl) ?_
  refine va_get (D := (dC, dI)) (ci := 11) (v := .ref (oa 1)) (C := RX7) (T := TX7) (N := 11) hx hb hts in_X7 hown hK hP 0 rfl rfl 0 (by decide) (hts _ (bg _ wd_274)) (fun _ h9 => h9) rfl dX7_saveSnapshot_17 ?_
  refine va_get (D := (dC, dI)) (ci := 4) (v := .ref (oa 7)) (C := RX0) (T := TX0) (N := 4) hx hb hts in_X0 hown hK hP 1 rfl rfl 2 (by decide) (hts _ (bg _ wd_171)) (fun _ h9 => h9) rfl dX7_saveSnapshot_20 ?_
  refine va_get (D := (dC, dI)) (ci := 8) (v := .int zb.2.2.1.2.2.2.2) (C := RX4) (T := TX4) (N := 5) hx hb hts in_X4 hown hK hP 7 rfl rfl 4 (by decide) (hts _ (bg _ wd_129)) (fun _ h9 => h9) rfl dX7_saveSnapshot_23 ?_
  obtain ⟨e8, e9⟩ := Prod.mk.inj (sm hf)
  exact W.iret hx hb hr (fun t ht hW => ⟨⟨_, (), rfl, e8, by rw [← e9, ht]; exact hP, by rw [← e9]; exact hD⟩, hS.F ht⟩) hS.2.2 dX7_saveSnapshot_26
/-! X7_restoreSnapshot -/
def f_X7_restoreSnapshot (zb : SX0) (zt : SX0) (zn : SX0) (zv : Int32) (zh : SX3) (zx : SX6) (zk : Int32) (zd : Int32) (ze : Int32) (zc : Int32) : Option ((Int32 ⊕ String) × SX7) :=
  (if zv = 0 then some (.inr "java/lang/IllegalStateException", (zb, zt, zn, zv, zh, zx, zk, zd, ze, zc)) else
  (g_X0_copyFrom zb zn).bind fun c3 =>
  (g_X3_forgetAll zh).bind fun c5 =>
  some (.inl c3.2.2.1.2.2.2.2, (c3, zt, zn, zv, c5, zx, zk, zd, ze, zc)))
set_option maxRecDepth 100000 in
set_option maxHeartbeats 4000000 in
theorem m_X7_restoreSnapshot (l : Launch) (hl0 : l.stackTraces = false) (dC : Nat → ClassId) (dI : Nat → Nat → Nat) (dA gz : Nat → Nat) (oa : Nat → Nat) (sz : Nat) (ln : LN) (zb : SX0) (zt : SX0) (zn : SX0) (zv : Int32) (zh : SX3) (zx : SX6) (zk : Int32) (zd : Int32) (ze : Int32) (zc : Int32) (rr : Int32 ⊕ String) (uu : SX7) (hf : f_X7_restoreSnapshot zb zt zn zv zh zx zk zd ze zc = some (rr, uu)) : vx_Met l yX7_restoreSnapshot ws_X7_restoreSnapshot ({ frames := 34, cells := 1, slots := 6, locals := 1400 } : Room) (va_Pc [.ref (oa 0)] (pP (dC, dI) dA gz (wX7 dA oa (zb, zt, zn, zv, zh, zx, zk, zd, ze, zc) ln) sz)) (va_Qi (S := Unit) (fun r' _ => rr = Sum.inl r') (fun _ t => pQ (dC, dI) (va_A (wX7 dA oa (zb, zt, zn, zv, zh, zx, zk, zd, ze, zc) ln) sz) (wX7 dA oa uu ln) t) (va_A (wX7 dA oa (zb, zt, zn, zv, zh, zx, zk, zd, ze, zc) ln) sz)) (XCx (dC, dI) (va_A (wX7 dA oa (zb, zt, zn, zv, zh, zx, zk, zd, ze, zc) ln) sz) rr (wX7 dA oa uu ln)) 1 6 (va_A (wX7 dA oa (zb, zt, zn, zv, zh, zx, zk, zd, ze, zc) ln) sz) := by
  refine vx_ofW (cc := cX7_restoreSnapshot) (maxL := 1) (ret := (some .int)) (by decide) rfl ?_
  intro p e s m args below meth c s₁ B hml ht9 hv
  obtain ⟨rfl, hsz, hP, hK, hD0, hN, hZ⟩ := hv
  have hx := B.exec
  have hb := B.bytes
  have hr := B.returns
  have hts := atoms_spec (ws := ws_X7_restoreSnapshot) B.pre
  have htb : ∀ w ∈ BIG, w.before _ s = true := fun w h => hts w (bg w h)
  have hown : s.vm.findClass RX7 = some m.cls := findClass_of_methodNamed B.named
  have hlocks := B.notSynchronized
  subst hsz
  have hD := hD0.self (sz := s.heap.size)
  generalize hAe : va_A (wX7 dA oa (zb, zt, zn, zv, zh, zx, zk, zd, ze, zc) ln) s.heap.size = A at hD hZ ⊢
  have hA : ∀ q : Nat, s.heap.size ≤ q → A q := fun q h => by rw [← hAe]; exact Or.inr h
  have hS : va_S A s.heap s.heap [] := va_S.rf
  have hP : va_P (dC, dI) vwCl ([[(oa 0, .inr (11, [.ref (oa 1), .ref (oa 14), .ref (oa 27), .int zv, .ref (oa 40), .ref (oa 146), .int zk, .ref (oa 152), .int zd, .int ze, .int zc]))], wX0 dA (fun k => oa (1 + k)) zb, wX0 dA (fun k => oa (14 + k)) zt, wX0 dA (fun k => oa (27 + k)) zn, wX3 dA (fun k => oa (40 + k)) zh, wX6 dA (fun k => oa (146 + k)) zx, wLN dA (oa 152) ln].flatten) s.heap := hP
  have hD : va_D A ([[(oa 0, .inr (11, [.ref (oa 1), .ref (oa 14), .ref (oa 27), .int zv, .ref (oa 40), .ref (oa 146), .int zk, .ref (oa 152), .int zd, .int ze, .int zc]))], wX0 dA (fun k => oa (1 + k)) zb, wX0 dA (fun k => oa (14 + k)) zt, wX0 dA (fun k => oa (27 + k)) zn, wX3 dA (fun k => oa (40 + k)) zh, wX6 dA (fun k => oa (146 + k)) zx, wLN dA (oa 152) ln].flatten) := hD
  have hl := lv_entry [.ref (oa 0)] (n := 1) (Nat.le_of_ble_eq_true rfl)
  rw [lg_entry_eq]
  generalize (lg_sl [.ref (oa 0)] ++ List.replicate (1 - (lg_sl [.ref (oa 0)]).length) Slot.unset).toArray = ls at hl ⊢
  have hl : lv_has ls 1 [(0, .ref (oa 0))] := hl
  have in_X0 : ∀ w ∈ wsX00, w ∈ ws_X7_restoreSnapshot := fun w h => bg _ (inB_X0 w h)
  have in_X4 : ∀ w ∈ wsX40, w ∈ ws_X7_restoreSnapshot := fun w h => bg _ (inB_X4 w h)
  have in_X7 : ∀ w ∈ wsX70, w ∈ ws_X7_restoreSnapshot := fun w h => bg _ (inB_X7 w h)
  rw [f_X7_restoreSnapshot] at hf
  refine lv_aload_n hx hb dX7_restoreSnapshot_0 rfl (lv_at hl 0 rfl) ?_
  refine va_get (D := (dC, dI)) (ci := 11) (v := .int zv) (C := RX7) (T := TX7) (N := 11) hx hb hts in_X7 hown hK hP 0 rfl rfl 3 (by decide) (hts _ (bg _ wd_277)) (fun _ h9 => h9) rfl dX7_restoreSnapshot_1 ?_
  refine lv_if_ne (tgt := 18) hx hb dX7_restoreSnapshot_4 (by decide) (fun q1 => ?_) (fun q1 => ?_)
  · have hf := ie q1 hf
    refine lv_aload_n hx hb dX7_restoreSnapshot_18 rfl (lv_at hl 0 rfl) ?_
    refine va_get (D := (dC, dI)) (ci := 11) (v := .ref (oa 1)) (C := RX7) (T := TX7) (N := 11) hx hb hts in_X7 hown hK hP 0 rfl rfl 0 (by decide) (hts _ (bg _ wd_274)) (fun _ h9 => h9) rfl dX7_restoreSnapshot_19 ?_
    refine lv_aload_n hx hb dX7_restoreSnapshot_22 rfl (lv_at hl 0 rfl) ?_
    refine va_get (D := (dC, dI)) (ci := 11) (v := .ref (oa 27)) (C := RX7) (T := TX7) (N := 11) hx hb hts in_X7 hown hK hP 0 rfl rfl 2 (by decide) (hts _ (bg _ wd_276)) (fun _ h9 => h9) rfl dX7_restoreSnapshot_23 ?_
    obtain ⟨c3, eh2, hf⟩ := bd hf
    refine jg2_v (va_runV (As := [.ref (oa 27)]) (rest := []) ⟨hx, hb, hml, hown, hts⟩ (mt_X0_copyFrom l dC dI dA gz (fun k => oa (1 + k)) (fun k => oa (27 + k)) s.heap.size zb zn c3 eh2) (cwV 1 hts (gi_v bg wd_316 wd_317 wd_318 wd_2 wd_319) rfl rfl rfl hd_X0_copyFrom ⟨Nat.le_of_ble_eq_true rfl, Nat.le_of_ble_eq_true rfl⟩) ⟨pP_blind, va_recv (ci := 4) (q0 := 0) hK (seg_P hP 1 rfl) rfl rfl, pP_pre2 hP hD hS hA hK hN hZ 1 3 rfl rfl (by decide)⟩ rfl rfl hl.1 rfl (lv_room (Nat.le_of_ble_eq_true rfl)) dX7_restoreSnapshot_26 ⟨Nat.le_of_ble_eq_true rfl, Nat.le_of_ble_eq_true rfl⟩) hP hD hS hA 1 3 rfl rfl (by decide) (aX0 _ _ _ _) (fun H locs hP hD hS => ?_)
    have hP : va_P (dC, dI) vwCl ([[(oa 0, .inr (11, [.ref (oa 1), .ref (oa 14), .ref (oa 27), .int zv, .ref (oa 40), .ref (oa 146), .int zk, .ref (oa 152), .int zd, .int ze, .int zc]))], wX0 dA (fun k => oa (1 + k)) c3, wX0 dA (fun k => oa (14 + k)) zt, wX0 dA (fun k => oa (27 + k)) zn, wX3 dA (fun k => oa (40 + k)) zh, wX6 dA (fun k => oa (146 + k)) zx, wLN dA (oa 152) ln].flatten : va_W) H := hP
    have hD : va_D A ([[(oa 0, .inr (11, [.ref (oa 1), .ref (oa 14), .ref (oa 27), .int zv, .ref (oa 40), .ref (oa 146), .int zk, .ref (oa 152), .int zd, .int ze, .int zc]))], wX0 dA (fun k => oa (1 + k)) c3, wX0 dA (fun k => oa (14 + k)) zt, wX0 dA (fun k => oa (27 + k)) zn, wX3 dA (fun k => oa (40 + k)) zh, wX6 dA (fun k => oa (146 + k)) zx, wLN dA (oa 152) ln].flatten) := hD
    refine lv_aload_n hx hb dX7_restoreSnapshot_29 rfl (lv_at hl 0 rfl) ?_
    refine va_get (D := (dC, dI)) (ci := 11) (v := .ref (oa 40)) (C := RX7) (T := TX7) (N := 11) hx hb hts in_X7 hown hK hP 0 rfl rfl 4 (by decide) (hts _ (bg _ wd_278)) (fun _ h9 => h9) rfl dX7_restoreSnapshot_30 ?_
    obtain ⟨c5, eh4, hf⟩ := bd hf
    refine jg1_v (va_runV (As := []) (rest := []) ⟨hx, hb, hml, hown, hts⟩ (mt_X3_forgetAll l dC dI dA gz (fun k => oa (40 + k)) H.size zh c5 eh4) (cwV 0 hts (gi_v bg wd_867 wd_868 wd_869 wd_7 wd_870) rfl rfl rfl hd_X3_forgetAll ⟨Nat.le_of_ble_eq_true rfl, Nat.le_of_ble_eq_true rfl⟩) ⟨pP_blind, va_recv (ci := 7) (q0 := 0) hK (seg_P hP 4 rfl) rfl rfl, pP_pre1 hP hD hS hA hK hN hZ 4 rfl⟩ rfl rfl hl.1 rfl (lv_room (Nat.le_of_ble_eq_true rfl)) dX7_restoreSnapshot_33 ⟨Nat.le_of_ble_eq_true rfl, Nat.le_of_ble_eq_true rfl⟩) hP hD hS hA 4 rfl (aX3 _ _ _ _) (fun H locs hP hD hS => ?_)
    have hP : va_P (dC, dI) vwCl ([[(oa 0, .inr (11, [.ref (oa 1), .ref (oa 14), .ref (oa 27), .int zv, .ref (oa 40), .ref (oa 146), .int zk, .ref (oa 152), .int zd, .int ze, .int zc]))], wX0 dA (fun k => oa (1 + k)) c3, wX0 dA (fun k => oa (14 + k)) zt, wX0 dA (fun k => oa (27 + k)) zn, wX3 dA (fun k => oa (40 + k)) c5, wX6 dA (fun k => oa (146 + k)) zx, wLN dA (oa 152) ln].flatten : va_W) H := hP
    have hD : va_D A ([[(oa 0, .inr (11, [.ref (oa 1), .ref (oa 14), .ref (oa 27), .int zv, .ref (oa 40), .ref (oa 146), .int zk, .ref (oa 152), .int zd, .int ze, .int zc]))], wX0 dA (fun k => oa (1 + k)) c3, wX0 dA (fun k => oa (14 + k)) zt, wX0 dA (fun k => oa (27 + k)) zn, wX3 dA (fun k => oa (40 + k)) c5, wX6 dA (fun k => oa (146 + k)) zx, wLN dA (oa 152) ln].flatten) := hD
    refine lv_aload_n hx hb dX7_restoreSnapshot_36 rfl (lv_at hl 0 rfl) ?_
    refine va_get (D := (dC, dI)) (ci := 11) (v := .ref (oa 1)) (C := RX7) (T := TX7) (N := 11) hx hb hts in_X7 hown hK hP 0 rfl rfl 0 (by decide) (hts _ (bg _ wd_274)) (fun _ h9 => h9) rfl dX7_restoreSnapshot_37 ?_
    refine va_get (D := (dC, dI)) (ci := 4) (v := .ref (oa 7)) (C := RX0) (T := TX0) (N := 4) hx hb hts in_X0 hown hK hP 1 rfl rfl 2 (by decide) (hts _ (bg _ wd_171)) (fun _ h9 => h9) rfl dX7_restoreSnapshot_40 ?_
    refine va_get (D := (dC, dI)) (ci := 8) (v := .int c3.2.2.1.2.2.2.2) (C := RX4) (T := TX4) (N := 5) hx hb hts in_X4 hown hK hP 7 rfl rfl 4 (by decide) (hts _ (bg _ wd_129)) (fun _ h9 => h9) rfl dX7_restoreSnapshot_43 ?_
    obtain ⟨e8, e9⟩ := Prod.mk.inj (sm hf)
    refine W.widen (k := 1) (n := 6) (Nat.le_of_ble_eq_true rfl) (Nat.le_of_ble_eq_true rfl) ?_
    exact vx_ret (W.iret hx hb hr (fun t ht hW => ⟨⟨_, (), rfl, e8.symm, by rw [← e9, ht]; exact hP, by rw [← e9]; exact hD⟩, hS.F ht⟩) hS.2.2 dX7_restoreSnapshot_46)
  · have hf := it q1 hf
    obtain ⟨e8, e9⟩ := Prod.mk.inj (sm hf)
    exact vx_throwSW hx hb hl0 hown (cls := "java/lang/IllegalStateException") (text := "there is no snapshot") (names := xn) (ik := 272) (is := 364) (ic := 276) (by decide) xn_fit (hts _ (bg _ wd_839)) (hts _ (bg _ wd_25)) (hZ.1 16 (by decide)).1 (th_276 htb hN) tg_276 hZ.2.2.2.2.2.1 hZ.2.2.2.2.2.2.1 hS (hl.1.trans hml.symm) dX7_restoreSnapshot_7 dX7_restoreSnapshot_10 dX7_restoreSnapshot_11 dX7_restoreSnapshot_14 dX7_restoreSnapshot_17 (fun x9 hx9 => absurd (ht9 x9 hx9) id) (Nat.le_of_ble_eq_true rfl) (Nat.le_of_ble_eq_true rfl) (Nat.le_of_ble_eq_true rfl) (Nat.le_of_ble_eq_true rfl) hlocks (fun t hvm hz9 hq9 => by rw [← e9]; exact xq e8.symm hP hD hS hz9 hq9) hS.2.2 (Nat.le_of_ble_eq_true rfl) (Nat.le_of_ble_eq_true rfl)
/-! X7_judgeCommand -/
def f_X7_judgeCommand (zb : SX0) (zt : SX0) (zn : SX0) (zv : Int32) (zh : SX3) (zx : SX6) (zk : Int32) (zd : Int32) (ze : Int32) (zc : Int32) (p1 : Int32) : Option (Int32) :=
  if p1 < 0 ∨ 13 ≤ p1.toNatClampNeg then none else
  if p1 < 0 ∨ 13 ≤ p1.toNatClampNeg then none else
  (if (zx.2.2.2.1 p1.toNatClampNeg) = 0 then if p1 < 0 ∨ 13 ≤ p1.toNatClampNeg then none else
  if p1 < 0 ∨ 13 ≤ p1.toNatClampNeg then none else
  (g_X0_judgePhase zt (zx.2.2.2.2.1 p1.toNatClampNeg) (zx.2.2.2.2.2.1 p1.toNatClampNeg) (zx.2.2.2.2.2.2.1 p1.toNatClampNeg)).bind fun r7 =>
  some r7 else
  (if (zx.2.2.2.1 p1.toNatClampNeg) = 1 then (g_X0_judgeCut zt (zx.2.2.2.2.2.1 p1.toNatClampNeg)).bind fun r10 =>
  some r10 else
  (if (zx.2.2.2.1 p1.toNatClampNeg) = 2 then (g_X0_judgeLoad zt (zx.2.2.2.2.2.1 p1.toNatClampNeg)).bind fun r13 =>
  some r13 else
  (if (zx.2.2.2.1 p1.toNatClampNeg) = 3 then (g_X0_judgeStart zt).bind fun r16 =>
  some r16 else
  (if (zx.2.2.2.1 p1.toNatClampNeg) = 4 then (g_X0_judgeStop zt).bind fun r19 =>
  some r19 else
  (if (zx.2.2.2.1 p1.toNatClampNeg) = 5 then (g_X0_judgeRun zt (zx.2.2.2.2.2.1 p1.toNatClampNeg)).bind fun r22 =>
  some r22 else
  (if (zx.2.2.2.1 p1.toNatClampNeg) = 6 then (g_X0_judgePress zt (zx.2.2.2.2.2.1 p1.toNatClampNeg)).bind fun r25 =>
  some r25 else
  (if (zx.2.2.2.1 p1.toNatClampNeg) = 7 then (g_X0_judgeGrading zt (zx.2.2.2.2.2.1 p1.toNatClampNeg)).bind fun r28 =>
  some r28 else
  (g_X0_judgeCrush zt (zx.2.2.2.2.2.1 p1.toNatClampNeg)).bind fun r30 =>
  some r30))))))))
set_option maxRecDepth 100000 in
set_option maxHeartbeats 4000000 in
theorem m_X7_judgeCommand (l : Launch) (dC : Nat → ClassId) (dI : Nat → Nat → Nat) (dA gz : Nat → Nat) (oa : Nat → Nat) (sz : Nat) (ln : LN) (zb : SX0) (zt : SX0) (zn : SX0) (zv : Int32) (zh : SX3) (zx : SX6) (zk : Int32) (zd : Int32) (ze : Int32) (zc : Int32) (p1 : Int32) (rr : Int32) (hf : f_X7_judgeCommand zb zt zn zv zh zx zk zd ze zc p1 = some rr) : Met l yX7_judgeCommand ws_X7_judgeCommand ({ frames := 22, cells := 0, slots := 0, locals := 800 } : Room) (va_Pc [.ref (oa 0), .int p1] (pP (dC, dI) dA gz (wX7 dA oa (zb, zt, zn, zv, zh, zx, zk, zd, ze, zc) ln) sz)) (va_Qi (S := Unit) (fun r' _ => r' = rr) (fun _ t => pQ (dC, dI) (va_A (wX7 dA oa (zb, zt, zn, zv, zh, zx, zk, zd, ze, zc) ln) sz) (wX7 dA oa (zb, zt, zn, zv, zh, zx, zk, zd, ze, zc) ln) t) (va_A (wX7 dA oa (zb, zt, zn, zv, zh, zx, zk, zd, ze, zc) ln) sz)) 0 0 (va_A (wX7 dA oa (zb, zt, zn, zv, zh, zx, zk, zd, ze, zc) ln) sz) := by
  refine Met.ofW (cc := cX7_judgeCommand) (maxL := 3) (ret := (some .int)) (by decide) rfl ?_
  intro p e s m args below meth c s₁ B hml hv
  obtain ⟨rfl, hsz, hP, hK, hD0, hN, hZ⟩ := hv
  have hx := B.exec
  have hb := B.bytes
  have hr := B.returns
  have hts := atoms_spec (ws := ws_X7_judgeCommand) B.pre
  have htb : ∀ w ∈ BIG, w.before _ s = true := fun w h => hts w (bg w h)
  have hown : s.vm.findClass RX7 = some m.cls := findClass_of_methodNamed B.named
  have hlocks := B.notSynchronized
  subst hsz
  have hD := hD0.self (sz := s.heap.size)
  generalize hAe : va_A (wX7 dA oa (zb, zt, zn, zv, zh, zx, zk, zd, ze, zc) ln) s.heap.size = A at hD hZ ⊢
  have hA : ∀ q : Nat, s.heap.size ≤ q → A q := fun q h => by rw [← hAe]; exact Or.inr h
  have hS : va_S A s.heap s.heap [] := va_S.rf
  have hP : va_P (dC, dI) vwCl ([[(oa 0, .inr (11, [.ref (oa 1), .ref (oa 14), .ref (oa 27), .int zv, .ref (oa 40), .ref (oa 146), .int zk, .ref (oa 152), .int zd, .int ze, .int zc]))], wX0 dA (fun k => oa (1 + k)) zb, wX0 dA (fun k => oa (14 + k)) zt, wX0 dA (fun k => oa (27 + k)) zn, wX3 dA (fun k => oa (40 + k)) zh, wX6 dA (fun k => oa (146 + k)) zx, wLN dA (oa 152) ln].flatten) s.heap := hP
  have hD : va_D A ([[(oa 0, .inr (11, [.ref (oa 1), .ref (oa 14), .ref (oa 27), .int zv, .ref (oa 40), .ref (oa 146), .int zk, .ref (oa 152), .int zd, .int ze, .int zc]))], wX0 dA (fun k => oa (1 + k)) zb, wX0 dA (fun k => oa (14 + k)) zt, wX0 dA (fun k => oa (27 + k)) zn, wX3 dA (fun k => oa (40 + k)) zh, wX6 dA (fun k => oa (146 + k)) zx, wLN dA (oa 152) ln].flatten) := hD
  have hl := lv_entry [.ref (oa 0), .int p1] (n := 3) (Nat.le_of_ble_eq_true rfl)
  rw [lg_entry_eq]
  generalize (lg_sl [.ref (oa 0), .int p1] ++ List.replicate (3 - (lg_sl [.ref (oa 0), .int p1]).length) Slot.unset).toArray = ls at hl ⊢
  have hl : lv_has ls 3 [(0, .ref (oa 0)), (1, .int p1)] := hl
  have in_X6 : ∀ w ∈ wsX60, w ∈ ws_X7_judgeCommand := fun w h => bg _ (inB_X6 w h)
  have in_X7 : ∀ w ∈ wsX70, w ∈ ws_X7_judgeCommand := fun w h => bg _ (inB_X7 w h)
  rw [f_X7_judgeCommand] at hf
  refine lv_aload_n hx hb dX7_judgeCommand_0 rfl (lv_at hl 0 rfl) ?_
  refine va_get (D := (dC, dI)) (ci := 11) (v := .ref (oa 146)) (C := RX7) (T := TX7) (N := 11) hx hb hts in_X7 hown hK hP 0 rfl rfl 5 (by decide) (hts _ (bg _ wd_279)) (fun _ h9 => h9) rfl dX7_judgeCommand_1 ?_
  refine va_get (D := (dC, dI)) (ci := 10) (v := .ref (oa 150)) (C := RX6) (T := TX6) (N := 8) hx hb hts in_X6 hown hK hP 146 rfl rfl 5 (by decide) (hts _ (bg _ wd_219)) (fun _ h9 => h9) rfl dX7_judgeCommand_4 ?_
  refine lv_iload_n hx hb dX7_judgeCommand_7 rfl (lv_at hl 1 rfl) ?_
  obtain ⟨z1, hf⟩ := gd hf
  refine va_iald hx hb hK hP 150 1 rfl rfl z1 dX7_judgeCommand_8 ?_
  refine lv_istore_n (lv' := [(2, .int (zx.2.2.2.2.2.1 p1.toNatClampNeg)), (0, .ref (oa 0)), (1, .int p1)]) hx hb dX7_judgeCommand_9 rfl hl (by decide) rfl (fun ls hl => ?_)
  refine lv_aload_n hx hb dX7_judgeCommand_10 rfl (lv_at hl 1 rfl) ?_
  refine va_get (D := (dC, dI)) (ci := 11) (v := .ref (oa 146)) (C := RX7) (T := TX7) (N := 11) hx hb hts in_X7 hown hK hP 0 rfl rfl 5 (by decide) (hts _ (bg _ wd_279)) (fun _ h9 => h9) rfl dX7_judgeCommand_11 ?_
  refine va_get (D := (dC, dI)) (ci := 10) (v := .ref (oa 148)) (C := RX6) (T := TX6) (N := 8) hx hb hts in_X6 hown hK hP 146 rfl rfl 3 (by decide) (hts _ (bg _ wd_215)) (fun _ h9 => h9) rfl dX7_judgeCommand_14 ?_
  refine lv_iload_n hx hb dX7_judgeCommand_17 rfl (lv_at hl 2 rfl) ?_
  obtain ⟨z2, hf⟩ := gd hf
  refine va_iald hx hb hK hP 148 1 rfl rfl z2 dX7_judgeCommand_18 ?_
  by_cases q3 : (zx.2.2.2.1 p1.toNatClampNeg) = 0
  · have hf := it q3 hf
    refine lv_tableIn (tgt := 64) hx hb dX7_judgeCommand_19 (by rw [q3]; decide) (by rw [q3]; decide) (by rw [q3]; rfl) (by decide) ?_
    refine lv_aload_n hx hb dX7_judgeCommand_64 rfl (lv_at hl 1 rfl) ?_
    refine va_get (D := (dC, dI)) (ci := 11) (v := .ref (oa 14)) (C := RX7) (T := TX7) (N := 11) hx hb hts in_X7 hown hK hP 0 rfl rfl 1 (by decide) (hts _ (bg _ wd_275)) (fun _ h9 => h9) rfl dX7_judgeCommand_65 ?_
    refine lv_aload_n hx hb dX7_judgeCommand_68 rfl (lv_at hl 1 rfl) ?_
    refine va_get (D := (dC, dI)) (ci := 11) (v := .ref (oa 146)) (C := RX7) (T := TX7) (N := 11) hx hb hts in_X7 hown hK hP 0 rfl rfl 5 (by decide) (hts _ (bg _ wd_279)) (fun _ h9 => h9) rfl dX7_judgeCommand_69 ?_
    refine va_get (D := (dC, dI)) (ci := 10) (v := .ref (oa 149)) (C := RX6) (T := TX6) (N := 8) hx hb hts in_X6 hown hK hP 146 rfl rfl 4 (by decide) (hts _ (bg _ wd_217)) (fun _ h9 => h9) rfl dX7_judgeCommand_72 ?_
    refine lv_iload_n hx hb dX7_judgeCommand_75 rfl (lv_at hl 2 rfl) ?_
    obtain ⟨z4, hf⟩ := gd hf
    refine va_cald hx hb hK hP 149 0 rfl rfl z4 dX7_judgeCommand_76 ?_
    refine lv_iload_n hx hb dX7_judgeCommand_77 rfl (lv_at hl 0 rfl) ?_
    refine lv_aload_n hx hb dX7_judgeCommand_78 rfl (lv_at hl 1 rfl) ?_
    refine va_get (D := (dC, dI)) (ci := 11) (v := .ref (oa 146)) (C := RX7) (T := TX7) (N := 11) hx hb hts in_X7 hown hK hP 0 rfl rfl 5 (by decide) (hts _ (bg _ wd_279)) (fun _ h9 => h9) rfl dX7_judgeCommand_79 ?_
    refine va_get (D := (dC, dI)) (ci := 10) (v := .ref (oa 151)) (C := RX6) (T := TX6) (N := 8) hx hb hts in_X6 hown hK hP 146 rfl rfl 6 (by decide) (hts _ (bg _ wd_221)) (fun _ h9 => h9) rfl dX7_judgeCommand_82 ?_
    refine lv_iload_n hx hb dX7_judgeCommand_85 rfl (lv_at hl 2 rfl) ?_
    obtain ⟨z5, hf⟩ := gd hf
    refine va_iald hx hb hK hP 151 1 rfl rfl z5 dX7_judgeCommand_86 ?_
    obtain ⟨r7, eh6, hf⟩ := bd hf
    refine jgr_i (va_runV (As := [.int (zx.2.2.2.2.1 p1.toNatClampNeg), .int (zx.2.2.2.2.2.1 p1.toNatClampNeg), .int (zx.2.2.2.2.2.2.1 p1.toNatClampNeg)]) (rest := []) ⟨hx, hb, hml, hown, hts⟩ (mt_X0_judgePhase l dC dI dA gz (fun k => oa (14 + k)) s.heap.size zt (zx.2.2.2.2.1 p1.toNatClampNeg) (zx.2.2.2.2.2.1 p1.toNatClampNeg) (zx.2.2.2.2.2.2.1 p1.toNatClampNeg) r7 eh6) (cwV 3 hts (gi_v bg wd_355 wd_356 wd_357 wd_2 wd_358) rfl rfl rfl hd_X0_judgePhase ⟨Nat.le_of_ble_eq_true rfl, Nat.le_of_ble_eq_true rfl⟩) ⟨pP_blind, va_recv (ci := 4) (q0 := 0) hK (seg_P hP 2 rfl) rfl rfl, pP_pre1 hP hD hS hA hK hN hZ 2 rfl⟩ rfl rfl hl.1 rfl (lv_room (Nat.le_of_ble_eq_true rfl)) dX7_judgeCommand_87 ⟨Nat.le_of_ble_eq_true rfl, Nat.le_of_ble_eq_true rfl⟩) hP hD hS hA 2 rfl (fun H locs hP hS => ?_)
    exact W.iret hx hb hr (fun t ht hW => ⟨⟨_, (), rfl, sm hf, by rw [ht]; exact hP, hD⟩, hS.F ht⟩) hS.2.2 dX7_judgeCommand_90
  have hf := ie q3 hf
  by_cases q8 : (zx.2.2.2.1 p1.toNatClampNeg) = 1
  · have hf := it q8 hf
    refine lv_tableIn (tgt := 91) hx hb dX7_judgeCommand_19 (by rw [q8]; decide) (by rw [q8]; decide) (by rw [q8]; rfl) (by decide) ?_
    refine lv_aload_n hx hb dX7_judgeCommand_91 rfl (lv_at hl 1 rfl) ?_
    refine va_get (D := (dC, dI)) (ci := 11) (v := .ref (oa 14)) (C := RX7) (T := TX7) (N := 11) hx hb hts in_X7 hown hK hP 0 rfl rfl 1 (by decide) (hts _ (bg _ wd_275)) (fun _ h9 => h9) rfl dX7_judgeCommand_92 ?_
    refine lv_iload_n hx hb dX7_judgeCommand_95 rfl (lv_at hl 0 rfl) ?_
    obtain ⟨r10, eh9, hf⟩ := bd hf
    refine jgr_i (va_runV (As := [.int (zx.2.2.2.2.2.1 p1.toNatClampNeg)]) (rest := []) ⟨hx, hb, hml, hown, hts⟩ (mt_X0_judgeCut l dC dI dA gz (fun k => oa (14 + k)) s.heap.size zt (zx.2.2.2.2.2.1 p1.toNatClampNeg) r10 eh9) (cwV 1 hts (gi_v bg wd_731 wd_732 wd_733 wd_2 wd_734) rfl rfl rfl hd_X0_judgeCut ⟨Nat.le_of_ble_eq_true rfl, Nat.le_of_ble_eq_true rfl⟩) ⟨pP_blind, va_recv (ci := 4) (q0 := 0) hK (seg_P hP 2 rfl) rfl rfl, pP_pre1 hP hD hS hA hK hN hZ 2 rfl⟩ rfl rfl hl.1 rfl (lv_room (Nat.le_of_ble_eq_true rfl)) dX7_judgeCommand_96 ⟨Nat.le_of_ble_eq_true rfl, Nat.le_of_ble_eq_true rfl⟩) hP hD hS hA 2 rfl (fun H locs hP hS => ?_)
    exact W.iret hx hb hr (fun t ht hW => ⟨⟨_, (), rfl, sm hf, by rw [ht]; exact hP, hD⟩, hS.F ht⟩) hS.2.2 dX7_judgeCommand_99
  have hf := ie q8 hf
  by_cases q11 : (zx.2.2.2.1 p1.toNatClampNeg) = 2
  · have hf := it q11 hf
    refine lv_tableIn (tgt := 100) hx hb dX7_judgeCommand_19 (by rw [q11]; decide) (by rw [q11]; decide) (by rw [q11]; rfl) (by decide) ?_
    refine lv_aload_n hx hb dX7_judgeCommand_100 rfl (lv_at hl 1 rfl) ?_
    refine va_get (D := (dC, dI)) (ci := 11) (v := .ref (oa 14)) (C := RX7) (T := TX7) (N := 11) hx hb hts in_X7 hown hK hP 0 rfl rfl 1 (by decide) (hts _ (bg _ wd_275)) (fun _ h9 => h9) rfl dX7_judgeCommand_101 ?_
    refine lv_iload_n hx hb dX7_judgeCommand_104 rfl (lv_at hl 0 rfl) ?_
    obtain ⟨r13, eh12, hf⟩ := bd hf
    refine jgr_i (va_runV (As := [.int (zx.2.2.2.2.2.1 p1.toNatClampNeg)]) (rest := []) ⟨hx, hb, hml, hown, hts⟩ (mt_X0_judgeLoad l dC dI dA gz (fun k => oa (14 + k)) s.heap.size zt (zx.2.2.2.2.2.1 p1.toNatClampNeg) r13 eh12) (cwV 1 hts (gi_v bg wd_588 wd_589 wd_590 wd_2 wd_591) rfl rfl rfl hd_X0_judgeLoad ⟨Nat.le_of_ble_eq_true rfl, Nat.le_of_ble_eq_true rfl⟩) ⟨pP_blind, va_recv (ci := 4) (q0 := 0) hK (seg_P hP 2 rfl) rfl rfl, pP_pre1 hP hD hS hA hK hN hZ 2 rfl⟩ rfl rfl hl.1 rfl (lv_room (Nat.le_of_ble_eq_true rfl)) dX7_judgeCommand_105 ⟨Nat.le_of_ble_eq_true rfl, Nat.le_of_ble_eq_true rfl⟩) hP hD hS hA 2 rfl (fun H locs hP hS => ?_)
    exact W.iret hx hb hr (fun t ht hW => ⟨⟨_, (), rfl, sm hf, by rw [ht]; exact hP, hD⟩, hS.F ht⟩) hS.2.2 dX7_judgeCommand_108
  have hf := ie q11 hf
  by_cases q14 : (zx.2.2.2.1 p1.toNatClampNeg) = 3
  · have hf := it q14 hf
    refine lv_tableIn (tgt := 109) hx hb dX7_judgeCommand_19 (by rw [q14]; decide) (by rw [q14]; decide) (by rw [q14]; rfl) (by decide) ?_
    refine lv_aload_n hx hb dX7_judgeCommand_109 rfl (lv_at hl 1 rfl) ?_
    refine va_get (D := (dC, dI)) (ci := 11) (v := .ref (oa 14)) (C := RX7) (T := TX7) (N := 11) hx hb hts in_X7 hown hK hP 0 rfl rfl 1 (by decide) (hts _ (bg _ wd_275)) (fun _ h9 => h9) rfl dX7_judgeCommand_110 ?_
    obtain ⟨r16, eh15, hf⟩ := bd hf
    refine jgr_i (va_runV (As := []) (rest := []) ⟨hx, hb, hml, hown, hts⟩ (mt_X0_judgeStart l dC dI dA gz (fun k => oa (14 + k)) s.heap.size zt r16 eh15) (cwV 0 hts (gi_v bg wd_500 wd_501 wd_502 wd_2 wd_503) rfl rfl rfl hd_X0_judgeStart ⟨Nat.le_of_ble_eq_true rfl, Nat.le_of_ble_eq_true rfl⟩) ⟨pP_blind, va_recv (ci := 4) (q0 := 0) hK (seg_P hP 2 rfl) rfl rfl, pP_pre1 hP hD hS hA hK hN hZ 2 rfl⟩ rfl rfl hl.1 rfl (lv_room (Nat.le_of_ble_eq_true rfl)) dX7_judgeCommand_113 ⟨Nat.le_of_ble_eq_true rfl, Nat.le_of_ble_eq_true rfl⟩) hP hD hS hA 2 rfl (fun H locs hP hS => ?_)
    exact W.iret hx hb hr (fun t ht hW => ⟨⟨_, (), rfl, sm hf, by rw [ht]; exact hP, hD⟩, hS.F ht⟩) hS.2.2 dX7_judgeCommand_116
  have hf := ie q14 hf
  by_cases q17 : (zx.2.2.2.1 p1.toNatClampNeg) = 4
  · have hf := it q17 hf
    refine lv_tableIn (tgt := 117) hx hb dX7_judgeCommand_19 (by rw [q17]; decide) (by rw [q17]; decide) (by rw [q17]; rfl) (by decide) ?_
    refine lv_aload_n hx hb dX7_judgeCommand_117 rfl (lv_at hl 1 rfl) ?_
    refine va_get (D := (dC, dI)) (ci := 11) (v := .ref (oa 14)) (C := RX7) (T := TX7) (N := 11) hx hb hts in_X7 hown hK hP 0 rfl rfl 1 (by decide) (hts _ (bg _ wd_275)) (fun _ h9 => h9) rfl dX7_judgeCommand_118 ?_
    obtain ⟨r19, eh18, hf⟩ := bd hf
    refine jgr_i (va_runV (As := []) (rest := []) ⟨hx, hb, hml, hown, hts⟩ (mt_X0_judgeStop l dC dI dA gz (fun k => oa (14 + k)) s.heap.size zt r19 eh18) (cwV 0 hts (gi_v bg wd_524 wd_525 wd_526 wd_2 wd_527) rfl rfl rfl hd_X0_judgeStop ⟨Nat.le_of_ble_eq_true rfl, Nat.le_of_ble_eq_true rfl⟩) ⟨pP_blind, va_recv (ci := 4) (q0 := 0) hK (seg_P hP 2 rfl) rfl rfl, pP_pre1 hP hD hS hA hK hN hZ 2 rfl⟩ rfl rfl hl.1 rfl (lv_room (Nat.le_of_ble_eq_true rfl)) dX7_judgeCommand_121 ⟨Nat.le_of_ble_eq_true rfl, Nat.le_of_ble_eq_true rfl⟩) hP hD hS hA 2 rfl (fun H locs hP hS => ?_)
    exact W.iret hx hb hr (fun t ht hW => ⟨⟨_, (), rfl, sm hf, by rw [ht]; exact hP, hD⟩, hS.F ht⟩) hS.2.2 dX7_judgeCommand_124
  have hf := ie q17 hf
  by_cases q20 : (zx.2.2.2.1 p1.toNatClampNeg) = 5
  · have hf := it q20 hf
    refine lv_tableIn (tgt := 125) hx hb dX7_judgeCommand_19 (by rw [q20]; decide) (by rw [q20]; decide) (by rw [q20]; rfl) (by decide) ?_
    refine lv_aload_n hx hb dX7_judgeCommand_125 rfl (lv_at hl 1 rfl) ?_
    refine va_get (D := (dC, dI)) (ci := 11) (v := .ref (oa 14)) (C := RX7) (T := TX7) (N := 11) hx hb hts in_X7 hown hK hP 0 rfl rfl 1 (by decide) (hts _ (bg _ wd_275)) (fun _ h9 => h9) rfl dX7_judgeCommand_126 ?_
    refine lv_iload_n hx hb dX7_judgeCommand_129 rfl (lv_at hl 0 rfl) ?_
    obtain ⟨r22, eh21, hf⟩ := bd hf
    refine jgr_i (va_runV (As := [.int (zx.2.2.2.2.2.1 p1.toNatClampNeg)]) (rest := []) ⟨hx, hb, hml, hown, hts⟩ (mt_X0_judgeRun l dC dI dA gz (fun k => oa (14 + k)) s.heap.size zt (zx.2.2.2.2.2.1 p1.toNatClampNeg) r22 eh21) (cwV 1 hts (gi_v bg wd_543 wd_544 wd_545 wd_2 wd_546) rfl rfl rfl hd_X0_judgeRun ⟨Nat.le_of_ble_eq_true rfl, Nat.le_of_ble_eq_true rfl⟩) ⟨pP_blind, va_recv (ci := 4) (q0 := 0) hK (seg_P hP 2 rfl) rfl rfl, pP_pre1 hP hD hS hA hK hN hZ 2 rfl⟩ rfl rfl hl.1 rfl (lv_room (Nat.le_of_ble_eq_true rfl)) dX7_judgeCommand_130 ⟨Nat.le_of_ble_eq_true rfl, Nat.le_of_ble_eq_true rfl⟩) hP hD hS hA 2 rfl (fun H locs hP hS => ?_)
    exact W.iret hx hb hr (fun t ht hW => ⟨⟨_, (), rfl, sm hf, by rw [ht]; exact hP, hD⟩, hS.F ht⟩) hS.2.2 dX7_judgeCommand_133
  have hf := ie q20 hf
  by_cases q23 : (zx.2.2.2.1 p1.toNatClampNeg) = 6
  · have hf := it q23 hf
    refine lv_tableIn (tgt := 134) hx hb dX7_judgeCommand_19 (by rw [q23]; decide) (by rw [q23]; decide) (by rw [q23]; rfl) (by decide) ?_
    refine lv_aload_n hx hb dX7_judgeCommand_134 rfl (lv_at hl 1 rfl) ?_
    refine va_get (D := (dC, dI)) (ci := 11) (v := .ref (oa 14)) (C := RX7) (T := TX7) (N := 11) hx hb hts in_X7 hown hK hP 0 rfl rfl 1 (by decide) (hts _ (bg _ wd_275)) (fun _ h9 => h9) rfl dX7_judgeCommand_135 ?_
    refine lv_iload_n hx hb dX7_judgeCommand_138 rfl (lv_at hl 0 rfl) ?_
    obtain ⟨r25, eh24, hf⟩ := bd hf
    refine jgr_i (va_runV (As := [.int (zx.2.2.2.2.2.1 p1.toNatClampNeg)]) (rest := []) ⟨hx, hb, hml, hown, hts⟩ (mt_X0_judgePress l dC dI dA gz (fun k => oa (14 + k)) s.heap.size zt (zx.2.2.2.2.2.1 p1.toNatClampNeg) r25 eh24) (cwV 1 hts (gi_v bg wd_607 wd_608 wd_609 wd_2 wd_610) rfl rfl rfl hd_X0_judgePress ⟨Nat.le_of_ble_eq_true rfl, Nat.le_of_ble_eq_true rfl⟩) ⟨pP_blind, va_recv (ci := 4) (q0 := 0) hK (seg_P hP 2 rfl) rfl rfl, pP_pre1 hP hD hS hA hK hN hZ 2 rfl⟩ rfl rfl hl.1 rfl (lv_room (Nat.le_of_ble_eq_true rfl)) dX7_judgeCommand_139 ⟨Nat.le_of_ble_eq_true rfl, Nat.le_of_ble_eq_true rfl⟩) hP hD hS hA 2 rfl (fun H locs hP hS => ?_)
    exact W.iret hx hb hr (fun t ht hW => ⟨⟨_, (), rfl, sm hf, by rw [ht]; exact hP, hD⟩, hS.F ht⟩) hS.2.2 dX7_judgeCommand_142
  have hf := ie q23 hf
  by_cases q26 : (zx.2.2.2.1 p1.toNatClampNeg) = 7
  · have hf := it q26 hf
    refine lv_tableIn (tgt := 143) hx hb dX7_judgeCommand_19 (by rw [q26]; decide) (by rw [q26]; decide) (by rw [q26]; rfl) (by decide) ?_
    refine lv_aload_n hx hb dX7_judgeCommand_143 rfl (lv_at hl 1 rfl) ?_
    refine va_get (D := (dC, dI)) (ci := 11) (v := .ref (oa 14)) (C := RX7) (T := TX7) (N := 11) hx hb hts in_X7 hown hK hP 0 rfl rfl 1 (by decide) (hts _ (bg _ wd_275)) (fun _ h9 => h9) rfl dX7_judgeCommand_144 ?_
    refine lv_iload_n hx hb dX7_judgeCommand_147 rfl (lv_at hl 0 rfl) ?_
    obtain ⟨r28, eh27, hf⟩ := bd hf
    refine jgr_i (va_runV (As := [.int (zx.2.2.2.2.2.1 p1.toNatClampNeg)]) (rest := []) ⟨hx, hb, hml, hown, hts⟩ (mt_X0_judgeGrading l dC dI dA gz (fun k => oa (14 + k)) s.heap.size zt (zx.2.2.2.2.2.1 p1.toNatClampNeg) r28 eh27) (cwV 1 hts (gi_v bg wd_736 wd_737 wd_738 wd_2 wd_739) rfl rfl rfl hd_X0_judgeGrading ⟨Nat.le_of_ble_eq_true rfl, Nat.le_of_ble_eq_true rfl⟩) ⟨pP_blind, va_recv (ci := 4) (q0 := 0) hK (seg_P hP 2 rfl) rfl rfl, pP_pre1 hP hD hS hA hK hN hZ 2 rfl⟩ rfl rfl hl.1 rfl (lv_room (Nat.le_of_ble_eq_true rfl)) dX7_judgeCommand_148 ⟨Nat.le_of_ble_eq_true rfl, Nat.le_of_ble_eq_true rfl⟩) hP hD hS hA 2 rfl (fun H locs hP hS => ?_)
    exact W.iret hx hb hr (fun t ht hW => ⟨⟨_, (), rfl, sm hf, by rw [ht]; exact hP, hD⟩, hS.F ht⟩) hS.2.2 dX7_judgeCommand_151
  have hf := ie q26 hf
  refine lv_tableOut (tgt := 152) hx hb dX7_judgeCommand_19 (by have := ti_ne (k := 0) q3 (by decide); have := ti_ne (k := 1) q8 (by decide); have := ti_ne (k := 2) q11 (by decide); have := ti_ne (k := 3) q14 (by decide); have := ti_ne (k := 4) q17 (by decide); have := ti_ne (k := 5) q20 (by decide); have := ti_ne (k := 6) q23 (by decide); have := ti_ne (k := 7) q26 (by decide); omega) (by decide) ?_
  refine lv_aload_n hx hb dX7_judgeCommand_152 rfl (lv_at hl 1 rfl) ?_
  refine va_get (D := (dC, dI)) (ci := 11) (v := .ref (oa 14)) (C := RX7) (T := TX7) (N := 11) hx hb hts in_X7 hown hK hP 0 rfl rfl 1 (by decide) (hts _ (bg _ wd_275)) (fun _ h9 => h9) rfl dX7_judgeCommand_153 ?_
  refine lv_iload_n hx hb dX7_judgeCommand_156 rfl (lv_at hl 0 rfl) ?_
  obtain ⟨r30, eh29, hf⟩ := bd hf
  refine jgr_i (va_runV (As := [.int (zx.2.2.2.2.2.1 p1.toNatClampNeg)]) (rest := []) ⟨hx, hb, hml, hown, hts⟩ (mt_X0_judgeCrush l dC dI dA gz (fun k => oa (14 + k)) s.heap.size zt (zx.2.2.2.2.2.1 p1.toNatClampNeg) r30 eh29) (cwV 1 hts (gi_v bg wd_749 wd_750 wd_751 wd_2 wd_752) rfl rfl rfl hd_X0_judgeCrush ⟨Nat.le_of_ble_eq_true rfl, Nat.le_of_ble_eq_true rfl⟩) ⟨pP_blind, va_recv (ci := 4) (q0 := 0) hK (seg_P hP 2 rfl) rfl rfl, pP_pre1 hP hD hS hA hK hN hZ 2 rfl⟩ rfl rfl hl.1 rfl (lv_room (Nat.le_of_ble_eq_true rfl)) dX7_judgeCommand_157 ⟨Nat.le_of_ble_eq_true rfl, Nat.le_of_ble_eq_true rfl⟩) hP hD hS hA 2 rfl (fun H locs hP hS => ?_)
  exact W.iret hx hb hr (fun t ht hW => ⟨⟨_, (), rfl, sm hf, by rw [ht]; exact hP, hD⟩, hS.F ht⟩) hS.2.2 dX7_judgeCommand_160
/-! X7_carryOutCommand -/
def f_X7_carryOutCommand (zb : SX0) (zt : SX0) (zn : SX0) (zv : Int32) (zh : SX3) (zx : SX6) (zk : Int32) (zd : Int32) (ze : Int32) (zc : Int32) (p1 : Int32) : Option (SX7) :=
  if p1 < 0 ∨ 13 ≤ p1.toNatClampNeg then none else
  if p1 < 0 ∨ 13 ≤ p1.toNatClampNeg then none else
  (if (zx.2.2.2.1 p1.toNatClampNeg) = 0 then if p1 < 0 ∨ 13 ≤ p1.toNatClampNeg then none else
  if p1 < 0 ∨ 13 ≤ p1.toNatClampNeg then none else
  bP (g_X0_appendPhase zt (zx.2.2.2.2.1 p1.toNatClampNeg) (zx.2.2.2.2.2.1 p1.toNatClampNeg) (zx.2.2.2.2.2.2.1 p1.toNatClampNeg)) fun r7 c8 =>
  some (zb, c8, zn, zv, zh, zx, zk, zd, ze, zc) else
  (if (zx.2.2.2.1 p1.toNatClampNeg) = 1 then bP (g_X0_cutPhase zt (zx.2.2.2.2.2.1 p1.toNatClampNeg)) fun r11 c12 =>
  some (zb, c12, zn, zv, zh, zx, zk, zd, ze, zc) else
  (if (zx.2.2.2.1 p1.toNatClampNeg) = 2 then bP (g_X0_loadRock zt (zx.2.2.2.2.2.1 p1.toNatClampNeg)) fun r15 c16 =>
  some (zb, c16, zn, zv, zh, zx, zk, zd, ze, zc) else
  (if (zx.2.2.2.1 p1.toNatClampNeg) = 3 then bP (g_X0_startCycle zt) fun r19 c20 =>
  some (zb, c20, zn, zv, zh, zx, zk, zd, ze, zc) else
  (if (zx.2.2.2.1 p1.toNatClampNeg) = 4 then bP (g_X0_stopCycle zt) fun r23 c24 =>
  some (zb, c24, zn, zv, zh, zx, zk, zd, ze, zc) else
  (if (zx.2.2.2.1 p1.toNatClampNeg) = 5 then bP (g_X0_passMinutes zt (zx.2.2.2.2.2.1 p1.toNatClampNeg)) fun r27 c28 =>
  some (zb, c28, zn, zv, zh, zx, zk, zd, ze, zc) else
  (if (zx.2.2.2.1 p1.toNatClampNeg) = 6 then bP (g_X0_pressPat zt (zx.2.2.2.2.2.1 p1.toNatClampNeg)) fun r31 c32 =>
  some (zb, c32, zn, zv, zh, zx, zk, zd, ze, zc) else
  (if (zx.2.2.2.1 p1.toNatClampNeg) = 7 then bP (g_X0_takeGrade zt (zx.2.2.2.2.2.1 p1.toNatClampNeg)) fun r35 c36 =>
  some (zb, c36, zn, zv, zh, zx, zk, zd, ze, zc) else
  bP (g_X0_crushPat zt (zx.2.2.2.2.2.1 p1.toNatClampNeg)) fun r38 c39 =>
  some (zb, c39, zn, zv, zh, zx, zk, zd, ze, zc)))))))))
set_option maxRecDepth 100000 in
set_option maxHeartbeats 4000000 in
theorem m_X7_carryOutCommand (l : Launch) (dC : Nat → ClassId) (dI : Nat → Nat → Nat) (dA gz : Nat → Nat) (oa : Nat → Nat) (sz : Nat) (ln : LN) (zb : SX0) (zt : SX0) (zn : SX0) (zv : Int32) (zh : SX3) (zx : SX6) (zk : Int32) (zd : Int32) (ze : Int32) (zc : Int32) (p1 : Int32) (uu : SX7) (hf : f_X7_carryOutCommand zb zt zn zv zh zx zk zd ze zc p1 = some uu) : Met l yX7_carryOutCommand ws_X7_carryOutCommand ({ frames := 30, cells := 0, slots := 0, locals := 1200 } : Room) (va_Pc [.ref (oa 0), .int p1] (pP (dC, dI) dA gz (wX7 dA oa (zb, zt, zn, zv, zh, zx, zk, zd, ze, zc) ln) sz)) (va_Qv (S := Unit) (fun _ => True) (fun _ t => pQ (dC, dI) (va_A (wX7 dA oa (zb, zt, zn, zv, zh, zx, zk, zd, ze, zc) ln) sz) (wX7 dA oa uu ln) t) (va_A (wX7 dA oa (zb, zt, zn, zv, zh, zx, zk, zd, ze, zc) ln) sz)) 0 0 (va_A (wX7 dA oa (zb, zt, zn, zv, zh, zx, zk, zd, ze, zc) ln) sz) := by
  refine Met.ofW (cc := cX7_carryOutCommand) (maxL := 3) (ret := none) (by decide) rfl ?_
  intro p e s m args below meth c s₁ B hml hv
  obtain ⟨rfl, hsz, hP, hK, hD0, hN, hZ⟩ := hv
  have hx := B.exec
  have hb := B.bytes
  have hr := B.returns
  have hts := atoms_spec (ws := ws_X7_carryOutCommand) B.pre
  have htb : ∀ w ∈ BIG, w.before _ s = true := fun w h => hts w (bg w h)
  have hown : s.vm.findClass RX7 = some m.cls := findClass_of_methodNamed B.named
  have hlocks := B.notSynchronized
  subst hsz
  have hD := hD0.self (sz := s.heap.size)
  generalize hAe : va_A (wX7 dA oa (zb, zt, zn, zv, zh, zx, zk, zd, ze, zc) ln) s.heap.size = A at hD hZ ⊢
  have hA : ∀ q : Nat, s.heap.size ≤ q → A q := fun q h => by rw [← hAe]; exact Or.inr h
  have hS : va_S A s.heap s.heap [] := va_S.rf
  have hP : va_P (dC, dI) vwCl ([[(oa 0, .inr (11, [.ref (oa 1), .ref (oa 14), .ref (oa 27), .int zv, .ref (oa 40), .ref (oa 146), .int zk, .ref (oa 152), .int zd, .int ze, .int zc]))], wX0 dA (fun k => oa (1 + k)) zb, wX0 dA (fun k => oa (14 + k)) zt, wX0 dA (fun k => oa (27 + k)) zn, wX3 dA (fun k => oa (40 + k)) zh, wX6 dA (fun k => oa (146 + k)) zx, wLN dA (oa 152) ln].flatten) s.heap := hP
  have hD : va_D A ([[(oa 0, .inr (11, [.ref (oa 1), .ref (oa 14), .ref (oa 27), .int zv, .ref (oa 40), .ref (oa 146), .int zk, .ref (oa 152), .int zd, .int ze, .int zc]))], wX0 dA (fun k => oa (1 + k)) zb, wX0 dA (fun k => oa (14 + k)) zt, wX0 dA (fun k => oa (27 + k)) zn, wX3 dA (fun k => oa (40 + k)) zh, wX6 dA (fun k => oa (146 + k)) zx, wLN dA (oa 152) ln].flatten) := hD
  have hl := lv_entry [.ref (oa 0), .int p1] (n := 3) (Nat.le_of_ble_eq_true rfl)
  rw [lg_entry_eq]
  generalize (lg_sl [.ref (oa 0), .int p1] ++ List.replicate (3 - (lg_sl [.ref (oa 0), .int p1]).length) Slot.unset).toArray = ls at hl ⊢
  have hl : lv_has ls 3 [(0, .ref (oa 0)), (1, .int p1)] := hl
  have in_X6 : ∀ w ∈ wsX60, w ∈ ws_X7_carryOutCommand := fun w h => bg _ (inB_X6 w h)
  have in_X7 : ∀ w ∈ wsX70, w ∈ ws_X7_carryOutCommand := fun w h => bg _ (inB_X7 w h)
  rw [f_X7_carryOutCommand] at hf
  refine lv_aload_n hx hb dX7_carryOutCommand_0 rfl (lv_at hl 0 rfl) ?_
  refine va_get (D := (dC, dI)) (ci := 11) (v := .ref (oa 146)) (C := RX7) (T := TX7) (N := 11) hx hb hts in_X7 hown hK hP 0 rfl rfl 5 (by decide) (hts _ (bg _ wd_279)) (fun _ h9 => h9) rfl dX7_carryOutCommand_1 ?_
  refine va_get (D := (dC, dI)) (ci := 10) (v := .ref (oa 150)) (C := RX6) (T := TX6) (N := 8) hx hb hts in_X6 hown hK hP 146 rfl rfl 5 (by decide) (hts _ (bg _ wd_219)) (fun _ h9 => h9) rfl dX7_carryOutCommand_4 ?_
  refine lv_iload_n hx hb dX7_carryOutCommand_7 rfl (lv_at hl 1 rfl) ?_
  obtain ⟨z1, hf⟩ := gd hf
  refine va_iald hx hb hK hP 150 1 rfl rfl z1 dX7_carryOutCommand_8 ?_
  refine lv_istore_n (lv' := [(2, .int (zx.2.2.2.2.2.1 p1.toNatClampNeg)), (0, .ref (oa 0)), (1, .int p1)]) hx hb dX7_carryOutCommand_9 rfl hl (by decide) rfl (fun ls hl => ?_)
  refine lv_aload_n hx hb dX7_carryOutCommand_10 rfl (lv_at hl 1 rfl) ?_
  refine va_get (D := (dC, dI)) (ci := 11) (v := .ref (oa 146)) (C := RX7) (T := TX7) (N := 11) hx hb hts in_X7 hown hK hP 0 rfl rfl 5 (by decide) (hts _ (bg _ wd_279)) (fun _ h9 => h9) rfl dX7_carryOutCommand_11 ?_
  refine va_get (D := (dC, dI)) (ci := 10) (v := .ref (oa 148)) (C := RX6) (T := TX6) (N := 8) hx hb hts in_X6 hown hK hP 146 rfl rfl 3 (by decide) (hts _ (bg _ wd_215)) (fun _ h9 => h9) rfl dX7_carryOutCommand_14 ?_
  refine lv_iload_n hx hb dX7_carryOutCommand_17 rfl (lv_at hl 2 rfl) ?_
  obtain ⟨z2, hf⟩ := gd hf
  refine va_iald hx hb hK hP 148 1 rfl rfl z2 dX7_carryOutCommand_18 ?_
  by_cases q3 : (zx.2.2.2.1 p1.toNatClampNeg) = 0
  · have hf := it q3 hf
    refine lv_tableIn (tgt := 64) hx hb dX7_carryOutCommand_19 (by rw [q3]; decide) (by rw [q3]; decide) (by rw [q3]; rfl) (by decide) ?_
    refine lv_aload_n hx hb dX7_carryOutCommand_64 rfl (lv_at hl 1 rfl) ?_
    refine va_get (D := (dC, dI)) (ci := 11) (v := .ref (oa 14)) (C := RX7) (T := TX7) (N := 11) hx hb hts in_X7 hown hK hP 0 rfl rfl 1 (by decide) (hts _ (bg _ wd_275)) (fun _ h9 => h9) rfl dX7_carryOutCommand_65 ?_
    refine lv_aload_n hx hb dX7_carryOutCommand_68 rfl (lv_at hl 1 rfl) ?_
    refine va_get (D := (dC, dI)) (ci := 11) (v := .ref (oa 146)) (C := RX7) (T := TX7) (N := 11) hx hb hts in_X7 hown hK hP 0 rfl rfl 5 (by decide) (hts _ (bg _ wd_279)) (fun _ h9 => h9) rfl dX7_carryOutCommand_69 ?_
    refine va_get (D := (dC, dI)) (ci := 10) (v := .ref (oa 149)) (C := RX6) (T := TX6) (N := 8) hx hb hts in_X6 hown hK hP 146 rfl rfl 4 (by decide) (hts _ (bg _ wd_217)) (fun _ h9 => h9) rfl dX7_carryOutCommand_72 ?_
    refine lv_iload_n hx hb dX7_carryOutCommand_75 rfl (lv_at hl 2 rfl) ?_
    obtain ⟨z4, hf⟩ := gd hf
    refine va_cald hx hb hK hP 149 0 rfl rfl z4 dX7_carryOutCommand_76 ?_
    refine lv_iload_n hx hb dX7_carryOutCommand_77 rfl (lv_at hl 0 rfl) ?_
    refine lv_aload_n hx hb dX7_carryOutCommand_78 rfl (lv_at hl 1 rfl) ?_
    refine va_get (D := (dC, dI)) (ci := 11) (v := .ref (oa 146)) (C := RX7) (T := TX7) (N := 11) hx hb hts in_X7 hown hK hP 0 rfl rfl 5 (by decide) (hts _ (bg _ wd_279)) (fun _ h9 => h9) rfl dX7_carryOutCommand_79 ?_
    refine va_get (D := (dC, dI)) (ci := 10) (v := .ref (oa 151)) (C := RX6) (T := TX6) (N := 8) hx hb hts in_X6 hown hK hP 146 rfl rfl 6 (by decide) (hts _ (bg _ wd_221)) (fun _ h9 => h9) rfl dX7_carryOutCommand_82 ?_
    refine lv_iload_n hx hb dX7_carryOutCommand_85 rfl (lv_at hl 2 rfl) ?_
    obtain ⟨z5, hf⟩ := gd hf
    refine va_iald hx hb hK hP 151 1 rfl rfl z5 dX7_carryOutCommand_86 ?_
    obtain ⟨r7, c8, eh6, hf⟩ := bP_inv hf
    refine jg1_i (va_runV (As := [.int (zx.2.2.2.2.1 p1.toNatClampNeg), .int (zx.2.2.2.2.2.1 p1.toNatClampNeg), .int (zx.2.2.2.2.2.2.1 p1.toNatClampNeg)]) (rest := []) ⟨hx, hb, hml, hown, hts⟩ (mt_X0_appendPhase l dC dI dA gz (fun k => oa (14 + k)) s.heap.size zt (zx.2.2.2.2.1 p1.toNatClampNeg) (zx.2.2.2.2.2.1 p1.toNatClampNeg) (zx.2.2.2.2.2.2.1 p1.toNatClampNeg) r7 c8 eh6) (cwV 3 hts (gi_v bg wd_485 wd_486 wd_487 wd_2 wd_488) rfl rfl rfl hd_X0_appendPhase ⟨Nat.le_of_ble_eq_true rfl, Nat.le_of_ble_eq_true rfl⟩) ⟨pP_blind, va_recv (ci := 4) (q0 := 0) hK (seg_P hP 2 rfl) rfl rfl, pP_pre1 hP hD hS hA hK hN hZ 2 rfl⟩ rfl rfl hl.1 rfl (lv_room (Nat.le_of_ble_eq_true rfl)) dX7_carryOutCommand_87 ⟨Nat.le_of_ble_eq_true rfl, Nat.le_of_ble_eq_true rfl⟩) hP hD hS hA 2 rfl (aX0 _ _ _ _) (fun H locs hP hD hS => ?_)
    have hP : va_P (dC, dI) vwCl ([[(oa 0, .inr (11, [.ref (oa 1), .ref (oa 14), .ref (oa 27), .int zv, .ref (oa 40), .ref (oa 146), .int zk, .ref (oa 152), .int zd, .int ze, .int zc]))], wX0 dA (fun k => oa (1 + k)) zb, wX0 dA (fun k => oa (14 + k)) c8, wX0 dA (fun k => oa (27 + k)) zn, wX3 dA (fun k => oa (40 + k)) zh, wX6 dA (fun k => oa (146 + k)) zx, wLN dA (oa 152) ln].flatten : va_W) H := hP
    have hD : va_D A ([[(oa 0, .inr (11, [.ref (oa 1), .ref (oa 14), .ref (oa 27), .int zv, .ref (oa 40), .ref (oa 146), .int zk, .ref (oa 152), .int zd, .int ze, .int zc]))], wX0 dA (fun k => oa (1 + k)) zb, wX0 dA (fun k => oa (14 + k)) c8, wX0 dA (fun k => oa (27 + k)) zn, wX3 dA (fun k => oa (40 + k)) zh, wX6 dA (fun k => oa (146 + k)) zx, wLN dA (oa 152) ln].flatten) := hD
    refine lv_pop hx hb dX7_carryOutCommand_90 rfl ?_
    refine lv_goto (tgt := 185) hx hb dX7_carryOutCommand_91 (by decide) ?_
    have e9 := sm hf
    exact W.vret hx hb hr (fun t ht hW => ⟨⟨(), rfl, trivial, by rw [← e9, ht]; exact hP, by rw [← e9]; exact hD⟩, hS.F ht⟩) hS.2.2 dX7_carryOutCommand_185
  have hf := ie q3 hf
  by_cases q9 : (zx.2.2.2.1 p1.toNatClampNeg) = 1
  · have hf := it q9 hf
    refine lv_tableIn (tgt := 94) hx hb dX7_carryOutCommand_19 (by rw [q9]; decide) (by rw [q9]; decide) (by rw [q9]; rfl) (by decide) ?_
    refine lv_aload_n hx hb dX7_carryOutCommand_94 rfl (lv_at hl 1 rfl) ?_
    refine va_get (D := (dC, dI)) (ci := 11) (v := .ref (oa 14)) (C := RX7) (T := TX7) (N := 11) hx hb hts in_X7 hown hK hP 0 rfl rfl 1 (by decide) (hts _ (bg _ wd_275)) (fun _ h9 => h9) rfl dX7_carryOutCommand_95 ?_
    refine lv_iload_n hx hb dX7_carryOutCommand_98 rfl (lv_at hl 0 rfl) ?_
    obtain ⟨r11, c12, eh10, hf⟩ := bP_inv hf
    refine jg1_i (va_runV (As := [.int (zx.2.2.2.2.2.1 p1.toNatClampNeg)]) (rest := []) ⟨hx, hb, hml, hown, hts⟩ (mt_X0_cutPhase l dC dI dA gz (fun k => oa (14 + k)) s.heap.size zt (zx.2.2.2.2.2.1 p1.toNatClampNeg) r11 c12 eh10) (cwV 1 hts (gi_v bg wd_762 wd_763 wd_764 wd_2 wd_765) rfl rfl rfl hd_X0_cutPhase ⟨Nat.le_of_ble_eq_true rfl, Nat.le_of_ble_eq_true rfl⟩) ⟨pP_blind, va_recv (ci := 4) (q0 := 0) hK (seg_P hP 2 rfl) rfl rfl, pP_pre1 hP hD hS hA hK hN hZ 2 rfl⟩ rfl rfl hl.1 rfl (lv_room (Nat.le_of_ble_eq_true rfl)) dX7_carryOutCommand_99 ⟨Nat.le_of_ble_eq_true rfl, Nat.le_of_ble_eq_true rfl⟩) hP hD hS hA 2 rfl (aX0 _ _ _ _) (fun H locs hP hD hS => ?_)
    have hP : va_P (dC, dI) vwCl ([[(oa 0, .inr (11, [.ref (oa 1), .ref (oa 14), .ref (oa 27), .int zv, .ref (oa 40), .ref (oa 146), .int zk, .ref (oa 152), .int zd, .int ze, .int zc]))], wX0 dA (fun k => oa (1 + k)) zb, wX0 dA (fun k => oa (14 + k)) c12, wX0 dA (fun k => oa (27 + k)) zn, wX3 dA (fun k => oa (40 + k)) zh, wX6 dA (fun k => oa (146 + k)) zx, wLN dA (oa 152) ln].flatten : va_W) H := hP
    have hD : va_D A ([[(oa 0, .inr (11, [.ref (oa 1), .ref (oa 14), .ref (oa 27), .int zv, .ref (oa 40), .ref (oa 146), .int zk, .ref (oa 152), .int zd, .int ze, .int zc]))], wX0 dA (fun k => oa (1 + k)) zb, wX0 dA (fun k => oa (14 + k)) c12, wX0 dA (fun k => oa (27 + k)) zn, wX3 dA (fun k => oa (40 + k)) zh, wX6 dA (fun k => oa (146 + k)) zx, wLN dA (oa 152) ln].flatten) := hD
    refine lv_pop hx hb dX7_carryOutCommand_102 rfl ?_
    refine lv_goto (tgt := 185) hx hb dX7_carryOutCommand_103 (by decide) ?_
    have e9 := sm hf
    exact W.vret hx hb hr (fun t ht hW => ⟨⟨(), rfl, trivial, by rw [← e9, ht]; exact hP, by rw [← e9]; exact hD⟩, hS.F ht⟩) hS.2.2 dX7_carryOutCommand_185
  have hf := ie q9 hf
  by_cases q13 : (zx.2.2.2.1 p1.toNatClampNeg) = 2
  · have hf := it q13 hf
    refine lv_tableIn (tgt := 106) hx hb dX7_carryOutCommand_19 (by rw [q13]; decide) (by rw [q13]; decide) (by rw [q13]; rfl) (by decide) ?_
    refine lv_aload_n hx hb dX7_carryOutCommand_106 rfl (lv_at hl 1 rfl) ?_
    refine va_get (D := (dC, dI)) (ci := 11) (v := .ref (oa 14)) (C := RX7) (T := TX7) (N := 11) hx hb hts in_X7 hown hK hP 0 rfl rfl 1 (by decide) (hts _ (bg _ wd_275)) (fun _ h9 => h9) rfl dX7_carryOutCommand_107 ?_
    refine lv_iload_n hx hb dX7_carryOutCommand_110 rfl (lv_at hl 0 rfl) ?_
    obtain ⟨r15, c16, eh14, hf⟩ := bP_inv hf
    refine jg1_i (va_runV (As := [.int (zx.2.2.2.2.2.1 p1.toNatClampNeg)]) (rest := []) ⟨hx, hb, hml, hown, hts⟩ (mt_X0_loadRock l dC dI dA gz (fun k => oa (14 + k)) s.heap.size zt (zx.2.2.2.2.2.1 p1.toNatClampNeg) r15 c16 eh14) (cwV 1 hts (gi_v bg wd_592 wd_593 wd_594 wd_2 wd_595) rfl rfl rfl hd_X0_loadRock ⟨Nat.le_of_ble_eq_true rfl, Nat.le_of_ble_eq_true rfl⟩) ⟨pP_blind, va_recv (ci := 4) (q0 := 0) hK (seg_P hP 2 rfl) rfl rfl, pP_pre1 hP hD hS hA hK hN hZ 2 rfl⟩ rfl rfl hl.1 rfl (lv_room (Nat.le_of_ble_eq_true rfl)) dX7_carryOutCommand_111 ⟨Nat.le_of_ble_eq_true rfl, Nat.le_of_ble_eq_true rfl⟩) hP hD hS hA 2 rfl (aX0 _ _ _ _) (fun H locs hP hD hS => ?_)
    have hP : va_P (dC, dI) vwCl ([[(oa 0, .inr (11, [.ref (oa 1), .ref (oa 14), .ref (oa 27), .int zv, .ref (oa 40), .ref (oa 146), .int zk, .ref (oa 152), .int zd, .int ze, .int zc]))], wX0 dA (fun k => oa (1 + k)) zb, wX0 dA (fun k => oa (14 + k)) c16, wX0 dA (fun k => oa (27 + k)) zn, wX3 dA (fun k => oa (40 + k)) zh, wX6 dA (fun k => oa (146 + k)) zx, wLN dA (oa 152) ln].flatten : va_W) H := hP
    have hD : va_D A ([[(oa 0, .inr (11, [.ref (oa 1), .ref (oa 14), .ref (oa 27), .int zv, .ref (oa 40), .ref (oa 146), .int zk, .ref (oa 152), .int zd, .int ze, .int zc]))], wX0 dA (fun k => oa (1 + k)) zb, wX0 dA (fun k => oa (14 + k)) c16, wX0 dA (fun k => oa (27 + k)) zn, wX3 dA (fun k => oa (40 + k)) zh, wX6 dA (fun k => oa (146 + k)) zx, wLN dA (oa 152) ln].flatten) := hD
    refine lv_pop hx hb dX7_carryOutCommand_114 rfl ?_
    refine lv_goto (tgt := 185) hx hb dX7_carryOutCommand_115 (by decide) ?_
    have e9 := sm hf
    exact W.vret hx hb hr (fun t ht hW => ⟨⟨(), rfl, trivial, by rw [← e9, ht]; exact hP, by rw [← e9]; exact hD⟩, hS.F ht⟩) hS.2.2 dX7_carryOutCommand_185
  have hf := ie q13 hf
  by_cases q17 : (zx.2.2.2.1 p1.toNatClampNeg) = 3
  · have hf := it q17 hf
    refine lv_tableIn (tgt := 118) hx hb dX7_carryOutCommand_19 (by rw [q17]; decide) (by rw [q17]; decide) (by rw [q17]; rfl) (by decide) ?_
    refine lv_aload_n hx hb dX7_carryOutCommand_118 rfl (lv_at hl 1 rfl) ?_
    refine va_get (D := (dC, dI)) (ci := 11) (v := .ref (oa 14)) (C := RX7) (T := TX7) (N := 11) hx hb hts in_X7 hown hK hP 0 rfl rfl 1 (by decide) (hts _ (bg _ wd_275)) (fun _ h9 => h9) rfl dX7_carryOutCommand_119 ?_
    obtain ⟨r19, c20, eh18, hf⟩ := bP_inv hf
    refine jg1_i (va_runV (As := []) (rest := []) ⟨hx, hb, hml, hown, hts⟩ (mt_X0_startCycle l dC dI dA gz (fun k => oa (14 + k)) s.heap.size zt r19 c20 eh18) (cwV 0 hts (gi_v bg wd_504 wd_505 wd_506 wd_2 wd_507) rfl rfl rfl hd_X0_startCycle ⟨Nat.le_of_ble_eq_true rfl, Nat.le_of_ble_eq_true rfl⟩) ⟨pP_blind, va_recv (ci := 4) (q0 := 0) hK (seg_P hP 2 rfl) rfl rfl, pP_pre1 hP hD hS hA hK hN hZ 2 rfl⟩ rfl rfl hl.1 rfl (lv_room (Nat.le_of_ble_eq_true rfl)) dX7_carryOutCommand_122 ⟨Nat.le_of_ble_eq_true rfl, Nat.le_of_ble_eq_true rfl⟩) hP hD hS hA 2 rfl (aX0 _ _ _ _) (fun H locs hP hD hS => ?_)
    have hP : va_P (dC, dI) vwCl ([[(oa 0, .inr (11, [.ref (oa 1), .ref (oa 14), .ref (oa 27), .int zv, .ref (oa 40), .ref (oa 146), .int zk, .ref (oa 152), .int zd, .int ze, .int zc]))], wX0 dA (fun k => oa (1 + k)) zb, wX0 dA (fun k => oa (14 + k)) c20, wX0 dA (fun k => oa (27 + k)) zn, wX3 dA (fun k => oa (40 + k)) zh, wX6 dA (fun k => oa (146 + k)) zx, wLN dA (oa 152) ln].flatten : va_W) H := hP
    have hD : va_D A ([[(oa 0, .inr (11, [.ref (oa 1), .ref (oa 14), .ref (oa 27), .int zv, .ref (oa 40), .ref (oa 146), .int zk, .ref (oa 152), .int zd, .int ze, .int zc]))], wX0 dA (fun k => oa (1 + k)) zb, wX0 dA (fun k => oa (14 + k)) c20, wX0 dA (fun k => oa (27 + k)) zn, wX3 dA (fun k => oa (40 + k)) zh, wX6 dA (fun k => oa (146 + k)) zx, wLN dA (oa 152) ln].flatten) := hD
    refine lv_pop hx hb dX7_carryOutCommand_125 rfl ?_
    refine lv_goto (tgt := 185) hx hb dX7_carryOutCommand_126 (by decide) ?_
    have e9 := sm hf
    exact W.vret hx hb hr (fun t ht hW => ⟨⟨(), rfl, trivial, by rw [← e9, ht]; exact hP, by rw [← e9]; exact hD⟩, hS.F ht⟩) hS.2.2 dX7_carryOutCommand_185
  have hf := ie q17 hf
  by_cases q21 : (zx.2.2.2.1 p1.toNatClampNeg) = 4
  · have hf := it q21 hf
    refine lv_tableIn (tgt := 129) hx hb dX7_carryOutCommand_19 (by rw [q21]; decide) (by rw [q21]; decide) (by rw [q21]; rfl) (by decide) ?_
    refine lv_aload_n hx hb dX7_carryOutCommand_129 rfl (lv_at hl 1 rfl) ?_
    refine va_get (D := (dC, dI)) (ci := 11) (v := .ref (oa 14)) (C := RX7) (T := TX7) (N := 11) hx hb hts in_X7 hown hK hP 0 rfl rfl 1 (by decide) (hts _ (bg _ wd_275)) (fun _ h9 => h9) rfl dX7_carryOutCommand_130 ?_
    obtain ⟨r23, c24, eh22, hf⟩ := bP_inv hf
    refine jg1_i (va_runV (As := []) (rest := []) ⟨hx, hb, hml, hown, hts⟩ (mt_X0_stopCycle l dC dI dA gz (fun k => oa (14 + k)) s.heap.size zt r23 c24 eh22) (cwV 0 hts (gi_v bg wd_528 wd_529 wd_530 wd_2 wd_531) rfl rfl rfl hd_X0_stopCycle ⟨Nat.le_of_ble_eq_true rfl, Nat.le_of_ble_eq_true rfl⟩) ⟨pP_blind, va_recv (ci := 4) (q0 := 0) hK (seg_P hP 2 rfl) rfl rfl, pP_pre1 hP hD hS hA hK hN hZ 2 rfl⟩ rfl rfl hl.1 rfl (lv_room (Nat.le_of_ble_eq_true rfl)) dX7_carryOutCommand_133 ⟨Nat.le_of_ble_eq_true rfl, Nat.le_of_ble_eq_true rfl⟩) hP hD hS hA 2 rfl (aX0 _ _ _ _) (fun H locs hP hD hS => ?_)
    have hP : va_P (dC, dI) vwCl ([[(oa 0, .inr (11, [.ref (oa 1), .ref (oa 14), .ref (oa 27), .int zv, .ref (oa 40), .ref (oa 146), .int zk, .ref (oa 152), .int zd, .int ze, .int zc]))], wX0 dA (fun k => oa (1 + k)) zb, wX0 dA (fun k => oa (14 + k)) c24, wX0 dA (fun k => oa (27 + k)) zn, wX3 dA (fun k => oa (40 + k)) zh, wX6 dA (fun k => oa (146 + k)) zx, wLN dA (oa 152) ln].flatten : va_W) H := hP
    have hD : va_D A ([[(oa 0, .inr (11, [.ref (oa 1), .ref (oa 14), .ref (oa 27), .int zv, .ref (oa 40), .ref (oa 146), .int zk, .ref (oa 152), .int zd, .int ze, .int zc]))], wX0 dA (fun k => oa (1 + k)) zb, wX0 dA (fun k => oa (14 + k)) c24, wX0 dA (fun k => oa (27 + k)) zn, wX3 dA (fun k => oa (40 + k)) zh, wX6 dA (fun k => oa (146 + k)) zx, wLN dA (oa 152) ln].flatten) := hD
    refine lv_pop hx hb dX7_carryOutCommand_136 rfl ?_
    refine lv_goto (tgt := 185) hx hb dX7_carryOutCommand_137 (by decide) ?_
    have e9 := sm hf
    exact W.vret hx hb hr (fun t ht hW => ⟨⟨(), rfl, trivial, by rw [← e9, ht]; exact hP, by rw [← e9]; exact hD⟩, hS.F ht⟩) hS.2.2 dX7_carryOutCommand_185
  have hf := ie q21 hf
  by_cases q25 : (zx.2.2.2.1 p1.toNatClampNeg) = 5
  · have hf := it q25 hf
    refine lv_tableIn (tgt := 140) hx hb dX7_carryOutCommand_19 (by rw [q25]; decide) (by rw [q25]; decide) (by rw [q25]; rfl) (by decide) ?_
    refine lv_aload_n hx hb dX7_carryOutCommand_140 rfl (lv_at hl 1 rfl) ?_
    refine va_get (D := (dC, dI)) (ci := 11) (v := .ref (oa 14)) (C := RX7) (T := TX7) (N := 11) hx hb hts in_X7 hown hK hP 0 rfl rfl 1 (by decide) (hts _ (bg _ wd_275)) (fun _ h9 => h9) rfl dX7_carryOutCommand_141 ?_
    refine lv_iload_n hx hb dX7_carryOutCommand_144 rfl (lv_at hl 0 rfl) ?_
    obtain ⟨r27, c28, eh26, hf⟩ := bP_inv hf
    refine jg1_i (va_runV (As := [.int (zx.2.2.2.2.2.1 p1.toNatClampNeg)]) (rest := []) ⟨hx, hb, hml, hown, hts⟩ (mt_X0_passMinutes l dC dI dA gz (fun k => oa (14 + k)) s.heap.size zt (zx.2.2.2.2.2.1 p1.toNatClampNeg) r27 c28 eh26) (cwV 1 hts (gi_v bg wd_547 wd_548 wd_549 wd_2 wd_550) rfl rfl rfl hd_X0_passMinutes ⟨Nat.le_of_ble_eq_true rfl, Nat.le_of_ble_eq_true rfl⟩) ⟨pP_blind, va_recv (ci := 4) (q0 := 0) hK (seg_P hP 2 rfl) rfl rfl, pP_pre1 hP hD hS hA hK hN hZ 2 rfl⟩ rfl rfl hl.1 rfl (lv_room (Nat.le_of_ble_eq_true rfl)) dX7_carryOutCommand_145 ⟨Nat.le_of_ble_eq_true rfl, Nat.le_of_ble_eq_true rfl⟩) hP hD hS hA 2 rfl (aX0 _ _ _ _) (fun H locs hP hD hS => ?_)
    have hP : va_P (dC, dI) vwCl ([[(oa 0, .inr (11, [.ref (oa 1), .ref (oa 14), .ref (oa 27), .int zv, .ref (oa 40), .ref (oa 146), .int zk, .ref (oa 152), .int zd, .int ze, .int zc]))], wX0 dA (fun k => oa (1 + k)) zb, wX0 dA (fun k => oa (14 + k)) c28, wX0 dA (fun k => oa (27 + k)) zn, wX3 dA (fun k => oa (40 + k)) zh, wX6 dA (fun k => oa (146 + k)) zx, wLN dA (oa 152) ln].flatten : va_W) H := hP
    have hD : va_D A ([[(oa 0, .inr (11, [.ref (oa 1), .ref (oa 14), .ref (oa 27), .int zv, .ref (oa 40), .ref (oa 146), .int zk, .ref (oa 152), .int zd, .int ze, .int zc]))], wX0 dA (fun k => oa (1 + k)) zb, wX0 dA (fun k => oa (14 + k)) c28, wX0 dA (fun k => oa (27 + k)) zn, wX3 dA (fun k => oa (40 + k)) zh, wX6 dA (fun k => oa (146 + k)) zx, wLN dA (oa 152) ln].flatten) := hD
    refine lv_pop hx hb dX7_carryOutCommand_148 rfl ?_
    refine lv_goto (tgt := 185) hx hb dX7_carryOutCommand_149 (by decide) ?_
    have e9 := sm hf
    exact W.vret hx hb hr (fun t ht hW => ⟨⟨(), rfl, trivial, by rw [← e9, ht]; exact hP, by rw [← e9]; exact hD⟩, hS.F ht⟩) hS.2.2 dX7_carryOutCommand_185
  have hf := ie q25 hf
  by_cases q29 : (zx.2.2.2.1 p1.toNatClampNeg) = 6
  · have hf := it q29 hf
    refine lv_tableIn (tgt := 152) hx hb dX7_carryOutCommand_19 (by rw [q29]; decide) (by rw [q29]; decide) (by rw [q29]; rfl) (by decide) ?_
    refine lv_aload_n hx hb dX7_carryOutCommand_152 rfl (lv_at hl 1 rfl) ?_
    refine va_get (D := (dC, dI)) (ci := 11) (v := .ref (oa 14)) (C := RX7) (T := TX7) (N := 11) hx hb hts in_X7 hown hK hP 0 rfl rfl 1 (by decide) (hts _ (bg _ wd_275)) (fun _ h9 => h9) rfl dX7_carryOutCommand_153 ?_
    refine lv_iload_n hx hb dX7_carryOutCommand_156 rfl (lv_at hl 0 rfl) ?_
    obtain ⟨r31, c32, eh30, hf⟩ := bP_inv hf
    refine jg1_i (va_runV (As := [.int (zx.2.2.2.2.2.1 p1.toNatClampNeg)]) (rest := []) ⟨hx, hb, hml, hown, hts⟩ (mt_X0_pressPat l dC dI dA gz (fun k => oa (14 + k)) s.heap.size zt (zx.2.2.2.2.2.1 p1.toNatClampNeg) r31 c32 eh30) (cwV 1 hts (gi_v bg wd_611 wd_612 wd_613 wd_2 wd_614) rfl rfl rfl hd_X0_pressPat ⟨Nat.le_of_ble_eq_true rfl, Nat.le_of_ble_eq_true rfl⟩) ⟨pP_blind, va_recv (ci := 4) (q0 := 0) hK (seg_P hP 2 rfl) rfl rfl, pP_pre1 hP hD hS hA hK hN hZ 2 rfl⟩ rfl rfl hl.1 rfl (lv_room (Nat.le_of_ble_eq_true rfl)) dX7_carryOutCommand_157 ⟨Nat.le_of_ble_eq_true rfl, Nat.le_of_ble_eq_true rfl⟩) hP hD hS hA 2 rfl (aX0 _ _ _ _) (fun H locs hP hD hS => ?_)
    have hP : va_P (dC, dI) vwCl ([[(oa 0, .inr (11, [.ref (oa 1), .ref (oa 14), .ref (oa 27), .int zv, .ref (oa 40), .ref (oa 146), .int zk, .ref (oa 152), .int zd, .int ze, .int zc]))], wX0 dA (fun k => oa (1 + k)) zb, wX0 dA (fun k => oa (14 + k)) c32, wX0 dA (fun k => oa (27 + k)) zn, wX3 dA (fun k => oa (40 + k)) zh, wX6 dA (fun k => oa (146 + k)) zx, wLN dA (oa 152) ln].flatten : va_W) H := hP
    have hD : va_D A ([[(oa 0, .inr (11, [.ref (oa 1), .ref (oa 14), .ref (oa 27), .int zv, .ref (oa 40), .ref (oa 146), .int zk, .ref (oa 152), .int zd, .int ze, .int zc]))], wX0 dA (fun k => oa (1 + k)) zb, wX0 dA (fun k => oa (14 + k)) c32, wX0 dA (fun k => oa (27 + k)) zn, wX3 dA (fun k => oa (40 + k)) zh, wX6 dA (fun k => oa (146 + k)) zx, wLN dA (oa 152) ln].flatten) := hD
    refine lv_pop hx hb dX7_carryOutCommand_160 rfl ?_
    refine lv_goto (tgt := 185) hx hb dX7_carryOutCommand_161 (by decide) ?_
    have e9 := sm hf
    exact W.vret hx hb hr (fun t ht hW => ⟨⟨(), rfl, trivial, by rw [← e9, ht]; exact hP, by rw [← e9]; exact hD⟩, hS.F ht⟩) hS.2.2 dX7_carryOutCommand_185
  have hf := ie q29 hf
  by_cases q33 : (zx.2.2.2.1 p1.toNatClampNeg) = 7
  · have hf := it q33 hf
    refine lv_tableIn (tgt := 164) hx hb dX7_carryOutCommand_19 (by rw [q33]; decide) (by rw [q33]; decide) (by rw [q33]; rfl) (by decide) ?_
    refine lv_aload_n hx hb dX7_carryOutCommand_164 rfl (lv_at hl 1 rfl) ?_
    refine va_get (D := (dC, dI)) (ci := 11) (v := .ref (oa 14)) (C := RX7) (T := TX7) (N := 11) hx hb hts in_X7 hown hK hP 0 rfl rfl 1 (by decide) (hts _ (bg _ wd_275)) (fun _ h9 => h9) rfl dX7_carryOutCommand_165 ?_
    refine lv_iload_n hx hb dX7_carryOutCommand_168 rfl (lv_at hl 0 rfl) ?_
    obtain ⟨r35, c36, eh34, hf⟩ := bP_inv hf
    refine jg1_i (va_runV (As := [.int (zx.2.2.2.2.2.1 p1.toNatClampNeg)]) (rest := []) ⟨hx, hb, hml, hown, hts⟩ (mt_X0_takeGrade l dC dI dA gz (fun k => oa (14 + k)) s.heap.size zt (zx.2.2.2.2.2.1 p1.toNatClampNeg) r35 c36 eh34) (cwV 1 hts (gi_v bg wd_770 wd_771 wd_772 wd_2 wd_773) rfl rfl rfl hd_X0_takeGrade ⟨Nat.le_of_ble_eq_true rfl, Nat.le_of_ble_eq_true rfl⟩) ⟨pP_blind, va_recv (ci := 4) (q0 := 0) hK (seg_P hP 2 rfl) rfl rfl, pP_pre1 hP hD hS hA hK hN hZ 2 rfl⟩ rfl rfl hl.1 rfl (lv_room (Nat.le_of_ble_eq_true rfl)) dX7_carryOutCommand_169 ⟨Nat.le_of_ble_eq_true rfl, Nat.le_of_ble_eq_true rfl⟩) hP hD hS hA 2 rfl (aX0 _ _ _ _) (fun H locs hP hD hS => ?_)
    have hP : va_P (dC, dI) vwCl ([[(oa 0, .inr (11, [.ref (oa 1), .ref (oa 14), .ref (oa 27), .int zv, .ref (oa 40), .ref (oa 146), .int zk, .ref (oa 152), .int zd, .int ze, .int zc]))], wX0 dA (fun k => oa (1 + k)) zb, wX0 dA (fun k => oa (14 + k)) c36, wX0 dA (fun k => oa (27 + k)) zn, wX3 dA (fun k => oa (40 + k)) zh, wX6 dA (fun k => oa (146 + k)) zx, wLN dA (oa 152) ln].flatten : va_W) H := hP
    have hD : va_D A ([[(oa 0, .inr (11, [.ref (oa 1), .ref (oa 14), .ref (oa 27), .int zv, .ref (oa 40), .ref (oa 146), .int zk, .ref (oa 152), .int zd, .int ze, .int zc]))], wX0 dA (fun k => oa (1 + k)) zb, wX0 dA (fun k => oa (14 + k)) c36, wX0 dA (fun k => oa (27 + k)) zn, wX3 dA (fun k => oa (40 + k)) zh, wX6 dA (fun k => oa (146 + k)) zx, wLN dA (oa 152) ln].flatten) := hD
    refine lv_pop hx hb dX7_carryOutCommand_172 rfl ?_
    refine lv_goto (tgt := 185) hx hb dX7_carryOutCommand_173 (by decide) ?_
    have e9 := sm hf
    exact W.vret hx hb hr (fun t ht hW => ⟨⟨(), rfl, trivial, by rw [← e9, ht]; exact hP, by rw [← e9]; exact hD⟩, hS.F ht⟩) hS.2.2 dX7_carryOutCommand_185
  have hf := ie q33 hf
  refine lv_tableOut (tgt := 176) hx hb dX7_carryOutCommand_19 (by have := ti_ne (k := 0) q3 (by decide); have := ti_ne (k := 1) q9 (by decide); have := ti_ne (k := 2) q13 (by decide); have := ti_ne (k := 3) q17 (by decide); have := ti_ne (k := 4) q21 (by decide); have := ti_ne (k := 5) q25 (by decide); have := ti_ne (k := 6) q29 (by decide); have := ti_ne (k := 7) q33 (by decide); omega) (by decide) ?_
  refine lv_aload_n hx hb dX7_carryOutCommand_176 rfl (lv_at hl 1 rfl) ?_
  refine va_get (D := (dC, dI)) (ci := 11) (v := .ref (oa 14)) (C := RX7) (T := TX7) (N := 11) hx hb hts in_X7 hown hK hP 0 rfl rfl 1 (by decide) (hts _ (bg _ wd_275)) (fun _ h9 => h9) rfl dX7_carryOutCommand_177 ?_
  refine lv_iload_n hx hb dX7_carryOutCommand_180 rfl (lv_at hl 0 rfl) ?_
  obtain ⟨r38, c39, eh37, hf⟩ := bP_inv hf
  refine jg1_i (va_runV (As := [.int (zx.2.2.2.2.2.1 p1.toNatClampNeg)]) (rest := []) ⟨hx, hb, hml, hown, hts⟩ (mt_X0_crushPat l dC dI dA gz (fun k => oa (14 + k)) s.heap.size zt (zx.2.2.2.2.2.1 p1.toNatClampNeg) r38 c39 eh37) (cwV 1 hts (gi_v bg wd_791 wd_792 wd_793 wd_2 wd_794) rfl rfl rfl hd_X0_crushPat ⟨Nat.le_of_ble_eq_true rfl, Nat.le_of_ble_eq_true rfl⟩) ⟨pP_blind, va_recv (ci := 4) (q0 := 0) hK (seg_P hP 2 rfl) rfl rfl, pP_pre1 hP hD hS hA hK hN hZ 2 rfl⟩ rfl rfl hl.1 rfl (lv_room (Nat.le_of_ble_eq_true rfl)) dX7_carryOutCommand_181 ⟨Nat.le_of_ble_eq_true rfl, Nat.le_of_ble_eq_true rfl⟩) hP hD hS hA 2 rfl (aX0 _ _ _ _) (fun H locs hP hD hS => ?_)
  have hP : va_P (dC, dI) vwCl ([[(oa 0, .inr (11, [.ref (oa 1), .ref (oa 14), .ref (oa 27), .int zv, .ref (oa 40), .ref (oa 146), .int zk, .ref (oa 152), .int zd, .int ze, .int zc]))], wX0 dA (fun k => oa (1 + k)) zb, wX0 dA (fun k => oa (14 + k)) c39, wX0 dA (fun k => oa (27 + k)) zn, wX3 dA (fun k => oa (40 + k)) zh, wX6 dA (fun k => oa (146 + k)) zx, wLN dA (oa 152) ln].flatten : va_W) H := hP
  have hD : va_D A ([[(oa 0, .inr (11, [.ref (oa 1), .ref (oa 14), .ref (oa 27), .int zv, .ref (oa 40), .ref (oa 146), .int zk, .ref (oa 152), .int zd, .int ze, .int zc]))], wX0 dA (fun k => oa (1 + k)) zb, wX0 dA (fun k => oa (14 + k)) c39, wX0 dA (fun k => oa (27 + k)) zn, wX3 dA (fun k => oa (40 + k)) zh, wX6 dA (fun k => oa (146 + k)) zx, wLN dA (oa 152) ln].flatten) := hD
  refine lv_pop hx hb dX7_carryOutCommand_184 rfl ?_
  have e9 := sm hf
  exact W.vret hx hb hr (fun t ht hW => ⟨⟨(), rfl, trivial, by rw [← e9, ht]; exact hP, by rw [← e9]; exact hD⟩, hS.F ht⟩) hS.2.2 dX7_carryOutCommand_185
/-! X7_execute -/
def f_X7_execute_54  : Nat → Int32 → SX0 → SX0 → SX0 → Int32 → SX3 → SX6 → Int32 → Int32 → Int32 → Int32 →  Option ((Int32 ⊕ String) × SX7)
  | 0, _, _, _, _, _, _, _, _, _, _, _ => none
  | n9 + 1, x2, zb, zt, zn, zv, zh, zx, zk, zd, ze, zc =>
  (if zx.2.2.2.2.2.2.2 ≤ x2 then (g_X3_push zh zb).bind fun c3 =>
  (g_X0_copyFrom zb zt).bind fun c5 =>
  some (.inl zx.2.2.2.2.2.2.2, (c5, zt, zn, zv, c3, zx, zk, zd, ze, zc)) else
  (f_X7_judgeCommand zb zt zn zv zh zx zk zd ze zc x2).bind fun r7 =>
  (if r7 = 0 then b7 (f_X7_carryOutCommand zb zt zn zv zh zx zk zd ze zc x2) fun c10_zb c10_zt c10_zn c10_zv c10_zh c10_zx c10_zk c10_zd c10_ze c10_zc =>
  f_X7_execute_54 n9 (x2 + 1) c10_zb c10_zt c10_zn c10_zv c10_zh c10_zx c10_zk c10_zd c10_ze c10_zc else
  b7 (f_X7_keepDenial zb zt zn zv zh zx zk zd ze zc 7 x2 r7) fun c12_zb c12_zt c12_zn c12_zv c12_zh c12_zx c12_zk c12_zd c12_ze c12_zc =>
  some (.inr "java/lang/UnsupportedOperationException", (c12_zb, c12_zt, c12_zn, c12_zv, c12_zh, c12_zx, c12_zk, c12_zd, c12_ze, c12_zc))))
def f_X7_execute (zb : SX0) (zt : SX0) (zn : SX0) (zv : Int32) (zh : SX3) (zx : SX6) (zk : Int32) (zd : Int32) (ze : Int32) (zc : Int32) : Option ((Int32 ⊕ String) × SX7) :=
  bP (g_X6_readCommands zx) fun r14 c15 =>
  (g_X6_clear c15).bind fun c17 =>
  (if r14 = 0 then some (.inr "java/lang/IllegalArgumentException", (zb, zt, zn, zv, zh, c17, c17.2.2.1, zd, ze, zc)) else
  (g_X0_copyFrom zt zb).bind fun c20 =>
  f_X7_execute_54 300 0 zb c20 zn zv zh c17 zk zd ze zc)
set_option maxRecDepth 100000 in
set_option maxHeartbeats 4000000 in
theorem m_X7_execute (l : Launch) (hl0 : l.stackTraces = false) (dC : Nat → ClassId) (dI : Nat → Nat → Nat) (dA gz : Nat → Nat) (oa : Nat → Nat) (sz : Nat) (ln : LN) (zb : SX0) (zt : SX0) (zn : SX0) (zv : Int32) (zh : SX3) (zx : SX6) (zk : Int32) (zd : Int32) (ze : Int32) (zc : Int32) (rr : Int32 ⊕ String) (uu : SX7) (hf : f_X7_execute zb zt zn zv zh zx zk zd ze zc = some (rr, uu)) : vx_Met l yX7_execute ws_X7_execute ({ frames := 46, cells := 1, slots := 6, locals := 2000 } : Room) (va_Pc [.ref (oa 0)] (pP (dC, dI) dA gz (wX7 dA oa (zb, zt, zn, zv, zh, zx, zk, zd, ze, zc) ln) sz)) (va_Qi (S := Unit) (fun r' _ => rr = Sum.inl r') (fun _ t => pQ (dC, dI) (va_A (wX7 dA oa (zb, zt, zn, zv, zh, zx, zk, zd, ze, zc) ln) sz) (wX7 dA oa uu ln) t) (va_A (wX7 dA oa (zb, zt, zn, zv, zh, zx, zk, zd, ze, zc) ln) sz)) (XCx (dC, dI) (va_A (wX7 dA oa (zb, zt, zn, zv, zh, zx, zk, zd, ze, zc) ln) sz) rr (wX7 dA oa uu ln)) 1 6 (va_A (wX7 dA oa (zb, zt, zn, zv, zh, zx, zk, zd, ze, zc) ln) sz) := by
  refine vx_ofW (cc := cX7_execute) (maxL := 4) (ret := (some .int)) (by decide) rfl ?_
  intro p e s m args below meth c s₁ B hml ht9 hv
  obtain ⟨rfl, hsz, hP, hK, hD0, hN, hZ⟩ := hv
  have hx := B.exec
  have hb := B.bytes
  have hr := B.returns
  have hts := atoms_spec (ws := ws_X7_execute) B.pre
  have htb : ∀ w ∈ BIG, w.before _ s = true := fun w h => hts w (bg w h)
  have hown : s.vm.findClass RX7 = some m.cls := findClass_of_methodNamed B.named
  have hlocks := B.notSynchronized
  subst hsz
  have hD := hD0.self (sz := s.heap.size)
  generalize hAe : va_A (wX7 dA oa (zb, zt, zn, zv, zh, zx, zk, zd, ze, zc) ln) s.heap.size = A at hD hZ ⊢
  have hA : ∀ q : Nat, s.heap.size ≤ q → A q := fun q h => by rw [← hAe]; exact Or.inr h
  have hS : va_S A s.heap s.heap [] := va_S.rf
  have hP : va_P (dC, dI) vwCl ([[(oa 0, .inr (11, [.ref (oa 1), .ref (oa 14), .ref (oa 27), .int zv, .ref (oa 40), .ref (oa 146), .int zk, .ref (oa 152), .int zd, .int ze, .int zc]))], wX0 dA (fun k => oa (1 + k)) zb, wX0 dA (fun k => oa (14 + k)) zt, wX0 dA (fun k => oa (27 + k)) zn, wX3 dA (fun k => oa (40 + k)) zh, wX6 dA (fun k => oa (146 + k)) zx, wLN dA (oa 152) ln].flatten) s.heap := hP
  have hD : va_D A ([[(oa 0, .inr (11, [.ref (oa 1), .ref (oa 14), .ref (oa 27), .int zv, .ref (oa 40), .ref (oa 146), .int zk, .ref (oa 152), .int zd, .int ze, .int zc]))], wX0 dA (fun k => oa (1 + k)) zb, wX0 dA (fun k => oa (14 + k)) zt, wX0 dA (fun k => oa (27 + k)) zn, wX3 dA (fun k => oa (40 + k)) zh, wX6 dA (fun k => oa (146 + k)) zx, wLN dA (oa 152) ln].flatten) := hD
  have hl := lv_entry [.ref (oa 0)] (n := 4) (Nat.le_of_ble_eq_true rfl)
  rw [lg_entry_eq]
  generalize (lg_sl [.ref (oa 0)] ++ List.replicate (4 - (lg_sl [.ref (oa 0)]).length) Slot.unset).toArray = ls at hl ⊢
  have hl : lv_has ls 4 [(0, .ref (oa 0))] := hl
  have in_X6 : ∀ w ∈ wsX60, w ∈ ws_X7_execute := fun w h => bg _ (inB_X6 w h)
  have in_X7 : ∀ w ∈ wsX70, w ∈ ws_X7_execute := fun w h => bg _ (inB_X7 w h)
  have cut54 : ∀ (n9 : Nat) (x2 : Int32) (zb : SX0) (zt : SX0) (zn : SX0) (zv : Int32) (zh : SX3) (zx : SX6) (zk : Int32) (zd : Int32) (ze : Int32) (zc : Int32) (H : Heap) (locs : List Loc) (ls : Array Slot), f_X7_execute_54 n9 x2 zb zt zn zv zh zx zk zd ze zc = some (rr, uu) → va_P (dC, dI) vwCl ([[(oa 0, .inr (11, [.ref (oa 1), .ref (oa 14), .ref (oa 27), .int zv, .ref (oa 40), .ref (oa 146), .int zk, .ref (oa 152), .int zd, .int ze, .int zc]))], wX0 dA (fun k => oa (1 + k)) zb, wX0 dA (fun k => oa (14 + k)) zt, wX0 dA (fun k => oa (27 + k)) zn, wX3 dA (fun k => oa (40 + k)) zh, wX6 dA (fun k => oa (146 + k)) zx, wLN dA (oa 152) ln].flatten) H → va_D A ([[(oa 0, .inr (11, [.ref (oa 1), .ref (oa 14), .ref (oa 27), .int zv, .ref (oa 40), .ref (oa 146), .int zk, .ref (oa 152), .int zd, .int ze, .int zc]))], wX0 dA (fun k => oa (1 + k)) zb, wX0 dA (fun k => oa (14 + k)) zt, wX0 dA (fun k => oa (27 + k)) zn, wX3 dA (fun k => oa (40 + k)) zh, wX6 dA (fun k => oa (146 + k)) zx, wLN dA (oa 152) ln].flatten) → va_S A s.heap H locs → lv_has ls 4 [(0, .ref (oa 0)), (2, .int x2)] → W p l e (headSpec ws_X7_execute ({ frames := 46, cells := 1, slots := 6, locals := 2000 } : Room)).room s m ([.ref (oa 0)] : List Value).toArray below meth c H locs 0 0 (vx_MQ below (va_Qi (S := Unit) (fun r' _ => rr = Sum.inl r') (fun _ t => pQ (dC, dI) A (wX7 dA oa uu ln) t) A) (XCx (dC, dI) A rr (wX7 dA oa uu ln)) ([.ref (oa 0)] : List Value).toArray s 1 6 A) (F0 m 54 ls []) := by
    intro n9
    induction n9 with
    | zero =>
      intro x2 zb zt zn zv zh zx zk zd ze zc H locs ls hf
      rw [f_X7_execute_54] at hf
      cases hf
    | succ n9 ih =>
      intro x2 zb zt zn zv zh zx zk zd ze zc H locs ls hf hP hD hS hl
      rw [f_X7_execute_54] at hf
      refine lv_iload_n hx hb dX7_execute_54 rfl (lv_at hl 1 rfl) ?_
      refine lv_aload_n hx hb dX7_execute_55 rfl (lv_at hl 0 rfl) ?_
      refine va_get (D := (dC, dI)) (ci := 11) (v := .ref (oa 146)) (C := RX7) (T := TX7) (N := 11) hx hb hts in_X7 hown hK hP 0 rfl rfl 5 (by decide) (hts _ (bg _ wd_279)) (fun _ h9 => h9) rfl dX7_execute_56 ?_
      refine va_get (D := (dC, dI)) (ci := 10) (v := .int zx.2.2.2.2.2.2.2) (C := RX6) (T := TX6) (N := 8) hx hb hts in_X6 hown hK hP 146 rfl rfl 7 (by decide) (hts _ (bg _ wd_223)) (fun _ h9 => h9) rfl dX7_execute_59 ?_
      refine lv_icmp_ge (tgt := 105) hx hb dX7_execute_62 (by decide) (fun q1 => ?_) (fun q1 => ?_)
      · have hf := it q1 hf
        refine lv_aload_n hx hb dX7_execute_105 rfl (lv_at hl 0 rfl) ?_
        refine va_get (D := (dC, dI)) (ci := 11) (v := .ref (oa 40)) (C := RX7) (T := TX7) (N := 11) hx hb hts in_X7 hown hK hP 0 rfl rfl 4 (by decide) (hts _ (bg _ wd_278)) (fun _ h9 => h9) rfl dX7_execute_106 ?_
        refine lv_aload_n hx hb dX7_execute_109 rfl (lv_at hl 0 rfl) ?_
        refine va_get (D := (dC, dI)) (ci := 11) (v := .ref (oa 1)) (C := RX7) (T := TX7) (N := 11) hx hb hts in_X7 hown hK hP 0 rfl rfl 0 (by decide) (hts _ (bg _ wd_274)) (fun _ h9 => h9) rfl dX7_execute_110 ?_
        obtain ⟨c3, eh2, hf⟩ := bd hf
        refine jg2_v (va_runV (As := [.ref (oa 1)]) (rest := []) ⟨hx, hb, hml, hown, hts⟩ (mt_X3_push l dC dI dA gz (fun k => oa (40 + k)) (fun k => oa (1 + k)) H.size zh zb c3 eh2) (cwV 1 hts (gi_v bg wd_477 wd_478 wd_479 wd_7 wd_480) rfl rfl rfl hd_X3_push ⟨Nat.le_of_ble_eq_true rfl, Nat.le_of_ble_eq_true rfl⟩) ⟨pP_blind, va_recv (ci := 7) (q0 := 0) hK (seg_P hP 4 rfl) rfl rfl, pP_pre2 hP hD hS hA hK hN hZ 4 1 rfl rfl (by decide)⟩ rfl rfl hl.1 rfl (lv_room (Nat.le_of_ble_eq_true rfl)) dX7_execute_113 ⟨Nat.le_of_ble_eq_true rfl, Nat.le_of_ble_eq_true rfl⟩) hP hD hS hA 4 1 rfl rfl (by decide) (aX3 _ _ _ _) (fun H locs hP hD hS => ?_)
        have hP : va_P (dC, dI) vwCl ([[(oa 0, .inr (11, [.ref (oa 1), .ref (oa 14), .ref (oa 27), .int zv, .ref (oa 40), .ref (oa 146), .int zk, .ref (oa 152), .int zd, .int ze, .int zc]))], wX0 dA (fun k => oa (1 + k)) zb, wX0 dA (fun k => oa (14 + k)) zt, wX0 dA (fun k => oa (27 + k)) zn, wX3 dA (fun k => oa (40 + k)) c3, wX6 dA (fun k => oa (146 + k)) zx, wLN dA (oa 152) ln].flatten : va_W) H := hP
        have hD : va_D A ([[(oa 0, .inr (11, [.ref (oa 1), .ref (oa 14), .ref (oa 27), .int zv, .ref (oa 40), .ref (oa 146), .int zk, .ref (oa 152), .int zd, .int ze, .int zc]))], wX0 dA (fun k => oa (1 + k)) zb, wX0 dA (fun k => oa (14 + k)) zt, wX0 dA (fun k => oa (27 + k)) zn, wX3 dA (fun k => oa (40 + k)) c3, wX6 dA (fun k => oa (146 + k)) zx, wLN dA (oa 152) ln].flatten) := hD
        refine lv_aload_n hx hb dX7_execute_116 rfl (lv_at hl 0 rfl) ?_
        refine va_get (D := (dC, dI)) (ci := 11) (v := .ref (oa 1)) (C := RX7) (T := TX7) (N := 11) hx hb hts in_X7 hown hK hP 0 rfl rfl 0 (by decide) (hts _ (bg _ wd_274)) (fun _ h9 => h9) rfl dX7_execute_117 ?_
        refine lv_aload_n hx hb dX7_execute_120 rfl (lv_at hl 0 rfl) ?_
        refine va_get (D := (dC, dI)) (ci := 11) (v := .ref (oa 14)) (C := RX7) (T := TX7) (N := 11) hx hb hts in_X7 hown hK hP 0 rfl rfl 1 (by decide) (hts _ (bg _ wd_275)) (fun _ h9 => h9) rfl dX7_execute_121 ?_
        obtain ⟨c5, eh4, hf⟩ := bd hf
        refine jg2_v (va_runV (As := [.ref (oa 14)]) (rest := []) ⟨hx, hb, hml, hown, hts⟩ (mt_X0_copyFrom l dC dI dA gz (fun k => oa (1 + k)) (fun k => oa (14 + k)) H.size zb zt c5 eh4) (cwV 1 hts (gi_v bg wd_316 wd_317 wd_318 wd_2 wd_319) rfl rfl rfl hd_X0_copyFrom ⟨Nat.le_of_ble_eq_true rfl, Nat.le_of_ble_eq_true rfl⟩) ⟨pP_blind, va_recv (ci := 4) (q0 := 0) hK (seg_P hP 1 rfl) rfl rfl, pP_pre2 hP hD hS hA hK hN hZ 1 2 rfl rfl (by decide)⟩ rfl rfl hl.1 rfl (lv_room (Nat.le_of_ble_eq_true rfl)) dX7_execute_124 ⟨Nat.le_of_ble_eq_true rfl, Nat.le_of_ble_eq_true rfl⟩) hP hD hS hA 1 2 rfl rfl (by decide) (aX0 _ _ _ _) (fun H locs hP hD hS => ?_)
        have hP : va_P (dC, dI) vwCl ([[(oa 0, .inr (11, [.ref (oa 1), .ref (oa 14), .ref (oa 27), .int zv, .ref (oa 40), .ref (oa 146), .int zk, .ref (oa 152), .int zd, .int ze, .int zc]))], wX0 dA (fun k => oa (1 + k)) c5, wX0 dA (fun k => oa (14 + k)) zt, wX0 dA (fun k => oa (27 + k)) zn, wX3 dA (fun k => oa (40 + k)) c3, wX6 dA (fun k => oa (146 + k)) zx, wLN dA (oa 152) ln].flatten : va_W) H := hP
        have hD : va_D A ([[(oa 0, .inr (11, [.ref (oa 1), .ref (oa 14), .ref (oa 27), .int zv, .ref (oa 40), .ref (oa 146), .int zk, .ref (oa 152), .int zd, .int ze, .int zc]))], wX0 dA (fun k => oa (1 + k)) c5, wX0 dA (fun k => oa (14 + k)) zt, wX0 dA (fun k => oa (27 + k)) zn, wX3 dA (fun k => oa (40 + k)) c3, wX6 dA (fun k => oa (146 + k)) zx, wLN dA (oa 152) ln].flatten) := hD
        refine lv_aload_n hx hb dX7_execute_127 rfl (lv_at hl 0 rfl) ?_
        refine va_get (D := (dC, dI)) (ci := 11) (v := .ref (oa 146)) (C := RX7) (T := TX7) (N := 11) hx hb hts in_X7 hown hK hP 0 rfl rfl 5 (by decide) (hts _ (bg _ wd_279)) (fun _ h9 => h9) rfl dX7_execute_128 ?_
        refine va_get (D := (dC, dI)) (ci := 10) (v := .int zx.2.2.2.2.2.2.2) (C := RX6) (T := TX6) (N := 8) hx hb hts in_X6 hown hK hP 146 rfl rfl 7 (by decide) (hts _ (bg _ wd_223)) (fun _ h9 => h9) rfl dX7_execute_131 ?_
        obtain ⟨e8, e9⟩ := Prod.mk.inj (sm hf)
        refine W.widen (k := 1) (n := 6) (Nat.le_of_ble_eq_true rfl) (Nat.le_of_ble_eq_true rfl) ?_
        exact vx_ret (W.iret hx hb hr (fun t ht hW => ⟨⟨_, (), rfl, e8.symm, by rw [← e9, ht]; exact hP, by rw [← e9]; exact hD⟩, hS.F ht⟩) hS.2.2 dX7_execute_134)
      · have hf := ie q1 hf
        refine lv_aload_n hx hb dX7_execute_65 rfl (lv_at hl 0 rfl) ?_
        refine lv_iload_n hx hb dX7_execute_66 rfl (lv_at hl 1 rfl) ?_
        obtain ⟨r7, eh6, hf⟩ := bd hf
        refine jw_i (w1 := wX7 dA oa (zb, zt, zn, zv, zh, zx, zk, zd, ze, zc) ln) (va_runV (As := [.int x2]) (rest := []) ⟨hx, hb, hml, hown, hts⟩ (m_X7_judgeCommand l dC dI dA gz oa H.size ln zb zt zn zv zh zx zk zd ze zc x2 r7 eh6) (cwV 1 hts (gi_v bg wd_727 wd_729 ws_12 wd_1 wd_730) rfl rfl rfl hd_X7_judgeCommand ⟨Nat.le_of_ble_eq_true rfl, Nat.le_of_ble_eq_true rfl⟩) ⟨pP_blind, va_recv (ci := 11) (q0 := 0) hK hP rfl rfl, pP_preW hP hD hS hA hK hN hZ⟩ rfl rfl hl.1 rfl (lv_room (Nat.le_of_ble_eq_true rfl)) dX7_execute_67 ⟨Nat.le_of_ble_eq_true rfl, Nat.le_of_ble_eq_true rfl⟩) hD hS hA (fun H locs hP hD hS => ?_)
        have hP : va_P (dC, dI) vwCl ([[(oa 0, .inr (11, [.ref (oa 1), .ref (oa 14), .ref (oa 27), .int zv, .ref (oa 40), .ref (oa 146), .int zk, .ref (oa 152), .int zd, .int ze, .int zc]))], wX0 dA (fun k => oa (1 + k)) zb, wX0 dA (fun k => oa (14 + k)) zt, wX0 dA (fun k => oa (27 + k)) zn, wX3 dA (fun k => oa (40 + k)) zh, wX6 dA (fun k => oa (146 + k)) zx, wLN dA (oa 152) ln].flatten : va_W) H := hP
        have hD : va_D A ([[(oa 0, .inr (11, [.ref (oa 1), .ref (oa 14), .ref (oa 27), .int zv, .ref (oa 40), .ref (oa 146), .int zk, .ref (oa 152), .int zd, .int ze, .int zc]))], wX0 dA (fun k => oa (1 + k)) zb, wX0 dA (fun k => oa (14 + k)) zt, wX0 dA (fun k => oa (27 + k)) zn, wX3 dA (fun k => oa (40 + k)) zh, wX6 dA (fun k => oa (146 + k)) zx, wLN dA (oa 152) ln].flatten) := hD
        refine lv_istore_n (lv' := [(3, .int r7), (0, .ref (oa 0)), (2, .int x2)]) hx hb dX7_execute_70 rfl hl (by decide) rfl (fun ls hl => ?_)
        refine lv_iload_n hx hb dX7_execute_71 rfl (lv_at hl 0 rfl) ?_
        refine lv_if_eq (tgt := 94) hx hb dX7_execute_72 (by decide) (fun q8 => ?_) (fun q8 => ?_)
        · have hf := it q8 hf
          refine lv_aload_n hx hb dX7_execute_94 rfl (lv_at hl 1 rfl) ?_
          refine lv_iload_n hx hb dX7_execute_95 rfl (lv_at hl 2 rfl) ?_
          obtain ⟨c10_zb, c10_zt, c10_zn, c10_zv, c10_zh, c10_zx, c10_zk, c10_zd, c10_ze, c10_zc, eh9, hf⟩ := b7_inv hf
          refine jw_v (w1 := wX7 dA oa (c10_zb, c10_zt, c10_zn, c10_zv, c10_zh, c10_zx, c10_zk, c10_zd, c10_ze, c10_zc) ln) (va_runV (As := [.int x2]) (rest := []) ⟨hx, hb, hml, hown, hts⟩ (m_X7_carryOutCommand l dC dI dA gz oa H.size ln zb zt zn zv zh zx zk zd ze zc x2 (c10_zb, c10_zt, c10_zn, c10_zv, c10_zh, c10_zx, c10_zk, c10_zd, c10_ze, c10_zc) eh9) (cwV 1 hts (gi_v bg wd_758 wd_760 ws_13 wd_1 wd_761) rfl rfl rfl hd_X7_carryOutCommand ⟨Nat.le_of_ble_eq_true rfl, Nat.le_of_ble_eq_true rfl⟩) ⟨pP_blind, va_recv (ci := 11) (q0 := 0) hK hP rfl rfl, pP_preW hP hD hS hA hK hN hZ⟩ rfl rfl hl.1 rfl (lv_room (Nat.le_of_ble_eq_true rfl)) dX7_execute_96 ⟨Nat.le_of_ble_eq_true rfl, Nat.le_of_ble_eq_true rfl⟩) hD hS hA (fun H locs hP hD hS => ?_)
          have hP : va_P (dC, dI) vwCl ([[(oa 0, .inr (11, [.ref (oa 1), .ref (oa 14), .ref (oa 27), .int c10_zv, .ref (oa 40), .ref (oa 146), .int c10_zk, .ref (oa 152), .int c10_zd, .int c10_ze, .int c10_zc]))], wX0 dA (fun k => oa (1 + k)) c10_zb, wX0 dA (fun k => oa (14 + k)) c10_zt, wX0 dA (fun k => oa (27 + k)) c10_zn, wX3 dA (fun k => oa (40 + k)) c10_zh, wX6 dA (fun k => oa (146 + k)) c10_zx, wLN dA (oa 152) ln].flatten : va_W) H := hP
          have hD : va_D A ([[(oa 0, .inr (11, [.ref (oa 1), .ref (oa 14), .ref (oa 27), .int c10_zv, .ref (oa 40), .ref (oa 146), .int c10_zk, .ref (oa 152), .int c10_zd, .int c10_ze, .int c10_zc]))], wX0 dA (fun k => oa (1 + k)) c10_zb, wX0 dA (fun k => oa (14 + k)) c10_zt, wX0 dA (fun k => oa (27 + k)) c10_zn, wX3 dA (fun k => oa (40 + k)) c10_zh, wX6 dA (fun k => oa (146 + k)) c10_zx, wLN dA (oa 152) ln].flatten) := hD
          refine lv_iinc (v := (x2 + 1)) (lv' := [(2, .int (x2 + 1)), (3, .int r7), (0, .ref (oa 0))]) hx hb dX7_execute_99 hl (k := 2) rfl rfl (by decide) rfl (fun ls hl => ?_)
          refine lv_goto (tgt := 54) hx hb dX7_execute_102 (by decide) ?_
          exact ih (x2 + 1) c10_zb c10_zt c10_zn c10_zv c10_zh c10_zx c10_zk c10_zd c10_ze c10_zc _ _ _ hf hP hD hS (lv_sub hl [2, 0] rfl)
        · have hf := ie q8 hf
          refine lv_aload_n hx hb dX7_execute_75 rfl (lv_at hl 1 rfl) ?_
          refine lv_bipush (v := 7) hx hb dX7_execute_76 (by decide) ?_
          refine lv_iload_n hx hb dX7_execute_78 rfl (lv_at hl 2 rfl) ?_
          refine lv_iload_n hx hb dX7_execute_79 rfl (lv_at hl 0 rfl) ?_
          obtain ⟨c12_zb, c12_zt, c12_zn, c12_zv, c12_zh, c12_zx, c12_zk, c12_zd, c12_ze, c12_zc, eh11, hf⟩ := b7_inv hf
          refine jw_v (w1 := wX7 dA oa (c12_zb, c12_zt, c12_zn, c12_zv, c12_zh, c12_zx, c12_zk, c12_zd, c12_ze, c12_zc) ln) (va_runV (As := [.int 7, .int x2, .int r7]) (rest := []) ⟨hx, hb, hml, hown, hts⟩ (m_X7_keepDenial l dC dI dA gz oa H.size ln zb zt zn zv zh zx zk zd ze zc 7 x2 r7 (c12_zb, c12_zt, c12_zn, c12_zv, c12_zh, c12_zx, c12_zk, c12_zd, c12_ze, c12_zc) eh11) (cwV 3 hts (gi_v bg wd_457 wd_459 ws_3 wd_1 wd_460) rfl rfl rfl hd_X7_keepDenial ⟨Nat.le_of_ble_eq_true rfl, Nat.le_of_ble_eq_true rfl⟩) ⟨pP_blind, va_recv (ci := 11) (q0 := 0) hK hP rfl rfl, pP_preW hP hD hS hA hK hN hZ⟩ rfl rfl hl.1 rfl (lv_room (Nat.le_of_ble_eq_true rfl)) dX7_execute_80 ⟨Nat.le_of_ble_eq_true rfl, Nat.le_of_ble_eq_true rfl⟩) hD hS hA (fun H locs hP hD hS => ?_)
          have hP : va_P (dC, dI) vwCl ([[(oa 0, .inr (11, [.ref (oa 1), .ref (oa 14), .ref (oa 27), .int c12_zv, .ref (oa 40), .ref (oa 146), .int c12_zk, .ref (oa 152), .int c12_zd, .int c12_ze, .int c12_zc]))], wX0 dA (fun k => oa (1 + k)) c12_zb, wX0 dA (fun k => oa (14 + k)) c12_zt, wX0 dA (fun k => oa (27 + k)) c12_zn, wX3 dA (fun k => oa (40 + k)) c12_zh, wX6 dA (fun k => oa (146 + k)) c12_zx, wLN dA (oa 152) ln].flatten : va_W) H := hP
          have hD : va_D A ([[(oa 0, .inr (11, [.ref (oa 1), .ref (oa 14), .ref (oa 27), .int c12_zv, .ref (oa 40), .ref (oa 146), .int c12_zk, .ref (oa 152), .int c12_zd, .int c12_ze, .int c12_zc]))], wX0 dA (fun k => oa (1 + k)) c12_zb, wX0 dA (fun k => oa (14 + k)) c12_zt, wX0 dA (fun k => oa (27 + k)) c12_zn, wX3 dA (fun k => oa (40 + k)) c12_zh, wX6 dA (fun k => oa (146 + k)) c12_zx, wLN dA (oa 152) ln].flatten) := hD
          obtain ⟨e8, e9⟩ := Prod.mk.inj (sm hf)
          exact vx_throwSW hx hb hl0 hown (cls := "java/lang/UnsupportedOperationException") (text := "a command failed") (names := xn) (ik := 305) (is := 307) (ic := 309) (by decide) xn_fit (hts _ (bg _ wd_461)) (hts _ (bg _ wd_19)) (hZ.1 12 (by decide)).1 (th_309 htb hN) tg_309 hZ.2.2.2.2.2.1 hZ.2.2.2.2.2.2.1 hS (hl.1.trans hml.symm) dX7_execute_83 dX7_execute_86 dX7_execute_87 dX7_execute_90 dX7_execute_93 (fun x9 hx9 => absurd (ht9 x9 hx9) id) (Nat.le_of_ble_eq_true rfl) (Nat.le_of_ble_eq_true rfl) (Nat.le_of_ble_eq_true rfl) (Nat.le_of_ble_eq_true rfl) hlocks (fun t hvm hz9 hq9 => by rw [← e9]; exact xq e8.symm hP hD hS hz9 hq9) hS.2.2 (Nat.le_of_ble_eq_true rfl) (Nat.le_of_ble_eq_true rfl)
  rw [f_X7_execute] at hf
  refine lv_aload_n hx hb dX7_execute_0 rfl (lv_at hl 0 rfl) ?_
  refine va_get (D := (dC, dI)) (ci := 11) (v := .ref (oa 146)) (C := RX7) (T := TX7) (N := 11) hx hb hts in_X7 hown hK hP 0 rfl rfl 5 (by decide) (hts _ (bg _ wd_279)) (fun _ h9 => h9) rfl dX7_execute_1 ?_
  obtain ⟨r14, c15, eh13, hf⟩ := bP_inv hf
  refine jg1_i (va_runV (As := []) (rest := []) ⟨hx, hb, hml, hown, hts⟩ (mt_X6_readCommands l dC dI dA gz (fun k => oa (146 + k)) s.heap.size zx r14 c15 eh13) (cwV 0 hts (gi_v bg wd_630 wd_631 wd_632 wd_8 wd_633) rfl rfl rfl hd_X6_readCommands ⟨Nat.le_of_ble_eq_true rfl, Nat.le_of_ble_eq_true rfl⟩) ⟨pP_blind, va_recv (ci := 10) (q0 := 0) hK (seg_P hP 5 rfl) rfl rfl, pP_pre1 hP hD hS hA hK hN hZ 5 rfl⟩ rfl rfl hl.1 rfl (lv_room (Nat.le_of_ble_eq_true rfl)) dX7_execute_4 ⟨Nat.le_of_ble_eq_true rfl, Nat.le_of_ble_eq_true rfl⟩) hP hD hS hA 5 rfl (aX6 _ _ _ _) (fun H locs hP hD hS => ?_)
  have hP : va_P (dC, dI) vwCl ([[(oa 0, .inr (11, [.ref (oa 1), .ref (oa 14), .ref (oa 27), .int zv, .ref (oa 40), .ref (oa 146), .int zk, .ref (oa 152), .int zd, .int ze, .int zc]))], wX0 dA (fun k => oa (1 + k)) zb, wX0 dA (fun k => oa (14 + k)) zt, wX0 dA (fun k => oa (27 + k)) zn, wX3 dA (fun k => oa (40 + k)) zh, wX6 dA (fun k => oa (146 + k)) c15, wLN dA (oa 152) ln].flatten : va_W) H := hP
  have hD : va_D A ([[(oa 0, .inr (11, [.ref (oa 1), .ref (oa 14), .ref (oa 27), .int zv, .ref (oa 40), .ref (oa 146), .int zk, .ref (oa 152), .int zd, .int ze, .int zc]))], wX0 dA (fun k => oa (1 + k)) zb, wX0 dA (fun k => oa (14 + k)) zt, wX0 dA (fun k => oa (27 + k)) zn, wX3 dA (fun k => oa (40 + k)) zh, wX6 dA (fun k => oa (146 + k)) c15, wLN dA (oa 152) ln].flatten) := hD
  refine lv_istore_n (lv' := [(1, .int r14), (0, .ref (oa 0))]) hx hb dX7_execute_7 rfl hl (by decide) rfl (fun ls hl => ?_)
  refine lv_aload_n hx hb dX7_execute_8 rfl (lv_at hl 1 rfl) ?_
  refine va_get (D := (dC, dI)) (ci := 11) (v := .ref (oa 146)) (C := RX7) (T := TX7) (N := 11) hx hb hts in_X7 hown hK hP 0 rfl rfl 5 (by decide) (hts _ (bg _ wd_279)) (fun _ h9 => h9) rfl dX7_execute_9 ?_
  obtain ⟨c17, eh16, hf⟩ := bd hf
  refine jg1_v (va_runV (As := []) (rest := []) ⟨hx, hb, hml, hown, hts⟩ (mt_X6_clear l dC dI dA gz (fun k => oa (146 + k)) H.size c15 c17 eh16) (cwV 0 hts (gi_v bg wd_722 wd_723 wd_724 wd_8 wd_725) rfl rfl rfl hd_X6_clear ⟨Nat.le_of_ble_eq_true rfl, Nat.le_of_ble_eq_true rfl⟩) ⟨pP_blind, va_recv (ci := 10) (q0 := 0) hK (seg_P hP 5 rfl) rfl rfl, pP_pre1 hP hD hS hA hK hN hZ 5 rfl⟩ rfl rfl hl.1 rfl (lv_room (Nat.le_of_ble_eq_true rfl)) dX7_execute_12 ⟨Nat.le_of_ble_eq_true rfl, Nat.le_of_ble_eq_true rfl⟩) hP hD hS hA 5 rfl (aX6 _ _ _ _) (fun H locs hP hD hS => ?_)
  have hP : va_P (dC, dI) vwCl ([[(oa 0, .inr (11, [.ref (oa 1), .ref (oa 14), .ref (oa 27), .int zv, .ref (oa 40), .ref (oa 146), .int zk, .ref (oa 152), .int zd, .int ze, .int zc]))], wX0 dA (fun k => oa (1 + k)) zb, wX0 dA (fun k => oa (14 + k)) zt, wX0 dA (fun k => oa (27 + k)) zn, wX3 dA (fun k => oa (40 + k)) zh, wX6 dA (fun k => oa (146 + k)) c17, wLN dA (oa 152) ln].flatten : va_W) H := hP
  have hD : va_D A ([[(oa 0, .inr (11, [.ref (oa 1), .ref (oa 14), .ref (oa 27), .int zv, .ref (oa 40), .ref (oa 146), .int zk, .ref (oa 152), .int zd, .int ze, .int zc]))], wX0 dA (fun k => oa (1 + k)) zb, wX0 dA (fun k => oa (14 + k)) zt, wX0 dA (fun k => oa (27 + k)) zn, wX3 dA (fun k => oa (40 + k)) zh, wX6 dA (fun k => oa (146 + k)) c17, wLN dA (oa 152) ln].flatten) := hD
  refine lv_iload_n hx hb dX7_execute_15 rfl (lv_at hl 0 rfl) ?_
  refine lv_if_ne (tgt := 41) hx hb dX7_execute_16 (by decide) (fun q18 => ?_) (fun q18 => ?_)
  · have hf := ie q18 hf
    refine lv_aload_n hx hb dX7_execute_41 rfl (lv_at hl 1 rfl) ?_
    refine va_get (D := (dC, dI)) (ci := 11) (v := .ref (oa 14)) (C := RX7) (T := TX7) (N := 11) hx hb hts in_X7 hown hK hP 0 rfl rfl 1 (by decide) (hts _ (bg _ wd_275)) (fun _ h9 => h9) rfl dX7_execute_42 ?_
    refine lv_aload_n hx hb dX7_execute_45 rfl (lv_at hl 1 rfl) ?_
    refine va_get (D := (dC, dI)) (ci := 11) (v := .ref (oa 1)) (C := RX7) (T := TX7) (N := 11) hx hb hts in_X7 hown hK hP 0 rfl rfl 0 (by decide) (hts _ (bg _ wd_274)) (fun _ h9 => h9) rfl dX7_execute_46 ?_
    obtain ⟨c20, eh19, hf⟩ := bd hf
    refine jg2_v (va_runV (As := [.ref (oa 1)]) (rest := []) ⟨hx, hb, hml, hown, hts⟩ (mt_X0_copyFrom l dC dI dA gz (fun k => oa (14 + k)) (fun k => oa (1 + k)) H.size zt zb c20 eh19) (cwV 1 hts (gi_v bg wd_316 wd_317 wd_318 wd_2 wd_319) rfl rfl rfl hd_X0_copyFrom ⟨Nat.le_of_ble_eq_true rfl, Nat.le_of_ble_eq_true rfl⟩) ⟨pP_blind, va_recv (ci := 4) (q0 := 0) hK (seg_P hP 2 rfl) rfl rfl, pP_pre2 hP hD hS hA hK hN hZ 2 1 rfl rfl (by decide)⟩ rfl rfl hl.1 rfl (lv_room (Nat.le_of_ble_eq_true rfl)) dX7_execute_49 ⟨Nat.le_of_ble_eq_true rfl, Nat.le_of_ble_eq_true rfl⟩) hP hD hS hA 2 1 rfl rfl (by decide) (aX0 _ _ _ _) (fun H locs hP hD hS => ?_)
    have hP : va_P (dC, dI) vwCl ([[(oa 0, .inr (11, [.ref (oa 1), .ref (oa 14), .ref (oa 27), .int zv, .ref (oa 40), .ref (oa 146), .int zk, .ref (oa 152), .int zd, .int ze, .int zc]))], wX0 dA (fun k => oa (1 + k)) zb, wX0 dA (fun k => oa (14 + k)) c20, wX0 dA (fun k => oa (27 + k)) zn, wX3 dA (fun k => oa (40 + k)) zh, wX6 dA (fun k => oa (146 + k)) c17, wLN dA (oa 152) ln].flatten : va_W) H := hP
    have hD : va_D A ([[(oa 0, .inr (11, [.ref (oa 1), .ref (oa 14), .ref (oa 27), .int zv, .ref (oa 40), .ref (oa 146), .int zk, .ref (oa 152), .int zd, .int ze, .int zc]))], wX0 dA (fun k => oa (1 + k)) zb, wX0 dA (fun k => oa (14 + k)) c20, wX0 dA (fun k => oa (27 + k)) zn, wX3 dA (fun k => oa (40 + k)) zh, wX6 dA (fun k => oa (146 + k)) c17, wLN dA (oa 152) ln].flatten) := hD
    refine lv_iconst (v := 0) hx hb dX7_execute_52 (by decide) ?_
    refine lv_istore_n (lv' := [(2, .int 0), (1, .int r14), (0, .ref (oa 0))]) hx hb dX7_execute_53 rfl hl (by decide) rfl (fun ls hl => ?_)
    exact cut54 300 0 zb c20 zn zv zh c17 zk zd ze zc _ _ _ hf hP hD hS (lv_sub hl [2, 0] rfl)
  · have hf := it q18 hf
    refine lv_aload_n hx hb dX7_execute_19 rfl (lv_at hl 1 rfl) ?_
    refine lv_aload_n hx hb dX7_execute_20 rfl (lv_at hl 1 rfl) ?_
    refine va_get (D := (dC, dI)) (ci := 11) (v := .ref (oa 146)) (C := RX7) (T := TX7) (N := 11) hx hb hts in_X7 hown hK hP 0 rfl rfl 5 (by decide) (hts _ (bg _ wd_279)) (fun _ h9 => h9) rfl dX7_execute_21 ?_
    refine va_get (D := (dC, dI)) (ci := 10) (v := .int c17.2.2.1) (C := RX6) (T := TX6) (N := 8) hx hb hts in_X6 hown hK hP 146 rfl rfl 2 (by decide) (hts _ (bg _ wd_213)) (fun _ h9 => h9) rfl dX7_execute_24 ?_
    refine va_put (D := (dC, dI)) (ci := 11) (v := .int c17.2.2.1) (ty := .int) (C := RX7) (T := TX7) (N := 11) hx hb hts in_X7 tyX7 tyX7_ok nmX7 hown hK hP hD hS 0 rfl rfl 6 (by decide) (hts _ (bg _ wd_280)) (fun _ h9 => h9) rfl (by decide +kernel) rfl rfl (Nat.le_of_ble_eq_true rfl) dX7_execute_27 (fun H locs hP hD hS => ?_)
    have hP : va_P (dC, dI) vwCl ([[(oa 0, .inr (11, [.ref (oa 1), .ref (oa 14), .ref (oa 27), .int zv, .ref (oa 40), .ref (oa 146), .int c17.2.2.1, .ref (oa 152), .int zd, .int ze, .int zc]))], wX0 dA (fun k => oa (1 + k)) zb, wX0 dA (fun k => oa (14 + k)) zt, wX0 dA (fun k => oa (27 + k)) zn, wX3 dA (fun k => oa (40 + k)) zh, wX6 dA (fun k => oa (146 + k)) c17, wLN dA (oa 152) ln].flatten : va_W) H := hP
    have hD : va_D A ([[(oa 0, .inr (11, [.ref (oa 1), .ref (oa 14), .ref (oa 27), .int zv, .ref (oa 40), .ref (oa 146), .int c17.2.2.1, .ref (oa 152), .int zd, .int ze, .int zc]))], wX0 dA (fun k => oa (1 + k)) zb, wX0 dA (fun k => oa (14 + k)) zt, wX0 dA (fun k => oa (27 + k)) zn, wX3 dA (fun k => oa (40 + k)) zh, wX6 dA (fun k => oa (146 + k)) c17, wLN dA (oa 152) ln].flatten) := hD
    obtain ⟨e8, e9⟩ := Prod.mk.inj (sm hf)
    exact vx_throwSW hx hb hl0 hown (cls := "java/lang/IllegalArgumentException") (text := "the text does not match the grammar") (names := xn) (ik := 244) (is := 293) (ic := 248) (by decide) xn_fit (hts _ (bg _ wd_377)) (hts _ (bg _ wd_18)) (hZ.1 11 (by decide)).1 (th_248 htb hN) tg_248 hZ.2.2.2.2.2.1 hZ.2.2.2.2.2.2.1 hS (hl.1.trans hml.symm) dX7_execute_30 dX7_execute_33 dX7_execute_34 dX7_execute_37 dX7_execute_40 (fun x9 hx9 => absurd (ht9 x9 hx9) id) (Nat.le_of_ble_eq_true rfl) (Nat.le_of_ble_eq_true rfl) (Nat.le_of_ble_eq_true rfl) (Nat.le_of_ble_eq_true rfl) hlocks (fun t hvm hz9 hq9 => by rw [← e9]; exact xq e8.symm hP hD hS hz9 hq9) hS.2.2 (Nat.le_of_ble_eq_true rfl) (Nat.le_of_ble_eq_true rfl)
