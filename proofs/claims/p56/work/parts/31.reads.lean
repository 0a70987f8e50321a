/-! X7_phaseCount -/
def f_X7_phaseCount (zb : SX0) (zt : SX0) (zn : SX0) (zv : Int32) (zh : SX3) (zx : SX6) (zk : Int32) (zd : Int32) (ze : Int32) (zc : Int32) : Option (Int32) :=
  some zb.1.2.2.2.1
set_option maxRecDepth 100000 in
set_option maxHeartbeats 4000000 in
theorem m_X7_phaseCount (l : Launch) (dC : Nat → ClassId) (dI : Nat → Nat → Nat) (dA gz : Nat → Nat) (oa : Nat → Nat) (sz : Nat) (ln : LN) (zb : SX0) (zt : SX0) (zn : SX0) (zv : Int32) (zh : SX3) (zx : SX6) (zk : Int32) (zd : Int32) (ze : Int32) (zc : Int32) (rr : Int32) (hf : f_X7_phaseCount zb zt zn zv zh zx zk zd ze zc = some rr) : Met l yX7_phaseCount ws_X7_phaseCount ({ frames := 10, cells := 0, slots := 0, locals := 200 } : Room) (va_Pc [.ref (oa 0)] (pP (dC, dI) dA gz (wX7 dA oa (zb, zt, zn, zv, zh, zx, zk, zd, ze, zc) ln) sz)) (va_Qi (S := Unit) (fun r' _ => r' = rr) (fun _ t => pQ (dC, dI) (va_A (wX7 dA oa (zb, zt, zn, zv, zh, zx, zk, zd, ze, zc) ln) sz) (wX7 dA oa (zb, zt, zn, zv, zh, zx, zk, zd, ze, zc) ln) t) (va_A (wX7 dA oa (zb, zt, zn, zv, zh, zx, zk, zd, ze, zc) ln) sz)) 0 0 (va_A (wX7 dA oa (zb, zt, zn, zv, zh, zx, zk, zd, ze, zc) ln) sz) := by
  refine Met.ofW (cc := cX7_phaseCount) (maxL := 1) (ret := (some .int)) (by decide) rfl ?_
  intro p e s m args below meth c s₁ B hml hv
  obtain ⟨rfl, hsz, hP, hK, hD0, hN, hZ⟩ := hv
  have hx := B.exec
  have hb := B.bytes
  have hr := B.returns
  have hts := atoms_spec (ws := ws_X7_phaseCount) B.pre
  have htb : ∀ w ∈ BIG, w.before _ s = true := fun w h => hts w (bg w h)
  have hown : s.vm.findClass RX7 = some m.cls := findClass_of_methodNamed B.named
  have hlocks := B.notSynchronized
  subst hsz
  have hD := hD0.self (sz := s.heap.size)
  generalize hAe : va_A (wX7 dA oa (zb, zt, zn, zv, zh, zx, zk, zd, ze, zc) ln) s.heap.size = A at hD hZ ⊢
  have hA : ∀ q : Nat, s.heap.size ≤ q → A q := fun q h => by rw [← hAe]; exact Or.inr h
  have hS : va_S A s.heap s.heap [] := va_S.rf
  have hP : va_P (dC, dI) vwCl ([[(oa 0, .inr (11, [.ref (oa 1), .ref (oa 14), .ref (oa 27), .int zv, .ref (oa 40), .ref (oa 146), .int zk, .ref (oa 152), .int zd, .int ze, .int zc]))], wX0 dA (fun k => oa (1 + k)) zb, wX0 dA (fun k => oa (14 + k)) zt, wX0 dA (fun k => oa (27 + k)) zn, wX3 dA (fun k => oa (40 + k)) zh, wX6 dA (fun k => oa (146 + k)) zx, wLN dA (oa 152) ln].flatten) s.heap := hP
  have hD : va_D A ([[(oa 0, .inr (11, [.ref (oa 1), .ref (oa 14), .ref (oa 27), .int zv, .ref (oa 40), .ref (oa 146), .int zk, .ref (oa 152), .int zd, .int ze, .int zc]))], wX0 dA (fun k => oa (1 + k)) zb, wX0 dA (fun k => oa (14 + k)) zt, wX0 dA (fun k => oa (27 + k)) zn, wX3 dA (fun k => oa (40 + k)) zh, wX6 dA (fun k => oa (146 + k)) zx, wLN dA (oa 152) ln].flatten) := hD
  have hl := lv_entry [.ref (oa 0)] (n := 1) (Nat.le_of_ble_eq_true rfl)
  rw [lg_entry_eq]
  generalize (lg_sl [.ref (oa 0)] ++ List.replicate (1 - (lg_sl [.ref (oa 0)]).length) Slot.unset).toArray = ls at hl ⊢
  have hl : lv_has ls 1 [(0, .ref (oa 0))] := hl
  have in_X0 : ∀ w ∈ wsX00, w ∈ ws_X7_phaseCount := fun w h => bg _ (inB_X0 w h)
  have in_X2 : ∀ w ∈ wsX20, w ∈ ws_X7_phaseCount := fun w h => bg _ (inB_X2 w h)
  have in_X7 : ∀ w ∈ wsX70, w ∈ ws_X7_phaseCount := fun w h => bg _ (inB_X7 w h)
  rw [f_X7_phaseCount] at hf
  refine lv_aload_n hx hb dX7_phaseCount_0 rfl (lv_at hl 0 rfl) ?_
  refine va_get (D := (dC, dI)) (ci := 11) (v := .ref (oa 1)) (C := RX7) (T := TX7) (N := 11) hx hb hts in_X7 hown hK hP 0 rfl rfl 0 (by decide) (hts _ (bg _ wd_274)) (fun _ h9 => h9) rfl dX7_phaseCount_1 ?_
  refine va_get (D := (dC, dI)) (ci := 4) (v := .ref (oa 2)) (C := RX0) (T := TX0) (N := 4) hx hb hts in_X0 hown hK hP 1 rfl rfl 0 (by decide) (hts _ (bg _ wd_167)) (fun _ h9 => h9) rfl dX7_phaseCount_4 ?_
  refine va_get (D := (dC, dI)) (ci := 6) (v := .int zb.1.2.2.2.1) (C := RX2) (T := TX2) (N := 7) hx hb hts in_X2 hown hK hP 2 rfl rfl 3 (by decide) (hts _ (bg _ wd_62)) (fun _ h9 => h9) rfl dX7_phaseCount_7 ?_
  exact W.iret hx hb hr (fun t ht hW => ⟨⟨_, (), rfl, sm hf, by rw [ht]; exact hP, hD⟩, hS.F ht⟩) hS.2.2 dX7_phaseCount_10
/-! X7_phaseKind -/
def f_X7_phaseKind (zb : SX0) (zt : SX0) (zn : SX0) (zv : Int32) (zh : SX3) (zx : SX6) (zk : Int32) (zd : Int32) (ze : Int32) (zc : Int32) (p1 : Int32) : Option ((Int32 ⊕ String) × SX7) :=
  bE7 (f_X7_requirePhase zb zt zn zv zh zx zk zd ze zc p1) fun _ c2_zb c2_zt c2_zn c2_zv c2_zh c2_zx c2_zk c2_zd c2_ze c2_zc =>
  if p1 < 0 ∨ 8 ≤ p1.toNatClampNeg then none else
  if ¬ (0 ≤ (c2_zb.1.1 p1.toNatClampNeg) ∧ (c2_zb.1.1 p1.toNatClampNeg) ≤ 65535) then none else
  some (.inl (c2_zb.1.1 p1.toNatClampNeg), (c2_zb, c2_zt, c2_zn, c2_zv, c2_zh, c2_zx, c2_zk, c2_zd, c2_ze, c2_zc))
set_option maxRecDepth 100000 in
set_option maxHeartbeats 4000000 in
theorem m_X7_phaseKind (l : Launch) (hl0 : l.stackTraces = false) (dC : Nat → ClassId) (dI : Nat → Nat → Nat) (dA gz : Nat → Nat) (oa : Nat → Nat) (sz : Nat) (ln : LN) (zb : SX0) (zt : SX0) (zn : SX0) (zv : Int32) (zh : SX3) (zx : SX6) (zk : Int32) (zd : Int32) (ze : Int32) (zc : Int32) (p1 : Int32) (rr : Int32 ⊕ String) (uu : SX7) (hf : f_X7_phaseKind zb zt zn zv zh zx zk zd ze zc p1 = some (rr, uu)) : vx_Met l yX7_phaseKind ws_X7_phaseKind ({ frames := 18, cells := 1, slots := 6, locals := 600 } : Room) (va_Pc [.ref (oa 0), .int p1] (pP (dC, dI) dA gz (wX7 dA oa (zb, zt, zn, zv, zh, zx, zk, zd, ze, zc) ln) sz)) (va_Qi (S := Unit) (fun r' _ => rr = Sum.inl r') (fun _ t => pQ (dC, dI) (va_A (wX7 dA oa (zb, zt, zn, zv, zh, zx, zk, zd, ze, zc) ln) sz) (wX7 dA oa uu ln) t) (va_A (wX7 dA oa (zb, zt, zn, zv, zh, zx, zk, zd, ze, zc) ln) sz)) (XCx (dC, dI) (va_A (wX7 dA oa (zb, zt, zn, zv, zh, zx, zk, zd, ze, zc) ln) sz) rr (wX7 dA oa uu ln)) 1 6 (va_A (wX7 dA oa (zb, zt, zn, zv, zh, zx, zk, zd, ze, zc) ln) sz) := by
  refine vx_ofW (cc := cX7_phaseKind) (maxL := 2) (ret := (some .char)) (by decide) rfl ?_
  intro p e s m args below meth c s₁ B hml ht9 hv
  obtain ⟨rfl, hsz, hP, hK, hD0, hN, hZ⟩ := hv
  have hx := B.exec
  have hb := B.bytes
  have hr := B.returns
  have hts := atoms_spec (ws := ws_X7_phaseKind) B.pre
  have htb : ∀ w ∈ BIG, w.before _ s = true := fun w h => hts w (bg w h)
  have hown : s.vm.findClass RX7 = some m.cls := findClass_of_methodNamed B.named
  have hlocks := B.notSynchronized
  subst hsz
  have hD := hD0.self (sz := s.heap.size)
  generalize hAe : va_A (wX7 dA oa (zb, zt, zn, zv, zh, zx, zk, zd, ze, zc) ln) s.heap.size = A at hD hZ ⊢
  have hA : ∀ q : Nat, s.heap.size ≤ q → A q := fun q h => by rw [← hAe]; exact Or.inr h
  have hS : va_S A s.heap s.heap [] := va_S.rf
  have hP : va_P (dC, dI) vwCl ([[(oa 0, .inr (11, [.ref (oa 1), .ref (oa 14), .ref (oa 27), .int zv, .ref (oa 40), .ref (oa 146), .int zk, .ref (oa 152), .int zd, .int ze, .int zc]))], wX0 dA (fun k => oa (1 + k)) zb, wX0 dA (fun k => oa (14 + k)) zt, wX0 dA (fun k => oa (27 + k)) zn, wX3 dA (fun k => oa (40 + k)) zh, wX6 dA (fun k => oa (146 + k)) zx, wLN dA (oa 152) ln].flatten) s.heap := hP
  have hD : va_D A ([[(oa 0, .inr (11, [.ref (oa 1), .ref (oa 14), .ref (oa 27), .int zv, .ref (oa 40), .ref (oa 146), .int zk, .ref (oa 152), .int zd, .int ze, .int zc]))], wX0 dA (fun k => oa (1 + k)) zb, wX0 dA (fun k => oa (14 + k)) zt, wX0 dA (fun k => oa (27 + k)) zn, wX3 dA (fun k => oa (40 + k)) zh, wX6 dA (fun k => oa (146 + k)) zx, wLN dA (oa 152) ln].flatten) := hD
  have hl := lv_entry [.ref (oa 0), .int p1] (n := 2) (Nat.le_of_ble_eq_true rfl)
  rw [lg_entry_eq]
  generalize (lg_sl [.ref (oa 0), .int p1] ++ List.replicate (2 - (lg_sl [.ref (oa 0), .int p1]).length) Slot.unset).toArray = ls at hl ⊢
  have hl : lv_has ls 2 [(0, .ref (oa 0)), (1, .int p1)] := hl
  have in_X0 : ∀ w ∈ wsX00, w ∈ ws_X7_phaseKind := fun w h => bg _ (inB_X0 w h)
  have in_X2 : ∀ w ∈ wsX20, w ∈ ws_X7_phaseKind := fun w h => bg _ (inB_X2 w h)
  have in_X7 : ∀ w ∈ wsX70, w ∈ ws_X7_phaseKind := fun w h => bg _ (inB_X7 w h)
  rw [f_X7_phaseKind] at hf
  refine lv_aload_n hx hb dX7_phaseKind_0 rfl (lv_at hl 0 rfl) ?_
  refine lv_iload_n hx hb dX7_phaseKind_1 rfl (lv_at hl 1 rfl) ?_
  rcases bE7_inv hf with ⟨r3, c2_zb, c2_zt, c2_zn, c2_zv, c2_zh, c2_zx, c2_zk, c2_zd, c2_ze, c2_zc, eh1, hf⟩ | ⟨E9, S9, eh1, hf⟩
  · refine jx_v (w1 := wX7 dA oa (c2_zb, c2_zt, c2_zn, c2_zv, c2_zh, c2_zx, c2_zk, c2_zd, c2_ze, c2_zc) ln) (vx_runV (As := [.int p1]) (rest := []) ⟨hx, hb, hml, hown, hts⟩ (m_X7_requirePhase l hl0 dC dI dA gz oa s.heap.size ln zb zt zn zv zh zx zk zd ze zc p1 (.inl ()) (c2_zb, c2_zt, c2_zn, c2_zv, c2_zh, c2_zx, c2_zk, c2_zd, c2_ze, c2_zc) eh1) (cwV 1 hts (gi_v bg wd_1036 wd_1038 ws_16 wd_1 wd_1039) rfl rfl rfl hd_X7_requirePhase ⟨Nat.le_of_ble_eq_true rfl, Nat.le_of_ble_eq_true rfl⟩) ⟨pP_blind, va_recv (ci := 11) (q0 := 0) hK hP rfl rfl, pP_preW hP hD hS hA hK hN hZ⟩ rfl rfl hl.1 rfl (lv_room (Nat.le_of_ble_eq_true rfl)) dX7_phaseKind_2 ⟨Nat.le_of_ble_eq_true rfl, Nat.le_of_ble_eq_true rfl⟩) hD hS hA (fun E ce q9 H locs h9 _ _ _ _ _ _ => nomatch h9) (fun H locs h9 hP hD hS => ?_)
    have hP : va_P (dC, dI) vwCl ([[(oa 0, .inr (11, [.ref (oa 1), .ref (oa 14), .ref (oa 27), .int c2_zv, .ref (oa 40), .ref (oa 146), .int c2_zk, .ref (oa 152), .int c2_zd, .int c2_ze, .int c2_zc]))], wX0 dA (fun k => oa (1 + k)) c2_zb, wX0 dA (fun k => oa (14 + k)) c2_zt, wX0 dA (fun k => oa (27 + k)) c2_zn, wX3 dA (fun k => oa (40 + k)) c2_zh, wX6 dA (fun k => oa (146 + k)) c2_zx, wLN dA (oa 152) ln].flatten) H := hP
    have hD : va_D A ([[(oa 0, .inr (11, [.ref (oa 1), .ref (oa 14), .ref (oa 27), .int c2_zv, .ref (oa 40), .ref (oa 146), .int c2_zk, .ref (oa 152), .int c2_zd, .int c2_ze, .int c2_zc]))], wX0 dA (fun k => oa (1 + k)) c2_zb, wX0 dA (fun k => oa (14 + k)) c2_zt, wX0 dA (fun k => oa (27 + k)) c2_zn, wX3 dA (fun k => oa (40 + k)) c2_zh, wX6 dA (fun k => oa (146 + k)) c2_zx, wLN dA (oa 152) ln].flatten) := hD
    refine lv_aload_n hx hb dX7_phaseKind_5 rfl (lv_at hl 0 rfl) ?_
    refine va_get (D := (dC, dI)) (ci := 11) (v := .ref (oa 1)) (C := RX7) (T := TX7) (N := 11) hx hb hts in_X7 hown hK hP 0 rfl rfl 0 (by decide) (hts _ (bg _ wd_274)) (fun _ h9 => h9) rfl dX7_phaseKind_6 ?_
    refine va_get (D := (dC, dI)) (ci := 4) (v := .ref (oa 2)) (C := RX0) (T := TX0) (N := 4) hx hb hts in_X0 hown hK hP 1 rfl rfl 0 (by decide) (hts _ (bg _ wd_167)) (fun _ h9 => h9) rfl dX7_phaseKind_9 ?_
    refine va_get (D := (dC, dI)) (ci := 6) (v := .ref (oa 3)) (C := RX2) (T := TX2) (N := 7) hx hb hts in_X2 hown hK hP 2 rfl rfl 0 (by decide) (hts _ (bg _ wd_53)) (fun _ h9 => h9) rfl dX7_phaseKind_12 ?_
    refine lv_iload_n hx hb dX7_phaseKind_15 rfl (lv_at hl 1 rfl) ?_
    obtain ⟨z4, hf⟩ := gd hf
    refine va_cald hx hb hK hP 3 0 rfl rfl z4 dX7_phaseKind_16 ?_
    obtain ⟨z5, hf⟩ := gd hf
    obtain ⟨e8, e9⟩ := Prod.mk.inj (sm hf)
    exact vx_ret (W.zret hx hb hr (nar_c (Decidable.not_not.mp z5)).1 (fun t ht hW => ⟨⟨_, (), rfl, e8.symm, by rw [← e9, ht]; exact hP, by rw [← e9]; exact hD⟩, hS.F ht⟩) hS.2.2 dX7_phaseKind_17)
  · obtain ⟨e8, e9⟩ := Prod.mk.inj hf
    refine jx_v (w1 := wX7 dA oa S9 ln) (vx_runV (As := [.int p1]) (rest := []) ⟨hx, hb, hml, hown, hts⟩ (m_X7_requirePhase l hl0 dC dI dA gz oa s.heap.size ln zb zt zn zv zh zx zk zd ze zc p1 (.inr E9) S9 eh1) (cwV 1 hts (gi_v bg wd_1036 wd_1038 ws_16 wd_1 wd_1039) rfl rfl rfl hd_X7_requirePhase ⟨Nat.le_of_ble_eq_true rfl, Nat.le_of_ble_eq_true rfl⟩) ⟨pP_blind, va_recv (ci := 11) (q0 := 0) hK hP rfl rfl, pP_preW hP hD hS hA hK hN hZ⟩ rfl rfl hl.1 rfl (lv_room (Nat.le_of_ble_eq_true rfl)) dX7_phaseKind_2 ⟨Nat.le_of_ble_eq_true rfl, Nat.le_of_ble_eq_true rfl⟩) hD hS hA (fun E ce q9 H locs h9 hP hD hS h1 h2 h3 => ?_) (fun H locs h9 _ _ _ => nomatch h9)
    cases h9
    exact vx_out (fun x9 hx9 => absurd (ht9 x9 hx9) id) hlocks h1 h2 h3 (fun t ht hvm => by rw [← e9]; exact xp e8.symm hP hD hS ht) hS.2.2 (Nat.le_of_ble_eq_true rfl) (Nat.le_of_ble_eq_true rfl)
/-! X7_phaseMinutes -/
def f_X7_phaseMinutes (zb : SX0) (zt : SX0) (zn : SX0) (zv : Int32) (zh : SX3) (zx : SX6) (zk : Int32) (zd : Int32) (ze : Int32) (zc : Int32) (p1 : Int32) : Option ((Int32 ⊕ String) × SX7) :=
  bE7 (f_X7_requirePhase zb zt zn zv zh zx zk zd ze zc p1) fun _ c2_zb c2_zt c2_zn c2_zv c2_zh c2_zx c2_zk c2_zd c2_ze c2_zc =>
  if p1 < 0 ∨ 8 ≤ p1.toNatClampNeg then none else
  some (.inl (c2_zb.1.2.1 p1.toNatClampNeg), (c2_zb, c2_zt, c2_zn, c2_zv, c2_zh, c2_zx, c2_zk, c2_zd, c2_ze, c2_zc))
set_option maxRecDepth 100000 in
set_option maxHeartbeats 4000000 in
theorem m_X7_phaseMinutes (l : Launch) (hl0 : l.stackTraces = false) (dC : Nat → ClassId) (dI : Nat → Nat → Nat) (dA gz : Nat → Nat) (oa : Nat → Nat) (sz : Nat) (ln : LN) (zb : SX0) (zt : SX0) (zn : SX0) (zv : Int32) (zh : SX3) (zx : SX6) (zk : Int32) (zd : Int32) (ze : Int32) (zc : Int32) (p1 : Int32) (rr : Int32 ⊕ String) (uu : SX7) (hf : f_X7_phaseMinutes zb zt zn zv zh zx zk zd ze zc p1 = some (rr, uu)) : vx_Met l yX7_phaseMinutes ws_X7_phaseMinutes ({ frames := 18, cells := 1, slots := 6, locals := 600 } : Room) (va_Pc [.ref (oa 0), .int p1] (pP (dC, dI) dA gz (wX7 dA oa (zb, zt, zn, zv, zh, zx, zk, zd, ze, zc) ln) sz)) (va_Qi (S := Unit) (fun r' _ => rr = Sum.inl r') (fun _ t => pQ (dC, dI) (va_A (wX7 dA oa (zb, zt, zn, zv, zh, zx, zk, zd, ze, zc) ln) sz) (wX7 dA oa uu ln) t) (va_A (wX7 dA oa (zb, zt, zn, zv, zh, zx, zk, zd, ze, zc) ln) sz)) (XCx (dC, dI) (va_A (wX7 dA oa (zb, zt, zn, zv, zh, zx, zk, zd, ze, zc) ln) sz) rr (wX7 dA oa uu ln)) 1 6 (va_A (wX7 dA oa (zb, zt, zn, zv, zh, zx, zk, zd, ze, zc) ln) sz) := by
  refine vx_ofW (cc := cX7_phaseMinutes) (maxL := 2) (ret := (some .int)) (by decide) rfl ?_
  intro p e s m args below meth c s₁ B hml ht9 hv
  obtain ⟨rfl, hsz, hP, hK, hD0, hN, hZ⟩ := hv
  have hx := B.exec
  have hb := B.bytes
  have hr := B.returns
  have hts := atoms_spec (ws := ws_X7_phaseMinutes) B.pre
  have htb : ∀ w ∈ BIG, w.before _ s = true := fun w h => hts w (bg w h)
  have hown : s.vm.findClass RX7 = some m.cls := findClass_of_methodNamed B.named
  have hlocks := B.notSynchronized
  subst hsz
  have hD := hD0.self (sz := s.heap.size)
  generalize hAe : va_A (wX7 dA oa (zb, zt, zn, zv, zh, zx, zk, zd, ze, zc) ln) s.heap.size = A at hD hZ ⊢
  have hA : ∀ q : Nat, s.heap.size ≤ q → A q := fun q h => by rw [← hAe]; exact Or.inr h
  have hS : va_S A s.heap s.heap [] := va_S.rf
  have hP : va_P (dC, dI) vwCl ([[(oa 0, .inr (11, [.ref (oa 1), .ref (oa 14), .ref (oa 27), .int zv, .ref (oa 40), .ref (oa 146), .int zk, .ref (oa 152), .int zd, .int ze, .int zc]))], wX0 dA (fun k => oa (1 + k)) zb, wX0 dA (fun k => oa (14 + k)) zt, wX0 dA (fun k => oa (27 + k)) zn, wX3 dA (fun k => oa (40 + k)) zh, wX6 dA (fun k => oa (146 + k)) zx, wLN dA (oa 152) ln].flatten) s.heap := hP
  have hD : va_D A ([[(oa 0, .inr (11, [.ref (oa 1), .ref (oa 14), .ref (oa 27), .int zv, .ref (oa 40), .ref (oa 146), .int zk, .ref (oa 152), .int zd, .int ze, .int zc]))], wX0 dA (fun k => oa (1 + k)) zb, wX0 dA (fun k => oa (14 + k)) zt, wX0 dA (fun k => oa (27 + k)) zn, wX3 dA (fun k => oa (40 + k)) zh, wX6 dA (fun k => oa (146 + k)) zx, wLN dA (oa 152) ln].flatten) := hD
  have hl := lv_entry [.ref (oa 0), .int p1] (n := 2) (Nat.le_of_ble_eq_true rfl)
  rw [lg_entry_eq]
  generalize (lg_sl [.ref (oa 0), .int p1] ++ List.replicate (2 - (lg_sl [.ref (oa 0), .int p1]).length) Slot.unset).toArray = ls at hl ⊢
  have hl : lv_has ls 2 [(0, .ref (oa 0)), (1, .int p1)] := hl
  have in_X0 : ∀ w ∈ wsX00, w ∈ ws_X7_phaseMinutes := fun w h => bg _ (inB_X0 w h)
  have in_X2 : ∀ w ∈ wsX20, w ∈ ws_X7_phaseMinutes := fun w h => bg _ (inB_X2 w h)
  have in_X7 : ∀ w ∈ wsX70, w ∈ ws_X7_phaseMinutes := fun w h => bg _ (inB_X7 w h)
  rw [f_X7_phaseMinutes] at hf
  refine lv_aload_n hx hb dX7_phaseMinutes_0 rfl (lv_at hl 0 rfl) ?_
  refine lv_iload_n hx hb dX7_phaseMinutes_1 rfl (lv_at hl 1 rfl) ?_
  rcases bE7_inv hf with ⟨r3, c2_zb, c2_zt, c2_zn, c2_zv, c2_zh, c2_zx, c2_zk, c2_zd, c2_ze, c2_zc, eh1, hf⟩ | ⟨E9, S9, eh1, hf⟩
  · refine jx_v (w1 := wX7 dA oa (c2_zb, c2_zt, c2_zn, c2_zv, c2_zh, c2_zx, c2_zk, c2_zd, c2_ze, c2_zc) ln) (vx_runV (As := [.int p1]) (rest := []) ⟨hx, hb, hml, hown, hts⟩ (m_X7_requirePhase l hl0 dC dI dA gz oa s.heap.size ln zb zt zn zv zh zx zk zd ze zc p1 (.inl ()) (c2_zb, c2_zt, c2_zn, c2_zv, c2_zh, c2_zx, c2_zk, c2_zd, c2_ze, c2_zc) eh1) (cwV 1 hts (gi_v bg wd_1036 wd_1038 ws_16 wd_1 wd_1039) rfl rfl rfl hd_X7_requirePhase ⟨Nat.le_of_ble_eq_true rfl, Nat.le_of_ble_eq_true rfl⟩) ⟨pP_blind, va_recv (ci := 11) (q0 := 0) hK hP rfl rfl, pP_preW hP hD hS hA hK hN hZ⟩ rfl rfl hl.1 rfl (lv_room (Nat.le_of_ble_eq_true rfl)) dX7_phaseMinutes_2 ⟨Nat.le_of_ble_eq_true rfl, Nat.le_of_ble_eq_true rfl⟩) hD hS hA (fun E ce q9 H locs h9 _ _ _ _ _ _ => nomatch h9) (fun H locs h9 hP hD hS => ?_)
    have hP : va_P (dC, dI) vwCl ([[(oa 0, .inr (11, [.ref (oa 1), .ref (oa 14), .ref (oa 27), .int c2_zv, .ref (oa 40), .ref (oa 146), .int c2_zk, .ref (oa 152), .int c2_zd, .int c2_ze, .int c2_zc]))], wX0 dA (fun k => oa (1 + k)) c2_zb, wX0 dA (fun k => oa (14 + k)) c2_zt, wX0 dA (fun k => oa (27 + k)) c2_zn, wX3 dA (fun k => oa (40 + k)) c2_zh, wX6 dA (fun k => oa (146 + k)) c2_zx, wLN dA (oa 152) ln].flatten) H := hP
    have hD : va_D A ([[(oa 0, .inr (11, [.ref (oa 1), .ref (oa 14), .ref (oa 27), .int c2_zv, .ref (oa 40), .ref (oa 146), .int c2_zk, .ref (oa 152), .int c2_zd, .int c2_ze, .int c2_zc]))], wX0 dA (fun k => oa (1 + k)) c2_zb, wX0 dA (fun k => oa (14 + k)) c2_zt, wX0 dA (fun k => oa (27 + k)) c2_zn, wX3 dA (fun k => oa (40 + k)) c2_zh, wX6 dA (fun k => oa (146 + k)) c2_zx, wLN dA (oa 152) ln].flatten) := hD
    refine lv_aload_n hx hb dX7_phaseMinutes_5 rfl (lv_at hl 0 rfl) ?_
    refine va_get (D := (dC, dI)) (ci := 11) (v := .ref (oa 1)) (C := RX7) (T := TX7) (N := 11) hx hb hts in_X7 hown hK hP 0 rfl rfl 0 (by decide) (hts _ (bg _ wd_274)) (fun _ h9 => h9) rfl dX7_phaseMinutes_6 ?_
    refine va_get (D := (dC, dI)) (ci := 4) (v := .ref (oa 2)) (C := RX0) (T := TX0) (N := 4) hx hb hts in_X0 hown hK hP 1 rfl rfl 0 (by decide) (hts _ (bg _ wd_167)) (fun _ h9 => h9) rfl dX7_phaseMinutes_9 ?_
    refine va_get (D := (dC, dI)) (ci := 6) (v := .ref (oa 4)) (C := RX2) (T := TX2) (N := 7) hx hb hts in_X2 hown hK hP 2 rfl rfl 1 (by decide) (hts _ (bg _ wd_56)) (fun _ h9 => h9) rfl dX7_phaseMinutes_12 ?_
    refine lv_iload_n hx hb dX7_phaseMinutes_15 rfl (lv_at hl 1 rfl) ?_
    obtain ⟨z4, hf⟩ := gd hf
    refine va_iald hx hb hK hP 4 1 rfl rfl z4 dX7_phaseMinutes_16 ?_
    obtain ⟨e8, e9⟩ := Prod.mk.inj (sm hf)
    exact vx_ret (W.iret hx hb hr (fun t ht hW => ⟨⟨_, (), rfl, e8.symm, by rw [← e9, ht]; exact hP, by rw [← e9]; exact hD⟩, hS.F ht⟩) hS.2.2 dX7_phaseMinutes_17)
  · obtain ⟨e8, e9⟩ := Prod.mk.inj hf
    refine jx_v (w1 := wX7 dA oa S9 ln) (vx_runV (As := [.int p1]) (rest := []) ⟨hx, hb, hml, hown, hts⟩ (m_X7_requirePhase l hl0 dC dI dA gz oa s.heap.size ln zb zt zn zv zh zx zk zd ze zc p1 (.inr E9) S9 eh1) (cwV 1 hts (gi_v bg wd_1036 wd_1038 ws_16 wd_1 wd_1039) rfl rfl rfl hd_X7_requirePhase ⟨Nat.le_of_ble_eq_true rfl, Nat.le_of_ble_eq_true rfl⟩) ⟨pP_blind, va_recv (ci := 11) (q0 := 0) hK hP rfl rfl, pP_preW hP hD hS hA hK hN hZ⟩ rfl rfl hl.1 rfl (lv_room (Nat.le_of_ble_eq_true rfl)) dX7_phaseMinutes_2 ⟨Nat.le_of_ble_eq_true rfl, Nat.le_of_ble_eq_true rfl⟩) hD hS hA (fun E ce q9 H locs h9 hP hD hS h1 h2 h3 => ?_) (fun H locs h9 _ _ _ => nomatch h9)
    cases h9
    exact vx_out (fun x9 hx9 => absurd (ht9 x9 hx9) id) hlocks h1 h2 h3 (fun t ht hvm => by rw [← e9]; exact xp e8.symm hP hD hS ht) hS.2.2 (Nat.le_of_ble_eq_true rfl) (Nat.le_of_ble_eq_true rfl)
/-! X7_isRunning -/
def f_X7_isRunning (zb : SX0) (zt : SX0) (zn : SX0) (zv : Int32) (zh : SX3) (zx : SX6) (zk : Int32) (zd : Int32) (ze : Int32) (zc : Int32) : Option (Int32) :=
  (g_X2_isUnderWay zb.1).bind fun r2 =>
  if ¬ (r2 = 0 ∨ r2 = 1) then none else
  some r2
set_option maxRecDepth 100000 in
set_option maxHeartbeats 4000000 in
theorem m_X7_isRunning (l : Launch) (dC : Nat → ClassId) (dI : Nat → Nat → Nat) (dA gz : Nat → Nat) (oa : Nat → Nat) (sz : Nat) (ln : LN) (zb : SX0) (zt : SX0) (zn : SX0) (zv : Int32) (zh : SX3) (zx : SX6) (zk : Int32) (zd : Int32) (ze : Int32) (zc : Int32) (rr : Int32) (hf : f_X7_isRunning zb zt zn zv zh zx zk zd ze zc = some rr) : Met l yX7_isRunning ws_X7_isRunning ({ frames := 18, cells := 0, slots := 0, locals := 600 } : Room) (va_Pc [.ref (oa 0)] (pP (dC, dI) dA gz (wX7 dA oa (zb, zt, zn, zv, zh, zx, zk, zd, ze, zc) ln) sz)) (va_Qi (S := Unit) (fun r' _ => r' = rr) (fun _ t => pQ (dC, dI) (va_A (wX7 dA oa (zb, zt, zn, zv, zh, zx, zk, zd, ze, zc) ln) sz) (wX7 dA oa (zb, zt, zn, zv, zh, zx, zk, zd, ze, zc) ln) t) (va_A (wX7 dA oa (zb, zt, zn, zv, zh, zx, zk, zd, ze, zc) ln) sz)) 0 0 (va_A (wX7 dA oa (zb, zt, zn, zv, zh, zx, zk, zd, ze, zc) ln) sz) := by
  refine Met.ofW (cc := cX7_isRunning) (maxL := 1) (ret := (some .boolean)) (by decide) rfl ?_
  intro p e s m args below meth c s₁ B hml hv
  obtain ⟨rfl, hsz, hP, hK, hD0, hN, hZ⟩ := hv
  have hx := B.exec
  have hb := B.bytes
  have hr := B.returns
  have hts := atoms_spec (ws := ws_X7_isRunning) B.pre
  have htb : ∀ w ∈ BIG, w.before _ s = true := fun w h => hts w (bg w h)
  have hown : s.vm.findClass RX7 = some m.cls := findClass_of_methodNamed B.named
  have hlocks := B.notSynchronized
  subst hsz
  have hD := hD0.self (sz := s.heap.size)
  generalize hAe : va_A (wX7 dA oa (zb, zt, zn, zv, zh, zx, zk, zd, ze, zc) ln) s.heap.size = A at hD hZ ⊢
  have hA : ∀ q : Nat, s.heap.size ≤ q → A q := fun q h => by rw [← hAe]; exact Or.inr h
  have hS : va_S A s.heap s.heap [] := va_S.rf
  have hP : va_P (dC, dI) vwCl ([[(oa 0, .inr (11, [.ref (oa 1), .ref (oa 14), .ref (oa 27), .int zv, .ref (oa 40), .ref (oa 146), .int zk, .ref (oa 152), .int zd, .int ze, .int zc]))], wX0 dA (fun k => oa (1 + k)) zb, wX0 dA (fun k => oa (14 + k)) zt, wX0 dA (fun k => oa (27 + k)) zn, wX3 dA (fun k => oa (40 + k)) zh, wX6 dA (fun k => oa (146 + k)) zx, wLN dA (oa 152) ln].flatten) s.heap := hP
  have hD : va_D A ([[(oa 0, .inr (11, [.ref (oa 1), .ref (oa 14), .ref (oa 27), .int zv, .ref (oa 40), .ref (oa 146), .int zk, .ref (oa 152), .int zd, .int ze, .int zc]))], wX0 dA (fun k => oa (1 + k)) zb, wX0 dA (fun k => oa (14 + k)) zt, wX0 dA (fun k => oa (27 + k)) zn, wX3 dA (fun k => oa (40 + k)) zh, wX6 dA (fun k => oa (146 + k)) zx, wLN dA (oa 152) ln].flatten) := hD
  have hl := lv_entry [.ref (oa 0)] (n := 1) (Nat.le_of_ble_eq_true rfl)
  rw [lg_entry_eq]
  generalize (lg_sl [.ref (oa 0)] ++ List.replicate (1 - (lg_sl [.ref (oa 0)]).length) Slot.unset).toArray = ls at hl ⊢
  have hl : lv_has ls 1 [(0, .ref (oa 0))] := hl
  have in_X0 : ∀ w ∈ wsX00, w ∈ ws_X7_isRunning := fun w h => bg _ (inB_X0 w h)
  have in_X7 : ∀ w ∈ wsX70, w ∈ ws_X7_isRunning := fun w h => bg _ (inB_X7 w h)
  rw [f_X7_isRunning] at hf
  refine lv_aload_n hx hb dX7_isRunning_0 rfl (lv_at hl 0 rfl) ?_
  refine va_get (D := (dC, dI)) (ci := 11) (v := .ref (oa 1)) (C := RX7) (T := TX7) (N := 11) hx hb hts in_X7 hown hK hP 0 rfl rfl 0 (by decide) (hts _ (bg _ wd_274)) (fun _ h9 => h9) rfl dX7_isRunning_1 ?_
  refine va_get (D := (dC, dI)) (ci := 4) (v := .ref (oa 2)) (C := RX0) (T := TX0) (N := 4) hx hb hts in_X0 hown hK hP 1 rfl rfl 0 (by decide) (hts _ (bg _ wd_167)) (fun _ h9 => h9) rfl dX7_isRunning_4 ?_
  obtain ⟨r2, eh1, hf⟩ := bd hf
  refine jr_i (va_runV (As := []) (rest := []) ⟨hx, hb, hml, hown, hts⟩ (mt_X2_isUnderWay l dC dI dA gz (fun k => oa (2 + k)) s.heap.size zb.1 r2 eh1) (cwV 0 hts (gi_v bg wd_1025 wd_366 wd_367 wd_3 wd_368) rfl rfl rfl hd_X2_isUnderWay ⟨Nat.le_of_ble_eq_true rfl, Nat.le_of_ble_eq_true rfl⟩) ⟨pP_blind, va_recv (ci := 6) (q0 := 2) hK hP rfl rfl, pP_pre hP hD hS hA hK hN hZ [2, 3, 4, 5] (by decide) rfl⟩ rfl rfl hl.1 rfl (lv_room (Nat.le_of_ble_eq_true rfl)) dX7_isRunning_7 ⟨Nat.le_of_ble_eq_true rfl, Nat.le_of_ble_eq_true rfl⟩) hP hD hS hA [2, 3, 4, 5] rfl (fun H locs hP hS => ?_)
  obtain ⟨z3, hf⟩ := gd hf
  exact W.zret hx hb hr (nar_z (Decidable.not_not.mp z3)) (fun t ht hW => ⟨⟨_, (), rfl, sm hf, by rw [ht]; exact hP, hD⟩, hS.F ht⟩) hS.2.2 dX7_isRunning_10
/-! X7_presentPhase -/
def f_X7_presentPhase (zb : SX0) (zt : SX0) (zn : SX0) (zv : Int32) (zh : SX3) (zx : SX6) (zk : Int32) (zd : Int32) (ze : Int32) (zc : Int32) : Option ((Int32 ⊕ String) × SX7) :=
  (g_X2_isUnderWay zb.1).bind fun r2 =>
  (if r2 = 0 then some (.inr "java/util/NoSuchElementException", (zb, zt, zn, zv, zh, zx, zk, zd, ze, zc)) else
  some (.inl zb.1.2.2.2.2.1, (zb, zt, zn, zv, zh, zx, zk, zd, ze, zc)))
set_option maxRecDepth 100000 in
set_option maxHeartbeats 4000000 in
theorem m_X7_presentPhase (l : Launch) (hl0 : l.stackTraces = false) (dC : Nat → ClassId) (dI : Nat → Nat → Nat) (dA gz : Nat → Nat) (oa : Nat → Nat) (sz : Nat) (ln : LN) (zb : SX0) (zt : SX0) (zn : SX0) (zv : Int32) (zh : SX3) (zx : SX6) (zk : Int32) (zd : Int32) (ze : Int32) (zc : Int32) (rr : Int32 ⊕ String) (uu : SX7) (hf : f_X7_presentPhase zb zt zn zv zh zx zk zd ze zc = some (rr, uu)) : vx_Met l yX7_presentPhase ws_X7_presentPhase ({ frames := 18, cells := 1, slots := 6, locals := 600 } : Room) (va_Pc [.ref (oa 0)] (pP (dC, dI) dA gz (wX7 dA oa (zb, zt, zn, zv, zh, zx, zk, zd, ze, zc) ln) sz)) (va_Qi (S := Unit) (fun r' _ => rr = Sum.inl r') (fun _ t => pQ (dC, dI) (va_A (wX7 dA oa (zb, zt, zn, zv, zh, zx, zk, zd, ze, zc) ln) sz) (wX7 dA oa uu ln) t) (va_A (wX7 dA oa (zb, zt, zn, zv, zh, zx, zk, zd, ze, zc) ln) sz)) (XCx (dC, dI) (va_A (wX7 dA oa (zb, zt, zn, zv, zh, zx, zk, zd, ze, zc) ln) sz) rr (wX7 dA oa uu ln)) 1 6 (va_A (wX7 dA oa (zb, zt, zn, zv, zh, zx, zk, zd, ze, zc) ln) sz) := by
  refine vx_ofW (cc := cX7_presentPhase) (maxL := 1) (ret := (some .int)) (by decide) rfl ?_
  intro p e s m args below meth c s₁ B hml ht9 hv
  obtain ⟨rfl, hsz, hP, hK, hD0, hN, hZ⟩ := hv
  have hx := B.exec
  have hb := B.bytes
  have hr := B.returns
  have hts := atoms_spec (ws := ws_X7_presentPhase) B.pre
  have htb : ∀ w ∈ BIG, w.before _ s = true := fun w h => hts w (bg w h)
  have hown : s.vm.findClass RX7 = some m.cls := findClass_of_methodNamed B.named
  have hlocks := B.notSynchronized
  subst hsz
  have hD := hD0.self (sz := s.heap.size)
  generalize hAe : va_A (wX7 dA oa (zb, zt, zn, zv, zh, zx, zk, zd, ze, zc) ln) s.heap.size = A at hD hZ ⊢
  have hA : ∀ q : Nat, s.heap.size ≤ q → A q := fun q h => by rw [← hAe]; exact Or.inr h
  have hS : va_S A s.heap s.heap [] := va_S.rf
  have hP : va_P (dC, dI) vwCl ([[(oa 0, .inr (11, [.ref (oa 1), .ref (oa 14), .ref (oa 27), .int zv, .ref (oa 40), .ref (oa 146), .int zk, .ref (oa 152), .int zd, .int ze, .int zc]))], wX0 dA (fun k => oa (1 + k)) zb, wX0 dA (fun k => oa (14 + k)) zt, wX0 dA (fun k => oa (27 + k)) zn, wX3 dA (fun k => oa (40 + k)) zh, wX6 dA (fun k => oa (146 + k)) zx, wLN dA (oa 152) ln].flatten) s.heap := hP
  have hD : va_D A ([[(oa 0, .inr (11, [.ref (oa 1), .ref (oa 14), .ref (oa 27), .int zv, .ref (oa 40), .ref (oa 146), .int zk, .ref (oa 152), .int zd, .int ze, .int zc]))], wX0 dA (fun k => oa (1 + k)) zb, wX0 dA (fun k => oa (14 + k)) zt, wX0 dA (fun k => oa (27 + k)) zn, wX3 dA (fun k => oa (40 + k)) zh, wX6 dA (fun k => oa (146 + k)) zx, wLN dA (oa 152) ln].flatten) := hD
  have hl := lv_entry [.ref (oa 0)] (n := 1) (Nat.le_of_ble_eq_true rfl)
  rw [lg_entry_eq]
  generalize (lg_sl [.ref (oa 0)] ++ List.replicate (1 - (lg_sl [.ref (oa 0)]).length) Slot.unset).toArray = ls at hl ⊢
  have hl : lv_has ls 1 [(0, .ref (oa 0))] := hl
  have in_X0 : ∀ w ∈ wsX00, w ∈ ws_X7_presentPhase := fun w h => bg _ (inB_X0 w h)
  have in_X2 : ∀ w ∈ wsX20, w ∈ ws_X7_presentPhase := fun w h => bg _ (inB_X2 w h)
  have in_X7 : ∀ w ∈ wsX70, w ∈ ws_X7_presentPhase := fun w h => bg _ (inB_X7 w h)
  rw [f_X7_presentPhase] at hf
  refine lv_aload_n hx hb dX7_presentPhase_0 rfl (lv_at hl 0 rfl) ?_
  refine va_get (D := (dC, dI)) (ci := 11) (v := .ref (oa 1)) (C := RX7) (T := TX7) (N := 11) hx hb hts in_X7 hown hK hP 0 rfl rfl 0 (by decide) (hts _ (bg _ wd_274)) (fun _ h9 => h9) rfl dX7_presentPhase_1 ?_
  refine va_get (D := (dC, dI)) (ci := 4) (v := .ref (oa 2)) (C := RX0) (T := TX0) (N := 4) hx hb hts in_X0 hown hK hP 1 rfl rfl 0 (by decide) (hts _ (bg _ wd_167)) (fun _ h9 => h9) rfl dX7_presentPhase_4 ?_
  obtain ⟨r2, eh1, hf⟩ := bd hf
  refine jr_i (va_runV (As := []) (rest := []) ⟨hx, hb, hml, hown, hts⟩ (mt_X2_isUnderWay l dC dI dA gz (fun k => oa (2 + k)) s.heap.size zb.1 r2 eh1) (cwV 0 hts (gi_v bg wd_1025 wd_366 wd_367 wd_3 wd_368) rfl rfl rfl hd_X2_isUnderWay ⟨Nat.le_of_ble_eq_true rfl, Nat.le_of_ble_eq_true rfl⟩) ⟨pP_blind, va_recv (ci := 6) (q0 := 2) hK hP rfl rfl, pP_pre hP hD hS hA hK hN hZ [2, 3, 4, 5] (by decide) rfl⟩ rfl rfl hl.1 rfl (lv_room (Nat.le_of_ble_eq_true rfl)) dX7_presentPhase_7 ⟨Nat.le_of_ble_eq_true rfl, Nat.le_of_ble_eq_true rfl⟩) hP hD hS hA [2, 3, 4, 5] rfl (fun H locs hP hS => ?_)
  refine lv_if_ne (tgt := 23) hx hb dX7_presentPhase_10 (by decide) (fun q3 => ?_) (fun q3 => ?_)
  · have hf := ie q3 hf
    refine lv_aload_n hx hb dX7_presentPhase_23 rfl (lv_at hl 0 rfl) ?_
    refine va_get (D := (dC, dI)) (ci := 11) (v := .ref (oa 1)) (C := RX7) (T := TX7) (N := 11) hx hb hts in_X7 hown hK hP 0 rfl rfl 0 (by decide) (hts _ (bg _ wd_274)) (fun _ h9 => h9) rfl dX7_presentPhase_24 ?_
    refine va_get (D := (dC, dI)) (ci := 4) (v := .ref (oa 2)) (C := RX0) (T := TX0) (N := 4) hx hb hts in_X0 hown hK hP 1 rfl rfl 0 (by decide) (hts _ (bg _ wd_167)) (fun _ h9 => h9) rfl dX7_presentPhase_27 ?_
    refine va_get (D := (dC, dI)) (ci := 6) (v := .int zb.1.2.2.2.2.1) (C := RX2) (T := TX2) (N := 7) hx hb hts in_X2 hown hK hP 2 rfl rfl 4 (by decide) (hts _ (bg _ wd_65)) (fun _ h9 => h9) rfl dX7_presentPhase_30 ?_
    obtain ⟨e8, e9⟩ := Prod.mk.inj (sm hf)
    refine W.widen (k := 1) (n := 6) (Nat.le_of_ble_eq_true rfl) (Nat.le_of_ble_eq_true rfl) ?_
    exact vx_ret (W.iret hx hb hr (fun t ht hW => ⟨⟨_, (), rfl, e8.symm, by rw [← e9, ht]; exact hP, by rw [← e9]; exact hD⟩, hS.F ht⟩) hS.2.2 dX7_presentPhase_33)
  · have hf := it q3 hf
    obtain ⟨e8, e9⟩ := Prod.mk.inj (sm hf)
    exact vn_throwS ns_0 ns_1 ns_2 ns_5 (Y0 := "java/lang/RuntimeException") (r0 := ["java/lang/Exception"]) hx hb hl0 hown (cls := "java/util/NoSuchElementException") (text := "the cycle is not running") (ik := 119) (is := 121) (ic := 123) (by decide) (by decide) (by decide) (hts _ (bg _ wd_807)) (hts _ (bg _ wd_22)) (hZ.1 21 (by decide)).1 (th_123 htb hN) tg_123 hZ.2.2.2.2.2.1 hZ.2.2.2.2.2.2.1 hS (hl.1.trans hml.symm) dX7_presentPhase_13 dX7_presentPhase_16 dX7_presentPhase_17 dX7_presentPhase_19 dX7_presentPhase_22 (fun x9 hx9 => absurd (ht9 x9 hx9) id) (Nat.le_of_ble_eq_true rfl) (Nat.le_of_ble_eq_true rfl) (Nat.le_of_ble_eq_true rfl) (Nat.le_of_ble_eq_true rfl) hlocks (fun t hvm hz9 hq9 => by rw [← e9]; exact xq e8.symm hP hD hS hz9 hq9) hS.2.2 (Nat.le_of_ble_eq_true rfl) (Nat.le_of_ble_eq_true rfl)
/-! X7_minutesLeft -/
def f_X7_minutesLeft_13 (zb : SX0) (zn : SX0) (zv : Int32) (zh : SX3) (zx : SX6) (zk : Int32) (zd : Int32) (ze : Int32) (zc : Int32) : Nat → Int32 → SX0 →  Option (Int32 × SX7)
  | 0, _, _ => none
  | n9 + 1, x1, zt =>
  (if 240 ≤ x1 then some (x1, (zb, zt, zn, zv, zh, zx, zk, zd, ze, zc)) else
  (g_X2_isUnderWay zt.1).bind fun r3 =>
  (if r3 = 0 then some (x1, (zb, zt, zn, zv, zh, zx, zk, zd, ze, zc)) else
  (g_X0_passMinute zt).bind fun c6 =>
  f_X7_minutesLeft_13 zb zn zv zh zx zk zd ze zc n9 (x1 + 1) c6))
def f_X7_minutesLeft (zb : SX0) (zt : SX0) (zn : SX0) (zv : Int32) (zh : SX3) (zx : SX6) (zk : Int32) (zd : Int32) (ze : Int32) (zc : Int32) : Option (Int32 × SX7) :=
  (g_X0_copyFrom zt zb).bind fun c8 =>
  f_X7_minutesLeft_13 zb zn zv zh zx zk zd ze zc 300 0 c8
set_option maxRecDepth 100000 in
set_option maxHeartbeats 4000000 in
theorem m_X7_minutesLeft (l : Launch) (dC : Nat → ClassId) (dI : Nat → Nat → Nat) (dA gz : Nat → Nat) (oa : Nat → Nat) (sz : Nat) (ln : LN) (zb : SX0) (zt : SX0) (zn : SX0) (zv : Int32) (zh : SX3) (zx : SX6) (zk : Int32) (zd : Int32) (ze : Int32) (zc : Int32) (rr : Int32) (uu : SX7) (hf : f_X7_minutesLeft zb zt zn zv zh zx zk zd ze zc = some (rr, uu)) : Met l yX7_minutesLeft ws_X7_minutesLeft ({ frames := 26, cells := 0, slots := 0, locals := 1000 } : Room) (va_Pc [.ref (oa 0)] (pP (dC, dI) dA gz (wX7 dA oa (zb, zt, zn, zv, zh, zx, zk, zd, ze, zc) ln) sz)) (va_Qi (S := Unit) (fun r' _ => r' = rr) (fun _ t => pQ (dC, dI) (va_A (wX7 dA oa (zb, zt, zn, zv, zh, zx, zk, zd, ze, zc) ln) sz) (wX7 dA oa uu ln) t) (va_A (wX7 dA oa (zb, zt, zn, zv, zh, zx, zk, zd, ze, zc) ln) sz)) 0 0 (va_A (wX7 dA oa (zb, zt, zn, zv, zh, zx, zk, zd, ze, zc) ln) sz) := by
  refine Met.ofW (cc := cX7_minutesLeft) (maxL := 2) (ret := (some .int)) (by decide) rfl ?_
  intro p e s m args below meth c s₁ B hml hv
  obtain ⟨rfl, hsz, hP, hK, hD0, hN, hZ⟩ := hv
  have hx := B.exec
  have hb := B.bytes
  have hr := B.returns
  have hts := atoms_spec (ws := ws_X7_minutesLeft) B.pre
  have htb : ∀ w ∈ BIG, w.before _ s = true := fun w h => hts w (bg w h)
  have hown : s.vm.findClass RX7 = some m.cls := findClass_of_methodNamed B.named
  have hlocks := B.notSynchronized
  subst hsz
  have hD := hD0.self (sz := s.heap.size)
  generalize hAe : va_A (wX7 dA oa (zb, zt, zn, zv, zh, zx, zk, zd, ze, zc) ln) s.heap.size = A at hD hZ ⊢
  have hA : ∀ q : Nat, s.heap.size ≤ q → A q := fun q h => by rw [← hAe]; exact Or.inr h
  have hS : va_S A s.heap s.heap [] := va_S.rf
  have hP : va_P (dC, dI) vwCl ([[(oa 0, .inr (11, [.ref (oa 1), .ref (oa 14), .ref (oa 27), .int zv, .ref (oa 40), .ref (oa 146), .int zk, .ref (oa 152), .int zd, .int ze, .int zc]))], wX0 dA (fun k => oa (1 + k)) zb, wX0 dA (fun k => oa (14 + k)) zt, wX0 dA (fun k => oa (27 + k)) zn, wX3 dA (fun k => oa (40 + k)) zh, wX6 dA (fun k => oa (146 + k)) zx, wLN dA (oa 152) ln].flatten) s.heap := hP
  have hD : va_D A ([[(oa 0, .inr (11, [.ref (oa 1), .ref (oa 14), .ref (oa 27), .int zv, .ref (oa 40), .ref (oa 146), .int zk, .ref (oa 152), .int zd, .int ze, .int zc]))], wX0 dA (fun k => oa (1 + k)) zb, wX0 dA (fun k => oa (14 + k)) zt, wX0 dA (fun k => oa (27 + k)) zn, wX3 dA (fun k => oa (40 + k)) zh, wX6 dA (fun k => oa (146 + k)) zx, wLN dA (oa 152) ln].flatten) := hD
  have hl := lv_entry [.ref (oa 0)] (n := 2) (Nat.le_of_ble_eq_true rfl)
  rw [lg_entry_eq]
  generalize (lg_sl [.ref (oa 0)] ++ List.replicate (2 - (lg_sl [.ref (oa 0)]).length) Slot.unset).toArray = ls at hl ⊢
  have hl : lv_has ls 2 [(0, .ref (oa 0))] := hl
  have in_X0 : ∀ w ∈ wsX00, w ∈ ws_X7_minutesLeft := fun w h => bg _ (inB_X0 w h)
  have in_X7 : ∀ w ∈ wsX70, w ∈ ws_X7_minutesLeft := fun w h => bg _ (inB_X7 w h)
  have cut13 : ∀ (n9 : Nat) (x1 : Int32) (zt : SX0) (H : Heap) (locs : List Loc) (ls : Array Slot), f_X7_minutesLeft_13 zb zn zv zh zx zk zd ze zc n9 x1 zt = some (rr, uu) → va_P (dC, dI) vwCl ([[(oa 0, .inr (11, [.ref (oa 1), .ref (oa 14), .ref (oa 27), .int zv, .ref (oa 40), .ref (oa 146), .int zk, .ref (oa 152), .int zd, .int ze, .int zc]))], wX0 dA (fun k => oa (1 + k)) zb, wX0 dA (fun k => oa (14 + k)) zt, wX0 dA (fun k => oa (27 + k)) zn, wX3 dA (fun k => oa (40 + k)) zh, wX6 dA (fun k => oa (146 + k)) zx, wLN dA (oa 152) ln].flatten) H → va_D A ([[(oa 0, .inr (11, [.ref (oa 1), .ref (oa 14), .ref (oa 27), .int zv, .ref (oa 40), .ref (oa 146), .int zk, .ref (oa 152), .int zd, .int ze, .int zc]))], wX0 dA (fun k => oa (1 + k)) zb, wX0 dA (fun k => oa (14 + k)) zt, wX0 dA (fun k => oa (27 + k)) zn, wX3 dA (fun k => oa (40 + k)) zh, wX6 dA (fun k => oa (146 + k)) zx, wLN dA (oa 152) ln].flatten) → va_S A s.heap H locs → lv_has ls 2 [(0, .ref (oa 0)), (1, .int x1)] → W p l e (headSpec ws_X7_minutesLeft ({ frames := 26, cells := 0, slots := 0, locals := 1000 } : Room)).room s m ([.ref (oa 0)] : List Value).toArray below meth c H locs 0 0 (MQ below (va_Qi (S := Unit) (fun r' _ => r' = rr) (fun _ t => pQ (dC, dI) A (wX7 dA oa uu ln) t) A) ([.ref (oa 0)] : List Value).toArray s 0 0 A) (F0 m 13 ls []) := by
    intro n9
    induction n9 with
    | zero =>
      intro x1 zt H locs ls hf
      rw [f_X7_minutesLeft_13] at hf
      cases hf
    | succ n9 ih =>
      intro x1 zt H locs ls hf hP hD hS hl
      rw [f_X7_minutesLeft_13] at hf
      refine lv_iload_n hx hb dX7_minutesLeft_13 rfl (lv_at hl 1 rfl) ?_
      refine lv_sipush (v := 240) hx hb dX7_minutesLeft_14 (by decide) ?_
      refine lv_icmp_ge (tgt := 46) hx hb dX7_minutesLeft_17 (by decide) (fun q1 => ?_) (fun q1 => ?_)
      · have hf := it q1 hf
        refine lv_iload_n hx hb dX7_minutesLeft_46 rfl (lv_at hl 1 rfl) ?_
        obtain ⟨e8, e9⟩ := Prod.mk.inj (sm hf)
        exact W.iret hx hb hr (fun t ht hW => ⟨⟨_, (), rfl, e8, by rw [← e9, ht]; exact hP, by rw [← e9]; exact hD⟩, hS.F ht⟩) hS.2.2 dX7_minutesLeft_47
      · have hf := ie q1 hf
        refine lv_aload_n hx hb dX7_minutesLeft_20 rfl (lv_at hl 0 rfl) ?_
        refine va_get (D := (dC, dI)) (ci := 11) (v := .ref (oa 14)) (C := RX7) (T := TX7) (N := 11) hx hb hts in_X7 hown hK hP 0 rfl rfl 1 (by decide) (hts _ (bg _ wd_275)) (fun _ h9 => h9) rfl dX7_minutesLeft_21 ?_
        refine va_get (D := (dC, dI)) (ci := 4) (v := .ref (oa 15)) (C := RX0) (T := TX0) (N := 4) hx hb hts in_X0 hown hK hP 14 rfl rfl 0 (by decide) (hts _ (bg _ wd_167)) (fun _ h9 => h9) rfl dX7_minutesLeft_24 ?_
        obtain ⟨r3, eh2, hf⟩ := bd hf
        refine jr_i (va_runV (As := []) (rest := []) ⟨hx, hb, hml, hown, hts⟩ (mt_X2_isUnderWay l dC dI dA gz (fun k => oa (15 + k)) H.size zt.1 r3 eh2) (cwV 0 hts (gi_v bg wd_1025 wd_366 wd_367 wd_3 wd_368) rfl rfl rfl hd_X2_isUnderWay ⟨Nat.le_of_ble_eq_true rfl, Nat.le_of_ble_eq_true rfl⟩) ⟨pP_blind, va_recv (ci := 6) (q0 := 15) hK hP rfl rfl, pP_pre hP hD hS hA hK hN hZ [15, 16, 17, 18] (by decide) rfl⟩ rfl rfl hl.1 rfl (lv_room (Nat.le_of_ble_eq_true rfl)) dX7_minutesLeft_27 ⟨Nat.le_of_ble_eq_true rfl, Nat.le_of_ble_eq_true rfl⟩) hP hD hS hA [15, 16, 17, 18] rfl (fun H locs hP hS => ?_)
        refine lv_if_eq (tgt := 46) hx hb dX7_minutesLeft_30 (by decide) (fun q4 => ?_) (fun q4 => ?_)
        · have hf := it q4 hf
          refine lv_iload_n hx hb dX7_minutesLeft_46 rfl (lv_at hl 1 rfl) ?_
          obtain ⟨e8, e9⟩ := Prod.mk.inj (sm hf)
          exact W.iret hx hb hr (fun t ht hW => ⟨⟨_, (), rfl, e8, by rw [← e9, ht]; exact hP, by rw [← e9]; exact hD⟩, hS.F ht⟩) hS.2.2 dX7_minutesLeft_47
        · have hf := ie q4 hf
          refine lv_aload_n hx hb dX7_minutesLeft_33 rfl (lv_at hl 0 rfl) ?_
          refine va_get (D := (dC, dI)) (ci := 11) (v := .ref (oa 14)) (C := RX7) (T := TX7) (N := 11) hx hb hts in_X7 hown hK hP 0 rfl rfl 1 (by decide) (hts _ (bg _ wd_275)) (fun _ h9 => h9) rfl dX7_minutesLeft_34 ?_
          obtain ⟨c6, eh5, hf⟩ := bd hf
          refine jg1_v (va_runV (As := []) (rest := []) ⟨hx, hb, hml, hown, hts⟩ (mt_X0_passMinute l dC dI dA gz (fun k => oa (14 + k)) H.size zt c6 eh5) (cwV 0 hts (gi_v bg wd_1031 wd_552 wd_553 wd_2 wd_554) rfl rfl rfl hd_X0_passMinute ⟨Nat.le_of_ble_eq_true rfl, Nat.le_of_ble_eq_true rfl⟩) ⟨pP_blind, va_recv (ci := 4) (q0 := 0) hK (seg_P hP 2 rfl) rfl rfl, pP_pre1 hP hD hS hA hK hN hZ 2 rfl⟩ rfl rfl hl.1 rfl (lv_room (Nat.le_of_ble_eq_true rfl)) dX7_minutesLeft_37 ⟨Nat.le_of_ble_eq_true rfl, Nat.le_of_ble_eq_true rfl⟩) hP hD hS hA 2 rfl (aX0 _ _ _ _) (fun H locs hP hD hS => ?_)
          have hP : va_P (dC, dI) vwCl ([[(oa 0, .inr (11, [.ref (oa 1), .ref (oa 14), .ref (oa 27), .int zv, .ref (oa 40), .ref (oa 146), .int zk, .ref (oa 152), .int zd, .int ze, .int zc]))], wX0 dA (fun k => oa (1 + k)) zb, wX0 dA (fun k => oa (14 + k)) c6, wX0 dA (fun k => oa (27 + k)) zn, wX3 dA (fun k => oa (40 + k)) zh, wX6 dA (fun k => oa (146 + k)) zx, wLN dA (oa 152) ln].flatten : va_W) H := hP
          have hD : va_D A ([[(oa 0, .inr (11, [.ref (oa 1), .ref (oa 14), .ref (oa 27), .int zv, .ref (oa 40), .ref (oa 146), .int zk, .ref (oa 152), .int zd, .int ze, .int zc]))], wX0 dA (fun k => oa (1 + k)) zb, wX0 dA (fun k => oa (14 + k)) c6, wX0 dA (fun k => oa (27 + k)) zn, wX3 dA (fun k => oa (40 + k)) zh, wX6 dA (fun k => oa (146 + k)) zx, wLN dA (oa 152) ln].flatten) := hD
          refine lv_iinc (v := (x1 + 1)) (lv' := [(1, .int (x1 + 1)), (0, .ref (oa 0))]) hx hb dX7_minutesLeft_40 hl (k := 1) rfl rfl (by decide) rfl (fun ls hl => ?_)
          refine lv_goto (tgt := 13) hx hb dX7_minutesLeft_43 (by decide) ?_
          exact ih (x1 + 1) c6 _ _ _ hf hP hD hS (lv_sub hl [1, 0] rfl)
  rw [f_X7_minutesLeft] at hf
  refine lv_aload_n hx hb dX7_minutesLeft_0 rfl (lv_at hl 0 rfl) ?_
  refine va_get (D := (dC, dI)) (ci := 11) (v := .ref (oa 14)) (C := RX7) (T := TX7) (N := 11) hx hb hts in_X7 hown hK hP 0 rfl rfl 1 (by decide) (hts _ (bg _ wd_275)) (fun _ h9 => h9) rfl dX7_minutesLeft_1 ?_
  refine lv_aload_n hx hb dX7_minutesLeft_4 rfl (lv_at hl 0 rfl) ?_
  refine va_get (D := (dC, dI)) (ci := 11) (v := .ref (oa 1)) (C := RX7) (T := TX7) (N := 11) hx hb hts in_X7 hown hK hP 0 rfl rfl 0 (by decide) (hts _ (bg _ wd_274)) (fun _ h9 => h9) rfl dX7_minutesLeft_5 ?_
  obtain ⟨c8, eh7, hf⟩ := bd hf
  refine jg2_v (va_runV (As := [.ref (oa 1)]) (rest := []) ⟨hx, hb, hml, hown, hts⟩ (mt_X0_copyFrom l dC dI dA gz (fun k => oa (14 + k)) (fun k => oa (1 + k)) s.heap.size zt zb c8 eh7) (cwV 1 hts (gi_v bg wd_316 wd_317 wd_318 wd_2 wd_319) rfl rfl rfl hd_X0_copyFrom ⟨Nat.le_of_ble_eq_true rfl, Nat.le_of_ble_eq_true rfl⟩) ⟨pP_blind, va_recv (ci := 4) (q0 := 0) hK (seg_P hP 2 rfl) rfl rfl, pP_pre2 hP hD hS hA hK hN hZ 2 1 rfl rfl (by decide)⟩ rfl rfl hl.1 rfl (lv_room (Nat.le_of_ble_eq_true rfl)) dX7_minutesLeft_8 ⟨Nat.le_of_ble_eq_true rfl, Nat.le_of_ble_eq_true rfl⟩) hP hD hS hA 2 1 rfl rfl (by decide) (aX0 _ _ _ _) (fun H locs hP hD hS => ?_)
  have hP : va_P (dC, dI) vwCl ([[(oa 0, .inr (11, [.ref (oa 1), .ref (oa 14), .ref (oa 27), .int zv, .ref (oa 40), .ref (oa 146), .int zk, .ref (oa 152), .int zd, .int ze, .int zc]))], wX0 dA (fun k => oa (1 + k)) zb, wX0 dA (fun k => oa (14 + k)) c8, wX0 dA (fun k => oa (27 + k)) zn, wX3 dA (fun k => oa (40 + k)) zh, wX6 dA (fun k => oa (146 + k)) zx, wLN dA (oa 152) ln].flatten : va_W) H := hP
  have hD : va_D A ([[(oa 0, .inr (11, [.ref (oa 1), .ref (oa 14), .ref (oa 27), .int zv, .ref (oa 40), .ref (oa 146), .int zk, .ref (oa 152), .int zd, .int ze, .int zc]))], wX0 dA (fun k => oa (1 + k)) zb, wX0 dA (fun k => oa (14 + k)) c8, wX0 dA (fun k => oa (27 + k)) zn, wX3 dA (fun k => oa (40 + k)) zh, wX6 dA (fun k => oa (146 + k)) zx, wLN dA (oa 152) ln].flatten) := hD
  refine lv_iconst (v := 0) hx hb dX7_minutesLeft_11 (by decide) ?_
  refine lv_istore_n (lv' := [(1, .int 0), (0, .ref (oa 0))]) hx hb dX7_minutesLeft_12 rfl hl (by decide) rfl (fun ls hl => ?_)
  exact cut13 300 0 c8 _ _ _ hf hP hD hS (lv_sub hl [1, 0] rfl)
/-! X7_minutesLeftByPhases -/
def f_X7_minutesLeftByPhases (zb : SX0) (zt : SX0) (zn : SX0) (zv : Int32) (zh : SX3) (zx : SX6) (zk : Int32) (zd : Int32) (ze : Int32) (zc : Int32) : Option (Int32) :=
  (g_X2_minutesToCome zb.1).bind fun r2 =>
  some r2
set_option maxRecDepth 100000 in
set_option maxHeartbeats 4000000 in
theorem m_X7_minutesLeftByPhases (l : Launch) (dC : Nat → ClassId) (dI : Nat → Nat → Nat) (dA gz : Nat → Nat) (oa : Nat → Nat) (sz : Nat) (ln : LN) (zb : SX0) (zt : SX0) (zn : SX0) (zv : Int32) (zh : SX3) (zx : SX6) (zk : Int32) (zd : Int32) (ze : Int32) (zc : Int32) (rr : Int32) (hf : f_X7_minutesLeftByPhases zb zt zn zv zh zx zk zd ze zc = some rr) : Met l yX7_minutesLeftByPhases ws_X7_minutesLeftByPhases ({ frames := 22, cells := 0, slots := 0, locals := 800 } : Room) (va_Pc [.ref (oa 0)] (pP (dC, dI) dA gz (wX7 dA oa (zb, zt, zn, zv, zh, zx, zk, zd, ze, zc) ln) sz)) (va_Qi (S := Unit) (fun r' _ => r' = rr) (fun _ t => pQ (dC, dI) (va_A (wX7 dA oa (zb, zt, zn, zv, zh, zx, zk, zd, ze, zc) ln) sz) (wX7 dA oa (zb, zt, zn, zv, zh, zx, zk, zd, ze, zc) ln) t) (va_A (wX7 dA oa (zb, zt, zn, zv, zh, zx, zk, zd, ze, zc) ln) sz)) 0 0 (va_A (wX7 dA oa (zb, zt, zn, zv, zh, zx, zk, zd, ze, zc) ln) sz) := by
  refine Met.ofW (cc := cX7_minutesLeftByPhases) (maxL := 1) (ret := (some .int)) (by decide) rfl ?_
  intro p e s m args below meth c s₁ B hml hv
  obtain ⟨rfl, hsz, hP, hK, hD0, hN, hZ⟩ := hv
  have hx := B.exec
  have hb := B.bytes
  have hr := B.returns
  have hts := atoms_spec (ws := ws_X7_minutesLeftByPhases) B.pre
  have htb : ∀ w ∈ BIG, w.before _ s = true := fun w h => hts w (bg w h)
  have hown : s.vm.findClass RX7 = some m.cls := findClass_of_methodNamed B.named
  have hlocks := B.notSynchronized
  subst hsz
  have hD := hD0.self (sz := s.heap.size)
  generalize hAe : va_A (wX7 dA oa (zb, zt, zn, zv, zh, zx, zk, zd, ze, zc) ln) s.heap.size = A at hD hZ ⊢
  have hA : ∀ q : Nat, s.heap.size ≤ q → A q := fun q h => by rw [← hAe]; exact Or.inr h
  have hS : va_S A s.heap s.heap [] := va_S.rf
  have hP : va_P (dC, dI) vwCl ([[(oa 0, .inr (11, [.ref (oa 1), .ref (oa 14), .ref (oa 27), .int zv, .ref (oa 40), .ref (oa 146), .int zk, .ref (oa 152), .int zd, .int ze, .int zc]))], wX0 dA (fun k => oa (1 + k)) zb, wX0 dA (fun k => oa (14 + k)) zt, wX0 dA (fun k => oa (27 + k)) zn, wX3 dA (fun k => oa (40 + k)) zh, wX6 dA (fun k => oa (146 + k)) zx, wLN dA (oa 152) ln].flatten) s.heap := hP
  have hD : va_D A ([[(oa 0, .inr (11, [.ref (oa 1), .ref (oa 14), .ref (oa 27), .int zv, .ref (oa 40), .ref (oa 146), .int zk, .ref (oa 152), .int zd, .int ze, .int zc]))], wX0 dA (fun k => oa (1 + k)) zb, wX0 dA (fun k => oa (14 + k)) zt, wX0 dA (fun k => oa (27 + k)) zn, wX3 dA (fun k => oa (40 + k)) zh, wX6 dA (fun k => oa (146 + k)) zx, wLN dA (oa 152) ln].flatten) := hD
  have hl := lv_entry [.ref (oa 0)] (n := 1) (Nat.le_of_ble_eq_true rfl)
  rw [lg_entry_eq]
  generalize (lg_sl [.ref (oa 0)] ++ List.replicate (1 - (lg_sl [.ref (oa 0)]).length) Slot.unset).toArray = ls at hl ⊢
  have hl : lv_has ls 1 [(0, .ref (oa 0))] := hl
  have in_X0 : ∀ w ∈ wsX00, w ∈ ws_X7_minutesLeftByPhases := fun w h => bg _ (inB_X0 w h)
  have in_X7 : ∀ w ∈ wsX70, w ∈ ws_X7_minutesLeftByPhases := fun w h => bg _ (inB_X7 w h)
  rw [f_X7_minutesLeftByPhases] at hf
  refine lv_aload_n hx hb dX7_minutesLeftByPhases_0 rfl (lv_at hl 0 rfl) ?_
  refine va_get (D := (dC, dI)) (ci := 11) (v := .ref (oa 1)) (C := RX7) (T := TX7) (N := 11) hx hb hts in_X7 hown hK hP 0 rfl rfl 0 (by decide) (hts _ (bg _ wd_274)) (fun _ h9 => h9) rfl dX7_minutesLeftByPhases_1 ?_
  refine va_get (D := (dC, dI)) (ci := 4) (v := .ref (oa 2)) (C := RX0) (T := TX0) (N := 4) hx hb hts in_X0 hown hK hP 1 rfl rfl 0 (by decide) (hts _ (bg _ wd_167)) (fun _ h9 => h9) rfl dX7_minutesLeftByPhases_4 ?_
  obtain ⟨r2, eh1, hf⟩ := bd hf
  refine jr_i (va_runV (As := []) (rest := []) ⟨hx, hb, hml, hown, hts⟩ (mt_X2_minutesToCome l dC dI dA gz (fun k => oa (2 + k)) s.heap.size zb.1 r2 eh1) (cwV 0 hts (gi_v bg wd_1427 wd_513 wd_514 wd_3 wd_515) rfl rfl rfl hd_X2_minutesToCome ⟨Nat.le_of_ble_eq_true rfl, Nat.le_of_ble_eq_true rfl⟩) ⟨pP_blind, va_recv (ci := 6) (q0 := 2) hK hP rfl rfl, pP_pre hP hD hS hA hK hN hZ [2, 3, 4, 5] (by decide) rfl⟩ rfl rfl hl.1 rfl (lv_room (Nat.le_of_ble_eq_true rfl)) dX7_minutesLeftByPhases_7 ⟨Nat.le_of_ble_eq_true rfl, Nat.le_of_ble_eq_true rfl⟩) hP hD hS hA [2, 3, 4, 5] rfl (fun H locs hP hS => ?_)
  exact W.iret hx hb hr (fun t ht hW => ⟨⟨_, (), rfl, sm hf, by rw [ht]; exact hP, hD⟩, hS.F ht⟩) hS.2.2 dX7_minutesLeftByPhases_10
/-! X7_finishedCycles -/
def f_X7_finishedCycles (zb : SX0) (zt : SX0) (zn : SX0) (zv : Int32) (zh : SX3) (zx : SX6) (zk : Int32) (zd : Int32) (ze : Int32) (zc : Int32) : Option (Int32) :=
  some zb.1.2.2.2.2.2.2
set_option maxRecDepth 100000 in
set_option maxHeartbeats 4000000 in
theorem m_X7_finishedCycles (l : Launch) (dC : Nat → ClassId) (dI : Nat → Nat → Nat) (dA gz : Nat → Nat) (oa : Nat → Nat) (sz : Nat) (ln : LN) (zb : SX0) (zt : SX0) (zn : SX0) (zv : Int32) (zh : SX3) (zx : SX6) (zk : Int32) (zd : Int32) (ze : Int32) (zc : Int32) (rr : Int32) (hf : f_X7_finishedCycles zb zt zn zv zh zx zk zd ze zc = some rr) : Met l yX7_finishedCycles ws_X7_finishedCycles ({ frames := 10, cells := 0, slots := 0, locals := 200 } : Room) (va_Pc [.ref (oa 0)] (pP (dC, dI) dA gz (wX7 dA oa (zb, zt, zn, zv, zh, zx, zk, zd, ze, zc) ln) sz)) (va_Qi (S := Unit) (fun r' _ => r' = rr) (fun _ t => pQ (dC, dI) (va_A (wX7 dA oa (zb, zt, zn, zv, zh, zx, zk, zd, ze, zc) ln) sz) (wX7 dA oa (zb, zt, zn, zv, zh, zx, zk, zd, ze, zc) ln) t) (va_A (wX7 dA oa (zb, zt, zn, zv, zh, zx, zk, zd, ze, zc) ln) sz)) 0 0 (va_A (wX7 dA oa (zb, zt, zn, zv, zh, zx, zk, zd, ze, zc) ln) sz) := by
  refine Met.ofW (cc := cX7_finishedCycles) (maxL := 1) (ret := (some .int)) (by decide) rfl ?_
  intro p e s m args below meth c s₁ B hml hv
  obtain ⟨rfl, hsz, hP, hK, hD0, hN, hZ⟩ := hv
  have hx := B.exec
  have hb := B.bytes
  have hr := B.returns
  have hts := atoms_spec (ws := ws_X7_finishedCycles) B.pre
  have htb : ∀ w ∈ BIG, w.before _ s = true := fun w h => hts w (bg w h)
  have hown : s.vm.findClass RX7 = some m.cls := findClass_of_methodNamed B.named
  have hlocks := B.notSynchronized
  subst hsz
  have hD := hD0.self (sz := s.heap.size)
  generalize hAe : va_A (wX7 dA oa (zb, zt, zn, zv, zh, zx, zk, zd, ze, zc) ln) s.heap.size = A at hD hZ ⊢
  have hA : ∀ q : Nat, s.heap.size ≤ q → A q := fun q h => by rw [← hAe]; exact Or.inr h
  have hS : va_S A s.heap s.heap [] := va_S.rf
  have hP : va_P (dC, dI) vwCl ([[(oa 0, .inr (11, [.ref (oa 1), .ref (oa 14), .ref (oa 27), .int zv, .ref (oa 40), .ref (oa 146), .int zk, .ref (oa 152), .int zd, .int ze, .int zc]))], wX0 dA (fun k => oa (1 + k)) zb, wX0 dA (fun k => oa (14 + k)) zt, wX0 dA (fun k => oa (27 + k)) zn, wX3 dA (fun k => oa (40 + k)) zh, wX6 dA (fun k => oa (146 + k)) zx, wLN dA (oa 152) ln].flatten) s.heap := hP
  have hD : va_D A ([[(oa 0, .inr (11, [.ref (oa 1), .ref (oa 14), .ref (oa 27), .int zv, .ref (oa 40), .ref (oa 146), .int zk, .ref (oa 152), .int zd, .int ze, .int zc]))], wX0 dA (fun k => oa (1 + k)) zb, wX0 dA (fun k => oa (14 + k)) zt, wX0 dA (fun k => oa (27 + k)) zn, wX3 dA (fun k => oa (40 + k)) zh, wX6 dA (fun k => oa (146 + k)) zx, wLN dA (oa 152) ln].flatten) := hD
  have hl := lv_entry [.ref (oa 0)] (n := 1) (Nat.le_of_ble_eq_true rfl)
  rw [lg_entry_eq]
  generalize (lg_sl [.ref (oa 0)] ++ List.replicate (1 - (lg_sl [.ref (oa 0)]).length) Slot.unset).toArray = ls at hl ⊢
  have hl : lv_has ls 1 [(0, .ref (oa 0))] := hl
  have in_X0 : ∀ w ∈ wsX00, w ∈ ws_X7_finishedCycles := fun w h => bg _ (inB_X0 w h)
  have in_X2 : ∀ w ∈ wsX20, w ∈ ws_X7_finishedCycles := fun w h => bg _ (inB_X2 w h)
  have in_X7 : ∀ w ∈ wsX70, w ∈ ws_X7_finishedCycles := fun w h => bg _ (inB_X7 w h)
  rw [f_X7_finishedCycles] at hf
  refine lv_aload_n hx hb dX7_finishedCycles_0 rfl (lv_at hl 0 rfl) ?_
  refine va_get (D := (dC, dI)) (ci := 11) (v := .ref (oa 1)) (C := RX7) (T := TX7) (N := 11) hx hb hts in_X7 hown hK hP 0 rfl rfl 0 (by decide) (hts _ (bg _ wd_274)) (fun _ h9 => h9) rfl dX7_finishedCycles_1 ?_
  refine va_get (D := (dC, dI)) (ci := 4) (v := .ref (oa 2)) (C := RX0) (T := TX0) (N := 4) hx hb hts in_X0 hown hK hP 1 rfl rfl 0 (by decide) (hts _ (bg _ wd_167)) (fun _ h9 => h9) rfl dX7_finishedCycles_4 ?_
  refine va_get (D := (dC, dI)) (ci := 6) (v := .int zb.1.2.2.2.2.2.2) (C := RX2) (T := TX2) (N := 7) hx hb hts in_X2 hown hK hP 2 rfl rfl 6 (by decide) (hts _ (bg _ wd_69)) (fun _ h9 => h9) rfl dX7_finishedCycles_7 ?_
  exact W.iret hx hb hr (fun t ht hW => ⟨⟨_, (), rfl, sm hf, by rw [ht]; exact hP, hD⟩, hS.F ht⟩) hS.2.2 dX7_finishedCycles_10
/-! X7_mass -/
def f_X7_mass (zb : SX0) (zt : SX0) (zn : SX0) (zv : Int32) (zh : SX3) (zx : SX6) (zk : Int32) (zd : Int32) (ze : Int32) (zc : Int32) : Option (Int32) :=
  some zb.2.1.1
set_option maxRecDepth 100000 in
set_option maxHeartbeats 4000000 in
theorem m_X7_mass (l : Launch) (dC : Nat → ClassId) (dI : Nat → Nat → Nat) (dA gz : Nat → Nat) (oa : Nat → Nat) (sz : Nat) (ln : LN) (zb : SX0) (zt : SX0) (zn : SX0) (zv : Int32) (zh : SX3) (zx : SX6) (zk : Int32) (zd : Int32) (ze : Int32) (zc : Int32) (rr : Int32) (hf : f_X7_mass zb zt zn zv zh zx zk zd ze zc = some rr) : Met l yX7_mass ws_X7_mass ({ frames := 10, cells := 0, slots := 0, locals := 200 } : Room) (va_Pc [.ref (oa 0)] (pP (dC, dI) dA gz (wX7 dA oa (zb, zt, zn, zv, zh, zx, zk, zd, ze, zc) ln) sz)) (va_Qi (S := Unit) (fun r' _ => r' = rr) (fun _ t => pQ (dC, dI) (va_A (wX7 dA oa (zb, zt, zn, zv, zh, zx, zk, zd, ze, zc) ln) sz) (wX7 dA oa (zb, zt, zn, zv, zh, zx, zk, zd, ze, zc) ln) t) (va_A (wX7 dA oa (zb, zt, zn, zv, zh, zx, zk, zd, ze, zc) ln) sz)) 0 0 (va_A (wX7 dA oa (zb, zt, zn, zv, zh, zx, zk, zd, ze, zc) ln) sz) := by
  refine Met.ofW (cc := cX7_mass) (maxL := 1) (ret := (some .int)) (by decide) rfl ?_
  intro p e s m args below meth c s₁ B hml hv
  obtain ⟨rfl, hsz, hP, hK, hD0, hN, hZ⟩ := hv
  have hx := B.exec
  have hb := B.bytes
  have hr := B.returns
  have hts := atoms_spec (ws := ws_X7_mass) B.pre
  have htb : ∀ w ∈ BIG, w.before _ s = true := fun w h => hts w (bg w h)
  have hown : s.vm.findClass RX7 = some m.cls := findClass_of_methodNamed B.named
  have hlocks := B.notSynchronized
  subst hsz
  have hD := hD0.self (sz := s.heap.size)
  generalize hAe : va_A (wX7 dA oa (zb, zt, zn, zv, zh, zx, zk, zd, ze, zc) ln) s.heap.size = A at hD hZ ⊢
  have hA : ∀ q : Nat, s.heap.size ≤ q → A q := fun q h => by rw [← hAe]; exact Or.inr h
  have hS : va_S A s.heap s.heap [] := va_S.rf
  have hP : va_P (dC, dI) vwCl ([[(oa 0, .inr (11, [.ref (oa 1), .ref (oa 14), .ref (oa 27), .int zv, .ref (oa 40), .ref (oa 146), .int zk, .ref (oa 152), .int zd, .int ze, .int zc]))], wX0 dA (fun k => oa (1 + k)) zb, wX0 dA (fun k => oa (14 + k)) zt, wX0 dA (fun k => oa (27 + k)) zn, wX3 dA (fun k => oa (40 + k)) zh, wX6 dA (fun k => oa (146 + k)) zx, wLN dA (oa 152) ln].flatten) s.heap := hP
  have hD : va_D A ([[(oa 0, .inr (11, [.ref (oa 1), .ref (oa 14), .ref (oa 27), .int zv, .ref (oa 40), .ref (oa 146), .int zk, .ref (oa 152), .int zd, .int ze, .int zc]))], wX0 dA (fun k => oa (1 + k)) zb, wX0 dA (fun k => oa (14 + k)) zt, wX0 dA (fun k => oa (27 + k)) zn, wX3 dA (fun k => oa (40 + k)) zh, wX6 dA (fun k => oa (146 + k)) zx, wLN dA (oa 152) ln].flatten) := hD
  have hl := lv_entry [.ref (oa 0)] (n := 1) (Nat.le_of_ble_eq_true rfl)
  rw [lg_entry_eq]
  generalize (lg_sl [.ref (oa 0)] ++ List.replicate (1 - (lg_sl [.ref (oa 0)]).length) Slot.unset).toArray = ls at hl ⊢
  have hl : lv_has ls 1 [(0, .ref (oa 0))] := hl
  have in_X0 : ∀ w ∈ wsX00, w ∈ ws_X7_mass := fun w h => bg _ (inB_X0 w h)
  have in_X1 : ∀ w ∈ wsX10, w ∈ ws_X7_mass := fun w h => bg _ (inB_X1 w h)
  have in_X7 : ∀ w ∈ wsX70, w ∈ ws_X7_mass := fun w h => bg _ (inB_X7 w h)
  rw [f_X7_mass] at hf
  refine lv_aload_n hx hb dX7_mass_0 rfl (lv_at hl 0 rfl) ?_
  refine va_get (D := (dC, dI)) (ci := 11) (v := .ref (oa 1)) (C := RX7) (T := TX7) (N := 11) hx hb hts in_X7 hown hK hP 0 rfl rfl 0 (by decide) (hts _ (bg _ wd_274)) (fun _ h9 => h9) rfl dX7_mass_1 ?_
  refine va_get (D := (dC, dI)) (ci := 4) (v := .ref (oa 6)) (C := RX0) (T := TX0) (N := 4) hx hb hts in_X0 hown hK hP 1 rfl rfl 1 (by decide) (hts _ (bg _ wd_169)) (fun _ h9 => h9) rfl dX7_mass_4 ?_
  refine va_get (D := (dC, dI)) (ci := 5) (v := .int zb.2.1.1) (C := RX1) (T := TX1) (N := 4) hx hb hts in_X1 hown hK hP 6 rfl rfl 0 (by decide) (hts _ (bg _ wd_95)) (fun _ h9 => h9) rfl dX7_mass_7 ?_
  exact W.iret hx hb hr (fun t ht hW => ⟨⟨_, (), rfl, sm hf, by rw [ht]; exact hP, hD⟩, hS.F ht⟩) hS.2.2 dX7_mass_10
/-! X7_temperature -/
def f_X7_temperature (zb : SX0) (zt : SX0) (zn : SX0) (zv : Int32) (zh : SX3) (zx : SX6) (zk : Int32) (zd : Int32) (ze : Int32) (zc : Int32) : Option (Int32) :=
  some zb.2.1.2.1
set_option maxRecDepth 100000 in
set_option maxHeartbeats 4000000 in
theorem m_X7_temperature (l : Launch) (dC : Nat → ClassId) (dI : Nat → Nat → Nat) (dA gz : Nat → Nat) (oa : Nat → Nat) (sz : Nat) (ln : LN) (zb : SX0) (zt : SX0) (zn : SX0) (zv : Int32) (zh : SX3) (zx : SX6) (zk : Int32) (zd : Int32) (ze : Int32) (zc : Int32) (rr : Int32) (hf : f_X7_temperature zb zt zn zv zh zx zk zd ze zc = some rr) : Met l yX7_temperature ws_X7_temperature ({ frames := 10, cells := 0, slots := 0, locals := 200 } : Room) (va_Pc [.ref (oa 0)] (pP (dC, dI) dA gz (wX7 dA oa (zb, zt, zn, zv, zh, zx, zk, zd, ze, zc) ln) sz)) (va_Qi (S := Unit) (fun r' _ => r' = rr) (fun _ t => pQ (dC, dI) (va_A (wX7 dA oa (zb, zt, zn, zv, zh, zx, zk, zd, ze, zc) ln) sz) (wX7 dA oa (zb, zt, zn, zv, zh, zx, zk, zd, ze, zc) ln) t) (va_A (wX7 dA oa (zb, zt, zn, zv, zh, zx, zk, zd, ze, zc) ln) sz)) 0 0 (va_A (wX7 dA oa (zb, zt, zn, zv, zh, zx, zk, zd, ze, zc) ln) sz) := by
  refine Met.ofW (cc := cX7_temperature) (maxL := 1) (ret := (some .int)) (by decide) rfl ?_
  intro p e s m args below meth c s₁ B hml hv
  obtain ⟨rfl, hsz, hP, hK, hD0, hN, hZ⟩ := hv
  have hx := B.exec
  have hb := B.bytes
  have hr := B.returns
  have hts := atoms_spec (ws := ws_X7_temperature) B.pre
  have htb : ∀ w ∈ BIG, w.before _ s = true := fun w h => hts w (bg w h)
  have hown : s.vm.findClass RX7 = some m.cls := findClass_of_methodNamed B.named
  have hlocks := B.notSynchronized
  subst hsz
  have hD := hD0.self (sz := s.heap.size)
  generalize hAe : va_A (wX7 dA oa (zb, zt, zn, zv, zh, zx, zk, zd, ze, zc) ln) s.heap.size = A at hD hZ ⊢
  have hA : ∀ q : Nat, s.heap.size ≤ q → A q := fun q h => by rw [← hAe]; exact Or.inr h
  have hS : va_S A s.heap s.heap [] := va_S.rf
  have hP : va_P (dC, dI) vwCl ([[(oa 0, .inr (11, [.ref (oa 1), .ref (oa 14), .ref (oa 27), .int zv, .ref (oa 40), .ref (oa 146), .int zk, .ref (oa 152), .int zd, .int ze, .int zc]))], wX0 dA (fun k => oa (1 + k)) zb, wX0 dA (fun k => oa (14 + k)) zt, wX0 dA (fun k => oa (27 + k)) zn, wX3 dA (fun k => oa (40 + k)) zh, wX6 dA (fun k => oa (146 + k)) zx, wLN dA (oa 152) ln].flatten) s.heap := hP
  have hD : va_D A ([[(oa 0, .inr (11, [.ref (oa 1), .ref (oa 14), .ref (oa 27), .int zv, .ref (oa 40), .ref (oa 146), .int zk, .ref (oa 152), .int zd, .int ze, .int zc]))], wX0 dA (fun k => oa (1 + k)) zb, wX0 dA (fun k => oa (14 + k)) zt, wX0 dA (fun k => oa (27 + k)) zn, wX3 dA (fun k => oa (40 + k)) zh, wX6 dA (fun k => oa (146 + k)) zx, wLN dA (oa 152) ln].flatten) := hD
  have hl := lv_entry [.ref (oa 0)] (n := 1) (Nat.le_of_ble_eq_true rfl)
  rw [lg_entry_eq]
  generalize (lg_sl [.ref (oa 0)] ++ List.replicate (1 - (lg_sl [.ref (oa 0)]).length) Slot.unset).toArray = ls at hl ⊢
  have hl : lv_has ls 1 [(0, .ref (oa 0))] := hl
  have in_X0 : ∀ w ∈ wsX00, w ∈ ws_X7_temperature := fun w h => bg _ (inB_X0 w h)
  have in_X1 : ∀ w ∈ wsX10, w ∈ ws_X7_temperature := fun w h => bg _ (inB_X1 w h)
  have in_X7 : ∀ w ∈ wsX70, w ∈ ws_X7_temperature := fun w h => bg _ (inB_X7 w h)
  rw [f_X7_temperature] at hf
  refine lv_aload_n hx hb dX7_temperature_0 rfl (lv_at hl 0 rfl) ?_
  refine va_get (D := (dC, dI)) (ci := 11) (v := .ref (oa 1)) (C := RX7) (T := TX7) (N := 11) hx hb hts in_X7 hown hK hP 0 rfl rfl 0 (by decide) (hts _ (bg _ wd_274)) (fun _ h9 => h9) rfl dX7_temperature_1 ?_
  refine va_get (D := (dC, dI)) (ci := 4) (v := .ref (oa 6)) (C := RX0) (T := TX0) (N := 4) hx hb hts in_X0 hown hK hP 1 rfl rfl 1 (by decide) (hts _ (bg _ wd_169)) (fun _ h9 => h9) rfl dX7_temperature_4 ?_
  refine va_get (D := (dC, dI)) (ci := 5) (v := .int zb.2.1.2.1) (C := RX1) (T := TX1) (N := 4) hx hb hts in_X1 hown hK hP 6 rfl rfl 1 (by decide) (hts _ (bg _ wd_98)) (fun _ h9 => h9) rfl dX7_temperature_7 ?_
  exact W.iret hx hb hr (fun t ht hW => ⟨⟨_, (), rfl, sm hf, by rw [ht]; exact hP, hD⟩, hS.F ht⟩) hS.2.2 dX7_temperature_10
/-! X7_smoothness -/
def f_X7_smoothness (zb : SX0) (zt : SX0) (zn : SX0) (zv : Int32) (zh : SX3) (zx : SX6) (zk : Int32) (zd : Int32) (ze : Int32) (zc : Int32) : Option (Int32) :=
  some zb.2.1.2.2.1
set_option maxRecDepth 100000 in
set_option maxHeartbeats 4000000 in
theorem m_X7_smoothness (l : Launch) (dC : Nat → ClassId) (dI : Nat → Nat → Nat) (dA gz : Nat → Nat) (oa : Nat → Nat) (sz : Nat) (ln : LN) (zb : SX0) (zt : SX0) (zn : SX0) (zv : Int32) (zh : SX3) (zx : SX6) (zk : Int32) (zd : Int32) (ze : Int32) (zc : Int32) (rr : Int32) (hf : f_X7_smoothness zb zt zn zv zh zx zk zd ze zc = some rr) : Met l yX7_smoothness ws_X7_smoothness ({ frames := 10, cells := 0, slots := 0, locals := 200 } : Room) (va_Pc [.ref (oa 0)] (pP (dC, dI) dA gz (wX7 dA oa (zb, zt, zn, zv, zh, zx, zk, zd, ze, zc) ln) sz)) (va_Qi (S := Unit) (fun r' _ => r' = rr) (fun _ t => pQ (dC, dI) (va_A (wX7 dA oa (zb, zt, zn, zv, zh, zx, zk, zd, ze, zc) ln) sz) (wX7 dA oa (zb, zt, zn, zv, zh, zx, zk, zd, ze, zc) ln) t) (va_A (wX7 dA oa (zb, zt, zn, zv, zh, zx, zk, zd, ze, zc) ln) sz)) 0 0 (va_A (wX7 dA oa (zb, zt, zn, zv, zh, zx, zk, zd, ze, zc) ln) sz) := by
  refine Met.ofW (cc := cX7_smoothness) (maxL := 1) (ret := (some .int)) (by decide) rfl ?_
  intro p e s m args below meth c s₁ B hml hv
  obtain ⟨rfl, hsz, hP, hK, hD0, hN, hZ⟩ := hv
  have hx := B.exec
  have hb := B.bytes
  have hr := B.returns
  have hts := atoms_spec (ws := ws_X7_smoothness) B.pre
  have htb : ∀ w ∈ BIG, w.before _ s = true := fun w h => hts w (bg w h)
  have hown : s.vm.findClass RX7 = some m.cls := findClass_of_methodNamed B.named
  have hlocks := B.notSynchronized
  subst hsz
  have hD := hD0.self (sz := s.heap.size)
  generalize hAe : va_A (wX7 dA oa (zb, zt, zn, zv, zh, zx, zk, zd, ze, zc) ln) s.heap.size = A at hD hZ ⊢
  have hA : ∀ q : Nat, s.heap.size ≤ q → A q := fun q h => by rw [← hAe]; exact Or.inr h
  have hS : va_S A s.heap s.heap [] := va_S.rf
  have hP : va_P (dC, dI) vwCl ([[(oa 0, .inr (11, [.ref (oa 1), .ref (oa 14), .ref (oa 27), .int zv, .ref (oa 40), .ref (oa 146), .int zk, .ref (oa 152), .int zd, .int ze, .int zc]))], wX0 dA (fun k => oa (1 + k)) zb, wX0 dA (fun k => oa (14 + k)) zt, wX0 dA (fun k => oa (27 + k)) zn, wX3 dA (fun k => oa (40 + k)) zh, wX6 dA (fun k => oa (146 + k)) zx, wLN dA (oa 152) ln].flatten) s.heap := hP
  have hD : va_D A ([[(oa 0, .inr (11, [.ref (oa 1), .ref (oa 14), .ref (oa 27), .int zv, .ref (oa 40), .ref (oa 146), .int zk, .ref (oa 152), .int zd, .int ze, .int zc]))], wX0 dA (fun k => oa (1 + k)) zb, wX0 dA (fun k => oa (14 + k)) zt, wX0 dA (fun k => oa (27 + k)) zn, wX3 dA (fun k => oa (40 + k)) zh, wX6 dA (fun k => oa (146 + k)) zx, wLN dA (oa 152) ln].flatten) := hD
  have hl := lv_entry [.ref (oa 0)] (n := 1) (Nat.le_of_ble_eq_true rfl)
  rw [lg_entry_eq]
  generalize (lg_sl [.ref (oa 0)] ++ List.replicate (1 - (lg_sl [.ref (oa 0)]).length) Slot.unset).toArray = ls at hl ⊢
  have hl : lv_has ls 1 [(0, .ref (oa 0))] := hl
  have in_X0 : ∀ w ∈ wsX00, w ∈ ws_X7_smoothness := fun w h => bg _ (inB_X0 w h)
  have in_X1 : ∀ w ∈ wsX10, w ∈ ws_X7_smoothness := fun w h => bg _ (inB_X1 w h)
  have in_X7 : ∀ w ∈ wsX70, w ∈ ws_X7_smoothness := fun w h => bg _ (inB_X7 w h)
  rw [f_X7_smoothness] at hf
  refine lv_aload_n hx hb dX7_smoothness_0 rfl (lv_at hl 0 rfl) ?_
  refine va_get (D := (dC, dI)) (ci := 11) (v := .ref (oa 1)) (C := RX7) (T := TX7) (N := 11) hx hb hts in_X7 hown hK hP 0 rfl rfl 0 (by decide) (hts _ (bg _ wd_274)) (fun _ h9 => h9) rfl dX7_smoothness_1 ?_
  refine va_get (D := (dC, dI)) (ci := 4) (v := .ref (oa 6)) (C := RX0) (T := TX0) (N := 4) hx hb hts in_X0 hown hK hP 1 rfl rfl 1 (by decide) (hts _ (bg _ wd_169)) (fun _ h9 => h9) rfl dX7_smoothness_4 ?_
  refine va_get (D := (dC, dI)) (ci := 5) (v := .int zb.2.1.2.2.1) (C := RX1) (T := TX1) (N := 4) hx hb hts in_X1 hown hK hP 6 rfl rfl 2 (by decide) (hts _ (bg _ wd_100)) (fun _ h9 => h9) rfl dX7_smoothness_7 ?_
  exact W.iret hx hb hr (fun t ht hW => ⟨⟨_, (), rfl, sm hf, by rw [ht]; exact hP, hD⟩, hS.F ht⟩) hS.2.2 dX7_smoothness_10
/-! X7_stress -/
def f_X7_stress (zb : SX0) (zt : SX0) (zn : SX0) (zv : Int32) (zh : SX3) (zx : SX6) (zk : Int32) (zd : Int32) (ze : Int32) (zc : Int32) : Option (Int32) :=
  some zb.2.1.2.2.2
set_option maxRecDepth 100000 in
set_option maxHeartbeats 4000000 in
theorem m_X7_stress (l : Launch) (dC : Nat → ClassId) (dI : Nat → Nat → Nat) (dA gz : Nat → Nat) (oa : Nat → Nat) (sz : Nat) (ln : LN) (zb : SX0) (zt : SX0) (zn : SX0) (zv : Int32) (zh : SX3) (zx : SX6) (zk : Int32) (zd : Int32) (ze : Int32) (zc : Int32) (rr : Int32) (hf : f_X7_stress zb zt zn zv zh zx zk zd ze zc = some rr) : Met l yX7_stress ws_X7_stress ({ frames := 10, cells := 0, slots := 0, locals := 200 } : Room) (va_Pc [.ref (oa 0)] (pP (dC, dI) dA gz (wX7 dA oa (zb, zt, zn, zv, zh, zx, zk, zd, ze, zc) ln) sz)) (va_Qi (S := Unit) (fun r' _ => r' = rr) (fun _ t => pQ (dC, dI) (va_A (wX7 dA oa (zb, zt, zn, zv, zh, zx, zk, zd, ze, zc) ln) sz) (wX7 dA oa (zb, zt, zn, zv, zh, zx, zk, zd, ze, zc) ln) t) (va_A (wX7 dA oa (zb, zt, zn, zv, zh, zx, zk, zd, ze, zc) ln) sz)) 0 0 (va_A (wX7 dA oa (zb, zt, zn, zv, zh, zx, zk, zd, ze, zc) ln) sz) := by
  refine Met.ofW (cc := cX7_stress) (maxL := 1) (ret := (some .int)) (by decide) rfl ?_
  intro p e s m args below meth c s₁ B hml hv
  obtain ⟨rfl, hsz, hP, hK, hD0, hN, hZ⟩ := hv
  have hx := B.exec
  have hb := B.bytes
  have hr := B.returns
  have hts := atoms_spec (ws := ws_X7_stress) B.pre
  have htb : ∀ w ∈ BIG, w.before _ s = true := fun w h => hts w (bg w h)
  have hown : s.vm.findClass RX7 = some m.cls := findClass_of_methodNamed B.named
  have hlocks := B.notSynchronized
  subst hsz
  have hD := hD0.self (sz := s.heap.size)
  generalize hAe : va_A (wX7 dA oa (zb, zt, zn, zv, zh, zx, zk, zd, ze, zc) ln) s.heap.size = A at hD hZ ⊢
  have hA : ∀ q : Nat, s.heap.size ≤ q → A q := fun q h => by rw [← hAe]; exact Or.inr h
  have hS : va_S A s.heap s.heap [] := va_S.rf
  have hP : va_P (dC, dI) vwCl ([[(oa 0, .inr (11, [.ref (oa 1), .ref (oa 14), .ref (oa 27), .int zv, .ref (oa 40), .ref (oa 146), .int zk, .ref (oa 152), .int zd, .int ze, .int zc]))], wX0 dA (fun k => oa (1 + k)) zb, wX0 dA (fun k => oa (14 + k)) zt, wX0 dA (fun k => oa (27 + k)) zn, wX3 dA (fun k => oa (40 + k)) zh, wX6 dA (fun k => oa (146 + k)) zx, wLN dA (oa 152) ln].flatten) s.heap := hP
  have hD : va_D A ([[(oa 0, .inr (11, [.ref (oa 1), .ref (oa 14), .ref (oa 27), .int zv, .ref (oa 40), .ref (oa 146), .int zk, .ref (oa 152), .int zd, .int ze, .int zc]))], wX0 dA (fun k => oa (1 + k)) zb, wX0 dA (fun k => oa (14 + k)) zt, wX0 dA (fun k => oa (27 + k)) zn, wX3 dA (fun k => oa (40 + k)) zh, wX6 dA (fun k => oa (146 + k)) zx, wLN dA (oa 152) ln].flatten) := hD
  have hl := lv_entry [.ref (oa 0)] (n := 1) (Nat.le_of_ble_eq_true rfl)
  rw [lg_entry_eq]
  generalize (lg_sl [.ref (oa 0)] ++ List.replicate (1 - (lg_sl [.ref (oa 0)]).length) Slot.unset).toArray = ls at hl ⊢
  have hl : lv_has ls 1 [(0, .ref (oa 0))] := hl
  have in_X0 : ∀ w ∈ wsX00, w ∈ ws_X7_stress := fun w h => bg _ (inB_X0 w h)
  have in_X1 : ∀ w ∈ wsX10, w ∈ ws_X7_stress := fun w h => bg _ (inB_X1 w h)
  have in_X7 : ∀ w ∈ wsX70, w ∈ ws_X7_stress := fun w h => bg _ (inB_X7 w h)
  rw [f_X7_stress] at hf
  refine lv_aload_n hx hb dX7_stress_0 rfl (lv_at hl 0 rfl) ?_
  refine va_get (D := (dC, dI)) (ci := 11) (v := .ref (oa 1)) (C := RX7) (T := TX7) (N := 11) hx hb hts in_X7 hown hK hP 0 rfl rfl 0 (by decide) (hts _ (bg _ wd_274)) (fun _ h9 => h9) rfl dX7_stress_1 ?_
  refine va_get (D := (dC, dI)) (ci := 4) (v := .ref (oa 6)) (C := RX0) (T := TX0) (N := 4) hx hb hts in_X0 hown hK hP 1 rfl rfl 1 (by decide) (hts _ (bg _ wd_169)) (fun _ h9 => h9) rfl dX7_stress_4 ?_
  refine va_get (D := (dC, dI)) (ci := 5) (v := .int zb.2.1.2.2.2) (C := RX1) (T := TX1) (N := 4) hx hb hts in_X1 hown hK hP 6 rfl rfl 3 (by decide) (hts _ (bg _ wd_103)) (fun _ h9 => h9) rfl dX7_stress_7 ?_
  exact W.iret hx hb hr (fun t ht hW => ⟨⟨_, (), rfl, sm hf, by rw [ht]; exact hP, hD⟩, hS.F ht⟩) hS.2.2 dX7_stress_10
/-! X7_temperatureAfter -/
def f_X7_temperatureAfter (zb : SX0) (zt : SX0) (zn : SX0) (zv : Int32) (zh : SX3) (zx : SX6) (zk : Int32) (zd : Int32) (ze : Int32) (zc : Int32) (p1 : Int32) : Option ((Int32 ⊕ String) × SX7) :=
  bE7 (f_X7_tryMinutes zb zt zn zv zh zx zk zd ze zc p1) fun _ c2_zb c2_zt c2_zn c2_zv c2_zh c2_zx c2_zk c2_zd c2_ze c2_zc =>
  some (.inl c2_zt.2.1.2.1, (c2_zb, c2_zt, c2_zn, c2_zv, c2_zh, c2_zx, c2_zk, c2_zd, c2_ze, c2_zc))
set_option maxRecDepth 100000 in
set_option maxHeartbeats 4000000 in
theorem m_X7_temperatureAfter (l : Launch) (hl0 : l.stackTraces = false) (dC : Nat → ClassId) (dI : Nat → Nat → Nat) (dA gz : Nat → Nat) (oa : Nat → Nat) (sz : Nat) (ln : LN) (zb : SX0) (zt : SX0) (zn : SX0) (zv : Int32) (zh : SX3) (zx : SX6) (zk : Int32) (zd : Int32) (ze : Int32) (zc : Int32) (p1 : Int32) (rr : Int32 ⊕ String) (uu : SX7) (hf : f_X7_temperatureAfter zb zt zn zv zh zx zk zd ze zc p1 = some (rr, uu)) : vx_Met l yX7_temperatureAfter ws_X7_temperatureAfter ({ frames := 34, cells := 1, slots := 6, locals := 1400 } : Room) (va_Pc [.ref (oa 0), .int p1] (pP (dC, dI) dA gz (wX7 dA oa (zb, zt, zn, zv, zh, zx, zk, zd, ze, zc) ln) sz)) (va_Qi (S := Unit) (fun r' _ => rr = Sum.inl r') (fun _ t => pQ (dC, dI) (va_A (wX7 dA oa (zb, zt, zn, zv, zh, zx, zk, zd, ze, zc) ln) sz) (wX7 dA oa uu ln) t) (va_A (wX7 dA oa (zb, zt, zn, zv, zh, zx, zk, zd, ze, zc) ln) sz)) (XCx (dC, dI) (va_A (wX7 dA oa (zb, zt, zn, zv, zh, zx, zk, zd, ze, zc) ln) sz) rr (wX7 dA oa uu ln)) 1 6 (va_A (wX7 dA oa (zb, zt, zn, zv, zh, zx, zk, zd, ze, zc) ln) sz) := by
  refine vx_ofW (cc := cX7_temperatureAfter) (maxL := 2) (ret := (some .int)) (by decide) rfl ?_
  intro p e s m args below meth c s₁ B hml ht9 hv
  obtain ⟨rfl, hsz, hP, hK, hD0, hN, hZ⟩ := hv
  have hx := B.exec
  have hb := B.bytes
  have hr := B.returns
  have hts := atoms_spec (ws := ws_X7_temperatureAfter) B.pre
  have htb : ∀ w ∈ BIG, w.before _ s = true := fun w h => hts w (bg w h)
  have hown : s.vm.findClass RX7 = some m.cls := findClass_of_methodNamed B.named
  have hlocks := B.notSynchronized
  subst hsz
  have hD := hD0.self (sz := s.heap.size)
  generalize hAe : va_A (wX7 dA oa (zb, zt, zn, zv, zh, zx, zk, zd, ze, zc) ln) s.heap.size = A at hD hZ ⊢
  have hA : ∀ q : Nat, s.heap.size ≤ q → A q := fun q h => by rw [← hAe]; exact Or.inr h
  have hS : va_S A s.heap s.heap [] := va_S.rf
  have hP : va_P (dC, dI) vwCl ([[(oa 0, .inr (11, [.ref (oa 1), .ref (oa 14), .ref (oa 27), .int zv, .ref (oa 40), .ref (oa 146), .int zk, .ref (oa 152), .int zd, .int ze, .int zc]))], wX0 dA (fun k => oa (1 + k)) zb, wX0 dA (fun k => oa (14 + k)) zt, wX0 dA (fun k => oa (27 + k)) zn, wX3 dA (fun k => oa (40 + k)) zh, wX6 dA (fun k => oa (146 + k)) zx, wLN dA (oa 152) ln].flatten) s.heap := hP
  have hD : va_D A ([[(oa 0, .inr (11, [.ref (oa 1), .ref (oa 14), .ref (oa 27), .int zv, .ref (oa 40), .ref (oa 146), .int zk, .ref (oa 152), .int zd, .int ze, .int zc]))], wX0 dA (fun k => oa (1 + k)) zb, wX0 dA (fun k => oa (14 + k)) zt, wX0 dA (fun k => oa (27 + k)) zn, wX3 dA (fun k => oa (40 + k)) zh, wX6 dA (fun k => oa (146 + k)) zx, wLN dA (oa 152) ln].flatten) := hD
  have hl := lv_entry [.ref (oa 0), .int p1] (n := 2) (Nat.le_of_ble_eq_true rfl)
  rw [lg_entry_eq]
  generalize (lg_sl [.ref (oa 0), .int p1] ++ List.replicate (2 - (lg_sl [.ref (oa 0), .int p1]).length) Slot.unset).toArray = ls at hl ⊢
  have hl : lv_has ls 2 [(0, .ref (oa 0)), (1, .int p1)] := hl
  have in_X0 : ∀ w ∈ wsX00, w ∈ ws_X7_temperatureAfter := fun w h => bg _ (inB_X0 w h)
  have in_X1 : ∀ w ∈ wsX10, w ∈ ws_X7_temperatureAfter := fun w h => bg _ (inB_X1 w h)
  have in_X7 : ∀ w ∈ wsX70, w ∈ ws_X7_temperatureAfter := fun w h => bg _ (inB_X7 w h)
  rw [f_X7_temperatureAfter] at hf
  refine lv_aload_n hx hb dX7_temperatureAfter_0 rfl (lv_at hl 0 rfl) ?_
  refine lv_iload_n hx hb dX7_temperatureAfter_1 rfl (lv_at hl 1 rfl) ?_
  rcases bE7_inv hf with ⟨r3, c2_zb, c2_zt, c2_zn, c2_zv, c2_zh, c2_zx, c2_zk, c2_zd, c2_ze, c2_zc, eh1, hf⟩ | ⟨E9, S9, eh1, hf⟩
  · refine jx_v (w1 := wX7 dA oa (c2_zb, c2_zt, c2_zn, c2_zv, c2_zh, c2_zx, c2_zk, c2_zd, c2_ze, c2_zc) ln) (vx_runV (As := [.int p1]) (rest := []) ⟨hx, hb, hml, hown, hts⟩ (m_X7_tryMinutes l hl0 dC dI dA gz oa s.heap.size ln zb zt zn zv zh zx zk zd ze zc p1 (.inl ()) (c2_zb, c2_zt, c2_zn, c2_zv, c2_zh, c2_zx, c2_zk, c2_zd, c2_ze, c2_zc) eh1) (cwV 1 hts (gi_v bg wd_1439 wd_1441 ws_20 wd_1 wd_1442) rfl rfl rfl hd_X7_tryMinutes ⟨Nat.le_of_ble_eq_true rfl, Nat.le_of_ble_eq_true rfl⟩) ⟨pP_blind, va_recv (ci := 11) (q0 := 0) hK hP rfl rfl, pP_preW hP hD hS hA hK hN hZ⟩ rfl rfl hl.1 rfl (lv_room (Nat.le_of_ble_eq_true rfl)) dX7_temperatureAfter_2 ⟨Nat.le_of_ble_eq_true rfl, Nat.le_of_ble_eq_true rfl⟩) hD hS hA (fun E ce q9 H locs h9 _ _ _ _ _ _ => nomatch h9) (fun H locs h9 hP hD hS => ?_)
    have hP : va_P (dC, dI) vwCl ([[(oa 0, .inr (11, [.ref (oa 1), .ref (oa 14), .ref (oa 27), .int c2_zv, .ref (oa 40), .ref (oa 146), .int c2_zk, .ref (oa 152), .int c2_zd, .int c2_ze, .int c2_zc]))], wX0 dA (fun k => oa (1 + k)) c2_zb, wX0 dA (fun k => oa (14 + k)) c2_zt, wX0 dA (fun k => oa (27 + k)) c2_zn, wX3 dA (fun k => oa (40 + k)) c2_zh, wX6 dA (fun k => oa (146 + k)) c2_zx, wLN dA (oa 152) ln].flatten) H := hP
    have hD : va_D A ([[(oa 0, .inr (11, [.ref (oa 1), .ref (oa 14), .ref (oa 27), .int c2_zv, .ref (oa 40), .ref (oa 146), .int c2_zk, .ref (oa 152), .int c2_zd, .int c2_ze, .int c2_zc]))], wX0 dA (fun k => oa (1 + k)) c2_zb, wX0 dA (fun k => oa (14 + k)) c2_zt, wX0 dA (fun k => oa (27 + k)) c2_zn, wX3 dA (fun k => oa (40 + k)) c2_zh, wX6 dA (fun k => oa (146 + k)) c2_zx, wLN dA (oa 152) ln].flatten) := hD
    refine lv_aload_n hx hb dX7_temperatureAfter_5 rfl (lv_at hl 0 rfl) ?_
    refine va_get (D := (dC, dI)) (ci := 11) (v := .ref (oa 14)) (C := RX7) (T := TX7) (N := 11) hx hb hts in_X7 hown hK hP 0 rfl rfl 1 (by decide) (hts _ (bg _ wd_275)) (fun _ h9 => h9) rfl dX7_temperatureAfter_6 ?_
    refine va_get (D := (dC, dI)) (ci := 4) (v := .ref (oa 19)) (C := RX0) (T := TX0) (N := 4) hx hb hts in_X0 hown hK hP 14 rfl rfl 1 (by decide) (hts _ (bg _ wd_169)) (fun _ h9 => h9) rfl dX7_temperatureAfter_9 ?_
    refine va_get (D := (dC, dI)) (ci := 5) (v := .int c2_zt.2.1.2.1) (C := RX1) (T := TX1) (N := 4) hx hb hts in_X1 hown hK hP 19 rfl rfl 1 (by decide) (hts _ (bg _ wd_98)) (fun _ h9 => h9) rfl dX7_temperatureAfter_12 ?_
    obtain ⟨e8, e9⟩ := Prod.mk.inj (sm hf)
    exact vx_ret (W.iret hx hb hr (fun t ht hW => ⟨⟨_, (), rfl, e8.symm, by rw [← e9, ht]; exact hP, by rw [← e9]; exact hD⟩, hS.F ht⟩) hS.2.2 dX7_temperatureAfter_15)
  · obtain ⟨e8, e9⟩ := Prod.mk.inj hf
    refine jx_v (w1 := wX7 dA oa S9 ln) (vx_runV (As := [.int p1]) (rest := []) ⟨hx, hb, hml, hown, hts⟩ (m_X7_tryMinutes l hl0 dC dI dA gz oa s.heap.size ln zb zt zn zv zh zx zk zd ze zc p1 (.inr E9) S9 eh1) (cwV 1 hts (gi_v bg wd_1439 wd_1441 ws_20 wd_1 wd_1442) rfl rfl rfl hd_X7_tryMinutes ⟨Nat.le_of_ble_eq_true rfl, Nat.le_of_ble_eq_true rfl⟩) ⟨pP_blind, va_recv (ci := 11) (q0 := 0) hK hP rfl rfl, pP_preW hP hD hS hA hK hN hZ⟩ rfl rfl hl.1 rfl (lv_room (Nat.le_of_ble_eq_true rfl)) dX7_temperatureAfter_2 ⟨Nat.le_of_ble_eq_true rfl, Nat.le_of_ble_eq_true rfl⟩) hD hS hA (fun E ce q9 H locs h9 hP hD hS h1 h2 h3 => ?_) (fun H locs h9 _ _ _ => nomatch h9)
    cases h9
    exact vx_out (fun x9 hx9 => absurd (ht9 x9 hx9) id) hlocks h1 h2 h3 (fun t ht hvm => by rw [← e9]; exact xp e8.symm hP hD hS ht) hS.2.2 (Nat.le_of_ble_eq_true rfl) (Nat.le_of_ble_eq_true rfl)
/-! X7_smoothnessAfter -/
def f_X7_smoothnessAfter (zb : SX0) (zt : SX0) (zn : SX0) (zv : Int32) (zh : SX3) (zx : SX6) (zk : Int32) (zd : Int32) (ze : Int32) (zc : Int32) (p1 : Int32) : Option ((Int32 ⊕ String) × SX7) :=
  bE7 (f_X7_tryMinutes zb zt zn zv zh zx zk zd ze zc p1) fun _ c2_zb c2_zt c2_zn c2_zv c2_zh c2_zx c2_zk c2_zd c2_ze c2_zc =>
  some (.inl c2_zt.2.1.2.2.1, (c2_zb, c2_zt, c2_zn, c2_zv, c2_zh, c2_zx, c2_zk, c2_zd, c2_ze, c2_zc))
set_option maxRecDepth 100000 in
set_option maxHeartbeats 4000000 in
theorem m_X7_smoothnessAfter (l : Launch) (hl0 : l.stackTraces = false) (dC : Nat → ClassId) (dI : Nat → Nat → Nat) (dA gz : Nat → Nat) (oa : Nat → Nat) (sz : Nat) (ln : LN) (zb : SX0) (zt : SX0) (zn : SX0) (zv : Int32) (zh : SX3) (zx : SX6) (zk : Int32) (zd : Int32) (ze : Int32) (zc : Int32) (p1 : Int32) (rr : Int32 ⊕ String) (uu : SX7) (hf : f_X7_smoothnessAfter zb zt zn zv zh zx zk zd ze zc p1 = some (rr, uu)) : vx_Met l yX7_smoothnessAfter ws_X7_smoothnessAfter ({ frames := 34, cells := 1, slots := 6, locals := 1400 } : Room) (va_Pc [.ref (oa 0), .int p1] (pP (dC, dI) dA gz (wX7 dA oa (zb, zt, zn, zv, zh, zx, zk, zd, ze, zc) ln) sz)) (va_Qi (S := Unit) (fun r' _ => rr = Sum.inl r') (fun _ t => pQ (dC, dI) (va_A (wX7 dA oa (zb, zt, zn, zv, zh, zx, zk, zd, ze, zc) ln) sz) (wX7 dA oa uu ln) t) (va_A (wX7 dA oa (zb, zt, zn, zv, zh, zx, zk, zd, ze, zc) ln) sz)) (XCx (dC, dI) (va_A (wX7 dA oa (zb, zt, zn, zv, zh, zx, zk, zd, ze, zc) ln) sz) rr (wX7 dA oa uu ln)) 1 6 (va_A (wX7 dA oa (zb, zt, zn, zv, zh, zx, zk, zd, ze, zc) ln) sz) := by
  refine vx_ofW (cc := cX7_smoothnessAfter) (maxL := 2) (ret := (some .int)) (by decide) rfl ?_
  intro p e s m args below meth c s₁ B hml ht9 hv
  obtain ⟨rfl, hsz, hP, hK, hD0, hN, hZ⟩ := hv
  have hx := B.exec
  have hb := B.bytes
  have hr := B.returns
  have hts := atoms_spec (ws := ws_X7_smoothnessAfter) B.pre
  have htb : ∀ w ∈ BIG, w.before _ s = true := fun w h => hts w (bg w h)
  have hown : s.vm.findClass RX7 = some m.cls := findClass_of_methodNamed B.named
  have hlocks := B.notSynchronized
  subst hsz
  have hD := hD0.self (sz := s.heap.size)
  generalize hAe : va_A (wX7 dA oa (zb, zt, zn, zv, zh, zx, zk, zd, ze, zc) ln) s.heap.size = A at hD hZ ⊢
  have hA : ∀ q : Nat, s.heap.size ≤ q → A q := fun q h => by rw [← hAe]; exact Or.inr h
  have hS : va_S A s.heap s.heap [] := va_S.rf
  have hP : va_P (dC, dI) vwCl ([[(oa 0, .inr (11, [.ref (oa 1), .ref (oa 14), .ref (oa 27), .int zv, .ref (oa 40), .ref (oa 146), .int zk, .ref (oa 152), .int zd, .int ze, .int zc]))], wX0 dA (fun k => oa (1 + k)) zb, wX0 dA (fun k => oa (14 + k)) zt, wX0 dA (fun k => oa (27 + k)) zn, wX3 dA (fun k => oa (40 + k)) zh, wX6 dA (fun k => oa (146 + k)) zx, wLN dA (oa 152) ln].flatten) s.heap := hP
  have hD : va_D A ([[(oa 0, .inr (11, [.ref (oa 1), .ref (oa 14), .ref (oa 27), .int zv, .ref (oa 40), .ref (oa 146), .int zk, .ref (oa 152), .int zd, .int ze, .int zc]))], wX0 dA (fun k => oa (1 + k)) zb, wX0 dA (fun k => oa (14 + k)) zt, wX0 dA (fun k => oa (27 + k)) zn, wX3 dA (fun k => oa (40 + k)) zh, wX6 dA (fun k => oa (146 + k)) zx, wLN dA (oa 152) ln].flatten) := hD
  have hl := lv_entry [.ref (oa 0), .int p1] (n := 2) (Nat.le_of_ble_eq_true rfl)
  rw [lg_entry_eq]
  generalize (lg_sl [.ref (oa 0), .int p1] ++ List.replicate (2 - (lg_sl [.ref (oa 0), .int p1]).length) Slot.unset).toArray = ls at hl ⊢
  have hl : lv_has ls 2 [(0, .ref (oa 0)), (1, .int p1)] := hl
  have in_X0 : ∀ w ∈ wsX00, w ∈ ws_X7_smoothnessAfter := fun w h => bg _ (inB_X0 w h)
  have in_X1 : ∀ w ∈ wsX10, w ∈ ws_X7_smoothnessAfter := fun w h => bg _ (inB_X1 w h)
  have in_X7 : ∀ w ∈ wsX70, w ∈ ws_X7_smoothnessAfter := fun w h => bg _ (inB_X7 w h)
  rw [f_X7_smoothnessAfter] at hf
  refine lv_aload_n hx hb dX7_smoothnessAfter_0 rfl (lv_at hl 0 rfl) ?_
  refine lv_iload_n hx hb dX7_smoothnessAfter_1 rfl (lv_at hl 1 rfl) ?_
  rcases bE7_inv hf with ⟨r3, c2_zb, c2_zt, c2_zn, c2_zv, c2_zh, c2_zx, c2_zk, c2_zd, c2_ze, c2_zc, eh1, hf⟩ | ⟨E9, S9, eh1, hf⟩
  · refine jx_v (w1 := wX7 dA oa (c2_zb, c2_zt, c2_zn, c2_zv, c2_zh, c2_zx, c2_zk, c2_zd, c2_ze, c2_zc) ln) (vx_runV (As := [.int p1]) (rest := []) ⟨hx, hb, hml, hown, hts⟩ (m_X7_tryMinutes l hl0 dC dI dA gz oa s.heap.size ln zb zt zn zv zh zx zk zd ze zc p1 (.inl ()) (c2_zb, c2_zt, c2_zn, c2_zv, c2_zh, c2_zx, c2_zk, c2_zd, c2_ze, c2_zc) eh1) (cwV 1 hts (gi_v bg wd_1439 wd_1441 ws_20 wd_1 wd_1442) rfl rfl rfl hd_X7_tryMinutes ⟨Nat.le_of_ble_eq_true rfl, Nat.le_of_ble_eq_true rfl⟩) ⟨pP_blind, va_recv (ci := 11) (q0 := 0) hK hP rfl rfl, pP_preW hP hD hS hA hK hN hZ⟩ rfl rfl hl.1 rfl (lv_room (Nat.le_of_ble_eq_true rfl)) dX7_smoothnessAfter_2 ⟨Nat.le_of_ble_eq_true rfl, Nat.le_of_ble_eq_true rfl⟩) hD hS hA (fun E ce q9 H locs h9 _ _ _ _ _ _ => nomatch h9) (fun H locs h9 hP hD hS => ?_)
    have hP : va_P (dC, dI) vwCl ([[(oa 0, .inr (11, [.ref (oa 1), .ref (oa 14), .ref (oa 27), .int c2_zv, .ref (oa 40), .ref (oa 146), .int c2_zk, .ref (oa 152), .int c2_zd, .int c2_ze, .int c2_zc]))], wX0 dA (fun k => oa (1 + k)) c2_zb, wX0 dA (fun k => oa (14 + k)) c2_zt, wX0 dA (fun k => oa (27 + k)) c2_zn, wX3 dA (fun k => oa (40 + k)) c2_zh, wX6 dA (fun k => oa (146 + k)) c2_zx, wLN dA (oa 152) ln].flatten) H := hP
    have hD : va_D A ([[(oa 0, .inr (11, [.ref (oa 1), .ref (oa 14), .ref (oa 27), .int c2_zv, .ref (oa 40), .ref (oa 146), .int c2_zk, .ref (oa 152), .int c2_zd, .int c2_ze, .int c2_zc]))], wX0 dA (fun k => oa (1 + k)) c2_zb, wX0 dA (fun k => oa (14 + k)) c2_zt, wX0 dA (fun k => oa (27 + k)) c2_zn, wX3 dA (fun k => oa (40 + k)) c2_zh, wX6 dA (fun k => oa (146 + k)) c2_zx, wLN dA (oa 152) ln].flatten) := hD
    refine lv_aload_n hx hb dX7_smoothnessAfter_5 rfl (lv_at hl 0 rfl) ?_
    refine va_get (D := (dC, dI)) (ci := 11) (v := .ref (oa 14)) (C := RX7) (T := TX7) (N := 11) hx hb hts in_X7 hown hK hP 0 rfl rfl 1 (by decide) (hts _ (bg _ wd_275)) (fun _ h9 => h9) rfl dX7_smoothnessAfter_6 ?_
    refine va_get (D := (dC, dI)) (ci := 4) (v := .ref (oa 19)) (C := RX0) (T := TX0) (N := 4) hx hb hts in_X0 hown hK hP 14 rfl rfl 1 (by decide) (hts _ (bg _ wd_169)) (fun _ h9 => h9) rfl dX7_smoothnessAfter_9 ?_
    refine va_get (D := (dC, dI)) (ci := 5) (v := .int c2_zt.2.1.2.2.1) (C := RX1) (T := TX1) (N := 4) hx hb hts in_X1 hown hK hP 19 rfl rfl 2 (by decide) (hts _ (bg _ wd_100)) (fun _ h9 => h9) rfl dX7_smoothnessAfter_12 ?_
    obtain ⟨e8, e9⟩ := Prod.mk.inj (sm hf)
    exact vx_ret (W.iret hx hb hr (fun t ht hW => ⟨⟨_, (), rfl, e8.symm, by rw [← e9, ht]; exact hP, by rw [← e9]; exact hD⟩, hS.F ht⟩) hS.2.2 dX7_smoothnessAfter_15)
  · obtain ⟨e8, e9⟩ := Prod.mk.inj hf
    refine jx_v (w1 := wX7 dA oa S9 ln) (vx_runV (As := [.int p1]) (rest := []) ⟨hx, hb, hml, hown, hts⟩ (m_X7_tryMinutes l hl0 dC dI dA gz oa s.heap.size ln zb zt zn zv zh zx zk zd ze zc p1 (.inr E9) S9 eh1) (cwV 1 hts (gi_v bg wd_1439 wd_1441 ws_20 wd_1 wd_1442) rfl rfl rfl hd_X7_tryMinutes ⟨Nat.le_of_ble_eq_true rfl, Nat.le_of_ble_eq_true rfl⟩) ⟨pP_blind, va_recv (ci := 11) (q0 := 0) hK hP rfl rfl, pP_preW hP hD hS hA hK hN hZ⟩ rfl rfl hl.1 rfl (lv_room (Nat.le_of_ble_eq_true rfl)) dX7_smoothnessAfter_2 ⟨Nat.le_of_ble_eq_true rfl, Nat.le_of_ble_eq_true rfl⟩) hD hS hA (fun E ce q9 H locs h9 hP hD hS h1 h2 h3 => ?_) (fun H locs h9 _ _ _ => nomatch h9)
    cases h9
    exact vx_out (fun x9 hx9 => absurd (ht9 x9 hx9) id) hlocks h1 h2 h3 (fun t ht hvm => by rw [← e9]; exact xp e8.symm hP hD hS ht) hS.2.2 (Nat.le_of_ble_eq_true rfl) (Nat.le_of_ble_eq_true rfl)
/-! X7_peakTemperature -/
def f_X7_peakTemperature_24  : Nat → Int32 → Int32 → SX0 → SX0 → SX0 → Int32 → SX3 → SX6 → Int32 → Int32 → Int32 → Int32 →  Option (Int32 × SX7)
  | 0, _, _, _, _, _, _, _, _, _, _, _, _ => none
  | n9 + 1, x1, x2, zb, zt, zn, zv, zh, zx, zk, zd, ze, zc =>
  (if 240 ≤ x2 then some (x1, (zb, zt, zn, zv, zh, zx, zk, zd, ze, zc)) else
  (g_X2_isUnderWay zt.1).bind fun r3 =>
  (if r3 = 0 then some (x1, (zb, zt, zn, zv, zh, zx, zk, zd, ze, zc)) else
  (g_X0_passMinute zt).bind fun c6 =>
  f_X7_peakTemperature_24 n9 (if x1 < c6.2.1.2.1 then c6.2.1.2.1 else x1) (x2 + 1) zb c6 zn zv zh zx zk zd ze zc))
def f_X7_peakTemperature (zb : SX0) (zt : SX0) (zn : SX0) (zv : Int32) (zh : SX3) (zx : SX6) (zk : Int32) (zd : Int32) (ze : Int32) (zc : Int32) : Option (Int32 × SX7) :=
  (g_X0_copyFrom zt zb).bind fun c8 =>
  f_X7_peakTemperature_24 300 c8.2.1.2.1 0 zb c8 zn zv zh zx zk zd ze zc
set_option maxRecDepth 100000 in
set_option maxHeartbeats 4000000 in
theorem m_X7_peakTemperature (l : Launch) (dC : Nat → ClassId) (dI : Nat → Nat → Nat) (dA gz : Nat → Nat) (oa : Nat → Nat) (sz : Nat) (ln : LN) (zb : SX0) (zt : SX0) (zn : SX0) (zv : Int32) (zh : SX3) (zx : SX6) (zk : Int32) (zd : Int32) (ze : Int32) (zc : Int32) (rr : Int32) (uu : SX7) (hf : f_X7_peakTemperature zb zt zn zv zh zx zk zd ze zc = some (rr, uu)) : Met l yX7_peakTemperature ws_X7_peakTemperature ({ frames := 26, cells := 0, slots := 0, locals := 1000 } : Room) (va_Pc [.ref (oa 0)] (pP (dC, dI) dA gz (wX7 dA oa (zb, zt, zn, zv, zh, zx, zk, zd, ze, zc) ln) sz)) (va_Qi (S := Unit) (fun r' _ => r' = rr) (fun _ t => pQ (dC, dI) (va_A (wX7 dA oa (zb, zt, zn, zv, zh, zx, zk, zd, ze, zc) ln) sz) (wX7 dA oa uu ln) t) (va_A (wX7 dA oa (zb, zt, zn, zv, zh, zx, zk, zd, ze, zc) ln) sz)) 0 0 (va_A (wX7 dA oa (zb, zt, zn, zv, zh, zx, zk, zd, ze, zc) ln) sz) := by
  refine Met.ofW (cc := cX7_peakTemperature) (maxL := 3) (ret := (some .int)) (by decide) rfl ?_
  intro p e s m args below meth c s₁ B hml hv
  obtain ⟨rfl, hsz, hP, hK, hD0, hN, hZ⟩ := hv
  have hx := B.exec
  have hb := B.bytes
  have hr := B.returns
  have hts := atoms_spec (ws := ws_X7_peakTemperature) B.pre
  have htb : ∀ w ∈ BIG, w.before _ s = true := fun w h => hts w (bg w h)
  have hown : s.vm.findClass RX7 = some m.cls := findClass_of_methodNamed B.named
  have hlocks := B.notSynchronized
  subst hsz
  have hD := hD0.self (sz := s.heap.size)
  generalize hAe : va_A (wX7 dA oa (zb, zt, zn, zv, zh, zx, zk, zd, ze, zc) ln) s.heap.size = A at hD hZ ⊢
  have hA : ∀ q : Nat, s.heap.size ≤ q → A q := fun q h => by rw [← hAe]; exact Or.inr h
  have hS : va_S A s.heap s.heap [] := va_S.rf
  have hP : va_P (dC, dI) vwCl ([[(oa 0, .inr (11, [.ref (oa 1), .ref (oa 14), .ref (oa 27), .int zv, .ref (oa 40), .ref (oa 146), .int zk, .ref (oa 152), .int zd, .int ze, .int zc]))], wX0 dA (fun k => oa (1 + k)) zb, wX0 dA (fun k => oa (14 + k)) zt, wX0 dA (fun k => oa (27 + k)) zn, wX3 dA (fun k => oa (40 + k)) zh, wX6 dA (fun k => oa (146 + k)) zx, wLN dA (oa 152) ln].flatten) s.heap := hP
  have hD : va_D A ([[(oa 0, .inr (11, [.ref (oa 1), .ref (oa 14), .ref (oa 27), .int zv, .ref (oa 40), .ref (oa 146), .int zk, .ref (oa 152), .int zd, .int ze, .int zc]))], wX0 dA (fun k => oa (1 + k)) zb, wX0 dA (fun k => oa (14 + k)) zt, wX0 dA (fun k => oa (27 + k)) zn, wX3 dA (fun k => oa (40 + k)) zh, wX6 dA (fun k => oa (146 + k)) zx, wLN dA (oa 152) ln].flatten) := hD
  have hl := lv_entry [.ref (oa 0)] (n := 3) (Nat.le_of_ble_eq_true rfl)
  rw [lg_entry_eq]
  generalize (lg_sl [.ref (oa 0)] ++ List.replicate (3 - (lg_sl [.ref (oa 0)]).length) Slot.unset).toArray = ls at hl ⊢
  have hl : lv_has ls 3 [(0, .ref (oa 0))] := hl
  have in_X0 : ∀ w ∈ wsX00, w ∈ ws_X7_peakTemperature := fun w h => bg _ (inB_X0 w h)
  have in_X1 : ∀ w ∈ wsX10, w ∈ ws_X7_peakTemperature := fun w h => bg _ (inB_X1 w h)
  have in_X7 : ∀ w ∈ wsX70, w ∈ ws_X7_peakTemperature := fun w h => bg _ (inB_X7 w h)
  have cut24 : ∀ (n9 : Nat) (x1 : Int32) (x2 : Int32) (zb : SX0) (zt : SX0) (zn : SX0) (zv : Int32) (zh : SX3) (zx : SX6) (zk : Int32) (zd : Int32) (ze : Int32) (zc : Int32) (H : Heap) (locs : List Loc) (ls : Array Slot), f_X7_peakTemperature_24 n9 x1 x2 zb zt zn zv zh zx zk zd ze zc = some (rr, uu) → va_P (dC, dI) vwCl ([[(oa 0, .inr (11, [.ref (oa 1), .ref (oa 14), .ref (oa 27), .int zv, .ref (oa 40), .ref (oa 146), .int zk, .ref (oa 152), .int zd, .int ze, .int zc]))], wX0 dA (fun k => oa (1 + k)) zb, wX0 dA (fun k => oa (14 + k)) zt, wX0 dA (fun k => oa (27 + k)) zn, wX3 dA (fun k => oa (40 + k)) zh, wX6 dA (fun k => oa (146 + k)) zx, wLN dA (oa 152) ln].flatten) H → va_D A ([[(oa 0, .inr (11, [.ref (oa 1), .ref (oa 14), .ref (oa 27), .int zv, .ref (oa 40), .ref (oa 146), .int zk, .ref (oa 152), .int zd, .int ze, .int zc]))], wX0 dA (fun k => oa (1 + k)) zb, wX0 dA (fun k => oa (14 + k)) zt, wX0 dA (fun k => oa (27 + k)) zn, wX3 dA (fun k => oa (40 + k)) zh, wX6 dA (fun k => oa (146 + k)) zx, wLN dA (oa 152) ln].flatten) → va_S A s.heap H locs → lv_has ls 3 [(0, .ref (oa 0)), (1, .int x1), (2, .int x2)] → W p l e (headSpec ws_X7_peakTemperature ({ frames := 26, cells := 0, slots := 0, locals := 1000 } : Room)).room s m ([.ref (oa 0)] : List Value).toArray below meth c H locs 0 0 (MQ below (va_Qi (S := Unit) (fun r' _ => r' = rr) (fun _ t => pQ (dC, dI) A (wX7 dA oa uu ln) t) A) ([.ref (oa 0)] : List Value).toArray s 0 0 A) (F0 m 24 ls []) := by
    intro n9
    induction n9 with
    | zero =>
      intro x1 x2 zb zt zn zv zh zx zk zd ze zc H locs ls hf
      rw [f_X7_peakTemperature_24] at hf
      cases hf
    | succ n9 ih =>
      intro x1 x2 zb zt zn zv zh zx zk zd ze zc H locs ls hf hP hD hS hl
      rw [f_X7_peakTemperature_24] at hf
      refine lv_iload_n hx hb dX7_peakTemperature_24 rfl (lv_at hl 2 rfl) ?_
      refine lv_sipush (v := 240) hx hb dX7_peakTemperature_25 (by decide) ?_
      refine lv_icmp_ge (tgt := 72) hx hb dX7_peakTemperature_28 (by decide) (fun q1 => ?_) (fun q1 => ?_)
      · have hf := it q1 hf
        refine lv_iload_n hx hb dX7_peakTemperature_72 rfl (lv_at hl 1 rfl) ?_
        obtain ⟨e8, e9⟩ := Prod.mk.inj (sm hf)
        exact W.iret hx hb hr (fun t ht hW => ⟨⟨_, (), rfl, e8, by rw [← e9, ht]; exact hP, by rw [← e9]; exact hD⟩, hS.F ht⟩) hS.2.2 dX7_peakTemperature_73
      · have hf := ie q1 hf
        refine lv_aload_n hx hb dX7_peakTemperature_31 rfl (lv_at hl 0 rfl) ?_
        refine va_get (D := (dC, dI)) (ci := 11) (v := .ref (oa 14)) (C := RX7) (T := TX7) (N := 11) hx hb hts in_X7 hown hK hP 0 rfl rfl 1 (by decide) (hts _ (bg _ wd_275)) (fun _ h9 => h9) rfl dX7_peakTemperature_32 ?_
        refine va_get (D := (dC, dI)) (ci := 4) (v := .ref (oa 15)) (C := RX0) (T := TX0) (N := 4) hx hb hts in_X0 hown hK hP 14 rfl rfl 0 (by decide) (hts _ (bg _ wd_167)) (fun _ h9 => h9) rfl dX7_peakTemperature_35 ?_
        obtain ⟨r3, eh2, hf⟩ := bd hf
        refine jr_i (va_runV (As := []) (rest := []) ⟨hx, hb, hml, hown, hts⟩ (mt_X2_isUnderWay l dC dI dA gz (fun k => oa (15 + k)) H.size zt.1 r3 eh2) (cwV 0 hts (gi_v bg wd_1025 wd_366 wd_367 wd_3 wd_368) rfl rfl rfl hd_X2_isUnderWay ⟨Nat.le_of_ble_eq_true rfl, Nat.le_of_ble_eq_true rfl⟩) ⟨pP_blind, va_recv (ci := 6) (q0 := 15) hK hP rfl rfl, pP_pre hP hD hS hA hK hN hZ [15, 16, 17, 18] (by decide) rfl⟩ rfl rfl hl.1 rfl (lv_room (Nat.le_of_ble_eq_true rfl)) dX7_peakTemperature_38 ⟨Nat.le_of_ble_eq_true rfl, Nat.le_of_ble_eq_true rfl⟩) hP hD hS hA [15, 16, 17, 18] rfl (fun H locs hP hS => ?_)
        refine lv_if_eq (tgt := 72) hx hb dX7_peakTemperature_41 (by decide) (fun q4 => ?_) (fun q4 => ?_)
        · have hf := it q4 hf
          refine lv_iload_n hx hb dX7_peakTemperature_72 rfl (lv_at hl 1 rfl) ?_
          obtain ⟨e8, e9⟩ := Prod.mk.inj (sm hf)
          exact W.iret hx hb hr (fun t ht hW => ⟨⟨_, (), rfl, e8, by rw [← e9, ht]; exact hP, by rw [← e9]; exact hD⟩, hS.F ht⟩) hS.2.2 dX7_peakTemperature_73
        · have hf := ie q4 hf
          refine lv_aload_n hx hb dX7_peakTemperature_44 rfl (lv_at hl 0 rfl) ?_
          refine va_get (D := (dC, dI)) (ci := 11) (v := .ref (oa 14)) (C := RX7) (T := TX7) (N := 11) hx hb hts in_X7 hown hK hP 0 rfl rfl 1 (by decide) (hts _ (bg _ wd_275)) (fun _ h9 => h9) rfl dX7_peakTemperature_45 ?_
          obtain ⟨c6, eh5, hf⟩ := bd hf
          refine jg1_v (va_runV (As := []) (rest := []) ⟨hx, hb, hml, hown, hts⟩ (mt_X0_passMinute l dC dI dA gz (fun k => oa (14 + k)) H.size zt c6 eh5) (cwV 0 hts (gi_v bg wd_1031 wd_552 wd_553 wd_2 wd_554) rfl rfl rfl hd_X0_passMinute ⟨Nat.le_of_ble_eq_true rfl, Nat.le_of_ble_eq_true rfl⟩) ⟨pP_blind, va_recv (ci := 4) (q0 := 0) hK (seg_P hP 2 rfl) rfl rfl, pP_pre1 hP hD hS hA hK hN hZ 2 rfl⟩ rfl rfl hl.1 rfl (lv_room (Nat.le_of_ble_eq_true rfl)) dX7_peakTemperature_48 ⟨Nat.le_of_ble_eq_true rfl, Nat.le_of_ble_eq_true rfl⟩) hP hD hS hA 2 rfl (aX0 _ _ _ _) (fun H locs hP hD hS => ?_)
          have hP : va_P (dC, dI) vwCl ([[(oa 0, .inr (11, [.ref (oa 1), .ref (oa 14), .ref (oa 27), .int zv, .ref (oa 40), .ref (oa 146), .int zk, .ref (oa 152), .int zd, .int ze, .int zc]))], wX0 dA (fun k => oa (1 + k)) zb, wX0 dA (fun k => oa (14 + k)) c6, wX0 dA (fun k => oa (27 + k)) zn, wX3 dA (fun k => oa (40 + k)) zh, wX6 dA (fun k => oa (146 + k)) zx, wLN dA (oa 152) ln].flatten : va_W) H := hP
          have hD : va_D A ([[(oa 0, .inr (11, [.ref (oa 1), .ref (oa 14), .ref (oa 27), .int zv, .ref (oa 40), .ref (oa 146), .int zk, .ref (oa 152), .int zd, .int ze, .int zc]))], wX0 dA (fun k => oa (1 + k)) zb, wX0 dA (fun k => oa (14 + k)) c6, wX0 dA (fun k => oa (27 + k)) zn, wX3 dA (fun k => oa (40 + k)) zh, wX6 dA (fun k => oa (146 + k)) zx, wLN dA (oa 152) ln].flatten) := hD
          refine lv_iload_n hx hb dX7_peakTemperature_51 rfl (lv_at hl 1 rfl) ?_
          refine lv_aload_n hx hb dX7_peakTemperature_52 rfl (lv_at hl 0 rfl) ?_
          refine va_get (D := (dC, dI)) (ci := 11) (v := .ref (oa 14)) (C := RX7) (T := TX7) (N := 11) hx hb hts in_X7 hown hK hP 0 rfl rfl 1 (by decide) (hts _ (bg _ wd_275)) (fun _ h9 => h9) rfl dX7_peakTemperature_53 ?_
          refine va_get (D := (dC, dI)) (ci := 4) (v := .ref (oa 19)) (C := RX0) (T := TX0) (N := 4) hx hb hts in_X0 hown hK hP 14 rfl rfl 1 (by decide) (hts _ (bg _ wd_169)) (fun _ h9 => h9) rfl dX7_peakTemperature_56 ?_
          refine va_get (D := (dC, dI)) (ci := 5) (v := .int c6.2.1.2.1) (C := RX1) (T := TX1) (N := 4) hx hb hts in_X1 hown hK hP 19 rfl rfl 1 (by decide) (hts _ (bg _ wd_98)) (fun _ h9 => h9) rfl dX7_peakTemperature_59 ?_
          refine va_mmax hx hb (hml.trans hl.1.symm) hown (hts _ (bg _ wd_1123)) (hts _ (bg _ wd_561)) (hts _ (bg _ wd_21)) (hts _ (bg _ wd_562)) (Nat.le_of_ble_eq_true rfl) (Nat.le_of_ble_eq_true rfl) (Nat.le_of_ble_eq_true rfl) (Nat.le_of_ble_eq_true rfl) dX7_peakTemperature_62 ?_
          refine lv_istore_n (lv' := [(1, .int (if x1 < c6.2.1.2.1 then c6.2.1.2.1 else x1)), (0, .ref (oa 0)), (2, .int x2)]) hx hb dX7_peakTemperature_65 rfl hl (by decide) rfl (fun ls hl => ?_)
          refine lv_iinc (v := (x2 + 1)) (lv' := [(2, .int (x2 + 1)), (1, .int (if x1 < c6.2.1.2.1 then c6.2.1.2.1 else x1)), (0, .ref (oa 0))]) hx hb dX7_peakTemperature_66 hl (k := 2) rfl rfl (by decide) rfl (fun ls hl => ?_)
          refine lv_goto (tgt := 24) hx hb dX7_peakTemperature_69 (by decide) ?_
          exact ih (if x1 < c6.2.1.2.1 then c6.2.1.2.1 else x1) (x2 + 1) zb c6 zn zv zh zx zk zd ze zc _ _ _ hf hP hD hS (lv_sub hl [2, 1, 0] rfl)
  rw [f_X7_peakTemperature] at hf
  refine lv_aload_n hx hb dX7_peakTemperature_0 rfl (lv_at hl 0 rfl) ?_
  refine va_get (D := (dC, dI)) (ci := 11) (v := .ref (oa 14)) (C := RX7) (T := TX7) (N := 11) hx hb hts in_X7 hown hK hP 0 rfl rfl 1 (by decide) (hts _ (bg _ wd_275)) (fun _ h9 => h9) rfl dX7_peakTemperature_1 ?_
  refine lv_aload_n hx hb dX7_peakTemperature_4 rfl (lv_at hl 0 rfl) ?_
  refine va_get (D := (dC, dI)) (ci := 11) (v := .ref (oa 1)) (C := RX7) (T := TX7) (N := 11) hx hb hts in_X7 hown hK hP 0 rfl rfl 0 (by decide) (hts _ (bg _ wd_274)) (fun _ h9 => h9) rfl dX7_peakTemperature_5 ?_
  obtain ⟨c8, eh7, hf⟩ := bd hf
  refine jg2_v (va_runV (As := [.ref (oa 1)]) (rest := []) ⟨hx, hb, hml, hown, hts⟩ (mt_X0_copyFrom l dC dI dA gz (fun k => oa (14 + k)) (fun k => oa (1 + k)) s.heap.size zt zb c8 eh7) (cwV 1 hts (gi_v bg wd_316 wd_317 wd_318 wd_2 wd_319) rfl rfl rfl hd_X0_copyFrom ⟨Nat.le_of_ble_eq_true rfl, Nat.le_of_ble_eq_true rfl⟩) ⟨pP_blind, va_recv (ci := 4) (q0 := 0) hK (seg_P hP 2 rfl) rfl rfl, pP_pre2 hP hD hS hA hK hN hZ 2 1 rfl rfl (by decide)⟩ rfl rfl hl.1 rfl (lv_room (Nat.le_of_ble_eq_true rfl)) dX7_peakTemperature_8 ⟨Nat.le_of_ble_eq_true rfl, Nat.le_of_ble_eq_true rfl⟩) hP hD hS hA 2 1 rfl rfl (by decide) (aX0 _ _ _ _) (fun H locs hP hD hS => ?_)
  have hP : va_P (dC, dI) vwCl ([[(oa 0, .inr (11, [.ref (oa 1), .ref (oa 14), .ref (oa 27), .int zv, .ref (oa 40), .ref (oa 146), .int zk, .ref (oa 152), .int zd, .int ze, .int zc]))], wX0 dA (fun k => oa (1 + k)) zb, wX0 dA (fun k => oa (14 + k)) c8, wX0 dA (fun k => oa (27 + k)) zn, wX3 dA (fun k => oa (40 + k)) zh, wX6 dA (fun k => oa (146 + k)) zx, wLN dA (oa 152) ln].flatten : va_W) H := hP
  have hD : va_D A ([[(oa 0, .inr (11, [.ref (oa 1), .ref (oa 14), .ref (oa 27), .int zv, .ref (oa 40), .ref (oa 146), .int zk, .ref (oa 152), .int zd, .int ze, .int zc]))], wX0 dA (fun k => oa (1 + k)) zb, wX0 dA (fun k => oa (14 + k)) c8, wX0 dA (fun k => oa (27 + k)) zn, wX3 dA (fun k => oa (40 + k)) zh, wX6 dA (fun k => oa (146 + k)) zx, wLN dA (oa 152) ln].flatten) := hD
  refine lv_aload_n hx hb dX7_peakTemperature_11 rfl (lv_at hl 0 rfl) ?_
  refine va_get (D := (dC, dI)) (ci := 11) (v := .ref (oa 14)) (C := RX7) (T := TX7) (N := 11) hx hb hts in_X7 hown hK hP 0 rfl rfl 1 (by decide) (hts _ (bg _ wd_275)) (fun _ h9 => h9) rfl dX7_peakTemperature_12 ?_
  refine va_get (D := (dC, dI)) (ci := 4) (v := .ref (oa 19)) (C := RX0) (T := TX0) (N := 4) hx hb hts in_X0 hown hK hP 14 rfl rfl 1 (by decide) (hts _ (bg _ wd_169)) (fun _ h9 => h9) rfl dX7_peakTemperature_15 ?_
  refine va_get (D := (dC, dI)) (ci := 5) (v := .int c8.2.1.2.1) (C := RX1) (T := TX1) (N := 4) hx hb hts in_X1 hown hK hP 19 rfl rfl 1 (by decide) (hts _ (bg _ wd_98)) (fun _ h9 => h9) rfl dX7_peakTemperature_18 ?_
  refine lv_istore_n (lv' := [(1, .int c8.2.1.2.1), (0, .ref (oa 0))]) hx hb dX7_peakTemperature_21 rfl hl (by decide) rfl (fun ls hl => ?_)
  refine lv_iconst (v := 0) hx hb dX7_peakTemperature_22 (by decide) ?_
  refine lv_istore_n (lv' := [(2, .int 0), (1, .int c8.2.1.2.1), (0, .ref (oa 0))]) hx hb dX7_peakTemperature_23 rfl hl (by decide) rfl (fun ls hl => ?_)
  exact cut24 300 c8.2.1.2.1 0 zb c8 zn zv zh zx zk zd ze zc _ _ _ hf hP hD hS (lv_sub hl [2, 1, 0] rfl)
/-! X7_patCount -/
def f_X7_patCount (zb : SX0) (zt : SX0) (zn : SX0) (zv : Int32) (zh : SX3) (zx : SX6) (zk : Int32) (zd : Int32) (ze : Int32) (zc : Int32) : Option (Int32) :=
  some zb.2.2.1.2.2.2.2
set_option maxRecDepth 100000 in
set_option maxHeartbeats 4000000 in
theorem m_X7_patCount (l : Launch) (dC : Nat → ClassId) (dI : Nat → Nat → Nat) (dA gz : Nat → Nat) (oa : Nat → Nat) (sz : Nat) (ln : LN) (zb : SX0) (zt : SX0) (zn : SX0) (zv : Int32) (zh : SX3) (zx : SX6) (zk : Int32) (zd : Int32) (ze : Int32) (zc : Int32) (rr : Int32) (hf : f_X7_patCount zb zt zn zv zh zx zk zd ze zc = some rr) : Met l yX7_patCount ws_X7_patCount ({ frames := 10, cells := 0, slots := 0, locals := 200 } : Room) (va_Pc [.ref (oa 0)] (pP (dC, dI) dA gz (wX7 dA oa (zb, zt, zn, zv, zh, zx, zk, zd, ze, zc) ln) sz)) (va_Qi (S := Unit) (fun r' _ => r' = rr) (fun _ t => pQ (dC, dI) (va_A (wX7 dA oa (zb, zt, zn, zv, zh, zx, zk, zd, ze, zc) ln) sz) (wX7 dA oa (zb, zt, zn, zv, zh, zx, zk, zd, ze, zc) ln) t) (va_A (wX7 dA oa (zb, zt, zn, zv, zh, zx, zk, zd, ze, zc) ln) sz)) 0 0 (va_A (wX7 dA oa (zb, zt, zn, zv, zh, zx, zk, zd, ze, zc) ln) sz) := by
  refine Met.ofW (cc := cX7_patCount) (maxL := 1) (ret := (some .int)) (by decide) rfl ?_
  intro p e s m args below meth c s₁ B hml hv
  obtain ⟨rfl, hsz, hP, hK, hD0, hN, hZ⟩ := hv
  have hx := B.exec
  have hb := B.bytes
  have hr := B.returns
  have hts := atoms_spec (ws := ws_X7_patCount) B.pre
  have htb : ∀ w ∈ BIG, w.before _ s = true := fun w h => hts w (bg w h)
  have hown : s.vm.findClass RX7 = some m.cls := findClass_of_methodNamed B.named
  have hlocks := B.notSynchronized
  subst hsz
  have hD := hD0.self (sz := s.heap.size)
  generalize hAe : va_A (wX7 dA oa (zb, zt, zn, zv, zh, zx, zk, zd, ze, zc) ln) s.heap.size = A at hD hZ ⊢
  have hA : ∀ q : Nat, s.heap.size ≤ q → A q := fun q h => by rw [← hAe]; exact Or.inr h
  have hS : va_S A s.heap s.heap [] := va_S.rf
  have hP : va_P (dC, dI) vwCl ([[(oa 0, .inr (11, [.ref (oa 1), .ref (oa 14), .ref (oa 27), .int zv, .ref (oa 40), .ref (oa 146), .int zk, .ref (oa 152), .int zd, .int ze, .int zc]))], wX0 dA (fun k => oa (1 + k)) zb, wX0 dA (fun k => oa (14 + k)) zt, wX0 dA (fun k => oa (27 + k)) zn, wX3 dA (fun k => oa (40 + k)) zh, wX6 dA (fun k => oa (146 + k)) zx, wLN dA (oa 152) ln].flatten) s.heap := hP
  have hD : va_D A ([[(oa 0, .inr (11, [.ref (oa 1), .ref (oa 14), .ref (oa 27), .int zv, .ref (oa 40), .ref (oa 146), .int zk, .ref (oa 152), .int zd, .int ze, .int zc]))], wX0 dA (fun k => oa (1 + k)) zb, wX0 dA (fun k => oa (14 + k)) zt, wX0 dA (fun k => oa (27 + k)) zn, wX3 dA (fun k => oa (40 + k)) zh, wX6 dA (fun k => oa (146 + k)) zx, wLN dA (oa 152) ln].flatten) := hD
  have hl := lv_entry [.ref (oa 0)] (n := 1) (Nat.le_of_ble_eq_true rfl)
  rw [lg_entry_eq]
  generalize (lg_sl [.ref (oa 0)] ++ List.replicate (1 - (lg_sl [.ref (oa 0)]).length) Slot.unset).toArray = ls at hl ⊢
  have hl : lv_has ls 1 [(0, .ref (oa 0))] := hl
  have in_X0 : ∀ w ∈ wsX00, w ∈ ws_X7_patCount := fun w h => bg _ (inB_X0 w h)
  have in_X4 : ∀ w ∈ wsX40, w ∈ ws_X7_patCount := fun w h => bg _ (inB_X4 w h)
  have in_X7 : ∀ w ∈ wsX70, w ∈ ws_X7_patCount := fun w h => bg _ (inB_X7 w h)
  rw [f_X7_patCount] at hf
  refine lv_aload_n hx hb dX7_patCount_0 rfl (lv_at hl 0 rfl) ?_
  refine va_get (D := (dC, dI)) (ci := 11) (v := .ref (oa 1)) (C := RX7) (T := TX7) (N := 11) hx hb hts in_X7 hown hK hP 0 rfl rfl 0 (by decide) (hts _ (bg _ wd_274)) (fun _ h9 => h9) rfl dX7_patCount_1 ?_
  refine va_get (D := (dC, dI)) (ci := 4) (v := .ref (oa 7)) (C := RX0) (T := TX0) (N := 4) hx hb hts in_X0 hown hK hP 1 rfl rfl 2 (by decide) (hts _ (bg _ wd_171)) (fun _ h9 => h9) rfl dX7_patCount_4 ?_
  refine va_get (D := (dC, dI)) (ci := 8) (v := .int zb.2.2.1.2.2.2.2) (C := RX4) (T := TX4) (N := 5) hx hb hts in_X4 hown hK hP 7 rfl rfl 4 (by decide) (hts _ (bg _ wd_129)) (fun _ h9 => h9) rfl dX7_patCount_7 ?_
  exact W.iret hx hb hr (fun t ht hW => ⟨⟨_, (), rfl, sm hf, by rw [ht]; exact hP, hD⟩, hS.F ht⟩) hS.2.2 dX7_patCount_10
/-! X7_patMass -/
def f_X7_patMass (zb : SX0) (zt : SX0) (zn : SX0) (zv : Int32) (zh : SX3) (zx : SX6) (zk : Int32) (zd : Int32) (ze : Int32) (zc : Int32) (p1 : Int32) : Option ((Int32 ⊕ String) × SX7) :=
  bE7 (f_X7_requirePat zb zt zn zv zh zx zk zd ze zc p1) fun _ c2_zb c2_zt c2_zn c2_zv c2_zh c2_zx c2_zk c2_zd c2_ze c2_zc =>
  if p1 < 0 ∨ 12 ≤ p1.toNatClampNeg then none else
  some (.inl (c2_zb.2.2.1.1 p1.toNatClampNeg), (c2_zb, c2_zt, c2_zn, c2_zv, c2_zh, c2_zx, c2_zk, c2_zd, c2_ze, c2_zc))
set_option maxRecDepth 100000 in
set_option maxHeartbeats 4000000 in
theorem m_X7_patMass (l : Launch) (hl0 : l.stackTraces = false) (dC : Nat → ClassId) (dI : Nat → Nat → Nat) (dA gz : Nat → Nat) (oa : Nat → Nat) (sz : Nat) (ln : LN) (zb : SX0) (zt : SX0) (zn : SX0) (zv : Int32) (zh : SX3) (zx : SX6) (zk : Int32) (zd : Int32) (ze : Int32) (zc : Int32) (p1 : Int32) (rr : Int32 ⊕ String) (uu : SX7) (hf : f_X7_patMass zb zt zn zv zh zx zk zd ze zc p1 = some (rr, uu)) : vx_Met l yX7_patMass ws_X7_patMass ({ frames := 18, cells := 1, slots := 6, locals := 600 } : Room) (va_Pc [.ref (oa 0), .int p1] (pP (dC, dI) dA gz (wX7 dA oa (zb, zt, zn, zv, zh, zx, zk, zd, ze, zc) ln) sz)) (va_Qi (S := Unit) (fun r' _ => rr = Sum.inl r') (fun _ t => pQ (dC, dI) (va_A (wX7 dA oa (zb, zt, zn, zv, zh, zx, zk, zd, ze, zc) ln) sz) (wX7 dA oa uu ln) t) (va_A (wX7 dA oa (zb, zt, zn, zv, zh, zx, zk, zd, ze, zc) ln) sz)) (XCx (dC, dI) (va_A (wX7 dA oa (zb, zt, zn, zv, zh, zx, zk, zd, ze, zc) ln) sz) rr (wX7 dA oa uu ln)) 1 6 (va_A (wX7 dA oa (zb, zt, zn, zv, zh, zx, zk, zd, ze, zc) ln) sz) := by
  refine vx_ofW (cc := cX7_patMass) (maxL := 2) (ret := (some .int)) (by decide) rfl ?_
  intro p e s m args below meth c s₁ B hml ht9 hv
  obtain ⟨rfl, hsz, hP, hK, hD0, hN, hZ⟩ := hv
  have hx := B.exec
  have hb := B.bytes
  have hr := B.returns
  have hts := atoms_spec (ws := ws_X7_patMass) B.pre
  have htb : ∀ w ∈ BIG, w.before _ s = true := fun w h => hts w (bg w h)
  have hown : s.vm.findClass RX7 = some m.cls := findClass_of_methodNamed B.named
  have hlocks := B.notSynchronized
  subst hsz
  have hD := hD0.self (sz := s.heap.size)
  generalize hAe : va_A (wX7 dA oa (zb, zt, zn, zv, zh, zx, zk, zd, ze, zc) ln) s.heap.size = A at hD hZ ⊢
  have hA : ∀ q : Nat, s.heap.size ≤ q → A q := fun q h => by rw [← hAe]; exact Or.inr h
  have hS : va_S A s.heap s.heap [] := va_S.rf
  have hP : va_P (dC, dI) vwCl ([[(oa 0, .inr (11, [.ref (oa 1), .ref (oa 14), .ref (oa 27), .int zv, .ref (oa 40), .ref (oa 146), .int zk, .ref (oa 152), .int zd, .int ze, .int zc]))], wX0 dA (fun k => oa (1 + k)) zb, wX0 dA (fun k => oa (14 + k)) zt, wX0 dA (fun k => oa (27 + k)) zn, wX3 dA (fun k => oa (40 + k)) zh, wX6 dA (fun k => oa (146 + k)) zx, wLN dA (oa 152) ln].flatten) s.heap := hP
  have hD : va_D A ([[(oa 0, .inr (11, [.ref (oa 1), .ref (oa 14), .ref (oa 27), .int zv, .ref (oa 40), .ref (oa 146), .int zk, .ref (oa 152), .int zd, .int ze, .int zc]))], wX0 dA (fun k => oa (1 + k)) zb, wX0 dA (fun k => oa (14 + k)) zt, wX0 dA (fun k => oa (27 + k)) zn, wX3 dA (fun k => oa (40 + k)) zh, wX6 dA (fun k => oa (146 + k)) zx, wLN dA (oa 152) ln].flatten) := hD
  have hl := lv_entry [.ref (oa 0), .int p1] (n := 2) (Nat.le_of_ble_eq_true rfl)
  rw [lg_entry_eq]
  generalize (lg_sl [.ref (oa 0), .int p1] ++ List.replicate (2 - (lg_sl [.ref (oa 0), .int p1]).length) Slot.unset).toArray = ls at hl ⊢
  have hl : lv_has ls 2 [(0, .ref (oa 0)), (1, .int p1)] := hl
  have in_X0 : ∀ w ∈ wsX00, w ∈ ws_X7_patMass := fun w h => bg _ (inB_X0 w h)
  have in_X4 : ∀ w ∈ wsX40, w ∈ ws_X7_patMass := fun w h => bg _ (inB_X4 w h)
  have in_X7 : ∀ w ∈ wsX70, w ∈ ws_X7_patMass := fun w h => bg _ (inB_X7 w h)
  rw [f_X7_patMass] at hf
  refine lv_aload_n hx hb dX7_patMass_0 rfl (lv_at hl 0 rfl) ?_
  refine lv_iload_n hx hb dX7_patMass_1 rfl (lv_at hl 1 rfl) ?_
  rcases bE7_inv hf with ⟨r3, c2_zb, c2_zt, c2_zn, c2_zv, c2_zh, c2_zx, c2_zk, c2_zd, c2_ze, c2_zc, eh1, hf⟩ | ⟨E9, S9, eh1, hf⟩
  · refine jx_v (w1 := wX7 dA oa (c2_zb, c2_zt, c2_zn, c2_zv, c2_zh, c2_zx, c2_zk, c2_zd, c2_ze, c2_zc) ln) (vx_runV (As := [.int p1]) (rest := []) ⟨hx, hb, hml, hown, hts⟩ (m_X7_requirePat l hl0 dC dI dA gz oa s.heap.size ln zb zt zn zv zh zx zk zd ze zc p1 (.inl ()) (c2_zb, c2_zt, c2_zn, c2_zv, c2_zh, c2_zx, c2_zk, c2_zd, c2_ze, c2_zc) eh1) (cwV 1 hts (gi_v bg wd_1054 wd_1056 ws_17 wd_1 wd_1057) rfl rfl rfl hd_X7_requirePat ⟨Nat.le_of_ble_eq_true rfl, Nat.le_of_ble_eq_true rfl⟩) ⟨pP_blind, va_recv (ci := 11) (q0 := 0) hK hP rfl rfl, pP_preW hP hD hS hA hK hN hZ⟩ rfl rfl hl.1 rfl (lv_room (Nat.le_of_ble_eq_true rfl)) dX7_patMass_2 ⟨Nat.le_of_ble_eq_true rfl, Nat.le_of_ble_eq_true rfl⟩) hD hS hA (fun E ce q9 H locs h9 _ _ _ _ _ _ => nomatch h9) (fun H locs h9 hP hD hS => ?_)
    have hP : va_P (dC, dI) vwCl ([[(oa 0, .inr (11, [.ref (oa 1), .ref (oa 14), .ref (oa 27), .int c2_zv, .ref (oa 40), .ref (oa 146), .int c2_zk, .ref (oa 152), .int c2_zd, .int c2_ze, .int c2_zc]))], wX0 dA (fun k => oa (1 + k)) c2_zb, wX0 dA (fun k => oa (14 + k)) c2_zt, wX0 dA (fun k => oa (27 + k)) c2_zn, wX3 dA (fun k => oa (40 + k)) c2_zh, wX6 dA (fun k => oa (146 + k)) c2_zx, wLN dA (oa 152) ln].flatten) H := hP
    have hD : va_D A ([[(oa 0, .inr (11, [.ref (oa 1), .ref (oa 14), .ref (oa 27), .int c2_zv, .ref (oa 40), .ref (oa 146), .int c2_zk, .ref (oa 152), .int c2_zd, .int c2_ze, .int c2_zc]))], wX0 dA (fun k => oa (1 + k)) c2_zb, wX0 dA (fun k => oa (14 + k)) c2_zt, wX0 dA (fun k => oa (27 + k)) c2_zn, wX3 dA (fun k => oa (40 + k)) c2_zh, wX6 dA (fun k => oa (146 + k)) c2_zx, wLN dA (oa 152) ln].flatten) := hD
    refine lv_aload_n hx hb dX7_patMass_5 rfl (lv_at hl 0 rfl) ?_
    refine va_get (D := (dC, dI)) (ci := 11) (v := .ref (oa 1)) (C := RX7) (T := TX7) (N := 11) hx hb hts in_X7 hown hK hP 0 rfl rfl 0 (by decide) (hts _ (bg _ wd_274)) (fun _ h9 => h9) rfl dX7_patMass_6 ?_
    refine va_get (D := (dC, dI)) (ci := 4) (v := .ref (oa 7)) (C := RX0) (T := TX0) (N := 4) hx hb hts in_X0 hown hK hP 1 rfl rfl 2 (by decide) (hts _ (bg _ wd_171)) (fun _ h9 => h9) rfl dX7_patMass_9 ?_
    refine va_get (D := (dC, dI)) (ci := 8) (v := .ref (oa 8)) (C := RX4) (T := TX4) (N := 5) hx hb hts in_X4 hown hK hP 7 rfl rfl 0 (by decide) (hts _ (bg _ wd_120)) (fun _ h9 => h9) rfl dX7_patMass_12 ?_
    refine lv_iload_n hx hb dX7_patMass_15 rfl (lv_at hl 1 rfl) ?_
    obtain ⟨z4, hf⟩ := gd hf
    refine va_iald hx hb hK hP 8 1 rfl rfl z4 dX7_patMass_16 ?_
    obtain ⟨e8, e9⟩ := Prod.mk.inj (sm hf)
    exact vx_ret (W.iret hx hb hr (fun t ht hW => ⟨⟨_, (), rfl, e8.symm, by rw [← e9, ht]; exact hP, by rw [← e9]; exact hD⟩, hS.F ht⟩) hS.2.2 dX7_patMass_17)
  · obtain ⟨e8, e9⟩ := Prod.mk.inj hf
    refine jx_v (w1 := wX7 dA oa S9 ln) (vx_runV (As := [.int p1]) (rest := []) ⟨hx, hb, hml, hown, hts⟩ (m_X7_requirePat l hl0 dC dI dA gz oa s.heap.size ln zb zt zn zv zh zx zk zd ze zc p1 (.inr E9) S9 eh1) (cwV 1 hts (gi_v bg wd_1054 wd_1056 ws_17 wd_1 wd_1057) rfl rfl rfl hd_X7_requirePat ⟨Nat.le_of_ble_eq_true rfl, Nat.le_of_ble_eq_true rfl⟩) ⟨pP_blind, va_recv (ci := 11) (q0 := 0) hK hP rfl rfl, pP_preW hP hD hS hA hK hN hZ⟩ rfl rfl hl.1 rfl (lv_room (Nat.le_of_ble_eq_true rfl)) dX7_patMass_2 ⟨Nat.le_of_ble_eq_true rfl, Nat.le_of_ble_eq_true rfl⟩) hD hS hA (fun E ce q9 H locs h9 hP hD hS h1 h2 h3 => ?_) (fun H locs h9 _ _ _ => nomatch h9)
    cases h9
    exact vx_out (fun x9 hx9 => absurd (ht9 x9 hx9) id) hlocks h1 h2 h3 (fun t ht hvm => by rw [← e9]; exact xp e8.symm hP hD hS ht) hS.2.2 (Nat.le_of_ble_eq_true rfl) (Nat.le_of_ble_eq_true rfl)
/-! X7_patTemperature -/
def f_X7_patTemperature (zb : SX0) (zt : SX0) (zn : SX0) (zv : Int32) (zh : SX3) (zx : SX6) (zk : Int32) (zd : Int32) (ze : Int32) (zc : Int32) (p1 : Int32) : Option ((Int32 ⊕ String) × SX7) :=
  bE7 (f_X7_requirePat zb zt zn zv zh zx zk zd ze zc p1) fun _ c2_zb c2_zt c2_zn c2_zv c2_zh c2_zx c2_zk c2_zd c2_ze c2_zc =>
  if p1 < 0 ∨ 12 ≤ p1.toNatClampNeg then none else
  some (.inl (c2_zb.2.2.1.2.1 p1.toNatClampNeg), (c2_zb, c2_zt, c2_zn, c2_zv, c2_zh, c2_zx, c2_zk, c2_zd, c2_ze, c2_zc))
set_option maxRecDepth 100000 in
set_option maxHeartbeats 4000000 in
theorem m_X7_patTemperature (l : Launch) (hl0 : l.stackTraces = false) (dC : Nat → ClassId) (dI : Nat → Nat → Nat) (dA gz : Nat → Nat) (oa : Nat → Nat) (sz : Nat) (ln : LN) (zb : SX0) (zt : SX0) (zn : SX0) (zv : Int32) (zh : SX3) (zx : SX6) (zk : Int32) (zd : Int32) (ze : Int32) (zc : Int32) (p1 : Int32) (rr : Int32 ⊕ String) (uu : SX7) (hf : f_X7_patTemperature zb zt zn zv zh zx zk zd ze zc p1 = some (rr, uu)) : vx_Met l yX7_patTemperature ws_X7_patTemperature ({ frames := 18, cells := 1, slots := 6, locals := 600 } : Room) (va_Pc [.ref (oa 0), .int p1] (pP (dC, dI) dA gz (wX7 dA oa (zb, zt, zn, zv, zh, zx, zk, zd, ze, zc) ln) sz)) (va_Qi (S := Unit) (fun r' _ => rr = Sum.inl r') (fun _ t => pQ (dC, dI) (va_A (wX7 dA oa (zb, zt, zn, zv, zh, zx, zk, zd, ze, zc) ln) sz) (wX7 dA oa uu ln) t) (va_A (wX7 dA oa (zb, zt, zn, zv, zh, zx, zk, zd, ze, zc) ln) sz)) (XCx (dC, dI) (va_A (wX7 dA oa (zb, zt, zn, zv, zh, zx, zk, zd, ze, zc) ln) sz) rr (wX7 dA oa uu ln)) 1 6 (va_A (wX7 dA oa (zb, zt, zn, zv, zh, zx, zk, zd, ze, zc) ln) sz) := by
  refine vx_ofW (cc := cX7_patTemperature) (maxL := 2) (ret := (some .int)) (by decide) rfl ?_
  intro p e s m args below meth c s₁ B hml ht9 hv
  obtain ⟨rfl, hsz, hP, hK, hD0, hN, hZ⟩ := hv
  have hx := B.exec
  have hb := B.bytes
  have hr := B.returns
  have hts := atoms_spec (ws := ws_X7_patTemperature) B.pre
  have htb : ∀ w ∈ BIG, w.before _ s = true := fun w h => hts w (bg w h)
  have hown : s.vm.findClass RX7 = some m.cls := findClass_of_methodNamed B.named
  have hlocks := B.notSynchronized
  subst hsz
  have hD := hD0.self (sz := s.heap.size)
  generalize hAe : va_A (wX7 dA oa (zb, zt, zn, zv, zh, zx, zk, zd, ze, zc) ln) s.heap.size = A at hD hZ ⊢
  have hA : ∀ q : Nat, s.heap.size ≤ q → A q := fun q h => by rw [← hAe]; exact Or.inr h
  have hS : va_S A s.heap s.heap [] := va_S.rf
  have hP : va_P (dC, dI) vwCl ([[(oa 0, .inr (11, [.ref (oa 1), .ref (oa 14), .ref (oa 27), .int zv, .ref (oa 40), .ref (oa 146), .int zk, .ref (oa 152), .int zd, .int ze, .int zc]))], wX0 dA (fun k => oa (1 + k)) zb, wX0 dA (fun k => oa (14 + k)) zt, wX0 dA (fun k => oa (27 + k)) zn, wX3 dA (fun k => oa (40 + k)) zh, wX6 dA (fun k => oa (146 + k)) zx, wLN dA (oa 152) ln].flatten) s.heap := hP
  have hD : va_D A ([[(oa 0, .inr (11, [.ref (oa 1), .ref (oa 14), .ref (oa 27), .int zv, .ref (oa 40), .ref (oa 146), .int zk, .ref (oa 152), .int zd, .int ze, .int zc]))], wX0 dA (fun k => oa (1 + k)) zb, wX0 dA (fun k => oa (14 + k)) zt, wX0 dA (fun k => oa (27 + k)) zn, wX3 dA (fun k => oa (40 + k)) zh, wX6 dA (fun k => oa (146 + k)) zx, wLN dA (oa 152) ln].flatten) := hD
  have hl := lv_entry [.ref (oa 0), .int p1] (n := 2) (Nat.le_of_ble_eq_true rfl)
  rw [lg_entry_eq]
  generalize (lg_sl [.ref (oa 0), .int p1] ++ List.replicate (2 - (lg_sl [.ref (oa 0), .int p1]).length) Slot.unset).toArray = ls at hl ⊢
  have hl : lv_has ls 2 [(0, .ref (oa 0)), (1, .int p1)] := hl
  have in_X0 : ∀ w ∈ wsX00, w ∈ ws_X7_patTemperature := fun w h => bg _ (inB_X0 w h)
  have in_X4 : ∀ w ∈ wsX40, w ∈ ws_X7_patTemperature := fun w h => bg _ (inB_X4 w h)
  have in_X7 : ∀ w ∈ wsX70, w ∈ ws_X7_patTemperature := fun w h => bg _ (inB_X7 w h)
  rw [f_X7_patTemperature] at hf
  refine lv_aload_n hx hb dX7_patTemperature_0 rfl (lv_at hl 0 rfl) ?_
  refine lv_iload_n hx hb dX7_patTemperature_1 rfl (lv_at hl 1 rfl) ?_
  rcases bE7_inv hf with ⟨r3, c2_zb, c2_zt, c2_zn, c2_zv, c2_zh, c2_zx, c2_zk, c2_zd, c2_ze, c2_zc, eh1, hf⟩ | ⟨E9, S9, eh1, hf⟩
  · refine jx_v (w1 := wX7 dA oa (c2_zb, c2_zt, c2_zn, c2_zv, c2_zh, c2_zx, c2_zk, c2_zd, c2_ze, c2_zc) ln) (vx_runV (As := [.int p1]) (rest := []) ⟨hx, hb, hml, hown, hts⟩ (m_X7_requirePat l hl0 dC dI dA gz oa s.heap.size ln zb zt zn zv zh zx zk zd ze zc p1 (.inl ()) (c2_zb, c2_zt, c2_zn, c2_zv, c2_zh, c2_zx, c2_zk, c2_zd, c2_ze, c2_zc) eh1) (cwV 1 hts (gi_v bg wd_1054 wd_1056 ws_17 wd_1 wd_1057) rfl rfl rfl hd_X7_requirePat ⟨Nat.le_of_ble_eq_true rfl, Nat.le_of_ble_eq_true rfl⟩) ⟨pP_blind, va_recv (ci := 11) (q0 := 0) hK hP rfl rfl, pP_preW hP hD hS hA hK hN hZ⟩ rfl rfl hl.1 rfl (lv_room (Nat.le_of_ble_eq_true rfl)) dX7_patTemperature_2 ⟨Nat.le_of_ble_eq_true rfl, Nat.le_of_ble_eq_true rfl⟩) hD hS hA (fun E ce q9 H locs h9 _ _ _ _ _ _ => nomatch h9) (fun H locs h9 hP hD hS => ?_)
    have hP : va_P (dC, dI) vwCl ([[(oa 0, .inr (11, [.ref (oa 1), .ref (oa 14), .ref (oa 27), .int c2_zv, .ref (oa 40), .ref (oa 146), .int c2_zk, .ref (oa 152), .int c2_zd, .int c2_ze, .int c2_zc]))], wX0 dA (fun k => oa (1 + k)) c2_zb, wX0 dA (fun k => oa (14 + k)) c2_zt, wX0 dA (fun k => oa (27 + k)) c2_zn, wX3 dA (fun k => oa (40 + k)) c2_zh, wX6 dA (fun k => oa (146 + k)) c2_zx, wLN dA (oa 152) ln].flatten) H := hP
    have hD : va_D A ([[(oa 0, .inr (11, [.ref (oa 1), .ref (oa 14), .ref (oa 27), .int c2_zv, .ref (oa 40), .ref (oa 146), .int c2_zk, .ref (oa 152), .int c2_zd, .int c2_ze, .int c2_zc]))], wX0 dA (fun k => oa (1 + k)) c2_zb, wX0 dA (fun k => oa (14 + k)) c2_zt, wX0 dA (fun k => oa (27 + k)) c2_zn, wX3 dA (fun k => oa (40 + k)) c2_zh, wX6 dA (fun k => oa (146 + k)) c2_zx, wLN dA (oa 152) ln].flatten) := hD
    refine lv_aload_n hx hb dX7_patTemperature_5 rfl (lv_at hl 0 rfl) ?_
    refine va_get (D := (dC, dI)) (ci := 11) (v := .ref (oa 1)) (C := RX7) (T := TX7) (N := 11) hx hb hts in_X7 hown hK hP 0 rfl rfl 0 (by decide) (hts _ (bg _ wd_274)) (fun _ h9 => h9) rfl dX7_patTemperature_6 ?_
    refine va_get (D := (dC, dI)) (ci := 4) (v := .ref (oa 7)) (C := RX0) (T := TX0) (N := 4) hx hb hts in_X0 hown hK hP 1 rfl rfl 2 (by decide) (hts _ (bg _ wd_171)) (fun _ h9 => h9) rfl dX7_patTemperature_9 ?_
    refine va_get (D := (dC, dI)) (ci := 8) (v := .ref (oa 9)) (C := RX4) (T := TX4) (N := 5) hx hb hts in_X4 hown hK hP 7 rfl rfl 1 (by decide) (hts _ (bg _ wd_122)) (fun _ h9 => h9) rfl dX7_patTemperature_12 ?_
    refine lv_iload_n hx hb dX7_patTemperature_15 rfl (lv_at hl 1 rfl) ?_
    obtain ⟨z4, hf⟩ := gd hf
    refine va_iald hx hb hK hP 9 1 rfl rfl z4 dX7_patTemperature_16 ?_
    obtain ⟨e8, e9⟩ := Prod.mk.inj (sm hf)
    exact vx_ret (W.iret hx hb hr (fun t ht hW => ⟨⟨_, (), rfl, e8.symm, by rw [← e9, ht]; exact hP, by rw [← e9]; exact hD⟩, hS.F ht⟩) hS.2.2 dX7_patTemperature_17)
  · obtain ⟨e8, e9⟩ := Prod.mk.inj hf
    refine jx_v (w1 := wX7 dA oa S9 ln) (vx_runV (As := [.int p1]) (rest := []) ⟨hx, hb, hml, hown, hts⟩ (m_X7_requirePat l hl0 dC dI dA gz oa s.heap.size ln zb zt zn zv zh zx zk zd ze zc p1 (.inr E9) S9 eh1) (cwV 1 hts (gi_v bg wd_1054 wd_1056 ws_17 wd_1 wd_1057) rfl rfl rfl hd_X7_requirePat ⟨Nat.le_of_ble_eq_true rfl, Nat.le_of_ble_eq_true rfl⟩) ⟨pP_blind, va_recv (ci := 11) (q0 := 0) hK hP rfl rfl, pP_preW hP hD hS hA hK hN hZ⟩ rfl rfl hl.1 rfl (lv_room (Nat.le_of_ble_eq_true rfl)) dX7_patTemperature_2 ⟨Nat.le_of_ble_eq_true rfl, Nat.le_of_ble_eq_true rfl⟩) hD hS hA (fun E ce q9 H locs h9 hP hD hS h1 h2 h3 => ?_) (fun H locs h9 _ _ _ => nomatch h9)
    cases h9
    exact vx_out (fun x9 hx9 => absurd (ht9 x9 hx9) id) hlocks h1 h2 h3 (fun t ht hvm => by rw [← e9]; exact xp e8.symm hP hD hS ht) hS.2.2 (Nat.le_of_ble_eq_true rfl) (Nat.le_of_ble_eq_true rfl)
/-! X7_cracks -/
def f_X7_cracks (zb : SX0) (zt : SX0) (zn : SX0) (zv : Int32) (zh : SX3) (zx : SX6) (zk : Int32) (zd : Int32) (ze : Int32) (zc : Int32) (p1 : Int32) : Option ((Int32 ⊕ String) × SX7) :=
  bE7 (f_X7_requirePat zb zt zn zv zh zx zk zd ze zc p1) fun _ c2_zb c2_zt c2_zn c2_zv c2_zh c2_zx c2_zk c2_zd c2_ze c2_zc =>
  if p1 < 0 ∨ 12 ≤ p1.toNatClampNeg then none else
  some (.inl (c2_zb.2.2.1.2.2.2.1 p1.toNatClampNeg), (c2_zb, c2_zt, c2_zn, c2_zv, c2_zh, c2_zx, c2_zk, c2_zd, c2_ze, c2_zc))
set_option maxRecDepth 100000 in
set_option maxHeartbeats 4000000 in
theorem m_X7_cracks (l : Launch) (hl0 : l.stackTraces = false) (dC : Nat → ClassId) (dI : Nat → Nat → Nat) (dA gz : Nat → Nat) (oa : Nat → Nat) (sz : Nat) (ln : LN) (zb : SX0) (zt : SX0) (zn : SX0) (zv : Int32) (zh : SX3) (zx : SX6) (zk : Int32) (zd : Int32) (ze : Int32) (zc : Int32) (p1 : Int32) (rr : Int32 ⊕ String) (uu : SX7) (hf : f_X7_cracks zb zt zn zv zh zx zk zd ze zc p1 = some (rr, uu)) : vx_Met l yX7_cracks ws_X7_cracks ({ frames := 18, cells := 1, slots := 6, locals := 600 } : Room) (va_Pc [.ref (oa 0), .int p1] (pP (dC, dI) dA gz (wX7 dA oa (zb, zt, zn, zv, zh, zx, zk, zd, ze, zc) ln) sz)) (va_Qi (S := Unit) (fun r' _ => rr = Sum.inl r') (fun _ t => pQ (dC, dI) (va_A (wX7 dA oa (zb, zt, zn, zv, zh, zx, zk, zd, ze, zc) ln) sz) (wX7 dA oa uu ln) t) (va_A (wX7 dA oa (zb, zt, zn, zv, zh, zx, zk, zd, ze, zc) ln) sz)) (XCx (dC, dI) (va_A (wX7 dA oa (zb, zt, zn, zv, zh, zx, zk, zd, ze, zc) ln) sz) rr (wX7 dA oa uu ln)) 1 6 (va_A (wX7 dA oa (zb, zt, zn, zv, zh, zx, zk, zd, ze, zc) ln) sz) := by
  refine vx_ofW (cc := cX7_cracks) (maxL := 2) (ret := (some .int)) (by decide) rfl ?_
  intro p e s m args below meth c s₁ B hml ht9 hv
  obtain ⟨rfl, hsz, hP, hK, hD0, hN, hZ⟩ := hv
  have hx := B.exec
  have hb := B.bytes
  have hr := B.returns
  have hts := atoms_spec (ws := ws_X7_cracks) B.pre
  have htb : ∀ w ∈ BIG, w.before _ s = true := fun w h => hts w (bg w h)
  have hown : s.vm.findClass RX7 = some m.cls := findClass_of_methodNamed B.named
  have hlocks := B.notSynchronized
  subst hsz
  have hD := hD0.self (sz := s.heap.size)
  generalize hAe : va_A (wX7 dA oa (zb, zt, zn, zv, zh, zx, zk, zd, ze, zc) ln) s.heap.size = A at hD hZ ⊢
  have hA : ∀ q : Nat, s.heap.size ≤ q → A q := fun q h => by rw [← hAe]; exact Or.inr h
  have hS : va_S A s.heap s.heap [] := va_S.rf
  have hP : va_P (dC, dI) vwCl ([[(oa 0, .inr (11, [.ref (oa 1), .ref (oa 14), .ref (oa 27), .int zv, .ref (oa 40), .ref (oa 146), .int zk, .ref (oa 152), .int zd, .int ze, .int zc]))], wX0 dA (fun k => oa (1 + k)) zb, wX0 dA (fun k => oa (14 + k)) zt, wX0 dA (fun k => oa (27 + k)) zn, wX3 dA (fun k => oa (40 + k)) zh, wX6 dA (fun k => oa (146 + k)) zx, wLN dA (oa 152) ln].flatten) s.heap := hP
  have hD : va_D A ([[(oa 0, .inr (11, [.ref (oa 1), .ref (oa 14), .ref (oa 27), .int zv, .ref (oa 40), .ref (oa 146), .int zk, .ref (oa 152), .int zd, .int ze, .int zc]))], wX0 dA (fun k => oa (1 + k)) zb, wX0 dA (fun k => oa (14 + k)) zt, wX0 dA (fun k => oa (27 + k)) zn, wX3 dA (fun k => oa (40 + k)) zh, wX6 dA (fun k => oa (146 + k)) zx, wLN dA (oa 152) ln].flatten) := hD
  have hl := lv_entry [.ref (oa 0), .int p1] (n := 2) (Nat.le_of_ble_eq_true rfl)
  rw [lg_entry_eq]
  generalize (lg_sl [.ref (oa 0), .int p1] ++ List.replicate (2 - (lg_sl [.ref (oa 0), .int p1]).length) Slot.unset).toArray = ls at hl ⊢
  have hl : lv_has ls 2 [(0, .ref (oa 0)), (1, .int p1)] := hl
  have in_X0 : ∀ w ∈ wsX00, w ∈ ws_X7_cracks := fun w h => bg _ (inB_X0 w h)
  have in_X4 : ∀ w ∈ wsX40, w ∈ ws_X7_cracks := fun w h => bg _ (inB_X4 w h)
  have in_X7 : ∀ w ∈ wsX70, w ∈ ws_X7_cracks := fun w h => bg _ (inB_X7 w h)
  rw [f_X7_cracks] at hf
  refine lv_aload_n hx hb dX7_cracks_0 rfl (lv_at hl 0 rfl) ?_
  refine lv_iload_n hx hb dX7_cracks_1 rfl (lv_at hl 1 rfl) ?_
  rcases bE7_inv hf with ⟨r3, c2_zb, c2_zt, c2_zn, c2_zv, c2_zh, c2_zx, c2_zk, c2_zd, c2_ze, c2_zc, eh1, hf⟩ | ⟨E9, S9, eh1, hf⟩
  · refine jx_v (w1 := wX7 dA oa (c2_zb, c2_zt, c2_zn, c2_zv, c2_zh, c2_zx, c2_zk, c2_zd, c2_ze, c2_zc) ln) (vx_runV (As := [.int p1]) (rest := []) ⟨hx, hb, hml, hown, hts⟩ (m_X7_requirePat l hl0 dC dI dA gz oa s.heap.size ln zb zt zn zv zh zx zk zd ze zc p1 (.inl ()) (c2_zb, c2_zt, c2_zn, c2_zv, c2_zh, c2_zx, c2_zk, c2_zd, c2_ze, c2_zc) eh1) (cwV 1 hts (gi_v bg wd_1054 wd_1056 ws_17 wd_1 wd_1057) rfl rfl rfl hd_X7_requirePat ⟨Nat.le_of_ble_eq_true rfl, Nat.le_of_ble_eq_true rfl⟩) ⟨pP_blind, va_recv (ci := 11) (q0 := 0) hK hP rfl rfl, pP_preW hP hD hS hA hK hN hZ⟩ rfl rfl hl.1 rfl (lv_room (Nat.le_of_ble_eq_true rfl)) dX7_cracks_2 ⟨Nat.le_of_ble_eq_true rfl, Nat.le_of_ble_eq_true rfl⟩) hD hS hA (fun E ce q9 H locs h9 _ _ _ _ _ _ => nomatch h9) (fun H locs h9 hP hD hS => ?_)
    have hP : va_P (dC, dI) vwCl ([[(oa 0, .inr (11, [.ref (oa 1), .ref (oa 14), .ref (oa 27), .int c2_zv, .ref (oa 40), .ref (oa 146), .int c2_zk, .ref (oa 152), .int c2_zd, .int c2_ze, .int c2_zc]))], wX0 dA (fun k => oa (1 + k)) c2_zb, wX0 dA (fun k => oa (14 + k)) c2_zt, wX0 dA (fun k => oa (27 + k)) c2_zn, wX3 dA (fun k => oa (40 + k)) c2_zh, wX6 dA (fun k => oa (146 + k)) c2_zx, wLN dA (oa 152) ln].flatten) H := hP
    have hD : va_D A ([[(oa 0, .inr (11, [.ref (oa 1), .ref (oa 14), .ref (oa 27), .int c2_zv, .ref (oa 40), .ref (oa 146), .int c2_zk, .ref (oa 152), .int c2_zd, .int c2_ze, .int c2_zc]))], wX0 dA (fun k => oa (1 + k)) c2_zb, wX0 dA (fun k => oa (14 + k)) c2_zt, wX0 dA (fun k => oa (27 + k)) c2_zn, wX3 dA (fun k => oa (40 + k)) c2_zh, wX6 dA (fun k => oa (146 + k)) c2_zx, wLN dA (oa 152) ln].flatten) := hD
    refine lv_aload_n hx hb dX7_cracks_5 rfl (lv_at hl 0 rfl) ?_
    refine va_get (D := (dC, dI)) (ci := 11) (v := .ref (oa 1)) (C := RX7) (T := TX7) (N := 11) hx hb hts in_X7 hown hK hP 0 rfl rfl 0 (by decide) (hts _ (bg _ wd_274)) (fun _ h9 => h9) rfl dX7_cracks_6 ?_
    refine va_get (D := (dC, dI)) (ci := 4) (v := .ref (oa 7)) (C := RX0) (T := TX0) (N := 4) hx hb hts in_X0 hown hK hP 1 rfl rfl 2 (by decide) (hts _ (bg _ wd_171)) (fun _ h9 => h9) rfl dX7_cracks_9 ?_
    refine va_get (D := (dC, dI)) (ci := 8) (v := .ref (oa 11)) (C := RX4) (T := TX4) (N := 5) hx hb hts in_X4 hown hK hP 7 rfl rfl 3 (by decide) (hts _ (bg _ wd_126)) (fun _ h9 => h9) rfl dX7_cracks_12 ?_
    refine lv_iload_n hx hb dX7_cracks_15 rfl (lv_at hl 1 rfl) ?_
    obtain ⟨z4, hf⟩ := gd hf
    refine va_iald hx hb hK hP 11 1 rfl rfl z4 dX7_cracks_16 ?_
    obtain ⟨e8, e9⟩ := Prod.mk.inj (sm hf)
    exact vx_ret (W.iret hx hb hr (fun t ht hW => ⟨⟨_, (), rfl, e8.symm, by rw [← e9, ht]; exact hP, by rw [← e9]; exact hD⟩, hS.F ht⟩) hS.2.2 dX7_cracks_17)
  · obtain ⟨e8, e9⟩ := Prod.mk.inj hf
    refine jx_v (w1 := wX7 dA oa S9 ln) (vx_runV (As := [.int p1]) (rest := []) ⟨hx, hb, hml, hown, hts⟩ (m_X7_requirePat l hl0 dC dI dA gz oa s.heap.size ln zb zt zn zv zh zx zk zd ze zc p1 (.inr E9) S9 eh1) (cwV 1 hts (gi_v bg wd_1054 wd_1056 ws_17 wd_1 wd_1057) rfl rfl rfl hd_X7_requirePat ⟨Nat.le_of_ble_eq_true rfl, Nat.le_of_ble_eq_true rfl⟩) ⟨pP_blind, va_recv (ci := 11) (q0 := 0) hK hP rfl rfl, pP_preW hP hD hS hA hK hN hZ⟩ rfl rfl hl.1 rfl (lv_room (Nat.le_of_ble_eq_true rfl)) dX7_cracks_2 ⟨Nat.le_of_ble_eq_true rfl, Nat.le_of_ble_eq_true rfl⟩) hD hS hA (fun E ce q9 H locs h9 hP hD hS h1 h2 h3 => ?_) (fun H locs h9 _ _ _ => nomatch h9)
    cases h9
    exact vx_out (fun x9 hx9 => absurd (ht9 x9 hx9) id) hlocks h1 h2 h3 (fun t ht hvm => by rw [← e9]; exact xp e8.symm hP hD hS ht) hS.2.2 (Nat.le_of_ble_eq_true rfl) (Nat.le_of_ble_eq_true rfl)
/-! X7_firmness -/
def f_X7_firmness (zb : SX0) (zt : SX0) (zn : SX0) (zv : Int32) (zh : SX3) (zx : SX6) (zk : Int32) (zd : Int32) (ze : Int32) (zc : Int32) (p1 : Int32) : Option ((Int32 ⊕ String) × SX7) :=
  bE7 (f_X7_requirePat zb zt zn zv zh zx zk zd ze zc p1) fun _ c2_zb c2_zt c2_zn c2_zv c2_zh c2_zx c2_zk c2_zd c2_ze c2_zc =>
  (g_X4_firmnessOf c2_zb.2.2.1 p1).bind fun r5 =>
  some (.inl r5, (c2_zb, c2_zt, c2_zn, c2_zv, c2_zh, c2_zx, c2_zk, c2_zd, c2_ze, c2_zc))
set_option maxRecDepth 100000 in
set_option maxHeartbeats 4000000 in
theorem m_X7_firmness (l : Launch) (hl0 : l.stackTraces = false) (dC : Nat → ClassId) (dI : Nat → Nat → Nat) (dA gz : Nat → Nat) (oa : Nat → Nat) (sz : Nat) (ln : LN) (zb : SX0) (zt : SX0) (zn : SX0) (zv : Int32) (zh : SX3) (zx : SX6) (zk : Int32) (zd : Int32) (ze : Int32) (zc : Int32) (p1 : Int32) (rr : Int32 ⊕ String) (uu : SX7) (hf : f_X7_firmness zb zt zn zv zh zx zk zd ze zc p1 = some (rr, uu)) : vx_Met l yX7_firmness ws_X7_firmness ({ frames := 18, cells := 1, slots := 6, locals := 600 } : Room) (va_Pc [.ref (oa 0), .int p1] (pP (dC, dI) dA gz (wX7 dA oa (zb, zt, zn, zv, zh, zx, zk, zd, ze, zc) ln) sz)) (va_Qi (S := Unit) (fun r' _ => rr = Sum.inl r') (fun _ t => pQ (dC, dI) (va_A (wX7 dA oa (zb, zt, zn, zv, zh, zx, zk, zd, ze, zc) ln) sz) (wX7 dA oa uu ln) t) (va_A (wX7 dA oa (zb, zt, zn, zv, zh, zx, zk, zd, ze, zc) ln) sz)) (XCx (dC, dI) (va_A (wX7 dA oa (zb, zt, zn, zv, zh, zx, zk, zd, ze, zc) ln) sz) rr (wX7 dA oa uu ln)) 1 6 (va_A (wX7 dA oa (zb, zt, zn, zv, zh, zx, zk, zd, ze, zc) ln) sz) := by
  refine vx_ofW (cc := cX7_firmness) (maxL := 2) (ret := (some .int)) (by decide) rfl ?_
  intro p e s m args below meth c s₁ B hml ht9 hv
  obtain ⟨rfl, hsz, hP, hK, hD0, hN, hZ⟩ := hv
  have hx := B.exec
  have hb := B.bytes
  have hr := B.returns
  have hts := atoms_spec (ws := ws_X7_firmness) B.pre
  have htb : ∀ w ∈ BIG, w.before _ s = true := fun w h => hts w (bg w h)
  have hown : s.vm.findClass RX7 = some m.cls := findClass_of_methodNamed B.named
  have hlocks := B.notSynchronized
  subst hsz
  have hD := hD0.self (sz := s.heap.size)
  generalize hAe : va_A (wX7 dA oa (zb, zt, zn, zv, zh, zx, zk, zd, ze, zc) ln) s.heap.size = A at hD hZ ⊢
  have hA : ∀ q : Nat, s.heap.size ≤ q → A q := fun q h => by rw [← hAe]; exact Or.inr h
  have hS : va_S A s.heap s.heap [] := va_S.rf
  have hP : va_P (dC, dI) vwCl ([[(oa 0, .inr (11, [.ref (oa 1), .ref (oa 14), .ref (oa 27), .int zv, .ref (oa 40), .ref (oa 146), .int zk, .ref (oa 152), .int zd, .int ze, .int zc]))], wX0 dA (fun k => oa (1 + k)) zb, wX0 dA (fun k => oa (14 + k)) zt, wX0 dA (fun k => oa (27 + k)) zn, wX3 dA (fun k => oa (40 + k)) zh, wX6 dA (fun k => oa (146 + k)) zx, wLN dA (oa 152) ln].flatten) s.heap := hP
  have hD : va_D A ([[(oa 0, .inr (11, [.ref (oa 1), .ref (oa 14), .ref (oa 27), .int zv, .ref (oa 40), .ref (oa 146), .int zk, .ref (oa 152), .int zd, .int ze, .int zc]))], wX0 dA (fun k => oa (1 + k)) zb, wX0 dA (fun k => oa (14 + k)) zt, wX0 dA (fun k => oa (27 + k)) zn, wX3 dA (fun k => oa (40 + k)) zh, wX6 dA (fun k => oa (146 + k)) zx, wLN dA (oa 152) ln].flatten) := hD
  have hl := lv_entry [.ref (oa 0), .int p1] (n := 2) (Nat.le_of_ble_eq_true rfl)
  rw [lg_entry_eq]
  generalize (lg_sl [.ref (oa 0), .int p1] ++ List.replicate (2 - (lg_sl [.ref (oa 0), .int p1]).length) Slot.unset).toArray = ls at hl ⊢
  have hl : lv_has ls 2 [(0, .ref (oa 0)), (1, .int p1)] := hl
  have in_X0 : ∀ w ∈ wsX00, w ∈ ws_X7_firmness := fun w h => bg _ (inB_X0 w h)
  have in_X7 : ∀ w ∈ wsX70, w ∈ ws_X7_firmness := fun w h => bg _ (inB_X7 w h)
  rw [f_X7_firmness] at hf
  refine lv_aload_n hx hb dX7_firmness_0 rfl (lv_at hl 0 rfl) ?_
  refine lv_iload_n hx hb dX7_firmness_1 rfl (lv_at hl 1 rfl) ?_
  rcases bE7_inv hf with ⟨r3, c2_zb, c2_zt, c2_zn, c2_zv, c2_zh, c2_zx, c2_zk, c2_zd, c2_ze, c2_zc, eh1, hf⟩ | ⟨E9, S9, eh1, hf⟩
  · refine jx_v (w1 := wX7 dA oa (c2_zb, c2_zt, c2_zn, c2_zv, c2_zh, c2_zx, c2_zk, c2_zd, c2_ze, c2_zc) ln) (vx_runV (As := [.int p1]) (rest := []) ⟨hx, hb, hml, hown, hts⟩ (m_X7_requirePat l hl0 dC dI dA gz oa s.heap.size ln zb zt zn zv zh zx zk zd ze zc p1 (.inl ()) (c2_zb, c2_zt, c2_zn, c2_zv, c2_zh, c2_zx, c2_zk, c2_zd, c2_ze, c2_zc) eh1) (cwV 1 hts (gi_v bg wd_1054 wd_1056 ws_17 wd_1 wd_1057) rfl rfl rfl hd_X7_requirePat ⟨Nat.le_of_ble_eq_true rfl, Nat.le_of_ble_eq_true rfl⟩) ⟨pP_blind, va_recv (ci := 11) (q0 := 0) hK hP rfl rfl, pP_preW hP hD hS hA hK hN hZ⟩ rfl rfl hl.1 rfl (lv_room (Nat.le_of_ble_eq_true rfl)) dX7_firmness_2 ⟨Nat.le_of_ble_eq_true rfl, Nat.le_of_ble_eq_true rfl⟩) hD hS hA (fun E ce q9 H locs h9 _ _ _ _ _ _ => nomatch h9) (fun H locs h9 hP hD hS => ?_)
    have hP : va_P (dC, dI) vwCl ([[(oa 0, .inr (11, [.ref (oa 1), .ref (oa 14), .ref (oa 27), .int c2_zv, .ref (oa 40), .ref (oa 146), .int c2_zk, .ref (oa 152), .int c2_zd, .int c2_ze, .int c2_zc]))], wX0 dA (fun k => oa (1 + k)) c2_zb, wX0 dA (fun k => oa (14 + k)) c2_zt, wX0 dA (fun k => oa (27 + k)) c2_zn, wX3 dA (fun k => oa (40 + k)) c2_zh, wX6 dA (fun k => oa (146 + k)) c2_zx, wLN dA (oa 152) ln].flatten) H := hP
    have hD : va_D A ([[(oa 0, .inr (11, [.ref (oa 1), .ref (oa 14), .ref (oa 27), .int c2_zv, .ref (oa 40), .ref (oa 146), .int c2_zk, .ref (oa 152), .int c2_zd, .int c2_ze, .int c2_zc]))], wX0 dA (fun k => oa (1 + k)) c2_zb, wX0 dA (fun k => oa (14 + k)) c2_zt, wX0 dA (fun k => oa (27 + k)) c2_zn, wX3 dA (fun k => oa (40 + k)) c2_zh, wX6 dA (fun k => oa (146 + k)) c2_zx, wLN dA (oa 152) ln].flatten) := hD
    refine lv_aload_n hx hb dX7_firmness_5 rfl (lv_at hl 0 rfl) ?_
    refine va_get (D := (dC, dI)) (ci := 11) (v := .ref (oa 1)) (C := RX7) (T := TX7) (N := 11) hx hb hts in_X7 hown hK hP 0 rfl rfl 0 (by decide) (hts _ (bg _ wd_274)) (fun _ h9 => h9) rfl dX7_firmness_6 ?_
    refine va_get (D := (dC, dI)) (ci := 4) (v := .ref (oa 7)) (C := RX0) (T := TX0) (N := 4) hx hb hts in_X0 hown hK hP 1 rfl rfl 2 (by decide) (hts _ (bg _ wd_171)) (fun _ h9 => h9) rfl dX7_firmness_9 ?_
    refine lv_iload_n hx hb dX7_firmness_12 rfl (lv_at hl 1 rfl) ?_
    obtain ⟨r5, eh4, hf⟩ := bd hf
    refine jr_i (va_runV (As := [.int p1]) (rest := []) ⟨hx, hb, hml, hown, hts⟩ (mt_X4_firmnessOf l dC dI dA gz (fun k => oa (7 + k)) H.size c2_zb.2.2.1 p1 r5 eh4) (cwV 1 hts (gi_v bg wd_1072 wd_779 wd_780 wd_5 wd_781) rfl rfl rfl hd_X4_firmnessOf ⟨Nat.le_of_ble_eq_true rfl, Nat.le_of_ble_eq_true rfl⟩) ⟨pP_blind, va_recv (ci := 8) (q0 := 7) hK hP rfl rfl, pP_pre hP hD hS hA hK hN hZ [7, 8, 9, 10, 11] (by decide) rfl⟩ rfl rfl hl.1 rfl (lv_room (Nat.le_of_ble_eq_true rfl)) dX7_firmness_13 ⟨Nat.le_of_ble_eq_true rfl, Nat.le_of_ble_eq_true rfl⟩) hP hD hS hA [7, 8, 9, 10, 11] rfl (fun H locs hP hS => ?_)
    obtain ⟨e8, e9⟩ := Prod.mk.inj (sm hf)
    exact vx_ret (W.iret hx hb hr (fun t ht hW => ⟨⟨_, (), rfl, e8.symm, by rw [← e9, ht]; exact hP, by rw [← e9]; exact hD⟩, hS.F ht⟩) hS.2.2 dX7_firmness_16)
  · obtain ⟨e8, e9⟩ := Prod.mk.inj hf
    refine jx_v (w1 := wX7 dA oa S9 ln) (vx_runV (As := [.int p1]) (rest := []) ⟨hx, hb, hml, hown, hts⟩ (m_X7_requirePat l hl0 dC dI dA gz oa s.heap.size ln zb zt zn zv zh zx zk zd ze zc p1 (.inr E9) S9 eh1) (cwV 1 hts (gi_v bg wd_1054 wd_1056 ws_17 wd_1 wd_1057) rfl rfl rfl hd_X7_requirePat ⟨Nat.le_of_ble_eq_true rfl, Nat.le_of_ble_eq_true rfl⟩) ⟨pP_blind, va_recv (ci := 11) (q0 := 0) hK hP rfl rfl, pP_preW hP hD hS hA hK hN hZ⟩ rfl rfl hl.1 rfl (lv_room (Nat.le_of_ble_eq_true rfl)) dX7_firmness_2 ⟨Nat.le_of_ble_eq_true rfl, Nat.le_of_ble_eq_true rfl⟩) hD hS hA (fun E ce q9 H locs h9 hP hD hS h1 h2 h3 => ?_) (fun H locs h9 _ _ _ => nomatch h9)
    cases h9
    exact vx_out (fun x9 hx9 => absurd (ht9 x9 hx9) id) hlocks h1 h2 h3 (fun t ht hvm => by rw [← e9]; exact xp e8.symm hP hD hS ht) hS.2.2 (Nat.le_of_ble_eq_true rfl) (Nat.le_of_ble_eq_true rfl)
/-! X7_isCool -/
def f_X7_isCool (zb : SX0) (zt : SX0) (zn : SX0) (zv : Int32) (zh : SX3) (zx : SX6) (zk : Int32) (zd : Int32) (ze : Int32) (zc : Int32) (p1 : Int32) : Option ((Int32 ⊕ String) × SX7) :=
  bE7 (f_X7_requirePat zb zt zn zv zh zx zk zd ze zc p1) fun _ c2_zb c2_zt c2_zn c2_zv c2_zh c2_zx c2_zk c2_zd c2_ze c2_zc =>
  (g_X4_hasCool c2_zb.2.2.1 p1).bind fun r5 =>
  if ¬ (r5 = 0 ∨ r5 = 1) then none else
  some (.inl r5, (c2_zb, c2_zt, c2_zn, c2_zv, c2_zh, c2_zx, c2_zk, c2_zd, c2_ze, c2_zc))
set_option maxRecDepth 100000 in
set_option maxHeartbeats 4000000 in
theorem m_X7_isCool (l : Launch) (hl0 : l.stackTraces = false) (dC : Nat → ClassId) (dI : Nat → Nat → Nat) (dA gz : Nat → Nat) (oa : Nat → Nat) (sz : Nat) (ln : LN) (zb : SX0) (zt : SX0) (zn : SX0) (zv : Int32) (zh : SX3) (zx : SX6) (zk : Int32) (zd : Int32) (ze : Int32) (zc : Int32) (p1 : Int32) (rr : Int32 ⊕ String) (uu : SX7) (hf : f_X7_isCool zb zt zn zv zh zx zk zd ze zc p1 = some (rr, uu)) : vx_Met l yX7_isCool ws_X7_isCool ({ frames := 18, cells := 1, slots := 6, locals := 600 } : Room) (va_Pc [.ref (oa 0), .int p1] (pP (dC, dI) dA gz (wX7 dA oa (zb, zt, zn, zv, zh, zx, zk, zd, ze, zc) ln) sz)) (va_Qi (S := Unit) (fun r' _ => rr = Sum.inl r') (fun _ t => pQ (dC, dI) (va_A (wX7 dA oa (zb, zt, zn, zv, zh, zx, zk, zd, ze, zc) ln) sz) (wX7 dA oa uu ln) t) (va_A (wX7 dA oa (zb, zt, zn, zv, zh, zx, zk, zd, ze, zc) ln) sz)) (XCx (dC, dI) (va_A (wX7 dA oa (zb, zt, zn, zv, zh, zx, zk, zd, ze, zc) ln) sz) rr (wX7 dA oa uu ln)) 1 6 (va_A (wX7 dA oa (zb, zt, zn, zv, zh, zx, zk, zd, ze, zc) ln) sz) := by
  refine vx_ofW (cc := cX7_isCool) (maxL := 2) (ret := (some .boolean)) (by decide) rfl ?_
  intro p e s m args below meth c s₁ B hml ht9 hv
  obtain ⟨rfl, hsz, hP, hK, hD0, hN, hZ⟩ := hv
  have hx := B.exec
  have hb := B.bytes
  have hr := B.returns
  have hts := atoms_spec (ws := ws_X7_isCool) B.pre
  have htb : ∀ w ∈ BIG, w.before _ s = true := fun w h => hts w (bg w h)
  have hown : s.vm.findClass RX7 = some m.cls := findClass_of_methodNamed B.named
  have hlocks := B.notSynchronized
  subst hsz
  have hD := hD0.self (sz := s.heap.size)
  generalize hAe : va_A (wX7 dA oa (zb, zt, zn, zv, zh, zx, zk, zd, ze, zc) ln) s.heap.size = A at hD hZ ⊢
  have hA : ∀ q : Nat, s.heap.size ≤ q → A q := fun q h => by rw [← hAe]; exact Or.inr h
  have hS : va_S A s.heap s.heap [] := va_S.rf
  have hP : va_P (dC, dI) vwCl ([[(oa 0, .inr (11, [.ref (oa 1), .ref (oa 14), .ref (oa 27), .int zv, .ref (oa 40), .ref (oa 146), .int zk, .ref (oa 152), .int zd, .int ze, .int zc]))], wX0 dA (fun k => oa (1 + k)) zb, wX0 dA (fun k => oa (14 + k)) zt, wX0 dA (fun k => oa (27 + k)) zn, wX3 dA (fun k => oa (40 + k)) zh, wX6 dA (fun k => oa (146 + k)) zx, wLN dA (oa 152) ln].flatten) s.heap := hP
  have hD : va_D A ([[(oa 0, .inr (11, [.ref (oa 1), .ref (oa 14), .ref (oa 27), .int zv, .ref (oa 40), .ref (oa 146), .int zk, .ref (oa 152), .int zd, .int ze, .int zc]))], wX0 dA (fun k => oa (1 + k)) zb, wX0 dA (fun k => oa (14 + k)) zt, wX0 dA (fun k => oa (27 + k)) zn, wX3 dA (fun k => oa (40 + k)) zh, wX6 dA (fun k => oa (146 + k)) zx, wLN dA (oa 152) ln].flatten) := hD
  have hl := lv_entry [.ref (oa 0), .int p1] (n := 2) (Nat.le_of_ble_eq_true rfl)
  rw [lg_entry_eq]
  generalize (lg_sl [.ref (oa 0), .int p1] ++ List.replicate (2 - (lg_sl [.ref (oa 0), .int p1]).length) Slot.unset).toArray = ls at hl ⊢
  have hl : lv_has ls 2 [(0, .ref (oa 0)), (1, .int p1)] := hl
  have in_X0 : ∀ w ∈ wsX00, w ∈ ws_X7_isCool := fun w h => bg _ (inB_X0 w h)
  have in_X7 : ∀ w ∈ wsX70, w ∈ ws_X7_isCool := fun w h => bg _ (inB_X7 w h)
  rw [f_X7_isCool] at hf
  refine lv_aload_n hx hb dX7_isCool_0 rfl (lv_at hl 0 rfl) ?_
  refine lv_iload_n hx hb dX7_isCool_1 rfl (lv_at hl 1 rfl) ?_
  rcases bE7_inv hf with ⟨r3, c2_zb, c2_zt, c2_zn, c2_zv, c2_zh, c2_zx, c2_zk, c2_zd, c2_ze, c2_zc, eh1, hf⟩ | ⟨E9, S9, eh1, hf⟩
  · refine jx_v (w1 := wX7 dA oa (c2_zb, c2_zt, c2_zn, c2_zv, c2_zh, c2_zx, c2_zk, c2_zd, c2_ze, c2_zc) ln) (vx_runV (As := [.int p1]) (rest := []) ⟨hx, hb, hml, hown, hts⟩ (m_X7_requirePat l hl0 dC dI dA gz oa s.heap.size ln zb zt zn zv zh zx zk zd ze zc p1 (.inl ()) (c2_zb, c2_zt, c2_zn, c2_zv, c2_zh, c2_zx, c2_zk, c2_zd, c2_ze, c2_zc) eh1) (cwV 1 hts (gi_v bg wd_1054 wd_1056 ws_17 wd_1 wd_1057) rfl rfl rfl hd_X7_requirePat ⟨Nat.le_of_ble_eq_true rfl, Nat.le_of_ble_eq_true rfl⟩) ⟨pP_blind, va_recv (ci := 11) (q0 := 0) hK hP rfl rfl, pP_preW hP hD hS hA hK hN hZ⟩ rfl rfl hl.1 rfl (lv_room (Nat.le_of_ble_eq_true rfl)) dX7_isCool_2 ⟨Nat.le_of_ble_eq_true rfl, Nat.le_of_ble_eq_true rfl⟩) hD hS hA (fun E ce q9 H locs h9 _ _ _ _ _ _ => nomatch h9) (fun H locs h9 hP hD hS => ?_)
    have hP : va_P (dC, dI) vwCl ([[(oa 0, .inr (11, [.ref (oa 1), .ref (oa 14), .ref (oa 27), .int c2_zv, .ref (oa 40), .ref (oa 146), .int c2_zk, .ref (oa 152), .int c2_zd, .int c2_ze, .int c2_zc]))], wX0 dA (fun k => oa (1 + k)) c2_zb, wX0 dA (fun k => oa (14 + k)) c2_zt, wX0 dA (fun k => oa (27 + k)) c2_zn, wX3 dA (fun k => oa (40 + k)) c2_zh, wX6 dA (fun k => oa (146 + k)) c2_zx, wLN dA (oa 152) ln].flatten) H := hP
    have hD : va_D A ([[(oa 0, .inr (11, [.ref (oa 1), .ref (oa 14), .ref (oa 27), .int c2_zv, .ref (oa 40), .ref (oa 146), .int c2_zk, .ref (oa 152), .int c2_zd, .int c2_ze, .int c2_zc]))], wX0 dA (fun k => oa (1 + k)) c2_zb, wX0 dA (fun k => oa (14 + k)) c2_zt, wX0 dA (fun k => oa (27 + k)) c2_zn, wX3 dA (fun k => oa (40 + k)) c2_zh, wX6 dA (fun k => oa (146 + k)) c2_zx, wLN dA (oa 152) ln].flatten) := hD
    refine lv_aload_n hx hb dX7_isCool_5 rfl (lv_at hl 0 rfl) ?_
    refine va_get (D := (dC, dI)) (ci := 11) (v := .ref (oa 1)) (C := RX7) (T := TX7) (N := 11) hx hb hts in_X7 hown hK hP 0 rfl rfl 0 (by decide) (hts _ (bg _ wd_274)) (fun _ h9 => h9) rfl dX7_isCool_6 ?_
    refine va_get (D := (dC, dI)) (ci := 4) (v := .ref (oa 7)) (C := RX0) (T := TX0) (N := 4) hx hb hts in_X0 hown hK hP 1 rfl rfl 2 (by decide) (hts _ (bg _ wd_171)) (fun _ h9 => h9) rfl dX7_isCool_9 ?_
    refine lv_iload_n hx hb dX7_isCool_12 rfl (lv_at hl 1 rfl) ?_
    obtain ⟨r5, eh4, hf⟩ := bd hf
    refine jr_i (va_runV (As := [.int p1]) (rest := []) ⟨hx, hb, hml, hown, hts⟩ (mt_X4_hasCool l dC dI dA gz (fun k => oa (7 + k)) H.size c2_zb.2.2.1 p1 r5 eh4) (cwV 1 hts (gi_v bg wd_1114 wd_745 wd_746 wd_5 wd_747) rfl rfl rfl hd_X4_hasCool ⟨Nat.le_of_ble_eq_true rfl, Nat.le_of_ble_eq_true rfl⟩) ⟨pP_blind, va_recv (ci := 8) (q0 := 7) hK hP rfl rfl, pP_pre hP hD hS hA hK hN hZ [7, 8, 9, 10, 11] (by decide) rfl⟩ rfl rfl hl.1 rfl (lv_room (Nat.le_of_ble_eq_true rfl)) dX7_isCool_13 ⟨Nat.le_of_ble_eq_true rfl, Nat.le_of_ble_eq_true rfl⟩) hP hD hS hA [7, 8, 9, 10, 11] rfl (fun H locs hP hS => ?_)
    obtain ⟨z6, hf⟩ := gd hf
    obtain ⟨e8, e9⟩ := Prod.mk.inj (sm hf)
    exact vx_ret (W.zret hx hb hr (nar_z (Decidable.not_not.mp z6)) (fun t ht hW => ⟨⟨_, (), rfl, e8.symm, by rw [← e9, ht]; exact hP, by rw [← e9]; exact hD⟩, hS.F ht⟩) hS.2.2 dX7_isCool_16)
  · obtain ⟨e8, e9⟩ := Prod.mk.inj hf
    refine jx_v (w1 := wX7 dA oa S9 ln) (vx_runV (As := [.int p1]) (rest := []) ⟨hx, hb, hml, hown, hts⟩ (m_X7_requirePat l hl0 dC dI dA gz oa s.heap.size ln zb zt zn zv zh zx zk zd ze zc p1 (.inr E9) S9 eh1) (cwV 1 hts (gi_v bg wd_1054 wd_1056 ws_17 wd_1 wd_1057) rfl rfl rfl hd_X7_requirePat ⟨Nat.le_of_ble_eq_true rfl, Nat.le_of_ble_eq_true rfl⟩) ⟨pP_blind, va_recv (ci := 11) (q0 := 0) hK hP rfl rfl, pP_preW hP hD hS hA hK hN hZ⟩ rfl rfl hl.1 rfl (lv_room (Nat.le_of_ble_eq_true rfl)) dX7_isCool_2 ⟨Nat.le_of_ble_eq_true rfl, Nat.le_of_ble_eq_true rfl⟩) hD hS hA (fun E ce q9 H locs h9 hP hD hS h1 h2 h3 => ?_) (fun H locs h9 _ _ _ => nomatch h9)
    cases h9
    exact vx_out (fun x9 hx9 => absurd (ht9 x9 hx9) id) hlocks h1 h2 h3 (fun t ht hvm => by rw [← e9]; exact xp e8.symm hP hD hS ht) hS.2.2 (Nat.le_of_ble_eq_true rfl) (Nat.le_of_ble_eq_true rfl)
/-! X7_minutesUntilCool -/
def f_X7_minutesUntilCool_18 (p1 : Int32) : Nat → Int32 → SX0 → SX0 → SX0 → Int32 → SX3 → SX6 → Int32 → Int32 → Int32 → Int32 →  Option ((Int32 ⊕ String) × SX7)
  | 0, _, _, _, _, _, _, _, _, _, _, _ => none
  | n9 + 1, x2, zb, zt, zn, zv, zh, zx, zk, zd, ze, zc =>
  (if 240 ≤ x2 then some (.inl x2, (zb, zt, zn, zv, zh, zx, zk, zd, ze, zc)) else
  (g_X4_hasCool zt.2.2.1 p1).bind fun r3 =>
  (if r3 = 0 then (g_X0_passMinute zt).bind fun c6 =>
  f_X7_minutesUntilCool_18 p1 n9 (x2 + 1) zb c6 zn zv zh zx zk zd ze zc else
  some (.inl x2, (zb, zt, zn, zv, zh, zx, zk, zd, ze, zc))))
def f_X7_minutesUntilCool (zb : SX0) (zt : SX0) (zn : SX0) (zv : Int32) (zh : SX3) (zx : SX6) (zk : Int32) (zd : Int32) (ze : Int32) (zc : Int32) (p1 : Int32) : Option ((Int32 ⊕ String) × SX7) :=
  bE7 (f_X7_requirePat zb zt zn zv zh zx zk zd ze zc p1) fun _ c8_zb c8_zt c8_zn c8_zv c8_zh c8_zx c8_zk c8_zd c8_ze c8_zc =>
  (g_X0_copyFrom c8_zt c8_zb).bind fun c11 =>
  f_X7_minutesUntilCool_18 p1 300 0 c8_zb c11 c8_zn c8_zv c8_zh c8_zx c8_zk c8_zd c8_ze c8_zc
set_option maxRecDepth 100000 in
set_option maxHeartbeats 4000000 in
theorem m_X7_minutesUntilCool (l : Launch) (hl0 : l.stackTraces = false) (dC : Nat → ClassId) (dI : Nat → Nat → Nat) (dA gz : Nat → Nat) (oa : Nat → Nat) (sz : Nat) (ln : LN) (zb : SX0) (zt : SX0) (zn : SX0) (zv : Int32) (zh : SX3) (zx : SX6) (zk : Int32) (zd : Int32) (ze : Int32) (zc : Int32) (p1 : Int32) (rr : Int32 ⊕ String) (uu : SX7) (hf : f_X7_minutesUntilCool zb zt zn zv zh zx zk zd ze zc p1 = some (rr, uu)) : vx_Met l yX7_minutesUntilCool ws_X7_minutesUntilCool ({ frames := 26, cells := 1, slots := 6, locals := 1000 } : Room) (va_Pc [.ref (oa 0), .int p1] (pP (dC, dI) dA gz (wX7 dA oa (zb, zt, zn, zv, zh, zx, zk, zd, ze, zc) ln) sz)) (va_Qi (S := Unit) (fun r' _ => rr = Sum.inl r') (fun _ t => pQ (dC, dI) (va_A (wX7 dA oa (zb, zt, zn, zv, zh, zx, zk, zd, ze, zc) ln) sz) (wX7 dA oa uu ln) t) (va_A (wX7 dA oa (zb, zt, zn, zv, zh, zx, zk, zd, ze, zc) ln) sz)) (XCx (dC, dI) (va_A (wX7 dA oa (zb, zt, zn, zv, zh, zx, zk, zd, ze, zc) ln) sz) rr (wX7 dA oa uu ln)) 1 6 (va_A (wX7 dA oa (zb, zt, zn, zv, zh, zx, zk, zd, ze, zc) ln) sz) := by
  refine vx_ofW (cc := cX7_minutesUntilCool) (maxL := 3) (ret := (some .int)) (by decide) rfl ?_
  intro p e s m args below meth c s₁ B hml ht9 hv
  obtain ⟨rfl, hsz, hP, hK, hD0, hN, hZ⟩ := hv
  have hx := B.exec
  have hb := B.bytes
  have hr := B.returns
  have hts := atoms_spec (ws := ws_X7_minutesUntilCool) B.pre
  have htb : ∀ w ∈ BIG, w.before _ s = true := fun w h => hts w (bg w h)
  have hown : s.vm.findClass RX7 = some m.cls := findClass_of_methodNamed B.named
  have hlocks := B.notSynchronized
  subst hsz
  have hD := hD0.self (sz := s.heap.size)
  generalize hAe : va_A (wX7 dA oa (zb, zt, zn, zv, zh, zx, zk, zd, ze, zc) ln) s.heap.size = A at hD hZ ⊢
  have hA : ∀ q : Nat, s.heap.size ≤ q → A q := fun q h => by rw [← hAe]; exact Or.inr h
  have hS : va_S A s.heap s.heap [] := va_S.rf
  have hP : va_P (dC, dI) vwCl ([[(oa 0, .inr (11, [.ref (oa 1), .ref (oa 14), .ref (oa 27), .int zv, .ref (oa 40), .ref (oa 146), .int zk, .ref (oa 152), .int zd, .int ze, .int zc]))], wX0 dA (fun k => oa (1 + k)) zb, wX0 dA (fun k => oa (14 + k)) zt, wX0 dA (fun k => oa (27 + k)) zn, wX3 dA (fun k => oa (40 + k)) zh, wX6 dA (fun k => oa (146 + k)) zx, wLN dA (oa 152) ln].flatten) s.heap := hP
  have hD : va_D A ([[(oa 0, .inr (11, [.ref (oa 1), .ref (oa 14), .ref (oa 27), .int zv, .ref (oa 40), .ref (oa 146), .int zk, .ref (oa 152), .int zd, .int ze, .int zc]))], wX0 dA (fun k => oa (1 + k)) zb, wX0 dA (fun k => oa (14 + k)) zt, wX0 dA (fun k => oa (27 + k)) zn, wX3 dA (fun k => oa (40 + k)) zh, wX6 dA (fun k => oa (146 + k)) zx, wLN dA (oa 152) ln].flatten) := hD
  have hl := lv_entry [.ref (oa 0), .int p1] (n := 3) (Nat.le_of_ble_eq_true rfl)
  rw [lg_entry_eq]
  generalize (lg_sl [.ref (oa 0), .int p1] ++ List.replicate (3 - (lg_sl [.ref (oa 0), .int p1]).length) Slot.unset).toArray = ls at hl ⊢
  have hl : lv_has ls 3 [(0, .ref (oa 0)), (1, .int p1)] := hl
  have in_X0 : ∀ w ∈ wsX00, w ∈ ws_X7_minutesUntilCool := fun w h => bg _ (inB_X0 w h)
  have in_X7 : ∀ w ∈ wsX70, w ∈ ws_X7_minutesUntilCool := fun w h => bg _ (inB_X7 w h)
  have cut18 : ∀ (n9 : Nat) (x2 : Int32) (zb : SX0) (zt : SX0) (zn : SX0) (zv : Int32) (zh : SX3) (zx : SX6) (zk : Int32) (zd : Int32) (ze : Int32) (zc : Int32) (H : Heap) (locs : List Loc) (ls : Array Slot), f_X7_minutesUntilCool_18 p1 n9 x2 zb zt zn zv zh zx zk zd ze zc = some (rr, uu) → va_P (dC, dI) vwCl ([[(oa 0, .inr (11, [.ref (oa 1), .ref (oa 14), .ref (oa 27), .int zv, .ref (oa 40), .ref (oa 146), .int zk, .ref (oa 152), .int zd, .int ze, .int zc]))], wX0 dA (fun k => oa (1 + k)) zb, wX0 dA (fun k => oa (14 + k)) zt, wX0 dA (fun k => oa (27 + k)) zn, wX3 dA (fun k => oa (40 + k)) zh, wX6 dA (fun k => oa (146 + k)) zx, wLN dA (oa 152) ln].flatten) H → va_D A ([[(oa 0, .inr (11, [.ref (oa 1), .ref (oa 14), .ref (oa 27), .int zv, .ref (oa 40), .ref (oa 146), .int zk, .ref (oa 152), .int zd, .int ze, .int zc]))], wX0 dA (fun k => oa (1 + k)) zb, wX0 dA (fun k => oa (14 + k)) zt, wX0 dA (fun k => oa (27 + k)) zn, wX3 dA (fun k => oa (40 + k)) zh, wX6 dA (fun k => oa (146 + k)) zx, wLN dA (oa 152) ln].flatten) → va_S A s.heap H locs → lv_has ls 3 [(0, .ref (oa 0)), (1, .int p1), (2, .int x2)] → W p l e (headSpec ws_X7_minutesUntilCool ({ frames := 26, cells := 1, slots := 6, locals := 1000 } : Room)).room s m ([.ref (oa 0), .int p1] : List Value).toArray below meth c H locs 1 6 (vx_MQ below (va_Qi (S := Unit) (fun r' _ => rr = Sum.inl r') (fun _ t => pQ (dC, dI) A (wX7 dA oa uu ln) t) A) (XCx (dC, dI) A rr (wX7 dA oa uu ln)) ([.ref (oa 0), .int p1] : List Value).toArray s 1 6 A) (F0 m 18 ls []) := by
    intro n9
    induction n9 with
    | zero =>
      intro x2 zb zt zn zv zh zx zk zd ze zc H locs ls hf
      rw [f_X7_minutesUntilCool_18] at hf
      cases hf
    | succ n9 ih =>
      intro x2 zb zt zn zv zh zx zk zd ze zc H locs ls hf hP hD hS hl
      rw [f_X7_minutesUntilCool_18] at hf
      refine lv_iload_n hx hb dX7_minutesUntilCool_18 rfl (lv_at hl 2 rfl) ?_
      refine lv_sipush (v := 240) hx hb dX7_minutesUntilCool_19 (by decide) ?_
      refine lv_icmp_ge (tgt := 52) hx hb dX7_minutesUntilCool_22 (by decide) (fun q1 => ?_) (fun q1 => ?_)
      · have hf := it q1 hf
        refine lv_iload_n hx hb dX7_minutesUntilCool_52 rfl (lv_at hl 2 rfl) ?_
        obtain ⟨e8, e9⟩ := Prod.mk.inj (sm hf)
        exact vx_ret (W.iret hx hb hr (fun t ht hW => ⟨⟨_, (), rfl, e8.symm, by rw [← e9, ht]; exact hP, by rw [← e9]; exact hD⟩, hS.F ht⟩) hS.2.2 dX7_minutesUntilCool_53)
      · have hf := ie q1 hf
        refine lv_aload_n hx hb dX7_minutesUntilCool_25 rfl (lv_at hl 0 rfl) ?_
        refine va_get (D := (dC, dI)) (ci := 11) (v := .ref (oa 14)) (C := RX7) (T := TX7) (N := 11) hx hb hts in_X7 hown hK hP 0 rfl rfl 1 (by decide) (hts _ (bg _ wd_275)) (fun _ h9 => h9) rfl dX7_minutesUntilCool_26 ?_
        refine va_get (D := (dC, dI)) (ci := 4) (v := .ref (oa 20)) (C := RX0) (T := TX0) (N := 4) hx hb hts in_X0 hown hK hP 14 rfl rfl 2 (by decide) (hts _ (bg _ wd_171)) (fun _ h9 => h9) rfl dX7_minutesUntilCool_29 ?_
        refine lv_iload_n hx hb dX7_minutesUntilCool_32 rfl (lv_at hl 1 rfl) ?_
        obtain ⟨r3, eh2, hf⟩ := bd hf
        refine jr_i (va_runV (As := [.int p1]) (rest := []) ⟨hx, hb, hml, hown, hts⟩ (mt_X4_hasCool l dC dI dA gz (fun k => oa (20 + k)) H.size zt.2.2.1 p1 r3 eh2) (cwV 1 hts (gi_v bg wd_1114 wd_745 wd_746 wd_5 wd_747) rfl rfl rfl hd_X4_hasCool ⟨Nat.le_of_ble_eq_true rfl, Nat.le_of_ble_eq_true rfl⟩) ⟨pP_blind, va_recv (ci := 8) (q0 := 20) hK hP rfl rfl, pP_pre hP hD hS hA hK hN hZ [20, 21, 22, 23, 24] (by decide) rfl⟩ rfl rfl hl.1 rfl (lv_room (Nat.le_of_ble_eq_true rfl)) dX7_minutesUntilCool_33 ⟨Nat.le_of_ble_eq_true rfl, Nat.le_of_ble_eq_true rfl⟩) hP hD hS hA [20, 21, 22, 23, 24] rfl (fun H locs hP hS => ?_)
        refine lv_if_ne (tgt := 52) hx hb dX7_minutesUntilCool_36 (by decide) (fun q4 => ?_) (fun q4 => ?_)
        · have hf := ie q4 hf
          refine lv_iload_n hx hb dX7_minutesUntilCool_52 rfl (lv_at hl 2 rfl) ?_
          obtain ⟨e8, e9⟩ := Prod.mk.inj (sm hf)
          exact vx_ret (W.iret hx hb hr (fun t ht hW => ⟨⟨_, (), rfl, e8.symm, by rw [← e9, ht]; exact hP, by rw [← e9]; exact hD⟩, hS.F ht⟩) hS.2.2 dX7_minutesUntilCool_53)
        · have hf := it q4 hf
          refine lv_aload_n hx hb dX7_minutesUntilCool_39 rfl (lv_at hl 0 rfl) ?_
          refine va_get (D := (dC, dI)) (ci := 11) (v := .ref (oa 14)) (C := RX7) (T := TX7) (N := 11) hx hb hts in_X7 hown hK hP 0 rfl rfl 1 (by decide) (hts _ (bg _ wd_275)) (fun _ h9 => h9) rfl dX7_minutesUntilCool_40 ?_
          obtain ⟨c6, eh5, hf⟩ := bd hf
          refine jg1_v (va_runV (As := []) (rest := []) ⟨hx, hb, hml, hown, hts⟩ (mt_X0_passMinute l dC dI dA gz (fun k => oa (14 + k)) H.size zt c6 eh5) (cwV 0 hts (gi_v bg wd_1031 wd_552 wd_553 wd_2 wd_554) rfl rfl rfl hd_X0_passMinute ⟨Nat.le_of_ble_eq_true rfl, Nat.le_of_ble_eq_true rfl⟩) ⟨pP_blind, va_recv (ci := 4) (q0 := 0) hK (seg_P hP 2 rfl) rfl rfl, pP_pre1 hP hD hS hA hK hN hZ 2 rfl⟩ rfl rfl hl.1 rfl (lv_room (Nat.le_of_ble_eq_true rfl)) dX7_minutesUntilCool_43 ⟨Nat.le_of_ble_eq_true rfl, Nat.le_of_ble_eq_true rfl⟩) hP hD hS hA 2 rfl (aX0 _ _ _ _) (fun H locs hP hD hS => ?_)
          have hP : va_P (dC, dI) vwCl ([[(oa 0, .inr (11, [.ref (oa 1), .ref (oa 14), .ref (oa 27), .int zv, .ref (oa 40), .ref (oa 146), .int zk, .ref (oa 152), .int zd, .int ze, .int zc]))], wX0 dA (fun k => oa (1 + k)) zb, wX0 dA (fun k => oa (14 + k)) c6, wX0 dA (fun k => oa (27 + k)) zn, wX3 dA (fun k => oa (40 + k)) zh, wX6 dA (fun k => oa (146 + k)) zx, wLN dA (oa 152) ln].flatten : va_W) H := hP
          have hD : va_D A ([[(oa 0, .inr (11, [.ref (oa 1), .ref (oa 14), .ref (oa 27), .int zv, .ref (oa 40), .ref (oa 146), .int zk, .ref (oa 152), .int zd, .int ze, .int zc]))], wX0 dA (fun k => oa (1 + k)) zb, wX0 dA (fun k => oa (14 + k)) c6, wX0 dA (fun k => oa (27 + k)) zn, wX3 dA (fun k => oa (40 + k)) zh, wX6 dA (fun k => oa (146 + k)) zx, wLN dA (oa 152) ln].flatten) := hD
          refine lv_iinc (v := (x2 + 1)) (lv' := [(2, .int (x2 + 1)), (0, .ref (oa 0)), (1, .int p1)]) hx hb dX7_minutesUntilCool_46 hl (k := 2) rfl rfl (by decide) rfl (fun ls hl => ?_)
          refine lv_goto (tgt := 18) hx hb dX7_minutesUntilCool_49 (by decide) ?_
          exact ih (x2 + 1) zb c6 zn zv zh zx zk zd ze zc _ _ _ hf hP hD hS (lv_sub hl [1, 2, 0] rfl)
  rw [f_X7_minutesUntilCool] at hf
  refine lv_aload_n hx hb dX7_minutesUntilCool_0 rfl (lv_at hl 0 rfl) ?_
  refine lv_iload_n hx hb dX7_minutesUntilCool_1 rfl (lv_at hl 1 rfl) ?_
  rcases bE7_inv hf with ⟨r9, c8_zb, c8_zt, c8_zn, c8_zv, c8_zh, c8_zx, c8_zk, c8_zd, c8_ze, c8_zc, eh7, hf⟩ | ⟨E9, S9, eh7, hf⟩
  · refine jx_v (w1 := wX7 dA oa (c8_zb, c8_zt, c8_zn, c8_zv, c8_zh, c8_zx, c8_zk, c8_zd, c8_ze, c8_zc) ln) (vx_runV (As := [.int p1]) (rest := []) ⟨hx, hb, hml, hown, hts⟩ (m_X7_requirePat l hl0 dC dI dA gz oa s.heap.size ln zb zt zn zv zh zx zk zd ze zc p1 (.inl ()) (c8_zb, c8_zt, c8_zn, c8_zv, c8_zh, c8_zx, c8_zk, c8_zd, c8_ze, c8_zc) eh7) (cwV 1 hts (gi_v bg wd_1054 wd_1056 ws_17 wd_1 wd_1057) rfl rfl rfl hd_X7_requirePat ⟨Nat.le_of_ble_eq_true rfl, Nat.le_of_ble_eq_true rfl⟩) ⟨pP_blind, va_recv (ci := 11) (q0 := 0) hK hP rfl rfl, pP_preW hP hD hS hA hK hN hZ⟩ rfl rfl hl.1 rfl (lv_room (Nat.le_of_ble_eq_true rfl)) dX7_minutesUntilCool_2 ⟨Nat.le_of_ble_eq_true rfl, Nat.le_of_ble_eq_true rfl⟩) hD hS hA (fun E ce q9 H locs h9 _ _ _ _ _ _ => nomatch h9) (fun H locs h9 hP hD hS => ?_)
    have hP : va_P (dC, dI) vwCl ([[(oa 0, .inr (11, [.ref (oa 1), .ref (oa 14), .ref (oa 27), .int c8_zv, .ref (oa 40), .ref (oa 146), .int c8_zk, .ref (oa 152), .int c8_zd, .int c8_ze, .int c8_zc]))], wX0 dA (fun k => oa (1 + k)) c8_zb, wX0 dA (fun k => oa (14 + k)) c8_zt, wX0 dA (fun k => oa (27 + k)) c8_zn, wX3 dA (fun k => oa (40 + k)) c8_zh, wX6 dA (fun k => oa (146 + k)) c8_zx, wLN dA (oa 152) ln].flatten) H := hP
    have hD : va_D A ([[(oa 0, .inr (11, [.ref (oa 1), .ref (oa 14), .ref (oa 27), .int c8_zv, .ref (oa 40), .ref (oa 146), .int c8_zk, .ref (oa 152), .int c8_zd, .int c8_ze, .int c8_zc]))], wX0 dA (fun k => oa (1 + k)) c8_zb, wX0 dA (fun k => oa (14 + k)) c8_zt, wX0 dA (fun k => oa (27 + k)) c8_zn, wX3 dA (fun k => oa (40 + k)) c8_zh, wX6 dA (fun k => oa (146 + k)) c8_zx, wLN dA (oa 152) ln].flatten) := hD
    refine lv_aload_n hx hb dX7_minutesUntilCool_5 rfl (lv_at hl 0 rfl) ?_
    refine va_get (D := (dC, dI)) (ci := 11) (v := .ref (oa 14)) (C := RX7) (T := TX7) (N := 11) hx hb hts in_X7 hown hK hP 0 rfl rfl 1 (by decide) (hts _ (bg _ wd_275)) (fun _ h9 => h9) rfl dX7_minutesUntilCool_6 ?_
    refine lv_aload_n hx hb dX7_minutesUntilCool_9 rfl (lv_at hl 0 rfl) ?_
    refine va_get (D := (dC, dI)) (ci := 11) (v := .ref (oa 1)) (C := RX7) (T := TX7) (N := 11) hx hb hts in_X7 hown hK hP 0 rfl rfl 0 (by decide) (hts _ (bg _ wd_274)) (fun _ h9 => h9) rfl dX7_minutesUntilCool_10 ?_
    obtain ⟨c11, eh10, hf⟩ := bd hf
    refine jg2_v (va_runV (As := [.ref (oa 1)]) (rest := []) ⟨hx, hb, hml, hown, hts⟩ (mt_X0_copyFrom l dC dI dA gz (fun k => oa (14 + k)) (fun k => oa (1 + k)) H.size c8_zt c8_zb c11 eh10) (cwV 1 hts (gi_v bg wd_316 wd_317 wd_318 wd_2 wd_319) rfl rfl rfl hd_X0_copyFrom ⟨Nat.le_of_ble_eq_true rfl, Nat.le_of_ble_eq_true rfl⟩) ⟨pP_blind, va_recv (ci := 4) (q0 := 0) hK (seg_P hP 2 rfl) rfl rfl, pP_pre2 hP hD hS hA hK hN hZ 2 1 rfl rfl (by decide)⟩ rfl rfl hl.1 rfl (lv_room (Nat.le_of_ble_eq_true rfl)) dX7_minutesUntilCool_13 ⟨Nat.le_of_ble_eq_true rfl, Nat.le_of_ble_eq_true rfl⟩) hP hD hS hA 2 1 rfl rfl (by decide) (aX0 _ _ _ _) (fun H locs hP hD hS => ?_)
    have hP : va_P (dC, dI) vwCl ([[(oa 0, .inr (11, [.ref (oa 1), .ref (oa 14), .ref (oa 27), .int c8_zv, .ref (oa 40), .ref (oa 146), .int c8_zk, .ref (oa 152), .int c8_zd, .int c8_ze, .int c8_zc]))], wX0 dA (fun k => oa (1 + k)) c8_zb, wX0 dA (fun k => oa (14 + k)) c11, wX0 dA (fun k => oa (27 + k)) c8_zn, wX3 dA (fun k => oa (40 + k)) c8_zh, wX6 dA (fun k => oa (146 + k)) c8_zx, wLN dA (oa 152) ln].flatten : va_W) H := hP
    have hD : va_D A ([[(oa 0, .inr (11, [.ref (oa 1), .ref (oa 14), .ref (oa 27), .int c8_zv, .ref (oa 40), .ref (oa 146), .int c8_zk, .ref (oa 152), .int c8_zd, .int c8_ze, .int c8_zc]))], wX0 dA (fun k => oa (1 + k)) c8_zb, wX0 dA (fun k => oa (14 + k)) c11, wX0 dA (fun k => oa (27 + k)) c8_zn, wX3 dA (fun k => oa (40 + k)) c8_zh, wX6 dA (fun k => oa (146 + k)) c8_zx, wLN dA (oa 152) ln].flatten) := hD
    refine lv_iconst (v := 0) hx hb dX7_minutesUntilCool_16 (by decide) ?_
    refine lv_istore_n (lv' := [(2, .int 0), (0, .ref (oa 0)), (1, .int p1)]) hx hb dX7_minutesUntilCool_17 rfl hl (by decide) rfl (fun ls hl => ?_)
    exact cut18 300 0 c8_zb c11 c8_zn c8_zv c8_zh c8_zx c8_zk c8_zd c8_ze c8_zc _ _ _ hf hP hD hS (lv_sub hl [1, 2, 0] rfl)
  · obtain ⟨e8, e9⟩ := Prod.mk.inj hf
    refine jx_v (w1 := wX7 dA oa S9 ln) (vx_runV (As := [.int p1]) (rest := []) ⟨hx, hb, hml, hown, hts⟩ (m_X7_requirePat l hl0 dC dI dA gz oa s.heap.size ln zb zt zn zv zh zx zk zd ze zc p1 (.inr E9) S9 eh7) (cwV 1 hts (gi_v bg wd_1054 wd_1056 ws_17 wd_1 wd_1057) rfl rfl rfl hd_X7_requirePat ⟨Nat.le_of_ble_eq_true rfl, Nat.le_of_ble_eq_true rfl⟩) ⟨pP_blind, va_recv (ci := 11) (q0 := 0) hK hP rfl rfl, pP_preW hP hD hS hA hK hN hZ⟩ rfl rfl hl.1 rfl (lv_room (Nat.le_of_ble_eq_true rfl)) dX7_minutesUntilCool_2 ⟨Nat.le_of_ble_eq_true rfl, Nat.le_of_ble_eq_true rfl⟩) hD hS hA (fun E ce q9 H locs h9 hP hD hS h1 h2 h3 => ?_) (fun H locs h9 _ _ _ => nomatch h9)
    cases h9
    exact vx_out (fun x9 hx9 => absurd (ht9 x9 hx9) id) hlocks h1 h2 h3 (fun t ht hvm => by rw [← e9]; exact xp e8.symm hP hD hS ht) hS.2.2 (Nat.le_of_ble_eq_true rfl) (Nat.le_of_ble_eq_true rfl)
/-! X7_minutesUntilCoolByDivision -/
def f_X7_minutesUntilCoolByDivision (zb : SX0) (zt : SX0) (zn : SX0) (zv : Int32) (zh : SX3) (zx : SX6) (zk : Int32) (zd : Int32) (ze : Int32) (zc : Int32) (p1 : Int32) : Option ((Int32 ⊕ String) × SX7) :=
  bE7 (f_X7_requirePat zb zt zn zv zh zx zk zd ze zc p1) fun _ c2_zb c2_zt c2_zn c2_zv c2_zh c2_zx c2_zk c2_zd c2_ze c2_zc =>
  if p1 < 0 ∨ 12 ≤ p1.toNatClampNeg then none else
  some (.inl ((((if 0 < ((c2_zb.2.2.1.2.1 p1.toNatClampNeg) - 30) then ((c2_zb.2.2.1.2.1 p1.toNatClampNeg) - 30) else 0) + 5) - 1) / 5), (c2_zb, c2_zt, c2_zn, c2_zv, c2_zh, c2_zx, c2_zk, c2_zd, c2_ze, c2_zc))
set_option maxRecDepth 100000 in
set_option maxHeartbeats 4000000 in
theorem m_X7_minutesUntilCoolByDivision (l : Launch) (hl0 : l.stackTraces = false) (dC : Nat → ClassId) (dI : Nat → Nat → Nat) (dA gz : Nat → Nat) (oa : Nat → Nat) (sz : Nat) (ln : LN) (zb : SX0) (zt : SX0) (zn : SX0) (zv : Int32) (zh : SX3) (zx : SX6) (zk : Int32) (zd : Int32) (ze : Int32) (zc : Int32) (p1 : Int32) (rr : Int32 ⊕ String) (uu : SX7) (hf : f_X7_minutesUntilCoolByDivision zb zt zn zv zh zx zk zd ze zc p1 = some (rr, uu)) : vx_Met l yX7_minutesUntilCoolByDivision ws_X7_minutesUntilCoolByDivision ({ frames := 18, cells := 1, slots := 6, locals := 600 } : Room) (va_Pc [.ref (oa 0), .int p1] (pP (dC, dI) dA gz (wX7 dA oa (zb, zt, zn, zv, zh, zx, zk, zd, ze, zc) ln) sz)) (va_Qi (S := Unit) (fun r' _ => rr = Sum.inl r') (fun _ t => pQ (dC, dI) (va_A (wX7 dA oa (zb, zt, zn, zv, zh, zx, zk, zd, ze, zc) ln) sz) (wX7 dA oa uu ln) t) (va_A (wX7 dA oa (zb, zt, zn, zv, zh, zx, zk, zd, ze, zc) ln) sz)) (XCx (dC, dI) (va_A (wX7 dA oa (zb, zt, zn, zv, zh, zx, zk, zd, ze, zc) ln) sz) rr (wX7 dA oa uu ln)) 1 6 (va_A (wX7 dA oa (zb, zt, zn, zv, zh, zx, zk, zd, ze, zc) ln) sz) := by
  refine vx_ofW (cc := cX7_minutesUntilCoolByDivision) (maxL := 3) (ret := (some .int)) (by decide) rfl ?_
  intro p e s m args below meth c s₁ B hml ht9 hv
  obtain ⟨rfl, hsz, hP, hK, hD0, hN, hZ⟩ := hv
  have hx := B.exec
  have hb := B.bytes
  have hr := B.returns
  have hts := atoms_spec (ws := ws_X7_minutesUntilCoolByDivision) B.pre
  have htb : ∀ w ∈ BIG, w.before _ s = true := fun w h => hts w (bg w h)
  have hown : s.vm.findClass RX7 = some m.cls := findClass_of_methodNamed B.named
  have hlocks := B.notSynchronized
  subst hsz
  have hD := hD0.self (sz := s.heap.size)
  generalize hAe : va_A (wX7 dA oa (zb, zt, zn, zv, zh, zx, zk, zd, ze, zc) ln) s.heap.size = A at hD hZ ⊢
  have hA : ∀ q : Nat, s.heap.size ≤ q → A q := fun q h => by rw [← hAe]; exact Or.inr h
  have hS : va_S A s.heap s.heap [] := va_S.rf
  have hP : va_P (dC, dI) vwCl ([[(oa 0, .inr (11, [.ref (oa 1), .ref (oa 14), .ref (oa 27), .int zv, .ref (oa 40), .ref (oa 146), .int zk, .ref (oa 152), .int zd, .int ze, .int zc]))], wX0 dA (fun k => oa (1 + k)) zb, wX0 dA (fun k => oa (14 + k)) zt, wX0 dA (fun k => oa (27 + k)) zn, wX3 dA (fun k => oa (40 + k)) zh, wX6 dA (fun k => oa (146 + k)) zx, wLN dA (oa 152) ln].flatten) s.heap := hP
  have hD : va_D A ([[(oa 0, .inr (11, [.ref (oa 1), .ref (oa 14), .ref (oa 27), .int zv, .ref (oa 40), .ref (oa 146), .int zk, .ref (oa 152), .int zd, .int ze, .int zc]))], wX0 dA (fun k => oa (1 + k)) zb, wX0 dA (fun k => oa (14 + k)) zt, wX0 dA (fun k => oa (27 + k)) zn, wX3 dA (fun k => oa (40 + k)) zh, wX6 dA (fun k => oa (146 + k)) zx, wLN dA (oa 152) ln].flatten) := hD
  have hl := lv_entry [.ref (oa 0), .int p1] (n := 3) (Nat.le_of_ble_eq_true rfl)
  rw [lg_entry_eq]
  generalize (lg_sl [.ref (oa 0), .int p1] ++ List.replicate (3 - (lg_sl [.ref (oa 0), .int p1]).length) Slot.unset).toArray = ls at hl ⊢
  have hl : lv_has ls 3 [(0, .ref (oa 0)), (1, .int p1)] := hl
  have in_X0 : ∀ w ∈ wsX00, w ∈ ws_X7_minutesUntilCoolByDivision := fun w h => bg _ (inB_X0 w h)
  have in_X4 : ∀ w ∈ wsX40, w ∈ ws_X7_minutesUntilCoolByDivision := fun w h => bg _ (inB_X4 w h)
  have in_X7 : ∀ w ∈ wsX70, w ∈ ws_X7_minutesUntilCoolByDivision := fun w h => bg _ (inB_X7 w h)
  rw [f_X7_minutesUntilCoolByDivision] at hf
  refine lv_aload_n hx hb dX7_minutesUntilCoolByDivision_0 rfl (lv_at hl 0 rfl) ?_
  refine lv_iload_n hx hb dX7_minutesUntilCoolByDivision_1 rfl (lv_at hl 1 rfl) ?_
  rcases bE7_inv hf with ⟨r3, c2_zb, c2_zt, c2_zn, c2_zv, c2_zh, c2_zx, c2_zk, c2_zd, c2_ze, c2_zc, eh1, hf⟩ | ⟨E9, S9, eh1, hf⟩
  · refine jx_v (w1 := wX7 dA oa (c2_zb, c2_zt, c2_zn, c2_zv, c2_zh, c2_zx, c2_zk, c2_zd, c2_ze, c2_zc) ln) (vx_runV (As := [.int p1]) (rest := []) ⟨hx, hb, hml, hown, hts⟩ (m_X7_requirePat l hl0 dC dI dA gz oa s.heap.size ln zb zt zn zv zh zx zk zd ze zc p1 (.inl ()) (c2_zb, c2_zt, c2_zn, c2_zv, c2_zh, c2_zx, c2_zk, c2_zd, c2_ze, c2_zc) eh1) (cwV 1 hts (gi_v bg wd_1054 wd_1056 ws_17 wd_1 wd_1057) rfl rfl rfl hd_X7_requirePat ⟨Nat.le_of_ble_eq_true rfl, Nat.le_of_ble_eq_true rfl⟩) ⟨pP_blind, va_recv (ci := 11) (q0 := 0) hK hP rfl rfl, pP_preW hP hD hS hA hK hN hZ⟩ rfl rfl hl.1 rfl (lv_room (Nat.le_of_ble_eq_true rfl)) dX7_minutesUntilCoolByDivision_2 ⟨Nat.le_of_ble_eq_true rfl, Nat.le_of_ble_eq_true rfl⟩) hD hS hA (fun E ce q9 H locs h9 _ _ _ _ _ _ => nomatch h9) (fun H locs h9 hP hD hS => ?_)
    have hP : va_P (dC, dI) vwCl ([[(oa 0, .inr (11, [.ref (oa 1), .ref (oa 14), .ref (oa 27), .int c2_zv, .ref (oa 40), .ref (oa 146), .int c2_zk, .ref (oa 152), .int c2_zd, .int c2_ze, .int c2_zc]))], wX0 dA (fun k => oa (1 + k)) c2_zb, wX0 dA (fun k => oa (14 + k)) c2_zt, wX0 dA (fun k => oa (27 + k)) c2_zn, wX3 dA (fun k => oa (40 + k)) c2_zh, wX6 dA (fun k => oa (146 + k)) c2_zx, wLN dA (oa 152) ln].flatten) H := hP
    have hD : va_D A ([[(oa 0, .inr (11, [.ref (oa 1), .ref (oa 14), .ref (oa 27), .int c2_zv, .ref (oa 40), .ref (oa 146), .int c2_zk, .ref (oa 152), .int c2_zd, .int c2_ze, .int c2_zc]))], wX0 dA (fun k => oa (1 + k)) c2_zb, wX0 dA (fun k => oa (14 + k)) c2_zt, wX0 dA (fun k => oa (27 + k)) c2_zn, wX3 dA (fun k => oa (40 + k)) c2_zh, wX6 dA (fun k => oa (146 + k)) c2_zx, wLN dA (oa 152) ln].flatten) := hD
    refine lv_iconst (v := 0) hx hb dX7_minutesUntilCoolByDivision_5 (by decide) ?_
    refine lv_aload_n hx hb dX7_minutesUntilCoolByDivision_6 rfl (lv_at hl 0 rfl) ?_
    refine va_get (D := (dC, dI)) (ci := 11) (v := .ref (oa 1)) (C := RX7) (T := TX7) (N := 11) hx hb hts in_X7 hown hK hP 0 rfl rfl 0 (by decide) (hts _ (bg _ wd_274)) (fun _ h9 => h9) rfl dX7_minutesUntilCoolByDivision_7 ?_
    refine va_get (D := (dC, dI)) (ci := 4) (v := .ref (oa 7)) (C := RX0) (T := TX0) (N := 4) hx hb hts in_X0 hown hK hP 1 rfl rfl 2 (by decide) (hts _ (bg _ wd_171)) (fun _ h9 => h9) rfl dX7_minutesUntilCoolByDivision_10 ?_
    refine va_get (D := (dC, dI)) (ci := 8) (v := .ref (oa 9)) (C := RX4) (T := TX4) (N := 5) hx hb hts in_X4 hown hK hP 7 rfl rfl 1 (by decide) (hts _ (bg _ wd_122)) (fun _ h9 => h9) rfl dX7_minutesUntilCoolByDivision_13 ?_
    refine lv_iload_n hx hb dX7_minutesUntilCoolByDivision_16 rfl (lv_at hl 1 rfl) ?_
    obtain ⟨z4, hf⟩ := gd hf
    refine va_iald hx hb hK hP 9 1 rfl rfl z4 dX7_minutesUntilCoolByDivision_17 ?_
    refine lv_bipush (v := 30) hx hb dX7_minutesUntilCoolByDivision_18 (by decide) ?_
    refine lv_isub hx hb dX7_minutesUntilCoolByDivision_20 ?_
    refine va_mmax hx hb (hml.trans hl.1.symm) hown (hts _ (bg _ wd_1123)) (hts _ (bg _ wd_561)) (hts _ (bg _ wd_21)) (hts _ (bg _ wd_562)) (Nat.le_of_ble_eq_true rfl) (Nat.le_of_ble_eq_true rfl) (Nat.le_of_ble_eq_true rfl) (Nat.le_of_ble_eq_true rfl) dX7_minutesUntilCoolByDivision_21 ?_
    refine lv_istore_n (lv' := [(2, .int (if 0 < ((c2_zb.2.2.1.2.1 p1.toNatClampNeg) - 30) then ((c2_zb.2.2.1.2.1 p1.toNatClampNeg) - 30) else 0)), (0, .ref (oa 0)), (1, .int p1)]) hx hb dX7_minutesUntilCoolByDivision_24 rfl hl (by decide) rfl (fun ls hl => ?_)
    refine lv_iload_n hx hb dX7_minutesUntilCoolByDivision_25 rfl (lv_at hl 0 rfl) ?_
    refine lv_iconst (v := 5) hx hb dX7_minutesUntilCoolByDivision_26 (by decide) ?_
    refine lv_iadd hx hb dX7_minutesUntilCoolByDivision_27 ?_
    refine lv_iconst (v := 1) hx hb dX7_minutesUntilCoolByDivision_28 (by decide) ?_
    refine lv_isub hx hb dX7_minutesUntilCoolByDivision_29 ?_
    refine lv_iconst (v := 5) hx hb dX7_minutesUntilCoolByDivision_30 (by decide) ?_
    refine lv_idiv hx hb dX7_minutesUntilCoolByDivision_31 (by decide) ?_
    obtain ⟨e8, e9⟩ := Prod.mk.inj (sm hf)
    exact vx_ret (W.iret hx hb hr (fun t ht hW => ⟨⟨_, (), rfl, e8.symm, by rw [← e9, ht]; exact hP, by rw [← e9]; exact hD⟩, hS.F ht⟩) hS.2.2 dX7_minutesUntilCoolByDivision_32)
  · obtain ⟨e8, e9⟩ := Prod.mk.inj hf
    refine jx_v (w1 := wX7 dA oa S9 ln) (vx_runV (As := [.int p1]) (rest := []) ⟨hx, hb, hml, hown, hts⟩ (m_X7_requirePat l hl0 dC dI dA gz oa s.heap.size ln zb zt zn zv zh zx zk zd ze zc p1 (.inr E9) S9 eh1) (cwV 1 hts (gi_v bg wd_1054 wd_1056 ws_17 wd_1 wd_1057) rfl rfl rfl hd_X7_requirePat ⟨Nat.le_of_ble_eq_true rfl, Nat.le_of_ble_eq_true rfl⟩) ⟨pP_blind, va_recv (ci := 11) (q0 := 0) hK hP rfl rfl, pP_preW hP hD hS hA hK hN hZ⟩ rfl rfl hl.1 rfl (lv_room (Nat.le_of_ble_eq_true rfl)) dX7_minutesUntilCoolByDivision_2 ⟨Nat.le_of_ble_eq_true rfl, Nat.le_of_ble_eq_true rfl⟩) hD hS hA (fun E ce q9 H locs h9 hP hD hS h1 h2 h3 => ?_) (fun H locs h9 _ _ _ => nomatch h9)
    cases h9
    exact vx_out (fun x9 hx9 => absurd (ht9 x9 hx9) id) hlocks h1 h2 h3 (fun t ht hvm => by rw [← e9]; exact xp e8.symm hP hD hS ht) hS.2.2 (Nat.le_of_ble_eq_true rfl) (Nat.le_of_ble_eq_true rfl)
/-! X7_patByFirmness -/
def f_X7_patByFirmness (zb : SX0) (zt : SX0) (zn : SX0) (zv : Int32) (zh : SX3) (zx : SX6) (zk : Int32) (zd : Int32) (ze : Int32) (zc : Int32) (p1 : Int32) : Option ((Int32 ⊕ String) × SX7) :=
  (g_X4_patAtRank zb.2.2.1 p1).bind fun r2 =>
  (if r2 = (-1) then some (.inr "java/util/NoSuchElementException", (zb, zt, zn, zv, zh, zx, zk, zd, ze, zc)) else
  some (.inl r2, (zb, zt, zn, zv, zh, zx, zk, zd, ze, zc)))
set_option maxRecDepth 100000 in
set_option maxHeartbeats 4000000 in
theorem m_X7_patByFirmness (l : Launch) (hl0 : l.stackTraces = false) (dC : Nat → ClassId) (dI : Nat → Nat → Nat) (dA gz : Nat → Nat) (oa : Nat → Nat) (sz : Nat) (ln : LN) (zb : SX0) (zt : SX0) (zn : SX0) (zv : Int32) (zh : SX3) (zx : SX6) (zk : Int32) (zd : Int32) (ze : Int32) (zc : Int32) (p1 : Int32) (rr : Int32 ⊕ String) (uu : SX7) (hf : f_X7_patByFirmness zb zt zn zv zh zx zk zd ze zc p1 = some (rr, uu)) : vx_Met l yX7_patByFirmness ws_X7_patByFirmness ({ frames := 30, cells := 1, slots := 6, locals := 1200 } : Room) (va_Pc [.ref (oa 0), .int p1] (pP (dC, dI) dA gz (wX7 dA oa (zb, zt, zn, zv, zh, zx, zk, zd, ze, zc) ln) sz)) (va_Qi (S := Unit) (fun r' _ => rr = Sum.inl r') (fun _ t => pQ (dC, dI) (va_A (wX7 dA oa (zb, zt, zn, zv, zh, zx, zk, zd, ze, zc) ln) sz) (wX7 dA oa uu ln) t) (va_A (wX7 dA oa (zb, zt, zn, zv, zh, zx, zk, zd, ze, zc) ln) sz)) (XCx (dC, dI) (va_A (wX7 dA oa (zb, zt, zn, zv, zh, zx, zk, zd, ze, zc) ln) sz) rr (wX7 dA oa uu ln)) 1 6 (va_A (wX7 dA oa (zb, zt, zn, zv, zh, zx, zk, zd, ze, zc) ln) sz) := by
  refine vx_ofW (cc := cX7_patByFirmness) (maxL := 3) (ret := (some .int)) (by decide) rfl ?_
  intro p e s m args below meth c s₁ B hml ht9 hv
  obtain ⟨rfl, hsz, hP, hK, hD0, hN, hZ⟩ := hv
  have hx := B.exec
  have hb := B.bytes
  have hr := B.returns
  have hts := atoms_spec (ws := ws_X7_patByFirmness) B.pre
  have htb : ∀ w ∈ BIG, w.before _ s = true := fun w h => hts w (bg w h)
  have hown : s.vm.findClass RX7 = some m.cls := findClass_of_methodNamed B.named
  have hlocks := B.notSynchronized
  subst hsz
  have hD := hD0.self (sz := s.heap.size)
  generalize hAe : va_A (wX7 dA oa (zb, zt, zn, zv, zh, zx, zk, zd, ze, zc) ln) s.heap.size = A at hD hZ ⊢
  have hA : ∀ q : Nat, s.heap.size ≤ q → A q := fun q h => by rw [← hAe]; exact Or.inr h
  have hS : va_S A s.heap s.heap [] := va_S.rf
  have hP : va_P (dC, dI) vwCl ([[(oa 0, .inr (11, [.ref (oa 1), .ref (oa 14), .ref (oa 27), .int zv, .ref (oa 40), .ref (oa 146), .int zk, .ref (oa 152), .int zd, .int ze, .int zc]))], wX0 dA (fun k => oa (1 + k)) zb, wX0 dA (fun k => oa (14 + k)) zt, wX0 dA (fun k => oa (27 + k)) zn, wX3 dA (fun k => oa (40 + k)) zh, wX6 dA (fun k => oa (146 + k)) zx, wLN dA (oa 152) ln].flatten) s.heap := hP
  have hD : va_D A ([[(oa 0, .inr (11, [.ref (oa 1), .ref (oa 14), .ref (oa 27), .int zv, .ref (oa 40), .ref (oa 146), .int zk, .ref (oa 152), .int zd, .int ze, .int zc]))], wX0 dA (fun k => oa (1 + k)) zb, wX0 dA (fun k => oa (14 + k)) zt, wX0 dA (fun k => oa (27 + k)) zn, wX3 dA (fun k => oa (40 + k)) zh, wX6 dA (fun k => oa (146 + k)) zx, wLN dA (oa 152) ln].flatten) := hD
  have hl := lv_entry [.ref (oa 0), .int p1] (n := 3) (Nat.le_of_ble_eq_true rfl)
  rw [lg_entry_eq]
  generalize (lg_sl [.ref (oa 0), .int p1] ++ List.replicate (3 - (lg_sl [.ref (oa 0), .int p1]).length) Slot.unset).toArray = ls at hl ⊢
  have hl : lv_has ls 3 [(0, .ref (oa 0)), (1, .int p1)] := hl
  have in_X0 : ∀ w ∈ wsX00, w ∈ ws_X7_patByFirmness := fun w h => bg _ (inB_X0 w h)
  have in_X7 : ∀ w ∈ wsX70, w ∈ ws_X7_patByFirmness := fun w h => bg _ (inB_X7 w h)
  rw [f_X7_patByFirmness] at hf
  refine lv_aload_n hx hb dX7_patByFirmness_0 rfl (lv_at hl 0 rfl) ?_
  refine va_get (D := (dC, dI)) (ci := 11) (v := .ref (oa 1)) (C := RX7) (T := TX7) (N := 11) hx hb hts in_X7 hown hK hP 0 rfl rfl 0 (by decide) (hts _ (bg _ wd_274)) (fun _ h9 => h9) rfl dX7_patByFirmness_1 ?_
  refine va_get (D := (dC, dI)) (ci := 4) (v := .ref (oa 7)) (C := RX0) (T := TX0) (N := 4) hx hb hts in_X0 hown hK hP 1 rfl rfl 2 (by decide) (hts _ (bg _ wd_171)) (fun _ h9 => h9) rfl dX7_patByFirmness_4 ?_
  refine lv_iload_n hx hb dX7_patByFirmness_7 rfl (lv_at hl 1 rfl) ?_
  obtain ⟨r2, eh1, hf⟩ := bd hf
  refine jr_i (va_runV (As := [.int p1]) (rest := []) ⟨hx, hb, hml, hown, hts⟩ (mt_X4_patAtRank l dC dI dA gz (fun k => oa (7 + k)) s.heap.size zb.2.2.1 p1 r2 eh1) (cwV 1 hts (gi_v bg wd_1083 wd_1084 wd_1085 wd_5 wd_1086) rfl rfl rfl hd_X4_patAtRank ⟨Nat.le_of_ble_eq_true rfl, Nat.le_of_ble_eq_true rfl⟩) ⟨pP_blind, va_recv (ci := 8) (q0 := 7) hK hP rfl rfl, pP_pre hP hD hS hA hK hN hZ [7, 8, 9, 10, 11] (by decide) rfl⟩ rfl rfl hl.1 rfl (lv_room (Nat.le_of_ble_eq_true rfl)) dX7_patByFirmness_8 ⟨Nat.le_of_ble_eq_true rfl, Nat.le_of_ble_eq_true rfl⟩) hP hD hS hA [7, 8, 9, 10, 11] rfl (fun H locs hP hS => ?_)
  refine lv_istore_n (lv' := [(2, .int r2), (0, .ref (oa 0)), (1, .int p1)]) hx hb dX7_patByFirmness_11 rfl hl (by decide) rfl (fun ls hl => ?_)
  refine lv_iload_n hx hb dX7_patByFirmness_12 rfl (lv_at hl 0 rfl) ?_
  refine lv_iconst (v := (-1)) hx hb dX7_patByFirmness_13 (by decide) ?_
  refine lv_icmp_ne (tgt := 27) hx hb dX7_patByFirmness_14 (by decide) (fun q3 => ?_) (fun q3 => ?_)
  · have hf := ie q3 hf
    refine lv_iload_n hx hb dX7_patByFirmness_27 rfl (lv_at hl 0 rfl) ?_
    obtain ⟨e8, e9⟩ := Prod.mk.inj (sm hf)
    refine W.widen (k := 1) (n := 6) (Nat.le_of_ble_eq_true rfl) (Nat.le_of_ble_eq_true rfl) ?_
    exact vx_ret (W.iret hx hb hr (fun t ht hW => ⟨⟨_, (), rfl, e8.symm, by rw [← e9, ht]; exact hP, by rw [← e9]; exact hD⟩, hS.F ht⟩) hS.2.2 dX7_patByFirmness_28)
  · have hf := it q3 hf
    obtain ⟨e8, e9⟩ := Prod.mk.inj (sm hf)
    exact vn_throwS ns_0 ns_1 ns_2 ns_5 (Y0 := "java/lang/RuntimeException") (r0 := ["java/lang/Exception"]) hx hb hl0 hown (cls := "java/util/NoSuchElementException") (text := "there is no such rank") (ik := 119) (is := 225) (ic := 123) (by decide) (by decide) (by decide) (hts _ (bg _ wd_807)) (hts _ (bg _ wd_22)) (hZ.1 24 (by decide)).1 (th_123 htb hN) tg_123 hZ.2.2.2.2.2.1 hZ.2.2.2.2.2.2.1 hS (hl.1.trans hml.symm) dX7_patByFirmness_17 dX7_patByFirmness_20 dX7_patByFirmness_21 dX7_patByFirmness_23 dX7_patByFirmness_26 (fun x9 hx9 => absurd (ht9 x9 hx9) id) (Nat.le_of_ble_eq_true rfl) (Nat.le_of_ble_eq_true rfl) (Nat.le_of_ble_eq_true rfl) (Nat.le_of_ble_eq_true rfl) hlocks (fun t hvm hz9 hq9 => by rw [← e9]; exact xq e8.symm hP hD hS hz9 hq9) hS.2.2 (Nat.le_of_ble_eq_true rfl) (Nat.le_of_ble_eq_true rfl)
/-! X7_nextCool -/
def f_X7_nextCool (zb : SX0) (zt : SX0) (zn : SX0) (zv : Int32) (zh : SX3) (zx : SX6) (zk : Int32) (zd : Int32) (ze : Int32) (zc : Int32) (p1 : Int32) : Option ((Int32 ⊕ String) × SX7) :=
  bE7 (f_X7_requirePat zb zt zn zv zh zx zk zd ze zc p1) fun _ c2_zb c2_zt c2_zn c2_zv c2_zh c2_zx c2_zk c2_zd c2_ze c2_zc =>
  (g_X4_firstCoolFrom c2_zb.2.2.1 p1).bind fun r5 =>
  (if r5 = (-1) then some (.inr "java/util/NoSuchElementException", (c2_zb, c2_zt, c2_zn, c2_zv, c2_zh, c2_zx, c2_zk, c2_zd, c2_ze, c2_zc)) else
  some (.inl r5, (c2_zb, c2_zt, c2_zn, c2_zv, c2_zh, c2_zx, c2_zk, c2_zd, c2_ze, c2_zc)))
set_option maxRecDepth 100000 in
set_option maxHeartbeats 4000000 in
theorem m_X7_nextCool (l : Launch) (hl0 : l.stackTraces = false) (dC : Nat → ClassId) (dI : Nat → Nat → Nat) (dA gz : Nat → Nat) (oa : Nat → Nat) (sz : Nat) (ln : LN) (zb : SX0) (zt : SX0) (zn : SX0) (zv : Int32) (zh : SX3) (zx : SX6) (zk : Int32) (zd : Int32) (ze : Int32) (zc : Int32) (p1 : Int32) (rr : Int32 ⊕ String) (uu : SX7) (hf : f_X7_nextCool zb zt zn zv zh zx zk zd ze zc p1 = some (rr, uu)) : vx_Met l yX7_nextCool ws_X7_nextCool ({ frames := 22, cells := 2, slots := 12, locals := 800 } : Room) (va_Pc [.ref (oa 0), .int p1] (pP (dC, dI) dA gz (wX7 dA oa (zb, zt, zn, zv, zh, zx, zk, zd, ze, zc) ln) sz)) (va_Qi (S := Unit) (fun r' _ => rr = Sum.inl r') (fun _ t => pQ (dC, dI) (va_A (wX7 dA oa (zb, zt, zn, zv, zh, zx, zk, zd, ze, zc) ln) sz) (wX7 dA oa uu ln) t) (va_A (wX7 dA oa (zb, zt, zn, zv, zh, zx, zk, zd, ze, zc) ln) sz)) (XCx (dC, dI) (va_A (wX7 dA oa (zb, zt, zn, zv, zh, zx, zk, zd, ze, zc) ln) sz) rr (wX7 dA oa uu ln)) 2 12 (va_A (wX7 dA oa (zb, zt, zn, zv, zh, zx, zk, zd, ze, zc) ln) sz) := by
  refine vx_ofW (cc := cX7_nextCool) (maxL := 3) (ret := (some .int)) (by decide) rfl ?_
  intro p e s m args below meth c s₁ B hml ht9 hv
  obtain ⟨rfl, hsz, hP, hK, hD0, hN, hZ⟩ := hv
  have hx := B.exec
  have hb := B.bytes
  have hr := B.returns
  have hts := atoms_spec (ws := ws_X7_nextCool) B.pre
  have htb : ∀ w ∈ BIG, w.before _ s = true := fun w h => hts w (bg w h)
  have hown : s.vm.findClass RX7 = some m.cls := findClass_of_methodNamed B.named
  have hlocks := B.notSynchronized
  subst hsz
  have hD := hD0.self (sz := s.heap.size)
  generalize hAe : va_A (wX7 dA oa (zb, zt, zn, zv, zh, zx, zk, zd, ze, zc) ln) s.heap.size = A at hD hZ ⊢
  have hA : ∀ q : Nat, s.heap.size ≤ q → A q := fun q h => by rw [← hAe]; exact Or.inr h
  have hS : va_S A s.heap s.heap [] := va_S.rf
  have hP : va_P (dC, dI) vwCl ([[(oa 0, .inr (11, [.ref (oa 1), .ref (oa 14), .ref (oa 27), .int zv, .ref (oa 40), .ref (oa 146), .int zk, .ref (oa 152), .int zd, .int ze, .int zc]))], wX0 dA (fun k => oa (1 + k)) zb, wX0 dA (fun k => oa (14 + k)) zt, wX0 dA (fun k => oa (27 + k)) zn, wX3 dA (fun k => oa (40 + k)) zh, wX6 dA (fun k => oa (146 + k)) zx, wLN dA (oa 152) ln].flatten) s.heap := hP
  have hD : va_D A ([[(oa 0, .inr (11, [.ref (oa 1), .ref (oa 14), .ref (oa 27), .int zv, .ref (oa 40), .ref (oa 146), .int zk, .ref (oa 152), .int zd, .int ze, .int zc]))], wX0 dA (fun k => oa (1 + k)) zb, wX0 dA (fun k => oa (14 + k)) zt, wX0 dA (fun k => oa (27 + k)) zn, wX3 dA (fun k => oa (40 + k)) zh, wX6 dA (fun k => oa (146 + k)) zx, wLN dA (oa 152) ln].flatten) := hD
  have hl := lv_entry [.ref (oa 0), .int p1] (n := 3) (Nat.le_of_ble_eq_true rfl)
  rw [lg_entry_eq]
  generalize (lg_sl [.ref (oa 0), .int p1] ++ List.replicate (3 - (lg_sl [.ref (oa 0), .int p1]).length) Slot.unset).toArray = ls at hl ⊢
  have hl : lv_has ls 3 [(0, .ref (oa 0)), (1, .int p1)] := hl
  have in_X0 : ∀ w ∈ wsX00, w ∈ ws_X7_nextCool := fun w h => bg _ (inB_X0 w h)
  have in_X7 : ∀ w ∈ wsX70, w ∈ ws_X7_nextCool := fun w h => bg _ (inB_X7 w h)
  rw [f_X7_nextCool] at hf
  refine lv_aload_n hx hb dX7_nextCool_0 rfl (lv_at hl 0 rfl) ?_
  refine lv_iload_n hx hb dX7_nextCool_1 rfl (lv_at hl 1 rfl) ?_
  rcases bE7_inv hf with ⟨r3, c2_zb, c2_zt, c2_zn, c2_zv, c2_zh, c2_zx, c2_zk, c2_zd, c2_ze, c2_zc, eh1, hf⟩ | ⟨E9, S9, eh1, hf⟩
  · refine jx_v (w1 := wX7 dA oa (c2_zb, c2_zt, c2_zn, c2_zv, c2_zh, c2_zx, c2_zk, c2_zd, c2_ze, c2_zc) ln) (vx_runV (As := [.int p1]) (rest := []) ⟨hx, hb, hml, hown, hts⟩ (m_X7_requirePat l hl0 dC dI dA gz oa s.heap.size ln zb zt zn zv zh zx zk zd ze zc p1 (.inl ()) (c2_zb, c2_zt, c2_zn, c2_zv, c2_zh, c2_zx, c2_zk, c2_zd, c2_ze, c2_zc) eh1) (cwV 1 hts (gi_v bg wd_1054 wd_1056 ws_17 wd_1 wd_1057) rfl rfl rfl hd_X7_requirePat ⟨Nat.le_of_ble_eq_true rfl, Nat.le_of_ble_eq_true rfl⟩) ⟨pP_blind, va_recv (ci := 11) (q0 := 0) hK hP rfl rfl, pP_preW hP hD hS hA hK hN hZ⟩ rfl rfl hl.1 rfl (lv_room (Nat.le_of_ble_eq_true rfl)) dX7_nextCool_2 ⟨Nat.le_of_ble_eq_true rfl, Nat.le_of_ble_eq_true rfl⟩) hD hS hA (fun E ce q9 H locs h9 _ _ _ _ _ _ => nomatch h9) (fun H locs h9 hP hD hS => ?_)
    have hP : va_P (dC, dI) vwCl ([[(oa 0, .inr (11, [.ref (oa 1), .ref (oa 14), .ref (oa 27), .int c2_zv, .ref (oa 40), .ref (oa 146), .int c2_zk, .ref (oa 152), .int c2_zd, .int c2_ze, .int c2_zc]))], wX0 dA (fun k => oa (1 + k)) c2_zb, wX0 dA (fun k => oa (14 + k)) c2_zt, wX0 dA (fun k => oa (27 + k)) c2_zn, wX3 dA (fun k => oa (40 + k)) c2_zh, wX6 dA (fun k => oa (146 + k)) c2_zx, wLN dA (oa 152) ln].flatten) H := hP
    have hD : va_D A ([[(oa 0, .inr (11, [.ref (oa 1), .ref (oa 14), .ref (oa 27), .int c2_zv, .ref (oa 40), .ref (oa 146), .int c2_zk, .ref (oa 152), .int c2_zd, .int c2_ze, .int c2_zc]))], wX0 dA (fun k => oa (1 + k)) c2_zb, wX0 dA (fun k => oa (14 + k)) c2_zt, wX0 dA (fun k => oa (27 + k)) c2_zn, wX3 dA (fun k => oa (40 + k)) c2_zh, wX6 dA (fun k => oa (146 + k)) c2_zx, wLN dA (oa 152) ln].flatten) := hD
    refine lv_aload_n hx hb dX7_nextCool_5 rfl (lv_at hl 0 rfl) ?_
    refine va_get (D := (dC, dI)) (ci := 11) (v := .ref (oa 1)) (C := RX7) (T := TX7) (N := 11) hx hb hts in_X7 hown hK hP 0 rfl rfl 0 (by decide) (hts _ (bg _ wd_274)) (fun _ h9 => h9) rfl dX7_nextCool_6 ?_
    refine va_get (D := (dC, dI)) (ci := 4) (v := .ref (oa 7)) (C := RX0) (T := TX0) (N := 4) hx hb hts in_X0 hown hK hP 1 rfl rfl 2 (by decide) (hts _ (bg _ wd_171)) (fun _ h9 => h9) rfl dX7_nextCool_9 ?_
    refine lv_iload_n hx hb dX7_nextCool_12 rfl (lv_at hl 1 rfl) ?_
    obtain ⟨r5, eh4, hf⟩ := bd hf
    refine jr_i (va_runV (As := [.int p1]) (rest := []) ⟨hx, hb, hml, hown, hts⟩ (mt_X4_firstCoolFrom l dC dI dA gz (fun k => oa (7 + k)) H.size c2_zb.2.2.1 p1 r5 eh4) (cwV 1 hts (gi_v bg wd_1104 wd_1105 wd_1106 wd_5 wd_1107) rfl rfl rfl hd_X4_firstCoolFrom ⟨Nat.le_of_ble_eq_true rfl, Nat.le_of_ble_eq_true rfl⟩) ⟨pP_blind, va_recv (ci := 8) (q0 := 7) hK hP rfl rfl, pP_pre hP hD hS hA hK hN hZ [7, 8, 9, 10, 11] (by decide) rfl⟩ rfl rfl hl.1 rfl (lv_room (Nat.le_of_ble_eq_true rfl)) dX7_nextCool_13 ⟨Nat.le_of_ble_eq_true rfl, Nat.le_of_ble_eq_true rfl⟩) hP hD hS hA [7, 8, 9, 10, 11] rfl (fun H locs hP hS => ?_)
    refine lv_istore_n (lv' := [(2, .int r5), (0, .ref (oa 0)), (1, .int p1)]) hx hb dX7_nextCool_16 rfl hl (by decide) rfl (fun ls hl => ?_)
    refine lv_iload_n hx hb dX7_nextCool_17 rfl (lv_at hl 0 rfl) ?_
    refine lv_iconst (v := (-1)) hx hb dX7_nextCool_18 (by decide) ?_
    refine lv_icmp_ne (tgt := 32) hx hb dX7_nextCool_19 (by decide) (fun q6 => ?_) (fun q6 => ?_)
    · have hf := ie q6 hf
      refine lv_iload_n hx hb dX7_nextCool_32 rfl (lv_at hl 0 rfl) ?_
      obtain ⟨e8, e9⟩ := Prod.mk.inj (sm hf)
      refine W.widen (k := 2) (n := 12) (Nat.le_of_ble_eq_true rfl) (Nat.le_of_ble_eq_true rfl) ?_
      exact vx_ret (W.iret hx hb hr (fun t ht hW => ⟨⟨_, (), rfl, e8.symm, by rw [← e9, ht]; exact hP, by rw [← e9]; exact hD⟩, hS.F ht⟩) hS.2.2 dX7_nextCool_33)
    · have hf := it q6 hf
      obtain ⟨e8, e9⟩ := Prod.mk.inj (sm hf)
      exact vn_throwS ns_0 ns_1 ns_2 ns_5 (Y0 := "java/lang/RuntimeException") (r0 := ["java/lang/Exception"]) hx hb hl0 hown (cls := "java/util/NoSuchElementException") (text := "none of the pats is cool") (ik := 119) (is := 230) (ic := 123) (by decide) (by decide) (by decide) (hts _ (bg _ wd_807)) (hts _ (bg _ wd_22)) (hZ.1 25 (by decide)).1 (th_123 htb hN) tg_123 hZ.2.2.2.2.2.1 hZ.2.2.2.2.2.2.1 hS (hl.1.trans hml.symm) dX7_nextCool_22 dX7_nextCool_25 dX7_nextCool_26 dX7_nextCool_28 dX7_nextCool_31 (fun x9 hx9 => absurd (ht9 x9 hx9) id) (Nat.le_of_ble_eq_true rfl) (Nat.le_of_ble_eq_true rfl) (Nat.le_of_ble_eq_true rfl) (Nat.le_of_ble_eq_true rfl) hlocks (fun t hvm hz9 hq9 => by rw [← e9]; exact xq e8.symm hP hD hS hz9 hq9) hS.2.2 (Nat.le_of_ble_eq_true rfl) (Nat.le_of_ble_eq_true rfl)
  · obtain ⟨e8, e9⟩ := Prod.mk.inj hf
    refine jx_v (w1 := wX7 dA oa S9 ln) (vx_runV (As := [.int p1]) (rest := []) ⟨hx, hb, hml, hown, hts⟩ (m_X7_requirePat l hl0 dC dI dA gz oa s.heap.size ln zb zt zn zv zh zx zk zd ze zc p1 (.inr E9) S9 eh1) (cwV 1 hts (gi_v bg wd_1054 wd_1056 ws_17 wd_1 wd_1057) rfl rfl rfl hd_X7_requirePat ⟨Nat.le_of_ble_eq_true rfl, Nat.le_of_ble_eq_true rfl⟩) ⟨pP_blind, va_recv (ci := 11) (q0 := 0) hK hP rfl rfl, pP_preW hP hD hS hA hK hN hZ⟩ rfl rfl hl.1 rfl (lv_room (Nat.le_of_ble_eq_true rfl)) dX7_nextCool_2 ⟨Nat.le_of_ble_eq_true rfl, Nat.le_of_ble_eq_true rfl⟩) hD hS hA (fun E ce q9 H locs h9 hP hD hS h1 h2 h3 => ?_) (fun H locs h9 _ _ _ => nomatch h9)
    cases h9
    exact vx_out (fun x9 hx9 => absurd (ht9 x9 hx9) id) hlocks h1 h2 h3 (fun t ht hvm => by rw [← e9]; exact xp e8.symm hP hD hS ht) hS.2.2 (Nat.le_of_ble_eq_true rfl) (Nat.le_of_ble_eq_true rfl)
/-! X7_minute -/
def f_X7_minute (zb : SX0) (zt : SX0) (zn : SX0) (zv : Int32) (zh : SX3) (zx : SX6) (zk : Int32) (zd : Int32) (ze : Int32) (zc : Int32) : Option (Int32) :=
  some zb.2.2.2.2.1
set_option maxRecDepth 100000 in
set_option maxHeartbeats 4000000 in
theorem m_X7_minute (l : Launch) (dC : Nat → ClassId) (dI : Nat → Nat → Nat) (dA gz : Nat → Nat) (oa : Nat → Nat) (sz : Nat) (ln : LN) (zb : SX0) (zt : SX0) (zn : SX0) (zv : Int32) (zh : SX3) (zx : SX6) (zk : Int32) (zd : Int32) (ze : Int32) (zc : Int32) (rr : Int32) (hf : f_X7_minute zb zt zn zv zh zx zk zd ze zc = some rr) : Met l yX7_minute ws_X7_minute ({ frames := 10, cells := 0, slots := 0, locals := 200 } : Room) (va_Pc [.ref (oa 0)] (pP (dC, dI) dA gz (wX7 dA oa (zb, zt, zn, zv, zh, zx, zk, zd, ze, zc) ln) sz)) (va_Qi (S := Unit) (fun r' _ => r' = rr) (fun _ t => pQ (dC, dI) (va_A (wX7 dA oa (zb, zt, zn, zv, zh, zx, zk, zd, ze, zc) ln) sz) (wX7 dA oa (zb, zt, zn, zv, zh, zx, zk, zd, ze, zc) ln) t) (va_A (wX7 dA oa (zb, zt, zn, zv, zh, zx, zk, zd, ze, zc) ln) sz)) 0 0 (va_A (wX7 dA oa (zb, zt, zn, zv, zh, zx, zk, zd, ze, zc) ln) sz) := by
  refine Met.ofW (cc := cX7_minute) (maxL := 1) (ret := (some .int)) (by decide) rfl ?_
  intro p e s m args below meth c s₁ B hml hv
  obtain ⟨rfl, hsz, hP, hK, hD0, hN, hZ⟩ := hv
  have hx := B.exec
  have hb := B.bytes
  have hr := B.returns
  have hts := atoms_spec (ws := ws_X7_minute) B.pre
  have htb : ∀ w ∈ BIG, w.before _ s = true := fun w h => hts w (bg w h)
  have hown : s.vm.findClass RX7 = some m.cls := findClass_of_methodNamed B.named
  have hlocks := B.notSynchronized
  subst hsz
  have hD := hD0.self (sz := s.heap.size)
  generalize hAe : va_A (wX7 dA oa (zb, zt, zn, zv, zh, zx, zk, zd, ze, zc) ln) s.heap.size = A at hD hZ ⊢
  have hA : ∀ q : Nat, s.heap.size ≤ q → A q := fun q h => by rw [← hAe]; exact Or.inr h
  have hS : va_S A s.heap s.heap [] := va_S.rf
  have hP : va_P (dC, dI) vwCl ([[(oa 0, .inr (11, [.ref (oa 1), .ref (oa 14), .ref (oa 27), .int zv, .ref (oa 40), .ref (oa 146), .int zk, .ref (oa 152), .int zd, .int ze, .int zc]))], wX0 dA (fun k => oa (1 + k)) zb, wX0 dA (fun k => oa (14 + k)) zt, wX0 dA (fun k => oa (27 + k)) zn, wX3 dA (fun k => oa (40 + k)) zh, wX6 dA (fun k => oa (146 + k)) zx, wLN dA (oa 152) ln].flatten) s.heap := hP
  have hD : va_D A ([[(oa 0, .inr (11, [.ref (oa 1), .ref (oa 14), .ref (oa 27), .int zv, .ref (oa 40), .ref (oa 146), .int zk, .ref (oa 152), .int zd, .int ze, .int zc]))], wX0 dA (fun k => oa (1 + k)) zb, wX0 dA (fun k => oa (14 + k)) zt, wX0 dA (fun k => oa (27 + k)) zn, wX3 dA (fun k => oa (40 + k)) zh, wX6 dA (fun k => oa (146 + k)) zx, wLN dA (oa 152) ln].flatten) := hD
  have hl := lv_entry [.ref (oa 0)] (n := 1) (Nat.le_of_ble_eq_true rfl)
  rw [lg_entry_eq]
  generalize (lg_sl [.ref (oa 0)] ++ List.replicate (1 - (lg_sl [.ref (oa 0)]).length) Slot.unset).toArray = ls at hl ⊢
  have hl : lv_has ls 1 [(0, .ref (oa 0))] := hl
  have in_X0 : ∀ w ∈ wsX00, w ∈ ws_X7_minute := fun w h => bg _ (inB_X0 w h)
  have in_X5 : ∀ w ∈ wsX50, w ∈ ws_X7_minute := fun w h => bg _ (inB_X5 w h)
  have in_X7 : ∀ w ∈ wsX70, w ∈ ws_X7_minute := fun w h => bg _ (inB_X7 w h)
  rw [f_X7_minute] at hf
  refine lv_aload_n hx hb dX7_minute_0 rfl (lv_at hl 0 rfl) ?_
  refine va_get (D := (dC, dI)) (ci := 11) (v := .ref (oa 1)) (C := RX7) (T := TX7) (N := 11) hx hb hts in_X7 hown hK hP 0 rfl rfl 0 (by decide) (hts _ (bg _ wd_274)) (fun _ h9 => h9) rfl dX7_minute_1 ?_
  refine va_get (D := (dC, dI)) (ci := 4) (v := .ref (oa 12)) (C := RX0) (T := TX0) (N := 4) hx hb hts in_X0 hown hK hP 1 rfl rfl 3 (by decide) (hts _ (bg _ wd_173)) (fun _ h9 => h9) rfl dX7_minute_4 ?_
  refine va_get (D := (dC, dI)) (ci := 9) (v := .int zb.2.2.2.2.1) (C := RX5) (T := TX5) (N := 4) hx hb hts in_X5 hown hK hP 12 rfl rfl 1 (by decide) (hts _ (bg _ wd_151)) (fun _ h9 => h9) rfl dX7_minute_7 ?_
  exact W.iret hx hb hr (fun t ht hW => ⟨⟨_, (), rfl, sm hf, by rw [ht]; exact hP, hD⟩, hS.F ht⟩) hS.2.2 dX7_minute_10
/-! X7_gradedCount -/
def f_X7_gradedCount (zb : SX0) (zt : SX0) (zn : SX0) (zv : Int32) (zh : SX3) (zx : SX6) (zk : Int32) (zd : Int32) (ze : Int32) (zc : Int32) (p1 : Int32) : Option ((Int32 ⊕ String) × SX7) :=
  (f_X7_isWithin (p1 - 97) 0 4).bind fun r2 =>
  (if r2 = 0 then some (.inr "java/lang/IllegalArgumentException", (zb, zt, zn, zv, zh, zx, zk, zd, ze, zc)) else
  if (p1 - 97) < 0 ∨ 5 ≤ (p1 - 97).toNatClampNeg then none else
  some (.inl (zb.2.2.2.1 (p1 - 97).toNatClampNeg), (zb, zt, zn, zv, zh, zx, zk, zd, ze, zc)))
set_option maxRecDepth 100000 in
set_option maxHeartbeats 4000000 in
theorem m_X7_gradedCount (l : Launch) (hl0 : l.stackTraces = false) (dC : Nat → ClassId) (dI : Nat → Nat → Nat) (dA gz : Nat → Nat) (oa : Nat → Nat) (sz : Nat) (ln : LN) (zb : SX0) (zt : SX0) (zn : SX0) (zv : Int32) (zh : SX3) (zx : SX6) (zk : Int32) (zd : Int32) (ze : Int32) (zc : Int32) (p1 : Int32) (rr : Int32 ⊕ String) (uu : SX7) (hf : f_X7_gradedCount zb zt zn zv zh zx zk zd ze zc p1 = some (rr, uu)) : vx_Met l yX7_gradedCount ws_X7_gradedCount ({ frames := 14, cells := 1, slots := 6, locals := 400 } : Room) (va_Pc [.ref (oa 0), .int p1] (pP (dC, dI) dA gz (wX7 dA oa (zb, zt, zn, zv, zh, zx, zk, zd, ze, zc) ln) sz)) (va_Qi (S := Unit) (fun r' _ => rr = Sum.inl r') (fun _ t => pQ (dC, dI) (va_A (wX7 dA oa (zb, zt, zn, zv, zh, zx, zk, zd, ze, zc) ln) sz) (wX7 dA oa uu ln) t) (va_A (wX7 dA oa (zb, zt, zn, zv, zh, zx, zk, zd, ze, zc) ln) sz)) (XCx (dC, dI) (va_A (wX7 dA oa (zb, zt, zn, zv, zh, zx, zk, zd, ze, zc) ln) sz) rr (wX7 dA oa uu ln)) 1 6 (va_A (wX7 dA oa (zb, zt, zn, zv, zh, zx, zk, zd, ze, zc) ln) sz) := by
  refine vx_ofW (cc := cX7_gradedCount) (maxL := 3) (ret := (some .int)) (by decide) rfl ?_
  intro p e s m args below meth c s₁ B hml ht9 hv
  obtain ⟨rfl, hsz, hP, hK, hD0, hN, hZ⟩ := hv
  have hx := B.exec
  have hb := B.bytes
  have hr := B.returns
  have hts := atoms_spec (ws := ws_X7_gradedCount) B.pre
  have htb : ∀ w ∈ BIG, w.before _ s = true := fun w h => hts w (bg w h)
  have hown : s.vm.findClass RX7 = some m.cls := findClass_of_methodNamed B.named
  have hlocks := B.notSynchronized
  subst hsz
  have hD := hD0.self (sz := s.heap.size)
  generalize hAe : va_A (wX7 dA oa (zb, zt, zn, zv, zh, zx, zk, zd, ze, zc) ln) s.heap.size = A at hD hZ ⊢
  have hA : ∀ q : Nat, s.heap.size ≤ q → A q := fun q h => by rw [← hAe]; exact Or.inr h
  have hS : va_S A s.heap s.heap [] := va_S.rf
  have hP : va_P (dC, dI) vwCl ([[(oa 0, .inr (11, [.ref (oa 1), .ref (oa 14), .ref (oa 27), .int zv, .ref (oa 40), .ref (oa 146), .int zk, .ref (oa 152), .int zd, .int ze, .int zc]))], wX0 dA (fun k => oa (1 + k)) zb, wX0 dA (fun k => oa (14 + k)) zt, wX0 dA (fun k => oa (27 + k)) zn, wX3 dA (fun k => oa (40 + k)) zh, wX6 dA (fun k => oa (146 + k)) zx, wLN dA (oa 152) ln].flatten) s.heap := hP
  have hD : va_D A ([[(oa 0, .inr (11, [.ref (oa 1), .ref (oa 14), .ref (oa 27), .int zv, .ref (oa 40), .ref (oa 146), .int zk, .ref (oa 152), .int zd, .int ze, .int zc]))], wX0 dA (fun k => oa (1 + k)) zb, wX0 dA (fun k => oa (14 + k)) zt, wX0 dA (fun k => oa (27 + k)) zn, wX3 dA (fun k => oa (40 + k)) zh, wX6 dA (fun k => oa (146 + k)) zx, wLN dA (oa 152) ln].flatten) := hD
  have hl := lv_entry [.ref (oa 0), .int p1] (n := 3) (Nat.le_of_ble_eq_true rfl)
  rw [lg_entry_eq]
  generalize (lg_sl [.ref (oa 0), .int p1] ++ List.replicate (3 - (lg_sl [.ref (oa 0), .int p1]).length) Slot.unset).toArray = ls at hl ⊢
  have hl : lv_has ls 3 [(0, .ref (oa 0)), (1, .int p1)] := hl
  have in_X0 : ∀ w ∈ wsX00, w ∈ ws_X7_gradedCount := fun w h => bg _ (inB_X0 w h)
  have in_X5 : ∀ w ∈ wsX50, w ∈ ws_X7_gradedCount := fun w h => bg _ (inB_X5 w h)
  have in_X7 : ∀ w ∈ wsX70, w ∈ ws_X7_gradedCount := fun w h => bg _ (inB_X7 w h)
  rw [f_X7_gradedCount] at hf
  refine lv_iload_n hx hb dX7_gradedCount_0 rfl (lv_at hl 1 rfl) ?_
  refine lv_bipush (v := 97) hx hb dX7_gradedCount_1 (by decide) ?_
  refine lv_isub hx hb dX7_gradedCount_3 ?_
  refine lv_istore_n (lv' := [(2, .int (p1 - 97)), (0, .ref (oa 0)), (1, .int p1)]) hx hb dX7_gradedCount_4 rfl hl (by decide) rfl (fun ls hl => ?_)
  refine lv_iload_n hx hb dX7_gradedCount_5 rfl (lv_at hl 0 rfl) ?_
  refine lv_iconst (v := 0) hx hb dX7_gradedCount_6 (by decide) ?_
  refine lv_iconst (v := 4) hx hb dX7_gradedCount_7 (by decide) ?_
  obtain ⟨r2, eh1, hf⟩ := bd hf
  refine jr_i (va_runS (As := [.int (p1 - 97), .int 0, .int 4]) (rest := []) ⟨hx, hb, hml, hown, hts⟩ (m_X7_isWithin l dC dI dA gz  s.heap.size (p1 - 97) 0 4 r2 eh1) (cwS 3 hts (gi_s bg wd_1012 wd_363 wd_1 wd_364) rfl rfl rfl hd_X7_isWithin ⟨Nat.le_of_ble_eq_true rfl, Nat.le_of_ble_eq_true rfl⟩) ⟨pP_blind, pP_pre hP hD hS hA hK hN hZ [] (by decide) rfl⟩ rfl rfl hl.1 rfl (lv_room (Nat.le_of_ble_eq_true rfl)) dX7_gradedCount_8 ⟨Nat.le_of_ble_eq_true rfl, Nat.le_of_ble_eq_true rfl⟩) hP hD hS hA [] rfl (fun H locs hP hS => ?_)
  refine lv_if_ne (tgt := 24) hx hb dX7_gradedCount_11 (by decide) (fun q3 => ?_) (fun q3 => ?_)
  · have hf := ie q3 hf
    refine lv_aload_n hx hb dX7_gradedCount_24 rfl (lv_at hl 1 rfl) ?_
    refine va_get (D := (dC, dI)) (ci := 11) (v := .ref (oa 1)) (C := RX7) (T := TX7) (N := 11) hx hb hts in_X7 hown hK hP 0 rfl rfl 0 (by decide) (hts _ (bg _ wd_274)) (fun _ h9 => h9) rfl dX7_gradedCount_25 ?_
    refine va_get (D := (dC, dI)) (ci := 4) (v := .ref (oa 12)) (C := RX0) (T := TX0) (N := 4) hx hb hts in_X0 hown hK hP 1 rfl rfl 3 (by decide) (hts _ (bg _ wd_173)) (fun _ h9 => h9) rfl dX7_gradedCount_28 ?_
    refine va_get (D := (dC, dI)) (ci := 9) (v := .ref (oa 13)) (C := RX5) (T := TX5) (N := 4) hx hb hts in_X5 hown hK hP 12 rfl rfl 0 (by decide) (hts _ (bg _ wd_148)) (fun _ h9 => h9) rfl dX7_gradedCount_31 ?_
    refine lv_iload_n hx hb dX7_gradedCount_34 rfl (lv_at hl 0 rfl) ?_
    obtain ⟨z4, hf⟩ := gd hf
    refine va_iald hx hb hK hP 13 1 rfl rfl z4 dX7_gradedCount_35 ?_
    obtain ⟨e8, e9⟩ := Prod.mk.inj (sm hf)
    refine W.widen (k := 1) (n := 6) (Nat.le_of_ble_eq_true rfl) (Nat.le_of_ble_eq_true rfl) ?_
    exact vx_ret (W.iret hx hb hr (fun t ht hW => ⟨⟨_, (), rfl, e8.symm, by rw [← e9, ht]; exact hP, by rw [← e9]; exact hD⟩, hS.F ht⟩) hS.2.2 dX7_gradedCount_36)
  · have hf := it q3 hf
    obtain ⟨e8, e9⟩ := Prod.mk.inj (sm hf)
    exact vx_throwS hx hb hl0 hown (cls := "java/lang/IllegalArgumentException") (text := "there is no such grade") (names := xn) (ik := 244) (is := 246) (ic := 248) (by decide) xn_fit (hts _ (bg _ wd_377)) (hts _ (bg _ wd_18)) (hZ.1 20 (by decide)).1 (th_248 htb hN) tg_248 hZ.2.2.2.2.2.1 hZ.2.2.2.2.2.2.1 hS (hl.1.trans hml.symm) dX7_gradedCount_14 dX7_gradedCount_17 dX7_gradedCount_18 dX7_gradedCount_20 dX7_gradedCount_23 (fun x9 hx9 => absurd (ht9 x9 hx9) id) (Nat.le_of_ble_eq_true rfl) (Nat.le_of_ble_eq_true rfl) (Nat.le_of_ble_eq_true rfl) (Nat.le_of_ble_eq_true rfl) hlocks (fun t hvm hz9 hq9 => by rw [← e9]; exact xq e8.symm hP hD hS hz9 hq9) hS.2.2 (Nat.le_of_ble_eq_true rfl) (Nat.le_of_ble_eq_true rfl)
/-! X7_loadedMass -/
def f_X7_loadedMass (zb : SX0) (zt : SX0) (zn : SX0) (zv : Int32) (zh : SX3) (zx : SX6) (zk : Int32) (zd : Int32) (ze : Int32) (zc : Int32) : Option (Int32) :=
  some zb.2.2.2.2.2.1
set_option maxRecDepth 100000 in
set_option maxHeartbeats 4000000 in
theorem m_X7_loadedMass (l : Launch) (dC : Nat → ClassId) (dI : Nat → Nat → Nat) (dA gz : Nat → Nat) (oa : Nat → Nat) (sz : Nat) (ln : LN) (zb : SX0) (zt : SX0) (zn : SX0) (zv : Int32) (zh : SX3) (zx : SX6) (zk : Int32) (zd : Int32) (ze : Int32) (zc : Int32) (rr : Int32) (hf : f_X7_loadedMass zb zt zn zv zh zx zk zd ze zc = some rr) : Met l yX7_loadedMass ws_X7_loadedMass ({ frames := 10, cells := 0, slots := 0, locals := 200 } : Room) (va_Pc [.ref (oa 0)] (pP (dC, dI) dA gz (wX7 dA oa (zb, zt, zn, zv, zh, zx, zk, zd, ze, zc) ln) sz)) (va_Qi (S := Unit) (fun r' _ => r' = rr) (fun _ t => pQ (dC, dI) (va_A (wX7 dA oa (zb, zt, zn, zv, zh, zx, zk, zd, ze, zc) ln) sz) (wX7 dA oa (zb, zt, zn, zv, zh, zx, zk, zd, ze, zc) ln) t) (va_A (wX7 dA oa (zb, zt, zn, zv, zh, zx, zk, zd, ze, zc) ln) sz)) 0 0 (va_A (wX7 dA oa (zb, zt, zn, zv, zh, zx, zk, zd, ze, zc) ln) sz) := by
  refine Met.ofW (cc := cX7_loadedMass) (maxL := 1) (ret := (some .int)) (by decide) rfl ?_
  intro p e s m args below meth c s₁ B hml hv
  obtain ⟨rfl, hsz, hP, hK, hD0, hN, hZ⟩ := hv
  have hx := B.exec
  have hb := B.bytes
  have hr := B.returns
  have hts := atoms_spec (ws := ws_X7_loadedMass) B.pre
  have htb : ∀ w ∈ BIG, w.before _ s = true := fun w h => hts w (bg w h)
  have hown : s.vm.findClass RX7 = some m.cls := findClass_of_methodNamed B.named
  have hlocks := B.notSynchronized
  subst hsz
  have hD := hD0.self (sz := s.heap.size)
  generalize hAe : va_A (wX7 dA oa (zb, zt, zn, zv, zh, zx, zk, zd, ze, zc) ln) s.heap.size = A at hD hZ ⊢
  have hA : ∀ q : Nat, s.heap.size ≤ q → A q := fun q h => by rw [← hAe]; exact Or.inr h
  have hS : va_S A s.heap s.heap [] := va_S.rf
  have hP : va_P (dC, dI) vwCl ([[(oa 0, .inr (11, [.ref (oa 1), .ref (oa 14), .ref (oa 27), .int zv, .ref (oa 40), .ref (oa 146), .int zk, .ref (oa 152), .int zd, .int ze, .int zc]))], wX0 dA (fun k => oa (1 + k)) zb, wX0 dA (fun k => oa (14 + k)) zt, wX0 dA (fun k => oa (27 + k)) zn, wX3 dA (fun k => oa (40 + k)) zh, wX6 dA (fun k => oa (146 + k)) zx, wLN dA (oa 152) ln].flatten) s.heap := hP
  have hD : va_D A ([[(oa 0, .inr (11, [.ref (oa 1), .ref (oa 14), .ref (oa 27), .int zv, .ref (oa 40), .ref (oa 146), .int zk, .ref (oa 152), .int zd, .int ze, .int zc]))], wX0 dA (fun k => oa (1 + k)) zb, wX0 dA (fun k => oa (14 + k)) zt, wX0 dA (fun k => oa (27 + k)) zn, wX3 dA (fun k => oa (40 + k)) zh, wX6 dA (fun k => oa (146 + k)) zx, wLN dA (oa 152) ln].flatten) := hD
  have hl := lv_entry [.ref (oa 0)] (n := 1) (Nat.le_of_ble_eq_true rfl)
  rw [lg_entry_eq]
  generalize (lg_sl [.ref (oa 0)] ++ List.replicate (1 - (lg_sl [.ref (oa 0)]).length) Slot.unset).toArray = ls at hl ⊢
  have hl : lv_has ls 1 [(0, .ref (oa 0))] := hl
  have in_X0 : ∀ w ∈ wsX00, w ∈ ws_X7_loadedMass := fun w h => bg _ (inB_X0 w h)
  have in_X5 : ∀ w ∈ wsX50, w ∈ ws_X7_loadedMass := fun w h => bg _ (inB_X5 w h)
  have in_X7 : ∀ w ∈ wsX70, w ∈ ws_X7_loadedMass := fun w h => bg _ (inB_X7 w h)
  rw [f_X7_loadedMass] at hf
  refine lv_aload_n hx hb dX7_loadedMass_0 rfl (lv_at hl 0 rfl) ?_
  refine va_get (D := (dC, dI)) (ci := 11) (v := .ref (oa 1)) (C := RX7) (T := TX7) (N := 11) hx hb hts in_X7 hown hK hP 0 rfl rfl 0 (by decide) (hts _ (bg _ wd_274)) (fun _ h9 => h9) rfl dX7_loadedMass_1 ?_
  refine va_get (D := (dC, dI)) (ci := 4) (v := .ref (oa 12)) (C := RX0) (T := TX0) (N := 4) hx hb hts in_X0 hown hK hP 1 rfl rfl 3 (by decide) (hts _ (bg _ wd_173)) (fun _ h9 => h9) rfl dX7_loadedMass_4 ?_
  refine va_get (D := (dC, dI)) (ci := 9) (v := .int zb.2.2.2.2.2.1) (C := RX5) (T := TX5) (N := 4) hx hb hts in_X5 hown hK hP 12 rfl rfl 2 (by decide) (hts _ (bg _ wd_154)) (fun _ h9 => h9) rfl dX7_loadedMass_7 ?_
  exact W.iret hx hb hr (fun t ht hW => ⟨⟨_, (), rfl, sm hf, by rw [ht]; exact hP, hD⟩, hS.F ht⟩) hS.2.2 dX7_loadedMass_10
/-! X7_gradedMass -/
def f_X7_gradedMass (zb : SX0) (zt : SX0) (zn : SX0) (zv : Int32) (zh : SX3) (zx : SX6) (zk : Int32) (zd : Int32) (ze : Int32) (zc : Int32) : Option (Int32) :=
  some zb.2.2.2.2.2.2
set_option maxRecDepth 100000 in
set_option maxHeartbeats 4000000 in
theorem m_X7_gradedMass (l : Launch) (dC : Nat → ClassId) (dI : Nat → Nat → Nat) (dA gz : Nat → Nat) (oa : Nat → Nat) (sz : Nat) (ln : LN) (zb : SX0) (zt : SX0) (zn : SX0) (zv : Int32) (zh : SX3) (zx : SX6) (zk : Int32) (zd : Int32) (ze : Int32) (zc : Int32) (rr : Int32) (hf : f_X7_gradedMass zb zt zn zv zh zx zk zd ze zc = some rr) : Met l yX7_gradedMass ws_X7_gradedMass ({ frames := 10, cells := 0, slots := 0, locals := 200 } : Room) (va_Pc [.ref (oa 0)] (pP (dC, dI) dA gz (wX7 dA oa (zb, zt, zn, zv, zh, zx, zk, zd, ze, zc) ln) sz)) (va_Qi (S := Unit) (fun r' _ => r' = rr) (fun _ t => pQ (dC, dI) (va_A (wX7 dA oa (zb, zt, zn, zv, zh, zx, zk, zd, ze, zc) ln) sz) (wX7 dA oa (zb, zt, zn, zv, zh, zx, zk, zd, ze, zc) ln) t) (va_A (wX7 dA oa (zb, zt, zn, zv, zh, zx, zk, zd, ze, zc) ln) sz)) 0 0 (va_A (wX7 dA oa (zb, zt, zn, zv, zh, zx, zk, zd, ze, zc) ln) sz) := by
  refine Met.ofW (cc := cX7_gradedMass) (maxL := 1) (ret := (some .int)) (by decide) rfl ?_
  intro p e s m args below meth c s₁ B hml hv
  obtain ⟨rfl, hsz, hP, hK, hD0, hN, hZ⟩ := hv
  have hx := B.exec
  have hb := B.bytes
  have hr := B.returns
  have hts := atoms_spec (ws := ws_X7_gradedMass) B.pre
  have htb : ∀ w ∈ BIG, w.before _ s = true := fun w h => hts w (bg w h)
  have hown : s.vm.findClass RX7 = some m.cls := findClass_of_methodNamed B.named
  have hlocks := B.notSynchronized
  subst hsz
  have hD := hD0.self (sz := s.heap.size)
  generalize hAe : va_A (wX7 dA oa (zb, zt, zn, zv, zh, zx, zk, zd, ze, zc) ln) s.heap.size = A at hD hZ ⊢
  have hA : ∀ q : Nat, s.heap.size ≤ q → A q := fun q h => by rw [← hAe]; exact Or.inr h
  have hS : va_S A s.heap s.heap [] := va_S.rf
  have hP : va_P (dC, dI) vwCl ([[(oa 0, .inr (11, [.ref (oa 1), .ref (oa 14), .ref (oa 27), .int zv, .ref (oa 40), .ref (oa 146), .int zk, .ref (oa 152), .int zd, .int ze, .int zc]))], wX0 dA (fun k => oa (1 + k)) zb, wX0 dA (fun k => oa (14 + k)) zt, wX0 dA (fun k => oa (27 + k)) zn, wX3 dA (fun k => oa (40 + k)) zh, wX6 dA (fun k => oa (146 + k)) zx, wLN dA (oa 152) ln].flatten) s.heap := hP
  have hD : va_D A ([[(oa 0, .inr (11, [.ref (oa 1), .ref (oa 14), .ref (oa 27), .int zv, .ref (oa 40), .ref (oa 146), .int zk, .ref (oa 152), .int zd, .int ze, .int zc]))], wX0 dA (fun k => oa (1 + k)) zb, wX0 dA (fun k => oa (14 + k)) zt, wX0 dA (fun k => oa (27 + k)) zn, wX3 dA (fun k => oa (40 + k)) zh, wX6 dA (fun k => oa (146 + k)) zx, wLN dA (oa 152) ln].flatten) := hD
  have hl := lv_entry [.ref (oa 0)] (n := 1) (Nat.le_of_ble_eq_true rfl)
  rw [lg_entry_eq]
  generalize (lg_sl [.ref (oa 0)] ++ List.replicate (1 - (lg_sl [.ref (oa 0)]).length) Slot.unset).toArray = ls at hl ⊢
  have hl : lv_has ls 1 [(0, .ref (oa 0))] := hl
  have in_X0 : ∀ w ∈ wsX00, w ∈ ws_X7_gradedMass := fun w h => bg _ (inB_X0 w h)
  have in_X5 : ∀ w ∈ wsX50, w ∈ ws_X7_gradedMass := fun w h => bg _ (inB_X5 w h)
  have in_X7 : ∀ w ∈ wsX70, w ∈ ws_X7_gradedMass := fun w h => bg _ (inB_X7 w h)
  rw [f_X7_gradedMass] at hf
  refine lv_aload_n hx hb dX7_gradedMass_0 rfl (lv_at hl 0 rfl) ?_
  refine va_get (D := (dC, dI)) (ci := 11) (v := .ref (oa 1)) (C := RX7) (T := TX7) (N := 11) hx hb hts in_X7 hown hK hP 0 rfl rfl 0 (by decide) (hts _ (bg _ wd_274)) (fun _ h9 => h9) rfl dX7_gradedMass_1 ?_
  refine va_get (D := (dC, dI)) (ci := 4) (v := .ref (oa 12)) (C := RX0) (T := TX0) (N := 4) hx hb hts in_X0 hown hK hP 1 rfl rfl 3 (by decide) (hts _ (bg _ wd_173)) (fun _ h9 => h9) rfl dX7_gradedMass_4 ?_
  refine va_get (D := (dC, dI)) (ci := 9) (v := .int zb.2.2.2.2.2.2) (C := RX5) (T := TX5) (N := 4) hx hb hts in_X5 hown hK hP 12 rfl rfl 3 (by decide) (hts _ (bg _ wd_156)) (fun _ h9 => h9) rfl dX7_gradedMass_7 ?_
  exact W.iret hx hb hr (fun t ht hW => ⟨⟨_, (), rfl, sm hf, by rw [ht]; exact hP, hD⟩, hS.F ht⟩) hS.2.2 dX7_gradedMass_10
/-! X7_meanFirmness -/
def f_X7_meanFirmness (zb : SX0) (zt : SX0) (zn : SX0) (zv : Int32) (zh : SX3) (zx : SX6) (zk : Int32) (zd : Int32) (ze : Int32) (zc : Int32) : Option ((UInt64 ⊕ String) × SX7) :=
  (if zb.2.2.1.2.2.2.2 = 0 then some (.inr "java/lang/ArithmeticException", (zb, zt, zn, zv, zh, zx, zk, zd, ze, zc)) else
  (g_X4_firmnessOfAll zb.2.2.1).bind fun r3 =>
  if ¬ ((FP.ddiv (FP.i2d r3) (FP.i2d zb.2.2.1.2.2.2.2)) &&& 0x7fffffffffffffff ≤ 0x7ff0000000000000) then none else
  some (.inl (FP.ddiv (FP.i2d r3) (FP.i2d zb.2.2.1.2.2.2.2)), (zb, zt, zn, zv, zh, zx, zk, zd, ze, zc)))
set_option maxRecDepth 100000 in
set_option maxHeartbeats 4000000 in
theorem m_X7_meanFirmness (l : Launch) (hl0 : l.stackTraces = false) (dC : Nat → ClassId) (dI : Nat → Nat → Nat) (dA gz : Nat → Nat) (oa : Nat → Nat) (sz : Nat) (ln : LN) (zb : SX0) (zt : SX0) (zn : SX0) (zv : Int32) (zh : SX3) (zx : SX6) (zk : Int32) (zd : Int32) (ze : Int32) (zc : Int32) (rr : UInt64 ⊕ String) (uu : SX7) (hf : f_X7_meanFirmness zb zt zn zv zh zx zk zd ze zc = some (rr, uu)) : vx_Met l yX7_meanFirmness ws_X7_meanFirmness ({ frames := 22, cells := 1, slots := 6, locals := 800 } : Room) (va_Pc [.ref (oa 0)] (pP (dC, dI) dA gz (wX7 dA oa (zb, zt, zn, zv, zh, zx, zk, zd, ze, zc) ln) sz)) (va_Qd (S := Unit) (fun r' _ => rr = Sum.inl r') (fun _ t => pQ (dC, dI) (va_A (wX7 dA oa (zb, zt, zn, zv, zh, zx, zk, zd, ze, zc) ln) sz) (wX7 dA oa uu ln) t) (va_A (wX7 dA oa (zb, zt, zn, zv, zh, zx, zk, zd, ze, zc) ln) sz)) (XCx (dC, dI) (va_A (wX7 dA oa (zb, zt, zn, zv, zh, zx, zk, zd, ze, zc) ln) sz) rr (wX7 dA oa uu ln)) 1 6 (va_A (wX7 dA oa (zb, zt, zn, zv, zh, zx, zk, zd, ze, zc) ln) sz) := by
  refine vx_ofW (cc := cX7_meanFirmness) (maxL := 2) (ret := (some .double)) (by decide) rfl ?_
  intro p e s m args below meth c s₁ B hml ht9 hv
  obtain ⟨rfl, hsz, hP, hK, hD0, hN, hZ⟩ := hv
  have hx := B.exec
  have hb := B.bytes
  have hr := B.returns
  have hts := atoms_spec (ws := ws_X7_meanFirmness) B.pre
  have htb : ∀ w ∈ BIG, w.before _ s = true := fun w h => hts w (bg w h)
  have hown : s.vm.findClass RX7 = some m.cls := findClass_of_methodNamed B.named
  have hlocks := B.notSynchronized
  subst hsz
  have hD := hD0.self (sz := s.heap.size)
  generalize hAe : va_A (wX7 dA oa (zb, zt, zn, zv, zh, zx, zk, zd, ze, zc) ln) s.heap.size = A at hD hZ ⊢
  have hA : ∀ q : Nat, s.heap.size ≤ q → A q := fun q h => by rw [← hAe]; exact Or.inr h
  have hS : va_S A s.heap s.heap [] := va_S.rf
  have hP : va_P (dC, dI) vwCl ([[(oa 0, .inr (11, [.ref (oa 1), .ref (oa 14), .ref (oa 27), .int zv, .ref (oa 40), .ref (oa 146), .int zk, .ref (oa 152), .int zd, .int ze, .int zc]))], wX0 dA (fun k => oa (1 + k)) zb, wX0 dA (fun k => oa (14 + k)) zt, wX0 dA (fun k => oa (27 + k)) zn, wX3 dA (fun k => oa (40 + k)) zh, wX6 dA (fun k => oa (146 + k)) zx, wLN dA (oa 152) ln].flatten) s.heap := hP
  have hD : va_D A ([[(oa 0, .inr (11, [.ref (oa 1), .ref (oa 14), .ref (oa 27), .int zv, .ref (oa 40), .ref (oa 146), .int zk, .ref (oa 152), .int zd, .int ze, .int zc]))], wX0 dA (fun k => oa (1 + k)) zb, wX0 dA (fun k => oa (14 + k)) zt, wX0 dA (fun k => oa (27 + k)) zn, wX3 dA (fun k => oa (40 + k)) zh, wX6 dA (fun k => oa (146 + k)) zx, wLN dA (oa 152) ln].flatten) := hD
  have hl := lv_entry [.ref (oa 0)] (n := 2) (Nat.le_of_ble_eq_true rfl)
  rw [lg_entry_eq]
  generalize (lg_sl [.ref (oa 0)] ++ List.replicate (2 - (lg_sl [.ref (oa 0)]).length) Slot.unset).toArray = ls at hl ⊢
  have hl : lv_has ls 2 [(0, .ref (oa 0))] := hl
  have in_X0 : ∀ w ∈ wsX00, w ∈ ws_X7_meanFirmness := fun w h => bg _ (inB_X0 w h)
  have in_X4 : ∀ w ∈ wsX40, w ∈ ws_X7_meanFirmness := fun w h => bg _ (inB_X4 w h)
  have in_X7 : ∀ w ∈ wsX70, w ∈ ws_X7_meanFirmness := fun w h => bg _ (inB_X7 w h)
  rw [f_X7_meanFirmness] at hf
  refine lv_aload_n hx hb dX7_meanFirmness_0 rfl (lv_at hl 0 rfl) ?_
  refine va_get (D := (dC, dI)) (ci := 11) (v := .ref (oa 1)) (C := RX7) (T := TX7) (N := 11) hx hb hts in_X7 hown hK hP 0 rfl rfl 0 (by decide) (hts _ (bg _ wd_274)) (fun _ h9 => h9) rfl dX7_meanFirmness_1 ?_
  refine va_get (D := (dC, dI)) (ci := 4) (v := .ref (oa 7)) (C := RX0) (T := TX0) (N := 4) hx hb hts in_X0 hown hK hP 1 rfl rfl 2 (by decide) (hts _ (bg _ wd_171)) (fun _ h9 => h9) rfl dX7_meanFirmness_4 ?_
  refine va_get (D := (dC, dI)) (ci := 8) (v := .int zb.2.2.1.2.2.2.2) (C := RX4) (T := TX4) (N := 5) hx hb hts in_X4 hown hK hP 7 rfl rfl 4 (by decide) (hts _ (bg _ wd_129)) (fun _ h9 => h9) rfl dX7_meanFirmness_7 ?_
  refine lv_istore_n (lv' := [(1, .int zb.2.2.1.2.2.2.2), (0, .ref (oa 0))]) hx hb dX7_meanFirmness_10 rfl hl (by decide) rfl (fun ls hl => ?_)
  refine lv_iload_n hx hb dX7_meanFirmness_11 rfl (lv_at hl 0 rfl) ?_
  refine lv_if_ne (tgt := 26) hx hb dX7_meanFirmness_12 (by decide) (fun q1 => ?_) (fun q1 => ?_)
  · have hf := ie q1 hf
    refine lv_aload_n hx hb dX7_meanFirmness_26 rfl (lv_at hl 1 rfl) ?_
    refine va_get (D := (dC, dI)) (ci := 11) (v := .ref (oa 1)) (C := RX7) (T := TX7) (N := 11) hx hb hts in_X7 hown hK hP 0 rfl rfl 0 (by decide) (hts _ (bg _ wd_274)) (fun _ h9 => h9) rfl dX7_meanFirmness_27 ?_
    refine va_get (D := (dC, dI)) (ci := 4) (v := .ref (oa 7)) (C := RX0) (T := TX0) (N := 4) hx hb hts in_X0 hown hK hP 1 rfl rfl 2 (by decide) (hts _ (bg _ wd_171)) (fun _ h9 => h9) rfl dX7_meanFirmness_30 ?_
    obtain ⟨r3, eh2, hf⟩ := bd hf
    refine jr_i (va_runV (As := []) (rest := []) ⟨hx, hb, hml, hown, hts⟩ (mt_X4_firmnessOfAll l dC dI dA gz (fun k => oa (7 + k)) s.heap.size zb.2.2.1 r3 eh2) (cwV 0 hts (gi_v bg wd_1397 wd_1398 wd_1399 wd_5 wd_1400) rfl rfl rfl hd_X4_firmnessOfAll ⟨Nat.le_of_ble_eq_true rfl, Nat.le_of_ble_eq_true rfl⟩) ⟨pP_blind, va_recv (ci := 8) (q0 := 7) hK hP rfl rfl, pP_pre hP hD hS hA hK hN hZ [7, 8, 9, 10, 11] (by decide) rfl⟩ rfl rfl hl.1 rfl (lv_room (Nat.le_of_ble_eq_true rfl)) dX7_meanFirmness_33 ⟨Nat.le_of_ble_eq_true rfl, Nat.le_of_ble_eq_true rfl⟩) hP hD hS hA [7, 8, 9, 10, 11] rfl (fun H locs hP hS => ?_)
    refine lv_i2d hx hb dX7_meanFirmness_36 ?_
    refine lv_iload_n hx hb dX7_meanFirmness_37 rfl (lv_at hl 0 rfl) ?_
    refine lv_i2d hx hb dX7_meanFirmness_38 ?_
    obtain ⟨z4, hf⟩ := gd hf
    have z4 := Decidable.not_not.mp z4
    refine lv_ddiv hx hb dX7_meanFirmness_39 z4 ?_
    obtain ⟨e8, e9⟩ := Prod.mk.inj (sm hf)
    refine W.widen (k := 1) (n := 6) (Nat.le_of_ble_eq_true rfl) (Nat.le_of_ble_eq_true rfl) ?_
    exact vx_ret (W.dret hx hb hr (fun t ht hW => ⟨⟨_, (), rfl, e8.symm, by rw [← e9, ht]; exact hP, by rw [← e9]; exact hD⟩, hS.F ht⟩) hS.2.2 dX7_meanFirmness_40)
  · have hf := it q1 hf
    obtain ⟨e8, e9⟩ := Prod.mk.inj (sm hf)
    exact vx_throwSW hx hb hl0 hown (cls := "java/lang/ArithmeticException") (text := "there are no pats") (names := xn) (ik := 258) (is := 260) (ic := 262) (by decide) xn_fit (hts _ (bg _ wd_1394)) (hts _ (bg _ wd_31)) (hZ.1 32 (by decide)).1 (th_262 htb hN) tg_262 hZ.2.2.2.2.2.1 hZ.2.2.2.2.2.2.1 hS (hl.1.trans hml.symm) dX7_meanFirmness_15 dX7_meanFirmness_18 dX7_meanFirmness_19 dX7_meanFirmness_22 dX7_meanFirmness_25 (fun x9 hx9 => absurd (ht9 x9 hx9) id) (Nat.le_of_ble_eq_true rfl) (Nat.le_of_ble_eq_true rfl) (Nat.le_of_ble_eq_true rfl) (Nat.le_of_ble_eq_true rfl) hlocks (fun t hvm hz9 hq9 => by rw [← e9]; exact xq e8.symm hP hD hS hz9 hq9) hS.2.2 (Nat.le_of_ble_eq_true rfl) (Nat.le_of_ble_eq_true rfl)
/-! X7_coolShare -/
def f_X7_coolShare (zb : SX0) (zt : SX0) (zn : SX0) (zv : Int32) (zh : SX3) (zx : SX6) (zk : Int32) (zd : Int32) (ze : Int32) (zc : Int32) : Option ((UInt32 ⊕ String) × SX7) :=
  (if zb.2.2.1.2.2.2.2 = 0 then some (.inr "java/lang/ArithmeticException", (zb, zt, zn, zv, zh, zx, zk, zd, ze, zc)) else
  (g_X4_coolOnes zb.2.2.1).bind fun r3 =>
  if ¬ ((FP.fdiv (FP.i2f r3) (FP.i2f zb.2.2.1.2.2.2.2)) &&& 0x7fffffff ≤ 0x7f800000) then none else
  some (.inl (FP.fdiv (FP.i2f r3) (FP.i2f zb.2.2.1.2.2.2.2)), (zb, zt, zn, zv, zh, zx, zk, zd, ze, zc)))
set_option maxRecDepth 100000 in
set_option maxHeartbeats 4000000 in
theorem m_X7_coolShare (l : Launch) (hl0 : l.stackTraces = false) (dC : Nat → ClassId) (dI : Nat → Nat → Nat) (dA gz : Nat → Nat) (oa : Nat → Nat) (sz : Nat) (ln : LN) (zb : SX0) (zt : SX0) (zn : SX0) (zv : Int32) (zh : SX3) (zx : SX6) (zk : Int32) (zd : Int32) (ze : Int32) (zc : Int32) (rr : UInt32 ⊕ String) (uu : SX7) (hf : f_X7_coolShare zb zt zn zv zh zx zk zd ze zc = some (rr, uu)) : vx_Met l yX7_coolShare ws_X7_coolShare ({ frames := 22, cells := 1, slots := 6, locals := 800 } : Room) (va_Pc [.ref (oa 0)] (pP (dC, dI) dA gz (wX7 dA oa (zb, zt, zn, zv, zh, zx, zk, zd, ze, zc) ln) sz)) (va_Qf (S := Unit) (fun r' _ => rr = Sum.inl r') (fun _ t => pQ (dC, dI) (va_A (wX7 dA oa (zb, zt, zn, zv, zh, zx, zk, zd, ze, zc) ln) sz) (wX7 dA oa uu ln) t) (va_A (wX7 dA oa (zb, zt, zn, zv, zh, zx, zk, zd, ze, zc) ln) sz)) (XCx (dC, dI) (va_A (wX7 dA oa (zb, zt, zn, zv, zh, zx, zk, zd, ze, zc) ln) sz) rr (wX7 dA oa uu ln)) 1 6 (va_A (wX7 dA oa (zb, zt, zn, zv, zh, zx, zk, zd, ze, zc) ln) sz) := by
  refine vx_ofW (cc := cX7_coolShare) (maxL := 2) (ret := (some .float)) (by decide) rfl ?_
  intro p e s m args below meth c s₁ B hml ht9 hv
  obtain ⟨rfl, hsz, hP, hK, hD0, hN, hZ⟩ := hv
  have hx := B.exec
  have hb := B.bytes
  have hr := B.returns
  have hts := atoms_spec (ws := ws_X7_coolShare) B.pre
  have htb : ∀ w ∈ BIG, w.before _ s = true := fun w h => hts w (bg w h)
  have hown : s.vm.findClass RX7 = some m.cls := findClass_of_methodNamed B.named
  have hlocks := B.notSynchronized
  subst hsz
  have hD := hD0.self (sz := s.heap.size)
  generalize hAe : va_A (wX7 dA oa (zb, zt, zn, zv, zh, zx, zk, zd, ze, zc) ln) s.heap.size = A at hD hZ ⊢
  have hA : ∀ q : Nat, s.heap.size ≤ q → A q := fun q h => by rw [← hAe]; exact Or.inr h
  have hS : va_S A s.heap s.heap [] := va_S.rf
  have hP : va_P (dC, dI) vwCl ([[(oa 0, .inr (11, [.ref (oa 1), .ref (oa 14), .ref (oa 27), .int zv, .ref (oa 40), .ref (oa 146), .int zk, .ref (oa 152), .int zd, .int ze, .int zc]))], wX0 dA (fun k => oa (1 + k)) zb, wX0 dA (fun k => oa (14 + k)) zt, wX0 dA (fun k => oa (27 + k)) zn, wX3 dA (fun k => oa (40 + k)) zh, wX6 dA (fun k => oa (146 + k)) zx, wLN dA (oa 152) ln].flatten) s.heap := hP
  have hD : va_D A ([[(oa 0, .inr (11, [.ref (oa 1), .ref (oa 14), .ref (oa 27), .int zv, .ref (oa 40), .ref (oa 146), .int zk, .ref (oa 152), .int zd, .int ze, .int zc]))], wX0 dA (fun k => oa (1 + k)) zb, wX0 dA (fun k => oa (14 + k)) zt, wX0 dA (fun k => oa (27 + k)) zn, wX3 dA (fun k => oa (40 + k)) zh, wX6 dA (fun k => oa (146 + k)) zx, wLN dA (oa 152) ln].flatten) := hD
  have hl := lv_entry [.ref (oa 0)] (n := 2) (Nat.le_of_ble_eq_true rfl)
  rw [lg_entry_eq]
  generalize (lg_sl [.ref (oa 0)] ++ List.replicate (2 - (lg_sl [.ref (oa 0)]).length) Slot.unset).toArray = ls at hl ⊢
  have hl : lv_has ls 2 [(0, .ref (oa 0))] := hl
  have in_X0 : ∀ w ∈ wsX00, w ∈ ws_X7_coolShare := fun w h => bg _ (inB_X0 w h)
  have in_X4 : ∀ w ∈ wsX40, w ∈ ws_X7_coolShare := fun w h => bg _ (inB_X4 w h)
  have in_X7 : ∀ w ∈ wsX70, w ∈ ws_X7_coolShare := fun w h => bg _ (inB_X7 w h)
  rw [f_X7_coolShare] at hf
  refine lv_aload_n hx hb dX7_coolShare_0 rfl (lv_at hl 0 rfl) ?_
  refine va_get (D := (dC, dI)) (ci := 11) (v := .ref (oa 1)) (C := RX7) (T := TX7) (N := 11) hx hb hts in_X7 hown hK hP 0 rfl rfl 0 (by decide) (hts _ (bg _ wd_274)) (fun _ h9 => h9) rfl dX7_coolShare_1 ?_
  refine va_get (D := (dC, dI)) (ci := 4) (v := .ref (oa 7)) (C := RX0) (T := TX0) (N := 4) hx hb hts in_X0 hown hK hP 1 rfl rfl 2 (by decide) (hts _ (bg _ wd_171)) (fun _ h9 => h9) rfl dX7_coolShare_4 ?_
  refine va_get (D := (dC, dI)) (ci := 8) (v := .int zb.2.2.1.2.2.2.2) (C := RX4) (T := TX4) (N := 5) hx hb hts in_X4 hown hK hP 7 rfl rfl 4 (by decide) (hts _ (bg _ wd_129)) (fun _ h9 => h9) rfl dX7_coolShare_7 ?_
  refine lv_istore_n (lv' := [(1, .int zb.2.2.1.2.2.2.2), (0, .ref (oa 0))]) hx hb dX7_coolShare_10 rfl hl (by decide) rfl (fun ls hl => ?_)
  refine lv_iload_n hx hb dX7_coolShare_11 rfl (lv_at hl 0 rfl) ?_
  refine lv_if_ne (tgt := 26) hx hb dX7_coolShare_12 (by decide) (fun q1 => ?_) (fun q1 => ?_)
  · have hf := ie q1 hf
    refine lv_aload_n hx hb dX7_coolShare_26 rfl (lv_at hl 1 rfl) ?_
    refine va_get (D := (dC, dI)) (ci := 11) (v := .ref (oa 1)) (C := RX7) (T := TX7) (N := 11) hx hb hts in_X7 hown hK hP 0 rfl rfl 0 (by decide) (hts _ (bg _ wd_274)) (fun _ h9 => h9) rfl dX7_coolShare_27 ?_
    refine va_get (D := (dC, dI)) (ci := 4) (v := .ref (oa 7)) (C := RX0) (T := TX0) (N := 4) hx hb hts in_X0 hown hK hP 1 rfl rfl 2 (by decide) (hts _ (bg _ wd_171)) (fun _ h9 => h9) rfl dX7_coolShare_30 ?_
    obtain ⟨r3, eh2, hf⟩ := bd hf
    refine jr_i (va_runV (As := []) (rest := []) ⟨hx, hb, hml, hown, hts⟩ (mt_X4_coolOnes l dC dI dA gz (fun k => oa (7 + k)) s.heap.size zb.2.2.1 r3 eh2) (cwV 0 hts (gi_v bg wd_1409 wd_1410 wd_1411 wd_5 wd_1412) rfl rfl rfl hd_X4_coolOnes ⟨Nat.le_of_ble_eq_true rfl, Nat.le_of_ble_eq_true rfl⟩) ⟨pP_blind, va_recv (ci := 8) (q0 := 7) hK hP rfl rfl, pP_pre hP hD hS hA hK hN hZ [7, 8, 9, 10, 11] (by decide) rfl⟩ rfl rfl hl.1 rfl (lv_room (Nat.le_of_ble_eq_true rfl)) dX7_coolShare_33 ⟨Nat.le_of_ble_eq_true rfl, Nat.le_of_ble_eq_true rfl⟩) hP hD hS hA [7, 8, 9, 10, 11] rfl (fun H locs hP hS => ?_)
    refine lv_i2f hx hb dX7_coolShare_36 ?_
    refine lv_iload_n hx hb dX7_coolShare_37 rfl (lv_at hl 0 rfl) ?_
    refine lv_i2f hx hb dX7_coolShare_38 ?_
    obtain ⟨z4, hf⟩ := gd hf
    have z4 := Decidable.not_not.mp z4
    refine lv_fdiv hx hb dX7_coolShare_39 z4 ?_
    obtain ⟨e8, e9⟩ := Prod.mk.inj (sm hf)
    refine W.widen (k := 1) (n := 6) (Nat.le_of_ble_eq_true rfl) (Nat.le_of_ble_eq_true rfl) ?_
    exact vx_ret (W.fret hx hb hr (fun t ht hW => ⟨⟨_, (), rfl, e8.symm, by rw [← e9, ht]; exact hP, by rw [← e9]; exact hD⟩, hS.F ht⟩) hS.2.2 dX7_coolShare_40)
  · have hf := it q1 hf
    obtain ⟨e8, e9⟩ := Prod.mk.inj (sm hf)
    exact vx_throwSW hx hb hl0 hown (cls := "java/lang/ArithmeticException") (text := "there are no pats") (names := xn) (ik := 258) (is := 260) (ic := 262) (by decide) xn_fit (hts _ (bg _ wd_1394)) (hts _ (bg _ wd_31)) (hZ.1 32 (by decide)).1 (th_262 htb hN) tg_262 hZ.2.2.2.2.2.1 hZ.2.2.2.2.2.2.1 hS (hl.1.trans hml.symm) dX7_coolShare_15 dX7_coolShare_18 dX7_coolShare_19 dX7_coolShare_22 dX7_coolShare_25 (fun x9 hx9 => absurd (ht9 x9 hx9) id) (Nat.le_of_ble_eq_true rfl) (Nat.le_of_ble_eq_true rfl) (Nat.le_of_ble_eq_true rfl) (Nat.le_of_ble_eq_true rfl) hlocks (fun t hvm hz9 hq9 => by rw [← e9]; exact xq e8.symm hP hD hS hz9 hq9) hS.2.2 (Nat.le_of_ble_eq_true rfl) (Nat.le_of_ble_eq_true rfl)
/-! X7_denial -/
def f_X7_denial (zb : SX0) (zt : SX0) (zn : SX0) (zv : Int32) (zh : SX3) (zx : SX6) (zk : Int32) (zd : Int32) (ze : Int32) (zc : Int32) : Option ((Int32 ⊕ String) × SX7) :=
  bE7 (f_X7_requireDenial zb zt zn zv zh zx zk zd ze zc) fun _ c2_zb c2_zt c2_zn c2_zv c2_zh c2_zx c2_zk c2_zd c2_ze c2_zc =>
  some (.inl c2_zd, (c2_zb, c2_zt, c2_zn, c2_zv, c2_zh, c2_zx, c2_zk, c2_zd, c2_ze, c2_zc))
set_option maxRecDepth 100000 in
set_option maxHeartbeats 4000000 in
theorem m_X7_denial (l : Launch) (hl0 : l.stackTraces = false) (dC : Nat → ClassId) (dI : Nat → Nat → Nat) (dA gz : Nat → Nat) (oa : Nat → Nat) (sz : Nat) (ln : LN) (zb : SX0) (zt : SX0) (zn : SX0) (zv : Int32) (zh : SX3) (zx : SX6) (zk : Int32) (zd : Int32) (ze : Int32) (zc : Int32) (rr : Int32 ⊕ String) (uu : SX7) (hf : f_X7_denial zb zt zn zv zh zx zk zd ze zc = some (rr, uu)) : vx_Met l yX7_denial ws_X7_denial ({ frames := 14, cells := 1, slots := 6, locals := 400 } : Room) (va_Pc [.ref (oa 0)] (pP (dC, dI) dA gz (wX7 dA oa (zb, zt, zn, zv, zh, zx, zk, zd, ze, zc) ln) sz)) (va_Qi (S := Unit) (fun r' _ => rr = Sum.inl r') (fun _ t => pQ (dC, dI) (va_A (wX7 dA oa (zb, zt, zn, zv, zh, zx, zk, zd, ze, zc) ln) sz) (wX7 dA oa uu ln) t) (va_A (wX7 dA oa (zb, zt, zn, zv, zh, zx, zk, zd, ze, zc) ln) sz)) (XCx (dC, dI) (va_A (wX7 dA oa (zb, zt, zn, zv, zh, zx, zk, zd, ze, zc) ln) sz) rr (wX7 dA oa uu ln)) 1 6 (va_A (wX7 dA oa (zb, zt, zn, zv, zh, zx, zk, zd, ze, zc) ln) sz) := by
  refine vx_ofW (cc := cX7_denial) (maxL := 1) (ret := (some .int)) (by decide) rfl ?_
  intro p e s m args below meth c s₁ B hml ht9 hv
  obtain ⟨rfl, hsz, hP, hK, hD0, hN, hZ⟩ := hv
  have hx := B.exec
  have hb := B.bytes
  have hr := B.returns
  have hts := atoms_spec (ws := ws_X7_denial) B.pre
  have htb : ∀ w ∈ BIG, w.before _ s = true := fun w h => hts w (bg w h)
  have hown : s.vm.findClass RX7 = some m.cls := findClass_of_methodNamed B.named
  have hlocks := B.notSynchronized
  subst hsz
  have hD := hD0.self (sz := s.heap.size)
  generalize hAe : va_A (wX7 dA oa (zb, zt, zn, zv, zh, zx, zk, zd, ze, zc) ln) s.heap.size = A at hD hZ ⊢
  have hA : ∀ q : Nat, s.heap.size ≤ q → A q := fun q h => by rw [← hAe]; exact Or.inr h
  have hS : va_S A s.heap s.heap [] := va_S.rf
  have hP : va_P (dC, dI) vwCl ([[(oa 0, .inr (11, [.ref (oa 1), .ref (oa 14), .ref (oa 27), .int zv, .ref (oa 40), .ref (oa 146), .int zk, .ref (oa 152), .int zd, .int ze, .int zc]))], wX0 dA (fun k => oa (1 + k)) zb, wX0 dA (fun k => oa (14 + k)) zt, wX0 dA (fun k => oa (27 + k)) zn, wX3 dA (fun k => oa (40 + k)) zh, wX6 dA (fun k => oa (146 + k)) zx, wLN dA (oa 152) ln].flatten) s.heap := hP
  have hD : va_D A ([[(oa 0, .inr (11, [.ref (oa 1), .ref (oa 14), .ref (oa 27), .int zv, .ref (oa 40), .ref (oa 146), .int zk, .ref (oa 152), .int zd, .int ze, .int zc]))], wX0 dA (fun k => oa (1 + k)) zb, wX0 dA (fun k => oa (14 + k)) zt, wX0 dA (fun k => oa (27 + k)) zn, wX3 dA (fun k => oa (40 + k)) zh, wX6 dA (fun k => oa (146 + k)) zx, wLN dA (oa 152) ln].flatten) := hD
  have hl := lv_entry [.ref (oa 0)] (n := 1) (Nat.le_of_ble_eq_true rfl)
  rw [lg_entry_eq]
  generalize (lg_sl [.ref (oa 0)] ++ List.replicate (1 - (lg_sl [.ref (oa 0)]).length) Slot.unset).toArray = ls at hl ⊢
  have hl : lv_has ls 1 [(0, .ref (oa 0))] := hl
  have in_X7 : ∀ w ∈ wsX70, w ∈ ws_X7_denial := fun w h => bg _ (inB_X7 w h)
  rw [f_X7_denial] at hf
  refine lv_aload_n hx hb dX7_denial_0 rfl (lv_at hl 0 rfl) ?_
  rcases bE7_inv hf with ⟨r3, c2_zb, c2_zt, c2_zn, c2_zv, c2_zh, c2_zx, c2_zk, c2_zd, c2_ze, c2_zc, eh1, hf⟩ | ⟨E9, S9, eh1, hf⟩
  · refine jx_v (w1 := wX7 dA oa (c2_zb, c2_zt, c2_zn, c2_zv, c2_zh, c2_zx, c2_zk, c2_zd, c2_ze, c2_zc) ln) (vx_runV (As := []) (rest := []) ⟨hx, hb, hml, hown, hts⟩ (m_X7_requireDenial l hl0 dC dI dA gz oa s.heap.size ln zb zt zn zv zh zx zk zd ze zc  (.inl ()) (c2_zb, c2_zt, c2_zn, c2_zv, c2_zh, c2_zx, c2_zk, c2_zd, c2_ze, c2_zc) eh1) (cwV 0 hts (gi_v bg wd_803 wd_805 ws_14 wd_1 wd_806) rfl rfl rfl hd_X7_requireDenial ⟨Nat.le_of_ble_eq_true rfl, Nat.le_of_ble_eq_true rfl⟩) ⟨pP_blind, va_recv (ci := 11) (q0 := 0) hK hP rfl rfl, pP_preW hP hD hS hA hK hN hZ⟩ rfl rfl hl.1 rfl (lv_room (Nat.le_of_ble_eq_true rfl)) dX7_denial_1 ⟨Nat.le_of_ble_eq_true rfl, Nat.le_of_ble_eq_true rfl⟩) hD hS hA (fun E ce q9 H locs h9 _ _ _ _ _ _ => nomatch h9) (fun H locs h9 hP hD hS => ?_)
    have hP : va_P (dC, dI) vwCl ([[(oa 0, .inr (11, [.ref (oa 1), .ref (oa 14), .ref (oa 27), .int c2_zv, .ref (oa 40), .ref (oa 146), .int c2_zk, .ref (oa 152), .int c2_zd, .int c2_ze, .int c2_zc]))], wX0 dA (fun k => oa (1 + k)) c2_zb, wX0 dA (fun k => oa (14 + k)) c2_zt, wX0 dA (fun k => oa (27 + k)) c2_zn, wX3 dA (fun k => oa (40 + k)) c2_zh, wX6 dA (fun k => oa (146 + k)) c2_zx, wLN dA (oa 152) ln].flatten) H := hP
    have hD : va_D A ([[(oa 0, .inr (11, [.ref (oa 1), .ref (oa 14), .ref (oa 27), .int c2_zv, .ref (oa 40), .ref (oa 146), .int c2_zk, .ref (oa 152), .int c2_zd, .int c2_ze, .int c2_zc]))], wX0 dA (fun k => oa (1 + k)) c2_zb, wX0 dA (fun k => oa (14 + k)) c2_zt, wX0 dA (fun k => oa (27 + k)) c2_zn, wX3 dA (fun k => oa (40 + k)) c2_zh, wX6 dA (fun k => oa (146 + k)) c2_zx, wLN dA (oa 152) ln].flatten) := hD
    refine lv_aload_n hx hb dX7_denial_4 rfl (lv_at hl 0 rfl) ?_
    refine va_get (D := (dC, dI)) (ci := 11) (v := .int c2_zd) (C := RX7) (T := TX7) (N := 11) hx hb hts in_X7 hown hK hP 0 rfl rfl 8 (by decide) (hts _ (bg _ wd_282)) (fun _ h9 => h9) rfl dX7_denial_5 ?_
    obtain ⟨e8, e9⟩ := Prod.mk.inj (sm hf)
    exact vx_ret (W.iret hx hb hr (fun t ht hW => ⟨⟨_, (), rfl, e8.symm, by rw [← e9, ht]; exact hP, by rw [← e9]; exact hD⟩, hS.F ht⟩) hS.2.2 dX7_denial_8)
  · obtain ⟨e8, e9⟩ := Prod.mk.inj hf
    refine jx_v (w1 := wX7 dA oa S9 ln) (vx_runV (As := []) (rest := []) ⟨hx, hb, hml, hown, hts⟩ (m_X7_requireDenial l hl0 dC dI dA gz oa s.heap.size ln zb zt zn zv zh zx zk zd ze zc  (.inr E9) S9 eh1) (cwV 0 hts (gi_v bg wd_803 wd_805 ws_14 wd_1 wd_806) rfl rfl rfl hd_X7_requireDenial ⟨Nat.le_of_ble_eq_true rfl, Nat.le_of_ble_eq_true rfl⟩) ⟨pP_blind, va_recv (ci := 11) (q0 := 0) hK hP rfl rfl, pP_preW hP hD hS hA hK hN hZ⟩ rfl rfl hl.1 rfl (lv_room (Nat.le_of_ble_eq_true rfl)) dX7_denial_1 ⟨Nat.le_of_ble_eq_true rfl, Nat.le_of_ble_eq_true rfl⟩) hD hS hA (fun E ce q9 H locs h9 hP hD hS h1 h2 h3 => ?_) (fun H locs h9 _ _ _ => nomatch h9)
    cases h9
    exact vx_out (fun x9 hx9 => absurd (ht9 x9 hx9) id) hlocks h1 h2 h3 (fun t ht hvm => by rw [← e9]; exact xp e8.symm hP hD hS ht) hS.2.2 (Nat.le_of_ble_eq_true rfl) (Nat.le_of_ble_eq_true rfl)
/-! X7_denialCause -/
def f_X7_denialCause (zb : SX0) (zt : SX0) (zn : SX0) (zv : Int32) (zh : SX3) (zx : SX6) (zk : Int32) (zd : Int32) (ze : Int32) (zc : Int32) : Option ((Int32 ⊕ String) × SX7) :=
  (if zc = 0 then some (.inr "java/util/NoSuchElementException", (zb, zt, zn, zv, zh, zx, zk, zd, ze, zc)) else
  some (.inl zc, (zb, zt, zn, zv, zh, zx, zk, zd, ze, zc)))
set_option maxRecDepth 100000 in
set_option maxHeartbeats 4000000 in
theorem m_X7_denialCause (l : Launch) (hl0 : l.stackTraces = false) (dC : Nat → ClassId) (dI : Nat → Nat → Nat) (dA gz : Nat → Nat) (oa : Nat → Nat) (sz : Nat) (ln : LN) (zb : SX0) (zt : SX0) (zn : SX0) (zv : Int32) (zh : SX3) (zx : SX6) (zk : Int32) (zd : Int32) (ze : Int32) (zc : Int32) (rr : Int32 ⊕ String) (uu : SX7) (hf : f_X7_denialCause zb zt zn zv zh zx zk zd ze zc = some (rr, uu)) : vx_Met l yX7_denialCause ws_X7_denialCause ({ frames := 10, cells := 1, slots := 6, locals := 200 } : Room) (va_Pc [.ref (oa 0)] (pP (dC, dI) dA gz (wX7 dA oa (zb, zt, zn, zv, zh, zx, zk, zd, ze, zc) ln) sz)) (va_Qi (S := Unit) (fun r' _ => rr = Sum.inl r') (fun _ t => pQ (dC, dI) (va_A (wX7 dA oa (zb, zt, zn, zv, zh, zx, zk, zd, ze, zc) ln) sz) (wX7 dA oa uu ln) t) (va_A (wX7 dA oa (zb, zt, zn, zv, zh, zx, zk, zd, ze, zc) ln) sz)) (XCx (dC, dI) (va_A (wX7 dA oa (zb, zt, zn, zv, zh, zx, zk, zd, ze, zc) ln) sz) rr (wX7 dA oa uu ln)) 1 6 (va_A (wX7 dA oa (zb, zt, zn, zv, zh, zx, zk, zd, ze, zc) ln) sz) := by
  refine vx_ofW (cc := cX7_denialCause) (maxL := 1) (ret := (some .int)) (by decide) rfl ?_
  intro p e s m args below meth c s₁ B hml ht9 hv
  obtain ⟨rfl, hsz, hP, hK, hD0, hN, hZ⟩ := hv
  have hx := B.exec
  have hb := B.bytes
  have hr := B.returns
  have hts := atoms_spec (ws := ws_X7_denialCause) B.pre
  have htb : ∀ w ∈ BIG, w.before _ s = true := fun w h => hts w (bg w h)
  have hown : s.vm.findClass RX7 = some m.cls := findClass_of_methodNamed B.named
  have hlocks := B.notSynchronized
  subst hsz
  have hD := hD0.self (sz := s.heap.size)
  generalize hAe : va_A (wX7 dA oa (zb, zt, zn, zv, zh, zx, zk, zd, ze, zc) ln) s.heap.size = A at hD hZ ⊢
  have hA : ∀ q : Nat, s.heap.size ≤ q → A q := fun q h => by rw [← hAe]; exact Or.inr h
  have hS : va_S A s.heap s.heap [] := va_S.rf
  have hP : va_P (dC, dI) vwCl ([[(oa 0, .inr (11, [.ref (oa 1), .ref (oa 14), .ref (oa 27), .int zv, .ref (oa 40), .ref (oa 146), .int zk, .ref (oa 152), .int zd, .int ze, .int zc]))], wX0 dA (fun k => oa (1 + k)) zb, wX0 dA (fun k => oa (14 + k)) zt, wX0 dA (fun k => oa (27 + k)) zn, wX3 dA (fun k => oa (40 + k)) zh, wX6 dA (fun k => oa (146 + k)) zx, wLN dA (oa 152) ln].flatten) s.heap := hP
  have hD : va_D A ([[(oa 0, .inr (11, [.ref (oa 1), .ref (oa 14), .ref (oa 27), .int zv, .ref (oa 40), .ref (oa 146), .int zk, .ref (oa 152), .int zd, .int ze, .int zc]))], wX0 dA (fun k => oa (1 + k)) zb, wX0 dA (fun k => oa (14 + k)) zt, wX0 dA (fun k => oa (27 + k)) zn, wX3 dA (fun k => oa (40 + k)) zh, wX6 dA (fun k => oa (146 + k)) zx, wLN dA (oa 152) ln].flatten) := hD
  have hl := lv_entry [.ref (oa 0)] (n := 1) (Nat.le_of_ble_eq_true rfl)
  rw [lg_entry_eq]
  generalize (lg_sl [.ref (oa 0)] ++ List.replicate (1 - (lg_sl [.ref (oa 0)]).length) Slot.unset).toArray = ls at hl ⊢
  have hl : lv_has ls 1 [(0, .ref (oa 0))] := hl
  have in_X7 : ∀ w ∈ wsX70, w ∈ ws_X7_denialCause := fun w h => bg _ (inB_X7 w h)
  rw [f_X7_denialCause] at hf
  refine lv_aload_n hx hb dX7_denialCause_0 rfl (lv_at hl 0 rfl) ?_
  refine va_get (D := (dC, dI)) (ci := 11) (v := .int zc) (C := RX7) (T := TX7) (N := 11) hx hb hts in_X7 hown hK hP 0 rfl rfl 10 (by decide) (hts _ (bg _ wd_284)) (fun _ h9 => h9) rfl dX7_denialCause_1 ?_
  refine lv_if_ne (tgt := 18) hx hb dX7_denialCause_4 (by decide) (fun q1 => ?_) (fun q1 => ?_)
  · have hf := ie q1 hf
    refine lv_aload_n hx hb dX7_denialCause_18 rfl (lv_at hl 0 rfl) ?_
    refine va_get (D := (dC, dI)) (ci := 11) (v := .int zc) (C := RX7) (T := TX7) (N := 11) hx hb hts in_X7 hown hK hP 0 rfl rfl 10 (by decide) (hts _ (bg _ wd_284)) (fun _ h9 => h9) rfl dX7_denialCause_19 ?_
    obtain ⟨e8, e9⟩ := Prod.mk.inj (sm hf)
    refine W.widen (k := 1) (n := 6) (Nat.le_of_ble_eq_true rfl) (Nat.le_of_ble_eq_true rfl) ?_
    exact vx_ret (W.iret hx hb hr (fun t ht hW => ⟨⟨_, (), rfl, e8.symm, by rw [← e9, ht]; exact hP, by rw [← e9]; exact hD⟩, hS.F ht⟩) hS.2.2 dX7_denialCause_22)
  · have hf := it q1 hf
    obtain ⟨e8, e9⟩ := Prod.mk.inj (sm hf)
    exact vn_throwSW ns_0 ns_1 ns_2 ns_5 (Y0 := "java/lang/RuntimeException") (r0 := ["java/lang/Exception"]) hx hb hl0 hown (cls := "java/util/NoSuchElementException") (text := "there is no denial, or the latest has no cause") (ik := 119) (is := 352) (ic := 123) (by decide) (by decide) (by decide) (hts _ (bg _ wd_807)) (hts _ (bg _ wd_22)) (hZ.1 14 (by decide)).1 (th_123 htb hN) tg_123 hZ.2.2.2.2.2.1 hZ.2.2.2.2.2.2.1 hS (hl.1.trans hml.symm) dX7_denialCause_7 dX7_denialCause_10 dX7_denialCause_11 dX7_denialCause_14 dX7_denialCause_17 (fun x9 hx9 => absurd (ht9 x9 hx9) id) (Nat.le_of_ble_eq_true rfl) (Nat.le_of_ble_eq_true rfl) (Nat.le_of_ble_eq_true rfl) (Nat.le_of_ble_eq_true rfl) hlocks (fun t hvm hz9 hq9 => by rw [← e9]; exact xq e8.symm hP hD hS hz9 hq9) hS.2.2 (Nat.le_of_ble_eq_true rfl) (Nat.le_of_ble_eq_true rfl)
/-! X7_undoCount -/
def f_X7_undoCount (zb : SX0) (zt : SX0) (zn : SX0) (zv : Int32) (zh : SX3) (zx : SX6) (zk : Int32) (zd : Int32) (ze : Int32) (zc : Int32) : Option (Int32) :=
  some zh.2.1
set_option maxRecDepth 100000 in
set_option maxHeartbeats 4000000 in
theorem m_X7_undoCount (l : Launch) (dC : Nat → ClassId) (dI : Nat → Nat → Nat) (dA gz : Nat → Nat) (oa : Nat → Nat) (sz : Nat) (ln : LN) (zb : SX0) (zt : SX0) (zn : SX0) (zv : Int32) (zh : SX3) (zx : SX6) (zk : Int32) (zd : Int32) (ze : Int32) (zc : Int32) (rr : Int32) (hf : f_X7_undoCount zb zt zn zv zh zx zk zd ze zc = some rr) : Met l yX7_undoCount ws_X7_undoCount ({ frames := 10, cells := 0, slots := 0, locals := 200 } : Room) (va_Pc [.ref (oa 0)] (pP (dC, dI) dA gz (wX7 dA oa (zb, zt, zn, zv, zh, zx, zk, zd, ze, zc) ln) sz)) (va_Qi (S := Unit) (fun r' _ => r' = rr) (fun _ t => pQ (dC, dI) (va_A (wX7 dA oa (zb, zt, zn, zv, zh, zx, zk, zd, ze, zc) ln) sz) (wX7 dA oa (zb, zt, zn, zv, zh, zx, zk, zd, ze, zc) ln) t) (va_A (wX7 dA oa (zb, zt, zn, zv, zh, zx, zk, zd, ze, zc) ln) sz)) 0 0 (va_A (wX7 dA oa (zb, zt, zn, zv, zh, zx, zk, zd, ze, zc) ln) sz) := by
  refine Met.ofW (cc := cX7_undoCount) (maxL := 1) (ret := (some .int)) (by decide) rfl ?_
  intro p e s m args below meth c s₁ B hml hv
  obtain ⟨rfl, hsz, hP, hK, hD0, hN, hZ⟩ := hv
  have hx := B.exec
  have hb := B.bytes
  have hr := B.returns
  have hts := atoms_spec (ws := ws_X7_undoCount) B.pre
  have htb : ∀ w ∈ BIG, w.before _ s = true := fun w h => hts w (bg w h)
  have hown : s.vm.findClass RX7 = some m.cls := findClass_of_methodNamed B.named
  have hlocks := B.notSynchronized
  subst hsz
  have hD := hD0.self (sz := s.heap.size)
  generalize hAe : va_A (wX7 dA oa (zb, zt, zn, zv, zh, zx, zk, zd, ze, zc) ln) s.heap.size = A at hD hZ ⊢
  have hA : ∀ q : Nat, s.heap.size ≤ q → A q := fun q h => by rw [← hAe]; exact Or.inr h
  have hS : va_S A s.heap s.heap [] := va_S.rf
  have hP : va_P (dC, dI) vwCl ([[(oa 0, .inr (11, [.ref (oa 1), .ref (oa 14), .ref (oa 27), .int zv, .ref (oa 40), .ref (oa 146), .int zk, .ref (oa 152), .int zd, .int ze, .int zc]))], wX0 dA (fun k => oa (1 + k)) zb, wX0 dA (fun k => oa (14 + k)) zt, wX0 dA (fun k => oa (27 + k)) zn, wX3 dA (fun k => oa (40 + k)) zh, wX6 dA (fun k => oa (146 + k)) zx, wLN dA (oa 152) ln].flatten) s.heap := hP
  have hD : va_D A ([[(oa 0, .inr (11, [.ref (oa 1), .ref (oa 14), .ref (oa 27), .int zv, .ref (oa 40), .ref (oa 146), .int zk, .ref (oa 152), .int zd, .int ze, .int zc]))], wX0 dA (fun k => oa (1 + k)) zb, wX0 dA (fun k => oa (14 + k)) zt, wX0 dA (fun k => oa (27 + k)) zn, wX3 dA (fun k => oa (40 + k)) zh, wX6 dA (fun k => oa (146 + k)) zx, wLN dA (oa 152) ln].flatten) := hD
  have hl := lv_entry [.ref (oa 0)] (n := 1) (Nat.le_of_ble_eq_true rfl)
  rw [lg_entry_eq]
  generalize (lg_sl [.ref (oa 0)] ++ List.replicate (1 - (lg_sl [.ref (oa 0)]).length) Slot.unset).toArray = ls at hl ⊢
  have hl : lv_has ls 1 [(0, .ref (oa 0))] := hl
  have in_X3 : ∀ w ∈ wsX30, w ∈ ws_X7_undoCount := fun w h => bg _ (inB_X3 w h)
  have in_X7 : ∀ w ∈ wsX70, w ∈ ws_X7_undoCount := fun w h => bg _ (inB_X7 w h)
  rw [f_X7_undoCount] at hf
  refine lv_aload_n hx hb dX7_undoCount_0 rfl (lv_at hl 0 rfl) ?_
  refine va_get (D := (dC, dI)) (ci := 11) (v := .ref (oa 40)) (C := RX7) (T := TX7) (N := 11) hx hb hts in_X7 hown hK hP 0 rfl rfl 4 (by decide) (hts _ (bg _ wd_278)) (fun _ h9 => h9) rfl dX7_undoCount_1 ?_
  refine va_get (D := (dC, dI)) (ci := 7) (v := .int zh.2.1) (C := RX3) (T := TX3) (N := 3) hx hb hts in_X3 hown hK hP 40 rfl rfl 2 (by decide) (hts _ (bg _ wd_195)) (fun _ h9 => h9) rfl dX7_undoCount_4 ?_
  exact W.iret hx hb hr (fun t ht hW => ⟨⟨_, (), rfl, sm hf, by rw [ht]; exact hP, hD⟩, hS.F ht⟩) hS.2.2 dX7_undoCount_7
