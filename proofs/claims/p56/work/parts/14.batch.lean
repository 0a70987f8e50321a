/-! X0_copyFrom -/
def f_X0_copyFrom (a0 : Ar) (a1 : Ar) (a2 : Ar) (a3 : Int32) (a4 : Int32) (a5 : Int32) (a6 : Int32) (a7 : Int32) (a8 : Int32) (a9 : Int32) (a10 : Int32) (a11 : Ar) (a12 : Ar) (a13 : Ar) (a14 : Ar) (a15 : Int32) (a16 : Ar) (a17 : Int32) (a18 : Int32) (a19 : Int32) (b0 : Ar) (b1 : Ar) (b2 : Ar) (b3 : Int32) (b4 : Int32) (b5 : Int32) (b6 : Int32) (b7 : Int32) (b8 : Int32) (b9 : Int32) (b10 : Int32) (b11 : Ar) (b12 : Ar) (b13 : Ar) (b14 : Ar) (b15 : Int32) (b16 : Ar) (b17 : Int32) (b18 : Int32) (b19 : Int32) : Option (SX0) :=
  bX2 (f_X2_copyFrom a0 a1 a2 a3 a4 a5 a6 b0 b1 b2 b3 b4 b5 b6) fun c2_0 c2_1 c2_2 c2_3 c2_4 c2_5 c2_6 =>
  bX1 (f_X1_copyFrom a7 a8 a9 a10 b7 b8 b9 b10) fun c4_0 c4_1 c4_2 c4_3 =>
  bX4 (f_X4_copyFrom a11 a12 a13 a14 a15 b11 b12 b13 b14 b15) fun c6_0 c6_1 c6_2 c6_3 c6_4 =>
  bX5 (f_X5_copyFrom a16 a17 a18 a19 b16 b17 b18 b19) fun c8_0 c8_1 c8_2 c8_3 =>
  some ((c2_0, c2_1, c2_2, c2_3, c2_4, c2_5, c2_6), (c4_0, c4_1, c4_2, c4_3), (c6_0, c6_1, c6_2, c6_3, c6_4), (c8_0, c8_1, c8_2, c8_3))
set_option maxRecDepth 100000 in
set_option maxHeartbeats 4000000 in
theorem m_X0_copyFrom (l : Launch) (dC : Nat → ClassId) (dI : Nat → Nat → Nat) (dA gz : Nat → Nat) (oa : Nat → Nat) (ob : Nat → Nat) (sz : Nat) (a0 : Ar) (a1 : Ar) (a2 : Ar) (a3 : Int32) (a4 : Int32) (a5 : Int32) (a6 : Int32) (a7 : Int32) (a8 : Int32) (a9 : Int32) (a10 : Int32) (a11 : Ar) (a12 : Ar) (a13 : Ar) (a14 : Ar) (a15 : Int32) (a16 : Ar) (a17 : Int32) (a18 : Int32) (a19 : Int32) (b0 : Ar) (b1 : Ar) (b2 : Ar) (b3 : Int32) (b4 : Int32) (b5 : Int32) (b6 : Int32) (b7 : Int32) (b8 : Int32) (b9 : Int32) (b10 : Int32) (b11 : Ar) (b12 : Ar) (b13 : Ar) (b14 : Ar) (b15 : Int32) (b16 : Ar) (b17 : Int32) (b18 : Int32) (b19 : Int32) (uu : SX0) (hf : f_X0_copyFrom a0 a1 a2 a3 a4 a5 a6 a7 a8 a9 a10 a11 a12 a13 a14 a15 a16 a17 a18 a19 b0 b1 b2 b3 b4 b5 b6 b7 b8 b9 b10 b11 b12 b13 b14 b15 b16 b17 b18 b19 = some uu) : Met l yX0_copyFrom ws_X0_copyFrom ({ frames := 14, cells := 0, slots := 0, locals := 400 } : Room) (va_Pc [.ref (oa 0), .ref (ob 0)] (pP (dC, dI) dA gz (wX0 dA oa ((a0, a1, a2, a3, a4, a5, a6), (a7, a8, a9, a10), (a11, a12, a13, a14, a15), (a16, a17, a18, a19)) ++ wX0 dA ob ((b0, b1, b2, b3, b4, b5, b6), (b7, b8, b9, b10), (b11, b12, b13, b14, b15), (b16, b17, b18, b19))) sz)) (va_Qv (S := Unit) (fun _ => True) (fun _ t => pQ (dC, dI) (va_A (wX0 dA oa ((a0, a1, a2, a3, a4, a5, a6), (a7, a8, a9, a10), (a11, a12, a13, a14, a15), (a16, a17, a18, a19)) ++ wX0 dA ob ((b0, b1, b2, b3, b4, b5, b6), (b7, b8, b9, b10), (b11, b12, b13, b14, b15), (b16, b17, b18, b19))) sz) (wX0 dA oa uu ++ wX0 dA ob ((b0, b1, b2, b3, b4, b5, b6), (b7, b8, b9, b10), (b11, b12, b13, b14, b15), (b16, b17, b18, b19))) t) (va_A (wX0 dA oa ((a0, a1, a2, a3, a4, a5, a6), (a7, a8, a9, a10), (a11, a12, a13, a14, a15), (a16, a17, a18, a19)) ++ wX0 dA ob ((b0, b1, b2, b3, b4, b5, b6), (b7, b8, b9, b10), (b11, b12, b13, b14, b15), (b16, b17, b18, b19))) sz)) 0 0 (va_A (wX0 dA oa ((a0, a1, a2, a3, a4, a5, a6), (a7, a8, a9, a10), (a11, a12, a13, a14, a15), (a16, a17, a18, a19)) ++ wX0 dA ob ((b0, b1, b2, b3, b4, b5, b6), (b7, b8, b9, b10), (b11, b12, b13, b14, b15), (b16, b17, b18, b19))) sz) := by
  refine Met.ofW (cc := cX0_copyFrom) (maxL := 2) (ret := none) (by decide) rfl ?_
  intro p e s m args below meth c s₁ B hml hv
  obtain ⟨rfl, hsz, hP, hK, hD0, hN, hZ⟩ := hv
  have hx := B.exec
  have hb := B.bytes
  have hr := B.returns
  have hts := atoms_spec (ws := ws_X0_copyFrom) B.pre
  have hown : s.vm.findClass RX0 = some m.cls := findClass_of_methodNamed B.named
  have hlocks := B.notSynchronized
  subst hsz
  have hD := hD0.self (sz := s.heap.size)
  generalize hAe : va_A (wX0 dA oa ((a0, a1, a2, a3, a4, a5, a6), (a7, a8, a9, a10), (a11, a12, a13, a14, a15), (a16, a17, a18, a19)) ++ wX0 dA ob ((b0, b1, b2, b3, b4, b5, b6), (b7, b8, b9, b10), (b11, b12, b13, b14, b15), (b16, b17, b18, b19))) s.heap.size = A at hD hZ ⊢
  have hA : ∀ q : Nat, s.heap.size ≤ q → A q := fun q h => by rw [← hAe]; exact Or.inr h
  have hS : va_S A s.heap s.heap [] := va_S.rf
  have hP : va_P (dC, dI) vwCl [(oa 0, .inr (4, [.ref (oa 1), .ref (oa 5), .ref (oa 6), .ref (oa 11)])), (oa 1, .inr (6, [.ref (oa 2), .ref (oa 3), .ref (oa 4), .int a3, .int a4, .int a5, .int a6])), (oa 2, .inl (dA 0, 8, .inl a0)), (oa 3, .inl (dA 1, 8, .inl a1)), (oa 4, .inl (dA 1, 8, .inl a2)), (oa 5, .inr (5, [.int a7, .int a8, .int a9, .int a10])), (oa 6, .inr (8, [.ref (oa 7), .ref (oa 8), .ref (oa 9), .ref (oa 10), .int a15])), (oa 7, .inl (dA 1, 12, .inl a11)), (oa 8, .inl (dA 1, 12, .inl a12)), (oa 9, .inl (dA 1, 12, .inl a13)), (oa 10, .inl (dA 1, 12, .inl a14)), (oa 11, .inr (9, [.ref (oa 12), .int a17, .int a18, .int a19])), (oa 12, .inl (dA 1, 5, .inl a16)), (ob 0, .inr (4, [.ref (ob 1), .ref (ob 5), .ref (ob 6), .ref (ob 11)])), (ob 1, .inr (6, [.ref (ob 2), .ref (ob 3), .ref (ob 4), .int b3, .int b4, .int b5, .int b6])), (ob 2, .inl (dA 0, 8, .inl b0)), (ob 3, .inl (dA 1, 8, .inl b1)), (ob 4, .inl (dA 1, 8, .inl b2)), (ob 5, .inr (5, [.int b7, .int b8, .int b9, .int b10])), (ob 6, .inr (8, [.ref (ob 7), .ref (ob 8), .ref (ob 9), .ref (ob 10), .int b15])), (ob 7, .inl (dA 1, 12, .inl b11)), (ob 8, .inl (dA 1, 12, .inl b12)), (ob 9, .inl (dA 1, 12, .inl b13)), (ob 10, .inl (dA 1, 12, .inl b14)), (ob 11, .inr (9, [.ref (ob 12), .int b17, .int b18, .int b19])), (ob 12, .inl (dA 1, 5, .inl b16))] s.heap := hP
  have hD : va_D A [(oa 0, .inr (4, [.ref (oa 1), .ref (oa 5), .ref (oa 6), .ref (oa 11)])), (oa 1, .inr (6, [.ref (oa 2), .ref (oa 3), .ref (oa 4), .int a3, .int a4, .int a5, .int a6])), (oa 2, .inl (dA 0, 8, .inl a0)), (oa 3, .inl (dA 1, 8, .inl a1)), (oa 4, .inl (dA 1, 8, .inl a2)), (oa 5, .inr (5, [.int a7, .int a8, .int a9, .int a10])), (oa 6, .inr (8, [.ref (oa 7), .ref (oa 8), .ref (oa 9), .ref (oa 10), .int a15])), (oa 7, .inl (dA 1, 12, .inl a11)), (oa 8, .inl (dA 1, 12, .inl a12)), (oa 9, .inl (dA 1, 12, .inl a13)), (oa 10, .inl (dA 1, 12, .inl a14)), (oa 11, .inr (9, [.ref (oa 12), .int a17, .int a18, .int a19])), (oa 12, .inl (dA 1, 5, .inl a16)), (ob 0, .inr (4, [.ref (ob 1), .ref (ob 5), .ref (ob 6), .ref (ob 11)])), (ob 1, .inr (6, [.ref (ob 2), .ref (ob 3), .ref (ob 4), .int b3, .int b4, .int b5, .int b6])), (ob 2, .inl (dA 0, 8, .inl b0)), (ob 3, .inl (dA 1, 8, .inl b1)), (ob 4, .inl (dA 1, 8, .inl b2)), (ob 5, .inr (5, [.int b7, .int b8, .int b9, .int b10])), (ob 6, .inr (8, [.ref (ob 7), .ref (ob 8), .ref (ob 9), .ref (ob 10), .int b15])), (ob 7, .inl (dA 1, 12, .inl b11)), (ob 8, .inl (dA 1, 12, .inl b12)), (ob 9, .inl (dA 1, 12, .inl b13)), (ob 10, .inl (dA 1, 12, .inl b14)), (ob 11, .inr (9, [.ref (ob 12), .int b17, .int b18, .int b19])), (ob 12, .inl (dA 1, 5, .inl b16))] := hD
  have hl := lv_entry [.ref (oa 0), .ref (ob 0)] (n := 2) (Nat.le_of_ble_eq_true rfl)
  rw [lg_entry_eq]
  generalize (lg_sl [.ref (oa 0), .ref (ob 0)] ++ List.replicate (2 - (lg_sl [.ref (oa 0), .ref (ob 0)]).length) Slot.unset).toArray = ls at hl ⊢
  have hl : lv_has ls 2 [(0, .ref (oa 0)), (1, .ref (ob 0))] := hl
  have in_X0 : ∀ w ∈ wsX00, w ∈ ws_X0_copyFrom := fun w h => bg _ (inB_X0 w h)
  rw [f_X0_copyFrom] at hf
  refine lv_aload_n hx hb dX0_copyFrom_0 rfl (lv_at hl 0 rfl) ?_
  refine va_get (D := (dC, dI)) (ci := 4) (v := .ref (oa 1)) (C := RX0) (T := TX0) (N := 4) hx hb hts in_X0 hown hK hP 0 rfl rfl 0 (by decide) (hts _ (bg _ wd_166)) (fun _ h9 => h9) rfl dX0_copyFrom_1 ?_
  refine lv_aload_n hx hb dX0_copyFrom_4 rfl (lv_at hl 1 rfl) ?_
  refine va_get (D := (dC, dI)) (ci := 4) (v := .ref (ob 1)) (C := RX0) (T := TX0) (N := 4) hx hb hts in_X0 hown hK hP 13 rfl rfl 0 (by decide) (hts _ (bg _ wd_166)) (fun _ h9 => h9) rfl dX0_copyFrom_5 ?_
  obtain ⟨c2_0, c2_1, c2_2, c2_3, c2_4, c2_5, c2_6, e1, hf⟩ := bX2_inv hf
  refine jn_v (va_runV (As := [.ref (ob 1)]) (rest := []) ⟨hx, hb, hml, hown, hts⟩ (m_X2_copyFrom l dC dI dA gz (fun k => oa (1 + k)) (fun k => ob (1 + k)) s.heap.size a0 a1 a2 a3 a4 a5 a6 b0 b1 b2 b3 b4 b5 b6 (c2_0, c2_1, c2_2, c2_3, c2_4, c2_5, c2_6) e1) (cwV 1 hts (gi_v bg wd_320 wd_321 wd_322 wd_3 wd_323) rfl rfl rfl hd_X2_copyFrom ⟨Nat.le_of_ble_eq_true rfl, Nat.le_of_ble_eq_true rfl⟩) ⟨pP_blind, va_recv (ci := 6) (q0 := 1) hK hP rfl rfl, pP_pre hP hD hS hA hK hN hZ [1, 2, 3, 4, 14, 15, 16, 17] (by decide) rfl⟩ rfl rfl hl.1 rfl (lv_room (Nat.le_of_ble_eq_true rfl)) dX0_copyFrom_8 ⟨Nat.le_of_ble_eq_true rfl, Nat.le_of_ble_eq_true rfl⟩) hP hD hS hA [1, 2, 3, 4, 14, 15, 16, 17] rfl rfl (fun H locs hP hD hS => ?_)
  have hP : va_P (dC, dI) vwCl [(oa 0, .inr (4, [.ref (oa 1), .ref (oa 5), .ref (oa 6), .ref (oa 11)])), (oa 1, .inr (6, [.ref (oa 2), .ref (oa 3), .ref (oa 4), .int c2_3, .int c2_4, .int c2_5, .int c2_6])), (oa 2, .inl (dA 0, 8, .inl c2_0)), (oa 3, .inl (dA 1, 8, .inl c2_1)), (oa 4, .inl (dA 1, 8, .inl c2_2)), (oa 5, .inr (5, [.int a7, .int a8, .int a9, .int a10])), (oa 6, .inr (8, [.ref (oa 7), .ref (oa 8), .ref (oa 9), .ref (oa 10), .int a15])), (oa 7, .inl (dA 1, 12, .inl a11)), (oa 8, .inl (dA 1, 12, .inl a12)), (oa 9, .inl (dA 1, 12, .inl a13)), (oa 10, .inl (dA 1, 12, .inl a14)), (oa 11, .inr (9, [.ref (oa 12), .int a17, .int a18, .int a19])), (oa 12, .inl (dA 1, 5, .inl a16)), (ob 0, .inr (4, [.ref (ob 1), .ref (ob 5), .ref (ob 6), .ref (ob 11)])), (ob 1, .inr (6, [.ref (ob 2), .ref (ob 3), .ref (ob 4), .int b3, .int b4, .int b5, .int b6])), (ob 2, .inl (dA 0, 8, .inl b0)), (ob 3, .inl (dA 1, 8, .inl b1)), (ob 4, .inl (dA 1, 8, .inl b2)), (ob 5, .inr (5, [.int b7, .int b8, .int b9, .int b10])), (ob 6, .inr (8, [.ref (ob 7), .ref (ob 8), .ref (ob 9), .ref (ob 10), .int b15])), (ob 7, .inl (dA 1, 12, .inl b11)), (ob 8, .inl (dA 1, 12, .inl b12)), (ob 9, .inl (dA 1, 12, .inl b13)), (ob 10, .inl (dA 1, 12, .inl b14)), (ob 11, .inr (9, [.ref (ob 12), .int b17, .int b18, .int b19])), (ob 12, .inl (dA 1, 5, .inl b16))] H := hP
  have hD : va_D A [(oa 0, .inr (4, [.ref (oa 1), .ref (oa 5), .ref (oa 6), .ref (oa 11)])), (oa 1, .inr (6, [.ref (oa 2), .ref (oa 3), .ref (oa 4), .int c2_3, .int c2_4, .int c2_5, .int c2_6])), (oa 2, .inl (dA 0, 8, .inl c2_0)), (oa 3, .inl (dA 1, 8, .inl c2_1)), (oa 4, .inl (dA 1, 8, .inl c2_2)), (oa 5, .inr (5, [.int a7, .int a8, .int a9, .int a10])), (oa 6, .inr (8, [.ref (oa 7), .ref (oa 8), .ref (oa 9), .ref (oa 10), .int a15])), (oa 7, .inl (dA 1, 12, .inl a11)), (oa 8, .inl (dA 1, 12, .inl a12)), (oa 9, .inl (dA 1, 12, .inl a13)), (oa 10, .inl (dA 1, 12, .inl a14)), (oa 11, .inr (9, [.ref (oa 12), .int a17, .int a18, .int a19])), (oa 12, .inl (dA 1, 5, .inl a16)), (ob 0, .inr (4, [.ref (ob 1), .ref (ob 5), .ref (ob 6), .ref (ob 11)])), (ob 1, .inr (6, [.ref (ob 2), .ref (ob 3), .ref (ob 4), .int b3, .int b4, .int b5, .int b6])), (ob 2, .inl (dA 0, 8, .inl b0)), (ob 3, .inl (dA 1, 8, .inl b1)), (ob 4, .inl (dA 1, 8, .inl b2)), (ob 5, .inr (5, [.int b7, .int b8, .int b9, .int b10])), (ob 6, .inr (8, [.ref (ob 7), .ref (ob 8), .ref (ob 9), .ref (ob 10), .int b15])), (ob 7, .inl (dA 1, 12, .inl b11)), (ob 8, .inl (dA 1, 12, .inl b12)), (ob 9, .inl (dA 1, 12, .inl b13)), (ob 10, .inl (dA 1, 12, .inl b14)), (ob 11, .inr (9, [.ref (ob 12), .int b17, .int b18, .int b19])), (ob 12, .inl (dA 1, 5, .inl b16))] := hD
  refine lv_aload_n hx hb dX0_copyFrom_11 rfl (lv_at hl 0 rfl) ?_
  refine va_get (D := (dC, dI)) (ci := 4) (v := .ref (oa 5)) (C := RX0) (T := TX0) (N := 4) hx hb hts in_X0 hown hK hP 0 rfl rfl 1 (by decide) (hts _ (bg _ wd_168)) (fun _ h9 => h9) rfl dX0_copyFrom_12 ?_
  refine lv_aload_n hx hb dX0_copyFrom_15 rfl (lv_at hl 1 rfl) ?_
  refine va_get (D := (dC, dI)) (ci := 4) (v := .ref (ob 5)) (C := RX0) (T := TX0) (N := 4) hx hb hts in_X0 hown hK hP 13 rfl rfl 1 (by decide) (hts _ (bg _ wd_168)) (fun _ h9 => h9) rfl dX0_copyFrom_16 ?_
  obtain ⟨c4_0, c4_1, c4_2, c4_3, e3, hf⟩ := bX1_inv hf
  refine jn_v (va_runV (As := [.ref (ob 5)]) (rest := []) ⟨hx, hb, hml, hown, hts⟩ (m_X1_copyFrom l dC dI dA gz (fun k => oa (5 + k)) (fun k => ob (5 + k)) H.size a7 a8 a9 a10 b7 b8 b9 b10 (c4_0, c4_1, c4_2, c4_3) e3) (cwV 1 hts (gi_v bg wd_327 wd_328 wd_329 wd_4 wd_330) rfl rfl rfl hd_X1_copyFrom ⟨Nat.le_of_ble_eq_true rfl, Nat.le_of_ble_eq_true rfl⟩) ⟨pP_blind, va_recv (ci := 5) (q0 := 5) hK hP rfl rfl, pP_pre hP hD hS hA hK hN hZ [5, 18] (by decide) rfl⟩ rfl rfl hl.1 rfl (lv_room (Nat.le_of_ble_eq_true rfl)) dX0_copyFrom_19 ⟨Nat.le_of_ble_eq_true rfl, Nat.le_of_ble_eq_true rfl⟩) hP hD hS hA [5, 18] rfl rfl (fun H locs hP hD hS => ?_)
  have hP : va_P (dC, dI) vwCl [(oa 0, .inr (4, [.ref (oa 1), .ref (oa 5), .ref (oa 6), .ref (oa 11)])), (oa 1, .inr (6, [.ref (oa 2), .ref (oa 3), .ref (oa 4), .int c2_3, .int c2_4, .int c2_5, .int c2_6])), (oa 2, .inl (dA 0, 8, .inl c2_0)), (oa 3, .inl (dA 1, 8, .inl c2_1)), (oa 4, .inl (dA 1, 8, .inl c2_2)), (oa 5, .inr (5, [.int c4_0, .int c4_1, .int c4_2, .int c4_3])), (oa 6, .inr (8, [.ref (oa 7), .ref (oa 8), .ref (oa 9), .ref (oa 10), .int a15])), (oa 7, .inl (dA 1, 12, .inl a11)), (oa 8, .inl (dA 1, 12, .inl a12)), (oa 9, .inl (dA 1, 12, .inl a13)), (oa 10, .inl (dA 1, 12, .inl a14)), (oa 11, .inr (9, [.ref (oa 12), .int a17, .int a18, .int a19])), (oa 12, .inl (dA 1, 5, .inl a16)), (ob 0, .inr (4, [.ref (ob 1), .ref (ob 5), .ref (ob 6), .ref (ob 11)])), (ob 1, .inr (6, [.ref (ob 2), .ref (ob 3), .ref (ob 4), .int b3, .int b4, .int b5, .int b6])), (ob 2, .inl (dA 0, 8, .inl b0)), (ob 3, .inl (dA 1, 8, .inl b1)), (ob 4, .inl (dA 1, 8, .inl b2)), (ob 5, .inr (5, [.int b7, .int b8, .int b9, .int b10])), (ob 6, .inr (8, [.ref (ob 7), .ref (ob 8), .ref (ob 9), .ref (ob 10), .int b15])), (ob 7, .inl (dA 1, 12, .inl b11)), (ob 8, .inl (dA 1, 12, .inl b12)), (ob 9, .inl (dA 1, 12, .inl b13)), (ob 10, .inl (dA 1, 12, .inl b14)), (ob 11, .inr (9, [.ref (ob 12), .int b17, .int b18, .int b19])), (ob 12, .inl (dA 1, 5, .inl b16))] H := hP
  have hD : va_D A [(oa 0, .inr (4, [.ref (oa 1), .ref (oa 5), .ref (oa 6), .ref (oa 11)])), (oa 1, .inr (6, [.ref (oa 2), .ref (oa 3), .ref (oa 4), .int c2_3, .int c2_4, .int c2_5, .int c2_6])), (oa 2, .inl (dA 0, 8, .inl c2_0)), (oa 3, .inl (dA 1, 8, .inl c2_1)), (oa 4, .inl (dA 1, 8, .inl c2_2)), (oa 5, .inr (5, [.int c4_0, .int c4_1, .int c4_2, .int c4_3])), (oa 6, .inr (8, [.ref (oa 7), .ref (oa 8), .ref (oa 9), .ref (oa 10), .int a15])), (oa 7, .inl (dA 1, 12, .inl a11)), (oa 8, .inl (dA 1, 12, .inl a12)), (oa 9, .inl (dA 1, 12, .inl a13)), (oa 10, .inl (dA 1, 12, .inl a14)), (oa 11, .inr (9, [.ref (oa 12), .int a17, .int a18, .int a19])), (oa 12, .inl (dA 1, 5, .inl a16)), (ob 0, .inr (4, [.ref (ob 1), .ref (ob 5), .ref (ob 6), .ref (ob 11)])), (ob 1, .inr (6, [.ref (ob 2), .ref (ob 3), .ref (ob 4), .int b3, .int b4, .int b5, .int b6])), (ob 2, .inl (dA 0, 8, .inl b0)), (ob 3, .inl (dA 1, 8, .inl b1)), (ob 4, .inl (dA 1, 8, .inl b2)), (ob 5, .inr (5, [.int b7, .int b8, .int b9, .int b10])), (ob 6, .inr (8, [.ref (ob 7), .ref (ob 8), .ref (ob 9), .ref (ob 10), .int b15])), (ob 7, .inl (dA 1, 12, .inl b11)), (ob 8, .inl (dA 1, 12, .inl b12)), (ob 9, .inl (dA 1, 12, .inl b13)), (ob 10, .inl (dA 1, 12, .inl b14)), (ob 11, .inr (9, [.ref (ob 12), .int b17, .int b18, .int b19])), (ob 12, .inl (dA 1, 5, .inl b16))] := hD
  refine lv_aload_n hx hb dX0_copyFrom_22 rfl (lv_at hl 0 rfl) ?_
  refine va_get (D := (dC, dI)) (ci := 4) (v := .ref (oa 6)) (C := RX0) (T := TX0) (N := 4) hx hb hts in_X0 hown hK hP 0 rfl rfl 2 (by decide) (hts _ (bg _ wd_170)) (fun _ h9 => h9) rfl dX0_copyFrom_23 ?_
  refine lv_aload_n hx hb dX0_copyFrom_26 rfl (lv_at hl 1 rfl) ?_
  refine va_get (D := (dC, dI)) (ci := 4) (v := .ref (ob 6)) (C := RX0) (T := TX0) (N := 4) hx hb hts in_X0 hown hK hP 13 rfl rfl 2 (by decide) (hts _ (bg _ wd_170)) (fun _ h9 => h9) rfl dX0_copyFrom_27 ?_
  obtain ⟨c6_0, c6_1, c6_2, c6_3, c6_4, e5, hf⟩ := bX4_inv hf
  refine jn_v (va_runV (As := [.ref (ob 6)]) (rest := []) ⟨hx, hb, hml, hown, hts⟩ (m_X4_copyFrom l dC dI dA gz (fun k => oa (6 + k)) (fun k => ob (6 + k)) H.size a11 a12 a13 a14 a15 b11 b12 b13 b14 b15 (c6_0, c6_1, c6_2, c6_3, c6_4) e5) (cwV 1 hts (gi_v bg wd_331 wd_332 wd_333 wd_5 wd_334) rfl rfl rfl hd_X4_copyFrom ⟨Nat.le_of_ble_eq_true rfl, Nat.le_of_ble_eq_true rfl⟩) ⟨pP_blind, va_recv (ci := 8) (q0 := 6) hK hP rfl rfl, pP_pre hP hD hS hA hK hN hZ [6, 7, 8, 9, 10, 19, 20, 21, 22, 23] (by decide) rfl⟩ rfl rfl hl.1 rfl (lv_room (Nat.le_of_ble_eq_true rfl)) dX0_copyFrom_30 ⟨Nat.le_of_ble_eq_true rfl, Nat.le_of_ble_eq_true rfl⟩) hP hD hS hA [6, 7, 8, 9, 10, 19, 20, 21, 22, 23] rfl rfl (fun H locs hP hD hS => ?_)
  have hP : va_P (dC, dI) vwCl [(oa 0, .inr (4, [.ref (oa 1), .ref (oa 5), .ref (oa 6), .ref (oa 11)])), (oa 1, .inr (6, [.ref (oa 2), .ref (oa 3), .ref (oa 4), .int c2_3, .int c2_4, .int c2_5, .int c2_6])), (oa 2, .inl (dA 0, 8, .inl c2_0)), (oa 3, .inl (dA 1, 8, .inl c2_1)), (oa 4, .inl (dA 1, 8, .inl c2_2)), (oa 5, .inr (5, [.int c4_0, .int c4_1, .int c4_2, .int c4_3])), (oa 6, .inr (8, [.ref (oa 7), .ref (oa 8), .ref (oa 9), .ref (oa 10), .int c6_4])), (oa 7, .inl (dA 1, 12, .inl c6_0)), (oa 8, .inl (dA 1, 12, .inl c6_1)), (oa 9, .inl (dA 1, 12, .inl c6_2)), (oa 10, .inl (dA 1, 12, .inl c6_3)), (oa 11, .inr (9, [.ref (oa 12), .int a17, .int a18, .int a19])), (oa 12, .inl (dA 1, 5, .inl a16)), (ob 0, .inr (4, [.ref (ob 1), .ref (ob 5), .ref (ob 6), .ref (ob 11)])), (ob 1, .inr (6, [.ref (ob 2), .ref (ob 3), .ref (ob 4), .int b3, .int b4, .int b5, .int b6])), (ob 2, .inl (dA 0, 8, .inl b0)), (ob 3, .inl (dA 1, 8, .inl b1)), (ob 4, .inl (dA 1, 8, .inl b2)), (ob 5, .inr (5, [.int b7, .int b8, .int b9, .int b10])), (ob 6, .inr (8, [.ref (ob 7), .ref (ob 8), .ref (ob 9), .ref (ob 10), .int b15])), (ob 7, .inl (dA 1, 12, .inl b11)), (ob 8, .inl (dA 1, 12, .inl b12)), (ob 9, .inl (dA 1, 12, .inl b13)), (ob 10, .inl (dA 1, 12, .inl b14)), (ob 11, .inr (9, [.ref (ob 12), .int b17, .int b18, .int b19])), (ob 12, .inl (dA 1, 5, .inl b16))] H := hP
  have hD : va_D A [(oa 0, .inr (4, [.ref (oa 1), .ref (oa 5), .ref (oa 6), .ref (oa 11)])), (oa 1, .inr (6, [.ref (oa 2), .ref (oa 3), .ref (oa 4), .int c2_3, .int c2_4, .int c2_5, .int c2_6])), (oa 2, .inl (dA 0, 8, .inl c2_0)), (oa 3, .inl (dA 1, 8, .inl c2_1)), (oa 4, .inl (dA 1, 8, .inl c2_2)), (oa 5, .inr (5, [.int c4_0, .int c4_1, .int c4_2, .int c4_3])), (oa 6, .inr (8, [.ref (oa 7), .ref (oa 8), .ref (oa 9), .ref (oa 10), .int c6_4])), (oa 7, .inl (dA 1, 12, .inl c6_0)), (oa 8, .inl (dA 1, 12, .inl c6_1)), (oa 9, .inl (dA 1, 12, .inl c6_2)), (oa 10, .inl (dA 1, 12, .inl c6_3)), (oa 11, .inr (9, [.ref (oa 12), .int a17, .int a18, .int a19])), (oa 12, .inl (dA 1, 5, .inl a16)), (ob 0, .inr (4, [.ref (ob 1), .ref (ob 5), .ref (ob 6), .ref (ob 11)])), (ob 1, .inr (6, [.ref (ob 2), .ref (ob 3), .ref (ob 4), .int b3, .int b4, .int b5, .int b6])), (ob 2, .inl (dA 0, 8, .inl b0)), (ob 3, .inl (dA 1, 8, .inl b1)), (ob 4, .inl (dA 1, 8, .inl b2)), (ob 5, .inr (5, [.int b7, .int b8, .int b9, .int b10])), (ob 6, .inr (8, [.ref (ob 7), .ref (ob 8), .ref (ob 9), .ref (ob 10), .int b15])), (ob 7, .inl (dA 1, 12, .inl b11)), (ob 8, .inl (dA 1, 12, .inl b12)), (ob 9, .inl (dA 1, 12, .inl b13)), (ob 10, .inl (dA 1, 12, .inl b14)), (ob 11, .inr (9, [.ref (ob 12), .int b17, .int b18, .int b19])), (ob 12, .inl (dA 1, 5, .inl b16))] := hD
  refine lv_aload_n hx hb dX0_copyFrom_33 rfl (lv_at hl 0 rfl) ?_
  refine va_get (D := (dC, dI)) (ci := 4) (v := .ref (oa 11)) (C := RX0) (T := TX0) (N := 4) hx hb hts in_X0 hown hK hP 0 rfl rfl 3 (by decide) (hts _ (bg _ wd_172)) (fun _ h9 => h9) rfl dX0_copyFrom_34 ?_
  refine lv_aload_n hx hb dX0_copyFrom_37 rfl (lv_at hl 1 rfl) ?_
  refine va_get (D := (dC, dI)) (ci := 4) (v := .ref (ob 11)) (C := RX0) (T := TX0) (N := 4) hx hb hts in_X0 hown hK hP 13 rfl rfl 3 (by decide) (hts _ (bg _ wd_172)) (fun _ h9 => h9) rfl dX0_copyFrom_38 ?_
  obtain ⟨c8_0, c8_1, c8_2, c8_3, e7, hf⟩ := bX5_inv hf
  refine jn_v (va_runV (As := [.ref (ob 11)]) (rest := []) ⟨hx, hb, hml, hown, hts⟩ (m_X5_copyFrom l dC dI dA gz (fun k => oa (11 + k)) (fun k => ob (11 + k)) H.size a16 a17 a18 a19 b16 b17 b18 b19 (c8_0, c8_1, c8_2, c8_3) e7) (cwV 1 hts (gi_v bg wd_336 wd_337 wd_338 wd_6 wd_339) rfl rfl rfl hd_X5_copyFrom ⟨Nat.le_of_ble_eq_true rfl, Nat.le_of_ble_eq_true rfl⟩) ⟨pP_blind, va_recv (ci := 9) (q0 := 11) hK hP rfl rfl, pP_pre hP hD hS hA hK hN hZ [11, 12, 24, 25] (by decide) rfl⟩ rfl rfl hl.1 rfl (lv_room (Nat.le_of_ble_eq_true rfl)) dX0_copyFrom_41 ⟨Nat.le_of_ble_eq_true rfl, Nat.le_of_ble_eq_true rfl⟩) hP hD hS hA [11, 12, 24, 25] rfl rfl (fun H locs hP hD hS => ?_)
  have hP : va_P (dC, dI) vwCl [(oa 0, .inr (4, [.ref (oa 1), .ref (oa 5), .ref (oa 6), .ref (oa 11)])), (oa 1, .inr (6, [.ref (oa 2), .ref (oa 3), .ref (oa 4), .int c2_3, .int c2_4, .int c2_5, .int c2_6])), (oa 2, .inl (dA 0, 8, .inl c2_0)), (oa 3, .inl (dA 1, 8, .inl c2_1)), (oa 4, .inl (dA 1, 8, .inl c2_2)), (oa 5, .inr (5, [.int c4_0, .int c4_1, .int c4_2, .int c4_3])), (oa 6, .inr (8, [.ref (oa 7), .ref (oa 8), .ref (oa 9), .ref (oa 10), .int c6_4])), (oa 7, .inl (dA 1, 12, .inl c6_0)), (oa 8, .inl (dA 1, 12, .inl c6_1)), (oa 9, .inl (dA 1, 12, .inl c6_2)), (oa 10, .inl (dA 1, 12, .inl c6_3)), (oa 11, .inr (9, [.ref (oa 12), .int c8_1, .int c8_2, .int c8_3])), (oa 12, .inl (dA 1, 5, .inl c8_0)), (ob 0, .inr (4, [.ref (ob 1), .ref (ob 5), .ref (ob 6), .ref (ob 11)])), (ob 1, .inr (6, [.ref (ob 2), .ref (ob 3), .ref (ob 4), .int b3, .int b4, .int b5, .int b6])), (ob 2, .inl (dA 0, 8, .inl b0)), (ob 3, .inl (dA 1, 8, .inl b1)), (ob 4, .inl (dA 1, 8, .inl b2)), (ob 5, .inr (5, [.int b7, .int b8, .int b9, .int b10])), (ob 6, .inr (8, [.ref (ob 7), .ref (ob 8), .ref (ob 9), .ref (ob 10), .int b15])), (ob 7, .inl (dA 1, 12, .inl b11)), (ob 8, .inl (dA 1, 12, .inl b12)), (ob 9, .inl (dA 1, 12, .inl b13)), (ob 10, .inl (dA 1, 12, .inl b14)), (ob 11, .inr (9, [.ref (ob 12), .int b17, .int b18, .int b19])), (ob 12, .inl (dA 1, 5, .inl b16))] H := hP
  have hD : va_D A [(oa 0, .inr (4, [.ref (oa 1), .ref (oa 5), .ref (oa 6), .ref (oa 11)])), (oa 1, .inr (6, [.ref (oa 2), .ref (oa 3), .ref (oa 4), .int c2_3, .int c2_4, .int c2_5, .int c2_6])), (oa 2, .inl (dA 0, 8, .inl c2_0)), (oa 3, .inl (dA 1, 8, .inl c2_1)), (oa 4, .inl (dA 1, 8, .inl c2_2)), (oa 5, .inr (5, [.int c4_0, .int c4_1, .int c4_2, .int c4_3])), (oa 6, .inr (8, [.ref (oa 7), .ref (oa 8), .ref (oa 9), .ref (oa 10), .int c6_4])), (oa 7, .inl (dA 1, 12, .inl c6_0)), (oa 8, .inl (dA 1, 12, .inl c6_1)), (oa 9, .inl (dA 1, 12, .inl c6_2)), (oa 10, .inl (dA 1, 12, .inl c6_3)), (oa 11, .inr (9, [.ref (oa 12), .int c8_1, .int c8_2, .int c8_3])), (oa 12, .inl (dA 1, 5, .inl c8_0)), (ob 0, .inr (4, [.ref (ob 1), .ref (ob 5), .ref (ob 6), .ref (ob 11)])), (ob 1, .inr (6, [.ref (ob 2), .ref (ob 3), .ref (ob 4), .int b3, .int b4, .int b5, .int b6])), (ob 2, .inl (dA 0, 8, .inl b0)), (ob 3, .inl (dA 1, 8, .inl b1)), (ob 4, .inl (dA 1, 8, .inl b2)), (ob 5, .inr (5, [.int b7, .int b8, .int b9, .int b10])), (ob 6, .inr (8, [.ref (ob 7), .ref (ob 8), .ref (ob 9), .ref (ob 10), .int b15])), (ob 7, .inl (dA 1, 12, .inl b11)), (ob 8, .inl (dA 1, 12, .inl b12)), (ob 9, .inl (dA 1, 12, .inl b13)), (ob 10, .inl (dA 1, 12, .inl b14)), (ob 11, .inr (9, [.ref (ob 12), .int b17, .int b18, .int b19])), (ob 12, .inl (dA 1, 5, .inl b16))] := hD
  have e9 := sm hf
  exact W.vret hx hb hr (fun t ht hW => ⟨⟨(), rfl, trivial, by rw [← e9, ht]; exact hP, by rw [← e9]; exact hD⟩, hS.F ht⟩) hS.2.2 dX0_copyFrom_44
/-! X0_detailOf -/
def f_X0_detailOf (a0 : Ar) (a1 : Ar) (a2 : Ar) (a3 : Int32) (a4 : Int32) (a5 : Int32) (a6 : Int32) (a7 : Int32) (a8 : Int32) (a9 : Int32) (a10 : Int32) (a11 : Ar) (a12 : Ar) (a13 : Ar) (a14 : Ar) (a15 : Int32) (a16 : Ar) (a17 : Int32) (a18 : Int32) (a19 : Int32) (p1 : Int32) (p2 : Int32) : Option (Int32) :=
  (if p1 = 2 then some a4 else
  (if p1 = 3 then some a6 else
  (if p1 = 4 then some a6 else
  (if p1 = 5 then some a7 else
  some p2))))
set_option maxRecDepth 100000 in
set_option maxHeartbeats 4000000 in
theorem m_X0_detailOf (l : Launch) (dC : Nat → ClassId) (dI : Nat → Nat → Nat) (dA gz : Nat → Nat) (oa : Nat → Nat) (sz : Nat) (a0 : Ar) (a1 : Ar) (a2 : Ar) (a3 : Int32) (a4 : Int32) (a5 : Int32) (a6 : Int32) (a7 : Int32) (a8 : Int32) (a9 : Int32) (a10 : Int32) (a11 : Ar) (a12 : Ar) (a13 : Ar) (a14 : Ar) (a15 : Int32) (a16 : Ar) (a17 : Int32) (a18 : Int32) (a19 : Int32) (p1 : Int32) (p2 : Int32) (rr : Int32) (hf : f_X0_detailOf a0 a1 a2 a3 a4 a5 a6 a7 a8 a9 a10 a11 a12 a13 a14 a15 a16 a17 a18 a19 p1 p2 = some rr) : Met l yX0_detailOf ws_X0_detailOf ({ frames := 10, cells := 0, slots := 0, locals := 200 } : Room) (va_Pc [.ref (oa 0), .int p1, .int p2] (pP (dC, dI) dA gz (wX0 dA oa ((a0, a1, a2, a3, a4, a5, a6), (a7, a8, a9, a10), (a11, a12, a13, a14, a15), (a16, a17, a18, a19))) sz)) (va_Qi (S := Unit) (fun r' _ => r' = rr) (fun _ t => pQ (dC, dI) (va_A (wX0 dA oa ((a0, a1, a2, a3, a4, a5, a6), (a7, a8, a9, a10), (a11, a12, a13, a14, a15), (a16, a17, a18, a19))) sz) (wX0 dA oa ((a0, a1, a2, a3, a4, a5, a6), (a7, a8, a9, a10), (a11, a12, a13, a14, a15), (a16, a17, a18, a19))) t) (va_A (wX0 dA oa ((a0, a1, a2, a3, a4, a5, a6), (a7, a8, a9, a10), (a11, a12, a13, a14, a15), (a16, a17, a18, a19))) sz)) 0 0 (va_A (wX0 dA oa ((a0, a1, a2, a3, a4, a5, a6), (a7, a8, a9, a10), (a11, a12, a13, a14, a15), (a16, a17, a18, a19))) sz) := by
  refine Met.ofW (cc := cX0_detailOf) (maxL := 3) (ret := (some .int)) (by decide) rfl ?_
  intro p e s m args below meth c s₁ B hml hv
  obtain ⟨rfl, hsz, hP, hK, hD0, hN, hZ⟩ := hv
  have hx := B.exec
  have hb := B.bytes
  have hr := B.returns
  have hts := atoms_spec (ws := ws_X0_detailOf) B.pre
  have hown : s.vm.findClass RX0 = some m.cls := findClass_of_methodNamed B.named
  have hlocks := B.notSynchronized
  subst hsz
  have hD := hD0.self (sz := s.heap.size)
  generalize hAe : va_A (wX0 dA oa ((a0, a1, a2, a3, a4, a5, a6), (a7, a8, a9, a10), (a11, a12, a13, a14, a15), (a16, a17, a18, a19))) s.heap.size = A at hD hZ ⊢
  have hA : ∀ q : Nat, s.heap.size ≤ q → A q := fun q h => by rw [← hAe]; exact Or.inr h
  have hS : va_S A s.heap s.heap [] := va_S.rf
  have hP : va_P (dC, dI) vwCl [(oa 0, .inr (4, [.ref (oa 1), .ref (oa 5), .ref (oa 6), .ref (oa 11)])), (oa 1, .inr (6, [.ref (oa 2), .ref (oa 3), .ref (oa 4), .int a3, .int a4, .int a5, .int a6])), (oa 2, .inl (dA 0, 8, .inl a0)), (oa 3, .inl (dA 1, 8, .inl a1)), (oa 4, .inl (dA 1, 8, .inl a2)), (oa 5, .inr (5, [.int a7, .int a8, .int a9, .int a10])), (oa 6, .inr (8, [.ref (oa 7), .ref (oa 8), .ref (oa 9), .ref (oa 10), .int a15])), (oa 7, .inl (dA 1, 12, .inl a11)), (oa 8, .inl (dA 1, 12, .inl a12)), (oa 9, .inl (dA 1, 12, .inl a13)), (oa 10, .inl (dA 1, 12, .inl a14)), (oa 11, .inr (9, [.ref (oa 12), .int a17, .int a18, .int a19])), (oa 12, .inl (dA 1, 5, .inl a16))] s.heap := hP
  have hD : va_D A [(oa 0, .inr (4, [.ref (oa 1), .ref (oa 5), .ref (oa 6), .ref (oa 11)])), (oa 1, .inr (6, [.ref (oa 2), .ref (oa 3), .ref (oa 4), .int a3, .int a4, .int a5, .int a6])), (oa 2, .inl (dA 0, 8, .inl a0)), (oa 3, .inl (dA 1, 8, .inl a1)), (oa 4, .inl (dA 1, 8, .inl a2)), (oa 5, .inr (5, [.int a7, .int a8, .int a9, .int a10])), (oa 6, .inr (8, [.ref (oa 7), .ref (oa 8), .ref (oa 9), .ref (oa 10), .int a15])), (oa 7, .inl (dA 1, 12, .inl a11)), (oa 8, .inl (dA 1, 12, .inl a12)), (oa 9, .inl (dA 1, 12, .inl a13)), (oa 10, .inl (dA 1, 12, .inl a14)), (oa 11, .inr (9, [.ref (oa 12), .int a17, .int a18, .int a19])), (oa 12, .inl (dA 1, 5, .inl a16))] := hD
  have hl := lv_entry [.ref (oa 0), .int p1, .int p2] (n := 3) (Nat.le_of_ble_eq_true rfl)
  rw [lg_entry_eq]
  generalize (lg_sl [.ref (oa 0), .int p1, .int p2] ++ List.replicate (3 - (lg_sl [.ref (oa 0), .int p1, .int p2]).length) Slot.unset).toArray = ls at hl ⊢
  have hl : lv_has ls 3 [(0, .ref (oa 0)), (1, .int p1), (2, .int p2)] := hl
  have in_X0 : ∀ w ∈ wsX00, w ∈ ws_X0_detailOf := fun w h => bg _ (inB_X0 w h)
  have in_X1 : ∀ w ∈ wsX10, w ∈ ws_X0_detailOf := fun w h => bg _ (inB_X1 w h)
  have in_X2 : ∀ w ∈ wsX20, w ∈ ws_X0_detailOf := fun w h => bg _ (inB_X2 w h)
  rw [f_X0_detailOf] at hf
  refine lv_iload_n hx hb dX0_detailOf_0 rfl (lv_at hl 1 rfl) ?_
  by_cases q1 : p1 = 2
  · have hf := it q1 hf
    refine lv_tableIn (tgt := 32) hx hb dX0_detailOf_1 (by rw [q1]; decide) (by rw [q1]; decide) (by rw [q1]; rfl) (by decide) ?_
    refine lv_aload_n hx hb dX0_detailOf_32 rfl (lv_at hl 0 rfl) ?_
    refine va_get (D := (dC, dI)) (ci := 4) (v := .ref (oa 1)) (C := RX0) (T := TX0) (N := 4) hx hb hts in_X0 hown hK hP 0 rfl rfl 0 (by decide) (hts _ (bg _ wd_166)) (fun _ h9 => h9) rfl dX0_detailOf_33 ?_
    refine va_get (D := (dC, dI)) (ci := 6) (v := .int a4) (C := RX2) (T := TX2) (N := 7) hx hb hts in_X2 hown hK hP 1 rfl rfl 4 (by decide) (hts _ (bg _ wd_64)) (fun _ h9 => h9) rfl dX0_detailOf_36 ?_
    exact W.iret hx hb hr (fun t ht hW => ⟨⟨_, (), rfl, sm hf, by rw [ht]; exact hP, hD⟩, hS.F ht⟩) hS.2.2 dX0_detailOf_39
  have hf := ie q1 hf
  by_cases q2 : p1 = 3
  · have hf := it q2 hf
    refine lv_tableIn (tgt := 40) hx hb dX0_detailOf_1 (by rw [q2]; decide) (by rw [q2]; decide) (by rw [q2]; rfl) (by decide) ?_
    refine lv_aload_n hx hb dX0_detailOf_40 rfl (lv_at hl 0 rfl) ?_
    refine va_get (D := (dC, dI)) (ci := 4) (v := .ref (oa 1)) (C := RX0) (T := TX0) (N := 4) hx hb hts in_X0 hown hK hP 0 rfl rfl 0 (by decide) (hts _ (bg _ wd_166)) (fun _ h9 => h9) rfl dX0_detailOf_41 ?_
    refine va_get (D := (dC, dI)) (ci := 6) (v := .int a6) (C := RX2) (T := TX2) (N := 7) hx hb hts in_X2 hown hK hP 1 rfl rfl 6 (by decide) (hts _ (bg _ wd_67)) (fun _ h9 => h9) rfl dX0_detailOf_44 ?_
    exact W.iret hx hb hr (fun t ht hW => ⟨⟨_, (), rfl, sm hf, by rw [ht]; exact hP, hD⟩, hS.F ht⟩) hS.2.2 dX0_detailOf_47
  have hf := ie q2 hf
  by_cases q3 : p1 = 4
  · have hf := it q3 hf
    refine lv_tableIn (tgt := 40) hx hb dX0_detailOf_1 (by rw [q3]; decide) (by rw [q3]; decide) (by rw [q3]; rfl) (by decide) ?_
    refine lv_aload_n hx hb dX0_detailOf_40 rfl (lv_at hl 0 rfl) ?_
    refine va_get (D := (dC, dI)) (ci := 4) (v := .ref (oa 1)) (C := RX0) (T := TX0) (N := 4) hx hb hts in_X0 hown hK hP 0 rfl rfl 0 (by decide) (hts _ (bg _ wd_166)) (fun _ h9 => h9) rfl dX0_detailOf_41 ?_
    refine va_get (D := (dC, dI)) (ci := 6) (v := .int a6) (C := RX2) (T := TX2) (N := 7) hx hb hts in_X2 hown hK hP 1 rfl rfl 6 (by decide) (hts _ (bg _ wd_67)) (fun _ h9 => h9) rfl dX0_detailOf_44 ?_
    exact W.iret hx hb hr (fun t ht hW => ⟨⟨_, (), rfl, sm hf, by rw [ht]; exact hP, hD⟩, hS.F ht⟩) hS.2.2 dX0_detailOf_47
  have hf := ie q3 hf
  by_cases q4 : p1 = 5
  · have hf := it q4 hf
    refine lv_tableIn (tgt := 48) hx hb dX0_detailOf_1 (by rw [q4]; decide) (by rw [q4]; decide) (by rw [q4]; rfl) (by decide) ?_
    refine lv_aload_n hx hb dX0_detailOf_48 rfl (lv_at hl 0 rfl) ?_
    refine va_get (D := (dC, dI)) (ci := 4) (v := .ref (oa 5)) (C := RX0) (T := TX0) (N := 4) hx hb hts in_X0 hown hK hP 0 rfl rfl 1 (by decide) (hts _ (bg _ wd_168)) (fun _ h9 => h9) rfl dX0_detailOf_49 ?_
    refine va_get (D := (dC, dI)) (ci := 5) (v := .int a7) (C := RX1) (T := TX1) (N := 4) hx hb hts in_X1 hown hK hP 5 rfl rfl 0 (by decide) (hts _ (bg _ wd_94)) (fun _ h9 => h9) rfl dX0_detailOf_52 ?_
    exact W.iret hx hb hr (fun t ht hW => ⟨⟨_, (), rfl, sm hf, by rw [ht]; exact hP, hD⟩, hS.F ht⟩) hS.2.2 dX0_detailOf_55
  have hf := ie q4 hf
  refine lv_tableOut (tgt := 56) hx hb dX0_detailOf_1 (by have := ti_ne (k := 2) q1 (by decide); have := ti_ne (k := 3) q2 (by decide); have := ti_ne (k := 4) q3 (by decide); have := ti_ne (k := 5) q4 (by decide); omega) (by decide) ?_
  refine lv_iload_n hx hb dX0_detailOf_56 rfl (lv_at hl 2 rfl) ?_
  exact W.iret hx hb hr (fun t ht hW => ⟨⟨_, (), rfl, sm hf, by rw [ht]; exact hP, hD⟩, hS.F ht⟩) hS.2.2 dX0_detailOf_57
/-! X0_judgePhase -/
def f_X0_judgePhase (a0 : Ar) (a1 : Ar) (a2 : Ar) (a3 : Int32) (a4 : Int32) (a5 : Int32) (a6 : Int32) (a7 : Int32) (a8 : Int32) (a9 : Int32) (a10 : Int32) (a11 : Ar) (a12 : Ar) (a13 : Ar) (a14 : Ar) (a15 : Int32) (a16 : Ar) (a17 : Int32) (a18 : Int32) (a19 : Int32) (p1 : Int32) (p2 : Int32) (p3 : Int32) : Option (Int32) :=
  (f_X2_isKind p1).bind fun r2 =>
  (if r2 = 0 then some 8 else
  (f_X7_isWithin p2 1 30).bind fun r5 =>
  (if r5 = 0 then some 8 else
  (f_X7_isWithin p3 1 5).bind fun r8 =>
  (if r8 = 0 then some 8 else
  (f_X2_isUnderWay a0 a1 a2 a3 a4 a5 a6).bind fun r11 =>
  (if r11 = 0 then (if 8 ≤ a3 then some 1 else
  some 0) else
  some 2))))
set_option maxRecDepth 100000 in
set_option maxHeartbeats 4000000 in
theorem m_X0_judgePhase (l : Launch) (dC : Nat → ClassId) (dI : Nat → Nat → Nat) (dA gz : Nat → Nat) (oa : Nat → Nat) (sz : Nat) (a0 : Ar) (a1 : Ar) (a2 : Ar) (a3 : Int32) (a4 : Int32) (a5 : Int32) (a6 : Int32) (a7 : Int32) (a8 : Int32) (a9 : Int32) (a10 : Int32) (a11 : Ar) (a12 : Ar) (a13 : Ar) (a14 : Ar) (a15 : Int32) (a16 : Ar) (a17 : Int32) (a18 : Int32) (a19 : Int32) (p1 : Int32) (p2 : Int32) (p3 : Int32) (rr : Int32) (hf : f_X0_judgePhase a0 a1 a2 a3 a4 a5 a6 a7 a8 a9 a10 a11 a12 a13 a14 a15 a16 a17 a18 a19 p1 p2 p3 = some rr) : Met l yX0_judgePhase ws_X0_judgePhase ({ frames := 18, cells := 0, slots := 0, locals := 600 } : Room) (va_Pc [.ref (oa 0), .int p1, .int p2, .int p3] (pP (dC, dI) dA gz (wX0 dA oa ((a0, a1, a2, a3, a4, a5, a6), (a7, a8, a9, a10), (a11, a12, a13, a14, a15), (a16, a17, a18, a19))) sz)) (va_Qi (S := Unit) (fun r' _ => r' = rr) (fun _ t => pQ (dC, dI) (va_A (wX0 dA oa ((a0, a1, a2, a3, a4, a5, a6), (a7, a8, a9, a10), (a11, a12, a13, a14, a15), (a16, a17, a18, a19))) sz) (wX0 dA oa ((a0, a1, a2, a3, a4, a5, a6), (a7, a8, a9, a10), (a11, a12, a13, a14, a15), (a16, a17, a18, a19))) t) (va_A (wX0 dA oa ((a0, a1, a2, a3, a4, a5, a6), (a7, a8, a9, a10), (a11, a12, a13, a14, a15), (a16, a17, a18, a19))) sz)) 0 0 (va_A (wX0 dA oa ((a0, a1, a2, a3, a4, a5, a6), (a7, a8, a9, a10), (a11, a12, a13, a14, a15), (a16, a17, a18, a19))) sz) := by
  refine Met.ofW (cc := cX0_judgePhase) (maxL := 4) (ret := (some .int)) (by decide) rfl ?_
  intro p e s m args below meth c s₁ B hml hv
  obtain ⟨rfl, hsz, hP, hK, hD0, hN, hZ⟩ := hv
  have hx := B.exec
  have hb := B.bytes
  have hr := B.returns
  have hts := atoms_spec (ws := ws_X0_judgePhase) B.pre
  have hown : s.vm.findClass RX0 = some m.cls := findClass_of_methodNamed B.named
  have hlocks := B.notSynchronized
  subst hsz
  have hD := hD0.self (sz := s.heap.size)
  generalize hAe : va_A (wX0 dA oa ((a0, a1, a2, a3, a4, a5, a6), (a7, a8, a9, a10), (a11, a12, a13, a14, a15), (a16, a17, a18, a19))) s.heap.size = A at hD hZ ⊢
  have hA : ∀ q : Nat, s.heap.size ≤ q → A q := fun q h => by rw [← hAe]; exact Or.inr h
  have hS : va_S A s.heap s.heap [] := va_S.rf
  have hP : va_P (dC, dI) vwCl [(oa 0, .inr (4, [.ref (oa 1), .ref (oa 5), .ref (oa 6), .ref (oa 11)])), (oa 1, .inr (6, [.ref (oa 2), .ref (oa 3), .ref (oa 4), .int a3, .int a4, .int a5, .int a6])), (oa 2, .inl (dA 0, 8, .inl a0)), (oa 3, .inl (dA 1, 8, .inl a1)), (oa 4, .inl (dA 1, 8, .inl a2)), (oa 5, .inr (5, [.int a7, .int a8, .int a9, .int a10])), (oa 6, .inr (8, [.ref (oa 7), .ref (oa 8), .ref (oa 9), .ref (oa 10), .int a15])), (oa 7, .inl (dA 1, 12, .inl a11)), (oa 8, .inl (dA 1, 12, .inl a12)), (oa 9, .inl (dA 1, 12, .inl a13)), (oa 10, .inl (dA 1, 12, .inl a14)), (oa 11, .inr (9, [.ref (oa 12), .int a17, .int a18, .int a19])), (oa 12, .inl (dA 1, 5, .inl a16))] s.heap := hP
  have hD : va_D A [(oa 0, .inr (4, [.ref (oa 1), .ref (oa 5), .ref (oa 6), .ref (oa 11)])), (oa 1, .inr (6, [.ref (oa 2), .ref (oa 3), .ref (oa 4), .int a3, .int a4, .int a5, .int a6])), (oa 2, .inl (dA 0, 8, .inl a0)), (oa 3, .inl (dA 1, 8, .inl a1)), (oa 4, .inl (dA 1, 8, .inl a2)), (oa 5, .inr (5, [.int a7, .int a8, .int a9, .int a10])), (oa 6, .inr (8, [.ref (oa 7), .ref (oa 8), .ref (oa 9), .ref (oa 10), .int a15])), (oa 7, .inl (dA 1, 12, .inl a11)), (oa 8, .inl (dA 1, 12, .inl a12)), (oa 9, .inl (dA 1, 12, .inl a13)), (oa 10, .inl (dA 1, 12, .inl a14)), (oa 11, .inr (9, [.ref (oa 12), .int a17, .int a18, .int a19])), (oa 12, .inl (dA 1, 5, .inl a16))] := hD
  have hl := lv_entry [.ref (oa 0), .int p1, .int p2, .int p3] (n := 4) (Nat.le_of_ble_eq_true rfl)
  rw [lg_entry_eq]
  generalize (lg_sl [.ref (oa 0), .int p1, .int p2, .int p3] ++ List.replicate (4 - (lg_sl [.ref (oa 0), .int p1, .int p2, .int p3]).length) Slot.unset).toArray = ls at hl ⊢
  have hl : lv_has ls 4 [(0, .ref (oa 0)), (1, .int p1), (2, .int p2), (3, .int p3)] := hl
  have in_X0 : ∀ w ∈ wsX00, w ∈ ws_X0_judgePhase := fun w h => bg _ (inB_X0 w h)
  have in_X2 : ∀ w ∈ wsX20, w ∈ ws_X0_judgePhase := fun w h => bg _ (inB_X2 w h)
  rw [f_X0_judgePhase] at hf
  refine lv_iload_n hx hb dX0_judgePhase_0 rfl (lv_at hl 1 rfl) ?_
  obtain ⟨r2, e1, hf⟩ := bd hf
  refine jr_i (va_runS (As := [.int p1]) (rest := []) ⟨hx, hb, hml, hown, hts⟩ (m_X2_isKind l dC dI dA gz  s.heap.size p1 r2 e1) (va_cwS 1 hts (gi_t bg wd_359 wd_360 wd_3 wd_361) rfl rfl rfl hd3_X2_isKind ⟨Nat.le_of_ble_eq_true rfl, Nat.le_of_ble_eq_true rfl⟩) ⟨pP_blind, pP_pre hP hD hS hA hK hN hZ [] (by decide) rfl⟩ rfl rfl hl.1 rfl (lv_room (Nat.le_of_ble_eq_true rfl)) dX0_judgePhase_1 ⟨Nat.le_of_ble_eq_true rfl, Nat.le_of_ble_eq_true rfl⟩) hP hD hS hA [] rfl (fun H locs hP hS => ?_)
  refine lv_if_eq (tgt := 26) hx hb dX0_judgePhase_4 (by decide) (fun q3 => ?_) (fun q3 => ?_)
  · have hf := it q3 hf
    refine lv_bipush (v := 8) hx hb dX0_judgePhase_26 (by decide) ?_
    exact W.iret hx hb hr (fun t ht hW => ⟨⟨_, (), rfl, sm hf, by rw [ht]; exact hP, hD⟩, hS.F ht⟩) hS.2.2 dX0_judgePhase_28
  · have hf := ie q3 hf
    refine lv_iload_n hx hb dX0_judgePhase_7 rfl (lv_at hl 2 rfl) ?_
    refine lv_iconst (v := 1) hx hb dX0_judgePhase_8 (by decide) ?_
    refine lv_bipush (v := 30) hx hb dX0_judgePhase_9 (by decide) ?_
    obtain ⟨r5, e4, hf⟩ := bd hf
    refine jr_i (va_runSN (As := [.int p2, .int 1, .int 30]) (rest := []) ⟨hx, hb, hml, hown, hts⟩ (m_X7_isWithin l dC dI dA gz  H.size p2 1 30 r5 e4) ⟨va_cnB 3 hts (gi_n bg wd_364) rfl rfl rfl (hN _ ng_7) (hts _ (bg _ wd_1)) hd3_X7_isWithin ⟨Nat.le_of_ble_eq_true rfl, Nat.le_of_ble_eq_true rfl⟩, hts _ (bg _ wd_363), trivial⟩ ⟨pP_blind, pP_pre hP hD hS hA hK hN hZ [] (by decide) rfl⟩ rfl rfl hl.1 rfl (lv_room (Nat.le_of_ble_eq_true rfl)) dX0_judgePhase_11 ⟨Nat.le_of_ble_eq_true rfl, Nat.le_of_ble_eq_true rfl⟩) hP hD hS hA [] rfl (fun H locs hP hS => ?_)
    refine lv_if_eq (tgt := 26) hx hb dX0_judgePhase_14 (by decide) (fun q6 => ?_) (fun q6 => ?_)
    · have hf := it q6 hf
      refine lv_bipush (v := 8) hx hb dX0_judgePhase_26 (by decide) ?_
      exact W.iret hx hb hr (fun t ht hW => ⟨⟨_, (), rfl, sm hf, by rw [ht]; exact hP, hD⟩, hS.F ht⟩) hS.2.2 dX0_judgePhase_28
    · have hf := ie q6 hf
      refine lv_iload_n hx hb dX0_judgePhase_17 rfl (lv_at hl 3 rfl) ?_
      refine lv_iconst (v := 1) hx hb dX0_judgePhase_18 (by decide) ?_
      refine lv_iconst (v := 5) hx hb dX0_judgePhase_19 (by decide) ?_
      obtain ⟨r8, e7, hf⟩ := bd hf
      refine jr_i (va_runSN (As := [.int p3, .int 1, .int 5]) (rest := []) ⟨hx, hb, hml, hown, hts⟩ (m_X7_isWithin l dC dI dA gz  H.size p3 1 5 r8 e7) ⟨va_cnB 3 hts (gi_n bg wd_364) rfl rfl rfl (hN _ ng_7) (hts _ (bg _ wd_1)) hd3_X7_isWithin ⟨Nat.le_of_ble_eq_true rfl, Nat.le_of_ble_eq_true rfl⟩, hts _ (bg _ wd_363), trivial⟩ ⟨pP_blind, pP_pre hP hD hS hA hK hN hZ [] (by decide) rfl⟩ rfl rfl hl.1 rfl (lv_room (Nat.le_of_ble_eq_true rfl)) dX0_judgePhase_20 ⟨Nat.le_of_ble_eq_true rfl, Nat.le_of_ble_eq_true rfl⟩) hP hD hS hA [] rfl (fun H locs hP hS => ?_)
      refine lv_if_ne (tgt := 29) hx hb dX0_judgePhase_23 (by decide) (fun q9 => ?_) (fun q9 => ?_)
      · have hf := ie q9 hf
        refine lv_aload_n hx hb dX0_judgePhase_29 rfl (lv_at hl 0 rfl) ?_
        refine va_get (D := (dC, dI)) (ci := 4) (v := .ref (oa 1)) (C := RX0) (T := TX0) (N := 4) hx hb hts in_X0 hown hK hP 0 rfl rfl 0 (by decide) (hts _ (bg _ wd_166)) (fun _ h9 => h9) rfl dX0_judgePhase_30 ?_
        obtain ⟨r11, e10, hf⟩ := bd hf
        refine jr_i (va_runV (As := []) (rest := []) ⟨hx, hb, hml, hown, hts⟩ (m_X2_isUnderWay l dC dI dA gz (fun k => oa (1 + k)) H.size a0 a1 a2 a3 a4 a5 a6 r11 e10) (cwV 0 hts (gi_v bg wd_365 wd_366 wd_367 wd_3 wd_368) rfl rfl rfl hd_X2_isUnderWay ⟨Nat.le_of_ble_eq_true rfl, Nat.le_of_ble_eq_true rfl⟩) ⟨pP_blind, va_recv (ci := 6) (q0 := 1) hK hP rfl rfl, pP_pre hP hD hS hA hK hN hZ [1, 2, 3, 4] (by decide) rfl⟩ rfl rfl hl.1 rfl (lv_room (Nat.le_of_ble_eq_true rfl)) dX0_judgePhase_33 ⟨Nat.le_of_ble_eq_true rfl, Nat.le_of_ble_eq_true rfl⟩) hP hD hS hA [1, 2, 3, 4] rfl (fun H locs hP hS => ?_)
        refine lv_if_eq (tgt := 41) hx hb dX0_judgePhase_36 (by decide) (fun q12 => ?_) (fun q12 => ?_)
        · have hf := it q12 hf
          refine lv_aload_n hx hb dX0_judgePhase_41 rfl (lv_at hl 0 rfl) ?_
          refine va_get (D := (dC, dI)) (ci := 4) (v := .ref (oa 1)) (C := RX0) (T := TX0) (N := 4) hx hb hts in_X0 hown hK hP 0 rfl rfl 0 (by decide) (hts _ (bg _ wd_166)) (fun _ h9 => h9) rfl dX0_judgePhase_42 ?_
          refine va_get (D := (dC, dI)) (ci := 6) (v := .int a3) (C := RX2) (T := TX2) (N := 7) hx hb hts in_X2 hown hK hP 1 rfl rfl 3 (by decide) (hts _ (bg _ wd_61)) (fun _ h9 => h9) rfl dX0_judgePhase_45 ?_
          refine lv_bipush (v := 8) hx hb dX0_judgePhase_48 (by decide) ?_
          refine lv_icmp_ge (tgt := 57) hx hb dX0_judgePhase_50 (by decide) (fun q13 => ?_) (fun q13 => ?_)
          · have hf := it q13 hf
            refine lv_iconst (v := 1) hx hb dX0_judgePhase_57 (by decide) ?_
            exact W.iret hx hb hr (fun t ht hW => ⟨⟨_, (), rfl, sm hf, by rw [ht]; exact hP, hD⟩, hS.F ht⟩) hS.2.2 dX0_judgePhase_58
          · have hf := ie q13 hf
            refine lv_iconst (v := 0) hx hb dX0_judgePhase_53 (by decide) ?_
            refine lv_goto (tgt := 58) hx hb dX0_judgePhase_54 (by decide) ?_
            exact W.iret hx hb hr (fun t ht hW => ⟨⟨_, (), rfl, sm hf, by rw [ht]; exact hP, hD⟩, hS.F ht⟩) hS.2.2 dX0_judgePhase_58
        · have hf := ie q12 hf
          refine lv_iconst (v := 2) hx hb dX0_judgePhase_39 (by decide) ?_
          exact W.iret hx hb hr (fun t ht hW => ⟨⟨_, (), rfl, sm hf, by rw [ht]; exact hP, hD⟩, hS.F ht⟩) hS.2.2 dX0_judgePhase_40
      · have hf := it q9 hf
        refine lv_bipush (v := 8) hx hb dX0_judgePhase_26 (by decide) ?_
        exact W.iret hx hb hr (fun t ht hW => ⟨⟨_, (), rfl, sm hf, by rw [ht]; exact hP, hD⟩, hS.F ht⟩) hS.2.2 dX0_judgePhase_28
/-! X0_appendPhase -/
def f_X0_appendPhase (a0 : Ar) (a1 : Ar) (a2 : Ar) (a3 : Int32) (a4 : Int32) (a5 : Int32) (a6 : Int32) (a7 : Int32) (a8 : Int32) (a9 : Int32) (a10 : Int32) (a11 : Ar) (a12 : Ar) (a13 : Ar) (a14 : Ar) (a15 : Int32) (a16 : Ar) (a17 : Int32) (a18 : Int32) (a19 : Int32) (p1 : Int32) (p2 : Int32) (p3 : Int32) : Option (Int32 × SX0) :=
  bX2 (f_X2_append a0 a1 a2 a3 a4 a5 a6 p1 p2 p3) fun c2_0 c2_1 c2_2 c2_3 c2_4 c2_5 c2_6 =>
  some ((c2_3 - 1), ((c2_0, c2_1, c2_2, c2_3, c2_4, c2_5, c2_6), (a7, a8, a9, a10), (a11, a12, a13, a14, a15), (a16, a17, a18, a19)))
set_option maxRecDepth 100000 in
set_option maxHeartbeats 4000000 in
theorem m_X0_appendPhase (l : Launch) (dC : Nat → ClassId) (dI : Nat → Nat → Nat) (dA gz : Nat → Nat) (oa : Nat → Nat) (sz : Nat) (a0 : Ar) (a1 : Ar) (a2 : Ar) (a3 : Int32) (a4 : Int32) (a5 : Int32) (a6 : Int32) (a7 : Int32) (a8 : Int32) (a9 : Int32) (a10 : Int32) (a11 : Ar) (a12 : Ar) (a13 : Ar) (a14 : Ar) (a15 : Int32) (a16 : Ar) (a17 : Int32) (a18 : Int32) (a19 : Int32) (p1 : Int32) (p2 : Int32) (p3 : Int32) (rr : Int32) (uu : SX0) (hf : f_X0_appendPhase a0 a1 a2 a3 a4 a5 a6 a7 a8 a9 a10 a11 a12 a13 a14 a15 a16 a17 a18 a19 p1 p2 p3 = some (rr, uu)) : Met l yX0_appendPhase ws_X0_appendPhase ({ frames := 14, cells := 0, slots := 0, locals := 400 } : Room) (va_Pc [.ref (oa 0), .int p1, .int p2, .int p3] (pP (dC, dI) dA gz (wX0 dA oa ((a0, a1, a2, a3, a4, a5, a6), (a7, a8, a9, a10), (a11, a12, a13, a14, a15), (a16, a17, a18, a19))) sz)) (va_Qi (S := Unit) (fun r' _ => r' = rr) (fun _ t => pQ (dC, dI) (va_A (wX0 dA oa ((a0, a1, a2, a3, a4, a5, a6), (a7, a8, a9, a10), (a11, a12, a13, a14, a15), (a16, a17, a18, a19))) sz) (wX0 dA oa uu) t) (va_A (wX0 dA oa ((a0, a1, a2, a3, a4, a5, a6), (a7, a8, a9, a10), (a11, a12, a13, a14, a15), (a16, a17, a18, a19))) sz)) 0 0 (va_A (wX0 dA oa ((a0, a1, a2, a3, a4, a5, a6), (a7, a8, a9, a10), (a11, a12, a13, a14, a15), (a16, a17, a18, a19))) sz) := by
  refine Met.ofW (cc := cX0_appendPhase) (maxL := 4) (ret := (some .int)) (by decide) rfl ?_
  intro p e s m args below meth c s₁ B hml hv
  obtain ⟨rfl, hsz, hP, hK, hD0, hN, hZ⟩ := hv
  have hx := B.exec
  have hb := B.bytes
  have hr := B.returns
  have hts := atoms_spec (ws := ws_X0_appendPhase) B.pre
  have hown : s.vm.findClass RX0 = some m.cls := findClass_of_methodNamed B.named
  have hlocks := B.notSynchronized
  subst hsz
  have hD := hD0.self (sz := s.heap.size)
  generalize hAe : va_A (wX0 dA oa ((a0, a1, a2, a3, a4, a5, a6), (a7, a8, a9, a10), (a11, a12, a13, a14, a15), (a16, a17, a18, a19))) s.heap.size = A at hD hZ ⊢
  have hA : ∀ q : Nat, s.heap.size ≤ q → A q := fun q h => by rw [← hAe]; exact Or.inr h
  have hS : va_S A s.heap s.heap [] := va_S.rf
  have hP : va_P (dC, dI) vwCl [(oa 0, .inr (4, [.ref (oa 1), .ref (oa 5), .ref (oa 6), .ref (oa 11)])), (oa 1, .inr (6, [.ref (oa 2), .ref (oa 3), .ref (oa 4), .int a3, .int a4, .int a5, .int a6])), (oa 2, .inl (dA 0, 8, .inl a0)), (oa 3, .inl (dA 1, 8, .inl a1)), (oa 4, .inl (dA 1, 8, .inl a2)), (oa 5, .inr (5, [.int a7, .int a8, .int a9, .int a10])), (oa 6, .inr (8, [.ref (oa 7), .ref (oa 8), .ref (oa 9), .ref (oa 10), .int a15])), (oa 7, .inl (dA 1, 12, .inl a11)), (oa 8, .inl (dA 1, 12, .inl a12)), (oa 9, .inl (dA 1, 12, .inl a13)), (oa 10, .inl (dA 1, 12, .inl a14)), (oa 11, .inr (9, [.ref (oa 12), .int a17, .int a18, .int a19])), (oa 12, .inl (dA 1, 5, .inl a16))] s.heap := hP
  have hD : va_D A [(oa 0, .inr (4, [.ref (oa 1), .ref (oa 5), .ref (oa 6), .ref (oa 11)])), (oa 1, .inr (6, [.ref (oa 2), .ref (oa 3), .ref (oa 4), .int a3, .int a4, .int a5, .int a6])), (oa 2, .inl (dA 0, 8, .inl a0)), (oa 3, .inl (dA 1, 8, .inl a1)), (oa 4, .inl (dA 1, 8, .inl a2)), (oa 5, .inr (5, [.int a7, .int a8, .int a9, .int a10])), (oa 6, .inr (8, [.ref (oa 7), .ref (oa 8), .ref (oa 9), .ref (oa 10), .int a15])), (oa 7, .inl (dA 1, 12, .inl a11)), (oa 8, .inl (dA 1, 12, .inl a12)), (oa 9, .inl (dA 1, 12, .inl a13)), (oa 10, .inl (dA 1, 12, .inl a14)), (oa 11, .inr (9, [.ref (oa 12), .int a17, .int a18, .int a19])), (oa 12, .inl (dA 1, 5, .inl a16))] := hD
  have hl := lv_entry [.ref (oa 0), .int p1, .int p2, .int p3] (n := 4) (Nat.le_of_ble_eq_true rfl)
  rw [lg_entry_eq]
  generalize (lg_sl [.ref (oa 0), .int p1, .int p2, .int p3] ++ List.replicate (4 - (lg_sl [.ref (oa 0), .int p1, .int p2, .int p3]).length) Slot.unset).toArray = ls at hl ⊢
  have hl : lv_has ls 4 [(0, .ref (oa 0)), (1, .int p1), (2, .int p2), (3, .int p3)] := hl
  have in_X0 : ∀ w ∈ wsX00, w ∈ ws_X0_appendPhase := fun w h => bg _ (inB_X0 w h)
  have in_X2 : ∀ w ∈ wsX20, w ∈ ws_X0_appendPhase := fun w h => bg _ (inB_X2 w h)
  rw [f_X0_appendPhase] at hf
  refine lv_aload_n hx hb dX0_appendPhase_0 rfl (lv_at hl 0 rfl) ?_
  refine va_get (D := (dC, dI)) (ci := 4) (v := .ref (oa 1)) (C := RX0) (T := TX0) (N := 4) hx hb hts in_X0 hown hK hP 0 rfl rfl 0 (by decide) (hts _ (bg _ wd_166)) (fun _ h9 => h9) rfl dX0_appendPhase_1 ?_
  refine lv_iload_n hx hb dX0_appendPhase_4 rfl (lv_at hl 1 rfl) ?_
  refine lv_iload_n hx hb dX0_appendPhase_5 rfl (lv_at hl 2 rfl) ?_
  refine lv_iload_n hx hb dX0_appendPhase_6 rfl (lv_at hl 3 rfl) ?_
  obtain ⟨c2_0, c2_1, c2_2, c2_3, c2_4, c2_5, c2_6, e1, hf⟩ := bX2_inv hf
  refine jn_v (va_runV (As := [.int p1, .int p2, .int p3]) (rest := []) ⟨hx, hb, hml, hown, hts⟩ (m_X2_append l dC dI dA gz (fun k => oa (1 + k)) s.heap.size a0 a1 a2 a3 a4 a5 a6 p1 p2 p3 (c2_0, c2_1, c2_2, c2_3, c2_4, c2_5, c2_6) e1) (cwV 3 hts (gi_v bg wd_489 wd_490 wd_491 wd_3 wd_492) rfl rfl rfl hd_X2_append ⟨Nat.le_of_ble_eq_true rfl, Nat.le_of_ble_eq_true rfl⟩) ⟨pP_blind, va_recv (ci := 6) (q0 := 1) hK hP rfl rfl, pP_pre hP hD hS hA hK hN hZ [1, 2, 3, 4] (by decide) rfl⟩ rfl rfl hl.1 rfl (lv_room (Nat.le_of_ble_eq_true rfl)) dX0_appendPhase_7 ⟨Nat.le_of_ble_eq_true rfl, Nat.le_of_ble_eq_true rfl⟩) hP hD hS hA [1, 2, 3, 4] rfl rfl (fun H locs hP hD hS => ?_)
  have hP : va_P (dC, dI) vwCl [(oa 0, .inr (4, [.ref (oa 1), .ref (oa 5), .ref (oa 6), .ref (oa 11)])), (oa 1, .inr (6, [.ref (oa 2), .ref (oa 3), .ref (oa 4), .int c2_3, .int c2_4, .int c2_5, .int c2_6])), (oa 2, .inl (dA 0, 8, .inl c2_0)), (oa 3, .inl (dA 1, 8, .inl c2_1)), (oa 4, .inl (dA 1, 8, .inl c2_2)), (oa 5, .inr (5, [.int a7, .int a8, .int a9, .int a10])), (oa 6, .inr (8, [.ref (oa 7), .ref (oa 8), .ref (oa 9), .ref (oa 10), .int a15])), (oa 7, .inl (dA 1, 12, .inl a11)), (oa 8, .inl (dA 1, 12, .inl a12)), (oa 9, .inl (dA 1, 12, .inl a13)), (oa 10, .inl (dA 1, 12, .inl a14)), (oa 11, .inr (9, [.ref (oa 12), .int a17, .int a18, .int a19])), (oa 12, .inl (dA 1, 5, .inl a16))] H := hP
  have hD : va_D A [(oa 0, .inr (4, [.ref (oa 1), .ref (oa 5), .ref (oa 6), .ref (oa 11)])), (oa 1, .inr (6, [.ref (oa 2), .ref (oa 3), .ref (oa 4), .int c2_3, .int c2_4, .int c2_5, .int c2_6])), (oa 2, .inl (dA 0, 8, .inl c2_0)), (oa 3, .inl (dA 1, 8, .inl c2_1)), (oa 4, .inl (dA 1, 8, .inl c2_2)), (oa 5, .inr (5, [.int a7, .int a8, .int a9, .int a10])), (oa 6, .inr (8, [.ref (oa 7), .ref (oa 8), .ref (oa 9), .ref (oa 10), .int a15])), (oa 7, .inl (dA 1, 12, .inl a11)), (oa 8, .inl (dA 1, 12, .inl a12)), (oa 9, .inl (dA 1, 12, .inl a13)), (oa 10, .inl (dA 1, 12, .inl a14)), (oa 11, .inr (9, [.ref (oa 12), .int a17, .int a18, .int a19])), (oa 12, .inl (dA 1, 5, .inl a16))] := hD
  refine lv_aload_n hx hb dX0_appendPhase_10 rfl (lv_at hl 0 rfl) ?_
  refine va_get (D := (dC, dI)) (ci := 4) (v := .ref (oa 1)) (C := RX0) (T := TX0) (N := 4) hx hb hts in_X0 hown hK hP 0 rfl rfl 0 (by decide) (hts _ (bg _ wd_166)) (fun _ h9 => h9) rfl dX0_appendPhase_11 ?_
  refine va_get (D := (dC, dI)) (ci := 6) (v := .int c2_3) (C := RX2) (T := TX2) (N := 7) hx hb hts in_X2 hown hK hP 1 rfl rfl 3 (by decide) (hts _ (bg _ wd_61)) (fun _ h9 => h9) rfl dX0_appendPhase_14 ?_
  refine lv_iconst (v := 1) hx hb dX0_appendPhase_17 (by decide) ?_
  refine lv_isub hx hb dX0_appendPhase_18 ?_
  obtain ⟨e8, e9⟩ := Prod.mk.inj (sm hf)
  exact W.iret hx hb hr (fun t ht hW => ⟨⟨_, (), rfl, e8, by rw [← e9, ht]; exact hP, by rw [← e9]; exact hD⟩, hS.F ht⟩) hS.2.2 dX0_appendPhase_19
/-! X0_judgeCut -/
def f_X0_judgeCut (a0 : Ar) (a1 : Ar) (a2 : Ar) (a3 : Int32) (a4 : Int32) (a5 : Int32) (a6 : Int32) (a7 : Int32) (a8 : Int32) (a9 : Int32) (a10 : Int32) (a11 : Ar) (a12 : Ar) (a13 : Ar) (a14 : Ar) (a15 : Int32) (a16 : Ar) (a17 : Int32) (a18 : Int32) (a19 : Int32) (p1 : Int32) : Option (Int32) :=
  (f_X2_has a0 a1 a2 a3 a4 a5 a6 p1).bind fun r2 =>
  (if r2 = 0 then some 8 else
  (f_X2_isUnderWay a0 a1 a2 a3 a4 a5 a6).bind fun r5 =>
  (if r5 = 0 then some 0 else
  some 2))
set_option maxRecDepth 100000 in
set_option maxHeartbeats 4000000 in
theorem m_X0_judgeCut (l : Launch) (dC : Nat → ClassId) (dI : Nat → Nat → Nat) (dA gz : Nat → Nat) (oa : Nat → Nat) (sz : Nat) (a0 : Ar) (a1 : Ar) (a2 : Ar) (a3 : Int32) (a4 : Int32) (a5 : Int32) (a6 : Int32) (a7 : Int32) (a8 : Int32) (a9 : Int32) (a10 : Int32) (a11 : Ar) (a12 : Ar) (a13 : Ar) (a14 : Ar) (a15 : Int32) (a16 : Ar) (a17 : Int32) (a18 : Int32) (a19 : Int32) (p1 : Int32) (rr : Int32) (hf : f_X0_judgeCut a0 a1 a2 a3 a4 a5 a6 a7 a8 a9 a10 a11 a12 a13 a14 a15 a16 a17 a18 a19 p1 = some rr) : Met l yX0_judgeCut ws_X0_judgeCut ({ frames := 18, cells := 0, slots := 0, locals := 600 } : Room) (va_Pc [.ref (oa 0), .int p1] (pP (dC, dI) dA gz (wX0 dA oa ((a0, a1, a2, a3, a4, a5, a6), (a7, a8, a9, a10), (a11, a12, a13, a14, a15), (a16, a17, a18, a19))) sz)) (va_Qi (S := Unit) (fun r' _ => r' = rr) (fun _ t => pQ (dC, dI) (va_A (wX0 dA oa ((a0, a1, a2, a3, a4, a5, a6), (a7, a8, a9, a10), (a11, a12, a13, a14, a15), (a16, a17, a18, a19))) sz) (wX0 dA oa ((a0, a1, a2, a3, a4, a5, a6), (a7, a8, a9, a10), (a11, a12, a13, a14, a15), (a16, a17, a18, a19))) t) (va_A (wX0 dA oa ((a0, a1, a2, a3, a4, a5, a6), (a7, a8, a9, a10), (a11, a12, a13, a14, a15), (a16, a17, a18, a19))) sz)) 0 0 (va_A (wX0 dA oa ((a0, a1, a2, a3, a4, a5, a6), (a7, a8, a9, a10), (a11, a12, a13, a14, a15), (a16, a17, a18, a19))) sz) := by
  refine Met.ofW (cc := cX0_judgeCut) (maxL := 2) (ret := (some .int)) (by decide) rfl ?_
  intro p e s m args below meth c s₁ B hml hv
  obtain ⟨rfl, hsz, hP, hK, hD0, hN, hZ⟩ := hv
  have hx := B.exec
  have hb := B.bytes
  have hr := B.returns
  have hts := atoms_spec (ws := ws_X0_judgeCut) B.pre
  have hown : s.vm.findClass RX0 = some m.cls := findClass_of_methodNamed B.named
  have hlocks := B.notSynchronized
  subst hsz
  have hD := hD0.self (sz := s.heap.size)
  generalize hAe : va_A (wX0 dA oa ((a0, a1, a2, a3, a4, a5, a6), (a7, a8, a9, a10), (a11, a12, a13, a14, a15), (a16, a17, a18, a19))) s.heap.size = A at hD hZ ⊢
  have hA : ∀ q : Nat, s.heap.size ≤ q → A q := fun q h => by rw [← hAe]; exact Or.inr h
  have hS : va_S A s.heap s.heap [] := va_S.rf
  have hP : va_P (dC, dI) vwCl [(oa 0, .inr (4, [.ref (oa 1), .ref (oa 5), .ref (oa 6), .ref (oa 11)])), (oa 1, .inr (6, [.ref (oa 2), .ref (oa 3), .ref (oa 4), .int a3, .int a4, .int a5, .int a6])), (oa 2, .inl (dA 0, 8, .inl a0)), (oa 3, .inl (dA 1, 8, .inl a1)), (oa 4, .inl (dA 1, 8, .inl a2)), (oa 5, .inr (5, [.int a7, .int a8, .int a9, .int a10])), (oa 6, .inr (8, [.ref (oa 7), .ref (oa 8), .ref (oa 9), .ref (oa 10), .int a15])), (oa 7, .inl (dA 1, 12, .inl a11)), (oa 8, .inl (dA 1, 12, .inl a12)), (oa 9, .inl (dA 1, 12, .inl a13)), (oa 10, .inl (dA 1, 12, .inl a14)), (oa 11, .inr (9, [.ref (oa 12), .int a17, .int a18, .int a19])), (oa 12, .inl (dA 1, 5, .inl a16))] s.heap := hP
  have hD : va_D A [(oa 0, .inr (4, [.ref (oa 1), .ref (oa 5), .ref (oa 6), .ref (oa 11)])), (oa 1, .inr (6, [.ref (oa 2), .ref (oa 3), .ref (oa 4), .int a3, .int a4, .int a5, .int a6])), (oa 2, .inl (dA 0, 8, .inl a0)), (oa 3, .inl (dA 1, 8, .inl a1)), (oa 4, .inl (dA 1, 8, .inl a2)), (oa 5, .inr (5, [.int a7, .int a8, .int a9, .int a10])), (oa 6, .inr (8, [.ref (oa 7), .ref (oa 8), .ref (oa 9), .ref (oa 10), .int a15])), (oa 7, .inl (dA 1, 12, .inl a11)), (oa 8, .inl (dA 1, 12, .inl a12)), (oa 9, .inl (dA 1, 12, .inl a13)), (oa 10, .inl (dA 1, 12, .inl a14)), (oa 11, .inr (9, [.ref (oa 12), .int a17, .int a18, .int a19])), (oa 12, .inl (dA 1, 5, .inl a16))] := hD
  have hl := lv_entry [.ref (oa 0), .int p1] (n := 2) (Nat.le_of_ble_eq_true rfl)
  rw [lg_entry_eq]
  generalize (lg_sl [.ref (oa 0), .int p1] ++ List.replicate (2 - (lg_sl [.ref (oa 0), .int p1]).length) Slot.unset).toArray = ls at hl ⊢
  have hl : lv_has ls 2 [(0, .ref (oa 0)), (1, .int p1)] := hl
  have in_X0 : ∀ w ∈ wsX00, w ∈ ws_X0_judgeCut := fun w h => bg _ (inB_X0 w h)
  rw [f_X0_judgeCut] at hf
  refine lv_aload_n hx hb dX0_judgeCut_0 rfl (lv_at hl 0 rfl) ?_
  refine va_get (D := (dC, dI)) (ci := 4) (v := .ref (oa 1)) (C := RX0) (T := TX0) (N := 4) hx hb hts in_X0 hown hK hP 0 rfl rfl 0 (by decide) (hts _ (bg _ wd_166)) (fun _ h9 => h9) rfl dX0_judgeCut_1 ?_
  refine lv_iload_n hx hb dX0_judgeCut_4 rfl (lv_at hl 1 rfl) ?_
  obtain ⟨r2, e1, hf⟩ := bd hf
  refine jr_i (va_runV (As := [.int p1]) (rest := []) ⟨hx, hb, hml, hown, hts⟩ (m_X2_has l dC dI dA gz (fun k => oa (1 + k)) s.heap.size a0 a1 a2 a3 a4 a5 a6 p1 r2 e1) (cwV 1 hts (gi_v bg wd_735 wd_370 wd_371 wd_3 wd_372) rfl rfl rfl hd_X2_has ⟨Nat.le_of_ble_eq_true rfl, Nat.le_of_ble_eq_true rfl⟩) ⟨pP_blind, va_recv (ci := 6) (q0 := 1) hK hP rfl rfl, pP_pre hP hD hS hA hK hN hZ [1, 2, 3, 4] (by decide) rfl⟩ rfl rfl hl.1 rfl (lv_room (Nat.le_of_ble_eq_true rfl)) dX0_judgeCut_5 ⟨Nat.le_of_ble_eq_true rfl, Nat.le_of_ble_eq_true rfl⟩) hP hD hS hA [1, 2, 3, 4] rfl (fun H locs hP hS => ?_)
  refine lv_if_ne (tgt := 14) hx hb dX0_judgeCut_8 (by decide) (fun q3 => ?_) (fun q3 => ?_)
  · have hf := ie q3 hf
    refine lv_aload_n hx hb dX0_judgeCut_14 rfl (lv_at hl 0 rfl) ?_
    refine va_get (D := (dC, dI)) (ci := 4) (v := .ref (oa 1)) (C := RX0) (T := TX0) (N := 4) hx hb hts in_X0 hown hK hP 0 rfl rfl 0 (by decide) (hts _ (bg _ wd_166)) (fun _ h9 => h9) rfl dX0_judgeCut_15 ?_
    obtain ⟨r5, e4, hf⟩ := bd hf
    refine jr_i (va_runV (As := []) (rest := []) ⟨hx, hb, hml, hown, hts⟩ (m_X2_isUnderWay l dC dI dA gz (fun k => oa (1 + k)) H.size a0 a1 a2 a3 a4 a5 a6 r5 e4) (cwV 0 hts (gi_v bg wd_365 wd_366 wd_367 wd_3 wd_368) rfl rfl rfl hd_X2_isUnderWay ⟨Nat.le_of_ble_eq_true rfl, Nat.le_of_ble_eq_true rfl⟩) ⟨pP_blind, va_recv (ci := 6) (q0 := 1) hK hP rfl rfl, pP_pre hP hD hS hA hK hN hZ [1, 2, 3, 4] (by decide) rfl⟩ rfl rfl hl.1 rfl (lv_room (Nat.le_of_ble_eq_true rfl)) dX0_judgeCut_18 ⟨Nat.le_of_ble_eq_true rfl, Nat.le_of_ble_eq_true rfl⟩) hP hD hS hA [1, 2, 3, 4] rfl (fun H locs hP hS => ?_)
    refine lv_if_eq (tgt := 28) hx hb dX0_judgeCut_21 (by decide) (fun q6 => ?_) (fun q6 => ?_)
    · have hf := it q6 hf
      refine lv_iconst (v := 0) hx hb dX0_judgeCut_28 (by decide) ?_
      exact W.iret hx hb hr (fun t ht hW => ⟨⟨_, (), rfl, sm hf, by rw [ht]; exact hP, hD⟩, hS.F ht⟩) hS.2.2 dX0_judgeCut_29
    · have hf := ie q6 hf
      refine lv_iconst (v := 2) hx hb dX0_judgeCut_24 (by decide) ?_
      refine lv_goto (tgt := 29) hx hb dX0_judgeCut_25 (by decide) ?_
      exact W.iret hx hb hr (fun t ht hW => ⟨⟨_, (), rfl, sm hf, by rw [ht]; exact hP, hD⟩, hS.F ht⟩) hS.2.2 dX0_judgeCut_29
  · have hf := it q3 hf
    refine lv_bipush (v := 8) hx hb dX0_judgeCut_11 (by decide) ?_
    exact W.iret hx hb hr (fun t ht hW => ⟨⟨_, (), rfl, sm hf, by rw [ht]; exact hP, hD⟩, hS.F ht⟩) hS.2.2 dX0_judgeCut_13
/-! X0_cutPhase -/
def f_X0_cutPhase (a0 : Ar) (a1 : Ar) (a2 : Ar) (a3 : Int32) (a4 : Int32) (a5 : Int32) (a6 : Int32) (a7 : Int32) (a8 : Int32) (a9 : Int32) (a10 : Int32) (a11 : Ar) (a12 : Ar) (a13 : Ar) (a14 : Ar) (a15 : Int32) (a16 : Ar) (a17 : Int32) (a18 : Int32) (a19 : Int32) (p1 : Int32) : Option (Int32 × SX0) :=
  bX2 (f_X2_remove a0 a1 a2 a3 a4 a5 a6 p1) fun c2_0 c2_1 c2_2 c2_3 c2_4 c2_5 c2_6 =>
  some (c2_3, ((c2_0, c2_1, c2_2, c2_3, c2_4, c2_5, c2_6), (a7, a8, a9, a10), (a11, a12, a13, a14, a15), (a16, a17, a18, a19)))
set_option maxRecDepth 100000 in
set_option maxHeartbeats 4000000 in
theorem m_X0_cutPhase (l : Launch) (dC : Nat → ClassId) (dI : Nat → Nat → Nat) (dA gz : Nat → Nat) (oa : Nat → Nat) (sz : Nat) (a0 : Ar) (a1 : Ar) (a2 : Ar) (a3 : Int32) (a4 : Int32) (a5 : Int32) (a6 : Int32) (a7 : Int32) (a8 : Int32) (a9 : Int32) (a10 : Int32) (a11 : Ar) (a12 : Ar) (a13 : Ar) (a14 : Ar) (a15 : Int32) (a16 : Ar) (a17 : Int32) (a18 : Int32) (a19 : Int32) (p1 : Int32) (rr : Int32) (uu : SX0) (hf : f_X0_cutPhase a0 a1 a2 a3 a4 a5 a6 a7 a8 a9 a10 a11 a12 a13 a14 a15 a16 a17 a18 a19 p1 = some (rr, uu)) : Met l yX0_cutPhase ws_X0_cutPhase ({ frames := 18, cells := 0, slots := 0, locals := 600 } : Room) (va_Pc [.ref (oa 0), .int p1] (pP (dC, dI) dA gz (wX0 dA oa ((a0, a1, a2, a3, a4, a5, a6), (a7, a8, a9, a10), (a11, a12, a13, a14, a15), (a16, a17, a18, a19))) sz)) (va_Qi (S := Unit) (fun r' _ => r' = rr) (fun _ t => pQ (dC, dI) (va_A (wX0 dA oa ((a0, a1, a2, a3, a4, a5, a6), (a7, a8, a9, a10), (a11, a12, a13, a14, a15), (a16, a17, a18, a19))) sz) (wX0 dA oa uu) t) (va_A (wX0 dA oa ((a0, a1, a2, a3, a4, a5, a6), (a7, a8, a9, a10), (a11, a12, a13, a14, a15), (a16, a17, a18, a19))) sz)) 0 0 (va_A (wX0 dA oa ((a0, a1, a2, a3, a4, a5, a6), (a7, a8, a9, a10), (a11, a12, a13, a14, a15), (a16, a17, a18, a19))) sz) := by
  refine Met.ofW (cc := cX0_cutPhase) (maxL := 2) (ret := (some .int)) (by decide) rfl ?_
  intro p e s m args below meth c s₁ B hml hv
  obtain ⟨rfl, hsz, hP, hK, hD0, hN, hZ⟩ := hv
  have hx := B.exec
  have hb := B.bytes
  have hr := B.returns
  have hts := atoms_spec (ws := ws_X0_cutPhase) B.pre
  have hown : s.vm.findClass RX0 = some m.cls := findClass_of_methodNamed B.named
  have hlocks := B.notSynchronized
  subst hsz
  have hD := hD0.self (sz := s.heap.size)
  generalize hAe : va_A (wX0 dA oa ((a0, a1, a2, a3, a4, a5, a6), (a7, a8, a9, a10), (a11, a12, a13, a14, a15), (a16, a17, a18, a19))) s.heap.size = A at hD hZ ⊢
  have hA : ∀ q : Nat, s.heap.size ≤ q → A q := fun q h => by rw [← hAe]; exact Or.inr h
  have hS : va_S A s.heap s.heap [] := va_S.rf
  have hP : va_P (dC, dI) vwCl [(oa 0, .inr (4, [.ref (oa 1), .ref (oa 5), .ref (oa 6), .ref (oa 11)])), (oa 1, .inr (6, [.ref (oa 2), .ref (oa 3), .ref (oa 4), .int a3, .int a4, .int a5, .int a6])), (oa 2, .inl (dA 0, 8, .inl a0)), (oa 3, .inl (dA 1, 8, .inl a1)), (oa 4, .inl (dA 1, 8, .inl a2)), (oa 5, .inr (5, [.int a7, .int a8, .int a9, .int a10])), (oa 6, .inr (8, [.ref (oa 7), .ref (oa 8), .ref (oa 9), .ref (oa 10), .int a15])), (oa 7, .inl (dA 1, 12, .inl a11)), (oa 8, .inl (dA 1, 12, .inl a12)), (oa 9, .inl (dA 1, 12, .inl a13)), (oa 10, .inl (dA 1, 12, .inl a14)), (oa 11, .inr (9, [.ref (oa 12), .int a17, .int a18, .int a19])), (oa 12, .inl (dA 1, 5, .inl a16))] s.heap := hP
  have hD : va_D A [(oa 0, .inr (4, [.ref (oa 1), .ref (oa 5), .ref (oa 6), .ref (oa 11)])), (oa 1, .inr (6, [.ref (oa 2), .ref (oa 3), .ref (oa 4), .int a3, .int a4, .int a5, .int a6])), (oa 2, .inl (dA 0, 8, .inl a0)), (oa 3, .inl (dA 1, 8, .inl a1)), (oa 4, .inl (dA 1, 8, .inl a2)), (oa 5, .inr (5, [.int a7, .int a8, .int a9, .int a10])), (oa 6, .inr (8, [.ref (oa 7), .ref (oa 8), .ref (oa 9), .ref (oa 10), .int a15])), (oa 7, .inl (dA 1, 12, .inl a11)), (oa 8, .inl (dA 1, 12, .inl a12)), (oa 9, .inl (dA 1, 12, .inl a13)), (oa 10, .inl (dA 1, 12, .inl a14)), (oa 11, .inr (9, [.ref (oa 12), .int a17, .int a18, .int a19])), (oa 12, .inl (dA 1, 5, .inl a16))] := hD
  have hl := lv_entry [.ref (oa 0), .int p1] (n := 2) (Nat.le_of_ble_eq_true rfl)
  rw [lg_entry_eq]
  generalize (lg_sl [.ref (oa 0), .int p1] ++ List.replicate (2 - (lg_sl [.ref (oa 0), .int p1]).length) Slot.unset).toArray = ls at hl ⊢
  have hl : lv_has ls 2 [(0, .ref (oa 0)), (1, .int p1)] := hl
  have in_X0 : ∀ w ∈ wsX00, w ∈ ws_X0_cutPhase := fun w h => bg _ (inB_X0 w h)
  have in_X2 : ∀ w ∈ wsX20, w ∈ ws_X0_cutPhase := fun w h => bg _ (inB_X2 w h)
  rw [f_X0_cutPhase] at hf
  refine lv_aload_n hx hb dX0_cutPhase_0 rfl (lv_at hl 0 rfl) ?_
  refine va_get (D := (dC, dI)) (ci := 4) (v := .ref (oa 1)) (C := RX0) (T := TX0) (N := 4) hx hb hts in_X0 hown hK hP 0 rfl rfl 0 (by decide) (hts _ (bg _ wd_166)) (fun _ h9 => h9) rfl dX0_cutPhase_1 ?_
  refine lv_iload_n hx hb dX0_cutPhase_4 rfl (lv_at hl 1 rfl) ?_
  obtain ⟨c2_0, c2_1, c2_2, c2_3, c2_4, c2_5, c2_6, e1, hf⟩ := bX2_inv hf
  refine jn_v (va_runV (As := [.int p1]) (rest := []) ⟨hx, hb, hml, hown, hts⟩ (m_X2_remove l dC dI dA gz (fun k => oa (1 + k)) s.heap.size a0 a1 a2 a3 a4 a5 a6 p1 (c2_0, c2_1, c2_2, c2_3, c2_4, c2_5, c2_6) e1) (cwV 1 hts (gi_v bg wd_766 wd_767 wd_768 wd_3 wd_769) rfl rfl rfl hd_X2_remove ⟨Nat.le_of_ble_eq_true rfl, Nat.le_of_ble_eq_true rfl⟩) ⟨pP_blind, va_recv (ci := 6) (q0 := 1) hK hP rfl rfl, pP_pre hP hD hS hA hK hN hZ [1, 2, 3, 4] (by decide) rfl⟩ rfl rfl hl.1 rfl (lv_room (Nat.le_of_ble_eq_true rfl)) dX0_cutPhase_5 ⟨Nat.le_of_ble_eq_true rfl, Nat.le_of_ble_eq_true rfl⟩) hP hD hS hA [1, 2, 3, 4] rfl rfl (fun H locs hP hD hS => ?_)
  have hP : va_P (dC, dI) vwCl [(oa 0, .inr (4, [.ref (oa 1), .ref (oa 5), .ref (oa 6), .ref (oa 11)])), (oa 1, .inr (6, [.ref (oa 2), .ref (oa 3), .ref (oa 4), .int c2_3, .int c2_4, .int c2_5, .int c2_6])), (oa 2, .inl (dA 0, 8, .inl c2_0)), (oa 3, .inl (dA 1, 8, .inl c2_1)), (oa 4, .inl (dA 1, 8, .inl c2_2)), (oa 5, .inr (5, [.int a7, .int a8, .int a9, .int a10])), (oa 6, .inr (8, [.ref (oa 7), .ref (oa 8), .ref (oa 9), .ref (oa 10), .int a15])), (oa 7, .inl (dA 1, 12, .inl a11)), (oa 8, .inl (dA 1, 12, .inl a12)), (oa 9, .inl (dA 1, 12, .inl a13)), (oa 10, .inl (dA 1, 12, .inl a14)), (oa 11, .inr (9, [.ref (oa 12), .int a17, .int a18, .int a19])), (oa 12, .inl (dA 1, 5, .inl a16))] H := hP
  have hD : va_D A [(oa 0, .inr (4, [.ref (oa 1), .ref (oa 5), .ref (oa 6), .ref (oa 11)])), (oa 1, .inr (6, [.ref (oa 2), .ref (oa 3), .ref (oa 4), .int c2_3, .int c2_4, .int c2_5, .int c2_6])), (oa 2, .inl (dA 0, 8, .inl c2_0)), (oa 3, .inl (dA 1, 8, .inl c2_1)), (oa 4, .inl (dA 1, 8, .inl c2_2)), (oa 5, .inr (5, [.int a7, .int a8, .int a9, .int a10])), (oa 6, .inr (8, [.ref (oa 7), .ref (oa 8), .ref (oa 9), .ref (oa 10), .int a15])), (oa 7, .inl (dA 1, 12, .inl a11)), (oa 8, .inl (dA 1, 12, .inl a12)), (oa 9, .inl (dA 1, 12, .inl a13)), (oa 10, .inl (dA 1, 12, .inl a14)), (oa 11, .inr (9, [.ref (oa 12), .int a17, .int a18, .int a19])), (oa 12, .inl (dA 1, 5, .inl a16))] := hD
  refine lv_aload_n hx hb dX0_cutPhase_8 rfl (lv_at hl 0 rfl) ?_
  refine va_get (D := (dC, dI)) (ci := 4) (v := .ref (oa 1)) (C := RX0) (T := TX0) (N := 4) hx hb hts in_X0 hown hK hP 0 rfl rfl 0 (by decide) (hts _ (bg _ wd_166)) (fun _ h9 => h9) rfl dX0_cutPhase_9 ?_
  refine va_get (D := (dC, dI)) (ci := 6) (v := .int c2_3) (C := RX2) (T := TX2) (N := 7) hx hb hts in_X2 hown hK hP 1 rfl rfl 3 (by decide) (hts _ (bg _ wd_61)) (fun _ h9 => h9) rfl dX0_cutPhase_12 ?_
  obtain ⟨e8, e9⟩ := Prod.mk.inj (sm hf)
  exact W.iret hx hb hr (fun t ht hW => ⟨⟨_, (), rfl, e8, by rw [← e9, ht]; exact hP, by rw [← e9]; exact hD⟩, hS.F ht⟩) hS.2.2 dX0_cutPhase_15
/-! X0_judgeStart -/
def f_X0_judgeStart (a0 : Ar) (a1 : Ar) (a2 : Ar) (a3 : Int32) (a4 : Int32) (a5 : Int32) (a6 : Int32) (a7 : Int32) (a8 : Int32) (a9 : Int32) (a10 : Int32) (a11 : Ar) (a12 : Ar) (a13 : Ar) (a14 : Ar) (a15 : Int32) (a16 : Ar) (a17 : Int32) (a18 : Int32) (a19 : Int32) : Option (Int32) :=
  (f_X2_isUnderWay a0 a1 a2 a3 a4 a5 a6).bind fun r2 =>
  (if r2 = 0 then (if a3 = 0 then some 4 else
  some 0) else
  some 2)
set_option maxRecDepth 100000 in
set_option maxHeartbeats 4000000 in
theorem m_X0_judgeStart (l : Launch) (dC : Nat → ClassId) (dI : Nat → Nat → Nat) (dA gz : Nat → Nat) (oa : Nat → Nat) (sz : Nat) (a0 : Ar) (a1 : Ar) (a2 : Ar) (a3 : Int32) (a4 : Int32) (a5 : Int32) (a6 : Int32) (a7 : Int32) (a8 : Int32) (a9 : Int32) (a10 : Int32) (a11 : Ar) (a12 : Ar) (a13 : Ar) (a14 : Ar) (a15 : Int32) (a16 : Ar) (a17 : Int32) (a18 : Int32) (a19 : Int32) (rr : Int32) (hf : f_X0_judgeStart a0 a1 a2 a3 a4 a5 a6 a7 a8 a9 a10 a11 a12 a13 a14 a15 a16 a17 a18 a19 = some rr) : Met l yX0_judgeStart ws_X0_judgeStart ({ frames := 18, cells := 0, slots := 0, locals := 600 } : Room) (va_Pc [.ref (oa 0)] (pP (dC, dI) dA gz (wX0 dA oa ((a0, a1, a2, a3, a4, a5, a6), (a7, a8, a9, a10), (a11, a12, a13, a14, a15), (a16, a17, a18, a19))) sz)) (va_Qi (S := Unit) (fun r' _ => r' = rr) (fun _ t => pQ (dC, dI) (va_A (wX0 dA oa ((a0, a1, a2, a3, a4, a5, a6), (a7, a8, a9, a10), (a11, a12, a13, a14, a15), (a16, a17, a18, a19))) sz) (wX0 dA oa ((a0, a1, a2, a3, a4, a5, a6), (a7, a8, a9, a10), (a11, a12, a13, a14, a15), (a16, a17, a18, a19))) t) (va_A (wX0 dA oa ((a0, a1, a2, a3, a4, a5, a6), (a7, a8, a9, a10), (a11, a12, a13, a14, a15), (a16, a17, a18, a19))) sz)) 0 0 (va_A (wX0 dA oa ((a0, a1, a2, a3, a4, a5, a6), (a7, a8, a9, a10), (a11, a12, a13, a14, a15), (a16, a17, a18, a19))) sz) := by
  refine Met.ofW (cc := cX0_judgeStart) (maxL := 1) (ret := (some .int)) (by decide) rfl ?_
  intro p e s m args below meth c s₁ B hml hv
  obtain ⟨rfl, hsz, hP, hK, hD0, hN, hZ⟩ := hv
  have hx := B.exec
  have hb := B.bytes
  have hr := B.returns
  have hts := atoms_spec (ws := ws_X0_judgeStart) B.pre
  have hown : s.vm.findClass RX0 = some m.cls := findClass_of_methodNamed B.named
  have hlocks := B.notSynchronized
  subst hsz
  have hD := hD0.self (sz := s.heap.size)
  generalize hAe : va_A (wX0 dA oa ((a0, a1, a2, a3, a4, a5, a6), (a7, a8, a9, a10), (a11, a12, a13, a14, a15), (a16, a17, a18, a19))) s.heap.size = A at hD hZ ⊢
  have hA : ∀ q : Nat, s.heap.size ≤ q → A q := fun q h => by rw [← hAe]; exact Or.inr h
  have hS : va_S A s.heap s.heap [] := va_S.rf
  have hP : va_P (dC, dI) vwCl [(oa 0, .inr (4, [.ref (oa 1), .ref (oa 5), .ref (oa 6), .ref (oa 11)])), (oa 1, .inr (6, [.ref (oa 2), .ref (oa 3), .ref (oa 4), .int a3, .int a4, .int a5, .int a6])), (oa 2, .inl (dA 0, 8, .inl a0)), (oa 3, .inl (dA 1, 8, .inl a1)), (oa 4, .inl (dA 1, 8, .inl a2)), (oa 5, .inr (5, [.int a7, .int a8, .int a9, .int a10])), (oa 6, .inr (8, [.ref (oa 7), .ref (oa 8), .ref (oa 9), .ref (oa 10), .int a15])), (oa 7, .inl (dA 1, 12, .inl a11)), (oa 8, .inl (dA 1, 12, .inl a12)), (oa 9, .inl (dA 1, 12, .inl a13)), (oa 10, .inl (dA 1, 12, .inl a14)), (oa 11, .inr (9, [.ref (oa 12), .int a17, .int a18, .int a19])), (oa 12, .inl (dA 1, 5, .inl a16))] s.heap := hP
  have hD : va_D A [(oa 0, .inr (4, [.ref (oa 1), .ref (oa 5), .ref (oa 6), .ref (oa 11)])), (oa 1, .inr (6, [.ref (oa 2), .ref (oa 3), .ref (oa 4), .int a3, .int a4, .int a5, .int a6])), (oa 2, .inl (dA 0, 8, .inl a0)), (oa 3, .inl (dA 1, 8, .inl a1)), (oa 4, .inl (dA 1, 8, .inl a2)), (oa 5, .inr (5, [.int a7, .int a8, .int a9, .int a10])), (oa 6, .inr (8, [.ref (oa 7), .ref (oa 8), .ref (oa 9), .ref (oa 10), .int a15])), (oa 7, .inl (dA 1, 12, .inl a11)), (oa 8, .inl (dA 1, 12, .inl a12)), (oa 9, .inl (dA 1, 12, .inl a13)), (oa 10, .inl (dA 1, 12, .inl a14)), (oa 11, .inr (9, [.ref (oa 12), .int a17, .int a18, .int a19])), (oa 12, .inl (dA 1, 5, .inl a16))] := hD
  have hl := lv_entry [.ref (oa 0)] (n := 1) (Nat.le_of_ble_eq_true rfl)
  rw [lg_entry_eq]
  generalize (lg_sl [.ref (oa 0)] ++ List.replicate (1 - (lg_sl [.ref (oa 0)]).length) Slot.unset).toArray = ls at hl ⊢
  have hl : lv_has ls 1 [(0, .ref (oa 0))] := hl
  have in_X0 : ∀ w ∈ wsX00, w ∈ ws_X0_judgeStart := fun w h => bg _ (inB_X0 w h)
  have in_X2 : ∀ w ∈ wsX20, w ∈ ws_X0_judgeStart := fun w h => bg _ (inB_X2 w h)
  rw [f_X0_judgeStart] at hf
  refine lv_aload_n hx hb dX0_judgeStart_0 rfl (lv_at hl 0 rfl) ?_
  refine va_get (D := (dC, dI)) (ci := 4) (v := .ref (oa 1)) (C := RX0) (T := TX0) (N := 4) hx hb hts in_X0 hown hK hP 0 rfl rfl 0 (by decide) (hts _ (bg _ wd_166)) (fun _ h9 => h9) rfl dX0_judgeStart_1 ?_
  obtain ⟨r2, e1, hf⟩ := bd hf
  refine jr_i (va_runV (As := []) (rest := []) ⟨hx, hb, hml, hown, hts⟩ (m_X2_isUnderWay l dC dI dA gz (fun k => oa (1 + k)) s.heap.size a0 a1 a2 a3 a4 a5 a6 r2 e1) (cwV 0 hts (gi_v bg wd_365 wd_366 wd_367 wd_3 wd_368) rfl rfl rfl hd_X2_isUnderWay ⟨Nat.le_of_ble_eq_true rfl, Nat.le_of_ble_eq_true rfl⟩) ⟨pP_blind, va_recv (ci := 6) (q0 := 1) hK hP rfl rfl, pP_pre hP hD hS hA hK hN hZ [1, 2, 3, 4] (by decide) rfl⟩ rfl rfl hl.1 rfl (lv_room (Nat.le_of_ble_eq_true rfl)) dX0_judgeStart_4 ⟨Nat.le_of_ble_eq_true rfl, Nat.le_of_ble_eq_true rfl⟩) hP hD hS hA [1, 2, 3, 4] rfl (fun H locs hP hS => ?_)
  refine lv_if_eq (tgt := 12) hx hb dX0_judgeStart_7 (by decide) (fun q3 => ?_) (fun q3 => ?_)
  · have hf := it q3 hf
    refine lv_aload_n hx hb dX0_judgeStart_12 rfl (lv_at hl 0 rfl) ?_
    refine va_get (D := (dC, dI)) (ci := 4) (v := .ref (oa 1)) (C := RX0) (T := TX0) (N := 4) hx hb hts in_X0 hown hK hP 0 rfl rfl 0 (by decide) (hts _ (bg _ wd_166)) (fun _ h9 => h9) rfl dX0_judgeStart_13 ?_
    refine va_get (D := (dC, dI)) (ci := 6) (v := .int a3) (C := RX2) (T := TX2) (N := 7) hx hb hts in_X2 hown hK hP 1 rfl rfl 3 (by decide) (hts _ (bg _ wd_61)) (fun _ h9 => h9) rfl dX0_judgeStart_16 ?_
    refine lv_if_ne (tgt := 26) hx hb dX0_judgeStart_19 (by decide) (fun q4 => ?_) (fun q4 => ?_)
    · have hf := ie q4 hf
      refine lv_iconst (v := 0) hx hb dX0_judgeStart_26 (by decide) ?_
      exact W.iret hx hb hr (fun t ht hW => ⟨⟨_, (), rfl, sm hf, by rw [ht]; exact hP, hD⟩, hS.F ht⟩) hS.2.2 dX0_judgeStart_27
    · have hf := it q4 hf
      refine lv_iconst (v := 4) hx hb dX0_judgeStart_22 (by decide) ?_
      refine lv_goto (tgt := 27) hx hb dX0_judgeStart_23 (by decide) ?_
      exact W.iret hx hb hr (fun t ht hW => ⟨⟨_, (), rfl, sm hf, by rw [ht]; exact hP, hD⟩, hS.F ht⟩) hS.2.2 dX0_judgeStart_27
  · have hf := ie q3 hf
    refine lv_iconst (v := 2) hx hb dX0_judgeStart_10 (by decide) ?_
    exact W.iret hx hb hr (fun t ht hW => ⟨⟨_, (), rfl, sm hf, by rw [ht]; exact hP, hD⟩, hS.F ht⟩) hS.2.2 dX0_judgeStart_11
/-! X0_startCycle -/
def f_X0_startCycle (a0 : Ar) (a1 : Ar) (a2 : Ar) (a3 : Int32) (a4 : Int32) (a5 : Int32) (a6 : Int32) (a7 : Int32) (a8 : Int32) (a9 : Int32) (a10 : Int32) (a11 : Ar) (a12 : Ar) (a13 : Ar) (a14 : Ar) (a15 : Int32) (a16 : Ar) (a17 : Int32) (a18 : Int32) (a19 : Int32) : Option (Int32 × SX0) :=
  bX2 (f_X2_begin a0 a1 a2 a3 a4 a5 a6) fun c2_0 c2_1 c2_2 c2_3 c2_4 c2_5 c2_6 =>
  (f_X2_minutesToCome c2_0 c2_1 c2_2 c2_3 c2_4 c2_5 c2_6).bind fun r4 =>
  some (r4, ((c2_0, c2_1, c2_2, c2_3, c2_4, c2_5, c2_6), (a7, a8, a9, a10), (a11, a12, a13, a14, a15), (a16, a17, a18, a19)))
set_option maxRecDepth 100000 in
set_option maxHeartbeats 4000000 in
theorem m_X0_startCycle (l : Launch) (dC : Nat → ClassId) (dI : Nat → Nat → Nat) (dA gz : Nat → Nat) (oa : Nat → Nat) (sz : Nat) (a0 : Ar) (a1 : Ar) (a2 : Ar) (a3 : Int32) (a4 : Int32) (a5 : Int32) (a6 : Int32) (a7 : Int32) (a8 : Int32) (a9 : Int32) (a10 : Int32) (a11 : Ar) (a12 : Ar) (a13 : Ar) (a14 : Ar) (a15 : Int32) (a16 : Ar) (a17 : Int32) (a18 : Int32) (a19 : Int32) (rr : Int32) (uu : SX0) (hf : f_X0_startCycle a0 a1 a2 a3 a4 a5 a6 a7 a8 a9 a10 a11 a12 a13 a14 a15 a16 a17 a18 a19 = some (rr, uu)) : Met l yX0_startCycle ws_X0_startCycle ({ frames := 22, cells := 0, slots := 0, locals := 800 } : Room) (va_Pc [.ref (oa 0)] (pP (dC, dI) dA gz (wX0 dA oa ((a0, a1, a2, a3, a4, a5, a6), (a7, a8, a9, a10), (a11, a12, a13, a14, a15), (a16, a17, a18, a19))) sz)) (va_Qi (S := Unit) (fun r' _ => r' = rr) (fun _ t => pQ (dC, dI) (va_A (wX0 dA oa ((a0, a1, a2, a3, a4, a5, a6), (a7, a8, a9, a10), (a11, a12, a13, a14, a15), (a16, a17, a18, a19))) sz) (wX0 dA oa uu) t) (va_A (wX0 dA oa ((a0, a1, a2, a3, a4, a5, a6), (a7, a8, a9, a10), (a11, a12, a13, a14, a15), (a16, a17, a18, a19))) sz)) 0 0 (va_A (wX0 dA oa ((a0, a1, a2, a3, a4, a5, a6), (a7, a8, a9, a10), (a11, a12, a13, a14, a15), (a16, a17, a18, a19))) sz) := by
  refine Met.ofW (cc := cX0_startCycle) (maxL := 1) (ret := (some .int)) (by decide) rfl ?_
  intro p e s m args below meth c s₁ B hml hv
  obtain ⟨rfl, hsz, hP, hK, hD0, hN, hZ⟩ := hv
  have hx := B.exec
  have hb := B.bytes
  have hr := B.returns
  have hts := atoms_spec (ws := ws_X0_startCycle) B.pre
  have hown : s.vm.findClass RX0 = some m.cls := findClass_of_methodNamed B.named
  have hlocks := B.notSynchronized
  subst hsz
  have hD := hD0.self (sz := s.heap.size)
  generalize hAe : va_A (wX0 dA oa ((a0, a1, a2, a3, a4, a5, a6), (a7, a8, a9, a10), (a11, a12, a13, a14, a15), (a16, a17, a18, a19))) s.heap.size = A at hD hZ ⊢
  have hA : ∀ q : Nat, s.heap.size ≤ q → A q := fun q h => by rw [← hAe]; exact Or.inr h
  have hS : va_S A s.heap s.heap [] := va_S.rf
  have hP : va_P (dC, dI) vwCl [(oa 0, .inr (4, [.ref (oa 1), .ref (oa 5), .ref (oa 6), .ref (oa 11)])), (oa 1, .inr (6, [.ref (oa 2), .ref (oa 3), .ref (oa 4), .int a3, .int a4, .int a5, .int a6])), (oa 2, .inl (dA 0, 8, .inl a0)), (oa 3, .inl (dA 1, 8, .inl a1)), (oa 4, .inl (dA 1, 8, .inl a2)), (oa 5, .inr (5, [.int a7, .int a8, .int a9, .int a10])), (oa 6, .inr (8, [.ref (oa 7), .ref (oa 8), .ref (oa 9), .ref (oa 10), .int a15])), (oa 7, .inl (dA 1, 12, .inl a11)), (oa 8, .inl (dA 1, 12, .inl a12)), (oa 9, .inl (dA 1, 12, .inl a13)), (oa 10, .inl (dA 1, 12, .inl a14)), (oa 11, .inr (9, [.ref (oa 12), .int a17, .int a18, .int a19])), (oa 12, .inl (dA 1, 5, .inl a16))] s.heap := hP
  have hD : va_D A [(oa 0, .inr (4, [.ref (oa 1), .ref (oa 5), .ref (oa 6), .ref (oa 11)])), (oa 1, .inr (6, [.ref (oa 2), .ref (oa 3), .ref (oa 4), .int a3, .int a4, .int a5, .int a6])), (oa 2, .inl (dA 0, 8, .inl a0)), (oa 3, .inl (dA 1, 8, .inl a1)), (oa 4, .inl (dA 1, 8, .inl a2)), (oa 5, .inr (5, [.int a7, .int a8, .int a9, .int a10])), (oa 6, .inr (8, [.ref (oa 7), .ref (oa 8), .ref (oa 9), .ref (oa 10), .int a15])), (oa 7, .inl (dA 1, 12, .inl a11)), (oa 8, .inl (dA 1, 12, .inl a12)), (oa 9, .inl (dA 1, 12, .inl a13)), (oa 10, .inl (dA 1, 12, .inl a14)), (oa 11, .inr (9, [.ref (oa 12), .int a17, .int a18, .int a19])), (oa 12, .inl (dA 1, 5, .inl a16))] := hD
  have hl := lv_entry [.ref (oa 0)] (n := 1) (Nat.le_of_ble_eq_true rfl)
  rw [lg_entry_eq]
  generalize (lg_sl [.ref (oa 0)] ++ List.replicate (1 - (lg_sl [.ref (oa 0)]).length) Slot.unset).toArray = ls at hl ⊢
  have hl : lv_has ls 1 [(0, .ref (oa 0))] := hl
  have in_X0 : ∀ w ∈ wsX00, w ∈ ws_X0_startCycle := fun w h => bg _ (inB_X0 w h)
  rw [f_X0_startCycle] at hf
  refine lv_aload_n hx hb dX0_startCycle_0 rfl (lv_at hl 0 rfl) ?_
  refine va_get (D := (dC, dI)) (ci := 4) (v := .ref (oa 1)) (C := RX0) (T := TX0) (N := 4) hx hb hts in_X0 hown hK hP 0 rfl rfl 0 (by decide) (hts _ (bg _ wd_166)) (fun _ h9 => h9) rfl dX0_startCycle_1 ?_
  obtain ⟨c2_0, c2_1, c2_2, c2_3, c2_4, c2_5, c2_6, e1, hf⟩ := bX2_inv hf
  refine jn_v (va_runV (As := []) (rest := []) ⟨hx, hb, hml, hown, hts⟩ (m_X2_begin l dC dI dA gz (fun k => oa (1 + k)) s.heap.size a0 a1 a2 a3 a4 a5 a6 (c2_0, c2_1, c2_2, c2_3, c2_4, c2_5, c2_6) e1) (cwV 0 hts (gi_v bg wd_508 wd_509 wd_510 wd_3 wd_511) rfl rfl rfl hd_X2_begin ⟨Nat.le_of_ble_eq_true rfl, Nat.le_of_ble_eq_true rfl⟩) ⟨pP_blind, va_recv (ci := 6) (q0 := 1) hK hP rfl rfl, pP_pre hP hD hS hA hK hN hZ [1, 2, 3, 4] (by decide) rfl⟩ rfl rfl hl.1 rfl (lv_room (Nat.le_of_ble_eq_true rfl)) dX0_startCycle_4 ⟨Nat.le_of_ble_eq_true rfl, Nat.le_of_ble_eq_true rfl⟩) hP hD hS hA [1, 2, 3, 4] rfl rfl (fun H locs hP hD hS => ?_)
  have hP : va_P (dC, dI) vwCl [(oa 0, .inr (4, [.ref (oa 1), .ref (oa 5), .ref (oa 6), .ref (oa 11)])), (oa 1, .inr (6, [.ref (oa 2), .ref (oa 3), .ref (oa 4), .int c2_3, .int c2_4, .int c2_5, .int c2_6])), (oa 2, .inl (dA 0, 8, .inl c2_0)), (oa 3, .inl (dA 1, 8, .inl c2_1)), (oa 4, .inl (dA 1, 8, .inl c2_2)), (oa 5, .inr (5, [.int a7, .int a8, .int a9, .int a10])), (oa 6, .inr (8, [.ref (oa 7), .ref (oa 8), .ref (oa 9), .ref (oa 10), .int a15])), (oa 7, .inl (dA 1, 12, .inl a11)), (oa 8, .inl (dA 1, 12, .inl a12)), (oa 9, .inl (dA 1, 12, .inl a13)), (oa 10, .inl (dA 1, 12, .inl a14)), (oa 11, .inr (9, [.ref (oa 12), .int a17, .int a18, .int a19])), (oa 12, .inl (dA 1, 5, .inl a16))] H := hP
  have hD : va_D A [(oa 0, .inr (4, [.ref (oa 1), .ref (oa 5), .ref (oa 6), .ref (oa 11)])), (oa 1, .inr (6, [.ref (oa 2), .ref (oa 3), .ref (oa 4), .int c2_3, .int c2_4, .int c2_5, .int c2_6])), (oa 2, .inl (dA 0, 8, .inl c2_0)), (oa 3, .inl (dA 1, 8, .inl c2_1)), (oa 4, .inl (dA 1, 8, .inl c2_2)), (oa 5, .inr (5, [.int a7, .int a8, .int a9, .int a10])), (oa 6, .inr (8, [.ref (oa 7), .ref (oa 8), .ref (oa 9), .ref (oa 10), .int a15])), (oa 7, .inl (dA 1, 12, .inl a11)), (oa 8, .inl (dA 1, 12, .inl a12)), (oa 9, .inl (dA 1, 12, .inl a13)), (oa 10, .inl (dA 1, 12, .inl a14)), (oa 11, .inr (9, [.ref (oa 12), .int a17, .int a18, .int a19])), (oa 12, .inl (dA 1, 5, .inl a16))] := hD
  refine lv_aload_n hx hb dX0_startCycle_7 rfl (lv_at hl 0 rfl) ?_
  refine va_get (D := (dC, dI)) (ci := 4) (v := .ref (oa 1)) (C := RX0) (T := TX0) (N := 4) hx hb hts in_X0 hown hK hP 0 rfl rfl 0 (by decide) (hts _ (bg _ wd_166)) (fun _ h9 => h9) rfl dX0_startCycle_8 ?_
  obtain ⟨r4, e3, hf⟩ := bd hf
  refine jr_i (va_runV (As := []) (rest := []) ⟨hx, hb, hml, hown, hts⟩ (m_X2_minutesToCome l dC dI dA gz (fun k => oa (1 + k)) H.size c2_0 c2_1 c2_2 c2_3 c2_4 c2_5 c2_6 r4 e3) (cwV 0 hts (gi_v bg wd_512 wd_513 wd_514 wd_3 wd_515) rfl rfl rfl hd_X2_minutesToCome ⟨Nat.le_of_ble_eq_true rfl, Nat.le_of_ble_eq_true rfl⟩) ⟨pP_blind, va_recv (ci := 6) (q0 := 1) hK hP rfl rfl, pP_pre hP hD hS hA hK hN hZ [1, 2, 3, 4] (by decide) rfl⟩ rfl rfl hl.1 rfl (lv_room (Nat.le_of_ble_eq_true rfl)) dX0_startCycle_11 ⟨Nat.le_of_ble_eq_true rfl, Nat.le_of_ble_eq_true rfl⟩) hP hD hS hA [1, 2, 3, 4] rfl (fun H locs hP hS => ?_)
  obtain ⟨e8, e9⟩ := Prod.mk.inj (sm hf)
  exact W.iret hx hb hr (fun t ht hW => ⟨⟨_, (), rfl, e8, by rw [← e9, ht]; exact hP, by rw [← e9]; exact hD⟩, hS.F ht⟩) hS.2.2 dX0_startCycle_14
/-! X0_judgeStop -/
def f_X0_judgeStop (a0 : Ar) (a1 : Ar) (a2 : Ar) (a3 : Int32) (a4 : Int32) (a5 : Int32) (a6 : Int32) (a7 : Int32) (a8 : Int32) (a9 : Int32) (a10 : Int32) (a11 : Ar) (a12 : Ar) (a13 : Ar) (a14 : Ar) (a15 : Int32) (a16 : Ar) (a17 : Int32) (a18 : Int32) (a19 : Int32) : Option (Int32) :=
  (f_X2_isUnderWay a0 a1 a2 a3 a4 a5 a6).bind fun r2 =>
  (if r2 = 0 then some 3 else
  some 0)
set_option maxRecDepth 100000 in
set_option maxHeartbeats 4000000 in
theorem m_X0_judgeStop (l : Launch) (dC : Nat → ClassId) (dI : Nat → Nat → Nat) (dA gz : Nat → Nat) (oa : Nat → Nat) (sz : Nat) (a0 : Ar) (a1 : Ar) (a2 : Ar) (a3 : Int32) (a4 : Int32) (a5 : Int32) (a6 : Int32) (a7 : Int32) (a8 : Int32) (a9 : Int32) (a10 : Int32) (a11 : Ar) (a12 : Ar) (a13 : Ar) (a14 : Ar) (a15 : Int32) (a16 : Ar) (a17 : Int32) (a18 : Int32) (a19 : Int32) (rr : Int32) (hf : f_X0_judgeStop a0 a1 a2 a3 a4 a5 a6 a7 a8 a9 a10 a11 a12 a13 a14 a15 a16 a17 a18 a19 = some rr) : Met l yX0_judgeStop ws_X0_judgeStop ({ frames := 18, cells := 0, slots := 0, locals := 600 } : Room) (va_Pc [.ref (oa 0)] (pP (dC, dI) dA gz (wX0 dA oa ((a0, a1, a2, a3, a4, a5, a6), (a7, a8, a9, a10), (a11, a12, a13, a14, a15), (a16, a17, a18, a19))) sz)) (va_Qi (S := Unit) (fun r' _ => r' = rr) (fun _ t => pQ (dC, dI) (va_A (wX0 dA oa ((a0, a1, a2, a3, a4, a5, a6), (a7, a8, a9, a10), (a11, a12, a13, a14, a15), (a16, a17, a18, a19))) sz) (wX0 dA oa ((a0, a1, a2, a3, a4, a5, a6), (a7, a8, a9, a10), (a11, a12, a13, a14, a15), (a16, a17, a18, a19))) t) (va_A (wX0 dA oa ((a0, a1, a2, a3, a4, a5, a6), (a7, a8, a9, a10), (a11, a12, a13, a14, a15), (a16, a17, a18, a19))) sz)) 0 0 (va_A (wX0 dA oa ((a0, a1, a2, a3, a4, a5, a6), (a7, a8, a9, a10), (a11, a12, a13, a14, a15), (a16, a17, a18, a19))) sz) := by
  refine Met.ofW (cc := cX0_judgeStop) (maxL := 1) (ret := (some .int)) (by decide) rfl ?_
  intro p e s m args below meth c s₁ B hml hv
  obtain ⟨rfl, hsz, hP, hK, hD0, hN, hZ⟩ := hv
  have hx := B.exec
  have hb := B.bytes
  have hr := B.returns
  have hts := atoms_spec (ws := ws_X0_judgeStop) B.pre
  have hown : s.vm.findClass RX0 = some m.cls := findClass_of_methodNamed B.named
  have hlocks := B.notSynchronized
  subst hsz
  have hD := hD0.self (sz := s.heap.size)
  generalize hAe : va_A (wX0 dA oa ((a0, a1, a2, a3, a4, a5, a6), (a7, a8, a9, a10), (a11, a12, a13, a14, a15), (a16, a17, a18, a19))) s.heap.size = A at hD hZ ⊢
  have hA : ∀ q : Nat, s.heap.size ≤ q → A q := fun q h => by rw [← hAe]; exact Or.inr h
  have hS : va_S A s.heap s.heap [] := va_S.rf
  have hP : va_P (dC, dI) vwCl [(oa 0, .inr (4, [.ref (oa 1), .ref (oa 5), .ref (oa 6), .ref (oa 11)])), (oa 1, .inr (6, [.ref (oa 2), .ref (oa 3), .ref (oa 4), .int a3, .int a4, .int a5, .int a6])), (oa 2, .inl (dA 0, 8, .inl a0)), (oa 3, .inl (dA 1, 8, .inl a1)), (oa 4, .inl (dA 1, 8, .inl a2)), (oa 5, .inr (5, [.int a7, .int a8, .int a9, .int a10])), (oa 6, .inr (8, [.ref (oa 7), .ref (oa 8), .ref (oa 9), .ref (oa 10), .int a15])), (oa 7, .inl (dA 1, 12, .inl a11)), (oa 8, .inl (dA 1, 12, .inl a12)), (oa 9, .inl (dA 1, 12, .inl a13)), (oa 10, .inl (dA 1, 12, .inl a14)), (oa 11, .inr (9, [.ref (oa 12), .int a17, .int a18, .int a19])), (oa 12, .inl (dA 1, 5, .inl a16))] s.heap := hP
  have hD : va_D A [(oa 0, .inr (4, [.ref (oa 1), .ref (oa 5), .ref (oa 6), .ref (oa 11)])), (oa 1, .inr (6, [.ref (oa 2), .ref (oa 3), .ref (oa 4), .int a3, .int a4, .int a5, .int a6])), (oa 2, .inl (dA 0, 8, .inl a0)), (oa 3, .inl (dA 1, 8, .inl a1)), (oa 4, .inl (dA 1, 8, .inl a2)), (oa 5, .inr (5, [.int a7, .int a8, .int a9, .int a10])), (oa 6, .inr (8, [.ref (oa 7), .ref (oa 8), .ref (oa 9), .ref (oa 10), .int a15])), (oa 7, .inl (dA 1, 12, .inl a11)), (oa 8, .inl (dA 1, 12, .inl a12)), (oa 9, .inl (dA 1, 12, .inl a13)), (oa 10, .inl (dA 1, 12, .inl a14)), (oa 11, .inr (9, [.ref (oa 12), .int a17, .int a18, .int a19])), (oa 12, .inl (dA 1, 5, .inl a16))] := hD
  have hl := lv_entry [.ref (oa 0)] (n := 1) (Nat.le_of_ble_eq_true rfl)
  rw [lg_entry_eq]
  generalize (lg_sl [.ref (oa 0)] ++ List.replicate (1 - (lg_sl [.ref (oa 0)]).length) Slot.unset).toArray = ls at hl ⊢
  have hl : lv_has ls 1 [(0, .ref (oa 0))] := hl
  have in_X0 : ∀ w ∈ wsX00, w ∈ ws_X0_judgeStop := fun w h => bg _ (inB_X0 w h)
  rw [f_X0_judgeStop] at hf
  refine lv_aload_n hx hb dX0_judgeStop_0 rfl (lv_at hl 0 rfl) ?_
  refine va_get (D := (dC, dI)) (ci := 4) (v := .ref (oa 1)) (C := RX0) (T := TX0) (N := 4) hx hb hts in_X0 hown hK hP 0 rfl rfl 0 (by decide) (hts _ (bg _ wd_166)) (fun _ h9 => h9) rfl dX0_judgeStop_1 ?_
  obtain ⟨r2, e1, hf⟩ := bd hf
  refine jr_i (va_runV (As := []) (rest := []) ⟨hx, hb, hml, hown, hts⟩ (m_X2_isUnderWay l dC dI dA gz (fun k => oa (1 + k)) s.heap.size a0 a1 a2 a3 a4 a5 a6 r2 e1) (cwV 0 hts (gi_v bg wd_365 wd_366 wd_367 wd_3 wd_368) rfl rfl rfl hd_X2_isUnderWay ⟨Nat.le_of_ble_eq_true rfl, Nat.le_of_ble_eq_true rfl⟩) ⟨pP_blind, va_recv (ci := 6) (q0 := 1) hK hP rfl rfl, pP_pre hP hD hS hA hK hN hZ [1, 2, 3, 4] (by decide) rfl⟩ rfl rfl hl.1 rfl (lv_room (Nat.le_of_ble_eq_true rfl)) dX0_judgeStop_4 ⟨Nat.le_of_ble_eq_true rfl, Nat.le_of_ble_eq_true rfl⟩) hP hD hS hA [1, 2, 3, 4] rfl (fun H locs hP hS => ?_)
  refine lv_if_eq (tgt := 14) hx hb dX0_judgeStop_7 (by decide) (fun q3 => ?_) (fun q3 => ?_)
  · have hf := it q3 hf
    refine lv_iconst (v := 3) hx hb dX0_judgeStop_14 (by decide) ?_
    exact W.iret hx hb hr (fun t ht hW => ⟨⟨_, (), rfl, sm hf, by rw [ht]; exact hP, hD⟩, hS.F ht⟩) hS.2.2 dX0_judgeStop_15
  · have hf := ie q3 hf
    refine lv_iconst (v := 0) hx hb dX0_judgeStop_10 (by decide) ?_
    refine lv_goto (tgt := 15) hx hb dX0_judgeStop_11 (by decide) ?_
    exact W.iret hx hb hr (fun t ht hW => ⟨⟨_, (), rfl, sm hf, by rw [ht]; exact hP, hD⟩, hS.F ht⟩) hS.2.2 dX0_judgeStop_15
/-! X0_stopCycle -/
def f_X0_stopCycle (a0 : Ar) (a1 : Ar) (a2 : Ar) (a3 : Int32) (a4 : Int32) (a5 : Int32) (a6 : Int32) (a7 : Int32) (a8 : Int32) (a9 : Int32) (a10 : Int32) (a11 : Ar) (a12 : Ar) (a13 : Ar) (a14 : Ar) (a15 : Int32) (a16 : Ar) (a17 : Int32) (a18 : Int32) (a19 : Int32) : Option (Int32 × SX0) :=
  (f_X2_minutesToCome a0 a1 a2 a3 a4 a5 a6).bind fun r2 =>
  bX2 (f_X2_end a0 a1 a2 a3 a4 a5 a6) fun c4_0 c4_1 c4_2 c4_3 c4_4 c4_5 c4_6 =>
  some (r2, ((c4_0, c4_1, c4_2, c4_3, c4_4, c4_5, c4_6), (a7, a8, a9, a10), (a11, a12, a13, a14, a15), (a16, a17, a18, a19)))
set_option maxRecDepth 100000 in
set_option maxHeartbeats 4000000 in
theorem m_X0_stopCycle (l : Launch) (dC : Nat → ClassId) (dI : Nat → Nat → Nat) (dA gz : Nat → Nat) (oa : Nat → Nat) (sz : Nat) (a0 : Ar) (a1 : Ar) (a2 : Ar) (a3 : Int32) (a4 : Int32) (a5 : Int32) (a6 : Int32) (a7 : Int32) (a8 : Int32) (a9 : Int32) (a10 : Int32) (a11 : Ar) (a12 : Ar) (a13 : Ar) (a14 : Ar) (a15 : Int32) (a16 : Ar) (a17 : Int32) (a18 : Int32) (a19 : Int32) (rr : Int32) (uu : SX0) (hf : f_X0_stopCycle a0 a1 a2 a3 a4 a5 a6 a7 a8 a9 a10 a11 a12 a13 a14 a15 a16 a17 a18 a19 = some (rr, uu)) : Met l yX0_stopCycle ws_X0_stopCycle ({ frames := 22, cells := 0, slots := 0, locals := 800 } : Room) (va_Pc [.ref (oa 0)] (pP (dC, dI) dA gz (wX0 dA oa ((a0, a1, a2, a3, a4, a5, a6), (a7, a8, a9, a10), (a11, a12, a13, a14, a15), (a16, a17, a18, a19))) sz)) (va_Qi (S := Unit) (fun r' _ => r' = rr) (fun _ t => pQ (dC, dI) (va_A (wX0 dA oa ((a0, a1, a2, a3, a4, a5, a6), (a7, a8, a9, a10), (a11, a12, a13, a14, a15), (a16, a17, a18, a19))) sz) (wX0 dA oa uu) t) (va_A (wX0 dA oa ((a0, a1, a2, a3, a4, a5, a6), (a7, a8, a9, a10), (a11, a12, a13, a14, a15), (a16, a17, a18, a19))) sz)) 0 0 (va_A (wX0 dA oa ((a0, a1, a2, a3, a4, a5, a6), (a7, a8, a9, a10), (a11, a12, a13, a14, a15), (a16, a17, a18, a19))) sz) := by
  refine Met.ofW (cc := cX0_stopCycle) (maxL := 2) (ret := (some .int)) (by decide) rfl ?_
  intro p e s m args below meth c s₁ B hml hv
  obtain ⟨rfl, hsz, hP, hK, hD0, hN, hZ⟩ := hv
  have hx := B.exec
  have hb := B.bytes
  have hr := B.returns
  have hts := atoms_spec (ws := ws_X0_stopCycle) B.pre
  have hown : s.vm.findClass RX0 = some m.cls := findClass_of_methodNamed B.named
  have hlocks := B.notSynchronized
  subst hsz
  have hD := hD0.self (sz := s.heap.size)
  generalize hAe : va_A (wX0 dA oa ((a0, a1, a2, a3, a4, a5, a6), (a7, a8, a9, a10), (a11, a12, a13, a14, a15), (a16, a17, a18, a19))) s.heap.size = A at hD hZ ⊢
  have hA : ∀ q : Nat, s.heap.size ≤ q → A q := fun q h => by rw [← hAe]; exact Or.inr h
  have hS : va_S A s.heap s.heap [] := va_S.rf
  have hP : va_P (dC, dI) vwCl [(oa 0, .inr (4, [.ref (oa 1), .ref (oa 5), .ref (oa 6), .ref (oa 11)])), (oa 1, .inr (6, [.ref (oa 2), .ref (oa 3), .ref (oa 4), .int a3, .int a4, .int a5, .int a6])), (oa 2, .inl (dA 0, 8, .inl a0)), (oa 3, .inl (dA 1, 8, .inl a1)), (oa 4, .inl (dA 1, 8, .inl a2)), (oa 5, .inr (5, [.int a7, .int a8, .int a9, .int a10])), (oa 6, .inr (8, [.ref (oa 7), .ref (oa 8), .ref (oa 9), .ref (oa 10), .int a15])), (oa 7, .inl (dA 1, 12, .inl a11)), (oa 8, .inl (dA 1, 12, .inl a12)), (oa 9, .inl (dA 1, 12, .inl a13)), (oa 10, .inl (dA 1, 12, .inl a14)), (oa 11, .inr (9, [.ref (oa 12), .int a17, .int a18, .int a19])), (oa 12, .inl (dA 1, 5, .inl a16))] s.heap := hP
  have hD : va_D A [(oa 0, .inr (4, [.ref (oa 1), .ref (oa 5), .ref (oa 6), .ref (oa 11)])), (oa 1, .inr (6, [.ref (oa 2), .ref (oa 3), .ref (oa 4), .int a3, .int a4, .int a5, .int a6])), (oa 2, .inl (dA 0, 8, .inl a0)), (oa 3, .inl (dA 1, 8, .inl a1)), (oa 4, .inl (dA 1, 8, .inl a2)), (oa 5, .inr (5, [.int a7, .int a8, .int a9, .int a10])), (oa 6, .inr (8, [.ref (oa 7), .ref (oa 8), .ref (oa 9), .ref (oa 10), .int a15])), (oa 7, .inl (dA 1, 12, .inl a11)), (oa 8, .inl (dA 1, 12, .inl a12)), (oa 9, .inl (dA 1, 12, .inl a13)), (oa 10, .inl (dA 1, 12, .inl a14)), (oa 11, .inr (9, [.ref (oa 12), .int a17, .int a18, .int a19])), (oa 12, .inl (dA 1, 5, .inl a16))] := hD
  have hl := lv_entry [.ref (oa 0)] (n := 2) (Nat.le_of_ble_eq_true rfl)
  rw [lg_entry_eq]
  generalize (lg_sl [.ref (oa 0)] ++ List.replicate (2 - (lg_sl [.ref (oa 0)]).length) Slot.unset).toArray = ls at hl ⊢
  have hl : lv_has ls 2 [(0, .ref (oa 0))] := hl
  have in_X0 : ∀ w ∈ wsX00, w ∈ ws_X0_stopCycle := fun w h => bg _ (inB_X0 w h)
  rw [f_X0_stopCycle] at hf
  refine lv_aload_n hx hb dX0_stopCycle_0 rfl (lv_at hl 0 rfl) ?_
  refine va_get (D := (dC, dI)) (ci := 4) (v := .ref (oa 1)) (C := RX0) (T := TX0) (N := 4) hx hb hts in_X0 hown hK hP 0 rfl rfl 0 (by decide) (hts _ (bg _ wd_166)) (fun _ h9 => h9) rfl dX0_stopCycle_1 ?_
  obtain ⟨r2, e1, hf⟩ := bd hf
  refine jr_i (va_runV (As := []) (rest := []) ⟨hx, hb, hml, hown, hts⟩ (m_X2_minutesToCome l dC dI dA gz (fun k => oa (1 + k)) s.heap.size a0 a1 a2 a3 a4 a5 a6 r2 e1) (cwV 0 hts (gi_v bg wd_512 wd_513 wd_514 wd_3 wd_515) rfl rfl rfl hd_X2_minutesToCome ⟨Nat.le_of_ble_eq_true rfl, Nat.le_of_ble_eq_true rfl⟩) ⟨pP_blind, va_recv (ci := 6) (q0 := 1) hK hP rfl rfl, pP_pre hP hD hS hA hK hN hZ [1, 2, 3, 4] (by decide) rfl⟩ rfl rfl hl.1 rfl (lv_room (Nat.le_of_ble_eq_true rfl)) dX0_stopCycle_4 ⟨Nat.le_of_ble_eq_true rfl, Nat.le_of_ble_eq_true rfl⟩) hP hD hS hA [1, 2, 3, 4] rfl (fun H locs hP hS => ?_)
  refine lv_istore_n (lv' := [(1, .int r2), (0, .ref (oa 0))]) hx hb dX0_stopCycle_7 rfl hl (by decide) rfl (fun ls hl => ?_)
  refine lv_aload_n hx hb dX0_stopCycle_8 rfl (lv_at hl 1 rfl) ?_
  refine va_get (D := (dC, dI)) (ci := 4) (v := .ref (oa 1)) (C := RX0) (T := TX0) (N := 4) hx hb hts in_X0 hown hK hP 0 rfl rfl 0 (by decide) (hts _ (bg _ wd_166)) (fun _ h9 => h9) rfl dX0_stopCycle_9 ?_
  obtain ⟨c4_0, c4_1, c4_2, c4_3, c4_4, c4_5, c4_6, e3, hf⟩ := bX2_inv hf
  refine jn_v (va_runV (As := []) (rest := []) ⟨hx, hb, hml, hown, hts⟩ (m_X2_end l dC dI dA gz (fun k => oa (1 + k)) H.size a0 a1 a2 a3 a4 a5 a6 (c4_0, c4_1, c4_2, c4_3, c4_4, c4_5, c4_6) e3) (cwV 0 hts (gi_v bg wd_532 wd_533 wd_534 wd_3 wd_535) rfl rfl rfl hd_X2_end ⟨Nat.le_of_ble_eq_true rfl, Nat.le_of_ble_eq_true rfl⟩) ⟨pP_blind, va_recv (ci := 6) (q0 := 1) hK hP rfl rfl, pP_pre hP hD hS hA hK hN hZ [1, 2, 3, 4] (by decide) rfl⟩ rfl rfl hl.1 rfl (lv_room (Nat.le_of_ble_eq_true rfl)) dX0_stopCycle_12 ⟨Nat.le_of_ble_eq_true rfl, Nat.le_of_ble_eq_true rfl⟩) hP hD hS hA [1, 2, 3, 4] rfl rfl (fun H locs hP hD hS => ?_)
  have hP : va_P (dC, dI) vwCl [(oa 0, .inr (4, [.ref (oa 1), .ref (oa 5), .ref (oa 6), .ref (oa 11)])), (oa 1, .inr (6, [.ref (oa 2), .ref (oa 3), .ref (oa 4), .int c4_3, .int c4_4, .int c4_5, .int c4_6])), (oa 2, .inl (dA 0, 8, .inl c4_0)), (oa 3, .inl (dA 1, 8, .inl c4_1)), (oa 4, .inl (dA 1, 8, .inl c4_2)), (oa 5, .inr (5, [.int a7, .int a8, .int a9, .int a10])), (oa 6, .inr (8, [.ref (oa 7), .ref (oa 8), .ref (oa 9), .ref (oa 10), .int a15])), (oa 7, .inl (dA 1, 12, .inl a11)), (oa 8, .inl (dA 1, 12, .inl a12)), (oa 9, .inl (dA 1, 12, .inl a13)), (oa 10, .inl (dA 1, 12, .inl a14)), (oa 11, .inr (9, [.ref (oa 12), .int a17, .int a18, .int a19])), (oa 12, .inl (dA 1, 5, .inl a16))] H := hP
  have hD : va_D A [(oa 0, .inr (4, [.ref (oa 1), .ref (oa 5), .ref (oa 6), .ref (oa 11)])), (oa 1, .inr (6, [.ref (oa 2), .ref (oa 3), .ref (oa 4), .int c4_3, .int c4_4, .int c4_5, .int c4_6])), (oa 2, .inl (dA 0, 8, .inl c4_0)), (oa 3, .inl (dA 1, 8, .inl c4_1)), (oa 4, .inl (dA 1, 8, .inl c4_2)), (oa 5, .inr (5, [.int a7, .int a8, .int a9, .int a10])), (oa 6, .inr (8, [.ref (oa 7), .ref (oa 8), .ref (oa 9), .ref (oa 10), .int a15])), (oa 7, .inl (dA 1, 12, .inl a11)), (oa 8, .inl (dA 1, 12, .inl a12)), (oa 9, .inl (dA 1, 12, .inl a13)), (oa 10, .inl (dA 1, 12, .inl a14)), (oa 11, .inr (9, [.ref (oa 12), .int a17, .int a18, .int a19])), (oa 12, .inl (dA 1, 5, .inl a16))] := hD
  refine lv_iload_n hx hb dX0_stopCycle_15 rfl (lv_at hl 0 rfl) ?_
  obtain ⟨e8, e9⟩ := Prod.mk.inj (sm hf)
  exact W.iret hx hb hr (fun t ht hW => ⟨⟨_, (), rfl, e8, by rw [← e9, ht]; exact hP, by rw [← e9]; exact hD⟩, hS.F ht⟩) hS.2.2 dX0_stopCycle_16
/-! X0_judgeRun -/
def f_X0_judgeRun (a0 : Ar) (a1 : Ar) (a2 : Ar) (a3 : Int32) (a4 : Int32) (a5 : Int32) (a6 : Int32) (a7 : Int32) (a8 : Int32) (a9 : Int32) (a10 : Int32) (a11 : Ar) (a12 : Ar) (a13 : Ar) (a14 : Ar) (a15 : Int32) (a16 : Ar) (a17 : Int32) (a18 : Int32) (a19 : Int32) (p1 : Int32) : Option (Int32) :=
  (f_X7_isWithin p1 1 240).bind fun r2 =>
  (if r2 = 0 then some 8 else
  some 0)
set_option maxRecDepth 100000 in
set_option maxHeartbeats 4000000 in
theorem m_X0_judgeRun (l : Launch) (dC : Nat → ClassId) (dI : Nat → Nat → Nat) (dA gz : Nat → Nat) (oa : Nat → Nat) (sz : Nat) (a0 : Ar) (a1 : Ar) (a2 : Ar) (a3 : Int32) (a4 : Int32) (a5 : Int32) (a6 : Int32) (a7 : Int32) (a8 : Int32) (a9 : Int32) (a10 : Int32) (a11 : Ar) (a12 : Ar) (a13 : Ar) (a14 : Ar) (a15 : Int32) (a16 : Ar) (a17 : Int32) (a18 : Int32) (a19 : Int32) (p1 : Int32) (rr : Int32) (hf : f_X0_judgeRun a0 a1 a2 a3 a4 a5 a6 a7 a8 a9 a10 a11 a12 a13 a14 a15 a16 a17 a18 a19 p1 = some rr) : Met l yX0_judgeRun ws_X0_judgeRun ({ frames := 14, cells := 0, slots := 0, locals := 400 } : Room) (va_Pc [.ref (oa 0), .int p1] (pP (dC, dI) dA gz (wX0 dA oa ((a0, a1, a2, a3, a4, a5, a6), (a7, a8, a9, a10), (a11, a12, a13, a14, a15), (a16, a17, a18, a19))) sz)) (va_Qi (S := Unit) (fun r' _ => r' = rr) (fun _ t => pQ (dC, dI) (va_A (wX0 dA oa ((a0, a1, a2, a3, a4, a5, a6), (a7, a8, a9, a10), (a11, a12, a13, a14, a15), (a16, a17, a18, a19))) sz) (wX0 dA oa ((a0, a1, a2, a3, a4, a5, a6), (a7, a8, a9, a10), (a11, a12, a13, a14, a15), (a16, a17, a18, a19))) t) (va_A (wX0 dA oa ((a0, a1, a2, a3, a4, a5, a6), (a7, a8, a9, a10), (a11, a12, a13, a14, a15), (a16, a17, a18, a19))) sz)) 0 0 (va_A (wX0 dA oa ((a0, a1, a2, a3, a4, a5, a6), (a7, a8, a9, a10), (a11, a12, a13, a14, a15), (a16, a17, a18, a19))) sz) := by
  refine Met.ofW (cc := cX0_judgeRun) (maxL := 2) (ret := (some .int)) (by decide) rfl ?_
  intro p e s m args below meth c s₁ B hml hv
  obtain ⟨rfl, hsz, hP, hK, hD0, hN, hZ⟩ := hv
  have hx := B.exec
  have hb := B.bytes
  have hr := B.returns
  have hts := atoms_spec (ws := ws_X0_judgeRun) B.pre
  have hown : s.vm.findClass RX0 = some m.cls := findClass_of_methodNamed B.named
  have hlocks := B.notSynchronized
  subst hsz
  have hD := hD0.self (sz := s.heap.size)
  generalize hAe : va_A (wX0 dA oa ((a0, a1, a2, a3, a4, a5, a6), (a7, a8, a9, a10), (a11, a12, a13, a14, a15), (a16, a17, a18, a19))) s.heap.size = A at hD hZ ⊢
  have hA : ∀ q : Nat, s.heap.size ≤ q → A q := fun q h => by rw [← hAe]; exact Or.inr h
  have hS : va_S A s.heap s.heap [] := va_S.rf
  have hP : va_P (dC, dI) vwCl [(oa 0, .inr (4, [.ref (oa 1), .ref (oa 5), .ref (oa 6), .ref (oa 11)])), (oa 1, .inr (6, [.ref (oa 2), .ref (oa 3), .ref (oa 4), .int a3, .int a4, .int a5, .int a6])), (oa 2, .inl (dA 0, 8, .inl a0)), (oa 3, .inl (dA 1, 8, .inl a1)), (oa 4, .inl (dA 1, 8, .inl a2)), (oa 5, .inr (5, [.int a7, .int a8, .int a9, .int a10])), (oa 6, .inr (8, [.ref (oa 7), .ref (oa 8), .ref (oa 9), .ref (oa 10), .int a15])), (oa 7, .inl (dA 1, 12, .inl a11)), (oa 8, .inl (dA 1, 12, .inl a12)), (oa 9, .inl (dA 1, 12, .inl a13)), (oa 10, .inl (dA 1, 12, .inl a14)), (oa 11, .inr (9, [.ref (oa 12), .int a17, .int a18, .int a19])), (oa 12, .inl (dA 1, 5, .inl a16))] s.heap := hP
  have hD : va_D A [(oa 0, .inr (4, [.ref (oa 1), .ref (oa 5), .ref (oa 6), .ref (oa 11)])), (oa 1, .inr (6, [.ref (oa 2), .ref (oa 3), .ref (oa 4), .int a3, .int a4, .int a5, .int a6])), (oa 2, .inl (dA 0, 8, .inl a0)), (oa 3, .inl (dA 1, 8, .inl a1)), (oa 4, .inl (dA 1, 8, .inl a2)), (oa 5, .inr (5, [.int a7, .int a8, .int a9, .int a10])), (oa 6, .inr (8, [.ref (oa 7), .ref (oa 8), .ref (oa 9), .ref (oa 10), .int a15])), (oa 7, .inl (dA 1, 12, .inl a11)), (oa 8, .inl (dA 1, 12, .inl a12)), (oa 9, .inl (dA 1, 12, .inl a13)), (oa 10, .inl (dA 1, 12, .inl a14)), (oa 11, .inr (9, [.ref (oa 12), .int a17, .int a18, .int a19])), (oa 12, .inl (dA 1, 5, .inl a16))] := hD
  have hl := lv_entry [.ref (oa 0), .int p1] (n := 2) (Nat.le_of_ble_eq_true rfl)
  rw [lg_entry_eq]
  generalize (lg_sl [.ref (oa 0), .int p1] ++ List.replicate (2 - (lg_sl [.ref (oa 0), .int p1]).length) Slot.unset).toArray = ls at hl ⊢
  have hl : lv_has ls 2 [(0, .ref (oa 0)), (1, .int p1)] := hl
  rw [f_X0_judgeRun] at hf
  refine lv_iload_n hx hb dX0_judgeRun_0 rfl (lv_at hl 1 rfl) ?_
  refine lv_iconst (v := 1) hx hb dX0_judgeRun_1 (by decide) ?_
  refine lv_sipush (v := 240) hx hb dX0_judgeRun_2 (by decide) ?_
  obtain ⟨r2, e1, hf⟩ := bd hf
  refine jr_i (va_runSN (As := [.int p1, .int 1, .int 240]) (rest := []) ⟨hx, hb, hml, hown, hts⟩ (m_X7_isWithin l dC dI dA gz  s.heap.size p1 1 240 r2 e1) ⟨va_cnB 3 hts (gi_n bg wd_364) rfl rfl rfl (hN _ ng_7) (hts _ (bg _ wd_1)) hd3_X7_isWithin ⟨Nat.le_of_ble_eq_true rfl, Nat.le_of_ble_eq_true rfl⟩, hts _ (bg _ wd_363), trivial⟩ ⟨pP_blind, pP_pre hP hD hS hA hK hN hZ [] (by decide) rfl⟩ rfl rfl hl.1 rfl (lv_room (Nat.le_of_ble_eq_true rfl)) dX0_judgeRun_5 ⟨Nat.le_of_ble_eq_true rfl, Nat.le_of_ble_eq_true rfl⟩) hP hD hS hA [] rfl (fun H locs hP hS => ?_)
  refine lv_if_eq (tgt := 15) hx hb dX0_judgeRun_8 (by decide) (fun q3 => ?_) (fun q3 => ?_)
  · have hf := it q3 hf
    refine lv_bipush (v := 8) hx hb dX0_judgeRun_15 (by decide) ?_
    exact W.iret hx hb hr (fun t ht hW => ⟨⟨_, (), rfl, sm hf, by rw [ht]; exact hP, hD⟩, hS.F ht⟩) hS.2.2 dX0_judgeRun_17
  · have hf := ie q3 hf
    refine lv_iconst (v := 0) hx hb dX0_judgeRun_11 (by decide) ?_
    refine lv_goto (tgt := 17) hx hb dX0_judgeRun_12 (by decide) ?_
    exact W.iret hx hb hr (fun t ht hW => ⟨⟨_, (), rfl, sm hf, by rw [ht]; exact hP, hD⟩, hS.F ht⟩) hS.2.2 dX0_judgeRun_17
/-! X0_passMinute -/
def f_X0_passMinute (a0 : Ar) (a1 : Ar) (a2 : Ar) (a3 : Int32) (a4 : Int32) (a5 : Int32) (a6 : Int32) (a7 : Int32) (a8 : Int32) (a9 : Int32) (a10 : Int32) (a11 : Ar) (a12 : Ar) (a13 : Ar) (a14 : Ar) (a15 : Int32) (a16 : Ar) (a17 : Int32) (a18 : Int32) (a19 : Int32) : Option (SX0) :=
  (f_X2_isUnderWay a0 a1 a2 a3 a4 a5 a6).bind fun r2 =>
  (if r2 = 0 then bX4 (f_X4_coolDown a11 a12 a13 a14 a15) fun c5_0 c5_1 c5_2 c5_3 c5_4 =>
  some ((a0, a1, a2, a3, a4, a5, a6), (a7, a8, a9, a10), (c5_0, c5_1, c5_2, c5_3, c5_4), (a16, (a17 + 1), a18, a19)) else
  if a4 < 0 ∨ 8 ≤ a4.toNatClampNeg then none else
  if a4 < 0 ∨ 8 ≤ a4.toNatClampNeg then none else
  bX1 (f_X1_change a7 a8 a9 a10 (a0 a4.toNatClampNeg) (a2 a4.toNatClampNeg)) fun c9_0 c9_1 c9_2 c9_3 =>
  bX2 (f_X2_advance a0 a1 a2 a3 a4 a5 a6) fun c11_0 c11_1 c11_2 c11_3 c11_4 c11_5 c11_6 =>
  bX4 (f_X4_coolDown a11 a12 a13 a14 a15) fun c13_0 c13_1 c13_2 c13_3 c13_4 =>
  some ((c11_0, c11_1, c11_2, c11_3, c11_4, c11_5, c11_6), (c9_0, c9_1, c9_2, c9_3), (c13_0, c13_1, c13_2, c13_3, c13_4), (a16, (a17 + 1), a18, a19)))
set_option maxRecDepth 100000 in
set_option maxHeartbeats 4000000 in
theorem m_X0_passMinute (l : Launch) (dC : Nat → ClassId) (dI : Nat → Nat → Nat) (dA gz : Nat → Nat) (oa : Nat → Nat) (sz : Nat) (a0 : Ar) (a1 : Ar) (a2 : Ar) (a3 : Int32) (a4 : Int32) (a5 : Int32) (a6 : Int32) (a7 : Int32) (a8 : Int32) (a9 : Int32) (a10 : Int32) (a11 : Ar) (a12 : Ar) (a13 : Ar) (a14 : Ar) (a15 : Int32) (a16 : Ar) (a17 : Int32) (a18 : Int32) (a19 : Int32) (uu : SX0) (hf : f_X0_passMinute a0 a1 a2 a3 a4 a5 a6 a7 a8 a9 a10 a11 a12 a13 a14 a15 a16 a17 a18 a19 = some uu) : Met l yX0_passMinute ws_X0_passMinute ({ frames := 22, cells := 0, slots := 0, locals := 800 } : Room) (va_Pc [.ref (oa 0)] (pP (dC, dI) dA gz (wX0 dA oa ((a0, a1, a2, a3, a4, a5, a6), (a7, a8, a9, a10), (a11, a12, a13, a14, a15), (a16, a17, a18, a19))) sz)) (va_Qv (S := Unit) (fun _ => True) (fun _ t => pQ (dC, dI) (va_A (wX0 dA oa ((a0, a1, a2, a3, a4, a5, a6), (a7, a8, a9, a10), (a11, a12, a13, a14, a15), (a16, a17, a18, a19))) sz) (wX0 dA oa uu) t) (va_A (wX0 dA oa ((a0, a1, a2, a3, a4, a5, a6), (a7, a8, a9, a10), (a11, a12, a13, a14, a15), (a16, a17, a18, a19))) sz)) 0 0 (va_A (wX0 dA oa ((a0, a1, a2, a3, a4, a5, a6), (a7, a8, a9, a10), (a11, a12, a13, a14, a15), (a16, a17, a18, a19))) sz) := by
  refine Met.ofW (cc := cX0_passMinute) (maxL := 2) (ret := none) (by decide) rfl ?_
  intro p e s m args below meth c s₁ B hml hv
  obtain ⟨rfl, hsz, hP, hK, hD0, hN, hZ⟩ := hv
  have hx := B.exec
  have hb := B.bytes
  have hr := B.returns
  have hts := atoms_spec (ws := ws_X0_passMinute) B.pre
  have hown : s.vm.findClass RX0 = some m.cls := findClass_of_methodNamed B.named
  have hlocks := B.notSynchronized
  subst hsz
  have hD := hD0.self (sz := s.heap.size)
  generalize hAe : va_A (wX0 dA oa ((a0, a1, a2, a3, a4, a5, a6), (a7, a8, a9, a10), (a11, a12, a13, a14, a15), (a16, a17, a18, a19))) s.heap.size = A at hD hZ ⊢
  have hA : ∀ q : Nat, s.heap.size ≤ q → A q := fun q h => by rw [← hAe]; exact Or.inr h
  have hS : va_S A s.heap s.heap [] := va_S.rf
  have hP : va_P (dC, dI) vwCl [(oa 0, .inr (4, [.ref (oa 1), .ref (oa 5), .ref (oa 6), .ref (oa 11)])), (oa 1, .inr (6, [.ref (oa 2), .ref (oa 3), .ref (oa 4), .int a3, .int a4, .int a5, .int a6])), (oa 2, .inl (dA 0, 8, .inl a0)), (oa 3, .inl (dA 1, 8, .inl a1)), (oa 4, .inl (dA 1, 8, .inl a2)), (oa 5, .inr (5, [.int a7, .int a8, .int a9, .int a10])), (oa 6, .inr (8, [.ref (oa 7), .ref (oa 8), .ref (oa 9), .ref (oa 10), .int a15])), (oa 7, .inl (dA 1, 12, .inl a11)), (oa 8, .inl (dA 1, 12, .inl a12)), (oa 9, .inl (dA 1, 12, .inl a13)), (oa 10, .inl (dA 1, 12, .inl a14)), (oa 11, .inr (9, [.ref (oa 12), .int a17, .int a18, .int a19])), (oa 12, .inl (dA 1, 5, .inl a16))] s.heap := hP
  have hD : va_D A [(oa 0, .inr (4, [.ref (oa 1), .ref (oa 5), .ref (oa 6), .ref (oa 11)])), (oa 1, .inr (6, [.ref (oa 2), .ref (oa 3), .ref (oa 4), .int a3, .int a4, .int a5, .int a6])), (oa 2, .inl (dA 0, 8, .inl a0)), (oa 3, .inl (dA 1, 8, .inl a1)), (oa 4, .inl (dA 1, 8, .inl a2)), (oa 5, .inr (5, [.int a7, .int a8, .int a9, .int a10])), (oa 6, .inr (8, [.ref (oa 7), .ref (oa 8), .ref (oa 9), .ref (oa 10), .int a15])), (oa 7, .inl (dA 1, 12, .inl a11)), (oa 8, .inl (dA 1, 12, .inl a12)), (oa 9, .inl (dA 1, 12, .inl a13)), (oa 10, .inl (dA 1, 12, .inl a14)), (oa 11, .inr (9, [.ref (oa 12), .int a17, .int a18, .int a19])), (oa 12, .inl (dA 1, 5, .inl a16))] := hD
  have hl := lv_entry [.ref (oa 0)] (n := 2) (Nat.le_of_ble_eq_true rfl)
  rw [lg_entry_eq]
  generalize (lg_sl [.ref (oa 0)] ++ List.replicate (2 - (lg_sl [.ref (oa 0)]).length) Slot.unset).toArray = ls at hl ⊢
  have hl : lv_has ls 2 [(0, .ref (oa 0))] := hl
  have in_X0 : ∀ w ∈ wsX00, w ∈ ws_X0_passMinute := fun w h => bg _ (inB_X0 w h)
  have in_X2 : ∀ w ∈ wsX20, w ∈ ws_X0_passMinute := fun w h => bg _ (inB_X2 w h)
  have in_X5 : ∀ w ∈ wsX50, w ∈ ws_X0_passMinute := fun w h => bg _ (inB_X5 w h)
  rw [f_X0_passMinute] at hf
  refine lv_aload_n hx hb dX0_passMinute_0 rfl (lv_at hl 0 rfl) ?_
  refine va_get (D := (dC, dI)) (ci := 4) (v := .ref (oa 1)) (C := RX0) (T := TX0) (N := 4) hx hb hts in_X0 hown hK hP 0 rfl rfl 0 (by decide) (hts _ (bg _ wd_166)) (fun _ h9 => h9) rfl dX0_passMinute_1 ?_
  obtain ⟨r2, e1, hf⟩ := bd hf
  refine jr_i (va_runV (As := []) (rest := []) ⟨hx, hb, hml, hown, hts⟩ (m_X2_isUnderWay l dC dI dA gz (fun k => oa (1 + k)) s.heap.size a0 a1 a2 a3 a4 a5 a6 r2 e1) (cwV 0 hts (gi_v bg wd_365 wd_366 wd_367 wd_3 wd_368) rfl rfl rfl hd_X2_isUnderWay ⟨Nat.le_of_ble_eq_true rfl, Nat.le_of_ble_eq_true rfl⟩) ⟨pP_blind, va_recv (ci := 6) (q0 := 1) hK hP rfl rfl, pP_pre hP hD hS hA hK hN hZ [1, 2, 3, 4] (by decide) rfl⟩ rfl rfl hl.1 rfl (lv_room (Nat.le_of_ble_eq_true rfl)) dX0_passMinute_4 ⟨Nat.le_of_ble_eq_true rfl, Nat.le_of_ble_eq_true rfl⟩) hP hD hS hA [1, 2, 3, 4] rfl (fun H locs hP hS => ?_)
  refine lv_if_eq (tgt := 50) hx hb dX0_passMinute_7 (by decide) (fun q3 => ?_) (fun q3 => ?_)
  · have hf := it q3 hf
    refine lv_aload_n hx hb dX0_passMinute_50 rfl (lv_at hl 0 rfl) ?_
    refine va_get (D := (dC, dI)) (ci := 4) (v := .ref (oa 6)) (C := RX0) (T := TX0) (N := 4) hx hb hts in_X0 hown hK hP 0 rfl rfl 2 (by decide) (hts _ (bg _ wd_170)) (fun _ h9 => h9) rfl dX0_passMinute_51 ?_
    obtain ⟨c5_0, c5_1, c5_2, c5_3, c5_4, e4, hf⟩ := bX4_inv hf
    refine jn_v (va_runV (As := []) (rest := []) ⟨hx, hb, hml, hown, hts⟩ (m_X4_coolDown l dC dI dA gz (fun k => oa (6 + k)) H.size a11 a12 a13 a14 a15 (c5_0, c5_1, c5_2, c5_3, c5_4) e4) (cwV 0 hts (gi_v bg wd_576 wd_577 wd_578 wd_5 wd_579) rfl rfl rfl hd_X4_coolDown ⟨Nat.le_of_ble_eq_true rfl, Nat.le_of_ble_eq_true rfl⟩) ⟨pP_blind, va_recv (ci := 8) (q0 := 6) hK hP rfl rfl, pP_pre hP hD hS hA hK hN hZ [6, 7, 8, 9, 10] (by decide) rfl⟩ rfl rfl hl.1 rfl (lv_room (Nat.le_of_ble_eq_true rfl)) dX0_passMinute_54 ⟨Nat.le_of_ble_eq_true rfl, Nat.le_of_ble_eq_true rfl⟩) hP hD hS hA [6, 7, 8, 9, 10] rfl rfl (fun H locs hP hD hS => ?_)
    have hP : va_P (dC, dI) vwCl [(oa 0, .inr (4, [.ref (oa 1), .ref (oa 5), .ref (oa 6), .ref (oa 11)])), (oa 1, .inr (6, [.ref (oa 2), .ref (oa 3), .ref (oa 4), .int a3, .int a4, .int a5, .int a6])), (oa 2, .inl (dA 0, 8, .inl a0)), (oa 3, .inl (dA 1, 8, .inl a1)), (oa 4, .inl (dA 1, 8, .inl a2)), (oa 5, .inr (5, [.int a7, .int a8, .int a9, .int a10])), (oa 6, .inr (8, [.ref (oa 7), .ref (oa 8), .ref (oa 9), .ref (oa 10), .int c5_4])), (oa 7, .inl (dA 1, 12, .inl c5_0)), (oa 8, .inl (dA 1, 12, .inl c5_1)), (oa 9, .inl (dA 1, 12, .inl c5_2)), (oa 10, .inl (dA 1, 12, .inl c5_3)), (oa 11, .inr (9, [.ref (oa 12), .int a17, .int a18, .int a19])), (oa 12, .inl (dA 1, 5, .inl a16))] H := hP
    have hD : va_D A [(oa 0, .inr (4, [.ref (oa 1), .ref (oa 5), .ref (oa 6), .ref (oa 11)])), (oa 1, .inr (6, [.ref (oa 2), .ref (oa 3), .ref (oa 4), .int a3, .int a4, .int a5, .int a6])), (oa 2, .inl (dA 0, 8, .inl a0)), (oa 3, .inl (dA 1, 8, .inl a1)), (oa 4, .inl (dA 1, 8, .inl a2)), (oa 5, .inr (5, [.int a7, .int a8, .int a9, .int a10])), (oa 6, .inr (8, [.ref (oa 7), .ref (oa 8), .ref (oa 9), .ref (oa 10), .int c5_4])), (oa 7, .inl (dA 1, 12, .inl c5_0)), (oa 8, .inl (dA 1, 12, .inl c5_1)), (oa 9, .inl (dA 1, 12, .inl c5_2)), (oa 10, .inl (dA 1, 12, .inl c5_3)), (oa 11, .inr (9, [.ref (oa 12), .int a17, .int a18, .int a19])), (oa 12, .inl (dA 1, 5, .inl a16))] := hD
    refine lv_aload_n hx hb dX0_passMinute_57 rfl (lv_at hl 0 rfl) ?_
    refine va_get (D := (dC, dI)) (ci := 4) (v := .ref (oa 11)) (C := RX0) (T := TX0) (N := 4) hx hb hts in_X0 hown hK hP 0 rfl rfl 3 (by decide) (hts _ (bg _ wd_172)) (fun _ h9 => h9) rfl dX0_passMinute_58 ?_
    refine lv_dup hx hb dX0_passMinute_61 rfl ?_
    refine va_get (D := (dC, dI)) (ci := 9) (v := .int a17) (C := RX5) (T := TX5) (N := 4) hx hb hts in_X5 hown hK hP 11 rfl rfl 1 (by decide) (hts _ (bg _ wd_150)) (fun _ h9 => h9) rfl dX0_passMinute_62 ?_
    refine lv_iconst (v := 1) hx hb dX0_passMinute_65 (by decide) ?_
    refine lv_iadd hx hb dX0_passMinute_66 ?_
    refine va_put (D := (dC, dI)) (ci := 9) (v := .int (a17 + 1)) (ty := .int) (C := RX5) (T := TX5) (N := 4) hx hb hts in_X5 tyX5 tyX5_ok nmX5 hown hK hP hD hS 11 rfl rfl 1 (by decide) (hts _ (bg _ wd_150)) (fun _ h9 => h9) rfl (by decide +kernel) rfl rfl (Nat.le_of_ble_eq_true rfl) dX0_passMinute_67 (fun H locs hP hD hS => ?_)
    have hP : va_P (dC, dI) vwCl [(oa 0, .inr (4, [.ref (oa 1), .ref (oa 5), .ref (oa 6), .ref (oa 11)])), (oa 1, .inr (6, [.ref (oa 2), .ref (oa 3), .ref (oa 4), .int a3, .int a4, .int a5, .int a6])), (oa 2, .inl (dA 0, 8, .inl a0)), (oa 3, .inl (dA 1, 8, .inl a1)), (oa 4, .inl (dA 1, 8, .inl a2)), (oa 5, .inr (5, [.int a7, .int a8, .int a9, .int a10])), (oa 6, .inr (8, [.ref (oa 7), .ref (oa 8), .ref (oa 9), .ref (oa 10), .int c5_4])), (oa 7, .inl (dA 1, 12, .inl c5_0)), (oa 8, .inl (dA 1, 12, .inl c5_1)), (oa 9, .inl (dA 1, 12, .inl c5_2)), (oa 10, .inl (dA 1, 12, .inl c5_3)), (oa 11, .inr (9, [.ref (oa 12), .int (a17 + 1), .int a18, .int a19])), (oa 12, .inl (dA 1, 5, .inl a16))] H := hP
    have hD : va_D A [(oa 0, .inr (4, [.ref (oa 1), .ref (oa 5), .ref (oa 6), .ref (oa 11)])), (oa 1, .inr (6, [.ref (oa 2), .ref (oa 3), .ref (oa 4), .int a3, .int a4, .int a5, .int a6])), (oa 2, .inl (dA 0, 8, .inl a0)), (oa 3, .inl (dA 1, 8, .inl a1)), (oa 4, .inl (dA 1, 8, .inl a2)), (oa 5, .inr (5, [.int a7, .int a8, .int a9, .int a10])), (oa 6, .inr (8, [.ref (oa 7), .ref (oa 8), .ref (oa 9), .ref (oa 10), .int c5_4])), (oa 7, .inl (dA 1, 12, .inl c5_0)), (oa 8, .inl (dA 1, 12, .inl c5_1)), (oa 9, .inl (dA 1, 12, .inl c5_2)), (oa 10, .inl (dA 1, 12, .inl c5_3)), (oa 11, .inr (9, [.ref (oa 12), .int (a17 + 1), .int a18, .int a19])), (oa 12, .inl (dA 1, 5, .inl a16))] := hD
    have e9 := sm hf
    exact W.vret hx hb hr (fun t ht hW => ⟨⟨(), rfl, trivial, by rw [← e9, ht]; exact hP, by rw [← e9]; exact hD⟩, hS.F ht⟩) hS.2.2 dX0_passMinute_70
  · have hf := ie q3 hf
    refine lv_aload_n hx hb dX0_passMinute_10 rfl (lv_at hl 0 rfl) ?_
    refine va_get (D := (dC, dI)) (ci := 4) (v := .ref (oa 1)) (C := RX0) (T := TX0) (N := 4) hx hb hts in_X0 hown hK hP 0 rfl rfl 0 (by decide) (hts _ (bg _ wd_166)) (fun _ h9 => h9) rfl dX0_passMinute_11 ?_
    refine va_get (D := (dC, dI)) (ci := 6) (v := .int a4) (C := RX2) (T := TX2) (N := 7) hx hb hts in_X2 hown hK hP 1 rfl rfl 4 (by decide) (hts _ (bg _ wd_64)) (fun _ h9 => h9) rfl dX0_passMinute_14 ?_
    refine lv_istore_n (lv' := [(1, .int a4), (0, .ref (oa 0))]) hx hb dX0_passMinute_17 rfl hl (by decide) rfl (fun ls hl => ?_)
    refine lv_aload_n hx hb dX0_passMinute_18 rfl (lv_at hl 1 rfl) ?_
    refine va_get (D := (dC, dI)) (ci := 4) (v := .ref (oa 5)) (C := RX0) (T := TX0) (N := 4) hx hb hts in_X0 hown hK hP 0 rfl rfl 1 (by decide) (hts _ (bg _ wd_168)) (fun _ h9 => h9) rfl dX0_passMinute_19 ?_
    refine lv_aload_n hx hb dX0_passMinute_22 rfl (lv_at hl 1 rfl) ?_
    refine va_get (D := (dC, dI)) (ci := 4) (v := .ref (oa 1)) (C := RX0) (T := TX0) (N := 4) hx hb hts in_X0 hown hK hP 0 rfl rfl 0 (by decide) (hts _ (bg _ wd_166)) (fun _ h9 => h9) rfl dX0_passMinute_23 ?_
    refine va_get (D := (dC, dI)) (ci := 6) (v := .ref (oa 2)) (C := RX2) (T := TX2) (N := 7) hx hb hts in_X2 hown hK hP 1 rfl rfl 0 (by decide) (hts _ (bg _ wd_54)) (fun _ h9 => h9) rfl dX0_passMinute_26 ?_
    refine lv_iload_n hx hb dX0_passMinute_29 rfl (lv_at hl 0 rfl) ?_
    obtain ⟨z6, hf⟩ := gd hf
    refine va_cald hx hb hK hP 2 0 rfl rfl z6 dX0_passMinute_30 ?_
    refine lv_aload_n hx hb dX0_passMinute_31 rfl (lv_at hl 1 rfl) ?_
    refine va_get (D := (dC, dI)) (ci := 4) (v := .ref (oa 1)) (C := RX0) (T := TX0) (N := 4) hx hb hts in_X0 hown hK hP 0 rfl rfl 0 (by decide) (hts _ (bg _ wd_166)) (fun _ h9 => h9) rfl dX0_passMinute_32 ?_
    refine va_get (D := (dC, dI)) (ci := 6) (v := .ref (oa 4)) (C := RX2) (T := TX2) (N := 7) hx hb hts in_X2 hown hK hP 1 rfl rfl 2 (by decide) (hts _ (bg _ wd_58)) (fun _ h9 => h9) rfl dX0_passMinute_35 ?_
    refine lv_iload_n hx hb dX0_passMinute_38 rfl (lv_at hl 0 rfl) ?_
    obtain ⟨z7, hf⟩ := gd hf
    refine va_iald hx hb hK hP 4 1 rfl rfl z7 dX0_passMinute_39 ?_
    obtain ⟨c9_0, c9_1, c9_2, c9_3, e8, hf⟩ := bX1_inv hf
    refine jn_v (va_runV (As := [.int (a0 a4.toNatClampNeg), .int (a2 a4.toNatClampNeg)]) (rest := []) ⟨hx, hb, hml, hown, hts⟩ (m_X1_change l dC dI dA gz (fun k => oa (5 + k)) H.size a7 a8 a9 a10 (a0 a4.toNatClampNeg) (a2 a4.toNatClampNeg) (c9_0, c9_1, c9_2, c9_3) e8) (cwV 2 hts (gi_v bg wd_555 wd_556 wd_557 wd_4 wd_558) rfl rfl rfl hd_X1_change ⟨Nat.le_of_ble_eq_true rfl, Nat.le_of_ble_eq_true rfl⟩) ⟨pP_blind, va_recv (ci := 5) (q0 := 5) hK hP rfl rfl, pP_pre hP hD hS hA hK hN hZ [5] (by decide) rfl⟩ rfl rfl hl.1 rfl (lv_room (Nat.le_of_ble_eq_true rfl)) dX0_passMinute_40 ⟨Nat.le_of_ble_eq_true rfl, Nat.le_of_ble_eq_true rfl⟩) hP hD hS hA [5] rfl rfl (fun H locs hP hD hS => ?_)
    have hP : va_P (dC, dI) vwCl [(oa 0, .inr (4, [.ref (oa 1), .ref (oa 5), .ref (oa 6), .ref (oa 11)])), (oa 1, .inr (6, [.ref (oa 2), .ref (oa 3), .ref (oa 4), .int a3, .int a4, .int a5, .int a6])), (oa 2, .inl (dA 0, 8, .inl a0)), (oa 3, .inl (dA 1, 8, .inl a1)), (oa 4, .inl (dA 1, 8, .inl a2)), (oa 5, .inr (5, [.int c9_0, .int c9_1, .int c9_2, .int c9_3])), (oa 6, .inr (8, [.ref (oa 7), .ref (oa 8), .ref (oa 9), .ref (oa 10), .int a15])), (oa 7, .inl (dA 1, 12, .inl a11)), (oa 8, .inl (dA 1, 12, .inl a12)), (oa 9, .inl (dA 1, 12, .inl a13)), (oa 10, .inl (dA 1, 12, .inl a14)), (oa 11, .inr (9, [.ref (oa 12), .int a17, .int a18, .int a19])), (oa 12, .inl (dA 1, 5, .inl a16))] H := hP
    have hD : va_D A [(oa 0, .inr (4, [.ref (oa 1), .ref (oa 5), .ref (oa 6), .ref (oa 11)])), (oa 1, .inr (6, [.ref (oa 2), .ref (oa 3), .ref (oa 4), .int a3, .int a4, .int a5, .int a6])), (oa 2, .inl (dA 0, 8, .inl a0)), (oa 3, .inl (dA 1, 8, .inl a1)), (oa 4, .inl (dA 1, 8, .inl a2)), (oa 5, .inr (5, [.int c9_0, .int c9_1, .int c9_2, .int c9_3])), (oa 6, .inr (8, [.ref (oa 7), .ref (oa 8), .ref (oa 9), .ref (oa 10), .int a15])), (oa 7, .inl (dA 1, 12, .inl a11)), (oa 8, .inl (dA 1, 12, .inl a12)), (oa 9, .inl (dA 1, 12, .inl a13)), (oa 10, .inl (dA 1, 12, .inl a14)), (oa 11, .inr (9, [.ref (oa 12), .int a17, .int a18, .int a19])), (oa 12, .inl (dA 1, 5, .inl a16))] := hD
    refine lv_aload_n hx hb dX0_passMinute_43 rfl (lv_at hl 1 rfl) ?_
    refine va_get (D := (dC, dI)) (ci := 4) (v := .ref (oa 1)) (C := RX0) (T := TX0) (N := 4) hx hb hts in_X0 hown hK hP 0 rfl rfl 0 (by decide) (hts _ (bg _ wd_166)) (fun _ h9 => h9) rfl dX0_passMinute_44 ?_
    obtain ⟨c11_0, c11_1, c11_2, c11_3, c11_4, c11_5, c11_6, e10, hf⟩ := bX2_inv hf
    refine jn_v (va_runV (As := []) (rest := []) ⟨hx, hb, hml, hown, hts⟩ (m_X2_advance l dC dI dA gz (fun k => oa (1 + k)) H.size a0 a1 a2 a3 a4 a5 a6 (c11_0, c11_1, c11_2, c11_3, c11_4, c11_5, c11_6) e10) (cwV 0 hts (gi_v bg wd_571 wd_572 wd_573 wd_3 wd_574) rfl rfl rfl hd_X2_advance ⟨Nat.le_of_ble_eq_true rfl, Nat.le_of_ble_eq_true rfl⟩) ⟨pP_blind, va_recv (ci := 6) (q0 := 1) hK hP rfl rfl, pP_pre hP hD hS hA hK hN hZ [1, 2, 3, 4] (by decide) rfl⟩ rfl rfl hl.1 rfl (lv_room (Nat.le_of_ble_eq_true rfl)) dX0_passMinute_47 ⟨Nat.le_of_ble_eq_true rfl, Nat.le_of_ble_eq_true rfl⟩) hP hD hS hA [1, 2, 3, 4] rfl rfl (fun H locs hP hD hS => ?_)
    have hP : va_P (dC, dI) vwCl [(oa 0, .inr (4, [.ref (oa 1), .ref (oa 5), .ref (oa 6), .ref (oa 11)])), (oa 1, .inr (6, [.ref (oa 2), .ref (oa 3), .ref (oa 4), .int c11_3, .int c11_4, .int c11_5, .int c11_6])), (oa 2, .inl (dA 0, 8, .inl c11_0)), (oa 3, .inl (dA 1, 8, .inl c11_1)), (oa 4, .inl (dA 1, 8, .inl c11_2)), (oa 5, .inr (5, [.int c9_0, .int c9_1, .int c9_2, .int c9_3])), (oa 6, .inr (8, [.ref (oa 7), .ref (oa 8), .ref (oa 9), .ref (oa 10), .int a15])), (oa 7, .inl (dA 1, 12, .inl a11)), (oa 8, .inl (dA 1, 12, .inl a12)), (oa 9, .inl (dA 1, 12, .inl a13)), (oa 10, .inl (dA 1, 12, .inl a14)), (oa 11, .inr (9, [.ref (oa 12), .int a17, .int a18, .int a19])), (oa 12, .inl (dA 1, 5, .inl a16))] H := hP
    have hD : va_D A [(oa 0, .inr (4, [.ref (oa 1), .ref (oa 5), .ref (oa 6), .ref (oa 11)])), (oa 1, .inr (6, [.ref (oa 2), .ref (oa 3), .ref (oa 4), .int c11_3, .int c11_4, .int c11_5, .int c11_6])), (oa 2, .inl (dA 0, 8, .inl c11_0)), (oa 3, .inl (dA 1, 8, .inl c11_1)), (oa 4, .inl (dA 1, 8, .inl c11_2)), (oa 5, .inr (5, [.int c9_0, .int c9_1, .int c9_2, .int c9_3])), (oa 6, .inr (8, [.ref (oa 7), .ref (oa 8), .ref (oa 9), .ref (oa 10), .int a15])), (oa 7, .inl (dA 1, 12, .inl a11)), (oa 8, .inl (dA 1, 12, .inl a12)), (oa 9, .inl (dA 1, 12, .inl a13)), (oa 10, .inl (dA 1, 12, .inl a14)), (oa 11, .inr (9, [.ref (oa 12), .int a17, .int a18, .int a19])), (oa 12, .inl (dA 1, 5, .inl a16))] := hD
    refine lv_aload_n hx hb dX0_passMinute_50 rfl (lv_at hl 1 rfl) ?_
    refine va_get (D := (dC, dI)) (ci := 4) (v := .ref (oa 6)) (C := RX0) (T := TX0) (N := 4) hx hb hts in_X0 hown hK hP 0 rfl rfl 2 (by decide) (hts _ (bg _ wd_170)) (fun _ h9 => h9) rfl dX0_passMinute_51 ?_
    obtain ⟨c13_0, c13_1, c13_2, c13_3, c13_4, e12, hf⟩ := bX4_inv hf
    refine jn_v (va_runV (As := []) (rest := []) ⟨hx, hb, hml, hown, hts⟩ (m_X4_coolDown l dC dI dA gz (fun k => oa (6 + k)) H.size a11 a12 a13 a14 a15 (c13_0, c13_1, c13_2, c13_3, c13_4) e12) (cwV 0 hts (gi_v bg wd_576 wd_577 wd_578 wd_5 wd_579) rfl rfl rfl hd_X4_coolDown ⟨Nat.le_of_ble_eq_true rfl, Nat.le_of_ble_eq_true rfl⟩) ⟨pP_blind, va_recv (ci := 8) (q0 := 6) hK hP rfl rfl, pP_pre hP hD hS hA hK hN hZ [6, 7, 8, 9, 10] (by decide) rfl⟩ rfl rfl hl.1 rfl (lv_room (Nat.le_of_ble_eq_true rfl)) dX0_passMinute_54 ⟨Nat.le_of_ble_eq_true rfl, Nat.le_of_ble_eq_true rfl⟩) hP hD hS hA [6, 7, 8, 9, 10] rfl rfl (fun H locs hP hD hS => ?_)
    have hP : va_P (dC, dI) vwCl [(oa 0, .inr (4, [.ref (oa 1), .ref (oa 5), .ref (oa 6), .ref (oa 11)])), (oa 1, .inr (6, [.ref (oa 2), .ref (oa 3), .ref (oa 4), .int c11_3, .int c11_4, .int c11_5, .int c11_6])), (oa 2, .inl (dA 0, 8, .inl c11_0)), (oa 3, .inl (dA 1, 8, .inl c11_1)), (oa 4, .inl (dA 1, 8, .inl c11_2)), (oa 5, .inr (5, [.int c9_0, .int c9_1, .int c9_2, .int c9_3])), (oa 6, .inr (8, [.ref (oa 7), .ref (oa 8), .ref (oa 9), .ref (oa 10), .int c13_4])), (oa 7, .inl (dA 1, 12, .inl c13_0)), (oa 8, .inl (dA 1, 12, .inl c13_1)), (oa 9, .inl (dA 1, 12, .inl c13_2)), (oa 10, .inl (dA 1, 12, .inl c13_3)), (oa 11, .inr (9, [.ref (oa 12), .int a17, .int a18, .int a19])), (oa 12, .inl (dA 1, 5, .inl a16))] H := hP
    have hD : va_D A [(oa 0, .inr (4, [.ref (oa 1), .ref (oa 5), .ref (oa 6), .ref (oa 11)])), (oa 1, .inr (6, [.ref (oa 2), .ref (oa 3), .ref (oa 4), .int c11_3, .int c11_4, .int c11_5, .int c11_6])), (oa 2, .inl (dA 0, 8, .inl c11_0)), (oa 3, .inl (dA 1, 8, .inl c11_1)), (oa 4, .inl (dA 1, 8, .inl c11_2)), (oa 5, .inr (5, [.int c9_0, .int c9_1, .int c9_2, .int c9_3])), (oa 6, .inr (8, [.ref (oa 7), .ref (oa 8), .ref (oa 9), .ref (oa 10), .int c13_4])), (oa 7, .inl (dA 1, 12, .inl c13_0)), (oa 8, .inl (dA 1, 12, .inl c13_1)), (oa 9, .inl (dA 1, 12, .inl c13_2)), (oa 10, .inl (dA 1, 12, .inl c13_3)), (oa 11, .inr (9, [.ref (oa 12), .int a17, .int a18, .int a19])), (oa 12, .inl (dA 1, 5, .inl a16))] := hD
    refine lv_aload_n hx hb dX0_passMinute_57 rfl (lv_at hl 1 rfl) ?_
    refine va_get (D := (dC, dI)) (ci := 4) (v := .ref (oa 11)) (C := RX0) (T := TX0) (N := 4) hx hb hts in_X0 hown hK hP 0 rfl rfl 3 (by decide) (hts _ (bg _ wd_172)) (fun _ h9 => h9) rfl dX0_passMinute_58 ?_
    refine lv_dup hx hb dX0_passMinute_61 rfl ?_
    refine va_get (D := (dC, dI)) (ci := 9) (v := .int a17) (C := RX5) (T := TX5) (N := 4) hx hb hts in_X5 hown hK hP 11 rfl rfl 1 (by decide) (hts _ (bg _ wd_150)) (fun _ h9 => h9) rfl dX0_passMinute_62 ?_
    refine lv_iconst (v := 1) hx hb dX0_passMinute_65 (by decide) ?_
    refine lv_iadd hx hb dX0_passMinute_66 ?_
    refine va_put (D := (dC, dI)) (ci := 9) (v := .int (a17 + 1)) (ty := .int) (C := RX5) (T := TX5) (N := 4) hx hb hts in_X5 tyX5 tyX5_ok nmX5 hown hK hP hD hS 11 rfl rfl 1 (by decide) (hts _ (bg _ wd_150)) (fun _ h9 => h9) rfl (by decide +kernel) rfl rfl (Nat.le_of_ble_eq_true rfl) dX0_passMinute_67 (fun H locs hP hD hS => ?_)
    have hP : va_P (dC, dI) vwCl [(oa 0, .inr (4, [.ref (oa 1), .ref (oa 5), .ref (oa 6), .ref (oa 11)])), (oa 1, .inr (6, [.ref (oa 2), .ref (oa 3), .ref (oa 4), .int c11_3, .int c11_4, .int c11_5, .int c11_6])), (oa 2, .inl (dA 0, 8, .inl c11_0)), (oa 3, .inl (dA 1, 8, .inl c11_1)), (oa 4, .inl (dA 1, 8, .inl c11_2)), (oa 5, .inr (5, [.int c9_0, .int c9_1, .int c9_2, .int c9_3])), (oa 6, .inr (8, [.ref (oa 7), .ref (oa 8), .ref (oa 9), .ref (oa 10), .int c13_4])), (oa 7, .inl (dA 1, 12, .inl c13_0)), (oa 8, .inl (dA 1, 12, .inl c13_1)), (oa 9, .inl (dA 1, 12, .inl c13_2)), (oa 10, .inl (dA 1, 12, .inl c13_3)), (oa 11, .inr (9, [.ref (oa 12), .int (a17 + 1), .int a18, .int a19])), (oa 12, .inl (dA 1, 5, .inl a16))] H := hP
    have hD : va_D A [(oa 0, .inr (4, [.ref (oa 1), .ref (oa 5), .ref (oa 6), .ref (oa 11)])), (oa 1, .inr (6, [.ref (oa 2), .ref (oa 3), .ref (oa 4), .int c11_3, .int c11_4, .int c11_5, .int c11_6])), (oa 2, .inl (dA 0, 8, .inl c11_0)), (oa 3, .inl (dA 1, 8, .inl c11_1)), (oa 4, .inl (dA 1, 8, .inl c11_2)), (oa 5, .inr (5, [.int c9_0, .int c9_1, .int c9_2, .int c9_3])), (oa 6, .inr (8, [.ref (oa 7), .ref (oa 8), .ref (oa 9), .ref (oa 10), .int c13_4])), (oa 7, .inl (dA 1, 12, .inl c13_0)), (oa 8, .inl (dA 1, 12, .inl c13_1)), (oa 9, .inl (dA 1, 12, .inl c13_2)), (oa 10, .inl (dA 1, 12, .inl c13_3)), (oa 11, .inr (9, [.ref (oa 12), .int (a17 + 1), .int a18, .int a19])), (oa 12, .inl (dA 1, 5, .inl a16))] := hD
    have e9 := sm hf
    exact W.vret hx hb hr (fun t ht hW => ⟨⟨(), rfl, trivial, by rw [← e9, ht]; exact hP, by rw [← e9]; exact hD⟩, hS.F ht⟩) hS.2.2 dX0_passMinute_70
/-! X0_passMinutes -/
def f_X0_passMinutes_4 (p1 : Int32) : Nat → Int32 → Int32 → Ar → Ar → Ar → Int32 → Int32 → Int32 → Int32 → Int32 → Int32 → Int32 → Int32 → Ar → Ar → Ar → Ar → Int32 → Ar → Int32 → Int32 → Int32 →  Option (Int32 × SX0)
  | 0, _, _, _, _, _, _, _, _, _, _, _, _, _, _, _, _, _, _, _, _, _, _ => none
  | n + 1, x2, x3, m0, m1, m2, m3, m4, m5, m6, m7, m8, m9, m10, m11, m12, m13, m14, m15, m16, m17, m18, m19 =>
  (if p1 ≤ x3 then some (x2, ((m0, m1, m2, m3, m4, m5, m6), (m7, m8, m9, m10), (m11, m12, m13, m14, m15), (m16, m17, m18, m19))) else
  (f_X2_isUnderWay m0 m1 m2 m3 m4 m5 m6).bind fun r3 =>
  (if r3 = 0 then bX0 (f_X0_passMinute m0 m1 m2 m3 m4 m5 m6 m7 m8 m9 m10 m11 m12 m13 m14 m15 m16 m17 m18 m19) fun c6_0 c6_1 c6_2 c6_3 c6_4 c6_5 c6_6 c6_7 c6_8 c6_9 c6_10 c6_11 c6_12 c6_13 c6_14 c6_15 c6_16 c6_17 c6_18 c6_19 =>
  f_X0_passMinutes_4 p1 n x2 (x3 + 1) c6_0 c6_1 c6_2 c6_3 c6_4 c6_5 c6_6 c6_7 c6_8 c6_9 c6_10 c6_11 c6_12 c6_13 c6_14 c6_15 c6_16 c6_17 c6_18 c6_19 else
  bX0 (f_X0_passMinute m0 m1 m2 m3 m4 m5 m6 m7 m8 m9 m10 m11 m12 m13 m14 m15 m16 m17 m18 m19) fun c8_0 c8_1 c8_2 c8_3 c8_4 c8_5 c8_6 c8_7 c8_8 c8_9 c8_10 c8_11 c8_12 c8_13 c8_14 c8_15 c8_16 c8_17 c8_18 c8_19 =>
  f_X0_passMinutes_4 p1 n (x2 + 1) (x3 + 1) c8_0 c8_1 c8_2 c8_3 c8_4 c8_5 c8_6 c8_7 c8_8 c8_9 c8_10 c8_11 c8_12 c8_13 c8_14 c8_15 c8_16 c8_17 c8_18 c8_19))
def f_X0_passMinutes (a0 : Ar) (a1 : Ar) (a2 : Ar) (a3 : Int32) (a4 : Int32) (a5 : Int32) (a6 : Int32) (a7 : Int32) (a8 : Int32) (a9 : Int32) (a10 : Int32) (a11 : Ar) (a12 : Ar) (a13 : Ar) (a14 : Ar) (a15 : Int32) (a16 : Ar) (a17 : Int32) (a18 : Int32) (a19 : Int32) (p1 : Int32) : Option (Int32 × SX0) :=
  f_X0_passMinutes_4 p1 300 0 0 a0 a1 a2 a3 a4 a5 a6 a7 a8 a9 a10 a11 a12 a13 a14 a15 a16 a17 a18 a19
set_option maxRecDepth 100000 in
set_option maxHeartbeats 4000000 in
theorem m_X0_passMinutes (l : Launch) (dC : Nat → ClassId) (dI : Nat → Nat → Nat) (dA gz : Nat → Nat) (oa : Nat → Nat) (sz : Nat) (a0 : Ar) (a1 : Ar) (a2 : Ar) (a3 : Int32) (a4 : Int32) (a5 : Int32) (a6 : Int32) (a7 : Int32) (a8 : Int32) (a9 : Int32) (a10 : Int32) (a11 : Ar) (a12 : Ar) (a13 : Ar) (a14 : Ar) (a15 : Int32) (a16 : Ar) (a17 : Int32) (a18 : Int32) (a19 : Int32) (p1 : Int32) (rr : Int32) (uu : SX0) (hf : f_X0_passMinutes a0 a1 a2 a3 a4 a5 a6 a7 a8 a9 a10 a11 a12 a13 a14 a15 a16 a17 a18 a19 p1 = some (rr, uu)) : Met l yX0_passMinutes ws_X0_passMinutes ({ frames := 26, cells := 0, slots := 0, locals := 1000 } : Room) (va_Pc [.ref (oa 0), .int p1] (pP (dC, dI) dA gz (wX0 dA oa ((a0, a1, a2, a3, a4, a5, a6), (a7, a8, a9, a10), (a11, a12, a13, a14, a15), (a16, a17, a18, a19))) sz)) (va_Qi (S := Unit) (fun r' _ => r' = rr) (fun _ t => pQ (dC, dI) (va_A (wX0 dA oa ((a0, a1, a2, a3, a4, a5, a6), (a7, a8, a9, a10), (a11, a12, a13, a14, a15), (a16, a17, a18, a19))) sz) (wX0 dA oa uu) t) (va_A (wX0 dA oa ((a0, a1, a2, a3, a4, a5, a6), (a7, a8, a9, a10), (a11, a12, a13, a14, a15), (a16, a17, a18, a19))) sz)) 0 0 (va_A (wX0 dA oa ((a0, a1, a2, a3, a4, a5, a6), (a7, a8, a9, a10), (a11, a12, a13, a14, a15), (a16, a17, a18, a19))) sz) := by
  refine Met.ofW (cc := cX0_passMinutes) (maxL := 4) (ret := (some .int)) (by decide) rfl ?_
  intro p e s m args below meth c s₁ B hml hv
  obtain ⟨rfl, hsz, hP, hK, hD0, hN, hZ⟩ := hv
  have hx := B.exec
  have hb := B.bytes
  have hr := B.returns
  have hts := atoms_spec (ws := ws_X0_passMinutes) B.pre
  have hown : s.vm.findClass RX0 = some m.cls := findClass_of_methodNamed B.named
  have hlocks := B.notSynchronized
  subst hsz
  have hD := hD0.self (sz := s.heap.size)
  generalize hAe : va_A (wX0 dA oa ((a0, a1, a2, a3, a4, a5, a6), (a7, a8, a9, a10), (a11, a12, a13, a14, a15), (a16, a17, a18, a19))) s.heap.size = A at hD hZ ⊢
  have hA : ∀ q : Nat, s.heap.size ≤ q → A q := fun q h => by rw [← hAe]; exact Or.inr h
  have hS : va_S A s.heap s.heap [] := va_S.rf
  have hP : va_P (dC, dI) vwCl [(oa 0, .inr (4, [.ref (oa 1), .ref (oa 5), .ref (oa 6), .ref (oa 11)])), (oa 1, .inr (6, [.ref (oa 2), .ref (oa 3), .ref (oa 4), .int a3, .int a4, .int a5, .int a6])), (oa 2, .inl (dA 0, 8, .inl a0)), (oa 3, .inl (dA 1, 8, .inl a1)), (oa 4, .inl (dA 1, 8, .inl a2)), (oa 5, .inr (5, [.int a7, .int a8, .int a9, .int a10])), (oa 6, .inr (8, [.ref (oa 7), .ref (oa 8), .ref (oa 9), .ref (oa 10), .int a15])), (oa 7, .inl (dA 1, 12, .inl a11)), (oa 8, .inl (dA 1, 12, .inl a12)), (oa 9, .inl (dA 1, 12, .inl a13)), (oa 10, .inl (dA 1, 12, .inl a14)), (oa 11, .inr (9, [.ref (oa 12), .int a17, .int a18, .int a19])), (oa 12, .inl (dA 1, 5, .inl a16))] s.heap := hP
  have hD : va_D A [(oa 0, .inr (4, [.ref (oa 1), .ref (oa 5), .ref (oa 6), .ref (oa 11)])), (oa 1, .inr (6, [.ref (oa 2), .ref (oa 3), .ref (oa 4), .int a3, .int a4, .int a5, .int a6])), (oa 2, .inl (dA 0, 8, .inl a0)), (oa 3, .inl (dA 1, 8, .inl a1)), (oa 4, .inl (dA 1, 8, .inl a2)), (oa 5, .inr (5, [.int a7, .int a8, .int a9, .int a10])), (oa 6, .inr (8, [.ref (oa 7), .ref (oa 8), .ref (oa 9), .ref (oa 10), .int a15])), (oa 7, .inl (dA 1, 12, .inl a11)), (oa 8, .inl (dA 1, 12, .inl a12)), (oa 9, .inl (dA 1, 12, .inl a13)), (oa 10, .inl (dA 1, 12, .inl a14)), (oa 11, .inr (9, [.ref (oa 12), .int a17, .int a18, .int a19])), (oa 12, .inl (dA 1, 5, .inl a16))] := hD
  have hl := lv_entry [.ref (oa 0), .int p1] (n := 4) (Nat.le_of_ble_eq_true rfl)
  rw [lg_entry_eq]
  generalize (lg_sl [.ref (oa 0), .int p1] ++ List.replicate (4 - (lg_sl [.ref (oa 0), .int p1]).length) Slot.unset).toArray = ls at hl ⊢
  have hl : lv_has ls 4 [(0, .ref (oa 0)), (1, .int p1)] := hl
  have in_X0 : ∀ w ∈ wsX00, w ∈ ws_X0_passMinutes := fun w h => bg _ (inB_X0 w h)
  have cut4 : ∀ (n : Nat) (x2 : Int32) (x3 : Int32) (m0 : Ar) (m1 : Ar) (m2 : Ar) (m3 : Int32) (m4 : Int32) (m5 : Int32) (m6 : Int32) (m7 : Int32) (m8 : Int32) (m9 : Int32) (m10 : Int32) (m11 : Ar) (m12 : Ar) (m13 : Ar) (m14 : Ar) (m15 : Int32) (m16 : Ar) (m17 : Int32) (m18 : Int32) (m19 : Int32) (H : Heap) (locs : List Loc) (ls : Array Slot), f_X0_passMinutes_4 p1 n x2 x3 m0 m1 m2 m3 m4 m5 m6 m7 m8 m9 m10 m11 m12 m13 m14 m15 m16 m17 m18 m19 = some (rr, uu) → va_P (dC, dI) vwCl [(oa 0, .inr (4, [.ref (oa 1), .ref (oa 5), .ref (oa 6), .ref (oa 11)])), (oa 1, .inr (6, [.ref (oa 2), .ref (oa 3), .ref (oa 4), .int m3, .int m4, .int m5, .int m6])), (oa 2, .inl (dA 0, 8, .inl m0)), (oa 3, .inl (dA 1, 8, .inl m1)), (oa 4, .inl (dA 1, 8, .inl m2)), (oa 5, .inr (5, [.int m7, .int m8, .int m9, .int m10])), (oa 6, .inr (8, [.ref (oa 7), .ref (oa 8), .ref (oa 9), .ref (oa 10), .int m15])), (oa 7, .inl (dA 1, 12, .inl m11)), (oa 8, .inl (dA 1, 12, .inl m12)), (oa 9, .inl (dA 1, 12, .inl m13)), (oa 10, .inl (dA 1, 12, .inl m14)), (oa 11, .inr (9, [.ref (oa 12), .int m17, .int m18, .int m19])), (oa 12, .inl (dA 1, 5, .inl m16))] H → va_D A [(oa 0, .inr (4, [.ref (oa 1), .ref (oa 5), .ref (oa 6), .ref (oa 11)])), (oa 1, .inr (6, [.ref (oa 2), .ref (oa 3), .ref (oa 4), .int m3, .int m4, .int m5, .int m6])), (oa 2, .inl (dA 0, 8, .inl m0)), (oa 3, .inl (dA 1, 8, .inl m1)), (oa 4, .inl (dA 1, 8, .inl m2)), (oa 5, .inr (5, [.int m7, .int m8, .int m9, .int m10])), (oa 6, .inr (8, [.ref (oa 7), .ref (oa 8), .ref (oa 9), .ref (oa 10), .int m15])), (oa 7, .inl (dA 1, 12, .inl m11)), (oa 8, .inl (dA 1, 12, .inl m12)), (oa 9, .inl (dA 1, 12, .inl m13)), (oa 10, .inl (dA 1, 12, .inl m14)), (oa 11, .inr (9, [.ref (oa 12), .int m17, .int m18, .int m19])), (oa 12, .inl (dA 1, 5, .inl m16))] → va_S A s.heap H locs → lv_has ls 4 [(0, .ref (oa 0)), (1, .int p1), (2, .int x2), (3, .int x3)] → W p l e (headSpec ws_X0_passMinutes ({ frames := 26, cells := 0, slots := 0, locals := 1000 } : Room)).room s m ([.ref (oa 0), .int p1] : List Value).toArray below meth c H locs 0 0 (MQ below (va_Qi (S := Unit) (fun r' _ => r' = rr) (fun _ t => pQ (dC, dI) A (wX0 dA oa uu) t) A) ([.ref (oa 0), .int p1] : List Value).toArray s 0 0 A) (F0 m 4 ls []) := by
    intro n
    induction n with
    | zero =>
      intro x2 x3 m0 m1 m2 m3 m4 m5 m6 m7 m8 m9 m10 m11 m12 m13 m14 m15 m16 m17 m18 m19 H locs ls hf
      rw [f_X0_passMinutes_4] at hf
      cases hf
    | succ n ih =>
      intro x2 x3 m0 m1 m2 m3 m4 m5 m6 m7 m8 m9 m10 m11 m12 m13 m14 m15 m16 m17 m18 m19 H locs ls hf hP hD hS hl
      rw [f_X0_passMinutes_4] at hf
      refine lv_iload_n hx hb dX0_passMinutes_4 rfl (lv_at hl 3 rfl) ?_
      refine lv_iload_n hx hb dX0_passMinutes_5 rfl (lv_at hl 1 rfl) ?_
      refine lv_icmp_ge (tgt := 32) hx hb dX0_passMinutes_6 (by decide) (fun q1 => ?_) (fun q1 => ?_)
      · have hf := it q1 hf
        refine lv_iload_n hx hb dX0_passMinutes_32 rfl (lv_at hl 2 rfl) ?_
        obtain ⟨e8, e9⟩ := Prod.mk.inj (sm hf)
        exact W.iret hx hb hr (fun t ht hW => ⟨⟨_, (), rfl, e8, by rw [← e9, ht]; exact hP, by rw [← e9]; exact hD⟩, hS.F ht⟩) hS.2.2 dX0_passMinutes_33
      · have hf := ie q1 hf
        refine lv_aload_n hx hb dX0_passMinutes_9 rfl (lv_at hl 0 rfl) ?_
        refine va_get (D := (dC, dI)) (ci := 4) (v := .ref (oa 1)) (C := RX0) (T := TX0) (N := 4) hx hb hts in_X0 hown hK hP 0 rfl rfl 0 (by decide) (hts _ (bg _ wd_166)) (fun _ h9 => h9) rfl dX0_passMinutes_10 ?_
        obtain ⟨r3, e2, hf⟩ := bd hf
        refine jr_i (va_runV (As := []) (rest := []) ⟨hx, hb, hml, hown, hts⟩ (m_X2_isUnderWay l dC dI dA gz (fun k => oa (1 + k)) H.size m0 m1 m2 m3 m4 m5 m6 r3 e2) (cwV 0 hts (gi_v bg wd_365 wd_366 wd_367 wd_3 wd_368) rfl rfl rfl hd_X2_isUnderWay ⟨Nat.le_of_ble_eq_true rfl, Nat.le_of_ble_eq_true rfl⟩) ⟨pP_blind, va_recv (ci := 6) (q0 := 1) hK hP rfl rfl, pP_pre hP hD hS hA hK hN hZ [1, 2, 3, 4] (by decide) rfl⟩ rfl rfl hl.1 rfl (lv_room (Nat.le_of_ble_eq_true rfl)) dX0_passMinutes_13 ⟨Nat.le_of_ble_eq_true rfl, Nat.le_of_ble_eq_true rfl⟩) hP hD hS hA [1, 2, 3, 4] rfl (fun H locs hP hS => ?_)
        refine lv_if_eq (tgt := 22) hx hb dX0_passMinutes_16 (by decide) (fun q4 => ?_) (fun q4 => ?_)
        · have hf := it q4 hf
          refine lv_aload_n hx hb dX0_passMinutes_22 rfl (lv_at hl 0 rfl) ?_
          obtain ⟨c6_0, c6_1, c6_2, c6_3, c6_4, c6_5, c6_6, c6_7, c6_8, c6_9, c6_10, c6_11, c6_12, c6_13, c6_14, c6_15, c6_16, c6_17, c6_18, c6_19, e5, hf⟩ := bX0_inv hf
          refine jn_v (va_runV (As := []) (rest := []) ⟨hx, hb, hml, hown, hts⟩ (m_X0_passMinute l dC dI dA gz oa H.size m0 m1 m2 m3 m4 m5 m6 m7 m8 m9 m10 m11 m12 m13 m14 m15 m16 m17 m18 m19 ((c6_0, c6_1, c6_2, c6_3, c6_4, c6_5, c6_6), (c6_7, c6_8, c6_9, c6_10), (c6_11, c6_12, c6_13, c6_14, c6_15), (c6_16, c6_17, c6_18, c6_19)) e5) (cwV 0 hts (gi_v bg wd_551 wd_552 wd_553 wd_2 wd_554) rfl rfl rfl hd_X0_passMinute ⟨Nat.le_of_ble_eq_true rfl, Nat.le_of_ble_eq_true rfl⟩) ⟨pP_blind, va_recv (ci := 4) (q0 := 0) hK hP rfl rfl, pP_pre hP hD hS hA hK hN hZ [0, 1, 2, 3, 4, 5, 6, 7, 8, 9, 10, 11, 12] (by decide) rfl⟩ rfl rfl hl.1 rfl (lv_room (Nat.le_of_ble_eq_true rfl)) dX0_passMinutes_23 ⟨Nat.le_of_ble_eq_true rfl, Nat.le_of_ble_eq_true rfl⟩) hP hD hS hA [0, 1, 2, 3, 4, 5, 6, 7, 8, 9, 10, 11, 12] rfl rfl (fun H locs hP hD hS => ?_)
          have hP : va_P (dC, dI) vwCl [(oa 0, .inr (4, [.ref (oa 1), .ref (oa 5), .ref (oa 6), .ref (oa 11)])), (oa 1, .inr (6, [.ref (oa 2), .ref (oa 3), .ref (oa 4), .int c6_3, .int c6_4, .int c6_5, .int c6_6])), (oa 2, .inl (dA 0, 8, .inl c6_0)), (oa 3, .inl (dA 1, 8, .inl c6_1)), (oa 4, .inl (dA 1, 8, .inl c6_2)), (oa 5, .inr (5, [.int c6_7, .int c6_8, .int c6_9, .int c6_10])), (oa 6, .inr (8, [.ref (oa 7), .ref (oa 8), .ref (oa 9), .ref (oa 10), .int c6_15])), (oa 7, .inl (dA 1, 12, .inl c6_11)), (oa 8, .inl (dA 1, 12, .inl c6_12)), (oa 9, .inl (dA 1, 12, .inl c6_13)), (oa 10, .inl (dA 1, 12, .inl c6_14)), (oa 11, .inr (9, [.ref (oa 12), .int c6_17, .int c6_18, .int c6_19])), (oa 12, .inl (dA 1, 5, .inl c6_16))] H := hP
          have hD : va_D A [(oa 0, .inr (4, [.ref (oa 1), .ref (oa 5), .ref (oa 6), .ref (oa 11)])), (oa 1, .inr (6, [.ref (oa 2), .ref (oa 3), .ref (oa 4), .int c6_3, .int c6_4, .int c6_5, .int c6_6])), (oa 2, .inl (dA 0, 8, .inl c6_0)), (oa 3, .inl (dA 1, 8, .inl c6_1)), (oa 4, .inl (dA 1, 8, .inl c6_2)), (oa 5, .inr (5, [.int c6_7, .int c6_8, .int c6_9, .int c6_10])), (oa 6, .inr (8, [.ref (oa 7), .ref (oa 8), .ref (oa 9), .ref (oa 10), .int c6_15])), (oa 7, .inl (dA 1, 12, .inl c6_11)), (oa 8, .inl (dA 1, 12, .inl c6_12)), (oa 9, .inl (dA 1, 12, .inl c6_13)), (oa 10, .inl (dA 1, 12, .inl c6_14)), (oa 11, .inr (9, [.ref (oa 12), .int c6_17, .int c6_18, .int c6_19])), (oa 12, .inl (dA 1, 5, .inl c6_16))] := hD
          refine lv_iinc (v := (x3 + 1)) (lv' := [(3, .int (x3 + 1)), (0, .ref (oa 0)), (1, .int p1), (2, .int x2)]) hx hb dX0_passMinutes_26 hl (k := 3) rfl rfl (by decide) rfl (fun ls hl => ?_)
          refine lv_goto (tgt := 4) hx hb dX0_passMinutes_29 (by decide) ?_
          exact ih x2 (x3 + 1) c6_0 c6_1 c6_2 c6_3 c6_4 c6_5 c6_6 c6_7 c6_8 c6_9 c6_10 c6_11 c6_12 c6_13 c6_14 c6_15 c6_16 c6_17 c6_18 c6_19 _ _ _ hf hP hD hS (lv_sub hl [1, 2, 3, 0] rfl)
        · have hf := ie q4 hf
          refine lv_iinc (v := (x2 + 1)) (lv' := [(2, .int (x2 + 1)), (0, .ref (oa 0)), (1, .int p1), (3, .int x3)]) hx hb dX0_passMinutes_19 hl (k := 2) rfl rfl (by decide) rfl (fun ls hl => ?_)
          refine lv_aload_n hx hb dX0_passMinutes_22 rfl (lv_at hl 1 rfl) ?_
          obtain ⟨c8_0, c8_1, c8_2, c8_3, c8_4, c8_5, c8_6, c8_7, c8_8, c8_9, c8_10, c8_11, c8_12, c8_13, c8_14, c8_15, c8_16, c8_17, c8_18, c8_19, e7, hf⟩ := bX0_inv hf
          refine jn_v (va_runV (As := []) (rest := []) ⟨hx, hb, hml, hown, hts⟩ (m_X0_passMinute l dC dI dA gz oa H.size m0 m1 m2 m3 m4 m5 m6 m7 m8 m9 m10 m11 m12 m13 m14 m15 m16 m17 m18 m19 ((c8_0, c8_1, c8_2, c8_3, c8_4, c8_5, c8_6), (c8_7, c8_8, c8_9, c8_10), (c8_11, c8_12, c8_13, c8_14, c8_15), (c8_16, c8_17, c8_18, c8_19)) e7) (cwV 0 hts (gi_v bg wd_551 wd_552 wd_553 wd_2 wd_554) rfl rfl rfl hd_X0_passMinute ⟨Nat.le_of_ble_eq_true rfl, Nat.le_of_ble_eq_true rfl⟩) ⟨pP_blind, va_recv (ci := 4) (q0 := 0) hK hP rfl rfl, pP_pre hP hD hS hA hK hN hZ [0, 1, 2, 3, 4, 5, 6, 7, 8, 9, 10, 11, 12] (by decide) rfl⟩ rfl rfl hl.1 rfl (lv_room (Nat.le_of_ble_eq_true rfl)) dX0_passMinutes_23 ⟨Nat.le_of_ble_eq_true rfl, Nat.le_of_ble_eq_true rfl⟩) hP hD hS hA [0, 1, 2, 3, 4, 5, 6, 7, 8, 9, 10, 11, 12] rfl rfl (fun H locs hP hD hS => ?_)
          have hP : va_P (dC, dI) vwCl [(oa 0, .inr (4, [.ref (oa 1), .ref (oa 5), .ref (oa 6), .ref (oa 11)])), (oa 1, .inr (6, [.ref (oa 2), .ref (oa 3), .ref (oa 4), .int c8_3, .int c8_4, .int c8_5, .int c8_6])), (oa 2, .inl (dA 0, 8, .inl c8_0)), (oa 3, .inl (dA 1, 8, .inl c8_1)), (oa 4, .inl (dA 1, 8, .inl c8_2)), (oa 5, .inr (5, [.int c8_7, .int c8_8, .int c8_9, .int c8_10])), (oa 6, .inr (8, [.ref (oa 7), .ref (oa 8), .ref (oa 9), .ref (oa 10), .int c8_15])), (oa 7, .inl (dA 1, 12, .inl c8_11)), (oa 8, .inl (dA 1, 12, .inl c8_12)), (oa 9, .inl (dA 1, 12, .inl c8_13)), (oa 10, .inl (dA 1, 12, .inl c8_14)), (oa 11, .inr (9, [.ref (oa 12), .int c8_17, .int c8_18, .int c8_19])), (oa 12, .inl (dA 1, 5, .inl c8_16))] H := hP
          have hD : va_D A [(oa 0, .inr (4, [.ref (oa 1), .ref (oa 5), .ref (oa 6), .ref (oa 11)])), (oa 1, .inr (6, [.ref (oa 2), .ref (oa 3), .ref (oa 4), .int c8_3, .int c8_4, .int c8_5, .int c8_6])), (oa 2, .inl (dA 0, 8, .inl c8_0)), (oa 3, .inl (dA 1, 8, .inl c8_1)), (oa 4, .inl (dA 1, 8, .inl c8_2)), (oa 5, .inr (5, [.int c8_7, .int c8_8, .int c8_9, .int c8_10])), (oa 6, .inr (8, [.ref (oa 7), .ref (oa 8), .ref (oa 9), .ref (oa 10), .int c8_15])), (oa 7, .inl (dA 1, 12, .inl c8_11)), (oa 8, .inl (dA 1, 12, .inl c8_12)), (oa 9, .inl (dA 1, 12, .inl c8_13)), (oa 10, .inl (dA 1, 12, .inl c8_14)), (oa 11, .inr (9, [.ref (oa 12), .int c8_17, .int c8_18, .int c8_19])), (oa 12, .inl (dA 1, 5, .inl c8_16))] := hD
          refine lv_iinc (v := (x3 + 1)) (lv' := [(3, .int (x3 + 1)), (2, .int (x2 + 1)), (0, .ref (oa 0)), (1, .int p1)]) hx hb dX0_passMinutes_26 hl (k := 3) rfl rfl (by decide) rfl (fun ls hl => ?_)
          refine lv_goto (tgt := 4) hx hb dX0_passMinutes_29 (by decide) ?_
          exact ih (x2 + 1) (x3 + 1) c8_0 c8_1 c8_2 c8_3 c8_4 c8_5 c8_6 c8_7 c8_8 c8_9 c8_10 c8_11 c8_12 c8_13 c8_14 c8_15 c8_16 c8_17 c8_18 c8_19 _ _ _ hf hP hD hS (lv_sub hl [2, 3, 1, 0] rfl)
  rw [f_X0_passMinutes] at hf
  refine lv_iconst (v := 0) hx hb dX0_passMinutes_0 (by decide) ?_
  refine lv_istore_n (lv' := [(2, .int 0), (0, .ref (oa 0)), (1, .int p1)]) hx hb dX0_passMinutes_1 rfl hl (by decide) rfl (fun ls hl => ?_)
  refine lv_iconst (v := 0) hx hb dX0_passMinutes_2 (by decide) ?_
  refine lv_istore_n (lv' := [(3, .int 0), (2, .int 0), (0, .ref (oa 0)), (1, .int p1)]) hx hb dX0_passMinutes_3 rfl hl (by decide) rfl (fun ls hl => ?_)
  exact cut4 300 0 0 a0 a1 a2 a3 a4 a5 a6 a7 a8 a9 a10 a11 a12 a13 a14 a15 a16 a17 a18 a19 _ _ _ hf hP hD hS (lv_sub hl [2, 3, 1, 0] rfl)
/-! X0_judgeLoad -/
def f_X0_judgeLoad (a0 : Ar) (a1 : Ar) (a2 : Ar) (a3 : Int32) (a4 : Int32) (a5 : Int32) (a6 : Int32) (a7 : Int32) (a8 : Int32) (a9 : Int32) (a10 : Int32) (a11 : Ar) (a12 : Ar) (a13 : Ar) (a14 : Ar) (a15 : Int32) (a16 : Ar) (a17 : Int32) (a18 : Int32) (a19 : Int32) (p1 : Int32) : Option (Int32) :=
  (f_X7_isWithin p1 1 100).bind fun r2 =>
  (if r2 = 0 then some 8 else
  (if (a7 + p1) ≤ 100 then some 0 else
  some 1))
set_option maxRecDepth 100000 in
set_option maxHeartbeats 4000000 in
theorem m_X0_judgeLoad (l : Launch) (dC : Nat → ClassId) (dI : Nat → Nat → Nat) (dA gz : Nat → Nat) (oa : Nat → Nat) (sz : Nat) (a0 : Ar) (a1 : Ar) (a2 : Ar) (a3 : Int32) (a4 : Int32) (a5 : Int32) (a6 : Int32) (a7 : Int32) (a8 : Int32) (a9 : Int32) (a10 : Int32) (a11 : Ar) (a12 : Ar) (a13 : Ar) (a14 : Ar) (a15 : Int32) (a16 : Ar) (a17 : Int32) (a18 : Int32) (a19 : Int32) (p1 : Int32) (rr : Int32) (hf : f_X0_judgeLoad a0 a1 a2 a3 a4 a5 a6 a7 a8 a9 a10 a11 a12 a13 a14 a15 a16 a17 a18 a19 p1 = some rr) : Met l yX0_judgeLoad ws_X0_judgeLoad ({ frames := 14, cells := 0, slots := 0, locals := 400 } : Room) (va_Pc [.ref (oa 0), .int p1] (pP (dC, dI) dA gz (wX0 dA oa ((a0, a1, a2, a3, a4, a5, a6), (a7, a8, a9, a10), (a11, a12, a13, a14, a15), (a16, a17, a18, a19))) sz)) (va_Qi (S := Unit) (fun r' _ => r' = rr) (fun _ t => pQ (dC, dI) (va_A (wX0 dA oa ((a0, a1, a2, a3, a4, a5, a6), (a7, a8, a9, a10), (a11, a12, a13, a14, a15), (a16, a17, a18, a19))) sz) (wX0 dA oa ((a0, a1, a2, a3, a4, a5, a6), (a7, a8, a9, a10), (a11, a12, a13, a14, a15), (a16, a17, a18, a19))) t) (va_A (wX0 dA oa ((a0, a1, a2, a3, a4, a5, a6), (a7, a8, a9, a10), (a11, a12, a13, a14, a15), (a16, a17, a18, a19))) sz)) 0 0 (va_A (wX0 dA oa ((a0, a1, a2, a3, a4, a5, a6), (a7, a8, a9, a10), (a11, a12, a13, a14, a15), (a16, a17, a18, a19))) sz) := by
  refine Met.ofW (cc := cX0_judgeLoad) (maxL := 2) (ret := (some .int)) (by decide) rfl ?_
  intro p e s m args below meth c s₁ B hml hv
  obtain ⟨rfl, hsz, hP, hK, hD0, hN, hZ⟩ := hv
  have hx := B.exec
  have hb := B.bytes
  have hr := B.returns
  have hts := atoms_spec (ws := ws_X0_judgeLoad) B.pre
  have hown : s.vm.findClass RX0 = some m.cls := findClass_of_methodNamed B.named
  have hlocks := B.notSynchronized
  subst hsz
  have hD := hD0.self (sz := s.heap.size)
  generalize hAe : va_A (wX0 dA oa ((a0, a1, a2, a3, a4, a5, a6), (a7, a8, a9, a10), (a11, a12, a13, a14, a15), (a16, a17, a18, a19))) s.heap.size = A at hD hZ ⊢
  have hA : ∀ q : Nat, s.heap.size ≤ q → A q := fun q h => by rw [← hAe]; exact Or.inr h
  have hS : va_S A s.heap s.heap [] := va_S.rf
  have hP : va_P (dC, dI) vwCl [(oa 0, .inr (4, [.ref (oa 1), .ref (oa 5), .ref (oa 6), .ref (oa 11)])), (oa 1, .inr (6, [.ref (oa 2), .ref (oa 3), .ref (oa 4), .int a3, .int a4, .int a5, .int a6])), (oa 2, .inl (dA 0, 8, .inl a0)), (oa 3, .inl (dA 1, 8, .inl a1)), (oa 4, .inl (dA 1, 8, .inl a2)), (oa 5, .inr (5, [.int a7, .int a8, .int a9, .int a10])), (oa 6, .inr (8, [.ref (oa 7), .ref (oa 8), .ref (oa 9), .ref (oa 10), .int a15])), (oa 7, .inl (dA 1, 12, .inl a11)), (oa 8, .inl (dA 1, 12, .inl a12)), (oa 9, .inl (dA 1, 12, .inl a13)), (oa 10, .inl (dA 1, 12, .inl a14)), (oa 11, .inr (9, [.ref (oa 12), .int a17, .int a18, .int a19])), (oa 12, .inl (dA 1, 5, .inl a16))] s.heap := hP
  have hD : va_D A [(oa 0, .inr (4, [.ref (oa 1), .ref (oa 5), .ref (oa 6), .ref (oa 11)])), (oa 1, .inr (6, [.ref (oa 2), .ref (oa 3), .ref (oa 4), .int a3, .int a4, .int a5, .int a6])), (oa 2, .inl (dA 0, 8, .inl a0)), (oa 3, .inl (dA 1, 8, .inl a1)), (oa 4, .inl (dA 1, 8, .inl a2)), (oa 5, .inr (5, [.int a7, .int a8, .int a9, .int a10])), (oa 6, .inr (8, [.ref (oa 7), .ref (oa 8), .ref (oa 9), .ref (oa 10), .int a15])), (oa 7, .inl (dA 1, 12, .inl a11)), (oa 8, .inl (dA 1, 12, .inl a12)), (oa 9, .inl (dA 1, 12, .inl a13)), (oa 10, .inl (dA 1, 12, .inl a14)), (oa 11, .inr (9, [.ref (oa 12), .int a17, .int a18, .int a19])), (oa 12, .inl (dA 1, 5, .inl a16))] := hD
  have hl := lv_entry [.ref (oa 0), .int p1] (n := 2) (Nat.le_of_ble_eq_true rfl)
  rw [lg_entry_eq]
  generalize (lg_sl [.ref (oa 0), .int p1] ++ List.replicate (2 - (lg_sl [.ref (oa 0), .int p1]).length) Slot.unset).toArray = ls at hl ⊢
  have hl : lv_has ls 2 [(0, .ref (oa 0)), (1, .int p1)] := hl
  have in_X0 : ∀ w ∈ wsX00, w ∈ ws_X0_judgeLoad := fun w h => bg _ (inB_X0 w h)
  have in_X1 : ∀ w ∈ wsX10, w ∈ ws_X0_judgeLoad := fun w h => bg _ (inB_X1 w h)
  rw [f_X0_judgeLoad] at hf
  refine lv_iload_n hx hb dX0_judgeLoad_0 rfl (lv_at hl 1 rfl) ?_
  refine lv_iconst (v := 1) hx hb dX0_judgeLoad_1 (by decide) ?_
  refine lv_bipush (v := 100) hx hb dX0_judgeLoad_2 (by decide) ?_
  obtain ⟨r2, e1, hf⟩ := bd hf
  refine jr_i (va_runSN (As := [.int p1, .int 1, .int 100]) (rest := []) ⟨hx, hb, hml, hown, hts⟩ (m_X7_isWithin l dC dI dA gz  s.heap.size p1 1 100 r2 e1) ⟨va_cnB 3 hts (gi_n bg wd_364) rfl rfl rfl (hN _ ng_7) (hts _ (bg _ wd_1)) hd3_X7_isWithin ⟨Nat.le_of_ble_eq_true rfl, Nat.le_of_ble_eq_true rfl⟩, hts _ (bg _ wd_363), trivial⟩ ⟨pP_blind, pP_pre hP hD hS hA hK hN hZ [] (by decide) rfl⟩ rfl rfl hl.1 rfl (lv_room (Nat.le_of_ble_eq_true rfl)) dX0_judgeLoad_4 ⟨Nat.le_of_ble_eq_true rfl, Nat.le_of_ble_eq_true rfl⟩) hP hD hS hA [] rfl (fun H locs hP hS => ?_)
  refine lv_if_ne (tgt := 13) hx hb dX0_judgeLoad_7 (by decide) (fun q3 => ?_) (fun q3 => ?_)
  · have hf := ie q3 hf
    refine lv_aload_n hx hb dX0_judgeLoad_13 rfl (lv_at hl 0 rfl) ?_
    refine va_get (D := (dC, dI)) (ci := 4) (v := .ref (oa 5)) (C := RX0) (T := TX0) (N := 4) hx hb hts in_X0 hown hK hP 0 rfl rfl 1 (by decide) (hts _ (bg _ wd_168)) (fun _ h9 => h9) rfl dX0_judgeLoad_14 ?_
    refine va_get (D := (dC, dI)) (ci := 5) (v := .int a7) (C := RX1) (T := TX1) (N := 4) hx hb hts in_X1 hown hK hP 5 rfl rfl 0 (by decide) (hts _ (bg _ wd_94)) (fun _ h9 => h9) rfl dX0_judgeLoad_17 ?_
    refine lv_iload_n hx hb dX0_judgeLoad_20 rfl (lv_at hl 1 rfl) ?_
    refine lv_iadd hx hb dX0_judgeLoad_21 ?_
    refine lv_bipush (v := 100) hx hb dX0_judgeLoad_22 (by decide) ?_
    refine lv_icmp_le (tgt := 31) hx hb dX0_judgeLoad_24 (by decide) (fun q4 => ?_) (fun q4 => ?_)
    · have hf := it q4 hf
      refine lv_iconst (v := 0) hx hb dX0_judgeLoad_31 (by decide) ?_
      exact W.iret hx hb hr (fun t ht hW => ⟨⟨_, (), rfl, sm hf, by rw [ht]; exact hP, hD⟩, hS.F ht⟩) hS.2.2 dX0_judgeLoad_32
    · have hf := ie q4 hf
      refine lv_iconst (v := 1) hx hb dX0_judgeLoad_27 (by decide) ?_
      refine lv_goto (tgt := 32) hx hb dX0_judgeLoad_28 (by decide) ?_
      exact W.iret hx hb hr (fun t ht hW => ⟨⟨_, (), rfl, sm hf, by rw [ht]; exact hP, hD⟩, hS.F ht⟩) hS.2.2 dX0_judgeLoad_32
  · have hf := it q3 hf
    refine lv_bipush (v := 8) hx hb dX0_judgeLoad_10 (by decide) ?_
    exact W.iret hx hb hr (fun t ht hW => ⟨⟨_, (), rfl, sm hf, by rw [ht]; exact hP, hD⟩, hS.F ht⟩) hS.2.2 dX0_judgeLoad_12
/-! X0_loadRock -/
def f_X0_loadRock (a0 : Ar) (a1 : Ar) (a2 : Ar) (a3 : Int32) (a4 : Int32) (a5 : Int32) (a6 : Int32) (a7 : Int32) (a8 : Int32) (a9 : Int32) (a10 : Int32) (a11 : Ar) (a12 : Ar) (a13 : Ar) (a14 : Ar) (a15 : Int32) (a16 : Ar) (a17 : Int32) (a18 : Int32) (a19 : Int32) (p1 : Int32) : Option (Int32 × SX0) :=
  bX1 (f_X1_add a7 a8 a9 a10 p1) fun c2_0 c2_1 c2_2 c2_3 =>
  some (c2_1, ((a0, a1, a2, a3, a4, a5, a6), (c2_0, c2_1, c2_2, c2_3), (a11, a12, a13, a14, a15), (a16, a17, (a18 + p1), a19)))
set_option maxRecDepth 100000 in
set_option maxHeartbeats 4000000 in
theorem m_X0_loadRock (l : Launch) (dC : Nat → ClassId) (dI : Nat → Nat → Nat) (dA gz : Nat → Nat) (oa : Nat → Nat) (sz : Nat) (a0 : Ar) (a1 : Ar) (a2 : Ar) (a3 : Int32) (a4 : Int32) (a5 : Int32) (a6 : Int32) (a7 : Int32) (a8 : Int32) (a9 : Int32) (a10 : Int32) (a11 : Ar) (a12 : Ar) (a13 : Ar) (a14 : Ar) (a15 : Int32) (a16 : Ar) (a17 : Int32) (a18 : Int32) (a19 : Int32) (p1 : Int32) (rr : Int32) (uu : SX0) (hf : f_X0_loadRock a0 a1 a2 a3 a4 a5 a6 a7 a8 a9 a10 a11 a12 a13 a14 a15 a16 a17 a18 a19 p1 = some (rr, uu)) : Met l yX0_loadRock ws_X0_loadRock ({ frames := 14, cells := 0, slots := 0, locals := 400 } : Room) (va_Pc [.ref (oa 0), .int p1] (pP (dC, dI) dA gz (wX0 dA oa ((a0, a1, a2, a3, a4, a5, a6), (a7, a8, a9, a10), (a11, a12, a13, a14, a15), (a16, a17, a18, a19))) sz)) (va_Qi (S := Unit) (fun r' _ => r' = rr) (fun _ t => pQ (dC, dI) (va_A (wX0 dA oa ((a0, a1, a2, a3, a4, a5, a6), (a7, a8, a9, a10), (a11, a12, a13, a14, a15), (a16, a17, a18, a19))) sz) (wX0 dA oa uu) t) (va_A (wX0 dA oa ((a0, a1, a2, a3, a4, a5, a6), (a7, a8, a9, a10), (a11, a12, a13, a14, a15), (a16, a17, a18, a19))) sz)) 0 0 (va_A (wX0 dA oa ((a0, a1, a2, a3, a4, a5, a6), (a7, a8, a9, a10), (a11, a12, a13, a14, a15), (a16, a17, a18, a19))) sz) := by
  refine Met.ofW (cc := cX0_loadRock) (maxL := 2) (ret := (some .int)) (by decide) rfl ?_
  intro p e s m args below meth c s₁ B hml hv
  obtain ⟨rfl, hsz, hP, hK, hD0, hN, hZ⟩ := hv
  have hx := B.exec
  have hb := B.bytes
  have hr := B.returns
  have hts := atoms_spec (ws := ws_X0_loadRock) B.pre
  have hown : s.vm.findClass RX0 = some m.cls := findClass_of_methodNamed B.named
  have hlocks := B.notSynchronized
  subst hsz
  have hD := hD0.self (sz := s.heap.size)
  generalize hAe : va_A (wX0 dA oa ((a0, a1, a2, a3, a4, a5, a6), (a7, a8, a9, a10), (a11, a12, a13, a14, a15), (a16, a17, a18, a19))) s.heap.size = A at hD hZ ⊢
  have hA : ∀ q : Nat, s.heap.size ≤ q → A q := fun q h => by rw [← hAe]; exact Or.inr h
  have hS : va_S A s.heap s.heap [] := va_S.rf
  have hP : va_P (dC, dI) vwCl [(oa 0, .inr (4, [.ref (oa 1), .ref (oa 5), .ref (oa 6), .ref (oa 11)])), (oa 1, .inr (6, [.ref (oa 2), .ref (oa 3), .ref (oa 4), .int a3, .int a4, .int a5, .int a6])), (oa 2, .inl (dA 0, 8, .inl a0)), (oa 3, .inl (dA 1, 8, .inl a1)), (oa 4, .inl (dA 1, 8, .inl a2)), (oa 5, .inr (5, [.int a7, .int a8, .int a9, .int a10])), (oa 6, .inr (8, [.ref (oa 7), .ref (oa 8), .ref (oa 9), .ref (oa 10), .int a15])), (oa 7, .inl (dA 1, 12, .inl a11)), (oa 8, .inl (dA 1, 12, .inl a12)), (oa 9, .inl (dA 1, 12, .inl a13)), (oa 10, .inl (dA 1, 12, .inl a14)), (oa 11, .inr (9, [.ref (oa 12), .int a17, .int a18, .int a19])), (oa 12, .inl (dA 1, 5, .inl a16))] s.heap := hP
  have hD : va_D A [(oa 0, .inr (4, [.ref (oa 1), .ref (oa 5), .ref (oa 6), .ref (oa 11)])), (oa 1, .inr (6, [.ref (oa 2), .ref (oa 3), .ref (oa 4), .int a3, .int a4, .int a5, .int a6])), (oa 2, .inl (dA 0, 8, .inl a0)), (oa 3, .inl (dA 1, 8, .inl a1)), (oa 4, .inl (dA 1, 8, .inl a2)), (oa 5, .inr (5, [.int a7, .int a8, .int a9, .int a10])), (oa 6, .inr (8, [.ref (oa 7), .ref (oa 8), .ref (oa 9), .ref (oa 10), .int a15])), (oa 7, .inl (dA 1, 12, .inl a11)), (oa 8, .inl (dA 1, 12, .inl a12)), (oa 9, .inl (dA 1, 12, .inl a13)), (oa 10, .inl (dA 1, 12, .inl a14)), (oa 11, .inr (9, [.ref (oa 12), .int a17, .int a18, .int a19])), (oa 12, .inl (dA 1, 5, .inl a16))] := hD
  have hl := lv_entry [.ref (oa 0), .int p1] (n := 2) (Nat.le_of_ble_eq_true rfl)
  rw [lg_entry_eq]
  generalize (lg_sl [.ref (oa 0), .int p1] ++ List.replicate (2 - (lg_sl [.ref (oa 0), .int p1]).length) Slot.unset).toArray = ls at hl ⊢
  have hl : lv_has ls 2 [(0, .ref (oa 0)), (1, .int p1)] := hl
  have in_X0 : ∀ w ∈ wsX00, w ∈ ws_X0_loadRock := fun w h => bg _ (inB_X0 w h)
  have in_X1 : ∀ w ∈ wsX10, w ∈ ws_X0_loadRock := fun w h => bg _ (inB_X1 w h)
  have in_X5 : ∀ w ∈ wsX50, w ∈ ws_X0_loadRock := fun w h => bg _ (inB_X5 w h)
  rw [f_X0_loadRock] at hf
  refine lv_aload_n hx hb dX0_loadRock_0 rfl (lv_at hl 0 rfl) ?_
  refine va_get (D := (dC, dI)) (ci := 4) (v := .ref (oa 5)) (C := RX0) (T := TX0) (N := 4) hx hb hts in_X0 hown hK hP 0 rfl rfl 1 (by decide) (hts _ (bg _ wd_168)) (fun _ h9 => h9) rfl dX0_loadRock_1 ?_
  refine lv_iload_n hx hb dX0_loadRock_4 rfl (lv_at hl 1 rfl) ?_
  obtain ⟨c2_0, c2_1, c2_2, c2_3, e1, hf⟩ := bX1_inv hf
  refine jn_v (va_runV (As := [.int p1]) (rest := []) ⟨hx, hb, hml, hown, hts⟩ (m_X1_add l dC dI dA gz (fun k => oa (5 + k)) s.heap.size a7 a8 a9 a10 p1 (c2_0, c2_1, c2_2, c2_3) e1) (cwV 1 hts (gi_v bg wd_596 wd_597 wd_598 wd_4 wd_599) rfl rfl rfl hd_X1_add ⟨Nat.le_of_ble_eq_true rfl, Nat.le_of_ble_eq_true rfl⟩) ⟨pP_blind, va_recv (ci := 5) (q0 := 5) hK hP rfl rfl, pP_pre hP hD hS hA hK hN hZ [5] (by decide) rfl⟩ rfl rfl hl.1 rfl (lv_room (Nat.le_of_ble_eq_true rfl)) dX0_loadRock_5 ⟨Nat.le_of_ble_eq_true rfl, Nat.le_of_ble_eq_true rfl⟩) hP hD hS hA [5] rfl rfl (fun H locs hP hD hS => ?_)
  have hP : va_P (dC, dI) vwCl [(oa 0, .inr (4, [.ref (oa 1), .ref (oa 5), .ref (oa 6), .ref (oa 11)])), (oa 1, .inr (6, [.ref (oa 2), .ref (oa 3), .ref (oa 4), .int a3, .int a4, .int a5, .int a6])), (oa 2, .inl (dA 0, 8, .inl a0)), (oa 3, .inl (dA 1, 8, .inl a1)), (oa 4, .inl (dA 1, 8, .inl a2)), (oa 5, .inr (5, [.int c2_0, .int c2_1, .int c2_2, .int c2_3])), (oa 6, .inr (8, [.ref (oa 7), .ref (oa 8), .ref (oa 9), .ref (oa 10), .int a15])), (oa 7, .inl (dA 1, 12, .inl a11)), (oa 8, .inl (dA 1, 12, .inl a12)), (oa 9, .inl (dA 1, 12, .inl a13)), (oa 10, .inl (dA 1, 12, .inl a14)), (oa 11, .inr (9, [.ref (oa 12), .int a17, .int a18, .int a19])), (oa 12, .inl (dA 1, 5, .inl a16))] H := hP
  have hD : va_D A [(oa 0, .inr (4, [.ref (oa 1), .ref (oa 5), .ref (oa 6), .ref (oa 11)])), (oa 1, .inr (6, [.ref (oa 2), .ref (oa 3), .ref (oa 4), .int a3, .int a4, .int a5, .int a6])), (oa 2, .inl (dA 0, 8, .inl a0)), (oa 3, .inl (dA 1, 8, .inl a1)), (oa 4, .inl (dA 1, 8, .inl a2)), (oa 5, .inr (5, [.int c2_0, .int c2_1, .int c2_2, .int c2_3])), (oa 6, .inr (8, [.ref (oa 7), .ref (oa 8), .ref (oa 9), .ref (oa 10), .int a15])), (oa 7, .inl (dA 1, 12, .inl a11)), (oa 8, .inl (dA 1, 12, .inl a12)), (oa 9, .inl (dA 1, 12, .inl a13)), (oa 10, .inl (dA 1, 12, .inl a14)), (oa 11, .inr (9, [.ref (oa 12), .int a17, .int a18, .int a19])), (oa 12, .inl (dA 1, 5, .inl a16))] := hD
  refine lv_aload_n hx hb dX0_loadRock_8 rfl (lv_at hl 0 rfl) ?_
  refine va_get (D := (dC, dI)) (ci := 4) (v := .ref (oa 11)) (C := RX0) (T := TX0) (N := 4) hx hb hts in_X0 hown hK hP 0 rfl rfl 3 (by decide) (hts _ (bg _ wd_172)) (fun _ h9 => h9) rfl dX0_loadRock_9 ?_
  refine lv_dup hx hb dX0_loadRock_12 rfl ?_
  refine va_get (D := (dC, dI)) (ci := 9) (v := .int a18) (C := RX5) (T := TX5) (N := 4) hx hb hts in_X5 hown hK hP 11 rfl rfl 2 (by decide) (hts _ (bg _ wd_153)) (fun _ h9 => h9) rfl dX0_loadRock_13 ?_
  refine lv_iload_n hx hb dX0_loadRock_16 rfl (lv_at hl 1 rfl) ?_
  refine lv_iadd hx hb dX0_loadRock_17 ?_
  refine va_put (D := (dC, dI)) (ci := 9) (v := .int (a18 + p1)) (ty := .int) (C := RX5) (T := TX5) (N := 4) hx hb hts in_X5 tyX5 tyX5_ok nmX5 hown hK hP hD hS 11 rfl rfl 2 (by decide) (hts _ (bg _ wd_153)) (fun _ h9 => h9) rfl (by decide +kernel) rfl rfl (Nat.le_of_ble_eq_true rfl) dX0_loadRock_18 (fun H locs hP hD hS => ?_)
  have hP : va_P (dC, dI) vwCl [(oa 0, .inr (4, [.ref (oa 1), .ref (oa 5), .ref (oa 6), .ref (oa 11)])), (oa 1, .inr (6, [.ref (oa 2), .ref (oa 3), .ref (oa 4), .int a3, .int a4, .int a5, .int a6])), (oa 2, .inl (dA 0, 8, .inl a0)), (oa 3, .inl (dA 1, 8, .inl a1)), (oa 4, .inl (dA 1, 8, .inl a2)), (oa 5, .inr (5, [.int c2_0, .int c2_1, .int c2_2, .int c2_3])), (oa 6, .inr (8, [.ref (oa 7), .ref (oa 8), .ref (oa 9), .ref (oa 10), .int a15])), (oa 7, .inl (dA 1, 12, .inl a11)), (oa 8, .inl (dA 1, 12, .inl a12)), (oa 9, .inl (dA 1, 12, .inl a13)), (oa 10, .inl (dA 1, 12, .inl a14)), (oa 11, .inr (9, [.ref (oa 12), .int a17, .int (a18 + p1), .int a19])), (oa 12, .inl (dA 1, 5, .inl a16))] H := hP
  have hD : va_D A [(oa 0, .inr (4, [.ref (oa 1), .ref (oa 5), .ref (oa 6), .ref (oa 11)])), (oa 1, .inr (6, [.ref (oa 2), .ref (oa 3), .ref (oa 4), .int a3, .int a4, .int a5, .int a6])), (oa 2, .inl (dA 0, 8, .inl a0)), (oa 3, .inl (dA 1, 8, .inl a1)), (oa 4, .inl (dA 1, 8, .inl a2)), (oa 5, .inr (5, [.int c2_0, .int c2_1, .int c2_2, .int c2_3])), (oa 6, .inr (8, [.ref (oa 7), .ref (oa 8), .ref (oa 9), .ref (oa 10), .int a15])), (oa 7, .inl (dA 1, 12, .inl a11)), (oa 8, .inl (dA 1, 12, .inl a12)), (oa 9, .inl (dA 1, 12, .inl a13)), (oa 10, .inl (dA 1, 12, .inl a14)), (oa 11, .inr (9, [.ref (oa 12), .int a17, .int (a18 + p1), .int a19])), (oa 12, .inl (dA 1, 5, .inl a16))] := hD
  refine lv_aload_n hx hb dX0_loadRock_21 rfl (lv_at hl 0 rfl) ?_
  refine va_get (D := (dC, dI)) (ci := 4) (v := .ref (oa 5)) (C := RX0) (T := TX0) (N := 4) hx hb hts in_X0 hown hK hP 0 rfl rfl 1 (by decide) (hts _ (bg _ wd_168)) (fun _ h9 => h9) rfl dX0_loadRock_22 ?_
  refine va_get (D := (dC, dI)) (ci := 5) (v := .int c2_1) (C := RX1) (T := TX1) (N := 4) hx hb hts in_X1 hown hK hP 5 rfl rfl 1 (by decide) (hts _ (bg _ wd_97)) (fun _ h9 => h9) rfl dX0_loadRock_25 ?_
  obtain ⟨e8, e9⟩ := Prod.mk.inj (sm hf)
  exact W.iret hx hb hr (fun t ht hW => ⟨⟨_, (), rfl, e8, by rw [← e9, ht]; exact hP, by rw [← e9]; exact hD⟩, hS.F ht⟩) hS.2.2 dX0_loadRock_28
/-! X0_judgePress -/
def f_X0_judgePress (a0 : Ar) (a1 : Ar) (a2 : Ar) (a3 : Int32) (a4 : Int32) (a5 : Int32) (a6 : Int32) (a7 : Int32) (a8 : Int32) (a9 : Int32) (a10 : Int32) (a11 : Ar) (a12 : Ar) (a13 : Ar) (a14 : Ar) (a15 : Int32) (a16 : Ar) (a17 : Int32) (a18 : Int32) (a19 : Int32) (p1 : Int32) : Option (Int32) :=
  (f_X7_isWithin p1 1 20).bind fun r2 =>
  (if r2 = 0 then some 8 else
  (if p1 ≤ a7 then (if 12 ≤ a15 then some 1 else
  some 0) else
  some 5))
set_option maxRecDepth 100000 in
set_option maxHeartbeats 4000000 in
theorem m_X0_judgePress (l : Launch) (dC : Nat → ClassId) (dI : Nat → Nat → Nat) (dA gz : Nat → Nat) (oa : Nat → Nat) (sz : Nat) (a0 : Ar) (a1 : Ar) (a2 : Ar) (a3 : Int32) (a4 : Int32) (a5 : Int32) (a6 : Int32) (a7 : Int32) (a8 : Int32) (a9 : Int32) (a10 : Int32) (a11 : Ar) (a12 : Ar) (a13 : Ar) (a14 : Ar) (a15 : Int32) (a16 : Ar) (a17 : Int32) (a18 : Int32) (a19 : Int32) (p1 : Int32) (rr : Int32) (hf : f_X0_judgePress a0 a1 a2 a3 a4 a5 a6 a7 a8 a9 a10 a11 a12 a13 a14 a15 a16 a17 a18 a19 p1 = some rr) : Met l yX0_judgePress ws_X0_judgePress ({ frames := 14, cells := 0, slots := 0, locals := 400 } : Room) (va_Pc [.ref (oa 0), .int p1] (pP (dC, dI) dA gz (wX0 dA oa ((a0, a1, a2, a3, a4, a5, a6), (a7, a8, a9, a10), (a11, a12, a13, a14, a15), (a16, a17, a18, a19))) sz)) (va_Qi (S := Unit) (fun r' _ => r' = rr) (fun _ t => pQ (dC, dI) (va_A (wX0 dA oa ((a0, a1, a2, a3, a4, a5, a6), (a7, a8, a9, a10), (a11, a12, a13, a14, a15), (a16, a17, a18, a19))) sz) (wX0 dA oa ((a0, a1, a2, a3, a4, a5, a6), (a7, a8, a9, a10), (a11, a12, a13, a14, a15), (a16, a17, a18, a19))) t) (va_A (wX0 dA oa ((a0, a1, a2, a3, a4, a5, a6), (a7, a8, a9, a10), (a11, a12, a13, a14, a15), (a16, a17, a18, a19))) sz)) 0 0 (va_A (wX0 dA oa ((a0, a1, a2, a3, a4, a5, a6), (a7, a8, a9, a10), (a11, a12, a13, a14, a15), (a16, a17, a18, a19))) sz) := by
  refine Met.ofW (cc := cX0_judgePress) (maxL := 2) (ret := (some .int)) (by decide) rfl ?_
  intro p e s m args below meth c s₁ B hml hv
  obtain ⟨rfl, hsz, hP, hK, hD0, hN, hZ⟩ := hv
  have hx := B.exec
  have hb := B.bytes
  have hr := B.returns
  have hts := atoms_spec (ws := ws_X0_judgePress) B.pre
  have hown : s.vm.findClass RX0 = some m.cls := findClass_of_methodNamed B.named
  have hlocks := B.notSynchronized
  subst hsz
  have hD := hD0.self (sz := s.heap.size)
  generalize hAe : va_A (wX0 dA oa ((a0, a1, a2, a3, a4, a5, a6), (a7, a8, a9, a10), (a11, a12, a13, a14, a15), (a16, a17, a18, a19))) s.heap.size = A at hD hZ ⊢
  have hA : ∀ q : Nat, s.heap.size ≤ q → A q := fun q h => by rw [← hAe]; exact Or.inr h
  have hS : va_S A s.heap s.heap [] := va_S.rf
  have hP : va_P (dC, dI) vwCl [(oa 0, .inr (4, [.ref (oa 1), .ref (oa 5), .ref (oa 6), .ref (oa 11)])), (oa 1, .inr (6, [.ref (oa 2), .ref (oa 3), .ref (oa 4), .int a3, .int a4, .int a5, .int a6])), (oa 2, .inl (dA 0, 8, .inl a0)), (oa 3, .inl (dA 1, 8, .inl a1)), (oa 4, .inl (dA 1, 8, .inl a2)), (oa 5, .inr (5, [.int a7, .int a8, .int a9, .int a10])), (oa 6, .inr (8, [.ref (oa 7), .ref (oa 8), .ref (oa 9), .ref (oa 10), .int a15])), (oa 7, .inl (dA 1, 12, .inl a11)), (oa 8, .inl (dA 1, 12, .inl a12)), (oa 9, .inl (dA 1, 12, .inl a13)), (oa 10, .inl (dA 1, 12, .inl a14)), (oa 11, .inr (9, [.ref (oa 12), .int a17, .int a18, .int a19])), (oa 12, .inl (dA 1, 5, .inl a16))] s.heap := hP
  have hD : va_D A [(oa 0, .inr (4, [.ref (oa 1), .ref (oa 5), .ref (oa 6), .ref (oa 11)])), (oa 1, .inr (6, [.ref (oa 2), .ref (oa 3), .ref (oa 4), .int a3, .int a4, .int a5, .int a6])), (oa 2, .inl (dA 0, 8, .inl a0)), (oa 3, .inl (dA 1, 8, .inl a1)), (oa 4, .inl (dA 1, 8, .inl a2)), (oa 5, .inr (5, [.int a7, .int a8, .int a9, .int a10])), (oa 6, .inr (8, [.ref (oa 7), .ref (oa 8), .ref (oa 9), .ref (oa 10), .int a15])), (oa 7, .inl (dA 1, 12, .inl a11)), (oa 8, .inl (dA 1, 12, .inl a12)), (oa 9, .inl (dA 1, 12, .inl a13)), (oa 10, .inl (dA 1, 12, .inl a14)), (oa 11, .inr (9, [.ref (oa 12), .int a17, .int a18, .int a19])), (oa 12, .inl (dA 1, 5, .inl a16))] := hD
  have hl := lv_entry [.ref (oa 0), .int p1] (n := 2) (Nat.le_of_ble_eq_true rfl)
  rw [lg_entry_eq]
  generalize (lg_sl [.ref (oa 0), .int p1] ++ List.replicate (2 - (lg_sl [.ref (oa 0), .int p1]).length) Slot.unset).toArray = ls at hl ⊢
  have hl : lv_has ls 2 [(0, .ref (oa 0)), (1, .int p1)] := hl
  have in_X0 : ∀ w ∈ wsX00, w ∈ ws_X0_judgePress := fun w h => bg _ (inB_X0 w h)
  have in_X1 : ∀ w ∈ wsX10, w ∈ ws_X0_judgePress := fun w h => bg _ (inB_X1 w h)
  have in_X4 : ∀ w ∈ wsX40, w ∈ ws_X0_judgePress := fun w h => bg _ (inB_X4 w h)
  rw [f_X0_judgePress] at hf
  refine lv_iload_n hx hb dX0_judgePress_0 rfl (lv_at hl 1 rfl) ?_
  refine lv_iconst (v := 1) hx hb dX0_judgePress_1 (by decide) ?_
  refine lv_bipush (v := 20) hx hb dX0_judgePress_2 (by decide) ?_
  obtain ⟨r2, e1, hf⟩ := bd hf
  refine jr_i (va_runSN (As := [.int p1, .int 1, .int 20]) (rest := []) ⟨hx, hb, hml, hown, hts⟩ (m_X7_isWithin l dC dI dA gz  s.heap.size p1 1 20 r2 e1) ⟨va_cnB 3 hts (gi_n bg wd_364) rfl rfl rfl (hN _ ng_7) (hts _ (bg _ wd_1)) hd3_X7_isWithin ⟨Nat.le_of_ble_eq_true rfl, Nat.le_of_ble_eq_true rfl⟩, hts _ (bg _ wd_363), trivial⟩ ⟨pP_blind, pP_pre hP hD hS hA hK hN hZ [] (by decide) rfl⟩ rfl rfl hl.1 rfl (lv_room (Nat.le_of_ble_eq_true rfl)) dX0_judgePress_4 ⟨Nat.le_of_ble_eq_true rfl, Nat.le_of_ble_eq_true rfl⟩) hP hD hS hA [] rfl (fun H locs hP hS => ?_)
  refine lv_if_ne (tgt := 13) hx hb dX0_judgePress_7 (by decide) (fun q3 => ?_) (fun q3 => ?_)
  · have hf := ie q3 hf
    refine lv_aload_n hx hb dX0_judgePress_13 rfl (lv_at hl 0 rfl) ?_
    refine va_get (D := (dC, dI)) (ci := 4) (v := .ref (oa 5)) (C := RX0) (T := TX0) (N := 4) hx hb hts in_X0 hown hK hP 0 rfl rfl 1 (by decide) (hts _ (bg _ wd_168)) (fun _ h9 => h9) rfl dX0_judgePress_14 ?_
    refine va_get (D := (dC, dI)) (ci := 5) (v := .int a7) (C := RX1) (T := TX1) (N := 4) hx hb hts in_X1 hown hK hP 5 rfl rfl 0 (by decide) (hts _ (bg _ wd_94)) (fun _ h9 => h9) rfl dX0_judgePress_17 ?_
    refine lv_iload_n hx hb dX0_judgePress_20 rfl (lv_at hl 1 rfl) ?_
    refine lv_icmp_ge (tgt := 26) hx hb dX0_judgePress_21 (by decide) (fun q4 => ?_) (fun q4 => ?_)
    · have hf := it q4 hf
      refine lv_aload_n hx hb dX0_judgePress_26 rfl (lv_at hl 0 rfl) ?_
      refine va_get (D := (dC, dI)) (ci := 4) (v := .ref (oa 6)) (C := RX0) (T := TX0) (N := 4) hx hb hts in_X0 hown hK hP 0 rfl rfl 2 (by decide) (hts _ (bg _ wd_170)) (fun _ h9 => h9) rfl dX0_judgePress_27 ?_
      refine va_get (D := (dC, dI)) (ci := 8) (v := .int a15) (C := RX4) (T := TX4) (N := 5) hx hb hts in_X4 hown hK hP 6 rfl rfl 4 (by decide) (hts _ (bg _ wd_128)) (fun _ h9 => h9) rfl dX0_judgePress_30 ?_
      refine lv_bipush (v := 12) hx hb dX0_judgePress_33 (by decide) ?_
      refine lv_icmp_ge (tgt := 42) hx hb dX0_judgePress_35 (by decide) (fun q5 => ?_) (fun q5 => ?_)
      · have hf := it q5 hf
        refine lv_iconst (v := 1) hx hb dX0_judgePress_42 (by decide) ?_
        exact W.iret hx hb hr (fun t ht hW => ⟨⟨_, (), rfl, sm hf, by rw [ht]; exact hP, hD⟩, hS.F ht⟩) hS.2.2 dX0_judgePress_43
      · have hf := ie q5 hf
        refine lv_iconst (v := 0) hx hb dX0_judgePress_38 (by decide) ?_
        refine lv_goto (tgt := 43) hx hb dX0_judgePress_39 (by decide) ?_
        exact W.iret hx hb hr (fun t ht hW => ⟨⟨_, (), rfl, sm hf, by rw [ht]; exact hP, hD⟩, hS.F ht⟩) hS.2.2 dX0_judgePress_43
    · have hf := ie q4 hf
      refine lv_iconst (v := 5) hx hb dX0_judgePress_24 (by decide) ?_
      exact W.iret hx hb hr (fun t ht hW => ⟨⟨_, (), rfl, sm hf, by rw [ht]; exact hP, hD⟩, hS.F ht⟩) hS.2.2 dX0_judgePress_25
  · have hf := it q3 hf
    refine lv_bipush (v := 8) hx hb dX0_judgePress_10 (by decide) ?_
    exact W.iret hx hb hr (fun t ht hW => ⟨⟨_, (), rfl, sm hf, by rw [ht]; exact hP, hD⟩, hS.F ht⟩) hS.2.2 dX0_judgePress_12
/-! X0_pressPat -/
def f_X0_pressPat (a0 : Ar) (a1 : Ar) (a2 : Ar) (a3 : Int32) (a4 : Int32) (a5 : Int32) (a6 : Int32) (a7 : Int32) (a8 : Int32) (a9 : Int32) (a10 : Int32) (a11 : Ar) (a12 : Ar) (a13 : Ar) (a14 : Ar) (a15 : Int32) (a16 : Ar) (a17 : Int32) (a18 : Int32) (a19 : Int32) (p1 : Int32) : Option (Int32 × SX0) :=
  (f_X1_cracksOfPat a7 a8 a9 a10).bind fun r2 =>
  bX4 (f_X4_append a11 a12 a13 a14 a15 p1 a8 a9 r2) fun c4_0 c4_1 c4_2 c4_3 c4_4 =>
  some ((c4_4 - 1), ((a0, a1, a2, a3, a4, a5, a6), ((a7 - p1), a8, a9, a10), (c4_0, c4_1, c4_2, c4_3, c4_4), (a16, a17, a18, a19)))
set_option maxRecDepth 100000 in
set_option maxHeartbeats 4000000 in
theorem m_X0_pressPat (l : Launch) (dC : Nat → ClassId) (dI : Nat → Nat → Nat) (dA gz : Nat → Nat) (oa : Nat → Nat) (sz : Nat) (a0 : Ar) (a1 : Ar) (a2 : Ar) (a3 : Int32) (a4 : Int32) (a5 : Int32) (a6 : Int32) (a7 : Int32) (a8 : Int32) (a9 : Int32) (a10 : Int32) (a11 : Ar) (a12 : Ar) (a13 : Ar) (a14 : Ar) (a15 : Int32) (a16 : Ar) (a17 : Int32) (a18 : Int32) (a19 : Int32) (p1 : Int32) (rr : Int32) (uu : SX0) (hf : f_X0_pressPat a0 a1 a2 a3 a4 a5 a6 a7 a8 a9 a10 a11 a12 a13 a14 a15 a16 a17 a18 a19 p1 = some (rr, uu)) : Met l yX0_pressPat ws_X0_pressPat ({ frames := 14, cells := 0, slots := 0, locals := 400 } : Room) (va_Pc [.ref (oa 0), .int p1] (pP (dC, dI) dA gz (wX0 dA oa ((a0, a1, a2, a3, a4, a5, a6), (a7, a8, a9, a10), (a11, a12, a13, a14, a15), (a16, a17, a18, a19))) sz)) (va_Qi (S := Unit) (fun r' _ => r' = rr) (fun _ t => pQ (dC, dI) (va_A (wX0 dA oa ((a0, a1, a2, a3, a4, a5, a6), (a7, a8, a9, a10), (a11, a12, a13, a14, a15), (a16, a17, a18, a19))) sz) (wX0 dA oa uu) t) (va_A (wX0 dA oa ((a0, a1, a2, a3, a4, a5, a6), (a7, a8, a9, a10), (a11, a12, a13, a14, a15), (a16, a17, a18, a19))) sz)) 0 0 (va_A (wX0 dA oa ((a0, a1, a2, a3, a4, a5, a6), (a7, a8, a9, a10), (a11, a12, a13, a14, a15), (a16, a17, a18, a19))) sz) := by
  refine Met.ofW (cc := cX0_pressPat) (maxL := 2) (ret := (some .int)) (by decide) rfl ?_
  intro p e s m args below meth c s₁ B hml hv
  obtain ⟨rfl, hsz, hP, hK, hD0, hN, hZ⟩ := hv
  have hx := B.exec
  have hb := B.bytes
  have hr := B.returns
  have hts := atoms_spec (ws := ws_X0_pressPat) B.pre
  have hown : s.vm.findClass RX0 = some m.cls := findClass_of_methodNamed B.named
  have hlocks := B.notSynchronized
  subst hsz
  have hD := hD0.self (sz := s.heap.size)
  generalize hAe : va_A (wX0 dA oa ((a0, a1, a2, a3, a4, a5, a6), (a7, a8, a9, a10), (a11, a12, a13, a14, a15), (a16, a17, a18, a19))) s.heap.size = A at hD hZ ⊢
  have hA : ∀ q : Nat, s.heap.size ≤ q → A q := fun q h => by rw [← hAe]; exact Or.inr h
  have hS : va_S A s.heap s.heap [] := va_S.rf
  have hP : va_P (dC, dI) vwCl [(oa 0, .inr (4, [.ref (oa 1), .ref (oa 5), .ref (oa 6), .ref (oa 11)])), (oa 1, .inr (6, [.ref (oa 2), .ref (oa 3), .ref (oa 4), .int a3, .int a4, .int a5, .int a6])), (oa 2, .inl (dA 0, 8, .inl a0)), (oa 3, .inl (dA 1, 8, .inl a1)), (oa 4, .inl (dA 1, 8, .inl a2)), (oa 5, .inr (5, [.int a7, .int a8, .int a9, .int a10])), (oa 6, .inr (8, [.ref (oa 7), .ref (oa 8), .ref (oa 9), .ref (oa 10), .int a15])), (oa 7, .inl (dA 1, 12, .inl a11)), (oa 8, .inl (dA 1, 12, .inl a12)), (oa 9, .inl (dA 1, 12, .inl a13)), (oa 10, .inl (dA 1, 12, .inl a14)), (oa 11, .inr (9, [.ref (oa 12), .int a17, .int a18, .int a19])), (oa 12, .inl (dA 1, 5, .inl a16))] s.heap := hP
  have hD : va_D A [(oa 0, .inr (4, [.ref (oa 1), .ref (oa 5), .ref (oa 6), .ref (oa 11)])), (oa 1, .inr (6, [.ref (oa 2), .ref (oa 3), .ref (oa 4), .int a3, .int a4, .int a5, .int a6])), (oa 2, .inl (dA 0, 8, .inl a0)), (oa 3, .inl (dA 1, 8, .inl a1)), (oa 4, .inl (dA 1, 8, .inl a2)), (oa 5, .inr (5, [.int a7, .int a8, .int a9, .int a10])), (oa 6, .inr (8, [.ref (oa 7), .ref (oa 8), .ref (oa 9), .ref (oa 10), .int a15])), (oa 7, .inl (dA 1, 12, .inl a11)), (oa 8, .inl (dA 1, 12, .inl a12)), (oa 9, .inl (dA 1, 12, .inl a13)), (oa 10, .inl (dA 1, 12, .inl a14)), (oa 11, .inr (9, [.ref (oa 12), .int a17, .int a18, .int a19])), (oa 12, .inl (dA 1, 5, .inl a16))] := hD
  have hl := lv_entry [.ref (oa 0), .int p1] (n := 2) (Nat.le_of_ble_eq_true rfl)
  rw [lg_entry_eq]
  generalize (lg_sl [.ref (oa 0), .int p1] ++ List.replicate (2 - (lg_sl [.ref (oa 0), .int p1]).length) Slot.unset).toArray = ls at hl ⊢
  have hl : lv_has ls 2 [(0, .ref (oa 0)), (1, .int p1)] := hl
  have in_X0 : ∀ w ∈ wsX00, w ∈ ws_X0_pressPat := fun w h => bg _ (inB_X0 w h)
  have in_X1 : ∀ w ∈ wsX10, w ∈ ws_X0_pressPat := fun w h => bg _ (inB_X1 w h)
  have in_X4 : ∀ w ∈ wsX40, w ∈ ws_X0_pressPat := fun w h => bg _ (inB_X4 w h)
  rw [f_X0_pressPat] at hf
  refine lv_aload_n hx hb dX0_pressPat_0 rfl (lv_at hl 0 rfl) ?_
  refine va_get (D := (dC, dI)) (ci := 4) (v := .ref (oa 6)) (C := RX0) (T := TX0) (N := 4) hx hb hts in_X0 hown hK hP 0 rfl rfl 2 (by decide) (hts _ (bg _ wd_170)) (fun _ h9 => h9) rfl dX0_pressPat_1 ?_
  refine lv_iload_n hx hb dX0_pressPat_4 rfl (lv_at hl 1 rfl) ?_
  refine lv_aload_n hx hb dX0_pressPat_5 rfl (lv_at hl 0 rfl) ?_
  refine va_get (D := (dC, dI)) (ci := 4) (v := .ref (oa 5)) (C := RX0) (T := TX0) (N := 4) hx hb hts in_X0 hown hK hP 0 rfl rfl 1 (by decide) (hts _ (bg _ wd_168)) (fun _ h9 => h9) rfl dX0_pressPat_6 ?_
  refine va_get (D := (dC, dI)) (ci := 5) (v := .int a8) (C := RX1) (T := TX1) (N := 4) hx hb hts in_X1 hown hK hP 5 rfl rfl 1 (by decide) (hts _ (bg _ wd_97)) (fun _ h9 => h9) rfl dX0_pressPat_9 ?_
  refine lv_aload_n hx hb dX0_pressPat_12 rfl (lv_at hl 0 rfl) ?_
  refine va_get (D := (dC, dI)) (ci := 4) (v := .ref (oa 5)) (C := RX0) (T := TX0) (N := 4) hx hb hts in_X0 hown hK hP 0 rfl rfl 1 (by decide) (hts _ (bg _ wd_168)) (fun _ h9 => h9) rfl dX0_pressPat_13 ?_
  refine va_get (D := (dC, dI)) (ci := 5) (v := .int a9) (C := RX1) (T := TX1) (N := 4) hx hb hts in_X1 hown hK hP 5 rfl rfl 2 (by decide) (hts _ (bg _ wd_101)) (fun _ h9 => h9) rfl dX0_pressPat_16 ?_
  refine lv_aload_n hx hb dX0_pressPat_19 rfl (lv_at hl 0 rfl) ?_
  refine va_get (D := (dC, dI)) (ci := 4) (v := .ref (oa 5)) (C := RX0) (T := TX0) (N := 4) hx hb hts in_X0 hown hK hP 0 rfl rfl 1 (by decide) (hts _ (bg _ wd_168)) (fun _ h9 => h9) rfl dX0_pressPat_20 ?_
  obtain ⟨r2, e1, hf⟩ := bd hf
  refine jr_i (va_runV (As := []) (rest := [.int a9, .int a8, .int p1, .ref (oa 6)]) ⟨hx, hb, hml, hown, hts⟩ (m_X1_cracksOfPat l dC dI dA gz (fun k => oa (5 + k)) s.heap.size a7 a8 a9 a10 r2 e1) (cwV 0 hts (gi_v bg wd_615 wd_616 wd_617 wd_4 wd_618) rfl rfl rfl hd_X1_cracksOfPat ⟨Nat.le_of_ble_eq_true rfl, Nat.le_of_ble_eq_true rfl⟩) ⟨pP_blind, va_recv (ci := 5) (q0 := 5) hK hP rfl rfl, pP_pre hP hD hS hA hK hN hZ [5] (by decide) rfl⟩ rfl rfl hl.1 rfl (lv_room (Nat.le_of_ble_eq_true rfl)) dX0_pressPat_23 ⟨Nat.le_of_ble_eq_true rfl, Nat.le_of_ble_eq_true rfl⟩) hP hD hS hA [5] rfl (fun H locs hP hS => ?_)
  obtain ⟨c4_0, c4_1, c4_2, c4_3, c4_4, e3, hf⟩ := bX4_inv hf
  refine jn_v (va_runV (As := [.int p1, .int a8, .int a9, .int r2]) (rest := []) ⟨hx, hb, hml, hown, hts⟩ (m_X4_append l dC dI dA gz (fun k => oa (6 + k)) H.size a11 a12 a13 a14 a15 p1 a8 a9 r2 (c4_0, c4_1, c4_2, c4_3, c4_4) e3) (cwV 4 hts (gi_v bg wd_619 wd_620 wd_621 wd_5 wd_622) rfl rfl rfl hd_X4_append ⟨Nat.le_of_ble_eq_true rfl, Nat.le_of_ble_eq_true rfl⟩) ⟨pP_blind, va_recv (ci := 8) (q0 := 6) hK hP rfl rfl, pP_pre hP hD hS hA hK hN hZ [6, 7, 8, 9, 10] (by decide) rfl⟩ rfl rfl hl.1 rfl (lv_room (Nat.le_of_ble_eq_true rfl)) dX0_pressPat_26 ⟨Nat.le_of_ble_eq_true rfl, Nat.le_of_ble_eq_true rfl⟩) hP hD hS hA [6, 7, 8, 9, 10] rfl rfl (fun H locs hP hD hS => ?_)
  have hP : va_P (dC, dI) vwCl [(oa 0, .inr (4, [.ref (oa 1), .ref (oa 5), .ref (oa 6), .ref (oa 11)])), (oa 1, .inr (6, [.ref (oa 2), .ref (oa 3), .ref (oa 4), .int a3, .int a4, .int a5, .int a6])), (oa 2, .inl (dA 0, 8, .inl a0)), (oa 3, .inl (dA 1, 8, .inl a1)), (oa 4, .inl (dA 1, 8, .inl a2)), (oa 5, .inr (5, [.int a7, .int a8, .int a9, .int a10])), (oa 6, .inr (8, [.ref (oa 7), .ref (oa 8), .ref (oa 9), .ref (oa 10), .int c4_4])), (oa 7, .inl (dA 1, 12, .inl c4_0)), (oa 8, .inl (dA 1, 12, .inl c4_1)), (oa 9, .inl (dA 1, 12, .inl c4_2)), (oa 10, .inl (dA 1, 12, .inl c4_3)), (oa 11, .inr (9, [.ref (oa 12), .int a17, .int a18, .int a19])), (oa 12, .inl (dA 1, 5, .inl a16))] H := hP
  have hD : va_D A [(oa 0, .inr (4, [.ref (oa 1), .ref (oa 5), .ref (oa 6), .ref (oa 11)])), (oa 1, .inr (6, [.ref (oa 2), .ref (oa 3), .ref (oa 4), .int a3, .int a4, .int a5, .int a6])), (oa 2, .inl (dA 0, 8, .inl a0)), (oa 3, .inl (dA 1, 8, .inl a1)), (oa 4, .inl (dA 1, 8, .inl a2)), (oa 5, .inr (5, [.int a7, .int a8, .int a9, .int a10])), (oa 6, .inr (8, [.ref (oa 7), .ref (oa 8), .ref (oa 9), .ref (oa 10), .int c4_4])), (oa 7, .inl (dA 1, 12, .inl c4_0)), (oa 8, .inl (dA 1, 12, .inl c4_1)), (oa 9, .inl (dA 1, 12, .inl c4_2)), (oa 10, .inl (dA 1, 12, .inl c4_3)), (oa 11, .inr (9, [.ref (oa 12), .int a17, .int a18, .int a19])), (oa 12, .inl (dA 1, 5, .inl a16))] := hD
  refine lv_aload_n hx hb dX0_pressPat_29 rfl (lv_at hl 0 rfl) ?_
  refine va_get (D := (dC, dI)) (ci := 4) (v := .ref (oa 5)) (C := RX0) (T := TX0) (N := 4) hx hb hts in_X0 hown hK hP 0 rfl rfl 1 (by decide) (hts _ (bg _ wd_168)) (fun _ h9 => h9) rfl dX0_pressPat_30 ?_
  refine lv_dup hx hb dX0_pressPat_33 rfl ?_
  refine va_get (D := (dC, dI)) (ci := 5) (v := .int a7) (C := RX1) (T := TX1) (N := 4) hx hb hts in_X1 hown hK hP 5 rfl rfl 0 (by decide) (hts _ (bg _ wd_94)) (fun _ h9 => h9) rfl dX0_pressPat_34 ?_
  refine lv_iload_n hx hb dX0_pressPat_37 rfl (lv_at hl 1 rfl) ?_
  refine lv_isub hx hb dX0_pressPat_38 ?_
  refine va_put (D := (dC, dI)) (ci := 5) (v := .int (a7 - p1)) (ty := .int) (C := RX1) (T := TX1) (N := 4) hx hb hts in_X1 tyX1 tyX1_ok nmX1 hown hK hP hD hS 5 rfl rfl 0 (by decide) (hts _ (bg _ wd_94)) (fun _ h9 => h9) rfl (by decide +kernel) rfl rfl (Nat.le_of_ble_eq_true rfl) dX0_pressPat_39 (fun H locs hP hD hS => ?_)
  have hP : va_P (dC, dI) vwCl [(oa 0, .inr (4, [.ref (oa 1), .ref (oa 5), .ref (oa 6), .ref (oa 11)])), (oa 1, .inr (6, [.ref (oa 2), .ref (oa 3), .ref (oa 4), .int a3, .int a4, .int a5, .int a6])), (oa 2, .inl (dA 0, 8, .inl a0)), (oa 3, .inl (dA 1, 8, .inl a1)), (oa 4, .inl (dA 1, 8, .inl a2)), (oa 5, .inr (5, [.int (a7 - p1), .int a8, .int a9, .int a10])), (oa 6, .inr (8, [.ref (oa 7), .ref (oa 8), .ref (oa 9), .ref (oa 10), .int c4_4])), (oa 7, .inl (dA 1, 12, .inl c4_0)), (oa 8, .inl (dA 1, 12, .inl c4_1)), (oa 9, .inl (dA 1, 12, .inl c4_2)), (oa 10, .inl (dA 1, 12, .inl c4_3)), (oa 11, .inr (9, [.ref (oa 12), .int a17, .int a18, .int a19])), (oa 12, .inl (dA 1, 5, .inl a16))] H := hP
  have hD : va_D A [(oa 0, .inr (4, [.ref (oa 1), .ref (oa 5), .ref (oa 6), .ref (oa 11)])), (oa 1, .inr (6, [.ref (oa 2), .ref (oa 3), .ref (oa 4), .int a3, .int a4, .int a5, .int a6])), (oa 2, .inl (dA 0, 8, .inl a0)), (oa 3, .inl (dA 1, 8, .inl a1)), (oa 4, .inl (dA 1, 8, .inl a2)), (oa 5, .inr (5, [.int (a7 - p1), .int a8, .int a9, .int a10])), (oa 6, .inr (8, [.ref (oa 7), .ref (oa 8), .ref (oa 9), .ref (oa 10), .int c4_4])), (oa 7, .inl (dA 1, 12, .inl c4_0)), (oa 8, .inl (dA 1, 12, .inl c4_1)), (oa 9, .inl (dA 1, 12, .inl c4_2)), (oa 10, .inl (dA 1, 12, .inl c4_3)), (oa 11, .inr (9, [.ref (oa 12), .int a17, .int a18, .int a19])), (oa 12, .inl (dA 1, 5, .inl a16))] := hD
  refine lv_aload_n hx hb dX0_pressPat_42 rfl (lv_at hl 0 rfl) ?_
  refine va_get (D := (dC, dI)) (ci := 4) (v := .ref (oa 6)) (C := RX0) (T := TX0) (N := 4) hx hb hts in_X0 hown hK hP 0 rfl rfl 2 (by decide) (hts _ (bg _ wd_170)) (fun _ h9 => h9) rfl dX0_pressPat_43 ?_
  refine va_get (D := (dC, dI)) (ci := 8) (v := .int c4_4) (C := RX4) (T := TX4) (N := 5) hx hb hts in_X4 hown hK hP 6 rfl rfl 4 (by decide) (hts _ (bg _ wd_128)) (fun _ h9 => h9) rfl dX0_pressPat_46 ?_
  refine lv_iconst (v := 1) hx hb dX0_pressPat_49 (by decide) ?_
  refine lv_isub hx hb dX0_pressPat_50 ?_
  obtain ⟨e8, e9⟩ := Prod.mk.inj (sm hf)
  exact W.iret hx hb hr (fun t ht hW => ⟨⟨_, (), rfl, e8, by rw [← e9, ht]; exact hP, by rw [← e9]; exact hD⟩, hS.F ht⟩) hS.2.2 dX0_pressPat_51
/-! X0_judgeGrading -/
def f_X0_judgeGrading (a0 : Ar) (a1 : Ar) (a2 : Ar) (a3 : Int32) (a4 : Int32) (a5 : Int32) (a6 : Int32) (a7 : Int32) (a8 : Int32) (a9 : Int32) (a10 : Int32) (a11 : Ar) (a12 : Ar) (a13 : Ar) (a14 : Ar) (a15 : Int32) (a16 : Ar) (a17 : Int32) (a18 : Int32) (a19 : Int32) (p1 : Int32) : Option (Int32) :=
  (f_X4_has a11 a12 a13 a14 a15 p1).bind fun r2 =>
  (if r2 = 0 then some 8 else
  (f_X4_hasCool a11 a12 a13 a14 a15 p1).bind fun r5 =>
  (if r5 = 0 then some 6 else
  some 0))
set_option maxRecDepth 100000 in
set_option maxHeartbeats 4000000 in
theorem m_X0_judgeGrading (l : Launch) (dC : Nat → ClassId) (dI : Nat → Nat → Nat) (dA gz : Nat → Nat) (oa : Nat → Nat) (sz : Nat) (a0 : Ar) (a1 : Ar) (a2 : Ar) (a3 : Int32) (a4 : Int32) (a5 : Int32) (a6 : Int32) (a7 : Int32) (a8 : Int32) (a9 : Int32) (a10 : Int32) (a11 : Ar) (a12 : Ar) (a13 : Ar) (a14 : Ar) (a15 : Int32) (a16 : Ar) (a17 : Int32) (a18 : Int32) (a19 : Int32) (p1 : Int32) (rr : Int32) (hf : f_X0_judgeGrading a0 a1 a2 a3 a4 a5 a6 a7 a8 a9 a10 a11 a12 a13 a14 a15 a16 a17 a18 a19 p1 = some rr) : Met l yX0_judgeGrading ws_X0_judgeGrading ({ frames := 18, cells := 0, slots := 0, locals := 600 } : Room) (va_Pc [.ref (oa 0), .int p1] (pP (dC, dI) dA gz (wX0 dA oa ((a0, a1, a2, a3, a4, a5, a6), (a7, a8, a9, a10), (a11, a12, a13, a14, a15), (a16, a17, a18, a19))) sz)) (va_Qi (S := Unit) (fun r' _ => r' = rr) (fun _ t => pQ (dC, dI) (va_A (wX0 dA oa ((a0, a1, a2, a3, a4, a5, a6), (a7, a8, a9, a10), (a11, a12, a13, a14, a15), (a16, a17, a18, a19))) sz) (wX0 dA oa ((a0, a1, a2, a3, a4, a5, a6), (a7, a8, a9, a10), (a11, a12, a13, a14, a15), (a16, a17, a18, a19))) t) (va_A (wX0 dA oa ((a0, a1, a2, a3, a4, a5, a6), (a7, a8, a9, a10), (a11, a12, a13, a14, a15), (a16, a17, a18, a19))) sz)) 0 0 (va_A (wX0 dA oa ((a0, a1, a2, a3, a4, a5, a6), (a7, a8, a9, a10), (a11, a12, a13, a14, a15), (a16, a17, a18, a19))) sz) := by
  refine Met.ofW (cc := cX0_judgeGrading) (maxL := 2) (ret := (some .int)) (by decide) rfl ?_
  intro p e s m args below meth c s₁ B hml hv
  obtain ⟨rfl, hsz, hP, hK, hD0, hN, hZ⟩ := hv
  have hx := B.exec
  have hb := B.bytes
  have hr := B.returns
  have hts := atoms_spec (ws := ws_X0_judgeGrading) B.pre
  have hown : s.vm.findClass RX0 = some m.cls := findClass_of_methodNamed B.named
  have hlocks := B.notSynchronized
  subst hsz
  have hD := hD0.self (sz := s.heap.size)
  generalize hAe : va_A (wX0 dA oa ((a0, a1, a2, a3, a4, a5, a6), (a7, a8, a9, a10), (a11, a12, a13, a14, a15), (a16, a17, a18, a19))) s.heap.size = A at hD hZ ⊢
  have hA : ∀ q : Nat, s.heap.size ≤ q → A q := fun q h => by rw [← hAe]; exact Or.inr h
  have hS : va_S A s.heap s.heap [] := va_S.rf
  have hP : va_P (dC, dI) vwCl [(oa 0, .inr (4, [.ref (oa 1), .ref (oa 5), .ref (oa 6), .ref (oa 11)])), (oa 1, .inr (6, [.ref (oa 2), .ref (oa 3), .ref (oa 4), .int a3, .int a4, .int a5, .int a6])), (oa 2, .inl (dA 0, 8, .inl a0)), (oa 3, .inl (dA 1, 8, .inl a1)), (oa 4, .inl (dA 1, 8, .inl a2)), (oa 5, .inr (5, [.int a7, .int a8, .int a9, .int a10])), (oa 6, .inr (8, [.ref (oa 7), .ref (oa 8), .ref (oa 9), .ref (oa 10), .int a15])), (oa 7, .inl (dA 1, 12, .inl a11)), (oa 8, .inl (dA 1, 12, .inl a12)), (oa 9, .inl (dA 1, 12, .inl a13)), (oa 10, .inl (dA 1, 12, .inl a14)), (oa 11, .inr (9, [.ref (oa 12), .int a17, .int a18, .int a19])), (oa 12, .inl (dA 1, 5, .inl a16))] s.heap := hP
  have hD : va_D A [(oa 0, .inr (4, [.ref (oa 1), .ref (oa 5), .ref (oa 6), .ref (oa 11)])), (oa 1, .inr (6, [.ref (oa 2), .ref (oa 3), .ref (oa 4), .int a3, .int a4, .int a5, .int a6])), (oa 2, .inl (dA 0, 8, .inl a0)), (oa 3, .inl (dA 1, 8, .inl a1)), (oa 4, .inl (dA 1, 8, .inl a2)), (oa 5, .inr (5, [.int a7, .int a8, .int a9, .int a10])), (oa 6, .inr (8, [.ref (oa 7), .ref (oa 8), .ref (oa 9), .ref (oa 10), .int a15])), (oa 7, .inl (dA 1, 12, .inl a11)), (oa 8, .inl (dA 1, 12, .inl a12)), (oa 9, .inl (dA 1, 12, .inl a13)), (oa 10, .inl (dA 1, 12, .inl a14)), (oa 11, .inr (9, [.ref (oa 12), .int a17, .int a18, .int a19])), (oa 12, .inl (dA 1, 5, .inl a16))] := hD
  have hl := lv_entry [.ref (oa 0), .int p1] (n := 2) (Nat.le_of_ble_eq_true rfl)
  rw [lg_entry_eq]
  generalize (lg_sl [.ref (oa 0), .int p1] ++ List.replicate (2 - (lg_sl [.ref (oa 0), .int p1]).length) Slot.unset).toArray = ls at hl ⊢
  have hl : lv_has ls 2 [(0, .ref (oa 0)), (1, .int p1)] := hl
  have in_X0 : ∀ w ∈ wsX00, w ∈ ws_X0_judgeGrading := fun w h => bg _ (inB_X0 w h)
  rw [f_X0_judgeGrading] at hf
  refine lv_aload_n hx hb dX0_judgeGrading_0 rfl (lv_at hl 0 rfl) ?_
  refine va_get (D := (dC, dI)) (ci := 4) (v := .ref (oa 6)) (C := RX0) (T := TX0) (N := 4) hx hb hts in_X0 hown hK hP 0 rfl rfl 2 (by decide) (hts _ (bg _ wd_170)) (fun _ h9 => h9) rfl dX0_judgeGrading_1 ?_
  refine lv_iload_n hx hb dX0_judgeGrading_4 rfl (lv_at hl 1 rfl) ?_
  obtain ⟨r2, e1, hf⟩ := bd hf
  refine jr_i (va_runV (As := [.int p1]) (rest := []) ⟨hx, hb, hml, hown, hts⟩ (m_X4_has l dC dI dA gz (fun k => oa (6 + k)) s.heap.size a11 a12 a13 a14 a15 p1 r2 e1) (cwV 1 hts (gi_v bg wd_740 wd_741 wd_742 wd_5 wd_743) rfl rfl rfl hd_X4_has ⟨Nat.le_of_ble_eq_true rfl, Nat.le_of_ble_eq_true rfl⟩) ⟨pP_blind, va_recv (ci := 8) (q0 := 6) hK hP rfl rfl, pP_pre hP hD hS hA hK hN hZ [6, 7, 8, 9, 10] (by decide) rfl⟩ rfl rfl hl.1 rfl (lv_room (Nat.le_of_ble_eq_true rfl)) dX0_judgeGrading_5 ⟨Nat.le_of_ble_eq_true rfl, Nat.le_of_ble_eq_true rfl⟩) hP hD hS hA [6, 7, 8, 9, 10] rfl (fun H locs hP hS => ?_)
  refine lv_if_ne (tgt := 14) hx hb dX0_judgeGrading_8 (by decide) (fun q3 => ?_) (fun q3 => ?_)
  · have hf := ie q3 hf
    refine lv_aload_n hx hb dX0_judgeGrading_14 rfl (lv_at hl 0 rfl) ?_
    refine va_get (D := (dC, dI)) (ci := 4) (v := .ref (oa 6)) (C := RX0) (T := TX0) (N := 4) hx hb hts in_X0 hown hK hP 0 rfl rfl 2 (by decide) (hts _ (bg _ wd_170)) (fun _ h9 => h9) rfl dX0_judgeGrading_15 ?_
    refine lv_iload_n hx hb dX0_judgeGrading_18 rfl (lv_at hl 1 rfl) ?_
    obtain ⟨r5, e4, hf⟩ := bd hf
    refine jr_i (va_runV (As := [.int p1]) (rest := []) ⟨hx, hb, hml, hown, hts⟩ (m_X4_hasCool l dC dI dA gz (fun k => oa (6 + k)) H.size a11 a12 a13 a14 a15 p1 r5 e4) (cwV 1 hts (gi_v bg wd_744 wd_745 wd_746 wd_5 wd_747) rfl rfl rfl hd_X4_hasCool ⟨Nat.le_of_ble_eq_true rfl, Nat.le_of_ble_eq_true rfl⟩) ⟨pP_blind, va_recv (ci := 8) (q0 := 6) hK hP rfl rfl, pP_pre hP hD hS hA hK hN hZ [6, 7, 8, 9, 10] (by decide) rfl⟩ rfl rfl hl.1 rfl (lv_room (Nat.le_of_ble_eq_true rfl)) dX0_judgeGrading_19 ⟨Nat.le_of_ble_eq_true rfl, Nat.le_of_ble_eq_true rfl⟩) hP hD hS hA [6, 7, 8, 9, 10] rfl (fun H locs hP hS => ?_)
    refine lv_if_eq (tgt := 29) hx hb dX0_judgeGrading_22 (by decide) (fun q6 => ?_) (fun q6 => ?_)
    · have hf := it q6 hf
      refine lv_bipush (v := 6) hx hb dX0_judgeGrading_29 (by decide) ?_
      exact W.iret hx hb hr (fun t ht hW => ⟨⟨_, (), rfl, sm hf, by rw [ht]; exact hP, hD⟩, hS.F ht⟩) hS.2.2 dX0_judgeGrading_31
    · have hf := ie q6 hf
      refine lv_iconst (v := 0) hx hb dX0_judgeGrading_25 (by decide) ?_
      refine lv_goto (tgt := 31) hx hb dX0_judgeGrading_26 (by decide) ?_
      exact W.iret hx hb hr (fun t ht hW => ⟨⟨_, (), rfl, sm hf, by rw [ht]; exact hP, hD⟩, hS.F ht⟩) hS.2.2 dX0_judgeGrading_31
  · have hf := it q3 hf
    refine lv_bipush (v := 8) hx hb dX0_judgeGrading_11 (by decide) ?_
    exact W.iret hx hb hr (fun t ht hW => ⟨⟨_, (), rfl, sm hf, by rw [ht]; exact hP, hD⟩, hS.F ht⟩) hS.2.2 dX0_judgeGrading_13
/-! X0_takeGrade -/
def f_X0_takeGrade (a0 : Ar) (a1 : Ar) (a2 : Ar) (a3 : Int32) (a4 : Int32) (a5 : Int32) (a6 : Int32) (a7 : Int32) (a8 : Int32) (a9 : Int32) (a10 : Int32) (a11 : Ar) (a12 : Ar) (a13 : Ar) (a14 : Ar) (a15 : Int32) (a16 : Ar) (a17 : Int32) (a18 : Int32) (a19 : Int32) (p1 : Int32) : Option (Int32 × SX0) :=
  (f_X4_gradeOf a11 a12 a13 a14 a15 p1).bind fun r2 =>
  (f_X4_massOf a11 a12 a13 a14 a15 p1).bind fun r4 =>
  bX5 (f_X5_count a16 a17 a18 a19 r2 r4) fun c6_0 c6_1 c6_2 c6_3 =>
  bX4 (f_X4_remove a11 a12 a13 a14 a15 p1) fun c8_0 c8_1 c8_2 c8_3 c8_4 =>
  some (((97 + r2).toUInt32 % 65536).toInt32, ((a0, a1, a2, a3, a4, a5, a6), (a7, a8, a9, a10), (c8_0, c8_1, c8_2, c8_3, c8_4), (c6_0, c6_1, c6_2, c6_3)))
set_option maxRecDepth 100000 in
set_option maxHeartbeats 4000000 in
theorem m_X0_takeGrade (l : Launch) (dC : Nat → ClassId) (dI : Nat → Nat → Nat) (dA gz : Nat → Nat) (oa : Nat → Nat) (sz : Nat) (a0 : Ar) (a1 : Ar) (a2 : Ar) (a3 : Int32) (a4 : Int32) (a5 : Int32) (a6 : Int32) (a7 : Int32) (a8 : Int32) (a9 : Int32) (a10 : Int32) (a11 : Ar) (a12 : Ar) (a13 : Ar) (a14 : Ar) (a15 : Int32) (a16 : Ar) (a17 : Int32) (a18 : Int32) (a19 : Int32) (p1 : Int32) (rr : Int32) (uu : SX0) (hf : f_X0_takeGrade a0 a1 a2 a3 a4 a5 a6 a7 a8 a9 a10 a11 a12 a13 a14 a15 a16 a17 a18 a19 p1 = some (rr, uu)) : Met l yX0_takeGrade ws_X0_takeGrade ({ frames := 22, cells := 0, slots := 0, locals := 800 } : Room) (va_Pc [.ref (oa 0), .int p1] (pP (dC, dI) dA gz (wX0 dA oa ((a0, a1, a2, a3, a4, a5, a6), (a7, a8, a9, a10), (a11, a12, a13, a14, a15), (a16, a17, a18, a19))) sz)) (va_Qi (S := Unit) (fun r' _ => r' = rr) (fun _ t => pQ (dC, dI) (va_A (wX0 dA oa ((a0, a1, a2, a3, a4, a5, a6), (a7, a8, a9, a10), (a11, a12, a13, a14, a15), (a16, a17, a18, a19))) sz) (wX0 dA oa uu) t) (va_A (wX0 dA oa ((a0, a1, a2, a3, a4, a5, a6), (a7, a8, a9, a10), (a11, a12, a13, a14, a15), (a16, a17, a18, a19))) sz)) 0 0 (va_A (wX0 dA oa ((a0, a1, a2, a3, a4, a5, a6), (a7, a8, a9, a10), (a11, a12, a13, a14, a15), (a16, a17, a18, a19))) sz) := by
  refine Met.ofW (cc := cX0_takeGrade) (maxL := 3) (ret := (some .char)) (by decide) rfl ?_
  intro p e s m args below meth c s₁ B hml hv
  obtain ⟨rfl, hsz, hP, hK, hD0, hN, hZ⟩ := hv
  have hx := B.exec
  have hb := B.bytes
  have hr := B.returns
  have hts := atoms_spec (ws := ws_X0_takeGrade) B.pre
  have hown : s.vm.findClass RX0 = some m.cls := findClass_of_methodNamed B.named
  have hlocks := B.notSynchronized
  subst hsz
  have hD := hD0.self (sz := s.heap.size)
  generalize hAe : va_A (wX0 dA oa ((a0, a1, a2, a3, a4, a5, a6), (a7, a8, a9, a10), (a11, a12, a13, a14, a15), (a16, a17, a18, a19))) s.heap.size = A at hD hZ ⊢
  have hA : ∀ q : Nat, s.heap.size ≤ q → A q := fun q h => by rw [← hAe]; exact Or.inr h
  have hS : va_S A s.heap s.heap [] := va_S.rf
  have hP : va_P (dC, dI) vwCl [(oa 0, .inr (4, [.ref (oa 1), .ref (oa 5), .ref (oa 6), .ref (oa 11)])), (oa 1, .inr (6, [.ref (oa 2), .ref (oa 3), .ref (oa 4), .int a3, .int a4, .int a5, .int a6])), (oa 2, .inl (dA 0, 8, .inl a0)), (oa 3, .inl (dA 1, 8, .inl a1)), (oa 4, .inl (dA 1, 8, .inl a2)), (oa 5, .inr (5, [.int a7, .int a8, .int a9, .int a10])), (oa 6, .inr (8, [.ref (oa 7), .ref (oa 8), .ref (oa 9), .ref (oa 10), .int a15])), (oa 7, .inl (dA 1, 12, .inl a11)), (oa 8, .inl (dA 1, 12, .inl a12)), (oa 9, .inl (dA 1, 12, .inl a13)), (oa 10, .inl (dA 1, 12, .inl a14)), (oa 11, .inr (9, [.ref (oa 12), .int a17, .int a18, .int a19])), (oa 12, .inl (dA 1, 5, .inl a16))] s.heap := hP
  have hD : va_D A [(oa 0, .inr (4, [.ref (oa 1), .ref (oa 5), .ref (oa 6), .ref (oa 11)])), (oa 1, .inr (6, [.ref (oa 2), .ref (oa 3), .ref (oa 4), .int a3, .int a4, .int a5, .int a6])), (oa 2, .inl (dA 0, 8, .inl a0)), (oa 3, .inl (dA 1, 8, .inl a1)), (oa 4, .inl (dA 1, 8, .inl a2)), (oa 5, .inr (5, [.int a7, .int a8, .int a9, .int a10])), (oa 6, .inr (8, [.ref (oa 7), .ref (oa 8), .ref (oa 9), .ref (oa 10), .int a15])), (oa 7, .inl (dA 1, 12, .inl a11)), (oa 8, .inl (dA 1, 12, .inl a12)), (oa 9, .inl (dA 1, 12, .inl a13)), (oa 10, .inl (dA 1, 12, .inl a14)), (oa 11, .inr (9, [.ref (oa 12), .int a17, .int a18, .int a19])), (oa 12, .inl (dA 1, 5, .inl a16))] := hD
  have hl := lv_entry [.ref (oa 0), .int p1] (n := 3) (Nat.le_of_ble_eq_true rfl)
  rw [lg_entry_eq]
  generalize (lg_sl [.ref (oa 0), .int p1] ++ List.replicate (3 - (lg_sl [.ref (oa 0), .int p1]).length) Slot.unset).toArray = ls at hl ⊢
  have hl : lv_has ls 3 [(0, .ref (oa 0)), (1, .int p1)] := hl
  have in_X0 : ∀ w ∈ wsX00, w ∈ ws_X0_takeGrade := fun w h => bg _ (inB_X0 w h)
  rw [f_X0_takeGrade] at hf
  refine lv_aload_n hx hb dX0_takeGrade_0 rfl (lv_at hl 0 rfl) ?_
  refine va_get (D := (dC, dI)) (ci := 4) (v := .ref (oa 6)) (C := RX0) (T := TX0) (N := 4) hx hb hts in_X0 hown hK hP 0 rfl rfl 2 (by decide) (hts _ (bg _ wd_170)) (fun _ h9 => h9) rfl dX0_takeGrade_1 ?_
  refine lv_iload_n hx hb dX0_takeGrade_4 rfl (lv_at hl 1 rfl) ?_
  obtain ⟨r2, e1, hf⟩ := bd hf
  refine jr_i (va_runV (As := [.int p1]) (rest := []) ⟨hx, hb, hml, hown, hts⟩ (m_X4_gradeOf l dC dI dA gz (fun k => oa (6 + k)) s.heap.size a11 a12 a13 a14 a15 p1 r2 e1) (cwV 1 hts (gi_v bg wd_774 wd_775 wd_776 wd_5 wd_777) rfl rfl rfl hd_X4_gradeOf ⟨Nat.le_of_ble_eq_true rfl, Nat.le_of_ble_eq_true rfl⟩) ⟨pP_blind, va_recv (ci := 8) (q0 := 6) hK hP rfl rfl, pP_pre hP hD hS hA hK hN hZ [6, 7, 8, 9, 10] (by decide) rfl⟩ rfl rfl hl.1 rfl (lv_room (Nat.le_of_ble_eq_true rfl)) dX0_takeGrade_5 ⟨Nat.le_of_ble_eq_true rfl, Nat.le_of_ble_eq_true rfl⟩) hP hD hS hA [6, 7, 8, 9, 10] rfl (fun H locs hP hS => ?_)
  refine lv_istore_n (lv' := [(2, .int r2), (0, .ref (oa 0)), (1, .int p1)]) hx hb dX0_takeGrade_8 rfl hl (by decide) rfl (fun ls hl => ?_)
  refine lv_aload_n hx hb dX0_takeGrade_9 rfl (lv_at hl 1 rfl) ?_
  refine va_get (D := (dC, dI)) (ci := 4) (v := .ref (oa 11)) (C := RX0) (T := TX0) (N := 4) hx hb hts in_X0 hown hK hP 0 rfl rfl 3 (by decide) (hts _ (bg _ wd_172)) (fun _ h9 => h9) rfl dX0_takeGrade_10 ?_
  refine lv_iload_n hx hb dX0_takeGrade_13 rfl (lv_at hl 0 rfl) ?_
  refine lv_aload_n hx hb dX0_takeGrade_14 rfl (lv_at hl 1 rfl) ?_
  refine va_get (D := (dC, dI)) (ci := 4) (v := .ref (oa 6)) (C := RX0) (T := TX0) (N := 4) hx hb hts in_X0 hown hK hP 0 rfl rfl 2 (by decide) (hts _ (bg _ wd_170)) (fun _ h9 => h9) rfl dX0_takeGrade_15 ?_
  refine lv_iload_n hx hb dX0_takeGrade_18 rfl (lv_at hl 2 rfl) ?_
  obtain ⟨r4, e3, hf⟩ := bd hf
  refine jr_i (va_runV (As := [.int p1]) (rest := [.int r2, .ref (oa 11)]) ⟨hx, hb, hml, hown, hts⟩ (m_X4_massOf l dC dI dA gz (fun k => oa (6 + k)) H.size a11 a12 a13 a14 a15 p1 r4 e3) (cwV 1 hts (gi_v bg wd_753 wd_754 wd_755 wd_5 wd_756) rfl rfl rfl hd_X4_massOf ⟨Nat.le_of_ble_eq_true rfl, Nat.le_of_ble_eq_true rfl⟩) ⟨pP_blind, va_recv (ci := 8) (q0 := 6) hK hP rfl rfl, pP_pre hP hD hS hA hK hN hZ [6, 7, 8, 9, 10] (by decide) rfl⟩ rfl rfl hl.1 rfl (lv_room (Nat.le_of_ble_eq_true rfl)) dX0_takeGrade_19 ⟨Nat.le_of_ble_eq_true rfl, Nat.le_of_ble_eq_true rfl⟩) hP hD hS hA [6, 7, 8, 9, 10] rfl (fun H locs hP hS => ?_)
  obtain ⟨c6_0, c6_1, c6_2, c6_3, e5, hf⟩ := bX5_inv hf
  refine jn_v (va_runV (As := [.int r2, .int r4]) (rest := []) ⟨hx, hb, hml, hown, hts⟩ (m_X5_count l dC dI dA gz (fun k => oa (11 + k)) H.size a16 a17 a18 a19 r2 r4 (c6_0, c6_1, c6_2, c6_3) e5) (cwV 2 hts (gi_v bg wd_782 wd_783 wd_784 wd_6 wd_785) rfl rfl rfl hd_X5_count ⟨Nat.le_of_ble_eq_true rfl, Nat.le_of_ble_eq_true rfl⟩) ⟨pP_blind, va_recv (ci := 9) (q0 := 11) hK hP rfl rfl, pP_pre hP hD hS hA hK hN hZ [11, 12] (by decide) rfl⟩ rfl rfl hl.1 rfl (lv_room (Nat.le_of_ble_eq_true rfl)) dX0_takeGrade_22 ⟨Nat.le_of_ble_eq_true rfl, Nat.le_of_ble_eq_true rfl⟩) hP hD hS hA [11, 12] rfl rfl (fun H locs hP hD hS => ?_)
  have hP : va_P (dC, dI) vwCl [(oa 0, .inr (4, [.ref (oa 1), .ref (oa 5), .ref (oa 6), .ref (oa 11)])), (oa 1, .inr (6, [.ref (oa 2), .ref (oa 3), .ref (oa 4), .int a3, .int a4, .int a5, .int a6])), (oa 2, .inl (dA 0, 8, .inl a0)), (oa 3, .inl (dA 1, 8, .inl a1)), (oa 4, .inl (dA 1, 8, .inl a2)), (oa 5, .inr (5, [.int a7, .int a8, .int a9, .int a10])), (oa 6, .inr (8, [.ref (oa 7), .ref (oa 8), .ref (oa 9), .ref (oa 10), .int a15])), (oa 7, .inl (dA 1, 12, .inl a11)), (oa 8, .inl (dA 1, 12, .inl a12)), (oa 9, .inl (dA 1, 12, .inl a13)), (oa 10, .inl (dA 1, 12, .inl a14)), (oa 11, .inr (9, [.ref (oa 12), .int c6_1, .int c6_2, .int c6_3])), (oa 12, .inl (dA 1, 5, .inl c6_0))] H := hP
  have hD : va_D A [(oa 0, .inr (4, [.ref (oa 1), .ref (oa 5), .ref (oa 6), .ref (oa 11)])), (oa 1, .inr (6, [.ref (oa 2), .ref (oa 3), .ref (oa 4), .int a3, .int a4, .int a5, .int a6])), (oa 2, .inl (dA 0, 8, .inl a0)), (oa 3, .inl (dA 1, 8, .inl a1)), (oa 4, .inl (dA 1, 8, .inl a2)), (oa 5, .inr (5, [.int a7, .int a8, .int a9, .int a10])), (oa 6, .inr (8, [.ref (oa 7), .ref (oa 8), .ref (oa 9), .ref (oa 10), .int a15])), (oa 7, .inl (dA 1, 12, .inl a11)), (oa 8, .inl (dA 1, 12, .inl a12)), (oa 9, .inl (dA 1, 12, .inl a13)), (oa 10, .inl (dA 1, 12, .inl a14)), (oa 11, .inr (9, [.ref (oa 12), .int c6_1, .int c6_2, .int c6_3])), (oa 12, .inl (dA 1, 5, .inl c6_0))] := hD
  refine lv_aload_n hx hb dX0_takeGrade_25 rfl (lv_at hl 1 rfl) ?_
  refine va_get (D := (dC, dI)) (ci := 4) (v := .ref (oa 6)) (C := RX0) (T := TX0) (N := 4) hx hb hts in_X0 hown hK hP 0 rfl rfl 2 (by decide) (hts _ (bg _ wd_170)) (fun _ h9 => h9) rfl dX0_takeGrade_26 ?_
  refine lv_iload_n hx hb dX0_takeGrade_29 rfl (lv_at hl 2 rfl) ?_
  obtain ⟨c8_0, c8_1, c8_2, c8_3, c8_4, e7, hf⟩ := bX4_inv hf
  refine jn_v (va_runV (As := [.int p1]) (rest := []) ⟨hx, hb, hml, hown, hts⟩ (m_X4_remove l dC dI dA gz (fun k => oa (6 + k)) H.size a11 a12 a13 a14 a15 p1 (c8_0, c8_1, c8_2, c8_3, c8_4) e7) (cwV 1 hts (gi_v bg wd_787 wd_788 wd_789 wd_5 wd_790) rfl rfl rfl hd_X4_remove ⟨Nat.le_of_ble_eq_true rfl, Nat.le_of_ble_eq_true rfl⟩) ⟨pP_blind, va_recv (ci := 8) (q0 := 6) hK hP rfl rfl, pP_pre hP hD hS hA hK hN hZ [6, 7, 8, 9, 10] (by decide) rfl⟩ rfl rfl hl.1 rfl (lv_room (Nat.le_of_ble_eq_true rfl)) dX0_takeGrade_30 ⟨Nat.le_of_ble_eq_true rfl, Nat.le_of_ble_eq_true rfl⟩) hP hD hS hA [6, 7, 8, 9, 10] rfl rfl (fun H locs hP hD hS => ?_)
  have hP : va_P (dC, dI) vwCl [(oa 0, .inr (4, [.ref (oa 1), .ref (oa 5), .ref (oa 6), .ref (oa 11)])), (oa 1, .inr (6, [.ref (oa 2), .ref (oa 3), .ref (oa 4), .int a3, .int a4, .int a5, .int a6])), (oa 2, .inl (dA 0, 8, .inl a0)), (oa 3, .inl (dA 1, 8, .inl a1)), (oa 4, .inl (dA 1, 8, .inl a2)), (oa 5, .inr (5, [.int a7, .int a8, .int a9, .int a10])), (oa 6, .inr (8, [.ref (oa 7), .ref (oa 8), .ref (oa 9), .ref (oa 10), .int c8_4])), (oa 7, .inl (dA 1, 12, .inl c8_0)), (oa 8, .inl (dA 1, 12, .inl c8_1)), (oa 9, .inl (dA 1, 12, .inl c8_2)), (oa 10, .inl (dA 1, 12, .inl c8_3)), (oa 11, .inr (9, [.ref (oa 12), .int c6_1, .int c6_2, .int c6_3])), (oa 12, .inl (dA 1, 5, .inl c6_0))] H := hP
  have hD : va_D A [(oa 0, .inr (4, [.ref (oa 1), .ref (oa 5), .ref (oa 6), .ref (oa 11)])), (oa 1, .inr (6, [.ref (oa 2), .ref (oa 3), .ref (oa 4), .int a3, .int a4, .int a5, .int a6])), (oa 2, .inl (dA 0, 8, .inl a0)), (oa 3, .inl (dA 1, 8, .inl a1)), (oa 4, .inl (dA 1, 8, .inl a2)), (oa 5, .inr (5, [.int a7, .int a8, .int a9, .int a10])), (oa 6, .inr (8, [.ref (oa 7), .ref (oa 8), .ref (oa 9), .ref (oa 10), .int c8_4])), (oa 7, .inl (dA 1, 12, .inl c8_0)), (oa 8, .inl (dA 1, 12, .inl c8_1)), (oa 9, .inl (dA 1, 12, .inl c8_2)), (oa 10, .inl (dA 1, 12, .inl c8_3)), (oa 11, .inr (9, [.ref (oa 12), .int c6_1, .int c6_2, .int c6_3])), (oa 12, .inl (dA 1, 5, .inl c6_0))] := hD
  refine lv_bipush (v := 97) hx hb dX0_takeGrade_33 (by decide) ?_
  refine lv_iload_n hx hb dX0_takeGrade_35 rfl (lv_at hl 0 rfl) ?_
  refine lv_iadd hx hb dX0_takeGrade_36 ?_
  refine lv_i2c (v := ((97 + r2).toUInt32 % 65536).toInt32) hx hb dX0_takeGrade_37 rfl ?_
  obtain ⟨e8, e9⟩ := Prod.mk.inj (sm hf)
  exact W.zret hx hb hr (pk_nc _) (fun t ht hW => ⟨⟨_, (), rfl, e8, by rw [← e9, ht]; exact hP, by rw [← e9]; exact hD⟩, hS.F ht⟩) hS.2.2 dX0_takeGrade_38
/-! X0_judgeCrush -/
def f_X0_judgeCrush (a0 : Ar) (a1 : Ar) (a2 : Ar) (a3 : Int32) (a4 : Int32) (a5 : Int32) (a6 : Int32) (a7 : Int32) (a8 : Int32) (a9 : Int32) (a10 : Int32) (a11 : Ar) (a12 : Ar) (a13 : Ar) (a14 : Ar) (a15 : Int32) (a16 : Ar) (a17 : Int32) (a18 : Int32) (a19 : Int32) (p1 : Int32) : Option (Int32) :=
  (f_X4_has a11 a12 a13 a14 a15 p1).bind fun r2 =>
  (if r2 = 0 then some 8 else
  (f_X4_massOf a11 a12 a13 a14 a15 p1).bind fun r5 =>
  (if (a7 + r5) ≤ 100 then some 0 else
  some 1))
set_option maxRecDepth 100000 in
set_option maxHeartbeats 4000000 in
theorem m_X0_judgeCrush (l : Launch) (dC : Nat → ClassId) (dI : Nat → Nat → Nat) (dA gz : Nat → Nat) (oa : Nat → Nat) (sz : Nat) (a0 : Ar) (a1 : Ar) (a2 : Ar) (a3 : Int32) (a4 : Int32) (a5 : Int32) (a6 : Int32) (a7 : Int32) (a8 : Int32) (a9 : Int32) (a10 : Int32) (a11 : Ar) (a12 : Ar) (a13 : Ar) (a14 : Ar) (a15 : Int32) (a16 : Ar) (a17 : Int32) (a18 : Int32) (a19 : Int32) (p1 : Int32) (rr : Int32) (hf : f_X0_judgeCrush a0 a1 a2 a3 a4 a5 a6 a7 a8 a9 a10 a11 a12 a13 a14 a15 a16 a17 a18 a19 p1 = some rr) : Met l yX0_judgeCrush ws_X0_judgeCrush ({ frames := 18, cells := 0, slots := 0, locals := 600 } : Room) (va_Pc [.ref (oa 0), .int p1] (pP (dC, dI) dA gz (wX0 dA oa ((a0, a1, a2, a3, a4, a5, a6), (a7, a8, a9, a10), (a11, a12, a13, a14, a15), (a16, a17, a18, a19))) sz)) (va_Qi (S := Unit) (fun r' _ => r' = rr) (fun _ t => pQ (dC, dI) (va_A (wX0 dA oa ((a0, a1, a2, a3, a4, a5, a6), (a7, a8, a9, a10), (a11, a12, a13, a14, a15), (a16, a17, a18, a19))) sz) (wX0 dA oa ((a0, a1, a2, a3, a4, a5, a6), (a7, a8, a9, a10), (a11, a12, a13, a14, a15), (a16, a17, a18, a19))) t) (va_A (wX0 dA oa ((a0, a1, a2, a3, a4, a5, a6), (a7, a8, a9, a10), (a11, a12, a13, a14, a15), (a16, a17, a18, a19))) sz)) 0 0 (va_A (wX0 dA oa ((a0, a1, a2, a3, a4, a5, a6), (a7, a8, a9, a10), (a11, a12, a13, a14, a15), (a16, a17, a18, a19))) sz) := by
  refine Met.ofW (cc := cX0_judgeCrush) (maxL := 2) (ret := (some .int)) (by decide) rfl ?_
  intro p e s m args below meth c s₁ B hml hv
  obtain ⟨rfl, hsz, hP, hK, hD0, hN, hZ⟩ := hv
  have hx := B.exec
  have hb := B.bytes
  have hr := B.returns
  have hts := atoms_spec (ws := ws_X0_judgeCrush) B.pre
  have hown : s.vm.findClass RX0 = some m.cls := findClass_of_methodNamed B.named
  have hlocks := B.notSynchronized
  subst hsz
  have hD := hD0.self (sz := s.heap.size)
  generalize hAe : va_A (wX0 dA oa ((a0, a1, a2, a3, a4, a5, a6), (a7, a8, a9, a10), (a11, a12, a13, a14, a15), (a16, a17, a18, a19))) s.heap.size = A at hD hZ ⊢
  have hA : ∀ q : Nat, s.heap.size ≤ q → A q := fun q h => by rw [← hAe]; exact Or.inr h
  have hS : va_S A s.heap s.heap [] := va_S.rf
  have hP : va_P (dC, dI) vwCl [(oa 0, .inr (4, [.ref (oa 1), .ref (oa 5), .ref (oa 6), .ref (oa 11)])), (oa 1, .inr (6, [.ref (oa 2), .ref (oa 3), .ref (oa 4), .int a3, .int a4, .int a5, .int a6])), (oa 2, .inl (dA 0, 8, .inl a0)), (oa 3, .inl (dA 1, 8, .inl a1)), (oa 4, .inl (dA 1, 8, .inl a2)), (oa 5, .inr (5, [.int a7, .int a8, .int a9, .int a10])), (oa 6, .inr (8, [.ref (oa 7), .ref (oa 8), .ref (oa 9), .ref (oa 10), .int a15])), (oa 7, .inl (dA 1, 12, .inl a11)), (oa 8, .inl (dA 1, 12, .inl a12)), (oa 9, .inl (dA 1, 12, .inl a13)), (oa 10, .inl (dA 1, 12, .inl a14)), (oa 11, .inr (9, [.ref (oa 12), .int a17, .int a18, .int a19])), (oa 12, .inl (dA 1, 5, .inl a16))] s.heap := hP
  have hD : va_D A [(oa 0, .inr (4, [.ref (oa 1), .ref (oa 5), .ref (oa 6), .ref (oa 11)])), (oa 1, .inr (6, [.ref (oa 2), .ref (oa 3), .ref (oa 4), .int a3, .int a4, .int a5, .int a6])), (oa 2, .inl (dA 0, 8, .inl a0)), (oa 3, .inl (dA 1, 8, .inl a1)), (oa 4, .inl (dA 1, 8, .inl a2)), (oa 5, .inr (5, [.int a7, .int a8, .int a9, .int a10])), (oa 6, .inr (8, [.ref (oa 7), .ref (oa 8), .ref (oa 9), .ref (oa 10), .int a15])), (oa 7, .inl (dA 1, 12, .inl a11)), (oa 8, .inl (dA 1, 12, .inl a12)), (oa 9, .inl (dA 1, 12, .inl a13)), (oa 10, .inl (dA 1, 12, .inl a14)), (oa 11, .inr (9, [.ref (oa 12), .int a17, .int a18, .int a19])), (oa 12, .inl (dA 1, 5, .inl a16))] := hD
  have hl := lv_entry [.ref (oa 0), .int p1] (n := 2) (Nat.le_of_ble_eq_true rfl)
  rw [lg_entry_eq]
  generalize (lg_sl [.ref (oa 0), .int p1] ++ List.replicate (2 - (lg_sl [.ref (oa 0), .int p1]).length) Slot.unset).toArray = ls at hl ⊢
  have hl : lv_has ls 2 [(0, .ref (oa 0)), (1, .int p1)] := hl
  have in_X0 : ∀ w ∈ wsX00, w ∈ ws_X0_judgeCrush := fun w h => bg _ (inB_X0 w h)
  have in_X1 : ∀ w ∈ wsX10, w ∈ ws_X0_judgeCrush := fun w h => bg _ (inB_X1 w h)
  rw [f_X0_judgeCrush] at hf
  refine lv_aload_n hx hb dX0_judgeCrush_0 rfl (lv_at hl 0 rfl) ?_
  refine va_get (D := (dC, dI)) (ci := 4) (v := .ref (oa 6)) (C := RX0) (T := TX0) (N := 4) hx hb hts in_X0 hown hK hP 0 rfl rfl 2 (by decide) (hts _ (bg _ wd_170)) (fun _ h9 => h9) rfl dX0_judgeCrush_1 ?_
  refine lv_iload_n hx hb dX0_judgeCrush_4 rfl (lv_at hl 1 rfl) ?_
  obtain ⟨r2, e1, hf⟩ := bd hf
  refine jr_i (va_runV (As := [.int p1]) (rest := []) ⟨hx, hb, hml, hown, hts⟩ (m_X4_has l dC dI dA gz (fun k => oa (6 + k)) s.heap.size a11 a12 a13 a14 a15 p1 r2 e1) (cwV 1 hts (gi_v bg wd_740 wd_741 wd_742 wd_5 wd_743) rfl rfl rfl hd_X4_has ⟨Nat.le_of_ble_eq_true rfl, Nat.le_of_ble_eq_true rfl⟩) ⟨pP_blind, va_recv (ci := 8) (q0 := 6) hK hP rfl rfl, pP_pre hP hD hS hA hK hN hZ [6, 7, 8, 9, 10] (by decide) rfl⟩ rfl rfl hl.1 rfl (lv_room (Nat.le_of_ble_eq_true rfl)) dX0_judgeCrush_5 ⟨Nat.le_of_ble_eq_true rfl, Nat.le_of_ble_eq_true rfl⟩) hP hD hS hA [6, 7, 8, 9, 10] rfl (fun H locs hP hS => ?_)
  refine lv_if_ne (tgt := 14) hx hb dX0_judgeCrush_8 (by decide) (fun q3 => ?_) (fun q3 => ?_)
  · have hf := ie q3 hf
    refine lv_aload_n hx hb dX0_judgeCrush_14 rfl (lv_at hl 0 rfl) ?_
    refine va_get (D := (dC, dI)) (ci := 4) (v := .ref (oa 5)) (C := RX0) (T := TX0) (N := 4) hx hb hts in_X0 hown hK hP 0 rfl rfl 1 (by decide) (hts _ (bg _ wd_168)) (fun _ h9 => h9) rfl dX0_judgeCrush_15 ?_
    refine va_get (D := (dC, dI)) (ci := 5) (v := .int a7) (C := RX1) (T := TX1) (N := 4) hx hb hts in_X1 hown hK hP 5 rfl rfl 0 (by decide) (hts _ (bg _ wd_94)) (fun _ h9 => h9) rfl dX0_judgeCrush_18 ?_
    refine lv_aload_n hx hb dX0_judgeCrush_21 rfl (lv_at hl 0 rfl) ?_
    refine va_get (D := (dC, dI)) (ci := 4) (v := .ref (oa 6)) (C := RX0) (T := TX0) (N := 4) hx hb hts in_X0 hown hK hP 0 rfl rfl 2 (by decide) (hts _ (bg _ wd_170)) (fun _ h9 => h9) rfl dX0_judgeCrush_22 ?_
    refine lv_iload_n hx hb dX0_judgeCrush_25 rfl (lv_at hl 1 rfl) ?_
    obtain ⟨r5, e4, hf⟩ := bd hf
    refine jr_i (va_runV (As := [.int p1]) (rest := [.int a7]) ⟨hx, hb, hml, hown, hts⟩ (m_X4_massOf l dC dI dA gz (fun k => oa (6 + k)) H.size a11 a12 a13 a14 a15 p1 r5 e4) (cwV 1 hts (gi_v bg wd_753 wd_754 wd_755 wd_5 wd_756) rfl rfl rfl hd_X4_massOf ⟨Nat.le_of_ble_eq_true rfl, Nat.le_of_ble_eq_true rfl⟩) ⟨pP_blind, va_recv (ci := 8) (q0 := 6) hK hP rfl rfl, pP_pre hP hD hS hA hK hN hZ [6, 7, 8, 9, 10] (by decide) rfl⟩ rfl rfl hl.1 rfl (lv_room (Nat.le_of_ble_eq_true rfl)) dX0_judgeCrush_26 ⟨Nat.le_of_ble_eq_true rfl, Nat.le_of_ble_eq_true rfl⟩) hP hD hS hA [6, 7, 8, 9, 10] rfl (fun H locs hP hS => ?_)
    refine lv_iadd hx hb dX0_judgeCrush_29 ?_
    refine lv_bipush (v := 100) hx hb dX0_judgeCrush_30 (by decide) ?_
    refine lv_icmp_le (tgt := 39) hx hb dX0_judgeCrush_32 (by decide) (fun q6 => ?_) (fun q6 => ?_)
    · have hf := it q6 hf
      refine lv_iconst (v := 0) hx hb dX0_judgeCrush_39 (by decide) ?_
      exact W.iret hx hb hr (fun t ht hW => ⟨⟨_, (), rfl, sm hf, by rw [ht]; exact hP, hD⟩, hS.F ht⟩) hS.2.2 dX0_judgeCrush_40
    · have hf := ie q6 hf
      refine lv_iconst (v := 1) hx hb dX0_judgeCrush_35 (by decide) ?_
      refine lv_goto (tgt := 40) hx hb dX0_judgeCrush_36 (by decide) ?_
      exact W.iret hx hb hr (fun t ht hW => ⟨⟨_, (), rfl, sm hf, by rw [ht]; exact hP, hD⟩, hS.F ht⟩) hS.2.2 dX0_judgeCrush_40
  · have hf := it q3 hf
    refine lv_bipush (v := 8) hx hb dX0_judgeCrush_11 (by decide) ?_
    exact W.iret hx hb hr (fun t ht hW => ⟨⟨_, (), rfl, sm hf, by rw [ht]; exact hP, hD⟩, hS.F ht⟩) hS.2.2 dX0_judgeCrush_13
/-! X0_crushPat -/
def f_X0_crushPat (a0 : Ar) (a1 : Ar) (a2 : Ar) (a3 : Int32) (a4 : Int32) (a5 : Int32) (a6 : Int32) (a7 : Int32) (a8 : Int32) (a9 : Int32) (a10 : Int32) (a11 : Ar) (a12 : Ar) (a13 : Ar) (a14 : Ar) (a15 : Int32) (a16 : Ar) (a17 : Int32) (a18 : Int32) (a19 : Int32) (p1 : Int32) : Option (Int32 × SX0) :=
  (f_X4_massOf a11 a12 a13 a14 a15 p1).bind fun r2 =>
  bX1 (f_X1_add a7 a8 a9 a10 r2) fun c4_0 c4_1 c4_2 c4_3 =>
  bX4 (f_X4_remove a11 a12 a13 a14 a15 p1) fun c6_0 c6_1 c6_2 c6_3 c6_4 =>
  some (c4_0, ((a0, a1, a2, a3, a4, a5, a6), (c4_0, c4_1, c4_2, c4_3), (c6_0, c6_1, c6_2, c6_3, c6_4), (a16, a17, a18, a19)))
set_option maxRecDepth 100000 in
set_option maxHeartbeats 4000000 in
theorem m_X0_crushPat (l : Launch) (dC : Nat → ClassId) (dI : Nat → Nat → Nat) (dA gz : Nat → Nat) (oa : Nat → Nat) (sz : Nat) (a0 : Ar) (a1 : Ar) (a2 : Ar) (a3 : Int32) (a4 : Int32) (a5 : Int32) (a6 : Int32) (a7 : Int32) (a8 : Int32) (a9 : Int32) (a10 : Int32) (a11 : Ar) (a12 : Ar) (a13 : Ar) (a14 : Ar) (a15 : Int32) (a16 : Ar) (a17 : Int32) (a18 : Int32) (a19 : Int32) (p1 : Int32) (rr : Int32) (uu : SX0) (hf : f_X0_crushPat a0 a1 a2 a3 a4 a5 a6 a7 a8 a9 a10 a11 a12 a13 a14 a15 a16 a17 a18 a19 p1 = some (rr, uu)) : Met l yX0_crushPat ws_X0_crushPat ({ frames := 18, cells := 0, slots := 0, locals := 600 } : Room) (va_Pc [.ref (oa 0), .int p1] (pP (dC, dI) dA gz (wX0 dA oa ((a0, a1, a2, a3, a4, a5, a6), (a7, a8, a9, a10), (a11, a12, a13, a14, a15), (a16, a17, a18, a19))) sz)) (va_Qi (S := Unit) (fun r' _ => r' = rr) (fun _ t => pQ (dC, dI) (va_A (wX0 dA oa ((a0, a1, a2, a3, a4, a5, a6), (a7, a8, a9, a10), (a11, a12, a13, a14, a15), (a16, a17, a18, a19))) sz) (wX0 dA oa uu) t) (va_A (wX0 dA oa ((a0, a1, a2, a3, a4, a5, a6), (a7, a8, a9, a10), (a11, a12, a13, a14, a15), (a16, a17, a18, a19))) sz)) 0 0 (va_A (wX0 dA oa ((a0, a1, a2, a3, a4, a5, a6), (a7, a8, a9, a10), (a11, a12, a13, a14, a15), (a16, a17, a18, a19))) sz) := by
  refine Met.ofW (cc := cX0_crushPat) (maxL := 2) (ret := (some .int)) (by decide) rfl ?_
  intro p e s m args below meth c s₁ B hml hv
  obtain ⟨rfl, hsz, hP, hK, hD0, hN, hZ⟩ := hv
  have hx := B.exec
  have hb := B.bytes
  have hr := B.returns
  have hts := atoms_spec (ws := ws_X0_crushPat) B.pre
  have hown : s.vm.findClass RX0 = some m.cls := findClass_of_methodNamed B.named
  have hlocks := B.notSynchronized
  subst hsz
  have hD := hD0.self (sz := s.heap.size)
  generalize hAe : va_A (wX0 dA oa ((a0, a1, a2, a3, a4, a5, a6), (a7, a8, a9, a10), (a11, a12, a13, a14, a15), (a16, a17, a18, a19))) s.heap.size = A at hD hZ ⊢
  have hA : ∀ q : Nat, s.heap.size ≤ q → A q := fun q h => by rw [← hAe]; exact Or.inr h
  have hS : va_S A s.heap s.heap [] := va_S.rf
  have hP : va_P (dC, dI) vwCl [(oa 0, .inr (4, [.ref (oa 1), .ref (oa 5), .ref (oa 6), .ref (oa 11)])), (oa 1, .inr (6, [.ref (oa 2), .ref (oa 3), .ref (oa 4), .int a3, .int a4, .int a5, .int a6])), (oa 2, .inl (dA 0, 8, .inl a0)), (oa 3, .inl (dA 1, 8, .inl a1)), (oa 4, .inl (dA 1, 8, .inl a2)), (oa 5, .inr (5, [.int a7, .int a8, .int a9, .int a10])), (oa 6, .inr (8, [.ref (oa 7), .ref (oa 8), .ref (oa 9), .ref (oa 10), .int a15])), (oa 7, .inl (dA 1, 12, .inl a11)), (oa 8, .inl (dA 1, 12, .inl a12)), (oa 9, .inl (dA 1, 12, .inl a13)), (oa 10, .inl (dA 1, 12, .inl a14)), (oa 11, .inr (9, [.ref (oa 12), .int a17, .int a18, .int a19])), (oa 12, .inl (dA 1, 5, .inl a16))] s.heap := hP
  have hD : va_D A [(oa 0, .inr (4, [.ref (oa 1), .ref (oa 5), .ref (oa 6), .ref (oa 11)])), (oa 1, .inr (6, [.ref (oa 2), .ref (oa 3), .ref (oa 4), .int a3, .int a4, .int a5, .int a6])), (oa 2, .inl (dA 0, 8, .inl a0)), (oa 3, .inl (dA 1, 8, .inl a1)), (oa 4, .inl (dA 1, 8, .inl a2)), (oa 5, .inr (5, [.int a7, .int a8, .int a9, .int a10])), (oa 6, .inr (8, [.ref (oa 7), .ref (oa 8), .ref (oa 9), .ref (oa 10), .int a15])), (oa 7, .inl (dA 1, 12, .inl a11)), (oa 8, .inl (dA 1, 12, .inl a12)), (oa 9, .inl (dA 1, 12, .inl a13)), (oa 10, .inl (dA 1, 12, .inl a14)), (oa 11, .inr (9, [.ref (oa 12), .int a17, .int a18, .int a19])), (oa 12, .inl (dA 1, 5, .inl a16))] := hD
  have hl := lv_entry [.ref (oa 0), .int p1] (n := 2) (Nat.le_of_ble_eq_true rfl)
  rw [lg_entry_eq]
  generalize (lg_sl [.ref (oa 0), .int p1] ++ List.replicate (2 - (lg_sl [.ref (oa 0), .int p1]).length) Slot.unset).toArray = ls at hl ⊢
  have hl : lv_has ls 2 [(0, .ref (oa 0)), (1, .int p1)] := hl
  have in_X0 : ∀ w ∈ wsX00, w ∈ ws_X0_crushPat := fun w h => bg _ (inB_X0 w h)
  have in_X1 : ∀ w ∈ wsX10, w ∈ ws_X0_crushPat := fun w h => bg _ (inB_X1 w h)
  rw [f_X0_crushPat] at hf
  refine lv_aload_n hx hb dX0_crushPat_0 rfl (lv_at hl 0 rfl) ?_
  refine va_get (D := (dC, dI)) (ci := 4) (v := .ref (oa 5)) (C := RX0) (T := TX0) (N := 4) hx hb hts in_X0 hown hK hP 0 rfl rfl 1 (by decide) (hts _ (bg _ wd_168)) (fun _ h9 => h9) rfl dX0_crushPat_1 ?_
  refine lv_aload_n hx hb dX0_crushPat_4 rfl (lv_at hl 0 rfl) ?_
  refine va_get (D := (dC, dI)) (ci := 4) (v := .ref (oa 6)) (C := RX0) (T := TX0) (N := 4) hx hb hts in_X0 hown hK hP 0 rfl rfl 2 (by decide) (hts _ (bg _ wd_170)) (fun _ h9 => h9) rfl dX0_crushPat_5 ?_
  refine lv_iload_n hx hb dX0_crushPat_8 rfl (lv_at hl 1 rfl) ?_
  obtain ⟨r2, e1, hf⟩ := bd hf
  refine jr_i (va_runV (As := [.int p1]) (rest := [.ref (oa 5)]) ⟨hx, hb, hml, hown, hts⟩ (m_X4_massOf l dC dI dA gz (fun k => oa (6 + k)) s.heap.size a11 a12 a13 a14 a15 p1 r2 e1) (cwV 1 hts (gi_v bg wd_753 wd_754 wd_755 wd_5 wd_756) rfl rfl rfl hd_X4_massOf ⟨Nat.le_of_ble_eq_true rfl, Nat.le_of_ble_eq_true rfl⟩) ⟨pP_blind, va_recv (ci := 8) (q0 := 6) hK hP rfl rfl, pP_pre hP hD hS hA hK hN hZ [6, 7, 8, 9, 10] (by decide) rfl⟩ rfl rfl hl.1 rfl (lv_room (Nat.le_of_ble_eq_true rfl)) dX0_crushPat_9 ⟨Nat.le_of_ble_eq_true rfl, Nat.le_of_ble_eq_true rfl⟩) hP hD hS hA [6, 7, 8, 9, 10] rfl (fun H locs hP hS => ?_)
  obtain ⟨c4_0, c4_1, c4_2, c4_3, e3, hf⟩ := bX1_inv hf
  refine jn_v (va_runV (As := [.int r2]) (rest := []) ⟨hx, hb, hml, hown, hts⟩ (m_X1_add l dC dI dA gz (fun k => oa (5 + k)) H.size a7 a8 a9 a10 r2 (c4_0, c4_1, c4_2, c4_3) e3) (cwV 1 hts (gi_v bg wd_596 wd_597 wd_598 wd_4 wd_599) rfl rfl rfl hd_X1_add ⟨Nat.le_of_ble_eq_true rfl, Nat.le_of_ble_eq_true rfl⟩) ⟨pP_blind, va_recv (ci := 5) (q0 := 5) hK hP rfl rfl, pP_pre hP hD hS hA hK hN hZ [5] (by decide) rfl⟩ rfl rfl hl.1 rfl (lv_room (Nat.le_of_ble_eq_true rfl)) dX0_crushPat_12 ⟨Nat.le_of_ble_eq_true rfl, Nat.le_of_ble_eq_true rfl⟩) hP hD hS hA [5] rfl rfl (fun H locs hP hD hS => ?_)
  have hP : va_P (dC, dI) vwCl [(oa 0, .inr (4, [.ref (oa 1), .ref (oa 5), .ref (oa 6), .ref (oa 11)])), (oa 1, .inr (6, [.ref (oa 2), .ref (oa 3), .ref (oa 4), .int a3, .int a4, .int a5, .int a6])), (oa 2, .inl (dA 0, 8, .inl a0)), (oa 3, .inl (dA 1, 8, .inl a1)), (oa 4, .inl (dA 1, 8, .inl a2)), (oa 5, .inr (5, [.int c4_0, .int c4_1, .int c4_2, .int c4_3])), (oa 6, .inr (8, [.ref (oa 7), .ref (oa 8), .ref (oa 9), .ref (oa 10), .int a15])), (oa 7, .inl (dA 1, 12, .inl a11)), (oa 8, .inl (dA 1, 12, .inl a12)), (oa 9, .inl (dA 1, 12, .inl a13)), (oa 10, .inl (dA 1, 12, .inl a14)), (oa 11, .inr (9, [.ref (oa 12), .int a17, .int a18, .int a19])), (oa 12, .inl (dA 1, 5, .inl a16))] H := hP
  have hD : va_D A [(oa 0, .inr (4, [.ref (oa 1), .ref (oa 5), .ref (oa 6), .ref (oa 11)])), (oa 1, .inr (6, [.ref (oa 2), .ref (oa 3), .ref (oa 4), .int a3, .int a4, .int a5, .int a6])), (oa 2, .inl (dA 0, 8, .inl a0)), (oa 3, .inl (dA 1, 8, .inl a1)), (oa 4, .inl (dA 1, 8, .inl a2)), (oa 5, .inr (5, [.int c4_0, .int c4_1, .int c4_2, .int c4_3])), (oa 6, .inr (8, [.ref (oa 7), .ref (oa 8), .ref (oa 9), .ref (oa 10), .int a15])), (oa 7, .inl (dA 1, 12, .inl a11)), (oa 8, .inl (dA 1, 12, .inl a12)), (oa 9, .inl (dA 1, 12, .inl a13)), (oa 10, .inl (dA 1, 12, .inl a14)), (oa 11, .inr (9, [.ref (oa 12), .int a17, .int a18, .int a19])), (oa 12, .inl (dA 1, 5, .inl a16))] := hD
  refine lv_aload_n hx hb dX0_crushPat_15 rfl (lv_at hl 0 rfl) ?_
  refine va_get (D := (dC, dI)) (ci := 4) (v := .ref (oa 6)) (C := RX0) (T := TX0) (N := 4) hx hb hts in_X0 hown hK hP 0 rfl rfl 2 (by decide) (hts _ (bg _ wd_170)) (fun _ h9 => h9) rfl dX0_crushPat_16 ?_
  refine lv_iload_n hx hb dX0_crushPat_19 rfl (lv_at hl 1 rfl) ?_
  obtain ⟨c6_0, c6_1, c6_2, c6_3, c6_4, e5, hf⟩ := bX4_inv hf
  refine jn_v (va_runV (As := [.int p1]) (rest := []) ⟨hx, hb, hml, hown, hts⟩ (m_X4_remove l dC dI dA gz (fun k => oa (6 + k)) H.size a11 a12 a13 a14 a15 p1 (c6_0, c6_1, c6_2, c6_3, c6_4) e5) (cwV 1 hts (gi_v bg wd_787 wd_788 wd_789 wd_5 wd_790) rfl rfl rfl hd_X4_remove ⟨Nat.le_of_ble_eq_true rfl, Nat.le_of_ble_eq_true rfl⟩) ⟨pP_blind, va_recv (ci := 8) (q0 := 6) hK hP rfl rfl, pP_pre hP hD hS hA hK hN hZ [6, 7, 8, 9, 10] (by decide) rfl⟩ rfl rfl hl.1 rfl (lv_room (Nat.le_of_ble_eq_true rfl)) dX0_crushPat_20 ⟨Nat.le_of_ble_eq_true rfl, Nat.le_of_ble_eq_true rfl⟩) hP hD hS hA [6, 7, 8, 9, 10] rfl rfl (fun H locs hP hD hS => ?_)
  have hP : va_P (dC, dI) vwCl [(oa 0, .inr (4, [.ref (oa 1), .ref (oa 5), .ref (oa 6), .ref (oa 11)])), (oa 1, .inr (6, [.ref (oa 2), .ref (oa 3), .ref (oa 4), .int a3, .int a4, .int a5, .int a6])), (oa 2, .inl (dA 0, 8, .inl a0)), (oa 3, .inl (dA 1, 8, .inl a1)), (oa 4, .inl (dA 1, 8, .inl a2)), (oa 5, .inr (5, [.int c4_0, .int c4_1, .int c4_2, .int c4_3])), (oa 6, .inr (8, [.ref (oa 7), .ref (oa 8), .ref (oa 9), .ref (oa 10), .int c6_4])), (oa 7, .inl (dA 1, 12, .inl c6_0)), (oa 8, .inl (dA 1, 12, .inl c6_1)), (oa 9, .inl (dA 1, 12, .inl c6_2)), (oa 10, .inl (dA 1, 12, .inl c6_3)), (oa 11, .inr (9, [.ref (oa 12), .int a17, .int a18, .int a19])), (oa 12, .inl (dA 1, 5, .inl a16))] H := hP
  have hD : va_D A [(oa 0, .inr (4, [.ref (oa 1), .ref (oa 5), .ref (oa 6), .ref (oa 11)])), (oa 1, .inr (6, [.ref (oa 2), .ref (oa 3), .ref (oa 4), .int a3, .int a4, .int a5, .int a6])), (oa 2, .inl (dA 0, 8, .inl a0)), (oa 3, .inl (dA 1, 8, .inl a1)), (oa 4, .inl (dA 1, 8, .inl a2)), (oa 5, .inr (5, [.int c4_0, .int c4_1, .int c4_2, .int c4_3])), (oa 6, .inr (8, [.ref (oa 7), .ref (oa 8), .ref (oa 9), .ref (oa 10), .int c6_4])), (oa 7, .inl (dA 1, 12, .inl c6_0)), (oa 8, .inl (dA 1, 12, .inl c6_1)), (oa 9, .inl (dA 1, 12, .inl c6_2)), (oa 10, .inl (dA 1, 12, .inl c6_3)), (oa 11, .inr (9, [.ref (oa 12), .int a17, .int a18, .int a19])), (oa 12, .inl (dA 1, 5, .inl a16))] := hD
  refine lv_aload_n hx hb dX0_crushPat_23 rfl (lv_at hl 0 rfl) ?_
  refine va_get (D := (dC, dI)) (ci := 4) (v := .ref (oa 5)) (C := RX0) (T := TX0) (N := 4) hx hb hts in_X0 hown hK hP 0 rfl rfl 1 (by decide) (hts _ (bg _ wd_168)) (fun _ h9 => h9) rfl dX0_crushPat_24 ?_
  refine va_get (D := (dC, dI)) (ci := 5) (v := .int c4_0) (C := RX1) (T := TX1) (N := 4) hx hb hts in_X1 hown hK hP 5 rfl rfl 0 (by decide) (hts _ (bg _ wd_94)) (fun _ h9 => h9) rfl dX0_crushPat_27 ?_
  obtain ⟨e8, e9⟩ := Prod.mk.inj (sm hf)
  exact W.iret hx hb hr (fun t ht hW => ⟨⟨_, (), rfl, e8, by rw [← e9, ht]; exact hP, by rw [← e9]; exact hD⟩, hS.F ht⟩) hS.2.2 dX0_crushPat_30
