/-! X4_copyFrom -/
def f_X4_copyFrom (a0 : Ar) (a1 : Ar) (a2 : Ar) (a3 : Ar) (a4 : Int32) (b0 : Ar) (b1 : Ar) (b2 : Ar) (b3 : Ar) (b4 : Int32) : Option (SX4) :=
  some (b0, b1, b2, b3, b4)
set_option maxRecDepth 100000 in
set_option maxHeartbeats 4000000 in
theorem m_X4_copyFrom (l : Launch) (dC : Nat → ClassId) (dI : Nat → Nat → Nat) (dA gz : Nat → Nat) (oa : Nat → Nat) (ob : Nat → Nat) (sz : Nat) (a0 : Ar) (a1 : Ar) (a2 : Ar) (a3 : Ar) (a4 : Int32) (b0 : Ar) (b1 : Ar) (b2 : Ar) (b3 : Ar) (b4 : Int32) (uu : SX4) (hf : f_X4_copyFrom a0 a1 a2 a3 a4 b0 b1 b2 b3 b4 = some uu) : Met l yX4_copyFrom ws_X4_copyFrom ({ frames := 10, cells := 0, slots := 0, locals := 200 } : Room) (va_Pc [.ref (oa 0), .ref (ob 0)] (pP (dC, dI) dA gz (wX4 dA oa (a0, a1, a2, a3, a4) ++ wX4 dA ob (b0, b1, b2, b3, b4)) sz)) (va_Qv (S := Unit) (fun _ => True) (fun _ t => pQ (dC, dI) (va_A (wX4 dA oa (a0, a1, a2, a3, a4) ++ wX4 dA ob (b0, b1, b2, b3, b4)) sz) (wX4 dA oa uu ++ wX4 dA ob (b0, b1, b2, b3, b4)) t) (va_A (wX4 dA oa (a0, a1, a2, a3, a4) ++ wX4 dA ob (b0, b1, b2, b3, b4)) sz)) 0 0 (va_A (wX4 dA oa (a0, a1, a2, a3, a4) ++ wX4 dA ob (b0, b1, b2, b3, b4)) sz) := by
  refine Met.ofW (cc := cX4_copyFrom) (maxL := 2) (ret := none) (by decide) rfl ?_
  intro p e s m args below meth c s₁ B hml hv
  obtain ⟨rfl, hsz, hP, hK, hD0, hN, hZ⟩ := hv
  have hx := B.exec
  have hb := B.bytes
  have hr := B.returns
  have hts := atoms_spec (ws := ws_X4_copyFrom) B.pre
  have hown : s.vm.findClass RX4 = some m.cls := findClass_of_methodNamed B.named
  have hlocks := B.notSynchronized
  subst hsz
  have hD := hD0.self (sz := s.heap.size)
  generalize hAe : va_A (wX4 dA oa (a0, a1, a2, a3, a4) ++ wX4 dA ob (b0, b1, b2, b3, b4)) s.heap.size = A at hD hZ ⊢
  have hA : ∀ q : Nat, s.heap.size ≤ q → A q := fun q h => by rw [← hAe]; exact Or.inr h
  have hS : va_S A s.heap s.heap [] := va_S.rf
  have hP : va_P (dC, dI) vwCl [(oa 0, .inr (8, [.ref (oa 1), .ref (oa 2), .ref (oa 3), .ref (oa 4), .int a4])), (oa 1, .inl (dA 1, 12, .inl a0)), (oa 2, .inl (dA 1, 12, .inl a1)), (oa 3, .inl (dA 1, 12, .inl a2)), (oa 4, .inl (dA 1, 12, .inl a3)), (ob 0, .inr (8, [.ref (ob 1), .ref (ob 2), .ref (ob 3), .ref (ob 4), .int b4])), (ob 1, .inl (dA 1, 12, .inl b0)), (ob 2, .inl (dA 1, 12, .inl b1)), (ob 3, .inl (dA 1, 12, .inl b2)), (ob 4, .inl (dA 1, 12, .inl b3))] s.heap := hP
  have hD : va_D A [(oa 0, .inr (8, [.ref (oa 1), .ref (oa 2), .ref (oa 3), .ref (oa 4), .int a4])), (oa 1, .inl (dA 1, 12, .inl a0)), (oa 2, .inl (dA 1, 12, .inl a1)), (oa 3, .inl (dA 1, 12, .inl a2)), (oa 4, .inl (dA 1, 12, .inl a3)), (ob 0, .inr (8, [.ref (ob 1), .ref (ob 2), .ref (ob 3), .ref (ob 4), .int b4])), (ob 1, .inl (dA 1, 12, .inl b0)), (ob 2, .inl (dA 1, 12, .inl b1)), (ob 3, .inl (dA 1, 12, .inl b2)), (ob 4, .inl (dA 1, 12, .inl b3))] := hD
  have hl := lv_entry [.ref (oa 0), .ref (ob 0)] (n := 2) (Nat.le_of_ble_eq_true rfl)
  rw [lg_entry_eq]
  generalize (lg_sl [.ref (oa 0), .ref (ob 0)] ++ List.replicate (2 - (lg_sl [.ref (oa 0), .ref (ob 0)]).length) Slot.unset).toArray = ls at hl ⊢
  have hl : lv_has ls 2 [(0, .ref (oa 0)), (1, .ref (ob 0))] := hl
  have in_X4 : ∀ w ∈ wsX40, w ∈ ws_X4_copyFrom := fun w h => bg _ (inB_X4 w h)
  rw [f_X4_copyFrom] at hf
  refine lv_aload_n hx hb dX4_copyFrom_0 rfl (lv_at hl 1 rfl) ?_
  refine va_get (D := (dC, dI)) (ci := 8) (v := .ref (ob 1)) (C := RX4) (T := TX4) (N := 5) hx hb hts in_X4 hown hK hP 5 rfl rfl 0 (by decide) (hts _ (bg _ wd_119)) (fun _ h9 => h9) rfl dX4_copyFrom_1 ?_
  refine lv_iconst (v := 0) hx hb dX4_copyFrom_4 (by decide) ?_
  refine lv_aload_n hx hb dX4_copyFrom_5 rfl (lv_at hl 0 rfl) ?_
  refine va_get (D := (dC, dI)) (ci := 8) (v := .ref (oa 1)) (C := RX4) (T := TX4) (N := 5) hx hb hts in_X4 hown hK hP 0 rfl rfl 0 (by decide) (hts _ (bg _ wd_119)) (fun _ h9 => h9) rfl dX4_copyFrom_6 ?_
  refine lv_iconst (v := 0) hx hb dX4_copyFrom_9 (by decide) ?_
  refine lv_bipush (v := 12) hx hb dX4_copyFrom_10 (by decide) ?_
  refine va_copyi hx hb (hml.trans hl.1.symm) hown (hts _ (bg _ wd_335)) (hts _ (bg _ wd_326)) (hts _ (bg _ wd_325)) (hts _ (bg _ wd_20)) hK hP hD hS 6 1 1 1 rfl rfl rfl rfl rfl (by decide) (by decide) (by decide) (by decide) (by decide) (fun _ _ => rfl) (Nat.le_of_ble_eq_true rfl) (Nat.le_of_ble_eq_true (by decide +kernel)) dX4_copyFrom_12 (fun H locs hP hD hS => ?_)
  have hP := P_cp (i := 0) (j := 0) (k := 12) (n := 12) rfl rfl rfl hP
  have hD := D_sw (e2 := .inl (dA 1, 12, .inl b0)) hD (Nat.le_of_ble_eq_true rfl)
  have hP : va_P (dC, dI) vwCl [(oa 0, .inr (8, [.ref (oa 1), .ref (oa 2), .ref (oa 3), .ref (oa 4), .int a4])), (oa 1, .inl (dA 1, 12, .inl b0)), (oa 2, .inl (dA 1, 12, .inl a1)), (oa 3, .inl (dA 1, 12, .inl a2)), (oa 4, .inl (dA 1, 12, .inl a3)), (ob 0, .inr (8, [.ref (ob 1), .ref (ob 2), .ref (ob 3), .ref (ob 4), .int b4])), (ob 1, .inl (dA 1, 12, .inl b0)), (ob 2, .inl (dA 1, 12, .inl b1)), (ob 3, .inl (dA 1, 12, .inl b2)), (ob 4, .inl (dA 1, 12, .inl b3))] H := hP
  have hD : va_D A [(oa 0, .inr (8, [.ref (oa 1), .ref (oa 2), .ref (oa 3), .ref (oa 4), .int a4])), (oa 1, .inl (dA 1, 12, .inl b0)), (oa 2, .inl (dA 1, 12, .inl a1)), (oa 3, .inl (dA 1, 12, .inl a2)), (oa 4, .inl (dA 1, 12, .inl a3)), (ob 0, .inr (8, [.ref (ob 1), .ref (ob 2), .ref (ob 3), .ref (ob 4), .int b4])), (ob 1, .inl (dA 1, 12, .inl b0)), (ob 2, .inl (dA 1, 12, .inl b1)), (ob 3, .inl (dA 1, 12, .inl b2)), (ob 4, .inl (dA 1, 12, .inl b3))] := hD
  refine lv_aload_n hx hb dX4_copyFrom_15 rfl (lv_at hl 1 rfl) ?_
  refine va_get (D := (dC, dI)) (ci := 8) (v := .ref (ob 2)) (C := RX4) (T := TX4) (N := 5) hx hb hts in_X4 hown hK hP 5 rfl rfl 1 (by decide) (hts _ (bg _ wd_121)) (fun _ h9 => h9) rfl dX4_copyFrom_16 ?_
  refine lv_iconst (v := 0) hx hb dX4_copyFrom_19 (by decide) ?_
  refine lv_aload_n hx hb dX4_copyFrom_20 rfl (lv_at hl 0 rfl) ?_
  refine va_get (D := (dC, dI)) (ci := 8) (v := .ref (oa 2)) (C := RX4) (T := TX4) (N := 5) hx hb hts in_X4 hown hK hP 0 rfl rfl 1 (by decide) (hts _ (bg _ wd_121)) (fun _ h9 => h9) rfl dX4_copyFrom_21 ?_
  refine lv_iconst (v := 0) hx hb dX4_copyFrom_24 (by decide) ?_
  refine lv_bipush (v := 12) hx hb dX4_copyFrom_25 (by decide) ?_
  refine va_copyi hx hb (hml.trans hl.1.symm) hown (hts _ (bg _ wd_335)) (hts _ (bg _ wd_326)) (hts _ (bg _ wd_325)) (hts _ (bg _ wd_20)) hK hP hD hS 7 2 1 1 rfl rfl rfl rfl rfl (by decide) (by decide) (by decide) (by decide) (by decide) (fun _ _ => rfl) (Nat.le_of_ble_eq_true rfl) (Nat.le_of_ble_eq_true (by decide +kernel)) dX4_copyFrom_27 (fun H locs hP hD hS => ?_)
  have hP := P_cp (i := 0) (j := 0) (k := 12) (n := 12) rfl rfl rfl hP
  have hD := D_sw (e2 := .inl (dA 1, 12, .inl b1)) hD (Nat.le_of_ble_eq_true rfl)
  have hP : va_P (dC, dI) vwCl [(oa 0, .inr (8, [.ref (oa 1), .ref (oa 2), .ref (oa 3), .ref (oa 4), .int a4])), (oa 1, .inl (dA 1, 12, .inl b0)), (oa 2, .inl (dA 1, 12, .inl b1)), (oa 3, .inl (dA 1, 12, .inl a2)), (oa 4, .inl (dA 1, 12, .inl a3)), (ob 0, .inr (8, [.ref (ob 1), .ref (ob 2), .ref (ob 3), .ref (ob 4), .int b4])), (ob 1, .inl (dA 1, 12, .inl b0)), (ob 2, .inl (dA 1, 12, .inl b1)), (ob 3, .inl (dA 1, 12, .inl b2)), (ob 4, .inl (dA 1, 12, .inl b3))] H := hP
  have hD : va_D A [(oa 0, .inr (8, [.ref (oa 1), .ref (oa 2), .ref (oa 3), .ref (oa 4), .int a4])), (oa 1, .inl (dA 1, 12, .inl b0)), (oa 2, .inl (dA 1, 12, .inl b1)), (oa 3, .inl (dA 1, 12, .inl a2)), (oa 4, .inl (dA 1, 12, .inl a3)), (ob 0, .inr (8, [.ref (ob 1), .ref (ob 2), .ref (ob 3), .ref (ob 4), .int b4])), (ob 1, .inl (dA 1, 12, .inl b0)), (ob 2, .inl (dA 1, 12, .inl b1)), (ob 3, .inl (dA 1, 12, .inl b2)), (ob 4, .inl (dA 1, 12, .inl b3))] := hD
  refine lv_aload_n hx hb dX4_copyFrom_30 rfl (lv_at hl 1 rfl) ?_
  refine va_get (D := (dC, dI)) (ci := 8) (v := .ref (ob 3)) (C := RX4) (T := TX4) (N := 5) hx hb hts in_X4 hown hK hP 5 rfl rfl 2 (by decide) (hts _ (bg _ wd_123)) (fun _ h9 => h9) rfl dX4_copyFrom_31 ?_
  refine lv_iconst (v := 0) hx hb dX4_copyFrom_34 (by decide) ?_
  refine lv_aload_n hx hb dX4_copyFrom_35 rfl (lv_at hl 0 rfl) ?_
  refine va_get (D := (dC, dI)) (ci := 8) (v := .ref (oa 3)) (C := RX4) (T := TX4) (N := 5) hx hb hts in_X4 hown hK hP 0 rfl rfl 2 (by decide) (hts _ (bg _ wd_123)) (fun _ h9 => h9) rfl dX4_copyFrom_36 ?_
  refine lv_iconst (v := 0) hx hb dX4_copyFrom_39 (by decide) ?_
  refine lv_bipush (v := 12) hx hb dX4_copyFrom_40 (by decide) ?_
  refine va_copyi hx hb (hml.trans hl.1.symm) hown (hts _ (bg _ wd_335)) (hts _ (bg _ wd_326)) (hts _ (bg _ wd_325)) (hts _ (bg _ wd_20)) hK hP hD hS 8 3 1 1 rfl rfl rfl rfl rfl (by decide) (by decide) (by decide) (by decide) (by decide) (fun _ _ => rfl) (Nat.le_of_ble_eq_true rfl) (Nat.le_of_ble_eq_true (by decide +kernel)) dX4_copyFrom_42 (fun H locs hP hD hS => ?_)
  have hP := P_cp (i := 0) (j := 0) (k := 12) (n := 12) rfl rfl rfl hP
  have hD := D_sw (e2 := .inl (dA 1, 12, .inl b2)) hD (Nat.le_of_ble_eq_true rfl)
  have hP : va_P (dC, dI) vwCl [(oa 0, .inr (8, [.ref (oa 1), .ref (oa 2), .ref (oa 3), .ref (oa 4), .int a4])), (oa 1, .inl (dA 1, 12, .inl b0)), (oa 2, .inl (dA 1, 12, .inl b1)), (oa 3, .inl (dA 1, 12, .inl b2)), (oa 4, .inl (dA 1, 12, .inl a3)), (ob 0, .inr (8, [.ref (ob 1), .ref (ob 2), .ref (ob 3), .ref (ob 4), .int b4])), (ob 1, .inl (dA 1, 12, .inl b0)), (ob 2, .inl (dA 1, 12, .inl b1)), (ob 3, .inl (dA 1, 12, .inl b2)), (ob 4, .inl (dA 1, 12, .inl b3))] H := hP
  have hD : va_D A [(oa 0, .inr (8, [.ref (oa 1), .ref (oa 2), .ref (oa 3), .ref (oa 4), .int a4])), (oa 1, .inl (dA 1, 12, .inl b0)), (oa 2, .inl (dA 1, 12, .inl b1)), (oa 3, .inl (dA 1, 12, .inl b2)), (oa 4, .inl (dA 1, 12, .inl a3)), (ob 0, .inr (8, [.ref (ob 1), .ref (ob 2), .ref (ob 3), .ref (ob 4), .int b4])), (ob 1, .inl (dA 1, 12, .inl b0)), (ob 2, .inl (dA 1, 12, .inl b1)), (ob 3, .inl (dA 1, 12, .inl b2)), (ob 4, .inl (dA 1, 12, .inl b3))] := hD
  refine lv_aload_n hx hb dX4_copyFrom_45 rfl (lv_at hl 1 rfl) ?_
  refine va_get (D := (dC, dI)) (ci := 8) (v := .ref (ob 4)) (C := RX4) (T := TX4) (N := 5) hx hb hts in_X4 hown hK hP 5 rfl rfl 3 (by decide) (hts _ (bg _ wd_125)) (fun _ h9 => h9) rfl dX4_copyFrom_46 ?_
  refine lv_iconst (v := 0) hx hb dX4_copyFrom_49 (by decide) ?_
  refine lv_aload_n hx hb dX4_copyFrom_50 rfl (lv_at hl 0 rfl) ?_
  refine va_get (D := (dC, dI)) (ci := 8) (v := .ref (oa 4)) (C := RX4) (T := TX4) (N := 5) hx hb hts in_X4 hown hK hP 0 rfl rfl 3 (by decide) (hts _ (bg _ wd_125)) (fun _ h9 => h9) rfl dX4_copyFrom_51 ?_
  refine lv_iconst (v := 0) hx hb dX4_copyFrom_54 (by decide) ?_
  refine lv_bipush (v := 12) hx hb dX4_copyFrom_55 (by decide) ?_
  refine va_copyi hx hb (hml.trans hl.1.symm) hown (hts _ (bg _ wd_335)) (hts _ (bg _ wd_326)) (hts _ (bg _ wd_325)) (hts _ (bg _ wd_20)) hK hP hD hS 9 4 1 1 rfl rfl rfl rfl rfl (by decide) (by decide) (by decide) (by decide) (by decide) (fun _ _ => rfl) (Nat.le_of_ble_eq_true rfl) (Nat.le_of_ble_eq_true (by decide +kernel)) dX4_copyFrom_57 (fun H locs hP hD hS => ?_)
  have hP := P_cp (i := 0) (j := 0) (k := 12) (n := 12) rfl rfl rfl hP
  have hD := D_sw (e2 := .inl (dA 1, 12, .inl b3)) hD (Nat.le_of_ble_eq_true rfl)
  have hP : va_P (dC, dI) vwCl [(oa 0, .inr (8, [.ref (oa 1), .ref (oa 2), .ref (oa 3), .ref (oa 4), .int a4])), (oa 1, .inl (dA 1, 12, .inl b0)), (oa 2, .inl (dA 1, 12, .inl b1)), (oa 3, .inl (dA 1, 12, .inl b2)), (oa 4, .inl (dA 1, 12, .inl b3)), (ob 0, .inr (8, [.ref (ob 1), .ref (ob 2), .ref (ob 3), .ref (ob 4), .int b4])), (ob 1, .inl (dA 1, 12, .inl b0)), (ob 2, .inl (dA 1, 12, .inl b1)), (ob 3, .inl (dA 1, 12, .inl b2)), (ob 4, .inl (dA 1, 12, .inl b3))] H := hP
  have hD : va_D A [(oa 0, .inr (8, [.ref (oa 1), .ref (oa 2), .ref (oa 3), .ref (oa 4), .int a4])), (oa 1, .inl (dA 1, 12, .inl b0)), (oa 2, .inl (dA 1, 12, .inl b1)), (oa 3, .inl (dA 1, 12, .inl b2)), (oa 4, .inl (dA 1, 12, .inl b3)), (ob 0, .inr (8, [.ref (ob 1), .ref (ob 2), .ref (ob 3), .ref (ob 4), .int b4])), (ob 1, .inl (dA 1, 12, .inl b0)), (ob 2, .inl (dA 1, 12, .inl b1)), (ob 3, .inl (dA 1, 12, .inl b2)), (ob 4, .inl (dA 1, 12, .inl b3))] := hD
  refine lv_aload_n hx hb dX4_copyFrom_60 rfl (lv_at hl 0 rfl) ?_
  refine lv_aload_n hx hb dX4_copyFrom_61 rfl (lv_at hl 1 rfl) ?_
  refine va_get (D := (dC, dI)) (ci := 8) (v := .int b4) (C := RX4) (T := TX4) (N := 5) hx hb hts in_X4 hown hK hP 5 rfl rfl 4 (by decide) (hts _ (bg _ wd_127)) (fun _ h9 => h9) rfl dX4_copyFrom_62 ?_
  refine va_put (D := (dC, dI)) (ci := 8) (v := .int b4) (ty := .int) (C := RX4) (T := TX4) (N := 5) hx hb hts in_X4 tyX4 tyX4_ok nmX4 hown hK hP hD hS 0 rfl rfl 4 (by decide) (hts _ (bg _ wd_127)) (fun _ h9 => h9) rfl (by decide +kernel) rfl rfl (Nat.le_of_ble_eq_true rfl) dX4_copyFrom_65 (fun H locs hP hD hS => ?_)
  have hP : va_P (dC, dI) vwCl [(oa 0, .inr (8, [.ref (oa 1), .ref (oa 2), .ref (oa 3), .ref (oa 4), .int b4])), (oa 1, .inl (dA 1, 12, .inl b0)), (oa 2, .inl (dA 1, 12, .inl b1)), (oa 3, .inl (dA 1, 12, .inl b2)), (oa 4, .inl (dA 1, 12, .inl b3)), (ob 0, .inr (8, [.ref (ob 1), .ref (ob 2), .ref (ob 3), .ref (ob 4), .int b4])), (ob 1, .inl (dA 1, 12, .inl b0)), (ob 2, .inl (dA 1, 12, .inl b1)), (ob 3, .inl (dA 1, 12, .inl b2)), (ob 4, .inl (dA 1, 12, .inl b3))] H := hP
  have hD : va_D A [(oa 0, .inr (8, [.ref (oa 1), .ref (oa 2), .ref (oa 3), .ref (oa 4), .int b4])), (oa 1, .inl (dA 1, 12, .inl b0)), (oa 2, .inl (dA 1, 12, .inl b1)), (oa 3, .inl (dA 1, 12, .inl b2)), (oa 4, .inl (dA 1, 12, .inl b3)), (ob 0, .inr (8, [.ref (ob 1), .ref (ob 2), .ref (ob 3), .ref (ob 4), .int b4])), (ob 1, .inl (dA 1, 12, .inl b0)), (ob 2, .inl (dA 1, 12, .inl b1)), (ob 3, .inl (dA 1, 12, .inl b2)), (ob 4, .inl (dA 1, 12, .inl b3))] := hD
  have e9 := sm hf
  exact W.vret hx hb hr (fun t ht hW => ⟨⟨(), rfl, trivial, by rw [← e9, ht]; exact hP, by rw [← e9]; exact hD⟩, hS.F ht⟩) hS.2.2 dX4_copyFrom_68
/-! X4_has -/
def f_X4_has (a0 : Ar) (a1 : Ar) (a2 : Ar) (a3 : Ar) (a4 : Int32) (p1 : Int32) : Option (Int32) :=
  (if p1 < 0 then some 0 else
  (if a4 ≤ p1 then some 0 else
  some 1))
set_option maxRecDepth 100000 in
set_option maxHeartbeats 4000000 in
theorem m_X4_has (l : Launch) (dC : Nat → ClassId) (dI : Nat → Nat → Nat) (dA gz : Nat → Nat) (oa : Nat → Nat) (sz : Nat) (a0 : Ar) (a1 : Ar) (a2 : Ar) (a3 : Ar) (a4 : Int32) (p1 : Int32) (rr : Int32) (hf : f_X4_has a0 a1 a2 a3 a4 p1 = some rr) : Met l yX4_has ws_X4_has ({ frames := 10, cells := 0, slots := 0, locals := 200 } : Room) (va_Pc [.ref (oa 0), .int p1] (pP (dC, dI) dA gz (wX4 dA oa (a0, a1, a2, a3, a4)) sz)) (va_Qi (S := Unit) (fun r' _ => r' = rr) (fun _ t => pQ (dC, dI) (va_A (wX4 dA oa (a0, a1, a2, a3, a4)) sz) (wX4 dA oa (a0, a1, a2, a3, a4)) t) (va_A (wX4 dA oa (a0, a1, a2, a3, a4)) sz)) 0 0 (va_A (wX4 dA oa (a0, a1, a2, a3, a4)) sz) := by
  refine Met.ofW (cc := cX4_has) (maxL := 2) (ret := (some .boolean)) (by decide) rfl ?_
  intro p e s m args below meth c s₁ B hml hv
  obtain ⟨rfl, hsz, hP, hK, hD0, hN, hZ⟩ := hv
  have hx := B.exec
  have hb := B.bytes
  have hr := B.returns
  have hts := atoms_spec (ws := ws_X4_has) B.pre
  have hown : s.vm.findClass RX4 = some m.cls := findClass_of_methodNamed B.named
  have hlocks := B.notSynchronized
  subst hsz
  have hD := hD0.self (sz := s.heap.size)
  generalize hAe : va_A (wX4 dA oa (a0, a1, a2, a3, a4)) s.heap.size = A at hD hZ ⊢
  have hA : ∀ q : Nat, s.heap.size ≤ q → A q := fun q h => by rw [← hAe]; exact Or.inr h
  have hS : va_S A s.heap s.heap [] := va_S.rf
  have hP : va_P (dC, dI) vwCl [(oa 0, .inr (8, [.ref (oa 1), .ref (oa 2), .ref (oa 3), .ref (oa 4), .int a4])), (oa 1, .inl (dA 1, 12, .inl a0)), (oa 2, .inl (dA 1, 12, .inl a1)), (oa 3, .inl (dA 1, 12, .inl a2)), (oa 4, .inl (dA 1, 12, .inl a3))] s.heap := hP
  have hD : va_D A [(oa 0, .inr (8, [.ref (oa 1), .ref (oa 2), .ref (oa 3), .ref (oa 4), .int a4])), (oa 1, .inl (dA 1, 12, .inl a0)), (oa 2, .inl (dA 1, 12, .inl a1)), (oa 3, .inl (dA 1, 12, .inl a2)), (oa 4, .inl (dA 1, 12, .inl a3))] := hD
  have hl := lv_entry [.ref (oa 0), .int p1] (n := 2) (Nat.le_of_ble_eq_true rfl)
  rw [lg_entry_eq]
  generalize (lg_sl [.ref (oa 0), .int p1] ++ List.replicate (2 - (lg_sl [.ref (oa 0), .int p1]).length) Slot.unset).toArray = ls at hl ⊢
  have hl : lv_has ls 2 [(0, .ref (oa 0)), (1, .int p1)] := hl
  have in_X4 : ∀ w ∈ wsX40, w ∈ ws_X4_has := fun w h => bg _ (inB_X4 w h)
  rw [f_X4_has] at hf
  refine lv_iload_n hx hb dX4_has_0 rfl (lv_at hl 1 rfl) ?_
  refine lv_if_lt (tgt := 16) hx hb dX4_has_1 (by decide) (fun q1 => ?_) (fun q1 => ?_)
  · have hf := it q1 hf
    refine lv_iconst (v := 0) hx hb dX4_has_16 (by decide) ?_
    exact W.zret hx hb hr rfl (fun t ht hW => ⟨⟨_, (), rfl, sm hf, by rw [ht]; exact hP, hD⟩, hS.F ht⟩) hS.2.2 dX4_has_17
  · have hf := ie q1 hf
    refine lv_iload_n hx hb dX4_has_4 rfl (lv_at hl 1 rfl) ?_
    refine lv_aload_n hx hb dX4_has_5 rfl (lv_at hl 0 rfl) ?_
    refine va_get (D := (dC, dI)) (ci := 8) (v := .int a4) (C := RX4) (T := TX4) (N := 5) hx hb hts in_X4 hown hK hP 0 rfl rfl 4 (by decide) (hts _ (bg _ wd_127)) (fun _ h9 => h9) rfl dX4_has_6 ?_
    refine lv_icmp_ge (tgt := 16) hx hb dX4_has_9 (by decide) (fun q2 => ?_) (fun q2 => ?_)
    · have hf := it q2 hf
      refine lv_iconst (v := 0) hx hb dX4_has_16 (by decide) ?_
      exact W.zret hx hb hr rfl (fun t ht hW => ⟨⟨_, (), rfl, sm hf, by rw [ht]; exact hP, hD⟩, hS.F ht⟩) hS.2.2 dX4_has_17
    · have hf := ie q2 hf
      refine lv_iconst (v := 1) hx hb dX4_has_12 (by decide) ?_
      refine lv_goto (tgt := 17) hx hb dX4_has_13 (by decide) ?_
      exact W.zret hx hb hr rfl (fun t ht hW => ⟨⟨_, (), rfl, sm hf, by rw [ht]; exact hP, hD⟩, hS.F ht⟩) hS.2.2 dX4_has_17
/-! X4_massOf -/
def f_X4_massOf (a0 : Ar) (a1 : Ar) (a2 : Ar) (a3 : Ar) (a4 : Int32) (p1 : Int32) : Option (Int32) :=
  (f_X4_has a0 a1 a2 a3 a4 p1).bind fun r2 =>
  (if r2 = 0 then some 0 else
  if p1 < 0 ∨ 12 ≤ p1.toNatClampNeg then none else
  some (a0 p1.toNatClampNeg))
set_option maxRecDepth 100000 in
set_option maxHeartbeats 4000000 in
theorem m_X4_massOf (l : Launch) (dC : Nat → ClassId) (dI : Nat → Nat → Nat) (dA gz : Nat → Nat) (oa : Nat → Nat) (sz : Nat) (a0 : Ar) (a1 : Ar) (a2 : Ar) (a3 : Ar) (a4 : Int32) (p1 : Int32) (rr : Int32) (hf : f_X4_massOf a0 a1 a2 a3 a4 p1 = some rr) : Met l yX4_massOf ws_X4_massOf ({ frames := 14, cells := 0, slots := 0, locals := 400 } : Room) (va_Pc [.ref (oa 0), .int p1] (pP (dC, dI) dA gz (wX4 dA oa (a0, a1, a2, a3, a4)) sz)) (va_Qi (S := Unit) (fun r' _ => r' = rr) (fun _ t => pQ (dC, dI) (va_A (wX4 dA oa (a0, a1, a2, a3, a4)) sz) (wX4 dA oa (a0, a1, a2, a3, a4)) t) (va_A (wX4 dA oa (a0, a1, a2, a3, a4)) sz)) 0 0 (va_A (wX4 dA oa (a0, a1, a2, a3, a4)) sz) := by
  refine Met.ofW (cc := cX4_massOf) (maxL := 2) (ret := (some .int)) (by decide) rfl ?_
  intro p e s m args below meth c s₁ B hml hv
  obtain ⟨rfl, hsz, hP, hK, hD0, hN, hZ⟩ := hv
  have hx := B.exec
  have hb := B.bytes
  have hr := B.returns
  have hts := atoms_spec (ws := ws_X4_massOf) B.pre
  have hown : s.vm.findClass RX4 = some m.cls := findClass_of_methodNamed B.named
  have hlocks := B.notSynchronized
  subst hsz
  have hD := hD0.self (sz := s.heap.size)
  generalize hAe : va_A (wX4 dA oa (a0, a1, a2, a3, a4)) s.heap.size = A at hD hZ ⊢
  have hA : ∀ q : Nat, s.heap.size ≤ q → A q := fun q h => by rw [← hAe]; exact Or.inr h
  have hS : va_S A s.heap s.heap [] := va_S.rf
  have hP : va_P (dC, dI) vwCl [(oa 0, .inr (8, [.ref (oa 1), .ref (oa 2), .ref (oa 3), .ref (oa 4), .int a4])), (oa 1, .inl (dA 1, 12, .inl a0)), (oa 2, .inl (dA 1, 12, .inl a1)), (oa 3, .inl (dA 1, 12, .inl a2)), (oa 4, .inl (dA 1, 12, .inl a3))] s.heap := hP
  have hD : va_D A [(oa 0, .inr (8, [.ref (oa 1), .ref (oa 2), .ref (oa 3), .ref (oa 4), .int a4])), (oa 1, .inl (dA 1, 12, .inl a0)), (oa 2, .inl (dA 1, 12, .inl a1)), (oa 3, .inl (dA 1, 12, .inl a2)), (oa 4, .inl (dA 1, 12, .inl a3))] := hD
  have hl := lv_entry [.ref (oa 0), .int p1] (n := 2) (Nat.le_of_ble_eq_true rfl)
  rw [lg_entry_eq]
  generalize (lg_sl [.ref (oa 0), .int p1] ++ List.replicate (2 - (lg_sl [.ref (oa 0), .int p1]).length) Slot.unset).toArray = ls at hl ⊢
  have hl : lv_has ls 2 [(0, .ref (oa 0)), (1, .int p1)] := hl
  have in_X4 : ∀ w ∈ wsX40, w ∈ ws_X4_massOf := fun w h => bg _ (inB_X4 w h)
  rw [f_X4_massOf] at hf
  refine lv_aload_n hx hb dX4_massOf_0 rfl (lv_at hl 0 rfl) ?_
  refine lv_iload_n hx hb dX4_massOf_1 rfl (lv_at hl 1 rfl) ?_
  obtain ⟨r2, e1, hf⟩ := bd hf
  refine jr_i (va_runV (As := [.int p1]) (rest := []) ⟨hx, hb, hml, hown, hts⟩ (m_X4_has l dC dI dA gz oa s.heap.size a0 a1 a2 a3 a4 p1 r2 e1) (cwV 1 hts (gi_v bg wd_748 wd_741 wd_742 wd_5 wd_743) rfl rfl rfl hd_X4_has ⟨Nat.le_of_ble_eq_true rfl, Nat.le_of_ble_eq_true rfl⟩) ⟨pP_blind, va_recv (ci := 8) (q0 := 0) hK hP rfl rfl, pP_pre hP hD hS hA hK hN hZ [0, 1, 2, 3, 4] (by decide) rfl⟩ rfl rfl hl.1 rfl (lv_room (Nat.le_of_ble_eq_true rfl)) dX4_massOf_2 ⟨Nat.le_of_ble_eq_true rfl, Nat.le_of_ble_eq_true rfl⟩) hP hD hS hA [0, 1, 2, 3, 4] rfl (fun H locs hP hS => ?_)
  refine lv_if_eq (tgt := 17) hx hb dX4_massOf_5 (by decide) (fun q3 => ?_) (fun q3 => ?_)
  · have hf := it q3 hf
    refine lv_iconst (v := 0) hx hb dX4_massOf_17 (by decide) ?_
    exact W.iret hx hb hr (fun t ht hW => ⟨⟨_, (), rfl, sm hf, by rw [ht]; exact hP, hD⟩, hS.F ht⟩) hS.2.2 dX4_massOf_18
  · have hf := ie q3 hf
    refine lv_aload_n hx hb dX4_massOf_8 rfl (lv_at hl 0 rfl) ?_
    refine va_get (D := (dC, dI)) (ci := 8) (v := .ref (oa 1)) (C := RX4) (T := TX4) (N := 5) hx hb hts in_X4 hown hK hP 0 rfl rfl 0 (by decide) (hts _ (bg _ wd_119)) (fun _ h9 => h9) rfl dX4_massOf_9 ?_
    refine lv_iload_n hx hb dX4_massOf_12 rfl (lv_at hl 1 rfl) ?_
    obtain ⟨z4, hf⟩ := gd hf
    refine va_iald hx hb hK hP 1 1 rfl rfl z4 dX4_massOf_13 ?_
    refine lv_goto (tgt := 18) hx hb dX4_massOf_14 (by decide) ?_
    exact W.iret hx hb hr (fun t ht hW => ⟨⟨_, (), rfl, sm hf, by rw [ht]; exact hP, hD⟩, hS.F ht⟩) hS.2.2 dX4_massOf_18
/-! X4_temperatureOf -/
def f_X4_temperatureOf (a0 : Ar) (a1 : Ar) (a2 : Ar) (a3 : Ar) (a4 : Int32) (p1 : Int32) : Option (Int32) :=
  (f_X4_has a0 a1 a2 a3 a4 p1).bind fun r2 =>
  (if r2 = 0 then some 0 else
  if p1 < 0 ∨ 12 ≤ p1.toNatClampNeg then none else
  some (a1 p1.toNatClampNeg))
set_option maxRecDepth 100000 in
set_option maxHeartbeats 4000000 in
theorem m_X4_temperatureOf (l : Launch) (dC : Nat → ClassId) (dI : Nat → Nat → Nat) (dA gz : Nat → Nat) (oa : Nat → Nat) (sz : Nat) (a0 : Ar) (a1 : Ar) (a2 : Ar) (a3 : Ar) (a4 : Int32) (p1 : Int32) (rr : Int32) (hf : f_X4_temperatureOf a0 a1 a2 a3 a4 p1 = some rr) : Met l yX4_temperatureOf ws_X4_temperatureOf ({ frames := 14, cells := 0, slots := 0, locals := 400 } : Room) (va_Pc [.ref (oa 0), .int p1] (pP (dC, dI) dA gz (wX4 dA oa (a0, a1, a2, a3, a4)) sz)) (va_Qi (S := Unit) (fun r' _ => r' = rr) (fun _ t => pQ (dC, dI) (va_A (wX4 dA oa (a0, a1, a2, a3, a4)) sz) (wX4 dA oa (a0, a1, a2, a3, a4)) t) (va_A (wX4 dA oa (a0, a1, a2, a3, a4)) sz)) 0 0 (va_A (wX4 dA oa (a0, a1, a2, a3, a4)) sz) := by
  refine Met.ofW (cc := cX4_temperatureOf) (maxL := 2) (ret := (some .int)) (by decide) rfl ?_
  intro p e s m args below meth c s₁ B hml hv
  obtain ⟨rfl, hsz, hP, hK, hD0, hN, hZ⟩ := hv
  have hx := B.exec
  have hb := B.bytes
  have hr := B.returns
  have hts := atoms_spec (ws := ws_X4_temperatureOf) B.pre
  have hown : s.vm.findClass RX4 = some m.cls := findClass_of_methodNamed B.named
  have hlocks := B.notSynchronized
  subst hsz
  have hD := hD0.self (sz := s.heap.size)
  generalize hAe : va_A (wX4 dA oa (a0, a1, a2, a3, a4)) s.heap.size = A at hD hZ ⊢
  have hA : ∀ q : Nat, s.heap.size ≤ q → A q := fun q h => by rw [← hAe]; exact Or.inr h
  have hS : va_S A s.heap s.heap [] := va_S.rf
  have hP : va_P (dC, dI) vwCl [(oa 0, .inr (8, [.ref (oa 1), .ref (oa 2), .ref (oa 3), .ref (oa 4), .int a4])), (oa 1, .inl (dA 1, 12, .inl a0)), (oa 2, .inl (dA 1, 12, .inl a1)), (oa 3, .inl (dA 1, 12, .inl a2)), (oa 4, .inl (dA 1, 12, .inl a3))] s.heap := hP
  have hD : va_D A [(oa 0, .inr (8, [.ref (oa 1), .ref (oa 2), .ref (oa 3), .ref (oa 4), .int a4])), (oa 1, .inl (dA 1, 12, .inl a0)), (oa 2, .inl (dA 1, 12, .inl a1)), (oa 3, .inl (dA 1, 12, .inl a2)), (oa 4, .inl (dA 1, 12, .inl a3))] := hD
  have hl := lv_entry [.ref (oa 0), .int p1] (n := 2) (Nat.le_of_ble_eq_true rfl)
  rw [lg_entry_eq]
  generalize (lg_sl [.ref (oa 0), .int p1] ++ List.replicate (2 - (lg_sl [.ref (oa 0), .int p1]).length) Slot.unset).toArray = ls at hl ⊢
  have hl : lv_has ls 2 [(0, .ref (oa 0)), (1, .int p1)] := hl
  have in_X4 : ∀ w ∈ wsX40, w ∈ ws_X4_temperatureOf := fun w h => bg _ (inB_X4 w h)
  rw [f_X4_temperatureOf] at hf
  refine lv_aload_n hx hb dX4_temperatureOf_0 rfl (lv_at hl 0 rfl) ?_
  refine lv_iload_n hx hb dX4_temperatureOf_1 rfl (lv_at hl 1 rfl) ?_
  obtain ⟨r2, e1, hf⟩ := bd hf
  refine jr_i (va_runV (As := [.int p1]) (rest := []) ⟨hx, hb, hml, hown, hts⟩ (m_X4_has l dC dI dA gz oa s.heap.size a0 a1 a2 a3 a4 p1 r2 e1) (cwV 1 hts (gi_v bg wd_748 wd_741 wd_742 wd_5 wd_743) rfl rfl rfl hd_X4_has ⟨Nat.le_of_ble_eq_true rfl, Nat.le_of_ble_eq_true rfl⟩) ⟨pP_blind, va_recv (ci := 8) (q0 := 0) hK hP rfl rfl, pP_pre hP hD hS hA hK hN hZ [0, 1, 2, 3, 4] (by decide) rfl⟩ rfl rfl hl.1 rfl (lv_room (Nat.le_of_ble_eq_true rfl)) dX4_temperatureOf_2 ⟨Nat.le_of_ble_eq_true rfl, Nat.le_of_ble_eq_true rfl⟩) hP hD hS hA [0, 1, 2, 3, 4] rfl (fun H locs hP hS => ?_)
  refine lv_if_eq (tgt := 17) hx hb dX4_temperatureOf_5 (by decide) (fun q3 => ?_) (fun q3 => ?_)
  · have hf := it q3 hf
    refine lv_iconst (v := 0) hx hb dX4_temperatureOf_17 (by decide) ?_
    exact W.iret hx hb hr (fun t ht hW => ⟨⟨_, (), rfl, sm hf, by rw [ht]; exact hP, hD⟩, hS.F ht⟩) hS.2.2 dX4_temperatureOf_18
  · have hf := ie q3 hf
    refine lv_aload_n hx hb dX4_temperatureOf_8 rfl (lv_at hl 0 rfl) ?_
    refine va_get (D := (dC, dI)) (ci := 8) (v := .ref (oa 2)) (C := RX4) (T := TX4) (N := 5) hx hb hts in_X4 hown hK hP 0 rfl rfl 1 (by decide) (hts _ (bg _ wd_121)) (fun _ h9 => h9) rfl dX4_temperatureOf_9 ?_
    refine lv_iload_n hx hb dX4_temperatureOf_12 rfl (lv_at hl 1 rfl) ?_
    obtain ⟨z4, hf⟩ := gd hf
    refine va_iald hx hb hK hP 2 1 rfl rfl z4 dX4_temperatureOf_13 ?_
    refine lv_goto (tgt := 18) hx hb dX4_temperatureOf_14 (by decide) ?_
    exact W.iret hx hb hr (fun t ht hW => ⟨⟨_, (), rfl, sm hf, by rw [ht]; exact hP, hD⟩, hS.F ht⟩) hS.2.2 dX4_temperatureOf_18
/-! X4_firmnessOf -/
def f_X4_firmnessOf (a0 : Ar) (a1 : Ar) (a2 : Ar) (a3 : Ar) (a4 : Int32) (p1 : Int32) : Option (Int32) :=
  (f_X4_has a0 a1 a2 a3 a4 p1).bind fun r2 =>
  (if r2 = 0 then some 0 else
  if p1 < 0 ∨ 12 ≤ p1.toNatClampNeg then none else
  if p1 < 0 ∨ 12 ≤ p1.toNatClampNeg then none else
  some ((a2 p1.toNatClampNeg) - (15 * (a3 p1.toNatClampNeg))))
set_option maxRecDepth 100000 in
set_option maxHeartbeats 4000000 in
theorem m_X4_firmnessOf (l : Launch) (dC : Nat → ClassId) (dI : Nat → Nat → Nat) (dA gz : Nat → Nat) (oa : Nat → Nat) (sz : Nat) (a0 : Ar) (a1 : Ar) (a2 : Ar) (a3 : Ar) (a4 : Int32) (p1 : Int32) (rr : Int32) (hf : f_X4_firmnessOf a0 a1 a2 a3 a4 p1 = some rr) : Met l yX4_firmnessOf ws_X4_firmnessOf ({ frames := 14, cells := 0, slots := 0, locals := 400 } : Room) (va_Pc [.ref (oa 0), .int p1] (pP (dC, dI) dA gz (wX4 dA oa (a0, a1, a2, a3, a4)) sz)) (va_Qi (S := Unit) (fun r' _ => r' = rr) (fun _ t => pQ (dC, dI) (va_A (wX4 dA oa (a0, a1, a2, a3, a4)) sz) (wX4 dA oa (a0, a1, a2, a3, a4)) t) (va_A (wX4 dA oa (a0, a1, a2, a3, a4)) sz)) 0 0 (va_A (wX4 dA oa (a0, a1, a2, a3, a4)) sz) := by
  refine Met.ofW (cc := cX4_firmnessOf) (maxL := 2) (ret := (some .int)) (by decide) rfl ?_
  intro p e s m args below meth c s₁ B hml hv
  obtain ⟨rfl, hsz, hP, hK, hD0, hN, hZ⟩ := hv
  have hx := B.exec
  have hb := B.bytes
  have hr := B.returns
  have hts := atoms_spec (ws := ws_X4_firmnessOf) B.pre
  have hown : s.vm.findClass RX4 = some m.cls := findClass_of_methodNamed B.named
  have hlocks := B.notSynchronized
  subst hsz
  have hD := hD0.self (sz := s.heap.size)
  generalize hAe : va_A (wX4 dA oa (a0, a1, a2, a3, a4)) s.heap.size = A at hD hZ ⊢
  have hA : ∀ q : Nat, s.heap.size ≤ q → A q := fun q h => by rw [← hAe]; exact Or.inr h
  have hS : va_S A s.heap s.heap [] := va_S.rf
  have hP : va_P (dC, dI) vwCl [(oa 0, .inr (8, [.ref (oa 1), .ref (oa 2), .ref (oa 3), .ref (oa 4), .int a4])), (oa 1, .inl (dA 1, 12, .inl a0)), (oa 2, .inl (dA 1, 12, .inl a1)), (oa 3, .inl (dA 1, 12, .inl a2)), (oa 4, .inl (dA 1, 12, .inl a3))] s.heap := hP
  have hD : va_D A [(oa 0, .inr (8, [.ref (oa 1), .ref (oa 2), .ref (oa 3), .ref (oa 4), .int a4])), (oa 1, .inl (dA 1, 12, .inl a0)), (oa 2, .inl (dA 1, 12, .inl a1)), (oa 3, .inl (dA 1, 12, .inl a2)), (oa 4, .inl (dA 1, 12, .inl a3))] := hD
  have hl := lv_entry [.ref (oa 0), .int p1] (n := 2) (Nat.le_of_ble_eq_true rfl)
  rw [lg_entry_eq]
  generalize (lg_sl [.ref (oa 0), .int p1] ++ List.replicate (2 - (lg_sl [.ref (oa 0), .int p1]).length) Slot.unset).toArray = ls at hl ⊢
  have hl : lv_has ls 2 [(0, .ref (oa 0)), (1, .int p1)] := hl
  have in_X4 : ∀ w ∈ wsX40, w ∈ ws_X4_firmnessOf := fun w h => bg _ (inB_X4 w h)
  rw [f_X4_firmnessOf] at hf
  refine lv_aload_n hx hb dX4_firmnessOf_0 rfl (lv_at hl 0 rfl) ?_
  refine lv_iload_n hx hb dX4_firmnessOf_1 rfl (lv_at hl 1 rfl) ?_
  obtain ⟨r2, e1, hf⟩ := bd hf
  refine jr_i (va_runV (As := [.int p1]) (rest := []) ⟨hx, hb, hml, hown, hts⟩ (m_X4_has l dC dI dA gz oa s.heap.size a0 a1 a2 a3 a4 p1 r2 e1) (cwV 1 hts (gi_v bg wd_748 wd_741 wd_742 wd_5 wd_743) rfl rfl rfl hd_X4_has ⟨Nat.le_of_ble_eq_true rfl, Nat.le_of_ble_eq_true rfl⟩) ⟨pP_blind, va_recv (ci := 8) (q0 := 0) hK hP rfl rfl, pP_pre hP hD hS hA hK hN hZ [0, 1, 2, 3, 4] (by decide) rfl⟩ rfl rfl hl.1 rfl (lv_room (Nat.le_of_ble_eq_true rfl)) dX4_firmnessOf_2 ⟨Nat.le_of_ble_eq_true rfl, Nat.le_of_ble_eq_true rfl⟩) hP hD hS hA [0, 1, 2, 3, 4] rfl (fun H locs hP hS => ?_)
  refine lv_if_eq (tgt := 27) hx hb dX4_firmnessOf_5 (by decide) (fun q3 => ?_) (fun q3 => ?_)
  · have hf := it q3 hf
    refine lv_iconst (v := 0) hx hb dX4_firmnessOf_27 (by decide) ?_
    exact W.iret hx hb hr (fun t ht hW => ⟨⟨_, (), rfl, sm hf, by rw [ht]; exact hP, hD⟩, hS.F ht⟩) hS.2.2 dX4_firmnessOf_28
  · have hf := ie q3 hf
    refine lv_aload_n hx hb dX4_firmnessOf_8 rfl (lv_at hl 0 rfl) ?_
    refine va_get (D := (dC, dI)) (ci := 8) (v := .ref (oa 3)) (C := RX4) (T := TX4) (N := 5) hx hb hts in_X4 hown hK hP 0 rfl rfl 2 (by decide) (hts _ (bg _ wd_123)) (fun _ h9 => h9) rfl dX4_firmnessOf_9 ?_
    refine lv_iload_n hx hb dX4_firmnessOf_12 rfl (lv_at hl 1 rfl) ?_
    obtain ⟨z4, hf⟩ := gd hf
    refine va_iald hx hb hK hP 3 1 rfl rfl z4 dX4_firmnessOf_13 ?_
    refine lv_bipush (v := 15) hx hb dX4_firmnessOf_14 (by decide) ?_
    refine lv_aload_n hx hb dX4_firmnessOf_16 rfl (lv_at hl 0 rfl) ?_
    refine va_get (D := (dC, dI)) (ci := 8) (v := .ref (oa 4)) (C := RX4) (T := TX4) (N := 5) hx hb hts in_X4 hown hK hP 0 rfl rfl 3 (by decide) (hts _ (bg _ wd_125)) (fun _ h9 => h9) rfl dX4_firmnessOf_17 ?_
    refine lv_iload_n hx hb dX4_firmnessOf_20 rfl (lv_at hl 1 rfl) ?_
    obtain ⟨z5, hf⟩ := gd hf
    refine va_iald hx hb hK hP 4 1 rfl rfl z5 dX4_firmnessOf_21 ?_
    refine lv_imul hx hb dX4_firmnessOf_22 ?_
    refine lv_isub hx hb dX4_firmnessOf_23 ?_
    refine lv_goto (tgt := 28) hx hb dX4_firmnessOf_24 (by decide) ?_
    exact W.iret hx hb hr (fun t ht hW => ⟨⟨_, (), rfl, sm hf, by rw [ht]; exact hP, hD⟩, hS.F ht⟩) hS.2.2 dX4_firmnessOf_28
/-! X4_hasCool -/
def f_X4_hasCool (a0 : Ar) (a1 : Ar) (a2 : Ar) (a3 : Ar) (a4 : Int32) (p1 : Int32) : Option (Int32) :=
  (f_X4_has a0 a1 a2 a3 a4 p1).bind fun r2 =>
  (if r2 = 0 then some 0 else
  if p1 < 0 ∨ 12 ≤ p1.toNatClampNeg then none else
  (if 30 < (a1 p1.toNatClampNeg) then some 0 else
  some 1))
set_option maxRecDepth 100000 in
set_option maxHeartbeats 4000000 in
theorem m_X4_hasCool (l : Launch) (dC : Nat → ClassId) (dI : Nat → Nat → Nat) (dA gz : Nat → Nat) (oa : Nat → Nat) (sz : Nat) (a0 : Ar) (a1 : Ar) (a2 : Ar) (a3 : Ar) (a4 : Int32) (p1 : Int32) (rr : Int32) (hf : f_X4_hasCool a0 a1 a2 a3 a4 p1 = some rr) : Met l yX4_hasCool ws_X4_hasCool ({ frames := 14, cells := 0, slots := 0, locals := 400 } : Room) (va_Pc [.ref (oa 0), .int p1] (pP (dC, dI) dA gz (wX4 dA oa (a0, a1, a2, a3, a4)) sz)) (va_Qi (S := Unit) (fun r' _ => r' = rr) (fun _ t => pQ (dC, dI) (va_A (wX4 dA oa (a0, a1, a2, a3, a4)) sz) (wX4 dA oa (a0, a1, a2, a3, a4)) t) (va_A (wX4 dA oa (a0, a1, a2, a3, a4)) sz)) 0 0 (va_A (wX4 dA oa (a0, a1, a2, a3, a4)) sz) := by
  refine Met.ofW (cc := cX4_hasCool) (maxL := 2) (ret := (some .boolean)) (by decide) rfl ?_
  intro p e s m args below meth c s₁ B hml hv
  obtain ⟨rfl, hsz, hP, hK, hD0, hN, hZ⟩ := hv
  have hx := B.exec
  have hb := B.bytes
  have hr := B.returns
  have hts := atoms_spec (ws := ws_X4_hasCool) B.pre
  have hown : s.vm.findClass RX4 = some m.cls := findClass_of_methodNamed B.named
  have hlocks := B.notSynchronized
  subst hsz
  have hD := hD0.self (sz := s.heap.size)
  generalize hAe : va_A (wX4 dA oa (a0, a1, a2, a3, a4)) s.heap.size = A at hD hZ ⊢
  have hA : ∀ q : Nat, s.heap.size ≤ q → A q := fun q h => by rw [← hAe]; exact Or.inr h
  have hS : va_S A s.heap s.heap [] := va_S.rf
  have hP : va_P (dC, dI) vwCl [(oa 0, .inr (8, [.ref (oa 1), .ref (oa 2), .ref (oa 3), .ref (oa 4), .int a4])), (oa 1, .inl (dA 1, 12, .inl a0)), (oa 2, .inl (dA 1, 12, .inl a1)), (oa 3, .inl (dA 1, 12, .inl a2)), (oa 4, .inl (dA 1, 12, .inl a3))] s.heap := hP
  have hD : va_D A [(oa 0, .inr (8, [.ref (oa 1), .ref (oa 2), .ref (oa 3), .ref (oa 4), .int a4])), (oa 1, .inl (dA 1, 12, .inl a0)), (oa 2, .inl (dA 1, 12, .inl a1)), (oa 3, .inl (dA 1, 12, .inl a2)), (oa 4, .inl (dA 1, 12, .inl a3))] := hD
  have hl := lv_entry [.ref (oa 0), .int p1] (n := 2) (Nat.le_of_ble_eq_true rfl)
  rw [lg_entry_eq]
  generalize (lg_sl [.ref (oa 0), .int p1] ++ List.replicate (2 - (lg_sl [.ref (oa 0), .int p1]).length) Slot.unset).toArray = ls at hl ⊢
  have hl : lv_has ls 2 [(0, .ref (oa 0)), (1, .int p1)] := hl
  have in_X4 : ∀ w ∈ wsX40, w ∈ ws_X4_hasCool := fun w h => bg _ (inB_X4 w h)
  rw [f_X4_hasCool] at hf
  refine lv_aload_n hx hb dX4_hasCool_0 rfl (lv_at hl 0 rfl) ?_
  refine lv_iload_n hx hb dX4_hasCool_1 rfl (lv_at hl 1 rfl) ?_
  obtain ⟨r2, e1, hf⟩ := bd hf
  refine jr_i (va_runV (As := [.int p1]) (rest := []) ⟨hx, hb, hml, hown, hts⟩ (m_X4_has l dC dI dA gz oa s.heap.size a0 a1 a2 a3 a4 p1 r2 e1) (cwV 1 hts (gi_v bg wd_748 wd_741 wd_742 wd_5 wd_743) rfl rfl rfl hd_X4_has ⟨Nat.le_of_ble_eq_true rfl, Nat.le_of_ble_eq_true rfl⟩) ⟨pP_blind, va_recv (ci := 8) (q0 := 0) hK hP rfl rfl, pP_pre hP hD hS hA hK hN hZ [0, 1, 2, 3, 4] (by decide) rfl⟩ rfl rfl hl.1 rfl (lv_room (Nat.le_of_ble_eq_true rfl)) dX4_hasCool_2 ⟨Nat.le_of_ble_eq_true rfl, Nat.le_of_ble_eq_true rfl⟩) hP hD hS hA [0, 1, 2, 3, 4] rfl (fun H locs hP hS => ?_)
  refine lv_if_eq (tgt := 23) hx hb dX4_hasCool_5 (by decide) (fun q3 => ?_) (fun q3 => ?_)
  · have hf := it q3 hf
    refine lv_iconst (v := 0) hx hb dX4_hasCool_23 (by decide) ?_
    exact W.zret hx hb hr rfl (fun t ht hW => ⟨⟨_, (), rfl, sm hf, by rw [ht]; exact hP, hD⟩, hS.F ht⟩) hS.2.2 dX4_hasCool_24
  · have hf := ie q3 hf
    refine lv_aload_n hx hb dX4_hasCool_8 rfl (lv_at hl 0 rfl) ?_
    refine va_get (D := (dC, dI)) (ci := 8) (v := .ref (oa 2)) (C := RX4) (T := TX4) (N := 5) hx hb hts in_X4 hown hK hP 0 rfl rfl 1 (by decide) (hts _ (bg _ wd_121)) (fun _ h9 => h9) rfl dX4_hasCool_9 ?_
    refine lv_iload_n hx hb dX4_hasCool_12 rfl (lv_at hl 1 rfl) ?_
    obtain ⟨z4, hf⟩ := gd hf
    refine va_iald hx hb hK hP 2 1 rfl rfl z4 dX4_hasCool_13 ?_
    refine lv_bipush (v := 30) hx hb dX4_hasCool_14 (by decide) ?_
    refine lv_icmp_gt (tgt := 23) hx hb dX4_hasCool_16 (by decide) (fun q5 => ?_) (fun q5 => ?_)
    · have hf := it q5 hf
      refine lv_iconst (v := 0) hx hb dX4_hasCool_23 (by decide) ?_
      exact W.zret hx hb hr rfl (fun t ht hW => ⟨⟨_, (), rfl, sm hf, by rw [ht]; exact hP, hD⟩, hS.F ht⟩) hS.2.2 dX4_hasCool_24
    · have hf := ie q5 hf
      refine lv_iconst (v := 1) hx hb dX4_hasCool_19 (by decide) ?_
      refine lv_goto (tgt := 24) hx hb dX4_hasCool_20 (by decide) ?_
      exact W.zret hx hb hr rfl (fun t ht hW => ⟨⟨_, (), rfl, sm hf, by rw [ht]; exact hP, hD⟩, hS.F ht⟩) hS.2.2 dX4_hasCool_24
/-! X4_gradeOf -/
def f_X4_gradeOf (a0 : Ar) (a1 : Ar) (a2 : Ar) (a3 : Ar) (a4 : Int32) (p1 : Int32) : Option (Int32) :=
  (f_X4_firmnessOf a0 a1 a2 a3 a4 p1).bind fun r2 =>
  (if r2 < 80 then (if r2 < 60 then (if r2 < 40 then (if r2 < 20 then some 4 else
  some 3) else
  some 2) else
  some 1) else
  some 0)
set_option maxRecDepth 100000 in
set_option maxHeartbeats 4000000 in
theorem m_X4_gradeOf (l : Launch) (dC : Nat → ClassId) (dI : Nat → Nat → Nat) (dA gz : Nat → Nat) (oa : Nat → Nat) (sz : Nat) (a0 : Ar) (a1 : Ar) (a2 : Ar) (a3 : Ar) (a4 : Int32) (p1 : Int32) (rr : Int32) (hf : f_X4_gradeOf a0 a1 a2 a3 a4 p1 = some rr) : Met l yX4_gradeOf ws_X4_gradeOf ({ frames := 18, cells := 0, slots := 0, locals := 600 } : Room) (va_Pc [.ref (oa 0), .int p1] (pP (dC, dI) dA gz (wX4 dA oa (a0, a1, a2, a3, a4)) sz)) (va_Qi (S := Unit) (fun r' _ => r' = rr) (fun _ t => pQ (dC, dI) (va_A (wX4 dA oa (a0, a1, a2, a3, a4)) sz) (wX4 dA oa (a0, a1, a2, a3, a4)) t) (va_A (wX4 dA oa (a0, a1, a2, a3, a4)) sz)) 0 0 (va_A (wX4 dA oa (a0, a1, a2, a3, a4)) sz) := by
  refine Met.ofW (cc := cX4_gradeOf) (maxL := 3) (ret := (some .int)) (by decide) rfl ?_
  intro p e s m args below meth c s₁ B hml hv
  obtain ⟨rfl, hsz, hP, hK, hD0, hN, hZ⟩ := hv
  have hx := B.exec
  have hb := B.bytes
  have hr := B.returns
  have hts := atoms_spec (ws := ws_X4_gradeOf) B.pre
  have hown : s.vm.findClass RX4 = some m.cls := findClass_of_methodNamed B.named
  have hlocks := B.notSynchronized
  subst hsz
  have hD := hD0.self (sz := s.heap.size)
  generalize hAe : va_A (wX4 dA oa (a0, a1, a2, a3, a4)) s.heap.size = A at hD hZ ⊢
  have hA : ∀ q : Nat, s.heap.size ≤ q → A q := fun q h => by rw [← hAe]; exact Or.inr h
  have hS : va_S A s.heap s.heap [] := va_S.rf
  have hP : va_P (dC, dI) vwCl [(oa 0, .inr (8, [.ref (oa 1), .ref (oa 2), .ref (oa 3), .ref (oa 4), .int a4])), (oa 1, .inl (dA 1, 12, .inl a0)), (oa 2, .inl (dA 1, 12, .inl a1)), (oa 3, .inl (dA 1, 12, .inl a2)), (oa 4, .inl (dA 1, 12, .inl a3))] s.heap := hP
  have hD : va_D A [(oa 0, .inr (8, [.ref (oa 1), .ref (oa 2), .ref (oa 3), .ref (oa 4), .int a4])), (oa 1, .inl (dA 1, 12, .inl a0)), (oa 2, .inl (dA 1, 12, .inl a1)), (oa 3, .inl (dA 1, 12, .inl a2)), (oa 4, .inl (dA 1, 12, .inl a3))] := hD
  have hl := lv_entry [.ref (oa 0), .int p1] (n := 3) (Nat.le_of_ble_eq_true rfl)
  rw [lg_entry_eq]
  generalize (lg_sl [.ref (oa 0), .int p1] ++ List.replicate (3 - (lg_sl [.ref (oa 0), .int p1]).length) Slot.unset).toArray = ls at hl ⊢
  have hl : lv_has ls 3 [(0, .ref (oa 0)), (1, .int p1)] := hl
  rw [f_X4_gradeOf] at hf
  refine lv_aload_n hx hb dX4_gradeOf_0 rfl (lv_at hl 0 rfl) ?_
  refine lv_iload_n hx hb dX4_gradeOf_1 rfl (lv_at hl 1 rfl) ?_
  obtain ⟨r2, e1, hf⟩ := bd hf
  refine jr_i (va_runV (As := [.int p1]) (rest := []) ⟨hx, hb, hml, hown, hts⟩ (m_X4_firmnessOf l dC dI dA gz oa s.heap.size a0 a1 a2 a3 a4 p1 r2 e1) (cwV 1 hts (gi_v bg wd_778 wd_779 wd_780 wd_5 wd_781) rfl rfl rfl hd_X4_firmnessOf ⟨Nat.le_of_ble_eq_true rfl, Nat.le_of_ble_eq_true rfl⟩) ⟨pP_blind, va_recv (ci := 8) (q0 := 0) hK hP rfl rfl, pP_pre hP hD hS hA hK hN hZ [0, 1, 2, 3, 4] (by decide) rfl⟩ rfl rfl hl.1 rfl (lv_room (Nat.le_of_ble_eq_true rfl)) dX4_gradeOf_2 ⟨Nat.le_of_ble_eq_true rfl, Nat.le_of_ble_eq_true rfl⟩) hP hD hS hA [0, 1, 2, 3, 4] rfl (fun H locs hP hS => ?_)
  refine lv_istore_n (lv' := [(2, .int r2), (0, .ref (oa 0)), (1, .int p1)]) hx hb dX4_gradeOf_5 rfl hl (by decide) rfl (fun ls hl => ?_)
  refine lv_iload_n hx hb dX4_gradeOf_6 rfl (lv_at hl 0 rfl) ?_
  refine lv_bipush (v := 80) hx hb dX4_gradeOf_7 (by decide) ?_
  refine lv_icmp_lt (tgt := 14) hx hb dX4_gradeOf_9 (by decide) (fun q3 => ?_) (fun q3 => ?_)
  · have hf := it q3 hf
    refine lv_iload_n hx hb dX4_gradeOf_14 rfl (lv_at hl 0 rfl) ?_
    refine lv_bipush (v := 60) hx hb dX4_gradeOf_15 (by decide) ?_
    refine lv_icmp_lt (tgt := 22) hx hb dX4_gradeOf_17 (by decide) (fun q4 => ?_) (fun q4 => ?_)
    · have hf := it q4 hf
      refine lv_iload_n hx hb dX4_gradeOf_22 rfl (lv_at hl 0 rfl) ?_
      refine lv_bipush (v := 40) hx hb dX4_gradeOf_23 (by decide) ?_
      refine lv_icmp_lt (tgt := 30) hx hb dX4_gradeOf_25 (by decide) (fun q5 => ?_) (fun q5 => ?_)
      · have hf := it q5 hf
        refine lv_iload_n hx hb dX4_gradeOf_30 rfl (lv_at hl 0 rfl) ?_
        refine lv_bipush (v := 20) hx hb dX4_gradeOf_31 (by decide) ?_
        refine lv_icmp_lt (tgt := 40) hx hb dX4_gradeOf_33 (by decide) (fun q6 => ?_) (fun q6 => ?_)
        · have hf := it q6 hf
          refine lv_iconst (v := 4) hx hb dX4_gradeOf_40 (by decide) ?_
          exact W.iret hx hb hr (fun t ht hW => ⟨⟨_, (), rfl, sm hf, by rw [ht]; exact hP, hD⟩, hS.F ht⟩) hS.2.2 dX4_gradeOf_41
        · have hf := ie q6 hf
          refine lv_iconst (v := 3) hx hb dX4_gradeOf_36 (by decide) ?_
          refine lv_goto (tgt := 41) hx hb dX4_gradeOf_37 (by decide) ?_
          exact W.iret hx hb hr (fun t ht hW => ⟨⟨_, (), rfl, sm hf, by rw [ht]; exact hP, hD⟩, hS.F ht⟩) hS.2.2 dX4_gradeOf_41
      · have hf := ie q5 hf
        refine lv_iconst (v := 2) hx hb dX4_gradeOf_28 (by decide) ?_
        exact W.iret hx hb hr (fun t ht hW => ⟨⟨_, (), rfl, sm hf, by rw [ht]; exact hP, hD⟩, hS.F ht⟩) hS.2.2 dX4_gradeOf_29
    · have hf := ie q4 hf
      refine lv_iconst (v := 1) hx hb dX4_gradeOf_20 (by decide) ?_
      exact W.iret hx hb hr (fun t ht hW => ⟨⟨_, (), rfl, sm hf, by rw [ht]; exact hP, hD⟩, hS.F ht⟩) hS.2.2 dX4_gradeOf_21
  · have hf := ie q3 hf
    refine lv_iconst (v := 0) hx hb dX4_gradeOf_12 (by decide) ?_
    exact W.iret hx hb hr (fun t ht hW => ⟨⟨_, (), rfl, sm hf, by rw [ht]; exact hP, hD⟩, hS.F ht⟩) hS.2.2 dX4_gradeOf_13
/-! X4_append -/
def f_X4_append (a0 : Ar) (a1 : Ar) (a2 : Ar) (a3 : Ar) (a4 : Int32) (p1 : Int32) (p2 : Int32) (p3 : Int32) (p4 : Int32) : Option (SX4) :=
  (if 12 ≤ a4 then some (a0, a1, a2, a3, a4) else
  if a4 < 0 ∨ 12 ≤ a4.toNatClampNeg then none else
  if a4 < 0 ∨ 12 ≤ a4.toNatClampNeg then none else
  if a4 < 0 ∨ 12 ≤ a4.toNatClampNeg then none else
  if a4 < 0 ∨ 12 ≤ a4.toNatClampNeg then none else
  some ((upd a0 a4.toNatClampNeg p1), (upd a1 a4.toNatClampNeg p2), (upd a2 a4.toNatClampNeg p3), (upd a3 a4.toNatClampNeg p4), (a4 + 1)))
set_option maxRecDepth 100000 in
set_option maxHeartbeats 4000000 in
theorem m_X4_append (l : Launch) (dC : Nat → ClassId) (dI : Nat → Nat → Nat) (dA gz : Nat → Nat) (oa : Nat → Nat) (sz : Nat) (a0 : Ar) (a1 : Ar) (a2 : Ar) (a3 : Ar) (a4 : Int32) (p1 : Int32) (p2 : Int32) (p3 : Int32) (p4 : Int32) (uu : SX4) (hf : f_X4_append a0 a1 a2 a3 a4 p1 p2 p3 p4 = some uu) : Met l yX4_append ws_X4_append ({ frames := 10, cells := 0, slots := 0, locals := 200 } : Room) (va_Pc [.ref (oa 0), .int p1, .int p2, .int p3, .int p4] (pP (dC, dI) dA gz (wX4 dA oa (a0, a1, a2, a3, a4)) sz)) (va_Qv (S := Unit) (fun _ => True) (fun _ t => pQ (dC, dI) (va_A (wX4 dA oa (a0, a1, a2, a3, a4)) sz) (wX4 dA oa uu) t) (va_A (wX4 dA oa (a0, a1, a2, a3, a4)) sz)) 0 0 (va_A (wX4 dA oa (a0, a1, a2, a3, a4)) sz) := by
  refine Met.ofW (cc := cX4_append) (maxL := 5) (ret := none) (by decide) rfl ?_
  intro p e s m args below meth c s₁ B hml hv
  obtain ⟨rfl, hsz, hP, hK, hD0, hN, hZ⟩ := hv
  have hx := B.exec
  have hb := B.bytes
  have hr := B.returns
  have hts := atoms_spec (ws := ws_X4_append) B.pre
  have hown : s.vm.findClass RX4 = some m.cls := findClass_of_methodNamed B.named
  have hlocks := B.notSynchronized
  subst hsz
  have hD := hD0.self (sz := s.heap.size)
  generalize hAe : va_A (wX4 dA oa (a0, a1, a2, a3, a4)) s.heap.size = A at hD hZ ⊢
  have hA : ∀ q : Nat, s.heap.size ≤ q → A q := fun q h => by rw [← hAe]; exact Or.inr h
  have hS : va_S A s.heap s.heap [] := va_S.rf
  have hP : va_P (dC, dI) vwCl [(oa 0, .inr (8, [.ref (oa 1), .ref (oa 2), .ref (oa 3), .ref (oa 4), .int a4])), (oa 1, .inl (dA 1, 12, .inl a0)), (oa 2, .inl (dA 1, 12, .inl a1)), (oa 3, .inl (dA 1, 12, .inl a2)), (oa 4, .inl (dA 1, 12, .inl a3))] s.heap := hP
  have hD : va_D A [(oa 0, .inr (8, [.ref (oa 1), .ref (oa 2), .ref (oa 3), .ref (oa 4), .int a4])), (oa 1, .inl (dA 1, 12, .inl a0)), (oa 2, .inl (dA 1, 12, .inl a1)), (oa 3, .inl (dA 1, 12, .inl a2)), (oa 4, .inl (dA 1, 12, .inl a3))] := hD
  have hl := lv_entry [.ref (oa 0), .int p1, .int p2, .int p3, .int p4] (n := 5) (Nat.le_of_ble_eq_true rfl)
  rw [lg_entry_eq]
  generalize (lg_sl [.ref (oa 0), .int p1, .int p2, .int p3, .int p4] ++ List.replicate (5 - (lg_sl [.ref (oa 0), .int p1, .int p2, .int p3, .int p4]).length) Slot.unset).toArray = ls at hl ⊢
  have hl : lv_has ls 5 [(0, .ref (oa 0)), (1, .int p1), (2, .int p2), (3, .int p3), (4, .int p4)] := hl
  have in_X4 : ∀ w ∈ wsX40, w ∈ ws_X4_append := fun w h => bg _ (inB_X4 w h)
  rw [f_X4_append] at hf
  refine lv_aload_n hx hb dX4_append_0 rfl (lv_at hl 0 rfl) ?_
  refine va_get (D := (dC, dI)) (ci := 8) (v := .int a4) (C := RX4) (T := TX4) (N := 5) hx hb hts in_X4 hown hK hP 0 rfl rfl 4 (by decide) (hts _ (bg _ wd_127)) (fun _ h9 => h9) rfl dX4_append_1 ?_
  refine lv_bipush (v := 12) hx hb dX4_append_4 (by decide) ?_
  refine lv_icmp_ge (tgt := 60) hx hb dX4_append_6 (by decide) (fun q1 => ?_) (fun q1 => ?_)
  · have hf := it q1 hf
    have e9 := sm hf
    exact W.vret hx hb hr (fun t ht hW => ⟨⟨(), rfl, trivial, by rw [← e9, ht]; exact hP, by rw [← e9]; exact hD⟩, hS.F ht⟩) hS.2.2 dX4_append_60
  · have hf := ie q1 hf
    refine lv_aload_n hx hb dX4_append_9 rfl (lv_at hl 0 rfl) ?_
    refine va_get (D := (dC, dI)) (ci := 8) (v := .ref (oa 1)) (C := RX4) (T := TX4) (N := 5) hx hb hts in_X4 hown hK hP 0 rfl rfl 0 (by decide) (hts _ (bg _ wd_119)) (fun _ h9 => h9) rfl dX4_append_10 ?_
    refine lv_aload_n hx hb dX4_append_13 rfl (lv_at hl 0 rfl) ?_
    refine va_get (D := (dC, dI)) (ci := 8) (v := .int a4) (C := RX4) (T := TX4) (N := 5) hx hb hts in_X4 hown hK hP 0 rfl rfl 4 (by decide) (hts _ (bg _ wd_127)) (fun _ h9 => h9) rfl dX4_append_14 ?_
    refine lv_iload_n hx hb dX4_append_17 rfl (lv_at hl 1 rfl) ?_
    obtain ⟨z2, hf⟩ := gd hf
    refine va_iast hx hb hK hP hD hS 1 1 rfl rfl z2 dX4_append_18 (fun H locs hP hD hS => ?_)
    have hP : va_P (dC, dI) vwCl [(oa 0, .inr (8, [.ref (oa 1), .ref (oa 2), .ref (oa 3), .ref (oa 4), .int a4])), (oa 1, .inl (dA 1, 12, .inl (upd a0 a4.toNatClampNeg p1))), (oa 2, .inl (dA 1, 12, .inl a1)), (oa 3, .inl (dA 1, 12, .inl a2)), (oa 4, .inl (dA 1, 12, .inl a3))] H := hP
    have hD : va_D A [(oa 0, .inr (8, [.ref (oa 1), .ref (oa 2), .ref (oa 3), .ref (oa 4), .int a4])), (oa 1, .inl (dA 1, 12, .inl (upd a0 a4.toNatClampNeg p1))), (oa 2, .inl (dA 1, 12, .inl a1)), (oa 3, .inl (dA 1, 12, .inl a2)), (oa 4, .inl (dA 1, 12, .inl a3))] := hD
    refine lv_aload_n hx hb dX4_append_19 rfl (lv_at hl 0 rfl) ?_
    refine va_get (D := (dC, dI)) (ci := 8) (v := .ref (oa 2)) (C := RX4) (T := TX4) (N := 5) hx hb hts in_X4 hown hK hP 0 rfl rfl 1 (by decide) (hts _ (bg _ wd_121)) (fun _ h9 => h9) rfl dX4_append_20 ?_
    refine lv_aload_n hx hb dX4_append_23 rfl (lv_at hl 0 rfl) ?_
    refine va_get (D := (dC, dI)) (ci := 8) (v := .int a4) (C := RX4) (T := TX4) (N := 5) hx hb hts in_X4 hown hK hP 0 rfl rfl 4 (by decide) (hts _ (bg _ wd_127)) (fun _ h9 => h9) rfl dX4_append_24 ?_
    refine lv_iload_n hx hb dX4_append_27 rfl (lv_at hl 2 rfl) ?_
    obtain ⟨z3, hf⟩ := gd hf
    refine va_iast hx hb hK hP hD hS 2 1 rfl rfl z3 dX4_append_28 (fun H locs hP hD hS => ?_)
    have hP : va_P (dC, dI) vwCl [(oa 0, .inr (8, [.ref (oa 1), .ref (oa 2), .ref (oa 3), .ref (oa 4), .int a4])), (oa 1, .inl (dA 1, 12, .inl (upd a0 a4.toNatClampNeg p1))), (oa 2, .inl (dA 1, 12, .inl (upd a1 a4.toNatClampNeg p2))), (oa 3, .inl (dA 1, 12, .inl a2)), (oa 4, .inl (dA 1, 12, .inl a3))] H := hP
    have hD : va_D A [(oa 0, .inr (8, [.ref (oa 1), .ref (oa 2), .ref (oa 3), .ref (oa 4), .int a4])), (oa 1, .inl (dA 1, 12, .inl (upd a0 a4.toNatClampNeg p1))), (oa 2, .inl (dA 1, 12, .inl (upd a1 a4.toNatClampNeg p2))), (oa 3, .inl (dA 1, 12, .inl a2)), (oa 4, .inl (dA 1, 12, .inl a3))] := hD
    refine lv_aload_n hx hb dX4_append_29 rfl (lv_at hl 0 rfl) ?_
    refine va_get (D := (dC, dI)) (ci := 8) (v := .ref (oa 3)) (C := RX4) (T := TX4) (N := 5) hx hb hts in_X4 hown hK hP 0 rfl rfl 2 (by decide) (hts _ (bg _ wd_123)) (fun _ h9 => h9) rfl dX4_append_30 ?_
    refine lv_aload_n hx hb dX4_append_33 rfl (lv_at hl 0 rfl) ?_
    refine va_get (D := (dC, dI)) (ci := 8) (v := .int a4) (C := RX4) (T := TX4) (N := 5) hx hb hts in_X4 hown hK hP 0 rfl rfl 4 (by decide) (hts _ (bg _ wd_127)) (fun _ h9 => h9) rfl dX4_append_34 ?_
    refine lv_iload_n hx hb dX4_append_37 rfl (lv_at hl 3 rfl) ?_
    obtain ⟨z4, hf⟩ := gd hf
    refine va_iast hx hb hK hP hD hS 3 1 rfl rfl z4 dX4_append_38 (fun H locs hP hD hS => ?_)
    have hP : va_P (dC, dI) vwCl [(oa 0, .inr (8, [.ref (oa 1), .ref (oa 2), .ref (oa 3), .ref (oa 4), .int a4])), (oa 1, .inl (dA 1, 12, .inl (upd a0 a4.toNatClampNeg p1))), (oa 2, .inl (dA 1, 12, .inl (upd a1 a4.toNatClampNeg p2))), (oa 3, .inl (dA 1, 12, .inl (upd a2 a4.toNatClampNeg p3))), (oa 4, .inl (dA 1, 12, .inl a3))] H := hP
    have hD : va_D A [(oa 0, .inr (8, [.ref (oa 1), .ref (oa 2), .ref (oa 3), .ref (oa 4), .int a4])), (oa 1, .inl (dA 1, 12, .inl (upd a0 a4.toNatClampNeg p1))), (oa 2, .inl (dA 1, 12, .inl (upd a1 a4.toNatClampNeg p2))), (oa 3, .inl (dA 1, 12, .inl (upd a2 a4.toNatClampNeg p3))), (oa 4, .inl (dA 1, 12, .inl a3))] := hD
    refine lv_aload_n hx hb dX4_append_39 rfl (lv_at hl 0 rfl) ?_
    refine va_get (D := (dC, dI)) (ci := 8) (v := .ref (oa 4)) (C := RX4) (T := TX4) (N := 5) hx hb hts in_X4 hown hK hP 0 rfl rfl 3 (by decide) (hts _ (bg _ wd_125)) (fun _ h9 => h9) rfl dX4_append_40 ?_
    refine lv_aload_n hx hb dX4_append_43 rfl (lv_at hl 0 rfl) ?_
    refine va_get (D := (dC, dI)) (ci := 8) (v := .int a4) (C := RX4) (T := TX4) (N := 5) hx hb hts in_X4 hown hK hP 0 rfl rfl 4 (by decide) (hts _ (bg _ wd_127)) (fun _ h9 => h9) rfl dX4_append_44 ?_
    refine lv_iload hx hb dX4_append_47 (lv_at hl 4 rfl) ?_
    obtain ⟨z5, hf⟩ := gd hf
    refine va_iast hx hb hK hP hD hS 4 1 rfl rfl z5 dX4_append_49 (fun H locs hP hD hS => ?_)
    have hP : va_P (dC, dI) vwCl [(oa 0, .inr (8, [.ref (oa 1), .ref (oa 2), .ref (oa 3), .ref (oa 4), .int a4])), (oa 1, .inl (dA 1, 12, .inl (upd a0 a4.toNatClampNeg p1))), (oa 2, .inl (dA 1, 12, .inl (upd a1 a4.toNatClampNeg p2))), (oa 3, .inl (dA 1, 12, .inl (upd a2 a4.toNatClampNeg p3))), (oa 4, .inl (dA 1, 12, .inl (upd a3 a4.toNatClampNeg p4)))] H := hP
    have hD : va_D A [(oa 0, .inr (8, [.ref (oa 1), .ref (oa 2), .ref (oa 3), .ref (oa 4), .int a4])), (oa 1, .inl (dA 1, 12, .inl (upd a0 a4.toNatClampNeg p1))), (oa 2, .inl (dA 1, 12, .inl (upd a1 a4.toNatClampNeg p2))), (oa 3, .inl (dA 1, 12, .inl (upd a2 a4.toNatClampNeg p3))), (oa 4, .inl (dA 1, 12, .inl (upd a3 a4.toNatClampNeg p4)))] := hD
    refine lv_aload_n hx hb dX4_append_50 rfl (lv_at hl 0 rfl) ?_
    refine lv_dup hx hb dX4_append_51 rfl ?_
    refine va_get (D := (dC, dI)) (ci := 8) (v := .int a4) (C := RX4) (T := TX4) (N := 5) hx hb hts in_X4 hown hK hP 0 rfl rfl 4 (by decide) (hts _ (bg _ wd_127)) (fun _ h9 => h9) rfl dX4_append_52 ?_
    refine lv_iconst (v := 1) hx hb dX4_append_55 (by decide) ?_
    refine lv_iadd hx hb dX4_append_56 ?_
    refine va_put (D := (dC, dI)) (ci := 8) (v := .int (a4 + 1)) (ty := .int) (C := RX4) (T := TX4) (N := 5) hx hb hts in_X4 tyX4 tyX4_ok nmX4 hown hK hP hD hS 0 rfl rfl 4 (by decide) (hts _ (bg _ wd_127)) (fun _ h9 => h9) rfl (by decide +kernel) rfl rfl (Nat.le_of_ble_eq_true rfl) dX4_append_57 (fun H locs hP hD hS => ?_)
    have hP : va_P (dC, dI) vwCl [(oa 0, .inr (8, [.ref (oa 1), .ref (oa 2), .ref (oa 3), .ref (oa 4), .int (a4 + 1)])), (oa 1, .inl (dA 1, 12, .inl (upd a0 a4.toNatClampNeg p1))), (oa 2, .inl (dA 1, 12, .inl (upd a1 a4.toNatClampNeg p2))), (oa 3, .inl (dA 1, 12, .inl (upd a2 a4.toNatClampNeg p3))), (oa 4, .inl (dA 1, 12, .inl (upd a3 a4.toNatClampNeg p4)))] H := hP
    have hD : va_D A [(oa 0, .inr (8, [.ref (oa 1), .ref (oa 2), .ref (oa 3), .ref (oa 4), .int (a4 + 1)])), (oa 1, .inl (dA 1, 12, .inl (upd a0 a4.toNatClampNeg p1))), (oa 2, .inl (dA 1, 12, .inl (upd a1 a4.toNatClampNeg p2))), (oa 3, .inl (dA 1, 12, .inl (upd a2 a4.toNatClampNeg p3))), (oa 4, .inl (dA 1, 12, .inl (upd a3 a4.toNatClampNeg p4)))] := hD
    have e9 := sm hf
    exact W.vret hx hb hr (fun t ht hW => ⟨⟨(), rfl, trivial, by rw [← e9, ht]; exact hP, by rw [← e9]; exact hD⟩, hS.F ht⟩) hS.2.2 dX4_append_60
/-! X4_remove -/
def f_X4_remove_10 (p1 : Int32) : Nat → Int32 → Ar → Ar → Ar → Ar → Int32 →  Option (SX4)
  | 0, _, _, _, _, _, _ => none
  | n + 1, x2, m0, m1, m2, m3, m4 =>
  (if m4 ≤ (x2 + 1) then some (m0, m1, m2, m3, (m4 - 1)) else
  if (x2 + 1) < 0 ∨ 12 ≤ (x2 + 1).toNatClampNeg then none else
  if x2 < 0 ∨ 12 ≤ x2.toNatClampNeg then none else
  if (x2 + 1) < 0 ∨ 12 ≤ (x2 + 1).toNatClampNeg then none else
  if x2 < 0 ∨ 12 ≤ x2.toNatClampNeg then none else
  if (x2 + 1) < 0 ∨ 12 ≤ (x2 + 1).toNatClampNeg then none else
  if x2 < 0 ∨ 12 ≤ x2.toNatClampNeg then none else
  if (x2 + 1) < 0 ∨ 12 ≤ (x2 + 1).toNatClampNeg then none else
  if x2 < 0 ∨ 12 ≤ x2.toNatClampNeg then none else
  f_X4_remove_10 p1 n (x2 + 1) (upd m0 x2.toNatClampNeg (m0 (x2 + 1).toNatClampNeg)) (upd m1 x2.toNatClampNeg (m1 (x2 + 1).toNatClampNeg)) (upd m2 x2.toNatClampNeg (m2 (x2 + 1).toNatClampNeg)) (upd m3 x2.toNatClampNeg (m3 (x2 + 1).toNatClampNeg)) m4)
def f_X4_remove (a0 : Ar) (a1 : Ar) (a2 : Ar) (a3 : Ar) (a4 : Int32) (p1 : Int32) : Option (SX4) :=
  (f_X4_has a0 a1 a2 a3 a4 p1).bind fun r11 =>
  (if r11 = 0 then some (a0, a1, a2, a3, a4) else
  f_X4_remove_10 p1 300 p1 a0 a1 a2 a3 a4)
set_option maxRecDepth 100000 in
set_option maxHeartbeats 4000000 in
theorem m_X4_remove (l : Launch) (dC : Nat → ClassId) (dI : Nat → Nat → Nat) (dA gz : Nat → Nat) (oa : Nat → Nat) (sz : Nat) (a0 : Ar) (a1 : Ar) (a2 : Ar) (a3 : Ar) (a4 : Int32) (p1 : Int32) (uu : SX4) (hf : f_X4_remove a0 a1 a2 a3 a4 p1 = some uu) : Met l yX4_remove ws_X4_remove ({ frames := 14, cells := 0, slots := 0, locals := 400 } : Room) (va_Pc [.ref (oa 0), .int p1] (pP (dC, dI) dA gz (wX4 dA oa (a0, a1, a2, a3, a4)) sz)) (va_Qv (S := Unit) (fun _ => True) (fun _ t => pQ (dC, dI) (va_A (wX4 dA oa (a0, a1, a2, a3, a4)) sz) (wX4 dA oa uu) t) (va_A (wX4 dA oa (a0, a1, a2, a3, a4)) sz)) 0 0 (va_A (wX4 dA oa (a0, a1, a2, a3, a4)) sz) := by
  refine Met.ofW (cc := cX4_remove) (maxL := 3) (ret := none) (by decide) rfl ?_
  intro p e s m args below meth c s₁ B hml hv
  obtain ⟨rfl, hsz, hP, hK, hD0, hN, hZ⟩ := hv
  have hx := B.exec
  have hb := B.bytes
  have hr := B.returns
  have hts := atoms_spec (ws := ws_X4_remove) B.pre
  have hown : s.vm.findClass RX4 = some m.cls := findClass_of_methodNamed B.named
  have hlocks := B.notSynchronized
  subst hsz
  have hD := hD0.self (sz := s.heap.size)
  generalize hAe : va_A (wX4 dA oa (a0, a1, a2, a3, a4)) s.heap.size = A at hD hZ ⊢
  have hA : ∀ q : Nat, s.heap.size ≤ q → A q := fun q h => by rw [← hAe]; exact Or.inr h
  have hS : va_S A s.heap s.heap [] := va_S.rf
  have hP : va_P (dC, dI) vwCl [(oa 0, .inr (8, [.ref (oa 1), .ref (oa 2), .ref (oa 3), .ref (oa 4), .int a4])), (oa 1, .inl (dA 1, 12, .inl a0)), (oa 2, .inl (dA 1, 12, .inl a1)), (oa 3, .inl (dA 1, 12, .inl a2)), (oa 4, .inl (dA 1, 12, .inl a3))] s.heap := hP
  have hD : va_D A [(oa 0, .inr (8, [.ref (oa 1), .ref (oa 2), .ref (oa 3), .ref (oa 4), .int a4])), (oa 1, .inl (dA 1, 12, .inl a0)), (oa 2, .inl (dA 1, 12, .inl a1)), (oa 3, .inl (dA 1, 12, .inl a2)), (oa 4, .inl (dA 1, 12, .inl a3))] := hD
  have hl := lv_entry [.ref (oa 0), .int p1] (n := 3) (Nat.le_of_ble_eq_true rfl)
  rw [lg_entry_eq]
  generalize (lg_sl [.ref (oa 0), .int p1] ++ List.replicate (3 - (lg_sl [.ref (oa 0), .int p1]).length) Slot.unset).toArray = ls at hl ⊢
  have hl : lv_has ls 3 [(0, .ref (oa 0)), (1, .int p1)] := hl
  have in_X4 : ∀ w ∈ wsX40, w ∈ ws_X4_remove := fun w h => bg _ (inB_X4 w h)
  have cut10 : ∀ (n : Nat) (x2 : Int32) (m0 : Ar) (m1 : Ar) (m2 : Ar) (m3 : Ar) (m4 : Int32) (H : Heap) (locs : List Loc) (ls : Array Slot), f_X4_remove_10 p1 n x2 m0 m1 m2 m3 m4 = some uu → va_P (dC, dI) vwCl [(oa 0, .inr (8, [.ref (oa 1), .ref (oa 2), .ref (oa 3), .ref (oa 4), .int m4])), (oa 1, .inl (dA 1, 12, .inl m0)), (oa 2, .inl (dA 1, 12, .inl m1)), (oa 3, .inl (dA 1, 12, .inl m2)), (oa 4, .inl (dA 1, 12, .inl m3))] H → va_D A [(oa 0, .inr (8, [.ref (oa 1), .ref (oa 2), .ref (oa 3), .ref (oa 4), .int m4])), (oa 1, .inl (dA 1, 12, .inl m0)), (oa 2, .inl (dA 1, 12, .inl m1)), (oa 3, .inl (dA 1, 12, .inl m2)), (oa 4, .inl (dA 1, 12, .inl m3))] → va_S A s.heap H locs → lv_has ls 3 [(0, .ref (oa 0)), (2, .int x2)] → W p l e (headSpec ws_X4_remove ({ frames := 14, cells := 0, slots := 0, locals := 400 } : Room)).room s m ([.ref (oa 0), .int p1] : List Value).toArray below meth c H locs 0 0 (MQ below (va_Qv (S := Unit) (fun _ => True) (fun _ t => pQ (dC, dI) A (wX4 dA oa uu) t) A) ([.ref (oa 0), .int p1] : List Value).toArray s 0 0 A) (F0 m 10 ls []) := by
    intro n
    induction n with
    | zero =>
      intro x2 m0 m1 m2 m3 m4 H locs ls hf
      rw [f_X4_remove_10] at hf
      cases hf
    | succ n ih =>
      intro x2 m0 m1 m2 m3 m4 H locs ls hf hP hD hS hl
      rw [f_X4_remove_10] at hf
      refine lv_iload_n hx hb dX4_remove_10 rfl (lv_at hl 1 rfl) ?_
      refine lv_iconst (v := 1) hx hb dX4_remove_11 (by decide) ?_
      refine lv_iadd hx hb dX4_remove_12 ?_
      refine lv_aload_n hx hb dX4_remove_13 rfl (lv_at hl 0 rfl) ?_
      refine va_get (D := (dC, dI)) (ci := 8) (v := .int m4) (C := RX4) (T := TX4) (N := 5) hx hb hts in_X4 hown hK hP 0 rfl rfl 4 (by decide) (hts _ (bg _ wd_127)) (fun _ h9 => h9) rfl dX4_remove_14 ?_
      refine lv_icmp_ge (tgt := 82) hx hb dX4_remove_17 (by decide) (fun q1 => ?_) (fun q1 => ?_)
      · have hf := it q1 hf
        refine lv_aload_n hx hb dX4_remove_82 rfl (lv_at hl 0 rfl) ?_
        refine lv_dup hx hb dX4_remove_83 rfl ?_
        refine va_get (D := (dC, dI)) (ci := 8) (v := .int m4) (C := RX4) (T := TX4) (N := 5) hx hb hts in_X4 hown hK hP 0 rfl rfl 4 (by decide) (hts _ (bg _ wd_127)) (fun _ h9 => h9) rfl dX4_remove_84 ?_
        refine lv_iconst (v := 1) hx hb dX4_remove_87 (by decide) ?_
        refine lv_isub hx hb dX4_remove_88 ?_
        refine va_put (D := (dC, dI)) (ci := 8) (v := .int (m4 - 1)) (ty := .int) (C := RX4) (T := TX4) (N := 5) hx hb hts in_X4 tyX4 tyX4_ok nmX4 hown hK hP hD hS 0 rfl rfl 4 (by decide) (hts _ (bg _ wd_127)) (fun _ h9 => h9) rfl (by decide +kernel) rfl rfl (Nat.le_of_ble_eq_true rfl) dX4_remove_89 (fun H locs hP hD hS => ?_)
        have hP : va_P (dC, dI) vwCl [(oa 0, .inr (8, [.ref (oa 1), .ref (oa 2), .ref (oa 3), .ref (oa 4), .int (m4 - 1)])), (oa 1, .inl (dA 1, 12, .inl m0)), (oa 2, .inl (dA 1, 12, .inl m1)), (oa 3, .inl (dA 1, 12, .inl m2)), (oa 4, .inl (dA 1, 12, .inl m3))] H := hP
        have hD : va_D A [(oa 0, .inr (8, [.ref (oa 1), .ref (oa 2), .ref (oa 3), .ref (oa 4), .int (m4 - 1)])), (oa 1, .inl (dA 1, 12, .inl m0)), (oa 2, .inl (dA 1, 12, .inl m1)), (oa 3, .inl (dA 1, 12, .inl m2)), (oa 4, .inl (dA 1, 12, .inl m3))] := hD
        have e9 := sm hf
        exact W.vret hx hb hr (fun t ht hW => ⟨⟨(), rfl, trivial, by rw [← e9, ht]; exact hP, by rw [← e9]; exact hD⟩, hS.F ht⟩) hS.2.2 dX4_remove_92
      · have hf := ie q1 hf
        refine lv_aload_n hx hb dX4_remove_20 rfl (lv_at hl 0 rfl) ?_
        refine va_get (D := (dC, dI)) (ci := 8) (v := .ref (oa 1)) (C := RX4) (T := TX4) (N := 5) hx hb hts in_X4 hown hK hP 0 rfl rfl 0 (by decide) (hts _ (bg _ wd_119)) (fun _ h9 => h9) rfl dX4_remove_21 ?_
        refine lv_iload_n hx hb dX4_remove_24 rfl (lv_at hl 1 rfl) ?_
        refine lv_aload_n hx hb dX4_remove_25 rfl (lv_at hl 0 rfl) ?_
        refine va_get (D := (dC, dI)) (ci := 8) (v := .ref (oa 1)) (C := RX4) (T := TX4) (N := 5) hx hb hts in_X4 hown hK hP 0 rfl rfl 0 (by decide) (hts _ (bg _ wd_119)) (fun _ h9 => h9) rfl dX4_remove_26 ?_
        refine lv_iload_n hx hb dX4_remove_29 rfl (lv_at hl 1 rfl) ?_
        refine lv_iconst (v := 1) hx hb dX4_remove_30 (by decide) ?_
        refine lv_iadd hx hb dX4_remove_31 ?_
        obtain ⟨z2, hf⟩ := gd hf
        refine va_iald hx hb hK hP 1 1 rfl rfl z2 dX4_remove_32 ?_
        obtain ⟨z3, hf⟩ := gd hf
        refine va_iast hx hb hK hP hD hS 1 1 rfl rfl z3 dX4_remove_33 (fun H locs hP hD hS => ?_)
        have hP : va_P (dC, dI) vwCl [(oa 0, .inr (8, [.ref (oa 1), .ref (oa 2), .ref (oa 3), .ref (oa 4), .int m4])), (oa 1, .inl (dA 1, 12, .inl (upd m0 x2.toNatClampNeg (m0 (x2 + 1).toNatClampNeg)))), (oa 2, .inl (dA 1, 12, .inl m1)), (oa 3, .inl (dA 1, 12, .inl m2)), (oa 4, .inl (dA 1, 12, .inl m3))] H := hP
        have hD : va_D A [(oa 0, .inr (8, [.ref (oa 1), .ref (oa 2), .ref (oa 3), .ref (oa 4), .int m4])), (oa 1, .inl (dA 1, 12, .inl (upd m0 x2.toNatClampNeg (m0 (x2 + 1).toNatClampNeg)))), (oa 2, .inl (dA 1, 12, .inl m1)), (oa 3, .inl (dA 1, 12, .inl m2)), (oa 4, .inl (dA 1, 12, .inl m3))] := hD
        refine lv_aload_n hx hb dX4_remove_34 rfl (lv_at hl 0 rfl) ?_
        refine va_get (D := (dC, dI)) (ci := 8) (v := .ref (oa 2)) (C := RX4) (T := TX4) (N := 5) hx hb hts in_X4 hown hK hP 0 rfl rfl 1 (by decide) (hts _ (bg _ wd_121)) (fun _ h9 => h9) rfl dX4_remove_35 ?_
        refine lv_iload_n hx hb dX4_remove_38 rfl (lv_at hl 1 rfl) ?_
        refine lv_aload_n hx hb dX4_remove_39 rfl (lv_at hl 0 rfl) ?_
        refine va_get (D := (dC, dI)) (ci := 8) (v := .ref (oa 2)) (C := RX4) (T := TX4) (N := 5) hx hb hts in_X4 hown hK hP 0 rfl rfl 1 (by decide) (hts _ (bg _ wd_121)) (fun _ h9 => h9) rfl dX4_remove_40 ?_
        refine lv_iload_n hx hb dX4_remove_43 rfl (lv_at hl 1 rfl) ?_
        refine lv_iconst (v := 1) hx hb dX4_remove_44 (by decide) ?_
        refine lv_iadd hx hb dX4_remove_45 ?_
        obtain ⟨z4, hf⟩ := gd hf
        refine va_iald hx hb hK hP 2 1 rfl rfl z4 dX4_remove_46 ?_
        obtain ⟨z5, hf⟩ := gd hf
        refine va_iast hx hb hK hP hD hS 2 1 rfl rfl z5 dX4_remove_47 (fun H locs hP hD hS => ?_)
        have hP : va_P (dC, dI) vwCl [(oa 0, .inr (8, [.ref (oa 1), .ref (oa 2), .ref (oa 3), .ref (oa 4), .int m4])), (oa 1, .inl (dA 1, 12, .inl (upd m0 x2.toNatClampNeg (m0 (x2 + 1).toNatClampNeg)))), (oa 2, .inl (dA 1, 12, .inl (upd m1 x2.toNatClampNeg (m1 (x2 + 1).toNatClampNeg)))), (oa 3, .inl (dA 1, 12, .inl m2)), (oa 4, .inl (dA 1, 12, .inl m3))] H := hP
        have hD : va_D A [(oa 0, .inr (8, [.ref (oa 1), .ref (oa 2), .ref (oa 3), .ref (oa 4), .int m4])), (oa 1, .inl (dA 1, 12, .inl (upd m0 x2.toNatClampNeg (m0 (x2 + 1).toNatClampNeg)))), (oa 2, .inl (dA 1, 12, .inl (upd m1 x2.toNatClampNeg (m1 (x2 + 1).toNatClampNeg)))), (oa 3, .inl (dA 1, 12, .inl m2)), (oa 4, .inl (dA 1, 12, .inl m3))] := hD
        refine lv_aload_n hx hb dX4_remove_48 rfl (lv_at hl 0 rfl) ?_
        refine va_get (D := (dC, dI)) (ci := 8) (v := .ref (oa 3)) (C := RX4) (T := TX4) (N := 5) hx hb hts in_X4 hown hK hP 0 rfl rfl 2 (by decide) (hts _ (bg _ wd_123)) (fun _ h9 => h9) rfl dX4_remove_49 ?_
        refine lv_iload_n hx hb dX4_remove_52 rfl (lv_at hl 1 rfl) ?_
        refine lv_aload_n hx hb dX4_remove_53 rfl (lv_at hl 0 rfl) ?_
        refine va_get (D := (dC, dI)) (ci := 8) (v := .ref (oa 3)) (C := RX4) (T := TX4) (N := 5) hx hb hts in_X4 hown hK hP 0 rfl rfl 2 (by decide) (hts _ (bg _ wd_123)) (fun _ h9 => h9) rfl dX4_remove_54 ?_
        refine lv_iload_n hx hb dX4_remove_57 rfl (lv_at hl 1 rfl) ?_
        refine lv_iconst (v := 1) hx hb dX4_remove_58 (by decide) ?_
        refine lv_iadd hx hb dX4_remove_59 ?_
        obtain ⟨z6, hf⟩ := gd hf
        refine va_iald hx hb hK hP 3 1 rfl rfl z6 dX4_remove_60 ?_
        obtain ⟨z7, hf⟩ := gd hf
        refine va_iast hx hb hK hP hD hS 3 1 rfl rfl z7 dX4_remove_61 (fun H locs hP hD hS => ?_)
        have hP : va_P (dC, dI) vwCl [(oa 0, .inr (8, [.ref (oa 1), .ref (oa 2), .ref (oa 3), .ref (oa 4), .int m4])), (oa 1, .inl (dA 1, 12, .inl (upd m0 x2.toNatClampNeg (m0 (x2 + 1).toNatClampNeg)))), (oa 2, .inl (dA 1, 12, .inl (upd m1 x2.toNatClampNeg (m1 (x2 + 1).toNatClampNeg)))), (oa 3, .inl (dA 1, 12, .inl (upd m2 x2.toNatClampNeg (m2 (x2 + 1).toNatClampNeg)))), (oa 4, .inl (dA 1, 12, .inl m3))] H := hP
        have hD : va_D A [(oa 0, .inr (8, [.ref (oa 1), .ref (oa 2), .ref (oa 3), .ref (oa 4), .int m4])), (oa 1, .inl (dA 1, 12, .inl (upd m0 x2.toNatClampNeg (m0 (x2 + 1).toNatClampNeg)))), (oa 2, .inl (dA 1, 12, .inl (upd m1 x2.toNatClampNeg (m1 (x2 + 1).toNatClampNeg)))), (oa 3, .inl (dA 1, 12, .inl (upd m2 x2.toNatClampNeg (m2 (x2 + 1).toNatClampNeg)))), (oa 4, .inl (dA 1, 12, .inl m3))] := hD
        refine lv_aload_n hx hb dX4_remove_62 rfl (lv_at hl 0 rfl) ?_
        refine va_get (D := (dC, dI)) (ci := 8) (v := .ref (oa 4)) (C := RX4) (T := TX4) (N := 5) hx hb hts in_X4 hown hK hP 0 rfl rfl 3 (by decide) (hts _ (bg _ wd_125)) (fun _ h9 => h9) rfl dX4_remove_63 ?_
        refine lv_iload_n hx hb dX4_remove_66 rfl (lv_at hl 1 rfl) ?_
        refine lv_aload_n hx hb dX4_remove_67 rfl (lv_at hl 0 rfl) ?_
        refine va_get (D := (dC, dI)) (ci := 8) (v := .ref (oa 4)) (C := RX4) (T := TX4) (N := 5) hx hb hts in_X4 hown hK hP 0 rfl rfl 3 (by decide) (hts _ (bg _ wd_125)) (fun _ h9 => h9) rfl dX4_remove_68 ?_
        refine lv_iload_n hx hb dX4_remove_71 rfl (lv_at hl 1 rfl) ?_
        refine lv_iconst (v := 1) hx hb dX4_remove_72 (by decide) ?_
        refine lv_iadd hx hb dX4_remove_73 ?_
        obtain ⟨z8, hf⟩ := gd hf
        refine va_iald hx hb hK hP 4 1 rfl rfl z8 dX4_remove_74 ?_
        obtain ⟨z9, hf⟩ := gd hf
        refine va_iast hx hb hK hP hD hS 4 1 rfl rfl z9 dX4_remove_75 (fun H locs hP hD hS => ?_)
        have hP : va_P (dC, dI) vwCl [(oa 0, .inr (8, [.ref (oa 1), .ref (oa 2), .ref (oa 3), .ref (oa 4), .int m4])), (oa 1, .inl (dA 1, 12, .inl (upd m0 x2.toNatClampNeg (m0 (x2 + 1).toNatClampNeg)))), (oa 2, .inl (dA 1, 12, .inl (upd m1 x2.toNatClampNeg (m1 (x2 + 1).toNatClampNeg)))), (oa 3, .inl (dA 1, 12, .inl (upd m2 x2.toNatClampNeg (m2 (x2 + 1).toNatClampNeg)))), (oa 4, .inl (dA 1, 12, .inl (upd m3 x2.toNatClampNeg (m3 (x2 + 1).toNatClampNeg))))] H := hP
        have hD : va_D A [(oa 0, .inr (8, [.ref (oa 1), .ref (oa 2), .ref (oa 3), .ref (oa 4), .int m4])), (oa 1, .inl (dA 1, 12, .inl (upd m0 x2.toNatClampNeg (m0 (x2 + 1).toNatClampNeg)))), (oa 2, .inl (dA 1, 12, .inl (upd m1 x2.toNatClampNeg (m1 (x2 + 1).toNatClampNeg)))), (oa 3, .inl (dA 1, 12, .inl (upd m2 x2.toNatClampNeg (m2 (x2 + 1).toNatClampNeg)))), (oa 4, .inl (dA 1, 12, .inl (upd m3 x2.toNatClampNeg (m3 (x2 + 1).toNatClampNeg))))] := hD
        refine lv_iinc (v := (x2 + 1)) (lv' := [(2, .int (x2 + 1)), (0, .ref (oa 0))]) hx hb dX4_remove_76 hl (k := 1) rfl rfl (by decide) rfl (fun ls hl => ?_)
        refine lv_goto (tgt := 10) hx hb dX4_remove_79 (by decide) ?_
        exact ih (x2 + 1) (upd m0 x2.toNatClampNeg (m0 (x2 + 1).toNatClampNeg)) (upd m1 x2.toNatClampNeg (m1 (x2 + 1).toNatClampNeg)) (upd m2 x2.toNatClampNeg (m2 (x2 + 1).toNatClampNeg)) (upd m3 x2.toNatClampNeg (m3 (x2 + 1).toNatClampNeg)) m4 _ _ _ hf hP hD hS (lv_sub hl [1, 0] rfl)
  rw [f_X4_remove] at hf
  refine lv_aload_n hx hb dX4_remove_0 rfl (lv_at hl 0 rfl) ?_
  refine lv_iload_n hx hb dX4_remove_1 rfl (lv_at hl 1 rfl) ?_
  obtain ⟨r11, e10, hf⟩ := bd hf
  refine jr_i (va_runV (As := [.int p1]) (rest := []) ⟨hx, hb, hml, hown, hts⟩ (m_X4_has l dC dI dA gz oa s.heap.size a0 a1 a2 a3 a4 p1 r11 e10) (cwV 1 hts (gi_v bg wd_748 wd_741 wd_742 wd_5 wd_743) rfl rfl rfl hd_X4_has ⟨Nat.le_of_ble_eq_true rfl, Nat.le_of_ble_eq_true rfl⟩) ⟨pP_blind, va_recv (ci := 8) (q0 := 0) hK hP rfl rfl, pP_pre hP hD hS hA hK hN hZ [0, 1, 2, 3, 4] (by decide) rfl⟩ rfl rfl hl.1 rfl (lv_room (Nat.le_of_ble_eq_true rfl)) dX4_remove_2 ⟨Nat.le_of_ble_eq_true rfl, Nat.le_of_ble_eq_true rfl⟩) hP hD hS hA [0, 1, 2, 3, 4] rfl (fun H locs hP hS => ?_)
  refine lv_if_eq (tgt := 92) hx hb dX4_remove_5 (by decide) (fun q12 => ?_) (fun q12 => ?_)
  · have hf := it q12 hf
    have e9 := sm hf
    exact W.vret hx hb hr (fun t ht hW => ⟨⟨(), rfl, trivial, by rw [← e9, ht]; exact hP, by rw [← e9]; exact hD⟩, hS.F ht⟩) hS.2.2 dX4_remove_92
  · have hf := ie q12 hf
    refine lv_iload_n hx hb dX4_remove_8 rfl (lv_at hl 1 rfl) ?_
    refine lv_istore_n (lv' := [(2, .int p1), (0, .ref (oa 0)), (1, .int p1)]) hx hb dX4_remove_9 rfl hl (by decide) rfl (fun ls hl => ?_)
    exact cut10 300 p1 a0 a1 a2 a3 a4 _ _ _ hf hP hD hS (lv_sub hl [1, 0] rfl)
/-! X4_coolDown -/
def f_X4_coolDown_2  : Nat → Int32 → Ar → Ar → Ar → Ar → Int32 →  Option (SX4)
  | 0, _, _, _, _, _, _ => none
  | n + 1, x1, m0, m1, m2, m3, m4 =>
  (if m4 ≤ x1 then some (m0, m1, m2, m3, m4) else
  if x1 < 0 ∨ 12 ≤ x1.toNatClampNeg then none else
  (if (m1 x1.toNatClampNeg) ≤ 20 then f_X4_coolDown_2 n (x1 + 1) m0 m1 m2 m3 m4 else
  if x1 < 0 ∨ 12 ≤ x1.toNatClampNeg then none else
  if x1 < 0 ∨ 12 ≤ x1.toNatClampNeg then none else
  f_X4_coolDown_2 n (x1 + 1) m0 (upd m1 x1.toNatClampNeg (if 20 < ((m1 x1.toNatClampNeg) - 5) then ((m1 x1.toNatClampNeg) - 5) else 20)) m2 m3 m4))
def f_X4_coolDown (a0 : Ar) (a1 : Ar) (a2 : Ar) (a3 : Ar) (a4 : Int32) : Option (SX4) :=
  f_X4_coolDown_2 300 0 a0 a1 a2 a3 a4
set_option maxRecDepth 100000 in
set_option maxHeartbeats 4000000 in
theorem m_X4_coolDown (l : Launch) (dC : Nat → ClassId) (dI : Nat → Nat → Nat) (dA gz : Nat → Nat) (oa : Nat → Nat) (sz : Nat) (a0 : Ar) (a1 : Ar) (a2 : Ar) (a3 : Ar) (a4 : Int32) (uu : SX4) (hf : f_X4_coolDown a0 a1 a2 a3 a4 = some uu) : Met l yX4_coolDown ws_X4_coolDown ({ frames := 10, cells := 0, slots := 0, locals := 200 } : Room) (va_Pc [.ref (oa 0)] (pP (dC, dI) dA gz (wX4 dA oa (a0, a1, a2, a3, a4)) sz)) (va_Qv (S := Unit) (fun _ => True) (fun _ t => pQ (dC, dI) (va_A (wX4 dA oa (a0, a1, a2, a3, a4)) sz) (wX4 dA oa uu) t) (va_A (wX4 dA oa (a0, a1, a2, a3, a4)) sz)) 0 0 (va_A (wX4 dA oa (a0, a1, a2, a3, a4)) sz) := by
  refine Met.ofW (cc := cX4_coolDown) (maxL := 2) (ret := none) (by decide) rfl ?_
  intro p e s m args below meth c s₁ B hml hv
  obtain ⟨rfl, hsz, hP, hK, hD0, hN, hZ⟩ := hv
  have hx := B.exec
  have hb := B.bytes
  have hr := B.returns
  have hts := atoms_spec (ws := ws_X4_coolDown) B.pre
  have hown : s.vm.findClass RX4 = some m.cls := findClass_of_methodNamed B.named
  have hlocks := B.notSynchronized
  subst hsz
  have hD := hD0.self (sz := s.heap.size)
  generalize hAe : va_A (wX4 dA oa (a0, a1, a2, a3, a4)) s.heap.size = A at hD hZ ⊢
  have hA : ∀ q : Nat, s.heap.size ≤ q → A q := fun q h => by rw [← hAe]; exact Or.inr h
  have hS : va_S A s.heap s.heap [] := va_S.rf
  have hP : va_P (dC, dI) vwCl [(oa 0, .inr (8, [.ref (oa 1), .ref (oa 2), .ref (oa 3), .ref (oa 4), .int a4])), (oa 1, .inl (dA 1, 12, .inl a0)), (oa 2, .inl (dA 1, 12, .inl a1)), (oa 3, .inl (dA 1, 12, .inl a2)), (oa 4, .inl (dA 1, 12, .inl a3))] s.heap := hP
  have hD : va_D A [(oa 0, .inr (8, [.ref (oa 1), .ref (oa 2), .ref (oa 3), .ref (oa 4), .int a4])), (oa 1, .inl (dA 1, 12, .inl a0)), (oa 2, .inl (dA 1, 12, .inl a1)), (oa 3, .inl (dA 1, 12, .inl a2)), (oa 4, .inl (dA 1, 12, .inl a3))] := hD
  have hl := lv_entry [.ref (oa 0)] (n := 2) (Nat.le_of_ble_eq_true rfl)
  rw [lg_entry_eq]
  generalize (lg_sl [.ref (oa 0)] ++ List.replicate (2 - (lg_sl [.ref (oa 0)]).length) Slot.unset).toArray = ls at hl ⊢
  have hl : lv_has ls 2 [(0, .ref (oa 0))] := hl
  have in_X4 : ∀ w ∈ wsX40, w ∈ ws_X4_coolDown := fun w h => bg _ (inB_X4 w h)
  have cut2 : ∀ (n : Nat) (x1 : Int32) (m0 : Ar) (m1 : Ar) (m2 : Ar) (m3 : Ar) (m4 : Int32) (H : Heap) (locs : List Loc) (ls : Array Slot), f_X4_coolDown_2 n x1 m0 m1 m2 m3 m4 = some uu → va_P (dC, dI) vwCl [(oa 0, .inr (8, [.ref (oa 1), .ref (oa 2), .ref (oa 3), .ref (oa 4), .int m4])), (oa 1, .inl (dA 1, 12, .inl m0)), (oa 2, .inl (dA 1, 12, .inl m1)), (oa 3, .inl (dA 1, 12, .inl m2)), (oa 4, .inl (dA 1, 12, .inl m3))] H → va_D A [(oa 0, .inr (8, [.ref (oa 1), .ref (oa 2), .ref (oa 3), .ref (oa 4), .int m4])), (oa 1, .inl (dA 1, 12, .inl m0)), (oa 2, .inl (dA 1, 12, .inl m1)), (oa 3, .inl (dA 1, 12, .inl m2)), (oa 4, .inl (dA 1, 12, .inl m3))] → va_S A s.heap H locs → lv_has ls 2 [(0, .ref (oa 0)), (1, .int x1)] → W p l e (headSpec ws_X4_coolDown ({ frames := 10, cells := 0, slots := 0, locals := 200 } : Room)).room s m ([.ref (oa 0)] : List Value).toArray below meth c H locs 0 0 (MQ below (va_Qv (S := Unit) (fun _ => True) (fun _ t => pQ (dC, dI) A (wX4 dA oa uu) t) A) ([.ref (oa 0)] : List Value).toArray s 0 0 A) (F0 m 2 ls []) := by
    intro n
    induction n with
    | zero =>
      intro x1 m0 m1 m2 m3 m4 H locs ls hf
      rw [f_X4_coolDown_2] at hf
      cases hf
    | succ n ih =>
      intro x1 m0 m1 m2 m3 m4 H locs ls hf hP hD hS hl
      rw [f_X4_coolDown_2] at hf
      refine lv_iload_n hx hb dX4_coolDown_2 rfl (lv_at hl 1 rfl) ?_
      refine lv_aload_n hx hb dX4_coolDown_3 rfl (lv_at hl 0 rfl) ?_
      refine va_get (D := (dC, dI)) (ci := 8) (v := .int m4) (C := RX4) (T := TX4) (N := 5) hx hb hts in_X4 hown hK hP 0 rfl rfl 4 (by decide) (hts _ (bg _ wd_127)) (fun _ h9 => h9) rfl dX4_coolDown_4 ?_
      refine lv_icmp_ge (tgt := 46) hx hb dX4_coolDown_7 (by decide) (fun q1 => ?_) (fun q1 => ?_)
      · have hf := it q1 hf
        have e9 := sm hf
        exact W.vret hx hb hr (fun t ht hW => ⟨⟨(), rfl, trivial, by rw [← e9, ht]; exact hP, by rw [← e9]; exact hD⟩, hS.F ht⟩) hS.2.2 dX4_coolDown_46
      · have hf := ie q1 hf
        refine lv_aload_n hx hb dX4_coolDown_10 rfl (lv_at hl 0 rfl) ?_
        refine va_get (D := (dC, dI)) (ci := 8) (v := .ref (oa 2)) (C := RX4) (T := TX4) (N := 5) hx hb hts in_X4 hown hK hP 0 rfl rfl 1 (by decide) (hts _ (bg _ wd_121)) (fun _ h9 => h9) rfl dX4_coolDown_11 ?_
        refine lv_iload_n hx hb dX4_coolDown_14 rfl (lv_at hl 1 rfl) ?_
        obtain ⟨z2, hf⟩ := gd hf
        refine va_iald hx hb hK hP 2 1 rfl rfl z2 dX4_coolDown_15 ?_
        refine lv_bipush (v := 20) hx hb dX4_coolDown_16 (by decide) ?_
        refine lv_icmp_le (tgt := 40) hx hb dX4_coolDown_18 (by decide) (fun q3 => ?_) (fun q3 => ?_)
        · have hf := it q3 hf
          refine lv_iinc (v := (x1 + 1)) (lv' := [(1, .int (x1 + 1)), (0, .ref (oa 0))]) hx hb dX4_coolDown_40 hl (k := 1) rfl rfl (by decide) rfl (fun ls hl => ?_)
          refine lv_goto (tgt := 2) hx hb dX4_coolDown_43 (by decide) ?_
          exact ih (x1 + 1) m0 m1 m2 m3 m4 _ _ _ hf hP hD hS (lv_sub hl [1, 0] rfl)
        · have hf := ie q3 hf
          refine lv_aload_n hx hb dX4_coolDown_21 rfl (lv_at hl 0 rfl) ?_
          refine va_get (D := (dC, dI)) (ci := 8) (v := .ref (oa 2)) (C := RX4) (T := TX4) (N := 5) hx hb hts in_X4 hown hK hP 0 rfl rfl 1 (by decide) (hts _ (bg _ wd_121)) (fun _ h9 => h9) rfl dX4_coolDown_22 ?_
          refine lv_iload_n hx hb dX4_coolDown_25 rfl (lv_at hl 1 rfl) ?_
          refine lv_bipush (v := 20) hx hb dX4_coolDown_26 (by decide) ?_
          refine lv_aload_n hx hb dX4_coolDown_28 rfl (lv_at hl 0 rfl) ?_
          refine va_get (D := (dC, dI)) (ci := 8) (v := .ref (oa 2)) (C := RX4) (T := TX4) (N := 5) hx hb hts in_X4 hown hK hP 0 rfl rfl 1 (by decide) (hts _ (bg _ wd_121)) (fun _ h9 => h9) rfl dX4_coolDown_29 ?_
          refine lv_iload_n hx hb dX4_coolDown_32 rfl (lv_at hl 1 rfl) ?_
          obtain ⟨z4, hf⟩ := gd hf
          refine va_iald hx hb hK hP 2 1 rfl rfl z4 dX4_coolDown_33 ?_
          refine lv_iconst (v := 5) hx hb dX4_coolDown_34 (by decide) ?_
          refine lv_isub hx hb dX4_coolDown_35 ?_
          refine va_mmax hx hb (hml.trans hl.1.symm) hown (hts _ (bg _ wd_580)) (hts _ (bg _ wd_561)) (hts _ (bg _ wd_21)) (hts _ (bg _ wd_562)) (Nat.le_of_ble_eq_true rfl) (Nat.le_of_ble_eq_true rfl) (Nat.le_of_ble_eq_true rfl) (Nat.le_of_ble_eq_true rfl) dX4_coolDown_36 ?_
          obtain ⟨z5, hf⟩ := gd hf
          refine va_iast hx hb hK hP hD hS 2 1 rfl rfl z5 dX4_coolDown_39 (fun H locs hP hD hS => ?_)
          have hP : va_P (dC, dI) vwCl [(oa 0, .inr (8, [.ref (oa 1), .ref (oa 2), .ref (oa 3), .ref (oa 4), .int m4])), (oa 1, .inl (dA 1, 12, .inl m0)), (oa 2, .inl (dA 1, 12, .inl (upd m1 x1.toNatClampNeg (if 20 < ((m1 x1.toNatClampNeg) - 5) then ((m1 x1.toNatClampNeg) - 5) else 20)))), (oa 3, .inl (dA 1, 12, .inl m2)), (oa 4, .inl (dA 1, 12, .inl m3))] H := hP
          have hD : va_D A [(oa 0, .inr (8, [.ref (oa 1), .ref (oa 2), .ref (oa 3), .ref (oa 4), .int m4])), (oa 1, .inl (dA 1, 12, .inl m0)), (oa 2, .inl (dA 1, 12, .inl (upd m1 x1.toNatClampNeg (if 20 < ((m1 x1.toNatClampNeg) - 5) then ((m1 x1.toNatClampNeg) - 5) else 20)))), (oa 3, .inl (dA 1, 12, .inl m2)), (oa 4, .inl (dA 1, 12, .inl m3))] := hD
          refine lv_iinc (v := (x1 + 1)) (lv' := [(1, .int (x1 + 1)), (0, .ref (oa 0))]) hx hb dX4_coolDown_40 hl (k := 1) rfl rfl (by decide) rfl (fun ls hl => ?_)
          refine lv_goto (tgt := 2) hx hb dX4_coolDown_43 (by decide) ?_
          exact ih (x1 + 1) m0 (upd m1 x1.toNatClampNeg (if 20 < ((m1 x1.toNatClampNeg) - 5) then ((m1 x1.toNatClampNeg) - 5) else 20)) m2 m3 m4 _ _ _ hf hP hD hS (lv_sub hl [1, 0] rfl)
  rw [f_X4_coolDown] at hf
  refine lv_iconst (v := 0) hx hb dX4_coolDown_0 (by decide) ?_
  refine lv_istore_n (lv' := [(1, .int 0), (0, .ref (oa 0))]) hx hb dX4_coolDown_1 rfl hl (by decide) rfl (fun ls hl => ?_)
  exact cut2 300 0 a0 a1 a2 a3 a4 _ _ _ hf hP hD hS (lv_sub hl [1, 0] rfl)
/-! X4_firmnessOfAll -/
def f_X4_firmnessOfAll_4 (a0 : Ar) (a1 : Ar) (a2 : Ar) (a3 : Ar) (a4 : Int32) : Nat → Int32 → Int32 →  Option (Int32)
  | 0, _, _ => none
  | n + 1, x1, x2 =>
  (if a4 ≤ x2 then some x1 else
  (f_X4_firmnessOf a0 a1 a2 a3 a4 x2).bind fun r3 =>
  f_X4_firmnessOfAll_4 a0 a1 a2 a3 a4 n (x1 + r3) (x2 + 1))
def f_X4_firmnessOfAll (a0 : Ar) (a1 : Ar) (a2 : Ar) (a3 : Ar) (a4 : Int32) : Option (Int32) :=
  f_X4_firmnessOfAll_4 a0 a1 a2 a3 a4 300 0 0
set_option maxRecDepth 100000 in
set_option maxHeartbeats 4000000 in
theorem m_X4_firmnessOfAll (l : Launch) (dC : Nat → ClassId) (dI : Nat → Nat → Nat) (dA gz : Nat → Nat) (oa : Nat → Nat) (sz : Nat) (a0 : Ar) (a1 : Ar) (a2 : Ar) (a3 : Ar) (a4 : Int32) (rr : Int32) (hf : f_X4_firmnessOfAll a0 a1 a2 a3 a4 = some rr) : Met l yX4_firmnessOfAll ws_X4_firmnessOfAll ({ frames := 18, cells := 0, slots := 0, locals := 600 } : Room) (va_Pc [.ref (oa 0)] (pP (dC, dI) dA gz (wX4 dA oa (a0, a1, a2, a3, a4)) sz)) (va_Qi (S := Unit) (fun r' _ => r' = rr) (fun _ t => pQ (dC, dI) (va_A (wX4 dA oa (a0, a1, a2, a3, a4)) sz) (wX4 dA oa (a0, a1, a2, a3, a4)) t) (va_A (wX4 dA oa (a0, a1, a2, a3, a4)) sz)) 0 0 (va_A (wX4 dA oa (a0, a1, a2, a3, a4)) sz) := by
  refine Met.ofW (cc := cX4_firmnessOfAll) (maxL := 3) (ret := (some .int)) (by decide) rfl ?_
  intro p e s m args below meth c s₁ B hml hv
  obtain ⟨rfl, hsz, hP, hK, hD0, hN, hZ⟩ := hv
  have hx := B.exec
  have hb := B.bytes
  have hr := B.returns
  have hts := atoms_spec (ws := ws_X4_firmnessOfAll) B.pre
  have hown : s.vm.findClass RX4 = some m.cls := findClass_of_methodNamed B.named
  have hlocks := B.notSynchronized
  subst hsz
  have hD := hD0.self (sz := s.heap.size)
  generalize hAe : va_A (wX4 dA oa (a0, a1, a2, a3, a4)) s.heap.size = A at hD hZ ⊢
  have hA : ∀ q : Nat, s.heap.size ≤ q → A q := fun q h => by rw [← hAe]; exact Or.inr h
  have hS : va_S A s.heap s.heap [] := va_S.rf
  have hP : va_P (dC, dI) vwCl [(oa 0, .inr (8, [.ref (oa 1), .ref (oa 2), .ref (oa 3), .ref (oa 4), .int a4])), (oa 1, .inl (dA 1, 12, .inl a0)), (oa 2, .inl (dA 1, 12, .inl a1)), (oa 3, .inl (dA 1, 12, .inl a2)), (oa 4, .inl (dA 1, 12, .inl a3))] s.heap := hP
  have hD : va_D A [(oa 0, .inr (8, [.ref (oa 1), .ref (oa 2), .ref (oa 3), .ref (oa 4), .int a4])), (oa 1, .inl (dA 1, 12, .inl a0)), (oa 2, .inl (dA 1, 12, .inl a1)), (oa 3, .inl (dA 1, 12, .inl a2)), (oa 4, .inl (dA 1, 12, .inl a3))] := hD
  have hl := lv_entry [.ref (oa 0)] (n := 3) (Nat.le_of_ble_eq_true rfl)
  rw [lg_entry_eq]
  generalize (lg_sl [.ref (oa 0)] ++ List.replicate (3 - (lg_sl [.ref (oa 0)]).length) Slot.unset).toArray = ls at hl ⊢
  have hl : lv_has ls 3 [(0, .ref (oa 0))] := hl
  have in_X4 : ∀ w ∈ wsX40, w ∈ ws_X4_firmnessOfAll := fun w h => bg _ (inB_X4 w h)
  have cut4 : ∀ (n : Nat) (x1 : Int32) (x2 : Int32) (H : Heap) (locs : List Loc) (ls : Array Slot), f_X4_firmnessOfAll_4 a0 a1 a2 a3 a4 n x1 x2 = some rr → va_P (dC, dI) vwCl [(oa 0, .inr (8, [.ref (oa 1), .ref (oa 2), .ref (oa 3), .ref (oa 4), .int a4])), (oa 1, .inl (dA 1, 12, .inl a0)), (oa 2, .inl (dA 1, 12, .inl a1)), (oa 3, .inl (dA 1, 12, .inl a2)), (oa 4, .inl (dA 1, 12, .inl a3))] H → va_D A [(oa 0, .inr (8, [.ref (oa 1), .ref (oa 2), .ref (oa 3), .ref (oa 4), .int a4])), (oa 1, .inl (dA 1, 12, .inl a0)), (oa 2, .inl (dA 1, 12, .inl a1)), (oa 3, .inl (dA 1, 12, .inl a2)), (oa 4, .inl (dA 1, 12, .inl a3))] → va_S A s.heap H locs → lv_has ls 3 [(0, .ref (oa 0)), (1, .int x1), (2, .int x2)] → W p l e (headSpec ws_X4_firmnessOfAll ({ frames := 18, cells := 0, slots := 0, locals := 600 } : Room)).room s m ([.ref (oa 0)] : List Value).toArray below meth c H locs 0 0 (MQ below (va_Qi (S := Unit) (fun r' _ => r' = rr) (fun _ t => pQ (dC, dI) A (wX4 dA oa (a0, a1, a2, a3, a4)) t) A) ([.ref (oa 0)] : List Value).toArray s 0 0 A) (F0 m 4 ls []) := by
    intro n
    induction n with
    | zero =>
      intro x1 x2 H locs ls hf
      rw [f_X4_firmnessOfAll_4] at hf
      cases hf
    | succ n ih =>
      intro x1 x2 H locs ls hf hP hD hS hl
      rw [f_X4_firmnessOfAll_4] at hf
      refine lv_iload_n hx hb dX4_firmnessOfAll_4 rfl (lv_at hl 2 rfl) ?_
      refine lv_aload_n hx hb dX4_firmnessOfAll_5 rfl (lv_at hl 0 rfl) ?_
      refine va_get (D := (dC, dI)) (ci := 8) (v := .int a4) (C := RX4) (T := TX4) (N := 5) hx hb hts in_X4 hown hK hP 0 rfl rfl 4 (by decide) (hts _ (bg _ wd_127)) (fun _ h9 => h9) rfl dX4_firmnessOfAll_6 ?_
      refine lv_icmp_ge (tgt := 26) hx hb dX4_firmnessOfAll_9 (by decide) (fun q1 => ?_) (fun q1 => ?_)
      · have hf := it q1 hf
        refine lv_iload_n hx hb dX4_firmnessOfAll_26 rfl (lv_at hl 1 rfl) ?_
        exact W.iret hx hb hr (fun t ht hW => ⟨⟨_, (), rfl, sm hf, by rw [ht]; exact hP, hD⟩, hS.F ht⟩) hS.2.2 dX4_firmnessOfAll_27
      · have hf := ie q1 hf
        refine lv_iload_n hx hb dX4_firmnessOfAll_12 rfl (lv_at hl 1 rfl) ?_
        refine lv_aload_n hx hb dX4_firmnessOfAll_13 rfl (lv_at hl 0 rfl) ?_
        refine lv_iload_n hx hb dX4_firmnessOfAll_14 rfl (lv_at hl 2 rfl) ?_
        obtain ⟨r3, e2, hf⟩ := bd hf
        refine jr_i (va_runV (As := [.int x2]) (rest := [.int x1]) ⟨hx, hb, hml, hown, hts⟩ (m_X4_firmnessOf l dC dI dA gz oa H.size a0 a1 a2 a3 a4 x2 r3 e2) (cwV 1 hts (gi_v bg wd_778 wd_779 wd_780 wd_5 wd_781) rfl rfl rfl hd_X4_firmnessOf ⟨Nat.le_of_ble_eq_true rfl, Nat.le_of_ble_eq_true rfl⟩) ⟨pP_blind, va_recv (ci := 8) (q0 := 0) hK hP rfl rfl, pP_pre hP hD hS hA hK hN hZ [0, 1, 2, 3, 4] (by decide) rfl⟩ rfl rfl hl.1 rfl (lv_room (Nat.le_of_ble_eq_true rfl)) dX4_firmnessOfAll_15 ⟨Nat.le_of_ble_eq_true rfl, Nat.le_of_ble_eq_true rfl⟩) hP hD hS hA [0, 1, 2, 3, 4] rfl (fun H locs hP hS => ?_)
        refine lv_iadd hx hb dX4_firmnessOfAll_18 ?_
        refine lv_istore_n (lv' := [(1, .int (x1 + r3)), (0, .ref (oa 0)), (2, .int x2)]) hx hb dX4_firmnessOfAll_19 rfl hl (by decide) rfl (fun ls hl => ?_)
        refine lv_iinc (v := (x2 + 1)) (lv' := [(2, .int (x2 + 1)), (1, .int (x1 + r3)), (0, .ref (oa 0))]) hx hb dX4_firmnessOfAll_20 hl (k := 2) rfl rfl (by decide) rfl (fun ls hl => ?_)
        refine lv_goto (tgt := 4) hx hb dX4_firmnessOfAll_23 (by decide) ?_
        exact ih (x1 + r3) (x2 + 1) _ _ _ hf hP hD hS (lv_sub hl [2, 1, 0] rfl)
  rw [f_X4_firmnessOfAll] at hf
  refine lv_iconst (v := 0) hx hb dX4_firmnessOfAll_0 (by decide) ?_
  refine lv_istore_n (lv' := [(1, .int 0), (0, .ref (oa 0))]) hx hb dX4_firmnessOfAll_1 rfl hl (by decide) rfl (fun ls hl => ?_)
  refine lv_iconst (v := 0) hx hb dX4_firmnessOfAll_2 (by decide) ?_
  refine lv_istore_n (lv' := [(2, .int 0), (1, .int 0), (0, .ref (oa 0))]) hx hb dX4_firmnessOfAll_3 rfl hl (by decide) rfl (fun ls hl => ?_)
  exact cut4 300 0 0 _ _ _ hf hP hD hS (lv_sub hl [2, 1, 0] rfl)
/-! X4_coolOnes -/
def f_X4_coolOnes_4 (a0 : Ar) (a1 : Ar) (a2 : Ar) (a3 : Ar) (a4 : Int32) : Nat → Int32 → Int32 →  Option (Int32)
  | 0, _, _ => none
  | n + 1, x1, x2 =>
  (if a4 ≤ x2 then some x1 else
  (f_X4_hasCool a0 a1 a2 a3 a4 x2).bind fun r3 =>
  (if r3 = 0 then f_X4_coolOnes_4 a0 a1 a2 a3 a4 n x1 (x2 + 1) else
  f_X4_coolOnes_4 a0 a1 a2 a3 a4 n (x1 + 1) (x2 + 1)))
def f_X4_coolOnes (a0 : Ar) (a1 : Ar) (a2 : Ar) (a3 : Ar) (a4 : Int32) : Option (Int32) :=
  f_X4_coolOnes_4 a0 a1 a2 a3 a4 300 0 0
set_option maxRecDepth 100000 in
set_option maxHeartbeats 4000000 in
theorem m_X4_coolOnes (l : Launch) (dC : Nat → ClassId) (dI : Nat → Nat → Nat) (dA gz : Nat → Nat) (oa : Nat → Nat) (sz : Nat) (a0 : Ar) (a1 : Ar) (a2 : Ar) (a3 : Ar) (a4 : Int32) (rr : Int32) (hf : f_X4_coolOnes a0 a1 a2 a3 a4 = some rr) : Met l yX4_coolOnes ws_X4_coolOnes ({ frames := 18, cells := 0, slots := 0, locals := 600 } : Room) (va_Pc [.ref (oa 0)] (pP (dC, dI) dA gz (wX4 dA oa (a0, a1, a2, a3, a4)) sz)) (va_Qi (S := Unit) (fun r' _ => r' = rr) (fun _ t => pQ (dC, dI) (va_A (wX4 dA oa (a0, a1, a2, a3, a4)) sz) (wX4 dA oa (a0, a1, a2, a3, a4)) t) (va_A (wX4 dA oa (a0, a1, a2, a3, a4)) sz)) 0 0 (va_A (wX4 dA oa (a0, a1, a2, a3, a4)) sz) := by
  refine Met.ofW (cc := cX4_coolOnes) (maxL := 3) (ret := (some .int)) (by decide) rfl ?_
  intro p e s m args below meth c s₁ B hml hv
  obtain ⟨rfl, hsz, hP, hK, hD0, hN, hZ⟩ := hv
  have hx := B.exec
  have hb := B.bytes
  have hr := B.returns
  have hts := atoms_spec (ws := ws_X4_coolOnes) B.pre
  have hown : s.vm.findClass RX4 = some m.cls := findClass_of_methodNamed B.named
  have hlocks := B.notSynchronized
  subst hsz
  have hD := hD0.self (sz := s.heap.size)
  generalize hAe : va_A (wX4 dA oa (a0, a1, a2, a3, a4)) s.heap.size = A at hD hZ ⊢
  have hA : ∀ q : Nat, s.heap.size ≤ q → A q := fun q h => by rw [← hAe]; exact Or.inr h
  have hS : va_S A s.heap s.heap [] := va_S.rf
  have hP : va_P (dC, dI) vwCl [(oa 0, .inr (8, [.ref (oa 1), .ref (oa 2), .ref (oa 3), .ref (oa 4), .int a4])), (oa 1, .inl (dA 1, 12, .inl a0)), (oa 2, .inl (dA 1, 12, .inl a1)), (oa 3, .inl (dA 1, 12, .inl a2)), (oa 4, .inl (dA 1, 12, .inl a3))] s.heap := hP
  have hD : va_D A [(oa 0, .inr (8, [.ref (oa 1), .ref (oa 2), .ref (oa 3), .ref (oa 4), .int a4])), (oa 1, .inl (dA 1, 12, .inl a0)), (oa 2, .inl (dA 1, 12, .inl a1)), (oa 3, .inl (dA 1, 12, .inl a2)), (oa 4, .inl (dA 1, 12, .inl a3))] := hD
  have hl := lv_entry [.ref (oa 0)] (n := 3) (Nat.le_of_ble_eq_true rfl)
  rw [lg_entry_eq]
  generalize (lg_sl [.ref (oa 0)] ++ List.replicate (3 - (lg_sl [.ref (oa 0)]).length) Slot.unset).toArray = ls at hl ⊢
  have hl : lv_has ls 3 [(0, .ref (oa 0))] := hl
  have in_X4 : ∀ w ∈ wsX40, w ∈ ws_X4_coolOnes := fun w h => bg _ (inB_X4 w h)
  have cut4 : ∀ (n : Nat) (x1 : Int32) (x2 : Int32) (H : Heap) (locs : List Loc) (ls : Array Slot), f_X4_coolOnes_4 a0 a1 a2 a3 a4 n x1 x2 = some rr → va_P (dC, dI) vwCl [(oa 0, .inr (8, [.ref (oa 1), .ref (oa 2), .ref (oa 3), .ref (oa 4), .int a4])), (oa 1, .inl (dA 1, 12, .inl a0)), (oa 2, .inl (dA 1, 12, .inl a1)), (oa 3, .inl (dA 1, 12, .inl a2)), (oa 4, .inl (dA 1, 12, .inl a3))] H → va_D A [(oa 0, .inr (8, [.ref (oa 1), .ref (oa 2), .ref (oa 3), .ref (oa 4), .int a4])), (oa 1, .inl (dA 1, 12, .inl a0)), (oa 2, .inl (dA 1, 12, .inl a1)), (oa 3, .inl (dA 1, 12, .inl a2)), (oa 4, .inl (dA 1, 12, .inl a3))] → va_S A s.heap H locs → lv_has ls 3 [(0, .ref (oa 0)), (1, .int x1), (2, .int x2)] → W p l e (headSpec ws_X4_coolOnes ({ frames := 18, cells := 0, slots := 0, locals := 600 } : Room)).room s m ([.ref (oa 0)] : List Value).toArray below meth c H locs 0 0 (MQ below (va_Qi (S := Unit) (fun r' _ => r' = rr) (fun _ t => pQ (dC, dI) A (wX4 dA oa (a0, a1, a2, a3, a4)) t) A) ([.ref (oa 0)] : List Value).toArray s 0 0 A) (F0 m 4 ls []) := by
    intro n
    induction n with
    | zero =>
      intro x1 x2 H locs ls hf
      rw [f_X4_coolOnes_4] at hf
      cases hf
    | succ n ih =>
      intro x1 x2 H locs ls hf hP hD hS hl
      rw [f_X4_coolOnes_4] at hf
      refine lv_iload_n hx hb dX4_coolOnes_4 rfl (lv_at hl 2 rfl) ?_
      refine lv_aload_n hx hb dX4_coolOnes_5 rfl (lv_at hl 0 rfl) ?_
      refine va_get (D := (dC, dI)) (ci := 8) (v := .int a4) (C := RX4) (T := TX4) (N := 5) hx hb hts in_X4 hown hK hP 0 rfl rfl 4 (by decide) (hts _ (bg _ wd_127)) (fun _ h9 => h9) rfl dX4_coolOnes_6 ?_
      refine lv_icmp_ge (tgt := 29) hx hb dX4_coolOnes_9 (by decide) (fun q1 => ?_) (fun q1 => ?_)
      · have hf := it q1 hf
        refine lv_iload_n hx hb dX4_coolOnes_29 rfl (lv_at hl 1 rfl) ?_
        exact W.iret hx hb hr (fun t ht hW => ⟨⟨_, (), rfl, sm hf, by rw [ht]; exact hP, hD⟩, hS.F ht⟩) hS.2.2 dX4_coolOnes_30
      · have hf := ie q1 hf
        refine lv_aload_n hx hb dX4_coolOnes_12 rfl (lv_at hl 0 rfl) ?_
        refine lv_iload_n hx hb dX4_coolOnes_13 rfl (lv_at hl 2 rfl) ?_
        obtain ⟨r3, e2, hf⟩ := bd hf
        refine jr_i (va_runV (As := [.int x2]) (rest := []) ⟨hx, hb, hml, hown, hts⟩ (m_X4_hasCool l dC dI dA gz oa H.size a0 a1 a2 a3 a4 x2 r3 e2) (cwV 1 hts (gi_v bg wd_1108 wd_745 wd_746 wd_5 wd_747) rfl rfl rfl hd_X4_hasCool ⟨Nat.le_of_ble_eq_true rfl, Nat.le_of_ble_eq_true rfl⟩) ⟨pP_blind, va_recv (ci := 8) (q0 := 0) hK hP rfl rfl, pP_pre hP hD hS hA hK hN hZ [0, 1, 2, 3, 4] (by decide) rfl⟩ rfl rfl hl.1 rfl (lv_room (Nat.le_of_ble_eq_true rfl)) dX4_coolOnes_14 ⟨Nat.le_of_ble_eq_true rfl, Nat.le_of_ble_eq_true rfl⟩) hP hD hS hA [0, 1, 2, 3, 4] rfl (fun H locs hP hS => ?_)
        refine lv_if_eq (tgt := 23) hx hb dX4_coolOnes_17 (by decide) (fun q4 => ?_) (fun q4 => ?_)
        · have hf := it q4 hf
          refine lv_iinc (v := (x2 + 1)) (lv' := [(2, .int (x2 + 1)), (0, .ref (oa 0)), (1, .int x1)]) hx hb dX4_coolOnes_23 hl (k := 2) rfl rfl (by decide) rfl (fun ls hl => ?_)
          refine lv_goto (tgt := 4) hx hb dX4_coolOnes_26 (by decide) ?_
          exact ih x1 (x2 + 1) _ _ _ hf hP hD hS (lv_sub hl [1, 2, 0] rfl)
        · have hf := ie q4 hf
          refine lv_iinc (v := (x1 + 1)) (lv' := [(1, .int (x1 + 1)), (0, .ref (oa 0)), (2, .int x2)]) hx hb dX4_coolOnes_20 hl (k := 1) rfl rfl (by decide) rfl (fun ls hl => ?_)
          refine lv_iinc (v := (x2 + 1)) (lv' := [(2, .int (x2 + 1)), (1, .int (x1 + 1)), (0, .ref (oa 0))]) hx hb dX4_coolOnes_23 hl (k := 2) rfl rfl (by decide) rfl (fun ls hl => ?_)
          refine lv_goto (tgt := 4) hx hb dX4_coolOnes_26 (by decide) ?_
          exact ih (x1 + 1) (x2 + 1) _ _ _ hf hP hD hS (lv_sub hl [2, 1, 0] rfl)
  rw [f_X4_coolOnes] at hf
  refine lv_iconst (v := 0) hx hb dX4_coolOnes_0 (by decide) ?_
  refine lv_istore_n (lv' := [(1, .int 0), (0, .ref (oa 0))]) hx hb dX4_coolOnes_1 rfl hl (by decide) rfl (fun ls hl => ?_)
  refine lv_iconst (v := 0) hx hb dX4_coolOnes_2 (by decide) ?_
  refine lv_istore_n (lv' := [(2, .int 0), (1, .int 0), (0, .ref (oa 0))]) hx hb dX4_coolOnes_3 rfl hl (by decide) rfl (fun ls hl => ?_)
  exact cut4 300 0 0 _ _ _ hf hP hD hS (lv_sub hl [2, 1, 0] rfl)
/-! X4_firstCoolFrom -/
def f_X4_firstCoolFrom_2 (a0 : Ar) (a1 : Ar) (a2 : Ar) (a3 : Ar) (a4 : Int32) (p1 : Int32) : Nat → Int32 →  Option (Int32)
  | 0, _ => none
  | n + 1, x2 =>
  (if a4 ≤ x2 then some (-1) else
  (f_X4_hasCool a0 a1 a2 a3 a4 x2).bind fun r3 =>
  (if r3 = 0 then f_X4_firstCoolFrom_2 a0 a1 a2 a3 a4 p1 n (x2 + 1) else
  some x2))
def f_X4_firstCoolFrom (a0 : Ar) (a1 : Ar) (a2 : Ar) (a3 : Ar) (a4 : Int32) (p1 : Int32) : Option (Int32) :=
  f_X4_firstCoolFrom_2 a0 a1 a2 a3 a4 p1 300 p1
set_option maxRecDepth 100000 in
set_option maxHeartbeats 4000000 in
theorem m_X4_firstCoolFrom (l : Launch) (dC : Nat → ClassId) (dI : Nat → Nat → Nat) (dA gz : Nat → Nat) (oa : Nat → Nat) (sz : Nat) (a0 : Ar) (a1 : Ar) (a2 : Ar) (a3 : Ar) (a4 : Int32) (p1 : Int32) (rr : Int32) (hf : f_X4_firstCoolFrom a0 a1 a2 a3 a4 p1 = some rr) : Met l yX4_firstCoolFrom ws_X4_firstCoolFrom ({ frames := 18, cells := 0, slots := 0, locals := 600 } : Room) (va_Pc [.ref (oa 0), .int p1] (pP (dC, dI) dA gz (wX4 dA oa (a0, a1, a2, a3, a4)) sz)) (va_Qi (S := Unit) (fun r' _ => r' = rr) (fun _ t => pQ (dC, dI) (va_A (wX4 dA oa (a0, a1, a2, a3, a4)) sz) (wX4 dA oa (a0, a1, a2, a3, a4)) t) (va_A (wX4 dA oa (a0, a1, a2, a3, a4)) sz)) 0 0 (va_A (wX4 dA oa (a0, a1, a2, a3, a4)) sz) := by
  refine Met.ofW (cc := cX4_firstCoolFrom) (maxL := 3) (ret := (some .int)) (by decide) rfl ?_
  intro p e s m args below meth c s₁ B hml hv
  obtain ⟨rfl, hsz, hP, hK, hD0, hN, hZ⟩ := hv
  have hx := B.exec
  have hb := B.bytes
  have hr := B.returns
  have hts := atoms_spec (ws := ws_X4_firstCoolFrom) B.pre
  have hown : s.vm.findClass RX4 = some m.cls := findClass_of_methodNamed B.named
  have hlocks := B.notSynchronized
  subst hsz
  have hD := hD0.self (sz := s.heap.size)
  generalize hAe : va_A (wX4 dA oa (a0, a1, a2, a3, a4)) s.heap.size = A at hD hZ ⊢
  have hA : ∀ q : Nat, s.heap.size ≤ q → A q := fun q h => by rw [← hAe]; exact Or.inr h
  have hS : va_S A s.heap s.heap [] := va_S.rf
  have hP : va_P (dC, dI) vwCl [(oa 0, .inr (8, [.ref (oa 1), .ref (oa 2), .ref (oa 3), .ref (oa 4), .int a4])), (oa 1, .inl (dA 1, 12, .inl a0)), (oa 2, .inl (dA 1, 12, .inl a1)), (oa 3, .inl (dA 1, 12, .inl a2)), (oa 4, .inl (dA 1, 12, .inl a3))] s.heap := hP
  have hD : va_D A [(oa 0, .inr (8, [.ref (oa 1), .ref (oa 2), .ref (oa 3), .ref (oa 4), .int a4])), (oa 1, .inl (dA 1, 12, .inl a0)), (oa 2, .inl (dA 1, 12, .inl a1)), (oa 3, .inl (dA 1, 12, .inl a2)), (oa 4, .inl (dA 1, 12, .inl a3))] := hD
  have hl := lv_entry [.ref (oa 0), .int p1] (n := 3) (Nat.le_of_ble_eq_true rfl)
  rw [lg_entry_eq]
  generalize (lg_sl [.ref (oa 0), .int p1] ++ List.replicate (3 - (lg_sl [.ref (oa 0), .int p1]).length) Slot.unset).toArray = ls at hl ⊢
  have hl : lv_has ls 3 [(0, .ref (oa 0)), (1, .int p1)] := hl
  have in_X4 : ∀ w ∈ wsX40, w ∈ ws_X4_firstCoolFrom := fun w h => bg _ (inB_X4 w h)
  have cut2 : ∀ (n : Nat) (x2 : Int32) (H : Heap) (locs : List Loc) (ls : Array Slot), f_X4_firstCoolFrom_2 a0 a1 a2 a3 a4 p1 n x2 = some rr → va_P (dC, dI) vwCl [(oa 0, .inr (8, [.ref (oa 1), .ref (oa 2), .ref (oa 3), .ref (oa 4), .int a4])), (oa 1, .inl (dA 1, 12, .inl a0)), (oa 2, .inl (dA 1, 12, .inl a1)), (oa 3, .inl (dA 1, 12, .inl a2)), (oa 4, .inl (dA 1, 12, .inl a3))] H → va_D A [(oa 0, .inr (8, [.ref (oa 1), .ref (oa 2), .ref (oa 3), .ref (oa 4), .int a4])), (oa 1, .inl (dA 1, 12, .inl a0)), (oa 2, .inl (dA 1, 12, .inl a1)), (oa 3, .inl (dA 1, 12, .inl a2)), (oa 4, .inl (dA 1, 12, .inl a3))] → va_S A s.heap H locs → lv_has ls 3 [(0, .ref (oa 0)), (2, .int x2)] → W p l e (headSpec ws_X4_firstCoolFrom ({ frames := 18, cells := 0, slots := 0, locals := 600 } : Room)).room s m ([.ref (oa 0), .int p1] : List Value).toArray below meth c H locs 0 0 (MQ below (va_Qi (S := Unit) (fun r' _ => r' = rr) (fun _ t => pQ (dC, dI) A (wX4 dA oa (a0, a1, a2, a3, a4)) t) A) ([.ref (oa 0), .int p1] : List Value).toArray s 0 0 A) (F0 m 2 ls []) := by
    intro n
    induction n with
    | zero =>
      intro x2 H locs ls hf
      rw [f_X4_firstCoolFrom_2] at hf
      cases hf
    | succ n ih =>
      intro x2 H locs ls hf hP hD hS hl
      rw [f_X4_firstCoolFrom_2] at hf
      refine lv_iload_n hx hb dX4_firstCoolFrom_2 rfl (lv_at hl 1 rfl) ?_
      refine lv_aload_n hx hb dX4_firstCoolFrom_3 rfl (lv_at hl 0 rfl) ?_
      refine va_get (D := (dC, dI)) (ci := 8) (v := .int a4) (C := RX4) (T := TX4) (N := 5) hx hb hts in_X4 hown hK hP 0 rfl rfl 4 (by decide) (hts _ (bg _ wd_127)) (fun _ h9 => h9) rfl dX4_firstCoolFrom_4 ?_
      refine lv_icmp_ge (tgt := 26) hx hb dX4_firstCoolFrom_7 (by decide) (fun q1 => ?_) (fun q1 => ?_)
      · have hf := it q1 hf
        refine lv_iconst (v := (-1)) hx hb dX4_firstCoolFrom_26 (by decide) ?_
        exact W.iret hx hb hr (fun t ht hW => ⟨⟨_, (), rfl, sm hf, by rw [ht]; exact hP, hD⟩, hS.F ht⟩) hS.2.2 dX4_firstCoolFrom_27
      · have hf := ie q1 hf
        refine lv_aload_n hx hb dX4_firstCoolFrom_10 rfl (lv_at hl 0 rfl) ?_
        refine lv_iload_n hx hb dX4_firstCoolFrom_11 rfl (lv_at hl 1 rfl) ?_
        obtain ⟨r3, e2, hf⟩ := bd hf
        refine jr_i (va_runV (As := [.int x2]) (rest := []) ⟨hx, hb, hml, hown, hts⟩ (m_X4_hasCool l dC dI dA gz oa H.size a0 a1 a2 a3 a4 x2 r3 e2) (cwV 1 hts (gi_v bg wd_1108 wd_745 wd_746 wd_5 wd_747) rfl rfl rfl hd_X4_hasCool ⟨Nat.le_of_ble_eq_true rfl, Nat.le_of_ble_eq_true rfl⟩) ⟨pP_blind, va_recv (ci := 8) (q0 := 0) hK hP rfl rfl, pP_pre hP hD hS hA hK hN hZ [0, 1, 2, 3, 4] (by decide) rfl⟩ rfl rfl hl.1 rfl (lv_room (Nat.le_of_ble_eq_true rfl)) dX4_firstCoolFrom_12 ⟨Nat.le_of_ble_eq_true rfl, Nat.le_of_ble_eq_true rfl⟩) hP hD hS hA [0, 1, 2, 3, 4] rfl (fun H locs hP hS => ?_)
        refine lv_if_eq (tgt := 20) hx hb dX4_firstCoolFrom_15 (by decide) (fun q4 => ?_) (fun q4 => ?_)
        · have hf := it q4 hf
          refine lv_iinc (v := (x2 + 1)) (lv' := [(2, .int (x2 + 1)), (0, .ref (oa 0))]) hx hb dX4_firstCoolFrom_20 hl (k := 1) rfl rfl (by decide) rfl (fun ls hl => ?_)
          refine lv_goto (tgt := 2) hx hb dX4_firstCoolFrom_23 (by decide) ?_
          exact ih (x2 + 1) _ _ _ hf hP hD hS (lv_sub hl [1, 0] rfl)
        · have hf := ie q4 hf
          refine lv_iload_n hx hb dX4_firstCoolFrom_18 rfl (lv_at hl 1 rfl) ?_
          exact W.iret hx hb hr (fun t ht hW => ⟨⟨_, (), rfl, sm hf, by rw [ht]; exact hP, hD⟩, hS.F ht⟩) hS.2.2 dX4_firstCoolFrom_19
  rw [f_X4_firstCoolFrom] at hf
  refine lv_iload_n hx hb dX4_firstCoolFrom_0 rfl (lv_at hl 1 rfl) ?_
  refine lv_istore_n (lv' := [(2, .int p1), (0, .ref (oa 0)), (1, .int p1)]) hx hb dX4_firstCoolFrom_1 rfl hl (by decide) rfl (fun ls hl => ?_)
  exact cut2 300 p1 _ _ _ hf hP hD hS (lv_sub hl [1, 0] rfl)
/-! X4_goesBefore -/
def f_X4_goesBefore (a0 : Ar) (a1 : Ar) (a2 : Ar) (a3 : Ar) (a4 : Int32) (p1 : Int32) (p2 : Int32) : Option (Int32) :=
  (f_X4_firmnessOf a0 a1 a2 a3 a4 p1).bind fun r2 =>
  (f_X4_firmnessOf a0 a1 a2 a3 a4 p2).bind fun r4 =>
  (if r2 = r4 then (f_X4_massOf a0 a1 a2 a3 a4 p1).bind fun r7 =>
  (f_X4_massOf a0 a1 a2 a3 a4 p2).bind fun r9 =>
  (if r7 = r9 then (if p2 ≤ p1 then some 0 else
  some 1) else
  (f_X4_massOf a0 a1 a2 a3 a4 p1).bind fun r13 =>
  (f_X4_massOf a0 a1 a2 a3 a4 p2).bind fun r15 =>
  (if r13 ≤ r15 then some 0 else
  some 1)) else
  (f_X4_firmnessOf a0 a1 a2 a3 a4 p1).bind fun r18 =>
  (f_X4_firmnessOf a0 a1 a2 a3 a4 p2).bind fun r20 =>
  (if r18 ≤ r20 then some 0 else
  some 1))
set_option maxRecDepth 100000 in
set_option maxHeartbeats 4000000 in
theorem m_X4_goesBefore (l : Launch) (dC : Nat → ClassId) (dI : Nat → Nat → Nat) (dA gz : Nat → Nat) (oa : Nat → Nat) (sz : Nat) (a0 : Ar) (a1 : Ar) (a2 : Ar) (a3 : Ar) (a4 : Int32) (p1 : Int32) (p2 : Int32) (rr : Int32) (hf : f_X4_goesBefore a0 a1 a2 a3 a4 p1 p2 = some rr) : Met l yX4_goesBefore ws_X4_goesBefore ({ frames := 18, cells := 0, slots := 0, locals := 600 } : Room) (va_Pc [.ref (oa 0), .int p1, .int p2] (pP (dC, dI) dA gz (wX4 dA oa (a0, a1, a2, a3, a4)) sz)) (va_Qi (S := Unit) (fun r' _ => r' = rr) (fun _ t => pQ (dC, dI) (va_A (wX4 dA oa (a0, a1, a2, a3, a4)) sz) (wX4 dA oa (a0, a1, a2, a3, a4)) t) (va_A (wX4 dA oa (a0, a1, a2, a3, a4)) sz)) 0 0 (va_A (wX4 dA oa (a0, a1, a2, a3, a4)) sz) := by
  refine Met.ofW (cc := cX4_goesBefore) (maxL := 3) (ret := (some .boolean)) (by decide) rfl ?_
  intro p e s m args below meth c s₁ B hml hv
  obtain ⟨rfl, hsz, hP, hK, hD0, hN, hZ⟩ := hv
  have hx := B.exec
  have hb := B.bytes
  have hr := B.returns
  have hts := atoms_spec (ws := ws_X4_goesBefore) B.pre
  have hown : s.vm.findClass RX4 = some m.cls := findClass_of_methodNamed B.named
  have hlocks := B.notSynchronized
  subst hsz
  have hD := hD0.self (sz := s.heap.size)
  generalize hAe : va_A (wX4 dA oa (a0, a1, a2, a3, a4)) s.heap.size = A at hD hZ ⊢
  have hA : ∀ q : Nat, s.heap.size ≤ q → A q := fun q h => by rw [← hAe]; exact Or.inr h
  have hS : va_S A s.heap s.heap [] := va_S.rf
  have hP : va_P (dC, dI) vwCl [(oa 0, .inr (8, [.ref (oa 1), .ref (oa 2), .ref (oa 3), .ref (oa 4), .int a4])), (oa 1, .inl (dA 1, 12, .inl a0)), (oa 2, .inl (dA 1, 12, .inl a1)), (oa 3, .inl (dA 1, 12, .inl a2)), (oa 4, .inl (dA 1, 12, .inl a3))] s.heap := hP
  have hD : va_D A [(oa 0, .inr (8, [.ref (oa 1), .ref (oa 2), .ref (oa 3), .ref (oa 4), .int a4])), (oa 1, .inl (dA 1, 12, .inl a0)), (oa 2, .inl (dA 1, 12, .inl a1)), (oa 3, .inl (dA 1, 12, .inl a2)), (oa 4, .inl (dA 1, 12, .inl a3))] := hD
  have hl := lv_entry [.ref (oa 0), .int p1, .int p2] (n := 3) (Nat.le_of_ble_eq_true rfl)
  rw [lg_entry_eq]
  generalize (lg_sl [.ref (oa 0), .int p1, .int p2] ++ List.replicate (3 - (lg_sl [.ref (oa 0), .int p1, .int p2]).length) Slot.unset).toArray = ls at hl ⊢
  have hl : lv_has ls 3 [(0, .ref (oa 0)), (1, .int p1), (2, .int p2)] := hl
  rw [f_X4_goesBefore] at hf
  refine lv_aload_n hx hb dX4_goesBefore_0 rfl (lv_at hl 0 rfl) ?_
  refine lv_iload_n hx hb dX4_goesBefore_1 rfl (lv_at hl 1 rfl) ?_
  obtain ⟨r2, e1, hf⟩ := bd hf
  refine jr_i (va_runV (As := [.int p1]) (rest := []) ⟨hx, hb, hml, hown, hts⟩ (m_X4_firmnessOf l dC dI dA gz oa s.heap.size a0 a1 a2 a3 a4 p1 r2 e1) (cwV 1 hts (gi_v bg wd_778 wd_779 wd_780 wd_5 wd_781) rfl rfl rfl hd_X4_firmnessOf ⟨Nat.le_of_ble_eq_true rfl, Nat.le_of_ble_eq_true rfl⟩) ⟨pP_blind, va_recv (ci := 8) (q0 := 0) hK hP rfl rfl, pP_pre hP hD hS hA hK hN hZ [0, 1, 2, 3, 4] (by decide) rfl⟩ rfl rfl hl.1 rfl (lv_room (Nat.le_of_ble_eq_true rfl)) dX4_goesBefore_2 ⟨Nat.le_of_ble_eq_true rfl, Nat.le_of_ble_eq_true rfl⟩) hP hD hS hA [0, 1, 2, 3, 4] rfl (fun H locs hP hS => ?_)
  refine lv_aload_n hx hb dX4_goesBefore_5 rfl (lv_at hl 0 rfl) ?_
  refine lv_iload_n hx hb dX4_goesBefore_6 rfl (lv_at hl 2 rfl) ?_
  obtain ⟨r4, e3, hf⟩ := bd hf
  refine jr_i (va_runV (As := [.int p2]) (rest := [.int r2]) ⟨hx, hb, hml, hown, hts⟩ (m_X4_firmnessOf l dC dI dA gz oa H.size a0 a1 a2 a3 a4 p2 r4 e3) (cwV 1 hts (gi_v bg wd_778 wd_779 wd_780 wd_5 wd_781) rfl rfl rfl hd_X4_firmnessOf ⟨Nat.le_of_ble_eq_true rfl, Nat.le_of_ble_eq_true rfl⟩) ⟨pP_blind, va_recv (ci := 8) (q0 := 0) hK hP rfl rfl, pP_pre hP hD hS hA hK hN hZ [0, 1, 2, 3, 4] (by decide) rfl⟩ rfl rfl hl.1 rfl (lv_room (Nat.le_of_ble_eq_true rfl)) dX4_goesBefore_7 ⟨Nat.le_of_ble_eq_true rfl, Nat.le_of_ble_eq_true rfl⟩) hP hD hS hA [0, 1, 2, 3, 4] rfl (fun H locs hP hS => ?_)
  refine lv_icmp_eq (tgt := 32) hx hb dX4_goesBefore_10 (by decide) (fun q5 => ?_) (fun q5 => ?_)
  · have hf := it q5 hf
    refine lv_aload_n hx hb dX4_goesBefore_32 rfl (lv_at hl 0 rfl) ?_
    refine lv_iload_n hx hb dX4_goesBefore_33 rfl (lv_at hl 1 rfl) ?_
    obtain ⟨r7, e6, hf⟩ := bd hf
    refine jr_i (va_runV (As := [.int p1]) (rest := []) ⟨hx, hb, hml, hown, hts⟩ (m_X4_massOf l dC dI dA gz oa H.size a0 a1 a2 a3 a4 p1 r7 e6) (cwV 1 hts (gi_v bg wd_1095 wd_754 wd_755 wd_5 wd_756) rfl rfl rfl hd_X4_massOf ⟨Nat.le_of_ble_eq_true rfl, Nat.le_of_ble_eq_true rfl⟩) ⟨pP_blind, va_recv (ci := 8) (q0 := 0) hK hP rfl rfl, pP_pre hP hD hS hA hK hN hZ [0, 1, 2, 3, 4] (by decide) rfl⟩ rfl rfl hl.1 rfl (lv_room (Nat.le_of_ble_eq_true rfl)) dX4_goesBefore_34 ⟨Nat.le_of_ble_eq_true rfl, Nat.le_of_ble_eq_true rfl⟩) hP hD hS hA [0, 1, 2, 3, 4] rfl (fun H locs hP hS => ?_)
    refine lv_aload_n hx hb dX4_goesBefore_37 rfl (lv_at hl 0 rfl) ?_
    refine lv_iload_n hx hb dX4_goesBefore_38 rfl (lv_at hl 2 rfl) ?_
    obtain ⟨r9, e8, hf⟩ := bd hf
    refine jr_i (va_runV (As := [.int p2]) (rest := [.int r7]) ⟨hx, hb, hml, hown, hts⟩ (m_X4_massOf l dC dI dA gz oa H.size a0 a1 a2 a3 a4 p2 r9 e8) (cwV 1 hts (gi_v bg wd_1095 wd_754 wd_755 wd_5 wd_756) rfl rfl rfl hd_X4_massOf ⟨Nat.le_of_ble_eq_true rfl, Nat.le_of_ble_eq_true rfl⟩) ⟨pP_blind, va_recv (ci := 8) (q0 := 0) hK hP rfl rfl, pP_pre hP hD hS hA hK hN hZ [0, 1, 2, 3, 4] (by decide) rfl⟩ rfl rfl hl.1 rfl (lv_room (Nat.le_of_ble_eq_true rfl)) dX4_goesBefore_39 ⟨Nat.le_of_ble_eq_true rfl, Nat.le_of_ble_eq_true rfl⟩) hP hD hS hA [0, 1, 2, 3, 4] rfl (fun H locs hP hS => ?_)
    refine lv_icmp_eq (tgt := 64) hx hb dX4_goesBefore_42 (by decide) (fun q10 => ?_) (fun q10 => ?_)
    · have hf := it q10 hf
      refine lv_iload_n hx hb dX4_goesBefore_64 rfl (lv_at hl 1 rfl) ?_
      refine lv_iload_n hx hb dX4_goesBefore_65 rfl (lv_at hl 2 rfl) ?_
      refine lv_icmp_ge (tgt := 73) hx hb dX4_goesBefore_66 (by decide) (fun q11 => ?_) (fun q11 => ?_)
      · have hf := it q11 hf
        refine lv_iconst (v := 0) hx hb dX4_goesBefore_73 (by decide) ?_
        exact W.zret hx hb hr rfl (fun t ht hW => ⟨⟨_, (), rfl, sm hf, by rw [ht]; exact hP, hD⟩, hS.F ht⟩) hS.2.2 dX4_goesBefore_74
      · have hf := ie q11 hf
        refine lv_iconst (v := 1) hx hb dX4_goesBefore_69 (by decide) ?_
        refine lv_goto (tgt := 74) hx hb dX4_goesBefore_70 (by decide) ?_
        exact W.zret hx hb hr rfl (fun t ht hW => ⟨⟨_, (), rfl, sm hf, by rw [ht]; exact hP, hD⟩, hS.F ht⟩) hS.2.2 dX4_goesBefore_74
    · have hf := ie q10 hf
      refine lv_aload_n hx hb dX4_goesBefore_45 rfl (lv_at hl 0 rfl) ?_
      refine lv_iload_n hx hb dX4_goesBefore_46 rfl (lv_at hl 1 rfl) ?_
      obtain ⟨r13, e12, hf⟩ := bd hf
      refine jr_i (va_runV (As := [.int p1]) (rest := []) ⟨hx, hb, hml, hown, hts⟩ (m_X4_massOf l dC dI dA gz oa H.size a0 a1 a2 a3 a4 p1 r13 e12) (cwV 1 hts (gi_v bg wd_1095 wd_754 wd_755 wd_5 wd_756) rfl rfl rfl hd_X4_massOf ⟨Nat.le_of_ble_eq_true rfl, Nat.le_of_ble_eq_true rfl⟩) ⟨pP_blind, va_recv (ci := 8) (q0 := 0) hK hP rfl rfl, pP_pre hP hD hS hA hK hN hZ [0, 1, 2, 3, 4] (by decide) rfl⟩ rfl rfl hl.1 rfl (lv_room (Nat.le_of_ble_eq_true rfl)) dX4_goesBefore_47 ⟨Nat.le_of_ble_eq_true rfl, Nat.le_of_ble_eq_true rfl⟩) hP hD hS hA [0, 1, 2, 3, 4] rfl (fun H locs hP hS => ?_)
      refine lv_aload_n hx hb dX4_goesBefore_50 rfl (lv_at hl 0 rfl) ?_
      refine lv_iload_n hx hb dX4_goesBefore_51 rfl (lv_at hl 2 rfl) ?_
      obtain ⟨r15, e14, hf⟩ := bd hf
      refine jr_i (va_runV (As := [.int p2]) (rest := [.int r13]) ⟨hx, hb, hml, hown, hts⟩ (m_X4_massOf l dC dI dA gz oa H.size a0 a1 a2 a3 a4 p2 r15 e14) (cwV 1 hts (gi_v bg wd_1095 wd_754 wd_755 wd_5 wd_756) rfl rfl rfl hd_X4_massOf ⟨Nat.le_of_ble_eq_true rfl, Nat.le_of_ble_eq_true rfl⟩) ⟨pP_blind, va_recv (ci := 8) (q0 := 0) hK hP rfl rfl, pP_pre hP hD hS hA hK hN hZ [0, 1, 2, 3, 4] (by decide) rfl⟩ rfl rfl hl.1 rfl (lv_room (Nat.le_of_ble_eq_true rfl)) dX4_goesBefore_52 ⟨Nat.le_of_ble_eq_true rfl, Nat.le_of_ble_eq_true rfl⟩) hP hD hS hA [0, 1, 2, 3, 4] rfl (fun H locs hP hS => ?_)
      refine lv_icmp_le (tgt := 62) hx hb dX4_goesBefore_55 (by decide) (fun q16 => ?_) (fun q16 => ?_)
      · have hf := it q16 hf
        refine lv_iconst (v := 0) hx hb dX4_goesBefore_62 (by decide) ?_
        exact W.zret hx hb hr rfl (fun t ht hW => ⟨⟨_, (), rfl, sm hf, by rw [ht]; exact hP, hD⟩, hS.F ht⟩) hS.2.2 dX4_goesBefore_63
      · have hf := ie q16 hf
        refine lv_iconst (v := 1) hx hb dX4_goesBefore_58 (by decide) ?_
        refine lv_goto (tgt := 63) hx hb dX4_goesBefore_59 (by decide) ?_
        exact W.zret hx hb hr rfl (fun t ht hW => ⟨⟨_, (), rfl, sm hf, by rw [ht]; exact hP, hD⟩, hS.F ht⟩) hS.2.2 dX4_goesBefore_63
  · have hf := ie q5 hf
    refine lv_aload_n hx hb dX4_goesBefore_13 rfl (lv_at hl 0 rfl) ?_
    refine lv_iload_n hx hb dX4_goesBefore_14 rfl (lv_at hl 1 rfl) ?_
    obtain ⟨r18, e17, hf⟩ := bd hf
    refine jr_i (va_runV (As := [.int p1]) (rest := []) ⟨hx, hb, hml, hown, hts⟩ (m_X4_firmnessOf l dC dI dA gz oa H.size a0 a1 a2 a3 a4 p1 r18 e17) (cwV 1 hts (gi_v bg wd_778 wd_779 wd_780 wd_5 wd_781) rfl rfl rfl hd_X4_firmnessOf ⟨Nat.le_of_ble_eq_true rfl, Nat.le_of_ble_eq_true rfl⟩) ⟨pP_blind, va_recv (ci := 8) (q0 := 0) hK hP rfl rfl, pP_pre hP hD hS hA hK hN hZ [0, 1, 2, 3, 4] (by decide) rfl⟩ rfl rfl hl.1 rfl (lv_room (Nat.le_of_ble_eq_true rfl)) dX4_goesBefore_15 ⟨Nat.le_of_ble_eq_true rfl, Nat.le_of_ble_eq_true rfl⟩) hP hD hS hA [0, 1, 2, 3, 4] rfl (fun H locs hP hS => ?_)
    refine lv_aload_n hx hb dX4_goesBefore_18 rfl (lv_at hl 0 rfl) ?_
    refine lv_iload_n hx hb dX4_goesBefore_19 rfl (lv_at hl 2 rfl) ?_
    obtain ⟨r20, e19, hf⟩ := bd hf
    refine jr_i (va_runV (As := [.int p2]) (rest := [.int r18]) ⟨hx, hb, hml, hown, hts⟩ (m_X4_firmnessOf l dC dI dA gz oa H.size a0 a1 a2 a3 a4 p2 r20 e19) (cwV 1 hts (gi_v bg wd_778 wd_779 wd_780 wd_5 wd_781) rfl rfl rfl hd_X4_firmnessOf ⟨Nat.le_of_ble_eq_true rfl, Nat.le_of_ble_eq_true rfl⟩) ⟨pP_blind, va_recv (ci := 8) (q0 := 0) hK hP rfl rfl, pP_pre hP hD hS hA hK hN hZ [0, 1, 2, 3, 4] (by decide) rfl⟩ rfl rfl hl.1 rfl (lv_room (Nat.le_of_ble_eq_true rfl)) dX4_goesBefore_20 ⟨Nat.le_of_ble_eq_true rfl, Nat.le_of_ble_eq_true rfl⟩) hP hD hS hA [0, 1, 2, 3, 4] rfl (fun H locs hP hS => ?_)
    refine lv_icmp_le (tgt := 30) hx hb dX4_goesBefore_23 (by decide) (fun q21 => ?_) (fun q21 => ?_)
    · have hf := it q21 hf
      refine lv_iconst (v := 0) hx hb dX4_goesBefore_30 (by decide) ?_
      exact W.zret hx hb hr rfl (fun t ht hW => ⟨⟨_, (), rfl, sm hf, by rw [ht]; exact hP, hD⟩, hS.F ht⟩) hS.2.2 dX4_goesBefore_31
    · have hf := ie q21 hf
      refine lv_iconst (v := 1) hx hb dX4_goesBefore_26 (by decide) ?_
      refine lv_goto (tgt := 31) hx hb dX4_goesBefore_27 (by decide) ?_
      exact W.zret hx hb hr rfl (fun t ht hW => ⟨⟨_, (), rfl, sm hf, by rw [ht]; exact hP, hD⟩, hS.F ht⟩) hS.2.2 dX4_goesBefore_31
/-! X4_rankOf -/
def f_X4_rankOf_4 (a0 : Ar) (a1 : Ar) (a2 : Ar) (a3 : Ar) (a4 : Int32) (p1 : Int32) : Nat → Int32 → Int32 →  Option (Int32)
  | 0, _, _ => none
  | n + 1, x2, x3 =>
  (if a4 ≤ x3 then some x2 else
  (f_X4_goesBefore a0 a1 a2 a3 a4 x3 p1).bind fun r3 =>
  (if r3 = 0 then f_X4_rankOf_4 a0 a1 a2 a3 a4 p1 n x2 (x3 + 1) else
  f_X4_rankOf_4 a0 a1 a2 a3 a4 p1 n (x2 + 1) (x3 + 1)))
def f_X4_rankOf (a0 : Ar) (a1 : Ar) (a2 : Ar) (a3 : Ar) (a4 : Int32) (p1 : Int32) : Option (Int32) :=
  f_X4_rankOf_4 a0 a1 a2 a3 a4 p1 300 0 0
set_option maxRecDepth 100000 in
set_option maxHeartbeats 4000000 in
theorem m_X4_rankOf (l : Launch) (dC : Nat → ClassId) (dI : Nat → Nat → Nat) (dA gz : Nat → Nat) (oa : Nat → Nat) (sz : Nat) (a0 : Ar) (a1 : Ar) (a2 : Ar) (a3 : Ar) (a4 : Int32) (p1 : Int32) (rr : Int32) (hf : f_X4_rankOf a0 a1 a2 a3 a4 p1 = some rr) : Met l yX4_rankOf ws_X4_rankOf ({ frames := 22, cells := 0, slots := 0, locals := 800 } : Room) (va_Pc [.ref (oa 0), .int p1] (pP (dC, dI) dA gz (wX4 dA oa (a0, a1, a2, a3, a4)) sz)) (va_Qi (S := Unit) (fun r' _ => r' = rr) (fun _ t => pQ (dC, dI) (va_A (wX4 dA oa (a0, a1, a2, a3, a4)) sz) (wX4 dA oa (a0, a1, a2, a3, a4)) t) (va_A (wX4 dA oa (a0, a1, a2, a3, a4)) sz)) 0 0 (va_A (wX4 dA oa (a0, a1, a2, a3, a4)) sz) := by
  refine Met.ofW (cc := cX4_rankOf) (maxL := 4) (ret := (some .int)) (by decide) rfl ?_
  intro p e s m args below meth c s₁ B hml hv
  obtain ⟨rfl, hsz, hP, hK, hD0, hN, hZ⟩ := hv
  have hx := B.exec
  have hb := B.bytes
  have hr := B.returns
  have hts := atoms_spec (ws := ws_X4_rankOf) B.pre
  have hown : s.vm.findClass RX4 = some m.cls := findClass_of_methodNamed B.named
  have hlocks := B.notSynchronized
  subst hsz
  have hD := hD0.self (sz := s.heap.size)
  generalize hAe : va_A (wX4 dA oa (a0, a1, a2, a3, a4)) s.heap.size = A at hD hZ ⊢
  have hA : ∀ q : Nat, s.heap.size ≤ q → A q := fun q h => by rw [← hAe]; exact Or.inr h
  have hS : va_S A s.heap s.heap [] := va_S.rf
  have hP : va_P (dC, dI) vwCl [(oa 0, .inr (8, [.ref (oa 1), .ref (oa 2), .ref (oa 3), .ref (oa 4), .int a4])), (oa 1, .inl (dA 1, 12, .inl a0)), (oa 2, .inl (dA 1, 12, .inl a1)), (oa 3, .inl (dA 1, 12, .inl a2)), (oa 4, .inl (dA 1, 12, .inl a3))] s.heap := hP
  have hD : va_D A [(oa 0, .inr (8, [.ref (oa 1), .ref (oa 2), .ref (oa 3), .ref (oa 4), .int a4])), (oa 1, .inl (dA 1, 12, .inl a0)), (oa 2, .inl (dA 1, 12, .inl a1)), (oa 3, .inl (dA 1, 12, .inl a2)), (oa 4, .inl (dA 1, 12, .inl a3))] := hD
  have hl := lv_entry [.ref (oa 0), .int p1] (n := 4) (Nat.le_of_ble_eq_true rfl)
  rw [lg_entry_eq]
  generalize (lg_sl [.ref (oa 0), .int p1] ++ List.replicate (4 - (lg_sl [.ref (oa 0), .int p1]).length) Slot.unset).toArray = ls at hl ⊢
  have hl : lv_has ls 4 [(0, .ref (oa 0)), (1, .int p1)] := hl
  have in_X4 : ∀ w ∈ wsX40, w ∈ ws_X4_rankOf := fun w h => bg _ (inB_X4 w h)
  have cut4 : ∀ (n : Nat) (x2 : Int32) (x3 : Int32) (H : Heap) (locs : List Loc) (ls : Array Slot), f_X4_rankOf_4 a0 a1 a2 a3 a4 p1 n x2 x3 = some rr → va_P (dC, dI) vwCl [(oa 0, .inr (8, [.ref (oa 1), .ref (oa 2), .ref (oa 3), .ref (oa 4), .int a4])), (oa 1, .inl (dA 1, 12, .inl a0)), (oa 2, .inl (dA 1, 12, .inl a1)), (oa 3, .inl (dA 1, 12, .inl a2)), (oa 4, .inl (dA 1, 12, .inl a3))] H → va_D A [(oa 0, .inr (8, [.ref (oa 1), .ref (oa 2), .ref (oa 3), .ref (oa 4), .int a4])), (oa 1, .inl (dA 1, 12, .inl a0)), (oa 2, .inl (dA 1, 12, .inl a1)), (oa 3, .inl (dA 1, 12, .inl a2)), (oa 4, .inl (dA 1, 12, .inl a3))] → va_S A s.heap H locs → lv_has ls 4 [(0, .ref (oa 0)), (1, .int p1), (2, .int x2), (3, .int x3)] → W p l e (headSpec ws_X4_rankOf ({ frames := 22, cells := 0, slots := 0, locals := 800 } : Room)).room s m ([.ref (oa 0), .int p1] : List Value).toArray below meth c H locs 0 0 (MQ below (va_Qi (S := Unit) (fun r' _ => r' = rr) (fun _ t => pQ (dC, dI) A (wX4 dA oa (a0, a1, a2, a3, a4)) t) A) ([.ref (oa 0), .int p1] : List Value).toArray s 0 0 A) (F0 m 4 ls []) := by
    intro n
    induction n with
    | zero =>
      intro x2 x3 H locs ls hf
      rw [f_X4_rankOf_4] at hf
      cases hf
    | succ n ih =>
      intro x2 x3 H locs ls hf hP hD hS hl
      rw [f_X4_rankOf_4] at hf
      refine lv_iload_n hx hb dX4_rankOf_4 rfl (lv_at hl 3 rfl) ?_
      refine lv_aload_n hx hb dX4_rankOf_5 rfl (lv_at hl 0 rfl) ?_
      refine va_get (D := (dC, dI)) (ci := 8) (v := .int a4) (C := RX4) (T := TX4) (N := 5) hx hb hts in_X4 hown hK hP 0 rfl rfl 4 (by decide) (hts _ (bg _ wd_127)) (fun _ h9 => h9) rfl dX4_rankOf_6 ?_
      refine lv_icmp_ge (tgt := 30) hx hb dX4_rankOf_9 (by decide) (fun q1 => ?_) (fun q1 => ?_)
      · have hf := it q1 hf
        refine lv_iload_n hx hb dX4_rankOf_30 rfl (lv_at hl 2 rfl) ?_
        exact W.iret hx hb hr (fun t ht hW => ⟨⟨_, (), rfl, sm hf, by rw [ht]; exact hP, hD⟩, hS.F ht⟩) hS.2.2 dX4_rankOf_31
      · have hf := ie q1 hf
        refine lv_aload_n hx hb dX4_rankOf_12 rfl (lv_at hl 0 rfl) ?_
        refine lv_iload_n hx hb dX4_rankOf_13 rfl (lv_at hl 3 rfl) ?_
        refine lv_iload_n hx hb dX4_rankOf_14 rfl (lv_at hl 1 rfl) ?_
        obtain ⟨r3, e2, hf⟩ := bd hf
        refine jr_i (va_runV (As := [.int x3, .int p1]) (rest := []) ⟨hx, hb, hml, hown, hts⟩ (m_X4_goesBefore l dC dI dA gz oa H.size a0 a1 a2 a3 a4 x3 p1 r3 e2) (cwV 2 hts (gi_v bg wd_1091 wd_1093 ws_19 wd_5 wd_1094) rfl rfl rfl hd_X4_goesBefore ⟨Nat.le_of_ble_eq_true rfl, Nat.le_of_ble_eq_true rfl⟩) ⟨pP_blind, va_recv (ci := 8) (q0 := 0) hK hP rfl rfl, pP_pre hP hD hS hA hK hN hZ [0, 1, 2, 3, 4] (by decide) rfl⟩ rfl rfl hl.1 rfl (lv_room (Nat.le_of_ble_eq_true rfl)) dX4_rankOf_15 ⟨Nat.le_of_ble_eq_true rfl, Nat.le_of_ble_eq_true rfl⟩) hP hD hS hA [0, 1, 2, 3, 4] rfl (fun H locs hP hS => ?_)
        refine lv_if_eq (tgt := 24) hx hb dX4_rankOf_18 (by decide) (fun q4 => ?_) (fun q4 => ?_)
        · have hf := it q4 hf
          refine lv_iinc (v := (x3 + 1)) (lv' := [(3, .int (x3 + 1)), (0, .ref (oa 0)), (1, .int p1), (2, .int x2)]) hx hb dX4_rankOf_24 hl (k := 3) rfl rfl (by decide) rfl (fun ls hl => ?_)
          refine lv_goto (tgt := 4) hx hb dX4_rankOf_27 (by decide) ?_
          exact ih x2 (x3 + 1) _ _ _ hf hP hD hS (lv_sub hl [1, 2, 3, 0] rfl)
        · have hf := ie q4 hf
          refine lv_iinc (v := (x2 + 1)) (lv' := [(2, .int (x2 + 1)), (0, .ref (oa 0)), (1, .int p1), (3, .int x3)]) hx hb dX4_rankOf_21 hl (k := 2) rfl rfl (by decide) rfl (fun ls hl => ?_)
          refine lv_iinc (v := (x3 + 1)) (lv' := [(3, .int (x3 + 1)), (2, .int (x2 + 1)), (0, .ref (oa 0)), (1, .int p1)]) hx hb dX4_rankOf_24 hl (k := 3) rfl rfl (by decide) rfl (fun ls hl => ?_)
          refine lv_goto (tgt := 4) hx hb dX4_rankOf_27 (by decide) ?_
          exact ih (x2 + 1) (x3 + 1) _ _ _ hf hP hD hS (lv_sub hl [2, 3, 1, 0] rfl)
  rw [f_X4_rankOf] at hf
  refine lv_iconst (v := 0) hx hb dX4_rankOf_0 (by decide) ?_
  refine lv_istore_n (lv' := [(2, .int 0), (0, .ref (oa 0)), (1, .int p1)]) hx hb dX4_rankOf_1 rfl hl (by decide) rfl (fun ls hl => ?_)
  refine lv_iconst (v := 0) hx hb dX4_rankOf_2 (by decide) ?_
  refine lv_istore_n (lv' := [(3, .int 0), (2, .int 0), (0, .ref (oa 0)), (1, .int p1)]) hx hb dX4_rankOf_3 rfl hl (by decide) rfl (fun ls hl => ?_)
  exact cut4 300 0 0 _ _ _ hf hP hD hS (lv_sub hl [2, 3, 1, 0] rfl)
/-! X4_patAtRank -/
def f_X4_patAtRank_2 (a0 : Ar) (a1 : Ar) (a2 : Ar) (a3 : Ar) (a4 : Int32) (p1 : Int32) : Nat → Int32 →  Option (Int32)
  | 0, _ => none
  | n + 1, x2 =>
  (if a4 ≤ x2 then some (-1) else
  (f_X4_rankOf a0 a1 a2 a3 a4 x2).bind fun r3 =>
  (if r3 = p1 then some x2 else
  f_X4_patAtRank_2 a0 a1 a2 a3 a4 p1 n (x2 + 1)))
def f_X4_patAtRank (a0 : Ar) (a1 : Ar) (a2 : Ar) (a3 : Ar) (a4 : Int32) (p1 : Int32) : Option (Int32) :=
  f_X4_patAtRank_2 a0 a1 a2 a3 a4 p1 300 0
set_option maxRecDepth 100000 in
set_option maxHeartbeats 4000000 in
theorem m_X4_patAtRank (l : Launch) (dC : Nat → ClassId) (dI : Nat → Nat → Nat) (dA gz : Nat → Nat) (oa : Nat → Nat) (sz : Nat) (a0 : Ar) (a1 : Ar) (a2 : Ar) (a3 : Ar) (a4 : Int32) (p1 : Int32) (rr : Int32) (hf : f_X4_patAtRank a0 a1 a2 a3 a4 p1 = some rr) : Met l yX4_patAtRank ws_X4_patAtRank ({ frames := 26, cells := 0, slots := 0, locals := 1000 } : Room) (va_Pc [.ref (oa 0), .int p1] (pP (dC, dI) dA gz (wX4 dA oa (a0, a1, a2, a3, a4)) sz)) (va_Qi (S := Unit) (fun r' _ => r' = rr) (fun _ t => pQ (dC, dI) (va_A (wX4 dA oa (a0, a1, a2, a3, a4)) sz) (wX4 dA oa (a0, a1, a2, a3, a4)) t) (va_A (wX4 dA oa (a0, a1, a2, a3, a4)) sz)) 0 0 (va_A (wX4 dA oa (a0, a1, a2, a3, a4)) sz) := by
  refine Met.ofW (cc := cX4_patAtRank) (maxL := 3) (ret := (some .int)) (by decide) rfl ?_
  intro p e s m args below meth c s₁ B hml hv
  obtain ⟨rfl, hsz, hP, hK, hD0, hN, hZ⟩ := hv
  have hx := B.exec
  have hb := B.bytes
  have hr := B.returns
  have hts := atoms_spec (ws := ws_X4_patAtRank) B.pre
  have hown : s.vm.findClass RX4 = some m.cls := findClass_of_methodNamed B.named
  have hlocks := B.notSynchronized
  subst hsz
  have hD := hD0.self (sz := s.heap.size)
  generalize hAe : va_A (wX4 dA oa (a0, a1, a2, a3, a4)) s.heap.size = A at hD hZ ⊢
  have hA : ∀ q : Nat, s.heap.size ≤ q → A q := fun q h => by rw [← hAe]; exact Or.inr h
  have hS : va_S A s.heap s.heap [] := va_S.rf
  have hP : va_P (dC, dI) vwCl [(oa 0, .inr (8, [.ref (oa 1), .ref (oa 2), .ref (oa 3), .ref (oa 4), .int a4])), (oa 1, .inl (dA 1, 12, .inl a0)), (oa 2, .inl (dA 1, 12, .inl a1)), (oa 3, .inl (dA 1, 12, .inl a2)), (oa 4, .inl (dA 1, 12, .inl a3))] s.heap := hP
  have hD : va_D A [(oa 0, .inr (8, [.ref (oa 1), .ref (oa 2), .ref (oa 3), .ref (oa 4), .int a4])), (oa 1, .inl (dA 1, 12, .inl a0)), (oa 2, .inl (dA 1, 12, .inl a1)), (oa 3, .inl (dA 1, 12, .inl a2)), (oa 4, .inl (dA 1, 12, .inl a3))] := hD
  have hl := lv_entry [.ref (oa 0), .int p1] (n := 3) (Nat.le_of_ble_eq_true rfl)
  rw [lg_entry_eq]
  generalize (lg_sl [.ref (oa 0), .int p1] ++ List.replicate (3 - (lg_sl [.ref (oa 0), .int p1]).length) Slot.unset).toArray = ls at hl ⊢
  have hl : lv_has ls 3 [(0, .ref (oa 0)), (1, .int p1)] := hl
  have in_X4 : ∀ w ∈ wsX40, w ∈ ws_X4_patAtRank := fun w h => bg _ (inB_X4 w h)
  have cut2 : ∀ (n : Nat) (x2 : Int32) (H : Heap) (locs : List Loc) (ls : Array Slot), f_X4_patAtRank_2 a0 a1 a2 a3 a4 p1 n x2 = some rr → va_P (dC, dI) vwCl [(oa 0, .inr (8, [.ref (oa 1), .ref (oa 2), .ref (oa 3), .ref (oa 4), .int a4])), (oa 1, .inl (dA 1, 12, .inl a0)), (oa 2, .inl (dA 1, 12, .inl a1)), (oa 3, .inl (dA 1, 12, .inl a2)), (oa 4, .inl (dA 1, 12, .inl a3))] H → va_D A [(oa 0, .inr (8, [.ref (oa 1), .ref (oa 2), .ref (oa 3), .ref (oa 4), .int a4])), (oa 1, .inl (dA 1, 12, .inl a0)), (oa 2, .inl (dA 1, 12, .inl a1)), (oa 3, .inl (dA 1, 12, .inl a2)), (oa 4, .inl (dA 1, 12, .inl a3))] → va_S A s.heap H locs → lv_has ls 3 [(0, .ref (oa 0)), (1, .int p1), (2, .int x2)] → W p l e (headSpec ws_X4_patAtRank ({ frames := 26, cells := 0, slots := 0, locals := 1000 } : Room)).room s m ([.ref (oa 0), .int p1] : List Value).toArray below meth c H locs 0 0 (MQ below (va_Qi (S := Unit) (fun r' _ => r' = rr) (fun _ t => pQ (dC, dI) A (wX4 dA oa (a0, a1, a2, a3, a4)) t) A) ([.ref (oa 0), .int p1] : List Value).toArray s 0 0 A) (F0 m 2 ls []) := by
    intro n
    induction n with
    | zero =>
      intro x2 H locs ls hf
      rw [f_X4_patAtRank_2] at hf
      cases hf
    | succ n ih =>
      intro x2 H locs ls hf hP hD hS hl
      rw [f_X4_patAtRank_2] at hf
      refine lv_iload_n hx hb dX4_patAtRank_2 rfl (lv_at hl 2 rfl) ?_
      refine lv_aload_n hx hb dX4_patAtRank_3 rfl (lv_at hl 0 rfl) ?_
      refine va_get (D := (dC, dI)) (ci := 8) (v := .int a4) (C := RX4) (T := TX4) (N := 5) hx hb hts in_X4 hown hK hP 0 rfl rfl 4 (by decide) (hts _ (bg _ wd_127)) (fun _ h9 => h9) rfl dX4_patAtRank_4 ?_
      refine lv_icmp_ge (tgt := 27) hx hb dX4_patAtRank_7 (by decide) (fun q1 => ?_) (fun q1 => ?_)
      · have hf := it q1 hf
        refine lv_iconst (v := (-1)) hx hb dX4_patAtRank_27 (by decide) ?_
        exact W.iret hx hb hr (fun t ht hW => ⟨⟨_, (), rfl, sm hf, by rw [ht]; exact hP, hD⟩, hS.F ht⟩) hS.2.2 dX4_patAtRank_28
      · have hf := ie q1 hf
        refine lv_aload_n hx hb dX4_patAtRank_10 rfl (lv_at hl 0 rfl) ?_
        refine lv_iload_n hx hb dX4_patAtRank_11 rfl (lv_at hl 2 rfl) ?_
        obtain ⟨r3, e2, hf⟩ := bd hf
        refine jr_i (va_runV (As := [.int x2]) (rest := []) ⟨hx, hb, hml, hown, hts⟩ (m_X4_rankOf l dC dI dA gz oa H.size a0 a1 a2 a3 a4 x2 r3 e2) (cwV 1 hts (gi_v bg wd_1087 wd_1089 ws_18 wd_5 wd_1090) rfl rfl rfl hd_X4_rankOf ⟨Nat.le_of_ble_eq_true rfl, Nat.le_of_ble_eq_true rfl⟩) ⟨pP_blind, va_recv (ci := 8) (q0 := 0) hK hP rfl rfl, pP_pre hP hD hS hA hK hN hZ [0, 1, 2, 3, 4] (by decide) rfl⟩ rfl rfl hl.1 rfl (lv_room (Nat.le_of_ble_eq_true rfl)) dX4_patAtRank_12 ⟨Nat.le_of_ble_eq_true rfl, Nat.le_of_ble_eq_true rfl⟩) hP hD hS hA [0, 1, 2, 3, 4] rfl (fun H locs hP hS => ?_)
        refine lv_iload_n hx hb dX4_patAtRank_15 rfl (lv_at hl 1 rfl) ?_
        refine lv_icmp_ne (tgt := 21) hx hb dX4_patAtRank_16 (by decide) (fun q4 => ?_) (fun q4 => ?_)
        · have hf := ie q4 hf
          refine lv_iinc (v := (x2 + 1)) (lv' := [(2, .int (x2 + 1)), (0, .ref (oa 0)), (1, .int p1)]) hx hb dX4_patAtRank_21 hl (k := 2) rfl rfl (by decide) rfl (fun ls hl => ?_)
          refine lv_goto (tgt := 2) hx hb dX4_patAtRank_24 (by decide) ?_
          exact ih (x2 + 1) _ _ _ hf hP hD hS (lv_sub hl [1, 2, 0] rfl)
        · have hf := it q4 hf
          refine lv_iload_n hx hb dX4_patAtRank_19 rfl (lv_at hl 2 rfl) ?_
          exact W.iret hx hb hr (fun t ht hW => ⟨⟨_, (), rfl, sm hf, by rw [ht]; exact hP, hD⟩, hS.F ht⟩) hS.2.2 dX4_patAtRank_20
  rw [f_X4_patAtRank] at hf
  refine lv_iconst (v := 0) hx hb dX4_patAtRank_0 (by decide) ?_
  refine lv_istore_n (lv' := [(2, .int 0), (0, .ref (oa 0)), (1, .int p1)]) hx hb dX4_patAtRank_1 rfl hl (by decide) rfl (fun ls hl => ?_)
  exact cut2 300 0 _ _ _ hf hP hD hS (lv_sub hl [1, 2, 0] rfl)
