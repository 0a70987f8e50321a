/-! X7_isWithin -/
def f_X7_isWithin (p0 : Int32) (p1 : Int32) (p2 : Int32) : Option (Int32) :=
  (if p0 < p1 then some 0 else
  (if p2 < p0 then some 0 else
  some 1))
set_option maxRecDepth 100000 in
set_option maxHeartbeats 4000000 in
theorem m_X7_isWithin (l : Launch) (dC : Nat → ClassId) (dI : Nat → Nat → Nat) (dA gz : Nat → Nat)  (sz : Nat) (p0 : Int32) (p1 : Int32) (p2 : Int32) (rr : Int32) (hf : f_X7_isWithin p0 p1 p2 = some rr) : Met l yX7_isWithin ws_X7_isWithin ({ frames := 10, cells := 0, slots := 0, locals := 200 } : Room) (va_Pc [.int p0, .int p1, .int p2] (pP (dC, dI) dA gz ([]) sz)) (va_Qi (S := Unit) (fun r' _ => r' = rr) (fun _ t => pQ (dC, dI) (va_A ([]) sz) ([]) t) (va_A ([]) sz)) 0 0 (va_A ([]) sz) := by
  refine Met.ofW (cc := cX7_isWithin) (maxL := 3) (ret := (some .boolean)) (by decide) rfl ?_
  intro p e s m args below meth c s₁ B hml hv
  obtain ⟨rfl, hsz, hP, hK, hD0, hN, hZ⟩ := hv
  have hx := B.exec
  have hb := B.bytes
  have hr := B.returns
  have hts := atoms_spec (ws := ws_X7_isWithin) B.pre
  have hown : s.vm.findClass RX7 = some m.cls := findClass_of_methodNamed B.named
  have hlocks := B.notSynchronized
  subst hsz
  have hD := hD0.self (sz := s.heap.size)
  generalize hAe : va_A ([]) s.heap.size = A at hD hZ ⊢
  have hA : ∀ q : Nat, s.heap.size ≤ q → A q := fun q h => by rw [← hAe]; exact Or.inr h
  have hS : va_S A s.heap s.heap [] := va_S.rf
  have hP : va_P (dC, dI) vwCl [] s.heap := hP
  have hD : va_D A [] := hD
  have hl := lv_entry [.int p0, .int p1, .int p2] (n := 3) (Nat.le_of_ble_eq_true rfl)
  rw [lg_entry_eq]
  generalize (lg_sl [.int p0, .int p1, .int p2] ++ List.replicate (3 - (lg_sl [.int p0, .int p1, .int p2]).length) Slot.unset).toArray = ls at hl ⊢
  have hl : lv_has ls 3 [(0, .int p0), (1, .int p1), (2, .int p2)] := hl
  rw [f_X7_isWithin] at hf
  refine lv_iload_n hx hb dX7_isWithin_0 rfl (lv_at hl 0 rfl) ?_
  refine lv_iload_n hx hb dX7_isWithin_1 rfl (lv_at hl 1 rfl) ?_
  refine lv_icmp_lt (tgt := 14) hx hb dX7_isWithin_2 (by decide) (fun q1 => ?_) (fun q1 => ?_)
  · have hf := it q1 hf
    refine lv_iconst (v := 0) hx hb dX7_isWithin_14 (by decide) ?_
    exact W.zret hx hb hr rfl (fun t ht hW => ⟨⟨_, (), rfl, sm hf, by rw [ht]; exact hP, hD⟩, hS.F ht⟩) hS.2.2 dX7_isWithin_15
  · have hf := ie q1 hf
    refine lv_iload_n hx hb dX7_isWithin_5 rfl (lv_at hl 0 rfl) ?_
    refine lv_iload_n hx hb dX7_isWithin_6 rfl (lv_at hl 2 rfl) ?_
    refine lv_icmp_gt (tgt := 14) hx hb dX7_isWithin_7 (by decide) (fun q2 => ?_) (fun q2 => ?_)
    · have hf := it q2 hf
      refine lv_iconst (v := 0) hx hb dX7_isWithin_14 (by decide) ?_
      exact W.zret hx hb hr rfl (fun t ht hW => ⟨⟨_, (), rfl, sm hf, by rw [ht]; exact hP, hD⟩, hS.F ht⟩) hS.2.2 dX7_isWithin_15
    · have hf := ie q2 hf
      refine lv_iconst (v := 1) hx hb dX7_isWithin_10 (by decide) ?_
      refine lv_goto (tgt := 15) hx hb dX7_isWithin_11 (by decide) ?_
      exact W.zret hx hb hr rfl (fun t ht hW => ⟨⟨_, (), rfl, sm hf, by rw [ht]; exact hP, hD⟩, hS.F ht⟩) hS.2.2 dX7_isWithin_15
/-! X5_copyFrom -/
def f_X5_copyFrom (a0 : Ar) (a1 : Int32) (a2 : Int32) (a3 : Int32) (b0 : Ar) (b1 : Int32) (b2 : Int32) (b3 : Int32) : Option (SX5) :=
  some (b0, b1, b2, b3)
set_option maxRecDepth 100000 in
set_option maxHeartbeats 4000000 in
theorem m_X5_copyFrom (l : Launch) (dC : Nat → ClassId) (dI : Nat → Nat → Nat) (dA gz : Nat → Nat) (oa : Nat → Nat) (ob : Nat → Nat) (sz : Nat) (a0 : Ar) (a1 : Int32) (a2 : Int32) (a3 : Int32) (b0 : Ar) (b1 : Int32) (b2 : Int32) (b3 : Int32) (uu : SX5) (hf : f_X5_copyFrom a0 a1 a2 a3 b0 b1 b2 b3 = some uu) : Met l yX5_copyFrom ws_X5_copyFrom ({ frames := 10, cells := 0, slots := 0, locals := 200 } : Room) (va_Pc [.ref (oa 0), .ref (ob 0)] (pP (dC, dI) dA gz (wX5 dA oa (a0, a1, a2, a3) ++ wX5 dA ob (b0, b1, b2, b3)) sz)) (va_Qv (S := Unit) (fun _ => True) (fun _ t => pQ (dC, dI) (va_A (wX5 dA oa (a0, a1, a2, a3) ++ wX5 dA ob (b0, b1, b2, b3)) sz) (wX5 dA oa uu ++ wX5 dA ob (b0, b1, b2, b3)) t) (va_A (wX5 dA oa (a0, a1, a2, a3) ++ wX5 dA ob (b0, b1, b2, b3)) sz)) 0 0 (va_A (wX5 dA oa (a0, a1, a2, a3) ++ wX5 dA ob (b0, b1, b2, b3)) sz) := by
  refine Met.ofW (cc := cX5_copyFrom) (maxL := 2) (ret := none) (by decide) rfl ?_
  intro p e s m args below meth c s₁ B hml hv
  obtain ⟨rfl, hsz, hP, hK, hD0, hN, hZ⟩ := hv
  have hx := B.exec
  have hb := B.bytes
  have hr := B.returns
  have hts := atoms_spec (ws := ws_X5_copyFrom) B.pre
  have hown : s.vm.findClass RX5 = some m.cls := findClass_of_methodNamed B.named
  have hlocks := B.notSynchronized
  subst hsz
  have hD := hD0.self (sz := s.heap.size)
  generalize hAe : va_A (wX5 dA oa (a0, a1, a2, a3) ++ wX5 dA ob (b0, b1, b2, b3)) s.heap.size = A at hD hZ ⊢
  have hA : ∀ q : Nat, s.heap.size ≤ q → A q := fun q h => by rw [← hAe]; exact Or.inr h
  have hS : va_S A s.heap s.heap [] := va_S.rf
  have hP : va_P (dC, dI) vwCl [(oa 0, .inr (9, [.ref (oa 1), .int a1, .int a2, .int a3])), (oa 1, .inl (dA 1, 5, .inl a0)), (ob 0, .inr (9, [.ref (ob 1), .int b1, .int b2, .int b3])), (ob 1, .inl (dA 1, 5, .inl b0))] s.heap := hP
  have hD : va_D A [(oa 0, .inr (9, [.ref (oa 1), .int a1, .int a2, .int a3])), (oa 1, .inl (dA 1, 5, .inl a0)), (ob 0, .inr (9, [.ref (ob 1), .int b1, .int b2, .int b3])), (ob 1, .inl (dA 1, 5, .inl b0))] := hD
  have hl := lv_entry [.ref (oa 0), .ref (ob 0)] (n := 2) (Nat.le_of_ble_eq_true rfl)
  rw [lg_entry_eq]
  generalize (lg_sl [.ref (oa 0), .ref (ob 0)] ++ List.replicate (2 - (lg_sl [.ref (oa 0), .ref (ob 0)]).length) Slot.unset).toArray = ls at hl ⊢
  have hl : lv_has ls 2 [(0, .ref (oa 0)), (1, .ref (ob 0))] := hl
  have in_X5 : ∀ w ∈ wsX50, w ∈ ws_X5_copyFrom := fun w h => bg _ (inB_X5 w h)
  rw [f_X5_copyFrom] at hf
  refine lv_aload_n hx hb dX5_copyFrom_0 rfl (lv_at hl 1 rfl) ?_
  refine va_get (D := (dC, dI)) (ci := 9) (v := .ref (ob 1)) (C := RX5) (T := TX5) (N := 4) hx hb hts in_X5 hown hK hP 2 rfl rfl 0 (by decide) (hts _ (bg _ wd_147)) (fun _ h9 => h9) rfl dX5_copyFrom_1 ?_
  refine lv_iconst (v := 0) hx hb dX5_copyFrom_4 (by decide) ?_
  refine lv_aload_n hx hb dX5_copyFrom_5 rfl (lv_at hl 0 rfl) ?_
  refine va_get (D := (dC, dI)) (ci := 9) (v := .ref (oa 1)) (C := RX5) (T := TX5) (N := 4) hx hb hts in_X5 hown hK hP 0 rfl rfl 0 (by decide) (hts _ (bg _ wd_147)) (fun _ h9 => h9) rfl dX5_copyFrom_6 ?_
  refine lv_iconst (v := 0) hx hb dX5_copyFrom_9 (by decide) ?_
  refine lv_iconst (v := 5) hx hb dX5_copyFrom_10 (by decide) ?_
  refine va_copyi hx hb (hml.trans hl.1.symm) hown (hts _ (bg _ wd_340)) (hts _ (bg _ wd_326)) (hts _ (bg _ wd_325)) (hts _ (bg _ wd_20)) hK hP hD hS 3 1 1 1 rfl rfl rfl rfl rfl (by decide) (by decide) (by decide) (by decide) (by decide) (fun _ _ => rfl) (Nat.le_of_ble_eq_true rfl) (Nat.le_of_ble_eq_true (by decide +kernel)) dX5_copyFrom_11 (fun H locs hP hD hS => ?_)
  have hP := P_cp (i := 0) (j := 0) (k := 5) (n := 5) rfl rfl rfl hP
  have hD := D_sw (e2 := .inl (dA 1, 5, .inl b0)) hD (Nat.le_of_ble_eq_true rfl)
  have hP : va_P (dC, dI) vwCl [(oa 0, .inr (9, [.ref (oa 1), .int a1, .int a2, .int a3])), (oa 1, .inl (dA 1, 5, .inl b0)), (ob 0, .inr (9, [.ref (ob 1), .int b1, .int b2, .int b3])), (ob 1, .inl (dA 1, 5, .inl b0))] H := hP
  have hD : va_D A [(oa 0, .inr (9, [.ref (oa 1), .int a1, .int a2, .int a3])), (oa 1, .inl (dA 1, 5, .inl b0)), (ob 0, .inr (9, [.ref (ob 1), .int b1, .int b2, .int b3])), (ob 1, .inl (dA 1, 5, .inl b0))] := hD
  refine lv_aload_n hx hb dX5_copyFrom_14 rfl (lv_at hl 0 rfl) ?_
  refine lv_aload_n hx hb dX5_copyFrom_15 rfl (lv_at hl 1 rfl) ?_
  refine va_get (D := (dC, dI)) (ci := 9) (v := .int b1) (C := RX5) (T := TX5) (N := 4) hx hb hts in_X5 hown hK hP 2 rfl rfl 1 (by decide) (hts _ (bg _ wd_149)) (fun _ h9 => h9) rfl dX5_copyFrom_16 ?_
  refine va_put (D := (dC, dI)) (ci := 9) (v := .int b1) (ty := .int) (C := RX5) (T := TX5) (N := 4) hx hb hts in_X5 tyX5 tyX5_ok nmX5 hown hK hP hD hS 0 rfl rfl 1 (by decide) (hts _ (bg _ wd_149)) (fun _ h9 => h9) rfl (by decide +kernel) rfl rfl (Nat.le_of_ble_eq_true rfl) dX5_copyFrom_19 (fun H locs hP hD hS => ?_)
  have hP : va_P (dC, dI) vwCl [(oa 0, .inr (9, [.ref (oa 1), .int b1, .int a2, .int a3])), (oa 1, .inl (dA 1, 5, .inl b0)), (ob 0, .inr (9, [.ref (ob 1), .int b1, .int b2, .int b3])), (ob 1, .inl (dA 1, 5, .inl b0))] H := hP
  have hD : va_D A [(oa 0, .inr (9, [.ref (oa 1), .int b1, .int a2, .int a3])), (oa 1, .inl (dA 1, 5, .inl b0)), (ob 0, .inr (9, [.ref (ob 1), .int b1, .int b2, .int b3])), (ob 1, .inl (dA 1, 5, .inl b0))] := hD
  refine lv_aload_n hx hb dX5_copyFrom_22 rfl (lv_at hl 0 rfl) ?_
  refine lv_aload_n hx hb dX5_copyFrom_23 rfl (lv_at hl 1 rfl) ?_
  refine va_get (D := (dC, dI)) (ci := 9) (v := .int b2) (C := RX5) (T := TX5) (N := 4) hx hb hts in_X5 hown hK hP 2 rfl rfl 2 (by decide) (hts _ (bg _ wd_152)) (fun _ h9 => h9) rfl dX5_copyFrom_24 ?_
  refine va_put (D := (dC, dI)) (ci := 9) (v := .int b2) (ty := .int) (C := RX5) (T := TX5) (N := 4) hx hb hts in_X5 tyX5 tyX5_ok nmX5 hown hK hP hD hS 0 rfl rfl 2 (by decide) (hts _ (bg _ wd_152)) (fun _ h9 => h9) rfl (by decide +kernel) rfl rfl (Nat.le_of_ble_eq_true rfl) dX5_copyFrom_27 (fun H locs hP hD hS => ?_)
  have hP : va_P (dC, dI) vwCl [(oa 0, .inr (9, [.ref (oa 1), .int b1, .int b2, .int a3])), (oa 1, .inl (dA 1, 5, .inl b0)), (ob 0, .inr (9, [.ref (ob 1), .int b1, .int b2, .int b3])), (ob 1, .inl (dA 1, 5, .inl b0))] H := hP
  have hD : va_D A [(oa 0, .inr (9, [.ref (oa 1), .int b1, .int b2, .int a3])), (oa 1, .inl (dA 1, 5, .inl b0)), (ob 0, .inr (9, [.ref (ob 1), .int b1, .int b2, .int b3])), (ob 1, .inl (dA 1, 5, .inl b0))] := hD
  refine lv_aload_n hx hb dX5_copyFrom_30 rfl (lv_at hl 0 rfl) ?_
  refine lv_aload_n hx hb dX5_copyFrom_31 rfl (lv_at hl 1 rfl) ?_
  refine va_get (D := (dC, dI)) (ci := 9) (v := .int b3) (C := RX5) (T := TX5) (N := 4) hx hb hts in_X5 hown hK hP 2 rfl rfl 3 (by decide) (hts _ (bg _ wd_155)) (fun _ h9 => h9) rfl dX5_copyFrom_32 ?_
  refine va_put (D := (dC, dI)) (ci := 9) (v := .int b3) (ty := .int) (C := RX5) (T := TX5) (N := 4) hx hb hts in_X5 tyX5 tyX5_ok nmX5 hown hK hP hD hS 0 rfl rfl 3 (by decide) (hts _ (bg _ wd_155)) (fun _ h9 => h9) rfl (by decide +kernel) rfl rfl (Nat.le_of_ble_eq_true rfl) dX5_copyFrom_35 (fun H locs hP hD hS => ?_)
  have hP : va_P (dC, dI) vwCl [(oa 0, .inr (9, [.ref (oa 1), .int b1, .int b2, .int b3])), (oa 1, .inl (dA 1, 5, .inl b0)), (ob 0, .inr (9, [.ref (ob 1), .int b1, .int b2, .int b3])), (ob 1, .inl (dA 1, 5, .inl b0))] H := hP
  have hD : va_D A [(oa 0, .inr (9, [.ref (oa 1), .int b1, .int b2, .int b3])), (oa 1, .inl (dA 1, 5, .inl b0)), (ob 0, .inr (9, [.ref (ob 1), .int b1, .int b2, .int b3])), (ob 1, .inl (dA 1, 5, .inl b0))] := hD
  have e9 := sm hf
  exact W.vret hx hb hr (fun t ht hW => ⟨⟨(), rfl, trivial, by rw [← e9, ht]; exact hP, by rw [← e9]; exact hD⟩, hS.F ht⟩) hS.2.2 dX5_copyFrom_38
/-! X5_count -/
def f_X5_count (a0 : Ar) (a1 : Int32) (a2 : Int32) (a3 : Int32) (p1 : Int32) (p2 : Int32) : Option (SX5) :=
  (f_X7_isWithin p1 0 4).bind fun r2 =>
  (if r2 = 0 then some (a0, a1, a2, a3) else
  if p1 < 0 ∨ 5 ≤ p1.toNatClampNeg then none else
  if p1 < 0 ∨ 5 ≤ p1.toNatClampNeg then none else
  some ((upd a0 p1.toNatClampNeg ((a0 p1.toNatClampNeg) + 1)), a1, a2, (a3 + p2)))
set_option maxRecDepth 100000 in
set_option maxHeartbeats 4000000 in
theorem m_X5_count (l : Launch) (dC : Nat → ClassId) (dI : Nat → Nat → Nat) (dA gz : Nat → Nat) (oa : Nat → Nat) (sz : Nat) (a0 : Ar) (a1 : Int32) (a2 : Int32) (a3 : Int32) (p1 : Int32) (p2 : Int32) (uu : SX5) (hf : f_X5_count a0 a1 a2 a3 p1 p2 = some uu) : Met l yX5_count ws_X5_count ({ frames := 14, cells := 0, slots := 0, locals := 400 } : Room) (va_Pc [.ref (oa 0), .int p1, .int p2] (pP (dC, dI) dA gz (wX5 dA oa (a0, a1, a2, a3)) sz)) (va_Qv (S := Unit) (fun _ => True) (fun _ t => pQ (dC, dI) (va_A (wX5 dA oa (a0, a1, a2, a3)) sz) (wX5 dA oa uu) t) (va_A (wX5 dA oa (a0, a1, a2, a3)) sz)) 0 0 (va_A (wX5 dA oa (a0, a1, a2, a3)) sz) := by
  refine Met.ofW (cc := cX5_count) (maxL := 3) (ret := none) (by decide) rfl ?_
  intro p e s m args below meth c s₁ B hml hv
  obtain ⟨rfl, hsz, hP, hK, hD0, hN, hZ⟩ := hv
  have hx := B.exec
  have hb := B.bytes
  have hr := B.returns
  have hts := atoms_spec (ws := ws_X5_count) B.pre
  have hown : s.vm.findClass RX5 = some m.cls := findClass_of_methodNamed B.named
  have hlocks := B.notSynchronized
  subst hsz
  have hD := hD0.self (sz := s.heap.size)
  generalize hAe : va_A (wX5 dA oa (a0, a1, a2, a3)) s.heap.size = A at hD hZ ⊢
  have hA : ∀ q : Nat, s.heap.size ≤ q → A q := fun q h => by rw [← hAe]; exact Or.inr h
  have hS : va_S A s.heap s.heap [] := va_S.rf
  have hP : va_P (dC, dI) vwCl [(oa 0, .inr (9, [.ref (oa 1), .int a1, .int a2, .int a3])), (oa 1, .inl (dA 1, 5, .inl a0))] s.heap := hP
  have hD : va_D A [(oa 0, .inr (9, [.ref (oa 1), .int a1, .int a2, .int a3])), (oa 1, .inl (dA 1, 5, .inl a0))] := hD
  have hl := lv_entry [.ref (oa 0), .int p1, .int p2] (n := 3) (Nat.le_of_ble_eq_true rfl)
  rw [lg_entry_eq]
  generalize (lg_sl [.ref (oa 0), .int p1, .int p2] ++ List.replicate (3 - (lg_sl [.ref (oa 0), .int p1, .int p2]).length) Slot.unset).toArray = ls at hl ⊢
  have hl : lv_has ls 3 [(0, .ref (oa 0)), (1, .int p1), (2, .int p2)] := hl
  have in_X5 : ∀ w ∈ wsX50, w ∈ ws_X5_count := fun w h => bg _ (inB_X5 w h)
  rw [f_X5_count] at hf
  refine lv_iload_n hx hb dX5_count_0 rfl (lv_at hl 1 rfl) ?_
  refine lv_iconst (v := 0) hx hb dX5_count_1 (by decide) ?_
  refine lv_iconst (v := 4) hx hb dX5_count_2 (by decide) ?_
  obtain ⟨r2, e1, hf⟩ := bd hf
  refine jr_i (va_runSN (As := [.int p1, .int 0, .int 4]) (rest := []) ⟨hx, hb, hml, hown, hts⟩ (m_X7_isWithin l dC dI dA gz  s.heap.size p1 0 4 r2 e1) ⟨va_cnB 3 hts (gi_n bg wd_364) rfl rfl rfl (hN _ ng_16) (hts _ (bg _ wd_1)) hd3_X7_isWithin ⟨Nat.le_of_ble_eq_true rfl, Nat.le_of_ble_eq_true rfl⟩, hts _ (bg _ wd_363), trivial⟩ ⟨pP_blind, pP_pre hP hD hS hA hK hN hZ [] (by decide) rfl⟩ rfl rfl hl.1 rfl (lv_room (Nat.le_of_ble_eq_true rfl)) dX5_count_3 ⟨Nat.le_of_ble_eq_true rfl, Nat.le_of_ble_eq_true rfl⟩) hP hD hS hA [] rfl (fun H locs hP hS => ?_)
  refine lv_if_eq (tgt := 29) hx hb dX5_count_6 (by decide) (fun q3 => ?_) (fun q3 => ?_)
  · have hf := it q3 hf
    have e9 := sm hf
    exact W.vret hx hb hr (fun t ht hW => ⟨⟨(), rfl, trivial, by rw [← e9, ht]; exact hP, by rw [← e9]; exact hD⟩, hS.F ht⟩) hS.2.2 dX5_count_29
  · have hf := ie q3 hf
    refine lv_aload_n hx hb dX5_count_9 rfl (lv_at hl 0 rfl) ?_
    refine va_get (D := (dC, dI)) (ci := 9) (v := .ref (oa 1)) (C := RX5) (T := TX5) (N := 4) hx hb hts in_X5 hown hK hP 0 rfl rfl 0 (by decide) (hts _ (bg _ wd_147)) (fun _ h9 => h9) rfl dX5_count_10 ?_
    refine lv_iload_n hx hb dX5_count_13 rfl (lv_at hl 1 rfl) ?_
    refine lv_dup2_11 hx hb dX5_count_14 rfl rfl ?_
    obtain ⟨z4, hf⟩ := gd hf
    refine va_iald hx hb hK hP 1 1 rfl rfl z4 dX5_count_15 ?_
    refine lv_iconst (v := 1) hx hb dX5_count_16 (by decide) ?_
    refine lv_iadd hx hb dX5_count_17 ?_
    obtain ⟨z5, hf⟩ := gd hf
    refine va_iast hx hb hK hP hD hS 1 1 rfl rfl z5 dX5_count_18 (fun H locs hP hD hS => ?_)
    have hP : va_P (dC, dI) vwCl [(oa 0, .inr (9, [.ref (oa 1), .int a1, .int a2, .int a3])), (oa 1, .inl (dA 1, 5, .inl (upd a0 p1.toNatClampNeg ((a0 p1.toNatClampNeg) + 1))))] H := hP
    have hD : va_D A [(oa 0, .inr (9, [.ref (oa 1), .int a1, .int a2, .int a3])), (oa 1, .inl (dA 1, 5, .inl (upd a0 p1.toNatClampNeg ((a0 p1.toNatClampNeg) + 1))))] := hD
    refine lv_aload_n hx hb dX5_count_19 rfl (lv_at hl 0 rfl) ?_
    refine lv_dup hx hb dX5_count_20 rfl ?_
    refine va_get (D := (dC, dI)) (ci := 9) (v := .int a3) (C := RX5) (T := TX5) (N := 4) hx hb hts in_X5 hown hK hP 0 rfl rfl 3 (by decide) (hts _ (bg _ wd_155)) (fun _ h9 => h9) rfl dX5_count_21 ?_
    refine lv_iload_n hx hb dX5_count_24 rfl (lv_at hl 2 rfl) ?_
    refine lv_iadd hx hb dX5_count_25 ?_
    refine va_put (D := (dC, dI)) (ci := 9) (v := .int (a3 + p2)) (ty := .int) (C := RX5) (T := TX5) (N := 4) hx hb hts in_X5 tyX5 tyX5_ok nmX5 hown hK hP hD hS 0 rfl rfl 3 (by decide) (hts _ (bg _ wd_155)) (fun _ h9 => h9) rfl (by decide +kernel) rfl rfl (Nat.le_of_ble_eq_true rfl) dX5_count_26 (fun H locs hP hD hS => ?_)
    have hP : va_P (dC, dI) vwCl [(oa 0, .inr (9, [.ref (oa 1), .int a1, .int a2, .int (a3 + p2)])), (oa 1, .inl (dA 1, 5, .inl (upd a0 p1.toNatClampNeg ((a0 p1.toNatClampNeg) + 1))))] H := hP
    have hD : va_D A [(oa 0, .inr (9, [.ref (oa 1), .int a1, .int a2, .int (a3 + p2)])), (oa 1, .inl (dA 1, 5, .inl (upd a0 p1.toNatClampNeg ((a0 p1.toNatClampNeg) + 1))))] := hD
    have e9 := sm hf
    exact W.vret hx hb hr (fun t ht hW => ⟨⟨(), rfl, trivial, by rw [← e9, ht]; exact hP, by rw [← e9]; exact hD⟩, hS.F ht⟩) hS.2.2 dX5_count_29
