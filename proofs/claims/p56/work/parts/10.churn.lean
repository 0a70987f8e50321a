/-! X1_add -/
def f_X1_add (a0 : Int32) (a1 : Int32) (a2 : Int32) (a3 : Int32) (p1 : Int32) : Option (SX1) :=
  (if (a0 + p1) ≤ 0 then some (a0, a1, a2, a3) else
  if (a0 + p1) = 0 then none else
  if (a0 + p1) = 0 then none else
  some ((a0 + p1), (((a1 * a0) + (20 * p1)) / (a0 + p1)), ((a2 * a0) / (a0 + p1)), a3))
set_option maxRecDepth 100000 in
set_option maxHeartbeats 4000000 in
theorem m_X1_add (l : Launch) (dC : Nat → ClassId) (dI : Nat → Nat → Nat) (dA gz : Nat → Nat) (oa : Nat → Nat) (sz : Nat) (a0 : Int32) (a1 : Int32) (a2 : Int32) (a3 : Int32) (p1 : Int32) (uu : SX1) (hf : f_X1_add a0 a1 a2 a3 p1 = some uu) : Met l yX1_add ws_X1_add ({ frames := 10, cells := 0, slots := 0, locals := 200 } : Room) (va_Pc [.ref (oa 0), .int p1] (pP (dC, dI) dA gz (wX1 dA oa (a0, a1, a2, a3)) sz)) (va_Qv (S := Unit) (fun _ => True) (fun _ t => pQ (dC, dI) (va_A (wX1 dA oa (a0, a1, a2, a3)) sz) (wX1 dA oa uu) t) (va_A (wX1 dA oa (a0, a1, a2, a3)) sz)) 0 0 (va_A (wX1 dA oa (a0, a1, a2, a3)) sz) := by
  refine Met.ofW (cc := cX1_add) (maxL := 3) (ret := none) (by decide) rfl ?_
  intro p e s m args below meth c s₁ B hml hv
  obtain ⟨rfl, hsz, hP, hK, hD0, hN, hZ⟩ := hv
  have hx := B.exec
  have hb := B.bytes
  have hr := B.returns
  have hts := atoms_spec (ws := ws_X1_add) B.pre
  have hown : s.vm.findClass RX1 = some m.cls := findClass_of_methodNamed B.named
  have hlocks := B.notSynchronized
  subst hsz
  have hD := hD0.self (sz := s.heap.size)
  generalize hAe : va_A (wX1 dA oa (a0, a1, a2, a3)) s.heap.size = A at hD hZ ⊢
  have hA : ∀ q : Nat, s.heap.size ≤ q → A q := fun q h => by rw [← hAe]; exact Or.inr h
  have hS : va_S A s.heap s.heap [] := va_S.rf
  have hP : va_P (dC, dI) vwCl [(oa 0, .inr (5, [.int a0, .int a1, .int a2, .int a3]))] s.heap := hP
  have hD : va_D A [(oa 0, .inr (5, [.int a0, .int a1, .int a2, .int a3]))] := hD
  have hl := lv_entry [.ref (oa 0), .int p1] (n := 3) (Nat.le_of_ble_eq_true rfl)
  rw [lg_entry_eq]
  generalize (lg_sl [.ref (oa 0), .int p1] ++ List.replicate (3 - (lg_sl [.ref (oa 0), .int p1]).length) Slot.unset).toArray = ls at hl ⊢
  have hl : lv_has ls 3 [(0, .ref (oa 0)), (1, .int p1)] := hl
  have in_X1 : ∀ w ∈ wsX10, w ∈ ws_X1_add := fun w h => bg _ (inB_X1 w h)
  rw [f_X1_add] at hf
  refine lv_aload_n hx hb dX1_add_0 rfl (lv_at hl 0 rfl) ?_
  refine va_get (D := (dC, dI)) (ci := 5) (v := .int a0) (C := RX1) (T := TX1) (N := 4) hx hb hts in_X1 hown hK hP 0 rfl rfl 0 (by decide) (hts _ (bg _ wd_93)) (fun _ h9 => h9) rfl dX1_add_1 ?_
  refine lv_iload_n hx hb dX1_add_4 rfl (lv_at hl 1 rfl) ?_
  refine lv_iadd hx hb dX1_add_5 ?_
  refine lv_istore_n (lv' := [(2, .int (a0 + p1)), (0, .ref (oa 0)), (1, .int p1)]) hx hb dX1_add_6 rfl hl (by decide) rfl (fun ls hl => ?_)
  refine lv_iload_n hx hb dX1_add_7 rfl (lv_at hl 0 rfl) ?_
  refine lv_if_le (tgt := 51) hx hb dX1_add_8 (by decide) (fun q1 => ?_) (fun q1 => ?_)
  · have hf := it q1 hf
    have e9 := sm hf
    exact W.vret hx hb hr (fun t ht hW => ⟨⟨(), rfl, trivial, by rw [← e9, ht]; exact hP, by rw [← e9]; exact hD⟩, hS.F ht⟩) hS.2.2 dX1_add_51
  · have hf := ie q1 hf
    refine lv_aload_n hx hb dX1_add_11 rfl (lv_at hl 1 rfl) ?_
    refine lv_aload_n hx hb dX1_add_12 rfl (lv_at hl 1 rfl) ?_
    refine va_get (D := (dC, dI)) (ci := 5) (v := .int a1) (C := RX1) (T := TX1) (N := 4) hx hb hts in_X1 hown hK hP 0 rfl rfl 1 (by decide) (hts _ (bg _ wd_96)) (fun _ h9 => h9) rfl dX1_add_13 ?_
    refine lv_aload_n hx hb dX1_add_16 rfl (lv_at hl 1 rfl) ?_
    refine va_get (D := (dC, dI)) (ci := 5) (v := .int a0) (C := RX1) (T := TX1) (N := 4) hx hb hts in_X1 hown hK hP 0 rfl rfl 0 (by decide) (hts _ (bg _ wd_93)) (fun _ h9 => h9) rfl dX1_add_17 ?_
    refine lv_imul hx hb dX1_add_20 ?_
    refine lv_bipush (v := 20) hx hb dX1_add_21 (by decide) ?_
    refine lv_iload_n hx hb dX1_add_23 rfl (lv_at hl 2 rfl) ?_
    refine lv_imul hx hb dX1_add_24 ?_
    refine lv_iadd hx hb dX1_add_25 ?_
    refine lv_iload_n hx hb dX1_add_26 rfl (lv_at hl 0 rfl) ?_
    obtain ⟨z2, hf⟩ := gd hf
    refine lv_idiv hx hb dX1_add_27 z2 ?_
    refine va_put (D := (dC, dI)) (ci := 5) (v := .int (((a1 * a0) + (20 * p1)) / (a0 + p1))) (ty := .int) (C := RX1) (T := TX1) (N := 4) hx hb hts in_X1 tyX1 tyX1_ok nmX1 hown hK hP hD hS 0 rfl rfl 1 (by decide) (hts _ (bg _ wd_96)) (fun _ h9 => h9) rfl (by decide +kernel) rfl rfl (Nat.le_of_ble_eq_true rfl) dX1_add_28 (fun H locs hP hD hS => ?_)
    have hP : va_P (dC, dI) vwCl [(oa 0, .inr (5, [.int a0, .int (((a1 * a0) + (20 * p1)) / (a0 + p1)), .int a2, .int a3]))] H := hP
    have hD : va_D A [(oa 0, .inr (5, [.int a0, .int (((a1 * a0) + (20 * p1)) / (a0 + p1)), .int a2, .int a3]))] := hD
    refine lv_aload_n hx hb dX1_add_31 rfl (lv_at hl 1 rfl) ?_
    refine lv_aload_n hx hb dX1_add_32 rfl (lv_at hl 1 rfl) ?_
    refine va_get (D := (dC, dI)) (ci := 5) (v := .int a2) (C := RX1) (T := TX1) (N := 4) hx hb hts in_X1 hown hK hP 0 rfl rfl 2 (by decide) (hts _ (bg _ wd_99)) (fun _ h9 => h9) rfl dX1_add_33 ?_
    refine lv_aload_n hx hb dX1_add_36 rfl (lv_at hl 1 rfl) ?_
    refine va_get (D := (dC, dI)) (ci := 5) (v := .int a0) (C := RX1) (T := TX1) (N := 4) hx hb hts in_X1 hown hK hP 0 rfl rfl 0 (by decide) (hts _ (bg _ wd_93)) (fun _ h9 => h9) rfl dX1_add_37 ?_
    refine lv_imul hx hb dX1_add_40 ?_
    refine lv_iload_n hx hb dX1_add_41 rfl (lv_at hl 0 rfl) ?_
    obtain ⟨z3, hf⟩ := gd hf
    refine lv_idiv hx hb dX1_add_42 z3 ?_
    refine va_put (D := (dC, dI)) (ci := 5) (v := .int ((a2 * a0) / (a0 + p1))) (ty := .int) (C := RX1) (T := TX1) (N := 4) hx hb hts in_X1 tyX1 tyX1_ok nmX1 hown hK hP hD hS 0 rfl rfl 2 (by decide) (hts _ (bg _ wd_99)) (fun _ h9 => h9) rfl (by decide +kernel) rfl rfl (Nat.le_of_ble_eq_true rfl) dX1_add_43 (fun H locs hP hD hS => ?_)
    have hP : va_P (dC, dI) vwCl [(oa 0, .inr (5, [.int a0, .int (((a1 * a0) + (20 * p1)) / (a0 + p1)), .int ((a2 * a0) / (a0 + p1)), .int a3]))] H := hP
    have hD : va_D A [(oa 0, .inr (5, [.int a0, .int (((a1 * a0) + (20 * p1)) / (a0 + p1)), .int ((a2 * a0) / (a0 + p1)), .int a3]))] := hD
    refine lv_aload_n hx hb dX1_add_46 rfl (lv_at hl 1 rfl) ?_
    refine lv_iload_n hx hb dX1_add_47 rfl (lv_at hl 0 rfl) ?_
    refine va_put (D := (dC, dI)) (ci := 5) (v := .int (a0 + p1)) (ty := .int) (C := RX1) (T := TX1) (N := 4) hx hb hts in_X1 tyX1 tyX1_ok nmX1 hown hK hP hD hS 0 rfl rfl 0 (by decide) (hts _ (bg _ wd_93)) (fun _ h9 => h9) rfl (by decide +kernel) rfl rfl (Nat.le_of_ble_eq_true rfl) dX1_add_48 (fun H locs hP hD hS => ?_)
    have hP : va_P (dC, dI) vwCl [(oa 0, .inr (5, [.int (a0 + p1), .int (((a1 * a0) + (20 * p1)) / (a0 + p1)), .int ((a2 * a0) / (a0 + p1)), .int a3]))] H := hP
    have hD : va_D A [(oa 0, .inr (5, [.int (a0 + p1), .int (((a1 * a0) + (20 * p1)) / (a0 + p1)), .int ((a2 * a0) / (a0 + p1)), .int a3]))] := hD
    have e9 := sm hf
    exact W.vret hx hb hr (fun t ht hW => ⟨⟨(), rfl, trivial, by rw [← e9, ht]; exact hP, by rw [← e9]; exact hD⟩, hS.F ht⟩) hS.2.2 dX1_add_51
/-! X1_cracksOfPat -/
def f_X1_cracksOfPat (a0 : Int32) (a1 : Int32) (a2 : Int32) (a3 : Int32) : Option (Int32) :=
  (if a1 ≤ 100 then some ((a3 / 10) + 0) else
  some ((a3 / 10) + 1))
set_option maxRecDepth 100000 in
set_option maxHeartbeats 4000000 in
theorem m_X1_cracksOfPat (l : Launch) (dC : Nat → ClassId) (dI : Nat → Nat → Nat) (dA gz : Nat → Nat) (oa : Nat → Nat) (sz : Nat) (a0 : Int32) (a1 : Int32) (a2 : Int32) (a3 : Int32) (rr : Int32) (hf : f_X1_cracksOfPat a0 a1 a2 a3 = some rr) : Met l yX1_cracksOfPat ws_X1_cracksOfPat ({ frames := 10, cells := 0, slots := 0, locals := 200 } : Room) (va_Pc [.ref (oa 0)] (pP (dC, dI) dA gz (wX1 dA oa (a0, a1, a2, a3)) sz)) (va_Qi (S := Unit) (fun r' _ => r' = rr) (fun _ t => pQ (dC, dI) (va_A (wX1 dA oa (a0, a1, a2, a3)) sz) (wX1 dA oa (a0, a1, a2, a3)) t) (va_A (wX1 dA oa (a0, a1, a2, a3)) sz)) 0 0 (va_A (wX1 dA oa (a0, a1, a2, a3)) sz) := by
  refine Met.ofW (cc := cX1_cracksOfPat) (maxL := 2) (ret := (some .int)) (by decide) rfl ?_
  intro p e s m args below meth c s₁ B hml hv
  obtain ⟨rfl, hsz, hP, hK, hD0, hN, hZ⟩ := hv
  have hx := B.exec
  have hb := B.bytes
  have hr := B.returns
  have hts := atoms_spec (ws := ws_X1_cracksOfPat) B.pre
  have hown : s.vm.findClass RX1 = some m.cls := findClass_of_methodNamed B.named
  have hlocks := B.notSynchronized
  subst hsz
  have hD := hD0.self (sz := s.heap.size)
  generalize hAe : va_A (wX1 dA oa (a0, a1, a2, a3)) s.heap.size = A at hD hZ ⊢
  have hA : ∀ q : Nat, s.heap.size ≤ q → A q := fun q h => by rw [← hAe]; exact Or.inr h
  have hS : va_S A s.heap s.heap [] := va_S.rf
  have hP : va_P (dC, dI) vwCl [(oa 0, .inr (5, [.int a0, .int a1, .int a2, .int a3]))] s.heap := hP
  have hD : va_D A [(oa 0, .inr (5, [.int a0, .int a1, .int a2, .int a3]))] := hD
  have hl := lv_entry [.ref (oa 0)] (n := 2) (Nat.le_of_ble_eq_true rfl)
  rw [lg_entry_eq]
  generalize (lg_sl [.ref (oa 0)] ++ List.replicate (2 - (lg_sl [.ref (oa 0)]).length) Slot.unset).toArray = ls at hl ⊢
  have hl : lv_has ls 2 [(0, .ref (oa 0))] := hl
  have in_X1 : ∀ w ∈ wsX10, w ∈ ws_X1_cracksOfPat := fun w h => bg _ (inB_X1 w h)
  rw [f_X1_cracksOfPat] at hf
  refine lv_aload_n hx hb dX1_cracksOfPat_0 rfl (lv_at hl 0 rfl) ?_
  refine va_get (D := (dC, dI)) (ci := 5) (v := .int a1) (C := RX1) (T := TX1) (N := 4) hx hb hts in_X1 hown hK hP 0 rfl rfl 1 (by decide) (hts _ (bg _ wd_96)) (fun _ h9 => h9) rfl dX1_cracksOfPat_1 ?_
  refine lv_bipush (v := 100) hx hb dX1_cracksOfPat_4 (by decide) ?_
  refine lv_icmp_le (tgt := 13) hx hb dX1_cracksOfPat_6 (by decide) (fun q1 => ?_) (fun q1 => ?_)
  · have hf := it q1 hf
    refine lv_iconst (v := 0) hx hb dX1_cracksOfPat_13 (by decide) ?_
    refine lv_istore_n (lv' := [(1, .int 0), (0, .ref (oa 0))]) hx hb dX1_cracksOfPat_14 rfl hl (by decide) rfl (fun ls hl => ?_)
    refine lv_aload_n hx hb dX1_cracksOfPat_15 rfl (lv_at hl 1 rfl) ?_
    refine va_get (D := (dC, dI)) (ci := 5) (v := .int a3) (C := RX1) (T := TX1) (N := 4) hx hb hts in_X1 hown hK hP 0 rfl rfl 3 (by decide) (hts _ (bg _ wd_102)) (fun _ h9 => h9) rfl dX1_cracksOfPat_16 ?_
    refine lv_bipush (v := 10) hx hb dX1_cracksOfPat_19 (by decide) ?_
    refine lv_idiv hx hb dX1_cracksOfPat_21 (by decide) ?_
    refine lv_iload_n hx hb dX1_cracksOfPat_22 rfl (lv_at hl 0 rfl) ?_
    refine lv_iadd hx hb dX1_cracksOfPat_23 ?_
    exact W.iret hx hb hr (fun t ht hW => ⟨⟨_, (), rfl, sm hf, by rw [ht]; exact hP, hD⟩, hS.F ht⟩) hS.2.2 dX1_cracksOfPat_24
  · have hf := ie q1 hf
    refine lv_iconst (v := 1) hx hb dX1_cracksOfPat_9 (by decide) ?_
    refine lv_goto (tgt := 14) hx hb dX1_cracksOfPat_10 (by decide) ?_
    refine lv_istore_n (lv' := [(1, .int 1), (0, .ref (oa 0))]) hx hb dX1_cracksOfPat_14 rfl hl (by decide) rfl (fun ls hl => ?_)
    refine lv_aload_n hx hb dX1_cracksOfPat_15 rfl (lv_at hl 1 rfl) ?_
    refine va_get (D := (dC, dI)) (ci := 5) (v := .int a3) (C := RX1) (T := TX1) (N := 4) hx hb hts in_X1 hown hK hP 0 rfl rfl 3 (by decide) (hts _ (bg _ wd_102)) (fun _ h9 => h9) rfl dX1_cracksOfPat_16 ?_
    refine lv_bipush (v := 10) hx hb dX1_cracksOfPat_19 (by decide) ?_
    refine lv_idiv hx hb dX1_cracksOfPat_21 (by decide) ?_
    refine lv_iload_n hx hb dX1_cracksOfPat_22 rfl (lv_at hl 0 rfl) ?_
    refine lv_iadd hx hb dX1_cracksOfPat_23 ?_
    exact W.iret hx hb hr (fun t ht hW => ⟨⟨_, (), rfl, sm hf, by rw [ht]; exact hP, hD⟩, hS.F ht⟩) hS.2.2 dX1_cracksOfPat_24
/-! X1_turn -/
def f_X1_turn (a0 : Int32) (a1 : Int32) (a2 : Int32) (a3 : Int32) (p1 : Int32) : Option (SX1) :=
  (if a1 ≤ 120 then (if a1 < 40 then some (a0, a1, a2, a3) else
  some (a0, a1, (if (a2 + p1) < 100 then (a2 + p1) else 100), a3)) else
  some (a0, a1, a2, (if (a3 + p1) < 99 then (a3 + p1) else 99)))
set_option maxRecDepth 100000 in
set_option maxHeartbeats 4000000 in
theorem m_X1_turn (l : Launch) (dC : Nat → ClassId) (dI : Nat → Nat → Nat) (dA gz : Nat → Nat) (oa : Nat → Nat) (sz : Nat) (a0 : Int32) (a1 : Int32) (a2 : Int32) (a3 : Int32) (p1 : Int32) (uu : SX1) (hf : f_X1_turn a0 a1 a2 a3 p1 = some uu) : Met l yX1_turn ws_X1_turn ({ frames := 10, cells := 0, slots := 0, locals := 200 } : Room) (va_Pc [.ref (oa 0), .int p1] (pP (dC, dI) dA gz (wX1 dA oa (a0, a1, a2, a3)) sz)) (va_Qv (S := Unit) (fun _ => True) (fun _ t => pQ (dC, dI) (va_A (wX1 dA oa (a0, a1, a2, a3)) sz) (wX1 dA oa uu) t) (va_A (wX1 dA oa (a0, a1, a2, a3)) sz)) 0 0 (va_A (wX1 dA oa (a0, a1, a2, a3)) sz) := by
  refine Met.ofW (cc := cX1_turn) (maxL := 2) (ret := none) (by decide) rfl ?_
  intro p e s m args below meth c s₁ B hml hv
  obtain ⟨rfl, hsz, hP, hK, hD0, hN, hZ⟩ := hv
  have hx := B.exec
  have hb := B.bytes
  have hr := B.returns
  have hts := atoms_spec (ws := ws_X1_turn) B.pre
  have hown : s.vm.findClass RX1 = some m.cls := findClass_of_methodNamed B.named
  have hlocks := B.notSynchronized
  subst hsz
  have hD := hD0.self (sz := s.heap.size)
  generalize hAe : va_A (wX1 dA oa (a0, a1, a2, a3)) s.heap.size = A at hD hZ ⊢
  have hA : ∀ q : Nat, s.heap.size ≤ q → A q := fun q h => by rw [← hAe]; exact Or.inr h
  have hS : va_S A s.heap s.heap [] := va_S.rf
  have hP : va_P (dC, dI) vwCl [(oa 0, .inr (5, [.int a0, .int a1, .int a2, .int a3]))] s.heap := hP
  have hD : va_D A [(oa 0, .inr (5, [.int a0, .int a1, .int a2, .int a3]))] := hD
  have hl := lv_entry [.ref (oa 0), .int p1] (n := 2) (Nat.le_of_ble_eq_true rfl)
  rw [lg_entry_eq]
  generalize (lg_sl [.ref (oa 0), .int p1] ++ List.replicate (2 - (lg_sl [.ref (oa 0), .int p1]).length) Slot.unset).toArray = ls at hl ⊢
  have hl : lv_has ls 2 [(0, .ref (oa 0)), (1, .int p1)] := hl
  have in_X1 : ∀ w ∈ wsX10, w ∈ ws_X1_turn := fun w h => bg _ (inB_X1 w h)
  rw [f_X1_turn] at hf
  refine lv_aload_n hx hb dX1_turn_0 rfl (lv_at hl 0 rfl) ?_
  refine va_get (D := (dC, dI)) (ci := 5) (v := .int a1) (C := RX1) (T := TX1) (N := 4) hx hb hts in_X1 hown hK hP 0 rfl rfl 1 (by decide) (hts _ (bg _ wd_96)) (fun _ h9 => h9) rfl dX1_turn_1 ?_
  refine lv_bipush (v := 120) hx hb dX1_turn_4 (by decide) ?_
  refine lv_icmp_le (tgt := 27) hx hb dX1_turn_6 (by decide) (fun q1 => ?_) (fun q1 => ?_)
  · have hf := it q1 hf
    refine lv_aload_n hx hb dX1_turn_27 rfl (lv_at hl 0 rfl) ?_
    refine va_get (D := (dC, dI)) (ci := 5) (v := .int a1) (C := RX1) (T := TX1) (N := 4) hx hb hts in_X1 hown hK hP 0 rfl rfl 1 (by decide) (hts _ (bg _ wd_96)) (fun _ h9 => h9) rfl dX1_turn_28 ?_
    refine lv_bipush (v := 40) hx hb dX1_turn_31 (by decide) ?_
    refine lv_icmp_lt (tgt := 51) hx hb dX1_turn_33 (by decide) (fun q2 => ?_) (fun q2 => ?_)
    · have hf := it q2 hf
      have e9 := sm hf
      exact W.vret hx hb hr (fun t ht hW => ⟨⟨(), rfl, trivial, by rw [← e9, ht]; exact hP, by rw [← e9]; exact hD⟩, hS.F ht⟩) hS.2.2 dX1_turn_51
    · have hf := ie q2 hf
      refine lv_aload_n hx hb dX1_turn_36 rfl (lv_at hl 0 rfl) ?_
      refine lv_bipush (v := 100) hx hb dX1_turn_37 (by decide) ?_
      refine lv_aload_n hx hb dX1_turn_39 rfl (lv_at hl 0 rfl) ?_
      refine va_get (D := (dC, dI)) (ci := 5) (v := .int a2) (C := RX1) (T := TX1) (N := 4) hx hb hts in_X1 hown hK hP 0 rfl rfl 2 (by decide) (hts _ (bg _ wd_99)) (fun _ h9 => h9) rfl dX1_turn_40 ?_
      refine lv_iload_n hx hb dX1_turn_43 rfl (lv_at hl 1 rfl) ?_
      refine lv_iadd hx hb dX1_turn_44 ?_
      refine va_mmin hx hb (hml.trans hl.1.symm) hown (hts _ (bg _ wd_559)) (hts _ (bg _ wd_483)) (hts _ (bg _ wd_21)) (hts _ (bg _ wd_484)) (Nat.le_of_ble_eq_true rfl) (Nat.le_of_ble_eq_true rfl) (Nat.le_of_ble_eq_true rfl) (Nat.le_of_ble_eq_true rfl) dX1_turn_45 ?_
      refine va_put (D := (dC, dI)) (ci := 5) (v := .int (if (a2 + p1) < 100 then (a2 + p1) else 100)) (ty := .int) (C := RX1) (T := TX1) (N := 4) hx hb hts in_X1 tyX1 tyX1_ok nmX1 hown hK hP hD hS 0 rfl rfl 2 (by decide) (hts _ (bg _ wd_99)) (fun _ h9 => h9) rfl (by decide +kernel) rfl rfl (Nat.le_of_ble_eq_true rfl) dX1_turn_48 (fun H locs hP hD hS => ?_)
      have hP : va_P (dC, dI) vwCl [(oa 0, .inr (5, [.int a0, .int a1, .int (if (a2 + p1) < 100 then (a2 + p1) else 100), .int a3]))] H := hP
      have hD : va_D A [(oa 0, .inr (5, [.int a0, .int a1, .int (if (a2 + p1) < 100 then (a2 + p1) else 100), .int a3]))] := hD
      have e9 := sm hf
      exact W.vret hx hb hr (fun t ht hW => ⟨⟨(), rfl, trivial, by rw [← e9, ht]; exact hP, by rw [← e9]; exact hD⟩, hS.F ht⟩) hS.2.2 dX1_turn_51
  · have hf := ie q1 hf
    refine lv_aload_n hx hb dX1_turn_9 rfl (lv_at hl 0 rfl) ?_
    refine lv_bipush (v := 99) hx hb dX1_turn_10 (by decide) ?_
    refine lv_aload_n hx hb dX1_turn_12 rfl (lv_at hl 0 rfl) ?_
    refine va_get (D := (dC, dI)) (ci := 5) (v := .int a3) (C := RX1) (T := TX1) (N := 4) hx hb hts in_X1 hown hK hP 0 rfl rfl 3 (by decide) (hts _ (bg _ wd_102)) (fun _ h9 => h9) rfl dX1_turn_13 ?_
    refine lv_iload_n hx hb dX1_turn_16 rfl (lv_at hl 1 rfl) ?_
    refine lv_iadd hx hb dX1_turn_17 ?_
    refine va_mmin hx hb (hml.trans hl.1.symm) hown (hts _ (bg _ wd_559)) (hts _ (bg _ wd_483)) (hts _ (bg _ wd_21)) (hts _ (bg _ wd_484)) (Nat.le_of_ble_eq_true rfl) (Nat.le_of_ble_eq_true rfl) (Nat.le_of_ble_eq_true rfl) (Nat.le_of_ble_eq_true rfl) dX1_turn_18 ?_
    refine va_put (D := (dC, dI)) (ci := 5) (v := .int (if (a3 + p1) < 99 then (a3 + p1) else 99)) (ty := .int) (C := RX1) (T := TX1) (N := 4) hx hb hts in_X1 tyX1 tyX1_ok nmX1 hown hK hP hD hS 0 rfl rfl 3 (by decide) (hts _ (bg _ wd_102)) (fun _ h9 => h9) rfl (by decide +kernel) rfl rfl (Nat.le_of_ble_eq_true rfl) dX1_turn_21 (fun H locs hP hD hS => ?_)
    have hP : va_P (dC, dI) vwCl [(oa 0, .inr (5, [.int a0, .int a1, .int a2, .int (if (a3 + p1) < 99 then (a3 + p1) else 99)]))] H := hP
    have hD : va_D A [(oa 0, .inr (5, [.int a0, .int a1, .int a2, .int (if (a3 + p1) < 99 then (a3 + p1) else 99)]))] := hD
    refine lv_goto (tgt := 51) hx hb dX1_turn_24 (by decide) ?_
    have e9 := sm hf
    exact W.vret hx hb hr (fun t ht hW => ⟨⟨(), rfl, trivial, by rw [← e9, ht]; exact hP, by rw [← e9]; exact hD⟩, hS.F ht⟩) hS.2.2 dX1_turn_51
/-! X1_rest -/
def f_X1_rest_41 (p1 : Int32) (m0 : Int32) (m1 : Int32) (m2 : Int32) (m3 : Int32) : Option (SX1) :=
  some (m0, m1, m2, (if 0 < (m3 - p1) then (m3 - p1) else 0))
def f_X1_rest (a0 : Int32) (a1 : Int32) (a2 : Int32) (a3 : Int32) (p1 : Int32) : Option (SX1) :=
  (if a1 ≤ 20 then (if 20 ≤ a1 then f_X1_rest_41 p1 a0 a1 a2 a3 else
  f_X1_rest_41 p1 a0 (a1 + 1) a2 a3) else
  f_X1_rest_41 p1 a0 (a1 - 1) a2 a3)
set_option maxRecDepth 100000 in
set_option maxHeartbeats 4000000 in
theorem m_X1_rest (l : Launch) (dC : Nat → ClassId) (dI : Nat → Nat → Nat) (dA gz : Nat → Nat) (oa : Nat → Nat) (sz : Nat) (a0 : Int32) (a1 : Int32) (a2 : Int32) (a3 : Int32) (p1 : Int32) (uu : SX1) (hf : f_X1_rest a0 a1 a2 a3 p1 = some uu) : Met l yX1_rest ws_X1_rest ({ frames := 10, cells := 0, slots := 0, locals := 200 } : Room) (va_Pc [.ref (oa 0), .int p1] (pP (dC, dI) dA gz (wX1 dA oa (a0, a1, a2, a3)) sz)) (va_Qv (S := Unit) (fun _ => True) (fun _ t => pQ (dC, dI) (va_A (wX1 dA oa (a0, a1, a2, a3)) sz) (wX1 dA oa uu) t) (va_A (wX1 dA oa (a0, a1, a2, a3)) sz)) 0 0 (va_A (wX1 dA oa (a0, a1, a2, a3)) sz) := by
  refine Met.ofW (cc := cX1_rest) (maxL := 2) (ret := none) (by decide) rfl ?_
  intro p e s m args below meth c s₁ B hml hv
  obtain ⟨rfl, hsz, hP, hK, hD0, hN, hZ⟩ := hv
  have hx := B.exec
  have hb := B.bytes
  have hr := B.returns
  have hts := atoms_spec (ws := ws_X1_rest) B.pre
  have hown : s.vm.findClass RX1 = some m.cls := findClass_of_methodNamed B.named
  have hlocks := B.notSynchronized
  subst hsz
  have hD := hD0.self (sz := s.heap.size)
  generalize hAe : va_A (wX1 dA oa (a0, a1, a2, a3)) s.heap.size = A at hD hZ ⊢
  have hA : ∀ q : Nat, s.heap.size ≤ q → A q := fun q h => by rw [← hAe]; exact Or.inr h
  have hS : va_S A s.heap s.heap [] := va_S.rf
  have hP : va_P (dC, dI) vwCl [(oa 0, .inr (5, [.int a0, .int a1, .int a2, .int a3]))] s.heap := hP
  have hD : va_D A [(oa 0, .inr (5, [.int a0, .int a1, .int a2, .int a3]))] := hD
  have hl := lv_entry [.ref (oa 0), .int p1] (n := 2) (Nat.le_of_ble_eq_true rfl)
  rw [lg_entry_eq]
  generalize (lg_sl [.ref (oa 0), .int p1] ++ List.replicate (2 - (lg_sl [.ref (oa 0), .int p1]).length) Slot.unset).toArray = ls at hl ⊢
  have hl : lv_has ls 2 [(0, .ref (oa 0)), (1, .int p1)] := hl
  have in_X1 : ∀ w ∈ wsX10, w ∈ ws_X1_rest := fun w h => bg _ (inB_X1 w h)
  have cut41 : ∀ (m0 : Int32) (m1 : Int32) (m2 : Int32) (m3 : Int32) (H : Heap) (locs : List Loc) (ls : Array Slot), f_X1_rest_41 p1 m0 m1 m2 m3 = some uu → va_P (dC, dI) vwCl [(oa 0, .inr (5, [.int m0, .int m1, .int m2, .int m3]))] H → va_D A [(oa 0, .inr (5, [.int m0, .int m1, .int m2, .int m3]))] → va_S A s.heap H locs → lv_has ls 2 [(0, .ref (oa 0)), (1, .int p1)] → W p l e (headSpec ws_X1_rest ({ frames := 10, cells := 0, slots := 0, locals := 200 } : Room)).room s m ([.ref (oa 0), .int p1] : List Value).toArray below meth c H locs 0 0 (MQ below (va_Qv (S := Unit) (fun _ => True) (fun _ t => pQ (dC, dI) A (wX1 dA oa uu) t) A) ([.ref (oa 0), .int p1] : List Value).toArray s 0 0 A) (F0 m 41 ls []) := by
    intro m0 m1 m2 m3 H locs ls hf hP hD hS hl
    rw [f_X1_rest_41] at hf
    refine lv_aload_n hx hb dX1_rest_41 rfl (lv_at hl 0 rfl) ?_
    refine lv_iconst (v := 0) hx hb dX1_rest_42 (by decide) ?_
    refine lv_aload_n hx hb dX1_rest_43 rfl (lv_at hl 0 rfl) ?_
    refine va_get (D := (dC, dI)) (ci := 5) (v := .int m3) (C := RX1) (T := TX1) (N := 4) hx hb hts in_X1 hown hK hP 0 rfl rfl 3 (by decide) (hts _ (bg _ wd_102)) (fun _ h9 => h9) rfl dX1_rest_44 ?_
    refine lv_iload_n hx hb dX1_rest_47 rfl (lv_at hl 1 rfl) ?_
    refine lv_isub hx hb dX1_rest_48 ?_
    refine va_mmax hx hb (hml.trans hl.1.symm) hown (hts _ (bg _ wd_560)) (hts _ (bg _ wd_561)) (hts _ (bg _ wd_21)) (hts _ (bg _ wd_562)) (Nat.le_of_ble_eq_true rfl) (Nat.le_of_ble_eq_true rfl) (Nat.le_of_ble_eq_true rfl) (Nat.le_of_ble_eq_true rfl) dX1_rest_49 ?_
    refine va_put (D := (dC, dI)) (ci := 5) (v := .int (if 0 < (m3 - p1) then (m3 - p1) else 0)) (ty := .int) (C := RX1) (T := TX1) (N := 4) hx hb hts in_X1 tyX1 tyX1_ok nmX1 hown hK hP hD hS 0 rfl rfl 3 (by decide) (hts _ (bg _ wd_102)) (fun _ h9 => h9) rfl (by decide +kernel) rfl rfl (Nat.le_of_ble_eq_true rfl) dX1_rest_52 (fun H locs hP hD hS => ?_)
    have hP : va_P (dC, dI) vwCl [(oa 0, .inr (5, [.int m0, .int m1, .int m2, .int (if 0 < (m3 - p1) then (m3 - p1) else 0)]))] H := hP
    have hD : va_D A [(oa 0, .inr (5, [.int m0, .int m1, .int m2, .int (if 0 < (m3 - p1) then (m3 - p1) else 0)]))] := hD
    have e9 := sm hf
    exact W.vret hx hb hr (fun t ht hW => ⟨⟨(), rfl, trivial, by rw [← e9, ht]; exact hP, by rw [← e9]; exact hD⟩, hS.F ht⟩) hS.2.2 dX1_rest_55
  rw [f_X1_rest] at hf
  refine lv_aload_n hx hb dX1_rest_0 rfl (lv_at hl 0 rfl) ?_
  refine va_get (D := (dC, dI)) (ci := 5) (v := .int a1) (C := RX1) (T := TX1) (N := 4) hx hb hts in_X1 hown hK hP 0 rfl rfl 1 (by decide) (hts _ (bg _ wd_96)) (fun _ h9 => h9) rfl dX1_rest_1 ?_
  refine lv_bipush (v := 20) hx hb dX1_rest_4 (by decide) ?_
  refine lv_icmp_le (tgt := 22) hx hb dX1_rest_6 (by decide) (fun q1 => ?_) (fun q1 => ?_)
  · have hf := it q1 hf
    refine lv_aload_n hx hb dX1_rest_22 rfl (lv_at hl 0 rfl) ?_
    refine va_get (D := (dC, dI)) (ci := 5) (v := .int a1) (C := RX1) (T := TX1) (N := 4) hx hb hts in_X1 hown hK hP 0 rfl rfl 1 (by decide) (hts _ (bg _ wd_96)) (fun _ h9 => h9) rfl dX1_rest_23 ?_
    refine lv_bipush (v := 20) hx hb dX1_rest_26 (by decide) ?_
    refine lv_icmp_ge (tgt := 41) hx hb dX1_rest_28 (by decide) (fun q2 => ?_) (fun q2 => ?_)
    · have hf := it q2 hf
      exact cut41 a0 a1 a2 a3 _ _ _ hf hP hD hS (lv_sub hl [0, 1] rfl)
    · have hf := ie q2 hf
      refine lv_aload_n hx hb dX1_rest_31 rfl (lv_at hl 0 rfl) ?_
      refine lv_dup hx hb dX1_rest_32 rfl ?_
      refine va_get (D := (dC, dI)) (ci := 5) (v := .int a1) (C := RX1) (T := TX1) (N := 4) hx hb hts in_X1 hown hK hP 0 rfl rfl 1 (by decide) (hts _ (bg _ wd_96)) (fun _ h9 => h9) rfl dX1_rest_33 ?_
      refine lv_iconst (v := 1) hx hb dX1_rest_36 (by decide) ?_
      refine lv_iadd hx hb dX1_rest_37 ?_
      refine va_put (D := (dC, dI)) (ci := 5) (v := .int (a1 + 1)) (ty := .int) (C := RX1) (T := TX1) (N := 4) hx hb hts in_X1 tyX1 tyX1_ok nmX1 hown hK hP hD hS 0 rfl rfl 1 (by decide) (hts _ (bg _ wd_96)) (fun _ h9 => h9) rfl (by decide +kernel) rfl rfl (Nat.le_of_ble_eq_true rfl) dX1_rest_38 (fun H locs hP hD hS => ?_)
      have hP : va_P (dC, dI) vwCl [(oa 0, .inr (5, [.int a0, .int (a1 + 1), .int a2, .int a3]))] H := hP
      have hD : va_D A [(oa 0, .inr (5, [.int a0, .int (a1 + 1), .int a2, .int a3]))] := hD
      exact cut41 a0 (a1 + 1) a2 a3 _ _ _ hf hP hD hS (lv_sub hl [0, 1] rfl)
  · have hf := ie q1 hf
    refine lv_aload_n hx hb dX1_rest_9 rfl (lv_at hl 0 rfl) ?_
    refine lv_dup hx hb dX1_rest_10 rfl ?_
    refine va_get (D := (dC, dI)) (ci := 5) (v := .int a1) (C := RX1) (T := TX1) (N := 4) hx hb hts in_X1 hown hK hP 0 rfl rfl 1 (by decide) (hts _ (bg _ wd_96)) (fun _ h9 => h9) rfl dX1_rest_11 ?_
    refine lv_iconst (v := 1) hx hb dX1_rest_14 (by decide) ?_
    refine lv_isub hx hb dX1_rest_15 ?_
    refine va_put (D := (dC, dI)) (ci := 5) (v := .int (a1 - 1)) (ty := .int) (C := RX1) (T := TX1) (N := 4) hx hb hts in_X1 tyX1 tyX1_ok nmX1 hown hK hP hD hS 0 rfl rfl 1 (by decide) (hts _ (bg _ wd_96)) (fun _ h9 => h9) rfl (by decide +kernel) rfl rfl (Nat.le_of_ble_eq_true rfl) dX1_rest_16 (fun H locs hP hD hS => ?_)
    have hP : va_P (dC, dI) vwCl [(oa 0, .inr (5, [.int a0, .int (a1 - 1), .int a2, .int a3]))] H := hP
    have hD : va_D A [(oa 0, .inr (5, [.int a0, .int (a1 - 1), .int a2, .int a3]))] := hD
    refine lv_goto (tgt := 41) hx hb dX1_rest_19 (by decide) ?_
    exact cut41 a0 (a1 - 1) a2 a3 _ _ _ hf hP hD hS (lv_sub hl [0, 1] rfl)
/-! X1_change -/
def f_X1_change (a0 : Int32) (a1 : Int32) (a2 : Int32) (a3 : Int32) (p1 : Int32) (p2 : Int32) : Option (SX1) :=
  (if p1 = 104 then some (a0, (if (a1 + (3 * p2)) < 200 then (a1 + (3 * p2)) else 200), a2, a3) else
  (if p1 = 99 then some (a0, (if 0 < (a1 - (2 * p2)) then (a1 - (2 * p2)) else 0), a2, a3) else
  (if p1 = 116 then bX1 (f_X1_turn a0 a1 a2 a3 p2) fun c7_0 c7_1 c7_2 c7_3 =>
  some (c7_0, c7_1, c7_2, c7_3) else
  bX1 (f_X1_rest a0 a1 a2 a3 p2) fun c5_0 c5_1 c5_2 c5_3 =>
  some (c5_0, c5_1, c5_2, c5_3))))
set_option maxRecDepth 100000 in
set_option maxHeartbeats 4000000 in
theorem m_X1_change (l : Launch) (dC : Nat → ClassId) (dI : Nat → Nat → Nat) (dA gz : Nat → Nat) (oa : Nat → Nat) (sz : Nat) (a0 : Int32) (a1 : Int32) (a2 : Int32) (a3 : Int32) (p1 : Int32) (p2 : Int32) (uu : SX1) (hf : f_X1_change a0 a1 a2 a3 p1 p2 = some uu) : Met l yX1_change ws_X1_change ({ frames := 14, cells := 0, slots := 0, locals := 400 } : Room) (va_Pc [.ref (oa 0), .int p1, .int p2] (pP (dC, dI) dA gz (wX1 dA oa (a0, a1, a2, a3)) sz)) (va_Qv (S := Unit) (fun _ => True) (fun _ t => pQ (dC, dI) (va_A (wX1 dA oa (a0, a1, a2, a3)) sz) (wX1 dA oa uu) t) (va_A (wX1 dA oa (a0, a1, a2, a3)) sz)) 0 0 (va_A (wX1 dA oa (a0, a1, a2, a3)) sz) := by
  refine Met.ofW (cc := cX1_change) (maxL := 3) (ret := none) (by decide) rfl ?_
  intro p e s m args below meth c s₁ B hml hv
  obtain ⟨rfl, hsz, hP, hK, hD0, hN, hZ⟩ := hv
  have hx := B.exec
  have hb := B.bytes
  have hr := B.returns
  have hts := atoms_spec (ws := ws_X1_change) B.pre
  have hown : s.vm.findClass RX1 = some m.cls := findClass_of_methodNamed B.named
  have hlocks := B.notSynchronized
  subst hsz
  have hD := hD0.self (sz := s.heap.size)
  generalize hAe : va_A (wX1 dA oa (a0, a1, a2, a3)) s.heap.size = A at hD hZ ⊢
  have hA : ∀ q : Nat, s.heap.size ≤ q → A q := fun q h => by rw [← hAe]; exact Or.inr h
  have hS : va_S A s.heap s.heap [] := va_S.rf
  have hP : va_P (dC, dI) vwCl [(oa 0, .inr (5, [.int a0, .int a1, .int a2, .int a3]))] s.heap := hP
  have hD : va_D A [(oa 0, .inr (5, [.int a0, .int a1, .int a2, .int a3]))] := hD
  have hl := lv_entry [.ref (oa 0), .int p1, .int p2] (n := 3) (Nat.le_of_ble_eq_true rfl)
  rw [lg_entry_eq]
  generalize (lg_sl [.ref (oa 0), .int p1, .int p2] ++ List.replicate (3 - (lg_sl [.ref (oa 0), .int p1, .int p2]).length) Slot.unset).toArray = ls at hl ⊢
  have hl : lv_has ls 3 [(0, .ref (oa 0)), (1, .int p1), (2, .int p2)] := hl
  have in_X1 : ∀ w ∈ wsX10, w ∈ ws_X1_change := fun w h => bg _ (inB_X1 w h)
  rw [f_X1_change] at hf
  refine lv_iload_n hx hb dX1_change_0 rfl (lv_at hl 1 rfl) ?_
  refine lv_bipush (v := 104) hx hb dX1_change_1 (by decide) ?_
  refine lv_icmp_ne (tgt := 27) hx hb dX1_change_3 (by decide) (fun q1 => ?_) (fun q1 => ?_)
  · have hf := ie q1 hf
    refine lv_iload_n hx hb dX1_change_27 rfl (lv_at hl 1 rfl) ?_
    refine lv_bipush (v := 99) hx hb dX1_change_28 (by decide) ?_
    refine lv_icmp_ne (tgt := 52) hx hb dX1_change_30 (by decide) (fun q2 => ?_) (fun q2 => ?_)
    · have hf := ie q2 hf
      refine lv_iload_n hx hb dX1_change_52 rfl (lv_at hl 1 rfl) ?_
      refine lv_bipush (v := 116) hx hb dX1_change_53 (by decide) ?_
      refine lv_icmp_ne (tgt := 66) hx hb dX1_change_55 (by decide) (fun q3 => ?_) (fun q3 => ?_)
      · have hf := ie q3 hf
        refine lv_aload_n hx hb dX1_change_66 rfl (lv_at hl 0 rfl) ?_
        refine lv_iload_n hx hb dX1_change_67 rfl (lv_at hl 2 rfl) ?_
        obtain ⟨c5_0, c5_1, c5_2, c5_3, e4, hf⟩ := bX1_inv hf
        refine jn_v (va_runV (As := [.int p2]) (rest := []) ⟨hx, hb, hml, hown, hts⟩ (m_X1_rest l dC dI dA gz oa s.heap.size a0 a1 a2 a3 p2 (c5_0, c5_1, c5_2, c5_3) e4) (cwV 1 hts (gi_v bg wd_567 wd_569 ws_5 wd_4 wd_570) rfl rfl rfl hd_X1_rest ⟨Nat.le_of_ble_eq_true rfl, Nat.le_of_ble_eq_true rfl⟩) ⟨pP_blind, va_recv (ci := 5) (q0 := 0) hK hP rfl rfl, pP_pre hP hD hS hA hK hN hZ [0] (by decide) rfl⟩ rfl rfl hl.1 rfl (lv_room (Nat.le_of_ble_eq_true rfl)) dX1_change_68 ⟨Nat.le_of_ble_eq_true rfl, Nat.le_of_ble_eq_true rfl⟩) hP hD hS hA [0] rfl rfl (fun H locs hP hD hS => ?_)
        have hP : va_P (dC, dI) vwCl [(oa 0, .inr (5, [.int c5_0, .int c5_1, .int c5_2, .int c5_3]))] H := hP
        have hD : va_D A [(oa 0, .inr (5, [.int c5_0, .int c5_1, .int c5_2, .int c5_3]))] := hD
        have e9 := sm hf
        exact W.vret hx hb hr (fun t ht hW => ⟨⟨(), rfl, trivial, by rw [← e9, ht]; exact hP, by rw [← e9]; exact hD⟩, hS.F ht⟩) hS.2.2 dX1_change_71
      · have hf := it q3 hf
        refine lv_aload_n hx hb dX1_change_58 rfl (lv_at hl 0 rfl) ?_
        refine lv_iload_n hx hb dX1_change_59 rfl (lv_at hl 2 rfl) ?_
        obtain ⟨c7_0, c7_1, c7_2, c7_3, e6, hf⟩ := bX1_inv hf
        refine jn_v (va_runV (As := [.int p2]) (rest := []) ⟨hx, hb, hml, hown, hts⟩ (m_X1_turn l dC dI dA gz oa s.heap.size a0 a1 a2 a3 p2 (c7_0, c7_1, c7_2, c7_3) e6) (cwV 1 hts (gi_v bg wd_563 wd_565 ws_4 wd_4 wd_566) rfl rfl rfl hd_X1_turn ⟨Nat.le_of_ble_eq_true rfl, Nat.le_of_ble_eq_true rfl⟩) ⟨pP_blind, va_recv (ci := 5) (q0 := 0) hK hP rfl rfl, pP_pre hP hD hS hA hK hN hZ [0] (by decide) rfl⟩ rfl rfl hl.1 rfl (lv_room (Nat.le_of_ble_eq_true rfl)) dX1_change_60 ⟨Nat.le_of_ble_eq_true rfl, Nat.le_of_ble_eq_true rfl⟩) hP hD hS hA [0] rfl rfl (fun H locs hP hD hS => ?_)
        have hP : va_P (dC, dI) vwCl [(oa 0, .inr (5, [.int c7_0, .int c7_1, .int c7_2, .int c7_3]))] H := hP
        have hD : va_D A [(oa 0, .inr (5, [.int c7_0, .int c7_1, .int c7_2, .int c7_3]))] := hD
        refine lv_goto (tgt := 71) hx hb dX1_change_63 (by decide) ?_
        have e9 := sm hf
        exact W.vret hx hb hr (fun t ht hW => ⟨⟨(), rfl, trivial, by rw [← e9, ht]; exact hP, by rw [← e9]; exact hD⟩, hS.F ht⟩) hS.2.2 dX1_change_71
    · have hf := it q2 hf
      refine lv_aload_n hx hb dX1_change_33 rfl (lv_at hl 0 rfl) ?_
      refine lv_iconst (v := 0) hx hb dX1_change_34 (by decide) ?_
      refine lv_aload_n hx hb dX1_change_35 rfl (lv_at hl 0 rfl) ?_
      refine va_get (D := (dC, dI)) (ci := 5) (v := .int a1) (C := RX1) (T := TX1) (N := 4) hx hb hts in_X1 hown hK hP 0 rfl rfl 1 (by decide) (hts _ (bg _ wd_96)) (fun _ h9 => h9) rfl dX1_change_36 ?_
      refine lv_iconst (v := 2) hx hb dX1_change_39 (by decide) ?_
      refine lv_iload_n hx hb dX1_change_40 rfl (lv_at hl 2 rfl) ?_
      refine lv_imul hx hb dX1_change_41 ?_
      refine lv_isub hx hb dX1_change_42 ?_
      refine va_mmax hx hb (hml.trans hl.1.symm) hown (hts _ (bg _ wd_560)) (hts _ (bg _ wd_561)) (hts _ (bg _ wd_21)) (hts _ (bg _ wd_562)) (Nat.le_of_ble_eq_true rfl) (Nat.le_of_ble_eq_true rfl) (Nat.le_of_ble_eq_true rfl) (Nat.le_of_ble_eq_true rfl) dX1_change_43 ?_
      refine va_put (D := (dC, dI)) (ci := 5) (v := .int (if 0 < (a1 - (2 * p2)) then (a1 - (2 * p2)) else 0)) (ty := .int) (C := RX1) (T := TX1) (N := 4) hx hb hts in_X1 tyX1 tyX1_ok nmX1 hown hK hP hD hS 0 rfl rfl 1 (by decide) (hts _ (bg _ wd_96)) (fun _ h9 => h9) rfl (by decide +kernel) rfl rfl (Nat.le_of_ble_eq_true rfl) dX1_change_46 (fun H locs hP hD hS => ?_)
      have hP : va_P (dC, dI) vwCl [(oa 0, .inr (5, [.int a0, .int (if 0 < (a1 - (2 * p2)) then (a1 - (2 * p2)) else 0), .int a2, .int a3]))] H := hP
      have hD : va_D A [(oa 0, .inr (5, [.int a0, .int (if 0 < (a1 - (2 * p2)) then (a1 - (2 * p2)) else 0), .int a2, .int a3]))] := hD
      refine lv_goto (tgt := 71) hx hb dX1_change_49 (by decide) ?_
      have e9 := sm hf
      exact W.vret hx hb hr (fun t ht hW => ⟨⟨(), rfl, trivial, by rw [← e9, ht]; exact hP, by rw [← e9]; exact hD⟩, hS.F ht⟩) hS.2.2 dX1_change_71
  · have hf := it q1 hf
    refine lv_aload_n hx hb dX1_change_6 rfl (lv_at hl 0 rfl) ?_
    refine lv_sipush (v := 200) hx hb dX1_change_7 (by decide) ?_
    refine lv_aload_n hx hb dX1_change_10 rfl (lv_at hl 0 rfl) ?_
    refine va_get (D := (dC, dI)) (ci := 5) (v := .int a1) (C := RX1) (T := TX1) (N := 4) hx hb hts in_X1 hown hK hP 0 rfl rfl 1 (by decide) (hts _ (bg _ wd_96)) (fun _ h9 => h9) rfl dX1_change_11 ?_
    refine lv_iconst (v := 3) hx hb dX1_change_14 (by decide) ?_
    refine lv_iload_n hx hb dX1_change_15 rfl (lv_at hl 2 rfl) ?_
    refine lv_imul hx hb dX1_change_16 ?_
    refine lv_iadd hx hb dX1_change_17 ?_
    refine va_mmin hx hb (hml.trans hl.1.symm) hown (hts _ (bg _ wd_559)) (hts _ (bg _ wd_483)) (hts _ (bg _ wd_21)) (hts _ (bg _ wd_484)) (Nat.le_of_ble_eq_true rfl) (Nat.le_of_ble_eq_true rfl) (Nat.le_of_ble_eq_true rfl) (Nat.le_of_ble_eq_true rfl) dX1_change_18 ?_
    refine va_put (D := (dC, dI)) (ci := 5) (v := .int (if (a1 + (3 * p2)) < 200 then (a1 + (3 * p2)) else 200)) (ty := .int) (C := RX1) (T := TX1) (N := 4) hx hb hts in_X1 tyX1 tyX1_ok nmX1 hown hK hP hD hS 0 rfl rfl 1 (by decide) (hts _ (bg _ wd_96)) (fun _ h9 => h9) rfl (by decide +kernel) rfl rfl (Nat.le_of_ble_eq_true rfl) dX1_change_21 (fun H locs hP hD hS => ?_)
    have hP : va_P (dC, dI) vwCl [(oa 0, .inr (5, [.int a0, .int (if (a1 + (3 * p2)) < 200 then (a1 + (3 * p2)) else 200), .int a2, .int a3]))] H := hP
    have hD : va_D A [(oa 0, .inr (5, [.int a0, .int (if (a1 + (3 * p2)) < 200 then (a1 + (3 * p2)) else 200), .int a2, .int a3]))] := hD
    refine lv_goto (tgt := 71) hx hb dX1_change_24 (by decide) ?_
    have e9 := sm hf
    exact W.vret hx hb hr (fun t ht hW => ⟨⟨(), rfl, trivial, by rw [← e9, ht]; exact hP, by rw [← e9]; exact hD⟩, hS.F ht⟩) hS.2.2 dX1_change_71
/-! X1_copyFrom -/
def f_X1_copyFrom (a0 : Int32) (a1 : Int32) (a2 : Int32) (a3 : Int32) (b0 : Int32) (b1 : Int32) (b2 : Int32) (b3 : Int32) : Option (SX1) :=
  some (b0, b1, b2, b3)
set_option maxRecDepth 100000 in
set_option maxHeartbeats 4000000 in
theorem m_X1_copyFrom (l : Launch) (dC : Nat → ClassId) (dI : Nat → Nat → Nat) (dA gz : Nat → Nat) (oa : Nat → Nat) (ob : Nat → Nat) (sz : Nat) (a0 : Int32) (a1 : Int32) (a2 : Int32) (a3 : Int32) (b0 : Int32) (b1 : Int32) (b2 : Int32) (b3 : Int32) (uu : SX1) (hf : f_X1_copyFrom a0 a1 a2 a3 b0 b1 b2 b3 = some uu) : Met l yX1_copyFrom ws_X1_copyFrom ({ frames := 10, cells := 0, slots := 0, locals := 200 } : Room) (va_Pc [.ref (oa 0), .ref (ob 0)] (pP (dC, dI) dA gz (wX1 dA oa (a0, a1, a2, a3) ++ wX1 dA ob (b0, b1, b2, b3)) sz)) (va_Qv (S := Unit) (fun _ => True) (fun _ t => pQ (dC, dI) (va_A (wX1 dA oa (a0, a1, a2, a3) ++ wX1 dA ob (b0, b1, b2, b3)) sz) (wX1 dA oa uu ++ wX1 dA ob (b0, b1, b2, b3)) t) (va_A (wX1 dA oa (a0, a1, a2, a3) ++ wX1 dA ob (b0, b1, b2, b3)) sz)) 0 0 (va_A (wX1 dA oa (a0, a1, a2, a3) ++ wX1 dA ob (b0, b1, b2, b3)) sz) := by
  refine Met.ofW (cc := cX1_copyFrom) (maxL := 2) (ret := none) (by decide) rfl ?_
  intro p e s m args below meth c s₁ B hml hv
  obtain ⟨rfl, hsz, hP, hK, hD0, hN, hZ⟩ := hv
  have hx := B.exec
  have hb := B.bytes
  have hr := B.returns
  have hts := atoms_spec (ws := ws_X1_copyFrom) B.pre
  have hown : s.vm.findClass RX1 = some m.cls := findClass_of_methodNamed B.named
  have hlocks := B.notSynchronized
  subst hsz
  have hD := hD0.self (sz := s.heap.size)
  generalize hAe : va_A (wX1 dA oa (a0, a1, a2, a3) ++ wX1 dA ob (b0, b1, b2, b3)) s.heap.size = A at hD hZ ⊢
  have hA : ∀ q : Nat, s.heap.size ≤ q → A q := fun q h => by rw [← hAe]; exact Or.inr h
  have hS : va_S A s.heap s.heap [] := va_S.rf
  have hP : va_P (dC, dI) vwCl [(oa 0, .inr (5, [.int a0, .int a1, .int a2, .int a3])), (ob 0, .inr (5, [.int b0, .int b1, .int b2, .int b3]))] s.heap := hP
  have hD : va_D A [(oa 0, .inr (5, [.int a0, .int a1, .int a2, .int a3])), (ob 0, .inr (5, [.int b0, .int b1, .int b2, .int b3]))] := hD
  have hl := lv_entry [.ref (oa 0), .ref (ob 0)] (n := 2) (Nat.le_of_ble_eq_true rfl)
  rw [lg_entry_eq]
  generalize (lg_sl [.ref (oa 0), .ref (ob 0)] ++ List.replicate (2 - (lg_sl [.ref (oa 0), .ref (ob 0)]).length) Slot.unset).toArray = ls at hl ⊢
  have hl : lv_has ls 2 [(0, .ref (oa 0)), (1, .ref (ob 0))] := hl
  have in_X1 : ∀ w ∈ wsX10, w ∈ ws_X1_copyFrom := fun w h => bg _ (inB_X1 w h)
  rw [f_X1_copyFrom] at hf
  refine lv_aload_n hx hb dX1_copyFrom_0 rfl (lv_at hl 0 rfl) ?_
  refine lv_aload_n hx hb dX1_copyFrom_1 rfl (lv_at hl 1 rfl) ?_
  refine va_get (D := (dC, dI)) (ci := 5) (v := .int b0) (C := RX1) (T := TX1) (N := 4) hx hb hts in_X1 hown hK hP 1 rfl rfl 0 (by decide) (hts _ (bg _ wd_93)) (fun _ h9 => h9) rfl dX1_copyFrom_2 ?_
  refine va_put (D := (dC, dI)) (ci := 5) (v := .int b0) (ty := .int) (C := RX1) (T := TX1) (N := 4) hx hb hts in_X1 tyX1 tyX1_ok nmX1 hown hK hP hD hS 0 rfl rfl 0 (by decide) (hts _ (bg _ wd_93)) (fun _ h9 => h9) rfl (by decide +kernel) rfl rfl (Nat.le_of_ble_eq_true rfl) dX1_copyFrom_5 (fun H locs hP hD hS => ?_)
  have hP : va_P (dC, dI) vwCl [(oa 0, .inr (5, [.int b0, .int a1, .int a2, .int a3])), (ob 0, .inr (5, [.int b0, .int b1, .int b2, .int b3]))] H := hP
  have hD : va_D A [(oa 0, .inr (5, [.int b0, .int a1, .int a2, .int a3])), (ob 0, .inr (5, [.int b0, .int b1, .int b2, .int b3]))] := hD
  refine lv_aload_n hx hb dX1_copyFrom_8 rfl (lv_at hl 0 rfl) ?_
  refine lv_aload_n hx hb dX1_copyFrom_9 rfl (lv_at hl 1 rfl) ?_
  refine va_get (D := (dC, dI)) (ci := 5) (v := .int b1) (C := RX1) (T := TX1) (N := 4) hx hb hts in_X1 hown hK hP 1 rfl rfl 1 (by decide) (hts _ (bg _ wd_96)) (fun _ h9 => h9) rfl dX1_copyFrom_10 ?_
  refine va_put (D := (dC, dI)) (ci := 5) (v := .int b1) (ty := .int) (C := RX1) (T := TX1) (N := 4) hx hb hts in_X1 tyX1 tyX1_ok nmX1 hown hK hP hD hS 0 rfl rfl 1 (by decide) (hts _ (bg _ wd_96)) (fun _ h9 => h9) rfl (by decide +kernel) rfl rfl (Nat.le_of_ble_eq_true rfl) dX1_copyFrom_13 (fun H locs hP hD hS => ?_)
  have hP : va_P (dC, dI) vwCl [(oa 0, .inr (5, [.int b0, .int b1, .int a2, .int a3])), (ob 0, .inr (5, [.int b0, .int b1, .int b2, .int b3]))] H := hP
  have hD : va_D A [(oa 0, .inr (5, [.int b0, .int b1, .int a2, .int a3])), (ob 0, .inr (5, [.int b0, .int b1, .int b2, .int b3]))] := hD
  refine lv_aload_n hx hb dX1_copyFrom_16 rfl (lv_at hl 0 rfl) ?_
  refine lv_aload_n hx hb dX1_copyFrom_17 rfl (lv_at hl 1 rfl) ?_
  refine va_get (D := (dC, dI)) (ci := 5) (v := .int b2) (C := RX1) (T := TX1) (N := 4) hx hb hts in_X1 hown hK hP 1 rfl rfl 2 (by decide) (hts _ (bg _ wd_99)) (fun _ h9 => h9) rfl dX1_copyFrom_18 ?_
  refine va_put (D := (dC, dI)) (ci := 5) (v := .int b2) (ty := .int) (C := RX1) (T := TX1) (N := 4) hx hb hts in_X1 tyX1 tyX1_ok nmX1 hown hK hP hD hS 0 rfl rfl 2 (by decide) (hts _ (bg _ wd_99)) (fun _ h9 => h9) rfl (by decide +kernel) rfl rfl (Nat.le_of_ble_eq_true rfl) dX1_copyFrom_21 (fun H locs hP hD hS => ?_)
  have hP : va_P (dC, dI) vwCl [(oa 0, .inr (5, [.int b0, .int b1, .int b2, .int a3])), (ob 0, .inr (5, [.int b0, .int b1, .int b2, .int b3]))] H := hP
  have hD : va_D A [(oa 0, .inr (5, [.int b0, .int b1, .int b2, .int a3])), (ob 0, .inr (5, [.int b0, .int b1, .int b2, .int b3]))] := hD
  refine lv_aload_n hx hb dX1_copyFrom_24 rfl (lv_at hl 0 rfl) ?_
  refine lv_aload_n hx hb dX1_copyFrom_25 rfl (lv_at hl 1 rfl) ?_
  refine va_get (D := (dC, dI)) (ci := 5) (v := .int b3) (C := RX1) (T := TX1) (N := 4) hx hb hts in_X1 hown hK hP 1 rfl rfl 3 (by decide) (hts _ (bg _ wd_102)) (fun _ h9 => h9) rfl dX1_copyFrom_26 ?_
  refine va_put (D := (dC, dI)) (ci := 5) (v := .int b3) (ty := .int) (C := RX1) (T := TX1) (N := 4) hx hb hts in_X1 tyX1 tyX1_ok nmX1 hown hK hP hD hS 0 rfl rfl 3 (by decide) (hts _ (bg _ wd_102)) (fun _ h9 => h9) rfl (by decide +kernel) rfl rfl (Nat.le_of_ble_eq_true rfl) dX1_copyFrom_29 (fun H locs hP hD hS => ?_)
  have hP : va_P (dC, dI) vwCl [(oa 0, .inr (5, [.int b0, .int b1, .int b2, .int b3])), (ob 0, .inr (5, [.int b0, .int b1, .int b2, .int b3]))] H := hP
  have hD : va_D A [(oa 0, .inr (5, [.int b0, .int b1, .int b2, .int b3])), (ob 0, .inr (5, [.int b0, .int b1, .int b2, .int b3]))] := hD
  have e9 := sm hf
  exact W.vret hx hb hr (fun t ht hW => ⟨⟨(), rfl, trivial, by rw [← e9, ht]; exact hP, by rw [← e9]; exact hD⟩, hS.F ht⟩) hS.2.2 dX1_copyFrom_32
