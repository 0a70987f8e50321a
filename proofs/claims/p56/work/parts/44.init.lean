theorem uni_c {dA : Nat → Nat} {s : State} {dC : Nat → ClassId} {dI : Nat → Nat → Nat} {cA : ClassId} (h : va_K (dC, dI) vwCl (tyA dA ++ [(cA, .char)]) s) : cA = dA 0 := Option.some.inj ((va_nm_char (h.2 4 _ rfl).2).symm.trans (va_nm_char (h.2 0 _ rfl).2))
theorem uni_i {dA : Nat → Nat} {s : State} {dC : Nat → ClassId} {dI : Nat → Nat → Nat} {cA : ClassId} (h : va_K (dC, dI) vwCl (tyA dA ++ [(cA, .int)]) s) : cA = dA 1 := Option.some.inj ((va_nm_int (h.2 4 _ rfl).2).symm.trans (va_nm_int (h.2 1 _ rfl).2))
theorem uni_b {dA : Nat → Nat} {s : State} {dC : Nat → ClassId} {dI : Nat → Nat → Nat} {cA : ClassId} (h : va_K (dC, dI) vwCl (tyA dA ++ [(cA, .byte)]) s) : cA = dA 2 := byte_uni h
abbrev z0 : Ar := fun _ => 0
set_option maxRecDepth 100000 in
set_option maxHeartbeats 4000000 in
theorem m_X1_init (l : Launch) (dC : Nat → ClassId) (dI : Nat → Nat → Nat) (dA gz : Nat → Nat) (sz h0 : Nat)  : Met l yX1_init ws_X1_init ({ frames := 14, cells := 0, slots := 0, locals := 400 } : Room) (va_Pc [.ref h0] (pP (dC, dI) dA gz ([(h0, .inr (5, [.int 0, .int 0, .int 0, .int 0]))]) sz)) (va_Qv (S := Nat → Nat) (fun oa => oa 0 = h0) (fun oa t => pQ (dC, dI) (va_A ([(h0, .inr (5, [.int 0, .int 0, .int 0, .int 0]))]) sz) (wX1 dA oa ((0, 20, 0, 0) : SX1)) t) (va_A ([(h0, .inr (5, [.int 0, .int 0, .int 0, .int 0]))]) sz)) 0 0 (va_A ([(h0, .inr (5, [.int 0, .int 0, .int 0, .int 0]))]) sz) := by
  refine Met.ofW (cc := cX1_init) (maxL := 1) (ret := none) (by decide) rfl ?_
  intro p e s m args below meth c s₁ B hml hv
  obtain ⟨rfl, hsz, hP, hK, hD0, hN, hZ⟩ := hv
  have hx := B.exec
  have hb := B.bytes
  have hr := B.returns
  have hts := atoms_spec (ws := ws_X1_init) B.pre
  have hown : s.vm.findClass RX1 = some m.cls := findClass_of_methodNamed B.named
  have hlocks := B.notSynchronized
  have hin : meth.name = "<init>" := (name_of_methodNamed B.named B.method).1
  subst hsz
  have hD := hD0.self (sz := s.heap.size)
  generalize hAe : va_A ([(h0, .inr (5, [.int 0, .int 0, .int 0, .int 0]))]) s.heap.size = A at hD hZ ⊢
  have hA : ∀ z : Nat, s.heap.size ≤ z → A z := fun z h => by rw [← hAe]; exact Or.inr h
  have hS : va_S A s.heap s.heap [] := va_S.rf
  have hP : va_P (dC, dI) vwCl ([(h0, .inr (5, [.int 0, .int 0, .int 0, .int 0]))]) s.heap := hP
  have hl := lv_entry [.ref h0] (n := 1) (Nat.le_of_ble_eq_true rfl)
  rw [lg_entry_eq]
  generalize (lg_sl [.ref h0] ++ List.replicate (1 - (lg_sl [.ref h0]).length) Slot.unset).toArray = ls at hl ⊢
  have hl : lv_has ls 1 [(0, .ref h0)] := hl
  have in_X1 : ∀ w ∈ wsX10, w ∈ ws_X1_init := fun w h => bg _ (inB_X1 w h)
  refine lv_aload_n hx hb dX1_init_0 rfl (lv_at hl 0 rfl) ?_
  refine W.objInit hx hb hown (hts _ (bg _ wd_92)) (hts _ (bg _ wd_38)) (hts _ (bg _ wd_39)) rfl (by rw [hml]; exact hl.1) rfl dX1_init_1 (Nat.le_of_ble_eq_true rfl) (Nat.le_of_ble_eq_true rfl) ?_
  refine W.eq (g2 := F0 m 4 ls []) rfl ?_
  refine lv_aload_n hx hb dX1_init_4 rfl (lv_at hl 0 rfl) ?_
  refine lv_bipush (v := 20) hx hb dX1_init_5 (by decide) ?_
  refine va_put (D := (dC, dI)) (ci := 5) (v := .int 20) (ty := .int) (C := RX1) (T := TX1) (N := 4) hx hb hts in_X1 tyX1 tyX1_ok nmX1 hown hK hP hD hS 0 rfl rfl 1 (by decide) (hts _ (bg _ wd_96)) (fun _ h9 => h9) rfl (by decide +kernel) rfl rfl (Nat.le_of_ble_eq_true rfl) dX1_init_7 (fun H locs hP hD hS => ?_)
  have hP : va_P (dC, dI) vwCl ([(h0, .inr (5, [.int 0, .int 20, .int 0, .int 0]))] : va_W) H := hP
  have hD : va_D A ([(h0, .inr (5, [.int 0, .int 20, .int 0, .int 0]))]) := hD
  refine W.widen (k := 0) (n := 0) (Nat.le_of_ble_eq_true rfl) (Nat.le_of_ble_eq_true rfl) ?_
  exact W.vret hx hb hr (fun t ht hW => ⟨⟨(fun k => [h0].getD k 0), rfl, rfl, by rw [ht]; exact hP, hD⟩, hS.F ht⟩) hS.2.2 dX1_init_10
set_option maxRecDepth 100000 in
set_option maxHeartbeats 4000000 in
theorem m_X2_init (l : Launch) (dC : Nat → ClassId) (dI : Nat → Nat → Nat) (dA gz : Nat → Nat) (sz h0 : Nat)  : Met l yX2_init ws_X2_init ({ frames := 14, cells := 3, slots := 24, locals := 400 } : Room) (va_Pc [.ref h0] (pP (dC, dI) dA gz ([(h0, .inr (6, [.null, .null, .null, .int 0, .int 0, .int 0, .int 0]))]) sz)) (va_Qv (S := Nat → Nat) (fun oa => oa 0 = h0) (fun oa t => pQ (dC, dI) (va_A ([(h0, .inr (6, [.null, .null, .null, .int 0, .int 0, .int 0, .int 0]))]) sz) (wX2 dA oa ((z0, z0, z0, 0, -1, 0, 0) : SX2)) t) (va_A ([(h0, .inr (6, [.null, .null, .null, .int 0, .int 0, .int 0, .int 0]))]) sz)) 3 24 (va_A ([(h0, .inr (6, [.null, .null, .null, .int 0, .int 0, .int 0, .int 0]))]) sz) := by
  refine Met.ofW (cc := cX2_init) (maxL := 1) (ret := none) (by decide) rfl ?_
  intro p e s m args below meth c s₁ B hml hv
  obtain ⟨rfl, hsz, hP, hK, hD0, hN, hZ⟩ := hv
  have hx := B.exec
  have hb := B.bytes
  have hr := B.returns
  have hts := atoms_spec (ws := ws_X2_init) B.pre
  have hown : s.vm.findClass RX2 = some m.cls := findClass_of_methodNamed B.named
  have hlocks := B.notSynchronized
  have hin : meth.name = "<init>" := (name_of_methodNamed B.named B.method).1
  subst hsz
  have hD := hD0.self (sz := s.heap.size)
  generalize hAe : va_A ([(h0, .inr (6, [.null, .null, .null, .int 0, .int 0, .int 0, .int 0]))]) s.heap.size = A at hD hZ ⊢
  have hA : ∀ z : Nat, s.heap.size ≤ z → A z := fun z h => by rw [← hAe]; exact Or.inr h
  have hS : va_S A s.heap s.heap [] := va_S.rf
  have hP : va_P (dC, dI) vwCl ([(h0, .inr (6, [.null, .null, .null, .int 0, .int 0, .int 0, .int 0]))]) s.heap := hP
  have hl := lv_entry [.ref h0] (n := 1) (Nat.le_of_ble_eq_true rfl)
  rw [lg_entry_eq]
  generalize (lg_sl [.ref h0] ++ List.replicate (1 - (lg_sl [.ref h0]).length) Slot.unset).toArray = ls at hl ⊢
  have hl : lv_has ls 1 [(0, .ref h0)] := hl
  have in_X2 : ∀ w ∈ wsX20, w ∈ ws_X2_init := fun w h => bg _ (inB_X2 w h)
  refine lv_aload_n hx hb dX2_init_0 rfl (lv_at hl 0 rfl) ?_
  refine W.objInit hx hb hown (hts _ (bg _ wd_51)) (hts _ (bg _ wd_38)) (hts _ (bg _ wd_39)) rfl (by rw [hml]; exact hl.1) rfl dX2_init_1 (Nat.le_of_ble_eq_true rfl) (Nat.le_of_ble_eq_true rfl) ?_
  refine W.eq (g2 := F0 m 4 ls []) rfl ?_
  refine lv_aload_n hx hb dX2_init_4 rfl (lv_at hl 0 rfl) ?_
  refine lv_bipush (v := 8) hx hb dX2_init_5 (by decide) ?_
  refine va_newa (atype := .char) (ty := .char) (a0 := (8, .inl z0)) hx hb (hts _ (bg _ wd_85)) rfl hK hP hD hS hA (fun cA => rfl) (by decide) (by decide) (Nat.le_of_ble_eq_true rfl) (Nat.le_of_ble_eq_true rfl) (Nat.le_of_ble_eq_true rfl) dX2_init_7 (fun q1 cA H hK2 hP hD hS => ?_)
  have hcA := uni_c hK2
  subst hcA
  have hP : va_P (dC, dI) vwCl ([(h0, .inr (6, [.null, .null, .null, .int 0, .int 0, .int 0, .int 0])), (q1, .inl (dA 0, 8, .inl z0))] : va_W) H := hP
  have hD : va_D A ([(h0, .inr (6, [.null, .null, .null, .int 0, .int 0, .int 0, .int 0])), (q1, .inl (dA 0, 8, .inl z0))]) := hD
  refine va_putF (D := (dC, dI)) (ci := 6) (v := .ref q1) (ty := .array .char) (C := RX2) (T := TX2) (N := 7) hx hb hts in_X2 tyX2 tyX2_ok nmX2 hown hK hP hD hS 0 rfl rfl 0 (by decide) (hts _ (bg _ wd_52)) (fun _ h9 => h9) rfl hin rfl (by decide +kernel) rfl rfl (Nat.le_of_ble_eq_true rfl) dX2_init_9 (fun H locs hP hD hS => ?_)
  have hP : va_P (dC, dI) vwCl ([(h0, .inr (6, [.ref q1, .null, .null, .int 0, .int 0, .int 0, .int 0])), (q1, .inl (dA 0, 8, .inl z0))] : va_W) H := hP
  have hD : va_D A ([(h0, .inr (6, [.ref q1, .null, .null, .int 0, .int 0, .int 0, .int 0])), (q1, .inl (dA 0, 8, .inl z0))]) := hD
  refine lv_aload_n hx hb dX2_init_12 rfl (lv_at hl 0 rfl) ?_
  refine lv_bipush (v := 8) hx hb dX2_init_13 (by decide) ?_
  refine va_newa (atype := .int) (ty := .int) (a0 := (8, .inl z0)) hx hb (hts _ (bg _ wd_86)) rfl hK hP hD hS hA (fun cA => rfl) (by decide) (by decide) (Nat.le_of_ble_eq_true rfl) (Nat.le_of_ble_eq_true rfl) (Nat.le_of_ble_eq_true rfl) dX2_init_15 (fun q2 cA H hK2 hP hD hS => ?_)
  have hcA := uni_i hK2
  subst hcA
  have hP : va_P (dC, dI) vwCl ([(h0, .inr (6, [.ref q1, .null, .null, .int 0, .int 0, .int 0, .int 0])), (q1, .inl (dA 0, 8, .inl z0)), (q2, .inl (dA 1, 8, .inl z0))] : va_W) H := hP
  have hD : va_D A ([(h0, .inr (6, [.ref q1, .null, .null, .int 0, .int 0, .int 0, .int 0])), (q1, .inl (dA 0, 8, .inl z0)), (q2, .inl (dA 1, 8, .inl z0))]) := hD
  refine va_putF (D := (dC, dI)) (ci := 6) (v := .ref q2) (ty := .array .int) (C := RX2) (T := TX2) (N := 7) hx hb hts in_X2 tyX2 tyX2_ok nmX2 hown hK hP hD hS 0 rfl rfl 1 (by decide) (hts _ (bg _ wd_55)) (fun _ h9 => h9) rfl hin rfl (by decide +kernel) rfl rfl (Nat.le_of_ble_eq_true rfl) dX2_init_17 (fun H locs hP hD hS => ?_)
  have hP : va_P (dC, dI) vwCl ([(h0, .inr (6, [.ref q1, .ref q2, .null, .int 0, .int 0, .int 0, .int 0])), (q1, .inl (dA 0, 8, .inl z0)), (q2, .inl (dA 1, 8, .inl z0))] : va_W) H := hP
  have hD : va_D A ([(h0, .inr (6, [.ref q1, .ref q2, .null, .int 0, .int 0, .int 0, .int 0])), (q1, .inl (dA 0, 8, .inl z0)), (q2, .inl (dA 1, 8, .inl z0))]) := hD
  refine lv_aload_n hx hb dX2_init_20 rfl (lv_at hl 0 rfl) ?_
  refine lv_bipush (v := 8) hx hb dX2_init_21 (by decide) ?_
  refine va_newa (atype := .int) (ty := .int) (a0 := (8, .inl z0)) hx hb (hts _ (bg _ wd_86)) rfl hK hP hD hS hA (fun cA => rfl) (by decide) (by decide) (Nat.le_of_ble_eq_true rfl) (Nat.le_of_ble_eq_true rfl) (Nat.le_of_ble_eq_true rfl) dX2_init_23 (fun q3 cA H hK2 hP hD hS => ?_)
  have hcA := uni_i hK2
  subst hcA
  have hP : va_P (dC, dI) vwCl ([(h0, .inr (6, [.ref q1, .ref q2, .null, .int 0, .int 0, .int 0, .int 0])), (q1, .inl (dA 0, 8, .inl z0)), (q2, .inl (dA 1, 8, .inl z0)), (q3, .inl (dA 1, 8, .inl z0))] : va_W) H := hP
  have hD : va_D A ([(h0, .inr (6, [.ref q1, .ref q2, .null, .int 0, .int 0, .int 0, .int 0])), (q1, .inl (dA 0, 8, .inl z0)), (q2, .inl (dA 1, 8, .inl z0)), (q3, .inl (dA 1, 8, .inl z0))]) := hD
  refine va_putF (D := (dC, dI)) (ci := 6) (v := .ref q3) (ty := .array .int) (C := RX2) (T := TX2) (N := 7) hx hb hts in_X2 tyX2 tyX2_ok nmX2 hown hK hP hD hS 0 rfl rfl 2 (by decide) (hts _ (bg _ wd_57)) (fun _ h9 => h9) rfl hin rfl (by decide +kernel) rfl rfl (Nat.le_of_ble_eq_true rfl) dX2_init_25 (fun H locs hP hD hS => ?_)
  have hP : va_P (dC, dI) vwCl ([(h0, .inr (6, [.ref q1, .ref q2, .ref q3, .int 0, .int 0, .int 0, .int 0])), (q1, .inl (dA 0, 8, .inl z0)), (q2, .inl (dA 1, 8, .inl z0)), (q3, .inl (dA 1, 8, .inl z0))] : va_W) H := hP
  have hD : va_D A ([(h0, .inr (6, [.ref q1, .ref q2, .ref q3, .int 0, .int 0, .int 0, .int 0])), (q1, .inl (dA 0, 8, .inl z0)), (q2, .inl (dA 1, 8, .inl z0)), (q3, .inl (dA 1, 8, .inl z0))]) := hD
  refine lv_aload_n hx hb dX2_init_28 rfl (lv_at hl 0 rfl) ?_
  refine lv_iconst (v := (-1)) hx hb dX2_init_29 (by decide) ?_
  refine va_put (D := (dC, dI)) (ci := 6) (v := .int (-1)) (ty := .int) (C := RX2) (T := TX2) (N := 7) hx hb hts in_X2 tyX2 tyX2_ok nmX2 hown hK hP hD hS 0 rfl rfl 4 (by decide) (hts _ (bg _ wd_63)) (fun _ h9 => h9) rfl (by decide +kernel) rfl rfl (Nat.le_of_ble_eq_true rfl) dX2_init_30 (fun H locs hP hD hS => ?_)
  have hP : va_P (dC, dI) vwCl ([(h0, .inr (6, [.ref q1, .ref q2, .ref q3, .int 0, .int (-1), .int 0, .int 0])), (q1, .inl (dA 0, 8, .inl z0)), (q2, .inl (dA 1, 8, .inl z0)), (q3, .inl (dA 1, 8, .inl z0))] : va_W) H := hP
  have hD : va_D A ([(h0, .inr (6, [.ref q1, .ref q2, .ref q3, .int 0, .int (-1), .int 0, .int 0])), (q1, .inl (dA 0, 8, .inl z0)), (q2, .inl (dA 1, 8, .inl z0)), (q3, .inl (dA 1, 8, .inl z0))]) := hD
  refine W.widen (k := 3) (n := 24) (Nat.le_of_ble_eq_true rfl) (Nat.le_of_ble_eq_true rfl) ?_
  exact W.vret hx hb hr (fun t ht hW => ⟨⟨(fun k => [h0, q1, q2, q3].getD k 0), rfl, rfl, by rw [ht]; exact hP, hD⟩, hS.F ht⟩) hS.2.2 dX2_init_33
set_option maxRecDepth 100000 in
set_option maxHeartbeats 4000000 in
theorem m_X4_init (l : Launch) (dC : Nat → ClassId) (dI : Nat → Nat → Nat) (dA gz : Nat → Nat) (sz h0 : Nat)  : Met l yX4_init ws_X4_init ({ frames := 14, cells := 4, slots := 48, locals := 400 } : Room) (va_Pc [.ref h0] (pP (dC, dI) dA gz ([(h0, .inr (8, [.null, .null, .null, .null, .int 0]))]) sz)) (va_Qv (S := Nat → Nat) (fun oa => oa 0 = h0) (fun oa t => pQ (dC, dI) (va_A ([(h0, .inr (8, [.null, .null, .null, .null, .int 0]))]) sz) (wX4 dA oa ((z0, z0, z0, z0, 0) : SX4)) t) (va_A ([(h0, .inr (8, [.null, .null, .null, .null, .int 0]))]) sz)) 4 48 (va_A ([(h0, .inr (8, [.null, .null, .null, .null, .int 0]))]) sz) := by
  refine Met.ofW (cc := cX4_init) (maxL := 1) (ret := none) (by decide) rfl ?_
  intro p e s m args below meth c s₁ B hml hv
  obtain ⟨rfl, hsz, hP, hK, hD0, hN, hZ⟩ := hv
  have hx := B.exec
  have hb := B.bytes
  have hr := B.returns
  have hts := atoms_spec (ws := ws_X4_init) B.pre
  have hown : s.vm.findClass RX4 = some m.cls := findClass_of_methodNamed B.named
  have hlocks := B.notSynchronized
  have hin : meth.name = "<init>" := (name_of_methodNamed B.named B.method).1
  subst hsz
  have hD := hD0.self (sz := s.heap.size)
  generalize hAe : va_A ([(h0, .inr (8, [.null, .null, .null, .null, .int 0]))]) s.heap.size = A at hD hZ ⊢
  have hA : ∀ z : Nat, s.heap.size ≤ z → A z := fun z h => by rw [← hAe]; exact Or.inr h
  have hS : va_S A s.heap s.heap [] := va_S.rf
  have hP : va_P (dC, dI) vwCl ([(h0, .inr (8, [.null, .null, .null, .null, .int 0]))]) s.heap := hP
  have hl := lv_entry [.ref h0] (n := 1) (Nat.le_of_ble_eq_true rfl)
  rw [lg_entry_eq]
  generalize (lg_sl [.ref h0] ++ List.replicate (1 - (lg_sl [.ref h0]).length) Slot.unset).toArray = ls at hl ⊢
  have hl : lv_has ls 1 [(0, .ref h0)] := hl
  have in_X4 : ∀ w ∈ wsX40, w ∈ ws_X4_init := fun w h => bg _ (inB_X4 w h)
  refine lv_aload_n hx hb dX4_init_0 rfl (lv_at hl 0 rfl) ?_
  refine W.objInit hx hb hown (hts _ (bg _ wd_118)) (hts _ (bg _ wd_38)) (hts _ (bg _ wd_39)) rfl (by rw [hml]; exact hl.1) rfl dX4_init_1 (Nat.le_of_ble_eq_true rfl) (Nat.le_of_ble_eq_true rfl) ?_
  refine W.eq (g2 := F0 m 4 ls []) rfl ?_
  refine lv_aload_n hx hb dX4_init_4 rfl (lv_at hl 0 rfl) ?_
  refine lv_bipush (v := 12) hx hb dX4_init_5 (by decide) ?_
  refine va_newa (atype := .int) (ty := .int) (a0 := (12, .inl z0)) hx hb (hts _ (bg _ wd_86)) rfl hK hP hD hS hA (fun cA => rfl) (by decide) (by decide) (Nat.le_of_ble_eq_true rfl) (Nat.le_of_ble_eq_true rfl) (Nat.le_of_ble_eq_true rfl) dX4_init_7 (fun q1 cA H hK2 hP hD hS => ?_)
  have hcA := uni_i hK2
  subst hcA
  have hP : va_P (dC, dI) vwCl ([(h0, .inr (8, [.null, .null, .null, .null, .int 0])), (q1, .inl (dA 1, 12, .inl z0))] : va_W) H := hP
  have hD : va_D A ([(h0, .inr (8, [.null, .null, .null, .null, .int 0])), (q1, .inl (dA 1, 12, .inl z0))]) := hD
  refine va_putF (D := (dC, dI)) (ci := 8) (v := .ref q1) (ty := .array .int) (C := RX4) (T := TX4) (N := 5) hx hb hts in_X4 tyX4 tyX4_ok nmX4 hown hK hP hD hS 0 rfl rfl 0 (by decide) (hts _ (bg _ wd_119)) (fun _ h9 => h9) rfl hin rfl (by decide +kernel) rfl rfl (Nat.le_of_ble_eq_true rfl) dX4_init_9 (fun H locs hP hD hS => ?_)
  have hP : va_P (dC, dI) vwCl ([(h0, .inr (8, [.ref q1, .null, .null, .null, .int 0])), (q1, .inl (dA 1, 12, .inl z0))] : va_W) H := hP
  have hD : va_D A ([(h0, .inr (8, [.ref q1, .null, .null, .null, .int 0])), (q1, .inl (dA 1, 12, .inl z0))]) := hD
  refine lv_aload_n hx hb dX4_init_12 rfl (lv_at hl 0 rfl) ?_
  refine lv_bipush (v := 12) hx hb dX4_init_13 (by decide) ?_
  refine va_newa (atype := .int) (ty := .int) (a0 := (12, .inl z0)) hx hb (hts _ (bg _ wd_86)) rfl hK hP hD hS hA (fun cA => rfl) (by decide) (by decide) (Nat.le_of_ble_eq_true rfl) (Nat.le_of_ble_eq_true rfl) (Nat.le_of_ble_eq_true rfl) dX4_init_15 (fun q2 cA H hK2 hP hD hS => ?_)
  have hcA := uni_i hK2
  subst hcA
  have hP : va_P (dC, dI) vwCl ([(h0, .inr (8, [.ref q1, .null, .null, .null, .int 0])), (q1, .inl (dA 1, 12, .inl z0)), (q2, .inl (dA 1, 12, .inl z0))] : va_W) H := hP
  have hD : va_D A ([(h0, .inr (8, [.ref q1, .null, .null, .null, .int 0])), (q1, .inl (dA 1, 12, .inl z0)), (q2, .inl (dA 1, 12, .inl z0))]) := hD
  refine va_putF (D := (dC, dI)) (ci := 8) (v := .ref q2) (ty := .array .int) (C := RX4) (T := TX4) (N := 5) hx hb hts in_X4 tyX4 tyX4_ok nmX4 hown hK hP hD hS 0 rfl rfl 1 (by decide) (hts _ (bg _ wd_121)) (fun _ h9 => h9) rfl hin rfl (by decide +kernel) rfl rfl (Nat.le_of_ble_eq_true rfl) dX4_init_17 (fun H locs hP hD hS => ?_)
  have hP : va_P (dC, dI) vwCl ([(h0, .inr (8, [.ref q1, .ref q2, .null, .null, .int 0])), (q1, .inl (dA 1, 12, .inl z0)), (q2, .inl (dA 1, 12, .inl z0))] : va_W) H := hP
  have hD : va_D A ([(h0, .inr (8, [.ref q1, .ref q2, .null, .null, .int 0])), (q1, .inl (dA 1, 12, .inl z0)), (q2, .inl (dA 1, 12, .inl z0))]) := hD
  refine lv_aload_n hx hb dX4_init_20 rfl (lv_at hl 0 rfl) ?_
  refine lv_bipush (v := 12) hx hb dX4_init_21 (by decide) ?_
  refine va_newa (atype := .int) (ty := .int) (a0 := (12, .inl z0)) hx hb (hts _ (bg _ wd_86)) rfl hK hP hD hS hA (fun cA => rfl) (by decide) (by decide) (Nat.le_of_ble_eq_true rfl) (Nat.le_of_ble_eq_true rfl) (Nat.le_of_ble_eq_true rfl) dX4_init_23 (fun q3 cA H hK2 hP hD hS => ?_)
  have hcA := uni_i hK2
  subst hcA
  have hP : va_P (dC, dI) vwCl ([(h0, .inr (8, [.ref q1, .ref q2, .null, .null, .int 0])), (q1, .inl (dA 1, 12, .inl z0)), (q2, .inl (dA 1, 12, .inl z0)), (q3, .inl (dA 1, 12, .inl z0))] : va_W) H := hP
  have hD : va_D A ([(h0, .inr (8, [.ref q1, .ref q2, .null, .null, .int 0])), (q1, .inl (dA 1, 12, .inl z0)), (q2, .inl (dA 1, 12, .inl z0)), (q3, .inl (dA 1, 12, .inl z0))]) := hD
  refine va_putF (D := (dC, dI)) (ci := 8) (v := .ref q3) (ty := .array .int) (C := RX4) (T := TX4) (N := 5) hx hb hts in_X4 tyX4 tyX4_ok nmX4 hown hK hP hD hS 0 rfl rfl 2 (by decide) (hts _ (bg _ wd_123)) (fun _ h9 => h9) rfl hin rfl (by decide +kernel) rfl rfl (Nat.le_of_ble_eq_true rfl) dX4_init_25 (fun H locs hP hD hS => ?_)
  have hP : va_P (dC, dI) vwCl ([(h0, .inr (8, [.ref q1, .ref q2, .ref q3, .null, .int 0])), (q1, .inl (dA 1, 12, .inl z0)), (q2, .inl (dA 1, 12, .inl z0)), (q3, .inl (dA 1, 12, .inl z0))] : va_W) H := hP
  have hD : va_D A ([(h0, .inr (8, [.ref q1, .ref q2, .ref q3, .null, .int 0])), (q1, .inl (dA 1, 12, .inl z0)), (q2, .inl (dA 1, 12, .inl z0)), (q3, .inl (dA 1, 12, .inl z0))]) := hD
  refine lv_aload_n hx hb dX4_init_28 rfl (lv_at hl 0 rfl) ?_
  refine lv_bipush (v := 12) hx hb dX4_init_29 (by decide) ?_
  refine va_newa (atype := .int) (ty := .int) (a0 := (12, .inl z0)) hx hb (hts _ (bg _ wd_86)) rfl hK hP hD hS hA (fun cA => rfl) (by decide) (by decide) (Nat.le_of_ble_eq_true rfl) (Nat.le_of_ble_eq_true rfl) (Nat.le_of_ble_eq_true rfl) dX4_init_31 (fun q4 cA H hK2 hP hD hS => ?_)
  have hcA := uni_i hK2
  subst hcA
  have hP : va_P (dC, dI) vwCl ([(h0, .inr (8, [.ref q1, .ref q2, .ref q3, .null, .int 0])), (q1, .inl (dA 1, 12, .inl z0)), (q2, .inl (dA 1, 12, .inl z0)), (q3, .inl (dA 1, 12, .inl z0)), (q4, .inl (dA 1, 12, .inl z0))] : va_W) H := hP
  have hD : va_D A ([(h0, .inr (8, [.ref q1, .ref q2, .ref q3, .null, .int 0])), (q1, .inl (dA 1, 12, .inl z0)), (q2, .inl (dA 1, 12, .inl z0)), (q3, .inl (dA 1, 12, .inl z0)), (q4, .inl (dA 1, 12, .inl z0))]) := hD
  refine va_putF (D := (dC, dI)) (ci := 8) (v := .ref q4) (ty := .array .int) (C := RX4) (T := TX4) (N := 5) hx hb hts in_X4 tyX4 tyX4_ok nmX4 hown hK hP hD hS 0 rfl rfl 3 (by decide) (hts _ (bg _ wd_125)) (fun _ h9 => h9) rfl hin rfl (by decide +kernel) rfl rfl (Nat.le_of_ble_eq_true rfl) dX4_init_33 (fun H locs hP hD hS => ?_)
  have hP : va_P (dC, dI) vwCl ([(h0, .inr (8, [.ref q1, .ref q2, .ref q3, .ref q4, .int 0])), (q1, .inl (dA 1, 12, .inl z0)), (q2, .inl (dA 1, 12, .inl z0)), (q3, .inl (dA 1, 12, .inl z0)), (q4, .inl (dA 1, 12, .inl z0))] : va_W) H := hP
  have hD : va_D A ([(h0, .inr (8, [.ref q1, .ref q2, .ref q3, .ref q4, .int 0])), (q1, .inl (dA 1, 12, .inl z0)), (q2, .inl (dA 1, 12, .inl z0)), (q3, .inl (dA 1, 12, .inl z0)), (q4, .inl (dA 1, 12, .inl z0))]) := hD
  refine W.widen (k := 4) (n := 48) (Nat.le_of_ble_eq_true rfl) (Nat.le_of_ble_eq_true rfl) ?_
  exact W.vret hx hb hr (fun t ht hW => ⟨⟨(fun k => [h0, q1, q2, q3, q4].getD k 0), rfl, rfl, by rw [ht]; exact hP, hD⟩, hS.F ht⟩) hS.2.2 dX4_init_36
set_option maxRecDepth 100000 in
set_option maxHeartbeats 4000000 in
theorem m_X5_init (l : Launch) (dC : Nat → ClassId) (dI : Nat → Nat → Nat) (dA gz : Nat → Nat) (sz h0 : Nat)  : Met l yX5_init ws_X5_init ({ frames := 14, cells := 1, slots := 5, locals := 400 } : Room) (va_Pc [.ref h0] (pP (dC, dI) dA gz ([(h0, .inr (9, [.null, .int 0, .int 0, .int 0]))]) sz)) (va_Qv (S := Nat → Nat) (fun oa => oa 0 = h0) (fun oa t => pQ (dC, dI) (va_A ([(h0, .inr (9, [.null, .int 0, .int 0, .int 0]))]) sz) (wX5 dA oa ((z0, 0, 0, 0) : SX5)) t) (va_A ([(h0, .inr (9, [.null, .int 0, .int 0, .int 0]))]) sz)) 1 5 (va_A ([(h0, .inr (9, [.null, .int 0, .int 0, .int 0]))]) sz) := by
  refine Met.ofW (cc := cX5_init) (maxL := 1) (ret := none) (by decide) rfl ?_
  intro p e s m args below meth c s₁ B hml hv
  obtain ⟨rfl, hsz, hP, hK, hD0, hN, hZ⟩ := hv
  have hx := B.exec
  have hb := B.bytes
  have hr := B.returns
  have hts := atoms_spec (ws := ws_X5_init) B.pre
  have hown : s.vm.findClass RX5 = some m.cls := findClass_of_methodNamed B.named
  have hlocks := B.notSynchronized
  have hin : meth.name = "<init>" := (name_of_methodNamed B.named B.method).1
  subst hsz
  have hD := hD0.self (sz := s.heap.size)
  generalize hAe : va_A ([(h0, .inr (9, [.null, .int 0, .int 0, .int 0]))]) s.heap.size = A at hD hZ ⊢
  have hA : ∀ z : Nat, s.heap.size ≤ z → A z := fun z h => by rw [← hAe]; exact Or.inr h
  have hS : va_S A s.heap s.heap [] := va_S.rf
  have hP : va_P (dC, dI) vwCl ([(h0, .inr (9, [.null, .int 0, .int 0, .int 0]))]) s.heap := hP
  have hl := lv_entry [.ref h0] (n := 1) (Nat.le_of_ble_eq_true rfl)
  rw [lg_entry_eq]
  generalize (lg_sl [.ref h0] ++ List.replicate (1 - (lg_sl [.ref h0]).length) Slot.unset).toArray = ls at hl ⊢
  have hl : lv_has ls 1 [(0, .ref h0)] := hl
  have in_X5 : ∀ w ∈ wsX50, w ∈ ws_X5_init := fun w h => bg _ (inB_X5 w h)
  refine lv_aload_n hx hb dX5_init_0 rfl (lv_at hl 0 rfl) ?_
  refine W.objInit hx hb hown (hts _ (bg _ wd_146)) (hts _ (bg _ wd_38)) (hts _ (bg _ wd_39)) rfl (by rw [hml]; exact hl.1) rfl dX5_init_1 (Nat.le_of_ble_eq_true rfl) (Nat.le_of_ble_eq_true rfl) ?_
  refine W.eq (g2 := F0 m 4 ls []) rfl ?_
  refine lv_aload_n hx hb dX5_init_4 rfl (lv_at hl 0 rfl) ?_
  refine lv_iconst (v := 5) hx hb dX5_init_5 (by decide) ?_
  refine va_newa (atype := .int) (ty := .int) (a0 := (5, .inl z0)) hx hb (hts _ (bg _ wd_86)) rfl hK hP hD hS hA (fun cA => rfl) (by decide) (by decide) (Nat.le_of_ble_eq_true rfl) (Nat.le_of_ble_eq_true rfl) (Nat.le_of_ble_eq_true rfl) dX5_init_6 (fun q1 cA H hK2 hP hD hS => ?_)
  have hcA := uni_i hK2
  subst hcA
  have hP : va_P (dC, dI) vwCl ([(h0, .inr (9, [.null, .int 0, .int 0, .int 0])), (q1, .inl (dA 1, 5, .inl z0))] : va_W) H := hP
  have hD : va_D A ([(h0, .inr (9, [.null, .int 0, .int 0, .int 0])), (q1, .inl (dA 1, 5, .inl z0))]) := hD
  refine va_putF (D := (dC, dI)) (ci := 9) (v := .ref q1) (ty := .array .int) (C := RX5) (T := TX5) (N := 4) hx hb hts in_X5 tyX5 tyX5_ok nmX5 hown hK hP hD hS 0 rfl rfl 0 (by decide) (hts _ (bg _ wd_147)) (fun _ h9 => h9) rfl hin rfl (by decide +kernel) rfl rfl (Nat.le_of_ble_eq_true rfl) dX5_init_8 (fun H locs hP hD hS => ?_)
  have hP : va_P (dC, dI) vwCl ([(h0, .inr (9, [.ref q1, .int 0, .int 0, .int 0])), (q1, .inl (dA 1, 5, .inl z0))] : va_W) H := hP
  have hD : va_D A ([(h0, .inr (9, [.ref q1, .int 0, .int 0, .int 0])), (q1, .inl (dA 1, 5, .inl z0))]) := hD
  refine W.widen (k := 1) (n := 5) (Nat.le_of_ble_eq_true rfl) (Nat.le_of_ble_eq_true rfl) ?_
  exact W.vret hx hb hr (fun t ht hW => ⟨⟨(fun k => [h0, q1].getD k 0), rfl, rfl, by rw [ht]; exact hP, hD⟩, hS.F ht⟩) hS.2.2 dX5_init_11
set_option maxRecDepth 100000 in
set_option maxHeartbeats 4000000 in
theorem m_X6_init (l : Launch) (dC : Nat → ClassId) (dI : Nat → Nat → Nat) (dA gz : Nat → Nat) (sz h0 : Nat)  : Met l yX6_init ws_X6_init ({ frames := 14, cells := 5, slots := 112, locals := 400 } : Room) (va_Pc [.ref h0] (pP (dC, dI) dA gz ([(h0, .inr (10, [.null, .int 0, .int 0, .null, .null, .null, .null, .int 0]))]) sz)) (va_Qv (S := Nat → Nat) (fun oa => oa 0 = h0) (fun oa t => pQ (dC, dI) (va_A ([(h0, .inr (10, [.null, .int 0, .int 0, .null, .null, .null, .null, .int 0]))]) sz) (wX6 dA oa ((z0, 0, 0, z0, z0, z0, z0, 0) : SX6)) t) (va_A ([(h0, .inr (10, [.null, .int 0, .int 0, .null, .null, .null, .null, .int 0]))]) sz)) 5 112 (va_A ([(h0, .inr (10, [.null, .int 0, .int 0, .null, .null, .null, .null, .int 0]))]) sz) := by
  refine Met.ofW (cc := cX6_init) (maxL := 1) (ret := none) (by decide) rfl ?_
  intro p e s m args below meth c s₁ B hml hv
  obtain ⟨rfl, hsz, hP, hK, hD0, hN, hZ⟩ := hv
  have hx := B.exec
  have hb := B.bytes
  have hr := B.returns
  have hts := atoms_spec (ws := ws_X6_init) B.pre
  have hown : s.vm.findClass RX6 = some m.cls := findClass_of_methodNamed B.named
  have hlocks := B.notSynchronized
  have hin : meth.name = "<init>" := (name_of_methodNamed B.named B.method).1
  subst hsz
  have hD := hD0.self (sz := s.heap.size)
  generalize hAe : va_A ([(h0, .inr (10, [.null, .int 0, .int 0, .null, .null, .null, .null, .int 0]))]) s.heap.size = A at hD hZ ⊢
  have hA : ∀ z : Nat, s.heap.size ≤ z → A z := fun z h => by rw [← hAe]; exact Or.inr h
  have hS : va_S A s.heap s.heap [] := va_S.rf
  have hP : va_P (dC, dI) vwCl ([(h0, .inr (10, [.null, .int 0, .int 0, .null, .null, .null, .null, .int 0]))]) s.heap := hP
  have hl := lv_entry [.ref h0] (n := 1) (Nat.le_of_ble_eq_true rfl)
  rw [lg_entry_eq]
  generalize (lg_sl [.ref h0] ++ List.replicate (1 - (lg_sl [.ref h0]).length) Slot.unset).toArray = ls at hl ⊢
  have hl : lv_has ls 1 [(0, .ref h0)] := hl
  have in_X6 : ∀ w ∈ wsX60, w ∈ ws_X6_init := fun w h => bg _ (inB_X6 w h)
  refine lv_aload_n hx hb dX6_init_0 rfl (lv_at hl 0 rfl) ?_
  refine W.objInit hx hb hown (hts _ (bg _ wd_208)) (hts _ (bg _ wd_38)) (hts _ (bg _ wd_39)) rfl (by rw [hml]; exact hl.1) rfl dX6_init_1 (Nat.le_of_ble_eq_true rfl) (Nat.le_of_ble_eq_true rfl) ?_
  refine W.eq (g2 := F0 m 4 ls []) rfl ?_
  refine lv_aload_n hx hb dX6_init_4 rfl (lv_at hl 0 rfl) ?_
  refine lv_bipush (v := 60) hx hb dX6_init_5 (by decide) ?_
  refine va_newa (atype := .char) (ty := .char) (a0 := (60, .inl z0)) hx hb (hts _ (bg _ wd_85)) rfl hK hP hD hS hA (fun cA => rfl) (by decide) (by decide) (Nat.le_of_ble_eq_true rfl) (Nat.le_of_ble_eq_true rfl) (Nat.le_of_ble_eq_true rfl) dX6_init_7 (fun q1 cA H hK2 hP hD hS => ?_)
  have hcA := uni_c hK2
  subst hcA
  have hP : va_P (dC, dI) vwCl ([(h0, .inr (10, [.null, .int 0, .int 0, .null, .null, .null, .null, .int 0])), (q1, .inl (dA 0, 60, .inl z0))] : va_W) H := hP
  have hD : va_D A ([(h0, .inr (10, [.null, .int 0, .int 0, .null, .null, .null, .null, .int 0])), (q1, .inl (dA 0, 60, .inl z0))]) := hD
  refine va_putF (D := (dC, dI)) (ci := 10) (v := .ref q1) (ty := .array .char) (C := RX6) (T := TX6) (N := 8) hx hb hts in_X6 tyX6 tyX6_ok nmX6 hown hK hP hD hS 0 rfl rfl 0 (by decide) (hts _ (bg _ wd_209)) (fun _ h9 => h9) rfl hin rfl (by decide +kernel) rfl rfl (Nat.le_of_ble_eq_true rfl) dX6_init_9 (fun H locs hP hD hS => ?_)
  have hP : va_P (dC, dI) vwCl ([(h0, .inr (10, [.ref q1, .int 0, .int 0, .null, .null, .null, .null, .int 0])), (q1, .inl (dA 0, 60, .inl z0))] : va_W) H := hP
  have hD : va_D A ([(h0, .inr (10, [.ref q1, .int 0, .int 0, .null, .null, .null, .null, .int 0])), (q1, .inl (dA 0, 60, .inl z0))]) := hD
  refine lv_aload_n hx hb dX6_init_12 rfl (lv_at hl 0 rfl) ?_
  refine lv_bipush (v := 13) hx hb dX6_init_13 (by decide) ?_
  refine va_newa (atype := .int) (ty := .int) (a0 := (13, .inl z0)) hx hb (hts _ (bg _ wd_86)) rfl hK hP hD hS hA (fun cA => rfl) (by decide) (by decide) (Nat.le_of_ble_eq_true rfl) (Nat.le_of_ble_eq_true rfl) (Nat.le_of_ble_eq_true rfl) dX6_init_15 (fun q2 cA H hK2 hP hD hS => ?_)
  have hcA := uni_i hK2
  subst hcA
  have hP : va_P (dC, dI) vwCl ([(h0, .inr (10, [.ref q1, .int 0, .int 0, .null, .null, .null, .null, .int 0])), (q1, .inl (dA 0, 60, .inl z0)), (q2, .inl (dA 1, 13, .inl z0))] : va_W) H := hP
  have hD : va_D A ([(h0, .inr (10, [.ref q1, .int 0, .int 0, .null, .null, .null, .null, .int 0])), (q1, .inl (dA 0, 60, .inl z0)), (q2, .inl (dA 1, 13, .inl z0))]) := hD
  refine va_putF (D := (dC, dI)) (ci := 10) (v := .ref q2) (ty := .array .int) (C := RX6) (T := TX6) (N := 8) hx hb hts in_X6 tyX6 tyX6_ok nmX6 hown hK hP hD hS 0 rfl rfl 3 (by decide) (hts _ (bg _ wd_214)) (fun _ h9 => h9) rfl hin rfl (by decide +kernel) rfl rfl (Nat.le_of_ble_eq_true rfl) dX6_init_17 (fun H locs hP hD hS => ?_)
  have hP : va_P (dC, dI) vwCl ([(h0, .inr (10, [.ref q1, .int 0, .int 0, .ref q2, .null, .null, .null, .int 0])), (q1, .inl (dA 0, 60, .inl z0)), (q2, .inl (dA 1, 13, .inl z0))] : va_W) H := hP
  have hD : va_D A ([(h0, .inr (10, [.ref q1, .int 0, .int 0, .ref q2, .null, .null, .null, .int 0])), (q1, .inl (dA 0, 60, .inl z0)), (q2, .inl (dA 1, 13, .inl z0))]) := hD
  refine lv_aload_n hx hb dX6_init_20 rfl (lv_at hl 0 rfl) ?_
  refine lv_bipush (v := 13) hx hb dX6_init_21 (by decide) ?_
  refine va_newa (atype := .char) (ty := .char) (a0 := (13, .inl z0)) hx hb (hts _ (bg _ wd_85)) rfl hK hP hD hS hA (fun cA => rfl) (by decide) (by decide) (Nat.le_of_ble_eq_true rfl) (Nat.le_of_ble_eq_true rfl) (Nat.le_of_ble_eq_true rfl) dX6_init_23 (fun q3 cA H hK2 hP hD hS => ?_)
  have hcA := uni_c hK2
  subst hcA
  have hP : va_P (dC, dI) vwCl ([(h0, .inr (10, [.ref q1, .int 0, .int 0, .ref q2, .null, .null, .null, .int 0])), (q1, .inl (dA 0, 60, .inl z0)), (q2, .inl (dA 1, 13, .inl z0)), (q3, .inl (dA 0, 13, .inl z0))] : va_W) H := hP
  have hD : va_D A ([(h0, .inr (10, [.ref q1, .int 0, .int 0, .ref q2, .null, .null, .null, .int 0])), (q1, .inl (dA 0, 60, .inl z0)), (q2, .inl (dA 1, 13, .inl z0)), (q3, .inl (dA 0, 13, .inl z0))]) := hD
  refine va_putF (D := (dC, dI)) (ci := 10) (v := .ref q3) (ty := .array .char) (C := RX6) (T := TX6) (N := 8) hx hb hts in_X6 tyX6 tyX6_ok nmX6 hown hK hP hD hS 0 rfl rfl 4 (by decide) (hts _ (bg _ wd_216)) (fun _ h9 => h9) rfl hin rfl (by decide +kernel) rfl rfl (Nat.le_of_ble_eq_true rfl) dX6_init_25 (fun H locs hP hD hS => ?_)
  have hP : va_P (dC, dI) vwCl ([(h0, .inr (10, [.ref q1, .int 0, .int 0, .ref q2, .ref q3, .null, .null, .int 0])), (q1, .inl (dA 0, 60, .inl z0)), (q2, .inl (dA 1, 13, .inl z0)), (q3, .inl (dA 0, 13, .inl z0))] : va_W) H := hP
  have hD : va_D A ([(h0, .inr (10, [.ref q1, .int 0, .int 0, .ref q2, .ref q3, .null, .null, .int 0])), (q1, .inl (dA 0, 60, .inl z0)), (q2, .inl (dA 1, 13, .inl z0)), (q3, .inl (dA 0, 13, .inl z0))]) := hD
  refine lv_aload_n hx hb dX6_init_28 rfl (lv_at hl 0 rfl) ?_
  refine lv_bipush (v := 13) hx hb dX6_init_29 (by decide) ?_
  refine va_newa (atype := .int) (ty := .int) (a0 := (13, .inl z0)) hx hb (hts _ (bg _ wd_86)) rfl hK hP hD hS hA (fun cA => rfl) (by decide) (by decide) (Nat.le_of_ble_eq_true rfl) (Nat.le_of_ble_eq_true rfl) (Nat.le_of_ble_eq_true rfl) dX6_init_31 (fun q4 cA H hK2 hP hD hS => ?_)
  have hcA := uni_i hK2
  subst hcA
  have hP : va_P (dC, dI) vwCl ([(h0, .inr (10, [.ref q1, .int 0, .int 0, .ref q2, .ref q3, .null, .null, .int 0])), (q1, .inl (dA 0, 60, .inl z0)), (q2, .inl (dA 1, 13, .inl z0)), (q3, .inl (dA 0, 13, .inl z0)), (q4, .inl (dA 1, 13, .inl z0))] : va_W) H := hP
  have hD : va_D A ([(h0, .inr (10, [.ref q1, .int 0, .int 0, .ref q2, .ref q3, .null, .null, .int 0])), (q1, .inl (dA 0, 60, .inl z0)), (q2, .inl (dA 1, 13, .inl z0)), (q3, .inl (dA 0, 13, .inl z0)), (q4, .inl (dA 1, 13, .inl z0))]) := hD
  refine va_putF (D := (dC, dI)) (ci := 10) (v := .ref q4) (ty := .array .int) (C := RX6) (T := TX6) (N := 8) hx hb hts in_X6 tyX6 tyX6_ok nmX6 hown hK hP hD hS 0 rfl rfl 5 (by decide) (hts _ (bg _ wd_218)) (fun _ h9 => h9) rfl hin rfl (by decide +kernel) rfl rfl (Nat.le_of_ble_eq_true rfl) dX6_init_33 (fun H locs hP hD hS => ?_)
  have hP : va_P (dC, dI) vwCl ([(h0, .inr (10, [.ref q1, .int 0, .int 0, .ref q2, .ref q3, .ref q4, .null, .int 0])), (q1, .inl (dA 0, 60, .inl z0)), (q2, .inl (dA 1, 13, .inl z0)), (q3, .inl (dA 0, 13, .inl z0)), (q4, .inl (dA 1, 13, .inl z0))] : va_W) H := hP
  have hD : va_D A ([(h0, .inr (10, [.ref q1, .int 0, .int 0, .ref q2, .ref q3, .ref q4, .null, .int 0])), (q1, .inl (dA 0, 60, .inl z0)), (q2, .inl (dA 1, 13, .inl z0)), (q3, .inl (dA 0, 13, .inl z0)), (q4, .inl (dA 1, 13, .inl z0))]) := hD
  refine lv_aload_n hx hb dX6_init_36 rfl (lv_at hl 0 rfl) ?_
  refine lv_bipush (v := 13) hx hb dX6_init_37 (by decide) ?_
  refine va_newa (atype := .int) (ty := .int) (a0 := (13, .inl z0)) hx hb (hts _ (bg _ wd_86)) rfl hK hP hD hS hA (fun cA => rfl) (by decide) (by decide) (Nat.le_of_ble_eq_true rfl) (Nat.le_of_ble_eq_true rfl) (Nat.le_of_ble_eq_true rfl) dX6_init_39 (fun q5 cA H hK2 hP hD hS => ?_)
  have hcA := uni_i hK2
  subst hcA
  have hP : va_P (dC, dI) vwCl ([(h0, .inr (10, [.ref q1, .int 0, .int 0, .ref q2, .ref q3, .ref q4, .null, .int 0])), (q1, .inl (dA 0, 60, .inl z0)), (q2, .inl (dA 1, 13, .inl z0)), (q3, .inl (dA 0, 13, .inl z0)), (q4, .inl (dA 1, 13, .inl z0)), (q5, .inl (dA 1, 13, .inl z0))] : va_W) H := hP
  have hD : va_D A ([(h0, .inr (10, [.ref q1, .int 0, .int 0, .ref q2, .ref q3, .ref q4, .null, .int 0])), (q1, .inl (dA 0, 60, .inl z0)), (q2, .inl (dA 1, 13, .inl z0)), (q3, .inl (dA 0, 13, .inl z0)), (q4, .inl (dA 1, 13, .inl z0)), (q5, .inl (dA 1, 13, .inl z0))]) := hD
  refine va_putF (D := (dC, dI)) (ci := 10) (v := .ref q5) (ty := .array .int) (C := RX6) (T := TX6) (N := 8) hx hb hts in_X6 tyX6 tyX6_ok nmX6 hown hK hP hD hS 0 rfl rfl 6 (by decide) (hts _ (bg _ wd_220)) (fun _ h9 => h9) rfl hin rfl (by decide +kernel) rfl rfl (Nat.le_of_ble_eq_true rfl) dX6_init_41 (fun H locs hP hD hS => ?_)
  have hP : va_P (dC, dI) vwCl ([(h0, .inr (10, [.ref q1, .int 0, .int 0, .ref q2, .ref q3, .ref q4, .ref q5, .int 0])), (q1, .inl (dA 0, 60, .inl z0)), (q2, .inl (dA 1, 13, .inl z0)), (q3, .inl (dA 0, 13, .inl z0)), (q4, .inl (dA 1, 13, .inl z0)), (q5, .inl (dA 1, 13, .inl z0))] : va_W) H := hP
  have hD : va_D A ([(h0, .inr (10, [.ref q1, .int 0, .int 0, .ref q2, .ref q3, .ref q4, .ref q5, .int 0])), (q1, .inl (dA 0, 60, .inl z0)), (q2, .inl (dA 1, 13, .inl z0)), (q3, .inl (dA 0, 13, .inl z0)), (q4, .inl (dA 1, 13, .inl z0)), (q5, .inl (dA 1, 13, .inl z0))]) := hD
  refine W.widen (k := 5) (n := 112) (Nat.le_of_ble_eq_true rfl) (Nat.le_of_ble_eq_true rfl) ?_
  exact W.vret hx hb hr (fun t ht hW => ⟨⟨(fun k => [h0, q1, q2, q3, q4, q5].getD k 0), rfl, rfl, by rw [ht]; exact hP, hD⟩, hS.F ht⟩) hS.2.2 dX6_init_44
abbrev B0 : SX0 := (((z0, z0, z0, 0, -1, 0, 0) : SX2), ((0, 20, 0, 0) : SX1), ((z0, z0, z0, z0, 0) : SX4), ((z0, 0, 0, 0) : SX5))
set_option maxRecDepth 100000 in
set_option maxHeartbeats 4000000 in
theorem m_X0_init (l : Launch) (dC : Nat → ClassId) (dI : Nat → Nat → Nat) (dA gz : Nat → Nat) (sz h0 : Nat)  : Met l yX0_init ws_X0_init ({ frames := 18, cells := 12, slots := 97, locals := 600 } : Room) (va_Pc [.ref h0] (pP (dC, dI) dA gz ([(h0, .inr (4, [.null, .null, .null, .null]))]) sz)) (va_Qv (S := Nat → Nat) (fun oa => oa 0 = h0) (fun oa t => pQ (dC, dI) (va_A ([(h0, .inr (4, [.null, .null, .null, .null]))]) sz) (wX0 dA oa B0) t) (va_A ([(h0, .inr (4, [.null, .null, .null, .null]))]) sz)) 12 97 (va_A ([(h0, .inr (4, [.null, .null, .null, .null]))]) sz) := by
  refine Met.ofW (cc := cX0_init) (maxL := 1) (ret := none) (by decide) rfl ?_
  intro p e s m args below meth c s₁ B hml hv
  obtain ⟨rfl, hsz, hP, hK, hD0, hN, hZ⟩ := hv
  have hx := B.exec
  have hb := B.bytes
  have hr := B.returns
  have hts := atoms_spec (ws := ws_X0_init) B.pre
  have hown : s.vm.findClass RX0 = some m.cls := findClass_of_methodNamed B.named
  have hlocks := B.notSynchronized
  have hin : meth.name = "<init>" := (name_of_methodNamed B.named B.method).1
  subst hsz
  have hD := hD0.self (sz := s.heap.size)
  generalize hAe : va_A ([(h0, .inr (4, [.null, .null, .null, .null]))]) s.heap.size = A at hD hZ ⊢
  have hA : ∀ z : Nat, s.heap.size ≤ z → A z := fun z h => by rw [← hAe]; exact Or.inr h
  have hS : va_S A s.heap s.heap [] := va_S.rf
  have hP : va_P (dC, dI) vwCl ([(h0, .inr (4, [.null, .null, .null, .null]))]) s.heap := hP
  have hl := lv_entry [.ref h0] (n := 1) (Nat.le_of_ble_eq_true rfl)
  rw [lg_entry_eq]
  generalize (lg_sl [.ref h0] ++ List.replicate (1 - (lg_sl [.ref h0]).length) Slot.unset).toArray = ls at hl ⊢
  have hl : lv_has ls 1 [(0, .ref h0)] := hl
  have in_X0 : ∀ w ∈ wsX00, w ∈ ws_X0_init := fun w h => bg _ (inB_X0 w h)
  refine lv_aload_n hx hb dX0_init_0 rfl (lv_at hl 0 rfl) ?_
  refine W.objInit hx hb hown (hts _ (bg _ wd_45)) (hts _ (bg _ wd_38)) (hts _ (bg _ wd_39)) rfl (by rw [hml]; exact hl.1) rfl dX0_init_1 (Nat.le_of_ble_eq_true rfl) (Nat.le_of_ble_eq_true rfl) ?_
  refine W.eq (g2 := F0 m 4 ls []) rfl ?_
  have hP : va_P (dC, dI) vwCl (([[(h0, .inr (4, [.null, .null, .null, .null]))]] : List va_W).flatten) s.heap := hP
  have hD : va_D A (([[(h0, .inr (4, [.null, .null, .null, .null]))]] : List va_W).flatten) := hD
  refine lv_aload_n hx hb dX0_init_4 rfl (lv_at hl 0 rfl) ?_
  refine va_new (ci := 6) (fs := [.null, .null, .null, .int 0, .int 0, .int 0, .int 0]) (C := RX2) (T := TX2) (N := 7) hx hb hts (fun w h => bg _ (inB_X2 w h)) tyX2 tyX2_ok hown (hts _ (bg _ wd_46)) (hts _ (bg _ wd_47)) (hts _ (bg _ wd_3)) hK hP hD hS hA rfl (fun j hj => by rcases (show j = 0 ∨ j = 1 ∨ j = 2 ∨ j = 3 ∨ j = 4 ∨ j = 5 ∨ j = 6 by omega) with rfl | rfl | rfl | rfl | rfl | rfl | rfl <;> rfl) (Nat.le_of_ble_eq_true rfl) (Nat.le_of_ble_eq_true rfl) dX0_init_5 (fun qX2 H hP hD hS => ?_)
  rw [fl_snoc] at hP hD
  refine lv_dup hx hb dX0_init_8 rfl ?_
  refine jle_v (gs := [[(h0, .inr (4, [.null, .null, .null, .null]))]]) (g := [(qX2, .inr (6, [.null, .null, .null, .int 0, .int 0, .int 0, .int 0]))]) (g1 := fun oa : Nat → Nat => wX2 dA oa ((z0, z0, z0, 0, -1, 0, 0) : SX2)) (va_runIN (As := []) (rest := [.ref qX2, .ref h0]) ⟨hx, hb, hml, hown, hts⟩ (m_X2_init l dC dI dA gz H.size qX2) ⟨va_cnB 0 hts (gi_n bg wd_50) rfl rfl rfl (hN _ ng_1) (hts _ (bg _ wd_3)) hd3_X2_init ⟨Nat.le_of_ble_eq_true rfl, Nat.le_of_ble_eq_true rfl⟩, rfl, hts _ (bg _ wd_49)⟩ ⟨pP_blind, pP_pre1 hP hD hS hA hK hN hZ 1 rfl⟩ rfl rfl hl.1 rfl (lv_room (Nat.le_of_ble_eq_true rfl)) dX0_init_9 ⟨Nat.le_of_ble_eq_true rfl, Nat.le_of_ble_eq_true rfl⟩) hP hD hS hA (fun oX2 H locs hoX2 hP hD hS => ?_)
  have hP : va_P (dC, dI) vwCl (([[(h0, .inr (4, [.null, .null, .null, .null]))], wX2 dA oX2 ((z0, z0, z0, 0, -1, 0, 0) : SX2)] : List va_W).flatten : va_W) H := hP
  have hD : va_D A (([[(h0, .inr (4, [.null, .null, .null, .null]))], wX2 dA oX2 ((z0, z0, z0, 0, -1, 0, 0) : SX2)] : List va_W).flatten) := hD
  refine va_putF (D := (dC, dI)) (ci := 4) (v := .ref qX2) (ty := .object "StoneChurn$Cycle") (C := RX0) (T := TX0) (N := 4) hx hb hts in_X0 tyX0 tyX0_ok nmX0 hown hK hP hD hS 0 rfl rfl 0 (by decide) (hts _ (bg _ wd_166)) (fun _ h9 => h9) rfl hin rfl (by decide +kernel) rfl rfl (Nat.le_of_ble_eq_true rfl) dX0_init_12 (fun H locs hP hD hS => ?_)
  have hP : va_P (dC, dI) vwCl (([[(h0, .inr (4, [.ref qX2, .null, .null, .null]))], wX2 dA oX2 ((z0, z0, z0, 0, -1, 0, 0) : SX2)] : List va_W).flatten : va_W) H := hP
  have hD : va_D A (([[(h0, .inr (4, [.ref qX2, .null, .null, .null]))], wX2 dA oX2 ((z0, z0, z0, 0, -1, 0, 0) : SX2)] : List va_W).flatten) := hD
  refine lv_aload_n hx hb dX0_init_15 rfl (lv_at hl 0 rfl) ?_
  refine va_new (ci := 5) (fs := [.int 0, .int 0, .int 0, .int 0]) (C := RX1) (T := TX1) (N := 4) hx hb hts (fun w h => bg _ (inB_X1 w h)) tyX1 tyX1_ok hown (hts _ (bg _ wd_87)) (hts _ (bg _ wd_88)) (hts _ (bg _ wd_4)) hK hP hD hS hA rfl (fun j hj => by rcases (show j = 0 ∨ j = 1 ∨ j = 2 ∨ j = 3 by omega) with rfl | rfl | rfl | rfl <;> rfl) (Nat.le_of_ble_eq_true rfl) (Nat.le_of_ble_eq_true rfl) dX0_init_16 (fun qX1 H hP hD hS => ?_)
  rw [fl_snoc] at hP hD
  refine lv_dup hx hb dX0_init_19 rfl ?_
  refine jle_v (gs := [[(h0, .inr (4, [.ref qX2, .null, .null, .null]))], wX2 dA oX2 ((z0, z0, z0, 0, -1, 0, 0) : SX2)]) (g := [(qX1, .inr (5, [.int 0, .int 0, .int 0, .int 0]))]) (g1 := fun oa : Nat → Nat => wX1 dA oa ((0, 20, 0, 0) : SX1)) (va_runIN (As := []) (rest := [.ref qX1, .ref h0]) ⟨hx, hb, hml, hown, hts⟩ (m_X1_init l dC dI dA gz H.size qX1) ⟨va_cnB 0 hts (gi_n bg wd_91) rfl rfl rfl (hN _ ng_2) (hts _ (bg _ wd_4)) hd3_X1_init ⟨Nat.le_of_ble_eq_true rfl, Nat.le_of_ble_eq_true rfl⟩, rfl, hts _ (bg _ wd_90)⟩ ⟨pP_blind, pP_pre1 hP hD hS hA hK hN hZ 2 rfl⟩ rfl rfl hl.1 rfl (lv_room (Nat.le_of_ble_eq_true rfl)) dX0_init_20 ⟨Nat.le_of_ble_eq_true rfl, Nat.le_of_ble_eq_true rfl⟩) hP hD hS hA (fun oX1 H locs hoX1 hP hD hS => ?_)
  have hP : va_P (dC, dI) vwCl (([[(h0, .inr (4, [.ref qX2, .null, .null, .null]))], wX2 dA oX2 ((z0, z0, z0, 0, -1, 0, 0) : SX2), wX1 dA oX1 ((0, 20, 0, 0) : SX1)] : List va_W).flatten : va_W) H := hP
  have hD : va_D A (([[(h0, .inr (4, [.ref qX2, .null, .null, .null]))], wX2 dA oX2 ((z0, z0, z0, 0, -1, 0, 0) : SX2), wX1 dA oX1 ((0, 20, 0, 0) : SX1)] : List va_W).flatten) := hD
  refine va_putF (D := (dC, dI)) (ci := 4) (v := .ref qX1) (ty := .object "StoneChurn$Churn") (C := RX0) (T := TX0) (N := 4) hx hb hts in_X0 tyX0 tyX0_ok nmX0 hown hK hP hD hS 0 rfl rfl 1 (by decide) (hts _ (bg _ wd_168)) (fun _ h9 => h9) rfl hin rfl (by decide +kernel) rfl rfl (Nat.le_of_ble_eq_true rfl) dX0_init_23 (fun H locs hP hD hS => ?_)
  have hP : va_P (dC, dI) vwCl (([[(h0, .inr (4, [.ref qX2, .ref qX1, .null, .null]))], wX2 dA oX2 ((z0, z0, z0, 0, -1, 0, 0) : SX2), wX1 dA oX1 ((0, 20, 0, 0) : SX1)] : List va_W).flatten : va_W) H := hP
  have hD : va_D A (([[(h0, .inr (4, [.ref qX2, .ref qX1, .null, .null]))], wX2 dA oX2 ((z0, z0, z0, 0, -1, 0, 0) : SX2), wX1 dA oX1 ((0, 20, 0, 0) : SX1)] : List va_W).flatten) := hD
  refine lv_aload_n hx hb dX0_init_26 rfl (lv_at hl 0 rfl) ?_
  refine va_new (ci := 8) (fs := [.null, .null, .null, .null, .int 0]) (C := RX4) (T := TX4) (N := 5) hx hb hts (fun w h => bg _ (inB_X4 w h)) tyX4 tyX4_ok hown (hts _ (bg _ wd_113)) (hts _ (bg _ wd_114)) (hts _ (bg _ wd_5)) hK hP hD hS hA rfl (fun j hj => by rcases (show j = 0 ∨ j = 1 ∨ j = 2 ∨ j = 3 ∨ j = 4 by omega) with rfl | rfl | rfl | rfl | rfl <;> rfl) (Nat.le_of_ble_eq_true rfl) (Nat.le_of_ble_eq_true rfl) dX0_init_27 (fun qX4 H hP hD hS => ?_)
  rw [fl_snoc] at hP hD
  refine lv_dup hx hb dX0_init_30 rfl ?_
  refine jle_v (gs := [[(h0, .inr (4, [.ref qX2, .ref qX1, .null, .null]))], wX2 dA oX2 ((z0, z0, z0, 0, -1, 0, 0) : SX2), wX1 dA oX1 ((0, 20, 0, 0) : SX1)]) (g := [(qX4, .inr (8, [.null, .null, .null, .null, .int 0]))]) (g1 := fun oa : Nat → Nat => wX4 dA oa ((z0, z0, z0, z0, 0) : SX4)) (va_runIN (As := []) (rest := [.ref qX4, .ref h0]) ⟨hx, hb, hml, hown, hts⟩ (m_X4_init l dC dI dA gz H.size qX4) ⟨va_cnB 0 hts (gi_n bg wd_117) rfl rfl rfl (hN _ ng_3) (hts _ (bg _ wd_5)) hd3_X4_init ⟨Nat.le_of_ble_eq_true rfl, Nat.le_of_ble_eq_true rfl⟩, rfl, hts _ (bg _ wd_116)⟩ ⟨pP_blind, pP_pre1 hP hD hS hA hK hN hZ 3 rfl⟩ rfl rfl hl.1 rfl (lv_room (Nat.le_of_ble_eq_true rfl)) dX0_init_31 ⟨Nat.le_of_ble_eq_true rfl, Nat.le_of_ble_eq_true rfl⟩) hP hD hS hA (fun oX4 H locs hoX4 hP hD hS => ?_)
  have hP : va_P (dC, dI) vwCl (([[(h0, .inr (4, [.ref qX2, .ref qX1, .null, .null]))], wX2 dA oX2 ((z0, z0, z0, 0, -1, 0, 0) : SX2), wX1 dA oX1 ((0, 20, 0, 0) : SX1), wX4 dA oX4 ((z0, z0, z0, z0, 0) : SX4)] : List va_W).flatten : va_W) H := hP
  have hD : va_D A (([[(h0, .inr (4, [.ref qX2, .ref qX1, .null, .null]))], wX2 dA oX2 ((z0, z0, z0, 0, -1, 0, 0) : SX2), wX1 dA oX1 ((0, 20, 0, 0) : SX1), wX4 dA oX4 ((z0, z0, z0, z0, 0) : SX4)] : List va_W).flatten) := hD
  refine va_putF (D := (dC, dI)) (ci := 4) (v := .ref qX4) (ty := .object "StoneChurn$Table") (C := RX0) (T := TX0) (N := 4) hx hb hts in_X0 tyX0 tyX0_ok nmX0 hown hK hP hD hS 0 rfl rfl 2 (by decide) (hts _ (bg _ wd_170)) (fun _ h9 => h9) rfl hin rfl (by decide +kernel) rfl rfl (Nat.le_of_ble_eq_true rfl) dX0_init_34 (fun H locs hP hD hS => ?_)
  have hP : va_P (dC, dI) vwCl (([[(h0, .inr (4, [.ref qX2, .ref qX1, .ref qX4, .null]))], wX2 dA oX2 ((z0, z0, z0, 0, -1, 0, 0) : SX2), wX1 dA oX1 ((0, 20, 0, 0) : SX1), wX4 dA oX4 ((z0, z0, z0, z0, 0) : SX4)] : List va_W).flatten : va_W) H := hP
  have hD : va_D A (([[(h0, .inr (4, [.ref qX2, .ref qX1, .ref qX4, .null]))], wX2 dA oX2 ((z0, z0, z0, 0, -1, 0, 0) : SX2), wX1 dA oX1 ((0, 20, 0, 0) : SX1), wX4 dA oX4 ((z0, z0, z0, z0, 0) : SX4)] : List va_W).flatten) := hD
  refine lv_aload_n hx hb dX0_init_37 rfl (lv_at hl 0 rfl) ?_
  refine va_new (ci := 9) (fs := [.null, .int 0, .int 0, .int 0]) (C := RX5) (T := TX5) (N := 4) hx hb hts (fun w h => bg _ (inB_X5 w h)) tyX5 tyX5_ok hown (hts _ (bg _ wd_141)) (hts _ (bg _ wd_142)) (hts _ (bg _ wd_6)) hK hP hD hS hA rfl (fun j hj => by rcases (show j = 0 ∨ j = 1 ∨ j = 2 ∨ j = 3 by omega) with rfl | rfl | rfl | rfl <;> rfl) (Nat.le_of_ble_eq_true rfl) (Nat.le_of_ble_eq_true rfl) dX0_init_38 (fun qX5 H hP hD hS => ?_)
  rw [fl_snoc] at hP hD
  refine lv_dup hx hb dX0_init_41 rfl ?_
  refine jle_v (gs := [[(h0, .inr (4, [.ref qX2, .ref qX1, .ref qX4, .null]))], wX2 dA oX2 ((z0, z0, z0, 0, -1, 0, 0) : SX2), wX1 dA oX1 ((0, 20, 0, 0) : SX1), wX4 dA oX4 ((z0, z0, z0, z0, 0) : SX4)]) (g := [(qX5, .inr (9, [.null, .int 0, .int 0, .int 0]))]) (g1 := fun oa : Nat → Nat => wX5 dA oa ((z0, 0, 0, 0) : SX5)) (va_runIN (As := []) (rest := [.ref qX5, .ref h0]) ⟨hx, hb, hml, hown, hts⟩ (m_X5_init l dC dI dA gz H.size qX5) ⟨va_cnB 0 hts (gi_n bg wd_145) rfl rfl rfl (hN _ ng_4) (hts _ (bg _ wd_6)) hd3_X5_init ⟨Nat.le_of_ble_eq_true rfl, Nat.le_of_ble_eq_true rfl⟩, rfl, hts _ (bg _ wd_144)⟩ ⟨pP_blind, pP_pre1 hP hD hS hA hK hN hZ 4 rfl⟩ rfl rfl hl.1 rfl (lv_room (Nat.le_of_ble_eq_true rfl)) dX0_init_42 ⟨Nat.le_of_ble_eq_true rfl, Nat.le_of_ble_eq_true rfl⟩) hP hD hS hA (fun oX5 H locs hoX5 hP hD hS => ?_)
  have hP : va_P (dC, dI) vwCl (([[(h0, .inr (4, [.ref qX2, .ref qX1, .ref qX4, .null]))], wX2 dA oX2 ((z0, z0, z0, 0, -1, 0, 0) : SX2), wX1 dA oX1 ((0, 20, 0, 0) : SX1), wX4 dA oX4 ((z0, z0, z0, z0, 0) : SX4), wX5 dA oX5 ((z0, 0, 0, 0) : SX5)] : List va_W).flatten : va_W) H := hP
  have hD : va_D A (([[(h0, .inr (4, [.ref qX2, .ref qX1, .ref qX4, .null]))], wX2 dA oX2 ((z0, z0, z0, 0, -1, 0, 0) : SX2), wX1 dA oX1 ((0, 20, 0, 0) : SX1), wX4 dA oX4 ((z0, z0, z0, z0, 0) : SX4), wX5 dA oX5 ((z0, 0, 0, 0) : SX5)] : List va_W).flatten) := hD
  refine va_putF (D := (dC, dI)) (ci := 4) (v := .ref qX5) (ty := .object "StoneChurn$Tally") (C := RX0) (T := TX0) (N := 4) hx hb hts in_X0 tyX0 tyX0_ok nmX0 hown hK hP hD hS 0 rfl rfl 3 (by decide) (hts _ (bg _ wd_172)) (fun _ h9 => h9) rfl hin rfl (by decide +kernel) rfl rfl (Nat.le_of_ble_eq_true rfl) dX0_init_45 (fun H locs hP hD hS => ?_)
  have hP : va_P (dC, dI) vwCl (([[(h0, .inr (4, [.ref qX2, .ref qX1, .ref qX4, .ref qX5]))], wX2 dA oX2 ((z0, z0, z0, 0, -1, 0, 0) : SX2), wX1 dA oX1 ((0, 20, 0, 0) : SX1), wX4 dA oX4 ((z0, z0, z0, z0, 0) : SX4), wX5 dA oX5 ((z0, 0, 0, 0) : SX5)] : List va_W).flatten : va_W) H := hP
  have hD : va_D A (([[(h0, .inr (4, [.ref qX2, .ref qX1, .ref qX4, .ref qX5]))], wX2 dA oX2 ((z0, z0, z0, 0, -1, 0, 0) : SX2), wX1 dA oX1 ((0, 20, 0, 0) : SX1), wX4 dA oX4 ((z0, z0, z0, z0, 0) : SX4), wX5 dA oX5 ((z0, 0, 0, 0) : SX5)] : List va_W).flatten) := hD
  subst hoX2 hoX1 hoX4 hoX5
  refine W.widen (k := 12) (n := 97) (Nat.le_of_ble_eq_true rfl) (Nat.le_of_ble_eq_true rfl) ?_
  exact W.vret hx hb hr (fun t ht hW => ⟨⟨(fun k => if k = 0 then h0 else if k < 5 then oX2 (k - 1) else if k = 5 then oX1 0 else if k < 11 then oX4 (k - 6) else oX5 (k - 11)), rfl, rfl, by rw [ht]; exact hP, hD⟩, hS.F ht⟩) hS.2.2 dX0_init_48
