/-! X2_isKind -/
def f_X2_isKind (p0 : Int32) : Option (Int32) :=
  (if p0 = 104 then some 1 else
  (if p0 = 99 then some 1 else
  (if p0 = 116 then some 1 else
  (if p0 = 114 then some 1 else
  some 0))))
set_option maxRecDepth 100000 in
set_option maxHeartbeats 4000000 in
theorem m_X2_isKind (l : Launch) (dC : Nat → ClassId) (dI : Nat → Nat → Nat) (dA gz : Nat → Nat)  (sz : Nat) (p0 : Int32) (rr : Int32) (hf : f_X2_isKind p0 = some rr) : Met l yX2_isKind ws_X2_isKind ({ frames := 10, cells := 0, slots := 0, locals := 200 } : Room) (va_Pc [.int p0] (pP (dC, dI) dA gz ([]) sz)) (va_Qi (S := Unit) (fun r' _ => r' = rr) (fun _ t => pQ (dC, dI) (va_A ([]) sz) ([]) t) (va_A ([]) sz)) 0 0 (va_A ([]) sz) := by
  refine Met.ofW (cc := cX2_isKind) (maxL := 1) (ret := (some .boolean)) (by decide) rfl ?_
  intro p e s m args below meth c s₁ B hml hv
  obtain ⟨rfl, hsz, hP, hK, hD0, hN, hZ⟩ := hv
  have hx := B.exec
  have hb := B.bytes
  have hr := B.returns
  have hts := atoms_spec (ws := ws_X2_isKind) B.pre
  have hown : s.vm.findClass RX2 = some m.cls := findClass_of_methodNamed B.named
  have hlocks := B.notSynchronized
  subst hsz
  have hD := hD0.self (sz := s.heap.size)
  generalize hAe : va_A ([]) s.heap.size = A at hD hZ ⊢
  have hA : ∀ q : Nat, s.heap.size ≤ q → A q := fun q h => by rw [← hAe]; exact Or.inr h
  have hS : va_S A s.heap s.heap [] := va_S.rf
  have hP : va_P (dC, dI) vwCl [] s.heap := hP
  have hD : va_D A [] := hD
  have hl := lv_entry [.int p0] (n := 1) (Nat.le_of_ble_eq_true rfl)
  rw [lg_entry_eq]
  generalize (lg_sl [.int p0] ++ List.replicate (1 - (lg_sl [.int p0]).length) Slot.unset).toArray = ls at hl ⊢
  have hl : lv_has ls 1 [(0, .int p0)] := hl
  rw [f_X2_isKind] at hf
  refine lv_iload_n hx hb dX2_isKind_0 rfl (lv_at hl 0 rfl) ?_
  refine lv_bipush (v := 104) hx hb dX2_isKind_1 (by decide) ?_
  refine lv_icmp_eq (tgt := 24) hx hb dX2_isKind_3 (by decide) (fun q1 => ?_) (fun q1 => ?_)
  · have hf := it q1 hf
    refine lv_iconst (v := 1) hx hb dX2_isKind_24 (by decide) ?_
    refine lv_goto (tgt := 29) hx hb dX2_isKind_25 (by decide) ?_
    exact W.zret hx hb hr rfl (fun t ht hW => ⟨⟨_, (), rfl, sm hf, by rw [ht]; exact hP, hD⟩, hS.F ht⟩) hS.2.2 dX2_isKind_29
  · have hf := ie q1 hf
    refine lv_iload_n hx hb dX2_isKind_6 rfl (lv_at hl 0 rfl) ?_
    refine lv_bipush (v := 99) hx hb dX2_isKind_7 (by decide) ?_
    refine lv_icmp_eq (tgt := 24) hx hb dX2_isKind_9 (by decide) (fun q2 => ?_) (fun q2 => ?_)
    · have hf := it q2 hf
      refine lv_iconst (v := 1) hx hb dX2_isKind_24 (by decide) ?_
      refine lv_goto (tgt := 29) hx hb dX2_isKind_25 (by decide) ?_
      exact W.zret hx hb hr rfl (fun t ht hW => ⟨⟨_, (), rfl, sm hf, by rw [ht]; exact hP, hD⟩, hS.F ht⟩) hS.2.2 dX2_isKind_29
    · have hf := ie q2 hf
      refine lv_iload_n hx hb dX2_isKind_12 rfl (lv_at hl 0 rfl) ?_
      refine lv_bipush (v := 116) hx hb dX2_isKind_13 (by decide) ?_
      refine lv_icmp_eq (tgt := 24) hx hb dX2_isKind_15 (by decide) (fun q3 => ?_) (fun q3 => ?_)
      · have hf := it q3 hf
        refine lv_iconst (v := 1) hx hb dX2_isKind_24 (by decide) ?_
        refine lv_goto (tgt := 29) hx hb dX2_isKind_25 (by decide) ?_
        exact W.zret hx hb hr rfl (fun t ht hW => ⟨⟨_, (), rfl, sm hf, by rw [ht]; exact hP, hD⟩, hS.F ht⟩) hS.2.2 dX2_isKind_29
      · have hf := ie q3 hf
        refine lv_iload_n hx hb dX2_isKind_18 rfl (lv_at hl 0 rfl) ?_
        refine lv_bipush (v := 114) hx hb dX2_isKind_19 (by decide) ?_
        refine lv_icmp_ne (tgt := 28) hx hb dX2_isKind_21 (by decide) (fun q4 => ?_) (fun q4 => ?_)
        · have hf := ie q4 hf
          refine lv_iconst (v := 0) hx hb dX2_isKind_28 (by decide) ?_
          exact W.zret hx hb hr rfl (fun t ht hW => ⟨⟨_, (), rfl, sm hf, by rw [ht]; exact hP, hD⟩, hS.F ht⟩) hS.2.2 dX2_isKind_29
        · have hf := it q4 hf
          refine lv_iconst (v := 1) hx hb dX2_isKind_24 (by decide) ?_
          refine lv_goto (tgt := 29) hx hb dX2_isKind_25 (by decide) ?_
          exact W.zret hx hb hr rfl (fun t ht hW => ⟨⟨_, (), rfl, sm hf, by rw [ht]; exact hP, hD⟩, hS.F ht⟩) hS.2.2 dX2_isKind_29
/-! X2_has -/
def f_X2_has (a0 : Ar) (a1 : Ar) (a2 : Ar) (a3 : Int32) (a4 : Int32) (a5 : Int32) (a6 : Int32) (p1 : Int32) : Option (Int32) :=
  (if p1 < 0 then some 0 else
  (if a3 ≤ p1 then some 0 else
  some 1))
set_option maxRecDepth 100000 in
set_option maxHeartbeats 4000000 in
theorem m_X2_has (l : Launch) (dC : Nat → ClassId) (dI : Nat → Nat → Nat) (dA gz : Nat → Nat) (oa : Nat → Nat) (sz : Nat) (a0 : Ar) (a1 : Ar) (a2 : Ar) (a3 : Int32) (a4 : Int32) (a5 : Int32) (a6 : Int32) (p1 : Int32) (rr : Int32) (hf : f_X2_has a0 a1 a2 a3 a4 a5 a6 p1 = some rr) : Met l yX2_has ws_X2_has ({ frames := 10, cells := 0, slots := 0, locals := 200 } : Room) (va_Pc [.ref (oa 0), .int p1] (pP (dC, dI) dA gz (wX2 dA oa (a0, a1, a2, a3, a4, a5, a6)) sz)) (va_Qi (S := Unit) (fun r' _ => r' = rr) (fun _ t => pQ (dC, dI) (va_A (wX2 dA oa (a0, a1, a2, a3, a4, a5, a6)) sz) (wX2 dA oa (a0, a1, a2, a3, a4, a5, a6)) t) (va_A (wX2 dA oa (a0, a1, a2, a3, a4, a5, a6)) sz)) 0 0 (va_A (wX2 dA oa (a0, a1, a2, a3, a4, a5, a6)) sz) := by
  refine Met.ofW (cc := cX2_has) (maxL := 2) (ret := (some .boolean)) (by decide) rfl ?_
  intro p e s m args below meth c s₁ B hml hv
  obtain ⟨rfl, hsz, hP, hK, hD0, hN, hZ⟩ := hv
  have hx := B.exec
  have hb := B.bytes
  have hr := B.returns
  have hts := atoms_spec (ws := ws_X2_has) B.pre
  have hown : s.vm.findClass RX2 = some m.cls := findClass_of_methodNamed B.named
  have hlocks := B.notSynchronized
  subst hsz
  have hD := hD0.self (sz := s.heap.size)
  generalize hAe : va_A (wX2 dA oa (a0, a1, a2, a3, a4, a5, a6)) s.heap.size = A at hD hZ ⊢
  have hA : ∀ q : Nat, s.heap.size ≤ q → A q := fun q h => by rw [← hAe]; exact Or.inr h
  have hS : va_S A s.heap s.heap [] := va_S.rf
  have hP : va_P (dC, dI) vwCl [(oa 0, .inr (6, [.ref (oa 1), .ref (oa 2), .ref (oa 3), .int a3, .int a4, .int a5, .int a6])), (oa 1, .inl (dA 0, 8, .inl a0)), (oa 2, .inl (dA 1, 8, .inl a1)), (oa 3, .inl (dA 1, 8, .inl a2))] s.heap := hP
  have hD : va_D A [(oa 0, .inr (6, [.ref (oa 1), .ref (oa 2), .ref (oa 3), .int a3, .int a4, .int a5, .int a6])), (oa 1, .inl (dA 0, 8, .inl a0)), (oa 2, .inl (dA 1, 8, .inl a1)), (oa 3, .inl (dA 1, 8, .inl a2))] := hD
  have hl := lv_entry [.ref (oa 0), .int p1] (n := 2) (Nat.le_of_ble_eq_true rfl)
  rw [lg_entry_eq]
  generalize (lg_sl [.ref (oa 0), .int p1] ++ List.replicate (2 - (lg_sl [.ref (oa 0), .int p1]).length) Slot.unset).toArray = ls at hl ⊢
  have hl : lv_has ls 2 [(0, .ref (oa 0)), (1, .int p1)] := hl
  have in_X2 : ∀ w ∈ wsX20, w ∈ ws_X2_has := fun w h => bg _ (inB_X2 w h)
  rw [f_X2_has] at hf
  refine lv_iload_n hx hb dX2_has_0 rfl (lv_at hl 1 rfl) ?_
  refine lv_if_lt (tgt := 16) hx hb dX2_has_1 (by decide) (fun q1 => ?_) (fun q1 => ?_)
  · have hf := it q1 hf
    refine lv_iconst (v := 0) hx hb dX2_has_16 (by decide) ?_
    exact W.zret hx hb hr rfl (fun t ht hW => ⟨⟨_, (), rfl, sm hf, by rw [ht]; exact hP, hD⟩, hS.F ht⟩) hS.2.2 dX2_has_17
  · have hf := ie q1 hf
    refine lv_iload_n hx hb dX2_has_4 rfl (lv_at hl 1 rfl) ?_
    refine lv_aload_n hx hb dX2_has_5 rfl (lv_at hl 0 rfl) ?_
    refine va_get (D := (dC, dI)) (ci := 6) (v := .int a3) (C := RX2) (T := TX2) (N := 7) hx hb hts in_X2 hown hK hP 0 rfl rfl 3 (by decide) (hts _ (bg _ wd_60)) (fun _ h9 => h9) rfl dX2_has_6 ?_
    refine lv_icmp_ge (tgt := 16) hx hb dX2_has_9 (by decide) (fun q2 => ?_) (fun q2 => ?_)
    · have hf := it q2 hf
      refine lv_iconst (v := 0) hx hb dX2_has_16 (by decide) ?_
      exact W.zret hx hb hr rfl (fun t ht hW => ⟨⟨_, (), rfl, sm hf, by rw [ht]; exact hP, hD⟩, hS.F ht⟩) hS.2.2 dX2_has_17
    · have hf := ie q2 hf
      refine lv_iconst (v := 1) hx hb dX2_has_12 (by decide) ?_
      refine lv_goto (tgt := 17) hx hb dX2_has_13 (by decide) ?_
      exact W.zret hx hb hr rfl (fun t ht hW => ⟨⟨_, (), rfl, sm hf, by rw [ht]; exact hP, hD⟩, hS.F ht⟩) hS.2.2 dX2_has_17
/-! X2_isUnderWay -/
def f_X2_isUnderWay (a0 : Ar) (a1 : Ar) (a2 : Ar) (a3 : Int32) (a4 : Int32) (a5 : Int32) (a6 : Int32) : Option (Int32) :=
  (f_X2_has a0 a1 a2 a3 a4 a5 a6 a4).bind fun r2 =>
  if ¬ (r2 = 0 ∨ r2 = 1) then none else
  some r2
set_option maxRecDepth 100000 in
set_option maxHeartbeats 4000000 in
theorem m_X2_isUnderWay (l : Launch) (dC : Nat → ClassId) (dI : Nat → Nat → Nat) (dA gz : Nat → Nat) (oa : Nat → Nat) (sz : Nat) (a0 : Ar) (a1 : Ar) (a2 : Ar) (a3 : Int32) (a4 : Int32) (a5 : Int32) (a6 : Int32) (rr : Int32) (hf : f_X2_isUnderWay a0 a1 a2 a3 a4 a5 a6 = some rr) : Met l yX2_isUnderWay ws_X2_isUnderWay ({ frames := 14, cells := 0, slots := 0, locals := 400 } : Room) (va_Pc [.ref (oa 0)] (pP (dC, dI) dA gz (wX2 dA oa (a0, a1, a2, a3, a4, a5, a6)) sz)) (va_Qi (S := Unit) (fun r' _ => r' = rr) (fun _ t => pQ (dC, dI) (va_A (wX2 dA oa (a0, a1, a2, a3, a4, a5, a6)) sz) (wX2 dA oa (a0, a1, a2, a3, a4, a5, a6)) t) (va_A (wX2 dA oa (a0, a1, a2, a3, a4, a5, a6)) sz)) 0 0 (va_A (wX2 dA oa (a0, a1, a2, a3, a4, a5, a6)) sz) := by
  refine Met.ofW (cc := cX2_isUnderWay) (maxL := 1) (ret := (some .boolean)) (by decide) rfl ?_
  intro p e s m args below meth c s₁ B hml hv
  obtain ⟨rfl, hsz, hP, hK, hD0, hN, hZ⟩ := hv
  have hx := B.exec
  have hb := B.bytes
  have hr := B.returns
  have hts := atoms_spec (ws := ws_X2_isUnderWay) B.pre
  have hown : s.vm.findClass RX2 = some m.cls := findClass_of_methodNamed B.named
  have hlocks := B.notSynchronized
  subst hsz
  have hD := hD0.self (sz := s.heap.size)
  generalize hAe : va_A (wX2 dA oa (a0, a1, a2, a3, a4, a5, a6)) s.heap.size = A at hD hZ ⊢
  have hA : ∀ q : Nat, s.heap.size ≤ q → A q := fun q h => by rw [← hAe]; exact Or.inr h
  have hS : va_S A s.heap s.heap [] := va_S.rf
  have hP : va_P (dC, dI) vwCl [(oa 0, .inr (6, [.ref (oa 1), .ref (oa 2), .ref (oa 3), .int a3, .int a4, .int a5, .int a6])), (oa 1, .inl (dA 0, 8, .inl a0)), (oa 2, .inl (dA 1, 8, .inl a1)), (oa 3, .inl (dA 1, 8, .inl a2))] s.heap := hP
  have hD : va_D A [(oa 0, .inr (6, [.ref (oa 1), .ref (oa 2), .ref (oa 3), .int a3, .int a4, .int a5, .int a6])), (oa 1, .inl (dA 0, 8, .inl a0)), (oa 2, .inl (dA 1, 8, .inl a1)), (oa 3, .inl (dA 1, 8, .inl a2))] := hD
  have hl := lv_entry [.ref (oa 0)] (n := 1) (Nat.le_of_ble_eq_true rfl)
  rw [lg_entry_eq]
  generalize (lg_sl [.ref (oa 0)] ++ List.replicate (1 - (lg_sl [.ref (oa 0)]).length) Slot.unset).toArray = ls at hl ⊢
  have hl : lv_has ls 1 [(0, .ref (oa 0))] := hl
  have in_X2 : ∀ w ∈ wsX20, w ∈ ws_X2_isUnderWay := fun w h => bg _ (inB_X2 w h)
  rw [f_X2_isUnderWay] at hf
  refine lv_aload_n hx hb dX2_isUnderWay_0 rfl (lv_at hl 0 rfl) ?_
  refine lv_aload_n hx hb dX2_isUnderWay_1 rfl (lv_at hl 0 rfl) ?_
  refine va_get (D := (dC, dI)) (ci := 6) (v := .int a4) (C := RX2) (T := TX2) (N := 7) hx hb hts in_X2 hown hK hP 0 rfl rfl 4 (by decide) (hts _ (bg _ wd_63)) (fun _ h9 => h9) rfl dX2_isUnderWay_2 ?_
  obtain ⟨r2, e1, hf⟩ := bd hf
  refine jr_i (va_runV (As := [.int a4]) (rest := []) ⟨hx, hb, hml, hown, hts⟩ (m_X2_has l dC dI dA gz oa s.heap.size a0 a1 a2 a3 a4 a5 a6 a4 r2 e1) (cwV 1 hts (gi_v bg wd_369 wd_370 wd_371 wd_3 wd_372) rfl rfl rfl hd_X2_has ⟨Nat.le_of_ble_eq_true rfl, Nat.le_of_ble_eq_true rfl⟩) ⟨pP_blind, va_recv (ci := 6) (q0 := 0) hK hP rfl rfl, pP_pre hP hD hS hA hK hN hZ [0, 1, 2, 3] (by decide) rfl⟩ rfl rfl hl.1 rfl (lv_room (Nat.le_of_ble_eq_true rfl)) dX2_isUnderWay_5 ⟨Nat.le_of_ble_eq_true rfl, Nat.le_of_ble_eq_true rfl⟩) hP hD hS hA [0, 1, 2, 3] rfl (fun H locs hP hS => ?_)
  obtain ⟨z3, hf⟩ := gd hf
  exact W.zret hx hb hr (nar_z (Decidable.not_not.mp z3)) (fun t ht hW => ⟨⟨_, (), rfl, sm hf, by rw [ht]; exact hP, hD⟩, hS.F ht⟩) hS.2.2 dX2_isUnderWay_8
/-! X2_append -/
def f_X2_append (a0 : Ar) (a1 : Ar) (a2 : Ar) (a3 : Int32) (a4 : Int32) (a5 : Int32) (a6 : Int32) (p1 : Int32) (p2 : Int32) (p3 : Int32) : Option (SX2) :=
  (if 8 ≤ a3 then some (a0, a1, a2, a3, a4, a5, a6) else
  if a3 < 0 ∨ 8 ≤ a3.toNatClampNeg then none else
  if a3 < 0 ∨ 8 ≤ a3.toNatClampNeg then none else
  if a3 < 0 ∨ 8 ≤ a3.toNatClampNeg then none else
  some ((upd a0 a3.toNatClampNeg (vp_nar .char p1)), (upd a1 a3.toNatClampNeg p2), (upd a2 a3.toNatClampNeg p3), (a3 + 1), a4, a5, a6))
set_option maxRecDepth 100000 in
set_option maxHeartbeats 4000000 in
theorem m_X2_append (l : Launch) (dC : Nat → ClassId) (dI : Nat → Nat → Nat) (dA gz : Nat → Nat) (oa : Nat → Nat) (sz : Nat) (a0 : Ar) (a1 : Ar) (a2 : Ar) (a3 : Int32) (a4 : Int32) (a5 : Int32) (a6 : Int32) (p1 : Int32) (p2 : Int32) (p3 : Int32) (uu : SX2) (hf : f_X2_append a0 a1 a2 a3 a4 a5 a6 p1 p2 p3 = some uu) : Met l yX2_append ws_X2_append ({ frames := 10, cells := 0, slots := 0, locals := 200 } : Room) (va_Pc [.ref (oa 0), .int p1, .int p2, .int p3] (pP (dC, dI) dA gz (wX2 dA oa (a0, a1, a2, a3, a4, a5, a6)) sz)) (va_Qv (S := Unit) (fun _ => True) (fun _ t => pQ (dC, dI) (va_A (wX2 dA oa (a0, a1, a2, a3, a4, a5, a6)) sz) (wX2 dA oa uu) t) (va_A (wX2 dA oa (a0, a1, a2, a3, a4, a5, a6)) sz)) 0 0 (va_A (wX2 dA oa (a0, a1, a2, a3, a4, a5, a6)) sz) := by
  refine Met.ofW (cc := cX2_append) (maxL := 4) (ret := none) (by decide) rfl ?_
  intro p e s m args below meth c s₁ B hml hv
  obtain ⟨rfl, hsz, hP, hK, hD0, hN, hZ⟩ := hv
  have hx := B.exec
  have hb := B.bytes
  have hr := B.returns
  have hts := atoms_spec (ws := ws_X2_append) B.pre
  have hown : s.vm.findClass RX2 = some m.cls := findClass_of_methodNamed B.named
  have hlocks := B.notSynchronized
  subst hsz
  have hD := hD0.self (sz := s.heap.size)
  generalize hAe : va_A (wX2 dA oa (a0, a1, a2, a3, a4, a5, a6)) s.heap.size = A at hD hZ ⊢
  have hA : ∀ q : Nat, s.heap.size ≤ q → A q := fun q h => by rw [← hAe]; exact Or.inr h
  have hS : va_S A s.heap s.heap [] := va_S.rf
  have hP : va_P (dC, dI) vwCl [(oa 0, .inr (6, [.ref (oa 1), .ref (oa 2), .ref (oa 3), .int a3, .int a4, .int a5, .int a6])), (oa 1, .inl (dA 0, 8, .inl a0)), (oa 2, .inl (dA 1, 8, .inl a1)), (oa 3, .inl (dA 1, 8, .inl a2))] s.heap := hP
  have hD : va_D A [(oa 0, .inr (6, [.ref (oa 1), .ref (oa 2), .ref (oa 3), .int a3, .int a4, .int a5, .int a6])), (oa 1, .inl (dA 0, 8, .inl a0)), (oa 2, .inl (dA 1, 8, .inl a1)), (oa 3, .inl (dA 1, 8, .inl a2))] := hD
  have hl := lv_entry [.ref (oa 0), .int p1, .int p2, .int p3] (n := 4) (Nat.le_of_ble_eq_true rfl)
  rw [lg_entry_eq]
  generalize (lg_sl [.ref (oa 0), .int p1, .int p2, .int p3] ++ List.replicate (4 - (lg_sl [.ref (oa 0), .int p1, .int p2, .int p3]).length) Slot.unset).toArray = ls at hl ⊢
  have hl : lv_has ls 4 [(0, .ref (oa 0)), (1, .int p1), (2, .int p2), (3, .int p3)] := hl
  have in_X2 : ∀ w ∈ wsX20, w ∈ ws_X2_append := fun w h => bg _ (inB_X2 w h)
  rw [f_X2_append] at hf
  refine lv_aload_n hx hb dX2_append_0 rfl (lv_at hl 0 rfl) ?_
  refine va_get (D := (dC, dI)) (ci := 6) (v := .int a3) (C := RX2) (T := TX2) (N := 7) hx hb hts in_X2 hown hK hP 0 rfl rfl 3 (by decide) (hts _ (bg _ wd_60)) (fun _ h9 => h9) rfl dX2_append_1 ?_
  refine lv_bipush (v := 8) hx hb dX2_append_4 (by decide) ?_
  refine lv_icmp_ge (tgt := 49) hx hb dX2_append_6 (by decide) (fun q1 => ?_) (fun q1 => ?_)
  · have hf := it q1 hf
    have e9 := sm hf
    exact W.vret hx hb hr (fun t ht hW => ⟨⟨(), rfl, trivial, by rw [← e9, ht]; exact hP, by rw [← e9]; exact hD⟩, hS.F ht⟩) hS.2.2 dX2_append_49
  · have hf := ie q1 hf
    refine lv_aload_n hx hb dX2_append_9 rfl (lv_at hl 0 rfl) ?_
    refine va_get (D := (dC, dI)) (ci := 6) (v := .ref (oa 1)) (C := RX2) (T := TX2) (N := 7) hx hb hts in_X2 hown hK hP 0 rfl rfl 0 (by decide) (hts _ (bg _ wd_52)) (fun _ h9 => h9) rfl dX2_append_10 ?_
    refine lv_aload_n hx hb dX2_append_13 rfl (lv_at hl 0 rfl) ?_
    refine va_get (D := (dC, dI)) (ci := 6) (v := .int a3) (C := RX2) (T := TX2) (N := 7) hx hb hts in_X2 hown hK hP 0 rfl rfl 3 (by decide) (hts _ (bg _ wd_60)) (fun _ h9 => h9) rfl dX2_append_14 ?_
    refine lv_iload_n hx hb dX2_append_17 rfl (lv_at hl 1 rfl) ?_
    obtain ⟨z2, hf⟩ := gd hf
    refine va_cast hx hb hK hP hD hS 1 0 rfl rfl z2 dX2_append_18 (fun H locs hP hD hS => ?_)
    have hP : va_P (dC, dI) vwCl [(oa 0, .inr (6, [.ref (oa 1), .ref (oa 2), .ref (oa 3), .int a3, .int a4, .int a5, .int a6])), (oa 1, .inl (dA 0, 8, .inl (upd a0 a3.toNatClampNeg (vp_nar .char p1)))), (oa 2, .inl (dA 1, 8, .inl a1)), (oa 3, .inl (dA 1, 8, .inl a2))] H := hP
    have hD : va_D A [(oa 0, .inr (6, [.ref (oa 1), .ref (oa 2), .ref (oa 3), .int a3, .int a4, .int a5, .int a6])), (oa 1, .inl (dA 0, 8, .inl (upd a0 a3.toNatClampNeg (vp_nar .char p1)))), (oa 2, .inl (dA 1, 8, .inl a1)), (oa 3, .inl (dA 1, 8, .inl a2))] := hD
    refine lv_aload_n hx hb dX2_append_19 rfl (lv_at hl 0 rfl) ?_
    refine va_get (D := (dC, dI)) (ci := 6) (v := .ref (oa 2)) (C := RX2) (T := TX2) (N := 7) hx hb hts in_X2 hown hK hP 0 rfl rfl 1 (by decide) (hts _ (bg _ wd_55)) (fun _ h9 => h9) rfl dX2_append_20 ?_
    refine lv_aload_n hx hb dX2_append_23 rfl (lv_at hl 0 rfl) ?_
    refine va_get (D := (dC, dI)) (ci := 6) (v := .int a3) (C := RX2) (T := TX2) (N := 7) hx hb hts in_X2 hown hK hP 0 rfl rfl 3 (by decide) (hts _ (bg _ wd_60)) (fun _ h9 => h9) rfl dX2_append_24 ?_
    refine lv_iload_n hx hb dX2_append_27 rfl (lv_at hl 2 rfl) ?_
    obtain ⟨z3, hf⟩ := gd hf
    refine va_iast hx hb hK hP hD hS 2 1 rfl rfl z3 dX2_append_28 (fun H locs hP hD hS => ?_)
    have hP : va_P (dC, dI) vwCl [(oa 0, .inr (6, [.ref (oa 1), .ref (oa 2), .ref (oa 3), .int a3, .int a4, .int a5, .int a6])), (oa 1, .inl (dA 0, 8, .inl (upd a0 a3.toNatClampNeg (vp_nar .char p1)))), (oa 2, .inl (dA 1, 8, .inl (upd a1 a3.toNatClampNeg p2))), (oa 3, .inl (dA 1, 8, .inl a2))] H := hP
    have hD : va_D A [(oa 0, .inr (6, [.ref (oa 1), .ref (oa 2), .ref (oa 3), .int a3, .int a4, .int a5, .int a6])), (oa 1, .inl (dA 0, 8, .inl (upd a0 a3.toNatClampNeg (vp_nar .char p1)))), (oa 2, .inl (dA 1, 8, .inl (upd a1 a3.toNatClampNeg p2))), (oa 3, .inl (dA 1, 8, .inl a2))] := hD
    refine lv_aload_n hx hb dX2_append_29 rfl (lv_at hl 0 rfl) ?_
    refine va_get (D := (dC, dI)) (ci := 6) (v := .ref (oa 3)) (C := RX2) (T := TX2) (N := 7) hx hb hts in_X2 hown hK hP 0 rfl rfl 2 (by decide) (hts _ (bg _ wd_57)) (fun _ h9 => h9) rfl dX2_append_30 ?_
    refine lv_aload_n hx hb dX2_append_33 rfl (lv_at hl 0 rfl) ?_
    refine va_get (D := (dC, dI)) (ci := 6) (v := .int a3) (C := RX2) (T := TX2) (N := 7) hx hb hts in_X2 hown hK hP 0 rfl rfl 3 (by decide) (hts _ (bg _ wd_60)) (fun _ h9 => h9) rfl dX2_append_34 ?_
    refine lv_iload_n hx hb dX2_append_37 rfl (lv_at hl 3 rfl) ?_
    obtain ⟨z4, hf⟩ := gd hf
    refine va_iast hx hb hK hP hD hS 3 1 rfl rfl z4 dX2_append_38 (fun H locs hP hD hS => ?_)
    have hP : va_P (dC, dI) vwCl [(oa 0, .inr (6, [.ref (oa 1), .ref (oa 2), .ref (oa 3), .int a3, .int a4, .int a5, .int a6])), (oa 1, .inl (dA 0, 8, .inl (upd a0 a3.toNatClampNeg (vp_nar .char p1)))), (oa 2, .inl (dA 1, 8, .inl (upd a1 a3.toNatClampNeg p2))), (oa 3, .inl (dA 1, 8, .inl (upd a2 a3.toNatClampNeg p3)))] H := hP
    have hD : va_D A [(oa 0, .inr (6, [.ref (oa 1), .ref (oa 2), .ref (oa 3), .int a3, .int a4, .int a5, .int a6])), (oa 1, .inl (dA 0, 8, .inl (upd a0 a3.toNatClampNeg (vp_nar .char p1)))), (oa 2, .inl (dA 1, 8, .inl (upd a1 a3.toNatClampNeg p2))), (oa 3, .inl (dA 1, 8, .inl (upd a2 a3.toNatClampNeg p3)))] := hD
    refine lv_aload_n hx hb dX2_append_39 rfl (lv_at hl 0 rfl) ?_
    refine lv_dup hx hb dX2_append_40 rfl ?_
    refine va_get (D := (dC, dI)) (ci := 6) (v := .int a3) (C := RX2) (T := TX2) (N := 7) hx hb hts in_X2 hown hK hP 0 rfl rfl 3 (by decide) (hts _ (bg _ wd_60)) (fun _ h9 => h9) rfl dX2_append_41 ?_
    refine lv_iconst (v := 1) hx hb dX2_append_44 (by decide) ?_
    refine lv_iadd hx hb dX2_append_45 ?_
    refine va_put (D := (dC, dI)) (ci := 6) (v := .int (a3 + 1)) (ty := .int) (C := RX2) (T := TX2) (N := 7) hx hb hts in_X2 tyX2 tyX2_ok nmX2 hown hK hP hD hS 0 rfl rfl 3 (by decide) (hts _ (bg _ wd_60)) (fun _ h9 => h9) rfl (by decide +kernel) rfl rfl (Nat.le_of_ble_eq_true rfl) dX2_append_46 (fun H locs hP hD hS => ?_)
    have hP : va_P (dC, dI) vwCl [(oa 0, .inr (6, [.ref (oa 1), .ref (oa 2), .ref (oa 3), .int (a3 + 1), .int a4, .int a5, .int a6])), (oa 1, .inl (dA 0, 8, .inl (upd a0 a3.toNatClampNeg (vp_nar .char p1)))), (oa 2, .inl (dA 1, 8, .inl (upd a1 a3.toNatClampNeg p2))), (oa 3, .inl (dA 1, 8, .inl (upd a2 a3.toNatClampNeg p3)))] H := hP
    have hD : va_D A [(oa 0, .inr (6, [.ref (oa 1), .ref (oa 2), .ref (oa 3), .int (a3 + 1), .int a4, .int a5, .int a6])), (oa 1, .inl (dA 0, 8, .inl (upd a0 a3.toNatClampNeg (vp_nar .char p1)))), (oa 2, .inl (dA 1, 8, .inl (upd a1 a3.toNatClampNeg p2))), (oa 3, .inl (dA 1, 8, .inl (upd a2 a3.toNatClampNeg p3)))] := hD
    have e9 := sm hf
    exact W.vret hx hb hr (fun t ht hW => ⟨⟨(), rfl, trivial, by rw [← e9, ht]; exact hP, by rw [← e9]; exact hD⟩, hS.F ht⟩) hS.2.2 dX2_append_49
/-! X2_remove -/
def f_X2_remove_10 (p1 : Int32) : Nat → Int32 → Ar → Ar → Ar → Int32 → Int32 → Int32 → Int32 →  Option (SX2)
  | 0, _, _, _, _, _, _, _, _ => none
  | n + 1, x2, m0, m1, m2, m3, m4, m5, m6 =>
  (if m3 ≤ (x2 + 1) then some (m0, m1, m2, (m3 - 1), m4, m5, m6) else
  if (x2 + 1) < 0 ∨ 8 ≤ (x2 + 1).toNatClampNeg then none else
  if x2 < 0 ∨ 8 ≤ x2.toNatClampNeg then none else
  if (x2 + 1) < 0 ∨ 8 ≤ (x2 + 1).toNatClampNeg then none else
  if x2 < 0 ∨ 8 ≤ x2.toNatClampNeg then none else
  if (x2 + 1) < 0 ∨ 8 ≤ (x2 + 1).toNatClampNeg then none else
  if x2 < 0 ∨ 8 ≤ x2.toNatClampNeg then none else
  f_X2_remove_10 p1 n (x2 + 1) (upd m0 x2.toNatClampNeg (vp_nar .char (m0 (x2 + 1).toNatClampNeg))) (upd m1 x2.toNatClampNeg (m1 (x2 + 1).toNatClampNeg)) (upd m2 x2.toNatClampNeg (m2 (x2 + 1).toNatClampNeg)) m3 m4 m5 m6)
def f_X2_remove (a0 : Ar) (a1 : Ar) (a2 : Ar) (a3 : Int32) (a4 : Int32) (a5 : Int32) (a6 : Int32) (p1 : Int32) : Option (SX2) :=
  (f_X2_has a0 a1 a2 a3 a4 a5 a6 p1).bind fun r9 =>
  (if r9 = 0 then some (a0, a1, a2, a3, a4, a5, a6) else
  f_X2_remove_10 p1 300 p1 a0 a1 a2 a3 a4 a5 a6)
set_option maxRecDepth 100000 in
set_option maxHeartbeats 4000000 in
theorem m_X2_remove (l : Launch) (dC : Nat → ClassId) (dI : Nat → Nat → Nat) (dA gz : Nat → Nat) (oa : Nat → Nat) (sz : Nat) (a0 : Ar) (a1 : Ar) (a2 : Ar) (a3 : Int32) (a4 : Int32) (a5 : Int32) (a6 : Int32) (p1 : Int32) (uu : SX2) (hf : f_X2_remove a0 a1 a2 a3 a4 a5 a6 p1 = some uu) : Met l yX2_remove ws_X2_remove ({ frames := 14, cells := 0, slots := 0, locals := 400 } : Room) (va_Pc [.ref (oa 0), .int p1] (pP (dC, dI) dA gz (wX2 dA oa (a0, a1, a2, a3, a4, a5, a6)) sz)) (va_Qv (S := Unit) (fun _ => True) (fun _ t => pQ (dC, dI) (va_A (wX2 dA oa (a0, a1, a2, a3, a4, a5, a6)) sz) (wX2 dA oa uu) t) (va_A (wX2 dA oa (a0, a1, a2, a3, a4, a5, a6)) sz)) 0 0 (va_A (wX2 dA oa (a0, a1, a2, a3, a4, a5, a6)) sz) := by
  refine Met.ofW (cc := cX2_remove) (maxL := 3) (ret := none) (by decide) rfl ?_
  intro p e s m args below meth c s₁ B hml hv
  obtain ⟨rfl, hsz, hP, hK, hD0, hN, hZ⟩ := hv
  have hx := B.exec
  have hb := B.bytes
  have hr := B.returns
  have hts := atoms_spec (ws := ws_X2_remove) B.pre
  have hown : s.vm.findClass RX2 = some m.cls := findClass_of_methodNamed B.named
  have hlocks := B.notSynchronized
  subst hsz
  have hD := hD0.self (sz := s.heap.size)
  generalize hAe : va_A (wX2 dA oa (a0, a1, a2, a3, a4, a5, a6)) s.heap.size = A at hD hZ ⊢
  have hA : ∀ q : Nat, s.heap.size ≤ q → A q := fun q h => by rw [← hAe]; exact Or.inr h
  have hS : va_S A s.heap s.heap [] := va_S.rf
  have hP : va_P (dC, dI) vwCl [(oa 0, .inr (6, [.ref (oa 1), .ref (oa 2), .ref (oa 3), .int a3, .int a4, .int a5, .int a6])), (oa 1, .inl (dA 0, 8, .inl a0)), (oa 2, .inl (dA 1, 8, .inl a1)), (oa 3, .inl (dA 1, 8, .inl a2))] s.heap := hP
  have hD : va_D A [(oa 0, .inr (6, [.ref (oa 1), .ref (oa 2), .ref (oa 3), .int a3, .int a4, .int a5, .int a6])), (oa 1, .inl (dA 0, 8, .inl a0)), (oa 2, .inl (dA 1, 8, .inl a1)), (oa 3, .inl (dA 1, 8, .inl a2))] := hD
  have hl := lv_entry [.ref (oa 0), .int p1] (n := 3) (Nat.le_of_ble_eq_true rfl)
  rw [lg_entry_eq]
  generalize (lg_sl [.ref (oa 0), .int p1] ++ List.replicate (3 - (lg_sl [.ref (oa 0), .int p1]).length) Slot.unset).toArray = ls at hl ⊢
  have hl : lv_has ls 3 [(0, .ref (oa 0)), (1, .int p1)] := hl
  have in_X2 : ∀ w ∈ wsX20, w ∈ ws_X2_remove := fun w h => bg _ (inB_X2 w h)
  have cut10 : ∀ (n : Nat) (x2 : Int32) (m0 : Ar) (m1 : Ar) (m2 : Ar) (m3 : Int32) (m4 : Int32) (m5 : Int32) (m6 : Int32) (H : Heap) (locs : List Loc) (ls : Array Slot), f_X2_remove_10 p1 n x2 m0 m1 m2 m3 m4 m5 m6 = some uu → va_P (dC, dI) vwCl [(oa 0, .inr (6, [.ref (oa 1), .ref (oa 2), .ref (oa 3), .int m3, .int m4, .int m5, .int m6])), (oa 1, .inl (dA 0, 8, .inl m0)), (oa 2, .inl (dA 1, 8, .inl m1)), (oa 3, .inl (dA 1, 8, .inl m2))] H → va_D A [(oa 0, .inr (6, [.ref (oa 1), .ref (oa 2), .ref (oa 3), .int m3, .int m4, .int m5, .int m6])), (oa 1, .inl (dA 0, 8, .inl m0)), (oa 2, .inl (dA 1, 8, .inl m1)), (oa 3, .inl (dA 1, 8, .inl m2))] → va_S A s.heap H locs → lv_has ls 3 [(0, .ref (oa 0)), (2, .int x2)] → W p l e (headSpec ws_X2_remove ({ frames := 14, cells := 0, slots := 0, locals := 400 } : Room)).room s m ([.ref (oa 0), .int p1] : List Value).toArray below meth c H locs 0 0 (MQ below (va_Qv (S := Unit) (fun _ => True) (fun _ t => pQ (dC, dI) A (wX2 dA oa uu) t) A) ([.ref (oa 0), .int p1] : List Value).toArray s 0 0 A) (F0 m 10 ls []) := by
    intro n
    induction n with
    | zero =>
      intro x2 m0 m1 m2 m3 m4 m5 m6 H locs ls hf
      rw [f_X2_remove_10] at hf
      cases hf
    | succ n ih =>
      intro x2 m0 m1 m2 m3 m4 m5 m6 H locs ls hf hP hD hS hl
      rw [f_X2_remove_10] at hf
      refine lv_iload_n hx hb dX2_remove_10 rfl (lv_at hl 1 rfl) ?_
      refine lv_iconst (v := 1) hx hb dX2_remove_11 (by decide) ?_
      refine lv_iadd hx hb dX2_remove_12 ?_
      refine lv_aload_n hx hb dX2_remove_13 rfl (lv_at hl 0 rfl) ?_
      refine va_get (D := (dC, dI)) (ci := 6) (v := .int m3) (C := RX2) (T := TX2) (N := 7) hx hb hts in_X2 hown hK hP 0 rfl rfl 3 (by decide) (hts _ (bg _ wd_60)) (fun _ h9 => h9) rfl dX2_remove_14 ?_
      refine lv_icmp_ge (tgt := 68) hx hb dX2_remove_17 (by decide) (fun q1 => ?_) (fun q1 => ?_)
      · have hf := it q1 hf
        refine lv_aload_n hx hb dX2_remove_68 rfl (lv_at hl 0 rfl) ?_
        refine lv_dup hx hb dX2_remove_69 rfl ?_
        refine va_get (D := (dC, dI)) (ci := 6) (v := .int m3) (C := RX2) (T := TX2) (N := 7) hx hb hts in_X2 hown hK hP 0 rfl rfl 3 (by decide) (hts _ (bg _ wd_60)) (fun _ h9 => h9) rfl dX2_remove_70 ?_
        refine lv_iconst (v := 1) hx hb dX2_remove_73 (by decide) ?_
        refine lv_isub hx hb dX2_remove_74 ?_
        refine va_put (D := (dC, dI)) (ci := 6) (v := .int (m3 - 1)) (ty := .int) (C := RX2) (T := TX2) (N := 7) hx hb hts in_X2 tyX2 tyX2_ok nmX2 hown hK hP hD hS 0 rfl rfl 3 (by decide) (hts _ (bg _ wd_60)) (fun _ h9 => h9) rfl (by decide +kernel) rfl rfl (Nat.le_of_ble_eq_true rfl) dX2_remove_75 (fun H locs hP hD hS => ?_)
        have hP : va_P (dC, dI) vwCl [(oa 0, .inr (6, [.ref (oa 1), .ref (oa 2), .ref (oa 3), .int (m3 - 1), .int m4, .int m5, .int m6])), (oa 1, .inl (dA 0, 8, .inl m0)), (oa 2, .inl (dA 1, 8, .inl m1)), (oa 3, .inl (dA 1, 8, .inl m2))] H := hP
        have hD : va_D A [(oa 0, .inr (6, [.ref (oa 1), .ref (oa 2), .ref (oa 3), .int (m3 - 1), .int m4, .int m5, .int m6])), (oa 1, .inl (dA 0, 8, .inl m0)), (oa 2, .inl (dA 1, 8, .inl m1)), (oa 3, .inl (dA 1, 8, .inl m2))] := hD
        have e9 := sm hf
        exact W.vret hx hb hr (fun t ht hW => ⟨⟨(), rfl, trivial, by rw [← e9, ht]; exact hP, by rw [← e9]; exact hD⟩, hS.F ht⟩) hS.2.2 dX2_remove_78
      · have hf := ie q1 hf
        refine lv_aload_n hx hb dX2_remove_20 rfl (lv_at hl 0 rfl) ?_
        refine va_get (D := (dC, dI)) (ci := 6) (v := .ref (oa 1)) (C := RX2) (T := TX2) (N := 7) hx hb hts in_X2 hown hK hP 0 rfl rfl 0 (by decide) (hts _ (bg _ wd_52)) (fun _ h9 => h9) rfl dX2_remove_21 ?_
        refine lv_iload_n hx hb dX2_remove_24 rfl (lv_at hl 1 rfl) ?_
        refine lv_aload_n hx hb dX2_remove_25 rfl (lv_at hl 0 rfl) ?_
        refine va_get (D := (dC, dI)) (ci := 6) (v := .ref (oa 1)) (C := RX2) (T := TX2) (N := 7) hx hb hts in_X2 hown hK hP 0 rfl rfl 0 (by decide) (hts _ (bg _ wd_52)) (fun _ h9 => h9) rfl dX2_remove_26 ?_
        refine lv_iload_n hx hb dX2_remove_29 rfl (lv_at hl 1 rfl) ?_
        refine lv_iconst (v := 1) hx hb dX2_remove_30 (by decide) ?_
        refine lv_iadd hx hb dX2_remove_31 ?_
        obtain ⟨z2, hf⟩ := gd hf
        refine va_cald hx hb hK hP 1 0 rfl rfl z2 dX2_remove_32 ?_
        obtain ⟨z3, hf⟩ := gd hf
        refine va_cast hx hb hK hP hD hS 1 0 rfl rfl z3 dX2_remove_33 (fun H locs hP hD hS => ?_)
        have hP : va_P (dC, dI) vwCl [(oa 0, .inr (6, [.ref (oa 1), .ref (oa 2), .ref (oa 3), .int m3, .int m4, .int m5, .int m6])), (oa 1, .inl (dA 0, 8, .inl (upd m0 x2.toNatClampNeg (vp_nar .char (m0 (x2 + 1).toNatClampNeg))))), (oa 2, .inl (dA 1, 8, .inl m1)), (oa 3, .inl (dA 1, 8, .inl m2))] H := hP
        have hD : va_D A [(oa 0, .inr (6, [.ref (oa 1), .ref (oa 2), .ref (oa 3), .int m3, .int m4, .int m5, .int m6])), (oa 1, .inl (dA 0, 8, .inl (upd m0 x2.toNatClampNeg (vp_nar .char (m0 (x2 + 1).toNatClampNeg))))), (oa 2, .inl (dA 1, 8, .inl m1)), (oa 3, .inl (dA 1, 8, .inl m2))] := hD
        refine lv_aload_n hx hb dX2_remove_34 rfl (lv_at hl 0 rfl) ?_
        refine va_get (D := (dC, dI)) (ci := 6) (v := .ref (oa 2)) (C := RX2) (T := TX2) (N := 7) hx hb hts in_X2 hown hK hP 0 rfl rfl 1 (by decide) (hts _ (bg _ wd_55)) (fun _ h9 => h9) rfl dX2_remove_35 ?_
        refine lv_iload_n hx hb dX2_remove_38 rfl (lv_at hl 1 rfl) ?_
        refine lv_aload_n hx hb dX2_remove_39 rfl (lv_at hl 0 rfl) ?_
        refine va_get (D := (dC, dI)) (ci := 6) (v := .ref (oa 2)) (C := RX2) (T := TX2) (N := 7) hx hb hts in_X2 hown hK hP 0 rfl rfl 1 (by decide) (hts _ (bg _ wd_55)) (fun _ h9 => h9) rfl dX2_remove_40 ?_
        refine lv_iload_n hx hb dX2_remove_43 rfl (lv_at hl 1 rfl) ?_
        refine lv_iconst (v := 1) hx hb dX2_remove_44 (by decide) ?_
        refine lv_iadd hx hb dX2_remove_45 ?_
        obtain ⟨z4, hf⟩ := gd hf
        refine va_iald hx hb hK hP 2 1 rfl rfl z4 dX2_remove_46 ?_
        obtain ⟨z5, hf⟩ := gd hf
        refine va_iast hx hb hK hP hD hS 2 1 rfl rfl z5 dX2_remove_47 (fun H locs hP hD hS => ?_)
        have hP : va_P (dC, dI) vwCl [(oa 0, .inr (6, [.ref (oa 1), .ref (oa 2), .ref (oa 3), .int m3, .int m4, .int m5, .int m6])), (oa 1, .inl (dA 0, 8, .inl (upd m0 x2.toNatClampNeg (vp_nar .char (m0 (x2 + 1).toNatClampNeg))))), (oa 2, .inl (dA 1, 8, .inl (upd m1 x2.toNatClampNeg (m1 (x2 + 1).toNatClampNeg)))), (oa 3, .inl (dA 1, 8, .inl m2))] H := hP
        have hD : va_D A [(oa 0, .inr (6, [.ref (oa 1), .ref (oa 2), .ref (oa 3), .int m3, .int m4, .int m5, .int m6])), (oa 1, .inl (dA 0, 8, .inl (upd m0 x2.toNatClampNeg (vp_nar .char (m0 (x2 + 1).toNatClampNeg))))), (oa 2, .inl (dA 1, 8, .inl (upd m1 x2.toNatClampNeg (m1 (x2 + 1).toNatClampNeg)))), (oa 3, .inl (dA 1, 8, .inl m2))] := hD
        refine lv_aload_n hx hb dX2_remove_48 rfl (lv_at hl 0 rfl) ?_
        refine va_get (D := (dC, dI)) (ci := 6) (v := .ref (oa 3)) (C := RX2) (T := TX2) (N := 7) hx hb hts in_X2 hown hK hP 0 rfl rfl 2 (by decide) (hts _ (bg _ wd_57)) (fun _ h9 => h9) rfl dX2_remove_49 ?_
        refine lv_iload_n hx hb dX2_remove_52 rfl (lv_at hl 1 rfl) ?_
        refine lv_aload_n hx hb dX2_remove_53 rfl (lv_at hl 0 rfl) ?_
        refine va_get (D := (dC, dI)) (ci := 6) (v := .ref (oa 3)) (C := RX2) (T := TX2) (N := 7) hx hb hts in_X2 hown hK hP 0 rfl rfl 2 (by decide) (hts _ (bg _ wd_57)) (fun _ h9 => h9) rfl dX2_remove_54 ?_
        refine lv_iload_n hx hb dX2_remove_57 rfl (lv_at hl 1 rfl) ?_
        refine lv_iconst (v := 1) hx hb dX2_remove_58 (by decide) ?_
        refine lv_iadd hx hb dX2_remove_59 ?_
        obtain ⟨z6, hf⟩ := gd hf
        refine va_iald hx hb hK hP 3 1 rfl rfl z6 dX2_remove_60 ?_
        obtain ⟨z7, hf⟩ := gd hf
        refine va_iast hx hb hK hP hD hS 3 1 rfl rfl z7 dX2_remove_61 (fun H locs hP hD hS => ?_)
        have hP : va_P (dC, dI) vwCl [(oa 0, .inr (6, [.ref (oa 1), .ref (oa 2), .ref (oa 3), .int m3, .int m4, .int m5, .int m6])), (oa 1, .inl (dA 0, 8, .inl (upd m0 x2.toNatClampNeg (vp_nar .char (m0 (x2 + 1).toNatClampNeg))))), (oa 2, .inl (dA 1, 8, .inl (upd m1 x2.toNatClampNeg (m1 (x2 + 1).toNatClampNeg)))), (oa 3, .inl (dA 1, 8, .inl (upd m2 x2.toNatClampNeg (m2 (x2 + 1).toNatClampNeg))))] H := hP
        have hD : va_D A [(oa 0, .inr (6, [.ref (oa 1), .ref (oa 2), .ref (oa 3), .int m3, .int m4, .int m5, .int m6])), (oa 1, .inl (dA 0, 8, .inl (upd m0 x2.toNatClampNeg (vp_nar .char (m0 (x2 + 1).toNatClampNeg))))), (oa 2, .inl (dA 1, 8, .inl (upd m1 x2.toNatClampNeg (m1 (x2 + 1).toNatClampNeg)))), (oa 3, .inl (dA 1, 8, .inl (upd m2 x2.toNatClampNeg (m2 (x2 + 1).toNatClampNeg))))] := hD
        refine lv_iinc (v := (x2 + 1)) (lv' := [(2, .int (x2 + 1)), (0, .ref (oa 0))]) hx hb dX2_remove_62 hl (k := 1) rfl rfl (by decide) rfl (fun ls hl => ?_)
        refine lv_goto (tgt := 10) hx hb dX2_remove_65 (by decide) ?_
        exact ih (x2 + 1) (upd m0 x2.toNatClampNeg (vp_nar .char (m0 (x2 + 1).toNatClampNeg))) (upd m1 x2.toNatClampNeg (m1 (x2 + 1).toNatClampNeg)) (upd m2 x2.toNatClampNeg (m2 (x2 + 1).toNatClampNeg)) m3 m4 m5 m6 _ _ _ hf hP hD hS (lv_sub hl [1, 0] rfl)
  rw [f_X2_remove] at hf
  refine lv_aload_n hx hb dX2_remove_0 rfl (lv_at hl 0 rfl) ?_
  refine lv_iload_n hx hb dX2_remove_1 rfl (lv_at hl 1 rfl) ?_
  obtain ⟨r9, e8, hf⟩ := bd hf
  refine jr_i (va_runV (As := [.int p1]) (rest := []) ⟨hx, hb, hml, hown, hts⟩ (m_X2_has l dC dI dA gz oa s.heap.size a0 a1 a2 a3 a4 a5 a6 p1 r9 e8) (cwV 1 hts (gi_v bg wd_369 wd_370 wd_371 wd_3 wd_372) rfl rfl rfl hd_X2_has ⟨Nat.le_of_ble_eq_true rfl, Nat.le_of_ble_eq_true rfl⟩) ⟨pP_blind, va_recv (ci := 6) (q0 := 0) hK hP rfl rfl, pP_pre hP hD hS hA hK hN hZ [0, 1, 2, 3] (by decide) rfl⟩ rfl rfl hl.1 rfl (lv_room (Nat.le_of_ble_eq_true rfl)) dX2_remove_2 ⟨Nat.le_of_ble_eq_true rfl, Nat.le_of_ble_eq_true rfl⟩) hP hD hS hA [0, 1, 2, 3] rfl (fun H locs hP hS => ?_)
  refine lv_if_eq (tgt := 78) hx hb dX2_remove_5 (by decide) (fun q10 => ?_) (fun q10 => ?_)
  · have hf := it q10 hf
    have e9 := sm hf
    exact W.vret hx hb hr (fun t ht hW => ⟨⟨(), rfl, trivial, by rw [← e9, ht]; exact hP, by rw [← e9]; exact hD⟩, hS.F ht⟩) hS.2.2 dX2_remove_78
  · have hf := ie q10 hf
    refine lv_iload_n hx hb dX2_remove_8 rfl (lv_at hl 1 rfl) ?_
    refine lv_istore_n (lv' := [(2, .int p1), (0, .ref (oa 0)), (1, .int p1)]) hx hb dX2_remove_9 rfl hl (by decide) rfl (fun ls hl => ?_)
    exact cut10 300 p1 a0 a1 a2 a3 a4 a5 a6 _ _ _ hf hP hD hS (lv_sub hl [1, 0] rfl)
/-! X2_begin -/
def f_X2_begin (a0 : Ar) (a1 : Ar) (a2 : Ar) (a3 : Int32) (a4 : Int32) (a5 : Int32) (a6 : Int32) : Option (SX2) :=
  some (a0, a1, a2, a3, 0, 0, a6)
set_option maxRecDepth 100000 in
set_option maxHeartbeats 4000000 in
theorem m_X2_begin (l : Launch) (dC : Nat → ClassId) (dI : Nat → Nat → Nat) (dA gz : Nat → Nat) (oa : Nat → Nat) (sz : Nat) (a0 : Ar) (a1 : Ar) (a2 : Ar) (a3 : Int32) (a4 : Int32) (a5 : Int32) (a6 : Int32) (uu : SX2) (hf : f_X2_begin a0 a1 a2 a3 a4 a5 a6 = some uu) : Met l yX2_begin ws_X2_begin ({ frames := 10, cells := 0, slots := 0, locals := 200 } : Room) (va_Pc [.ref (oa 0)] (pP (dC, dI) dA gz (wX2 dA oa (a0, a1, a2, a3, a4, a5, a6)) sz)) (va_Qv (S := Unit) (fun _ => True) (fun _ t => pQ (dC, dI) (va_A (wX2 dA oa (a0, a1, a2, a3, a4, a5, a6)) sz) (wX2 dA oa uu) t) (va_A (wX2 dA oa (a0, a1, a2, a3, a4, a5, a6)) sz)) 0 0 (va_A (wX2 dA oa (a0, a1, a2, a3, a4, a5, a6)) sz) := by
  refine Met.ofW (cc := cX2_begin) (maxL := 1) (ret := none) (by decide) rfl ?_
  intro p e s m args below meth c s₁ B hml hv
  obtain ⟨rfl, hsz, hP, hK, hD0, hN, hZ⟩ := hv
  have hx := B.exec
  have hb := B.bytes
  have hr := B.returns
  have hts := atoms_spec (ws := ws_X2_begin) B.pre
  have hown : s.vm.findClass RX2 = some m.cls := findClass_of_methodNamed B.named
  have hlocks := B.notSynchronized
  subst hsz
  have hD := hD0.self (sz := s.heap.size)
  generalize hAe : va_A (wX2 dA oa (a0, a1, a2, a3, a4, a5, a6)) s.heap.size = A at hD hZ ⊢
  have hA : ∀ q : Nat, s.heap.size ≤ q → A q := fun q h => by rw [← hAe]; exact Or.inr h
  have hS : va_S A s.heap s.heap [] := va_S.rf
  have hP : va_P (dC, dI) vwCl [(oa 0, .inr (6, [.ref (oa 1), .ref (oa 2), .ref (oa 3), .int a3, .int a4, .int a5, .int a6])), (oa 1, .inl (dA 0, 8, .inl a0)), (oa 2, .inl (dA 1, 8, .inl a1)), (oa 3, .inl (dA 1, 8, .inl a2))] s.heap := hP
  have hD : va_D A [(oa 0, .inr (6, [.ref (oa 1), .ref (oa 2), .ref (oa 3), .int a3, .int a4, .int a5, .int a6])), (oa 1, .inl (dA 0, 8, .inl a0)), (oa 2, .inl (dA 1, 8, .inl a1)), (oa 3, .inl (dA 1, 8, .inl a2))] := hD
  have hl := lv_entry [.ref (oa 0)] (n := 1) (Nat.le_of_ble_eq_true rfl)
  rw [lg_entry_eq]
  generalize (lg_sl [.ref (oa 0)] ++ List.replicate (1 - (lg_sl [.ref (oa 0)]).length) Slot.unset).toArray = ls at hl ⊢
  have hl : lv_has ls 1 [(0, .ref (oa 0))] := hl
  have in_X2 : ∀ w ∈ wsX20, w ∈ ws_X2_begin := fun w h => bg _ (inB_X2 w h)
  rw [f_X2_begin] at hf
  refine lv_aload_n hx hb dX2_begin_0 rfl (lv_at hl 0 rfl) ?_
  refine lv_iconst (v := 0) hx hb dX2_begin_1 (by decide) ?_
  refine va_put (D := (dC, dI)) (ci := 6) (v := .int 0) (ty := .int) (C := RX2) (T := TX2) (N := 7) hx hb hts in_X2 tyX2 tyX2_ok nmX2 hown hK hP hD hS 0 rfl rfl 4 (by decide) (hts _ (bg _ wd_63)) (fun _ h9 => h9) rfl (by decide +kernel) rfl rfl (Nat.le_of_ble_eq_true rfl) dX2_begin_2 (fun H locs hP hD hS => ?_)
  have hP : va_P (dC, dI) vwCl [(oa 0, .inr (6, [.ref (oa 1), .ref (oa 2), .ref (oa 3), .int a3, .int 0, .int a5, .int a6])), (oa 1, .inl (dA 0, 8, .inl a0)), (oa 2, .inl (dA 1, 8, .inl a1)), (oa 3, .inl (dA 1, 8, .inl a2))] H := hP
  have hD : va_D A [(oa 0, .inr (6, [.ref (oa 1), .ref (oa 2), .ref (oa 3), .int a3, .int 0, .int a5, .int a6])), (oa 1, .inl (dA 0, 8, .inl a0)), (oa 2, .inl (dA 1, 8, .inl a1)), (oa 3, .inl (dA 1, 8, .inl a2))] := hD
  refine lv_aload_n hx hb dX2_begin_5 rfl (lv_at hl 0 rfl) ?_
  refine lv_iconst (v := 0) hx hb dX2_begin_6 (by decide) ?_
  refine va_put (D := (dC, dI)) (ci := 6) (v := .int 0) (ty := .int) (C := RX2) (T := TX2) (N := 7) hx hb hts in_X2 tyX2 tyX2_ok nmX2 hown hK hP hD hS 0 rfl rfl 5 (by decide) (hts _ (bg _ wd_66)) (fun _ h9 => h9) rfl (by decide +kernel) rfl rfl (Nat.le_of_ble_eq_true rfl) dX2_begin_7 (fun H locs hP hD hS => ?_)
  have hP : va_P (dC, dI) vwCl [(oa 0, .inr (6, [.ref (oa 1), .ref (oa 2), .ref (oa 3), .int a3, .int 0, .int 0, .int a6])), (oa 1, .inl (dA 0, 8, .inl a0)), (oa 2, .inl (dA 1, 8, .inl a1)), (oa 3, .inl (dA 1, 8, .inl a2))] H := hP
  have hD : va_D A [(oa 0, .inr (6, [.ref (oa 1), .ref (oa 2), .ref (oa 3), .int a3, .int 0, .int 0, .int a6])), (oa 1, .inl (dA 0, 8, .inl a0)), (oa 2, .inl (dA 1, 8, .inl a1)), (oa 3, .inl (dA 1, 8, .inl a2))] := hD
  have e9 := sm hf
  exact W.vret hx hb hr (fun t ht hW => ⟨⟨(), rfl, trivial, by rw [← e9, ht]; exact hP, by rw [← e9]; exact hD⟩, hS.F ht⟩) hS.2.2 dX2_begin_10
/-! X2_end -/
def f_X2_end (a0 : Ar) (a1 : Ar) (a2 : Ar) (a3 : Int32) (a4 : Int32) (a5 : Int32) (a6 : Int32) : Option (SX2) :=
  some (a0, a1, a2, a3, (-1), a5, a6)
set_option maxRecDepth 100000 in
set_option maxHeartbeats 4000000 in
theorem m_X2_end (l : Launch) (dC : Nat → ClassId) (dI : Nat → Nat → Nat) (dA gz : Nat → Nat) (oa : Nat → Nat) (sz : Nat) (a0 : Ar) (a1 : Ar) (a2 : Ar) (a3 : Int32) (a4 : Int32) (a5 : Int32) (a6 : Int32) (uu : SX2) (hf : f_X2_end a0 a1 a2 a3 a4 a5 a6 = some uu) : Met l yX2_end ws_X2_end ({ frames := 10, cells := 0, slots := 0, locals := 200 } : Room) (va_Pc [.ref (oa 0)] (pP (dC, dI) dA gz (wX2 dA oa (a0, a1, a2, a3, a4, a5, a6)) sz)) (va_Qv (S := Unit) (fun _ => True) (fun _ t => pQ (dC, dI) (va_A (wX2 dA oa (a0, a1, a2, a3, a4, a5, a6)) sz) (wX2 dA oa uu) t) (va_A (wX2 dA oa (a0, a1, a2, a3, a4, a5, a6)) sz)) 0 0 (va_A (wX2 dA oa (a0, a1, a2, a3, a4, a5, a6)) sz) := by
  refine Met.ofW (cc := cX2_end) (maxL := 1) (ret := none) (by decide) rfl ?_
  intro p e s m args below meth c s₁ B hml hv
  obtain ⟨rfl, hsz, hP, hK, hD0, hN, hZ⟩ := hv
  have hx := B.exec
  have hb := B.bytes
  have hr := B.returns
  have hts := atoms_spec (ws := ws_X2_end) B.pre
  have hown : s.vm.findClass RX2 = some m.cls := findClass_of_methodNamed B.named
  have hlocks := B.notSynchronized
  subst hsz
  have hD := hD0.self (sz := s.heap.size)
  generalize hAe : va_A (wX2 dA oa (a0, a1, a2, a3, a4, a5, a6)) s.heap.size = A at hD hZ ⊢
  have hA : ∀ q : Nat, s.heap.size ≤ q → A q := fun q h => by rw [← hAe]; exact Or.inr h
  have hS : va_S A s.heap s.heap [] := va_S.rf
  have hP : va_P (dC, dI) vwCl [(oa 0, .inr (6, [.ref (oa 1), .ref (oa 2), .ref (oa 3), .int a3, .int a4, .int a5, .int a6])), (oa 1, .inl (dA 0, 8, .inl a0)), (oa 2, .inl (dA 1, 8, .inl a1)), (oa 3, .inl (dA 1, 8, .inl a2))] s.heap := hP
  have hD : va_D A [(oa 0, .inr (6, [.ref (oa 1), .ref (oa 2), .ref (oa 3), .int a3, .int a4, .int a5, .int a6])), (oa 1, .inl (dA 0, 8, .inl a0)), (oa 2, .inl (dA 1, 8, .inl a1)), (oa 3, .inl (dA 1, 8, .inl a2))] := hD
  have hl := lv_entry [.ref (oa 0)] (n := 1) (Nat.le_of_ble_eq_true rfl)
  rw [lg_entry_eq]
  generalize (lg_sl [.ref (oa 0)] ++ List.replicate (1 - (lg_sl [.ref (oa 0)]).length) Slot.unset).toArray = ls at hl ⊢
  have hl : lv_has ls 1 [(0, .ref (oa 0))] := hl
  have in_X2 : ∀ w ∈ wsX20, w ∈ ws_X2_end := fun w h => bg _ (inB_X2 w h)
  rw [f_X2_end] at hf
  refine lv_aload_n hx hb dX2_end_0 rfl (lv_at hl 0 rfl) ?_
  refine lv_iconst (v := (-1)) hx hb dX2_end_1 (by decide) ?_
  refine va_put (D := (dC, dI)) (ci := 6) (v := .int (-1)) (ty := .int) (C := RX2) (T := TX2) (N := 7) hx hb hts in_X2 tyX2 tyX2_ok nmX2 hown hK hP hD hS 0 rfl rfl 4 (by decide) (hts _ (bg _ wd_63)) (fun _ h9 => h9) rfl (by decide +kernel) rfl rfl (Nat.le_of_ble_eq_true rfl) dX2_end_2 (fun H locs hP hD hS => ?_)
  have hP : va_P (dC, dI) vwCl [(oa 0, .inr (6, [.ref (oa 1), .ref (oa 2), .ref (oa 3), .int a3, .int (-1), .int a5, .int a6])), (oa 1, .inl (dA 0, 8, .inl a0)), (oa 2, .inl (dA 1, 8, .inl a1)), (oa 3, .inl (dA 1, 8, .inl a2))] H := hP
  have hD : va_D A [(oa 0, .inr (6, [.ref (oa 1), .ref (oa 2), .ref (oa 3), .int a3, .int (-1), .int a5, .int a6])), (oa 1, .inl (dA 0, 8, .inl a0)), (oa 2, .inl (dA 1, 8, .inl a1)), (oa 3, .inl (dA 1, 8, .inl a2))] := hD
  have e9 := sm hf
  exact W.vret hx hb hr (fun t ht hW => ⟨⟨(), rfl, trivial, by rw [← e9, ht]; exact hP, by rw [← e9]; exact hD⟩, hS.F ht⟩) hS.2.2 dX2_end_5
/-! X2_minutesToCome -/
def f_X2_minutesToCome_20 (a0 : Ar) (a1 : Ar) (a2 : Ar) (a3 : Int32) (a4 : Int32) (a5 : Int32) (a6 : Int32) : Nat → Int32 → Int32 →  Option (Int32)
  | 0, _, _ => none
  | n + 1, x1, x2 =>
  (if a3 ≤ x2 then some x1 else
  if x2 < 0 ∨ 8 ≤ x2.toNatClampNeg then none else
  f_X2_minutesToCome_20 a0 a1 a2 a3 a4 a5 a6 n (x1 + (a1 x2.toNatClampNeg)) (x2 + 1))
def f_X2_minutesToCome (a0 : Ar) (a1 : Ar) (a2 : Ar) (a3 : Int32) (a4 : Int32) (a5 : Int32) (a6 : Int32) : Option (Int32) :=
  (f_X2_isUnderWay a0 a1 a2 a3 a4 a5 a6).bind fun r4 =>
  (if r4 = 0 then some 0 else
  f_X2_minutesToCome_20 a0 a1 a2 a3 a4 a5 a6 300 (-a5) a4)
set_option maxRecDepth 100000 in
set_option maxHeartbeats 4000000 in
theorem m_X2_minutesToCome (l : Launch) (dC : Nat → ClassId) (dI : Nat → Nat → Nat) (dA gz : Nat → Nat) (oa : Nat → Nat) (sz : Nat) (a0 : Ar) (a1 : Ar) (a2 : Ar) (a3 : Int32) (a4 : Int32) (a5 : Int32) (a6 : Int32) (rr : Int32) (hf : f_X2_minutesToCome a0 a1 a2 a3 a4 a5 a6 = some rr) : Met l yX2_minutesToCome ws_X2_minutesToCome ({ frames := 18, cells := 0, slots := 0, locals := 600 } : Room) (va_Pc [.ref (oa 0)] (pP (dC, dI) dA gz (wX2 dA oa (a0, a1, a2, a3, a4, a5, a6)) sz)) (va_Qi (S := Unit) (fun r' _ => r' = rr) (fun _ t => pQ (dC, dI) (va_A (wX2 dA oa (a0, a1, a2, a3, a4, a5, a6)) sz) (wX2 dA oa (a0, a1, a2, a3, a4, a5, a6)) t) (va_A (wX2 dA oa (a0, a1, a2, a3, a4, a5, a6)) sz)) 0 0 (va_A (wX2 dA oa (a0, a1, a2, a3, a4, a5, a6)) sz) := by
  refine Met.ofW (cc := cX2_minutesToCome) (maxL := 3) (ret := (some .int)) (by decide) rfl ?_
  intro p e s m args below meth c s₁ B hml hv
  obtain ⟨rfl, hsz, hP, hK, hD0, hN, hZ⟩ := hv
  have hx := B.exec
  have hb := B.bytes
  have hr := B.returns
  have hts := atoms_spec (ws := ws_X2_minutesToCome) B.pre
  have hown : s.vm.findClass RX2 = some m.cls := findClass_of_methodNamed B.named
  have hlocks := B.notSynchronized
  subst hsz
  have hD := hD0.self (sz := s.heap.size)
  generalize hAe : va_A (wX2 dA oa (a0, a1, a2, a3, a4, a5, a6)) s.heap.size = A at hD hZ ⊢
  have hA : ∀ q : Nat, s.heap.size ≤ q → A q := fun q h => by rw [← hAe]; exact Or.inr h
  have hS : va_S A s.heap s.heap [] := va_S.rf
  have hP : va_P (dC, dI) vwCl [(oa 0, .inr (6, [.ref (oa 1), .ref (oa 2), .ref (oa 3), .int a3, .int a4, .int a5, .int a6])), (oa 1, .inl (dA 0, 8, .inl a0)), (oa 2, .inl (dA 1, 8, .inl a1)), (oa 3, .inl (dA 1, 8, .inl a2))] s.heap := hP
  have hD : va_D A [(oa 0, .inr (6, [.ref (oa 1), .ref (oa 2), .ref (oa 3), .int a3, .int a4, .int a5, .int a6])), (oa 1, .inl (dA 0, 8, .inl a0)), (oa 2, .inl (dA 1, 8, .inl a1)), (oa 3, .inl (dA 1, 8, .inl a2))] := hD
  have hl := lv_entry [.ref (oa 0)] (n := 3) (Nat.le_of_ble_eq_true rfl)
  rw [lg_entry_eq]
  generalize (lg_sl [.ref (oa 0)] ++ List.replicate (3 - (lg_sl [.ref (oa 0)]).length) Slot.unset).toArray = ls at hl ⊢
  have hl : lv_has ls 3 [(0, .ref (oa 0))] := hl
  have in_X2 : ∀ w ∈ wsX20, w ∈ ws_X2_minutesToCome := fun w h => bg _ (inB_X2 w h)
  have cut20 : ∀ (n : Nat) (x1 : Int32) (x2 : Int32) (H : Heap) (locs : List Loc) (ls : Array Slot), f_X2_minutesToCome_20 a0 a1 a2 a3 a4 a5 a6 n x1 x2 = some rr → va_P (dC, dI) vwCl [(oa 0, .inr (6, [.ref (oa 1), .ref (oa 2), .ref (oa 3), .int a3, .int a4, .int a5, .int a6])), (oa 1, .inl (dA 0, 8, .inl a0)), (oa 2, .inl (dA 1, 8, .inl a1)), (oa 3, .inl (dA 1, 8, .inl a2))] H → va_D A [(oa 0, .inr (6, [.ref (oa 1), .ref (oa 2), .ref (oa 3), .int a3, .int a4, .int a5, .int a6])), (oa 1, .inl (dA 0, 8, .inl a0)), (oa 2, .inl (dA 1, 8, .inl a1)), (oa 3, .inl (dA 1, 8, .inl a2))] → va_S A s.heap H locs → lv_has ls 3 [(0, .ref (oa 0)), (1, .int x1), (2, .int x2)] → W p l e (headSpec ws_X2_minutesToCome ({ frames := 18, cells := 0, slots := 0, locals := 600 } : Room)).room s m ([.ref (oa 0)] : List Value).toArray below meth c H locs 0 0 (MQ below (va_Qi (S := Unit) (fun r' _ => r' = rr) (fun _ t => pQ (dC, dI) A (wX2 dA oa (a0, a1, a2, a3, a4, a5, a6)) t) A) ([.ref (oa 0)] : List Value).toArray s 0 0 A) (F0 m 20 ls []) := by
    intro n
    induction n with
    | zero =>
      intro x1 x2 H locs ls hf
      rw [f_X2_minutesToCome_20] at hf
      cases hf
    | succ n ih =>
      intro x1 x2 H locs ls hf hP hD hS hl
      rw [f_X2_minutesToCome_20] at hf
      refine lv_iload_n hx hb dX2_minutesToCome_20 rfl (lv_at hl 2 rfl) ?_
      refine lv_aload_n hx hb dX2_minutesToCome_21 rfl (lv_at hl 0 rfl) ?_
      refine va_get (D := (dC, dI)) (ci := 6) (v := .int a3) (C := RX2) (T := TX2) (N := 7) hx hb hts in_X2 hown hK hP 0 rfl rfl 3 (by decide) (hts _ (bg _ wd_60)) (fun _ h9 => h9) rfl dX2_minutesToCome_22 ?_
      refine lv_icmp_ge (tgt := 43) hx hb dX2_minutesToCome_25 (by decide) (fun q1 => ?_) (fun q1 => ?_)
      · have hf := it q1 hf
        refine lv_iload_n hx hb dX2_minutesToCome_43 rfl (lv_at hl 1 rfl) ?_
        exact W.iret hx hb hr (fun t ht hW => ⟨⟨_, (), rfl, sm hf, by rw [ht]; exact hP, hD⟩, hS.F ht⟩) hS.2.2 dX2_minutesToCome_44
      · have hf := ie q1 hf
        refine lv_iload_n hx hb dX2_minutesToCome_28 rfl (lv_at hl 1 rfl) ?_
        refine lv_aload_n hx hb dX2_minutesToCome_29 rfl (lv_at hl 0 rfl) ?_
        refine va_get (D := (dC, dI)) (ci := 6) (v := .ref (oa 2)) (C := RX2) (T := TX2) (N := 7) hx hb hts in_X2 hown hK hP 0 rfl rfl 1 (by decide) (hts _ (bg _ wd_55)) (fun _ h9 => h9) rfl dX2_minutesToCome_30 ?_
        refine lv_iload_n hx hb dX2_minutesToCome_33 rfl (lv_at hl 2 rfl) ?_
        obtain ⟨z2, hf⟩ := gd hf
        refine va_iald hx hb hK hP 2 1 rfl rfl z2 dX2_minutesToCome_34 ?_
        refine lv_iadd hx hb dX2_minutesToCome_35 ?_
        refine lv_istore_n (lv' := [(1, .int (x1 + (a1 x2.toNatClampNeg))), (0, .ref (oa 0)), (2, .int x2)]) hx hb dX2_minutesToCome_36 rfl hl (by decide) rfl (fun ls hl => ?_)
        refine lv_iinc (v := (x2 + 1)) (lv' := [(2, .int (x2 + 1)), (1, .int (x1 + (a1 x2.toNatClampNeg))), (0, .ref (oa 0))]) hx hb dX2_minutesToCome_37 hl (k := 2) rfl rfl (by decide) rfl (fun ls hl => ?_)
        refine lv_goto (tgt := 20) hx hb dX2_minutesToCome_40 (by decide) ?_
        exact ih (x1 + (a1 x2.toNatClampNeg)) (x2 + 1) _ _ _ hf hP hD hS (lv_sub hl [2, 1, 0] rfl)
  rw [f_X2_minutesToCome] at hf
  refine lv_aload_n hx hb dX2_minutesToCome_0 rfl (lv_at hl 0 rfl) ?_
  obtain ⟨r4, e3, hf⟩ := bd hf
  refine jr_i (va_runV (As := []) (rest := []) ⟨hx, hb, hml, hown, hts⟩ (m_X2_isUnderWay l dC dI dA gz oa s.heap.size a0 a1 a2 a3 a4 a5 a6 r4 e3) (cwV 0 hts (gi_v bg wd_516 wd_366 wd_367 wd_3 wd_368) rfl rfl rfl hd_X2_isUnderWay ⟨Nat.le_of_ble_eq_true rfl, Nat.le_of_ble_eq_true rfl⟩) ⟨pP_blind, va_recv (ci := 6) (q0 := 0) hK hP rfl rfl, pP_pre hP hD hS hA hK hN hZ [0, 1, 2, 3] (by decide) rfl⟩ rfl rfl hl.1 rfl (lv_room (Nat.le_of_ble_eq_true rfl)) dX2_minutesToCome_1 ⟨Nat.le_of_ble_eq_true rfl, Nat.le_of_ble_eq_true rfl⟩) hP hD hS hA [0, 1, 2, 3] rfl (fun H locs hP hS => ?_)
  refine lv_if_ne (tgt := 9) hx hb dX2_minutesToCome_4 (by decide) (fun q5 => ?_) (fun q5 => ?_)
  · have hf := ie q5 hf
    refine lv_aload_n hx hb dX2_minutesToCome_9 rfl (lv_at hl 0 rfl) ?_
    refine va_get (D := (dC, dI)) (ci := 6) (v := .int a5) (C := RX2) (T := TX2) (N := 7) hx hb hts in_X2 hown hK hP 0 rfl rfl 5 (by decide) (hts _ (bg _ wd_66)) (fun _ h9 => h9) rfl dX2_minutesToCome_10 ?_
    refine lv_ineg hx hb dX2_minutesToCome_13 ?_
    refine lv_istore_n (lv' := [(1, .int (-a5)), (0, .ref (oa 0))]) hx hb dX2_minutesToCome_14 rfl hl (by decide) rfl (fun ls hl => ?_)
    refine lv_aload_n hx hb dX2_minutesToCome_15 rfl (lv_at hl 1 rfl) ?_
    refine va_get (D := (dC, dI)) (ci := 6) (v := .int a4) (C := RX2) (T := TX2) (N := 7) hx hb hts in_X2 hown hK hP 0 rfl rfl 4 (by decide) (hts _ (bg _ wd_63)) (fun _ h9 => h9) rfl dX2_minutesToCome_16 ?_
    refine lv_istore_n (lv' := [(2, .int a4), (1, .int (-a5)), (0, .ref (oa 0))]) hx hb dX2_minutesToCome_19 rfl hl (by decide) rfl (fun ls hl => ?_)
    exact cut20 300 (-a5) a4 _ _ _ hf hP hD hS (lv_sub hl [2, 1, 0] rfl)
  · have hf := it q5 hf
    refine lv_iconst (v := 0) hx hb dX2_minutesToCome_7 (by decide) ?_
    exact W.iret hx hb hr (fun t ht hW => ⟨⟨_, (), rfl, sm hf, by rw [ht]; exact hP, hD⟩, hS.F ht⟩) hS.2.2 dX2_minutesToCome_8
/-! X2_advance -/
def f_X2_advance (a0 : Ar) (a1 : Ar) (a2 : Ar) (a3 : Int32) (a4 : Int32) (a5 : Int32) (a6 : Int32) : Option (SX2) :=
  (f_X2_isUnderWay a0 a1 a2 a3 a4 (a5 + 1) a6).bind fun r2 =>
  (if r2 = 0 then some (a0, a1, a2, a3, a4, (a5 + 1), a6) else
  if a4 < 0 ∨ 8 ≤ a4.toNatClampNeg then none else
  (if (a1 a4.toNatClampNeg) ≤ (a5 + 1) then (if (a4 + 1) < a3 then some (a0, a1, a2, a3, (a4 + 1), 0, a6) else
  bX2 (f_X2_end a0 a1 a2 a3 (a4 + 1) 0 a6) fun c8_0 c8_1 c8_2 c8_3 c8_4 c8_5 c8_6 =>
  some (c8_0, c8_1, c8_2, c8_3, c8_4, c8_5, (c8_6 + 1))) else
  some (a0, a1, a2, a3, a4, (a5 + 1), a6)))
set_option maxRecDepth 100000 in
set_option maxHeartbeats 4000000 in
theorem m_X2_advance (l : Launch) (dC : Nat → ClassId) (dI : Nat → Nat → Nat) (dA gz : Nat → Nat) (oa : Nat → Nat) (sz : Nat) (a0 : Ar) (a1 : Ar) (a2 : Ar) (a3 : Int32) (a4 : Int32) (a5 : Int32) (a6 : Int32) (uu : SX2) (hf : f_X2_advance a0 a1 a2 a3 a4 a5 a6 = some uu) : Met l yX2_advance ws_X2_advance ({ frames := 18, cells := 0, slots := 0, locals := 600 } : Room) (va_Pc [.ref (oa 0)] (pP (dC, dI) dA gz (wX2 dA oa (a0, a1, a2, a3, a4, a5, a6)) sz)) (va_Qv (S := Unit) (fun _ => True) (fun _ t => pQ (dC, dI) (va_A (wX2 dA oa (a0, a1, a2, a3, a4, a5, a6)) sz) (wX2 dA oa uu) t) (va_A (wX2 dA oa (a0, a1, a2, a3, a4, a5, a6)) sz)) 0 0 (va_A (wX2 dA oa (a0, a1, a2, a3, a4, a5, a6)) sz) := by
  refine Met.ofW (cc := cX2_advance) (maxL := 1) (ret := none) (by decide) rfl ?_
  intro p e s m args below meth c s₁ B hml hv
  obtain ⟨rfl, hsz, hP, hK, hD0, hN, hZ⟩ := hv
  have hx := B.exec
  have hb := B.bytes
  have hr := B.returns
  have hts := atoms_spec (ws := ws_X2_advance) B.pre
  have hown : s.vm.findClass RX2 = some m.cls := findClass_of_methodNamed B.named
  have hlocks := B.notSynchronized
  subst hsz
  have hD := hD0.self (sz := s.heap.size)
  generalize hAe : va_A (wX2 dA oa (a0, a1, a2, a3, a4, a5, a6)) s.heap.size = A at hD hZ ⊢
  have hA : ∀ q : Nat, s.heap.size ≤ q → A q := fun q h => by rw [← hAe]; exact Or.inr h
  have hS : va_S A s.heap s.heap [] := va_S.rf
  have hP : va_P (dC, dI) vwCl [(oa 0, .inr (6, [.ref (oa 1), .ref (oa 2), .ref (oa 3), .int a3, .int a4, .int a5, .int a6])), (oa 1, .inl (dA 0, 8, .inl a0)), (oa 2, .inl (dA 1, 8, .inl a1)), (oa 3, .inl (dA 1, 8, .inl a2))] s.heap := hP
  have hD : va_D A [(oa 0, .inr (6, [.ref (oa 1), .ref (oa 2), .ref (oa 3), .int a3, .int a4, .int a5, .int a6])), (oa 1, .inl (dA 0, 8, .inl a0)), (oa 2, .inl (dA 1, 8, .inl a1)), (oa 3, .inl (dA 1, 8, .inl a2))] := hD
  have hl := lv_entry [.ref (oa 0)] (n := 1) (Nat.le_of_ble_eq_true rfl)
  rw [lg_entry_eq]
  generalize (lg_sl [.ref (oa 0)] ++ List.replicate (1 - (lg_sl [.ref (oa 0)]).length) Slot.unset).toArray = ls at hl ⊢
  have hl : lv_has ls 1 [(0, .ref (oa 0))] := hl
  have in_X2 : ∀ w ∈ wsX20, w ∈ ws_X2_advance := fun w h => bg _ (inB_X2 w h)
  rw [f_X2_advance] at hf
  refine lv_aload_n hx hb dX2_advance_0 rfl (lv_at hl 0 rfl) ?_
  refine lv_dup hx hb dX2_advance_1 rfl ?_
  refine va_get (D := (dC, dI)) (ci := 6) (v := .int a5) (C := RX2) (T := TX2) (N := 7) hx hb hts in_X2 hown hK hP 0 rfl rfl 5 (by decide) (hts _ (bg _ wd_66)) (fun _ h9 => h9) rfl dX2_advance_2 ?_
  refine lv_iconst (v := 1) hx hb dX2_advance_5 (by decide) ?_
  refine lv_iadd hx hb dX2_advance_6 ?_
  refine va_put (D := (dC, dI)) (ci := 6) (v := .int (a5 + 1)) (ty := .int) (C := RX2) (T := TX2) (N := 7) hx hb hts in_X2 tyX2 tyX2_ok nmX2 hown hK hP hD hS 0 rfl rfl 5 (by decide) (hts _ (bg _ wd_66)) (fun _ h9 => h9) rfl (by decide +kernel) rfl rfl (Nat.le_of_ble_eq_true rfl) dX2_advance_7 (fun H locs hP hD hS => ?_)
  have hP : va_P (dC, dI) vwCl [(oa 0, .inr (6, [.ref (oa 1), .ref (oa 2), .ref (oa 3), .int a3, .int a4, .int (a5 + 1), .int a6])), (oa 1, .inl (dA 0, 8, .inl a0)), (oa 2, .inl (dA 1, 8, .inl a1)), (oa 3, .inl (dA 1, 8, .inl a2))] H := hP
  have hD : va_D A [(oa 0, .inr (6, [.ref (oa 1), .ref (oa 2), .ref (oa 3), .int a3, .int a4, .int (a5 + 1), .int a6])), (oa 1, .inl (dA 0, 8, .inl a0)), (oa 2, .inl (dA 1, 8, .inl a1)), (oa 3, .inl (dA 1, 8, .inl a2))] := hD
  refine lv_aload_n hx hb dX2_advance_10 rfl (lv_at hl 0 rfl) ?_
  obtain ⟨r2, e1, hf⟩ := bd hf
  refine jr_i (va_runV (As := []) (rest := []) ⟨hx, hb, hml, hown, hts⟩ (m_X2_isUnderWay l dC dI dA gz oa H.size a0 a1 a2 a3 a4 (a5 + 1) a6 r2 e1) (cwV 0 hts (gi_v bg wd_516 wd_366 wd_367 wd_3 wd_368) rfl rfl rfl hd_X2_isUnderWay ⟨Nat.le_of_ble_eq_true rfl, Nat.le_of_ble_eq_true rfl⟩) ⟨pP_blind, va_recv (ci := 6) (q0 := 0) hK hP rfl rfl, pP_pre hP hD hS hA hK hN hZ [0, 1, 2, 3] (by decide) rfl⟩ rfl rfl hl.1 rfl (lv_room (Nat.le_of_ble_eq_true rfl)) dX2_advance_11 ⟨Nat.le_of_ble_eq_true rfl, Nat.le_of_ble_eq_true rfl⟩) hP hD hS hA [0, 1, 2, 3] rfl (fun H locs hP hS => ?_)
  refine lv_if_eq (tgt := 33) hx hb dX2_advance_14 (by decide) (fun q3 => ?_) (fun q3 => ?_)
  · have hf := it q3 hf
    have e9 := sm hf
    exact W.vret hx hb hr (fun t ht hW => ⟨⟨(), rfl, trivial, by rw [← e9, ht]; exact hP, by rw [← e9]; exact hD⟩, hS.F ht⟩) hS.2.2 dX2_advance_33
  · have hf := ie q3 hf
    refine lv_aload_n hx hb dX2_advance_17 rfl (lv_at hl 0 rfl) ?_
    refine va_get (D := (dC, dI)) (ci := 6) (v := .int (a5 + 1)) (C := RX2) (T := TX2) (N := 7) hx hb hts in_X2 hown hK hP 0 rfl rfl 5 (by decide) (hts _ (bg _ wd_66)) (fun _ h9 => h9) rfl dX2_advance_18 ?_
    refine lv_aload_n hx hb dX2_advance_21 rfl (lv_at hl 0 rfl) ?_
    refine va_get (D := (dC, dI)) (ci := 6) (v := .ref (oa 2)) (C := RX2) (T := TX2) (N := 7) hx hb hts in_X2 hown hK hP 0 rfl rfl 1 (by decide) (hts _ (bg _ wd_55)) (fun _ h9 => h9) rfl dX2_advance_22 ?_
    refine lv_aload_n hx hb dX2_advance_25 rfl (lv_at hl 0 rfl) ?_
    refine va_get (D := (dC, dI)) (ci := 6) (v := .int a4) (C := RX2) (T := TX2) (N := 7) hx hb hts in_X2 hown hK hP 0 rfl rfl 4 (by decide) (hts _ (bg _ wd_63)) (fun _ h9 => h9) rfl dX2_advance_26 ?_
    obtain ⟨z4, hf⟩ := gd hf
    refine va_iald hx hb hK hP 2 1 rfl rfl z4 dX2_advance_29 ?_
    refine lv_icmp_ge (tgt := 34) hx hb dX2_advance_30 (by decide) (fun q5 => ?_) (fun q5 => ?_)
    · have hf := it q5 hf
      refine lv_aload_n hx hb dX2_advance_34 rfl (lv_at hl 0 rfl) ?_
      refine lv_dup hx hb dX2_advance_35 rfl ?_
      refine va_get (D := (dC, dI)) (ci := 6) (v := .int a4) (C := RX2) (T := TX2) (N := 7) hx hb hts in_X2 hown hK hP 0 rfl rfl 4 (by decide) (hts _ (bg _ wd_63)) (fun _ h9 => h9) rfl dX2_advance_36 ?_
      refine lv_iconst (v := 1) hx hb dX2_advance_39 (by decide) ?_
      refine lv_iadd hx hb dX2_advance_40 ?_
      refine va_put (D := (dC, dI)) (ci := 6) (v := .int (a4 + 1)) (ty := .int) (C := RX2) (T := TX2) (N := 7) hx hb hts in_X2 tyX2 tyX2_ok nmX2 hown hK hP hD hS 0 rfl rfl 4 (by decide) (hts _ (bg _ wd_63)) (fun _ h9 => h9) rfl (by decide +kernel) rfl rfl (Nat.le_of_ble_eq_true rfl) dX2_advance_41 (fun H locs hP hD hS => ?_)
      have hP : va_P (dC, dI) vwCl [(oa 0, .inr (6, [.ref (oa 1), .ref (oa 2), .ref (oa 3), .int a3, .int (a4 + 1), .int (a5 + 1), .int a6])), (oa 1, .inl (dA 0, 8, .inl a0)), (oa 2, .inl (dA 1, 8, .inl a1)), (oa 3, .inl (dA 1, 8, .inl a2))] H := hP
      have hD : va_D A [(oa 0, .inr (6, [.ref (oa 1), .ref (oa 2), .ref (oa 3), .int a3, .int (a4 + 1), .int (a5 + 1), .int a6])), (oa 1, .inl (dA 0, 8, .inl a0)), (oa 2, .inl (dA 1, 8, .inl a1)), (oa 3, .inl (dA 1, 8, .inl a2))] := hD
      refine lv_aload_n hx hb dX2_advance_44 rfl (lv_at hl 0 rfl) ?_
      refine lv_iconst (v := 0) hx hb dX2_advance_45 (by decide) ?_
      refine va_put (D := (dC, dI)) (ci := 6) (v := .int 0) (ty := .int) (C := RX2) (T := TX2) (N := 7) hx hb hts in_X2 tyX2 tyX2_ok nmX2 hown hK hP hD hS 0 rfl rfl 5 (by decide) (hts _ (bg _ wd_66)) (fun _ h9 => h9) rfl (by decide +kernel) rfl rfl (Nat.le_of_ble_eq_true rfl) dX2_advance_46 (fun H locs hP hD hS => ?_)
      have hP : va_P (dC, dI) vwCl [(oa 0, .inr (6, [.ref (oa 1), .ref (oa 2), .ref (oa 3), .int a3, .int (a4 + 1), .int 0, .int a6])), (oa 1, .inl (dA 0, 8, .inl a0)), (oa 2, .inl (dA 1, 8, .inl a1)), (oa 3, .inl (dA 1, 8, .inl a2))] H := hP
      have hD : va_D A [(oa 0, .inr (6, [.ref (oa 1), .ref (oa 2), .ref (oa 3), .int a3, .int (a4 + 1), .int 0, .int a6])), (oa 1, .inl (dA 0, 8, .inl a0)), (oa 2, .inl (dA 1, 8, .inl a1)), (oa 3, .inl (dA 1, 8, .inl a2))] := hD
      refine lv_aload_n hx hb dX2_advance_49 rfl (lv_at hl 0 rfl) ?_
      refine va_get (D := (dC, dI)) (ci := 6) (v := .int (a4 + 1)) (C := RX2) (T := TX2) (N := 7) hx hb hts in_X2 hown hK hP 0 rfl rfl 4 (by decide) (hts _ (bg _ wd_63)) (fun _ h9 => h9) rfl dX2_advance_50 ?_
      refine lv_aload_n hx hb dX2_advance_53 rfl (lv_at hl 0 rfl) ?_
      refine va_get (D := (dC, dI)) (ci := 6) (v := .int a3) (C := RX2) (T := TX2) (N := 7) hx hb hts in_X2 hown hK hP 0 rfl rfl 3 (by decide) (hts _ (bg _ wd_60)) (fun _ h9 => h9) rfl dX2_advance_54 ?_
      refine lv_icmp_lt (tgt := 74) hx hb dX2_advance_57 (by decide) (fun q6 => ?_) (fun q6 => ?_)
      · have hf := it q6 hf
        have e9 := sm hf
        exact W.vret hx hb hr (fun t ht hW => ⟨⟨(), rfl, trivial, by rw [← e9, ht]; exact hP, by rw [← e9]; exact hD⟩, hS.F ht⟩) hS.2.2 dX2_advance_74
      · have hf := ie q6 hf
        refine lv_aload_n hx hb dX2_advance_60 rfl (lv_at hl 0 rfl) ?_
        obtain ⟨c8_0, c8_1, c8_2, c8_3, c8_4, c8_5, c8_6, e7, hf⟩ := bX2_inv hf
        refine jn_v (va_runV (As := []) (rest := []) ⟨hx, hb, hml, hown, hts⟩ (m_X2_end l dC dI dA gz oa H.size a0 a1 a2 a3 (a4 + 1) 0 a6 (c8_0, c8_1, c8_2, c8_3, c8_4, c8_5, c8_6) e7) (cwV 0 hts (gi_v bg wd_575 wd_533 wd_534 wd_3 wd_535) rfl rfl rfl hd_X2_end ⟨Nat.le_of_ble_eq_true rfl, Nat.le_of_ble_eq_true rfl⟩) ⟨pP_blind, va_recv (ci := 6) (q0 := 0) hK hP rfl rfl, pP_pre hP hD hS hA hK hN hZ [0, 1, 2, 3] (by decide) rfl⟩ rfl rfl hl.1 rfl (lv_room (Nat.le_of_ble_eq_true rfl)) dX2_advance_61 ⟨Nat.le_of_ble_eq_true rfl, Nat.le_of_ble_eq_true rfl⟩) hP hD hS hA [0, 1, 2, 3] rfl rfl (fun H locs hP hD hS => ?_)
        have hP : va_P (dC, dI) vwCl [(oa 0, .inr (6, [.ref (oa 1), .ref (oa 2), .ref (oa 3), .int c8_3, .int c8_4, .int c8_5, .int c8_6])), (oa 1, .inl (dA 0, 8, .inl c8_0)), (oa 2, .inl (dA 1, 8, .inl c8_1)), (oa 3, .inl (dA 1, 8, .inl c8_2))] H := hP
        have hD : va_D A [(oa 0, .inr (6, [.ref (oa 1), .ref (oa 2), .ref (oa 3), .int c8_3, .int c8_4, .int c8_5, .int c8_6])), (oa 1, .inl (dA 0, 8, .inl c8_0)), (oa 2, .inl (dA 1, 8, .inl c8_1)), (oa 3, .inl (dA 1, 8, .inl c8_2))] := hD
        refine lv_aload_n hx hb dX2_advance_64 rfl (lv_at hl 0 rfl) ?_
        refine lv_dup hx hb dX2_advance_65 rfl ?_
        refine va_get (D := (dC, dI)) (ci := 6) (v := .int c8_6) (C := RX2) (T := TX2) (N := 7) hx hb hts in_X2 hown hK hP 0 rfl rfl 6 (by decide) (hts _ (bg _ wd_68)) (fun _ h9 => h9) rfl dX2_advance_66 ?_
        refine lv_iconst (v := 1) hx hb dX2_advance_69 (by decide) ?_
        refine lv_iadd hx hb dX2_advance_70 ?_
        refine va_put (D := (dC, dI)) (ci := 6) (v := .int (c8_6 + 1)) (ty := .int) (C := RX2) (T := TX2) (N := 7) hx hb hts in_X2 tyX2 tyX2_ok nmX2 hown hK hP hD hS 0 rfl rfl 6 (by decide) (hts _ (bg _ wd_68)) (fun _ h9 => h9) rfl (by decide +kernel) rfl rfl (Nat.le_of_ble_eq_true rfl) dX2_advance_71 (fun H locs hP hD hS => ?_)
        have hP : va_P (dC, dI) vwCl [(oa 0, .inr (6, [.ref (oa 1), .ref (oa 2), .ref (oa 3), .int c8_3, .int c8_4, .int c8_5, .int (c8_6 + 1)])), (oa 1, .inl (dA 0, 8, .inl c8_0)), (oa 2, .inl (dA 1, 8, .inl c8_1)), (oa 3, .inl (dA 1, 8, .inl c8_2))] H := hP
        have hD : va_D A [(oa 0, .inr (6, [.ref (oa 1), .ref (oa 2), .ref (oa 3), .int c8_3, .int c8_4, .int c8_5, .int (c8_6 + 1)])), (oa 1, .inl (dA 0, 8, .inl c8_0)), (oa 2, .inl (dA 1, 8, .inl c8_1)), (oa 3, .inl (dA 1, 8, .inl c8_2))] := hD
        have e9 := sm hf
        exact W.vret hx hb hr (fun t ht hW => ⟨⟨(), rfl, trivial, by rw [← e9, ht]; exact hP, by rw [← e9]; exact hD⟩, hS.F ht⟩) hS.2.2 dX2_advance_74
    · have hf := ie q5 hf
      have e9 := sm hf
      exact W.vret hx hb hr (fun t ht hW => ⟨⟨(), rfl, trivial, by rw [← e9, ht]; exact hP, by rw [← e9]; exact hD⟩, hS.F ht⟩) hS.2.2 dX2_advance_33
/-! X2_copyFrom -/
def f_X2_copyFrom (a0 : Ar) (a1 : Ar) (a2 : Ar) (a3 : Int32) (a4 : Int32) (a5 : Int32) (a6 : Int32) (b0 : Ar) (b1 : Ar) (b2 : Ar) (b3 : Int32) (b4 : Int32) (b5 : Int32) (b6 : Int32) : Option (SX2) :=
  if chOk 8 b0 = false then none else
  some (b0, b1, b2, b3, b4, b5, b6)
set_option maxRecDepth 100000 in
set_option maxHeartbeats 4000000 in
theorem m_X2_copyFrom (l : Launch) (dC : Nat → ClassId) (dI : Nat → Nat → Nat) (dA gz : Nat → Nat) (oa : Nat → Nat) (ob : Nat → Nat) (sz : Nat) (a0 : Ar) (a1 : Ar) (a2 : Ar) (a3 : Int32) (a4 : Int32) (a5 : Int32) (a6 : Int32) (b0 : Ar) (b1 : Ar) (b2 : Ar) (b3 : Int32) (b4 : Int32) (b5 : Int32) (b6 : Int32) (uu : SX2) (hf : f_X2_copyFrom a0 a1 a2 a3 a4 a5 a6 b0 b1 b2 b3 b4 b5 b6 = some uu) : Met l yX2_copyFrom ws_X2_copyFrom ({ frames := 10, cells := 0, slots := 0, locals := 200 } : Room) (va_Pc [.ref (oa 0), .ref (ob 0)] (pP (dC, dI) dA gz (wX2 dA oa (a0, a1, a2, a3, a4, a5, a6) ++ wX2 dA ob (b0, b1, b2, b3, b4, b5, b6)) sz)) (va_Qv (S := Unit) (fun _ => True) (fun _ t => pQ (dC, dI) (va_A (wX2 dA oa (a0, a1, a2, a3, a4, a5, a6) ++ wX2 dA ob (b0, b1, b2, b3, b4, b5, b6)) sz) (wX2 dA oa uu ++ wX2 dA ob (b0, b1, b2, b3, b4, b5, b6)) t) (va_A (wX2 dA oa (a0, a1, a2, a3, a4, a5, a6) ++ wX2 dA ob (b0, b1, b2, b3, b4, b5, b6)) sz)) 0 0 (va_A (wX2 dA oa (a0, a1, a2, a3, a4, a5, a6) ++ wX2 dA ob (b0, b1, b2, b3, b4, b5, b6)) sz) := by
  refine Met.ofW (cc := cX2_copyFrom) (maxL := 2) (ret := none) (by decide) rfl ?_
  intro p e s m args below meth c s₁ B hml hv
  obtain ⟨rfl, hsz, hP, hK, hD0, hN, hZ⟩ := hv
  have hx := B.exec
  have hb := B.bytes
  have hr := B.returns
  have hts := atoms_spec (ws := ws_X2_copyFrom) B.pre
  have hown : s.vm.findClass RX2 = some m.cls := findClass_of_methodNamed B.named
  have hlocks := B.notSynchronized
  subst hsz
  have hD := hD0.self (sz := s.heap.size)
  generalize hAe : va_A (wX2 dA oa (a0, a1, a2, a3, a4, a5, a6) ++ wX2 dA ob (b0, b1, b2, b3, b4, b5, b6)) s.heap.size = A at hD hZ ⊢
  have hA : ∀ q : Nat, s.heap.size ≤ q → A q := fun q h => by rw [← hAe]; exact Or.inr h
  have hS : va_S A s.heap s.heap [] := va_S.rf
  have hP : va_P (dC, dI) vwCl [(oa 0, .inr (6, [.ref (oa 1), .ref (oa 2), .ref (oa 3), .int a3, .int a4, .int a5, .int a6])), (oa 1, .inl (dA 0, 8, .inl a0)), (oa 2, .inl (dA 1, 8, .inl a1)), (oa 3, .inl (dA 1, 8, .inl a2)), (ob 0, .inr (6, [.ref (ob 1), .ref (ob 2), .ref (ob 3), .int b3, .int b4, .int b5, .int b6])), (ob 1, .inl (dA 0, 8, .inl b0)), (ob 2, .inl (dA 1, 8, .inl b1)), (ob 3, .inl (dA 1, 8, .inl b2))] s.heap := hP
  have hD : va_D A [(oa 0, .inr (6, [.ref (oa 1), .ref (oa 2), .ref (oa 3), .int a3, .int a4, .int a5, .int a6])), (oa 1, .inl (dA 0, 8, .inl a0)), (oa 2, .inl (dA 1, 8, .inl a1)), (oa 3, .inl (dA 1, 8, .inl a2)), (ob 0, .inr (6, [.ref (ob 1), .ref (ob 2), .ref (ob 3), .int b3, .int b4, .int b5, .int b6])), (ob 1, .inl (dA 0, 8, .inl b0)), (ob 2, .inl (dA 1, 8, .inl b1)), (ob 3, .inl (dA 1, 8, .inl b2))] := hD
  have hl := lv_entry [.ref (oa 0), .ref (ob 0)] (n := 2) (Nat.le_of_ble_eq_true rfl)
  rw [lg_entry_eq]
  generalize (lg_sl [.ref (oa 0), .ref (ob 0)] ++ List.replicate (2 - (lg_sl [.ref (oa 0), .ref (ob 0)]).length) Slot.unset).toArray = ls at hl ⊢
  have hl : lv_has ls 2 [(0, .ref (oa 0)), (1, .ref (ob 0))] := hl
  have in_X2 : ∀ w ∈ wsX20, w ∈ ws_X2_copyFrom := fun w h => bg _ (inB_X2 w h)
  rw [f_X2_copyFrom] at hf
  refine lv_aload_n hx hb dX2_copyFrom_0 rfl (lv_at hl 1 rfl) ?_
  refine va_get (D := (dC, dI)) (ci := 6) (v := .ref (ob 1)) (C := RX2) (T := TX2) (N := 7) hx hb hts in_X2 hown hK hP 4 rfl rfl 0 (by decide) (hts _ (bg _ wd_52)) (fun _ h9 => h9) rfl dX2_copyFrom_1 ?_
  refine lv_iconst (v := 0) hx hb dX2_copyFrom_4 (by decide) ?_
  refine lv_aload_n hx hb dX2_copyFrom_5 rfl (lv_at hl 0 rfl) ?_
  refine va_get (D := (dC, dI)) (ci := 6) (v := .ref (oa 1)) (C := RX2) (T := TX2) (N := 7) hx hb hts in_X2 hown hK hP 0 rfl rfl 0 (by decide) (hts _ (bg _ wd_52)) (fun _ h9 => h9) rfl dX2_copyFrom_6 ?_
  refine lv_iconst (v := 0) hx hb dX2_copyFrom_9 (by decide) ?_
  refine lv_bipush (v := 8) hx hb dX2_copyFrom_10 (by decide) ?_
  obtain ⟨z1, hf⟩ := gd hf
  refine va_copyi hx hb (hml.trans hl.1.symm) hown (hts _ (bg _ wd_324)) (hts _ (bg _ wd_326)) (hts _ (bg _ wd_325)) (hts _ (bg _ wd_20)) hK hP hD hS 5 1 0 0 rfl rfl rfl rfl rfl (by decide) (by decide) (by decide) (by decide) (by decide) (fun i hi => by have h9 := chOk_at z1 i hi; rw [show (0 : Int32).toNatClampNeg + i = i from by rw [show (0 : Int32).toNatClampNeg = 0 from rfl]; omega]; exact (nar_c h9).2) (Nat.le_of_ble_eq_true rfl) (Nat.le_of_ble_eq_true (by decide +kernel)) dX2_copyFrom_12 (fun H locs hP hD hS => ?_)
  have hP := P_cp (i := 0) (j := 0) (k := 8) (n := 8) rfl rfl rfl hP
  have hD := D_sw (e2 := .inl (dA 0, 8, .inl b0)) hD (Nat.le_of_ble_eq_true rfl)
  have hP : va_P (dC, dI) vwCl [(oa 0, .inr (6, [.ref (oa 1), .ref (oa 2), .ref (oa 3), .int a3, .int a4, .int a5, .int a6])), (oa 1, .inl (dA 0, 8, .inl b0)), (oa 2, .inl (dA 1, 8, .inl a1)), (oa 3, .inl (dA 1, 8, .inl a2)), (ob 0, .inr (6, [.ref (ob 1), .ref (ob 2), .ref (ob 3), .int b3, .int b4, .int b5, .int b6])), (ob 1, .inl (dA 0, 8, .inl b0)), (ob 2, .inl (dA 1, 8, .inl b1)), (ob 3, .inl (dA 1, 8, .inl b2))] H := hP
  have hD : va_D A [(oa 0, .inr (6, [.ref (oa 1), .ref (oa 2), .ref (oa 3), .int a3, .int a4, .int a5, .int a6])), (oa 1, .inl (dA 0, 8, .inl b0)), (oa 2, .inl (dA 1, 8, .inl a1)), (oa 3, .inl (dA 1, 8, .inl a2)), (ob 0, .inr (6, [.ref (ob 1), .ref (ob 2), .ref (ob 3), .int b3, .int b4, .int b5, .int b6])), (ob 1, .inl (dA 0, 8, .inl b0)), (ob 2, .inl (dA 1, 8, .inl b1)), (ob 3, .inl (dA 1, 8, .inl b2))] := hD
  refine lv_aload_n hx hb dX2_copyFrom_15 rfl (lv_at hl 1 rfl) ?_
  refine va_get (D := (dC, dI)) (ci := 6) (v := .ref (ob 2)) (C := RX2) (T := TX2) (N := 7) hx hb hts in_X2 hown hK hP 4 rfl rfl 1 (by decide) (hts _ (bg _ wd_55)) (fun _ h9 => h9) rfl dX2_copyFrom_16 ?_
  refine lv_iconst (v := 0) hx hb dX2_copyFrom_19 (by decide) ?_
  refine lv_aload_n hx hb dX2_copyFrom_20 rfl (lv_at hl 0 rfl) ?_
  refine va_get (D := (dC, dI)) (ci := 6) (v := .ref (oa 2)) (C := RX2) (T := TX2) (N := 7) hx hb hts in_X2 hown hK hP 0 rfl rfl 1 (by decide) (hts _ (bg _ wd_55)) (fun _ h9 => h9) rfl dX2_copyFrom_21 ?_
  refine lv_iconst (v := 0) hx hb dX2_copyFrom_24 (by decide) ?_
  refine lv_bipush (v := 8) hx hb dX2_copyFrom_25 (by decide) ?_
  refine va_copyi hx hb (hml.trans hl.1.symm) hown (hts _ (bg _ wd_324)) (hts _ (bg _ wd_326)) (hts _ (bg _ wd_325)) (hts _ (bg _ wd_20)) hK hP hD hS 6 2 1 1 rfl rfl rfl rfl rfl (by decide) (by decide) (by decide) (by decide) (by decide) (fun _ _ => rfl) (Nat.le_of_ble_eq_true rfl) (Nat.le_of_ble_eq_true (by decide +kernel)) dX2_copyFrom_27 (fun H locs hP hD hS => ?_)
  have hP := P_cp (i := 0) (j := 0) (k := 8) (n := 8) rfl rfl rfl hP
  have hD := D_sw (e2 := .inl (dA 1, 8, .inl b1)) hD (Nat.le_of_ble_eq_true rfl)
  have hP : va_P (dC, dI) vwCl [(oa 0, .inr (6, [.ref (oa 1), .ref (oa 2), .ref (oa 3), .int a3, .int a4, .int a5, .int a6])), (oa 1, .inl (dA 0, 8, .inl b0)), (oa 2, .inl (dA 1, 8, .inl b1)), (oa 3, .inl (dA 1, 8, .inl a2)), (ob 0, .inr (6, [.ref (ob 1), .ref (ob 2), .ref (ob 3), .int b3, .int b4, .int b5, .int b6])), (ob 1, .inl (dA 0, 8, .inl b0)), (ob 2, .inl (dA 1, 8, .inl b1)), (ob 3, .inl (dA 1, 8, .inl b2))] H := hP
  have hD : va_D A [(oa 0, .inr (6, [.ref (oa 1), .ref (oa 2), .ref (oa 3), .int a3, .int a4, .int a5, .int a6])), (oa 1, .inl (dA 0, 8, .inl b0)), (oa 2, .inl (dA 1, 8, .inl b1)), (oa 3, .inl (dA 1, 8, .inl a2)), (ob 0, .inr (6, [.ref (ob 1), .ref (ob 2), .ref (ob 3), .int b3, .int b4, .int b5, .int b6])), (ob 1, .inl (dA 0, 8, .inl b0)), (ob 2, .inl (dA 1, 8, .inl b1)), (ob 3, .inl (dA 1, 8, .inl b2))] := hD
  refine lv_aload_n hx hb dX2_copyFrom_30 rfl (lv_at hl 1 rfl) ?_
  refine va_get (D := (dC, dI)) (ci := 6) (v := .ref (ob 3)) (C := RX2) (T := TX2) (N := 7) hx hb hts in_X2 hown hK hP 4 rfl rfl 2 (by decide) (hts _ (bg _ wd_57)) (fun _ h9 => h9) rfl dX2_copyFrom_31 ?_
  refine lv_iconst (v := 0) hx hb dX2_copyFrom_34 (by decide) ?_
  refine lv_aload_n hx hb dX2_copyFrom_35 rfl (lv_at hl 0 rfl) ?_
  refine va_get (D := (dC, dI)) (ci := 6) (v := .ref (oa 3)) (C := RX2) (T := TX2) (N := 7) hx hb hts in_X2 hown hK hP 0 rfl rfl 2 (by decide) (hts _ (bg _ wd_57)) (fun _ h9 => h9) rfl dX2_copyFrom_36 ?_
  refine lv_iconst (v := 0) hx hb dX2_copyFrom_39 (by decide) ?_
  refine lv_bipush (v := 8) hx hb dX2_copyFrom_40 (by decide) ?_
  refine va_copyi hx hb (hml.trans hl.1.symm) hown (hts _ (bg _ wd_324)) (hts _ (bg _ wd_326)) (hts _ (bg _ wd_325)) (hts _ (bg _ wd_20)) hK hP hD hS 7 3 1 1 rfl rfl rfl rfl rfl (by decide) (by decide) (by decide) (by decide) (by decide) (fun _ _ => rfl) (Nat.le_of_ble_eq_true rfl) (Nat.le_of_ble_eq_true (by decide +kernel)) dX2_copyFrom_42 (fun H locs hP hD hS => ?_)
  have hP := P_cp (i := 0) (j := 0) (k := 8) (n := 8) rfl rfl rfl hP
  have hD := D_sw (e2 := .inl (dA 1, 8, .inl b2)) hD (Nat.le_of_ble_eq_true rfl)
  have hP : va_P (dC, dI) vwCl [(oa 0, .inr (6, [.ref (oa 1), .ref (oa 2), .ref (oa 3), .int a3, .int a4, .int a5, .int a6])), (oa 1, .inl (dA 0, 8, .inl b0)), (oa 2, .inl (dA 1, 8, .inl b1)), (oa 3, .inl (dA 1, 8, .inl b2)), (ob 0, .inr (6, [.ref (ob 1), .ref (ob 2), .ref (ob 3), .int b3, .int b4, .int b5, .int b6])), (ob 1, .inl (dA 0, 8, .inl b0)), (ob 2, .inl (dA 1, 8, .inl b1)), (ob 3, .inl (dA 1, 8, .inl b2))] H := hP
  have hD : va_D A [(oa 0, .inr (6, [.ref (oa 1), .ref (oa 2), .ref (oa 3), .int a3, .int a4, .int a5, .int a6])), (oa 1, .inl (dA 0, 8, .inl b0)), (oa 2, .inl (dA 1, 8, .inl b1)), (oa 3, .inl (dA 1, 8, .inl b2)), (ob 0, .inr (6, [.ref (ob 1), .ref (ob 2), .ref (ob 3), .int b3, .int b4, .int b5, .int b6])), (ob 1, .inl (dA 0, 8, .inl b0)), (ob 2, .inl (dA 1, 8, .inl b1)), (ob 3, .inl (dA 1, 8, .inl b2))] := hD
  refine lv_aload_n hx hb dX2_copyFrom_45 rfl (lv_at hl 0 rfl) ?_
  refine lv_aload_n hx hb dX2_copyFrom_46 rfl (lv_at hl 1 rfl) ?_
  refine va_get (D := (dC, dI)) (ci := 6) (v := .int b3) (C := RX2) (T := TX2) (N := 7) hx hb hts in_X2 hown hK hP 4 rfl rfl 3 (by decide) (hts _ (bg _ wd_60)) (fun _ h9 => h9) rfl dX2_copyFrom_47 ?_
  refine va_put (D := (dC, dI)) (ci := 6) (v := .int b3) (ty := .int) (C := RX2) (T := TX2) (N := 7) hx hb hts in_X2 tyX2 tyX2_ok nmX2 hown hK hP hD hS 0 rfl rfl 3 (by decide) (hts _ (bg _ wd_60)) (fun _ h9 => h9) rfl (by decide +kernel) rfl rfl (Nat.le_of_ble_eq_true rfl) dX2_copyFrom_50 (fun H locs hP hD hS => ?_)
  have hP : va_P (dC, dI) vwCl [(oa 0, .inr (6, [.ref (oa 1), .ref (oa 2), .ref (oa 3), .int b3, .int a4, .int a5, .int a6])), (oa 1, .inl (dA 0, 8, .inl b0)), (oa 2, .inl (dA 1, 8, .inl b1)), (oa 3, .inl (dA 1, 8, .inl b2)), (ob 0, .inr (6, [.ref (ob 1), .ref (ob 2), .ref (ob 3), .int b3, .int b4, .int b5, .int b6])), (ob 1, .inl (dA 0, 8, .inl b0)), (ob 2, .inl (dA 1, 8, .inl b1)), (ob 3, .inl (dA 1, 8, .inl b2))] H := hP
  have hD : va_D A [(oa 0, .inr (6, [.ref (oa 1), .ref (oa 2), .ref (oa 3), .int b3, .int a4, .int a5, .int a6])), (oa 1, .inl (dA 0, 8, .inl b0)), (oa 2, .inl (dA 1, 8, .inl b1)), (oa 3, .inl (dA 1, 8, .inl b2)), (ob 0, .inr (6, [.ref (ob 1), .ref (ob 2), .ref (ob 3), .int b3, .int b4, .int b5, .int b6])), (ob 1, .inl (dA 0, 8, .inl b0)), (ob 2, .inl (dA 1, 8, .inl b1)), (ob 3, .inl (dA 1, 8, .inl b2))] := hD
  refine lv_aload_n hx hb dX2_copyFrom_53 rfl (lv_at hl 0 rfl) ?_
  refine lv_aload_n hx hb dX2_copyFrom_54 rfl (lv_at hl 1 rfl) ?_
  refine va_get (D := (dC, dI)) (ci := 6) (v := .int b4) (C := RX2) (T := TX2) (N := 7) hx hb hts in_X2 hown hK hP 4 rfl rfl 4 (by decide) (hts _ (bg _ wd_63)) (fun _ h9 => h9) rfl dX2_copyFrom_55 ?_
  refine va_put (D := (dC, dI)) (ci := 6) (v := .int b4) (ty := .int) (C := RX2) (T := TX2) (N := 7) hx hb hts in_X2 tyX2 tyX2_ok nmX2 hown hK hP hD hS 0 rfl rfl 4 (by decide) (hts _ (bg _ wd_63)) (fun _ h9 => h9) rfl (by decide +kernel) rfl rfl (Nat.le_of_ble_eq_true rfl) dX2_copyFrom_58 (fun H locs hP hD hS => ?_)
  have hP : va_P (dC, dI) vwCl [(oa 0, .inr (6, [.ref (oa 1), .ref (oa 2), .ref (oa 3), .int b3, .int b4, .int a5, .int a6])), (oa 1, .inl (dA 0, 8, .inl b0)), (oa 2, .inl (dA 1, 8, .inl b1)), (oa 3, .inl (dA 1, 8, .inl b2)), (ob 0, .inr (6, [.ref (ob 1), .ref (ob 2), .ref (ob 3), .int b3, .int b4, .int b5, .int b6])), (ob 1, .inl (dA 0, 8, .inl b0)), (ob 2, .inl (dA 1, 8, .inl b1)), (ob 3, .inl (dA 1, 8, .inl b2))] H := hP
  have hD : va_D A [(oa 0, .inr (6, [.ref (oa 1), .ref (oa 2), .ref (oa 3), .int b3, .int b4, .int a5, .int a6])), (oa 1, .inl (dA 0, 8, .inl b0)), (oa 2, .inl (dA 1, 8, .inl b1)), (oa 3, .inl (dA 1, 8, .inl b2)), (ob 0, .inr (6, [.ref (ob 1), .ref (ob 2), .ref (ob 3), .int b3, .int b4, .int b5, .int b6])), (ob 1, .inl (dA 0, 8, .inl b0)), (ob 2, .inl (dA 1, 8, .inl b1)), (ob 3, .inl (dA 1, 8, .inl b2))] := hD
  refine lv_aload_n hx hb dX2_copyFrom_61 rfl (lv_at hl 0 rfl) ?_
  refine lv_aload_n hx hb dX2_copyFrom_62 rfl (lv_at hl 1 rfl) ?_
  refine va_get (D := (dC, dI)) (ci := 6) (v := .int b5) (C := RX2) (T := TX2) (N := 7) hx hb hts in_X2 hown hK hP 4 rfl rfl 5 (by decide) (hts _ (bg _ wd_66)) (fun _ h9 => h9) rfl dX2_copyFrom_63 ?_
  refine va_put (D := (dC, dI)) (ci := 6) (v := .int b5) (ty := .int) (C := RX2) (T := TX2) (N := 7) hx hb hts in_X2 tyX2 tyX2_ok nmX2 hown hK hP hD hS 0 rfl rfl 5 (by decide) (hts _ (bg _ wd_66)) (fun _ h9 => h9) rfl (by decide +kernel) rfl rfl (Nat.le_of_ble_eq_true rfl) dX2_copyFrom_66 (fun H locs hP hD hS => ?_)
  have hP : va_P (dC, dI) vwCl [(oa 0, .inr (6, [.ref (oa 1), .ref (oa 2), .ref (oa 3), .int b3, .int b4, .int b5, .int a6])), (oa 1, .inl (dA 0, 8, .inl b0)), (oa 2, .inl (dA 1, 8, .inl b1)), (oa 3, .inl (dA 1, 8, .inl b2)), (ob 0, .inr (6, [.ref (ob 1), .ref (ob 2), .ref (ob 3), .int b3, .int b4, .int b5, .int b6])), (ob 1, .inl (dA 0, 8, .inl b0)), (ob 2, .inl (dA 1, 8, .inl b1)), (ob 3, .inl (dA 1, 8, .inl b2))] H := hP
  have hD : va_D A [(oa 0, .inr (6, [.ref (oa 1), .ref (oa 2), .ref (oa 3), .int b3, .int b4, .int b5, .int a6])), (oa 1, .inl (dA 0, 8, .inl b0)), (oa 2, .inl (dA 1, 8, .inl b1)), (oa 3, .inl (dA 1, 8, .inl b2)), (ob 0, .inr (6, [.ref (ob 1), .ref (ob 2), .ref (ob 3), .int b3, .int b4, .int b5, .int b6])), (ob 1, .inl (dA 0, 8, .inl b0)), (ob 2, .inl (dA 1, 8, .inl b1)), (ob 3, .inl (dA 1, 8, .inl b2))] := hD
  refine lv_aload_n hx hb dX2_copyFrom_69 rfl (lv_at hl 0 rfl) ?_
  refine lv_aload_n hx hb dX2_copyFrom_70 rfl (lv_at hl 1 rfl) ?_
  refine va_get (D := (dC, dI)) (ci := 6) (v := .int b6) (C := RX2) (T := TX2) (N := 7) hx hb hts in_X2 hown hK hP 4 rfl rfl 6 (by decide) (hts _ (bg _ wd_68)) (fun _ h9 => h9) rfl dX2_copyFrom_71 ?_
  refine va_put (D := (dC, dI)) (ci := 6) (v := .int b6) (ty := .int) (C := RX2) (T := TX2) (N := 7) hx hb hts in_X2 tyX2 tyX2_ok nmX2 hown hK hP hD hS 0 rfl rfl 6 (by decide) (hts _ (bg _ wd_68)) (fun _ h9 => h9) rfl (by decide +kernel) rfl rfl (Nat.le_of_ble_eq_true rfl) dX2_copyFrom_74 (fun H locs hP hD hS => ?_)
  have hP : va_P (dC, dI) vwCl [(oa 0, .inr (6, [.ref (oa 1), .ref (oa 2), .ref (oa 3), .int b3, .int b4, .int b5, .int b6])), (oa 1, .inl (dA 0, 8, .inl b0)), (oa 2, .inl (dA 1, 8, .inl b1)), (oa 3, .inl (dA 1, 8, .inl b2)), (ob 0, .inr (6, [.ref (ob 1), .ref (ob 2), .ref (ob 3), .int b3, .int b4, .int b5, .int b6])), (ob 1, .inl (dA 0, 8, .inl b0)), (ob 2, .inl (dA 1, 8, .inl b1)), (ob 3, .inl (dA 1, 8, .inl b2))] H := hP
  have hD : va_D A [(oa 0, .inr (6, [.ref (oa 1), .ref (oa 2), .ref (oa 3), .int b3, .int b4, .int b5, .int b6])), (oa 1, .inl (dA 0, 8, .inl b0)), (oa 2, .inl (dA 1, 8, .inl b1)), (oa 3, .inl (dA 1, 8, .inl b2)), (ob 0, .inr (6, [.ref (ob 1), .ref (ob 2), .ref (ob 3), .int b3, .int b4, .int b5, .int b6])), (ob 1, .inl (dA 0, 8, .inl b0)), (ob 2, .inl (dA 1, 8, .inl b1)), (ob 3, .inl (dA 1, 8, .inl b2))] := hD
  have e9 := sm hf
  exact W.vret hx hb hr (fun t ht hW => ⟨⟨(), rfl, trivial, by rw [← e9, ht]; exact hP, by rw [← e9]; exact hD⟩, hS.F ht⟩) hS.2.2 dX2_copyFrom_77
