/-! X6_spelling -/
def f_X6_spelling (p0 : Int32) : Option (Nat) :=
  (if p0 = 0 then some 2 else
  (if p0 = 1 then some 3 else
  (if p0 = 2 then some 4 else
  (if p0 = 3 then some 5 else
  (if p0 = 4 then some 6 else
  (if p0 = 5 then some 7 else
  (if p0 = 6 then some 8 else
  (if p0 = 7 then some 9 else
  some 10))))))))
set_option maxRecDepth 100000 in
set_option maxHeartbeats 4000000 in
theorem m_X6_spelling (l : Launch) (dC : Nat → ClassId) (dI : Nat → Nat → Nat) (dA gz : Nat → Nat)  (sz : Nat) (p0 : Int32) (rr : Nat) (hf : f_X6_spelling p0 = some rr) : Met l yX6_spelling ws_X6_spelling ({ frames := 10, cells := 0, slots := 0, locals := 200 } : Room) (va_Pc [.int p0] (pP (dC, dI) dA gz ([]) sz)) (va_Qr (S := Unit) (fun _ => True) (fun _ r' t => r' = gz (2 * rr) ∧ pQ (dC, dI) (va_A ([]) sz) ([]) t) (va_A ([]) sz)) 0 0 (va_A ([]) sz) := by
  refine Met.ofW (cc := cX6_spelling) (maxL := 1) (ret := (some (.object "java/lang/String"))) (by decide) rfl ?_
  intro p e s m args below meth c s₁ B hml hv
  obtain ⟨rfl, hsz, hP, hK, hD0, hN, hZ⟩ := hv
  have hx := B.exec
  have hb := B.bytes
  have hr := B.returns
  have hts := atoms_spec (ws := ws_X6_spelling) B.pre
  have hown : s.vm.findClass RX6 = some m.cls := findClass_of_methodNamed B.named
  have hlocks := B.notSynchronized
  subst hsz
  have hD := hD0.self (sz := s.heap.size)
  generalize hAe : va_A ([]) s.heap.size = A at hD hZ ⊢
  have hA : ∀ q : Nat, s.heap.size ≤ q → A q := fun q h => by rw [← hAe]; exact Or.inr h
  have hS : va_S A s.heap s.heap [] := va_S.rf
  have hP : va_P (dC, dI) vwCl [] s.heap := hP
  have hD : va_D A [] := hD
  have hl := lv_entry [.int p0] (n := 1) (Nat.le_of_ble_eq_true rfl)
  rw [lg_entry_eq]
  generalize (lg_sl [.int p0] ++ List.replicate (1 - (lg_sl [.int p0]).length) Slot.unset).toArray = ls at hl ⊢
  have hl : lv_has ls 1 [(0, .int p0)] := hl
  rw [f_X6_spelling] at hf
  refine lv_iload_n hx hb dX6_spelling_0 rfl (lv_at hl 0 rfl) ?_
  by_cases q1 : p0 = 0
  · have hf := it q1 hf
    refine lv_tableIn (tgt := 48) hx hb dX6_spelling_1 (by rw [q1]; decide) (by rw [q1]; decide) (by rw [q1]; rfl) (by decide) ?_
    refine va_ldcS hx hb hown (hZ.1 2 (by decide)).1 dX6_spelling_48 ?_
    exact W.aret hx hb hr (Or.inl ⟨_, rfl⟩) (Or.inr ⟨_, rfl⟩) (fun t ht hW => ⟨⟨(), _, rfl, trivial, congrArg (fun z => gz (2 * z)) (sm hf), by rw [ht]; exact hP, hD⟩, hS.F ht⟩) hS.2.2 dX6_spelling_50
  have hf := ie q1 hf
  by_cases q2 : p0 = 1
  · have hf := it q2 hf
    refine lv_tableIn (tgt := 51) hx hb dX6_spelling_1 (by rw [q2]; decide) (by rw [q2]; decide) (by rw [q2]; rfl) (by decide) ?_
    refine va_ldcS hx hb hown (hZ.1 3 (by decide)).1 dX6_spelling_51 ?_
    exact W.aret hx hb hr (Or.inl ⟨_, rfl⟩) (Or.inr ⟨_, rfl⟩) (fun t ht hW => ⟨⟨(), _, rfl, trivial, congrArg (fun z => gz (2 * z)) (sm hf), by rw [ht]; exact hP, hD⟩, hS.F ht⟩) hS.2.2 dX6_spelling_53
  have hf := ie q2 hf
  by_cases q3 : p0 = 2
  · have hf := it q3 hf
    refine lv_tableIn (tgt := 54) hx hb dX6_spelling_1 (by rw [q3]; decide) (by rw [q3]; decide) (by rw [q3]; rfl) (by decide) ?_
    refine va_ldcS hx hb hown (hZ.1 4 (by decide)).1 dX6_spelling_54 ?_
    exact W.aret hx hb hr (Or.inl ⟨_, rfl⟩) (Or.inr ⟨_, rfl⟩) (fun t ht hW => ⟨⟨(), _, rfl, trivial, congrArg (fun z => gz (2 * z)) (sm hf), by rw [ht]; exact hP, hD⟩, hS.F ht⟩) hS.2.2 dX6_spelling_56
  have hf := ie q3 hf
  by_cases q4 : p0 = 3
  · have hf := it q4 hf
    refine lv_tableIn (tgt := 57) hx hb dX6_spelling_1 (by rw [q4]; decide) (by rw [q4]; decide) (by rw [q4]; rfl) (by decide) ?_
    refine va_ldcS hx hb hown (hZ.1 5 (by decide)).1 dX6_spelling_57 ?_
    exact W.aret hx hb hr (Or.inl ⟨_, rfl⟩) (Or.inr ⟨_, rfl⟩) (fun t ht hW => ⟨⟨(), _, rfl, trivial, congrArg (fun z => gz (2 * z)) (sm hf), by rw [ht]; exact hP, hD⟩, hS.F ht⟩) hS.2.2 dX6_spelling_59
  have hf := ie q4 hf
  by_cases q5 : p0 = 4
  · have hf := it q5 hf
    refine lv_tableIn (tgt := 60) hx hb dX6_spelling_1 (by rw [q5]; decide) (by rw [q5]; decide) (by rw [q5]; rfl) (by decide) ?_
    refine va_ldcS hx hb hown (hZ.1 6 (by decide)).1 dX6_spelling_60 ?_
    exact W.aret hx hb hr (Or.inl ⟨_, rfl⟩) (Or.inr ⟨_, rfl⟩) (fun t ht hW => ⟨⟨(), _, rfl, trivial, congrArg (fun z => gz (2 * z)) (sm hf), by rw [ht]; exact hP, hD⟩, hS.F ht⟩) hS.2.2 dX6_spelling_62
  have hf := ie q5 hf
  by_cases q6 : p0 = 5
  · have hf := it q6 hf
    refine lv_tableIn (tgt := 63) hx hb dX6_spelling_1 (by rw [q6]; decide) (by rw [q6]; decide) (by rw [q6]; rfl) (by decide) ?_
    refine va_ldcS hx hb hown (hZ.1 7 (by decide)).1 dX6_spelling_63 ?_
    exact W.aret hx hb hr (Or.inl ⟨_, rfl⟩) (Or.inr ⟨_, rfl⟩) (fun t ht hW => ⟨⟨(), _, rfl, trivial, congrArg (fun z => gz (2 * z)) (sm hf), by rw [ht]; exact hP, hD⟩, hS.F ht⟩) hS.2.2 dX6_spelling_65
  have hf := ie q6 hf
  by_cases q7 : p0 = 6
  · have hf := it q7 hf
    refine lv_tableIn (tgt := 66) hx hb dX6_spelling_1 (by rw [q7]; decide) (by rw [q7]; decide) (by rw [q7]; rfl) (by decide) ?_
    refine va_ldcS hx hb hown (hZ.1 8 (by decide)).1 dX6_spelling_66 ?_
    exact W.aret hx hb hr (Or.inl ⟨_, rfl⟩) (Or.inr ⟨_, rfl⟩) (fun t ht hW => ⟨⟨(), _, rfl, trivial, congrArg (fun z => gz (2 * z)) (sm hf), by rw [ht]; exact hP, hD⟩, hS.F ht⟩) hS.2.2 dX6_spelling_68
  have hf := ie q7 hf
  by_cases q8 : p0 = 7
  · have hf := it q8 hf
    refine lv_tableIn (tgt := 69) hx hb dX6_spelling_1 (by rw [q8]; decide) (by rw [q8]; decide) (by rw [q8]; rfl) (by decide) ?_
    refine va_ldcS hx hb hown (hZ.1 9 (by decide)).1 dX6_spelling_69 ?_
    exact W.aret hx hb hr (Or.inl ⟨_, rfl⟩) (Or.inr ⟨_, rfl⟩) (fun t ht hW => ⟨⟨(), _, rfl, trivial, congrArg (fun z => gz (2 * z)) (sm hf), by rw [ht]; exact hP, hD⟩, hS.F ht⟩) hS.2.2 dX6_spelling_71
  have hf := ie q8 hf
  refine lv_tableOut (tgt := 72) hx hb dX6_spelling_1 (by have := ti_ne (k := 0) q1 (by decide); have := ti_ne (k := 1) q2 (by decide); have := ti_ne (k := 2) q3 (by decide); have := ti_ne (k := 3) q4 (by decide); have := ti_ne (k := 4) q5 (by decide); have := ti_ne (k := 5) q6 (by decide); have := ti_ne (k := 6) q7 (by decide); have := ti_ne (k := 7) q8 (by decide); omega) (by decide) ?_
  refine va_ldcS hx hb hown (hZ.1 10 (by decide)).1 dX6_spelling_72 ?_
  exact W.aret hx hb hr (Or.inl ⟨_, rfl⟩) (Or.inr ⟨_, rfl⟩) (fun t ht hW => ⟨⟨(), _, rfl, trivial, congrArg (fun z => gz (2 * z)) (sm hf), by rw [ht]; exact hP, hD⟩, hS.F ht⟩) hS.2.2 dX6_spelling_74
/-! X6_isFull -/
def f_X6_isFull (a0 : Ar) (a1 : Int32) (a2 : Int32) (a3 : Ar) (a4 : Ar) (a5 : Ar) (a6 : Ar) (a7 : Int32) : Option (Int32) :=
  (if a1 < 60 then some 0 else
  some 1)
set_option maxRecDepth 100000 in
set_option maxHeartbeats 4000000 in
theorem m_X6_isFull (l : Launch) (dC : Nat → ClassId) (dI : Nat → Nat → Nat) (dA gz : Nat → Nat) (oa : Nat → Nat) (sz : Nat) (a0 : Ar) (a1 : Int32) (a2 : Int32) (a3 : Ar) (a4 : Ar) (a5 : Ar) (a6 : Ar) (a7 : Int32) (rr : Int32) (hf : f_X6_isFull a0 a1 a2 a3 a4 a5 a6 a7 = some rr) : Met l yX6_isFull ws_X6_isFull ({ frames := 10, cells := 0, slots := 0, locals := 200 } : Room) (va_Pc [.ref (oa 0)] (pP (dC, dI) dA gz (wX6 dA oa (a0, a1, a2, a3, a4, a5, a6, a7)) sz)) (va_Qi (S := Unit) (fun r' _ => r' = rr) (fun _ t => pQ (dC, dI) (va_A (wX6 dA oa (a0, a1, a2, a3, a4, a5, a6, a7)) sz) (wX6 dA oa (a0, a1, a2, a3, a4, a5, a6, a7)) t) (va_A (wX6 dA oa (a0, a1, a2, a3, a4, a5, a6, a7)) sz)) 0 0 (va_A (wX6 dA oa (a0, a1, a2, a3, a4, a5, a6, a7)) sz) := by
  refine Met.ofW (cc := cX6_isFull) (maxL := 1) (ret := (some .boolean)) (by decide) rfl ?_
  intro p e s m args below meth c s₁ B hml hv
  obtain ⟨rfl, hsz, hP, hK, hD0, hN, hZ⟩ := hv
  have hx := B.exec
  have hb := B.bytes
  have hr := B.returns
  have hts := atoms_spec (ws := ws_X6_isFull) B.pre
  have hown : s.vm.findClass RX6 = some m.cls := findClass_of_methodNamed B.named
  have hlocks := B.notSynchronized
  subst hsz
  have hD := hD0.self (sz := s.heap.size)
  generalize hAe : va_A (wX6 dA oa (a0, a1, a2, a3, a4, a5, a6, a7)) s.heap.size = A at hD hZ ⊢
  have hA : ∀ q : Nat, s.heap.size ≤ q → A q := fun q h => by rw [← hAe]; exact Or.inr h
  have hS : va_S A s.heap s.heap [] := va_S.rf
  have hP : va_P (dC, dI) vwCl [(oa 0, .inr (10, [.ref (oa 1), .int a1, .int a2, .ref (oa 2), .ref (oa 3), .ref (oa 4), .ref (oa 5), .int a7])), (oa 1, .inl (dA 0, 60, .inl a0)), (oa 2, .inl (dA 1, 13, .inl a3)), (oa 3, .inl (dA 0, 13, .inl a4)), (oa 4, .inl (dA 1, 13, .inl a5)), (oa 5, .inl (dA 1, 13, .inl a6))] s.heap := hP
  have hD : va_D A [(oa 0, .inr (10, [.ref (oa 1), .int a1, .int a2, .ref (oa 2), .ref (oa 3), .ref (oa 4), .ref (oa 5), .int a7])), (oa 1, .inl (dA 0, 60, .inl a0)), (oa 2, .inl (dA 1, 13, .inl a3)), (oa 3, .inl (dA 0, 13, .inl a4)), (oa 4, .inl (dA 1, 13, .inl a5)), (oa 5, .inl (dA 1, 13, .inl a6))] := hD
  have hl := lv_entry [.ref (oa 0)] (n := 1) (Nat.le_of_ble_eq_true rfl)
  rw [lg_entry_eq]
  generalize (lg_sl [.ref (oa 0)] ++ List.replicate (1 - (lg_sl [.ref (oa 0)]).length) Slot.unset).toArray = ls at hl ⊢
  have hl : lv_has ls 1 [(0, .ref (oa 0))] := hl
  have in_X6 : ∀ w ∈ wsX60, w ∈ ws_X6_isFull := fun w h => bg _ (inB_X6 w h)
  rw [f_X6_isFull] at hf
  refine lv_aload_n hx hb dX6_isFull_0 rfl (lv_at hl 0 rfl) ?_
  refine va_get (D := (dC, dI)) (ci := 10) (v := .int a1) (C := RX6) (T := TX6) (N := 8) hx hb hts in_X6 hown hK hP 0 rfl rfl 1 (by decide) (hts _ (bg _ wd_210)) (fun _ h9 => h9) rfl dX6_isFull_1 ?_
  refine lv_bipush (v := 60) hx hb dX6_isFull_4 (by decide) ?_
  refine lv_icmp_lt (tgt := 13) hx hb dX6_isFull_6 (by decide) (fun q1 => ?_) (fun q1 => ?_)
  · have hf := it q1 hf
    refine lv_iconst (v := 0) hx hb dX6_isFull_13 (by decide) ?_
    exact W.zret hx hb hr rfl (fun t ht hW => ⟨⟨_, (), rfl, sm hf, by rw [ht]; exact hP, hD⟩, hS.F ht⟩) hS.2.2 dX6_isFull_14
  · have hf := ie q1 hf
    refine lv_iconst (v := 1) hx hb dX6_isFull_9 (by decide) ?_
    refine lv_goto (tgt := 14) hx hb dX6_isFull_10 (by decide) ?_
    exact W.zret hx hb hr rfl (fun t ht hW => ⟨⟨_, (), rfl, sm hf, by rw [ht]; exact hP, hD⟩, hS.F ht⟩) hS.2.2 dX6_isFull_14
/-! X6_append -/
def f_X6_append (a0 : Ar) (a1 : Int32) (a2 : Int32) (a3 : Ar) (a4 : Ar) (a5 : Ar) (a6 : Ar) (a7 : Int32) (p1 : Int32) : Option (SX6) :=
  (f_X6_isFull a0 a1 a2 a3 a4 a5 a6 a7).bind fun r2 =>
  (if r2 = 0 then if a1 < 0 ∨ 60 ≤ a1.toNatClampNeg then none else
  some ((upd a0 a1.toNatClampNeg (vp_nar .char p1)), (a1 + 1), a2, a3, a4, a5, a6, a7) else
  some (a0, a1, a2, a3, a4, a5, a6, a7))
set_option maxRecDepth 100000 in
set_option maxHeartbeats 4000000 in
theorem m_X6_append (l : Launch) (dC : Nat → ClassId) (dI : Nat → Nat → Nat) (dA gz : Nat → Nat) (oa : Nat → Nat) (sz : Nat) (a0 : Ar) (a1 : Int32) (a2 : Int32) (a3 : Ar) (a4 : Ar) (a5 : Ar) (a6 : Ar) (a7 : Int32) (p1 : Int32) (uu : SX6) (hf : f_X6_append a0 a1 a2 a3 a4 a5 a6 a7 p1 = some uu) : Met l yX6_append ws_X6_append ({ frames := 14, cells := 0, slots := 0, locals := 400 } : Room) (va_Pc [.ref (oa 0), .int p1] (pP (dC, dI) dA gz (wX6 dA oa (a0, a1, a2, a3, a4, a5, a6, a7)) sz)) (va_Qv (S := Unit) (fun _ => True) (fun _ t => pQ (dC, dI) (va_A (wX6 dA oa (a0, a1, a2, a3, a4, a5, a6, a7)) sz) (wX6 dA oa uu) t) (va_A (wX6 dA oa (a0, a1, a2, a3, a4, a5, a6, a7)) sz)) 0 0 (va_A (wX6 dA oa (a0, a1, a2, a3, a4, a5, a6, a7)) sz) := by
  refine Met.ofW (cc := cX6_append) (maxL := 2) (ret := none) (by decide) rfl ?_
  intro p e s m args below meth c s₁ B hml hv
  obtain ⟨rfl, hsz, hP, hK, hD0, hN, hZ⟩ := hv
  have hx := B.exec
  have hb := B.bytes
  have hr := B.returns
  have hts := atoms_spec (ws := ws_X6_append) B.pre
  have hown : s.vm.findClass RX6 = some m.cls := findClass_of_methodNamed B.named
  have hlocks := B.notSynchronized
  subst hsz
  have hD := hD0.self (sz := s.heap.size)
  generalize hAe : va_A (wX6 dA oa (a0, a1, a2, a3, a4, a5, a6, a7)) s.heap.size = A at hD hZ ⊢
  have hA : ∀ q : Nat, s.heap.size ≤ q → A q := fun q h => by rw [← hAe]; exact Or.inr h
  have hS : va_S A s.heap s.heap [] := va_S.rf
  have hP : va_P (dC, dI) vwCl [(oa 0, .inr (10, [.ref (oa 1), .int a1, .int a2, .ref (oa 2), .ref (oa 3), .ref (oa 4), .ref (oa 5), .int a7])), (oa 1, .inl (dA 0, 60, .inl a0)), (oa 2, .inl (dA 1, 13, .inl a3)), (oa 3, .inl (dA 0, 13, .inl a4)), (oa 4, .inl (dA 1, 13, .inl a5)), (oa 5, .inl (dA 1, 13, .inl a6))] s.heap := hP
  have hD : va_D A [(oa 0, .inr (10, [.ref (oa 1), .int a1, .int a2, .ref (oa 2), .ref (oa 3), .ref (oa 4), .ref (oa 5), .int a7])), (oa 1, .inl (dA 0, 60, .inl a0)), (oa 2, .inl (dA 1, 13, .inl a3)), (oa 3, .inl (dA 0, 13, .inl a4)), (oa 4, .inl (dA 1, 13, .inl a5)), (oa 5, .inl (dA 1, 13, .inl a6))] := hD
  have hl := lv_entry [.ref (oa 0), .int p1] (n := 2) (Nat.le_of_ble_eq_true rfl)
  rw [lg_entry_eq]
  generalize (lg_sl [.ref (oa 0), .int p1] ++ List.replicate (2 - (lg_sl [.ref (oa 0), .int p1]).length) Slot.unset).toArray = ls at hl ⊢
  have hl : lv_has ls 2 [(0, .ref (oa 0)), (1, .int p1)] := hl
  have in_X6 : ∀ w ∈ wsX60, w ∈ ws_X6_append := fun w h => bg _ (inB_X6 w h)
  rw [f_X6_append] at hf
  refine lv_aload_n hx hb dX6_append_0 rfl (lv_at hl 0 rfl) ?_
  obtain ⟨r2, e1, hf⟩ := bd hf
  refine jr_i (va_runV (As := []) (rest := []) ⟨hx, hb, hml, hown, hts⟩ (m_X6_isFull l dC dI dA gz oa s.heap.size a0 a1 a2 a3 a4 a5 a6 a7 r2 e1) (cwV 0 hts (gi_v bg wd_892 wd_884 wd_885 wd_8 wd_886) rfl rfl rfl hd_X6_isFull ⟨Nat.le_of_ble_eq_true rfl, Nat.le_of_ble_eq_true rfl⟩) ⟨pP_blind, va_recv (ci := 10) (q0 := 0) hK hP rfl rfl, pP_pre hP hD hS hA hK hN hZ [0, 1, 2, 3, 4, 5] (by decide) rfl⟩ rfl rfl hl.1 rfl (lv_room (Nat.le_of_ble_eq_true rfl)) dX6_append_1 ⟨Nat.le_of_ble_eq_true rfl, Nat.le_of_ble_eq_true rfl⟩) hP hD hS hA [0, 1, 2, 3, 4, 5] rfl (fun H locs hP hS => ?_)
  refine lv_if_ne (tgt := 27) hx hb dX6_append_4 (by decide) (fun q3 => ?_) (fun q3 => ?_)
  · have hf := ie q3 hf
    have e9 := sm hf
    exact W.vret hx hb hr (fun t ht hW => ⟨⟨(), rfl, trivial, by rw [← e9, ht]; exact hP, by rw [← e9]; exact hD⟩, hS.F ht⟩) hS.2.2 dX6_append_27
  · have hf := it q3 hf
    refine lv_aload_n hx hb dX6_append_7 rfl (lv_at hl 0 rfl) ?_
    refine va_get (D := (dC, dI)) (ci := 10) (v := .ref (oa 1)) (C := RX6) (T := TX6) (N := 8) hx hb hts in_X6 hown hK hP 0 rfl rfl 0 (by decide) (hts _ (bg _ wd_209)) (fun _ h9 => h9) rfl dX6_append_8 ?_
    refine lv_aload_n hx hb dX6_append_11 rfl (lv_at hl 0 rfl) ?_
    refine va_get (D := (dC, dI)) (ci := 10) (v := .int a1) (C := RX6) (T := TX6) (N := 8) hx hb hts in_X6 hown hK hP 0 rfl rfl 1 (by decide) (hts _ (bg _ wd_210)) (fun _ h9 => h9) rfl dX6_append_12 ?_
    refine lv_iload_n hx hb dX6_append_15 rfl (lv_at hl 1 rfl) ?_
    obtain ⟨z4, hf⟩ := gd hf
    refine va_cast hx hb hK hP hD hS 1 0 rfl rfl z4 dX6_append_16 (fun H locs hP hD hS => ?_)
    have hP : va_P (dC, dI) vwCl [(oa 0, .inr (10, [.ref (oa 1), .int a1, .int a2, .ref (oa 2), .ref (oa 3), .ref (oa 4), .ref (oa 5), .int a7])), (oa 1, .inl (dA 0, 60, .inl (upd a0 a1.toNatClampNeg (vp_nar .char p1)))), (oa 2, .inl (dA 1, 13, .inl a3)), (oa 3, .inl (dA 0, 13, .inl a4)), (oa 4, .inl (dA 1, 13, .inl a5)), (oa 5, .inl (dA 1, 13, .inl a6))] H := hP
    have hD : va_D A [(oa 0, .inr (10, [.ref (oa 1), .int a1, .int a2, .ref (oa 2), .ref (oa 3), .ref (oa 4), .ref (oa 5), .int a7])), (oa 1, .inl (dA 0, 60, .inl (upd a0 a1.toNatClampNeg (vp_nar .char p1)))), (oa 2, .inl (dA 1, 13, .inl a3)), (oa 3, .inl (dA 0, 13, .inl a4)), (oa 4, .inl (dA 1, 13, .inl a5)), (oa 5, .inl (dA 1, 13, .inl a6))] := hD
    refine lv_aload_n hx hb dX6_append_17 rfl (lv_at hl 0 rfl) ?_
    refine lv_dup hx hb dX6_append_18 rfl ?_
    refine va_get (D := (dC, dI)) (ci := 10) (v := .int a1) (C := RX6) (T := TX6) (N := 8) hx hb hts in_X6 hown hK hP 0 rfl rfl 1 (by decide) (hts _ (bg _ wd_210)) (fun _ h9 => h9) rfl dX6_append_19 ?_
    refine lv_iconst (v := 1) hx hb dX6_append_22 (by decide) ?_
    refine lv_iadd hx hb dX6_append_23 ?_
    refine va_put (D := (dC, dI)) (ci := 10) (v := .int (a1 + 1)) (ty := .int) (C := RX6) (T := TX6) (N := 8) hx hb hts in_X6 tyX6 tyX6_ok nmX6 hown hK hP hD hS 0 rfl rfl 1 (by decide) (hts _ (bg _ wd_210)) (fun _ h9 => h9) rfl (by decide +kernel) rfl rfl (Nat.le_of_ble_eq_true rfl) dX6_append_24 (fun H locs hP hD hS => ?_)
    have hP : va_P (dC, dI) vwCl [(oa 0, .inr (10, [.ref (oa 1), .int (a1 + 1), .int a2, .ref (oa 2), .ref (oa 3), .ref (oa 4), .ref (oa 5), .int a7])), (oa 1, .inl (dA 0, 60, .inl (upd a0 a1.toNatClampNeg (vp_nar .char p1)))), (oa 2, .inl (dA 1, 13, .inl a3)), (oa 3, .inl (dA 0, 13, .inl a4)), (oa 4, .inl (dA 1, 13, .inl a5)), (oa 5, .inl (dA 1, 13, .inl a6))] H := hP
    have hD : va_D A [(oa 0, .inr (10, [.ref (oa 1), .int (a1 + 1), .int a2, .ref (oa 2), .ref (oa 3), .ref (oa 4), .ref (oa 5), .int a7])), (oa 1, .inl (dA 0, 60, .inl (upd a0 a1.toNatClampNeg (vp_nar .char p1)))), (oa 2, .inl (dA 1, 13, .inl a3)), (oa 3, .inl (dA 0, 13, .inl a4)), (oa 4, .inl (dA 1, 13, .inl a5)), (oa 5, .inl (dA 1, 13, .inl a6))] := hD
    have e9 := sm hf
    exact W.vret hx hb hr (fun t ht hW => ⟨⟨(), rfl, trivial, by rw [← e9, ht]; exact hP, by rw [← e9]; exact hD⟩, hS.F ht⟩) hS.2.2 dX6_append_27
/-! X6_clear -/
def f_X6_clear (a0 : Ar) (a1 : Int32) (a2 : Int32) (a3 : Ar) (a4 : Ar) (a5 : Ar) (a6 : Ar) (a7 : Int32) : Option (SX6) :=
  some (a0, 0, a2, a3, a4, a5, a6, a7)
set_option maxRecDepth 100000 in
set_option maxHeartbeats 4000000 in
theorem m_X6_clear (l : Launch) (dC : Nat → ClassId) (dI : Nat → Nat → Nat) (dA gz : Nat → Nat) (oa : Nat → Nat) (sz : Nat) (a0 : Ar) (a1 : Int32) (a2 : Int32) (a3 : Ar) (a4 : Ar) (a5 : Ar) (a6 : Ar) (a7 : Int32) (uu : SX6) (hf : f_X6_clear a0 a1 a2 a3 a4 a5 a6 a7 = some uu) : Met l yX6_clear ws_X6_clear ({ frames := 10, cells := 0, slots := 0, locals := 200 } : Room) (va_Pc [.ref (oa 0)] (pP (dC, dI) dA gz (wX6 dA oa (a0, a1, a2, a3, a4, a5, a6, a7)) sz)) (va_Qv (S := Unit) (fun _ => True) (fun _ t => pQ (dC, dI) (va_A (wX6 dA oa (a0, a1, a2, a3, a4, a5, a6, a7)) sz) (wX6 dA oa uu) t) (va_A (wX6 dA oa (a0, a1, a2, a3, a4, a5, a6, a7)) sz)) 0 0 (va_A (wX6 dA oa (a0, a1, a2, a3, a4, a5, a6, a7)) sz) := by
  refine Met.ofW (cc := cX6_clear) (maxL := 1) (ret := none) (by decide) rfl ?_
  intro p e s m args below meth c s₁ B hml hv
  obtain ⟨rfl, hsz, hP, hK, hD0, hN, hZ⟩ := hv
  have hx := B.exec
  have hb := B.bytes
  have hr := B.returns
  have hts := atoms_spec (ws := ws_X6_clear) B.pre
  have hown : s.vm.findClass RX6 = some m.cls := findClass_of_methodNamed B.named
  have hlocks := B.notSynchronized
  subst hsz
  have hD := hD0.self (sz := s.heap.size)
  generalize hAe : va_A (wX6 dA oa (a0, a1, a2, a3, a4, a5, a6, a7)) s.heap.size = A at hD hZ ⊢
  have hA : ∀ q : Nat, s.heap.size ≤ q → A q := fun q h => by rw [← hAe]; exact Or.inr h
  have hS : va_S A s.heap s.heap [] := va_S.rf
  have hP : va_P (dC, dI) vwCl [(oa 0, .inr (10, [.ref (oa 1), .int a1, .int a2, .ref (oa 2), .ref (oa 3), .ref (oa 4), .ref (oa 5), .int a7])), (oa 1, .inl (dA 0, 60, .inl a0)), (oa 2, .inl (dA 1, 13, .inl a3)), (oa 3, .inl (dA 0, 13, .inl a4)), (oa 4, .inl (dA 1, 13, .inl a5)), (oa 5, .inl (dA 1, 13, .inl a6))] s.heap := hP
  have hD : va_D A [(oa 0, .inr (10, [.ref (oa 1), .int a1, .int a2, .ref (oa 2), .ref (oa 3), .ref (oa 4), .ref (oa 5), .int a7])), (oa 1, .inl (dA 0, 60, .inl a0)), (oa 2, .inl (dA 1, 13, .inl a3)), (oa 3, .inl (dA 0, 13, .inl a4)), (oa 4, .inl (dA 1, 13, .inl a5)), (oa 5, .inl (dA 1, 13, .inl a6))] := hD
  have hl := lv_entry [.ref (oa 0)] (n := 1) (Nat.le_of_ble_eq_true rfl)
  rw [lg_entry_eq]
  generalize (lg_sl [.ref (oa 0)] ++ List.replicate (1 - (lg_sl [.ref (oa 0)]).length) Slot.unset).toArray = ls at hl ⊢
  have hl : lv_has ls 1 [(0, .ref (oa 0))] := hl
  have in_X6 : ∀ w ∈ wsX60, w ∈ ws_X6_clear := fun w h => bg _ (inB_X6 w h)
  rw [f_X6_clear] at hf
  refine lv_aload_n hx hb dX6_clear_0 rfl (lv_at hl 0 rfl) ?_
  refine lv_iconst (v := 0) hx hb dX6_clear_1 (by decide) ?_
  refine va_put (D := (dC, dI)) (ci := 10) (v := .int 0) (ty := .int) (C := RX6) (T := TX6) (N := 8) hx hb hts in_X6 tyX6 tyX6_ok nmX6 hown hK hP hD hS 0 rfl rfl 1 (by decide) (hts _ (bg _ wd_210)) (fun _ h9 => h9) rfl (by decide +kernel) rfl rfl (Nat.le_of_ble_eq_true rfl) dX6_clear_2 (fun H locs hP hD hS => ?_)
  have hP : va_P (dC, dI) vwCl [(oa 0, .inr (10, [.ref (oa 1), .int 0, .int a2, .ref (oa 2), .ref (oa 3), .ref (oa 4), .ref (oa 5), .int a7])), (oa 1, .inl (dA 0, 60, .inl a0)), (oa 2, .inl (dA 1, 13, .inl a3)), (oa 3, .inl (dA 0, 13, .inl a4)), (oa 4, .inl (dA 1, 13, .inl a5)), (oa 5, .inl (dA 1, 13, .inl a6))] H := hP
  have hD : va_D A [(oa 0, .inr (10, [.ref (oa 1), .int 0, .int a2, .ref (oa 2), .ref (oa 3), .ref (oa 4), .ref (oa 5), .int a7])), (oa 1, .inl (dA 0, 60, .inl a0)), (oa 2, .inl (dA 1, 13, .inl a3)), (oa 3, .inl (dA 0, 13, .inl a4)), (oa 4, .inl (dA 1, 13, .inl a5)), (oa 5, .inl (dA 1, 13, .inl a6))] := hD
  have e9 := sm hf
  exact W.vret hx hb hr (fun t ht hW => ⟨⟨(), rfl, trivial, by rw [← e9, ht]; exact hP, by rw [← e9]; exact hD⟩, hS.F ht⟩) hS.2.2 dX6_clear_5
/-! X6_readSign -/
def f_X6_readSign (a0 : Ar) (a1 : Int32) (a2 : Int32) (a3 : Ar) (a4 : Ar) (a5 : Ar) (a6 : Ar) (a7 : Int32) (p1 : Int32) : Option (Int32 × SX6) :=
  (if a1 ≤ a2 then some (0, (a0, a1, a2, a3, a4, a5, a6, a7)) else
  if a2 < 0 ∨ 60 ≤ a2.toNatClampNeg then none else
  (if (a0 a2.toNatClampNeg) = p1 then some (1, (a0, a1, (a2 + 1), a3, a4, a5, a6, a7)) else
  some (0, (a0, a1, a2, a3, a4, a5, a6, a7))))
set_option maxRecDepth 100000 in
set_option maxHeartbeats 4000000 in
theorem m_X6_readSign (l : Launch) (dC : Nat → ClassId) (dI : Nat → Nat → Nat) (dA gz : Nat → Nat) (oa : Nat → Nat) (sz : Nat) (a0 : Ar) (a1 : Int32) (a2 : Int32) (a3 : Ar) (a4 : Ar) (a5 : Ar) (a6 : Ar) (a7 : Int32) (p1 : Int32) (rr : Int32) (uu : SX6) (hf : f_X6_readSign a0 a1 a2 a3 a4 a5 a6 a7 p1 = some (rr, uu)) : Met l yX6_readSign ws_X6_readSign ({ frames := 10, cells := 0, slots := 0, locals := 200 } : Room) (va_Pc [.ref (oa 0), .int p1] (pP (dC, dI) dA gz (wX6 dA oa (a0, a1, a2, a3, a4, a5, a6, a7)) sz)) (va_Qi (S := Unit) (fun r' _ => r' = rr) (fun _ t => pQ (dC, dI) (va_A (wX6 dA oa (a0, a1, a2, a3, a4, a5, a6, a7)) sz) (wX6 dA oa uu) t) (va_A (wX6 dA oa (a0, a1, a2, a3, a4, a5, a6, a7)) sz)) 0 0 (va_A (wX6 dA oa (a0, a1, a2, a3, a4, a5, a6, a7)) sz) := by
  refine Met.ofW (cc := cX6_readSign) (maxL := 2) (ret := (some .boolean)) (by decide) rfl ?_
  intro p e s m args below meth c s₁ B hml hv
  obtain ⟨rfl, hsz, hP, hK, hD0, hN, hZ⟩ := hv
  have hx := B.exec
  have hb := B.bytes
  have hr := B.returns
  have hts := atoms_spec (ws := ws_X6_readSign) B.pre
  have hown : s.vm.findClass RX6 = some m.cls := findClass_of_methodNamed B.named
  have hlocks := B.notSynchronized
  subst hsz
  have hD := hD0.self (sz := s.heap.size)
  generalize hAe : va_A (wX6 dA oa (a0, a1, a2, a3, a4, a5, a6, a7)) s.heap.size = A at hD hZ ⊢
  have hA : ∀ q : Nat, s.heap.size ≤ q → A q := fun q h => by rw [← hAe]; exact Or.inr h
  have hS : va_S A s.heap s.heap [] := va_S.rf
  have hP : va_P (dC, dI) vwCl [(oa 0, .inr (10, [.ref (oa 1), .int a1, .int a2, .ref (oa 2), .ref (oa 3), .ref (oa 4), .ref (oa 5), .int a7])), (oa 1, .inl (dA 0, 60, .inl a0)), (oa 2, .inl (dA 1, 13, .inl a3)), (oa 3, .inl (dA 0, 13, .inl a4)), (oa 4, .inl (dA 1, 13, .inl a5)), (oa 5, .inl (dA 1, 13, .inl a6))] s.heap := hP
  have hD : va_D A [(oa 0, .inr (10, [.ref (oa 1), .int a1, .int a2, .ref (oa 2), .ref (oa 3), .ref (oa 4), .ref (oa 5), .int a7])), (oa 1, .inl (dA 0, 60, .inl a0)), (oa 2, .inl (dA 1, 13, .inl a3)), (oa 3, .inl (dA 0, 13, .inl a4)), (oa 4, .inl (dA 1, 13, .inl a5)), (oa 5, .inl (dA 1, 13, .inl a6))] := hD
  have hl := lv_entry [.ref (oa 0), .int p1] (n := 2) (Nat.le_of_ble_eq_true rfl)
  rw [lg_entry_eq]
  generalize (lg_sl [.ref (oa 0), .int p1] ++ List.replicate (2 - (lg_sl [.ref (oa 0), .int p1]).length) Slot.unset).toArray = ls at hl ⊢
  have hl : lv_has ls 2 [(0, .ref (oa 0)), (1, .int p1)] := hl
  have in_X6 : ∀ w ∈ wsX60, w ∈ ws_X6_readSign := fun w h => bg _ (inB_X6 w h)
  rw [f_X6_readSign] at hf
  refine lv_aload_n hx hb dX6_readSign_0 rfl (lv_at hl 0 rfl) ?_
  refine va_get (D := (dC, dI)) (ci := 10) (v := .int a2) (C := RX6) (T := TX6) (N := 8) hx hb hts in_X6 hown hK hP 0 rfl rfl 2 (by decide) (hts _ (bg _ wd_212)) (fun _ h9 => h9) rfl dX6_readSign_1 ?_
  refine lv_aload_n hx hb dX6_readSign_4 rfl (lv_at hl 0 rfl) ?_
  refine va_get (D := (dC, dI)) (ci := 10) (v := .int a1) (C := RX6) (T := TX6) (N := 8) hx hb hts in_X6 hown hK hP 0 rfl rfl 1 (by decide) (hts _ (bg _ wd_210)) (fun _ h9 => h9) rfl dX6_readSign_5 ?_
  refine lv_icmp_ge (tgt := 36) hx hb dX6_readSign_8 (by decide) (fun q1 => ?_) (fun q1 => ?_)
  · have hf := it q1 hf
    refine lv_iconst (v := 0) hx hb dX6_readSign_36 (by decide) ?_
    obtain ⟨e8, e9⟩ := Prod.mk.inj (sm hf)
    exact W.zret hx hb hr rfl (fun t ht hW => ⟨⟨_, (), rfl, e8, by rw [← e9, ht]; exact hP, by rw [← e9]; exact hD⟩, hS.F ht⟩) hS.2.2 dX6_readSign_37
  · have hf := ie q1 hf
    refine lv_aload_n hx hb dX6_readSign_11 rfl (lv_at hl 0 rfl) ?_
    refine va_get (D := (dC, dI)) (ci := 10) (v := .ref (oa 1)) (C := RX6) (T := TX6) (N := 8) hx hb hts in_X6 hown hK hP 0 rfl rfl 0 (by decide) (hts _ (bg _ wd_209)) (fun _ h9 => h9) rfl dX6_readSign_12 ?_
    refine lv_aload_n hx hb dX6_readSign_15 rfl (lv_at hl 0 rfl) ?_
    refine va_get (D := (dC, dI)) (ci := 10) (v := .int a2) (C := RX6) (T := TX6) (N := 8) hx hb hts in_X6 hown hK hP 0 rfl rfl 2 (by decide) (hts _ (bg _ wd_212)) (fun _ h9 => h9) rfl dX6_readSign_16 ?_
    obtain ⟨z2, hf⟩ := gd hf
    refine va_cald hx hb hK hP 1 0 rfl rfl z2 dX6_readSign_19 ?_
    refine lv_iload_n hx hb dX6_readSign_20 rfl (lv_at hl 1 rfl) ?_
    refine lv_icmp_ne (tgt := 36) hx hb dX6_readSign_21 (by decide) (fun q3 => ?_) (fun q3 => ?_)
    · have hf := ie q3 hf
      refine lv_iconst (v := 0) hx hb dX6_readSign_36 (by decide) ?_
      obtain ⟨e8, e9⟩ := Prod.mk.inj (sm hf)
      exact W.zret hx hb hr rfl (fun t ht hW => ⟨⟨_, (), rfl, e8, by rw [← e9, ht]; exact hP, by rw [← e9]; exact hD⟩, hS.F ht⟩) hS.2.2 dX6_readSign_37
    · have hf := it q3 hf
      refine lv_aload_n hx hb dX6_readSign_24 rfl (lv_at hl 0 rfl) ?_
      refine lv_dup hx hb dX6_readSign_25 rfl ?_
      refine va_get (D := (dC, dI)) (ci := 10) (v := .int a2) (C := RX6) (T := TX6) (N := 8) hx hb hts in_X6 hown hK hP 0 rfl rfl 2 (by decide) (hts _ (bg _ wd_212)) (fun _ h9 => h9) rfl dX6_readSign_26 ?_
      refine lv_iconst (v := 1) hx hb dX6_readSign_29 (by decide) ?_
      refine lv_iadd hx hb dX6_readSign_30 ?_
      refine va_put (D := (dC, dI)) (ci := 10) (v := .int (a2 + 1)) (ty := .int) (C := RX6) (T := TX6) (N := 8) hx hb hts in_X6 tyX6 tyX6_ok nmX6 hown hK hP hD hS 0 rfl rfl 2 (by decide) (hts _ (bg _ wd_212)) (fun _ h9 => h9) rfl (by decide +kernel) rfl rfl (Nat.le_of_ble_eq_true rfl) dX6_readSign_31 (fun H locs hP hD hS => ?_)
      have hP : va_P (dC, dI) vwCl [(oa 0, .inr (10, [.ref (oa 1), .int a1, .int (a2 + 1), .ref (oa 2), .ref (oa 3), .ref (oa 4), .ref (oa 5), .int a7])), (oa 1, .inl (dA 0, 60, .inl a0)), (oa 2, .inl (dA 1, 13, .inl a3)), (oa 3, .inl (dA 0, 13, .inl a4)), (oa 4, .inl (dA 1, 13, .inl a5)), (oa 5, .inl (dA 1, 13, .inl a6))] H := hP
      have hD : va_D A [(oa 0, .inr (10, [.ref (oa 1), .int a1, .int (a2 + 1), .ref (oa 2), .ref (oa 3), .ref (oa 4), .ref (oa 5), .int a7])), (oa 1, .inl (dA 0, 60, .inl a0)), (oa 2, .inl (dA 1, 13, .inl a3)), (oa 3, .inl (dA 0, 13, .inl a4)), (oa 4, .inl (dA 1, 13, .inl a5)), (oa 5, .inl (dA 1, 13, .inl a6))] := hD
      refine lv_iconst (v := 1) hx hb dX6_readSign_34 (by decide) ?_
      obtain ⟨e8, e9⟩ := Prod.mk.inj (sm hf)
      exact W.zret hx hb hr rfl (fun t ht hW => ⟨⟨_, (), rfl, e8, by rw [← e9, ht]; exact hP, by rw [← e9]; exact hD⟩, hS.F ht⟩) hS.2.2 dX6_readSign_35
/-! X6_isDigit -/
def f_X6_isDigit (p0 : Int32) : Option (Int32) :=
  (if p0 < 48 then some 0 else
  (if 57 < p0 then some 0 else
  some 1))
set_option maxRecDepth 100000 in
set_option maxHeartbeats 4000000 in
theorem m_X6_isDigit (l : Launch) (dC : Nat → ClassId) (dI : Nat → Nat → Nat) (dA gz : Nat → Nat)  (sz : Nat) (p0 : Int32) (rr : Int32) (hf : f_X6_isDigit p0 = some rr) : Met l yX6_isDigit ws_X6_isDigit ({ frames := 10, cells := 0, slots := 0, locals := 200 } : Room) (va_Pc [.int p0] (pP (dC, dI) dA gz ([]) sz)) (va_Qi (S := Unit) (fun r' _ => r' = rr) (fun _ t => pQ (dC, dI) (va_A ([]) sz) ([]) t) (va_A ([]) sz)) 0 0 (va_A ([]) sz) := by
  refine Met.ofW (cc := cX6_isDigit) (maxL := 1) (ret := (some .boolean)) (by decide) rfl ?_
  intro p e s m args below meth c s₁ B hml hv
  obtain ⟨rfl, hsz, hP, hK, hD0, hN, hZ⟩ := hv
  have hx := B.exec
  have hb := B.bytes
  have hr := B.returns
  have hts := atoms_spec (ws := ws_X6_isDigit) B.pre
  have hown : s.vm.findClass RX6 = some m.cls := findClass_of_methodNamed B.named
  have hlocks := B.notSynchronized
  subst hsz
  have hD := hD0.self (sz := s.heap.size)
  generalize hAe : va_A ([]) s.heap.size = A at hD hZ ⊢
  have hA : ∀ q : Nat, s.heap.size ≤ q → A q := fun q h => by rw [← hAe]; exact Or.inr h
  have hS : va_S A s.heap s.heap [] := va_S.rf
  have hP : va_P (dC, dI) vwCl [] s.heap := hP
  have hD : va_D A [] := hD
  have hl := lv_entry [.int p0] (n := 1) (Nat.le_of_ble_eq_true rfl)
  rw [lg_entry_eq]
  generalize (lg_sl [.int p0] ++ List.replicate (1 - (lg_sl [.int p0]).length) Slot.unset).toArray = ls at hl ⊢
  have hl : lv_has ls 1 [(0, .int p0)] := hl
  rw [f_X6_isDigit] at hf
  refine lv_iload_n hx hb dX6_isDigit_0 rfl (lv_at hl 0 rfl) ?_
  refine lv_bipush (v := 48) hx hb dX6_isDigit_1 (by decide) ?_
  refine lv_icmp_lt (tgt := 16) hx hb dX6_isDigit_3 (by decide) (fun q1 => ?_) (fun q1 => ?_)
  · have hf := it q1 hf
    refine lv_iconst (v := 0) hx hb dX6_isDigit_16 (by decide) ?_
    exact W.zret hx hb hr rfl (fun t ht hW => ⟨⟨_, (), rfl, sm hf, by rw [ht]; exact hP, hD⟩, hS.F ht⟩) hS.2.2 dX6_isDigit_17
  · have hf := ie q1 hf
    refine lv_iload_n hx hb dX6_isDigit_6 rfl (lv_at hl 0 rfl) ?_
    refine lv_bipush (v := 57) hx hb dX6_isDigit_7 (by decide) ?_
    refine lv_icmp_gt (tgt := 16) hx hb dX6_isDigit_9 (by decide) (fun q2 => ?_) (fun q2 => ?_)
    · have hf := it q2 hf
      refine lv_iconst (v := 0) hx hb dX6_isDigit_16 (by decide) ?_
      exact W.zret hx hb hr rfl (fun t ht hW => ⟨⟨_, (), rfl, sm hf, by rw [ht]; exact hP, hD⟩, hS.F ht⟩) hS.2.2 dX6_isDigit_17
    · have hf := ie q2 hf
      refine lv_iconst (v := 1) hx hb dX6_isDigit_12 (by decide) ?_
      refine lv_goto (tgt := 17) hx hb dX6_isDigit_13 (by decide) ?_
      exact W.zret hx hb hr rfl (fun t ht hW => ⟨⟨_, (), rfl, sm hf, by rw [ht]; exact hP, hD⟩, hS.F ht⟩) hS.2.2 dX6_isDigit_17
/-! X6_readNumber -/
def f_X6_readNumber_4 (p1 : Int32) : Nat → Int32 → Int32 → Ar → Int32 → Int32 → Ar → Ar → Ar → Ar → Int32 →  Option (Int32 × SX6)
  | 0, _, _, _, _, _, _, _, _, _, _ => none
  | n + 1, x2, x3, m0, m1, m2, m3, m4, m5, m6, m7 =>
  (if p1 ≤ x3 then some (x2, (m0, m1, m2, m3, m4, m5, m6, m7)) else
  (if m1 ≤ m2 then some (x2, (m0, m1, m2, m3, m4, m5, m6, m7)) else
  if m2 < 0 ∨ 60 ≤ m2.toNatClampNeg then none else
  (f_X6_isDigit (m0 m2.toNatClampNeg)).bind fun r5 =>
  (if r5 = 0 then some (x2, (m0, m1, m2, m3, m4, m5, m6, m7)) else
  if m2 < 0 ∨ 60 ≤ m2.toNatClampNeg then none else
  f_X6_readNumber_4 p1 n ((((if 0 < x2 then x2 else 0) * 10) + (m0 m2.toNatClampNeg)) - 48) (x3 + 1) m0 m1 (m2 + 1) m3 m4 m5 m6 m7)))
def f_X6_readNumber (a0 : Ar) (a1 : Int32) (a2 : Int32) (a3 : Ar) (a4 : Ar) (a5 : Ar) (a6 : Ar) (a7 : Int32) (p1 : Int32) : Option (Int32 × SX6) :=
  f_X6_readNumber_4 p1 300 (-1) 0 a0 a1 a2 a3 a4 a5 a6 a7
set_option maxRecDepth 100000 in
set_option maxHeartbeats 4000000 in
theorem m_X6_readNumber (l : Launch) (dC : Nat → ClassId) (dI : Nat → Nat → Nat) (dA gz : Nat → Nat) (oa : Nat → Nat) (sz : Nat) (a0 : Ar) (a1 : Int32) (a2 : Int32) (a3 : Ar) (a4 : Ar) (a5 : Ar) (a6 : Ar) (a7 : Int32) (p1 : Int32) (rr : Int32) (uu : SX6) (hf : f_X6_readNumber a0 a1 a2 a3 a4 a5 a6 a7 p1 = some (rr, uu)) : Met l yX6_readNumber ws_X6_readNumber ({ frames := 14, cells := 0, slots := 0, locals := 400 } : Room) (va_Pc [.ref (oa 0), .int p1] (pP (dC, dI) dA gz (wX6 dA oa (a0, a1, a2, a3, a4, a5, a6, a7)) sz)) (va_Qi (S := Unit) (fun r' _ => r' = rr) (fun _ t => pQ (dC, dI) (va_A (wX6 dA oa (a0, a1, a2, a3, a4, a5, a6, a7)) sz) (wX6 dA oa uu) t) (va_A (wX6 dA oa (a0, a1, a2, a3, a4, a5, a6, a7)) sz)) 0 0 (va_A (wX6 dA oa (a0, a1, a2, a3, a4, a5, a6, a7)) sz) := by
  refine Met.ofW (cc := cX6_readNumber) (maxL := 4) (ret := (some .int)) (by decide) rfl ?_
  intro p e s m args below meth c s₁ B hml hv
  obtain ⟨rfl, hsz, hP, hK, hD0, hN, hZ⟩ := hv
  have hx := B.exec
  have hb := B.bytes
  have hr := B.returns
  have hts := atoms_spec (ws := ws_X6_readNumber) B.pre
  have hown : s.vm.findClass RX6 = some m.cls := findClass_of_methodNamed B.named
  have hlocks := B.notSynchronized
  subst hsz
  have hD := hD0.self (sz := s.heap.size)
  generalize hAe : va_A (wX6 dA oa (a0, a1, a2, a3, a4, a5, a6, a7)) s.heap.size = A at hD hZ ⊢
  have hA : ∀ q : Nat, s.heap.size ≤ q → A q := fun q h => by rw [← hAe]; exact Or.inr h
  have hS : va_S A s.heap s.heap [] := va_S.rf
  have hP : va_P (dC, dI) vwCl [(oa 0, .inr (10, [.ref (oa 1), .int a1, .int a2, .ref (oa 2), .ref (oa 3), .ref (oa 4), .ref (oa 5), .int a7])), (oa 1, .inl (dA 0, 60, .inl a0)), (oa 2, .inl (dA 1, 13, .inl a3)), (oa 3, .inl (dA 0, 13, .inl a4)), (oa 4, .inl (dA 1, 13, .inl a5)), (oa 5, .inl (dA 1, 13, .inl a6))] s.heap := hP
  have hD : va_D A [(oa 0, .inr (10, [.ref (oa 1), .int a1, .int a2, .ref (oa 2), .ref (oa 3), .ref (oa 4), .ref (oa 5), .int a7])), (oa 1, .inl (dA 0, 60, .inl a0)), (oa 2, .inl (dA 1, 13, .inl a3)), (oa 3, .inl (dA 0, 13, .inl a4)), (oa 4, .inl (dA 1, 13, .inl a5)), (oa 5, .inl (dA 1, 13, .inl a6))] := hD
  have hl := lv_entry [.ref (oa 0), .int p1] (n := 4) (Nat.le_of_ble_eq_true rfl)
  rw [lg_entry_eq]
  generalize (lg_sl [.ref (oa 0), .int p1] ++ List.replicate (4 - (lg_sl [.ref (oa 0), .int p1]).length) Slot.unset).toArray = ls at hl ⊢
  have hl : lv_has ls 4 [(0, .ref (oa 0)), (1, .int p1)] := hl
  have in_X6 : ∀ w ∈ wsX60, w ∈ ws_X6_readNumber := fun w h => bg _ (inB_X6 w h)
  have cut4 : ∀ (n : Nat) (x2 : Int32) (x3 : Int32) (m0 : Ar) (m1 : Int32) (m2 : Int32) (m3 : Ar) (m4 : Ar) (m5 : Ar) (m6 : Ar) (m7 : Int32) (H : Heap) (locs : List Loc) (ls : Array Slot), f_X6_readNumber_4 p1 n x2 x3 m0 m1 m2 m3 m4 m5 m6 m7 = some (rr, uu) → va_P (dC, dI) vwCl [(oa 0, .inr (10, [.ref (oa 1), .int m1, .int m2, .ref (oa 2), .ref (oa 3), .ref (oa 4), .ref (oa 5), .int m7])), (oa 1, .inl (dA 0, 60, .inl m0)), (oa 2, .inl (dA 1, 13, .inl m3)), (oa 3, .inl (dA 0, 13, .inl m4)), (oa 4, .inl (dA 1, 13, .inl m5)), (oa 5, .inl (dA 1, 13, .inl m6))] H → va_D A [(oa 0, .inr (10, [.ref (oa 1), .int m1, .int m2, .ref (oa 2), .ref (oa 3), .ref (oa 4), .ref (oa 5), .int m7])), (oa 1, .inl (dA 0, 60, .inl m0)), (oa 2, .inl (dA 1, 13, .inl m3)), (oa 3, .inl (dA 0, 13, .inl m4)), (oa 4, .inl (dA 1, 13, .inl m5)), (oa 5, .inl (dA 1, 13, .inl m6))] → va_S A s.heap H locs → lv_has ls 4 [(0, .ref (oa 0)), (1, .int p1), (2, .int x2), (3, .int x3)] → W p l e (headSpec ws_X6_readNumber ({ frames := 14, cells := 0, slots := 0, locals := 400 } : Room)).room s m ([.ref (oa 0), .int p1] : List Value).toArray below meth c H locs 0 0 (MQ below (va_Qi (S := Unit) (fun r' _ => r' = rr) (fun _ t => pQ (dC, dI) A (wX6 dA oa uu) t) A) ([.ref (oa 0), .int p1] : List Value).toArray s 0 0 A) (F0 m 4 ls []) := by
    intro n
    induction n with
    | zero =>
      intro x2 x3 m0 m1 m2 m3 m4 m5 m6 m7 H locs ls hf
      rw [f_X6_readNumber_4] at hf
      cases hf
    | succ n ih =>
      intro x2 x3 m0 m1 m2 m3 m4 m5 m6 m7 H locs ls hf hP hD hS hl
      rw [f_X6_readNumber_4] at hf
      refine lv_iload_n hx hb dX6_readNumber_4 rfl (lv_at hl 3 rfl) ?_
      refine lv_iload_n hx hb dX6_readNumber_5 rfl (lv_at hl 1 rfl) ?_
      refine lv_icmp_ge (tgt := 73) hx hb dX6_readNumber_6 (by decide) (fun q1 => ?_) (fun q1 => ?_)
      · have hf := it q1 hf
        refine lv_iload_n hx hb dX6_readNumber_73 rfl (lv_at hl 2 rfl) ?_
        obtain ⟨e8, e9⟩ := Prod.mk.inj (sm hf)
        exact W.iret hx hb hr (fun t ht hW => ⟨⟨_, (), rfl, e8, by rw [← e9, ht]; exact hP, by rw [← e9]; exact hD⟩, hS.F ht⟩) hS.2.2 dX6_readNumber_74
      · have hf := ie q1 hf
        refine lv_aload_n hx hb dX6_readNumber_9 rfl (lv_at hl 0 rfl) ?_
        refine va_get (D := (dC, dI)) (ci := 10) (v := .int m2) (C := RX6) (T := TX6) (N := 8) hx hb hts in_X6 hown hK hP 0 rfl rfl 2 (by decide) (hts _ (bg _ wd_212)) (fun _ h9 => h9) rfl dX6_readNumber_10 ?_
        refine lv_aload_n hx hb dX6_readNumber_13 rfl (lv_at hl 0 rfl) ?_
        refine va_get (D := (dC, dI)) (ci := 10) (v := .int m1) (C := RX6) (T := TX6) (N := 8) hx hb hts in_X6 hown hK hP 0 rfl rfl 1 (by decide) (hts _ (bg _ wd_210)) (fun _ h9 => h9) rfl dX6_readNumber_14 ?_
        refine lv_icmp_ge (tgt := 73) hx hb dX6_readNumber_17 (by decide) (fun q2 => ?_) (fun q2 => ?_)
        · have hf := it q2 hf
          refine lv_iload_n hx hb dX6_readNumber_73 rfl (lv_at hl 2 rfl) ?_
          obtain ⟨e8, e9⟩ := Prod.mk.inj (sm hf)
          exact W.iret hx hb hr (fun t ht hW => ⟨⟨_, (), rfl, e8, by rw [← e9, ht]; exact hP, by rw [← e9]; exact hD⟩, hS.F ht⟩) hS.2.2 dX6_readNumber_74
        · have hf := ie q2 hf
          refine lv_aload_n hx hb dX6_readNumber_20 rfl (lv_at hl 0 rfl) ?_
          refine va_get (D := (dC, dI)) (ci := 10) (v := .ref (oa 1)) (C := RX6) (T := TX6) (N := 8) hx hb hts in_X6 hown hK hP 0 rfl rfl 0 (by decide) (hts _ (bg _ wd_209)) (fun _ h9 => h9) rfl dX6_readNumber_21 ?_
          refine lv_aload_n hx hb dX6_readNumber_24 rfl (lv_at hl 0 rfl) ?_
          refine va_get (D := (dC, dI)) (ci := 10) (v := .int m2) (C := RX6) (T := TX6) (N := 8) hx hb hts in_X6 hown hK hP 0 rfl rfl 2 (by decide) (hts _ (bg _ wd_212)) (fun _ h9 => h9) rfl dX6_readNumber_25 ?_
          obtain ⟨z3, hf⟩ := gd hf
          refine va_cald hx hb hK hP 1 0 rfl rfl z3 dX6_readNumber_28 ?_
          obtain ⟨r5, e4, hf⟩ := bd hf
          refine jr_i (va_runS (As := [.int (m0 m2.toNatClampNeg)]) (rest := []) ⟨hx, hb, hml, hown, hts⟩ (m_X6_isDigit l dC dI dA gz  H.size (m0 m2.toNatClampNeg) r5 e4) (cwS 1 hts (gi_s bg wd_719 wd_720 wd_8 wd_721) rfl rfl rfl hd_X6_isDigit ⟨Nat.le_of_ble_eq_true rfl, Nat.le_of_ble_eq_true rfl⟩) ⟨pP_blind, pP_pre hP hD hS hA hK hN hZ [] (by decide) rfl⟩ rfl rfl hl.1 rfl (lv_room (Nat.le_of_ble_eq_true rfl)) dX6_readNumber_29 ⟨Nat.le_of_ble_eq_true rfl, Nat.le_of_ble_eq_true rfl⟩) hP hD hS hA [] rfl (fun H locs hP hS => ?_)
          refine lv_if_eq (tgt := 73) hx hb dX6_readNumber_32 (by decide) (fun q6 => ?_) (fun q6 => ?_)
          · have hf := it q6 hf
            refine lv_iload_n hx hb dX6_readNumber_73 rfl (lv_at hl 2 rfl) ?_
            obtain ⟨e8, e9⟩ := Prod.mk.inj (sm hf)
            exact W.iret hx hb hr (fun t ht hW => ⟨⟨_, (), rfl, e8, by rw [← e9, ht]; exact hP, by rw [← e9]; exact hD⟩, hS.F ht⟩) hS.2.2 dX6_readNumber_74
          · have hf := ie q6 hf
            refine lv_iconst (v := 0) hx hb dX6_readNumber_35 (by decide) ?_
            refine lv_iload_n hx hb dX6_readNumber_36 rfl (lv_at hl 2 rfl) ?_
            refine va_mmax hx hb (hml.trans hl.1.symm) hown (hts _ (bg _ wd_705)) (hts _ (bg _ wd_561)) (hts _ (bg _ wd_21)) (hts _ (bg _ wd_562)) (Nat.le_of_ble_eq_true rfl) (Nat.le_of_ble_eq_true rfl) (Nat.le_of_ble_eq_true rfl) (Nat.le_of_ble_eq_true rfl) dX6_readNumber_37 ?_
            refine lv_bipush (v := 10) hx hb dX6_readNumber_40 (by decide) ?_
            refine lv_imul hx hb dX6_readNumber_42 ?_
            refine lv_aload_n hx hb dX6_readNumber_43 rfl (lv_at hl 0 rfl) ?_
            refine va_get (D := (dC, dI)) (ci := 10) (v := .ref (oa 1)) (C := RX6) (T := TX6) (N := 8) hx hb hts in_X6 hown hK hP 0 rfl rfl 0 (by decide) (hts _ (bg _ wd_209)) (fun _ h9 => h9) rfl dX6_readNumber_44 ?_
            refine lv_aload_n hx hb dX6_readNumber_47 rfl (lv_at hl 0 rfl) ?_
            refine va_get (D := (dC, dI)) (ci := 10) (v := .int m2) (C := RX6) (T := TX6) (N := 8) hx hb hts in_X6 hown hK hP 0 rfl rfl 2 (by decide) (hts _ (bg _ wd_212)) (fun _ h9 => h9) rfl dX6_readNumber_48 ?_
            obtain ⟨z7, hf⟩ := gd hf
            refine va_cald hx hb hK hP 1 0 rfl rfl z7 dX6_readNumber_51 ?_
            refine lv_iadd hx hb dX6_readNumber_52 ?_
            refine lv_bipush (v := 48) hx hb dX6_readNumber_53 (by decide) ?_
            refine lv_isub hx hb dX6_readNumber_55 ?_
            refine lv_istore_n (lv' := [(2, .int ((((if 0 < x2 then x2 else 0) * 10) + (m0 m2.toNatClampNeg)) - 48)), (0, .ref (oa 0)), (1, .int p1), (3, .int x3)]) hx hb dX6_readNumber_56 rfl hl (by decide) rfl (fun ls hl => ?_)
            refine lv_aload_n hx hb dX6_readNumber_57 rfl (lv_at hl 1 rfl) ?_
            refine lv_dup hx hb dX6_readNumber_58 rfl ?_
            refine va_get (D := (dC, dI)) (ci := 10) (v := .int m2) (C := RX6) (T := TX6) (N := 8) hx hb hts in_X6 hown hK hP 0 rfl rfl 2 (by decide) (hts _ (bg _ wd_212)) (fun _ h9 => h9) rfl dX6_readNumber_59 ?_
            refine lv_iconst (v := 1) hx hb dX6_readNumber_62 (by decide) ?_
            refine lv_iadd hx hb dX6_readNumber_63 ?_
            refine va_put (D := (dC, dI)) (ci := 10) (v := .int (m2 + 1)) (ty := .int) (C := RX6) (T := TX6) (N := 8) hx hb hts in_X6 tyX6 tyX6_ok nmX6 hown hK hP hD hS 0 rfl rfl 2 (by decide) (hts _ (bg _ wd_212)) (fun _ h9 => h9) rfl (by decide +kernel) rfl rfl (Nat.le_of_ble_eq_true rfl) dX6_readNumber_64 (fun H locs hP hD hS => ?_)
            have hP : va_P (dC, dI) vwCl [(oa 0, .inr (10, [.ref (oa 1), .int m1, .int (m2 + 1), .ref (oa 2), .ref (oa 3), .ref (oa 4), .ref (oa 5), .int m7])), (oa 1, .inl (dA 0, 60, .inl m0)), (oa 2, .inl (dA 1, 13, .inl m3)), (oa 3, .inl (dA 0, 13, .inl m4)), (oa 4, .inl (dA 1, 13, .inl m5)), (oa 5, .inl (dA 1, 13, .inl m6))] H := hP
            have hD : va_D A [(oa 0, .inr (10, [.ref (oa 1), .int m1, .int (m2 + 1), .ref (oa 2), .ref (oa 3), .ref (oa 4), .ref (oa 5), .int m7])), (oa 1, .inl (dA 0, 60, .inl m0)), (oa 2, .inl (dA 1, 13, .inl m3)), (oa 3, .inl (dA 0, 13, .inl m4)), (oa 4, .inl (dA 1, 13, .inl m5)), (oa 5, .inl (dA 1, 13, .inl m6))] := hD
            refine lv_iinc (v := (x3 + 1)) (lv' := [(3, .int (x3 + 1)), (2, .int ((((if 0 < x2 then x2 else 0) * 10) + (m0 m2.toNatClampNeg)) - 48)), (0, .ref (oa 0)), (1, .int p1)]) hx hb dX6_readNumber_67 hl (k := 3) rfl rfl (by decide) rfl (fun ls hl => ?_)
            refine lv_goto (tgt := 4) hx hb dX6_readNumber_70 (by decide) ?_
            exact ih ((((if 0 < x2 then x2 else 0) * 10) + (m0 m2.toNatClampNeg)) - 48) (x3 + 1) m0 m1 (m2 + 1) m3 m4 m5 m6 m7 _ _ _ hf hP hD hS (lv_sub hl [2, 3, 1, 0] rfl)
  rw [f_X6_readNumber] at hf
  refine lv_iconst (v := (-1)) hx hb dX6_readNumber_0 (by decide) ?_
  refine lv_istore_n (lv' := [(2, .int (-1)), (0, .ref (oa 0)), (1, .int p1)]) hx hb dX6_readNumber_1 rfl hl (by decide) rfl (fun ls hl => ?_)
  refine lv_iconst (v := 0) hx hb dX6_readNumber_2 (by decide) ?_
  refine lv_istore_n (lv' := [(3, .int 0), (2, .int (-1)), (0, .ref (oa 0)), (1, .int p1)]) hx hb dX6_readNumber_3 rfl hl (by decide) rfl (fun ls hl => ?_)
  exact cut4 300 (-1) 0 a0 a1 a2 a3 a4 a5 a6 a7 _ _ _ hf hP hD hS (lv_sub hl [2, 3, 1, 0] rfl)
/-! X6_signsAlike -/
def f_X6_signsAlike_2 (a0 : Ar) (a1 : Int32) (a2 : Int32) (a3 : Ar) (a4 : Ar) (a5 : Ar) (a6 : Ar) (a7 : Int32) (p1 : Nat) : Nat → Int32 →  Option (Int32)
  | 0, _ => none
  | n + 1, x2 =>
  if 63 ≤ p1 then none else
  (if (nI (sx p1).length) ≤ x2 then some x2 else
  (if a1 ≤ (a2 + x2) then some x2 else
  if (a2 + x2) < 0 ∨ 60 ≤ (a2 + x2).toNatClampNeg then none else
  if 63 ≤ p1 then none else
  if x2 < 0 ∨ (sx p1).length ≤ x2.toNatClampNeg then none else
  (if (a0 (a2 + x2).toNatClampNeg) = ((sx p1).getD x2.toNatClampNeg 0 &&& 255) then f_X6_signsAlike_2 a0 a1 a2 a3 a4 a5 a6 a7 p1 n (x2 + 1) else
  some x2)))
def f_X6_signsAlike (a0 : Ar) (a1 : Int32) (a2 : Int32) (a3 : Ar) (a4 : Ar) (a5 : Ar) (a6 : Ar) (a7 : Int32) (p1 : Nat) : Option (Int32) :=
  f_X6_signsAlike_2 a0 a1 a2 a3 a4 a5 a6 a7 p1 300 0
set_option maxRecDepth 100000 in
set_option maxHeartbeats 4000000 in
theorem m_X6_signsAlike (l : Launch) (dC : Nat → ClassId) (dI : Nat → Nat → Nat) (dA gz : Nat → Nat) (oa : Nat → Nat) (sz : Nat) (a0 : Ar) (a1 : Int32) (a2 : Int32) (a3 : Ar) (a4 : Ar) (a5 : Ar) (a6 : Ar) (a7 : Int32) (p1 : Nat) (rr : Int32) (hf : f_X6_signsAlike a0 a1 a2 a3 a4 a5 a6 a7 p1 = some rr) : Met l yX6_signsAlike ws_X6_signsAlike ({ frames := 30, cells := 0, slots := 0, locals := 1200 } : Room) (va_Pc [.ref (oa 0), .ref (gz (2 * p1))] (pP (dC, dI) dA gz (wX6 dA oa (a0, a1, a2, a3, a4, a5, a6, a7)) sz)) (va_Qi (S := Unit) (fun r' _ => r' = rr) (fun _ t => pQ (dC, dI) (va_A (wX6 dA oa (a0, a1, a2, a3, a4, a5, a6, a7)) sz) (wX6 dA oa (a0, a1, a2, a3, a4, a5, a6, a7)) t) (va_A (wX6 dA oa (a0, a1, a2, a3, a4, a5, a6, a7)) sz)) 0 0 (va_A (wX6 dA oa (a0, a1, a2, a3, a4, a5, a6, a7)) sz) := by
  refine Met.ofW (cc := cX6_signsAlike) (maxL := 3) (ret := (some .int)) (by decide) rfl ?_
  intro p e s m args below meth c s₁ B hml hv
  obtain ⟨rfl, hsz, hP, hK, hD0, hN, hZ⟩ := hv
  have hx := B.exec
  have hb := B.bytes
  have hr := B.returns
  have hts := atoms_spec (ws := ws_X6_signsAlike) B.pre
  have hown : s.vm.findClass RX6 = some m.cls := findClass_of_methodNamed B.named
  have hlocks := B.notSynchronized
  subst hsz
  have hD := hD0.self (sz := s.heap.size)
  generalize hAe : va_A (wX6 dA oa (a0, a1, a2, a3, a4, a5, a6, a7)) s.heap.size = A at hD hZ ⊢
  have hA : ∀ q : Nat, s.heap.size ≤ q → A q := fun q h => by rw [← hAe]; exact Or.inr h
  have hS : va_S A s.heap s.heap [] := va_S.rf
  have hP : va_P (dC, dI) vwCl [(oa 0, .inr (10, [.ref (oa 1), .int a1, .int a2, .ref (oa 2), .ref (oa 3), .ref (oa 4), .ref (oa 5), .int a7])), (oa 1, .inl (dA 0, 60, .inl a0)), (oa 2, .inl (dA 1, 13, .inl a3)), (oa 3, .inl (dA 0, 13, .inl a4)), (oa 4, .inl (dA 1, 13, .inl a5)), (oa 5, .inl (dA 1, 13, .inl a6))] s.heap := hP
  have hD : va_D A [(oa 0, .inr (10, [.ref (oa 1), .int a1, .int a2, .ref (oa 2), .ref (oa 3), .ref (oa 4), .ref (oa 5), .int a7])), (oa 1, .inl (dA 0, 60, .inl a0)), (oa 2, .inl (dA 1, 13, .inl a3)), (oa 3, .inl (dA 0, 13, .inl a4)), (oa 4, .inl (dA 1, 13, .inl a5)), (oa 5, .inl (dA 1, 13, .inl a6))] := hD
  have hl := lv_entry [.ref (oa 0), .ref (gz (2 * p1))] (n := 3) (Nat.le_of_ble_eq_true rfl)
  rw [lg_entry_eq]
  generalize (lg_sl [.ref (oa 0), .ref (gz (2 * p1))] ++ List.replicate (3 - (lg_sl [.ref (oa 0), .ref (gz (2 * p1))]).length) Slot.unset).toArray = ls at hl ⊢
  have hl : lv_has ls 3 [(0, .ref (oa 0)), (1, .ref (gz (2 * p1)))] := hl
  have in_X6 : ∀ w ∈ wsX60, w ∈ ws_X6_signsAlike := fun w h => bg _ (inB_X6 w h)
  have cut2 : ∀ (n : Nat) (x2 : Int32) (H : Heap) (locs : List Loc) (ls : Array Slot), f_X6_signsAlike_2 a0 a1 a2 a3 a4 a5 a6 a7 p1 n x2 = some rr → va_P (dC, dI) vwCl [(oa 0, .inr (10, [.ref (oa 1), .int a1, .int a2, .ref (oa 2), .ref (oa 3), .ref (oa 4), .ref (oa 5), .int a7])), (oa 1, .inl (dA 0, 60, .inl a0)), (oa 2, .inl (dA 1, 13, .inl a3)), (oa 3, .inl (dA 0, 13, .inl a4)), (oa 4, .inl (dA 1, 13, .inl a5)), (oa 5, .inl (dA 1, 13, .inl a6))] H → va_D A [(oa 0, .inr (10, [.ref (oa 1), .int a1, .int a2, .ref (oa 2), .ref (oa 3), .ref (oa 4), .ref (oa 5), .int a7])), (oa 1, .inl (dA 0, 60, .inl a0)), (oa 2, .inl (dA 1, 13, .inl a3)), (oa 3, .inl (dA 0, 13, .inl a4)), (oa 4, .inl (dA 1, 13, .inl a5)), (oa 5, .inl (dA 1, 13, .inl a6))] → va_S A s.heap H locs → lv_has ls 3 [(0, .ref (oa 0)), (1, .ref (gz (2 * p1))), (2, .int x2)] → W p l e (headSpec ws_X6_signsAlike ({ frames := 30, cells := 0, slots := 0, locals := 1200 } : Room)).room s m ([.ref (oa 0), .ref (gz (2 * p1))] : List Value).toArray below meth c H locs 0 0 (MQ below (va_Qi (S := Unit) (fun r' _ => r' = rr) (fun _ t => pQ (dC, dI) A (wX6 dA oa (a0, a1, a2, a3, a4, a5, a6, a7)) t) A) ([.ref (oa 0), .ref (gz (2 * p1))] : List Value).toArray s 0 0 A) (F0 m 2 ls []) := by
    intro n
    induction n with
    | zero =>
      intro x2 H locs ls hf
      rw [f_X6_signsAlike_2] at hf
      cases hf
    | succ n ih =>
      intro x2 H locs ls hf hP hD hS hl
      rw [f_X6_signsAlike_2] at hf
      refine lv_iload_n hx hb dX6_signsAlike_2 rfl (lv_at hl 2 rfl) ?_
      refine lv_aload_n hx hb dX6_signsAlike_3 rfl (lv_at hl 1 rfl) ?_
      obtain ⟨z1, hf⟩ := gd hf
      refine jr_i (va_runV (As := []) (rest := [.int x2]) ⟨hx, hb, hml, hown, hts⟩ (m_J0_length_8abf5 l dC dI dA gz H.size p1 (Nat.lt_of_not_le z1)) (cwV 0 hts (gi_v bg wd_658 wd_659 wd_660 wd_11 wd_661) rfl rfl rfl hd_J0_length_8abf5 ⟨Nat.le_of_ble_eq_true rfl, Nat.le_of_ble_eq_true rfl⟩) ⟨pP_blind, vk_recv (i := 0) (hZ.1 p1 (Nat.lt_of_not_le z1)).2 (by decide) hS, pP_pre hP hD hS hA hK hN hZ [] (by decide) rfl⟩ rfl rfl hl.1 rfl (lv_room (Nat.le_of_ble_eq_true rfl)) dX6_signsAlike_4 ⟨Nat.le_of_ble_eq_true rfl, Nat.le_of_ble_eq_true rfl⟩) hP hD hS hA [] rfl (fun H locs hP hS => ?_)
      refine lv_icmp_ge (tgt := 48) hx hb dX6_signsAlike_7 (by decide) (fun q2 => ?_) (fun q2 => ?_)
      · have hf := it q2 hf
        refine lv_iload_n hx hb dX6_signsAlike_48 rfl (lv_at hl 2 rfl) ?_
        exact W.iret hx hb hr (fun t ht hW => ⟨⟨_, (), rfl, sm hf, by rw [ht]; exact hP, hD⟩, hS.F ht⟩) hS.2.2 dX6_signsAlike_49
      · have hf := ie q2 hf
        refine lv_aload_n hx hb dX6_signsAlike_10 rfl (lv_at hl 0 rfl) ?_
        refine va_get (D := (dC, dI)) (ci := 10) (v := .int a2) (C := RX6) (T := TX6) (N := 8) hx hb hts in_X6 hown hK hP 0 rfl rfl 2 (by decide) (hts _ (bg _ wd_212)) (fun _ h9 => h9) rfl dX6_signsAlike_11 ?_
        refine lv_iload_n hx hb dX6_signsAlike_14 rfl (lv_at hl 2 rfl) ?_
        refine lv_iadd hx hb dX6_signsAlike_15 ?_
        refine lv_aload_n hx hb dX6_signsAlike_16 rfl (lv_at hl 0 rfl) ?_
        refine va_get (D := (dC, dI)) (ci := 10) (v := .int a1) (C := RX6) (T := TX6) (N := 8) hx hb hts in_X6 hown hK hP 0 rfl rfl 1 (by decide) (hts _ (bg _ wd_210)) (fun _ h9 => h9) rfl dX6_signsAlike_17 ?_
        refine lv_icmp_ge (tgt := 48) hx hb dX6_signsAlike_20 (by decide) (fun q3 => ?_) (fun q3 => ?_)
        · have hf := it q3 hf
          refine lv_iload_n hx hb dX6_signsAlike_48 rfl (lv_at hl 2 rfl) ?_
          exact W.iret hx hb hr (fun t ht hW => ⟨⟨_, (), rfl, sm hf, by rw [ht]; exact hP, hD⟩, hS.F ht⟩) hS.2.2 dX6_signsAlike_49
        · have hf := ie q3 hf
          refine lv_aload_n hx hb dX6_signsAlike_23 rfl (lv_at hl 0 rfl) ?_
          refine va_get (D := (dC, dI)) (ci := 10) (v := .ref (oa 1)) (C := RX6) (T := TX6) (N := 8) hx hb hts in_X6 hown hK hP 0 rfl rfl 0 (by decide) (hts _ (bg _ wd_209)) (fun _ h9 => h9) rfl dX6_signsAlike_24 ?_
          refine lv_aload_n hx hb dX6_signsAlike_27 rfl (lv_at hl 0 rfl) ?_
          refine va_get (D := (dC, dI)) (ci := 10) (v := .int a2) (C := RX6) (T := TX6) (N := 8) hx hb hts in_X6 hown hK hP 0 rfl rfl 2 (by decide) (hts _ (bg _ wd_212)) (fun _ h9 => h9) rfl dX6_signsAlike_28 ?_
          refine lv_iload_n hx hb dX6_signsAlike_31 rfl (lv_at hl 2 rfl) ?_
          refine lv_iadd hx hb dX6_signsAlike_32 ?_
          obtain ⟨z4, hf⟩ := gd hf
          refine va_cald hx hb hK hP 1 0 rfl rfl z4 dX6_signsAlike_33 ?_
          refine lv_aload_n hx hb dX6_signsAlike_34 rfl (lv_at hl 1 rfl) ?_
          refine lv_iload_n hx hb dX6_signsAlike_35 rfl (lv_at hl 2 rfl) ?_
          obtain ⟨z5, hf⟩ := gd hf
          obtain ⟨z6, hf⟩ := gd hf
          refine jr_i (va_runV (As := [.int x2]) (rest := [.int (a0 (a2 + x2).toNatClampNeg)]) ⟨hx, hb, hml, hown, hts⟩ (m_J0_charAt_5068e l dC dI dA gz H.size p1 (Nat.lt_of_not_le z5) x2 z6 (sx_len _ (Nat.lt_of_not_le z5))) (cwV 1 hts (gi_v bg wd_667 wd_668 wd_669 wd_11 wd_670) rfl rfl rfl hd_J0_charAt_5068e ⟨Nat.le_of_ble_eq_true rfl, Nat.le_of_ble_eq_true rfl⟩) ⟨pP_blind, vk_recv (i := 0) (hZ.1 p1 (Nat.lt_of_not_le z5)).2 (by decide) hS, pP_pre hP hD hS hA hK hN hZ [] (by decide) rfl⟩ rfl rfl hl.1 rfl (lv_room (Nat.le_of_ble_eq_true rfl)) dX6_signsAlike_36 ⟨Nat.le_of_ble_eq_true rfl, Nat.le_of_ble_eq_true rfl⟩) hP hD hS hA [] rfl (fun H locs hP hS => ?_)
          refine lv_icmp_ne (tgt := 48) hx hb dX6_signsAlike_39 (by decide) (fun q7 => ?_) (fun q7 => ?_)
          · have hf := ie q7 hf
            refine lv_iload_n hx hb dX6_signsAlike_48 rfl (lv_at hl 2 rfl) ?_
            exact W.iret hx hb hr (fun t ht hW => ⟨⟨_, (), rfl, sm hf, by rw [ht]; exact hP, hD⟩, hS.F ht⟩) hS.2.2 dX6_signsAlike_49
          · have hf := it q7 hf
            refine lv_iinc (v := (x2 + 1)) (lv' := [(2, .int (x2 + 1)), (0, .ref (oa 0)), (1, .ref (gz (2 * p1)))]) hx hb dX6_signsAlike_42 hl (k := 2) rfl rfl (by decide) rfl (fun ls hl => ?_)
            refine lv_goto (tgt := 2) hx hb dX6_signsAlike_45 (by decide) ?_
            exact ih (x2 + 1) _ _ _ hf hP hD hS (lv_sub hl [1, 2, 0] rfl)
  rw [f_X6_signsAlike] at hf
  refine lv_iconst (v := 0) hx hb dX6_signsAlike_0 (by decide) ?_
  refine lv_istore_n (lv' := [(2, .int 0), (0, .ref (oa 0)), (1, .ref (gz (2 * p1)))]) hx hb dX6_signsAlike_1 rfl hl (by decide) rfl (fun ls hl => ?_)
  exact cut2 300 0 _ _ _ hf hP hD hS (lv_sub hl [1, 2, 0] rfl)
/-! X6_readWord -/
def f_X6_readWord_7  : Nat → Int32 → Int32 → Ar → Int32 → Int32 → Ar → Ar → Ar → Ar → Int32 →  Option (Int32 × SX6)
  | 0, _, _, _, _, _, _, _, _, _, _ => none
  | n + 1, x1, x2, m0, m1, m2, m3, m4, m5, m6, m7 =>
  (if 9 ≤ x2 then some ((-1), (m0, m1, x1, m3, m4, m5, m6, m7)) else
  (f_X6_spelling x2).bind fun r3 =>
  (f_X6_signsAlike m0 m1 m2 m3 m4 m5 m6 m7 r3).bind fun r5 =>
  (f_X6_spelling x2).bind fun r7 =>
  if 63 ≤ r7 then none else
  (if r5 = (nI (sx r7).length) then some (x2, (m0, m1, (m2 + r5), m3, m4, m5, m6, m7)) else
  f_X6_readWord_7 n (if x1 < (m2 + r5) then (m2 + r5) else x1) (x2 + 1) m0 m1 m2 m3 m4 m5 m6 m7))
def f_X6_readWord (a0 : Ar) (a1 : Int32) (a2 : Int32) (a3 : Ar) (a4 : Ar) (a5 : Ar) (a6 : Ar) (a7 : Int32) : Option (Int32 × SX6) :=
  f_X6_readWord_7 300 a2 0 a0 a1 a2 a3 a4 a5 a6 a7
set_option maxRecDepth 100000 in
set_option maxHeartbeats 4000000 in
theorem m_X6_readWord (l : Launch) (dC : Nat → ClassId) (dI : Nat → Nat → Nat) (dA gz : Nat → Nat) (oa : Nat → Nat) (sz : Nat) (a0 : Ar) (a1 : Int32) (a2 : Int32) (a3 : Ar) (a4 : Ar) (a5 : Ar) (a6 : Ar) (a7 : Int32) (rr : Int32) (uu : SX6) (hf : f_X6_readWord a0 a1 a2 a3 a4 a5 a6 a7 = some (rr, uu)) : Met l yX6_readWord ws_X6_readWord ({ frames := 34, cells := 0, slots := 0, locals := 1400 } : Room) (va_Pc [.ref (oa 0)] (pP (dC, dI) dA gz (wX6 dA oa (a0, a1, a2, a3, a4, a5, a6, a7)) sz)) (va_Qi (S := Unit) (fun r' _ => r' = rr) (fun _ t => pQ (dC, dI) (va_A (wX6 dA oa (a0, a1, a2, a3, a4, a5, a6, a7)) sz) (wX6 dA oa uu) t) (va_A (wX6 dA oa (a0, a1, a2, a3, a4, a5, a6, a7)) sz)) 0 0 (va_A (wX6 dA oa (a0, a1, a2, a3, a4, a5, a6, a7)) sz) := by
  refine Met.ofW (cc := cX6_readWord) (maxL := 4) (ret := (some .int)) (by decide) rfl ?_
  intro p e s m args below meth c s₁ B hml hv
  obtain ⟨rfl, hsz, hP, hK, hD0, hN, hZ⟩ := hv
  have hx := B.exec
  have hb := B.bytes
  have hr := B.returns
  have hts := atoms_spec (ws := ws_X6_readWord) B.pre
  have hown : s.vm.findClass RX6 = some m.cls := findClass_of_methodNamed B.named
  have hlocks := B.notSynchronized
  subst hsz
  have hD := hD0.self (sz := s.heap.size)
  generalize hAe : va_A (wX6 dA oa (a0, a1, a2, a3, a4, a5, a6, a7)) s.heap.size = A at hD hZ ⊢
  have hA : ∀ q : Nat, s.heap.size ≤ q → A q := fun q h => by rw [← hAe]; exact Or.inr h
  have hS : va_S A s.heap s.heap [] := va_S.rf
  have hP : va_P (dC, dI) vwCl [(oa 0, .inr (10, [.ref (oa 1), .int a1, .int a2, .ref (oa 2), .ref (oa 3), .ref (oa 4), .ref (oa 5), .int a7])), (oa 1, .inl (dA 0, 60, .inl a0)), (oa 2, .inl (dA 1, 13, .inl a3)), (oa 3, .inl (dA 0, 13, .inl a4)), (oa 4, .inl (dA 1, 13, .inl a5)), (oa 5, .inl (dA 1, 13, .inl a6))] s.heap := hP
  have hD : va_D A [(oa 0, .inr (10, [.ref (oa 1), .int a1, .int a2, .ref (oa 2), .ref (oa 3), .ref (oa 4), .ref (oa 5), .int a7])), (oa 1, .inl (dA 0, 60, .inl a0)), (oa 2, .inl (dA 1, 13, .inl a3)), (oa 3, .inl (dA 0, 13, .inl a4)), (oa 4, .inl (dA 1, 13, .inl a5)), (oa 5, .inl (dA 1, 13, .inl a6))] := hD
  have hl := lv_entry [.ref (oa 0)] (n := 4) (Nat.le_of_ble_eq_true rfl)
  rw [lg_entry_eq]
  generalize (lg_sl [.ref (oa 0)] ++ List.replicate (4 - (lg_sl [.ref (oa 0)]).length) Slot.unset).toArray = ls at hl ⊢
  have hl : lv_has ls 4 [(0, .ref (oa 0))] := hl
  have in_X6 : ∀ w ∈ wsX60, w ∈ ws_X6_readWord := fun w h => bg _ (inB_X6 w h)
  have cut7 : ∀ (n : Nat) (x1 : Int32) (x2 : Int32) (m0 : Ar) (m1 : Int32) (m2 : Int32) (m3 : Ar) (m4 : Ar) (m5 : Ar) (m6 : Ar) (m7 : Int32) (H : Heap) (locs : List Loc) (ls : Array Slot), f_X6_readWord_7 n x1 x2 m0 m1 m2 m3 m4 m5 m6 m7 = some (rr, uu) → va_P (dC, dI) vwCl [(oa 0, .inr (10, [.ref (oa 1), .int m1, .int m2, .ref (oa 2), .ref (oa 3), .ref (oa 4), .ref (oa 5), .int m7])), (oa 1, .inl (dA 0, 60, .inl m0)), (oa 2, .inl (dA 1, 13, .inl m3)), (oa 3, .inl (dA 0, 13, .inl m4)), (oa 4, .inl (dA 1, 13, .inl m5)), (oa 5, .inl (dA 1, 13, .inl m6))] H → va_D A [(oa 0, .inr (10, [.ref (oa 1), .int m1, .int m2, .ref (oa 2), .ref (oa 3), .ref (oa 4), .ref (oa 5), .int m7])), (oa 1, .inl (dA 0, 60, .inl m0)), (oa 2, .inl (dA 1, 13, .inl m3)), (oa 3, .inl (dA 0, 13, .inl m4)), (oa 4, .inl (dA 1, 13, .inl m5)), (oa 5, .inl (dA 1, 13, .inl m6))] → va_S A s.heap H locs → lv_has ls 4 [(0, .ref (oa 0)), (1, .int x1), (2, .int x2)] → W p l e (headSpec ws_X6_readWord ({ frames := 34, cells := 0, slots := 0, locals := 1400 } : Room)).room s m ([.ref (oa 0)] : List Value).toArray below meth c H locs 0 0 (MQ below (va_Qi (S := Unit) (fun r' _ => r' = rr) (fun _ t => pQ (dC, dI) A (wX6 dA oa uu) t) A) ([.ref (oa 0)] : List Value).toArray s 0 0 A) (F0 m 7 ls []) := by
    intro n
    induction n with
    | zero =>
      intro x1 x2 m0 m1 m2 m3 m4 m5 m6 m7 H locs ls hf
      rw [f_X6_readWord_7] at hf
      cases hf
    | succ n ih =>
      intro x1 x2 m0 m1 m2 m3 m4 m5 m6 m7 H locs ls hf hP hD hS hl
      rw [f_X6_readWord_7] at hf
      refine lv_iload_n hx hb dX6_readWord_7 rfl (lv_at hl 2 rfl) ?_
      refine lv_bipush (v := 9) hx hb dX6_readWord_8 (by decide) ?_
      refine lv_icmp_ge (tgt := 62) hx hb dX6_readWord_10 (by decide) (fun q1 => ?_) (fun q1 => ?_)
      · have hf := it q1 hf
        refine lv_aload_n hx hb dX6_readWord_62 rfl (lv_at hl 0 rfl) ?_
        refine lv_iload_n hx hb dX6_readWord_63 rfl (lv_at hl 1 rfl) ?_
        refine va_put (D := (dC, dI)) (ci := 10) (v := .int x1) (ty := .int) (C := RX6) (T := TX6) (N := 8) hx hb hts in_X6 tyX6 tyX6_ok nmX6 hown hK hP hD hS 0 rfl rfl 2 (by decide) (hts _ (bg _ wd_212)) (fun _ h9 => h9) rfl (by decide +kernel) rfl rfl (Nat.le_of_ble_eq_true rfl) dX6_readWord_64 (fun H locs hP hD hS => ?_)
        have hP : va_P (dC, dI) vwCl [(oa 0, .inr (10, [.ref (oa 1), .int m1, .int x1, .ref (oa 2), .ref (oa 3), .ref (oa 4), .ref (oa 5), .int m7])), (oa 1, .inl (dA 0, 60, .inl m0)), (oa 2, .inl (dA 1, 13, .inl m3)), (oa 3, .inl (dA 0, 13, .inl m4)), (oa 4, .inl (dA 1, 13, .inl m5)), (oa 5, .inl (dA 1, 13, .inl m6))] H := hP
        have hD : va_D A [(oa 0, .inr (10, [.ref (oa 1), .int m1, .int x1, .ref (oa 2), .ref (oa 3), .ref (oa 4), .ref (oa 5), .int m7])), (oa 1, .inl (dA 0, 60, .inl m0)), (oa 2, .inl (dA 1, 13, .inl m3)), (oa 3, .inl (dA 0, 13, .inl m4)), (oa 4, .inl (dA 1, 13, .inl m5)), (oa 5, .inl (dA 1, 13, .inl m6))] := hD
        refine lv_iconst (v := (-1)) hx hb dX6_readWord_67 (by decide) ?_
        obtain ⟨e8, e9⟩ := Prod.mk.inj (sm hf)
        exact W.iret hx hb hr (fun t ht hW => ⟨⟨_, (), rfl, e8, by rw [← e9, ht]; exact hP, by rw [← e9]; exact hD⟩, hS.F ht⟩) hS.2.2 dX6_readWord_68
      · have hf := ie q1 hf
        refine lv_aload_n hx hb dX6_readWord_13 rfl (lv_at hl 0 rfl) ?_
        refine lv_iload_n hx hb dX6_readWord_14 rfl (lv_at hl 2 rfl) ?_
        obtain ⟨r3, e2, hf⟩ := bd hf
        refine jr_r (va_runS (As := [.int x2]) (rest := [.ref (oa 0)]) ⟨hx, hb, hml, hown, hts⟩ (m_X6_spelling l dC dI dA gz  H.size x2 r3 e2) (cwS 1 hts (gi_s bg wd_642 wd_643 wd_8 wd_644) rfl rfl rfl hd_X6_spelling ⟨Nat.le_of_ble_eq_true rfl, Nat.le_of_ble_eq_true rfl⟩) ⟨pP_blind, pP_pre hP hD hS hA hK hN hZ [] (by decide) rfl⟩ rfl rfl hl.1 rfl (lv_room (Nat.le_of_ble_eq_true rfl)) dX6_readWord_15 ⟨Nat.le_of_ble_eq_true rfl, Nat.le_of_ble_eq_true rfl⟩) hP hD hS hA [] rfl (fun H locs hP hS => ?_)
        obtain ⟨r5, e4, hf⟩ := bd hf
        refine jr_i (va_runV (As := [.ref (gz (2 * r3))]) (rest := []) ⟨hx, hb, hml, hown, hts⟩ (m_X6_signsAlike l dC dI dA gz oa H.size m0 m1 m2 m3 m4 m5 m6 m7 r3 r5 e4) (cwV 1 hts (gi_v bg wd_654 wd_656 ws_8 wd_8 wd_657) rfl rfl rfl hd_X6_signsAlike ⟨Nat.le_of_ble_eq_true rfl, Nat.le_of_ble_eq_true rfl⟩) ⟨pP_blind, va_recv (ci := 10) (q0 := 0) hK hP rfl rfl, pP_pre hP hD hS hA hK hN hZ [0, 1, 2, 3, 4, 5] (by decide) rfl⟩ rfl rfl hl.1 rfl (lv_room (Nat.le_of_ble_eq_true rfl)) dX6_readWord_18 ⟨Nat.le_of_ble_eq_true rfl, Nat.le_of_ble_eq_true rfl⟩) hP hD hS hA [0, 1, 2, 3, 4, 5] rfl (fun H locs hP hS => ?_)
        refine lv_istore_n (lv' := [(3, .int r5), (0, .ref (oa 0)), (1, .int x1), (2, .int x2)]) hx hb dX6_readWord_21 rfl hl (by decide) rfl (fun ls hl => ?_)
        refine lv_iload_n hx hb dX6_readWord_22 rfl (lv_at hl 0 rfl) ?_
        refine lv_iload_n hx hb dX6_readWord_23 rfl (lv_at hl 3 rfl) ?_
        obtain ⟨r7, e6, hf⟩ := bd hf
        refine jr_r (va_runS (As := [.int x2]) (rest := [.int r5]) ⟨hx, hb, hml, hown, hts⟩ (m_X6_spelling l dC dI dA gz  H.size x2 r7 e6) (cwS 1 hts (gi_s bg wd_642 wd_643 wd_8 wd_644) rfl rfl rfl hd_X6_spelling ⟨Nat.le_of_ble_eq_true rfl, Nat.le_of_ble_eq_true rfl⟩) ⟨pP_blind, pP_pre hP hD hS hA hK hN hZ [] (by decide) rfl⟩ rfl rfl hl.1 rfl (lv_room (Nat.le_of_ble_eq_true rfl)) dX6_readWord_24 ⟨Nat.le_of_ble_eq_true rfl, Nat.le_of_ble_eq_true rfl⟩) hP hD hS hA [] rfl (fun H locs hP hS => ?_)
        obtain ⟨z8, hf⟩ := gd hf
        refine jr_i (va_runV (As := []) (rest := [.int r5]) ⟨hx, hb, hml, hown, hts⟩ (m_J0_length_8abf5 l dC dI dA gz H.size r7 (Nat.lt_of_not_le z8)) (cwV 0 hts (gi_v bg wd_658 wd_659 wd_660 wd_11 wd_661) rfl rfl rfl hd_J0_length_8abf5 ⟨Nat.le_of_ble_eq_true rfl, Nat.le_of_ble_eq_true rfl⟩) ⟨pP_blind, vk_recv (i := 0) (hZ.1 r7 (Nat.lt_of_not_le z8)).2 (by decide) hS, pP_pre hP hD hS hA hK hN hZ [] (by decide) rfl⟩ rfl rfl hl.1 rfl (lv_room (Nat.le_of_ble_eq_true rfl)) dX6_readWord_27 ⟨Nat.le_of_ble_eq_true rfl, Nat.le_of_ble_eq_true rfl⟩) hP hD hS hA [] rfl (fun H locs hP hS => ?_)
        refine lv_icmp_ne (tgt := 45) hx hb dX6_readWord_30 (by decide) (fun q9 => ?_) (fun q9 => ?_)
        · have hf := ie q9 hf
          refine lv_iload_n hx hb dX6_readWord_45 rfl (lv_at hl 2 rfl) ?_
          refine lv_aload_n hx hb dX6_readWord_46 rfl (lv_at hl 1 rfl) ?_
          refine va_get (D := (dC, dI)) (ci := 10) (v := .int m2) (C := RX6) (T := TX6) (N := 8) hx hb hts in_X6 hown hK hP 0 rfl rfl 2 (by decide) (hts _ (bg _ wd_212)) (fun _ h9 => h9) rfl dX6_readWord_47 ?_
          refine lv_iload_n hx hb dX6_readWord_50 rfl (lv_at hl 0 rfl) ?_
          refine lv_iadd hx hb dX6_readWord_51 ?_
          refine va_mmax hx hb (hml.trans hl.1.symm) hown (hts _ (bg _ wd_705)) (hts _ (bg _ wd_561)) (hts _ (bg _ wd_21)) (hts _ (bg _ wd_562)) (Nat.le_of_ble_eq_true rfl) (Nat.le_of_ble_eq_true rfl) (Nat.le_of_ble_eq_true rfl) (Nat.le_of_ble_eq_true rfl) dX6_readWord_52 ?_
          refine lv_istore_n (lv' := [(1, .int (if x1 < (m2 + r5) then (m2 + r5) else x1)), (3, .int r5), (0, .ref (oa 0)), (2, .int x2)]) hx hb dX6_readWord_55 rfl hl (by decide) rfl (fun ls hl => ?_)
          refine lv_iinc (v := (x2 + 1)) (lv' := [(2, .int (x2 + 1)), (1, .int (if x1 < (m2 + r5) then (m2 + r5) else x1)), (3, .int r5), (0, .ref (oa 0))]) hx hb dX6_readWord_56 hl (k := 3) rfl rfl (by decide) rfl (fun ls hl => ?_)
          refine lv_goto (tgt := 7) hx hb dX6_readWord_59 (by decide) ?_
          exact ih (if x1 < (m2 + r5) then (m2 + r5) else x1) (x2 + 1) m0 m1 m2 m3 m4 m5 m6 m7 _ _ _ hf hP hD hS (lv_sub hl [3, 1, 0] rfl)
        · have hf := it q9 hf
          refine lv_aload_n hx hb dX6_readWord_33 rfl (lv_at hl 1 rfl) ?_
          refine lv_dup hx hb dX6_readWord_34 rfl ?_
          refine va_get (D := (dC, dI)) (ci := 10) (v := .int m2) (C := RX6) (T := TX6) (N := 8) hx hb hts in_X6 hown hK hP 0 rfl rfl 2 (by decide) (hts _ (bg _ wd_212)) (fun _ h9 => h9) rfl dX6_readWord_35 ?_
          refine lv_iload_n hx hb dX6_readWord_38 rfl (lv_at hl 0 rfl) ?_
          refine lv_iadd hx hb dX6_readWord_39 ?_
          refine va_put (D := (dC, dI)) (ci := 10) (v := .int (m2 + r5)) (ty := .int) (C := RX6) (T := TX6) (N := 8) hx hb hts in_X6 tyX6 tyX6_ok nmX6 hown hK hP hD hS 0 rfl rfl 2 (by decide) (hts _ (bg _ wd_212)) (fun _ h9 => h9) rfl (by decide +kernel) rfl rfl (Nat.le_of_ble_eq_true rfl) dX6_readWord_40 (fun H locs hP hD hS => ?_)
          have hP : va_P (dC, dI) vwCl [(oa 0, .inr (10, [.ref (oa 1), .int m1, .int (m2 + r5), .ref (oa 2), .ref (oa 3), .ref (oa 4), .ref (oa 5), .int m7])), (oa 1, .inl (dA 0, 60, .inl m0)), (oa 2, .inl (dA 1, 13, .inl m3)), (oa 3, .inl (dA 0, 13, .inl m4)), (oa 4, .inl (dA 1, 13, .inl m5)), (oa 5, .inl (dA 1, 13, .inl m6))] H := hP
          have hD : va_D A [(oa 0, .inr (10, [.ref (oa 1), .int m1, .int (m2 + r5), .ref (oa 2), .ref (oa 3), .ref (oa 4), .ref (oa 5), .int m7])), (oa 1, .inl (dA 0, 60, .inl m0)), (oa 2, .inl (dA 1, 13, .inl m3)), (oa 3, .inl (dA 0, 13, .inl m4)), (oa 4, .inl (dA 1, 13, .inl m5)), (oa 5, .inl (dA 1, 13, .inl m6))] := hD
          refine lv_iload_n hx hb dX6_readWord_43 rfl (lv_at hl 3 rfl) ?_
          obtain ⟨e8, e9⟩ := Prod.mk.inj (sm hf)
          exact W.iret hx hb hr (fun t ht hW => ⟨⟨_, (), rfl, e8, by rw [← e9, ht]; exact hP, by rw [← e9]; exact hD⟩, hS.F ht⟩) hS.2.2 dX6_readWord_44
  rw [f_X6_readWord] at hf
  refine lv_aload_n hx hb dX6_readWord_0 rfl (lv_at hl 0 rfl) ?_
  refine va_get (D := (dC, dI)) (ci := 10) (v := .int a2) (C := RX6) (T := TX6) (N := 8) hx hb hts in_X6 hown hK hP 0 rfl rfl 2 (by decide) (hts _ (bg _ wd_212)) (fun _ h9 => h9) rfl dX6_readWord_1 ?_
  refine lv_istore_n (lv' := [(1, .int a2), (0, .ref (oa 0))]) hx hb dX6_readWord_4 rfl hl (by decide) rfl (fun ls hl => ?_)
  refine lv_iconst (v := 0) hx hb dX6_readWord_5 (by decide) ?_
  refine lv_istore_n (lv' := [(2, .int 0), (1, .int a2), (0, .ref (oa 0))]) hx hb dX6_readWord_6 rfl hl (by decide) rfl (fun ls hl => ?_)
  exact cut7 300 a2 0 a0 a1 a2 a3 a4 a5 a6 a7 _ _ _ hf hP hD hS (lv_sub hl [2, 1, 0] rfl)
/-! X6_readPhase -/
def f_X6_readPhase (a0 : Ar) (a1 : Int32) (a2 : Int32) (a3 : Ar) (a4 : Ar) (a5 : Ar) (a6 : Ar) (a7 : Int32) (p1 : Int32) : Option (Int32 × SX6) :=
  (if a1 ≤ a2 then some (0, (a0, a1, a2, a3, a4, a5, a6, a7)) else
  if a2 < 0 ∨ 60 ≤ a2.toNatClampNeg then none else
  (f_X2_isKind (a0 a2.toNatClampNeg)).bind fun r4 =>
  (if r4 = 0 then some (0, (a0, a1, a2, a3, a4, a5, a6, a7)) else
  if a2 < 0 ∨ 60 ≤ a2.toNatClampNeg then none else
  if p1 < 0 ∨ 13 ≤ p1.toNatClampNeg then none else
  bIX6 (f_X6_readSign a0 a1 (a2 + 1) a3 (upd a4 p1.toNatClampNeg (vp_nar .char (a0 a2.toNatClampNeg))) a5 a6 a7 32) fun r10 c9_0 c9_1 c9_2 c9_3 c9_4 c9_5 c9_6 c9_7 =>
  (if r10 = 0 then some (0, (c9_0, c9_1, c9_2, c9_3, c9_4, c9_5, c9_6, c9_7)) else
  bIX6 (f_X6_readNumber c9_0 c9_1 c9_2 c9_3 c9_4 c9_5 c9_6 c9_7 3) fun r14 c13_0 c13_1 c13_2 c13_3 c13_4 c13_5 c13_6 c13_7 =>
  if p1 < 0 ∨ 13 ≤ p1.toNatClampNeg then none else
  if p1 < 0 ∨ 13 ≤ p1.toNatClampNeg then none else
  (if ((upd c13_5 p1.toNatClampNeg r14) p1.toNatClampNeg) = (-1) then some (0, (c13_0, c13_1, c13_2, c13_3, c13_4, (upd c13_5 p1.toNatClampNeg r14), c13_6, c13_7)) else
  bIX6 (f_X6_readSign c13_0 c13_1 c13_2 c13_3 c13_4 (upd c13_5 p1.toNatClampNeg r14) c13_6 c13_7 32) fun r20 c19_0 c19_1 c19_2 c19_3 c19_4 c19_5 c19_6 c19_7 =>
  (if r20 = 0 then some (0, (c19_0, c19_1, c19_2, c19_3, c19_4, c19_5, c19_6, c19_7)) else
  bIX6 (f_X6_readNumber c19_0 c19_1 c19_2 c19_3 c19_4 c19_5 c19_6 c19_7 1) fun r24 c23_0 c23_1 c23_2 c23_3 c23_4 c23_5 c23_6 c23_7 =>
  if p1 < 0 ∨ 13 ≤ p1.toNatClampNeg then none else
  if p1 < 0 ∨ 13 ≤ p1.toNatClampNeg then none else
  (if ((upd c23_6 p1.toNatClampNeg r24) p1.toNatClampNeg) = (-1) then some (0, (c23_0, c23_1, c23_2, c23_3, c23_4, c23_5, (upd c23_6 p1.toNatClampNeg r24), c23_7)) else
  some (1, (c23_0, c23_1, c23_2, c23_3, c23_4, c23_5, (upd c23_6 p1.toNatClampNeg r24), c23_7))))))))
set_option maxRecDepth 100000 in
set_option maxHeartbeats 4000000 in
theorem m_X6_readPhase (l : Launch) (dC : Nat → ClassId) (dI : Nat → Nat → Nat) (dA gz : Nat → Nat) (oa : Nat → Nat) (sz : Nat) (a0 : Ar) (a1 : Int32) (a2 : Int32) (a3 : Ar) (a4 : Ar) (a5 : Ar) (a6 : Ar) (a7 : Int32) (p1 : Int32) (rr : Int32) (uu : SX6) (hf : f_X6_readPhase a0 a1 a2 a3 a4 a5 a6 a7 p1 = some (rr, uu)) : Met l yX6_readPhase ws_X6_readPhase ({ frames := 18, cells := 0, slots := 0, locals := 600 } : Room) (va_Pc [.ref (oa 0), .int p1] (pP (dC, dI) dA gz (wX6 dA oa (a0, a1, a2, a3, a4, a5, a6, a7)) sz)) (va_Qi (S := Unit) (fun r' _ => r' = rr) (fun _ t => pQ (dC, dI) (va_A (wX6 dA oa (a0, a1, a2, a3, a4, a5, a6, a7)) sz) (wX6 dA oa uu) t) (va_A (wX6 dA oa (a0, a1, a2, a3, a4, a5, a6, a7)) sz)) 0 0 (va_A (wX6 dA oa (a0, a1, a2, a3, a4, a5, a6, a7)) sz) := by
  refine Met.ofW (cc := cX6_readPhase) (maxL := 2) (ret := (some .boolean)) (by decide) rfl ?_
  intro p e s m args below meth c s₁ B hml hv
  obtain ⟨rfl, hsz, hP, hK, hD0, hN, hZ⟩ := hv
  have hx := B.exec
  have hb := B.bytes
  have hr := B.returns
  have hts := atoms_spec (ws := ws_X6_readPhase) B.pre
  have hown : s.vm.findClass RX6 = some m.cls := findClass_of_methodNamed B.named
  have hlocks := B.notSynchronized
  subst hsz
  have hD := hD0.self (sz := s.heap.size)
  generalize hAe : va_A (wX6 dA oa (a0, a1, a2, a3, a4, a5, a6, a7)) s.heap.size = A at hD hZ ⊢
  have hA : ∀ q : Nat, s.heap.size ≤ q → A q := fun q h => by rw [← hAe]; exact Or.inr h
  have hS : va_S A s.heap s.heap [] := va_S.rf
  have hP : va_P (dC, dI) vwCl [(oa 0, .inr (10, [.ref (oa 1), .int a1, .int a2, .ref (oa 2), .ref (oa 3), .ref (oa 4), .ref (oa 5), .int a7])), (oa 1, .inl (dA 0, 60, .inl a0)), (oa 2, .inl (dA 1, 13, .inl a3)), (oa 3, .inl (dA 0, 13, .inl a4)), (oa 4, .inl (dA 1, 13, .inl a5)), (oa 5, .inl (dA 1, 13, .inl a6))] s.heap := hP
  have hD : va_D A [(oa 0, .inr (10, [.ref (oa 1), .int a1, .int a2, .ref (oa 2), .ref (oa 3), .ref (oa 4), .ref (oa 5), .int a7])), (oa 1, .inl (dA 0, 60, .inl a0)), (oa 2, .inl (dA 1, 13, .inl a3)), (oa 3, .inl (dA 0, 13, .inl a4)), (oa 4, .inl (dA 1, 13, .inl a5)), (oa 5, .inl (dA 1, 13, .inl a6))] := hD
  have hl := lv_entry [.ref (oa 0), .int p1] (n := 2) (Nat.le_of_ble_eq_true rfl)
  rw [lg_entry_eq]
  generalize (lg_sl [.ref (oa 0), .int p1] ++ List.replicate (2 - (lg_sl [.ref (oa 0), .int p1]).length) Slot.unset).toArray = ls at hl ⊢
  have hl : lv_has ls 2 [(0, .ref (oa 0)), (1, .int p1)] := hl
  have in_X6 : ∀ w ∈ wsX60, w ∈ ws_X6_readPhase := fun w h => bg _ (inB_X6 w h)
  rw [f_X6_readPhase] at hf
  refine lv_aload_n hx hb dX6_readPhase_0 rfl (lv_at hl 0 rfl) ?_
  refine va_get (D := (dC, dI)) (ci := 10) (v := .int a2) (C := RX6) (T := TX6) (N := 8) hx hb hts in_X6 hown hK hP 0 rfl rfl 2 (by decide) (hts _ (bg _ wd_212)) (fun _ h9 => h9) rfl dX6_readPhase_1 ?_
  refine lv_aload_n hx hb dX6_readPhase_4 rfl (lv_at hl 0 rfl) ?_
  refine va_get (D := (dC, dI)) (ci := 10) (v := .int a1) (C := RX6) (T := TX6) (N := 8) hx hb hts in_X6 hown hK hP 0 rfl rfl 1 (by decide) (hts _ (bg _ wd_210)) (fun _ h9 => h9) rfl dX6_readPhase_5 ?_
  refine lv_icmp_ge (tgt := 26) hx hb dX6_readPhase_8 (by decide) (fun q1 => ?_) (fun q1 => ?_)
  · have hf := it q1 hf
    refine lv_iconst (v := 0) hx hb dX6_readPhase_26 (by decide) ?_
    obtain ⟨e8, e9⟩ := Prod.mk.inj (sm hf)
    exact W.zret hx hb hr rfl (fun t ht hW => ⟨⟨_, (), rfl, e8, by rw [← e9, ht]; exact hP, by rw [← e9]; exact hD⟩, hS.F ht⟩) hS.2.2 dX6_readPhase_27
  · have hf := ie q1 hf
    refine lv_aload_n hx hb dX6_readPhase_11 rfl (lv_at hl 0 rfl) ?_
    refine va_get (D := (dC, dI)) (ci := 10) (v := .ref (oa 1)) (C := RX6) (T := TX6) (N := 8) hx hb hts in_X6 hown hK hP 0 rfl rfl 0 (by decide) (hts _ (bg _ wd_209)) (fun _ h9 => h9) rfl dX6_readPhase_12 ?_
    refine lv_aload_n hx hb dX6_readPhase_15 rfl (lv_at hl 0 rfl) ?_
    refine va_get (D := (dC, dI)) (ci := 10) (v := .int a2) (C := RX6) (T := TX6) (N := 8) hx hb hts in_X6 hown hK hP 0 rfl rfl 2 (by decide) (hts _ (bg _ wd_212)) (fun _ h9 => h9) rfl dX6_readPhase_16 ?_
    obtain ⟨z2, hf⟩ := gd hf
    refine va_cald hx hb hK hP 1 0 rfl rfl z2 dX6_readPhase_19 ?_
    obtain ⟨r4, e3, hf⟩ := bd hf
    refine jr_i (va_runS (As := [.int (a0 a2.toNatClampNeg)]) (rest := []) ⟨hx, hb, hml, hown, hts⟩ (m_X2_isKind l dC dI dA gz  s.heap.size (a0 a2.toNatClampNeg) r4 e3) (va_cwS 1 hts (gi_t bg wd_710 wd_360 wd_3 wd_361) rfl rfl rfl hd3_X2_isKind ⟨Nat.le_of_ble_eq_true rfl, Nat.le_of_ble_eq_true rfl⟩) ⟨pP_blind, pP_pre hP hD hS hA hK hN hZ [] (by decide) rfl⟩ rfl rfl hl.1 rfl (lv_room (Nat.le_of_ble_eq_true rfl)) dX6_readPhase_20 ⟨Nat.le_of_ble_eq_true rfl, Nat.le_of_ble_eq_true rfl⟩) hP hD hS hA [] rfl (fun H locs hP hS => ?_)
    refine lv_if_ne (tgt := 28) hx hb dX6_readPhase_23 (by decide) (fun q5 => ?_) (fun q5 => ?_)
    · have hf := ie q5 hf
      refine lv_aload_n hx hb dX6_readPhase_28 rfl (lv_at hl 0 rfl) ?_
      refine va_get (D := (dC, dI)) (ci := 10) (v := .ref (oa 3)) (C := RX6) (T := TX6) (N := 8) hx hb hts in_X6 hown hK hP 0 rfl rfl 4 (by decide) (hts _ (bg _ wd_216)) (fun _ h9 => h9) rfl dX6_readPhase_29 ?_
      refine lv_iload_n hx hb dX6_readPhase_32 rfl (lv_at hl 1 rfl) ?_
      refine lv_aload_n hx hb dX6_readPhase_33 rfl (lv_at hl 0 rfl) ?_
      refine va_get (D := (dC, dI)) (ci := 10) (v := .ref (oa 1)) (C := RX6) (T := TX6) (N := 8) hx hb hts in_X6 hown hK hP 0 rfl rfl 0 (by decide) (hts _ (bg _ wd_209)) (fun _ h9 => h9) rfl dX6_readPhase_34 ?_
      refine lv_aload_n hx hb dX6_readPhase_37 rfl (lv_at hl 0 rfl) ?_
      refine va_get (D := (dC, dI)) (ci := 10) (v := .int a2) (C := RX6) (T := TX6) (N := 8) hx hb hts in_X6 hown hK hP 0 rfl rfl 2 (by decide) (hts _ (bg _ wd_212)) (fun _ h9 => h9) rfl dX6_readPhase_38 ?_
      obtain ⟨z6, hf⟩ := gd hf
      refine va_cald hx hb hK hP 1 0 rfl rfl z6 dX6_readPhase_41 ?_
      obtain ⟨z7, hf⟩ := gd hf
      refine va_cast hx hb hK hP hD hS 3 0 rfl rfl z7 dX6_readPhase_42 (fun H locs hP hD hS => ?_)
      have hP : va_P (dC, dI) vwCl [(oa 0, .inr (10, [.ref (oa 1), .int a1, .int a2, .ref (oa 2), .ref (oa 3), .ref (oa 4), .ref (oa 5), .int a7])), (oa 1, .inl (dA 0, 60, .inl a0)), (oa 2, .inl (dA 1, 13, .inl a3)), (oa 3, .inl (dA 0, 13, .inl (upd a4 p1.toNatClampNeg (vp_nar .char (a0 a2.toNatClampNeg))))), (oa 4, .inl (dA 1, 13, .inl a5)), (oa 5, .inl (dA 1, 13, .inl a6))] H := hP
      have hD : va_D A [(oa 0, .inr (10, [.ref (oa 1), .int a1, .int a2, .ref (oa 2), .ref (oa 3), .ref (oa 4), .ref (oa 5), .int a7])), (oa 1, .inl (dA 0, 60, .inl a0)), (oa 2, .inl (dA 1, 13, .inl a3)), (oa 3, .inl (dA 0, 13, .inl (upd a4 p1.toNatClampNeg (vp_nar .char (a0 a2.toNatClampNeg))))), (oa 4, .inl (dA 1, 13, .inl a5)), (oa 5, .inl (dA 1, 13, .inl a6))] := hD
      refine lv_aload_n hx hb dX6_readPhase_43 rfl (lv_at hl 0 rfl) ?_
      refine lv_dup hx hb dX6_readPhase_44 rfl ?_
      refine va_get (D := (dC, dI)) (ci := 10) (v := .int a2) (C := RX6) (T := TX6) (N := 8) hx hb hts in_X6 hown hK hP 0 rfl rfl 2 (by decide) (hts _ (bg _ wd_212)) (fun _ h9 => h9) rfl dX6_readPhase_45 ?_
      refine lv_iconst (v := 1) hx hb dX6_readPhase_48 (by decide) ?_
      refine lv_iadd hx hb dX6_readPhase_49 ?_
      refine va_put (D := (dC, dI)) (ci := 10) (v := .int (a2 + 1)) (ty := .int) (C := RX6) (T := TX6) (N := 8) hx hb hts in_X6 tyX6 tyX6_ok nmX6 hown hK hP hD hS 0 rfl rfl 2 (by decide) (hts _ (bg _ wd_212)) (fun _ h9 => h9) rfl (by decide +kernel) rfl rfl (Nat.le_of_ble_eq_true rfl) dX6_readPhase_50 (fun H locs hP hD hS => ?_)
      have hP : va_P (dC, dI) vwCl [(oa 0, .inr (10, [.ref (oa 1), .int a1, .int (a2 + 1), .ref (oa 2), .ref (oa 3), .ref (oa 4), .ref (oa 5), .int a7])), (oa 1, .inl (dA 0, 60, .inl a0)), (oa 2, .inl (dA 1, 13, .inl a3)), (oa 3, .inl (dA 0, 13, .inl (upd a4 p1.toNatClampNeg (vp_nar .char (a0 a2.toNatClampNeg))))), (oa 4, .inl (dA 1, 13, .inl a5)), (oa 5, .inl (dA 1, 13, .inl a6))] H := hP
      have hD : va_D A [(oa 0, .inr (10, [.ref (oa 1), .int a1, .int (a2 + 1), .ref (oa 2), .ref (oa 3), .ref (oa 4), .ref (oa 5), .int a7])), (oa 1, .inl (dA 0, 60, .inl a0)), (oa 2, .inl (dA 1, 13, .inl a3)), (oa 3, .inl (dA 0, 13, .inl (upd a4 p1.toNatClampNeg (vp_nar .char (a0 a2.toNatClampNeg))))), (oa 4, .inl (dA 1, 13, .inl a5)), (oa 5, .inl (dA 1, 13, .inl a6))] := hD
      refine lv_aload_n hx hb dX6_readPhase_53 rfl (lv_at hl 0 rfl) ?_
      refine lv_bipush (v := 32) hx hb dX6_readPhase_54 (by decide) ?_
      obtain ⟨r10, c9_0, c9_1, c9_2, c9_3, c9_4, c9_5, c9_6, c9_7, e8, hf⟩ := bIX6_inv hf
      refine jn_i (va_runV (As := [.int 32]) (rest := []) ⟨hx, hb, hml, hown, hts⟩ (m_X6_readSign l dC dI dA gz oa H.size a0 a1 (a2 + 1) a3 (upd a4 p1.toNatClampNeg (vp_nar .char (a0 a2.toNatClampNeg))) a5 a6 a7 32 r10 (c9_0, c9_1, c9_2, c9_3, c9_4, c9_5, c9_6, c9_7) e8) (cwV 1 hts (gi_v bg wd_711 wd_713 ws_10 wd_8 wd_714) rfl rfl rfl hd_X6_readSign ⟨Nat.le_of_ble_eq_true rfl, Nat.le_of_ble_eq_true rfl⟩) ⟨pP_blind, va_recv (ci := 10) (q0 := 0) hK hP rfl rfl, pP_pre hP hD hS hA hK hN hZ [0, 1, 2, 3, 4, 5] (by decide) rfl⟩ rfl rfl hl.1 rfl (lv_room (Nat.le_of_ble_eq_true rfl)) dX6_readPhase_56 ⟨Nat.le_of_ble_eq_true rfl, Nat.le_of_ble_eq_true rfl⟩) hP hD hS hA [0, 1, 2, 3, 4, 5] rfl rfl (fun H locs hP hD hS => ?_)
      have hP : va_P (dC, dI) vwCl [(oa 0, .inr (10, [.ref (oa 1), .int c9_1, .int c9_2, .ref (oa 2), .ref (oa 3), .ref (oa 4), .ref (oa 5), .int c9_7])), (oa 1, .inl (dA 0, 60, .inl c9_0)), (oa 2, .inl (dA 1, 13, .inl c9_3)), (oa 3, .inl (dA 0, 13, .inl c9_4)), (oa 4, .inl (dA 1, 13, .inl c9_5)), (oa 5, .inl (dA 1, 13, .inl c9_6))] H := hP
      have hD : va_D A [(oa 0, .inr (10, [.ref (oa 1), .int c9_1, .int c9_2, .ref (oa 2), .ref (oa 3), .ref (oa 4), .ref (oa 5), .int c9_7])), (oa 1, .inl (dA 0, 60, .inl c9_0)), (oa 2, .inl (dA 1, 13, .inl c9_3)), (oa 3, .inl (dA 0, 13, .inl c9_4)), (oa 4, .inl (dA 1, 13, .inl c9_5)), (oa 5, .inl (dA 1, 13, .inl c9_6))] := hD
      refine lv_if_ne (tgt := 64) hx hb dX6_readPhase_59 (by decide) (fun q11 => ?_) (fun q11 => ?_)
      · have hf := ie q11 hf
        refine lv_aload_n hx hb dX6_readPhase_64 rfl (lv_at hl 0 rfl) ?_
        refine va_get (D := (dC, dI)) (ci := 10) (v := .ref (oa 4)) (C := RX6) (T := TX6) (N := 8) hx hb hts in_X6 hown hK hP 0 rfl rfl 5 (by decide) (hts _ (bg _ wd_218)) (fun _ h9 => h9) rfl dX6_readPhase_65 ?_
        refine lv_iload_n hx hb dX6_readPhase_68 rfl (lv_at hl 1 rfl) ?_
        refine lv_aload_n hx hb dX6_readPhase_69 rfl (lv_at hl 0 rfl) ?_
        refine lv_iconst (v := 3) hx hb dX6_readPhase_70 (by decide) ?_
        obtain ⟨r14, c13_0, c13_1, c13_2, c13_3, c13_4, c13_5, c13_6, c13_7, e12, hf⟩ := bIX6_inv hf
        refine jn_i (va_runV (As := [.int 3]) (rest := [.int p1, .ref (oa 4)]) ⟨hx, hb, hml, hown, hts⟩ (m_X6_readNumber l dC dI dA gz oa H.size c9_0 c9_1 c9_2 c9_3 c9_4 c9_5 c9_6 c9_7 3 r14 (c13_0, c13_1, c13_2, c13_3, c13_4, c13_5, c13_6, c13_7) e12) (cwV 1 hts (gi_v bg wd_715 wd_717 ws_11 wd_8 wd_718) rfl rfl rfl hd_X6_readNumber ⟨Nat.le_of_ble_eq_true rfl, Nat.le_of_ble_eq_true rfl⟩) ⟨pP_blind, va_recv (ci := 10) (q0 := 0) hK hP rfl rfl, pP_pre hP hD hS hA hK hN hZ [0, 1, 2, 3, 4, 5] (by decide) rfl⟩ rfl rfl hl.1 rfl (lv_room (Nat.le_of_ble_eq_true rfl)) dX6_readPhase_71 ⟨Nat.le_of_ble_eq_true rfl, Nat.le_of_ble_eq_true rfl⟩) hP hD hS hA [0, 1, 2, 3, 4, 5] rfl rfl (fun H locs hP hD hS => ?_)
        have hP : va_P (dC, dI) vwCl [(oa 0, .inr (10, [.ref (oa 1), .int c13_1, .int c13_2, .ref (oa 2), .ref (oa 3), .ref (oa 4), .ref (oa 5), .int c13_7])), (oa 1, .inl (dA 0, 60, .inl c13_0)), (oa 2, .inl (dA 1, 13, .inl c13_3)), (oa 3, .inl (dA 0, 13, .inl c13_4)), (oa 4, .inl (dA 1, 13, .inl c13_5)), (oa 5, .inl (dA 1, 13, .inl c13_6))] H := hP
        have hD : va_D A [(oa 0, .inr (10, [.ref (oa 1), .int c13_1, .int c13_2, .ref (oa 2), .ref (oa 3), .ref (oa 4), .ref (oa 5), .int c13_7])), (oa 1, .inl (dA 0, 60, .inl c13_0)), (oa 2, .inl (dA 1, 13, .inl c13_3)), (oa 3, .inl (dA 0, 13, .inl c13_4)), (oa 4, .inl (dA 1, 13, .inl c13_5)), (oa 5, .inl (dA 1, 13, .inl c13_6))] := hD
        obtain ⟨z15, hf⟩ := gd hf
        refine va_iast hx hb hK hP hD hS 4 1 rfl rfl z15 dX6_readPhase_74 (fun H locs hP hD hS => ?_)
        have hP : va_P (dC, dI) vwCl [(oa 0, .inr (10, [.ref (oa 1), .int c13_1, .int c13_2, .ref (oa 2), .ref (oa 3), .ref (oa 4), .ref (oa 5), .int c13_7])), (oa 1, .inl (dA 0, 60, .inl c13_0)), (oa 2, .inl (dA 1, 13, .inl c13_3)), (oa 3, .inl (dA 0, 13, .inl c13_4)), (oa 4, .inl (dA 1, 13, .inl (upd c13_5 p1.toNatClampNeg r14))), (oa 5, .inl (dA 1, 13, .inl c13_6))] H := hP
        have hD : va_D A [(oa 0, .inr (10, [.ref (oa 1), .int c13_1, .int c13_2, .ref (oa 2), .ref (oa 3), .ref (oa 4), .ref (oa 5), .int c13_7])), (oa 1, .inl (dA 0, 60, .inl c13_0)), (oa 2, .inl (dA 1, 13, .inl c13_3)), (oa 3, .inl (dA 0, 13, .inl c13_4)), (oa 4, .inl (dA 1, 13, .inl (upd c13_5 p1.toNatClampNeg r14))), (oa 5, .inl (dA 1, 13, .inl c13_6))] := hD
        refine lv_aload_n hx hb dX6_readPhase_75 rfl (lv_at hl 0 rfl) ?_
        refine va_get (D := (dC, dI)) (ci := 10) (v := .ref (oa 4)) (C := RX6) (T := TX6) (N := 8) hx hb hts in_X6 hown hK hP 0 rfl rfl 5 (by decide) (hts _ (bg _ wd_218)) (fun _ h9 => h9) rfl dX6_readPhase_76 ?_
        refine lv_iload_n hx hb dX6_readPhase_79 rfl (lv_at hl 1 rfl) ?_
        obtain ⟨z16, hf⟩ := gd hf
        refine va_iald hx hb hK hP 4 1 rfl rfl z16 dX6_readPhase_80 ?_
        refine lv_iconst (v := (-1)) hx hb dX6_readPhase_81 (by decide) ?_
        refine lv_icmp_eq (tgt := 94) hx hb dX6_readPhase_82 (by decide) (fun q17 => ?_) (fun q17 => ?_)
        · have hf := it q17 hf
          refine lv_iconst (v := 0) hx hb dX6_readPhase_94 (by decide) ?_
          obtain ⟨e8, e9⟩ := Prod.mk.inj (sm hf)
          exact W.zret hx hb hr rfl (fun t ht hW => ⟨⟨_, (), rfl, e8, by rw [← e9, ht]; exact hP, by rw [← e9]; exact hD⟩, hS.F ht⟩) hS.2.2 dX6_readPhase_95
        · have hf := ie q17 hf
          refine lv_aload_n hx hb dX6_readPhase_85 rfl (lv_at hl 0 rfl) ?_
          refine lv_bipush (v := 32) hx hb dX6_readPhase_86 (by decide) ?_
          obtain ⟨r20, c19_0, c19_1, c19_2, c19_3, c19_4, c19_5, c19_6, c19_7, e18, hf⟩ := bIX6_inv hf
          refine jn_i (va_runV (As := [.int 32]) (rest := []) ⟨hx, hb, hml, hown, hts⟩ (m_X6_readSign l dC dI dA gz oa H.size c13_0 c13_1 c13_2 c13_3 c13_4 (upd c13_5 p1.toNatClampNeg r14) c13_6 c13_7 32 r20 (c19_0, c19_1, c19_2, c19_3, c19_4, c19_5, c19_6, c19_7) e18) (cwV 1 hts (gi_v bg wd_711 wd_713 ws_10 wd_8 wd_714) rfl rfl rfl hd_X6_readSign ⟨Nat.le_of_ble_eq_true rfl, Nat.le_of_ble_eq_true rfl⟩) ⟨pP_blind, va_recv (ci := 10) (q0 := 0) hK hP rfl rfl, pP_pre hP hD hS hA hK hN hZ [0, 1, 2, 3, 4, 5] (by decide) rfl⟩ rfl rfl hl.1 rfl (lv_room (Nat.le_of_ble_eq_true rfl)) dX6_readPhase_88 ⟨Nat.le_of_ble_eq_true rfl, Nat.le_of_ble_eq_true rfl⟩) hP hD hS hA [0, 1, 2, 3, 4, 5] rfl rfl (fun H locs hP hD hS => ?_)
          have hP : va_P (dC, dI) vwCl [(oa 0, .inr (10, [.ref (oa 1), .int c19_1, .int c19_2, .ref (oa 2), .ref (oa 3), .ref (oa 4), .ref (oa 5), .int c19_7])), (oa 1, .inl (dA 0, 60, .inl c19_0)), (oa 2, .inl (dA 1, 13, .inl c19_3)), (oa 3, .inl (dA 0, 13, .inl c19_4)), (oa 4, .inl (dA 1, 13, .inl c19_5)), (oa 5, .inl (dA 1, 13, .inl c19_6))] H := hP
          have hD : va_D A [(oa 0, .inr (10, [.ref (oa 1), .int c19_1, .int c19_2, .ref (oa 2), .ref (oa 3), .ref (oa 4), .ref (oa 5), .int c19_7])), (oa 1, .inl (dA 0, 60, .inl c19_0)), (oa 2, .inl (dA 1, 13, .inl c19_3)), (oa 3, .inl (dA 0, 13, .inl c19_4)), (oa 4, .inl (dA 1, 13, .inl c19_5)), (oa 5, .inl (dA 1, 13, .inl c19_6))] := hD
          refine lv_if_ne (tgt := 96) hx hb dX6_readPhase_91 (by decide) (fun q21 => ?_) (fun q21 => ?_)
          · have hf := ie q21 hf
            refine lv_aload_n hx hb dX6_readPhase_96 rfl (lv_at hl 0 rfl) ?_
            refine va_get (D := (dC, dI)) (ci := 10) (v := .ref (oa 5)) (C := RX6) (T := TX6) (N := 8) hx hb hts in_X6 hown hK hP 0 rfl rfl 6 (by decide) (hts _ (bg _ wd_220)) (fun _ h9 => h9) rfl dX6_readPhase_97 ?_
            refine lv_iload_n hx hb dX6_readPhase_100 rfl (lv_at hl 1 rfl) ?_
            refine lv_aload_n hx hb dX6_readPhase_101 rfl (lv_at hl 0 rfl) ?_
            refine lv_iconst (v := 1) hx hb dX6_readPhase_102 (by decide) ?_
            obtain ⟨r24, c23_0, c23_1, c23_2, c23_3, c23_4, c23_5, c23_6, c23_7, e22, hf⟩ := bIX6_inv hf
            refine jn_i (va_runV (As := [.int 1]) (rest := [.int p1, .ref (oa 5)]) ⟨hx, hb, hml, hown, hts⟩ (m_X6_readNumber l dC dI dA gz oa H.size c19_0 c19_1 c19_2 c19_3 c19_4 c19_5 c19_6 c19_7 1 r24 (c23_0, c23_1, c23_2, c23_3, c23_4, c23_5, c23_6, c23_7) e22) (cwV 1 hts (gi_v bg wd_715 wd_717 ws_11 wd_8 wd_718) rfl rfl rfl hd_X6_readNumber ⟨Nat.le_of_ble_eq_true rfl, Nat.le_of_ble_eq_true rfl⟩) ⟨pP_blind, va_recv (ci := 10) (q0 := 0) hK hP rfl rfl, pP_pre hP hD hS hA hK hN hZ [0, 1, 2, 3, 4, 5] (by decide) rfl⟩ rfl rfl hl.1 rfl (lv_room (Nat.le_of_ble_eq_true rfl)) dX6_readPhase_103 ⟨Nat.le_of_ble_eq_true rfl, Nat.le_of_ble_eq_true rfl⟩) hP hD hS hA [0, 1, 2, 3, 4, 5] rfl rfl (fun H locs hP hD hS => ?_)
            have hP : va_P (dC, dI) vwCl [(oa 0, .inr (10, [.ref (oa 1), .int c23_1, .int c23_2, .ref (oa 2), .ref (oa 3), .ref (oa 4), .ref (oa 5), .int c23_7])), (oa 1, .inl (dA 0, 60, .inl c23_0)), (oa 2, .inl (dA 1, 13, .inl c23_3)), (oa 3, .inl (dA 0, 13, .inl c23_4)), (oa 4, .inl (dA 1, 13, .inl c23_5)), (oa 5, .inl (dA 1, 13, .inl c23_6))] H := hP
            have hD : va_D A [(oa 0, .inr (10, [.ref (oa 1), .int c23_1, .int c23_2, .ref (oa 2), .ref (oa 3), .ref (oa 4), .ref (oa 5), .int c23_7])), (oa 1, .inl (dA 0, 60, .inl c23_0)), (oa 2, .inl (dA 1, 13, .inl c23_3)), (oa 3, .inl (dA 0, 13, .inl c23_4)), (oa 4, .inl (dA 1, 13, .inl c23_5)), (oa 5, .inl (dA 1, 13, .inl c23_6))] := hD
            obtain ⟨z25, hf⟩ := gd hf
            refine va_iast hx hb hK hP hD hS 5 1 rfl rfl z25 dX6_readPhase_106 (fun H locs hP hD hS => ?_)
            have hP : va_P (dC, dI) vwCl [(oa 0, .inr (10, [.ref (oa 1), .int c23_1, .int c23_2, .ref (oa 2), .ref (oa 3), .ref (oa 4), .ref (oa 5), .int c23_7])), (oa 1, .inl (dA 0, 60, .inl c23_0)), (oa 2, .inl (dA 1, 13, .inl c23_3)), (oa 3, .inl (dA 0, 13, .inl c23_4)), (oa 4, .inl (dA 1, 13, .inl c23_5)), (oa 5, .inl (dA 1, 13, .inl (upd c23_6 p1.toNatClampNeg r24)))] H := hP
            have hD : va_D A [(oa 0, .inr (10, [.ref (oa 1), .int c23_1, .int c23_2, .ref (oa 2), .ref (oa 3), .ref (oa 4), .ref (oa 5), .int c23_7])), (oa 1, .inl (dA 0, 60, .inl c23_0)), (oa 2, .inl (dA 1, 13, .inl c23_3)), (oa 3, .inl (dA 0, 13, .inl c23_4)), (oa 4, .inl (dA 1, 13, .inl c23_5)), (oa 5, .inl (dA 1, 13, .inl (upd c23_6 p1.toNatClampNeg r24)))] := hD
            refine lv_aload_n hx hb dX6_readPhase_107 rfl (lv_at hl 0 rfl) ?_
            refine va_get (D := (dC, dI)) (ci := 10) (v := .ref (oa 5)) (C := RX6) (T := TX6) (N := 8) hx hb hts in_X6 hown hK hP 0 rfl rfl 6 (by decide) (hts _ (bg _ wd_220)) (fun _ h9 => h9) rfl dX6_readPhase_108 ?_
            refine lv_iload_n hx hb dX6_readPhase_111 rfl (lv_at hl 1 rfl) ?_
            obtain ⟨z26, hf⟩ := gd hf
            refine va_iald hx hb hK hP 5 1 rfl rfl z26 dX6_readPhase_112 ?_
            refine lv_iconst (v := (-1)) hx hb dX6_readPhase_113 (by decide) ?_
            refine lv_icmp_eq (tgt := 121) hx hb dX6_readPhase_114 (by decide) (fun q27 => ?_) (fun q27 => ?_)
            · have hf := it q27 hf
              refine lv_iconst (v := 0) hx hb dX6_readPhase_121 (by decide) ?_
              obtain ⟨e8, e9⟩ := Prod.mk.inj (sm hf)
              exact W.zret hx hb hr rfl (fun t ht hW => ⟨⟨_, (), rfl, e8, by rw [← e9, ht]; exact hP, by rw [← e9]; exact hD⟩, hS.F ht⟩) hS.2.2 dX6_readPhase_122
            · have hf := ie q27 hf
              refine lv_iconst (v := 1) hx hb dX6_readPhase_117 (by decide) ?_
              refine lv_goto (tgt := 122) hx hb dX6_readPhase_118 (by decide) ?_
              obtain ⟨e8, e9⟩ := Prod.mk.inj (sm hf)
              exact W.zret hx hb hr rfl (fun t ht hW => ⟨⟨_, (), rfl, e8, by rw [← e9, ht]; exact hP, by rw [← e9]; exact hD⟩, hS.F ht⟩) hS.2.2 dX6_readPhase_122
          · have hf := it q21 hf
            refine lv_iconst (v := 0) hx hb dX6_readPhase_94 (by decide) ?_
            obtain ⟨e8, e9⟩ := Prod.mk.inj (sm hf)
            exact W.zret hx hb hr rfl (fun t ht hW => ⟨⟨_, (), rfl, e8, by rw [← e9, ht]; exact hP, by rw [← e9]; exact hD⟩, hS.F ht⟩) hS.2.2 dX6_readPhase_95
      · have hf := it q11 hf
        refine lv_iconst (v := 0) hx hb dX6_readPhase_62 (by decide) ?_
        obtain ⟨e8, e9⟩ := Prod.mk.inj (sm hf)
        exact W.zret hx hb hr rfl (fun t ht hW => ⟨⟨_, (), rfl, e8, by rw [← e9, ht]; exact hP, by rw [← e9]; exact hD⟩, hS.F ht⟩) hS.2.2 dX6_readPhase_63
    · have hf := it q5 hf
      refine lv_iconst (v := 0) hx hb dX6_readPhase_26 (by decide) ?_
      obtain ⟨e8, e9⟩ := Prod.mk.inj (sm hf)
      exact W.zret hx hb hr rfl (fun t ht hW => ⟨⟨_, (), rfl, e8, by rw [← e9, ht]; exact hP, by rw [← e9]; exact hD⟩, hS.F ht⟩) hS.2.2 dX6_readPhase_27
/-! X6_readCommand -/
def f_X6_readCommand_89 (p1 : Int32) (m0 : Ar) (m1 : Int32) (m2 : Int32) (m3 : Ar) (m4 : Ar) (m5 : Ar) (m6 : Ar) (m7 : Int32) : Option (Int32 × SX6) :=
  bIX6 (f_X6_readNumber m0 m1 m2 m3 m4 m5 m6 m7 3) fun r3 c2_0 c2_1 c2_2 c2_3 c2_4 c2_5 c2_6 c2_7 =>
  if p1 < 0 ∨ 13 ≤ p1.toNatClampNeg then none else
  if p1 < 0 ∨ 13 ≤ p1.toNatClampNeg then none else
  (if ((upd c2_5 p1.toNatClampNeg r3) p1.toNatClampNeg) = (-1) then some (0, (c2_0, c2_1, c2_2, c2_3, c2_4, (upd c2_5 p1.toNatClampNeg r3), c2_6, c2_7)) else
  some (1, (c2_0, c2_1, c2_2, c2_3, c2_4, (upd c2_5 p1.toNatClampNeg r3), c2_6, c2_7)))
def f_X6_readCommand (a0 : Ar) (a1 : Int32) (a2 : Int32) (a3 : Ar) (a4 : Ar) (a5 : Ar) (a6 : Ar) (a7 : Int32) (p1 : Int32) : Option (Int32 × SX6) :=
  bIX6 (f_X6_readWord a0 a1 a2 a3 a4 a5 a6 a7) fun r9 c8_0 c8_1 c8_2 c8_3 c8_4 c8_5 c8_6 c8_7 =>
  if p1 < 0 ∨ 13 ≤ p1.toNatClampNeg then none else
  (if r9 = (-1) then some (0, (c8_0, c8_1, c8_2, (upd c8_3 p1.toNatClampNeg r9), c8_4, c8_5, c8_6, c8_7)) else
  (if r9 = 0 then bIX6 (f_X6_readPhase c8_0 c8_1 c8_2 (upd c8_3 p1.toNatClampNeg r9) c8_4 c8_5 c8_6 c8_7 p1) fun r15 c14_0 c14_1 c14_2 c14_3 c14_4 c14_5 c14_6 c14_7 =>
  if ¬ (r15 = 0 ∨ r15 = 1) then none else
  some (r15, (c14_0, c14_1, c14_2, c14_3, c14_4, c14_5, c14_6, c14_7)) else
  (if r9 = 1 then bIX6 (f_X6_readNumber c8_0 c8_1 c8_2 (upd c8_3 p1.toNatClampNeg r9) c8_4 c8_5 c8_6 c8_7 1) fun r20 c19_0 c19_1 c19_2 c19_3 c19_4 c19_5 c19_6 c19_7 =>
  if p1 < 0 ∨ 13 ≤ p1.toNatClampNeg then none else
  if p1 < 0 ∨ 13 ≤ p1.toNatClampNeg then none else
  (if ((upd c19_5 p1.toNatClampNeg r20) p1.toNatClampNeg) = (-1) then some (0, (c19_0, c19_1, c19_2, c19_3, c19_4, (upd c19_5 p1.toNatClampNeg r20), c19_6, c19_7)) else
  some (1, (c19_0, c19_1, c19_2, c19_3, c19_4, (upd c19_5 p1.toNatClampNeg r20), c19_6, c19_7))) else
  (if r9 = 3 then some (1, (c8_0, c8_1, c8_2, (upd c8_3 p1.toNatClampNeg r9), c8_4, c8_5, c8_6, c8_7)) else
  (if r9 = 4 then some (1, (c8_0, c8_1, c8_2, (upd c8_3 p1.toNatClampNeg r9), c8_4, c8_5, c8_6, c8_7)) else
  f_X6_readCommand_89 p1 c8_0 c8_1 c8_2 (upd c8_3 p1.toNatClampNeg r9) c8_4 c8_5 c8_6 c8_7)))))
set_option maxRecDepth 100000 in
set_option maxHeartbeats 4000000 in
theorem m_X6_readCommand (l : Launch) (dC : Nat → ClassId) (dI : Nat → Nat → Nat) (dA gz : Nat → Nat) (oa : Nat → Nat) (sz : Nat) (a0 : Ar) (a1 : Int32) (a2 : Int32) (a3 : Ar) (a4 : Ar) (a5 : Ar) (a6 : Ar) (a7 : Int32) (p1 : Int32) (rr : Int32) (uu : SX6) (hf : f_X6_readCommand a0 a1 a2 a3 a4 a5 a6 a7 p1 = some (rr, uu)) : Met l yX6_readCommand ws_X6_readCommand ({ frames := 38, cells := 0, slots := 0, locals := 1600 } : Room) (va_Pc [.ref (oa 0), .int p1] (pP (dC, dI) dA gz (wX6 dA oa (a0, a1, a2, a3, a4, a5, a6, a7)) sz)) (va_Qi (S := Unit) (fun r' _ => r' = rr) (fun _ t => pQ (dC, dI) (va_A (wX6 dA oa (a0, a1, a2, a3, a4, a5, a6, a7)) sz) (wX6 dA oa uu) t) (va_A (wX6 dA oa (a0, a1, a2, a3, a4, a5, a6, a7)) sz)) 0 0 (va_A (wX6 dA oa (a0, a1, a2, a3, a4, a5, a6, a7)) sz) := by
  refine Met.ofW (cc := cX6_readCommand) (maxL := 3) (ret := (some .boolean)) (by decide) rfl ?_
  intro p e s m args below meth c s₁ B hml hv
  obtain ⟨rfl, hsz, hP, hK, hD0, hN, hZ⟩ := hv
  have hx := B.exec
  have hb := B.bytes
  have hr := B.returns
  have hts := atoms_spec (ws := ws_X6_readCommand) B.pre
  have hown : s.vm.findClass RX6 = some m.cls := findClass_of_methodNamed B.named
  have hlocks := B.notSynchronized
  subst hsz
  have hD := hD0.self (sz := s.heap.size)
  generalize hAe : va_A (wX6 dA oa (a0, a1, a2, a3, a4, a5, a6, a7)) s.heap.size = A at hD hZ ⊢
  have hA : ∀ q : Nat, s.heap.size ≤ q → A q := fun q h => by rw [← hAe]; exact Or.inr h
  have hS : va_S A s.heap s.heap [] := va_S.rf
  have hP : va_P (dC, dI) vwCl [(oa 0, .inr (10, [.ref (oa 1), .int a1, .int a2, .ref (oa 2), .ref (oa 3), .ref (oa 4), .ref (oa 5), .int a7])), (oa 1, .inl (dA 0, 60, .inl a0)), (oa 2, .inl (dA 1, 13, .inl a3)), (oa 3, .inl (dA 0, 13, .inl a4)), (oa 4, .inl (dA 1, 13, .inl a5)), (oa 5, .inl (dA 1, 13, .inl a6))] s.heap := hP
  have hD : va_D A [(oa 0, .inr (10, [.ref (oa 1), .int a1, .int a2, .ref (oa 2), .ref (oa 3), .ref (oa 4), .ref (oa 5), .int a7])), (oa 1, .inl (dA 0, 60, .inl a0)), (oa 2, .inl (dA 1, 13, .inl a3)), (oa 3, .inl (dA 0, 13, .inl a4)), (oa 4, .inl (dA 1, 13, .inl a5)), (oa 5, .inl (dA 1, 13, .inl a6))] := hD
  have hl := lv_entry [.ref (oa 0), .int p1] (n := 3) (Nat.le_of_ble_eq_true rfl)
  rw [lg_entry_eq]
  generalize (lg_sl [.ref (oa 0), .int p1] ++ List.replicate (3 - (lg_sl [.ref (oa 0), .int p1]).length) Slot.unset).toArray = ls at hl ⊢
  have hl : lv_has ls 3 [(0, .ref (oa 0)), (1, .int p1)] := hl
  have in_X6 : ∀ w ∈ wsX60, w ∈ ws_X6_readCommand := fun w h => bg _ (inB_X6 w h)
  have cut89 : ∀ (m0 : Ar) (m1 : Int32) (m2 : Int32) (m3 : Ar) (m4 : Ar) (m5 : Ar) (m6 : Ar) (m7 : Int32) (H : Heap) (locs : List Loc) (ls : Array Slot), f_X6_readCommand_89 p1 m0 m1 m2 m3 m4 m5 m6 m7 = some (rr, uu) → va_P (dC, dI) vwCl [(oa 0, .inr (10, [.ref (oa 1), .int m1, .int m2, .ref (oa 2), .ref (oa 3), .ref (oa 4), .ref (oa 5), .int m7])), (oa 1, .inl (dA 0, 60, .inl m0)), (oa 2, .inl (dA 1, 13, .inl m3)), (oa 3, .inl (dA 0, 13, .inl m4)), (oa 4, .inl (dA 1, 13, .inl m5)), (oa 5, .inl (dA 1, 13, .inl m6))] H → va_D A [(oa 0, .inr (10, [.ref (oa 1), .int m1, .int m2, .ref (oa 2), .ref (oa 3), .ref (oa 4), .ref (oa 5), .int m7])), (oa 1, .inl (dA 0, 60, .inl m0)), (oa 2, .inl (dA 1, 13, .inl m3)), (oa 3, .inl (dA 0, 13, .inl m4)), (oa 4, .inl (dA 1, 13, .inl m5)), (oa 5, .inl (dA 1, 13, .inl m6))] → va_S A s.heap H locs → lv_has ls 3 [(0, .ref (oa 0)), (1, .int p1)] → W p l e (headSpec ws_X6_readCommand ({ frames := 38, cells := 0, slots := 0, locals := 1600 } : Room)).room s m ([.ref (oa 0), .int p1] : List Value).toArray below meth c H locs 0 0 (MQ below (va_Qi (S := Unit) (fun r' _ => r' = rr) (fun _ t => pQ (dC, dI) A (wX6 dA oa uu) t) A) ([.ref (oa 0), .int p1] : List Value).toArray s 0 0 A) (F0 m 89 ls []) := by
    intro m0 m1 m2 m3 m4 m5 m6 m7 H locs ls hf hP hD hS hl
    rw [f_X6_readCommand_89] at hf
    refine lv_aload_n hx hb dX6_readCommand_89 rfl (lv_at hl 0 rfl) ?_
    refine va_get (D := (dC, dI)) (ci := 10) (v := .ref (oa 4)) (C := RX6) (T := TX6) (N := 8) hx hb hts in_X6 hown hK hP 0 rfl rfl 5 (by decide) (hts _ (bg _ wd_218)) (fun _ h9 => h9) rfl dX6_readCommand_90 ?_
    refine lv_iload_n hx hb dX6_readCommand_93 rfl (lv_at hl 1 rfl) ?_
    refine lv_aload_n hx hb dX6_readCommand_94 rfl (lv_at hl 0 rfl) ?_
    refine lv_iconst (v := 3) hx hb dX6_readCommand_95 (by decide) ?_
    obtain ⟨r3, c2_0, c2_1, c2_2, c2_3, c2_4, c2_5, c2_6, c2_7, e1, hf⟩ := bIX6_inv hf
    refine jn_i (va_runV (As := [.int 3]) (rest := [.int p1, .ref (oa 4)]) ⟨hx, hb, hml, hown, hts⟩ (m_X6_readNumber l dC dI dA gz oa H.size m0 m1 m2 m3 m4 m5 m6 m7 3 r3 (c2_0, c2_1, c2_2, c2_3, c2_4, c2_5, c2_6, c2_7) e1) (cwV 1 hts (gi_v bg wd_715 wd_717 ws_11 wd_8 wd_718) rfl rfl rfl hd_X6_readNumber ⟨Nat.le_of_ble_eq_true rfl, Nat.le_of_ble_eq_true rfl⟩) ⟨pP_blind, va_recv (ci := 10) (q0 := 0) hK hP rfl rfl, pP_pre hP hD hS hA hK hN hZ [0, 1, 2, 3, 4, 5] (by decide) rfl⟩ rfl rfl hl.1 rfl (lv_room (Nat.le_of_ble_eq_true rfl)) dX6_readCommand_96 ⟨Nat.le_of_ble_eq_true rfl, Nat.le_of_ble_eq_true rfl⟩) hP hD hS hA [0, 1, 2, 3, 4, 5] rfl rfl (fun H locs hP hD hS => ?_)
    have hP : va_P (dC, dI) vwCl [(oa 0, .inr (10, [.ref (oa 1), .int c2_1, .int c2_2, .ref (oa 2), .ref (oa 3), .ref (oa 4), .ref (oa 5), .int c2_7])), (oa 1, .inl (dA 0, 60, .inl c2_0)), (oa 2, .inl (dA 1, 13, .inl c2_3)), (oa 3, .inl (dA 0, 13, .inl c2_4)), (oa 4, .inl (dA 1, 13, .inl c2_5)), (oa 5, .inl (dA 1, 13, .inl c2_6))] H := hP
    have hD : va_D A [(oa 0, .inr (10, [.ref (oa 1), .int c2_1, .int c2_2, .ref (oa 2), .ref (oa 3), .ref (oa 4), .ref (oa 5), .int c2_7])), (oa 1, .inl (dA 0, 60, .inl c2_0)), (oa 2, .inl (dA 1, 13, .inl c2_3)), (oa 3, .inl (dA 0, 13, .inl c2_4)), (oa 4, .inl (dA 1, 13, .inl c2_5)), (oa 5, .inl (dA 1, 13, .inl c2_6))] := hD
    obtain ⟨z4, hf⟩ := gd hf
    refine va_iast hx hb hK hP hD hS 4 1 rfl rfl z4 dX6_readCommand_99 (fun H locs hP hD hS => ?_)
    have hP : va_P (dC, dI) vwCl [(oa 0, .inr (10, [.ref (oa 1), .int c2_1, .int c2_2, .ref (oa 2), .ref (oa 3), .ref (oa 4), .ref (oa 5), .int c2_7])), (oa 1, .inl (dA 0, 60, .inl c2_0)), (oa 2, .inl (dA 1, 13, .inl c2_3)), (oa 3, .inl (dA 0, 13, .inl c2_4)), (oa 4, .inl (dA 1, 13, .inl (upd c2_5 p1.toNatClampNeg r3))), (oa 5, .inl (dA 1, 13, .inl c2_6))] H := hP
    have hD : va_D A [(oa 0, .inr (10, [.ref (oa 1), .int c2_1, .int c2_2, .ref (oa 2), .ref (oa 3), .ref (oa 4), .ref (oa 5), .int c2_7])), (oa 1, .inl (dA 0, 60, .inl c2_0)), (oa 2, .inl (dA 1, 13, .inl c2_3)), (oa 3, .inl (dA 0, 13, .inl c2_4)), (oa 4, .inl (dA 1, 13, .inl (upd c2_5 p1.toNatClampNeg r3))), (oa 5, .inl (dA 1, 13, .inl c2_6))] := hD
    refine lv_aload_n hx hb dX6_readCommand_100 rfl (lv_at hl 0 rfl) ?_
    refine va_get (D := (dC, dI)) (ci := 10) (v := .ref (oa 4)) (C := RX6) (T := TX6) (N := 8) hx hb hts in_X6 hown hK hP 0 rfl rfl 5 (by decide) (hts _ (bg _ wd_218)) (fun _ h9 => h9) rfl dX6_readCommand_101 ?_
    refine lv_iload_n hx hb dX6_readCommand_104 rfl (lv_at hl 1 rfl) ?_
    obtain ⟨z5, hf⟩ := gd hf
    refine va_iald hx hb hK hP 4 1 rfl rfl z5 dX6_readCommand_105 ?_
    refine lv_iconst (v := (-1)) hx hb dX6_readCommand_106 (by decide) ?_
    refine lv_icmp_eq (tgt := 114) hx hb dX6_readCommand_107 (by decide) (fun q6 => ?_) (fun q6 => ?_)
    · have hf := it q6 hf
      refine lv_iconst (v := 0) hx hb dX6_readCommand_114 (by decide) ?_
      obtain ⟨e8, e9⟩ := Prod.mk.inj (sm hf)
      exact W.zret hx hb hr rfl (fun t ht hW => ⟨⟨_, (), rfl, e8, by rw [← e9, ht]; exact hP, by rw [← e9]; exact hD⟩, hS.F ht⟩) hS.2.2 dX6_readCommand_115
    · have hf := ie q6 hf
      refine lv_iconst (v := 1) hx hb dX6_readCommand_110 (by decide) ?_
      refine lv_goto (tgt := 115) hx hb dX6_readCommand_111 (by decide) ?_
      obtain ⟨e8, e9⟩ := Prod.mk.inj (sm hf)
      exact W.zret hx hb hr rfl (fun t ht hW => ⟨⟨_, (), rfl, e8, by rw [← e9, ht]; exact hP, by rw [← e9]; exact hD⟩, hS.F ht⟩) hS.2.2 dX6_readCommand_115
  rw [f_X6_readCommand] at hf
  refine lv_aload_n hx hb dX6_readCommand_0 rfl (lv_at hl 0 rfl) ?_
  obtain ⟨r9, c8_0, c8_1, c8_2, c8_3, c8_4, c8_5, c8_6, c8_7, e7, hf⟩ := bIX6_inv hf
  refine jn_i (va_runV (As := []) (rest := []) ⟨hx, hb, hml, hown, hts⟩ (m_X6_readWord l dC dI dA gz oa s.heap.size a0 a1 a2 a3 a4 a5 a6 a7 r9 (c8_0, c8_1, c8_2, c8_3, c8_4, c8_5, c8_6, c8_7) e7) (cwV 0 hts (gi_v bg wd_638 wd_640 ws_7 wd_8 wd_641) rfl rfl rfl hd_X6_readWord ⟨Nat.le_of_ble_eq_true rfl, Nat.le_of_ble_eq_true rfl⟩) ⟨pP_blind, va_recv (ci := 10) (q0 := 0) hK hP rfl rfl, pP_pre hP hD hS hA hK hN hZ [0, 1, 2, 3, 4, 5] (by decide) rfl⟩ rfl rfl hl.1 rfl (lv_room (Nat.le_of_ble_eq_true rfl)) dX6_readCommand_1 ⟨Nat.le_of_ble_eq_true rfl, Nat.le_of_ble_eq_true rfl⟩) hP hD hS hA [0, 1, 2, 3, 4, 5] rfl rfl (fun H locs hP hD hS => ?_)
  have hP : va_P (dC, dI) vwCl [(oa 0, .inr (10, [.ref (oa 1), .int c8_1, .int c8_2, .ref (oa 2), .ref (oa 3), .ref (oa 4), .ref (oa 5), .int c8_7])), (oa 1, .inl (dA 0, 60, .inl c8_0)), (oa 2, .inl (dA 1, 13, .inl c8_3)), (oa 3, .inl (dA 0, 13, .inl c8_4)), (oa 4, .inl (dA 1, 13, .inl c8_5)), (oa 5, .inl (dA 1, 13, .inl c8_6))] H := hP
  have hD : va_D A [(oa 0, .inr (10, [.ref (oa 1), .int c8_1, .int c8_2, .ref (oa 2), .ref (oa 3), .ref (oa 4), .ref (oa 5), .int c8_7])), (oa 1, .inl (dA 0, 60, .inl c8_0)), (oa 2, .inl (dA 1, 13, .inl c8_3)), (oa 3, .inl (dA 0, 13, .inl c8_4)), (oa 4, .inl (dA 1, 13, .inl c8_5)), (oa 5, .inl (dA 1, 13, .inl c8_6))] := hD
  refine lv_istore_n (lv' := [(2, .int r9), (0, .ref (oa 0)), (1, .int p1)]) hx hb dX6_readCommand_4 rfl hl (by decide) rfl (fun ls hl => ?_)
  refine lv_aload_n hx hb dX6_readCommand_5 rfl (lv_at hl 1 rfl) ?_
  refine va_get (D := (dC, dI)) (ci := 10) (v := .ref (oa 2)) (C := RX6) (T := TX6) (N := 8) hx hb hts in_X6 hown hK hP 0 rfl rfl 3 (by decide) (hts _ (bg _ wd_214)) (fun _ h9 => h9) rfl dX6_readCommand_6 ?_
  refine lv_iload_n hx hb dX6_readCommand_9 rfl (lv_at hl 2 rfl) ?_
  refine lv_iload_n hx hb dX6_readCommand_10 rfl (lv_at hl 0 rfl) ?_
  obtain ⟨z10, hf⟩ := gd hf
  refine va_iast hx hb hK hP hD hS 2 1 rfl rfl z10 dX6_readCommand_11 (fun H locs hP hD hS => ?_)
  have hP : va_P (dC, dI) vwCl [(oa 0, .inr (10, [.ref (oa 1), .int c8_1, .int c8_2, .ref (oa 2), .ref (oa 3), .ref (oa 4), .ref (oa 5), .int c8_7])), (oa 1, .inl (dA 0, 60, .inl c8_0)), (oa 2, .inl (dA 1, 13, .inl (upd c8_3 p1.toNatClampNeg r9))), (oa 3, .inl (dA 0, 13, .inl c8_4)), (oa 4, .inl (dA 1, 13, .inl c8_5)), (oa 5, .inl (dA 1, 13, .inl c8_6))] H := hP
  have hD : va_D A [(oa 0, .inr (10, [.ref (oa 1), .int c8_1, .int c8_2, .ref (oa 2), .ref (oa 3), .ref (oa 4), .ref (oa 5), .int c8_7])), (oa 1, .inl (dA 0, 60, .inl c8_0)), (oa 2, .inl (dA 1, 13, .inl (upd c8_3 p1.toNatClampNeg r9))), (oa 3, .inl (dA 0, 13, .inl c8_4)), (oa 4, .inl (dA 1, 13, .inl c8_5)), (oa 5, .inl (dA 1, 13, .inl c8_6))] := hD
  refine lv_iload_n hx hb dX6_readCommand_12 rfl (lv_at hl 0 rfl) ?_
  by_cases q11 : r9 = (-1)
  · have hf := it q11 hf
    refine lv_tableIn (tgt := 52) hx hb dX6_readCommand_13 (by rw [q11]; decide) (by rw [q11]; decide) (by rw [q11]; rfl) (by decide) ?_
    refine lv_iconst (v := 0) hx hb dX6_readCommand_52 (by decide) ?_
    obtain ⟨e8, e9⟩ := Prod.mk.inj (sm hf)
    exact W.zret hx hb hr rfl (fun t ht hW => ⟨⟨_, (), rfl, e8, by rw [← e9, ht]; exact hP, by rw [← e9]; exact hD⟩, hS.F ht⟩) hS.2.2 dX6_readCommand_53
  have hf := ie q11 hf
  by_cases q12 : r9 = 0
  · have hf := it q12 hf
    refine lv_tableIn (tgt := 56) hx hb dX6_readCommand_13 (by rw [q12]; decide) (by rw [q12]; decide) (by rw [q12]; rfl) (by decide) ?_
    refine lv_aload_n hx hb dX6_readCommand_56 rfl (lv_at hl 1 rfl) ?_
    refine lv_iload_n hx hb dX6_readCommand_57 rfl (lv_at hl 2 rfl) ?_
    obtain ⟨r15, c14_0, c14_1, c14_2, c14_3, c14_4, c14_5, c14_6, c14_7, e13, hf⟩ := bIX6_inv hf
    refine jn_i (va_runV (As := [.int p1]) (rest := []) ⟨hx, hb, hml, hown, hts⟩ (m_X6_readPhase l dC dI dA gz oa H.size c8_0 c8_1 c8_2 (upd c8_3 p1.toNatClampNeg r9) c8_4 c8_5 c8_6 c8_7 p1 r15 (c14_0, c14_1, c14_2, c14_3, c14_4, c14_5, c14_6, c14_7) e13) (cwV 1 hts (gi_v bg wd_706 wd_708 ws_9 wd_8 wd_709) rfl rfl rfl hd_X6_readPhase ⟨Nat.le_of_ble_eq_true rfl, Nat.le_of_ble_eq_true rfl⟩) ⟨pP_blind, va_recv (ci := 10) (q0 := 0) hK hP rfl rfl, pP_pre hP hD hS hA hK hN hZ [0, 1, 2, 3, 4, 5] (by decide) rfl⟩ rfl rfl hl.1 rfl (lv_room (Nat.le_of_ble_eq_true rfl)) dX6_readCommand_58 ⟨Nat.le_of_ble_eq_true rfl, Nat.le_of_ble_eq_true rfl⟩) hP hD hS hA [0, 1, 2, 3, 4, 5] rfl rfl (fun H locs hP hD hS => ?_)
    have hP : va_P (dC, dI) vwCl [(oa 0, .inr (10, [.ref (oa 1), .int c14_1, .int c14_2, .ref (oa 2), .ref (oa 3), .ref (oa 4), .ref (oa 5), .int c14_7])), (oa 1, .inl (dA 0, 60, .inl c14_0)), (oa 2, .inl (dA 1, 13, .inl c14_3)), (oa 3, .inl (dA 0, 13, .inl c14_4)), (oa 4, .inl (dA 1, 13, .inl c14_5)), (oa 5, .inl (dA 1, 13, .inl c14_6))] H := hP
    have hD : va_D A [(oa 0, .inr (10, [.ref (oa 1), .int c14_1, .int c14_2, .ref (oa 2), .ref (oa 3), .ref (oa 4), .ref (oa 5), .int c14_7])), (oa 1, .inl (dA 0, 60, .inl c14_0)), (oa 2, .inl (dA 1, 13, .inl c14_3)), (oa 3, .inl (dA 0, 13, .inl c14_4)), (oa 4, .inl (dA 1, 13, .inl c14_5)), (oa 5, .inl (dA 1, 13, .inl c14_6))] := hD
    obtain ⟨z16, hf⟩ := gd hf
    obtain ⟨e8, e9⟩ := Prod.mk.inj (sm hf)
    exact W.zret hx hb hr (nar_z (Decidable.not_not.mp z16)) (fun t ht hW => ⟨⟨_, (), rfl, e8, by rw [← e9, ht]; exact hP, by rw [← e9]; exact hD⟩, hS.F ht⟩) hS.2.2 dX6_readCommand_61
  have hf := ie q12 hf
  by_cases q17 : r9 = 1
  · have hf := it q17 hf
    refine lv_tableIn (tgt := 62) hx hb dX6_readCommand_13 (by rw [q17]; decide) (by rw [q17]; decide) (by rw [q17]; rfl) (by decide) ?_
    refine lv_aload_n hx hb dX6_readCommand_62 rfl (lv_at hl 1 rfl) ?_
    refine va_get (D := (dC, dI)) (ci := 10) (v := .ref (oa 4)) (C := RX6) (T := TX6) (N := 8) hx hb hts in_X6 hown hK hP 0 rfl rfl 5 (by decide) (hts _ (bg _ wd_218)) (fun _ h9 => h9) rfl dX6_readCommand_63 ?_
    refine lv_iload_n hx hb dX6_readCommand_66 rfl (lv_at hl 2 rfl) ?_
    refine lv_aload_n hx hb dX6_readCommand_67 rfl (lv_at hl 1 rfl) ?_
    refine lv_iconst (v := 1) hx hb dX6_readCommand_68 (by decide) ?_
    obtain ⟨r20, c19_0, c19_1, c19_2, c19_3, c19_4, c19_5, c19_6, c19_7, e18, hf⟩ := bIX6_inv hf
    refine jn_i (va_runV (As := [.int 1]) (rest := [.int p1, .ref (oa 4)]) ⟨hx, hb, hml, hown, hts⟩ (m_X6_readNumber l dC dI dA gz oa H.size c8_0 c8_1 c8_2 (upd c8_3 p1.toNatClampNeg r9) c8_4 c8_5 c8_6 c8_7 1 r20 (c19_0, c19_1, c19_2, c19_3, c19_4, c19_5, c19_6, c19_7) e18) (cwV 1 hts (gi_v bg wd_715 wd_717 ws_11 wd_8 wd_718) rfl rfl rfl hd_X6_readNumber ⟨Nat.le_of_ble_eq_true rfl, Nat.le_of_ble_eq_true rfl⟩) ⟨pP_blind, va_recv (ci := 10) (q0 := 0) hK hP rfl rfl, pP_pre hP hD hS hA hK hN hZ [0, 1, 2, 3, 4, 5] (by decide) rfl⟩ rfl rfl hl.1 rfl (lv_room (Nat.le_of_ble_eq_true rfl)) dX6_readCommand_69 ⟨Nat.le_of_ble_eq_true rfl, Nat.le_of_ble_eq_true rfl⟩) hP hD hS hA [0, 1, 2, 3, 4, 5] rfl rfl (fun H locs hP hD hS => ?_)
    have hP : va_P (dC, dI) vwCl [(oa 0, .inr (10, [.ref (oa 1), .int c19_1, .int c19_2, .ref (oa 2), .ref (oa 3), .ref (oa 4), .ref (oa 5), .int c19_7])), (oa 1, .inl (dA 0, 60, .inl c19_0)), (oa 2, .inl (dA 1, 13, .inl c19_3)), (oa 3, .inl (dA 0, 13, .inl c19_4)), (oa 4, .inl (dA 1, 13, .inl c19_5)), (oa 5, .inl (dA 1, 13, .inl c19_6))] H := hP
    have hD : va_D A [(oa 0, .inr (10, [.ref (oa 1), .int c19_1, .int c19_2, .ref (oa 2), .ref (oa 3), .ref (oa 4), .ref (oa 5), .int c19_7])), (oa 1, .inl (dA 0, 60, .inl c19_0)), (oa 2, .inl (dA 1, 13, .inl c19_3)), (oa 3, .inl (dA 0, 13, .inl c19_4)), (oa 4, .inl (dA 1, 13, .inl c19_5)), (oa 5, .inl (dA 1, 13, .inl c19_6))] := hD
    obtain ⟨z21, hf⟩ := gd hf
    refine va_iast hx hb hK hP hD hS 4 1 rfl rfl z21 dX6_readCommand_72 (fun H locs hP hD hS => ?_)
    have hP : va_P (dC, dI) vwCl [(oa 0, .inr (10, [.ref (oa 1), .int c19_1, .int c19_2, .ref (oa 2), .ref (oa 3), .ref (oa 4), .ref (oa 5), .int c19_7])), (oa 1, .inl (dA 0, 60, .inl c19_0)), (oa 2, .inl (dA 1, 13, .inl c19_3)), (oa 3, .inl (dA 0, 13, .inl c19_4)), (oa 4, .inl (dA 1, 13, .inl (upd c19_5 p1.toNatClampNeg r20))), (oa 5, .inl (dA 1, 13, .inl c19_6))] H := hP
    have hD : va_D A [(oa 0, .inr (10, [.ref (oa 1), .int c19_1, .int c19_2, .ref (oa 2), .ref (oa 3), .ref (oa 4), .ref (oa 5), .int c19_7])), (oa 1, .inl (dA 0, 60, .inl c19_0)), (oa 2, .inl (dA 1, 13, .inl c19_3)), (oa 3, .inl (dA 0, 13, .inl c19_4)), (oa 4, .inl (dA 1, 13, .inl (upd c19_5 p1.toNatClampNeg r20))), (oa 5, .inl (dA 1, 13, .inl c19_6))] := hD
    refine lv_aload_n hx hb dX6_readCommand_73 rfl (lv_at hl 1 rfl) ?_
    refine va_get (D := (dC, dI)) (ci := 10) (v := .ref (oa 4)) (C := RX6) (T := TX6) (N := 8) hx hb hts in_X6 hown hK hP 0 rfl rfl 5 (by decide) (hts _ (bg _ wd_218)) (fun _ h9 => h9) rfl dX6_readCommand_74 ?_
    refine lv_iload_n hx hb dX6_readCommand_77 rfl (lv_at hl 2 rfl) ?_
    obtain ⟨z22, hf⟩ := gd hf
    refine va_iald hx hb hK hP 4 1 rfl rfl z22 dX6_readCommand_78 ?_
    refine lv_iconst (v := (-1)) hx hb dX6_readCommand_79 (by decide) ?_
    refine lv_icmp_eq (tgt := 87) hx hb dX6_readCommand_80 (by decide) (fun q23 => ?_) (fun q23 => ?_)
    · have hf := it q23 hf
      refine lv_iconst (v := 0) hx hb dX6_readCommand_87 (by decide) ?_
      obtain ⟨e8, e9⟩ := Prod.mk.inj (sm hf)
      exact W.zret hx hb hr rfl (fun t ht hW => ⟨⟨_, (), rfl, e8, by rw [← e9, ht]; exact hP, by rw [← e9]; exact hD⟩, hS.F ht⟩) hS.2.2 dX6_readCommand_88
    · have hf := ie q23 hf
      refine lv_iconst (v := 1) hx hb dX6_readCommand_83 (by decide) ?_
      refine lv_goto (tgt := 88) hx hb dX6_readCommand_84 (by decide) ?_
      obtain ⟨e8, e9⟩ := Prod.mk.inj (sm hf)
      exact W.zret hx hb hr rfl (fun t ht hW => ⟨⟨_, (), rfl, e8, by rw [← e9, ht]; exact hP, by rw [← e9]; exact hD⟩, hS.F ht⟩) hS.2.2 dX6_readCommand_88
  have hf := ie q17 hf
  by_cases q24 : r9 = 3
  · have hf := it q24 hf
    refine lv_tableIn (tgt := 54) hx hb dX6_readCommand_13 (by rw [q24]; decide) (by rw [q24]; decide) (by rw [q24]; rfl) (by decide) ?_
    refine lv_iconst (v := 1) hx hb dX6_readCommand_54 (by decide) ?_
    obtain ⟨e8, e9⟩ := Prod.mk.inj (sm hf)
    exact W.zret hx hb hr rfl (fun t ht hW => ⟨⟨_, (), rfl, e8, by rw [← e9, ht]; exact hP, by rw [← e9]; exact hD⟩, hS.F ht⟩) hS.2.2 dX6_readCommand_55
  have hf := ie q24 hf
  by_cases q25 : r9 = 4
  · have hf := it q25 hf
    refine lv_tableIn (tgt := 54) hx hb dX6_readCommand_13 (by rw [q25]; decide) (by rw [q25]; decide) (by rw [q25]; rfl) (by decide) ?_
    refine lv_iconst (v := 1) hx hb dX6_readCommand_54 (by decide) ?_
    obtain ⟨e8, e9⟩ := Prod.mk.inj (sm hf)
    exact W.zret hx hb hr rfl (fun t ht hW => ⟨⟨_, (), rfl, e8, by rw [← e9, ht]; exact hP, by rw [← e9]; exact hD⟩, hS.F ht⟩) hS.2.2 dX6_readCommand_55
  have hf := ie q25 hf
  by_cases q26 : r9 = 2
  · refine lv_tableIn (tgt := 89) hx hb dX6_readCommand_13 (by rw [q26]; decide) (by rw [q26]; decide) (by rw [q26]; rfl) (by decide) ?_
    exact cut89 c8_0 c8_1 c8_2 (upd c8_3 p1.toNatClampNeg r9) c8_4 c8_5 c8_6 c8_7 _ _ _ hf hP hD hS (lv_sub hl [1, 2] rfl)
  refine lv_tableOut (tgt := 89) hx hb dX6_readCommand_13 (by have := ti_ne (k := (-1)) q11 (by decide); have := ti_ne (k := 0) q12 (by decide); have := ti_ne (k := 1) q17 (by decide); have := ti_ne (k := 3) q24 (by decide); have := ti_ne (k := 4) q25 (by decide); have := ti_ne (k := 2) q26 (by decide); omega) (by decide) ?_
  exact cut89 c8_0 c8_1 c8_2 (upd c8_3 p1.toNatClampNeg r9) c8_4 c8_5 c8_6 c8_7 _ _ _ hf hP hD hS (lv_sub hl [1, 2] rfl)
/-! X6_readCommands -/
def f_X6_readCommands_12  : Nat → Int32 → Ar → Int32 → Int32 → Ar → Ar → Ar → Ar → Int32 →  Option (Int32 × SX6)
  | 0, _, _, _, _, _, _, _, _, _ => none
  | n + 1, x1, m0, m1, m2, m3, m4, m5, m6, m7 =>
  (if 13 ≤ x1 then some (0, (m0, m1, m2, m3, m4, m5, m6, m7)) else
  bIX6 (f_X6_readCommand m0 m1 m2 m3 m4 m5 m6 m7 x1) fun r4 c3_0 c3_1 c3_2 c3_3 c3_4 c3_5 c3_6 c3_7 =>
  (if r4 = 0 then some (0, (c3_0, c3_1, c3_2, c3_3, c3_4, c3_5, c3_6, c3_7)) else
  bIX6 (f_X6_readSign c3_0 c3_1 c3_2 c3_3 c3_4 c3_5 c3_6 (c3_7 + 1) 59) fun r8 c7_0 c7_1 c7_2 c7_3 c7_4 c7_5 c7_6 c7_7 =>
  (if r8 = 0 then (if c7_2 = c7_1 then some (1, (c7_0, c7_1, c7_2, c7_3, c7_4, c7_5, c7_6, c7_7)) else
  some (0, (c7_0, c7_1, c7_2, c7_3, c7_4, c7_5, c7_6, c7_7))) else
  f_X6_readCommands_12 n (x1 + 1) c7_0 c7_1 c7_2 c7_3 c7_4 c7_5 c7_6 c7_7)))
def f_X6_readCommands (a0 : Ar) (a1 : Int32) (a2 : Int32) (a3 : Ar) (a4 : Ar) (a5 : Ar) (a6 : Ar) (a7 : Int32) : Option (Int32 × SX6) :=
  f_X6_readCommands_12 300 0 a0 a1 0 a3 a4 a5 a6 0
set_option maxRecDepth 100000 in
set_option maxHeartbeats 4000000 in
theorem m_X6_readCommands (l : Launch) (dC : Nat → ClassId) (dI : Nat → Nat → Nat) (dA gz : Nat → Nat) (oa : Nat → Nat) (sz : Nat) (a0 : Ar) (a1 : Int32) (a2 : Int32) (a3 : Ar) (a4 : Ar) (a5 : Ar) (a6 : Ar) (a7 : Int32) (rr : Int32) (uu : SX6) (hf : f_X6_readCommands a0 a1 a2 a3 a4 a5 a6 a7 = some (rr, uu)) : Met l yX6_readCommands ws_X6_readCommands ({ frames := 42, cells := 0, slots := 0, locals := 1800 } : Room) (va_Pc [.ref (oa 0)] (pP (dC, dI) dA gz (wX6 dA oa (a0, a1, a2, a3, a4, a5, a6, a7)) sz)) (va_Qi (S := Unit) (fun r' _ => r' = rr) (fun _ t => pQ (dC, dI) (va_A (wX6 dA oa (a0, a1, a2, a3, a4, a5, a6, a7)) sz) (wX6 dA oa uu) t) (va_A (wX6 dA oa (a0, a1, a2, a3, a4, a5, a6, a7)) sz)) 0 0 (va_A (wX6 dA oa (a0, a1, a2, a3, a4, a5, a6, a7)) sz) := by
  refine Met.ofW (cc := cX6_readCommands) (maxL := 2) (ret := (some .boolean)) (by decide) rfl ?_
  intro p e s m args below meth c s₁ B hml hv
  obtain ⟨rfl, hsz, hP, hK, hD0, hN, hZ⟩ := hv
  have hx := B.exec
  have hb := B.bytes
  have hr := B.returns
  have hts := atoms_spec (ws := ws_X6_readCommands) B.pre
  have hown : s.vm.findClass RX6 = some m.cls := findClass_of_methodNamed B.named
  have hlocks := B.notSynchronized
  subst hsz
  have hD := hD0.self (sz := s.heap.size)
  generalize hAe : va_A (wX6 dA oa (a0, a1, a2, a3, a4, a5, a6, a7)) s.heap.size = A at hD hZ ⊢
  have hA : ∀ q : Nat, s.heap.size ≤ q → A q := fun q h => by rw [← hAe]; exact Or.inr h
  have hS : va_S A s.heap s.heap [] := va_S.rf
  have hP : va_P (dC, dI) vwCl [(oa 0, .inr (10, [.ref (oa 1), .int a1, .int a2, .ref (oa 2), .ref (oa 3), .ref (oa 4), .ref (oa 5), .int a7])), (oa 1, .inl (dA 0, 60, .inl a0)), (oa 2, .inl (dA 1, 13, .inl a3)), (oa 3, .inl (dA 0, 13, .inl a4)), (oa 4, .inl (dA 1, 13, .inl a5)), (oa 5, .inl (dA 1, 13, .inl a6))] s.heap := hP
  have hD : va_D A [(oa 0, .inr (10, [.ref (oa 1), .int a1, .int a2, .ref (oa 2), .ref (oa 3), .ref (oa 4), .ref (oa 5), .int a7])), (oa 1, .inl (dA 0, 60, .inl a0)), (oa 2, .inl (dA 1, 13, .inl a3)), (oa 3, .inl (dA 0, 13, .inl a4)), (oa 4, .inl (dA 1, 13, .inl a5)), (oa 5, .inl (dA 1, 13, .inl a6))] := hD
  have hl := lv_entry [.ref (oa 0)] (n := 2) (Nat.le_of_ble_eq_true rfl)
  rw [lg_entry_eq]
  generalize (lg_sl [.ref (oa 0)] ++ List.replicate (2 - (lg_sl [.ref (oa 0)]).length) Slot.unset).toArray = ls at hl ⊢
  have hl : lv_has ls 2 [(0, .ref (oa 0))] := hl
  have in_X6 : ∀ w ∈ wsX60, w ∈ ws_X6_readCommands := fun w h => bg _ (inB_X6 w h)
  have cut12 : ∀ (n : Nat) (x1 : Int32) (m0 : Ar) (m1 : Int32) (m2 : Int32) (m3 : Ar) (m4 : Ar) (m5 : Ar) (m6 : Ar) (m7 : Int32) (H : Heap) (locs : List Loc) (ls : Array Slot), f_X6_readCommands_12 n x1 m0 m1 m2 m3 m4 m5 m6 m7 = some (rr, uu) → va_P (dC, dI) vwCl [(oa 0, .inr (10, [.ref (oa 1), .int m1, .int m2, .ref (oa 2), .ref (oa 3), .ref (oa 4), .ref (oa 5), .int m7])), (oa 1, .inl (dA 0, 60, .inl m0)), (oa 2, .inl (dA 1, 13, .inl m3)), (oa 3, .inl (dA 0, 13, .inl m4)), (oa 4, .inl (dA 1, 13, .inl m5)), (oa 5, .inl (dA 1, 13, .inl m6))] H → va_D A [(oa 0, .inr (10, [.ref (oa 1), .int m1, .int m2, .ref (oa 2), .ref (oa 3), .ref (oa 4), .ref (oa 5), .int m7])), (oa 1, .inl (dA 0, 60, .inl m0)), (oa 2, .inl (dA 1, 13, .inl m3)), (oa 3, .inl (dA 0, 13, .inl m4)), (oa 4, .inl (dA 1, 13, .inl m5)), (oa 5, .inl (dA 1, 13, .inl m6))] → va_S A s.heap H locs → lv_has ls 2 [(0, .ref (oa 0)), (1, .int x1)] → W p l e (headSpec ws_X6_readCommands ({ frames := 42, cells := 0, slots := 0, locals := 1800 } : Room)).room s m ([.ref (oa 0)] : List Value).toArray below meth c H locs 0 0 (MQ below (va_Qi (S := Unit) (fun r' _ => r' = rr) (fun _ t => pQ (dC, dI) A (wX6 dA oa uu) t) A) ([.ref (oa 0)] : List Value).toArray s 0 0 A) (F0 m 12 ls []) := by
    intro n
    induction n with
    | zero =>
      intro x1 m0 m1 m2 m3 m4 m5 m6 m7 H locs ls hf
      rw [f_X6_readCommands_12] at hf
      cases hf
    | succ n ih =>
      intro x1 m0 m1 m2 m3 m4 m5 m6 m7 H locs ls hf hP hD hS hl
      rw [f_X6_readCommands_12] at hf
      refine lv_iload_n hx hb dX6_readCommands_12 rfl (lv_at hl 1 rfl) ?_
      refine lv_bipush (v := 13) hx hb dX6_readCommands_13 (by decide) ?_
      refine lv_icmp_ge (tgt := 70) hx hb dX6_readCommands_15 (by decide) (fun q1 => ?_) (fun q1 => ?_)
      · have hf := it q1 hf
        refine lv_iconst (v := 0) hx hb dX6_readCommands_70 (by decide) ?_
        obtain ⟨e8, e9⟩ := Prod.mk.inj (sm hf)
        exact W.zret hx hb hr rfl (fun t ht hW => ⟨⟨_, (), rfl, e8, by rw [← e9, ht]; exact hP, by rw [← e9]; exact hD⟩, hS.F ht⟩) hS.2.2 dX6_readCommands_71
      · have hf := ie q1 hf
        refine lv_aload_n hx hb dX6_readCommands_18 rfl (lv_at hl 0 rfl) ?_
        refine lv_iload_n hx hb dX6_readCommands_19 rfl (lv_at hl 1 rfl) ?_
        obtain ⟨r4, c3_0, c3_1, c3_2, c3_3, c3_4, c3_5, c3_6, c3_7, e2, hf⟩ := bIX6_inv hf
        refine jn_i (va_runV (As := [.int x1]) (rest := []) ⟨hx, hb, hml, hown, hts⟩ (m_X6_readCommand l dC dI dA gz oa H.size m0 m1 m2 m3 m4 m5 m6 m7 x1 r4 (c3_0, c3_1, c3_2, c3_3, c3_4, c3_5, c3_6, c3_7) e2) (cwV 1 hts (gi_v bg wd_634 wd_636 ws_6 wd_8 wd_637) rfl rfl rfl hd_X6_readCommand ⟨Nat.le_of_ble_eq_true rfl, Nat.le_of_ble_eq_true rfl⟩) ⟨pP_blind, va_recv (ci := 10) (q0 := 0) hK hP rfl rfl, pP_pre hP hD hS hA hK hN hZ [0, 1, 2, 3, 4, 5] (by decide) rfl⟩ rfl rfl hl.1 rfl (lv_room (Nat.le_of_ble_eq_true rfl)) dX6_readCommands_20 ⟨Nat.le_of_ble_eq_true rfl, Nat.le_of_ble_eq_true rfl⟩) hP hD hS hA [0, 1, 2, 3, 4, 5] rfl rfl (fun H locs hP hD hS => ?_)
        have hP : va_P (dC, dI) vwCl [(oa 0, .inr (10, [.ref (oa 1), .int c3_1, .int c3_2, .ref (oa 2), .ref (oa 3), .ref (oa 4), .ref (oa 5), .int c3_7])), (oa 1, .inl (dA 0, 60, .inl c3_0)), (oa 2, .inl (dA 1, 13, .inl c3_3)), (oa 3, .inl (dA 0, 13, .inl c3_4)), (oa 4, .inl (dA 1, 13, .inl c3_5)), (oa 5, .inl (dA 1, 13, .inl c3_6))] H := hP
        have hD : va_D A [(oa 0, .inr (10, [.ref (oa 1), .int c3_1, .int c3_2, .ref (oa 2), .ref (oa 3), .ref (oa 4), .ref (oa 5), .int c3_7])), (oa 1, .inl (dA 0, 60, .inl c3_0)), (oa 2, .inl (dA 1, 13, .inl c3_3)), (oa 3, .inl (dA 0, 13, .inl c3_4)), (oa 4, .inl (dA 1, 13, .inl c3_5)), (oa 5, .inl (dA 1, 13, .inl c3_6))] := hD
        refine lv_if_ne (tgt := 28) hx hb dX6_readCommands_23 (by decide) (fun q5 => ?_) (fun q5 => ?_)
        · have hf := ie q5 hf
          refine lv_aload_n hx hb dX6_readCommands_28 rfl (lv_at hl 0 rfl) ?_
          refine lv_dup hx hb dX6_readCommands_29 rfl ?_
          refine va_get (D := (dC, dI)) (ci := 10) (v := .int c3_7) (C := RX6) (T := TX6) (N := 8) hx hb hts in_X6 hown hK hP 0 rfl rfl 7 (by decide) (hts _ (bg _ wd_222)) (fun _ h9 => h9) rfl dX6_readCommands_30 ?_
          refine lv_iconst (v := 1) hx hb dX6_readCommands_33 (by decide) ?_
          refine lv_iadd hx hb dX6_readCommands_34 ?_
          refine va_put (D := (dC, dI)) (ci := 10) (v := .int (c3_7 + 1)) (ty := .int) (C := RX6) (T := TX6) (N := 8) hx hb hts in_X6 tyX6 tyX6_ok nmX6 hown hK hP hD hS 0 rfl rfl 7 (by decide) (hts _ (bg _ wd_222)) (fun _ h9 => h9) rfl (by decide +kernel) rfl rfl (Nat.le_of_ble_eq_true rfl) dX6_readCommands_35 (fun H locs hP hD hS => ?_)
          have hP : va_P (dC, dI) vwCl [(oa 0, .inr (10, [.ref (oa 1), .int c3_1, .int c3_2, .ref (oa 2), .ref (oa 3), .ref (oa 4), .ref (oa 5), .int (c3_7 + 1)])), (oa 1, .inl (dA 0, 60, .inl c3_0)), (oa 2, .inl (dA 1, 13, .inl c3_3)), (oa 3, .inl (dA 0, 13, .inl c3_4)), (oa 4, .inl (dA 1, 13, .inl c3_5)), (oa 5, .inl (dA 1, 13, .inl c3_6))] H := hP
          have hD : va_D A [(oa 0, .inr (10, [.ref (oa 1), .int c3_1, .int c3_2, .ref (oa 2), .ref (oa 3), .ref (oa 4), .ref (oa 5), .int (c3_7 + 1)])), (oa 1, .inl (dA 0, 60, .inl c3_0)), (oa 2, .inl (dA 1, 13, .inl c3_3)), (oa 3, .inl (dA 0, 13, .inl c3_4)), (oa 4, .inl (dA 1, 13, .inl c3_5)), (oa 5, .inl (dA 1, 13, .inl c3_6))] := hD
          refine lv_aload_n hx hb dX6_readCommands_38 rfl (lv_at hl 0 rfl) ?_
          refine lv_bipush (v := 59) hx hb dX6_readCommands_39 (by decide) ?_
          obtain ⟨r8, c7_0, c7_1, c7_2, c7_3, c7_4, c7_5, c7_6, c7_7, e6, hf⟩ := bIX6_inv hf
          refine jn_i (va_runV (As := [.int 59]) (rest := []) ⟨hx, hb, hml, hown, hts⟩ (m_X6_readSign l dC dI dA gz oa H.size c3_0 c3_1 c3_2 c3_3 c3_4 c3_5 c3_6 (c3_7 + 1) 59 r8 (c7_0, c7_1, c7_2, c7_3, c7_4, c7_5, c7_6, c7_7) e6) (cwV 1 hts (gi_v bg wd_711 wd_713 ws_10 wd_8 wd_714) rfl rfl rfl hd_X6_readSign ⟨Nat.le_of_ble_eq_true rfl, Nat.le_of_ble_eq_true rfl⟩) ⟨pP_blind, va_recv (ci := 10) (q0 := 0) hK hP rfl rfl, pP_pre hP hD hS hA hK hN hZ [0, 1, 2, 3, 4, 5] (by decide) rfl⟩ rfl rfl hl.1 rfl (lv_room (Nat.le_of_ble_eq_true rfl)) dX6_readCommands_41 ⟨Nat.le_of_ble_eq_true rfl, Nat.le_of_ble_eq_true rfl⟩) hP hD hS hA [0, 1, 2, 3, 4, 5] rfl rfl (fun H locs hP hD hS => ?_)
          have hP : va_P (dC, dI) vwCl [(oa 0, .inr (10, [.ref (oa 1), .int c7_1, .int c7_2, .ref (oa 2), .ref (oa 3), .ref (oa 4), .ref (oa 5), .int c7_7])), (oa 1, .inl (dA 0, 60, .inl c7_0)), (oa 2, .inl (dA 1, 13, .inl c7_3)), (oa 3, .inl (dA 0, 13, .inl c7_4)), (oa 4, .inl (dA 1, 13, .inl c7_5)), (oa 5, .inl (dA 1, 13, .inl c7_6))] H := hP
          have hD : va_D A [(oa 0, .inr (10, [.ref (oa 1), .int c7_1, .int c7_2, .ref (oa 2), .ref (oa 3), .ref (oa 4), .ref (oa 5), .int c7_7])), (oa 1, .inl (dA 0, 60, .inl c7_0)), (oa 2, .inl (dA 1, 13, .inl c7_3)), (oa 3, .inl (dA 0, 13, .inl c7_4)), (oa 4, .inl (dA 1, 13, .inl c7_5)), (oa 5, .inl (dA 1, 13, .inl c7_6))] := hD
          refine lv_if_ne (tgt := 64) hx hb dX6_readCommands_44 (by decide) (fun q9 => ?_) (fun q9 => ?_)
          · have hf := ie q9 hf
            refine lv_iinc (v := (x1 + 1)) (lv' := [(1, .int (x1 + 1)), (0, .ref (oa 0))]) hx hb dX6_readCommands_64 hl (k := 1) rfl rfl (by decide) rfl (fun ls hl => ?_)
            refine lv_goto (tgt := 12) hx hb dX6_readCommands_67 (by decide) ?_
            exact ih (x1 + 1) c7_0 c7_1 c7_2 c7_3 c7_4 c7_5 c7_6 c7_7 _ _ _ hf hP hD hS (lv_sub hl [1, 0] rfl)
          · have hf := it q9 hf
            refine lv_aload_n hx hb dX6_readCommands_47 rfl (lv_at hl 0 rfl) ?_
            refine va_get (D := (dC, dI)) (ci := 10) (v := .int c7_2) (C := RX6) (T := TX6) (N := 8) hx hb hts in_X6 hown hK hP 0 rfl rfl 2 (by decide) (hts _ (bg _ wd_212)) (fun _ h9 => h9) rfl dX6_readCommands_48 ?_
            refine lv_aload_n hx hb dX6_readCommands_51 rfl (lv_at hl 0 rfl) ?_
            refine va_get (D := (dC, dI)) (ci := 10) (v := .int c7_1) (C := RX6) (T := TX6) (N := 8) hx hb hts in_X6 hown hK hP 0 rfl rfl 1 (by decide) (hts _ (bg _ wd_210)) (fun _ h9 => h9) rfl dX6_readCommands_52 ?_
            refine lv_icmp_ne (tgt := 62) hx hb dX6_readCommands_55 (by decide) (fun q10 => ?_) (fun q10 => ?_)
            · have hf := ie q10 hf
              refine lv_iconst (v := 0) hx hb dX6_readCommands_62 (by decide) ?_
              obtain ⟨e8, e9⟩ := Prod.mk.inj (sm hf)
              exact W.zret hx hb hr rfl (fun t ht hW => ⟨⟨_, (), rfl, e8, by rw [← e9, ht]; exact hP, by rw [← e9]; exact hD⟩, hS.F ht⟩) hS.2.2 dX6_readCommands_63
            · have hf := it q10 hf
              refine lv_iconst (v := 1) hx hb dX6_readCommands_58 (by decide) ?_
              refine lv_goto (tgt := 63) hx hb dX6_readCommands_59 (by decide) ?_
              obtain ⟨e8, e9⟩ := Prod.mk.inj (sm hf)
              exact W.zret hx hb hr rfl (fun t ht hW => ⟨⟨_, (), rfl, e8, by rw [← e9, ht]; exact hP, by rw [← e9]; exact hD⟩, hS.F ht⟩) hS.2.2 dX6_readCommands_63
        · have hf := it q5 hf
          refine lv_iconst (v := 0) hx hb dX6_readCommands_26 (by decide) ?_
          obtain ⟨e8, e9⟩ := Prod.mk.inj (sm hf)
          exact W.zret hx hb hr rfl (fun t ht hW => ⟨⟨_, (), rfl, e8, by rw [← e9, ht]; exact hP, by rw [← e9]; exact hD⟩, hS.F ht⟩) hS.2.2 dX6_readCommands_27
  rw [f_X6_readCommands] at hf
  refine lv_aload_n hx hb dX6_readCommands_0 rfl (lv_at hl 0 rfl) ?_
  refine lv_iconst (v := 0) hx hb dX6_readCommands_1 (by decide) ?_
  refine va_put (D := (dC, dI)) (ci := 10) (v := .int 0) (ty := .int) (C := RX6) (T := TX6) (N := 8) hx hb hts in_X6 tyX6 tyX6_ok nmX6 hown hK hP hD hS 0 rfl rfl 2 (by decide) (hts _ (bg _ wd_212)) (fun _ h9 => h9) rfl (by decide +kernel) rfl rfl (Nat.le_of_ble_eq_true rfl) dX6_readCommands_2 (fun H locs hP hD hS => ?_)
  have hP : va_P (dC, dI) vwCl [(oa 0, .inr (10, [.ref (oa 1), .int a1, .int 0, .ref (oa 2), .ref (oa 3), .ref (oa 4), .ref (oa 5), .int a7])), (oa 1, .inl (dA 0, 60, .inl a0)), (oa 2, .inl (dA 1, 13, .inl a3)), (oa 3, .inl (dA 0, 13, .inl a4)), (oa 4, .inl (dA 1, 13, .inl a5)), (oa 5, .inl (dA 1, 13, .inl a6))] H := hP
  have hD : va_D A [(oa 0, .inr (10, [.ref (oa 1), .int a1, .int 0, .ref (oa 2), .ref (oa 3), .ref (oa 4), .ref (oa 5), .int a7])), (oa 1, .inl (dA 0, 60, .inl a0)), (oa 2, .inl (dA 1, 13, .inl a3)), (oa 3, .inl (dA 0, 13, .inl a4)), (oa 4, .inl (dA 1, 13, .inl a5)), (oa 5, .inl (dA 1, 13, .inl a6))] := hD
  refine lv_aload_n hx hb dX6_readCommands_5 rfl (lv_at hl 0 rfl) ?_
  refine lv_iconst (v := 0) hx hb dX6_readCommands_6 (by decide) ?_
  refine va_put (D := (dC, dI)) (ci := 10) (v := .int 0) (ty := .int) (C := RX6) (T := TX6) (N := 8) hx hb hts in_X6 tyX6 tyX6_ok nmX6 hown hK hP hD hS 0 rfl rfl 7 (by decide) (hts _ (bg _ wd_222)) (fun _ h9 => h9) rfl (by decide +kernel) rfl rfl (Nat.le_of_ble_eq_true rfl) dX6_readCommands_7 (fun H locs hP hD hS => ?_)
  have hP : va_P (dC, dI) vwCl [(oa 0, .inr (10, [.ref (oa 1), .int a1, .int 0, .ref (oa 2), .ref (oa 3), .ref (oa 4), .ref (oa 5), .int 0])), (oa 1, .inl (dA 0, 60, .inl a0)), (oa 2, .inl (dA 1, 13, .inl a3)), (oa 3, .inl (dA 0, 13, .inl a4)), (oa 4, .inl (dA 1, 13, .inl a5)), (oa 5, .inl (dA 1, 13, .inl a6))] H := hP
  have hD : va_D A [(oa 0, .inr (10, [.ref (oa 1), .int a1, .int 0, .ref (oa 2), .ref (oa 3), .ref (oa 4), .ref (oa 5), .int 0])), (oa 1, .inl (dA 0, 60, .inl a0)), (oa 2, .inl (dA 1, 13, .inl a3)), (oa 3, .inl (dA 0, 13, .inl a4)), (oa 4, .inl (dA 1, 13, .inl a5)), (oa 5, .inl (dA 1, 13, .inl a6))] := hD
  refine lv_iconst (v := 0) hx hb dX6_readCommands_10 (by decide) ?_
  refine lv_istore_n (lv' := [(1, .int 0), (0, .ref (oa 0))]) hx hb dX6_readCommands_11 rfl hl (by decide) rfl (fun ls hl => ?_)
  exact cut12 300 0 a0 a1 0 a3 a4 a5 a6 0 _ _ _ hf hP hD hS (lv_sub hl [1, 0] rfl)
