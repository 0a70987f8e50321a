theorem arrq (c : ClassId) (n : Nat) (f g : Nat → Option Nat) (h : ∀ j, j < n → f j = g j) : vp_cell c (n, .inr (.inr (.inr (.inr f)))) = vp_cell c (n, .inr (.inr (.inr (.inr g)))) := by
  rw [vp_cell_q, vp_cell_q]
  have e : Array.ofFn (n := n) (fun j => va_rf (f j.val)) = Array.ofFn (n := n) (fun j => va_rf (g j.val)) := congrArg Array.ofFn (funext fun j => by rw [h j.val j.isLt])
  unfold arrV
  rw [e]
theorem P_arrq {D : va_G} {x : Nat × va_E} {qa : Nat} {c : ClassId} {n : Nat} {f g : Nat → Option Nat} {r : va_W} {H : Heap} (h : ∀ j, j < n → f j = g j) (hP : va_P D vwCl (x :: (qa, .inl (c, n, .inr (.inr (.inr (.inr f))))) :: r) H) : va_P D vwCl (x :: (qa, .inl (c, n, .inr (.inr (.inr (.inr g))))) :: r) H := fun k q hk => by
  rcases k with _ | _ | k
  · exact hP 0 q hk
  · cases (Option.some.inj hk)
    have h1 : H[qa]? = some _ := hP 1 _ rfl
    show H[qa]? = some _
    rw [h1]
    exact congrArg some (arrq c n f g h)
  · exact hP (k + 2) q hk
theorem D_arrq {A : Nat → Prop} {x : Nat × va_E} {qa : Nat} {e1 e2 : va_E} {r : va_W} (hD : va_D A (x :: (qa, e1) :: r)) : va_D A (x :: (qa, e2) :: r) := D_addr hD rfl
theorem uni_q {dA : Nat → Nat} {s : State} {dC : Nat → ClassId} {dI : Nat → Nat → Nat} {cA : ClassId} (h : va_K (dC, dI) vwCl (tyA dA ++ [(cA, .object "StoneChurn$Batch")]) s) : cA = dA 3 := Option.some.inj ((va_nmO (h.2 4 _ rfl).2 rfl).symm.trans (va_nmO (h.2 3 _ rfl).2 rfl))
/-- a start that also may make rows of batches -/
abbrev pPo (D : va_G) (dA gz : Nat → Nat) (ws : va_W) (sz : Nat) (U : State) : Prop := pP D dA gz ws sz U ∧ va_AO "StoneChurn$Batch" U
theorem pPo_blind {av : List Value} {D : va_G} {dA gz : Nat → Nat} {ws : va_W} {sz : Nat} : FrameBlind (va_Pc av (pPo D dA gz ws sz)) := fun a U g mk q =>
  ⟨(pP_blind a U g mk ⟨q.1, q.2.1⟩).1, (pP_blind a U g mk ⟨q.1, q.2.1⟩).2, va_AO.moved (u := U) (U := U.calling g mk a) (Vm.Alike.refl U.vm) q.2.2⟩
theorem pPo_of {av : List Value} {D : va_G} {dA gz : Nat → Nat} {ws : va_W} {sz : Nat} {s : State} {H : Heap} (hO : va_AO "StoneChurn$Batch" s) (h : ∀ U : State, U.heap = H → s.WarmedH U.vm → va_Pc av (pP D dA gz ws sz) av.toArray U) : ∀ U : State, U.heap = H → s.WarmedH U.vm → va_Pc av (pPo D dA gz ws sz) av.toArray U := fun U hU hW => ⟨(h U hU hW).1, (h U hU hW).2, hO.moved hW.alike⟩
set_option maxRecDepth 100000 in
set_option maxHeartbeats 4000000 in
theorem m_J5_init_d00df (l : Launch) (dC : Nat → ClassId) (dI : Nat → Nat → Nat) (dA gz : Nat → Nat) (sz h0 : Nat)  : Met l yJ5_init_d00df ws_J5_init_d00df ({ frames := 14, cells := 1, slots := 16, locals := 400 } : Room) (va_Pc [.ref h0, .int 16] (pP (dC, dI) dA gz ([(h0, .inr (1, [.null, .int 0, .int 0, .int 0]))]) sz)) (va_Qv (S := Nat) (fun _ => True) (fun q t => pQ (dC, dI) (va_A ([(h0, .inr (1, [.null, .int 0, .int 0, .int 0]))]) sz) (wL dA h0 q 0 0 16 z0) t) (va_A ([(h0, .inr (1, [.null, .int 0, .int 0, .int 0]))]) sz)) 1 16 (va_A ([(h0, .inr (1, [.null, .int 0, .int 0, .int 0]))]) sz) := by
  refine Met.ofW (cc := cJ5_init_d00df) (maxL := 2) (ret := none) (by decide) rfl ?_
  intro p e s m args below meth c s₁ B hml hv
  obtain ⟨rfl, hsz, hP, hK, hD0, hN, hZ⟩ := hv
  have hx := B.exec
  have hb := B.bytes
  have hr := B.returns
  have hts := atoms_spec (ws := ws_J5_init_d00df) B.pre
  have hown : s.vm.findClass RJ5 = some m.cls := findClass_of_methodNamed B.named
  have hlocks := B.notSynchronized
  have hin : meth.name = "<init>" := (name_of_methodNamed B.named B.method).1
  subst hsz
  have hD := hD0.self (sz := s.heap.size)
  generalize hAe : va_A ([(h0, .inr (1, [.null, .int 0, .int 0, .int 0]))]) s.heap.size = A at hD hZ ⊢
  have hA : ∀ z : Nat, s.heap.size ≤ z → A z := fun z h => by rw [← hAe]; exact Or.inr h
  have hS : va_S A s.heap s.heap [] := va_S.rf
  have hP : va_P (dC, dI) vwCl ([(h0, .inr (1, [.null, .int 0, .int 0, .int 0]))]) s.heap := hP
  have hl := lv_entry [.ref h0, .int 16] (n := 2) (Nat.le_of_ble_eq_true rfl)
  rw [lg_entry_eq]
  generalize (lg_sl [.ref h0, .int 16] ++ List.replicate (2 - (lg_sl [.ref h0, .int 16]).length) Slot.unset).toArray = ls at hl ⊢
  have hl : lv_has ls 2 [(0, .ref h0), (1, .int 16)] := hl
  have in_J4 : ∀ w ∈ wsJ40, w ∈ ws_J5_init_d00df := fun w h => bg _ (inB_J4 w h)
  refine lv_aload_n hx hb dJ5_init_d00df_0 rfl (lv_at hl 0 rfl) ?_
  refine W.objInit hx hb hown (hts _ (bg _ wd_249)) (hts _ (bg _ wd_38)) (hts _ (bg _ wd_39)) rfl (by rw [hml]; exact hl.1) rfl dJ5_init_d00df_1 (Nat.le_of_ble_eq_true rfl) (Nat.le_of_ble_eq_true rfl) ?_
  refine W.eq (g2 := F0 m 4 ls []) rfl ?_
  refine va_gets hx hb hZ.2.1 hS hown (hts _ (bg _ wd_250)) (fun _ h9 => h9) dJ5_init_d00df_4 ?_
  refine lv_if_eq (tgt := 25) hx hb dJ5_init_d00df_7 (by decide) (fun z9 => absurd z9 (by decide)) (fun z9 => ?_)
  refine lv_aload_n hx hb dJ5_init_d00df_10 rfl (lv_at hl 0 rfl) ?_
  refine lv_iload_n hx hb dJ5_init_d00df_11 rfl (lv_at hl 1 rfl) ?_
  refine va_newa (atype := .byte) (ty := .byte) (a0 := (16, .inl z0)) hx hb (hts _ (bg _ wd_273)) rfl hK hP hD hS hA (fun cA => rfl) (by decide) (by decide) (Nat.le_of_ble_eq_true rfl) (Nat.le_of_ble_eq_true rfl) (Nat.le_of_ble_eq_true rfl) dJ5_init_d00df_12 (fun q1 cA H hK2 hP hD hS => ?_)
  have hcA := uni_b hK2
  subst hcA
  have hP : va_P (dC, dI) vwCl ([(h0, .inr (1, [.null, .int 0, .int 0, .int 0])), (q1, .inl (dA 2, 16, .inl z0))] : va_W) H := hP
  have hD : va_D A ([(h0, .inr (1, [.null, .int 0, .int 0, .int 0])), (q1, .inl (dA 2, 16, .inl z0))]) := hD
  refine va_put (D := (dC, dI)) (ci := 1) (v := .ref q1) (ty := .array .byte) (C := RJ4) (T := TJ4) (N := 4) hx hb hts in_J4 tyJ4 tyJ4_ok nmJ4 hown hK hP hD hS 0 rfl rfl 0 (by decide) (hts _ (bg _ wd_259)) (fun _ h9 => h9) rfl (by decide +kernel) rfl rfl (Nat.le_of_ble_eq_true rfl) dJ5_init_d00df_14 (fun H locs hP hD hS => ?_)
  have hP : va_P (dC, dI) vwCl ([(h0, .inr (1, [.ref q1, .int 0, .int 0, .int 0])), (q1, .inl (dA 2, 16, .inl z0))] : va_W) H := hP
  have hD : va_D A ([(h0, .inr (1, [.ref q1, .int 0, .int 0, .int 0])), (q1, .inl (dA 2, 16, .inl z0))]) := hD
  refine lv_aload_n hx hb dJ5_init_d00df_17 rfl (lv_at hl 0 rfl) ?_
  refine lv_iconst (v := 0) hx hb dJ5_init_d00df_18 (by decide) ?_
  refine va_put (D := (dC, dI)) (ci := 1) (v := .int 0) (ty := .byte) (C := RJ4) (T := TJ4) (N := 4) hx hb hts in_J4 tyJ4 tyJ4_ok nmJ4 hown hK hP hD hS 0 rfl rfl 1 (by decide) (hts _ (bg _ wd_260)) (fun _ h9 => h9) rfl (by decide +kernel) rfl (by decide +kernel) (Nat.le_of_ble_eq_true rfl) dJ5_init_d00df_19 (fun H locs hP hD hS => ?_)
  have hP : va_P (dC, dI) vwCl ([(h0, .inr (1, [.ref q1, .int 0, .int 0, .int 0])), (q1, .inl (dA 2, 16, .inl z0))] : va_W) H := hP
  have hD : va_D A ([(h0, .inr (1, [.ref q1, .int 0, .int 0, .int 0])), (q1, .inl (dA 2, 16, .inl z0))]) := hD
  refine lv_goto (tgt := 38) hx hb dJ5_init_d00df_22 (by decide) ?_
  refine W.widen (k := 1) (n := 16) (Nat.le_of_ble_eq_true rfl) (Nat.le_of_ble_eq_true rfl) ?_
  exact W.vret hx hb hr (fun t ht hW => ⟨⟨q1, rfl, trivial, by rw [ht]; exact hP, hD⟩, hS.F ht⟩) hS.2.2 dJ5_init_d00df_38
set_option maxRecDepth 100000 in
set_option maxHeartbeats 4000000 in
theorem m_J4_init_da8c8 (l : Launch) (dC : Nat → ClassId) (dI : Nat → Nat → Nat) (dA gz : Nat → Nat) (sz h0 : Nat)  : Met l yJ4_init_da8c8 ws_J4_init_da8c8 ({ frames := 18, cells := 1, slots := 16, locals := 600 } : Room) (va_Pc [.ref h0] (pP (dC, dI) dA gz ([(h0, .inr (1, [.null, .int 0, .int 0, .int 0]))]) sz)) (va_Qv (S := Nat) (fun _ => True) (fun q t => pQ (dC, dI) (va_A ([(h0, .inr (1, [.null, .int 0, .int 0, .int 0]))]) sz) (wL dA h0 q 0 0 16 z0) t) (va_A ([(h0, .inr (1, [.null, .int 0, .int 0, .int 0]))]) sz)) 1 16 (va_A ([(h0, .inr (1, [.null, .int 0, .int 0, .int 0]))]) sz) := by
  refine Met.ofW (cc := cJ4_init_da8c8) (maxL := 1) (ret := none) (by decide) rfl ?_
  intro p e s m args below meth c s₁ B hml hv
  obtain ⟨rfl, hsz, hP, hK, hD0, hN, hZ⟩ := hv
  have hx := B.exec
  have hb := B.bytes
  have hr := B.returns
  have hts := atoms_spec (ws := ws_J4_init_da8c8) B.pre
  have hown : s.vm.findClass RJ4 = some m.cls := findClass_of_methodNamed B.named
  have hlocks := B.notSynchronized
  have hin : meth.name = "<init>" := (name_of_methodNamed B.named B.method).1
  subst hsz
  have hD := hD0.self (sz := s.heap.size)
  generalize hAe : va_A ([(h0, .inr (1, [.null, .int 0, .int 0, .int 0]))]) s.heap.size = A at hD hZ ⊢
  have hA : ∀ z : Nat, s.heap.size ≤ z → A z := fun z h => by rw [← hAe]; exact Or.inr h
  have hS : va_S A s.heap s.heap [] := va_S.rf
  have hP : va_P (dC, dI) vwCl ([(h0, .inr (1, [.null, .int 0, .int 0, .int 0]))]) s.heap := hP
  have hl := lv_entry [.ref h0] (n := 1) (Nat.le_of_ble_eq_true rfl)
  rw [lg_entry_eq]
  generalize (lg_sl [.ref h0] ++ List.replicate (1 - (lg_sl [.ref h0]).length) Slot.unset).toArray = ls at hl ⊢
  have hl : lv_has ls 1 [(0, .ref h0)] := hl
  refine lv_aload_n hx hb dJ4_init_da8c8_0 rfl (lv_at hl 0 rfl) ?_
  refine lv_bipush (v := 16) hx hb dJ4_init_da8c8_1 (by decide) ?_
  refine je_v (w1 := fun q : Nat => wL dA h0 q 0 0 16 z0) (va_runI (As := [.int 16]) (rest := []) ⟨hx, hb, hml, hown, hts⟩ (m_J5_init_d00df l dC dI dA gz s.heap.size h0) (cwI 1 hts (gi_n bg wd_248) rfl rfl rfl (hts _ (bg _ wd_9)) (hts _ (bg _ wd_246)) (hts _ (bg _ wd_247)) rfl hd3_J5_init_d00df ⟨Nat.le_of_ble_eq_true rfl, Nat.le_of_ble_eq_true rfl⟩) ⟨pP_blind, pP_preW hP hD hS hA hK hN hZ⟩ rfl rfl hl.1 rfl (lv_room (Nat.le_of_ble_eq_true rfl)) dJ4_init_da8c8_3 ⟨Nat.le_of_ble_eq_true rfl, Nat.le_of_ble_eq_true rfl⟩) hD hS hA (fun q1 H locs _ hP hD hS => ?_)
  refine W.widen (k := 1) (n := 16) (Nat.le_of_ble_eq_true rfl) (Nat.le_of_ble_eq_true rfl) ?_
  exact W.vret hx hb hr (fun t ht hW => ⟨⟨q1, rfl, trivial, by rw [ht]; exact hP, hD⟩, hS.F ht⟩) hS.2.2 dJ4_init_da8c8_6
set_option maxRecDepth 100000 in
set_option maxHeartbeats 4000000 in
theorem m_X3_init (l : Launch) (dC : Nat → ClassId) (dI : Nat → Nat → Nat) (dA gz : Nat → Nat) (sz h0 : Nat)  : Met l yX3_init ws_X3_init ({ frames := 22, cells := 105, slots := 816, locals := 800 } : Room) (va_Pc [.ref h0] (pPo (dC, dI) dA gz ([(h0, .inr (7, [.null, .int 0, .int 0]))]) sz)) (va_Qv (S := Nat → Nat) (fun oa => oa 0 = h0) (fun oa t => pQ (dC, dI) (va_A ([(h0, .inr (7, [.null, .int 0, .int 0]))]) sz) (wX3 dA oa (0, 0, fun _ => B0)) t) (va_A ([(h0, .inr (7, [.null, .int 0, .int 0]))]) sz)) 105 816 (va_A ([(h0, .inr (7, [.null, .int 0, .int 0]))]) sz) := by
  refine Met.ofW (cc := cX3_init) (maxL := 2) (ret := none) (by decide) rfl ?_
  intro p e s m args below meth c s₁ B hml hv
  obtain ⟨rfl, ⟨hsz, hP, hK, hD0, hN, hZ⟩, hAO⟩ := hv
  have hx := B.exec
  have hb := B.bytes
  have hr := B.returns
  have hts := atoms_spec (ws := ws_X3_init) B.pre
  have hown : s.vm.findClass RX3 = some m.cls := findClass_of_methodNamed B.named
  have hlocks := B.notSynchronized
  have hin : meth.name = "<init>" := (name_of_methodNamed B.named B.method).1
  subst hsz
  have hD := hD0.self (sz := s.heap.size)
  generalize hAe : va_A ([(h0, .inr (7, [.null, .int 0, .int 0]))]) s.heap.size = A at hD hZ ⊢
  have hA : ∀ z : Nat, s.heap.size ≤ z → A z := fun z h => by rw [← hAe]; exact Or.inr h
  have hS : va_S A s.heap s.heap [] := va_S.rf
  have hP : va_P (dC, dI) vwCl ([(h0, .inr (7, [.null, .int 0, .int 0]))]) s.heap := hP
  have hl := lv_entry [.ref h0] (n := 2) (Nat.le_of_ble_eq_true rfl)
  rw [lg_entry_eq]
  generalize (lg_sl [.ref h0] ++ List.replicate (2 - (lg_sl [.ref h0]).length) Slot.unset).toArray = ls at hl ⊢
  have hl : lv_has ls 2 [(0, .ref h0)] := hl
  have in_X3 : ∀ w ∈ wsX30, w ∈ ws_X3_init := fun w h => bg _ (inB_X3 w h)
  refine lv_aload_n hx hb dX3_init_0 rfl (lv_at hl 0 rfl) ?_
  refine W.objInit hx hb hown (hts _ (bg _ wd_188)) (hts _ (bg _ wd_38)) (hts _ (bg _ wd_39)) rfl (by rw [hml]; exact hl.1) rfl dX3_init_1 (Nat.le_of_ble_eq_true rfl) (Nat.le_of_ble_eq_true rfl) ?_
  refine W.eq (g2 := F0 m 4 ls []) rfl ?_
  refine lv_aload_n hx hb dX3_init_4 rfl (lv_at hl 0 rfl) ?_
  refine lv_bipush (v := 8) hx hb dX3_init_5 (by decide) ?_
  refine va_newq hx hb hown (hts _ (bg _ wd_189)) hAO hK hP hD hS hA (by decide) (show (8 : Int32).toNatClampNeg = 8 by decide) (Nat.le_of_ble_eq_true rfl) (Nat.le_of_ble_eq_true rfl) (Nat.le_of_ble_eq_true rfl) dX3_init_7 (fun qa cA H hK2 hP hD hS => ?_)
  have hcA := uni_q hK2
  subst hcA
  refine va_putF (D := (dC, dI)) (ci := 7) (v := .ref qa) (ty := .array (.object "StoneChurn$Batch")) (C := RX3) (T := TX3) (N := 3) hx hb hts in_X3 tyX3 tyX3_ok nmX3 hown hK hP hD hS 0 rfl rfl 0 (by decide) (hts _ (bg _ wd_192)) (fun _ h9 => h9) rfl hin rfl (by decide +kernel) rfl rfl (Nat.le_of_ble_eq_true rfl) dX3_init_10 (fun H locs hP hD hS => ?_)
  have hP : va_P (dC, dI) vwCl (([[(h0, .inr (7, [.ref qa, .int 0, .int 0])), (qa, .inl (dA 3, 8, .inr (.inr (.inr (.inr (fun _ => none))))))]] : List va_W).flatten : va_W) H := hP
  have hD : va_D A (([[(h0, .inr (7, [.ref qa, .int 0, .int 0])), (qa, .inl (dA 3, 8, .inr (.inr (.inr (.inr (fun _ => none))))))]] : List va_W).flatten) := hD
  refine lv_iconst (v := 0) hx hb dX3_init_13 (by decide) ?_
  refine lv_istore_n (lv' := [(1, .int 0), (0, .ref h0)]) hx hb dX3_init_14 rfl hl (by decide) rfl (fun ls hl => ?_)
  refine lv_iload_n hx hb dX3_init_15 rfl (lv_at hl 0 rfl) ?_
  refine lv_bipush (v := 8) hx hb dX3_init_16 (by decide) ?_
  refine lv_icmp_ge (tgt := 40) hx hb dX3_init_18 (by decide) (fun z9 => absurd z9 (by decide)) (fun z9 => ?_)
  refine lv_aload_n hx hb dX3_init_21 rfl (lv_at hl 1 rfl) ?_
  refine va_get (D := (dC, dI)) (ci := 7) (v := .ref qa) (C := RX3) (T := TX3) (N := 3) hx hb hts in_X3 hown hK hP 0 rfl rfl 0 (by decide) (hts _ (bg _ wd_192)) (fun _ h9 => h9) rfl dX3_init_22 ?_
  refine lv_iload_n hx hb dX3_init_25 rfl (lv_at hl 0 rfl) ?_
  refine va_new (ci := 4) (fs := [.null, .null, .null, .null]) (C := RX0) (T := TX0) (N := 4) hx hb hts (fun w h => bg _ (inB_X0 w h)) tyX0 tyX0_ok hown (hts _ (bg _ wd_189)) (hts _ (bg _ wd_41)) (hts _ (bg _ wd_2)) hK hP hD hS hA rfl (fun j hj => by rcases (show j = 0 ∨ j = 1 ∨ j = 2 ∨ j = 3 by omega) with rfl | rfl | rfl | rfl <;> rfl) (Nat.le_of_ble_eq_true rfl) (Nat.le_of_ble_eq_true rfl) dX3_init_26 (fun qn H hP hD hS => ?_)
  rw [fl_snoc] at hP hD
  refine lv_dup hx hb dX3_init_29 rfl ?_
  refine jle_v (gs := [[(h0, .inr (7, [.ref qa, .int 0, .int 0])), (qa, .inl (dA 3, 8, .inr (.inr (.inr (.inr (fun _ => none))))))]]) (g := [(qn, .inr (4, [.null, .null, .null, .null]))]) (g1 := fun oa : Nat → Nat => wX0 dA oa B0) (va_runIN (As := []) (rest := [.ref qn, .int 0, .ref qa]) ⟨hx, hb, hml, hown, hts⟩ (m_X0_init l dC dI dA gz H.size qn) ⟨va_cnB 0 hts (gi_n bg wd_44) rfl rfl rfl (hN _ ng_5) (hts _ (bg _ wd_2)) hd3_X0_init ⟨Nat.le_of_ble_eq_true rfl, Nat.le_of_ble_eq_true rfl⟩, rfl, hts _ (bg _ wd_43)⟩ ⟨pP_blind, pP_pre1 hP hD hS hA hK hN hZ 1 rfl⟩ rfl rfl hl.1 rfl (lv_room (Nat.le_of_ble_eq_true rfl)) dX3_init_30 ⟨Nat.le_of_ble_eq_true rfl, Nat.le_of_ble_eq_true rfl⟩) hP hD hS hA (fun o0 H locs ho hP hD hS => ?_)
  rw [← ho]
  have hP : va_P (dC, dI) vwCl (([[(h0, .inr (7, [.ref qa, .int 0, .int 0])), (qa, .inl (dA 3, 8, .inr (.inr (.inr (.inr (fun _ => none))))))], wX0 dA o0 B0] : List va_W).flatten : va_W) H := hP
  have hD : va_D A (([[(h0, .inr (7, [.ref qa, .int 0, .int 0])), (qa, .inl (dA 3, 8, .inr (.inr (.inr (.inr (fun _ => none))))))], wX0 dA o0 B0] : List va_W).flatten) := hD
  refine va_astq (r := (RX0, TX0, 4)) hx hb hK hP hD hS 1 3 2 4 rfl rfl rfl rfl (show vp_in (0 : Int32) 8 by unfold vp_in; decide) dX3_init_33 (fun H locs hP hD hS => ?_)
  have hP : va_P (dC, dI) vwCl (([[(h0, .inr (7, [.ref qa, .int 0, .int 0])), (qa, .inl (dA 3, 8, .inr (.inr (.inr (.inr (va_up (fun _ => none) (0 : Int32).toNatClampNeg (some (o0 0))))))))], wX0 dA o0 B0] : List va_W).flatten : va_W) H := hP
  have hD : va_D A (([[(h0, .inr (7, [.ref qa, .int 0, .int 0])), (qa, .inl (dA 3, 8, .inr (.inr (.inr (.inr (va_up (fun _ => none) (0 : Int32).toNatClampNeg (some (o0 0))))))))], wX0 dA o0 B0] : List va_W).flatten) := hD
  refine lv_iinc (v := 1) (lv' := [(1, .int 1), (0, .ref h0)]) hx hb dX3_init_34 hl (k := 0) rfl (by decide) (by decide) rfl (fun ls hl => ?_)
  refine lv_goto (tgt := 15) hx hb dX3_init_37 (by decide) ?_
  refine lv_iload_n hx hb dX3_init_15 rfl (lv_at hl 0 rfl) ?_
  refine lv_bipush (v := 8) hx hb dX3_init_16 (by decide) ?_
  refine lv_icmp_ge (tgt := 40) hx hb dX3_init_18 (by decide) (fun z9 => absurd z9 (by decide)) (fun z9 => ?_)
  refine lv_aload_n hx hb dX3_init_21 rfl (lv_at hl 1 rfl) ?_
  refine va_get (D := (dC, dI)) (ci := 7) (v := .ref qa) (C := RX3) (T := TX3) (N := 3) hx hb hts in_X3 hown hK hP 0 rfl rfl 0 (by decide) (hts _ (bg _ wd_192)) (fun _ h9 => h9) rfl dX3_init_22 ?_
  refine lv_iload_n hx hb dX3_init_25 rfl (lv_at hl 0 rfl) ?_
  refine va_new (ci := 4) (fs := [.null, .null, .null, .null]) (C := RX0) (T := TX0) (N := 4) hx hb hts (fun w h => bg _ (inB_X0 w h)) tyX0 tyX0_ok hown (hts _ (bg _ wd_189)) (hts _ (bg _ wd_41)) (hts _ (bg _ wd_2)) hK hP hD hS hA rfl (fun j hj => by rcases (show j = 0 ∨ j = 1 ∨ j = 2 ∨ j = 3 by omega) with rfl | rfl | rfl | rfl <;> rfl) (Nat.le_of_ble_eq_true rfl) (Nat.le_of_ble_eq_true rfl) dX3_init_26 (fun qn H hP hD hS => ?_)
  rw [fl_snoc] at hP hD
  refine lv_dup hx hb dX3_init_29 rfl ?_
  refine jle_v (gs := [[(h0, .inr (7, [.ref qa, .int 0, .int 0])), (qa, .inl (dA 3, 8, .inr (.inr (.inr (.inr (va_up (fun _ => none) (0 : Int32).toNatClampNeg (some (o0 0))))))))], wX0 dA o0 B0]) (g := [(qn, .inr (4, [.null, .null, .null, .null]))]) (g1 := fun oa : Nat → Nat => wX0 dA oa B0) (va_runIN (As := []) (rest := [.ref qn, .int 1, .ref qa]) ⟨hx, hb, hml, hown, hts⟩ (m_X0_init l dC dI dA gz H.size qn) ⟨va_cnB 0 hts (gi_n bg wd_44) rfl rfl rfl (hN _ ng_5) (hts _ (bg _ wd_2)) hd3_X0_init ⟨Nat.le_of_ble_eq_true rfl, Nat.le_of_ble_eq_true rfl⟩, rfl, hts _ (bg _ wd_43)⟩ ⟨pP_blind, pP_pre1 hP hD hS hA hK hN hZ 2 rfl⟩ rfl rfl hl.1 rfl (lv_room (Nat.le_of_ble_eq_true rfl)) dX3_init_30 ⟨Nat.le_of_ble_eq_true rfl, Nat.le_of_ble_eq_true rfl⟩) hP hD hS hA (fun o1 H locs ho hP hD hS => ?_)
  rw [← ho]
  have hP : va_P (dC, dI) vwCl (([[(h0, .inr (7, [.ref qa, .int 0, .int 0])), (qa, .inl (dA 3, 8, .inr (.inr (.inr (.inr (va_up (fun _ => none) (0 : Int32).toNatClampNeg (some (o0 0))))))))], wX0 dA o0 B0, wX0 dA o1 B0] : List va_W).flatten : va_W) H := hP
  have hD : va_D A (([[(h0, .inr (7, [.ref qa, .int 0, .int 0])), (qa, .inl (dA 3, 8, .inr (.inr (.inr (.inr (va_up (fun _ => none) (0 : Int32).toNatClampNeg (some (o0 0))))))))], wX0 dA o0 B0, wX0 dA o1 B0] : List va_W).flatten) := hD
  refine va_astq (r := (RX0, TX0, 4)) hx hb hK hP hD hS 1 3 15 4 rfl rfl rfl rfl (show vp_in (1 : Int32) 8 by unfold vp_in; decide) dX3_init_33 (fun H locs hP hD hS => ?_)
  have hP : va_P (dC, dI) vwCl (([[(h0, .inr (7, [.ref qa, .int 0, .int 0])), (qa, .inl (dA 3, 8, .inr (.inr (.inr (.inr (va_up (va_up (fun _ => none) (0 : Int32).toNatClampNeg (some (o0 0))) (1 : Int32).toNatClampNeg (some (o1 0))))))))], wX0 dA o0 B0, wX0 dA o1 B0] : List va_W).flatten : va_W) H := hP
  have hD : va_D A (([[(h0, .inr (7, [.ref qa, .int 0, .int 0])), (qa, .inl (dA 3, 8, .inr (.inr (.inr (.inr (va_up (va_up (fun _ => none) (0 : Int32).toNatClampNeg (some (o0 0))) (1 : Int32).toNatClampNeg (some (o1 0))))))))], wX0 dA o0 B0, wX0 dA o1 B0] : List va_W).flatten) := hD
  refine lv_iinc (v := 2) (lv' := [(1, .int 2), (0, .ref h0)]) hx hb dX3_init_34 hl (k := 0) rfl (by decide) (by decide) rfl (fun ls hl => ?_)
  refine lv_goto (tgt := 15) hx hb dX3_init_37 (by decide) ?_
  refine lv_iload_n hx hb dX3_init_15 rfl (lv_at hl 0 rfl) ?_
  refine lv_bipush (v := 8) hx hb dX3_init_16 (by decide) ?_
  refine lv_icmp_ge (tgt := 40) hx hb dX3_init_18 (by decide) (fun z9 => absurd z9 (by decide)) (fun z9 => ?_)
  refine lv_aload_n hx hb dX3_init_21 rfl (lv_at hl 1 rfl) ?_
  refine va_get (D := (dC, dI)) (ci := 7) (v := .ref qa) (C := RX3) (T := TX3) (N := 3) hx hb hts in_X3 hown hK hP 0 rfl rfl 0 (by decide) (hts _ (bg _ wd_192)) (fun _ h9 => h9) rfl dX3_init_22 ?_
  refine lv_iload_n hx hb dX3_init_25 rfl (lv_at hl 0 rfl) ?_
  refine va_new (ci := 4) (fs := [.null, .null, .null, .null]) (C := RX0) (T := TX0) (N := 4) hx hb hts (fun w h => bg _ (inB_X0 w h)) tyX0 tyX0_ok hown (hts _ (bg _ wd_189)) (hts _ (bg _ wd_41)) (hts _ (bg _ wd_2)) hK hP hD hS hA rfl (fun j hj => by rcases (show j = 0 ∨ j = 1 ∨ j = 2 ∨ j = 3 by omega) with rfl | rfl | rfl | rfl <;> rfl) (Nat.le_of_ble_eq_true rfl) (Nat.le_of_ble_eq_true rfl) dX3_init_26 (fun qn H hP hD hS => ?_)
  rw [fl_snoc] at hP hD
  refine lv_dup hx hb dX3_init_29 rfl ?_
  refine jle_v (gs := [[(h0, .inr (7, [.ref qa, .int 0, .int 0])), (qa, .inl (dA 3, 8, .inr (.inr (.inr (.inr (va_up (va_up (fun _ => none) (0 : Int32).toNatClampNeg (some (o0 0))) (1 : Int32).toNatClampNeg (some (o1 0))))))))], wX0 dA o0 B0, wX0 dA o1 B0]) (g := [(qn, .inr (4, [.null, .null, .null, .null]))]) (g1 := fun oa : Nat → Nat => wX0 dA oa B0) (va_runIN (As := []) (rest := [.ref qn, .int 2, .ref qa]) ⟨hx, hb, hml, hown, hts⟩ (m_X0_init l dC dI dA gz H.size qn) ⟨va_cnB 0 hts (gi_n bg wd_44) rfl rfl rfl (hN _ ng_5) (hts _ (bg _ wd_2)) hd3_X0_init ⟨Nat.le_of_ble_eq_true rfl, Nat.le_of_ble_eq_true rfl⟩, rfl, hts _ (bg _ wd_43)⟩ ⟨pP_blind, pP_pre1 hP hD hS hA hK hN hZ 3 rfl⟩ rfl rfl hl.1 rfl (lv_room (Nat.le_of_ble_eq_true rfl)) dX3_init_30 ⟨Nat.le_of_ble_eq_true rfl, Nat.le_of_ble_eq_true rfl⟩) hP hD hS hA (fun o2 H locs ho hP hD hS => ?_)
  rw [← ho]
  have hP : va_P (dC, dI) vwCl (([[(h0, .inr (7, [.ref qa, .int 0, .int 0])), (qa, .inl (dA 3, 8, .inr (.inr (.inr (.inr (va_up (va_up (fun _ => none) (0 : Int32).toNatClampNeg (some (o0 0))) (1 : Int32).toNatClampNeg (some (o1 0))))))))], wX0 dA o0 B0, wX0 dA o1 B0, wX0 dA o2 B0] : List va_W).flatten : va_W) H := hP
  have hD : va_D A (([[(h0, .inr (7, [.ref qa, .int 0, .int 0])), (qa, .inl (dA 3, 8, .inr (.inr (.inr (.inr (va_up (va_up (fun _ => none) (0 : Int32).toNatClampNeg (some (o0 0))) (1 : Int32).toNatClampNeg (some (o1 0))))))))], wX0 dA o0 B0, wX0 dA o1 B0, wX0 dA o2 B0] : List va_W).flatten) := hD
  refine va_astq (r := (RX0, TX0, 4)) hx hb hK hP hD hS 1 3 28 4 rfl rfl rfl rfl (show vp_in (2 : Int32) 8 by unfold vp_in; decide) dX3_init_33 (fun H locs hP hD hS => ?_)
  have hP : va_P (dC, dI) vwCl (([[(h0, .inr (7, [.ref qa, .int 0, .int 0])), (qa, .inl (dA 3, 8, .inr (.inr (.inr (.inr (va_up (va_up (va_up (fun _ => none) (0 : Int32).toNatClampNeg (some (o0 0))) (1 : Int32).toNatClampNeg (some (o1 0))) (2 : Int32).toNatClampNeg (some (o2 0))))))))], wX0 dA o0 B0, wX0 dA o1 B0, wX0 dA o2 B0] : List va_W).flatten : va_W) H := hP
  have hD : va_D A (([[(h0, .inr (7, [.ref qa, .int 0, .int 0])), (qa, .inl (dA 3, 8, .inr (.inr (.inr (.inr (va_up (va_up (va_up (fun _ => none) (0 : Int32).toNatClampNeg (some (o0 0))) (1 : Int32).toNatClampNeg (some (o1 0))) (2 : Int32).toNatClampNeg (some (o2 0))))))))], wX0 dA o0 B0, wX0 dA o1 B0, wX0 dA o2 B0] : List va_W).flatten) := hD
  refine lv_iinc (v := 3) (lv' := [(1, .int 3), (0, .ref h0)]) hx hb dX3_init_34 hl (k := 0) rfl (by decide) (by decide) rfl (fun ls hl => ?_)
  refine lv_goto (tgt := 15) hx hb dX3_init_37 (by decide) ?_
  refine lv_iload_n hx hb dX3_init_15 rfl (lv_at hl 0 rfl) ?_
  refine lv_bipush (v := 8) hx hb dX3_init_16 (by decide) ?_
  refine lv_icmp_ge (tgt := 40) hx hb dX3_init_18 (by decide) (fun z9 => absurd z9 (by decide)) (fun z9 => ?_)
  refine lv_aload_n hx hb dX3_init_21 rfl (lv_at hl 1 rfl) ?_
  refine va_get (D := (dC, dI)) (ci := 7) (v := .ref qa) (C := RX3) (T := TX3) (N := 3) hx hb hts in_X3 hown hK hP 0 rfl rfl 0 (by decide) (hts _ (bg _ wd_192)) (fun _ h9 => h9) rfl dX3_init_22 ?_
  refine lv_iload_n hx hb dX3_init_25 rfl (lv_at hl 0 rfl) ?_
  refine va_new (ci := 4) (fs := [.null, .null, .null, .null]) (C := RX0) (T := TX0) (N := 4) hx hb hts (fun w h => bg _ (inB_X0 w h)) tyX0 tyX0_ok hown (hts _ (bg _ wd_189)) (hts _ (bg _ wd_41)) (hts _ (bg _ wd_2)) hK hP hD hS hA rfl (fun j hj => by rcases (show j = 0 ∨ j = 1 ∨ j = 2 ∨ j = 3 by omega) with rfl | rfl | rfl | rfl <;> rfl) (Nat.le_of_ble_eq_true rfl) (Nat.le_of_ble_eq_true rfl) dX3_init_26 (fun qn H hP hD hS => ?_)
  rw [fl_snoc] at hP hD
  refine lv_dup hx hb dX3_init_29 rfl ?_
  refine jle_v (gs := [[(h0, .inr (7, [.ref qa, .int 0, .int 0])), (qa, .inl (dA 3, 8, .inr (.inr (.inr (.inr (va_up (va_up (va_up (fun _ => none) (0 : Int32).toNatClampNeg (some (o0 0))) (1 : Int32).toNatClampNeg (some (o1 0))) (2 : Int32).toNatClampNeg (some (o2 0))))))))], wX0 dA o0 B0, wX0 dA o1 B0, wX0 dA o2 B0]) (g := [(qn, .inr (4, [.null, .null, .null, .null]))]) (g1 := fun oa : Nat → Nat => wX0 dA oa B0) (va_runIN (As := []) (rest := [.ref qn, .int 3, .ref qa]) ⟨hx, hb, hml, hown, hts⟩ (m_X0_init l dC dI dA gz H.size qn) ⟨va_cnB 0 hts (gi_n bg wd_44) rfl rfl rfl (hN _ ng_5) (hts _ (bg _ wd_2)) hd3_X0_init ⟨Nat.le_of_ble_eq_true rfl, Nat.le_of_ble_eq_true rfl⟩, rfl, hts _ (bg _ wd_43)⟩ ⟨pP_blind, pP_pre1 hP hD hS hA hK hN hZ 4 rfl⟩ rfl rfl hl.1 rfl (lv_room (Nat.le_of_ble_eq_true rfl)) dX3_init_30 ⟨Nat.le_of_ble_eq_true rfl, Nat.le_of_ble_eq_true rfl⟩) hP hD hS hA (fun o3 H locs ho hP hD hS => ?_)
  rw [← ho]
  have hP : va_P (dC, dI) vwCl (([[(h0, .inr (7, [.ref qa, .int 0, .int 0])), (qa, .inl (dA 3, 8, .inr (.inr (.inr (.inr (va_up (va_up (va_up (fun _ => none) (0 : Int32).toNatClampNeg (some (o0 0))) (1 : Int32).toNatClampNeg (some (o1 0))) (2 : Int32).toNatClampNeg (some (o2 0))))))))], wX0 dA o0 B0, wX0 dA o1 B0, wX0 dA o2 B0, wX0 dA o3 B0] : List va_W).flatten : va_W) H := hP
  have hD : va_D A (([[(h0, .inr (7, [.ref qa, .int 0, .int 0])), (qa, .inl (dA 3, 8, .inr (.inr (.inr (.inr (va_up (va_up (va_up (fun _ => none) (0 : Int32).toNatClampNeg (some (o0 0))) (1 : Int32).toNatClampNeg (some (o1 0))) (2 : Int32).toNatClampNeg (some (o2 0))))))))], wX0 dA o0 B0, wX0 dA o1 B0, wX0 dA o2 B0, wX0 dA o3 B0] : List va_W).flatten) := hD
  refine va_astq (r := (RX0, TX0, 4)) hx hb hK hP hD hS 1 3 41 4 rfl rfl rfl rfl (show vp_in (3 : Int32) 8 by unfold vp_in; decide) dX3_init_33 (fun H locs hP hD hS => ?_)
  have hP : va_P (dC, dI) vwCl (([[(h0, .inr (7, [.ref qa, .int 0, .int 0])), (qa, .inl (dA 3, 8, .inr (.inr (.inr (.inr (va_up (va_up (va_up (va_up (fun _ => none) (0 : Int32).toNatClampNeg (some (o0 0))) (1 : Int32).toNatClampNeg (some (o1 0))) (2 : Int32).toNatClampNeg (some (o2 0))) (3 : Int32).toNatClampNeg (some (o3 0))))))))], wX0 dA o0 B0, wX0 dA o1 B0, wX0 dA o2 B0, wX0 dA o3 B0] : List va_W).flatten : va_W) H := hP
  have hD : va_D A (([[(h0, .inr (7, [.ref qa, .int 0, .int 0])), (qa, .inl (dA 3, 8, .inr (.inr (.inr (.inr (va_up (va_up (va_up (va_up (fun _ => none) (0 : Int32).toNatClampNeg (some (o0 0))) (1 : Int32).toNatClampNeg (some (o1 0))) (2 : Int32).toNatClampNeg (some (o2 0))) (3 : Int32).toNatClampNeg (some (o3 0))))))))], wX0 dA o0 B0, wX0 dA o1 B0, wX0 dA o2 B0, wX0 dA o3 B0] : List va_W).flatten) := hD
  refine lv_iinc (v := 4) (lv' := [(1, .int 4), (0, .ref h0)]) hx hb dX3_init_34 hl (k := 0) rfl (by decide) (by decide) rfl (fun ls hl => ?_)
  refine lv_goto (tgt := 15) hx hb dX3_init_37 (by decide) ?_
  refine lv_iload_n hx hb dX3_init_15 rfl (lv_at hl 0 rfl) ?_
  refine lv_bipush (v := 8) hx hb dX3_init_16 (by decide) ?_
  refine lv_icmp_ge (tgt := 40) hx hb dX3_init_18 (by decide) (fun z9 => absurd z9 (by decide)) (fun z9 => ?_)
  refine lv_aload_n hx hb dX3_init_21 rfl (lv_at hl 1 rfl) ?_
  refine va_get (D := (dC, dI)) (ci := 7) (v := .ref qa) (C := RX3) (T := TX3) (N := 3) hx hb hts in_X3 hown hK hP 0 rfl rfl 0 (by decide) (hts _ (bg _ wd_192)) (fun _ h9 => h9) rfl dX3_init_22 ?_
  refine lv_iload_n hx hb dX3_init_25 rfl (lv_at hl 0 rfl) ?_
  refine va_new (ci := 4) (fs := [.null, .null, .null, .null]) (C := RX0) (T := TX0) (N := 4) hx hb hts (fun w h => bg _ (inB_X0 w h)) tyX0 tyX0_ok hown (hts _ (bg _ wd_189)) (hts _ (bg _ wd_41)) (hts _ (bg _ wd_2)) hK hP hD hS hA rfl (fun j hj => by rcases (show j = 0 ∨ j = 1 ∨ j = 2 ∨ j = 3 by omega) with rfl | rfl | rfl | rfl <;> rfl) (Nat.le_of_ble_eq_true rfl) (Nat.le_of_ble_eq_true rfl) dX3_init_26 (fun qn H hP hD hS => ?_)
  rw [fl_snoc] at hP hD
  refine lv_dup hx hb dX3_init_29 rfl ?_
  refine jle_v (gs := [[(h0, .inr (7, [.ref qa, .int 0, .int 0])), (qa, .inl (dA 3, 8, .inr (.inr (.inr (.inr (va_up (va_up (va_up (va_up (fun _ => none) (0 : Int32).toNatClampNeg (some (o0 0))) (1 : Int32).toNatClampNeg (some (o1 0))) (2 : Int32).toNatClampNeg (some (o2 0))) (3 : Int32).toNatClampNeg (some (o3 0))))))))], wX0 dA o0 B0, wX0 dA o1 B0, wX0 dA o2 B0, wX0 dA o3 B0]) (g := [(qn, .inr (4, [.null, .null, .null, .null]))]) (g1 := fun oa : Nat → Nat => wX0 dA oa B0) (va_runIN (As := []) (rest := [.ref qn, .int 4, .ref qa]) ⟨hx, hb, hml, hown, hts⟩ (m_X0_init l dC dI dA gz H.size qn) ⟨va_cnB 0 hts (gi_n bg wd_44) rfl rfl rfl (hN _ ng_5) (hts _ (bg _ wd_2)) hd3_X0_init ⟨Nat.le_of_ble_eq_true rfl, Nat.le_of_ble_eq_true rfl⟩, rfl, hts _ (bg _ wd_43)⟩ ⟨pP_blind, pP_pre1 hP hD hS hA hK hN hZ 5 rfl⟩ rfl rfl hl.1 rfl (lv_room (Nat.le_of_ble_eq_true rfl)) dX3_init_30 ⟨Nat.le_of_ble_eq_true rfl, Nat.le_of_ble_eq_true rfl⟩) hP hD hS hA (fun o4 H locs ho hP hD hS => ?_)
  rw [← ho]
  have hP : va_P (dC, dI) vwCl (([[(h0, .inr (7, [.ref qa, .int 0, .int 0])), (qa, .inl (dA 3, 8, .inr (.inr (.inr (.inr (va_up (va_up (va_up (va_up (fun _ => none) (0 : Int32).toNatClampNeg (some (o0 0))) (1 : Int32).toNatClampNeg (some (o1 0))) (2 : Int32).toNatClampNeg (some (o2 0))) (3 : Int32).toNatClampNeg (some (o3 0))))))))], wX0 dA o0 B0, wX0 dA o1 B0, wX0 dA o2 B0, wX0 dA o3 B0, wX0 dA o4 B0] : List va_W).flatten : va_W) H := hP
  have hD : va_D A (([[(h0, .inr (7, [.ref qa, .int 0, .int 0])), (qa, .inl (dA 3, 8, .inr (.inr (.inr (.inr (va_up (va_up (va_up (va_up (fun _ => none) (0 : Int32).toNatClampNeg (some (o0 0))) (1 : Int32).toNatClampNeg (some (o1 0))) (2 : Int32).toNatClampNeg (some (o2 0))) (3 : Int32).toNatClampNeg (some (o3 0))))))))], wX0 dA o0 B0, wX0 dA o1 B0, wX0 dA o2 B0, wX0 dA o3 B0, wX0 dA o4 B0] : List va_W).flatten) := hD
  refine va_astq (r := (RX0, TX0, 4)) hx hb hK hP hD hS 1 3 54 4 rfl rfl rfl rfl (show vp_in (4 : Int32) 8 by unfold vp_in; decide) dX3_init_33 (fun H locs hP hD hS => ?_)
  have hP : va_P (dC, dI) vwCl (([[(h0, .inr (7, [.ref qa, .int 0, .int 0])), (qa, .inl (dA 3, 8, .inr (.inr (.inr (.inr (va_up (va_up (va_up (va_up (va_up (fun _ => none) (0 : Int32).toNatClampNeg (some (o0 0))) (1 : Int32).toNatClampNeg (some (o1 0))) (2 : Int32).toNatClampNeg (some (o2 0))) (3 : Int32).toNatClampNeg (some (o3 0))) (4 : Int32).toNatClampNeg (some (o4 0))))))))], wX0 dA o0 B0, wX0 dA o1 B0, wX0 dA o2 B0, wX0 dA o3 B0, wX0 dA o4 B0] : List va_W).flatten : va_W) H := hP
  have hD : va_D A (([[(h0, .inr (7, [.ref qa, .int 0, .int 0])), (qa, .inl (dA 3, 8, .inr (.inr (.inr (.inr (va_up (va_up (va_up (va_up (va_up (fun _ => none) (0 : Int32).toNatClampNeg (some (o0 0))) (1 : Int32).toNatClampNeg (some (o1 0))) (2 : Int32).toNatClampNeg (some (o2 0))) (3 : Int32).toNatClampNeg (some (o3 0))) (4 : Int32).toNatClampNeg (some (o4 0))))))))], wX0 dA o0 B0, wX0 dA o1 B0, wX0 dA o2 B0, wX0 dA o3 B0, wX0 dA o4 B0] : List va_W).flatten) := hD
  refine lv_iinc (v := 5) (lv' := [(1, .int 5), (0, .ref h0)]) hx hb dX3_init_34 hl (k := 0) rfl (by decide) (by decide) rfl (fun ls hl => ?_)
  refine lv_goto (tgt := 15) hx hb dX3_init_37 (by decide) ?_
  refine lv_iload_n hx hb dX3_init_15 rfl (lv_at hl 0 rfl) ?_
  refine lv_bipush (v := 8) hx hb dX3_init_16 (by decide) ?_
  refine lv_icmp_ge (tgt := 40) hx hb dX3_init_18 (by decide) (fun z9 => absurd z9 (by decide)) (fun z9 => ?_)
  refine lv_aload_n hx hb dX3_init_21 rfl (lv_at hl 1 rfl) ?_
  refine va_get (D := (dC, dI)) (ci := 7) (v := .ref qa) (C := RX3) (T := TX3) (N := 3) hx hb hts in_X3 hown hK hP 0 rfl rfl 0 (by decide) (hts _ (bg _ wd_192)) (fun _ h9 => h9) rfl dX3_init_22 ?_
  refine lv_iload_n hx hb dX3_init_25 rfl (lv_at hl 0 rfl) ?_
  refine va_new (ci := 4) (fs := [.null, .null, .null, .null]) (C := RX0) (T := TX0) (N := 4) hx hb hts (fun w h => bg _ (inB_X0 w h)) tyX0 tyX0_ok hown (hts _ (bg _ wd_189)) (hts _ (bg _ wd_41)) (hts _ (bg _ wd_2)) hK hP hD hS hA rfl (fun j hj => by rcases (show j = 0 ∨ j = 1 ∨ j = 2 ∨ j = 3 by omega) with rfl | rfl | rfl | rfl <;> rfl) (Nat.le_of_ble_eq_true rfl) (Nat.le_of_ble_eq_true rfl) dX3_init_26 (fun qn H hP hD hS => ?_)
  rw [fl_snoc] at hP hD
  refine lv_dup hx hb dX3_init_29 rfl ?_
  refine jle_v (gs := [[(h0, .inr (7, [.ref qa, .int 0, .int 0])), (qa, .inl (dA 3, 8, .inr (.inr (.inr (.inr (va_up (va_up (va_up (va_up (va_up (fun _ => none) (0 : Int32).toNatClampNeg (some (o0 0))) (1 : Int32).toNatClampNeg (some (o1 0))) (2 : Int32).toNatClampNeg (some (o2 0))) (3 : Int32).toNatClampNeg (some (o3 0))) (4 : Int32).toNatClampNeg (some (o4 0))))))))], wX0 dA o0 B0, wX0 dA o1 B0, wX0 dA o2 B0, wX0 dA o3 B0, wX0 dA o4 B0]) (g := [(qn, .inr (4, [.null, .null, .null, .null]))]) (g1 := fun oa : Nat → Nat => wX0 dA oa B0) (va_runIN (As := []) (rest := [.ref qn, .int 5, .ref qa]) ⟨hx, hb, hml, hown, hts⟩ (m_X0_init l dC dI dA gz H.size qn) ⟨va_cnB 0 hts (gi_n bg wd_44) rfl rfl rfl (hN _ ng_5) (hts _ (bg _ wd_2)) hd3_X0_init ⟨Nat.le_of_ble_eq_true rfl, Nat.le_of_ble_eq_true rfl⟩, rfl, hts _ (bg _ wd_43)⟩ ⟨pP_blind, pP_pre1 hP hD hS hA hK hN hZ 6 rfl⟩ rfl rfl hl.1 rfl (lv_room (Nat.le_of_ble_eq_true rfl)) dX3_init_30 ⟨Nat.le_of_ble_eq_true rfl, Nat.le_of_ble_eq_true rfl⟩) hP hD hS hA (fun o5 H locs ho hP hD hS => ?_)
  rw [← ho]
  have hP : va_P (dC, dI) vwCl (([[(h0, .inr (7, [.ref qa, .int 0, .int 0])), (qa, .inl (dA 3, 8, .inr (.inr (.inr (.inr (va_up (va_up (va_up (va_up (va_up (fun _ => none) (0 : Int32).toNatClampNeg (some (o0 0))) (1 : Int32).toNatClampNeg (some (o1 0))) (2 : Int32).toNatClampNeg (some (o2 0))) (3 : Int32).toNatClampNeg (some (o3 0))) (4 : Int32).toNatClampNeg (some (o4 0))))))))], wX0 dA o0 B0, wX0 dA o1 B0, wX0 dA o2 B0, wX0 dA o3 B0, wX0 dA o4 B0, wX0 dA o5 B0] : List va_W).flatten : va_W) H := hP
  have hD : va_D A (([[(h0, .inr (7, [.ref qa, .int 0, .int 0])), (qa, .inl (dA 3, 8, .inr (.inr (.inr (.inr (va_up (va_up (va_up (va_up (va_up (fun _ => none) (0 : Int32).toNatClampNeg (some (o0 0))) (1 : Int32).toNatClampNeg (some (o1 0))) (2 : Int32).toNatClampNeg (some (o2 0))) (3 : Int32).toNatClampNeg (some (o3 0))) (4 : Int32).toNatClampNeg (some (o4 0))))))))], wX0 dA o0 B0, wX0 dA o1 B0, wX0 dA o2 B0, wX0 dA o3 B0, wX0 dA o4 B0, wX0 dA o5 B0] : List va_W).flatten) := hD
  refine va_astq (r := (RX0, TX0, 4)) hx hb hK hP hD hS 1 3 67 4 rfl rfl rfl rfl (show vp_in (5 : Int32) 8 by unfold vp_in; decide) dX3_init_33 (fun H locs hP hD hS => ?_)
  have hP : va_P (dC, dI) vwCl (([[(h0, .inr (7, [.ref qa, .int 0, .int 0])), (qa, .inl (dA 3, 8, .inr (.inr (.inr (.inr (va_up (va_up (va_up (va_up (va_up (va_up (fun _ => none) (0 : Int32).toNatClampNeg (some (o0 0))) (1 : Int32).toNatClampNeg (some (o1 0))) (2 : Int32).toNatClampNeg (some (o2 0))) (3 : Int32).toNatClampNeg (some (o3 0))) (4 : Int32).toNatClampNeg (some (o4 0))) (5 : Int32).toNatClampNeg (some (o5 0))))))))], wX0 dA o0 B0, wX0 dA o1 B0, wX0 dA o2 B0, wX0 dA o3 B0, wX0 dA o4 B0, wX0 dA o5 B0] : List va_W).flatten : va_W) H := hP
  have hD : va_D A (([[(h0, .inr (7, [.ref qa, .int 0, .int 0])), (qa, .inl (dA 3, 8, .inr (.inr (.inr (.inr (va_up (va_up (va_up (va_up (va_up (va_up (fun _ => none) (0 : Int32).toNatClampNeg (some (o0 0))) (1 : Int32).toNatClampNeg (some (o1 0))) (2 : Int32).toNatClampNeg (some (o2 0))) (3 : Int32).toNatClampNeg (some (o3 0))) (4 : Int32).toNatClampNeg (some (o4 0))) (5 : Int32).toNatClampNeg (some (o5 0))))))))], wX0 dA o0 B0, wX0 dA o1 B0, wX0 dA o2 B0, wX0 dA o3 B0, wX0 dA o4 B0, wX0 dA o5 B0] : List va_W).flatten) := hD
  refine lv_iinc (v := 6) (lv' := [(1, .int 6), (0, .ref h0)]) hx hb dX3_init_34 hl (k := 0) rfl (by decide) (by decide) rfl (fun ls hl => ?_)
  refine lv_goto (tgt := 15) hx hb dX3_init_37 (by decide) ?_
  refine lv_iload_n hx hb dX3_init_15 rfl (lv_at hl 0 rfl) ?_
  refine lv_bipush (v := 8) hx hb dX3_init_16 (by decide) ?_
  refine lv_icmp_ge (tgt := 40) hx hb dX3_init_18 (by decide) (fun z9 => absurd z9 (by decide)) (fun z9 => ?_)
  refine lv_aload_n hx hb dX3_init_21 rfl (lv_at hl 1 rfl) ?_
  refine va_get (D := (dC, dI)) (ci := 7) (v := .ref qa) (C := RX3) (T := TX3) (N := 3) hx hb hts in_X3 hown hK hP 0 rfl rfl 0 (by decide) (hts _ (bg _ wd_192)) (fun _ h9 => h9) rfl dX3_init_22 ?_
  refine lv_iload_n hx hb dX3_init_25 rfl (lv_at hl 0 rfl) ?_
  refine va_new (ci := 4) (fs := [.null, .null, .null, .null]) (C := RX0) (T := TX0) (N := 4) hx hb hts (fun w h => bg _ (inB_X0 w h)) tyX0 tyX0_ok hown (hts _ (bg _ wd_189)) (hts _ (bg _ wd_41)) (hts _ (bg _ wd_2)) hK hP hD hS hA rfl (fun j hj => by rcases (show j = 0 ∨ j = 1 ∨ j = 2 ∨ j = 3 by omega) with rfl | rfl | rfl | rfl <;> rfl) (Nat.le_of_ble_eq_true rfl) (Nat.le_of_ble_eq_true rfl) dX3_init_26 (fun qn H hP hD hS => ?_)
  rw [fl_snoc] at hP hD
  refine lv_dup hx hb dX3_init_29 rfl ?_
  refine jle_v (gs := [[(h0, .inr (7, [.ref qa, .int 0, .int 0])), (qa, .inl (dA 3, 8, .inr (.inr (.inr (.inr (va_up (va_up (va_up (va_up (va_up (va_up (fun _ => none) (0 : Int32).toNatClampNeg (some (o0 0))) (1 : Int32).toNatClampNeg (some (o1 0))) (2 : Int32).toNatClampNeg (some (o2 0))) (3 : Int32).toNatClampNeg (some (o3 0))) (4 : Int32).toNatClampNeg (some (o4 0))) (5 : Int32).toNatClampNeg (some (o5 0))))))))], wX0 dA o0 B0, wX0 dA o1 B0, wX0 dA o2 B0, wX0 dA o3 B0, wX0 dA o4 B0, wX0 dA o5 B0]) (g := [(qn, .inr (4, [.null, .null, .null, .null]))]) (g1 := fun oa : Nat → Nat => wX0 dA oa B0) (va_runIN (As := []) (rest := [.ref qn, .int 6, .ref qa]) ⟨hx, hb, hml, hown, hts⟩ (m_X0_init l dC dI dA gz H.size qn) ⟨va_cnB 0 hts (gi_n bg wd_44) rfl rfl rfl (hN _ ng_5) (hts _ (bg _ wd_2)) hd3_X0_init ⟨Nat.le_of_ble_eq_true rfl, Nat.le_of_ble_eq_true rfl⟩, rfl, hts _ (bg _ wd_43)⟩ ⟨pP_blind, pP_pre1 hP hD hS hA hK hN hZ 7 rfl⟩ rfl rfl hl.1 rfl (lv_room (Nat.le_of_ble_eq_true rfl)) dX3_init_30 ⟨Nat.le_of_ble_eq_true rfl, Nat.le_of_ble_eq_true rfl⟩) hP hD hS hA (fun o6 H locs ho hP hD hS => ?_)
  rw [← ho]
  have hP : va_P (dC, dI) vwCl (([[(h0, .inr (7, [.ref qa, .int 0, .int 0])), (qa, .inl (dA 3, 8, .inr (.inr (.inr (.inr (va_up (va_up (va_up (va_up (va_up (va_up (fun _ => none) (0 : Int32).toNatClampNeg (some (o0 0))) (1 : Int32).toNatClampNeg (some (o1 0))) (2 : Int32).toNatClampNeg (some (o2 0))) (3 : Int32).toNatClampNeg (some (o3 0))) (4 : Int32).toNatClampNeg (some (o4 0))) (5 : Int32).toNatClampNeg (some (o5 0))))))))], wX0 dA o0 B0, wX0 dA o1 B0, wX0 dA o2 B0, wX0 dA o3 B0, wX0 dA o4 B0, wX0 dA o5 B0, wX0 dA o6 B0] : List va_W).flatten : va_W) H := hP
  have hD : va_D A (([[(h0, .inr (7, [.ref qa, .int 0, .int 0])), (qa, .inl (dA 3, 8, .inr (.inr (.inr (.inr (va_up (va_up (va_up (va_up (va_up (va_up (fun _ => none) (0 : Int32).toNatClampNeg (some (o0 0))) (1 : Int32).toNatClampNeg (some (o1 0))) (2 : Int32).toNatClampNeg (some (o2 0))) (3 : Int32).toNatClampNeg (some (o3 0))) (4 : Int32).toNatClampNeg (some (o4 0))) (5 : Int32).toNatClampNeg (some (o5 0))))))))], wX0 dA o0 B0, wX0 dA o1 B0, wX0 dA o2 B0, wX0 dA o3 B0, wX0 dA o4 B0, wX0 dA o5 B0, wX0 dA o6 B0] : List va_W).flatten) := hD
  refine va_astq (r := (RX0, TX0, 4)) hx hb hK hP hD hS 1 3 80 4 rfl rfl rfl rfl (show vp_in (6 : Int32) 8 by unfold vp_in; decide) dX3_init_33 (fun H locs hP hD hS => ?_)
  have hP : va_P (dC, dI) vwCl (([[(h0, .inr (7, [.ref qa, .int 0, .int 0])), (qa, .inl (dA 3, 8, .inr (.inr (.inr (.inr (va_up (va_up (va_up (va_up (va_up (va_up (va_up (fun _ => none) (0 : Int32).toNatClampNeg (some (o0 0))) (1 : Int32).toNatClampNeg (some (o1 0))) (2 : Int32).toNatClampNeg (some (o2 0))) (3 : Int32).toNatClampNeg (some (o3 0))) (4 : Int32).toNatClampNeg (some (o4 0))) (5 : Int32).toNatClampNeg (some (o5 0))) (6 : Int32).toNatClampNeg (some (o6 0))))))))], wX0 dA o0 B0, wX0 dA o1 B0, wX0 dA o2 B0, wX0 dA o3 B0, wX0 dA o4 B0, wX0 dA o5 B0, wX0 dA o6 B0] : List va_W).flatten : va_W) H := hP
  have hD : va_D A (([[(h0, .inr (7, [.ref qa, .int 0, .int 0])), (qa, .inl (dA 3, 8, .inr (.inr (.inr (.inr (va_up (va_up (va_up (va_up (va_up (va_up (va_up (fun _ => none) (0 : Int32).toNatClampNeg (some (o0 0))) (1 : Int32).toNatClampNeg (some (o1 0))) (2 : Int32).toNatClampNeg (some (o2 0))) (3 : Int32).toNatClampNeg (some (o3 0))) (4 : Int32).toNatClampNeg (some (o4 0))) (5 : Int32).toNatClampNeg (some (o5 0))) (6 : Int32).toNatClampNeg (some (o6 0))))))))], wX0 dA o0 B0, wX0 dA o1 B0, wX0 dA o2 B0, wX0 dA o3 B0, wX0 dA o4 B0, wX0 dA o5 B0, wX0 dA o6 B0] : List va_W).flatten) := hD
  refine lv_iinc (v := 7) (lv' := [(1, .int 7), (0, .ref h0)]) hx hb dX3_init_34 hl (k := 0) rfl (by decide) (by decide) rfl (fun ls hl => ?_)
  refine lv_goto (tgt := 15) hx hb dX3_init_37 (by decide) ?_
  refine lv_iload_n hx hb dX3_init_15 rfl (lv_at hl 0 rfl) ?_
  refine lv_bipush (v := 8) hx hb dX3_init_16 (by decide) ?_
  refine lv_icmp_ge (tgt := 40) hx hb dX3_init_18 (by decide) (fun z9 => absurd z9 (by decide)) (fun z9 => ?_)
  refine lv_aload_n hx hb dX3_init_21 rfl (lv_at hl 1 rfl) ?_
  refine va_get (D := (dC, dI)) (ci := 7) (v := .ref qa) (C := RX3) (T := TX3) (N := 3) hx hb hts in_X3 hown hK hP 0 rfl rfl 0 (by decide) (hts _ (bg _ wd_192)) (fun _ h9 => h9) rfl dX3_init_22 ?_
  refine lv_iload_n hx hb dX3_init_25 rfl (lv_at hl 0 rfl) ?_
  refine va_new (ci := 4) (fs := [.null, .null, .null, .null]) (C := RX0) (T := TX0) (N := 4) hx hb hts (fun w h => bg _ (inB_X0 w h)) tyX0 tyX0_ok hown (hts _ (bg _ wd_189)) (hts _ (bg _ wd_41)) (hts _ (bg _ wd_2)) hK hP hD hS hA rfl (fun j hj => by rcases (show j = 0 ∨ j = 1 ∨ j = 2 ∨ j = 3 by omega) with rfl | rfl | rfl | rfl <;> rfl) (Nat.le_of_ble_eq_true rfl) (Nat.le_of_ble_eq_true rfl) dX3_init_26 (fun qn H hP hD hS => ?_)
  rw [fl_snoc] at hP hD
  refine lv_dup hx hb dX3_init_29 rfl ?_
  refine jle_v (gs := [[(h0, .inr (7, [.ref qa, .int 0, .int 0])), (qa, .inl (dA 3, 8, .inr (.inr (.inr (.inr (va_up (va_up (va_up (va_up (va_up (va_up (va_up (fun _ => none) (0 : Int32).toNatClampNeg (some (o0 0))) (1 : Int32).toNatClampNeg (some (o1 0))) (2 : Int32).toNatClampNeg (some (o2 0))) (3 : Int32).toNatClampNeg (some (o3 0))) (4 : Int32).toNatClampNeg (some (o4 0))) (5 : Int32).toNatClampNeg (some (o5 0))) (6 : Int32).toNatClampNeg (some (o6 0))))))))], wX0 dA o0 B0, wX0 dA o1 B0, wX0 dA o2 B0, wX0 dA o3 B0, wX0 dA o4 B0, wX0 dA o5 B0, wX0 dA o6 B0]) (g := [(qn, .inr (4, [.null, .null, .null, .null]))]) (g1 := fun oa : Nat → Nat => wX0 dA oa B0) (va_runIN (As := []) (rest := [.ref qn, .int 7, .ref qa]) ⟨hx, hb, hml, hown, hts⟩ (m_X0_init l dC dI dA gz H.size qn) ⟨va_cnB 0 hts (gi_n bg wd_44) rfl rfl rfl (hN _ ng_5) (hts _ (bg _ wd_2)) hd3_X0_init ⟨Nat.le_of_ble_eq_true rfl, Nat.le_of_ble_eq_true rfl⟩, rfl, hts _ (bg _ wd_43)⟩ ⟨pP_blind, pP_pre1 hP hD hS hA hK hN hZ 8 rfl⟩ rfl rfl hl.1 rfl (lv_room (Nat.le_of_ble_eq_true rfl)) dX3_init_30 ⟨Nat.le_of_ble_eq_true rfl, Nat.le_of_ble_eq_true rfl⟩) hP hD hS hA (fun o7 H locs ho hP hD hS => ?_)
  rw [← ho]
  have hP : va_P (dC, dI) vwCl (([[(h0, .inr (7, [.ref qa, .int 0, .int 0])), (qa, .inl (dA 3, 8, .inr (.inr (.inr (.inr (va_up (va_up (va_up (va_up (va_up (va_up (va_up (fun _ => none) (0 : Int32).toNatClampNeg (some (o0 0))) (1 : Int32).toNatClampNeg (some (o1 0))) (2 : Int32).toNatClampNeg (some (o2 0))) (3 : Int32).toNatClampNeg (some (o3 0))) (4 : Int32).toNatClampNeg (some (o4 0))) (5 : Int32).toNatClampNeg (some (o5 0))) (6 : Int32).toNatClampNeg (some (o6 0))))))))], wX0 dA o0 B0, wX0 dA o1 B0, wX0 dA o2 B0, wX0 dA o3 B0, wX0 dA o4 B0, wX0 dA o5 B0, wX0 dA o6 B0, wX0 dA o7 B0] : List va_W).flatten : va_W) H := hP
  have hD : va_D A (([[(h0, .inr (7, [.ref qa, .int 0, .int 0])), (qa, .inl (dA 3, 8, .inr (.inr (.inr (.inr (va_up (va_up (va_up (va_up (va_up (va_up (va_up (fun _ => none) (0 : Int32).toNatClampNeg (some (o0 0))) (1 : Int32).toNatClampNeg (some (o1 0))) (2 : Int32).toNatClampNeg (some (o2 0))) (3 : Int32).toNatClampNeg (some (o3 0))) (4 : Int32).toNatClampNeg (some (o4 0))) (5 : Int32).toNatClampNeg (some (o5 0))) (6 : Int32).toNatClampNeg (some (o6 0))))))))], wX0 dA o0 B0, wX0 dA o1 B0, wX0 dA o2 B0, wX0 dA o3 B0, wX0 dA o4 B0, wX0 dA o5 B0, wX0 dA o6 B0, wX0 dA o7 B0] : List va_W).flatten) := hD
  refine va_astq (r := (RX0, TX0, 4)) hx hb hK hP hD hS 1 3 93 4 rfl rfl rfl rfl (show vp_in (7 : Int32) 8 by unfold vp_in; decide) dX3_init_33 (fun H locs hP hD hS => ?_)
  have hP : va_P (dC, dI) vwCl (([[(h0, .inr (7, [.ref qa, .int 0, .int 0])), (qa, .inl (dA 3, 8, .inr (.inr (.inr (.inr (va_up (va_up (va_up (va_up (va_up (va_up (va_up (va_up (fun _ => none) (0 : Int32).toNatClampNeg (some (o0 0))) (1 : Int32).toNatClampNeg (some (o1 0))) (2 : Int32).toNatClampNeg (some (o2 0))) (3 : Int32).toNatClampNeg (some (o3 0))) (4 : Int32).toNatClampNeg (some (o4 0))) (5 : Int32).toNatClampNeg (some (o5 0))) (6 : Int32).toNatClampNeg (some (o6 0))) (7 : Int32).toNatClampNeg (some (o7 0))))))))], wX0 dA o0 B0, wX0 dA o1 B0, wX0 dA o2 B0, wX0 dA o3 B0, wX0 dA o4 B0, wX0 dA o5 B0, wX0 dA o6 B0, wX0 dA o7 B0] : List va_W).flatten : va_W) H := hP
  have hD : va_D A (([[(h0, .inr (7, [.ref qa, .int 0, .int 0])), (qa, .inl (dA 3, 8, .inr (.inr (.inr (.inr (va_up (va_up (va_up (va_up (va_up (va_up (va_up (va_up (fun _ => none) (0 : Int32).toNatClampNeg (some (o0 0))) (1 : Int32).toNatClampNeg (some (o1 0))) (2 : Int32).toNatClampNeg (some (o2 0))) (3 : Int32).toNatClampNeg (some (o3 0))) (4 : Int32).toNatClampNeg (some (o4 0))) (5 : Int32).toNatClampNeg (some (o5 0))) (6 : Int32).toNatClampNeg (some (o6 0))) (7 : Int32).toNatClampNeg (some (o7 0))))))))], wX0 dA o0 B0, wX0 dA o1 B0, wX0 dA o2 B0, wX0 dA o3 B0, wX0 dA o4 B0, wX0 dA o5 B0, wX0 dA o6 B0, wX0 dA o7 B0] : List va_W).flatten) := hD
  refine lv_iinc (v := 8) (lv' := [(1, .int 8), (0, .ref h0)]) hx hb dX3_init_34 hl (k := 0) rfl (by decide) (by decide) rfl (fun ls hl => ?_)
  refine lv_goto (tgt := 15) hx hb dX3_init_37 (by decide) ?_
  refine lv_iload_n hx hb dX3_init_15 rfl (lv_at hl 0 rfl) ?_
  refine lv_bipush (v := 8) hx hb dX3_init_16 (by decide) ?_
  refine lv_icmp_ge (tgt := 40) hx hb dX3_init_18 (by decide) (fun z9 => ?_) (fun z9 => absurd (by decide) z9)
  obtain ⟨oa, hoa⟩ : ∃ oa : Nat → Nat, oa = (fun k => if k = 0 then h0 else if k = 1 then qa else ([o0, o1, o2, o3, o4, o5, o6, o7].getD ((k - 2) / 13) o0) ((k - 2) % 13)) := ⟨_, rfl⟩
  have hF : ∀ j, j < 8 → (va_up (va_up (va_up (va_up (va_up (va_up (va_up (va_up (fun _ => none) (0 : Int32).toNatClampNeg (some (o0 0))) (1 : Int32).toNatClampNeg (some (o1 0))) (2 : Int32).toNatClampNeg (some (o2 0))) (3 : Int32).toNatClampNeg (some (o3 0))) (4 : Int32).toNatClampNeg (some (o4 0))) (5 : Int32).toNatClampNeg (some (o5 0))) (6 : Int32).toNatClampNeg (some (o6 0))) (7 : Int32).toNatClampNeg (some (o7 0))) j = (fun i => some (oa (2 + 13 * i))) j := by
    intro j hj
    subst hoa
    rcases (show j = 0 ∨ j = 1 ∨ j = 2 ∨ j = 3 ∨ j = 4 ∨ j = 5 ∨ j = 6 ∨ j = 7 by omega) with rfl | rfl | rfl | rfl | rfl | rfl | rfl | rfl <;> rfl
  have hP : va_P (dC, dI) vwCl (([[(h0, .inr (7, [.ref qa, .int 0, .int 0])), (qa, .inl (dA 3, 8, .inr (.inr (.inr (.inr (fun i => some (oa (2 + 13 * i))))))))], wX0 dA o0 B0, wX0 dA o1 B0, wX0 dA o2 B0, wX0 dA o3 B0, wX0 dA o4 B0, wX0 dA o5 B0, wX0 dA o6 B0, wX0 dA o7 B0] : List va_W).flatten) H := P_arrq hF hP
  have hD : va_D A (([[(h0, .inr (7, [.ref qa, .int 0, .int 0])), (qa, .inl (dA 3, 8, .inr (.inr (.inr (.inr (fun i => some (oa (2 + 13 * i))))))))], wX0 dA o0 B0, wX0 dA o1 B0, wX0 dA o2 B0, wX0 dA o3 B0, wX0 dA o4 B0, wX0 dA o5 B0, wX0 dA o6 B0, wX0 dA o7 B0] : List va_W).flatten) := D_arrq hD
  have hW9 : ([[(h0, .inr (7, [.ref qa, .int 0, .int 0])), (qa, .inl (dA 3, 8, .inr (.inr (.inr (.inr (fun i => some (oa (2 + 13 * i))))))))], wX0 dA o0 B0, wX0 dA o1 B0, wX0 dA o2 B0, wX0 dA o3 B0, wX0 dA o4 B0, wX0 dA o5 B0, wX0 dA o6 B0, wX0 dA o7 B0] : List va_W).flatten = wX3 dA oa (0, 0, fun _ => B0) := by
    subst hoa
    rfl
  rw [hW9] at hP hD
  refine W.widen (k := 105) (n := 816) (Nat.le_of_ble_eq_true rfl) (Nat.le_of_ble_eq_true rfl) ?_
  exact W.vret hx hb hr (fun t ht hW => ⟨⟨oa, rfl, by subst hoa; rfl, by rw [ht]; exact hP, hD⟩, hS.F ht⟩) hS.2.2 dX3_init_40
