/-- pairs of exceptions that the law's start says are apart -/
def NCL : List (String × String) := [("java/lang/IllegalArgumentException", "java/lang/UnsupportedOperationException"), ("java/lang/IllegalArgumentException", "java/util/NoSuchElementException"), ("java/lang/IllegalArgumentException", "java/lang/IllegalStateException"), ("java/lang/IllegalArgumentException", "java/lang/IndexOutOfBoundsException"), ("java/lang/IllegalArgumentException", "java/lang/ArithmeticException"), ("java/lang/UnsupportedOperationException", "java/lang/IllegalArgumentException"), ("java/lang/UnsupportedOperationException", "java/util/NoSuchElementException"), ("java/lang/UnsupportedOperationException", "java/lang/IllegalStateException"), ("java/lang/UnsupportedOperationException", "java/lang/IndexOutOfBoundsException"), ("java/lang/UnsupportedOperationException", "java/lang/ArithmeticException"), ("java/util/NoSuchElementException", "java/lang/IllegalArgumentException"), ("java/util/NoSuchElementException", "java/lang/UnsupportedOperationException"), ("java/util/NoSuchElementException", "java/lang/IllegalStateException"), ("java/util/NoSuchElementException", "java/lang/IndexOutOfBoundsException"), ("java/util/NoSuchElementException", "java/lang/ArithmeticException"), ("java/lang/IllegalStateException", "java/lang/IllegalArgumentException"), ("java/lang/IllegalStateException", "java/lang/UnsupportedOperationException"), ("java/lang/IllegalStateException", "java/util/NoSuchElementException"), ("java/lang/IllegalStateException", "java/lang/IndexOutOfBoundsException"), ("java/lang/IllegalStateException", "java/lang/ArithmeticException"), ("java/lang/IndexOutOfBoundsException", "java/lang/IllegalArgumentException"), ("java/lang/IndexOutOfBoundsException", "java/lang/UnsupportedOperationException"), ("java/lang/IndexOutOfBoundsException", "java/util/NoSuchElementException"), ("java/lang/IndexOutOfBoundsException", "java/lang/IllegalStateException"), ("java/lang/IndexOutOfBoundsException", "java/lang/ArithmeticException"), ("java/lang/ArithmeticException", "java/lang/IllegalArgumentException"), ("java/lang/ArithmeticException", "java/lang/UnsupportedOperationException"), ("java/lang/ArithmeticException", "java/util/NoSuchElementException"), ("java/lang/ArithmeticException", "java/lang/IllegalStateException"), ("java/lang/ArithmeticException", "java/lang/IndexOutOfBoundsException")]
def nC (U : State) : Prop := ∀ q ∈ NCL, va_Nc q.1 q.2 U
theorem nC_mv {u U : State} (hvm : u.vm.Alike U.vm) (h : nC u) : nC U := fun q hq => va_Nc.moved hvm (h q hq)
/-- a start of a method of the law -/
abbrev pL (D : va_G) (dA gz : Nat → Nat) (ws : va_W) (sz : Nat) (U : State) : Prop := pP D dA gz ws sz U ∧ nC U
theorem pL_blind {av : List Value} {D : va_G} {dA gz : Nat → Nat} {ws : va_W} {sz : Nat} : FrameBlind (va_Pc av (pL D dA gz ws sz)) := fun a U g mk q =>
  ⟨(pP_blind a U g mk ⟨q.1, q.2.1⟩).1, (pP_blind a U g mk ⟨q.1, q.2.1⟩).2, nC_mv (u := U) (U := U.calling g mk a) (Vm.Alike.refl U.vm) q.2.2⟩
theorem pL_of {av : List Value} {D : va_G} {dA gz : Nat → Nat} {ws : va_W} {sz : Nat} {s : State} {H : Heap} (hC : nC s) (h : ∀ U : State, U.heap = H → s.WarmedH U.vm → va_Pc av (pP D dA gz ws sz) av.toArray U) : ∀ U : State, U.heap = H → s.WarmedH U.vm → va_Pc av (pL D dA gz ws sz) av.toArray U := fun U hU hW => ⟨(h U hU hW).1, (h U hU hW).2, nC_mv hW.alike hC⟩
theorem i2_mem {L : List (String × String)} {q : String × String} (i : Nat) (h : L[i]? = some q) : q ∈ L := List.mem_of_getElem? h
abbrev noX : String → State → State → Prop := fun _ _ _ => False
theorem tab_L {hh : List (Nat × Nat × Nat × Nat)} {T1 T2 : List ExceptionTableEntry} {X : ExceptionTableEntry} (h : tableOf hh = T1 ++ X :: T2) {E0 : List ExceptionTableEntry} (h1 : E0 = tableOf hh) : E0 = T1 ++ X :: T2 := h1.trans h
def f_L_start (S : SX7)  : Option (Int32 × SX7) := (g_X7_start S ).bind fun q => match q with
  | (.inl r, S1) => some (r, S1)
  | (.inr E0, S1) => if E0 = "java/lang/UnsupportedOperationException" then some ((-100000000), S1) else none
set_option maxRecDepth 100000 in
set_option maxHeartbeats 4000000 in
theorem m_L_start (l : Launch) (hl0 : l.stackTraces = false) (dC : Nat → ClassId) (dI : Nat → Nat → Nat) (dA gz : Nat → Nat) (oa : Nat → Nat) (sz : Nat) (ln : LN) (S : SX7)  (rr : Int32) (uu : SX7) (hf : f_L_start S  = some (rr, uu)) : vx_Met l yL_start ws_L_start ({ frames := 38, cells := 1, slots := 6, locals := 1600 } : Room) (va_Pc [.ref (oa 0)] (pL (dC, dI) dA gz (wX7 dA oa S ln) sz)) (va_Qi (S := Unit) (fun r' _ => r' = rr) (fun _ t => pQ (dC, dI) (va_A (wX7 dA oa S ln) sz) (wX7 dA oa uu ln) t) (va_A (wX7 dA oa S ln) sz)) noX 1 6 (va_A (wX7 dA oa S ln) sz) := by
  refine vx_ofWH (cc := cL_start) (maxL := 3) (ret := (some .int)) (hh := [(3, 8, 11, 19)]) (by decide) rfl ?_
  intro p e s m args below meth c s₁ B hml hv
  obtain ⟨rfl, ⟨hsz, hP, hK, hD0, hN, hZ⟩, hC⟩ := hv
  have hx := B.exec
  have hb := B.bytes
  have hr := B.returns
  have hts := atoms_spec (ws := ws_L_start) B.pre
  have hown : s.vm.findClass RL = some m.cls := findClass_of_methodNamed B.named
  have hlocks := B.notSynchronized
  subst hsz
  have hTab := vx_table (x := yL_start) B (hts _ List.mem_cons_self)
  have hD := hD0.self (sz := s.heap.size)
  generalize hAe : va_A (wX7 dA oa S ln) s.heap.size = A at hD hZ ⊢
  have hA : ∀ q : Nat, s.heap.size ≤ q → A q := fun q h => by rw [← hAe]; exact Or.inr h
  have hS : va_S A s.heap s.heap [] := va_S.rf
  have hl := lv_entry [.ref (oa 0)] (n := 3) (Nat.le_of_ble_eq_true rfl)
  rw [lg_entry_eq]
  generalize (lg_sl [.ref (oa 0)] ++ List.replicate (3 - (lg_sl [.ref (oa 0)]).length) Slot.unset).toArray = ls at hl ⊢
  have hl : lv_has ls 3 [(0, .ref (oa 0))] := hl
  rw [f_L_start] at hf
  refine lv_ldc hx hb (v := (-100000000)) hown (hts _ (bg _ wd_350)) dL_start_0 ?_
  refine lv_istore_n (lv' := [(1, .int (-100000000)), (0, .ref (oa 0))]) hx hb dL_start_2 rfl hl (by decide) rfl (fun ls hl => ?_)
  refine lv_aload_n hx hb dL_start_3 rfl (lv_at hl 1 rfl) ?_
  obtain ⟨⟨r0, S1⟩, hq, hf⟩ := bd hf
  rcases r0 with r | E0
  · refine jx_i (w1 := wX7 dA oa S1 ln) (vx_runV (As := []) (rest := []) ⟨hx, hb, hml, hown, hts⟩ (mt_X7_start l hl0 dC dI dA gz oa s.heap.size ln S  (.inl r) S1 hq) (cwV 0 hts (gi_v bg wd_496 wd_497 wd_498 wd_1 wd_499) rfl rfl rfl hd_X7_start ⟨Nat.le_of_ble_eq_true rfl, Nat.le_of_ble_eq_true rfl⟩) ⟨pP_blind, va_recv (ci := 11) (q0 := 0) hK hP rfl rfl, pP_preW hP hD hS hA hK hN hZ⟩ rfl rfl hl.1 rfl (lv_room (Nat.le_of_ble_eq_true rfl)) dL_start_4 ⟨Nat.le_of_ble_eq_true rfl, Nat.le_of_ble_eq_true rfl⟩) hD hS hA (fun E ce q9 H locs h9 _ _ _ _ _ _ => nomatch h9) (fun r9 H locs h9 hP hD hS => ?_)
    cases h9
    refine lv_istore_n (lv' := [(1, .int r), (0, .ref (oa 0))]) hx hb dL_start_7 rfl hl (by decide) rfl (fun ls hl => ?_)
    refine lv_goto (tgt := 15) hx hb dL_start_8 (by decide) ?_
    refine lv_iload_n hx hb dL_start_15 rfl (lv_at hl 0 rfl) ?_
    obtain ⟨e8, e9⟩ := Prod.mk.inj (sm hf)
    exact vx_ret (W.iret hx hb hr (fun t ht hW => ⟨⟨_, (), rfl, e8, by rw [← e9, ht]; exact hP, by rw [← e9]; exact hD⟩, hS.F ht⟩) hS.2.2 dL_start_16)
  · refine jx_i (w1 := wX7 dA oa S1 ln) (vx_runV (As := []) (rest := []) ⟨hx, hb, hml, hown, hts⟩ (mt_X7_start l hl0 dC dI dA gz oa s.heap.size ln S  (.inr E0) S1 hq) (cwV 0 hts (gi_v bg wd_496 wd_497 wd_498 wd_1 wd_499) rfl rfl rfl hd_X7_start ⟨Nat.le_of_ble_eq_true rfl, Nat.le_of_ble_eq_true rfl⟩) ⟨pP_blind, va_recv (ci := 11) (q0 := 0) hK hP rfl rfl, pP_preW hP hD hS hA hK hN hZ⟩ rfl rfl hl.1 rfl (lv_room (Nat.le_of_ble_eq_true rfl)) dL_start_4 ⟨Nat.le_of_ble_eq_true rfl, Nat.le_of_ble_eq_true rfl⟩) hD hS hA (fun E ce q9 H locs h9 hP hD hS h1 h2 h3 => ?_) (fun r9 H locs h9 _ _ _ => nomatch h9)
    cases h9
    by_cases c0 : E0 = "java/lang/UnsupportedOperationException"
    · have hf := it c0 hf
      subst c0
      refine vx_catch hown ((tableOf [(3, 8, 11, 19)]).take 0) ((tableOf [(3, 8, 11, 19)]).get ⟨0, by decide⟩) ((tableOf [(3, 8, 11, 19)]).drop 1) hTab (fun z hz => by cases hz) (by decide) (by decide) (hts _ (bg _ wd_349)) (va_Nw.use rfl (hN _ ng_15)) h1 h2 h3 ?_
      refine W.eq (g2 := F0 m 11 ls [.ref q9]) rfl ?_
      refine lv_astore_n (lv' := [(2, .ref q9), (1, .int (-100000000)), (0, .ref (oa 0))]) hx hb dL_start_11 rfl hl (by decide) rfl (fun ls hl => ?_)
      refine lv_ldc hx hb (v := (-100000000)) hown (hts _ (bg _ wd_350)) dL_start_12 ?_
      obtain ⟨e8, e9⟩ := Prod.mk.inj (sm hf)
      exact vx_ret (W.iret hx hb hr (fun t ht hW => ⟨⟨_, (), rfl, e8, by rw [← e9, ht]; exact hP, by rw [← e9]; exact hD⟩, hS.F ht⟩) hS.2.2 dL_start_14)
    · have hf := ie c0 hf
      cases hf
def f_L_addPhase (S : SX7) (p1 : Int32) (p2 : Int32) (p3 : Int32) : Option (Int32 × SX7) := (g_X7_addPhase S p1 p2 p3).bind fun q => match q with
  | (.inl r, S1) => some (r, S1)
  | (.inr E0, S1) => if E0 = "java/lang/IllegalArgumentException" then some ((-100000000), S1) else if E0 = "java/lang/UnsupportedOperationException" then some ((-100000000), S1) else none
set_option maxRecDepth 100000 in
set_option maxHeartbeats 4000000 in
theorem m_L_addPhase (l : Launch) (hl0 : l.stackTraces = false) (dC : Nat → ClassId) (dI : Nat → Nat → Nat) (dA gz : Nat → Nat) (oa : Nat → Nat) (sz : Nat) (ln : LN) (S : SX7) (p1 : Int32) (p2 : Int32) (p3 : Int32) (rr : Int32) (uu : SX7) (hf : f_L_addPhase S p1 p2 p3 = some (rr, uu)) : vx_Met l yL_addPhase ws_L_addPhase ({ frames := 38, cells := 2, slots := 12, locals := 1600 } : Room) (va_Pc [.ref (oa 0), .int p1, .int p2, .int p3] (pL (dC, dI) dA gz (wX7 dA oa S ln) sz)) (va_Qi (S := Unit) (fun r' _ => r' = rr) (fun _ t => pQ (dC, dI) (va_A (wX7 dA oa S ln) sz) (wX7 dA oa uu ln) t) (va_A (wX7 dA oa S ln) sz)) noX 2 12 (va_A (wX7 dA oa S ln) sz) := by
  refine vx_ofWH (cc := cL_addPhase) (maxL := 6) (ret := (some .int)) (hh := [(4, 13, 16, 17), (4, 13, 21, 19)]) (by decide) rfl ?_
  intro p e s m args below meth c s₁ B hml hv
  obtain ⟨rfl, ⟨hsz, hP, hK, hD0, hN, hZ⟩, hC⟩ := hv
  have hx := B.exec
  have hb := B.bytes
  have hr := B.returns
  have hts := atoms_spec (ws := ws_L_addPhase) B.pre
  have hown : s.vm.findClass RL = some m.cls := findClass_of_methodNamed B.named
  have hlocks := B.notSynchronized
  subst hsz
  have hTab := vx_table (x := yL_addPhase) B (hts _ List.mem_cons_self)
  have hD := hD0.self (sz := s.heap.size)
  generalize hAe : va_A (wX7 dA oa S ln) s.heap.size = A at hD hZ ⊢
  have hA : ∀ q : Nat, s.heap.size ≤ q → A q := fun q h => by rw [← hAe]; exact Or.inr h
  have hS : va_S A s.heap s.heap [] := va_S.rf
  have hl := lv_entry [.ref (oa 0), .int p1, .int p2, .int p3] (n := 6) (Nat.le_of_ble_eq_true rfl)
  rw [lg_entry_eq]
  generalize (lg_sl [.ref (oa 0), .int p1, .int p2, .int p3] ++ List.replicate (6 - (lg_sl [.ref (oa 0), .int p1, .int p2, .int p3]).length) Slot.unset).toArray = ls at hl ⊢
  have hl : lv_has ls 6 [(0, .ref (oa 0)), (1, .int p1), (2, .int p2), (3, .int p3)] := hl
  rw [f_L_addPhase] at hf
  refine lv_ldc hx hb (v := (-100000000)) hown (hts _ (bg _ wd_350)) dL_addPhase_0 ?_
  refine lv_istore (lv' := [(4, .int (-100000000)), (0, .ref (oa 0)), (1, .int p1), (2, .int p2), (3, .int p3)]) hx hb dL_addPhase_2 hl (by decide) rfl (fun ls hl => ?_)
  refine lv_aload_n hx hb dL_addPhase_4 rfl (lv_at hl 1 rfl) ?_
  refine lv_iload_n hx hb dL_addPhase_5 rfl (lv_at hl 2 rfl) ?_
  refine lv_iload_n hx hb dL_addPhase_6 rfl (lv_at hl 3 rfl) ?_
  refine lv_iload_n hx hb dL_addPhase_7 rfl (lv_at hl 4 rfl) ?_
  obtain ⟨⟨r0, S1⟩, hq, hf⟩ := bd hf
  rcases r0 with r | E0
  · refine jx_i (w1 := wX7 dA oa S1 ln) (vx_runV (As := [.int p1, .int p2, .int p3]) (rest := []) ⟨hx, hb, hml, hown, hts⟩ (mt_X7_addPhase l hl0 dC dI dA gz oa s.heap.size ln S p1 p2 p3 (.inl r) S1 hq) (cwV 3 hts (gi_v bg wd_351 wd_352 wd_353 wd_1 wd_354) rfl rfl rfl hd_X7_addPhase ⟨Nat.le_of_ble_eq_true rfl, Nat.le_of_ble_eq_true rfl⟩) ⟨pP_blind, va_recv (ci := 11) (q0 := 0) hK hP rfl rfl, pP_preW hP hD hS hA hK hN hZ⟩ rfl rfl hl.1 rfl (lv_room (Nat.le_of_ble_eq_true rfl)) dL_addPhase_8 ⟨Nat.le_of_ble_eq_true rfl, Nat.le_of_ble_eq_true rfl⟩) hD hS hA (fun E ce q9 H locs h9 _ _ _ _ _ _ => nomatch h9) (fun r9 H locs h9 hP hD hS => ?_)
    cases h9
    refine lv_istore (lv' := [(4, .int r), (0, .ref (oa 0)), (1, .int p1), (2, .int p2), (3, .int p3)]) hx hb dL_addPhase_11 hl (by decide) rfl (fun ls hl => ?_)
    refine lv_goto (tgt := 26) hx hb dL_addPhase_13 (by decide) ?_
    refine lv_iload hx hb dL_addPhase_26 (lv_at hl 0 rfl) ?_
    obtain ⟨e8, e9⟩ := Prod.mk.inj (sm hf)
    exact vx_ret (W.iret hx hb hr (fun t ht hW => ⟨⟨_, (), rfl, e8, by rw [← e9, ht]; exact hP, by rw [← e9]; exact hD⟩, hS.F ht⟩) hS.2.2 dL_addPhase_28)
  · refine jx_i (w1 := wX7 dA oa S1 ln) (vx_runV (As := [.int p1, .int p2, .int p3]) (rest := []) ⟨hx, hb, hml, hown, hts⟩ (mt_X7_addPhase l hl0 dC dI dA gz oa s.heap.size ln S p1 p2 p3 (.inr E0) S1 hq) (cwV 3 hts (gi_v bg wd_351 wd_352 wd_353 wd_1 wd_354) rfl rfl rfl hd_X7_addPhase ⟨Nat.le_of_ble_eq_true rfl, Nat.le_of_ble_eq_true rfl⟩) ⟨pP_blind, va_recv (ci := 11) (q0 := 0) hK hP rfl rfl, pP_preW hP hD hS hA hK hN hZ⟩ rfl rfl hl.1 rfl (lv_room (Nat.le_of_ble_eq_true rfl)) dL_addPhase_8 ⟨Nat.le_of_ble_eq_true rfl, Nat.le_of_ble_eq_true rfl⟩) hD hS hA (fun E ce q9 H locs h9 hP hD hS h1 h2 h3 => ?_) (fun r9 H locs h9 _ _ _ => nomatch h9)
    cases h9
    by_cases c0 : E0 = "java/lang/IllegalArgumentException"
    · have hf := it c0 hf
      subst c0
      refine vx_catch hown ((tableOf [(4, 13, 16, 17), (4, 13, 21, 19)]).take 0) ((tableOf [(4, 13, 16, 17), (4, 13, 21, 19)]).get ⟨0, by decide⟩) ((tableOf [(4, 13, 16, 17), (4, 13, 21, 19)]).drop 1) hTab (fun z hz => by cases hz) (by decide) (by decide) (hts _ (bg _ wd_348)) (va_Nw.use rfl (hN _ ng_8)) h1 h2 h3 ?_
      refine W.eq (g2 := F0 m 16 ls [.ref q9]) rfl ?_
      refine lv_astore (lv' := [(5, .ref q9), (4, .int (-100000000)), (0, .ref (oa 0)), (1, .int p1), (2, .int p2), (3, .int p3)]) hx hb dL_addPhase_16 hl (by decide) rfl (fun ls hl => ?_)
      refine lv_ldc hx hb (v := (-100000000)) hown (hts _ (bg _ wd_350)) dL_addPhase_18 ?_
      obtain ⟨e8, e9⟩ := Prod.mk.inj (sm hf)
      exact vx_ret (W.iret hx hb hr (fun t ht hW => ⟨⟨_, (), rfl, e8, by rw [← e9, ht]; exact hP, by rw [← e9]; exact hD⟩, hS.F ht⟩) hS.2.2 dL_addPhase_20)
    · have hf := ie c0 hf
      by_cases c1 : E0 = "java/lang/UnsupportedOperationException"
      · have hf := it c1 hf
        subst c1
        refine vx_catch hown ((tableOf [(4, 13, 16, 17), (4, 13, 21, 19)]).take 1) ((tableOf [(4, 13, 16, 17), (4, 13, 21, 19)]).get ⟨1, by decide⟩) ((tableOf [(4, 13, 16, 17), (4, 13, 21, 19)]).drop 2) hTab (fun z hz => by rcases List.mem_cons.mp hz with rfl | hz; exact Or.inr ⟨by decide, "java/lang/IllegalArgumentException", hts _ (bg _ wd_348), hC _ (i2_mem 5 rfl)⟩; cases hz) (by decide) (by decide) (hts _ (bg _ wd_349)) (va_Nw.use rfl (hN _ ng_15)) h1 h2 h3 ?_
        refine W.eq (g2 := F0 m 21 ls [.ref q9]) rfl ?_
        refine lv_astore (lv' := [(5, .ref q9), (4, .int (-100000000)), (0, .ref (oa 0)), (1, .int p1), (2, .int p2), (3, .int p3)]) hx hb dL_addPhase_21 hl (by decide) rfl (fun ls hl => ?_)
        refine lv_ldc hx hb (v := (-100000000)) hown (hts _ (bg _ wd_350)) dL_addPhase_23 ?_
        obtain ⟨e8, e9⟩ := Prod.mk.inj (sm hf)
        exact vx_ret (W.iret hx hb hr (fun t ht hW => ⟨⟨_, (), rfl, e8, by rw [← e9, ht]; exact hP, by rw [← e9]; exact hD⟩, hS.F ht⟩) hS.2.2 dL_addPhase_25)
      · have hf := ie c1 hf
        cases hf
def f_L_removePhase (S : SX7) (p1 : Int32) : Option (Int32 × SX7) := (g_X7_removePhase S p1).bind fun q => match q with
  | (.inl r, S1) => some (r, S1)
  | (.inr E0, S1) => if E0 = "java/lang/IndexOutOfBoundsException" then some ((-100000000), S1) else if E0 = "java/lang/UnsupportedOperationException" then some ((-100000000), S1) else none
set_option maxRecDepth 100000 in
set_option maxHeartbeats 4000000 in
theorem m_L_removePhase (l : Launch) (hl0 : l.stackTraces = false) (dC : Nat → ClassId) (dI : Nat → Nat → Nat) (dA gz : Nat → Nat) (oa : Nat → Nat) (sz : Nat) (ln : LN) (S : SX7) (p1 : Int32) (rr : Int32) (uu : SX7) (hf : f_L_removePhase S p1 = some (rr, uu)) : vx_Met l yL_removePhase ws_L_removePhase ({ frames := 38, cells := 2, slots := 12, locals := 1600 } : Room) (va_Pc [.ref (oa 0), .int p1] (pL (dC, dI) dA gz (wX7 dA oa S ln) sz)) (va_Qi (S := Unit) (fun r' _ => r' = rr) (fun _ t => pQ (dC, dI) (va_A (wX7 dA oa S ln) sz) (wX7 dA oa uu ln) t) (va_A (wX7 dA oa S ln) sz)) noX 2 12 (va_A (wX7 dA oa S ln) sz) := by
  refine vx_ofWH (cc := cL_removePhase) (maxL := 4) (ret := (some .int)) (hh := [(3, 9, 12, 25), (3, 9, 16, 19)]) (by decide) rfl ?_
  intro p e s m args below meth c s₁ B hml hv
  obtain ⟨rfl, ⟨hsz, hP, hK, hD0, hN, hZ⟩, hC⟩ := hv
  have hx := B.exec
  have hb := B.bytes
  have hr := B.returns
  have hts := atoms_spec (ws := ws_L_removePhase) B.pre
  have hown : s.vm.findClass RL = some m.cls := findClass_of_methodNamed B.named
  have hlocks := B.notSynchronized
  subst hsz
  have hTab := vx_table (x := yL_removePhase) B (hts _ List.mem_cons_self)
  have hD := hD0.self (sz := s.heap.size)
  generalize hAe : va_A (wX7 dA oa S ln) s.heap.size = A at hD hZ ⊢
  have hA : ∀ q : Nat, s.heap.size ≤ q → A q := fun q h => by rw [← hAe]; exact Or.inr h
  have hS : va_S A s.heap s.heap [] := va_S.rf
  have hl := lv_entry [.ref (oa 0), .int p1] (n := 4) (Nat.le_of_ble_eq_true rfl)
  rw [lg_entry_eq]
  generalize (lg_sl [.ref (oa 0), .int p1] ++ List.replicate (4 - (lg_sl [.ref (oa 0), .int p1]).length) Slot.unset).toArray = ls at hl ⊢
  have hl : lv_has ls 4 [(0, .ref (oa 0)), (1, .int p1)] := hl
  rw [f_L_removePhase] at hf
  refine lv_ldc hx hb (v := (-100000000)) hown (hts _ (bg _ wd_350)) dL_removePhase_0 ?_
  refine lv_istore_n (lv' := [(2, .int (-100000000)), (0, .ref (oa 0)), (1, .int p1)]) hx hb dL_removePhase_2 rfl hl (by decide) rfl (fun ls hl => ?_)
  refine lv_aload_n hx hb dL_removePhase_3 rfl (lv_at hl 1 rfl) ?_
  refine lv_iload_n hx hb dL_removePhase_4 rfl (lv_at hl 2 rfl) ?_
  obtain ⟨⟨r0, S1⟩, hq, hf⟩ := bd hf
  rcases r0 with r | E0
  · refine jx_i (w1 := wX7 dA oa S1 ln) (vx_runV (As := [.int p1]) (rest := []) ⟨hx, hb, hml, hown, hts⟩ (mt_X7_removePhase l hl0 dC dI dA gz oa s.heap.size ln S p1 (.inl r) S1 hq) (cwV 1 hts (gi_v bg wd_924 wd_925 wd_926 wd_1 wd_927) rfl rfl rfl hd_X7_removePhase ⟨Nat.le_of_ble_eq_true rfl, Nat.le_of_ble_eq_true rfl⟩) ⟨pP_blind, va_recv (ci := 11) (q0 := 0) hK hP rfl rfl, pP_preW hP hD hS hA hK hN hZ⟩ rfl rfl hl.1 rfl (lv_room (Nat.le_of_ble_eq_true rfl)) dL_removePhase_5 ⟨Nat.le_of_ble_eq_true rfl, Nat.le_of_ble_eq_true rfl⟩) hD hS hA (fun E ce q9 H locs h9 _ _ _ _ _ _ => nomatch h9) (fun r9 H locs h9 hP hD hS => ?_)
    cases h9
    refine lv_istore_n (lv' := [(2, .int r), (0, .ref (oa 0)), (1, .int p1)]) hx hb dL_removePhase_8 rfl hl (by decide) rfl (fun ls hl => ?_)
    refine lv_goto (tgt := 20) hx hb dL_removePhase_9 (by decide) ?_
    refine lv_iload_n hx hb dL_removePhase_20 rfl (lv_at hl 0 rfl) ?_
    obtain ⟨e8, e9⟩ := Prod.mk.inj (sm hf)
    exact vx_ret (W.iret hx hb hr (fun t ht hW => ⟨⟨_, (), rfl, e8, by rw [← e9, ht]; exact hP, by rw [← e9]; exact hD⟩, hS.F ht⟩) hS.2.2 dL_removePhase_21)
  · refine jx_i (w1 := wX7 dA oa S1 ln) (vx_runV (As := [.int p1]) (rest := []) ⟨hx, hb, hml, hown, hts⟩ (mt_X7_removePhase l hl0 dC dI dA gz oa s.heap.size ln S p1 (.inr E0) S1 hq) (cwV 1 hts (gi_v bg wd_924 wd_925 wd_926 wd_1 wd_927) rfl rfl rfl hd_X7_removePhase ⟨Nat.le_of_ble_eq_true rfl, Nat.le_of_ble_eq_true rfl⟩) ⟨pP_blind, va_recv (ci := 11) (q0 := 0) hK hP rfl rfl, pP_preW hP hD hS hA hK hN hZ⟩ rfl rfl hl.1 rfl (lv_room (Nat.le_of_ble_eq_true rfl)) dL_removePhase_5 ⟨Nat.le_of_ble_eq_true rfl, Nat.le_of_ble_eq_true rfl⟩) hD hS hA (fun E ce q9 H locs h9 hP hD hS h1 h2 h3 => ?_) (fun r9 H locs h9 _ _ _ => nomatch h9)
    cases h9
    by_cases c0 : E0 = "java/lang/IndexOutOfBoundsException"
    · have hf := it c0 hf
      subst c0
      refine vx_catch hown ((tableOf [(3, 9, 12, 25), (3, 9, 16, 19)]).take 0) ((tableOf [(3, 9, 12, 25), (3, 9, 16, 19)]).get ⟨0, by decide⟩) ((tableOf [(3, 9, 12, 25), (3, 9, 16, 19)]).drop 1) hTab (fun z hz => by cases hz) (by decide) (by decide) (hts _ (bg _ wd_900)) (va_Nw.use rfl (hN _ ng_22)) h1 h2 h3 ?_
      refine W.eq (g2 := F0 m 12 ls [.ref q9]) rfl ?_
      refine lv_astore_n (lv' := [(3, .ref q9), (2, .int (-100000000)), (0, .ref (oa 0)), (1, .int p1)]) hx hb dL_removePhase_12 rfl hl (by decide) rfl (fun ls hl => ?_)
      refine lv_ldc hx hb (v := (-100000000)) hown (hts _ (bg _ wd_350)) dL_removePhase_13 ?_
      obtain ⟨e8, e9⟩ := Prod.mk.inj (sm hf)
      exact vx_ret (W.iret hx hb hr (fun t ht hW => ⟨⟨_, (), rfl, e8, by rw [← e9, ht]; exact hP, by rw [← e9]; exact hD⟩, hS.F ht⟩) hS.2.2 dL_removePhase_15)
    · have hf := ie c0 hf
      by_cases c1 : E0 = "java/lang/UnsupportedOperationException"
      · have hf := it c1 hf
        subst c1
        refine vx_catch hown ((tableOf [(3, 9, 12, 25), (3, 9, 16, 19)]).take 1) ((tableOf [(3, 9, 12, 25), (3, 9, 16, 19)]).get ⟨1, by decide⟩) ((tableOf [(3, 9, 12, 25), (3, 9, 16, 19)]).drop 2) hTab (fun z hz => by rcases List.mem_cons.mp hz with rfl | hz; exact Or.inr ⟨by decide, "java/lang/IndexOutOfBoundsException", hts _ (bg _ wd_900), hC _ (i2_mem 8 rfl)⟩; cases hz) (by decide) (by decide) (hts _ (bg _ wd_349)) (va_Nw.use rfl (hN _ ng_15)) h1 h2 h3 ?_
        refine W.eq (g2 := F0 m 16 ls [.ref q9]) rfl ?_
        refine lv_astore_n (lv' := [(3, .ref q9), (2, .int (-100000000)), (0, .ref (oa 0)), (1, .int p1)]) hx hb dL_removePhase_16 rfl hl (by decide) rfl (fun ls hl => ?_)
        refine lv_ldc hx hb (v := (-100000000)) hown (hts _ (bg _ wd_350)) dL_removePhase_17 ?_
        obtain ⟨e8, e9⟩ := Prod.mk.inj (sm hf)
        exact vx_ret (W.iret hx hb hr (fun t ht hW => ⟨⟨_, (), rfl, e8, by rw [← e9, ht]; exact hP, by rw [← e9]; exact hD⟩, hS.F ht⟩) hS.2.2 dL_removePhase_19)
      · have hf := ie c1 hf
        cases hf
def f_L_stop (S : SX7)  : Option (Int32 × SX7) := (g_X7_stop S ).bind fun q => match q with
  | (.inl r, S1) => some (r, S1)
  | (.inr E0, S1) => if E0 = "java/lang/UnsupportedOperationException" then some ((-100000000), S1) else none
set_option maxRecDepth 100000 in
set_option maxHeartbeats 4000000 in
theorem m_L_stop (l : Launch) (hl0 : l.stackTraces = false) (dC : Nat → ClassId) (dI : Nat → Nat → Nat) (dA gz : Nat → Nat) (oa : Nat → Nat) (sz : Nat) (ln : LN) (S : SX7)  (rr : Int32) (uu : SX7) (hf : f_L_stop S  = some (rr, uu)) : vx_Met l yL_stop ws_L_stop ({ frames := 38, cells := 1, slots := 6, locals := 1600 } : Room) (va_Pc [.ref (oa 0)] (pL (dC, dI) dA gz (wX7 dA oa S ln) sz)) (va_Qi (S := Unit) (fun r' _ => r' = rr) (fun _ t => pQ (dC, dI) (va_A (wX7 dA oa S ln) sz) (wX7 dA oa uu ln) t) (va_A (wX7 dA oa S ln) sz)) noX 1 6 (va_A (wX7 dA oa S ln) sz) := by
  refine vx_ofWH (cc := cL_stop) (maxL := 3) (ret := (some .int)) (hh := [(3, 8, 11, 19)]) (by decide) rfl ?_
  intro p e s m args below meth c s₁ B hml hv
  obtain ⟨rfl, ⟨hsz, hP, hK, hD0, hN, hZ⟩, hC⟩ := hv
  have hx := B.exec
  have hb := B.bytes
  have hr := B.returns
  have hts := atoms_spec (ws := ws_L_stop) B.pre
  have hown : s.vm.findClass RL = some m.cls := findClass_of_methodNamed B.named
  have hlocks := B.notSynchronized
  subst hsz
  have hTab := vx_table (x := yL_stop) B (hts _ List.mem_cons_self)
  have hD := hD0.self (sz := s.heap.size)
  generalize hAe : va_A (wX7 dA oa S ln) s.heap.size = A at hD hZ ⊢
  have hA : ∀ q : Nat, s.heap.size ≤ q → A q := fun q h => by rw [← hAe]; exact Or.inr h
  have hS : va_S A s.heap s.heap [] := va_S.rf
  have hl := lv_entry [.ref (oa 0)] (n := 3) (Nat.le_of_ble_eq_true rfl)
  rw [lg_entry_eq]
  generalize (lg_sl [.ref (oa 0)] ++ List.replicate (3 - (lg_sl [.ref (oa 0)]).length) Slot.unset).toArray = ls at hl ⊢
  have hl : lv_has ls 3 [(0, .ref (oa 0))] := hl
  rw [f_L_stop] at hf
  refine lv_ldc hx hb (v := (-100000000)) hown (hts _ (bg _ wd_350)) dL_stop_0 ?_
  refine lv_istore_n (lv' := [(1, .int (-100000000)), (0, .ref (oa 0))]) hx hb dL_stop_2 rfl hl (by decide) rfl (fun ls hl => ?_)
  refine lv_aload_n hx hb dL_stop_3 rfl (lv_at hl 1 rfl) ?_
  obtain ⟨⟨r0, S1⟩, hq, hf⟩ := bd hf
  rcases r0 with r | E0
  · refine jx_i (w1 := wX7 dA oa S1 ln) (vx_runV (As := []) (rest := []) ⟨hx, hb, hml, hown, hts⟩ (mt_X7_stop l hl0 dC dI dA gz oa s.heap.size ln S  (.inl r) S1 hq) (cwV 0 hts (gi_v bg wd_520 wd_521 wd_522 wd_1 wd_523) rfl rfl rfl hd_X7_stop ⟨Nat.le_of_ble_eq_true rfl, Nat.le_of_ble_eq_true rfl⟩) ⟨pP_blind, va_recv (ci := 11) (q0 := 0) hK hP rfl rfl, pP_preW hP hD hS hA hK hN hZ⟩ rfl rfl hl.1 rfl (lv_room (Nat.le_of_ble_eq_true rfl)) dL_stop_4 ⟨Nat.le_of_ble_eq_true rfl, Nat.le_of_ble_eq_true rfl⟩) hD hS hA (fun E ce q9 H locs h9 _ _ _ _ _ _ => nomatch h9) (fun r9 H locs h9 hP hD hS => ?_)
    cases h9
    refine lv_istore_n (lv' := [(1, .int r), (0, .ref (oa 0))]) hx hb dL_stop_7 rfl hl (by decide) rfl (fun ls hl => ?_)
    refine lv_goto (tgt := 15) hx hb dL_stop_8 (by decide) ?_
    refine lv_iload_n hx hb dL_stop_15 rfl (lv_at hl 0 rfl) ?_
    obtain ⟨e8, e9⟩ := Prod.mk.inj (sm hf)
    exact vx_ret (W.iret hx hb hr (fun t ht hW => ⟨⟨_, (), rfl, e8, by rw [← e9, ht]; exact hP, by rw [← e9]; exact hD⟩, hS.F ht⟩) hS.2.2 dL_stop_16)
  · refine jx_i (w1 := wX7 dA oa S1 ln) (vx_runV (As := []) (rest := []) ⟨hx, hb, hml, hown, hts⟩ (mt_X7_stop l hl0 dC dI dA gz oa s.heap.size ln S  (.inr E0) S1 hq) (cwV 0 hts (gi_v bg wd_520 wd_521 wd_522 wd_1 wd_523) rfl rfl rfl hd_X7_stop ⟨Nat.le_of_ble_eq_true rfl, Nat.le_of_ble_eq_true rfl⟩) ⟨pP_blind, va_recv (ci := 11) (q0 := 0) hK hP rfl rfl, pP_preW hP hD hS hA hK hN hZ⟩ rfl rfl hl.1 rfl (lv_room (Nat.le_of_ble_eq_true rfl)) dL_stop_4 ⟨Nat.le_of_ble_eq_true rfl, Nat.le_of_ble_eq_true rfl⟩) hD hS hA (fun E ce q9 H locs h9 hP hD hS h1 h2 h3 => ?_) (fun r9 H locs h9 _ _ _ => nomatch h9)
    cases h9
    by_cases c0 : E0 = "java/lang/UnsupportedOperationException"
    · have hf := it c0 hf
      subst c0
      refine vx_catch hown ((tableOf [(3, 8, 11, 19)]).take 0) ((tableOf [(3, 8, 11, 19)]).get ⟨0, by decide⟩) ((tableOf [(3, 8, 11, 19)]).drop 1) hTab (fun z hz => by cases hz) (by decide) (by decide) (hts _ (bg _ wd_349)) (va_Nw.use rfl (hN _ ng_15)) h1 h2 h3 ?_
      refine W.eq (g2 := F0 m 11 ls [.ref q9]) rfl ?_
      refine lv_astore_n (lv' := [(2, .ref q9), (1, .int (-100000000)), (0, .ref (oa 0))]) hx hb dL_stop_11 rfl hl (by decide) rfl (fun ls hl => ?_)
      refine lv_ldc hx hb (v := (-100000000)) hown (hts _ (bg _ wd_350)) dL_stop_12 ?_
      obtain ⟨e8, e9⟩ := Prod.mk.inj (sm hf)
      exact vx_ret (W.iret hx hb hr (fun t ht hW => ⟨⟨_, (), rfl, e8, by rw [← e9, ht]; exact hP, by rw [← e9]; exact hD⟩, hS.F ht⟩) hS.2.2 dL_stop_14)
    · have hf := ie c0 hf
      cases hf
def f_L_run (S : SX7) (p1 : Int32) : Option (Int32 × SX7) := (g_X7_run S p1).bind fun q => match q with
  | (.inl r, S1) => some (r, S1)
  | (.inr E0, S1) => if E0 = "java/lang/IllegalArgumentException" then some ((-100000000), S1) else none
set_option maxRecDepth 100000 in
set_option maxHeartbeats 4000000 in
theorem m_L_run (l : Launch) (hl0 : l.stackTraces = false) (dC : Nat → ClassId) (dI : Nat → Nat → Nat) (dA gz : Nat → Nat) (oa : Nat → Nat) (sz : Nat) (ln : LN) (S : SX7) (p1 : Int32) (rr : Int32) (uu : SX7) (hf : f_L_run S p1 = some (rr, uu)) : vx_Met l yL_run ws_L_run ({ frames := 38, cells := 1, slots := 6, locals := 1600 } : Room) (va_Pc [.ref (oa 0), .int p1] (pL (dC, dI) dA gz (wX7 dA oa S ln) sz)) (va_Qi (S := Unit) (fun r' _ => r' = rr) (fun _ t => pQ (dC, dI) (va_A (wX7 dA oa S ln) sz) (wX7 dA oa uu ln) t) (va_A (wX7 dA oa S ln) sz)) noX 1 6 (va_A (wX7 dA oa S ln) sz) := by
  refine vx_ofWH (cc := cL_run) (maxL := 4) (ret := (some .int)) (hh := [(3, 9, 12, 17)]) (by decide) rfl ?_
  intro p e s m args below meth c s₁ B hml hv
  obtain ⟨rfl, ⟨hsz, hP, hK, hD0, hN, hZ⟩, hC⟩ := hv
  have hx := B.exec
  have hb := B.bytes
  have hr := B.returns
  have hts := atoms_spec (ws := ws_L_run) B.pre
  have hown : s.vm.findClass RL = some m.cls := findClass_of_methodNamed B.named
  have hlocks := B.notSynchronized
  subst hsz
  have hTab := vx_table (x := yL_run) B (hts _ List.mem_cons_self)
  have hD := hD0.self (sz := s.heap.size)
  generalize hAe : va_A (wX7 dA oa S ln) s.heap.size = A at hD hZ ⊢
  have hA : ∀ q : Nat, s.heap.size ≤ q → A q := fun q h => by rw [← hAe]; exact Or.inr h
  have hS : va_S A s.heap s.heap [] := va_S.rf
  have hl := lv_entry [.ref (oa 0), .int p1] (n := 4) (Nat.le_of_ble_eq_true rfl)
  rw [lg_entry_eq]
  generalize (lg_sl [.ref (oa 0), .int p1] ++ List.replicate (4 - (lg_sl [.ref (oa 0), .int p1]).length) Slot.unset).toArray = ls at hl ⊢
  have hl : lv_has ls 4 [(0, .ref (oa 0)), (1, .int p1)] := hl
  rw [f_L_run] at hf
  refine lv_ldc hx hb (v := (-100000000)) hown (hts _ (bg _ wd_350)) dL_run_0 ?_
  refine lv_istore_n (lv' := [(2, .int (-100000000)), (0, .ref (oa 0)), (1, .int p1)]) hx hb dL_run_2 rfl hl (by decide) rfl (fun ls hl => ?_)
  refine lv_aload_n hx hb dL_run_3 rfl (lv_at hl 1 rfl) ?_
  refine lv_iload_n hx hb dL_run_4 rfl (lv_at hl 2 rfl) ?_
  obtain ⟨⟨r0, S1⟩, hq, hf⟩ := bd hf
  rcases r0 with r | E0
  · refine jx_i (w1 := wX7 dA oa S1 ln) (vx_runV (As := [.int p1]) (rest := []) ⟨hx, hb, hml, hown, hts⟩ (mt_X7_run l hl0 dC dI dA gz oa s.heap.size ln S p1 (.inl r) S1 hq) (cwV 1 hts (gi_v bg wd_539 wd_540 wd_541 wd_1 wd_542) rfl rfl rfl hd_X7_run ⟨Nat.le_of_ble_eq_true rfl, Nat.le_of_ble_eq_true rfl⟩) ⟨pP_blind, va_recv (ci := 11) (q0 := 0) hK hP rfl rfl, pP_preW hP hD hS hA hK hN hZ⟩ rfl rfl hl.1 rfl (lv_room (Nat.le_of_ble_eq_true rfl)) dL_run_5 ⟨Nat.le_of_ble_eq_true rfl, Nat.le_of_ble_eq_true rfl⟩) hD hS hA (fun E ce q9 H locs h9 _ _ _ _ _ _ => nomatch h9) (fun r9 H locs h9 hP hD hS => ?_)
    cases h9
    refine lv_istore_n (lv' := [(2, .int r), (0, .ref (oa 0)), (1, .int p1)]) hx hb dL_run_8 rfl hl (by decide) rfl (fun ls hl => ?_)
    refine lv_goto (tgt := 16) hx hb dL_run_9 (by decide) ?_
    refine lv_iload_n hx hb dL_run_16 rfl (lv_at hl 0 rfl) ?_
    obtain ⟨e8, e9⟩ := Prod.mk.inj (sm hf)
    exact vx_ret (W.iret hx hb hr (fun t ht hW => ⟨⟨_, (), rfl, e8, by rw [← e9, ht]; exact hP, by rw [← e9]; exact hD⟩, hS.F ht⟩) hS.2.2 dL_run_17)
  · refine jx_i (w1 := wX7 dA oa S1 ln) (vx_runV (As := [.int p1]) (rest := []) ⟨hx, hb, hml, hown, hts⟩ (mt_X7_run l hl0 dC dI dA gz oa s.heap.size ln S p1 (.inr E0) S1 hq) (cwV 1 hts (gi_v bg wd_539 wd_540 wd_541 wd_1 wd_542) rfl rfl rfl hd_X7_run ⟨Nat.le_of_ble_eq_true rfl, Nat.le_of_ble_eq_true rfl⟩) ⟨pP_blind, va_recv (ci := 11) (q0 := 0) hK hP rfl rfl, pP_preW hP hD hS hA hK hN hZ⟩ rfl rfl hl.1 rfl (lv_room (Nat.le_of_ble_eq_true rfl)) dL_run_5 ⟨Nat.le_of_ble_eq_true rfl, Nat.le_of_ble_eq_true rfl⟩) hD hS hA (fun E ce q9 H locs h9 hP hD hS h1 h2 h3 => ?_) (fun r9 H locs h9 _ _ _ => nomatch h9)
    cases h9
    by_cases c0 : E0 = "java/lang/IllegalArgumentException"
    · have hf := it c0 hf
      subst c0
      refine vx_catch hown ((tableOf [(3, 9, 12, 17)]).take 0) ((tableOf [(3, 9, 12, 17)]).get ⟨0, by decide⟩) ((tableOf [(3, 9, 12, 17)]).drop 1) hTab (fun z hz => by cases hz) (by decide) (by decide) (hts _ (bg _ wd_348)) (va_Nw.use rfl (hN _ ng_8)) h1 h2 h3 ?_
      refine W.eq (g2 := F0 m 12 ls [.ref q9]) rfl ?_
      refine lv_astore_n (lv' := [(3, .ref q9), (2, .int (-100000000)), (0, .ref (oa 0)), (1, .int p1)]) hx hb dL_run_12 rfl hl (by decide) rfl (fun ls hl => ?_)
      refine lv_ldc hx hb (v := (-100000000)) hown (hts _ (bg _ wd_350)) dL_run_13 ?_
      obtain ⟨e8, e9⟩ := Prod.mk.inj (sm hf)
      exact vx_ret (W.iret hx hb hr (fun t ht hW => ⟨⟨_, (), rfl, e8, by rw [← e9, ht]; exact hP, by rw [← e9]; exact hD⟩, hS.F ht⟩) hS.2.2 dL_run_15)
    · have hf := ie c0 hf
      cases hf
def f_L_load (S : SX7) (p1 : Int32) : Option (Int32 × SX7) := (g_X7_load S p1).bind fun q => match q with
  | (.inl r, S1) => some (r, S1)
  | (.inr E0, S1) => if E0 = "java/lang/IllegalArgumentException" then some ((-100000000), S1) else if E0 = "java/lang/UnsupportedOperationException" then some ((-100000000), S1) else none
set_option maxRecDepth 100000 in
set_option maxHeartbeats 4000000 in
theorem m_L_load (l : Launch) (hl0 : l.stackTraces = false) (dC : Nat → ClassId) (dI : Nat → Nat → Nat) (dA gz : Nat → Nat) (oa : Nat → Nat) (sz : Nat) (ln : LN) (S : SX7) (p1 : Int32) (rr : Int32) (uu : SX7) (hf : f_L_load S p1 = some (rr, uu)) : vx_Met l yL_load ws_L_load ({ frames := 38, cells := 2, slots := 12, locals := 1600 } : Room) (va_Pc [.ref (oa 0), .int p1] (pL (dC, dI) dA gz (wX7 dA oa S ln) sz)) (va_Qi (S := Unit) (fun r' _ => r' = rr) (fun _ t => pQ (dC, dI) (va_A (wX7 dA oa S ln) sz) (wX7 dA oa uu ln) t) (va_A (wX7 dA oa S ln) sz)) noX 2 12 (va_A (wX7 dA oa S ln) sz) := by
  refine vx_ofWH (cc := cL_load) (maxL := 4) (ret := (some .int)) (hh := [(3, 9, 12, 17), (3, 9, 16, 19)]) (by decide) rfl ?_
  intro p e s m args below meth c s₁ B hml hv
  obtain ⟨rfl, ⟨hsz, hP, hK, hD0, hN, hZ⟩, hC⟩ := hv
  have hx := B.exec
  have hb := B.bytes
  have hr := B.returns
  have hts := atoms_spec (ws := ws_L_load) B.pre
  have hown : s.vm.findClass RL = some m.cls := findClass_of_methodNamed B.named
  have hlocks := B.notSynchronized
  subst hsz
  have hTab := vx_table (x := yL_load) B (hts _ List.mem_cons_self)
  have hD := hD0.self (sz := s.heap.size)
  generalize hAe : va_A (wX7 dA oa S ln) s.heap.size = A at hD hZ ⊢
  have hA : ∀ q : Nat, s.heap.size ≤ q → A q := fun q h => by rw [← hAe]; exact Or.inr h
  have hS : va_S A s.heap s.heap [] := va_S.rf
  have hl := lv_entry [.ref (oa 0), .int p1] (n := 4) (Nat.le_of_ble_eq_true rfl)
  rw [lg_entry_eq]
  generalize (lg_sl [.ref (oa 0), .int p1] ++ List.replicate (4 - (lg_sl [.ref (oa 0), .int p1]).length) Slot.unset).toArray = ls at hl ⊢
  have hl : lv_has ls 4 [(0, .ref (oa 0)), (1, .int p1)] := hl
  rw [f_L_load] at hf
  refine lv_ldc hx hb (v := (-100000000)) hown (hts _ (bg _ wd_350)) dL_load_0 ?_
  refine lv_istore_n (lv' := [(2, .int (-100000000)), (0, .ref (oa 0)), (1, .int p1)]) hx hb dL_load_2 rfl hl (by decide) rfl (fun ls hl => ?_)
  refine lv_aload_n hx hb dL_load_3 rfl (lv_at hl 1 rfl) ?_
  refine lv_iload_n hx hb dL_load_4 rfl (lv_at hl 2 rfl) ?_
  obtain ⟨⟨r0, S1⟩, hq, hf⟩ := bd hf
  rcases r0 with r | E0
  · refine jx_i (w1 := wX7 dA oa S1 ln) (vx_runV (As := [.int p1]) (rest := []) ⟨hx, hb, hml, hown, hts⟩ (mt_X7_load l hl0 dC dI dA gz oa s.heap.size ln S p1 (.inl r) S1 hq) (cwV 1 hts (gi_v bg wd_584 wd_585 wd_586 wd_1 wd_587) rfl rfl rfl hd_X7_load ⟨Nat.le_of_ble_eq_true rfl, Nat.le_of_ble_eq_true rfl⟩) ⟨pP_blind, va_recv (ci := 11) (q0 := 0) hK hP rfl rfl, pP_preW hP hD hS hA hK hN hZ⟩ rfl rfl hl.1 rfl (lv_room (Nat.le_of_ble_eq_true rfl)) dL_load_5 ⟨Nat.le_of_ble_eq_true rfl, Nat.le_of_ble_eq_true rfl⟩) hD hS hA (fun E ce q9 H locs h9 _ _ _ _ _ _ => nomatch h9) (fun r9 H locs h9 hP hD hS => ?_)
    cases h9
    refine lv_istore_n (lv' := [(2, .int r), (0, .ref (oa 0)), (1, .int p1)]) hx hb dL_load_8 rfl hl (by decide) rfl (fun ls hl => ?_)
    refine lv_goto (tgt := 20) hx hb dL_load_9 (by decide) ?_
    refine lv_iload_n hx hb dL_load_20 rfl (lv_at hl 0 rfl) ?_
    obtain ⟨e8, e9⟩ := Prod.mk.inj (sm hf)
    exact vx_ret (W.iret hx hb hr (fun t ht hW => ⟨⟨_, (), rfl, e8, by rw [← e9, ht]; exact hP, by rw [← e9]; exact hD⟩, hS.F ht⟩) hS.2.2 dL_load_21)
  · refine jx_i (w1 := wX7 dA oa S1 ln) (vx_runV (As := [.int p1]) (rest := []) ⟨hx, hb, hml, hown, hts⟩ (mt_X7_load l hl0 dC dI dA gz oa s.heap.size ln S p1 (.inr E0) S1 hq) (cwV 1 hts (gi_v bg wd_584 wd_585 wd_586 wd_1 wd_587) rfl rfl rfl hd_X7_load ⟨Nat.le_of_ble_eq_true rfl, Nat.le_of_ble_eq_true rfl⟩) ⟨pP_blind, va_recv (ci := 11) (q0 := 0) hK hP rfl rfl, pP_preW hP hD hS hA hK hN hZ⟩ rfl rfl hl.1 rfl (lv_room (Nat.le_of_ble_eq_true rfl)) dL_load_5 ⟨Nat.le_of_ble_eq_true rfl, Nat.le_of_ble_eq_true rfl⟩) hD hS hA (fun E ce q9 H locs h9 hP hD hS h1 h2 h3 => ?_) (fun r9 H locs h9 _ _ _ => nomatch h9)
    cases h9
    by_cases c0 : E0 = "java/lang/IllegalArgumentException"
    · have hf := it c0 hf
      subst c0
      refine vx_catch hown ((tableOf [(3, 9, 12, 17), (3, 9, 16, 19)]).take 0) ((tableOf [(3, 9, 12, 17), (3, 9, 16, 19)]).get ⟨0, by decide⟩) ((tableOf [(3, 9, 12, 17), (3, 9, 16, 19)]).drop 1) hTab (fun z hz => by cases hz) (by decide) (by decide) (hts _ (bg _ wd_348)) (va_Nw.use rfl (hN _ ng_8)) h1 h2 h3 ?_
      refine W.eq (g2 := F0 m 12 ls [.ref q9]) rfl ?_
      refine lv_astore_n (lv' := [(3, .ref q9), (2, .int (-100000000)), (0, .ref (oa 0)), (1, .int p1)]) hx hb dL_load_12 rfl hl (by decide) rfl (fun ls hl => ?_)
      refine lv_ldc hx hb (v := (-100000000)) hown (hts _ (bg _ wd_350)) dL_load_13 ?_
      obtain ⟨e8, e9⟩ := Prod.mk.inj (sm hf)
      exact vx_ret (W.iret hx hb hr (fun t ht hW => ⟨⟨_, (), rfl, e8, by rw [← e9, ht]; exact hP, by rw [← e9]; exact hD⟩, hS.F ht⟩) hS.2.2 dL_load_15)
    · have hf := ie c0 hf
      by_cases c1 : E0 = "java/lang/UnsupportedOperationException"
      · have hf := it c1 hf
        subst c1
        refine vx_catch hown ((tableOf [(3, 9, 12, 17), (3, 9, 16, 19)]).take 1) ((tableOf [(3, 9, 12, 17), (3, 9, 16, 19)]).get ⟨1, by decide⟩) ((tableOf [(3, 9, 12, 17), (3, 9, 16, 19)]).drop 2) hTab (fun z hz => by rcases List.mem_cons.mp hz with rfl | hz; exact Or.inr ⟨by decide, "java/lang/IllegalArgumentException", hts _ (bg _ wd_348), hC _ (i2_mem 5 rfl)⟩; cases hz) (by decide) (by decide) (hts _ (bg _ wd_349)) (va_Nw.use rfl (hN _ ng_15)) h1 h2 h3 ?_
        refine W.eq (g2 := F0 m 16 ls [.ref q9]) rfl ?_
        refine lv_astore_n (lv' := [(3, .ref q9), (2, .int (-100000000)), (0, .ref (oa 0)), (1, .int p1)]) hx hb dL_load_16 rfl hl (by decide) rfl (fun ls hl => ?_)
        refine lv_ldc hx hb (v := (-100000000)) hown (hts _ (bg _ wd_350)) dL_load_17 ?_
        obtain ⟨e8, e9⟩ := Prod.mk.inj (sm hf)
        exact vx_ret (W.iret hx hb hr (fun t ht hW => ⟨⟨_, (), rfl, e8, by rw [← e9, ht]; exact hP, by rw [← e9]; exact hD⟩, hS.F ht⟩) hS.2.2 dL_load_19)
      · have hf := ie c1 hf
        cases hf
def f_L_press (S : SX7) (p1 : Int32) : Option (Int32 × SX7) := (g_X7_press S p1).bind fun q => match q with
  | (.inl r, S1) => some (r, S1)
  | (.inr E0, S1) => if E0 = "java/lang/IllegalArgumentException" then some ((-100000000), S1) else if E0 = "java/lang/UnsupportedOperationException" then some ((-100000000), S1) else none
set_option maxRecDepth 100000 in
set_option maxHeartbeats 4000000 in
theorem m_L_press (l : Launch) (hl0 : l.stackTraces = false) (dC : Nat → ClassId) (dI : Nat → Nat → Nat) (dA gz : Nat → Nat) (oa : Nat → Nat) (sz : Nat) (ln : LN) (S : SX7) (p1 : Int32) (rr : Int32) (uu : SX7) (hf : f_L_press S p1 = some (rr, uu)) : vx_Met l yL_press ws_L_press ({ frames := 38, cells := 2, slots := 12, locals := 1600 } : Room) (va_Pc [.ref (oa 0), .int p1] (pL (dC, dI) dA gz (wX7 dA oa S ln) sz)) (va_Qi (S := Unit) (fun r' _ => r' = rr) (fun _ t => pQ (dC, dI) (va_A (wX7 dA oa S ln) sz) (wX7 dA oa uu ln) t) (va_A (wX7 dA oa S ln) sz)) noX 2 12 (va_A (wX7 dA oa S ln) sz) := by
  refine vx_ofWH (cc := cL_press) (maxL := 4) (ret := (some .int)) (hh := [(3, 9, 12, 17), (3, 9, 16, 19)]) (by decide) rfl ?_
  intro p e s m args below meth c s₁ B hml hv
  obtain ⟨rfl, ⟨hsz, hP, hK, hD0, hN, hZ⟩, hC⟩ := hv
  have hx := B.exec
  have hb := B.bytes
  have hr := B.returns
  have hts := atoms_spec (ws := ws_L_press) B.pre
  have hown : s.vm.findClass RL = some m.cls := findClass_of_methodNamed B.named
  have hlocks := B.notSynchronized
  subst hsz
  have hTab := vx_table (x := yL_press) B (hts _ List.mem_cons_self)
  have hD := hD0.self (sz := s.heap.size)
  generalize hAe : va_A (wX7 dA oa S ln) s.heap.size = A at hD hZ ⊢
  have hA : ∀ q : Nat, s.heap.size ≤ q → A q := fun q h => by rw [← hAe]; exact Or.inr h
  have hS : va_S A s.heap s.heap [] := va_S.rf
  have hl := lv_entry [.ref (oa 0), .int p1] (n := 4) (Nat.le_of_ble_eq_true rfl)
  rw [lg_entry_eq]
  generalize (lg_sl [.ref (oa 0), .int p1] ++ List.replicate (4 - (lg_sl [.ref (oa 0), .int p1]).length) Slot.unset).toArray = ls at hl ⊢
  have hl : lv_has ls 4 [(0, .ref (oa 0)), (1, .int p1)] := hl
  rw [f_L_press] at hf
  refine lv_ldc hx hb (v := (-100000000)) hown (hts _ (bg _ wd_350)) dL_press_0 ?_
  refine lv_istore_n (lv' := [(2, .int (-100000000)), (0, .ref (oa 0)), (1, .int p1)]) hx hb dL_press_2 rfl hl (by decide) rfl (fun ls hl => ?_)
  refine lv_aload_n hx hb dL_press_3 rfl (lv_at hl 1 rfl) ?_
  refine lv_iload_n hx hb dL_press_4 rfl (lv_at hl 2 rfl) ?_
  obtain ⟨⟨r0, S1⟩, hq, hf⟩ := bd hf
  rcases r0 with r | E0
  · refine jx_i (w1 := wX7 dA oa S1 ln) (vx_runV (As := [.int p1]) (rest := []) ⟨hx, hb, hml, hown, hts⟩ (mt_X7_press l hl0 dC dI dA gz oa s.heap.size ln S p1 (.inl r) S1 hq) (cwV 1 hts (gi_v bg wd_603 wd_604 wd_605 wd_1 wd_606) rfl rfl rfl hd_X7_press ⟨Nat.le_of_ble_eq_true rfl, Nat.le_of_ble_eq_true rfl⟩) ⟨pP_blind, va_recv (ci := 11) (q0 := 0) hK hP rfl rfl, pP_preW hP hD hS hA hK hN hZ⟩ rfl rfl hl.1 rfl (lv_room (Nat.le_of_ble_eq_true rfl)) dL_press_5 ⟨Nat.le_of_ble_eq_true rfl, Nat.le_of_ble_eq_true rfl⟩) hD hS hA (fun E ce q9 H locs h9 _ _ _ _ _ _ => nomatch h9) (fun r9 H locs h9 hP hD hS => ?_)
    cases h9
    refine lv_istore_n (lv' := [(2, .int r), (0, .ref (oa 0)), (1, .int p1)]) hx hb dL_press_8 rfl hl (by decide) rfl (fun ls hl => ?_)
    refine lv_goto (tgt := 20) hx hb dL_press_9 (by decide) ?_
    refine lv_iload_n hx hb dL_press_20 rfl (lv_at hl 0 rfl) ?_
    obtain ⟨e8, e9⟩ := Prod.mk.inj (sm hf)
    exact vx_ret (W.iret hx hb hr (fun t ht hW => ⟨⟨_, (), rfl, e8, by rw [← e9, ht]; exact hP, by rw [← e9]; exact hD⟩, hS.F ht⟩) hS.2.2 dL_press_21)
  · refine jx_i (w1 := wX7 dA oa S1 ln) (vx_runV (As := [.int p1]) (rest := []) ⟨hx, hb, hml, hown, hts⟩ (mt_X7_press l hl0 dC dI dA gz oa s.heap.size ln S p1 (.inr E0) S1 hq) (cwV 1 hts (gi_v bg wd_603 wd_604 wd_605 wd_1 wd_606) rfl rfl rfl hd_X7_press ⟨Nat.le_of_ble_eq_true rfl, Nat.le_of_ble_eq_true rfl⟩) ⟨pP_blind, va_recv (ci := 11) (q0 := 0) hK hP rfl rfl, pP_preW hP hD hS hA hK hN hZ⟩ rfl rfl hl.1 rfl (lv_room (Nat.le_of_ble_eq_true rfl)) dL_press_5 ⟨Nat.le_of_ble_eq_true rfl, Nat.le_of_ble_eq_true rfl⟩) hD hS hA (fun E ce q9 H locs h9 hP hD hS h1 h2 h3 => ?_) (fun r9 H locs h9 _ _ _ => nomatch h9)
    cases h9
    by_cases c0 : E0 = "java/lang/IllegalArgumentException"
    · have hf := it c0 hf
      subst c0
      refine vx_catch hown ((tableOf [(3, 9, 12, 17), (3, 9, 16, 19)]).take 0) ((tableOf [(3, 9, 12, 17), (3, 9, 16, 19)]).get ⟨0, by decide⟩) ((tableOf [(3, 9, 12, 17), (3, 9, 16, 19)]).drop 1) hTab (fun z hz => by cases hz) (by decide) (by decide) (hts _ (bg _ wd_348)) (va_Nw.use rfl (hN _ ng_8)) h1 h2 h3 ?_
      refine W.eq (g2 := F0 m 12 ls [.ref q9]) rfl ?_
      refine lv_astore_n (lv' := [(3, .ref q9), (2, .int (-100000000)), (0, .ref (oa 0)), (1, .int p1)]) hx hb dL_press_12 rfl hl (by decide) rfl (fun ls hl => ?_)
      refine lv_ldc hx hb (v := (-100000000)) hown (hts _ (bg _ wd_350)) dL_press_13 ?_
      obtain ⟨e8, e9⟩ := Prod.mk.inj (sm hf)
      exact vx_ret (W.iret hx hb hr (fun t ht hW => ⟨⟨_, (), rfl, e8, by rw [← e9, ht]; exact hP, by rw [← e9]; exact hD⟩, hS.F ht⟩) hS.2.2 dL_press_15)
    · have hf := ie c0 hf
      by_cases c1 : E0 = "java/lang/UnsupportedOperationException"
      · have hf := it c1 hf
        subst c1
        refine vx_catch hown ((tableOf [(3, 9, 12, 17), (3, 9, 16, 19)]).take 1) ((tableOf [(3, 9, 12, 17), (3, 9, 16, 19)]).get ⟨1, by decide⟩) ((tableOf [(3, 9, 12, 17), (3, 9, 16, 19)]).drop 2) hTab (fun z hz => by rcases List.mem_cons.mp hz with rfl | hz; exact Or.inr ⟨by decide, "java/lang/IllegalArgumentException", hts _ (bg _ wd_348), hC _ (i2_mem 5 rfl)⟩; cases hz) (by decide) (by decide) (hts _ (bg _ wd_349)) (va_Nw.use rfl (hN _ ng_15)) h1 h2 h3 ?_
        refine W.eq (g2 := F0 m 16 ls [.ref q9]) rfl ?_
        refine lv_astore_n (lv' := [(3, .ref q9), (2, .int (-100000000)), (0, .ref (oa 0)), (1, .int p1)]) hx hb dL_press_16 rfl hl (by decide) rfl (fun ls hl => ?_)
        refine lv_ldc hx hb (v := (-100000000)) hown (hts _ (bg _ wd_350)) dL_press_17 ?_
        obtain ⟨e8, e9⟩ := Prod.mk.inj (sm hf)
        exact vx_ret (W.iret hx hb hr (fun t ht hW => ⟨⟨_, (), rfl, e8, by rw [← e9, ht]; exact hP, by rw [← e9]; exact hD⟩, hS.F ht⟩) hS.2.2 dL_press_19)
      · have hf := ie c1 hf
        cases hf
def f_L_gradePat (S : SX7) (p1 : Int32) : Option (Int32 × SX7) := (g_X7_gradePat S p1).bind fun q => match q with
  | (.inl r, S1) => some (r, S1)
  | (.inr E0, S1) => if E0 = "java/lang/IndexOutOfBoundsException" then some ((-100000000), S1) else if E0 = "java/lang/UnsupportedOperationException" then some ((-100000000), S1) else none
set_option maxRecDepth 100000 in
set_option maxHeartbeats 4000000 in
theorem m_L_gradePat (l : Launch) (hl0 : l.stackTraces = false) (dC : Nat → ClassId) (dI : Nat → Nat → Nat) (dA gz : Nat → Nat) (oa : Nat → Nat) (sz : Nat) (ln : LN) (S : SX7) (p1 : Int32) (rr : Int32) (uu : SX7) (hf : f_L_gradePat S p1 = some (rr, uu)) : vx_Met l yL_gradePat ws_L_gradePat ({ frames := 38, cells := 2, slots := 12, locals := 1600 } : Room) (va_Pc [.ref (oa 0), .int p1] (pL (dC, dI) dA gz (wX7 dA oa S ln) sz)) (va_Qi (S := Unit) (fun r' _ => r' = rr) (fun _ t => pQ (dC, dI) (va_A (wX7 dA oa S ln) sz) (wX7 dA oa uu ln) t) (va_A (wX7 dA oa S ln) sz)) noX 2 12 (va_A (wX7 dA oa S ln) sz) := by
  refine vx_ofWH (cc := cL_gradePat) (maxL := 4) (ret := (some .int)) (hh := [(3, 9, 12, 25), (3, 9, 16, 19)]) (by decide) rfl ?_
  intro p e s m args below meth c s₁ B hml hv
  obtain ⟨rfl, ⟨hsz, hP, hK, hD0, hN, hZ⟩, hC⟩ := hv
  have hx := B.exec
  have hb := B.bytes
  have hr := B.returns
  have hts := atoms_spec (ws := ws_L_gradePat) B.pre
  have hown : s.vm.findClass RL = some m.cls := findClass_of_methodNamed B.named
  have hlocks := B.notSynchronized
  subst hsz
  have hTab := vx_table (x := yL_gradePat) B (hts _ List.mem_cons_self)
  have hD := hD0.self (sz := s.heap.size)
  generalize hAe : va_A (wX7 dA oa S ln) s.heap.size = A at hD hZ ⊢
  have hA : ∀ q : Nat, s.heap.size ≤ q → A q := fun q h => by rw [← hAe]; exact Or.inr h
  have hS : va_S A s.heap s.heap [] := va_S.rf
  have hl := lv_entry [.ref (oa 0), .int p1] (n := 4) (Nat.le_of_ble_eq_true rfl)
  rw [lg_entry_eq]
  generalize (lg_sl [.ref (oa 0), .int p1] ++ List.replicate (4 - (lg_sl [.ref (oa 0), .int p1]).length) Slot.unset).toArray = ls at hl ⊢
  have hl : lv_has ls 4 [(0, .ref (oa 0)), (1, .int p1)] := hl
  rw [f_L_gradePat] at hf
  refine lv_ldc hx hb (v := (-100000000)) hown (hts _ (bg _ wd_350)) dL_gradePat_0 ?_
  refine lv_istore_n (lv' := [(2, .int (-100000000)), (0, .ref (oa 0)), (1, .int p1)]) hx hb dL_gradePat_2 rfl hl (by decide) rfl (fun ls hl => ?_)
  refine lv_aload_n hx hb dL_gradePat_3 rfl (lv_at hl 1 rfl) ?_
  refine lv_iload_n hx hb dL_gradePat_4 rfl (lv_at hl 2 rfl) ?_
  obtain ⟨⟨r0, S1⟩, hq, hf⟩ := bd hf
  rcases r0 with r | E0
  · refine jx_i (w1 := wX7 dA oa S1 ln) (vx_runV (As := [.int p1]) (rest := []) ⟨hx, hb, hml, hown, hts⟩ (mt_X7_gradePat l hl0 dC dI dA gz oa s.heap.size ln S p1 (.inl r) S1 hq) (cwV 1 hts (gi_v bg wd_948 wd_949 wd_950 wd_1 wd_951) rfl rfl rfl hd_X7_gradePat ⟨Nat.le_of_ble_eq_true rfl, Nat.le_of_ble_eq_true rfl⟩) ⟨pP_blind, va_recv (ci := 11) (q0 := 0) hK hP rfl rfl, pP_preW hP hD hS hA hK hN hZ⟩ rfl rfl hl.1 rfl (lv_room (Nat.le_of_ble_eq_true rfl)) dL_gradePat_5 ⟨Nat.le_of_ble_eq_true rfl, Nat.le_of_ble_eq_true rfl⟩) hD hS hA (fun E ce q9 H locs h9 _ _ _ _ _ _ => nomatch h9) (fun r9 H locs h9 hP hD hS => ?_)
    cases h9
    refine lv_istore_n (lv' := [(2, .int r), (0, .ref (oa 0)), (1, .int p1)]) hx hb dL_gradePat_8 rfl hl (by decide) rfl (fun ls hl => ?_)
    refine lv_goto (tgt := 20) hx hb dL_gradePat_9 (by decide) ?_
    refine lv_iload_n hx hb dL_gradePat_20 rfl (lv_at hl 0 rfl) ?_
    obtain ⟨e8, e9⟩ := Prod.mk.inj (sm hf)
    exact vx_ret (W.iret hx hb hr (fun t ht hW => ⟨⟨_, (), rfl, e8, by rw [← e9, ht]; exact hP, by rw [← e9]; exact hD⟩, hS.F ht⟩) hS.2.2 dL_gradePat_21)
  · refine jx_i (w1 := wX7 dA oa S1 ln) (vx_runV (As := [.int p1]) (rest := []) ⟨hx, hb, hml, hown, hts⟩ (mt_X7_gradePat l hl0 dC dI dA gz oa s.heap.size ln S p1 (.inr E0) S1 hq) (cwV 1 hts (gi_v bg wd_948 wd_949 wd_950 wd_1 wd_951) rfl rfl rfl hd_X7_gradePat ⟨Nat.le_of_ble_eq_true rfl, Nat.le_of_ble_eq_true rfl⟩) ⟨pP_blind, va_recv (ci := 11) (q0 := 0) hK hP rfl rfl, pP_preW hP hD hS hA hK hN hZ⟩ rfl rfl hl.1 rfl (lv_room (Nat.le_of_ble_eq_true rfl)) dL_gradePat_5 ⟨Nat.le_of_ble_eq_true rfl, Nat.le_of_ble_eq_true rfl⟩) hD hS hA (fun E ce q9 H locs h9 hP hD hS h1 h2 h3 => ?_) (fun r9 H locs h9 _ _ _ => nomatch h9)
    cases h9
    by_cases c0 : E0 = "java/lang/IndexOutOfBoundsException"
    · have hf := it c0 hf
      subst c0
      refine vx_catch hown ((tableOf [(3, 9, 12, 25), (3, 9, 16, 19)]).take 0) ((tableOf [(3, 9, 12, 25), (3, 9, 16, 19)]).get ⟨0, by decide⟩) ((tableOf [(3, 9, 12, 25), (3, 9, 16, 19)]).drop 1) hTab (fun z hz => by cases hz) (by decide) (by decide) (hts _ (bg _ wd_900)) (va_Nw.use rfl (hN _ ng_22)) h1 h2 h3 ?_
      refine W.eq (g2 := F0 m 12 ls [.ref q9]) rfl ?_
      refine lv_astore_n (lv' := [(3, .ref q9), (2, .int (-100000000)), (0, .ref (oa 0)), (1, .int p1)]) hx hb dL_gradePat_12 rfl hl (by decide) rfl (fun ls hl => ?_)
      refine lv_ldc hx hb (v := (-100000000)) hown (hts _ (bg _ wd_350)) dL_gradePat_13 ?_
      obtain ⟨e8, e9⟩ := Prod.mk.inj (sm hf)
      exact vx_ret (W.iret hx hb hr (fun t ht hW => ⟨⟨_, (), rfl, e8, by rw [← e9, ht]; exact hP, by rw [← e9]; exact hD⟩, hS.F ht⟩) hS.2.2 dL_gradePat_15)
    · have hf := ie c0 hf
      by_cases c1 : E0 = "java/lang/UnsupportedOperationException"
      · have hf := it c1 hf
        subst c1
        refine vx_catch hown ((tableOf [(3, 9, 12, 25), (3, 9, 16, 19)]).take 1) ((tableOf [(3, 9, 12, 25), (3, 9, 16, 19)]).get ⟨1, by decide⟩) ((tableOf [(3, 9, 12, 25), (3, 9, 16, 19)]).drop 2) hTab (fun z hz => by rcases List.mem_cons.mp hz with rfl | hz; exact Or.inr ⟨by decide, "java/lang/IndexOutOfBoundsException", hts _ (bg _ wd_900), hC _ (i2_mem 8 rfl)⟩; cases hz) (by decide) (by decide) (hts _ (bg _ wd_349)) (va_Nw.use rfl (hN _ ng_15)) h1 h2 h3 ?_
        refine W.eq (g2 := F0 m 16 ls [.ref q9]) rfl ?_
        refine lv_astore_n (lv' := [(3, .ref q9), (2, .int (-100000000)), (0, .ref (oa 0)), (1, .int p1)]) hx hb dL_gradePat_16 rfl hl (by decide) rfl (fun ls hl => ?_)
        refine lv_ldc hx hb (v := (-100000000)) hown (hts _ (bg _ wd_350)) dL_gradePat_17 ?_
        obtain ⟨e8, e9⟩ := Prod.mk.inj (sm hf)
        exact vx_ret (W.iret hx hb hr (fun t ht hW => ⟨⟨_, (), rfl, e8, by rw [← e9, ht]; exact hP, by rw [← e9]; exact hD⟩, hS.F ht⟩) hS.2.2 dL_gradePat_19)
      · have hf := ie c1 hf
        cases hf
def f_L_crush (S : SX7) (p1 : Int32) : Option (Int32 × SX7) := (g_X7_crush S p1).bind fun q => match q with
  | (.inl r, S1) => some (r, S1)
  | (.inr E0, S1) => if E0 = "java/lang/IndexOutOfBoundsException" then some ((-100000000), S1) else if E0 = "java/lang/UnsupportedOperationException" then some ((-100000000), S1) else none
set_option maxRecDepth 100000 in
set_option maxHeartbeats 4000000 in
theorem m_L_crush (l : Launch) (hl0 : l.stackTraces = false) (dC : Nat → ClassId) (dI : Nat → Nat → Nat) (dA gz : Nat → Nat) (oa : Nat → Nat) (sz : Nat) (ln : LN) (S : SX7) (p1 : Int32) (rr : Int32) (uu : SX7) (hf : f_L_crush S p1 = some (rr, uu)) : vx_Met l yL_crush ws_L_crush ({ frames := 38, cells := 2, slots := 12, locals := 1600 } : Room) (va_Pc [.ref (oa 0), .int p1] (pL (dC, dI) dA gz (wX7 dA oa S ln) sz)) (va_Qi (S := Unit) (fun r' _ => r' = rr) (fun _ t => pQ (dC, dI) (va_A (wX7 dA oa S ln) sz) (wX7 dA oa uu ln) t) (va_A (wX7 dA oa S ln) sz)) noX 2 12 (va_A (wX7 dA oa S ln) sz) := by
  refine vx_ofWH (cc := cL_crush) (maxL := 4) (ret := (some .int)) (hh := [(3, 9, 12, 25), (3, 9, 16, 19)]) (by decide) rfl ?_
  intro p e s m args below meth c s₁ B hml hv
  obtain ⟨rfl, ⟨hsz, hP, hK, hD0, hN, hZ⟩, hC⟩ := hv
  have hx := B.exec
  have hb := B.bytes
  have hr := B.returns
  have hts := atoms_spec (ws := ws_L_crush) B.pre
  have hown : s.vm.findClass RL = some m.cls := findClass_of_methodNamed B.named
  have hlocks := B.notSynchronized
  subst hsz
  have hTab := vx_table (x := yL_crush) B (hts _ List.mem_cons_self)
  have hD := hD0.self (sz := s.heap.size)
  generalize hAe : va_A (wX7 dA oa S ln) s.heap.size = A at hD hZ ⊢
  have hA : ∀ q : Nat, s.heap.size ≤ q → A q := fun q h => by rw [← hAe]; exact Or.inr h
  have hS : va_S A s.heap s.heap [] := va_S.rf
  have hl := lv_entry [.ref (oa 0), .int p1] (n := 4) (Nat.le_of_ble_eq_true rfl)
  rw [lg_entry_eq]
  generalize (lg_sl [.ref (oa 0), .int p1] ++ List.replicate (4 - (lg_sl [.ref (oa 0), .int p1]).length) Slot.unset).toArray = ls at hl ⊢
  have hl : lv_has ls 4 [(0, .ref (oa 0)), (1, .int p1)] := hl
  rw [f_L_crush] at hf
  refine lv_ldc hx hb (v := (-100000000)) hown (hts _ (bg _ wd_350)) dL_crush_0 ?_
  refine lv_istore_n (lv' := [(2, .int (-100000000)), (0, .ref (oa 0)), (1, .int p1)]) hx hb dL_crush_2 rfl hl (by decide) rfl (fun ls hl => ?_)
  refine lv_aload_n hx hb dL_crush_3 rfl (lv_at hl 1 rfl) ?_
  refine lv_iload_n hx hb dL_crush_4 rfl (lv_at hl 2 rfl) ?_
  obtain ⟨⟨r0, S1⟩, hq, hf⟩ := bd hf
  rcases r0 with r | E0
  · refine jx_i (w1 := wX7 dA oa S1 ln) (vx_runV (As := [.int p1]) (rest := []) ⟨hx, hb, hml, hown, hts⟩ (mt_X7_crush l hl0 dC dI dA gz oa s.heap.size ln S p1 (.inl r) S1 hq) (cwV 1 hts (gi_v bg wd_959 wd_960 wd_961 wd_1 wd_962) rfl rfl rfl hd_X7_crush ⟨Nat.le_of_ble_eq_true rfl, Nat.le_of_ble_eq_true rfl⟩) ⟨pP_blind, va_recv (ci := 11) (q0 := 0) hK hP rfl rfl, pP_preW hP hD hS hA hK hN hZ⟩ rfl rfl hl.1 rfl (lv_room (Nat.le_of_ble_eq_true rfl)) dL_crush_5 ⟨Nat.le_of_ble_eq_true rfl, Nat.le_of_ble_eq_true rfl⟩) hD hS hA (fun E ce q9 H locs h9 _ _ _ _ _ _ => nomatch h9) (fun r9 H locs h9 hP hD hS => ?_)
    cases h9
    refine lv_istore_n (lv' := [(2, .int r), (0, .ref (oa 0)), (1, .int p1)]) hx hb dL_crush_8 rfl hl (by decide) rfl (fun ls hl => ?_)
    refine lv_goto (tgt := 20) hx hb dL_crush_9 (by decide) ?_
    refine lv_iload_n hx hb dL_crush_20 rfl (lv_at hl 0 rfl) ?_
    obtain ⟨e8, e9⟩ := Prod.mk.inj (sm hf)
    exact vx_ret (W.iret hx hb hr (fun t ht hW => ⟨⟨_, (), rfl, e8, by rw [← e9, ht]; exact hP, by rw [← e9]; exact hD⟩, hS.F ht⟩) hS.2.2 dL_crush_21)
  · refine jx_i (w1 := wX7 dA oa S1 ln) (vx_runV (As := [.int p1]) (rest := []) ⟨hx, hb, hml, hown, hts⟩ (mt_X7_crush l hl0 dC dI dA gz oa s.heap.size ln S p1 (.inr E0) S1 hq) (cwV 1 hts (gi_v bg wd_959 wd_960 wd_961 wd_1 wd_962) rfl rfl rfl hd_X7_crush ⟨Nat.le_of_ble_eq_true rfl, Nat.le_of_ble_eq_true rfl⟩) ⟨pP_blind, va_recv (ci := 11) (q0 := 0) hK hP rfl rfl, pP_preW hP hD hS hA hK hN hZ⟩ rfl rfl hl.1 rfl (lv_room (Nat.le_of_ble_eq_true rfl)) dL_crush_5 ⟨Nat.le_of_ble_eq_true rfl, Nat.le_of_ble_eq_true rfl⟩) hD hS hA (fun E ce q9 H locs h9 hP hD hS h1 h2 h3 => ?_) (fun r9 H locs h9 _ _ _ => nomatch h9)
    cases h9
    by_cases c0 : E0 = "java/lang/IndexOutOfBoundsException"
    · have hf := it c0 hf
      subst c0
      refine vx_catch hown ((tableOf [(3, 9, 12, 25), (3, 9, 16, 19)]).take 0) ((tableOf [(3, 9, 12, 25), (3, 9, 16, 19)]).get ⟨0, by decide⟩) ((tableOf [(3, 9, 12, 25), (3, 9, 16, 19)]).drop 1) hTab (fun z hz => by cases hz) (by decide) (by decide) (hts _ (bg _ wd_900)) (va_Nw.use rfl (hN _ ng_22)) h1 h2 h3 ?_
      refine W.eq (g2 := F0 m 12 ls [.ref q9]) rfl ?_
      refine lv_astore_n (lv' := [(3, .ref q9), (2, .int (-100000000)), (0, .ref (oa 0)), (1, .int p1)]) hx hb dL_crush_12 rfl hl (by decide) rfl (fun ls hl => ?_)
      refine lv_ldc hx hb (v := (-100000000)) hown (hts _ (bg _ wd_350)) dL_crush_13 ?_
      obtain ⟨e8, e9⟩ := Prod.mk.inj (sm hf)
      exact vx_ret (W.iret hx hb hr (fun t ht hW => ⟨⟨_, (), rfl, e8, by rw [← e9, ht]; exact hP, by rw [← e9]; exact hD⟩, hS.F ht⟩) hS.2.2 dL_crush_15)
    · have hf := ie c0 hf
      by_cases c1 : E0 = "java/lang/UnsupportedOperationException"
      · have hf := it c1 hf
        subst c1
        refine vx_catch hown ((tableOf [(3, 9, 12, 25), (3, 9, 16, 19)]).take 1) ((tableOf [(3, 9, 12, 25), (3, 9, 16, 19)]).get ⟨1, by decide⟩) ((tableOf [(3, 9, 12, 25), (3, 9, 16, 19)]).drop 2) hTab (fun z hz => by rcases List.mem_cons.mp hz with rfl | hz; exact Or.inr ⟨by decide, "java/lang/IndexOutOfBoundsException", hts _ (bg _ wd_900), hC _ (i2_mem 8 rfl)⟩; cases hz) (by decide) (by decide) (hts _ (bg _ wd_349)) (va_Nw.use rfl (hN _ ng_15)) h1 h2 h3 ?_
        refine W.eq (g2 := F0 m 16 ls [.ref q9]) rfl ?_
        refine lv_astore_n (lv' := [(3, .ref q9), (2, .int (-100000000)), (0, .ref (oa 0)), (1, .int p1)]) hx hb dL_crush_16 rfl hl (by decide) rfl (fun ls hl => ?_)
        refine lv_ldc hx hb (v := (-100000000)) hown (hts _ (bg _ wd_350)) dL_crush_17 ?_
        obtain ⟨e8, e9⟩ := Prod.mk.inj (sm hf)
        exact vx_ret (W.iret hx hb hr (fun t ht hW => ⟨⟨_, (), rfl, e8, by rw [← e9, ht]; exact hP, by rw [← e9]; exact hD⟩, hS.F ht⟩) hS.2.2 dL_crush_19)
      · have hf := ie c1 hf
        cases hf
def f_L_presentPhase (S : SX7)  : Option (Int32 × SX7) := (g_X7_presentPhase S ).bind fun q => match q with
  | (.inl r, S1) => some (r, S1)
  | (.inr E0, S1) => if E0 = "java/util/NoSuchElementException" then some ((-1000), S1) else none
set_option maxRecDepth 100000 in
set_option maxHeartbeats 4000000 in
theorem m_L_presentPhase (l : Launch) (hl0 : l.stackTraces = false) (dC : Nat → ClassId) (dI : Nat → Nat → Nat) (dA gz : Nat → Nat) (oa : Nat → Nat) (sz : Nat) (ln : LN) (S : SX7)  (rr : Int32) (uu : SX7) (hf : f_L_presentPhase S  = some (rr, uu)) : vx_Met l yL_presentPhase ws_L_presentPhase ({ frames := 22, cells := 1, slots := 6, locals := 800 } : Room) (va_Pc [.ref (oa 0)] (pL (dC, dI) dA gz (wX7 dA oa S ln) sz)) (va_Qi (S := Unit) (fun r' _ => r' = rr) (fun _ t => pQ (dC, dI) (va_A (wX7 dA oa S ln) sz) (wX7 dA oa uu ln) t) (va_A (wX7 dA oa S ln) sz)) noX 1 6 (va_A (wX7 dA oa S ln) sz) := by
  refine vx_ofWH (cc := cL_presentPhase) (maxL := 3) (ret := (some .int)) (hh := [(4, 9, 12, 53)]) (by decide) rfl ?_
  intro p e s m args below meth c s₁ B hml hv
  obtain ⟨rfl, ⟨hsz, hP, hK, hD0, hN, hZ⟩, hC⟩ := hv
  have hx := B.exec
  have hb := B.bytes
  have hr := B.returns
  have hts := atoms_spec (ws := ws_L_presentPhase) B.pre
  have hown : s.vm.findClass RL = some m.cls := findClass_of_methodNamed B.named
  have hlocks := B.notSynchronized
  subst hsz
  have hTab := vx_table (x := yL_presentPhase) B (hts _ List.mem_cons_self)
  have hD := hD0.self (sz := s.heap.size)
  generalize hAe : va_A (wX7 dA oa S ln) s.heap.size = A at hD hZ ⊢
  have hA : ∀ q : Nat, s.heap.size ≤ q → A q := fun q h => by rw [← hAe]; exact Or.inr h
  have hS : va_S A s.heap s.heap [] := va_S.rf
  have hl := lv_entry [.ref (oa 0)] (n := 3) (Nat.le_of_ble_eq_true rfl)
  rw [lg_entry_eq]
  generalize (lg_sl [.ref (oa 0)] ++ List.replicate (3 - (lg_sl [.ref (oa 0)]).length) Slot.unset).toArray = ls at hl ⊢
  have hl : lv_has ls 3 [(0, .ref (oa 0))] := hl
  rw [f_L_presentPhase] at hf
  refine lv_sipush (v := (-1000)) hx hb dL_presentPhase_0 (by decide) ?_
  refine lv_istore_n (lv' := [(1, .int (-1000)), (0, .ref (oa 0))]) hx hb dL_presentPhase_3 rfl hl (by decide) rfl (fun ls hl => ?_)
  refine lv_aload_n hx hb dL_presentPhase_4 rfl (lv_at hl 1 rfl) ?_
  obtain ⟨⟨r0, S1⟩, hq, hf⟩ := bd hf
  rcases r0 with r | E0
  · refine jx_i (w1 := wX7 dA oa S1 ln) (vx_runV (As := []) (rest := []) ⟨hx, hb, hml, hown, hts⟩ (mt_X7_presentPhase l hl0 dC dI dA gz oa s.heap.size ln S  (.inl r) S1 hq) (cwV 0 hts (gi_v bg wd_1021 wd_1022 wd_1023 wd_1 wd_1024) rfl rfl rfl hd_X7_presentPhase ⟨Nat.le_of_ble_eq_true rfl, Nat.le_of_ble_eq_true rfl⟩) ⟨pP_blind, va_recv (ci := 11) (q0 := 0) hK hP rfl rfl, pP_preW hP hD hS hA hK hN hZ⟩ rfl rfl hl.1 rfl (lv_room (Nat.le_of_ble_eq_true rfl)) dL_presentPhase_5 ⟨Nat.le_of_ble_eq_true rfl, Nat.le_of_ble_eq_true rfl⟩) hD hS hA (fun E ce q9 H locs h9 _ _ _ _ _ _ => nomatch h9) (fun r9 H locs h9 hP hD hS => ?_)
    cases h9
    refine lv_istore_n (lv' := [(1, .int r), (0, .ref (oa 0))]) hx hb dL_presentPhase_8 rfl hl (by decide) rfl (fun ls hl => ?_)
    refine lv_goto (tgt := 17) hx hb dL_presentPhase_9 (by decide) ?_
    refine lv_iload_n hx hb dL_presentPhase_17 rfl (lv_at hl 0 rfl) ?_
    obtain ⟨e8, e9⟩ := Prod.mk.inj (sm hf)
    exact vx_ret (W.iret hx hb hr (fun t ht hW => ⟨⟨_, (), rfl, e8, by rw [← e9, ht]; exact hP, by rw [← e9]; exact hD⟩, hS.F ht⟩) hS.2.2 dL_presentPhase_18)
  · refine jx_i (w1 := wX7 dA oa S1 ln) (vx_runV (As := []) (rest := []) ⟨hx, hb, hml, hown, hts⟩ (mt_X7_presentPhase l hl0 dC dI dA gz oa s.heap.size ln S  (.inr E0) S1 hq) (cwV 0 hts (gi_v bg wd_1021 wd_1022 wd_1023 wd_1 wd_1024) rfl rfl rfl hd_X7_presentPhase ⟨Nat.le_of_ble_eq_true rfl, Nat.le_of_ble_eq_true rfl⟩) ⟨pP_blind, va_recv (ci := 11) (q0 := 0) hK hP rfl rfl, pP_preW hP hD hS hA hK hN hZ⟩ rfl rfl hl.1 rfl (lv_room (Nat.le_of_ble_eq_true rfl)) dL_presentPhase_5 ⟨Nat.le_of_ble_eq_true rfl, Nat.le_of_ble_eq_true rfl⟩) hD hS hA (fun E ce q9 H locs h9 hP hD hS h1 h2 h3 => ?_) (fun r9 H locs h9 _ _ _ => nomatch h9)
    cases h9
    by_cases c0 : E0 = "java/util/NoSuchElementException"
    · have hf := it c0 hf
      subst c0
      refine vx_catch hown ((tableOf [(4, 9, 12, 53)]).take 0) ((tableOf [(4, 9, 12, 53)]).get ⟨0, by decide⟩) ((tableOf [(4, 9, 12, 53)]).drop 1) hTab (fun z hz => by cases hz) (by decide) (by decide) (hts _ (bg _ wd_798)) (va_Nw.use rfl (hN _ ng_17)) h1 h2 h3 ?_
      refine W.eq (g2 := F0 m 12 ls [.ref q9]) rfl ?_
      refine lv_astore_n (lv' := [(2, .ref q9), (1, .int (-1000)), (0, .ref (oa 0))]) hx hb dL_presentPhase_12 rfl hl (by decide) rfl (fun ls hl => ?_)
      refine lv_sipush (v := (-1000)) hx hb dL_presentPhase_13 (by decide) ?_
      obtain ⟨e8, e9⟩ := Prod.mk.inj (sm hf)
      exact vx_ret (W.iret hx hb hr (fun t ht hW => ⟨⟨_, (), rfl, e8, by rw [← e9, ht]; exact hP, by rw [← e9]; exact hD⟩, hS.F ht⟩) hS.2.2 dL_presentPhase_16)
    · have hf := ie c0 hf
      cases hf
def f_L_patByFirmness (S : SX7) (p1 : Int32) : Option (Int32 × SX7) := (g_X7_patByFirmness S p1).bind fun q => match q with
  | (.inl r, S1) => some (r, S1)
  | (.inr E0, S1) => if E0 = "java/util/NoSuchElementException" then some ((-1000), S1) else none
set_option maxRecDepth 100000 in
set_option maxHeartbeats 4000000 in
theorem m_L_patByFirmness (l : Launch) (hl0 : l.stackTraces = false) (dC : Nat → ClassId) (dI : Nat → Nat → Nat) (dA gz : Nat → Nat) (oa : Nat → Nat) (sz : Nat) (ln : LN) (S : SX7) (p1 : Int32) (rr : Int32) (uu : SX7) (hf : f_L_patByFirmness S p1 = some (rr, uu)) : vx_Met l yL_patByFirmness ws_L_patByFirmness ({ frames := 34, cells := 1, slots := 6, locals := 1400 } : Room) (va_Pc [.ref (oa 0), .int p1] (pL (dC, dI) dA gz (wX7 dA oa S ln) sz)) (va_Qi (S := Unit) (fun r' _ => r' = rr) (fun _ t => pQ (dC, dI) (va_A (wX7 dA oa S ln) sz) (wX7 dA oa uu ln) t) (va_A (wX7 dA oa S ln) sz)) noX 1 6 (va_A (wX7 dA oa S ln) sz) := by
  refine vx_ofWH (cc := cL_patByFirmness) (maxL := 4) (ret := (some .int)) (hh := [(4, 10, 13, 53)]) (by decide) rfl ?_
  intro p e s m args below meth c s₁ B hml hv
  obtain ⟨rfl, ⟨hsz, hP, hK, hD0, hN, hZ⟩, hC⟩ := hv
  have hx := B.exec
  have hb := B.bytes
  have hr := B.returns
  have hts := atoms_spec (ws := ws_L_patByFirmness) B.pre
  have hown : s.vm.findClass RL = some m.cls := findClass_of_methodNamed B.named
  have hlocks := B.notSynchronized
  subst hsz
  have hTab := vx_table (x := yL_patByFirmness) B (hts _ List.mem_cons_self)
  have hD := hD0.self (sz := s.heap.size)
  generalize hAe : va_A (wX7 dA oa S ln) s.heap.size = A at hD hZ ⊢
  have hA : ∀ q : Nat, s.heap.size ≤ q → A q := fun q h => by rw [← hAe]; exact Or.inr h
  have hS : va_S A s.heap s.heap [] := va_S.rf
  have hl := lv_entry [.ref (oa 0), .int p1] (n := 4) (Nat.le_of_ble_eq_true rfl)
  rw [lg_entry_eq]
  generalize (lg_sl [.ref (oa 0), .int p1] ++ List.replicate (4 - (lg_sl [.ref (oa 0), .int p1]).length) Slot.unset).toArray = ls at hl ⊢
  have hl : lv_has ls 4 [(0, .ref (oa 0)), (1, .int p1)] := hl
  rw [f_L_patByFirmness] at hf
  refine lv_sipush (v := (-1000)) hx hb dL_patByFirmness_0 (by decide) ?_
  refine lv_istore_n (lv' := [(2, .int (-1000)), (0, .ref (oa 0)), (1, .int p1)]) hx hb dL_patByFirmness_3 rfl hl (by decide) rfl (fun ls hl => ?_)
  refine lv_aload_n hx hb dL_patByFirmness_4 rfl (lv_at hl 1 rfl) ?_
  refine lv_iload_n hx hb dL_patByFirmness_5 rfl (lv_at hl 2 rfl) ?_
  obtain ⟨⟨r0, S1⟩, hq, hf⟩ := bd hf
  rcases r0 with r | E0
  · refine jx_i (w1 := wX7 dA oa S1 ln) (vx_runV (As := [.int p1]) (rest := []) ⟨hx, hb, hml, hown, hts⟩ (mt_X7_patByFirmness l hl0 dC dI dA gz oa s.heap.size ln S p1 (.inl r) S1 hq) (cwV 1 hts (gi_v bg wd_1079 wd_1080 wd_1081 wd_1 wd_1082) rfl rfl rfl hd_X7_patByFirmness ⟨Nat.le_of_ble_eq_true rfl, Nat.le_of_ble_eq_true rfl⟩) ⟨pP_blind, va_recv (ci := 11) (q0 := 0) hK hP rfl rfl, pP_preW hP hD hS hA hK hN hZ⟩ rfl rfl hl.1 rfl (lv_room (Nat.le_of_ble_eq_true rfl)) dL_patByFirmness_6 ⟨Nat.le_of_ble_eq_true rfl, Nat.le_of_ble_eq_true rfl⟩) hD hS hA (fun E ce q9 H locs h9 _ _ _ _ _ _ => nomatch h9) (fun r9 H locs h9 hP hD hS => ?_)
    cases h9
    refine lv_istore_n (lv' := [(2, .int r), (0, .ref (oa 0)), (1, .int p1)]) hx hb dL_patByFirmness_9 rfl hl (by decide) rfl (fun ls hl => ?_)
    refine lv_goto (tgt := 18) hx hb dL_patByFirmness_10 (by decide) ?_
    refine lv_iload_n hx hb dL_patByFirmness_18 rfl (lv_at hl 0 rfl) ?_
    obtain ⟨e8, e9⟩ := Prod.mk.inj (sm hf)
    exact vx_ret (W.iret hx hb hr (fun t ht hW => ⟨⟨_, (), rfl, e8, by rw [← e9, ht]; exact hP, by rw [← e9]; exact hD⟩, hS.F ht⟩) hS.2.2 dL_patByFirmness_19)
  · refine jx_i (w1 := wX7 dA oa S1 ln) (vx_runV (As := [.int p1]) (rest := []) ⟨hx, hb, hml, hown, hts⟩ (mt_X7_patByFirmness l hl0 dC dI dA gz oa s.heap.size ln S p1 (.inr E0) S1 hq) (cwV 1 hts (gi_v bg wd_1079 wd_1080 wd_1081 wd_1 wd_1082) rfl rfl rfl hd_X7_patByFirmness ⟨Nat.le_of_ble_eq_true rfl, Nat.le_of_ble_eq_true rfl⟩) ⟨pP_blind, va_recv (ci := 11) (q0 := 0) hK hP rfl rfl, pP_preW hP hD hS hA hK hN hZ⟩ rfl rfl hl.1 rfl (lv_room (Nat.le_of_ble_eq_true rfl)) dL_patByFirmness_6 ⟨Nat.le_of_ble_eq_true rfl, Nat.le_of_ble_eq_true rfl⟩) hD hS hA (fun E ce q9 H locs h9 hP hD hS h1 h2 h3 => ?_) (fun r9 H locs h9 _ _ _ => nomatch h9)
    cases h9
    by_cases c0 : E0 = "java/util/NoSuchElementException"
    · have hf := it c0 hf
      subst c0
      refine vx_catch hown ((tableOf [(4, 10, 13, 53)]).take 0) ((tableOf [(4, 10, 13, 53)]).get ⟨0, by decide⟩) ((tableOf [(4, 10, 13, 53)]).drop 1) hTab (fun z hz => by cases hz) (by decide) (by decide) (hts _ (bg _ wd_798)) (va_Nw.use rfl (hN _ ng_17)) h1 h2 h3 ?_
      refine W.eq (g2 := F0 m 13 ls [.ref q9]) rfl ?_
      refine lv_astore_n (lv' := [(3, .ref q9), (2, .int (-1000)), (0, .ref (oa 0)), (1, .int p1)]) hx hb dL_patByFirmness_13 rfl hl (by decide) rfl (fun ls hl => ?_)
      refine lv_sipush (v := (-1000)) hx hb dL_patByFirmness_14 (by decide) ?_
      obtain ⟨e8, e9⟩ := Prod.mk.inj (sm hf)
      exact vx_ret (W.iret hx hb hr (fun t ht hW => ⟨⟨_, (), rfl, e8, by rw [← e9, ht]; exact hP, by rw [← e9]; exact hD⟩, hS.F ht⟩) hS.2.2 dL_patByFirmness_17)
    · have hf := ie c0 hf
      cases hf
def f_L_nextCool (S : SX7) (p1 : Int32) : Option (Int32 × SX7) := (g_X7_nextCool S p1).bind fun q => match q with
  | (.inl r, S1) => some (r, S1)
  | (.inr E0, S1) => if E0 = "java/lang/IndexOutOfBoundsException" then some ((-1000), S1) else if E0 = "java/util/NoSuchElementException" then some ((-1000), S1) else none
set_option maxRecDepth 100000 in
set_option maxHeartbeats 4000000 in
theorem m_L_nextCool (l : Launch) (hl0 : l.stackTraces = false) (dC : Nat → ClassId) (dI : Nat → Nat → Nat) (dA gz : Nat → Nat) (oa : Nat → Nat) (sz : Nat) (ln : LN) (S : SX7) (p1 : Int32) (rr : Int32) (uu : SX7) (hf : f_L_nextCool S p1 = some (rr, uu)) : vx_Met l yL_nextCool ws_L_nextCool ({ frames := 26, cells := 2, slots := 12, locals := 1000 } : Room) (va_Pc [.ref (oa 0), .int p1] (pL (dC, dI) dA gz (wX7 dA oa S ln) sz)) (va_Qi (S := Unit) (fun r' _ => r' = rr) (fun _ t => pQ (dC, dI) (va_A (wX7 dA oa S ln) sz) (wX7 dA oa uu ln) t) (va_A (wX7 dA oa S ln) sz)) noX 2 12 (va_A (wX7 dA oa S ln) sz) := by
  refine vx_ofWH (cc := cL_nextCool) (maxL := 4) (ret := (some .int)) (hh := [(4, 10, 13, 25), (4, 10, 18, 53)]) (by decide) rfl ?_
  intro p e s m args below meth c s₁ B hml hv
  obtain ⟨rfl, ⟨hsz, hP, hK, hD0, hN, hZ⟩, hC⟩ := hv
  have hx := B.exec
  have hb := B.bytes
  have hr := B.returns
  have hts := atoms_spec (ws := ws_L_nextCool) B.pre
  have hown : s.vm.findClass RL = some m.cls := findClass_of_methodNamed B.named
  have hlocks := B.notSynchronized
  subst hsz
  have hTab := vx_table (x := yL_nextCool) B (hts _ List.mem_cons_self)
  have hD := hD0.self (sz := s.heap.size)
  generalize hAe : va_A (wX7 dA oa S ln) s.heap.size = A at hD hZ ⊢
  have hA : ∀ q : Nat, s.heap.size ≤ q → A q := fun q h => by rw [← hAe]; exact Or.inr h
  have hS : va_S A s.heap s.heap [] := va_S.rf
  have hl := lv_entry [.ref (oa 0), .int p1] (n := 4) (Nat.le_of_ble_eq_true rfl)
  rw [lg_entry_eq]
  generalize (lg_sl [.ref (oa 0), .int p1] ++ List.replicate (4 - (lg_sl [.ref (oa 0), .int p1]).length) Slot.unset).toArray = ls at hl ⊢
  have hl : lv_has ls 4 [(0, .ref (oa 0)), (1, .int p1)] := hl
  rw [f_L_nextCool] at hf
  refine lv_sipush (v := (-1000)) hx hb dL_nextCool_0 (by decide) ?_
  refine lv_istore_n (lv' := [(2, .int (-1000)), (0, .ref (oa 0)), (1, .int p1)]) hx hb dL_nextCool_3 rfl hl (by decide) rfl (fun ls hl => ?_)
  refine lv_aload_n hx hb dL_nextCool_4 rfl (lv_at hl 1 rfl) ?_
  refine lv_iload_n hx hb dL_nextCool_5 rfl (lv_at hl 2 rfl) ?_
  obtain ⟨⟨r0, S1⟩, hq, hf⟩ := bd hf
  rcases r0 with r | E0
  · refine jx_i (w1 := wX7 dA oa S1 ln) (vx_runV (As := [.int p1]) (rest := []) ⟨hx, hb, hml, hown, hts⟩ (mt_X7_nextCool l hl0 dC dI dA gz oa s.heap.size ln S p1 (.inl r) S1 hq) (cwV 1 hts (gi_v bg wd_1100 wd_1101 wd_1102 wd_1 wd_1103) rfl rfl rfl hd_X7_nextCool ⟨Nat.le_of_ble_eq_true rfl, Nat.le_of_ble_eq_true rfl⟩) ⟨pP_blind, va_recv (ci := 11) (q0 := 0) hK hP rfl rfl, pP_preW hP hD hS hA hK hN hZ⟩ rfl rfl hl.1 rfl (lv_room (Nat.le_of_ble_eq_true rfl)) dL_nextCool_6 ⟨Nat.le_of_ble_eq_true rfl, Nat.le_of_ble_eq_true rfl⟩) hD hS hA (fun E ce q9 H locs h9 _ _ _ _ _ _ => nomatch h9) (fun r9 H locs h9 hP hD hS => ?_)
    cases h9
    refine lv_istore_n (lv' := [(2, .int r), (0, .ref (oa 0)), (1, .int p1)]) hx hb dL_nextCool_9 rfl hl (by decide) rfl (fun ls hl => ?_)
    refine lv_goto (tgt := 23) hx hb dL_nextCool_10 (by decide) ?_
    refine lv_iload_n hx hb dL_nextCool_23 rfl (lv_at hl 0 rfl) ?_
    obtain ⟨e8, e9⟩ := Prod.mk.inj (sm hf)
    exact vx_ret (W.iret hx hb hr (fun t ht hW => ⟨⟨_, (), rfl, e8, by rw [← e9, ht]; exact hP, by rw [← e9]; exact hD⟩, hS.F ht⟩) hS.2.2 dL_nextCool_24)
  · refine jx_i (w1 := wX7 dA oa S1 ln) (vx_runV (As := [.int p1]) (rest := []) ⟨hx, hb, hml, hown, hts⟩ (mt_X7_nextCool l hl0 dC dI dA gz oa s.heap.size ln S p1 (.inr E0) S1 hq) (cwV 1 hts (gi_v bg wd_1100 wd_1101 wd_1102 wd_1 wd_1103) rfl rfl rfl hd_X7_nextCool ⟨Nat.le_of_ble_eq_true rfl, Nat.le_of_ble_eq_true rfl⟩) ⟨pP_blind, va_recv (ci := 11) (q0 := 0) hK hP rfl rfl, pP_preW hP hD hS hA hK hN hZ⟩ rfl rfl hl.1 rfl (lv_room (Nat.le_of_ble_eq_true rfl)) dL_nextCool_6 ⟨Nat.le_of_ble_eq_true rfl, Nat.le_of_ble_eq_true rfl⟩) hD hS hA (fun E ce q9 H locs h9 hP hD hS h1 h2 h3 => ?_) (fun r9 H locs h9 _ _ _ => nomatch h9)
    cases h9
    by_cases c0 : E0 = "java/lang/IndexOutOfBoundsException"
    · have hf := it c0 hf
      subst c0
      refine vx_catch hown ((tableOf [(4, 10, 13, 25), (4, 10, 18, 53)]).take 0) ((tableOf [(4, 10, 13, 25), (4, 10, 18, 53)]).get ⟨0, by decide⟩) ((tableOf [(4, 10, 13, 25), (4, 10, 18, 53)]).drop 1) hTab (fun z hz => by cases hz) (by decide) (by decide) (hts _ (bg _ wd_900)) (va_Nw.use rfl (hN _ ng_22)) h1 h2 h3 ?_
      refine W.eq (g2 := F0 m 13 ls [.ref q9]) rfl ?_
      refine lv_astore_n (lv' := [(3, .ref q9), (2, .int (-1000)), (0, .ref (oa 0)), (1, .int p1)]) hx hb dL_nextCool_13 rfl hl (by decide) rfl (fun ls hl => ?_)
      refine lv_sipush (v := (-1000)) hx hb dL_nextCool_14 (by decide) ?_
      obtain ⟨e8, e9⟩ := Prod.mk.inj (sm hf)
      exact vx_ret (W.iret hx hb hr (fun t ht hW => ⟨⟨_, (), rfl, e8, by rw [← e9, ht]; exact hP, by rw [← e9]; exact hD⟩, hS.F ht⟩) hS.2.2 dL_nextCool_17)
    · have hf := ie c0 hf
      by_cases c1 : E0 = "java/util/NoSuchElementException"
      · have hf := it c1 hf
        subst c1
        refine vx_catch hown ((tableOf [(4, 10, 13, 25), (4, 10, 18, 53)]).take 1) ((tableOf [(4, 10, 13, 25), (4, 10, 18, 53)]).get ⟨1, by decide⟩) ((tableOf [(4, 10, 13, 25), (4, 10, 18, 53)]).drop 2) hTab (fun z hz => by rcases List.mem_cons.mp hz with rfl | hz; exact Or.inr ⟨by decide, "java/lang/IndexOutOfBoundsException", hts _ (bg _ wd_900), hC _ (i2_mem 13 rfl)⟩; cases hz) (by decide) (by decide) (hts _ (bg _ wd_798)) (va_Nw.use rfl (hN _ ng_17)) h1 h2 h3 ?_
        refine W.eq (g2 := F0 m 18 ls [.ref q9]) rfl ?_
        refine lv_astore_n (lv' := [(3, .ref q9), (2, .int (-1000)), (0, .ref (oa 0)), (1, .int p1)]) hx hb dL_nextCool_18 rfl hl (by decide) rfl (fun ls hl => ?_)
        refine lv_sipush (v := (-1000)) hx hb dL_nextCool_19 (by decide) ?_
        obtain ⟨e8, e9⟩ := Prod.mk.inj (sm hf)
        exact vx_ret (W.iret hx hb hr (fun t ht hW => ⟨⟨_, (), rfl, e8, by rw [← e9, ht]; exact hP, by rw [← e9]; exact hD⟩, hS.F ht⟩) hS.2.2 dL_nextCool_22)
      · have hf := ie c1 hf
        cases hf
def f_L_execute (S : SX7)  : Option (Int32 × SX7) := (g_X7_execute S ).bind fun q => match q with
  | (.inl r, S1) => some (r, S1)
  | (.inr E0, S1) => if E0 = "java/lang/IllegalArgumentException" then some ((-100000000), S1) else if E0 = "java/lang/UnsupportedOperationException" then some ((-100000000), S1) else none
set_option maxRecDepth 100000 in
set_option maxHeartbeats 4000000 in
theorem m_L_execute (l : Launch) (hl0 : l.stackTraces = false) (dC : Nat → ClassId) (dI : Nat → Nat → Nat) (dA gz : Nat → Nat) (oa : Nat → Nat) (sz : Nat) (ln : LN) (S : SX7)  (rr : Int32) (uu : SX7) (hf : f_L_execute S  = some (rr, uu)) : vx_Met l yL_execute ws_L_execute ({ frames := 50, cells := 1, slots := 6, locals := 2200 } : Room) (va_Pc [.ref (oa 0)] (pL (dC, dI) dA gz (wX7 dA oa S ln) sz)) (va_Qi (S := Unit) (fun r' _ => r' = rr) (fun _ t => pQ (dC, dI) (va_A (wX7 dA oa S ln) sz) (wX7 dA oa uu ln) t) (va_A (wX7 dA oa S ln) sz)) noX 1 6 (va_A (wX7 dA oa S ln) sz) := by
  refine vx_ofWH (cc := cL_execute) (maxL := 3) (ret := (some .int)) (hh := [(3, 8, 11, 17), (3, 8, 15, 19)]) (by decide) rfl ?_
  intro p e s m args below meth c s₁ B hml hv
  obtain ⟨rfl, ⟨hsz, hP, hK, hD0, hN, hZ⟩, hC⟩ := hv
  have hx := B.exec
  have hb := B.bytes
  have hr := B.returns
  have hts := atoms_spec (ws := ws_L_execute) B.pre
  have hown : s.vm.findClass RL = some m.cls := findClass_of_methodNamed B.named
  have hlocks := B.notSynchronized
  subst hsz
  have hTab := vx_table (x := yL_execute) B (hts _ List.mem_cons_self)
  have hD := hD0.self (sz := s.heap.size)
  generalize hAe : va_A (wX7 dA oa S ln) s.heap.size = A at hD hZ ⊢
  have hA : ∀ q : Nat, s.heap.size ≤ q → A q := fun q h => by rw [← hAe]; exact Or.inr h
  have hS : va_S A s.heap s.heap [] := va_S.rf
  have hl := lv_entry [.ref (oa 0)] (n := 3) (Nat.le_of_ble_eq_true rfl)
  rw [lg_entry_eq]
  generalize (lg_sl [.ref (oa 0)] ++ List.replicate (3 - (lg_sl [.ref (oa 0)]).length) Slot.unset).toArray = ls at hl ⊢
  have hl : lv_has ls 3 [(0, .ref (oa 0))] := hl
  rw [f_L_execute] at hf
  refine lv_ldc hx hb (v := (-100000000)) hown (hts _ (bg _ wd_350)) dL_execute_0 ?_
  refine lv_istore_n (lv' := [(1, .int (-100000000)), (0, .ref (oa 0))]) hx hb dL_execute_2 rfl hl (by decide) rfl (fun ls hl => ?_)
  refine lv_aload_n hx hb dL_execute_3 rfl (lv_at hl 1 rfl) ?_
  obtain ⟨⟨r0, S1⟩, hq, hf⟩ := bd hf
  rcases r0 with r | E0
  · refine jx_i (w1 := wX7 dA oa S1 ln) (vx_runV (As := []) (rest := []) ⟨hx, hb, hml, hown, hts⟩ (mt_X7_execute l hl0 dC dI dA gz oa s.heap.size ln S  (.inl r) S1 hq) (cwV 0 hts (gi_v bg wd_626 wd_627 wd_628 wd_1 wd_629) rfl rfl rfl hd_X7_execute ⟨Nat.le_of_ble_eq_true rfl, Nat.le_of_ble_eq_true rfl⟩) ⟨pP_blind, va_recv (ci := 11) (q0 := 0) hK hP rfl rfl, pP_preW hP hD hS hA hK hN hZ⟩ rfl rfl hl.1 rfl (lv_room (Nat.le_of_ble_eq_true rfl)) dL_execute_4 ⟨Nat.le_of_ble_eq_true rfl, Nat.le_of_ble_eq_true rfl⟩) hD hS hA (fun E ce q9 H locs h9 _ _ _ _ _ _ => nomatch h9) (fun r9 H locs h9 hP hD hS => ?_)
    cases h9
    refine lv_istore_n (lv' := [(1, .int r), (0, .ref (oa 0))]) hx hb dL_execute_7 rfl hl (by decide) rfl (fun ls hl => ?_)
    refine lv_goto (tgt := 19) hx hb dL_execute_8 (by decide) ?_
    refine lv_iload_n hx hb dL_execute_19 rfl (lv_at hl 0 rfl) ?_
    obtain ⟨e8, e9⟩ := Prod.mk.inj (sm hf)
    exact vx_ret (W.iret hx hb hr (fun t ht hW => ⟨⟨_, (), rfl, e8, by rw [← e9, ht]; exact hP, by rw [← e9]; exact hD⟩, hS.F ht⟩) hS.2.2 dL_execute_20)
  · refine jx_i (w1 := wX7 dA oa S1 ln) (vx_runV (As := []) (rest := []) ⟨hx, hb, hml, hown, hts⟩ (mt_X7_execute l hl0 dC dI dA gz oa s.heap.size ln S  (.inr E0) S1 hq) (cwV 0 hts (gi_v bg wd_626 wd_627 wd_628 wd_1 wd_629) rfl rfl rfl hd_X7_execute ⟨Nat.le_of_ble_eq_true rfl, Nat.le_of_ble_eq_true rfl⟩) ⟨pP_blind, va_recv (ci := 11) (q0 := 0) hK hP rfl rfl, pP_preW hP hD hS hA hK hN hZ⟩ rfl rfl hl.1 rfl (lv_room (Nat.le_of_ble_eq_true rfl)) dL_execute_4 ⟨Nat.le_of_ble_eq_true rfl, Nat.le_of_ble_eq_true rfl⟩) hD hS hA (fun E ce q9 H locs h9 hP hD hS h1 h2 h3 => ?_) (fun r9 H locs h9 _ _ _ => nomatch h9)
    cases h9
    by_cases c0 : E0 = "java/lang/IllegalArgumentException"
    · have hf := it c0 hf
      subst c0
      refine vx_catch hown ((tableOf [(3, 8, 11, 17), (3, 8, 15, 19)]).take 0) ((tableOf [(3, 8, 11, 17), (3, 8, 15, 19)]).get ⟨0, by decide⟩) ((tableOf [(3, 8, 11, 17), (3, 8, 15, 19)]).drop 1) hTab (fun z hz => by cases hz) (by decide) (by decide) (hts _ (bg _ wd_348)) (va_Nw.use rfl (hN _ ng_8)) h1 h2 h3 ?_
      refine W.eq (g2 := F0 m 11 ls [.ref q9]) rfl ?_
      refine lv_astore_n (lv' := [(2, .ref q9), (1, .int (-100000000)), (0, .ref (oa 0))]) hx hb dL_execute_11 rfl hl (by decide) rfl (fun ls hl => ?_)
      refine lv_ldc hx hb (v := (-100000000)) hown (hts _ (bg _ wd_350)) dL_execute_12 ?_
      obtain ⟨e8, e9⟩ := Prod.mk.inj (sm hf)
      exact vx_ret (W.iret hx hb hr (fun t ht hW => ⟨⟨_, (), rfl, e8, by rw [← e9, ht]; exact hP, by rw [← e9]; exact hD⟩, hS.F ht⟩) hS.2.2 dL_execute_14)
    · have hf := ie c0 hf
      by_cases c1 : E0 = "java/lang/UnsupportedOperationException"
      · have hf := it c1 hf
        subst c1
        refine vx_catch hown ((tableOf [(3, 8, 11, 17), (3, 8, 15, 19)]).take 1) ((tableOf [(3, 8, 11, 17), (3, 8, 15, 19)]).get ⟨1, by decide⟩) ((tableOf [(3, 8, 11, 17), (3, 8, 15, 19)]).drop 2) hTab (fun z hz => by rcases List.mem_cons.mp hz with rfl | hz; exact Or.inr ⟨by decide, "java/lang/IllegalArgumentException", hts _ (bg _ wd_348), hC _ (i2_mem 5 rfl)⟩; cases hz) (by decide) (by decide) (hts _ (bg _ wd_349)) (va_Nw.use rfl (hN _ ng_15)) h1 h2 h3 ?_
        refine W.eq (g2 := F0 m 15 ls [.ref q9]) rfl ?_
        refine lv_astore_n (lv' := [(2, .ref q9), (1, .int (-100000000)), (0, .ref (oa 0))]) hx hb dL_execute_15 rfl hl (by decide) rfl (fun ls hl => ?_)
        refine lv_ldc hx hb (v := (-100000000)) hown (hts _ (bg _ wd_350)) dL_execute_16 ?_
        obtain ⟨e8, e9⟩ := Prod.mk.inj (sm hf)
        exact vx_ret (W.iret hx hb hr (fun t ht hW => ⟨⟨_, (), rfl, e8, by rw [← e9, ht]; exact hP, by rw [← e9]; exact hD⟩, hS.F ht⟩) hS.2.2 dL_execute_18)
      · have hf := ie c1 hf
        cases hf
def f_L_denial (S : SX7)  : Option (Int32 × SX7) := (g_X7_denial S ).bind fun q => match q with
  | (.inl r, S1) => some (r, S1)
  | (.inr E0, S1) => if E0 = "java/util/NoSuchElementException" then some ((-1000), S1) else none
set_option maxRecDepth 100000 in
set_option maxHeartbeats 4000000 in
theorem m_L_denial (l : Launch) (hl0 : l.stackTraces = false) (dC : Nat → ClassId) (dI : Nat → Nat → Nat) (dA gz : Nat → Nat) (oa : Nat → Nat) (sz : Nat) (ln : LN) (S : SX7)  (rr : Int32) (uu : SX7) (hf : f_L_denial S  = some (rr, uu)) : vx_Met l yL_denial ws_L_denial ({ frames := 18, cells := 1, slots := 6, locals := 600 } : Room) (va_Pc [.ref (oa 0)] (pL (dC, dI) dA gz (wX7 dA oa S ln) sz)) (va_Qi (S := Unit) (fun r' _ => r' = rr) (fun _ t => pQ (dC, dI) (va_A (wX7 dA oa S ln) sz) (wX7 dA oa uu ln) t) (va_A (wX7 dA oa S ln) sz)) noX 1 6 (va_A (wX7 dA oa S ln) sz) := by
  refine vx_ofWH (cc := cL_denial) (maxL := 3) (ret := (some .int)) (hh := [(4, 9, 12, 53)]) (by decide) rfl ?_
  intro p e s m args below meth c s₁ B hml hv
  obtain ⟨rfl, ⟨hsz, hP, hK, hD0, hN, hZ⟩, hC⟩ := hv
  have hx := B.exec
  have hb := B.bytes
  have hr := B.returns
  have hts := atoms_spec (ws := ws_L_denial) B.pre
  have hown : s.vm.findClass RL = some m.cls := findClass_of_methodNamed B.named
  have hlocks := B.notSynchronized
  subst hsz
  have hTab := vx_table (x := yL_denial) B (hts _ List.mem_cons_self)
  have hD := hD0.self (sz := s.heap.size)
  generalize hAe : va_A (wX7 dA oa S ln) s.heap.size = A at hD hZ ⊢
  have hA : ∀ q : Nat, s.heap.size ≤ q → A q := fun q h => by rw [← hAe]; exact Or.inr h
  have hS : va_S A s.heap s.heap [] := va_S.rf
  have hl := lv_entry [.ref (oa 0)] (n := 3) (Nat.le_of_ble_eq_true rfl)
  rw [lg_entry_eq]
  generalize (lg_sl [.ref (oa 0)] ++ List.replicate (3 - (lg_sl [.ref (oa 0)]).length) Slot.unset).toArray = ls at hl ⊢
  have hl : lv_has ls 3 [(0, .ref (oa 0))] := hl
  rw [f_L_denial] at hf
  refine lv_sipush (v := (-1000)) hx hb dL_denial_0 (by decide) ?_
  refine lv_istore_n (lv' := [(1, .int (-1000)), (0, .ref (oa 0))]) hx hb dL_denial_3 rfl hl (by decide) rfl (fun ls hl => ?_)
  refine lv_aload_n hx hb dL_denial_4 rfl (lv_at hl 1 rfl) ?_
  obtain ⟨⟨r0, S1⟩, hq, hf⟩ := bd hf
  rcases r0 with r | E0
  · refine jx_i (w1 := wX7 dA oa S1 ln) (vx_runV (As := []) (rest := []) ⟨hx, hb, hml, hown, hts⟩ (mt_X7_denial l hl0 dC dI dA gz oa s.heap.size ln S  (.inl r) S1 hq) (cwV 0 hts (gi_v bg wd_799 wd_800 wd_801 wd_1 wd_802) rfl rfl rfl hd_X7_denial ⟨Nat.le_of_ble_eq_true rfl, Nat.le_of_ble_eq_true rfl⟩) ⟨pP_blind, va_recv (ci := 11) (q0 := 0) hK hP rfl rfl, pP_preW hP hD hS hA hK hN hZ⟩ rfl rfl hl.1 rfl (lv_room (Nat.le_of_ble_eq_true rfl)) dL_denial_5 ⟨Nat.le_of_ble_eq_true rfl, Nat.le_of_ble_eq_true rfl⟩) hD hS hA (fun E ce q9 H locs h9 _ _ _ _ _ _ => nomatch h9) (fun r9 H locs h9 hP hD hS => ?_)
    cases h9
    refine lv_istore_n (lv' := [(1, .int r), (0, .ref (oa 0))]) hx hb dL_denial_8 rfl hl (by decide) rfl (fun ls hl => ?_)
    refine lv_goto (tgt := 17) hx hb dL_denial_9 (by decide) ?_
    refine lv_iload_n hx hb dL_denial_17 rfl (lv_at hl 0 rfl) ?_
    obtain ⟨e8, e9⟩ := Prod.mk.inj (sm hf)
    exact vx_ret (W.iret hx hb hr (fun t ht hW => ⟨⟨_, (), rfl, e8, by rw [← e9, ht]; exact hP, by rw [← e9]; exact hD⟩, hS.F ht⟩) hS.2.2 dL_denial_18)
  · refine jx_i (w1 := wX7 dA oa S1 ln) (vx_runV (As := []) (rest := []) ⟨hx, hb, hml, hown, hts⟩ (mt_X7_denial l hl0 dC dI dA gz oa s.heap.size ln S  (.inr E0) S1 hq) (cwV 0 hts (gi_v bg wd_799 wd_800 wd_801 wd_1 wd_802) rfl rfl rfl hd_X7_denial ⟨Nat.le_of_ble_eq_true rfl, Nat.le_of_ble_eq_true rfl⟩) ⟨pP_blind, va_recv (ci := 11) (q0 := 0) hK hP rfl rfl, pP_preW hP hD hS hA hK hN hZ⟩ rfl rfl hl.1 rfl (lv_room (Nat.le_of_ble_eq_true rfl)) dL_denial_5 ⟨Nat.le_of_ble_eq_true rfl, Nat.le_of_ble_eq_true rfl⟩) hD hS hA (fun E ce q9 H locs h9 hP hD hS h1 h2 h3 => ?_) (fun r9 H locs h9 _ _ _ => nomatch h9)
    cases h9
    by_cases c0 : E0 = "java/util/NoSuchElementException"
    · have hf := it c0 hf
      subst c0
      refine vx_catch hown ((tableOf [(4, 9, 12, 53)]).take 0) ((tableOf [(4, 9, 12, 53)]).get ⟨0, by decide⟩) ((tableOf [(4, 9, 12, 53)]).drop 1) hTab (fun z hz => by cases hz) (by decide) (by decide) (hts _ (bg _ wd_798)) (va_Nw.use rfl (hN _ ng_17)) h1 h2 h3 ?_
      refine W.eq (g2 := F0 m 12 ls [.ref q9]) rfl ?_
      refine lv_astore_n (lv' := [(2, .ref q9), (1, .int (-1000)), (0, .ref (oa 0))]) hx hb dL_denial_12 rfl hl (by decide) rfl (fun ls hl => ?_)
      refine lv_sipush (v := (-1000)) hx hb dL_denial_13 (by decide) ?_
      obtain ⟨e8, e9⟩ := Prod.mk.inj (sm hf)
      exact vx_ret (W.iret hx hb hr (fun t ht hW => ⟨⟨_, (), rfl, e8, by rw [← e9, ht]; exact hP, by rw [← e9]; exact hD⟩, hS.F ht⟩) hS.2.2 dL_denial_16)
    · have hf := ie c0 hf
      cases hf
def f_L_denialCause (S : SX7)  : Option (Int32 × SX7) := (g_X7_denialCause S ).bind fun q => match q with
  | (.inl r, S1) => some (r, S1)
  | (.inr E0, S1) => if E0 = "java/util/NoSuchElementException" then some ((-1000), S1) else none
set_option maxRecDepth 100000 in
set_option maxHeartbeats 4000000 in
theorem m_L_denialCause (l : Launch) (hl0 : l.stackTraces = false) (dC : Nat → ClassId) (dI : Nat → Nat → Nat) (dA gz : Nat → Nat) (oa : Nat → Nat) (sz : Nat) (ln : LN) (S : SX7)  (rr : Int32) (uu : SX7) (hf : f_L_denialCause S  = some (rr, uu)) : vx_Met l yL_denialCause ws_L_denialCause ({ frames := 14, cells := 1, slots := 6, locals := 400 } : Room) (va_Pc [.ref (oa 0)] (pL (dC, dI) dA gz (wX7 dA oa S ln) sz)) (va_Qi (S := Unit) (fun r' _ => r' = rr) (fun _ t => pQ (dC, dI) (va_A (wX7 dA oa S ln) sz) (wX7 dA oa uu ln) t) (va_A (wX7 dA oa S ln) sz)) noX 1 6 (va_A (wX7 dA oa S ln) sz) := by
  refine vx_ofWH (cc := cL_denialCause) (maxL := 3) (ret := (some .int)) (hh := [(4, 9, 12, 53)]) (by decide) rfl ?_
  intro p e s m args below meth c s₁ B hml hv
  obtain ⟨rfl, ⟨hsz, hP, hK, hD0, hN, hZ⟩, hC⟩ := hv
  have hx := B.exec
  have hb := B.bytes
  have hr := B.returns
  have hts := atoms_spec (ws := ws_L_denialCause) B.pre
  have hown : s.vm.findClass RL = some m.cls := findClass_of_methodNamed B.named
  have hlocks := B.notSynchronized
  subst hsz
  have hTab := vx_table (x := yL_denialCause) B (hts _ List.mem_cons_self)
  have hD := hD0.self (sz := s.heap.size)
  generalize hAe : va_A (wX7 dA oa S ln) s.heap.size = A at hD hZ ⊢
  have hA : ∀ q : Nat, s.heap.size ≤ q → A q := fun q h => by rw [← hAe]; exact Or.inr h
  have hS : va_S A s.heap s.heap [] := va_S.rf
  have hl := lv_entry [.ref (oa 0)] (n := 3) (Nat.le_of_ble_eq_true rfl)
  rw [lg_entry_eq]
  generalize (lg_sl [.ref (oa 0)] ++ List.replicate (3 - (lg_sl [.ref (oa 0)]).length) Slot.unset).toArray = ls at hl ⊢
  have hl : lv_has ls 3 [(0, .ref (oa 0))] := hl
  rw [f_L_denialCause] at hf
  refine lv_sipush (v := (-1000)) hx hb dL_denialCause_0 (by decide) ?_
  refine lv_istore_n (lv' := [(1, .int (-1000)), (0, .ref (oa 0))]) hx hb dL_denialCause_3 rfl hl (by decide) rfl (fun ls hl => ?_)
  refine lv_aload_n hx hb dL_denialCause_4 rfl (lv_at hl 1 rfl) ?_
  obtain ⟨⟨r0, S1⟩, hq, hf⟩ := bd hf
  rcases r0 with r | E0
  · refine jx_i (w1 := wX7 dA oa S1 ln) (vx_runV (As := []) (rest := []) ⟨hx, hb, hml, hown, hts⟩ (mt_X7_denialCause l hl0 dC dI dA gz oa s.heap.size ln S  (.inl r) S1 hq) (cwV 0 hts (gi_v bg wd_826 wd_827 wd_828 wd_1 wd_829) rfl rfl rfl hd_X7_denialCause ⟨Nat.le_of_ble_eq_true rfl, Nat.le_of_ble_eq_true rfl⟩) ⟨pP_blind, va_recv (ci := 11) (q0 := 0) hK hP rfl rfl, pP_preW hP hD hS hA hK hN hZ⟩ rfl rfl hl.1 rfl (lv_room (Nat.le_of_ble_eq_true rfl)) dL_denialCause_5 ⟨Nat.le_of_ble_eq_true rfl, Nat.le_of_ble_eq_true rfl⟩) hD hS hA (fun E ce q9 H locs h9 _ _ _ _ _ _ => nomatch h9) (fun r9 H locs h9 hP hD hS => ?_)
    cases h9
    refine lv_istore_n (lv' := [(1, .int r), (0, .ref (oa 0))]) hx hb dL_denialCause_8 rfl hl (by decide) rfl (fun ls hl => ?_)
    refine lv_goto (tgt := 17) hx hb dL_denialCause_9 (by decide) ?_
    refine lv_iload_n hx hb dL_denialCause_17 rfl (lv_at hl 0 rfl) ?_
    obtain ⟨e8, e9⟩ := Prod.mk.inj (sm hf)
    exact vx_ret (W.iret hx hb hr (fun t ht hW => ⟨⟨_, (), rfl, e8, by rw [← e9, ht]; exact hP, by rw [← e9]; exact hD⟩, hS.F ht⟩) hS.2.2 dL_denialCause_18)
  · refine jx_i (w1 := wX7 dA oa S1 ln) (vx_runV (As := []) (rest := []) ⟨hx, hb, hml, hown, hts⟩ (mt_X7_denialCause l hl0 dC dI dA gz oa s.heap.size ln S  (.inr E0) S1 hq) (cwV 0 hts (gi_v bg wd_826 wd_827 wd_828 wd_1 wd_829) rfl rfl rfl hd_X7_denialCause ⟨Nat.le_of_ble_eq_true rfl, Nat.le_of_ble_eq_true rfl⟩) ⟨pP_blind, va_recv (ci := 11) (q0 := 0) hK hP rfl rfl, pP_preW hP hD hS hA hK hN hZ⟩ rfl rfl hl.1 rfl (lv_room (Nat.le_of_ble_eq_true rfl)) dL_denialCause_5 ⟨Nat.le_of_ble_eq_true rfl, Nat.le_of_ble_eq_true rfl⟩) hD hS hA (fun E ce q9 H locs h9 hP hD hS h1 h2 h3 => ?_) (fun r9 H locs h9 _ _ _ => nomatch h9)
    cases h9
    by_cases c0 : E0 = "java/util/NoSuchElementException"
    · have hf := it c0 hf
      subst c0
      refine vx_catch hown ((tableOf [(4, 9, 12, 53)]).take 0) ((tableOf [(4, 9, 12, 53)]).get ⟨0, by decide⟩) ((tableOf [(4, 9, 12, 53)]).drop 1) hTab (fun z hz => by cases hz) (by decide) (by decide) (hts _ (bg _ wd_798)) (va_Nw.use rfl (hN _ ng_17)) h1 h2 h3 ?_
      refine W.eq (g2 := F0 m 12 ls [.ref q9]) rfl ?_
      refine lv_astore_n (lv' := [(2, .ref q9), (1, .int (-1000)), (0, .ref (oa 0))]) hx hb dL_denialCause_12 rfl hl (by decide) rfl (fun ls hl => ?_)
      refine lv_sipush (v := (-1000)) hx hb dL_denialCause_13 (by decide) ?_
      obtain ⟨e8, e9⟩ := Prod.mk.inj (sm hf)
      exact vx_ret (W.iret hx hb hr (fun t ht hW => ⟨⟨_, (), rfl, e8, by rw [← e9, ht]; exact hP, by rw [← e9]; exact hD⟩, hS.F ht⟩) hS.2.2 dL_denialCause_16)
    · have hf := ie c0 hf
      cases hf
def f_L_undo (S : SX7)  : Option (Int32 × SX7) := (g_X7_undo S ).bind fun q => match q with
  | (.inl r, S1) => some (r, S1)
  | (.inr E0, S1) => if E0 = "java/lang/IllegalStateException" then some ((-100000000), S1) else none
set_option maxRecDepth 100000 in
set_option maxHeartbeats 4000000 in
theorem m_L_undo (l : Launch) (hl0 : l.stackTraces = false) (dC : Nat → ClassId) (dI : Nat → Nat → Nat) (dA gz : Nat → Nat) (oa : Nat → Nat) (sz : Nat) (ln : LN) (S : SX7)  (rr : Int32) (uu : SX7) (hf : f_L_undo S  = some (rr, uu)) : vx_Met l yL_undo ws_L_undo ({ frames := 38, cells := 1, slots := 6, locals := 1600 } : Room) (va_Pc [.ref (oa 0)] (pL (dC, dI) dA gz (wX7 dA oa S ln) sz)) (va_Qi (S := Unit) (fun r' _ => r' = rr) (fun _ t => pQ (dC, dI) (va_A (wX7 dA oa S ln) sz) (wX7 dA oa uu ln) t) (va_A (wX7 dA oa S ln) sz)) noX 1 6 (va_A (wX7 dA oa S ln) sz) := by
  refine vx_ofWH (cc := cL_undo) (maxL := 3) (ret := (some .int)) (hh := [(3, 8, 11, 86)]) (by decide) rfl ?_
  intro p e s m args below meth c s₁ B hml hv
  obtain ⟨rfl, ⟨hsz, hP, hK, hD0, hN, hZ⟩, hC⟩ := hv
  have hx := B.exec
  have hb := B.bytes
  have hr := B.returns
  have hts := atoms_spec (ws := ws_L_undo) B.pre
  have hown : s.vm.findClass RL = some m.cls := findClass_of_methodNamed B.named
  have hlocks := B.notSynchronized
  subst hsz
  have hTab := vx_table (x := yL_undo) B (hts _ List.mem_cons_self)
  have hD := hD0.self (sz := s.heap.size)
  generalize hAe : va_A (wX7 dA oa S ln) s.heap.size = A at hD hZ ⊢
  have hA : ∀ q : Nat, s.heap.size ≤ q → A q := fun q h => by rw [← hAe]; exact Or.inr h
  have hS : va_S A s.heap s.heap [] := va_S.rf
  have hl := lv_entry [.ref (oa 0)] (n := 3) (Nat.le_of_ble_eq_true rfl)
  rw [lg_entry_eq]
  generalize (lg_sl [.ref (oa 0)] ++ List.replicate (3 - (lg_sl [.ref (oa 0)]).length) Slot.unset).toArray = ls at hl ⊢
  have hl : lv_has ls 3 [(0, .ref (oa 0))] := hl
  rw [f_L_undo] at hf
  refine lv_ldc hx hb (v := (-100000000)) hown (hts _ (bg _ wd_350)) dL_undo_0 ?_
  refine lv_istore_n (lv' := [(1, .int (-100000000)), (0, .ref (oa 0))]) hx hb dL_undo_2 rfl hl (by decide) rfl (fun ls hl => ?_)
  refine lv_aload_n hx hb dL_undo_3 rfl (lv_at hl 1 rfl) ?_
  obtain ⟨⟨r0, S1⟩, hq, hf⟩ := bd hf
  rcases r0 with r | E0
  · refine jx_i (w1 := wX7 dA oa S1 ln) (vx_runV (As := []) (rest := []) ⟨hx, hb, hml, hown, hts⟩ (mt_X7_undo l hl0 dC dI dA gz oa s.heap.size ln S  (.inl r) S1 hq) (cwV 0 hts (gi_v bg wd_835 wd_836 wd_837 wd_1 wd_838) rfl rfl rfl hd_X7_undo ⟨Nat.le_of_ble_eq_true rfl, Nat.le_of_ble_eq_true rfl⟩) ⟨pP_blind, va_recv (ci := 11) (q0 := 0) hK hP rfl rfl, pP_preW hP hD hS hA hK hN hZ⟩ rfl rfl hl.1 rfl (lv_room (Nat.le_of_ble_eq_true rfl)) dL_undo_4 ⟨Nat.le_of_ble_eq_true rfl, Nat.le_of_ble_eq_true rfl⟩) hD hS hA (fun E ce q9 H locs h9 _ _ _ _ _ _ => nomatch h9) (fun r9 H locs h9 hP hD hS => ?_)
    cases h9
    refine lv_istore_n (lv' := [(1, .int r), (0, .ref (oa 0))]) hx hb dL_undo_7 rfl hl (by decide) rfl (fun ls hl => ?_)
    refine lv_goto (tgt := 15) hx hb dL_undo_8 (by decide) ?_
    refine lv_iload_n hx hb dL_undo_15 rfl (lv_at hl 0 rfl) ?_
    obtain ⟨e8, e9⟩ := Prod.mk.inj (sm hf)
    exact vx_ret (W.iret hx hb hr (fun t ht hW => ⟨⟨_, (), rfl, e8, by rw [← e9, ht]; exact hP, by rw [← e9]; exact hD⟩, hS.F ht⟩) hS.2.2 dL_undo_16)
  · refine jx_i (w1 := wX7 dA oa S1 ln) (vx_runV (As := []) (rest := []) ⟨hx, hb, hml, hown, hts⟩ (mt_X7_undo l hl0 dC dI dA gz oa s.heap.size ln S  (.inr E0) S1 hq) (cwV 0 hts (gi_v bg wd_835 wd_836 wd_837 wd_1 wd_838) rfl rfl rfl hd_X7_undo ⟨Nat.le_of_ble_eq_true rfl, Nat.le_of_ble_eq_true rfl⟩) ⟨pP_blind, va_recv (ci := 11) (q0 := 0) hK hP rfl rfl, pP_preW hP hD hS hA hK hN hZ⟩ rfl rfl hl.1 rfl (lv_room (Nat.le_of_ble_eq_true rfl)) dL_undo_4 ⟨Nat.le_of_ble_eq_true rfl, Nat.le_of_ble_eq_true rfl⟩) hD hS hA (fun E ce q9 H locs h9 hP hD hS h1 h2 h3 => ?_) (fun r9 H locs h9 _ _ _ => nomatch h9)
    cases h9
    by_cases c0 : E0 = "java/lang/IllegalStateException"
    · have hf := it c0 hf
      subst c0
      refine vx_catch hown ((tableOf [(3, 8, 11, 86)]).take 0) ((tableOf [(3, 8, 11, 86)]).get ⟨0, by decide⟩) ((tableOf [(3, 8, 11, 86)]).drop 1) hTab (fun z hz => by cases hz) (by decide) (by decide) (hts _ (bg _ wd_834)) (va_Nw.use rfl (hN _ ng_18)) h1 h2 h3 ?_
      refine W.eq (g2 := F0 m 11 ls [.ref q9]) rfl ?_
      refine lv_astore_n (lv' := [(2, .ref q9), (1, .int (-100000000)), (0, .ref (oa 0))]) hx hb dL_undo_11 rfl hl (by decide) rfl (fun ls hl => ?_)
      refine lv_ldc hx hb (v := (-100000000)) hown (hts _ (bg _ wd_350)) dL_undo_12 ?_
      obtain ⟨e8, e9⟩ := Prod.mk.inj (sm hf)
      exact vx_ret (W.iret hx hb hr (fun t ht hW => ⟨⟨_, (), rfl, e8, by rw [← e9, ht]; exact hP, by rw [← e9]; exact hD⟩, hS.F ht⟩) hS.2.2 dL_undo_14)
    · have hf := ie c0 hf
      cases hf
def f_L_restore (S : SX7)  : Option (Int32 × SX7) := (g_X7_restoreSnapshot S ).bind fun q => match q with
  | (.inl r, S1) => some (r, S1)
  | (.inr E0, S1) => if E0 = "java/lang/IllegalStateException" then some ((-100000000), S1) else none
set_option maxRecDepth 100000 in
set_option maxHeartbeats 4000000 in
theorem m_L_restore (l : Launch) (hl0 : l.stackTraces = false) (dC : Nat → ClassId) (dI : Nat → Nat → Nat) (dA gz : Nat → Nat) (oa : Nat → Nat) (sz : Nat) (ln : LN) (S : SX7)  (rr : Int32) (uu : SX7) (hf : f_L_restore S  = some (rr, uu)) : vx_Met l yL_restore ws_L_restore ({ frames := 38, cells := 1, slots := 6, locals := 1600 } : Room) (va_Pc [.ref (oa 0)] (pL (dC, dI) dA gz (wX7 dA oa S ln) sz)) (va_Qi (S := Unit) (fun r' _ => r' = rr) (fun _ t => pQ (dC, dI) (va_A (wX7 dA oa S ln) sz) (wX7 dA oa uu ln) t) (va_A (wX7 dA oa S ln) sz)) noX 1 6 (va_A (wX7 dA oa S ln) sz) := by
  refine vx_ofWH (cc := cL_restore) (maxL := 3) (ret := (some .int)) (hh := [(3, 8, 11, 86)]) (by decide) rfl ?_
  intro p e s m args below meth c s₁ B hml hv
  obtain ⟨rfl, ⟨hsz, hP, hK, hD0, hN, hZ⟩, hC⟩ := hv
  have hx := B.exec
  have hb := B.bytes
  have hr := B.returns
  have hts := atoms_spec (ws := ws_L_restore) B.pre
  have hown : s.vm.findClass RL = some m.cls := findClass_of_methodNamed B.named
  have hlocks := B.notSynchronized
  subst hsz
  have hTab := vx_table (x := yL_restore) B (hts _ List.mem_cons_self)
  have hD := hD0.self (sz := s.heap.size)
  generalize hAe : va_A (wX7 dA oa S ln) s.heap.size = A at hD hZ ⊢
  have hA : ∀ q : Nat, s.heap.size ≤ q → A q := fun q h => by rw [← hAe]; exact Or.inr h
  have hS : va_S A s.heap s.heap [] := va_S.rf
  have hl := lv_entry [.ref (oa 0)] (n := 3) (Nat.le_of_ble_eq_true rfl)
  rw [lg_entry_eq]
  generalize (lg_sl [.ref (oa 0)] ++ List.replicate (3 - (lg_sl [.ref (oa 0)]).length) Slot.unset).toArray = ls at hl ⊢
  have hl : lv_has ls 3 [(0, .ref (oa 0))] := hl
  rw [f_L_restore] at hf
  refine lv_ldc hx hb (v := (-100000000)) hown (hts _ (bg _ wd_350)) dL_restore_0 ?_
  refine lv_istore_n (lv' := [(1, .int (-100000000)), (0, .ref (oa 0))]) hx hb dL_restore_2 rfl hl (by decide) rfl (fun ls hl => ?_)
  refine lv_aload_n hx hb dL_restore_3 rfl (lv_at hl 1 rfl) ?_
  obtain ⟨⟨r0, S1⟩, hq, hf⟩ := bd hf
  rcases r0 with r | E0
  · refine jx_i (w1 := wX7 dA oa S1 ln) (vx_runV (As := []) (rest := []) ⟨hx, hb, hml, hown, hts⟩ (mt_X7_restoreSnapshot l hl0 dC dI dA gz oa s.heap.size ln S  (.inl r) S1 hq) (cwV 0 hts (gi_v bg wd_862 wd_863 wd_864 wd_1 wd_865) rfl rfl rfl hd_X7_restoreSnapshot ⟨Nat.le_of_ble_eq_true rfl, Nat.le_of_ble_eq_true rfl⟩) ⟨pP_blind, va_recv (ci := 11) (q0 := 0) hK hP rfl rfl, pP_preW hP hD hS hA hK hN hZ⟩ rfl rfl hl.1 rfl (lv_room (Nat.le_of_ble_eq_true rfl)) dL_restore_4 ⟨Nat.le_of_ble_eq_true rfl, Nat.le_of_ble_eq_true rfl⟩) hD hS hA (fun E ce q9 H locs h9 _ _ _ _ _ _ => nomatch h9) (fun r9 H locs h9 hP hD hS => ?_)
    cases h9
    refine lv_istore_n (lv' := [(1, .int r), (0, .ref (oa 0))]) hx hb dL_restore_7 rfl hl (by decide) rfl (fun ls hl => ?_)
    refine lv_goto (tgt := 15) hx hb dL_restore_8 (by decide) ?_
    refine lv_iload_n hx hb dL_restore_15 rfl (lv_at hl 0 rfl) ?_
    obtain ⟨e8, e9⟩ := Prod.mk.inj (sm hf)
    exact vx_ret (W.iret hx hb hr (fun t ht hW => ⟨⟨_, (), rfl, e8, by rw [← e9, ht]; exact hP, by rw [← e9]; exact hD⟩, hS.F ht⟩) hS.2.2 dL_restore_16)
  · refine jx_i (w1 := wX7 dA oa S1 ln) (vx_runV (As := []) (rest := []) ⟨hx, hb, hml, hown, hts⟩ (mt_X7_restoreSnapshot l hl0 dC dI dA gz oa s.heap.size ln S  (.inr E0) S1 hq) (cwV 0 hts (gi_v bg wd_862 wd_863 wd_864 wd_1 wd_865) rfl rfl rfl hd_X7_restoreSnapshot ⟨Nat.le_of_ble_eq_true rfl, Nat.le_of_ble_eq_true rfl⟩) ⟨pP_blind, va_recv (ci := 11) (q0 := 0) hK hP rfl rfl, pP_preW hP hD hS hA hK hN hZ⟩ rfl rfl hl.1 rfl (lv_room (Nat.le_of_ble_eq_true rfl)) dL_restore_4 ⟨Nat.le_of_ble_eq_true rfl, Nat.le_of_ble_eq_true rfl⟩) hD hS hA (fun E ce q9 H locs h9 hP hD hS h1 h2 h3 => ?_) (fun r9 H locs h9 _ _ _ => nomatch h9)
    cases h9
    by_cases c0 : E0 = "java/lang/IllegalStateException"
    · have hf := it c0 hf
      subst c0
      refine vx_catch hown ((tableOf [(3, 8, 11, 86)]).take 0) ((tableOf [(3, 8, 11, 86)]).get ⟨0, by decide⟩) ((tableOf [(3, 8, 11, 86)]).drop 1) hTab (fun z hz => by cases hz) (by decide) (by decide) (hts _ (bg _ wd_834)) (va_Nw.use rfl (hN _ ng_18)) h1 h2 h3 ?_
      refine W.eq (g2 := F0 m 11 ls [.ref q9]) rfl ?_
      refine lv_astore_n (lv' := [(2, .ref q9), (1, .int (-100000000)), (0, .ref (oa 0))]) hx hb dL_restore_11 rfl hl (by decide) rfl (fun ls hl => ?_)
      refine lv_ldc hx hb (v := (-100000000)) hown (hts _ (bg _ wd_350)) dL_restore_12 ?_
      obtain ⟨e8, e9⟩ := Prod.mk.inj (sm hf)
      exact vx_ret (W.iret hx hb hr (fun t ht hW => ⟨⟨_, (), rfl, e8, by rw [← e9, ht]; exact hP, by rw [← e9]; exact hD⟩, hS.F ht⟩) hS.2.2 dL_restore_14)
    · have hf := ie c0 hf
      cases hf
def f_L_put (S : SX7) (p1 : Int32) : Option (Int32 × SX7) := (g_X7_feed S p1).bind fun q => match q with
  | (.inl r, S1) => some (1, S1)
  | (.inr E0, S1) => if E0 = "java/lang/IllegalStateException" then some (0, S1) else none
set_option maxRecDepth 100000 in
set_option maxHeartbeats 4000000 in
theorem m_L_put (l : Launch) (hl0 : l.stackTraces = false) (dC : Nat → ClassId) (dI : Nat → Nat → Nat) (dA gz : Nat → Nat) (oa : Nat → Nat) (sz : Nat) (ln : LN) (S : SX7) (p1 : Int32) (rr : Int32) (uu : SX7) (hf : f_L_put S p1 = some (rr, uu)) : vx_Met l yL_put ws_L_put ({ frames := 22, cells := 1, slots := 6, locals := 800 } : Room) (va_Pc [.ref (oa 0), .int p1] (pL (dC, dI) dA gz (wX7 dA oa S ln) sz)) (va_Qi (S := Unit) (fun r' _ => r' = rr) (fun _ t => pQ (dC, dI) (va_A (wX7 dA oa S ln) sz) (wX7 dA oa uu ln) t) (va_A (wX7 dA oa S ln) sz)) noX 1 6 (va_A (wX7 dA oa S ln) sz) := by
  refine vx_ofWH (cc := cL_put) (maxL := 3) (ret := (some .boolean)) (hh := [(0, 6, 9, 86)]) (by decide) rfl ?_
  intro p e s m args below meth c s₁ B hml hv
  obtain ⟨rfl, ⟨hsz, hP, hK, hD0, hN, hZ⟩, hC⟩ := hv
  have hx := B.exec
  have hb := B.bytes
  have hr := B.returns
  have hts := atoms_spec (ws := ws_L_put) B.pre
  have hown : s.vm.findClass RL = some m.cls := findClass_of_methodNamed B.named
  have hlocks := B.notSynchronized
  subst hsz
  have hTab := vx_table (x := yL_put) B (hts _ List.mem_cons_self)
  have hD := hD0.self (sz := s.heap.size)
  generalize hAe : va_A (wX7 dA oa S ln) s.heap.size = A at hD hZ ⊢
  have hA : ∀ q : Nat, s.heap.size ≤ q → A q := fun q h => by rw [← hAe]; exact Or.inr h
  have hS : va_S A s.heap s.heap [] := va_S.rf
  have hl := lv_entry [.ref (oa 0), .int p1] (n := 3) (Nat.le_of_ble_eq_true rfl)
  rw [lg_entry_eq]
  generalize (lg_sl [.ref (oa 0), .int p1] ++ List.replicate (3 - (lg_sl [.ref (oa 0), .int p1]).length) Slot.unset).toArray = ls at hl ⊢
  have hl : lv_has ls 3 [(0, .ref (oa 0)), (1, .int p1)] := hl
  rw [f_L_put] at hf
  refine lv_aload_n hx hb dL_put_0 rfl (lv_at hl 0 rfl) ?_
  refine lv_iload_n hx hb dL_put_1 rfl (lv_at hl 1 rfl) ?_
  obtain ⟨⟨r0, S1⟩, hq, hf⟩ := bd hf
  rcases r0 with r | E0
  · refine jx_i (w1 := wX7 dA oa S1 ln) (vx_runV (As := [.int p1]) (rest := []) ⟨hx, hb, hml, hown, hts⟩ (mt_X7_feed l hl0 dC dI dA gz oa s.heap.size ln S p1 (.inl r) S1 hq) (cwV 1 hts (gi_v bg wd_879 wd_880 wd_881 wd_1 wd_882) rfl rfl rfl hd_X7_feed ⟨Nat.le_of_ble_eq_true rfl, Nat.le_of_ble_eq_true rfl⟩) ⟨pP_blind, va_recv (ci := 11) (q0 := 0) hK hP rfl rfl, pP_preW hP hD hS hA hK hN hZ⟩ rfl rfl hl.1 rfl (lv_room (Nat.le_of_ble_eq_true rfl)) dL_put_2 ⟨Nat.le_of_ble_eq_true rfl, Nat.le_of_ble_eq_true rfl⟩) hD hS hA (fun E ce q9 H locs h9 _ _ _ _ _ _ => nomatch h9) (fun r9 H locs h9 hP hD hS => ?_)
    cases h9
    refine lv_pop hx hb dL_put_5 rfl ?_
    refine lv_goto (tgt := 12) hx hb dL_put_6 (by decide) ?_
    refine lv_iconst (v := 1) hx hb dL_put_12 (by decide) ?_
    obtain ⟨e8, e9⟩ := Prod.mk.inj (sm hf)
    exact vx_ret (W.zret hx hb hr rfl (fun t ht hW => ⟨⟨_, (), rfl, e8, by rw [← e9, ht]; exact hP, by rw [← e9]; exact hD⟩, hS.F ht⟩) hS.2.2 dL_put_13)
  · refine jx_i (w1 := wX7 dA oa S1 ln) (vx_runV (As := [.int p1]) (rest := []) ⟨hx, hb, hml, hown, hts⟩ (mt_X7_feed l hl0 dC dI dA gz oa s.heap.size ln S p1 (.inr E0) S1 hq) (cwV 1 hts (gi_v bg wd_879 wd_880 wd_881 wd_1 wd_882) rfl rfl rfl hd_X7_feed ⟨Nat.le_of_ble_eq_true rfl, Nat.le_of_ble_eq_true rfl⟩) ⟨pP_blind, va_recv (ci := 11) (q0 := 0) hK hP rfl rfl, pP_preW hP hD hS hA hK hN hZ⟩ rfl rfl hl.1 rfl (lv_room (Nat.le_of_ble_eq_true rfl)) dL_put_2 ⟨Nat.le_of_ble_eq_true rfl, Nat.le_of_ble_eq_true rfl⟩) hD hS hA (fun E ce q9 H locs h9 hP hD hS h1 h2 h3 => ?_) (fun r9 H locs h9 _ _ _ => nomatch h9)
    cases h9
    by_cases c0 : E0 = "java/lang/IllegalStateException"
    · have hf := it c0 hf
      subst c0
      refine vx_catch hown ((tableOf [(0, 6, 9, 86)]).take 0) ((tableOf [(0, 6, 9, 86)]).get ⟨0, by decide⟩) ((tableOf [(0, 6, 9, 86)]).drop 1) hTab (fun z hz => by cases hz) (by decide) (by decide) (hts _ (bg _ wd_834)) (va_Nw.use rfl (hN _ ng_18)) h1 h2 h3 ?_
      refine W.eq (g2 := F0 m 9 ls [.ref q9]) rfl ?_
      refine lv_astore_n (lv' := [(2, .ref q9), (0, .ref (oa 0)), (1, .int p1)]) hx hb dL_put_9 rfl hl (by decide) rfl (fun ls hl => ?_)
      refine lv_iconst (v := 0) hx hb dL_put_10 (by decide) ?_
      obtain ⟨e8, e9⟩ := Prod.mk.inj (sm hf)
      exact vx_ret (W.zret hx hb hr rfl (fun t ht hW => ⟨⟨_, (), rfl, e8, by rw [← e9, ht]; exact hP, by rw [← e9]; exact hD⟩, hS.F ht⟩) hS.2.2 dL_put_11)
    · have hf := ie c0 hf
      cases hf
def f_L_meanFirmness (S : SX7)  : Option (UInt64 × SX7) := (g_X7_meanFirmness S ).bind fun q => match q with
  | (.inl r, S1) => some (r, S1)
  | (.inr E0, S1) => if E0 = "java/lang/ArithmeticException" then some (13890095209322119168, S1) else none
set_option maxRecDepth 100000 in
set_option maxHeartbeats 4000000 in
theorem m_L_meanFirmness (l : Launch) (hl0 : l.stackTraces = false) (dC : Nat → ClassId) (dI : Nat → Nat → Nat) (dA gz : Nat → Nat) (oa : Nat → Nat) (sz : Nat) (ln : LN) (S : SX7)  (rr : UInt64) (uu : SX7) (hf : f_L_meanFirmness S  = some (rr, uu)) : vx_Met l yL_meanFirmness ws_L_meanFirmness ({ frames := 26, cells := 1, slots := 6, locals := 1000 } : Room) (va_Pc [.ref (oa 0)] (pL (dC, dI) dA gz (wX7 dA oa S ln) sz)) (va_Qd (S := Unit) (fun r' _ => r' = rr) (fun _ t => pQ (dC, dI) (va_A (wX7 dA oa S ln) sz) (wX7 dA oa uu ln) t) (va_A (wX7 dA oa S ln) sz)) noX 1 6 (va_A (wX7 dA oa S ln) sz) := by
  refine vx_ofWH (cc := cL_meanFirmness) (maxL := 4) (ret := (some .double)) (hh := [(4, 9, 12, 67)]) (by decide) rfl ?_
  intro p e s m args below meth c s₁ B hml hv
  obtain ⟨rfl, ⟨hsz, hP, hK, hD0, hN, hZ⟩, hC⟩ := hv
  have hx := B.exec
  have hb := B.bytes
  have hr := B.returns
  have hts := atoms_spec (ws := ws_L_meanFirmness) B.pre
  have hown : s.vm.findClass RL = some m.cls := findClass_of_methodNamed B.named
  have hlocks := B.notSynchronized
  subst hsz
  have hTab := vx_table (x := yL_meanFirmness) B (hts _ List.mem_cons_self)
  have hD := hD0.self (sz := s.heap.size)
  generalize hAe : va_A (wX7 dA oa S ln) s.heap.size = A at hD hZ ⊢
  have hA : ∀ q : Nat, s.heap.size ≤ q → A q := fun q h => by rw [← hAe]; exact Or.inr h
  have hS : va_S A s.heap s.heap [] := va_S.rf
  have hl := lv_entry [.ref (oa 0)] (n := 4) (Nat.le_of_ble_eq_true rfl)
  rw [lg_entry_eq]
  generalize (lg_sl [.ref (oa 0)] ++ List.replicate (4 - (lg_sl [.ref (oa 0)]).length) Slot.unset).toArray = ls at hl ⊢
  have hl : lv_has ls 4 [(0, .ref (oa 0))] := hl
  rw [f_L_meanFirmness] at hf
  refine lv_ldc2d hx hb (v := 13890095209322119168) hown (hts _ (bg _ wd_1389)) dL_meanFirmness_0 ?_
  refine lv_dstore_n (lv' := [(1, .double 13890095209322119168), (0, .ref (oa 0))]) hx hb dL_meanFirmness_3 rfl hl (by decide) rfl (fun ls hl => ?_)
  refine lv_aload_n hx hb dL_meanFirmness_4 rfl (lv_at hl 1 rfl) ?_
  obtain ⟨⟨r0, S1⟩, hq, hf⟩ := bd hf
  rcases r0 with r | E0
  · refine jx_d (w1 := wX7 dA oa S1 ln) (vx_runV (As := []) (rest := []) ⟨hx, hb, hml, hown, hts⟩ (mt_X7_meanFirmness l hl0 dC dI dA gz oa s.heap.size ln S  (.inl r) S1 hq) (cwV 0 hts (gi_v bg wd_1390 wd_1391 wd_1392 wd_1 wd_1393) rfl rfl rfl hd_X7_meanFirmness ⟨Nat.le_of_ble_eq_true rfl, Nat.le_of_ble_eq_true rfl⟩) ⟨pP_blind, va_recv (ci := 11) (q0 := 0) hK hP rfl rfl, pP_preW hP hD hS hA hK hN hZ⟩ rfl rfl hl.1 rfl (lv_room (Nat.le_of_ble_eq_true rfl)) dL_meanFirmness_5 ⟨Nat.le_of_ble_eq_true rfl, Nat.le_of_ble_eq_true rfl⟩) hD hS hA (fun E ce q9 H locs h9 _ _ _ _ _ _ => nomatch h9) (fun r9 H locs h9 hP hD hS => ?_)
    cases h9
    refine lv_dstore_n (lv' := [(1, .double r), (0, .ref (oa 0))]) hx hb dL_meanFirmness_8 rfl hl (by decide) rfl (fun ls hl => ?_)
    refine lv_goto (tgt := 17) hx hb dL_meanFirmness_9 (by decide) ?_
    refine lv_dload_n hx hb dL_meanFirmness_17 rfl (lv_at hl 0 rfl) ?_
    obtain ⟨e8, e9⟩ := Prod.mk.inj (sm hf)
    exact vx_ret (W.dret hx hb hr (fun t ht hW => ⟨⟨_, (), rfl, e8, by rw [← e9, ht]; exact hP, by rw [← e9]; exact hD⟩, hS.F ht⟩) hS.2.2 dL_meanFirmness_18)
  · refine jx_d (w1 := wX7 dA oa S1 ln) (vx_runV (As := []) (rest := []) ⟨hx, hb, hml, hown, hts⟩ (mt_X7_meanFirmness l hl0 dC dI dA gz oa s.heap.size ln S  (.inr E0) S1 hq) (cwV 0 hts (gi_v bg wd_1390 wd_1391 wd_1392 wd_1 wd_1393) rfl rfl rfl hd_X7_meanFirmness ⟨Nat.le_of_ble_eq_true rfl, Nat.le_of_ble_eq_true rfl⟩) ⟨pP_blind, va_recv (ci := 11) (q0 := 0) hK hP rfl rfl, pP_preW hP hD hS hA hK hN hZ⟩ rfl rfl hl.1 rfl (lv_room (Nat.le_of_ble_eq_true rfl)) dL_meanFirmness_5 ⟨Nat.le_of_ble_eq_true rfl, Nat.le_of_ble_eq_true rfl⟩) hD hS hA (fun E ce q9 H locs h9 hP hD hS h1 h2 h3 => ?_) (fun r9 H locs h9 _ _ _ => nomatch h9)
    cases h9
    by_cases c0 : E0 = "java/lang/ArithmeticException"
    · have hf := it c0 hf
      subst c0
      refine vx_catch hown ((tableOf [(4, 9, 12, 67)]).take 0) ((tableOf [(4, 9, 12, 67)]).get ⟨0, by decide⟩) ((tableOf [(4, 9, 12, 67)]).drop 1) hTab (fun z hz => by cases hz) (by decide) (by decide) (hts _ (bg _ wd_1375)) (va_Nw.use rfl (hN _ ng_24)) h1 h2 h3 ?_
      refine W.eq (g2 := F0 m 12 ls [.ref q9]) rfl ?_
      refine lv_astore_n (lv' := [(3, .ref q9), (1, .double 13890095209322119168), (0, .ref (oa 0))]) hx hb dL_meanFirmness_12 rfl hl (by decide) rfl (fun ls hl => ?_)
      refine lv_ldc2d hx hb (v := 13890095209322119168) hown (hts _ (bg _ wd_1389)) dL_meanFirmness_13 ?_
      obtain ⟨e8, e9⟩ := Prod.mk.inj (sm hf)
      exact vx_ret (W.dret hx hb hr (fun t ht hW => ⟨⟨_, (), rfl, e8, by rw [← e9, ht]; exact hP, by rw [← e9]; exact hD⟩, hS.F ht⟩) hS.2.2 dL_meanFirmness_16)
    · have hf := ie c0 hf
      cases hf
def f_L_coolShare (S : SX7)  : Option (UInt32 × SX7) := (g_X7_coolShare S ).bind fun q => match q with
  | (.inl r, S1) => some (r, S1)
  | (.inr E0, S1) => if E0 = "java/lang/ArithmeticException" then some (3212836864, S1) else none
set_option maxRecDepth 100000 in
set_option maxHeartbeats 4000000 in
theorem m_L_coolShare (l : Launch) (hl0 : l.stackTraces = false) (dC : Nat → ClassId) (dI : Nat → Nat → Nat) (dA gz : Nat → Nat) (oa : Nat → Nat) (sz : Nat) (ln : LN) (S : SX7)  (rr : UInt32) (uu : SX7) (hf : f_L_coolShare S  = some (rr, uu)) : vx_Met l yL_coolShare ws_L_coolShare ({ frames := 26, cells := 1, slots := 6, locals := 1000 } : Room) (va_Pc [.ref (oa 0)] (pL (dC, dI) dA gz (wX7 dA oa S ln) sz)) (va_Qf (S := Unit) (fun r' _ => r' = rr) (fun _ t => pQ (dC, dI) (va_A (wX7 dA oa S ln) sz) (wX7 dA oa uu ln) t) (va_A (wX7 dA oa S ln) sz)) noX 1 6 (va_A (wX7 dA oa S ln) sz) := by
  refine vx_ofWH (cc := cL_coolShare) (maxL := 3) (ret := (some .float)) (hh := [(3, 8, 11, 67)]) (by decide) rfl ?_
  intro p e s m args below meth c s₁ B hml hv
  obtain ⟨rfl, ⟨hsz, hP, hK, hD0, hN, hZ⟩, hC⟩ := hv
  have hx := B.exec
  have hb := B.bytes
  have hr := B.returns
  have hts := atoms_spec (ws := ws_L_coolShare) B.pre
  have hown : s.vm.findClass RL = some m.cls := findClass_of_methodNamed B.named
  have hlocks := B.notSynchronized
  subst hsz
  have hTab := vx_table (x := yL_coolShare) B (hts _ List.mem_cons_self)
  have hD := hD0.self (sz := s.heap.size)
  generalize hAe : va_A (wX7 dA oa S ln) s.heap.size = A at hD hZ ⊢
  have hA : ∀ q : Nat, s.heap.size ≤ q → A q := fun q h => by rw [← hAe]; exact Or.inr h
  have hS : va_S A s.heap s.heap [] := va_S.rf
  have hl := lv_entry [.ref (oa 0)] (n := 3) (Nat.le_of_ble_eq_true rfl)
  rw [lg_entry_eq]
  generalize (lg_sl [.ref (oa 0)] ++ List.replicate (3 - (lg_sl [.ref (oa 0)]).length) Slot.unset).toArray = ls at hl ⊢
  have hl : lv_has ls 3 [(0, .ref (oa 0))] := hl
  rw [f_L_coolShare] at hf
  refine lv_ldcf hx hb (v := 3212836864) hown (hts _ (bg _ wd_1404)) dL_coolShare_0 ?_
  refine lv_fstore_n (lv' := [(1, .float 3212836864), (0, .ref (oa 0))]) hx hb dL_coolShare_2 rfl hl (by decide) rfl (fun ls hl => ?_)
  refine lv_aload_n hx hb dL_coolShare_3 rfl (lv_at hl 1 rfl) ?_
  obtain ⟨⟨r0, S1⟩, hq, hf⟩ := bd hf
  rcases r0 with r | E0
  · refine jx_f (w1 := wX7 dA oa S1 ln) (vx_runV (As := []) (rest := []) ⟨hx, hb, hml, hown, hts⟩ (mt_X7_coolShare l hl0 dC dI dA gz oa s.heap.size ln S  (.inl r) S1 hq) (cwV 0 hts (gi_v bg wd_1405 wd_1406 wd_1407 wd_1 wd_1408) rfl rfl rfl hd_X7_coolShare ⟨Nat.le_of_ble_eq_true rfl, Nat.le_of_ble_eq_true rfl⟩) ⟨pP_blind, va_recv (ci := 11) (q0 := 0) hK hP rfl rfl, pP_preW hP hD hS hA hK hN hZ⟩ rfl rfl hl.1 rfl (lv_room (Nat.le_of_ble_eq_true rfl)) dL_coolShare_4 ⟨Nat.le_of_ble_eq_true rfl, Nat.le_of_ble_eq_true rfl⟩) hD hS hA (fun E ce q9 H locs h9 _ _ _ _ _ _ => nomatch h9) (fun r9 H locs h9 hP hD hS => ?_)
    cases h9
    refine lv_fstore_n (lv' := [(1, .float r), (0, .ref (oa 0))]) hx hb dL_coolShare_7 rfl hl (by decide) rfl (fun ls hl => ?_)
    refine lv_goto (tgt := 15) hx hb dL_coolShare_8 (by decide) ?_
    refine lv_fload_n hx hb dL_coolShare_15 rfl (lv_at hl 0 rfl) ?_
    obtain ⟨e8, e9⟩ := Prod.mk.inj (sm hf)
    exact vx_ret (W.fret hx hb hr (fun t ht hW => ⟨⟨_, (), rfl, e8, by rw [← e9, ht]; exact hP, by rw [← e9]; exact hD⟩, hS.F ht⟩) hS.2.2 dL_coolShare_16)
  · refine jx_f (w1 := wX7 dA oa S1 ln) (vx_runV (As := []) (rest := []) ⟨hx, hb, hml, hown, hts⟩ (mt_X7_coolShare l hl0 dC dI dA gz oa s.heap.size ln S  (.inr E0) S1 hq) (cwV 0 hts (gi_v bg wd_1405 wd_1406 wd_1407 wd_1 wd_1408) rfl rfl rfl hd_X7_coolShare ⟨Nat.le_of_ble_eq_true rfl, Nat.le_of_ble_eq_true rfl⟩) ⟨pP_blind, va_recv (ci := 11) (q0 := 0) hK hP rfl rfl, pP_preW hP hD hS hA hK hN hZ⟩ rfl rfl hl.1 rfl (lv_room (Nat.le_of_ble_eq_true rfl)) dL_coolShare_4 ⟨Nat.le_of_ble_eq_true rfl, Nat.le_of_ble_eq_true rfl⟩) hD hS hA (fun E ce q9 H locs h9 hP hD hS h1 h2 h3 => ?_) (fun r9 H locs h9 _ _ _ => nomatch h9)
    cases h9
    by_cases c0 : E0 = "java/lang/ArithmeticException"
    · have hf := it c0 hf
      subst c0
      refine vx_catch hown ((tableOf [(3, 8, 11, 67)]).take 0) ((tableOf [(3, 8, 11, 67)]).get ⟨0, by decide⟩) ((tableOf [(3, 8, 11, 67)]).drop 1) hTab (fun z hz => by cases hz) (by decide) (by decide) (hts _ (bg _ wd_1375)) (va_Nw.use rfl (hN _ ng_24)) h1 h2 h3 ?_
      refine W.eq (g2 := F0 m 11 ls [.ref q9]) rfl ?_
      refine lv_astore_n (lv' := [(2, .ref q9), (1, .float 3212836864), (0, .ref (oa 0))]) hx hb dL_coolShare_11 rfl hl (by decide) rfl (fun ls hl => ?_)
      refine lv_ldcf hx hb (v := 3212836864) hown (hts _ (bg _ wd_1404)) dL_coolShare_12 ?_
      obtain ⟨e8, e9⟩ := Prod.mk.inj (sm hf)
      exact vx_ret (W.fret hx hb hr (fun t ht hW => ⟨⟨_, (), rfl, e8, by rw [← e9, ht]; exact hP, by rw [← e9]; exact hD⟩, hS.F ht⟩) hS.2.2 dL_coolShare_14)
    · have hf := ie c0 hf
      cases hf
