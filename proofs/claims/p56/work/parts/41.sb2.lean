def f_J6_stringSize_0f7a4_16 (p0 : Int32) : Nat → Int32 → Int32 → Int32 → Int32 →  Option (Int32)
  | 0, _, _, _, _ => none
  | n + 1, x0, x1, x2, x3 =>
  (if 10 ≤ x3 then some (10 + x1) else
  (if x0 ≤ x2 then f_J6_stringSize_0f7a4_16 p0 n x0 x1 (10 * x2) (x3 + 1) else
  some (x3 + x1)))
def f_J6_stringSize_0f7a4 (p0 : Int32) : Option (Int32) :=
  (if p0 < 0 then f_J6_stringSize_0f7a4_16 p0 300 p0 1 (-10) 1 else
  f_J6_stringSize_0f7a4_16 p0 300 (-p0) 0 (-10) 1)
set_option maxRecDepth 100000 in
set_option maxHeartbeats 4000000 in
theorem m_J6_stringSize_0f7a4 (l : Launch) (dC : Nat → ClassId) (dI : Nat → Nat → Nat) (dA gz : Nat → Nat)  (sz : Nat) (p0 : Int32) (rr : Int32) (hf : f_J6_stringSize_0f7a4 p0 = some rr) : Met l yJ6_stringSize_0f7a4 ws_J6_stringSize_0f7a4 ({ frames := 10, cells := 0, slots := 0, locals := 200 } : Room) (va_Pc [.int p0] (pP (dC, dI) dA gz ([]) sz)) (va_Qi (S := Unit) (fun r' _ => r' = rr) (fun _ t => pQ (dC, dI) (va_A ([]) sz) ([]) t) (va_A ([]) sz)) 0 0 (va_A ([]) sz) := by
  refine Met.ofW (cc := cJ6_stringSize_0f7a4) (maxL := 4) (ret := (some .int)) (by decide) rfl ?_
  intro p e s m args below meth c s₁ B hml hv
  obtain ⟨rfl, hsz, hP, hK, hD0, hN, hZ⟩ := hv
  have hx := B.exec
  have hb := B.bytes
  have hr := B.returns
  have hts := atoms_spec (ws := ws_J6_stringSize_0f7a4) B.pre
  have hown : s.vm.findClass RJ6 = some m.cls := findClass_of_methodNamed B.named
  have hlocks := B.notSynchronized
  subst hsz
  have hD := hD0.self (sz := s.heap.size)
  generalize hAe : va_A ([]) s.heap.size = A at hD hZ ⊢
  have hA : ∀ q : Nat, s.heap.size ≤ q → A q := fun q h => by rw [← hAe]; exact Or.inr h
  have hS : va_S A s.heap s.heap [] := va_S.rf
  have hP : va_P (dC, dI) vwCl [] s.heap := hP
  have hD : va_D A [] := hD
  have hl := lv_entry [.int p0] (n := 4) (Nat.le_of_ble_eq_true rfl)
  rw [lg_entry_eq]
  generalize (lg_sl [.int p0] ++ List.replicate (4 - (lg_sl [.int p0]).length) Slot.unset).toArray = ls at hl ⊢
  have hl : lv_has ls 4 [(0, .int p0)] := hl
  have cut16 : ∀ (n : Nat) (x0 : Int32) (x1 : Int32) (x2 : Int32) (x3 : Int32) (H : Heap) (locs : List Loc) (ls : Array Slot), f_J6_stringSize_0f7a4_16 p0 n x0 x1 x2 x3 = some rr → va_P (dC, dI) vwCl [] H → va_D A [] → va_S A s.heap H locs → lv_has ls 4 [(0, .int x0), (1, .int x1), (2, .int x2), (3, .int x3)] → W p l e (headSpec ws_J6_stringSize_0f7a4 ({ frames := 10, cells := 0, slots := 0, locals := 200 } : Room)).room s m ([.int p0] : List Value).toArray below meth c H locs 0 0 (MQ below (va_Qi (S := Unit) (fun r' _ => r' = rr) (fun _ t => pQ (dC, dI) A ([]) t) A) ([.int p0] : List Value).toArray s 0 0 A) (F0 m 16 ls []) := by
    intro n
    induction n with
    | zero =>
      intro x0 x1 x2 x3 H locs ls hf
      rw [f_J6_stringSize_0f7a4_16] at hf
      cases hf
    | succ n ih =>
      intro x0 x1 x2 x3 H locs ls hf hP hD hS hl
      rw [f_J6_stringSize_0f7a4_16] at hf
      refine lv_iload_n hx hb dJ6_stringSize_0f7a4_16 rfl (lv_at hl 3 rfl) ?_
      refine lv_bipush (v := 10) hx hb dJ6_stringSize_0f7a4_17 (by decide) ?_
      refine lv_icmp_ge (tgt := 42) hx hb dJ6_stringSize_0f7a4_19 (by decide) (fun q1 => ?_) (fun q1 => ?_)
      · have hf := it q1 hf
        refine lv_bipush (v := 10) hx hb dJ6_stringSize_0f7a4_42 (by decide) ?_
        refine lv_iload_n hx hb dJ6_stringSize_0f7a4_44 rfl (lv_at hl 1 rfl) ?_
        refine lv_iadd hx hb dJ6_stringSize_0f7a4_45 ?_
        exact W.iret hx hb hr (fun t ht hW => ⟨⟨_, (), rfl, sm hf, by rw [ht]; exact hP, hD⟩, hS.F ht⟩) hS.2.2 dJ6_stringSize_0f7a4_46
      · have hf := ie q1 hf
        refine lv_iload_n hx hb dJ6_stringSize_0f7a4_22 rfl (lv_at hl 0 rfl) ?_
        refine lv_iload_n hx hb dJ6_stringSize_0f7a4_23 rfl (lv_at hl 2 rfl) ?_
        refine lv_icmp_le (tgt := 31) hx hb dJ6_stringSize_0f7a4_24 (by decide) (fun q2 => ?_) (fun q2 => ?_)
        · have hf := it q2 hf
          refine lv_bipush (v := 10) hx hb dJ6_stringSize_0f7a4_31 (by decide) ?_
          refine lv_iload_n hx hb dJ6_stringSize_0f7a4_33 rfl (lv_at hl 2 rfl) ?_
          refine lv_imul hx hb dJ6_stringSize_0f7a4_34 ?_
          refine lv_istore_n (lv' := [(2, .int (10 * x2)), (0, .int x0), (1, .int x1), (3, .int x3)]) hx hb dJ6_stringSize_0f7a4_35 rfl hl (by decide) rfl (fun ls hl => ?_)
          refine lv_iinc (v := (x3 + 1)) (lv' := [(3, .int (x3 + 1)), (2, .int (10 * x2)), (0, .int x0), (1, .int x1)]) hx hb dJ6_stringSize_0f7a4_36 hl (k := 3) rfl rfl (by decide) rfl (fun ls hl => ?_)
          refine lv_goto (tgt := 16) hx hb dJ6_stringSize_0f7a4_39 (by decide) ?_
          exact ih x0 x1 (10 * x2) (x3 + 1) _ _ _ hf hP hD hS (lv_sub hl [2, 3, 1, 0] rfl)
        · have hf := ie q2 hf
          refine lv_iload_n hx hb dJ6_stringSize_0f7a4_27 rfl (lv_at hl 3 rfl) ?_
          refine lv_iload_n hx hb dJ6_stringSize_0f7a4_28 rfl (lv_at hl 1 rfl) ?_
          refine lv_iadd hx hb dJ6_stringSize_0f7a4_29 ?_
          exact W.iret hx hb hr (fun t ht hW => ⟨⟨_, (), rfl, sm hf, by rw [ht]; exact hP, hD⟩, hS.F ht⟩) hS.2.2 dJ6_stringSize_0f7a4_30
  rw [f_J6_stringSize_0f7a4] at hf
  refine lv_iconst (v := 1) hx hb dJ6_stringSize_0f7a4_0 (by decide) ?_
  refine lv_istore_n (lv' := [(1, .int 1), (0, .int p0)]) hx hb dJ6_stringSize_0f7a4_1 rfl hl (by decide) rfl (fun ls hl => ?_)
  refine lv_iload_n hx hb dJ6_stringSize_0f7a4_2 rfl (lv_at hl 1 rfl) ?_
  refine lv_if_lt (tgt := 11) hx hb dJ6_stringSize_0f7a4_3 (by decide) (fun q3 => ?_) (fun q3 => ?_)
  · have hf := it q3 hf
    refine lv_bipush (v := (-10)) hx hb dJ6_stringSize_0f7a4_11 (by decide) ?_
    refine lv_istore_n (lv' := [(2, .int (-10)), (1, .int 1), (0, .int p0)]) hx hb dJ6_stringSize_0f7a4_13 rfl hl (by decide) rfl (fun ls hl => ?_)
    refine lv_iconst (v := 1) hx hb dJ6_stringSize_0f7a4_14 (by decide) ?_
    refine lv_istore_n (lv' := [(3, .int 1), (2, .int (-10)), (1, .int 1), (0, .int p0)]) hx hb dJ6_stringSize_0f7a4_15 rfl hl (by decide) rfl (fun ls hl => ?_)
    exact cut16 300 p0 1 (-10) 1 _ _ _ hf hP hD hS (lv_sub hl [3, 2, 1, 0] rfl)
  · have hf := ie q3 hf
    refine lv_iconst (v := 0) hx hb dJ6_stringSize_0f7a4_6 (by decide) ?_
    refine lv_istore_n (lv' := [(1, .int 0), (0, .int p0)]) hx hb dJ6_stringSize_0f7a4_7 rfl hl (by decide) rfl (fun ls hl => ?_)
    refine lv_iload_n hx hb dJ6_stringSize_0f7a4_8 rfl (lv_at hl 1 rfl) ?_
    refine lv_ineg hx hb dJ6_stringSize_0f7a4_9 ?_
    refine lv_istore_n (lv' := [(0, .int (-p0)), (1, .int 0)]) hx hb dJ6_stringSize_0f7a4_10 rfl hl (by decide) rfl (fun ls hl => ?_)
    refine lv_bipush (v := (-10)) hx hb dJ6_stringSize_0f7a4_11 (by decide) ?_
    refine lv_istore_n (lv' := [(2, .int (-10)), (0, .int (-p0)), (1, .int 0)]) hx hb dJ6_stringSize_0f7a4_13 rfl hl (by decide) rfl (fun ls hl => ?_)
    refine lv_iconst (v := 1) hx hb dJ6_stringSize_0f7a4_14 (by decide) ?_
    refine lv_istore_n (lv' := [(3, .int 1), (2, .int (-10)), (0, .int (-p0)), (1, .int 0)]) hx hb dJ6_stringSize_0f7a4_15 rfl hl (by decide) rfl (fun ls hl => ?_)
    exact cut16 300 (-p0) 0 (-10) 1 _ _ _ hf hP hD hS (lv_sub hl [2, 3, 1, 0] rfl)
theorem ss_ok (v : Nat) (h : v < 1000) : f_J6_stringSize_0f7a4 (nI v) = some (nI (sb_dg v)) := (show ∀ v, v < 1000 → f_J6_stringSize_0f7a4 (nI v) = some (nI (sb_dg v)) by decide +kernel) v h
set_option maxRecDepth 100000 in
set_option maxHeartbeats 4000000 in
theorem m_J6_getChars_ba4f3 (l : Launch) (dC : Nat → ClassId) (dI : Nat → Nat → Nat) (dA gz : Nat → Nat) (sz : Nat) (ob b : Nat) (ml : Int32) (n q : Nat) (f : Ar) (v pp : Nat) (hv : v < 1000) (hp9 : sb_dg v ≤ pp) (hpq : pp ≤ q) (hq : q ≤ 65536) (hf : sb_Fit f) : Met l yJ6_getChars_ba4f3 ws_J6_getChars_ba4f3 ({ frames := 10, cells := 0, slots := 0, locals := 200 } : Room) (va_Pc [.int (nI v), .int (nI pp), .ref b] (pP (dC, dI) dA gz (wL dA ob b ml n q f) sz)) (va_Qi (S := Ar) (fun _ f2 => sb_Fit f2) (fun f2 t => pQ (dC, dI) (va_A (wL dA ob b ml n q f) sz) (wL dA ob b ml n q f2) t) (va_A (wL dA ob b ml n q f) sz)) 0 0 (va_A (wL dA ob b ml n q f) sz) := by
  refine Met.ofW (cc := cJ6_getChars_ba4f3) (maxL := 7) (ret := (some .int)) (by decide) rfl ?_
  intro p e s m args below meth c s₁ B hml hv
  obtain ⟨rfl, hsz, hP, hK, hD0, hN, hZ⟩ := hv
  have hx := B.exec
  have hb := B.bytes
  have hr := B.returns
  have hts := atoms_spec (ws := ws_J6_getChars_ba4f3) B.pre
  have hown : s.vm.findClass RJ6 = some m.cls := findClass_of_methodNamed B.named
  have hlocks := B.notSynchronized
  subst hsz
  have hD := hD0.self (sz := s.heap.size)
  generalize hAe : va_A (wL dA ob b ml n q f) s.heap.size = A at hD hZ ⊢
  have hA : ∀ z : Nat, s.heap.size ≤ z → A z := fun z h => by rw [← hAe]; exact Or.inr h
  have hS : va_S A s.heap s.heap [] := va_S.rf
  have hl := lv_entry [.int (nI v), .int (nI pp), .ref b] (n := 7) (Nat.le_of_ble_eq_true rfl)
  rw [lg_entry_eq]
  generalize (lg_sl [.int (nI v), .int (nI pp), .ref b] ++ List.replicate (7 - (lg_sl [.int (nI v), .int (nI pp), .ref b]).length) Slot.unset).toArray = ls at hl ⊢
  have hl : lv_has ls 7 [(0, .int (nI v)), (1, .int (nI pp)), (2, .ref b)] := hl
  have in_J4 : ∀ w ∈ wsJ40, w ∈ ws_J6_getChars_ba4f3 := fun w h => bg _ (inB_J4 w h)
  have fitN : ∀ x : Int32, fits .byte (.int (vp_nar .byte x)) = true := fun x => by rw [vp_nar_byte]; exact pk_fb _
  have cut72 : ∀ (w p2 : Nat) (f2 : Ar) (H : Heap) (locs : List Loc) (ls : Array Slot), w < 100 → sb_dg w ≤ p2 → p2 ≤ q → sb_Fit f2 → va_P (dC, dI) vwCl (wL dA ob b ml n q f2) H → va_D A (wL dA ob b ml n q f2) → va_S A s.heap H locs → lv_has ls 7 [(0, .int (-nI w)), (2, .ref b), (5, .int (nI p2)), (6, .int 0)] → W p l e (headSpec ws_J6_getChars_ba4f3 ({ frames := 10, cells := 0, slots := 0, locals := 200 } : Room)).room s m ([.int (nI v), .int (nI pp), .ref b] : List Value).toArray below meth c H locs 0 0 (MQ below (va_Qi (S := Ar) (fun _ f2 => sb_Fit f2) (fun f2 t => pQ (dC, dI) A (wL dA ob b ml n q f2) t) A) ([.int (nI v), .int (nI pp), .ref b] : List Value).toArray s 0 0 A) (F0 m 72 ls []) := by
    intro w p2 f2 H locs ls hw hp2 hp3 hf2 hP hD hS hl
    have hd9 : (w < 10 → sb_dg w = 1) ∧ (10 ≤ w → sb_dg w = 2) := ⟨fun h => by simp [sb_dg, h], fun h => by simp [sb_dg, hw]; omega⟩
    have hw1 : 1 ≤ sb_dg w := (sb_dg_in w).1
    refine lv_aload_n hx hb dJ6_getChars_ba4f3_72 rfl (lv_at hl 1 rfl) ?_
    refine lv_iinc (v := nI (p2 - 1)) (lv' := [(5, .int (nI (p2 - 1))), (0, .int (-nI w)), (2, .ref b), (6, .int 0)]) hx hb dJ6_getChars_ba4f3_73 hl (k := 2) rfl (sb_m1 (by omega)) (by decide) rfl (fun ls hl => ?_)
    refine lv_iload hx hb dJ6_getChars_ba4f3_76 (lv_at hl 0 rfl) ?_
    refine va_gets hx hb hZ.2.2.1.1 hS hown (hts _ (bg _ wd_1251)) (fun _ h9 => h9) dJ6_getChars_ba4f3_78 ?_
    refine lv_iload_n hx hb dJ6_getChars_ba4f3_81 rfl (lv_at hl 1 rfl) ?_
    refine lv_ineg hx hb dJ6_getChars_ba4f3_82 ?_
    rw [Int32.neg_neg]
    refine va_tb (v := .int (dgO w)) hx hb hZ.2.2.1.2 hS (vp_in_nI hw (by decide)) (by rw [nI_clamp (by omega)]) dJ6_getChars_ba4f3_83 ?_
    refine va_bast hx hb hK hP hD hS 1 2 rfl rfl (show vp_in (nI (p2 - 1)) q from vp_in_nI (by omega) (by omega)) dJ6_getChars_ba4f3_84 (fun H locs hP hD hS => ?_)
    refine lv_iload_n hx hb dJ6_getChars_ba4f3_85 rfl (lv_at hl 1 rfl) ?_
    refine lv_bipush (v := (-9)) hx hb dJ6_getChars_ba4f3_86 (by decide) ?_
    refine lv_icmp_ge (tgt := 104) hx hb dJ6_getChars_ba4f3_88 (by decide) (fun z9 => ?_) (fun z9 => ?_)
    · have hf3 : sb_Fit (upd f2 (nI (p2 - 1)).toNatClampNeg (vp_nar .byte (dgO w))) := sb_fitU hf2 (fitN _)
      refine lv_iload hx hb dJ6_getChars_ba4f3_104 (lv_at hl 3 rfl) ?_
      refine lv_if_eq (tgt := 118) hx hb dJ6_getChars_ba4f3_106 (by decide) (fun z9 => ?_) (fun z9 => absurd rfl z9)
      refine lv_iload hx hb dJ6_getChars_ba4f3_118 (lv_at hl 0 rfl) ?_
      exact W.iret hx hb hr (fun t ht hW => ⟨⟨_, _, rfl, hf3, by rw [ht]; exact hP, hD⟩, hS.F ht⟩) hS.2.2 dJ6_getChars_ba4f3_120
    · have hw10 : 10 ≤ w := by
        have h7 : ¬ (-nI 9) ≤ -nI w := z9
        have h8 : ¬ w ≤ 9 := fun h6 => h7 ((sb_nle (a := 9) (b := w) (by decide) (by omega)).mpr h6)
        omega
      have hd2 := hd9.2 hw10
      refine lv_aload_n hx hb dJ6_getChars_ba4f3_91 rfl (lv_at hl 2 rfl) ?_
      refine lv_iinc (v := nI (p2 - 1 - 1)) (lv' := [(5, .int (nI (p2 - 1 - 1))), (0, .int (-nI w)), (2, .ref b), (6, .int 0)]) hx hb dJ6_getChars_ba4f3_92 hl (k := 0) rfl (sb_m1 (by omega)) (by decide) rfl (fun ls hl => ?_)
      refine lv_iload hx hb dJ6_getChars_ba4f3_95 (lv_at hl 0 rfl) ?_
      refine va_gets hx hb hZ.2.2.2.1.1 hS hown (hts _ (bg _ wd_1253)) (fun _ h9 => h9) dJ6_getChars_ba4f3_97 ?_
      refine lv_iload_n hx hb dJ6_getChars_ba4f3_100 rfl (lv_at hl 1 rfl) ?_
      refine lv_ineg hx hb dJ6_getChars_ba4f3_101 ?_
      rw [Int32.neg_neg]
      refine va_tb (v := .int (dgT w)) hx hb hZ.2.2.2.1.2 hS (vp_in_nI hw (by decide)) (by rw [nI_clamp (by omega)]) dJ6_getChars_ba4f3_102 ?_
      refine va_bast hx hb hK hP hD hS 1 2 rfl rfl (show vp_in (nI (p2 - 1 - 1)) q from vp_in_nI (by omega) (by omega)) dJ6_getChars_ba4f3_103 (fun H locs hP hD hS => ?_)
      have hf3 : sb_Fit (upd (upd f2 (nI (p2 - 1)).toNatClampNeg (vp_nar .byte (dgO w))) (nI (p2 - 1 - 1)).toNatClampNeg (vp_nar .byte (dgT w))) := sb_fitU (sb_fitU hf2 (fitN _)) (fitN _)
      refine lv_iload hx hb dJ6_getChars_ba4f3_104 (lv_at hl 3 rfl) ?_
      refine lv_if_eq (tgt := 118) hx hb dJ6_getChars_ba4f3_106 (by decide) (fun z9 => ?_) (fun z9 => absurd rfl z9)
      refine lv_iload hx hb dJ6_getChars_ba4f3_118 (lv_at hl 0 rfl) ?_
      exact W.iret hx hb hr (fun t ht hW => ⟨⟨_, _, rfl, hf3, by rw [ht]; exact hP, hD⟩, hS.F ht⟩) hS.2.2 dJ6_getChars_ba4f3_120
  have hv1 := (sb_dg_in v).1
  refine lv_iload_n hx hb dJ6_getChars_ba4f3_0 rfl (lv_at hl 1 rfl) ?_
  refine lv_istore (lv' := [(5, .int (nI pp)), (0, .int (nI v)), (1, .int (nI pp)), (2, .ref b)]) hx hb dJ6_getChars_ba4f3_1 hl (by decide) rfl (fun ls hl => ?_)
  refine lv_iload_n hx hb dJ6_getChars_ba4f3_3 rfl (lv_at hl 1 rfl) ?_
  refine lv_if_ge (tgt := 11) hx hb dJ6_getChars_ba4f3_4 (by decide) (fun z9 => ?_) (fun z9 => absurd (nI_pos' (by omega)) z9)
  refine lv_iconst (v := 0) hx hb dJ6_getChars_ba4f3_11 (by decide) ?_
  refine lv_istore (lv' := [(6, .int 0), (5, .int (nI pp)), (0, .int (nI v)), (1, .int (nI pp)), (2, .ref b)]) hx hb dJ6_getChars_ba4f3_12 hl (by decide) rfl (fun ls hl => ?_)
  refine lv_iload hx hb dJ6_getChars_ba4f3_14 (lv_at hl 0 rfl) ?_
  refine lv_if_ne (tgt := 22) hx hb dJ6_getChars_ba4f3_16 (by decide) (fun z9 => absurd rfl z9) (fun z9 => ?_)
  refine lv_iload_n hx hb dJ6_getChars_ba4f3_19 rfl (lv_at hl 2 rfl) ?_
  refine lv_ineg hx hb dJ6_getChars_ba4f3_20 ?_
  refine lv_istore_n (lv' := [(0, .int (-nI v)), (6, .int 0), (5, .int (nI pp)), (1, .int (nI pp)), (2, .ref b)]) hx hb dJ6_getChars_ba4f3_21 rfl hl (by decide) rfl (fun ls hl => ?_)
  refine lv_iload_n hx hb dJ6_getChars_ba4f3_22 rfl (lv_at hl 0 rfl) ?_
  refine lv_bipush (v := (-100)) hx hb dJ6_getChars_ba4f3_23 (by decide) ?_
  refine lv_icmp_gt (tgt := 72) hx hb dJ6_getChars_ba4f3_25 (by decide) (fun z9 => ?_) (fun z9 => ?_)
  · have hv2 : v < 100 := by
      have h7 : (-nI 100) < -nI v := z9
      have h8 := (sb_nlt (a := 100) (b := v) (by decide) (by omega)).mp h7
      omega
    exact cut72 v pp f _ _ _ hv2 hp9 hpq hf hP hD hS (lv_sub hl [0, 4, 2, 1] rfl)
  · have hv2 : 100 ≤ v := by
      have h7 : ¬ (-nI 100) < -nI v := z9
      have h8 : ¬ v < 100 := fun h6 => h7 ((sb_nlt (a := 100) (b := v) (by decide) (by omega)).mpr h6)
      omega
    have hd3 := sb_dg100 hv2 (by omega)
    have hw1 : 1 ≤ sb_dg (v / 100) := (sb_dg_in _).1
    refine lv_iload_n hx hb dJ6_getChars_ba4f3_28 rfl (lv_at hl 0 rfl) ?_
    refine lv_bipush (v := 100) hx hb dJ6_getChars_ba4f3_29 (by decide) ?_
    refine lv_idiv hx hb dJ6_getChars_ba4f3_31 (by decide) ?_
    rw [show (-nI v) / 100 = -nI (v / 100) from sb_ndiv (by omega)]
    refine lv_istore_n (lv' := [(3, .int (-nI (v / 100))), (0, .int (-nI v)), (6, .int 0), (5, .int (nI pp)), (1, .int (nI pp)), (2, .ref b)]) hx hb dJ6_getChars_ba4f3_32 rfl hl (by decide) rfl (fun ls hl => ?_)
    refine lv_iload_n hx hb dJ6_getChars_ba4f3_33 rfl (lv_at hl 0 rfl) ?_
    refine lv_bipush (v := 100) hx hb dJ6_getChars_ba4f3_34 (by decide) ?_
    refine lv_imul hx hb dJ6_getChars_ba4f3_36 ?_
    refine lv_iload_n hx hb dJ6_getChars_ba4f3_37 rfl (lv_at hl 1 rfl) ?_
    refine lv_isub hx hb dJ6_getChars_ba4f3_38 ?_
    rw [sb_nrem (by omega)]
    refine lv_istore (lv' := [(4, .int (nI (v % 100))), (3, .int (-nI (v / 100))), (0, .int (-nI v)), (6, .int 0), (5, .int (nI pp)), (1, .int (nI pp)), (2, .ref b)]) hx hb dJ6_getChars_ba4f3_39 hl (by decide) rfl (fun ls hl => ?_)
    refine lv_iload_n hx hb dJ6_getChars_ba4f3_41 rfl (lv_at hl 1 rfl) ?_
    refine lv_istore_n (lv' := [(0, .int (-nI (v / 100))), (4, .int (nI (v % 100))), (3, .int (-nI (v / 100))), (6, .int 0), (5, .int (nI pp)), (1, .int (nI pp)), (2, .ref b)]) hx hb dJ6_getChars_ba4f3_42 rfl hl (by decide) rfl (fun ls hl => ?_)
    refine lv_aload_n hx hb dJ6_getChars_ba4f3_43 rfl (lv_at hl 6 rfl) ?_
    refine lv_iinc (v := nI (pp - 1)) (lv' := [(5, .int (nI (pp - 1))), (0, .int (-nI (v / 100))), (4, .int (nI (v % 100))), (3, .int (-nI (v / 100))), (6, .int 0), (1, .int (nI pp)), (2, .ref b)]) hx hb dJ6_getChars_ba4f3_44 hl (k := 4) rfl (sb_m1 (by omega)) (by decide) rfl (fun ls hl => ?_)
    refine lv_iload hx hb dJ6_getChars_ba4f3_47 (lv_at hl 0 rfl) ?_
    refine va_gets hx hb hZ.2.2.1.1 hS hown (hts _ (bg _ wd_1251)) (fun _ h9 => h9) dJ6_getChars_ba4f3_49 ?_
    refine lv_iload hx hb dJ6_getChars_ba4f3_52 (lv_at hl 2 rfl) ?_
    refine va_tb (v := .int (dgO (v % 100))) hx hb hZ.2.2.1.2 hS (vp_in_nI (show v % 100 < 100 by omega) (by decide)) (by rw [nI_clamp (by omega)]) dJ6_getChars_ba4f3_54 ?_
    refine va_bast hx hb hK hP hD hS 1 2 rfl rfl (show vp_in (nI (pp - 1)) q from vp_in_nI (by omega) (by omega)) dJ6_getChars_ba4f3_55 (fun H locs hP hD hS => ?_)
    refine lv_aload_n hx hb dJ6_getChars_ba4f3_56 rfl (lv_at hl 6 rfl) ?_
    refine lv_iinc (v := nI (pp - 1 - 1)) (lv' := [(5, .int (nI (pp - 1 - 1))), (0, .int (-nI (v / 100))), (4, .int (nI (v % 100))), (3, .int (-nI (v / 100))), (6, .int 0), (1, .int (nI pp)), (2, .ref b)]) hx hb dJ6_getChars_ba4f3_57 hl (k := 0) rfl (sb_m1 (by omega)) (by decide) rfl (fun ls hl => ?_)
    refine lv_iload hx hb dJ6_getChars_ba4f3_60 (lv_at hl 0 rfl) ?_
    refine va_gets hx hb hZ.2.2.2.1.1 hS hown (hts _ (bg _ wd_1253)) (fun _ h9 => h9) dJ6_getChars_ba4f3_62 ?_
    refine lv_iload hx hb dJ6_getChars_ba4f3_65 (lv_at hl 2 rfl) ?_
    refine va_tb (v := .int (dgT (v % 100))) hx hb hZ.2.2.2.1.2 hS (vp_in_nI (show v % 100 < 100 by omega) (by decide)) (by rw [nI_clamp (by omega)]) dJ6_getChars_ba4f3_67 ?_
    refine va_bast hx hb hK hP hD hS 1 2 rfl rfl (show vp_in (nI (pp - 1 - 1)) q from vp_in_nI (by omega) (by omega)) dJ6_getChars_ba4f3_68 (fun H locs hP hD hS => ?_)
    have hf3 : sb_Fit (upd (upd f (nI (pp - 1)).toNatClampNeg (vp_nar .byte (dgO (v % 100)))) (nI (pp - 1 - 1)).toNatClampNeg (vp_nar .byte (dgT (v % 100)))) := sb_fitU (sb_fitU hf (fitN _)) (fitN _)
    refine lv_goto (tgt := 22) hx hb dJ6_getChars_ba4f3_69 (by decide) ?_
    refine lv_iload_n hx hb dJ6_getChars_ba4f3_22 rfl (lv_at hl 1 rfl) ?_
    refine lv_bipush (v := (-100)) hx hb dJ6_getChars_ba4f3_23 (by decide) ?_
    refine lv_icmp_gt (tgt := 72) hx hb dJ6_getChars_ba4f3_25 (by decide) (fun z9 => ?_) (fun z9 => ?_)
    · exact cut72 (v / 100) (pp - 1 - 1) _ _ _ _ (by omega) (by omega) (by omega) hf3 hP hD hS (lv_sub hl [1, 6, 0, 4] rfl)
    · have h7 : ¬ (-nI 100) < -nI (v / 100) := z9
      have h8 : ¬ v / 100 < 100 := fun h6 => h7 ((sb_nlt (a := 100) (b := v / 100) (by decide) (by omega)).mpr h6)
      omega
set_option maxRecDepth 100000 in
set_option maxHeartbeats 4000000 in
theorem m_J5_setLength_d00df (l : Launch) (dC : Nat → ClassId) (dI : Nat → Nat → Nat) (dA gz : Nat → Nat) (sz : Nat) (ob b : Nat) (ml : Int32) (n q : Nat) (f : Ar) (hnq : n ≤ q) (hq : q ≤ 65536) (hf : sb_Fit f) : Met l yJ5_setLength_d00df ws_J5_setLength_d00df ({ frames := 34, cells := 0, slots := 0, locals := 1400 } : Room) (va_Pc [.ref ob, .int 0] (pP (dC, dI) dA gz (wL dA ob b ml n q f) sz)) (va_Qv (S := Nat × Int32 × Ar) (fun u => sb_Fit u.2.2) (fun u t => pQ (dC, dI) (va_A (wL dA ob b ml n q f) sz) (wL dA ob u.1 u.2.1 0 q u.2.2) t) (va_A (wL dA ob b ml n q f) sz)) 0 0 (va_A (wL dA ob b ml n q f) sz) := by
  refine Met.ofW (cc := cJ5_setLength_d00df) (maxL := 2) (ret := none) (by decide) rfl ?_
  intro p e s m args below meth c s₁ B hml hv
  obtain ⟨rfl, hsz, hP, hK, hD0, hN, hZ⟩ := hv
  have hx := B.exec
  have hb := B.bytes
  have hr := B.returns
  have hts := atoms_spec (ws := ws_J5_setLength_d00df) B.pre
  have hown : s.vm.findClass RJ5 = some m.cls := findClass_of_methodNamed B.named
  have hlocks := B.notSynchronized
  subst hsz
  have hD := hD0.self (sz := s.heap.size)
  generalize hAe : va_A (wL dA ob b ml n q f) s.heap.size = A at hD hZ ⊢
  have hA : ∀ z : Nat, s.heap.size ≤ z → A z := fun z h => by rw [← hAe]; exact Or.inr h
  have hS : va_S A s.heap s.heap [] := va_S.rf
  have hl := lv_entry [.ref ob, .int 0] (n := 2) (Nat.le_of_ble_eq_true rfl)
  rw [lg_entry_eq]
  generalize (lg_sl [.ref ob, .int 0] ++ List.replicate (2 - (lg_sl [.ref ob, .int 0]).length) Slot.unset).toArray = ls at hl ⊢
  have hl : lv_has ls 2 [(0, .ref ob), (1, .int 0)] := hl
  have in_J4 : ∀ w ∈ wsJ40, w ∈ ws_J5_setLength_d00df := fun w h => bg _ (inB_J4 w h)
  have hq0 : sb_cap 0 q = q := if_pos (Nat.zero_le _)
  refine lv_iload_n hx hb dJ5_setLength_d00df_0 rfl (lv_at hl 1 rfl) ?_
  refine lv_if_ge (tgt := 13) hx hb dJ5_setLength_d00df_1 (by decide) (fun z9 => ?_) (fun z9 => absurd (by decide) z9)
  refine lv_aload_n hx hb dJ5_setLength_d00df_13 rfl (lv_at hl 0 rfl) ?_
  refine lv_iload_n hx hb dJ5_setLength_d00df_14 rfl (lv_at hl 1 rfl) ?_
  refine je_v (w1 := fun u : Nat × Ar => wL dA ob u.1 ml n (sb_cap 0 q) u.2) (va_runU (As := [.int (nI 0)]) (rest := []) ⟨hx, hb, hml, hown, hts⟩ (m_J5_ensureCapacityInternal_d00df l dC dI dA gz s.heap.size ob b ml n q f 0 0 0 (Or.inl (Nat.zero_le _)) hq (by omega) hf) (cwUp 1 hts bg wd_1154 wd_1462 (hts _ (bg _ (big_x 0 rfl))) wd_1156 wd_9 wd_1157 rfl rfl hd_J5_ensureCapacityInternal_d00df.2 ⟨Nat.le_of_ble_eq_true rfl, Nat.le_of_ble_eq_true rfl⟩) ⟨pP_blind, va_recv (ci := 1) (q0 := 0) hK hP rfl rfl, pP_preW hP hD hS hA hK hN hZ⟩ rfl rfl hl.1 rfl (lv_room (Nat.le_of_ble_eq_true rfl)) dJ5_setLength_d00df_15 ⟨Nat.le_of_ble_eq_true rfl, Nat.le_of_ble_eq_true rfl⟩) hD hS hA (fun u H locs hu hP hD hS => ?_)
  rw [hq0] at hP hD
  refine lv_aload_n hx hb dJ5_setLength_d00df_18 rfl (lv_at hl 0 rfl) ?_
  refine va_get (D := (dC, dI)) (ci := 1) (v := .int (nI n)) (C := RJ4) (T := TJ4) (N := 4) hx hb hts in_J4 hown hK hP 0 rfl rfl 3 (by decide) (hts _ (bg _ wd_263)) (fun _ h9 => h9) rfl dJ5_setLength_d00df_19 ?_
  refine lv_iload_n hx hb dJ5_setLength_d00df_22 rfl (lv_at hl 1 rfl) ?_
  refine lv_icmp_ge (tgt := 63) hx hb dJ5_setLength_d00df_23 (by decide) (fun z9 => ?_) (fun z9 => absurd (nI_pos' (by omega)) z9)
  refine lv_aload_n hx hb dJ5_setLength_d00df_63 rfl (lv_at hl 0 rfl) ?_
  refine va_get (D := (dC, dI)) (ci := 1) (v := .int (nI n)) (C := RJ4) (T := TJ4) (N := 4) hx hb hts in_J4 hown hK hP 0 rfl rfl 3 (by decide) (hts _ (bg _ wd_263)) (fun _ h9 => h9) rfl dJ5_setLength_d00df_64 ?_
  refine lv_iload_n hx hb dJ5_setLength_d00df_67 rfl (lv_at hl 1 rfl) ?_
  refine lv_icmp_le (tgt := 76) hx hb dJ5_setLength_d00df_68 (by decide) (fun z9 => ?_) (fun z9 => ?_)
  ·
    refine lv_aload_n hx hb dJ5_setLength_d00df_76 rfl (lv_at hl 0 rfl) ?_
    refine lv_iload_n hx hb dJ5_setLength_d00df_77 rfl (lv_at hl 1 rfl) ?_
    refine va_put (D := (dC, dI)) (ci := 1) (v := .int 0) (ty := .int) (C := RJ4) (T := TJ4) (N := 4) hx hb hts in_J4 tyJ4 tyJ4_ok nmJ4 hown hK hP hD hS 0 rfl rfl 3 (by decide) (hts _ (bg _ wd_263)) (fun _ h9 => h9) rfl (by decide +kernel) rfl rfl (Nat.le_of_ble_eq_true rfl) dJ5_setLength_d00df_78 (fun H locs hP hD hS => ?_)
    exact W.vret hx hb hr (fun t ht hW => ⟨⟨(u.1, ml, u.2), rfl, hu, by rw [ht]; exact hP, hD⟩, hS.F ht⟩) hS.2.2 dJ5_setLength_d00df_81
  ·
    refine lv_aload_n hx hb dJ5_setLength_d00df_71 rfl (lv_at hl 0 rfl) ?_
    refine lv_iconst (v := 1) hx hb dJ5_setLength_d00df_72 (by decide) ?_
    refine va_put (D := (dC, dI)) (ci := 1) (v := .int 1) (ty := .boolean) (C := RJ4) (T := TJ4) (N := 4) hx hb hts in_J4 tyJ4 tyJ4_ok nmJ4 hown hK hP hD hS 0 rfl rfl 2 (by decide) (hts _ (bg _ wd_261)) (fun _ h9 => h9) rfl (by decide +kernel) rfl (by decide +kernel) (Nat.le_of_ble_eq_true rfl) dJ5_setLength_d00df_73 (fun H locs hP hD hS => ?_)
    refine lv_aload_n hx hb dJ5_setLength_d00df_76 rfl (lv_at hl 0 rfl) ?_
    refine lv_iload_n hx hb dJ5_setLength_d00df_77 rfl (lv_at hl 1 rfl) ?_
    refine va_put (D := (dC, dI)) (ci := 1) (v := .int 0) (ty := .int) (C := RJ4) (T := TJ4) (N := 4) hx hb hts in_J4 tyJ4 tyJ4_ok nmJ4 hown hK hP hD hS 0 rfl rfl 3 (by decide) (hts _ (bg _ wd_263)) (fun _ h9 => h9) rfl (by decide +kernel) rfl rfl (Nat.le_of_ble_eq_true rfl) dJ5_setLength_d00df_78 (fun H locs hP hD hS => ?_)
    exact W.vret hx hb hr (fun t ht hW => ⟨⟨(u.1, 1, u.2), rfl, hu, by rw [ht]; exact hP, hD⟩, hS.F ht⟩) hS.2.2 dJ5_setLength_d00df_81
set_option maxRecDepth 100000 in
set_option maxHeartbeats 4000000 in
theorem m_J4_setLength_d00df (l : Launch) (dC : Nat → ClassId) (dI : Nat → Nat → Nat) (dA gz : Nat → Nat) (sz : Nat) (ob b : Nat) (ml : Int32) (n q : Nat) (f : Ar) (hnq : n ≤ q) (hq : q ≤ 65536) (hf : sb_Fit f) : Met l yJ4_setLength_d00df ws_J4_setLength_d00df ({ frames := 38, cells := 0, slots := 0, locals := 1600 } : Room) (va_Pc [.ref ob, .int 0] (pP (dC, dI) dA gz (wL dA ob b ml n q f) sz)) (va_Qv (S := Nat × Int32 × Ar) (fun u => sb_Fit u.2.2) (fun u t => pQ (dC, dI) (va_A (wL dA ob b ml n q f) sz) (wL dA ob u.1 u.2.1 0 q u.2.2) t) (va_A (wL dA ob b ml n q f) sz)) 0 0 (va_A (wL dA ob b ml n q f) sz) := by
  refine Met.ofW (cc := cJ4_setLength_d00df) (maxL := 2) (ret := none) (by decide) rfl ?_
  intro p e s m args below meth c s₁ B hml hv
  obtain ⟨rfl, hsz, hP, hK, hD0, hN, hZ⟩ := hv
  have hx := B.exec
  have hb := B.bytes
  have hr := B.returns
  have hts := atoms_spec (ws := ws_J4_setLength_d00df) B.pre
  have hown : s.vm.findClass RJ4 = some m.cls := findClass_of_methodNamed B.named
  have hlocks := B.notSynchronized
  subst hsz
  have hD := hD0.self (sz := s.heap.size)
  generalize hAe : va_A (wL dA ob b ml n q f) s.heap.size = A at hD hZ ⊢
  have hA : ∀ z : Nat, s.heap.size ≤ z → A z := fun z h => by rw [← hAe]; exact Or.inr h
  have hS : va_S A s.heap s.heap [] := va_S.rf
  have hl := lv_entry [.ref ob, .int 0] (n := 2) (Nat.le_of_ble_eq_true rfl)
  rw [lg_entry_eq]
  generalize (lg_sl [.ref ob, .int 0] ++ List.replicate (2 - (lg_sl [.ref ob, .int 0]).length) Slot.unset).toArray = ls at hl ⊢
  have hl : lv_has ls 2 [(0, .ref ob), (1, .int 0)] := hl
  have in_J4 : ∀ w ∈ wsJ40, w ∈ ws_J4_setLength_d00df := fun w h => bg _ (inB_J4 w h)
  refine lv_aload_n hx hb dJ4_setLength_d00df_0 rfl (lv_at hl 0 rfl) ?_
  refine lv_iload_n hx hb dJ4_setLength_d00df_1 rfl (lv_at hl 1 rfl) ?_
  refine je_v (w1 := fun u : Nat × Int32 × Ar => wL dA ob u.1 u.2.1 0 q u.2.2) (va_runSU (hK.1 1 _ rfl).2 (As := [.int 0]) (rest := []) ⟨hx, hb, hml, hown, hts⟩ (m_J5_setLength_d00df l dC dI dA gz s.heap.size ob b ml n q f hnq hq hf) (va_cwSU 1 hts (gi_su bg wd_1132 wd_1459 wd_272 wd_1133 wd_9 wd_1134) rfl rfl rfl ⟨by decide, hd_J5_setLength_d00df.2.2.2⟩ ⟨Nat.le_of_ble_eq_true rfl, Nat.le_of_ble_eq_true rfl⟩) ⟨pP_blind, va_recv (ci := 1) (q0 := 0) hK hP rfl rfl, pP_preW hP hD hS hA hK hN hZ⟩ rfl rfl hl.1 rfl (lv_room (Nat.le_of_ble_eq_true rfl)) dJ4_setLength_d00df_2 ⟨Nat.le_of_ble_eq_true rfl, Nat.le_of_ble_eq_true rfl⟩) hD hS hA (fun u H locs hu hP hD hS => ?_)
  exact W.vret hx hb hr (fun t ht hW => ⟨⟨u, rfl, hu, by rw [ht]; exact hP, hD⟩, hS.F ht⟩) hS.2.2 dJ4_setLength_d00df_5
set_option maxRecDepth 100000 in
set_option maxHeartbeats 4000000 in
theorem m_J5_append_3fe6f (l : Launch) (dC : Nat → ClassId) (dI : Nat → Nat → Nat) (dA gz : Nat → Nat) (sz : Nat) (ob b : Nat) (ml : Int32) (n q : Nat) (f : Ar) (mc ms : Nat) (x : Int32) (hx9 : ¬ (255 : Int32) < x) (hr9 : sb_Room (n + 1) q mc ms) (hq : q ≤ 65536) (hk2 : n + 1 ≤ 65536) (hf : sb_Fit f) : Met l yJ5_append_3fe6f ws_J5_append_3fe6f ({ frames := 34, cells := mc, slots := ms, locals := 1400 } : Room) (va_Pc [.ref ob, .int x] (pP (dC, dI) dA gz (wL dA ob b ml n q f) sz)) (va_Qr (S := Nat × Ar) (fun u => sb_Fit u.2) (fun u ra t => ra = ob ∧ pQ (dC, dI) (va_A (wL dA ob b ml n q f) sz) (wL dA ob u.1 ml (n + 1) (sb_cap (n + 1) q) u.2) t) (va_A (wL dA ob b ml n q f) sz)) mc ms (va_A (wL dA ob b ml n q f) sz) := by
  refine Met.ofW (cc := cJ5_append_3fe6f) (maxL := 2) (ret := (some (.object "java/lang/AbstractStringBuilder"))) (by decide) rfl ?_
  intro p e s m args below meth c s₁ B hml hv
  obtain ⟨rfl, hsz, hP, hK, hD0, hN, hZ⟩ := hv
  have hx := B.exec
  have hb := B.bytes
  have hr := B.returns
  have hts := atoms_spec (ws := ws_J5_append_3fe6f) B.pre
  have hown : s.vm.findClass RJ5 = some m.cls := findClass_of_methodNamed B.named
  have hlocks := B.notSynchronized
  subst hsz
  have hD := hD0.self (sz := s.heap.size)
  generalize hAe : va_A (wL dA ob b ml n q f) s.heap.size = A at hD hZ ⊢
  have hA : ∀ z : Nat, s.heap.size ≤ z → A z := fun z h => by rw [← hAe]; exact Or.inr h
  have hS : va_S A s.heap s.heap [] := va_S.rf
  have hl := lv_entry [.ref ob, .int x] (n := 2) (Nat.le_of_ble_eq_true rfl)
  rw [lg_entry_eq]
  generalize (lg_sl [.ref ob, .int x] ++ List.replicate (2 - (lg_sl [.ref ob, .int x]).length) Slot.unset).toArray = ls at hl ⊢
  have hl : lv_has ls 2 [(0, .ref ob), (1, .int x)] := hl
  have in_J4 : ∀ w ∈ wsJ40, w ∈ ws_J5_append_3fe6f := fun w h => bg _ (inB_J4 w h)
  have hg := sb_cap_ge (n + 1) q
  have hcl := sb_cap_le hq hr9
  refine lv_aload_n hx hb dJ5_append_3fe6f_0 rfl (lv_at hl 0 rfl) ?_
  refine lv_aload_n hx hb dJ5_append_3fe6f_1 rfl (lv_at hl 0 rfl) ?_
  refine va_get (D := (dC, dI)) (ci := 1) (v := .int (nI n)) (C := RJ4) (T := TJ4) (N := 4) hx hb hts in_J4 hown hK hP 0 rfl rfl 3 (by decide) (hts _ (bg _ wd_263)) (fun _ h9 => h9) rfl dJ5_append_3fe6f_2 ?_
  refine lv_iconst (v := 1) hx hb dJ5_append_3fe6f_5 (by decide) ?_
  refine lv_iadd hx hb dJ5_append_3fe6f_6 ?_
  rw [nI_1]
  refine je_v (w1 := fun u : Nat × Ar => wL dA ob u.1 ml n (sb_cap (n + 1) q) u.2) (va_runU (As := [.int (nI (n + 1))]) (rest := []) ⟨hx, hb, hml, hown, hts⟩ (m_J5_ensureCapacityInternal_d00df l dC dI dA gz s.heap.size ob b ml n q f mc ms (n + 1) hr9 hq hk2 hf) (cwUp 1 hts bg wd_1154 wd_1462 (hts _ (bg _ (big_x 0 rfl))) wd_1156 wd_9 wd_1157 rfl rfl hd_J5_ensureCapacityInternal_d00df.2 ⟨Nat.le_of_ble_eq_true rfl, Nat.le_of_ble_eq_true rfl⟩) ⟨pP_blind, va_recv (ci := 1) (q0 := 0) hK hP rfl rfl, pP_preW hP hD hS hA hK hN hZ⟩ rfl rfl hl.1 rfl (lv_room (Nat.le_of_ble_eq_true rfl)) dJ5_append_3fe6f_7 ⟨by show _ ≤ mc; (try dsimp only); omega, by show _ ≤ ms; (try dsimp only); omega⟩) hD hS hA (fun u H locs hu hP hD hS => ?_)
  refine lv_aload_n hx hb dJ5_append_3fe6f_10 rfl (lv_at hl 0 rfl) ?_
  refine jw_i (w1 := wL dA ob u.1 ml n (sb_cap (n + 1) q) u.2) (va_runU (As := []) (rest := []) ⟨hx, hb, hml, hown, hts⟩ (m_J5_isLatin1_aae02 l dC dI dA gz H.size ob u.1 ml n (sb_cap (n + 1) q) u.2 ) (cwUp 0 hts bg wd_1183 wd_1185 (hts _ (bg _ wd_1186)) wd_1184 wd_9 wd_1187 rfl rfl hd_J5_isLatin1_aae02.2 ⟨Nat.le_of_ble_eq_true rfl, Nat.le_of_ble_eq_true rfl⟩) ⟨pP_blind, va_recv (ci := 1) (q0 := 0) hK hP rfl rfl, pP_preW hP hD hS hA hK hN hZ⟩ rfl rfl hl.1 rfl (lv_room (Nat.le_of_ble_eq_true rfl)) dJ5_append_3fe6f_11 ⟨by show _ ≤ mc; (try dsimp only); omega, by show _ ≤ ms; (try dsimp only); omega⟩) hD hS hA (fun H locs hP hD hS => ?_)
  refine lv_if_eq (tgt := 45) hx hb dJ5_append_3fe6f_14 (by decide) (fun z9 => absurd z9 (by decide)) (fun z9 => ?_)
  refine lv_iload_n hx hb dJ5_append_3fe6f_17 rfl (lv_at hl 1 rfl) ?_
  refine jw_i (w1 := wL dA ob u.1 ml n (sb_cap (n + 1) q) u.2) (va_runS (As := [.int x]) (rest := []) ⟨hx, hb, hml, hown, hts⟩ (m_J1_canEncode_fc78d l dC dI dA gz H.size ob u.1 ml n (sb_cap (n + 1) q) u.2 x hx9) (va_cwS 1 hts (gi_t bg wd_1365 wd_1366 wd_13 wd_1367) rfl rfl rfl hd3_J1_canEncode_fc78d ⟨Nat.le_of_ble_eq_true rfl, Nat.le_of_ble_eq_true rfl⟩) ⟨pP_blind, pP_preW hP hD hS hA hK hN hZ⟩ rfl rfl hl.1 rfl (lv_room (Nat.le_of_ble_eq_true rfl)) dJ5_append_3fe6f_18 ⟨by show _ ≤ mc; (try dsimp only); omega, by show _ ≤ ms; (try dsimp only); omega⟩) hD hS hA (fun H locs hP hD hS => ?_)
  refine lv_if_eq (tgt := 45) hx hb dJ5_append_3fe6f_21 (by decide) (fun z9 => absurd z9 (by decide)) (fun z9 => ?_)
  refine lv_aload_n hx hb dJ5_append_3fe6f_24 rfl (lv_at hl 0 rfl) ?_
  refine va_get (D := (dC, dI)) (ci := 1) (v := .ref u.1) (C := RJ4) (T := TJ4) (N := 4) hx hb hts in_J4 hown hK hP 0 rfl rfl 0 (by decide) (hts _ (bg _ wd_259)) (fun _ h9 => h9) rfl dJ5_append_3fe6f_25 ?_
  refine lv_aload_n hx hb dJ5_append_3fe6f_28 rfl (lv_at hl 0 rfl) ?_
  refine lv_dup hx hb dJ5_append_3fe6f_29 rfl ?_
  refine va_get (D := (dC, dI)) (ci := 1) (v := .int (nI n)) (C := RJ4) (T := TJ4) (N := 4) hx hb hts in_J4 hown hK hP 0 rfl rfl 3 (by decide) (hts _ (bg _ wd_263)) (fun _ h9 => h9) rfl dJ5_append_3fe6f_30 ?_
  refine lv_dup_x1 hx hb dJ5_append_3fe6f_33 rfl rfl ?_
  refine lv_iconst (v := 1) hx hb dJ5_append_3fe6f_34 (by decide) ?_
  refine lv_iadd hx hb dJ5_append_3fe6f_35 ?_
  rw [nI_1]
  refine va_put (D := (dC, dI)) (ci := 1) (v := .int (nI (n + 1))) (ty := .int) (C := RJ4) (T := TJ4) (N := 4) hx hb hts in_J4 tyJ4 tyJ4_ok nmJ4 hown hK hP hD hS 0 rfl rfl 3 (by decide) (hts _ (bg _ wd_263)) (fun _ h9 => h9) rfl (by decide +kernel) rfl rfl (Nat.le_of_ble_eq_true rfl) dJ5_append_3fe6f_36 (fun H locs hP hD hS => ?_)
  refine lv_iload_n hx hb dJ5_append_3fe6f_39 rfl (lv_at hl 1 rfl) ?_
  refine lv_i2b hx hb dJ5_append_3fe6f_40 rfl ?_
  refine va_bast hx hb hK hP hD hS 1 2 rfl rfl (show vp_in (nI n) (sb_cap (n + 1) q) from vp_in_nI (by omega) (by omega)) dJ5_append_3fe6f_41 (fun H locs hP hD hS => ?_)
  have hf3 : sb_Fit (upd u.2 (nI n).toNatClampNeg (vp_nar .byte x.toInt8.toInt32)) := sb_fitU hu (by rw [vp_nar_byte]; exact pk_fb _)
  refine lv_goto (tgt := 75) hx hb dJ5_append_3fe6f_42 (by decide) ?_
  refine lv_aload_n hx hb dJ5_append_3fe6f_75 rfl (lv_at hl 0 rfl) ?_
  refine W.widen (k := mc) (n := ms) (by (try dsimp only); omega) (by (try dsimp only); omega) ?_
  exact W.aret hx hb hr (Or.inl ⟨_, rfl⟩) (Or.inr ⟨_, rfl⟩) (fun t ht hW => ⟨⟨(u.1, _), ob, rfl, hf3, rfl, by rw [ht]; exact hP, hD⟩, hS.F ht⟩) hS.2.2 dJ5_append_3fe6f_76
set_option maxRecDepth 100000 in
set_option maxHeartbeats 4000000 in
theorem m_J4_append_cf468 (l : Launch) (dC : Nat → ClassId) (dI : Nat → Nat → Nat) (dA gz : Nat → Nat) (sz : Nat) (ob b : Nat) (ml : Int32) (n q : Nat) (f : Ar) (mc ms : Nat) (x : Int32) (hx9 : ¬ (255 : Int32) < x) (hr9 : sb_Room (n + 1) q mc ms) (hq : q ≤ 65536) (hk2 : n + 1 ≤ 65536) (hf : sb_Fit f) : Met l yJ4_append_cf468 ws_J4_append_cf468 ({ frames := 38, cells := mc, slots := ms, locals := 1600 } : Room) (va_Pc [.ref ob, .int x] (pP (dC, dI) dA gz (wL dA ob b ml n q f) sz)) (va_Qr (S := Nat × Ar) (fun u => sb_Fit u.2) (fun u ra t => ra = ob ∧ pQ (dC, dI) (va_A (wL dA ob b ml n q f) sz) (wL dA ob u.1 ml (n + 1) (sb_cap (n + 1) q) u.2) t) (va_A (wL dA ob b ml n q f) sz)) mc ms (va_A (wL dA ob b ml n q f) sz) := by
  refine Met.ofW (cc := cJ4_append_cf468) (maxL := 2) (ret := (some (.object "java/lang/StringBuilder"))) (by decide) rfl ?_
  intro p e s m args below meth c s₁ B hml hv
  obtain ⟨rfl, hsz, hP, hK, hD0, hN, hZ⟩ := hv
  have hx := B.exec
  have hb := B.bytes
  have hr := B.returns
  have hts := atoms_spec (ws := ws_J4_append_cf468) B.pre
  have hown : s.vm.findClass RJ4 = some m.cls := findClass_of_methodNamed B.named
  have hlocks := B.notSynchronized
  subst hsz
  have hD := hD0.self (sz := s.heap.size)
  generalize hAe : va_A (wL dA ob b ml n q f) s.heap.size = A at hD hZ ⊢
  have hA : ∀ z : Nat, s.heap.size ≤ z → A z := fun z h => by rw [← hAe]; exact Or.inr h
  have hS : va_S A s.heap s.heap [] := va_S.rf
  have hl := lv_entry [.ref ob, .int x] (n := 2) (Nat.le_of_ble_eq_true rfl)
  rw [lg_entry_eq]
  generalize (lg_sl [.ref ob, .int x] ++ List.replicate (2 - (lg_sl [.ref ob, .int x]).length) Slot.unset).toArray = ls at hl ⊢
  have hl : lv_has ls 2 [(0, .ref ob), (1, .int x)] := hl
  have in_J4 : ∀ w ∈ wsJ40, w ∈ ws_J4_append_cf468 := fun w h => bg _ (inB_J4 w h)
  refine lv_aload_n hx hb dJ4_append_cf468_0 rfl (lv_at hl 0 rfl) ?_
  refine lv_iload_n hx hb dJ4_append_cf468_1 rfl (lv_at hl 1 rfl) ?_
  refine je_r (ad := fun _ : Nat × Ar => ob) (w1 := fun u : Nat × Ar => wL dA ob u.1 ml (n + 1) (sb_cap (n + 1) q) u.2) (va_runSU (hK.1 1 _ rfl).2 (As := [.int x]) (rest := []) ⟨hx, hb, hml, hown, hts⟩ (m_J5_append_3fe6f l dC dI dA gz s.heap.size ob b ml n q f mc ms x hx9 hr9 hq hk2 hf) (va_cwSU 1 hts (gi_su bg wd_1362 wd_1468 wd_272 wd_1363 wd_9 wd_1364) rfl rfl rfl ⟨by decide, hd_J5_append_3fe6f.2.2.2⟩ ⟨Nat.le_of_ble_eq_true rfl, Nat.le_of_ble_eq_true rfl⟩) ⟨pP_blind, va_recv (ci := 1) (q0 := 0) hK hP rfl rfl, pP_preW hP hD hS hA hK hN hZ⟩ rfl rfl hl.1 rfl (lv_room (Nat.le_of_ble_eq_true rfl)) dJ4_append_cf468_2 ⟨by show _ ≤ mc; (try dsimp only); omega, by show _ ≤ ms; (try dsimp only); omega⟩) hD hS hA (fun u H locs hu hP hD hS => ?_)
  refine lv_pop hx hb dJ4_append_cf468_5 rfl ?_
  refine lv_aload_n hx hb dJ4_append_cf468_6 rfl (lv_at hl 0 rfl) ?_
  refine W.widen (k := mc) (n := ms) (by (try dsimp only); omega) (by (try dsimp only); omega) ?_
  exact W.aret hx hb hr (Or.inl ⟨_, rfl⟩) (Or.inr ⟨_, rfl⟩) (fun t ht hW => ⟨⟨u, ob, rfl, hu, rfl, by rw [ht]; exact hP, hD⟩, hS.F ht⟩) hS.2.2 dJ4_append_cf468_7
set_option maxRecDepth 100000 in
set_option maxHeartbeats 4000000 in
theorem m_J5_append_c97b9 (l : Launch) (dC : Nat → ClassId) (dI : Nat → Nat → Nat) (dA gz : Nat → Nat) (sz : Nat) (ob b : Nat) (ml : Int32) (n q : Nat) (f : Ar) (mc ms v : Nat) (hv : v < 1000) (hr9 : sb_Room (n + sb_dg v) q mc ms) (hq : q ≤ 65536) (hk2 : n + sb_dg v ≤ 65536) (hf : sb_Fit f) : Met l yJ5_append_c97b9 ws_J5_append_c97b9 ({ frames := 34, cells := mc, slots := ms, locals := 1400 } : Room) (va_Pc [.ref ob, .int (nI v)] (pP (dC, dI) dA gz (wL dA ob b ml n q f) sz)) (va_Qr (S := Nat × Ar) (fun u => sb_Fit u.2) (fun u ra t => ra = ob ∧ pQ (dC, dI) (va_A (wL dA ob b ml n q f) sz) (wL dA ob u.1 ml (n + sb_dg v) (sb_cap (n + sb_dg v) q) u.2) t) (va_A (wL dA ob b ml n q f) sz)) mc ms (va_A (wL dA ob b ml n q f) sz) := by
  refine Met.ofW (cc := cJ5_append_c97b9) (maxL := 4) (ret := (some (.object "java/lang/AbstractStringBuilder"))) (by decide) rfl ?_
  intro p e s m args below meth c s₁ B hml hv
  obtain ⟨rfl, hsz, hP, hK, hD0, hN, hZ⟩ := hv
  have hx := B.exec
  have hb := B.bytes
  have hr := B.returns
  have hts := atoms_spec (ws := ws_J5_append_c97b9) B.pre
  have hown : s.vm.findClass RJ5 = some m.cls := findClass_of_methodNamed B.named
  have hlocks := B.notSynchronized
  subst hsz
  have hD := hD0.self (sz := s.heap.size)
  generalize hAe : va_A (wL dA ob b ml n q f) s.heap.size = A at hD hZ ⊢
  have hA : ∀ z : Nat, s.heap.size ≤ z → A z := fun z h => by rw [← hAe]; exact Or.inr h
  have hS : va_S A s.heap s.heap [] := va_S.rf
  have hl := lv_entry [.ref ob, .int (nI v)] (n := 4) (Nat.le_of_ble_eq_true rfl)
  rw [lg_entry_eq]
  generalize (lg_sl [.ref ob, .int (nI v)] ++ List.replicate (4 - (lg_sl [.ref ob, .int (nI v)]).length) Slot.unset).toArray = ls at hl ⊢
  have hl : lv_has ls 4 [(0, .ref ob), (1, .int (nI v))] := hl
  have in_J4 : ∀ w ∈ wsJ40, w ∈ ws_J5_append_c97b9 := fun w h => bg _ (inB_J4 w h)
  have hg := sb_cap_ge (n + sb_dg v) q
  have hcl := sb_cap_le hq hr9
  have hv1 := (sb_dg_in v).1
  refine lv_aload_n hx hb dJ5_append_c97b9_0 rfl (lv_at hl 0 rfl) ?_
  refine va_get (D := (dC, dI)) (ci := 1) (v := .int (nI n)) (C := RJ4) (T := TJ4) (N := 4) hx hb hts in_J4 hown hK hP 0 rfl rfl 3 (by decide) (hts _ (bg _ wd_263)) (fun _ h9 => h9) rfl dJ5_append_c97b9_1 ?_
  refine lv_istore_n (lv' := [(2, .int (nI n)), (0, .ref ob), (1, .int (nI v))]) hx hb dJ5_append_c97b9_4 rfl hl (by decide) rfl (fun ls hl => ?_)
  refine lv_iload_n hx hb dJ5_append_c97b9_5 rfl (lv_at hl 0 rfl) ?_
  refine lv_iload_n hx hb dJ5_append_c97b9_6 rfl (lv_at hl 2 rfl) ?_
  refine jr_i (va_runS (As := [.int (nI v)]) (rest := [.int (nI n)]) ⟨hx, hb, hml, hown, hts⟩ (m_J6_stringSize_0f7a4 l dC dI dA gz s.heap.size (nI v) (nI (sb_dg v)) (ss_ok v hv)) (va_cwS 1 hts (gi_t bg wd_1245 wd_1246 wd_30 wd_1247) rfl rfl rfl hd3_J6_stringSize_0f7a4 ⟨Nat.le_of_ble_eq_true rfl, Nat.le_of_ble_eq_true rfl⟩) ⟨pP_blind, pP_pre hP hD hS hA hK hN hZ [] (by decide) rfl⟩ rfl rfl hl.1 rfl (lv_room (Nat.le_of_ble_eq_true rfl)) dJ5_append_c97b9_7 ⟨by omega, by omega⟩) hP hD hS hA [] rfl (fun H locs hP hS => ?_)
  refine lv_iadd hx hb dJ5_append_c97b9_10 ?_
  rw [nI_add]
  refine lv_istore_n (lv' := [(3, .int (nI (n + sb_dg v))), (2, .int (nI n)), (0, .ref ob), (1, .int (nI v))]) hx hb dJ5_append_c97b9_11 rfl hl (by decide) rfl (fun ls hl => ?_)
  refine lv_aload_n hx hb dJ5_append_c97b9_12 rfl (lv_at hl 2 rfl) ?_
  refine lv_iload_n hx hb dJ5_append_c97b9_13 rfl (lv_at hl 0 rfl) ?_
  refine je_v (w1 := fun u : Nat × Ar => wL dA ob u.1 ml n (sb_cap (n + sb_dg v) q) u.2) (va_runU (As := [.int (nI (n + sb_dg v))]) (rest := []) ⟨hx, hb, hml, hown, hts⟩ (m_J5_ensureCapacityInternal_d00df l dC dI dA gz H.size ob b ml n q f mc ms (n + sb_dg v) hr9 hq hk2 hf) (cwUp 1 hts bg wd_1154 wd_1462 (hts _ (bg _ (big_x 0 rfl))) wd_1156 wd_9 wd_1157 rfl rfl hd_J5_ensureCapacityInternal_d00df.2 ⟨Nat.le_of_ble_eq_true rfl, Nat.le_of_ble_eq_true rfl⟩) ⟨pP_blind, va_recv (ci := 1) (q0 := 0) hK hP rfl rfl, pP_preW hP hD hS hA hK hN hZ⟩ rfl rfl hl.1 rfl (lv_room (Nat.le_of_ble_eq_true rfl)) dJ5_append_c97b9_14 ⟨by show _ ≤ mc; (try dsimp only); omega, by show _ ≤ ms; (try dsimp only); omega⟩) hD hS hA (fun u H locs hu hP hD hS => ?_)
  refine lv_aload_n hx hb dJ5_append_c97b9_17 rfl (lv_at hl 2 rfl) ?_
  refine jw_i (w1 := wL dA ob u.1 ml n (sb_cap (n + sb_dg v) q) u.2) (va_runU (As := []) (rest := []) ⟨hx, hb, hml, hown, hts⟩ (m_J5_isLatin1_aae02 l dC dI dA gz H.size ob u.1 ml n (sb_cap (n + sb_dg v) q) u.2 ) (cwUp 0 hts bg wd_1183 wd_1185 (hts _ (bg _ wd_1186)) wd_1184 wd_9 wd_1187 rfl rfl hd_J5_isLatin1_aae02.2 ⟨Nat.le_of_ble_eq_true rfl, Nat.le_of_ble_eq_true rfl⟩) ⟨pP_blind, va_recv (ci := 1) (q0 := 0) hK hP rfl rfl, pP_preW hP hD hS hA hK hN hZ⟩ rfl rfl hl.1 rfl (lv_room (Nat.le_of_ble_eq_true rfl)) dJ5_append_c97b9_18 ⟨by show _ ≤ mc; (try dsimp only); omega, by show _ ≤ ms; (try dsimp only); omega⟩) hD hS hA (fun H locs hP hD hS => ?_)
  refine lv_if_eq (tgt := 37) hx hb dJ5_append_c97b9_21 (by decide) (fun z9 => absurd z9 (by decide)) (fun z9 => ?_)
  refine lv_iload_n hx hb dJ5_append_c97b9_24 rfl (lv_at hl 3 rfl) ?_
  refine lv_iload_n hx hb dJ5_append_c97b9_25 rfl (lv_at hl 0 rfl) ?_
  refine lv_aload_n hx hb dJ5_append_c97b9_26 rfl (lv_at hl 2 rfl) ?_
  refine va_get (D := (dC, dI)) (ci := 1) (v := .ref u.1) (C := RJ4) (T := TJ4) (N := 4) hx hb hts in_J4 hown hK hP 0 rfl rfl 0 (by decide) (hts _ (bg _ wd_259)) (fun _ h9 => h9) rfl dJ5_append_c97b9_27 ?_
  refine je_i (w1 := fun f2 : Ar => wL dA ob u.1 ml n (sb_cap (n + sb_dg v) q) f2) (va_runS (As := [.int (nI v), .int (nI (n + sb_dg v)), .ref u.1]) (rest := []) ⟨hx, hb, hml, hown, hts⟩ (m_J6_getChars_ba4f3 l dC dI dA gz H.size ob u.1 ml n (sb_cap (n + sb_dg v) q) u.2 v (n + sb_dg v) hv (by omega) hg hcl hu) (va_cwS 3 hts (gi_t bg wd_1248 wd_1249 wd_30 wd_1250) rfl rfl rfl hd3_J6_getChars_ba4f3 ⟨Nat.le_of_ble_eq_true rfl, Nat.le_of_ble_eq_true rfl⟩) ⟨pP_blind, pP_preW hP hD hS hA hK hN hZ⟩ rfl rfl hl.1 rfl (lv_room (Nat.le_of_ble_eq_true rfl)) dJ5_append_c97b9_30 ⟨by show _ ≤ mc; (try dsimp only); omega, by show _ ≤ ms; (try dsimp only); omega⟩) hD hS hA (fun r9 f3 H locs hf3 hP hD hS => ?_)
  refine lv_pop hx hb dJ5_append_c97b9_33 rfl ?_
  refine lv_goto (tgt := 48) hx hb dJ5_append_c97b9_34 (by decide) ?_
  refine lv_aload_n hx hb dJ5_append_c97b9_48 rfl (lv_at hl 2 rfl) ?_
  refine lv_iload_n hx hb dJ5_append_c97b9_49 rfl (lv_at hl 0 rfl) ?_
  refine va_put (D := (dC, dI)) (ci := 1) (v := .int (nI (n + sb_dg v))) (ty := .int) (C := RJ4) (T := TJ4) (N := 4) hx hb hts in_J4 tyJ4 tyJ4_ok nmJ4 hown hK hP hD hS 0 rfl rfl 3 (by decide) (hts _ (bg _ wd_263)) (fun _ h9 => h9) rfl (by decide +kernel) rfl rfl (Nat.le_of_ble_eq_true rfl) dJ5_append_c97b9_50 (fun H locs hP hD hS => ?_)
  refine lv_aload_n hx hb dJ5_append_c97b9_53 rfl (lv_at hl 2 rfl) ?_
  refine W.widen (k := mc) (n := ms) (by (try dsimp only); omega) (by (try dsimp only); omega) ?_
  exact W.aret hx hb hr (Or.inl ⟨_, rfl⟩) (Or.inr ⟨_, rfl⟩) (fun t ht hW => ⟨⟨(u.1, f3), ob, rfl, hf3, rfl, by rw [ht]; exact hP, hD⟩, hS.F ht⟩) hS.2.2 dJ5_append_c97b9_54
set_option maxRecDepth 100000 in
set_option maxHeartbeats 4000000 in
theorem m_J4_append_bf812 (l : Launch) (dC : Nat → ClassId) (dI : Nat → Nat → Nat) (dA gz : Nat → Nat) (sz : Nat) (ob b : Nat) (ml : Int32) (n q : Nat) (f : Ar) (mc ms v : Nat) (hv : v < 1000) (hr9 : sb_Room (n + sb_dg v) q mc ms) (hq : q ≤ 65536) (hk2 : n + sb_dg v ≤ 65536) (hf : sb_Fit f) : Met l yJ4_append_bf812 ws_J4_append_bf812 ({ frames := 38, cells := mc, slots := ms, locals := 1600 } : Room) (va_Pc [.ref ob, .int (nI v)] (pP (dC, dI) dA gz (wL dA ob b ml n q f) sz)) (va_Qr (S := Nat × Ar) (fun u => sb_Fit u.2) (fun u ra t => ra = ob ∧ pQ (dC, dI) (va_A (wL dA ob b ml n q f) sz) (wL dA ob u.1 ml (n + sb_dg v) (sb_cap (n + sb_dg v) q) u.2) t) (va_A (wL dA ob b ml n q f) sz)) mc ms (va_A (wL dA ob b ml n q f) sz) := by
  refine Met.ofW (cc := cJ4_append_bf812) (maxL := 2) (ret := (some (.object "java/lang/StringBuilder"))) (by decide) rfl ?_
  intro p e s m args below meth c s₁ B hml hv
  obtain ⟨rfl, hsz, hP, hK, hD0, hN, hZ⟩ := hv
  have hx := B.exec
  have hb := B.bytes
  have hr := B.returns
  have hts := atoms_spec (ws := ws_J4_append_bf812) B.pre
  have hown : s.vm.findClass RJ4 = some m.cls := findClass_of_methodNamed B.named
  have hlocks := B.notSynchronized
  subst hsz
  have hD := hD0.self (sz := s.heap.size)
  generalize hAe : va_A (wL dA ob b ml n q f) s.heap.size = A at hD hZ ⊢
  have hA : ∀ z : Nat, s.heap.size ≤ z → A z := fun z h => by rw [← hAe]; exact Or.inr h
  have hS : va_S A s.heap s.heap [] := va_S.rf
  have hl := lv_entry [.ref ob, .int (nI v)] (n := 2) (Nat.le_of_ble_eq_true rfl)
  rw [lg_entry_eq]
  generalize (lg_sl [.ref ob, .int (nI v)] ++ List.replicate (2 - (lg_sl [.ref ob, .int (nI v)]).length) Slot.unset).toArray = ls at hl ⊢
  have hl : lv_has ls 2 [(0, .ref ob), (1, .int (nI v))] := hl
  have in_J4 : ∀ w ∈ wsJ40, w ∈ ws_J4_append_bf812 := fun w h => bg _ (inB_J4 w h)
  refine lv_aload_n hx hb dJ4_append_bf812_0 rfl (lv_at hl 0 rfl) ?_
  refine lv_iload_n hx hb dJ4_append_bf812_1 rfl (lv_at hl 1 rfl) ?_
  refine je_r (ad := fun _ : Nat × Ar => ob) (w1 := fun u : Nat × Ar => wL dA ob u.1 ml (n + sb_dg v) (sb_cap (n + sb_dg v) q) u.2) (va_runSU (hK.1 1 _ rfl).2 (As := [.int (nI v)]) (rest := []) ⟨hx, hb, hml, hown, hts⟩ (m_J5_append_c97b9 l dC dI dA gz s.heap.size ob b ml n q f mc ms v hv hr9 hq hk2 hf) (va_cwSU 1 hts (gi_su bg wd_1242 wd_1467 wd_272 wd_1243 wd_9 wd_1244) rfl rfl rfl ⟨by decide, hd_J5_append_c97b9.2.2.2⟩ ⟨Nat.le_of_ble_eq_true rfl, Nat.le_of_ble_eq_true rfl⟩) ⟨pP_blind, va_recv (ci := 1) (q0 := 0) hK hP rfl rfl, pP_preW hP hD hS hA hK hN hZ⟩ rfl rfl hl.1 rfl (lv_room (Nat.le_of_ble_eq_true rfl)) dJ4_append_bf812_2 ⟨by show _ ≤ mc; (try dsimp only); omega, by show _ ≤ ms; (try dsimp only); omega⟩) hD hS hA (fun u H locs hu hP hD hS => ?_)
  refine lv_pop hx hb dJ4_append_bf812_5 rfl ?_
  refine lv_aload_n hx hb dJ4_append_bf812_6 rfl (lv_at hl 0 rfl) ?_
  refine W.widen (k := mc) (n := ms) (by (try dsimp only); omega) (by (try dsimp only); omega) ?_
  exact W.aret hx hb hr (Or.inl ⟨_, rfl⟩) (Or.inr ⟨_, rfl⟩) (fun t ht hW => ⟨⟨u, ob, rfl, hu, rfl, by rw [ht]; exact hP, hD⟩, hS.F ht⟩) hS.2.2 dJ4_append_bf812_7
