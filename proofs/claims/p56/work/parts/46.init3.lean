theorem wX0_cg {dA a b : Nat → Nat} {s : SX0} (h : ∀ k, k < 13 → a k = b k) : wX0 dA a s = wX0 dA b s := by
  simp only [wX0, h 0 (by decide), h 1 (by decide), h 2 (by decide), h 3 (by decide), h 4 (by decide), h 5 (by decide), h 6 (by decide), h 7 (by decide), h 8 (by decide), h 9 (by decide), h 10 (by decide), h 11 (by decide), h 12 (by decide)]
theorem wX6_cg {dA a b : Nat → Nat} {s : SX6} (h : ∀ k, k < 6 → a k = b k) : wX6 dA a s = wX6 dA b s := by
  simp only [wX6, h 0 (by decide), h 1 (by decide), h 2 (by decide), h 3 (by decide), h 4 (by decide), h 5 (by decide)]
def rX3 (dA b : Nat → Nat) (s : SX3) : va_W := ([wX0 dA (fun k => b (2 + k)) (s.2.2 0), wX0 dA (fun k => b (15 + k)) (s.2.2 1), wX0 dA (fun k => b (28 + k)) (s.2.2 2), wX0 dA (fun k => b (41 + k)) (s.2.2 3), wX0 dA (fun k => b (54 + k)) (s.2.2 4), wX0 dA (fun k => b (67 + k)) (s.2.2 5), wX0 dA (fun k => b (80 + k)) (s.2.2 6), wX0 dA (fun k => b (93 + k)) (s.2.2 7)] : List va_W).flatten
theorem rX3_cg {dA a b : Nat → Nat} {s : SX3} (h : ∀ k, k < 106 → a k = b k) : rX3 dA a s = rX3 dA b s := by
  have e0 : wX0 dA (fun k => a (2 + k)) (s.2.2 0) = wX0 dA (fun k => b (2 + k)) (s.2.2 0) := wX0_cg (fun k hk => h (2 + k) (by omega))
  have e1 : wX0 dA (fun k => a (15 + k)) (s.2.2 1) = wX0 dA (fun k => b (15 + k)) (s.2.2 1) := wX0_cg (fun k hk => h (15 + k) (by omega))
  have e2 : wX0 dA (fun k => a (28 + k)) (s.2.2 2) = wX0 dA (fun k => b (28 + k)) (s.2.2 2) := wX0_cg (fun k hk => h (28 + k) (by omega))
  have e3 : wX0 dA (fun k => a (41 + k)) (s.2.2 3) = wX0 dA (fun k => b (41 + k)) (s.2.2 3) := wX0_cg (fun k hk => h (41 + k) (by omega))
  have e4 : wX0 dA (fun k => a (54 + k)) (s.2.2 4) = wX0 dA (fun k => b (54 + k)) (s.2.2 4) := wX0_cg (fun k hk => h (54 + k) (by omega))
  have e5 : wX0 dA (fun k => a (67 + k)) (s.2.2 5) = wX0 dA (fun k => b (67 + k)) (s.2.2 5) := wX0_cg (fun k hk => h (67 + k) (by omega))
  have e6 : wX0 dA (fun k => a (80 + k)) (s.2.2 6) = wX0 dA (fun k => b (80 + k)) (s.2.2 6) := wX0_cg (fun k hk => h (80 + k) (by omega))
  have e7 : wX0 dA (fun k => a (93 + k)) (s.2.2 7) = wX0 dA (fun k => b (93 + k)) (s.2.2 7) := wX0_cg (fun k hk => h (93 + k) (by omega))
  unfold rX3
  rw [e0, e1, e2, e3, e4, e5, e6, e7]
theorem wX3_mv {D : va_G} {dA a b : Nat → Nat} {s : SX3} {H : Heap} (h : ∀ k, k < 106 → a k = b k) (hP : va_P D vwCl (wX3 dA a s) H) : va_P D vwCl (wX3 dA b s) H := by
  have h1 : va_P D vwCl ((a 0, .inr (7, [.ref (a 1), .int s.1, .int s.2.1])) :: (a 1, .inl (dA 3, 8, .inr (.inr (.inr (.inr (fun i => some (a (2 + 13 * i)))))))) :: rX3 dA a s) H := hP
  have h2 := P_arrq (g := fun i => some (b (2 + 13 * i))) (fun j hj => congrArg some (h (2 + 13 * j) (by omega))) h1
  rw [rX3_cg h, h 0 (by decide), h 1 (by decide)] at h2
  exact h2
theorem wX3_ad {dA a b : Nat → Nat} {s : SX3} (h : ∀ k, k < 106 → a k = b k) : (wX3 dA a s).map (fun q => q.1) = (wX3 dA b s).map (fun q => q.1) := by
  show a 0 :: a 1 :: (rX3 dA a s).map (fun q => q.1) = b 0 :: b 1 :: (rX3 dA b s).map (fun q => q.1)
  rw [rX3_cg h, h 0 (by decide), h 1 (by decide)]
theorem P_nil {D : va_G} {H : Heap} : va_P D vwCl [] H := fun k q hk => by simp at hk
abbrev S0 : SX7 := ((B0, B0, B0, 0, ((0, 0, fun _ => B0) : SX3), ((z0, 0, 0, z0, z0, z0, z0, 0) : SX6), -1, 0, 0, 0) : SX7)
set_option maxRecDepth 100000 in
set_option maxHeartbeats 4000000 in
theorem m_X7_init (l : Launch) (dC : Nat → ClassId) (dI : Nat → Nat → Nat) (dA gz : Nat → Nat) (sz h0 : Nat)  : Met l yX7_init ws_X7_init ({ frames := 26, cells := 153, slots := 1262, locals := 1000 } : Room) (va_Pc [.ref h0] (pPo (dC, dI) dA gz ([(h0, .inr (11, [.null, .null, .null, .int 0, .null, .null, .int 0, .null, .int 0, .int 0, .int 0]))]) sz)) (va_Qv (S := (Nat → Nat) × Nat) (fun u => u.1 0 = h0) (fun u t => pQ (dC, dI) (va_A ([(h0, .inr (11, [.null, .null, .null, .int 0, .null, .null, .int 0, .null, .int 0, .int 0, .int 0]))]) sz) (wX7 dA u.1 S0 (u.2, 0, 16, z0, nI 0)) t) (va_A ([(h0, .inr (11, [.null, .null, .null, .int 0, .null, .null, .int 0, .null, .int 0, .int 0, .int 0]))]) sz)) 153 1262 (va_A ([(h0, .inr (11, [.null, .null, .null, .int 0, .null, .null, .int 0, .null, .int 0, .int 0, .int 0]))]) sz) := by
  refine Met.ofW (cc := cX7_init) (maxL := 1) (ret := none) (by decide) rfl ?_
  intro p e s m args below meth c s₁ B hml hv
  obtain ⟨rfl, ⟨hsz, hP, hK, hD0, hN, hZ⟩, hAO⟩ := hv
  have hx := B.exec
  have hb := B.bytes
  have hr := B.returns
  have hts := atoms_spec (ws := ws_X7_init) B.pre
  have hown : s.vm.findClass RX7 = some m.cls := findClass_of_methodNamed B.named
  have hlocks := B.notSynchronized
  have hin : meth.name = "<init>" := (name_of_methodNamed B.named B.method).1
  subst hsz
  have hD := hD0.self (sz := s.heap.size)
  generalize hAe : va_A ([(h0, .inr (11, [.null, .null, .null, .int 0, .null, .null, .int 0, .null, .int 0, .int 0, .int 0]))]) s.heap.size = A at hD hZ ⊢
  have hA : ∀ z : Nat, s.heap.size ≤ z → A z := fun z h => by rw [← hAe]; exact Or.inr h
  have hS : va_S A s.heap s.heap [] := va_S.rf
  have hP : va_P (dC, dI) vwCl ([(h0, .inr (11, [.null, .null, .null, .int 0, .null, .null, .int 0, .null, .int 0, .int 0, .int 0]))]) s.heap := hP
  have hl := lv_entry [.ref h0] (n := 1) (Nat.le_of_ble_eq_true rfl)
  rw [lg_entry_eq]
  generalize (lg_sl [.ref h0] ++ List.replicate (1 - (lg_sl [.ref h0]).length) Slot.unset).toArray = ls at hl ⊢
  have hl : lv_has ls 1 [(0, .ref h0)] := hl
  have in_X7 : ∀ w ∈ wsX70, w ∈ ws_X7_init := fun w h => bg _ (inB_X7 w h)
  refine lv_aload_n hx hb dX7_init_0 rfl (lv_at hl 0 rfl) ?_
  refine W.objInit hx hb hown (hts _ (bg _ wd_37)) (hts _ (bg _ wd_38)) (hts _ (bg _ wd_39)) rfl (by rw [hml]; exact hl.1) rfl dX7_init_1 (Nat.le_of_ble_eq_true rfl) (Nat.le_of_ble_eq_true rfl) ?_
  refine W.eq (g2 := F0 m 4 ls []) rfl ?_
  have hP : va_P (dC, dI) vwCl (([[(h0, .inr (11, [.null, .null, .null, .int 0, .null, .null, .int 0, .null, .int 0, .int 0, .int 0]))]] : List va_W).flatten) s.heap := hP
  have hD : va_D A (([[(h0, .inr (11, [.null, .null, .null, .int 0, .null, .null, .int 0, .null, .int 0, .int 0, .int 0]))]] : List va_W).flatten) := hD
  refine lv_aload_n hx hb dX7_init_4 rfl (lv_at hl 0 rfl) ?_
  refine va_new (ci := 4) (fs := [.null, .null, .null, .null]) (C := RX0) (T := TX0) (N := 4) hx hb hts (fun w h => bg _ (inB_X0 w h)) tyX0 tyX0_ok hown (hts _ (bg _ wd_40)) (hts _ (bg _ wd_41)) (hts _ (bg _ wd_2)) hK hP hD hS hA rfl (fun j hj => by rcases (show j = 0 ∨ j = 1 ∨ j = 2 ∨ j = 3 by omega) with rfl | rfl | rfl | rfl <;> rfl) (Nat.le_of_ble_eq_true rfl) (Nat.le_of_ble_eq_true rfl) dX7_init_5 (fun no1 H hP hD hS => ?_)
  rw [fl_snoc] at hP hD
  refine lv_dup hx hb dX7_init_8 rfl ?_
  refine jle_v (gs := [[(h0, .inr (11, [.null, .null, .null, .int 0, .null, .null, .int 0, .null, .int 0, .int 0, .int 0]))]]) (g := [(no1, .inr (4, [.null, .null, .null, .null]))]) (g1 := (fun oa : Nat → Nat => wX0 dA oa B0)) (va_runIN (As := []) (rest := [.ref no1, .ref h0]) ⟨hx, hb, hml, hown, hts⟩ (m_X0_init l dC dI dA gz H.size no1) ⟨va_cnB 0 hts (gi_n bg wd_44) rfl rfl rfl (hN _ ng_0) (hts _ (bg _ wd_2)) hd3_X0_init ⟨Nat.le_of_ble_eq_true rfl, Nat.le_of_ble_eq_true rfl⟩, rfl, hts _ (bg _ wd_43)⟩ ⟨pP_blind, pP_pre1 hP hD hS hA hK hN hZ 1 rfl⟩ rfl rfl hl.1 rfl (lv_room (Nat.le_of_ble_eq_true rfl)) dX7_init_9 ⟨Nat.le_of_ble_eq_true rfl, Nat.le_of_ble_eq_true rfl⟩) hP hD hS hA (fun o1 H locs ho hP hD hS => ?_)
  rw [← ho]
  have hP : va_P (dC, dI) vwCl (([[(h0, .inr (11, [.null, .null, .null, .int 0, .null, .null, .int 0, .null, .int 0, .int 0, .int 0]))], wX0 dA o1 B0] : List va_W).flatten : va_W) H := hP
  have hD : va_D A (([[(h0, .inr (11, [.null, .null, .null, .int 0, .null, .null, .int 0, .null, .int 0, .int 0, .int 0]))], wX0 dA o1 B0] : List va_W).flatten) := hD
  refine va_putF (D := (dC, dI)) (ci := 11) (v := .ref (o1 0)) (ty := .object "StoneChurn$Batch") (C := RX7) (T := TX7) (N := 11) hx hb hts in_X7 tyX7 tyX7_ok nmX7 hown hK hP hD hS 0 rfl rfl 0 (by decide) (hts _ (bg _ wd_274)) (fun _ h9 => h9) rfl hin rfl (by decide +kernel) rfl rfl (Nat.le_of_ble_eq_true rfl) dX7_init_12 (fun H locs hP hD hS => ?_)
  have hP : va_P (dC, dI) vwCl (([[(h0, .inr (11, [.ref (o1 0), .null, .null, .int 0, .null, .null, .int 0, .null, .int 0, .int 0, .int 0]))], wX0 dA o1 B0] : List va_W).flatten : va_W) H := hP
  have hD : va_D A (([[(h0, .inr (11, [.ref (o1 0), .null, .null, .int 0, .null, .null, .int 0, .null, .int 0, .int 0, .int 0]))], wX0 dA o1 B0] : List va_W).flatten) := hD
  refine lv_aload_n hx hb dX7_init_15 rfl (lv_at hl 0 rfl) ?_
  refine va_new (ci := 4) (fs := [.null, .null, .null, .null]) (C := RX0) (T := TX0) (N := 4) hx hb hts (fun w h => bg _ (inB_X0 w h)) tyX0 tyX0_ok hown (hts _ (bg _ wd_40)) (hts _ (bg _ wd_41)) (hts _ (bg _ wd_2)) hK hP hD hS hA rfl (fun j hj => by rcases (show j = 0 ∨ j = 1 ∨ j = 2 ∨ j = 3 by omega) with rfl | rfl | rfl | rfl <;> rfl) (Nat.le_of_ble_eq_true rfl) (Nat.le_of_ble_eq_true rfl) dX7_init_16 (fun no2 H hP hD hS => ?_)
  rw [fl_snoc] at hP hD
  refine lv_dup hx hb dX7_init_19 rfl ?_
  refine jle_v (gs := [[(h0, .inr (11, [.ref (o1 0), .null, .null, .int 0, .null, .null, .int 0, .null, .int 0, .int 0, .int 0]))], wX0 dA o1 B0]) (g := [(no2, .inr (4, [.null, .null, .null, .null]))]) (g1 := (fun oa : Nat → Nat => wX0 dA oa B0)) (va_runIN (As := []) (rest := [.ref no2, .ref h0]) ⟨hx, hb, hml, hown, hts⟩ (m_X0_init l dC dI dA gz H.size no2) ⟨va_cnB 0 hts (gi_n bg wd_44) rfl rfl rfl (hN _ ng_0) (hts _ (bg _ wd_2)) hd3_X0_init ⟨Nat.le_of_ble_eq_true rfl, Nat.le_of_ble_eq_true rfl⟩, rfl, hts _ (bg _ wd_43)⟩ ⟨pP_blind, pP_pre1 hP hD hS hA hK hN hZ 2 rfl⟩ rfl rfl hl.1 rfl (lv_room (Nat.le_of_ble_eq_true rfl)) dX7_init_20 ⟨Nat.le_of_ble_eq_true rfl, Nat.le_of_ble_eq_true rfl⟩) hP hD hS hA (fun o2 H locs ho hP hD hS => ?_)
  rw [← ho]
  have hP : va_P (dC, dI) vwCl (([[(h0, .inr (11, [.ref (o1 0), .null, .null, .int 0, .null, .null, .int 0, .null, .int 0, .int 0, .int 0]))], wX0 dA o1 B0, wX0 dA o2 B0] : List va_W).flatten : va_W) H := hP
  have hD : va_D A (([[(h0, .inr (11, [.ref (o1 0), .null, .null, .int 0, .null, .null, .int 0, .null, .int 0, .int 0, .int 0]))], wX0 dA o1 B0, wX0 dA o2 B0] : List va_W).flatten) := hD
  refine va_putF (D := (dC, dI)) (ci := 11) (v := .ref (o2 0)) (ty := .object "StoneChurn$Batch") (C := RX7) (T := TX7) (N := 11) hx hb hts in_X7 tyX7 tyX7_ok nmX7 hown hK hP hD hS 0 rfl rfl 1 (by decide) (hts _ (bg _ wd_275)) (fun _ h9 => h9) rfl hin rfl (by decide +kernel) rfl rfl (Nat.le_of_ble_eq_true rfl) dX7_init_23 (fun H locs hP hD hS => ?_)
  have hP : va_P (dC, dI) vwCl (([[(h0, .inr (11, [.ref (o1 0), .ref (o2 0), .null, .int 0, .null, .null, .int 0, .null, .int 0, .int 0, .int 0]))], wX0 dA o1 B0, wX0 dA o2 B0] : List va_W).flatten : va_W) H := hP
  have hD : va_D A (([[(h0, .inr (11, [.ref (o1 0), .ref (o2 0), .null, .int 0, .null, .null, .int 0, .null, .int 0, .int 0, .int 0]))], wX0 dA o1 B0, wX0 dA o2 B0] : List va_W).flatten) := hD
  refine lv_aload_n hx hb dX7_init_26 rfl (lv_at hl 0 rfl) ?_
  refine va_new (ci := 4) (fs := [.null, .null, .null, .null]) (C := RX0) (T := TX0) (N := 4) hx hb hts (fun w h => bg _ (inB_X0 w h)) tyX0 tyX0_ok hown (hts _ (bg _ wd_40)) (hts _ (bg _ wd_41)) (hts _ (bg _ wd_2)) hK hP hD hS hA rfl (fun j hj => by rcases (show j = 0 ∨ j = 1 ∨ j = 2 ∨ j = 3 by omega) with rfl | rfl | rfl | rfl <;> rfl) (Nat.le_of_ble_eq_true rfl) (Nat.le_of_ble_eq_true rfl) dX7_init_27 (fun no3 H hP hD hS => ?_)
  rw [fl_snoc] at hP hD
  refine lv_dup hx hb dX7_init_30 rfl ?_
  refine jle_v (gs := [[(h0, .inr (11, [.ref (o1 0), .ref (o2 0), .null, .int 0, .null, .null, .int 0, .null, .int 0, .int 0, .int 0]))], wX0 dA o1 B0, wX0 dA o2 B0]) (g := [(no3, .inr (4, [.null, .null, .null, .null]))]) (g1 := (fun oa : Nat → Nat => wX0 dA oa B0)) (va_runIN (As := []) (rest := [.ref no3, .ref h0]) ⟨hx, hb, hml, hown, hts⟩ (m_X0_init l dC dI dA gz H.size no3) ⟨va_cnB 0 hts (gi_n bg wd_44) rfl rfl rfl (hN _ ng_0) (hts _ (bg _ wd_2)) hd3_X0_init ⟨Nat.le_of_ble_eq_true rfl, Nat.le_of_ble_eq_true rfl⟩, rfl, hts _ (bg _ wd_43)⟩ ⟨pP_blind, pP_pre1 hP hD hS hA hK hN hZ 3 rfl⟩ rfl rfl hl.1 rfl (lv_room (Nat.le_of_ble_eq_true rfl)) dX7_init_31 ⟨Nat.le_of_ble_eq_true rfl, Nat.le_of_ble_eq_true rfl⟩) hP hD hS hA (fun o3 H locs ho hP hD hS => ?_)
  rw [← ho]
  have hP : va_P (dC, dI) vwCl (([[(h0, .inr (11, [.ref (o1 0), .ref (o2 0), .null, .int 0, .null, .null, .int 0, .null, .int 0, .int 0, .int 0]))], wX0 dA o1 B0, wX0 dA o2 B0, wX0 dA o3 B0] : List va_W).flatten : va_W) H := hP
  have hD : va_D A (([[(h0, .inr (11, [.ref (o1 0), .ref (o2 0), .null, .int 0, .null, .null, .int 0, .null, .int 0, .int 0, .int 0]))], wX0 dA o1 B0, wX0 dA o2 B0, wX0 dA o3 B0] : List va_W).flatten) := hD
  refine va_putF (D := (dC, dI)) (ci := 11) (v := .ref (o3 0)) (ty := .object "StoneChurn$Batch") (C := RX7) (T := TX7) (N := 11) hx hb hts in_X7 tyX7 tyX7_ok nmX7 hown hK hP hD hS 0 rfl rfl 2 (by decide) (hts _ (bg _ wd_276)) (fun _ h9 => h9) rfl hin rfl (by decide +kernel) rfl rfl (Nat.le_of_ble_eq_true rfl) dX7_init_34 (fun H locs hP hD hS => ?_)
  have hP : va_P (dC, dI) vwCl (([[(h0, .inr (11, [.ref (o1 0), .ref (o2 0), .ref (o3 0), .int 0, .null, .null, .int 0, .null, .int 0, .int 0, .int 0]))], wX0 dA o1 B0, wX0 dA o2 B0, wX0 dA o3 B0] : List va_W).flatten : va_W) H := hP
  have hD : va_D A (([[(h0, .inr (11, [.ref (o1 0), .ref (o2 0), .ref (o3 0), .int 0, .null, .null, .int 0, .null, .int 0, .int 0, .int 0]))], wX0 dA o1 B0, wX0 dA o2 B0, wX0 dA o3 B0] : List va_W).flatten) := hD
  refine lv_aload_n hx hb dX7_init_37 rfl (lv_at hl 0 rfl) ?_
  refine va_new (ci := 7) (fs := [.null, .int 0, .int 0]) (C := RX3) (T := TX3) (N := 3) hx hb hts (fun w h => bg _ (inB_X3 w h)) tyX3 tyX3_ok hown (hts _ (bg _ wd_183)) (hts _ (bg _ wd_184)) (hts _ (bg _ wd_7)) hK hP hD hS hA rfl (fun j hj => by rcases (show j = 0 ∨ j = 1 ∨ j = 2 by omega) with rfl | rfl | rfl <;> rfl) (Nat.le_of_ble_eq_true rfl) (Nat.le_of_ble_eq_true rfl) dX7_init_38 (fun no4 H hP hD hS => ?_)
  rw [fl_snoc] at hP hD
  refine lv_dup hx hb dX7_init_41 rfl ?_
  refine jle_v (gs := [[(h0, .inr (11, [.ref (o1 0), .ref (o2 0), .ref (o3 0), .int 0, .null, .null, .int 0, .null, .int 0, .int 0, .int 0]))], wX0 dA o1 B0, wX0 dA o2 B0, wX0 dA o3 B0]) (g := [(no4, .inr (7, [.null, .int 0, .int 0]))]) (g1 := (fun oa : Nat → Nat => wX3 dA oa ((0, 0, fun _ => B0) : SX3))) (va_runI (As := []) (rest := [.ref no4, .ref h0]) ⟨hx, hb, hml, hown, hts⟩ (m_X3_init l dC dI dA gz H.size no4) (cwI 0 hts (gi_n bg wd_187) rfl rfl rfl (hts _ (bg _ wd_7)) (hts _ (bg _ wd_185)) (hts _ (bg _ wd_186)) rfl hd3_X3_init ⟨Nat.le_of_ble_eq_true rfl, Nat.le_of_ble_eq_true rfl⟩) ⟨pPo_blind, pPo_of hAO (pP_pre1 hP hD hS hA hK hN hZ 4 rfl)⟩ rfl rfl hl.1 rfl (lv_room (Nat.le_of_ble_eq_true rfl)) dX7_init_42 ⟨Nat.le_of_ble_eq_true rfl, Nat.le_of_ble_eq_true rfl⟩) hP hD hS hA (fun o4 H locs ho hP hD hS => ?_)
  rw [← ho]
  have hP : va_P (dC, dI) vwCl (([[(h0, .inr (11, [.ref (o1 0), .ref (o2 0), .ref (o3 0), .int 0, .null, .null, .int 0, .null, .int 0, .int 0, .int 0]))], wX0 dA o1 B0, wX0 dA o2 B0, wX0 dA o3 B0, wX3 dA o4 ((0, 0, fun _ => B0) : SX3)] : List va_W).flatten : va_W) H := hP
  have hD : va_D A (([[(h0, .inr (11, [.ref (o1 0), .ref (o2 0), .ref (o3 0), .int 0, .null, .null, .int 0, .null, .int 0, .int 0, .int 0]))], wX0 dA o1 B0, wX0 dA o2 B0, wX0 dA o3 B0, wX3 dA o4 ((0, 0, fun _ => B0) : SX3)] : List va_W).flatten) := hD
  refine va_putF (D := (dC, dI)) (ci := 11) (v := .ref (o4 0)) (ty := .object "StoneChurn$History") (C := RX7) (T := TX7) (N := 11) hx hb hts in_X7 tyX7 tyX7_ok nmX7 hown hK hP hD hS 0 rfl rfl 4 (by decide) (hts _ (bg _ wd_278)) (fun _ h9 => h9) rfl hin rfl (by decide +kernel) rfl rfl (Nat.le_of_ble_eq_true rfl) dX7_init_45 (fun H locs hP hD hS => ?_)
  have hP : va_P (dC, dI) vwCl (([[(h0, .inr (11, [.ref (o1 0), .ref (o2 0), .ref (o3 0), .int 0, .ref (o4 0), .null, .int 0, .null, .int 0, .int 0, .int 0]))], wX0 dA o1 B0, wX0 dA o2 B0, wX0 dA o3 B0, wX3 dA o4 ((0, 0, fun _ => B0) : SX3)] : List va_W).flatten : va_W) H := hP
  have hD : va_D A (([[(h0, .inr (11, [.ref (o1 0), .ref (o2 0), .ref (o3 0), .int 0, .ref (o4 0), .null, .int 0, .null, .int 0, .int 0, .int 0]))], wX0 dA o1 B0, wX0 dA o2 B0, wX0 dA o3 B0, wX3 dA o4 ((0, 0, fun _ => B0) : SX3)] : List va_W).flatten) := hD
  refine lv_aload_n hx hb dX7_init_48 rfl (lv_at hl 0 rfl) ?_
  refine va_new (ci := 10) (fs := [.null, .int 0, .int 0, .null, .null, .null, .null, .int 0]) (C := RX6) (T := TX6) (N := 8) hx hb hts (fun w h => bg _ (inB_X6 w h)) tyX6 tyX6_ok hown (hts _ (bg _ wd_203)) (hts _ (bg _ wd_204)) (hts _ (bg _ wd_8)) hK hP hD hS hA rfl (fun j hj => by rcases (show j = 0 ∨ j = 1 ∨ j = 2 ∨ j = 3 ∨ j = 4 ∨ j = 5 ∨ j = 6 ∨ j = 7 by omega) with rfl | rfl | rfl | rfl | rfl | rfl | rfl | rfl <;> rfl) (Nat.le_of_ble_eq_true rfl) (Nat.le_of_ble_eq_true rfl) dX7_init_49 (fun no5 H hP hD hS => ?_)
  rw [fl_snoc] at hP hD
  refine lv_dup hx hb dX7_init_52 rfl ?_
  refine jle_v (gs := [[(h0, .inr (11, [.ref (o1 0), .ref (o2 0), .ref (o3 0), .int 0, .ref (o4 0), .null, .int 0, .null, .int 0, .int 0, .int 0]))], wX0 dA o1 B0, wX0 dA o2 B0, wX0 dA o3 B0, wX3 dA o4 ((0, 0, fun _ => B0) : SX3)]) (g := [(no5, .inr (10, [.null, .int 0, .int 0, .null, .null, .null, .null, .int 0]))]) (g1 := (fun oa : Nat → Nat => wX6 dA oa ((z0, 0, 0, z0, z0, z0, z0, 0) : SX6))) (va_runIN (As := []) (rest := [.ref no5, .ref h0]) ⟨hx, hb, hml, hown, hts⟩ (m_X6_init l dC dI dA gz H.size no5) ⟨va_cnB 0 hts (gi_n bg wd_207) rfl rfl rfl (hN _ ng_6) (hts _ (bg _ wd_8)) hd3_X6_init ⟨Nat.le_of_ble_eq_true rfl, Nat.le_of_ble_eq_true rfl⟩, rfl, hts _ (bg _ wd_206)⟩ ⟨pP_blind, pP_pre1 hP hD hS hA hK hN hZ 5 rfl⟩ rfl rfl hl.1 rfl (lv_room (Nat.le_of_ble_eq_true rfl)) dX7_init_53 ⟨Nat.le_of_ble_eq_true rfl, Nat.le_of_ble_eq_true rfl⟩) hP hD hS hA (fun o5 H locs ho hP hD hS => ?_)
  rw [← ho]
  have hP : va_P (dC, dI) vwCl (([[(h0, .inr (11, [.ref (o1 0), .ref (o2 0), .ref (o3 0), .int 0, .ref (o4 0), .null, .int 0, .null, .int 0, .int 0, .int 0]))], wX0 dA o1 B0, wX0 dA o2 B0, wX0 dA o3 B0, wX3 dA o4 ((0, 0, fun _ => B0) : SX3), wX6 dA o5 ((z0, 0, 0, z0, z0, z0, z0, 0) : SX6)] : List va_W).flatten : va_W) H := hP
  have hD : va_D A (([[(h0, .inr (11, [.ref (o1 0), .ref (o2 0), .ref (o3 0), .int 0, .ref (o4 0), .null, .int 0, .null, .int 0, .int 0, .int 0]))], wX0 dA o1 B0, wX0 dA o2 B0, wX0 dA o3 B0, wX3 dA o4 ((0, 0, fun _ => B0) : SX3), wX6 dA o5 ((z0, 0, 0, z0, z0, z0, z0, 0) : SX6)] : List va_W).flatten) := hD
  refine va_putF (D := (dC, dI)) (ci := 11) (v := .ref (o5 0)) (ty := .object "StoneChurn$Text") (C := RX7) (T := TX7) (N := 11) hx hb hts in_X7 tyX7 tyX7_ok nmX7 hown hK hP hD hS 0 rfl rfl 5 (by decide) (hts _ (bg _ wd_279)) (fun _ h9 => h9) rfl hin rfl (by decide +kernel) rfl rfl (Nat.le_of_ble_eq_true rfl) dX7_init_56 (fun H locs hP hD hS => ?_)
  have hP : va_P (dC, dI) vwCl (([[(h0, .inr (11, [.ref (o1 0), .ref (o2 0), .ref (o3 0), .int 0, .ref (o4 0), .ref (o5 0), .int 0, .null, .int 0, .int 0, .int 0]))], wX0 dA o1 B0, wX0 dA o2 B0, wX0 dA o3 B0, wX3 dA o4 ((0, 0, fun _ => B0) : SX3), wX6 dA o5 ((z0, 0, 0, z0, z0, z0, z0, 0) : SX6)] : List va_W).flatten : va_W) H := hP
  have hD : va_D A (([[(h0, .inr (11, [.ref (o1 0), .ref (o2 0), .ref (o3 0), .int 0, .ref (o4 0), .ref (o5 0), .int 0, .null, .int 0, .int 0, .int 0]))], wX0 dA o1 B0, wX0 dA o2 B0, wX0 dA o3 B0, wX3 dA o4 ((0, 0, fun _ => B0) : SX3), wX6 dA o5 ((z0, 0, 0, z0, z0, z0, z0, 0) : SX6)] : List va_W).flatten) := hD
  refine lv_aload_n hx hb dX7_init_59 rfl (lv_at hl 0 rfl) ?_
  refine lv_iconst (v := (-1)) hx hb dX7_init_60 (by decide) ?_
  refine va_put (D := (dC, dI)) (ci := 11) (v := .int (-1)) (ty := .int) (C := RX7) (T := TX7) (N := 11) hx hb hts in_X7 tyX7 tyX7_ok nmX7 hown hK hP hD hS 0 rfl rfl 6 (by decide) (hts _ (bg _ wd_280)) (fun _ h9 => h9) rfl (by decide +kernel) rfl rfl (Nat.le_of_ble_eq_true rfl) dX7_init_61 (fun H locs hP hD hS => ?_)
  have hP : va_P (dC, dI) vwCl (([[(h0, .inr (11, [.ref (o1 0), .ref (o2 0), .ref (o3 0), .int 0, .ref (o4 0), .ref (o5 0), .int (-1), .null, .int 0, .int 0, .int 0]))], wX0 dA o1 B0, wX0 dA o2 B0, wX0 dA o3 B0, wX3 dA o4 ((0, 0, fun _ => B0) : SX3), wX6 dA o5 ((z0, 0, 0, z0, z0, z0, z0, 0) : SX6)] : List va_W).flatten : va_W) H := hP
  have hD : va_D A (([[(h0, .inr (11, [.ref (o1 0), .ref (o2 0), .ref (o3 0), .int 0, .ref (o4 0), .ref (o5 0), .int (-1), .null, .int 0, .int 0, .int 0]))], wX0 dA o1 B0, wX0 dA o2 B0, wX0 dA o3 B0, wX3 dA o4 ((0, 0, fun _ => B0) : SX3), wX6 dA o5 ((z0, 0, 0, z0, z0, z0, z0, 0) : SX6)] : List va_W).flatten) := hD
  refine lv_aload_n hx hb dX7_init_64 rfl (lv_at hl 0 rfl) ?_
  refine va_new (ci := 1) (fs := [.null, .int 0, .int 0, .int 0]) (C := RJ4) (T := TJ4) (N := 4) hx hb hts (fun w h => bg _ (inB_J4 w h)) tyJ4 tyJ4_ok hown (hts _ (bg _ wd_241)) (hts _ (bg _ wd_242)) (hts _ (bg _ wd_10)) hK hP hD hS hA rfl (fun j hj => by rcases (show j = 0 ∨ j = 1 ∨ j = 2 ∨ j = 3 by omega) with rfl | rfl | rfl | rfl <;> rfl) (Nat.le_of_ble_eq_true rfl) (Nat.le_of_ble_eq_true rfl) dX7_init_65 (fun nq6 H hP hD hS => ?_)
  rw [fl_snoc] at hP hD
  refine lv_dup hx hb dX7_init_68 rfl ?_
  refine jle_v (gs := [[(h0, .inr (11, [.ref (o1 0), .ref (o2 0), .ref (o3 0), .int 0, .ref (o4 0), .ref (o5 0), .int (-1), .null, .int 0, .int 0, .int 0]))], wX0 dA o1 B0, wX0 dA o2 B0, wX0 dA o3 B0, wX3 dA o4 ((0, 0, fun _ => B0) : SX3), wX6 dA o5 ((z0, 0, 0, z0, z0, z0, z0, 0) : SX6)]) (g := [(nq6, .inr (1, [.null, .int 0, .int 0, .int 0]))]) (g1 := (fun q : Nat => wL dA nq6 q 0 0 16 z0)) (va_runI (As := []) (rest := [.ref nq6, .ref h0]) ⟨hx, hb, hml, hown, hts⟩ (m_J4_init_da8c8 l dC dI dA gz H.size nq6) (cwI 0 hts (gi_n bg wd_245) rfl rfl rfl (hts _ (bg _ wd_10)) (hts _ (bg _ wd_243)) (hts _ (bg _ wd_244)) rfl hd3_J4_init_da8c8 ⟨Nat.le_of_ble_eq_true rfl, Nat.le_of_ble_eq_true rfl⟩) ⟨pP_blind, pP_pre1 hP hD hS hA hK hN hZ 6 rfl⟩ rfl rfl hl.1 rfl (lv_room (Nat.le_of_ble_eq_true rfl)) dX7_init_69 ⟨Nat.le_of_ble_eq_true rfl, Nat.le_of_ble_eq_true rfl⟩) hP hD hS hA (fun q6 H locs _ hP hD hS => ?_)
  have hP : va_P (dC, dI) vwCl (([[(h0, .inr (11, [.ref (o1 0), .ref (o2 0), .ref (o3 0), .int 0, .ref (o4 0), .ref (o5 0), .int (-1), .null, .int 0, .int 0, .int 0]))], wX0 dA o1 B0, wX0 dA o2 B0, wX0 dA o3 B0, wX3 dA o4 ((0, 0, fun _ => B0) : SX3), wX6 dA o5 ((z0, 0, 0, z0, z0, z0, z0, 0) : SX6), wL dA nq6 q6 0 0 16 z0] : List va_W).flatten : va_W) H := hP
  have hD : va_D A (([[(h0, .inr (11, [.ref (o1 0), .ref (o2 0), .ref (o3 0), .int 0, .ref (o4 0), .ref (o5 0), .int (-1), .null, .int 0, .int 0, .int 0]))], wX0 dA o1 B0, wX0 dA o2 B0, wX0 dA o3 B0, wX3 dA o4 ((0, 0, fun _ => B0) : SX3), wX6 dA o5 ((z0, 0, 0, z0, z0, z0, z0, 0) : SX6), wL dA nq6 q6 0 0 16 z0] : List va_W).flatten) := hD
  refine va_putF (D := (dC, dI)) (ci := 11) (v := .ref nq6) (ty := .object "java/lang/StringBuilder") (C := RX7) (T := TX7) (N := 11) hx hb hts in_X7 tyX7 tyX7_ok nmX7 hown hK hP hD hS 0 rfl rfl 7 (by decide) (hts _ (bg _ wd_281)) (fun _ h9 => h9) rfl hin rfl (by decide +kernel) rfl rfl (Nat.le_of_ble_eq_true rfl) dX7_init_72 (fun H locs hP hD hS => ?_)
  have hP : va_P (dC, dI) vwCl (([[(h0, .inr (11, [.ref (o1 0), .ref (o2 0), .ref (o3 0), .int 0, .ref (o4 0), .ref (o5 0), .int (-1), .ref nq6, .int 0, .int 0, .int 0]))], wX0 dA o1 B0, wX0 dA o2 B0, wX0 dA o3 B0, wX3 dA o4 ((0, 0, fun _ => B0) : SX3), wX6 dA o5 ((z0, 0, 0, z0, z0, z0, z0, 0) : SX6), wL dA nq6 q6 0 0 16 z0] : List va_W).flatten : va_W) H := hP
  have hD : va_D A (([[(h0, .inr (11, [.ref (o1 0), .ref (o2 0), .ref (o3 0), .int 0, .ref (o4 0), .ref (o5 0), .int (-1), .ref nq6, .int 0, .int 0, .int 0]))], wX0 dA o1 B0, wX0 dA o2 B0, wX0 dA o3 B0, wX3 dA o4 ((0, 0, fun _ => B0) : SX3), wX6 dA o5 ((z0, 0, 0, z0, z0, z0, z0, 0) : SX6), wL dA nq6 q6 0 0 16 z0] : List va_W).flatten) := hD
  obtain ⟨oa, hoa⟩ : ∃ oa : Nat → Nat, oa = (fun k => if k = 0 then h0 else if k < 14 then o1 (k - 1) else if k < 27 then o2 (k - 14) else if k < 40 then o3 (k - 27) else if k < 146 then o4 (k - 40) else if k < 152 then o5 (k - 146) else nq6) := ⟨_, rfl⟩
  have ho1 : ∀ k, k < 13 → o1 k = oa (1 + k) := by
    intro k hk
    rw [hoa]
    show o1 k = (if 1 + k = 0 then h0 else if 1 + k < 14 then o1 (1 + k - 1) else if 1 + k < 27 then o2 (1 + k - 14) else if 1 + k < 40 then o3 (1 + k - 27) else if 1 + k < 146 then o4 (1 + k - 40) else if 1 + k < 152 then o5 (1 + k - 146) else nq6)
    rw [if_neg (by omega), if_pos (by omega), Nat.add_sub_cancel_left]
  have ho2 : ∀ k, k < 13 → o2 k = oa (14 + k) := by
    intro k hk
    rw [hoa]
    show o2 k = (if 14 + k = 0 then h0 else if 14 + k < 14 then o1 (14 + k - 1) else if 14 + k < 27 then o2 (14 + k - 14) else if 14 + k < 40 then o3 (14 + k - 27) else if 14 + k < 146 then o4 (14 + k - 40) else if 14 + k < 152 then o5 (14 + k - 146) else nq6)
    rw [if_neg (by omega), if_neg (by omega), if_pos (by omega), Nat.add_sub_cancel_left]
  have ho3 : ∀ k, k < 13 → o3 k = oa (27 + k) := by
    intro k hk
    rw [hoa]
    show o3 k = (if 27 + k = 0 then h0 else if 27 + k < 14 then o1 (27 + k - 1) else if 27 + k < 27 then o2 (27 + k - 14) else if 27 + k < 40 then o3 (27 + k - 27) else if 27 + k < 146 then o4 (27 + k - 40) else if 27 + k < 152 then o5 (27 + k - 146) else nq6)
    rw [if_neg (by omega), if_neg (by omega), if_neg (by omega), if_pos (by omega), Nat.add_sub_cancel_left]
  have ho4 : ∀ k, k < 106 → o4 k = oa (40 + k) := by
    intro k hk
    rw [hoa]
    show o4 k = (if 40 + k = 0 then h0 else if 40 + k < 14 then o1 (40 + k - 1) else if 40 + k < 27 then o2 (40 + k - 14) else if 40 + k < 40 then o3 (40 + k - 27) else if 40 + k < 146 then o4 (40 + k - 40) else if 40 + k < 152 then o5 (40 + k - 146) else nq6)
    rw [if_neg (by omega), if_neg (by omega), if_neg (by omega), if_neg (by omega), if_pos (by omega), Nat.add_sub_cancel_left]
  have ho5 : ∀ k, k < 6 → o5 k = oa (146 + k) := by
    intro k hk
    rw [hoa]
    show o5 k = (if 146 + k = 0 then h0 else if 146 + k < 14 then o1 (146 + k - 1) else if 146 + k < 27 then o2 (146 + k - 14) else if 146 + k < 40 then o3 (146 + k - 27) else if 146 + k < 146 then o4 (146 + k - 40) else if 146 + k < 152 then o5 (146 + k - 146) else nq6)
    rw [if_neg (by omega), if_neg (by omega), if_neg (by omega), if_neg (by omega), if_neg (by omega), if_pos (by omega), Nat.add_sub_cancel_left]
  have e1 : wX0 dA o1 B0 = wX0 dA (fun k => oa (1 + k)) B0 := wX0_cg ho1
  have e2 : wX0 dA o2 B0 = wX0 dA (fun k => oa (14 + k)) B0 := wX0_cg ho2
  have e3 : wX0 dA o3 B0 = wX0 dA (fun k => oa (27 + k)) B0 := wX0_cg ho3
  have e5 : wX6 dA o5 ((z0, 0, 0, z0, z0, z0, z0, 0) : SX6) = wX6 dA (fun k => oa (146 + k)) ((z0, 0, 0, z0, z0, z0, z0, 0) : SX6) := wX6_cg ho5
  have hPh : va_P (dC, dI) vwCl (wX3 dA (fun k => oa (40 + k)) ((0, 0, fun _ => B0) : SX3)) H := wX3_mv ho4 (seg_P hP 4 rfl)
  have hP2 : va_P (dC, dI) vwCl (([[(h0, .inr (11, [.ref (o1 0), .ref (o2 0), .ref (o3 0), .int 0, .ref (o4 0), .ref (o5 0), .int (-1), .ref nq6, .int 0, .int 0, .int 0]))], wX0 dA o1 B0, wX0 dA o2 B0, wX0 dA o3 B0, wX3 dA (fun k => oa (40 + k)) ((0, 0, fun _ => B0) : SX3), wX6 dA o5 ((z0, 0, 0, z0, z0, z0, z0, 0) : SX6), wL dA nq6 q6 0 0 16 z0] : List va_W).flatten) H := va_P.app (seg_P hP 0 rfl) (va_P.app (seg_P hP 1 rfl) (va_P.app (seg_P hP 2 rfl) (va_P.app (seg_P hP 3 rfl) (va_P.app (hPh) (va_P.app (seg_P hP 5 rfl) (va_P.app (seg_P hP 6 rfl) (P_nil)))))))
  have hx3 : (wX3 dA o4 ((0, 0, fun _ => B0) : SX3)).map (fun q => q.1) = (wX3 dA (fun k => oa (40 + k)) ((0, 0, fun _ => B0) : SX3)).map (fun q => q.1) := wX3_ad ho4
  have hD2 : va_D A (([[(h0, .inr (11, [.ref (o1 0), .ref (o2 0), .ref (o3 0), .int 0, .ref (o4 0), .ref (o5 0), .int (-1), .ref nq6, .int 0, .int 0, .int 0]))], wX0 dA o1 B0, wX0 dA o2 B0, wX0 dA o3 B0, wX3 dA (fun k => oa (40 + k)) ((0, 0, fun _ => B0) : SX3), wX6 dA o5 ((z0, 0, 0, z0, z0, z0, z0, 0) : SX6), wL dA nq6 q6 0 0 16 z0] : List va_W).flatten) := D_addr hD (by simp only [List.flatten_cons, List.flatten_nil, List.map_append, hx3])
  have hW : ([[(h0, .inr (11, [.ref (o1 0), .ref (o2 0), .ref (o3 0), .int 0, .ref (o4 0), .ref (o5 0), .int (-1), .ref nq6, .int 0, .int 0, .int 0]))], wX0 dA o1 B0, wX0 dA o2 B0, wX0 dA o3 B0, wX3 dA (fun k => oa (40 + k)) ((0, 0, fun _ => B0) : SX3), wX6 dA o5 ((z0, 0, 0, z0, z0, z0, z0, 0) : SX6), wL dA nq6 q6 0 0 16 z0] : List va_W).flatten = wX7 dA oa S0 (q6, 0, 16, z0, nI 0) := by
    rw [e1, e2, e3, e5]
    subst hoa
    rfl
  rw [hW] at hP2 hD2
  refine W.widen (k := 153) (n := 1262) (Nat.le_of_ble_eq_true rfl) (Nat.le_of_ble_eq_true rfl) ?_
  exact W.vret hx hb hr (fun t ht hW => ⟨⟨(oa, q6), rfl, by subst hoa; rfl, by rw [ht]; exact hP2, hD2⟩, hS.F ht⟩) hS.2.2 dX7_init_75
