/-! X7_writeCycle -/
def f_X7_writeCycle_18 (zb : SX0) (zt : SX0) (zn : SX0) (zv : Int32) (zh : SX3) (zx : SX6) (zk : Int32) (zd : Int32) (ze : Int32) (zc : Int32) : Nat → Int32 → Nat → Option (Int32)
  | 0, _, _ => none
  | n9 + 1, x2, n =>
  (if zb.1.2.2.2.1 ≤ x2 then some (nI n) else
  (if x2 ≤ 0 then if x2 < 0 ∨ 8 ≤ x2.toNatClampNeg then none else
  if 255 < (zb.1.1 x2.toNatClampNeg) then none else
  if 142 < n + 1 then none else
  if x2 < 0 ∨ 8 ≤ x2.toNatClampNeg then none else
  if ¬ ((zb.1.2.1 x2.toNatClampNeg).toNatClampNeg < 1000 ∧ (zb.1.2.1 x2.toNatClampNeg) = nI (zb.1.2.1 x2.toNatClampNeg).toNatClampNeg) then none else
  if 142 < (n + 1) + sb_dg (zb.1.2.1 x2.toNatClampNeg).toNatClampNeg then none else
  if 142 < ((n + 1) + sb_dg (zb.1.2.1 x2.toNatClampNeg).toNatClampNeg) + 1 then none else
  if x2 < 0 ∨ 8 ≤ x2.toNatClampNeg then none else
  if ¬ ((zb.1.2.2.1 x2.toNatClampNeg).toNatClampNeg < 1000 ∧ (zb.1.2.2.1 x2.toNatClampNeg) = nI (zb.1.2.2.1 x2.toNatClampNeg).toNatClampNeg) then none else
  if 142 < (((n + 1) + sb_dg (zb.1.2.1 x2.toNatClampNeg).toNatClampNeg) + 1) + sb_dg (zb.1.2.2.1 x2.toNatClampNeg).toNatClampNeg then none else
  (if x2 = zb.1.2.2.2.2.1 then if 142 < ((((n + 1) + sb_dg (zb.1.2.1 x2.toNatClampNeg).toNatClampNeg) + 1) + sb_dg (zb.1.2.2.1 x2.toNatClampNeg).toNatClampNeg) + 1 then none else
  f_X7_writeCycle_18 zb zt zn zv zh zx zk zd ze zc n9 (x2 + 1) (((((n + 1) + sb_dg (zb.1.2.1 x2.toNatClampNeg).toNatClampNeg) + 1) + sb_dg (zb.1.2.2.1 x2.toNatClampNeg).toNatClampNeg) + 1) else
  f_X7_writeCycle_18 zb zt zn zv zh zx zk zd ze zc n9 (x2 + 1) ((((n + 1) + sb_dg (zb.1.2.1 x2.toNatClampNeg).toNatClampNeg) + 1) + sb_dg (zb.1.2.2.1 x2.toNatClampNeg).toNatClampNeg)) else
  if 142 < n + 1 then none else
  if x2 < 0 ∨ 8 ≤ x2.toNatClampNeg then none else
  if 255 < (zb.1.1 x2.toNatClampNeg) then none else
  if 142 < (n + 1) + 1 then none else
  if x2 < 0 ∨ 8 ≤ x2.toNatClampNeg then none else
  if ¬ ((zb.1.2.1 x2.toNatClampNeg).toNatClampNeg < 1000 ∧ (zb.1.2.1 x2.toNatClampNeg) = nI (zb.1.2.1 x2.toNatClampNeg).toNatClampNeg) then none else
  if 142 < ((n + 1) + 1) + sb_dg (zb.1.2.1 x2.toNatClampNeg).toNatClampNeg then none else
  if 142 < (((n + 1) + 1) + sb_dg (zb.1.2.1 x2.toNatClampNeg).toNatClampNeg) + 1 then none else
  if x2 < 0 ∨ 8 ≤ x2.toNatClampNeg then none else
  if ¬ ((zb.1.2.2.1 x2.toNatClampNeg).toNatClampNeg < 1000 ∧ (zb.1.2.2.1 x2.toNatClampNeg) = nI (zb.1.2.2.1 x2.toNatClampNeg).toNatClampNeg) then none else
  if 142 < ((((n + 1) + 1) + sb_dg (zb.1.2.1 x2.toNatClampNeg).toNatClampNeg) + 1) + sb_dg (zb.1.2.2.1 x2.toNatClampNeg).toNatClampNeg then none else
  (if x2 = zb.1.2.2.2.2.1 then if 142 < (((((n + 1) + 1) + sb_dg (zb.1.2.1 x2.toNatClampNeg).toNatClampNeg) + 1) + sb_dg (zb.1.2.2.1 x2.toNatClampNeg).toNatClampNeg) + 1 then none else
  f_X7_writeCycle_18 zb zt zn zv zh zx zk zd ze zc n9 (x2 + 1) ((((((n + 1) + 1) + sb_dg (zb.1.2.1 x2.toNatClampNeg).toNatClampNeg) + 1) + sb_dg (zb.1.2.2.1 x2.toNatClampNeg).toNatClampNeg) + 1) else
  f_X7_writeCycle_18 zb zt zn zv zh zx zk zd ze zc n9 (x2 + 1) (((((n + 1) + 1) + sb_dg (zb.1.2.1 x2.toNatClampNeg).toNatClampNeg) + 1) + sb_dg (zb.1.2.2.1 x2.toNatClampNeg).toNatClampNeg))))
def f_X7_writeCycle (zb : SX0) (zt : SX0) (zn : SX0) (zv : Int32) (zh : SX3) (zx : SX6) (zk : Int32) (zd : Int32) (ze : Int32) (zc : Int32) : Option (Int32) :=
  f_X7_writeCycle_18 zb zt zn zv zh zx zk zd ze zc 20 0 0
set_option maxRecDepth 100000 in
set_option maxHeartbeats 4000000 in
theorem m_X7_writeCycle (l : Launch) (dC : Nat → ClassId) (dI : Nat → Nat → Nat) (dA gz : Nat → Nat) (oa : Nat → Nat) (sz : Nat) (b0 : Nat) (ml0 : Int32) (n0 q0 : Nat) (f0 : Ar) (hn0 : n0 ≤ q0) (hq0 : q0 ≤ 284) (hf0 : sb_Fit f0) (zb : SX0) (zt : SX0) (zn : SX0) (zv : Int32) (zh : SX3) (zx : SX6) (zk : Int32) (zd : Int32) (ze : Int32) (zc : Int32) (rr : Int32) (hf : f_X7_writeCycle zb zt zn zv zh zx zk zd ze zc = some rr) : Met l yX7_writeCycle ws_X7_writeCycle ({ frames := 46, cells := 284, slots := 568, locals := 2000 } : Room) (va_Pc [.ref (oa 0)] (pP (dC, dI) dA gz (wX7 dA oa (zb, zt, zn, zv, zh, zx, zk, zd, ze, zc) (b0, ml0, q0, f0, nI n0)) sz)) (va_Qi (S := Nat × Int32 × Nat × Nat × Ar) (fun r' u => r' = rr ∧ u.2.2.1 ≤ u.2.2.2.1 ∧ u.2.2.2.1 ≤ 284 ∧ sb_Fit u.2.2.2.2) (fun u t => pQ (dC, dI) (va_A (wX7 dA oa (zb, zt, zn, zv, zh, zx, zk, zd, ze, zc) (b0, ml0, q0, f0, nI n0)) sz) (wX7 dA oa (zb, zt, zn, zv, zh, zx, zk, zd, ze, zc) (u.1, u.2.1, u.2.2.2.1, u.2.2.2.2, nI u.2.2.1)) t) (va_A (wX7 dA oa (zb, zt, zn, zv, zh, zx, zk, zd, ze, zc) (b0, ml0, q0, f0, nI n0)) sz)) 284 568 (va_A (wX7 dA oa (zb, zt, zn, zv, zh, zx, zk, zd, ze, zc) (b0, ml0, q0, f0, nI n0)) sz) := by
  refine Met.ofW (cc := cX7_writeCycle) (maxL := 3) (ret := (some .int)) (by decide) rfl ?_
  intro p e s m args below meth c s₁ B hml hv
  obtain ⟨rfl, hsz, hP, hK, hD0, hN, hZ⟩ := hv
  have hnq : n0 ≤ q0 := hn0
  have hqq : q0 ≤ q0 := Nat.le_refl _
  have hq9 : q0 ≤ 284 := hq0
  have hfit : sb_Fit f0 := hf0
  have hx := B.exec
  have hb := B.bytes
  have hr := B.returns
  have hts := atoms_spec (ws := ws_X7_writeCycle) B.pre
  have htb : ∀ w ∈ BIG, w.before _ s = true := fun w h => hts w (bg w h)
  have hown : s.vm.findClass RX7 = some m.cls := findClass_of_methodNamed B.named
  have hlocks := B.notSynchronized
  subst hsz
  have hD := hD0.self (sz := s.heap.size)
  generalize hAe : va_A (wX7 dA oa (zb, zt, zn, zv, zh, zx, zk, zd, ze, zc) (b0, ml0, q0, f0, nI n0)) s.heap.size = A at hD hZ ⊢
  have hA : ∀ q : Nat, s.heap.size ≤ q → A q := fun q h => by rw [← hAe]; exact Or.inr h
  have hS : va_S A s.heap s.heap [] := va_S.rf
  have hP : va_P (dC, dI) vwCl ([[(oa 0, .inr (11, [.ref (oa 1), .ref (oa 14), .ref (oa 27), .int zv, .ref (oa 40), .ref (oa 146), .int zk, .ref (oa 152), .int zd, .int ze, .int zc]))], wX0 dA (fun k => oa (1 + k)) zb, wX0 dA (fun k => oa (14 + k)) zt, wX0 dA (fun k => oa (27 + k)) zn, wX3 dA (fun k => oa (40 + k)) zh, wX6 dA (fun k => oa (146 + k)) zx, wLN dA (oa 152) (b0, ml0, q0, f0, nI n0)].flatten) s.heap := hP
  have hD : va_D A ([[(oa 0, .inr (11, [.ref (oa 1), .ref (oa 14), .ref (oa 27), .int zv, .ref (oa 40), .ref (oa 146), .int zk, .ref (oa 152), .int zd, .int ze, .int zc]))], wX0 dA (fun k => oa (1 + k)) zb, wX0 dA (fun k => oa (14 + k)) zt, wX0 dA (fun k => oa (27 + k)) zn, wX3 dA (fun k => oa (40 + k)) zh, wX6 dA (fun k => oa (146 + k)) zx, wLN dA (oa 152) (b0, ml0, q0, f0, nI n0)].flatten) := hD
  have hl := lv_entry [.ref (oa 0)] (n := 3) (Nat.le_of_ble_eq_true rfl)
  rw [lg_entry_eq]
  generalize (lg_sl [.ref (oa 0)] ++ List.replicate (3 - (lg_sl [.ref (oa 0)]).length) Slot.unset).toArray = ls at hl ⊢
  have hl : lv_has ls 3 [(0, .ref (oa 0))] := hl
  have in_X0 : ∀ w ∈ wsX00, w ∈ ws_X7_writeCycle := fun w h => bg _ (inB_X0 w h)
  have in_X2 : ∀ w ∈ wsX20, w ∈ ws_X7_writeCycle := fun w h => bg _ (inB_X2 w h)
  have in_X7 : ∀ w ∈ wsX70, w ∈ ws_X7_writeCycle := fun w h => bg _ (inB_X7 w h)
  have cut18 : ∀  (n9 : Nat) (x2 : Int32) (n b : Nat) (ml : Int32) (q : Nat) (f : Ar) (H : Heap) (locs : List Loc) (ls : Array Slot), f_X7_writeCycle_18 zb zt zn zv zh zx zk zd ze zc n9 x2 n = some rr → n ≤ q → q0 ≤ q → q ≤ 284 → sb_Fit f → va_P (dC, dI) vwCl ([[(oa 0, .inr (11, [.ref (oa 1), .ref (oa 14), .ref (oa 27), .int zv, .ref (oa 40), .ref (oa 146), .int zk, .ref (oa 152), .int zd, .int ze, .int zc]))], wX0 dA (fun k => oa (1 + k)) zb, wX0 dA (fun k => oa (14 + k)) zt, wX0 dA (fun k => oa (27 + k)) zn, wX3 dA (fun k => oa (40 + k)) zh, wX6 dA (fun k => oa (146 + k)) zx, wLN dA (oa 152) (b, ml, q, f, nI n)].flatten) H → va_D A ([[(oa 0, .inr (11, [.ref (oa 1), .ref (oa 14), .ref (oa 27), .int zv, .ref (oa 40), .ref (oa 146), .int zk, .ref (oa 152), .int zd, .int ze, .int zc]))], wX0 dA (fun k => oa (1 + k)) zb, wX0 dA (fun k => oa (14 + k)) zt, wX0 dA (fun k => oa (27 + k)) zn, wX3 dA (fun k => oa (40 + k)) zh, wX6 dA (fun k => oa (146 + k)) zx, wLN dA (oa 152) (b, ml, q, f, nI n)].flatten) → va_S A s.heap H locs → lv_has ls 3 [(0, .ref (oa 0)), (1, .ref (oa 2)), (2, .int x2)] → W p l e (headSpec ws_X7_writeCycle ({ frames := 46, cells := 284, slots := 568, locals := 2000 } : Room)).room s m ([.ref (oa 0)] : List Value).toArray below meth c H locs (q - q0) (2 * (q - q0)) (MQ below (va_Qi (S := Nat × Int32 × Nat × Nat × Ar) (fun r' u => r' = rr ∧ u.2.2.1 ≤ u.2.2.2.1 ∧ u.2.2.2.1 ≤ 284 ∧ sb_Fit u.2.2.2.2) (fun u t => pQ (dC, dI) A (wX7 dA oa (zb, zt, zn, zv, zh, zx, zk, zd, ze, zc) (u.1, u.2.1, u.2.2.2.1, u.2.2.2.2, nI u.2.2.1)) t) A) ([.ref (oa 0)] : List Value).toArray s 284 568 A) (F0 m 18 ls []) := by
    intro  n9
    induction n9 with
    | zero =>
      intro x2 n b ml q f H locs ls hf
      rw [f_X7_writeCycle_18] at hf
      cases hf
    | succ n9 ih =>
      intro x2 n b ml q f H locs ls hf hnq hqq hq9 hfit hP hD hS hl
      rw [f_X7_writeCycle_18] at hf
      refine lv_iload_n hx hb dX7_writeCycle_18 rfl (lv_at hl 2 rfl) ?_
      refine lv_aload_n hx hb dX7_writeCycle_19 rfl (lv_at hl 1 rfl) ?_
      refine va_get (D := (dC, dI)) (ci := 6) (v := .int zb.1.2.2.2.1) (C := RX2) (T := TX2) (N := 7) hx hb hts in_X2 hown hK hP 2 rfl rfl 3 (by decide) (hts _ (bg _ wd_62)) (fun _ h9 => h9) rfl dX7_writeCycle_20 ?_
      refine lv_icmp_ge (tgt := 116) hx hb dX7_writeCycle_23 (by decide) (fun q1 => ?_) (fun q1 => ?_)
      · have hf := it q1 hf
        refine lv_aload_n hx hb dX7_writeCycle_116 rfl (lv_at hl 0 rfl) ?_
        refine va_get (D := (dC, dI)) (ci := 11) (v := .ref (oa 152)) (C := RX7) (T := TX7) (N := 11) hx hb hts in_X7 hown hK hP 0 rfl rfl 7 (by decide) (hts _ (bg _ wd_281)) (fun _ h9 => h9) rfl dX7_writeCycle_117 ?_
        refine jgr_i (va_runV (As := []) (rest := []) ⟨hx, hb, hml, hown, hts⟩ (m_J4_length_8abf5 l dC dI dA gz H.size (oa 152) b ml n q f) (cwV 0 hts (gi_v bg wd_1371 wd_1284 wd_1469 wd_10 wd_1285) rfl rfl rfl hd_J4_length_8abf5 ⟨Nat.le_of_ble_eq_true rfl, Nat.le_of_ble_eq_true rfl⟩) ⟨pP_blind, va_recv (ci := 1) (q0 := 0) hK (seg_P hP 6 rfl) rfl rfl, pP_pre1 hP hD hS hA hK hN hZ 6 rfl⟩ rfl rfl hl.1 rfl (lv_room (Nat.le_of_ble_eq_true rfl)) dX7_writeCycle_120 ⟨by (show _ ≤ 284); (try dsimp only); omega, by (show _ ≤ 568); (try dsimp only); omega⟩) hP hD hS hA 6 rfl (fun H locs hP hS => ?_)
        refine W.widen (k := 284) (n := 568) (by (try dsimp only); omega) (by (try dsimp only); omega) ?_
        exact W.iret hx hb hr (fun t ht hW => ⟨⟨_, (b, ml, n, q, f), rfl, ⟨sm hf, hnq, hq9, hfit⟩, by rw [ht]; exact hP, hD⟩, hS.F ht⟩) hS.2.2 dX7_writeCycle_123
      · have hf := ie q1 hf
        refine lv_iload_n hx hb dX7_writeCycle_26 rfl (lv_at hl 2 rfl) ?_
        refine lv_if_le (tgt := 40) hx hb dX7_writeCycle_27 (by decide) (fun q2 => ?_) (fun q2 => ?_)
        · have hf := it q2 hf
          refine lv_aload_n hx hb dX7_writeCycle_40 rfl (lv_at hl 0 rfl) ?_
          refine va_get (D := (dC, dI)) (ci := 11) (v := .ref (oa 152)) (C := RX7) (T := TX7) (N := 11) hx hb hts in_X7 hown hK hP 0 rfl rfl 7 (by decide) (hts _ (bg _ wd_281)) (fun _ h9 => h9) rfl dX7_writeCycle_41 ?_
          refine lv_aload_n hx hb dX7_writeCycle_44 rfl (lv_at hl 1 rfl) ?_
          refine va_get (D := (dC, dI)) (ci := 6) (v := .ref (oa 3)) (C := RX2) (T := TX2) (N := 7) hx hb hts in_X2 hown hK hP 2 rfl rfl 0 (by decide) (hts _ (bg _ wd_53)) (fun _ h9 => h9) rfl dX7_writeCycle_45 ?_
          refine lv_iload_n hx hb dX7_writeCycle_48 rfl (lv_at hl 2 rfl) ?_
          obtain ⟨z3, hf⟩ := gd hf
          refine va_cald hx hb hK hP 3 0 rfl rfl z3 dX7_writeCycle_49 ?_
          obtain ⟨z7, hf⟩ := gd hf
          obtain ⟨z4, hf⟩ := gd hf
          have hg1 := sb_cap_ge (n + 1) q
          have hg2 := sb_cap_gem (n + 1) q
          have hg3 := cap_le (k := (n + 1)) (q := q) (by omega) hq9
          have hg4 := room_d (k := (n + 1)) (q := q) (by omega) (by omega)
          refine jle_r (gs := [[(oa 0, .inr (11, [.ref (oa 1), .ref (oa 14), .ref (oa 27), .int zv, .ref (oa 40), .ref (oa 146), .int zk, .ref (oa 152), .int zd, .int ze, .int zc]))], wX0 dA (fun k => oa (1 + k)) zb, wX0 dA (fun k => oa (14 + k)) zt, wX0 dA (fun k => oa (27 + k)) zn, wX3 dA (fun k => oa (40 + k)) zh, wX6 dA (fun k => oa (146 + k)) zx]) (ad := fun _ : Nat × Ar => oa 152) (g1 := fun u : Nat × Ar => wL dA (oa 152) u.1 ml (n + 1) (sb_cap (n + 1) q) u.2) (va_runV (As := [.int (zb.1.1 x2.toNatClampNeg)]) (rest := []) ⟨hx, hb, hml, hown, hts⟩ (m_J4_append_cf468 l dC dI dA gz H.size (oa 152) b ml n q f (sb_cap (n + 1) q - q) (2 * (sb_cap (n + 1) q - q)) (zb.1.1 x2.toNatClampNeg) z7 hg4 (by omega) (by omega) hfit) (cwV 1 hts (gi_v bg wd_1358 wd_1359 wd_1360 wd_10 wd_1361) rfl rfl rfl hd_J4_append_cf468 ⟨Nat.le_of_ble_eq_true rfl, Nat.le_of_ble_eq_true rfl⟩) ⟨pP_blind, va_recv (ci := 1) (q0 := 0) hK (seg_P hP 6 rfl) rfl rfl, pP_pre1 hP hD hS hA hK hN hZ 6 rfl⟩ rfl rfl hl.1 rfl (lv_room (Nat.le_of_ble_eq_true rfl)) dX7_writeCycle_50 ⟨by (show _ ≤ 284); (try dsimp only); omega, by (show _ ≤ 568); (try dsimp only); omega⟩) hP hD hS hA (fun u5 H locs hfit hP hD hS => ?_)
          refine W.widen (k := (sb_cap (n + 1) q) - q0) (n := 2 * ((sb_cap (n + 1) q) - q0)) (by (try dsimp only); omega) (by (try dsimp only); omega) ?_
          clear hg4
          generalize sb_cap (n + 1) q = q96 at hP hD hg1 hg2 hg3 ⊢
          have hqq : q0 ≤ q96 := by omega
          have hnq : (n + 1) ≤ q96 := hg1
          have hq9 : q96 ≤ 284 := hg3
          have hfit : sb_Fit u5.2 := hfit
          clear hg1 hg2 hg3
          have hP : va_P (dC, dI) vwCl ([[(oa 0, .inr (11, [.ref (oa 1), .ref (oa 14), .ref (oa 27), .int zv, .ref (oa 40), .ref (oa 146), .int zk, .ref (oa 152), .int zd, .int ze, .int zc]))], wX0 dA (fun k => oa (1 + k)) zb, wX0 dA (fun k => oa (14 + k)) zt, wX0 dA (fun k => oa (27 + k)) zn, wX3 dA (fun k => oa (40 + k)) zh, wX6 dA (fun k => oa (146 + k)) zx, wLN dA (oa 152) (u5.1, ml, q96, u5.2, nI (n + 1))].flatten : va_W) H := hP
          have hD : va_D A ([[(oa 0, .inr (11, [.ref (oa 1), .ref (oa 14), .ref (oa 27), .int zv, .ref (oa 40), .ref (oa 146), .int zk, .ref (oa 152), .int zd, .int ze, .int zc]))], wX0 dA (fun k => oa (1 + k)) zb, wX0 dA (fun k => oa (14 + k)) zt, wX0 dA (fun k => oa (27 + k)) zn, wX3 dA (fun k => oa (40 + k)) zh, wX6 dA (fun k => oa (146 + k)) zx, wLN dA (oa 152) (u5.1, ml, q96, u5.2, nI (n + 1))].flatten) := hD
          refine lv_pop hx hb dX7_writeCycle_53 rfl ?_
          refine lv_aload_n hx hb dX7_writeCycle_54 rfl (lv_at hl 0 rfl) ?_
          refine va_get (D := (dC, dI)) (ci := 11) (v := .ref (oa 152)) (C := RX7) (T := TX7) (N := 11) hx hb hts in_X7 hown hK hP 0 rfl rfl 7 (by decide) (hts _ (bg _ wd_281)) (fun _ h9 => h9) rfl dX7_writeCycle_55 ?_
          refine lv_aload_n hx hb dX7_writeCycle_58 rfl (lv_at hl 1 rfl) ?_
          refine va_get (D := (dC, dI)) (ci := 6) (v := .ref (oa 4)) (C := RX2) (T := TX2) (N := 7) hx hb hts in_X2 hown hK hP 2 rfl rfl 1 (by decide) (hts _ (bg _ wd_56)) (fun _ h9 => h9) rfl dX7_writeCycle_59 ?_
          refine lv_iload_n hx hb dX7_writeCycle_62 rfl (lv_at hl 2 rfl) ?_
          obtain ⟨z8, hf⟩ := gd hf
          refine va_iald hx hb hK hP 4 1 rfl rfl z8 dX7_writeCycle_63 ?_
          obtain ⟨z12, hf⟩ := gd hf
          have z12 := Decidable.not_not.mp z12
          refine W.eq (g2 := F0 m 64 ls (.int (nI (zb.1.2.1 x2.toNatClampNeg).toNatClampNeg) :: .ref (oa 152) :: [])) (congrArg (fun z9 => F0 m 64 ls (.int z9 :: .ref (oa 152) :: [])) z12.2) ?_
          obtain ⟨z9, hf⟩ := gd hf
          have hg1 := sb_cap_ge ((n + 1) + sb_dg (zb.1.2.1 x2.toNatClampNeg).toNatClampNeg) q96
          have hg2 := sb_cap_gem ((n + 1) + sb_dg (zb.1.2.1 x2.toNatClampNeg).toNatClampNeg) q96
          have hg3 := cap_le (k := ((n + 1) + sb_dg (zb.1.2.1 x2.toNatClampNeg).toNatClampNeg)) (q := q96) (by omega) hq9
          have hg4 := room_d (k := ((n + 1) + sb_dg (zb.1.2.1 x2.toNatClampNeg).toNatClampNeg)) (q := q96) (by omega) (by omega)
          refine jle_r (gs := [[(oa 0, .inr (11, [.ref (oa 1), .ref (oa 14), .ref (oa 27), .int zv, .ref (oa 40), .ref (oa 146), .int zk, .ref (oa 152), .int zd, .int ze, .int zc]))], wX0 dA (fun k => oa (1 + k)) zb, wX0 dA (fun k => oa (14 + k)) zt, wX0 dA (fun k => oa (27 + k)) zn, wX3 dA (fun k => oa (40 + k)) zh, wX6 dA (fun k => oa (146 + k)) zx]) (ad := fun _ : Nat × Ar => oa 152) (g1 := fun u : Nat × Ar => wL dA (oa 152) u.1 ml ((n + 1) + sb_dg (zb.1.2.1 x2.toNatClampNeg).toNatClampNeg) (sb_cap ((n + 1) + sb_dg (zb.1.2.1 x2.toNatClampNeg).toNatClampNeg) q96) u.2) (va_runV (As := [.int (nI (zb.1.2.1 x2.toNatClampNeg).toNatClampNeg)]) (rest := []) ⟨hx, hb, hml, hown, hts⟩ (m_J4_append_bf812 l dC dI dA gz H.size (oa 152) u5.1 ml (n + 1) q96 u5.2 (sb_cap ((n + 1) + sb_dg (zb.1.2.1 x2.toNatClampNeg).toNatClampNeg) q96 - q96) (2 * (sb_cap ((n + 1) + sb_dg (zb.1.2.1 x2.toNatClampNeg).toNatClampNeg) q96 - q96)) ((zb.1.2.1 x2.toNatClampNeg).toNatClampNeg) z12.1 hg4 (by omega) (by omega) hfit) (cwV 1 hts (gi_v bg wd_1357 wd_1239 wd_1240 wd_10 wd_1241) rfl rfl rfl hd_J4_append_bf812 ⟨Nat.le_of_ble_eq_true rfl, Nat.le_of_ble_eq_true rfl⟩) ⟨pP_blind, va_recv (ci := 1) (q0 := 0) hK (seg_P hP 6 rfl) rfl rfl, pP_pre1 hP hD hS hA hK hN hZ 6 rfl⟩ rfl rfl hl.1 rfl (lv_room (Nat.le_of_ble_eq_true rfl)) dX7_writeCycle_64 ⟨by (show _ ≤ 284); (try dsimp only); omega, by (show _ ≤ 568); (try dsimp only); omega⟩) hP hD hS hA (fun u10 H locs hfit hP hD hS => ?_)
          refine W.widen (k := (sb_cap ((n + 1) + sb_dg (zb.1.2.1 x2.toNatClampNeg).toNatClampNeg) q96) - q0) (n := 2 * ((sb_cap ((n + 1) + sb_dg (zb.1.2.1 x2.toNatClampNeg).toNatClampNeg) q96) - q0)) (by (try dsimp only); omega) (by (try dsimp only); omega) ?_
          clear hg4
          generalize sb_cap ((n + 1) + sb_dg (zb.1.2.1 x2.toNatClampNeg).toNatClampNeg) q96 = q911 at hP hD hg1 hg2 hg3 ⊢
          have hqq : q0 ≤ q911 := by omega
          have hnq : ((n + 1) + sb_dg (zb.1.2.1 x2.toNatClampNeg).toNatClampNeg) ≤ q911 := hg1
          have hq9 : q911 ≤ 284 := hg3
          have hfit : sb_Fit u10.2 := hfit
          clear hg1 hg2 hg3
          have hP : va_P (dC, dI) vwCl ([[(oa 0, .inr (11, [.ref (oa 1), .ref (oa 14), .ref (oa 27), .int zv, .ref (oa 40), .ref (oa 146), .int zk, .ref (oa 152), .int zd, .int ze, .int zc]))], wX0 dA (fun k => oa (1 + k)) zb, wX0 dA (fun k => oa (14 + k)) zt, wX0 dA (fun k => oa (27 + k)) zn, wX3 dA (fun k => oa (40 + k)) zh, wX6 dA (fun k => oa (146 + k)) zx, wLN dA (oa 152) (u10.1, ml, q911, u10.2, nI ((n + 1) + sb_dg (zb.1.2.1 x2.toNatClampNeg).toNatClampNeg))].flatten : va_W) H := hP
          have hD : va_D A ([[(oa 0, .inr (11, [.ref (oa 1), .ref (oa 14), .ref (oa 27), .int zv, .ref (oa 40), .ref (oa 146), .int zk, .ref (oa 152), .int zd, .int ze, .int zc]))], wX0 dA (fun k => oa (1 + k)) zb, wX0 dA (fun k => oa (14 + k)) zt, wX0 dA (fun k => oa (27 + k)) zn, wX3 dA (fun k => oa (40 + k)) zh, wX6 dA (fun k => oa (146 + k)) zx, wLN dA (oa 152) (u10.1, ml, q911, u10.2, nI ((n + 1) + sb_dg (zb.1.2.1 x2.toNatClampNeg).toNatClampNeg))].flatten) := hD
          refine lv_pop hx hb dX7_writeCycle_67 rfl ?_
          refine lv_aload_n hx hb dX7_writeCycle_68 rfl (lv_at hl 0 rfl) ?_
          refine va_get (D := (dC, dI)) (ci := 11) (v := .ref (oa 152)) (C := RX7) (T := TX7) (N := 11) hx hb hts in_X7 hown hK hP 0 rfl rfl 7 (by decide) (hts _ (bg _ wd_281)) (fun _ h9 => h9) rfl dX7_writeCycle_69 ?_
          refine lv_bipush (v := 58) hx hb dX7_writeCycle_72 (by decide) ?_
          obtain ⟨z13, hf⟩ := gd hf
          have hg1 := sb_cap_ge (((n + 1) + sb_dg (zb.1.2.1 x2.toNatClampNeg).toNatClampNeg) + 1) q911
          have hg2 := sb_cap_gem (((n + 1) + sb_dg (zb.1.2.1 x2.toNatClampNeg).toNatClampNeg) + 1) q911
          have hg3 := cap_le (k := (((n + 1) + sb_dg (zb.1.2.1 x2.toNatClampNeg).toNatClampNeg) + 1)) (q := q911) (by omega) hq9
          have hg4 := room_d (k := (((n + 1) + sb_dg (zb.1.2.1 x2.toNatClampNeg).toNatClampNeg) + 1)) (q := q911) (by omega) (by omega)
          refine jle_r (gs := [[(oa 0, .inr (11, [.ref (oa 1), .ref (oa 14), .ref (oa 27), .int zv, .ref (oa 40), .ref (oa 146), .int zk, .ref (oa 152), .int zd, .int ze, .int zc]))], wX0 dA (fun k => oa (1 + k)) zb, wX0 dA (fun k => oa (14 + k)) zt, wX0 dA (fun k => oa (27 + k)) zn, wX3 dA (fun k => oa (40 + k)) zh, wX6 dA (fun k => oa (146 + k)) zx]) (ad := fun _ : Nat × Ar => oa 152) (g1 := fun u : Nat × Ar => wL dA (oa 152) u.1 ml (((n + 1) + sb_dg (zb.1.2.1 x2.toNatClampNeg).toNatClampNeg) + 1) (sb_cap (((n + 1) + sb_dg (zb.1.2.1 x2.toNatClampNeg).toNatClampNeg) + 1) q911) u.2) (va_runV (As := [.int 58]) (rest := []) ⟨hx, hb, hml, hown, hts⟩ (m_J4_append_cf468 l dC dI dA gz H.size (oa 152) u10.1 ml ((n + 1) + sb_dg (zb.1.2.1 x2.toNatClampNeg).toNatClampNeg) q911 u10.2 (sb_cap (((n + 1) + sb_dg (zb.1.2.1 x2.toNatClampNeg).toNatClampNeg) + 1) q911 - q911) (2 * (sb_cap (((n + 1) + sb_dg (zb.1.2.1 x2.toNatClampNeg).toNatClampNeg) + 1) q911 - q911)) 58 (by decide) hg4 (by omega) (by omega) hfit) (cwV 1 hts (gi_v bg wd_1358 wd_1359 wd_1360 wd_10 wd_1361) rfl rfl rfl hd_J4_append_cf468 ⟨Nat.le_of_ble_eq_true rfl, Nat.le_of_ble_eq_true rfl⟩) ⟨pP_blind, va_recv (ci := 1) (q0 := 0) hK (seg_P hP 6 rfl) rfl rfl, pP_pre1 hP hD hS hA hK hN hZ 6 rfl⟩ rfl rfl hl.1 rfl (lv_room (Nat.le_of_ble_eq_true rfl)) dX7_writeCycle_74 ⟨by (show _ ≤ 284); (try dsimp only); omega, by (show _ ≤ 568); (try dsimp only); omega⟩) hP hD hS hA (fun u14 H locs hfit hP hD hS => ?_)
          refine W.widen (k := (sb_cap (((n + 1) + sb_dg (zb.1.2.1 x2.toNatClampNeg).toNatClampNeg) + 1) q911) - q0) (n := 2 * ((sb_cap (((n + 1) + sb_dg (zb.1.2.1 x2.toNatClampNeg).toNatClampNeg) + 1) q911) - q0)) (by (try dsimp only); omega) (by (try dsimp only); omega) ?_
          clear hg4
          generalize sb_cap (((n + 1) + sb_dg (zb.1.2.1 x2.toNatClampNeg).toNatClampNeg) + 1) q911 = q915 at hP hD hg1 hg2 hg3 ⊢
          have hqq : q0 ≤ q915 := by omega
          have hnq : (((n + 1) + sb_dg (zb.1.2.1 x2.toNatClampNeg).toNatClampNeg) + 1) ≤ q915 := hg1
          have hq9 : q915 ≤ 284 := hg3
          have hfit : sb_Fit u14.2 := hfit
          clear hg1 hg2 hg3
          have hP : va_P (dC, dI) vwCl ([[(oa 0, .inr (11, [.ref (oa 1), .ref (oa 14), .ref (oa 27), .int zv, .ref (oa 40), .ref (oa 146), .int zk, .ref (oa 152), .int zd, .int ze, .int zc]))], wX0 dA (fun k => oa (1 + k)) zb, wX0 dA (fun k => oa (14 + k)) zt, wX0 dA (fun k => oa (27 + k)) zn, wX3 dA (fun k => oa (40 + k)) zh, wX6 dA (fun k => oa (146 + k)) zx, wLN dA (oa 152) (u14.1, ml, q915, u14.2, nI (((n + 1) + sb_dg (zb.1.2.1 x2.toNatClampNeg).toNatClampNeg) + 1))].flatten : va_W) H := hP
          have hD : va_D A ([[(oa 0, .inr (11, [.ref (oa 1), .ref (oa 14), .ref (oa 27), .int zv, .ref (oa 40), .ref (oa 146), .int zk, .ref (oa 152), .int zd, .int ze, .int zc]))], wX0 dA (fun k => oa (1 + k)) zb, wX0 dA (fun k => oa (14 + k)) zt, wX0 dA (fun k => oa (27 + k)) zn, wX3 dA (fun k => oa (40 + k)) zh, wX6 dA (fun k => oa (146 + k)) zx, wLN dA (oa 152) (u14.1, ml, q915, u14.2, nI (((n + 1) + sb_dg (zb.1.2.1 x2.toNatClampNeg).toNatClampNeg) + 1))].flatten) := hD
          refine lv_pop hx hb dX7_writeCycle_77 rfl ?_
          refine lv_aload_n hx hb dX7_writeCycle_78 rfl (lv_at hl 0 rfl) ?_
          refine va_get (D := (dC, dI)) (ci := 11) (v := .ref (oa 152)) (C := RX7) (T := TX7) (N := 11) hx hb hts in_X7 hown hK hP 0 rfl rfl 7 (by decide) (hts _ (bg _ wd_281)) (fun _ h9 => h9) rfl dX7_writeCycle_79 ?_
          refine lv_aload_n hx hb dX7_writeCycle_82 rfl (lv_at hl 1 rfl) ?_
          refine va_get (D := (dC, dI)) (ci := 6) (v := .ref (oa 5)) (C := RX2) (T := TX2) (N := 7) hx hb hts in_X2 hown hK hP 2 rfl rfl 2 (by decide) (hts _ (bg _ wd_59)) (fun _ h9 => h9) rfl dX7_writeCycle_83 ?_
          refine lv_iload_n hx hb dX7_writeCycle_86 rfl (lv_at hl 2 rfl) ?_
          obtain ⟨z16, hf⟩ := gd hf
          refine va_iald hx hb hK hP 5 1 rfl rfl z16 dX7_writeCycle_87 ?_
          obtain ⟨z20, hf⟩ := gd hf
          have z20 := Decidable.not_not.mp z20
          refine W.eq (g2 := F0 m 88 ls (.int (nI (zb.1.2.2.1 x2.toNatClampNeg).toNatClampNeg) :: .ref (oa 152) :: [])) (congrArg (fun z9 => F0 m 88 ls (.int z9 :: .ref (oa 152) :: [])) z20.2) ?_
          obtain ⟨z17, hf⟩ := gd hf
          have hg1 := sb_cap_ge ((((n + 1) + sb_dg (zb.1.2.1 x2.toNatClampNeg).toNatClampNeg) + 1) + sb_dg (zb.1.2.2.1 x2.toNatClampNeg).toNatClampNeg) q915
          have hg2 := sb_cap_gem ((((n + 1) + sb_dg (zb.1.2.1 x2.toNatClampNeg).toNatClampNeg) + 1) + sb_dg (zb.1.2.2.1 x2.toNatClampNeg).toNatClampNeg) q915
          have hg3 := cap_le (k := ((((n + 1) + sb_dg (zb.1.2.1 x2.toNatClampNeg).toNatClampNeg) + 1) + sb_dg (zb.1.2.2.1 x2.toNatClampNeg).toNatClampNeg)) (q := q915) (by omega) hq9
          have hg4 := room_d (k := ((((n + 1) + sb_dg (zb.1.2.1 x2.toNatClampNeg).toNatClampNeg) + 1) + sb_dg (zb.1.2.2.1 x2.toNatClampNeg).toNatClampNeg)) (q := q915) (by omega) (by omega)
          refine jle_r (gs := [[(oa 0, .inr (11, [.ref (oa 1), .ref (oa 14), .ref (oa 27), .int zv, .ref (oa 40), .ref (oa 146), .int zk, .ref (oa 152), .int zd, .int ze, .int zc]))], wX0 dA (fun k => oa (1 + k)) zb, wX0 dA (fun k => oa (14 + k)) zt, wX0 dA (fun k => oa (27 + k)) zn, wX3 dA (fun k => oa (40 + k)) zh, wX6 dA (fun k => oa (146 + k)) zx]) (ad := fun _ : Nat × Ar => oa 152) (g1 := fun u : Nat × Ar => wL dA (oa 152) u.1 ml ((((n + 1) + sb_dg (zb.1.2.1 x2.toNatClampNeg).toNatClampNeg) + 1) + sb_dg (zb.1.2.2.1 x2.toNatClampNeg).toNatClampNeg) (sb_cap ((((n + 1) + sb_dg (zb.1.2.1 x2.toNatClampNeg).toNatClampNeg) + 1) + sb_dg (zb.1.2.2.1 x2.toNatClampNeg).toNatClampNeg) q915) u.2) (va_runV (As := [.int (nI (zb.1.2.2.1 x2.toNatClampNeg).toNatClampNeg)]) (rest := []) ⟨hx, hb, hml, hown, hts⟩ (m_J4_append_bf812 l dC dI dA gz H.size (oa 152) u14.1 ml (((n + 1) + sb_dg (zb.1.2.1 x2.toNatClampNeg).toNatClampNeg) + 1) q915 u14.2 (sb_cap ((((n + 1) + sb_dg (zb.1.2.1 x2.toNatClampNeg).toNatClampNeg) + 1) + sb_dg (zb.1.2.2.1 x2.toNatClampNeg).toNatClampNeg) q915 - q915) (2 * (sb_cap ((((n + 1) + sb_dg (zb.1.2.1 x2.toNatClampNeg).toNatClampNeg) + 1) + sb_dg (zb.1.2.2.1 x2.toNatClampNeg).toNatClampNeg) q915 - q915)) ((zb.1.2.2.1 x2.toNatClampNeg).toNatClampNeg) z20.1 hg4 (by omega) (by omega) hfit) (cwV 1 hts (gi_v bg wd_1357 wd_1239 wd_1240 wd_10 wd_1241) rfl rfl rfl hd_J4_append_bf812 ⟨Nat.le_of_ble_eq_true rfl, Nat.le_of_ble_eq_true rfl⟩) ⟨pP_blind, va_recv (ci := 1) (q0 := 0) hK (seg_P hP 6 rfl) rfl rfl, pP_pre1 hP hD hS hA hK hN hZ 6 rfl⟩ rfl rfl hl.1 rfl (lv_room (Nat.le_of_ble_eq_true rfl)) dX7_writeCycle_88 ⟨by (show _ ≤ 284); (try dsimp only); omega, by (show _ ≤ 568); (try dsimp only); omega⟩) hP hD hS hA (fun u18 H locs hfit hP hD hS => ?_)
          refine W.widen (k := (sb_cap ((((n + 1) + sb_dg (zb.1.2.1 x2.toNatClampNeg).toNatClampNeg) + 1) + sb_dg (zb.1.2.2.1 x2.toNatClampNeg).toNatClampNeg) q915) - q0) (n := 2 * ((sb_cap ((((n + 1) + sb_dg (zb.1.2.1 x2.toNatClampNeg).toNatClampNeg) + 1) + sb_dg (zb.1.2.2.1 x2.toNatClampNeg).toNatClampNeg) q915) - q0)) (by (try dsimp only); omega) (by (try dsimp only); omega) ?_
          clear hg4
          generalize sb_cap ((((n + 1) + sb_dg (zb.1.2.1 x2.toNatClampNeg).toNatClampNeg) + 1) + sb_dg (zb.1.2.2.1 x2.toNatClampNeg).toNatClampNeg) q915 = q919 at hP hD hg1 hg2 hg3 ⊢
          have hqq : q0 ≤ q919 := by omega
          have hnq : ((((n + 1) + sb_dg (zb.1.2.1 x2.toNatClampNeg).toNatClampNeg) + 1) + sb_dg (zb.1.2.2.1 x2.toNatClampNeg).toNatClampNeg) ≤ q919 := hg1
          have hq9 : q919 ≤ 284 := hg3
          have hfit : sb_Fit u18.2 := hfit
          clear hg1 hg2 hg3
          have hP : va_P (dC, dI) vwCl ([[(oa 0, .inr (11, [.ref (oa 1), .ref (oa 14), .ref (oa 27), .int zv, .ref (oa 40), .ref (oa 146), .int zk, .ref (oa 152), .int zd, .int ze, .int zc]))], wX0 dA (fun k => oa (1 + k)) zb, wX0 dA (fun k => oa (14 + k)) zt, wX0 dA (fun k => oa (27 + k)) zn, wX3 dA (fun k => oa (40 + k)) zh, wX6 dA (fun k => oa (146 + k)) zx, wLN dA (oa 152) (u18.1, ml, q919, u18.2, nI ((((n + 1) + sb_dg (zb.1.2.1 x2.toNatClampNeg).toNatClampNeg) + 1) + sb_dg (zb.1.2.2.1 x2.toNatClampNeg).toNatClampNeg))].flatten : va_W) H := hP
          have hD : va_D A ([[(oa 0, .inr (11, [.ref (oa 1), .ref (oa 14), .ref (oa 27), .int zv, .ref (oa 40), .ref (oa 146), .int zk, .ref (oa 152), .int zd, .int ze, .int zc]))], wX0 dA (fun k => oa (1 + k)) zb, wX0 dA (fun k => oa (14 + k)) zt, wX0 dA (fun k => oa (27 + k)) zn, wX3 dA (fun k => oa (40 + k)) zh, wX6 dA (fun k => oa (146 + k)) zx, wLN dA (oa 152) (u18.1, ml, q919, u18.2, nI ((((n + 1) + sb_dg (zb.1.2.1 x2.toNatClampNeg).toNatClampNeg) + 1) + sb_dg (zb.1.2.2.1 x2.toNatClampNeg).toNatClampNeg))].flatten) := hD
          refine lv_pop hx hb dX7_writeCycle_91 rfl ?_
          refine lv_iload_n hx hb dX7_writeCycle_92 rfl (lv_at hl 2 rfl) ?_
          refine lv_aload_n hx hb dX7_writeCycle_93 rfl (lv_at hl 1 rfl) ?_
          refine va_get (D := (dC, dI)) (ci := 6) (v := .int zb.1.2.2.2.2.1) (C := RX2) (T := TX2) (N := 7) hx hb hts in_X2 hown hK hP 2 rfl rfl 4 (by decide) (hts _ (bg _ wd_65)) (fun _ h9 => h9) rfl dX7_writeCycle_94 ?_
          refine lv_icmp_ne (tgt := 110) hx hb dX7_writeCycle_97 (by decide) (fun q21 => ?_) (fun q21 => ?_)
          · have hf := ie q21 hf
            refine lv_iinc (v := (x2 + 1)) (lv' := [(2, .int (x2 + 1)), (0, .ref (oa 0)), (1, .ref (oa 2))]) hx hb dX7_writeCycle_110 hl (k := 2) rfl rfl (by decide) rfl (fun ls hl => ?_)
            refine lv_goto (tgt := 18) hx hb dX7_writeCycle_113 (by decide) ?_
            exact ih (x2 + 1) ((((n + 1) + sb_dg (zb.1.2.1 x2.toNatClampNeg).toNatClampNeg) + 1) + sb_dg (zb.1.2.2.1 x2.toNatClampNeg).toNatClampNeg) u18.1 ml q919 u18.2 _ _ _ hf hnq hqq hq9 hfit hP hD hS (lv_sub hl [1, 2, 0] rfl)
          · have hf := it q21 hf
            refine lv_aload_n hx hb dX7_writeCycle_100 rfl (lv_at hl 0 rfl) ?_
            refine va_get (D := (dC, dI)) (ci := 11) (v := .ref (oa 152)) (C := RX7) (T := TX7) (N := 11) hx hb hts in_X7 hown hK hP 0 rfl rfl 7 (by decide) (hts _ (bg _ wd_281)) (fun _ h9 => h9) rfl dX7_writeCycle_101 ?_
            refine lv_bipush (v := 42) hx hb dX7_writeCycle_104 (by decide) ?_
            obtain ⟨z22, hf⟩ := gd hf
            have hg1 := sb_cap_ge (((((n + 1) + sb_dg (zb.1.2.1 x2.toNatClampNeg).toNatClampNeg) + 1) + sb_dg (zb.1.2.2.1 x2.toNatClampNeg).toNatClampNeg) + 1) q919
            have hg2 := sb_cap_gem (((((n + 1) + sb_dg (zb.1.2.1 x2.toNatClampNeg).toNatClampNeg) + 1) + sb_dg (zb.1.2.2.1 x2.toNatClampNeg).toNatClampNeg) + 1) q919
            have hg3 := cap_le (k := (((((n + 1) + sb_dg (zb.1.2.1 x2.toNatClampNeg).toNatClampNeg) + 1) + sb_dg (zb.1.2.2.1 x2.toNatClampNeg).toNatClampNeg) + 1)) (q := q919) (by omega) hq9
            have hg4 := room_d (k := (((((n + 1) + sb_dg (zb.1.2.1 x2.toNatClampNeg).toNatClampNeg) + 1) + sb_dg (zb.1.2.2.1 x2.toNatClampNeg).toNatClampNeg) + 1)) (q := q919) (by omega) (by omega)
            refine jle_r (gs := [[(oa 0, .inr (11, [.ref (oa 1), .ref (oa 14), .ref (oa 27), .int zv, .ref (oa 40), .ref (oa 146), .int zk, .ref (oa 152), .int zd, .int ze, .int zc]))], wX0 dA (fun k => oa (1 + k)) zb, wX0 dA (fun k => oa (14 + k)) zt, wX0 dA (fun k => oa (27 + k)) zn, wX3 dA (fun k => oa (40 + k)) zh, wX6 dA (fun k => oa (146 + k)) zx]) (ad := fun _ : Nat × Ar => oa 152) (g1 := fun u : Nat × Ar => wL dA (oa 152) u.1 ml (((((n + 1) + sb_dg (zb.1.2.1 x2.toNatClampNeg).toNatClampNeg) + 1) + sb_dg (zb.1.2.2.1 x2.toNatClampNeg).toNatClampNeg) + 1) (sb_cap (((((n + 1) + sb_dg (zb.1.2.1 x2.toNatClampNeg).toNatClampNeg) + 1) + sb_dg (zb.1.2.2.1 x2.toNatClampNeg).toNatClampNeg) + 1) q919) u.2) (va_runV (As := [.int 42]) (rest := []) ⟨hx, hb, hml, hown, hts⟩ (m_J4_append_cf468 l dC dI dA gz H.size (oa 152) u18.1 ml ((((n + 1) + sb_dg (zb.1.2.1 x2.toNatClampNeg).toNatClampNeg) + 1) + sb_dg (zb.1.2.2.1 x2.toNatClampNeg).toNatClampNeg) q919 u18.2 (sb_cap (((((n + 1) + sb_dg (zb.1.2.1 x2.toNatClampNeg).toNatClampNeg) + 1) + sb_dg (zb.1.2.2.1 x2.toNatClampNeg).toNatClampNeg) + 1) q919 - q919) (2 * (sb_cap (((((n + 1) + sb_dg (zb.1.2.1 x2.toNatClampNeg).toNatClampNeg) + 1) + sb_dg (zb.1.2.2.1 x2.toNatClampNeg).toNatClampNeg) + 1) q919 - q919)) 42 (by decide) hg4 (by omega) (by omega) hfit) (cwV 1 hts (gi_v bg wd_1358 wd_1359 wd_1360 wd_10 wd_1361) rfl rfl rfl hd_J4_append_cf468 ⟨Nat.le_of_ble_eq_true rfl, Nat.le_of_ble_eq_true rfl⟩) ⟨pP_blind, va_recv (ci := 1) (q0 := 0) hK (seg_P hP 6 rfl) rfl rfl, pP_pre1 hP hD hS hA hK hN hZ 6 rfl⟩ rfl rfl hl.1 rfl (lv_room (Nat.le_of_ble_eq_true rfl)) dX7_writeCycle_106 ⟨by (show _ ≤ 284); (try dsimp only); omega, by (show _ ≤ 568); (try dsimp only); omega⟩) hP hD hS hA (fun u23 H locs hfit hP hD hS => ?_)
            refine W.widen (k := (sb_cap (((((n + 1) + sb_dg (zb.1.2.1 x2.toNatClampNeg).toNatClampNeg) + 1) + sb_dg (zb.1.2.2.1 x2.toNatClampNeg).toNatClampNeg) + 1) q919) - q0) (n := 2 * ((sb_cap (((((n + 1) + sb_dg (zb.1.2.1 x2.toNatClampNeg).toNatClampNeg) + 1) + sb_dg (zb.1.2.2.1 x2.toNatClampNeg).toNatClampNeg) + 1) q919) - q0)) (by (try dsimp only); omega) (by (try dsimp only); omega) ?_
            clear hg4
            generalize sb_cap (((((n + 1) + sb_dg (zb.1.2.1 x2.toNatClampNeg).toNatClampNeg) + 1) + sb_dg (zb.1.2.2.1 x2.toNatClampNeg).toNatClampNeg) + 1) q919 = q924 at hP hD hg1 hg2 hg3 ⊢
            have hqq : q0 ≤ q924 := by omega
            have hnq : (((((n + 1) + sb_dg (zb.1.2.1 x2.toNatClampNeg).toNatClampNeg) + 1) + sb_dg (zb.1.2.2.1 x2.toNatClampNeg).toNatClampNeg) + 1) ≤ q924 := hg1
            have hq9 : q924 ≤ 284 := hg3
            have hfit : sb_Fit u23.2 := hfit
            clear hg1 hg2 hg3
            have hP : va_P (dC, dI) vwCl ([[(oa 0, .inr (11, [.ref (oa 1), .ref (oa 14), .ref (oa 27), .int zv, .ref (oa 40), .ref (oa 146), .int zk, .ref (oa 152), .int zd, .int ze, .int zc]))], wX0 dA (fun k => oa (1 + k)) zb, wX0 dA (fun k => oa (14 + k)) zt, wX0 dA (fun k => oa (27 + k)) zn, wX3 dA (fun k => oa (40 + k)) zh, wX6 dA (fun k => oa (146 + k)) zx, wLN dA (oa 152) (u23.1, ml, q924, u23.2, nI (((((n + 1) + sb_dg (zb.1.2.1 x2.toNatClampNeg).toNatClampNeg) + 1) + sb_dg (zb.1.2.2.1 x2.toNatClampNeg).toNatClampNeg) + 1))].flatten : va_W) H := hP
            have hD : va_D A ([[(oa 0, .inr (11, [.ref (oa 1), .ref (oa 14), .ref (oa 27), .int zv, .ref (oa 40), .ref (oa 146), .int zk, .ref (oa 152), .int zd, .int ze, .int zc]))], wX0 dA (fun k => oa (1 + k)) zb, wX0 dA (fun k => oa (14 + k)) zt, wX0 dA (fun k => oa (27 + k)) zn, wX3 dA (fun k => oa (40 + k)) zh, wX6 dA (fun k => oa (146 + k)) zx, wLN dA (oa 152) (u23.1, ml, q924, u23.2, nI (((((n + 1) + sb_dg (zb.1.2.1 x2.toNatClampNeg).toNatClampNeg) + 1) + sb_dg (zb.1.2.2.1 x2.toNatClampNeg).toNatClampNeg) + 1))].flatten) := hD
            refine lv_pop hx hb dX7_writeCycle_109 rfl ?_
            refine lv_iinc (v := (x2 + 1)) (lv' := [(2, .int (x2 + 1)), (0, .ref (oa 0)), (1, .ref (oa 2))]) hx hb dX7_writeCycle_110 hl (k := 2) rfl rfl (by decide) rfl (fun ls hl => ?_)
            refine lv_goto (tgt := 18) hx hb dX7_writeCycle_113 (by decide) ?_
            exact ih (x2 + 1) (((((n + 1) + sb_dg (zb.1.2.1 x2.toNatClampNeg).toNatClampNeg) + 1) + sb_dg (zb.1.2.2.1 x2.toNatClampNeg).toNatClampNeg) + 1) u23.1 ml q924 u23.2 _ _ _ hf hnq hqq hq9 hfit hP hD hS (lv_sub hl [1, 2, 0] rfl)
        · have hf := ie q2 hf
          refine lv_aload_n hx hb dX7_writeCycle_30 rfl (lv_at hl 0 rfl) ?_
          refine va_get (D := (dC, dI)) (ci := 11) (v := .ref (oa 152)) (C := RX7) (T := TX7) (N := 11) hx hb hts in_X7 hown hK hP 0 rfl rfl 7 (by decide) (hts _ (bg _ wd_281)) (fun _ h9 => h9) rfl dX7_writeCycle_31 ?_
          refine lv_bipush (v := 32) hx hb dX7_writeCycle_34 (by decide) ?_
          obtain ⟨z25, hf⟩ := gd hf
          have hg1 := sb_cap_ge (n + 1) q
          have hg2 := sb_cap_gem (n + 1) q
          have hg3 := cap_le (k := (n + 1)) (q := q) (by omega) hq9
          have hg4 := room_d (k := (n + 1)) (q := q) (by omega) (by omega)
          refine jle_r (gs := [[(oa 0, .inr (11, [.ref (oa 1), .ref (oa 14), .ref (oa 27), .int zv, .ref (oa 40), .ref (oa 146), .int zk, .ref (oa 152), .int zd, .int ze, .int zc]))], wX0 dA (fun k => oa (1 + k)) zb, wX0 dA (fun k => oa (14 + k)) zt, wX0 dA (fun k => oa (27 + k)) zn, wX3 dA (fun k => oa (40 + k)) zh, wX6 dA (fun k => oa (146 + k)) zx]) (ad := fun _ : Nat × Ar => oa 152) (g1 := fun u : Nat × Ar => wL dA (oa 152) u.1 ml (n + 1) (sb_cap (n + 1) q) u.2) (va_runV (As := [.int 32]) (rest := []) ⟨hx, hb, hml, hown, hts⟩ (m_J4_append_cf468 l dC dI dA gz H.size (oa 152) b ml n q f (sb_cap (n + 1) q - q) (2 * (sb_cap (n + 1) q - q)) 32 (by decide) hg4 (by omega) (by omega) hfit) (cwV 1 hts (gi_v bg wd_1358 wd_1359 wd_1360 wd_10 wd_1361) rfl rfl rfl hd_J4_append_cf468 ⟨Nat.le_of_ble_eq_true rfl, Nat.le_of_ble_eq_true rfl⟩) ⟨pP_blind, va_recv (ci := 1) (q0 := 0) hK (seg_P hP 6 rfl) rfl rfl, pP_pre1 hP hD hS hA hK hN hZ 6 rfl⟩ rfl rfl hl.1 rfl (lv_room (Nat.le_of_ble_eq_true rfl)) dX7_writeCycle_36 ⟨by (show _ ≤ 284); (try dsimp only); omega, by (show _ ≤ 568); (try dsimp only); omega⟩) hP hD hS hA (fun u26 H locs hfit hP hD hS => ?_)
          refine W.widen (k := (sb_cap (n + 1) q) - q0) (n := 2 * ((sb_cap (n + 1) q) - q0)) (by (try dsimp only); omega) (by (try dsimp only); omega) ?_
          clear hg4
          generalize sb_cap (n + 1) q = q927 at hP hD hg1 hg2 hg3 ⊢
          have hqq : q0 ≤ q927 := by omega
          have hnq : (n + 1) ≤ q927 := hg1
          have hq9 : q927 ≤ 284 := hg3
          have hfit : sb_Fit u26.2 := hfit
          clear hg1 hg2 hg3
          have hP : va_P (dC, dI) vwCl ([[(oa 0, .inr (11, [.ref (oa 1), .ref (oa 14), .ref (oa 27), .int zv, .ref (oa 40), .ref (oa 146), .int zk, .ref (oa 152), .int zd, .int ze, .int zc]))], wX0 dA (fun k => oa (1 + k)) zb, wX0 dA (fun k => oa (14 + k)) zt, wX0 dA (fun k => oa (27 + k)) zn, wX3 dA (fun k => oa (40 + k)) zh, wX6 dA (fun k => oa (146 + k)) zx, wLN dA (oa 152) (u26.1, ml, q927, u26.2, nI (n + 1))].flatten : va_W) H := hP
          have hD : va_D A ([[(oa 0, .inr (11, [.ref (oa 1), .ref (oa 14), .ref (oa 27), .int zv, .ref (oa 40), .ref (oa 146), .int zk, .ref (oa 152), .int zd, .int ze, .int zc]))], wX0 dA (fun k => oa (1 + k)) zb, wX0 dA (fun k => oa (14 + k)) zt, wX0 dA (fun k => oa (27 + k)) zn, wX3 dA (fun k => oa (40 + k)) zh, wX6 dA (fun k => oa (146 + k)) zx, wLN dA (oa 152) (u26.1, ml, q927, u26.2, nI (n + 1))].flatten) := hD
          refine lv_pop hx hb dX7_writeCycle_39 rfl ?_
          refine lv_aload_n hx hb dX7_writeCycle_40 rfl (lv_at hl 0 rfl) ?_
          refine va_get (D := (dC, dI)) (ci := 11) (v := .ref (oa 152)) (C := RX7) (T := TX7) (N := 11) hx hb hts in_X7 hown hK hP 0 rfl rfl 7 (by decide) (hts _ (bg _ wd_281)) (fun _ h9 => h9) rfl dX7_writeCycle_41 ?_
          refine lv_aload_n hx hb dX7_writeCycle_44 rfl (lv_at hl 1 rfl) ?_
          refine va_get (D := (dC, dI)) (ci := 6) (v := .ref (oa 3)) (C := RX2) (T := TX2) (N := 7) hx hb hts in_X2 hown hK hP 2 rfl rfl 0 (by decide) (hts _ (bg _ wd_53)) (fun _ h9 => h9) rfl dX7_writeCycle_45 ?_
          refine lv_iload_n hx hb dX7_writeCycle_48 rfl (lv_at hl 2 rfl) ?_
          obtain ⟨z28, hf⟩ := gd hf
          refine va_cald hx hb hK hP 3 0 rfl rfl z28 dX7_writeCycle_49 ?_
          obtain ⟨z32, hf⟩ := gd hf
          obtain ⟨z29, hf⟩ := gd hf
          have hg1 := sb_cap_ge ((n + 1) + 1) q927
          have hg2 := sb_cap_gem ((n + 1) + 1) q927
          have hg3 := cap_le (k := ((n + 1) + 1)) (q := q927) (by omega) hq9
          have hg4 := room_d (k := ((n + 1) + 1)) (q := q927) (by omega) (by omega)
          refine jle_r (gs := [[(oa 0, .inr (11, [.ref (oa 1), .ref (oa 14), .ref (oa 27), .int zv, .ref (oa 40), .ref (oa 146), .int zk, .ref (oa 152), .int zd, .int ze, .int zc]))], wX0 dA (fun k => oa (1 + k)) zb, wX0 dA (fun k => oa (14 + k)) zt, wX0 dA (fun k => oa (27 + k)) zn, wX3 dA (fun k => oa (40 + k)) zh, wX6 dA (fun k => oa (146 + k)) zx]) (ad := fun _ : Nat × Ar => oa 152) (g1 := fun u : Nat × Ar => wL dA (oa 152) u.1 ml ((n + 1) + 1) (sb_cap ((n + 1) + 1) q927) u.2) (va_runV (As := [.int (zb.1.1 x2.toNatClampNeg)]) (rest := []) ⟨hx, hb, hml, hown, hts⟩ (m_J4_append_cf468 l dC dI dA gz H.size (oa 152) u26.1 ml (n + 1) q927 u26.2 (sb_cap ((n + 1) + 1) q927 - q927) (2 * (sb_cap ((n + 1) + 1) q927 - q927)) (zb.1.1 x2.toNatClampNeg) z32 hg4 (by omega) (by omega) hfit) (cwV 1 hts (gi_v bg wd_1358 wd_1359 wd_1360 wd_10 wd_1361) rfl rfl rfl hd_J4_append_cf468 ⟨Nat.le_of_ble_eq_true rfl, Nat.le_of_ble_eq_true rfl⟩) ⟨pP_blind, va_recv (ci := 1) (q0 := 0) hK (seg_P hP 6 rfl) rfl rfl, pP_pre1 hP hD hS hA hK hN hZ 6 rfl⟩ rfl rfl hl.1 rfl (lv_room (Nat.le_of_ble_eq_true rfl)) dX7_writeCycle_50 ⟨by (show _ ≤ 284); (try dsimp only); omega, by (show _ ≤ 568); (try dsimp only); omega⟩) hP hD hS hA (fun u30 H locs hfit hP hD hS => ?_)
          refine W.widen (k := (sb_cap ((n + 1) + 1) q927) - q0) (n := 2 * ((sb_cap ((n + 1) + 1) q927) - q0)) (by (try dsimp only); omega) (by (try dsimp only); omega) ?_
          clear hg4
          generalize sb_cap ((n + 1) + 1) q927 = q931 at hP hD hg1 hg2 hg3 ⊢
          have hqq : q0 ≤ q931 := by omega
          have hnq : ((n + 1) + 1) ≤ q931 := hg1
          have hq9 : q931 ≤ 284 := hg3
          have hfit : sb_Fit u30.2 := hfit
          clear hg1 hg2 hg3
          have hP : va_P (dC, dI) vwCl ([[(oa 0, .inr (11, [.ref (oa 1), .ref (oa 14), .ref (oa 27), .int zv, .ref (oa 40), .ref (oa 146), .int zk, .ref (oa 152), .int zd, .int ze, .int zc]))], wX0 dA (fun k => oa (1 + k)) zb, wX0 dA (fun k => oa (14 + k)) zt, wX0 dA (fun k => oa (27 + k)) zn, wX3 dA (fun k => oa (40 + k)) zh, wX6 dA (fun k => oa (146 + k)) zx, wLN dA (oa 152) (u30.1, ml, q931, u30.2, nI ((n + 1) + 1))].flatten : va_W) H := hP
          have hD : va_D A ([[(oa 0, .inr (11, [.ref (oa 1), .ref (oa 14), .ref (oa 27), .int zv, .ref (oa 40), .ref (oa 146), .int zk, .ref (oa 152), .int zd, .int ze, .int zc]))], wX0 dA (fun k => oa (1 + k)) zb, wX0 dA (fun k => oa (14 + k)) zt, wX0 dA (fun k => oa (27 + k)) zn, wX3 dA (fun k => oa (40 + k)) zh, wX6 dA (fun k => oa (146 + k)) zx, wLN dA (oa 152) (u30.1, ml, q931, u30.2, nI ((n + 1) + 1))].flatten) := hD
          refine lv_pop hx hb dX7_writeCycle_53 rfl ?_
          refine lv_aload_n hx hb dX7_writeCycle_54 rfl (lv_at hl 0 rfl) ?_
          refine va_get (D := (dC, dI)) (ci := 11) (v := .ref (oa 152)) (C := RX7) (T := TX7) (N := 11) hx hb hts in_X7 hown hK hP 0 rfl rfl 7 (by decide) (hts _ (bg _ wd_281)) (fun _ h9 => h9) rfl dX7_writeCycle_55 ?_
          refine lv_aload_n hx hb dX7_writeCycle_58 rfl (lv_at hl 1 rfl) ?_
          refine va_get (D := (dC, dI)) (ci := 6) (v := .ref (oa 4)) (C := RX2) (T := TX2) (N := 7) hx hb hts in_X2 hown hK hP 2 rfl rfl 1 (by decide) (hts _ (bg _ wd_56)) (fun _ h9 => h9) rfl dX7_writeCycle_59 ?_
          refine lv_iload_n hx hb dX7_writeCycle_62 rfl (lv_at hl 2 rfl) ?_
          obtain ⟨z33, hf⟩ := gd hf
          refine va_iald hx hb hK hP 4 1 rfl rfl z33 dX7_writeCycle_63 ?_
          obtain ⟨z37, hf⟩ := gd hf
          have z37 := Decidable.not_not.mp z37
          refine W.eq (g2 := F0 m 64 ls (.int (nI (zb.1.2.1 x2.toNatClampNeg).toNatClampNeg) :: .ref (oa 152) :: [])) (congrArg (fun z9 => F0 m 64 ls (.int z9 :: .ref (oa 152) :: [])) z37.2) ?_
          obtain ⟨z34, hf⟩ := gd hf
          have hg1 := sb_cap_ge (((n + 1) + 1) + sb_dg (zb.1.2.1 x2.toNatClampNeg).toNatClampNeg) q931
          have hg2 := sb_cap_gem (((n + 1) + 1) + sb_dg (zb.1.2.1 x2.toNatClampNeg).toNatClampNeg) q931
          have hg3 := cap_le (k := (((n + 1) + 1) + sb_dg (zb.1.2.1 x2.toNatClampNeg).toNatClampNeg)) (q := q931) (by omega) hq9
          have hg4 := room_d (k := (((n + 1) + 1) + sb_dg (zb.1.2.1 x2.toNatClampNeg).toNatClampNeg)) (q := q931) (by omega) (by omega)
          refine jle_r (gs := [[(oa 0, .inr (11, [.ref (oa 1), .ref (oa 14), .ref (oa 27), .int zv, .ref (oa 40), .ref (oa 146), .int zk, .ref (oa 152), .int zd, .int ze, .int zc]))], wX0 dA (fun k => oa (1 + k)) zb, wX0 dA (fun k => oa (14 + k)) zt, wX0 dA (fun k => oa (27 + k)) zn, wX3 dA (fun k => oa (40 + k)) zh, wX6 dA (fun k => oa (146 + k)) zx]) (ad := fun _ : Nat × Ar => oa 152) (g1 := fun u : Nat × Ar => wL dA (oa 152) u.1 ml (((n + 1) + 1) + sb_dg (zb.1.2.1 x2.toNatClampNeg).toNatClampNeg) (sb_cap (((n + 1) + 1) + sb_dg (zb.1.2.1 x2.toNatClampNeg).toNatClampNeg) q931) u.2) (va_runV (As := [.int (nI (zb.1.2.1 x2.toNatClampNeg).toNatClampNeg)]) (rest := []) ⟨hx, hb, hml, hown, hts⟩ (m_J4_append_bf812 l dC dI dA gz H.size (oa 152) u30.1 ml ((n + 1) + 1) q931 u30.2 (sb_cap (((n + 1) + 1) + sb_dg (zb.1.2.1 x2.toNatClampNeg).toNatClampNeg) q931 - q931) (2 * (sb_cap (((n + 1) + 1) + sb_dg (zb.1.2.1 x2.toNatClampNeg).toNatClampNeg) q931 - q931)) ((zb.1.2.1 x2.toNatClampNeg).toNatClampNeg) z37.1 hg4 (by omega) (by omega) hfit) (cwV 1 hts (gi_v bg wd_1357 wd_1239 wd_1240 wd_10 wd_1241) rfl rfl rfl hd_J4_append_bf812 ⟨Nat.le_of_ble_eq_true rfl, Nat.le_of_ble_eq_true rfl⟩) ⟨pP_blind, va_recv (ci := 1) (q0 := 0) hK (seg_P hP 6 rfl) rfl rfl, pP_pre1 hP hD hS hA hK hN hZ 6 rfl⟩ rfl rfl hl.1 rfl (lv_room (Nat.le_of_ble_eq_true rfl)) dX7_writeCycle_64 ⟨by (show _ ≤ 284); (try dsimp only); omega, by (show _ ≤ 568); (try dsimp only); omega⟩) hP hD hS hA (fun u35 H locs hfit hP hD hS => ?_)
          refine W.widen (k := (sb_cap (((n + 1) + 1) + sb_dg (zb.1.2.1 x2.toNatClampNeg).toNatClampNeg) q931) - q0) (n := 2 * ((sb_cap (((n + 1) + 1) + sb_dg (zb.1.2.1 x2.toNatClampNeg).toNatClampNeg) q931) - q0)) (by (try dsimp only); omega) (by (try dsimp only); omega) ?_
          clear hg4
          generalize sb_cap (((n + 1) + 1) + sb_dg (zb.1.2.1 x2.toNatClampNeg).toNatClampNeg) q931 = q936 at hP hD hg1 hg2 hg3 ⊢
          have hqq : q0 ≤ q936 := by omega
          have hnq : (((n + 1) + 1) + sb_dg (zb.1.2.1 x2.toNatClampNeg).toNatClampNeg) ≤ q936 := hg1
          have hq9 : q936 ≤ 284 := hg3
          have hfit : sb_Fit u35.2 := hfit
          clear hg1 hg2 hg3
          have hP : va_P (dC, dI) vwCl ([[(oa 0, .inr (11, [.ref (oa 1), .ref (oa 14), .ref (oa 27), .int zv, .ref (oa 40), .ref (oa 146), .int zk, .ref (oa 152), .int zd, .int ze, .int zc]))], wX0 dA (fun k => oa (1 + k)) zb, wX0 dA (fun k => oa (14 + k)) zt, wX0 dA (fun k => oa (27 + k)) zn, wX3 dA (fun k => oa (40 + k)) zh, wX6 dA (fun k => oa (146 + k)) zx, wLN dA (oa 152) (u35.1, ml, q936, u35.2, nI (((n + 1) + 1) + sb_dg (zb.1.2.1 x2.toNatClampNeg).toNatClampNeg))].flatten : va_W) H := hP
          have hD : va_D A ([[(oa 0, .inr (11, [.ref (oa 1), .ref (oa 14), .ref (oa 27), .int zv, .ref (oa 40), .ref (oa 146), .int zk, .ref (oa 152), .int zd, .int ze, .int zc]))], wX0 dA (fun k => oa (1 + k)) zb, wX0 dA (fun k => oa (14 + k)) zt, wX0 dA (fun k => oa (27 + k)) zn, wX3 dA (fun k => oa (40 + k)) zh, wX6 dA (fun k => oa (146 + k)) zx, wLN dA (oa 152) (u35.1, ml, q936, u35.2, nI (((n + 1) + 1) + sb_dg (zb.1.2.1 x2.toNatClampNeg).toNatClampNeg))].flatten) := hD
          refine lv_pop hx hb dX7_writeCycle_67 rfl ?_
          refine lv_aload_n hx hb dX7_writeCycle_68 rfl (lv_at hl 0 rfl) ?_
          refine va_get (D := (dC, dI)) (ci := 11) (v := .ref (oa 152)) (C := RX7) (T := TX7) (N := 11) hx hb hts in_X7 hown hK hP 0 rfl rfl 7 (by decide) (hts _ (bg _ wd_281)) (fun _ h9 => h9) rfl dX7_writeCycle_69 ?_
          refine lv_bipush (v := 58) hx hb dX7_writeCycle_72 (by decide) ?_
          obtain ⟨z38, hf⟩ := gd hf
          have hg1 := sb_cap_ge ((((n + 1) + 1) + sb_dg (zb.1.2.1 x2.toNatClampNeg).toNatClampNeg) + 1) q936
          have hg2 := sb_cap_gem ((((n + 1) + 1) + sb_dg (zb.1.2.1 x2.toNatClampNeg).toNatClampNeg) + 1) q936
          have hg3 := cap_le (k := ((((n + 1) + 1) + sb_dg (zb.1.2.1 x2.toNatClampNeg).toNatClampNeg) + 1)) (q := q936) (by omega) hq9
          have hg4 := room_d (k := ((((n + 1) + 1) + sb_dg (zb.1.2.1 x2.toNatClampNeg).toNatClampNeg) + 1)) (q := q936) (by omega) (by omega)
          refine jle_r (gs := [[(oa 0, .inr (11, [.ref (oa 1), .ref (oa 14), .ref (oa 27), .int zv, .ref (oa 40), .ref (oa 146), .int zk, .ref (oa 152), .int zd, .int ze, .int zc]))], wX0 dA (fun k => oa (1 + k)) zb, wX0 dA (fun k => oa (14 + k)) zt, wX0 dA (fun k => oa (27 + k)) zn, wX3 dA (fun k => oa (40 + k)) zh, wX6 dA (fun k => oa (146 + k)) zx]) (ad := fun _ : Nat × Ar => oa 152) (g1 := fun u : Nat × Ar => wL dA (oa 152) u.1 ml ((((n + 1) + 1) + sb_dg (zb.1.2.1 x2.toNatClampNeg).toNatClampNeg) + 1) (sb_cap ((((n + 1) + 1) + sb_dg (zb.1.2.1 x2.toNatClampNeg).toNatClampNeg) + 1) q936) u.2) (va_runV (As := [.int 58]) (rest := []) ⟨hx, hb, hml, hown, hts⟩ (m_J4_append_cf468 l dC dI dA gz H.size (oa 152) u35.1 ml (((n + 1) + 1) + sb_dg (zb.1.2.1 x2.toNatClampNeg).toNatClampNeg) q936 u35.2 (sb_cap ((((n + 1) + 1) + sb_dg (zb.1.2.1 x2.toNatClampNeg).toNatClampNeg) + 1) q936 - q936) (2 * (sb_cap ((((n + 1) + 1) + sb_dg (zb.1.2.1 x2.toNatClampNeg).toNatClampNeg) + 1) q936 - q936)) 58 (by decide) hg4 (by omega) (by omega) hfit) (cwV 1 hts (gi_v bg wd_1358 wd_1359 wd_1360 wd_10 wd_1361) rfl rfl rfl hd_J4_append_cf468 ⟨Nat.le_of_ble_eq_true rfl, Nat.le_of_ble_eq_true rfl⟩) ⟨pP_blind, va_recv (ci := 1) (q0 := 0) hK (seg_P hP 6 rfl) rfl rfl, pP_pre1 hP hD hS hA hK hN hZ 6 rfl⟩ rfl rfl hl.1 rfl (lv_room (Nat.le_of_ble_eq_true rfl)) dX7_writeCycle_74 ⟨by (show _ ≤ 284); (try dsimp only); omega, by (show _ ≤ 568); (try dsimp only); omega⟩) hP hD hS hA (fun u39 H locs hfit hP hD hS => ?_)
          refine W.widen (k := (sb_cap ((((n + 1) + 1) + sb_dg (zb.1.2.1 x2.toNatClampNeg).toNatClampNeg) + 1) q936) - q0) (n := 2 * ((sb_cap ((((n + 1) + 1) + sb_dg (zb.1.2.1 x2.toNatClampNeg).toNatClampNeg) + 1) q936) - q0)) (by (try dsimp only); omega) (by (try dsimp only); omega) ?_
          clear hg4
          generalize sb_cap ((((n + 1) + 1) + sb_dg (zb.1.2.1 x2.toNatClampNeg).toNatClampNeg) + 1) q936 = q940 at hP hD hg1 hg2 hg3 ⊢
          have hqq : q0 ≤ q940 := by omega
          have hnq : ((((n + 1) + 1) + sb_dg (zb.1.2.1 x2.toNatClampNeg).toNatClampNeg) + 1) ≤ q940 := hg1
          have hq9 : q940 ≤ 284 := hg3
          have hfit : sb_Fit u39.2 := hfit
          clear hg1 hg2 hg3
          have hP : va_P (dC, dI) vwCl ([[(oa 0, .inr (11, [.ref (oa 1), .ref (oa 14), .ref (oa 27), .int zv, .ref (oa 40), .ref (oa 146), .int zk, .ref (oa 152), .int zd, .int ze, .int zc]))], wX0 dA (fun k => oa (1 + k)) zb, wX0 dA (fun k => oa (14 + k)) zt, wX0 dA (fun k => oa (27 + k)) zn, wX3 dA (fun k => oa (40 + k)) zh, wX6 dA (fun k => oa (146 + k)) zx, wLN dA (oa 152) (u39.1, ml, q940, u39.2, nI ((((n + 1) + 1) + sb_dg (zb.1.2.1 x2.toNatClampNeg).toNatClampNeg) + 1))].flatten : va_W) H := hP
          have hD : va_D A ([[(oa 0, .inr (11, [.ref (oa 1), .ref (oa 14), .ref (oa 27), .int zv, .ref (oa 40), .ref (oa 146), .int zk, .ref (oa 152), .int zd, .int ze, .int zc]))], wX0 dA (fun k => oa (1 + k)) zb, wX0 dA (fun k => oa (14 + k)) zt, wX0 dA (fun k => oa (27 + k)) zn, wX3 dA (fun k => oa (40 + k)) zh, wX6 dA (fun k => oa (146 + k)) zx, wLN dA (oa 152) (u39.1, ml, q940, u39.2, nI ((((n + 1) + 1) + sb_dg (zb.1.2.1 x2.toNatClampNeg).toNatClampNeg) + 1))].flatten) := hD
          refine lv_pop hx hb dX7_writeCycle_77 rfl ?_
          refine lv_aload_n hx hb dX7_writeCycle_78 rfl (lv_at hl 0 rfl) ?_
          refine va_get (D := (dC, dI)) (ci := 11) (v := .ref (oa 152)) (C := RX7) (T := TX7) (N := 11) hx hb hts in_X7 hown hK hP 0 rfl rfl 7 (by decide) (hts _ (bg _ wd_281)) (fun _ h9 => h9) rfl dX7_writeCycle_79 ?_
          refine lv_aload_n hx hb dX7_writeCycle_82 rfl (lv_at hl 1 rfl) ?_
          refine va_get (D := (dC, dI)) (ci := 6) (v := .ref (oa 5)) (C := RX2) (T := TX2) (N := 7) hx hb hts in_X2 hown hK hP 2 rfl rfl 2 (by decide) (hts _ (bg _ wd_59)) (fun _ h9 => h9) rfl dX7_writeCycle_83 ?_
          refine lv_iload_n hx hb dX7_writeCycle_86 rfl (lv_at hl 2 rfl) ?_
          obtain ⟨z41, hf⟩ := gd hf
          refine va_iald hx hb hK hP 5 1 rfl rfl z41 dX7_writeCycle_87 ?_
          obtain ⟨z45, hf⟩ := gd hf
          have z45 := Decidable.not_not.mp z45
          refine W.eq (g2 := F0 m 88 ls (.int (nI (zb.1.2.2.1 x2.toNatClampNeg).toNatClampNeg) :: .ref (oa 152) :: [])) (congrArg (fun z9 => F0 m 88 ls (.int z9 :: .ref (oa 152) :: [])) z45.2) ?_
          obtain ⟨z42, hf⟩ := gd hf
          have hg1 := sb_cap_ge (((((n + 1) + 1) + sb_dg (zb.1.2.1 x2.toNatClampNeg).toNatClampNeg) + 1) + sb_dg (zb.1.2.2.1 x2.toNatClampNeg).toNatClampNeg) q940
          have hg2 := sb_cap_gem (((((n + 1) + 1) + sb_dg (zb.1.2.1 x2.toNatClampNeg).toNatClampNeg) + 1) + sb_dg (zb.1.2.2.1 x2.toNatClampNeg).toNatClampNeg) q940
          have hg3 := cap_le (k := (((((n + 1) + 1) + sb_dg (zb.1.2.1 x2.toNatClampNeg).toNatClampNeg) + 1) + sb_dg (zb.1.2.2.1 x2.toNatClampNeg).toNatClampNeg)) (q := q940) (by omega) hq9
          have hg4 := room_d (k := (((((n + 1) + 1) + sb_dg (zb.1.2.1 x2.toNatClampNeg).toNatClampNeg) + 1) + sb_dg (zb.1.2.2.1 x2.toNatClampNeg).toNatClampNeg)) (q := q940) (by omega) (by omega)
          refine jle_r (gs := [[(oa 0, .inr (11, [.ref (oa 1), .ref (oa 14), .ref (oa 27), .int zv, .ref (oa 40), .ref (oa 146), .int zk, .ref (oa 152), .int zd, .int ze, .int zc]))], wX0 dA (fun k => oa (1 + k)) zb, wX0 dA (fun k => oa (14 + k)) zt, wX0 dA (fun k => oa (27 + k)) zn, wX3 dA (fun k => oa (40 + k)) zh, wX6 dA (fun k => oa (146 + k)) zx]) (ad := fun _ : Nat × Ar => oa 152) (g1 := fun u : Nat × Ar => wL dA (oa 152) u.1 ml (((((n + 1) + 1) + sb_dg (zb.1.2.1 x2.toNatClampNeg).toNatClampNeg) + 1) + sb_dg (zb.1.2.2.1 x2.toNatClampNeg).toNatClampNeg) (sb_cap (((((n + 1) + 1) + sb_dg (zb.1.2.1 x2.toNatClampNeg).toNatClampNeg) + 1) + sb_dg (zb.1.2.2.1 x2.toNatClampNeg).toNatClampNeg) q940) u.2) (va_runV (As := [.int (nI (zb.1.2.2.1 x2.toNatClampNeg).toNatClampNeg)]) (rest := []) ⟨hx, hb, hml, hown, hts⟩ (m_J4_append_bf812 l dC dI dA gz H.size (oa 152) u39.1 ml ((((n + 1) + 1) + sb_dg (zb.1.2.1 x2.toNatClampNeg).toNatClampNeg) + 1) q940 u39.2 (sb_cap (((((n + 1) + 1) + sb_dg (zb.1.2.1 x2.toNatClampNeg).toNatClampNeg) + 1) + sb_dg (zb.1.2.2.1 x2.toNatClampNeg).toNatClampNeg) q940 - q940) (2 * (sb_cap (((((n + 1) + 1) + sb_dg (zb.1.2.1 x2.toNatClampNeg).toNatClampNeg) + 1) + sb_dg (zb.1.2.2.1 x2.toNatClampNeg).toNatClampNeg) q940 - q940)) ((zb.1.2.2.1 x2.toNatClampNeg).toNatClampNeg) z45.1 hg4 (by omega) (by omega) hfit) (cwV 1 hts (gi_v bg wd_1357 wd_1239 wd_1240 wd_10 wd_1241) rfl rfl rfl hd_J4_append_bf812 ⟨Nat.le_of_ble_eq_true rfl, Nat.le_of_ble_eq_true rfl⟩) ⟨pP_blind, va_recv (ci := 1) (q0 := 0) hK (seg_P hP 6 rfl) rfl rfl, pP_pre1 hP hD hS hA hK hN hZ 6 rfl⟩ rfl rfl hl.1 rfl (lv_room (Nat.le_of_ble_eq_true rfl)) dX7_writeCycle_88 ⟨by (show _ ≤ 284); (try dsimp only); omega, by (show _ ≤ 568); (try dsimp only); omega⟩) hP hD hS hA (fun u43 H locs hfit hP hD hS => ?_)
          refine W.widen (k := (sb_cap (((((n + 1) + 1) + sb_dg (zb.1.2.1 x2.toNatClampNeg).toNatClampNeg) + 1) + sb_dg (zb.1.2.2.1 x2.toNatClampNeg).toNatClampNeg) q940) - q0) (n := 2 * ((sb_cap (((((n + 1) + 1) + sb_dg (zb.1.2.1 x2.toNatClampNeg).toNatClampNeg) + 1) + sb_dg (zb.1.2.2.1 x2.toNatClampNeg).toNatClampNeg) q940) - q0)) (by (try dsimp only); omega) (by (try dsimp only); omega) ?_
          clear hg4
          generalize sb_cap (((((n + 1) + 1) + sb_dg (zb.1.2.1 x2.toNatClampNeg).toNatClampNeg) + 1) + sb_dg (zb.1.2.2.1 x2.toNatClampNeg).toNatClampNeg) q940 = q944 at hP hD hg1 hg2 hg3 ⊢
          have hqq : q0 ≤ q944 := by omega
          have hnq : (((((n + 1) + 1) + sb_dg (zb.1.2.1 x2.toNatClampNeg).toNatClampNeg) + 1) + sb_dg (zb.1.2.2.1 x2.toNatClampNeg).toNatClampNeg) ≤ q944 := hg1
          have hq9 : q944 ≤ 284 := hg3
          have hfit : sb_Fit u43.2 := hfit
          clear hg1 hg2 hg3
          have hP : va_P (dC, dI) vwCl ([[(oa 0, .inr (11, [.ref (oa 1), .ref (oa 14), .ref (oa 27), .int zv, .ref (oa 40), .ref (oa 146), .int zk, .ref (oa 152), .int zd, .int ze, .int zc]))], wX0 dA (fun k => oa (1 + k)) zb, wX0 dA (fun k => oa (14 + k)) zt, wX0 dA (fun k => oa (27 + k)) zn, wX3 dA (fun k => oa (40 + k)) zh, wX6 dA (fun k => oa (146 + k)) zx, wLN dA (oa 152) (u43.1, ml, q944, u43.2, nI (((((n + 1) + 1) + sb_dg (zb.1.2.1 x2.toNatClampNeg).toNatClampNeg) + 1) + sb_dg (zb.1.2.2.1 x2.toNatClampNeg).toNatClampNeg))].flatten : va_W) H := hP
          have hD : va_D A ([[(oa 0, .inr (11, [.ref (oa 1), .ref (oa 14), .ref (oa 27), .int zv, .ref (oa 40), .ref (oa 146), .int zk, .ref (oa 152), .int zd, .int ze, .int zc]))], wX0 dA (fun k => oa (1 + k)) zb, wX0 dA (fun k => oa (14 + k)) zt, wX0 dA (fun k => oa (27 + k)) zn, wX3 dA (fun k => oa (40 + k)) zh, wX6 dA (fun k => oa (146 + k)) zx, wLN dA (oa 152) (u43.1, ml, q944, u43.2, nI (((((n + 1) + 1) + sb_dg (zb.1.2.1 x2.toNatClampNeg).toNatClampNeg) + 1) + sb_dg (zb.1.2.2.1 x2.toNatClampNeg).toNatClampNeg))].flatten) := hD
          refine lv_pop hx hb dX7_writeCycle_91 rfl ?_
          refine lv_iload_n hx hb dX7_writeCycle_92 rfl (lv_at hl 2 rfl) ?_
          refine lv_aload_n hx hb dX7_writeCycle_93 rfl (lv_at hl 1 rfl) ?_
          refine va_get (D := (dC, dI)) (ci := 6) (v := .int zb.1.2.2.2.2.1) (C := RX2) (T := TX2) (N := 7) hx hb hts in_X2 hown hK hP 2 rfl rfl 4 (by decide) (hts _ (bg _ wd_65)) (fun _ h9 => h9) rfl dX7_writeCycle_94 ?_
          refine lv_icmp_ne (tgt := 110) hx hb dX7_writeCycle_97 (by decide) (fun q46 => ?_) (fun q46 => ?_)
          · have hf := ie q46 hf
            refine lv_iinc (v := (x2 + 1)) (lv' := [(2, .int (x2 + 1)), (0, .ref (oa 0)), (1, .ref (oa 2))]) hx hb dX7_writeCycle_110 hl (k := 2) rfl rfl (by decide) rfl (fun ls hl => ?_)
            refine lv_goto (tgt := 18) hx hb dX7_writeCycle_113 (by decide) ?_
            exact ih (x2 + 1) (((((n + 1) + 1) + sb_dg (zb.1.2.1 x2.toNatClampNeg).toNatClampNeg) + 1) + sb_dg (zb.1.2.2.1 x2.toNatClampNeg).toNatClampNeg) u43.1 ml q944 u43.2 _ _ _ hf hnq hqq hq9 hfit hP hD hS (lv_sub hl [1, 2, 0] rfl)
          · have hf := it q46 hf
            refine lv_aload_n hx hb dX7_writeCycle_100 rfl (lv_at hl 0 rfl) ?_
            refine va_get (D := (dC, dI)) (ci := 11) (v := .ref (oa 152)) (C := RX7) (T := TX7) (N := 11) hx hb hts in_X7 hown hK hP 0 rfl rfl 7 (by decide) (hts _ (bg _ wd_281)) (fun _ h9 => h9) rfl dX7_writeCycle_101 ?_
            refine lv_bipush (v := 42) hx hb dX7_writeCycle_104 (by decide) ?_
            obtain ⟨z47, hf⟩ := gd hf
            have hg1 := sb_cap_ge ((((((n + 1) + 1) + sb_dg (zb.1.2.1 x2.toNatClampNeg).toNatClampNeg) + 1) + sb_dg (zb.1.2.2.1 x2.toNatClampNeg).toNatClampNeg) + 1) q944
            have hg2 := sb_cap_gem ((((((n + 1) + 1) + sb_dg (zb.1.2.1 x2.toNatClampNeg).toNatClampNeg) + 1) + sb_dg (zb.1.2.2.1 x2.toNatClampNeg).toNatClampNeg) + 1) q944
            have hg3 := cap_le (k := ((((((n + 1) + 1) + sb_dg (zb.1.2.1 x2.toNatClampNeg).toNatClampNeg) + 1) + sb_dg (zb.1.2.2.1 x2.toNatClampNeg).toNatClampNeg) + 1)) (q := q944) (by omega) hq9
            have hg4 := room_d (k := ((((((n + 1) + 1) + sb_dg (zb.1.2.1 x2.toNatClampNeg).toNatClampNeg) + 1) + sb_dg (zb.1.2.2.1 x2.toNatClampNeg).toNatClampNeg) + 1)) (q := q944) (by omega) (by omega)
            refine jle_r (gs := [[(oa 0, .inr (11, [.ref (oa 1), .ref (oa 14), .ref (oa 27), .int zv, .ref (oa 40), .ref (oa 146), .int zk, .ref (oa 152), .int zd, .int ze, .int zc]))], wX0 dA (fun k => oa (1 + k)) zb, wX0 dA (fun k => oa (14 + k)) zt, wX0 dA (fun k => oa (27 + k)) zn, wX3 dA (fun k => oa (40 + k)) zh, wX6 dA (fun k => oa (146 + k)) zx]) (ad := fun _ : Nat × Ar => oa 152) (g1 := fun u : Nat × Ar => wL dA (oa 152) u.1 ml ((((((n + 1) + 1) + sb_dg (zb.1.2.1 x2.toNatClampNeg).toNatClampNeg) + 1) + sb_dg (zb.1.2.2.1 x2.toNatClampNeg).toNatClampNeg) + 1) (sb_cap ((((((n + 1) + 1) + sb_dg (zb.1.2.1 x2.toNatClampNeg).toNatClampNeg) + 1) + sb_dg (zb.1.2.2.1 x2.toNatClampNeg).toNatClampNeg) + 1) q944) u.2) (va_runV (As := [.int 42]) (rest := []) ⟨hx, hb, hml, hown, hts⟩ (m_J4_append_cf468 l dC dI dA gz H.size (oa 152) u43.1 ml (((((n + 1) + 1) + sb_dg (zb.1.2.1 x2.toNatClampNeg).toNatClampNeg) + 1) + sb_dg (zb.1.2.2.1 x2.toNatClampNeg).toNatClampNeg) q944 u43.2 (sb_cap ((((((n + 1) + 1) + sb_dg (zb.1.2.1 x2.toNatClampNeg).toNatClampNeg) + 1) + sb_dg (zb.1.2.2.1 x2.toNatClampNeg).toNatClampNeg) + 1) q944 - q944) (2 * (sb_cap ((((((n + 1) + 1) + sb_dg (zb.1.2.1 x2.toNatClampNeg).toNatClampNeg) + 1) + sb_dg (zb.1.2.2.1 x2.toNatClampNeg).toNatClampNeg) + 1) q944 - q944)) 42 (by decide) hg4 (by omega) (by omega) hfit) (cwV 1 hts (gi_v bg wd_1358 wd_1359 wd_1360 wd_10 wd_1361) rfl rfl rfl hd_J4_append_cf468 ⟨Nat.le_of_ble_eq_true rfl, Nat.le_of_ble_eq_true rfl⟩) ⟨pP_blind, va_recv (ci := 1) (q0 := 0) hK (seg_P hP 6 rfl) rfl rfl, pP_pre1 hP hD hS hA hK hN hZ 6 rfl⟩ rfl rfl hl.1 rfl (lv_room (Nat.le_of_ble_eq_true rfl)) dX7_writeCycle_106 ⟨by (show _ ≤ 284); (try dsimp only); omega, by (show _ ≤ 568); (try dsimp only); omega⟩) hP hD hS hA (fun u48 H locs hfit hP hD hS => ?_)
            refine W.widen (k := (sb_cap ((((((n + 1) + 1) + sb_dg (zb.1.2.1 x2.toNatClampNeg).toNatClampNeg) + 1) + sb_dg (zb.1.2.2.1 x2.toNatClampNeg).toNatClampNeg) + 1) q944) - q0) (n := 2 * ((sb_cap ((((((n + 1) + 1) + sb_dg (zb.1.2.1 x2.toNatClampNeg).toNatClampNeg) + 1) + sb_dg (zb.1.2.2.1 x2.toNatClampNeg).toNatClampNeg) + 1) q944) - q0)) (by (try dsimp only); omega) (by (try dsimp only); omega) ?_
            clear hg4
            generalize sb_cap ((((((n + 1) + 1) + sb_dg (zb.1.2.1 x2.toNatClampNeg).toNatClampNeg) + 1) + sb_dg (zb.1.2.2.1 x2.toNatClampNeg).toNatClampNeg) + 1) q944 = q949 at hP hD hg1 hg2 hg3 ⊢
            have hqq : q0 ≤ q949 := by omega
            have hnq : ((((((n + 1) + 1) + sb_dg (zb.1.2.1 x2.toNatClampNeg).toNatClampNeg) + 1) + sb_dg (zb.1.2.2.1 x2.toNatClampNeg).toNatClampNeg) + 1) ≤ q949 := hg1
            have hq9 : q949 ≤ 284 := hg3
            have hfit : sb_Fit u48.2 := hfit
            clear hg1 hg2 hg3
            have hP : va_P (dC, dI) vwCl ([[(oa 0, .inr (11, [.ref (oa 1), .ref (oa 14), .ref (oa 27), .int zv, .ref (oa 40), .ref (oa 146), .int zk, .ref (oa 152), .int zd, .int ze, .int zc]))], wX0 dA (fun k => oa (1 + k)) zb, wX0 dA (fun k => oa (14 + k)) zt, wX0 dA (fun k => oa (27 + k)) zn, wX3 dA (fun k => oa (40 + k)) zh, wX6 dA (fun k => oa (146 + k)) zx, wLN dA (oa 152) (u48.1, ml, q949, u48.2, nI ((((((n + 1) + 1) + sb_dg (zb.1.2.1 x2.toNatClampNeg).toNatClampNeg) + 1) + sb_dg (zb.1.2.2.1 x2.toNatClampNeg).toNatClampNeg) + 1))].flatten : va_W) H := hP
            have hD : va_D A ([[(oa 0, .inr (11, [.ref (oa 1), .ref (oa 14), .ref (oa 27), .int zv, .ref (oa 40), .ref (oa 146), .int zk, .ref (oa 152), .int zd, .int ze, .int zc]))], wX0 dA (fun k => oa (1 + k)) zb, wX0 dA (fun k => oa (14 + k)) zt, wX0 dA (fun k => oa (27 + k)) zn, wX3 dA (fun k => oa (40 + k)) zh, wX6 dA (fun k => oa (146 + k)) zx, wLN dA (oa 152) (u48.1, ml, q949, u48.2, nI ((((((n + 1) + 1) + sb_dg (zb.1.2.1 x2.toNatClampNeg).toNatClampNeg) + 1) + sb_dg (zb.1.2.2.1 x2.toNatClampNeg).toNatClampNeg) + 1))].flatten) := hD
            refine lv_pop hx hb dX7_writeCycle_109 rfl ?_
            refine lv_iinc (v := (x2 + 1)) (lv' := [(2, .int (x2 + 1)), (0, .ref (oa 0)), (1, .ref (oa 2))]) hx hb dX7_writeCycle_110 hl (k := 2) rfl rfl (by decide) rfl (fun ls hl => ?_)
            refine lv_goto (tgt := 18) hx hb dX7_writeCycle_113 (by decide) ?_
            exact ih (x2 + 1) ((((((n + 1) + 1) + sb_dg (zb.1.2.1 x2.toNatClampNeg).toNatClampNeg) + 1) + sb_dg (zb.1.2.2.1 x2.toNatClampNeg).toNatClampNeg) + 1) u48.1 ml q949 u48.2 _ _ _ hf hnq hqq hq9 hfit hP hD hS (lv_sub hl [1, 2, 0] rfl)
  rw [f_X7_writeCycle] at hf
  refine lv_aload_n hx hb dX7_writeCycle_0 rfl (lv_at hl 0 rfl) ?_
  refine va_get (D := (dC, dI)) (ci := 11) (v := .ref (oa 1)) (C := RX7) (T := TX7) (N := 11) hx hb hts in_X7 hown hK hP 0 rfl rfl 0 (by decide) (hts _ (bg _ wd_274)) (fun _ h9 => h9) rfl dX7_writeCycle_1 ?_
  refine va_get (D := (dC, dI)) (ci := 4) (v := .ref (oa 2)) (C := RX0) (T := TX0) (N := 4) hx hb hts in_X0 hown hK hP 1 rfl rfl 0 (by decide) (hts _ (bg _ wd_167)) (fun _ h9 => h9) rfl dX7_writeCycle_4 ?_
  refine lv_astore_n (lv' := [(1, .ref (oa 2)), (0, .ref (oa 0))]) hx hb dX7_writeCycle_7 rfl hl (by decide) rfl (fun ls hl => ?_)
  refine lv_aload_n hx hb dX7_writeCycle_8 rfl (lv_at hl 1 rfl) ?_
  refine va_get (D := (dC, dI)) (ci := 11) (v := .ref (oa 152)) (C := RX7) (T := TX7) (N := 11) hx hb hts in_X7 hown hK hP 0 rfl rfl 7 (by decide) (hts _ (bg _ wd_281)) (fun _ h9 => h9) rfl dX7_writeCycle_9 ?_
  refine lv_iconst (v := 0) hx hb dX7_writeCycle_12 (by decide) ?_
  refine jle_v (gs := [[(oa 0, .inr (11, [.ref (oa 1), .ref (oa 14), .ref (oa 27), .int zv, .ref (oa 40), .ref (oa 146), .int zk, .ref (oa 152), .int zd, .int ze, .int zc]))], wX0 dA (fun k => oa (1 + k)) zb, wX0 dA (fun k => oa (14 + k)) zt, wX0 dA (fun k => oa (27 + k)) zn, wX3 dA (fun k => oa (40 + k)) zh, wX6 dA (fun k => oa (146 + k)) zx]) (g1 := fun u : Nat × Int32 × Ar => wL dA (oa 152) u.1 u.2.1 0 q0 u.2.2) (va_runV (As := [.int 0]) (rest := []) ⟨hx, hb, hml, hown, hts⟩ (m_J4_setLength_d00df l dC dI dA gz s.heap.size (oa 152) b0 ml0 n0 q0 f0 hnq (by omega) hfit) (cwV 1 hts (gi_v bg wd_1128 wd_1129 wd_1130 wd_10 wd_1131) rfl rfl rfl hd_J4_setLength_d00df ⟨Nat.le_of_ble_eq_true rfl, Nat.le_of_ble_eq_true rfl⟩) ⟨pP_blind, va_recv (ci := 1) (q0 := 0) hK (seg_P hP 6 rfl) rfl rfl, pP_pre1 hP hD hS hA hK hN hZ 6 rfl⟩ rfl rfl hl.1 rfl (lv_room (Nat.le_of_ble_eq_true rfl)) dX7_writeCycle_13 ⟨by (show _ ≤ 284); (try dsimp only); omega, by (show _ ≤ 568); (try dsimp only); omega⟩) hP hD hS hA (fun u50 H locs hu50 hP hD hS => ?_)
  have hfit : sb_Fit u50.2.2 := hu50
  have hnq : 0 ≤ q0 := Nat.zero_le _
  refine W.widen (k := q0 - q0) (n := 2 * (q0 - q0)) (by (try dsimp only); omega) (by (try dsimp only); omega) ?_
  have hP : va_P (dC, dI) vwCl ([[(oa 0, .inr (11, [.ref (oa 1), .ref (oa 14), .ref (oa 27), .int zv, .ref (oa 40), .ref (oa 146), .int zk, .ref (oa 152), .int zd, .int ze, .int zc]))], wX0 dA (fun k => oa (1 + k)) zb, wX0 dA (fun k => oa (14 + k)) zt, wX0 dA (fun k => oa (27 + k)) zn, wX3 dA (fun k => oa (40 + k)) zh, wX6 dA (fun k => oa (146 + k)) zx, wLN dA (oa 152) (u50.1, u50.2.1, q0, u50.2.2, nI 0)].flatten : va_W) H := hP
  have hD : va_D A ([[(oa 0, .inr (11, [.ref (oa 1), .ref (oa 14), .ref (oa 27), .int zv, .ref (oa 40), .ref (oa 146), .int zk, .ref (oa 152), .int zd, .int ze, .int zc]))], wX0 dA (fun k => oa (1 + k)) zb, wX0 dA (fun k => oa (14 + k)) zt, wX0 dA (fun k => oa (27 + k)) zn, wX3 dA (fun k => oa (40 + k)) zh, wX6 dA (fun k => oa (146 + k)) zx, wLN dA (oa 152) (u50.1, u50.2.1, q0, u50.2.2, nI 0)].flatten) := hD
  refine lv_iconst (v := 0) hx hb dX7_writeCycle_16 (by decide) ?_
  refine lv_istore_n (lv' := [(2, .int 0), (1, .ref (oa 2)), (0, .ref (oa 0))]) hx hb dX7_writeCycle_17 rfl hl (by decide) rfl (fun ls hl => ?_)
  exact cut18  20 0 0 u50.1 u50.2.1 q0 u50.2.2 _ _ _ hf hnq hqq hq9 hfit hP hD hS (lv_sub hl [2, 1, 0] rfl)
/-! X7_writePat -/
def f_X7_writePat_85 (zb : SX0) (zt : SX0) (zn : SX0) (zv : Int32) (zh : SX3) (zx : SX6) (zk : Int32) (zd : Int32) (ze : Int32) (zc : Int32) (p1 : Int32) : Nat → Int32 → Nat → Option ((Int32 ⊕ String) × SX7)
  | 0, _, _ => none
  | n9 + 1, x3, n =>
  if p1 < 0 ∨ 12 ≤ p1.toNatClampNeg then none else
  (if (zb.2.2.1.2.2.2.1 p1.toNatClampNeg) ≤ x3 then some (.inl (nI n), (zb, zt, zn, zv, zh, zx, zk, zd, ze, zc)) else
  if 142 < n + 1 then none else
  f_X7_writePat_85 zb zt zn zv zh zx zk zd ze zc p1 n9 (x3 + 1) (n + 1))
def f_X7_writePat (zb : SX0) (zt : SX0) (zn : SX0) (zv : Int32) (zh : SX3) (zx : SX6) (zk : Int32) (zd : Int32) (ze : Int32) (zc : Int32) (p1 : Int32) : Option ((Int32 ⊕ String) × SX7) :=
  bE7 (f_X7_requirePat zb zt zn zv zh zx zk zd ze zc p1) fun _ c7_zb c7_zt c7_zn c7_zv c7_zh c7_zx c7_zk c7_zd c7_ze c7_zc =>
  if p1 < 0 ∨ 12 ≤ p1.toNatClampNeg then none else
  if ¬ ((c7_zb.2.2.1.1 p1.toNatClampNeg).toNatClampNeg < 1000 ∧ (c7_zb.2.2.1.1 p1.toNatClampNeg) = nI (c7_zb.2.2.1.1 p1.toNatClampNeg).toNatClampNeg) then none else
  if 142 < 0 + sb_dg (c7_zb.2.2.1.1 p1.toNatClampNeg).toNatClampNeg then none else
  if 142 < (0 + sb_dg (c7_zb.2.2.1.1 p1.toNatClampNeg).toNatClampNeg) + 1 then none else
  if p1 < 0 ∨ 12 ≤ p1.toNatClampNeg then none else
  if ¬ ((c7_zb.2.2.1.2.1 p1.toNatClampNeg).toNatClampNeg < 1000 ∧ (c7_zb.2.2.1.2.1 p1.toNatClampNeg) = nI (c7_zb.2.2.1.2.1 p1.toNatClampNeg).toNatClampNeg) then none else
  if 142 < ((0 + sb_dg (c7_zb.2.2.1.1 p1.toNatClampNeg).toNatClampNeg) + 1) + sb_dg (c7_zb.2.2.1.2.1 p1.toNatClampNeg).toNatClampNeg then none else
  if 142 < (((0 + sb_dg (c7_zb.2.2.1.1 p1.toNatClampNeg).toNatClampNeg) + 1) + sb_dg (c7_zb.2.2.1.2.1 p1.toNatClampNeg).toNatClampNeg) + 1 then none else
  if p1 < 0 ∨ 12 ≤ p1.toNatClampNeg then none else
  if ¬ ((c7_zb.2.2.1.2.2.1 p1.toNatClampNeg).toNatClampNeg < 1000 ∧ (c7_zb.2.2.1.2.2.1 p1.toNatClampNeg) = nI (c7_zb.2.2.1.2.2.1 p1.toNatClampNeg).toNatClampNeg) then none else
  if 142 < ((((0 + sb_dg (c7_zb.2.2.1.1 p1.toNatClampNeg).toNatClampNeg) + 1) + sb_dg (c7_zb.2.2.1.2.1 p1.toNatClampNeg).toNatClampNeg) + 1) + sb_dg (c7_zb.2.2.1.2.2.1 p1.toNatClampNeg).toNatClampNeg then none else
  f_X7_writePat_85 c7_zb c7_zt c7_zn c7_zv c7_zh c7_zx c7_zk c7_zd c7_ze c7_zc p1 20 0 (((((0 + sb_dg (c7_zb.2.2.1.1 p1.toNatClampNeg).toNatClampNeg) + 1) + sb_dg (c7_zb.2.2.1.2.1 p1.toNatClampNeg).toNatClampNeg) + 1) + sb_dg (c7_zb.2.2.1.2.2.1 p1.toNatClampNeg).toNatClampNeg)
set_option maxRecDepth 100000 in
set_option maxHeartbeats 4000000 in
theorem m_X7_writePat (l : Launch) (hl0 : l.stackTraces = false) (dC : Nat → ClassId) (dI : Nat → Nat → Nat) (dA gz : Nat → Nat) (oa : Nat → Nat) (sz : Nat) (b0 : Nat) (ml0 : Int32) (n0 q0 : Nat) (f0 : Ar) (hn0 : n0 ≤ q0) (hq0 : q0 ≤ 284) (hf0 : sb_Fit f0) (zb : SX0) (zt : SX0) (zn : SX0) (zv : Int32) (zh : SX3) (zx : SX6) (zk : Int32) (zd : Int32) (ze : Int32) (zc : Int32) (p1 : Int32) (rr : Int32 ⊕ String) (uu : SX7) (hf : f_X7_writePat zb zt zn zv zh zx zk zd ze zc p1 = some (rr, uu)) : vx_Met l yX7_writePat ws_X7_writePat ({ frames := 46, cells := 285, slots := 574, locals := 2000 } : Room) (va_Pc [.ref (oa 0), .int p1] (pP (dC, dI) dA gz (wX7 dA oa (zb, zt, zn, zv, zh, zx, zk, zd, ze, zc) (b0, ml0, q0, f0, nI n0)) sz)) (va_Qi (S := Nat × Int32 × Nat × Nat × Ar) (fun r' u => rr = Sum.inl r' ∧ u.2.2.1 ≤ u.2.2.2.1 ∧ u.2.2.2.1 ≤ 284 ∧ sb_Fit u.2.2.2.2) (fun u t => pQ (dC, dI) (va_A (wX7 dA oa (zb, zt, zn, zv, zh, zx, zk, zd, ze, zc) (b0, ml0, q0, f0, nI n0)) sz) (wX7 dA oa uu (u.1, u.2.1, u.2.2.2.1, u.2.2.2.2, nI u.2.2.1)) t) (va_A (wX7 dA oa (zb, zt, zn, zv, zh, zx, zk, zd, ze, zc) (b0, ml0, q0, f0, nI n0)) sz)) (XCx (dC, dI) (va_A (wX7 dA oa (zb, zt, zn, zv, zh, zx, zk, zd, ze, zc) (b0, ml0, q0, f0, nI n0)) sz) rr (wX7 dA oa uu (b0, ml0, q0, f0, nI n0))) 285 574 (va_A (wX7 dA oa (zb, zt, zn, zv, zh, zx, zk, zd, ze, zc) (b0, ml0, q0, f0, nI n0)) sz) := by
  refine vx_ofW (cc := cX7_writePat) (maxL := 4) (ret := (some .int)) (by decide) rfl ?_
  intro p e s m args below meth c s₁ B hml ht9 hv
  obtain ⟨rfl, hsz, hP, hK, hD0, hN, hZ⟩ := hv
  have hnq : n0 ≤ q0 := hn0
  have hqq : q0 ≤ q0 := Nat.le_refl _
  have hq9 : q0 ≤ 284 := hq0
  have hfit : sb_Fit f0 := hf0
  have hx := B.exec
  have hb := B.bytes
  have hr := B.returns
  have hts := atoms_spec (ws := ws_X7_writePat) B.pre
  have htb : ∀ w ∈ BIG, w.before _ s = true := fun w h => hts w (bg w h)
  have hown : s.vm.findClass RX7 = some m.cls := findClass_of_methodNamed B.named
  have hlocks := B.notSynchronized
  subst hsz
  have hD := hD0.self (sz := s.heap.size)
  generalize hAe : va_A (wX7 dA oa (zb, zt, zn, zv, zh, zx, zk, zd, ze, zc) (b0, ml0, q0, f0, nI n0)) s.heap.size = A at hD hZ ⊢
  have hA : ∀ q : Nat, s.heap.size ≤ q → A q := fun q h => by rw [← hAe]; exact Or.inr h
  have hS : va_S A s.heap s.heap [] := va_S.rf
  have hP : va_P (dC, dI) vwCl ([[(oa 0, .inr (11, [.ref (oa 1), .ref (oa 14), .ref (oa 27), .int zv, .ref (oa 40), .ref (oa 146), .int zk, .ref (oa 152), .int zd, .int ze, .int zc]))], wX0 dA (fun k => oa (1 + k)) zb, wX0 dA (fun k => oa (14 + k)) zt, wX0 dA (fun k => oa (27 + k)) zn, wX3 dA (fun k => oa (40 + k)) zh, wX6 dA (fun k => oa (146 + k)) zx, wLN dA (oa 152) (b0, ml0, q0, f0, nI n0)].flatten) s.heap := hP
  have hD : va_D A ([[(oa 0, .inr (11, [.ref (oa 1), .ref (oa 14), .ref (oa 27), .int zv, .ref (oa 40), .ref (oa 146), .int zk, .ref (oa 152), .int zd, .int ze, .int zc]))], wX0 dA (fun k => oa (1 + k)) zb, wX0 dA (fun k => oa (14 + k)) zt, wX0 dA (fun k => oa (27 + k)) zn, wX3 dA (fun k => oa (40 + k)) zh, wX6 dA (fun k => oa (146 + k)) zx, wLN dA (oa 152) (b0, ml0, q0, f0, nI n0)].flatten) := hD
  have hl := lv_entry [.ref (oa 0), .int p1] (n := 4) (Nat.le_of_ble_eq_true rfl)
  rw [lg_entry_eq]
  generalize (lg_sl [.ref (oa 0), .int p1] ++ List.replicate (4 - (lg_sl [.ref (oa 0), .int p1]).length) Slot.unset).toArray = ls at hl ⊢
  have hl : lv_has ls 4 [(0, .ref (oa 0)), (1, .int p1)] := hl
  have in_X0 : ∀ w ∈ wsX00, w ∈ ws_X7_writePat := fun w h => bg _ (inB_X0 w h)
  have in_X4 : ∀ w ∈ wsX40, w ∈ ws_X7_writePat := fun w h => bg _ (inB_X4 w h)
  have in_X7 : ∀ w ∈ wsX70, w ∈ ws_X7_writePat := fun w h => bg _ (inB_X7 w h)
  have cut85 : ∀ (zb : SX0) (zt : SX0) (zn : SX0) (zv : Int32) (zh : SX3) (zx : SX6) (zk : Int32) (zd : Int32) (ze : Int32) (zc : Int32) (n9 : Nat) (x3 : Int32) (n b : Nat) (ml : Int32) (q : Nat) (f : Ar) (H : Heap) (locs : List Loc) (ls : Array Slot), f_X7_writePat_85 zb zt zn zv zh zx zk zd ze zc p1 n9 x3 n = some (rr, uu) → n ≤ q → q0 ≤ q → q ≤ 284 → sb_Fit f → va_P (dC, dI) vwCl ([[(oa 0, .inr (11, [.ref (oa 1), .ref (oa 14), .ref (oa 27), .int zv, .ref (oa 40), .ref (oa 146), .int zk, .ref (oa 152), .int zd, .int ze, .int zc]))], wX0 dA (fun k => oa (1 + k)) zb, wX0 dA (fun k => oa (14 + k)) zt, wX0 dA (fun k => oa (27 + k)) zn, wX3 dA (fun k => oa (40 + k)) zh, wX6 dA (fun k => oa (146 + k)) zx, wLN dA (oa 152) (b, ml, q, f, nI n)].flatten) H → va_D A ([[(oa 0, .inr (11, [.ref (oa 1), .ref (oa 14), .ref (oa 27), .int zv, .ref (oa 40), .ref (oa 146), .int zk, .ref (oa 152), .int zd, .int ze, .int zc]))], wX0 dA (fun k => oa (1 + k)) zb, wX0 dA (fun k => oa (14 + k)) zt, wX0 dA (fun k => oa (27 + k)) zn, wX3 dA (fun k => oa (40 + k)) zh, wX6 dA (fun k => oa (146 + k)) zx, wLN dA (oa 152) (b, ml, q, f, nI n)].flatten) → va_S A s.heap H locs → lv_has ls 4 [(0, .ref (oa 0)), (1, .int p1), (2, .ref (oa 7)), (3, .int x3)] → W p l e (headSpec ws_X7_writePat ({ frames := 46, cells := 285, slots := 574, locals := 2000 } : Room)).room s m ([.ref (oa 0), .int p1] : List Value).toArray below meth c H locs (1 + (q - q0)) (6 + 2 * (q - q0)) (vx_MQ below (va_Qi (S := Nat × Int32 × Nat × Nat × Ar) (fun r' u => rr = Sum.inl r' ∧ u.2.2.1 ≤ u.2.2.2.1 ∧ u.2.2.2.1 ≤ 284 ∧ sb_Fit u.2.2.2.2) (fun u t => pQ (dC, dI) A (wX7 dA oa uu (u.1, u.2.1, u.2.2.2.1, u.2.2.2.2, nI u.2.2.1)) t) A) (XCx (dC, dI) A rr (wX7 dA oa uu (b0, ml0, q0, f0, nI n0))) ([.ref (oa 0), .int p1] : List Value).toArray s 285 574 A) (F0 m 85 ls []) := by
    intro zb zt zn zv zh zx zk zd ze zc n9
    induction n9 with
    | zero =>
      intro x3 n b ml q f H locs ls hf
      rw [f_X7_writePat_85] at hf
      cases hf
    | succ n9 ih =>
      intro x3 n b ml q f H locs ls hf hnq hqq hq9 hfit hP hD hS hl
      rw [f_X7_writePat_85] at hf
      refine lv_iload_n hx hb dX7_writePat_85 rfl (lv_at hl 3 rfl) ?_
      refine lv_aload_n hx hb dX7_writePat_86 rfl (lv_at hl 2 rfl) ?_
      refine va_get (D := (dC, dI)) (ci := 8) (v := .ref (oa 11)) (C := RX4) (T := TX4) (N := 5) hx hb hts in_X4 hown hK hP 7 rfl rfl 3 (by decide) (hts _ (bg _ wd_126)) (fun _ h9 => h9) rfl dX7_writePat_87 ?_
      refine lv_iload_n hx hb dX7_writePat_90 rfl (lv_at hl 1 rfl) ?_
      obtain ⟨z1, hf⟩ := gd hf
      refine va_iald hx hb hK hP 11 1 rfl rfl z1 dX7_writePat_91 ?_
      refine lv_icmp_ge (tgt := 111) hx hb dX7_writePat_92 (by decide) (fun q2 => ?_) (fun q2 => ?_)
      · have hf := it q2 hf
        refine lv_aload_n hx hb dX7_writePat_111 rfl (lv_at hl 0 rfl) ?_
        refine va_get (D := (dC, dI)) (ci := 11) (v := .ref (oa 152)) (C := RX7) (T := TX7) (N := 11) hx hb hts in_X7 hown hK hP 0 rfl rfl 7 (by decide) (hts _ (bg _ wd_281)) (fun _ h9 => h9) rfl dX7_writePat_112 ?_
        refine jgr_i (va_runV (As := []) (rest := []) ⟨hx, hb, hml, hown, hts⟩ (m_J4_length_8abf5 l dC dI dA gz H.size (oa 152) b ml n q f) (cwV 0 hts (gi_v bg wd_1371 wd_1284 wd_1469 wd_10 wd_1285) rfl rfl rfl hd_J4_length_8abf5 ⟨Nat.le_of_ble_eq_true rfl, Nat.le_of_ble_eq_true rfl⟩) ⟨pP_blind, va_recv (ci := 1) (q0 := 0) hK (seg_P hP 6 rfl) rfl rfl, pP_pre1 hP hD hS hA hK hN hZ 6 rfl⟩ rfl rfl hl.1 rfl (lv_room (Nat.le_of_ble_eq_true rfl)) dX7_writePat_115 ⟨by (show _ ≤ 285); (try dsimp only); omega, by (show _ ≤ 574); (try dsimp only); omega⟩) hP hD hS hA 6 rfl (fun H locs hP hS => ?_)
        obtain ⟨e8, e9⟩ := Prod.mk.inj (sm hf)
        refine W.widen (k := 285) (n := 574) (by (try dsimp only); omega) (by (try dsimp only); omega) ?_
        exact vx_ret (W.iret hx hb hr (fun t ht hW => ⟨⟨_, (b, ml, n, q, f), rfl, ⟨e8.symm, hnq, hq9, hfit⟩, by rw [← e9, ht]; exact hP, by rw [← e9]; exact hD⟩, hS.F ht⟩) hS.2.2 dX7_writePat_118)
      · have hf := ie q2 hf
        refine lv_aload_n hx hb dX7_writePat_95 rfl (lv_at hl 0 rfl) ?_
        refine va_get (D := (dC, dI)) (ci := 11) (v := .ref (oa 152)) (C := RX7) (T := TX7) (N := 11) hx hb hts in_X7 hown hK hP 0 rfl rfl 7 (by decide) (hts _ (bg _ wd_281)) (fun _ h9 => h9) rfl dX7_writePat_96 ?_
        refine lv_bipush (v := 47) hx hb dX7_writePat_99 (by decide) ?_
        obtain ⟨z3, hf⟩ := gd hf
        have hg1 := sb_cap_ge (n + 1) q
        have hg2 := sb_cap_gem (n + 1) q
        have hg3 := cap_le (k := (n + 1)) (q := q) (by omega) hq9
        have hg4 := room_d (k := (n + 1)) (q := q) (by omega) (by omega)
        refine jle_r (gs := [[(oa 0, .inr (11, [.ref (oa 1), .ref (oa 14), .ref (oa 27), .int zv, .ref (oa 40), .ref (oa 146), .int zk, .ref (oa 152), .int zd, .int ze, .int zc]))], wX0 dA (fun k => oa (1 + k)) zb, wX0 dA (fun k => oa (14 + k)) zt, wX0 dA (fun k => oa (27 + k)) zn, wX3 dA (fun k => oa (40 + k)) zh, wX6 dA (fun k => oa (146 + k)) zx]) (ad := fun _ : Nat × Ar => oa 152) (g1 := fun u : Nat × Ar => wL dA (oa 152) u.1 ml (n + 1) (sb_cap (n + 1) q) u.2) (va_runV (As := [.int 47]) (rest := []) ⟨hx, hb, hml, hown, hts⟩ (m_J4_append_cf468 l dC dI dA gz H.size (oa 152) b ml n q f (sb_cap (n + 1) q - q) (2 * (sb_cap (n + 1) q - q)) 47 (by decide) hg4 (by omega) (by omega) hfit) (cwV 1 hts (gi_v bg wd_1358 wd_1359 wd_1360 wd_10 wd_1361) rfl rfl rfl hd_J4_append_cf468 ⟨Nat.le_of_ble_eq_true rfl, Nat.le_of_ble_eq_true rfl⟩) ⟨pP_blind, va_recv (ci := 1) (q0 := 0) hK (seg_P hP 6 rfl) rfl rfl, pP_pre1 hP hD hS hA hK hN hZ 6 rfl⟩ rfl rfl hl.1 rfl (lv_room (Nat.le_of_ble_eq_true rfl)) dX7_writePat_101 ⟨by (show _ ≤ 285); (try dsimp only); omega, by (show _ ≤ 574); (try dsimp only); omega⟩) hP hD hS hA (fun u4 H locs hfit hP hD hS => ?_)
        refine W.widen (k := 1 + ((sb_cap (n + 1) q) - q0)) (n := 6 + 2 * ((sb_cap (n + 1) q) - q0)) (by (try dsimp only); omega) (by (try dsimp only); omega) ?_
        clear hg4
        generalize sb_cap (n + 1) q = q95 at hP hD hg1 hg2 hg3 ⊢
        have hqq : q0 ≤ q95 := by omega
        have hnq : (n + 1) ≤ q95 := hg1
        have hq9 : q95 ≤ 284 := hg3
        have hfit : sb_Fit u4.2 := hfit
        clear hg1 hg2 hg3
        have hP : va_P (dC, dI) vwCl ([[(oa 0, .inr (11, [.ref (oa 1), .ref (oa 14), .ref (oa 27), .int zv, .ref (oa 40), .ref (oa 146), .int zk, .ref (oa 152), .int zd, .int ze, .int zc]))], wX0 dA (fun k => oa (1 + k)) zb, wX0 dA (fun k => oa (14 + k)) zt, wX0 dA (fun k => oa (27 + k)) zn, wX3 dA (fun k => oa (40 + k)) zh, wX6 dA (fun k => oa (146 + k)) zx, wLN dA (oa 152) (u4.1, ml, q95, u4.2, nI (n + 1))].flatten : va_W) H := hP
        have hD : va_D A ([[(oa 0, .inr (11, [.ref (oa 1), .ref (oa 14), .ref (oa 27), .int zv, .ref (oa 40), .ref (oa 146), .int zk, .ref (oa 152), .int zd, .int ze, .int zc]))], wX0 dA (fun k => oa (1 + k)) zb, wX0 dA (fun k => oa (14 + k)) zt, wX0 dA (fun k => oa (27 + k)) zn, wX3 dA (fun k => oa (40 + k)) zh, wX6 dA (fun k => oa (146 + k)) zx, wLN dA (oa 152) (u4.1, ml, q95, u4.2, nI (n + 1))].flatten) := hD
        refine lv_pop hx hb dX7_writePat_104 rfl ?_
        refine lv_iinc (v := (x3 + 1)) (lv' := [(3, .int (x3 + 1)), (0, .ref (oa 0)), (1, .int p1), (2, .ref (oa 7))]) hx hb dX7_writePat_105 hl (k := 3) rfl rfl (by decide) rfl (fun ls hl => ?_)
        refine lv_goto (tgt := 85) hx hb dX7_writePat_108 (by decide) ?_
        exact ih (x3 + 1) (n + 1) u4.1 ml q95 u4.2 _ _ _ hf hnq hqq hq9 hfit hP hD hS (lv_sub hl [1, 2, 3, 0] rfl)
  rw [f_X7_writePat] at hf
  refine lv_aload_n hx hb dX7_writePat_0 rfl (lv_at hl 0 rfl) ?_
  refine lv_iload_n hx hb dX7_writePat_1 rfl (lv_at hl 1 rfl) ?_
  rcases bE7_inv hf with ⟨r8, c7_zb, c7_zt, c7_zn, c7_zv, c7_zh, c7_zx, c7_zk, c7_zd, c7_ze, c7_zc, eh6, hf⟩ | ⟨E9, S9, eh6, hf⟩
  · refine jx_v (w1 := wX7 dA oa (c7_zb, c7_zt, c7_zn, c7_zv, c7_zh, c7_zx, c7_zk, c7_zd, c7_ze, c7_zc) (b0, ml0, q0, f0, nI n0)) (vx_runV (As := [.int p1]) (rest := []) ⟨hx, hb, hml, hown, hts⟩ (m_X7_requirePat l hl0 dC dI dA gz oa s.heap.size (b0, ml0, q0, f0, nI n0) zb zt zn zv zh zx zk zd ze zc p1 (.inl ()) (c7_zb, c7_zt, c7_zn, c7_zv, c7_zh, c7_zx, c7_zk, c7_zd, c7_ze, c7_zc) eh6) (cwV 1 hts (gi_v bg wd_1054 wd_1056 ws_17 wd_1 wd_1057) rfl rfl rfl hd_X7_requirePat ⟨Nat.le_of_ble_eq_true rfl, Nat.le_of_ble_eq_true rfl⟩) ⟨pP_blind, va_recv (ci := 11) (q0 := 0) hK hP rfl rfl, pP_preW hP hD hS hA hK hN hZ⟩ rfl rfl hl.1 rfl (lv_room (Nat.le_of_ble_eq_true rfl)) dX7_writePat_2 ⟨Nat.le_of_ble_eq_true rfl, Nat.le_of_ble_eq_true rfl⟩) hD hS hA (fun E ce q9 H locs h9 _ _ _ _ _ _ => nomatch h9) (fun H locs h9 hP hD hS => ?_)
    have hP : va_P (dC, dI) vwCl ([[(oa 0, .inr (11, [.ref (oa 1), .ref (oa 14), .ref (oa 27), .int c7_zv, .ref (oa 40), .ref (oa 146), .int c7_zk, .ref (oa 152), .int c7_zd, .int c7_ze, .int c7_zc]))], wX0 dA (fun k => oa (1 + k)) c7_zb, wX0 dA (fun k => oa (14 + k)) c7_zt, wX0 dA (fun k => oa (27 + k)) c7_zn, wX3 dA (fun k => oa (40 + k)) c7_zh, wX6 dA (fun k => oa (146 + k)) c7_zx, wLN dA (oa 152) (b0, ml0, q0, f0, nI n0)].flatten) H := hP
    have hD : va_D A ([[(oa 0, .inr (11, [.ref (oa 1), .ref (oa 14), .ref (oa 27), .int c7_zv, .ref (oa 40), .ref (oa 146), .int c7_zk, .ref (oa 152), .int c7_zd, .int c7_ze, .int c7_zc]))], wX0 dA (fun k => oa (1 + k)) c7_zb, wX0 dA (fun k => oa (14 + k)) c7_zt, wX0 dA (fun k => oa (27 + k)) c7_zn, wX3 dA (fun k => oa (40 + k)) c7_zh, wX6 dA (fun k => oa (146 + k)) c7_zx, wLN dA (oa 152) (b0, ml0, q0, f0, nI n0)].flatten) := hD
    refine lv_aload_n hx hb dX7_writePat_5 rfl (lv_at hl 0 rfl) ?_
    refine va_get (D := (dC, dI)) (ci := 11) (v := .ref (oa 1)) (C := RX7) (T := TX7) (N := 11) hx hb hts in_X7 hown hK hP 0 rfl rfl 0 (by decide) (hts _ (bg _ wd_274)) (fun _ h9 => h9) rfl dX7_writePat_6 ?_
    refine va_get (D := (dC, dI)) (ci := 4) (v := .ref (oa 7)) (C := RX0) (T := TX0) (N := 4) hx hb hts in_X0 hown hK hP 1 rfl rfl 2 (by decide) (hts _ (bg _ wd_171)) (fun _ h9 => h9) rfl dX7_writePat_9 ?_
    refine lv_astore_n (lv' := [(2, .ref (oa 7)), (0, .ref (oa 0)), (1, .int p1)]) hx hb dX7_writePat_12 rfl hl (by decide) rfl (fun ls hl => ?_)
    refine lv_aload_n hx hb dX7_writePat_13 rfl (lv_at hl 1 rfl) ?_
    refine va_get (D := (dC, dI)) (ci := 11) (v := .ref (oa 152)) (C := RX7) (T := TX7) (N := 11) hx hb hts in_X7 hown hK hP 0 rfl rfl 7 (by decide) (hts _ (bg _ wd_281)) (fun _ h9 => h9) rfl dX7_writePat_14 ?_
    refine lv_iconst (v := 0) hx hb dX7_writePat_17 (by decide) ?_
    refine jle_v (gs := [[(oa 0, .inr (11, [.ref (oa 1), .ref (oa 14), .ref (oa 27), .int c7_zv, .ref (oa 40), .ref (oa 146), .int c7_zk, .ref (oa 152), .int c7_zd, .int c7_ze, .int c7_zc]))], wX0 dA (fun k => oa (1 + k)) c7_zb, wX0 dA (fun k => oa (14 + k)) c7_zt, wX0 dA (fun k => oa (27 + k)) c7_zn, wX3 dA (fun k => oa (40 + k)) c7_zh, wX6 dA (fun k => oa (146 + k)) c7_zx]) (g1 := fun u : Nat × Int32 × Ar => wL dA (oa 152) u.1 u.2.1 0 q0 u.2.2) (va_runV (As := [.int 0]) (rest := []) ⟨hx, hb, hml, hown, hts⟩ (m_J4_setLength_d00df l dC dI dA gz H.size (oa 152) b0 ml0 n0 q0 f0 hnq (by omega) hfit) (cwV 1 hts (gi_v bg wd_1128 wd_1129 wd_1130 wd_10 wd_1131) rfl rfl rfl hd_J4_setLength_d00df ⟨Nat.le_of_ble_eq_true rfl, Nat.le_of_ble_eq_true rfl⟩) ⟨pP_blind, va_recv (ci := 1) (q0 := 0) hK (seg_P hP 6 rfl) rfl rfl, pP_pre1 hP hD hS hA hK hN hZ 6 rfl⟩ rfl rfl hl.1 rfl (lv_room (Nat.le_of_ble_eq_true rfl)) dX7_writePat_18 ⟨by (show _ ≤ 285); (try dsimp only); omega, by (show _ ≤ 574); (try dsimp only); omega⟩) hP hD hS hA (fun u9 H locs hu9 hP hD hS => ?_)
    have hfit : sb_Fit u9.2.2 := hu9
    have hnq : 0 ≤ q0 := Nat.zero_le _
    refine W.widen (k := 1 + (q0 - q0)) (n := 6 + 2 * (q0 - q0)) (by (try dsimp only); omega) (by (try dsimp only); omega) ?_
    have hP : va_P (dC, dI) vwCl ([[(oa 0, .inr (11, [.ref (oa 1), .ref (oa 14), .ref (oa 27), .int c7_zv, .ref (oa 40), .ref (oa 146), .int c7_zk, .ref (oa 152), .int c7_zd, .int c7_ze, .int c7_zc]))], wX0 dA (fun k => oa (1 + k)) c7_zb, wX0 dA (fun k => oa (14 + k)) c7_zt, wX0 dA (fun k => oa (27 + k)) c7_zn, wX3 dA (fun k => oa (40 + k)) c7_zh, wX6 dA (fun k => oa (146 + k)) c7_zx, wLN dA (oa 152) (u9.1, u9.2.1, q0, u9.2.2, nI 0)].flatten : va_W) H := hP
    have hD : va_D A ([[(oa 0, .inr (11, [.ref (oa 1), .ref (oa 14), .ref (oa 27), .int c7_zv, .ref (oa 40), .ref (oa 146), .int c7_zk, .ref (oa 152), .int c7_zd, .int c7_ze, .int c7_zc]))], wX0 dA (fun k => oa (1 + k)) c7_zb, wX0 dA (fun k => oa (14 + k)) c7_zt, wX0 dA (fun k => oa (27 + k)) c7_zn, wX3 dA (fun k => oa (40 + k)) c7_zh, wX6 dA (fun k => oa (146 + k)) c7_zx, wLN dA (oa 152) (u9.1, u9.2.1, q0, u9.2.2, nI 0)].flatten) := hD
    refine lv_aload_n hx hb dX7_writePat_21 rfl (lv_at hl 1 rfl) ?_
    refine va_get (D := (dC, dI)) (ci := 11) (v := .ref (oa 152)) (C := RX7) (T := TX7) (N := 11) hx hb hts in_X7 hown hK hP 0 rfl rfl 7 (by decide) (hts _ (bg _ wd_281)) (fun _ h9 => h9) rfl dX7_writePat_22 ?_
    refine lv_aload_n hx hb dX7_writePat_25 rfl (lv_at hl 0 rfl) ?_
    refine va_get (D := (dC, dI)) (ci := 8) (v := .ref (oa 8)) (C := RX4) (T := TX4) (N := 5) hx hb hts in_X4 hown hK hP 7 rfl rfl 0 (by decide) (hts _ (bg _ wd_120)) (fun _ h9 => h9) rfl dX7_writePat_26 ?_
    refine lv_iload_n hx hb dX7_writePat_29 rfl (lv_at hl 2 rfl) ?_
    obtain ⟨z10, hf⟩ := gd hf
    refine va_iald hx hb hK hP 8 1 rfl rfl z10 dX7_writePat_30 ?_
    obtain ⟨z14, hf⟩ := gd hf
    have z14 := Decidable.not_not.mp z14
    refine W.eq (g2 := F0 m 31 ls (.int (nI (c7_zb.2.2.1.1 p1.toNatClampNeg).toNatClampNeg) :: .ref (oa 152) :: [])) (congrArg (fun z9 => F0 m 31 ls (.int z9 :: .ref (oa 152) :: [])) z14.2) ?_
    obtain ⟨z11, hf⟩ := gd hf
    have hg1 := sb_cap_ge (0 + sb_dg (c7_zb.2.2.1.1 p1.toNatClampNeg).toNatClampNeg) q0
    have hg2 := sb_cap_gem (0 + sb_dg (c7_zb.2.2.1.1 p1.toNatClampNeg).toNatClampNeg) q0
    have hg3 := cap_le (k := (0 + sb_dg (c7_zb.2.2.1.1 p1.toNatClampNeg).toNatClampNeg)) (q := q0) (by omega) hq9
    have hg4 := room_d (k := (0 + sb_dg (c7_zb.2.2.1.1 p1.toNatClampNeg).toNatClampNeg)) (q := q0) (by omega) (by omega)
    refine jle_r (gs := [[(oa 0, .inr (11, [.ref (oa 1), .ref (oa 14), .ref (oa 27), .int c7_zv, .ref (oa 40), .ref (oa 146), .int c7_zk, .ref (oa 152), .int c7_zd, .int c7_ze, .int c7_zc]))], wX0 dA (fun k => oa (1 + k)) c7_zb, wX0 dA (fun k => oa (14 + k)) c7_zt, wX0 dA (fun k => oa (27 + k)) c7_zn, wX3 dA (fun k => oa (40 + k)) c7_zh, wX6 dA (fun k => oa (146 + k)) c7_zx]) (ad := fun _ : Nat × Ar => oa 152) (g1 := fun u : Nat × Ar => wL dA (oa 152) u.1 u9.2.1 (0 + sb_dg (c7_zb.2.2.1.1 p1.toNatClampNeg).toNatClampNeg) (sb_cap (0 + sb_dg (c7_zb.2.2.1.1 p1.toNatClampNeg).toNatClampNeg) q0) u.2) (va_runV (As := [.int (nI (c7_zb.2.2.1.1 p1.toNatClampNeg).toNatClampNeg)]) (rest := []) ⟨hx, hb, hml, hown, hts⟩ (m_J4_append_bf812 l dC dI dA gz H.size (oa 152) u9.1 u9.2.1 0 q0 u9.2.2 (sb_cap (0 + sb_dg (c7_zb.2.2.1.1 p1.toNatClampNeg).toNatClampNeg) q0 - q0) (2 * (sb_cap (0 + sb_dg (c7_zb.2.2.1.1 p1.toNatClampNeg).toNatClampNeg) q0 - q0)) ((c7_zb.2.2.1.1 p1.toNatClampNeg).toNatClampNeg) z14.1 hg4 (by omega) (by omega) hfit) (cwV 1 hts (gi_v bg wd_1357 wd_1239 wd_1240 wd_10 wd_1241) rfl rfl rfl hd_J4_append_bf812 ⟨Nat.le_of_ble_eq_true rfl, Nat.le_of_ble_eq_true rfl⟩) ⟨pP_blind, va_recv (ci := 1) (q0 := 0) hK (seg_P hP 6 rfl) rfl rfl, pP_pre1 hP hD hS hA hK hN hZ 6 rfl⟩ rfl rfl hl.1 rfl (lv_room (Nat.le_of_ble_eq_true rfl)) dX7_writePat_31 ⟨by (show _ ≤ 285); (try dsimp only); omega, by (show _ ≤ 574); (try dsimp only); omega⟩) hP hD hS hA (fun u12 H locs hfit hP hD hS => ?_)
    refine W.widen (k := 1 + ((sb_cap (0 + sb_dg (c7_zb.2.2.1.1 p1.toNatClampNeg).toNatClampNeg) q0) - q0)) (n := 6 + 2 * ((sb_cap (0 + sb_dg (c7_zb.2.2.1.1 p1.toNatClampNeg).toNatClampNeg) q0) - q0)) (by (try dsimp only); omega) (by (try dsimp only); omega) ?_
    clear hg4
    generalize sb_cap (0 + sb_dg (c7_zb.2.2.1.1 p1.toNatClampNeg).toNatClampNeg) q0 = q913 at hP hD hg1 hg2 hg3 ⊢
    have hqq : q0 ≤ q913 := by omega
    have hnq : (0 + sb_dg (c7_zb.2.2.1.1 p1.toNatClampNeg).toNatClampNeg) ≤ q913 := hg1
    have hq9 : q913 ≤ 284 := hg3
    have hfit : sb_Fit u12.2 := hfit
    clear hg1 hg2 hg3
    have hP : va_P (dC, dI) vwCl ([[(oa 0, .inr (11, [.ref (oa 1), .ref (oa 14), .ref (oa 27), .int c7_zv, .ref (oa 40), .ref (oa 146), .int c7_zk, .ref (oa 152), .int c7_zd, .int c7_ze, .int c7_zc]))], wX0 dA (fun k => oa (1 + k)) c7_zb, wX0 dA (fun k => oa (14 + k)) c7_zt, wX0 dA (fun k => oa (27 + k)) c7_zn, wX3 dA (fun k => oa (40 + k)) c7_zh, wX6 dA (fun k => oa (146 + k)) c7_zx, wLN dA (oa 152) (u12.1, u9.2.1, q913, u12.2, nI (0 + sb_dg (c7_zb.2.2.1.1 p1.toNatClampNeg).toNatClampNeg))].flatten : va_W) H := hP
    have hD : va_D A ([[(oa 0, .inr (11, [.ref (oa 1), .ref (oa 14), .ref (oa 27), .int c7_zv, .ref (oa 40), .ref (oa 146), .int c7_zk, .ref (oa 152), .int c7_zd, .int c7_ze, .int c7_zc]))], wX0 dA (fun k => oa (1 + k)) c7_zb, wX0 dA (fun k => oa (14 + k)) c7_zt, wX0 dA (fun k => oa (27 + k)) c7_zn, wX3 dA (fun k => oa (40 + k)) c7_zh, wX6 dA (fun k => oa (146 + k)) c7_zx, wLN dA (oa 152) (u12.1, u9.2.1, q913, u12.2, nI (0 + sb_dg (c7_zb.2.2.1.1 p1.toNatClampNeg).toNatClampNeg))].flatten) := hD
    refine lv_pop hx hb dX7_writePat_34 rfl ?_
    refine lv_aload_n hx hb dX7_writePat_35 rfl (lv_at hl 1 rfl) ?_
    refine va_get (D := (dC, dI)) (ci := 11) (v := .ref (oa 152)) (C := RX7) (T := TX7) (N := 11) hx hb hts in_X7 hown hK hP 0 rfl rfl 7 (by decide) (hts _ (bg _ wd_281)) (fun _ h9 => h9) rfl dX7_writePat_36 ?_
    refine lv_bipush (v := 64) hx hb dX7_writePat_39 (by decide) ?_
    obtain ⟨z15, hf⟩ := gd hf
    have hg1 := sb_cap_ge ((0 + sb_dg (c7_zb.2.2.1.1 p1.toNatClampNeg).toNatClampNeg) + 1) q913
    have hg2 := sb_cap_gem ((0 + sb_dg (c7_zb.2.2.1.1 p1.toNatClampNeg).toNatClampNeg) + 1) q913
    have hg3 := cap_le (k := ((0 + sb_dg (c7_zb.2.2.1.1 p1.toNatClampNeg).toNatClampNeg) + 1)) (q := q913) (by omega) hq9
    have hg4 := room_d (k := ((0 + sb_dg (c7_zb.2.2.1.1 p1.toNatClampNeg).toNatClampNeg) + 1)) (q := q913) (by omega) (by omega)
    refine jle_r (gs := [[(oa 0, .inr (11, [.ref (oa 1), .ref (oa 14), .ref (oa 27), .int c7_zv, .ref (oa 40), .ref (oa 146), .int c7_zk, .ref (oa 152), .int c7_zd, .int c7_ze, .int c7_zc]))], wX0 dA (fun k => oa (1 + k)) c7_zb, wX0 dA (fun k => oa (14 + k)) c7_zt, wX0 dA (fun k => oa (27 + k)) c7_zn, wX3 dA (fun k => oa (40 + k)) c7_zh, wX6 dA (fun k => oa (146 + k)) c7_zx]) (ad := fun _ : Nat × Ar => oa 152) (g1 := fun u : Nat × Ar => wL dA (oa 152) u.1 u9.2.1 ((0 + sb_dg (c7_zb.2.2.1.1 p1.toNatClampNeg).toNatClampNeg) + 1) (sb_cap ((0 + sb_dg (c7_zb.2.2.1.1 p1.toNatClampNeg).toNatClampNeg) + 1) q913) u.2) (va_runV (As := [.int 64]) (rest := []) ⟨hx, hb, hml, hown, hts⟩ (m_J4_append_cf468 l dC dI dA gz H.size (oa 152) u12.1 u9.2.1 (0 + sb_dg (c7_zb.2.2.1.1 p1.toNatClampNeg).toNatClampNeg) q913 u12.2 (sb_cap ((0 + sb_dg (c7_zb.2.2.1.1 p1.toNatClampNeg).toNatClampNeg) + 1) q913 - q913) (2 * (sb_cap ((0 + sb_dg (c7_zb.2.2.1.1 p1.toNatClampNeg).toNatClampNeg) + 1) q913 - q913)) 64 (by decide) hg4 (by omega) (by omega) hfit) (cwV 1 hts (gi_v bg wd_1358 wd_1359 wd_1360 wd_10 wd_1361) rfl rfl rfl hd_J4_append_cf468 ⟨Nat.le_of_ble_eq_true rfl, Nat.le_of_ble_eq_true rfl⟩) ⟨pP_blind, va_recv (ci := 1) (q0 := 0) hK (seg_P hP 6 rfl) rfl rfl, pP_pre1 hP hD hS hA hK hN hZ 6 rfl⟩ rfl rfl hl.1 rfl (lv_room (Nat.le_of_ble_eq_true rfl)) dX7_writePat_41 ⟨by (show _ ≤ 285); (try dsimp only); omega, by (show _ ≤ 574); (try dsimp only); omega⟩) hP hD hS hA (fun u16 H locs hfit hP hD hS => ?_)
    refine W.widen (k := 1 + ((sb_cap ((0 + sb_dg (c7_zb.2.2.1.1 p1.toNatClampNeg).toNatClampNeg) + 1) q913) - q0)) (n := 6 + 2 * ((sb_cap ((0 + sb_dg (c7_zb.2.2.1.1 p1.toNatClampNeg).toNatClampNeg) + 1) q913) - q0)) (by (try dsimp only); omega) (by (try dsimp only); omega) ?_
    clear hg4
    generalize sb_cap ((0 + sb_dg (c7_zb.2.2.1.1 p1.toNatClampNeg).toNatClampNeg) + 1) q913 = q917 at hP hD hg1 hg2 hg3 ⊢
    have hqq : q0 ≤ q917 := by omega
    have hnq : ((0 + sb_dg (c7_zb.2.2.1.1 p1.toNatClampNeg).toNatClampNeg) + 1) ≤ q917 := hg1
    have hq9 : q917 ≤ 284 := hg3
    have hfit : sb_Fit u16.2 := hfit
    clear hg1 hg2 hg3
    have hP : va_P (dC, dI) vwCl ([[(oa 0, .inr (11, [.ref (oa 1), .ref (oa 14), .ref (oa 27), .int c7_zv, .ref (oa 40), .ref (oa 146), .int c7_zk, .ref (oa 152), .int c7_zd, .int c7_ze, .int c7_zc]))], wX0 dA (fun k => oa (1 + k)) c7_zb, wX0 dA (fun k => oa (14 + k)) c7_zt, wX0 dA (fun k => oa (27 + k)) c7_zn, wX3 dA (fun k => oa (40 + k)) c7_zh, wX6 dA (fun k => oa (146 + k)) c7_zx, wLN dA (oa 152) (u16.1, u9.2.1, q917, u16.2, nI ((0 + sb_dg (c7_zb.2.2.1.1 p1.toNatClampNeg).toNatClampNeg) + 1))].flatten : va_W) H := hP
    have hD : va_D A ([[(oa 0, .inr (11, [.ref (oa 1), .ref (oa 14), .ref (oa 27), .int c7_zv, .ref (oa 40), .ref (oa 146), .int c7_zk, .ref (oa 152), .int c7_zd, .int c7_ze, .int c7_zc]))], wX0 dA (fun k => oa (1 + k)) c7_zb, wX0 dA (fun k => oa (14 + k)) c7_zt, wX0 dA (fun k => oa (27 + k)) c7_zn, wX3 dA (fun k => oa (40 + k)) c7_zh, wX6 dA (fun k => oa (146 + k)) c7_zx, wLN dA (oa 152) (u16.1, u9.2.1, q917, u16.2, nI ((0 + sb_dg (c7_zb.2.2.1.1 p1.toNatClampNeg).toNatClampNeg) + 1))].flatten) := hD
    refine lv_pop hx hb dX7_writePat_44 rfl ?_
    refine lv_aload_n hx hb dX7_writePat_45 rfl (lv_at hl 1 rfl) ?_
    refine va_get (D := (dC, dI)) (ci := 11) (v := .ref (oa 152)) (C := RX7) (T := TX7) (N := 11) hx hb hts in_X7 hown hK hP 0 rfl rfl 7 (by decide) (hts _ (bg _ wd_281)) (fun _ h9 => h9) rfl dX7_writePat_46 ?_
    refine lv_aload_n hx hb dX7_writePat_49 rfl (lv_at hl 0 rfl) ?_
    refine va_get (D := (dC, dI)) (ci := 8) (v := .ref (oa 9)) (C := RX4) (T := TX4) (N := 5) hx hb hts in_X4 hown hK hP 7 rfl rfl 1 (by decide) (hts _ (bg _ wd_122)) (fun _ h9 => h9) rfl dX7_writePat_50 ?_
    refine lv_iload_n hx hb dX7_writePat_53 rfl (lv_at hl 2 rfl) ?_
    obtain ⟨z18, hf⟩ := gd hf
    refine va_iald hx hb hK hP 9 1 rfl rfl z18 dX7_writePat_54 ?_
    obtain ⟨z22, hf⟩ := gd hf
    have z22 := Decidable.not_not.mp z22
    refine W.eq (g2 := F0 m 55 ls (.int (nI (c7_zb.2.2.1.2.1 p1.toNatClampNeg).toNatClampNeg) :: .ref (oa 152) :: [])) (congrArg (fun z9 => F0 m 55 ls (.int z9 :: .ref (oa 152) :: [])) z22.2) ?_
    obtain ⟨z19, hf⟩ := gd hf
    have hg1 := sb_cap_ge (((0 + sb_dg (c7_zb.2.2.1.1 p1.toNatClampNeg).toNatClampNeg) + 1) + sb_dg (c7_zb.2.2.1.2.1 p1.toNatClampNeg).toNatClampNeg) q917
    have hg2 := sb_cap_gem (((0 + sb_dg (c7_zb.2.2.1.1 p1.toNatClampNeg).toNatClampNeg) + 1) + sb_dg (c7_zb.2.2.1.2.1 p1.toNatClampNeg).toNatClampNeg) q917
    have hg3 := cap_le (k := (((0 + sb_dg (c7_zb.2.2.1.1 p1.toNatClampNeg).toNatClampNeg) + 1) + sb_dg (c7_zb.2.2.1.2.1 p1.toNatClampNeg).toNatClampNeg)) (q := q917) (by omega) hq9
    have hg4 := room_d (k := (((0 + sb_dg (c7_zb.2.2.1.1 p1.toNatClampNeg).toNatClampNeg) + 1) + sb_dg (c7_zb.2.2.1.2.1 p1.toNatClampNeg).toNatClampNeg)) (q := q917) (by omega) (by omega)
    refine jle_r (gs := [[(oa 0, .inr (11, [.ref (oa 1), .ref (oa 14), .ref (oa 27), .int c7_zv, .ref (oa 40), .ref (oa 146), .int c7_zk, .ref (oa 152), .int c7_zd, .int c7_ze, .int c7_zc]))], wX0 dA (fun k => oa (1 + k)) c7_zb, wX0 dA (fun k => oa (14 + k)) c7_zt, wX0 dA (fun k => oa (27 + k)) c7_zn, wX3 dA (fun k => oa (40 + k)) c7_zh, wX6 dA (fun k => oa (146 + k)) c7_zx]) (ad := fun _ : Nat × Ar => oa 152) (g1 := fun u : Nat × Ar => wL dA (oa 152) u.1 u9.2.1 (((0 + sb_dg (c7_zb.2.2.1.1 p1.toNatClampNeg).toNatClampNeg) + 1) + sb_dg (c7_zb.2.2.1.2.1 p1.toNatClampNeg).toNatClampNeg) (sb_cap (((0 + sb_dg (c7_zb.2.2.1.1 p1.toNatClampNeg).toNatClampNeg) + 1) + sb_dg (c7_zb.2.2.1.2.1 p1.toNatClampNeg).toNatClampNeg) q917) u.2) (va_runV (As := [.int (nI (c7_zb.2.2.1.2.1 p1.toNatClampNeg).toNatClampNeg)]) (rest := []) ⟨hx, hb, hml, hown, hts⟩ (m_J4_append_bf812 l dC dI dA gz H.size (oa 152) u16.1 u9.2.1 ((0 + sb_dg (c7_zb.2.2.1.1 p1.toNatClampNeg).toNatClampNeg) + 1) q917 u16.2 (sb_cap (((0 + sb_dg (c7_zb.2.2.1.1 p1.toNatClampNeg).toNatClampNeg) + 1) + sb_dg (c7_zb.2.2.1.2.1 p1.toNatClampNeg).toNatClampNeg) q917 - q917) (2 * (sb_cap (((0 + sb_dg (c7_zb.2.2.1.1 p1.toNatClampNeg).toNatClampNeg) + 1) + sb_dg (c7_zb.2.2.1.2.1 p1.toNatClampNeg).toNatClampNeg) q917 - q917)) ((c7_zb.2.2.1.2.1 p1.toNatClampNeg).toNatClampNeg) z22.1 hg4 (by omega) (by omega) hfit) (cwV 1 hts (gi_v bg wd_1357 wd_1239 wd_1240 wd_10 wd_1241) rfl rfl rfl hd_J4_append_bf812 ⟨Nat.le_of_ble_eq_true rfl, Nat.le_of_ble_eq_true rfl⟩) ⟨pP_blind, va_recv (ci := 1) (q0 := 0) hK (seg_P hP 6 rfl) rfl rfl, pP_pre1 hP hD hS hA hK hN hZ 6 rfl⟩ rfl rfl hl.1 rfl (lv_room (Nat.le_of_ble_eq_true rfl)) dX7_writePat_55 ⟨by (show _ ≤ 285); (try dsimp only); omega, by (show _ ≤ 574); (try dsimp only); omega⟩) hP hD hS hA (fun u20 H locs hfit hP hD hS => ?_)
    refine W.widen (k := 1 + ((sb_cap (((0 + sb_dg (c7_zb.2.2.1.1 p1.toNatClampNeg).toNatClampNeg) + 1) + sb_dg (c7_zb.2.2.1.2.1 p1.toNatClampNeg).toNatClampNeg) q917) - q0)) (n := 6 + 2 * ((sb_cap (((0 + sb_dg (c7_zb.2.2.1.1 p1.toNatClampNeg).toNatClampNeg) + 1) + sb_dg (c7_zb.2.2.1.2.1 p1.toNatClampNeg).toNatClampNeg) q917) - q0)) (by (try dsimp only); omega) (by (try dsimp only); omega) ?_
    clear hg4
    generalize sb_cap (((0 + sb_dg (c7_zb.2.2.1.1 p1.toNatClampNeg).toNatClampNeg) + 1) + sb_dg (c7_zb.2.2.1.2.1 p1.toNatClampNeg).toNatClampNeg) q917 = q921 at hP hD hg1 hg2 hg3 ⊢
    have hqq : q0 ≤ q921 := by omega
    have hnq : (((0 + sb_dg (c7_zb.2.2.1.1 p1.toNatClampNeg).toNatClampNeg) + 1) + sb_dg (c7_zb.2.2.1.2.1 p1.toNatClampNeg).toNatClampNeg) ≤ q921 := hg1
    have hq9 : q921 ≤ 284 := hg3
    have hfit : sb_Fit u20.2 := hfit
    clear hg1 hg2 hg3
    have hP : va_P (dC, dI) vwCl ([[(oa 0, .inr (11, [.ref (oa 1), .ref (oa 14), .ref (oa 27), .int c7_zv, .ref (oa 40), .ref (oa 146), .int c7_zk, .ref (oa 152), .int c7_zd, .int c7_ze, .int c7_zc]))], wX0 dA (fun k => oa (1 + k)) c7_zb, wX0 dA (fun k => oa (14 + k)) c7_zt, wX0 dA (fun k => oa (27 + k)) c7_zn, wX3 dA (fun k => oa (40 + k)) c7_zh, wX6 dA (fun k => oa (146 + k)) c7_zx, wLN dA (oa 152) (u20.1, u9.2.1, q921, u20.2, nI (((0 + sb_dg (c7_zb.2.2.1.1 p1.toNatClampNeg).toNatClampNeg) + 1) + sb_dg (c7_zb.2.2.1.2.1 p1.toNatClampNeg).toNatClampNeg))].flatten : va_W) H := hP
    have hD : va_D A ([[(oa 0, .inr (11, [.ref (oa 1), .ref (oa 14), .ref (oa 27), .int c7_zv, .ref (oa 40), .ref (oa 146), .int c7_zk, .ref (oa 152), .int c7_zd, .int c7_ze, .int c7_zc]))], wX0 dA (fun k => oa (1 + k)) c7_zb, wX0 dA (fun k => oa (14 + k)) c7_zt, wX0 dA (fun k => oa (27 + k)) c7_zn, wX3 dA (fun k => oa (40 + k)) c7_zh, wX6 dA (fun k => oa (146 + k)) c7_zx, wLN dA (oa 152) (u20.1, u9.2.1, q921, u20.2, nI (((0 + sb_dg (c7_zb.2.2.1.1 p1.toNatClampNeg).toNatClampNeg) + 1) + sb_dg (c7_zb.2.2.1.2.1 p1.toNatClampNeg).toNatClampNeg))].flatten) := hD
    refine lv_pop hx hb dX7_writePat_58 rfl ?_
    refine lv_aload_n hx hb dX7_writePat_59 rfl (lv_at hl 1 rfl) ?_
    refine va_get (D := (dC, dI)) (ci := 11) (v := .ref (oa 152)) (C := RX7) (T := TX7) (N := 11) hx hb hts in_X7 hown hK hP 0 rfl rfl 7 (by decide) (hts _ (bg _ wd_281)) (fun _ h9 => h9) rfl dX7_writePat_60 ?_
    refine lv_bipush (v := 35) hx hb dX7_writePat_63 (by decide) ?_
    obtain ⟨z23, hf⟩ := gd hf
    have hg1 := sb_cap_ge ((((0 + sb_dg (c7_zb.2.2.1.1 p1.toNatClampNeg).toNatClampNeg) + 1) + sb_dg (c7_zb.2.2.1.2.1 p1.toNatClampNeg).toNatClampNeg) + 1) q921
    have hg2 := sb_cap_gem ((((0 + sb_dg (c7_zb.2.2.1.1 p1.toNatClampNeg).toNatClampNeg) + 1) + sb_dg (c7_zb.2.2.1.2.1 p1.toNatClampNeg).toNatClampNeg) + 1) q921
    have hg3 := cap_le (k := ((((0 + sb_dg (c7_zb.2.2.1.1 p1.toNatClampNeg).toNatClampNeg) + 1) + sb_dg (c7_zb.2.2.1.2.1 p1.toNatClampNeg).toNatClampNeg) + 1)) (q := q921) (by omega) hq9
    have hg4 := room_d (k := ((((0 + sb_dg (c7_zb.2.2.1.1 p1.toNatClampNeg).toNatClampNeg) + 1) + sb_dg (c7_zb.2.2.1.2.1 p1.toNatClampNeg).toNatClampNeg) + 1)) (q := q921) (by omega) (by omega)
    refine jle_r (gs := [[(oa 0, .inr (11, [.ref (oa 1), .ref (oa 14), .ref (oa 27), .int c7_zv, .ref (oa 40), .ref (oa 146), .int c7_zk, .ref (oa 152), .int c7_zd, .int c7_ze, .int c7_zc]))], wX0 dA (fun k => oa (1 + k)) c7_zb, wX0 dA (fun k => oa (14 + k)) c7_zt, wX0 dA (fun k => oa (27 + k)) c7_zn, wX3 dA (fun k => oa (40 + k)) c7_zh, wX6 dA (fun k => oa (146 + k)) c7_zx]) (ad := fun _ : Nat × Ar => oa 152) (g1 := fun u : Nat × Ar => wL dA (oa 152) u.1 u9.2.1 ((((0 + sb_dg (c7_zb.2.2.1.1 p1.toNatClampNeg).toNatClampNeg) + 1) + sb_dg (c7_zb.2.2.1.2.1 p1.toNatClampNeg).toNatClampNeg) + 1) (sb_cap ((((0 + sb_dg (c7_zb.2.2.1.1 p1.toNatClampNeg).toNatClampNeg) + 1) + sb_dg (c7_zb.2.2.1.2.1 p1.toNatClampNeg).toNatClampNeg) + 1) q921) u.2) (va_runV (As := [.int 35]) (rest := []) ⟨hx, hb, hml, hown, hts⟩ (m_J4_append_cf468 l dC dI dA gz H.size (oa 152) u20.1 u9.2.1 (((0 + sb_dg (c7_zb.2.2.1.1 p1.toNatClampNeg).toNatClampNeg) + 1) + sb_dg (c7_zb.2.2.1.2.1 p1.toNatClampNeg).toNatClampNeg) q921 u20.2 (sb_cap ((((0 + sb_dg (c7_zb.2.2.1.1 p1.toNatClampNeg).toNatClampNeg) + 1) + sb_dg (c7_zb.2.2.1.2.1 p1.toNatClampNeg).toNatClampNeg) + 1) q921 - q921) (2 * (sb_cap ((((0 + sb_dg (c7_zb.2.2.1.1 p1.toNatClampNeg).toNatClampNeg) + 1) + sb_dg (c7_zb.2.2.1.2.1 p1.toNatClampNeg).toNatClampNeg) + 1) q921 - q921)) 35 (by decide) hg4 (by omega) (by omega) hfit) (cwV 1 hts (gi_v bg wd_1358 wd_1359 wd_1360 wd_10 wd_1361) rfl rfl rfl hd_J4_append_cf468 ⟨Nat.le_of_ble_eq_true rfl, Nat.le_of_ble_eq_true rfl⟩) ⟨pP_blind, va_recv (ci := 1) (q0 := 0) hK (seg_P hP 6 rfl) rfl rfl, pP_pre1 hP hD hS hA hK hN hZ 6 rfl⟩ rfl rfl hl.1 rfl (lv_room (Nat.le_of_ble_eq_true rfl)) dX7_writePat_65 ⟨by (show _ ≤ 285); (try dsimp only); omega, by (show _ ≤ 574); (try dsimp only); omega⟩) hP hD hS hA (fun u24 H locs hfit hP hD hS => ?_)
    refine W.widen (k := 1 + ((sb_cap ((((0 + sb_dg (c7_zb.2.2.1.1 p1.toNatClampNeg).toNatClampNeg) + 1) + sb_dg (c7_zb.2.2.1.2.1 p1.toNatClampNeg).toNatClampNeg) + 1) q921) - q0)) (n := 6 + 2 * ((sb_cap ((((0 + sb_dg (c7_zb.2.2.1.1 p1.toNatClampNeg).toNatClampNeg) + 1) + sb_dg (c7_zb.2.2.1.2.1 p1.toNatClampNeg).toNatClampNeg) + 1) q921) - q0)) (by (try dsimp only); omega) (by (try dsimp only); omega) ?_
    clear hg4
    generalize sb_cap ((((0 + sb_dg (c7_zb.2.2.1.1 p1.toNatClampNeg).toNatClampNeg) + 1) + sb_dg (c7_zb.2.2.1.2.1 p1.toNatClampNeg).toNatClampNeg) + 1) q921 = q925 at hP hD hg1 hg2 hg3 ⊢
    have hqq : q0 ≤ q925 := by omega
    have hnq : ((((0 + sb_dg (c7_zb.2.2.1.1 p1.toNatClampNeg).toNatClampNeg) + 1) + sb_dg (c7_zb.2.2.1.2.1 p1.toNatClampNeg).toNatClampNeg) + 1) ≤ q925 := hg1
    have hq9 : q925 ≤ 284 := hg3
    have hfit : sb_Fit u24.2 := hfit
    clear hg1 hg2 hg3
    have hP : va_P (dC, dI) vwCl ([[(oa 0, .inr (11, [.ref (oa 1), .ref (oa 14), .ref (oa 27), .int c7_zv, .ref (oa 40), .ref (oa 146), .int c7_zk, .ref (oa 152), .int c7_zd, .int c7_ze, .int c7_zc]))], wX0 dA (fun k => oa (1 + k)) c7_zb, wX0 dA (fun k => oa (14 + k)) c7_zt, wX0 dA (fun k => oa (27 + k)) c7_zn, wX3 dA (fun k => oa (40 + k)) c7_zh, wX6 dA (fun k => oa (146 + k)) c7_zx, wLN dA (oa 152) (u24.1, u9.2.1, q925, u24.2, nI ((((0 + sb_dg (c7_zb.2.2.1.1 p1.toNatClampNeg).toNatClampNeg) + 1) + sb_dg (c7_zb.2.2.1.2.1 p1.toNatClampNeg).toNatClampNeg) + 1))].flatten : va_W) H := hP
    have hD : va_D A ([[(oa 0, .inr (11, [.ref (oa 1), .ref (oa 14), .ref (oa 27), .int c7_zv, .ref (oa 40), .ref (oa 146), .int c7_zk, .ref (oa 152), .int c7_zd, .int c7_ze, .int c7_zc]))], wX0 dA (fun k => oa (1 + k)) c7_zb, wX0 dA (fun k => oa (14 + k)) c7_zt, wX0 dA (fun k => oa (27 + k)) c7_zn, wX3 dA (fun k => oa (40 + k)) c7_zh, wX6 dA (fun k => oa (146 + k)) c7_zx, wLN dA (oa 152) (u24.1, u9.2.1, q925, u24.2, nI ((((0 + sb_dg (c7_zb.2.2.1.1 p1.toNatClampNeg).toNatClampNeg) + 1) + sb_dg (c7_zb.2.2.1.2.1 p1.toNatClampNeg).toNatClampNeg) + 1))].flatten) := hD
    refine lv_pop hx hb dX7_writePat_68 rfl ?_
    refine lv_aload_n hx hb dX7_writePat_69 rfl (lv_at hl 1 rfl) ?_
    refine va_get (D := (dC, dI)) (ci := 11) (v := .ref (oa 152)) (C := RX7) (T := TX7) (N := 11) hx hb hts in_X7 hown hK hP 0 rfl rfl 7 (by decide) (hts _ (bg _ wd_281)) (fun _ h9 => h9) rfl dX7_writePat_70 ?_
    refine lv_aload_n hx hb dX7_writePat_73 rfl (lv_at hl 0 rfl) ?_
    refine va_get (D := (dC, dI)) (ci := 8) (v := .ref (oa 10)) (C := RX4) (T := TX4) (N := 5) hx hb hts in_X4 hown hK hP 7 rfl rfl 2 (by decide) (hts _ (bg _ wd_124)) (fun _ h9 => h9) rfl dX7_writePat_74 ?_
    refine lv_iload_n hx hb dX7_writePat_77 rfl (lv_at hl 2 rfl) ?_
    obtain ⟨z26, hf⟩ := gd hf
    refine va_iald hx hb hK hP 10 1 rfl rfl z26 dX7_writePat_78 ?_
    obtain ⟨z30, hf⟩ := gd hf
    have z30 := Decidable.not_not.mp z30
    refine W.eq (g2 := F0 m 79 ls (.int (nI (c7_zb.2.2.1.2.2.1 p1.toNatClampNeg).toNatClampNeg) :: .ref (oa 152) :: [])) (congrArg (fun z9 => F0 m 79 ls (.int z9 :: .ref (oa 152) :: [])) z30.2) ?_
    obtain ⟨z27, hf⟩ := gd hf
    have hg1 := sb_cap_ge (((((0 + sb_dg (c7_zb.2.2.1.1 p1.toNatClampNeg).toNatClampNeg) + 1) + sb_dg (c7_zb.2.2.1.2.1 p1.toNatClampNeg).toNatClampNeg) + 1) + sb_dg (c7_zb.2.2.1.2.2.1 p1.toNatClampNeg).toNatClampNeg) q925
    have hg2 := sb_cap_gem (((((0 + sb_dg (c7_zb.2.2.1.1 p1.toNatClampNeg).toNatClampNeg) + 1) + sb_dg (c7_zb.2.2.1.2.1 p1.toNatClampNeg).toNatClampNeg) + 1) + sb_dg (c7_zb.2.2.1.2.2.1 p1.toNatClampNeg).toNatClampNeg) q925
    have hg3 := cap_le (k := (((((0 + sb_dg (c7_zb.2.2.1.1 p1.toNatClampNeg).toNatClampNeg) + 1) + sb_dg (c7_zb.2.2.1.2.1 p1.toNatClampNeg).toNatClampNeg) + 1) + sb_dg (c7_zb.2.2.1.2.2.1 p1.toNatClampNeg).toNatClampNeg)) (q := q925) (by omega) hq9
    have hg4 := room_d (k := (((((0 + sb_dg (c7_zb.2.2.1.1 p1.toNatClampNeg).toNatClampNeg) + 1) + sb_dg (c7_zb.2.2.1.2.1 p1.toNatClampNeg).toNatClampNeg) + 1) + sb_dg (c7_zb.2.2.1.2.2.1 p1.toNatClampNeg).toNatClampNeg)) (q := q925) (by omega) (by omega)
    refine jle_r (gs := [[(oa 0, .inr (11, [.ref (oa 1), .ref (oa 14), .ref (oa 27), .int c7_zv, .ref (oa 40), .ref (oa 146), .int c7_zk, .ref (oa 152), .int c7_zd, .int c7_ze, .int c7_zc]))], wX0 dA (fun k => oa (1 + k)) c7_zb, wX0 dA (fun k => oa (14 + k)) c7_zt, wX0 dA (fun k => oa (27 + k)) c7_zn, wX3 dA (fun k => oa (40 + k)) c7_zh, wX6 dA (fun k => oa (146 + k)) c7_zx]) (ad := fun _ : Nat × Ar => oa 152) (g1 := fun u : Nat × Ar => wL dA (oa 152) u.1 u9.2.1 (((((0 + sb_dg (c7_zb.2.2.1.1 p1.toNatClampNeg).toNatClampNeg) + 1) + sb_dg (c7_zb.2.2.1.2.1 p1.toNatClampNeg).toNatClampNeg) + 1) + sb_dg (c7_zb.2.2.1.2.2.1 p1.toNatClampNeg).toNatClampNeg) (sb_cap (((((0 + sb_dg (c7_zb.2.2.1.1 p1.toNatClampNeg).toNatClampNeg) + 1) + sb_dg (c7_zb.2.2.1.2.1 p1.toNatClampNeg).toNatClampNeg) + 1) + sb_dg (c7_zb.2.2.1.2.2.1 p1.toNatClampNeg).toNatClampNeg) q925) u.2) (va_runV (As := [.int (nI (c7_zb.2.2.1.2.2.1 p1.toNatClampNeg).toNatClampNeg)]) (rest := []) ⟨hx, hb, hml, hown, hts⟩ (m_J4_append_bf812 l dC dI dA gz H.size (oa 152) u24.1 u9.2.1 ((((0 + sb_dg (c7_zb.2.2.1.1 p1.toNatClampNeg).toNatClampNeg) + 1) + sb_dg (c7_zb.2.2.1.2.1 p1.toNatClampNeg).toNatClampNeg) + 1) q925 u24.2 (sb_cap (((((0 + sb_dg (c7_zb.2.2.1.1 p1.toNatClampNeg).toNatClampNeg) + 1) + sb_dg (c7_zb.2.2.1.2.1 p1.toNatClampNeg).toNatClampNeg) + 1) + sb_dg (c7_zb.2.2.1.2.2.1 p1.toNatClampNeg).toNatClampNeg) q925 - q925) (2 * (sb_cap (((((0 + sb_dg (c7_zb.2.2.1.1 p1.toNatClampNeg).toNatClampNeg) + 1) + sb_dg (c7_zb.2.2.1.2.1 p1.toNatClampNeg).toNatClampNeg) + 1) + sb_dg (c7_zb.2.2.1.2.2.1 p1.toNatClampNeg).toNatClampNeg) q925 - q925)) ((c7_zb.2.2.1.2.2.1 p1.toNatClampNeg).toNatClampNeg) z30.1 hg4 (by omega) (by omega) hfit) (cwV 1 hts (gi_v bg wd_1357 wd_1239 wd_1240 wd_10 wd_1241) rfl rfl rfl hd_J4_append_bf812 ⟨Nat.le_of_ble_eq_true rfl, Nat.le_of_ble_eq_true rfl⟩) ⟨pP_blind, va_recv (ci := 1) (q0 := 0) hK (seg_P hP 6 rfl) rfl rfl, pP_pre1 hP hD hS hA hK hN hZ 6 rfl⟩ rfl rfl hl.1 rfl (lv_room (Nat.le_of_ble_eq_true rfl)) dX7_writePat_79 ⟨by (show _ ≤ 285); (try dsimp only); omega, by (show _ ≤ 574); (try dsimp only); omega⟩) hP hD hS hA (fun u28 H locs hfit hP hD hS => ?_)
    refine W.widen (k := 1 + ((sb_cap (((((0 + sb_dg (c7_zb.2.2.1.1 p1.toNatClampNeg).toNatClampNeg) + 1) + sb_dg (c7_zb.2.2.1.2.1 p1.toNatClampNeg).toNatClampNeg) + 1) + sb_dg (c7_zb.2.2.1.2.2.1 p1.toNatClampNeg).toNatClampNeg) q925) - q0)) (n := 6 + 2 * ((sb_cap (((((0 + sb_dg (c7_zb.2.2.1.1 p1.toNatClampNeg).toNatClampNeg) + 1) + sb_dg (c7_zb.2.2.1.2.1 p1.toNatClampNeg).toNatClampNeg) + 1) + sb_dg (c7_zb.2.2.1.2.2.1 p1.toNatClampNeg).toNatClampNeg) q925) - q0)) (by (try dsimp only); omega) (by (try dsimp only); omega) ?_
    clear hg4
    generalize sb_cap (((((0 + sb_dg (c7_zb.2.2.1.1 p1.toNatClampNeg).toNatClampNeg) + 1) + sb_dg (c7_zb.2.2.1.2.1 p1.toNatClampNeg).toNatClampNeg) + 1) + sb_dg (c7_zb.2.2.1.2.2.1 p1.toNatClampNeg).toNatClampNeg) q925 = q929 at hP hD hg1 hg2 hg3 ⊢
    have hqq : q0 ≤ q929 := by omega
    have hnq : (((((0 + sb_dg (c7_zb.2.2.1.1 p1.toNatClampNeg).toNatClampNeg) + 1) + sb_dg (c7_zb.2.2.1.2.1 p1.toNatClampNeg).toNatClampNeg) + 1) + sb_dg (c7_zb.2.2.1.2.2.1 p1.toNatClampNeg).toNatClampNeg) ≤ q929 := hg1
    have hq9 : q929 ≤ 284 := hg3
    have hfit : sb_Fit u28.2 := hfit
    clear hg1 hg2 hg3
    have hP : va_P (dC, dI) vwCl ([[(oa 0, .inr (11, [.ref (oa 1), .ref (oa 14), .ref (oa 27), .int c7_zv, .ref (oa 40), .ref (oa 146), .int c7_zk, .ref (oa 152), .int c7_zd, .int c7_ze, .int c7_zc]))], wX0 dA (fun k => oa (1 + k)) c7_zb, wX0 dA (fun k => oa (14 + k)) c7_zt, wX0 dA (fun k => oa (27 + k)) c7_zn, wX3 dA (fun k => oa (40 + k)) c7_zh, wX6 dA (fun k => oa (146 + k)) c7_zx, wLN dA (oa 152) (u28.1, u9.2.1, q929, u28.2, nI (((((0 + sb_dg (c7_zb.2.2.1.1 p1.toNatClampNeg).toNatClampNeg) + 1) + sb_dg (c7_zb.2.2.1.2.1 p1.toNatClampNeg).toNatClampNeg) + 1) + sb_dg (c7_zb.2.2.1.2.2.1 p1.toNatClampNeg).toNatClampNeg))].flatten : va_W) H := hP
    have hD : va_D A ([[(oa 0, .inr (11, [.ref (oa 1), .ref (oa 14), .ref (oa 27), .int c7_zv, .ref (oa 40), .ref (oa 146), .int c7_zk, .ref (oa 152), .int c7_zd, .int c7_ze, .int c7_zc]))], wX0 dA (fun k => oa (1 + k)) c7_zb, wX0 dA (fun k => oa (14 + k)) c7_zt, wX0 dA (fun k => oa (27 + k)) c7_zn, wX3 dA (fun k => oa (40 + k)) c7_zh, wX6 dA (fun k => oa (146 + k)) c7_zx, wLN dA (oa 152) (u28.1, u9.2.1, q929, u28.2, nI (((((0 + sb_dg (c7_zb.2.2.1.1 p1.toNatClampNeg).toNatClampNeg) + 1) + sb_dg (c7_zb.2.2.1.2.1 p1.toNatClampNeg).toNatClampNeg) + 1) + sb_dg (c7_zb.2.2.1.2.2.1 p1.toNatClampNeg).toNatClampNeg))].flatten) := hD
    refine lv_pop hx hb dX7_writePat_82 rfl ?_
    refine lv_iconst (v := 0) hx hb dX7_writePat_83 (by decide) ?_
    refine lv_istore_n (lv' := [(3, .int 0), (2, .ref (oa 7)), (0, .ref (oa 0)), (1, .int p1)]) hx hb dX7_writePat_84 rfl hl (by decide) rfl (fun ls hl => ?_)
    exact cut85 c7_zb c7_zt c7_zn c7_zv c7_zh c7_zx c7_zk c7_zd c7_ze c7_zc 20 0 (((((0 + sb_dg (c7_zb.2.2.1.1 p1.toNatClampNeg).toNatClampNeg) + 1) + sb_dg (c7_zb.2.2.1.2.1 p1.toNatClampNeg).toNatClampNeg) + 1) + sb_dg (c7_zb.2.2.1.2.2.1 p1.toNatClampNeg).toNatClampNeg) u28.1 u9.2.1 q929 u28.2 _ _ _ hf hnq hqq hq9 hfit hP hD hS (lv_sub hl [2, 3, 1, 0] rfl)
  · obtain ⟨e8, e9⟩ := Prod.mk.inj hf
    refine jx_v (w1 := wX7 dA oa S9 (b0, ml0, q0, f0, nI n0)) (vx_runV (As := [.int p1]) (rest := []) ⟨hx, hb, hml, hown, hts⟩ (m_X7_requirePat l hl0 dC dI dA gz oa s.heap.size (b0, ml0, q0, f0, nI n0) zb zt zn zv zh zx zk zd ze zc p1 (.inr E9) S9 eh6) (cwV 1 hts (gi_v bg wd_1054 wd_1056 ws_17 wd_1 wd_1057) rfl rfl rfl hd_X7_requirePat ⟨Nat.le_of_ble_eq_true rfl, Nat.le_of_ble_eq_true rfl⟩) ⟨pP_blind, va_recv (ci := 11) (q0 := 0) hK hP rfl rfl, pP_preW hP hD hS hA hK hN hZ⟩ rfl rfl hl.1 rfl (lv_room (Nat.le_of_ble_eq_true rfl)) dX7_writePat_2 ⟨Nat.le_of_ble_eq_true rfl, Nat.le_of_ble_eq_true rfl⟩) hD hS hA (fun E ce q9 H locs h9 hP hD hS h1 h2 h3 => ?_) (fun H locs h9 _ _ _ => nomatch h9)
    cases h9
    exact vx_out (fun x9 hx9 => absurd (ht9 x9 hx9) id) hlocks h1 h2 h3 (fun t ht hvm => by rw [← e9]; exact xp e8.symm hP hD hS ht) hS.2.2 (Nat.le_of_ble_eq_true rfl) (Nat.le_of_ble_eq_true rfl)
