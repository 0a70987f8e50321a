theorem bgI : ∀ w ∈ BIG, w ∈ BIG := fun _ h => h
/-- a start of cell: the script stands at b -/
abbrev pC (b L : Nat) (xs : Nat → Int32) (sz : Nat) (U : State) : Prop := U.heap.size = sz ∧ va_X b L xs U U.heap ∧ b < sz
theorem pC_blind {av : List Value} {b L : Nat} {xs : Nat → Int32} {sz : Nat} : FrameBlind (va_Pc av (pC b L xs sz)) := fun a U g mk q =>
  ⟨q.1, q.2.1, va_X.moved (u := U) (U := U.calling g mk a) (Vm.Alike.refl U.vm) q.2.2.1, q.2.2.2⟩
section LLC
variable {p : Program} {l : Launch} {e : Env} {R : Room} {s : State} {m : MethodId} {args : Array Value} {below : List Frame} {meth : Method} {c : Code} {H : Heap} {locs : List Loc} {cells slots : Nat} {Q : State → Prop}
variable {pc mc ms : Nat} {ls : Array Slot} {rest st0 : List Value} {a : Array Value} {A0 : Nat → Prop} {H0 : Heap} {D : va_G} {ws : va_W}
theorem pC_pre {av : List Value} {b L : Nat} {xs : Nat → Int32} (hX : va_X b L xs s s.heap) (hbl : b < s.heap.size) (hbA : ¬ A0 b) (hS : va_S A0 s.heap H locs) : ∀ U : State, U.heap = H → s.WarmedH U.vm → va_Pc av (pC b L xs H.size) av.toArray U := fun U hU hW =>
  ⟨rfl, by rw [hU], by rw [hU]; exact va_X.moved hW.alike (hX.kept (hS.2.1 b hbl hbA)), Nat.lt_of_lt_of_le hbl hS.1⟩
theorem my_ldcSw {cc : ByteArray} (hexec : p.tables.exec = Jvm.exec) (hb : c.code = cc) {own tx : String} {index q : Nat} (hown : s.vm.findClass own = some m.cls) (hZ : vk_R own index tx q s) (hdg : decode cc pc = .ok (.ldc_w index, 3))
    (k : W p l e R s m args below meth c H locs cells slots Q (F0 m (pc + 3) ls (.ref q :: rest))) : W p l e R s m args below meth c H locs cells slots Q (F0 m pc ls rest) := by
  intro T hT X
  obtain ⟨t, a1, b1⟩ := k T hT X
  exact ⟨t, X.ldcStringW hexec hown (text := tx) (a := q) hZ.1 hZ.2 (g := F0 m pc ls rest) rfl (by rw [hb]; exact hdg) t a1, b1⟩
theorem jc_i {r : Int32} (hr : va_Run p l e R s m args below meth c H locs cells slots mc ms (F0 m pc ls st0) rest (va_Qi (S := Unit) (fun r' _ => r' = r) (fun _ _ => True) (fun q => H.size ≤ q) a) (fun q => H.size ≤ q)) (hP : va_P D vwCl ws H) (hS : va_S A0 H0 H locs) (hA : ∀ q, H0.size ≤ q → A0 q)
    (kk : ∀ (H1 : Heap) (locs1 : List Loc), va_P D vwCl ws H1 → va_S A0 H0 H1 locs1 → W p l e R s m args below meth c H1 locs1 (cells + mc) (slots + ms) Q (F0 m (pc + 3) ls (.int r :: rest))) : W p l e R s m args below meth c H locs cells slots Q (F0 m pc ls st0) := by
  refine va_calli hr hS (fun q h1 h2 => absurd h1 (Nat.not_lt.mpr h2)) (fun q h => hA q (Nat.le_trans hS.1 h)) (fun r2 u t H1 locs1 ht hvm hw hB hz hk hS1 => ?_)
  subst hw
  exact kk H1 locs1 (hP.kept (fun k q hq => hk q.1 (hP k q hq).lt (Nat.not_le.mpr (hP k q hq).lt))) hS1
end LLC
def f_L_cell (L : Nat) (xs : Nat → Int32) (p1 : Int32) : Option Int32 :=
  if Int32.ofNat L = 0 then some (577 * p1) else
  if ((p1 &&& 65535) - (p1 &&& 65535) / Int32.ofNat L * Int32.ofNat L) < 0 ∨ L ≤ ((p1 &&& 65535) - (p1 &&& 65535) / Int32.ofNat L * Int32.ofNat L).toNatClampNeg then none else
  some (xs ((p1 &&& 65535) - (p1 &&& 65535) / Int32.ofNat L * Int32.ofNat L).toNatClampNeg)
set_option maxRecDepth 100000 in
set_option maxHeartbeats 4000000 in
theorem m_L_cell (l : Launch) (b L : Nat) (xs : Nat → Int32) (sz : Nat) (p1 rr : Int32) (hf : f_L_cell L xs p1 = some rr) : Met l yL_cell ws_L_cell ({ frames := 10, cells := 0, slots := 0, locals := 200 } : Room) (va_Pc [.ref b, .int p1] (pC b L xs sz)) (va_Qi (S := Unit) (fun r' _ => r' = rr) (fun _ _ => True) (fun q => sz ≤ q)) 0 0 (fun q => sz ≤ q) := by
  refine Met.ofW (cc := cL_cell) (maxL := 2) (ret := (some .int)) (by decide) rfl ?_
  intro p e s m args below meth c s₁ B hml hv
  obtain ⟨rfl, hsz, hX, hbl⟩ := hv
  have hx := B.exec
  have hb := B.bytes
  have hr := B.returns
  have hts := atoms_spec (ws := ws_L_cell) B.pre
  have hown : s.vm.findClass RL = some m.cls := findClass_of_methodNamed B.named
  have hlocks := B.notSynchronized
  subst hsz
  have hS : va_S (fun q => s.heap.size ≤ q) s.heap s.heap [] := va_S.rf
  have hbA : ¬ (fun q => s.heap.size ≤ q) b := Nat.not_le.mpr hbl
  have hl := lv_entry [.ref b, .int p1] (n := 2) (Nat.le_of_ble_eq_true rfl)
  rw [lg_entry_eq]
  generalize (lg_sl [.ref b, .int p1] ++ List.replicate (2 - (lg_sl [.ref b, .int p1]).length) Slot.unset).toArray = ls at hl ⊢
  have hl : lv_has ls 2 [(0, .ref b), (1, .int p1)] := hl
  rw [f_L_cell] at hf
  refine lv_aload_n hx hb dL_cell_0 rfl (lv_at hl 0 rfl) ?_
  refine va_slen hx hb hX hbl hbA hS dL_cell_1 ?_
  refine lv_if_ne (tgt := 13) hx hb dL_cell_2 (by decide) (fun q1 => ?_) (fun q1 => ?_)
  · have hf := ie q1 hf
    refine lv_aload_n hx hb dL_cell_13 rfl (lv_at hl 0 rfl) ?_
    refine lv_iload_n hx hb dL_cell_14 rfl (lv_at hl 1 rfl) ?_
    refine lv_ldc hx hb (v := 65535) hown (hts _ (bg _ wd_344)) dL_cell_15 ?_
    refine lv_iand hx hb dL_cell_17 ?_
    refine lv_aload_n hx hb dL_cell_18 rfl (lv_at hl 0 rfl) ?_
    refine va_slen hx hb hX hbl hbA hS dL_cell_19 ?_
    refine lv_irem hx hb dL_cell_20 q1 ?_
    obtain ⟨z1, hf⟩ := gd hf
    refine va_sld hx hb hX hbl hbA hS z1 dL_cell_21 ?_
    exact W.iret hx hb hr (fun t ht hW => ⟨⟨_, (), rfl, sm hf, trivial⟩, hS.F ht⟩) hS.2.2 dL_cell_22
  · have hf := it q1 hf
    refine lv_sipush (v := 577) hx hb dL_cell_5 (by decide) ?_
    refine lv_iload_n hx hb dL_cell_8 rfl (lv_at hl 1 rfl) ?_
    refine lv_imul hx hb dL_cell_9 ?_
    refine lv_goto (tgt := 22) hx hb dL_cell_10 (by decide) ?_
    exact W.iret hx hb hr (fun t ht hW => ⟨⟨_, (), rfl, sm hf, trivial⟩, hS.F ht⟩) hS.2.2 dL_cell_22

def f_L_law_353 (L : Nat) (xs : Nat → Int32) (S : SX7) (x3 : Int32) (x4 : Int64) (x6 : Int32) : Option (Int32) :=
  (if x3 = 0 then some 0 else
  bS (f_L_restore S) fun r2 S3 =>
  (if r2 = x6 then bS (f_L_digest S3) fun r7 S8 =>
  (if (lg_cmp r7 x4) = 0 then bS (f_L_undo S8) fun r12 S13 =>
  (if r12 = (-100000000) then (g_X7_undoCount S13).bind fun r17 =>
  (if r17 = 0 then some 1 else
  some 0) else
  some 0) else
  some 0) else
  some 0))
def f_L_law_281 (L : Nat) (xs : Nat → Int32) : Nat → SX7 → Int32 → Int64 → Int32 → Int32 → Option (Int32)
  | 0, _, _, _, _, _ => none
  | n9 + 1, S, x3, x4, x6, x7 =>
  (if x3 = 0 then f_L_law_353 L xs S x3 x4 x6 else
  (if 3 ≤ x7 then f_L_law_353 L xs S x3 x4 x6 else
  bS (f_L_load S 9) fun r24 S25 =>
  bS (f_L_stop S25) fun r28 S29 =>
  if 63 ≤ 35 then none else
  if x7 < 0 ∨ (sx 35).length ≤ x7.toNatClampNeg then none else
  bS (f_L_addPhase S29 ((sx 35).getD x7.toNatClampNeg 0 &&& 255) 12 (4 + (x7 - x7 / 2 * 2))) fun r34 S35 =>
  bS (f_L_start S35) fun r38 S39 =>
  bS (f_L_run S39 20) fun r42 S43 =>
  bS (f_L_press S43 4) fun r46 S47 =>
  bS (f_L_isFit S47) fun r50 S51 =>
  f_L_law_281 L xs n9 S51 r50 x4 x6 (x7 + 1)))
def f_L_law_188 (L : Nat) (xs : Nat → Int32) : Nat → SX7 → Int32 → Int64 → Int32 → Int32 → Option (Int32)
  | 0, _, _, _, _, _ => none
  | n9 + 1, S, x3, x4, x6, x7 =>
  (if x3 = 0 then f_L_law_281 L xs 4 S x3 x4 x6 0 else
  (if 27 ≤ x7 then f_L_law_281 L xs 4 S x3 x4 x6 0 else
  if x7 < 0 ∨ 27 ≤ x7.toNatClampNeg then none else
  (f_L_write S (TXS.getD x7.toNatClampNeg 0)).bind fun S58 =>
  bS (f_L_execute S58) fun r61 S62 =>
  (if r61 = (-100000000) then bS (f_L_denial S62) fun r81 S82 =>
  (if r81 = 7 then bS (f_L_denialCause S82) fun r86 S87 =>
  (if r86 ≤ 0 then f_L_law_188 L xs n9 S87 0 x4 x6 (x7 + 1) else
  bS (f_L_digest S87) fun r91 S92 =>
  (if (lg_cmp r91 x4) = 0 then f_L_law_188 L xs n9 S92 1 x4 x6 (x7 + 1) else
  f_L_law_188 L xs n9 S92 0 x4 x6 (x7 + 1))) else
  f_L_law_188 L xs n9 S82 0 x4 x6 (x7 + 1)) else
  bS (f_L_arePats S62) fun r66 S67 =>
  (if r66 = 0 then f_L_law_188 L xs n9 S67 0 x4 x6 (x7 + 1) else
  bS (f_L_undo S67) fun r71 S72 =>
  (if r71 < 0 then f_L_law_188 L xs n9 S72 0 x4 x6 (x7 + 1) else
  bS (f_L_digest S72) fun r76 S77 =>
  (if (lg_cmp r76 x4) = 0 then f_L_law_188 L xs n9 S77 1 x4 x6 (x7 + 1) else
  f_L_law_188 L xs n9 S77 0 x4 x6 (x7 + 1)))))))
def f_L_law_120 (L : Nat) (xs : Nat → Int32) : Nat → SX7 → Int32 → Int32 → Option (Int32)
  | 0, _, _, _ => none
  | n9 + 1, S, x2, x3 =>
  (if x2 ≤ x3 then bS (f_L_isFit S) fun r97 S98 =>
  bS (f_L_execute S98) fun r101 S102 =>
  bS (f_L_digest S102) fun r105 S106 =>
  bS (g_X7_saveSnapshot S106) fun r109 S110 =>
  f_L_law_188 L xs 28 S110 r97 r105 r109 0 else
  bS (f_L_digest S) fun r113 S114 =>
  (f_L_cell L xs x3).bind fun r117 =>
  bS (f_L_act S114 r117) fun r119 S120 =>
  (if r119 = (-100000000) then bS (f_L_digest S120) fun r124 S125 =>
  (if (lg_cmp r124 r113) = 0 then f_L_law_120 L xs n9 S125 x2 (x3 + 1) else
  some 0) else
  f_L_law_120 L xs n9 S120 x2 (x3 + 1)))
def f_L_law_10 (L : Nat) (xs : Nat → Int32) : Nat → SX7 → Int32 → Option (Int32)
  | 0, _, _ => none
  | n9 + 1, S, x2 =>
  (if 4 ≤ x2 then (f_L_cell L xs 1).bind fun r130 =>
  bS (f_L_load S (30 + ((r130 >>> ((3 : Int32) &&& 31)) &&& (63 : Int32)))) fun r132 S133 =>
  bS (f_L_start S133) fun r136 S137 =>
  (f_L_cell L xs 2).bind fun r140 =>
  bS (f_L_run S137 (1 + ((r140 >>> ((5 : Int32) &&& 31)) &&& (15 : Int32)))) fun r142 S143 =>
  bS (f_L_press S143 5) fun r146 S147 =>
  (if 36 ≤ (Int32.ofNat L) then f_L_law_120 L xs 37 S147 36 0 else
  f_L_law_120 L xs 37 S147 (Int32.ofNat L) 0) else
  if 63 ≤ 34 then none else
  if x2 < 0 ∨ (sx 34).length ≤ x2.toNatClampNeg then none else
  (f_L_cell L xs x2).bind fun r153 =>
  (f_L_cell L xs x2).bind fun r155 =>
  bS (f_L_addPhase S ((sx 34).getD x2.toNatClampNeg 0 &&& 255) (1 + ((r153 >>> ((4 : Int32) &&& 31)) &&& (15 : Int32))) (1 + ((r155 >>> ((6 : Int32) &&& 31)) &&& (3 : Int32)))) fun r157 S158 =>
  f_L_law_10 L xs n9 S158 (x2 + 1))
def f_L_law (L : Nat) (xs : Nat → Int32) (S : SX7) : Option Int32 :=
  f_L_law_10 L xs 5 S 0
set_option maxRecDepth 400000 in
set_option maxHeartbeats 8000000 in
theorem law_walk {p : Program} {e : Env} {s : State} {m : MethodId} {below : List Frame} {meth : Method} {c : Code} (l : Launch) (hl0 : l.stackTraces = false) {b L : Nat} {xs : Nat → Int32} (C0 : lw_At p s m meth c b L xs) (hts : ∀ w ∈ BIG, w.before #[Value.ref b] s = true) (dC : Nat → ClassId) (dI : Nat → Nat → Nat) (dA gz : Nat → Nat) (oa : Nat → Nat) (A : Nat → Prop) (hbA : ¬ A b) (hA : ∀ q : Nat, s.heap.size ≤ q → A q) (hAe : ∀ q : Nat, A q → s.heap.size ≤ q) (hK : va_K (dC, dI) vwCl (tyA dA) s) (hN : nW s) (hC : nC s) (hZ : pZ gz A s s.heap) (u0 : LU) (hu0 : LNk u0) (S : SX7) (hf : f_L_law L xs S = some 1) (H : Heap) (locs : List Loc) (ls : Array Slot) (hP : va_P (dC, dI) vwCl (wX7 dA oa S (lT u0)) H) (hD : va_D A (wX7 dA oa S (lT u0))) (hS : va_S A s.heap H locs) (hl : lv_has ls 9 [(1, .ref (oa 0)), (0, .ref b)]) : W p l e room_1 s m #[Value.ref b] below meth c H locs 154 1273 (lw_Z below #[Value.ref b] s) (F0 m 8 ls []) := by
  obtain ⟨hx, hb0, hr, hml, hown, -, hX, hbl, hlocks, -⟩ := C0
  have hb : c.code = cL_law := hb0
  have hown : s.vm.findClass RL = some m.cls := hown
  have cut353 : ∀ (S : SX7) (u : LU) (x3 : Int32) (x4 : Int64) (x6 : Int32) (H : Heap) (locs : List Loc) (ls : Array Slot), f_L_law_353 L xs S x3 x4 x6 = some 1 → LNk u → va_P (dC, dI) vwCl (wX7 dA oa S (lT u)) H → va_D A (wX7 dA oa S (lT u)) → va_S A s.heap H locs → lv_has ls 9 [(1, .ref (oa 0)), (3, .int x3), (4, .long x4), (6, .int x6)] → W p l e room_1 s m #[Value.ref b] below meth c H locs (329128) (800493) (lw_Z below #[Value.ref b] s) (F0 m 353 ls []) := by
    intro S u x3 x4 x6 H locs ls hf hu hP hD hS hl
    rw [f_L_law_353] at hf
    refine lv_iload_n hx hb dL_law_353 rfl (lv_at hl 1 rfl) ?_
    refine lv_if_eq (tgt := 396) hx hb dL_law_354 (by decide) (fun q1 => ?_) (fun q1 => ?_)
    · have hf := it q1 hf
      refine lv_iconst (v := 0) hx hb dL_law_396 (by decide) ?_
      have e9 := sm hf
      refine W.widen (k := 762793) (n := 6803989) (Nat.le_of_ble_eq_true rfl) (Nat.le_of_ble_eq_true rfl) ?_
      refine va_forget (fun q hq => hAe _ (hS.2.2 q hq)) ?_
      exact absurd e9 (by decide)
    · have hf := ie q1 hf
      refine lv_aload_n hx hb dL_law_357 rfl (lv_at hl 0 rfl) ?_
      obtain ⟨r2, S3, e4, hf⟩ := bS_inv hf
      refine jw_i (w1 := wX7 dA oa S3 (lT u)) (noRun (vx_runSX (As := [.ref (oa 0)]) (rest := []) ⟨hx, hb, hml, hown, hts⟩ (m_L_restore l hl0 dC dI dA gz oa H.size (lT u) S  r2 S3 e4) (vx_cwSW 1 hts (gi_t bgI wd_859 wd_860 wd_0 wd_861) rfl rfl rfl hd3_L_restore ⟨Nat.le_of_ble_eq_true rfl, Nat.le_of_ble_eq_true rfl⟩) ⟨pL_blind, pL_of hC (pP_preW hP hD hS hA hK hN hZ)⟩ rfl rfl hl.1 rfl (lv_room (Nat.le_of_ble_eq_true rfl)) dL_law_358 ⟨Nat.le_of_ble_eq_true rfl, Nat.le_of_ble_eq_true rfl⟩)) hD hS hA (fun H locs hP hD hS => ?_)
      refine lv_iload hx hb dL_law_361 (lv_at hl 3 rfl) ?_
      refine lv_icmp_ne (tgt := 396) hx hb dL_law_363 (by decide) (fun q6 => ?_) (fun q6 => ?_)
      · have hf := ie q6 hf
        refine lv_iconst (v := 0) hx hb dL_law_396 (by decide) ?_
        have e9 := sm hf
        refine W.widen (k := 762793) (n := 6803989) (Nat.le_of_ble_eq_true rfl) (Nat.le_of_ble_eq_true rfl) ?_
        refine va_forget (fun q hq => hAe _ (hS.2.2 q hq)) ?_
        exact absurd e9 (by decide)
      · have hf := it q6 hf
        refine lv_aload_n hx hb dL_law_366 rfl (lv_at hl 0 rfl) ?_
        obtain ⟨r7, S8, e9, hf⟩ := bS_inv hf
        refine jE_l (ok := LNk) (w1 := fun u9 : LU => wX7 dA oa S8 (lT u9)) (va_runS (As := [.ref (oa 0)]) (rest := []) ⟨hx, hb, hml, hown, hts⟩ (m_L_digest l hl0 dC dI dA gz oa H.size u hu S3  r7 S8 e9) (cwS 1 hts (gi_s bgI wd_965 wd_966 wd_0 wd_967) rfl rfl rfl hd_L_digest ⟨Nat.le_of_ble_eq_true rfl, Nat.le_of_ble_eq_true rfl⟩) ⟨pL_blind, pL_of hC (pP_preW hP hD hS hA hK hN hZ)⟩ rfl rfl hl.1 rfl (lv_room (Nat.le_of_ble_eq_true rfl)) dL_law_367 ⟨Nat.le_of_ble_eq_true rfl, Nat.le_of_ble_eq_true rfl⟩) hD hS hA (fun u10 H locs hu10 hP hD hS => ?_)
        refine lv_lload hx hb dL_law_370 (lv_at hl 2 rfl) ?_
        refine W.lcmp hx hb dL_law_372 ?_
        refine lv_if_ne (tgt := 396) hx hb dL_law_373 (by decide) (fun q11 => ?_) (fun q11 => ?_)
        · have hf := ie q11 hf
          refine lv_iconst (v := 0) hx hb dL_law_396 (by decide) ?_
          have e9 := sm hf
          refine W.widen (k := 762793) (n := 6803989) (Nat.le_of_ble_eq_true rfl) (Nat.le_of_ble_eq_true rfl) ?_
          refine va_forget (fun q hq => hAe _ (hS.2.2 q hq)) ?_
          exact absurd e9 (by decide)
        · have hf := it q11 hf
          refine lv_aload_n hx hb dL_law_376 rfl (lv_at hl 0 rfl) ?_
          obtain ⟨r12, S13, e14, hf⟩ := bS_inv hf
          refine jw_i (w1 := wX7 dA oa S13 (lT u10)) (noRun (vx_runSX (As := [.ref (oa 0)]) (rest := []) ⟨hx, hb, hml, hown, hts⟩ (m_L_undo l hl0 dC dI dA gz oa H.size (lT u10) S8  r12 S13 e14) (vx_cwSW 1 hts (gi_t bgI wd_831 wd_832 wd_0 wd_833) rfl rfl rfl hd3_L_undo ⟨Nat.le_of_ble_eq_true rfl, Nat.le_of_ble_eq_true rfl⟩) ⟨pL_blind, pL_of hC (pP_preW hP hD hS hA hK hN hZ)⟩ rfl rfl hl.1 rfl (lv_room (Nat.le_of_ble_eq_true rfl)) dL_law_377 ⟨Nat.le_of_ble_eq_true rfl, Nat.le_of_ble_eq_true rfl⟩)) hD hS hA (fun H locs hP hD hS => ?_)
          refine lv_ldc hx hb (v := (-100000000)) hown (hts _ (bgI _ wd_350)) dL_law_380 ?_
          refine lv_icmp_ne (tgt := 396) hx hb dL_law_382 (by decide) (fun q16 => ?_) (fun q16 => ?_)
          · have hf := ie q16 hf
            refine lv_iconst (v := 0) hx hb dL_law_396 (by decide) ?_
            have e9 := sm hf
            refine W.widen (k := 762793) (n := 6803989) (Nat.le_of_ble_eq_true rfl) (Nat.le_of_ble_eq_true rfl) ?_
            refine va_forget (fun q hq => hAe _ (hS.2.2 q hq)) ?_
            exact absurd e9 (by decide)
          · have hf := it q16 hf
            refine lv_aload_n hx hb dL_law_385 rfl (lv_at hl 0 rfl) ?_
            obtain ⟨r17, e19, hf⟩ := bd hf
            refine jw_i (w1 := wX7 dA oa S13 (lT u10)) (va_runV (As := []) (rest := []) ⟨hx, hb, hml, hown, hts⟩ (mt_X7_undoCount l dC dI dA gz oa H.size (lT u10) S13  r17 e19) (cwV 0 hts (gi_v bgI wd_308 wd_309 wd_310 wd_1 wd_311) rfl rfl rfl hd_X7_undoCount ⟨Nat.le_of_ble_eq_true rfl, Nat.le_of_ble_eq_true rfl⟩) ⟨pP_blind, va_recv (ci := 11) (q0 := 0) hK hP rfl rfl, pP_preW hP hD hS hA hK hN hZ⟩ rfl rfl hl.1 rfl (lv_room (Nat.le_of_ble_eq_true rfl)) dL_law_386 ⟨Nat.le_of_ble_eq_true rfl, Nat.le_of_ble_eq_true rfl⟩) hD hS hA (fun H locs hP hD hS => ?_)
            refine lv_if_ne (tgt := 396) hx hb dL_law_389 (by decide) (fun q21 => ?_) (fun q21 => ?_)
            · have hf := ie q21 hf
              refine lv_iconst (v := 0) hx hb dL_law_396 (by decide) ?_
              have e9 := sm hf
              refine W.widen (k := 762793) (n := 6803989) (Nat.le_of_ble_eq_true rfl) (Nat.le_of_ble_eq_true rfl) ?_
              refine va_forget (fun q hq => hAe _ (hS.2.2 q hq)) ?_
              exact absurd e9 (by decide)
            · have hf := it q21 hf
              refine lv_iconst (v := 1) hx hb dL_law_392 (by decide) ?_
              refine lv_goto (tgt := 397) hx hb dL_law_393 (by decide) ?_
              have e9 := sm hf
              refine W.widen (k := 762793) (n := 6803989) (Nat.le_of_ble_eq_true rfl) (Nat.le_of_ble_eq_true rfl) ?_
              refine va_forget (fun q hq => hAe _ (hS.2.2 q hq)) ?_
              exact lw_ret (Drawn.sameBut.refl s.drawn lw_cs) hx hb hr hlocks dL_law_397
  have cut281 : ∀ (n9 : Nat) (S : SX7) (u : LU) (x3 : Int32) (x4 : Int64) (x6 : Int32) (x7 : Int32) (x9 y9 : Nat) (H : Heap) (locs : List Loc) (ls : Array Slot), f_L_law_281 L xs n9 S x3 x4 x6 x7 = some 1 → LNk u → x9 + 41712 * n9 ≤ 329128 → y9 + 98048 * n9 ≤ 800493 → va_P (dC, dI) vwCl (wX7 dA oa S (lT u)) H → va_D A (wX7 dA oa S (lT u)) → va_S A s.heap H locs → lv_has ls 9 [(1, .ref (oa 0)), (3, .int x3), (4, .long x4), (6, .int x6), (7, .int x7)] → W p l e room_1 s m #[Value.ref b] below meth c H locs (x9) (y9) (lw_Z below #[Value.ref b] s) (F0 m 281 ls []) := by
    intro n9
    induction n9 with
    | zero =>
      intro S u x3 x4 x6 x7 x9 y9 H locs ls hf
      rw [f_L_law_281] at hf
      cases hf
    | succ n9 ih =>
      intro S u x3 x4 x6 x7 x9 y9 H locs ls hf hu hx9 hy9 hP hD hS hl
      rw [f_L_law_281] at hf
      refine lv_iload_n hx hb dL_law_281 rfl (lv_at hl 1 rfl) ?_
      refine lv_if_eq (tgt := 353) hx hb dL_law_282 (by decide) (fun q22 => ?_) (fun q22 => ?_)
      · have hf := it q22 hf
        refine W.widen (k := 329128) (n := 800493) (by omega) (by omega) ?_
        exact cut353 S u x3 x4 x6 _ _ _ hf hu hP hD hS (lv_sub hl [0, 1, 2, 3] rfl)
      · have hf := ie q22 hf
        refine lv_iload hx hb dL_law_285 (lv_at hl 4 rfl) ?_
        refine lv_iconst (v := 3) hx hb dL_law_287 (by decide) ?_
        refine lv_icmp_ge (tgt := 353) hx hb dL_law_288 (by decide) (fun q23 => ?_) (fun q23 => ?_)
        · have hf := it q23 hf
          refine W.widen (k := 329128) (n := 800493) (by omega) (by omega) ?_
          exact cut353 S u x3 x4 x6 _ _ _ hf hu hP hD hS (lv_sub hl [0, 1, 2, 3] rfl)
        · have hf := ie q23 hf
          refine lv_aload_n hx hb dL_law_291 rfl (lv_at hl 0 rfl) ?_
          refine lv_bipush (v := 9) hx hb dL_law_292 (by decide) ?_
          obtain ⟨r24, S25, e26, hf⟩ := bS_inv hf
          refine jw_i (w1 := wX7 dA oa S25 (lT u)) (noRun (vx_runSX (As := [.ref (oa 0), .int 9]) (rest := []) ⟨hx, hb, hml, hown, hts⟩ (m_L_load l hl0 dC dI dA gz oa H.size (lT u) S 9 r24 S25 e26) (vx_cwSW 2 hts (gi_t bgI wd_581 wd_582 wd_0 wd_583) rfl rfl rfl hd3_L_load ⟨Nat.le_of_ble_eq_true rfl, Nat.le_of_ble_eq_true rfl⟩) ⟨pL_blind, pL_of hC (pP_preW hP hD hS hA hK hN hZ)⟩ rfl rfl hl.1 rfl (lv_room (Nat.le_of_ble_eq_true rfl)) dL_law_294 ⟨by (show _ ≤ 762793); omega, by (show _ ≤ 6803989); omega⟩)) hD hS hA (fun H locs hP hD hS => ?_)
          refine lv_pop hx hb dL_law_297 rfl ?_
          refine lv_aload_n hx hb dL_law_298 rfl (lv_at hl 0 rfl) ?_
          obtain ⟨r28, S29, e30, hf⟩ := bS_inv hf
          refine jw_i (w1 := wX7 dA oa S29 (lT u)) (noRun (vx_runSX (As := [.ref (oa 0)]) (rest := []) ⟨hx, hb, hml, hown, hts⟩ (m_L_stop l hl0 dC dI dA gz oa H.size (lT u) S25  r28 S29 e30) (vx_cwSW 1 hts (gi_t bgI wd_517 wd_518 wd_0 wd_519) rfl rfl rfl hd3_L_stop ⟨Nat.le_of_ble_eq_true rfl, Nat.le_of_ble_eq_true rfl⟩) ⟨pL_blind, pL_of hC (pP_preW hP hD hS hA hK hN hZ)⟩ rfl rfl hl.1 rfl (lv_room (Nat.le_of_ble_eq_true rfl)) dL_law_299 ⟨by (show _ ≤ 762793); omega, by (show _ ≤ 6803989); omega⟩)) hD hS hA (fun H locs hP hD hS => ?_)
          refine lv_pop hx hb dL_law_302 rfl ?_
          refine lv_aload_n hx hb dL_law_303 rfl (lv_at hl 0 rfl) ?_
          refine my_ldcSw hx hb hown (hZ.1 35 (by decide)).1 dL_law_304 ?_
          refine lv_iload hx hb dL_law_307 (lv_at hl 4 rfl) ?_
          obtain ⟨z32, hf⟩ := gd hf
          obtain ⟨z33, hf⟩ := gd hf
          refine jr_i (va_runV (As := [.int x7]) (rest := [.ref (oa 0)]) ⟨hx, hb, hml, hown, hts⟩ (m_J0_charAt_5068e l dC dI dA gz H.size 35 (Nat.lt_of_not_le z32) x7 z33 (sx_len _ (Nat.lt_of_not_le z32))) (cwV 1 hts (gi_v bgI wd_875 wd_668 wd_669 wd_11 wd_670) rfl rfl rfl hd_J0_charAt_5068e ⟨Nat.le_of_ble_eq_true rfl, Nat.le_of_ble_eq_true rfl⟩) ⟨pP_blind, vk_recv (i := 0) (hZ.1 35 (Nat.lt_of_not_le z32)).2 (by decide) hS, pP_pre hP hD hS hA hK hN hZ [] (by decide) rfl⟩ rfl rfl hl.1 rfl (lv_room (Nat.le_of_ble_eq_true rfl)) dL_law_309 ⟨by (show _ ≤ 762793); omega, by (show _ ≤ 6803989); omega⟩) hP hD hS hA [] rfl (fun H locs hP hS => ?_)
          refine lv_bipush (v := 12) hx hb dL_law_312 (by decide) ?_
          refine lv_iconst (v := 4) hx hb dL_law_314 (by decide) ?_
          refine lv_iload hx hb dL_law_315 (lv_at hl 4 rfl) ?_
          refine lv_iconst (v := 2) hx hb dL_law_317 (by decide) ?_
          refine lv_irem hx hb dL_law_318 (by decide) ?_
          refine lv_iadd hx hb dL_law_319 ?_
          obtain ⟨r34, S35, e36, hf⟩ := bS_inv hf
          refine jw_i (w1 := wX7 dA oa S35 (lT u)) (noRun (vx_runSX (As := [.ref (oa 0), .int ((sx 35).getD x7.toNatClampNeg 0 &&& 255), .int 12, .int (4 + (x7 - x7 / 2 * 2))]) (rest := []) ⟨hx, hb, hml, hown, hts⟩ (m_L_addPhase l hl0 dC dI dA gz oa H.size (lT u) S29 ((sx 35).getD x7.toNatClampNeg 0 &&& 255) 12 (4 + (x7 - x7 / 2 * 2)) r34 S35 e36) (vx_cwSW 4 hts (gi_t bgI wd_345 wd_346 wd_0 wd_347) rfl rfl rfl hd3_L_addPhase ⟨Nat.le_of_ble_eq_true rfl, Nat.le_of_ble_eq_true rfl⟩) ⟨pL_blind, pL_of hC (pP_preW hP hD hS hA hK hN hZ)⟩ rfl rfl hl.1 rfl (lv_room (Nat.le_of_ble_eq_true rfl)) dL_law_320 ⟨by (show _ ≤ 762793); omega, by (show _ ≤ 6803989); omega⟩)) hD hS hA (fun H locs hP hD hS => ?_)
          refine lv_pop hx hb dL_law_323 rfl ?_
          refine lv_aload_n hx hb dL_law_324 rfl (lv_at hl 0 rfl) ?_
          obtain ⟨r38, S39, e40, hf⟩ := bS_inv hf
          refine jw_i (w1 := wX7 dA oa S39 (lT u)) (noRun (vx_runSX (As := [.ref (oa 0)]) (rest := []) ⟨hx, hb, hml, hown, hts⟩ (m_L_start l hl0 dC dI dA gz oa H.size (lT u) S35  r38 S39 e40) (vx_cwSW 1 hts (gi_t bgI wd_493 wd_494 wd_0 wd_495) rfl rfl rfl hd3_L_start ⟨Nat.le_of_ble_eq_true rfl, Nat.le_of_ble_eq_true rfl⟩) ⟨pL_blind, pL_of hC (pP_preW hP hD hS hA hK hN hZ)⟩ rfl rfl hl.1 rfl (lv_room (Nat.le_of_ble_eq_true rfl)) dL_law_325 ⟨by (show _ ≤ 762793); omega, by (show _ ≤ 6803989); omega⟩)) hD hS hA (fun H locs hP hD hS => ?_)
          refine lv_pop hx hb dL_law_328 rfl ?_
          refine lv_aload_n hx hb dL_law_329 rfl (lv_at hl 0 rfl) ?_
          refine lv_bipush (v := 20) hx hb dL_law_330 (by decide) ?_
          obtain ⟨r42, S43, e44, hf⟩ := bS_inv hf
          refine jw_i (w1 := wX7 dA oa S43 (lT u)) (noRun (vx_runSX (As := [.ref (oa 0), .int 20]) (rest := []) ⟨hx, hb, hml, hown, hts⟩ (m_L_run l hl0 dC dI dA gz oa H.size (lT u) S39 20 r42 S43 e44) (vx_cwSW 2 hts (gi_t bgI wd_536 wd_537 wd_0 wd_538) rfl rfl rfl hd3_L_run ⟨Nat.le_of_ble_eq_true rfl, Nat.le_of_ble_eq_true rfl⟩) ⟨pL_blind, pL_of hC (pP_preW hP hD hS hA hK hN hZ)⟩ rfl rfl hl.1 rfl (lv_room (Nat.le_of_ble_eq_true rfl)) dL_law_332 ⟨by (show _ ≤ 762793); omega, by (show _ ≤ 6803989); omega⟩)) hD hS hA (fun H locs hP hD hS => ?_)
          refine lv_pop hx hb dL_law_335 rfl ?_
          refine lv_aload_n hx hb dL_law_336 rfl (lv_at hl 0 rfl) ?_
          refine lv_iconst (v := 4) hx hb dL_law_337 (by decide) ?_
          obtain ⟨r46, S47, e48, hf⟩ := bS_inv hf
          refine jw_i (w1 := wX7 dA oa S47 (lT u)) (noRun (vx_runSX (As := [.ref (oa 0), .int 4]) (rest := []) ⟨hx, hb, hml, hown, hts⟩ (m_L_press l hl0 dC dI dA gz oa H.size (lT u) S43 4 r46 S47 e48) (vx_cwSW 2 hts (gi_t bgI wd_600 wd_601 wd_0 wd_602) rfl rfl rfl hd3_L_press ⟨Nat.le_of_ble_eq_true rfl, Nat.le_of_ble_eq_true rfl⟩) ⟨pL_blind, pL_of hC (pP_preW hP hD hS hA hK hN hZ)⟩ rfl rfl hl.1 rfl (lv_room (Nat.le_of_ble_eq_true rfl)) dL_law_338 ⟨by (show _ ≤ 762793); omega, by (show _ ≤ 6803989); omega⟩)) hD hS hA (fun H locs hP hD hS => ?_)
          refine lv_pop hx hb dL_law_341 rfl ?_
          refine lv_aload_n hx hb dL_law_342 rfl (lv_at hl 0 rfl) ?_
          obtain ⟨r50, S51, e52, hf⟩ := bS_inv hf
          refine jE_i (ok := LNk) (w1 := fun u9 : LU => wX7 dA oa S51 (lT u9)) (va_runS (As := [.ref (oa 0)]) (rest := []) ⟨hx, hb, hml, hown, hts⟩ (m_L_isFit l hl0 dC dI dA gz oa H.size u hu S47  r50 S51 e52) (cwS 1 hts (gi_s bgI wd_1413 wd_1414 wd_0 wd_1415) rfl rfl rfl hd_L_isFit ⟨Nat.le_of_ble_eq_true rfl, Nat.le_of_ble_eq_true rfl⟩) ⟨pL_blind, pL_of hC (pP_preW hP hD hS hA hK hN hZ)⟩ rfl rfl hl.1 rfl (lv_room (Nat.le_of_ble_eq_true rfl)) dL_law_343 ⟨by (show _ ≤ 762793); omega, by (show _ ≤ 6803989); omega⟩) hD hS hA (fun u53 H locs hu53 hP hD hS => ?_)
          refine lv_istore_n (lv' := [(3, .int r50), (1, .ref (oa 0)), (4, .long x4), (6, .int x6), (7, .int x7)]) hx hb dL_law_346 rfl hl (by decide) rfl (fun ls hl => ?_)
          refine lv_iinc (v := (x7 + 1)) (lv' := [(7, .int (x7 + 1)), (3, .int r50), (1, .ref (oa 0)), (4, .long x4), (6, .int x6)]) hx hb dL_law_347 hl (k := 4) rfl rfl (by decide) rfl (fun ls hl => ?_)
          refine lv_goto (tgt := 281) hx hb dL_law_350 (by decide) ?_
          exact ih S51 u53 r50 x4 x6 (x7 + 1) _ _ _ _ _ hf hu53 (by omega) (by omega) hP hD hS (lv_sub hl [2, 1, 3, 4, 0] rfl)
  have cut188 : ∀ (n9 : Nat) (S : SX7) (u : LU) (x3 : Int32) (x4 : Int64) (x6 : Int32) (x7 : Int32) (x9 y9 : Nat) (H : Heap) (locs : List Loc) (ls : Array Slot), f_L_law_188 L xs n9 S x3 x4 x6 x7 = some 1 → LNk u → x9 + 4053 * n9 ≤ 162280 → y9 + 9550 * n9 ≤ 408301 → va_P (dC, dI) vwCl (wX7 dA oa S (lT u)) H → va_D A (wX7 dA oa S (lT u)) → va_S A s.heap H locs → lv_has ls 9 [(1, .ref (oa 0)), (3, .int x3), (4, .long x4), (6, .int x6), (7, .int x7)] → W p l e room_1 s m #[Value.ref b] below meth c H locs (x9) (y9) (lw_Z below #[Value.ref b] s) (F0 m 188 ls []) := by
    intro n9
    induction n9 with
    | zero =>
      intro S u x3 x4 x6 x7 x9 y9 H locs ls hf
      rw [f_L_law_188] at hf
      cases hf
    | succ n9 ih =>
      intro S u x3 x4 x6 x7 x9 y9 H locs ls hf hu hx9 hy9 hP hD hS hl
      rw [f_L_law_188] at hf
      refine lv_iload_n hx hb dL_law_188 rfl (lv_at hl 1 rfl) ?_
      refine lv_if_eq (tgt := 278) hx hb dL_law_189 (by decide) (fun q54 => ?_) (fun q54 => ?_)
      · have hf := it q54 hf
        refine W.widen (k := 162280) (n := 408301) (by omega) (by omega) ?_
        refine lv_iconst (v := 0) hx hb dL_law_278 (by decide) ?_
        refine lv_istore (lv' := [(7, .int 0), (1, .ref (oa 0)), (3, .int x3), (4, .long x4), (6, .int x6)]) hx hb dL_law_279 hl (by decide) rfl (fun ls hl => ?_)
        exact cut281 4 S u x3 x4 x6 0 162280 408301 _ _ _ hf hu (Nat.le_of_ble_eq_true rfl) (Nat.le_of_ble_eq_true rfl) hP hD hS (lv_sub hl [1, 2, 3, 4, 0] rfl)
      · have hf := ie q54 hf
        refine lv_iload hx hb dL_law_192 (lv_at hl 4 rfl) ?_
        refine va_gets hx hb hZ.2.2.2.2.2.2.2.1 hS hown (hts _ (bgI _ wd_963)) (fun _ h9 => h9) dL_law_194 ?_
        refine va_tlen hx hb hZ.2.2.2.2.2.2.2.2 hS (v := 27) rfl dL_law_197 ?_
        refine lv_icmp_ge (tgt := 278) hx hb dL_law_198 (by decide) (fun q55 => ?_) (fun q55 => ?_)
        · have hf := it q55 hf
          refine W.widen (k := 162280) (n := 408301) (by omega) (by omega) ?_
          refine lv_iconst (v := 0) hx hb dL_law_278 (by decide) ?_
          refine lv_istore (lv' := [(7, .int 0), (1, .ref (oa 0)), (3, .int x3), (4, .long x4), (6, .int x6)]) hx hb dL_law_279 hl (by decide) rfl (fun ls hl => ?_)
          exact cut281 4 S u x3 x4 x6 0 162280 408301 _ _ _ hf hu (Nat.le_of_ble_eq_true rfl) (Nat.le_of_ble_eq_true rfl) hP hD hS (lv_sub hl [1, 2, 3, 4, 0] rfl)
        · have hf := ie q55 hf
          refine lv_aload_n hx hb dL_law_201 rfl (lv_at hl 0 rfl) ?_
          refine va_gets hx hb hZ.2.2.2.2.2.2.2.1 hS hown (hts _ (bgI _ wd_963)) (fun _ h9 => h9) dL_law_202 ?_
          refine lv_iload hx hb dL_law_205 (lv_at hl 4 rfl) ?_
          obtain ⟨z56, hf⟩ := gd hf
          refine vb_tq hx hb hZ.2.2.2.2.2.2.2.2 hS z56 rfl dL_law_207 ?_
          obtain ⟨S58, e59, hf⟩ := bd hf
          refine jE_r (ok := LNk) (w1 := fun u9 : LU => wX7 dA oa S58 (lT u9)) (va_runS (As := [.ref (oa 0), .ref (gz (2 * (TXS.getD x7.toNatClampNeg 0)))]) (rest := []) ⟨hx, hb, hml, hown, hts⟩ (m_L_write l hl0 dC dI dA gz oa H.size u hu S (TXS.getD x7.toNatClampNeg 0) S58 e59) (cwS 2 hts (gi_s bgI wd_871 wd_872 wd_0 wd_873) rfl rfl rfl hd_L_write ⟨Nat.le_of_ble_eq_true rfl, Nat.le_of_ble_eq_true rfl⟩) ⟨pL_blind, pL_of hC (pP_preW hP hD hS hA hK hN hZ)⟩ rfl rfl hl.1 rfl (lv_room (Nat.le_of_ble_eq_true rfl)) dL_law_208 ⟨by (show _ ≤ 762793); omega, by (show _ ≤ 6803989); omega⟩) hD hS hA (fun u60 H locs hu60 hP hD hS => ?_)
          obtain ⟨r61, S62, e63, hf⟩ := bS_inv hf
          refine jw_i (w1 := wX7 dA oa S62 (lT u60)) (noRun (vx_runSX (As := [.ref (oa 0)]) (rest := []) ⟨hx, hb, hml, hown, hts⟩ (m_L_execute l hl0 dC dI dA gz oa H.size (lT u60) S58  r61 S62 e63) (vx_cwSW 1 hts (gi_t bgI wd_623 wd_624 wd_0 wd_625) rfl rfl rfl hd3_L_execute ⟨Nat.le_of_ble_eq_true rfl, Nat.le_of_ble_eq_true rfl⟩) ⟨pL_blind, pL_of hC (pP_preW hP hD hS hA hK hN hZ)⟩ rfl rfl hl.1 rfl (lv_room (Nat.le_of_ble_eq_true rfl)) dL_law_211 ⟨by (show _ ≤ 762793); omega, by (show _ ≤ 6803989); omega⟩)) hD hS hA (fun H locs hP hD hS => ?_)
          refine lv_istore (lv' := [(8, .int r61), (1, .ref (oa 0)), (3, .int x3), (4, .long x4), (6, .int x6), (7, .int x7)]) hx hb dL_law_214 hl (by decide) rfl (fun ls hl => ?_)
          refine lv_iload hx hb dL_law_216 (lv_at hl 0 rfl) ?_
          refine lv_ldc hx hb (v := (-100000000)) hown (hts _ (bgI _ wd_350)) dL_law_218 ?_
          refine lv_icmp_ne (tgt := 242) hx hb dL_law_220 (by decide) (fun q65 => ?_) (fun q65 => ?_)
          · have hf := ie q65 hf
            refine lv_aload_n hx hb dL_law_242 rfl (lv_at hl 1 rfl) ?_
            obtain ⟨r66, S67, e68, hf⟩ := bS_inv hf
            refine jE_i (ok := LNk) (w1 := fun u9 : LU => wX7 dA oa S67 (lT u9)) (va_runS (As := [.ref (oa 0)]) (rest := []) ⟨hx, hb, hml, hown, hts⟩ (m_L_arePats l hl0 dC dI dA gz oa H.size u60 hu60 S62  r66 S67 e68) (cwS 1 hts (gi_s bgI wd_1073 wd_1074 wd_0 wd_1075) rfl rfl rfl hd_L_arePats ⟨Nat.le_of_ble_eq_true rfl, Nat.le_of_ble_eq_true rfl⟩) ⟨pL_blind, pL_of hC (pP_preW hP hD hS hA hK hN hZ)⟩ rfl rfl hl.1 rfl (lv_room (Nat.le_of_ble_eq_true rfl)) dL_law_243 ⟨by (show _ ≤ 762793); omega, by (show _ ≤ 6803989); omega⟩) hD hS hA (fun u69 H locs hu69 hP hD hS => ?_)
            refine lv_if_eq (tgt := 270) hx hb dL_law_246 (by decide) (fun q70 => ?_) (fun q70 => ?_)
            · have hf := it q70 hf
              refine lv_iconst (v := 0) hx hb dL_law_270 (by decide) ?_
              refine lv_istore_n (lv' := [(3, .int 0), (8, .int r61), (1, .ref (oa 0)), (4, .long x4), (6, .int x6), (7, .int x7)]) hx hb dL_law_271 rfl hl (by decide) rfl (fun ls hl => ?_)
              refine lv_iinc (v := (x7 + 1)) (lv' := [(7, .int (x7 + 1)), (3, .int 0), (8, .int r61), (1, .ref (oa 0)), (4, .long x4), (6, .int x6)]) hx hb dL_law_272 hl (k := 5) rfl rfl (by decide) rfl (fun ls hl => ?_)
              refine lv_goto (tgt := 188) hx hb dL_law_275 (by decide) ?_
              exact ih S67 u69 0 x4 x6 (x7 + 1) _ _ _ _ _ hf hu69 (by omega) (by omega) hP hD hS (lv_sub hl [3, 1, 4, 5, 0] rfl)
            · have hf := ie q70 hf
              refine lv_aload_n hx hb dL_law_249 rfl (lv_at hl 1 rfl) ?_
              obtain ⟨r71, S72, e73, hf⟩ := bS_inv hf
              refine jw_i (w1 := wX7 dA oa S72 (lT u69)) (noRun (vx_runSX (As := [.ref (oa 0)]) (rest := []) ⟨hx, hb, hml, hown, hts⟩ (m_L_undo l hl0 dC dI dA gz oa H.size (lT u69) S67  r71 S72 e73) (vx_cwSW 1 hts (gi_t bgI wd_831 wd_832 wd_0 wd_833) rfl rfl rfl hd3_L_undo ⟨Nat.le_of_ble_eq_true rfl, Nat.le_of_ble_eq_true rfl⟩) ⟨pL_blind, pL_of hC (pP_preW hP hD hS hA hK hN hZ)⟩ rfl rfl hl.1 rfl (lv_room (Nat.le_of_ble_eq_true rfl)) dL_law_250 ⟨by (show _ ≤ 762793); omega, by (show _ ≤ 6803989); omega⟩)) hD hS hA (fun H locs hP hD hS => ?_)
              refine lv_if_lt (tgt := 270) hx hb dL_law_253 (by decide) (fun q75 => ?_) (fun q75 => ?_)
              · have hf := it q75 hf
                refine lv_iconst (v := 0) hx hb dL_law_270 (by decide) ?_
                refine lv_istore_n (lv' := [(3, .int 0), (8, .int r61), (1, .ref (oa 0)), (4, .long x4), (6, .int x6), (7, .int x7)]) hx hb dL_law_271 rfl hl (by decide) rfl (fun ls hl => ?_)
                refine lv_iinc (v := (x7 + 1)) (lv' := [(7, .int (x7 + 1)), (3, .int 0), (8, .int r61), (1, .ref (oa 0)), (4, .long x4), (6, .int x6)]) hx hb dL_law_272 hl (k := 5) rfl rfl (by decide) rfl (fun ls hl => ?_)
                refine lv_goto (tgt := 188) hx hb dL_law_275 (by decide) ?_
                exact ih S72 u69 0 x4 x6 (x7 + 1) _ _ _ _ _ hf hu69 (by omega) (by omega) hP hD hS (lv_sub hl [3, 1, 4, 5, 0] rfl)
              · have hf := ie q75 hf
                refine lv_aload_n hx hb dL_law_256 rfl (lv_at hl 1 rfl) ?_
                obtain ⟨r76, S77, e78, hf⟩ := bS_inv hf
                refine jE_l (ok := LNk) (w1 := fun u9 : LU => wX7 dA oa S77 (lT u9)) (va_runS (As := [.ref (oa 0)]) (rest := []) ⟨hx, hb, hml, hown, hts⟩ (m_L_digest l hl0 dC dI dA gz oa H.size u69 hu69 S72  r76 S77 e78) (cwS 1 hts (gi_s bgI wd_965 wd_966 wd_0 wd_967) rfl rfl rfl hd_L_digest ⟨Nat.le_of_ble_eq_true rfl, Nat.le_of_ble_eq_true rfl⟩) ⟨pL_blind, pL_of hC (pP_preW hP hD hS hA hK hN hZ)⟩ rfl rfl hl.1 rfl (lv_room (Nat.le_of_ble_eq_true rfl)) dL_law_257 ⟨by (show _ ≤ 762793); omega, by (show _ ≤ 6803989); omega⟩) hD hS hA (fun u79 H locs hu79 hP hD hS => ?_)
                refine lv_lload hx hb dL_law_260 (lv_at hl 3 rfl) ?_
                refine W.lcmp hx hb dL_law_262 ?_
                refine lv_if_ne (tgt := 270) hx hb dL_law_263 (by decide) (fun q80 => ?_) (fun q80 => ?_)
                · have hf := ie q80 hf
                  refine lv_iconst (v := 0) hx hb dL_law_270 (by decide) ?_
                  refine lv_istore_n (lv' := [(3, .int 0), (8, .int r61), (1, .ref (oa 0)), (4, .long x4), (6, .int x6), (7, .int x7)]) hx hb dL_law_271 rfl hl (by decide) rfl (fun ls hl => ?_)
                  refine lv_iinc (v := (x7 + 1)) (lv' := [(7, .int (x7 + 1)), (3, .int 0), (8, .int r61), (1, .ref (oa 0)), (4, .long x4), (6, .int x6)]) hx hb dL_law_272 hl (k := 5) rfl rfl (by decide) rfl (fun ls hl => ?_)
                  refine lv_goto (tgt := 188) hx hb dL_law_275 (by decide) ?_
                  exact ih S77 u79 0 x4 x6 (x7 + 1) _ _ _ _ _ hf hu79 (by omega) (by omega) hP hD hS (lv_sub hl [3, 1, 4, 5, 0] rfl)
                · have hf := it q80 hf
                  refine lv_iconst (v := 1) hx hb dL_law_266 (by decide) ?_
                  refine lv_goto (tgt := 271) hx hb dL_law_267 (by decide) ?_
                  refine lv_istore_n (lv' := [(3, .int 1), (8, .int r61), (1, .ref (oa 0)), (4, .long x4), (6, .int x6), (7, .int x7)]) hx hb dL_law_271 rfl hl (by decide) rfl (fun ls hl => ?_)
                  refine lv_iinc (v := (x7 + 1)) (lv' := [(7, .int (x7 + 1)), (3, .int 1), (8, .int r61), (1, .ref (oa 0)), (4, .long x4), (6, .int x6)]) hx hb dL_law_272 hl (k := 5) rfl rfl (by decide) rfl (fun ls hl => ?_)
                  refine lv_goto (tgt := 188) hx hb dL_law_275 (by decide) ?_
                  exact ih S77 u79 1 x4 x6 (x7 + 1) _ _ _ _ _ hf hu79 (by omega) (by omega) hP hD hS (lv_sub hl [3, 1, 4, 5, 0] rfl)
          · have hf := it q65 hf
            refine lv_aload_n hx hb dL_law_223 rfl (lv_at hl 1 rfl) ?_
            obtain ⟨r81, S82, e83, hf⟩ := bS_inv hf
            refine jw_i (w1 := wX7 dA oa S82 (lT u60)) (noRun (vx_runSX (As := [.ref (oa 0)]) (rest := []) ⟨hx, hb, hml, hown, hts⟩ (m_L_denial l hl0 dC dI dA gz oa H.size (lT u60) S62  r81 S82 e83) (vx_cwSW 1 hts (gi_t bgI wd_795 wd_796 wd_0 wd_797) rfl rfl rfl hd3_L_denial ⟨Nat.le_of_ble_eq_true rfl, Nat.le_of_ble_eq_true rfl⟩) ⟨pL_blind, pL_of hC (pP_preW hP hD hS hA hK hN hZ)⟩ rfl rfl hl.1 rfl (lv_room (Nat.le_of_ble_eq_true rfl)) dL_law_224 ⟨by (show _ ≤ 762793); omega, by (show _ ≤ 6803989); omega⟩)) hD hS hA (fun H locs hP hD hS => ?_)
            refine lv_bipush (v := 7) hx hb dL_law_227 (by decide) ?_
            refine lv_icmp_ne (tgt := 270) hx hb dL_law_229 (by decide) (fun q85 => ?_) (fun q85 => ?_)
            · have hf := ie q85 hf
              refine lv_iconst (v := 0) hx hb dL_law_270 (by decide) ?_
              refine lv_istore_n (lv' := [(3, .int 0), (8, .int r61), (1, .ref (oa 0)), (4, .long x4), (6, .int x6), (7, .int x7)]) hx hb dL_law_271 rfl hl (by decide) rfl (fun ls hl => ?_)
              refine lv_iinc (v := (x7 + 1)) (lv' := [(7, .int (x7 + 1)), (3, .int 0), (8, .int r61), (1, .ref (oa 0)), (4, .long x4), (6, .int x6)]) hx hb dL_law_272 hl (k := 5) rfl rfl (by decide) rfl (fun ls hl => ?_)
              refine lv_goto (tgt := 188) hx hb dL_law_275 (by decide) ?_
              exact ih S82 u60 0 x4 x6 (x7 + 1) _ _ _ _ _ hf hu60 (by omega) (by omega) hP hD hS (lv_sub hl [3, 1, 4, 5, 0] rfl)
            · have hf := it q85 hf
              refine lv_aload_n hx hb dL_law_232 rfl (lv_at hl 1 rfl) ?_
              obtain ⟨r86, S87, e88, hf⟩ := bS_inv hf
              refine jw_i (w1 := wX7 dA oa S87 (lT u60)) (noRun (vx_runSX (As := [.ref (oa 0)]) (rest := []) ⟨hx, hb, hml, hown, hts⟩ (m_L_denialCause l hl0 dC dI dA gz oa H.size (lT u60) S82  r86 S87 e88) (vx_cwSW 1 hts (gi_t bgI wd_823 wd_824 wd_0 wd_825) rfl rfl rfl hd3_L_denialCause ⟨Nat.le_of_ble_eq_true rfl, Nat.le_of_ble_eq_true rfl⟩) ⟨pL_blind, pL_of hC (pP_preW hP hD hS hA hK hN hZ)⟩ rfl rfl hl.1 rfl (lv_room (Nat.le_of_ble_eq_true rfl)) dL_law_233 ⟨by (show _ ≤ 762793); omega, by (show _ ≤ 6803989); omega⟩)) hD hS hA (fun H locs hP hD hS => ?_)
              refine lv_if_le (tgt := 270) hx hb dL_law_236 (by decide) (fun q90 => ?_) (fun q90 => ?_)
              · have hf := it q90 hf
                refine lv_iconst (v := 0) hx hb dL_law_270 (by decide) ?_
                refine lv_istore_n (lv' := [(3, .int 0), (8, .int r61), (1, .ref (oa 0)), (4, .long x4), (6, .int x6), (7, .int x7)]) hx hb dL_law_271 rfl hl (by decide) rfl (fun ls hl => ?_)
                refine lv_iinc (v := (x7 + 1)) (lv' := [(7, .int (x7 + 1)), (3, .int 0), (8, .int r61), (1, .ref (oa 0)), (4, .long x4), (6, .int x6)]) hx hb dL_law_272 hl (k := 5) rfl rfl (by decide) rfl (fun ls hl => ?_)
                refine lv_goto (tgt := 188) hx hb dL_law_275 (by decide) ?_
                exact ih S87 u60 0 x4 x6 (x7 + 1) _ _ _ _ _ hf hu60 (by omega) (by omega) hP hD hS (lv_sub hl [3, 1, 4, 5, 0] rfl)
              · have hf := ie q90 hf
                refine lv_goto (tgt := 256) hx hb dL_law_239 (by decide) ?_
                refine lv_aload_n hx hb dL_law_256 rfl (lv_at hl 1 rfl) ?_
                obtain ⟨r91, S92, e93, hf⟩ := bS_inv hf
                refine jE_l (ok := LNk) (w1 := fun u9 : LU => wX7 dA oa S92 (lT u9)) (va_runS (As := [.ref (oa 0)]) (rest := []) ⟨hx, hb, hml, hown, hts⟩ (m_L_digest l hl0 dC dI dA gz oa H.size u60 hu60 S87  r91 S92 e93) (cwS 1 hts (gi_s bgI wd_965 wd_966 wd_0 wd_967) rfl rfl rfl hd_L_digest ⟨Nat.le_of_ble_eq_true rfl, Nat.le_of_ble_eq_true rfl⟩) ⟨pL_blind, pL_of hC (pP_preW hP hD hS hA hK hN hZ)⟩ rfl rfl hl.1 rfl (lv_room (Nat.le_of_ble_eq_true rfl)) dL_law_257 ⟨by (show _ ≤ 762793); omega, by (show _ ≤ 6803989); omega⟩) hD hS hA (fun u94 H locs hu94 hP hD hS => ?_)
                refine lv_lload hx hb dL_law_260 (lv_at hl 3 rfl) ?_
                refine W.lcmp hx hb dL_law_262 ?_
                refine lv_if_ne (tgt := 270) hx hb dL_law_263 (by decide) (fun q95 => ?_) (fun q95 => ?_)
                · have hf := ie q95 hf
                  refine lv_iconst (v := 0) hx hb dL_law_270 (by decide) ?_
                  refine lv_istore_n (lv' := [(3, .int 0), (8, .int r61), (1, .ref (oa 0)), (4, .long x4), (6, .int x6), (7, .int x7)]) hx hb dL_law_271 rfl hl (by decide) rfl (fun ls hl => ?_)
                  refine lv_iinc (v := (x7 + 1)) (lv' := [(7, .int (x7 + 1)), (3, .int 0), (8, .int r61), (1, .ref (oa 0)), (4, .long x4), (6, .int x6)]) hx hb dL_law_272 hl (k := 5) rfl rfl (by decide) rfl (fun ls hl => ?_)
                  refine lv_goto (tgt := 188) hx hb dL_law_275 (by decide) ?_
                  exact ih S92 u94 0 x4 x6 (x7 + 1) _ _ _ _ _ hf hu94 (by omega) (by omega) hP hD hS (lv_sub hl [3, 1, 4, 5, 0] rfl)
                · have hf := it q95 hf
                  refine lv_iconst (v := 1) hx hb dL_law_266 (by decide) ?_
                  refine lv_goto (tgt := 271) hx hb dL_law_267 (by decide) ?_
                  refine lv_istore_n (lv' := [(3, .int 1), (8, .int r61), (1, .ref (oa 0)), (4, .long x4), (6, .int x6), (7, .int x7)]) hx hb dL_law_271 rfl hl (by decide) rfl (fun ls hl => ?_)
                  refine lv_iinc (v := (x7 + 1)) (lv' := [(7, .int (x7 + 1)), (3, .int 1), (8, .int r61), (1, .ref (oa 0)), (4, .long x4), (6, .int x6)]) hx hb dL_law_272 hl (k := 5) rfl rfl (by decide) rfl (fun ls hl => ?_)
                  refine lv_goto (tgt := 188) hx hb dL_law_275 (by decide) ?_
                  exact ih S92 u94 1 x4 x6 (x7 + 1) _ _ _ _ _ hf hu94 (by omega) (by omega) hP hD hS (lv_sub hl [3, 1, 4, 5, 0] rfl)
  have cut120 : ∀ (n9 : Nat) (S : SX7) (u : LU) (x2 : Int32) (x3 : Int32) (x9 y9 : Nat) (H : Heap) (locs : List Loc) (ls : Array Slot), f_L_law_120 L xs n9 S x2 x3 = some 1 → LNk u → x9 + 185 * n9 ≤ 7015 → y9 + 1110 * n9 ≤ 42439 → va_P (dC, dI) vwCl (wX7 dA oa S (lT u)) H → va_D A (wX7 dA oa S (lT u)) → va_S A s.heap H locs → lv_has ls 9 [(0, .ref b), (1, .ref (oa 0)), (2, .int x2), (3, .int x3)] → W p l e room_1 s m #[Value.ref b] below meth c H locs (x9) (y9) (lw_Z below #[Value.ref b] s) (F0 m 120 ls []) := by
    intro n9
    induction n9 with
    | zero =>
      intro S u x2 x3 x9 y9 H locs ls hf
      rw [f_L_law_120] at hf
      cases hf
    | succ n9 ih =>
      intro S u x2 x3 x9 y9 H locs ls hf hu hx9 hy9 hP hD hS hl
      rw [f_L_law_120] at hf
      refine lv_iload_n hx hb dL_law_120 rfl (lv_at hl 3 rfl) ?_
      refine lv_iload_n hx hb dL_law_121 rfl (lv_at hl 2 rfl) ?_
      refine lv_icmp_ge (tgt := 163) hx hb dL_law_122 (by decide) (fun q96 => ?_) (fun q96 => ?_)
      · have hf := it q96 hf
        refine W.widen (k := 7015) (n := 42439) (by omega) (by omega) ?_
        refine lv_aload_n hx hb dL_law_163 rfl (lv_at hl 1 rfl) ?_
        obtain ⟨r97, S98, e99, hf⟩ := bS_inv hf
        refine jE_i (ok := LNk) (w1 := fun u9 : LU => wX7 dA oa S98 (lT u9)) (va_runS (As := [.ref (oa 0)]) (rest := []) ⟨hx, hb, hml, hown, hts⟩ (m_L_isFit l hl0 dC dI dA gz oa H.size u hu S  r97 S98 e99) (cwS 1 hts (gi_s bgI wd_1413 wd_1414 wd_0 wd_1415) rfl rfl rfl hd_L_isFit ⟨Nat.le_of_ble_eq_true rfl, Nat.le_of_ble_eq_true rfl⟩) ⟨pL_blind, pL_of hC (pP_preW hP hD hS hA hK hN hZ)⟩ rfl rfl hl.1 rfl (lv_room (Nat.le_of_ble_eq_true rfl)) dL_law_164 ⟨Nat.le_of_ble_eq_true rfl, Nat.le_of_ble_eq_true rfl⟩) hD hS hA (fun u100 H locs hu100 hP hD hS => ?_)
        refine lv_istore_n (lv' := [(3, .int r97), (0, .ref b), (1, .ref (oa 0)), (2, .int x2)]) hx hb dL_law_167 rfl hl (by decide) rfl (fun ls hl => ?_)
        refine lv_aload_n hx hb dL_law_168 rfl (lv_at hl 2 rfl) ?_
        obtain ⟨r101, S102, e103, hf⟩ := bS_inv hf
        refine jw_i (w1 := wX7 dA oa S102 (lT u100)) (noRun (vx_runSX (As := [.ref (oa 0)]) (rest := []) ⟨hx, hb, hml, hown, hts⟩ (m_L_execute l hl0 dC dI dA gz oa H.size (lT u100) S98  r101 S102 e103) (vx_cwSW 1 hts (gi_t bgI wd_623 wd_624 wd_0 wd_625) rfl rfl rfl hd3_L_execute ⟨Nat.le_of_ble_eq_true rfl, Nat.le_of_ble_eq_true rfl⟩) ⟨pL_blind, pL_of hC (pP_preW hP hD hS hA hK hN hZ)⟩ rfl rfl hl.1 rfl (lv_room (Nat.le_of_ble_eq_true rfl)) dL_law_169 ⟨Nat.le_of_ble_eq_true rfl, Nat.le_of_ble_eq_true rfl⟩)) hD hS hA (fun H locs hP hD hS => ?_)
        refine lv_pop hx hb dL_law_172 rfl ?_
        refine lv_aload_n hx hb dL_law_173 rfl (lv_at hl 2 rfl) ?_
        obtain ⟨r105, S106, e107, hf⟩ := bS_inv hf
        refine jE_l (ok := LNk) (w1 := fun u9 : LU => wX7 dA oa S106 (lT u9)) (va_runS (As := [.ref (oa 0)]) (rest := []) ⟨hx, hb, hml, hown, hts⟩ (m_L_digest l hl0 dC dI dA gz oa H.size u100 hu100 S102  r105 S106 e107) (cwS 1 hts (gi_s bgI wd_965 wd_966 wd_0 wd_967) rfl rfl rfl hd_L_digest ⟨Nat.le_of_ble_eq_true rfl, Nat.le_of_ble_eq_true rfl⟩) ⟨pL_blind, pL_of hC (pP_preW hP hD hS hA hK hN hZ)⟩ rfl rfl hl.1 rfl (lv_room (Nat.le_of_ble_eq_true rfl)) dL_law_174 ⟨Nat.le_of_ble_eq_true rfl, Nat.le_of_ble_eq_true rfl⟩) hD hS hA (fun u108 H locs hu108 hP hD hS => ?_)
        refine lv_lstore (lv' := [(4, .long r105), (3, .int r97), (0, .ref b), (1, .ref (oa 0)), (2, .int x2)]) hx hb dL_law_177 hl (by decide) rfl (fun ls hl => ?_)
        refine lv_aload_n hx hb dL_law_179 rfl (lv_at hl 3 rfl) ?_
        obtain ⟨r109, S110, e111, hf⟩ := bS_inv hf
        refine jw_i (w1 := wX7 dA oa S110 (lT u108)) (va_runV (As := []) (rest := []) ⟨hx, hb, hml, hown, hts⟩ (mt_X7_saveSnapshot l dC dI dA gz oa H.size (lT u108) S106  r109 S110 e111) (cwV 0 hts (gi_v bgI wd_312 wd_313 wd_314 wd_1 wd_315) rfl rfl rfl hd_X7_saveSnapshot ⟨Nat.le_of_ble_eq_true rfl, Nat.le_of_ble_eq_true rfl⟩) ⟨pP_blind, va_recv (ci := 11) (q0 := 0) hK hP rfl rfl, pP_preW hP hD hS hA hK hN hZ⟩ rfl rfl hl.1 rfl (lv_room (Nat.le_of_ble_eq_true rfl)) dL_law_180 ⟨Nat.le_of_ble_eq_true rfl, Nat.le_of_ble_eq_true rfl⟩) hD hS hA (fun H locs hP hD hS => ?_)
        refine lv_istore (lv' := [(6, .int r109), (4, .long r105), (3, .int r97), (0, .ref b), (1, .ref (oa 0)), (2, .int x2)]) hx hb dL_law_183 hl (by decide) rfl (fun ls hl => ?_)
        refine lv_iconst (v := 0) hx hb dL_law_185 (by decide) ?_
        refine lv_istore (lv' := [(7, .int 0), (6, .int r109), (4, .long r105), (3, .int r97), (0, .ref b), (1, .ref (oa 0)), (2, .int x2)]) hx hb dL_law_186 hl (by decide) rfl (fun ls hl => ?_)
        exact cut188 28 S110 u108 r97 r105 r109 0 48796 140901 _ _ _ hf hu108 (Nat.le_of_ble_eq_true rfl) (Nat.le_of_ble_eq_true rfl) hP hD hS (lv_sub hl [5, 3, 2, 1, 0] rfl)
      · have hf := ie q96 hf
        refine lv_aload_n hx hb dL_law_125 rfl (lv_at hl 1 rfl) ?_
        obtain ⟨r113, S114, e115, hf⟩ := bS_inv hf
        refine jE_l (ok := LNk) (w1 := fun u9 : LU => wX7 dA oa S114 (lT u9)) (va_runS (As := [.ref (oa 0)]) (rest := []) ⟨hx, hb, hml, hown, hts⟩ (m_L_digest l hl0 dC dI dA gz oa H.size u hu S  r113 S114 e115) (cwS 1 hts (gi_s bgI wd_965 wd_966 wd_0 wd_967) rfl rfl rfl hd_L_digest ⟨Nat.le_of_ble_eq_true rfl, Nat.le_of_ble_eq_true rfl⟩) ⟨pL_blind, pL_of hC (pP_preW hP hD hS hA hK hN hZ)⟩ rfl rfl hl.1 rfl (lv_room (Nat.le_of_ble_eq_true rfl)) dL_law_126 ⟨by (show _ ≤ 762793); omega, by (show _ ≤ 6803989); omega⟩) hD hS hA (fun u116 H locs hu116 hP hD hS => ?_)
        refine lv_lstore (lv' := [(4, .long r113), (0, .ref b), (1, .ref (oa 0)), (2, .int x2), (3, .int x3)]) hx hb dL_law_129 hl (by decide) rfl (fun ls hl => ?_)
        refine lv_aload_n hx hb dL_law_131 rfl (lv_at hl 2 rfl) ?_
        refine lv_aload_n hx hb dL_law_132 rfl (lv_at hl 1 rfl) ?_
        refine lv_iload_n hx hb dL_law_133 rfl (lv_at hl 4 rfl) ?_
        obtain ⟨r117, e118, hf⟩ := bd hf
        refine jc_i (va_runS (As := [.ref b, .int x3]) (rest := [.ref (oa 0)]) ⟨hx, hb, hml, hown, hts⟩ (m_L_cell l b L xs H.size x3 r117 e118) (cwS 2 hts (gi_s bgI wd_341 wd_342 wd_0 wd_343) rfl rfl rfl hd_L_cell ⟨Nat.le_of_ble_eq_true rfl, Nat.le_of_ble_eq_true rfl⟩) ⟨pC_blind, pC_pre hX hbl hbA hS⟩ rfl rfl hl.1 rfl (lv_room (Nat.le_of_ble_eq_true rfl)) dL_law_134 ⟨by (show _ ≤ 762793); omega, by (show _ ≤ 6803989); omega⟩) hP hS hA (fun H locs hP hS => ?_)
        obtain ⟨r119, S120, e121, hf⟩ := bS_inv hf
        refine jE_i (ok := LNk) (w1 := fun u9 : LU => wX7 dA oa S120 (lT u9)) (va_runS (As := [.ref (oa 0), .int r117]) (rest := []) ⟨hx, hb, hml, hown, hts⟩ (m_L_act l hl0 dC dI dA gz oa H.size u116 hu116 S114 r117 r119 S120 e121) (cwS 2 hts (gi_s bgI wd_893 wd_894 wd_0 wd_895) rfl rfl rfl hd_L_act ⟨Nat.le_of_ble_eq_true rfl, Nat.le_of_ble_eq_true rfl⟩) ⟨pL_blind, pL_of hC (pP_preW hP hD hS hA hK hN hZ)⟩ rfl rfl hl.1 rfl (lv_room (Nat.le_of_ble_eq_true rfl)) dL_law_137 ⟨by (show _ ≤ 762793); omega, by (show _ ≤ 6803989); omega⟩) hD hS hA (fun u122 H locs hu122 hP hD hS => ?_)
        refine lv_ldc hx hb (v := (-100000000)) hown (hts _ (bgI _ wd_350)) dL_law_140 ?_
        refine lv_icmp_ne (tgt := 157) hx hb dL_law_142 (by decide) (fun q123 => ?_) (fun q123 => ?_)
        · have hf := ie q123 hf
          refine lv_iinc (v := (x3 + 1)) (lv' := [(3, .int (x3 + 1)), (4, .long r113), (0, .ref b), (1, .ref (oa 0)), (2, .int x2)]) hx hb dL_law_157 hl (k := 4) rfl rfl (by decide) rfl (fun ls hl => ?_)
          refine lv_goto (tgt := 120) hx hb dL_law_160 (by decide) ?_
          exact ih S120 u122 x2 (x3 + 1) _ _ _ _ _ hf hu122 (by omega) (by omega) hP hD hS (lv_sub hl [2, 3, 4, 0] rfl)
        · have hf := it q123 hf
          refine lv_aload_n hx hb dL_law_145 rfl (lv_at hl 2 rfl) ?_
          obtain ⟨r124, S125, e126, hf⟩ := bS_inv hf
          refine jE_l (ok := LNk) (w1 := fun u9 : LU => wX7 dA oa S125 (lT u9)) (va_runS (As := [.ref (oa 0)]) (rest := []) ⟨hx, hb, hml, hown, hts⟩ (m_L_digest l hl0 dC dI dA gz oa H.size u122 hu122 S120  r124 S125 e126) (cwS 1 hts (gi_s bgI wd_965 wd_966 wd_0 wd_967) rfl rfl rfl hd_L_digest ⟨Nat.le_of_ble_eq_true rfl, Nat.le_of_ble_eq_true rfl⟩) ⟨pL_blind, pL_of hC (pP_preW hP hD hS hA hK hN hZ)⟩ rfl rfl hl.1 rfl (lv_room (Nat.le_of_ble_eq_true rfl)) dL_law_146 ⟨by (show _ ≤ 762793); omega, by (show _ ≤ 6803989); omega⟩) hD hS hA (fun u127 H locs hu127 hP hD hS => ?_)
          refine lv_lload hx hb dL_law_149 (lv_at hl 0 rfl) ?_
          refine W.lcmp hx hb dL_law_151 ?_
          refine lv_if_eq (tgt := 157) hx hb dL_law_152 (by decide) (fun q128 => ?_) (fun q128 => ?_)
          · have hf := it q128 hf
            refine lv_iinc (v := (x3 + 1)) (lv' := [(3, .int (x3 + 1)), (4, .long r113), (0, .ref b), (1, .ref (oa 0)), (2, .int x2)]) hx hb dL_law_157 hl (k := 4) rfl rfl (by decide) rfl (fun ls hl => ?_)
            refine lv_goto (tgt := 120) hx hb dL_law_160 (by decide) ?_
            exact ih S125 u127 x2 (x3 + 1) _ _ _ _ _ hf hu127 (by omega) (by omega) hP hD hS (lv_sub hl [2, 3, 4, 0] rfl)
          · have hf := ie q128 hf
            refine W.widen (k := 7015) (n := 42439) (by omega) (by omega) ?_
            refine lv_iconst (v := 0) hx hb dL_law_155 (by decide) ?_
            have e9 := sm hf
            refine W.widen (k := 762793) (n := 6803989) (Nat.le_of_ble_eq_true rfl) (Nat.le_of_ble_eq_true rfl) ?_
            refine va_forget (fun q hq => hAe _ (hS.2.2 q hq)) ?_
            exact absurd e9 (by decide)
  have cut10 : ∀ (n9 : Nat) (S : SX7) (u : LU) (x2 : Int32) (x9 y9 : Nat) (H : Heap) (locs : List Loc) (ls : Array Slot), f_L_law_10 L xs n9 S x2 = some 1 → LNk u → x9 + 2 * n9 ≤ 164 → y9 + 12 * n9 ≤ 1333 → va_P (dC, dI) vwCl (wX7 dA oa S (lT u)) H → va_D A (wX7 dA oa S (lT u)) → va_S A s.heap H locs → lv_has ls 9 [(0, .ref b), (1, .ref (oa 0)), (2, .int x2)] → W p l e room_1 s m #[Value.ref b] below meth c H locs (x9) (y9) (lw_Z below #[Value.ref b] s) (F0 m 10 ls []) := by
    intro n9
    induction n9 with
    | zero =>
      intro S u x2 x9 y9 H locs ls hf
      rw [f_L_law_10] at hf
      cases hf
    | succ n9 ih =>
      intro S u x2 x9 y9 H locs ls hf hu hx9 hy9 hP hD hS hl
      rw [f_L_law_10] at hf
      refine lv_iload_n hx hb dL_law_10 rfl (lv_at hl 2 rfl) ?_
      refine lv_iconst (v := 4) hx hb dL_law_11 (by decide) ?_
      refine lv_icmp_ge (tgt := 57) hx hb dL_law_12 (by decide) (fun q129 => ?_) (fun q129 => ?_)
      · have hf := it q129 hf
        refine W.widen (k := 164) (n := 1333) (by omega) (by omega) ?_
        refine lv_aload_n hx hb dL_law_57 rfl (lv_at hl 1 rfl) ?_
        refine lv_bipush (v := 30) hx hb dL_law_58 (by decide) ?_
        refine lv_aload_n hx hb dL_law_60 rfl (lv_at hl 0 rfl) ?_
        refine lv_iconst (v := 1) hx hb dL_law_61 (by decide) ?_
        obtain ⟨r130, e131, hf⟩ := bd hf
        refine jc_i (va_runS (As := [.ref b, .int 1]) (rest := [.int 30, .ref (oa 0)]) ⟨hx, hb, hml, hown, hts⟩ (m_L_cell l b L xs H.size 1 r130 e131) (cwS 2 hts (gi_s bgI wd_341 wd_342 wd_0 wd_343) rfl rfl rfl hd_L_cell ⟨Nat.le_of_ble_eq_true rfl, Nat.le_of_ble_eq_true rfl⟩) ⟨pC_blind, pC_pre hX hbl hbA hS⟩ rfl rfl hl.1 rfl (lv_room (Nat.le_of_ble_eq_true rfl)) dL_law_62 ⟨Nat.le_of_ble_eq_true rfl, Nat.le_of_ble_eq_true rfl⟩) hP hS hA (fun H locs hP hS => ?_)
        refine lv_iconst (v := 3) hx hb dL_law_65 (by decide) ?_
        refine lv_ishr hx hb dL_law_66 ?_
        refine lv_bipush (v := 63) hx hb dL_law_67 (by decide) ?_
        refine lv_iand hx hb dL_law_69 ?_
        refine lv_iadd hx hb dL_law_70 ?_
        obtain ⟨r132, S133, e134, hf⟩ := bS_inv hf
        refine jw_i (w1 := wX7 dA oa S133 (lT u)) (noRun (vx_runSX (As := [.ref (oa 0), .int (30 + ((r130 >>> ((3 : Int32) &&& 31)) &&& (63 : Int32)))]) (rest := []) ⟨hx, hb, hml, hown, hts⟩ (m_L_load l hl0 dC dI dA gz oa H.size (lT u) S (30 + ((r130 >>> ((3 : Int32) &&& 31)) &&& (63 : Int32))) r132 S133 e134) (vx_cwSW 2 hts (gi_t bgI wd_581 wd_582 wd_0 wd_583) rfl rfl rfl hd3_L_load ⟨Nat.le_of_ble_eq_true rfl, Nat.le_of_ble_eq_true rfl⟩) ⟨pL_blind, pL_of hC (pP_preW hP hD hS hA hK hN hZ)⟩ rfl rfl hl.1 rfl (lv_room (Nat.le_of_ble_eq_true rfl)) dL_law_71 ⟨Nat.le_of_ble_eq_true rfl, Nat.le_of_ble_eq_true rfl⟩)) hD hS hA (fun H locs hP hD hS => ?_)
        refine lv_pop hx hb dL_law_74 rfl ?_
        refine lv_aload_n hx hb dL_law_75 rfl (lv_at hl 1 rfl) ?_
        obtain ⟨r136, S137, e138, hf⟩ := bS_inv hf
        refine jw_i (w1 := wX7 dA oa S137 (lT u)) (noRun (vx_runSX (As := [.ref (oa 0)]) (rest := []) ⟨hx, hb, hml, hown, hts⟩ (m_L_start l hl0 dC dI dA gz oa H.size (lT u) S133  r136 S137 e138) (vx_cwSW 1 hts (gi_t bgI wd_493 wd_494 wd_0 wd_495) rfl rfl rfl hd3_L_start ⟨Nat.le_of_ble_eq_true rfl, Nat.le_of_ble_eq_true rfl⟩) ⟨pL_blind, pL_of hC (pP_preW hP hD hS hA hK hN hZ)⟩ rfl rfl hl.1 rfl (lv_room (Nat.le_of_ble_eq_true rfl)) dL_law_76 ⟨Nat.le_of_ble_eq_true rfl, Nat.le_of_ble_eq_true rfl⟩)) hD hS hA (fun H locs hP hD hS => ?_)
        refine lv_pop hx hb dL_law_79 rfl ?_
        refine lv_aload_n hx hb dL_law_80 rfl (lv_at hl 1 rfl) ?_
        refine lv_iconst (v := 1) hx hb dL_law_81 (by decide) ?_
        refine lv_aload_n hx hb dL_law_82 rfl (lv_at hl 0 rfl) ?_
        refine lv_iconst (v := 2) hx hb dL_law_83 (by decide) ?_
        obtain ⟨r140, e141, hf⟩ := bd hf
        refine jc_i (va_runS (As := [.ref b, .int 2]) (rest := [.int 1, .ref (oa 0)]) ⟨hx, hb, hml, hown, hts⟩ (m_L_cell l b L xs H.size 2 r140 e141) (cwS 2 hts (gi_s bgI wd_341 wd_342 wd_0 wd_343) rfl rfl rfl hd_L_cell ⟨Nat.le_of_ble_eq_true rfl, Nat.le_of_ble_eq_true rfl⟩) ⟨pC_blind, pC_pre hX hbl hbA hS⟩ rfl rfl hl.1 rfl (lv_room (Nat.le_of_ble_eq_true rfl)) dL_law_84 ⟨Nat.le_of_ble_eq_true rfl, Nat.le_of_ble_eq_true rfl⟩) hP hS hA (fun H locs hP hS => ?_)
        refine lv_iconst (v := 5) hx hb dL_law_87 (by decide) ?_
        refine lv_ishr hx hb dL_law_88 ?_
        refine lv_bipush (v := 15) hx hb dL_law_89 (by decide) ?_
        refine lv_iand hx hb dL_law_91 ?_
        refine lv_iadd hx hb dL_law_92 ?_
        obtain ⟨r142, S143, e144, hf⟩ := bS_inv hf
        refine jw_i (w1 := wX7 dA oa S143 (lT u)) (noRun (vx_runSX (As := [.ref (oa 0), .int (1 + ((r140 >>> ((5 : Int32) &&& 31)) &&& (15 : Int32)))]) (rest := []) ⟨hx, hb, hml, hown, hts⟩ (m_L_run l hl0 dC dI dA gz oa H.size (lT u) S137 (1 + ((r140 >>> ((5 : Int32) &&& 31)) &&& (15 : Int32))) r142 S143 e144) (vx_cwSW 2 hts (gi_t bgI wd_536 wd_537 wd_0 wd_538) rfl rfl rfl hd3_L_run ⟨Nat.le_of_ble_eq_true rfl, Nat.le_of_ble_eq_true rfl⟩) ⟨pL_blind, pL_of hC (pP_preW hP hD hS hA hK hN hZ)⟩ rfl rfl hl.1 rfl (lv_room (Nat.le_of_ble_eq_true rfl)) dL_law_93 ⟨Nat.le_of_ble_eq_true rfl, Nat.le_of_ble_eq_true rfl⟩)) hD hS hA (fun H locs hP hD hS => ?_)
        refine lv_pop hx hb dL_law_96 rfl ?_
        refine lv_aload_n hx hb dL_law_97 rfl (lv_at hl 1 rfl) ?_
        refine lv_iconst (v := 5) hx hb dL_law_98 (by decide) ?_
        obtain ⟨r146, S147, e148, hf⟩ := bS_inv hf
        refine jw_i (w1 := wX7 dA oa S147 (lT u)) (noRun (vx_runSX (As := [.ref (oa 0), .int 5]) (rest := []) ⟨hx, hb, hml, hown, hts⟩ (m_L_press l hl0 dC dI dA gz oa H.size (lT u) S143 5 r146 S147 e148) (vx_cwSW 2 hts (gi_t bgI wd_600 wd_601 wd_0 wd_602) rfl rfl rfl hd3_L_press ⟨Nat.le_of_ble_eq_true rfl, Nat.le_of_ble_eq_true rfl⟩) ⟨pL_blind, pL_of hC (pP_preW hP hD hS hA hK hN hZ)⟩ rfl rfl hl.1 rfl (lv_room (Nat.le_of_ble_eq_true rfl)) dL_law_99 ⟨Nat.le_of_ble_eq_true rfl, Nat.le_of_ble_eq_true rfl⟩)) hD hS hA (fun H locs hP hD hS => ?_)
        refine lv_pop hx hb dL_law_102 rfl ?_
        refine lv_aload_n hx hb dL_law_103 rfl (lv_at hl 0 rfl) ?_
        refine va_slen hx hb hX hbl hbA hS dL_law_104 ?_
        refine lv_bipush (v := 36) hx hb dL_law_105 (by decide) ?_
        refine lv_icmp_ge (tgt := 115) hx hb dL_law_107 (by decide) (fun q150 => ?_) (fun q150 => ?_)
        · have hf := it q150 hf
          refine lv_bipush (v := 36) hx hb dL_law_115 (by decide) ?_
          refine lv_istore_n (lv' := [(2, .int 36), (0, .ref b), (1, .ref (oa 0))]) hx hb dL_law_117 rfl hl (by decide) rfl (fun ls hl => ?_)
          refine lv_iconst (v := 0) hx hb dL_law_118 (by decide) ?_
          refine lv_istore_n (lv' := [(3, .int 0), (2, .int 36), (0, .ref b), (1, .ref (oa 0))]) hx hb dL_law_119 rfl hl (by decide) rfl (fun ls hl => ?_)
          exact cut120 37 S147 u 36 0 170 1369 _ _ _ hf hu (Nat.le_of_ble_eq_true rfl) (Nat.le_of_ble_eq_true rfl) hP hD hS (lv_sub hl [2, 3, 1, 0] rfl)
        · have hf := ie q150 hf
          refine lv_aload_n hx hb dL_law_110 rfl (lv_at hl 0 rfl) ?_
          refine va_slen hx hb hX hbl hbA hS dL_law_111 ?_
          refine lv_goto (tgt := 117) hx hb dL_law_112 (by decide) ?_
          refine lv_istore_n (lv' := [(2, .int (Int32.ofNat L)), (0, .ref b), (1, .ref (oa 0))]) hx hb dL_law_117 rfl hl (by decide) rfl (fun ls hl => ?_)
          refine lv_iconst (v := 0) hx hb dL_law_118 (by decide) ?_
          refine lv_istore_n (lv' := [(3, .int 0), (2, .int (Int32.ofNat L)), (0, .ref b), (1, .ref (oa 0))]) hx hb dL_law_119 rfl hl (by decide) rfl (fun ls hl => ?_)
          exact cut120 37 S147 u (Int32.ofNat L) 0 170 1369 _ _ _ hf hu (Nat.le_of_ble_eq_true rfl) (Nat.le_of_ble_eq_true rfl) hP hD hS (lv_sub hl [2, 3, 1, 0] rfl)
      · have hf := ie q129 hf
        refine lv_aload_n hx hb dL_law_15 rfl (lv_at hl 1 rfl) ?_
        refine my_ldcSw hx hb hown (hZ.1 34 (by decide)).1 dL_law_16 ?_
        refine lv_iload_n hx hb dL_law_19 rfl (lv_at hl 2 rfl) ?_
        obtain ⟨z151, hf⟩ := gd hf
        obtain ⟨z152, hf⟩ := gd hf
        refine jr_i (va_runV (As := [.int x2]) (rest := [.ref (oa 0)]) ⟨hx, hb, hml, hown, hts⟩ (m_J0_charAt_5068e l dC dI dA gz H.size 34 (Nat.lt_of_not_le z151) x2 z152 (sx_len _ (Nat.lt_of_not_le z151))) (cwV 1 hts (gi_v bgI wd_875 wd_668 wd_669 wd_11 wd_670) rfl rfl rfl hd_J0_charAt_5068e ⟨Nat.le_of_ble_eq_true rfl, Nat.le_of_ble_eq_true rfl⟩) ⟨pP_blind, vk_recv (i := 0) (hZ.1 34 (Nat.lt_of_not_le z151)).2 (by decide) hS, pP_pre hP hD hS hA hK hN hZ [] (by decide) rfl⟩ rfl rfl hl.1 rfl (lv_room (Nat.le_of_ble_eq_true rfl)) dL_law_20 ⟨by (show _ ≤ 762793); omega, by (show _ ≤ 6803989); omega⟩) hP hD hS hA [] rfl (fun H locs hP hS => ?_)
        refine lv_iconst (v := 1) hx hb dL_law_23 (by decide) ?_
        refine lv_aload_n hx hb dL_law_24 rfl (lv_at hl 0 rfl) ?_
        refine lv_iload_n hx hb dL_law_25 rfl (lv_at hl 2 rfl) ?_
        obtain ⟨r153, e154, hf⟩ := bd hf
        refine jc_i (va_runS (As := [.ref b, .int x2]) (rest := [.int 1, .int ((sx 34).getD x2.toNatClampNeg 0 &&& 255), .ref (oa 0)]) ⟨hx, hb, hml, hown, hts⟩ (m_L_cell l b L xs H.size x2 r153 e154) (cwS 2 hts (gi_s bgI wd_341 wd_342 wd_0 wd_343) rfl rfl rfl hd_L_cell ⟨Nat.le_of_ble_eq_true rfl, Nat.le_of_ble_eq_true rfl⟩) ⟨pC_blind, pC_pre hX hbl hbA hS⟩ rfl rfl hl.1 rfl (lv_room (Nat.le_of_ble_eq_true rfl)) dL_law_26 ⟨by (show _ ≤ 762793); omega, by (show _ ≤ 6803989); omega⟩) hP hS hA (fun H locs hP hS => ?_)
        refine lv_iconst (v := 4) hx hb dL_law_29 (by decide) ?_
        refine lv_ishr hx hb dL_law_30 ?_
        refine lv_bipush (v := 15) hx hb dL_law_31 (by decide) ?_
        refine lv_iand hx hb dL_law_33 ?_
        refine lv_iadd hx hb dL_law_34 ?_
        refine lv_iconst (v := 1) hx hb dL_law_35 (by decide) ?_
        refine lv_aload_n hx hb dL_law_36 rfl (lv_at hl 0 rfl) ?_
        refine lv_iload_n hx hb dL_law_37 rfl (lv_at hl 2 rfl) ?_
        obtain ⟨r155, e156, hf⟩ := bd hf
        refine jc_i (va_runS (As := [.ref b, .int x2]) (rest := [.int 1, .int (1 + ((r153 >>> ((4 : Int32) &&& 31)) &&& (15 : Int32))), .int ((sx 34).getD x2.toNatClampNeg 0 &&& 255), .ref (oa 0)]) ⟨hx, hb, hml, hown, hts⟩ (m_L_cell l b L xs H.size x2 r155 e156) (cwS 2 hts (gi_s bgI wd_341 wd_342 wd_0 wd_343) rfl rfl rfl hd_L_cell ⟨Nat.le_of_ble_eq_true rfl, Nat.le_of_ble_eq_true rfl⟩) ⟨pC_blind, pC_pre hX hbl hbA hS⟩ rfl rfl hl.1 rfl (lv_room (Nat.le_of_ble_eq_true rfl)) dL_law_38 ⟨by (show _ ≤ 762793); omega, by (show _ ≤ 6803989); omega⟩) hP hS hA (fun H locs hP hS => ?_)
        refine lv_bipush (v := 6) hx hb dL_law_41 (by decide) ?_
        refine lv_ishr hx hb dL_law_43 ?_
        refine lv_iconst (v := 3) hx hb dL_law_44 (by decide) ?_
        refine lv_iand hx hb dL_law_45 ?_
        refine lv_iadd hx hb dL_law_46 ?_
        obtain ⟨r157, S158, e159, hf⟩ := bS_inv hf
        refine jw_i (w1 := wX7 dA oa S158 (lT u)) (noRun (vx_runSX (As := [.ref (oa 0), .int ((sx 34).getD x2.toNatClampNeg 0 &&& 255), .int (1 + ((r153 >>> ((4 : Int32) &&& 31)) &&& (15 : Int32))), .int (1 + ((r155 >>> ((6 : Int32) &&& 31)) &&& (3 : Int32)))]) (rest := []) ⟨hx, hb, hml, hown, hts⟩ (m_L_addPhase l hl0 dC dI dA gz oa H.size (lT u) S ((sx 34).getD x2.toNatClampNeg 0 &&& 255) (1 + ((r153 >>> ((4 : Int32) &&& 31)) &&& (15 : Int32))) (1 + ((r155 >>> ((6 : Int32) &&& 31)) &&& (3 : Int32))) r157 S158 e159) (vx_cwSW 4 hts (gi_t bgI wd_345 wd_346 wd_0 wd_347) rfl rfl rfl hd3_L_addPhase ⟨Nat.le_of_ble_eq_true rfl, Nat.le_of_ble_eq_true rfl⟩) ⟨pL_blind, pL_of hC (pP_preW hP hD hS hA hK hN hZ)⟩ rfl rfl hl.1 rfl (lv_room (Nat.le_of_ble_eq_true rfl)) dL_law_47 ⟨by (show _ ≤ 762793); omega, by (show _ ≤ 6803989); omega⟩)) hD hS hA (fun H locs hP hD hS => ?_)
        refine lv_pop hx hb dL_law_50 rfl ?_
        refine lv_iinc (v := (x2 + 1)) (lv' := [(2, .int (x2 + 1)), (0, .ref b), (1, .ref (oa 0))]) hx hb dL_law_51 hl (k := 2) rfl rfl (by decide) rfl (fun ls hl => ?_)
        refine lv_goto (tgt := 10) hx hb dL_law_54 (by decide) ?_
        exact ih S158 u (x2 + 1) _ _ _ _ _ hf hu (by omega) (by omega) hP hD hS (lv_sub hl [1, 2, 0] rfl)
  rw [f_L_law] at hf
  refine lv_iconst (v := 0) hx hb dL_law_8 (by decide) ?_
  refine lv_istore_n (lv' := [(2, .int 0), (1, .ref (oa 0)), (0, .ref b)]) hx hb dL_law_9 rfl hl (by decide) rfl (fun ls hl => ?_)
  exact cut10 5 S u0 0 154 1273 _ _ _ hf hu0 (Nat.le_of_ble_eq_true rfl) (Nat.le_of_ble_eq_true rfl) hP hD hS (lv_sub hl [2, 1, 0] rfl)
