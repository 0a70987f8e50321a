/-! L_digest -/
def f_L_digest_184  : Nat → SX7 → Int64 → Int32 → Option (Int64 × SX7)
  | 0, _, _, _ => none
  | n9 + 1, S, x1, x3 =>
  (g_X7_patCount S).bind fun r1 =>
  (if r1 ≤ x3 then some (x1, S) else
  bT (g_X7_patMass S x3) fun r6 S7 =>
  bT (g_X7_patTemperature S7 x3) fun r10 S11 =>
  bT (g_X7_cracks S11 x3) fun r14 S15 =>
  bT (g_X7_firmness S15 x3) fun r18 S19 =>
  f_L_digest_184 n9 S19 ((31 * ((31 * ((31 * ((31 * x1) + r6.toInt64)) + r10.toInt64)) + r14.toInt64)) + r18.toInt64) (x3 + 1))
def f_L_digest_144  : Nat → SX7 → Int64 → Int32 → Option (Int64 × SX7)
  | 0, _, _, _ => none
  | n9 + 1, S, x1, x3 =>
  (g_X7_phaseCount S).bind fun r22 =>
  (if r22 ≤ x3 then f_L_digest_184 13 S x1 0 else
  bT (g_X7_phaseKind S x3) fun r27 S28 =>
  bT (g_X7_phaseMinutes S28 x3) fun r31 S32 =>
  f_L_digest_144 n9 S32 ((31 * ((31 * x1) + r27.toInt64)) + r31.toInt64) (x3 + 1))
def f_L_digest_83  : Nat → SX7 → Int64 → Int32 → Option (Int64 × SX7)
  | 0, _, _, _ => none
  | n9 + 1, S, x1, x3 =>
  (if 101 < x3 then (g_X7_phaseCount S).bind fun r36 =>
  bS (f_L_presentPhase S) fun r40 S41 =>
  bS (g_X7_minutesLeft S41) fun r44 S45 =>
  f_L_digest_144 9 S45 ((31 * ((31 * ((31 * x1) + r36.toInt64)) + r40.toInt64)) + r44.toInt64) 0 else
  bT (g_X7_gradedCount S x3) fun r48 S49 =>
  f_L_digest_83 n9 S49 ((31 * x1) + r48.toInt64) (((x3 + 1).toUInt32 % 65536).toInt32))
def f_L_digest (S : SX7)  : Option (Int64 × SX7) :=
  (g_X7_minute S).bind fun r52 =>
  (g_X7_mass S).bind fun r56 =>
  (g_X7_temperature S).bind fun r60 =>
  (g_X7_smoothness S).bind fun r64 =>
  (g_X7_stress S).bind fun r68 =>
  (g_X7_finishedCycles S).bind fun r72 =>
  (g_X7_loadedMass S).bind fun r76 =>
  (g_X7_gradedMass S).bind fun r80 =>
  f_L_digest_83 6 S ((((((((7 * r52.toInt64) + (11 * r56.toInt64)) + (13 * r60.toInt64)) + (17 * r64.toInt64)) + (19 * r68.toInt64)) + (23 * r72.toInt64)) + (29 * r76.toInt64)) + (31 * r80.toInt64)) 97
set_option maxRecDepth 100000 in
set_option maxHeartbeats 8000000 in
theorem m_L_digest (l : Launch) (hl0 : l.stackTraces = false) (dC : Nat → ClassId) (dI : Nat → Nat → Nat) (dA gz : Nat → Nat) (oa : Nat → Nat) (sz : Nat) (u0 : LU) (hu0 : LNk u0) (S : SX7)  (rr : Int64) (uu : SX7) (hf : f_L_digest S  = some (rr, uu)) : Met l yL_digest ws_L_digest ({ frames := 30, cells := 77, slots := 462, locals := 1200 } : Room) (va_Pc [.ref (oa 0)] (pL (dC, dI) dA gz (wX7 dA oa S (lT u0)) sz)) (va_Ql (S := LU) (fun r' u => r' = rr ∧ LNk u) (fun u t => pQ (dC, dI) (va_A (wX7 dA oa S (lT u0)) sz) (wX7 dA oa uu (lT u)) t) (va_A (wX7 dA oa S (lT u0)) sz)) 77 462 (va_A (wX7 dA oa S (lT u0)) sz) := by
  refine Met.ofW (cc := cL_digest) (maxL := 4) (ret := (some .long)) (by decide) rfl ?_
  intro p e s m args below meth c s₁ B hml hv
  obtain ⟨rfl, ⟨hsz, hP, hK, hD0, hN, hZ⟩, hC⟩ := hv
  have hx := B.exec
  have hb := B.bytes
  have hr := B.returns
  have hts := atoms_spec (ws := ws_L_digest) B.pre
  have hown : s.vm.findClass RL = some m.cls := findClass_of_methodNamed B.named
  have hlocks := B.notSynchronized
  subst hsz
  have hD := hD0.self (sz := s.heap.size)
  generalize hAe : va_A (wX7 dA oa S (lT u0)) s.heap.size = A at hD hZ ⊢
  have hA : ∀ q : Nat, s.heap.size ≤ q → A q := fun q h => by rw [← hAe]; exact Or.inr h
  have hS : va_S A s.heap s.heap [] := va_S.rf
  have hl := lv_entry [.ref (oa 0)] (n := 4) (Nat.le_of_ble_eq_true rfl)
  rw [lg_entry_eq]
  generalize (lg_sl [.ref (oa 0)] ++ List.replicate (4 - (lg_sl [.ref (oa 0)]).length) Slot.unset).toArray = ls at hl ⊢
  have hl : lv_has ls 4 [(0, .ref (oa 0))] := hl
  have cut184 : ∀ (n9 : Nat) (S : SX7) (u : LU) (x1 : Int64) (x3 : Int32) (x9 y9 : Nat) (H : Heap) (locs : List Loc) (ls : Array Slot), f_L_digest_184 n9 S x1 x3 = some (rr, uu) → LNk u → x9 + 4 * n9 ≤ 77 → y9 + 24 * n9 ≤ 462 → va_P (dC, dI) vwCl (wX7 dA oa S (lT u)) H → va_D A (wX7 dA oa S (lT u)) → va_S A s.heap H locs → lv_has ls 4 [(0, .ref (oa 0)), (1, .long x1), (3, .int x3)] → W p l e (headSpec ws_L_digest ({ frames := 30, cells := 77, slots := 462, locals := 1200 } : Room)).room s m ([.ref (oa 0)] : List Value).toArray below meth c H locs (x9) (y9) (MQ below (va_Ql (S := LU) (fun r' u => r' = rr ∧ LNk u) (fun u t => pQ (dC, dI) A (wX7 dA oa uu (lT u)) t) A) ([.ref (oa 0)] : List Value).toArray s 77 462 A) (F0 m 184 ls []) := by
    intro n9
    induction n9 with
    | zero =>
      intro S u x1 x3 x9 y9 H locs ls hf
      rw [f_L_digest_184] at hf
      cases hf
    | succ n9 ih =>
      intro S u x1 x3 x9 y9 H locs ls hf hu hx9 hy9 hP hD hS hl
      rw [f_L_digest_184] at hf
      refine lv_iload_n hx hb dL_digest_184 rfl (lv_at hl 2 rfl) ?_
      refine lv_aload_n hx hb dL_digest_185 rfl (lv_at hl 0 rfl) ?_
      obtain ⟨r1, e3, hf⟩ := bd hf
      refine jw_i (w1 := wX7 dA oa S (lT u)) (va_runV (As := []) (rest := [.int x3]) ⟨hx, hb, hml, hown, hts⟩ (mt_X7_patCount l dC dI dA gz oa H.size (lT u) S  r1 e3) (cwV 0 hts (gi_v bg wd_1046 wd_1047 wd_1048 wd_1 wd_1049) rfl rfl rfl hd_X7_patCount ⟨Nat.le_of_ble_eq_true rfl, Nat.le_of_ble_eq_true rfl⟩) ⟨pP_blind, va_recv (ci := 11) (q0 := 0) hK hP rfl rfl, pP_preW hP hD hS hA hK hN hZ⟩ rfl rfl hl.1 rfl (lv_room (Nat.le_of_ble_eq_true rfl)) dL_digest_186 ⟨by (show _ ≤ 77); (try dsimp only); omega, by (show _ ≤ 462); (try dsimp only); omega⟩) hD hS hA (fun H locs hP hD hS => ?_)
      refine lv_icmp_ge (tgt := 244) hx hb dL_digest_189 (by decide) (fun q5 => ?_) (fun q5 => ?_)
      · have hf := it q5 hf
        refine W.widen (k := 77) (n := 462) (by (try dsimp only); omega) (by (try dsimp only); omega) ?_
        refine lv_lload_n hx hb dL_digest_244 rfl (lv_at hl 1 rfl) ?_
        obtain ⟨e8, e9⟩ := Prod.mk.inj (sm hf)
        exact W.lret hx hb hr (fun t ht hW => ⟨⟨_, u, rfl, ⟨e8, hu⟩, by rw [← e9, ht]; exact hP, by rw [← e9]; exact hD⟩, hS.F ht⟩) hS.2.2 dL_digest_245
      · have hf := ie q5 hf
        refine lv_ldc2 hx hb (v := 31) hown (hts _ (bg _ wd_1003)) dL_digest_192 ?_
        refine lv_ldc2 hx hb (v := 31) hown (hts _ (bg _ wd_1003)) dL_digest_195 ?_
        refine lv_ldc2 hx hb (v := 31) hown (hts _ (bg _ wd_1003)) dL_digest_198 ?_
        refine lv_ldc2 hx hb (v := 31) hown (hts _ (bg _ wd_1003)) dL_digest_201 ?_
        refine lv_lload_n hx hb dL_digest_204 rfl (lv_at hl 1 rfl) ?_
        refine lv_lmul hx hb dL_digest_205 ?_
        refine lv_aload_n hx hb dL_digest_206 rfl (lv_at hl 0 rfl) ?_
        refine lv_iload_n hx hb dL_digest_207 rfl (lv_at hl 2 rfl) ?_
        obtain ⟨r6, S7, e8, hf⟩ := bT_inv hf
        refine jx_i (w1 := wX7 dA oa S7 (lT u)) (vx_runV (As := [.int x3]) (rest := [.long (31 * x1), .long 31, .long 31, .long 31]) ⟨hx, hb, hml, hown, hts⟩ (mt_X7_patMass l hl0 dC dI dA gz oa H.size (lT u) S x3 (.inl r6) S7 e8) (cwV 1 hts (gi_v bg wd_1050 wd_1051 wd_1052 wd_1 wd_1053) rfl rfl rfl hd_X7_patMass ⟨Nat.le_of_ble_eq_true rfl, Nat.le_of_ble_eq_true rfl⟩) ⟨pP_blind, va_recv (ci := 11) (q0 := 0) hK hP rfl rfl, pP_preW hP hD hS hA hK hN hZ⟩ rfl rfl hl.1 rfl (lv_room (Nat.le_of_ble_eq_true rfl)) dL_digest_208 ⟨by (show _ ≤ 77); (try dsimp only); omega, by (show _ ≤ 462); (try dsimp only); omega⟩) hD hS hA (fun E ce q9 H locs h9 _ _ _ _ _ _ => nomatch h9) (fun r9 H locs h9 hP hD hS => ?_)
        cases h9
        refine lv_i2l (v := r6.toInt64) hx hb dL_digest_211 rfl ?_
        refine lv_ladd hx hb dL_digest_212 ?_
        refine lv_lmul hx hb dL_digest_213 ?_
        refine lv_aload_n hx hb dL_digest_214 rfl (lv_at hl 0 rfl) ?_
        refine lv_iload_n hx hb dL_digest_215 rfl (lv_at hl 2 rfl) ?_
        obtain ⟨r10, S11, e12, hf⟩ := bT_inv hf
        refine jx_i (w1 := wX7 dA oa S11 (lT u)) (vx_runV (As := [.int x3]) (rest := [.long (31 * ((31 * x1) + r6.toInt64)), .long 31, .long 31]) ⟨hx, hb, hml, hown, hts⟩ (mt_X7_patTemperature l hl0 dC dI dA gz oa H.size (lT u) S7 x3 (.inl r10) S11 e12) (cwV 1 hts (gi_v bg wd_1060 wd_1061 wd_1062 wd_1 wd_1063) rfl rfl rfl hd_X7_patTemperature ⟨Nat.le_of_ble_eq_true rfl, Nat.le_of_ble_eq_true rfl⟩) ⟨pP_blind, va_recv (ci := 11) (q0 := 0) hK hP rfl rfl, pP_preW hP hD hS hA hK hN hZ⟩ rfl rfl hl.1 rfl (lv_room (Nat.le_of_ble_eq_true rfl)) dL_digest_216 ⟨by (show _ ≤ 77); (try dsimp only); omega, by (show _ ≤ 462); (try dsimp only); omega⟩) hD hS hA (fun E ce q9 H locs h9 _ _ _ _ _ _ => nomatch h9) (fun r9 H locs h9 hP hD hS => ?_)
        cases h9
        refine lv_i2l (v := r10.toInt64) hx hb dL_digest_219 rfl ?_
        refine lv_ladd hx hb dL_digest_220 ?_
        refine lv_lmul hx hb dL_digest_221 ?_
        refine lv_aload_n hx hb dL_digest_222 rfl (lv_at hl 0 rfl) ?_
        refine lv_iload_n hx hb dL_digest_223 rfl (lv_at hl 2 rfl) ?_
        obtain ⟨r14, S15, e16, hf⟩ := bT_inv hf
        refine jx_i (w1 := wX7 dA oa S15 (lT u)) (vx_runV (As := [.int x3]) (rest := [.long (31 * ((31 * ((31 * x1) + r6.toInt64)) + r10.toInt64)), .long 31]) ⟨hx, hb, hml, hown, hts⟩ (mt_X7_cracks l hl0 dC dI dA gz oa H.size (lT u) S11 x3 (.inl r14) S15 e16) (cwV 1 hts (gi_v bg wd_1064 wd_1065 wd_1066 wd_1 wd_1067) rfl rfl rfl hd_X7_cracks ⟨Nat.le_of_ble_eq_true rfl, Nat.le_of_ble_eq_true rfl⟩) ⟨pP_blind, va_recv (ci := 11) (q0 := 0) hK hP rfl rfl, pP_preW hP hD hS hA hK hN hZ⟩ rfl rfl hl.1 rfl (lv_room (Nat.le_of_ble_eq_true rfl)) dL_digest_224 ⟨by (show _ ≤ 77); (try dsimp only); omega, by (show _ ≤ 462); (try dsimp only); omega⟩) hD hS hA (fun E ce q9 H locs h9 _ _ _ _ _ _ => nomatch h9) (fun r9 H locs h9 hP hD hS => ?_)
        cases h9
        refine lv_i2l (v := r14.toInt64) hx hb dL_digest_227 rfl ?_
        refine lv_ladd hx hb dL_digest_228 ?_
        refine lv_lmul hx hb dL_digest_229 ?_
        refine lv_aload_n hx hb dL_digest_230 rfl (lv_at hl 0 rfl) ?_
        refine lv_iload_n hx hb dL_digest_231 rfl (lv_at hl 2 rfl) ?_
        obtain ⟨r18, S19, e20, hf⟩ := bT_inv hf
        refine jx_i (w1 := wX7 dA oa S19 (lT u)) (vx_runV (As := [.int x3]) (rest := [.long (31 * ((31 * ((31 * ((31 * x1) + r6.toInt64)) + r10.toInt64)) + r14.toInt64))]) ⟨hx, hb, hml, hown, hts⟩ (mt_X7_firmness l hl0 dC dI dA gz oa H.size (lT u) S15 x3 (.inl r18) S19 e20) (cwV 1 hts (gi_v bg wd_1068 wd_1069 wd_1070 wd_1 wd_1071) rfl rfl rfl hd_X7_firmness ⟨Nat.le_of_ble_eq_true rfl, Nat.le_of_ble_eq_true rfl⟩) ⟨pP_blind, va_recv (ci := 11) (q0 := 0) hK hP rfl rfl, pP_preW hP hD hS hA hK hN hZ⟩ rfl rfl hl.1 rfl (lv_room (Nat.le_of_ble_eq_true rfl)) dL_digest_232 ⟨by (show _ ≤ 77); (try dsimp only); omega, by (show _ ≤ 462); (try dsimp only); omega⟩) hD hS hA (fun E ce q9 H locs h9 _ _ _ _ _ _ => nomatch h9) (fun r9 H locs h9 hP hD hS => ?_)
        cases h9
        refine lv_i2l (v := r18.toInt64) hx hb dL_digest_235 rfl ?_
        refine lv_ladd hx hb dL_digest_236 ?_
        refine lv_lstore_n (lv' := [(1, .long ((31 * ((31 * ((31 * ((31 * x1) + r6.toInt64)) + r10.toInt64)) + r14.toInt64)) + r18.toInt64)), (0, .ref (oa 0)), (3, .int x3)]) hx hb dL_digest_237 rfl hl (by decide) rfl (fun ls hl => ?_)
        refine lv_iinc (v := (x3 + 1)) (lv' := [(3, .int (x3 + 1)), (1, .long ((31 * ((31 * ((31 * ((31 * x1) + r6.toInt64)) + r10.toInt64)) + r14.toInt64)) + r18.toInt64)), (0, .ref (oa 0))]) hx hb dL_digest_238 hl (k := 2) rfl rfl (by decide) rfl (fun ls hl => ?_)
        refine lv_goto (tgt := 184) hx hb dL_digest_241 (by decide) ?_
        exact ih S19 u ((31 * ((31 * ((31 * ((31 * x1) + r6.toInt64)) + r10.toInt64)) + r14.toInt64)) + r18.toInt64) (x3 + 1) _ _ _ _ _ hf hu (by (try dsimp only); omega) (by (try dsimp only); omega) hP hD hS (lv_sub hl [2, 1, 0] rfl)
  have cut144 : ∀ (n9 : Nat) (S : SX7) (u : LU) (x1 : Int64) (x3 : Int32) (x9 y9 : Nat) (H : Heap) (locs : List Loc) (ls : Array Slot), f_L_digest_144 n9 S x1 x3 = some (rr, uu) → LNk u → x9 + 2 * n9 ≤ 25 → y9 + 12 * n9 ≤ 150 → va_P (dC, dI) vwCl (wX7 dA oa S (lT u)) H → va_D A (wX7 dA oa S (lT u)) → va_S A s.heap H locs → lv_has ls 4 [(0, .ref (oa 0)), (1, .long x1), (3, .int x3)] → W p l e (headSpec ws_L_digest ({ frames := 30, cells := 77, slots := 462, locals := 1200 } : Room)).room s m ([.ref (oa 0)] : List Value).toArray below meth c H locs (x9) (y9) (MQ below (va_Ql (S := LU) (fun r' u => r' = rr ∧ LNk u) (fun u t => pQ (dC, dI) A (wX7 dA oa uu (lT u)) t) A) ([.ref (oa 0)] : List Value).toArray s 77 462 A) (F0 m 144 ls []) := by
    intro n9
    induction n9 with
    | zero =>
      intro S u x1 x3 x9 y9 H locs ls hf
      rw [f_L_digest_144] at hf
      cases hf
    | succ n9 ih =>
      intro S u x1 x3 x9 y9 H locs ls hf hu hx9 hy9 hP hD hS hl
      rw [f_L_digest_144] at hf
      refine lv_iload_n hx hb dL_digest_144 rfl (lv_at hl 2 rfl) ?_
      refine lv_aload_n hx hb dL_digest_145 rfl (lv_at hl 0 rfl) ?_
      obtain ⟨r22, e24, hf⟩ := bd hf
      refine jw_i (w1 := wX7 dA oa S (lT u)) (va_runV (As := []) (rest := [.int x3]) ⟨hx, hb, hml, hown, hts⟩ (mt_X7_phaseCount l dC dI dA gz oa H.size (lT u) S  r22 e24) (cwV 0 hts (gi_v bg wd_1014 wd_1015 wd_1016 wd_1 wd_1017) rfl rfl rfl hd_X7_phaseCount ⟨Nat.le_of_ble_eq_true rfl, Nat.le_of_ble_eq_true rfl⟩) ⟨pP_blind, va_recv (ci := 11) (q0 := 0) hK hP rfl rfl, pP_preW hP hD hS hA hK hN hZ⟩ rfl rfl hl.1 rfl (lv_room (Nat.le_of_ble_eq_true rfl)) dL_digest_146 ⟨by (show _ ≤ 77); (try dsimp only); omega, by (show _ ≤ 462); (try dsimp only); omega⟩) hD hS hA (fun H locs hP hD hS => ?_)
      refine lv_icmp_ge (tgt := 182) hx hb dL_digest_149 (by decide) (fun q26 => ?_) (fun q26 => ?_)
      · have hf := it q26 hf
        refine W.widen (k := 25) (n := 150) (by (try dsimp only); omega) (by (try dsimp only); omega) ?_
        refine lv_iconst (v := 0) hx hb dL_digest_182 (by decide) ?_
        refine lv_istore_n (lv' := [(3, .int 0), (0, .ref (oa 0)), (1, .long x1)]) hx hb dL_digest_183 rfl hl (by decide) rfl (fun ls hl => ?_)
        exact cut184 13 S u x1 0 25 150 _ _ _ hf hu (Nat.le_of_ble_eq_true rfl) (Nat.le_of_ble_eq_true rfl) hP hD hS (lv_sub hl [1, 2, 0] rfl)
      · have hf := ie q26 hf
        refine lv_ldc2 hx hb (v := 31) hown (hts _ (bg _ wd_1003)) dL_digest_152 ?_
        refine lv_ldc2 hx hb (v := 31) hown (hts _ (bg _ wd_1003)) dL_digest_155 ?_
        refine lv_lload_n hx hb dL_digest_158 rfl (lv_at hl 1 rfl) ?_
        refine lv_lmul hx hb dL_digest_159 ?_
        refine lv_aload_n hx hb dL_digest_160 rfl (lv_at hl 0 rfl) ?_
        refine lv_iload_n hx hb dL_digest_161 rfl (lv_at hl 2 rfl) ?_
        obtain ⟨r27, S28, e29, hf⟩ := bT_inv hf
        refine jx_i (w1 := wX7 dA oa S28 (lT u)) (vx_runV (As := [.int x3]) (rest := [.long (31 * x1), .long 31]) ⟨hx, hb, hml, hown, hts⟩ (mt_X7_phaseKind l hl0 dC dI dA gz oa H.size (lT u) S x3 (.inl r27) S28 e29) (cwV 1 hts (gi_v bg wd_1032 wd_1033 wd_1034 wd_1 wd_1035) rfl rfl rfl hd_X7_phaseKind ⟨Nat.le_of_ble_eq_true rfl, Nat.le_of_ble_eq_true rfl⟩) ⟨pP_blind, va_recv (ci := 11) (q0 := 0) hK hP rfl rfl, pP_preW hP hD hS hA hK hN hZ⟩ rfl rfl hl.1 rfl (lv_room (Nat.le_of_ble_eq_true rfl)) dL_digest_162 ⟨by (show _ ≤ 77); (try dsimp only); omega, by (show _ ≤ 462); (try dsimp only); omega⟩) hD hS hA (fun E ce q9 H locs h9 _ _ _ _ _ _ => nomatch h9) (fun r9 H locs h9 hP hD hS => ?_)
        cases h9
        refine lv_i2l (v := r27.toInt64) hx hb dL_digest_165 rfl ?_
        refine lv_ladd hx hb dL_digest_166 ?_
        refine lv_lmul hx hb dL_digest_167 ?_
        refine lv_aload_n hx hb dL_digest_168 rfl (lv_at hl 0 rfl) ?_
        refine lv_iload_n hx hb dL_digest_169 rfl (lv_at hl 2 rfl) ?_
        obtain ⟨r31, S32, e33, hf⟩ := bT_inv hf
        refine jx_i (w1 := wX7 dA oa S32 (lT u)) (vx_runV (As := [.int x3]) (rest := [.long (31 * ((31 * x1) + r27.toInt64))]) ⟨hx, hb, hml, hown, hts⟩ (mt_X7_phaseMinutes l hl0 dC dI dA gz oa H.size (lT u) S28 x3 (.inl r31) S32 e33) (cwV 1 hts (gi_v bg wd_1042 wd_1043 wd_1044 wd_1 wd_1045) rfl rfl rfl hd_X7_phaseMinutes ⟨Nat.le_of_ble_eq_true rfl, Nat.le_of_ble_eq_true rfl⟩) ⟨pP_blind, va_recv (ci := 11) (q0 := 0) hK hP rfl rfl, pP_preW hP hD hS hA hK hN hZ⟩ rfl rfl hl.1 rfl (lv_room (Nat.le_of_ble_eq_true rfl)) dL_digest_170 ⟨by (show _ ≤ 77); (try dsimp only); omega, by (show _ ≤ 462); (try dsimp only); omega⟩) hD hS hA (fun E ce q9 H locs h9 _ _ _ _ _ _ => nomatch h9) (fun r9 H locs h9 hP hD hS => ?_)
        cases h9
        refine lv_i2l (v := r31.toInt64) hx hb dL_digest_173 rfl ?_
        refine lv_ladd hx hb dL_digest_174 ?_
        refine lv_lstore_n (lv' := [(1, .long ((31 * ((31 * x1) + r27.toInt64)) + r31.toInt64)), (0, .ref (oa 0)), (3, .int x3)]) hx hb dL_digest_175 rfl hl (by decide) rfl (fun ls hl => ?_)
        refine lv_iinc (v := (x3 + 1)) (lv' := [(3, .int (x3 + 1)), (1, .long ((31 * ((31 * x1) + r27.toInt64)) + r31.toInt64)), (0, .ref (oa 0))]) hx hb dL_digest_176 hl (k := 2) rfl rfl (by decide) rfl (fun ls hl => ?_)
        refine lv_goto (tgt := 144) hx hb dL_digest_179 (by decide) ?_
        exact ih S32 u ((31 * ((31 * x1) + r27.toInt64)) + r31.toInt64) (x3 + 1) _ _ _ _ _ hf hu (by (try dsimp only); omega) (by (try dsimp only); omega) hP hD hS (lv_sub hl [2, 1, 0] rfl)
  have cut83 : ∀ (n9 : Nat) (S : SX7) (u : LU) (x1 : Int64) (x3 : Int32) (x9 y9 : Nat) (H : Heap) (locs : List Loc) (ls : Array Slot), f_L_digest_83 n9 S x1 x3 = some (rr, uu) → LNk u → x9 + 1 * n9 ≤ 6 → y9 + 6 * n9 ≤ 36 → va_P (dC, dI) vwCl (wX7 dA oa S (lT u)) H → va_D A (wX7 dA oa S (lT u)) → va_S A s.heap H locs → lv_has ls 4 [(0, .ref (oa 0)), (1, .long x1), (3, .int x3)] → W p l e (headSpec ws_L_digest ({ frames := 30, cells := 77, slots := 462, locals := 1200 } : Room)).room s m ([.ref (oa 0)] : List Value).toArray below meth c H locs (x9) (y9) (MQ below (va_Ql (S := LU) (fun r' u => r' = rr ∧ LNk u) (fun u t => pQ (dC, dI) A (wX7 dA oa uu (lT u)) t) A) ([.ref (oa 0)] : List Value).toArray s 77 462 A) (F0 m 83 ls []) := by
    intro n9
    induction n9 with
    | zero =>
      intro S u x1 x3 x9 y9 H locs ls hf
      rw [f_L_digest_83] at hf
      cases hf
    | succ n9 ih =>
      intro S u x1 x3 x9 y9 H locs ls hf hu hx9 hy9 hP hD hS hl
      rw [f_L_digest_83] at hf
      refine lv_iload_n hx hb dL_digest_83 rfl (lv_at hl 2 rfl) ?_
      refine lv_bipush (v := 101) hx hb dL_digest_84 (by decide) ?_
      refine lv_icmp_gt (tgt := 110) hx hb dL_digest_86 (by decide) (fun q35 => ?_) (fun q35 => ?_)
      · have hf := it q35 hf
        refine W.widen (k := 6) (n := 36) (by (try dsimp only); omega) (by (try dsimp only); omega) ?_
        refine lv_ldc2 hx hb (v := 31) hown (hts _ (bg _ wd_1003)) dL_digest_110 ?_
        refine lv_ldc2 hx hb (v := 31) hown (hts _ (bg _ wd_1003)) dL_digest_113 ?_
        refine lv_ldc2 hx hb (v := 31) hown (hts _ (bg _ wd_1003)) dL_digest_116 ?_
        refine lv_lload_n hx hb dL_digest_119 rfl (lv_at hl 1 rfl) ?_
        refine lv_lmul hx hb dL_digest_120 ?_
        refine lv_aload_n hx hb dL_digest_121 rfl (lv_at hl 0 rfl) ?_
        obtain ⟨r36, e38, hf⟩ := bd hf
        refine jw_i (w1 := wX7 dA oa S (lT u)) (va_runV (As := []) (rest := [.long (31 * x1), .long 31, .long 31]) ⟨hx, hb, hml, hown, hts⟩ (mt_X7_phaseCount l dC dI dA gz oa H.size (lT u) S  r36 e38) (cwV 0 hts (gi_v bg wd_1014 wd_1015 wd_1016 wd_1 wd_1017) rfl rfl rfl hd_X7_phaseCount ⟨Nat.le_of_ble_eq_true rfl, Nat.le_of_ble_eq_true rfl⟩) ⟨pP_blind, va_recv (ci := 11) (q0 := 0) hK hP rfl rfl, pP_preW hP hD hS hA hK hN hZ⟩ rfl rfl hl.1 rfl (lv_room (Nat.le_of_ble_eq_true rfl)) dL_digest_122 ⟨Nat.le_of_ble_eq_true rfl, Nat.le_of_ble_eq_true rfl⟩) hD hS hA (fun H locs hP hD hS => ?_)
        refine lv_i2l (v := r36.toInt64) hx hb dL_digest_125 rfl ?_
        refine lv_ladd hx hb dL_digest_126 ?_
        refine lv_lmul hx hb dL_digest_127 ?_
        refine lv_aload_n hx hb dL_digest_128 rfl (lv_at hl 0 rfl) ?_
        obtain ⟨r40, S41, e42, hf⟩ := bS_inv hf
        refine jw_i (w1 := wX7 dA oa S41 (lT u)) (noRun (vx_runSX (As := [.ref (oa 0)]) (rest := [.long (31 * ((31 * x1) + r36.toInt64)), .long 31]) ⟨hx, hb, hml, hown, hts⟩ (m_L_presentPhase l hl0 dC dI dA gz oa H.size (lT u) S  r40 S41 e42) (vx_cwSW 1 hts (gi_t bg wd_1018 wd_1019 wd_0 wd_1020) rfl rfl rfl hd3_L_presentPhase ⟨Nat.le_of_ble_eq_true rfl, Nat.le_of_ble_eq_true rfl⟩) ⟨pL_blind, pL_of hC (pP_preW hP hD hS hA hK hN hZ)⟩ rfl rfl hl.1 rfl (lv_room (Nat.le_of_ble_eq_true rfl)) dL_digest_129 ⟨Nat.le_of_ble_eq_true rfl, Nat.le_of_ble_eq_true rfl⟩)) hD hS hA (fun H locs hP hD hS => ?_)
        refine lv_i2l (v := r40.toInt64) hx hb dL_digest_132 rfl ?_
        refine lv_ladd hx hb dL_digest_133 ?_
        refine lv_lmul hx hb dL_digest_134 ?_
        refine lv_aload_n hx hb dL_digest_135 rfl (lv_at hl 0 rfl) ?_
        obtain ⟨r44, S45, e46, hf⟩ := bS_inv hf
        refine jw_i (w1 := wX7 dA oa S45 (lT u)) (va_runV (As := []) (rest := [.long (31 * ((31 * ((31 * x1) + r36.toInt64)) + r40.toInt64))]) ⟨hx, hb, hml, hown, hts⟩ (mt_X7_minutesLeft l dC dI dA gz oa H.size (lT u) S41  r44 S45 e46) (cwV 0 hts (gi_v bg wd_1027 wd_1028 wd_1029 wd_1 wd_1030) rfl rfl rfl hd_X7_minutesLeft ⟨Nat.le_of_ble_eq_true rfl, Nat.le_of_ble_eq_true rfl⟩) ⟨pP_blind, va_recv (ci := 11) (q0 := 0) hK hP rfl rfl, pP_preW hP hD hS hA hK hN hZ⟩ rfl rfl hl.1 rfl (lv_room (Nat.le_of_ble_eq_true rfl)) dL_digest_136 ⟨Nat.le_of_ble_eq_true rfl, Nat.le_of_ble_eq_true rfl⟩) hD hS hA (fun H locs hP hD hS => ?_)
        refine lv_i2l (v := r44.toInt64) hx hb dL_digest_139 rfl ?_
        refine lv_ladd hx hb dL_digest_140 ?_
        refine lv_lstore_n (lv' := [(1, .long ((31 * ((31 * ((31 * x1) + r36.toInt64)) + r40.toInt64)) + r44.toInt64)), (0, .ref (oa 0)), (3, .int x3)]) hx hb dL_digest_141 rfl hl (by decide) rfl (fun ls hl => ?_)
        refine lv_iconst (v := 0) hx hb dL_digest_142 (by decide) ?_
        refine lv_istore_n (lv' := [(3, .int 0), (1, .long ((31 * ((31 * ((31 * x1) + r36.toInt64)) + r40.toInt64)) + r44.toInt64)), (0, .ref (oa 0))]) hx hb dL_digest_143 rfl hl (by decide) rfl (fun ls hl => ?_)
        exact cut144 9 S45 u ((31 * ((31 * ((31 * x1) + r36.toInt64)) + r40.toInt64)) + r44.toInt64) 0 7 42 _ _ _ hf hu (Nat.le_of_ble_eq_true rfl) (Nat.le_of_ble_eq_true rfl) hP hD hS (lv_sub hl [2, 1, 0] rfl)
      · have hf := ie q35 hf
        refine lv_ldc2 hx hb (v := 31) hown (hts _ (bg _ wd_1003)) dL_digest_89 ?_
        refine lv_lload_n hx hb dL_digest_92 rfl (lv_at hl 1 rfl) ?_
        refine lv_lmul hx hb dL_digest_93 ?_
        refine lv_aload_n hx hb dL_digest_94 rfl (lv_at hl 0 rfl) ?_
        refine lv_iload_n hx hb dL_digest_95 rfl (lv_at hl 2 rfl) ?_
        obtain ⟨r48, S49, e50, hf⟩ := bT_inv hf
        refine jx_i (w1 := wX7 dA oa S49 (lT u)) (vx_runV (As := [.int x3]) (rest := [.long (31 * x1)]) ⟨hx, hb, hml, hown, hts⟩ (mt_X7_gradedCount l hl0 dC dI dA gz oa H.size (lT u) S x3 (.inl r48) S49 e50) (cwV 1 hts (gi_v bg wd_1008 wd_1009 wd_1010 wd_1 wd_1011) rfl rfl rfl hd_X7_gradedCount ⟨Nat.le_of_ble_eq_true rfl, Nat.le_of_ble_eq_true rfl⟩) ⟨pP_blind, va_recv (ci := 11) (q0 := 0) hK hP rfl rfl, pP_preW hP hD hS hA hK hN hZ⟩ rfl rfl hl.1 rfl (lv_room (Nat.le_of_ble_eq_true rfl)) dL_digest_96 ⟨by (show _ ≤ 77); (try dsimp only); omega, by (show _ ≤ 462); (try dsimp only); omega⟩) hD hS hA (fun E ce q9 H locs h9 _ _ _ _ _ _ => nomatch h9) (fun r9 H locs h9 hP hD hS => ?_)
        cases h9
        refine lv_i2l (v := r48.toInt64) hx hb dL_digest_99 rfl ?_
        refine lv_ladd hx hb dL_digest_100 ?_
        refine lv_lstore_n (lv' := [(1, .long ((31 * x1) + r48.toInt64)), (0, .ref (oa 0)), (3, .int x3)]) hx hb dL_digest_101 rfl hl (by decide) rfl (fun ls hl => ?_)
        refine lv_iload_n hx hb dL_digest_102 rfl (lv_at hl 2 rfl) ?_
        refine lv_iconst (v := 1) hx hb dL_digest_103 (by decide) ?_
        refine lv_iadd hx hb dL_digest_104 ?_
        refine lv_i2c (v := ((x3 + 1).toUInt32 % 65536).toInt32) hx hb dL_digest_105 rfl ?_
        refine lv_istore_n (lv' := [(3, .int ((x3 + 1).toUInt32 % 65536).toInt32), (1, .long ((31 * x1) + r48.toInt64)), (0, .ref (oa 0))]) hx hb dL_digest_106 rfl hl (by decide) rfl (fun ls hl => ?_)
        refine lv_goto (tgt := 83) hx hb dL_digest_107 (by decide) ?_
        exact ih S49 u ((31 * x1) + r48.toInt64) (((x3 + 1).toUInt32 % 65536).toInt32) _ _ _ _ _ hf hu (by (try dsimp only); omega) (by (try dsimp only); omega) hP hD hS (lv_sub hl [2, 1, 0] rfl)
  rw [f_L_digest] at hf
  refine lv_ldc2 hx hb (v := 7) hown (hts _ (bg _ wd_968)) dL_digest_0 ?_
  refine lv_aload_n hx hb dL_digest_3 rfl (lv_at hl 0 rfl) ?_
  obtain ⟨r52, e54, hf⟩ := bd hf
  refine jw_i (w1 := wX7 dA oa S (lT u0)) (va_runV (As := []) (rest := [.long 7]) ⟨hx, hb, hml, hown, hts⟩ (mt_X7_minute l dC dI dA gz oa s.heap.size (lT u0) S  r52 e54) (cwV 0 hts (gi_v bg wd_969 wd_970 wd_971 wd_1 wd_972) rfl rfl rfl hd_X7_minute ⟨Nat.le_of_ble_eq_true rfl, Nat.le_of_ble_eq_true rfl⟩) ⟨pP_blind, va_recv (ci := 11) (q0 := 0) hK hP rfl rfl, pP_preW hP hD hS hA hK hN hZ⟩ rfl rfl hl.1 rfl (lv_room (Nat.le_of_ble_eq_true rfl)) dL_digest_4 ⟨Nat.le_of_ble_eq_true rfl, Nat.le_of_ble_eq_true rfl⟩) hD hS hA (fun H locs hP hD hS => ?_)
  refine lv_i2l (v := r52.toInt64) hx hb dL_digest_7 rfl ?_
  refine lv_lmul hx hb dL_digest_8 ?_
  refine lv_ldc2 hx hb (v := 11) hown (hts _ (bg _ wd_973)) dL_digest_9 ?_
  refine lv_aload_n hx hb dL_digest_12 rfl (lv_at hl 0 rfl) ?_
  obtain ⟨r56, e58, hf⟩ := bd hf
  refine jw_i (w1 := wX7 dA oa S (lT u0)) (va_runV (As := []) (rest := [.long 11, .long (7 * r52.toInt64)]) ⟨hx, hb, hml, hown, hts⟩ (mt_X7_mass l dC dI dA gz oa H.size (lT u0) S  r56 e58) (cwV 0 hts (gi_v bg wd_974 wd_975 wd_976 wd_1 wd_977) rfl rfl rfl hd_X7_mass ⟨Nat.le_of_ble_eq_true rfl, Nat.le_of_ble_eq_true rfl⟩) ⟨pP_blind, va_recv (ci := 11) (q0 := 0) hK hP rfl rfl, pP_preW hP hD hS hA hK hN hZ⟩ rfl rfl hl.1 rfl (lv_room (Nat.le_of_ble_eq_true rfl)) dL_digest_13 ⟨Nat.le_of_ble_eq_true rfl, Nat.le_of_ble_eq_true rfl⟩) hD hS hA (fun H locs hP hD hS => ?_)
  refine lv_i2l (v := r56.toInt64) hx hb dL_digest_16 rfl ?_
  refine lv_lmul hx hb dL_digest_17 ?_
  refine lv_ladd hx hb dL_digest_18 ?_
  refine lv_ldc2 hx hb (v := 13) hown (hts _ (bg _ wd_978)) dL_digest_19 ?_
  refine lv_aload_n hx hb dL_digest_22 rfl (lv_at hl 0 rfl) ?_
  obtain ⟨r60, e62, hf⟩ := bd hf
  refine jw_i (w1 := wX7 dA oa S (lT u0)) (va_runV (As := []) (rest := [.long 13, .long ((7 * r52.toInt64) + (11 * r56.toInt64))]) ⟨hx, hb, hml, hown, hts⟩ (mt_X7_temperature l dC dI dA gz oa H.size (lT u0) S  r60 e62) (cwV 0 hts (gi_v bg wd_979 wd_980 wd_981 wd_1 wd_982) rfl rfl rfl hd_X7_temperature ⟨Nat.le_of_ble_eq_true rfl, Nat.le_of_ble_eq_true rfl⟩) ⟨pP_blind, va_recv (ci := 11) (q0 := 0) hK hP rfl rfl, pP_preW hP hD hS hA hK hN hZ⟩ rfl rfl hl.1 rfl (lv_room (Nat.le_of_ble_eq_true rfl)) dL_digest_23 ⟨Nat.le_of_ble_eq_true rfl, Nat.le_of_ble_eq_true rfl⟩) hD hS hA (fun H locs hP hD hS => ?_)
  refine lv_i2l (v := r60.toInt64) hx hb dL_digest_26 rfl ?_
  refine lv_lmul hx hb dL_digest_27 ?_
  refine lv_ladd hx hb dL_digest_28 ?_
  refine lv_ldc2 hx hb (v := 17) hown (hts _ (bg _ wd_983)) dL_digest_29 ?_
  refine lv_aload_n hx hb dL_digest_32 rfl (lv_at hl 0 rfl) ?_
  obtain ⟨r64, e66, hf⟩ := bd hf
  refine jw_i (w1 := wX7 dA oa S (lT u0)) (va_runV (As := []) (rest := [.long 17, .long (((7 * r52.toInt64) + (11 * r56.toInt64)) + (13 * r60.toInt64))]) ⟨hx, hb, hml, hown, hts⟩ (mt_X7_smoothness l dC dI dA gz oa H.size (lT u0) S  r64 e66) (cwV 0 hts (gi_v bg wd_984 wd_985 wd_986 wd_1 wd_987) rfl rfl rfl hd_X7_smoothness ⟨Nat.le_of_ble_eq_true rfl, Nat.le_of_ble_eq_true rfl⟩) ⟨pP_blind, va_recv (ci := 11) (q0 := 0) hK hP rfl rfl, pP_preW hP hD hS hA hK hN hZ⟩ rfl rfl hl.1 rfl (lv_room (Nat.le_of_ble_eq_true rfl)) dL_digest_33 ⟨Nat.le_of_ble_eq_true rfl, Nat.le_of_ble_eq_true rfl⟩) hD hS hA (fun H locs hP hD hS => ?_)
  refine lv_i2l (v := r64.toInt64) hx hb dL_digest_36 rfl ?_
  refine lv_lmul hx hb dL_digest_37 ?_
  refine lv_ladd hx hb dL_digest_38 ?_
  refine lv_ldc2 hx hb (v := 19) hown (hts _ (bg _ wd_988)) dL_digest_39 ?_
  refine lv_aload_n hx hb dL_digest_42 rfl (lv_at hl 0 rfl) ?_
  obtain ⟨r68, e70, hf⟩ := bd hf
  refine jw_i (w1 := wX7 dA oa S (lT u0)) (va_runV (As := []) (rest := [.long 19, .long ((((7 * r52.toInt64) + (11 * r56.toInt64)) + (13 * r60.toInt64)) + (17 * r64.toInt64))]) ⟨hx, hb, hml, hown, hts⟩ (mt_X7_stress l dC dI dA gz oa H.size (lT u0) S  r68 e70) (cwV 0 hts (gi_v bg wd_989 wd_990 wd_991 wd_1 wd_992) rfl rfl rfl hd_X7_stress ⟨Nat.le_of_ble_eq_true rfl, Nat.le_of_ble_eq_true rfl⟩) ⟨pP_blind, va_recv (ci := 11) (q0 := 0) hK hP rfl rfl, pP_preW hP hD hS hA hK hN hZ⟩ rfl rfl hl.1 rfl (lv_room (Nat.le_of_ble_eq_true rfl)) dL_digest_43 ⟨Nat.le_of_ble_eq_true rfl, Nat.le_of_ble_eq_true rfl⟩) hD hS hA (fun H locs hP hD hS => ?_)
  refine lv_i2l (v := r68.toInt64) hx hb dL_digest_46 rfl ?_
  refine lv_lmul hx hb dL_digest_47 ?_
  refine lv_ladd hx hb dL_digest_48 ?_
  refine lv_ldc2 hx hb (v := 23) hown (hts _ (bg _ wd_993)) dL_digest_49 ?_
  refine lv_aload_n hx hb dL_digest_52 rfl (lv_at hl 0 rfl) ?_
  obtain ⟨r72, e74, hf⟩ := bd hf
  refine jw_i (w1 := wX7 dA oa S (lT u0)) (va_runV (As := []) (rest := [.long 23, .long (((((7 * r52.toInt64) + (11 * r56.toInt64)) + (13 * r60.toInt64)) + (17 * r64.toInt64)) + (19 * r68.toInt64))]) ⟨hx, hb, hml, hown, hts⟩ (mt_X7_finishedCycles l dC dI dA gz oa H.size (lT u0) S  r72 e74) (cwV 0 hts (gi_v bg wd_994 wd_995 wd_996 wd_1 wd_997) rfl rfl rfl hd_X7_finishedCycles ⟨Nat.le_of_ble_eq_true rfl, Nat.le_of_ble_eq_true rfl⟩) ⟨pP_blind, va_recv (ci := 11) (q0 := 0) hK hP rfl rfl, pP_preW hP hD hS hA hK hN hZ⟩ rfl rfl hl.1 rfl (lv_room (Nat.le_of_ble_eq_true rfl)) dL_digest_53 ⟨Nat.le_of_ble_eq_true rfl, Nat.le_of_ble_eq_true rfl⟩) hD hS hA (fun H locs hP hD hS => ?_)
  refine lv_i2l (v := r72.toInt64) hx hb dL_digest_56 rfl ?_
  refine lv_lmul hx hb dL_digest_57 ?_
  refine lv_ladd hx hb dL_digest_58 ?_
  refine lv_ldc2 hx hb (v := 29) hown (hts _ (bg _ wd_998)) dL_digest_59 ?_
  refine lv_aload_n hx hb dL_digest_62 rfl (lv_at hl 0 rfl) ?_
  obtain ⟨r76, e78, hf⟩ := bd hf
  refine jw_i (w1 := wX7 dA oa S (lT u0)) (va_runV (As := []) (rest := [.long 29, .long ((((((7 * r52.toInt64) + (11 * r56.toInt64)) + (13 * r60.toInt64)) + (17 * r64.toInt64)) + (19 * r68.toInt64)) + (23 * r72.toInt64))]) ⟨hx, hb, hml, hown, hts⟩ (mt_X7_loadedMass l dC dI dA gz oa H.size (lT u0) S  r76 e78) (cwV 0 hts (gi_v bg wd_999 wd_1000 wd_1001 wd_1 wd_1002) rfl rfl rfl hd_X7_loadedMass ⟨Nat.le_of_ble_eq_true rfl, Nat.le_of_ble_eq_true rfl⟩) ⟨pP_blind, va_recv (ci := 11) (q0 := 0) hK hP rfl rfl, pP_preW hP hD hS hA hK hN hZ⟩ rfl rfl hl.1 rfl (lv_room (Nat.le_of_ble_eq_true rfl)) dL_digest_63 ⟨Nat.le_of_ble_eq_true rfl, Nat.le_of_ble_eq_true rfl⟩) hD hS hA (fun H locs hP hD hS => ?_)
  refine lv_i2l (v := r76.toInt64) hx hb dL_digest_66 rfl ?_
  refine lv_lmul hx hb dL_digest_67 ?_
  refine lv_ladd hx hb dL_digest_68 ?_
  refine lv_ldc2 hx hb (v := 31) hown (hts _ (bg _ wd_1003)) dL_digest_69 ?_
  refine lv_aload_n hx hb dL_digest_72 rfl (lv_at hl 0 rfl) ?_
  obtain ⟨r80, e82, hf⟩ := bd hf
  refine jw_i (w1 := wX7 dA oa S (lT u0)) (va_runV (As := []) (rest := [.long 31, .long (((((((7 * r52.toInt64) + (11 * r56.toInt64)) + (13 * r60.toInt64)) + (17 * r64.toInt64)) + (19 * r68.toInt64)) + (23 * r72.toInt64)) + (29 * r76.toInt64))]) ⟨hx, hb, hml, hown, hts⟩ (mt_X7_gradedMass l dC dI dA gz oa H.size (lT u0) S  r80 e82) (cwV 0 hts (gi_v bg wd_1004 wd_1005 wd_1006 wd_1 wd_1007) rfl rfl rfl hd_X7_gradedMass ⟨Nat.le_of_ble_eq_true rfl, Nat.le_of_ble_eq_true rfl⟩) ⟨pP_blind, va_recv (ci := 11) (q0 := 0) hK hP rfl rfl, pP_preW hP hD hS hA hK hN hZ⟩ rfl rfl hl.1 rfl (lv_room (Nat.le_of_ble_eq_true rfl)) dL_digest_73 ⟨Nat.le_of_ble_eq_true rfl, Nat.le_of_ble_eq_true rfl⟩) hD hS hA (fun H locs hP hD hS => ?_)
  refine lv_i2l (v := r80.toInt64) hx hb dL_digest_76 rfl ?_
  refine lv_lmul hx hb dL_digest_77 ?_
  refine lv_ladd hx hb dL_digest_78 ?_
  refine lv_lstore_n (lv' := [(1, .long ((((((((7 * r52.toInt64) + (11 * r56.toInt64)) + (13 * r60.toInt64)) + (17 * r64.toInt64)) + (19 * r68.toInt64)) + (23 * r72.toInt64)) + (29 * r76.toInt64)) + (31 * r80.toInt64))), (0, .ref (oa 0))]) hx hb dL_digest_79 rfl hl (by decide) rfl (fun ls hl => ?_)
  refine lv_bipush (v := 97) hx hb dL_digest_80 (by decide) ?_
  refine lv_istore_n (lv' := [(3, .int 97), (1, .long ((((((((7 * r52.toInt64) + (11 * r56.toInt64)) + (13 * r60.toInt64)) + (17 * r64.toInt64)) + (19 * r68.toInt64)) + (23 * r72.toInt64)) + (29 * r76.toInt64)) + (31 * r80.toInt64))), (0, .ref (oa 0))]) hx hb dL_digest_82 rfl hl (by decide) rfl (fun ls hl => ?_)
  exact cut83 6 S u0 ((((((((7 * r52.toInt64) + (11 * r56.toInt64)) + (13 * r60.toInt64)) + (17 * r64.toInt64)) + (19 * r68.toInt64)) + (23 * r72.toInt64)) + (29 * r76.toInt64)) + (31 * r80.toInt64)) 97 0 0 _ _ _ hf hu0 (Nat.le_of_ble_eq_true rfl) (Nat.le_of_ble_eq_true rfl) hP hD hS (lv_sub hl [2, 1, 0] rfl)
/-! L_write -/
def f_L_write_2 (p1 : Nat) : Nat → SX7 → Int32 → Option (SX7)
  | 0, _, _ => none
  | n9 + 1, S, x2 =>
  if 63 ≤ p1 then none else
  (if (nI (sx p1).length) ≤ x2 then some S else
  if 63 ≤ p1 then none else
  if x2 < 0 ∨ (sx p1).length ≤ x2.toNatClampNeg then none else
  bS (f_L_put S ((sx p1).getD x2.toNatClampNeg 0 &&& 255)) fun r5 S6 =>
  f_L_write_2 p1 n9 S6 (x2 + 1))
def f_L_write (S : SX7) (p1 : Nat) : Option (SX7) :=
  f_L_write_2 p1 30 S 0
set_option maxRecDepth 100000 in
set_option maxHeartbeats 8000000 in
theorem m_L_write (l : Launch) (hl0 : l.stackTraces = false) (dC : Nat → ClassId) (dI : Nat → Nat → Nat) (dA gz : Nat → Nat) (oa : Nat → Nat) (sz : Nat) (u0 : LU) (hu0 : LNk u0) (S : SX7) (p1 : Nat) (uu : SX7) (hf : f_L_write S p1 = some uu) : Met l yL_write ws_L_write ({ frames := 30, cells := 30, slots := 180, locals := 1200 } : Room) (va_Pc [.ref (oa 0), .ref (gz (2 * p1))] (pL (dC, dI) dA gz (wX7 dA oa S (lT u0)) sz)) (va_Qr (S := LU) LNk (fun u r' t => r' = oa 0 ∧ pQ (dC, dI) (va_A (wX7 dA oa S (lT u0)) sz) (wX7 dA oa uu (lT u)) t) (va_A (wX7 dA oa S (lT u0)) sz)) 30 180 (va_A (wX7 dA oa S (lT u0)) sz) := by
  refine Met.ofW (cc := cL_write) (maxL := 3) (ret := (some (.object "StoneChurn"))) (by decide) rfl ?_
  intro p e s m args below meth c s₁ B hml hv
  obtain ⟨rfl, ⟨hsz, hP, hK, hD0, hN, hZ⟩, hC⟩ := hv
  have hx := B.exec
  have hb := B.bytes
  have hr := B.returns
  have hts := atoms_spec (ws := ws_L_write) B.pre
  have hown : s.vm.findClass RL = some m.cls := findClass_of_methodNamed B.named
  have hlocks := B.notSynchronized
  subst hsz
  have hD := hD0.self (sz := s.heap.size)
  generalize hAe : va_A (wX7 dA oa S (lT u0)) s.heap.size = A at hD hZ ⊢
  have hA : ∀ q : Nat, s.heap.size ≤ q → A q := fun q h => by rw [← hAe]; exact Or.inr h
  have hS : va_S A s.heap s.heap [] := va_S.rf
  have hl := lv_entry [.ref (oa 0), .ref (gz (2 * p1))] (n := 3) (Nat.le_of_ble_eq_true rfl)
  rw [lg_entry_eq]
  generalize (lg_sl [.ref (oa 0), .ref (gz (2 * p1))] ++ List.replicate (3 - (lg_sl [.ref (oa 0), .ref (gz (2 * p1))]).length) Slot.unset).toArray = ls at hl ⊢
  have hl : lv_has ls 3 [(0, .ref (oa 0)), (1, .ref (gz (2 * p1)))] := hl
  have cut2 : ∀ (n9 : Nat) (S : SX7) (u : LU) (x2 : Int32) (x9 y9 : Nat) (H : Heap) (locs : List Loc) (ls : Array Slot), f_L_write_2 p1 n9 S x2 = some uu → LNk u → x9 + 1 * n9 ≤ 30 → y9 + 6 * n9 ≤ 180 → va_P (dC, dI) vwCl (wX7 dA oa S (lT u)) H → va_D A (wX7 dA oa S (lT u)) → va_S A s.heap H locs → lv_has ls 3 [(0, .ref (oa 0)), (1, .ref (gz (2 * p1))), (2, .int x2)] → W p l e (headSpec ws_L_write ({ frames := 30, cells := 30, slots := 180, locals := 1200 } : Room)).room s m ([.ref (oa 0), .ref (gz (2 * p1))] : List Value).toArray below meth c H locs (x9) (y9) (MQ below (va_Qr (S := LU) LNk (fun u r' t => r' = oa 0 ∧ pQ (dC, dI) A (wX7 dA oa uu (lT u)) t) A) ([.ref (oa 0), .ref (gz (2 * p1))] : List Value).toArray s 30 180 A) (F0 m 2 ls []) := by
    intro n9
    induction n9 with
    | zero =>
      intro S u x2 x9 y9 H locs ls hf
      rw [f_L_write_2] at hf
      cases hf
    | succ n9 ih =>
      intro S u x2 x9 y9 H locs ls hf hu hx9 hy9 hP hD hS hl
      rw [f_L_write_2] at hf
      refine lv_iload_n hx hb dL_write_2 rfl (lv_at hl 2 rfl) ?_
      refine lv_aload_n hx hb dL_write_3 rfl (lv_at hl 1 rfl) ?_
      obtain ⟨z1, hf⟩ := gd hf
      refine jr_i (va_runV (As := []) (rest := [.int x2]) ⟨hx, hb, hml, hown, hts⟩ (m_J0_length_8abf5 l dC dI dA gz H.size p1 (Nat.lt_of_not_le z1)) (cwV 0 hts (gi_v bg wd_874 wd_659 wd_660 wd_11 wd_661) rfl rfl rfl hd_J0_length_8abf5 ⟨Nat.le_of_ble_eq_true rfl, Nat.le_of_ble_eq_true rfl⟩) ⟨pP_blind, vk_recv (i := 0) (hZ.1 p1 (Nat.lt_of_not_le z1)).2 (by decide) hS, pP_pre hP hD hS hA hK hN hZ [] (by decide) rfl⟩ rfl rfl hl.1 rfl (lv_room (Nat.le_of_ble_eq_true rfl)) dL_write_4 ⟨by (show _ ≤ 30); (try dsimp only); omega, by (show _ ≤ 180); (try dsimp only); omega⟩) hP hD hS hA [] rfl (fun H locs hP hS => ?_)
      refine lv_icmp_ge (tgt := 26) hx hb dL_write_7 (by decide) (fun q2 => ?_) (fun q2 => ?_)
      · have hf := it q2 hf
        refine W.widen (k := 30) (n := 180) (by (try dsimp only); omega) (by (try dsimp only); omega) ?_
        refine lv_aload_n hx hb dL_write_26 rfl (lv_at hl 0 rfl) ?_
        have e9 := sm hf
        exact W.aret hx hb hr (Or.inl ⟨_, rfl⟩) (Or.inr ⟨_, rfl⟩) (fun t ht hW => ⟨⟨u, _, rfl, hu, rfl, by rw [← e9, ht]; exact hP, by rw [← e9]; exact hD⟩, hS.F ht⟩) hS.2.2 dL_write_27
      · have hf := ie q2 hf
        refine lv_aload_n hx hb dL_write_10 rfl (lv_at hl 0 rfl) ?_
        refine lv_aload_n hx hb dL_write_11 rfl (lv_at hl 1 rfl) ?_
        refine lv_iload_n hx hb dL_write_12 rfl (lv_at hl 2 rfl) ?_
        obtain ⟨z3, hf⟩ := gd hf
        obtain ⟨z4, hf⟩ := gd hf
        refine jr_i (va_runV (As := [.int x2]) (rest := [.ref (oa 0)]) ⟨hx, hb, hml, hown, hts⟩ (m_J0_charAt_5068e l dC dI dA gz H.size p1 (Nat.lt_of_not_le z3) x2 z4 (sx_len _ (Nat.lt_of_not_le z3))) (cwV 1 hts (gi_v bg wd_875 wd_668 wd_669 wd_11 wd_670) rfl rfl rfl hd_J0_charAt_5068e ⟨Nat.le_of_ble_eq_true rfl, Nat.le_of_ble_eq_true rfl⟩) ⟨pP_blind, vk_recv (i := 0) (hZ.1 p1 (Nat.lt_of_not_le z3)).2 (by decide) hS, pP_pre hP hD hS hA hK hN hZ [] (by decide) rfl⟩ rfl rfl hl.1 rfl (lv_room (Nat.le_of_ble_eq_true rfl)) dL_write_13 ⟨by (show _ ≤ 30); (try dsimp only); omega, by (show _ ≤ 180); (try dsimp only); omega⟩) hP hD hS hA [] rfl (fun H locs hP hS => ?_)
        obtain ⟨r5, S6, e7, hf⟩ := bS_inv hf
        refine jw_i (w1 := wX7 dA oa S6 (lT u)) (noRun (vx_runSX (As := [.ref (oa 0), .int ((sx p1).getD x2.toNatClampNeg 0 &&& 255)]) (rest := []) ⟨hx, hb, hml, hown, hts⟩ (m_L_put l hl0 dC dI dA gz oa H.size (lT u) S ((sx p1).getD x2.toNatClampNeg 0 &&& 255) r5 S6 e7) (vx_cwSW 2 hts (gi_t bg wd_876 wd_877 wd_0 wd_878) rfl rfl rfl hd3_L_put ⟨Nat.le_of_ble_eq_true rfl, Nat.le_of_ble_eq_true rfl⟩) ⟨pL_blind, pL_of hC (pP_preW hP hD hS hA hK hN hZ)⟩ rfl rfl hl.1 rfl (lv_room (Nat.le_of_ble_eq_true rfl)) dL_write_16 ⟨by (show _ ≤ 30); (try dsimp only); omega, by (show _ ≤ 180); (try dsimp only); omega⟩)) hD hS hA (fun H locs hP hD hS => ?_)
        refine lv_pop hx hb dL_write_19 rfl ?_
        refine lv_iinc (v := (x2 + 1)) (lv' := [(2, .int (x2 + 1)), (0, .ref (oa 0)), (1, .ref (gz (2 * p1)))]) hx hb dL_write_20 hl (k := 2) rfl rfl (by decide) rfl (fun ls hl => ?_)
        refine lv_goto (tgt := 2) hx hb dL_write_23 (by decide) ?_
        exact ih S6 u (x2 + 1) _ _ _ _ _ hf hu (by (try dsimp only); omega) (by (try dsimp only); omega) hP hD hS (lv_sub hl [1, 2, 0] rfl)
  rw [f_L_write] at hf
  refine lv_iconst (v := 0) hx hb dL_write_0 (by decide) ?_
  refine lv_istore_n (lv' := [(2, .int 0), (0, .ref (oa 0)), (1, .ref (gz (2 * p1)))]) hx hb dL_write_1 rfl hl (by decide) rfl (fun ls hl => ?_)
  exact cut2 30 S u0 0 0 0 _ _ _ hf hu0 (Nat.le_of_ble_eq_true rfl) (Nat.le_of_ble_eq_true rfl) hP hD hS (lv_sub hl [1, 2, 0] rfl)
/-! L_act -/
def f_L_act_88 (p1 : Int32) (S : SX7) (x2 : Int32) : Option (Int32 × SX7) :=
  if 63 ≤ 18 then none else
  if (x2 - x2 / 5 * 5) < 0 ∨ (sx 18).length ≤ (x2 - x2 / 5 * 5).toNatClampNeg then none else
  bS (f_L_addPhase S ((sx 18).getD (x2 - x2 / 5 * 5).toNatClampNeg 0 &&& 255) ((x2 >>> ((3 : Int32) &&& 31)) - (x2 >>> ((3 : Int32) &&& 31)) / 32 * 32) ((x2 >>> ((6 : Int32) &&& 31)) - (x2 >>> ((6 : Int32) &&& 31)) / 7 * 7)) fun r3 S4 =>
  some (r3, S4)
def f_L_act_191 (p1 : Int32) (S : SX7) (x2 : Int32) : Option (Int32 × SX7) :=
  if (x2 - x2 / 27 * 27) < 0 ∨ 27 ≤ (x2 - x2 / 27 * 27).toNatClampNeg then none else
  (f_L_write S (TXS.getD (x2 - x2 / 27 * 27).toNatClampNeg 0)).bind fun S9 =>
  bS (f_L_execute S9) fun r12 S13 =>
  some (r12, S13)
def f_L_act (S : SX7) (p1 : Int32) : Option (Int32 × SX7) :=
  (if (p1 &&& (15 : Int32)) = 0 then f_L_act_88 p1 S ((p1 >>> ((4 : Int32) &&& 31)) &&& (65535 : Int32)) else
  (if (p1 &&& (15 : Int32)) = 1 then f_L_act_88 p1 S ((p1 >>> ((4 : Int32) &&& 31)) &&& (65535 : Int32)) else
  (if (p1 &&& (15 : Int32)) = 2 then (if (((p1 >>> ((4 : Int32) &&& 31)) &&& (65535 : Int32)) &&& (64 : Int32)) = 0 then bS (f_L_removePhase S (((p1 >>> ((4 : Int32) &&& 31)) &&& (65535 : Int32)) - ((p1 >>> ((4 : Int32) &&& 31)) &&& (65535 : Int32)) / 5 * 5)) fun r24 S25 =>
  some (r24, S25) else
  bS (f_L_stop S) fun r20 S21 =>
  some (r20, S21)) else
  (if (p1 &&& (15 : Int32)) = 3 then bS (f_L_load S (((p1 >>> ((4 : Int32) &&& 31)) &&& (65535 : Int32)) - ((p1 >>> ((4 : Int32) &&& 31)) &&& (65535 : Int32)) / 45 * 45)) fun r29 S30 =>
  some (r29, S30) else
  (if (p1 &&& (15 : Int32)) = 4 then bS (f_L_load S (((p1 >>> ((4 : Int32) &&& 31)) &&& (65535 : Int32)) - ((p1 >>> ((4 : Int32) &&& 31)) &&& (65535 : Int32)) / 45 * 45)) fun r34 S35 =>
  some (r34, S35) else
  (if (p1 &&& (15 : Int32)) = 5 then bS (f_L_start S) fun r39 S40 =>
  some (r39, S40) else
  (if (p1 &&& (15 : Int32)) = 6 then bS (f_L_start S) fun r44 S45 =>
  some (r44, S45) else
  (if (p1 &&& (15 : Int32)) = 7 then bS (f_L_run S ((((p1 >>> ((4 : Int32) &&& 31)) &&& (65535 : Int32)) >>> ((2 : Int32) &&& 31)) - (((p1 >>> ((4 : Int32) &&& 31)) &&& (65535 : Int32)) >>> ((2 : Int32) &&& 31)) / 30 * 30)) fun r49 S50 =>
  some (r49, S50) else
  (if (p1 &&& (15 : Int32)) = 8 then bS (f_L_run S ((((p1 >>> ((4 : Int32) &&& 31)) &&& (65535 : Int32)) >>> ((2 : Int32) &&& 31)) - (((p1 >>> ((4 : Int32) &&& 31)) &&& (65535 : Int32)) >>> ((2 : Int32) &&& 31)) / 30 * 30)) fun r54 S55 =>
  some (r54, S55) else
  (if (p1 &&& (15 : Int32)) = 9 then bS (f_L_press S (((p1 >>> ((4 : Int32) &&& 31)) &&& (65535 : Int32)) - ((p1 >>> ((4 : Int32) &&& 31)) &&& (65535 : Int32)) / 22 * 22)) fun r59 S60 =>
  some (r59, S60) else
  (if (p1 &&& (15 : Int32)) = 10 then bS (f_L_press S (((p1 >>> ((4 : Int32) &&& 31)) &&& (65535 : Int32)) - ((p1 >>> ((4 : Int32) &&& 31)) &&& (65535 : Int32)) / 22 * 22)) fun r64 S65 =>
  some (r64, S65) else
  (if (p1 &&& (15 : Int32)) = 11 then (if (((p1 >>> ((4 : Int32) &&& 31)) &&& (65535 : Int32)) &&& (32 : Int32)) = 0 then bS (f_L_gradePat S (((p1 >>> ((4 : Int32) &&& 31)) &&& (65535 : Int32)) - ((p1 >>> ((4 : Int32) &&& 31)) &&& (65535 : Int32)) / 5 * 5)) fun r74 S75 =>
  some (r74, S75) else
  bS (f_L_crush S (((p1 >>> ((4 : Int32) &&& 31)) &&& (65535 : Int32)) - ((p1 >>> ((4 : Int32) &&& 31)) &&& (65535 : Int32)) / 5 * 5)) fun r70 S71 =>
  some (r70, S71)) else
  (if (p1 &&& (15 : Int32)) = 12 then f_L_act_191 p1 S ((p1 >>> ((4 : Int32) &&& 31)) &&& (65535 : Int32)) else
  (if (p1 &&& (15 : Int32)) = 13 then f_L_act_191 p1 S ((p1 >>> ((4 : Int32) &&& 31)) &&& (65535 : Int32)) else
  (if (p1 &&& (15 : Int32)) = 14 then f_L_act_191 p1 S ((p1 >>> ((4 : Int32) &&& 31)) &&& (65535 : Int32)) else
  (if (((p1 >>> ((4 : Int32) &&& 31)) &&& (65535 : Int32)) &&& (3 : Int32)) = 0 then bS (g_X7_saveSnapshot S) fun r91 S92 =>
  some (r91, S92) else
  (if (((p1 >>> ((4 : Int32) &&& 31)) &&& (65535 : Int32)) &&& (3 : Int32)) = 1 then bS (f_L_restore S) fun r87 S88 =>
  some (r87, S88) else
  bS (f_L_undo S) fun r83 S84 =>
  some (r83, S84))))))))))))))))))
set_option maxRecDepth 100000 in
set_option maxHeartbeats 8000000 in
theorem m_L_act (l : Launch) (hl0 : l.stackTraces = false) (dC : Nat → ClassId) (dI : Nat → Nat → Nat) (dA gz : Nat → Nat) (oa : Nat → Nat) (sz : Nat) (u0 : LU) (hu0 : LNk u0) (S : SX7) (p1 : Int32) (rr : Int32) (uu : SX7) (hf : f_L_act S p1 = some (rr, uu)) : Met l yL_act ws_L_act ({ frames := 54, cells := 31, slots := 186, locals := 2400 } : Room) (va_Pc [.ref (oa 0), .int p1] (pL (dC, dI) dA gz (wX7 dA oa S (lT u0)) sz)) (va_Qi (S := LU) (fun r' u => r' = rr ∧ LNk u) (fun u t => pQ (dC, dI) (va_A (wX7 dA oa S (lT u0)) sz) (wX7 dA oa uu (lT u)) t) (va_A (wX7 dA oa S (lT u0)) sz)) 31 186 (va_A (wX7 dA oa S (lT u0)) sz) := by
  refine Met.ofW (cc := cL_act) (maxL := 4) (ret := (some .int)) (by decide) rfl ?_
  intro p e s m args below meth c s₁ B hml hv
  obtain ⟨rfl, ⟨hsz, hP, hK, hD0, hN, hZ⟩, hC⟩ := hv
  have hx := B.exec
  have hb := B.bytes
  have hr := B.returns
  have hts := atoms_spec (ws := ws_L_act) B.pre
  have hown : s.vm.findClass RL = some m.cls := findClass_of_methodNamed B.named
  have hlocks := B.notSynchronized
  subst hsz
  have hD := hD0.self (sz := s.heap.size)
  generalize hAe : va_A (wX7 dA oa S (lT u0)) s.heap.size = A at hD hZ ⊢
  have hA : ∀ q : Nat, s.heap.size ≤ q → A q := fun q h => by rw [← hAe]; exact Or.inr h
  have hS : va_S A s.heap s.heap [] := va_S.rf
  have hl := lv_entry [.ref (oa 0), .int p1] (n := 4) (Nat.le_of_ble_eq_true rfl)
  rw [lg_entry_eq]
  generalize (lg_sl [.ref (oa 0), .int p1] ++ List.replicate (4 - (lg_sl [.ref (oa 0), .int p1]).length) Slot.unset).toArray = ls at hl ⊢
  have hl : lv_has ls 4 [(0, .ref (oa 0)), (1, .int p1)] := hl
  have cut88 : ∀ (S : SX7) (u : LU) (x2 : Int32) (H : Heap) (locs : List Loc) (ls : Array Slot), f_L_act_88 p1 S x2 = some (rr, uu) → LNk u → va_P (dC, dI) vwCl (wX7 dA oa S (lT u)) H → va_D A (wX7 dA oa S (lT u)) → va_S A s.heap H locs → lv_has ls 4 [(0, .ref (oa 0)), (2, .int x2)] → W p l e (headSpec ws_L_act ({ frames := 54, cells := 31, slots := 186, locals := 2400 } : Room)).room s m ([.ref (oa 0), .int p1] : List Value).toArray below meth c H locs (0) (0) (MQ below (va_Qi (S := LU) (fun r' u => r' = rr ∧ LNk u) (fun u t => pQ (dC, dI) A (wX7 dA oa uu (lT u)) t) A) ([.ref (oa 0), .int p1] : List Value).toArray s 31 186 A) (F0 m 88 ls []) := by
    intro S u x2 H locs ls hf hu hP hD hS hl
    rw [f_L_act_88] at hf
    refine lv_aload_n hx hb dL_act_88 rfl (lv_at hl 0 rfl) ?_
    refine va_ldcS hx hb hown (hZ.1 18 (by decide)).1 dL_act_89 ?_
    refine lv_iload_n hx hb dL_act_91 rfl (lv_at hl 1 rfl) ?_
    refine lv_iconst (v := 5) hx hb dL_act_92 (by decide) ?_
    refine lv_irem hx hb dL_act_93 (by decide) ?_
    obtain ⟨z1, hf⟩ := gd hf
    obtain ⟨z2, hf⟩ := gd hf
    refine jr_i (va_runV (As := [.int (x2 - x2 / 5 * 5)]) (rest := [.ref (oa 0)]) ⟨hx, hb, hml, hown, hts⟩ (m_J0_charAt_5068e l dC dI dA gz H.size 18 (Nat.lt_of_not_le z1) (x2 - x2 / 5 * 5) z2 (sx_len _ (Nat.lt_of_not_le z1))) (cwV 1 hts (gi_v bg wd_875 wd_668 wd_669 wd_11 wd_670) rfl rfl rfl hd_J0_charAt_5068e ⟨Nat.le_of_ble_eq_true rfl, Nat.le_of_ble_eq_true rfl⟩) ⟨pP_blind, vk_recv (i := 0) (hZ.1 18 (Nat.lt_of_not_le z1)).2 (by decide) hS, pP_pre hP hD hS hA hK hN hZ [] (by decide) rfl⟩ rfl rfl hl.1 rfl (lv_room (Nat.le_of_ble_eq_true rfl)) dL_act_94 ⟨Nat.le_of_ble_eq_true rfl, Nat.le_of_ble_eq_true rfl⟩) hP hD hS hA [] rfl (fun H locs hP hS => ?_)
    refine lv_iload_n hx hb dL_act_97 rfl (lv_at hl 1 rfl) ?_
    refine lv_iconst (v := 3) hx hb dL_act_98 (by decide) ?_
    refine lv_ishr hx hb dL_act_99 ?_
    refine lv_bipush (v := 32) hx hb dL_act_100 (by decide) ?_
    refine lv_irem hx hb dL_act_102 (by decide) ?_
    refine lv_iload_n hx hb dL_act_103 rfl (lv_at hl 1 rfl) ?_
    refine lv_bipush (v := 6) hx hb dL_act_104 (by decide) ?_
    refine lv_ishr hx hb dL_act_106 ?_
    refine lv_bipush (v := 7) hx hb dL_act_107 (by decide) ?_
    refine lv_irem hx hb dL_act_109 (by decide) ?_
    obtain ⟨r3, S4, e5, hf⟩ := bS_inv hf
    refine jw_i (w1 := wX7 dA oa S4 (lT u)) (noRun (vx_runSX (As := [.ref (oa 0), .int ((sx 18).getD (x2 - x2 / 5 * 5).toNatClampNeg 0 &&& 255), .int ((x2 >>> ((3 : Int32) &&& 31)) - (x2 >>> ((3 : Int32) &&& 31)) / 32 * 32), .int ((x2 >>> ((6 : Int32) &&& 31)) - (x2 >>> ((6 : Int32) &&& 31)) / 7 * 7)]) (rest := []) ⟨hx, hb, hml, hown, hts⟩ (m_L_addPhase l hl0 dC dI dA gz oa H.size (lT u) S ((sx 18).getD (x2 - x2 / 5 * 5).toNatClampNeg 0 &&& 255) ((x2 >>> ((3 : Int32) &&& 31)) - (x2 >>> ((3 : Int32) &&& 31)) / 32 * 32) ((x2 >>> ((6 : Int32) &&& 31)) - (x2 >>> ((6 : Int32) &&& 31)) / 7 * 7) r3 S4 e5) (vx_cwSW 4 hts (gi_t bg wd_345 wd_346 wd_0 wd_347) rfl rfl rfl hd3_L_addPhase ⟨Nat.le_of_ble_eq_true rfl, Nat.le_of_ble_eq_true rfl⟩) ⟨pL_blind, pL_of hC (pP_preW hP hD hS hA hK hN hZ)⟩ rfl rfl hl.1 rfl (lv_room (Nat.le_of_ble_eq_true rfl)) dL_act_110 ⟨Nat.le_of_ble_eq_true rfl, Nat.le_of_ble_eq_true rfl⟩)) hD hS hA (fun H locs hP hD hS => ?_)
    obtain ⟨e8, e9⟩ := Prod.mk.inj (sm hf)
    refine W.widen (k := 31) (n := 186) (Nat.le_of_ble_eq_true rfl) (Nat.le_of_ble_eq_true rfl) ?_
    exact W.iret hx hb hr (fun t ht hW => ⟨⟨_, u, rfl, ⟨e8, hu⟩, by rw [← e9, ht]; exact hP, by rw [← e9]; exact hD⟩, hS.F ht⟩) hS.2.2 dL_act_113
  have cut191 : ∀ (S : SX7) (u : LU) (x2 : Int32) (H : Heap) (locs : List Loc) (ls : Array Slot), f_L_act_191 p1 S x2 = some (rr, uu) → LNk u → va_P (dC, dI) vwCl (wX7 dA oa S (lT u)) H → va_D A (wX7 dA oa S (lT u)) → va_S A s.heap H locs → lv_has ls 4 [(0, .ref (oa 0)), (2, .int x2)] → W p l e (headSpec ws_L_act ({ frames := 54, cells := 31, slots := 186, locals := 2400 } : Room)).room s m ([.ref (oa 0), .int p1] : List Value).toArray below meth c H locs (0) (0) (MQ below (va_Qi (S := LU) (fun r' u => r' = rr ∧ LNk u) (fun u t => pQ (dC, dI) A (wX7 dA oa uu (lT u)) t) A) ([.ref (oa 0), .int p1] : List Value).toArray s 31 186 A) (F0 m 191 ls []) := by
    intro S u x2 H locs ls hf hu hP hD hS hl
    rw [f_L_act_191] at hf
    refine lv_aload_n hx hb dL_act_191 rfl (lv_at hl 0 rfl) ?_
    refine va_gets hx hb hZ.2.2.2.2.2.2.2.1 hS hown (hts _ (bg _ wd_963)) (fun _ h9 => h9) dL_act_192 ?_
    refine lv_iload_n hx hb dL_act_195 rfl (lv_at hl 1 rfl) ?_
    refine va_gets hx hb hZ.2.2.2.2.2.2.2.1 hS hown (hts _ (bg _ wd_963)) (fun _ h9 => h9) dL_act_196 ?_
    refine va_tlen hx hb hZ.2.2.2.2.2.2.2.2 hS (v := 27) rfl dL_act_199 ?_
    refine lv_irem hx hb dL_act_200 (by decide) ?_
    obtain ⟨z7, hf⟩ := gd hf
    refine vb_tq hx hb hZ.2.2.2.2.2.2.2.2 hS z7 rfl dL_act_201 ?_
    obtain ⟨S9, e10, hf⟩ := bd hf
    refine jE_r (ok := LNk) (w1 := fun u9 : LU => wX7 dA oa S9 (lT u9)) (va_runS (As := [.ref (oa 0), .ref (gz (2 * (TXS.getD (x2 - x2 / 27 * 27).toNatClampNeg 0)))]) (rest := []) ⟨hx, hb, hml, hown, hts⟩ (m_L_write l hl0 dC dI dA gz oa H.size u hu S (TXS.getD (x2 - x2 / 27 * 27).toNatClampNeg 0) S9 e10) (cwS 2 hts (gi_s bg wd_871 wd_872 wd_0 wd_873) rfl rfl rfl hd_L_write ⟨Nat.le_of_ble_eq_true rfl, Nat.le_of_ble_eq_true rfl⟩) ⟨pL_blind, pL_of hC (pP_preW hP hD hS hA hK hN hZ)⟩ rfl rfl hl.1 rfl (lv_room (Nat.le_of_ble_eq_true rfl)) dL_act_202 ⟨Nat.le_of_ble_eq_true rfl, Nat.le_of_ble_eq_true rfl⟩) hD hS hA (fun u11 H locs hu11 hP hD hS => ?_)
    obtain ⟨r12, S13, e14, hf⟩ := bS_inv hf
    refine jw_i (w1 := wX7 dA oa S13 (lT u11)) (noRun (vx_runSX (As := [.ref (oa 0)]) (rest := []) ⟨hx, hb, hml, hown, hts⟩ (m_L_execute l hl0 dC dI dA gz oa H.size (lT u11) S9  r12 S13 e14) (vx_cwSW 1 hts (gi_t bg wd_623 wd_624 wd_0 wd_625) rfl rfl rfl hd3_L_execute ⟨Nat.le_of_ble_eq_true rfl, Nat.le_of_ble_eq_true rfl⟩) ⟨pL_blind, pL_of hC (pP_preW hP hD hS hA hK hN hZ)⟩ rfl rfl hl.1 rfl (lv_room (Nat.le_of_ble_eq_true rfl)) dL_act_205 ⟨Nat.le_of_ble_eq_true rfl, Nat.le_of_ble_eq_true rfl⟩)) hD hS hA (fun H locs hP hD hS => ?_)
    obtain ⟨e8, e9⟩ := Prod.mk.inj (sm hf)
    exact W.iret hx hb hr (fun t ht hW => ⟨⟨_, u11, rfl, ⟨e8, hu11⟩, by rw [← e9, ht]; exact hP, by rw [← e9]; exact hD⟩, hS.F ht⟩) hS.2.2 dL_act_208
  rw [f_L_act] at hf
  refine lv_iload_n hx hb dL_act_0 rfl (lv_at hl 1 rfl) ?_
  refine lv_iconst (v := 4) hx hb dL_act_1 (by decide) ?_
  refine lv_ishr hx hb dL_act_2 ?_
  refine lv_ldc hx hb (v := 65535) hown (hts _ (bg _ wd_344)) dL_act_3 ?_
  refine lv_iand hx hb dL_act_5 ?_
  refine lv_istore_n (lv' := [(2, .int ((p1 >>> ((4 : Int32) &&& 31)) &&& (65535 : Int32))), (0, .ref (oa 0)), (1, .int p1)]) hx hb dL_act_6 rfl hl (by decide) rfl (fun ls hl => ?_)
  refine lv_iload_n hx hb dL_act_7 rfl (lv_at hl 0 rfl) ?_
  refine lv_iconst (v := 5) hx hb dL_act_8 (by decide) ?_
  refine lv_irem hx hb dL_act_9 (by decide) ?_
  refine lv_istore_n (lv' := [(3, .int (((p1 >>> ((4 : Int32) &&& 31)) &&& (65535 : Int32)) - ((p1 >>> ((4 : Int32) &&& 31)) &&& (65535 : Int32)) / 5 * 5)), (2, .int ((p1 >>> ((4 : Int32) &&& 31)) &&& (65535 : Int32))), (0, .ref (oa 0)), (1, .int p1)]) hx hb dL_act_10 rfl hl (by decide) rfl (fun ls hl => ?_)
  refine lv_iload_n hx hb dL_act_11 rfl (lv_at hl 3 rfl) ?_
  refine lv_bipush (v := 15) hx hb dL_act_12 (by decide) ?_
  refine lv_iand hx hb dL_act_14 ?_
  by_cases q16 : (p1 &&& (15 : Int32)) = 0
  · have hf := it q16 hf
    refine lv_tableIn (tgt := 88) hx hb dL_act_15 (by rw [q16]; decide) (by rw [q16]; decide) (by rw [q16]; rfl) (by decide) ?_
    exact cut88 S u0 ((p1 >>> ((4 : Int32) &&& 31)) &&& (65535 : Int32)) _ _ _ hf hu0 hP hD hS (lv_sub hl [2, 1] rfl)
  have hf := ie q16 hf
  by_cases q17 : (p1 &&& (15 : Int32)) = 1
  · have hf := it q17 hf
    refine lv_tableIn (tgt := 88) hx hb dL_act_15 (by rw [q17]; decide) (by rw [q17]; decide) (by rw [q17]; rfl) (by decide) ?_
    exact cut88 S u0 ((p1 >>> ((4 : Int32) &&& 31)) &&& (65535 : Int32)) _ _ _ hf hu0 hP hD hS (lv_sub hl [2, 1] rfl)
  have hf := ie q17 hf
  by_cases q18 : (p1 &&& (15 : Int32)) = 2
  · have hf := it q18 hf
    refine lv_tableIn (tgt := 114) hx hb dL_act_15 (by rw [q18]; decide) (by rw [q18]; decide) (by rw [q18]; rfl) (by decide) ?_
    refine lv_iload_n hx hb dL_act_114 rfl (lv_at hl 1 rfl) ?_
    refine lv_bipush (v := 64) hx hb dL_act_115 (by decide) ?_
    refine lv_iand hx hb dL_act_117 ?_
    refine lv_if_ne (tgt := 131) hx hb dL_act_118 (by decide) (fun q19 => ?_) (fun q19 => ?_)
    · have hf := ie q19 hf
      refine lv_aload_n hx hb dL_act_131 rfl (lv_at hl 2 rfl) ?_
      obtain ⟨r20, S21, e22, hf⟩ := bS_inv hf
      refine jw_i (w1 := wX7 dA oa S21 (lT u0)) (noRun (vx_runSX (As := [.ref (oa 0)]) (rest := []) ⟨hx, hb, hml, hown, hts⟩ (m_L_stop l hl0 dC dI dA gz oa s.heap.size (lT u0) S  r20 S21 e22) (vx_cwSW 1 hts (gi_t bg wd_517 wd_518 wd_0 wd_519) rfl rfl rfl hd3_L_stop ⟨Nat.le_of_ble_eq_true rfl, Nat.le_of_ble_eq_true rfl⟩) ⟨pL_blind, pL_of hC (pP_preW hP hD hS hA hK hN hZ)⟩ rfl rfl hl.1 rfl (lv_room (Nat.le_of_ble_eq_true rfl)) dL_act_132 ⟨Nat.le_of_ble_eq_true rfl, Nat.le_of_ble_eq_true rfl⟩)) hD hS hA (fun H locs hP hD hS => ?_)
      obtain ⟨e8, e9⟩ := Prod.mk.inj (sm hf)
      refine W.widen (k := 31) (n := 186) (Nat.le_of_ble_eq_true rfl) (Nat.le_of_ble_eq_true rfl) ?_
      exact W.iret hx hb hr (fun t ht hW => ⟨⟨_, u0, rfl, ⟨e8, hu0⟩, by rw [← e9, ht]; exact hP, by rw [← e9]; exact hD⟩, hS.F ht⟩) hS.2.2 dL_act_135
    · have hf := it q19 hf
      refine lv_aload_n hx hb dL_act_121 rfl (lv_at hl 2 rfl) ?_
      refine lv_iload_n hx hb dL_act_122 rfl (lv_at hl 1 rfl) ?_
      refine lv_iconst (v := 5) hx hb dL_act_123 (by decide) ?_
      refine lv_irem hx hb dL_act_124 (by decide) ?_
      obtain ⟨r24, S25, e26, hf⟩ := bS_inv hf
      refine jw_i (w1 := wX7 dA oa S25 (lT u0)) (noRun (vx_runSX (As := [.ref (oa 0), .int (((p1 >>> ((4 : Int32) &&& 31)) &&& (65535 : Int32)) - ((p1 >>> ((4 : Int32) &&& 31)) &&& (65535 : Int32)) / 5 * 5)]) (rest := []) ⟨hx, hb, hml, hown, hts⟩ (m_L_removePhase l hl0 dC dI dA gz oa s.heap.size (lT u0) S (((p1 >>> ((4 : Int32) &&& 31)) &&& (65535 : Int32)) - ((p1 >>> ((4 : Int32) &&& 31)) &&& (65535 : Int32)) / 5 * 5) r24 S25 e26) (vx_cwSW 2 hts (gi_t bg wd_897 wd_898 wd_0 wd_899) rfl rfl rfl hd3_L_removePhase ⟨Nat.le_of_ble_eq_true rfl, Nat.le_of_ble_eq_true rfl⟩) ⟨pL_blind, pL_of hC (pP_preW hP hD hS hA hK hN hZ)⟩ rfl rfl hl.1 rfl (lv_room (Nat.le_of_ble_eq_true rfl)) dL_act_125 ⟨Nat.le_of_ble_eq_true rfl, Nat.le_of_ble_eq_true rfl⟩)) hD hS hA (fun H locs hP hD hS => ?_)
      refine lv_goto (tgt := 135) hx hb dL_act_128 (by decide) ?_
      obtain ⟨e8, e9⟩ := Prod.mk.inj (sm hf)
      refine W.widen (k := 31) (n := 186) (Nat.le_of_ble_eq_true rfl) (Nat.le_of_ble_eq_true rfl) ?_
      exact W.iret hx hb hr (fun t ht hW => ⟨⟨_, u0, rfl, ⟨e8, hu0⟩, by rw [← e9, ht]; exact hP, by rw [← e9]; exact hD⟩, hS.F ht⟩) hS.2.2 dL_act_135
  have hf := ie q18 hf
  by_cases q28 : (p1 &&& (15 : Int32)) = 3
  · have hf := it q28 hf
    refine lv_tableIn (tgt := 136) hx hb dL_act_15 (by rw [q28]; decide) (by rw [q28]; decide) (by rw [q28]; rfl) (by decide) ?_
    refine lv_aload_n hx hb dL_act_136 rfl (lv_at hl 2 rfl) ?_
    refine lv_iload_n hx hb dL_act_137 rfl (lv_at hl 1 rfl) ?_
    refine lv_bipush (v := 45) hx hb dL_act_138 (by decide) ?_
    refine lv_irem hx hb dL_act_140 (by decide) ?_
    obtain ⟨r29, S30, e31, hf⟩ := bS_inv hf
    refine jw_i (w1 := wX7 dA oa S30 (lT u0)) (noRun (vx_runSX (As := [.ref (oa 0), .int (((p1 >>> ((4 : Int32) &&& 31)) &&& (65535 : Int32)) - ((p1 >>> ((4 : Int32) &&& 31)) &&& (65535 : Int32)) / 45 * 45)]) (rest := []) ⟨hx, hb, hml, hown, hts⟩ (m_L_load l hl0 dC dI dA gz oa s.heap.size (lT u0) S (((p1 >>> ((4 : Int32) &&& 31)) &&& (65535 : Int32)) - ((p1 >>> ((4 : Int32) &&& 31)) &&& (65535 : Int32)) / 45 * 45) r29 S30 e31) (vx_cwSW 2 hts (gi_t bg wd_581 wd_582 wd_0 wd_583) rfl rfl rfl hd3_L_load ⟨Nat.le_of_ble_eq_true rfl, Nat.le_of_ble_eq_true rfl⟩) ⟨pL_blind, pL_of hC (pP_preW hP hD hS hA hK hN hZ)⟩ rfl rfl hl.1 rfl (lv_room (Nat.le_of_ble_eq_true rfl)) dL_act_141 ⟨Nat.le_of_ble_eq_true rfl, Nat.le_of_ble_eq_true rfl⟩)) hD hS hA (fun H locs hP hD hS => ?_)
    obtain ⟨e8, e9⟩ := Prod.mk.inj (sm hf)
    refine W.widen (k := 31) (n := 186) (Nat.le_of_ble_eq_true rfl) (Nat.le_of_ble_eq_true rfl) ?_
    exact W.iret hx hb hr (fun t ht hW => ⟨⟨_, u0, rfl, ⟨e8, hu0⟩, by rw [← e9, ht]; exact hP, by rw [← e9]; exact hD⟩, hS.F ht⟩) hS.2.2 dL_act_144
  have hf := ie q28 hf
  by_cases q33 : (p1 &&& (15 : Int32)) = 4
  · have hf := it q33 hf
    refine lv_tableIn (tgt := 136) hx hb dL_act_15 (by rw [q33]; decide) (by rw [q33]; decide) (by rw [q33]; rfl) (by decide) ?_
    refine lv_aload_n hx hb dL_act_136 rfl (lv_at hl 2 rfl) ?_
    refine lv_iload_n hx hb dL_act_137 rfl (lv_at hl 1 rfl) ?_
    refine lv_bipush (v := 45) hx hb dL_act_138 (by decide) ?_
    refine lv_irem hx hb dL_act_140 (by decide) ?_
    obtain ⟨r34, S35, e36, hf⟩ := bS_inv hf
    refine jw_i (w1 := wX7 dA oa S35 (lT u0)) (noRun (vx_runSX (As := [.ref (oa 0), .int (((p1 >>> ((4 : Int32) &&& 31)) &&& (65535 : Int32)) - ((p1 >>> ((4 : Int32) &&& 31)) &&& (65535 : Int32)) / 45 * 45)]) (rest := []) ⟨hx, hb, hml, hown, hts⟩ (m_L_load l hl0 dC dI dA gz oa s.heap.size (lT u0) S (((p1 >>> ((4 : Int32) &&& 31)) &&& (65535 : Int32)) - ((p1 >>> ((4 : Int32) &&& 31)) &&& (65535 : Int32)) / 45 * 45) r34 S35 e36) (vx_cwSW 2 hts (gi_t bg wd_581 wd_582 wd_0 wd_583) rfl rfl rfl hd3_L_load ⟨Nat.le_of_ble_eq_true rfl, Nat.le_of_ble_eq_true rfl⟩) ⟨pL_blind, pL_of hC (pP_preW hP hD hS hA hK hN hZ)⟩ rfl rfl hl.1 rfl (lv_room (Nat.le_of_ble_eq_true rfl)) dL_act_141 ⟨Nat.le_of_ble_eq_true rfl, Nat.le_of_ble_eq_true rfl⟩)) hD hS hA (fun H locs hP hD hS => ?_)
    obtain ⟨e8, e9⟩ := Prod.mk.inj (sm hf)
    refine W.widen (k := 31) (n := 186) (Nat.le_of_ble_eq_true rfl) (Nat.le_of_ble_eq_true rfl) ?_
    exact W.iret hx hb hr (fun t ht hW => ⟨⟨_, u0, rfl, ⟨e8, hu0⟩, by rw [← e9, ht]; exact hP, by rw [← e9]; exact hD⟩, hS.F ht⟩) hS.2.2 dL_act_144
  have hf := ie q33 hf
  by_cases q38 : (p1 &&& (15 : Int32)) = 5
  · have hf := it q38 hf
    refine lv_tableIn (tgt := 145) hx hb dL_act_15 (by rw [q38]; decide) (by rw [q38]; decide) (by rw [q38]; rfl) (by decide) ?_
    refine lv_aload_n hx hb dL_act_145 rfl (lv_at hl 2 rfl) ?_
    obtain ⟨r39, S40, e41, hf⟩ := bS_inv hf
    refine jw_i (w1 := wX7 dA oa S40 (lT u0)) (noRun (vx_runSX (As := [.ref (oa 0)]) (rest := []) ⟨hx, hb, hml, hown, hts⟩ (m_L_start l hl0 dC dI dA gz oa s.heap.size (lT u0) S  r39 S40 e41) (vx_cwSW 1 hts (gi_t bg wd_493 wd_494 wd_0 wd_495) rfl rfl rfl hd3_L_start ⟨Nat.le_of_ble_eq_true rfl, Nat.le_of_ble_eq_true rfl⟩) ⟨pL_blind, pL_of hC (pP_preW hP hD hS hA hK hN hZ)⟩ rfl rfl hl.1 rfl (lv_room (Nat.le_of_ble_eq_true rfl)) dL_act_146 ⟨Nat.le_of_ble_eq_true rfl, Nat.le_of_ble_eq_true rfl⟩)) hD hS hA (fun H locs hP hD hS => ?_)
    obtain ⟨e8, e9⟩ := Prod.mk.inj (sm hf)
    refine W.widen (k := 31) (n := 186) (Nat.le_of_ble_eq_true rfl) (Nat.le_of_ble_eq_true rfl) ?_
    exact W.iret hx hb hr (fun t ht hW => ⟨⟨_, u0, rfl, ⟨e8, hu0⟩, by rw [← e9, ht]; exact hP, by rw [← e9]; exact hD⟩, hS.F ht⟩) hS.2.2 dL_act_149
  have hf := ie q38 hf
  by_cases q43 : (p1 &&& (15 : Int32)) = 6
  · have hf := it q43 hf
    refine lv_tableIn (tgt := 145) hx hb dL_act_15 (by rw [q43]; decide) (by rw [q43]; decide) (by rw [q43]; rfl) (by decide) ?_
    refine lv_aload_n hx hb dL_act_145 rfl (lv_at hl 2 rfl) ?_
    obtain ⟨r44, S45, e46, hf⟩ := bS_inv hf
    refine jw_i (w1 := wX7 dA oa S45 (lT u0)) (noRun (vx_runSX (As := [.ref (oa 0)]) (rest := []) ⟨hx, hb, hml, hown, hts⟩ (m_L_start l hl0 dC dI dA gz oa s.heap.size (lT u0) S  r44 S45 e46) (vx_cwSW 1 hts (gi_t bg wd_493 wd_494 wd_0 wd_495) rfl rfl rfl hd3_L_start ⟨Nat.le_of_ble_eq_true rfl, Nat.le_of_ble_eq_true rfl⟩) ⟨pL_blind, pL_of hC (pP_preW hP hD hS hA hK hN hZ)⟩ rfl rfl hl.1 rfl (lv_room (Nat.le_of_ble_eq_true rfl)) dL_act_146 ⟨Nat.le_of_ble_eq_true rfl, Nat.le_of_ble_eq_true rfl⟩)) hD hS hA (fun H locs hP hD hS => ?_)
    obtain ⟨e8, e9⟩ := Prod.mk.inj (sm hf)
    refine W.widen (k := 31) (n := 186) (Nat.le_of_ble_eq_true rfl) (Nat.le_of_ble_eq_true rfl) ?_
    exact W.iret hx hb hr (fun t ht hW => ⟨⟨_, u0, rfl, ⟨e8, hu0⟩, by rw [← e9, ht]; exact hP, by rw [← e9]; exact hD⟩, hS.F ht⟩) hS.2.2 dL_act_149
  have hf := ie q43 hf
  by_cases q48 : (p1 &&& (15 : Int32)) = 7
  · have hf := it q48 hf
    refine lv_tableIn (tgt := 150) hx hb dL_act_15 (by rw [q48]; decide) (by rw [q48]; decide) (by rw [q48]; rfl) (by decide) ?_
    refine lv_aload_n hx hb dL_act_150 rfl (lv_at hl 2 rfl) ?_
    refine lv_iload_n hx hb dL_act_151 rfl (lv_at hl 1 rfl) ?_
    refine lv_iconst (v := 2) hx hb dL_act_152 (by decide) ?_
    refine lv_ishr hx hb dL_act_153 ?_
    refine lv_bipush (v := 30) hx hb dL_act_154 (by decide) ?_
    refine lv_irem hx hb dL_act_156 (by decide) ?_
    obtain ⟨r49, S50, e51, hf⟩ := bS_inv hf
    refine jw_i (w1 := wX7 dA oa S50 (lT u0)) (noRun (vx_runSX (As := [.ref (oa 0), .int ((((p1 >>> ((4 : Int32) &&& 31)) &&& (65535 : Int32)) >>> ((2 : Int32) &&& 31)) - (((p1 >>> ((4 : Int32) &&& 31)) &&& (65535 : Int32)) >>> ((2 : Int32) &&& 31)) / 30 * 30)]) (rest := []) ⟨hx, hb, hml, hown, hts⟩ (m_L_run l hl0 dC dI dA gz oa s.heap.size (lT u0) S ((((p1 >>> ((4 : Int32) &&& 31)) &&& (65535 : Int32)) >>> ((2 : Int32) &&& 31)) - (((p1 >>> ((4 : Int32) &&& 31)) &&& (65535 : Int32)) >>> ((2 : Int32) &&& 31)) / 30 * 30) r49 S50 e51) (vx_cwSW 2 hts (gi_t bg wd_536 wd_537 wd_0 wd_538) rfl rfl rfl hd3_L_run ⟨Nat.le_of_ble_eq_true rfl, Nat.le_of_ble_eq_true rfl⟩) ⟨pL_blind, pL_of hC (pP_preW hP hD hS hA hK hN hZ)⟩ rfl rfl hl.1 rfl (lv_room (Nat.le_of_ble_eq_true rfl)) dL_act_157 ⟨Nat.le_of_ble_eq_true rfl, Nat.le_of_ble_eq_true rfl⟩)) hD hS hA (fun H locs hP hD hS => ?_)
    obtain ⟨e8, e9⟩ := Prod.mk.inj (sm hf)
    refine W.widen (k := 31) (n := 186) (Nat.le_of_ble_eq_true rfl) (Nat.le_of_ble_eq_true rfl) ?_
    exact W.iret hx hb hr (fun t ht hW => ⟨⟨_, u0, rfl, ⟨e8, hu0⟩, by rw [← e9, ht]; exact hP, by rw [← e9]; exact hD⟩, hS.F ht⟩) hS.2.2 dL_act_160
  have hf := ie q48 hf
  by_cases q53 : (p1 &&& (15 : Int32)) = 8
  · have hf := it q53 hf
    refine lv_tableIn (tgt := 150) hx hb dL_act_15 (by rw [q53]; decide) (by rw [q53]; decide) (by rw [q53]; rfl) (by decide) ?_
    refine lv_aload_n hx hb dL_act_150 rfl (lv_at hl 2 rfl) ?_
    refine lv_iload_n hx hb dL_act_151 rfl (lv_at hl 1 rfl) ?_
    refine lv_iconst (v := 2) hx hb dL_act_152 (by decide) ?_
    refine lv_ishr hx hb dL_act_153 ?_
    refine lv_bipush (v := 30) hx hb dL_act_154 (by decide) ?_
    refine lv_irem hx hb dL_act_156 (by decide) ?_
    obtain ⟨r54, S55, e56, hf⟩ := bS_inv hf
    refine jw_i (w1 := wX7 dA oa S55 (lT u0)) (noRun (vx_runSX (As := [.ref (oa 0), .int ((((p1 >>> ((4 : Int32) &&& 31)) &&& (65535 : Int32)) >>> ((2 : Int32) &&& 31)) - (((p1 >>> ((4 : Int32) &&& 31)) &&& (65535 : Int32)) >>> ((2 : Int32) &&& 31)) / 30 * 30)]) (rest := []) ⟨hx, hb, hml, hown, hts⟩ (m_L_run l hl0 dC dI dA gz oa s.heap.size (lT u0) S ((((p1 >>> ((4 : Int32) &&& 31)) &&& (65535 : Int32)) >>> ((2 : Int32) &&& 31)) - (((p1 >>> ((4 : Int32) &&& 31)) &&& (65535 : Int32)) >>> ((2 : Int32) &&& 31)) / 30 * 30) r54 S55 e56) (vx_cwSW 2 hts (gi_t bg wd_536 wd_537 wd_0 wd_538) rfl rfl rfl hd3_L_run ⟨Nat.le_of_ble_eq_true rfl, Nat.le_of_ble_eq_true rfl⟩) ⟨pL_blind, pL_of hC (pP_preW hP hD hS hA hK hN hZ)⟩ rfl rfl hl.1 rfl (lv_room (Nat.le_of_ble_eq_true rfl)) dL_act_157 ⟨Nat.le_of_ble_eq_true rfl, Nat.le_of_ble_eq_true rfl⟩)) hD hS hA (fun H locs hP hD hS => ?_)
    obtain ⟨e8, e9⟩ := Prod.mk.inj (sm hf)
    refine W.widen (k := 31) (n := 186) (Nat.le_of_ble_eq_true rfl) (Nat.le_of_ble_eq_true rfl) ?_
    exact W.iret hx hb hr (fun t ht hW => ⟨⟨_, u0, rfl, ⟨e8, hu0⟩, by rw [← e9, ht]; exact hP, by rw [← e9]; exact hD⟩, hS.F ht⟩) hS.2.2 dL_act_160
  have hf := ie q53 hf
  by_cases q58 : (p1 &&& (15 : Int32)) = 9
  · have hf := it q58 hf
    refine lv_tableIn (tgt := 161) hx hb dL_act_15 (by rw [q58]; decide) (by rw [q58]; decide) (by rw [q58]; rfl) (by decide) ?_
    refine lv_aload_n hx hb dL_act_161 rfl (lv_at hl 2 rfl) ?_
    refine lv_iload_n hx hb dL_act_162 rfl (lv_at hl 1 rfl) ?_
    refine lv_bipush (v := 22) hx hb dL_act_163 (by decide) ?_
    refine lv_irem hx hb dL_act_165 (by decide) ?_
    obtain ⟨r59, S60, e61, hf⟩ := bS_inv hf
    refine jw_i (w1 := wX7 dA oa S60 (lT u0)) (noRun (vx_runSX (As := [.ref (oa 0), .int (((p1 >>> ((4 : Int32) &&& 31)) &&& (65535 : Int32)) - ((p1 >>> ((4 : Int32) &&& 31)) &&& (65535 : Int32)) / 22 * 22)]) (rest := []) ⟨hx, hb, hml, hown, hts⟩ (m_L_press l hl0 dC dI dA gz oa s.heap.size (lT u0) S (((p1 >>> ((4 : Int32) &&& 31)) &&& (65535 : Int32)) - ((p1 >>> ((4 : Int32) &&& 31)) &&& (65535 : Int32)) / 22 * 22) r59 S60 e61) (vx_cwSW 2 hts (gi_t bg wd_600 wd_601 wd_0 wd_602) rfl rfl rfl hd3_L_press ⟨Nat.le_of_ble_eq_true rfl, Nat.le_of_ble_eq_true rfl⟩) ⟨pL_blind, pL_of hC (pP_preW hP hD hS hA hK hN hZ)⟩ rfl rfl hl.1 rfl (lv_room (Nat.le_of_ble_eq_true rfl)) dL_act_166 ⟨Nat.le_of_ble_eq_true rfl, Nat.le_of_ble_eq_true rfl⟩)) hD hS hA (fun H locs hP hD hS => ?_)
    obtain ⟨e8, e9⟩ := Prod.mk.inj (sm hf)
    refine W.widen (k := 31) (n := 186) (Nat.le_of_ble_eq_true rfl) (Nat.le_of_ble_eq_true rfl) ?_
    exact W.iret hx hb hr (fun t ht hW => ⟨⟨_, u0, rfl, ⟨e8, hu0⟩, by rw [← e9, ht]; exact hP, by rw [← e9]; exact hD⟩, hS.F ht⟩) hS.2.2 dL_act_169
  have hf := ie q58 hf
  by_cases q63 : (p1 &&& (15 : Int32)) = 10
  · have hf := it q63 hf
    refine lv_tableIn (tgt := 161) hx hb dL_act_15 (by rw [q63]; decide) (by rw [q63]; decide) (by rw [q63]; rfl) (by decide) ?_
    refine lv_aload_n hx hb dL_act_161 rfl (lv_at hl 2 rfl) ?_
    refine lv_iload_n hx hb dL_act_162 rfl (lv_at hl 1 rfl) ?_
    refine lv_bipush (v := 22) hx hb dL_act_163 (by decide) ?_
    refine lv_irem hx hb dL_act_165 (by decide) ?_
    obtain ⟨r64, S65, e66, hf⟩ := bS_inv hf
    refine jw_i (w1 := wX7 dA oa S65 (lT u0)) (noRun (vx_runSX (As := [.ref (oa 0), .int (((p1 >>> ((4 : Int32) &&& 31)) &&& (65535 : Int32)) - ((p1 >>> ((4 : Int32) &&& 31)) &&& (65535 : Int32)) / 22 * 22)]) (rest := []) ⟨hx, hb, hml, hown, hts⟩ (m_L_press l hl0 dC dI dA gz oa s.heap.size (lT u0) S (((p1 >>> ((4 : Int32) &&& 31)) &&& (65535 : Int32)) - ((p1 >>> ((4 : Int32) &&& 31)) &&& (65535 : Int32)) / 22 * 22) r64 S65 e66) (vx_cwSW 2 hts (gi_t bg wd_600 wd_601 wd_0 wd_602) rfl rfl rfl hd3_L_press ⟨Nat.le_of_ble_eq_true rfl, Nat.le_of_ble_eq_true rfl⟩) ⟨pL_blind, pL_of hC (pP_preW hP hD hS hA hK hN hZ)⟩ rfl rfl hl.1 rfl (lv_room (Nat.le_of_ble_eq_true rfl)) dL_act_166 ⟨Nat.le_of_ble_eq_true rfl, Nat.le_of_ble_eq_true rfl⟩)) hD hS hA (fun H locs hP hD hS => ?_)
    obtain ⟨e8, e9⟩ := Prod.mk.inj (sm hf)
    refine W.widen (k := 31) (n := 186) (Nat.le_of_ble_eq_true rfl) (Nat.le_of_ble_eq_true rfl) ?_
    exact W.iret hx hb hr (fun t ht hW => ⟨⟨_, u0, rfl, ⟨e8, hu0⟩, by rw [← e9, ht]; exact hP, by rw [← e9]; exact hD⟩, hS.F ht⟩) hS.2.2 dL_act_169
  have hf := ie q63 hf
  by_cases q68 : (p1 &&& (15 : Int32)) = 11
  · have hf := it q68 hf
    refine lv_tableIn (tgt := 170) hx hb dL_act_15 (by rw [q68]; decide) (by rw [q68]; decide) (by rw [q68]; rfl) (by decide) ?_
    refine lv_iload_n hx hb dL_act_170 rfl (lv_at hl 1 rfl) ?_
    refine lv_bipush (v := 32) hx hb dL_act_171 (by decide) ?_
    refine lv_iand hx hb dL_act_173 ?_
    refine lv_if_ne (tgt := 185) hx hb dL_act_174 (by decide) (fun q69 => ?_) (fun q69 => ?_)
    · have hf := ie q69 hf
      refine lv_aload_n hx hb dL_act_185 rfl (lv_at hl 2 rfl) ?_
      refine lv_iload_n hx hb dL_act_186 rfl (lv_at hl 0 rfl) ?_
      obtain ⟨r70, S71, e72, hf⟩ := bS_inv hf
      refine jw_i (w1 := wX7 dA oa S71 (lT u0)) (noRun (vx_runSX (As := [.ref (oa 0), .int (((p1 >>> ((4 : Int32) &&& 31)) &&& (65535 : Int32)) - ((p1 >>> ((4 : Int32) &&& 31)) &&& (65535 : Int32)) / 5 * 5)]) (rest := []) ⟨hx, hb, hml, hown, hts⟩ (m_L_crush l hl0 dC dI dA gz oa s.heap.size (lT u0) S (((p1 >>> ((4 : Int32) &&& 31)) &&& (65535 : Int32)) - ((p1 >>> ((4 : Int32) &&& 31)) &&& (65535 : Int32)) / 5 * 5) r70 S71 e72) (vx_cwSW 2 hts (gi_t bg wd_956 wd_957 wd_0 wd_958) rfl rfl rfl hd3_L_crush ⟨Nat.le_of_ble_eq_true rfl, Nat.le_of_ble_eq_true rfl⟩) ⟨pL_blind, pL_of hC (pP_preW hP hD hS hA hK hN hZ)⟩ rfl rfl hl.1 rfl (lv_room (Nat.le_of_ble_eq_true rfl)) dL_act_187 ⟨Nat.le_of_ble_eq_true rfl, Nat.le_of_ble_eq_true rfl⟩)) hD hS hA (fun H locs hP hD hS => ?_)
      obtain ⟨e8, e9⟩ := Prod.mk.inj (sm hf)
      refine W.widen (k := 31) (n := 186) (Nat.le_of_ble_eq_true rfl) (Nat.le_of_ble_eq_true rfl) ?_
      exact W.iret hx hb hr (fun t ht hW => ⟨⟨_, u0, rfl, ⟨e8, hu0⟩, by rw [← e9, ht]; exact hP, by rw [← e9]; exact hD⟩, hS.F ht⟩) hS.2.2 dL_act_190
    · have hf := it q69 hf
      refine lv_aload_n hx hb dL_act_177 rfl (lv_at hl 2 rfl) ?_
      refine lv_iload_n hx hb dL_act_178 rfl (lv_at hl 0 rfl) ?_
      obtain ⟨r74, S75, e76, hf⟩ := bS_inv hf
      refine jw_i (w1 := wX7 dA oa S75 (lT u0)) (noRun (vx_runSX (As := [.ref (oa 0), .int (((p1 >>> ((4 : Int32) &&& 31)) &&& (65535 : Int32)) - ((p1 >>> ((4 : Int32) &&& 31)) &&& (65535 : Int32)) / 5 * 5)]) (rest := []) ⟨hx, hb, hml, hown, hts⟩ (m_L_gradePat l hl0 dC dI dA gz oa s.heap.size (lT u0) S (((p1 >>> ((4 : Int32) &&& 31)) &&& (65535 : Int32)) - ((p1 >>> ((4 : Int32) &&& 31)) &&& (65535 : Int32)) / 5 * 5) r74 S75 e76) (vx_cwSW 2 hts (gi_t bg wd_945 wd_946 wd_0 wd_947) rfl rfl rfl hd3_L_gradePat ⟨Nat.le_of_ble_eq_true rfl, Nat.le_of_ble_eq_true rfl⟩) ⟨pL_blind, pL_of hC (pP_preW hP hD hS hA hK hN hZ)⟩ rfl rfl hl.1 rfl (lv_room (Nat.le_of_ble_eq_true rfl)) dL_act_179 ⟨Nat.le_of_ble_eq_true rfl, Nat.le_of_ble_eq_true rfl⟩)) hD hS hA (fun H locs hP hD hS => ?_)
      refine lv_goto (tgt := 190) hx hb dL_act_182 (by decide) ?_
      obtain ⟨e8, e9⟩ := Prod.mk.inj (sm hf)
      refine W.widen (k := 31) (n := 186) (Nat.le_of_ble_eq_true rfl) (Nat.le_of_ble_eq_true rfl) ?_
      exact W.iret hx hb hr (fun t ht hW => ⟨⟨_, u0, rfl, ⟨e8, hu0⟩, by rw [← e9, ht]; exact hP, by rw [← e9]; exact hD⟩, hS.F ht⟩) hS.2.2 dL_act_190
  have hf := ie q68 hf
  by_cases q78 : (p1 &&& (15 : Int32)) = 12
  · have hf := it q78 hf
    refine lv_tableIn (tgt := 191) hx hb dL_act_15 (by rw [q78]; decide) (by rw [q78]; decide) (by rw [q78]; rfl) (by decide) ?_
    exact cut191 S u0 ((p1 >>> ((4 : Int32) &&& 31)) &&& (65535 : Int32)) _ _ _ hf hu0 hP hD hS (lv_sub hl [2, 1] rfl)
  have hf := ie q78 hf
  by_cases q79 : (p1 &&& (15 : Int32)) = 13
  · have hf := it q79 hf
    refine lv_tableIn (tgt := 191) hx hb dL_act_15 (by rw [q79]; decide) (by rw [q79]; decide) (by rw [q79]; rfl) (by decide) ?_
    exact cut191 S u0 ((p1 >>> ((4 : Int32) &&& 31)) &&& (65535 : Int32)) _ _ _ hf hu0 hP hD hS (lv_sub hl [2, 1] rfl)
  have hf := ie q79 hf
  by_cases q80 : (p1 &&& (15 : Int32)) = 14
  · have hf := it q80 hf
    refine lv_tableIn (tgt := 191) hx hb dL_act_15 (by rw [q80]; decide) (by rw [q80]; decide) (by rw [q80]; rfl) (by decide) ?_
    exact cut191 S u0 ((p1 >>> ((4 : Int32) &&& 31)) &&& (65535 : Int32)) _ _ _ hf hu0 hP hD hS (lv_sub hl [2, 1] rfl)
  have hf := ie q80 hf
  refine lv_tableOut (tgt := 209) hx hb dL_act_15 (by have := ti_ne (k := 0) q16 (by decide); have := ti_ne (k := 1) q17 (by decide); have := ti_ne (k := 2) q18 (by decide); have := ti_ne (k := 3) q28 (by decide); have := ti_ne (k := 4) q33 (by decide); have := ti_ne (k := 5) q38 (by decide); have := ti_ne (k := 6) q43 (by decide); have := ti_ne (k := 7) q48 (by decide); have := ti_ne (k := 8) q53 (by decide); have := ti_ne (k := 9) q58 (by decide); have := ti_ne (k := 10) q63 (by decide); have := ti_ne (k := 11) q68 (by decide); have := ti_ne (k := 12) q78 (by decide); have := ti_ne (k := 13) q79 (by decide); have := ti_ne (k := 14) q80 (by decide); omega) (by decide) ?_
  refine lv_iload_n hx hb dL_act_209 rfl (lv_at hl 1 rfl) ?_
  refine lv_iconst (v := 3) hx hb dL_act_210 (by decide) ?_
  refine lv_iand hx hb dL_act_211 ?_
  refine lv_if_ne (tgt := 222) hx hb dL_act_212 (by decide) (fun q81 => ?_) (fun q81 => ?_)
  · have hf := ie q81 hf
    refine lv_iload_n hx hb dL_act_222 rfl (lv_at hl 1 rfl) ?_
    refine lv_iconst (v := 3) hx hb dL_act_223 (by decide) ?_
    refine lv_iand hx hb dL_act_224 ?_
    refine lv_iconst (v := 1) hx hb dL_act_225 (by decide) ?_
    refine lv_icmp_ne (tgt := 236) hx hb dL_act_226 (by decide) (fun q82 => ?_) (fun q82 => ?_)
    · have hf := ie q82 hf
      refine lv_aload_n hx hb dL_act_236 rfl (lv_at hl 2 rfl) ?_
      obtain ⟨r83, S84, e85, hf⟩ := bS_inv hf
      refine jw_i (w1 := wX7 dA oa S84 (lT u0)) (noRun (vx_runSX (As := [.ref (oa 0)]) (rest := []) ⟨hx, hb, hml, hown, hts⟩ (m_L_undo l hl0 dC dI dA gz oa s.heap.size (lT u0) S  r83 S84 e85) (vx_cwSW 1 hts (gi_t bg wd_831 wd_832 wd_0 wd_833) rfl rfl rfl hd3_L_undo ⟨Nat.le_of_ble_eq_true rfl, Nat.le_of_ble_eq_true rfl⟩) ⟨pL_blind, pL_of hC (pP_preW hP hD hS hA hK hN hZ)⟩ rfl rfl hl.1 rfl (lv_room (Nat.le_of_ble_eq_true rfl)) dL_act_237 ⟨Nat.le_of_ble_eq_true rfl, Nat.le_of_ble_eq_true rfl⟩)) hD hS hA (fun H locs hP hD hS => ?_)
      obtain ⟨e8, e9⟩ := Prod.mk.inj (sm hf)
      refine W.widen (k := 31) (n := 186) (Nat.le_of_ble_eq_true rfl) (Nat.le_of_ble_eq_true rfl) ?_
      exact W.iret hx hb hr (fun t ht hW => ⟨⟨_, u0, rfl, ⟨e8, hu0⟩, by rw [← e9, ht]; exact hP, by rw [← e9]; exact hD⟩, hS.F ht⟩) hS.2.2 dL_act_240
    · have hf := it q82 hf
      refine lv_aload_n hx hb dL_act_229 rfl (lv_at hl 2 rfl) ?_
      obtain ⟨r87, S88, e89, hf⟩ := bS_inv hf
      refine jw_i (w1 := wX7 dA oa S88 (lT u0)) (noRun (vx_runSX (As := [.ref (oa 0)]) (rest := []) ⟨hx, hb, hml, hown, hts⟩ (m_L_restore l hl0 dC dI dA gz oa s.heap.size (lT u0) S  r87 S88 e89) (vx_cwSW 1 hts (gi_t bg wd_859 wd_860 wd_0 wd_861) rfl rfl rfl hd3_L_restore ⟨Nat.le_of_ble_eq_true rfl, Nat.le_of_ble_eq_true rfl⟩) ⟨pL_blind, pL_of hC (pP_preW hP hD hS hA hK hN hZ)⟩ rfl rfl hl.1 rfl (lv_room (Nat.le_of_ble_eq_true rfl)) dL_act_230 ⟨Nat.le_of_ble_eq_true rfl, Nat.le_of_ble_eq_true rfl⟩)) hD hS hA (fun H locs hP hD hS => ?_)
      refine lv_goto (tgt := 240) hx hb dL_act_233 (by decide) ?_
      obtain ⟨e8, e9⟩ := Prod.mk.inj (sm hf)
      refine W.widen (k := 31) (n := 186) (Nat.le_of_ble_eq_true rfl) (Nat.le_of_ble_eq_true rfl) ?_
      exact W.iret hx hb hr (fun t ht hW => ⟨⟨_, u0, rfl, ⟨e8, hu0⟩, by rw [← e9, ht]; exact hP, by rw [← e9]; exact hD⟩, hS.F ht⟩) hS.2.2 dL_act_240
  · have hf := it q81 hf
    refine lv_aload_n hx hb dL_act_215 rfl (lv_at hl 2 rfl) ?_
    obtain ⟨r91, S92, e93, hf⟩ := bS_inv hf
    refine jw_i (w1 := wX7 dA oa S92 (lT u0)) (va_runV (As := []) (rest := []) ⟨hx, hb, hml, hown, hts⟩ (mt_X7_saveSnapshot l dC dI dA gz oa s.heap.size (lT u0) S  r91 S92 e93) (cwV 0 hts (gi_v bg wd_312 wd_313 wd_314 wd_1 wd_315) rfl rfl rfl hd_X7_saveSnapshot ⟨Nat.le_of_ble_eq_true rfl, Nat.le_of_ble_eq_true rfl⟩) ⟨pP_blind, va_recv (ci := 11) (q0 := 0) hK hP rfl rfl, pP_preW hP hD hS hA hK hN hZ⟩ rfl rfl hl.1 rfl (lv_room (Nat.le_of_ble_eq_true rfl)) dL_act_216 ⟨Nat.le_of_ble_eq_true rfl, Nat.le_of_ble_eq_true rfl⟩) hD hS hA (fun H locs hP hD hS => ?_)
    refine lv_goto (tgt := 240) hx hb dL_act_219 (by decide) ?_
    obtain ⟨e8, e9⟩ := Prod.mk.inj (sm hf)
    refine W.widen (k := 31) (n := 186) (Nat.le_of_ble_eq_true rfl) (Nat.le_of_ble_eq_true rfl) ?_
    exact W.iret hx hb hr (fun t ht hW => ⟨⟨_, u0, rfl, ⟨e8, hu0⟩, by rw [← e9, ht]; exact hP, by rw [← e9]; exact hD⟩, hS.F ht⟩) hS.2.2 dL_act_240
/-! L_isCycle -/
def f_L_isCycle_190  (S : SX7)  : Option (Int32 × SX7) :=
  (g_X7_temperature S).bind fun r1 =>
  (if r1 < 0 then some (0, S) else
  (g_X7_temperature S).bind fun r6 =>
  (if 200 < r6 then some (0, S) else
  (g_X7_smoothness S).bind fun r11 =>
  (if 100 < r11 then some (0, S) else
  (g_X7_stress S).bind fun r16 =>
  (if 99 < r16 then some (0, S) else
  some (1, S)))))
def f_L_isCycle_151  (S : SX7) (x1 : Int32) (x3 : Int32) (x4 : Int32) (k0 : Int32) : Option (Int32 × SX7) :=
  (if k0 = 0 then some (0, S) else
  (g_X7_isRunning S).bind fun r22 =>
  (if r22 = 0 then (if x3 = 0 then f_L_isCycle_190 S else
  some (0, S)) else
  (if x3 ≤ x4 then some (0, S) else
  bT (g_X7_phaseMinutes S x1) fun r29 S30 =>
  (if (x4 + r29) < x3 then some (0, S30) else
  f_L_isCycle_190 S30))))
def f_L_isCycle_150  (S : SX7) (x1 : Int32) (x3 : Int32) (x4 : Int32) : Option (Int32 × SX7) :=
  f_L_isCycle_151 S x1 x3 x4 0
def f_L_isCycle_133  (S : SX7) (x1 : Int32) (x3 : Int32) (x4 : Int32) (k0 : Int32) (k1 : Int32) (k2 : Int32) : Option (Int32 × SX7) :=
  (if k0 = (k1 + k2) then (g_X7_phaseCount S).bind fun r35 =>
  (if 8 < r35 then f_L_isCycle_150 S x1 x3 x4 else
  f_L_isCycle_151 S x1 x3 x4 1) else
  f_L_isCycle_150 S x1 x3 x4)
def f_L_isCycle_105  (S : SX7) (x1 : Int32) (x2 : Int32) (x3 : Int32) (x4 : Int32) (k0 : Int32) (k1 : Int32) : Option (Int32 × SX7) :=
  (if k0 = k1 then (g_X7_minutesLeftByPhases S).bind fun r41 =>
  (if r41 = x3 then (g_X7_writeCycle S).bind fun r46 =>
  (g_X7_isRunning S).bind fun r50 =>
  (if r50 = 0 then f_L_isCycle_133 S x1 x3 x4 r46 x2 0 else
  f_L_isCycle_133 S x1 x3 x4 r46 x2 1) else
  f_L_isCycle_150 S x1 x3 x4) else
  f_L_isCycle_150 S x1 x3 x4)
def f_L_isCycle_34  : Nat → SX7 → Int32 → Int32 → Int32 → Int32 → Int32 → Option (Int32 × SX7)
  | 0, _, _, _, _, _, _ => none
  | n9 + 1, S, x1, x2, x3, x4, x5 =>
  (g_X7_phaseCount S).bind fun r55 =>
  (if r55 ≤ x5 then (g_X7_isRunning S).bind fun r60 =>
  (if x1 = (-1000) then f_L_isCycle_105 S x1 x2 x3 x4 r60 0 else
  f_L_isCycle_105 S x1 x2 x3 x4 r60 1) else
  bT (g_X7_phaseMinutes S x5) fun r65 S66 =>
  (if r65 ≤ 9 then (if x5 ≤ x1 then f_L_isCycle_34 n9 S66 x1 (x2 + 4) x3 (x4 + 0) (x5 + 1) else
  bT (g_X7_phaseMinutes S66 x5) fun r71 S72 =>
  f_L_isCycle_34 n9 S72 x1 (x2 + 4) x3 (x4 + r71) (x5 + 1)) else
  (if x5 ≤ x1 then f_L_isCycle_34 n9 S66 x1 (x2 + 5) x3 (x4 + 0) (x5 + 1) else
  bT (g_X7_phaseMinutes S66 x5) fun r76 S77 =>
  f_L_isCycle_34 n9 S77 x1 (x2 + 5) x3 (x4 + r76) (x5 + 1))))
def f_L_isCycle (S : SX7)  : Option (Int32 × SX7) :=
  bS (f_L_presentPhase S) fun r80 S81 =>
  (g_X7_phaseCount S81).bind fun r84 =>
  (if r84 = 0 then bS (g_X7_minutesLeft S81) fun r97 S98 =>
  f_L_isCycle_34 9 S98 r80 0 r97 0 0 else
  (g_X7_phaseCount S81).bind fun r89 =>
  bS (g_X7_minutesLeft S81) fun r93 S94 =>
  f_L_isCycle_34 9 S94 r80 (r89 - 1) r93 0 0)
set_option maxRecDepth 100000 in
set_option maxHeartbeats 8000000 in
theorem m_L_isCycle (l : Launch) (hl0 : l.stackTraces = false) (dC : Nat → ClassId) (dI : Nat → Nat → Nat) (dA gz : Nat → Nat) (oa : Nat → Nat) (sz : Nat) (u0 : LU) (hu0 : LNk u0) (S : SX7)  (rr : Int32) (uu : SX7) (hf : f_L_isCycle S  = some (rr, uu)) : Met l yL_isCycle ws_L_isCycle ({ frames := 50, cells := 304, slots := 688, locals := 2200 } : Room) (va_Pc [.ref (oa 0)] (pL (dC, dI) dA gz (wX7 dA oa S (lT u0)) sz)) (va_Qi (S := LU) (fun r' u => r' = rr ∧ LNk u) (fun u t => pQ (dC, dI) (va_A (wX7 dA oa S (lT u0)) sz) (wX7 dA oa uu (lT u)) t) (va_A (wX7 dA oa S (lT u0)) sz)) 304 688 (va_A (wX7 dA oa S (lT u0)) sz) := by
  refine Met.ofW (cc := cL_isCycle) (maxL := 6) (ret := (some .boolean)) (by decide) rfl ?_
  intro p e s m args below meth c s₁ B hml hv
  obtain ⟨rfl, ⟨hsz, hP, hK, hD0, hN, hZ⟩, hC⟩ := hv
  have hx := B.exec
  have hb := B.bytes
  have hr := B.returns
  have hts := atoms_spec (ws := ws_L_isCycle) B.pre
  have hown : s.vm.findClass RL = some m.cls := findClass_of_methodNamed B.named
  have hlocks := B.notSynchronized
  subst hsz
  have hD := hD0.self (sz := s.heap.size)
  generalize hAe : va_A (wX7 dA oa S (lT u0)) s.heap.size = A at hD hZ ⊢
  have hA : ∀ q : Nat, s.heap.size ≤ q → A q := fun q h => by rw [← hAe]; exact Or.inr h
  have hS : va_S A s.heap s.heap [] := va_S.rf
  have hl := lv_entry [.ref (oa 0)] (n := 6) (Nat.le_of_ble_eq_true rfl)
  rw [lg_entry_eq]
  generalize (lg_sl [.ref (oa 0)] ++ List.replicate (6 - (lg_sl [.ref (oa 0)]).length) Slot.unset).toArray = ls at hl ⊢
  have hl : lv_has ls 6 [(0, .ref (oa 0))] := hl
  have cut190 : ∀ (S : SX7) (u : LU)  (H : Heap) (locs : List Loc) (ls : Array Slot), f_L_isCycle_190 S = some (rr, uu) → LNk u → va_P (dC, dI) vwCl (wX7 dA oa S (lT u)) H → va_D A (wX7 dA oa S (lT u)) → va_S A s.heap H locs → lv_has ls 6 [(0, .ref (oa 0))] → W p l e (headSpec ws_L_isCycle ({ frames := 50, cells := 304, slots := 688, locals := 2200 } : Room)).room s m ([.ref (oa 0)] : List Value).toArray below meth c H locs (304) (688) (MQ below (va_Qi (S := LU) (fun r' u => r' = rr ∧ LNk u) (fun u t => pQ (dC, dI) A (wX7 dA oa uu (lT u)) t) A) ([.ref (oa 0)] : List Value).toArray s 304 688 A) (F0 m 190 ls []) := by
    intro S u  H locs ls hf hu hP hD hS hl
    rw [f_L_isCycle_190] at hf
    refine lv_aload_n hx hb dL_isCycle_190 rfl (lv_at hl 0 rfl) ?_
    obtain ⟨r1, e3, hf⟩ := bd hf
    refine jw_i (w1 := wX7 dA oa S (lT u)) (va_runV (As := []) (rest := []) ⟨hx, hb, hml, hown, hts⟩ (mt_X7_temperature l dC dI dA gz oa H.size (lT u) S  r1 e3) (cwV 0 hts (gi_v bg wd_979 wd_980 wd_981 wd_1 wd_982) rfl rfl rfl hd_X7_temperature ⟨Nat.le_of_ble_eq_true rfl, Nat.le_of_ble_eq_true rfl⟩) ⟨pP_blind, va_recv (ci := 11) (q0 := 0) hK hP rfl rfl, pP_preW hP hD hS hA hK hN hZ⟩ rfl rfl hl.1 rfl (lv_room (Nat.le_of_ble_eq_true rfl)) dL_isCycle_191 ⟨Nat.le_of_ble_eq_true rfl, Nat.le_of_ble_eq_true rfl⟩) hD hS hA (fun H locs hP hD hS => ?_)
    refine lv_if_lt (tgt := 229) hx hb dL_isCycle_194 (by decide) (fun q5 => ?_) (fun q5 => ?_)
    · have hf := it q5 hf
      refine lv_iconst (v := 0) hx hb dL_isCycle_229 (by decide) ?_
      obtain ⟨e8, e9⟩ := Prod.mk.inj (sm hf)
      exact W.zret hx hb hr rfl (fun t ht hW => ⟨⟨_, u, rfl, ⟨e8, hu⟩, by rw [← e9, ht]; exact hP, by rw [← e9]; exact hD⟩, hS.F ht⟩) hS.2.2 dL_isCycle_230
    · have hf := ie q5 hf
      refine lv_aload_n hx hb dL_isCycle_197 rfl (lv_at hl 0 rfl) ?_
      obtain ⟨r6, e8, hf⟩ := bd hf
      refine jw_i (w1 := wX7 dA oa S (lT u)) (va_runV (As := []) (rest := []) ⟨hx, hb, hml, hown, hts⟩ (mt_X7_temperature l dC dI dA gz oa H.size (lT u) S  r6 e8) (cwV 0 hts (gi_v bg wd_979 wd_980 wd_981 wd_1 wd_982) rfl rfl rfl hd_X7_temperature ⟨Nat.le_of_ble_eq_true rfl, Nat.le_of_ble_eq_true rfl⟩) ⟨pP_blind, va_recv (ci := 11) (q0 := 0) hK hP rfl rfl, pP_preW hP hD hS hA hK hN hZ⟩ rfl rfl hl.1 rfl (lv_room (Nat.le_of_ble_eq_true rfl)) dL_isCycle_198 ⟨Nat.le_of_ble_eq_true rfl, Nat.le_of_ble_eq_true rfl⟩) hD hS hA (fun H locs hP hD hS => ?_)
      refine lv_sipush (v := 200) hx hb dL_isCycle_201 (by decide) ?_
      refine lv_icmp_gt (tgt := 229) hx hb dL_isCycle_204 (by decide) (fun q10 => ?_) (fun q10 => ?_)
      · have hf := it q10 hf
        refine lv_iconst (v := 0) hx hb dL_isCycle_229 (by decide) ?_
        obtain ⟨e8, e9⟩ := Prod.mk.inj (sm hf)
        exact W.zret hx hb hr rfl (fun t ht hW => ⟨⟨_, u, rfl, ⟨e8, hu⟩, by rw [← e9, ht]; exact hP, by rw [← e9]; exact hD⟩, hS.F ht⟩) hS.2.2 dL_isCycle_230
      · have hf := ie q10 hf
        refine lv_aload_n hx hb dL_isCycle_207 rfl (lv_at hl 0 rfl) ?_
        obtain ⟨r11, e13, hf⟩ := bd hf
        refine jw_i (w1 := wX7 dA oa S (lT u)) (va_runV (As := []) (rest := []) ⟨hx, hb, hml, hown, hts⟩ (mt_X7_smoothness l dC dI dA gz oa H.size (lT u) S  r11 e13) (cwV 0 hts (gi_v bg wd_984 wd_985 wd_986 wd_1 wd_987) rfl rfl rfl hd_X7_smoothness ⟨Nat.le_of_ble_eq_true rfl, Nat.le_of_ble_eq_true rfl⟩) ⟨pP_blind, va_recv (ci := 11) (q0 := 0) hK hP rfl rfl, pP_preW hP hD hS hA hK hN hZ⟩ rfl rfl hl.1 rfl (lv_room (Nat.le_of_ble_eq_true rfl)) dL_isCycle_208 ⟨Nat.le_of_ble_eq_true rfl, Nat.le_of_ble_eq_true rfl⟩) hD hS hA (fun H locs hP hD hS => ?_)
        refine lv_bipush (v := 100) hx hb dL_isCycle_211 (by decide) ?_
        refine lv_icmp_gt (tgt := 229) hx hb dL_isCycle_213 (by decide) (fun q15 => ?_) (fun q15 => ?_)
        · have hf := it q15 hf
          refine lv_iconst (v := 0) hx hb dL_isCycle_229 (by decide) ?_
          obtain ⟨e8, e9⟩ := Prod.mk.inj (sm hf)
          exact W.zret hx hb hr rfl (fun t ht hW => ⟨⟨_, u, rfl, ⟨e8, hu⟩, by rw [← e9, ht]; exact hP, by rw [← e9]; exact hD⟩, hS.F ht⟩) hS.2.2 dL_isCycle_230
        · have hf := ie q15 hf
          refine lv_aload_n hx hb dL_isCycle_216 rfl (lv_at hl 0 rfl) ?_
          obtain ⟨r16, e18, hf⟩ := bd hf
          refine jw_i (w1 := wX7 dA oa S (lT u)) (va_runV (As := []) (rest := []) ⟨hx, hb, hml, hown, hts⟩ (mt_X7_stress l dC dI dA gz oa H.size (lT u) S  r16 e18) (cwV 0 hts (gi_v bg wd_989 wd_990 wd_991 wd_1 wd_992) rfl rfl rfl hd_X7_stress ⟨Nat.le_of_ble_eq_true rfl, Nat.le_of_ble_eq_true rfl⟩) ⟨pP_blind, va_recv (ci := 11) (q0 := 0) hK hP rfl rfl, pP_preW hP hD hS hA hK hN hZ⟩ rfl rfl hl.1 rfl (lv_room (Nat.le_of_ble_eq_true rfl)) dL_isCycle_217 ⟨Nat.le_of_ble_eq_true rfl, Nat.le_of_ble_eq_true rfl⟩) hD hS hA (fun H locs hP hD hS => ?_)
          refine lv_bipush (v := 99) hx hb dL_isCycle_220 (by decide) ?_
          refine lv_icmp_gt (tgt := 229) hx hb dL_isCycle_222 (by decide) (fun q20 => ?_) (fun q20 => ?_)
          · have hf := it q20 hf
            refine lv_iconst (v := 0) hx hb dL_isCycle_229 (by decide) ?_
            obtain ⟨e8, e9⟩ := Prod.mk.inj (sm hf)
            exact W.zret hx hb hr rfl (fun t ht hW => ⟨⟨_, u, rfl, ⟨e8, hu⟩, by rw [← e9, ht]; exact hP, by rw [← e9]; exact hD⟩, hS.F ht⟩) hS.2.2 dL_isCycle_230
          · have hf := ie q20 hf
            refine lv_iconst (v := 1) hx hb dL_isCycle_225 (by decide) ?_
            refine lv_goto (tgt := 230) hx hb dL_isCycle_226 (by decide) ?_
            obtain ⟨e8, e9⟩ := Prod.mk.inj (sm hf)
            exact W.zret hx hb hr rfl (fun t ht hW => ⟨⟨_, u, rfl, ⟨e8, hu⟩, by rw [← e9, ht]; exact hP, by rw [← e9]; exact hD⟩, hS.F ht⟩) hS.2.2 dL_isCycle_230
  have cut151 : ∀ (S : SX7) (u : LU) (x1 : Int32) (x3 : Int32) (x4 : Int32) (k0 : Int32) (H : Heap) (locs : List Loc) (ls : Array Slot), f_L_isCycle_151 S x1 x3 x4 k0 = some (rr, uu) → LNk u → va_P (dC, dI) vwCl (wX7 dA oa S (lT u)) H → va_D A (wX7 dA oa S (lT u)) → va_S A s.heap H locs → lv_has ls 6 [(0, .ref (oa 0)), (1, .int x1), (3, .int x3), (4, .int x4)] → W p l e (headSpec ws_L_isCycle ({ frames := 50, cells := 304, slots := 688, locals := 2200 } : Room)).room s m ([.ref (oa 0)] : List Value).toArray below meth c H locs (303) (682) (MQ below (va_Qi (S := LU) (fun r' u => r' = rr ∧ LNk u) (fun u t => pQ (dC, dI) A (wX7 dA oa uu (lT u)) t) A) ([.ref (oa 0)] : List Value).toArray s 304 688 A) (F0 m 151 ls [.int k0]) := by
    intro S u x1 x3 x4 k0 H locs ls hf hu hP hD hS hl
    rw [f_L_isCycle_151] at hf
    refine lv_istore (lv' := [(5, .int k0), (0, .ref (oa 0)), (1, .int x1), (3, .int x3), (4, .int x4)]) hx hb dL_isCycle_151 hl (by decide) rfl (fun ls hl => ?_)
    refine lv_iload hx hb dL_isCycle_153 (lv_at hl 0 rfl) ?_
    refine lv_if_eq (tgt := 229) hx hb dL_isCycle_155 (by decide) (fun q21 => ?_) (fun q21 => ?_)
    · have hf := it q21 hf
      refine lv_iconst (v := 0) hx hb dL_isCycle_229 (by decide) ?_
      obtain ⟨e8, e9⟩ := Prod.mk.inj (sm hf)
      refine W.widen (k := 304) (n := 688) (Nat.le_of_ble_eq_true rfl) (Nat.le_of_ble_eq_true rfl) ?_
      exact W.zret hx hb hr rfl (fun t ht hW => ⟨⟨_, u, rfl, ⟨e8, hu⟩, by rw [← e9, ht]; exact hP, by rw [← e9]; exact hD⟩, hS.F ht⟩) hS.2.2 dL_isCycle_230
    · have hf := ie q21 hf
      refine lv_aload_n hx hb dL_isCycle_158 rfl (lv_at hl 1 rfl) ?_
      obtain ⟨r22, e24, hf⟩ := bd hf
      refine jw_i (w1 := wX7 dA oa S (lT u)) (va_runV (As := []) (rest := []) ⟨hx, hb, hml, hown, hts⟩ (mt_X7_isRunning l dC dI dA gz oa H.size (lT u) S  r22 e24) (cwV 0 hts (gi_v bg wd_1419 wd_1420 wd_1421 wd_1 wd_1422) rfl rfl rfl hd_X7_isRunning ⟨Nat.le_of_ble_eq_true rfl, Nat.le_of_ble_eq_true rfl⟩) ⟨pP_blind, va_recv (ci := 11) (q0 := 0) hK hP rfl rfl, pP_preW hP hD hS hA hK hN hZ⟩ rfl rfl hl.1 rfl (lv_room (Nat.le_of_ble_eq_true rfl)) dL_isCycle_159 ⟨Nat.le_of_ble_eq_true rfl, Nat.le_of_ble_eq_true rfl⟩) hD hS hA (fun H locs hP hD hS => ?_)
      refine lv_if_eq (tgt := 186) hx hb dL_isCycle_162 (by decide) (fun q26 => ?_) (fun q26 => ?_)
      · have hf := it q26 hf
        refine lv_iload_n hx hb dL_isCycle_186 rfl (lv_at hl 3 rfl) ?_
        refine lv_if_ne (tgt := 229) hx hb dL_isCycle_187 (by decide) (fun q27 => ?_) (fun q27 => ?_)
        · have hf := ie q27 hf
          refine lv_iconst (v := 0) hx hb dL_isCycle_229 (by decide) ?_
          obtain ⟨e8, e9⟩ := Prod.mk.inj (sm hf)
          refine W.widen (k := 304) (n := 688) (Nat.le_of_ble_eq_true rfl) (Nat.le_of_ble_eq_true rfl) ?_
          exact W.zret hx hb hr rfl (fun t ht hW => ⟨⟨_, u, rfl, ⟨e8, hu⟩, by rw [← e9, ht]; exact hP, by rw [← e9]; exact hD⟩, hS.F ht⟩) hS.2.2 dL_isCycle_230
        · have hf := it q27 hf
          refine W.widen (k := 304) (n := 688) (Nat.le_of_ble_eq_true rfl) (Nat.le_of_ble_eq_true rfl) ?_
          exact cut190 S u  _ _ _ hf hu hP hD hS (lv_sub hl [1] rfl)
      · have hf := ie q26 hf
        refine lv_iload_n hx hb dL_isCycle_165 rfl (lv_at hl 3 rfl) ?_
        refine lv_iload hx hb dL_isCycle_166 (lv_at hl 4 rfl) ?_
        refine lv_icmp_le (tgt := 229) hx hb dL_isCycle_168 (by decide) (fun q28 => ?_) (fun q28 => ?_)
        · have hf := it q28 hf
          refine lv_iconst (v := 0) hx hb dL_isCycle_229 (by decide) ?_
          obtain ⟨e8, e9⟩ := Prod.mk.inj (sm hf)
          refine W.widen (k := 304) (n := 688) (Nat.le_of_ble_eq_true rfl) (Nat.le_of_ble_eq_true rfl) ?_
          exact W.zret hx hb hr rfl (fun t ht hW => ⟨⟨_, u, rfl, ⟨e8, hu⟩, by rw [← e9, ht]; exact hP, by rw [← e9]; exact hD⟩, hS.F ht⟩) hS.2.2 dL_isCycle_230
        · have hf := ie q28 hf
          refine lv_iload_n hx hb dL_isCycle_171 rfl (lv_at hl 3 rfl) ?_
          refine lv_iload hx hb dL_isCycle_172 (lv_at hl 4 rfl) ?_
          refine lv_aload_n hx hb dL_isCycle_174 rfl (lv_at hl 1 rfl) ?_
          refine lv_iload_n hx hb dL_isCycle_175 rfl (lv_at hl 2 rfl) ?_
          obtain ⟨r29, S30, e31, hf⟩ := bT_inv hf
          refine jx_i (w1 := wX7 dA oa S30 (lT u)) (vx_runV (As := [.int x1]) (rest := [.int x4, .int x3]) ⟨hx, hb, hml, hown, hts⟩ (mt_X7_phaseMinutes l hl0 dC dI dA gz oa H.size (lT u) S x1 (.inl r29) S30 e31) (cwV 1 hts (gi_v bg wd_1042 wd_1043 wd_1044 wd_1 wd_1045) rfl rfl rfl hd_X7_phaseMinutes ⟨Nat.le_of_ble_eq_true rfl, Nat.le_of_ble_eq_true rfl⟩) ⟨pP_blind, va_recv (ci := 11) (q0 := 0) hK hP rfl rfl, pP_preW hP hD hS hA hK hN hZ⟩ rfl rfl hl.1 rfl (lv_room (Nat.le_of_ble_eq_true rfl)) dL_isCycle_176 ⟨Nat.le_of_ble_eq_true rfl, Nat.le_of_ble_eq_true rfl⟩) hD hS hA (fun E ce q9 H locs h9 _ _ _ _ _ _ => nomatch h9) (fun r9 H locs h9 hP hD hS => ?_)
          cases h9
          refine lv_iadd hx hb dL_isCycle_179 ?_
          refine lv_icmp_gt (tgt := 229) hx hb dL_isCycle_180 (by decide) (fun q33 => ?_) (fun q33 => ?_)
          · have hf := it q33 hf
            refine lv_iconst (v := 0) hx hb dL_isCycle_229 (by decide) ?_
            obtain ⟨e8, e9⟩ := Prod.mk.inj (sm hf)
            exact W.zret hx hb hr rfl (fun t ht hW => ⟨⟨_, u, rfl, ⟨e8, hu⟩, by rw [← e9, ht]; exact hP, by rw [← e9]; exact hD⟩, hS.F ht⟩) hS.2.2 dL_isCycle_230
          · have hf := ie q33 hf
            refine lv_goto (tgt := 190) hx hb dL_isCycle_183 (by decide) ?_
            exact cut190 S30 u  _ _ _ hf hu hP hD hS (lv_sub hl [1] rfl)
  have cut150 : ∀ (S : SX7) (u : LU) (x1 : Int32) (x3 : Int32) (x4 : Int32) (H : Heap) (locs : List Loc) (ls : Array Slot), f_L_isCycle_150 S x1 x3 x4 = some (rr, uu) → LNk u → va_P (dC, dI) vwCl (wX7 dA oa S (lT u)) H → va_D A (wX7 dA oa S (lT u)) → va_S A s.heap H locs → lv_has ls 6 [(0, .ref (oa 0)), (1, .int x1), (3, .int x3), (4, .int x4)] → W p l e (headSpec ws_L_isCycle ({ frames := 50, cells := 304, slots := 688, locals := 2200 } : Room)).room s m ([.ref (oa 0)] : List Value).toArray below meth c H locs (303) (682) (MQ below (va_Qi (S := LU) (fun r' u => r' = rr ∧ LNk u) (fun u t => pQ (dC, dI) A (wX7 dA oa uu (lT u)) t) A) ([.ref (oa 0)] : List Value).toArray s 304 688 A) (F0 m 150 ls []) := by
    intro S u x1 x3 x4 H locs ls hf hu hP hD hS hl
    rw [f_L_isCycle_150] at hf
    refine lv_iconst (v := 0) hx hb dL_isCycle_150 (by decide) ?_
    exact cut151 S u x1 x3 x4 0 _ _ _ hf hu hP hD hS (lv_sub hl [0, 1, 2, 3] rfl)
  have cut133 : ∀ (S : SX7) (u : LU) (x1 : Int32) (x3 : Int32) (x4 : Int32) (k0 : Int32) (k1 : Int32) (k2 : Int32) (H : Heap) (locs : List Loc) (ls : Array Slot), f_L_isCycle_133 S x1 x3 x4 k0 k1 k2 = some (rr, uu) → LNk u → va_P (dC, dI) vwCl (wX7 dA oa S (lT u)) H → va_D A (wX7 dA oa S (lT u)) → va_S A s.heap H locs → lv_has ls 6 [(0, .ref (oa 0)), (1, .int x1), (3, .int x3), (4, .int x4)] → W p l e (headSpec ws_L_isCycle ({ frames := 50, cells := 304, slots := 688, locals := 2200 } : Room)).room s m ([.ref (oa 0)] : List Value).toArray below meth c H locs (303) (682) (MQ below (va_Qi (S := LU) (fun r' u => r' = rr ∧ LNk u) (fun u t => pQ (dC, dI) A (wX7 dA oa uu (lT u)) t) A) ([.ref (oa 0)] : List Value).toArray s 304 688 A) (F0 m 133 ls [.int k2, .int k1, .int k0]) := by
    intro S u x1 x3 x4 k0 k1 k2 H locs ls hf hu hP hD hS hl
    rw [f_L_isCycle_133] at hf
    refine lv_iadd hx hb dL_isCycle_133 ?_
    refine lv_icmp_ne (tgt := 150) hx hb dL_isCycle_134 (by decide) (fun q34 => ?_) (fun q34 => ?_)
    · have hf := ie q34 hf
      exact cut150 S u x1 x3 x4 _ _ _ hf hu hP hD hS (lv_sub hl [0, 1, 2, 3] rfl)
    · have hf := it q34 hf
      refine lv_aload_n hx hb dL_isCycle_137 rfl (lv_at hl 0 rfl) ?_
      obtain ⟨r35, e37, hf⟩ := bd hf
      refine jw_i (w1 := wX7 dA oa S (lT u)) (va_runV (As := []) (rest := []) ⟨hx, hb, hml, hown, hts⟩ (mt_X7_phaseCount l dC dI dA gz oa H.size (lT u) S  r35 e37) (cwV 0 hts (gi_v bg wd_1014 wd_1015 wd_1016 wd_1 wd_1017) rfl rfl rfl hd_X7_phaseCount ⟨Nat.le_of_ble_eq_true rfl, Nat.le_of_ble_eq_true rfl⟩) ⟨pP_blind, va_recv (ci := 11) (q0 := 0) hK hP rfl rfl, pP_preW hP hD hS hA hK hN hZ⟩ rfl rfl hl.1 rfl (lv_room (Nat.le_of_ble_eq_true rfl)) dL_isCycle_138 ⟨Nat.le_of_ble_eq_true rfl, Nat.le_of_ble_eq_true rfl⟩) hD hS hA (fun H locs hP hD hS => ?_)
      refine lv_bipush (v := 8) hx hb dL_isCycle_141 (by decide) ?_
      refine lv_icmp_gt (tgt := 150) hx hb dL_isCycle_143 (by decide) (fun q39 => ?_) (fun q39 => ?_)
      · have hf := it q39 hf
        exact cut150 S u x1 x3 x4 _ _ _ hf hu hP hD hS (lv_sub hl [0, 1, 2, 3] rfl)
      · have hf := ie q39 hf
        refine lv_iconst (v := 1) hx hb dL_isCycle_146 (by decide) ?_
        refine lv_goto (tgt := 151) hx hb dL_isCycle_147 (by decide) ?_
        exact cut151 S u x1 x3 x4 1 _ _ _ hf hu hP hD hS (lv_sub hl [0, 1, 2, 3] rfl)
  have cut105 : ∀ (S : SX7) (u : LU) (x1 : Int32) (x2 : Int32) (x3 : Int32) (x4 : Int32) (k0 : Int32) (k1 : Int32) (H : Heap) (locs : List Loc) (ls : Array Slot), f_L_isCycle_105 S x1 x2 x3 x4 k0 k1 = some (rr, uu) → LNk u → va_P (dC, dI) vwCl (wX7 dA oa S (lT u)) H → va_D A (wX7 dA oa S (lT u)) → va_S A s.heap H locs → lv_has ls 6 [(0, .ref (oa 0)), (1, .int x1), (2, .int x2), (3, .int x3), (4, .int x4)] → W p l e (headSpec ws_L_isCycle ({ frames := 50, cells := 304, slots := 688, locals := 2200 } : Room)).room s m ([.ref (oa 0)] : List Value).toArray below meth c H locs (19) (114) (MQ below (va_Qi (S := LU) (fun r' u => r' = rr ∧ LNk u) (fun u t => pQ (dC, dI) A (wX7 dA oa uu (lT u)) t) A) ([.ref (oa 0)] : List Value).toArray s 304 688 A) (F0 m 105 ls [.int k1, .int k0]) := by
    intro S u x1 x2 x3 x4 k0 k1 H locs ls hf hu hP hD hS hl
    rw [f_L_isCycle_105] at hf
    refine lv_icmp_ne (tgt := 150) hx hb dL_isCycle_105 (by decide) (fun q40 => ?_) (fun q40 => ?_)
    · have hf := ie q40 hf
      refine W.widen (k := 303) (n := 682) (Nat.le_of_ble_eq_true rfl) (Nat.le_of_ble_eq_true rfl) ?_
      exact cut150 S u x1 x3 x4 _ _ _ hf hu hP hD hS (lv_sub hl [0, 1, 3, 4] rfl)
    · have hf := it q40 hf
      refine lv_aload_n hx hb dL_isCycle_108 rfl (lv_at hl 0 rfl) ?_
      obtain ⟨r41, e43, hf⟩ := bd hf
      refine jw_i (w1 := wX7 dA oa S (lT u)) (va_runV (As := []) (rest := []) ⟨hx, hb, hml, hown, hts⟩ (mt_X7_minutesLeftByPhases l dC dI dA gz oa H.size (lT u) S  r41 e43) (cwV 0 hts (gi_v bg wd_1423 wd_1424 wd_1425 wd_1 wd_1426) rfl rfl rfl hd_X7_minutesLeftByPhases ⟨Nat.le_of_ble_eq_true rfl, Nat.le_of_ble_eq_true rfl⟩) ⟨pP_blind, va_recv (ci := 11) (q0 := 0) hK hP rfl rfl, pP_preW hP hD hS hA hK hN hZ⟩ rfl rfl hl.1 rfl (lv_room (Nat.le_of_ble_eq_true rfl)) dL_isCycle_109 ⟨Nat.le_of_ble_eq_true rfl, Nat.le_of_ble_eq_true rfl⟩) hD hS hA (fun H locs hP hD hS => ?_)
      refine lv_iload_n hx hb dL_isCycle_112 rfl (lv_at hl 3 rfl) ?_
      refine lv_icmp_ne (tgt := 150) hx hb dL_isCycle_113 (by decide) (fun q45 => ?_) (fun q45 => ?_)
      · have hf := ie q45 hf
        refine W.widen (k := 303) (n := 682) (Nat.le_of_ble_eq_true rfl) (Nat.le_of_ble_eq_true rfl) ?_
        exact cut150 S u x1 x3 x4 _ _ _ hf hu hP hD hS (lv_sub hl [0, 1, 3, 4] rfl)
      · have hf := it q45 hf
        refine lv_aload_n hx hb dL_isCycle_116 rfl (lv_at hl 0 rfl) ?_
        obtain ⟨r46, e48, hf⟩ := bd hf
        refine jE_i (ok := LNk) (w1 := fun u9 : LU => wX7 dA oa S (lT u9)) (va_runV (As := []) (rest := []) ⟨hx, hb, hml, hown, hts⟩ (mt_X7_writeCycle l dC dI dA gz oa H.size u.1 u.2.1 u.2.2.1 u.2.2.2.1 u.2.2.2.2 hu.1 hu.2.1 hu.2.2 S  r46 e48) (cwV 0 hts (gi_v bg wd_1428 wd_1429 wd_1430 wd_1 wd_1431) rfl rfl rfl hd_X7_writeCycle ⟨Nat.le_of_ble_eq_true rfl, Nat.le_of_ble_eq_true rfl⟩) ⟨pP_blind, va_recv (ci := 11) (q0 := 0) hK hP rfl rfl, pP_preW hP hD hS hA hK hN hZ⟩ rfl rfl hl.1 rfl (lv_room (Nat.le_of_ble_eq_true rfl)) dL_isCycle_117 ⟨Nat.le_of_ble_eq_true rfl, Nat.le_of_ble_eq_true rfl⟩) hD hS hA (fun u49 H locs hu49 hP hD hS => ?_)
        refine lv_iload_n hx hb dL_isCycle_120 rfl (lv_at hl 2 rfl) ?_
        refine lv_aload_n hx hb dL_isCycle_121 rfl (lv_at hl 0 rfl) ?_
        obtain ⟨r50, e52, hf⟩ := bd hf
        refine jw_i (w1 := wX7 dA oa S (lT u49)) (va_runV (As := []) (rest := [.int x2, .int r46]) ⟨hx, hb, hml, hown, hts⟩ (mt_X7_isRunning l dC dI dA gz oa H.size (lT u49) S  r50 e52) (cwV 0 hts (gi_v bg wd_1419 wd_1420 wd_1421 wd_1 wd_1422) rfl rfl rfl hd_X7_isRunning ⟨Nat.le_of_ble_eq_true rfl, Nat.le_of_ble_eq_true rfl⟩) ⟨pP_blind, va_recv (ci := 11) (q0 := 0) hK hP rfl rfl, pP_preW hP hD hS hA hK hN hZ⟩ rfl rfl hl.1 rfl (lv_room (Nat.le_of_ble_eq_true rfl)) dL_isCycle_122 ⟨Nat.le_of_ble_eq_true rfl, Nat.le_of_ble_eq_true rfl⟩) hD hS hA (fun H locs hP hD hS => ?_)
        refine lv_if_eq (tgt := 132) hx hb dL_isCycle_125 (by decide) (fun q54 => ?_) (fun q54 => ?_)
        · have hf := it q54 hf
          refine lv_iconst (v := 0) hx hb dL_isCycle_132 (by decide) ?_
          exact cut133 S u49 x1 x3 x4 r46 x2 0 _ _ _ hf hu49 hP hD hS (lv_sub hl [0, 1, 3, 4] rfl)
        · have hf := ie q54 hf
          refine lv_iconst (v := 1) hx hb dL_isCycle_128 (by decide) ?_
          refine lv_goto (tgt := 133) hx hb dL_isCycle_129 (by decide) ?_
          exact cut133 S u49 x1 x3 x4 r46 x2 1 _ _ _ hf hu49 hP hD hS (lv_sub hl [0, 1, 3, 4] rfl)
  have cut34 : ∀ (n9 : Nat) (S : SX7) (u : LU) (x1 : Int32) (x2 : Int32) (x3 : Int32) (x4 : Int32) (x5 : Int32) (x9 y9 : Nat) (H : Heap) (locs : List Loc) (ls : Array Slot), f_L_isCycle_34 n9 S x1 x2 x3 x4 x5 = some (rr, uu) → LNk u → x9 + 2 * n9 ≤ 19 → y9 + 12 * n9 ≤ 114 → va_P (dC, dI) vwCl (wX7 dA oa S (lT u)) H → va_D A (wX7 dA oa S (lT u)) → va_S A s.heap H locs → lv_has ls 6 [(0, .ref (oa 0)), (1, .int x1), (2, .int x2), (3, .int x3), (4, .int x4), (5, .int x5)] → W p l e (headSpec ws_L_isCycle ({ frames := 50, cells := 304, slots := 688, locals := 2200 } : Room)).room s m ([.ref (oa 0)] : List Value).toArray below meth c H locs (x9) (y9) (MQ below (va_Qi (S := LU) (fun r' u => r' = rr ∧ LNk u) (fun u t => pQ (dC, dI) A (wX7 dA oa uu (lT u)) t) A) ([.ref (oa 0)] : List Value).toArray s 304 688 A) (F0 m 34 ls []) := by
    intro n9
    induction n9 with
    | zero =>
      intro S u x1 x2 x3 x4 x5 x9 y9 H locs ls hf
      rw [f_L_isCycle_34] at hf
      cases hf
    | succ n9 ih =>
      intro S u x1 x2 x3 x4 x5 x9 y9 H locs ls hf hu hx9 hy9 hP hD hS hl
      rw [f_L_isCycle_34] at hf
      refine lv_iload hx hb dL_isCycle_34 (lv_at hl 5 rfl) ?_
      refine lv_aload_n hx hb dL_isCycle_36 rfl (lv_at hl 0 rfl) ?_
      obtain ⟨r55, e57, hf⟩ := bd hf
      refine jw_i (w1 := wX7 dA oa S (lT u)) (va_runV (As := []) (rest := [.int x5]) ⟨hx, hb, hml, hown, hts⟩ (mt_X7_phaseCount l dC dI dA gz oa H.size (lT u) S  r55 e57) (cwV 0 hts (gi_v bg wd_1014 wd_1015 wd_1016 wd_1 wd_1017) rfl rfl rfl hd_X7_phaseCount ⟨Nat.le_of_ble_eq_true rfl, Nat.le_of_ble_eq_true rfl⟩) ⟨pP_blind, va_recv (ci := 11) (q0 := 0) hK hP rfl rfl, pP_preW hP hD hS hA hK hN hZ⟩ rfl rfl hl.1 rfl (lv_room (Nat.le_of_ble_eq_true rfl)) dL_isCycle_37 ⟨by (show _ ≤ 304); (try dsimp only); omega, by (show _ ≤ 688); (try dsimp only); omega⟩) hD hS hA (fun H locs hP hD hS => ?_)
      refine lv_icmp_ge (tgt := 89) hx hb dL_isCycle_40 (by decide) (fun q59 => ?_) (fun q59 => ?_)
      · have hf := it q59 hf
        refine W.widen (k := 19) (n := 114) (by (try dsimp only); omega) (by (try dsimp only); omega) ?_
        refine lv_aload_n hx hb dL_isCycle_89 rfl (lv_at hl 0 rfl) ?_
        obtain ⟨r60, e62, hf⟩ := bd hf
        refine jw_i (w1 := wX7 dA oa S (lT u)) (va_runV (As := []) (rest := []) ⟨hx, hb, hml, hown, hts⟩ (mt_X7_isRunning l dC dI dA gz oa H.size (lT u) S  r60 e62) (cwV 0 hts (gi_v bg wd_1419 wd_1420 wd_1421 wd_1 wd_1422) rfl rfl rfl hd_X7_isRunning ⟨Nat.le_of_ble_eq_true rfl, Nat.le_of_ble_eq_true rfl⟩) ⟨pP_blind, va_recv (ci := 11) (q0 := 0) hK hP rfl rfl, pP_preW hP hD hS hA hK hN hZ⟩ rfl rfl hl.1 rfl (lv_room (Nat.le_of_ble_eq_true rfl)) dL_isCycle_90 ⟨Nat.le_of_ble_eq_true rfl, Nat.le_of_ble_eq_true rfl⟩) hD hS hA (fun H locs hP hD hS => ?_)
        refine lv_iload_n hx hb dL_isCycle_93 rfl (lv_at hl 1 rfl) ?_
        refine lv_sipush (v := (-1000)) hx hb dL_isCycle_94 (by decide) ?_
        refine lv_icmp_eq (tgt := 104) hx hb dL_isCycle_97 (by decide) (fun q64 => ?_) (fun q64 => ?_)
        · have hf := it q64 hf
          refine lv_iconst (v := 0) hx hb dL_isCycle_104 (by decide) ?_
          exact cut105 S u x1 x2 x3 x4 r60 0 _ _ _ hf hu hP hD hS (lv_sub hl [0, 1, 2, 3, 4] rfl)
        · have hf := ie q64 hf
          refine lv_iconst (v := 1) hx hb dL_isCycle_100 (by decide) ?_
          refine lv_goto (tgt := 105) hx hb dL_isCycle_101 (by decide) ?_
          exact cut105 S u x1 x2 x3 x4 r60 1 _ _ _ hf hu hP hD hS (lv_sub hl [0, 1, 2, 3, 4] rfl)
      · have hf := ie q59 hf
        refine lv_iload_n hx hb dL_isCycle_43 rfl (lv_at hl 2 rfl) ?_
        refine lv_aload_n hx hb dL_isCycle_44 rfl (lv_at hl 0 rfl) ?_
        refine lv_iload hx hb dL_isCycle_45 (lv_at hl 5 rfl) ?_
        obtain ⟨r65, S66, e67, hf⟩ := bT_inv hf
        refine jx_i (w1 := wX7 dA oa S66 (lT u)) (vx_runV (As := [.int x5]) (rest := [.int x2]) ⟨hx, hb, hml, hown, hts⟩ (mt_X7_phaseMinutes l hl0 dC dI dA gz oa H.size (lT u) S x5 (.inl r65) S66 e67) (cwV 1 hts (gi_v bg wd_1042 wd_1043 wd_1044 wd_1 wd_1045) rfl rfl rfl hd_X7_phaseMinutes ⟨Nat.le_of_ble_eq_true rfl, Nat.le_of_ble_eq_true rfl⟩) ⟨pP_blind, va_recv (ci := 11) (q0 := 0) hK hP rfl rfl, pP_preW hP hD hS hA hK hN hZ⟩ rfl rfl hl.1 rfl (lv_room (Nat.le_of_ble_eq_true rfl)) dL_isCycle_47 ⟨by (show _ ≤ 304); (try dsimp only); omega, by (show _ ≤ 688); (try dsimp only); omega⟩) hD hS hA (fun E ce q9 H locs h9 _ _ _ _ _ _ => nomatch h9) (fun r9 H locs h9 hP hD hS => ?_)
        cases h9
        refine lv_bipush (v := 9) hx hb dL_isCycle_50 (by decide) ?_
        refine lv_icmp_le (tgt := 59) hx hb dL_isCycle_52 (by decide) (fun q69 => ?_) (fun q69 => ?_)
        · have hf := it q69 hf
          refine lv_iconst (v := 4) hx hb dL_isCycle_59 (by decide) ?_
          refine lv_iadd hx hb dL_isCycle_60 ?_
          refine lv_istore_n (lv' := [(2, .int (x2 + 4)), (0, .ref (oa 0)), (1, .int x1), (3, .int x3), (4, .int x4), (5, .int x5)]) hx hb dL_isCycle_61 rfl hl (by decide) rfl (fun ls hl => ?_)
          refine lv_iload hx hb dL_isCycle_62 (lv_at hl 4 rfl) ?_
          refine lv_iload hx hb dL_isCycle_64 (lv_at hl 5 rfl) ?_
          refine lv_iload_n hx hb dL_isCycle_66 rfl (lv_at hl 2 rfl) ?_
          refine lv_icmp_le (tgt := 79) hx hb dL_isCycle_67 (by decide) (fun q70 => ?_) (fun q70 => ?_)
          · have hf := it q70 hf
            refine lv_iconst (v := 0) hx hb dL_isCycle_79 (by decide) ?_
            refine lv_iadd hx hb dL_isCycle_80 ?_
            refine lv_istore (lv' := [(4, .int (x4 + 0)), (2, .int (x2 + 4)), (0, .ref (oa 0)), (1, .int x1), (3, .int x3), (5, .int x5)]) hx hb dL_isCycle_81 hl (by decide) rfl (fun ls hl => ?_)
            refine lv_iinc (v := (x5 + 1)) (lv' := [(5, .int (x5 + 1)), (4, .int (x4 + 0)), (2, .int (x2 + 4)), (0, .ref (oa 0)), (1, .int x1), (3, .int x3)]) hx hb dL_isCycle_83 hl (k := 5) rfl rfl (by decide) rfl (fun ls hl => ?_)
            refine lv_goto (tgt := 34) hx hb dL_isCycle_86 (by decide) ?_
            exact ih S66 u x1 (x2 + 4) x3 (x4 + 0) (x5 + 1) _ _ _ _ _ hf hu (by (try dsimp only); omega) (by (try dsimp only); omega) hP hD hS (lv_sub hl [3, 4, 2, 5, 1, 0] rfl)
          · have hf := ie q70 hf
            refine lv_aload_n hx hb dL_isCycle_70 rfl (lv_at hl 1 rfl) ?_
            refine lv_iload hx hb dL_isCycle_71 (lv_at hl 5 rfl) ?_
            obtain ⟨r71, S72, e73, hf⟩ := bT_inv hf
            refine jx_i (w1 := wX7 dA oa S72 (lT u)) (vx_runV (As := [.int x5]) (rest := [.int x4]) ⟨hx, hb, hml, hown, hts⟩ (mt_X7_phaseMinutes l hl0 dC dI dA gz oa H.size (lT u) S66 x5 (.inl r71) S72 e73) (cwV 1 hts (gi_v bg wd_1042 wd_1043 wd_1044 wd_1 wd_1045) rfl rfl rfl hd_X7_phaseMinutes ⟨Nat.le_of_ble_eq_true rfl, Nat.le_of_ble_eq_true rfl⟩) ⟨pP_blind, va_recv (ci := 11) (q0 := 0) hK hP rfl rfl, pP_preW hP hD hS hA hK hN hZ⟩ rfl rfl hl.1 rfl (lv_room (Nat.le_of_ble_eq_true rfl)) dL_isCycle_73 ⟨by (show _ ≤ 304); (try dsimp only); omega, by (show _ ≤ 688); (try dsimp only); omega⟩) hD hS hA (fun E ce q9 H locs h9 _ _ _ _ _ _ => nomatch h9) (fun r9 H locs h9 hP hD hS => ?_)
            cases h9
            refine lv_goto (tgt := 80) hx hb dL_isCycle_76 (by decide) ?_
            refine lv_iadd hx hb dL_isCycle_80 ?_
            refine lv_istore (lv' := [(4, .int (x4 + r71)), (2, .int (x2 + 4)), (0, .ref (oa 0)), (1, .int x1), (3, .int x3), (5, .int x5)]) hx hb dL_isCycle_81 hl (by decide) rfl (fun ls hl => ?_)
            refine lv_iinc (v := (x5 + 1)) (lv' := [(5, .int (x5 + 1)), (4, .int (x4 + r71)), (2, .int (x2 + 4)), (0, .ref (oa 0)), (1, .int x1), (3, .int x3)]) hx hb dL_isCycle_83 hl (k := 5) rfl rfl (by decide) rfl (fun ls hl => ?_)
            refine lv_goto (tgt := 34) hx hb dL_isCycle_86 (by decide) ?_
            exact ih S72 u x1 (x2 + 4) x3 (x4 + r71) (x5 + 1) _ _ _ _ _ hf hu (by (try dsimp only); omega) (by (try dsimp only); omega) hP hD hS (lv_sub hl [3, 4, 2, 5, 1, 0] rfl)
        · have hf := ie q69 hf
          refine lv_iconst (v := 5) hx hb dL_isCycle_55 (by decide) ?_
          refine lv_goto (tgt := 60) hx hb dL_isCycle_56 (by decide) ?_
          refine lv_iadd hx hb dL_isCycle_60 ?_
          refine lv_istore_n (lv' := [(2, .int (x2 + 5)), (0, .ref (oa 0)), (1, .int x1), (3, .int x3), (4, .int x4), (5, .int x5)]) hx hb dL_isCycle_61 rfl hl (by decide) rfl (fun ls hl => ?_)
          refine lv_iload hx hb dL_isCycle_62 (lv_at hl 4 rfl) ?_
          refine lv_iload hx hb dL_isCycle_64 (lv_at hl 5 rfl) ?_
          refine lv_iload_n hx hb dL_isCycle_66 rfl (lv_at hl 2 rfl) ?_
          refine lv_icmp_le (tgt := 79) hx hb dL_isCycle_67 (by decide) (fun q75 => ?_) (fun q75 => ?_)
          · have hf := it q75 hf
            refine lv_iconst (v := 0) hx hb dL_isCycle_79 (by decide) ?_
            refine lv_iadd hx hb dL_isCycle_80 ?_
            refine lv_istore (lv' := [(4, .int (x4 + 0)), (2, .int (x2 + 5)), (0, .ref (oa 0)), (1, .int x1), (3, .int x3), (5, .int x5)]) hx hb dL_isCycle_81 hl (by decide) rfl (fun ls hl => ?_)
            refine lv_iinc (v := (x5 + 1)) (lv' := [(5, .int (x5 + 1)), (4, .int (x4 + 0)), (2, .int (x2 + 5)), (0, .ref (oa 0)), (1, .int x1), (3, .int x3)]) hx hb dL_isCycle_83 hl (k := 5) rfl rfl (by decide) rfl (fun ls hl => ?_)
            refine lv_goto (tgt := 34) hx hb dL_isCycle_86 (by decide) ?_
            exact ih S66 u x1 (x2 + 5) x3 (x4 + 0) (x5 + 1) _ _ _ _ _ hf hu (by (try dsimp only); omega) (by (try dsimp only); omega) hP hD hS (lv_sub hl [3, 4, 2, 5, 1, 0] rfl)
          · have hf := ie q75 hf
            refine lv_aload_n hx hb dL_isCycle_70 rfl (lv_at hl 1 rfl) ?_
            refine lv_iload hx hb dL_isCycle_71 (lv_at hl 5 rfl) ?_
            obtain ⟨r76, S77, e78, hf⟩ := bT_inv hf
            refine jx_i (w1 := wX7 dA oa S77 (lT u)) (vx_runV (As := [.int x5]) (rest := [.int x4]) ⟨hx, hb, hml, hown, hts⟩ (mt_X7_phaseMinutes l hl0 dC dI dA gz oa H.size (lT u) S66 x5 (.inl r76) S77 e78) (cwV 1 hts (gi_v bg wd_1042 wd_1043 wd_1044 wd_1 wd_1045) rfl rfl rfl hd_X7_phaseMinutes ⟨Nat.le_of_ble_eq_true rfl, Nat.le_of_ble_eq_true rfl⟩) ⟨pP_blind, va_recv (ci := 11) (q0 := 0) hK hP rfl rfl, pP_preW hP hD hS hA hK hN hZ⟩ rfl rfl hl.1 rfl (lv_room (Nat.le_of_ble_eq_true rfl)) dL_isCycle_73 ⟨by (show _ ≤ 304); (try dsimp only); omega, by (show _ ≤ 688); (try dsimp only); omega⟩) hD hS hA (fun E ce q9 H locs h9 _ _ _ _ _ _ => nomatch h9) (fun r9 H locs h9 hP hD hS => ?_)
            cases h9
            refine lv_goto (tgt := 80) hx hb dL_isCycle_76 (by decide) ?_
            refine lv_iadd hx hb dL_isCycle_80 ?_
            refine lv_istore (lv' := [(4, .int (x4 + r76)), (2, .int (x2 + 5)), (0, .ref (oa 0)), (1, .int x1), (3, .int x3), (5, .int x5)]) hx hb dL_isCycle_81 hl (by decide) rfl (fun ls hl => ?_)
            refine lv_iinc (v := (x5 + 1)) (lv' := [(5, .int (x5 + 1)), (4, .int (x4 + r76)), (2, .int (x2 + 5)), (0, .ref (oa 0)), (1, .int x1), (3, .int x3)]) hx hb dL_isCycle_83 hl (k := 5) rfl rfl (by decide) rfl (fun ls hl => ?_)
            refine lv_goto (tgt := 34) hx hb dL_isCycle_86 (by decide) ?_
            exact ih S77 u x1 (x2 + 5) x3 (x4 + r76) (x5 + 1) _ _ _ _ _ hf hu (by (try dsimp only); omega) (by (try dsimp only); omega) hP hD hS (lv_sub hl [3, 4, 2, 5, 1, 0] rfl)
  rw [f_L_isCycle] at hf
  refine lv_aload_n hx hb dL_isCycle_0 rfl (lv_at hl 0 rfl) ?_
  obtain ⟨r80, S81, e82, hf⟩ := bS_inv hf
  refine jw_i (w1 := wX7 dA oa S81 (lT u0)) (noRun (vx_runSX (As := [.ref (oa 0)]) (rest := []) ⟨hx, hb, hml, hown, hts⟩ (m_L_presentPhase l hl0 dC dI dA gz oa s.heap.size (lT u0) S  r80 S81 e82) (vx_cwSW 1 hts (gi_t bg wd_1018 wd_1019 wd_0 wd_1020) rfl rfl rfl hd3_L_presentPhase ⟨Nat.le_of_ble_eq_true rfl, Nat.le_of_ble_eq_true rfl⟩) ⟨pL_blind, pL_of hC (pP_preW hP hD hS hA hK hN hZ)⟩ rfl rfl hl.1 rfl (lv_room (Nat.le_of_ble_eq_true rfl)) dL_isCycle_1 ⟨Nat.le_of_ble_eq_true rfl, Nat.le_of_ble_eq_true rfl⟩)) hD hS hA (fun H locs hP hD hS => ?_)
  refine lv_istore_n (lv' := [(1, .int r80), (0, .ref (oa 0))]) hx hb dL_isCycle_4 rfl hl (by decide) rfl (fun ls hl => ?_)
  refine lv_aload_n hx hb dL_isCycle_5 rfl (lv_at hl 1 rfl) ?_
  obtain ⟨r84, e86, hf⟩ := bd hf
  refine jw_i (w1 := wX7 dA oa S81 (lT u0)) (va_runV (As := []) (rest := []) ⟨hx, hb, hml, hown, hts⟩ (mt_X7_phaseCount l dC dI dA gz oa H.size (lT u0) S81  r84 e86) (cwV 0 hts (gi_v bg wd_1014 wd_1015 wd_1016 wd_1 wd_1017) rfl rfl rfl hd_X7_phaseCount ⟨Nat.le_of_ble_eq_true rfl, Nat.le_of_ble_eq_true rfl⟩) ⟨pP_blind, va_recv (ci := 11) (q0 := 0) hK hP rfl rfl, pP_preW hP hD hS hA hK hN hZ⟩ rfl rfl hl.1 rfl (lv_room (Nat.le_of_ble_eq_true rfl)) dL_isCycle_6 ⟨Nat.le_of_ble_eq_true rfl, Nat.le_of_ble_eq_true rfl⟩) hD hS hA (fun H locs hP hD hS => ?_)
  refine lv_if_ne (tgt := 16) hx hb dL_isCycle_9 (by decide) (fun q88 => ?_) (fun q88 => ?_)
  · have hf := ie q88 hf
    refine lv_aload_n hx hb dL_isCycle_16 rfl (lv_at hl 1 rfl) ?_
    obtain ⟨r89, e91, hf⟩ := bd hf
    refine jw_i (w1 := wX7 dA oa S81 (lT u0)) (va_runV (As := []) (rest := []) ⟨hx, hb, hml, hown, hts⟩ (mt_X7_phaseCount l dC dI dA gz oa H.size (lT u0) S81  r89 e91) (cwV 0 hts (gi_v bg wd_1014 wd_1015 wd_1016 wd_1 wd_1017) rfl rfl rfl hd_X7_phaseCount ⟨Nat.le_of_ble_eq_true rfl, Nat.le_of_ble_eq_true rfl⟩) ⟨pP_blind, va_recv (ci := 11) (q0 := 0) hK hP rfl rfl, pP_preW hP hD hS hA hK hN hZ⟩ rfl rfl hl.1 rfl (lv_room (Nat.le_of_ble_eq_true rfl)) dL_isCycle_17 ⟨Nat.le_of_ble_eq_true rfl, Nat.le_of_ble_eq_true rfl⟩) hD hS hA (fun H locs hP hD hS => ?_)
    refine lv_iconst (v := 1) hx hb dL_isCycle_20 (by decide) ?_
    refine lv_isub hx hb dL_isCycle_21 ?_
    refine lv_istore_n (lv' := [(2, .int (r89 - 1)), (1, .int r80), (0, .ref (oa 0))]) hx hb dL_isCycle_22 rfl hl (by decide) rfl (fun ls hl => ?_)
    refine lv_aload_n hx hb dL_isCycle_23 rfl (lv_at hl 2 rfl) ?_
    obtain ⟨r93, S94, e95, hf⟩ := bS_inv hf
    refine jw_i (w1 := wX7 dA oa S94 (lT u0)) (va_runV (As := []) (rest := []) ⟨hx, hb, hml, hown, hts⟩ (mt_X7_minutesLeft l dC dI dA gz oa H.size (lT u0) S81  r93 S94 e95) (cwV 0 hts (gi_v bg wd_1027 wd_1028 wd_1029 wd_1 wd_1030) rfl rfl rfl hd_X7_minutesLeft ⟨Nat.le_of_ble_eq_true rfl, Nat.le_of_ble_eq_true rfl⟩) ⟨pP_blind, va_recv (ci := 11) (q0 := 0) hK hP rfl rfl, pP_preW hP hD hS hA hK hN hZ⟩ rfl rfl hl.1 rfl (lv_room (Nat.le_of_ble_eq_true rfl)) dL_isCycle_24 ⟨Nat.le_of_ble_eq_true rfl, Nat.le_of_ble_eq_true rfl⟩) hD hS hA (fun H locs hP hD hS => ?_)
    refine lv_istore_n (lv' := [(3, .int r93), (2, .int (r89 - 1)), (1, .int r80), (0, .ref (oa 0))]) hx hb dL_isCycle_27 rfl hl (by decide) rfl (fun ls hl => ?_)
    refine lv_iconst (v := 0) hx hb dL_isCycle_28 (by decide) ?_
    refine lv_istore (lv' := [(4, .int 0), (3, .int r93), (2, .int (r89 - 1)), (1, .int r80), (0, .ref (oa 0))]) hx hb dL_isCycle_29 hl (by decide) rfl (fun ls hl => ?_)
    refine lv_iconst (v := 0) hx hb dL_isCycle_31 (by decide) ?_
    refine lv_istore (lv' := [(5, .int 0), (4, .int 0), (3, .int r93), (2, .int (r89 - 1)), (1, .int r80), (0, .ref (oa 0))]) hx hb dL_isCycle_32 hl (by decide) rfl (fun ls hl => ?_)
    exact cut34 9 S94 u0 r80 (r89 - 1) r93 0 0 1 6 _ _ _ hf hu0 (Nat.le_of_ble_eq_true rfl) (Nat.le_of_ble_eq_true rfl) hP hD hS (lv_sub hl [5, 4, 3, 2, 1, 0] rfl)
  · have hf := it q88 hf
    refine lv_iconst (v := 0) hx hb dL_isCycle_12 (by decide) ?_
    refine lv_goto (tgt := 22) hx hb dL_isCycle_13 (by decide) ?_
    refine lv_istore_n (lv' := [(2, .int 0), (1, .int r80), (0, .ref (oa 0))]) hx hb dL_isCycle_22 rfl hl (by decide) rfl (fun ls hl => ?_)
    refine lv_aload_n hx hb dL_isCycle_23 rfl (lv_at hl 2 rfl) ?_
    obtain ⟨r97, S98, e99, hf⟩ := bS_inv hf
    refine jw_i (w1 := wX7 dA oa S98 (lT u0)) (va_runV (As := []) (rest := []) ⟨hx, hb, hml, hown, hts⟩ (mt_X7_minutesLeft l dC dI dA gz oa H.size (lT u0) S81  r97 S98 e99) (cwV 0 hts (gi_v bg wd_1027 wd_1028 wd_1029 wd_1 wd_1030) rfl rfl rfl hd_X7_minutesLeft ⟨Nat.le_of_ble_eq_true rfl, Nat.le_of_ble_eq_true rfl⟩) ⟨pP_blind, va_recv (ci := 11) (q0 := 0) hK hP rfl rfl, pP_preW hP hD hS hA hK hN hZ⟩ rfl rfl hl.1 rfl (lv_room (Nat.le_of_ble_eq_true rfl)) dL_isCycle_24 ⟨Nat.le_of_ble_eq_true rfl, Nat.le_of_ble_eq_true rfl⟩) hD hS hA (fun H locs hP hD hS => ?_)
    refine lv_istore_n (lv' := [(3, .int r97), (2, .int 0), (1, .int r80), (0, .ref (oa 0))]) hx hb dL_isCycle_27 rfl hl (by decide) rfl (fun ls hl => ?_)
    refine lv_iconst (v := 0) hx hb dL_isCycle_28 (by decide) ?_
    refine lv_istore (lv' := [(4, .int 0), (3, .int r97), (2, .int 0), (1, .int r80), (0, .ref (oa 0))]) hx hb dL_isCycle_29 hl (by decide) rfl (fun ls hl => ?_)
    refine lv_iconst (v := 0) hx hb dL_isCycle_31 (by decide) ?_
    refine lv_istore (lv' := [(5, .int 0), (4, .int 0), (3, .int r97), (2, .int 0), (1, .int r80), (0, .ref (oa 0))]) hx hb dL_isCycle_32 hl (by decide) rfl (fun ls hl => ?_)
    exact cut34 9 S98 u0 r80 0 r97 0 0 1 6 _ _ _ hf hu0 (Nat.le_of_ble_eq_true rfl) (Nat.le_of_ble_eq_true rfl) hP hD hS (lv_sub hl [5, 4, 3, 2, 1, 0] rfl)
/-! L_arePats -/
def f_L_arePats_392  (S : SX7) (x1 : Int32) (x3 : Int32) (k0 : UInt64) (k1 : UInt64) : Option (Int32 × SX7) :=
  (if (Op.cmpValue (FP.dcmp k0 k1) .l) = 0 then bS (f_L_coolShare S) fun r2 S3 =>
  (if x1 = 0 then (if (Op.cmpValue (FP.fcmp r2 3212836864) .l) = 0 then some (1, S3) else
  some (0, S3)) else
  if ¬ ((FP.fdiv (FP.i2f x3) (FP.i2f x1)) &&& 0x7fffffff ≤ 0x7f800000) then none else
  (if (Op.cmpValue (FP.fcmp r2 (FP.fdiv (FP.i2f x3) (FP.i2f x1))) .l) = 0 then some (1, S3) else
  some (0, S3))) else
  some (0, S))
def f_L_arePats_359  (S : SX7) (x1 : Int32) (x2 : Int32) (x3 : Int32) (x4 : Int32) (x6 : Int32) : Option (Int32 × SX7) :=
  (if x6 = 0 then some (0, S) else
  (g_X7_loadedMass S).bind fun r11 =>
  (if x2 = r11 then bS (f_L_meanFirmness S) fun r16 S17 =>
  (if x1 = 0 then f_L_arePats_392 S17 x1 x3 r16 13890095209322119168 else
  if ¬ ((FP.ddiv (FP.i2d x4) (FP.i2d x1)) &&& 0x7fffffffffffffff ≤ 0x7ff0000000000000) then none else
  f_L_arePats_392 S17 x1 x3 r16 (FP.ddiv (FP.i2d x4) (FP.i2d x1))) else
  some (0, S)))
def f_L_arePats_260  : Nat → SX7 → Int32 → Int32 → Int32 → Int32 → Int32 → Int32 → Option (Int32 × SX7)
  | 0, _, _, _, _, _, _, _ => none
  | n9 + 1, S, x1, x2, x3, x4, x6, x7 =>
  (if x6 = 0 then f_L_arePats_359 S x1 x2 x3 x4 x6 else
  (if x1 ≤ x7 then f_L_arePats_359 S x1 x2 x3 x4 x6 else
  bS (f_L_patByFirmness S (x7 - 1)) fun r24 S25 =>
  bS (f_L_patByFirmness S25 x7) fun r28 S29 =>
  bT (g_X7_firmness S29 r24) fun r32 S33 =>
  bT (g_X7_firmness S33 r28) fun r36 S37 =>
  bT (g_X7_patMass S37 r24) fun r40 S41 =>
  bT (g_X7_patMass S41 r28) fun r44 S45 =>
  (if 0 < (r32 - r36) then f_L_arePats_260 n9 S45 x1 x2 x3 x4 1 (x7 + 1) else
  (if (r32 - r36) = 0 then (if 0 < (r40 - r44) then f_L_arePats_260 n9 S45 x1 x2 x3 x4 1 (x7 + 1) else
  (if (r40 - r44) = 0 then (if r28 ≤ r24 then f_L_arePats_260 n9 S45 x1 x2 x3 x4 0 (x7 + 1) else
  f_L_arePats_260 n9 S45 x1 x2 x3 x4 1 (x7 + 1)) else
  f_L_arePats_260 n9 S45 x1 x2 x3 x4 0 (x7 + 1))) else
  f_L_arePats_260 n9 S45 x1 x2 x3 x4 0 (x7 + 1)))))
def f_L_arePats_65  : Nat → SX7 → Int32 → Int32 → Int32 → Int32 → Int32 → Int32 → Int32 → Option (Int32 × SX7)
  | 0, _, _, _, _, _, _, _, _ => none
  | n9 + 1, S, x1, x2, x3, x4, x5, x6, x7 =>
  (if x6 = 0 then f_L_arePats_260 13 S x1 x2 x3 x4 x6 1 else
  (if x7 < 0 then f_L_arePats_260 13 S x1 x2 x3 x4 x6 1 else
  bT (g_X7_patTemperature S x7) fun r55 S56 =>
  (if 30 < r55 then bT (g_X7_patTemperature S56 x7) fun r61 S62 =>
  bT (g_X7_firmness S62 x7) fun r66 S67 =>
  bT (g_X7_patMass S67 x7) fun r70 S71 =>
  bT (g_X7_isCool S71 x7) fun r75 S76 =>
  (if r75 = 0 then bT (g_X7_minutesUntilCool S76 x7) fun r80 S81 =>
  (if r80 = ((r61 - 26) / 5) then bT (g_X7_minutesUntilCoolByDivision S81 x7) fun r85 S86 =>
  (if r85 = ((r61 - 26) / 5) then bS (f_L_nextCool S86 x7) fun r90 S91 =>
  (if r90 = x5 then bT (g_X7_firmness S91 x7) fun r95 S96 =>
  bT (g_X7_cracks S96 x7) fun r99 S100 =>
  (if (100 - (15 * r99)) < r95 then f_L_arePats_65 n9 S100 x1 (x2 + r70) (x3 + 0) (x4 + r66) x5 0 (x7 + (-1)) else
  bT (g_X7_writePat S100 x7) fun r104 S105 =>
  bT (g_X7_cracks S105 x7) fun r108 S109 =>
  (if r104 < (5 + r108) then f_L_arePats_65 n9 S109 x1 (x2 + r70) (x3 + 0) (x4 + r66) x5 0 (x7 + (-1)) else
  f_L_arePats_65 n9 S109 x1 (x2 + r70) (x3 + 0) (x4 + r66) x5 1 (x7 + (-1)))) else
  f_L_arePats_65 n9 S91 x1 (x2 + r70) (x3 + 0) (x4 + r66) x5 0 (x7 + (-1))) else
  f_L_arePats_65 n9 S86 x1 (x2 + r70) (x3 + 0) (x4 + r66) x5 0 (x7 + (-1))) else
  f_L_arePats_65 n9 S81 x1 (x2 + r70) (x3 + 0) (x4 + r66) x5 0 (x7 + (-1))) else
  f_L_arePats_65 n9 S76 x1 (x2 + r70) (x3 + 0) (x4 + r66) x5 0 (x7 + (-1))) else
  bT (g_X7_firmness S56 x7) fun r115 S116 =>
  bT (g_X7_patMass S116 x7) fun r119 S120 =>
  bT (g_X7_isCool S120 x7) fun r124 S125 =>
  (if r124 = 1 then bT (g_X7_minutesUntilCool S125 x7) fun r129 S130 =>
  (if r129 = 0 then bT (g_X7_minutesUntilCoolByDivision S130 x7) fun r134 S135 =>
  (if r134 = 0 then bS (f_L_nextCool S135 x7) fun r139 S140 =>
  (if r139 = x7 then bT (g_X7_firmness S140 x7) fun r144 S145 =>
  bT (g_X7_cracks S145 x7) fun r148 S149 =>
  (if (100 - (15 * r148)) < r144 then f_L_arePats_65 n9 S149 x1 (x2 + r119) (x3 + 1) (x4 + r115) x7 0 (x7 + (-1)) else
  bT (g_X7_writePat S149 x7) fun r153 S154 =>
  bT (g_X7_cracks S154 x7) fun r157 S158 =>
  (if r153 < (5 + r157) then f_L_arePats_65 n9 S158 x1 (x2 + r119) (x3 + 1) (x4 + r115) x7 0 (x7 + (-1)) else
  f_L_arePats_65 n9 S158 x1 (x2 + r119) (x3 + 1) (x4 + r115) x7 1 (x7 + (-1)))) else
  f_L_arePats_65 n9 S140 x1 (x2 + r119) (x3 + 1) (x4 + r115) x7 0 (x7 + (-1))) else
  f_L_arePats_65 n9 S135 x1 (x2 + r119) (x3 + 1) (x4 + r115) x7 0 (x7 + (-1))) else
  f_L_arePats_65 n9 S130 x1 (x2 + r119) (x3 + 1) (x4 + r115) x7 0 (x7 + (-1))) else
  f_L_arePats_65 n9 S125 x1 (x2 + r119) (x3 + 1) (x4 + r115) x7 0 (x7 + (-1))))))
def f_L_arePats (S : SX7)  : Option (Int32 × SX7) :=
  (g_X7_patCount S).bind fun r162 =>
  (g_X7_mass S).bind fun r166 =>
  (g_X7_gradedMass S).bind fun r170 =>
  (if 12 < r162 then f_L_arePats_65 13 S r162 (r166 + r170) 0 0 (-1000) 0 (r162 - 1) else
  bS (f_L_patByFirmness S r162) fun r175 S176 =>
  (if r175 = (-1000) then bS (f_L_nextCool S176 r162) fun r180 S181 =>
  (if r180 = (-1000) then f_L_arePats_65 13 S181 r162 (r166 + r170) 0 0 (-1000) 1 (r162 - 1) else
  f_L_arePats_65 13 S181 r162 (r166 + r170) 0 0 (-1000) 0 (r162 - 1)) else
  f_L_arePats_65 13 S176 r162 (r166 + r170) 0 0 (-1000) 0 (r162 - 1)))
set_option maxRecDepth 100000 in
set_option maxHeartbeats 8000000 in
theorem m_L_arePats (l : Launch) (hl0 : l.stackTraces = false) (dC : Nat → ClassId) (dI : Nat → Nat → Nat) (dA gz : Nat → Nat) (oa : Nat → Nat) (sz : Nat) (u0 : LU) (hu0 : LNk u0) (S : SX7)  (rr : Int32) (uu : SX7) (hf : f_L_arePats S  = some (rr, uu)) : Met l yL_arePats ws_L_arePats ({ frames := 50, cells := 3944, slots := 8896, locals := 2200 } : Room) (va_Pc [.ref (oa 0)] (pL (dC, dI) dA gz (wX7 dA oa S (lT u0)) sz)) (va_Qi (S := LU) (fun r' u => r' = rr ∧ LNk u) (fun u t => pQ (dC, dI) (va_A (wX7 dA oa S (lT u0)) sz) (wX7 dA oa uu (lT u)) t) (va_A (wX7 dA oa S (lT u0)) sz)) 3944 8896 (va_A (wX7 dA oa S (lT u0)) sz) := by
  refine Met.ofW (cc := cL_arePats) (maxL := 12) (ret := (some .boolean)) (by decide) rfl ?_
  intro p e s m args below meth c s₁ B hml hv
  obtain ⟨rfl, ⟨hsz, hP, hK, hD0, hN, hZ⟩, hC⟩ := hv
  have hx := B.exec
  have hb := B.bytes
  have hr := B.returns
  have hts := atoms_spec (ws := ws_L_arePats) B.pre
  have hown : s.vm.findClass RL = some m.cls := findClass_of_methodNamed B.named
  have hlocks := B.notSynchronized
  subst hsz
  have hD := hD0.self (sz := s.heap.size)
  generalize hAe : va_A (wX7 dA oa S (lT u0)) s.heap.size = A at hD hZ ⊢
  have hA : ∀ q : Nat, s.heap.size ≤ q → A q := fun q h => by rw [← hAe]; exact Or.inr h
  have hS : va_S A s.heap s.heap [] := va_S.rf
  have hl := lv_entry [.ref (oa 0)] (n := 12) (Nat.le_of_ble_eq_true rfl)
  rw [lg_entry_eq]
  generalize (lg_sl [.ref (oa 0)] ++ List.replicate (12 - (lg_sl [.ref (oa 0)]).length) Slot.unset).toArray = ls at hl ⊢
  have hl : lv_has ls 12 [(0, .ref (oa 0))] := hl
  have cut392 : ∀ (S : SX7) (u : LU) (x1 : Int32) (x3 : Int32) (k0 : UInt64) (k1 : UInt64) (H : Heap) (locs : List Loc) (ls : Array Slot), f_L_arePats_392 S x1 x3 k0 k1 = some (rr, uu) → LNk u → va_P (dC, dI) vwCl (wX7 dA oa S (lT u)) H → va_D A (wX7 dA oa S (lT u)) → va_S A s.heap H locs → lv_has ls 12 [(0, .ref (oa 0)), (1, .int x1), (3, .int x3)] → W p l e (headSpec ws_L_arePats ({ frames := 50, cells := 3944, slots := 8896, locals := 2200 } : Room)).room s m ([.ref (oa 0)] : List Value).toArray below meth c H locs (3943) (8890) (MQ below (va_Qi (S := LU) (fun r' u => r' = rr ∧ LNk u) (fun u t => pQ (dC, dI) A (wX7 dA oa uu (lT u)) t) A) ([.ref (oa 0)] : List Value).toArray s 3944 8896 A) (F0 m 392 ls [.double k1, .double k0]) := by
    intro S u x1 x3 k0 k1 H locs ls hf hu hP hD hS hl
    rw [f_L_arePats_392] at hf
    refine lv_dcmp hx hb dL_arePats_392 ?_
    refine lv_if_ne (tgt := 422) hx hb dL_arePats_393 (by decide) (fun q1 => ?_) (fun q1 => ?_)
    · have hf := ie q1 hf
      refine lv_iconst (v := 0) hx hb dL_arePats_422 (by decide) ?_
      obtain ⟨e8, e9⟩ := Prod.mk.inj (sm hf)
      refine W.widen (k := 3944) (n := 8896) (Nat.le_of_ble_eq_true rfl) (Nat.le_of_ble_eq_true rfl) ?_
      exact W.zret hx hb hr rfl (fun t ht hW => ⟨⟨_, u, rfl, ⟨e8, hu⟩, by rw [← e9, ht]; exact hP, by rw [← e9]; exact hD⟩, hS.F ht⟩) hS.2.2 dL_arePats_423
    · have hf := it q1 hf
      refine lv_aload_n hx hb dL_arePats_396 rfl (lv_at hl 0 rfl) ?_
      obtain ⟨r2, S3, e4, hf⟩ := bS_inv hf
      refine jw_f (w1 := wX7 dA oa S3 (lT u)) (noRun (vx_runSX (As := [.ref (oa 0)]) (rest := []) ⟨hx, hb, hml, hown, hts⟩ (m_L_coolShare l hl0 dC dI dA gz oa H.size (lT u) S  r2 S3 e4) (vx_cwSW 1 hts (gi_t bg wd_1401 wd_1402 wd_0 wd_1403) rfl rfl rfl hd3_L_coolShare ⟨Nat.le_of_ble_eq_true rfl, Nat.le_of_ble_eq_true rfl⟩) ⟨pL_blind, pL_of hC (pP_preW hP hD hS hA hK hN hZ)⟩ rfl rfl hl.1 rfl (lv_room (Nat.le_of_ble_eq_true rfl)) dL_arePats_397 ⟨Nat.le_of_ble_eq_true rfl, Nat.le_of_ble_eq_true rfl⟩)) hD hS hA (fun H locs hP hD hS => ?_)
      refine lv_iload_n hx hb dL_arePats_400 rfl (lv_at hl 1 rfl) ?_
      refine lv_if_ne (tgt := 409) hx hb dL_arePats_401 (by decide) (fun q6 => ?_) (fun q6 => ?_)
      · have hf := ie q6 hf
        refine lv_iload_n hx hb dL_arePats_409 rfl (lv_at hl 2 rfl) ?_
        refine lv_i2f hx hb dL_arePats_410 ?_
        refine lv_iload_n hx hb dL_arePats_411 rfl (lv_at hl 1 rfl) ?_
        refine lv_i2f hx hb dL_arePats_412 ?_
        obtain ⟨z7, hf⟩ := gd hf
        have z7 := Decidable.not_not.mp z7
        refine lv_fdiv hx hb dL_arePats_413 z7 ?_
        refine lv_fcmp hx hb dL_arePats_414 ?_
        refine lv_if_ne (tgt := 422) hx hb dL_arePats_415 (by decide) (fun q8 => ?_) (fun q8 => ?_)
        · have hf := ie q8 hf
          refine lv_iconst (v := 0) hx hb dL_arePats_422 (by decide) ?_
          obtain ⟨e8, e9⟩ := Prod.mk.inj (sm hf)
          exact W.zret hx hb hr rfl (fun t ht hW => ⟨⟨_, u, rfl, ⟨e8, hu⟩, by rw [← e9, ht]; exact hP, by rw [← e9]; exact hD⟩, hS.F ht⟩) hS.2.2 dL_arePats_423
        · have hf := it q8 hf
          refine lv_iconst (v := 1) hx hb dL_arePats_418 (by decide) ?_
          refine lv_goto (tgt := 423) hx hb dL_arePats_419 (by decide) ?_
          obtain ⟨e8, e9⟩ := Prod.mk.inj (sm hf)
          exact W.zret hx hb hr rfl (fun t ht hW => ⟨⟨_, u, rfl, ⟨e8, hu⟩, by rw [← e9, ht]; exact hP, by rw [← e9]; exact hD⟩, hS.F ht⟩) hS.2.2 dL_arePats_423
      · have hf := it q6 hf
        refine lv_ldcf hx hb (v := 3212836864) hown (hts _ (bg _ wd_1404)) dL_arePats_404 ?_
        refine lv_goto (tgt := 414) hx hb dL_arePats_406 (by decide) ?_
        refine lv_fcmp hx hb dL_arePats_414 ?_
        refine lv_if_ne (tgt := 422) hx hb dL_arePats_415 (by decide) (fun q9 => ?_) (fun q9 => ?_)
        · have hf := ie q9 hf
          refine lv_iconst (v := 0) hx hb dL_arePats_422 (by decide) ?_
          obtain ⟨e8, e9⟩ := Prod.mk.inj (sm hf)
          exact W.zret hx hb hr rfl (fun t ht hW => ⟨⟨_, u, rfl, ⟨e8, hu⟩, by rw [← e9, ht]; exact hP, by rw [← e9]; exact hD⟩, hS.F ht⟩) hS.2.2 dL_arePats_423
        · have hf := it q9 hf
          refine lv_iconst (v := 1) hx hb dL_arePats_418 (by decide) ?_
          refine lv_goto (tgt := 423) hx hb dL_arePats_419 (by decide) ?_
          obtain ⟨e8, e9⟩ := Prod.mk.inj (sm hf)
          exact W.zret hx hb hr rfl (fun t ht hW => ⟨⟨_, u, rfl, ⟨e8, hu⟩, by rw [← e9, ht]; exact hP, by rw [← e9]; exact hD⟩, hS.F ht⟩) hS.2.2 dL_arePats_423
  have cut359 : ∀ (S : SX7) (u : LU) (x1 : Int32) (x2 : Int32) (x3 : Int32) (x4 : Int32) (x6 : Int32) (H : Heap) (locs : List Loc) (ls : Array Slot), f_L_arePats_359 S x1 x2 x3 x4 x6 = some (rr, uu) → LNk u → va_P (dC, dI) vwCl (wX7 dA oa S (lT u)) H → va_D A (wX7 dA oa S (lT u)) → va_S A s.heap H locs → lv_has ls 12 [(0, .ref (oa 0)), (1, .int x1), (2, .int x2), (3, .int x3), (4, .int x4), (6, .int x6)] → W p l e (headSpec ws_L_arePats ({ frames := 50, cells := 3944, slots := 8896, locals := 2200 } : Room)).room s m ([.ref (oa 0)] : List Value).toArray below meth c H locs (3942) (8884) (MQ below (va_Qi (S := LU) (fun r' u => r' = rr ∧ LNk u) (fun u t => pQ (dC, dI) A (wX7 dA oa uu (lT u)) t) A) ([.ref (oa 0)] : List Value).toArray s 3944 8896 A) (F0 m 359 ls []) := by
    intro S u x1 x2 x3 x4 x6 H locs ls hf hu hP hD hS hl
    rw [f_L_arePats_359] at hf
    refine lv_iload hx hb dL_arePats_359 (lv_at hl 5 rfl) ?_
    refine lv_if_eq (tgt := 422) hx hb dL_arePats_361 (by decide) (fun q10 => ?_) (fun q10 => ?_)
    · have hf := it q10 hf
      refine lv_iconst (v := 0) hx hb dL_arePats_422 (by decide) ?_
      obtain ⟨e8, e9⟩ := Prod.mk.inj (sm hf)
      refine W.widen (k := 3944) (n := 8896) (Nat.le_of_ble_eq_true rfl) (Nat.le_of_ble_eq_true rfl) ?_
      exact W.zret hx hb hr rfl (fun t ht hW => ⟨⟨_, u, rfl, ⟨e8, hu⟩, by rw [← e9, ht]; exact hP, by rw [← e9]; exact hD⟩, hS.F ht⟩) hS.2.2 dL_arePats_423
    · have hf := ie q10 hf
      refine lv_iload_n hx hb dL_arePats_364 rfl (lv_at hl 2 rfl) ?_
      refine lv_aload_n hx hb dL_arePats_365 rfl (lv_at hl 0 rfl) ?_
      obtain ⟨r11, e13, hf⟩ := bd hf
      refine jw_i (w1 := wX7 dA oa S (lT u)) (va_runV (As := []) (rest := [.int x2]) ⟨hx, hb, hml, hown, hts⟩ (mt_X7_loadedMass l dC dI dA gz oa H.size (lT u) S  r11 e13) (cwV 0 hts (gi_v bg wd_999 wd_1000 wd_1001 wd_1 wd_1002) rfl rfl rfl hd_X7_loadedMass ⟨Nat.le_of_ble_eq_true rfl, Nat.le_of_ble_eq_true rfl⟩) ⟨pP_blind, va_recv (ci := 11) (q0 := 0) hK hP rfl rfl, pP_preW hP hD hS hA hK hN hZ⟩ rfl rfl hl.1 rfl (lv_room (Nat.le_of_ble_eq_true rfl)) dL_arePats_366 ⟨Nat.le_of_ble_eq_true rfl, Nat.le_of_ble_eq_true rfl⟩) hD hS hA (fun H locs hP hD hS => ?_)
      refine lv_icmp_ne (tgt := 422) hx hb dL_arePats_369 (by decide) (fun q15 => ?_) (fun q15 => ?_)
      · have hf := ie q15 hf
        refine lv_iconst (v := 0) hx hb dL_arePats_422 (by decide) ?_
        obtain ⟨e8, e9⟩ := Prod.mk.inj (sm hf)
        refine W.widen (k := 3944) (n := 8896) (Nat.le_of_ble_eq_true rfl) (Nat.le_of_ble_eq_true rfl) ?_
        exact W.zret hx hb hr rfl (fun t ht hW => ⟨⟨_, u, rfl, ⟨e8, hu⟩, by rw [← e9, ht]; exact hP, by rw [← e9]; exact hD⟩, hS.F ht⟩) hS.2.2 dL_arePats_423
      · have hf := it q15 hf
        refine lv_aload_n hx hb dL_arePats_372 rfl (lv_at hl 0 rfl) ?_
        obtain ⟨r16, S17, e18, hf⟩ := bS_inv hf
        refine jw_d (w1 := wX7 dA oa S17 (lT u)) (noRun (vx_runSX (As := [.ref (oa 0)]) (rest := []) ⟨hx, hb, hml, hown, hts⟩ (m_L_meanFirmness l hl0 dC dI dA gz oa H.size (lT u) S  r16 S17 e18) (vx_cwSW 1 hts (gi_t bg wd_1372 wd_1373 wd_0 wd_1374) rfl rfl rfl hd3_L_meanFirmness ⟨Nat.le_of_ble_eq_true rfl, Nat.le_of_ble_eq_true rfl⟩) ⟨pL_blind, pL_of hC (pP_preW hP hD hS hA hK hN hZ)⟩ rfl rfl hl.1 rfl (lv_room (Nat.le_of_ble_eq_true rfl)) dL_arePats_373 ⟨Nat.le_of_ble_eq_true rfl, Nat.le_of_ble_eq_true rfl⟩)) hD hS hA (fun H locs hP hD hS => ?_)
        refine lv_iload_n hx hb dL_arePats_376 rfl (lv_at hl 1 rfl) ?_
        refine lv_if_ne (tgt := 386) hx hb dL_arePats_377 (by decide) (fun q20 => ?_) (fun q20 => ?_)
        · have hf := ie q20 hf
          refine lv_iload hx hb dL_arePats_386 (lv_at hl 4 rfl) ?_
          refine lv_i2d hx hb dL_arePats_388 ?_
          refine lv_iload_n hx hb dL_arePats_389 rfl (lv_at hl 1 rfl) ?_
          refine lv_i2d hx hb dL_arePats_390 ?_
          obtain ⟨z21, hf⟩ := gd hf
          have z21 := Decidable.not_not.mp z21
          refine lv_ddiv hx hb dL_arePats_391 z21 ?_
          exact cut392 S17 u x1 x3 r16 (FP.ddiv (FP.i2d x4) (FP.i2d x1)) _ _ _ hf hu hP hD hS (lv_sub hl [0, 1, 3] rfl)
        · have hf := it q20 hf
          refine lv_ldc2d hx hb (v := 13890095209322119168) hown (hts _ (bg _ wd_1389)) dL_arePats_380 ?_
          refine lv_goto (tgt := 392) hx hb dL_arePats_383 (by decide) ?_
          exact cut392 S17 u x1 x3 r16 13890095209322119168 _ _ _ hf hu hP hD hS (lv_sub hl [0, 1, 3] rfl)
  have cut260 : ∀ (n9 : Nat) (S : SX7) (u : LU) (x1 : Int32) (x2 : Int32) (x3 : Int32) (x4 : Int32) (x6 : Int32) (x7 : Int32) (x9 y9 : Nat) (H : Heap) (locs : List Loc) (ls : Array Slot), f_L_arePats_260 n9 S x1 x2 x3 x4 x6 x7 = some (rr, uu) → LNk u → x9 + 6 * n9 ≤ 3942 → y9 + 36 * n9 ≤ 8884 → va_P (dC, dI) vwCl (wX7 dA oa S (lT u)) H → va_D A (wX7 dA oa S (lT u)) → va_S A s.heap H locs → lv_has ls 12 [(0, .ref (oa 0)), (1, .int x1), (2, .int x2), (3, .int x3), (4, .int x4), (6, .int x6), (7, .int x7)] → W p l e (headSpec ws_L_arePats ({ frames := 50, cells := 3944, slots := 8896, locals := 2200 } : Room)).room s m ([.ref (oa 0)] : List Value).toArray below meth c H locs (x9) (y9) (MQ below (va_Qi (S := LU) (fun r' u => r' = rr ∧ LNk u) (fun u t => pQ (dC, dI) A (wX7 dA oa uu (lT u)) t) A) ([.ref (oa 0)] : List Value).toArray s 3944 8896 A) (F0 m 260 ls []) := by
    intro n9
    induction n9 with
    | zero =>
      intro S u x1 x2 x3 x4 x6 x7 x9 y9 H locs ls hf
      rw [f_L_arePats_260] at hf
      cases hf
    | succ n9 ih =>
      intro S u x1 x2 x3 x4 x6 x7 x9 y9 H locs ls hf hu hx9 hy9 hP hD hS hl
      rw [f_L_arePats_260] at hf
      refine lv_iload hx hb dL_arePats_260 (lv_at hl 5 rfl) ?_
      refine lv_if_eq (tgt := 359) hx hb dL_arePats_262 (by decide) (fun q22 => ?_) (fun q22 => ?_)
      · have hf := it q22 hf
        refine W.widen (k := 3942) (n := 8884) (by (try dsimp only); omega) (by (try dsimp only); omega) ?_
        exact cut359 S u x1 x2 x3 x4 x6 _ _ _ hf hu hP hD hS (lv_sub hl [0, 1, 2, 3, 4, 5] rfl)
      · have hf := ie q22 hf
        refine lv_iload hx hb dL_arePats_265 (lv_at hl 6 rfl) ?_
        refine lv_iload_n hx hb dL_arePats_267 rfl (lv_at hl 1 rfl) ?_
        refine lv_icmp_ge (tgt := 359) hx hb dL_arePats_268 (by decide) (fun q23 => ?_) (fun q23 => ?_)
        · have hf := it q23 hf
          refine W.widen (k := 3942) (n := 8884) (by (try dsimp only); omega) (by (try dsimp only); omega) ?_
          exact cut359 S u x1 x2 x3 x4 x6 _ _ _ hf hu hP hD hS (lv_sub hl [0, 1, 2, 3, 4, 5] rfl)
        · have hf := ie q23 hf
          refine lv_aload_n hx hb dL_arePats_271 rfl (lv_at hl 0 rfl) ?_
          refine lv_iload hx hb dL_arePats_272 (lv_at hl 6 rfl) ?_
          refine lv_iconst (v := 1) hx hb dL_arePats_274 (by decide) ?_
          refine lv_isub hx hb dL_arePats_275 ?_
          obtain ⟨r24, S25, e26, hf⟩ := bS_inv hf
          refine jw_i (w1 := wX7 dA oa S25 (lT u)) (noRun (vx_runSX (As := [.ref (oa 0), .int (x7 - 1)]) (rest := []) ⟨hx, hb, hml, hown, hts⟩ (m_L_patByFirmness l hl0 dC dI dA gz oa H.size (lT u) S (x7 - 1) r24 S25 e26) (vx_cwSW 2 hts (gi_t bg wd_1076 wd_1077 wd_0 wd_1078) rfl rfl rfl hd3_L_patByFirmness ⟨Nat.le_of_ble_eq_true rfl, Nat.le_of_ble_eq_true rfl⟩) ⟨pL_blind, pL_of hC (pP_preW hP hD hS hA hK hN hZ)⟩ rfl rfl hl.1 rfl (lv_room (Nat.le_of_ble_eq_true rfl)) dL_arePats_276 ⟨by (show _ ≤ 3944); (try dsimp only); omega, by (show _ ≤ 8896); (try dsimp only); omega⟩)) hD hS hA (fun H locs hP hD hS => ?_)
          refine lv_istore (lv' := [(8, .int r24), (0, .ref (oa 0)), (1, .int x1), (2, .int x2), (3, .int x3), (4, .int x4), (6, .int x6), (7, .int x7)]) hx hb dL_arePats_279 hl (by decide) rfl (fun ls hl => ?_)
          refine lv_aload_n hx hb dL_arePats_281 rfl (lv_at hl 1 rfl) ?_
          refine lv_iload hx hb dL_arePats_282 (lv_at hl 7 rfl) ?_
          obtain ⟨r28, S29, e30, hf⟩ := bS_inv hf
          refine jw_i (w1 := wX7 dA oa S29 (lT u)) (noRun (vx_runSX (As := [.ref (oa 0), .int x7]) (rest := []) ⟨hx, hb, hml, hown, hts⟩ (m_L_patByFirmness l hl0 dC dI dA gz oa H.size (lT u) S25 x7 r28 S29 e30) (vx_cwSW 2 hts (gi_t bg wd_1076 wd_1077 wd_0 wd_1078) rfl rfl rfl hd3_L_patByFirmness ⟨Nat.le_of_ble_eq_true rfl, Nat.le_of_ble_eq_true rfl⟩) ⟨pL_blind, pL_of hC (pP_preW hP hD hS hA hK hN hZ)⟩ rfl rfl hl.1 rfl (lv_room (Nat.le_of_ble_eq_true rfl)) dL_arePats_284 ⟨by (show _ ≤ 3944); (try dsimp only); omega, by (show _ ≤ 8896); (try dsimp only); omega⟩)) hD hS hA (fun H locs hP hD hS => ?_)
          refine lv_istore (lv' := [(9, .int r28), (8, .int r24), (0, .ref (oa 0)), (1, .int x1), (2, .int x2), (3, .int x3), (4, .int x4), (6, .int x6), (7, .int x7)]) hx hb dL_arePats_287 hl (by decide) rfl (fun ls hl => ?_)
          refine lv_aload_n hx hb dL_arePats_289 rfl (lv_at hl 2 rfl) ?_
          refine lv_iload hx hb dL_arePats_290 (lv_at hl 1 rfl) ?_
          obtain ⟨r32, S33, e34, hf⟩ := bT_inv hf
          refine jx_i (w1 := wX7 dA oa S33 (lT u)) (vx_runV (As := [.int r24]) (rest := []) ⟨hx, hb, hml, hown, hts⟩ (mt_X7_firmness l hl0 dC dI dA gz oa H.size (lT u) S29 r24 (.inl r32) S33 e34) (cwV 1 hts (gi_v bg wd_1068 wd_1069 wd_1070 wd_1 wd_1071) rfl rfl rfl hd_X7_firmness ⟨Nat.le_of_ble_eq_true rfl, Nat.le_of_ble_eq_true rfl⟩) ⟨pP_blind, va_recv (ci := 11) (q0 := 0) hK hP rfl rfl, pP_preW hP hD hS hA hK hN hZ⟩ rfl rfl hl.1 rfl (lv_room (Nat.le_of_ble_eq_true rfl)) dL_arePats_292 ⟨by (show _ ≤ 3944); (try dsimp only); omega, by (show _ ≤ 8896); (try dsimp only); omega⟩) hD hS hA (fun E ce q9 H locs h9 _ _ _ _ _ _ => nomatch h9) (fun r9 H locs h9 hP hD hS => ?_)
          cases h9
          refine lv_aload_n hx hb dL_arePats_295 rfl (lv_at hl 2 rfl) ?_
          refine lv_iload hx hb dL_arePats_296 (lv_at hl 0 rfl) ?_
          obtain ⟨r36, S37, e38, hf⟩ := bT_inv hf
          refine jx_i (w1 := wX7 dA oa S37 (lT u)) (vx_runV (As := [.int r28]) (rest := [.int r32]) ⟨hx, hb, hml, hown, hts⟩ (mt_X7_firmness l hl0 dC dI dA gz oa H.size (lT u) S33 r28 (.inl r36) S37 e38) (cwV 1 hts (gi_v bg wd_1068 wd_1069 wd_1070 wd_1 wd_1071) rfl rfl rfl hd_X7_firmness ⟨Nat.le_of_ble_eq_true rfl, Nat.le_of_ble_eq_true rfl⟩) ⟨pP_blind, va_recv (ci := 11) (q0 := 0) hK hP rfl rfl, pP_preW hP hD hS hA hK hN hZ⟩ rfl rfl hl.1 rfl (lv_room (Nat.le_of_ble_eq_true rfl)) dL_arePats_298 ⟨by (show _ ≤ 3944); (try dsimp only); omega, by (show _ ≤ 8896); (try dsimp only); omega⟩) hD hS hA (fun E ce q9 H locs h9 _ _ _ _ _ _ => nomatch h9) (fun r9 H locs h9 hP hD hS => ?_)
          cases h9
          refine lv_isub hx hb dL_arePats_301 ?_
          refine lv_istore (lv' := [(10, .int (r32 - r36)), (9, .int r28), (8, .int r24), (0, .ref (oa 0)), (1, .int x1), (2, .int x2), (3, .int x3), (4, .int x4), (6, .int x6), (7, .int x7)]) hx hb dL_arePats_302 hl (by decide) rfl (fun ls hl => ?_)
          refine lv_aload_n hx hb dL_arePats_304 rfl (lv_at hl 3 rfl) ?_
          refine lv_iload hx hb dL_arePats_305 (lv_at hl 2 rfl) ?_
          obtain ⟨r40, S41, e42, hf⟩ := bT_inv hf
          refine jx_i (w1 := wX7 dA oa S41 (lT u)) (vx_runV (As := [.int r24]) (rest := []) ⟨hx, hb, hml, hown, hts⟩ (mt_X7_patMass l hl0 dC dI dA gz oa H.size (lT u) S37 r24 (.inl r40) S41 e42) (cwV 1 hts (gi_v bg wd_1050 wd_1051 wd_1052 wd_1 wd_1053) rfl rfl rfl hd_X7_patMass ⟨Nat.le_of_ble_eq_true rfl, Nat.le_of_ble_eq_true rfl⟩) ⟨pP_blind, va_recv (ci := 11) (q0 := 0) hK hP rfl rfl, pP_preW hP hD hS hA hK hN hZ⟩ rfl rfl hl.1 rfl (lv_room (Nat.le_of_ble_eq_true rfl)) dL_arePats_307 ⟨by (show _ ≤ 3944); (try dsimp only); omega, by (show _ ≤ 8896); (try dsimp only); omega⟩) hD hS hA (fun E ce q9 H locs h9 _ _ _ _ _ _ => nomatch h9) (fun r9 H locs h9 hP hD hS => ?_)
          cases h9
          refine lv_aload_n hx hb dL_arePats_310 rfl (lv_at hl 3 rfl) ?_
          refine lv_iload hx hb dL_arePats_311 (lv_at hl 1 rfl) ?_
          obtain ⟨r44, S45, e46, hf⟩ := bT_inv hf
          refine jx_i (w1 := wX7 dA oa S45 (lT u)) (vx_runV (As := [.int r28]) (rest := [.int r40]) ⟨hx, hb, hml, hown, hts⟩ (mt_X7_patMass l hl0 dC dI dA gz oa H.size (lT u) S41 r28 (.inl r44) S45 e46) (cwV 1 hts (gi_v bg wd_1050 wd_1051 wd_1052 wd_1 wd_1053) rfl rfl rfl hd_X7_patMass ⟨Nat.le_of_ble_eq_true rfl, Nat.le_of_ble_eq_true rfl⟩) ⟨pP_blind, va_recv (ci := 11) (q0 := 0) hK hP rfl rfl, pP_preW hP hD hS hA hK hN hZ⟩ rfl rfl hl.1 rfl (lv_room (Nat.le_of_ble_eq_true rfl)) dL_arePats_313 ⟨by (show _ ≤ 3944); (try dsimp only); omega, by (show _ ≤ 8896); (try dsimp only); omega⟩) hD hS hA (fun E ce q9 H locs h9 _ _ _ _ _ _ => nomatch h9) (fun r9 H locs h9 hP hD hS => ?_)
          cases h9
          refine lv_isub hx hb dL_arePats_316 ?_
          refine lv_istore (lv' := [(11, .int (r40 - r44)), (10, .int (r32 - r36)), (9, .int r28), (8, .int r24), (0, .ref (oa 0)), (1, .int x1), (2, .int x2), (3, .int x3), (4, .int x4), (6, .int x6), (7, .int x7)]) hx hb dL_arePats_317 hl (by decide) rfl (fun ls hl => ?_)
          refine lv_iload hx hb dL_arePats_319 (lv_at hl 1 rfl) ?_
          refine lv_if_gt (tgt := 346) hx hb dL_arePats_321 (by decide) (fun q48 => ?_) (fun q48 => ?_)
          · have hf := it q48 hf
            refine lv_iconst (v := 1) hx hb dL_arePats_346 (by decide) ?_
            refine lv_goto (tgt := 351) hx hb dL_arePats_347 (by decide) ?_
            refine lv_istore (lv' := [(6, .int 1), (11, .int (r40 - r44)), (10, .int (r32 - r36)), (9, .int r28), (8, .int r24), (0, .ref (oa 0)), (1, .int x1), (2, .int x2), (3, .int x3), (4, .int x4), (7, .int x7)]) hx hb dL_arePats_351 hl (by decide) rfl (fun ls hl => ?_)
            refine lv_iinc (v := (x7 + 1)) (lv' := [(7, .int (x7 + 1)), (6, .int 1), (11, .int (r40 - r44)), (10, .int (r32 - r36)), (9, .int r28), (8, .int r24), (0, .ref (oa 0)), (1, .int x1), (2, .int x2), (3, .int x3), (4, .int x4)]) hx hb dL_arePats_353 hl (k := 10) rfl rfl (by decide) rfl (fun ls hl => ?_)
            refine lv_goto (tgt := 260) hx hb dL_arePats_356 (by decide) ?_
            exact ih S45 u x1 x2 x3 x4 1 (x7 + 1) _ _ _ _ _ hf hu (by (try dsimp only); omega) (by (try dsimp only); omega) hP hD hS (lv_sub hl [6, 7, 8, 9, 10, 1, 0] rfl)
          · have hf := ie q48 hf
            refine lv_iload hx hb dL_arePats_324 (lv_at hl 1 rfl) ?_
            refine lv_if_ne (tgt := 350) hx hb dL_arePats_326 (by decide) (fun q49 => ?_) (fun q49 => ?_)
            · have hf := ie q49 hf
              refine lv_iconst (v := 0) hx hb dL_arePats_350 (by decide) ?_
              refine lv_istore (lv' := [(6, .int 0), (11, .int (r40 - r44)), (10, .int (r32 - r36)), (9, .int r28), (8, .int r24), (0, .ref (oa 0)), (1, .int x1), (2, .int x2), (3, .int x3), (4, .int x4), (7, .int x7)]) hx hb dL_arePats_351 hl (by decide) rfl (fun ls hl => ?_)
              refine lv_iinc (v := (x7 + 1)) (lv' := [(7, .int (x7 + 1)), (6, .int 0), (11, .int (r40 - r44)), (10, .int (r32 - r36)), (9, .int r28), (8, .int r24), (0, .ref (oa 0)), (1, .int x1), (2, .int x2), (3, .int x3), (4, .int x4)]) hx hb dL_arePats_353 hl (k := 10) rfl rfl (by decide) rfl (fun ls hl => ?_)
              refine lv_goto (tgt := 260) hx hb dL_arePats_356 (by decide) ?_
              exact ih S45 u x1 x2 x3 x4 0 (x7 + 1) _ _ _ _ _ hf hu (by (try dsimp only); omega) (by (try dsimp only); omega) hP hD hS (lv_sub hl [6, 7, 8, 9, 10, 1, 0] rfl)
            · have hf := it q49 hf
              refine lv_iload hx hb dL_arePats_329 (lv_at hl 0 rfl) ?_
              refine lv_if_gt (tgt := 346) hx hb dL_arePats_331 (by decide) (fun q50 => ?_) (fun q50 => ?_)
              · have hf := it q50 hf
                refine lv_iconst (v := 1) hx hb dL_arePats_346 (by decide) ?_
                refine lv_goto (tgt := 351) hx hb dL_arePats_347 (by decide) ?_
                refine lv_istore (lv' := [(6, .int 1), (11, .int (r40 - r44)), (10, .int (r32 - r36)), (9, .int r28), (8, .int r24), (0, .ref (oa 0)), (1, .int x1), (2, .int x2), (3, .int x3), (4, .int x4), (7, .int x7)]) hx hb dL_arePats_351 hl (by decide) rfl (fun ls hl => ?_)
                refine lv_iinc (v := (x7 + 1)) (lv' := [(7, .int (x7 + 1)), (6, .int 1), (11, .int (r40 - r44)), (10, .int (r32 - r36)), (9, .int r28), (8, .int r24), (0, .ref (oa 0)), (1, .int x1), (2, .int x2), (3, .int x3), (4, .int x4)]) hx hb dL_arePats_353 hl (k := 10) rfl rfl (by decide) rfl (fun ls hl => ?_)
                refine lv_goto (tgt := 260) hx hb dL_arePats_356 (by decide) ?_
                exact ih S45 u x1 x2 x3 x4 1 (x7 + 1) _ _ _ _ _ hf hu (by (try dsimp only); omega) (by (try dsimp only); omega) hP hD hS (lv_sub hl [6, 7, 8, 9, 10, 1, 0] rfl)
              · have hf := ie q50 hf
                refine lv_iload hx hb dL_arePats_334 (lv_at hl 0 rfl) ?_
                refine lv_if_ne (tgt := 350) hx hb dL_arePats_336 (by decide) (fun q51 => ?_) (fun q51 => ?_)
                · have hf := ie q51 hf
                  refine lv_iconst (v := 0) hx hb dL_arePats_350 (by decide) ?_
                  refine lv_istore (lv' := [(6, .int 0), (11, .int (r40 - r44)), (10, .int (r32 - r36)), (9, .int r28), (8, .int r24), (0, .ref (oa 0)), (1, .int x1), (2, .int x2), (3, .int x3), (4, .int x4), (7, .int x7)]) hx hb dL_arePats_351 hl (by decide) rfl (fun ls hl => ?_)
                  refine lv_iinc (v := (x7 + 1)) (lv' := [(7, .int (x7 + 1)), (6, .int 0), (11, .int (r40 - r44)), (10, .int (r32 - r36)), (9, .int r28), (8, .int r24), (0, .ref (oa 0)), (1, .int x1), (2, .int x2), (3, .int x3), (4, .int x4)]) hx hb dL_arePats_353 hl (k := 10) rfl rfl (by decide) rfl (fun ls hl => ?_)
                  refine lv_goto (tgt := 260) hx hb dL_arePats_356 (by decide) ?_
                  exact ih S45 u x1 x2 x3 x4 0 (x7 + 1) _ _ _ _ _ hf hu (by (try dsimp only); omega) (by (try dsimp only); omega) hP hD hS (lv_sub hl [6, 7, 8, 9, 10, 1, 0] rfl)
                · have hf := it q51 hf
                  refine lv_iload hx hb dL_arePats_339 (lv_at hl 3 rfl) ?_
                  refine lv_iload hx hb dL_arePats_341 (lv_at hl 2 rfl) ?_
                  refine lv_icmp_ge (tgt := 350) hx hb dL_arePats_343 (by decide) (fun q52 => ?_) (fun q52 => ?_)
                  · have hf := it q52 hf
                    refine lv_iconst (v := 0) hx hb dL_arePats_350 (by decide) ?_
                    refine lv_istore (lv' := [(6, .int 0), (11, .int (r40 - r44)), (10, .int (r32 - r36)), (9, .int r28), (8, .int r24), (0, .ref (oa 0)), (1, .int x1), (2, .int x2), (3, .int x3), (4, .int x4), (7, .int x7)]) hx hb dL_arePats_351 hl (by decide) rfl (fun ls hl => ?_)
                    refine lv_iinc (v := (x7 + 1)) (lv' := [(7, .int (x7 + 1)), (6, .int 0), (11, .int (r40 - r44)), (10, .int (r32 - r36)), (9, .int r28), (8, .int r24), (0, .ref (oa 0)), (1, .int x1), (2, .int x2), (3, .int x3), (4, .int x4)]) hx hb dL_arePats_353 hl (k := 10) rfl rfl (by decide) rfl (fun ls hl => ?_)
                    refine lv_goto (tgt := 260) hx hb dL_arePats_356 (by decide) ?_
                    exact ih S45 u x1 x2 x3 x4 0 (x7 + 1) _ _ _ _ _ hf hu (by (try dsimp only); omega) (by (try dsimp only); omega) hP hD hS (lv_sub hl [6, 7, 8, 9, 10, 1, 0] rfl)
                  · have hf := ie q52 hf
                    refine lv_iconst (v := 1) hx hb dL_arePats_346 (by decide) ?_
                    refine lv_goto (tgt := 351) hx hb dL_arePats_347 (by decide) ?_
                    refine lv_istore (lv' := [(6, .int 1), (11, .int (r40 - r44)), (10, .int (r32 - r36)), (9, .int r28), (8, .int r24), (0, .ref (oa 0)), (1, .int x1), (2, .int x2), (3, .int x3), (4, .int x4), (7, .int x7)]) hx hb dL_arePats_351 hl (by decide) rfl (fun ls hl => ?_)
                    refine lv_iinc (v := (x7 + 1)) (lv' := [(7, .int (x7 + 1)), (6, .int 1), (11, .int (r40 - r44)), (10, .int (r32 - r36)), (9, .int r28), (8, .int r24), (0, .ref (oa 0)), (1, .int x1), (2, .int x2), (3, .int x3), (4, .int x4)]) hx hb dL_arePats_353 hl (k := 10) rfl rfl (by decide) rfl (fun ls hl => ?_)
                    refine lv_goto (tgt := 260) hx hb dL_arePats_356 (by decide) ?_
                    exact ih S45 u x1 x2 x3 x4 1 (x7 + 1) _ _ _ _ _ hf hu (by (try dsimp only); omega) (by (try dsimp only); omega) hP hD hS (lv_sub hl [6, 7, 8, 9, 10, 1, 0] rfl)
  have cut65 : ∀ (n9 : Nat) (S : SX7) (u : LU) (x1 : Int32) (x2 : Int32) (x3 : Int32) (x4 : Int32) (x5 : Int32) (x6 : Int32) (x7 : Int32) (x9 y9 : Nat) (H : Heap) (locs : List Loc) (ls : Array Slot), f_L_arePats_65 n9 S x1 x2 x3 x4 x5 x6 x7 = some (rr, uu) → LNk u → x9 + 297 * n9 ≤ 3864 → y9 + 646 * n9 ≤ 8416 → va_P (dC, dI) vwCl (wX7 dA oa S (lT u)) H → va_D A (wX7 dA oa S (lT u)) → va_S A s.heap H locs → lv_has ls 12 [(0, .ref (oa 0)), (1, .int x1), (2, .int x2), (3, .int x3), (4, .int x4), (5, .int x5), (6, .int x6), (7, .int x7)] → W p l e (headSpec ws_L_arePats ({ frames := 50, cells := 3944, slots := 8896, locals := 2200 } : Room)).room s m ([.ref (oa 0)] : List Value).toArray below meth c H locs (x9) (y9) (MQ below (va_Qi (S := LU) (fun r' u => r' = rr ∧ LNk u) (fun u t => pQ (dC, dI) A (wX7 dA oa uu (lT u)) t) A) ([.ref (oa 0)] : List Value).toArray s 3944 8896 A) (F0 m 65 ls []) := by
    intro n9
    induction n9 with
    | zero =>
      intro S u x1 x2 x3 x4 x5 x6 x7 x9 y9 H locs ls hf
      rw [f_L_arePats_65] at hf
      cases hf
    | succ n9 ih =>
      intro S u x1 x2 x3 x4 x5 x6 x7 x9 y9 H locs ls hf hu hx9 hy9 hP hD hS hl
      rw [f_L_arePats_65] at hf
      refine lv_iload hx hb dL_arePats_65 (lv_at hl 6 rfl) ?_
      refine lv_if_eq (tgt := 257) hx hb dL_arePats_67 (by decide) (fun q53 => ?_) (fun q53 => ?_)
      · have hf := it q53 hf
        refine W.widen (k := 3864) (n := 8416) (by (try dsimp only); omega) (by (try dsimp only); omega) ?_
        refine lv_iconst (v := 1) hx hb dL_arePats_257 (by decide) ?_
        refine lv_istore (lv' := [(7, .int 1), (0, .ref (oa 0)), (1, .int x1), (2, .int x2), (3, .int x3), (4, .int x4), (5, .int x5), (6, .int x6)]) hx hb dL_arePats_258 hl (by decide) rfl (fun ls hl => ?_)
        exact cut260 13 S u x1 x2 x3 x4 x6 1 3864 8416 _ _ _ hf hu (Nat.le_of_ble_eq_true rfl) (Nat.le_of_ble_eq_true rfl) hP hD hS (lv_sub hl [1, 2, 3, 4, 5, 7, 0] rfl)
      · have hf := ie q53 hf
        refine lv_iload hx hb dL_arePats_70 (lv_at hl 7 rfl) ?_
        refine lv_if_lt (tgt := 257) hx hb dL_arePats_72 (by decide) (fun q54 => ?_) (fun q54 => ?_)
        · have hf := it q54 hf
          refine W.widen (k := 3864) (n := 8416) (by (try dsimp only); omega) (by (try dsimp only); omega) ?_
          refine lv_iconst (v := 1) hx hb dL_arePats_257 (by decide) ?_
          refine lv_istore (lv' := [(7, .int 1), (0, .ref (oa 0)), (1, .int x1), (2, .int x2), (3, .int x3), (4, .int x4), (5, .int x5), (6, .int x6)]) hx hb dL_arePats_258 hl (by decide) rfl (fun ls hl => ?_)
          exact cut260 13 S u x1 x2 x3 x4 x6 1 3864 8416 _ _ _ hf hu (Nat.le_of_ble_eq_true rfl) (Nat.le_of_ble_eq_true rfl) hP hD hS (lv_sub hl [1, 2, 3, 4, 5, 7, 0] rfl)
        · have hf := ie q54 hf
          refine lv_aload_n hx hb dL_arePats_75 rfl (lv_at hl 0 rfl) ?_
          refine lv_iload hx hb dL_arePats_76 (lv_at hl 7 rfl) ?_
          obtain ⟨r55, S56, e57, hf⟩ := bT_inv hf
          refine jx_i (w1 := wX7 dA oa S56 (lT u)) (vx_runV (As := [.int x7]) (rest := []) ⟨hx, hb, hml, hown, hts⟩ (mt_X7_patTemperature l hl0 dC dI dA gz oa H.size (lT u) S x7 (.inl r55) S56 e57) (cwV 1 hts (gi_v bg wd_1060 wd_1061 wd_1062 wd_1 wd_1063) rfl rfl rfl hd_X7_patTemperature ⟨Nat.le_of_ble_eq_true rfl, Nat.le_of_ble_eq_true rfl⟩) ⟨pP_blind, va_recv (ci := 11) (q0 := 0) hK hP rfl rfl, pP_preW hP hD hS hA hK hN hZ⟩ rfl rfl hl.1 rfl (lv_room (Nat.le_of_ble_eq_true rfl)) dL_arePats_78 ⟨by (show _ ≤ 3944); (try dsimp only); omega, by (show _ ≤ 8896); (try dsimp only); omega⟩) hD hS hA (fun E ce q9 H locs h9 _ _ _ _ _ _ => nomatch h9) (fun r9 H locs h9 hP hD hS => ?_)
          cases h9
          refine lv_bipush (v := 30) hx hb dL_arePats_81 (by decide) ?_
          refine lv_icmp_gt (tgt := 90) hx hb dL_arePats_83 (by decide) (fun q59 => ?_) (fun q59 => ?_)
          · have hf := it q59 hf
            refine lv_iconst (v := 0) hx hb dL_arePats_90 (by decide) ?_
            refine lv_istore (lv' := [(8, .int 0), (0, .ref (oa 0)), (1, .int x1), (2, .int x2), (3, .int x3), (4, .int x4), (5, .int x5), (6, .int x6), (7, .int x7)]) hx hb dL_arePats_91 hl (by decide) rfl (fun ls hl => ?_)
            refine lv_iload hx hb dL_arePats_93 (lv_at hl 0 rfl) ?_
            refine lv_if_eq (tgt := 102) hx hb dL_arePats_95 (by decide) (fun q60 => ?_) (fun q60 => ?_)
            · have _h9 := q60
              refine lv_aload_n hx hb dL_arePats_102 rfl (lv_at hl 1 rfl) ?_
              refine lv_iload hx hb dL_arePats_103 (lv_at hl 8 rfl) ?_
              obtain ⟨r61, S62, e63, hf⟩ := bT_inv hf
              refine jx_i (w1 := wX7 dA oa S62 (lT u)) (vx_runV (As := [.int x7]) (rest := []) ⟨hx, hb, hml, hown, hts⟩ (mt_X7_patTemperature l hl0 dC dI dA gz oa H.size (lT u) S56 x7 (.inl r61) S62 e63) (cwV 1 hts (gi_v bg wd_1060 wd_1061 wd_1062 wd_1 wd_1063) rfl rfl rfl hd_X7_patTemperature ⟨Nat.le_of_ble_eq_true rfl, Nat.le_of_ble_eq_true rfl⟩) ⟨pP_blind, va_recv (ci := 11) (q0 := 0) hK hP rfl rfl, pP_preW hP hD hS hA hK hN hZ⟩ rfl rfl hl.1 rfl (lv_room (Nat.le_of_ble_eq_true rfl)) dL_arePats_105 ⟨by (show _ ≤ 3944); (try dsimp only); omega, by (show _ ≤ 8896); (try dsimp only); omega⟩) hD hS hA (fun E ce q9 H locs h9 _ _ _ _ _ _ => nomatch h9) (fun r9 H locs h9 hP hD hS => ?_)
              cases h9
              refine lv_bipush (v := 26) hx hb dL_arePats_108 (by decide) ?_
              refine lv_isub hx hb dL_arePats_110 ?_
              refine lv_iconst (v := 5) hx hb dL_arePats_111 (by decide) ?_
              refine lv_idiv hx hb dL_arePats_112 (by decide) ?_
              refine lv_istore (lv' := [(9, .int ((r61 - 26) / 5)), (8, .int 0), (0, .ref (oa 0)), (1, .int x1), (2, .int x2), (3, .int x3), (4, .int x4), (5, .int x5), (6, .int x6), (7, .int x7)]) hx hb dL_arePats_113 hl (by decide) rfl (fun ls hl => ?_)
              refine lv_iload_n hx hb dL_arePats_115 rfl (lv_at hl 5 rfl) ?_
              refine lv_iload hx hb dL_arePats_116 (lv_at hl 1 rfl) ?_
              refine lv_if_eq (tgt := 125) hx hb dL_arePats_118 (by decide) (fun q65 => ?_) (fun q65 => ?_)
              · have _h9 := q65
                refine lv_iconst (v := 0) hx hb dL_arePats_125 (by decide) ?_
                refine lv_iadd hx hb dL_arePats_126 ?_
                refine lv_istore_n (lv' := [(3, .int (x3 + 0)), (9, .int ((r61 - 26) / 5)), (8, .int 0), (0, .ref (oa 0)), (1, .int x1), (2, .int x2), (4, .int x4), (5, .int x5), (6, .int x6), (7, .int x7)]) hx hb dL_arePats_127 rfl hl (by decide) rfl (fun ls hl => ?_)
                refine lv_iload hx hb dL_arePats_128 (lv_at hl 6 rfl) ?_
                refine lv_aload_n hx hb dL_arePats_130 rfl (lv_at hl 3 rfl) ?_
                refine lv_iload hx hb dL_arePats_131 (lv_at hl 9 rfl) ?_
                obtain ⟨r66, S67, e68, hf⟩ := bT_inv hf
                refine jx_i (w1 := wX7 dA oa S67 (lT u)) (vx_runV (As := [.int x7]) (rest := [.int x4]) ⟨hx, hb, hml, hown, hts⟩ (mt_X7_firmness l hl0 dC dI dA gz oa H.size (lT u) S62 x7 (.inl r66) S67 e68) (cwV 1 hts (gi_v bg wd_1068 wd_1069 wd_1070 wd_1 wd_1071) rfl rfl rfl hd_X7_firmness ⟨Nat.le_of_ble_eq_true rfl, Nat.le_of_ble_eq_true rfl⟩) ⟨pP_blind, va_recv (ci := 11) (q0 := 0) hK hP rfl rfl, pP_preW hP hD hS hA hK hN hZ⟩ rfl rfl hl.1 rfl (lv_room (Nat.le_of_ble_eq_true rfl)) dL_arePats_133 ⟨by (show _ ≤ 3944); (try dsimp only); omega, by (show _ ≤ 8896); (try dsimp only); omega⟩) hD hS hA (fun E ce q9 H locs h9 _ _ _ _ _ _ => nomatch h9) (fun r9 H locs h9 hP hD hS => ?_)
                cases h9
                refine lv_iadd hx hb dL_arePats_136 ?_
                refine lv_istore (lv' := [(4, .int (x4 + r66)), (3, .int (x3 + 0)), (9, .int ((r61 - 26) / 5)), (8, .int 0), (0, .ref (oa 0)), (1, .int x1), (2, .int x2), (5, .int x5), (6, .int x6), (7, .int x7)]) hx hb dL_arePats_137 hl (by decide) rfl (fun ls hl => ?_)
                refine lv_iload_n hx hb dL_arePats_139 rfl (lv_at hl 6 rfl) ?_
                refine lv_aload_n hx hb dL_arePats_140 rfl (lv_at hl 4 rfl) ?_
                refine lv_iload hx hb dL_arePats_141 (lv_at hl 9 rfl) ?_
                obtain ⟨r70, S71, e72, hf⟩ := bT_inv hf
                refine jx_i (w1 := wX7 dA oa S71 (lT u)) (vx_runV (As := [.int x7]) (rest := [.int x2]) ⟨hx, hb, hml, hown, hts⟩ (mt_X7_patMass l hl0 dC dI dA gz oa H.size (lT u) S67 x7 (.inl r70) S71 e72) (cwV 1 hts (gi_v bg wd_1050 wd_1051 wd_1052 wd_1 wd_1053) rfl rfl rfl hd_X7_patMass ⟨Nat.le_of_ble_eq_true rfl, Nat.le_of_ble_eq_true rfl⟩) ⟨pP_blind, va_recv (ci := 11) (q0 := 0) hK hP rfl rfl, pP_preW hP hD hS hA hK hN hZ⟩ rfl rfl hl.1 rfl (lv_room (Nat.le_of_ble_eq_true rfl)) dL_arePats_143 ⟨by (show _ ≤ 3944); (try dsimp only); omega, by (show _ ≤ 8896); (try dsimp only); omega⟩) hD hS hA (fun E ce q9 H locs h9 _ _ _ _ _ _ => nomatch h9) (fun r9 H locs h9 hP hD hS => ?_)
                cases h9
                refine lv_iadd hx hb dL_arePats_146 ?_
                refine lv_istore_n (lv' := [(2, .int (x2 + r70)), (4, .int (x4 + r66)), (3, .int (x3 + 0)), (9, .int ((r61 - 26) / 5)), (8, .int 0), (0, .ref (oa 0)), (1, .int x1), (5, .int x5), (6, .int x6), (7, .int x7)]) hx hb dL_arePats_147 rfl hl (by decide) rfl (fun ls hl => ?_)
                refine lv_iload hx hb dL_arePats_148 (lv_at hl 4 rfl) ?_
                refine lv_if_eq (tgt := 158) hx hb dL_arePats_150 (by decide) (fun q74 => ?_) (fun q74 => ?_)
                · have _h9 := q74
                  refine lv_iload hx hb dL_arePats_158 (lv_at hl 7 rfl) ?_
                  refine lv_istore (lv' := [(5, .int x5), (2, .int (x2 + r70)), (4, .int (x4 + r66)), (3, .int (x3 + 0)), (9, .int ((r61 - 26) / 5)), (8, .int 0), (0, .ref (oa 0)), (1, .int x1), (6, .int x6), (7, .int x7)]) hx hb dL_arePats_160 hl (by decide) rfl (fun ls hl => ?_)
                  refine lv_aload_n hx hb dL_arePats_162 rfl (lv_at hl 6 rfl) ?_
                  refine lv_iload hx hb dL_arePats_163 (lv_at hl 9 rfl) ?_
                  obtain ⟨r75, S76, e77, hf⟩ := bT_inv hf
                  refine jx_i (w1 := wX7 dA oa S76 (lT u)) (vx_runV (As := [.int x7]) (rest := []) ⟨hx, hb, hml, hown, hts⟩ (mt_X7_isCool l hl0 dC dI dA gz oa H.size (lT u) S71 x7 (.inl r75) S76 e77) (cwV 1 hts (gi_v bg wd_1110 wd_1111 wd_1112 wd_1 wd_1113) rfl rfl rfl hd_X7_isCool ⟨Nat.le_of_ble_eq_true rfl, Nat.le_of_ble_eq_true rfl⟩) ⟨pP_blind, va_recv (ci := 11) (q0 := 0) hK hP rfl rfl, pP_preW hP hD hS hA hK hN hZ⟩ rfl rfl hl.1 rfl (lv_room (Nat.le_of_ble_eq_true rfl)) dL_arePats_165 ⟨by (show _ ≤ 3944); (try dsimp only); omega, by (show _ ≤ 8896); (try dsimp only); omega⟩) hD hS hA (fun E ce q9 H locs h9 _ _ _ _ _ _ => nomatch h9) (fun r9 H locs h9 hP hD hS => ?_)
                  cases h9
                  refine lv_iload hx hb dL_arePats_168 (lv_at hl 5 rfl) ?_
                  refine lv_icmp_ne (tgt := 248) hx hb dL_arePats_170 (by decide) (fun q79 => ?_) (fun q79 => ?_)
                  · have hf := ie q79 hf
                    refine lv_iconst (v := 0) hx hb dL_arePats_248 (by decide) ?_
                    refine lv_istore (lv' := [(6, .int 0), (5, .int x5), (2, .int (x2 + r70)), (4, .int (x4 + r66)), (3, .int (x3 + 0)), (9, .int ((r61 - 26) / 5)), (8, .int 0), (0, .ref (oa 0)), (1, .int x1), (7, .int x7)]) hx hb dL_arePats_249 hl (by decide) rfl (fun ls hl => ?_)
                    refine lv_iinc (v := (x7 + (-1))) (lv' := [(7, .int (x7 + (-1))), (6, .int 0), (5, .int x5), (2, .int (x2 + r70)), (4, .int (x4 + r66)), (3, .int (x3 + 0)), (9, .int ((r61 - 26) / 5)), (8, .int 0), (0, .ref (oa 0)), (1, .int x1)]) hx hb dL_arePats_251 hl (k := 9) rfl rfl (by decide) rfl (fun ls hl => ?_)
                    refine lv_goto (tgt := 65) hx hb dL_arePats_254 (by decide) ?_
                    exact ih S76 u x1 (x2 + r70) (x3 + 0) (x4 + r66) x5 0 (x7 + (-1)) _ _ _ _ _ hf hu (by (try dsimp only); omega) (by (try dsimp only); omega) hP hD hS (lv_sub hl [8, 9, 3, 5, 4, 2, 1, 0] rfl)
                  · have hf := it q79 hf
                    refine lv_aload_n hx hb dL_arePats_173 rfl (lv_at hl 6 rfl) ?_
                    refine lv_iload hx hb dL_arePats_174 (lv_at hl 9 rfl) ?_
                    obtain ⟨r80, S81, e82, hf⟩ := bT_inv hf
                    refine jx_i (w1 := wX7 dA oa S81 (lT u)) (vx_runV (As := [.int x7]) (rest := []) ⟨hx, hb, hml, hown, hts⟩ (mt_X7_minutesUntilCool l hl0 dC dI dA gz oa H.size (lT u) S76 x7 (.inl r80) S81 e82) (cwV 1 hts (gi_v bg wd_1115 wd_1116 wd_1117 wd_1 wd_1118) rfl rfl rfl hd_X7_minutesUntilCool ⟨Nat.le_of_ble_eq_true rfl, Nat.le_of_ble_eq_true rfl⟩) ⟨pP_blind, va_recv (ci := 11) (q0 := 0) hK hP rfl rfl, pP_preW hP hD hS hA hK hN hZ⟩ rfl rfl hl.1 rfl (lv_room (Nat.le_of_ble_eq_true rfl)) dL_arePats_176 ⟨by (show _ ≤ 3944); (try dsimp only); omega, by (show _ ≤ 8896); (try dsimp only); omega⟩) hD hS hA (fun E ce q9 H locs h9 _ _ _ _ _ _ => nomatch h9) (fun r9 H locs h9 hP hD hS => ?_)
                    cases h9
                    refine lv_iload hx hb dL_arePats_179 (lv_at hl 4 rfl) ?_
                    refine lv_icmp_ne (tgt := 248) hx hb dL_arePats_181 (by decide) (fun q84 => ?_) (fun q84 => ?_)
                    · have hf := ie q84 hf
                      refine lv_iconst (v := 0) hx hb dL_arePats_248 (by decide) ?_
                      refine lv_istore (lv' := [(6, .int 0), (5, .int x5), (2, .int (x2 + r70)), (4, .int (x4 + r66)), (3, .int (x3 + 0)), (9, .int ((r61 - 26) / 5)), (8, .int 0), (0, .ref (oa 0)), (1, .int x1), (7, .int x7)]) hx hb dL_arePats_249 hl (by decide) rfl (fun ls hl => ?_)
                      refine lv_iinc (v := (x7 + (-1))) (lv' := [(7, .int (x7 + (-1))), (6, .int 0), (5, .int x5), (2, .int (x2 + r70)), (4, .int (x4 + r66)), (3, .int (x3 + 0)), (9, .int ((r61 - 26) / 5)), (8, .int 0), (0, .ref (oa 0)), (1, .int x1)]) hx hb dL_arePats_251 hl (k := 9) rfl rfl (by decide) rfl (fun ls hl => ?_)
                      refine lv_goto (tgt := 65) hx hb dL_arePats_254 (by decide) ?_
                      exact ih S81 u x1 (x2 + r70) (x3 + 0) (x4 + r66) x5 0 (x7 + (-1)) _ _ _ _ _ hf hu (by (try dsimp only); omega) (by (try dsimp only); omega) hP hD hS (lv_sub hl [8, 9, 3, 5, 4, 2, 1, 0] rfl)
                    · have hf := it q84 hf
                      refine lv_aload_n hx hb dL_arePats_184 rfl (lv_at hl 6 rfl) ?_
                      refine lv_iload hx hb dL_arePats_185 (lv_at hl 9 rfl) ?_
                      obtain ⟨r85, S86, e87, hf⟩ := bT_inv hf
                      refine jx_i (w1 := wX7 dA oa S86 (lT u)) (vx_runV (As := [.int x7]) (rest := []) ⟨hx, hb, hml, hown, hts⟩ (mt_X7_minutesUntilCoolByDivision l hl0 dC dI dA gz oa H.size (lT u) S81 x7 (.inl r85) S86 e87) (cwV 1 hts (gi_v bg wd_1119 wd_1120 wd_1121 wd_1 wd_1122) rfl rfl rfl hd_X7_minutesUntilCoolByDivision ⟨Nat.le_of_ble_eq_true rfl, Nat.le_of_ble_eq_true rfl⟩) ⟨pP_blind, va_recv (ci := 11) (q0 := 0) hK hP rfl rfl, pP_preW hP hD hS hA hK hN hZ⟩ rfl rfl hl.1 rfl (lv_room (Nat.le_of_ble_eq_true rfl)) dL_arePats_187 ⟨by (show _ ≤ 3944); (try dsimp only); omega, by (show _ ≤ 8896); (try dsimp only); omega⟩) hD hS hA (fun E ce q9 H locs h9 _ _ _ _ _ _ => nomatch h9) (fun r9 H locs h9 hP hD hS => ?_)
                      cases h9
                      refine lv_iload hx hb dL_arePats_190 (lv_at hl 4 rfl) ?_
                      refine lv_icmp_ne (tgt := 248) hx hb dL_arePats_192 (by decide) (fun q89 => ?_) (fun q89 => ?_)
                      · have hf := ie q89 hf
                        refine lv_iconst (v := 0) hx hb dL_arePats_248 (by decide) ?_
                        refine lv_istore (lv' := [(6, .int 0), (5, .int x5), (2, .int (x2 + r70)), (4, .int (x4 + r66)), (3, .int (x3 + 0)), (9, .int ((r61 - 26) / 5)), (8, .int 0), (0, .ref (oa 0)), (1, .int x1), (7, .int x7)]) hx hb dL_arePats_249 hl (by decide) rfl (fun ls hl => ?_)
                        refine lv_iinc (v := (x7 + (-1))) (lv' := [(7, .int (x7 + (-1))), (6, .int 0), (5, .int x5), (2, .int (x2 + r70)), (4, .int (x4 + r66)), (3, .int (x3 + 0)), (9, .int ((r61 - 26) / 5)), (8, .int 0), (0, .ref (oa 0)), (1, .int x1)]) hx hb dL_arePats_251 hl (k := 9) rfl rfl (by decide) rfl (fun ls hl => ?_)
                        refine lv_goto (tgt := 65) hx hb dL_arePats_254 (by decide) ?_
                        exact ih S86 u x1 (x2 + r70) (x3 + 0) (x4 + r66) x5 0 (x7 + (-1)) _ _ _ _ _ hf hu (by (try dsimp only); omega) (by (try dsimp only); omega) hP hD hS (lv_sub hl [8, 9, 3, 5, 4, 2, 1, 0] rfl)
                      · have hf := it q89 hf
                        refine lv_aload_n hx hb dL_arePats_195 rfl (lv_at hl 6 rfl) ?_
                        refine lv_iload hx hb dL_arePats_196 (lv_at hl 9 rfl) ?_
                        obtain ⟨r90, S91, e92, hf⟩ := bS_inv hf
                        refine jw_i (w1 := wX7 dA oa S91 (lT u)) (noRun (vx_runSX (As := [.ref (oa 0), .int x7]) (rest := []) ⟨hx, hb, hml, hown, hts⟩ (m_L_nextCool l hl0 dC dI dA gz oa H.size (lT u) S86 x7 r90 S91 e92) (vx_cwSW 2 hts (gi_t bg wd_1097 wd_1098 wd_0 wd_1099) rfl rfl rfl hd3_L_nextCool ⟨Nat.le_of_ble_eq_true rfl, Nat.le_of_ble_eq_true rfl⟩) ⟨pL_blind, pL_of hC (pP_preW hP hD hS hA hK hN hZ)⟩ rfl rfl hl.1 rfl (lv_room (Nat.le_of_ble_eq_true rfl)) dL_arePats_198 ⟨by (show _ ≤ 3944); (try dsimp only); omega, by (show _ ≤ 8896); (try dsimp only); omega⟩)) hD hS hA (fun H locs hP hD hS => ?_)
                        refine lv_iload hx hb dL_arePats_201 (lv_at hl 0 rfl) ?_
                        refine lv_icmp_ne (tgt := 248) hx hb dL_arePats_203 (by decide) (fun q94 => ?_) (fun q94 => ?_)
                        · have hf := ie q94 hf
                          refine lv_iconst (v := 0) hx hb dL_arePats_248 (by decide) ?_
                          refine lv_istore (lv' := [(6, .int 0), (5, .int x5), (2, .int (x2 + r70)), (4, .int (x4 + r66)), (3, .int (x3 + 0)), (9, .int ((r61 - 26) / 5)), (8, .int 0), (0, .ref (oa 0)), (1, .int x1), (7, .int x7)]) hx hb dL_arePats_249 hl (by decide) rfl (fun ls hl => ?_)
                          refine lv_iinc (v := (x7 + (-1))) (lv' := [(7, .int (x7 + (-1))), (6, .int 0), (5, .int x5), (2, .int (x2 + r70)), (4, .int (x4 + r66)), (3, .int (x3 + 0)), (9, .int ((r61 - 26) / 5)), (8, .int 0), (0, .ref (oa 0)), (1, .int x1)]) hx hb dL_arePats_251 hl (k := 9) rfl rfl (by decide) rfl (fun ls hl => ?_)
                          refine lv_goto (tgt := 65) hx hb dL_arePats_254 (by decide) ?_
                          exact ih S91 u x1 (x2 + r70) (x3 + 0) (x4 + r66) x5 0 (x7 + (-1)) _ _ _ _ _ hf hu (by (try dsimp only); omega) (by (try dsimp only); omega) hP hD hS (lv_sub hl [8, 9, 3, 5, 4, 2, 1, 0] rfl)
                        · have hf := it q94 hf
                          refine lv_aload_n hx hb dL_arePats_206 rfl (lv_at hl 6 rfl) ?_
                          refine lv_iload hx hb dL_arePats_207 (lv_at hl 9 rfl) ?_
                          obtain ⟨r95, S96, e97, hf⟩ := bT_inv hf
                          refine jx_i (w1 := wX7 dA oa S96 (lT u)) (vx_runV (As := [.int x7]) (rest := []) ⟨hx, hb, hml, hown, hts⟩ (mt_X7_firmness l hl0 dC dI dA gz oa H.size (lT u) S91 x7 (.inl r95) S96 e97) (cwV 1 hts (gi_v bg wd_1068 wd_1069 wd_1070 wd_1 wd_1071) rfl rfl rfl hd_X7_firmness ⟨Nat.le_of_ble_eq_true rfl, Nat.le_of_ble_eq_true rfl⟩) ⟨pP_blind, va_recv (ci := 11) (q0 := 0) hK hP rfl rfl, pP_preW hP hD hS hA hK hN hZ⟩ rfl rfl hl.1 rfl (lv_room (Nat.le_of_ble_eq_true rfl)) dL_arePats_209 ⟨by (show _ ≤ 3944); (try dsimp only); omega, by (show _ ≤ 8896); (try dsimp only); omega⟩) hD hS hA (fun E ce q9 H locs h9 _ _ _ _ _ _ => nomatch h9) (fun r9 H locs h9 hP hD hS => ?_)
                          cases h9
                          refine lv_bipush (v := 100) hx hb dL_arePats_212 (by decide) ?_
                          refine lv_bipush (v := 15) hx hb dL_arePats_214 (by decide) ?_
                          refine lv_aload_n hx hb dL_arePats_216 rfl (lv_at hl 6 rfl) ?_
                          refine lv_iload hx hb dL_arePats_217 (lv_at hl 9 rfl) ?_
                          obtain ⟨r99, S100, e101, hf⟩ := bT_inv hf
                          refine jx_i (w1 := wX7 dA oa S100 (lT u)) (vx_runV (As := [.int x7]) (rest := [.int 15, .int 100, .int r95]) ⟨hx, hb, hml, hown, hts⟩ (mt_X7_cracks l hl0 dC dI dA gz oa H.size (lT u) S96 x7 (.inl r99) S100 e101) (cwV 1 hts (gi_v bg wd_1064 wd_1065 wd_1066 wd_1 wd_1067) rfl rfl rfl hd_X7_cracks ⟨Nat.le_of_ble_eq_true rfl, Nat.le_of_ble_eq_true rfl⟩) ⟨pP_blind, va_recv (ci := 11) (q0 := 0) hK hP rfl rfl, pP_preW hP hD hS hA hK hN hZ⟩ rfl rfl hl.1 rfl (lv_room (Nat.le_of_ble_eq_true rfl)) dL_arePats_219 ⟨by (show _ ≤ 3944); (try dsimp only); omega, by (show _ ≤ 8896); (try dsimp only); omega⟩) hD hS hA (fun E ce q9 H locs h9 _ _ _ _ _ _ => nomatch h9) (fun r9 H locs h9 hP hD hS => ?_)
                          cases h9
                          refine lv_imul hx hb dL_arePats_222 ?_
                          refine lv_isub hx hb dL_arePats_223 ?_
                          refine lv_icmp_gt (tgt := 248) hx hb dL_arePats_224 (by decide) (fun q103 => ?_) (fun q103 => ?_)
                          · have hf := it q103 hf
                            refine lv_iconst (v := 0) hx hb dL_arePats_248 (by decide) ?_
                            refine lv_istore (lv' := [(6, .int 0), (5, .int x5), (2, .int (x2 + r70)), (4, .int (x4 + r66)), (3, .int (x3 + 0)), (9, .int ((r61 - 26) / 5)), (8, .int 0), (0, .ref (oa 0)), (1, .int x1), (7, .int x7)]) hx hb dL_arePats_249 hl (by decide) rfl (fun ls hl => ?_)
                            refine lv_iinc (v := (x7 + (-1))) (lv' := [(7, .int (x7 + (-1))), (6, .int 0), (5, .int x5), (2, .int (x2 + r70)), (4, .int (x4 + r66)), (3, .int (x3 + 0)), (9, .int ((r61 - 26) / 5)), (8, .int 0), (0, .ref (oa 0)), (1, .int x1)]) hx hb dL_arePats_251 hl (k := 9) rfl rfl (by decide) rfl (fun ls hl => ?_)
                            refine lv_goto (tgt := 65) hx hb dL_arePats_254 (by decide) ?_
                            exact ih S100 u x1 (x2 + r70) (x3 + 0) (x4 + r66) x5 0 (x7 + (-1)) _ _ _ _ _ hf hu (by (try dsimp only); omega) (by (try dsimp only); omega) hP hD hS (lv_sub hl [8, 9, 3, 5, 4, 2, 1, 0] rfl)
                          · have hf := ie q103 hf
                            refine lv_aload_n hx hb dL_arePats_227 rfl (lv_at hl 6 rfl) ?_
                            refine lv_iload hx hb dL_arePats_228 (lv_at hl 9 rfl) ?_
                            obtain ⟨r104, S105, e106, hf⟩ := bT_inv hf
                            refine jxE_i (ok := LNk) (wx := wX7 dA oa S105 (lT u)) (w1 := fun u9 : LU => wX7 dA oa S105 (lT u9)) (vx_runV (As := [.int x7]) (rest := []) ⟨hx, hb, hml, hown, hts⟩ (mt_X7_writePat l hl0 dC dI dA gz oa H.size u.1 u.2.1 u.2.2.1 u.2.2.2.1 u.2.2.2.2 hu.1 hu.2.1 hu.2.2 S100 x7 (.inl r104) S105 e106) (cwV 1 hts (gi_v bg wd_1124 wd_1125 wd_1126 wd_1 wd_1127) rfl rfl rfl hd_X7_writePat ⟨Nat.le_of_ble_eq_true rfl, Nat.le_of_ble_eq_true rfl⟩) ⟨pP_blind, va_recv (ci := 11) (q0 := 0) hK hP rfl rfl, pP_preW hP hD hS hA hK hN hZ⟩ rfl rfl hl.1 rfl (lv_room (Nat.le_of_ble_eq_true rfl)) dL_arePats_230 ⟨by (show _ ≤ 3944); (try dsimp only); omega, by (show _ ≤ 8896); (try dsimp only); omega⟩) hD hS hA (fun u107 H locs hu107 hP hD hS => ?_)
                            refine lv_iconst (v := 5) hx hb dL_arePats_233 (by decide) ?_
                            refine lv_aload_n hx hb dL_arePats_234 rfl (lv_at hl 6 rfl) ?_
                            refine lv_iload hx hb dL_arePats_235 (lv_at hl 9 rfl) ?_
                            obtain ⟨r108, S109, e110, hf⟩ := bT_inv hf
                            refine jx_i (w1 := wX7 dA oa S109 (lT u107)) (vx_runV (As := [.int x7]) (rest := [.int 5, .int r104]) ⟨hx, hb, hml, hown, hts⟩ (mt_X7_cracks l hl0 dC dI dA gz oa H.size (lT u107) S105 x7 (.inl r108) S109 e110) (cwV 1 hts (gi_v bg wd_1064 wd_1065 wd_1066 wd_1 wd_1067) rfl rfl rfl hd_X7_cracks ⟨Nat.le_of_ble_eq_true rfl, Nat.le_of_ble_eq_true rfl⟩) ⟨pP_blind, va_recv (ci := 11) (q0 := 0) hK hP rfl rfl, pP_preW hP hD hS hA hK hN hZ⟩ rfl rfl hl.1 rfl (lv_room (Nat.le_of_ble_eq_true rfl)) dL_arePats_237 ⟨by (show _ ≤ 3944); (try dsimp only); omega, by (show _ ≤ 8896); (try dsimp only); omega⟩) hD hS hA (fun E ce q9 H locs h9 _ _ _ _ _ _ => nomatch h9) (fun r9 H locs h9 hP hD hS => ?_)
                            cases h9
                            refine lv_iadd hx hb dL_arePats_240 ?_
                            refine lv_icmp_lt (tgt := 248) hx hb dL_arePats_241 (by decide) (fun q112 => ?_) (fun q112 => ?_)
                            · have hf := it q112 hf
                              refine lv_iconst (v := 0) hx hb dL_arePats_248 (by decide) ?_
                              refine lv_istore (lv' := [(6, .int 0), (5, .int x5), (2, .int (x2 + r70)), (4, .int (x4 + r66)), (3, .int (x3 + 0)), (9, .int ((r61 - 26) / 5)), (8, .int 0), (0, .ref (oa 0)), (1, .int x1), (7, .int x7)]) hx hb dL_arePats_249 hl (by decide) rfl (fun ls hl => ?_)
                              refine lv_iinc (v := (x7 + (-1))) (lv' := [(7, .int (x7 + (-1))), (6, .int 0), (5, .int x5), (2, .int (x2 + r70)), (4, .int (x4 + r66)), (3, .int (x3 + 0)), (9, .int ((r61 - 26) / 5)), (8, .int 0), (0, .ref (oa 0)), (1, .int x1)]) hx hb dL_arePats_251 hl (k := 9) rfl rfl (by decide) rfl (fun ls hl => ?_)
                              refine lv_goto (tgt := 65) hx hb dL_arePats_254 (by decide) ?_
                              exact ih S109 u107 x1 (x2 + r70) (x3 + 0) (x4 + r66) x5 0 (x7 + (-1)) _ _ _ _ _ hf hu107 (by (try dsimp only); omega) (by (try dsimp only); omega) hP hD hS (lv_sub hl [8, 9, 3, 5, 4, 2, 1, 0] rfl)
                            · have hf := ie q112 hf
                              refine lv_iconst (v := 1) hx hb dL_arePats_244 (by decide) ?_
                              refine lv_goto (tgt := 249) hx hb dL_arePats_245 (by decide) ?_
                              refine lv_istore (lv' := [(6, .int 1), (5, .int x5), (2, .int (x2 + r70)), (4, .int (x4 + r66)), (3, .int (x3 + 0)), (9, .int ((r61 - 26) / 5)), (8, .int 0), (0, .ref (oa 0)), (1, .int x1), (7, .int x7)]) hx hb dL_arePats_249 hl (by decide) rfl (fun ls hl => ?_)
                              refine lv_iinc (v := (x7 + (-1))) (lv' := [(7, .int (x7 + (-1))), (6, .int 1), (5, .int x5), (2, .int (x2 + r70)), (4, .int (x4 + r66)), (3, .int (x3 + 0)), (9, .int ((r61 - 26) / 5)), (8, .int 0), (0, .ref (oa 0)), (1, .int x1)]) hx hb dL_arePats_251 hl (k := 9) rfl rfl (by decide) rfl (fun ls hl => ?_)
                              refine lv_goto (tgt := 65) hx hb dL_arePats_254 (by decide) ?_
                              exact ih S109 u107 x1 (x2 + r70) (x3 + 0) (x4 + r66) x5 1 (x7 + (-1)) _ _ _ _ _ hf hu107 (by (try dsimp only); omega) (by (try dsimp only); omega) hP hD hS (lv_sub hl [8, 9, 3, 5, 4, 2, 1, 0] rfl)
                · exact absurd q74 (by decide)
              · exact absurd q65 (by decide)
            · exact absurd q60 (by decide)
          · have hf := ie q59 hf
            refine lv_iconst (v := 1) hx hb dL_arePats_86 (by decide) ?_
            refine lv_goto (tgt := 91) hx hb dL_arePats_87 (by decide) ?_
            refine lv_istore (lv' := [(8, .int 1), (0, .ref (oa 0)), (1, .int x1), (2, .int x2), (3, .int x3), (4, .int x4), (5, .int x5), (6, .int x6), (7, .int x7)]) hx hb dL_arePats_91 hl (by decide) rfl (fun ls hl => ?_)
            refine lv_iload hx hb dL_arePats_93 (lv_at hl 0 rfl) ?_
            refine lv_if_eq (tgt := 102) hx hb dL_arePats_95 (by decide) (fun q113 => ?_) (fun q113 => ?_)
            · exact absurd q113 (by decide)
            · have _h9 := q113
              refine lv_iconst (v := 0) hx hb dL_arePats_98 (by decide) ?_
              refine lv_goto (tgt := 113) hx hb dL_arePats_99 (by decide) ?_
              refine lv_istore (lv' := [(9, .int 0), (8, .int 1), (0, .ref (oa 0)), (1, .int x1), (2, .int x2), (3, .int x3), (4, .int x4), (5, .int x5), (6, .int x6), (7, .int x7)]) hx hb dL_arePats_113 hl (by decide) rfl (fun ls hl => ?_)
              refine lv_iload_n hx hb dL_arePats_115 rfl (lv_at hl 5 rfl) ?_
              refine lv_iload hx hb dL_arePats_116 (lv_at hl 1 rfl) ?_
              refine lv_if_eq (tgt := 125) hx hb dL_arePats_118 (by decide) (fun q114 => ?_) (fun q114 => ?_)
              · exact absurd q114 (by decide)
              · have _h9 := q114
                refine lv_iconst (v := 1) hx hb dL_arePats_121 (by decide) ?_
                refine lv_goto (tgt := 126) hx hb dL_arePats_122 (by decide) ?_
                refine lv_iadd hx hb dL_arePats_126 ?_
                refine lv_istore_n (lv' := [(3, .int (x3 + 1)), (9, .int 0), (8, .int 1), (0, .ref (oa 0)), (1, .int x1), (2, .int x2), (4, .int x4), (5, .int x5), (6, .int x6), (7, .int x7)]) hx hb dL_arePats_127 rfl hl (by decide) rfl (fun ls hl => ?_)
                refine lv_iload hx hb dL_arePats_128 (lv_at hl 6 rfl) ?_
                refine lv_aload_n hx hb dL_arePats_130 rfl (lv_at hl 3 rfl) ?_
                refine lv_iload hx hb dL_arePats_131 (lv_at hl 9 rfl) ?_
                obtain ⟨r115, S116, e117, hf⟩ := bT_inv hf
                refine jx_i (w1 := wX7 dA oa S116 (lT u)) (vx_runV (As := [.int x7]) (rest := [.int x4]) ⟨hx, hb, hml, hown, hts⟩ (mt_X7_firmness l hl0 dC dI dA gz oa H.size (lT u) S56 x7 (.inl r115) S116 e117) (cwV 1 hts (gi_v bg wd_1068 wd_1069 wd_1070 wd_1 wd_1071) rfl rfl rfl hd_X7_firmness ⟨Nat.le_of_ble_eq_true rfl, Nat.le_of_ble_eq_true rfl⟩) ⟨pP_blind, va_recv (ci := 11) (q0 := 0) hK hP rfl rfl, pP_preW hP hD hS hA hK hN hZ⟩ rfl rfl hl.1 rfl (lv_room (Nat.le_of_ble_eq_true rfl)) dL_arePats_133 ⟨by (show _ ≤ 3944); (try dsimp only); omega, by (show _ ≤ 8896); (try dsimp only); omega⟩) hD hS hA (fun E ce q9 H locs h9 _ _ _ _ _ _ => nomatch h9) (fun r9 H locs h9 hP hD hS => ?_)
                cases h9
                refine lv_iadd hx hb dL_arePats_136 ?_
                refine lv_istore (lv' := [(4, .int (x4 + r115)), (3, .int (x3 + 1)), (9, .int 0), (8, .int 1), (0, .ref (oa 0)), (1, .int x1), (2, .int x2), (5, .int x5), (6, .int x6), (7, .int x7)]) hx hb dL_arePats_137 hl (by decide) rfl (fun ls hl => ?_)
                refine lv_iload_n hx hb dL_arePats_139 rfl (lv_at hl 6 rfl) ?_
                refine lv_aload_n hx hb dL_arePats_140 rfl (lv_at hl 4 rfl) ?_
                refine lv_iload hx hb dL_arePats_141 (lv_at hl 9 rfl) ?_
                obtain ⟨r119, S120, e121, hf⟩ := bT_inv hf
                refine jx_i (w1 := wX7 dA oa S120 (lT u)) (vx_runV (As := [.int x7]) (rest := [.int x2]) ⟨hx, hb, hml, hown, hts⟩ (mt_X7_patMass l hl0 dC dI dA gz oa H.size (lT u) S116 x7 (.inl r119) S120 e121) (cwV 1 hts (gi_v bg wd_1050 wd_1051 wd_1052 wd_1 wd_1053) rfl rfl rfl hd_X7_patMass ⟨Nat.le_of_ble_eq_true rfl, Nat.le_of_ble_eq_true rfl⟩) ⟨pP_blind, va_recv (ci := 11) (q0 := 0) hK hP rfl rfl, pP_preW hP hD hS hA hK hN hZ⟩ rfl rfl hl.1 rfl (lv_room (Nat.le_of_ble_eq_true rfl)) dL_arePats_143 ⟨by (show _ ≤ 3944); (try dsimp only); omega, by (show _ ≤ 8896); (try dsimp only); omega⟩) hD hS hA (fun E ce q9 H locs h9 _ _ _ _ _ _ => nomatch h9) (fun r9 H locs h9 hP hD hS => ?_)
                cases h9
                refine lv_iadd hx hb dL_arePats_146 ?_
                refine lv_istore_n (lv' := [(2, .int (x2 + r119)), (4, .int (x4 + r115)), (3, .int (x3 + 1)), (9, .int 0), (8, .int 1), (0, .ref (oa 0)), (1, .int x1), (5, .int x5), (6, .int x6), (7, .int x7)]) hx hb dL_arePats_147 rfl hl (by decide) rfl (fun ls hl => ?_)
                refine lv_iload hx hb dL_arePats_148 (lv_at hl 4 rfl) ?_
                refine lv_if_eq (tgt := 158) hx hb dL_arePats_150 (by decide) (fun q123 => ?_) (fun q123 => ?_)
                · exact absurd q123 (by decide)
                · have _h9 := q123
                  refine lv_iload hx hb dL_arePats_153 (lv_at hl 9 rfl) ?_
                  refine lv_goto (tgt := 160) hx hb dL_arePats_155 (by decide) ?_
                  refine lv_istore (lv' := [(5, .int x7), (2, .int (x2 + r119)), (4, .int (x4 + r115)), (3, .int (x3 + 1)), (9, .int 0), (8, .int 1), (0, .ref (oa 0)), (1, .int x1), (6, .int x6), (7, .int x7)]) hx hb dL_arePats_160 hl (by decide) rfl (fun ls hl => ?_)
                  refine lv_aload_n hx hb dL_arePats_162 rfl (lv_at hl 6 rfl) ?_
                  refine lv_iload hx hb dL_arePats_163 (lv_at hl 9 rfl) ?_
                  obtain ⟨r124, S125, e126, hf⟩ := bT_inv hf
                  refine jx_i (w1 := wX7 dA oa S125 (lT u)) (vx_runV (As := [.int x7]) (rest := []) ⟨hx, hb, hml, hown, hts⟩ (mt_X7_isCool l hl0 dC dI dA gz oa H.size (lT u) S120 x7 (.inl r124) S125 e126) (cwV 1 hts (gi_v bg wd_1110 wd_1111 wd_1112 wd_1 wd_1113) rfl rfl rfl hd_X7_isCool ⟨Nat.le_of_ble_eq_true rfl, Nat.le_of_ble_eq_true rfl⟩) ⟨pP_blind, va_recv (ci := 11) (q0 := 0) hK hP rfl rfl, pP_preW hP hD hS hA hK hN hZ⟩ rfl rfl hl.1 rfl (lv_room (Nat.le_of_ble_eq_true rfl)) dL_arePats_165 ⟨by (show _ ≤ 3944); (try dsimp only); omega, by (show _ ≤ 8896); (try dsimp only); omega⟩) hD hS hA (fun E ce q9 H locs h9 _ _ _ _ _ _ => nomatch h9) (fun r9 H locs h9 hP hD hS => ?_)
                  cases h9
                  refine lv_iload hx hb dL_arePats_168 (lv_at hl 5 rfl) ?_
                  refine lv_icmp_ne (tgt := 248) hx hb dL_arePats_170 (by decide) (fun q128 => ?_) (fun q128 => ?_)
                  · have hf := ie q128 hf
                    refine lv_iconst (v := 0) hx hb dL_arePats_248 (by decide) ?_
                    refine lv_istore (lv' := [(6, .int 0), (5, .int x7), (2, .int (x2 + r119)), (4, .int (x4 + r115)), (3, .int (x3 + 1)), (9, .int 0), (8, .int 1), (0, .ref (oa 0)), (1, .int x1), (7, .int x7)]) hx hb dL_arePats_249 hl (by decide) rfl (fun ls hl => ?_)
                    refine lv_iinc (v := (x7 + (-1))) (lv' := [(7, .int (x7 + (-1))), (6, .int 0), (5, .int x7), (2, .int (x2 + r119)), (4, .int (x4 + r115)), (3, .int (x3 + 1)), (9, .int 0), (8, .int 1), (0, .ref (oa 0)), (1, .int x1)]) hx hb dL_arePats_251 hl (k := 9) rfl rfl (by decide) rfl (fun ls hl => ?_)
                    refine lv_goto (tgt := 65) hx hb dL_arePats_254 (by decide) ?_
                    exact ih S125 u x1 (x2 + r119) (x3 + 1) (x4 + r115) x7 0 (x7 + (-1)) _ _ _ _ _ hf hu (by (try dsimp only); omega) (by (try dsimp only); omega) hP hD hS (lv_sub hl [8, 9, 3, 5, 4, 2, 1, 0] rfl)
                  · have hf := it q128 hf
                    refine lv_aload_n hx hb dL_arePats_173 rfl (lv_at hl 6 rfl) ?_
                    refine lv_iload hx hb dL_arePats_174 (lv_at hl 9 rfl) ?_
                    obtain ⟨r129, S130, e131, hf⟩ := bT_inv hf
                    refine jx_i (w1 := wX7 dA oa S130 (lT u)) (vx_runV (As := [.int x7]) (rest := []) ⟨hx, hb, hml, hown, hts⟩ (mt_X7_minutesUntilCool l hl0 dC dI dA gz oa H.size (lT u) S125 x7 (.inl r129) S130 e131) (cwV 1 hts (gi_v bg wd_1115 wd_1116 wd_1117 wd_1 wd_1118) rfl rfl rfl hd_X7_minutesUntilCool ⟨Nat.le_of_ble_eq_true rfl, Nat.le_of_ble_eq_true rfl⟩) ⟨pP_blind, va_recv (ci := 11) (q0 := 0) hK hP rfl rfl, pP_preW hP hD hS hA hK hN hZ⟩ rfl rfl hl.1 rfl (lv_room (Nat.le_of_ble_eq_true rfl)) dL_arePats_176 ⟨by (show _ ≤ 3944); (try dsimp only); omega, by (show _ ≤ 8896); (try dsimp only); omega⟩) hD hS hA (fun E ce q9 H locs h9 _ _ _ _ _ _ => nomatch h9) (fun r9 H locs h9 hP hD hS => ?_)
                    cases h9
                    refine lv_iload hx hb dL_arePats_179 (lv_at hl 4 rfl) ?_
                    refine lv_icmp_ne (tgt := 248) hx hb dL_arePats_181 (by decide) (fun q133 => ?_) (fun q133 => ?_)
                    · have hf := ie q133 hf
                      refine lv_iconst (v := 0) hx hb dL_arePats_248 (by decide) ?_
                      refine lv_istore (lv' := [(6, .int 0), (5, .int x7), (2, .int (x2 + r119)), (4, .int (x4 + r115)), (3, .int (x3 + 1)), (9, .int 0), (8, .int 1), (0, .ref (oa 0)), (1, .int x1), (7, .int x7)]) hx hb dL_arePats_249 hl (by decide) rfl (fun ls hl => ?_)
                      refine lv_iinc (v := (x7 + (-1))) (lv' := [(7, .int (x7 + (-1))), (6, .int 0), (5, .int x7), (2, .int (x2 + r119)), (4, .int (x4 + r115)), (3, .int (x3 + 1)), (9, .int 0), (8, .int 1), (0, .ref (oa 0)), (1, .int x1)]) hx hb dL_arePats_251 hl (k := 9) rfl rfl (by decide) rfl (fun ls hl => ?_)
                      refine lv_goto (tgt := 65) hx hb dL_arePats_254 (by decide) ?_
                      exact ih S130 u x1 (x2 + r119) (x3 + 1) (x4 + r115) x7 0 (x7 + (-1)) _ _ _ _ _ hf hu (by (try dsimp only); omega) (by (try dsimp only); omega) hP hD hS (lv_sub hl [8, 9, 3, 5, 4, 2, 1, 0] rfl)
                    · have hf := it q133 hf
                      refine lv_aload_n hx hb dL_arePats_184 rfl (lv_at hl 6 rfl) ?_
                      refine lv_iload hx hb dL_arePats_185 (lv_at hl 9 rfl) ?_
                      obtain ⟨r134, S135, e136, hf⟩ := bT_inv hf
                      refine jx_i (w1 := wX7 dA oa S135 (lT u)) (vx_runV (As := [.int x7]) (rest := []) ⟨hx, hb, hml, hown, hts⟩ (mt_X7_minutesUntilCoolByDivision l hl0 dC dI dA gz oa H.size (lT u) S130 x7 (.inl r134) S135 e136) (cwV 1 hts (gi_v bg wd_1119 wd_1120 wd_1121 wd_1 wd_1122) rfl rfl rfl hd_X7_minutesUntilCoolByDivision ⟨Nat.le_of_ble_eq_true rfl, Nat.le_of_ble_eq_true rfl⟩) ⟨pP_blind, va_recv (ci := 11) (q0 := 0) hK hP rfl rfl, pP_preW hP hD hS hA hK hN hZ⟩ rfl rfl hl.1 rfl (lv_room (Nat.le_of_ble_eq_true rfl)) dL_arePats_187 ⟨by (show _ ≤ 3944); (try dsimp only); omega, by (show _ ≤ 8896); (try dsimp only); omega⟩) hD hS hA (fun E ce q9 H locs h9 _ _ _ _ _ _ => nomatch h9) (fun r9 H locs h9 hP hD hS => ?_)
                      cases h9
                      refine lv_iload hx hb dL_arePats_190 (lv_at hl 4 rfl) ?_
                      refine lv_icmp_ne (tgt := 248) hx hb dL_arePats_192 (by decide) (fun q138 => ?_) (fun q138 => ?_)
                      · have hf := ie q138 hf
                        refine lv_iconst (v := 0) hx hb dL_arePats_248 (by decide) ?_
                        refine lv_istore (lv' := [(6, .int 0), (5, .int x7), (2, .int (x2 + r119)), (4, .int (x4 + r115)), (3, .int (x3 + 1)), (9, .int 0), (8, .int 1), (0, .ref (oa 0)), (1, .int x1), (7, .int x7)]) hx hb dL_arePats_249 hl (by decide) rfl (fun ls hl => ?_)
                        refine lv_iinc (v := (x7 + (-1))) (lv' := [(7, .int (x7 + (-1))), (6, .int 0), (5, .int x7), (2, .int (x2 + r119)), (4, .int (x4 + r115)), (3, .int (x3 + 1)), (9, .int 0), (8, .int 1), (0, .ref (oa 0)), (1, .int x1)]) hx hb dL_arePats_251 hl (k := 9) rfl rfl (by decide) rfl (fun ls hl => ?_)
                        refine lv_goto (tgt := 65) hx hb dL_arePats_254 (by decide) ?_
                        exact ih S135 u x1 (x2 + r119) (x3 + 1) (x4 + r115) x7 0 (x7 + (-1)) _ _ _ _ _ hf hu (by (try dsimp only); omega) (by (try dsimp only); omega) hP hD hS (lv_sub hl [8, 9, 3, 5, 4, 2, 1, 0] rfl)
                      · have hf := it q138 hf
                        refine lv_aload_n hx hb dL_arePats_195 rfl (lv_at hl 6 rfl) ?_
                        refine lv_iload hx hb dL_arePats_196 (lv_at hl 9 rfl) ?_
                        obtain ⟨r139, S140, e141, hf⟩ := bS_inv hf
                        refine jw_i (w1 := wX7 dA oa S140 (lT u)) (noRun (vx_runSX (As := [.ref (oa 0), .int x7]) (rest := []) ⟨hx, hb, hml, hown, hts⟩ (m_L_nextCool l hl0 dC dI dA gz oa H.size (lT u) S135 x7 r139 S140 e141) (vx_cwSW 2 hts (gi_t bg wd_1097 wd_1098 wd_0 wd_1099) rfl rfl rfl hd3_L_nextCool ⟨Nat.le_of_ble_eq_true rfl, Nat.le_of_ble_eq_true rfl⟩) ⟨pL_blind, pL_of hC (pP_preW hP hD hS hA hK hN hZ)⟩ rfl rfl hl.1 rfl (lv_room (Nat.le_of_ble_eq_true rfl)) dL_arePats_198 ⟨by (show _ ≤ 3944); (try dsimp only); omega, by (show _ ≤ 8896); (try dsimp only); omega⟩)) hD hS hA (fun H locs hP hD hS => ?_)
                        refine lv_iload hx hb dL_arePats_201 (lv_at hl 0 rfl) ?_
                        refine lv_icmp_ne (tgt := 248) hx hb dL_arePats_203 (by decide) (fun q143 => ?_) (fun q143 => ?_)
                        · have hf := ie q143 hf
                          refine lv_iconst (v := 0) hx hb dL_arePats_248 (by decide) ?_
                          refine lv_istore (lv' := [(6, .int 0), (5, .int x7), (2, .int (x2 + r119)), (4, .int (x4 + r115)), (3, .int (x3 + 1)), (9, .int 0), (8, .int 1), (0, .ref (oa 0)), (1, .int x1), (7, .int x7)]) hx hb dL_arePats_249 hl (by decide) rfl (fun ls hl => ?_)
                          refine lv_iinc (v := (x7 + (-1))) (lv' := [(7, .int (x7 + (-1))), (6, .int 0), (5, .int x7), (2, .int (x2 + r119)), (4, .int (x4 + r115)), (3, .int (x3 + 1)), (9, .int 0), (8, .int 1), (0, .ref (oa 0)), (1, .int x1)]) hx hb dL_arePats_251 hl (k := 9) rfl rfl (by decide) rfl (fun ls hl => ?_)
                          refine lv_goto (tgt := 65) hx hb dL_arePats_254 (by decide) ?_
                          exact ih S140 u x1 (x2 + r119) (x3 + 1) (x4 + r115) x7 0 (x7 + (-1)) _ _ _ _ _ hf hu (by (try dsimp only); omega) (by (try dsimp only); omega) hP hD hS (lv_sub hl [8, 9, 3, 5, 4, 2, 1, 0] rfl)
                        · have hf := it q143 hf
                          refine lv_aload_n hx hb dL_arePats_206 rfl (lv_at hl 6 rfl) ?_
                          refine lv_iload hx hb dL_arePats_207 (lv_at hl 9 rfl) ?_
                          obtain ⟨r144, S145, e146, hf⟩ := bT_inv hf
                          refine jx_i (w1 := wX7 dA oa S145 (lT u)) (vx_runV (As := [.int x7]) (rest := []) ⟨hx, hb, hml, hown, hts⟩ (mt_X7_firmness l hl0 dC dI dA gz oa H.size (lT u) S140 x7 (.inl r144) S145 e146) (cwV 1 hts (gi_v bg wd_1068 wd_1069 wd_1070 wd_1 wd_1071) rfl rfl rfl hd_X7_firmness ⟨Nat.le_of_ble_eq_true rfl, Nat.le_of_ble_eq_true rfl⟩) ⟨pP_blind, va_recv (ci := 11) (q0 := 0) hK hP rfl rfl, pP_preW hP hD hS hA hK hN hZ⟩ rfl rfl hl.1 rfl (lv_room (Nat.le_of_ble_eq_true rfl)) dL_arePats_209 ⟨by (show _ ≤ 3944); (try dsimp only); omega, by (show _ ≤ 8896); (try dsimp only); omega⟩) hD hS hA (fun E ce q9 H locs h9 _ _ _ _ _ _ => nomatch h9) (fun r9 H locs h9 hP hD hS => ?_)
                          cases h9
                          refine lv_bipush (v := 100) hx hb dL_arePats_212 (by decide) ?_
                          refine lv_bipush (v := 15) hx hb dL_arePats_214 (by decide) ?_
                          refine lv_aload_n hx hb dL_arePats_216 rfl (lv_at hl 6 rfl) ?_
                          refine lv_iload hx hb dL_arePats_217 (lv_at hl 9 rfl) ?_
                          obtain ⟨r148, S149, e150, hf⟩ := bT_inv hf
                          refine jx_i (w1 := wX7 dA oa S149 (lT u)) (vx_runV (As := [.int x7]) (rest := [.int 15, .int 100, .int r144]) ⟨hx, hb, hml, hown, hts⟩ (mt_X7_cracks l hl0 dC dI dA gz oa H.size (lT u) S145 x7 (.inl r148) S149 e150) (cwV 1 hts (gi_v bg wd_1064 wd_1065 wd_1066 wd_1 wd_1067) rfl rfl rfl hd_X7_cracks ⟨Nat.le_of_ble_eq_true rfl, Nat.le_of_ble_eq_true rfl⟩) ⟨pP_blind, va_recv (ci := 11) (q0 := 0) hK hP rfl rfl, pP_preW hP hD hS hA hK hN hZ⟩ rfl rfl hl.1 rfl (lv_room (Nat.le_of_ble_eq_true rfl)) dL_arePats_219 ⟨by (show _ ≤ 3944); (try dsimp only); omega, by (show _ ≤ 8896); (try dsimp only); omega⟩) hD hS hA (fun E ce q9 H locs h9 _ _ _ _ _ _ => nomatch h9) (fun r9 H locs h9 hP hD hS => ?_)
                          cases h9
                          refine lv_imul hx hb dL_arePats_222 ?_
                          refine lv_isub hx hb dL_arePats_223 ?_
                          refine lv_icmp_gt (tgt := 248) hx hb dL_arePats_224 (by decide) (fun q152 => ?_) (fun q152 => ?_)
                          · have hf := it q152 hf
                            refine lv_iconst (v := 0) hx hb dL_arePats_248 (by decide) ?_
                            refine lv_istore (lv' := [(6, .int 0), (5, .int x7), (2, .int (x2 + r119)), (4, .int (x4 + r115)), (3, .int (x3 + 1)), (9, .int 0), (8, .int 1), (0, .ref (oa 0)), (1, .int x1), (7, .int x7)]) hx hb dL_arePats_249 hl (by decide) rfl (fun ls hl => ?_)
                            refine lv_iinc (v := (x7 + (-1))) (lv' := [(7, .int (x7 + (-1))), (6, .int 0), (5, .int x7), (2, .int (x2 + r119)), (4, .int (x4 + r115)), (3, .int (x3 + 1)), (9, .int 0), (8, .int 1), (0, .ref (oa 0)), (1, .int x1)]) hx hb dL_arePats_251 hl (k := 9) rfl rfl (by decide) rfl (fun ls hl => ?_)
                            refine lv_goto (tgt := 65) hx hb dL_arePats_254 (by decide) ?_
                            exact ih S149 u x1 (x2 + r119) (x3 + 1) (x4 + r115) x7 0 (x7 + (-1)) _ _ _ _ _ hf hu (by (try dsimp only); omega) (by (try dsimp only); omega) hP hD hS (lv_sub hl [8, 9, 3, 5, 4, 2, 1, 0] rfl)
                          · have hf := ie q152 hf
                            refine lv_aload_n hx hb dL_arePats_227 rfl (lv_at hl 6 rfl) ?_
                            refine lv_iload hx hb dL_arePats_228 (lv_at hl 9 rfl) ?_
                            obtain ⟨r153, S154, e155, hf⟩ := bT_inv hf
                            refine jxE_i (ok := LNk) (wx := wX7 dA oa S154 (lT u)) (w1 := fun u9 : LU => wX7 dA oa S154 (lT u9)) (vx_runV (As := [.int x7]) (rest := []) ⟨hx, hb, hml, hown, hts⟩ (mt_X7_writePat l hl0 dC dI dA gz oa H.size u.1 u.2.1 u.2.2.1 u.2.2.2.1 u.2.2.2.2 hu.1 hu.2.1 hu.2.2 S149 x7 (.inl r153) S154 e155) (cwV 1 hts (gi_v bg wd_1124 wd_1125 wd_1126 wd_1 wd_1127) rfl rfl rfl hd_X7_writePat ⟨Nat.le_of_ble_eq_true rfl, Nat.le_of_ble_eq_true rfl⟩) ⟨pP_blind, va_recv (ci := 11) (q0 := 0) hK hP rfl rfl, pP_preW hP hD hS hA hK hN hZ⟩ rfl rfl hl.1 rfl (lv_room (Nat.le_of_ble_eq_true rfl)) dL_arePats_230 ⟨by (show _ ≤ 3944); (try dsimp only); omega, by (show _ ≤ 8896); (try dsimp only); omega⟩) hD hS hA (fun u156 H locs hu156 hP hD hS => ?_)
                            refine lv_iconst (v := 5) hx hb dL_arePats_233 (by decide) ?_
                            refine lv_aload_n hx hb dL_arePats_234 rfl (lv_at hl 6 rfl) ?_
                            refine lv_iload hx hb dL_arePats_235 (lv_at hl 9 rfl) ?_
                            obtain ⟨r157, S158, e159, hf⟩ := bT_inv hf
                            refine jx_i (w1 := wX7 dA oa S158 (lT u156)) (vx_runV (As := [.int x7]) (rest := [.int 5, .int r153]) ⟨hx, hb, hml, hown, hts⟩ (mt_X7_cracks l hl0 dC dI dA gz oa H.size (lT u156) S154 x7 (.inl r157) S158 e159) (cwV 1 hts (gi_v bg wd_1064 wd_1065 wd_1066 wd_1 wd_1067) rfl rfl rfl hd_X7_cracks ⟨Nat.le_of_ble_eq_true rfl, Nat.le_of_ble_eq_true rfl⟩) ⟨pP_blind, va_recv (ci := 11) (q0 := 0) hK hP rfl rfl, pP_preW hP hD hS hA hK hN hZ⟩ rfl rfl hl.1 rfl (lv_room (Nat.le_of_ble_eq_true rfl)) dL_arePats_237 ⟨by (show _ ≤ 3944); (try dsimp only); omega, by (show _ ≤ 8896); (try dsimp only); omega⟩) hD hS hA (fun E ce q9 H locs h9 _ _ _ _ _ _ => nomatch h9) (fun r9 H locs h9 hP hD hS => ?_)
                            cases h9
                            refine lv_iadd hx hb dL_arePats_240 ?_
                            refine lv_icmp_lt (tgt := 248) hx hb dL_arePats_241 (by decide) (fun q161 => ?_) (fun q161 => ?_)
                            · have hf := it q161 hf
                              refine lv_iconst (v := 0) hx hb dL_arePats_248 (by decide) ?_
                              refine lv_istore (lv' := [(6, .int 0), (5, .int x7), (2, .int (x2 + r119)), (4, .int (x4 + r115)), (3, .int (x3 + 1)), (9, .int 0), (8, .int 1), (0, .ref (oa 0)), (1, .int x1), (7, .int x7)]) hx hb dL_arePats_249 hl (by decide) rfl (fun ls hl => ?_)
                              refine lv_iinc (v := (x7 + (-1))) (lv' := [(7, .int (x7 + (-1))), (6, .int 0), (5, .int x7), (2, .int (x2 + r119)), (4, .int (x4 + r115)), (3, .int (x3 + 1)), (9, .int 0), (8, .int 1), (0, .ref (oa 0)), (1, .int x1)]) hx hb dL_arePats_251 hl (k := 9) rfl rfl (by decide) rfl (fun ls hl => ?_)
                              refine lv_goto (tgt := 65) hx hb dL_arePats_254 (by decide) ?_
                              exact ih S158 u156 x1 (x2 + r119) (x3 + 1) (x4 + r115) x7 0 (x7 + (-1)) _ _ _ _ _ hf hu156 (by (try dsimp only); omega) (by (try dsimp only); omega) hP hD hS (lv_sub hl [8, 9, 3, 5, 4, 2, 1, 0] rfl)
                            · have hf := ie q161 hf
                              refine lv_iconst (v := 1) hx hb dL_arePats_244 (by decide) ?_
                              refine lv_goto (tgt := 249) hx hb dL_arePats_245 (by decide) ?_
                              refine lv_istore (lv' := [(6, .int 1), (5, .int x7), (2, .int (x2 + r119)), (4, .int (x4 + r115)), (3, .int (x3 + 1)), (9, .int 0), (8, .int 1), (0, .ref (oa 0)), (1, .int x1), (7, .int x7)]) hx hb dL_arePats_249 hl (by decide) rfl (fun ls hl => ?_)
                              refine lv_iinc (v := (x7 + (-1))) (lv' := [(7, .int (x7 + (-1))), (6, .int 1), (5, .int x7), (2, .int (x2 + r119)), (4, .int (x4 + r115)), (3, .int (x3 + 1)), (9, .int 0), (8, .int 1), (0, .ref (oa 0)), (1, .int x1)]) hx hb dL_arePats_251 hl (k := 9) rfl rfl (by decide) rfl (fun ls hl => ?_)
                              refine lv_goto (tgt := 65) hx hb dL_arePats_254 (by decide) ?_
                              exact ih S158 u156 x1 (x2 + r119) (x3 + 1) (x4 + r115) x7 1 (x7 + (-1)) _ _ _ _ _ hf hu156 (by (try dsimp only); omega) (by (try dsimp only); omega) hP hD hS (lv_sub hl [8, 9, 3, 5, 4, 2, 1, 0] rfl)
  rw [f_L_arePats] at hf
  refine lv_aload_n hx hb dL_arePats_0 rfl (lv_at hl 0 rfl) ?_
  obtain ⟨r162, e164, hf⟩ := bd hf
  refine jw_i (w1 := wX7 dA oa S (lT u0)) (va_runV (As := []) (rest := []) ⟨hx, hb, hml, hown, hts⟩ (mt_X7_patCount l dC dI dA gz oa s.heap.size (lT u0) S  r162 e164) (cwV 0 hts (gi_v bg wd_1046 wd_1047 wd_1048 wd_1 wd_1049) rfl rfl rfl hd_X7_patCount ⟨Nat.le_of_ble_eq_true rfl, Nat.le_of_ble_eq_true rfl⟩) ⟨pP_blind, va_recv (ci := 11) (q0 := 0) hK hP rfl rfl, pP_preW hP hD hS hA hK hN hZ⟩ rfl rfl hl.1 rfl (lv_room (Nat.le_of_ble_eq_true rfl)) dL_arePats_1 ⟨Nat.le_of_ble_eq_true rfl, Nat.le_of_ble_eq_true rfl⟩) hD hS hA (fun H locs hP hD hS => ?_)
  refine lv_istore_n (lv' := [(1, .int r162), (0, .ref (oa 0))]) hx hb dL_arePats_4 rfl hl (by decide) rfl (fun ls hl => ?_)
  refine lv_aload_n hx hb dL_arePats_5 rfl (lv_at hl 1 rfl) ?_
  obtain ⟨r166, e168, hf⟩ := bd hf
  refine jw_i (w1 := wX7 dA oa S (lT u0)) (va_runV (As := []) (rest := []) ⟨hx, hb, hml, hown, hts⟩ (mt_X7_mass l dC dI dA gz oa H.size (lT u0) S  r166 e168) (cwV 0 hts (gi_v bg wd_974 wd_975 wd_976 wd_1 wd_977) rfl rfl rfl hd_X7_mass ⟨Nat.le_of_ble_eq_true rfl, Nat.le_of_ble_eq_true rfl⟩) ⟨pP_blind, va_recv (ci := 11) (q0 := 0) hK hP rfl rfl, pP_preW hP hD hS hA hK hN hZ⟩ rfl rfl hl.1 rfl (lv_room (Nat.le_of_ble_eq_true rfl)) dL_arePats_6 ⟨Nat.le_of_ble_eq_true rfl, Nat.le_of_ble_eq_true rfl⟩) hD hS hA (fun H locs hP hD hS => ?_)
  refine lv_aload_n hx hb dL_arePats_9 rfl (lv_at hl 1 rfl) ?_
  obtain ⟨r170, e172, hf⟩ := bd hf
  refine jw_i (w1 := wX7 dA oa S (lT u0)) (va_runV (As := []) (rest := [.int r166]) ⟨hx, hb, hml, hown, hts⟩ (mt_X7_gradedMass l dC dI dA gz oa H.size (lT u0) S  r170 e172) (cwV 0 hts (gi_v bg wd_1004 wd_1005 wd_1006 wd_1 wd_1007) rfl rfl rfl hd_X7_gradedMass ⟨Nat.le_of_ble_eq_true rfl, Nat.le_of_ble_eq_true rfl⟩) ⟨pP_blind, va_recv (ci := 11) (q0 := 0) hK hP rfl rfl, pP_preW hP hD hS hA hK hN hZ⟩ rfl rfl hl.1 rfl (lv_room (Nat.le_of_ble_eq_true rfl)) dL_arePats_10 ⟨Nat.le_of_ble_eq_true rfl, Nat.le_of_ble_eq_true rfl⟩) hD hS hA (fun H locs hP hD hS => ?_)
  refine lv_iadd hx hb dL_arePats_13 ?_
  refine lv_istore_n (lv' := [(2, .int (r166 + r170)), (1, .int r162), (0, .ref (oa 0))]) hx hb dL_arePats_14 rfl hl (by decide) rfl (fun ls hl => ?_)
  refine lv_iconst (v := 0) hx hb dL_arePats_15 (by decide) ?_
  refine lv_istore_n (lv' := [(3, .int 0), (2, .int (r166 + r170)), (1, .int r162), (0, .ref (oa 0))]) hx hb dL_arePats_16 rfl hl (by decide) rfl (fun ls hl => ?_)
  refine lv_iconst (v := 0) hx hb dL_arePats_17 (by decide) ?_
  refine lv_istore (lv' := [(4, .int 0), (3, .int 0), (2, .int (r166 + r170)), (1, .int r162), (0, .ref (oa 0))]) hx hb dL_arePats_18 hl (by decide) rfl (fun ls hl => ?_)
  refine lv_sipush (v := (-1000)) hx hb dL_arePats_20 (by decide) ?_
  refine lv_istore (lv' := [(5, .int (-1000)), (4, .int 0), (3, .int 0), (2, .int (r166 + r170)), (1, .int r162), (0, .ref (oa 0))]) hx hb dL_arePats_23 hl (by decide) rfl (fun ls hl => ?_)
  refine lv_iload_n hx hb dL_arePats_25 rfl (lv_at hl 4 rfl) ?_
  refine lv_bipush (v := 12) hx hb dL_arePats_26 (by decide) ?_
  refine lv_icmp_gt (tgt := 57) hx hb dL_arePats_28 (by decide) (fun q174 => ?_) (fun q174 => ?_)
  · have hf := it q174 hf
    refine lv_iconst (v := 0) hx hb dL_arePats_57 (by decide) ?_
    refine lv_istore (lv' := [(6, .int 0), (5, .int (-1000)), (4, .int 0), (3, .int 0), (2, .int (r166 + r170)), (1, .int r162), (0, .ref (oa 0))]) hx hb dL_arePats_58 hl (by decide) rfl (fun ls hl => ?_)
    refine lv_iload_n hx hb dL_arePats_60 rfl (lv_at hl 5 rfl) ?_
    refine lv_iconst (v := 1) hx hb dL_arePats_61 (by decide) ?_
    refine lv_isub hx hb dL_arePats_62 ?_
    refine lv_istore (lv' := [(7, .int (r162 - 1)), (6, .int 0), (5, .int (-1000)), (4, .int 0), (3, .int 0), (2, .int (r166 + r170)), (1, .int r162), (0, .ref (oa 0))]) hx hb dL_arePats_63 hl (by decide) rfl (fun ls hl => ?_)
    refine W.widen (k := 3) (n := 18) (Nat.le_of_ble_eq_true rfl) (Nat.le_of_ble_eq_true rfl) ?_
    exact cut65 13 S u0 r162 (r166 + r170) 0 0 (-1000) 0 (r162 - 1) 3 18 _ _ _ hf hu0 (Nat.le_of_ble_eq_true rfl) (Nat.le_of_ble_eq_true rfl) hP hD hS (lv_sub hl [7, 6, 5, 4, 3, 2, 1, 0] rfl)
  · have hf := ie q174 hf
    refine lv_aload_n hx hb dL_arePats_31 rfl (lv_at hl 5 rfl) ?_
    refine lv_iload_n hx hb dL_arePats_32 rfl (lv_at hl 4 rfl) ?_
    obtain ⟨r175, S176, e177, hf⟩ := bS_inv hf
    refine jw_i (w1 := wX7 dA oa S176 (lT u0)) (noRun (vx_runSX (As := [.ref (oa 0), .int r162]) (rest := []) ⟨hx, hb, hml, hown, hts⟩ (m_L_patByFirmness l hl0 dC dI dA gz oa H.size (lT u0) S r162 r175 S176 e177) (vx_cwSW 2 hts (gi_t bg wd_1076 wd_1077 wd_0 wd_1078) rfl rfl rfl hd3_L_patByFirmness ⟨Nat.le_of_ble_eq_true rfl, Nat.le_of_ble_eq_true rfl⟩) ⟨pL_blind, pL_of hC (pP_preW hP hD hS hA hK hN hZ)⟩ rfl rfl hl.1 rfl (lv_room (Nat.le_of_ble_eq_true rfl)) dL_arePats_33 ⟨Nat.le_of_ble_eq_true rfl, Nat.le_of_ble_eq_true rfl⟩)) hD hS hA (fun H locs hP hD hS => ?_)
    refine lv_sipush (v := (-1000)) hx hb dL_arePats_36 (by decide) ?_
    refine lv_icmp_ne (tgt := 57) hx hb dL_arePats_39 (by decide) (fun q179 => ?_) (fun q179 => ?_)
    · have hf := ie q179 hf
      refine lv_iconst (v := 0) hx hb dL_arePats_57 (by decide) ?_
      refine lv_istore (lv' := [(6, .int 0), (5, .int (-1000)), (4, .int 0), (3, .int 0), (2, .int (r166 + r170)), (1, .int r162), (0, .ref (oa 0))]) hx hb dL_arePats_58 hl (by decide) rfl (fun ls hl => ?_)
      refine lv_iload_n hx hb dL_arePats_60 rfl (lv_at hl 5 rfl) ?_
      refine lv_iconst (v := 1) hx hb dL_arePats_61 (by decide) ?_
      refine lv_isub hx hb dL_arePats_62 ?_
      refine lv_istore (lv' := [(7, .int (r162 - 1)), (6, .int 0), (5, .int (-1000)), (4, .int 0), (3, .int 0), (2, .int (r166 + r170)), (1, .int r162), (0, .ref (oa 0))]) hx hb dL_arePats_63 hl (by decide) rfl (fun ls hl => ?_)
      refine W.widen (k := 3) (n := 18) (Nat.le_of_ble_eq_true rfl) (Nat.le_of_ble_eq_true rfl) ?_
      exact cut65 13 S176 u0 r162 (r166 + r170) 0 0 (-1000) 0 (r162 - 1) 3 18 _ _ _ hf hu0 (Nat.le_of_ble_eq_true rfl) (Nat.le_of_ble_eq_true rfl) hP hD hS (lv_sub hl [7, 6, 5, 4, 3, 2, 1, 0] rfl)
    · have hf := it q179 hf
      refine lv_aload_n hx hb dL_arePats_42 rfl (lv_at hl 5 rfl) ?_
      refine lv_iload_n hx hb dL_arePats_43 rfl (lv_at hl 4 rfl) ?_
      obtain ⟨r180, S181, e182, hf⟩ := bS_inv hf
      refine jw_i (w1 := wX7 dA oa S181 (lT u0)) (noRun (vx_runSX (As := [.ref (oa 0), .int r162]) (rest := []) ⟨hx, hb, hml, hown, hts⟩ (m_L_nextCool l hl0 dC dI dA gz oa H.size (lT u0) S176 r162 r180 S181 e182) (vx_cwSW 2 hts (gi_t bg wd_1097 wd_1098 wd_0 wd_1099) rfl rfl rfl hd3_L_nextCool ⟨Nat.le_of_ble_eq_true rfl, Nat.le_of_ble_eq_true rfl⟩) ⟨pL_blind, pL_of hC (pP_preW hP hD hS hA hK hN hZ)⟩ rfl rfl hl.1 rfl (lv_room (Nat.le_of_ble_eq_true rfl)) dL_arePats_44 ⟨Nat.le_of_ble_eq_true rfl, Nat.le_of_ble_eq_true rfl⟩)) hD hS hA (fun H locs hP hD hS => ?_)
      refine lv_sipush (v := (-1000)) hx hb dL_arePats_47 (by decide) ?_
      refine lv_icmp_ne (tgt := 57) hx hb dL_arePats_50 (by decide) (fun q184 => ?_) (fun q184 => ?_)
      · have hf := ie q184 hf
        refine lv_iconst (v := 0) hx hb dL_arePats_57 (by decide) ?_
        refine lv_istore (lv' := [(6, .int 0), (5, .int (-1000)), (4, .int 0), (3, .int 0), (2, .int (r166 + r170)), (1, .int r162), (0, .ref (oa 0))]) hx hb dL_arePats_58 hl (by decide) rfl (fun ls hl => ?_)
        refine lv_iload_n hx hb dL_arePats_60 rfl (lv_at hl 5 rfl) ?_
        refine lv_iconst (v := 1) hx hb dL_arePats_61 (by decide) ?_
        refine lv_isub hx hb dL_arePats_62 ?_
        refine lv_istore (lv' := [(7, .int (r162 - 1)), (6, .int 0), (5, .int (-1000)), (4, .int 0), (3, .int 0), (2, .int (r166 + r170)), (1, .int r162), (0, .ref (oa 0))]) hx hb dL_arePats_63 hl (by decide) rfl (fun ls hl => ?_)
        exact cut65 13 S181 u0 r162 (r166 + r170) 0 0 (-1000) 0 (r162 - 1) 3 18 _ _ _ hf hu0 (Nat.le_of_ble_eq_true rfl) (Nat.le_of_ble_eq_true rfl) hP hD hS (lv_sub hl [7, 6, 5, 4, 3, 2, 1, 0] rfl)
      · have hf := it q184 hf
        refine lv_iconst (v := 1) hx hb dL_arePats_53 (by decide) ?_
        refine lv_goto (tgt := 58) hx hb dL_arePats_54 (by decide) ?_
        refine lv_istore (lv' := [(6, .int 1), (5, .int (-1000)), (4, .int 0), (3, .int 0), (2, .int (r166 + r170)), (1, .int r162), (0, .ref (oa 0))]) hx hb dL_arePats_58 hl (by decide) rfl (fun ls hl => ?_)
        refine lv_iload_n hx hb dL_arePats_60 rfl (lv_at hl 5 rfl) ?_
        refine lv_iconst (v := 1) hx hb dL_arePats_61 (by decide) ?_
        refine lv_isub hx hb dL_arePats_62 ?_
        refine lv_istore (lv' := [(7, .int (r162 - 1)), (6, .int 1), (5, .int (-1000)), (4, .int 0), (3, .int 0), (2, .int (r166 + r170)), (1, .int r162), (0, .ref (oa 0))]) hx hb dL_arePats_63 hl (by decide) rfl (fun ls hl => ?_)
        exact cut65 13 S181 u0 r162 (r166 + r170) 0 0 (-1000) 1 (r162 - 1) 3 18 _ _ _ hf hu0 (Nat.le_of_ble_eq_true rfl) (Nat.le_of_ble_eq_true rfl) hP hD hS (lv_sub hl [7, 6, 5, 4, 3, 2, 1, 0] rfl)
/-! L_isForetold -/
def f_L_isForetold_187 (p1 : Int32) (S : SX7) (x2 : Int64) (k0 : Int32) : Option (Int32 × SX7) :=
  (if k0 = 0 then some (0, S) else
  bS (f_L_undo S) fun r2 S3 =>
  (if r2 < 0 then some (0, S3) else
  bS (f_L_digest S3) fun r7 S8 =>
  (if (lg_cmp r7 x2) = 0 then some (1, S8) else
  some (0, S8))))
def f_L_isForetold_186 (p1 : Int32) (S : SX7) (x2 : Int64) : Option (Int32 × SX7) :=
  f_L_isForetold_187 p1 S x2 0
def f_L_isForetold_164 (p1 : Int32) (S : SX7) (x2 : Int64) (k0 : Int32) (k1 : Int32) (k2 : Int32) : Option (Int32 × SX7) :=
  (if k0 = (k1 + k2) then bS (f_L_isCycle S) fun r13 S14 =>
  (if r13 = 0 then f_L_isForetold_186 p1 S14 x2 else
  bS (f_L_arePats S14) fun r18 S19 =>
  (if r18 = 0 then f_L_isForetold_186 p1 S19 x2 else
  f_L_isForetold_187 p1 S19 x2 1)) else
  f_L_isForetold_186 p1 S x2)
def f_L_isForetold_163 (p1 : Int32) (S : SX7) (x2 : Int64) (k0 : Int32) (k1 : Int32) : Option (Int32 × SX7) :=
  f_L_isForetold_164 p1 S x2 k0 k1 0
def f_L_isForetold_87 (p1 : Int32) (S : SX7) (x2 : Int64) (x4 : Int32) (x5 : Int32) (x6 : Int32) (x7 : Int32) (k0 : Int32) : Option (Int32 × SX7) :=
  bS (f_L_run S p1) fun r23 S24 =>
  (if k0 = 0 then f_L_isForetold_186 p1 S24 x2 else
  (if r23 = (if p1 < x6 then p1 else x6) then (g_X7_temperature S24).bind fun r29 =>
  (if r29 = x4 then (g_X7_smoothness S24).bind fun r34 =>
  (if r34 = x5 then bS (g_X7_minutesLeft S24) fun r39 S40 =>
  (if r39 = (x6 - r23) then (g_X7_finishedCycles S40).bind fun r44 =>
  (if x6 ≤ 0 then f_L_isForetold_163 p1 S40 x2 r44 x7 else
  (if p1 < x6 then f_L_isForetold_163 p1 S40 x2 r44 x7 else
  f_L_isForetold_164 p1 S40 x2 r44 x7 1)) else
  f_L_isForetold_186 p1 S40 x2) else
  f_L_isForetold_186 p1 S24 x2) else
  f_L_isForetold_186 p1 S24 x2) else
  f_L_isForetold_186 p1 S24 x2))
def f_L_isForetold_86 (p1 : Int32) (S : SX7) (x2 : Int64) (x4 : Int32) (x5 : Int32) (x6 : Int32) (x7 : Int32) : Option (Int32 × SX7) :=
  f_L_isForetold_87 p1 S x2 x4 x5 x6 x7 0
def f_L_isForetold (S : SX7) (p1 : Int32) : Option (Int32 × SX7) :=
  bS (f_L_digest S) fun r50 S51 =>
  bT (g_X7_temperatureAfter S51 p1) fun r54 S55 =>
  bT (g_X7_smoothnessAfter S55 p1) fun r58 S59 =>
  bS (g_X7_minutesLeft S59) fun r62 S63 =>
  (g_X7_finishedCycles S63).bind fun r66 =>
  bS (g_X7_peakTemperature S63) fun r70 S71 =>
  bT (g_X7_temperatureAfter S71 0) fun r74 S75 =>
  (g_X7_temperature S75).bind fun r78 =>
  (if r74 = r78 then (g_X7_temperature S75).bind fun r83 =>
  (if r70 < r83 then f_L_isForetold_86 p1 S75 r50 r54 r58 r62 r66 else
  bT (g_X7_temperatureAfter S75 (if p1 < r62 then p1 else r62)) fun r88 S89 =>
  (if r70 < r88 then f_L_isForetold_86 p1 S89 r50 r54 r58 r62 r66 else
  bS (f_L_digest S89) fun r93 S94 =>
  (if (lg_cmp r93 r50) = 0 then f_L_isForetold_87 p1 S94 r50 r54 r58 r62 r66 1 else
  f_L_isForetold_86 p1 S94 r50 r54 r58 r62 r66))) else
  f_L_isForetold_86 p1 S75 r50 r54 r58 r62 r66)
set_option maxRecDepth 100000 in
set_option maxHeartbeats 8000000 in
theorem m_L_isForetold (l : Launch) (hl0 : l.stackTraces = false) (dC : Nat → ClassId) (dI : Nat → Nat → Nat) (dA gz : Nat → Nat) (oa : Nat → Nat) (sz : Nat) (u0 : LU) (hu0 : LNk u0) (S : SX7) (p1 : Int32) (rr : Int32) (uu : SX7) (hf : f_L_isForetold S p1 = some (rr, uu)) : Met l yL_isForetold ws_L_isForetold ({ frames := 54, cells := 4485, slots := 11006, locals := 2400 } : Room) (va_Pc [.ref (oa 0), .int p1] (pL (dC, dI) dA gz (wX7 dA oa S (lT u0)) sz)) (va_Qi (S := LU) (fun r' u => r' = rr ∧ LNk u) (fun u t => pQ (dC, dI) (va_A (wX7 dA oa S (lT u0)) sz) (wX7 dA oa uu (lT u)) t) (va_A (wX7 dA oa S (lT u0)) sz)) 4485 11006 (va_A (wX7 dA oa S (lT u0)) sz) := by
  refine Met.ofW (cc := cL_isForetold) (maxL := 11) (ret := (some .boolean)) (by decide) rfl ?_
  intro p e s m args below meth c s₁ B hml hv
  obtain ⟨rfl, ⟨hsz, hP, hK, hD0, hN, hZ⟩, hC⟩ := hv
  have hx := B.exec
  have hb := B.bytes
  have hr := B.returns
  have hts := atoms_spec (ws := ws_L_isForetold) B.pre
  have hown : s.vm.findClass RL = some m.cls := findClass_of_methodNamed B.named
  have hlocks := B.notSynchronized
  subst hsz
  have hD := hD0.self (sz := s.heap.size)
  generalize hAe : va_A (wX7 dA oa S (lT u0)) s.heap.size = A at hD hZ ⊢
  have hA : ∀ q : Nat, s.heap.size ≤ q → A q := fun q h => by rw [← hAe]; exact Or.inr h
  have hS : va_S A s.heap s.heap [] := va_S.rf
  have hl := lv_entry [.ref (oa 0), .int p1] (n := 11) (Nat.le_of_ble_eq_true rfl)
  rw [lg_entry_eq]
  generalize (lg_sl [.ref (oa 0), .int p1] ++ List.replicate (11 - (lg_sl [.ref (oa 0), .int p1]).length) Slot.unset).toArray = ls at hl ⊢
  have hl : lv_has ls 11 [(0, .ref (oa 0)), (1, .int p1)] := hl
  have cut187 : ∀ (S : SX7) (u : LU) (x2 : Int64) (k0 : Int32) (H : Heap) (locs : List Loc) (ls : Array Slot), f_L_isForetold_187 p1 S x2 k0 = some (rr, uu) → LNk u → va_P (dC, dI) vwCl (wX7 dA oa S (lT u)) H → va_D A (wX7 dA oa S (lT u)) → va_S A s.heap H locs → lv_has ls 11 [(0, .ref (oa 0)), (2, .long x2)] → W p l e (headSpec ws_L_isForetold ({ frames := 54, cells := 4485, slots := 11006, locals := 2400 } : Room)).room s m ([.ref (oa 0), .int p1] : List Value).toArray below meth c H locs (4407) (10538) (MQ below (va_Qi (S := LU) (fun r' u => r' = rr ∧ LNk u) (fun u t => pQ (dC, dI) A (wX7 dA oa uu (lT u)) t) A) ([.ref (oa 0), .int p1] : List Value).toArray s 4485 11006 A) (F0 m 187 ls [.int k0]) := by
    intro S u x2 k0 H locs ls hf hu hP hD hS hl
    rw [f_L_isForetold_187] at hf
    refine lv_istore (lv' := [(9, .int k0), (0, .ref (oa 0)), (2, .long x2)]) hx hb dL_isForetold_187 hl (by decide) rfl (fun ls hl => ?_)
    refine lv_iload hx hb dL_isForetold_189 (lv_at hl 0 rfl) ?_
    refine lv_if_eq (tgt := 214) hx hb dL_isForetold_191 (by decide) (fun q1 => ?_) (fun q1 => ?_)
    · have hf := it q1 hf
      refine lv_iconst (v := 0) hx hb dL_isForetold_214 (by decide) ?_
      obtain ⟨e8, e9⟩ := Prod.mk.inj (sm hf)
      refine W.widen (k := 4485) (n := 11006) (Nat.le_of_ble_eq_true rfl) (Nat.le_of_ble_eq_true rfl) ?_
      exact W.zret hx hb hr rfl (fun t ht hW => ⟨⟨_, u, rfl, ⟨e8, hu⟩, by rw [← e9, ht]; exact hP, by rw [← e9]; exact hD⟩, hS.F ht⟩) hS.2.2 dL_isForetold_215
    · have hf := ie q1 hf
      refine lv_aload_n hx hb dL_isForetold_194 rfl (lv_at hl 1 rfl) ?_
      obtain ⟨r2, S3, e4, hf⟩ := bS_inv hf
      refine jw_i (w1 := wX7 dA oa S3 (lT u)) (noRun (vx_runSX (As := [.ref (oa 0)]) (rest := []) ⟨hx, hb, hml, hown, hts⟩ (m_L_undo l hl0 dC dI dA gz oa H.size (lT u) S  r2 S3 e4) (vx_cwSW 1 hts (gi_t bg wd_831 wd_832 wd_0 wd_833) rfl rfl rfl hd3_L_undo ⟨Nat.le_of_ble_eq_true rfl, Nat.le_of_ble_eq_true rfl⟩) ⟨pL_blind, pL_of hC (pP_preW hP hD hS hA hK hN hZ)⟩ rfl rfl hl.1 rfl (lv_room (Nat.le_of_ble_eq_true rfl)) dL_isForetold_195 ⟨Nat.le_of_ble_eq_true rfl, Nat.le_of_ble_eq_true rfl⟩)) hD hS hA (fun H locs hP hD hS => ?_)
      refine lv_if_lt (tgt := 214) hx hb dL_isForetold_198 (by decide) (fun q6 => ?_) (fun q6 => ?_)
      · have hf := it q6 hf
        refine lv_iconst (v := 0) hx hb dL_isForetold_214 (by decide) ?_
        obtain ⟨e8, e9⟩ := Prod.mk.inj (sm hf)
        refine W.widen (k := 4485) (n := 11006) (Nat.le_of_ble_eq_true rfl) (Nat.le_of_ble_eq_true rfl) ?_
        exact W.zret hx hb hr rfl (fun t ht hW => ⟨⟨_, u, rfl, ⟨e8, hu⟩, by rw [← e9, ht]; exact hP, by rw [← e9]; exact hD⟩, hS.F ht⟩) hS.2.2 dL_isForetold_215
      · have hf := ie q6 hf
        refine lv_aload_n hx hb dL_isForetold_201 rfl (lv_at hl 1 rfl) ?_
        obtain ⟨r7, S8, e9, hf⟩ := bS_inv hf
        refine jE_l (ok := LNk) (w1 := fun u9 : LU => wX7 dA oa S8 (lT u9)) (va_runS (As := [.ref (oa 0)]) (rest := []) ⟨hx, hb, hml, hown, hts⟩ (m_L_digest l hl0 dC dI dA gz oa H.size u hu S3  r7 S8 e9) (cwS 1 hts (gi_s bg wd_965 wd_966 wd_0 wd_967) rfl rfl rfl hd_L_digest ⟨Nat.le_of_ble_eq_true rfl, Nat.le_of_ble_eq_true rfl⟩) ⟨pL_blind, pL_of hC (pP_preW hP hD hS hA hK hN hZ)⟩ rfl rfl hl.1 rfl (lv_room (Nat.le_of_ble_eq_true rfl)) dL_isForetold_202 ⟨Nat.le_of_ble_eq_true rfl, Nat.le_of_ble_eq_true rfl⟩) hD hS hA (fun u10 H locs hu10 hP hD hS => ?_)
        refine lv_lload_n hx hb dL_isForetold_205 rfl (lv_at hl 2 rfl) ?_
        refine W.lcmp hx hb dL_isForetold_206 ?_
        refine lv_if_ne (tgt := 214) hx hb dL_isForetold_207 (by decide) (fun q11 => ?_) (fun q11 => ?_)
        · have hf := ie q11 hf
          refine lv_iconst (v := 0) hx hb dL_isForetold_214 (by decide) ?_
          obtain ⟨e8, e9⟩ := Prod.mk.inj (sm hf)
          exact W.zret hx hb hr rfl (fun t ht hW => ⟨⟨_, u10, rfl, ⟨e8, hu10⟩, by rw [← e9, ht]; exact hP, by rw [← e9]; exact hD⟩, hS.F ht⟩) hS.2.2 dL_isForetold_215
        · have hf := it q11 hf
          refine lv_iconst (v := 1) hx hb dL_isForetold_210 (by decide) ?_
          refine lv_goto (tgt := 215) hx hb dL_isForetold_211 (by decide) ?_
          obtain ⟨e8, e9⟩ := Prod.mk.inj (sm hf)
          exact W.zret hx hb hr rfl (fun t ht hW => ⟨⟨_, u10, rfl, ⟨e8, hu10⟩, by rw [← e9, ht]; exact hP, by rw [← e9]; exact hD⟩, hS.F ht⟩) hS.2.2 dL_isForetold_215
  have cut186 : ∀ (S : SX7) (u : LU) (x2 : Int64) (H : Heap) (locs : List Loc) (ls : Array Slot), f_L_isForetold_186 p1 S x2 = some (rr, uu) → LNk u → va_P (dC, dI) vwCl (wX7 dA oa S (lT u)) H → va_D A (wX7 dA oa S (lT u)) → va_S A s.heap H locs → lv_has ls 11 [(0, .ref (oa 0)), (2, .long x2)] → W p l e (headSpec ws_L_isForetold ({ frames := 54, cells := 4485, slots := 11006, locals := 2400 } : Room)).room s m ([.ref (oa 0), .int p1] : List Value).toArray below meth c H locs (4407) (10538) (MQ below (va_Qi (S := LU) (fun r' u => r' = rr ∧ LNk u) (fun u t => pQ (dC, dI) A (wX7 dA oa uu (lT u)) t) A) ([.ref (oa 0), .int p1] : List Value).toArray s 4485 11006 A) (F0 m 186 ls []) := by
    intro S u x2 H locs ls hf hu hP hD hS hl
    rw [f_L_isForetold_186] at hf
    refine lv_iconst (v := 0) hx hb dL_isForetold_186 (by decide) ?_
    exact cut187 S u x2 0 _ _ _ hf hu hP hD hS (lv_sub hl [0, 1] rfl)
  have cut164 : ∀ (S : SX7) (u : LU) (x2 : Int64) (k0 : Int32) (k1 : Int32) (k2 : Int32) (H : Heap) (locs : List Loc) (ls : Array Slot), f_L_isForetold_164 p1 S x2 k0 k1 k2 = some (rr, uu) → LNk u → va_P (dC, dI) vwCl (wX7 dA oa S (lT u)) H → va_D A (wX7 dA oa S (lT u)) → va_S A s.heap H locs → lv_has ls 11 [(0, .ref (oa 0)), (2, .long x2)] → W p l e (headSpec ws_L_isForetold ({ frames := 54, cells := 4485, slots := 11006, locals := 2400 } : Room)).room s m ([.ref (oa 0), .int p1] : List Value).toArray below meth c H locs (159) (954) (MQ below (va_Qi (S := LU) (fun r' u => r' = rr ∧ LNk u) (fun u t => pQ (dC, dI) A (wX7 dA oa uu (lT u)) t) A) ([.ref (oa 0), .int p1] : List Value).toArray s 4485 11006 A) (F0 m 164 ls [.int k2, .int k1, .int k0]) := by
    intro S u x2 k0 k1 k2 H locs ls hf hu hP hD hS hl
    rw [f_L_isForetold_164] at hf
    refine lv_iadd hx hb dL_isForetold_164 ?_
    refine lv_icmp_ne (tgt := 186) hx hb dL_isForetold_165 (by decide) (fun q12 => ?_) (fun q12 => ?_)
    · have hf := ie q12 hf
      refine W.widen (k := 4407) (n := 10538) (Nat.le_of_ble_eq_true rfl) (Nat.le_of_ble_eq_true rfl) ?_
      exact cut186 S u x2 _ _ _ hf hu hP hD hS (lv_sub hl [0, 1] rfl)
    · have hf := it q12 hf
      refine lv_aload_n hx hb dL_isForetold_168 rfl (lv_at hl 0 rfl) ?_
      obtain ⟨r13, S14, e15, hf⟩ := bS_inv hf
      refine jE_i (ok := LNk) (w1 := fun u9 : LU => wX7 dA oa S14 (lT u9)) (va_runS (As := [.ref (oa 0)]) (rest := []) ⟨hx, hb, hml, hown, hts⟩ (m_L_isCycle l hl0 dC dI dA gz oa H.size u hu S  r13 S14 e15) (cwS 1 hts (gi_s bg wd_1416 wd_1417 wd_0 wd_1418) rfl rfl rfl hd_L_isCycle ⟨Nat.le_of_ble_eq_true rfl, Nat.le_of_ble_eq_true rfl⟩) ⟨pL_blind, pL_of hC (pP_preW hP hD hS hA hK hN hZ)⟩ rfl rfl hl.1 rfl (lv_room (Nat.le_of_ble_eq_true rfl)) dL_isForetold_169 ⟨Nat.le_of_ble_eq_true rfl, Nat.le_of_ble_eq_true rfl⟩) hD hS hA (fun u16 H locs hu16 hP hD hS => ?_)
      refine lv_if_eq (tgt := 186) hx hb dL_isForetold_172 (by decide) (fun q17 => ?_) (fun q17 => ?_)
      · have hf := it q17 hf
        refine W.widen (k := 4407) (n := 10538) (Nat.le_of_ble_eq_true rfl) (Nat.le_of_ble_eq_true rfl) ?_
        exact cut186 S14 u16 x2 _ _ _ hf hu16 hP hD hS (lv_sub hl [0, 1] rfl)
      · have hf := ie q17 hf
        refine lv_aload_n hx hb dL_isForetold_175 rfl (lv_at hl 0 rfl) ?_
        obtain ⟨r18, S19, e20, hf⟩ := bS_inv hf
        refine jE_i (ok := LNk) (w1 := fun u9 : LU => wX7 dA oa S19 (lT u9)) (va_runS (As := [.ref (oa 0)]) (rest := []) ⟨hx, hb, hml, hown, hts⟩ (m_L_arePats l hl0 dC dI dA gz oa H.size u16 hu16 S14  r18 S19 e20) (cwS 1 hts (gi_s bg wd_1073 wd_1074 wd_0 wd_1075) rfl rfl rfl hd_L_arePats ⟨Nat.le_of_ble_eq_true rfl, Nat.le_of_ble_eq_true rfl⟩) ⟨pL_blind, pL_of hC (pP_preW hP hD hS hA hK hN hZ)⟩ rfl rfl hl.1 rfl (lv_room (Nat.le_of_ble_eq_true rfl)) dL_isForetold_176 ⟨Nat.le_of_ble_eq_true rfl, Nat.le_of_ble_eq_true rfl⟩) hD hS hA (fun u21 H locs hu21 hP hD hS => ?_)
        refine lv_if_eq (tgt := 186) hx hb dL_isForetold_179 (by decide) (fun q22 => ?_) (fun q22 => ?_)
        · have hf := it q22 hf
          exact cut186 S19 u21 x2 _ _ _ hf hu21 hP hD hS (lv_sub hl [0, 1] rfl)
        · have hf := ie q22 hf
          refine lv_iconst (v := 1) hx hb dL_isForetold_182 (by decide) ?_
          refine lv_goto (tgt := 187) hx hb dL_isForetold_183 (by decide) ?_
          exact cut187 S19 u21 x2 1 _ _ _ hf hu21 hP hD hS (lv_sub hl [0, 1] rfl)
  have cut163 : ∀ (S : SX7) (u : LU) (x2 : Int64) (k0 : Int32) (k1 : Int32) (H : Heap) (locs : List Loc) (ls : Array Slot), f_L_isForetold_163 p1 S x2 k0 k1 = some (rr, uu) → LNk u → va_P (dC, dI) vwCl (wX7 dA oa S (lT u)) H → va_D A (wX7 dA oa S (lT u)) → va_S A s.heap H locs → lv_has ls 11 [(0, .ref (oa 0)), (2, .long x2)] → W p l e (headSpec ws_L_isForetold ({ frames := 54, cells := 4485, slots := 11006, locals := 2400 } : Room)).room s m ([.ref (oa 0), .int p1] : List Value).toArray below meth c H locs (159) (954) (MQ below (va_Qi (S := LU) (fun r' u => r' = rr ∧ LNk u) (fun u t => pQ (dC, dI) A (wX7 dA oa uu (lT u)) t) A) ([.ref (oa 0), .int p1] : List Value).toArray s 4485 11006 A) (F0 m 163 ls [.int k1, .int k0]) := by
    intro S u x2 k0 k1 H locs ls hf hu hP hD hS hl
    rw [f_L_isForetold_163] at hf
    refine lv_iconst (v := 0) hx hb dL_isForetold_163 (by decide) ?_
    exact cut164 S u x2 k0 k1 0 _ _ _ hf hu hP hD hS (lv_sub hl [0, 1] rfl)
  have cut87 : ∀ (S : SX7) (u : LU) (x2 : Int64) (x4 : Int32) (x5 : Int32) (x6 : Int32) (x7 : Int32) (k0 : Int32) (H : Heap) (locs : List Loc) (ls : Array Slot), f_L_isForetold_87 p1 S x2 x4 x5 x6 x7 k0 = some (rr, uu) → LNk u → va_P (dC, dI) vwCl (wX7 dA oa S (lT u)) H → va_D A (wX7 dA oa S (lT u)) → va_S A s.heap H locs → lv_has ls 11 [(0, .ref (oa 0)), (1, .int p1), (2, .long x2), (4, .int x4), (5, .int x5), (6, .int x6), (7, .int x7)] → W p l e (headSpec ws_L_isForetold ({ frames := 54, cells := 4485, slots := 11006, locals := 2400 } : Room)).room s m ([.ref (oa 0), .int p1] : List Value).toArray below meth c H locs (158) (948) (MQ below (va_Qi (S := LU) (fun r' u => r' = rr ∧ LNk u) (fun u t => pQ (dC, dI) A (wX7 dA oa uu (lT u)) t) A) ([.ref (oa 0), .int p1] : List Value).toArray s 4485 11006 A) (F0 m 87 ls [.int k0]) := by
    intro S u x2 x4 x5 x6 x7 k0 H locs ls hf hu hP hD hS hl
    rw [f_L_isForetold_87] at hf
    refine lv_istore (lv' := [(9, .int k0), (0, .ref (oa 0)), (1, .int p1), (2, .long x2), (4, .int x4), (5, .int x5), (6, .int x6), (7, .int x7)]) hx hb dL_isForetold_87 hl (by decide) rfl (fun ls hl => ?_)
    refine lv_aload_n hx hb dL_isForetold_89 rfl (lv_at hl 1 rfl) ?_
    refine lv_iload_n hx hb dL_isForetold_90 rfl (lv_at hl 2 rfl) ?_
    obtain ⟨r23, S24, e25, hf⟩ := bS_inv hf
    refine jw_i (w1 := wX7 dA oa S24 (lT u)) (noRun (vx_runSX (As := [.ref (oa 0), .int p1]) (rest := []) ⟨hx, hb, hml, hown, hts⟩ (m_L_run l hl0 dC dI dA gz oa H.size (lT u) S p1 r23 S24 e25) (vx_cwSW 2 hts (gi_t bg wd_536 wd_537 wd_0 wd_538) rfl rfl rfl hd3_L_run ⟨Nat.le_of_ble_eq_true rfl, Nat.le_of_ble_eq_true rfl⟩) ⟨pL_blind, pL_of hC (pP_preW hP hD hS hA hK hN hZ)⟩ rfl rfl hl.1 rfl (lv_room (Nat.le_of_ble_eq_true rfl)) dL_isForetold_91 ⟨Nat.le_of_ble_eq_true rfl, Nat.le_of_ble_eq_true rfl⟩)) hD hS hA (fun H locs hP hD hS => ?_)
    refine lv_istore (lv' := [(10, .int r23), (9, .int k0), (0, .ref (oa 0)), (1, .int p1), (2, .long x2), (4, .int x4), (5, .int x5), (6, .int x6), (7, .int x7)]) hx hb dL_isForetold_94 hl (by decide) rfl (fun ls hl => ?_)
    refine lv_iload hx hb dL_isForetold_96 (lv_at hl 1 rfl) ?_
    refine lv_if_eq (tgt := 186) hx hb dL_isForetold_98 (by decide) (fun q27 => ?_) (fun q27 => ?_)
    · have hf := it q27 hf
      refine W.widen (k := 4407) (n := 10538) (Nat.le_of_ble_eq_true rfl) (Nat.le_of_ble_eq_true rfl) ?_
      exact cut186 S24 u x2 _ _ _ hf hu hP hD hS (lv_sub hl [2, 4] rfl)
    · have hf := ie q27 hf
      refine lv_iload hx hb dL_isForetold_101 (lv_at hl 0 rfl) ?_
      refine lv_iload hx hb dL_isForetold_103 (lv_at hl 7 rfl) ?_
      refine lv_iload_n hx hb dL_isForetold_105 rfl (lv_at hl 3 rfl) ?_
      refine va_mmin hx hb (hml.trans hl.1.symm) hown (hts _ (bg _ wd_1452)) (hts _ (bg _ wd_483)) (hts _ (bg _ wd_21)) (hts _ (bg _ wd_484)) (Nat.le_of_ble_eq_true rfl) (Nat.le_of_ble_eq_true rfl) (Nat.le_of_ble_eq_true rfl) (Nat.le_of_ble_eq_true rfl) dL_isForetold_106 ?_
      refine lv_icmp_ne (tgt := 186) hx hb dL_isForetold_109 (by decide) (fun q28 => ?_) (fun q28 => ?_)
      · have hf := ie q28 hf
        refine W.widen (k := 4407) (n := 10538) (Nat.le_of_ble_eq_true rfl) (Nat.le_of_ble_eq_true rfl) ?_
        exact cut186 S24 u x2 _ _ _ hf hu hP hD hS (lv_sub hl [2, 4] rfl)
      · have hf := it q28 hf
        refine lv_aload_n hx hb dL_isForetold_112 rfl (lv_at hl 2 rfl) ?_
        obtain ⟨r29, e31, hf⟩ := bd hf
        refine jw_i (w1 := wX7 dA oa S24 (lT u)) (va_runV (As := []) (rest := []) ⟨hx, hb, hml, hown, hts⟩ (mt_X7_temperature l dC dI dA gz oa H.size (lT u) S24  r29 e31) (cwV 0 hts (gi_v bg wd_979 wd_980 wd_981 wd_1 wd_982) rfl rfl rfl hd_X7_temperature ⟨Nat.le_of_ble_eq_true rfl, Nat.le_of_ble_eq_true rfl⟩) ⟨pP_blind, va_recv (ci := 11) (q0 := 0) hK hP rfl rfl, pP_preW hP hD hS hA hK hN hZ⟩ rfl rfl hl.1 rfl (lv_room (Nat.le_of_ble_eq_true rfl)) dL_isForetold_113 ⟨Nat.le_of_ble_eq_true rfl, Nat.le_of_ble_eq_true rfl⟩) hD hS hA (fun H locs hP hD hS => ?_)
        refine lv_iload hx hb dL_isForetold_116 (lv_at hl 5 rfl) ?_
        refine lv_icmp_ne (tgt := 186) hx hb dL_isForetold_118 (by decide) (fun q33 => ?_) (fun q33 => ?_)
        · have hf := ie q33 hf
          refine W.widen (k := 4407) (n := 10538) (Nat.le_of_ble_eq_true rfl) (Nat.le_of_ble_eq_true rfl) ?_
          exact cut186 S24 u x2 _ _ _ hf hu hP hD hS (lv_sub hl [2, 4] rfl)
        · have hf := it q33 hf
          refine lv_aload_n hx hb dL_isForetold_121 rfl (lv_at hl 2 rfl) ?_
          obtain ⟨r34, e36, hf⟩ := bd hf
          refine jw_i (w1 := wX7 dA oa S24 (lT u)) (va_runV (As := []) (rest := []) ⟨hx, hb, hml, hown, hts⟩ (mt_X7_smoothness l dC dI dA gz oa H.size (lT u) S24  r34 e36) (cwV 0 hts (gi_v bg wd_984 wd_985 wd_986 wd_1 wd_987) rfl rfl rfl hd_X7_smoothness ⟨Nat.le_of_ble_eq_true rfl, Nat.le_of_ble_eq_true rfl⟩) ⟨pP_blind, va_recv (ci := 11) (q0 := 0) hK hP rfl rfl, pP_preW hP hD hS hA hK hN hZ⟩ rfl rfl hl.1 rfl (lv_room (Nat.le_of_ble_eq_true rfl)) dL_isForetold_122 ⟨Nat.le_of_ble_eq_true rfl, Nat.le_of_ble_eq_true rfl⟩) hD hS hA (fun H locs hP hD hS => ?_)
          refine lv_iload hx hb dL_isForetold_125 (lv_at hl 6 rfl) ?_
          refine lv_icmp_ne (tgt := 186) hx hb dL_isForetold_127 (by decide) (fun q38 => ?_) (fun q38 => ?_)
          · have hf := ie q38 hf
            refine W.widen (k := 4407) (n := 10538) (Nat.le_of_ble_eq_true rfl) (Nat.le_of_ble_eq_true rfl) ?_
            exact cut186 S24 u x2 _ _ _ hf hu hP hD hS (lv_sub hl [2, 4] rfl)
          · have hf := it q38 hf
            refine lv_aload_n hx hb dL_isForetold_130 rfl (lv_at hl 2 rfl) ?_
            obtain ⟨r39, S40, e41, hf⟩ := bS_inv hf
            refine jw_i (w1 := wX7 dA oa S40 (lT u)) (va_runV (As := []) (rest := []) ⟨hx, hb, hml, hown, hts⟩ (mt_X7_minutesLeft l dC dI dA gz oa H.size (lT u) S24  r39 S40 e41) (cwV 0 hts (gi_v bg wd_1027 wd_1028 wd_1029 wd_1 wd_1030) rfl rfl rfl hd_X7_minutesLeft ⟨Nat.le_of_ble_eq_true rfl, Nat.le_of_ble_eq_true rfl⟩) ⟨pP_blind, va_recv (ci := 11) (q0 := 0) hK hP rfl rfl, pP_preW hP hD hS hA hK hN hZ⟩ rfl rfl hl.1 rfl (lv_room (Nat.le_of_ble_eq_true rfl)) dL_isForetold_131 ⟨Nat.le_of_ble_eq_true rfl, Nat.le_of_ble_eq_true rfl⟩) hD hS hA (fun H locs hP hD hS => ?_)
            refine lv_iload hx hb dL_isForetold_134 (lv_at hl 7 rfl) ?_
            refine lv_iload hx hb dL_isForetold_136 (lv_at hl 0 rfl) ?_
            refine lv_isub hx hb dL_isForetold_138 ?_
            refine lv_icmp_ne (tgt := 186) hx hb dL_isForetold_139 (by decide) (fun q43 => ?_) (fun q43 => ?_)
            · have hf := ie q43 hf
              refine W.widen (k := 4407) (n := 10538) (Nat.le_of_ble_eq_true rfl) (Nat.le_of_ble_eq_true rfl) ?_
              exact cut186 S40 u x2 _ _ _ hf hu hP hD hS (lv_sub hl [2, 4] rfl)
            · have hf := it q43 hf
              refine lv_aload_n hx hb dL_isForetold_142 rfl (lv_at hl 2 rfl) ?_
              obtain ⟨r44, e46, hf⟩ := bd hf
              refine jw_i (w1 := wX7 dA oa S40 (lT u)) (va_runV (As := []) (rest := []) ⟨hx, hb, hml, hown, hts⟩ (mt_X7_finishedCycles l dC dI dA gz oa H.size (lT u) S40  r44 e46) (cwV 0 hts (gi_v bg wd_994 wd_995 wd_996 wd_1 wd_997) rfl rfl rfl hd_X7_finishedCycles ⟨Nat.le_of_ble_eq_true rfl, Nat.le_of_ble_eq_true rfl⟩) ⟨pP_blind, va_recv (ci := 11) (q0 := 0) hK hP rfl rfl, pP_preW hP hD hS hA hK hN hZ⟩ rfl rfl hl.1 rfl (lv_room (Nat.le_of_ble_eq_true rfl)) dL_isForetold_143 ⟨Nat.le_of_ble_eq_true rfl, Nat.le_of_ble_eq_true rfl⟩) hD hS hA (fun H locs hP hD hS => ?_)
              refine lv_iload hx hb dL_isForetold_146 (lv_at hl 8 rfl) ?_
              refine lv_iload hx hb dL_isForetold_148 (lv_at hl 7 rfl) ?_
              refine lv_if_le (tgt := 163) hx hb dL_isForetold_150 (by decide) (fun q48 => ?_) (fun q48 => ?_)
              · have hf := it q48 hf
                exact cut163 S40 u x2 r44 x7 _ _ _ hf hu hP hD hS (lv_sub hl [2, 4] rfl)
              · have hf := ie q48 hf
                refine lv_iload hx hb dL_isForetold_153 (lv_at hl 7 rfl) ?_
                refine lv_iload_n hx hb dL_isForetold_155 rfl (lv_at hl 3 rfl) ?_
                refine lv_icmp_gt (tgt := 163) hx hb dL_isForetold_156 (by decide) (fun q49 => ?_) (fun q49 => ?_)
                · have hf := it q49 hf
                  exact cut163 S40 u x2 r44 x7 _ _ _ hf hu hP hD hS (lv_sub hl [2, 4] rfl)
                · have hf := ie q49 hf
                  refine lv_iconst (v := 1) hx hb dL_isForetold_159 (by decide) ?_
                  refine lv_goto (tgt := 164) hx hb dL_isForetold_160 (by decide) ?_
                  exact cut164 S40 u x2 r44 x7 1 _ _ _ hf hu hP hD hS (lv_sub hl [2, 4] rfl)
  have cut86 : ∀ (S : SX7) (u : LU) (x2 : Int64) (x4 : Int32) (x5 : Int32) (x6 : Int32) (x7 : Int32) (H : Heap) (locs : List Loc) (ls : Array Slot), f_L_isForetold_86 p1 S x2 x4 x5 x6 x7 = some (rr, uu) → LNk u → va_P (dC, dI) vwCl (wX7 dA oa S (lT u)) H → va_D A (wX7 dA oa S (lT u)) → va_S A s.heap H locs → lv_has ls 11 [(0, .ref (oa 0)), (1, .int p1), (2, .long x2), (4, .int x4), (5, .int x5), (6, .int x6), (7, .int x7)] → W p l e (headSpec ws_L_isForetold ({ frames := 54, cells := 4485, slots := 11006, locals := 2400 } : Room)).room s m ([.ref (oa 0), .int p1] : List Value).toArray below meth c H locs (158) (948) (MQ below (va_Qi (S := LU) (fun r' u => r' = rr ∧ LNk u) (fun u t => pQ (dC, dI) A (wX7 dA oa uu (lT u)) t) A) ([.ref (oa 0), .int p1] : List Value).toArray s 4485 11006 A) (F0 m 86 ls []) := by
    intro S u x2 x4 x5 x6 x7 H locs ls hf hu hP hD hS hl
    rw [f_L_isForetold_86] at hf
    refine lv_iconst (v := 0) hx hb dL_isForetold_86 (by decide) ?_
    exact cut87 S u x2 x4 x5 x6 x7 0 _ _ _ hf hu hP hD hS (lv_sub hl [0, 1, 2, 3, 4, 5, 6] rfl)
  rw [f_L_isForetold] at hf
  refine lv_aload_n hx hb dL_isForetold_0 rfl (lv_at hl 0 rfl) ?_
  obtain ⟨r50, S51, e52, hf⟩ := bS_inv hf
  refine jE_l (ok := LNk) (w1 := fun u9 : LU => wX7 dA oa S51 (lT u9)) (va_runS (As := [.ref (oa 0)]) (rest := []) ⟨hx, hb, hml, hown, hts⟩ (m_L_digest l hl0 dC dI dA gz oa s.heap.size u0 hu0 S  r50 S51 e52) (cwS 1 hts (gi_s bg wd_965 wd_966 wd_0 wd_967) rfl rfl rfl hd_L_digest ⟨Nat.le_of_ble_eq_true rfl, Nat.le_of_ble_eq_true rfl⟩) ⟨pL_blind, pL_of hC (pP_preW hP hD hS hA hK hN hZ)⟩ rfl rfl hl.1 rfl (lv_room (Nat.le_of_ble_eq_true rfl)) dL_isForetold_1 ⟨Nat.le_of_ble_eq_true rfl, Nat.le_of_ble_eq_true rfl⟩) hD hS hA (fun u53 H locs hu53 hP hD hS => ?_)
  refine lv_lstore_n (lv' := [(2, .long r50), (0, .ref (oa 0)), (1, .int p1)]) hx hb dL_isForetold_4 rfl hl (by decide) rfl (fun ls hl => ?_)
  refine lv_aload_n hx hb dL_isForetold_5 rfl (lv_at hl 1 rfl) ?_
  refine lv_iload_n hx hb dL_isForetold_6 rfl (lv_at hl 2 rfl) ?_
  obtain ⟨r54, S55, e56, hf⟩ := bT_inv hf
  refine jx_i (w1 := wX7 dA oa S55 (lT u53)) (vx_runV (As := [.int p1]) (rest := []) ⟨hx, hb, hml, hown, hts⟩ (mt_X7_temperatureAfter l hl0 dC dI dA gz oa H.size (lT u53) S51 p1 (.inl r54) S55 e56) (cwV 1 hts (gi_v bg wd_1435 wd_1436 wd_1437 wd_1 wd_1438) rfl rfl rfl hd_X7_temperatureAfter ⟨Nat.le_of_ble_eq_true rfl, Nat.le_of_ble_eq_true rfl⟩) ⟨pP_blind, va_recv (ci := 11) (q0 := 0) hK hP rfl rfl, pP_preW hP hD hS hA hK hN hZ⟩ rfl rfl hl.1 rfl (lv_room (Nat.le_of_ble_eq_true rfl)) dL_isForetold_7 ⟨Nat.le_of_ble_eq_true rfl, Nat.le_of_ble_eq_true rfl⟩) hD hS hA (fun E ce q9 H locs h9 _ _ _ _ _ _ => nomatch h9) (fun r9 H locs h9 hP hD hS => ?_)
  cases h9
  refine lv_istore (lv' := [(4, .int r54), (2, .long r50), (0, .ref (oa 0)), (1, .int p1)]) hx hb dL_isForetold_10 hl (by decide) rfl (fun ls hl => ?_)
  refine lv_aload_n hx hb dL_isForetold_12 rfl (lv_at hl 2 rfl) ?_
  refine lv_iload_n hx hb dL_isForetold_13 rfl (lv_at hl 3 rfl) ?_
  obtain ⟨r58, S59, e60, hf⟩ := bT_inv hf
  refine jx_i (w1 := wX7 dA oa S59 (lT u53)) (vx_runV (As := [.int p1]) (rest := []) ⟨hx, hb, hml, hown, hts⟩ (mt_X7_smoothnessAfter l hl0 dC dI dA gz oa H.size (lT u53) S55 p1 (.inl r58) S59 e60) (cwV 1 hts (gi_v bg wd_1444 wd_1445 wd_1446 wd_1 wd_1447) rfl rfl rfl hd_X7_smoothnessAfter ⟨Nat.le_of_ble_eq_true rfl, Nat.le_of_ble_eq_true rfl⟩) ⟨pP_blind, va_recv (ci := 11) (q0 := 0) hK hP rfl rfl, pP_preW hP hD hS hA hK hN hZ⟩ rfl rfl hl.1 rfl (lv_room (Nat.le_of_ble_eq_true rfl)) dL_isForetold_14 ⟨Nat.le_of_ble_eq_true rfl, Nat.le_of_ble_eq_true rfl⟩) hD hS hA (fun E ce q9 H locs h9 _ _ _ _ _ _ => nomatch h9) (fun r9 H locs h9 hP hD hS => ?_)
  cases h9
  refine lv_istore (lv' := [(5, .int r58), (4, .int r54), (2, .long r50), (0, .ref (oa 0)), (1, .int p1)]) hx hb dL_isForetold_17 hl (by decide) rfl (fun ls hl => ?_)
  refine lv_aload_n hx hb dL_isForetold_19 rfl (lv_at hl 3 rfl) ?_
  obtain ⟨r62, S63, e64, hf⟩ := bS_inv hf
  refine jw_i (w1 := wX7 dA oa S63 (lT u53)) (va_runV (As := []) (rest := []) ⟨hx, hb, hml, hown, hts⟩ (mt_X7_minutesLeft l dC dI dA gz oa H.size (lT u53) S59  r62 S63 e64) (cwV 0 hts (gi_v bg wd_1027 wd_1028 wd_1029 wd_1 wd_1030) rfl rfl rfl hd_X7_minutesLeft ⟨Nat.le_of_ble_eq_true rfl, Nat.le_of_ble_eq_true rfl⟩) ⟨pP_blind, va_recv (ci := 11) (q0 := 0) hK hP rfl rfl, pP_preW hP hD hS hA hK hN hZ⟩ rfl rfl hl.1 rfl (lv_room (Nat.le_of_ble_eq_true rfl)) dL_isForetold_20 ⟨Nat.le_of_ble_eq_true rfl, Nat.le_of_ble_eq_true rfl⟩) hD hS hA (fun H locs hP hD hS => ?_)
  refine lv_istore (lv' := [(6, .int r62), (5, .int r58), (4, .int r54), (2, .long r50), (0, .ref (oa 0)), (1, .int p1)]) hx hb dL_isForetold_23 hl (by decide) rfl (fun ls hl => ?_)
  refine lv_aload_n hx hb dL_isForetold_25 rfl (lv_at hl 4 rfl) ?_
  obtain ⟨r66, e68, hf⟩ := bd hf
  refine jw_i (w1 := wX7 dA oa S63 (lT u53)) (va_runV (As := []) (rest := []) ⟨hx, hb, hml, hown, hts⟩ (mt_X7_finishedCycles l dC dI dA gz oa H.size (lT u53) S63  r66 e68) (cwV 0 hts (gi_v bg wd_994 wd_995 wd_996 wd_1 wd_997) rfl rfl rfl hd_X7_finishedCycles ⟨Nat.le_of_ble_eq_true rfl, Nat.le_of_ble_eq_true rfl⟩) ⟨pP_blind, va_recv (ci := 11) (q0 := 0) hK hP rfl rfl, pP_preW hP hD hS hA hK hN hZ⟩ rfl rfl hl.1 rfl (lv_room (Nat.le_of_ble_eq_true rfl)) dL_isForetold_26 ⟨Nat.le_of_ble_eq_true rfl, Nat.le_of_ble_eq_true rfl⟩) hD hS hA (fun H locs hP hD hS => ?_)
  refine lv_istore (lv' := [(7, .int r66), (6, .int r62), (5, .int r58), (4, .int r54), (2, .long r50), (0, .ref (oa 0)), (1, .int p1)]) hx hb dL_isForetold_29 hl (by decide) rfl (fun ls hl => ?_)
  refine lv_aload_n hx hb dL_isForetold_31 rfl (lv_at hl 5 rfl) ?_
  obtain ⟨r70, S71, e72, hf⟩ := bS_inv hf
  refine jw_i (w1 := wX7 dA oa S71 (lT u53)) (va_runV (As := []) (rest := []) ⟨hx, hb, hml, hown, hts⟩ (mt_X7_peakTemperature l dC dI dA gz oa H.size (lT u53) S63  r70 S71 e72) (cwV 0 hts (gi_v bg wd_1448 wd_1449 wd_1450 wd_1 wd_1451) rfl rfl rfl hd_X7_peakTemperature ⟨Nat.le_of_ble_eq_true rfl, Nat.le_of_ble_eq_true rfl⟩) ⟨pP_blind, va_recv (ci := 11) (q0 := 0) hK hP rfl rfl, pP_preW hP hD hS hA hK hN hZ⟩ rfl rfl hl.1 rfl (lv_room (Nat.le_of_ble_eq_true rfl)) dL_isForetold_32 ⟨Nat.le_of_ble_eq_true rfl, Nat.le_of_ble_eq_true rfl⟩) hD hS hA (fun H locs hP hD hS => ?_)
  refine lv_istore (lv' := [(8, .int r70), (7, .int r66), (6, .int r62), (5, .int r58), (4, .int r54), (2, .long r50), (0, .ref (oa 0)), (1, .int p1)]) hx hb dL_isForetold_35 hl (by decide) rfl (fun ls hl => ?_)
  refine lv_aload_n hx hb dL_isForetold_37 rfl (lv_at hl 6 rfl) ?_
  refine lv_iconst (v := 0) hx hb dL_isForetold_38 (by decide) ?_
  obtain ⟨r74, S75, e76, hf⟩ := bT_inv hf
  refine jx_i (w1 := wX7 dA oa S75 (lT u53)) (vx_runV (As := [.int 0]) (rest := []) ⟨hx, hb, hml, hown, hts⟩ (mt_X7_temperatureAfter l hl0 dC dI dA gz oa H.size (lT u53) S71 0 (.inl r74) S75 e76) (cwV 1 hts (gi_v bg wd_1435 wd_1436 wd_1437 wd_1 wd_1438) rfl rfl rfl hd_X7_temperatureAfter ⟨Nat.le_of_ble_eq_true rfl, Nat.le_of_ble_eq_true rfl⟩) ⟨pP_blind, va_recv (ci := 11) (q0 := 0) hK hP rfl rfl, pP_preW hP hD hS hA hK hN hZ⟩ rfl rfl hl.1 rfl (lv_room (Nat.le_of_ble_eq_true rfl)) dL_isForetold_39 ⟨Nat.le_of_ble_eq_true rfl, Nat.le_of_ble_eq_true rfl⟩) hD hS hA (fun E ce q9 H locs h9 _ _ _ _ _ _ => nomatch h9) (fun r9 H locs h9 hP hD hS => ?_)
  cases h9
  refine lv_aload_n hx hb dL_isForetold_42 rfl (lv_at hl 6 rfl) ?_
  obtain ⟨r78, e80, hf⟩ := bd hf
  refine jw_i (w1 := wX7 dA oa S75 (lT u53)) (va_runV (As := []) (rest := [.int r74]) ⟨hx, hb, hml, hown, hts⟩ (mt_X7_temperature l dC dI dA gz oa H.size (lT u53) S75  r78 e80) (cwV 0 hts (gi_v bg wd_979 wd_980 wd_981 wd_1 wd_982) rfl rfl rfl hd_X7_temperature ⟨Nat.le_of_ble_eq_true rfl, Nat.le_of_ble_eq_true rfl⟩) ⟨pP_blind, va_recv (ci := 11) (q0 := 0) hK hP rfl rfl, pP_preW hP hD hS hA hK hN hZ⟩ rfl rfl hl.1 rfl (lv_room (Nat.le_of_ble_eq_true rfl)) dL_isForetold_43 ⟨Nat.le_of_ble_eq_true rfl, Nat.le_of_ble_eq_true rfl⟩) hD hS hA (fun H locs hP hD hS => ?_)
  refine lv_icmp_ne (tgt := 86) hx hb dL_isForetold_46 (by decide) (fun q82 => ?_) (fun q82 => ?_)
  · have hf := ie q82 hf
    refine W.widen (k := 158) (n := 948) (Nat.le_of_ble_eq_true rfl) (Nat.le_of_ble_eq_true rfl) ?_
    exact cut86 S75 u53 r50 r54 r58 r62 r66 _ _ _ hf hu53 hP hD hS (lv_sub hl [6, 7, 5, 4, 3, 2, 1] rfl)
  · have hf := it q82 hf
    refine lv_iload hx hb dL_isForetold_49 (lv_at hl 0 rfl) ?_
    refine lv_aload_n hx hb dL_isForetold_51 rfl (lv_at hl 6 rfl) ?_
    obtain ⟨r83, e85, hf⟩ := bd hf
    refine jw_i (w1 := wX7 dA oa S75 (lT u53)) (va_runV (As := []) (rest := [.int r70]) ⟨hx, hb, hml, hown, hts⟩ (mt_X7_temperature l dC dI dA gz oa H.size (lT u53) S75  r83 e85) (cwV 0 hts (gi_v bg wd_979 wd_980 wd_981 wd_1 wd_982) rfl rfl rfl hd_X7_temperature ⟨Nat.le_of_ble_eq_true rfl, Nat.le_of_ble_eq_true rfl⟩) ⟨pP_blind, va_recv (ci := 11) (q0 := 0) hK hP rfl rfl, pP_preW hP hD hS hA hK hN hZ⟩ rfl rfl hl.1 rfl (lv_room (Nat.le_of_ble_eq_true rfl)) dL_isForetold_52 ⟨Nat.le_of_ble_eq_true rfl, Nat.le_of_ble_eq_true rfl⟩) hD hS hA (fun H locs hP hD hS => ?_)
    refine lv_icmp_lt (tgt := 86) hx hb dL_isForetold_55 (by decide) (fun q87 => ?_) (fun q87 => ?_)
    · have hf := it q87 hf
      refine W.widen (k := 158) (n := 948) (Nat.le_of_ble_eq_true rfl) (Nat.le_of_ble_eq_true rfl) ?_
      exact cut86 S75 u53 r50 r54 r58 r62 r66 _ _ _ hf hu53 hP hD hS (lv_sub hl [6, 7, 5, 4, 3, 2, 1] rfl)
    · have hf := ie q87 hf
      refine lv_iload hx hb dL_isForetold_58 (lv_at hl 0 rfl) ?_
      refine lv_aload_n hx hb dL_isForetold_60 rfl (lv_at hl 6 rfl) ?_
      refine lv_iload hx hb dL_isForetold_61 (lv_at hl 2 rfl) ?_
      refine lv_iload_n hx hb dL_isForetold_63 rfl (lv_at hl 7 rfl) ?_
      refine va_mmin hx hb (hml.trans hl.1.symm) hown (hts _ (bg _ wd_1452)) (hts _ (bg _ wd_483)) (hts _ (bg _ wd_21)) (hts _ (bg _ wd_484)) (Nat.le_of_ble_eq_true rfl) (Nat.le_of_ble_eq_true rfl) (Nat.le_of_ble_eq_true rfl) (Nat.le_of_ble_eq_true rfl) dL_isForetold_64 ?_
      obtain ⟨r88, S89, e90, hf⟩ := bT_inv hf
      refine jx_i (w1 := wX7 dA oa S89 (lT u53)) (vx_runV (As := [.int (if p1 < r62 then p1 else r62)]) (rest := [.int r70]) ⟨hx, hb, hml, hown, hts⟩ (mt_X7_temperatureAfter l hl0 dC dI dA gz oa H.size (lT u53) S75 (if p1 < r62 then p1 else r62) (.inl r88) S89 e90) (cwV 1 hts (gi_v bg wd_1435 wd_1436 wd_1437 wd_1 wd_1438) rfl rfl rfl hd_X7_temperatureAfter ⟨Nat.le_of_ble_eq_true rfl, Nat.le_of_ble_eq_true rfl⟩) ⟨pP_blind, va_recv (ci := 11) (q0 := 0) hK hP rfl rfl, pP_preW hP hD hS hA hK hN hZ⟩ rfl rfl hl.1 rfl (lv_room (Nat.le_of_ble_eq_true rfl)) dL_isForetold_67 ⟨Nat.le_of_ble_eq_true rfl, Nat.le_of_ble_eq_true rfl⟩) hD hS hA (fun E ce q9 H locs h9 _ _ _ _ _ _ => nomatch h9) (fun r9 H locs h9 hP hD hS => ?_)
      cases h9
      refine lv_icmp_lt (tgt := 86) hx hb dL_isForetold_70 (by decide) (fun q92 => ?_) (fun q92 => ?_)
      · have hf := it q92 hf
        refine W.widen (k := 158) (n := 948) (Nat.le_of_ble_eq_true rfl) (Nat.le_of_ble_eq_true rfl) ?_
        exact cut86 S89 u53 r50 r54 r58 r62 r66 _ _ _ hf hu53 hP hD hS (lv_sub hl [6, 7, 5, 4, 3, 2, 1] rfl)
      · have hf := ie q92 hf
        refine lv_aload_n hx hb dL_isForetold_73 rfl (lv_at hl 6 rfl) ?_
        obtain ⟨r93, S94, e95, hf⟩ := bS_inv hf
        refine jE_l (ok := LNk) (w1 := fun u9 : LU => wX7 dA oa S94 (lT u9)) (va_runS (As := [.ref (oa 0)]) (rest := []) ⟨hx, hb, hml, hown, hts⟩ (m_L_digest l hl0 dC dI dA gz oa H.size u53 hu53 S89  r93 S94 e95) (cwS 1 hts (gi_s bg wd_965 wd_966 wd_0 wd_967) rfl rfl rfl hd_L_digest ⟨Nat.le_of_ble_eq_true rfl, Nat.le_of_ble_eq_true rfl⟩) ⟨pL_blind, pL_of hC (pP_preW hP hD hS hA hK hN hZ)⟩ rfl rfl hl.1 rfl (lv_room (Nat.le_of_ble_eq_true rfl)) dL_isForetold_74 ⟨Nat.le_of_ble_eq_true rfl, Nat.le_of_ble_eq_true rfl⟩) hD hS hA (fun u96 H locs hu96 hP hD hS => ?_)
        refine lv_lload_n hx hb dL_isForetold_77 rfl (lv_at hl 5 rfl) ?_
        refine W.lcmp hx hb dL_isForetold_78 ?_
        refine lv_if_ne (tgt := 86) hx hb dL_isForetold_79 (by decide) (fun q97 => ?_) (fun q97 => ?_)
        · have hf := ie q97 hf
          exact cut86 S94 u96 r50 r54 r58 r62 r66 _ _ _ hf hu96 hP hD hS (lv_sub hl [6, 7, 5, 4, 3, 2, 1] rfl)
        · have hf := it q97 hf
          refine lv_iconst (v := 1) hx hb dL_isForetold_82 (by decide) ?_
          refine lv_goto (tgt := 87) hx hb dL_isForetold_83 (by decide) ?_
          exact cut87 S94 u96 r50 r54 r58 r62 r66 1 _ _ _ hf hu96 hP hD hS (lv_sub hl [6, 7, 5, 4, 3, 2, 1] rfl)
/-! L_isPressed -/
def f_L_isPressed_348 (p1 : Int32) (S : SX7) (x2 : Int64) (k0 : Int32) : Option (Int32 × SX7) :=
  (if k0 = 0 then some (0, S) else
  bS (f_L_undo S) fun r2 S3 =>
  (if r2 < 0 then some (0, S3) else
  bS (f_L_digest S3) fun r7 S8 =>
  (if (lg_cmp r7 x2) = 0 then some (1, S8) else
  some (0, S8))))
def f_L_isPressed_347 (p1 : Int32) (S : SX7) (x2 : Int64) : Option (Int32 × SX7) :=
  f_L_isPressed_348 p1 S x2 0
def f_L_isPressed_315 (p1 : Int32) (S : SX7) (x2 : Int64) (x8 : Int32) (x11 : Int32) (k0 : Int32) : Option (Int32 × SX7) :=
  (if x8 = 0 then f_L_isPressed_347 p1 S x2 else
  (if x11 = k0 then bS (f_L_arePats S) fun r14 S15 =>
  (if r14 = 0 then f_L_isPressed_347 p1 S15 x2 else
  bS (f_L_undo S15) fun r19 S20 =>
  (if r19 < 0 then f_L_isPressed_347 p1 S20 x2 else
  f_L_isPressed_348 p1 S20 x2 1)) else
  f_L_isPressed_347 p1 S x2))
def f_L_isPressed_381 (p1 : Int32) (S : SX7) (x2 : Int64) (k0 : Int32) : Option (Int32 × SX7) :=
  (if k0 = 0 then some (0, S) else
  bS (f_L_undo S) fun r25 S26 =>
  (if r25 < 0 then some (0, S26) else
  bS (f_L_digest S26) fun r30 S31 =>
  (if (lg_cmp r30 x2) = 0 then some (1, S31) else
  some (0, S31))))
def f_L_isPressed_380 (p1 : Int32) (S : SX7) (x2 : Int64) : Option (Int32 × SX7) :=
  f_L_isPressed_381 p1 S x2 0
def f_L_isPressed_240 (p1 : Int32) (S : SX7) (x2 : Int64) (x7 : Int32) (k0 : Int32) : Option (Int32 × SX7) :=
  bT (g_X7_firmness S x7) fun r35 S36 =>
  bS (f_L_gradePat S36 x7) fun r39 S40 =>
  (if r39 = (-100000000) then (if k0 = 0 then f_L_isPressed_380 p1 S40 x2 else
  bS (f_L_denial S40) fun r45 S46 =>
  (if r45 = 6 then bT (g_X7_isCool S46 x7) fun r50 S51 =>
  (if r50 = 0 then f_L_isPressed_381 p1 S51 x2 1 else
  f_L_isPressed_380 p1 S51 x2) else
  f_L_isPressed_380 p1 S46 x2)) else
  (if r35 < 80 then (if r35 < 60 then (if r35 < 40 then (if r35 < 20 then f_L_isPressed_315 p1 S40 x2 k0 r39 101 else
  f_L_isPressed_315 p1 S40 x2 k0 r39 100) else
  f_L_isPressed_315 p1 S40 x2 k0 r39 99) else
  f_L_isPressed_315 p1 S40 x2 k0 r39 98) else
  f_L_isPressed_315 p1 S40 x2 k0 r39 97))
def f_L_isPressed_239 (p1 : Int32) (S : SX7) (x2 : Int64) (x7 : Int32) : Option (Int32 × SX7) :=
  f_L_isPressed_240 p1 S x2 x7 0
def f_L_isPressed_166 (p1 : Int32) (S : SX7) (x2 : Int64) (x4 : Int32) (x5 : Int32) (x7 : Int32) (k0 : Int32) : Option (Int32 × SX7) :=
  (g_X7_temperature S).bind fun r59 =>
  if x4 = 0 then none else
  (if k0 = 0 then f_L_isPressed_239 p1 S x2 x7 else
  bS (f_L_crush S x7) fun r65 S66 =>
  (if r65 = x4 then (g_X7_temperature S66).bind fun r70 =>
  (if r70 = (((r59 * (x4 - p1)) + (20 * p1)) / x4) then (g_X7_patCount S66).bind fun r75 =>
  (if r75 = x5 then bS (f_L_arePats S66) fun r80 S81 =>
  (if r80 = 0 then f_L_isPressed_239 p1 S81 x2 x7 else
  bS (f_L_undo S81) fun r85 S86 =>
  (if r85 < 0 then f_L_isPressed_239 p1 S86 x2 x7 else
  f_L_isPressed_240 p1 S86 x2 x7 1)) else
  f_L_isPressed_239 p1 S66 x2 x7) else
  f_L_isPressed_239 p1 S66 x2 x7) else
  f_L_isPressed_239 p1 S66 x2 x7))
def f_L_isPressed_165 (p1 : Int32) (S : SX7) (x2 : Int64) (x4 : Int32) (x5 : Int32) (x7 : Int32) : Option (Int32 × SX7) :=
  f_L_isPressed_166 p1 S x2 x4 x5 x7 0
def f_L_isPressed_38 (p1 : Int32) (S : SX7) (x2 : Int64) (x4 : Int32) (x5 : Int32) (k0 : Int32) (k1 : Int32) : Option (Int32 × SX7) :=
  bS (f_L_press S p1) fun r90 S91 =>
  (if r90 = (-100000000) then (if x4 < p1 then bS (f_L_digest S91) fun r135 S136 =>
  (if (lg_cmp r135 x2) = 0 then some (1, S136) else
  some (0, S136)) else
  (if x5 = 12 then bS (f_L_digest S91) fun r141 S142 =>
  (if (lg_cmp r141 x2) = 0 then some (1, S142) else
  some (0, S142)) else
  some (0, S91))) else
  (if r90 = x5 then bT (g_X7_patMass S91 r90) fun r96 S97 =>
  (if r96 = p1 then (g_X7_mass S97).bind fun r101 =>
  (if r101 = (x4 - p1) then bT (g_X7_cracks S97 r90) fun r106 S107 =>
  (if r106 = (k0 + k1) then bT (g_X7_patTemperature S107 r90) fun r111 S112 =>
  (g_X7_temperature S112).bind fun r115 =>
  (if r111 = r115 then bT (g_X7_firmness S112 r90) fun r120 S121 =>
  (g_X7_smoothness S121).bind fun r124 =>
  (if r120 = (r124 - (15 * (k0 + k1))) then bS (f_L_arePats S121) fun r129 S130 =>
  (if r129 = 0 then f_L_isPressed_165 p1 S130 x2 x4 x5 r90 else
  f_L_isPressed_166 p1 S130 x2 x4 x5 r90 1) else
  f_L_isPressed_165 p1 S121 x2 x4 x5 r90) else
  f_L_isPressed_165 p1 S112 x2 x4 x5 r90) else
  f_L_isPressed_165 p1 S107 x2 x4 x5 r90) else
  f_L_isPressed_165 p1 S97 x2 x4 x5 r90) else
  f_L_isPressed_165 p1 S97 x2 x4 x5 r90) else
  f_L_isPressed_165 p1 S91 x2 x4 x5 r90))
def f_L_isPressed (S : SX7) (p1 : Int32) : Option (Int32 × SX7) :=
  bS (f_L_digest S) fun r146 S147 =>
  (g_X7_mass S147).bind fun r150 =>
  (g_X7_patCount S147).bind fun r154 =>
  (g_X7_stress S147).bind fun r158 =>
  (g_X7_temperature S147).bind fun r162 =>
  (if r162 ≤ 100 then f_L_isPressed_38 p1 S147 r146 r150 r154 (r158 / 10) 0 else
  f_L_isPressed_38 p1 S147 r146 r150 r154 (r158 / 10) 1)
set_option maxRecDepth 100000 in
set_option maxHeartbeats 8000000 in
theorem m_L_isPressed (l : Launch) (hl0 : l.stackTraces = false) (dC : Nat → ClassId) (dI : Nat → Nat → Nat) (dA gz : Nat → Nat) (oa : Nat → Nat) (sz : Nat) (u0 : LU) (hu0 : LNk u0) (S : SX7) (p1 : Int32) (rr : Int32) (uu : SX7) (hf : f_L_isPressed S p1 = some (rr, uu)) : Met l yL_isPressed ws_L_isPressed ({ frames := 54, cells := 12000, slots := 27696, locals := 2400 } : Room) (va_Pc [.ref (oa 0), .int p1] (pL (dC, dI) dA gz (wX7 dA oa S (lT u0)) sz)) (va_Qi (S := LU) (fun r' u => r' = rr ∧ LNk u) (fun u t => pQ (dC, dI) (va_A (wX7 dA oa S (lT u0)) sz) (wX7 dA oa uu (lT u)) t) (va_A (wX7 dA oa S (lT u0)) sz)) 12000 27696 (va_A (wX7 dA oa S (lT u0)) sz) := by
  refine Met.ofW (cc := cL_isPressed) (maxL := 13) (ret := (some .boolean)) (by decide) rfl ?_
  intro p e s m args below meth c s₁ B hml hv
  obtain ⟨rfl, ⟨hsz, hP, hK, hD0, hN, hZ⟩, hC⟩ := hv
  have hx := B.exec
  have hb := B.bytes
  have hr := B.returns
  have hts := atoms_spec (ws := ws_L_isPressed) B.pre
  have hown : s.vm.findClass RL = some m.cls := findClass_of_methodNamed B.named
  have hlocks := B.notSynchronized
  subst hsz
  have hD := hD0.self (sz := s.heap.size)
  generalize hAe : va_A (wX7 dA oa S (lT u0)) s.heap.size = A at hD hZ ⊢
  have hA : ∀ q : Nat, s.heap.size ≤ q → A q := fun q h => by rw [← hAe]; exact Or.inr h
  have hS : va_S A s.heap s.heap [] := va_S.rf
  have hl := lv_entry [.ref (oa 0), .int p1] (n := 13) (Nat.le_of_ble_eq_true rfl)
  rw [lg_entry_eq]
  generalize (lg_sl [.ref (oa 0), .int p1] ++ List.replicate (13 - (lg_sl [.ref (oa 0), .int p1]).length) Slot.unset).toArray = ls at hl ⊢
  have hl : lv_has ls 13 [(0, .ref (oa 0)), (1, .int p1)] := hl
  have cut348 : ∀ (S : SX7) (u : LU) (x2 : Int64) (k0 : Int32) (H : Heap) (locs : List Loc) (ls : Array Slot), f_L_isPressed_348 p1 S x2 k0 = some (rr, uu) → LNk u → va_P (dC, dI) vwCl (wX7 dA oa S (lT u)) H → va_D A (wX7 dA oa S (lT u)) → va_S A s.heap H locs → lv_has ls 13 [(0, .ref (oa 0)), (2, .long x2)] → W p l e (headSpec ws_L_isPressed ({ frames := 54, cells := 12000, slots := 27696, locals := 2400 } : Room)).room s m ([.ref (oa 0), .int p1] : List Value).toArray below meth c H locs (11922) (27228) (MQ below (va_Qi (S := LU) (fun r' u => r' = rr ∧ LNk u) (fun u t => pQ (dC, dI) A (wX7 dA oa uu (lT u)) t) A) ([.ref (oa 0), .int p1] : List Value).toArray s 12000 27696 A) (F0 m 348 ls [.int k0]) := by
    intro S u x2 k0 H locs ls hf hu hP hD hS hl
    rw [f_L_isPressed_348] at hf
    refine lv_istore (lv' := [(8, .int k0), (0, .ref (oa 0)), (2, .long x2)]) hx hb dL_isPressed_348 hl (by decide) rfl (fun ls hl => ?_)
    refine lv_goto (tgt := 383) hx hb dL_isPressed_350 (by decide) ?_
    refine lv_iload hx hb dL_isPressed_383 (lv_at hl 0 rfl) ?_
    refine lv_if_eq (tgt := 408) hx hb dL_isPressed_385 (by decide) (fun q1 => ?_) (fun q1 => ?_)
    · have hf := it q1 hf
      refine lv_iconst (v := 0) hx hb dL_isPressed_408 (by decide) ?_
      obtain ⟨e8, e9⟩ := Prod.mk.inj (sm hf)
      refine W.widen (k := 12000) (n := 27696) (Nat.le_of_ble_eq_true rfl) (Nat.le_of_ble_eq_true rfl) ?_
      exact W.zret hx hb hr rfl (fun t ht hW => ⟨⟨_, u, rfl, ⟨e8, hu⟩, by rw [← e9, ht]; exact hP, by rw [← e9]; exact hD⟩, hS.F ht⟩) hS.2.2 dL_isPressed_409
    · have hf := ie q1 hf
      refine lv_aload_n hx hb dL_isPressed_388 rfl (lv_at hl 1 rfl) ?_
      obtain ⟨r2, S3, e4, hf⟩ := bS_inv hf
      refine jw_i (w1 := wX7 dA oa S3 (lT u)) (noRun (vx_runSX (As := [.ref (oa 0)]) (rest := []) ⟨hx, hb, hml, hown, hts⟩ (m_L_undo l hl0 dC dI dA gz oa H.size (lT u) S  r2 S3 e4) (vx_cwSW 1 hts (gi_t bg wd_831 wd_832 wd_0 wd_833) rfl rfl rfl hd3_L_undo ⟨Nat.le_of_ble_eq_true rfl, Nat.le_of_ble_eq_true rfl⟩) ⟨pL_blind, pL_of hC (pP_preW hP hD hS hA hK hN hZ)⟩ rfl rfl hl.1 rfl (lv_room (Nat.le_of_ble_eq_true rfl)) dL_isPressed_389 ⟨Nat.le_of_ble_eq_true rfl, Nat.le_of_ble_eq_true rfl⟩)) hD hS hA (fun H locs hP hD hS => ?_)
      refine lv_if_lt (tgt := 408) hx hb dL_isPressed_392 (by decide) (fun q6 => ?_) (fun q6 => ?_)
      · have hf := it q6 hf
        refine lv_iconst (v := 0) hx hb dL_isPressed_408 (by decide) ?_
        obtain ⟨e8, e9⟩ := Prod.mk.inj (sm hf)
        refine W.widen (k := 12000) (n := 27696) (Nat.le_of_ble_eq_true rfl) (Nat.le_of_ble_eq_true rfl) ?_
        exact W.zret hx hb hr rfl (fun t ht hW => ⟨⟨_, u, rfl, ⟨e8, hu⟩, by rw [← e9, ht]; exact hP, by rw [← e9]; exact hD⟩, hS.F ht⟩) hS.2.2 dL_isPressed_409
      · have hf := ie q6 hf
        refine lv_aload_n hx hb dL_isPressed_395 rfl (lv_at hl 1 rfl) ?_
        obtain ⟨r7, S8, e9, hf⟩ := bS_inv hf
        refine jE_l (ok := LNk) (w1 := fun u9 : LU => wX7 dA oa S8 (lT u9)) (va_runS (As := [.ref (oa 0)]) (rest := []) ⟨hx, hb, hml, hown, hts⟩ (m_L_digest l hl0 dC dI dA gz oa H.size u hu S3  r7 S8 e9) (cwS 1 hts (gi_s bg wd_965 wd_966 wd_0 wd_967) rfl rfl rfl hd_L_digest ⟨Nat.le_of_ble_eq_true rfl, Nat.le_of_ble_eq_true rfl⟩) ⟨pL_blind, pL_of hC (pP_preW hP hD hS hA hK hN hZ)⟩ rfl rfl hl.1 rfl (lv_room (Nat.le_of_ble_eq_true rfl)) dL_isPressed_396 ⟨Nat.le_of_ble_eq_true rfl, Nat.le_of_ble_eq_true rfl⟩) hD hS hA (fun u10 H locs hu10 hP hD hS => ?_)
        refine lv_lload_n hx hb dL_isPressed_399 rfl (lv_at hl 2 rfl) ?_
        refine W.lcmp hx hb dL_isPressed_400 ?_
        refine lv_if_ne (tgt := 408) hx hb dL_isPressed_401 (by decide) (fun q11 => ?_) (fun q11 => ?_)
        · have hf := ie q11 hf
          refine lv_iconst (v := 0) hx hb dL_isPressed_408 (by decide) ?_
          obtain ⟨e8, e9⟩ := Prod.mk.inj (sm hf)
          exact W.zret hx hb hr rfl (fun t ht hW => ⟨⟨_, u10, rfl, ⟨e8, hu10⟩, by rw [← e9, ht]; exact hP, by rw [← e9]; exact hD⟩, hS.F ht⟩) hS.2.2 dL_isPressed_409
        · have hf := it q11 hf
          refine lv_iconst (v := 1) hx hb dL_isPressed_404 (by decide) ?_
          refine lv_goto (tgt := 409) hx hb dL_isPressed_405 (by decide) ?_
          obtain ⟨e8, e9⟩ := Prod.mk.inj (sm hf)
          exact W.zret hx hb hr rfl (fun t ht hW => ⟨⟨_, u10, rfl, ⟨e8, hu10⟩, by rw [← e9, ht]; exact hP, by rw [← e9]; exact hD⟩, hS.F ht⟩) hS.2.2 dL_isPressed_409
  have cut347 : ∀ (S : SX7) (u : LU) (x2 : Int64) (H : Heap) (locs : List Loc) (ls : Array Slot), f_L_isPressed_347 p1 S x2 = some (rr, uu) → LNk u → va_P (dC, dI) vwCl (wX7 dA oa S (lT u)) H → va_D A (wX7 dA oa S (lT u)) → va_S A s.heap H locs → lv_has ls 13 [(0, .ref (oa 0)), (2, .long x2)] → W p l e (headSpec ws_L_isPressed ({ frames := 54, cells := 12000, slots := 27696, locals := 2400 } : Room)).room s m ([.ref (oa 0), .int p1] : List Value).toArray below meth c H locs (11922) (27228) (MQ below (va_Qi (S := LU) (fun r' u => r' = rr ∧ LNk u) (fun u t => pQ (dC, dI) A (wX7 dA oa uu (lT u)) t) A) ([.ref (oa 0), .int p1] : List Value).toArray s 12000 27696 A) (F0 m 347 ls []) := by
    intro S u x2 H locs ls hf hu hP hD hS hl
    rw [f_L_isPressed_347] at hf
    refine lv_iconst (v := 0) hx hb dL_isPressed_347 (by decide) ?_
    exact cut348 S u x2 0 _ _ _ hf hu hP hD hS (lv_sub hl [0, 1] rfl)
  have cut315 : ∀ (S : SX7) (u : LU) (x2 : Int64) (x8 : Int32) (x11 : Int32) (k0 : Int32) (H : Heap) (locs : List Loc) (ls : Array Slot), f_L_isPressed_315 p1 S x2 x8 x11 k0 = some (rr, uu) → LNk u → va_P (dC, dI) vwCl (wX7 dA oa S (lT u)) H → va_D A (wX7 dA oa S (lT u)) → va_S A s.heap H locs → lv_has ls 13 [(0, .ref (oa 0)), (2, .long x2), (8, .int x8), (11, .int x11)] → W p l e (headSpec ws_L_isPressed ({ frames := 54, cells := 12000, slots := 27696, locals := 2400 } : Room)).room s m ([.ref (oa 0), .int p1] : List Value).toArray below meth c H locs (7977) (18326) (MQ below (va_Qi (S := LU) (fun r' u => r' = rr ∧ LNk u) (fun u t => pQ (dC, dI) A (wX7 dA oa uu (lT u)) t) A) ([.ref (oa 0), .int p1] : List Value).toArray s 12000 27696 A) (F0 m 315 ls [.int k0]) := by
    intro S u x2 x8 x11 k0 H locs ls hf hu hP hD hS hl
    rw [f_L_isPressed_315] at hf
    refine lv_istore (lv' := [(12, .int k0), (0, .ref (oa 0)), (2, .long x2), (8, .int x8), (11, .int x11)]) hx hb dL_isPressed_315 hl (by decide) rfl (fun ls hl => ?_)
    refine lv_iload hx hb dL_isPressed_317 (lv_at hl 3 rfl) ?_
    refine lv_if_eq (tgt := 347) hx hb dL_isPressed_319 (by decide) (fun q12 => ?_) (fun q12 => ?_)
    · have hf := it q12 hf
      refine W.widen (k := 11922) (n := 27228) (Nat.le_of_ble_eq_true rfl) (Nat.le_of_ble_eq_true rfl) ?_
      exact cut347 S u x2 _ _ _ hf hu hP hD hS (lv_sub hl [1, 2] rfl)
    · have hf := ie q12 hf
      refine lv_iload hx hb dL_isPressed_322 (lv_at hl 4 rfl) ?_
      refine lv_iload hx hb dL_isPressed_324 (lv_at hl 0 rfl) ?_
      refine lv_icmp_ne (tgt := 347) hx hb dL_isPressed_326 (by decide) (fun q13 => ?_) (fun q13 => ?_)
      · have hf := ie q13 hf
        refine W.widen (k := 11922) (n := 27228) (Nat.le_of_ble_eq_true rfl) (Nat.le_of_ble_eq_true rfl) ?_
        exact cut347 S u x2 _ _ _ hf hu hP hD hS (lv_sub hl [1, 2] rfl)
      · have hf := it q13 hf
        refine lv_aload_n hx hb dL_isPressed_329 rfl (lv_at hl 1 rfl) ?_
        obtain ⟨r14, S15, e16, hf⟩ := bS_inv hf
        refine jE_i (ok := LNk) (w1 := fun u9 : LU => wX7 dA oa S15 (lT u9)) (va_runS (As := [.ref (oa 0)]) (rest := []) ⟨hx, hb, hml, hown, hts⟩ (m_L_arePats l hl0 dC dI dA gz oa H.size u hu S  r14 S15 e16) (cwS 1 hts (gi_s bg wd_1073 wd_1074 wd_0 wd_1075) rfl rfl rfl hd_L_arePats ⟨Nat.le_of_ble_eq_true rfl, Nat.le_of_ble_eq_true rfl⟩) ⟨pL_blind, pL_of hC (pP_preW hP hD hS hA hK hN hZ)⟩ rfl rfl hl.1 rfl (lv_room (Nat.le_of_ble_eq_true rfl)) dL_isPressed_330 ⟨Nat.le_of_ble_eq_true rfl, Nat.le_of_ble_eq_true rfl⟩) hD hS hA (fun u17 H locs hu17 hP hD hS => ?_)
        refine lv_if_eq (tgt := 347) hx hb dL_isPressed_333 (by decide) (fun q18 => ?_) (fun q18 => ?_)
        · have hf := it q18 hf
          refine W.widen (k := 11922) (n := 27228) (Nat.le_of_ble_eq_true rfl) (Nat.le_of_ble_eq_true rfl) ?_
          exact cut347 S15 u17 x2 _ _ _ hf hu17 hP hD hS (lv_sub hl [1, 2] rfl)
        · have hf := ie q18 hf
          refine lv_aload_n hx hb dL_isPressed_336 rfl (lv_at hl 1 rfl) ?_
          obtain ⟨r19, S20, e21, hf⟩ := bS_inv hf
          refine jw_i (w1 := wX7 dA oa S20 (lT u17)) (noRun (vx_runSX (As := [.ref (oa 0)]) (rest := []) ⟨hx, hb, hml, hown, hts⟩ (m_L_undo l hl0 dC dI dA gz oa H.size (lT u17) S15  r19 S20 e21) (vx_cwSW 1 hts (gi_t bg wd_831 wd_832 wd_0 wd_833) rfl rfl rfl hd3_L_undo ⟨Nat.le_of_ble_eq_true rfl, Nat.le_of_ble_eq_true rfl⟩) ⟨pL_blind, pL_of hC (pP_preW hP hD hS hA hK hN hZ)⟩ rfl rfl hl.1 rfl (lv_room (Nat.le_of_ble_eq_true rfl)) dL_isPressed_337 ⟨Nat.le_of_ble_eq_true rfl, Nat.le_of_ble_eq_true rfl⟩)) hD hS hA (fun H locs hP hD hS => ?_)
          refine lv_if_lt (tgt := 347) hx hb dL_isPressed_340 (by decide) (fun q23 => ?_) (fun q23 => ?_)
          · have hf := it q23 hf
            exact cut347 S20 u17 x2 _ _ _ hf hu17 hP hD hS (lv_sub hl [1, 2] rfl)
          · have hf := ie q23 hf
            refine lv_iconst (v := 1) hx hb dL_isPressed_343 (by decide) ?_
            refine lv_goto (tgt := 348) hx hb dL_isPressed_344 (by decide) ?_
            exact cut348 S20 u17 x2 1 _ _ _ hf hu17 hP hD hS (lv_sub hl [1, 2] rfl)
  have cut381 : ∀ (S : SX7) (u : LU) (x2 : Int64) (k0 : Int32) (H : Heap) (locs : List Loc) (ls : Array Slot), f_L_isPressed_381 p1 S x2 k0 = some (rr, uu) → LNk u → va_P (dC, dI) vwCl (wX7 dA oa S (lT u)) H → va_D A (wX7 dA oa S (lT u)) → va_S A s.heap H locs → lv_has ls 13 [(0, .ref (oa 0)), (2, .long x2)] → W p l e (headSpec ws_L_isPressed ({ frames := 54, cells := 12000, slots := 27696, locals := 2400 } : Room)).room s m ([.ref (oa 0), .int p1] : List Value).toArray below meth c H locs (7979) (18338) (MQ below (va_Qi (S := LU) (fun r' u => r' = rr ∧ LNk u) (fun u t => pQ (dC, dI) A (wX7 dA oa uu (lT u)) t) A) ([.ref (oa 0), .int p1] : List Value).toArray s 12000 27696 A) (F0 m 381 ls [.int k0]) := by
    intro S u x2 k0 H locs ls hf hu hP hD hS hl
    rw [f_L_isPressed_381] at hf
    refine lv_istore (lv' := [(8, .int k0), (0, .ref (oa 0)), (2, .long x2)]) hx hb dL_isPressed_381 hl (by decide) rfl (fun ls hl => ?_)
    refine lv_iload hx hb dL_isPressed_383 (lv_at hl 0 rfl) ?_
    refine lv_if_eq (tgt := 408) hx hb dL_isPressed_385 (by decide) (fun q24 => ?_) (fun q24 => ?_)
    · have hf := it q24 hf
      refine lv_iconst (v := 0) hx hb dL_isPressed_408 (by decide) ?_
      obtain ⟨e8, e9⟩ := Prod.mk.inj (sm hf)
      refine W.widen (k := 12000) (n := 27696) (Nat.le_of_ble_eq_true rfl) (Nat.le_of_ble_eq_true rfl) ?_
      exact W.zret hx hb hr rfl (fun t ht hW => ⟨⟨_, u, rfl, ⟨e8, hu⟩, by rw [← e9, ht]; exact hP, by rw [← e9]; exact hD⟩, hS.F ht⟩) hS.2.2 dL_isPressed_409
    · have hf := ie q24 hf
      refine lv_aload_n hx hb dL_isPressed_388 rfl (lv_at hl 1 rfl) ?_
      obtain ⟨r25, S26, e27, hf⟩ := bS_inv hf
      refine jw_i (w1 := wX7 dA oa S26 (lT u)) (noRun (vx_runSX (As := [.ref (oa 0)]) (rest := []) ⟨hx, hb, hml, hown, hts⟩ (m_L_undo l hl0 dC dI dA gz oa H.size (lT u) S  r25 S26 e27) (vx_cwSW 1 hts (gi_t bg wd_831 wd_832 wd_0 wd_833) rfl rfl rfl hd3_L_undo ⟨Nat.le_of_ble_eq_true rfl, Nat.le_of_ble_eq_true rfl⟩) ⟨pL_blind, pL_of hC (pP_preW hP hD hS hA hK hN hZ)⟩ rfl rfl hl.1 rfl (lv_room (Nat.le_of_ble_eq_true rfl)) dL_isPressed_389 ⟨Nat.le_of_ble_eq_true rfl, Nat.le_of_ble_eq_true rfl⟩)) hD hS hA (fun H locs hP hD hS => ?_)
      refine lv_if_lt (tgt := 408) hx hb dL_isPressed_392 (by decide) (fun q29 => ?_) (fun q29 => ?_)
      · have hf := it q29 hf
        refine lv_iconst (v := 0) hx hb dL_isPressed_408 (by decide) ?_
        obtain ⟨e8, e9⟩ := Prod.mk.inj (sm hf)
        refine W.widen (k := 12000) (n := 27696) (Nat.le_of_ble_eq_true rfl) (Nat.le_of_ble_eq_true rfl) ?_
        exact W.zret hx hb hr rfl (fun t ht hW => ⟨⟨_, u, rfl, ⟨e8, hu⟩, by rw [← e9, ht]; exact hP, by rw [← e9]; exact hD⟩, hS.F ht⟩) hS.2.2 dL_isPressed_409
      · have hf := ie q29 hf
        refine lv_aload_n hx hb dL_isPressed_395 rfl (lv_at hl 1 rfl) ?_
        obtain ⟨r30, S31, e32, hf⟩ := bS_inv hf
        refine jE_l (ok := LNk) (w1 := fun u9 : LU => wX7 dA oa S31 (lT u9)) (va_runS (As := [.ref (oa 0)]) (rest := []) ⟨hx, hb, hml, hown, hts⟩ (m_L_digest l hl0 dC dI dA gz oa H.size u hu S26  r30 S31 e32) (cwS 1 hts (gi_s bg wd_965 wd_966 wd_0 wd_967) rfl rfl rfl hd_L_digest ⟨Nat.le_of_ble_eq_true rfl, Nat.le_of_ble_eq_true rfl⟩) ⟨pL_blind, pL_of hC (pP_preW hP hD hS hA hK hN hZ)⟩ rfl rfl hl.1 rfl (lv_room (Nat.le_of_ble_eq_true rfl)) dL_isPressed_396 ⟨Nat.le_of_ble_eq_true rfl, Nat.le_of_ble_eq_true rfl⟩) hD hS hA (fun u33 H locs hu33 hP hD hS => ?_)
        refine lv_lload_n hx hb dL_isPressed_399 rfl (lv_at hl 2 rfl) ?_
        refine W.lcmp hx hb dL_isPressed_400 ?_
        refine lv_if_ne (tgt := 408) hx hb dL_isPressed_401 (by decide) (fun q34 => ?_) (fun q34 => ?_)
        · have hf := ie q34 hf
          refine lv_iconst (v := 0) hx hb dL_isPressed_408 (by decide) ?_
          obtain ⟨e8, e9⟩ := Prod.mk.inj (sm hf)
          refine W.widen (k := 12000) (n := 27696) (Nat.le_of_ble_eq_true rfl) (Nat.le_of_ble_eq_true rfl) ?_
          exact W.zret hx hb hr rfl (fun t ht hW => ⟨⟨_, u33, rfl, ⟨e8, hu33⟩, by rw [← e9, ht]; exact hP, by rw [← e9]; exact hD⟩, hS.F ht⟩) hS.2.2 dL_isPressed_409
        · have hf := it q34 hf
          refine lv_iconst (v := 1) hx hb dL_isPressed_404 (by decide) ?_
          refine lv_goto (tgt := 409) hx hb dL_isPressed_405 (by decide) ?_
          obtain ⟨e8, e9⟩ := Prod.mk.inj (sm hf)
          refine W.widen (k := 12000) (n := 27696) (Nat.le_of_ble_eq_true rfl) (Nat.le_of_ble_eq_true rfl) ?_
          exact W.zret hx hb hr rfl (fun t ht hW => ⟨⟨_, u33, rfl, ⟨e8, hu33⟩, by rw [← e9, ht]; exact hP, by rw [← e9]; exact hD⟩, hS.F ht⟩) hS.2.2 dL_isPressed_409
  have cut380 : ∀ (S : SX7) (u : LU) (x2 : Int64) (H : Heap) (locs : List Loc) (ls : Array Slot), f_L_isPressed_380 p1 S x2 = some (rr, uu) → LNk u → va_P (dC, dI) vwCl (wX7 dA oa S (lT u)) H → va_D A (wX7 dA oa S (lT u)) → va_S A s.heap H locs → lv_has ls 13 [(0, .ref (oa 0)), (2, .long x2)] → W p l e (headSpec ws_L_isPressed ({ frames := 54, cells := 12000, slots := 27696, locals := 2400 } : Room)).room s m ([.ref (oa 0), .int p1] : List Value).toArray below meth c H locs (7979) (18338) (MQ below (va_Qi (S := LU) (fun r' u => r' = rr ∧ LNk u) (fun u t => pQ (dC, dI) A (wX7 dA oa uu (lT u)) t) A) ([.ref (oa 0), .int p1] : List Value).toArray s 12000 27696 A) (F0 m 380 ls []) := by
    intro S u x2 H locs ls hf hu hP hD hS hl
    rw [f_L_isPressed_380] at hf
    refine lv_iconst (v := 0) hx hb dL_isPressed_380 (by decide) ?_
    exact cut381 S u x2 0 _ _ _ hf hu hP hD hS (lv_sub hl [0, 1] rfl)
  have cut240 : ∀ (S : SX7) (u : LU) (x2 : Int64) (x7 : Int32) (k0 : Int32) (H : Heap) (locs : List Loc) (ls : Array Slot), f_L_isPressed_240 p1 S x2 x7 k0 = some (rr, uu) → LNk u → va_P (dC, dI) vwCl (wX7 dA oa S (lT u)) H → va_D A (wX7 dA oa S (lT u)) → va_S A s.heap H locs → lv_has ls 13 [(0, .ref (oa 0)), (2, .long x2), (7, .int x7)] → W p l e (headSpec ws_L_isPressed ({ frames := 54, cells := 12000, slots := 27696, locals := 2400 } : Room)).room s m ([.ref (oa 0), .int p1] : List Value).toArray below meth c H locs (7974) (18308) (MQ below (va_Qi (S := LU) (fun r' u => r' = rr ∧ LNk u) (fun u t => pQ (dC, dI) A (wX7 dA oa uu (lT u)) t) A) ([.ref (oa 0), .int p1] : List Value).toArray s 12000 27696 A) (F0 m 240 ls [.int k0]) := by
    intro S u x2 x7 k0 H locs ls hf hu hP hD hS hl
    rw [f_L_isPressed_240] at hf
    refine lv_istore (lv' := [(8, .int k0), (0, .ref (oa 0)), (2, .long x2), (7, .int x7)]) hx hb dL_isPressed_240 hl (by decide) rfl (fun ls hl => ?_)
    refine lv_aload_n hx hb dL_isPressed_242 rfl (lv_at hl 1 rfl) ?_
    refine lv_iload hx hb dL_isPressed_243 (lv_at hl 3 rfl) ?_
    obtain ⟨r35, S36, e37, hf⟩ := bT_inv hf
    refine jx_i (w1 := wX7 dA oa S36 (lT u)) (vx_runV (As := [.int x7]) (rest := []) ⟨hx, hb, hml, hown, hts⟩ (mt_X7_firmness l hl0 dC dI dA gz oa H.size (lT u) S x7 (.inl r35) S36 e37) (cwV 1 hts (gi_v bg wd_1068 wd_1069 wd_1070 wd_1 wd_1071) rfl rfl rfl hd_X7_firmness ⟨Nat.le_of_ble_eq_true rfl, Nat.le_of_ble_eq_true rfl⟩) ⟨pP_blind, va_recv (ci := 11) (q0 := 0) hK hP rfl rfl, pP_preW hP hD hS hA hK hN hZ⟩ rfl rfl hl.1 rfl (lv_room (Nat.le_of_ble_eq_true rfl)) dL_isPressed_245 ⟨Nat.le_of_ble_eq_true rfl, Nat.le_of_ble_eq_true rfl⟩) hD hS hA (fun E ce q9 H locs h9 _ _ _ _ _ _ => nomatch h9) (fun r9 H locs h9 hP hD hS => ?_)
    cases h9
    refine lv_istore (lv' := [(10, .int r35), (8, .int k0), (0, .ref (oa 0)), (2, .long x2), (7, .int x7)]) hx hb dL_isPressed_248 hl (by decide) rfl (fun ls hl => ?_)
    refine lv_aload_n hx hb dL_isPressed_250 rfl (lv_at hl 2 rfl) ?_
    refine lv_iload hx hb dL_isPressed_251 (lv_at hl 4 rfl) ?_
    obtain ⟨r39, S40, e41, hf⟩ := bS_inv hf
    refine jw_i (w1 := wX7 dA oa S40 (lT u)) (noRun (vx_runSX (As := [.ref (oa 0), .int x7]) (rest := []) ⟨hx, hb, hml, hown, hts⟩ (m_L_gradePat l hl0 dC dI dA gz oa H.size (lT u) S36 x7 r39 S40 e41) (vx_cwSW 2 hts (gi_t bg wd_945 wd_946 wd_0 wd_947) rfl rfl rfl hd3_L_gradePat ⟨Nat.le_of_ble_eq_true rfl, Nat.le_of_ble_eq_true rfl⟩) ⟨pL_blind, pL_of hC (pP_preW hP hD hS hA hK hN hZ)⟩ rfl rfl hl.1 rfl (lv_room (Nat.le_of_ble_eq_true rfl)) dL_isPressed_253 ⟨Nat.le_of_ble_eq_true rfl, Nat.le_of_ble_eq_true rfl⟩)) hD hS hA (fun H locs hP hD hS => ?_)
    refine lv_istore (lv' := [(11, .int r39), (10, .int r35), (8, .int k0), (0, .ref (oa 0)), (2, .long x2), (7, .int x7)]) hx hb dL_isPressed_256 hl (by decide) rfl (fun ls hl => ?_)
    refine lv_iload hx hb dL_isPressed_258 (lv_at hl 0 rfl) ?_
    refine lv_ldc hx hb (v := (-100000000)) hown (hts _ (bg _ wd_350)) dL_isPressed_260 ?_
    refine lv_icmp_eq (tgt := 353) hx hb dL_isPressed_262 (by decide) (fun q43 => ?_) (fun q43 => ?_)
    · have hf := it q43 hf
      refine lv_iload hx hb dL_isPressed_353 (lv_at hl 2 rfl) ?_
      refine lv_if_eq (tgt := 380) hx hb dL_isPressed_355 (by decide) (fun q44 => ?_) (fun q44 => ?_)
      · have hf := it q44 hf
        refine W.widen (k := 7979) (n := 18338) (Nat.le_of_ble_eq_true rfl) (Nat.le_of_ble_eq_true rfl) ?_
        exact cut380 S40 u x2 _ _ _ hf hu hP hD hS (lv_sub hl [3, 4] rfl)
      · have hf := ie q44 hf
        refine lv_aload_n hx hb dL_isPressed_358 rfl (lv_at hl 3 rfl) ?_
        obtain ⟨r45, S46, e47, hf⟩ := bS_inv hf
        refine jw_i (w1 := wX7 dA oa S46 (lT u)) (noRun (vx_runSX (As := [.ref (oa 0)]) (rest := []) ⟨hx, hb, hml, hown, hts⟩ (m_L_denial l hl0 dC dI dA gz oa H.size (lT u) S40  r45 S46 e47) (vx_cwSW 1 hts (gi_t bg wd_795 wd_796 wd_0 wd_797) rfl rfl rfl hd3_L_denial ⟨Nat.le_of_ble_eq_true rfl, Nat.le_of_ble_eq_true rfl⟩) ⟨pL_blind, pL_of hC (pP_preW hP hD hS hA hK hN hZ)⟩ rfl rfl hl.1 rfl (lv_room (Nat.le_of_ble_eq_true rfl)) dL_isPressed_359 ⟨Nat.le_of_ble_eq_true rfl, Nat.le_of_ble_eq_true rfl⟩)) hD hS hA (fun H locs hP hD hS => ?_)
        refine lv_bipush (v := 6) hx hb dL_isPressed_362 (by decide) ?_
        refine lv_icmp_ne (tgt := 380) hx hb dL_isPressed_364 (by decide) (fun q49 => ?_) (fun q49 => ?_)
        · have hf := ie q49 hf
          refine W.widen (k := 7979) (n := 18338) (Nat.le_of_ble_eq_true rfl) (Nat.le_of_ble_eq_true rfl) ?_
          exact cut380 S46 u x2 _ _ _ hf hu hP hD hS (lv_sub hl [3, 4] rfl)
        · have hf := it q49 hf
          refine lv_aload_n hx hb dL_isPressed_367 rfl (lv_at hl 3 rfl) ?_
          refine lv_iload hx hb dL_isPressed_368 (lv_at hl 5 rfl) ?_
          obtain ⟨r50, S51, e52, hf⟩ := bT_inv hf
          refine jx_i (w1 := wX7 dA oa S51 (lT u)) (vx_runV (As := [.int x7]) (rest := []) ⟨hx, hb, hml, hown, hts⟩ (mt_X7_isCool l hl0 dC dI dA gz oa H.size (lT u) S46 x7 (.inl r50) S51 e52) (cwV 1 hts (gi_v bg wd_1110 wd_1111 wd_1112 wd_1 wd_1113) rfl rfl rfl hd_X7_isCool ⟨Nat.le_of_ble_eq_true rfl, Nat.le_of_ble_eq_true rfl⟩) ⟨pP_blind, va_recv (ci := 11) (q0 := 0) hK hP rfl rfl, pP_preW hP hD hS hA hK hN hZ⟩ rfl rfl hl.1 rfl (lv_room (Nat.le_of_ble_eq_true rfl)) dL_isPressed_370 ⟨Nat.le_of_ble_eq_true rfl, Nat.le_of_ble_eq_true rfl⟩) hD hS hA (fun E ce q9 H locs h9 _ _ _ _ _ _ => nomatch h9) (fun r9 H locs h9 hP hD hS => ?_)
          cases h9
          refine lv_if_ne (tgt := 380) hx hb dL_isPressed_373 (by decide) (fun q54 => ?_) (fun q54 => ?_)
          · have hf := ie q54 hf
            exact cut380 S51 u x2 _ _ _ hf hu hP hD hS (lv_sub hl [3, 4] rfl)
          · have hf := it q54 hf
            refine lv_iconst (v := 1) hx hb dL_isPressed_376 (by decide) ?_
            refine lv_goto (tgt := 381) hx hb dL_isPressed_377 (by decide) ?_
            exact cut381 S51 u x2 1 _ _ _ hf hu hP hD hS (lv_sub hl [3, 4] rfl)
    · have hf := ie q43 hf
      refine lv_iload hx hb dL_isPressed_265 (lv_at hl 1 rfl) ?_
      refine lv_bipush (v := 80) hx hb dL_isPressed_267 (by decide) ?_
      refine lv_icmp_lt (tgt := 277) hx hb dL_isPressed_269 (by decide) (fun q55 => ?_) (fun q55 => ?_)
      · have hf := it q55 hf
        refine lv_iload hx hb dL_isPressed_277 (lv_at hl 1 rfl) ?_
        refine lv_bipush (v := 60) hx hb dL_isPressed_279 (by decide) ?_
        refine lv_icmp_lt (tgt := 289) hx hb dL_isPressed_281 (by decide) (fun q56 => ?_) (fun q56 => ?_)
        · have hf := it q56 hf
          refine lv_iload hx hb dL_isPressed_289 (lv_at hl 1 rfl) ?_
          refine lv_bipush (v := 40) hx hb dL_isPressed_291 (by decide) ?_
          refine lv_icmp_lt (tgt := 301) hx hb dL_isPressed_293 (by decide) (fun q57 => ?_) (fun q57 => ?_)
          · have hf := it q57 hf
            refine lv_iload hx hb dL_isPressed_301 (lv_at hl 1 rfl) ?_
            refine lv_bipush (v := 20) hx hb dL_isPressed_303 (by decide) ?_
            refine lv_icmp_lt (tgt := 313) hx hb dL_isPressed_305 (by decide) (fun q58 => ?_) (fun q58 => ?_)
            · have hf := it q58 hf
              refine lv_bipush (v := 101) hx hb dL_isPressed_313 (by decide) ?_
              exact cut315 S40 u x2 k0 r39 101 _ _ _ hf hu hP hD hS (lv_sub hl [3, 4, 2, 0] rfl)
            · have hf := ie q58 hf
              refine lv_bipush (v := 100) hx hb dL_isPressed_308 (by decide) ?_
              refine lv_goto (tgt := 315) hx hb dL_isPressed_310 (by decide) ?_
              exact cut315 S40 u x2 k0 r39 100 _ _ _ hf hu hP hD hS (lv_sub hl [3, 4, 2, 0] rfl)
          · have hf := ie q57 hf
            refine lv_bipush (v := 99) hx hb dL_isPressed_296 (by decide) ?_
            refine lv_goto (tgt := 315) hx hb dL_isPressed_298 (by decide) ?_
            exact cut315 S40 u x2 k0 r39 99 _ _ _ hf hu hP hD hS (lv_sub hl [3, 4, 2, 0] rfl)
        · have hf := ie q56 hf
          refine lv_bipush (v := 98) hx hb dL_isPressed_284 (by decide) ?_
          refine lv_goto (tgt := 315) hx hb dL_isPressed_286 (by decide) ?_
          exact cut315 S40 u x2 k0 r39 98 _ _ _ hf hu hP hD hS (lv_sub hl [3, 4, 2, 0] rfl)
      · have hf := ie q55 hf
        refine lv_bipush (v := 97) hx hb dL_isPressed_272 (by decide) ?_
        refine lv_goto (tgt := 315) hx hb dL_isPressed_274 (by decide) ?_
        exact cut315 S40 u x2 k0 r39 97 _ _ _ hf hu hP hD hS (lv_sub hl [3, 4, 2, 0] rfl)
  have cut239 : ∀ (S : SX7) (u : LU) (x2 : Int64) (x7 : Int32) (H : Heap) (locs : List Loc) (ls : Array Slot), f_L_isPressed_239 p1 S x2 x7 = some (rr, uu) → LNk u → va_P (dC, dI) vwCl (wX7 dA oa S (lT u)) H → va_D A (wX7 dA oa S (lT u)) → va_S A s.heap H locs → lv_has ls 13 [(0, .ref (oa 0)), (2, .long x2), (7, .int x7)] → W p l e (headSpec ws_L_isPressed ({ frames := 54, cells := 12000, slots := 27696, locals := 2400 } : Room)).room s m ([.ref (oa 0), .int p1] : List Value).toArray below meth c H locs (7974) (18308) (MQ below (va_Qi (S := LU) (fun r' u => r' = rr ∧ LNk u) (fun u t => pQ (dC, dI) A (wX7 dA oa uu (lT u)) t) A) ([.ref (oa 0), .int p1] : List Value).toArray s 12000 27696 A) (F0 m 239 ls []) := by
    intro S u x2 x7 H locs ls hf hu hP hD hS hl
    rw [f_L_isPressed_239] at hf
    refine lv_iconst (v := 0) hx hb dL_isPressed_239 (by decide) ?_
    exact cut240 S u x2 x7 0 _ _ _ hf hu hP hD hS (lv_sub hl [0, 1, 2] rfl)
  have cut166 : ∀ (S : SX7) (u : LU) (x2 : Int64) (x4 : Int32) (x5 : Int32) (x7 : Int32) (k0 : Int32) (H : Heap) (locs : List Loc) (ls : Array Slot), f_L_isPressed_166 p1 S x2 x4 x5 x7 k0 = some (rr, uu) → LNk u → va_P (dC, dI) vwCl (wX7 dA oa S (lT u)) H → va_D A (wX7 dA oa S (lT u)) → va_S A s.heap H locs → lv_has ls 13 [(0, .ref (oa 0)), (1, .int p1), (2, .long x2), (4, .int x4), (5, .int x5), (7, .int x7)] → W p l e (headSpec ws_L_isPressed ({ frames := 54, cells := 12000, slots := 27696, locals := 2400 } : Room)).room s m ([.ref (oa 0), .int p1] : List Value).toArray below meth c H locs (4027) (9394) (MQ below (va_Qi (S := LU) (fun r' u => r' = rr ∧ LNk u) (fun u t => pQ (dC, dI) A (wX7 dA oa uu (lT u)) t) A) ([.ref (oa 0), .int p1] : List Value).toArray s 12000 27696 A) (F0 m 166 ls [.int k0]) := by
    intro S u x2 x4 x5 x7 k0 H locs ls hf hu hP hD hS hl
    rw [f_L_isPressed_166] at hf
    refine lv_istore (lv' := [(8, .int k0), (0, .ref (oa 0)), (1, .int p1), (2, .long x2), (4, .int x4), (5, .int x5), (7, .int x7)]) hx hb dL_isPressed_166 hl (by decide) rfl (fun ls hl => ?_)
    refine lv_aload_n hx hb dL_isPressed_168 rfl (lv_at hl 1 rfl) ?_
    obtain ⟨r59, e61, hf⟩ := bd hf
    refine jw_i (w1 := wX7 dA oa S (lT u)) (va_runV (As := []) (rest := []) ⟨hx, hb, hml, hown, hts⟩ (mt_X7_temperature l dC dI dA gz oa H.size (lT u) S  r59 e61) (cwV 0 hts (gi_v bg wd_979 wd_980 wd_981 wd_1 wd_982) rfl rfl rfl hd_X7_temperature ⟨Nat.le_of_ble_eq_true rfl, Nat.le_of_ble_eq_true rfl⟩) ⟨pP_blind, va_recv (ci := 11) (q0 := 0) hK hP rfl rfl, pP_preW hP hD hS hA hK hN hZ⟩ rfl rfl hl.1 rfl (lv_room (Nat.le_of_ble_eq_true rfl)) dL_isPressed_169 ⟨Nat.le_of_ble_eq_true rfl, Nat.le_of_ble_eq_true rfl⟩) hD hS hA (fun H locs hP hD hS => ?_)
    refine lv_iload hx hb dL_isPressed_172 (lv_at hl 4 rfl) ?_
    refine lv_iload_n hx hb dL_isPressed_174 rfl (lv_at hl 2 rfl) ?_
    refine lv_isub hx hb dL_isPressed_175 ?_
    refine lv_imul hx hb dL_isPressed_176 ?_
    refine lv_bipush (v := 20) hx hb dL_isPressed_177 (by decide) ?_
    refine lv_iload_n hx hb dL_isPressed_179 rfl (lv_at hl 2 rfl) ?_
    refine lv_imul hx hb dL_isPressed_180 ?_
    refine lv_iadd hx hb dL_isPressed_181 ?_
    refine lv_iload hx hb dL_isPressed_182 (lv_at hl 4 rfl) ?_
    obtain ⟨z63, hf⟩ := gd hf
    refine lv_idiv hx hb dL_isPressed_184 z63 ?_
    refine lv_istore (lv' := [(9, .int (((r59 * (x4 - p1)) + (20 * p1)) / x4)), (8, .int k0), (0, .ref (oa 0)), (1, .int p1), (2, .long x2), (4, .int x4), (5, .int x5), (7, .int x7)]) hx hb dL_isPressed_185 hl (by decide) rfl (fun ls hl => ?_)
    refine lv_iload hx hb dL_isPressed_187 (lv_at hl 1 rfl) ?_
    refine lv_if_eq (tgt := 239) hx hb dL_isPressed_189 (by decide) (fun q64 => ?_) (fun q64 => ?_)
    · have hf := it q64 hf
      refine W.widen (k := 7974) (n := 18308) (Nat.le_of_ble_eq_true rfl) (Nat.le_of_ble_eq_true rfl) ?_
      exact cut239 S u x2 x7 _ _ _ hf hu hP hD hS (lv_sub hl [2, 4, 7] rfl)
    · have hf := ie q64 hf
      refine lv_aload_n hx hb dL_isPressed_192 rfl (lv_at hl 2 rfl) ?_
      refine lv_iload hx hb dL_isPressed_193 (lv_at hl 7 rfl) ?_
      obtain ⟨r65, S66, e67, hf⟩ := bS_inv hf
      refine jw_i (w1 := wX7 dA oa S66 (lT u)) (noRun (vx_runSX (As := [.ref (oa 0), .int x7]) (rest := []) ⟨hx, hb, hml, hown, hts⟩ (m_L_crush l hl0 dC dI dA gz oa H.size (lT u) S x7 r65 S66 e67) (vx_cwSW 2 hts (gi_t bg wd_956 wd_957 wd_0 wd_958) rfl rfl rfl hd3_L_crush ⟨Nat.le_of_ble_eq_true rfl, Nat.le_of_ble_eq_true rfl⟩) ⟨pL_blind, pL_of hC (pP_preW hP hD hS hA hK hN hZ)⟩ rfl rfl hl.1 rfl (lv_room (Nat.le_of_ble_eq_true rfl)) dL_isPressed_195 ⟨Nat.le_of_ble_eq_true rfl, Nat.le_of_ble_eq_true rfl⟩)) hD hS hA (fun H locs hP hD hS => ?_)
      refine lv_iload hx hb dL_isPressed_198 (lv_at hl 5 rfl) ?_
      refine lv_icmp_ne (tgt := 239) hx hb dL_isPressed_200 (by decide) (fun q69 => ?_) (fun q69 => ?_)
      · have hf := ie q69 hf
        refine W.widen (k := 7974) (n := 18308) (Nat.le_of_ble_eq_true rfl) (Nat.le_of_ble_eq_true rfl) ?_
        exact cut239 S66 u x2 x7 _ _ _ hf hu hP hD hS (lv_sub hl [2, 4, 7] rfl)
      · have hf := it q69 hf
        refine lv_aload_n hx hb dL_isPressed_203 rfl (lv_at hl 2 rfl) ?_
        obtain ⟨r70, e72, hf⟩ := bd hf
        refine jw_i (w1 := wX7 dA oa S66 (lT u)) (va_runV (As := []) (rest := []) ⟨hx, hb, hml, hown, hts⟩ (mt_X7_temperature l dC dI dA gz oa H.size (lT u) S66  r70 e72) (cwV 0 hts (gi_v bg wd_979 wd_980 wd_981 wd_1 wd_982) rfl rfl rfl hd_X7_temperature ⟨Nat.le_of_ble_eq_true rfl, Nat.le_of_ble_eq_true rfl⟩) ⟨pP_blind, va_recv (ci := 11) (q0 := 0) hK hP rfl rfl, pP_preW hP hD hS hA hK hN hZ⟩ rfl rfl hl.1 rfl (lv_room (Nat.le_of_ble_eq_true rfl)) dL_isPressed_204 ⟨Nat.le_of_ble_eq_true rfl, Nat.le_of_ble_eq_true rfl⟩) hD hS hA (fun H locs hP hD hS => ?_)
        refine lv_iload hx hb dL_isPressed_207 (lv_at hl 0 rfl) ?_
        refine lv_icmp_ne (tgt := 239) hx hb dL_isPressed_209 (by decide) (fun q74 => ?_) (fun q74 => ?_)
        · have hf := ie q74 hf
          refine W.widen (k := 7974) (n := 18308) (Nat.le_of_ble_eq_true rfl) (Nat.le_of_ble_eq_true rfl) ?_
          exact cut239 S66 u x2 x7 _ _ _ hf hu hP hD hS (lv_sub hl [2, 4, 7] rfl)
        · have hf := it q74 hf
          refine lv_aload_n hx hb dL_isPressed_212 rfl (lv_at hl 2 rfl) ?_
          obtain ⟨r75, e77, hf⟩ := bd hf
          refine jw_i (w1 := wX7 dA oa S66 (lT u)) (va_runV (As := []) (rest := []) ⟨hx, hb, hml, hown, hts⟩ (mt_X7_patCount l dC dI dA gz oa H.size (lT u) S66  r75 e77) (cwV 0 hts (gi_v bg wd_1046 wd_1047 wd_1048 wd_1 wd_1049) rfl rfl rfl hd_X7_patCount ⟨Nat.le_of_ble_eq_true rfl, Nat.le_of_ble_eq_true rfl⟩) ⟨pP_blind, va_recv (ci := 11) (q0 := 0) hK hP rfl rfl, pP_preW hP hD hS hA hK hN hZ⟩ rfl rfl hl.1 rfl (lv_room (Nat.le_of_ble_eq_true rfl)) dL_isPressed_213 ⟨Nat.le_of_ble_eq_true rfl, Nat.le_of_ble_eq_true rfl⟩) hD hS hA (fun H locs hP hD hS => ?_)
          refine lv_iload hx hb dL_isPressed_216 (lv_at hl 6 rfl) ?_
          refine lv_icmp_ne (tgt := 239) hx hb dL_isPressed_218 (by decide) (fun q79 => ?_) (fun q79 => ?_)
          · have hf := ie q79 hf
            refine W.widen (k := 7974) (n := 18308) (Nat.le_of_ble_eq_true rfl) (Nat.le_of_ble_eq_true rfl) ?_
            exact cut239 S66 u x2 x7 _ _ _ hf hu hP hD hS (lv_sub hl [2, 4, 7] rfl)
          · have hf := it q79 hf
            refine lv_aload_n hx hb dL_isPressed_221 rfl (lv_at hl 2 rfl) ?_
            obtain ⟨r80, S81, e82, hf⟩ := bS_inv hf
            refine jE_i (ok := LNk) (w1 := fun u9 : LU => wX7 dA oa S81 (lT u9)) (va_runS (As := [.ref (oa 0)]) (rest := []) ⟨hx, hb, hml, hown, hts⟩ (m_L_arePats l hl0 dC dI dA gz oa H.size u hu S66  r80 S81 e82) (cwS 1 hts (gi_s bg wd_1073 wd_1074 wd_0 wd_1075) rfl rfl rfl hd_L_arePats ⟨Nat.le_of_ble_eq_true rfl, Nat.le_of_ble_eq_true rfl⟩) ⟨pL_blind, pL_of hC (pP_preW hP hD hS hA hK hN hZ)⟩ rfl rfl hl.1 rfl (lv_room (Nat.le_of_ble_eq_true rfl)) dL_isPressed_222 ⟨Nat.le_of_ble_eq_true rfl, Nat.le_of_ble_eq_true rfl⟩) hD hS hA (fun u83 H locs hu83 hP hD hS => ?_)
            refine lv_if_eq (tgt := 239) hx hb dL_isPressed_225 (by decide) (fun q84 => ?_) (fun q84 => ?_)
            · have hf := it q84 hf
              refine W.widen (k := 7974) (n := 18308) (Nat.le_of_ble_eq_true rfl) (Nat.le_of_ble_eq_true rfl) ?_
              exact cut239 S81 u83 x2 x7 _ _ _ hf hu83 hP hD hS (lv_sub hl [2, 4, 7] rfl)
            · have hf := ie q84 hf
              refine lv_aload_n hx hb dL_isPressed_228 rfl (lv_at hl 2 rfl) ?_
              obtain ⟨r85, S86, e87, hf⟩ := bS_inv hf
              refine jw_i (w1 := wX7 dA oa S86 (lT u83)) (noRun (vx_runSX (As := [.ref (oa 0)]) (rest := []) ⟨hx, hb, hml, hown, hts⟩ (m_L_undo l hl0 dC dI dA gz oa H.size (lT u83) S81  r85 S86 e87) (vx_cwSW 1 hts (gi_t bg wd_831 wd_832 wd_0 wd_833) rfl rfl rfl hd3_L_undo ⟨Nat.le_of_ble_eq_true rfl, Nat.le_of_ble_eq_true rfl⟩) ⟨pL_blind, pL_of hC (pP_preW hP hD hS hA hK hN hZ)⟩ rfl rfl hl.1 rfl (lv_room (Nat.le_of_ble_eq_true rfl)) dL_isPressed_229 ⟨Nat.le_of_ble_eq_true rfl, Nat.le_of_ble_eq_true rfl⟩)) hD hS hA (fun H locs hP hD hS => ?_)
              refine lv_if_lt (tgt := 239) hx hb dL_isPressed_232 (by decide) (fun q89 => ?_) (fun q89 => ?_)
              · have hf := it q89 hf
                exact cut239 S86 u83 x2 x7 _ _ _ hf hu83 hP hD hS (lv_sub hl [2, 4, 7] rfl)
              · have hf := ie q89 hf
                refine lv_iconst (v := 1) hx hb dL_isPressed_235 (by decide) ?_
                refine lv_goto (tgt := 240) hx hb dL_isPressed_236 (by decide) ?_
                exact cut240 S86 u83 x2 x7 1 _ _ _ hf hu83 hP hD hS (lv_sub hl [2, 4, 7] rfl)
  have cut165 : ∀ (S : SX7) (u : LU) (x2 : Int64) (x4 : Int32) (x5 : Int32) (x7 : Int32) (H : Heap) (locs : List Loc) (ls : Array Slot), f_L_isPressed_165 p1 S x2 x4 x5 x7 = some (rr, uu) → LNk u → va_P (dC, dI) vwCl (wX7 dA oa S (lT u)) H → va_D A (wX7 dA oa S (lT u)) → va_S A s.heap H locs → lv_has ls 13 [(0, .ref (oa 0)), (1, .int p1), (2, .long x2), (4, .int x4), (5, .int x5), (7, .int x7)] → W p l e (headSpec ws_L_isPressed ({ frames := 54, cells := 12000, slots := 27696, locals := 2400 } : Room)).room s m ([.ref (oa 0), .int p1] : List Value).toArray below meth c H locs (4027) (9394) (MQ below (va_Qi (S := LU) (fun r' u => r' = rr ∧ LNk u) (fun u t => pQ (dC, dI) A (wX7 dA oa uu (lT u)) t) A) ([.ref (oa 0), .int p1] : List Value).toArray s 12000 27696 A) (F0 m 165 ls []) := by
    intro S u x2 x4 x5 x7 H locs ls hf hu hP hD hS hl
    rw [f_L_isPressed_165] at hf
    refine lv_iconst (v := 0) hx hb dL_isPressed_165 (by decide) ?_
    exact cut166 S u x2 x4 x5 x7 0 _ _ _ hf hu hP hD hS (lv_sub hl [0, 1, 2, 3, 4, 5] rfl)
  have cut38 : ∀ (S : SX7) (u : LU) (x2 : Int64) (x4 : Int32) (x5 : Int32) (k0 : Int32) (k1 : Int32) (H : Heap) (locs : List Loc) (ls : Array Slot), f_L_isPressed_38 p1 S x2 x4 x5 k0 k1 = some (rr, uu) → LNk u → va_P (dC, dI) vwCl (wX7 dA oa S (lT u)) H → va_D A (wX7 dA oa S (lT u)) → va_S A s.heap H locs → lv_has ls 13 [(0, .ref (oa 0)), (1, .int p1), (2, .long x2), (4, .int x4), (5, .int x5)] → W p l e (headSpec ws_L_isPressed ({ frames := 54, cells := 12000, slots := 27696, locals := 2400 } : Room)).room s m ([.ref (oa 0), .int p1] : List Value).toArray below meth c H locs (77) (462) (MQ below (va_Qi (S := LU) (fun r' u => r' = rr ∧ LNk u) (fun u t => pQ (dC, dI) A (wX7 dA oa uu (lT u)) t) A) ([.ref (oa 0), .int p1] : List Value).toArray s 12000 27696 A) (F0 m 38 ls [.int k1, .int k0]) := by
    intro S u x2 x4 x5 k0 k1 H locs ls hf hu hP hD hS hl
    rw [f_L_isPressed_38] at hf
    refine lv_iadd hx hb dL_isPressed_38 ?_
    refine lv_istore (lv' := [(6, .int (k0 + k1)), (0, .ref (oa 0)), (1, .int p1), (2, .long x2), (4, .int x4), (5, .int x5)]) hx hb dL_isPressed_39 hl (by decide) rfl (fun ls hl => ?_)
    refine lv_aload_n hx hb dL_isPressed_41 rfl (lv_at hl 1 rfl) ?_
    refine lv_iload_n hx hb dL_isPressed_42 rfl (lv_at hl 2 rfl) ?_
    obtain ⟨r90, S91, e92, hf⟩ := bS_inv hf
    refine jw_i (w1 := wX7 dA oa S91 (lT u)) (noRun (vx_runSX (As := [.ref (oa 0), .int p1]) (rest := []) ⟨hx, hb, hml, hown, hts⟩ (m_L_press l hl0 dC dI dA gz oa H.size (lT u) S p1 r90 S91 e92) (vx_cwSW 2 hts (gi_t bg wd_600 wd_601 wd_0 wd_602) rfl rfl rfl hd3_L_press ⟨Nat.le_of_ble_eq_true rfl, Nat.le_of_ble_eq_true rfl⟩) ⟨pL_blind, pL_of hC (pP_preW hP hD hS hA hK hN hZ)⟩ rfl rfl hl.1 rfl (lv_room (Nat.le_of_ble_eq_true rfl)) dL_isPressed_43 ⟨Nat.le_of_ble_eq_true rfl, Nat.le_of_ble_eq_true rfl⟩)) hD hS hA (fun H locs hP hD hS => ?_)
    refine lv_istore (lv' := [(7, .int r90), (6, .int (k0 + k1)), (0, .ref (oa 0)), (1, .int p1), (2, .long x2), (4, .int x4), (5, .int x5)]) hx hb dL_isPressed_46 hl (by decide) rfl (fun ls hl => ?_)
    refine lv_iload hx hb dL_isPressed_48 (lv_at hl 0 rfl) ?_
    refine lv_ldc hx hb (v := (-100000000)) hown (hts _ (bg _ wd_350)) dL_isPressed_50 ?_
    refine lv_icmp_ne (tgt := 83) hx hb dL_isPressed_52 (by decide) (fun q94 => ?_) (fun q94 => ?_)
    · have hf := ie q94 hf
      refine lv_iload hx hb dL_isPressed_83 (lv_at hl 0 rfl) ?_
      refine lv_iload hx hb dL_isPressed_85 (lv_at hl 6 rfl) ?_
      refine lv_icmp_ne (tgt := 165) hx hb dL_isPressed_87 (by decide) (fun q95 => ?_) (fun q95 => ?_)
      · have hf := ie q95 hf
        refine W.widen (k := 4027) (n := 9394) (Nat.le_of_ble_eq_true rfl) (Nat.le_of_ble_eq_true rfl) ?_
        exact cut165 S91 u x2 x4 x5 r90 _ _ _ hf hu hP hD hS (lv_sub hl [2, 3, 4, 5, 6, 0] rfl)
      · have hf := it q95 hf
        refine lv_aload_n hx hb dL_isPressed_90 rfl (lv_at hl 2 rfl) ?_
        refine lv_iload hx hb dL_isPressed_91 (lv_at hl 0 rfl) ?_
        obtain ⟨r96, S97, e98, hf⟩ := bT_inv hf
        refine jx_i (w1 := wX7 dA oa S97 (lT u)) (vx_runV (As := [.int r90]) (rest := []) ⟨hx, hb, hml, hown, hts⟩ (mt_X7_patMass l hl0 dC dI dA gz oa H.size (lT u) S91 r90 (.inl r96) S97 e98) (cwV 1 hts (gi_v bg wd_1050 wd_1051 wd_1052 wd_1 wd_1053) rfl rfl rfl hd_X7_patMass ⟨Nat.le_of_ble_eq_true rfl, Nat.le_of_ble_eq_true rfl⟩) ⟨pP_blind, va_recv (ci := 11) (q0 := 0) hK hP rfl rfl, pP_preW hP hD hS hA hK hN hZ⟩ rfl rfl hl.1 rfl (lv_room (Nat.le_of_ble_eq_true rfl)) dL_isPressed_93 ⟨Nat.le_of_ble_eq_true rfl, Nat.le_of_ble_eq_true rfl⟩) hD hS hA (fun E ce q9 H locs h9 _ _ _ _ _ _ => nomatch h9) (fun r9 H locs h9 hP hD hS => ?_)
        cases h9
        refine lv_iload_n hx hb dL_isPressed_96 rfl (lv_at hl 3 rfl) ?_
        refine lv_icmp_ne (tgt := 165) hx hb dL_isPressed_97 (by decide) (fun q100 => ?_) (fun q100 => ?_)
        · have hf := ie q100 hf
          refine W.widen (k := 4027) (n := 9394) (Nat.le_of_ble_eq_true rfl) (Nat.le_of_ble_eq_true rfl) ?_
          exact cut165 S97 u x2 x4 x5 r90 _ _ _ hf hu hP hD hS (lv_sub hl [2, 3, 4, 5, 6, 0] rfl)
        · have hf := it q100 hf
          refine lv_aload_n hx hb dL_isPressed_100 rfl (lv_at hl 2 rfl) ?_
          obtain ⟨r101, e103, hf⟩ := bd hf
          refine jw_i (w1 := wX7 dA oa S97 (lT u)) (va_runV (As := []) (rest := []) ⟨hx, hb, hml, hown, hts⟩ (mt_X7_mass l dC dI dA gz oa H.size (lT u) S97  r101 e103) (cwV 0 hts (gi_v bg wd_974 wd_975 wd_976 wd_1 wd_977) rfl rfl rfl hd_X7_mass ⟨Nat.le_of_ble_eq_true rfl, Nat.le_of_ble_eq_true rfl⟩) ⟨pP_blind, va_recv (ci := 11) (q0 := 0) hK hP rfl rfl, pP_preW hP hD hS hA hK hN hZ⟩ rfl rfl hl.1 rfl (lv_room (Nat.le_of_ble_eq_true rfl)) dL_isPressed_101 ⟨Nat.le_of_ble_eq_true rfl, Nat.le_of_ble_eq_true rfl⟩) hD hS hA (fun H locs hP hD hS => ?_)
          refine lv_iload hx hb dL_isPressed_104 (lv_at hl 5 rfl) ?_
          refine lv_iload_n hx hb dL_isPressed_106 rfl (lv_at hl 3 rfl) ?_
          refine lv_isub hx hb dL_isPressed_107 ?_
          refine lv_icmp_ne (tgt := 165) hx hb dL_isPressed_108 (by decide) (fun q105 => ?_) (fun q105 => ?_)
          · have hf := ie q105 hf
            refine W.widen (k := 4027) (n := 9394) (Nat.le_of_ble_eq_true rfl) (Nat.le_of_ble_eq_true rfl) ?_
            exact cut165 S97 u x2 x4 x5 r90 _ _ _ hf hu hP hD hS (lv_sub hl [2, 3, 4, 5, 6, 0] rfl)
          · have hf := it q105 hf
            refine lv_aload_n hx hb dL_isPressed_111 rfl (lv_at hl 2 rfl) ?_
            refine lv_iload hx hb dL_isPressed_112 (lv_at hl 0 rfl) ?_
            obtain ⟨r106, S107, e108, hf⟩ := bT_inv hf
            refine jx_i (w1 := wX7 dA oa S107 (lT u)) (vx_runV (As := [.int r90]) (rest := []) ⟨hx, hb, hml, hown, hts⟩ (mt_X7_cracks l hl0 dC dI dA gz oa H.size (lT u) S97 r90 (.inl r106) S107 e108) (cwV 1 hts (gi_v bg wd_1064 wd_1065 wd_1066 wd_1 wd_1067) rfl rfl rfl hd_X7_cracks ⟨Nat.le_of_ble_eq_true rfl, Nat.le_of_ble_eq_true rfl⟩) ⟨pP_blind, va_recv (ci := 11) (q0 := 0) hK hP rfl rfl, pP_preW hP hD hS hA hK hN hZ⟩ rfl rfl hl.1 rfl (lv_room (Nat.le_of_ble_eq_true rfl)) dL_isPressed_114 ⟨Nat.le_of_ble_eq_true rfl, Nat.le_of_ble_eq_true rfl⟩) hD hS hA (fun E ce q9 H locs h9 _ _ _ _ _ _ => nomatch h9) (fun r9 H locs h9 hP hD hS => ?_)
            cases h9
            refine lv_iload hx hb dL_isPressed_117 (lv_at hl 1 rfl) ?_
            refine lv_icmp_ne (tgt := 165) hx hb dL_isPressed_119 (by decide) (fun q110 => ?_) (fun q110 => ?_)
            · have hf := ie q110 hf
              refine W.widen (k := 4027) (n := 9394) (Nat.le_of_ble_eq_true rfl) (Nat.le_of_ble_eq_true rfl) ?_
              exact cut165 S107 u x2 x4 x5 r90 _ _ _ hf hu hP hD hS (lv_sub hl [2, 3, 4, 5, 6, 0] rfl)
            · have hf := it q110 hf
              refine lv_aload_n hx hb dL_isPressed_122 rfl (lv_at hl 2 rfl) ?_
              refine lv_iload hx hb dL_isPressed_123 (lv_at hl 0 rfl) ?_
              obtain ⟨r111, S112, e113, hf⟩ := bT_inv hf
              refine jx_i (w1 := wX7 dA oa S112 (lT u)) (vx_runV (As := [.int r90]) (rest := []) ⟨hx, hb, hml, hown, hts⟩ (mt_X7_patTemperature l hl0 dC dI dA gz oa H.size (lT u) S107 r90 (.inl r111) S112 e113) (cwV 1 hts (gi_v bg wd_1060 wd_1061 wd_1062 wd_1 wd_1063) rfl rfl rfl hd_X7_patTemperature ⟨Nat.le_of_ble_eq_true rfl, Nat.le_of_ble_eq_true rfl⟩) ⟨pP_blind, va_recv (ci := 11) (q0 := 0) hK hP rfl rfl, pP_preW hP hD hS hA hK hN hZ⟩ rfl rfl hl.1 rfl (lv_room (Nat.le_of_ble_eq_true rfl)) dL_isPressed_125 ⟨Nat.le_of_ble_eq_true rfl, Nat.le_of_ble_eq_true rfl⟩) hD hS hA (fun E ce q9 H locs h9 _ _ _ _ _ _ => nomatch h9) (fun r9 H locs h9 hP hD hS => ?_)
              cases h9
              refine lv_aload_n hx hb dL_isPressed_128 rfl (lv_at hl 2 rfl) ?_
              obtain ⟨r115, e117, hf⟩ := bd hf
              refine jw_i (w1 := wX7 dA oa S112 (lT u)) (va_runV (As := []) (rest := [.int r111]) ⟨hx, hb, hml, hown, hts⟩ (mt_X7_temperature l dC dI dA gz oa H.size (lT u) S112  r115 e117) (cwV 0 hts (gi_v bg wd_979 wd_980 wd_981 wd_1 wd_982) rfl rfl rfl hd_X7_temperature ⟨Nat.le_of_ble_eq_true rfl, Nat.le_of_ble_eq_true rfl⟩) ⟨pP_blind, va_recv (ci := 11) (q0 := 0) hK hP rfl rfl, pP_preW hP hD hS hA hK hN hZ⟩ rfl rfl hl.1 rfl (lv_room (Nat.le_of_ble_eq_true rfl)) dL_isPressed_129 ⟨Nat.le_of_ble_eq_true rfl, Nat.le_of_ble_eq_true rfl⟩) hD hS hA (fun H locs hP hD hS => ?_)
              refine lv_icmp_ne (tgt := 165) hx hb dL_isPressed_132 (by decide) (fun q119 => ?_) (fun q119 => ?_)
              · have hf := ie q119 hf
                refine W.widen (k := 4027) (n := 9394) (Nat.le_of_ble_eq_true rfl) (Nat.le_of_ble_eq_true rfl) ?_
                exact cut165 S112 u x2 x4 x5 r90 _ _ _ hf hu hP hD hS (lv_sub hl [2, 3, 4, 5, 6, 0] rfl)
              · have hf := it q119 hf
                refine lv_aload_n hx hb dL_isPressed_135 rfl (lv_at hl 2 rfl) ?_
                refine lv_iload hx hb dL_isPressed_136 (lv_at hl 0 rfl) ?_
                obtain ⟨r120, S121, e122, hf⟩ := bT_inv hf
                refine jx_i (w1 := wX7 dA oa S121 (lT u)) (vx_runV (As := [.int r90]) (rest := []) ⟨hx, hb, hml, hown, hts⟩ (mt_X7_firmness l hl0 dC dI dA gz oa H.size (lT u) S112 r90 (.inl r120) S121 e122) (cwV 1 hts (gi_v bg wd_1068 wd_1069 wd_1070 wd_1 wd_1071) rfl rfl rfl hd_X7_firmness ⟨Nat.le_of_ble_eq_true rfl, Nat.le_of_ble_eq_true rfl⟩) ⟨pP_blind, va_recv (ci := 11) (q0 := 0) hK hP rfl rfl, pP_preW hP hD hS hA hK hN hZ⟩ rfl rfl hl.1 rfl (lv_room (Nat.le_of_ble_eq_true rfl)) dL_isPressed_138 ⟨Nat.le_of_ble_eq_true rfl, Nat.le_of_ble_eq_true rfl⟩) hD hS hA (fun E ce q9 H locs h9 _ _ _ _ _ _ => nomatch h9) (fun r9 H locs h9 hP hD hS => ?_)
                cases h9
                refine lv_aload_n hx hb dL_isPressed_141 rfl (lv_at hl 2 rfl) ?_
                obtain ⟨r124, e126, hf⟩ := bd hf
                refine jw_i (w1 := wX7 dA oa S121 (lT u)) (va_runV (As := []) (rest := [.int r120]) ⟨hx, hb, hml, hown, hts⟩ (mt_X7_smoothness l dC dI dA gz oa H.size (lT u) S121  r124 e126) (cwV 0 hts (gi_v bg wd_984 wd_985 wd_986 wd_1 wd_987) rfl rfl rfl hd_X7_smoothness ⟨Nat.le_of_ble_eq_true rfl, Nat.le_of_ble_eq_true rfl⟩) ⟨pP_blind, va_recv (ci := 11) (q0 := 0) hK hP rfl rfl, pP_preW hP hD hS hA hK hN hZ⟩ rfl rfl hl.1 rfl (lv_room (Nat.le_of_ble_eq_true rfl)) dL_isPressed_142 ⟨Nat.le_of_ble_eq_true rfl, Nat.le_of_ble_eq_true rfl⟩) hD hS hA (fun H locs hP hD hS => ?_)
                refine lv_bipush (v := 15) hx hb dL_isPressed_145 (by decide) ?_
                refine lv_iload hx hb dL_isPressed_147 (lv_at hl 1 rfl) ?_
                refine lv_imul hx hb dL_isPressed_149 ?_
                refine lv_isub hx hb dL_isPressed_150 ?_
                refine lv_icmp_ne (tgt := 165) hx hb dL_isPressed_151 (by decide) (fun q128 => ?_) (fun q128 => ?_)
                · have hf := ie q128 hf
                  refine W.widen (k := 4027) (n := 9394) (Nat.le_of_ble_eq_true rfl) (Nat.le_of_ble_eq_true rfl) ?_
                  exact cut165 S121 u x2 x4 x5 r90 _ _ _ hf hu hP hD hS (lv_sub hl [2, 3, 4, 5, 6, 0] rfl)
                · have hf := it q128 hf
                  refine lv_aload_n hx hb dL_isPressed_154 rfl (lv_at hl 2 rfl) ?_
                  obtain ⟨r129, S130, e131, hf⟩ := bS_inv hf
                  refine jE_i (ok := LNk) (w1 := fun u9 : LU => wX7 dA oa S130 (lT u9)) (va_runS (As := [.ref (oa 0)]) (rest := []) ⟨hx, hb, hml, hown, hts⟩ (m_L_arePats l hl0 dC dI dA gz oa H.size u hu S121  r129 S130 e131) (cwS 1 hts (gi_s bg wd_1073 wd_1074 wd_0 wd_1075) rfl rfl rfl hd_L_arePats ⟨Nat.le_of_ble_eq_true rfl, Nat.le_of_ble_eq_true rfl⟩) ⟨pL_blind, pL_of hC (pP_preW hP hD hS hA hK hN hZ)⟩ rfl rfl hl.1 rfl (lv_room (Nat.le_of_ble_eq_true rfl)) dL_isPressed_155 ⟨Nat.le_of_ble_eq_true rfl, Nat.le_of_ble_eq_true rfl⟩) hD hS hA (fun u132 H locs hu132 hP hD hS => ?_)
                  refine lv_if_eq (tgt := 165) hx hb dL_isPressed_158 (by decide) (fun q133 => ?_) (fun q133 => ?_)
                  · have hf := it q133 hf
                    exact cut165 S130 u132 x2 x4 x5 r90 _ _ _ hf hu132 hP hD hS (lv_sub hl [2, 3, 4, 5, 6, 0] rfl)
                  · have hf := ie q133 hf
                    refine lv_iconst (v := 1) hx hb dL_isPressed_161 (by decide) ?_
                    refine lv_goto (tgt := 166) hx hb dL_isPressed_162 (by decide) ?_
                    exact cut166 S130 u132 x2 x4 x5 r90 1 _ _ _ hf hu132 hP hD hS (lv_sub hl [2, 3, 4, 5, 6, 0] rfl)
    · have hf := it q94 hf
      refine lv_iload hx hb dL_isPressed_55 (lv_at hl 5 rfl) ?_
      refine lv_iload_n hx hb dL_isPressed_57 rfl (lv_at hl 3 rfl) ?_
      refine lv_icmp_lt (tgt := 68) hx hb dL_isPressed_58 (by decide) (fun q134 => ?_) (fun q134 => ?_)
      · have hf := it q134 hf
        refine lv_aload_n hx hb dL_isPressed_68 rfl (lv_at hl 2 rfl) ?_
        obtain ⟨r135, S136, e137, hf⟩ := bS_inv hf
        refine jE_l (ok := LNk) (w1 := fun u9 : LU => wX7 dA oa S136 (lT u9)) (va_runS (As := [.ref (oa 0)]) (rest := []) ⟨hx, hb, hml, hown, hts⟩ (m_L_digest l hl0 dC dI dA gz oa H.size u hu S91  r135 S136 e137) (cwS 1 hts (gi_s bg wd_965 wd_966 wd_0 wd_967) rfl rfl rfl hd_L_digest ⟨Nat.le_of_ble_eq_true rfl, Nat.le_of_ble_eq_true rfl⟩) ⟨pL_blind, pL_of hC (pP_preW hP hD hS hA hK hN hZ)⟩ rfl rfl hl.1 rfl (lv_room (Nat.le_of_ble_eq_true rfl)) dL_isPressed_69 ⟨Nat.le_of_ble_eq_true rfl, Nat.le_of_ble_eq_true rfl⟩) hD hS hA (fun u138 H locs hu138 hP hD hS => ?_)
        refine lv_lload_n hx hb dL_isPressed_72 rfl (lv_at hl 4 rfl) ?_
        refine W.lcmp hx hb dL_isPressed_73 ?_
        refine lv_if_ne (tgt := 81) hx hb dL_isPressed_74 (by decide) (fun q139 => ?_) (fun q139 => ?_)
        · have hf := ie q139 hf
          refine lv_iconst (v := 0) hx hb dL_isPressed_81 (by decide) ?_
          obtain ⟨e8, e9⟩ := Prod.mk.inj (sm hf)
          refine W.widen (k := 12000) (n := 27696) (Nat.le_of_ble_eq_true rfl) (Nat.le_of_ble_eq_true rfl) ?_
          exact W.zret hx hb hr rfl (fun t ht hW => ⟨⟨_, u138, rfl, ⟨e8, hu138⟩, by rw [← e9, ht]; exact hP, by rw [← e9]; exact hD⟩, hS.F ht⟩) hS.2.2 dL_isPressed_82
        · have hf := it q139 hf
          refine lv_iconst (v := 1) hx hb dL_isPressed_77 (by decide) ?_
          refine lv_goto (tgt := 82) hx hb dL_isPressed_78 (by decide) ?_
          obtain ⟨e8, e9⟩ := Prod.mk.inj (sm hf)
          refine W.widen (k := 12000) (n := 27696) (Nat.le_of_ble_eq_true rfl) (Nat.le_of_ble_eq_true rfl) ?_
          exact W.zret hx hb hr rfl (fun t ht hW => ⟨⟨_, u138, rfl, ⟨e8, hu138⟩, by rw [← e9, ht]; exact hP, by rw [← e9]; exact hD⟩, hS.F ht⟩) hS.2.2 dL_isPressed_82
      · have hf := ie q134 hf
        refine lv_iload hx hb dL_isPressed_61 (lv_at hl 6 rfl) ?_
        refine lv_bipush (v := 12) hx hb dL_isPressed_63 (by decide) ?_
        refine lv_icmp_ne (tgt := 81) hx hb dL_isPressed_65 (by decide) (fun q140 => ?_) (fun q140 => ?_)
        · have hf := ie q140 hf
          refine lv_iconst (v := 0) hx hb dL_isPressed_81 (by decide) ?_
          obtain ⟨e8, e9⟩ := Prod.mk.inj (sm hf)
          refine W.widen (k := 12000) (n := 27696) (Nat.le_of_ble_eq_true rfl) (Nat.le_of_ble_eq_true rfl) ?_
          exact W.zret hx hb hr rfl (fun t ht hW => ⟨⟨_, u, rfl, ⟨e8, hu⟩, by rw [← e9, ht]; exact hP, by rw [← e9]; exact hD⟩, hS.F ht⟩) hS.2.2 dL_isPressed_82
        · have hf := it q140 hf
          refine lv_aload_n hx hb dL_isPressed_68 rfl (lv_at hl 2 rfl) ?_
          obtain ⟨r141, S142, e143, hf⟩ := bS_inv hf
          refine jE_l (ok := LNk) (w1 := fun u9 : LU => wX7 dA oa S142 (lT u9)) (va_runS (As := [.ref (oa 0)]) (rest := []) ⟨hx, hb, hml, hown, hts⟩ (m_L_digest l hl0 dC dI dA gz oa H.size u hu S91  r141 S142 e143) (cwS 1 hts (gi_s bg wd_965 wd_966 wd_0 wd_967) rfl rfl rfl hd_L_digest ⟨Nat.le_of_ble_eq_true rfl, Nat.le_of_ble_eq_true rfl⟩) ⟨pL_blind, pL_of hC (pP_preW hP hD hS hA hK hN hZ)⟩ rfl rfl hl.1 rfl (lv_room (Nat.le_of_ble_eq_true rfl)) dL_isPressed_69 ⟨Nat.le_of_ble_eq_true rfl, Nat.le_of_ble_eq_true rfl⟩) hD hS hA (fun u144 H locs hu144 hP hD hS => ?_)
          refine lv_lload_n hx hb dL_isPressed_72 rfl (lv_at hl 4 rfl) ?_
          refine W.lcmp hx hb dL_isPressed_73 ?_
          refine lv_if_ne (tgt := 81) hx hb dL_isPressed_74 (by decide) (fun q145 => ?_) (fun q145 => ?_)
          · have hf := ie q145 hf
            refine lv_iconst (v := 0) hx hb dL_isPressed_81 (by decide) ?_
            obtain ⟨e8, e9⟩ := Prod.mk.inj (sm hf)
            refine W.widen (k := 12000) (n := 27696) (Nat.le_of_ble_eq_true rfl) (Nat.le_of_ble_eq_true rfl) ?_
            exact W.zret hx hb hr rfl (fun t ht hW => ⟨⟨_, u144, rfl, ⟨e8, hu144⟩, by rw [← e9, ht]; exact hP, by rw [← e9]; exact hD⟩, hS.F ht⟩) hS.2.2 dL_isPressed_82
          · have hf := it q145 hf
            refine lv_iconst (v := 1) hx hb dL_isPressed_77 (by decide) ?_
            refine lv_goto (tgt := 82) hx hb dL_isPressed_78 (by decide) ?_
            obtain ⟨e8, e9⟩ := Prod.mk.inj (sm hf)
            refine W.widen (k := 12000) (n := 27696) (Nat.le_of_ble_eq_true rfl) (Nat.le_of_ble_eq_true rfl) ?_
            exact W.zret hx hb hr rfl (fun t ht hW => ⟨⟨_, u144, rfl, ⟨e8, hu144⟩, by rw [← e9, ht]; exact hP, by rw [← e9]; exact hD⟩, hS.F ht⟩) hS.2.2 dL_isPressed_82
  rw [f_L_isPressed] at hf
  refine lv_aload_n hx hb dL_isPressed_0 rfl (lv_at hl 0 rfl) ?_
  obtain ⟨r146, S147, e148, hf⟩ := bS_inv hf
  refine jE_l (ok := LNk) (w1 := fun u9 : LU => wX7 dA oa S147 (lT u9)) (va_runS (As := [.ref (oa 0)]) (rest := []) ⟨hx, hb, hml, hown, hts⟩ (m_L_digest l hl0 dC dI dA gz oa s.heap.size u0 hu0 S  r146 S147 e148) (cwS 1 hts (gi_s bg wd_965 wd_966 wd_0 wd_967) rfl rfl rfl hd_L_digest ⟨Nat.le_of_ble_eq_true rfl, Nat.le_of_ble_eq_true rfl⟩) ⟨pL_blind, pL_of hC (pP_preW hP hD hS hA hK hN hZ)⟩ rfl rfl hl.1 rfl (lv_room (Nat.le_of_ble_eq_true rfl)) dL_isPressed_1 ⟨Nat.le_of_ble_eq_true rfl, Nat.le_of_ble_eq_true rfl⟩) hD hS hA (fun u149 H locs hu149 hP hD hS => ?_)
  refine lv_lstore_n (lv' := [(2, .long r146), (0, .ref (oa 0)), (1, .int p1)]) hx hb dL_isPressed_4 rfl hl (by decide) rfl (fun ls hl => ?_)
  refine lv_aload_n hx hb dL_isPressed_5 rfl (lv_at hl 1 rfl) ?_
  obtain ⟨r150, e152, hf⟩ := bd hf
  refine jw_i (w1 := wX7 dA oa S147 (lT u149)) (va_runV (As := []) (rest := []) ⟨hx, hb, hml, hown, hts⟩ (mt_X7_mass l dC dI dA gz oa H.size (lT u149) S147  r150 e152) (cwV 0 hts (gi_v bg wd_974 wd_975 wd_976 wd_1 wd_977) rfl rfl rfl hd_X7_mass ⟨Nat.le_of_ble_eq_true rfl, Nat.le_of_ble_eq_true rfl⟩) ⟨pP_blind, va_recv (ci := 11) (q0 := 0) hK hP rfl rfl, pP_preW hP hD hS hA hK hN hZ⟩ rfl rfl hl.1 rfl (lv_room (Nat.le_of_ble_eq_true rfl)) dL_isPressed_6 ⟨Nat.le_of_ble_eq_true rfl, Nat.le_of_ble_eq_true rfl⟩) hD hS hA (fun H locs hP hD hS => ?_)
  refine lv_istore (lv' := [(4, .int r150), (2, .long r146), (0, .ref (oa 0)), (1, .int p1)]) hx hb dL_isPressed_9 hl (by decide) rfl (fun ls hl => ?_)
  refine lv_aload_n hx hb dL_isPressed_11 rfl (lv_at hl 2 rfl) ?_
  obtain ⟨r154, e156, hf⟩ := bd hf
  refine jw_i (w1 := wX7 dA oa S147 (lT u149)) (va_runV (As := []) (rest := []) ⟨hx, hb, hml, hown, hts⟩ (mt_X7_patCount l dC dI dA gz oa H.size (lT u149) S147  r154 e156) (cwV 0 hts (gi_v bg wd_1046 wd_1047 wd_1048 wd_1 wd_1049) rfl rfl rfl hd_X7_patCount ⟨Nat.le_of_ble_eq_true rfl, Nat.le_of_ble_eq_true rfl⟩) ⟨pP_blind, va_recv (ci := 11) (q0 := 0) hK hP rfl rfl, pP_preW hP hD hS hA hK hN hZ⟩ rfl rfl hl.1 rfl (lv_room (Nat.le_of_ble_eq_true rfl)) dL_isPressed_12 ⟨Nat.le_of_ble_eq_true rfl, Nat.le_of_ble_eq_true rfl⟩) hD hS hA (fun H locs hP hD hS => ?_)
  refine lv_istore (lv' := [(5, .int r154), (4, .int r150), (2, .long r146), (0, .ref (oa 0)), (1, .int p1)]) hx hb dL_isPressed_15 hl (by decide) rfl (fun ls hl => ?_)
  refine lv_aload_n hx hb dL_isPressed_17 rfl (lv_at hl 3 rfl) ?_
  obtain ⟨r158, e160, hf⟩ := bd hf
  refine jw_i (w1 := wX7 dA oa S147 (lT u149)) (va_runV (As := []) (rest := []) ⟨hx, hb, hml, hown, hts⟩ (mt_X7_stress l dC dI dA gz oa H.size (lT u149) S147  r158 e160) (cwV 0 hts (gi_v bg wd_989 wd_990 wd_991 wd_1 wd_992) rfl rfl rfl hd_X7_stress ⟨Nat.le_of_ble_eq_true rfl, Nat.le_of_ble_eq_true rfl⟩) ⟨pP_blind, va_recv (ci := 11) (q0 := 0) hK hP rfl rfl, pP_preW hP hD hS hA hK hN hZ⟩ rfl rfl hl.1 rfl (lv_room (Nat.le_of_ble_eq_true rfl)) dL_isPressed_18 ⟨Nat.le_of_ble_eq_true rfl, Nat.le_of_ble_eq_true rfl⟩) hD hS hA (fun H locs hP hD hS => ?_)
  refine lv_bipush (v := 10) hx hb dL_isPressed_21 (by decide) ?_
  refine lv_idiv hx hb dL_isPressed_23 (by decide) ?_
  refine lv_aload_n hx hb dL_isPressed_24 rfl (lv_at hl 3 rfl) ?_
  obtain ⟨r162, e164, hf⟩ := bd hf
  refine jw_i (w1 := wX7 dA oa S147 (lT u149)) (va_runV (As := []) (rest := [.int (r158 / 10)]) ⟨hx, hb, hml, hown, hts⟩ (mt_X7_temperature l dC dI dA gz oa H.size (lT u149) S147  r162 e164) (cwV 0 hts (gi_v bg wd_979 wd_980 wd_981 wd_1 wd_982) rfl rfl rfl hd_X7_temperature ⟨Nat.le_of_ble_eq_true rfl, Nat.le_of_ble_eq_true rfl⟩) ⟨pP_blind, va_recv (ci := 11) (q0 := 0) hK hP rfl rfl, pP_preW hP hD hS hA hK hN hZ⟩ rfl rfl hl.1 rfl (lv_room (Nat.le_of_ble_eq_true rfl)) dL_isPressed_25 ⟨Nat.le_of_ble_eq_true rfl, Nat.le_of_ble_eq_true rfl⟩) hD hS hA (fun H locs hP hD hS => ?_)
  refine lv_bipush (v := 100) hx hb dL_isPressed_28 (by decide) ?_
  refine lv_icmp_le (tgt := 37) hx hb dL_isPressed_30 (by decide) (fun q166 => ?_) (fun q166 => ?_)
  · have hf := it q166 hf
    refine lv_iconst (v := 0) hx hb dL_isPressed_37 (by decide) ?_
    exact cut38 S147 u149 r146 r150 r154 (r158 / 10) 0 _ _ _ hf hu149 hP hD hS (lv_sub hl [3, 4, 2, 1, 0] rfl)
  · have hf := ie q166 hf
    refine lv_iconst (v := 1) hx hb dL_isPressed_33 (by decide) ?_
    refine lv_goto (tgt := 38) hx hb dL_isPressed_34 (by decide) ?_
    exact cut38 S147 u149 r146 r150 r154 (r158 / 10) 1 _ _ _ hf hu149 hP hD hS (lv_sub hl [3, 4, 2, 1, 0] rfl)
/-! L_isFit -/
def f_L_isFit (S : SX7)  : Option (Int32 × SX7) :=
  bS (f_L_isCycle S) fun r1 S2 =>
  (if r1 = 0 then some (0, S2) else
  bS (f_L_arePats S2) fun r6 S7 =>
  (if r6 = 0 then some (0, S7) else
  bS (f_L_isForetold S7 1) fun r11 S12 =>
  (if r11 = 0 then some (0, S12) else
  bS (f_L_isForetold S12 17) fun r16 S17 =>
  (if r16 = 0 then some (0, S17) else
  bS (f_L_isForetold S17 200) fun r21 S22 =>
  (if r21 = 0 then some (0, S22) else
  bS (f_L_isPressed S22 1) fun r26 S27 =>
  (if r26 = 0 then some (0, S27) else
  bS (f_L_isPressed S27 13) fun r31 S32 =>
  (if r31 = 0 then some (0, S32) else
  some (1, S32))))))))
set_option maxRecDepth 100000 in
set_option maxHeartbeats 8000000 in
theorem m_L_isFit (l : Launch) (hl0 : l.stackTraces = false) (dC : Nat → ClassId) (dI : Nat → Nat → Nat) (dA gz : Nat → Nat) (oa : Nat → Nat) (sz : Nat) (u0 : LU) (hu0 : LNk u0) (S : SX7)  (rr : Int32) (uu : SX7) (hf : f_L_isFit S  = some (rr, uu)) : Met l yL_isFit ws_L_isFit ({ frames := 58, cells := 41703, slots := 97994, locals := 2600 } : Room) (va_Pc [.ref (oa 0)] (pL (dC, dI) dA gz (wX7 dA oa S (lT u0)) sz)) (va_Qi (S := LU) (fun r' u => r' = rr ∧ LNk u) (fun u t => pQ (dC, dI) (va_A (wX7 dA oa S (lT u0)) sz) (wX7 dA oa uu (lT u)) t) (va_A (wX7 dA oa S (lT u0)) sz)) 41703 97994 (va_A (wX7 dA oa S (lT u0)) sz) := by
  refine Met.ofW (cc := cL_isFit) (maxL := 1) (ret := (some .boolean)) (by decide) rfl ?_
  intro p e s m args below meth c s₁ B hml hv
  obtain ⟨rfl, ⟨hsz, hP, hK, hD0, hN, hZ⟩, hC⟩ := hv
  have hx := B.exec
  have hb := B.bytes
  have hr := B.returns
  have hts := atoms_spec (ws := ws_L_isFit) B.pre
  have hown : s.vm.findClass RL = some m.cls := findClass_of_methodNamed B.named
  have hlocks := B.notSynchronized
  subst hsz
  have hD := hD0.self (sz := s.heap.size)
  generalize hAe : va_A (wX7 dA oa S (lT u0)) s.heap.size = A at hD hZ ⊢
  have hA : ∀ q : Nat, s.heap.size ≤ q → A q := fun q h => by rw [← hAe]; exact Or.inr h
  have hS : va_S A s.heap s.heap [] := va_S.rf
  have hl := lv_entry [.ref (oa 0)] (n := 1) (Nat.le_of_ble_eq_true rfl)
  rw [lg_entry_eq]
  generalize (lg_sl [.ref (oa 0)] ++ List.replicate (1 - (lg_sl [.ref (oa 0)]).length) Slot.unset).toArray = ls at hl ⊢
  have hl : lv_has ls 1 [(0, .ref (oa 0))] := hl
  rw [f_L_isFit] at hf
  refine lv_aload_n hx hb dL_isFit_0 rfl (lv_at hl 0 rfl) ?_
  obtain ⟨r1, S2, e3, hf⟩ := bS_inv hf
  refine jE_i (ok := LNk) (w1 := fun u9 : LU => wX7 dA oa S2 (lT u9)) (va_runS (As := [.ref (oa 0)]) (rest := []) ⟨hx, hb, hml, hown, hts⟩ (m_L_isCycle l hl0 dC dI dA gz oa s.heap.size u0 hu0 S  r1 S2 e3) (cwS 1 hts (gi_s bg wd_1416 wd_1417 wd_0 wd_1418) rfl rfl rfl hd_L_isCycle ⟨Nat.le_of_ble_eq_true rfl, Nat.le_of_ble_eq_true rfl⟩) ⟨pL_blind, pL_of hC (pP_preW hP hD hS hA hK hN hZ)⟩ rfl rfl hl.1 rfl (lv_room (Nat.le_of_ble_eq_true rfl)) dL_isFit_1 ⟨Nat.le_of_ble_eq_true rfl, Nat.le_of_ble_eq_true rfl⟩) hD hS hA (fun u4 H locs hu4 hP hD hS => ?_)
  refine lv_if_eq (tgt := 62) hx hb dL_isFit_4 (by decide) (fun q5 => ?_) (fun q5 => ?_)
  · have hf := it q5 hf
    refine lv_iconst (v := 0) hx hb dL_isFit_62 (by decide) ?_
    obtain ⟨e8, e9⟩ := Prod.mk.inj (sm hf)
    refine W.widen (k := 41703) (n := 97994) (Nat.le_of_ble_eq_true rfl) (Nat.le_of_ble_eq_true rfl) ?_
    exact W.zret hx hb hr rfl (fun t ht hW => ⟨⟨_, u4, rfl, ⟨e8, hu4⟩, by rw [← e9, ht]; exact hP, by rw [← e9]; exact hD⟩, hS.F ht⟩) hS.2.2 dL_isFit_63
  · have hf := ie q5 hf
    refine lv_aload_n hx hb dL_isFit_7 rfl (lv_at hl 0 rfl) ?_
    obtain ⟨r6, S7, e8, hf⟩ := bS_inv hf
    refine jE_i (ok := LNk) (w1 := fun u9 : LU => wX7 dA oa S7 (lT u9)) (va_runS (As := [.ref (oa 0)]) (rest := []) ⟨hx, hb, hml, hown, hts⟩ (m_L_arePats l hl0 dC dI dA gz oa H.size u4 hu4 S2  r6 S7 e8) (cwS 1 hts (gi_s bg wd_1073 wd_1074 wd_0 wd_1075) rfl rfl rfl hd_L_arePats ⟨Nat.le_of_ble_eq_true rfl, Nat.le_of_ble_eq_true rfl⟩) ⟨pL_blind, pL_of hC (pP_preW hP hD hS hA hK hN hZ)⟩ rfl rfl hl.1 rfl (lv_room (Nat.le_of_ble_eq_true rfl)) dL_isFit_8 ⟨Nat.le_of_ble_eq_true rfl, Nat.le_of_ble_eq_true rfl⟩) hD hS hA (fun u9 H locs hu9 hP hD hS => ?_)
    refine lv_if_eq (tgt := 62) hx hb dL_isFit_11 (by decide) (fun q10 => ?_) (fun q10 => ?_)
    · have hf := it q10 hf
      refine lv_iconst (v := 0) hx hb dL_isFit_62 (by decide) ?_
      obtain ⟨e8, e9⟩ := Prod.mk.inj (sm hf)
      refine W.widen (k := 41703) (n := 97994) (Nat.le_of_ble_eq_true rfl) (Nat.le_of_ble_eq_true rfl) ?_
      exact W.zret hx hb hr rfl (fun t ht hW => ⟨⟨_, u9, rfl, ⟨e8, hu9⟩, by rw [← e9, ht]; exact hP, by rw [← e9]; exact hD⟩, hS.F ht⟩) hS.2.2 dL_isFit_63
    · have hf := ie q10 hf
      refine lv_aload_n hx hb dL_isFit_14 rfl (lv_at hl 0 rfl) ?_
      refine lv_iconst (v := 1) hx hb dL_isFit_15 (by decide) ?_
      obtain ⟨r11, S12, e13, hf⟩ := bS_inv hf
      refine jE_i (ok := LNk) (w1 := fun u9 : LU => wX7 dA oa S12 (lT u9)) (va_runS (As := [.ref (oa 0), .int 1]) (rest := []) ⟨hx, hb, hml, hown, hts⟩ (m_L_isForetold l hl0 dC dI dA gz oa H.size u9 hu9 S7 1 r11 S12 e13) (cwS 2 hts (gi_s bg wd_1432 wd_1433 wd_0 wd_1434) rfl rfl rfl hd_L_isForetold ⟨Nat.le_of_ble_eq_true rfl, Nat.le_of_ble_eq_true rfl⟩) ⟨pL_blind, pL_of hC (pP_preW hP hD hS hA hK hN hZ)⟩ rfl rfl hl.1 rfl (lv_room (Nat.le_of_ble_eq_true rfl)) dL_isFit_16 ⟨Nat.le_of_ble_eq_true rfl, Nat.le_of_ble_eq_true rfl⟩) hD hS hA (fun u14 H locs hu14 hP hD hS => ?_)
      refine lv_if_eq (tgt := 62) hx hb dL_isFit_19 (by decide) (fun q15 => ?_) (fun q15 => ?_)
      · have hf := it q15 hf
        refine lv_iconst (v := 0) hx hb dL_isFit_62 (by decide) ?_
        obtain ⟨e8, e9⟩ := Prod.mk.inj (sm hf)
        refine W.widen (k := 41703) (n := 97994) (Nat.le_of_ble_eq_true rfl) (Nat.le_of_ble_eq_true rfl) ?_
        exact W.zret hx hb hr rfl (fun t ht hW => ⟨⟨_, u14, rfl, ⟨e8, hu14⟩, by rw [← e9, ht]; exact hP, by rw [← e9]; exact hD⟩, hS.F ht⟩) hS.2.2 dL_isFit_63
      · have hf := ie q15 hf
        refine lv_aload_n hx hb dL_isFit_22 rfl (lv_at hl 0 rfl) ?_
        refine lv_bipush (v := 17) hx hb dL_isFit_23 (by decide) ?_
        obtain ⟨r16, S17, e18, hf⟩ := bS_inv hf
        refine jE_i (ok := LNk) (w1 := fun u9 : LU => wX7 dA oa S17 (lT u9)) (va_runS (As := [.ref (oa 0), .int 17]) (rest := []) ⟨hx, hb, hml, hown, hts⟩ (m_L_isForetold l hl0 dC dI dA gz oa H.size u14 hu14 S12 17 r16 S17 e18) (cwS 2 hts (gi_s bg wd_1432 wd_1433 wd_0 wd_1434) rfl rfl rfl hd_L_isForetold ⟨Nat.le_of_ble_eq_true rfl, Nat.le_of_ble_eq_true rfl⟩) ⟨pL_blind, pL_of hC (pP_preW hP hD hS hA hK hN hZ)⟩ rfl rfl hl.1 rfl (lv_room (Nat.le_of_ble_eq_true rfl)) dL_isFit_25 ⟨Nat.le_of_ble_eq_true rfl, Nat.le_of_ble_eq_true rfl⟩) hD hS hA (fun u19 H locs hu19 hP hD hS => ?_)
        refine lv_if_eq (tgt := 62) hx hb dL_isFit_28 (by decide) (fun q20 => ?_) (fun q20 => ?_)
        · have hf := it q20 hf
          refine lv_iconst (v := 0) hx hb dL_isFit_62 (by decide) ?_
          obtain ⟨e8, e9⟩ := Prod.mk.inj (sm hf)
          refine W.widen (k := 41703) (n := 97994) (Nat.le_of_ble_eq_true rfl) (Nat.le_of_ble_eq_true rfl) ?_
          exact W.zret hx hb hr rfl (fun t ht hW => ⟨⟨_, u19, rfl, ⟨e8, hu19⟩, by rw [← e9, ht]; exact hP, by rw [← e9]; exact hD⟩, hS.F ht⟩) hS.2.2 dL_isFit_63
        · have hf := ie q20 hf
          refine lv_aload_n hx hb dL_isFit_31 rfl (lv_at hl 0 rfl) ?_
          refine lv_sipush (v := 200) hx hb dL_isFit_32 (by decide) ?_
          obtain ⟨r21, S22, e23, hf⟩ := bS_inv hf
          refine jE_i (ok := LNk) (w1 := fun u9 : LU => wX7 dA oa S22 (lT u9)) (va_runS (As := [.ref (oa 0), .int 200]) (rest := []) ⟨hx, hb, hml, hown, hts⟩ (m_L_isForetold l hl0 dC dI dA gz oa H.size u19 hu19 S17 200 r21 S22 e23) (cwS 2 hts (gi_s bg wd_1432 wd_1433 wd_0 wd_1434) rfl rfl rfl hd_L_isForetold ⟨Nat.le_of_ble_eq_true rfl, Nat.le_of_ble_eq_true rfl⟩) ⟨pL_blind, pL_of hC (pP_preW hP hD hS hA hK hN hZ)⟩ rfl rfl hl.1 rfl (lv_room (Nat.le_of_ble_eq_true rfl)) dL_isFit_35 ⟨Nat.le_of_ble_eq_true rfl, Nat.le_of_ble_eq_true rfl⟩) hD hS hA (fun u24 H locs hu24 hP hD hS => ?_)
          refine lv_if_eq (tgt := 62) hx hb dL_isFit_38 (by decide) (fun q25 => ?_) (fun q25 => ?_)
          · have hf := it q25 hf
            refine lv_iconst (v := 0) hx hb dL_isFit_62 (by decide) ?_
            obtain ⟨e8, e9⟩ := Prod.mk.inj (sm hf)
            refine W.widen (k := 41703) (n := 97994) (Nat.le_of_ble_eq_true rfl) (Nat.le_of_ble_eq_true rfl) ?_
            exact W.zret hx hb hr rfl (fun t ht hW => ⟨⟨_, u24, rfl, ⟨e8, hu24⟩, by rw [← e9, ht]; exact hP, by rw [← e9]; exact hD⟩, hS.F ht⟩) hS.2.2 dL_isFit_63
          · have hf := ie q25 hf
            refine lv_aload_n hx hb dL_isFit_41 rfl (lv_at hl 0 rfl) ?_
            refine lv_iconst (v := 1) hx hb dL_isFit_42 (by decide) ?_
            obtain ⟨r26, S27, e28, hf⟩ := bS_inv hf
            refine jE_i (ok := LNk) (w1 := fun u9 : LU => wX7 dA oa S27 (lT u9)) (va_runS (As := [.ref (oa 0), .int 1]) (rest := []) ⟨hx, hb, hml, hown, hts⟩ (m_L_isPressed l hl0 dC dI dA gz oa H.size u24 hu24 S22 1 r26 S27 e28) (cwS 2 hts (gi_s bg wd_1453 wd_1454 wd_0 wd_1455) rfl rfl rfl hd_L_isPressed ⟨Nat.le_of_ble_eq_true rfl, Nat.le_of_ble_eq_true rfl⟩) ⟨pL_blind, pL_of hC (pP_preW hP hD hS hA hK hN hZ)⟩ rfl rfl hl.1 rfl (lv_room (Nat.le_of_ble_eq_true rfl)) dL_isFit_43 ⟨Nat.le_of_ble_eq_true rfl, Nat.le_of_ble_eq_true rfl⟩) hD hS hA (fun u29 H locs hu29 hP hD hS => ?_)
            refine lv_if_eq (tgt := 62) hx hb dL_isFit_46 (by decide) (fun q30 => ?_) (fun q30 => ?_)
            · have hf := it q30 hf
              refine lv_iconst (v := 0) hx hb dL_isFit_62 (by decide) ?_
              obtain ⟨e8, e9⟩ := Prod.mk.inj (sm hf)
              refine W.widen (k := 41703) (n := 97994) (Nat.le_of_ble_eq_true rfl) (Nat.le_of_ble_eq_true rfl) ?_
              exact W.zret hx hb hr rfl (fun t ht hW => ⟨⟨_, u29, rfl, ⟨e8, hu29⟩, by rw [← e9, ht]; exact hP, by rw [← e9]; exact hD⟩, hS.F ht⟩) hS.2.2 dL_isFit_63
            · have hf := ie q30 hf
              refine lv_aload_n hx hb dL_isFit_49 rfl (lv_at hl 0 rfl) ?_
              refine lv_bipush (v := 13) hx hb dL_isFit_50 (by decide) ?_
              obtain ⟨r31, S32, e33, hf⟩ := bS_inv hf
              refine jE_i (ok := LNk) (w1 := fun u9 : LU => wX7 dA oa S32 (lT u9)) (va_runS (As := [.ref (oa 0), .int 13]) (rest := []) ⟨hx, hb, hml, hown, hts⟩ (m_L_isPressed l hl0 dC dI dA gz oa H.size u29 hu29 S27 13 r31 S32 e33) (cwS 2 hts (gi_s bg wd_1453 wd_1454 wd_0 wd_1455) rfl rfl rfl hd_L_isPressed ⟨Nat.le_of_ble_eq_true rfl, Nat.le_of_ble_eq_true rfl⟩) ⟨pL_blind, pL_of hC (pP_preW hP hD hS hA hK hN hZ)⟩ rfl rfl hl.1 rfl (lv_room (Nat.le_of_ble_eq_true rfl)) dL_isFit_52 ⟨Nat.le_of_ble_eq_true rfl, Nat.le_of_ble_eq_true rfl⟩) hD hS hA (fun u34 H locs hu34 hP hD hS => ?_)
              refine lv_if_eq (tgt := 62) hx hb dL_isFit_55 (by decide) (fun q35 => ?_) (fun q35 => ?_)
              · have hf := it q35 hf
                refine lv_iconst (v := 0) hx hb dL_isFit_62 (by decide) ?_
                obtain ⟨e8, e9⟩ := Prod.mk.inj (sm hf)
                exact W.zret hx hb hr rfl (fun t ht hW => ⟨⟨_, u34, rfl, ⟨e8, hu34⟩, by rw [← e9, ht]; exact hP, by rw [← e9]; exact hD⟩, hS.F ht⟩) hS.2.2 dL_isFit_63
              · have hf := ie q35 hf
                refine lv_iconst (v := 1) hx hb dL_isFit_58 (by decide) ?_
                refine lv_goto (tgt := 63) hx hb dL_isFit_59 (by decide) ?_
                obtain ⟨e8, e9⟩ := Prod.mk.inj (sm hf)
                exact W.zret hx hb hr rfl (fun t ht hW => ⟨⟨_, u34, rfl, ⟨e8, hu34⟩, by rw [← e9, ht]; exact hP, by rw [← e9]; exact hD⟩, hS.F ht⟩) hS.2.2 dL_isFit_63
