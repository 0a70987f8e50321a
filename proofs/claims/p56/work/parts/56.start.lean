/-! the start: what the Statement gives -/
abbrev GV : Jvm.Cond := Jvm.Cond.and given_1 narrow_1
theorem gv_at {args : Array Value} {s : State} {w : Cond} (hgv : GV.before args s = true) (i : Nat) (h : (flatC GV)[i]? = some w) : w.before args s = true := flat_of_before _ hgv _ (List.mem_of_getElem? h)
theorem tb_at {args : Array Value} {s : State} {w : Cond} (hts : ∀ w ∈ lw_tbl, w.before args s = true) (i : Nat) (h : tables_1[i]? = some w) : w.before args s = true := hts _ (List.mem_append_right _ (List.mem_of_getElem? h))
def tmS (i : Nat) : Term := .string (site i).1 (site i).2.1
def SPL : List Nat := [347, 401, 423, 433, 441, 450, 459, 467, 475, 485, 495, 505, 544, 564, 590, 640, 670, 694, 721, 730, 756, 782, 810, 836, 860, 885, 913, 944, 951, 965, 981, 986, 1016, 1037, 1078, 1086, 1093, 1109, 1138, 1147, 1162, 1173, 1192, 1202, 1222, 1231, 1242, 1258, 1269, 1290, 1301, 1320, 1331, 1349, 1365, 1380, 1395, 1404, 1414, 1426, 1435, 1446, 1458]
def SRL : List Nat := [423, 470, 645, 646, 647, 648, 649, 650, 651, 652, 653, 726, 757, 816, 830, 848, 866, 887, 896, 941, 1013, 1026, 1041, 1059, 1096, 1109, 1142, 1302, 1340, 1341, 1342, 1349, 1395, 1443, 1456, 1457, 1491, 1492, 1493, 1494, 1495, 1496, 1497, 1498, 1499, 1500, 1501, 1502, 1503, 1504, 1505, 1506, 1507, 1508, 1509, 1510, 1511, 1512, 1513, 1514, 1515, 1516, 1517]
set_option maxRecDepth 100000 in
set_option maxHeartbeats 4000000 in
theorem sp_ex : ∀ i, i < 63 → (flatC GV)[SPL.getD i 0]? = some (Cond.exactly (tmS i) "java/lang/String") := by decide +kernel
set_option maxRecDepth 100000 in
set_option maxHeartbeats 4000000 in
theorem sp_co : ∀ i, i < 63 → (flatC GV)[SPL.getD i 0 + 1]? = some (Cond.eq (.field (tmS i) "java/lang/String" "coder" "B") (.int 0)) := by decide +kernel
set_option maxRecDepth 100000 in
set_option maxHeartbeats 4000000 in
theorem sp_ar : ∀ i, i < 63 → (flatC GV)[SPL.getD i 0 + 2]? = some (Cond.arrayOf (.field (tmS i) "java/lang/String" "value" "[B") .byte) := by decide +kernel
set_option maxRecDepth 100000 in
set_option maxHeartbeats 4000000 in
theorem sp_le : ∀ i, i < 63 → (flatC GV)[SPL.getD i 0 + 3]? = some (Cond.eq (.length (.field (tmS i) "java/lang/String" "value" "[B")) (.int (Int32.ofNat (site i).2.2.2.length))) := by decide +kernel
set_option maxRecDepth 100000 in
set_option maxHeartbeats 4000000 in
theorem sp_el : ∀ i, i < 63 → ∀ j, j < (site i).2.2.2.length → (flatC GV)[SPL.getD i 0 + 4 + j]? = some (Cond.eq (.elem (.field (tmS i) "java/lang/String" "value" "[B") (.int (Int32.ofNat j))) (.int ((site i).2.2.2.getD j 0))) := by decide +kernel
set_option maxRecDepth 100000 in
set_option maxHeartbeats 4000000 in
theorem sp_sr : ∀ i, i < 63 → tables_1[SRL.getD i 0]? = some (Cond.stringRef (site i).1 (site i).2.1 (site i).2.2.1) := by decide +kernel
set_option maxRecDepth 100000 in
set_option maxHeartbeats 4000000 in
theorem sp_len : ∀ i, i < 63 → (site i).2.2.2.length < 1000 := by decide +kernel
theorem st_one {args : Array Value} {s : State} {A : Nat → Prop} (hts : ∀ w ∈ lw_tbl, w.before args s = true) (hgv : GV.before args s = true) (hA : ∀ a : Nat, a < s.heap.size → ¬ A a) (i : Nat) (hi : i < 63) : ∃ q : Nat × Nat, vk_R (site i).1 (site i).2.1 (site i).2.2.1 q.1 s ∧ vk_S 1 [(site i).2.2.2.length] [(site i).2.2.2] (fun _ => q.1) (fun _ => q.2) A s s.heap ∧ (tmS i).eval args s none [] s = some (.ref q.1) := by
  obtain ⟨adK, adV, hS, he⟩ := vk_Sof (args := args) (s := s) (N := 1) (tm := fun _ => tmS i) (len := [(site i).2.2.2.length]) (byt := [(site i).2.2.2]) (A := A) (fun k hk => by
    have h0 : k = 0 := by omega
    subst h0
    exact Nat.lt_trans (sp_len i hi) (by decide)) (fun k _ => gv_at hgv _ (sp_ex i hi)) (fun k _ => gv_at hgv _ (sp_co i hi)) (fun k _ => gv_at hgv _ (sp_ar i hi)) (fun k hk => by
    have h0 : k = 0 := by omega
    subst h0
    exact gv_at hgv _ (sp_le i hi)) (fun k hk j hj => by
    have h0 : k = 0 := by omega
    subst h0
    exact gv_at hgv _ (sp_el i hi j hj)) (fun a b ha hb hn => absurd (by omega) hn) hA
  refine ⟨(adK 0, adV 0), vk_R.of (tb_at hts _ (sp_sr i hi)) (he 0 (by omega)), ⟨fun k hk => ?_, fun a b ha hb _ => by omega⟩, he 0 (by omega)⟩
  have h0 : k = 0 := by omega
  subst h0
  exact hS.1 0 hk
set_option maxRecDepth 100000 in
set_option maxHeartbeats 4000000 in
theorem tx_el : ∀ j, j < 27 → (flatC GV)[14 + j]? = some (Cond.eq (.elem (.static "StoneChurnLaw" "TEXTS" "[Ljava/lang/String;") (.int (Int32.ofNat j))) (tmS (TXS.getD j 0))) := by decide +kernel
theorem tx_lt : ∀ j, j < 27 → TXS.getD j 0 < 63 := by decide +kernel
set_option maxRecDepth 100000 in
set_option maxHeartbeats 4000000 in
theorem dgO_el : ∀ j, j < 100 → (flatC GV)[44 + j]? = some (Cond.eq (.elem (.static "java/lang/Integer" "DigitOnes" "[B") (.int (Int32.ofNat j))) (.int (dgO j))) := by decide +kernel
set_option maxRecDepth 100000 in
set_option maxHeartbeats 4000000 in
theorem dgT_el : ∀ j, j < 100 → (flatC GV)[147 + j]? = some (Cond.eq (.elem (.static "java/lang/Integer" "DigitTens" "[B") (.int (Int32.ofNat j))) (.int (dgT j))) := by decide +kernel
theorem va_T_congr {ty : FieldType} {t N : Nat} {f g : Nat → Value} {A : Nat → Prop} {U : State} {H : Heap} (h : va_T ty t N f A U H) (e : ∀ j, j < N → f j = g j) : va_T ty t N g A U H := by
  obtain ⟨cell, h1, h2, h3, h4, h5, h6, h7⟩ := h
  exact ⟨cell, h1, h2, h3, h4, h5, fun j hj => by rw [← e j hj]; exact h6 j hj, h7⟩
theorem st_Z {args : Array Value} {s : State} {A : Nat → Prop} (hts : ∀ w ∈ lw_tbl, w.before args s = true) (hgv : GV.before args s = true) (hA : ∀ a : Nat, a < s.heap.size → ¬ A a) : ∃ gz : Nat → Nat, pZ gz A s s.heap := by
  have h1 : ∀ i : Nat, ∃ q : Nat × Nat, i < 63 → vk_R (site i).1 (site i).2.1 (site i).2.2.1 q.1 s ∧ vk_S 1 [(site i).2.2.2.length] [(site i).2.2.2] (fun _ => q.1) (fun _ => q.2) A s s.heap ∧ (tmS i).eval args s none [] s = some (.ref q.1) := by
    intro i
    by_cases hi : i < 63
    · obtain ⟨q, h⟩ := st_one hts hgv hA i hi
      exact ⟨q, fun _ => h⟩
    · exact ⟨(0, 0), fun h => absurd h hi⟩
  obtain ⟨ad, had⟩ := Classical.axiomOfChoice h1
  obtain ⟨t0, e0, hT0⟩ := va_Tof (args := args) (s := s) (tm := .static "java/lang/Integer" "DigitOnes" "[B") (ty := .byte) (N := 100) (f := fun j => .int (dgO j)) (A := A) (by decide) (gv_at hgv 42 (by decide +kernel)) (va_eqt (gv_at hgv 43 (by decide +kernel))) (fun j hj => va_eqt (gv_at hgv _ (dgO_el j hj))) hA
  obtain ⟨t1, e1, hT1⟩ := va_Tof (args := args) (s := s) (tm := .static "java/lang/Integer" "DigitTens" "[B") (ty := .byte) (N := 100) (f := fun j => .int (dgT j)) (A := A) (by decide) (gv_at hgv 145 (by decide +kernel)) (va_eqt (gv_at hgv 146 (by decide +kernel))) (fun j hj => va_eqt (gv_at hgv _ (dgT_el j hj))) hA
  obtain ⟨t2, e2, hT2⟩ := va_Tof (args := args) (s := s) (tm := .static "StoneChurnLaw" "TEXTS" "[Ljava/lang/String;") (ty := .object "java/lang/String") (N := 27) (f := fun j => .ref (ad (TXS.getD j 0)).1) (A := A) (by decide) (gv_at hgv 12 (by decide +kernel)) (va_eqt (gv_at hgv 13 (by decide +kernel))) (fun j hj => va_eqv (gv_at hgv _ (tx_el j hj)) (had _ (tx_lt j hj)).2.2) hA
  refine ⟨fun n => if n < 126 then (if n % 2 = 0 then (ad (n / 2)).1 else (ad (n / 2)).2) else if n = 200 then t0 else if n = 201 then t1 else t2, fun i hi => ?_, va_Zof (tb_at hts 251 (by decide +kernel)) (tb_at hts 11 (by decide +kernel)) (va_eqi (gv_at hgv 4 (by decide +kernel))) hA, ⟨va_Zof (tb_at hts 1252 (by decide +kernel)) (tb_at hts 30 (by decide +kernel)) e0 hA, hT0⟩, ⟨va_Zof (tb_at hts 1254 (by decide +kernel)) (tb_at hts 30 (by decide +kernel)) e1 hA, hT1⟩, va_Zqof (tb_at hts 682 (by decide +kernel)) (tb_at hts 14 (by decide +kernel)) (gv_at hgv 7 (by decide +kernel)) hA, vx_Zqof (tb_at hts 404 (by decide +kernel)) (tb_at hts 15 (by decide +kernel)) (gv_at hgv 5 (by decide +kernel)) hA, vx_Zqof (tb_at hts 406 (by decide +kernel)) (tb_at hts 15 (by decide +kernel)) (gv_at hgv 6 (by decide +kernel)) hA, va_Zof (tb_at hts 964 (by decide +kernel)) (tb_at hts 0 (by decide +kernel)) e2 hA, ?_⟩
  · have g0 : (if 2 * i < 126 then (if 2 * i % 2 = 0 then (ad (2 * i / 2)).1 else (ad (2 * i / 2)).2) else if 2 * i = 200 then t0 else if 2 * i = 201 then t1 else t2) = (ad i).1 := by
      rw [if_pos (by omega), if_pos (by omega), show 2 * i / 2 = i by omega]
    have g1 : (if 2 * i + 1 < 126 then (if (2 * i + 1) % 2 = 0 then (ad ((2 * i + 1) / 2)).1 else (ad ((2 * i + 1) / 2)).2) else if 2 * i + 1 = 200 then t0 else if 2 * i + 1 = 201 then t1 else t2) = (ad i).2 := by
      rw [if_pos (by omega), if_neg (by omega), show (2 * i + 1) / 2 = i by omega]
    unfold stOk
    simp only [g0, g1]
    exact ⟨(had i hi).1, (had i hi).2.1⟩
  · refine va_T_congr hT2 (fun j hj => ?_)
    have hlt := tx_lt j hj
    have g0 : (if 2 * TXS.getD j 0 < 126 then (if 2 * TXS.getD j 0 % 2 = 0 then (ad (2 * TXS.getD j 0 / 2)).1 else (ad (2 * TXS.getD j 0 / 2)).2) else if 2 * TXS.getD j 0 = 200 then t0 else if 2 * TXS.getD j 0 = 201 then t1 else t2) = (ad (TXS.getD j 0)).1 := by
      rw [if_pos (by omega), if_pos (by omega), show 2 * TXS.getD j 0 / 2 = TXS.getD j 0 by omega]
    exact congrArg Value.ref g0.symm
set_option maxRecDepth 100000 in
set_option maxHeartbeats 4000000 in
theorem inT_RJ0 : ∀ w ∈ wsJ00, w ∈ lw_tbl := by decide +kernel
set_option maxRecDepth 100000 in
set_option maxHeartbeats 4000000 in
theorem inT_RJ4 : ∀ w ∈ wsJ40, w ∈ lw_tbl := by decide +kernel
set_option maxRecDepth 100000 in
set_option maxHeartbeats 4000000 in
theorem inT_RJx00060 : ∀ w ∈ wsJx000600, w ∈ lw_tbl := by decide +kernel
set_option maxRecDepth 100000 in
set_option maxHeartbeats 4000000 in
theorem inT_RJx7c733 : ∀ w ∈ wsJx7c7330, w ∈ lw_tbl := by decide +kernel
set_option maxRecDepth 100000 in
set_option maxHeartbeats 4000000 in
theorem inT_RX0 : ∀ w ∈ wsX00, w ∈ lw_tbl := by decide +kernel
set_option maxRecDepth 100000 in
set_option maxHeartbeats 4000000 in
theorem inT_RX1 : ∀ w ∈ wsX10, w ∈ lw_tbl := by decide +kernel
set_option maxRecDepth 100000 in
set_option maxHeartbeats 4000000 in
theorem inT_RX2 : ∀ w ∈ wsX20, w ∈ lw_tbl := by decide +kernel
set_option maxRecDepth 100000 in
set_option maxHeartbeats 4000000 in
theorem inT_RX3 : ∀ w ∈ wsX30, w ∈ lw_tbl := by decide +kernel
set_option maxRecDepth 100000 in
set_option maxHeartbeats 4000000 in
theorem inT_RX4 : ∀ w ∈ wsX40, w ∈ lw_tbl := by decide +kernel
set_option maxRecDepth 100000 in
set_option maxHeartbeats 4000000 in
theorem inT_RX5 : ∀ w ∈ wsX50, w ∈ lw_tbl := by decide +kernel
set_option maxRecDepth 100000 in
set_option maxHeartbeats 4000000 in
theorem inT_RX6 : ∀ w ∈ wsX60, w ∈ lw_tbl := by decide +kernel
set_option maxRecDepth 100000 in
set_option maxHeartbeats 4000000 in
theorem inT_RX7 : ∀ w ∈ wsX70, w ∈ lw_tbl := by decide +kernel
theorem st_K {args : Array Value} {s : State} (hts : ∀ w ∈ lw_tbl, w.before args s = true) : ∃ (dC : Nat → ClassId) (dI : Nat → Nat → Nat) (dA : Nat → Nat), va_K (dC, dI) vwCl (tyA dA) s := by
  obtain ⟨c0, i0, k0⟩ := u_known (C := RJ0) (T := TJ0) (N := 4) (n := 4) hts inT_RJ0 (tb_at hts 919 (by decide +kernel))
  obtain ⟨c1, i1, k1⟩ := u_known (C := RJ4) (T := TJ4) (N := 4) (n := 4) hts inT_RJ4 (tb_at hts 242 (by decide +kernel))
  obtain ⟨c2, i2, k2⟩ := u_known (C := RJx00060) (T := TJx00060) (N := 6) (n := 6) hts inT_RJx00060 (tb_at hts 901 (by decide +kernel))
  obtain ⟨c3, i3, k3⟩ := u_known (C := RJx7c733) (T := TJx7c733) (N := 6) (n := 6) hts inT_RJx7c733 (tb_at hts 1136 (by decide +kernel))
  obtain ⟨c4, i4, k4⟩ := u_known (C := RX0) (T := TX0) (N := 4) (n := 4) hts inT_RX0 (tb_at hts 41 (by decide +kernel))
  obtain ⟨c5, i5, k5⟩ := u_known (C := RX1) (T := TX1) (N := 4) (n := 4) hts inT_RX1 (tb_at hts 88 (by decide +kernel))
  obtain ⟨c6, i6, k6⟩ := u_known (C := RX2) (T := TX2) (N := 7) (n := 7) hts inT_RX2 (tb_at hts 47 (by decide +kernel))
  obtain ⟨c7, i7, k7⟩ := u_known (C := RX3) (T := TX3) (N := 3) (n := 3) hts inT_RX3 (tb_at hts 184 (by decide +kernel))
  obtain ⟨c8, i8, k8⟩ := u_known (C := RX4) (T := TX4) (N := 5) (n := 5) hts inT_RX4 (tb_at hts 114 (by decide +kernel))
  obtain ⟨c9, i9, k9⟩ := u_known (C := RX5) (T := TX5) (N := 4) (n := 4) hts inT_RX5 (tb_at hts 142 (by decide +kernel))
  obtain ⟨c10, i10, k10⟩ := u_known (C := RX6) (T := TX6) (N := 8) (n := 8) hts inT_RX6 (tb_at hts 204 (by decide +kernel))
  obtain ⟨c11, i11, k11⟩ := u_known (C := RX7) (T := TX7) (N := 11) (n := 11) hts inT_RX7 (tb_at hts 33 (by decide +kernel))
  obtain ⟨a0, q0, m0, f0, g0, e0⟩ := Cond.arrayClass_spec (tb_at hts 85 (w := .arrayClass .char) (by decide +kernel))
  obtain ⟨a1, q1, m1, f1, g1, e1⟩ := Cond.arrayClass_spec (tb_at hts 86 (w := .arrayClass .int) (by decide +kernel))
  obtain ⟨a2, q2, m2, f2, g2, e2⟩ := Cond.arrayClass_spec (tb_at hts 273 (w := .arrayClass .byte) (by decide +kernel))
  obtain ⟨m3, a3, q3, f3, -, g3, e3, n3⟩ := Cond.arrayOver_spec (tb_at hts 190 (w := .arrayOver (.object "StoneChurn$Batch")) (by decide +kernel))
  refine ⟨fun k => if k = 0 then c0 else if k = 1 then c1 else if k = 2 then c2 else if k = 3 then c3 else if k = 4 then c4 else if k = 5 then c5 else if k = 6 then c6 else if k = 7 then c7 else if k = 8 then c8 else if k = 9 then c9 else if k = 10 then c10 else c11, fun k => if k = 0 then i0 else if k = 1 then i1 else if k = 2 then i2 else if k = 3 then i3 else if k = 4 then i4 else if k = 5 then i5 else if k = 6 then i6 else if k = 7 then i7 else if k = 8 then i8 else if k = 9 then i9 else if k = 10 then i10 else i11, fun k => if k = 0 then a0 else if k = 1 then a1 else if k = 2 then a2 else a3, ?_, ?_⟩
  · intro k q hq
    match k, hq with
    | 0, hq => cases hq; exact k0
    | 1, hq => cases hq; exact k1
    | 2, hq => cases hq; exact k2
    | 3, hq => cases hq; exact k3
    | 4, hq => cases hq; exact k4
    | 5, hq => cases hq; exact k5
    | 6, hq => cases hq; exact k6
    | 7, hq => cases hq; exact k7
    | 8, hq => cases hq; exact k8
    | 9, hq => cases hq; exact k9
    | 10, hq => cases hq; exact k10
    | 11, hq => cases hq; exact k11
    | k + 12, hq => simp [vwCl] at hq
  · intro k q hq
    match k, hq with
    | 0, hq => cases hq; exact ⟨fun n z => ⟨fun k h => (by cases h), q0, g0, m0, e0⟩, f0⟩
    | 1, hq => cases hq; exact ⟨fun n z => ⟨fun k h => (by cases h), q1, g1, m1, e1⟩, f1⟩
    | 2, hq => cases hq; exact ⟨fun n z => ⟨fun k h => (by cases h), q2, g2, m2, e2⟩, f2⟩
    | 3, hq => cases hq; exact ⟨fun n z => ⟨fun k h => (by cases h), q3, g3, m3, e3⟩, q3, m3, g3, e3, f3, n3⟩
    | k + 4, hq => simp [tyA] at hq
set_option maxRecDepth 100000 in
set_option maxHeartbeats 4000000 in
theorem ng_in : NG.all (fun w => decide (w ∈ lw_tbl)) = true := by decide +kernel
set_option maxRecDepth 100000 in
set_option maxHeartbeats 4000000 in
theorem nc_in : NCL.all (fun q => decide ((Cond.not (.castable q.1 q.2) : Cond) ∈ flatC GV)) = true := by decide +kernel
theorem st_N {args : Array Value} {s : State} (hts : ∀ w ∈ lw_tbl, w.before args s = true) : nW s := nW_of (args := args) fun w hw => hts w (of_decide_eq_true (List.all_eq_true.mp ng_in w hw))
theorem st_C {args : Array Value} {s : State} (hgv : GV.before args s = true) : nC s := fun q hq => va_Nc.of (flat_of_before _ hgv _ (of_decide_eq_true (List.all_eq_true.mp nc_in q hq)))
theorem st_B {args : Array Value} {s : State} (hts : ∀ w ∈ lw_tbl, w.before args s = true) : ∀ w ∈ BIG, w.before args s = true := by
  intro w hw
  rcases big_lw hw with h | h
  · exact hts w h
  · have h0 : (Cond.selects "java/lang/StringBuilder" ⟨"java/lang/AbstractStringBuilder", "isLatin1", "()Z"⟩ ⟨"java/lang/AbstractStringBuilder", "isLatin1", "()Z"⟩).before args s = true := tb_at hts 1186 (by decide +kernel)
    simp only [XSEL, List.mem_cons, List.not_mem_nil, or_false] at h
    rcases h with rfl | rfl
    · exact sel_up h0 rfl ⟨by decide +kernel, by decide +kernel⟩ (tb_at hts 1155 (by decide +kernel)) (tb_at hts 1156 (by decide +kernel))
    · exact sel_up h0 rfl ⟨by decide +kernel, by decide +kernel⟩ (tb_at hts 1159 (by decide +kernel)) (tb_at hts 1160 (by decide +kernel))
