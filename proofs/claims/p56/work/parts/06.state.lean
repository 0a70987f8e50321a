/-- StoneChurn$Churn: mass, temperature, smoothness, stress -/
abbrev SX1 : Type := (Int32 × Int32 × Int32 × Int32)
/-- StoneChurn$Cycle: kinds, minutes, levels, count, present, minutesDone, finished -/
abbrev SX2 : Type := (Ar × Ar × Ar × Int32 × Int32 × Int32 × Int32)
/-- StoneChurn$Table: masses, temperatures, smoothnesses, crackCounts, count -/
abbrev SX4 : Type := (Ar × Ar × Ar × Ar × Int32)
/-- StoneChurn$Tally: gradeCounts, minutes, loaded, graded -/
abbrev SX5 : Type := (Ar × Int32 × Int32 × Int32)
/-- StoneChurn$Batch: cycle, churn, table, tally -/
abbrev SX0 : Type := (SX2 × SX1 × SX4 × SX5)
/-- StoneChurn$Text: signs, length, position, words, kinds, numbers, levels, commandCount -/
abbrev SX6 : Type := (Ar × Int32 × Int32 × Ar × Ar × Ar × Ar × Int32)
def wX1 (dA : Nat → Nat) (a : Nat → Nat) (s : SX1) : va_W := [(a 0, .inr (5, [.int s.1, .int s.2.1, .int s.2.2.1, .int s.2.2.2]))]
def wX2 (dA : Nat → Nat) (a : Nat → Nat) (s : SX2) : va_W := [(a 0, .inr (6, [.ref (a 1), .ref (a 2), .ref (a 3), .int s.2.2.2.1, .int s.2.2.2.2.1, .int s.2.2.2.2.2.1, .int s.2.2.2.2.2.2])), (a 1, .inl (dA 0, 8, .inl s.1)), (a 2, .inl (dA 1, 8, .inl s.2.1)), (a 3, .inl (dA 1, 8, .inl s.2.2.1))]
def wX4 (dA : Nat → Nat) (a : Nat → Nat) (s : SX4) : va_W := [(a 0, .inr (8, [.ref (a 1), .ref (a 2), .ref (a 3), .ref (a 4), .int s.2.2.2.2])), (a 1, .inl (dA 1, 12, .inl s.1)), (a 2, .inl (dA 1, 12, .inl s.2.1)), (a 3, .inl (dA 1, 12, .inl s.2.2.1)), (a 4, .inl (dA 1, 12, .inl s.2.2.2.1))]
def wX5 (dA : Nat → Nat) (a : Nat → Nat) (s : SX5) : va_W := [(a 0, .inr (9, [.ref (a 1), .int s.2.1, .int s.2.2.1, .int s.2.2.2])), (a 1, .inl (dA 1, 5, .inl s.1))]
def wX0 (dA : Nat → Nat) (a : Nat → Nat) (s : SX0) : va_W := [(a 0, .inr (4, [.ref (a 1), .ref (a 5), .ref (a 6), .ref (a 11)])), (a 1, .inr (6, [.ref (a 2), .ref (a 3), .ref (a 4), .int s.1.2.2.2.1, .int s.1.2.2.2.2.1, .int s.1.2.2.2.2.2.1, .int s.1.2.2.2.2.2.2])), (a 2, .inl (dA 0, 8, .inl s.1.1)), (a 3, .inl (dA 1, 8, .inl s.1.2.1)), (a 4, .inl (dA 1, 8, .inl s.1.2.2.1)), (a 5, .inr (5, [.int s.2.1.1, .int s.2.1.2.1, .int s.2.1.2.2.1, .int s.2.1.2.2.2])), (a 6, .inr (8, [.ref (a 7), .ref (a 8), .ref (a 9), .ref (a 10), .int s.2.2.1.2.2.2.2])), (a 7, .inl (dA 1, 12, .inl s.2.2.1.1)), (a 8, .inl (dA 1, 12, .inl s.2.2.1.2.1)), (a 9, .inl (dA 1, 12, .inl s.2.2.1.2.2.1)), (a 10, .inl (dA 1, 12, .inl s.2.2.1.2.2.2.1)), (a 11, .inr (9, [.ref (a 12), .int s.2.2.2.2.1, .int s.2.2.2.2.2.1, .int s.2.2.2.2.2.2])), (a 12, .inl (dA 1, 5, .inl s.2.2.2.1))]
def wX6 (dA : Nat → Nat) (a : Nat → Nat) (s : SX6) : va_W := [(a 0, .inr (10, [.ref (a 1), .int s.2.1, .int s.2.2.1, .ref (a 2), .ref (a 3), .ref (a 4), .ref (a 5), .int s.2.2.2.2.2.2.2])), (a 1, .inl (dA 0, 60, .inl s.1)), (a 2, .inl (dA 1, 13, .inl s.2.2.2.1)), (a 3, .inl (dA 0, 13, .inl s.2.2.2.2.1)), (a 4, .inl (dA 1, 13, .inl s.2.2.2.2.2.1)), (a 5, .inl (dA 1, 13, .inl s.2.2.2.2.2.2.1))]
def bX1 {β : Type} (x : Option SX1) (k : Int32 → Int32 → Int32 → Int32 → Option β) : Option β := x.bind fun s => k s.1 s.2.1 s.2.2.1 s.2.2.2
theorem bX1_inv {β : Type} {x : Option SX1} {k : Int32 → Int32 → Int32 → Int32 → Option β} {r : β} (h : bX1 x k = some r) : ∃ a0 a1 a2 a3, x = some (a0, a1, a2, a3) ∧ k a0 a1 a2 a3 = some r := by
  obtain ⟨s, h1, h2⟩ := bd h
  exact ⟨_, _, _, _, h1, h2⟩
def bIX1 {β : Type} (x : Option (Int32 × SX1)) (k : Int32 → Int32 → Int32 → Int32 → Int32 → Option β) : Option β := x.bind fun q => k q.1 q.2.1 q.2.2.1 q.2.2.2.1 q.2.2.2.2
theorem bIX1_inv {β : Type} {x : Option (Int32 × SX1)} {k : Int32 → Int32 → Int32 → Int32 → Int32 → Option β} {r : β} (h : bIX1 x k = some r) : ∃ z a0 a1 a2 a3, x = some (z, (a0, a1, a2, a3)) ∧ k z a0 a1 a2 a3 = some r := by
  obtain ⟨s, h1, h2⟩ := bd h
  exact ⟨_, _, _, _, _, h1, h2⟩
def bX2 {β : Type} (x : Option SX2) (k : Ar → Ar → Ar → Int32 → Int32 → Int32 → Int32 → Option β) : Option β := x.bind fun s => k s.1 s.2.1 s.2.2.1 s.2.2.2.1 s.2.2.2.2.1 s.2.2.2.2.2.1 s.2.2.2.2.2.2
theorem bX2_inv {β : Type} {x : Option SX2} {k : Ar → Ar → Ar → Int32 → Int32 → Int32 → Int32 → Option β} {r : β} (h : bX2 x k = some r) : ∃ a0 a1 a2 a3 a4 a5 a6, x = some (a0, a1, a2, a3, a4, a5, a6) ∧ k a0 a1 a2 a3 a4 a5 a6 = some r := by
  obtain ⟨s, h1, h2⟩ := bd h
  exact ⟨_, _, _, _, _, _, _, h1, h2⟩
def bIX2 {β : Type} (x : Option (Int32 × SX2)) (k : Int32 → Ar → Ar → Ar → Int32 → Int32 → Int32 → Int32 → Option β) : Option β := x.bind fun q => k q.1 q.2.1 q.2.2.1 q.2.2.2.1 q.2.2.2.2.1 q.2.2.2.2.2.1 q.2.2.2.2.2.2.1 q.2.2.2.2.2.2.2
theorem bIX2_inv {β : Type} {x : Option (Int32 × SX2)} {k : Int32 → Ar → Ar → Ar → Int32 → Int32 → Int32 → Int32 → Option β} {r : β} (h : bIX2 x k = some r) : ∃ z a0 a1 a2 a3 a4 a5 a6, x = some (z, (a0, a1, a2, a3, a4, a5, a6)) ∧ k z a0 a1 a2 a3 a4 a5 a6 = some r := by
  obtain ⟨s, h1, h2⟩ := bd h
  exact ⟨_, _, _, _, _, _, _, _, h1, h2⟩
def bX4 {β : Type} (x : Option SX4) (k : Ar → Ar → Ar → Ar → Int32 → Option β) : Option β := x.bind fun s => k s.1 s.2.1 s.2.2.1 s.2.2.2.1 s.2.2.2.2
theorem bX4_inv {β : Type} {x : Option SX4} {k : Ar → Ar → Ar → Ar → Int32 → Option β} {r : β} (h : bX4 x k = some r) : ∃ a0 a1 a2 a3 a4, x = some (a0, a1, a2, a3, a4) ∧ k a0 a1 a2 a3 a4 = some r := by
  obtain ⟨s, h1, h2⟩ := bd h
  exact ⟨_, _, _, _, _, h1, h2⟩
def bIX4 {β : Type} (x : Option (Int32 × SX4)) (k : Int32 → Ar → Ar → Ar → Ar → Int32 → Option β) : Option β := x.bind fun q => k q.1 q.2.1 q.2.2.1 q.2.2.2.1 q.2.2.2.2.1 q.2.2.2.2.2
theorem bIX4_inv {β : Type} {x : Option (Int32 × SX4)} {k : Int32 → Ar → Ar → Ar → Ar → Int32 → Option β} {r : β} (h : bIX4 x k = some r) : ∃ z a0 a1 a2 a3 a4, x = some (z, (a0, a1, a2, a3, a4)) ∧ k z a0 a1 a2 a3 a4 = some r := by
  obtain ⟨s, h1, h2⟩ := bd h
  exact ⟨_, _, _, _, _, _, h1, h2⟩
def bX5 {β : Type} (x : Option SX5) (k : Ar → Int32 → Int32 → Int32 → Option β) : Option β := x.bind fun s => k s.1 s.2.1 s.2.2.1 s.2.2.2
theorem bX5_inv {β : Type} {x : Option SX5} {k : Ar → Int32 → Int32 → Int32 → Option β} {r : β} (h : bX5 x k = some r) : ∃ a0 a1 a2 a3, x = some (a0, a1, a2, a3) ∧ k a0 a1 a2 a3 = some r := by
  obtain ⟨s, h1, h2⟩ := bd h
  exact ⟨_, _, _, _, h1, h2⟩
def bIX5 {β : Type} (x : Option (Int32 × SX5)) (k : Int32 → Ar → Int32 → Int32 → Int32 → Option β) : Option β := x.bind fun q => k q.1 q.2.1 q.2.2.1 q.2.2.2.1 q.2.2.2.2
theorem bIX5_inv {β : Type} {x : Option (Int32 × SX5)} {k : Int32 → Ar → Int32 → Int32 → Int32 → Option β} {r : β} (h : bIX5 x k = some r) : ∃ z a0 a1 a2 a3, x = some (z, (a0, a1, a2, a3)) ∧ k z a0 a1 a2 a3 = some r := by
  obtain ⟨s, h1, h2⟩ := bd h
  exact ⟨_, _, _, _, _, h1, h2⟩
def bX0 {β : Type} (x : Option SX0) (k : Ar → Ar → Ar → Int32 → Int32 → Int32 → Int32 → Int32 → Int32 → Int32 → Int32 → Ar → Ar → Ar → Ar → Int32 → Ar → Int32 → Int32 → Int32 → Option β) : Option β := x.bind fun s => k s.1.1 s.1.2.1 s.1.2.2.1 s.1.2.2.2.1 s.1.2.2.2.2.1 s.1.2.2.2.2.2.1 s.1.2.2.2.2.2.2 s.2.1.1 s.2.1.2.1 s.2.1.2.2.1 s.2.1.2.2.2 s.2.2.1.1 s.2.2.1.2.1 s.2.2.1.2.2.1 s.2.2.1.2.2.2.1 s.2.2.1.2.2.2.2 s.2.2.2.1 s.2.2.2.2.1 s.2.2.2.2.2.1 s.2.2.2.2.2.2
theorem bX0_inv {β : Type} {x : Option SX0} {k : Ar → Ar → Ar → Int32 → Int32 → Int32 → Int32 → Int32 → Int32 → Int32 → Int32 → Ar → Ar → Ar → Ar → Int32 → Ar → Int32 → Int32 → Int32 → Option β} {r : β} (h : bX0 x k = some r) : ∃ a0 a1 a2 a3 a4 a5 a6 a7 a8 a9 a10 a11 a12 a13 a14 a15 a16 a17 a18 a19, x = some ((a0, a1, a2, a3, a4, a5, a6), (a7, a8, a9, a10), (a11, a12, a13, a14, a15), (a16, a17, a18, a19)) ∧ k a0 a1 a2 a3 a4 a5 a6 a7 a8 a9 a10 a11 a12 a13 a14 a15 a16 a17 a18 a19 = some r := by
  obtain ⟨s, h1, h2⟩ := bd h
  exact ⟨_, _, _, _, _, _, _, _, _, _, _, _, _, _, _, _, _, _, _, _, h1, h2⟩
def bIX0 {β : Type} (x : Option (Int32 × SX0)) (k : Int32 → Ar → Ar → Ar → Int32 → Int32 → Int32 → Int32 → Int32 → Int32 → Int32 → Int32 → Ar → Ar → Ar → Ar → Int32 → Ar → Int32 → Int32 → Int32 → Option β) : Option β := x.bind fun q => k q.1 q.2.1.1 q.2.1.2.1 q.2.1.2.2.1 q.2.1.2.2.2.1 q.2.1.2.2.2.2.1 q.2.1.2.2.2.2.2.1 q.2.1.2.2.2.2.2.2 q.2.2.1.1 q.2.2.1.2.1 q.2.2.1.2.2.1 q.2.2.1.2.2.2 q.2.2.2.1.1 q.2.2.2.1.2.1 q.2.2.2.1.2.2.1 q.2.2.2.1.2.2.2.1 q.2.2.2.1.2.2.2.2 q.2.2.2.2.1 q.2.2.2.2.2.1 q.2.2.2.2.2.2.1 q.2.2.2.2.2.2.2
theorem bIX0_inv {β : Type} {x : Option (Int32 × SX0)} {k : Int32 → Ar → Ar → Ar → Int32 → Int32 → Int32 → Int32 → Int32 → Int32 → Int32 → Int32 → Ar → Ar → Ar → Ar → Int32 → Ar → Int32 → Int32 → Int32 → Option β} {r : β} (h : bIX0 x k = some r) : ∃ z a0 a1 a2 a3 a4 a5 a6 a7 a8 a9 a10 a11 a12 a13 a14 a15 a16 a17 a18 a19, x = some (z, ((a0, a1, a2, a3, a4, a5, a6), (a7, a8, a9, a10), (a11, a12, a13, a14, a15), (a16, a17, a18, a19))) ∧ k z a0 a1 a2 a3 a4 a5 a6 a7 a8 a9 a10 a11 a12 a13 a14 a15 a16 a17 a18 a19 = some r := by
  obtain ⟨s, h1, h2⟩ := bd h
  exact ⟨_, _, _, _, _, _, _, _, _, _, _, _, _, _, _, _, _, _, _, _, _, h1, h2⟩
def bX6 {β : Type} (x : Option SX6) (k : Ar → Int32 → Int32 → Ar → Ar → Ar → Ar → Int32 → Option β) : Option β := x.bind fun s => k s.1 s.2.1 s.2.2.1 s.2.2.2.1 s.2.2.2.2.1 s.2.2.2.2.2.1 s.2.2.2.2.2.2.1 s.2.2.2.2.2.2.2
theorem bX6_inv {β : Type} {x : Option SX6} {k : Ar → Int32 → Int32 → Ar → Ar → Ar → Ar → Int32 → Option β} {r : β} (h : bX6 x k = some r) : ∃ a0 a1 a2 a3 a4 a5 a6 a7, x = some (a0, a1, a2, a3, a4, a5, a6, a7) ∧ k a0 a1 a2 a3 a4 a5 a6 a7 = some r := by
  obtain ⟨s, h1, h2⟩ := bd h
  exact ⟨_, _, _, _, _, _, _, _, h1, h2⟩
def bIX6 {β : Type} (x : Option (Int32 × SX6)) (k : Int32 → Ar → Int32 → Int32 → Ar → Ar → Ar → Ar → Int32 → Option β) : Option β := x.bind fun q => k q.1 q.2.1 q.2.2.1 q.2.2.2.1 q.2.2.2.2.1 q.2.2.2.2.2.1 q.2.2.2.2.2.2.1 q.2.2.2.2.2.2.2.1 q.2.2.2.2.2.2.2.2
theorem bIX6_inv {β : Type} {x : Option (Int32 × SX6)} {k : Int32 → Ar → Int32 → Int32 → Ar → Ar → Ar → Ar → Int32 → Option β} {r : β} (h : bIX6 x k = some r) : ∃ z a0 a1 a2 a3 a4 a5 a6 a7, x = some (z, (a0, a1, a2, a3, a4, a5, a6, a7)) ∧ k z a0 a1 a2 a3 a4 a5 a6 a7 = some r := by
  obtain ⟨s, h1, h2⟩ := bd h
  exact ⟨_, _, _, _, _, _, _, _, _, h1, h2⟩
theorem inB_X0 : ∀ w ∈ wsX00, w ∈ BIG := fun w h => big_in (List.all_eq_true.mp (show wsX00.all (fun w => decide (w ∈ lw_tbl)) = true by decide +kernel) w h |> of_decide_eq_true) (List.all_eq_true.mp (show wsX00.all goodWord = true by decide +kernel) w h)
theorem inB_X1 : ∀ w ∈ wsX10, w ∈ BIG := fun w h => big_in (List.all_eq_true.mp (show wsX10.all (fun w => decide (w ∈ lw_tbl)) = true by decide +kernel) w h |> of_decide_eq_true) (List.all_eq_true.mp (show wsX10.all goodWord = true by decide +kernel) w h)
theorem inB_X2 : ∀ w ∈ wsX20, w ∈ BIG := fun w h => big_in (List.all_eq_true.mp (show wsX20.all (fun w => decide (w ∈ lw_tbl)) = true by decide +kernel) w h |> of_decide_eq_true) (List.all_eq_true.mp (show wsX20.all goodWord = true by decide +kernel) w h)
theorem inB_X3 : ∀ w ∈ wsX30, w ∈ BIG := fun w h => big_in (List.all_eq_true.mp (show wsX30.all (fun w => decide (w ∈ lw_tbl)) = true by decide +kernel) w h |> of_decide_eq_true) (List.all_eq_true.mp (show wsX30.all goodWord = true by decide +kernel) w h)
theorem inB_X4 : ∀ w ∈ wsX40, w ∈ BIG := fun w h => big_in (List.all_eq_true.mp (show wsX40.all (fun w => decide (w ∈ lw_tbl)) = true by decide +kernel) w h |> of_decide_eq_true) (List.all_eq_true.mp (show wsX40.all goodWord = true by decide +kernel) w h)
theorem inB_X5 : ∀ w ∈ wsX50, w ∈ BIG := fun w h => big_in (List.all_eq_true.mp (show wsX50.all (fun w => decide (w ∈ lw_tbl)) = true by decide +kernel) w h |> of_decide_eq_true) (List.all_eq_true.mp (show wsX50.all goodWord = true by decide +kernel) w h)
theorem inB_X6 : ∀ w ∈ wsX60, w ∈ BIG := fun w h => big_in (List.all_eq_true.mp (show wsX60.all (fun w => decide (w ∈ lw_tbl)) = true by decide +kernel) w h |> of_decide_eq_true) (List.all_eq_true.mp (show wsX60.all goodWord = true by decide +kernel) w h)
theorem inB_X7 : ∀ w ∈ wsX70, w ∈ BIG := fun w h => big_in (List.all_eq_true.mp (show wsX70.all (fun w => decide (w ∈ lw_tbl)) = true by decide +kernel) w h |> of_decide_eq_true) (List.all_eq_true.mp (show wsX70.all goodWord = true by decide +kernel) w h)
theorem gi_t {big : List Cond} (hb : ∀ w ∈ BIG, w ∈ big) {c1 : Cond} {own : String} {idx : Nat} {y : MethodName} (h1 : (.methodLink own idx y : Cond) ∈ BIG) (h2 : (.static y : Cond) ∈ BIG) (h4 : (.initialized y.cls : Cond) ∈ BIG) (h5 : c1 ∈ BIG) : GoodIn big (va_wsS own idx y (c1 :: BIG)) := by
  have key : ∀ w ∈ va_wsS own idx y (c1 :: BIG), w ∈ BIG := by
    intro w hw
    simp only [va_wsS, List.cons_append, List.nil_append, List.mem_cons] at hw
    rcases hw with rfl | rfl | rfl | rfl | hw
    · exact h1
    · exact h2
    · exact h4
    · exact h5
    · exact hw
  exact fun w hw => ⟨hb w (key w hw), big_good (key w hw)⟩
theorem ti_ne {x y : Int32} {k : Int} (h : ¬ x = y) (hk : y.toInt = k) : x.toInt ≠ k := fun e => h (Int32.toInt_inj.mp (e.trans hk.symm))
def ws_J0_charAt_5068e : List Cond := .code yJ0_charAt_5068e cJ0_charAt_5068e 2 (some .char) :: BIG
theorem hd_J0_charAt_5068e : yJ0_charAt_5068e.cls = RJ0 ∧ yJ0_charAt_5068e.cls ≠ "java/lang/invoke/MethodHandle" ∧ yJ0_charAt_5068e.cls ≠ "java/lang/invoke/VarHandle" ∧ (parseMethodDescriptor yJ0_charAt_5068e.desc).map (fun d => d.parameters.length) = some 1 := by decide +kernel
theorem hd3_J0_charAt_5068e : yJ0_charAt_5068e.cls ≠ "java/lang/invoke/MethodHandle" ∧ yJ0_charAt_5068e.cls ≠ "java/lang/invoke/VarHandle" ∧ (parseMethodDescriptor yJ0_charAt_5068e.desc).map (fun d => d.parameters.length) = some 1 := hd_J0_charAt_5068e.2
def ws_J0_checkBoundsBeginEnd_23922 : List Cond := .code yJ0_checkBoundsBeginEnd_23922 cJ0_checkBoundsBeginEnd_23922 3 none :: BIG
theorem hd_J0_checkBoundsBeginEnd_23922 : yJ0_checkBoundsBeginEnd_23922.cls = RJ0 ∧ yJ0_checkBoundsBeginEnd_23922.cls ≠ "java/lang/invoke/MethodHandle" ∧ yJ0_checkBoundsBeginEnd_23922.cls ≠ "java/lang/invoke/VarHandle" ∧ (parseMethodDescriptor yJ0_checkBoundsBeginEnd_23922.desc).map (fun d => d.parameters.length) = some 3 := by decide +kernel
theorem hd3_J0_checkBoundsBeginEnd_23922 : yJ0_checkBoundsBeginEnd_23922.cls ≠ "java/lang/invoke/MethodHandle" ∧ yJ0_checkBoundsBeginEnd_23922.cls ≠ "java/lang/invoke/VarHandle" ∧ (parseMethodDescriptor yJ0_checkBoundsBeginEnd_23922.desc).map (fun d => d.parameters.length) = some 3 := hd_J0_checkBoundsBeginEnd_23922.2
def ws_J0_checkBoundsOffCount_cabcc : List Cond := .code yJ0_checkBoundsOffCount_cabcc cJ0_checkBoundsOffCount_cabcc 3 (some .int) :: BIG
theorem hd_J0_checkBoundsOffCount_cabcc : yJ0_checkBoundsOffCount_cabcc.cls = RJ0 ∧ yJ0_checkBoundsOffCount_cabcc.cls ≠ "java/lang/invoke/MethodHandle" ∧ yJ0_checkBoundsOffCount_cabcc.cls ≠ "java/lang/invoke/VarHandle" ∧ (parseMethodDescriptor yJ0_checkBoundsOffCount_cabcc.desc).map (fun d => d.parameters.length) = some 3 := by decide +kernel
theorem hd3_J0_checkBoundsOffCount_cabcc : yJ0_checkBoundsOffCount_cabcc.cls ≠ "java/lang/invoke/MethodHandle" ∧ yJ0_checkBoundsOffCount_cabcc.cls ≠ "java/lang/invoke/VarHandle" ∧ (parseMethodDescriptor yJ0_checkBoundsOffCount_cabcc.desc).map (fun d => d.parameters.length) = some 3 := hd_J0_checkBoundsOffCount_cabcc.2
def ws_J0_checkIndex_df160 : List Cond := .code yJ0_checkIndex_df160 cJ0_checkIndex_df160 2 none :: BIG
theorem hd_J0_checkIndex_df160 : yJ0_checkIndex_df160.cls = RJ0 ∧ yJ0_checkIndex_df160.cls ≠ "java/lang/invoke/MethodHandle" ∧ yJ0_checkIndex_df160.cls ≠ "java/lang/invoke/VarHandle" ∧ (parseMethodDescriptor yJ0_checkIndex_df160.desc).map (fun d => d.parameters.length) = some 2 := by decide +kernel
theorem hd3_J0_checkIndex_df160 : yJ0_checkIndex_df160.cls ≠ "java/lang/invoke/MethodHandle" ∧ yJ0_checkIndex_df160.cls ≠ "java/lang/invoke/VarHandle" ∧ (parseMethodDescriptor yJ0_checkIndex_df160.desc).map (fun d => d.parameters.length) = some 2 := hd_J0_checkIndex_df160.2
def ws_J0_coder_7d493 : List Cond := .code yJ0_coder_7d493 cJ0_coder_7d493 1 (some .byte) :: BIG
theorem hd_J0_coder_7d493 : yJ0_coder_7d493.cls = RJ0 ∧ yJ0_coder_7d493.cls ≠ "java/lang/invoke/MethodHandle" ∧ yJ0_coder_7d493.cls ≠ "java/lang/invoke/VarHandle" ∧ (parseMethodDescriptor yJ0_coder_7d493.desc).map (fun d => d.parameters.length) = some 0 := by decide +kernel
theorem hd3_J0_coder_7d493 : yJ0_coder_7d493.cls ≠ "java/lang/invoke/MethodHandle" ∧ yJ0_coder_7d493.cls ≠ "java/lang/invoke/VarHandle" ∧ (parseMethodDescriptor yJ0_coder_7d493.desc).map (fun d => d.parameters.length) = some 0 := hd_J0_coder_7d493.2
def ws_J0_getBytes_840e7 : List Cond := .code yJ0_getBytes_840e7 cJ0_getBytes_840e7 4 none :: BIG
theorem hd_J0_getBytes_840e7 : yJ0_getBytes_840e7.cls = RJ0 ∧ yJ0_getBytes_840e7.cls ≠ "java/lang/invoke/MethodHandle" ∧ yJ0_getBytes_840e7.cls ≠ "java/lang/invoke/VarHandle" ∧ (parseMethodDescriptor yJ0_getBytes_840e7.desc).map (fun d => d.parameters.length) = some 3 := by decide +kernel
theorem hd3_J0_getBytes_840e7 : yJ0_getBytes_840e7.cls ≠ "java/lang/invoke/MethodHandle" ∧ yJ0_getBytes_840e7.cls ≠ "java/lang/invoke/VarHandle" ∧ (parseMethodDescriptor yJ0_getBytes_840e7.desc).map (fun d => d.parameters.length) = some 3 := hd_J0_getBytes_840e7.2
def ws_J0_init_81219 : List Cond := .code yJ0_init_81219 cJ0_init_81219 2 none :: BIG
theorem hd_J0_init_81219 : yJ0_init_81219.cls = RJ0 ∧ yJ0_init_81219.cls ≠ "java/lang/invoke/MethodHandle" ∧ yJ0_init_81219.cls ≠ "java/lang/invoke/VarHandle" ∧ (parseMethodDescriptor yJ0_init_81219.desc).map (fun d => d.parameters.length) = some 1 := by decide +kernel
theorem hd3_J0_init_81219 : yJ0_init_81219.cls ≠ "java/lang/invoke/MethodHandle" ∧ yJ0_init_81219.cls ≠ "java/lang/invoke/VarHandle" ∧ (parseMethodDescriptor yJ0_init_81219.desc).map (fun d => d.parameters.length) = some 1 := hd_J0_init_81219.2
def ws_J0_init_db425 : List Cond := .code yJ0_init_db425 cJ0_init_db425 5 none :: BIG
theorem hd_J0_init_db425 : yJ0_init_db425.cls = RJ0 ∧ yJ0_init_db425.cls ≠ "java/lang/invoke/MethodHandle" ∧ yJ0_init_db425.cls ≠ "java/lang/invoke/VarHandle" ∧ (parseMethodDescriptor yJ0_init_db425.desc).map (fun d => d.parameters.length) = some 2 := by decide +kernel
theorem hd3_J0_init_db425 : yJ0_init_db425.cls ≠ "java/lang/invoke/MethodHandle" ∧ yJ0_init_db425.cls ≠ "java/lang/invoke/VarHandle" ∧ (parseMethodDescriptor yJ0_init_db425.desc).map (fun d => d.parameters.length) = some 2 := hd_J0_init_db425.2
def ws_J0_isLatin1_aae02 : List Cond := .code yJ0_isLatin1_aae02 cJ0_isLatin1_aae02 1 (some .boolean) :: BIG
theorem hd_J0_isLatin1_aae02 : yJ0_isLatin1_aae02.cls = RJ0 ∧ yJ0_isLatin1_aae02.cls ≠ "java/lang/invoke/MethodHandle" ∧ yJ0_isLatin1_aae02.cls ≠ "java/lang/invoke/VarHandle" ∧ (parseMethodDescriptor yJ0_isLatin1_aae02.desc).map (fun d => d.parameters.length) = some 0 := by decide +kernel
theorem hd3_J0_isLatin1_aae02 : yJ0_isLatin1_aae02.cls ≠ "java/lang/invoke/MethodHandle" ∧ yJ0_isLatin1_aae02.cls ≠ "java/lang/invoke/VarHandle" ∧ (parseMethodDescriptor yJ0_isLatin1_aae02.desc).map (fun d => d.parameters.length) = some 0 := hd_J0_isLatin1_aae02.2
def ws_J0_length_8abf5 : List Cond := .code yJ0_length_8abf5 cJ0_length_8abf5 1 (some .int) :: BIG
theorem hd_J0_length_8abf5 : yJ0_length_8abf5.cls = RJ0 ∧ yJ0_length_8abf5.cls ≠ "java/lang/invoke/MethodHandle" ∧ yJ0_length_8abf5.cls ≠ "java/lang/invoke/VarHandle" ∧ (parseMethodDescriptor yJ0_length_8abf5.desc).map (fun d => d.parameters.length) = some 0 := by decide +kernel
theorem hd3_J0_length_8abf5 : yJ0_length_8abf5.cls ≠ "java/lang/invoke/MethodHandle" ∧ yJ0_length_8abf5.cls ≠ "java/lang/invoke/VarHandle" ∧ (parseMethodDescriptor yJ0_length_8abf5.desc).map (fun d => d.parameters.length) = some 0 := hd_J0_length_8abf5.2
def ws_J1_canEncode_fc78d : List Cond := .code yJ1_canEncode_fc78d cJ1_canEncode_fc78d 1 (some .boolean) :: BIG
theorem hd_J1_canEncode_fc78d : yJ1_canEncode_fc78d.cls = RJ1 ∧ yJ1_canEncode_fc78d.cls ≠ "java/lang/invoke/MethodHandle" ∧ yJ1_canEncode_fc78d.cls ≠ "java/lang/invoke/VarHandle" ∧ (parseMethodDescriptor yJ1_canEncode_fc78d.desc).map (fun d => d.parameters.length) = some 1 := by decide +kernel
theorem hd3_J1_canEncode_fc78d : yJ1_canEncode_fc78d.cls ≠ "java/lang/invoke/MethodHandle" ∧ yJ1_canEncode_fc78d.cls ≠ "java/lang/invoke/VarHandle" ∧ (parseMethodDescriptor yJ1_canEncode_fc78d.desc).map (fun d => d.parameters.length) = some 1 := hd_J1_canEncode_fc78d.2
def ws_J1_charAt_3b067 : List Cond := .code yJ1_charAt_3b067 cJ1_charAt_3b067 2 (some .char) :: BIG
theorem hd_J1_charAt_3b067 : yJ1_charAt_3b067.cls = RJ1 ∧ yJ1_charAt_3b067.cls ≠ "java/lang/invoke/MethodHandle" ∧ yJ1_charAt_3b067.cls ≠ "java/lang/invoke/VarHandle" ∧ (parseMethodDescriptor yJ1_charAt_3b067.desc).map (fun d => d.parameters.length) = some 2 := by decide +kernel
theorem hd3_J1_charAt_3b067 : yJ1_charAt_3b067.cls ≠ "java/lang/invoke/MethodHandle" ∧ yJ1_charAt_3b067.cls ≠ "java/lang/invoke/VarHandle" ∧ (parseMethodDescriptor yJ1_charAt_3b067.desc).map (fun d => d.parameters.length) = some 2 := hd_J1_charAt_3b067.2
def ws_J1_fillNull_b72d1 : List Cond := .code yJ1_fillNull_b72d1 cJ1_fillNull_b72d1 3 none :: BIG
theorem hd_J1_fillNull_b72d1 : yJ1_fillNull_b72d1.cls = RJ1 ∧ yJ1_fillNull_b72d1.cls ≠ "java/lang/invoke/MethodHandle" ∧ yJ1_fillNull_b72d1.cls ≠ "java/lang/invoke/VarHandle" ∧ (parseMethodDescriptor yJ1_fillNull_b72d1.desc).map (fun d => d.parameters.length) = some 3 := by decide +kernel
theorem hd3_J1_fillNull_b72d1 : yJ1_fillNull_b72d1.cls ≠ "java/lang/invoke/MethodHandle" ∧ yJ1_fillNull_b72d1.cls ≠ "java/lang/invoke/VarHandle" ∧ (parseMethodDescriptor yJ1_fillNull_b72d1.desc).map (fun d => d.parameters.length) = some 3 := hd_J1_fillNull_b72d1.2
def ws_J1_inflate_0e8fd : List Cond := .code yJ1_inflate_0e8fd cJ1_inflate_0e8fd 5 none :: BIG
theorem hd_J1_inflate_0e8fd : yJ1_inflate_0e8fd.cls = RJ1 ∧ yJ1_inflate_0e8fd.cls ≠ "java/lang/invoke/MethodHandle" ∧ yJ1_inflate_0e8fd.cls ≠ "java/lang/invoke/VarHandle" ∧ (parseMethodDescriptor yJ1_inflate_0e8fd.desc).map (fun d => d.parameters.length) = some 5 := by decide +kernel
theorem hd3_J1_inflate_0e8fd : yJ1_inflate_0e8fd.cls ≠ "java/lang/invoke/MethodHandle" ∧ yJ1_inflate_0e8fd.cls ≠ "java/lang/invoke/VarHandle" ∧ (parseMethodDescriptor yJ1_inflate_0e8fd.desc).map (fun d => d.parameters.length) = some 5 := hd_J1_inflate_0e8fd.2
def ws_J3_checkFromIndexSize_8c36e : List Cond := .code yJ3_checkFromIndexSize_8c36e cJ3_checkFromIndexSize_8c36e 4 (some .int) :: BIG
theorem hd_J3_checkFromIndexSize_8c36e : yJ3_checkFromIndexSize_8c36e.cls = RJ3 ∧ yJ3_checkFromIndexSize_8c36e.cls ≠ "java/lang/invoke/MethodHandle" ∧ yJ3_checkFromIndexSize_8c36e.cls ≠ "java/lang/invoke/VarHandle" ∧ (parseMethodDescriptor yJ3_checkFromIndexSize_8c36e.desc).map (fun d => d.parameters.length) = some 4 := by decide +kernel
theorem hd3_J3_checkFromIndexSize_8c36e : yJ3_checkFromIndexSize_8c36e.cls ≠ "java/lang/invoke/MethodHandle" ∧ yJ3_checkFromIndexSize_8c36e.cls ≠ "java/lang/invoke/VarHandle" ∧ (parseMethodDescriptor yJ3_checkFromIndexSize_8c36e.desc).map (fun d => d.parameters.length) = some 4 := hd_J3_checkFromIndexSize_8c36e.2
def ws_J3_checkFromToIndex_8c36e : List Cond := .code yJ3_checkFromToIndex_8c36e cJ3_checkFromToIndex_8c36e 4 (some .int) :: BIG
theorem hd_J3_checkFromToIndex_8c36e : yJ3_checkFromToIndex_8c36e.cls = RJ3 ∧ yJ3_checkFromToIndex_8c36e.cls ≠ "java/lang/invoke/MethodHandle" ∧ yJ3_checkFromToIndex_8c36e.cls ≠ "java/lang/invoke/VarHandle" ∧ (parseMethodDescriptor yJ3_checkFromToIndex_8c36e.desc).map (fun d => d.parameters.length) = some 4 := by decide +kernel
theorem hd3_J3_checkFromToIndex_8c36e : yJ3_checkFromToIndex_8c36e.cls ≠ "java/lang/invoke/MethodHandle" ∧ yJ3_checkFromToIndex_8c36e.cls ≠ "java/lang/invoke/VarHandle" ∧ (parseMethodDescriptor yJ3_checkFromToIndex_8c36e.desc).map (fun d => d.parameters.length) = some 4 := hd_J3_checkFromToIndex_8c36e.2
def ws_J3_checkIndex_8e157 : List Cond := .code yJ3_checkIndex_8e157 cJ3_checkIndex_8e157 3 (some .int) :: BIG
theorem hd_J3_checkIndex_8e157 : yJ3_checkIndex_8e157.cls = RJ3 ∧ yJ3_checkIndex_8e157.cls ≠ "java/lang/invoke/MethodHandle" ∧ yJ3_checkIndex_8e157.cls ≠ "java/lang/invoke/VarHandle" ∧ (parseMethodDescriptor yJ3_checkIndex_8e157.desc).map (fun d => d.parameters.length) = some 3 := by decide +kernel
theorem hd3_J3_checkIndex_8e157 : yJ3_checkIndex_8e157.cls ≠ "java/lang/invoke/MethodHandle" ∧ yJ3_checkIndex_8e157.cls ≠ "java/lang/invoke/VarHandle" ∧ (parseMethodDescriptor yJ3_checkIndex_8e157.desc).map (fun d => d.parameters.length) = some 3 := hd_J3_checkIndex_8e157.2
def ws_J4_append_15ec4 : List Cond := .code yJ4_append_15ec4 cJ4_append_15ec4 2 (some (.object "java/lang/StringBuilder")) :: BIG
theorem hd_J4_append_15ec4 : yJ4_append_15ec4.cls = RJ4 ∧ yJ4_append_15ec4.cls ≠ "java/lang/invoke/MethodHandle" ∧ yJ4_append_15ec4.cls ≠ "java/lang/invoke/VarHandle" ∧ (parseMethodDescriptor yJ4_append_15ec4.desc).map (fun d => d.parameters.length) = some 1 := by decide +kernel
theorem hd3_J4_append_15ec4 : yJ4_append_15ec4.cls ≠ "java/lang/invoke/MethodHandle" ∧ yJ4_append_15ec4.cls ≠ "java/lang/invoke/VarHandle" ∧ (parseMethodDescriptor yJ4_append_15ec4.desc).map (fun d => d.parameters.length) = some 1 := hd_J4_append_15ec4.2
def ws_J4_append_bf812 : List Cond := .code yJ4_append_bf812 cJ4_append_bf812 2 (some (.object "java/lang/StringBuilder")) :: BIG
theorem hd_J4_append_bf812 : yJ4_append_bf812.cls = RJ4 ∧ yJ4_append_bf812.cls ≠ "java/lang/invoke/MethodHandle" ∧ yJ4_append_bf812.cls ≠ "java/lang/invoke/VarHandle" ∧ (parseMethodDescriptor yJ4_append_bf812.desc).map (fun d => d.parameters.length) = some 1 := by decide +kernel
theorem hd3_J4_append_bf812 : yJ4_append_bf812.cls ≠ "java/lang/invoke/MethodHandle" ∧ yJ4_append_bf812.cls ≠ "java/lang/invoke/VarHandle" ∧ (parseMethodDescriptor yJ4_append_bf812.desc).map (fun d => d.parameters.length) = some 1 := hd_J4_append_bf812.2
def ws_J4_append_cf468 : List Cond := .code yJ4_append_cf468 cJ4_append_cf468 2 (some (.object "java/lang/StringBuilder")) :: BIG
theorem hd_J4_append_cf468 : yJ4_append_cf468.cls = RJ4 ∧ yJ4_append_cf468.cls ≠ "java/lang/invoke/MethodHandle" ∧ yJ4_append_cf468.cls ≠ "java/lang/invoke/VarHandle" ∧ (parseMethodDescriptor yJ4_append_cf468.desc).map (fun d => d.parameters.length) = some 1 := by decide +kernel
theorem hd3_J4_append_cf468 : yJ4_append_cf468.cls ≠ "java/lang/invoke/MethodHandle" ∧ yJ4_append_cf468.cls ≠ "java/lang/invoke/VarHandle" ∧ (parseMethodDescriptor yJ4_append_cf468.desc).map (fun d => d.parameters.length) = some 1 := hd_J4_append_cf468.2
def ws_J4_init_da8c8 : List Cond := .code yJ4_init_da8c8 cJ4_init_da8c8 1 none :: BIG
theorem hd_J4_init_da8c8 : yJ4_init_da8c8.cls = RJ4 ∧ yJ4_init_da8c8.cls ≠ "java/lang/invoke/MethodHandle" ∧ yJ4_init_da8c8.cls ≠ "java/lang/invoke/VarHandle" ∧ (parseMethodDescriptor yJ4_init_da8c8.desc).map (fun d => d.parameters.length) = some 0 := by decide +kernel
theorem hd3_J4_init_da8c8 : yJ4_init_da8c8.cls ≠ "java/lang/invoke/MethodHandle" ∧ yJ4_init_da8c8.cls ≠ "java/lang/invoke/VarHandle" ∧ (parseMethodDescriptor yJ4_init_da8c8.desc).map (fun d => d.parameters.length) = some 0 := hd_J4_init_da8c8.2
def ws_J4_length_8abf5 : List Cond := .code yJ4_length_8abf5 cJ4_length_8abf5 1 (some .int) :: BIG
theorem hd_J4_length_8abf5 : yJ4_length_8abf5.cls = RJ4 ∧ yJ4_length_8abf5.cls ≠ "java/lang/invoke/MethodHandle" ∧ yJ4_length_8abf5.cls ≠ "java/lang/invoke/VarHandle" ∧ (parseMethodDescriptor yJ4_length_8abf5.desc).map (fun d => d.parameters.length) = some 0 := by decide +kernel
theorem hd3_J4_length_8abf5 : yJ4_length_8abf5.cls ≠ "java/lang/invoke/MethodHandle" ∧ yJ4_length_8abf5.cls ≠ "java/lang/invoke/VarHandle" ∧ (parseMethodDescriptor yJ4_length_8abf5.desc).map (fun d => d.parameters.length) = some 0 := hd_J4_length_8abf5.2
def ws_J4_setLength_d00df : List Cond := .code yJ4_setLength_d00df cJ4_setLength_d00df 2 none :: BIG
theorem hd_J4_setLength_d00df : yJ4_setLength_d00df.cls = RJ4 ∧ yJ4_setLength_d00df.cls ≠ "java/lang/invoke/MethodHandle" ∧ yJ4_setLength_d00df.cls ≠ "java/lang/invoke/VarHandle" ∧ (parseMethodDescriptor yJ4_setLength_d00df.desc).map (fun d => d.parameters.length) = some 1 := by decide +kernel
theorem hd3_J4_setLength_d00df : yJ4_setLength_d00df.cls ≠ "java/lang/invoke/MethodHandle" ∧ yJ4_setLength_d00df.cls ≠ "java/lang/invoke/VarHandle" ∧ (parseMethodDescriptor yJ4_setLength_d00df.desc).map (fun d => d.parameters.length) = some 1 := hd_J4_setLength_d00df.2
def ws_J4_toString_0e30d : List Cond := .code yJ4_toString_0e30d cJ4_toString_0e30d 1 (some (.object "java/lang/String")) :: BIG
theorem hd_J4_toString_0e30d : yJ4_toString_0e30d.cls = RJ4 ∧ yJ4_toString_0e30d.cls ≠ "java/lang/invoke/MethodHandle" ∧ yJ4_toString_0e30d.cls ≠ "java/lang/invoke/VarHandle" ∧ (parseMethodDescriptor yJ4_toString_0e30d.desc).map (fun d => d.parameters.length) = some 0 := by decide +kernel
theorem hd3_J4_toString_0e30d : yJ4_toString_0e30d.cls ≠ "java/lang/invoke/MethodHandle" ∧ yJ4_toString_0e30d.cls ≠ "java/lang/invoke/VarHandle" ∧ (parseMethodDescriptor yJ4_toString_0e30d.desc).map (fun d => d.parameters.length) = some 0 := hd_J4_toString_0e30d.2
def ws_J5_appendNull_278bc : List Cond := .code yJ5_appendNull_278bc cJ5_appendNull_278bc 3 (some (.object "java/lang/AbstractStringBuilder")) :: BIG
theorem hd_J5_appendNull_278bc : yJ5_appendNull_278bc.cls = RJ5 ∧ yJ5_appendNull_278bc.cls ≠ "java/lang/invoke/MethodHandle" ∧ yJ5_appendNull_278bc.cls ≠ "java/lang/invoke/VarHandle" ∧ (parseMethodDescriptor yJ5_appendNull_278bc.desc).map (fun d => d.parameters.length) = some 0 := by decide +kernel
theorem hd3_J5_appendNull_278bc : yJ5_appendNull_278bc.cls ≠ "java/lang/invoke/MethodHandle" ∧ yJ5_appendNull_278bc.cls ≠ "java/lang/invoke/VarHandle" ∧ (parseMethodDescriptor yJ5_appendNull_278bc.desc).map (fun d => d.parameters.length) = some 0 := hd_J5_appendNull_278bc.2
def ws_J5_append_3fe6f : List Cond := .code yJ5_append_3fe6f cJ5_append_3fe6f 2 (some (.object "java/lang/AbstractStringBuilder")) :: BIG
theorem hd_J5_append_3fe6f : yJ5_append_3fe6f.cls = RJ5 ∧ yJ5_append_3fe6f.cls ≠ "java/lang/invoke/MethodHandle" ∧ yJ5_append_3fe6f.cls ≠ "java/lang/invoke/VarHandle" ∧ (parseMethodDescriptor yJ5_append_3fe6f.desc).map (fun d => d.parameters.length) = some 1 := by decide +kernel
theorem hd3_J5_append_3fe6f : yJ5_append_3fe6f.cls ≠ "java/lang/invoke/MethodHandle" ∧ yJ5_append_3fe6f.cls ≠ "java/lang/invoke/VarHandle" ∧ (parseMethodDescriptor yJ5_append_3fe6f.desc).map (fun d => d.parameters.length) = some 1 := hd_J5_append_3fe6f.2
def ws_J5_append_c97b9 : List Cond := .code yJ5_append_c97b9 cJ5_append_c97b9 4 (some (.object "java/lang/AbstractStringBuilder")) :: BIG
theorem hd_J5_append_c97b9 : yJ5_append_c97b9.cls = RJ5 ∧ yJ5_append_c97b9.cls ≠ "java/lang/invoke/MethodHandle" ∧ yJ5_append_c97b9.cls ≠ "java/lang/invoke/VarHandle" ∧ (parseMethodDescriptor yJ5_append_c97b9.desc).map (fun d => d.parameters.length) = some 1 := by decide +kernel
theorem hd3_J5_append_c97b9 : yJ5_append_c97b9.cls ≠ "java/lang/invoke/MethodHandle" ∧ yJ5_append_c97b9.cls ≠ "java/lang/invoke/VarHandle" ∧ (parseMethodDescriptor yJ5_append_c97b9.desc).map (fun d => d.parameters.length) = some 1 := hd_J5_append_c97b9.2
def ws_J5_append_cf1ce : List Cond := .code yJ5_append_cf1ce cJ5_append_cf1ce 3 (some (.object "java/lang/AbstractStringBuilder")) :: BIG
theorem hd_J5_append_cf1ce : yJ5_append_cf1ce.cls = RJ5 ∧ yJ5_append_cf1ce.cls ≠ "java/lang/invoke/MethodHandle" ∧ yJ5_append_cf1ce.cls ≠ "java/lang/invoke/VarHandle" ∧ (parseMethodDescriptor yJ5_append_cf1ce.desc).map (fun d => d.parameters.length) = some 1 := by decide +kernel
theorem hd3_J5_append_cf1ce : yJ5_append_cf1ce.cls ≠ "java/lang/invoke/MethodHandle" ∧ yJ5_append_cf1ce.cls ≠ "java/lang/invoke/VarHandle" ∧ (parseMethodDescriptor yJ5_append_cf1ce.desc).map (fun d => d.parameters.length) = some 1 := hd_J5_append_cf1ce.2
def ws_J5_ensureCapacityInternal_d00df : List Cond := .code yJ5_ensureCapacityInternal_d00df cJ5_ensureCapacityInternal_d00df 3 none :: BIG
theorem hd_J5_ensureCapacityInternal_d00df : yJ5_ensureCapacityInternal_d00df.cls = RJ5 ∧ yJ5_ensureCapacityInternal_d00df.cls ≠ "java/lang/invoke/MethodHandle" ∧ yJ5_ensureCapacityInternal_d00df.cls ≠ "java/lang/invoke/VarHandle" ∧ (parseMethodDescriptor yJ5_ensureCapacityInternal_d00df.desc).map (fun d => d.parameters.length) = some 1 := by decide +kernel
theorem hd3_J5_ensureCapacityInternal_d00df : yJ5_ensureCapacityInternal_d00df.cls ≠ "java/lang/invoke/MethodHandle" ∧ yJ5_ensureCapacityInternal_d00df.cls ≠ "java/lang/invoke/VarHandle" ∧ (parseMethodDescriptor yJ5_ensureCapacityInternal_d00df.desc).map (fun d => d.parameters.length) = some 1 := hd_J5_ensureCapacityInternal_d00df.2
def ws_J5_getValue_6d5f1 : List Cond := .code yJ5_getValue_6d5f1 cJ5_getValue_6d5f1 1 (some (.array .byte)) :: BIG
theorem hd_J5_getValue_6d5f1 : yJ5_getValue_6d5f1.cls = RJ5 ∧ yJ5_getValue_6d5f1.cls ≠ "java/lang/invoke/MethodHandle" ∧ yJ5_getValue_6d5f1.cls ≠ "java/lang/invoke/VarHandle" ∧ (parseMethodDescriptor yJ5_getValue_6d5f1.desc).map (fun d => d.parameters.length) = some 0 := by decide +kernel
theorem hd3_J5_getValue_6d5f1 : yJ5_getValue_6d5f1.cls ≠ "java/lang/invoke/MethodHandle" ∧ yJ5_getValue_6d5f1.cls ≠ "java/lang/invoke/VarHandle" ∧ (parseMethodDescriptor yJ5_getValue_6d5f1.desc).map (fun d => d.parameters.length) = some 0 := hd_J5_getValue_6d5f1.2
def ws_J5_inflateIfNeededFor_a7421 : List Cond := .code yJ5_inflateIfNeededFor_a7421 cJ5_inflateIfNeededFor_a7421 2 none :: BIG
theorem hd_J5_inflateIfNeededFor_a7421 : yJ5_inflateIfNeededFor_a7421.cls = RJ5 ∧ yJ5_inflateIfNeededFor_a7421.cls ≠ "java/lang/invoke/MethodHandle" ∧ yJ5_inflateIfNeededFor_a7421.cls ≠ "java/lang/invoke/VarHandle" ∧ (parseMethodDescriptor yJ5_inflateIfNeededFor_a7421.desc).map (fun d => d.parameters.length) = some 1 := by decide +kernel
theorem hd3_J5_inflateIfNeededFor_a7421 : yJ5_inflateIfNeededFor_a7421.cls ≠ "java/lang/invoke/MethodHandle" ∧ yJ5_inflateIfNeededFor_a7421.cls ≠ "java/lang/invoke/VarHandle" ∧ (parseMethodDescriptor yJ5_inflateIfNeededFor_a7421.desc).map (fun d => d.parameters.length) = some 1 := hd_J5_inflateIfNeededFor_a7421.2
def ws_J5_inflate_da8c8 : List Cond := .code yJ5_inflate_da8c8 cJ5_inflate_da8c8 2 none :: BIG
theorem hd_J5_inflate_da8c8 : yJ5_inflate_da8c8.cls = RJ5 ∧ yJ5_inflate_da8c8.cls ≠ "java/lang/invoke/MethodHandle" ∧ yJ5_inflate_da8c8.cls ≠ "java/lang/invoke/VarHandle" ∧ (parseMethodDescriptor yJ5_inflate_da8c8.desc).map (fun d => d.parameters.length) = some 0 := by decide +kernel
theorem hd3_J5_inflate_da8c8 : yJ5_inflate_da8c8.cls ≠ "java/lang/invoke/MethodHandle" ∧ yJ5_inflate_da8c8.cls ≠ "java/lang/invoke/VarHandle" ∧ (parseMethodDescriptor yJ5_inflate_da8c8.desc).map (fun d => d.parameters.length) = some 0 := hd_J5_inflate_da8c8.2
def ws_J5_init_d00df : List Cond := .code yJ5_init_d00df cJ5_init_d00df 2 none :: BIG
theorem hd_J5_init_d00df : yJ5_init_d00df.cls = RJ5 ∧ yJ5_init_d00df.cls ≠ "java/lang/invoke/MethodHandle" ∧ yJ5_init_d00df.cls ≠ "java/lang/invoke/VarHandle" ∧ (parseMethodDescriptor yJ5_init_d00df.desc).map (fun d => d.parameters.length) = some 1 := by decide +kernel
theorem hd3_J5_init_d00df : yJ5_init_d00df.cls ≠ "java/lang/invoke/MethodHandle" ∧ yJ5_init_d00df.cls ≠ "java/lang/invoke/VarHandle" ∧ (parseMethodDescriptor yJ5_init_d00df.desc).map (fun d => d.parameters.length) = some 1 := hd_J5_init_d00df.2
def ws_J5_isLatin1_aae02 : List Cond := .code yJ5_isLatin1_aae02 cJ5_isLatin1_aae02 1 (some .boolean) :: BIG
theorem hd_J5_isLatin1_aae02 : yJ5_isLatin1_aae02.cls = RJ5 ∧ yJ5_isLatin1_aae02.cls ≠ "java/lang/invoke/MethodHandle" ∧ yJ5_isLatin1_aae02.cls ≠ "java/lang/invoke/VarHandle" ∧ (parseMethodDescriptor yJ5_isLatin1_aae02.desc).map (fun d => d.parameters.length) = some 0 := by decide +kernel
theorem hd3_J5_isLatin1_aae02 : yJ5_isLatin1_aae02.cls ≠ "java/lang/invoke/MethodHandle" ∧ yJ5_isLatin1_aae02.cls ≠ "java/lang/invoke/VarHandle" ∧ (parseMethodDescriptor yJ5_isLatin1_aae02.desc).map (fun d => d.parameters.length) = some 0 := hd_J5_isLatin1_aae02.2
def ws_J5_length_8abf5 : List Cond := .code yJ5_length_8abf5 cJ5_length_8abf5 1 (some .int) :: BIG
theorem hd_J5_length_8abf5 : yJ5_length_8abf5.cls = RJ5 ∧ yJ5_length_8abf5.cls ≠ "java/lang/invoke/MethodHandle" ∧ yJ5_length_8abf5.cls ≠ "java/lang/invoke/VarHandle" ∧ (parseMethodDescriptor yJ5_length_8abf5.desc).map (fun d => d.parameters.length) = some 0 := by decide +kernel
theorem hd3_J5_length_8abf5 : yJ5_length_8abf5.cls ≠ "java/lang/invoke/MethodHandle" ∧ yJ5_length_8abf5.cls ≠ "java/lang/invoke/VarHandle" ∧ (parseMethodDescriptor yJ5_length_8abf5.desc).map (fun d => d.parameters.length) = some 0 := hd_J5_length_8abf5.2
def ws_J5_newCapacity_0f7a4 : List Cond := .code yJ5_newCapacity_0f7a4 cJ5_newCapacity_0f7a4 6 (some .int) :: BIG
theorem hd_J5_newCapacity_0f7a4 : yJ5_newCapacity_0f7a4.cls = RJ5 ∧ yJ5_newCapacity_0f7a4.cls ≠ "java/lang/invoke/MethodHandle" ∧ yJ5_newCapacity_0f7a4.cls ≠ "java/lang/invoke/VarHandle" ∧ (parseMethodDescriptor yJ5_newCapacity_0f7a4.desc).map (fun d => d.parameters.length) = some 1 := by decide +kernel
theorem hd3_J5_newCapacity_0f7a4 : yJ5_newCapacity_0f7a4.cls ≠ "java/lang/invoke/MethodHandle" ∧ yJ5_newCapacity_0f7a4.cls ≠ "java/lang/invoke/VarHandle" ∧ (parseMethodDescriptor yJ5_newCapacity_0f7a4.desc).map (fun d => d.parameters.length) = some 1 := hd_J5_newCapacity_0f7a4.2
def ws_J5_putStringAt_47b60 : List Cond := .code yJ5_putStringAt_47b60 cJ5_putStringAt_47b60 3 none :: BIG
theorem hd_J5_putStringAt_47b60 : yJ5_putStringAt_47b60.cls = RJ5 ∧ yJ5_putStringAt_47b60.cls ≠ "java/lang/invoke/MethodHandle" ∧ yJ5_putStringAt_47b60.cls ≠ "java/lang/invoke/VarHandle" ∧ (parseMethodDescriptor yJ5_putStringAt_47b60.desc).map (fun d => d.parameters.length) = some 2 := by decide +kernel
theorem hd3_J5_putStringAt_47b60 : yJ5_putStringAt_47b60.cls ≠ "java/lang/invoke/MethodHandle" ∧ yJ5_putStringAt_47b60.cls ≠ "java/lang/invoke/VarHandle" ∧ (parseMethodDescriptor yJ5_putStringAt_47b60.desc).map (fun d => d.parameters.length) = some 2 := hd_J5_putStringAt_47b60.2
def ws_J5_setLength_d00df : List Cond := .code yJ5_setLength_d00df cJ5_setLength_d00df 2 none :: BIG
theorem hd_J5_setLength_d00df : yJ5_setLength_d00df.cls = RJ5 ∧ yJ5_setLength_d00df.cls ≠ "java/lang/invoke/MethodHandle" ∧ yJ5_setLength_d00df.cls ≠ "java/lang/invoke/VarHandle" ∧ (parseMethodDescriptor yJ5_setLength_d00df.desc).map (fun d => d.parameters.length) = some 1 := by decide +kernel
theorem hd3_J5_setLength_d00df : yJ5_setLength_d00df.cls ≠ "java/lang/invoke/MethodHandle" ∧ yJ5_setLength_d00df.cls ≠ "java/lang/invoke/VarHandle" ∧ (parseMethodDescriptor yJ5_setLength_d00df.desc).map (fun d => d.parameters.length) = some 1 := hd_J5_setLength_d00df.2
def ws_J6_getChars_ba4f3 : List Cond := .code yJ6_getChars_ba4f3 cJ6_getChars_ba4f3 7 (some .int) :: BIG
theorem hd_J6_getChars_ba4f3 : yJ6_getChars_ba4f3.cls = RJ6 ∧ yJ6_getChars_ba4f3.cls ≠ "java/lang/invoke/MethodHandle" ∧ yJ6_getChars_ba4f3.cls ≠ "java/lang/invoke/VarHandle" ∧ (parseMethodDescriptor yJ6_getChars_ba4f3.desc).map (fun d => d.parameters.length) = some 3 := by decide +kernel
theorem hd3_J6_getChars_ba4f3 : yJ6_getChars_ba4f3.cls ≠ "java/lang/invoke/MethodHandle" ∧ yJ6_getChars_ba4f3.cls ≠ "java/lang/invoke/VarHandle" ∧ (parseMethodDescriptor yJ6_getChars_ba4f3.desc).map (fun d => d.parameters.length) = some 3 := hd_J6_getChars_ba4f3.2
def ws_J6_stringSize_0f7a4 : List Cond := .code yJ6_stringSize_0f7a4 cJ6_stringSize_0f7a4 4 (some .int) :: BIG
theorem hd_J6_stringSize_0f7a4 : yJ6_stringSize_0f7a4.cls = RJ6 ∧ yJ6_stringSize_0f7a4.cls ≠ "java/lang/invoke/MethodHandle" ∧ yJ6_stringSize_0f7a4.cls ≠ "java/lang/invoke/VarHandle" ∧ (parseMethodDescriptor yJ6_stringSize_0f7a4.desc).map (fun d => d.parameters.length) = some 1 := by decide +kernel
theorem hd3_J6_stringSize_0f7a4 : yJ6_stringSize_0f7a4.cls ≠ "java/lang/invoke/MethodHandle" ∧ yJ6_stringSize_0f7a4.cls ≠ "java/lang/invoke/VarHandle" ∧ (parseMethodDescriptor yJ6_stringSize_0f7a4.desc).map (fun d => d.parameters.length) = some 1 := hd_J6_stringSize_0f7a4.2
def ws_J7_checkLength_df160 : List Cond := .code yJ7_checkLength_df160 cJ7_checkLength_df160 2 none :: BIG
theorem hd_J7_checkLength_df160 : yJ7_checkLength_df160.cls = RJ7 ∧ yJ7_checkLength_df160.cls ≠ "java/lang/invoke/MethodHandle" ∧ yJ7_checkLength_df160.cls ≠ "java/lang/invoke/VarHandle" ∧ (parseMethodDescriptor yJ7_checkLength_df160.desc).map (fun d => d.parameters.length) = some 2 := by decide +kernel
theorem hd3_J7_checkLength_df160 : yJ7_checkLength_df160.cls ≠ "java/lang/invoke/MethodHandle" ∧ yJ7_checkLength_df160.cls ≠ "java/lang/invoke/VarHandle" ∧ (parseMethodDescriptor yJ7_checkLength_df160.desc).map (fun d => d.parameters.length) = some 2 := hd_J7_checkLength_df160.2
def ws_J7_copyOfRangeByte_39247 : List Cond := .code yJ7_copyOfRangeByte_39247 cJ7_copyOfRangeByte_39247 5 (some (.array .byte)) :: BIG
theorem hd_J7_copyOfRangeByte_39247 : yJ7_copyOfRangeByte_39247.cls = RJ7 ∧ yJ7_copyOfRangeByte_39247.cls ≠ "java/lang/invoke/MethodHandle" ∧ yJ7_copyOfRangeByte_39247.cls ≠ "java/lang/invoke/VarHandle" ∧ (parseMethodDescriptor yJ7_copyOfRangeByte_39247.desc).map (fun d => d.parameters.length) = some 3 := by decide +kernel
theorem hd3_J7_copyOfRangeByte_39247 : yJ7_copyOfRangeByte_39247.cls ≠ "java/lang/invoke/MethodHandle" ∧ yJ7_copyOfRangeByte_39247.cls ≠ "java/lang/invoke/VarHandle" ∧ (parseMethodDescriptor yJ7_copyOfRangeByte_39247.desc).map (fun d => d.parameters.length) = some 3 := hd_J7_copyOfRangeByte_39247.2
def ws_J7_copyOfRange_39247 : List Cond := .code yJ7_copyOfRange_39247 cJ7_copyOfRange_39247 3 (some (.array .byte)) :: BIG
theorem hd_J7_copyOfRange_39247 : yJ7_copyOfRange_39247.cls = RJ7 ∧ yJ7_copyOfRange_39247.cls ≠ "java/lang/invoke/MethodHandle" ∧ yJ7_copyOfRange_39247.cls ≠ "java/lang/invoke/VarHandle" ∧ (parseMethodDescriptor yJ7_copyOfRange_39247.desc).map (fun d => d.parameters.length) = some 3 := by decide +kernel
theorem hd3_J7_copyOfRange_39247 : yJ7_copyOfRange_39247.cls ≠ "java/lang/invoke/MethodHandle" ∧ yJ7_copyOfRange_39247.cls ≠ "java/lang/invoke/VarHandle" ∧ (parseMethodDescriptor yJ7_copyOfRange_39247.desc).map (fun d => d.parameters.length) = some 3 := hd_J7_copyOfRange_39247.2
def ws_J7_copyOf_9075b : List Cond := .code yJ7_copyOf_9075b cJ7_copyOf_9075b 3 (some (.array .byte)) :: BIG
theorem hd_J7_copyOf_9075b : yJ7_copyOf_9075b.cls = RJ7 ∧ yJ7_copyOf_9075b.cls ≠ "java/lang/invoke/MethodHandle" ∧ yJ7_copyOf_9075b.cls ≠ "java/lang/invoke/VarHandle" ∧ (parseMethodDescriptor yJ7_copyOf_9075b.desc).map (fun d => d.parameters.length) = some 2 := by decide +kernel
theorem hd3_J7_copyOf_9075b : yJ7_copyOf_9075b.cls ≠ "java/lang/invoke/MethodHandle" ∧ yJ7_copyOf_9075b.cls ≠ "java/lang/invoke/VarHandle" ∧ (parseMethodDescriptor yJ7_copyOf_9075b.desc).map (fun d => d.parameters.length) = some 2 := hd_J7_copyOf_9075b.2
def ws_J7_fill_eb02e : List Cond := .code yJ7_fill_eb02e cJ7_fill_eb02e 5 none :: BIG
theorem hd_J7_fill_eb02e : yJ7_fill_eb02e.cls = RJ7 ∧ yJ7_fill_eb02e.cls ≠ "java/lang/invoke/MethodHandle" ∧ yJ7_fill_eb02e.cls ≠ "java/lang/invoke/VarHandle" ∧ (parseMethodDescriptor yJ7_fill_eb02e.desc).map (fun d => d.parameters.length) = some 4 := by decide +kernel
theorem hd3_J7_fill_eb02e : yJ7_fill_eb02e.cls ≠ "java/lang/invoke/MethodHandle" ∧ yJ7_fill_eb02e.cls ≠ "java/lang/invoke/VarHandle" ∧ (parseMethodDescriptor yJ7_fill_eb02e.desc).map (fun d => d.parameters.length) = some 4 := hd_J7_fill_eb02e.2
def ws_J7_rangeCheck_23922 : List Cond := .code yJ7_rangeCheck_23922 cJ7_rangeCheck_23922 3 none :: BIG
theorem hd_J7_rangeCheck_23922 : yJ7_rangeCheck_23922.cls = RJ7 ∧ yJ7_rangeCheck_23922.cls ≠ "java/lang/invoke/MethodHandle" ∧ yJ7_rangeCheck_23922.cls ≠ "java/lang/invoke/VarHandle" ∧ (parseMethodDescriptor yJ7_rangeCheck_23922.desc).map (fun d => d.parameters.length) = some 3 := by decide +kernel
theorem hd3_J7_rangeCheck_23922 : yJ7_rangeCheck_23922.cls ≠ "java/lang/invoke/MethodHandle" ∧ yJ7_rangeCheck_23922.cls ≠ "java/lang/invoke/VarHandle" ∧ (parseMethodDescriptor yJ7_rangeCheck_23922.desc).map (fun d => d.parameters.length) = some 3 := hd_J7_rangeCheck_23922.2
def ws_J8_hugeLength_7cf53 : List Cond := .code yJ8_hugeLength_7cf53 cJ8_hugeLength_7cf53 3 (some .int) :: BIG
theorem hd_J8_hugeLength_7cf53 : yJ8_hugeLength_7cf53.cls = RJ8 ∧ yJ8_hugeLength_7cf53.cls ≠ "java/lang/invoke/MethodHandle" ∧ yJ8_hugeLength_7cf53.cls ≠ "java/lang/invoke/VarHandle" ∧ (parseMethodDescriptor yJ8_hugeLength_7cf53.desc).map (fun d => d.parameters.length) = some 2 := by decide +kernel
theorem hd3_J8_hugeLength_7cf53 : yJ8_hugeLength_7cf53.cls ≠ "java/lang/invoke/MethodHandle" ∧ yJ8_hugeLength_7cf53.cls ≠ "java/lang/invoke/VarHandle" ∧ (parseMethodDescriptor yJ8_hugeLength_7cf53.desc).map (fun d => d.parameters.length) = some 2 := hd_J8_hugeLength_7cf53.2
def ws_J8_newLength_cabcc : List Cond := .code yJ8_newLength_cabcc cJ8_newLength_cabcc 4 (some .int) :: BIG
theorem hd_J8_newLength_cabcc : yJ8_newLength_cabcc.cls = RJ8 ∧ yJ8_newLength_cabcc.cls ≠ "java/lang/invoke/MethodHandle" ∧ yJ8_newLength_cabcc.cls ≠ "java/lang/invoke/VarHandle" ∧ (parseMethodDescriptor yJ8_newLength_cabcc.desc).map (fun d => d.parameters.length) = some 3 := by decide +kernel
theorem hd3_J8_newLength_cabcc : yJ8_newLength_cabcc.cls ≠ "java/lang/invoke/MethodHandle" ∧ yJ8_newLength_cabcc.cls ≠ "java/lang/invoke/VarHandle" ∧ (parseMethodDescriptor yJ8_newLength_cabcc.desc).map (fun d => d.parameters.length) = some 3 := hd_J8_newLength_cabcc.2
def ws_J9_max_7cf53 : List Cond := .code yJ9_max_7cf53 cJ9_max_7cf53 2 (some .int) :: BIG
theorem hd_J9_max_7cf53 : yJ9_max_7cf53.cls = RJ9 ∧ yJ9_max_7cf53.cls ≠ "java/lang/invoke/MethodHandle" ∧ yJ9_max_7cf53.cls ≠ "java/lang/invoke/VarHandle" ∧ (parseMethodDescriptor yJ9_max_7cf53.desc).map (fun d => d.parameters.length) = some 2 := by decide +kernel
theorem hd3_J9_max_7cf53 : yJ9_max_7cf53.cls ≠ "java/lang/invoke/MethodHandle" ∧ yJ9_max_7cf53.cls ≠ "java/lang/invoke/VarHandle" ∧ (parseMethodDescriptor yJ9_max_7cf53.desc).map (fun d => d.parameters.length) = some 2 := hd_J9_max_7cf53.2
def ws_J9_min_7cf53 : List Cond := .code yJ9_min_7cf53 cJ9_min_7cf53 2 (some .int) :: BIG
theorem hd_J9_min_7cf53 : yJ9_min_7cf53.cls = RJ9 ∧ yJ9_min_7cf53.cls ≠ "java/lang/invoke/MethodHandle" ∧ yJ9_min_7cf53.cls ≠ "java/lang/invoke/VarHandle" ∧ (parseMethodDescriptor yJ9_min_7cf53.desc).map (fun d => d.parameters.length) = some 2 := by decide +kernel
theorem hd3_J9_min_7cf53 : yJ9_min_7cf53.cls ≠ "java/lang/invoke/MethodHandle" ∧ yJ9_min_7cf53.cls ≠ "java/lang/invoke/VarHandle" ∧ (parseMethodDescriptor yJ9_min_7cf53.desc).map (fun d => d.parameters.length) = some 2 := hd_J9_min_7cf53.2
def ws_L_act : List Cond := .code yL_act cL_act 4 (some .int) :: BIG
theorem hd_L_act : yL_act.cls = RL ∧ yL_act.cls ≠ "java/lang/invoke/MethodHandle" ∧ yL_act.cls ≠ "java/lang/invoke/VarHandle" ∧ (parseMethodDescriptor yL_act.desc).map (fun d => d.parameters.length) = some 2 := by decide +kernel
theorem hd3_L_act : yL_act.cls ≠ "java/lang/invoke/MethodHandle" ∧ yL_act.cls ≠ "java/lang/invoke/VarHandle" ∧ (parseMethodDescriptor yL_act.desc).map (fun d => d.parameters.length) = some 2 := hd_L_act.2
def ws_L_addPhase : List Cond := .codeWith yL_addPhase cL_addPhase 6 (some .int) [(4, 13, 16, 17), (4, 13, 21, 19)] :: BIG
theorem hd_L_addPhase : yL_addPhase.cls = RL ∧ yL_addPhase.cls ≠ "java/lang/invoke/MethodHandle" ∧ yL_addPhase.cls ≠ "java/lang/invoke/VarHandle" ∧ (parseMethodDescriptor yL_addPhase.desc).map (fun d => d.parameters.length) = some 4 := by decide +kernel
theorem hd3_L_addPhase : yL_addPhase.cls ≠ "java/lang/invoke/MethodHandle" ∧ yL_addPhase.cls ≠ "java/lang/invoke/VarHandle" ∧ (parseMethodDescriptor yL_addPhase.desc).map (fun d => d.parameters.length) = some 4 := hd_L_addPhase.2
def ws_L_arePats : List Cond := .code yL_arePats cL_arePats 12 (some .boolean) :: BIG
theorem hd_L_arePats : yL_arePats.cls = RL ∧ yL_arePats.cls ≠ "java/lang/invoke/MethodHandle" ∧ yL_arePats.cls ≠ "java/lang/invoke/VarHandle" ∧ (parseMethodDescriptor yL_arePats.desc).map (fun d => d.parameters.length) = some 1 := by decide +kernel
theorem hd3_L_arePats : yL_arePats.cls ≠ "java/lang/invoke/MethodHandle" ∧ yL_arePats.cls ≠ "java/lang/invoke/VarHandle" ∧ (parseMethodDescriptor yL_arePats.desc).map (fun d => d.parameters.length) = some 1 := hd_L_arePats.2
def ws_L_cell : List Cond := .code yL_cell cL_cell 2 (some .int) :: BIG
theorem hd_L_cell : yL_cell.cls = RL ∧ yL_cell.cls ≠ "java/lang/invoke/MethodHandle" ∧ yL_cell.cls ≠ "java/lang/invoke/VarHandle" ∧ (parseMethodDescriptor yL_cell.desc).map (fun d => d.parameters.length) = some 2 := by decide +kernel
theorem hd3_L_cell : yL_cell.cls ≠ "java/lang/invoke/MethodHandle" ∧ yL_cell.cls ≠ "java/lang/invoke/VarHandle" ∧ (parseMethodDescriptor yL_cell.desc).map (fun d => d.parameters.length) = some 2 := hd_L_cell.2
def ws_L_coolShare : List Cond := .codeWith yL_coolShare cL_coolShare 3 (some .float) [(3, 8, 11, 67)] :: BIG
theorem hd_L_coolShare : yL_coolShare.cls = RL ∧ yL_coolShare.cls ≠ "java/lang/invoke/MethodHandle" ∧ yL_coolShare.cls ≠ "java/lang/invoke/VarHandle" ∧ (parseMethodDescriptor yL_coolShare.desc).map (fun d => d.parameters.length) = some 1 := by decide +kernel
theorem hd3_L_coolShare : yL_coolShare.cls ≠ "java/lang/invoke/MethodHandle" ∧ yL_coolShare.cls ≠ "java/lang/invoke/VarHandle" ∧ (parseMethodDescriptor yL_coolShare.desc).map (fun d => d.parameters.length) = some 1 := hd_L_coolShare.2
def ws_L_crush : List Cond := .codeWith yL_crush cL_crush 4 (some .int) [(3, 9, 12, 25), (3, 9, 16, 19)] :: BIG
theorem hd_L_crush : yL_crush.cls = RL ∧ yL_crush.cls ≠ "java/lang/invoke/MethodHandle" ∧ yL_crush.cls ≠ "java/lang/invoke/VarHandle" ∧ (parseMethodDescriptor yL_crush.desc).map (fun d => d.parameters.length) = some 2 := by decide +kernel
theorem hd3_L_crush : yL_crush.cls ≠ "java/lang/invoke/MethodHandle" ∧ yL_crush.cls ≠ "java/lang/invoke/VarHandle" ∧ (parseMethodDescriptor yL_crush.desc).map (fun d => d.parameters.length) = some 2 := hd_L_crush.2
def ws_L_denial : List Cond := .codeWith yL_denial cL_denial 3 (some .int) [(4, 9, 12, 53)] :: BIG
theorem hd_L_denial : yL_denial.cls = RL ∧ yL_denial.cls ≠ "java/lang/invoke/MethodHandle" ∧ yL_denial.cls ≠ "java/lang/invoke/VarHandle" ∧ (parseMethodDescriptor yL_denial.desc).map (fun d => d.parameters.length) = some 1 := by decide +kernel
theorem hd3_L_denial : yL_denial.cls ≠ "java/lang/invoke/MethodHandle" ∧ yL_denial.cls ≠ "java/lang/invoke/VarHandle" ∧ (parseMethodDescriptor yL_denial.desc).map (fun d => d.parameters.length) = some 1 := hd_L_denial.2
def ws_L_denialCause : List Cond := .codeWith yL_denialCause cL_denialCause 3 (some .int) [(4, 9, 12, 53)] :: BIG
theorem hd_L_denialCause : yL_denialCause.cls = RL ∧ yL_denialCause.cls ≠ "java/lang/invoke/MethodHandle" ∧ yL_denialCause.cls ≠ "java/lang/invoke/VarHandle" ∧ (parseMethodDescriptor yL_denialCause.desc).map (fun d => d.parameters.length) = some 1 := by decide +kernel
theorem hd3_L_denialCause : yL_denialCause.cls ≠ "java/lang/invoke/MethodHandle" ∧ yL_denialCause.cls ≠ "java/lang/invoke/VarHandle" ∧ (parseMethodDescriptor yL_denialCause.desc).map (fun d => d.parameters.length) = some 1 := hd_L_denialCause.2
def ws_L_digest : List Cond := .code yL_digest cL_digest 4 (some .long) :: BIG
theorem hd_L_digest : yL_digest.cls = RL ∧ yL_digest.cls ≠ "java/lang/invoke/MethodHandle" ∧ yL_digest.cls ≠ "java/lang/invoke/VarHandle" ∧ (parseMethodDescriptor yL_digest.desc).map (fun d => d.parameters.length) = some 1 := by decide +kernel
theorem hd3_L_digest : yL_digest.cls ≠ "java/lang/invoke/MethodHandle" ∧ yL_digest.cls ≠ "java/lang/invoke/VarHandle" ∧ (parseMethodDescriptor yL_digest.desc).map (fun d => d.parameters.length) = some 1 := hd_L_digest.2
def ws_L_execute : List Cond := .codeWith yL_execute cL_execute 3 (some .int) [(3, 8, 11, 17), (3, 8, 15, 19)] :: BIG
theorem hd_L_execute : yL_execute.cls = RL ∧ yL_execute.cls ≠ "java/lang/invoke/MethodHandle" ∧ yL_execute.cls ≠ "java/lang/invoke/VarHandle" ∧ (parseMethodDescriptor yL_execute.desc).map (fun d => d.parameters.length) = some 1 := by decide +kernel
theorem hd3_L_execute : yL_execute.cls ≠ "java/lang/invoke/MethodHandle" ∧ yL_execute.cls ≠ "java/lang/invoke/VarHandle" ∧ (parseMethodDescriptor yL_execute.desc).map (fun d => d.parameters.length) = some 1 := hd_L_execute.2
def ws_L_gradePat : List Cond := .codeWith yL_gradePat cL_gradePat 4 (some .int) [(3, 9, 12, 25), (3, 9, 16, 19)] :: BIG
theorem hd_L_gradePat : yL_gradePat.cls = RL ∧ yL_gradePat.cls ≠ "java/lang/invoke/MethodHandle" ∧ yL_gradePat.cls ≠ "java/lang/invoke/VarHandle" ∧ (parseMethodDescriptor yL_gradePat.desc).map (fun d => d.parameters.length) = some 2 := by decide +kernel
theorem hd3_L_gradePat : yL_gradePat.cls ≠ "java/lang/invoke/MethodHandle" ∧ yL_gradePat.cls ≠ "java/lang/invoke/VarHandle" ∧ (parseMethodDescriptor yL_gradePat.desc).map (fun d => d.parameters.length) = some 2 := hd_L_gradePat.2
def ws_L_isCycle : List Cond := .code yL_isCycle cL_isCycle 6 (some .boolean) :: BIG
theorem hd_L_isCycle : yL_isCycle.cls = RL ∧ yL_isCycle.cls ≠ "java/lang/invoke/MethodHandle" ∧ yL_isCycle.cls ≠ "java/lang/invoke/VarHandle" ∧ (parseMethodDescriptor yL_isCycle.desc).map (fun d => d.parameters.length) = some 1 := by decide +kernel
theorem hd3_L_isCycle : yL_isCycle.cls ≠ "java/lang/invoke/MethodHandle" ∧ yL_isCycle.cls ≠ "java/lang/invoke/VarHandle" ∧ (parseMethodDescriptor yL_isCycle.desc).map (fun d => d.parameters.length) = some 1 := hd_L_isCycle.2
def ws_L_isFit : List Cond := .code yL_isFit cL_isFit 1 (some .boolean) :: BIG
theorem hd_L_isFit : yL_isFit.cls = RL ∧ yL_isFit.cls ≠ "java/lang/invoke/MethodHandle" ∧ yL_isFit.cls ≠ "java/lang/invoke/VarHandle" ∧ (parseMethodDescriptor yL_isFit.desc).map (fun d => d.parameters.length) = some 1 := by decide +kernel
theorem hd3_L_isFit : yL_isFit.cls ≠ "java/lang/invoke/MethodHandle" ∧ yL_isFit.cls ≠ "java/lang/invoke/VarHandle" ∧ (parseMethodDescriptor yL_isFit.desc).map (fun d => d.parameters.length) = some 1 := hd_L_isFit.2
def ws_L_isForetold : List Cond := .code yL_isForetold cL_isForetold 11 (some .boolean) :: BIG
theorem hd_L_isForetold : yL_isForetold.cls = RL ∧ yL_isForetold.cls ≠ "java/lang/invoke/MethodHandle" ∧ yL_isForetold.cls ≠ "java/lang/invoke/VarHandle" ∧ (parseMethodDescriptor yL_isForetold.desc).map (fun d => d.parameters.length) = some 2 := by decide +kernel
theorem hd3_L_isForetold : yL_isForetold.cls ≠ "java/lang/invoke/MethodHandle" ∧ yL_isForetold.cls ≠ "java/lang/invoke/VarHandle" ∧ (parseMethodDescriptor yL_isForetold.desc).map (fun d => d.parameters.length) = some 2 := hd_L_isForetold.2
def ws_L_isPressed : List Cond := .code yL_isPressed cL_isPressed 13 (some .boolean) :: BIG
theorem hd_L_isPressed : yL_isPressed.cls = RL ∧ yL_isPressed.cls ≠ "java/lang/invoke/MethodHandle" ∧ yL_isPressed.cls ≠ "java/lang/invoke/VarHandle" ∧ (parseMethodDescriptor yL_isPressed.desc).map (fun d => d.parameters.length) = some 2 := by decide +kernel
theorem hd3_L_isPressed : yL_isPressed.cls ≠ "java/lang/invoke/MethodHandle" ∧ yL_isPressed.cls ≠ "java/lang/invoke/VarHandle" ∧ (parseMethodDescriptor yL_isPressed.desc).map (fun d => d.parameters.length) = some 2 := hd_L_isPressed.2
def ws_L_load : List Cond := .codeWith yL_load cL_load 4 (some .int) [(3, 9, 12, 17), (3, 9, 16, 19)] :: BIG
theorem hd_L_load : yL_load.cls = RL ∧ yL_load.cls ≠ "java/lang/invoke/MethodHandle" ∧ yL_load.cls ≠ "java/lang/invoke/VarHandle" ∧ (parseMethodDescriptor yL_load.desc).map (fun d => d.parameters.length) = some 2 := by decide +kernel
theorem hd3_L_load : yL_load.cls ≠ "java/lang/invoke/MethodHandle" ∧ yL_load.cls ≠ "java/lang/invoke/VarHandle" ∧ (parseMethodDescriptor yL_load.desc).map (fun d => d.parameters.length) = some 2 := hd_L_load.2
def ws_L_meanFirmness : List Cond := .codeWith yL_meanFirmness cL_meanFirmness 4 (some .double) [(4, 9, 12, 67)] :: BIG
theorem hd_L_meanFirmness : yL_meanFirmness.cls = RL ∧ yL_meanFirmness.cls ≠ "java/lang/invoke/MethodHandle" ∧ yL_meanFirmness.cls ≠ "java/lang/invoke/VarHandle" ∧ (parseMethodDescriptor yL_meanFirmness.desc).map (fun d => d.parameters.length) = some 1 := by decide +kernel
theorem hd3_L_meanFirmness : yL_meanFirmness.cls ≠ "java/lang/invoke/MethodHandle" ∧ yL_meanFirmness.cls ≠ "java/lang/invoke/VarHandle" ∧ (parseMethodDescriptor yL_meanFirmness.desc).map (fun d => d.parameters.length) = some 1 := hd_L_meanFirmness.2
def ws_L_nextCool : List Cond := .codeWith yL_nextCool cL_nextCool 4 (some .int) [(4, 10, 13, 25), (4, 10, 18, 53)] :: BIG
theorem hd_L_nextCool : yL_nextCool.cls = RL ∧ yL_nextCool.cls ≠ "java/lang/invoke/MethodHandle" ∧ yL_nextCool.cls ≠ "java/lang/invoke/VarHandle" ∧ (parseMethodDescriptor yL_nextCool.desc).map (fun d => d.parameters.length) = some 2 := by decide +kernel
theorem hd3_L_nextCool : yL_nextCool.cls ≠ "java/lang/invoke/MethodHandle" ∧ yL_nextCool.cls ≠ "java/lang/invoke/VarHandle" ∧ (parseMethodDescriptor yL_nextCool.desc).map (fun d => d.parameters.length) = some 2 := hd_L_nextCool.2
def ws_L_patByFirmness : List Cond := .codeWith yL_patByFirmness cL_patByFirmness 4 (some .int) [(4, 10, 13, 53)] :: BIG
theorem hd_L_patByFirmness : yL_patByFirmness.cls = RL ∧ yL_patByFirmness.cls ≠ "java/lang/invoke/MethodHandle" ∧ yL_patByFirmness.cls ≠ "java/lang/invoke/VarHandle" ∧ (parseMethodDescriptor yL_patByFirmness.desc).map (fun d => d.parameters.length) = some 2 := by decide +kernel
theorem hd3_L_patByFirmness : yL_patByFirmness.cls ≠ "java/lang/invoke/MethodHandle" ∧ yL_patByFirmness.cls ≠ "java/lang/invoke/VarHandle" ∧ (parseMethodDescriptor yL_patByFirmness.desc).map (fun d => d.parameters.length) = some 2 := hd_L_patByFirmness.2
def ws_L_presentPhase : List Cond := .codeWith yL_presentPhase cL_presentPhase 3 (some .int) [(4, 9, 12, 53)] :: BIG
theorem hd_L_presentPhase : yL_presentPhase.cls = RL ∧ yL_presentPhase.cls ≠ "java/lang/invoke/MethodHandle" ∧ yL_presentPhase.cls ≠ "java/lang/invoke/VarHandle" ∧ (parseMethodDescriptor yL_presentPhase.desc).map (fun d => d.parameters.length) = some 1 := by decide +kernel
theorem hd3_L_presentPhase : yL_presentPhase.cls ≠ "java/lang/invoke/MethodHandle" ∧ yL_presentPhase.cls ≠ "java/lang/invoke/VarHandle" ∧ (parseMethodDescriptor yL_presentPhase.desc).map (fun d => d.parameters.length) = some 1 := hd_L_presentPhase.2
def ws_L_press : List Cond := .codeWith yL_press cL_press 4 (some .int) [(3, 9, 12, 17), (3, 9, 16, 19)] :: BIG
theorem hd_L_press : yL_press.cls = RL ∧ yL_press.cls ≠ "java/lang/invoke/MethodHandle" ∧ yL_press.cls ≠ "java/lang/invoke/VarHandle" ∧ (parseMethodDescriptor yL_press.desc).map (fun d => d.parameters.length) = some 2 := by decide +kernel
theorem hd3_L_press : yL_press.cls ≠ "java/lang/invoke/MethodHandle" ∧ yL_press.cls ≠ "java/lang/invoke/VarHandle" ∧ (parseMethodDescriptor yL_press.desc).map (fun d => d.parameters.length) = some 2 := hd_L_press.2
def ws_L_put : List Cond := .codeWith yL_put cL_put 3 (some .boolean) [(0, 6, 9, 86)] :: BIG
theorem hd_L_put : yL_put.cls = RL ∧ yL_put.cls ≠ "java/lang/invoke/MethodHandle" ∧ yL_put.cls ≠ "java/lang/invoke/VarHandle" ∧ (parseMethodDescriptor yL_put.desc).map (fun d => d.parameters.length) = some 2 := by decide +kernel
theorem hd3_L_put : yL_put.cls ≠ "java/lang/invoke/MethodHandle" ∧ yL_put.cls ≠ "java/lang/invoke/VarHandle" ∧ (parseMethodDescriptor yL_put.desc).map (fun d => d.parameters.length) = some 2 := hd_L_put.2
def ws_L_removePhase : List Cond := .codeWith yL_removePhase cL_removePhase 4 (some .int) [(3, 9, 12, 25), (3, 9, 16, 19)] :: BIG
theorem hd_L_removePhase : yL_removePhase.cls = RL ∧ yL_removePhase.cls ≠ "java/lang/invoke/MethodHandle" ∧ yL_removePhase.cls ≠ "java/lang/invoke/VarHandle" ∧ (parseMethodDescriptor yL_removePhase.desc).map (fun d => d.parameters.length) = some 2 := by decide +kernel
theorem hd3_L_removePhase : yL_removePhase.cls ≠ "java/lang/invoke/MethodHandle" ∧ yL_removePhase.cls ≠ "java/lang/invoke/VarHandle" ∧ (parseMethodDescriptor yL_removePhase.desc).map (fun d => d.parameters.length) = some 2 := hd_L_removePhase.2
def ws_L_restore : List Cond := .codeWith yL_restore cL_restore 3 (some .int) [(3, 8, 11, 86)] :: BIG
theorem hd_L_restore : yL_restore.cls = RL ∧ yL_restore.cls ≠ "java/lang/invoke/MethodHandle" ∧ yL_restore.cls ≠ "java/lang/invoke/VarHandle" ∧ (parseMethodDescriptor yL_restore.desc).map (fun d => d.parameters.length) = some 1 := by decide +kernel
theorem hd3_L_restore : yL_restore.cls ≠ "java/lang/invoke/MethodHandle" ∧ yL_restore.cls ≠ "java/lang/invoke/VarHandle" ∧ (parseMethodDescriptor yL_restore.desc).map (fun d => d.parameters.length) = some 1 := hd_L_restore.2
def ws_L_run : List Cond := .codeWith yL_run cL_run 4 (some .int) [(3, 9, 12, 17)] :: BIG
theorem hd_L_run : yL_run.cls = RL ∧ yL_run.cls ≠ "java/lang/invoke/MethodHandle" ∧ yL_run.cls ≠ "java/lang/invoke/VarHandle" ∧ (parseMethodDescriptor yL_run.desc).map (fun d => d.parameters.length) = some 2 := by decide +kernel
theorem hd3_L_run : yL_run.cls ≠ "java/lang/invoke/MethodHandle" ∧ yL_run.cls ≠ "java/lang/invoke/VarHandle" ∧ (parseMethodDescriptor yL_run.desc).map (fun d => d.parameters.length) = some 2 := hd_L_run.2
def ws_L_start : List Cond := .codeWith yL_start cL_start 3 (some .int) [(3, 8, 11, 19)] :: BIG
theorem hd_L_start : yL_start.cls = RL ∧ yL_start.cls ≠ "java/lang/invoke/MethodHandle" ∧ yL_start.cls ≠ "java/lang/invoke/VarHandle" ∧ (parseMethodDescriptor yL_start.desc).map (fun d => d.parameters.length) = some 1 := by decide +kernel
theorem hd3_L_start : yL_start.cls ≠ "java/lang/invoke/MethodHandle" ∧ yL_start.cls ≠ "java/lang/invoke/VarHandle" ∧ (parseMethodDescriptor yL_start.desc).map (fun d => d.parameters.length) = some 1 := hd_L_start.2
def ws_L_stop : List Cond := .codeWith yL_stop cL_stop 3 (some .int) [(3, 8, 11, 19)] :: BIG
theorem hd_L_stop : yL_stop.cls = RL ∧ yL_stop.cls ≠ "java/lang/invoke/MethodHandle" ∧ yL_stop.cls ≠ "java/lang/invoke/VarHandle" ∧ (parseMethodDescriptor yL_stop.desc).map (fun d => d.parameters.length) = some 1 := by decide +kernel
theorem hd3_L_stop : yL_stop.cls ≠ "java/lang/invoke/MethodHandle" ∧ yL_stop.cls ≠ "java/lang/invoke/VarHandle" ∧ (parseMethodDescriptor yL_stop.desc).map (fun d => d.parameters.length) = some 1 := hd_L_stop.2
def ws_L_undo : List Cond := .codeWith yL_undo cL_undo 3 (some .int) [(3, 8, 11, 86)] :: BIG
theorem hd_L_undo : yL_undo.cls = RL ∧ yL_undo.cls ≠ "java/lang/invoke/MethodHandle" ∧ yL_undo.cls ≠ "java/lang/invoke/VarHandle" ∧ (parseMethodDescriptor yL_undo.desc).map (fun d => d.parameters.length) = some 1 := by decide +kernel
theorem hd3_L_undo : yL_undo.cls ≠ "java/lang/invoke/MethodHandle" ∧ yL_undo.cls ≠ "java/lang/invoke/VarHandle" ∧ (parseMethodDescriptor yL_undo.desc).map (fun d => d.parameters.length) = some 1 := hd_L_undo.2
def ws_L_write : List Cond := .code yL_write cL_write 3 (some (.object "StoneChurn")) :: BIG
theorem hd_L_write : yL_write.cls = RL ∧ yL_write.cls ≠ "java/lang/invoke/MethodHandle" ∧ yL_write.cls ≠ "java/lang/invoke/VarHandle" ∧ (parseMethodDescriptor yL_write.desc).map (fun d => d.parameters.length) = some 2 := by decide +kernel
theorem hd3_L_write : yL_write.cls ≠ "java/lang/invoke/MethodHandle" ∧ yL_write.cls ≠ "java/lang/invoke/VarHandle" ∧ (parseMethodDescriptor yL_write.desc).map (fun d => d.parameters.length) = some 2 := hd_L_write.2
def ws_X0_appendPhase : List Cond := .code yX0_appendPhase cX0_appendPhase 4 (some .int) :: BIG
theorem hd_X0_appendPhase : yX0_appendPhase.cls = RX0 ∧ yX0_appendPhase.cls ≠ "java/lang/invoke/MethodHandle" ∧ yX0_appendPhase.cls ≠ "java/lang/invoke/VarHandle" ∧ (parseMethodDescriptor yX0_appendPhase.desc).map (fun d => d.parameters.length) = some 3 := by decide +kernel
theorem hd3_X0_appendPhase : yX0_appendPhase.cls ≠ "java/lang/invoke/MethodHandle" ∧ yX0_appendPhase.cls ≠ "java/lang/invoke/VarHandle" ∧ (parseMethodDescriptor yX0_appendPhase.desc).map (fun d => d.parameters.length) = some 3 := hd_X0_appendPhase.2
def ws_X0_copyFrom : List Cond := .code yX0_copyFrom cX0_copyFrom 2 none :: BIG
theorem hd_X0_copyFrom : yX0_copyFrom.cls = RX0 ∧ yX0_copyFrom.cls ≠ "java/lang/invoke/MethodHandle" ∧ yX0_copyFrom.cls ≠ "java/lang/invoke/VarHandle" ∧ (parseMethodDescriptor yX0_copyFrom.desc).map (fun d => d.parameters.length) = some 1 := by decide +kernel
theorem hd3_X0_copyFrom : yX0_copyFrom.cls ≠ "java/lang/invoke/MethodHandle" ∧ yX0_copyFrom.cls ≠ "java/lang/invoke/VarHandle" ∧ (parseMethodDescriptor yX0_copyFrom.desc).map (fun d => d.parameters.length) = some 1 := hd_X0_copyFrom.2
def ws_X0_crushPat : List Cond := .code yX0_crushPat cX0_crushPat 2 (some .int) :: BIG
theorem hd_X0_crushPat : yX0_crushPat.cls = RX0 ∧ yX0_crushPat.cls ≠ "java/lang/invoke/MethodHandle" ∧ yX0_crushPat.cls ≠ "java/lang/invoke/VarHandle" ∧ (parseMethodDescriptor yX0_crushPat.desc).map (fun d => d.parameters.length) = some 1 := by decide +kernel
theorem hd3_X0_crushPat : yX0_crushPat.cls ≠ "java/lang/invoke/MethodHandle" ∧ yX0_crushPat.cls ≠ "java/lang/invoke/VarHandle" ∧ (parseMethodDescriptor yX0_crushPat.desc).map (fun d => d.parameters.length) = some 1 := hd_X0_crushPat.2
def ws_X0_cutPhase : List Cond := .code yX0_cutPhase cX0_cutPhase 2 (some .int) :: BIG
theorem hd_X0_cutPhase : yX0_cutPhase.cls = RX0 ∧ yX0_cutPhase.cls ≠ "java/lang/invoke/MethodHandle" ∧ yX0_cutPhase.cls ≠ "java/lang/invoke/VarHandle" ∧ (parseMethodDescriptor yX0_cutPhase.desc).map (fun d => d.parameters.length) = some 1 := by decide +kernel
theorem hd3_X0_cutPhase : yX0_cutPhase.cls ≠ "java/lang/invoke/MethodHandle" ∧ yX0_cutPhase.cls ≠ "java/lang/invoke/VarHandle" ∧ (parseMethodDescriptor yX0_cutPhase.desc).map (fun d => d.parameters.length) = some 1 := hd_X0_cutPhase.2
def ws_X0_detailOf : List Cond := .code yX0_detailOf cX0_detailOf 3 (some .int) :: BIG
theorem hd_X0_detailOf : yX0_detailOf.cls = RX0 ∧ yX0_detailOf.cls ≠ "java/lang/invoke/MethodHandle" ∧ yX0_detailOf.cls ≠ "java/lang/invoke/VarHandle" ∧ (parseMethodDescriptor yX0_detailOf.desc).map (fun d => d.parameters.length) = some 2 := by decide +kernel
theorem hd3_X0_detailOf : yX0_detailOf.cls ≠ "java/lang/invoke/MethodHandle" ∧ yX0_detailOf.cls ≠ "java/lang/invoke/VarHandle" ∧ (parseMethodDescriptor yX0_detailOf.desc).map (fun d => d.parameters.length) = some 2 := hd_X0_detailOf.2
def ws_X0_init : List Cond := .code yX0_init cX0_init 1 none :: BIG
theorem hd_X0_init : yX0_init.cls = RX0 ∧ yX0_init.cls ≠ "java/lang/invoke/MethodHandle" ∧ yX0_init.cls ≠ "java/lang/invoke/VarHandle" ∧ (parseMethodDescriptor yX0_init.desc).map (fun d => d.parameters.length) = some 0 := by decide +kernel
theorem hd3_X0_init : yX0_init.cls ≠ "java/lang/invoke/MethodHandle" ∧ yX0_init.cls ≠ "java/lang/invoke/VarHandle" ∧ (parseMethodDescriptor yX0_init.desc).map (fun d => d.parameters.length) = some 0 := hd_X0_init.2
def ws_X0_judgeCrush : List Cond := .code yX0_judgeCrush cX0_judgeCrush 2 (some .int) :: BIG
theorem hd_X0_judgeCrush : yX0_judgeCrush.cls = RX0 ∧ yX0_judgeCrush.cls ≠ "java/lang/invoke/MethodHandle" ∧ yX0_judgeCrush.cls ≠ "java/lang/invoke/VarHandle" ∧ (parseMethodDescriptor yX0_judgeCrush.desc).map (fun d => d.parameters.length) = some 1 := by decide +kernel
theorem hd3_X0_judgeCrush : yX0_judgeCrush.cls ≠ "java/lang/invoke/MethodHandle" ∧ yX0_judgeCrush.cls ≠ "java/lang/invoke/VarHandle" ∧ (parseMethodDescriptor yX0_judgeCrush.desc).map (fun d => d.parameters.length) = some 1 := hd_X0_judgeCrush.2
def ws_X0_judgeCut : List Cond := .code yX0_judgeCut cX0_judgeCut 2 (some .int) :: BIG
theorem hd_X0_judgeCut : yX0_judgeCut.cls = RX0 ∧ yX0_judgeCut.cls ≠ "java/lang/invoke/MethodHandle" ∧ yX0_judgeCut.cls ≠ "java/lang/invoke/VarHandle" ∧ (parseMethodDescriptor yX0_judgeCut.desc).map (fun d => d.parameters.length) = some 1 := by decide +kernel
theorem hd3_X0_judgeCut : yX0_judgeCut.cls ≠ "java/lang/invoke/MethodHandle" ∧ yX0_judgeCut.cls ≠ "java/lang/invoke/VarHandle" ∧ (parseMethodDescriptor yX0_judgeCut.desc).map (fun d => d.parameters.length) = some 1 := hd_X0_judgeCut.2
def ws_X0_judgeGrading : List Cond := .code yX0_judgeGrading cX0_judgeGrading 2 (some .int) :: BIG
theorem hd_X0_judgeGrading : yX0_judgeGrading.cls = RX0 ∧ yX0_judgeGrading.cls ≠ "java/lang/invoke/MethodHandle" ∧ yX0_judgeGrading.cls ≠ "java/lang/invoke/VarHandle" ∧ (parseMethodDescriptor yX0_judgeGrading.desc).map (fun d => d.parameters.length) = some 1 := by decide +kernel
theorem hd3_X0_judgeGrading : yX0_judgeGrading.cls ≠ "java/lang/invoke/MethodHandle" ∧ yX0_judgeGrading.cls ≠ "java/lang/invoke/VarHandle" ∧ (parseMethodDescriptor yX0_judgeGrading.desc).map (fun d => d.parameters.length) = some 1 := hd_X0_judgeGrading.2
def ws_X0_judgeLoad : List Cond := .code yX0_judgeLoad cX0_judgeLoad 2 (some .int) :: BIG
theorem hd_X0_judgeLoad : yX0_judgeLoad.cls = RX0 ∧ yX0_judgeLoad.cls ≠ "java/lang/invoke/MethodHandle" ∧ yX0_judgeLoad.cls ≠ "java/lang/invoke/VarHandle" ∧ (parseMethodDescriptor yX0_judgeLoad.desc).map (fun d => d.parameters.length) = some 1 := by decide +kernel
theorem hd3_X0_judgeLoad : yX0_judgeLoad.cls ≠ "java/lang/invoke/MethodHandle" ∧ yX0_judgeLoad.cls ≠ "java/lang/invoke/VarHandle" ∧ (parseMethodDescriptor yX0_judgeLoad.desc).map (fun d => d.parameters.length) = some 1 := hd_X0_judgeLoad.2
def ws_X0_judgePhase : List Cond := .code yX0_judgePhase cX0_judgePhase 4 (some .int) :: BIG
theorem hd_X0_judgePhase : yX0_judgePhase.cls = RX0 ∧ yX0_judgePhase.cls ≠ "java/lang/invoke/MethodHandle" ∧ yX0_judgePhase.cls ≠ "java/lang/invoke/VarHandle" ∧ (parseMethodDescriptor yX0_judgePhase.desc).map (fun d => d.parameters.length) = some 3 := by decide +kernel
theorem hd3_X0_judgePhase : yX0_judgePhase.cls ≠ "java/lang/invoke/MethodHandle" ∧ yX0_judgePhase.cls ≠ "java/lang/invoke/VarHandle" ∧ (parseMethodDescriptor yX0_judgePhase.desc).map (fun d => d.parameters.length) = some 3 := hd_X0_judgePhase.2
def ws_X0_judgePress : List Cond := .code yX0_judgePress cX0_judgePress 2 (some .int) :: BIG
theorem hd_X0_judgePress : yX0_judgePress.cls = RX0 ∧ yX0_judgePress.cls ≠ "java/lang/invoke/MethodHandle" ∧ yX0_judgePress.cls ≠ "java/lang/invoke/VarHandle" ∧ (parseMethodDescriptor yX0_judgePress.desc).map (fun d => d.parameters.length) = some 1 := by decide +kernel
theorem hd3_X0_judgePress : yX0_judgePress.cls ≠ "java/lang/invoke/MethodHandle" ∧ yX0_judgePress.cls ≠ "java/lang/invoke/VarHandle" ∧ (parseMethodDescriptor yX0_judgePress.desc).map (fun d => d.parameters.length) = some 1 := hd_X0_judgePress.2
def ws_X0_judgeRun : List Cond := .code yX0_judgeRun cX0_judgeRun 2 (some .int) :: BIG
theorem hd_X0_judgeRun : yX0_judgeRun.cls = RX0 ∧ yX0_judgeRun.cls ≠ "java/lang/invoke/MethodHandle" ∧ yX0_judgeRun.cls ≠ "java/lang/invoke/VarHandle" ∧ (parseMethodDescriptor yX0_judgeRun.desc).map (fun d => d.parameters.length) = some 1 := by decide +kernel
theorem hd3_X0_judgeRun : yX0_judgeRun.cls ≠ "java/lang/invoke/MethodHandle" ∧ yX0_judgeRun.cls ≠ "java/lang/invoke/VarHandle" ∧ (parseMethodDescriptor yX0_judgeRun.desc).map (fun d => d.parameters.length) = some 1 := hd_X0_judgeRun.2
def ws_X0_judgeStart : List Cond := .code yX0_judgeStart cX0_judgeStart 1 (some .int) :: BIG
theorem hd_X0_judgeStart : yX0_judgeStart.cls = RX0 ∧ yX0_judgeStart.cls ≠ "java/lang/invoke/MethodHandle" ∧ yX0_judgeStart.cls ≠ "java/lang/invoke/VarHandle" ∧ (parseMethodDescriptor yX0_judgeStart.desc).map (fun d => d.parameters.length) = some 0 := by decide +kernel
theorem hd3_X0_judgeStart : yX0_judgeStart.cls ≠ "java/lang/invoke/MethodHandle" ∧ yX0_judgeStart.cls ≠ "java/lang/invoke/VarHandle" ∧ (parseMethodDescriptor yX0_judgeStart.desc).map (fun d => d.parameters.length) = some 0 := hd_X0_judgeStart.2
def ws_X0_judgeStop : List Cond := .code yX0_judgeStop cX0_judgeStop 1 (some .int) :: BIG
theorem hd_X0_judgeStop : yX0_judgeStop.cls = RX0 ∧ yX0_judgeStop.cls ≠ "java/lang/invoke/MethodHandle" ∧ yX0_judgeStop.cls ≠ "java/lang/invoke/VarHandle" ∧ (parseMethodDescriptor yX0_judgeStop.desc).map (fun d => d.parameters.length) = some 0 := by decide +kernel
theorem hd3_X0_judgeStop : yX0_judgeStop.cls ≠ "java/lang/invoke/MethodHandle" ∧ yX0_judgeStop.cls ≠ "java/lang/invoke/VarHandle" ∧ (parseMethodDescriptor yX0_judgeStop.desc).map (fun d => d.parameters.length) = some 0 := hd_X0_judgeStop.2
def ws_X0_loadRock : List Cond := .code yX0_loadRock cX0_loadRock 2 (some .int) :: BIG
theorem hd_X0_loadRock : yX0_loadRock.cls = RX0 ∧ yX0_loadRock.cls ≠ "java/lang/invoke/MethodHandle" ∧ yX0_loadRock.cls ≠ "java/lang/invoke/VarHandle" ∧ (parseMethodDescriptor yX0_loadRock.desc).map (fun d => d.parameters.length) = some 1 := by decide +kernel
theorem hd3_X0_loadRock : yX0_loadRock.cls ≠ "java/lang/invoke/MethodHandle" ∧ yX0_loadRock.cls ≠ "java/lang/invoke/VarHandle" ∧ (parseMethodDescriptor yX0_loadRock.desc).map (fun d => d.parameters.length) = some 1 := hd_X0_loadRock.2
def ws_X0_passMinute : List Cond := .code yX0_passMinute cX0_passMinute 2 none :: BIG
theorem hd_X0_passMinute : yX0_passMinute.cls = RX0 ∧ yX0_passMinute.cls ≠ "java/lang/invoke/MethodHandle" ∧ yX0_passMinute.cls ≠ "java/lang/invoke/VarHandle" ∧ (parseMethodDescriptor yX0_passMinute.desc).map (fun d => d.parameters.length) = some 0 := by decide +kernel
theorem hd3_X0_passMinute : yX0_passMinute.cls ≠ "java/lang/invoke/MethodHandle" ∧ yX0_passMinute.cls ≠ "java/lang/invoke/VarHandle" ∧ (parseMethodDescriptor yX0_passMinute.desc).map (fun d => d.parameters.length) = some 0 := hd_X0_passMinute.2
def ws_X0_passMinutes : List Cond := .code yX0_passMinutes cX0_passMinutes 4 (some .int) :: BIG
theorem hd_X0_passMinutes : yX0_passMinutes.cls = RX0 ∧ yX0_passMinutes.cls ≠ "java/lang/invoke/MethodHandle" ∧ yX0_passMinutes.cls ≠ "java/lang/invoke/VarHandle" ∧ (parseMethodDescriptor yX0_passMinutes.desc).map (fun d => d.parameters.length) = some 1 := by decide +kernel
theorem hd3_X0_passMinutes : yX0_passMinutes.cls ≠ "java/lang/invoke/MethodHandle" ∧ yX0_passMinutes.cls ≠ "java/lang/invoke/VarHandle" ∧ (parseMethodDescriptor yX0_passMinutes.desc).map (fun d => d.parameters.length) = some 1 := hd_X0_passMinutes.2
def ws_X0_pressPat : List Cond := .code yX0_pressPat cX0_pressPat 2 (some .int) :: BIG
theorem hd_X0_pressPat : yX0_pressPat.cls = RX0 ∧ yX0_pressPat.cls ≠ "java/lang/invoke/MethodHandle" ∧ yX0_pressPat.cls ≠ "java/lang/invoke/VarHandle" ∧ (parseMethodDescriptor yX0_pressPat.desc).map (fun d => d.parameters.length) = some 1 := by decide +kernel
theorem hd3_X0_pressPat : yX0_pressPat.cls ≠ "java/lang/invoke/MethodHandle" ∧ yX0_pressPat.cls ≠ "java/lang/invoke/VarHandle" ∧ (parseMethodDescriptor yX0_pressPat.desc).map (fun d => d.parameters.length) = some 1 := hd_X0_pressPat.2
def ws_X0_startCycle : List Cond := .code yX0_startCycle cX0_startCycle 1 (some .int) :: BIG
theorem hd_X0_startCycle : yX0_startCycle.cls = RX0 ∧ yX0_startCycle.cls ≠ "java/lang/invoke/MethodHandle" ∧ yX0_startCycle.cls ≠ "java/lang/invoke/VarHandle" ∧ (parseMethodDescriptor yX0_startCycle.desc).map (fun d => d.parameters.length) = some 0 := by decide +kernel
theorem hd3_X0_startCycle : yX0_startCycle.cls ≠ "java/lang/invoke/MethodHandle" ∧ yX0_startCycle.cls ≠ "java/lang/invoke/VarHandle" ∧ (parseMethodDescriptor yX0_startCycle.desc).map (fun d => d.parameters.length) = some 0 := hd_X0_startCycle.2
def ws_X0_stopCycle : List Cond := .code yX0_stopCycle cX0_stopCycle 2 (some .int) :: BIG
theorem hd_X0_stopCycle : yX0_stopCycle.cls = RX0 ∧ yX0_stopCycle.cls ≠ "java/lang/invoke/MethodHandle" ∧ yX0_stopCycle.cls ≠ "java/lang/invoke/VarHandle" ∧ (parseMethodDescriptor yX0_stopCycle.desc).map (fun d => d.parameters.length) = some 0 := by decide +kernel
theorem hd3_X0_stopCycle : yX0_stopCycle.cls ≠ "java/lang/invoke/MethodHandle" ∧ yX0_stopCycle.cls ≠ "java/lang/invoke/VarHandle" ∧ (parseMethodDescriptor yX0_stopCycle.desc).map (fun d => d.parameters.length) = some 0 := hd_X0_stopCycle.2
def ws_X0_takeGrade : List Cond := .code yX0_takeGrade cX0_takeGrade 3 (some .char) :: BIG
theorem hd_X0_takeGrade : yX0_takeGrade.cls = RX0 ∧ yX0_takeGrade.cls ≠ "java/lang/invoke/MethodHandle" ∧ yX0_takeGrade.cls ≠ "java/lang/invoke/VarHandle" ∧ (parseMethodDescriptor yX0_takeGrade.desc).map (fun d => d.parameters.length) = some 1 := by decide +kernel
theorem hd3_X0_takeGrade : yX0_takeGrade.cls ≠ "java/lang/invoke/MethodHandle" ∧ yX0_takeGrade.cls ≠ "java/lang/invoke/VarHandle" ∧ (parseMethodDescriptor yX0_takeGrade.desc).map (fun d => d.parameters.length) = some 1 := hd_X0_takeGrade.2
def ws_X1_add : List Cond := .code yX1_add cX1_add 3 none :: BIG
theorem hd_X1_add : yX1_add.cls = RX1 ∧ yX1_add.cls ≠ "java/lang/invoke/MethodHandle" ∧ yX1_add.cls ≠ "java/lang/invoke/VarHandle" ∧ (parseMethodDescriptor yX1_add.desc).map (fun d => d.parameters.length) = some 1 := by decide +kernel
theorem hd3_X1_add : yX1_add.cls ≠ "java/lang/invoke/MethodHandle" ∧ yX1_add.cls ≠ "java/lang/invoke/VarHandle" ∧ (parseMethodDescriptor yX1_add.desc).map (fun d => d.parameters.length) = some 1 := hd_X1_add.2
def ws_X1_change : List Cond := .code yX1_change cX1_change 3 none :: BIG
theorem hd_X1_change : yX1_change.cls = RX1 ∧ yX1_change.cls ≠ "java/lang/invoke/MethodHandle" ∧ yX1_change.cls ≠ "java/lang/invoke/VarHandle" ∧ (parseMethodDescriptor yX1_change.desc).map (fun d => d.parameters.length) = some 2 := by decide +kernel
theorem hd3_X1_change : yX1_change.cls ≠ "java/lang/invoke/MethodHandle" ∧ yX1_change.cls ≠ "java/lang/invoke/VarHandle" ∧ (parseMethodDescriptor yX1_change.desc).map (fun d => d.parameters.length) = some 2 := hd_X1_change.2
def ws_X1_copyFrom : List Cond := .code yX1_copyFrom cX1_copyFrom 2 none :: BIG
theorem hd_X1_copyFrom : yX1_copyFrom.cls = RX1 ∧ yX1_copyFrom.cls ≠ "java/lang/invoke/MethodHandle" ∧ yX1_copyFrom.cls ≠ "java/lang/invoke/VarHandle" ∧ (parseMethodDescriptor yX1_copyFrom.desc).map (fun d => d.parameters.length) = some 1 := by decide +kernel
theorem hd3_X1_copyFrom : yX1_copyFrom.cls ≠ "java/lang/invoke/MethodHandle" ∧ yX1_copyFrom.cls ≠ "java/lang/invoke/VarHandle" ∧ (parseMethodDescriptor yX1_copyFrom.desc).map (fun d => d.parameters.length) = some 1 := hd_X1_copyFrom.2
def ws_X1_cracksOfPat : List Cond := .code yX1_cracksOfPat cX1_cracksOfPat 2 (some .int) :: BIG
theorem hd_X1_cracksOfPat : yX1_cracksOfPat.cls = RX1 ∧ yX1_cracksOfPat.cls ≠ "java/lang/invoke/MethodHandle" ∧ yX1_cracksOfPat.cls ≠ "java/lang/invoke/VarHandle" ∧ (parseMethodDescriptor yX1_cracksOfPat.desc).map (fun d => d.parameters.length) = some 0 := by decide +kernel
theorem hd3_X1_cracksOfPat : yX1_cracksOfPat.cls ≠ "java/lang/invoke/MethodHandle" ∧ yX1_cracksOfPat.cls ≠ "java/lang/invoke/VarHandle" ∧ (parseMethodDescriptor yX1_cracksOfPat.desc).map (fun d => d.parameters.length) = some 0 := hd_X1_cracksOfPat.2
def ws_X1_init : List Cond := .code yX1_init cX1_init 1 none :: BIG
theorem hd_X1_init : yX1_init.cls = RX1 ∧ yX1_init.cls ≠ "java/lang/invoke/MethodHandle" ∧ yX1_init.cls ≠ "java/lang/invoke/VarHandle" ∧ (parseMethodDescriptor yX1_init.desc).map (fun d => d.parameters.length) = some 0 := by decide +kernel
theorem hd3_X1_init : yX1_init.cls ≠ "java/lang/invoke/MethodHandle" ∧ yX1_init.cls ≠ "java/lang/invoke/VarHandle" ∧ (parseMethodDescriptor yX1_init.desc).map (fun d => d.parameters.length) = some 0 := hd_X1_init.2
def ws_X1_rest : List Cond := .code yX1_rest cX1_rest 2 none :: BIG
theorem hd_X1_rest : yX1_rest.cls = RX1 ∧ yX1_rest.cls ≠ "java/lang/invoke/MethodHandle" ∧ yX1_rest.cls ≠ "java/lang/invoke/VarHandle" ∧ (parseMethodDescriptor yX1_rest.desc).map (fun d => d.parameters.length) = some 1 := by decide +kernel
theorem hd3_X1_rest : yX1_rest.cls ≠ "java/lang/invoke/MethodHandle" ∧ yX1_rest.cls ≠ "java/lang/invoke/VarHandle" ∧ (parseMethodDescriptor yX1_rest.desc).map (fun d => d.parameters.length) = some 1 := hd_X1_rest.2
def ws_X1_turn : List Cond := .code yX1_turn cX1_turn 2 none :: BIG
theorem hd_X1_turn : yX1_turn.cls = RX1 ∧ yX1_turn.cls ≠ "java/lang/invoke/MethodHandle" ∧ yX1_turn.cls ≠ "java/lang/invoke/VarHandle" ∧ (parseMethodDescriptor yX1_turn.desc).map (fun d => d.parameters.length) = some 1 := by decide +kernel
theorem hd3_X1_turn : yX1_turn.cls ≠ "java/lang/invoke/MethodHandle" ∧ yX1_turn.cls ≠ "java/lang/invoke/VarHandle" ∧ (parseMethodDescriptor yX1_turn.desc).map (fun d => d.parameters.length) = some 1 := hd_X1_turn.2
def ws_X2_advance : List Cond := .code yX2_advance cX2_advance 1 none :: BIG
theorem hd_X2_advance : yX2_advance.cls = RX2 ∧ yX2_advance.cls ≠ "java/lang/invoke/MethodHandle" ∧ yX2_advance.cls ≠ "java/lang/invoke/VarHandle" ∧ (parseMethodDescriptor yX2_advance.desc).map (fun d => d.parameters.length) = some 0 := by decide +kernel
theorem hd3_X2_advance : yX2_advance.cls ≠ "java/lang/invoke/MethodHandle" ∧ yX2_advance.cls ≠ "java/lang/invoke/VarHandle" ∧ (parseMethodDescriptor yX2_advance.desc).map (fun d => d.parameters.length) = some 0 := hd_X2_advance.2
def ws_X2_append : List Cond := .code yX2_append cX2_append 4 none :: BIG
theorem hd_X2_append : yX2_append.cls = RX2 ∧ yX2_append.cls ≠ "java/lang/invoke/MethodHandle" ∧ yX2_append.cls ≠ "java/lang/invoke/VarHandle" ∧ (parseMethodDescriptor yX2_append.desc).map (fun d => d.parameters.length) = some 3 := by decide +kernel
theorem hd3_X2_append : yX2_append.cls ≠ "java/lang/invoke/MethodHandle" ∧ yX2_append.cls ≠ "java/lang/invoke/VarHandle" ∧ (parseMethodDescriptor yX2_append.desc).map (fun d => d.parameters.length) = some 3 := hd_X2_append.2
def ws_X2_begin : List Cond := .code yX2_begin cX2_begin 1 none :: BIG
theorem hd_X2_begin : yX2_begin.cls = RX2 ∧ yX2_begin.cls ≠ "java/lang/invoke/MethodHandle" ∧ yX2_begin.cls ≠ "java/lang/invoke/VarHandle" ∧ (parseMethodDescriptor yX2_begin.desc).map (fun d => d.parameters.length) = some 0 := by decide +kernel
theorem hd3_X2_begin : yX2_begin.cls ≠ "java/lang/invoke/MethodHandle" ∧ yX2_begin.cls ≠ "java/lang/invoke/VarHandle" ∧ (parseMethodDescriptor yX2_begin.desc).map (fun d => d.parameters.length) = some 0 := hd_X2_begin.2
def ws_X2_copyFrom : List Cond := .code yX2_copyFrom cX2_copyFrom 2 none :: BIG
theorem hd_X2_copyFrom : yX2_copyFrom.cls = RX2 ∧ yX2_copyFrom.cls ≠ "java/lang/invoke/MethodHandle" ∧ yX2_copyFrom.cls ≠ "java/lang/invoke/VarHandle" ∧ (parseMethodDescriptor yX2_copyFrom.desc).map (fun d => d.parameters.length) = some 1 := by decide +kernel
theorem hd3_X2_copyFrom : yX2_copyFrom.cls ≠ "java/lang/invoke/MethodHandle" ∧ yX2_copyFrom.cls ≠ "java/lang/invoke/VarHandle" ∧ (parseMethodDescriptor yX2_copyFrom.desc).map (fun d => d.parameters.length) = some 1 := hd_X2_copyFrom.2
def ws_X2_end : List Cond := .code yX2_end cX2_end 1 none :: BIG
theorem hd_X2_end : yX2_end.cls = RX2 ∧ yX2_end.cls ≠ "java/lang/invoke/MethodHandle" ∧ yX2_end.cls ≠ "java/lang/invoke/VarHandle" ∧ (parseMethodDescriptor yX2_end.desc).map (fun d => d.parameters.length) = some 0 := by decide +kernel
theorem hd3_X2_end : yX2_end.cls ≠ "java/lang/invoke/MethodHandle" ∧ yX2_end.cls ≠ "java/lang/invoke/VarHandle" ∧ (parseMethodDescriptor yX2_end.desc).map (fun d => d.parameters.length) = some 0 := hd_X2_end.2
def ws_X2_has : List Cond := .code yX2_has cX2_has 2 (some .boolean) :: BIG
theorem hd_X2_has : yX2_has.cls = RX2 ∧ yX2_has.cls ≠ "java/lang/invoke/MethodHandle" ∧ yX2_has.cls ≠ "java/lang/invoke/VarHandle" ∧ (parseMethodDescriptor yX2_has.desc).map (fun d => d.parameters.length) = some 1 := by decide +kernel
theorem hd3_X2_has : yX2_has.cls ≠ "java/lang/invoke/MethodHandle" ∧ yX2_has.cls ≠ "java/lang/invoke/VarHandle" ∧ (parseMethodDescriptor yX2_has.desc).map (fun d => d.parameters.length) = some 1 := hd_X2_has.2
def ws_X2_init : List Cond := .code yX2_init cX2_init 1 none :: BIG
theorem hd_X2_init : yX2_init.cls = RX2 ∧ yX2_init.cls ≠ "java/lang/invoke/MethodHandle" ∧ yX2_init.cls ≠ "java/lang/invoke/VarHandle" ∧ (parseMethodDescriptor yX2_init.desc).map (fun d => d.parameters.length) = some 0 := by decide +kernel
theorem hd3_X2_init : yX2_init.cls ≠ "java/lang/invoke/MethodHandle" ∧ yX2_init.cls ≠ "java/lang/invoke/VarHandle" ∧ (parseMethodDescriptor yX2_init.desc).map (fun d => d.parameters.length) = some 0 := hd_X2_init.2
def ws_X2_isKind : List Cond := .code yX2_isKind cX2_isKind 1 (some .boolean) :: BIG
theorem hd_X2_isKind : yX2_isKind.cls = RX2 ∧ yX2_isKind.cls ≠ "java/lang/invoke/MethodHandle" ∧ yX2_isKind.cls ≠ "java/lang/invoke/VarHandle" ∧ (parseMethodDescriptor yX2_isKind.desc).map (fun d => d.parameters.length) = some 1 := by decide +kernel
theorem hd3_X2_isKind : yX2_isKind.cls ≠ "java/lang/invoke/MethodHandle" ∧ yX2_isKind.cls ≠ "java/lang/invoke/VarHandle" ∧ (parseMethodDescriptor yX2_isKind.desc).map (fun d => d.parameters.length) = some 1 := hd_X2_isKind.2
def ws_X2_isUnderWay : List Cond := .code yX2_isUnderWay cX2_isUnderWay 1 (some .boolean) :: BIG
theorem hd_X2_isUnderWay : yX2_isUnderWay.cls = RX2 ∧ yX2_isUnderWay.cls ≠ "java/lang/invoke/MethodHandle" ∧ yX2_isUnderWay.cls ≠ "java/lang/invoke/VarHandle" ∧ (parseMethodDescriptor yX2_isUnderWay.desc).map (fun d => d.parameters.length) = some 0 := by decide +kernel
theorem hd3_X2_isUnderWay : yX2_isUnderWay.cls ≠ "java/lang/invoke/MethodHandle" ∧ yX2_isUnderWay.cls ≠ "java/lang/invoke/VarHandle" ∧ (parseMethodDescriptor yX2_isUnderWay.desc).map (fun d => d.parameters.length) = some 0 := hd_X2_isUnderWay.2
def ws_X2_minutesToCome : List Cond := .code yX2_minutesToCome cX2_minutesToCome 3 (some .int) :: BIG
theorem hd_X2_minutesToCome : yX2_minutesToCome.cls = RX2 ∧ yX2_minutesToCome.cls ≠ "java/lang/invoke/MethodHandle" ∧ yX2_minutesToCome.cls ≠ "java/lang/invoke/VarHandle" ∧ (parseMethodDescriptor yX2_minutesToCome.desc).map (fun d => d.parameters.length) = some 0 := by decide +kernel
theorem hd3_X2_minutesToCome : yX2_minutesToCome.cls ≠ "java/lang/invoke/MethodHandle" ∧ yX2_minutesToCome.cls ≠ "java/lang/invoke/VarHandle" ∧ (parseMethodDescriptor yX2_minutesToCome.desc).map (fun d => d.parameters.length) = some 0 := hd_X2_minutesToCome.2
def ws_X2_remove : List Cond := .code yX2_remove cX2_remove 3 none :: BIG
theorem hd_X2_remove : yX2_remove.cls = RX2 ∧ yX2_remove.cls ≠ "java/lang/invoke/MethodHandle" ∧ yX2_remove.cls ≠ "java/lang/invoke/VarHandle" ∧ (parseMethodDescriptor yX2_remove.desc).map (fun d => d.parameters.length) = some 1 := by decide +kernel
theorem hd3_X2_remove : yX2_remove.cls ≠ "java/lang/invoke/MethodHandle" ∧ yX2_remove.cls ≠ "java/lang/invoke/VarHandle" ∧ (parseMethodDescriptor yX2_remove.desc).map (fun d => d.parameters.length) = some 1 := hd_X2_remove.2
def ws_X3_forgetAll : List Cond := .code yX3_forgetAll cX3_forgetAll 1 none :: BIG
theorem hd_X3_forgetAll : yX3_forgetAll.cls = RX3 ∧ yX3_forgetAll.cls ≠ "java/lang/invoke/MethodHandle" ∧ yX3_forgetAll.cls ≠ "java/lang/invoke/VarHandle" ∧ (parseMethodDescriptor yX3_forgetAll.desc).map (fun d => d.parameters.length) = some 0 := by decide +kernel
theorem hd3_X3_forgetAll : yX3_forgetAll.cls ≠ "java/lang/invoke/MethodHandle" ∧ yX3_forgetAll.cls ≠ "java/lang/invoke/VarHandle" ∧ (parseMethodDescriptor yX3_forgetAll.desc).map (fun d => d.parameters.length) = some 0 := hd_X3_forgetAll.2
def ws_X3_init : List Cond := .code yX3_init cX3_init 2 none :: BIG
theorem hd_X3_init : yX3_init.cls = RX3 ∧ yX3_init.cls ≠ "java/lang/invoke/MethodHandle" ∧ yX3_init.cls ≠ "java/lang/invoke/VarHandle" ∧ (parseMethodDescriptor yX3_init.desc).map (fun d => d.parameters.length) = some 0 := by decide +kernel
theorem hd3_X3_init : yX3_init.cls ≠ "java/lang/invoke/MethodHandle" ∧ yX3_init.cls ≠ "java/lang/invoke/VarHandle" ∧ (parseMethodDescriptor yX3_init.desc).map (fun d => d.parameters.length) = some 0 := hd_X3_init.2
def ws_X3_pop : List Cond := .code yX3_pop cX3_pop 2 none :: BIG
theorem hd_X3_pop : yX3_pop.cls = RX3 ∧ yX3_pop.cls ≠ "java/lang/invoke/MethodHandle" ∧ yX3_pop.cls ≠ "java/lang/invoke/VarHandle" ∧ (parseMethodDescriptor yX3_pop.desc).map (fun d => d.parameters.length) = some 1 := by decide +kernel
theorem hd3_X3_pop : yX3_pop.cls ≠ "java/lang/invoke/MethodHandle" ∧ yX3_pop.cls ≠ "java/lang/invoke/VarHandle" ∧ (parseMethodDescriptor yX3_pop.desc).map (fun d => d.parameters.length) = some 1 := hd_X3_pop.2
def ws_X3_push : List Cond := .code yX3_push cX3_push 2 none :: BIG
theorem hd_X3_push : yX3_push.cls = RX3 ∧ yX3_push.cls ≠ "java/lang/invoke/MethodHandle" ∧ yX3_push.cls ≠ "java/lang/invoke/VarHandle" ∧ (parseMethodDescriptor yX3_push.desc).map (fun d => d.parameters.length) = some 1 := by decide +kernel
theorem hd3_X3_push : yX3_push.cls ≠ "java/lang/invoke/MethodHandle" ∧ yX3_push.cls ≠ "java/lang/invoke/VarHandle" ∧ (parseMethodDescriptor yX3_push.desc).map (fun d => d.parameters.length) = some 1 := hd_X3_push.2
def ws_X4_append : List Cond := .code yX4_append cX4_append 5 none :: BIG
theorem hd_X4_append : yX4_append.cls = RX4 ∧ yX4_append.cls ≠ "java/lang/invoke/MethodHandle" ∧ yX4_append.cls ≠ "java/lang/invoke/VarHandle" ∧ (parseMethodDescriptor yX4_append.desc).map (fun d => d.parameters.length) = some 4 := by decide +kernel
theorem hd3_X4_append : yX4_append.cls ≠ "java/lang/invoke/MethodHandle" ∧ yX4_append.cls ≠ "java/lang/invoke/VarHandle" ∧ (parseMethodDescriptor yX4_append.desc).map (fun d => d.parameters.length) = some 4 := hd_X4_append.2
def ws_X4_coolDown : List Cond := .code yX4_coolDown cX4_coolDown 2 none :: BIG
theorem hd_X4_coolDown : yX4_coolDown.cls = RX4 ∧ yX4_coolDown.cls ≠ "java/lang/invoke/MethodHandle" ∧ yX4_coolDown.cls ≠ "java/lang/invoke/VarHandle" ∧ (parseMethodDescriptor yX4_coolDown.desc).map (fun d => d.parameters.length) = some 0 := by decide +kernel
theorem hd3_X4_coolDown : yX4_coolDown.cls ≠ "java/lang/invoke/MethodHandle" ∧ yX4_coolDown.cls ≠ "java/lang/invoke/VarHandle" ∧ (parseMethodDescriptor yX4_coolDown.desc).map (fun d => d.parameters.length) = some 0 := hd_X4_coolDown.2
def ws_X4_coolOnes : List Cond := .code yX4_coolOnes cX4_coolOnes 3 (some .int) :: BIG
theorem hd_X4_coolOnes : yX4_coolOnes.cls = RX4 ∧ yX4_coolOnes.cls ≠ "java/lang/invoke/MethodHandle" ∧ yX4_coolOnes.cls ≠ "java/lang/invoke/VarHandle" ∧ (parseMethodDescriptor yX4_coolOnes.desc).map (fun d => d.parameters.length) = some 0 := by decide +kernel
theorem hd3_X4_coolOnes : yX4_coolOnes.cls ≠ "java/lang/invoke/MethodHandle" ∧ yX4_coolOnes.cls ≠ "java/lang/invoke/VarHandle" ∧ (parseMethodDescriptor yX4_coolOnes.desc).map (fun d => d.parameters.length) = some 0 := hd_X4_coolOnes.2
def ws_X4_copyFrom : List Cond := .code yX4_copyFrom cX4_copyFrom 2 none :: BIG
theorem hd_X4_copyFrom : yX4_copyFrom.cls = RX4 ∧ yX4_copyFrom.cls ≠ "java/lang/invoke/MethodHandle" ∧ yX4_copyFrom.cls ≠ "java/lang/invoke/VarHandle" ∧ (parseMethodDescriptor yX4_copyFrom.desc).map (fun d => d.parameters.length) = some 1 := by decide +kernel
theorem hd3_X4_copyFrom : yX4_copyFrom.cls ≠ "java/lang/invoke/MethodHandle" ∧ yX4_copyFrom.cls ≠ "java/lang/invoke/VarHandle" ∧ (parseMethodDescriptor yX4_copyFrom.desc).map (fun d => d.parameters.length) = some 1 := hd_X4_copyFrom.2
def ws_X4_firmnessOf : List Cond := .code yX4_firmnessOf cX4_firmnessOf 2 (some .int) :: BIG
theorem hd_X4_firmnessOf : yX4_firmnessOf.cls = RX4 ∧ yX4_firmnessOf.cls ≠ "java/lang/invoke/MethodHandle" ∧ yX4_firmnessOf.cls ≠ "java/lang/invoke/VarHandle" ∧ (parseMethodDescriptor yX4_firmnessOf.desc).map (fun d => d.parameters.length) = some 1 := by decide +kernel
theorem hd3_X4_firmnessOf : yX4_firmnessOf.cls ≠ "java/lang/invoke/MethodHandle" ∧ yX4_firmnessOf.cls ≠ "java/lang/invoke/VarHandle" ∧ (parseMethodDescriptor yX4_firmnessOf.desc).map (fun d => d.parameters.length) = some 1 := hd_X4_firmnessOf.2
def ws_X4_firmnessOfAll : List Cond := .code yX4_firmnessOfAll cX4_firmnessOfAll 3 (some .int) :: BIG
theorem hd_X4_firmnessOfAll : yX4_firmnessOfAll.cls = RX4 ∧ yX4_firmnessOfAll.cls ≠ "java/lang/invoke/MethodHandle" ∧ yX4_firmnessOfAll.cls ≠ "java/lang/invoke/VarHandle" ∧ (parseMethodDescriptor yX4_firmnessOfAll.desc).map (fun d => d.parameters.length) = some 0 := by decide +kernel
theorem hd3_X4_firmnessOfAll : yX4_firmnessOfAll.cls ≠ "java/lang/invoke/MethodHandle" ∧ yX4_firmnessOfAll.cls ≠ "java/lang/invoke/VarHandle" ∧ (parseMethodDescriptor yX4_firmnessOfAll.desc).map (fun d => d.parameters.length) = some 0 := hd_X4_firmnessOfAll.2
def ws_X4_firstCoolFrom : List Cond := .code yX4_firstCoolFrom cX4_firstCoolFrom 3 (some .int) :: BIG
theorem hd_X4_firstCoolFrom : yX4_firstCoolFrom.cls = RX4 ∧ yX4_firstCoolFrom.cls ≠ "java/lang/invoke/MethodHandle" ∧ yX4_firstCoolFrom.cls ≠ "java/lang/invoke/VarHandle" ∧ (parseMethodDescriptor yX4_firstCoolFrom.desc).map (fun d => d.parameters.length) = some 1 := by decide +kernel
theorem hd3_X4_firstCoolFrom : yX4_firstCoolFrom.cls ≠ "java/lang/invoke/MethodHandle" ∧ yX4_firstCoolFrom.cls ≠ "java/lang/invoke/VarHandle" ∧ (parseMethodDescriptor yX4_firstCoolFrom.desc).map (fun d => d.parameters.length) = some 1 := hd_X4_firstCoolFrom.2
def ws_X4_goesBefore : List Cond := .code yX4_goesBefore cX4_goesBefore 3 (some .boolean) :: BIG
theorem hd_X4_goesBefore : yX4_goesBefore.cls = RX4 ∧ yX4_goesBefore.cls ≠ "java/lang/invoke/MethodHandle" ∧ yX4_goesBefore.cls ≠ "java/lang/invoke/VarHandle" ∧ (parseMethodDescriptor yX4_goesBefore.desc).map (fun d => d.parameters.length) = some 2 := by decide +kernel
theorem hd3_X4_goesBefore : yX4_goesBefore.cls ≠ "java/lang/invoke/MethodHandle" ∧ yX4_goesBefore.cls ≠ "java/lang/invoke/VarHandle" ∧ (parseMethodDescriptor yX4_goesBefore.desc).map (fun d => d.parameters.length) = some 2 := hd_X4_goesBefore.2
def ws_X4_gradeOf : List Cond := .code yX4_gradeOf cX4_gradeOf 3 (some .int) :: BIG
theorem hd_X4_gradeOf : yX4_gradeOf.cls = RX4 ∧ yX4_gradeOf.cls ≠ "java/lang/invoke/MethodHandle" ∧ yX4_gradeOf.cls ≠ "java/lang/invoke/VarHandle" ∧ (parseMethodDescriptor yX4_gradeOf.desc).map (fun d => d.parameters.length) = some 1 := by decide +kernel
theorem hd3_X4_gradeOf : yX4_gradeOf.cls ≠ "java/lang/invoke/MethodHandle" ∧ yX4_gradeOf.cls ≠ "java/lang/invoke/VarHandle" ∧ (parseMethodDescriptor yX4_gradeOf.desc).map (fun d => d.parameters.length) = some 1 := hd_X4_gradeOf.2
def ws_X4_has : List Cond := .code yX4_has cX4_has 2 (some .boolean) :: BIG
theorem hd_X4_has : yX4_has.cls = RX4 ∧ yX4_has.cls ≠ "java/lang/invoke/MethodHandle" ∧ yX4_has.cls ≠ "java/lang/invoke/VarHandle" ∧ (parseMethodDescriptor yX4_has.desc).map (fun d => d.parameters.length) = some 1 := by decide +kernel
theorem hd3_X4_has : yX4_has.cls ≠ "java/lang/invoke/MethodHandle" ∧ yX4_has.cls ≠ "java/lang/invoke/VarHandle" ∧ (parseMethodDescriptor yX4_has.desc).map (fun d => d.parameters.length) = some 1 := hd_X4_has.2
def ws_X4_hasCool : List Cond := .code yX4_hasCool cX4_hasCool 2 (some .boolean) :: BIG
theorem hd_X4_hasCool : yX4_hasCool.cls = RX4 ∧ yX4_hasCool.cls ≠ "java/lang/invoke/MethodHandle" ∧ yX4_hasCool.cls ≠ "java/lang/invoke/VarHandle" ∧ (parseMethodDescriptor yX4_hasCool.desc).map (fun d => d.parameters.length) = some 1 := by decide +kernel
theorem hd3_X4_hasCool : yX4_hasCool.cls ≠ "java/lang/invoke/MethodHandle" ∧ yX4_hasCool.cls ≠ "java/lang/invoke/VarHandle" ∧ (parseMethodDescriptor yX4_hasCool.desc).map (fun d => d.parameters.length) = some 1 := hd_X4_hasCool.2
def ws_X4_init : List Cond := .code yX4_init cX4_init 1 none :: BIG
theorem hd_X4_init : yX4_init.cls = RX4 ∧ yX4_init.cls ≠ "java/lang/invoke/MethodHandle" ∧ yX4_init.cls ≠ "java/lang/invoke/VarHandle" ∧ (parseMethodDescriptor yX4_init.desc).map (fun d => d.parameters.length) = some 0 := by decide +kernel
theorem hd3_X4_init : yX4_init.cls ≠ "java/lang/invoke/MethodHandle" ∧ yX4_init.cls ≠ "java/lang/invoke/VarHandle" ∧ (parseMethodDescriptor yX4_init.desc).map (fun d => d.parameters.length) = some 0 := hd_X4_init.2
def ws_X4_massOf : List Cond := .code yX4_massOf cX4_massOf 2 (some .int) :: BIG
theorem hd_X4_massOf : yX4_massOf.cls = RX4 ∧ yX4_massOf.cls ≠ "java/lang/invoke/MethodHandle" ∧ yX4_massOf.cls ≠ "java/lang/invoke/VarHandle" ∧ (parseMethodDescriptor yX4_massOf.desc).map (fun d => d.parameters.length) = some 1 := by decide +kernel
theorem hd3_X4_massOf : yX4_massOf.cls ≠ "java/lang/invoke/MethodHandle" ∧ yX4_massOf.cls ≠ "java/lang/invoke/VarHandle" ∧ (parseMethodDescriptor yX4_massOf.desc).map (fun d => d.parameters.length) = some 1 := hd_X4_massOf.2
def ws_X4_patAtRank : List Cond := .code yX4_patAtRank cX4_patAtRank 3 (some .int) :: BIG
theorem hd_X4_patAtRank : yX4_patAtRank.cls = RX4 ∧ yX4_patAtRank.cls ≠ "java/lang/invoke/MethodHandle" ∧ yX4_patAtRank.cls ≠ "java/lang/invoke/VarHandle" ∧ (parseMethodDescriptor yX4_patAtRank.desc).map (fun d => d.parameters.length) = some 1 := by decide +kernel
theorem hd3_X4_patAtRank : yX4_patAtRank.cls ≠ "java/lang/invoke/MethodHandle" ∧ yX4_patAtRank.cls ≠ "java/lang/invoke/VarHandle" ∧ (parseMethodDescriptor yX4_patAtRank.desc).map (fun d => d.parameters.length) = some 1 := hd_X4_patAtRank.2
def ws_X4_rankOf : List Cond := .code yX4_rankOf cX4_rankOf 4 (some .int) :: BIG
theorem hd_X4_rankOf : yX4_rankOf.cls = RX4 ∧ yX4_rankOf.cls ≠ "java/lang/invoke/MethodHandle" ∧ yX4_rankOf.cls ≠ "java/lang/invoke/VarHandle" ∧ (parseMethodDescriptor yX4_rankOf.desc).map (fun d => d.parameters.length) = some 1 := by decide +kernel
theorem hd3_X4_rankOf : yX4_rankOf.cls ≠ "java/lang/invoke/MethodHandle" ∧ yX4_rankOf.cls ≠ "java/lang/invoke/VarHandle" ∧ (parseMethodDescriptor yX4_rankOf.desc).map (fun d => d.parameters.length) = some 1 := hd_X4_rankOf.2
def ws_X4_remove : List Cond := .code yX4_remove cX4_remove 3 none :: BIG
theorem hd_X4_remove : yX4_remove.cls = RX4 ∧ yX4_remove.cls ≠ "java/lang/invoke/MethodHandle" ∧ yX4_remove.cls ≠ "java/lang/invoke/VarHandle" ∧ (parseMethodDescriptor yX4_remove.desc).map (fun d => d.parameters.length) = some 1 := by decide +kernel
theorem hd3_X4_remove : yX4_remove.cls ≠ "java/lang/invoke/MethodHandle" ∧ yX4_remove.cls ≠ "java/lang/invoke/VarHandle" ∧ (parseMethodDescriptor yX4_remove.desc).map (fun d => d.parameters.length) = some 1 := hd_X4_remove.2
def ws_X4_temperatureOf : List Cond := .code yX4_temperatureOf cX4_temperatureOf 2 (some .int) :: BIG
theorem hd_X4_temperatureOf : yX4_temperatureOf.cls = RX4 ∧ yX4_temperatureOf.cls ≠ "java/lang/invoke/MethodHandle" ∧ yX4_temperatureOf.cls ≠ "java/lang/invoke/VarHandle" ∧ (parseMethodDescriptor yX4_temperatureOf.desc).map (fun d => d.parameters.length) = some 1 := by decide +kernel
theorem hd3_X4_temperatureOf : yX4_temperatureOf.cls ≠ "java/lang/invoke/MethodHandle" ∧ yX4_temperatureOf.cls ≠ "java/lang/invoke/VarHandle" ∧ (parseMethodDescriptor yX4_temperatureOf.desc).map (fun d => d.parameters.length) = some 1 := hd_X4_temperatureOf.2
def ws_X5_copyFrom : List Cond := .code yX5_copyFrom cX5_copyFrom 2 none :: BIG
theorem hd_X5_copyFrom : yX5_copyFrom.cls = RX5 ∧ yX5_copyFrom.cls ≠ "java/lang/invoke/MethodHandle" ∧ yX5_copyFrom.cls ≠ "java/lang/invoke/VarHandle" ∧ (parseMethodDescriptor yX5_copyFrom.desc).map (fun d => d.parameters.length) = some 1 := by decide +kernel
theorem hd3_X5_copyFrom : yX5_copyFrom.cls ≠ "java/lang/invoke/MethodHandle" ∧ yX5_copyFrom.cls ≠ "java/lang/invoke/VarHandle" ∧ (parseMethodDescriptor yX5_copyFrom.desc).map (fun d => d.parameters.length) = some 1 := hd_X5_copyFrom.2
def ws_X5_count : List Cond := .code yX5_count cX5_count 3 none :: BIG
theorem hd_X5_count : yX5_count.cls = RX5 ∧ yX5_count.cls ≠ "java/lang/invoke/MethodHandle" ∧ yX5_count.cls ≠ "java/lang/invoke/VarHandle" ∧ (parseMethodDescriptor yX5_count.desc).map (fun d => d.parameters.length) = some 2 := by decide +kernel
theorem hd3_X5_count : yX5_count.cls ≠ "java/lang/invoke/MethodHandle" ∧ yX5_count.cls ≠ "java/lang/invoke/VarHandle" ∧ (parseMethodDescriptor yX5_count.desc).map (fun d => d.parameters.length) = some 2 := hd_X5_count.2
def ws_X5_init : List Cond := .code yX5_init cX5_init 1 none :: BIG
theorem hd_X5_init : yX5_init.cls = RX5 ∧ yX5_init.cls ≠ "java/lang/invoke/MethodHandle" ∧ yX5_init.cls ≠ "java/lang/invoke/VarHandle" ∧ (parseMethodDescriptor yX5_init.desc).map (fun d => d.parameters.length) = some 0 := by decide +kernel
theorem hd3_X5_init : yX5_init.cls ≠ "java/lang/invoke/MethodHandle" ∧ yX5_init.cls ≠ "java/lang/invoke/VarHandle" ∧ (parseMethodDescriptor yX5_init.desc).map (fun d => d.parameters.length) = some 0 := hd_X5_init.2
def ws_X6_append : List Cond := .code yX6_append cX6_append 2 none :: BIG
theorem hd_X6_append : yX6_append.cls = RX6 ∧ yX6_append.cls ≠ "java/lang/invoke/MethodHandle" ∧ yX6_append.cls ≠ "java/lang/invoke/VarHandle" ∧ (parseMethodDescriptor yX6_append.desc).map (fun d => d.parameters.length) = some 1 := by decide +kernel
theorem hd3_X6_append : yX6_append.cls ≠ "java/lang/invoke/MethodHandle" ∧ yX6_append.cls ≠ "java/lang/invoke/VarHandle" ∧ (parseMethodDescriptor yX6_append.desc).map (fun d => d.parameters.length) = some 1 := hd_X6_append.2
def ws_X6_clear : List Cond := .code yX6_clear cX6_clear 1 none :: BIG
theorem hd_X6_clear : yX6_clear.cls = RX6 ∧ yX6_clear.cls ≠ "java/lang/invoke/MethodHandle" ∧ yX6_clear.cls ≠ "java/lang/invoke/VarHandle" ∧ (parseMethodDescriptor yX6_clear.desc).map (fun d => d.parameters.length) = some 0 := by decide +kernel
theorem hd3_X6_clear : yX6_clear.cls ≠ "java/lang/invoke/MethodHandle" ∧ yX6_clear.cls ≠ "java/lang/invoke/VarHandle" ∧ (parseMethodDescriptor yX6_clear.desc).map (fun d => d.parameters.length) = some 0 := hd_X6_clear.2
def ws_X6_init : List Cond := .code yX6_init cX6_init 1 none :: BIG
theorem hd_X6_init : yX6_init.cls = RX6 ∧ yX6_init.cls ≠ "java/lang/invoke/MethodHandle" ∧ yX6_init.cls ≠ "java/lang/invoke/VarHandle" ∧ (parseMethodDescriptor yX6_init.desc).map (fun d => d.parameters.length) = some 0 := by decide +kernel
theorem hd3_X6_init : yX6_init.cls ≠ "java/lang/invoke/MethodHandle" ∧ yX6_init.cls ≠ "java/lang/invoke/VarHandle" ∧ (parseMethodDescriptor yX6_init.desc).map (fun d => d.parameters.length) = some 0 := hd_X6_init.2
def ws_X6_isDigit : List Cond := .code yX6_isDigit cX6_isDigit 1 (some .boolean) :: BIG
theorem hd_X6_isDigit : yX6_isDigit.cls = RX6 ∧ yX6_isDigit.cls ≠ "java/lang/invoke/MethodHandle" ∧ yX6_isDigit.cls ≠ "java/lang/invoke/VarHandle" ∧ (parseMethodDescriptor yX6_isDigit.desc).map (fun d => d.parameters.length) = some 1 := by decide +kernel
theorem hd3_X6_isDigit : yX6_isDigit.cls ≠ "java/lang/invoke/MethodHandle" ∧ yX6_isDigit.cls ≠ "java/lang/invoke/VarHandle" ∧ (parseMethodDescriptor yX6_isDigit.desc).map (fun d => d.parameters.length) = some 1 := hd_X6_isDigit.2
def ws_X6_isFull : List Cond := .code yX6_isFull cX6_isFull 1 (some .boolean) :: BIG
theorem hd_X6_isFull : yX6_isFull.cls = RX6 ∧ yX6_isFull.cls ≠ "java/lang/invoke/MethodHandle" ∧ yX6_isFull.cls ≠ "java/lang/invoke/VarHandle" ∧ (parseMethodDescriptor yX6_isFull.desc).map (fun d => d.parameters.length) = some 0 := by decide +kernel
theorem hd3_X6_isFull : yX6_isFull.cls ≠ "java/lang/invoke/MethodHandle" ∧ yX6_isFull.cls ≠ "java/lang/invoke/VarHandle" ∧ (parseMethodDescriptor yX6_isFull.desc).map (fun d => d.parameters.length) = some 0 := hd_X6_isFull.2
def ws_X6_readCommand : List Cond := .code yX6_readCommand cX6_readCommand 3 (some .boolean) :: BIG
theorem hd_X6_readCommand : yX6_readCommand.cls = RX6 ∧ yX6_readCommand.cls ≠ "java/lang/invoke/MethodHandle" ∧ yX6_readCommand.cls ≠ "java/lang/invoke/VarHandle" ∧ (parseMethodDescriptor yX6_readCommand.desc).map (fun d => d.parameters.length) = some 1 := by decide +kernel
theorem hd3_X6_readCommand : yX6_readCommand.cls ≠ "java/lang/invoke/MethodHandle" ∧ yX6_readCommand.cls ≠ "java/lang/invoke/VarHandle" ∧ (parseMethodDescriptor yX6_readCommand.desc).map (fun d => d.parameters.length) = some 1 := hd_X6_readCommand.2
def ws_X6_readCommands : List Cond := .code yX6_readCommands cX6_readCommands 2 (some .boolean) :: BIG
theorem hd_X6_readCommands : yX6_readCommands.cls = RX6 ∧ yX6_readCommands.cls ≠ "java/lang/invoke/MethodHandle" ∧ yX6_readCommands.cls ≠ "java/lang/invoke/VarHandle" ∧ (parseMethodDescriptor yX6_readCommands.desc).map (fun d => d.parameters.length) = some 0 := by decide +kernel
theorem hd3_X6_readCommands : yX6_readCommands.cls ≠ "java/lang/invoke/MethodHandle" ∧ yX6_readCommands.cls ≠ "java/lang/invoke/VarHandle" ∧ (parseMethodDescriptor yX6_readCommands.desc).map (fun d => d.parameters.length) = some 0 := hd_X6_readCommands.2
def ws_X6_readNumber : List Cond := .code yX6_readNumber cX6_readNumber 4 (some .int) :: BIG
theorem hd_X6_readNumber : yX6_readNumber.cls = RX6 ∧ yX6_readNumber.cls ≠ "java/lang/invoke/MethodHandle" ∧ yX6_readNumber.cls ≠ "java/lang/invoke/VarHandle" ∧ (parseMethodDescriptor yX6_readNumber.desc).map (fun d => d.parameters.length) = some 1 := by decide +kernel
theorem hd3_X6_readNumber : yX6_readNumber.cls ≠ "java/lang/invoke/MethodHandle" ∧ yX6_readNumber.cls ≠ "java/lang/invoke/VarHandle" ∧ (parseMethodDescriptor yX6_readNumber.desc).map (fun d => d.parameters.length) = some 1 := hd_X6_readNumber.2
def ws_X6_readPhase : List Cond := .code yX6_readPhase cX6_readPhase 2 (some .boolean) :: BIG
theorem hd_X6_readPhase : yX6_readPhase.cls = RX6 ∧ yX6_readPhase.cls ≠ "java/lang/invoke/MethodHandle" ∧ yX6_readPhase.cls ≠ "java/lang/invoke/VarHandle" ∧ (parseMethodDescriptor yX6_readPhase.desc).map (fun d => d.parameters.length) = some 1 := by decide +kernel
theorem hd3_X6_readPhase : yX6_readPhase.cls ≠ "java/lang/invoke/MethodHandle" ∧ yX6_readPhase.cls ≠ "java/lang/invoke/VarHandle" ∧ (parseMethodDescriptor yX6_readPhase.desc).map (fun d => d.parameters.length) = some 1 := hd_X6_readPhase.2
def ws_X6_readSign : List Cond := .code yX6_readSign cX6_readSign 2 (some .boolean) :: BIG
theorem hd_X6_readSign : yX6_readSign.cls = RX6 ∧ yX6_readSign.cls ≠ "java/lang/invoke/MethodHandle" ∧ yX6_readSign.cls ≠ "java/lang/invoke/VarHandle" ∧ (parseMethodDescriptor yX6_readSign.desc).map (fun d => d.parameters.length) = some 1 := by decide +kernel
theorem hd3_X6_readSign : yX6_readSign.cls ≠ "java/lang/invoke/MethodHandle" ∧ yX6_readSign.cls ≠ "java/lang/invoke/VarHandle" ∧ (parseMethodDescriptor yX6_readSign.desc).map (fun d => d.parameters.length) = some 1 := hd_X6_readSign.2
def ws_X6_readWord : List Cond := .code yX6_readWord cX6_readWord 4 (some .int) :: BIG
theorem hd_X6_readWord : yX6_readWord.cls = RX6 ∧ yX6_readWord.cls ≠ "java/lang/invoke/MethodHandle" ∧ yX6_readWord.cls ≠ "java/lang/invoke/VarHandle" ∧ (parseMethodDescriptor yX6_readWord.desc).map (fun d => d.parameters.length) = some 0 := by decide +kernel
theorem hd3_X6_readWord : yX6_readWord.cls ≠ "java/lang/invoke/MethodHandle" ∧ yX6_readWord.cls ≠ "java/lang/invoke/VarHandle" ∧ (parseMethodDescriptor yX6_readWord.desc).map (fun d => d.parameters.length) = some 0 := hd_X6_readWord.2
def ws_X6_signsAlike : List Cond := .code yX6_signsAlike cX6_signsAlike 3 (some .int) :: BIG
theorem hd_X6_signsAlike : yX6_signsAlike.cls = RX6 ∧ yX6_signsAlike.cls ≠ "java/lang/invoke/MethodHandle" ∧ yX6_signsAlike.cls ≠ "java/lang/invoke/VarHandle" ∧ (parseMethodDescriptor yX6_signsAlike.desc).map (fun d => d.parameters.length) = some 1 := by decide +kernel
theorem hd3_X6_signsAlike : yX6_signsAlike.cls ≠ "java/lang/invoke/MethodHandle" ∧ yX6_signsAlike.cls ≠ "java/lang/invoke/VarHandle" ∧ (parseMethodDescriptor yX6_signsAlike.desc).map (fun d => d.parameters.length) = some 1 := hd_X6_signsAlike.2
def ws_X6_spelling : List Cond := .code yX6_spelling cX6_spelling 1 (some (.object "java/lang/String")) :: BIG
theorem hd_X6_spelling : yX6_spelling.cls = RX6 ∧ yX6_spelling.cls ≠ "java/lang/invoke/MethodHandle" ∧ yX6_spelling.cls ≠ "java/lang/invoke/VarHandle" ∧ (parseMethodDescriptor yX6_spelling.desc).map (fun d => d.parameters.length) = some 1 := by decide +kernel
theorem hd3_X6_spelling : yX6_spelling.cls ≠ "java/lang/invoke/MethodHandle" ∧ yX6_spelling.cls ≠ "java/lang/invoke/VarHandle" ∧ (parseMethodDescriptor yX6_spelling.desc).map (fun d => d.parameters.length) = some 1 := hd_X6_spelling.2
def ws_X7_addPhase : List Cond := .code yX7_addPhase cX7_addPhase 5 (some .int) :: BIG
theorem hd_X7_addPhase : yX7_addPhase.cls = RX7 ∧ yX7_addPhase.cls ≠ "java/lang/invoke/MethodHandle" ∧ yX7_addPhase.cls ≠ "java/lang/invoke/VarHandle" ∧ (parseMethodDescriptor yX7_addPhase.desc).map (fun d => d.parameters.length) = some 3 := by decide +kernel
theorem hd3_X7_addPhase : yX7_addPhase.cls ≠ "java/lang/invoke/MethodHandle" ∧ yX7_addPhase.cls ≠ "java/lang/invoke/VarHandle" ∧ (parseMethodDescriptor yX7_addPhase.desc).map (fun d => d.parameters.length) = some 3 := hd_X7_addPhase.2
def ws_X7_carryOutCommand : List Cond := .code yX7_carryOutCommand cX7_carryOutCommand 3 none :: BIG
theorem hd_X7_carryOutCommand : yX7_carryOutCommand.cls = RX7 ∧ yX7_carryOutCommand.cls ≠ "java/lang/invoke/MethodHandle" ∧ yX7_carryOutCommand.cls ≠ "java/lang/invoke/VarHandle" ∧ (parseMethodDescriptor yX7_carryOutCommand.desc).map (fun d => d.parameters.length) = some 1 := by decide +kernel
theorem hd3_X7_carryOutCommand : yX7_carryOutCommand.cls ≠ "java/lang/invoke/MethodHandle" ∧ yX7_carryOutCommand.cls ≠ "java/lang/invoke/VarHandle" ∧ (parseMethodDescriptor yX7_carryOutCommand.desc).map (fun d => d.parameters.length) = some 1 := hd_X7_carryOutCommand.2
def ws_X7_coolShare : List Cond := .code yX7_coolShare cX7_coolShare 2 (some .float) :: BIG
theorem hd_X7_coolShare : yX7_coolShare.cls = RX7 ∧ yX7_coolShare.cls ≠ "java/lang/invoke/MethodHandle" ∧ yX7_coolShare.cls ≠ "java/lang/invoke/VarHandle" ∧ (parseMethodDescriptor yX7_coolShare.desc).map (fun d => d.parameters.length) = some 0 := by decide +kernel
theorem hd3_X7_coolShare : yX7_coolShare.cls ≠ "java/lang/invoke/MethodHandle" ∧ yX7_coolShare.cls ≠ "java/lang/invoke/VarHandle" ∧ (parseMethodDescriptor yX7_coolShare.desc).map (fun d => d.parameters.length) = some 0 := hd_X7_coolShare.2
def ws_X7_cracks : List Cond := .code yX7_cracks cX7_cracks 2 (some .int) :: BIG
theorem hd_X7_cracks : yX7_cracks.cls = RX7 ∧ yX7_cracks.cls ≠ "java/lang/invoke/MethodHandle" ∧ yX7_cracks.cls ≠ "java/lang/invoke/VarHandle" ∧ (parseMethodDescriptor yX7_cracks.desc).map (fun d => d.parameters.length) = some 1 := by decide +kernel
theorem hd3_X7_cracks : yX7_cracks.cls ≠ "java/lang/invoke/MethodHandle" ∧ yX7_cracks.cls ≠ "java/lang/invoke/VarHandle" ∧ (parseMethodDescriptor yX7_cracks.desc).map (fun d => d.parameters.length) = some 1 := hd_X7_cracks.2
def ws_X7_crush : List Cond := .code yX7_crush cX7_crush 3 (some .int) :: BIG
theorem hd_X7_crush : yX7_crush.cls = RX7 ∧ yX7_crush.cls ≠ "java/lang/invoke/MethodHandle" ∧ yX7_crush.cls ≠ "java/lang/invoke/VarHandle" ∧ (parseMethodDescriptor yX7_crush.desc).map (fun d => d.parameters.length) = some 1 := by decide +kernel
theorem hd3_X7_crush : yX7_crush.cls ≠ "java/lang/invoke/MethodHandle" ∧ yX7_crush.cls ≠ "java/lang/invoke/VarHandle" ∧ (parseMethodDescriptor yX7_crush.desc).map (fun d => d.parameters.length) = some 1 := hd_X7_crush.2
def ws_X7_denial : List Cond := .code yX7_denial cX7_denial 1 (some .int) :: BIG
theorem hd_X7_denial : yX7_denial.cls = RX7 ∧ yX7_denial.cls ≠ "java/lang/invoke/MethodHandle" ∧ yX7_denial.cls ≠ "java/lang/invoke/VarHandle" ∧ (parseMethodDescriptor yX7_denial.desc).map (fun d => d.parameters.length) = some 0 := by decide +kernel
theorem hd3_X7_denial : yX7_denial.cls ≠ "java/lang/invoke/MethodHandle" ∧ yX7_denial.cls ≠ "java/lang/invoke/VarHandle" ∧ (parseMethodDescriptor yX7_denial.desc).map (fun d => d.parameters.length) = some 0 := hd_X7_denial.2
def ws_X7_denialCause : List Cond := .code yX7_denialCause cX7_denialCause 1 (some .int) :: BIG
theorem hd_X7_denialCause : yX7_denialCause.cls = RX7 ∧ yX7_denialCause.cls ≠ "java/lang/invoke/MethodHandle" ∧ yX7_denialCause.cls ≠ "java/lang/invoke/VarHandle" ∧ (parseMethodDescriptor yX7_denialCause.desc).map (fun d => d.parameters.length) = some 0 := by decide +kernel
theorem hd3_X7_denialCause : yX7_denialCause.cls ≠ "java/lang/invoke/MethodHandle" ∧ yX7_denialCause.cls ≠ "java/lang/invoke/VarHandle" ∧ (parseMethodDescriptor yX7_denialCause.desc).map (fun d => d.parameters.length) = some 0 := hd_X7_denialCause.2
def ws_X7_execute : List Cond := .code yX7_execute cX7_execute 4 (some .int) :: BIG
theorem hd_X7_execute : yX7_execute.cls = RX7 ∧ yX7_execute.cls ≠ "java/lang/invoke/MethodHandle" ∧ yX7_execute.cls ≠ "java/lang/invoke/VarHandle" ∧ (parseMethodDescriptor yX7_execute.desc).map (fun d => d.parameters.length) = some 0 := by decide +kernel
theorem hd3_X7_execute : yX7_execute.cls ≠ "java/lang/invoke/MethodHandle" ∧ yX7_execute.cls ≠ "java/lang/invoke/VarHandle" ∧ (parseMethodDescriptor yX7_execute.desc).map (fun d => d.parameters.length) = some 0 := hd_X7_execute.2
def ws_X7_feed : List Cond := .code yX7_feed cX7_feed 2 (some .int) :: BIG
theorem hd_X7_feed : yX7_feed.cls = RX7 ∧ yX7_feed.cls ≠ "java/lang/invoke/MethodHandle" ∧ yX7_feed.cls ≠ "java/lang/invoke/VarHandle" ∧ (parseMethodDescriptor yX7_feed.desc).map (fun d => d.parameters.length) = some 1 := by decide +kernel
theorem hd3_X7_feed : yX7_feed.cls ≠ "java/lang/invoke/MethodHandle" ∧ yX7_feed.cls ≠ "java/lang/invoke/VarHandle" ∧ (parseMethodDescriptor yX7_feed.desc).map (fun d => d.parameters.length) = some 1 := hd_X7_feed.2
def ws_X7_finishedCycles : List Cond := .code yX7_finishedCycles cX7_finishedCycles 1 (some .int) :: BIG
theorem hd_X7_finishedCycles : yX7_finishedCycles.cls = RX7 ∧ yX7_finishedCycles.cls ≠ "java/lang/invoke/MethodHandle" ∧ yX7_finishedCycles.cls ≠ "java/lang/invoke/VarHandle" ∧ (parseMethodDescriptor yX7_finishedCycles.desc).map (fun d => d.parameters.length) = some 0 := by decide +kernel
theorem hd3_X7_finishedCycles : yX7_finishedCycles.cls ≠ "java/lang/invoke/MethodHandle" ∧ yX7_finishedCycles.cls ≠ "java/lang/invoke/VarHandle" ∧ (parseMethodDescriptor yX7_finishedCycles.desc).map (fun d => d.parameters.length) = some 0 := hd_X7_finishedCycles.2
def ws_X7_firmness : List Cond := .code yX7_firmness cX7_firmness 2 (some .int) :: BIG
theorem hd_X7_firmness : yX7_firmness.cls = RX7 ∧ yX7_firmness.cls ≠ "java/lang/invoke/MethodHandle" ∧ yX7_firmness.cls ≠ "java/lang/invoke/VarHandle" ∧ (parseMethodDescriptor yX7_firmness.desc).map (fun d => d.parameters.length) = some 1 := by decide +kernel
theorem hd3_X7_firmness : yX7_firmness.cls ≠ "java/lang/invoke/MethodHandle" ∧ yX7_firmness.cls ≠ "java/lang/invoke/VarHandle" ∧ (parseMethodDescriptor yX7_firmness.desc).map (fun d => d.parameters.length) = some 1 := hd_X7_firmness.2
def ws_X7_gradePat : List Cond := .code yX7_gradePat cX7_gradePat 3 (some .char) :: BIG
theorem hd_X7_gradePat : yX7_gradePat.cls = RX7 ∧ yX7_gradePat.cls ≠ "java/lang/invoke/MethodHandle" ∧ yX7_gradePat.cls ≠ "java/lang/invoke/VarHandle" ∧ (parseMethodDescriptor yX7_gradePat.desc).map (fun d => d.parameters.length) = some 1 := by decide +kernel
theorem hd3_X7_gradePat : yX7_gradePat.cls ≠ "java/lang/invoke/MethodHandle" ∧ yX7_gradePat.cls ≠ "java/lang/invoke/VarHandle" ∧ (parseMethodDescriptor yX7_gradePat.desc).map (fun d => d.parameters.length) = some 1 := hd_X7_gradePat.2
def ws_X7_gradedCount : List Cond := .code yX7_gradedCount cX7_gradedCount 3 (some .int) :: BIG
theorem hd_X7_gradedCount : yX7_gradedCount.cls = RX7 ∧ yX7_gradedCount.cls ≠ "java/lang/invoke/MethodHandle" ∧ yX7_gradedCount.cls ≠ "java/lang/invoke/VarHandle" ∧ (parseMethodDescriptor yX7_gradedCount.desc).map (fun d => d.parameters.length) = some 1 := by decide +kernel
theorem hd3_X7_gradedCount : yX7_gradedCount.cls ≠ "java/lang/invoke/MethodHandle" ∧ yX7_gradedCount.cls ≠ "java/lang/invoke/VarHandle" ∧ (parseMethodDescriptor yX7_gradedCount.desc).map (fun d => d.parameters.length) = some 1 := hd_X7_gradedCount.2
def ws_X7_gradedMass : List Cond := .code yX7_gradedMass cX7_gradedMass 1 (some .int) :: BIG
theorem hd_X7_gradedMass : yX7_gradedMass.cls = RX7 ∧ yX7_gradedMass.cls ≠ "java/lang/invoke/MethodHandle" ∧ yX7_gradedMass.cls ≠ "java/lang/invoke/VarHandle" ∧ (parseMethodDescriptor yX7_gradedMass.desc).map (fun d => d.parameters.length) = some 0 := by decide +kernel
theorem hd3_X7_gradedMass : yX7_gradedMass.cls ≠ "java/lang/invoke/MethodHandle" ∧ yX7_gradedMass.cls ≠ "java/lang/invoke/VarHandle" ∧ (parseMethodDescriptor yX7_gradedMass.desc).map (fun d => d.parameters.length) = some 0 := hd_X7_gradedMass.2
def ws_X7_init : List Cond := .code yX7_init cX7_init 1 none :: BIG
theorem hd_X7_init : yX7_init.cls = RX7 ∧ yX7_init.cls ≠ "java/lang/invoke/MethodHandle" ∧ yX7_init.cls ≠ "java/lang/invoke/VarHandle" ∧ (parseMethodDescriptor yX7_init.desc).map (fun d => d.parameters.length) = some 0 := by decide +kernel
theorem hd3_X7_init : yX7_init.cls ≠ "java/lang/invoke/MethodHandle" ∧ yX7_init.cls ≠ "java/lang/invoke/VarHandle" ∧ (parseMethodDescriptor yX7_init.desc).map (fun d => d.parameters.length) = some 0 := hd_X7_init.2
def ws_X7_isCool : List Cond := .code yX7_isCool cX7_isCool 2 (some .boolean) :: BIG
theorem hd_X7_isCool : yX7_isCool.cls = RX7 ∧ yX7_isCool.cls ≠ "java/lang/invoke/MethodHandle" ∧ yX7_isCool.cls ≠ "java/lang/invoke/VarHandle" ∧ (parseMethodDescriptor yX7_isCool.desc).map (fun d => d.parameters.length) = some 1 := by decide +kernel
theorem hd3_X7_isCool : yX7_isCool.cls ≠ "java/lang/invoke/MethodHandle" ∧ yX7_isCool.cls ≠ "java/lang/invoke/VarHandle" ∧ (parseMethodDescriptor yX7_isCool.desc).map (fun d => d.parameters.length) = some 1 := hd_X7_isCool.2
def ws_X7_isRunning : List Cond := .code yX7_isRunning cX7_isRunning 1 (some .boolean) :: BIG
theorem hd_X7_isRunning : yX7_isRunning.cls = RX7 ∧ yX7_isRunning.cls ≠ "java/lang/invoke/MethodHandle" ∧ yX7_isRunning.cls ≠ "java/lang/invoke/VarHandle" ∧ (parseMethodDescriptor yX7_isRunning.desc).map (fun d => d.parameters.length) = some 0 := by decide +kernel
theorem hd3_X7_isRunning : yX7_isRunning.cls ≠ "java/lang/invoke/MethodHandle" ∧ yX7_isRunning.cls ≠ "java/lang/invoke/VarHandle" ∧ (parseMethodDescriptor yX7_isRunning.desc).map (fun d => d.parameters.length) = some 0 := hd_X7_isRunning.2
def ws_X7_isWithin : List Cond := .code yX7_isWithin cX7_isWithin 3 (some .boolean) :: BIG
theorem hd_X7_isWithin : yX7_isWithin.cls = RX7 ∧ yX7_isWithin.cls ≠ "java/lang/invoke/MethodHandle" ∧ yX7_isWithin.cls ≠ "java/lang/invoke/VarHandle" ∧ (parseMethodDescriptor yX7_isWithin.desc).map (fun d => d.parameters.length) = some 3 := by decide +kernel
theorem hd3_X7_isWithin : yX7_isWithin.cls ≠ "java/lang/invoke/MethodHandle" ∧ yX7_isWithin.cls ≠ "java/lang/invoke/VarHandle" ∧ (parseMethodDescriptor yX7_isWithin.desc).map (fun d => d.parameters.length) = some 3 := hd_X7_isWithin.2
def ws_X7_judgeCommand : List Cond := .code yX7_judgeCommand cX7_judgeCommand 3 (some .int) :: BIG
theorem hd_X7_judgeCommand : yX7_judgeCommand.cls = RX7 ∧ yX7_judgeCommand.cls ≠ "java/lang/invoke/MethodHandle" ∧ yX7_judgeCommand.cls ≠ "java/lang/invoke/VarHandle" ∧ (parseMethodDescriptor yX7_judgeCommand.desc).map (fun d => d.parameters.length) = some 1 := by decide +kernel
theorem hd3_X7_judgeCommand : yX7_judgeCommand.cls ≠ "java/lang/invoke/MethodHandle" ∧ yX7_judgeCommand.cls ≠ "java/lang/invoke/VarHandle" ∧ (parseMethodDescriptor yX7_judgeCommand.desc).map (fun d => d.parameters.length) = some 1 := hd_X7_judgeCommand.2
def ws_X7_keepDenial : List Cond := .code yX7_keepDenial cX7_keepDenial 4 none :: BIG
theorem hd_X7_keepDenial : yX7_keepDenial.cls = RX7 ∧ yX7_keepDenial.cls ≠ "java/lang/invoke/MethodHandle" ∧ yX7_keepDenial.cls ≠ "java/lang/invoke/VarHandle" ∧ (parseMethodDescriptor yX7_keepDenial.desc).map (fun d => d.parameters.length) = some 3 := by decide +kernel
theorem hd3_X7_keepDenial : yX7_keepDenial.cls ≠ "java/lang/invoke/MethodHandle" ∧ yX7_keepDenial.cls ≠ "java/lang/invoke/VarHandle" ∧ (parseMethodDescriptor yX7_keepDenial.desc).map (fun d => d.parameters.length) = some 3 := hd_X7_keepDenial.2
def ws_X7_load : List Cond := .code yX7_load cX7_load 3 (some .int) :: BIG
theorem hd_X7_load : yX7_load.cls = RX7 ∧ yX7_load.cls ≠ "java/lang/invoke/MethodHandle" ∧ yX7_load.cls ≠ "java/lang/invoke/VarHandle" ∧ (parseMethodDescriptor yX7_load.desc).map (fun d => d.parameters.length) = some 1 := by decide +kernel
theorem hd3_X7_load : yX7_load.cls ≠ "java/lang/invoke/MethodHandle" ∧ yX7_load.cls ≠ "java/lang/invoke/VarHandle" ∧ (parseMethodDescriptor yX7_load.desc).map (fun d => d.parameters.length) = some 1 := hd_X7_load.2
def ws_X7_loadedMass : List Cond := .code yX7_loadedMass cX7_loadedMass 1 (some .int) :: BIG
theorem hd_X7_loadedMass : yX7_loadedMass.cls = RX7 ∧ yX7_loadedMass.cls ≠ "java/lang/invoke/MethodHandle" ∧ yX7_loadedMass.cls ≠ "java/lang/invoke/VarHandle" ∧ (parseMethodDescriptor yX7_loadedMass.desc).map (fun d => d.parameters.length) = some 0 := by decide +kernel
theorem hd3_X7_loadedMass : yX7_loadedMass.cls ≠ "java/lang/invoke/MethodHandle" ∧ yX7_loadedMass.cls ≠ "java/lang/invoke/VarHandle" ∧ (parseMethodDescriptor yX7_loadedMass.desc).map (fun d => d.parameters.length) = some 0 := hd_X7_loadedMass.2
def ws_X7_mass : List Cond := .code yX7_mass cX7_mass 1 (some .int) :: BIG
theorem hd_X7_mass : yX7_mass.cls = RX7 ∧ yX7_mass.cls ≠ "java/lang/invoke/MethodHandle" ∧ yX7_mass.cls ≠ "java/lang/invoke/VarHandle" ∧ (parseMethodDescriptor yX7_mass.desc).map (fun d => d.parameters.length) = some 0 := by decide +kernel
theorem hd3_X7_mass : yX7_mass.cls ≠ "java/lang/invoke/MethodHandle" ∧ yX7_mass.cls ≠ "java/lang/invoke/VarHandle" ∧ (parseMethodDescriptor yX7_mass.desc).map (fun d => d.parameters.length) = some 0 := hd_X7_mass.2
def ws_X7_meanFirmness : List Cond := .code yX7_meanFirmness cX7_meanFirmness 2 (some .double) :: BIG
theorem hd_X7_meanFirmness : yX7_meanFirmness.cls = RX7 ∧ yX7_meanFirmness.cls ≠ "java/lang/invoke/MethodHandle" ∧ yX7_meanFirmness.cls ≠ "java/lang/invoke/VarHandle" ∧ (parseMethodDescriptor yX7_meanFirmness.desc).map (fun d => d.parameters.length) = some 0 := by decide +kernel
theorem hd3_X7_meanFirmness : yX7_meanFirmness.cls ≠ "java/lang/invoke/MethodHandle" ∧ yX7_meanFirmness.cls ≠ "java/lang/invoke/VarHandle" ∧ (parseMethodDescriptor yX7_meanFirmness.desc).map (fun d => d.parameters.length) = some 0 := hd_X7_meanFirmness.2
def ws_X7_minute : List Cond := .code yX7_minute cX7_minute 1 (some .int) :: BIG
theorem hd_X7_minute : yX7_minute.cls = RX7 ∧ yX7_minute.cls ≠ "java/lang/invoke/MethodHandle" ∧ yX7_minute.cls ≠ "java/lang/invoke/VarHandle" ∧ (parseMethodDescriptor yX7_minute.desc).map (fun d => d.parameters.length) = some 0 := by decide +kernel
theorem hd3_X7_minute : yX7_minute.cls ≠ "java/lang/invoke/MethodHandle" ∧ yX7_minute.cls ≠ "java/lang/invoke/VarHandle" ∧ (parseMethodDescriptor yX7_minute.desc).map (fun d => d.parameters.length) = some 0 := hd_X7_minute.2
def ws_X7_minutesLeft : List Cond := .code yX7_minutesLeft cX7_minutesLeft 2 (some .int) :: BIG
theorem hd_X7_minutesLeft : yX7_minutesLeft.cls = RX7 ∧ yX7_minutesLeft.cls ≠ "java/lang/invoke/MethodHandle" ∧ yX7_minutesLeft.cls ≠ "java/lang/invoke/VarHandle" ∧ (parseMethodDescriptor yX7_minutesLeft.desc).map (fun d => d.parameters.length) = some 0 := by decide +kernel
theorem hd3_X7_minutesLeft : yX7_minutesLeft.cls ≠ "java/lang/invoke/MethodHandle" ∧ yX7_minutesLeft.cls ≠ "java/lang/invoke/VarHandle" ∧ (parseMethodDescriptor yX7_minutesLeft.desc).map (fun d => d.parameters.length) = some 0 := hd_X7_minutesLeft.2
def ws_X7_minutesLeftByPhases : List Cond := .code yX7_minutesLeftByPhases cX7_minutesLeftByPhases 1 (some .int) :: BIG
theorem hd_X7_minutesLeftByPhases : yX7_minutesLeftByPhases.cls = RX7 ∧ yX7_minutesLeftByPhases.cls ≠ "java/lang/invoke/MethodHandle" ∧ yX7_minutesLeftByPhases.cls ≠ "java/lang/invoke/VarHandle" ∧ (parseMethodDescriptor yX7_minutesLeftByPhases.desc).map (fun d => d.parameters.length) = some 0 := by decide +kernel
theorem hd3_X7_minutesLeftByPhases : yX7_minutesLeftByPhases.cls ≠ "java/lang/invoke/MethodHandle" ∧ yX7_minutesLeftByPhases.cls ≠ "java/lang/invoke/VarHandle" ∧ (parseMethodDescriptor yX7_minutesLeftByPhases.desc).map (fun d => d.parameters.length) = some 0 := hd_X7_minutesLeftByPhases.2
def ws_X7_minutesUntilCool : List Cond := .code yX7_minutesUntilCool cX7_minutesUntilCool 3 (some .int) :: BIG
theorem hd_X7_minutesUntilCool : yX7_minutesUntilCool.cls = RX7 ∧ yX7_minutesUntilCool.cls ≠ "java/lang/invoke/MethodHandle" ∧ yX7_minutesUntilCool.cls ≠ "java/lang/invoke/VarHandle" ∧ (parseMethodDescriptor yX7_minutesUntilCool.desc).map (fun d => d.parameters.length) = some 1 := by decide +kernel
theorem hd3_X7_minutesUntilCool : yX7_minutesUntilCool.cls ≠ "java/lang/invoke/MethodHandle" ∧ yX7_minutesUntilCool.cls ≠ "java/lang/invoke/VarHandle" ∧ (parseMethodDescriptor yX7_minutesUntilCool.desc).map (fun d => d.parameters.length) = some 1 := hd_X7_minutesUntilCool.2
def ws_X7_minutesUntilCoolByDivision : List Cond := .code yX7_minutesUntilCoolByDivision cX7_minutesUntilCoolByDivision 3 (some .int) :: BIG
theorem hd_X7_minutesUntilCoolByDivision : yX7_minutesUntilCoolByDivision.cls = RX7 ∧ yX7_minutesUntilCoolByDivision.cls ≠ "java/lang/invoke/MethodHandle" ∧ yX7_minutesUntilCoolByDivision.cls ≠ "java/lang/invoke/VarHandle" ∧ (parseMethodDescriptor yX7_minutesUntilCoolByDivision.desc).map (fun d => d.parameters.length) = some 1 := by decide +kernel
theorem hd3_X7_minutesUntilCoolByDivision : yX7_minutesUntilCoolByDivision.cls ≠ "java/lang/invoke/MethodHandle" ∧ yX7_minutesUntilCoolByDivision.cls ≠ "java/lang/invoke/VarHandle" ∧ (parseMethodDescriptor yX7_minutesUntilCoolByDivision.desc).map (fun d => d.parameters.length) = some 1 := hd_X7_minutesUntilCoolByDivision.2
def ws_X7_nextCool : List Cond := .code yX7_nextCool cX7_nextCool 3 (some .int) :: BIG
theorem hd_X7_nextCool : yX7_nextCool.cls = RX7 ∧ yX7_nextCool.cls ≠ "java/lang/invoke/MethodHandle" ∧ yX7_nextCool.cls ≠ "java/lang/invoke/VarHandle" ∧ (parseMethodDescriptor yX7_nextCool.desc).map (fun d => d.parameters.length) = some 1 := by decide +kernel
theorem hd3_X7_nextCool : yX7_nextCool.cls ≠ "java/lang/invoke/MethodHandle" ∧ yX7_nextCool.cls ≠ "java/lang/invoke/VarHandle" ∧ (parseMethodDescriptor yX7_nextCool.desc).map (fun d => d.parameters.length) = some 1 := hd_X7_nextCool.2
def ws_X7_patByFirmness : List Cond := .code yX7_patByFirmness cX7_patByFirmness 3 (some .int) :: BIG
theorem hd_X7_patByFirmness : yX7_patByFirmness.cls = RX7 ∧ yX7_patByFirmness.cls ≠ "java/lang/invoke/MethodHandle" ∧ yX7_patByFirmness.cls ≠ "java/lang/invoke/VarHandle" ∧ (parseMethodDescriptor yX7_patByFirmness.desc).map (fun d => d.parameters.length) = some 1 := by decide +kernel
theorem hd3_X7_patByFirmness : yX7_patByFirmness.cls ≠ "java/lang/invoke/MethodHandle" ∧ yX7_patByFirmness.cls ≠ "java/lang/invoke/VarHandle" ∧ (parseMethodDescriptor yX7_patByFirmness.desc).map (fun d => d.parameters.length) = some 1 := hd_X7_patByFirmness.2
def ws_X7_patCount : List Cond := .code yX7_patCount cX7_patCount 1 (some .int) :: BIG
theorem hd_X7_patCount : yX7_patCount.cls = RX7 ∧ yX7_patCount.cls ≠ "java/lang/invoke/MethodHandle" ∧ yX7_patCount.cls ≠ "java/lang/invoke/VarHandle" ∧ (parseMethodDescriptor yX7_patCount.desc).map (fun d => d.parameters.length) = some 0 := by decide +kernel
theorem hd3_X7_patCount : yX7_patCount.cls ≠ "java/lang/invoke/MethodHandle" ∧ yX7_patCount.cls ≠ "java/lang/invoke/VarHandle" ∧ (parseMethodDescriptor yX7_patCount.desc).map (fun d => d.parameters.length) = some 0 := hd_X7_patCount.2
def ws_X7_patMass : List Cond := .code yX7_patMass cX7_patMass 2 (some .int) :: BIG
theorem hd_X7_patMass : yX7_patMass.cls = RX7 ∧ yX7_patMass.cls ≠ "java/lang/invoke/MethodHandle" ∧ yX7_patMass.cls ≠ "java/lang/invoke/VarHandle" ∧ (parseMethodDescriptor yX7_patMass.desc).map (fun d => d.parameters.length) = some 1 := by decide +kernel
theorem hd3_X7_patMass : yX7_patMass.cls ≠ "java/lang/invoke/MethodHandle" ∧ yX7_patMass.cls ≠ "java/lang/invoke/VarHandle" ∧ (parseMethodDescriptor yX7_patMass.desc).map (fun d => d.parameters.length) = some 1 := hd_X7_patMass.2
def ws_X7_patTemperature : List Cond := .code yX7_patTemperature cX7_patTemperature 2 (some .int) :: BIG
theorem hd_X7_patTemperature : yX7_patTemperature.cls = RX7 ∧ yX7_patTemperature.cls ≠ "java/lang/invoke/MethodHandle" ∧ yX7_patTemperature.cls ≠ "java/lang/invoke/VarHandle" ∧ (parseMethodDescriptor yX7_patTemperature.desc).map (fun d => d.parameters.length) = some 1 := by decide +kernel
theorem hd3_X7_patTemperature : yX7_patTemperature.cls ≠ "java/lang/invoke/MethodHandle" ∧ yX7_patTemperature.cls ≠ "java/lang/invoke/VarHandle" ∧ (parseMethodDescriptor yX7_patTemperature.desc).map (fun d => d.parameters.length) = some 1 := hd_X7_patTemperature.2
def ws_X7_peakTemperature : List Cond := .code yX7_peakTemperature cX7_peakTemperature 3 (some .int) :: BIG
theorem hd_X7_peakTemperature : yX7_peakTemperature.cls = RX7 ∧ yX7_peakTemperature.cls ≠ "java/lang/invoke/MethodHandle" ∧ yX7_peakTemperature.cls ≠ "java/lang/invoke/VarHandle" ∧ (parseMethodDescriptor yX7_peakTemperature.desc).map (fun d => d.parameters.length) = some 0 := by decide +kernel
theorem hd3_X7_peakTemperature : yX7_peakTemperature.cls ≠ "java/lang/invoke/MethodHandle" ∧ yX7_peakTemperature.cls ≠ "java/lang/invoke/VarHandle" ∧ (parseMethodDescriptor yX7_peakTemperature.desc).map (fun d => d.parameters.length) = some 0 := hd_X7_peakTemperature.2
def ws_X7_phaseCount : List Cond := .code yX7_phaseCount cX7_phaseCount 1 (some .int) :: BIG
theorem hd_X7_phaseCount : yX7_phaseCount.cls = RX7 ∧ yX7_phaseCount.cls ≠ "java/lang/invoke/MethodHandle" ∧ yX7_phaseCount.cls ≠ "java/lang/invoke/VarHandle" ∧ (parseMethodDescriptor yX7_phaseCount.desc).map (fun d => d.parameters.length) = some 0 := by decide +kernel
theorem hd3_X7_phaseCount : yX7_phaseCount.cls ≠ "java/lang/invoke/MethodHandle" ∧ yX7_phaseCount.cls ≠ "java/lang/invoke/VarHandle" ∧ (parseMethodDescriptor yX7_phaseCount.desc).map (fun d => d.parameters.length) = some 0 := hd_X7_phaseCount.2
def ws_X7_phaseKind : List Cond := .code yX7_phaseKind cX7_phaseKind 2 (some .char) :: BIG
theorem hd_X7_phaseKind : yX7_phaseKind.cls = RX7 ∧ yX7_phaseKind.cls ≠ "java/lang/invoke/MethodHandle" ∧ yX7_phaseKind.cls ≠ "java/lang/invoke/VarHandle" ∧ (parseMethodDescriptor yX7_phaseKind.desc).map (fun d => d.parameters.length) = some 1 := by decide +kernel
theorem hd3_X7_phaseKind : yX7_phaseKind.cls ≠ "java/lang/invoke/MethodHandle" ∧ yX7_phaseKind.cls ≠ "java/lang/invoke/VarHandle" ∧ (parseMethodDescriptor yX7_phaseKind.desc).map (fun d => d.parameters.length) = some 1 := hd_X7_phaseKind.2
def ws_X7_phaseMinutes : List Cond := .code yX7_phaseMinutes cX7_phaseMinutes 2 (some .int) :: BIG
theorem hd_X7_phaseMinutes : yX7_phaseMinutes.cls = RX7 ∧ yX7_phaseMinutes.cls ≠ "java/lang/invoke/MethodHandle" ∧ yX7_phaseMinutes.cls ≠ "java/lang/invoke/VarHandle" ∧ (parseMethodDescriptor yX7_phaseMinutes.desc).map (fun d => d.parameters.length) = some 1 := by decide +kernel
theorem hd3_X7_phaseMinutes : yX7_phaseMinutes.cls ≠ "java/lang/invoke/MethodHandle" ∧ yX7_phaseMinutes.cls ≠ "java/lang/invoke/VarHandle" ∧ (parseMethodDescriptor yX7_phaseMinutes.desc).map (fun d => d.parameters.length) = some 1 := hd_X7_phaseMinutes.2
def ws_X7_presentPhase : List Cond := .code yX7_presentPhase cX7_presentPhase 1 (some .int) :: BIG
theorem hd_X7_presentPhase : yX7_presentPhase.cls = RX7 ∧ yX7_presentPhase.cls ≠ "java/lang/invoke/MethodHandle" ∧ yX7_presentPhase.cls ≠ "java/lang/invoke/VarHandle" ∧ (parseMethodDescriptor yX7_presentPhase.desc).map (fun d => d.parameters.length) = some 0 := by decide +kernel
theorem hd3_X7_presentPhase : yX7_presentPhase.cls ≠ "java/lang/invoke/MethodHandle" ∧ yX7_presentPhase.cls ≠ "java/lang/invoke/VarHandle" ∧ (parseMethodDescriptor yX7_presentPhase.desc).map (fun d => d.parameters.length) = some 0 := hd_X7_presentPhase.2
def ws_X7_press : List Cond := .code yX7_press cX7_press 3 (some .int) :: BIG
theorem hd_X7_press : yX7_press.cls = RX7 ∧ yX7_press.cls ≠ "java/lang/invoke/MethodHandle" ∧ yX7_press.cls ≠ "java/lang/invoke/VarHandle" ∧ (parseMethodDescriptor yX7_press.desc).map (fun d => d.parameters.length) = some 1 := by decide +kernel
theorem hd3_X7_press : yX7_press.cls ≠ "java/lang/invoke/MethodHandle" ∧ yX7_press.cls ≠ "java/lang/invoke/VarHandle" ∧ (parseMethodDescriptor yX7_press.desc).map (fun d => d.parameters.length) = some 1 := hd_X7_press.2
def ws_X7_removePhase : List Cond := .code yX7_removePhase cX7_removePhase 3 (some .int) :: BIG
theorem hd_X7_removePhase : yX7_removePhase.cls = RX7 ∧ yX7_removePhase.cls ≠ "java/lang/invoke/MethodHandle" ∧ yX7_removePhase.cls ≠ "java/lang/invoke/VarHandle" ∧ (parseMethodDescriptor yX7_removePhase.desc).map (fun d => d.parameters.length) = some 1 := by decide +kernel
theorem hd3_X7_removePhase : yX7_removePhase.cls ≠ "java/lang/invoke/MethodHandle" ∧ yX7_removePhase.cls ≠ "java/lang/invoke/VarHandle" ∧ (parseMethodDescriptor yX7_removePhase.desc).map (fun d => d.parameters.length) = some 1 := hd_X7_removePhase.2
def ws_X7_requireAllowed : List Cond := .code yX7_requireAllowed cX7_requireAllowed 3 none :: BIG
theorem hd_X7_requireAllowed : yX7_requireAllowed.cls = RX7 ∧ yX7_requireAllowed.cls ≠ "java/lang/invoke/MethodHandle" ∧ yX7_requireAllowed.cls ≠ "java/lang/invoke/VarHandle" ∧ (parseMethodDescriptor yX7_requireAllowed.desc).map (fun d => d.parameters.length) = some 2 := by decide +kernel
theorem hd3_X7_requireAllowed : yX7_requireAllowed.cls ≠ "java/lang/invoke/MethodHandle" ∧ yX7_requireAllowed.cls ≠ "java/lang/invoke/VarHandle" ∧ (parseMethodDescriptor yX7_requireAllowed.desc).map (fun d => d.parameters.length) = some 2 := hd_X7_requireAllowed.2
def ws_X7_requireDenial : List Cond := .code yX7_requireDenial cX7_requireDenial 1 none :: BIG
theorem hd_X7_requireDenial : yX7_requireDenial.cls = RX7 ∧ yX7_requireDenial.cls ≠ "java/lang/invoke/MethodHandle" ∧ yX7_requireDenial.cls ≠ "java/lang/invoke/VarHandle" ∧ (parseMethodDescriptor yX7_requireDenial.desc).map (fun d => d.parameters.length) = some 0 := by decide +kernel
theorem hd3_X7_requireDenial : yX7_requireDenial.cls ≠ "java/lang/invoke/MethodHandle" ∧ yX7_requireDenial.cls ≠ "java/lang/invoke/VarHandle" ∧ (parseMethodDescriptor yX7_requireDenial.desc).map (fun d => d.parameters.length) = some 0 := hd_X7_requireDenial.2
def ws_X7_requirePat : List Cond := .code yX7_requirePat cX7_requirePat 2 none :: BIG
theorem hd_X7_requirePat : yX7_requirePat.cls = RX7 ∧ yX7_requirePat.cls ≠ "java/lang/invoke/MethodHandle" ∧ yX7_requirePat.cls ≠ "java/lang/invoke/VarHandle" ∧ (parseMethodDescriptor yX7_requirePat.desc).map (fun d => d.parameters.length) = some 1 := by decide +kernel
theorem hd3_X7_requirePat : yX7_requirePat.cls ≠ "java/lang/invoke/MethodHandle" ∧ yX7_requirePat.cls ≠ "java/lang/invoke/VarHandle" ∧ (parseMethodDescriptor yX7_requirePat.desc).map (fun d => d.parameters.length) = some 1 := hd_X7_requirePat.2
def ws_X7_requirePhase : List Cond := .code yX7_requirePhase cX7_requirePhase 2 none :: BIG
theorem hd_X7_requirePhase : yX7_requirePhase.cls = RX7 ∧ yX7_requirePhase.cls ≠ "java/lang/invoke/MethodHandle" ∧ yX7_requirePhase.cls ≠ "java/lang/invoke/VarHandle" ∧ (parseMethodDescriptor yX7_requirePhase.desc).map (fun d => d.parameters.length) = some 1 := by decide +kernel
theorem hd3_X7_requirePhase : yX7_requirePhase.cls ≠ "java/lang/invoke/MethodHandle" ∧ yX7_requirePhase.cls ≠ "java/lang/invoke/VarHandle" ∧ (parseMethodDescriptor yX7_requirePhase.desc).map (fun d => d.parameters.length) = some 1 := hd_X7_requirePhase.2
def ws_X7_requireRightIndex : List Cond := .code yX7_requireRightIndex cX7_requireRightIndex 2 none :: BIG
theorem hd_X7_requireRightIndex : yX7_requireRightIndex.cls = RX7 ∧ yX7_requireRightIndex.cls ≠ "java/lang/invoke/MethodHandle" ∧ yX7_requireRightIndex.cls ≠ "java/lang/invoke/VarHandle" ∧ (parseMethodDescriptor yX7_requireRightIndex.desc).map (fun d => d.parameters.length) = some 1 := by decide +kernel
theorem hd3_X7_requireRightIndex : yX7_requireRightIndex.cls ≠ "java/lang/invoke/MethodHandle" ∧ yX7_requireRightIndex.cls ≠ "java/lang/invoke/VarHandle" ∧ (parseMethodDescriptor yX7_requireRightIndex.desc).map (fun d => d.parameters.length) = some 1 := hd_X7_requireRightIndex.2
def ws_X7_requireRightNumbers : List Cond := .code yX7_requireRightNumbers cX7_requireRightNumbers 2 none :: BIG
theorem hd_X7_requireRightNumbers : yX7_requireRightNumbers.cls = RX7 ∧ yX7_requireRightNumbers.cls ≠ "java/lang/invoke/MethodHandle" ∧ yX7_requireRightNumbers.cls ≠ "java/lang/invoke/VarHandle" ∧ (parseMethodDescriptor yX7_requireRightNumbers.desc).map (fun d => d.parameters.length) = some 1 := by decide +kernel
theorem hd3_X7_requireRightNumbers : yX7_requireRightNumbers.cls ≠ "java/lang/invoke/MethodHandle" ∧ yX7_requireRightNumbers.cls ≠ "java/lang/invoke/VarHandle" ∧ (parseMethodDescriptor yX7_requireRightNumbers.desc).map (fun d => d.parameters.length) = some 1 := hd_X7_requireRightNumbers.2
def ws_X7_restoreSnapshot : List Cond := .code yX7_restoreSnapshot cX7_restoreSnapshot 1 (some .int) :: BIG
theorem hd_X7_restoreSnapshot : yX7_restoreSnapshot.cls = RX7 ∧ yX7_restoreSnapshot.cls ≠ "java/lang/invoke/MethodHandle" ∧ yX7_restoreSnapshot.cls ≠ "java/lang/invoke/VarHandle" ∧ (parseMethodDescriptor yX7_restoreSnapshot.desc).map (fun d => d.parameters.length) = some 0 := by decide +kernel
theorem hd3_X7_restoreSnapshot : yX7_restoreSnapshot.cls ≠ "java/lang/invoke/MethodHandle" ∧ yX7_restoreSnapshot.cls ≠ "java/lang/invoke/VarHandle" ∧ (parseMethodDescriptor yX7_restoreSnapshot.desc).map (fun d => d.parameters.length) = some 0 := hd_X7_restoreSnapshot.2
def ws_X7_run : List Cond := .code yX7_run cX7_run 2 (some .int) :: BIG
theorem hd_X7_run : yX7_run.cls = RX7 ∧ yX7_run.cls ≠ "java/lang/invoke/MethodHandle" ∧ yX7_run.cls ≠ "java/lang/invoke/VarHandle" ∧ (parseMethodDescriptor yX7_run.desc).map (fun d => d.parameters.length) = some 1 := by decide +kernel
theorem hd3_X7_run : yX7_run.cls ≠ "java/lang/invoke/MethodHandle" ∧ yX7_run.cls ≠ "java/lang/invoke/VarHandle" ∧ (parseMethodDescriptor yX7_run.desc).map (fun d => d.parameters.length) = some 1 := hd_X7_run.2
def ws_X7_saveSnapshot : List Cond := .code yX7_saveSnapshot cX7_saveSnapshot 1 (some .int) :: BIG
theorem hd_X7_saveSnapshot : yX7_saveSnapshot.cls = RX7 ∧ yX7_saveSnapshot.cls ≠ "java/lang/invoke/MethodHandle" ∧ yX7_saveSnapshot.cls ≠ "java/lang/invoke/VarHandle" ∧ (parseMethodDescriptor yX7_saveSnapshot.desc).map (fun d => d.parameters.length) = some 0 := by decide +kernel
theorem hd3_X7_saveSnapshot : yX7_saveSnapshot.cls ≠ "java/lang/invoke/MethodHandle" ∧ yX7_saveSnapshot.cls ≠ "java/lang/invoke/VarHandle" ∧ (parseMethodDescriptor yX7_saveSnapshot.desc).map (fun d => d.parameters.length) = some 0 := hd_X7_saveSnapshot.2
def ws_X7_smoothness : List Cond := .code yX7_smoothness cX7_smoothness 1 (some .int) :: BIG
theorem hd_X7_smoothness : yX7_smoothness.cls = RX7 ∧ yX7_smoothness.cls ≠ "java/lang/invoke/MethodHandle" ∧ yX7_smoothness.cls ≠ "java/lang/invoke/VarHandle" ∧ (parseMethodDescriptor yX7_smoothness.desc).map (fun d => d.parameters.length) = some 0 := by decide +kernel
theorem hd3_X7_smoothness : yX7_smoothness.cls ≠ "java/lang/invoke/MethodHandle" ∧ yX7_smoothness.cls ≠ "java/lang/invoke/VarHandle" ∧ (parseMethodDescriptor yX7_smoothness.desc).map (fun d => d.parameters.length) = some 0 := hd_X7_smoothness.2
def ws_X7_smoothnessAfter : List Cond := .code yX7_smoothnessAfter cX7_smoothnessAfter 2 (some .int) :: BIG
theorem hd_X7_smoothnessAfter : yX7_smoothnessAfter.cls = RX7 ∧ yX7_smoothnessAfter.cls ≠ "java/lang/invoke/MethodHandle" ∧ yX7_smoothnessAfter.cls ≠ "java/lang/invoke/VarHandle" ∧ (parseMethodDescriptor yX7_smoothnessAfter.desc).map (fun d => d.parameters.length) = some 1 := by decide +kernel
theorem hd3_X7_smoothnessAfter : yX7_smoothnessAfter.cls ≠ "java/lang/invoke/MethodHandle" ∧ yX7_smoothnessAfter.cls ≠ "java/lang/invoke/VarHandle" ∧ (parseMethodDescriptor yX7_smoothnessAfter.desc).map (fun d => d.parameters.length) = some 1 := hd_X7_smoothnessAfter.2
def ws_X7_start : List Cond := .code yX7_start cX7_start 1 (some .int) :: BIG
theorem hd_X7_start : yX7_start.cls = RX7 ∧ yX7_start.cls ≠ "java/lang/invoke/MethodHandle" ∧ yX7_start.cls ≠ "java/lang/invoke/VarHandle" ∧ (parseMethodDescriptor yX7_start.desc).map (fun d => d.parameters.length) = some 0 := by decide +kernel
theorem hd3_X7_start : yX7_start.cls ≠ "java/lang/invoke/MethodHandle" ∧ yX7_start.cls ≠ "java/lang/invoke/VarHandle" ∧ (parseMethodDescriptor yX7_start.desc).map (fun d => d.parameters.length) = some 0 := hd_X7_start.2
def ws_X7_stop : List Cond := .code yX7_stop cX7_stop 1 (some .int) :: BIG
theorem hd_X7_stop : yX7_stop.cls = RX7 ∧ yX7_stop.cls ≠ "java/lang/invoke/MethodHandle" ∧ yX7_stop.cls ≠ "java/lang/invoke/VarHandle" ∧ (parseMethodDescriptor yX7_stop.desc).map (fun d => d.parameters.length) = some 0 := by decide +kernel
theorem hd3_X7_stop : yX7_stop.cls ≠ "java/lang/invoke/MethodHandle" ∧ yX7_stop.cls ≠ "java/lang/invoke/VarHandle" ∧ (parseMethodDescriptor yX7_stop.desc).map (fun d => d.parameters.length) = some 0 := hd_X7_stop.2
def ws_X7_stress : List Cond := .code yX7_stress cX7_stress 1 (some .int) :: BIG
theorem hd_X7_stress : yX7_stress.cls = RX7 ∧ yX7_stress.cls ≠ "java/lang/invoke/MethodHandle" ∧ yX7_stress.cls ≠ "java/lang/invoke/VarHandle" ∧ (parseMethodDescriptor yX7_stress.desc).map (fun d => d.parameters.length) = some 0 := by decide +kernel
theorem hd3_X7_stress : yX7_stress.cls ≠ "java/lang/invoke/MethodHandle" ∧ yX7_stress.cls ≠ "java/lang/invoke/VarHandle" ∧ (parseMethodDescriptor yX7_stress.desc).map (fun d => d.parameters.length) = some 0 := hd_X7_stress.2
def ws_X7_temperature : List Cond := .code yX7_temperature cX7_temperature 1 (some .int) :: BIG
theorem hd_X7_temperature : yX7_temperature.cls = RX7 ∧ yX7_temperature.cls ≠ "java/lang/invoke/MethodHandle" ∧ yX7_temperature.cls ≠ "java/lang/invoke/VarHandle" ∧ (parseMethodDescriptor yX7_temperature.desc).map (fun d => d.parameters.length) = some 0 := by decide +kernel
theorem hd3_X7_temperature : yX7_temperature.cls ≠ "java/lang/invoke/MethodHandle" ∧ yX7_temperature.cls ≠ "java/lang/invoke/VarHandle" ∧ (parseMethodDescriptor yX7_temperature.desc).map (fun d => d.parameters.length) = some 0 := hd_X7_temperature.2
def ws_X7_temperatureAfter : List Cond := .code yX7_temperatureAfter cX7_temperatureAfter 2 (some .int) :: BIG
theorem hd_X7_temperatureAfter : yX7_temperatureAfter.cls = RX7 ∧ yX7_temperatureAfter.cls ≠ "java/lang/invoke/MethodHandle" ∧ yX7_temperatureAfter.cls ≠ "java/lang/invoke/VarHandle" ∧ (parseMethodDescriptor yX7_temperatureAfter.desc).map (fun d => d.parameters.length) = some 1 := by decide +kernel
theorem hd3_X7_temperatureAfter : yX7_temperatureAfter.cls ≠ "java/lang/invoke/MethodHandle" ∧ yX7_temperatureAfter.cls ≠ "java/lang/invoke/VarHandle" ∧ (parseMethodDescriptor yX7_temperatureAfter.desc).map (fun d => d.parameters.length) = some 1 := hd_X7_temperatureAfter.2
def ws_X7_tryMinutes : List Cond := .code yX7_tryMinutes cX7_tryMinutes 2 none :: BIG
theorem hd_X7_tryMinutes : yX7_tryMinutes.cls = RX7 ∧ yX7_tryMinutes.cls ≠ "java/lang/invoke/MethodHandle" ∧ yX7_tryMinutes.cls ≠ "java/lang/invoke/VarHandle" ∧ (parseMethodDescriptor yX7_tryMinutes.desc).map (fun d => d.parameters.length) = some 1 := by decide +kernel
theorem hd3_X7_tryMinutes : yX7_tryMinutes.cls ≠ "java/lang/invoke/MethodHandle" ∧ yX7_tryMinutes.cls ≠ "java/lang/invoke/VarHandle" ∧ (parseMethodDescriptor yX7_tryMinutes.desc).map (fun d => d.parameters.length) = some 1 := hd_X7_tryMinutes.2
def ws_X7_undo : List Cond := .code yX7_undo cX7_undo 1 (some .int) :: BIG
theorem hd_X7_undo : yX7_undo.cls = RX7 ∧ yX7_undo.cls ≠ "java/lang/invoke/MethodHandle" ∧ yX7_undo.cls ≠ "java/lang/invoke/VarHandle" ∧ (parseMethodDescriptor yX7_undo.desc).map (fun d => d.parameters.length) = some 0 := by decide +kernel
theorem hd3_X7_undo : yX7_undo.cls ≠ "java/lang/invoke/MethodHandle" ∧ yX7_undo.cls ≠ "java/lang/invoke/VarHandle" ∧ (parseMethodDescriptor yX7_undo.desc).map (fun d => d.parameters.length) = some 0 := hd_X7_undo.2
def ws_X7_undoCount : List Cond := .code yX7_undoCount cX7_undoCount 1 (some .int) :: BIG
theorem hd_X7_undoCount : yX7_undoCount.cls = RX7 ∧ yX7_undoCount.cls ≠ "java/lang/invoke/MethodHandle" ∧ yX7_undoCount.cls ≠ "java/lang/invoke/VarHandle" ∧ (parseMethodDescriptor yX7_undoCount.desc).map (fun d => d.parameters.length) = some 0 := by decide +kernel
theorem hd3_X7_undoCount : yX7_undoCount.cls ≠ "java/lang/invoke/MethodHandle" ∧ yX7_undoCount.cls ≠ "java/lang/invoke/VarHandle" ∧ (parseMethodDescriptor yX7_undoCount.desc).map (fun d => d.parameters.length) = some 0 := hd_X7_undoCount.2
def ws_X7_writeCycle : List Cond := .code yX7_writeCycle cX7_writeCycle 3 (some .int) :: BIG
theorem hd_X7_writeCycle : yX7_writeCycle.cls = RX7 ∧ yX7_writeCycle.cls ≠ "java/lang/invoke/MethodHandle" ∧ yX7_writeCycle.cls ≠ "java/lang/invoke/VarHandle" ∧ (parseMethodDescriptor yX7_writeCycle.desc).map (fun d => d.parameters.length) = some 0 := by decide +kernel
theorem hd3_X7_writeCycle : yX7_writeCycle.cls ≠ "java/lang/invoke/MethodHandle" ∧ yX7_writeCycle.cls ≠ "java/lang/invoke/VarHandle" ∧ (parseMethodDescriptor yX7_writeCycle.desc).map (fun d => d.parameters.length) = some 0 := hd_X7_writeCycle.2
def ws_X7_writePat : List Cond := .code yX7_writePat cX7_writePat 4 (some .int) :: BIG
theorem hd_X7_writePat : yX7_writePat.cls = RX7 ∧ yX7_writePat.cls ≠ "java/lang/invoke/MethodHandle" ∧ yX7_writePat.cls ≠ "java/lang/invoke/VarHandle" ∧ (parseMethodDescriptor yX7_writePat.desc).map (fun d => d.parameters.length) = some 1 := by decide +kernel
theorem hd3_X7_writePat : yX7_writePat.cls ≠ "java/lang/invoke/MethodHandle" ∧ yX7_writePat.cls ≠ "java/lang/invoke/VarHandle" ∧ (parseMethodDescriptor yX7_writePat.desc).map (fun d => d.parameters.length) = some 1 := hd_X7_writePat.2
