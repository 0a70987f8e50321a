/-- the places where a String constant is loaded: class, entry, text, bytes -/
def SITES : List (String × Nat × String × List Int32) := [("StoneChurn", 379, "there is no such kind, or a number is out of range", [116, 104, 101, 114, 101, 32, 105, 115, 32, 110, 111, 32, 115, 117, 99, 104, 32, 107, 105, 110, 100, 44, 32, 111, 114, 32, 97, 32, 110, 117, 109, 98, 101, 114, 32, 105, 115, 32, 111, 117, 116, 32, 111, 102, 32, 114, 97, 110, 103, 101]),
  ("StoneChurn", 386, "the call is denied", [116, 104, 101, 32, 99, 97, 108, 108, 32, 105, 115, 32, 100, 101, 110, 105, 101, 100]),
  ("StoneChurn$Text", 28, "phase ", [112, 104, 97, 115, 101, 32]),
  ("StoneChurn$Text", 30, "cut ", [99, 117, 116, 32]),
  ("StoneChurn$Text", 32, "load ", [108, 111, 97, 100, 32]),
  ("StoneChurn$Text", 34, "start", [115, 116, 97, 114, 116]),
  ("StoneChurn$Text", 36, "stop", [115, 116, 111, 112]),
  ("StoneChurn$Text", 38, "run ", [114, 117, 110, 32]),
  ("StoneChurn$Text", 40, "press ", [112, 114, 101, 115, 115, 32]),
  ("StoneChurn$Text", 42, "grade ", [103, 114, 97, 100, 101, 32]),
  ("StoneChurn$Text", 44, "crush ", [99, 114, 117, 115, 104, 32]),
  ("StoneChurn", 293, "the text does not match the grammar", [116, 104, 101, 32, 116, 101, 120, 116, 32, 100, 111, 101, 115, 32, 110, 111, 116, 32, 109, 97, 116, 99, 104, 32, 116, 104, 101, 32, 103, 114, 97, 109, 109, 97, 114]),
  ("StoneChurn", 307, "a command failed", [97, 32, 99, 111, 109, 109, 97, 110, 100, 32, 102, 97, 105, 108, 101, 100]),
  ("StoneChurn", 377, "nothing was denied yet", [110, 111, 116, 104, 105, 110, 103, 32, 119, 97, 115, 32, 100, 101, 110, 105, 101, 100, 32, 121, 101, 116]),
  ("StoneChurn", 352, "there is no denial, or the latest has no cause", [116, 104, 101, 114, 101, 32, 105, 115, 32, 110, 111, 32, 100, 101, 110, 105, 97, 108, 44, 32, 111, 114, 32, 116, 104, 101, 32, 108, 97, 116, 101, 115, 116, 32, 104, 97, 115, 32, 110, 111, 32, 99, 97, 117, 115, 101]),
  ("StoneChurn", 355, "there is no change to undo", [116, 104, 101, 114, 101, 32, 105, 115, 32, 110, 111, 32, 99, 104, 97, 110, 103, 101, 32, 116, 111, 32, 117, 110, 100, 111]),
  ("StoneChurn", 364, "there is no snapshot", [116, 104, 101, 114, 101, 32, 105, 115, 32, 110, 111, 32, 115, 110, 97, 112, 115, 104, 111, 116]),
  ("StoneChurn", 274, "the text buffer is full", [116, 104, 101, 32, 116, 101, 120, 116, 32, 98, 117, 102, 102, 101, 114, 32, 105, 115, 32, 102, 117, 108, 108]),
  ("StoneChurnLaw", 107, "hctrx", [104, 99, 116, 114, 120]),
  ("StoneChurn", 381, "there is no such index", [116, 104, 101, 114, 101, 32, 105, 115, 32, 110, 111, 32, 115, 117, 99, 104, 32, 105, 110, 100, 101, 120]),
  ("StoneChurn", 246, "there is no such grade", [116, 104, 101, 114, 101, 32, 105, 115, 32, 110, 111, 32, 115, 117, 99, 104, 32, 103, 114, 97, 100, 101]),
  ("StoneChurn", 121, "the cycle is not running", [116, 104, 101, 32, 99, 121, 99, 108, 101, 32, 105, 115, 32, 110, 111, 116, 32, 114, 117, 110, 110, 105, 110, 103]),
  ("StoneChurn", 372, "there is no such phase", [116, 104, 101, 114, 101, 32, 105, 115, 32, 110, 111, 32, 115, 117, 99, 104, 32, 112, 104, 97, 115, 101]),
  ("StoneChurn", 375, "there is no such pat", [116, 104, 101, 114, 101, 32, 105, 115, 32, 110, 111, 32, 115, 117, 99, 104, 32, 112, 97, 116]),
  ("StoneChurn", 225, "there is no such rank", [116, 104, 101, 114, 101, 32, 105, 115, 32, 110, 111, 32, 115, 117, 99, 104, 32, 114, 97, 110, 107]),
  ("StoneChurn", 230, "none of the pats is cool", [110, 111, 110, 101, 32, 111, 102, 32, 116, 104, 101, 32, 112, 97, 116, 115, 32, 105, 115, 32, 99, 111, 111, 108]),
  ("java/lang/StringIndexOutOfBoundsException", 13, "String index out of range: ", [83, 116, 114, 105, 110, 103, 32, 105, 110, 100, 101, 120, 32, 111, 117, 116, 32, 111, 102, 32, 114, 97, 110, 103, 101, 58, 32]),
  ("java/util/Arrays", 337, " > ", [32, 62, 32]),
  ("java/util/Arrays", 48, "fromIndex(", [102, 114, 111, 109, 73, 110, 100, 101, 120, 40]),
  ("java/util/Arrays", 57, ") > toIndex(", [41, 32, 62, 32, 116, 111, 73, 110, 100, 101, 120, 40]),
  ("java/util/Arrays", 59, ")", [41]),
  ("java/lang/ArrayIndexOutOfBoundsException", 13, "Array index out of range: ", [65, 114, 114, 97, 121, 32, 105, 110, 100, 101, 120, 32, 111, 117, 116, 32, 111, 102, 32, 114, 97, 110, 103, 101, 58, 32]),
  ("StoneChurn", 260, "there are no pats", [116, 104, 101, 114, 101, 32, 97, 114, 101, 32, 110, 111, 32, 112, 97, 116, 115]),
  ("StoneChurn", 388, "the number of minutes is out of range", [116, 104, 101, 32, 110, 117, 109, 98, 101, 114, 32, 111, 102, 32, 109, 105, 110, 117, 116, 101, 115, 32, 105, 115, 32, 111, 117, 116, 32, 111, 102, 32, 114, 97, 110, 103, 101]),
  ("StoneChurnLaw", 289, "htcr", [104, 116, 99, 114]),
  ("StoneChurnLaw", 303, "hth", [104, 116, 104]),
  ("StoneChurnLaw", 308, "phase h 10 3", [112, 104, 97, 115, 101, 32, 104, 32, 49, 48, 32, 51]),
  ("StoneChurnLaw", 310, "phase t 030 1;phase r 5 2", [112, 104, 97, 115, 101, 32, 116, 32, 48, 51, 48, 32, 49, 59, 112, 104, 97, 115, 101, 32, 114, 32, 53, 32, 50]),
  ("StoneChurnLaw", 312, "cut 0", [99, 117, 116, 32, 48]),
  ("StoneChurnLaw", 314, "cut 1;cut 1", [99, 117, 116, 32, 49, 59, 99, 117, 116, 32, 49]),
  ("StoneChurnLaw", 316, "load 40", [108, 111, 97, 100, 32, 52, 48]),
  ("StoneChurnLaw", 318, "load 100;load 1", [108, 111, 97, 100, 32, 49, 48, 48, 59, 108, 111, 97, 100, 32, 49]),
  ("StoneChurnLaw", 320, "start", [115, 116, 97, 114, 116]),
  ("StoneChurnLaw", 321, "start;run 7;stop", [115, 116, 97, 114, 116, 59, 114, 117, 110, 32, 55, 59, 115, 116, 111, 112]),
  ("StoneChurnLaw", 323, "stop", [115, 116, 111, 112]),
  ("StoneChurnLaw", 324, "run 240", [114, 117, 110, 32, 50, 52, 48]),
  ("StoneChurnLaw", 326, "run 1;run 12", [114, 117, 110, 32, 49, 59, 114, 117, 110, 32, 49, 50]),
  ("StoneChurnLaw", 328, "press 5", [112, 114, 101, 115, 115, 32, 53]),
  ("StoneChurnLaw", 330, "press 020;press 1", [112, 114, 101, 115, 115, 32, 48, 50, 48, 59, 112, 114, 101, 115, 115, 32, 49]),
  ("StoneChurnLaw", 332, "grade 0", [103, 114, 97, 100, 101, 32, 48]),
  ("StoneChurnLaw", 334, "grade 1;grade 1", [103, 114, 97, 100, 101, 32, 49, 59, 103, 114, 97, 100, 101, 32, 49]),
  ("StoneChurnLaw", 336, "crush 0", [99, 114, 117, 115, 104, 32, 48]),
  ("StoneChurnLaw", 338, "crush 1;load 3", [99, 114, 117, 115, 104, 32, 49, 59, 108, 111, 97, 100, 32, 51]),
  ("StoneChurnLaw", 340, "phase h 31 1", [112, 104, 97, 115, 101, 32, 104, 32, 51, 49, 32, 49]),
  ("StoneChurnLaw", 342, "phase c 1 6", [112, 104, 97, 115, 101, 32, 99, 32, 49, 32, 54]),
  ("StoneChurnLaw", 344, "phase c 0 1", [112, 104, 97, 115, 101, 32, 99, 32, 48, 32, 49]),
  ("StoneChurnLaw", 346, "cut 9", [99, 117, 116, 32, 57]),
  ("StoneChurnLaw", 348, "load 0", [108, 111, 97, 100, 32, 48]),
  ("StoneChurnLaw", 350, "load 101", [108, 111, 97, 100, 32, 49, 48, 49]),
  ("StoneChurnLaw", 352, "run 0", [114, 117, 110, 32, 48]),
  ("StoneChurnLaw", 354, "run 241", [114, 117, 110, 32, 50, 52, 49]),
  ("StoneChurnLaw", 356, "press 21", [112, 114, 101, 115, 115, 32, 50, 49]),
  ("StoneChurnLaw", 358, "grade 99", [103, 114, 97, 100, 101, 32, 57, 57])]
def TXS : List Nat := [36, 37, 38, 39, 40, 41, 42, 43, 44, 45, 46, 47, 48, 49, 50, 51, 52, 53, 54, 55, 56, 57, 58, 59, 60, 61, 62]
def site (i : Nat) : String × Nat × String × List Int32 := SITES.getD i ("", 0, "", [])
def stOk (i : Nat) (gz : Nat → Nat) (A : Nat → Prop) (U : State) (H : Heap) : Prop := vk_R (site i).1 (site i).2.1 (site i).2.2.1 (gz (2 * i)) U ∧ vk_S 1 [(site i).2.2.2.length] [(site i).2.2.2] (fun _ => gz (2 * i)) (fun _ => gz (2 * i + 1)) A U H
def dgO (j : Nat) : Int32 := nI (48 + j % 10)
def dgT (j : Nat) : Int32 := nI (48 + j / 10)
/-- what the start gives, and nothing changes: String constants, the JDK's rows of digits, the law's texts -/
def pZ (gz : Nat → Nat) (A : Nat → Prop) (U : State) (H : Heap) : Prop := (∀ i, i < 63 → stOk i gz A U H) ∧ va_Z "java/lang/String" "COMPACT_STRINGS" "Z" (.int 1) A U H ∧ (va_Z "java/lang/Integer" "DigitOnes" "[B" (.ref (gz 200)) A U H ∧ va_T .byte (gz 200) 100 (fun j => .int (dgO j)) A U H) ∧ (va_Z "java/lang/Integer" "DigitTens" "[B" (.ref (gz 201)) A U H ∧ va_T .byte (gz 201) 100 (fun j => .int (dgT j)) A U H) ∧ va_Zq "jdk/internal/util/Preconditions" "SIOOBE_FORMATTER" "Ljava/util/function/BiFunction;" A U H ∧ vx_Zq Bundle.tN "UNASSIGNED_STACK" Bundle.steD A U H ∧ vx_Zq Bundle.tN "SUPPRESSED_SENTINEL" Bundle.listD A U H ∧ (va_Z "StoneChurnLaw" "TEXTS" "[Ljava/lang/String;" (.ref (gz 202)) A U H ∧ va_T (.object "java/lang/String") (gz 202) 27 (fun j => .ref (gz (2 * TXS.getD j 0))) A U H)
theorem pZ_go {gz : Nat → Nat} {A B : Nat → Prop} {s U : State} {H : Heap} {locs : List Loc} (h : pZ gz A s s.heap) (hS : va_S A s.heap H locs) (hW : s.WarmedH U.vm) (hU : U.heap = H) (hAB : ∀ q, B q → A q) : pZ gz B U U.heap := by
  subst hU
  have k := hS.2.1
  have hk : ∀ a : Nat, a < s.heap.size → ¬ A a → U.heap[a]? = s.heap[a]? := fun a h1 h2 => k a h1 h2
  have hm := hW.alike
  obtain ⟨h1, h2, ⟨h3, h4⟩, ⟨h5, h6⟩, h7, h8, h9, h10, h11⟩ := h
  exact ⟨fun i hi => ⟨vk_R.warm hW (h1 i hi).1, (((h1 i hi).2.kept hk).narrow hAB).moved hm⟩, ((h2.kept hk).narrow hAB).moved hm, ⟨((h3.kept hk).narrow hAB).moved hm, ((h4.kept hk).narrow hAB).moved hm⟩, ⟨((h5.kept hk).narrow hAB).moved hm, ((h6.kept hk).narrow hAB).moved hm⟩, ((h7.kept hk).narrow hAB).moved hm, ((h8.kept hk).narrow hAB).moved hm, ((h9.kept hk).narrow hAB).moved hm, ((h10.kept hk).narrow hAB).moved hm, ((h11.kept hk).narrow hAB).moved hm⟩
theorem pZ_same {gz : Nat → Nat} {A : Nat → Prop} {u U : State} (hv : U.vm = u.vm) (hh : U.heap = u.heap) (h : pZ gz A u u.heap) : pZ gz A U U.heap := by
  have hm : u.vm.Alike U.vm := by rw [hv]; exact Vm.Alike.refl u.vm
  rw [hh]
  obtain ⟨h1, h2, ⟨h3, h4⟩, ⟨h5, h6⟩, h7, h8, h9, h10, h11⟩ := h
  exact ⟨fun i hi => ⟨vk_R.same hv (h1 i hi).1, (h1 i hi).2.moved hm⟩, h2.moved hm, ⟨h3.moved hm, h4.moved hm⟩, ⟨h5.moved hm, h6.moved hm⟩, h7.moved hm, h8.moved hm, h9.moved hm, h10.moved hm, h11.moved hm⟩
