def bP {α β γ : Type} (x : Option (α × β)) (k : α → β → Option γ) : Option γ := x.bind fun q => k q.1 q.2
theorem bP_inv {α β γ : Type} {x : Option (α × β)} {k : α → β → Option γ} {r : γ} (h : bP x k = some r) : ∃ a b, x = some (a, b) ∧ k a b = some r := by
  obtain ⟨q, h1, h2⟩ := bd h
  exact ⟨q.1, q.2, h1, h2⟩
/-- a call that may throw: its exception goes on -/
def bE {α σ ρ : Type} (x : Option ((α ⊕ String) × σ)) (k : α → σ → Option ((ρ ⊕ String) × σ)) : Option ((ρ ⊕ String) × σ) := x.bind fun q => match q with
  | (.inl r, s) => k r s
  | (.inr E, s) => some (.inr E, s)
theorem bE_inv {α σ ρ : Type} {x : Option ((α ⊕ String) × σ)} {k : α → σ → Option ((ρ ⊕ String) × σ)} {g : (ρ ⊕ String) × σ} (h : bE x k = some g) : (∃ r s, x = some (.inl r, s) ∧ k r s = some g) ∨ (∃ E s, x = some (.inr E, s) ∧ some (.inr E, s) = some g) := by
  obtain ⟨q, h1, h2⟩ := bd h
  match q, h2 with
  | (.inl r, s), h2 => exact Or.inl ⟨r, s, h1, h2⟩
  | (.inr E, s), h2 => exact Or.inr ⟨E, s, h1, h2⟩
/-- a call that may throw, caught -/
def bC {α σ γ : Type} (x : Option ((α ⊕ String) × σ)) (k : α → σ → Option γ) (kx : String → σ → Option γ) : Option γ := x.bind fun q => match q with
  | (.inl r, s) => k r s
  | (.inr E, s) => kx E s
theorem bC_inv {α σ γ : Type} {x : Option ((α ⊕ String) × σ)} {k : α → σ → Option γ} {kx : String → σ → Option γ} {g : γ} (h : bC x k kx = some g) : (∃ r s, x = some (.inl r, s) ∧ k r s = some g) ∨ (∃ E s, x = some (.inr E, s) ∧ kx E s = some g) := by
  obtain ⟨q, h1, h2⟩ := bd h
  match q, h2 with
  | (.inl r, s), h2 => exact Or.inl ⟨r, s, h1, h2⟩
  | (.inr E, s), h2 => exact Or.inr ⟨E, s, h1, h2⟩
/-- StoneChurn$History: next, count, past -/
abbrev SX3 : Type := Int32 × Int32 × (Nat → SX0)
/-- the line: its bytes' address, maybeLatin1, room, bytes, length -/
abbrev LN : Type := Nat × Int32 × Nat × Ar × Int32
/-- StoneChurn: batch, trial, snapshot, snapshotSaved, history, text, keptFault, deniedNumber, deniedDetail, deniedCause -/
abbrev SX7 : Type := SX0 × SX0 × SX0 × Int32 × SX3 × SX6 × Int32 × Int32 × Int32 × Int32
abbrev wH (dA : Nat → Nat) (a : Nat → Nat) (n c : Int32) : va_W := [(a 0, .inr (7, [.ref (a 1), .int n, .int c])), (a 1, .inl (dA 3, 8, .inr (.inr (.inr (.inr (fun i => some (a (2 + 13 * i))))))))]
def gX3 (dA : Nat → Nat) (a : Nat → Nat) (s : SX3) : List va_W := [wH dA a s.1 s.2.1, wX0 dA (fun k => a (2 + k)) (s.2.2 0), wX0 dA (fun k => a (15 + k)) (s.2.2 1), wX0 dA (fun k => a (28 + k)) (s.2.2 2), wX0 dA (fun k => a (41 + k)) (s.2.2 3), wX0 dA (fun k => a (54 + k)) (s.2.2 4), wX0 dA (fun k => a (67 + k)) (s.2.2 5), wX0 dA (fun k => a (80 + k)) (s.2.2 6), wX0 dA (fun k => a (93 + k)) (s.2.2 7)]
def wX3 (dA : Nat → Nat) (a : Nat → Nat) (s : SX3) : va_W := (gX3 dA a s).flatten
theorem fl_snoc (gs : List va_W) (X : va_W) : gs.flatten ++ X = (gs ++ [X]).flatten := by simp
theorem aX0 (dA a : Nat → Nat) (s s2 : SX0) : (wX0 dA a s).map (fun q => q.1) = (wX0 dA a s2).map (fun q => q.1) := rfl
theorem aX6 (dA a : Nat → Nat) (s s2 : SX6) : (wX6 dA a s).map (fun q => q.1) = (wX6 dA a s2).map (fun q => q.1) := rfl
theorem aX3 (dA a : Nat → Nat) (s s2 : SX3) : (wX3 dA a s).map (fun q => q.1) = (wX3 dA a s2).map (fun q => q.1) := by
  simp only [wX3, gX3, List.flatten_cons, List.flatten_nil, List.map_append]
  rfl
def wLN (dA : Nat → Nat) (o : Nat) (ln : LN) : va_W := [(o, .inr (1, [.ref ln.1, .int 0, .int ln.2.1, .int ln.2.2.2.2])), (ln.1, .inl (dA 2, ln.2.2.1, .inl ln.2.2.2.1))]
def gX7 (dA : Nat → Nat) (a : Nat → Nat) (S : SX7) (ln : LN) : List va_W := [[(a 0, .inr (11, [.ref (a 1), .ref (a 14), .ref (a 27), .int S.2.2.2.1, .ref (a 40), .ref (a 146), .int S.2.2.2.2.2.2.1, .ref (a 152), .int S.2.2.2.2.2.2.2.1, .int S.2.2.2.2.2.2.2.2.1, .int S.2.2.2.2.2.2.2.2.2]))], wX0 dA (fun k => a (1 + k)) S.1, wX0 dA (fun k => a (14 + k)) S.2.1, wX0 dA (fun k => a (27 + k)) S.2.2.1, wX3 dA (fun k => a (40 + k)) S.2.2.2.2.1, wX6 dA (fun k => a (146 + k)) S.2.2.2.2.2.1, wLN dA (a 152) ln]
def wX7 (dA : Nat → Nat) (a : Nat → Nat) (S : SX7) (ln : LN) : va_W := (gX7 dA a S ln).flatten
def b7 {β : Type} (x : Option SX7) (k : SX0 → SX0 → SX0 → Int32 → SX3 → SX6 → Int32 → Int32 → Int32 → Int32 → Option β) : Option β := x.bind fun S => k S.1 S.2.1 S.2.2.1 S.2.2.2.1 S.2.2.2.2.1 S.2.2.2.2.2.1 S.2.2.2.2.2.2.1 S.2.2.2.2.2.2.2.1 S.2.2.2.2.2.2.2.2.1 S.2.2.2.2.2.2.2.2.2

theorem thr {L : List Cond} {args : Array Value} {s : State} (h1 : (L.filter goodWord).all (fun w => decide (w ∈ lw_tbl)) = true) (h2 : (L.filter (fun w => !goodWord w)).all (fun w => decide (w ∈ NG)) = true) (hts : ∀ w ∈ BIG, w.before args s = true) (hN : nW s) : ∀ w ∈ L, w.before args s = true := by
  refine vx_hat (B := NG) (fun w hw => hts w (big_in (of_decide_eq_true (List.all_eq_true.mp h1 w hw)) (List.mem_filter.mp hw).2)) (fun w hw => of_decide_eq_true (List.all_eq_true.mp h2 w hw)) (fun w hw => ?_)
  exact va_Nw.use (List.all_eq_true.mp (show NG.all (fun w => w.onTables) = true by decide +kernel) w hw) (hN w hw)
abbrev xn : List String := ["java/lang/RuntimeException", "java/lang/Exception"]
theorem xn_fit : ∀ n ∈ xn, Bundle.fit n = true := by decide +kernel
theorem th_248 {args : Array Value} {s : State} (hts : ∀ w ∈ BIG, w.before args s = true) (hN : nW s) : ∀ w ∈ vx_atS RX7 248 "java/lang/IllegalArgumentException" xn, w.before args s = true := thr (by decide +kernel) (by decide +kernel) hts hN
theorem tg_248 : ∀ w ∈ Cond.classLink RX7 244 "java/lang/IllegalArgumentException" :: Cond.initialized "java/lang/IllegalArgumentException" :: vx_atS RX7 248 "java/lang/IllegalArgumentException" xn, vx_ot w = true := by decide +kernel
theorem th_262 {args : Array Value} {s : State} (hts : ∀ w ∈ BIG, w.before args s = true) (hN : nW s) : ∀ w ∈ vx_atS RX7 262 "java/lang/ArithmeticException" xn, w.before args s = true := thr (by decide +kernel) (by decide +kernel) hts hN
theorem tg_262 : ∀ w ∈ Cond.classLink RX7 258 "java/lang/ArithmeticException" :: Cond.initialized "java/lang/ArithmeticException" :: vx_atS RX7 262 "java/lang/ArithmeticException" xn, vx_ot w = true := by decide +kernel
theorem th_276 {args : Array Value} {s : State} (hts : ∀ w ∈ BIG, w.before args s = true) (hN : nW s) : ∀ w ∈ vx_atS RX7 276 "java/lang/IllegalStateException" xn, w.before args s = true := thr (by decide +kernel) (by decide +kernel) hts hN
theorem tg_276 : ∀ w ∈ Cond.classLink RX7 272 "java/lang/IllegalStateException" :: Cond.initialized "java/lang/IllegalStateException" :: vx_atS RX7 276 "java/lang/IllegalStateException" xn, vx_ot w = true := by decide +kernel
theorem th_309 {args : Array Value} {s : State} (hts : ∀ w ∈ BIG, w.before args s = true) (hN : nW s) : ∀ w ∈ vx_atS RX7 309 "java/lang/UnsupportedOperationException" xn, w.before args s = true := thr (by decide +kernel) (by decide +kernel) hts hN
theorem tg_309 : ∀ w ∈ Cond.classLink RX7 305 "java/lang/UnsupportedOperationException" :: Cond.initialized "java/lang/UnsupportedOperationException" :: vx_atS RX7 309 "java/lang/UnsupportedOperationException" xn, vx_ot w = true := by decide +kernel
theorem th_336 {args : Array Value} {s : State} (hts : ∀ w ∈ BIG, w.before args s = true) (hN : nW s) : ∀ w ∈ vx_atS RX7 336 "java/lang/IndexOutOfBoundsException" xn, w.before args s = true := thr (by decide +kernel) (by decide +kernel) hts hN
theorem tg_336 : ∀ w ∈ Cond.classLink RX7 332 "java/lang/IndexOutOfBoundsException" :: Cond.initialized "java/lang/IndexOutOfBoundsException" :: vx_atS RX7 336 "java/lang/IndexOutOfBoundsException" xn, vx_ot w = true := by decide +kernel
