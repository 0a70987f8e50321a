/-! rows for the law's own methods -/
abbrev LU : Type := Nat × Int32 × Nat × Nat × Ar
abbrev lT (u : LU) : LN := (u.1, u.2.1, u.2.2.2.1, u.2.2.2.2, nI u.2.2.1)
abbrev LNk (u : LU) : Prop := u.2.2.1 ≤ u.2.2.2.1 ∧ u.2.2.2.1 ≤ 284 ∧ sb_Fit u.2.2.2.2
def bS {α γ : Type} (x : Option (α × SX7)) (k : α → SX7 → Option γ) : Option γ := x.bind fun q => k q.1 q.2
theorem bS_inv {α γ : Type} {o9 : Option (α × SX7)} {k : α → SX7 → Option γ} {r : γ} (H : bS o9 k = some r) : ∃ a S, o9 = some (a, S) ∧ k a S = some r := by
  obtain ⟨q, h1, h2⟩ := bd H
  exact ⟨q.1, q.2, h1, h2⟩
def bT {α γ : Type} (x : Option ((α ⊕ String) × SX7)) (k : α → SX7 → Option γ) : Option γ := x.bind fun q => match q.1 with
  | .inl a => k a q.2
  | .inr _ => none
theorem bT_inv {α γ : Type} {o9 : Option ((α ⊕ String) × SX7)} {k : α → SX7 → Option γ} {r : γ} (H : bT o9 k = some r) : ∃ a S, o9 = some (Sum.inl a, S) ∧ k a S = some r := by
  obtain ⟨⟨q, S⟩, h1, h2⟩ := bd H
  rcases q with a | E
  · exact ⟨a, S, h1, h2⟩
  · cases h2
section LLW
variable {p : Program} {l : Launch} {e : Env} {R : Room} {s : State} {m : MethodId} {args : Array Value} {below : List Frame} {meth : Method} {c : Code} {H : Heap} {locs : List Loc} {cells slots : Nat} {Q : State → Prop}
variable {pc mc ms : Nat} {ls : Array Slot} {rest st0 : List Value} {a : Array Value} {A0 : Nat → Prop} {H0 : Heap} {D : va_G} {ws : va_W}
theorem noRun {g : JFrame} {Qc : Array Value → State → Outcome → State → Prop} {av : Array Value} {free : Nat → Prop} (hr : vx_Run p l e R s m args below meth c H locs cells slots mc ms g rest (Qc av) noX free) : va_Run p l e R s m args below meth c H locs cells slots mc ms g rest (Qc av) free := by
  intro T hT X
  rcases hr T hT X with h | ⟨q, st₀, t, T', L, E, ce, h0, X', hL, e1, e2, hx9, st⟩
  · exact h
  · exact hx9.elim
theorem jw_d {w1 : va_W} {r : UInt64} (hr : va_Run p l e R s m args below meth c H locs cells slots mc ms (F0 m pc ls st0) rest (va_Qd (S := Unit) (fun r' _ => r' = r) (fun _ t => pQ D (va_A ws H.size) w1 t) (va_A ws H.size) a) (va_A ws H.size)) (hD : va_D A0 ws) (hS : va_S A0 H0 H locs) (hA : ∀ q, H0.size ≤ q → A0 q)
    (kk : ∀ (H1 : Heap) (locs1 : List Loc), va_P D vwCl w1 H1 → va_D A0 w1 → va_S A0 H0 H1 locs1 → W p l e R s m args below meth c H1 locs1 (cells + mc) (slots + ms) Q (F0 m (pc + 3) ls (.double r :: rest))) : W p l e R s m args below meth c H locs cells slots Q (F0 m pc ls st0) := by
  have hF := fr_w hD hS hA
  refine va_calld hr hS (fun q _ h => hF q h) hF (fun r2 u t H1 locs1 ht hvm hw hB hz hk hS1 => ?_)
  have hP1 := hB.1
  rw [ht] at hP1
  subst hw
  exact kk H1 locs1 hP1 (hB.2.weaken (fun _ q _ h => hF q.1 h)) hS1
theorem jw_f {w1 : va_W} {r : UInt32} (hr : va_Run p l e R s m args below meth c H locs cells slots mc ms (F0 m pc ls st0) rest (va_Qf (S := Unit) (fun r' _ => r' = r) (fun _ t => pQ D (va_A ws H.size) w1 t) (va_A ws H.size) a) (va_A ws H.size)) (hD : va_D A0 ws) (hS : va_S A0 H0 H locs) (hA : ∀ q, H0.size ≤ q → A0 q)
    (kk : ∀ (H1 : Heap) (locs1 : List Loc), va_P D vwCl w1 H1 → va_D A0 w1 → va_S A0 H0 H1 locs1 → W p l e R s m args below meth c H1 locs1 (cells + mc) (slots + ms) Q (F0 m (pc + 3) ls (.float r :: rest))) : W p l e R s m args below meth c H locs cells slots Q (F0 m pc ls st0) := by
  have hF := fr_w hD hS hA
  refine va_callf hr hS (fun q _ h => hF q h) hF (fun r2 u t H1 locs1 ht hvm hw hB hz hk hS1 => ?_)
  have hP1 := hB.1
  rw [ht] at hP1
  subst hw
  exact kk H1 locs1 hP1 (hB.2.weaken (fun _ q _ h => hF q.1 h)) hS1
theorem jE_i {T : Type} {ok : T → Prop} {w1 : T → va_W} {r : Int32} (hr : va_Run p l e R s m args below meth c H locs cells slots mc ms (F0 m pc ls st0) rest (va_Qi (S := T) (fun r' u => r' = r ∧ ok u) (fun u t => pQ D (va_A ws H.size) (w1 u) t) (va_A ws H.size) a) (va_A ws H.size)) (hD : va_D A0 ws) (hS : va_S A0 H0 H locs) (hA : ∀ q, H0.size ≤ q → A0 q)
    (kk : ∀ (u : T) (H1 : Heap) (locs1 : List Loc), ok u → va_P D vwCl (w1 u) H1 → va_D A0 (w1 u) → va_S A0 H0 H1 locs1 → W p l e R s m args below meth c H1 locs1 (cells + mc) (slots + ms) Q (F0 m (pc + 3) ls (.int r :: rest))) : W p l e R s m args below meth c H locs cells slots Q (F0 m pc ls st0) := by
  have hF := fr_w hD hS hA
  refine va_calli hr hS (fun q _ h => hF q h) hF (fun r2 u t H1 locs1 ht hvm hw hB hz hk hS1 => ?_)
  have hP1 := hB.1
  rw [ht] at hP1
  rw [hw.1]
  exact kk u H1 locs1 hw.2 hP1 (hB.2.weaken (fun _ q _ h => hF q.1 h)) hS1
theorem jE_l {T : Type} {ok : T → Prop} {w1 : T → va_W} {r : Int64} (hr : va_Run p l e R s m args below meth c H locs cells slots mc ms (F0 m pc ls st0) rest (va_Ql (S := T) (fun r' u => r' = r ∧ ok u) (fun u t => pQ D (va_A ws H.size) (w1 u) t) (va_A ws H.size) a) (va_A ws H.size)) (hD : va_D A0 ws) (hS : va_S A0 H0 H locs) (hA : ∀ q, H0.size ≤ q → A0 q)
    (kk : ∀ (u : T) (H1 : Heap) (locs1 : List Loc), ok u → va_P D vwCl (w1 u) H1 → va_D A0 (w1 u) → va_S A0 H0 H1 locs1 → W p l e R s m args below meth c H1 locs1 (cells + mc) (slots + ms) Q (F0 m (pc + 3) ls (.long r :: rest))) : W p l e R s m args below meth c H locs cells slots Q (F0 m pc ls st0) := by
  have hF := fr_w hD hS hA
  refine va_calll hr hS (fun q _ h => hF q h) hF (fun r2 u t H1 locs1 ht hvm hw hB hz hk hS1 => ?_)
  have hP1 := hB.1
  rw [ht] at hP1
  rw [hw.1]
  exact kk u H1 locs1 hw.2 hP1 (hB.2.weaken (fun _ q _ h => hF q.1 h)) hS1
theorem jE_r {T : Type} {ok : T → Prop} {w1 : T → va_W} {r : Nat} (hr : va_Run p l e R s m args below meth c H locs cells slots mc ms (F0 m pc ls st0) rest (va_Qr (S := T) ok (fun u r' t => r' = r ∧ pQ D (va_A ws H.size) (w1 u) t) (va_A ws H.size) a) (va_A ws H.size)) (hD : va_D A0 ws) (hS : va_S A0 H0 H locs) (hA : ∀ q, H0.size ≤ q → A0 q)
    (kk : ∀ (u : T) (H1 : Heap) (locs1 : List Loc), ok u → va_P D vwCl (w1 u) H1 → va_D A0 (w1 u) → va_S A0 H0 H1 locs1 → W p l e R s m args below meth c H1 locs1 (cells + mc) (slots + ms) Q (F0 m (pc + 3) ls (.ref r :: rest))) : W p l e R s m args below meth c H locs cells slots Q (F0 m pc ls st0) := by
  have hF := fr_w hD hS hA
  refine va_callr hr hS (fun q _ h => hF q h) hF (fun u ra t H1 locs1 ht hvm hw hB hz hk hS1 => ?_)
  have hP1 := hB.2.1
  rw [ht] at hP1
  rw [hB.1]
  exact kk u H1 locs1 hw hP1 (hB.2.2.weaken (fun _ q _ h => hF q.1 h)) hS1
theorem jxE_i {T : Type} {ok : T → Prop} {wx : va_W} {w1 : T → va_W} {r : Int32} (hr : vx_Run p l e R s m args below meth c H locs cells slots mc ms (F0 m pc ls st0) rest (va_Qi (S := T) (fun r' u => (Sum.inl r : Int32 ⊕ String) = Sum.inl r' ∧ ok u) (fun u t => pQ D (va_A ws H.size) (w1 u) t) (va_A ws H.size) a) (XCx D (va_A ws H.size) (Sum.inl r : Int32 ⊕ String) wx) (va_A ws H.size)) (hD : va_D A0 ws) (hS : va_S A0 H0 H locs) (hA : ∀ q, H0.size ≤ q → A0 q)
    (kk : ∀ (u : T) (H1 : Heap) (locs1 : List Loc), ok u → va_P D vwCl (w1 u) H1 → va_D A0 (w1 u) → va_S A0 H0 H1 locs1 → W p l e R s m args below meth c H1 locs1 (cells + mc) (slots + ms) Q (F0 m (pc + 3) ls (.int r :: rest))) : W p l e R s m args below meth c H locs cells slots Q (F0 m pc ls st0) := by
  have hF := fr_w hD hS hA
  refine vx_calli hr hS (fun q _ h => hF q h) hF (fun q _ h => hF q h) (fun E ce q9 u t H1 locs1 ht hvm _ hB hz hk hS1 h1 h2 h3 => nomatch hB.1) (fun r2 u t H1 locs1 ht hvm hw hB hz hk hS1 => ?_)
  have hP1 := hB.1
  rw [ht] at hP1
  rw [← Sum.inl.inj hw.1]
  exact kk u H1 locs1 hw.2 hP1 (hB.2.weaken (fun _ q _ h => hF q.1 h)) hS1
end LLW
