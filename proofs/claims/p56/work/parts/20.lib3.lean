theorem b7_inv {β : Type} {o9 : Option SX7} {k : SX0 → SX0 → SX0 → Int32 → SX3 → SX6 → Int32 → Int32 → Int32 → Int32 → Option β} {r : β} (H : b7 o9 k = some r) : ∃ b t n sv h x kf dn dd dc, o9 = some (b, t, n, sv, h, x, kf, dn, dd, dc) ∧ k b t n sv h x kf dn dd dc = some r := by
  obtain ⟨s, h1, h2⟩ := bd H
  exact ⟨_, _, _, _, _, _, _, _, _, _, h1, h2⟩
def bI7 {α β : Type} (x : Option (α × SX7)) (k : α → SX0 → SX0 → SX0 → Int32 → SX3 → SX6 → Int32 → Int32 → Int32 → Int32 → Option β) : Option β := x.bind fun q => k q.1 q.2.1 q.2.2.1 q.2.2.2.1 q.2.2.2.2.1 q.2.2.2.2.2.1 q.2.2.2.2.2.2.1 q.2.2.2.2.2.2.2.1 q.2.2.2.2.2.2.2.2.1 q.2.2.2.2.2.2.2.2.2.1 q.2.2.2.2.2.2.2.2.2.2
theorem bI7_inv {α β : Type} {o9 : Option (α × SX7)} {k : α → SX0 → SX0 → SX0 → Int32 → SX3 → SX6 → Int32 → Int32 → Int32 → Int32 → Option β} {r : β} (H : bI7 o9 k = some r) : ∃ z b t n sv h x kf dn dd dc, o9 = some (z, (b, t, n, sv, h, x, kf, dn, dd, dc)) ∧ k z b t n sv h x kf dn dd dc = some r := by
  obtain ⟨s, h1, h2⟩ := bd H
  exact ⟨_, _, _, _, _, _, _, _, _, _, _, h1, h2⟩
def bE7 {α ρ : Type} (x : Option ((α ⊕ String) × SX7)) (k : α → SX0 → SX0 → SX0 → Int32 → SX3 → SX6 → Int32 → Int32 → Int32 → Int32 → Option ((ρ ⊕ String) × SX7)) : Option ((ρ ⊕ String) × SX7) := bE x fun r S => k r S.1 S.2.1 S.2.2.1 S.2.2.2.1 S.2.2.2.2.1 S.2.2.2.2.2.1 S.2.2.2.2.2.2.1 S.2.2.2.2.2.2.2.1 S.2.2.2.2.2.2.2.2.1 S.2.2.2.2.2.2.2.2.2
theorem bE7_inv {α ρ : Type} {o9 : Option ((α ⊕ String) × SX7)} {k : α → SX0 → SX0 → SX0 → Int32 → SX3 → SX6 → Int32 → Int32 → Int32 → Int32 → Option ((ρ ⊕ String) × SX7)} {g : (ρ ⊕ String) × SX7} (H : bE7 o9 k = some g) : (∃ z b t n sv h x kf dn dd dc, o9 = some (Sum.inl z, (b, t, n, sv, h, x, kf, dn, dd, dc)) ∧ k z b t n sv h x kf dn dd dc = some g) ∨ (∃ E S, o9 = some (Sum.inr E, S) ∧ (Sum.inr E, S) = g) := by
  rcases bE_inv H with ⟨r, s, h1, h2⟩ | ⟨E, s, h1, h2⟩
  · exact Or.inl ⟨r, _, _, _, _, _, _, _, _, _, _, h1, h2⟩
  · exact Or.inr ⟨E, s, h1, sm h2⟩
def bC7 {α γ : Type} (x : Option ((α ⊕ String) × SX7)) (k : α → SX0 → SX0 → SX0 → Int32 → SX3 → SX6 → Int32 → Int32 → Int32 → Int32 → Option γ) (kx : String → SX7 → Option γ) : Option γ := bC x (fun r S => k r S.1 S.2.1 S.2.2.1 S.2.2.2.1 S.2.2.2.2.1 S.2.2.2.2.2.1 S.2.2.2.2.2.2.1 S.2.2.2.2.2.2.2.1 S.2.2.2.2.2.2.2.2.1 S.2.2.2.2.2.2.2.2.2) kx
section LSC
variable {p : Program} {l : Launch} {e : Env} {R : Room} {s : State} {m : MethodId} {args : Array Value} {below : List Frame} {meth : Method} {c : Code} {H : Heap} {locs : List Loc} {cells slots : Nat} {Q : State → Prop}
variable {pc mc ms : Nat} {ls : Array Slot} {rest st0 : List Value} {a : Array Value} {A0 : Nat → Prop} {H0 : Heap} {D : va_G} {ws w1 : va_W}
theorem fr_w (hD : va_D A0 ws) (hS : va_S A0 H0 H locs) (hA : ∀ q, H0.size ≤ q → A0 q) : ∀ q, va_A ws H.size q → A0 q := by
  intro q h
  rcases h with ⟨k, e, h⟩ | h
  · exact hD.2 k (q, e) h
  · exact hA q (Nat.le_trans hS.1 h)
theorem pP_preW {av : List Value} {dA gz : Nat → Nat} (hP : va_P D vwCl ws H) (hD : va_D A0 ws) (hS : va_S A0 s.heap H locs) (hA : ∀ q, s.heap.size ≤ q → A0 q) (hK : va_K D vwCl (tyA dA) s) (hN : nW s) (hZ : pZ gz A0 s s.heap) : ∀ U : State, U.heap = H → s.WarmedH U.vm → va_Pc av (pP D dA gz ws H.size) av.toArray U := fun U hU hW =>
  ⟨rfl, by rw [hU], by rw [hU]; exact hP, va_K.moved hW.alike hK, hD.weaken (fun _ _ _ _ => trivial), nW_warm hW hN, pZ_go hZ hS hW hU (fr_w hD hS hA)⟩
theorem jw_v (hr : va_Run p l e R s m args below meth c H locs cells slots mc ms (F0 m pc ls st0) rest (va_Qv (S := Unit) (fun _ => True) (fun _ t => pQ D (va_A ws H.size) w1 t) (va_A ws H.size) a) (va_A ws H.size)) (hD : va_D A0 ws) (hS : va_S A0 H0 H locs) (hA : ∀ q, H0.size ≤ q → A0 q)
    (kk : ∀ (H1 : Heap) (locs1 : List Loc), va_P D vwCl w1 H1 → va_D A0 w1 → va_S A0 H0 H1 locs1 → W p l e R s m args below meth c H1 locs1 (cells + mc) (slots + ms) Q (F0 m (pc + 3) ls rest)) : W p l e R s m args below meth c H locs cells slots Q (F0 m pc ls st0) := by
  have hF := fr_w hD hS hA
  refine va_callv hr hS (fun q _ h => hF q h) hF (fun u t H1 locs1 ht hvm hw hB hz hk hS1 => ?_)
  have hP1 := hB.1
  rw [ht] at hP1
  exact kk H1 locs1 hP1 (hB.2.weaken (fun _ q _ h => hF q.1 h)) hS1
theorem jw_i {r : Int32} (hr : va_Run p l e R s m args below meth c H locs cells slots mc ms (F0 m pc ls st0) rest (va_Qi (S := Unit) (fun r' _ => r' = r) (fun _ t => pQ D (va_A ws H.size) w1 t) (va_A ws H.size) a) (va_A ws H.size)) (hD : va_D A0 ws) (hS : va_S A0 H0 H locs) (hA : ∀ q, H0.size ≤ q → A0 q)
    (kk : ∀ (H1 : Heap) (locs1 : List Loc), va_P D vwCl w1 H1 → va_D A0 w1 → va_S A0 H0 H1 locs1 → W p l e R s m args below meth c H1 locs1 (cells + mc) (slots + ms) Q (F0 m (pc + 3) ls (.int r :: rest))) : W p l e R s m args below meth c H locs cells slots Q (F0 m pc ls st0) := by
  have hF := fr_w hD hS hA
  refine va_calli hr hS (fun q _ h => hF q h) hF (fun r2 u t H1 locs1 ht hvm hw hB hz hk hS1 => ?_)
  have hP1 := hB.1
  rw [ht] at hP1
  subst hw
  exact kk H1 locs1 hP1 (hB.2.weaken (fun _ q _ h => hF q.1 h)) hS1
abbrev XCx {α : Type} (D : va_G) (A : Nat → Prop) (res : α ⊕ String) (w1 : va_W) : String → State → State → Prop := vx_X (S := Unit) (fun _ => True) (fun E _ t => res = Sum.inr E ∧ pQ D A w1 t) A

theorem jx_v {res : Unit ⊕ String} (hr : vx_Run p l e R s m args below meth c H locs cells slots mc ms (F0 m pc ls st0) rest (va_Qv (S := Unit) (fun _ => res = Sum.inl ()) (fun _ t => pQ D (va_A ws H.size) w1 t) (va_A ws H.size) a) (XCx D (va_A ws H.size) res w1) (va_A ws H.size)) (hD : va_D A0 ws) (hS : va_S A0 H0 H locs) (hA : ∀ q, H0.size ≤ q → A0 q)
    (kx : ∀ (E : String) (ce : Cell) (q9 : Addr) (H1 : Heap) (locs1 : List Loc), res = Sum.inr E → va_P D vwCl w1 H1 → va_D A0 w1 → va_S A0 H0 H1 locs1 → H1[q9]? = some ce → ce.vm = .none → s.vm.findClass E = some ce.cls → vx_W p l e R s m args below meth c H1 locs1 (cells + mc) (slots + ms) Q (F0 m pc ls rest) q9)
    (kk : ∀ (H1 : Heap) (locs1 : List Loc), res = Sum.inl () → va_P D vwCl w1 H1 → va_D A0 w1 → va_S A0 H0 H1 locs1 → W p l e R s m args below meth c H1 locs1 (cells + mc) (slots + ms) Q (F0 m (pc + 3) ls rest)) : W p l e R s m args below meth c H locs cells slots Q (F0 m pc ls st0) := by
  have hF := fr_w hD hS hA
  refine vx_callv hr hS (fun q _ h => hF q h) hF (fun q _ h => hF q h) (fun E ce q9 u t H1 locs1 ht hvm _ hB hz hk hS1 h1 h2 h3 => ?_) (fun u t H1 locs1 ht hvm hw hB hz hk hS1 => ?_)
  · have hP1 := hB.2.1
    rw [ht] at hP1
    exact kx E ce q9 H1 locs1 hB.1 hP1 (hB.2.2.weaken (fun _ q _ h => hF q.1 h)) hS1 h1 h2 h3
  · have hP1 := hB.1
    rw [ht] at hP1
    exact kk H1 locs1 hw hP1 (hB.2.weaken (fun _ q _ h => hF q.1 h)) hS1
theorem jx_i {res : Int32 ⊕ String} (hr : vx_Run p l e R s m args below meth c H locs cells slots mc ms (F0 m pc ls st0) rest (va_Qi (S := Unit) (fun r' _ => res = Sum.inl r') (fun _ t => pQ D (va_A ws H.size) w1 t) (va_A ws H.size) a) (XCx D (va_A ws H.size) res w1) (va_A ws H.size)) (hD : va_D A0 ws) (hS : va_S A0 H0 H locs) (hA : ∀ q, H0.size ≤ q → A0 q)
    (kx : ∀ (E : String) (ce : Cell) (q9 : Addr) (H1 : Heap) (locs1 : List Loc), res = Sum.inr E → va_P D vwCl w1 H1 → va_D A0 w1 → va_S A0 H0 H1 locs1 → H1[q9]? = some ce → ce.vm = .none → s.vm.findClass E = some ce.cls → vx_W p l e R s m args below meth c H1 locs1 (cells + mc) (slots + ms) Q (F0 m pc ls rest) q9)
    (kk : ∀ (r : Int32) (H1 : Heap) (locs1 : List Loc), res = Sum.inl r → va_P D vwCl w1 H1 → va_D A0 w1 → va_S A0 H0 H1 locs1 → W p l e R s m args below meth c H1 locs1 (cells + mc) (slots + ms) Q (F0 m (pc + 3) ls (.int r :: rest))) : W p l e R s m args below meth c H locs cells slots Q (F0 m pc ls st0) := by
  have hF := fr_w hD hS hA
  refine vx_calli hr hS (fun q _ h => hF q h) hF (fun q _ h => hF q h) (fun E ce q9 u t H1 locs1 ht hvm _ hB hz hk hS1 h1 h2 h3 => ?_) (fun r u t H1 locs1 ht hvm hw hB hz hk hS1 => ?_)
  · have hP1 := hB.2.1
    rw [ht] at hP1
    exact kx E ce q9 H1 locs1 hB.1 hP1 (hB.2.2.weaken (fun _ q _ h => hF q.1 h)) hS1 h1 h2 h3
  · have hP1 := hB.1
    rw [ht] at hP1
    exact kk r H1 locs1 hw hP1 (hB.2.weaken (fun _ q _ h => hF q.1 h)) hS1
theorem jx_d {res : UInt64 ⊕ String} (hr : vx_Run p l e R s m args below meth c H locs cells slots mc ms (F0 m pc ls st0) rest (va_Qd (S := Unit) (fun r' _ => res = Sum.inl r') (fun _ t => pQ D (va_A ws H.size) w1 t) (va_A ws H.size) a) (XCx D (va_A ws H.size) res w1) (va_A ws H.size)) (hD : va_D A0 ws) (hS : va_S A0 H0 H locs) (hA : ∀ q, H0.size ≤ q → A0 q)
    (kx : ∀ (E : String) (ce : Cell) (q9 : Addr) (H1 : Heap) (locs1 : List Loc), res = Sum.inr E → va_P D vwCl w1 H1 → va_D A0 w1 → va_S A0 H0 H1 locs1 → H1[q9]? = some ce → ce.vm = .none → s.vm.findClass E = some ce.cls → vx_W p l e R s m args below meth c H1 locs1 (cells + mc) (slots + ms) Q (F0 m pc ls rest) q9)
    (kk : ∀ (r : UInt64) (H1 : Heap) (locs1 : List Loc), res = Sum.inl r → va_P D vwCl w1 H1 → va_D A0 w1 → va_S A0 H0 H1 locs1 → W p l e R s m args below meth c H1 locs1 (cells + mc) (slots + ms) Q (F0 m (pc + 3) ls (.double r :: rest))) : W p l e R s m args below meth c H locs cells slots Q (F0 m pc ls st0) := by
  have hF := fr_w hD hS hA
  refine vx_calld hr hS (fun q _ h => hF q h) hF (fun q _ h => hF q h) (fun E ce q9 u t H1 locs1 ht hvm _ hB hz hk hS1 h1 h2 h3 => ?_) (fun r u t H1 locs1 ht hvm hw hB hz hk hS1 => ?_)
  · have hP1 := hB.2.1
    rw [ht] at hP1
    exact kx E ce q9 H1 locs1 hB.1 hP1 (hB.2.2.weaken (fun _ q _ h => hF q.1 h)) hS1 h1 h2 h3
  · have hP1 := hB.1
    rw [ht] at hP1
    exact kk r H1 locs1 hw hP1 (hB.2.weaken (fun _ q _ h => hF q.1 h)) hS1
theorem jx_f {res : UInt32 ⊕ String} (hr : vx_Run p l e R s m args below meth c H locs cells slots mc ms (F0 m pc ls st0) rest (va_Qf (S := Unit) (fun r' _ => res = Sum.inl r') (fun _ t => pQ D (va_A ws H.size) w1 t) (va_A ws H.size) a) (XCx D (va_A ws H.size) res w1) (va_A ws H.size)) (hD : va_D A0 ws) (hS : va_S A0 H0 H locs) (hA : ∀ q, H0.size ≤ q → A0 q)
    (kx : ∀ (E : String) (ce : Cell) (q9 : Addr) (H1 : Heap) (locs1 : List Loc), res = Sum.inr E → va_P D vwCl w1 H1 → va_D A0 w1 → va_S A0 H0 H1 locs1 → H1[q9]? = some ce → ce.vm = .none → s.vm.findClass E = some ce.cls → vx_W p l e R s m args below meth c H1 locs1 (cells + mc) (slots + ms) Q (F0 m pc ls rest) q9)
    (kk : ∀ (r : UInt32) (H1 : Heap) (locs1 : List Loc), res = Sum.inl r → va_P D vwCl w1 H1 → va_D A0 w1 → va_S A0 H0 H1 locs1 → W p l e R s m args below meth c H1 locs1 (cells + mc) (slots + ms) Q (F0 m (pc + 3) ls (.float r :: rest))) : W p l e R s m args below meth c H locs cells slots Q (F0 m pc ls st0) := by
  have hF := fr_w hD hS hA
  refine vx_callf hr hS (fun q _ h => hF q h) hF (fun q _ h => hF q h) (fun E ce q9 u t H1 locs1 ht hvm _ hB hz hk hS1 h1 h2 h3 => ?_) (fun r u t H1 locs1 ht hvm hw hB hz hk hS1 => ?_)
  · have hP1 := hB.2.1
    rw [ht] at hP1
    exact kx E ce q9 H1 locs1 hB.1 hP1 (hB.2.2.weaken (fun _ q _ h => hF q.1 h)) hS1 h1 h2 h3
  · have hP1 := hB.1
    rw [ht] at hP1
    exact kk r H1 locs1 hw hP1 (hB.2.weaken (fun _ q _ h => hF q.1 h)) hS1
theorem xq {α : Type} {res : α ⊕ String} {E : String} {A : Nat → Prop} {t : State} (hE : res = Sum.inr E) (hP : va_P D vwCl w1 H) (hD : va_D A w1) (hS : va_S A s.heap H locs) (hz : H.size ≤ t.heap.size) (hq : ∀ q : Nat, q < H.size → t.heap[q]? = H[q]?) : XCx D A res w1 E s t :=
  ⟨(), trivial, ⟨hE, hP.kept (fun k q hk => hq q.1 (hP k q hk).lt), hD⟩, Nat.le_trans hS.1 hz, fun q h1 h2 => (hq q (Nat.lt_of_lt_of_le h1 hS.1)).trans (hS.2.1 q h1 h2)⟩
theorem xp {α : Type} {res : α ⊕ String} {E : String} {A : Nat → Prop} {t : State} (hE : res = Sum.inr E) (hP : va_P D vwCl w1 H) (hD : va_D A w1) (hS : va_S A s.heap H locs) (ht : t.heap = H) : XCx D A res w1 E s t :=
  xq hE hP hD hS (by rw [ht]; exact Nat.le_refl _) (fun q _ => by rw [ht])
end LSC
