/-! ===== worlds in segments ===== -/
theorem D_tail {A : Nat → Prop} {x y : va_W} (h : va_D A (x ++ y)) : va_D A y := by
  refine ⟨fun i j p q hi hj hpq => ?_, fun k q hk => ?_⟩
  · have a1 : (x ++ y)[x.length + i]? = some p := by rw [List.getElem?_append_right (by omega)]; rw [show x.length + i - x.length = i by omega]; exact hi
    have a2 : (x ++ y)[x.length + j]? = some q := by rw [List.getElem?_append_right (by omega)]; rw [show x.length + j - x.length = j by omega]; exact hj
    have := h.1 _ _ p q a1 a2 hpq
    omega
  · have a1 : (x ++ y)[x.length + k]? = some q := by rw [List.getElem?_append_right (by omega)]; rw [show x.length + k - x.length = k by omega]; exact hk
    exact h.2 _ q a1
theorem D_head {A : Nat → Prop} {x y : va_W} (h : va_D A (x ++ y)) : va_D A x := by
  have key : ∀ (k : Nat) (q : Nat × va_E), x[k]? = some q → (x ++ y)[k]? = some q := fun k q hk => by
    rw [List.getElem?_append_left (List.getElem?_eq_some_iff.mp hk).1]
    exact hk
  exact ⟨fun i j p q hi hj hpq => h.1 i j p q (key i p hi) (key j q hj) hpq, fun k q hk => h.2 k q (key k q hk)⟩
theorem D_apart {A : Nat → Prop} {x y : va_W} (h : va_D A (x ++ y)) {p q : Nat × va_E} (hp : p ∈ x) (hq : q ∈ y) : p.1 ≠ q.1 := by
  intro e
  obtain ⟨i, hi⟩ := List.getElem?_of_mem hp
  obtain ⟨j, hj⟩ := List.getElem?_of_mem hq
  have hl := (List.getElem?_eq_some_iff.mp hi).1
  have a1 : (x ++ y)[i]? = some p := by rw [List.getElem?_append_left hl]; exact hi
  have a2 : (x ++ y)[x.length + j]? = some q := by rw [List.getElem?_append_right (by omega)]; rw [show x.length + j - x.length = j by omega]; exact hj
  have := h.1 _ _ p q a1 a2 e
  omega
theorem P_mem {D : va_G} {ws : va_W} {H : Heap} : va_P D vwCl ws H ↔ ∀ q ∈ ws, va_at D vwCl q H :=
  ⟨fun h q hq => by obtain ⟨i, hi⟩ := List.getElem?_of_mem hq; exact h i q hi, fun h k q hk => h q (List.mem_of_getElem? hk)⟩
theorem D_seg {A : Nat → Prop} : ∀ {gs : List va_W}, va_D A gs.flatten → ∀ (i : Nat) (g : va_W), gs[i]? = some g → va_D A g
  | [], _, i, g, h => by simp at h
  | a :: gs, hD, 0, g, h => by
    cases h
    exact D_head (y := gs.flatten) (by simpa using hD)
  | a :: gs, hD, i + 1, g, h => D_seg (gs := gs) (D_tail (x := a) (by simpa using hD)) i g (by simpa using h)
theorem D_segs {A : Nat → Prop} : ∀ {gs : List va_W}, va_D A gs.flatten → ∀ (i j : Nat) (g g2 : va_W), gs[i]? = some g → gs[j]? = some g2 → i ≠ j → ∀ p ∈ g, ∀ q ∈ g2, p.1 ≠ q.1
  | [], _, i, _, g, _, h, _, _, _, _, _, _ => by simp at h
  | a :: gs, hD, 0, 0, g, g2, h, h2, hn, _, _, _, _ => absurd rfl hn
  | a :: gs, hD, 0, j + 1, g, g2, h, h2, hn, p, hp, q, hq => by
    cases h
    exact D_apart (x := a) (y := gs.flatten) (by simpa using hD) hp (List.mem_flatten.mpr ⟨g2, List.mem_of_getElem? (i := j) (by simpa using h2), hq⟩)
  | a :: gs, hD, i + 1, 0, g, g2, h, h2, hn, p, hp, q, hq => by
    cases h2
    exact fun e => D_apart (x := a) (y := gs.flatten) (by simpa using hD) hq (List.mem_flatten.mpr ⟨g, List.mem_of_getElem? (i := i) (by simpa using h), hp⟩) e.symm
  | a :: gs, hD, i + 1, j + 1, g, g2, h, h2, hn, p, hp, q, hq => D_segs (gs := gs) (D_tail (x := a) (by simpa using hD)) i j g g2 (by simpa using h) (by simpa using h2) (fun e => hn (by rw [e])) p hp q hq
theorem set_addr : ∀ (gs : List va_W) (i : Nat) (g g1 : va_W), gs[i]? = some g → g1.map (fun q => q.1) = g.map (fun q => q.1) → (gs.set i g1).flatten.map (fun q => q.1) = gs.flatten.map (fun q => q.1)
  | [], i, g, g1, h, _ => by simp at h
  | a :: gs, 0, g, g1, h, h1 => by
    cases h
    show (g1 ++ gs.flatten).map (fun q => q.1) = (a ++ gs.flatten).map (fun q => q.1)
    rw [List.map_append, List.map_append, h1]
  | a :: gs, i + 1, g, g1, h, h1 => by
    show (a ++ (gs.set i g1).flatten).map (fun q => q.1) = (a ++ gs.flatten).map (fun q => q.1)
    rw [List.map_append, List.map_append, set_addr gs i g g1 (by simpa using h) h1]
theorem D_addr {A : Nat → Prop} {ws ws1 : va_W} (hD : va_D A ws) (h : ws1.map (fun q => q.1) = ws.map (fun q => q.1)) : va_D A ws1 := by
  have key : ∀ (k : Nat) (q : Nat × va_E), ws1[k]? = some q → ∃ e : va_E, ws[k]? = some (q.1, e) := by
    intro k q hk
    have b1 : (ws1.map (fun q => q.1))[k]? = some q.1 := by rw [List.getElem?_map, hk]; rfl
    rw [h, List.getElem?_map] at b1
    cases hw : ws[k]? with
    | none => rw [hw] at b1; cases b1
    | some z =>
      rw [hw] at b1
      have hz : z.1 = q.1 := Option.some.inj b1
      exact ⟨z.2, by rw [← hz]⟩
  refine ⟨fun i j p q hi hj hpq => ?_, fun k q hk => ?_⟩
  · obtain ⟨e1, a1⟩ := key i p hi
    obtain ⟨e2, a2⟩ := key j q hj
    exact hD.1 i j _ _ a1 a2 hpq
  · obtain ⟨e1, a1⟩ := key k q hk
    exact hD.2 k (q.1, e1) a1
theorem set_mem {gs : List va_W} {i : Nat} {g1 : va_W} {q : Nat × va_E} (h : q ∈ (gs.set i g1).flatten) : q ∈ g1 ∨ ∃ j g, j ≠ i ∧ gs[j]? = some g ∧ q ∈ g := by
  obtain ⟨g, hg, hq⟩ := List.mem_flatten.mp h
  obtain ⟨j, hj⟩ := List.getElem?_of_mem hg
  by_cases hij : i = j
  · subst hij
    rw [List.getElem?_set] at hj
    simp only [if_true] at hj
    split at hj
    · cases hj; exact Or.inl hq
    · cases hj
  · rw [List.getElem?_set_ne hij] at hj
    exact Or.inr ⟨j, g, fun e => hij e.symm, hj, hq⟩
/-- the segment i, changed by a callee whose world is the segments i and, unchanged, those of js -/
theorem jg_P {D : va_G} {A0 : Nat → Prop} {gs : List va_W} {wc w1 g g1 : va_W} {H H1 : Heap} (hP : va_P D vwCl gs.flatten H) (hD : va_D A0 gs.flatten) (i : Nat) (js : List Nat) (hi : gs[i]? = some g) (h1 : g1.map (fun q => q.1) = g.map (fun q => q.1))
    (hin : ∀ q ∈ wc, q ∈ g ∨ ∃ j ∈ js, ∃ g2, gs[j]? = some g2 ∧ q ∈ g2) (hw : ∀ q ∈ g1, q ∈ w1) (hjs : ∀ j ∈ js, ∀ g2, gs[j]? = some g2 → ∀ q ∈ g2, q ∈ w1)
    (hk : ∀ q : Nat, q < H.size → ¬ va_A wc H.size q → H1[q]? = H[q]?) (hP1 : va_P D vwCl w1 H1) : va_P D vwCl (gs.set i g1).flatten H1 ∧ va_D A0 (gs.set i g1).flatten := by
  refine ⟨P_mem.mpr fun q hq => ?_, D_addr hD (set_addr gs i g g1 hi h1)⟩
  rcases set_mem hq with h | ⟨j, g2, hji, hg2, hq2⟩
  · exact P_mem.mp hP1 q (hw q h)
  · by_cases hj : j ∈ js
    · exact P_mem.mp hP1 q (hjs j hj g2 hg2 q hq2)
    · have hat := P_mem.mp hP q (List.mem_flatten.mpr ⟨g2, List.mem_of_getElem? hg2, hq2⟩)
      refine hat.kept (hk q.1 hat.lt (fun hA => ?_))
      rcases hA with ⟨k, e, hA⟩ | hA
      · rcases hin (q.1, e) (List.mem_of_getElem? hA) with h | ⟨j2, hj2, g3, hg3, h⟩
        · exact D_segs hD j i g2 g hg2 hi hji q hq2 _ h rfl
        · exact D_segs hD j j2 g2 g3 hg2 hg3 (fun e2 => hj (by rw [e2]; exact hj2)) q hq2 _ h rfl
      · exact absurd hat.lt (Nat.not_lt.mpr hA)
section LSEG
variable {p : Program} {l : Launch} {e : Env} {R : Room} {s : State} {m : MethodId} {args : Array Value} {below : List Frame} {meth : Method} {c : Code} {H : Heap} {locs : List Loc} {cells slots : Nat} {Q : State → Prop}
variable {pc mc ms : Nat} {ls : Array Slot} {rest st0 : List Value} {a : Array Value} {A0 : Nat → Prop} {H0 : Heap} {D : va_G} {gs : List va_W} {g g1 g2 : va_W}
theorem seg_P (hP : va_P D vwCl gs.flatten H) (i : Nat) (hi : gs[i]? = some g) : va_P D vwCl g H := P_mem.mpr fun q hq => P_mem.mp hP q (List.mem_flatten.mpr ⟨g, List.mem_of_getElem? hi, hq⟩)
theorem seg_D2 (hD : va_D A0 gs.flatten) (i j : Nat) (hi : gs[i]? = some g) (hj : gs[j]? = some g2) (hij : i ≠ j) : va_D A0 (g ++ g2) :=
  va_D.app (D_seg hD i g hi) (D_seg hD j g2 hj) (fun a b p q ha hb => D_segs hD i j g g2 hi hj hij p (List.mem_of_getElem? ha) q (List.mem_of_getElem? hb))
theorem fr_D {wc : va_W} (hD : va_D A0 wc) (hS : va_S A0 H0 H locs) (hA : ∀ q, H0.size ≤ q → A0 q) : ∀ q, va_A wc H.size q → A0 q := fr_w hD hS hA
theorem pP_pre1 {av : List Value} {dA gz : Nat → Nat} (hP : va_P D vwCl gs.flatten H) (hD : va_D A0 gs.flatten) (hS : va_S A0 s.heap H locs) (hA : ∀ q, s.heap.size ≤ q → A0 q) (hK : va_K D vwCl (tyA dA) s) (hN : nW s) (hZ : pZ gz A0 s s.heap) (i : Nat) (hi : gs[i]? = some g) : ∀ U : State, U.heap = H → s.WarmedH U.vm → va_Pc av (pP D dA gz g H.size) av.toArray U :=
  pP_preW (seg_P hP i hi) (D_seg hD i g hi) hS hA hK hN hZ
theorem pP_pre2 {av : List Value} {dA gz : Nat → Nat} (hP : va_P D vwCl gs.flatten H) (hD : va_D A0 gs.flatten) (hS : va_S A0 s.heap H locs) (hA : ∀ q, s.heap.size ≤ q → A0 q) (hK : va_K D vwCl (tyA dA) s) (hN : nW s) (hZ : pZ gz A0 s s.heap) (i j : Nat) (hi : gs[i]? = some g) (hj : gs[j]? = some g2) (hij : i ≠ j) : ∀ U : State, U.heap = H → s.WarmedH U.vm → va_Pc av (pP D dA gz (g ++ g2) H.size) av.toArray U :=
  pP_preW (va_P.app (seg_P hP i hi) (seg_P hP j hj)) (seg_D2 hD i j hi hj hij) hS hA hK hN hZ
theorem jg1_v (hr : va_Run p l e R s m args below meth c H locs cells slots mc ms (F0 m pc ls st0) rest (va_Qv (S := Unit) (fun _ => True) (fun _ t => pQ D (va_A g H.size) g1 t) (va_A g H.size) a) (va_A g H.size)) (hP : va_P D vwCl gs.flatten H) (hD : va_D A0 gs.flatten) (hS : va_S A0 H0 H locs) (hA : ∀ q, H0.size ≤ q → A0 q) (i : Nat) (hi : gs[i]? = some g) (h1 : g1.map (fun q => q.1) = g.map (fun q => q.1))
    (kk : ∀ (H1 : Heap) (locs1 : List Loc), va_P D vwCl (gs.set i g1).flatten H1 → va_D A0 (gs.set i g1).flatten → va_S A0 H0 H1 locs1 → W p l e R s m args below meth c H1 locs1 (cells + mc) (slots + ms) Q (F0 m (pc + 3) ls rest)) : W p l e R s m args below meth c H locs cells slots Q (F0 m pc ls st0) := by
  have hF := fr_D (D_seg hD i g hi) hS hA
  refine va_callv hr hS (fun q _ h => hF q h) hF (fun u t H1 locs1 ht hvm hw hB hz hk hS1 => ?_)
  have hP1 := hB.1
  rw [ht] at hP1
  obtain ⟨hP2, hD2⟩ := jg_P hP hD i [] hi h1 (fun q hq => Or.inl hq) (fun q hq => hq) (fun j hj => nomatch hj) hk hP1
  exact kk H1 locs1 hP2 hD2 hS1
theorem jg1_i {r : Int32} (hr : va_Run p l e R s m args below meth c H locs cells slots mc ms (F0 m pc ls st0) rest (va_Qi (S := Unit) (fun r' _ => r' = r) (fun _ t => pQ D (va_A g H.size) g1 t) (va_A g H.size) a) (va_A g H.size)) (hP : va_P D vwCl gs.flatten H) (hD : va_D A0 gs.flatten) (hS : va_S A0 H0 H locs) (hA : ∀ q, H0.size ≤ q → A0 q) (i : Nat) (hi : gs[i]? = some g) (h1 : g1.map (fun q => q.1) = g.map (fun q => q.1))
    (kk : ∀ (H1 : Heap) (locs1 : List Loc), va_P D vwCl (gs.set i g1).flatten H1 → va_D A0 (gs.set i g1).flatten → va_S A0 H0 H1 locs1 → W p l e R s m args below meth c H1 locs1 (cells + mc) (slots + ms) Q (F0 m (pc + 3) ls (.int r :: rest))) : W p l e R s m args below meth c H locs cells slots Q (F0 m pc ls st0) := by
  have hF := fr_D (D_seg hD i g hi) hS hA
  refine va_calli hr hS (fun q _ h => hF q h) hF (fun r2 u t H1 locs1 ht hvm hw hB hz hk hS1 => ?_)
  have hP1 := hB.1
  rw [ht] at hP1
  obtain ⟨hP2, hD2⟩ := jg_P hP hD i [] hi h1 (fun q hq => Or.inl hq) (fun q hq => hq) (fun j hj => nomatch hj) hk hP1
  subst hw
  exact kk H1 locs1 hP2 hD2 hS1
/-- two segments; the first may change -/
theorem jg2_v (hr : va_Run p l e R s m args below meth c H locs cells slots mc ms (F0 m pc ls st0) rest (va_Qv (S := Unit) (fun _ => True) (fun _ t => pQ D (va_A (g ++ g2) H.size) (g1 ++ g2) t) (va_A (g ++ g2) H.size) a) (va_A (g ++ g2) H.size)) (hP : va_P D vwCl gs.flatten H) (hD : va_D A0 gs.flatten) (hS : va_S A0 H0 H locs) (hA : ∀ q, H0.size ≤ q → A0 q) (i j : Nat) (hi : gs[i]? = some g) (hj : gs[j]? = some g2) (hij : i ≠ j) (h1 : g1.map (fun q => q.1) = g.map (fun q => q.1))
    (kk : ∀ (H1 : Heap) (locs1 : List Loc), va_P D vwCl (gs.set i g1).flatten H1 → va_D A0 (gs.set i g1).flatten → va_S A0 H0 H1 locs1 → W p l e R s m args below meth c H1 locs1 (cells + mc) (slots + ms) Q (F0 m (pc + 3) ls rest)) : W p l e R s m args below meth c H locs cells slots Q (F0 m pc ls st0) := by
  have hF := fr_D (seg_D2 hD i j hi hj hij) hS hA
  refine va_callv hr hS (fun q _ h => hF q h) hF (fun u t H1 locs1 ht hvm hw hB hz hk hS1 => ?_)
  have hP1 := hB.1
  rw [ht] at hP1
  obtain ⟨hP2, hD2⟩ := jg_P hP hD i [j] hi h1 (fun q hq => (List.mem_append.mp hq).elim Or.inl (fun h => Or.inr ⟨j, List.mem_singleton.mpr rfl, g2, hj, h⟩)) (fun q hq => List.mem_append_left _ hq) (fun k hk g3 hg3 q hq => by
    rw [List.mem_singleton.mp hk] at hg3
    cases hj.symm.trans hg3
    exact List.mem_append_right _ hq) hk hP1
  exact kk H1 locs1 hP2 hD2 hS1
/-- two segments; both may change -/
theorem jg3_v {g3 : va_W} (hr : va_Run p l e R s m args below meth c H locs cells slots mc ms (F0 m pc ls st0) rest (va_Qv (S := Unit) (fun _ => True) (fun _ t => pQ D (va_A (g ++ g2) H.size) (g1 ++ g3) t) (va_A (g ++ g2) H.size) a) (va_A (g ++ g2) H.size)) (hP : va_P D vwCl gs.flatten H) (hD : va_D A0 gs.flatten) (hS : va_S A0 H0 H locs) (hA : ∀ q, H0.size ≤ q → A0 q) (i j : Nat) (hi : gs[i]? = some g) (hj : gs[j]? = some g2) (hij : i ≠ j) (h1 : g1.map (fun q => q.1) = g.map (fun q => q.1)) (h3 : g3.map (fun q => q.1) = g2.map (fun q => q.1))
    (kk : ∀ (H1 : Heap) (locs1 : List Loc), va_P D vwCl ((gs.set i g1).set j g3).flatten H1 → va_D A0 ((gs.set i g1).set j g3).flatten → va_S A0 H0 H1 locs1 → W p l e R s m args below meth c H1 locs1 (cells + mc) (slots + ms) Q (F0 m (pc + 3) ls rest)) : W p l e R s m args below meth c H locs cells slots Q (F0 m pc ls st0) := by
  have hF := fr_D (seg_D2 hD i j hi hj hij) hS hA
  refine va_callv hr hS (fun q _ h => hF q h) hF (fun u t H1 locs1 ht hvm hw hB hz hk hS1 => ?_)
  have hP1 := hB.1
  rw [ht] at hP1
  have hj2 : (gs.set i g1)[j]? = some g2 := by rw [List.getElem?_set_ne hij]; exact hj
  refine kk H1 locs1 (P_mem.mpr fun q hq => ?_) (D_addr hD ((set_addr (gs.set i g1) j g2 g3 hj2 h3).trans (set_addr gs i g g1 hi h1))) hS1
  rcases set_mem hq with h | ⟨k, g4, hkj, hg4, hq4⟩
  · exact P_mem.mp hP1 q (List.mem_append_right _ h)
  · by_cases hki : i = k
    · subst hki
      rw [List.getElem?_set_self (List.getElem?_eq_some_iff.mp hi).1] at hg4
      cases hg4
      exact P_mem.mp hP1 q (List.mem_append_left _ hq4)
    · rw [List.getElem?_set_ne hki] at hg4
      have hat := P_mem.mp hP q (List.mem_flatten.mpr ⟨g4, List.mem_of_getElem? hg4, hq4⟩)
      refine hat.kept (hk q.1 hat.lt (fun hA => ?_))
      rcases hA with ⟨k2, e2, hA⟩ | hA
      · rcases List.mem_append.mp (List.mem_of_getElem? hA) with h | h
        · exact D_segs hD k i g4 g hg4 hi (fun e => hki e.symm) q hq4 _ h rfl
        · exact D_segs hD k j g4 g2 hg4 hj hkj q hq4 _ h rfl
      · exact absurd hat.lt (Nat.not_lt.mpr hA)
end LSEG
section LSEG2
variable {p : Program} {l : Launch} {e : Env} {R : Room} {s : State} {m : MethodId} {args : Array Value} {below : List Frame} {meth : Method} {c : Code} {H : Heap} {locs : List Loc} {cells slots : Nat} {Q : State → Prop}
variable {pc mc ms : Nat} {ls : Array Slot} {rest st0 : List Value} {a : Array Value} {A0 : Nat → Prop} {H0 : Heap} {D : va_G} {gs : List va_W} {g : va_W}
theorem set_self (i : Nat) (hi : gs[i]? = some g) : gs.set i g = gs := by
  apply List.ext_getElem?
  intro k
  by_cases hk : i = k
  · subst hk
    rw [List.getElem?_set_self (List.getElem?_eq_some_iff.mp hi).1, hi]
  · rw [List.getElem?_set_ne hk]
theorem jgr_i {r : Int32} (hr : va_Run p l e R s m args below meth c H locs cells slots mc ms (F0 m pc ls st0) rest (va_Qi (S := Unit) (fun r' _ => r' = r) (fun _ t => pQ D (va_A g H.size) g t) (va_A g H.size) a) (va_A g H.size)) (hP : va_P D vwCl gs.flatten H) (hD : va_D A0 gs.flatten) (hS : va_S A0 H0 H locs) (hA : ∀ q, H0.size ≤ q → A0 q) (i : Nat) (hi : gs[i]? = some g)
    (kk : ∀ (H1 : Heap) (locs1 : List Loc), va_P D vwCl gs.flatten H1 → va_S A0 H0 H1 locs1 → W p l e R s m args below meth c H1 locs1 (cells + mc) (slots + ms) Q (F0 m (pc + 3) ls (.int r :: rest))) : W p l e R s m args below meth c H locs cells slots Q (F0 m pc ls st0) := by
  refine jg1_i hr hP hD hS hA i hi rfl (fun H1 locs1 hP1 hD1 hS1 => ?_)
  rw [set_self i hi] at hP1
  exact kk H1 locs1 hP1 hS1
end LSEG2
