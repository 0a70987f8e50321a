/-! ===== what all contracts share ===== -/
abbrev Ar : Type := Nat → Int32
/-- the array classes that travel: char[], int[], byte[], StoneChurn$Batch[] -/
abbrev tyA (dA : Nat → Nat) : List (ClassId × FieldType) := [(dA 0, .char), (dA 1, .int), (dA 2, .byte), (dA 3, .object "StoneChurn$Batch")]
abbrev pP (D : va_G) (dA gz : Nat → Nat) (ws : va_W) (sz : Nat) (U : State) : Prop := U.heap.size = sz ∧ va_P D vwCl ws U.heap ∧ va_K D vwCl (tyA dA) U ∧ va_D (fun _ => True) ws ∧ nW U ∧ pZ gz (va_A ws sz) U U.heap
abbrev pQ (D : va_G) (A : Nat → Prop) (ws1 : va_W) (t : State) : Prop := va_P D vwCl ws1 t.heap ∧ va_D A ws1
theorem pP_blind {av : List Value} {D : va_G} {dA gz : Nat → Nat} {ws : va_W} {sz : Nat} : FrameBlind (va_Pc av (pP D dA gz ws sz)) := fun a U g mk q => by
  obtain ⟨q0, q1, qP, qK, qD, qN, qZ⟩ := q
  exact ⟨q0, q1, qP, va_K.moved (u := U) (U := U.calling g mk a) (Vm.Alike.refl U.vm) qK, qD, nW_same (rfl : U.vm = (U.calling g mk a).vm) qN, pZ_same (u := U) (U := U.calling g mk a) rfl rfl qZ⟩
theorem at_map {ws wc : va_W} {is : List Nat} (h : is.map (fun i => ws[i]?) = wc.map some) {k : Nat} {q : Nat × va_E} (hq : wc[k]? = some q) : ∃ i, is[k]? = some i ∧ ws[i]? = some q := by
  have h1 : (is.map (fun i => ws[i]?))[k]? = some (some q) := by rw [h, List.getElem?_map, hq]; rfl
  rw [List.getElem?_map] at h1
  cases hi : is[k]? with
  | none => rw [hi] at h1; cases h1
  | some i => rw [hi] at h1; exact ⟨i, rfl, Option.some.inj h1⟩
theorem pP_pre {av : List Value} {D : va_G} {dA gz : Nat → Nat} {ws wc : va_W} {s : State} {H : Heap} {locs : List Loc} {A : Nat → Prop} (hP : va_P D vwCl ws H) (hD : va_D A ws) (hS : va_S A s.heap H locs) (hA : ∀ q, s.heap.size ≤ q → A q) (hK : va_K D vwCl (tyA dA) s) (hN : nW s) (hZ : pZ gz A s s.heap) (isC : List Nat) (hn : va_nd isC = true) (hC : isC.map (fun i => ws[i]?) = wc.map some) : ∀ U : State, U.heap = H → s.WarmedH U.vm → va_Pc av (pP D dA gz wc H.size) av.toArray U := fun U hU hW => by
  refine ⟨rfl, by rw [hU], ?_, va_K.moved hW.alike hK, (hD.sub isC hn hC).weaken (fun _ _ _ _ => trivial), nW_warm hW hN, pZ_go hZ hS hW hU (va_free hD hS hA isC hC)⟩
  rw [hU]
  intro k q hq
  obtain ⟨i, -, hi⟩ := at_map hC hq
  exact hP i q hi
def putA (ws : va_W) : List Nat → va_W → va_W
  | i :: is, q :: w => putA (ws.set i q) is w
  | _, _ => ws
theorem putA_at : ∀ (is : List Nat) (w ws : va_W), is.length = w.length → ∀ (k : Nat) (q : Nat × va_E), (putA ws is w)[k]? = some q → (∃ j : Nat, is[j]? = some k ∧ w[j]? = some q) ∨ (k ∉ is ∧ ws[k]? = some q)
  | [], [], ws, _, k, q, h => Or.inr ⟨List.not_mem_nil, h⟩
  | i :: is, q0 :: w, ws, hl, k, q, h => by
    rcases putA_at is w (ws.set i q0) (Nat.succ.inj hl) k q h with ⟨j, h1, h2⟩ | ⟨h1, h2⟩
    · exact Or.inl ⟨j + 1, h1, h2⟩
    · by_cases hik : i = k
      · subst hik
        rw [List.getElem?_set] at h2
        simp only [if_true] at h2
        split at h2
        · cases h2
          exact Or.inl ⟨0, rfl, rfl⟩
        · cases h2
      · rw [List.getElem?_set_ne hik] at h2
        exact Or.inr ⟨fun hm => (List.mem_cons.mp hm).elim (fun e => hik e.symm) h1, h2⟩
  | [], q0 :: w, ws, hl, _, _, _ => by simp at hl
  | i :: is, [], ws, hl, _, _, _ => by simp at hl
/-- the callee's cells, changed, back in their places -/
theorem jn_P {D : va_G} {A0 : Nat → Prop} {ws wc w1 : va_W} {H H1 : Heap} (hP : va_P D vwCl ws H) (hD : va_D A0 ws) (isC : List Nat) (hC : isC.map (fun i => ws[i]?) = wc.map some) (h1 : w1.map (fun q => q.1) = wc.map (fun q => q.1)) (hk : ∀ q : Nat, q < H.size → ¬ va_A wc H.size q → H1[q]? = H[q]?) (hP1 : va_P D vwCl w1 H1) : va_P D vwCl (putA ws isC w1) H1 ∧ va_D A0 (putA ws isC w1) := by
  have hl : isC.length = w1.length := by
    have e1 := congrArg List.length hC
    have e2 := congrArg List.length h1
    simp only [List.length_map] at e1 e2
    omega
  have back : ∀ (k : Nat) (q : Nat × va_E), (putA ws isC w1)[k]? = some q → ∃ e : va_E, ws[k]? = some (q.1, e) := by
    intro k q hq
    rcases putA_at isC w1 ws hl k q hq with ⟨j, a1, a2⟩ | ⟨-, a2⟩
    · have b1 : (w1.map (fun q => q.1))[j]? = some q.1 := by rw [List.getElem?_map, a2]; rfl
      rw [h1, List.getElem?_map] at b1
      cases hw : wc[j]? with
      | none => rw [hw] at b1; cases b1
      | some z =>
        rw [hw] at b1
        obtain ⟨i, c1, c2⟩ := at_map hC hw
        rw [a1] at c1
        cases c1
        have hz : z.1 = q.1 := Option.some.inj b1
        exact ⟨z.2, by rw [c2, ← hz]⟩
    · exact ⟨q.2, a2⟩
  refine ⟨fun k q hq => ?_, fun i j x y hi hj hxy => ?_, fun k q hq => ?_⟩
  · rcases putA_at isC w1 ws hl k q hq with ⟨j, -, a2⟩ | ⟨a1, a2⟩
    · exact hP1 j q a2
    · have hlt := (hP k q a2).lt
      refine (hP k q a2).kept (hk q.1 hlt (fun h => ?_))
      rcases h with ⟨k2, e, h⟩ | h
      · obtain ⟨i, c1, c2⟩ := at_map hC h
        have hki := hD.1 k i q (q.1, e) a2 c2 rfl
        subst hki
        exact a1 (List.mem_of_getElem? c1)
      · omega
  · obtain ⟨e1, a1⟩ := back i x hi
    obtain ⟨e2, a2⟩ := back j y hj
    exact hD.1 i j _ _ a1 a2 hxy
  · obtain ⟨e1, a1⟩ := back k q hq
    exact hD.2 k (q.1, e1) a1
theorem fr_A {A0 : Nat → Prop} {ws wc : va_W} {H0 H : Heap} {locs : List Loc} (hD : va_D A0 ws) (hS : va_S A0 H0 H locs) (hA : ∀ q, H0.size ≤ q → A0 q) (isC : List Nat) (hC : isC.map (fun i => ws[i]?) = wc.map some) : ∀ q, va_A wc H.size q → A0 q := va_free hD hS hA isC hC
theorem gd {c : Prop} [Decidable c] {α : Type} {X : Option α} {r : α} (h : (if c then none else X) = some r) : ¬ c ∧ X = some r := by
  by_cases hc : c
  · rw [if_pos hc] at h; cases h
  · exact ⟨hc, by rw [if_neg hc] at h; exact h⟩
theorem it {c : Prop} [Decidable c] {α : Type} {X Y : α} {r : α} (hc : c) (h : (if c then X else Y) = r) : X = r := by rw [if_pos hc] at h; exact h
theorem ie {c : Prop} [Decidable c] {α : Type} {X Y : α} {r : α} (hc : ¬ c) (h : (if c then X else Y) = r) : Y = r := by rw [if_neg hc] at h; exact h
theorem bd {α β : Type} {x : Option α} {f : α → Option β} {r : β} (h : x.bind f = some r) : ∃ a, x = some a ∧ f a = some r := Option.bind_eq_some_iff.mp h
theorem sm {α : Type} {x y : α} (h : some x = some y) : x = y := Option.some.inj h
/-- a whole copy of a row -/
theorem cpy_cell (c : ClassId) (n : Nat) (f g : Ar) : vp_cell c (n, .inl (va_cpy f g 0 0 n)) = vp_cell c (n, .inl f) := by
  have h : (fun j : Fin n => Value.int (va_cpy f g 0 0 n j.val)) = (fun j : Fin n => Value.int (f j.val)) := funext fun j => by
    have hj := j.isLt
    simp [va_cpy, hj]
  show ({ cls := c, slots := Array.ofFn (n := n) fun j => Value.int (va_cpy f g 0 0 n j.val), vm := .none } : Cell) = { cls := c, slots := Array.ofFn (n := n) fun j => Value.int (f j.val), vm := .none }
  rw [h]
theorem P_sw {D : va_G} {cl : List vw_C} {ws : va_W} {H : Heap} {p a : Nat} {c : ClassId} {x y : vp_A} (h : va_P D cl (ws.set p (a, .inl (c, x))) H) (he : vp_cell c x = vp_cell c y) : va_P D cl (ws.set p (a, .inl (c, y))) H := by
  intro k q hk
  by_cases hp : p = k
  · subst hp
    rw [List.getElem?_set] at hk
    simp only [if_true] at hk
    split at hk
    · rename_i hl
      cases hk
      have h1 := h p (a, .inl (c, x)) (by rw [List.getElem?_set]; simp [hl])
      show H[a]? = some (vp_cell c y)
      rw [← he]
      exact h1
    · cases hk
  · rw [List.getElem?_set_ne hp] at hk
    exact h k q (by rw [List.getElem?_set_ne hp]; exact hk)
theorem D_sw {A : Nat → Prop} {ws : va_W} {p a : Nat} {e1 e2 : va_E} (h : va_D A (ws.set p (a, e1))) (hp : p < ws.length) : va_D A (ws.set p (a, e2)) := by
  have h1 := va_D.set (p := p) (a := a) (e0 := e1) (e := e2) h (by rw [List.getElem?_set]; simp [hp])
  rw [List.set_set] at h1
  exact h1
theorem P_cp {D : va_G} {cl : List vw_C} {ws : va_W} {H : Heap} {p a n : Nat} {c : ClassId} {f g : Ar} {i j k : Int32} (hi : i.toNatClampNeg = 0) (hj : j.toNatClampNeg = 0) (hk : k.toNatClampNeg = n) (h : va_P D cl (ws.set p (a, .inl (c, n, .inl (va_cpy f g i.toNatClampNeg j.toNatClampNeg k.toNatClampNeg)))) H) : va_P D cl (ws.set p (a, .inl (c, n, .inl f))) H := by
  rw [hi, hj, hk] at h
  exact P_sw h (cpy_cell c n f g)
theorem nar_c {x : Int32} (h : 0 ≤ x ∧ x ≤ 65535) : narrow .char (.int x) = .int x ∧ fits .char (.int x) = true := by
  obtain ⟨j, hj, rfl⟩ := nI_of2 (M := 65535) (n := 65535) (by decide) (Int32.not_lt.mpr h.1) h.2
  exact pk_charN (by omega)
def chOk (n : Nat) (f : Ar) : Bool := (List.range n).all (fun i => decide (0 ≤ f i ∧ f i ≤ 65535))
theorem chOk_at {n : Nat} {f : Ar} (h : ¬ chOk n f = false) : ∀ i, i < n → 0 ≤ f i ∧ f i ≤ 65535 := fun i hi => by
  have h1 : chOk n f = true := by cases h2 : chOk n f with
    | false => exact absurd h2 h
    | true => rfl
  exact of_decide_eq_true (List.all_eq_true.mp h1 i (List.mem_range.mpr hi))
theorem chOk_of {n : Nat} {f : Ar} (h : ∀ i, i < n → 0 ≤ f i ∧ f i ≤ 65535) : chOk n f = true := List.all_eq_true.mpr fun i hi => decide_eq_true (h i (List.mem_range.mp hi))
theorem nar_z {x : Int32} (h : x = 0 ∨ x = 1) : narrow .boolean (.int x) = .int x := by rcases h with rfl | rfl <;> rfl
section LCALL
variable {p : Program} {l : Launch} {e : Env} {R : Room} {s : State} {m : MethodId} {args : Array Value} {below : List Frame} {meth : Method} {c : Code} {H : Heap} {locs : List Loc} {cells slots : Nat} {Q : State → Prop}
variable {pc mc ms : Nat} {ls : Array Slot} {rest st0 : List Value} {a : Array Value} {A0 : Nat → Prop} {H0 : Heap} {D : va_G} {ws wc w1 : va_W}
theorem jn_v (hr : va_Run p l e R s m args below meth c H locs cells slots mc ms (F0 m pc ls st0) rest (va_Qv (S := Unit) (fun _ => True) (fun _ t => pQ D (va_A wc H.size) w1 t) (va_A wc H.size) a) (va_A wc H.size)) (hP : va_P D vwCl ws H) (hD : va_D A0 ws) (hS : va_S A0 H0 H locs) (hA : ∀ q, H0.size ≤ q → A0 q) (isC : List Nat) (hC : isC.map (fun i => ws[i]?) = wc.map some) (h1 : w1.map (fun q => q.1) = wc.map (fun q => q.1))
    (kk : ∀ (H1 : Heap) (locs1 : List Loc), va_P D vwCl (putA ws isC w1) H1 → va_D A0 (putA ws isC w1) → va_S A0 H0 H1 locs1 → W p l e R s m args below meth c H1 locs1 (cells + mc) (slots + ms) Q (F0 m (pc + 3) ls rest)) : W p l e R s m args below meth c H locs cells slots Q (F0 m pc ls st0) := by
  have hF := fr_A hD hS hA isC hC
  refine va_callv hr hS (fun q _ h => hF q h) hF (fun u t H1 locs1 ht hvm hw hB hz hk hS1 => ?_)
  have hP1 := hB.1
  rw [ht] at hP1
  obtain ⟨hP2, hD2⟩ := jn_P hP hD isC hC h1 hk hP1
  exact kk H1 locs1 hP2 hD2 hS1
theorem jn_i {r : Int32} (hr : va_Run p l e R s m args below meth c H locs cells slots mc ms (F0 m pc ls st0) rest (va_Qi (S := Unit) (fun r' _ => r' = r) (fun _ t => pQ D (va_A wc H.size) w1 t) (va_A wc H.size) a) (va_A wc H.size)) (hP : va_P D vwCl ws H) (hD : va_D A0 ws) (hS : va_S A0 H0 H locs) (hA : ∀ q, H0.size ≤ q → A0 q) (isC : List Nat) (hC : isC.map (fun i => ws[i]?) = wc.map some) (h1 : w1.map (fun q => q.1) = wc.map (fun q => q.1))
    (kk : ∀ (H1 : Heap) (locs1 : List Loc), va_P D vwCl (putA ws isC w1) H1 → va_D A0 (putA ws isC w1) → va_S A0 H0 H1 locs1 → W p l e R s m args below meth c H1 locs1 (cells + mc) (slots + ms) Q (F0 m (pc + 3) ls (.int r :: rest))) : W p l e R s m args below meth c H locs cells slots Q (F0 m pc ls st0) := by
  have hF := fr_A hD hS hA isC hC
  refine va_calli hr hS (fun q _ h => hF q h) hF (fun r2 u t H1 locs1 ht hvm hw hB hz hk hS1 => ?_)
  have hP1 := hB.1
  rw [ht] at hP1
  obtain ⟨hP2, hD2⟩ := jn_P hP hD isC hC h1 hk hP1
  subst hw
  exact kk H1 locs1 hP2 hD2 hS1
theorem ws_back {ws wc : va_W} : ∀ (isC : List Nat), isC.map (fun i => ws[i]?) = wc.map some → putA ws isC wc = ws := by
  intro isC
  induction isC generalizing wc with
  | nil => intro _; cases wc <;> rfl
  | cons i is ih =>
    intro h
    cases wc with
    | nil => cases h
    | cons q w =>
      have h0 : ws[i]? = some q := by
        have := congrArg List.head? h
        simpa using this
      have h2 : is.map (fun i => ws[i]?) = w.map some := by
        have := congrArg List.tail h
        simpa using this
      show putA (ws.set i q) is w = ws
      have h3 : ws.set i q = ws := by
        apply List.ext_getElem?
        intro k
        by_cases hk : i = k
        · subst hk
          rw [List.getElem?_set_self (List.getElem?_eq_some_iff.mp h0).1, h0]
        · rw [List.getElem?_set_ne hk]
      rw [h3]
      exact ih h2
/-- a call that changes nothing -/
theorem jr_i {r : Int32} (hr : va_Run p l e R s m args below meth c H locs cells slots mc ms (F0 m pc ls st0) rest (va_Qi (S := Unit) (fun r' _ => r' = r) (fun _ t => pQ D (va_A wc H.size) wc t) (va_A wc H.size) a) (va_A wc H.size)) (hP : va_P D vwCl ws H) (hD : va_D A0 ws) (hS : va_S A0 H0 H locs) (hA : ∀ q, H0.size ≤ q → A0 q) (isC : List Nat) (hC : isC.map (fun i => ws[i]?) = wc.map some)
    (kk : ∀ (H1 : Heap) (locs1 : List Loc), va_P D vwCl ws H1 → va_S A0 H0 H1 locs1 → W p l e R s m args below meth c H1 locs1 (cells + mc) (slots + ms) Q (F0 m (pc + 3) ls (.int r :: rest))) : W p l e R s m args below meth c H locs cells slots Q (F0 m pc ls st0) := by
  refine jn_i hr hP hD hS hA isC hC rfl (fun H1 locs1 hP1 hD1 hS1 => ?_)
  rw [ws_back isC hC] at hP1
  exact kk H1 locs1 hP1 hS1
theorem jr_r {ra : Nat} (hr : va_Run p l e R s m args below meth c H locs cells slots mc ms (F0 m pc ls st0) rest (va_Qr (S := Unit) (fun _ => True) (fun _ r' t => r' = ra ∧ pQ D (va_A wc H.size) wc t) (va_A wc H.size) a) (va_A wc H.size)) (hP : va_P D vwCl ws H) (hD : va_D A0 ws) (hS : va_S A0 H0 H locs) (hA : ∀ q, H0.size ≤ q → A0 q) (isC : List Nat) (hC : isC.map (fun i => ws[i]?) = wc.map some)
    (kk : ∀ (H1 : Heap) (locs1 : List Loc), va_P D vwCl ws H1 → va_S A0 H0 H1 locs1 → W p l e R s m args below meth c H1 locs1 (cells + mc) (slots + ms) Q (F0 m (pc + 3) ls (.ref ra :: rest))) : W p l e R s m args below meth c H locs cells slots Q (F0 m pc ls st0) := by
  have hF := fr_A hD hS hA isC hC
  refine va_callr hr hS (fun q _ h => hF q h) hF (fun u r2 t H1 locs1 ht hvm hw hB hz hk hS1 => ?_)
  have hP1 := hB.2.1
  rw [ht] at hP1
  obtain ⟨hP2, -⟩ := jn_P hP hD isC hC rfl hk hP1
  rw [ws_back isC hC] at hP2
  rw [hB.1]
  exact kk H1 locs1 hP2 hS1
end LCALL
/-! words -/
theorem gi_v {big : List Cond} (hb : ∀ w ∈ BIG, w ∈ big) {c1 : Cond} {own C : String} {idx : Nat} {y : MethodName} (h1 : (.methodLink own idx y : Cond) ∈ BIG) (h2 : (.instanceMethod y : Cond) ∈ BIG) (h3 : (.selects C y y : Cond) ∈ BIG) (h4 : (.initialized C : Cond) ∈ BIG) (h5 : c1 ∈ BIG) : GoodIn big (wsV own idx C y (c1 :: BIG)) := by
  have key : ∀ w ∈ wsV own idx C y (c1 :: BIG), w ∈ BIG := by
    intro w hw
    simp only [wsV, List.cons_append, List.nil_append, List.mem_cons] at hw
    rcases hw with rfl | rfl | rfl | rfl | rfl | hw
    · exact h1
    · exact h2
    · exact h3
    · exact h4
    · exact h5
    · exact hw
  exact fun w hw => ⟨hb w (key w hw), big_good (key w hw)⟩
theorem gi_s {big : List Cond} (hb : ∀ w ∈ BIG, w ∈ big) {c1 : Cond} {own : String} {idx : Nat} {y : MethodName} (h1 : (.methodLink own idx y : Cond) ∈ BIG) (h2 : (.static y : Cond) ∈ BIG) (h4 : (.initialized own : Cond) ∈ BIG) (h5 : c1 ∈ BIG) : GoodIn big (wsS own idx y (c1 :: BIG)) := by
  have key : ∀ w ∈ wsS own idx y (c1 :: BIG), w ∈ BIG := by
    intro w hw
    simp only [wsS, List.cons_append, List.nil_append, List.mem_cons] at hw
    rcases hw with rfl | rfl | rfl | rfl | hw
    · exact h1
    · exact h2
    · exact h4
    · exact h5
    · exact hw
  exact fun w hw => ⟨hb w (key w hw), big_good (key w hw)⟩
theorem gi_n {big : List Cond} (hb : ∀ w ∈ BIG, w ∈ big) {c1 : Cond} (h5 : c1 ∈ BIG) : GoodIn big (c1 :: BIG) := by
  have key : ∀ w ∈ c1 :: BIG, w ∈ BIG := by
    intro w hw
    rcases List.mem_cons.mp hw with rfl | hw
    · exact h5
    · exact hw
  exact fun w hw => ⟨hb w (key w hw), big_good (key w hw)⟩
theorem bg {c0 : Cond} : ∀ w ∈ BIG, w ∈ c0 :: BIG := fun _ h => List.mem_cons_of_mem _ h
