abbrev wL (dA : Nat → Nat) (ob b : Nat) (ml : Int32) (n q : Nat) (f : Ar) : va_W := wLN dA ob (b, ml, q, f, nI n)
theorem inB_J4 : ∀ w ∈ wsJ40, w ∈ BIG := fun w h => big_in (List.all_eq_true.mp (show wsJ40.all (fun w => decide (w ∈ lw_tbl)) = true by decide +kernel) w h |> of_decide_eq_true) (List.all_eq_true.mp (show wsJ40.all goodWord = true by decide +kernel) w h)
/-- a private method of a class above, on an object of the class C -/
theorem sel_up {s : State} {args : Array Value} {C : String} {y z : MethodName} (h0 : (Cond.selects C z z).before args s = true) (hz : z.cls = y.cls) (hy : y.cls ≠ "java/lang/invoke/MethodHandle" ∧ y.cls ≠ "java/lang/invoke/VarHandle")
    (hpriv : (Cond.privateMethod y).before args s = true) (hinst : (Cond.instanceMethod y).before args s = true) : (Cond.selects C y y).before args s = true := by
  obtain ⟨c, r, m, hc, -, hz1, -, mk, hmk, hni⟩ := Cond.selects_spec h0
  obtain ⟨ym, methM, hnamed, hmethM, -, -⟩ := Cond.instanceMethod_spec hinst
  have hfound : s.methodFound? y.cls y.name y.desc = some ym := State.methodFound?_of_named hnamed hy
  have hcls : ym.cls = m.cls := Option.some.inj ((findClass_of_methodNamed hnamed).symm.trans ((congrArg s.vm.findClass hz.symm).trans (findClass_of_methodNamed hz1)))
  have hsel : selectMethod {} s.vm c ym = .method ym := selectMethod_private hmethM (Cond.privateMethod_at hpriv ym methM hnamed hmethM)
  simp only [Cond.before, Cond.holds, Cond.value, hc, hfound, hnamed, hsel, hcls, hmk]
  simp; exact hni
section LSB
variable {p : Program} {l : Launch} {e : Env} {R : Room} {s : State} {m : MethodId} {args : Array Value} {below : List Frame} {meth : Method} {c : Code} {H : Heap} {locs : List Loc} {cells slots : Nat} {Q : State → Prop}
variable {pc mc ms : Nat} {ls : Array Slot} {rest st0 : List Value} {a : Array Value} {A0 : Nat → Prop} {H0 : Heap} {D : va_G} {ws : va_W}
/-- a method that the receiver's class inherits: the words -/
theorem cwUp {own C : String} {index maxL mc ms : Nat} {y : MethodName} {bytes : ByteArray} {ret : Option FieldType} {Ts : List Cond} {rm : Room} (n : Nat) (ht : ∀ w ∈ Ts, w.before args s = true) (hb : ∀ w ∈ BIG, w ∈ Ts)
    (h1 : (.methodLink own index y : Cond) ∈ BIG) (h2 : (.sameMethod y.cls y.cls y.name y.desc : Cond) ∈ BIG) (h3 : (Cond.selects C y y).before args s = true) (h4 : (.instanceMethod y : Cond) ∈ BIG) (h5 : (Cond.initialized y.cls) ∈ BIG) (h6 : (Cond.code y bytes maxL ret) ∈ BIG)
    (hrc : rm.cells = mc) (hrs : rm.slots = ms) (hd : y.cls ≠ "java/lang/invoke/MethodHandle" ∧ y.cls ≠ "java/lang/invoke/VarHandle" ∧ (parseMethodDescriptor y.desc).map (fun d => d.parameters.length) = some n) (hR : rm.frames + 1 ≤ R.frames ∧ 8 + (maxL + 11) + rm.locals ≤ R.locals) : va_CU R s args own C y.cls index y y bytes maxL ret (Cond.code y bytes maxL ret :: BIG) rm mc ms n := by
  have W : ∀ w ∈ BIG, w.before args s = true := fun w h => ht w (hb w h)
  refine ⟨⟨hrc, hrs, hR.1, hR.2, pay_in ht (gi_n hb h6), List.mem_cons_self⟩, W _ h6, W _ h5, ⟨hd.1, hd.2.1⟩, fun sig h => ?_, W _ h1, W _ h2, va_Decl.of (W _ h4) (W _ h6), h3, W _ h4⟩
  have h9 := hd.2.2
  rw [h] at h9
  exact (Option.some.inj h9).symm
theorem gi_su {big : List Cond} (hb : ∀ w ∈ BIG, w ∈ big) {c1 : Cond} {own : String} {idx : Nat} {y : MethodName} (h1 : (.methodLink own idx y : Cond) ∈ BIG) (h2 : (.sameMethod y.cls y.cls y.name y.desc : Cond) ∈ BIG) (h3 : (.superclass own y.cls : Cond) ∈ BIG) (h4 : (.instanceMethod y : Cond) ∈ BIG) (h5 : (.initialized y.cls : Cond) ∈ BIG) (h6 : c1 ∈ BIG) : GoodIn big (va_wsSU own idx y (c1 :: BIG)) := by
  have key : ∀ w ∈ va_wsSU own idx y (c1 :: BIG), w ∈ BIG := by
    intro w hw
    simp only [va_wsSU, List.cons_append, List.nil_append, List.mem_cons] at hw
    rcases hw with rfl | rfl | rfl | rfl | rfl | rfl | hw
    · exact h1
    · exact h2
    · exact h3
    · exact h4
    · exact h5
    · exact h6
    · exact hw
  exact fun w hw => ⟨hb w (key w hw), big_good (key w hw)⟩
theorem je_v {S : Type} {post : S → Prop} {w1 : S → va_W} (hr : va_Run p l e R s m args below meth c H locs cells slots mc ms (F0 m pc ls st0) rest (va_Qv post (fun u t => pQ D (va_A ws H.size) (w1 u) t) (va_A ws H.size) a) (va_A ws H.size)) (hD : va_D A0 ws) (hS : va_S A0 H0 H locs) (hA : ∀ q, H0.size ≤ q → A0 q)
    (kk : ∀ (u : S) (H1 : Heap) (locs1 : List Loc), post u → va_P D vwCl (w1 u) H1 → va_D A0 (w1 u) → va_S A0 H0 H1 locs1 → W p l e R s m args below meth c H1 locs1 (cells + mc) (slots + ms) Q (F0 m (pc + 3) ls rest)) : W p l e R s m args below meth c H locs cells slots Q (F0 m pc ls st0) := by
  have hF := fr_w hD hS hA
  refine va_callv hr hS (fun q _ h => hF q h) hF (fun u t H1 locs1 ht hvm hw hB hz hk hS1 => ?_)
  have hP1 := hB.1
  rw [ht] at hP1
  exact kk u H1 locs1 hw hP1 (hB.2.weaken (fun _ q _ h => hF q.1 h)) hS1
theorem je_i {S : Type} {post : Int32 → S → Prop} {w1 : S → va_W} (hr : va_Run p l e R s m args below meth c H locs cells slots mc ms (F0 m pc ls st0) rest (va_Qi post (fun u t => pQ D (va_A ws H.size) (w1 u) t) (va_A ws H.size) a) (va_A ws H.size)) (hD : va_D A0 ws) (hS : va_S A0 H0 H locs) (hA : ∀ q, H0.size ≤ q → A0 q)
    (kk : ∀ (r : Int32) (u : S) (H1 : Heap) (locs1 : List Loc), post r u → va_P D vwCl (w1 u) H1 → va_D A0 (w1 u) → va_S A0 H0 H1 locs1 → W p l e R s m args below meth c H1 locs1 (cells + mc) (slots + ms) Q (F0 m (pc + 3) ls (.int r :: rest))) : W p l e R s m args below meth c H locs cells slots Q (F0 m pc ls st0) := by
  have hF := fr_w hD hS hA
  refine va_calli hr hS (fun q _ h => hF q h) hF (fun r u t H1 locs1 ht hvm hw hB hz hk hS1 => ?_)
  have hP1 := hB.1
  rw [ht] at hP1
  exact kk r u H1 locs1 hw hP1 (hB.2.weaken (fun _ q _ h => hF q.1 h)) hS1
theorem je_r {S : Type} {post : S → Prop} {ad : S → Nat} {w1 : S → va_W} (hr : va_Run p l e R s m args below meth c H locs cells slots mc ms (F0 m pc ls st0) rest (va_Qr post (fun u ra t => ra = ad u ∧ pQ D (va_A ws H.size) (w1 u) t) (va_A ws H.size) a) (va_A ws H.size)) (hD : va_D A0 ws) (hS : va_S A0 H0 H locs) (hA : ∀ q, H0.size ≤ q → A0 q)
    (kk : ∀ (u : S) (H1 : Heap) (locs1 : List Loc), post u → va_P D vwCl (w1 u) H1 → va_D A0 (w1 u) → va_S A0 H0 H1 locs1 → W p l e R s m args below meth c H1 locs1 (cells + mc) (slots + ms) Q (F0 m (pc + 3) ls (.ref (ad u) :: rest))) : W p l e R s m args below meth c H locs cells slots Q (F0 m pc ls st0) := by
  have hF := fr_w hD hS hA
  refine va_callr hr hS (fun q _ h => hF q h) hF (fun u ra t H1 locs1 ht hvm hw hB hz hk hS1 => ?_)
  have hP1 := hB.2.1
  rw [ht] at hP1
  rw [hB.1]
  exact kk u H1 locs1 hw hP1 (hB.2.2.weaken (fun _ q _ h => hF q.1 h)) hS1
theorem byte_uni {dA : Nat → Nat} {cA : ClassId} (h : va_K D vwCl (tyA dA ++ [(cA, .byte)]) s) : cA = dA 2 := Option.some.inj ((va_nm_byte (h.2 4 _ rfl).2).symm.trans (va_nm_byte (h.2 2 _ rfl).2))
end LSB
set_option maxRecDepth 100000 in
set_option maxHeartbeats 4000000 in
theorem m_J5_isLatin1_aae02 (l : Launch) (dC : Nat → ClassId) (dI : Nat → Nat → Nat) (dA gz : Nat → Nat) (sz : Nat) (ob b : Nat) (ml : Int32) (n q : Nat) (f : Ar)  : Met l yJ5_isLatin1_aae02 ws_J5_isLatin1_aae02 ({ frames := 10, cells := 0, slots := 0, locals := 200 } : Room) (va_Pc [.ref ob] (pP (dC, dI) dA gz (wL dA ob b ml n q f) sz)) (va_Qi (S := Unit) (fun r' _ => r' = 1) (fun _ t => pQ (dC, dI) (va_A (wL dA ob b ml n q f) sz) (wL dA ob b ml n q f) t) (va_A (wL dA ob b ml n q f) sz)) 0 0 (va_A (wL dA ob b ml n q f) sz) := by
  refine Met.ofW (cc := cJ5_isLatin1_aae02) (maxL := 1) (ret := (some .boolean)) (by decide) rfl ?_
  intro p e s m args below meth c s₁ B hml hv
  obtain ⟨rfl, hsz, hP, hK, hD0, hN, hZ⟩ := hv
  have hx := B.exec
  have hb := B.bytes
  have hr := B.returns
  have hts := atoms_spec (ws := ws_J5_isLatin1_aae02) B.pre
  have hown : s.vm.findClass RJ5 = some m.cls := findClass_of_methodNamed B.named
  have hlocks := B.notSynchronized
  subst hsz
  have hD := hD0.self (sz := s.heap.size)
  generalize hAe : va_A (wL dA ob b ml n q f) s.heap.size = A at hD hZ ⊢
  have hA : ∀ z : Nat, s.heap.size ≤ z → A z := fun z h => by rw [← hAe]; exact Or.inr h
  have hS : va_S A s.heap s.heap [] := va_S.rf
  have hl := lv_entry [.ref ob] (n := 1) (Nat.le_of_ble_eq_true rfl)
  rw [lg_entry_eq]
  generalize (lg_sl [.ref ob] ++ List.replicate (1 - (lg_sl [.ref ob]).length) Slot.unset).toArray = ls at hl ⊢
  have hl : lv_has ls 1 [(0, .ref ob)] := hl
  have in_J4 : ∀ w ∈ wsJ40, w ∈ ws_J5_isLatin1_aae02 := fun w h => bg _ (inB_J4 w h)
  refine va_gets hx hb hZ.2.1 hS hown (hts _ (bg _ wd_250)) (fun _ h9 => h9) dJ5_isLatin1_aae02_0 ?_
  refine lv_if_eq (tgt := 17) hx hb dJ5_isLatin1_aae02_3 (by decide) (fun z9 => absurd z9 (by decide)) (fun z9 => ?_)
  refine lv_aload_n hx hb dJ5_isLatin1_aae02_6 rfl (lv_at hl 0 rfl) ?_
  refine va_get (D := (dC, dI)) (ci := 1) (v := .int 0) (C := RJ4) (T := TJ4) (N := 4) hx hb hts in_J4 hown hK hP 0 rfl rfl 1 (by decide) (hts _ (bg _ wd_260)) (fun _ h9 => h9) rfl dJ5_isLatin1_aae02_7 ?_
  refine lv_if_ne (tgt := 17) hx hb dJ5_isLatin1_aae02_10 (by decide) (fun z9 => absurd rfl z9) (fun z9 => ?_)
  refine lv_iconst (v := 1) hx hb dJ5_isLatin1_aae02_13 (by decide) ?_
  refine lv_goto (tgt := 18) hx hb dJ5_isLatin1_aae02_14 (by decide) ?_
  exact W.zret hx hb hr rfl (fun t ht hW => ⟨⟨_, (), rfl, rfl, by rw [ht]; exact hP, hD⟩, hS.F ht⟩) hS.2.2 dJ5_isLatin1_aae02_18
set_option maxRecDepth 100000 in
set_option maxHeartbeats 4000000 in
theorem m_J1_canEncode_fc78d (l : Launch) (dC : Nat → ClassId) (dI : Nat → Nat → Nat) (dA gz : Nat → Nat) (sz : Nat) (ob b : Nat) (ml : Int32) (n q : Nat) (f : Ar) (x : Int32) (hx9 : ¬ (255 : Int32) < x) : Met l yJ1_canEncode_fc78d ws_J1_canEncode_fc78d ({ frames := 10, cells := 0, slots := 0, locals := 200 } : Room) (va_Pc [.int x] (pP (dC, dI) dA gz (wL dA ob b ml n q f) sz)) (va_Qi (S := Unit) (fun r' _ => r' = 1) (fun _ t => pQ (dC, dI) (va_A (wL dA ob b ml n q f) sz) (wL dA ob b ml n q f) t) (va_A (wL dA ob b ml n q f) sz)) 0 0 (va_A (wL dA ob b ml n q f) sz) := by
  refine Met.ofW (cc := cJ1_canEncode_fc78d) (maxL := 1) (ret := (some .boolean)) (by decide) rfl ?_
  intro p e s m args below meth c s₁ B hml hv
  obtain ⟨rfl, hsz, hP, hK, hD0, hN, hZ⟩ := hv
  have hx := B.exec
  have hb := B.bytes
  have hr := B.returns
  have hts := atoms_spec (ws := ws_J1_canEncode_fc78d) B.pre
  have hown : s.vm.findClass RJ1 = some m.cls := findClass_of_methodNamed B.named
  have hlocks := B.notSynchronized
  subst hsz
  have hD := hD0.self (sz := s.heap.size)
  generalize hAe : va_A (wL dA ob b ml n q f) s.heap.size = A at hD hZ ⊢
  have hA : ∀ z : Nat, s.heap.size ≤ z → A z := fun z h => by rw [← hAe]; exact Or.inr h
  have hS : va_S A s.heap s.heap [] := va_S.rf
  have hl := lv_entry [.int x] (n := 1) (Nat.le_of_ble_eq_true rfl)
  rw [lg_entry_eq]
  generalize (lg_sl [.int x] ++ List.replicate (1 - (lg_sl [.int x]).length) Slot.unset).toArray = ls at hl ⊢
  have hl : lv_has ls 1 [(0, .int x)] := hl
  have in_J4 : ∀ w ∈ wsJ40, w ∈ ws_J1_canEncode_fc78d := fun w h => bg _ (inB_J4 w h)
  refine lv_iload_n hx hb dJ1_canEncode_fc78d_0 rfl (lv_at hl 0 rfl) ?_
  refine lv_sipush (v := 255) hx hb dJ1_canEncode_fc78d_1 (by decide) ?_
  refine lv_icmp_gt (tgt := 11) hx hb dJ1_canEncode_fc78d_4 (by decide) (fun z9 => absurd z9 hx9) (fun z9 => ?_)
  refine lv_iconst (v := 1) hx hb dJ1_canEncode_fc78d_7 (by decide) ?_
  refine lv_goto (tgt := 12) hx hb dJ1_canEncode_fc78d_8 (by decide) ?_
  exact W.zret hx hb hr rfl (fun t ht hW => ⟨⟨_, (), rfl, rfl, by rw [ht]; exact hP, hD⟩, hS.F ht⟩) hS.2.2 dJ1_canEncode_fc78d_12
set_option maxRecDepth 100000 in
set_option maxHeartbeats 4000000 in
theorem m_J5_length_8abf5 (l : Launch) (dC : Nat → ClassId) (dI : Nat → Nat → Nat) (dA gz : Nat → Nat) (sz : Nat) (ob b : Nat) (ml : Int32) (n q : Nat) (f : Ar)  : Met l yJ5_length_8abf5 ws_J5_length_8abf5 ({ frames := 10, cells := 0, slots := 0, locals := 200 } : Room) (va_Pc [.ref ob] (pP (dC, dI) dA gz (wL dA ob b ml n q f) sz)) (va_Qi (S := Unit) (fun r' _ => r' = nI n) (fun _ t => pQ (dC, dI) (va_A (wL dA ob b ml n q f) sz) (wL dA ob b ml n q f) t) (va_A (wL dA ob b ml n q f) sz)) 0 0 (va_A (wL dA ob b ml n q f) sz) := by
  refine Met.ofW (cc := cJ5_length_8abf5) (maxL := 1) (ret := (some .int)) (by decide) rfl ?_
  intro p e s m args below meth c s₁ B hml hv
  obtain ⟨rfl, hsz, hP, hK, hD0, hN, hZ⟩ := hv
  have hx := B.exec
  have hb := B.bytes
  have hr := B.returns
  have hts := atoms_spec (ws := ws_J5_length_8abf5) B.pre
  have hown : s.vm.findClass RJ5 = some m.cls := findClass_of_methodNamed B.named
  have hlocks := B.notSynchronized
  subst hsz
  have hD := hD0.self (sz := s.heap.size)
  generalize hAe : va_A (wL dA ob b ml n q f) s.heap.size = A at hD hZ ⊢
  have hA : ∀ z : Nat, s.heap.size ≤ z → A z := fun z h => by rw [← hAe]; exact Or.inr h
  have hS : va_S A s.heap s.heap [] := va_S.rf
  have hl := lv_entry [.ref ob] (n := 1) (Nat.le_of_ble_eq_true rfl)
  rw [lg_entry_eq]
  generalize (lg_sl [.ref ob] ++ List.replicate (1 - (lg_sl [.ref ob]).length) Slot.unset).toArray = ls at hl ⊢
  have hl : lv_has ls 1 [(0, .ref ob)] := hl
  have in_J4 : ∀ w ∈ wsJ40, w ∈ ws_J5_length_8abf5 := fun w h => bg _ (inB_J4 w h)
  refine lv_aload_n hx hb dJ5_length_8abf5_0 rfl (lv_at hl 0 rfl) ?_
  refine va_get (D := (dC, dI)) (ci := 1) (v := .int (nI n)) (C := RJ4) (T := TJ4) (N := 4) hx hb hts in_J4 hown hK hP 0 rfl rfl 3 (by decide) (hts _ (bg _ wd_263)) (fun _ h9 => h9) rfl dJ5_length_8abf5_1 ?_
  exact W.iret hx hb hr (fun t ht hW => ⟨⟨_, (), rfl, rfl, by rw [ht]; exact hP, hD⟩, hS.F ht⟩) hS.2.2 dJ5_length_8abf5_4
set_option maxRecDepth 100000 in
set_option maxHeartbeats 4000000 in
theorem m_J4_length_8abf5 (l : Launch) (dC : Nat → ClassId) (dI : Nat → Nat → Nat) (dA gz : Nat → Nat) (sz : Nat) (ob b : Nat) (ml : Int32) (n q : Nat) (f : Ar)  : Met l yJ4_length_8abf5 ws_J4_length_8abf5 ({ frames := 14, cells := 0, slots := 0, locals := 400 } : Room) (va_Pc [.ref ob] (pP (dC, dI) dA gz (wL dA ob b ml n q f) sz)) (va_Qi (S := Unit) (fun r' _ => r' = nI n) (fun _ t => pQ (dC, dI) (va_A (wL dA ob b ml n q f) sz) (wL dA ob b ml n q f) t) (va_A (wL dA ob b ml n q f) sz)) 0 0 (va_A (wL dA ob b ml n q f) sz) := by
  refine Met.ofW (cc := cJ4_length_8abf5) (maxL := 1) (ret := (some .int)) (by decide) rfl ?_
  intro p e s m args below meth c s₁ B hml hv
  obtain ⟨rfl, hsz, hP, hK, hD0, hN, hZ⟩ := hv
  have hx := B.exec
  have hb := B.bytes
  have hr := B.returns
  have hts := atoms_spec (ws := ws_J4_length_8abf5) B.pre
  have hown : s.vm.findClass RJ4 = some m.cls := findClass_of_methodNamed B.named
  have hlocks := B.notSynchronized
  subst hsz
  have hD := hD0.self (sz := s.heap.size)
  generalize hAe : va_A (wL dA ob b ml n q f) s.heap.size = A at hD hZ ⊢
  have hA : ∀ z : Nat, s.heap.size ≤ z → A z := fun z h => by rw [← hAe]; exact Or.inr h
  have hS : va_S A s.heap s.heap [] := va_S.rf
  have hl := lv_entry [.ref ob] (n := 1) (Nat.le_of_ble_eq_true rfl)
  rw [lg_entry_eq]
  generalize (lg_sl [.ref ob] ++ List.replicate (1 - (lg_sl [.ref ob]).length) Slot.unset).toArray = ls at hl ⊢
  have hl : lv_has ls 1 [(0, .ref ob)] := hl
  have in_J4 : ∀ w ∈ wsJ40, w ∈ ws_J4_length_8abf5 := fun w h => bg _ (inB_J4 w h)
  refine lv_aload_n hx hb dJ4_length_8abf5_0 rfl (lv_at hl 0 rfl) ?_
  refine jw_i (w1 := wL dA ob b ml n q f) (va_runSU (hK.1 1 _ rfl).2 (As := []) (rest := []) ⟨hx, hb, hml, hown, hts⟩ (m_J5_length_8abf5 l dC dI dA gz s.heap.size ob b ml n q f ) (va_cwSU 0 hts (gi_su bg wd_1286 wd_1282 wd_272 wd_1281 wd_9 wd_1287) rfl rfl rfl ⟨by decide, hd_J5_length_8abf5.2.2.2⟩ ⟨Nat.le_of_ble_eq_true rfl, Nat.le_of_ble_eq_true rfl⟩) ⟨pP_blind, va_recv (ci := 1) (q0 := 0) hK hP rfl rfl, pP_preW hP hD hS hA hK hN hZ⟩ rfl rfl hl.1 rfl (lv_room (Nat.le_of_ble_eq_true rfl)) dJ4_length_8abf5_1 ⟨Nat.le_of_ble_eq_true rfl, Nat.le_of_ble_eq_true rfl⟩) hD hS hA (fun H locs hP hD hS => ?_)
  exact W.iret hx hb hr (fun t ht hW => ⟨⟨_, (), rfl, rfl, by rw [ht]; exact hP, hD⟩, hS.F ht⟩) hS.2.2 dJ4_length_8abf5_4
set_option maxRecDepth 100000 in
set_option maxHeartbeats 4000000 in
theorem m_J8_newLength_cabcc (l : Launch) (dC : Nat → ClassId) (dI : Nat → Nat → Nat) (dA gz : Nat → Nat) (sz : Nat) (ob b : Nat) (ml : Int32) (n q : Nat) (f : Ar) (x y z w : Int32) (hw : w = x + (if y < z then z else y)) (h1 : ¬ w ≤ 0) (h2 : ¬ (2147483639 : Int32) < w) : Met l yJ8_newLength_cabcc ws_J8_newLength_cabcc ({ frames := 18, cells := 0, slots := 0, locals := 600 } : Room) (va_Pc [.int x, .int y, .int z] (pP (dC, dI) dA gz (wL dA ob b ml n q f) sz)) (va_Qi (S := Unit) (fun r' _ => r' = w) (fun _ t => pQ (dC, dI) (va_A (wL dA ob b ml n q f) sz) (wL dA ob b ml n q f) t) (va_A (wL dA ob b ml n q f) sz)) 0 0 (va_A (wL dA ob b ml n q f) sz) := by
  refine Met.ofW (cc := cJ8_newLength_cabcc) (maxL := 4) (ret := (some .int)) (by decide) rfl ?_
  intro p e s m args below meth c s₁ B hml hv
  obtain ⟨rfl, hsz, hP, hK, hD0, hN, hZ⟩ := hv
  have hx := B.exec
  have hb := B.bytes
  have hr := B.returns
  have hts := atoms_spec (ws := ws_J8_newLength_cabcc) B.pre
  have hown : s.vm.findClass RJ8 = some m.cls := findClass_of_methodNamed B.named
  have hlocks := B.notSynchronized
  subst hsz
  have hD := hD0.self (sz := s.heap.size)
  generalize hAe : va_A (wL dA ob b ml n q f) s.heap.size = A at hD hZ ⊢
  have hA : ∀ z : Nat, s.heap.size ≤ z → A z := fun z h => by rw [← hAe]; exact Or.inr h
  have hS : va_S A s.heap s.heap [] := va_S.rf
  have hl := lv_entry [.int x, .int y, .int z] (n := 4) (Nat.le_of_ble_eq_true rfl)
  rw [lg_entry_eq]
  generalize (lg_sl [.int x, .int y, .int z] ++ List.replicate (4 - (lg_sl [.int x, .int y, .int z]).length) Slot.unset).toArray = ls at hl ⊢
  have hl : lv_has ls 4 [(0, .int x), (1, .int y), (2, .int z)] := hl
  have in_J4 : ∀ w ∈ wsJ40, w ∈ ws_J8_newLength_cabcc := fun w h => bg _ (inB_J4 w h)
  refine lv_iload_n hx hb dJ8_newLength_cabcc_0 rfl (lv_at hl 0 rfl) ?_
  refine lv_iload_n hx hb dJ8_newLength_cabcc_1 rfl (lv_at hl 1 rfl) ?_
  refine lv_iload_n hx hb dJ8_newLength_cabcc_2 rfl (lv_at hl 2 rfl) ?_
  refine va_mmax hx hb (hml.trans hl.1.symm) hown (hts _ (bg _ wd_1165)) (hts _ (bg _ wd_561)) (hts _ (bg _ wd_21)) (hts _ (bg _ wd_562)) (Nat.le_of_ble_eq_true rfl) (Nat.le_of_ble_eq_true rfl) (Nat.le_of_ble_eq_true rfl) (Nat.le_of_ble_eq_true rfl) dJ8_newLength_cabcc_3 ?_
  refine lv_iadd hx hb dJ8_newLength_cabcc_6 ?_
  rw [← hw]
  refine lv_istore_n (lv' := [(3, .int w), (0, .int x), (1, .int y), (2, .int z)]) hx hb dJ8_newLength_cabcc_7 rfl hl (by decide) rfl (fun ls hl => ?_)
  refine lv_iconst (v := 0) hx hb dJ8_newLength_cabcc_8 (by decide) ?_
  refine lv_iload_n hx hb dJ8_newLength_cabcc_9 rfl (lv_at hl 0 rfl) ?_
  refine lv_icmp_ge (tgt := 21) hx hb dJ8_newLength_cabcc_10 (by decide) (fun z9 => absurd z9 h1) (fun z9 => ?_)
  refine lv_iload_n hx hb dJ8_newLength_cabcc_13 rfl (lv_at hl 0 rfl) ?_
  refine lv_ldc hx hb (v := 2147483639) hown (hts _ (bg _ wd_1166)) dJ8_newLength_cabcc_14 ?_
  refine lv_icmp_gt (tgt := 21) hx hb dJ8_newLength_cabcc_16 (by decide) (fun z9 => absurd z9 h2) (fun z9 => ?_)
  refine lv_iload_n hx hb dJ8_newLength_cabcc_19 rfl (lv_at hl 0 rfl) ?_
  exact W.iret hx hb hr (fun t ht hW => ⟨⟨_, (), rfl, rfl, by rw [ht]; exact hP, hD⟩, hS.F ht⟩) hS.2.2 dJ8_newLength_cabcc_20
set_option maxRecDepth 100000 in
set_option maxHeartbeats 4000000 in
theorem m_J5_newCapacity_0f7a4 (l : Launch) (dC : Nat → ClassId) (dI : Nat → Nat → Nat) (dA gz : Nat → Nat) (sz : Nat) (ob b : Nat) (ml : Int32) (n q : Nat) (f : Ar) (k : Nat) (hk : q < k) (hk2 : k ≤ 65536) : Met l yJ5_newCapacity_0f7a4 ws_J5_newCapacity_0f7a4 ({ frames := 26, cells := 0, slots := 0, locals := 1000 } : Room) (va_Pc [.ref ob, .int (nI k)] (pP (dC, dI) dA gz (wL dA ob b ml n q f) sz)) (va_Qi (S := Unit) (fun r' _ => r' = nI (sb_cap k q)) (fun _ t => pQ (dC, dI) (va_A (wL dA ob b ml n q f) sz) (wL dA ob b ml n q f) t) (va_A (wL dA ob b ml n q f) sz)) 0 0 (va_A (wL dA ob b ml n q f) sz) := by
  refine Met.ofW (cc := cJ5_newCapacity_0f7a4) (maxL := 6) (ret := (some .int)) (by decide) rfl ?_
  intro p e s m args below meth c s₁ B hml hv
  obtain ⟨rfl, hsz, hP, hK, hD0, hN, hZ⟩ := hv
  have hx := B.exec
  have hb := B.bytes
  have hr := B.returns
  have hts := atoms_spec (ws := ws_J5_newCapacity_0f7a4) B.pre
  have hown : s.vm.findClass RJ5 = some m.cls := findClass_of_methodNamed B.named
  have hlocks := B.notSynchronized
  subst hsz
  have hD := hD0.self (sz := s.heap.size)
  generalize hAe : va_A (wL dA ob b ml n q f) s.heap.size = A at hD hZ ⊢
  have hA : ∀ z : Nat, s.heap.size ≤ z → A z := fun z h => by rw [← hAe]; exact Or.inr h
  have hS : va_S A s.heap s.heap [] := va_S.rf
  have hl := lv_entry [.ref ob, .int (nI k)] (n := 6) (Nat.le_of_ble_eq_true rfl)
  rw [lg_entry_eq]
  generalize (lg_sl [.ref ob, .int (nI k)] ++ List.replicate (6 - (lg_sl [.ref ob, .int (nI k)]).length) Slot.unset).toArray = ls at hl ⊢
  have hl : lv_has ls 6 [(0, .ref ob), (1, .int (nI k))] := hl
  have in_J4 : ∀ w ∈ wsJ40, w ∈ ws_J5_newCapacity_0f7a4 := fun w h => bg _ (inB_J4 w h)
  have hg := sb_cap_ge k q
  have hc : sb_cap k q = q + (if k - q < q + 2 then q + 2 else k - q) := by
    unfold sb_cap
    rw [if_neg (by omega)]
    split <;> split <;> omega
  have hcl : sb_cap k q < 2 ^ 20 := by rw [hc]; split <;> omega
  have e2 : Int32.ofNat q + ((2 : Int32) <<< ((0 : Int32) &&& 31)) = nI (q + 2) := by
    rw [sb_shl0]
    exact nI_add q 2
  have e3 : nI (sb_cap k q) = nI q + (if nI (k - q) < nI (q + 2) then nI (q + 2) else nI (k - q)) := by
    rw [hc]
    by_cases h2 : k - q < q + 2
    · rw [if_pos h2, if_pos (nI_lt h2 (by omega))]
      exact (nI_add q (q + 2)).symm
    · rw [if_neg h2, if_neg (nI_nlt (by omega) (by omega))]
      exact (nI_add q (k - q)).symm
  have e4 : nI k - nI q = nI (k - q) := pk_sub (by omega)
  refine lv_aload_n hx hb dJ5_newCapacity_0f7a4_0 rfl (lv_at hl 0 rfl) ?_
  refine va_get (D := (dC, dI)) (ci := 1) (v := .ref b) (C := RJ4) (T := TJ4) (N := 4) hx hb hts in_J4 hown hK hP 0 rfl rfl 0 (by decide) (hts _ (bg _ wd_259)) (fun _ h9 => h9) rfl dJ5_newCapacity_0f7a4_1 ?_
  refine va_alen (v := nI q) hx hb hK hP 1 2 rfl rfl rfl dJ5_newCapacity_0f7a4_4 ?_
  refine lv_istore_n (lv' := [(2, .int (nI q)), (0, .ref ob), (1, .int (nI k))]) hx hb dJ5_newCapacity_0f7a4_5 rfl hl (by decide) rfl (fun ls hl => ?_)
  refine lv_iload_n hx hb dJ5_newCapacity_0f7a4_6 rfl (lv_at hl 2 rfl) ?_
  refine lv_aload_n hx hb dJ5_newCapacity_0f7a4_7 rfl (lv_at hl 1 rfl) ?_
  refine va_get (D := (dC, dI)) (ci := 1) (v := .int 0) (C := RJ4) (T := TJ4) (N := 4) hx hb hts in_J4 hown hK hP 0 rfl rfl 1 (by decide) (hts _ (bg _ wd_260)) (fun _ h9 => h9) rfl dJ5_newCapacity_0f7a4_8 ?_
  refine lv_ishl hx hb dJ5_newCapacity_0f7a4_11 ?_
  rw [sb_shl0]
  refine lv_istore_n (lv' := [(3, .int (nI k)), (2, .int (nI q)), (0, .ref ob), (1, .int (nI k))]) hx hb dJ5_newCapacity_0f7a4_12 rfl hl (by decide) rfl (fun ls hl => ?_)
  refine lv_iload_n hx hb dJ5_newCapacity_0f7a4_13 rfl (lv_at hl 0 rfl) ?_
  refine lv_iload_n hx hb dJ5_newCapacity_0f7a4_14 rfl (lv_at hl 1 rfl) ?_
  refine lv_isub hx hb dJ5_newCapacity_0f7a4_15 ?_
  rw [e4]
  refine lv_istore (lv' := [(4, .int (nI (k - q))), (3, .int (nI k)), (2, .int (nI q)), (0, .ref ob), (1, .int (nI k))]) hx hb dJ5_newCapacity_0f7a4_16 hl (by decide) rfl (fun ls hl => ?_)
  refine lv_iload_n hx hb dJ5_newCapacity_0f7a4_18 rfl (lv_at hl 2 rfl) ?_
  refine lv_iload hx hb dJ5_newCapacity_0f7a4_19 (lv_at hl 0 rfl) ?_
  refine lv_iload_n hx hb dJ5_newCapacity_0f7a4_21 rfl (lv_at hl 2 rfl) ?_
  refine lv_iconst (v := 2) hx hb dJ5_newCapacity_0f7a4_22 (by decide) ?_
  refine lv_aload_n hx hb dJ5_newCapacity_0f7a4_23 rfl (lv_at hl 3 rfl) ?_
  refine va_get (D := (dC, dI)) (ci := 1) (v := .int 0) (C := RJ4) (T := TJ4) (N := 4) hx hb hts in_J4 hown hK hP 0 rfl rfl 1 (by decide) (hts _ (bg _ wd_260)) (fun _ h9 => h9) rfl dJ5_newCapacity_0f7a4_24 ?_
  refine lv_ishl hx hb dJ5_newCapacity_0f7a4_27 ?_
  refine lv_iadd hx hb dJ5_newCapacity_0f7a4_28 ?_
  rw [show nI q + ((2 : Int32) <<< ((0 : Int32) &&& 31)) = nI (q + 2) from e2]
  refine jw_i (w1 := wL dA ob b ml n q f) (va_runS (As := [.int (nI q), .int (nI (k - q)), .int (nI (q + 2))]) (rest := []) ⟨hx, hb, hml, hown, hts⟩ (m_J8_newLength_cabcc l dC dI dA gz s.heap.size ob b ml n q f (nI q) (nI (k - q)) (nI (q + 2)) (nI (sb_cap k q)) e3 (nI_nle (by omega) (by omega)) (show ¬ nI 2147483639 < nI (sb_cap k q) from nI_nlt (by omega) (by decide))) (va_cwS 3 hts (gi_t bg wd_1162 wd_1163 wd_27 wd_1164) rfl rfl rfl hd3_J8_newLength_cabcc ⟨Nat.le_of_ble_eq_true rfl, Nat.le_of_ble_eq_true rfl⟩) ⟨pP_blind, pP_preW hP hD hS hA hK hN hZ⟩ rfl rfl hl.1 rfl (lv_room (Nat.le_of_ble_eq_true rfl)) dJ5_newCapacity_0f7a4_29 ⟨Nat.le_of_ble_eq_true rfl, Nat.le_of_ble_eq_true rfl⟩) hD hS hA (fun H locs hP hD hS => ?_)
  refine lv_istore (lv' := [(5, .int (nI (sb_cap k q))), (4, .int (nI (k - q))), (3, .int (nI k)), (2, .int (nI q)), (0, .ref ob), (1, .int (nI k))]) hx hb dJ5_newCapacity_0f7a4_32 hl (by decide) rfl (fun ls hl => ?_)
  refine lv_iload hx hb dJ5_newCapacity_0f7a4_34 (lv_at hl 0 rfl) ?_
  refine lv_ldc hx hb (v := 2147483647) hown (hts _ (bg _ wd_1170)) dJ5_newCapacity_0f7a4_36 ?_
  refine lv_icmp_ne (tgt := 51) hx hb dJ5_newCapacity_0f7a4_38 (by decide) (fun z9 => ?_) (fun z9 => absurd ((nI_eq (by omega) (by decide)).mp (show nI (sb_cap k q) = nI 2147483647 from z9)) (by omega))
  refine lv_iload hx hb dJ5_newCapacity_0f7a4_51 (lv_at hl 0 rfl) ?_
  refine lv_aload_n hx hb dJ5_newCapacity_0f7a4_53 rfl (lv_at hl 4 rfl) ?_
  refine va_get (D := (dC, dI)) (ci := 1) (v := .int 0) (C := RJ4) (T := TJ4) (N := 4) hx hb hts in_J4 hown hK hP 0 rfl rfl 1 (by decide) (hts _ (bg _ wd_260)) (fun _ h9 => h9) rfl dJ5_newCapacity_0f7a4_54 ?_
  refine lv_ishr hx hb dJ5_newCapacity_0f7a4_57 ?_
  exact W.iret hx hb hr (fun t ht hW => ⟨⟨_, (), rfl, sb_shr0 _, by rw [ht]; exact hP, hD⟩, hS.F ht⟩) hS.2.2 dJ5_newCapacity_0f7a4_58
set_option maxRecDepth 100000 in
set_option maxHeartbeats 4000000 in
theorem m_J7_copyOf_9075b (l : Launch) (dC : Nat → ClassId) (dI : Nat → Nat → Nat) (dA gz : Nat → Nat) (sz : Nat) (ob b : Nat) (ml : Int32) (n q : Nat) (f : Ar) (k : Nat) (hk : q < k) (hk2 : k ≤ 65536) (hf : sb_Fit f) : Met l yJ7_copyOf_9075b ws_J7_copyOf_9075b ({ frames := 18, cells := 1, slots := k, locals := 600 } : Room) (va_Pc [.ref b, .int (nI k)] (pP (dC, dI) dA gz (wL dA ob b ml n q f) sz)) (va_Qr (S := Nat × Ar) (fun u => sb_Fit u.2) (fun u ra t => ra = u.1 ∧ pQ (dC, dI) (va_A (wL dA ob b ml n q f) sz) (wL dA ob b ml n q f ++ [(u.1, .inl (dA 2, k, .inl u.2))]) t) (va_A (wL dA ob b ml n q f) sz)) 1 k (va_A (wL dA ob b ml n q f) sz) := by
  refine Met.ofW (cc := cJ7_copyOf_9075b) (maxL := 3) (ret := (some (.array .byte))) (by decide) rfl ?_
  intro p e s m args below meth c s₁ B hml hv
  obtain ⟨rfl, hsz, hP, hK, hD0, hN, hZ⟩ := hv
  have hx := B.exec
  have hb := B.bytes
  have hr := B.returns
  have hts := atoms_spec (ws := ws_J7_copyOf_9075b) B.pre
  have hown : s.vm.findClass RJ7 = some m.cls := findClass_of_methodNamed B.named
  have hlocks := B.notSynchronized
  subst hsz
  have hD := hD0.self (sz := s.heap.size)
  generalize hAe : va_A (wL dA ob b ml n q f) s.heap.size = A at hD hZ ⊢
  have hA : ∀ z : Nat, s.heap.size ≤ z → A z := fun z h => by rw [← hAe]; exact Or.inr h
  have hS : va_S A s.heap s.heap [] := va_S.rf
  have hl := lv_entry [.ref b, .int (nI k)] (n := 3) (Nat.le_of_ble_eq_true rfl)
  rw [lg_entry_eq]
  generalize (lg_sl [.ref b, .int (nI k)] ++ List.replicate (3 - (lg_sl [.ref b, .int (nI k)]).length) Slot.unset).toArray = ls at hl ⊢
  have hl : lv_has ls 3 [(0, .ref b), (1, .int (nI k))] := hl
  have in_J4 : ∀ w ∈ wsJ40, w ∈ ws_J7_copyOf_9075b := fun w h => bg _ (inB_J4 w h)
  refine lv_iload_n hx hb dJ7_copyOf_9075b_0 rfl (lv_at hl 1 rfl) ?_
  refine lv_aload_n hx hb dJ7_copyOf_9075b_1 rfl (lv_at hl 0 rfl) ?_
  refine va_alen (v := nI q) hx hb hK hP 1 2 rfl rfl rfl dJ7_copyOf_9075b_2 ?_
  refine lv_icmp_ne (tgt := 14) hx hb dJ7_copyOf_9075b_3 (by decide) (fun z9 => ?_) (fun z9 => absurd ((nI_eq (by omega) (by omega)).mp z9) (by omega))
  refine lv_iload_n hx hb dJ7_copyOf_9075b_14 rfl (lv_at hl 1 rfl) ?_
  refine va_newa (atype := .byte) (ty := .byte) (a0 := (k, .inl (fun _ => 0))) hx hb (hts _ (bg _ wd_273)) rfl hK hP hD hS hA (fun cA => rfl) (nI_pos (by omega)) (nI_clamp (by omega)) (by show k * 1 ≤ _; omega) (by show 0 + 1 ≤ 1; omega) (by show 0 + k ≤ k; omega) dJ7_copyOf_9075b_15 (fun b2 cA H hK2 hP hD hS => ?_)
  have hcA := byte_uni hK2
  subst hcA
  refine lv_astore_n (lv' := [(2, .ref b2), (0, .ref b), (1, .int (nI k))]) hx hb dJ7_copyOf_9075b_17 rfl hl (by decide) rfl (fun ls hl => ?_)
  refine lv_aload_n hx hb dJ7_copyOf_9075b_18 rfl (lv_at hl 1 rfl) ?_
  refine lv_iconst (v := 0) hx hb dJ7_copyOf_9075b_19 (by decide) ?_
  refine lv_aload_n hx hb dJ7_copyOf_9075b_20 rfl (lv_at hl 0 rfl) ?_
  refine lv_iconst (v := 0) hx hb dJ7_copyOf_9075b_21 (by decide) ?_
  refine lv_aload_n hx hb dJ7_copyOf_9075b_22 rfl (lv_at hl 1 rfl) ?_
  refine va_alen (v := nI q) hx hb hK hP 1 2 rfl rfl rfl dJ7_copyOf_9075b_23 ?_
  refine lv_iload_n hx hb dJ7_copyOf_9075b_24 rfl (lv_at hl 2 rfl) ?_
  refine va_mmin hx hb (hml.trans hl.1.symm) hown (hts _ (bg _ wd_1181)) (hts _ (bg _ wd_483)) (hts _ (bg _ wd_21)) (hts _ (bg _ wd_484)) (Nat.le_of_ble_eq_true rfl) (Nat.le_of_ble_eq_true rfl) (by show 0 + 1 ≤ 1; omega) (by show 0 + k ≤ k; omega) dJ7_copyOf_9075b_25 ?_
  rw [if_neg (nI_nlt (by omega) (by omega))]
  refine va_copyi hx hb (hml.trans hl.1.symm) hown (hts _ (bg _ wd_1182)) (hts _ (bg _ wd_326)) (hts _ (bg _ wd_325)) (hts _ (bg _ wd_20)) hK hP hD hS 1 2 2 2 rfl rfl rfl rfl rfl (by decide) (by decide) (nI_pos (by omega)) (by rw [nI_clamp (n := q) (by omega), sb_cl0]; show 0 + q ≤ q; omega) (by rw [nI_clamp (n := q) (by omega), sb_cl0]; show 0 + q ≤ k; omega) (fun i _ => hf _) (Nat.le_of_ble_eq_true rfl) (Nat.le_of_ble_eq_true rfl) dJ7_copyOf_9075b_28 (fun H locs hP hD hS => ?_)
  refine lv_aload_n hx hb dJ7_copyOf_9075b_31 rfl (lv_at hl 0 rfl) ?_
  exact W.widen (k := 1) (n := k) (by (try dsimp only); omega) (by (try dsimp only); omega) (W.aret hx hb hr (Or.inr ⟨_, rfl⟩) (Or.inr ⟨_, rfl⟩) (fun t ht hW => ⟨⟨(b2, _), b2, rfl, sb_fitC hf sb_fit0, rfl, by rw [ht]; exact hP, hD⟩, hS.F ht⟩) hS.2.2 dJ7_copyOf_9075b_32)
set_option maxRecDepth 100000 in
set_option maxHeartbeats 4000000 in
theorem m_J5_ensureCapacityInternal_d00df (l : Launch) (dC : Nat → ClassId) (dI : Nat → Nat → Nat) (dA gz : Nat → Nat) (sz : Nat) (ob b : Nat) (ml : Int32) (n q : Nat) (f : Ar) (mc ms k : Nat) (hr9 : sb_Room k q mc ms) (hq : q ≤ 65536) (hk2 : k ≤ 65536) (hf : sb_Fit f) : Met l yJ5_ensureCapacityInternal_d00df ws_J5_ensureCapacityInternal_d00df ({ frames := 30, cells := mc, slots := ms, locals := 1200 } : Room) (va_Pc [.ref ob, .int (nI k)] (pP (dC, dI) dA gz (wL dA ob b ml n q f) sz)) (va_Qv (S := Nat × Ar) (fun u => sb_Fit u.2) (fun u t => pQ (dC, dI) (va_A (wL dA ob b ml n q f) sz) (wL dA ob u.1 ml n (sb_cap k q) u.2) t) (va_A (wL dA ob b ml n q f) sz)) mc ms (va_A (wL dA ob b ml n q f) sz) := by
  refine Met.ofW (cc := cJ5_ensureCapacityInternal_d00df) (maxL := 3) (ret := none) (by decide) rfl ?_
  intro p e s m args below meth c s₁ B hml hv
  obtain ⟨rfl, hsz, hP, hK, hD0, hN, hZ⟩ := hv
  have hx := B.exec
  have hb := B.bytes
  have hr := B.returns
  have hts := atoms_spec (ws := ws_J5_ensureCapacityInternal_d00df) B.pre
  have hown : s.vm.findClass RJ5 = some m.cls := findClass_of_methodNamed B.named
  have hlocks := B.notSynchronized
  subst hsz
  have hD := hD0.self (sz := s.heap.size)
  generalize hAe : va_A (wL dA ob b ml n q f) s.heap.size = A at hD hZ ⊢
  have hA : ∀ z : Nat, s.heap.size ≤ z → A z := fun z h => by rw [← hAe]; exact Or.inr h
  have hS : va_S A s.heap s.heap [] := va_S.rf
  have hl := lv_entry [.ref ob, .int (nI k)] (n := 3) (Nat.le_of_ble_eq_true rfl)
  rw [lg_entry_eq]
  generalize (lg_sl [.ref ob, .int (nI k)] ++ List.replicate (3 - (lg_sl [.ref ob, .int (nI k)]).length) Slot.unset).toArray = ls at hl ⊢
  have hl : lv_has ls 3 [(0, .ref ob), (1, .int (nI k))] := hl
  have in_J4 : ∀ w ∈ wsJ40, w ∈ ws_J5_ensureCapacityInternal_d00df := fun w h => bg _ (inB_J4 w h)
  have e1 : (nI k - nI q).toInt = (k : Int) - q := pk_sub_toInt (by omega) (by omega)
  refine lv_aload_n hx hb dJ5_ensureCapacityInternal_d00df_0 rfl (lv_at hl 0 rfl) ?_
  refine va_get (D := (dC, dI)) (ci := 1) (v := .ref b) (C := RJ4) (T := TJ4) (N := 4) hx hb hts in_J4 hown hK hP 0 rfl rfl 0 (by decide) (hts _ (bg _ wd_259)) (fun _ h9 => h9) rfl dJ5_ensureCapacityInternal_d00df_1 ?_
  refine va_alen (v := nI q) hx hb hK hP 1 2 rfl rfl rfl dJ5_ensureCapacityInternal_d00df_4 ?_
  refine lv_aload_n hx hb dJ5_ensureCapacityInternal_d00df_5 rfl (lv_at hl 0 rfl) ?_
  refine va_get (D := (dC, dI)) (ci := 1) (v := .int 0) (C := RJ4) (T := TJ4) (N := 4) hx hb hts in_J4 hown hK hP 0 rfl rfl 1 (by decide) (hts _ (bg _ wd_260)) (fun _ h9 => h9) rfl dJ5_ensureCapacityInternal_d00df_6 ?_
  refine lv_ishr hx hb dJ5_ensureCapacityInternal_d00df_9 ?_
  rw [sb_shr0]
  refine lv_istore_n (lv' := [(2, .int (nI q)), (0, .ref ob), (1, .int (nI k))]) hx hb dJ5_ensureCapacityInternal_d00df_10 rfl hl (by decide) rfl (fun ls hl => ?_)
  refine lv_iload_n hx hb dJ5_ensureCapacityInternal_d00df_11 rfl (lv_at hl 2 rfl) ?_
  refine lv_iload_n hx hb dJ5_ensureCapacityInternal_d00df_12 rfl (lv_at hl 0 rfl) ?_
  refine lv_isub hx hb dJ5_ensureCapacityInternal_d00df_13 ?_
  refine lv_if_le (tgt := 38) hx hb dJ5_ensureCapacityInternal_d00df_14 (by decide) (fun z9 => ?_) (fun z9 => ?_)
  · have hkq : k ≤ q := by
      rw [Int32.le_iff_toInt_le, e1, Int32.toInt_zero] at z9
      omega
    refine W.widen (k := mc) (n := ms) (by (try dsimp only); omega) (by (try dsimp only); omega) ?_
    exact W.vret hx hb hr (fun t ht hW => ⟨⟨(b, f), rfl, hf, by rw [sb_cap, if_pos hkq, ht]; exact hP, by rw [sb_cap, if_pos hkq]; exact hD⟩, hS.F ht⟩) hS.2.2 dJ5_ensureCapacityInternal_d00df_38
  · have hkq : q < k := by
      rw [Int32.le_iff_toInt_le, e1, Int32.toInt_zero] at z9
      omega
    obtain ⟨hmc, hms, h5⟩ : 1 ≤ mc ∧ sb_cap k q ≤ ms ∧ sb_cap k q ≤ 65536 := hr9.resolve_left (by omega)
    have hg := sb_cap_ge k q
    refine lv_aload_n hx hb dJ5_ensureCapacityInternal_d00df_17 rfl (lv_at hl 1 rfl) ?_
    refine lv_aload_n hx hb dJ5_ensureCapacityInternal_d00df_18 rfl (lv_at hl 1 rfl) ?_
    refine va_get (D := (dC, dI)) (ci := 1) (v := .ref b) (C := RJ4) (T := TJ4) (N := 4) hx hb hts in_J4 hown hK hP 0 rfl rfl 0 (by decide) (hts _ (bg _ wd_259)) (fun _ h9 => h9) rfl dJ5_ensureCapacityInternal_d00df_19 ?_
    refine lv_aload_n hx hb dJ5_ensureCapacityInternal_d00df_22 rfl (lv_at hl 1 rfl) ?_
    refine lv_iload_n hx hb dJ5_ensureCapacityInternal_d00df_23 rfl (lv_at hl 2 rfl) ?_
    refine jw_i (w1 := wL dA ob b ml n q f) (va_runU (As := [.int (nI k)]) (rest := [.ref b, .ref ob]) ⟨hx, hb, hml, hown, hts⟩ (m_J5_newCapacity_0f7a4 l dC dI dA gz s.heap.size ob b ml n q f k hkq hk2) (cwUp 1 hts bg wd_1158 wd_1463 (hts _ (bg _ (big_x 1 rfl))) wd_1160 wd_9 wd_1161 rfl rfl hd_J5_newCapacity_0f7a4.2 ⟨Nat.le_of_ble_eq_true rfl, Nat.le_of_ble_eq_true rfl⟩) ⟨pP_blind, va_recv (ci := 1) (q0 := 0) hK hP rfl rfl, pP_preW hP hD hS hA hK hN hZ⟩ rfl rfl hl.1 rfl (lv_room (Nat.le_of_ble_eq_true rfl)) dJ5_ensureCapacityInternal_d00df_24 ⟨by show _ ≤ mc; (try dsimp only); omega, by show _ ≤ ms; (try dsimp only); omega⟩) hD hS hA (fun H locs hP hD hS => ?_)
    refine lv_aload_n hx hb dJ5_ensureCapacityInternal_d00df_27 rfl (lv_at hl 1 rfl) ?_
    refine va_get (D := (dC, dI)) (ci := 1) (v := .int 0) (C := RJ4) (T := TJ4) (N := 4) hx hb hts in_J4 hown hK hP 0 rfl rfl 1 (by decide) (hts _ (bg _ wd_260)) (fun _ h9 => h9) rfl dJ5_ensureCapacityInternal_d00df_28 ?_
    refine lv_ishl hx hb dJ5_ensureCapacityInternal_d00df_31 ?_
    rw [sb_shl0]
    refine je_r (ad := fun u : Nat × Ar => u.1) (w1 := fun u : Nat × Ar => wL dA ob b ml n q f ++ [(u.1, .inl (dA 2, sb_cap k q, .inl u.2))]) (va_runS (As := [.ref b, .int (nI (sb_cap k q))]) (rest := [.ref ob]) ⟨hx, hb, hml, hown, hts⟩ (m_J7_copyOf_9075b l dC dI dA gz H.size ob b ml n q f (sb_cap k q) (by omega) h5 hf) (va_cwS 2 hts (gi_t bg wd_1171 wd_1172 wd_28 wd_1173) rfl rfl rfl hd3_J7_copyOf_9075b ⟨Nat.le_of_ble_eq_true rfl, Nat.le_of_ble_eq_true rfl⟩) ⟨pP_blind, pP_preW hP hD hS hA hK hN hZ⟩ rfl rfl hl.1 rfl (lv_room (Nat.le_of_ble_eq_true rfl)) dJ5_ensureCapacityInternal_d00df_32 ⟨by show _ ≤ mc; (try dsimp only); omega, by show _ ≤ ms; (try dsimp only); omega⟩) hD hS hA (fun u H locs hu hP hD hS => ?_)
    refine va_put (D := (dC, dI)) (ci := 1) (v := .ref u.1) (ty := .array .byte) (C := RJ4) (T := TJ4) (N := 4) hx hb hts in_J4 tyJ4 tyJ4_ok nmJ4 hown hK hP hD hS 0 rfl rfl 0 (by decide) (hts _ (bg _ wd_259)) (fun _ h9 => h9) rfl (by decide +kernel) rfl rfl (Nat.le_of_ble_eq_true rfl) dJ5_ensureCapacityInternal_d00df_35 (fun H locs hP hD hS => ?_)
    refine W.widen (k := mc) (n := ms) (by (try dsimp only); omega) (by (try dsimp only); omega) ?_
    have hP : va_P (dC, dI) vwCl (wL dA ob u.1 ml n (sb_cap k q) u.2) H := hP.sub [0, 2] rfl
    have hD : va_D A (wL dA ob u.1 ml n (sb_cap k q) u.2) := hD.sub [0, 2] (by decide) rfl
    exact W.vret hx hb hr (fun t ht hW => ⟨⟨u, rfl, hu, by rw [ht]; exact hP, hD⟩, hS.F ht⟩) hS.2.2 dJ5_ensureCapacityInternal_d00df_38
