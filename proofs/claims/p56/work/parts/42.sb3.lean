/-! a call that works on the last segment of the world, and may make new cells -/
theorem jl_PD {D : va_G} {A0 : Nat → Prop} {w g g1 : va_W} {H H1 : Heap} (hP : va_P D vwCl (w ++ g) H) (hD : va_D A0 (w ++ g)) (hF : ∀ q, va_A g H.size q → A0 q) (hk : ∀ q : Nat, q < H.size → ¬ va_A g H.size q → H1[q]? = H[q]?) (hP1 : va_P D vwCl g1 H1) (hD1 : va_D (va_A g H.size) g1) : va_P D vwCl (w ++ g1) H1 ∧ va_D A0 (w ++ g1) := by
  have e : ([w, g] : List va_W).flatten = w ++ g := by simp
  have hP2 : va_P D vwCl ([w, g] : List va_W).flatten H := by rw [e]; exact hP
  have hD2 : va_D A0 ([w, g] : List va_W).flatten := by rw [e]; exact hD
  have hin : ∀ q ∈ w, q ∈ ([w, g] : List va_W).flatten := fun q h => by rw [e]; exact List.mem_append_left _ h
  have hdis : ∀ q ∈ w, ¬ va_A g H.size q.1 := by
    intro q hq hA
    have hat := P_mem.mp hP2 q (hin q hq)
    rcases hA with ⟨k, e1, hA⟩ | hA
    · exact D_segs hD2 0 1 w g rfl rfl (by decide) q hq (q.1, e1) (List.mem_of_getElem? hA) rfl
    · exact absurd hat.lt (Nat.not_lt.mpr hA)
  refine ⟨va_P.app (P_mem.mpr fun q hq => (P_mem.mp hP2 q (hin q hq)).kept (hk q.1 (P_mem.mp hP2 q (hin q hq)).lt (hdis q hq))) hP1, va_D.app (D_seg hD2 0 w rfl) (hD1.weaken (fun _ q _ h => hF q.1 h)) (fun a b p q ha hb heq => hdis p (List.mem_of_getElem? ha) (heq ▸ hD1.2 b q hb))⟩
theorem fl_last (gs : List va_W) (g : va_W) : (gs ++ [g]).flatten = gs.flatten ++ g := by simp
section LSL
variable {p : Program} {l : Launch} {e : Env} {R : Room} {s : State} {m : MethodId} {args : Array Value} {below : List Frame} {meth : Method} {c : Code} {H : Heap} {locs : List Loc} {cells slots : Nat} {Q : State → Prop}
variable {pc mc ms : Nat} {ls : Array Slot} {rest st0 : List Value} {a : Array Value} {A0 : Nat → Prop} {H0 : Heap} {D : va_G} {gs : List va_W} {g : va_W}
theorem jle_r {S : Type} {post : S → Prop} {ad : S → Nat} {g1 : S → va_W} (hr : va_Run p l e R s m args below meth c H locs cells slots mc ms (F0 m pc ls st0) rest (va_Qr post (fun u ra t => ra = ad u ∧ pQ D (va_A g H.size) (g1 u) t) (va_A g H.size) a) (va_A g H.size)) (hP : va_P D vwCl (gs ++ [g]).flatten H) (hD : va_D A0 (gs ++ [g]).flatten) (hS : va_S A0 H0 H locs) (hA : ∀ q, H0.size ≤ q → A0 q)
    (kk : ∀ (u : S) (H1 : Heap) (locs1 : List Loc), post u → va_P D vwCl (gs ++ [g1 u]).flatten H1 → va_D A0 (gs ++ [g1 u]).flatten → va_S A0 H0 H1 locs1 → W p l e R s m args below meth c H1 locs1 (cells + mc) (slots + ms) Q (F0 m (pc + 3) ls (.ref (ad u) :: rest))) : W p l e R s m args below meth c H locs cells slots Q (F0 m pc ls st0) := by
  have hF := fr_w (D_seg hD gs.length g (by simp)) hS hA
  refine va_callr hr hS (fun q _ h => hF q h) hF (fun u ra t H1 locs1 ht hvm hw hB hz hk hS1 => ?_)
  have hP1 := hB.2.1
  rw [ht] at hP1
  rw [hB.1]
  obtain ⟨hP2, hD2⟩ := jl_PD (by rw [← fl_last]; exact hP) (by rw [← fl_last]; exact hD) hF hk hP1 hB.2.2
  exact kk u H1 locs1 hw (by rw [fl_last]; exact hP2) (by rw [fl_last]; exact hD2) hS1
theorem jle_v {S : Type} {post : S → Prop} {g1 : S → va_W} (hr : va_Run p l e R s m args below meth c H locs cells slots mc ms (F0 m pc ls st0) rest (va_Qv post (fun u t => pQ D (va_A g H.size) (g1 u) t) (va_A g H.size) a) (va_A g H.size)) (hP : va_P D vwCl (gs ++ [g]).flatten H) (hD : va_D A0 (gs ++ [g]).flatten) (hS : va_S A0 H0 H locs) (hA : ∀ q, H0.size ≤ q → A0 q)
    (kk : ∀ (u : S) (H1 : Heap) (locs1 : List Loc), post u → va_P D vwCl (gs ++ [g1 u]).flatten H1 → va_D A0 (gs ++ [g1 u]).flatten → va_S A0 H0 H1 locs1 → W p l e R s m args below meth c H1 locs1 (cells + mc) (slots + ms) Q (F0 m (pc + 3) ls rest)) : W p l e R s m args below meth c H locs cells slots Q (F0 m pc ls st0) := by
  have hF := fr_w (D_seg hD gs.length g (by simp)) hS hA
  refine va_callv hr hS (fun q _ h => hF q h) hF (fun u t H1 locs1 ht hvm hw hB hz hk hS1 => ?_)
  have hP1 := hB.1
  rw [ht] at hP1
  obtain ⟨hP2, hD2⟩ := jl_PD (by rw [← fl_last]; exact hP) (by rw [← fl_last]; exact hD) hF hk hP1 hB.2
  exact kk u H1 locs1 hw (by rw [fl_last]; exact hP2) (by rw [fl_last]; exact hD2) hS1
end LSL
theorem room_d {k q : Nat} (hq : q ≤ 30000) (hk : k ≤ 30000) : sb_Room k q (sb_cap k q - q) (2 * (sb_cap k q - q)) := by
  by_cases h : k ≤ q
  · exact Or.inl h
  · refine Or.inr ?_
    unfold sb_cap
    rw [if_neg h]
    split <;> omega
theorem cap_le {k q : Nat} (hk : k ≤ 142) (hq : q ≤ 284) : sb_cap k q ≤ 284 := by
  unfold sb_cap
  split
  · exact hq
  · split <;> omega
