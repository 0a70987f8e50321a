/-! changes of the model -/
def shN (f : NN) (q c : Nat) : NN := fun i => if q ≤ i ∧ i + 1 < c then f (i + 1) else f i
theorem shN_end {f : NN} {q c : Nat} (h : c ≤ q + 1) : shN f q c = f := by
  funext j
  unfold shN
  rw [if_neg (by omega)]
theorem shN_step {f : NN} {q c : Nat} (h : q + 1 < c) : shN (upN f q (f (q + 1))) (q + 1) c = shN f q c := by
  funext j
  unfold shN upN
  by_cases h1 : j = q
  · subst h1
    rw [if_neg (by omega), if_pos rfl, if_pos ⟨Nat.le_refl _, h⟩]
  · by_cases h2 : q ≤ j ∧ j + 1 < c
    · rw [if_pos (by omega), if_neg (by omega), if_pos h2]
    · rw [if_neg (by omega), if_neg h1, if_neg h2]
theorem sU_sh (f : NN) {q c : Nat} (hq : q < c) : sU (shN f q c) (c - 1) + f q = sU f c := by
  have key : ∀ n, n < c → (n ≤ q → sU (shN f q c) n = sU f n) ∧ (q ≤ n → sU (shN f q c) n + f q = sU f (n + 1)) := by
    intro n
    induction n with
    | zero =>
      intro _
      refine ⟨fun _ => rfl, fun h => ?_⟩
      rw [show q = 0 by omega]
      rfl
    | succ n ih =>
      intro hn
      obtain ⟨h1, h2⟩ := ih (by omega)
      have e1 : sU (shN f q c) (n + 1) = sU (shN f q c) n + (if q ≤ n ∧ n + 1 < c then f (n + 1) else f n) := rfl
      have e2 : sU f (n + 1) = sU f n + f n := rfl
      have e3 : sU f (n + 1 + 1) = sU f (n + 1) + f (n + 1) := rfl
      refine ⟨fun h => ?_, fun h => ?_⟩
      · rw [e1, if_neg (by omega), h1 (by omega), e2]
      · by_cases h4 : q ≤ n
        · have := h2 h4
          rw [e1, if_pos (by omega), e3]
          omega
        · have h5 : q = n + 1 := by omega
          rw [e1, if_neg (by omega), h1 (by omega), e3, e2, h5]
  have h := (key (c - 1) (by omega)).2 (by omega)
  rw [show c - 1 + 1 = c by omega] at h
  exact h
theorem s_remT : ∀ (fu i : Nat) (M T S C : NN) (c : Nat) (p : Int32), c ≤ 12 → c < fu + i → i < c → f_X4_remove_10 p fu (nI i) (eF M) (eF T) (eF S) (eF C) (nI c) = some (eT (shN M i c, shN T i c, shN S i c, shN C i c, c - 1)) := by
  intro fu
  induction fu with
  | zero => intro i M T S C c p _ h1 h2; omega
  | succ fu ih =>
    intro i M T S C c p hc h1 h2
    rw [f_X4_remove_10, nI_1]
    by_cases h : c ≤ i + 1
    · rw [if_pos (nI_le h (by omega)), shN_end h, shN_end h, shN_end h, shN_end h, show nI c - 1 = nI (c - 1) from pk_sub (b := 1) (by omega)]
      rfl
    · have g1 : ¬ (nI (i + 1) < 0 ∨ 12 ≤ (nI (i + 1)).toNatClampNeg) := nI_in (by omega) (by omega)
      have g2 : ¬ (nI i < 0 ∨ 12 ≤ (nI i).toNatClampNeg) := nI_in (by omega) (by omega)
      rw [if_neg (nI_ge (by omega) (by omega)), if_neg g1, if_neg g2, if_neg g1, if_neg g2, if_neg g1, if_neg g2, if_neg g1, if_neg g2, nI_clamp (show i < 2 ^ 31 by omega), nI_clamp (show i + 1 < 2 ^ 31 by omega)]
      rw [show upd (eF M) i (eF M (i + 1)) = eF (upN M i (M (i + 1))) from upd_eF _ _ _, show upd (eF T) i (eF T (i + 1)) = eF (upN T i (T (i + 1))) from upd_eF _ _ _, show upd (eF S) i (eF S (i + 1)) = eF (upN S i (S (i + 1))) from upd_eF _ _ _, show upd (eF C) i (eF C (i + 1)) = eF (upN C i (C (i + 1))) from upd_eF _ _ _]
      rw [ih (i + 1) _ _ _ _ c p hc (by omega) (by omega), shN_step (by omega), shN_step (by omega), shN_step (by omega), shN_step (by omega)]
def remT (t : MT) (q : Nat) : MT := (shN t.1 q t.2.2.2.2, shN t.2.1 q t.2.2.2.2, shN t.2.2.1 q t.2.2.2.2, shN t.2.2.2.1 q t.2.2.2.2, t.2.2.2.2 - 1)
theorem s_remove {t : MT} (h12 : t.2.2.2.2 ≤ 12) {q : Nat} (hq : q < t.2.2.2.2) : f_X4_remove (eF t.1) (eF t.2.1) (eF t.2.2.1) (eF t.2.2.2.1) (nI t.2.2.2.2) (nI q) = some (eT (remT t q)) := by
  unfold f_X4_remove
  rw [h_hasT hq h12, Option.bind_some, if_neg (by decide), s_remT 300 q _ _ _ _ _ _ h12 (by omega) hq]
  rfl
theorem remT_ok {t : MT} (ho : okT t) {q : Nat} (hq : q < t.2.2.2.2) : okT (remT t q) := by
  obtain ⟨h12, h⟩ := ho
  refine ⟨show t.2.2.2.2 - 1 ≤ 12 by omega, fun i hi => ?_⟩
  have hi : i < t.2.2.2.2 - 1 := hi
  show 1 ≤ shN t.1 q t.2.2.2.2 i ∧ shN t.1 q t.2.2.2.2 i ≤ 20 ∧ shN t.2.1 q t.2.2.2.2 i ≤ 200 ∧ shN t.2.2.1 q t.2.2.2.2 i ≤ 100 ∧ shN t.2.2.2.1 q t.2.2.2.2 i ≤ 10
  unfold shN
  by_cases h1 : q ≤ i ∧ i + 1 < t.2.2.2.2
  · rw [if_pos h1, if_pos h1, if_pos h1, if_pos h1]
    exact h (i + 1) (by omega)
  · rw [if_neg h1, if_neg h1, if_neg h1, if_neg h1]
    exact h i (by omega)
theorem s_remC : ∀ (fu i : Nat) (K I V : NN) (n : Nat) (p d : Int32) (f z : Int32), n ≤ 8 → (∀ j, K j < 65536) → n < fu + i → i < n → f_X2_remove_10 z fu (nI i) (eF K) (eF I) (eF V) (nI n) p d f = some (eF (shN K i n), eF (shN I i n), eF (shN V i n), nI (n - 1), p, d, f) := by
  intro fu
  induction fu with
  | zero => intro i K I V n p d f z _ _ h1 h2; omega
  | succ fu ih =>
    intro i K I V n p d f z hn hK h1 h2
    rw [f_X2_remove_10, nI_1]
    by_cases h : n ≤ i + 1
    · rw [if_pos (nI_le h (by omega)), shN_end h, shN_end h, shN_end h, show nI n - 1 = nI (n - 1) from pk_sub (b := 1) (by omega)]
    · have g1 : ¬ (nI (i + 1) < 0 ∨ 8 ≤ (nI (i + 1)).toNatClampNeg) := nI_in (by omega) (by omega)
      have g2 : ¬ (nI i < 0 ∨ 8 ≤ (nI i).toNatClampNeg) := nI_in (by omega) (by omega)
      rw [if_neg (nI_ge (by omega) (by omega)), if_neg g1, if_neg g2, if_neg g1, if_neg g2, if_neg g1, if_neg g2, nI_clamp (show i < 2 ^ 31 by omega), nI_clamp (show i + 1 < 2 ^ 31 by omega)]
      rw [show vp_nar .char (eF K (i + 1)) = nI (K (i + 1)) from nar_nI (hK _), upd_eF, show upd (eF I) i (eF I (i + 1)) = eF (upN I i (I (i + 1))) from upd_eF _ _ _, show upd (eF V) i (eF V (i + 1)) = eF (upN V i (V (i + 1))) from upd_eF _ _ _]
      rw [ih (i + 1) _ _ _ n p d f z hn (fun j => by unfold upN; split <;> exact hK _) (by omega) (by omega), shN_step (by omega), shN_step (by omega), shN_step (by omega)]
/-- the model's changes -/
def appM (k i v : Nat) (x : MB) : MB := ((upN x.1.1 (nF x) k, upN x.1.2.1 (nF x) i, upN x.1.2.2.1 (nF x) v, nF x + 1, x.1.2.2.2.2.1, x.1.2.2.2.2.2.1, x.1.2.2.2.2.2.2), x.2)
def cutM (q : Nat) (x : MB) : MB := ((shN x.1.1 q (nF x), shN x.1.2.1 q (nF x), shN x.1.2.2.1 q (nF x), nF x - 1, x.1.2.2.2.2.1, x.1.2.2.2.2.2.1, x.1.2.2.2.2.2.2), x.2)
def begM (x : MB) : MB := ((x.1.1, x.1.2.1, x.1.2.2.1, nF x, 1, 0, x.1.2.2.2.2.2.2), x.2)
def endM (x : MB) : MB := ((x.1.1, x.1.2.1, x.1.2.2.1, nF x, 0, x.1.2.2.2.2.2.1, x.1.2.2.2.2.2.2), x.2)
def addH (h : MH) (m : Nat) : MH := (h.1 + m, (h.2.1 * h.1 + 20 * m) / (h.1 + m), h.2.2.1 * h.1 / (h.1 + m), h.2.2.2)
def loadM (m : Nat) (x : MB) : MB := (x.1, addH x.2.1 m, x.2.2.1, (x.2.2.2.1, x.2.2.2.2.1, x.2.2.2.2.2.1 + nI m, x.2.2.2.2.2.2))
def crkM (x : MB) : Nat := x.2.1.2.2.2 / 10 + (if tmp x ≤ 100 then 0 else 1)
def prsM (m : Nat) (x : MB) : MB := (x.1, (x.2.1.1 - m, x.2.1.2), (upN x.2.2.1.1 (nQ x) m, upN x.2.2.1.2.1 (nQ x) (tmp x), upN x.2.2.1.2.2.1 (nQ x) x.2.1.2.2.1, upN x.2.2.1.2.2.2.1 (nQ x) (crkM x), nQ x + 1), x.2.2.2)
def crsM (q : Nat) (x : MB) : MB := (x.1, addH x.2.1 (x.2.2.1.1 q), remT x.2.2.1 q, x.2.2.2)
def grdP (x : MB) (q : Nat) : Nat := if fmI x.2.2.1 q < 80 then (if fmI x.2.2.1 q < 60 then (if fmI x.2.2.1 q < 40 then (if fmI x.2.2.1 q < 20 then 4 else 3) else 2) else 1) else 0
def grdM (q : Nat) (x : MB) : MB := (x.1, x.2.1, remT x.2.2.1 q, (upd x.2.2.2.1 (grdP x q) (x.2.2.2.1 (grdP x q) + 1), x.2.2.2.2.1, x.2.2.2.2.2.1, x.2.2.2.2.2.2 + nI (x.2.2.1.1 q)))
theorem addH_ok {h : MH} (ho : okH h) {m : Nat} (hm : 1 ≤ m) (hl : h.1 + m ≤ 100) : okH (addH h m) := by
  obtain ⟨a1, a2, a3, a4⟩ := ho
  refine ⟨hl, ?_, ?_, a4⟩
  · show (h.2.1 * h.1 + 20 * m) / (h.1 + m) ≤ 200
    have h1 : h.2.1 * h.1 ≤ 200 * h.1 := Nat.mul_le_mul_right _ a2
    exact Nat.div_le_of_le_mul (by rw [Nat.mul_comm (h.1 + m)]; omega)
  · show h.2.2.1 * h.1 / (h.1 + m) ≤ 100
    have h1 : h.2.2.1 * h.1 ≤ 100 * h.1 := Nat.mul_le_mul_right _ a3
    exact Nat.div_le_of_le_mul (by rw [Nat.mul_comm (h.1 + m)]; omega)
theorem s_add {h : MH} (ho : okH h) {m : Nat} (hm : 1 ≤ m) (hl : h.1 + m ≤ 100) : f_X1_add (nI h.1) (nI h.2.1) (nI h.2.2.1) (nI h.2.2.2) (nI m) = some (eH (addH h m)) := by
  obtain ⟨a1, a2, a3, a4⟩ := ho
  have h1 : h.2.1 * h.1 ≤ 200 * 100 := Nat.mul_le_mul a2 a1
  have h2 : h.2.2.1 * h.1 ≤ 100 * 100 := Nat.mul_le_mul a3 a1
  unfold f_X1_add
  rw [nI_add, if_neg (show ¬ nI (h.1 + m) ≤ 0 from nI_nle (by omega) (by omega)), if_neg (nI_ne0 (by omega) (by omega)), if_neg (nI_ne0 (by omega) (by omega)), pk_mul, pk_mul, show (20 : Int32) * nI m = nI (20 * m) from pk_mul 20 m, nI_add, pk_div (by omega) (by omega) (by omega), pk_div (by omega) (by omega) (by omega)]
  rfl
section CH
variable {x : MB}
theorem appM_ok (ho : okB x) {k i v : Nat} (hk : isK k) (hi : 1 ≤ i ∧ i ≤ 30) (hv : 1 ≤ v ∧ v ≤ 5) (hn : nF x < 8) (hp : x.1.2.2.2.2.1 = 0) : okB (appM k i v x) := by
  obtain ⟨⟨h1, h2, h3, h4, h5⟩, hh, ht, hm⟩ := ho
  refine ⟨⟨show nF x + 1 ≤ 8 by omega, fun j => ?_, fun j hj => ?_, show x.1.2.2.2.2.1 ≤ nF x + 1 by omega, fun h => ?_⟩, hh, ht, hm⟩
  · show upN x.1.1 (nF x) k j < 65536
    unfold upN
    split
    · rcases hk with h | h | h | h <;> omega
    · exact h2 j
  · have hj : j < nF x + 1 := hj
    show isK (upN x.1.1 (nF x) k j) ∧ 1 ≤ upN x.1.2.1 (nF x) i j ∧ upN x.1.2.1 (nF x) i j ≤ 30 ∧ 1 ≤ upN x.1.2.2.1 (nF x) v j ∧ upN x.1.2.2.1 (nF x) v j ≤ 5
    unfold upN
    by_cases hj2 : j = nF x
    · rw [if_pos hj2, if_pos hj2, if_pos hj2]
      exact ⟨hk, hi.1, hi.2, hv.1, hv.2⟩
    · rw [if_neg hj2, if_neg hj2, if_neg hj2]
      exact h3 j (show j < nF x by omega)
  · have h : 0 < x.1.2.2.2.2.1 := h
    omega
theorem cutM_ok (ho : okB x) {q : Nat} (hq : q < nF x) (hp : x.1.2.2.2.2.1 = 0) : okB (cutM q x) := by
  obtain ⟨⟨h1, h2, h3, h4, h5⟩, hh, ht, hm⟩ := ho
  have h1 : nF x ≤ 8 := h1
  refine ⟨⟨show nF x - 1 ≤ 8 by omega, fun j => ?_, fun j hj => ?_, show x.1.2.2.2.2.1 ≤ nF x - 1 by omega, fun h => ?_⟩, hh, ht, hm⟩
  · show shN x.1.1 q (nF x) j < 65536
    unfold shN
    split <;> exact h2 _
  · have hj : j < nF x - 1 := hj
    show isK (shN x.1.1 q (nF x) j) ∧ 1 ≤ shN x.1.2.1 q (nF x) j ∧ shN x.1.2.1 q (nF x) j ≤ 30 ∧ 1 ≤ shN x.1.2.2.1 q (nF x) j ∧ shN x.1.2.2.1 q (nF x) j ≤ 5
    unfold shN
    by_cases h9 : q ≤ j ∧ j + 1 < nF x
    · rw [if_pos h9, if_pos h9, if_pos h9]
      exact h3 (j + 1) h9.2
    · rw [if_neg h9, if_neg h9, if_neg h9]
      exact h3 j (show j < nF x by omega)
  · have h : 0 < x.1.2.2.2.2.1 := h
    omega
theorem begM_ok (ho : okB x) (hn : 0 < nF x) : okB (begM x) := by
  obtain ⟨⟨h1, h2, h3, h4, h5⟩, hh, ht, hm⟩ := ho
  exact ⟨⟨h1, h2, h3, hn, fun _ => (h3 0 hn).2.1⟩, hh, ht, hm⟩
theorem endM_ok (ho : okB x) : okB (endM x) := by
  obtain ⟨⟨h1, h2, h3, h4, h5⟩, hh, ht, hm⟩ := ho
  exact ⟨⟨h1, h2, h3, Nat.zero_le _, fun h => absurd h (Nat.lt_irrefl 0)⟩, hh, ht, hm⟩
theorem loadM_ok (ho : okB x) {m : Nat} (hm : 1 ≤ m) (hl : x.2.1.1 + m ≤ 100) : okB (loadM m x) := by
  obtain ⟨hc, hh, ht, hM⟩ := ho
  refine ⟨hc, addH_ok hh hm hl, ht, ?_⟩
  show nI (x.2.1.1 + m + sU x.2.2.1.1 (nQ x)) + x.2.2.2.2.2.2 = x.2.2.2.2.2.1 + nI m
  have hM : nI (x.2.1.1 + sU x.2.2.1.1 (nQ x)) + x.2.2.2.2.2.2 = x.2.2.2.2.2.1 := hM
  rw [← hM, show x.2.1.1 + m + sU x.2.2.1.1 (nQ x) = x.2.1.1 + sU x.2.2.1.1 (nQ x) + m by omega, ← nI_add _ m, Int32.add_assoc, Int32.add_assoc, Int32.add_comm (nI m)]
theorem prsM_ok (ho : okB x) {m : Nat} (hm : 1 ≤ m ∧ m ≤ 20) (hl : m ≤ x.2.1.1) (hc : nQ x < 12) : okB (prsM m x) := by
  obtain ⟨hC, ⟨a1, a2, a3, a4⟩, ⟨h1, h2⟩, hM⟩ := ho
  refine ⟨hC, ⟨show x.2.1.1 - m ≤ 100 by omega, a2, a3, a4⟩, ⟨show nQ x + 1 ≤ 12 by omega, fun j hj => ?_⟩, ?_⟩
  · have hj : j < nQ x + 1 := hj
    show 1 ≤ upN x.2.2.1.1 (nQ x) m j ∧ upN x.2.2.1.1 (nQ x) m j ≤ 20 ∧ upN x.2.2.1.2.1 (nQ x) (tmp x) j ≤ 200 ∧ upN x.2.2.1.2.2.1 (nQ x) x.2.1.2.2.1 j ≤ 100 ∧ upN x.2.2.1.2.2.2.1 (nQ x) (crkM x) j ≤ 10
    unfold upN
    by_cases hj2 : j = nQ x
    · rw [if_pos hj2, if_pos hj2, if_pos hj2, if_pos hj2]
      refine ⟨hm.1, hm.2, a2, a3, ?_⟩
      unfold crkM
      split <;> omega
    · rw [if_neg hj2, if_neg hj2, if_neg hj2, if_neg hj2]
      exact h2 j (show j < nQ x by omega)
  · show nI (x.2.1.1 - m + sU (upN x.2.2.1.1 (nQ x) m) (nQ x + 1)) + x.2.2.2.2.2.2 = x.2.2.2.2.2.1
    have e1 : sU (upN x.2.2.1.1 (nQ x) m) (nQ x + 1) = sU (upN x.2.2.1.1 (nQ x) m) (nQ x) + upN x.2.2.1.1 (nQ x) m (nQ x) := rfl
    have e2 : sU (upN x.2.2.1.1 (nQ x) m) (nQ x) = sU x.2.2.1.1 (nQ x) := sU_congr _ fun i hi => if_neg (by omega)
    have e3 : upN x.2.2.1.1 (nQ x) m (nQ x) = m := if_pos rfl
    have hM : nI (x.2.1.1 + sU x.2.2.1.1 (nQ x)) + x.2.2.2.2.2.2 = x.2.2.2.2.2.1 := hM
    rw [e1, e2, e3, show x.2.1.1 - m + (sU x.2.2.1.1 (nQ x) + m) = x.2.1.1 + sU x.2.2.1.1 (nQ x) by omega]
    exact hM
theorem crsM_ok (ho : okB x) {q : Nat} (hq : q < nQ x) (hl : x.2.1.1 + x.2.2.1.1 q ≤ 100) : okB (crsM q x) := by
  obtain ⟨hC, hh, ht, hM⟩ := ho
  refine ⟨hC, addH_ok hh (ht.2 q hq).1 hl, remT_ok ht hq, ?_⟩
  show nI (x.2.1.1 + x.2.2.1.1 q + sU (shN x.2.2.1.1 q (nQ x)) (nQ x - 1)) + x.2.2.2.2.2.2 = x.2.2.2.2.2.1
  have hM : nI (x.2.1.1 + sU x.2.2.1.1 (nQ x)) + x.2.2.2.2.2.2 = x.2.2.2.2.2.1 := hM
  have h1 := sU_sh x.2.2.1.1 hq
  rw [show x.2.1.1 + x.2.2.1.1 q + sU (shN x.2.2.1.1 q (nQ x)) (nQ x - 1) = x.2.1.1 + sU x.2.2.1.1 (nQ x) by omega]
  exact hM
theorem grdM_ok (ho : okB x) {q : Nat} (hq : q < nQ x) : okB (grdM q x) := by
  obtain ⟨hC, hh, ht, hM⟩ := ho
  refine ⟨hC, hh, remT_ok ht hq, ?_⟩
  show nI (x.2.1.1 + sU (shN x.2.2.1.1 q (nQ x)) (nQ x - 1)) + (x.2.2.2.2.2.2 + nI (x.2.2.1.1 q)) = x.2.2.2.2.2.1
  have hM : nI (x.2.1.1 + sU x.2.2.1.1 (nQ x)) + x.2.2.2.2.2.2 = x.2.2.2.2.2.1 := hM
  have h1 := sU_sh x.2.2.1.1 hq
  rw [← hM, show x.2.1.1 + sU x.2.2.1.1 (nQ x) = x.2.1.1 + sU (shN x.2.2.1.1 q (nQ x)) (nQ x - 1) + x.2.2.1.1 q by omega, ← nI_add _ (x.2.2.1.1 q), Int32.add_assoc (nI (x.2.1.1 + sU (shN x.2.2.1.1 q (nQ x)) (nQ x - 1))), Int32.add_comm (nI (x.2.2.1.1 q))]
end CH
