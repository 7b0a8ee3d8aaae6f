/-! PURE: two rows of numbers that tell the same room: branches beyond a relay's count are of no matter -/
def Sim (v f : Nat → Int32) : Prop := (∀ i, i < 6 → f i = v i) ∧ (∀ r k, r < 10 → k < 5 → f (px r k) = v (px r k)) ∧ (∀ r b w, r < 10 → b < cnt v r → w < 3 → f (px r (5 + 3 * b + w)) = v (px r (5 + 3 * b + w)))
theorem Sim.lo {v f : Nat → Int32} (h : Sim v f) : ∀ i, i < 6 → f i = v i := h.1
theorem Sim.pt {v f : Nat → Int32} (h : Sim v f) : ∀ r k, r < 10 → k < 5 → f (px r k) = v (px r k) := h.2.1
theorem Sim.br {v f : Nat → Int32} (h : Sim v f) : ∀ r b w, r < 10 → b < cnt v r → w < 3 → f (px r (5 + 3 * b + w)) = v (px r (5 + 3 * b + w)) := h.2.2
theorem Sim.rf (v : Nat → Int32) : Sim v v := ⟨fun _ _ => rfl, fun _ _ _ _ => rfl, fun _ _ _ _ _ _ => rfl⟩
theorem Sim.c {v f : Nat → Int32} (h : Sim v f) {r : Nat} (hr : r < 10) : cnt f r = cnt v r := by
  unfold cnt
  rw [h.pt r 4 hr (by decide)]
theorem anyN_cg {n : Nat} {f g : Nat → Bool} (h : ∀ i, i < n → f i = g i) : anyN n f = anyN n g := by
  induction n with
  | zero => rfl
  | succ n ih => simp only [anyN]; rw [ih fun i hi => h i (by omega), h n (by omega)]
theorem orN_cg {n : Nat} {f g : Nat → Int32} (h : ∀ i, i < n → f i = g i) : orN n f = orN n g := by
  induction n with
  | zero => rfl
  | succ n ih => simp only [orN]; rw [ih fun i hi => h i (by omega), h n (by omega)]
theorem sumN_cg {n : Nat} {f g : Nat → Int32} (h : ∀ i, i < n → f i = g i) : sumN n f = sumN n g := by
  induction n with
  | zero => rfl
  | succ n ih => simp only [sumN]; rw [ih fun i hi => h i (by omega), h n (by omega)]
section SIM
variable {v f : Nat → Int32}
theorem Sim.s_frt (h : Sim v f) {r b : Nat} (hr : r < 10) (hb : b < cnt v r) : frt f r b = frt v r b := h.br r b 0 hr hb (by decide)
theorem Sim.s_bck (h : Sim v f) {r b : Nat} (hr : r < 10) (hb : b < cnt v r) : bck f r b = bck v r b := by
  have h1 := h.br r b 1 hr hb (by decide)
  rw [show 5 + 3 * b + 1 = 6 + 3 * b by omega] at h1
  exact h1
theorem Sim.s_ccn (h : Sim v f) {r b : Nat} (hr : r < 10) (hb : b < cnt v r) : ccn f r b = ccn v r b := by
  have h1 := h.br r b 2 hr hb (by decide)
  rw [show 5 + 3 * b + 2 = 7 + 3 * b by omega] at h1
  exact h1
theorem Sim.s_clo (h : Sim v f) {r b : Nat} (hr : r < 10) (hb : b < cnt v r) : clo f r b = clo v r b := by
  unfold clo onS
  rw [h.lo 0 (by decide), h.lo 2 (by decide), h.s_frt hr hb, h.s_bck hr hb]
theorem Sim.s_fed1 (h : Sim v f) {r : Nat} (hr : r < 10) : fed1 f r = fed1 v r := by
  unfold fed1
  rw [h.c hr]
  exact anyN_cg fun b hb => h.s_clo hr hb
theorem Sim.s_fedS (h : Sim v f) : fedS f = fedS v := by
  unfold fedS
  exact orN_cg fun r hr => by rw [h.s_fed1 hr]
theorem Sim.s_wan (h : Sim v f) : wan f = wan v := by
  unfold wan
  rw [h.s_fedS, h.lo 0 (by decide), h.lo 1 (by decide)]
theorem Sim.ulo (h : Sim v f) {i : Nat} (hi : i < 6) (x : Int32) : Sim (upd v i x) (upd f i x) := by
  refine ⟨fun j hj => ?_, fun r k hr hk => ?_, fun r b w hr hb hw => ?_⟩
  · by_cases e : j = i
    · subst e; rw [upd_s, upd_s]
    · rw [upd_o e, upd_o e]; exact h.lo j hj
  · rw [upd_o (px_ne6 hi), upd_o (px_ne6 hi)]; exact h.pt r k hr hk
  · have hc : cnt (upd v i x) r = cnt v r := by unfold cnt; rw [upd_o (px_ne6 hi)]
    rw [hc] at hb
    rw [upd_o (px_ne6 hi), upd_o (px_ne6 hi)]; exact h.br r b w hr hb hw
theorem Sim.upt (h : Sim v f) {r k : Nat} (hk : k < 4) (x : Int32) : Sim (upd v (px r k) x) (upd f (px r k) x) := by
  refine ⟨fun j hj => ?_, fun r' k' hr hk' => ?_, fun r' b w hr hb hw => ?_⟩
  · have e : j ≠ px r k := Ne.symm (px_ne6 hj)
    rw [upd_o e, upd_o e]; exact h.lo j hj
  · by_cases e : px r' k' = px r k
    · rw [e, upd_s, upd_s]
    · rw [upd_o e, upd_o e]; exact h.pt r' k' hr hk'
  · have hc : cnt (upd v (px r k) x) r' = cnt v r' := by
      unfold cnt; rw [upd_o (px_ne (by decide) (by omega) (Or.inr (by omega)))]
    rw [hc] at hb
    by_cases e : px r' (5 + 3 * b + w) = px r k
    · rw [e, upd_s, upd_s]
    · rw [upd_o e, upd_o e]; exact h.br r' b w hr hb hw
theorem Sim.wear (h : Sim v f) {r : Nat} (hr : r < 10) : Sim (wearF r v) (wearF r f) := by
  have h1 : Sim (u1 r v) (u1 r f) := by
    unfold u1
    rw [h.pt r 3 hr (by decide)]
    exact h.upt (by decide) _
  by_cases c1 : u1 r v 5 = 0
  · rw [wear_0 c1, wear_0 ((h1.lo 5 (by decide)).trans c1)]; exact h1
  · by_cases c2 : u1 r v (px r 3) < u1 r v 5
    · rw [wear_n c2, wear_n (by rw [h1.lo 5 (by decide), h1.pt r 3 hr (by decide)]; exact c2)]; exact h1
    · rw [wear_y c1 c2, wear_y (by rw [h1.lo 5 (by decide)]; exact c1) (by rw [h1.lo 5 (by decide), h1.pt r 3 hr (by decide)]; exact c2), h1.lo 1 (by decide)]
      exact h1.ulo (by decide) _
theorem Sim.move (h : Sim v f) {r : Nat} (hr : r < 10) : Sim (moveF r v) (moveF r f) := by
  have h0 : Sim (upd v (px r 2) 0) (upd f (px r 2) 0) := h.upt (by decide) 0
  have h2 : Sim (upd (upd v (px r 2) 0) 4 (upd v (px r 2) 0 4 + 1)) (upd (upd f (px r 2) 0) 4 (upd f (px r 2) 0 4 + 1)) := by
    rw [h0.lo 4 (by decide)]; exact h0.ulo (by decide) _
  have h1 : Sim (m1 r v) (m1 r f) := by
    unfold m1
    rw [h2.lo 0 (by decide)]
    exact h2.ulo (by decide) _
  cases c1 : hs (m1 r v 0) (nI r)
  · rw [move_f c1, move_f (by rw [h1.lo 0 (by decide)]; exact c1)]; exact h1
  · rw [move_t c1, move_t (by rw [h1.lo 0 (by decide)]; exact c1)]; exact h1.wear hr
theorem Sim.wait (h : Sim v f) {r : Nat} (hr : r < 10) : Sim (waitF r v) (waitF r f) := by
  have h1 : Sim (w1 r v) (w1 r f) := by
    unfold w1
    rw [h.pt r 2 hr (by decide)]
    exact h.upt (by decide) _
  have ht : tmF r (w1 r f) = tmF r (w1 r v) := by
    unfold tmF
    rw [h1.lo 0 (by decide), h1.pt r 1 hr (by decide), h1.pt r 0 hr (by decide)]
  by_cases c1 : w1 r v (px r 2) < tmF r (w1 r v)
  · rw [wait_n rfl c1, wait_n ht (by rw [h1.pt r 2 hr (by decide)]; exact c1)]; exact h1
  · rw [wait_m rfl c1, wait_m ht (by rw [h1.pt r 2 hr (by decide)]; exact c1)]; exact h1.move hr
theorem Sim.step (h : Sim v f) (w : Int32) {r : Nat} (hr : r < 10) : Sim (stepF w r v) (stepF w r f) := by
  unfold stepF
  by_cases c1 : hs w (nI r) = true
  · rw [if_pos c1, if_pos c1]; exact h.wait hr
  · rw [if_neg c1, if_neg c1]; exact h.upt (by decide) 0
theorem Sim.s_stepN (h : Sim v f) (w : Int32) {n : Nat} (hn : n ≤ 10) : Sim (stepN w n v) (stepN w n f) := by
  induction n with
  | zero => exact h
  | succ n ih => exact (ih (by omega)).step w (by omega)
theorem Sim.s_tick (h : Sim v f) : Sim (tick v) (tick f) := by
  unfold tick tickW
  rw [h.s_wan, h.lo 3 (by decide)]
  exact (h.ulo (by decide) _).s_stepN _ (Nat.le_refl 10)
theorem Sim.s_tickN (h : Sim v f) (n : Nat) : Sim (tickN n v) (tickN n f) := by
  induction n with
  | zero => exact h
  | succ n ih => exact ih.s_tick
theorem Sim.stl (h : Sim v f) (n : Nat) : Sim (stlV n v) (stlV n f) ∧ stlC n f = stlC n v := by
  induction n generalizing v f with
  | zero => exact ⟨h, rfl⟩
  | succ n ih =>
    simp only [stlV, stlC]
    rw [h.s_wan]
    by_cases c1 : wan v = 0
    · rw [if_pos c1, if_pos c1, if_pos c1, if_pos c1]; exact ⟨h, rfl⟩
    · rw [if_neg c1, if_neg c1, if_neg c1, if_neg c1]; exact ⟨(ih h.s_tick).1, by rw [(ih h.s_tick).2]⟩
theorem rest_cg {a b : Int32} (e : a = b) : decide (a = 0) = decide (b = 0) := by rw [e]
theorem setl_cg {a b : Bool} {c d : Nat} (e1 : a = b) (e2 : c = d) : (if a = true then nI c else nI c + 1000) = (if b = true then nI d else nI d + 1000) := by rw [e1, e2]
theorem up_cg {a b : Bool} {x y : Int32} (e1 : a = b) (e2 : x = y) : (if a = true then x else -6) = (if b = true then y else -6) := by rw [e1, e2]
theorem Sim.s_atRest (h : Sim v f) : atRest f = atRest v := rest_cg (h.stl 200).1.s_wan
theorem Sim.s_setlR (h : Sim v f) : setlR f = setlR v := setl_cg h.s_atRest (h.stl 200).2
theorem Sim.s_upR (h : Sim v f) : upR f = upR v := up_cg h.s_atRest ((h.stl 200).1.lo 0 (by decide))
theorem Sim.ones (h : Sim v f) (n : Nat) : Sim (onesN n v) (onesN n f) := by
  induction n with
  | zero => exact h
  | succ n ih => exact (ih.upt (by decide) _).upt (by decide) _
theorem Sim.s_frtS (h : Sim v f) {r : Nat} (hr : r < 10) : frtS f r = frtS v r := by
  unfold frtS
  rw [h.c hr]
  exact orN_cg fun b hb => h.s_frt hr hb
theorem Sim.s_bckS (h : Sim v f) {r : Nat} (hr : r < 10) : bckS f r = bckS v r := by
  unfold bckS
  rw [h.c hr]
  exact orN_cg fun b hb => h.s_bck hr hb
theorem Sim.s_relB (h : Sim v f) : relB f = relB v := by
  unfold relB
  exact sumN_cg fun r hr => by rw [h.pt r 4 hr (by decide)]
theorem Sim.s_relC (h : Sim v f) (k : Nat) : relC f k = relC v k := by
  unfold relC
  exact orN_cg fun r hr => by rw [h.s_frtS hr, h.s_bckS hr]
theorem Sim.s_relM (h : Sim v f) (k : Nat) : relM f k = relM v k := by
  unfold relM
  refine orN_cg fun r hr => ?_
  rw [h.c hr]
  exact orN_cg fun b hb => by rw [h.s_frt hr hb, h.s_bck hr hb]
theorem Sim.s_nevC (h : Sim v f) : nevC f = nevC v := by
  unfold nevC
  refine sumN_cg fun r hr => ?_
  unfold nevR
  rw [h.c hr]
  exact sumN_cg fun b hb => by rw [h.s_frt hr hb, h.s_bck hr hb]
theorem Sim.s_wldF (h : Sim v f) (w : Int32) : Sim (wldF v w) (wldF f w) := by
  unfold wldF
  have h1 : Sim (upd v 0 (v 0 ||| shl 1 w)) (upd f 0 (f 0 ||| shl 1 w)) := by rw [h.lo 0 (by decide)]; exact h.ulo (by decide) _
  have e := h1.lo 1 (by decide)
  rw [e]
  exact h1.ulo (by decide) _
end SIM
theorem Sim.tr {a b c : Nat → Int32} (h1 : Sim a b) (h2 : Sim b c) : Sim a c := ⟨fun i hi => (h2.lo i hi).trans (h1.lo i hi), fun r k hr hk => (h2.pt r k hr hk).trans (h1.pt r k hr hk), fun r b' w hr hb hw => (h2.br r b' w hr (by rw [h1.c hr]; exact hb) hw).trans (h1.br r b' w hr hb hw)⟩
theorem Sim.sy {a b : Nat → Int32} (h1 : Sim a b) : Sim b a := ⟨fun i hi => (h1.lo i hi).symm, fun r k hr hk => (h1.pt r k hr hk).symm, fun r b' w hr hb hw => (h1.br r b' w hr (by rw [← h1.c hr]; exact hb) hw).symm⟩
/-- rows alike in their 236 numbers tell the same room -/
theorem Sim.of {v f : Nat → Int32} (hI : RI v) (h : ∀ i, i < 236 → f i = v i) : Sim v f := by
  refine ⟨fun i hi => h i (by omega), fun r k hr hk => h _ (by unfold px; omega), fun r b w hr hb hw => h _ ?_⟩
  have hc := (hI.1 r hr).2
  unfold px
  omega
