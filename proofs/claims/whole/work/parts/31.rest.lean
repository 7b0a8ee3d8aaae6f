/-! PURE, coming to rest: ticks are counted, the relays that are up stay ten -/
theorem wearF_o {r i : Nat} {v : Nat → Int32} (hr : r < 10) (hi : i < 6) (h1 : i ≠ 1) : wearF r v i = v i := by
  have e : u1 r v i = v i := upd_o (Ne.symm (px_ne6 hi))
  by_cases c1 : u1 r v 5 = 0
  · rw [wear_0 c1]; exact e
  · by_cases c2 : u1 r v (px r 3) < u1 r v 5
    · rw [wear_n c2]; exact e
    · rw [wear_y c1 c2, upd_o h1]; exact e
theorem m1_0 (r : Nat) (v : Nat → Int32) : m1 r v 0 = v 0 ^^^ shl 1 (nI r) := by
  unfold m1
  rw [upd_s, upd_o (by decide), upd_o (Ne.symm (px_ne6 (by decide)))]
theorem m1_3 (r : Nat) (v : Nat → Int32) : m1 r v 3 = v 3 := by
  unfold m1
  rw [upd_o (by decide), upd_o (by decide), upd_o (Ne.symm (px_ne6 (by decide)))]
theorem moveF_0 {r : Nat} {v : Nat → Int32} (hr : r < 10) : moveF r v 0 = v 0 ^^^ shl 1 (nI r) := by
  cases c1 : hs (m1 r v 0) (nI r)
  · rw [move_f c1, m1_0]
  · rw [move_t c1, wearF_o hr (by decide) (by decide), m1_0]
theorem moveR_3 {r : Nat} {v : Nat → Int32} (hr : r < 10) : moveF r v 3 = v 3 := by
  cases c1 : hs (m1 r v 0) (nI r)
  · rw [move_f c1, m1_3]
  · rw [move_t c1, wearF_o hr (by decide) (by decide), m1_3]
theorem w1_o {r i : Nat} {v : Nat → Int32} (hi : i < 6) : w1 r v i = v i := upd_o (Ne.symm (px_ne6 hi))
theorem waitF_3 {r : Nat} {v : Nat → Int32} (hr : r < 10) : waitF r v 3 = v 3 := by
  by_cases c1 : w1 r v (px r 2) < tmF r (w1 r v)
  · rw [wait_n rfl c1]; exact w1_o (by decide)
  · rw [wait_m rfl c1, moveR_3 hr]; exact w1_o (by decide)
theorem stepF_3 {w : Int32} {r : Nat} {v : Nat → Int32} (hr : r < 10) : stepF w r v 3 = v 3 := by
  unfold stepF
  by_cases c1 : hs w (nI r) = true
  · rw [if_pos c1]; exact waitF_3 hr
  · rw [if_neg c1]; exact upd_o (Ne.symm (px_ne6 (by decide)))
theorem stepR_3 {w : Int32} {n : Nat} {v : Nat → Int32} (hn : n ≤ 10) : stepN w n v 3 = v 3 := by
  induction n with
  | zero => rfl
  | succ n ih => exact (stepF_3 (by omega)).trans (ih (by omega))
theorem tick_3 (v : Nat → Int32) : tick v 3 = v 3 + 1 := by
  unfold tick tickW
  rw [stepR_3 (Nat.le_refl 10), upd_s]
theorem stl_3 (n : Nat) (v : Nat → Int32) : stlV n v 3 = v 3 + nI (stlC n v) := by
  induction n generalizing v with
  | zero => simp only [stlV, stlC]; exact (Int32.add_zero _).symm
  | succ n ih =>
    simp only [stlV, stlC]
    by_cases c1 : wan v = 0
    · rw [if_pos c1, if_pos c1]; exact (Int32.add_zero _).symm
    · rw [if_neg c1, if_neg c1, ih, tick_3, nI_succ, Int32.add_assoc, Int32.add_comm 1]
/-- no bit but the ten relays' -/
def UB (v : Nat → Int32) : Prop := ∀ i, 10 ≤ i → i < 32 → (v 0).toBitVec.getLsbD i = false
theorem UB.xr {v : Nat → Int32} (h : UB v) {r i : Nat} (hr : r < 10) (h1 : 10 ≤ i) (h2 : i < 32) : (v 0 ^^^ shl 1 (nI r)).toBitVec.getLsbD i = false := by
  rw [i32_xor, h i h1 h2, shl_gb (by omega) h2, decide_eq_false (by omega)]
  rfl
theorem UB.wait {v : Nat → Int32} (h : UB v) {r : Nat} (hr : r < 10) : UB (waitF r v) := by
  have h1 : UB (w1 r v) := fun i a b => by rw [w1_o (by decide)]; exact h i a b
  by_cases c1 : w1 r v (px r 2) < tmF r (w1 r v)
  · rw [wait_n rfl c1]; exact h1
  · rw [wait_m rfl c1]
    intro i a b
    rw [moveF_0 hr]
    exact h1.xr hr a b
theorem UB.step {v : Nat → Int32} (h : UB v) (w : Int32) {r : Nat} (hr : r < 10) : UB (stepF w r v) := by
  unfold stepF
  by_cases c1 : hs w (nI r) = true
  · rw [if_pos c1]; exact h.wait hr
  · rw [if_neg c1]
    intro i a b
    rw [upd_o (Ne.symm (px_ne6 (by decide)))]
    exact h i a b
theorem UB.stepN {v : Nat → Int32} (h : UB v) (w : Int32) {n : Nat} (hn : n ≤ 10) : UB (stepN w n v) := by
  induction n with
  | zero => exact h
  | succ n ih => exact (ih (by omega)).step w (by omega)
theorem UB.upd {v : Nat → Int32} (h : UB v) {i : Nat} (hi : i ≠ 0) (x : Int32) : UB (upd v i x) := fun j a b => by rw [upd_o (Ne.symm hi)]; exact h j a b
theorem UB.tick {v : Nat → Int32} (h : UB v) : UB (tick v) := (h.upd (by decide) _).stepN _ (Nat.le_refl 10)
theorem UB.tickN {v : Nat → Int32} (h : UB v) (n : Nat) : UB (tickN n v) := by
  induction n with
  | zero => exact h
  | succ n ih => exact ih.tick
theorem UB.stl {v : Nat → Int32} (h : UB v) (n : Nat) : UB (stlV n v) := by
  induction n generalizing v with
  | zero => exact h
  | succ n ih =>
    simp only [stlV]
    by_cases c1 : wan v = 0
    · rw [if_pos c1]; exact h
    · rw [if_neg c1]; exact ih h.tick
theorem UB.n6 {v : Nat → Int32} (h : UB v) : ¬ v 0 = -6 := fun e => by
  have h1 := h 31 (by decide) (by decide)
  rw [e] at h1
  exact absurd h1 (by decide)
theorem UB.wld {v : Nat → Int32} (h : UB v) {r : Nat} (hr : r < 10) : UB (wldF v (nI r)) := by
  intro i a b
  unfold wldF
  rw [upd_o (by decide), upd_s, i32_or, h i a b, shl_gb (by omega) b, decide_eq_false (by omega)]
  rfl
theorem rsI_rsR {v : Nat → Int32} (h : UB v) (b x : Int32) : rsI v b x = rsR v b x := by
  have hw : UB (upd v 2 b) := h.upd (by decide) b
  have h3 : upd v 2 b 3 = v 3 := upd_o (by decide)
  have g : ∀ (s : Nat → Int32) (n : Nat) (q : Bool), UB s → s 3 = v 3 + nI n → (if (if q = true then s 0 else -6) = -6 ∨ x = 0 then (if q = true then s 0 else -6) else if x = 1 then s 3 - v 3 else s 4 - v 4) = cond q (if x = 0 then s 0 else if x = 1 then nI n else s 4 - v 4) (-6) := by
    intro s n q hs hn
    cases q
    · exact (if_pos (Or.inl rfl)).trans rfl
    · rw [if_pos rfl]
      by_cases hx : x = 0
      · rw [if_pos (Or.inr hx)]; exact (if_pos hx).symm
      · rw [if_neg (fun z => z.elim hs.n6 hx)]
        refine Eq.trans ?_ (if_neg hx).symm
        rw [hn, Int32.add_comm, Int32.add_sub_cancel]
  exact g (stlV 200 (upd v 2 b)) (stlC 200 (upd v 2 b)) (atRest (upd v 2 b)) (hw.stl 200) ((stl_3 200 (upd v 2 b)).trans (by rw [h3]))
theorem rsR_upR {v : Nat → Int32} (b : Int32) : rsR v b 0 = upR (upd v 2 b) := by
  have g : ∀ (q : Bool) (x y z : Int32), cond q (if (0 : Int32) = 0 then x else if (0 : Int32) = 1 then y else z) (-6) = if q = true then x else -6 := by
    intro q x y z
    cases q <;> rfl
  exact g _ _ _ _
theorem upd_id2 {v : Nat → Int32} (h : v 2 = 0) : upd v 2 0 = v := by rw [← h]; exact upd_same
theorem wldI_wldF (v : Nat → Int32) (w : Int32) : wldI v w = upd (wldF v w) 2 0 := by
  unfold wldI wldF
  rw [upd_o (show (0 : Nat) ≠ 2 by decide), upd_cm (show (2 : Nat) ≠ 0 by decide)]
  rw [show upd (upd v 0 (v 0 ||| shl 1 w)) 2 0 1 = upd v 0 (v 0 ||| shl 1 w) 1 from upd_o (by decide), upd_cm (show (2 : Nat) ≠ 1 by decide)]
theorem uiI_uiW (v : Nat → Int32) (r w : Int32) : uiI v r w = uiW v r w := by
  have e : rsR (wldF v w) 0 0 = upR (wldI v w) := by rw [wldI_wldF]; exact rsR_upR 0
  have g : ∀ a b : Int32, a = b → (if b = -6 then -6 else bt b r) = if a = -6 then -6 else bt a r := by intro a b h; rw [h]
  exact g _ _ e
theorem b2i_h1 (b : Bool) : (b2i b = 1) = (b = true) := by cases b <;> decide
theorem unsI_unsM (v : Nat → Int32) {r : Nat} (hr : r < 32) (n : Nat) : unsI v (nI r) n = unsM v (nI r) n := by
  unfold unsI unsM
  refine orN_e fun w hw => ?_
  rw [← uiI_uiW]
  have g : ∀ z : Int32, (iuI z (nI r) = true) ↔ (if z = -6 then -6 else bt z (nI r)) = 1 := by
    intro z
    unfold iuI
    by_cases c : z = -6
    · rw [if_pos c, decide_eq_true c]; exact ⟨fun q => absurd (show false = true from q) (by decide), fun q => absurd (show (-6 : Int32) = 1 from q) (by decide)⟩
    · rw [if_neg c, decide_eq_false c, bt_hs _ hr, b2i_h1]; exact ⟨fun q => q, fun q => q⟩
  have g2 : ∀ (p q : Prop) [Decidable p] [Decidable q], (p ↔ q) → (if ¬ nI w = nI r ∧ p then shl 1 (nI w) else 0) = if ¬ nI w = nI r ∧ q then shl 1 (nI w) else 0 := by
    intro p q _ _ h
    by_cases c : p
    · by_cases c2 : nI w = nI r
      · rw [if_neg (fun z => z.1 c2), if_neg (fun z => z.1 c2)]
      · rw [if_pos ⟨c2, c⟩, if_pos ⟨c2, h.mp c⟩]
    · rw [if_neg (fun z => c z.2), if_neg (fun z => c (h.mpr z.2))]
  exact g2 _ _ (g (upR (wldI v (nI w))))
