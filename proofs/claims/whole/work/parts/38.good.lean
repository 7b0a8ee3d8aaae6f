/-! PURE: what every room of the object keeps: RI, no bit of row 0 but the ten relays', no bit of a branch but the sixteen contacts' -/
theorem C16_0 : C16 0 := fun i _ _ => i32_0 i
theorem C16.or {x y : Int32} (hx : C16 x) (hy : C16 y) : C16 (x ||| y) := fun i h1 h2 => by rw [i32_or, hx i h1 h2, hy i h1 h2]; rfl
theorem C16_sh {j : Nat} (hj : j < 16) : C16 (shl 1 (nI j)) := fun i h1 h2 => by rw [shl_gb (by omega) h2]; exact decide_eq_false (by omega)
def MA (v : Nat → Int32) : Prop := ∀ r b, r < 10 → b < 6 → C16 (frt v r b) ∧ C16 (bck v r b)
theorem MA.mk {v : Nat → Int32} (h : MA v) {x : Int32} (hx : C16 x) (i : Nat) : MA (upd v i x) := by
  intro r b hr hb
  obtain ⟨h1, h2⟩ := h r b hr hb
  refine ⟨?_, ?_⟩
  · unfold frt
    by_cases e : px r (5 + 3 * b) = i
    · rw [e, upd_s]; exact hx
    · rw [upd_o e]; exact h1
  · unfold bck
    by_cases e : px r (6 + 3 * b) = i
    · rw [e, upd_s]; exact hx
    · rw [upd_o e]; exact h2
theorem MA.o {v : Nat → Int32} (h : MA v) {i : Nat} (hi : ∀ r b, r < 10 → b < 6 → px r (5 + 3 * b) ≠ i ∧ px r (6 + 3 * b) ≠ i) (x : Int32) : MA (upd v i x) := by
  intro r b hr hb
  obtain ⟨h1, h2⟩ := h r b hr hb
  obtain ⟨e1, e2⟩ := hi r b hr hb
  unfold frt bck
  rw [upd_o e1, upd_o e2]
  exact ⟨h1, h2⟩
theorem MA.lo {v : Nat → Int32} (h : MA v) {i : Nat} (hi : i < 6) (x : Int32) : MA (upd v i x) := h.o (fun _ _ _ _ => ⟨px_ne6 hi, px_ne6 hi⟩) x
theorem MA.pt {v : Nat → Int32} (h : MA v) {r k : Nat} (hk : k < 5) (x : Int32) : MA (upd v (px r k) x) := h.o (fun _ _ _ _ => ⟨px_ne (by omega) (by omega) (by omega), px_ne (by omega) (by omega) (by omega)⟩) x
theorem MA.cc {v : Nat → Int32} (h : MA v) {r b : Nat} (hb : b < 6) (x : Int32) : MA (upd v (px r (7 + 3 * b)) x) := h.o (fun _ _ _ _ => ⟨px_ne (by omega) (by omega) (by omega), px_ne (by omega) (by omega) (by omega)⟩) x
theorem MA.kp {v v' : Nat → Int32} (h : MA v) (hk : ∀ j, KP j → v' j = v j) : MA v' := by
  intro r b hr hb
  obtain ⟨h1, h2⟩ := h r b hr hb
  unfold frt bck
  rw [hk _ (Or.inr (Or.inr ⟨r, 5 + 3 * b, by omega, by omega, by omega, rfl⟩)), hk _ (Or.inr (Or.inr ⟨r, 6 + 3 * b, by omega, by omega, by omega, rfl⟩))]
  exact ⟨h1, h2⟩
theorem MA.live {v : Nat → Int32} (h : MA v) (hI : RI v) : Mk v := fun r b hr hb => h r b hr (Nat.lt_of_lt_of_le hb (hI.1 r hr).2)
def Gd (v : Nat → Int32) : Prop := RI v ∧ UB v ∧ MA v
theorem RI_5 {v : Nat → Int32} (h : RI v) {x : Int32} (hx : 0 ≤ x) : RI (upd v 5 x) := by
  refine ⟨fun r hr => ?_, ?_⟩
  · unfold cnt
    rw [upd_o (px_ne6 (by decide))]
    exact h.1 r hr
  · rw [upd_s]; exact hx
theorem Gd.lo {v : Nat → Int32} (h : Gd v) {i : Nat} (hi : i < 5) (h0 : i ≠ 0) (x : Int32) : Gd (upd v i x) := ⟨RI_lo h.1 hi x, h.2.1.upd h0 x, h.2.2.lo (by omega) x⟩
theorem Gd.pt {v : Nat → Int32} (h : Gd v) {r k : Nat} (hk : k < 4) (x : Int32) : Gd (upd v (px r k) x) := ⟨RI_pt h.1 hk x, h.2.1.upd (px_ne6 (by decide)) x, h.2.2.pt (by omega) x⟩
theorem Gd.l5 {v : Nat → Int32} (h : Gd v) {x : Int32} (hx : 0 ≤ x) : Gd (upd v 5 x) := ⟨RI_5 h.1 hx, h.2.1.upd (by decide) x, h.2.2.lo (by decide) x⟩
theorem Gd.tick {v : Nat → Int32} (h : Gd v) : Gd (tick v) := ⟨tick_RI h.1, h.2.1.tick, h.2.2.kp fun _ hj => tickW_kp hj _ v⟩
theorem Gd.tickN {v : Nat → Int32} (h : Gd v) (n : Nat) : Gd (tickN n v) := by
  induction n with
  | zero => exact h
  | succ n ih => exact ih.tick
theorem Gd.stl {v : Nat → Int32} (h : Gd v) (n : Nat) : Gd (stlV n v) := by rw [stlV_tickN]; exact h.tickN _
theorem UB.of {v v' : Nat → Int32} (h : UB v) (e : v' 0 = v 0) : UB v' := fun i a b => by rw [e]; exact h i a b
theorem Gd.clr {v : Nat → Int32} (h : Gd v) {k : Nat} (hk : k < 10) : Gd (clrF k v) := ⟨clrF_RI h.1 hk, h.2.1.upd (px_ne6 (by decide)) _, h.2.2.pt (by decide) _⟩
theorem Gd.aB {v : Nat → Int32} (h : Gd v) {k : Nat} (hk : k < 10) : Gd (addB k v) := by
  refine ⟨addB_RI h.1 hk, ?_, ?_⟩
  · simp only [addB]
    split
    · exact (((h.2.1.upd (px_ne6 (by decide)) _).upd (px_ne6 (by decide)) _).upd (px_ne6 (by decide)) _).upd (px_ne6 (by decide)) _
    · exact h.2.1
  · simp only [addB]
    split
    · exact (((h.2.2.mk C16_0 _).mk C16_0 _).mk C16_0 _).pt (by decide) _
    · exact h.2.2
theorem Gd.aC {v : Nat → Int32} (h : Gd v) {k j : Nat} (hk : k < 10) (hj : j < 16) (z : Bool) : Gd (addC k (nI j) z v) := by
  have hc := (h.1.1 k hk).2
  refine ⟨addC_RI h.1 hk _ _, ?_, ?_⟩
  · simp only [addC]
    split
    · exact (h.2.1.upd (px_ne6 (by decide)) _).upd (px_ne6 (by decide)) _
    · exact h.2.1
  · simp only [addC]
    split
    next hp =>
      obtain ⟨h1, h2⟩ := h.2.2 k (cnt v k - 1) hk (by omega)
      refine MA.cc (MA.mk h.2.2 (C16.or ?_ (C16_sh hj)) _) (by omega) _
      cases z
      · exact h1
      · exact h2
    next => exact h.2.2
/-! the reader keeps it -/
theorem tkC_Gd {s : S4} (h1 : s.2.1 < 10) (h : Gd s.2.2) (x : Int32) : Gd (tkC s x).2.2.2 := by
  unfold tkC
  split
  · exact h
  · split
    next => exact h
    next _ hc =>
      rcases ctc_cases x with e | ⟨j, hj, e⟩
      · exact absurd e hc
      · rw [e]
        exact h.aC h1 hj _
theorem tkF_Gd {s : S4} (h1 : s.2.1 < 10) (h : Gd s.2.2) (x : Int32) : Gd (tkF s x).2.2.2 := tkC_Gd (s := (s.1, s.2.1, addB s.2.1 s.2.2)) h1 (h.aB h1) x
theorem tk_Gd {s : S4} (h1 : s.2.1 < 10) (h : Gd s.2.2) (x : Int32) : Gd (tk s x).2.2.2 := by
  unfold tk
  split
  · unfold tkR
    split
    · exact h
    · exact h
  · unfold tkE
    split
    · exact h.clr h1
    · exact h
  · split
    · exact h
    · exact tkF_Gd h1 h x
  · split
    · exact h
    · exact h
  · exact tkF_Gd h1 h x
  · exact tkC_Gd h1 h x
  · unfold tkN
    split
    · exact h
    · split
      · split
        · exact h
        · exact h
      · split
        · exact tkC_Gd h1 h x
        · exact h
theorem rdS_Gd {ch : Nat → Int32} (m : Nat) : ∀ (i : Nat) {s : S4}, OK4 s → Gd s.2.2 → Gd (rdS ch m i s).2.2 := by
  induction m with
  | zero => intro i s _ h; exact h
  | succ m ih =>
    intro i s ho h
    simp only [rdS]
    split
    · exact ih _ (tk_OK ho _) (tk_Gd ho.2.1 h _)
    · exact tk_Gd ho.2.1 h _
theorem Gd_ini (n : Nat) : Gd (ini n) := by
  induction n with
  | zero =>
    refine ⟨⟨fun r hr => ?_, Int32.le_refl 0⟩, fun i _ _ => i32_0 i, fun r b _ _ => ⟨C16_0, C16_0⟩⟩
    have e : cnt (ini 0) r = 0 := cpz0
    rw [e]
    exact ⟨nI_0.symm, Nat.zero_le 6⟩
  | succ n ih => exact (ih.pt (by decide) _).pt (by decide) _
theorem Gd_v0 : Gd v0 := Gd_ini 10
theorem Sim.rI {v f : Nat → Int32} (h : Sim v f) (hI : RI v) : RI f := by
  refine ⟨fun r hr => ?_, ?_⟩
  · rw [h.pt r 4 hr (by decide), h.c hr]
    exact hI.1 r hr
  · rw [h.lo 5 (by decide)]
    exact hI.2
theorem Sim.cg {v f f' : Nat → Int32} (h : Sim v f) (hI : RI v) (e : ∀ i, i < 236 → f' i = f i) : Sim v f' := by
  refine ⟨fun i hi => (e i (by omega)).trans (h.lo i hi), fun r k hr hk => (e _ (by unfold px; omega)).trans (h.pt r k hr hk), fun r b w hr hb hw => (e _ ?_).trans (h.br r b w hr hb hw)⟩
  have hc := (hI.1 r hr).2
  unfold px
  omega
