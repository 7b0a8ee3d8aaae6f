/-! PURE, what if, by two rows that tell the same room -/
theorem Sim.s_rsR {v f : Nat → Int32} (h : Sim v f) (b x : Int32) : rsR f b x = rsR v b x := by
  have g : ∀ (q q' : Bool) (a a' d d' e e' : Int32) (n n' : Nat), q = q' → a = a' → n = n' → d = d' → e = e' → cond q (if x = 0 then a else if x = 1 then nI n else d - e) (-6) = cond q' (if x = 0 then a' else if x = 1 then nI n' else d' - e') (-6) := by
    intro q q' a a' d d' e e' n n' h1 h2 h3 h4 h5
    rw [h1, h2, h3, h4, h5]
  have hw : Sim (upd v 2 b) (upd f 2 b) := h.ulo (by decide) b
  exact g _ _ _ _ _ _ _ _ _ _ hw.s_atRest ((hw.stl 200).1.lo 0 (by decide)) (hw.stl 200).2 ((hw.stl 200).1.lo 4 (by decide)) (h.lo 4 (by decide))
theorem Sim.s_uiW {v f : Nat → Int32} (h : Sim v f) (r w : Int32) : uiW f r w = uiW v r w := by
  have g : ∀ a b : Int32, a = b → (if a = -6 then -6 else bt a r) = if b = -6 then -6 else bt b r := by intro a b h; rw [h]
  exact g _ _ ((h.s_wldF w).s_rsR 0 0)
theorem Sim.s_unsM {v f : Nat → Int32} (h : Sim v f) (r : Int32) (n : Nat) : unsM f r n = unsM v r n := by
  unfold unsM
  refine orN_e fun w hw => ?_
  have g : ∀ a b : Int32, a = b → (if ¬ nI w = r ∧ a = 1 then shl 1 (nI w) else 0) = if ¬ nI w = r ∧ b = 1 then shl 1 (nI w) else 0 := by intro a b h; rw [h]
  exact g _ _ (h.s_uiW r (nI w))
theorem Sim.s_fndM {v f : Nat → Int32} (h : Sim v f) (r : Int32) (c : Nat) : fndM f r c = fndM v r c := by
  induction c with
  | zero => rfl
  | succ c ih =>
    have g : ∀ a a' b b' k : Int32, a = a' → b = b' → cond (!decide (a = -6) && hs a r && (decide (b = -6) || decide (bits6 k ≤ bits6 b))) k b = cond (!decide (a' = -6) && hs a' r && (decide (b' = -6) || decide (bits6 k ≤ bits6 b'))) k b' := by
      intro a a' b b' k h1 h2
      rw [h1, h2]
    exact g _ _ _ _ _ (h.s_rsR _ 0) ih
theorem Sim.s_race {v f : Nat → Int32} (h : Sim v f) (b : Int32) : (upR (upd f 2 b) = upR (onesN 10 (upd f 2 b))) = (upR (upd v 2 b) = upR (onesN 10 (upd v 2 b))) := by
  have hw : Sim (upd v 2 b) (upd f 2 b) := h.ulo (by decide) b
  have g : ∀ a a' b b' : Int32, a = a' → b = b' → (a = b) = (a' = b') := by intro a a' b b' h1 h2; rw [h1, h2]
  exact g _ _ _ _ hw.s_upR (hw.ones 10).s_upR
