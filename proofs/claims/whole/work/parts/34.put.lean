/-! PURE, put: how many characters a number holds, both ways -/
theorem pm_false (m : Nat) : ∀ (y : Int64) (c : Nat), (pmF m y c false).2.2 = false := by
  induction m with
  | zero => intro y c; rfl
  | succ m ih =>
    intro y c
    simp only [pmF]
    by_cases h : y &&& 255 = 0
    · rw [if_pos h]
    · rw [if_neg h, Bool.false_and]; exact ih _ _
theorem lushr8 (y : Int64) : (lushr y 8).toUInt64.toNat = y.toUInt64.toNat / 256 := by
  unfold lushr
  rw [UInt64.toUInt64_toInt64, UInt64.toNat_shiftRight, show ((8 : Int32).toInt64.toUInt64 &&& Int64.toUInt64 63).toNat % 64 = 8 by decide +kernel, Nat.shiftRight_eq_div_pow]
theorem lst_0 {y : Int64} (h : y &&& 255 = 0) : inr (lst y) 33 126 = false := by
  unfold lst
  rw [h]
  decide
def pkP (q : Nat × Int64 × Bool) : Nat := if q.2.1 = 0 ∧ q.2.2 = true then q.1 else 0
theorem lg_pm (m : Nat) : ∀ (y : Int64) (c : Nat), y.toUInt64.toNat < 256 ^ m → lgF m y c = pkP (pmF m y c true) := by
  induction m with
  | zero =>
    intro y c h
    have h0 : y = 0 := by
      have h1 : y.toUInt64 = 0 := UInt64.toNat_inj.mp (by simpa using h)
      have h2 := congrArg UInt64.toInt64 h1
      rw [Int64.toInt64_toUInt64] at h2
      exact h2
    subst h0
    rfl
  | succ m ih =>
    intro y c h
    by_cases h0 : y = 0
    · subst h0
      have e : pmF (m + 1) 0 c true = (c, 0, true) := if_pos (by decide)
      rw [e]
      exact (if_pos rfl).trans (if_pos ⟨rfl, rfl⟩).symm
    · by_cases hz : y &&& 255 = 0
      · have e : pmF (m + 1) y c true = (c, y, true) := if_pos hz
        rw [e]
        exact (if_neg h0).trans ((if_neg (by rw [lst_0 hz]; decide)).trans (if_neg (fun q => h0 q.1)).symm)
      · have e : pmF (m + 1) y c true = pmF m (lushr y 8) (c + 1) (true && inr (lst y) 33 126) := if_neg hz
        rw [e]
        have hb : (lushr y 8).toUInt64.toNat < 256 ^ m := by
          rw [lushr8]
          rw [Nat.pow_succ] at h
          exact (Nat.div_lt_iff_lt_mul (by decide)).mpr h
        refine (if_neg h0).trans ?_
        cases hr : inr (lst y) 33 126
        · exact (if_neg (by decide)).trans (if_neg (fun q => by rw [Bool.and_false, pm_false] at q; exact absurd q.2 (by decide))).symm
        · exact (if_pos rfl).trans (ih _ _ hb)
theorem lg_8 (x : Int64) : lgF 8 x 0 = pkP (pmF 8 x 0 true) := lg_pm 8 x 0 (Nat.lt_of_lt_of_eq x.toUInt64.toNat_lt (by decide))
theorem i64_n {x y : Int64} (h : x.toUInt64.toNat = y.toUInt64.toNat) : x = y := by
  have h2 := congrArg UInt64.toInt64 (UInt64.toNat_inj.mp h)
  rw [Int64.toInt64_toUInt64, Int64.toInt64_toUInt64] at h2
  exact h2
theorem shN_n (x : Int64) (k : Nat) : (shN k x).toUInt64.toNat = x.toUInt64.toNat / 256 ^ k := by
  induction k with
  | zero => simp only [shN, Nat.pow_zero, Nat.div_one]
  | succ k ih => simp only [shN]; rw [lushr8, ih, Nat.div_div_eq_div_mul, Nat.pow_succ]
theorem shN_l (x : Int64) {k : Nat} (hk : k < 8) : shN k x = lushr x (nI (8 * k)) := by
  refine i64_n ?_
  rw [shN_n]
  unfold lushr
  have h8 : ∀ j : Fin 8, ((nI (8 * j.val)).toInt64.toUInt64 &&& Int64.toUInt64 63).toNat % 64 = 8 * j.val := by decide +kernel
  rw [UInt64.toUInt64_toInt64, UInt64.toNat_shiftRight, h8 ⟨k, hk⟩, Nat.shiftRight_eq_div_pow, Nat.pow_mul]
theorem amG_apG (x : Int64) (n : Nat) {c : Nat} (hc : c ≤ 8) (pd : Nat → Int32) : amG x n c c pd = apG x n c n pd := by
  funext i
  unfold amG apG
  by_cases h : n ≤ i ∧ i < n + c
  · rw [if_pos h, if_pos h, show c - 1 - (i - n) = n + c - 1 - i by omega, shN_l x (by omega)]
  · rw [if_neg h, if_neg h]
