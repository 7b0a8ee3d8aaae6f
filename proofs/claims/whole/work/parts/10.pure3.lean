/-! PURE, of rows copied and of histories -/
theorem cells_perm {α : Type} (ws : List α) (is : List Nat) (n : Nat) (h : is.isPerm (List.range n) = true) (hn : ws.length = n) : ws.Perm (is.filterMap (fun i => ws[i]?)) := by
  have h1 : is.Perm (List.range ws.length) := by rw [hn]; exact List.isPerm_iff.mp h
  have h2 := (h1.filterMap (fun i => ws[i]?)).symm
  rw [range_pick] at h2
  exact h2
theorem cpy_0 (f g : Nat → Int32) (sf sg : Nat) : va_cpy f g sf sg 0 = g := by
  funext k
  unfold va_cpy
  rw [if_neg (by omega)]
theorem cpy_s (f g : Nat → Int32) (sf sg i : Nat) : upd (va_cpy f g sf sg i) (sg + i) (f (sf + i)) = va_cpy f g sf sg (i + 1) := by
  funext k
  simp only [upd, va_cpy]
  by_cases h : k = sg + i
  · subst h
    rw [if_pos rfl, if_pos (by omega), show sf + (sg + i - sg) = sf + i by omega]
  · rw [if_neg h]
    by_cases h2 : sg ≤ k ∧ k < sg + i
    · rw [if_pos h2, if_pos (by omega)]
    · rw [if_neg h2, if_neg (by omega)]
def shI (hi : Nat → Int32) (i : Nat) : Nat → Int32 := fun k => if k < i then hi (k + 236) else hi k
theorem shI_0 (hi : Nat → Int32) : shI hi 0 = hi := by
  funext k
  unfold shI
  rw [if_neg (by omega)]
theorem shI_s (hi : Nat → Int32) (i : Nat) : upd (shI hi i) i (shI hi i (i + 236)) = shI hi (i + 1) := by
  funext k
  simp only [upd, shI]
  by_cases h : k = i
  · subst h
    rw [if_pos rfl, if_neg (by omega), if_pos (by omega)]
  · rw [if_neg h]
    by_cases h2 : k < i
    · rw [if_pos h2, if_pos (by omega)]
    · rw [if_neg h2, if_neg (by omega)]
def recC (k : Nat) : Nat := if k = 6 then 6 else k + 1
def recH (st hi : Nat → Int32) (k : Nat) : Nat → Int32 := if k = 6 then va_cpy st (shI hi 1180) 0 1180 236 else va_cpy st hi 0 (236 * k) 236
theorem mul236 (k : Nat) : nI k * 236 = nI (236 * k) := by rw [show (236 : Int32) = nI 236 from rfl, pk_mul, Nat.mul_comm]
theorem recC_n {k : Nat} (hk : k ≤ 6) (h : ¬ k = 6) : nI (recC k) = nI k + 1 := by unfold recC; rw [if_neg h, nI_1]
theorem recC_6 {k : Nat} (h : k = 6) : nI (recC k) = nI k - 1 + 1 := by subst h; decide
theorem or_as (x y z : Int32) : x ||| y ||| z = x ||| (y ||| z) := i32_ext fun i _ => by rw [i32_or, i32_or, i32_or, i32_or, Bool.or_assoc]
def relM (st : Nat → Int32) (k : Nat) : Int32 := orN 10 (fun r => orN (cnt st r) (fun b => if hs (frt st r b ||| bck st r b) (nI k) = true then shl 1 (nI r) else 0))
