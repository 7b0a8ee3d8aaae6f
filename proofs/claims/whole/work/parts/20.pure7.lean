/-! PURE, of the pad and of the reader's run -/
theorem rdR_f {ch : Nat → Int32} {m i : Nat} {s : S4} (hm : 0 < m) (h : (tk s (ch i)).1 = false) : rdR ch m i s = nI i ∧ rdS ch m i s = (tk s (ch i)).2 := by
  obtain ⟨k, rfl⟩ : ∃ k, m = k + 1 := ⟨m - 1, by omega⟩
  simp only [rdR, rdS]
  rw [if_neg (Bool.eq_false_iff.mp h), if_neg (Bool.eq_false_iff.mp h)]
  exact ⟨rfl, rfl⟩
theorem rdR_t {ch : Nat → Int32} {m i : Nat} {s : S4} (hm : 0 < m) (h : (tk s (ch i)).1 = true) : rdR ch m i s = rdR ch (m - 1) (i + 1) (tk s (ch i)).2 ∧ rdS ch m i s = rdS ch (m - 1) (i + 1) (tk s (ch i)).2 := by
  obtain ⟨k, rfl⟩ : ∃ k, m = k + 1 := ⟨m - 1, by omega⟩
  rw [show k + 1 - 1 = k by omega]
  simp only [rdR, rdS]
  rw [if_pos h, if_pos h]
  exact ⟨rfl, rfl⟩
theorem rdR_0y {ch : Nat → Int32} {i : Nat} {s : S4} (h : s.1 = 3 ∨ s.1 = 6) : rdR ch 0 i s = -6 := if_pos h
theorem rdR_0n {ch : Nat → Int32} {i : Nat} {s : S4} (h : ¬ s.1 = 3) (h2 : ¬ s.1 = 6) : rdR ch 0 i s = nI i := if_neg (fun q => q.elim h h2)
theorem lcmp_0 {x y : Int64} (h : lg_cmp x y = 0) : x = y := by
  unfold lg_cmp at h
  split at h
  · exact absurd h (by decide)
  · split at h
    next h2 => exact h2
    next => exact absurd h (by decide)
theorem lcmp_n {x y : Int64} (h : ¬ lg_cmp x y = 0) : x ≠ y := by
  intro q
  subst q
  apply h
  unfold lg_cmp
  rw [if_neg (by simp), if_pos rfl]
theorem lgF_0 (m : Nat) {x : Int64} {c : Nat} (h : x = 0) : lgF m x c = c := by
  cases m with
  | zero => rfl
  | succ m => exact if_pos h
theorem lgF_t {m : Nat} {x : Int64} {c : Nat} (hm : 0 < m) (h : ¬ x = 0) (h2 : inr (lst x) 33 126 = true) : lgF m x c = lgF (m - 1) (lushr x 8) (c + 1) := by
  obtain ⟨k, rfl⟩ : ∃ k, m = k + 1 := ⟨m - 1, by omega⟩
  rw [show k + 1 - 1 = k by omega]
  simp only [lgF]
  rw [if_neg h, if_pos h2]
theorem lgF_f {m : Nat} {x : Int64} {c : Nat} (hm : 0 < m) (h : ¬ x = 0) (h2 : inr (lst x) 33 126 = false) : lgF m x c = 0 := by
  obtain ⟨k, rfl⟩ : ∃ k, m = k + 1 := ⟨m - 1, by omega⟩
  simp only [lgF]
  rw [if_neg h, if_neg (Bool.eq_false_iff.mp h2)]
theorem lgF_le (m : Nat) : ∀ (x : Int64) (c : Nat), lgF m x c ≤ c + m := by
  induction m with
  | zero => intro x c; exact Nat.le_refl _
  | succ m ih =>
    intro x c
    simp only [lgF]
    split
    · omega
    · split
      · have := ih (lushr x 8) (c + 1)
        omega
      · omega
def apG (x : Int64) (n c i : Nat) (pd : Nat → Int32) : Nat → Int32 := fun j => if i ≤ j ∧ j < n + c then lst (shN (n + c - 1 - j) x) else pd j
theorem apG_0 (x : Int64) (n c : Nat) (pd : Nat → Int32) : apG x n c (n + c) pd = pd := by
  funext j
  unfold apG
  rw [if_neg (by omega)]
theorem apG_s (x : Int64) (n c i : Nat) (pd : Nat → Int32) (h : 0 < i) (h2 : i ≤ n + c) : upd (apG x n c i pd) (i - 1) (lst (shN (n + c - i) x)) = apG x n c (i - 1) pd := by
  funext j
  simp only [upd, apG]
  by_cases e : j = i - 1
  · subst e
    rw [if_pos rfl, if_pos (by omega), show n + c - 1 - (i - 1) = n + c - i by omega]
  · rw [if_neg e]
    by_cases e2 : i ≤ j ∧ j < n + c
    · rw [if_pos e2, if_pos (by omega)]
    · rw [if_neg e2, if_neg (by omega)]
theorem shN_s (x : Int64) (n c i : Nat) (h : 0 < i) (h2 : i ≤ n + c) : lushr (shN (n + c - i) x) 8 = shN (n + c - (i - 1)) x := by
  rw [show n + c - (i - 1) = (n + c - i) + 1 by omega]
  rfl
theorem dn_t {n i : Nat} (h : n ≤ i) (h2 : i ≤ 1000) (hc : nI i - 1 < nI n) : i = n := by
  rcases Nat.eq_zero_or_pos i with h0 | h0
  · omega
  · rw [sub1 h0] at hc
    have := (nI_ltI (by omega) (by omega)).mp hc
    omega
theorem dn_f {n i : Nat} (h : n ≤ i) (h2 : i ≤ 1000) (hc : ¬ nI i - 1 < nI n) : n < i := by
  rcases Nat.lt_or_ge n i with q | q
  · exact q
  · exfalso
    have e : i = n := by omega
    subst e
    apply hc
    rcases Nat.eq_zero_or_pos i with h0 | h0
    · subst h0; decide
    · rw [sub1 h0]
      exact nI_lt (by omega) (by omega)
def bcF (x : Int32) : Int32 :=
  let a := x - (ushr x 1 &&& 1431655765)
  let b := (a &&& 858993459) + (ushr a 2 &&& 858993459)
  let c := (b + ushr b 4) &&& 252645135
  let d := c + ushr c 8
  let e := d + ushr d 16
  e &&& 63
/-- the reference's count of the signs of a number -/
def pmF : Nat → Int64 → Nat → Bool → Nat × Int64 × Bool
  | 0, y, c, z => (c, y, z)
  | m + 1, y, c, z => if y &&& 255 = 0 then (c, y, z) else pmF m (lushr y 8) (c + 1) (z && inr (lst y) 33 126)
theorem pmF_0 (m : Nat) {y : Int64} {c : Nat} {z : Bool} (h : y &&& 255 = 0) : pmF m y c z = (c, y, z) := by
  cases m with
  | zero => rfl
  | succ m => exact if_pos h
theorem pmF_s {m : Nat} {y : Int64} {c : Nat} {z z' : Bool} (hm : 0 < m) (h : ¬ y &&& 255 = 0) (hz : z' = (z && inr (lst y) 33 126)) : pmF m y c z = pmF (m - 1) (lushr y 8) (c + 1) z' := by
  obtain ⟨k, rfl⟩ : ∃ k, m = k + 1 := ⟨m - 1, by omega⟩
  subst hz
  rw [show k + 1 - 1 = k by omega]
  exact if_neg h
theorem pmF_le (m : Nat) : ∀ (y : Int64) (c : Nat) (z : Bool), (pmF m y c z).1 ≤ c + m := by
  induction m with
  | zero => intro y c z; exact Nat.le_refl _
  | succ m ih =>
    intro y c z
    simp only [pmF]
    split
    · show c ≤ _; omega
    · have := ih (lushr y 8) (c + 1) (z && inr (lst y) 33 126)
      omega
def amG (x : Int64) (n c j : Nat) (pd : Nat → Int32) : Nat → Int32 := fun i => if n ≤ i ∧ i < n + j then lst (lushr x (nI (8 * (c - 1 - (i - n))))) else pd i
theorem amG_0 (x : Int64) (n c : Nat) (pd : Nat → Int32) : amG x n c 0 pd = pd := by
  funext j
  unfold amG
  rw [if_neg (by omega)]
theorem amG_s (x : Int64) (n c i : Nat) (pd : Nat → Int32) (h0 : 0 < i) (h : i ≤ c) : upd (amG x n c (c - i) pd) (n + (c - i)) (lst (lushr x (nI (8 * (i - 1))))) = amG x n c (c - (i - 1)) pd := by
  funext j
  simp only [upd, amG]
  by_cases e : j = n + (c - i)
  · subst e
    rw [if_pos rfl, if_pos (by omega), show c - 1 - (n + (c - i) - n) = i - 1 by omega]
  · rw [if_neg e]
    by_cases e2 : n ≤ j ∧ j < n + (c - i)
    · rw [if_pos e2, if_pos (by omega)]
    · rw [if_neg e2, if_neg (by omega)]
theorem m8 (i : Nat) : 8 * nI i = nI (8 * i) := by rw [show (8 : Int32) = nI 8 from rfl, pk_mul]
