/-! PURE, of the public calls -/
def zk (z : Bool) : Nat := cond z 1 0
theorem inr_nn {x : Int32} {n : Nat} {M : Int32} (hM : M.toInt = n) (h : inr x 0 M = true) : ∃ j : Nat, j ≤ n ∧ x = nI j := by
  unfold inr at h
  simp only [Bool.and_eq_true, decide_eq_true_eq] at h
  exact nI_of2 hM (Int32.not_lt.mpr h.1) h.2
theorem inr_rk {x : Int32} (h : inr x 0 9 = true) : x = nI (rk x) ∧ rk x < 10 := by
  obtain ⟨j, hj, rfl⟩ := inr_nn (n := 9) (by decide) h
  unfold rk
  rw [nI_clamp (by omega)]
  exact ⟨rfl, by omega⟩
theorem inr_r200 {x : Int32} (h : inr x 1 200 = true) : x = nI (rk x) ∧ rk x ≤ 200 := by
  have h0 : inr x 0 200 = true := by
    unfold inr at h ⊢
    simp only [Bool.and_eq_true, decide_eq_true_eq] at h ⊢
    exact ⟨Int32.le_trans (by decide) h.1, h.2⟩
  obtain ⟨j, hj, rfl⟩ := inr_nn (n := 200) (by decide) h0
  unfold rk
  rw [nI_clamp (by omega)]
  exact ⟨rfl, by omega⟩
theorem inr_r0200 {x : Int32} (h : inr x 0 200 = true) : x = nI (rk x) ∧ rk x ≤ 200 := by
  obtain ⟨j, hj, rfl⟩ := inr_nn (n := 200) (by decide) h
  unfold rk
  rw [nI_clamp (by omega)]
  exact ⟨rfl, by omega⟩
theorem inr_r1 {x : Int32} (h : inr x 0 1 = true) : x = nI (rk x) ∧ rk x < 2 := by
  obtain ⟨j, hj, rfl⟩ := inr_nn (n := 1) (by decide) h
  unfold rk
  rw [nI_clamp (by omega)]
  exact ⟨rfl, by omega⟩
theorem sw_inr {x : Int32} {k n : Nat} (h : x = nI k) (hk : k ≤ n) (hn : n < 2 ^ 31) : inr x 0 (nI n) = true := by
  subst h
  unfold inr
  rw [decide_eq_true (show (0 : Int32) ≤ nI k from nI_pos' (by omega)), decide_eq_true (nI_le hk hn)]
  rfl
theorem sw_rk {x : Int32} {k : Nat} (h : x = nI k) (hk : k < 2 ^ 31) : rk x = k := by subst h; exact nI_clamp hk
theorem sw_out {x : Int32} {n : Nat} (hn : n < 2 ^ 31) (h : x.toInt < 0 ∨ (n : Int) < x.toInt) : inr x 0 (nI n) = false := by
  unfold inr
  rcases h with h | h
  · rw [decide_eq_false (p := 0 ≤ x) (fun q => by rw [Int32.le_iff_toInt_le, Int32.toInt_zero] at q; omega)]
    rfl
  · rw [decide_eq_false (p := x ≤ nI n) (fun q => by rw [Int32.le_iff_toInt_le, nI_toInt hn] at q; omega), Bool.and_false]
theorem b2i_eq {x y : Bool} (h : b2i x = b2i y) : (x == y) = true := by revert h; cases x <;> cases y <;> decide
theorem b2i_ne {x y : Bool} (h : ¬ b2i x = b2i y) : (x == y) = false := by revert h; cases x <;> cases y <;> decide
theorem RI_lo {v : Nat → Int32} (h : RI v) {i : Nat} (hi : i < 5) (x : Int32) : RI (upd v i x) := by
  refine ⟨fun r hr => ?_, ?_⟩
  · unfold cnt
    rw [upd_o (px_ne6 (by omega))]
    exact h.1 r hr
  · rw [upd_o (by omega)]
    exact h.2
theorem RI_pt {v : Nat → Int32} (h : RI v) {r k : Nat} (hk : k < 4) (x : Int32) : RI (upd v (px r k) x) := by
  refine ⟨fun j hj => ?_, ?_⟩
  · unfold cnt
    rw [upd_o (px_ne (by decide) (by omega) (Or.inr (by omega)))]
    exact h.1 j hj
  · rw [upd_o (Ne.symm (px_ne6 (by decide)))]
    exact h.2
theorem onesN_RI {v : Nat → Int32} (h : RI v) (n : Nat) : RI (onesN n v) := by
  induction n with
  | zero => exact h
  | succ n ih => exact RI_pt (RI_pt ih (by decide) _) (by decide) _
def rel11 (v : Nat → Int32) (k : Nat) : Nat → Int32
  | 0 => bt (v 0) (nI k)
  | 1 => b2i (fed1 v k)
  | 2 => bt (v 1) (nI k)
  | 3 => bt (wan v) (nI k)
  | 4 => v (px k 2)
  | 5 => v (px k 3)
  | 6 => v (px k 0)
  | 7 => v (px k 1)
  | 8 => v (px k 4)
  | 9 => b2i (anyN (cnt v k) (fun b => hs (frt v k b) (nI k)))
  | 10 => relM v k
  | _ => -2
def brn6 (v : Nat → Int32) (k j : Nat) : Nat → Int32
  | 0 => b2i (clo v k j)
  | 1 => ccn v k j
  | 2 => frt v k j &&& 1023
  | 3 => bck v k j &&& 1023
  | 4 => shr (frt v k j) 10
  | 5 => shr (bck v k j) 10
  | _ => -2
def cnt12 (v : Nat → Int32) (pl rc : Int32) : Nat → Int32
  | 0 => v 0
  | 1 => fedS v
  | 2 => v 1
  | 3 => wan v
  | 4 => v 2
  | 5 => v 3
  | 6 => v 4
  | 7 => v 5
  | 8 => relB v
  | 9 => nevC v
  | 10 => pl
  | 11 => rc
  | _ => -2
theorem brn_in {v : Nat → Int32} (hI : RI v) {k : Nat} (hk : k < 10) {x : Int32} (h : inr x 0 (v (px k 4) - 1) = true) : x = nI (rk x) ∧ rk x < cnt v k ∧ cnt v k ≤ 6 := by
  obtain ⟨h1, h2⟩ := hI.1 k hk
  rw [h1] at h
  rcases Nat.eq_zero_or_pos (cnt v k) with h0 | h0
  · rw [h0] at h
    exfalso
    unfold inr at h
    simp only [Bool.and_eq_true, decide_eq_true_eq] at h
    have h3 := Int32.le_trans h.1 h.2
    exact absurd h3 (by decide)
  · rw [sub1 h0] at h
    obtain ⟨j, hj, rfl⟩ := inr_nn (n := cnt v k - 1) (nI_toInt (by omega)) h
    unfold rk
    rw [nI_clamp (by omega)]
    exact ⟨rfl, by omega, h2⟩
/-- coming to rest with buttons: something about it -/
def rsR (v : Nat → Int32) (b x : Int32) : Int32 := cond (atRest (upd v 2 b)) (if x = 0 then stlV 200 (upd v 2 b) 0 else if x = 1 then nI (stlC 200 (upd v 2 b)) else stlV 200 (upd v 2 b) 4 - v 4) (-6)
def wldF (v : Nat → Int32) (w : Int32) : Nat → Int32 := upd (upd v 0 (v 0 ||| shl 1 w)) 1 (upd v 0 (v 0 ||| shl 1 w) 1 ||| shl 1 w)
def uiW (v : Nat → Int32) (r w : Int32) : Int32 := if rsR (wldF v w) 0 0 = -6 then -6 else bt (rsR (wldF v w) 0 0) r
theorem wldF_RI {v : Nat → Int32} (h : RI v) (w : Int32) : RI (wldF v w) := RI_lo (RI_lo h (by decide) _) (by decide) _
theorem atRest_t {v : Nat → Int32} (h : wan (stlV 200 v) = 0) : atRest v = true := decide_eq_true h
theorem atRest_f {v : Nat → Int32} (h : ¬ wan (stlV 200 v) = 0) : atRest v = false := decide_eq_false h
theorem stlV_RI {v : Nat → Int32} (h : RI v) (n : Nat) : RI (stlV n v) := by rw [stlV_tickN]; exact tickN_RI h _
theorem cpyA (f g : Nat → Int32) : ∀ i, i < 236 → va_cpy f g 0 0 236 i = f i := fun i hi => by simp [va_cpy, hi]
theorem mW_st {G : GG} {a : Nat → Nat} {st st' kp hi sl sv pd td : Nat → Int32} {rc pl pt rt bn : Int32} {H : Heap} (h : ∀ i, i < 236 → st i = st' i) (hP : gP G (mW G a st kp hi sl sv pd td rc pl pt rt bn) H) : gP G (mW G a st' kp hi sl sv pd td rc pl pt rt bn) H := by
  intro q x hx
  have hl : q < 8 := (List.getElem?_eq_some_iff.mp hx).1
  rcases (show q = 0 ∨ q = 1 ∨ q = 2 ∨ q = 3 ∨ q = 4 ∨ q = 5 ∨ q = 6 ∨ q = 7 by omega) with rfl | rfl | rfl | rfl | rfl | rfl | rfl | rfl <;> cases hx
  · exact hP 0 _ rfl
  · exact (hP 1 _ rfl).trans (congrArg some (vp_cell_eq h))
  · exact hP 2 _ rfl
  · exact hP 3 _ rfl
  · exact hP 4 _ rfl
  · exact hP 5 _ rfl
  · exact hP 6 _ rfl
  · exact hP 7 _ rfl
theorem mW_kp {G : GG} {a : Nat → Nat} {st kp kp' hi sl sv pd td : Nat → Int32} {rc pl pt rt bn : Int32} {H : Heap} (h : ∀ i, i < 236 → kp i = kp' i) (hP : gP G (mW G a st kp hi sl sv pd td rc pl pt rt bn) H) : gP G (mW G a st kp' hi sl sv pd td rc pl pt rt bn) H := by
  intro q x hx
  have hl : q < 8 := (List.getElem?_eq_some_iff.mp hx).1
  rcases (show q = 0 ∨ q = 1 ∨ q = 2 ∨ q = 3 ∨ q = 4 ∨ q = 5 ∨ q = 6 ∨ q = 7 by omega) with rfl | rfl | rfl | rfl | rfl | rfl | rfl | rfl <;> cases hx
  · exact hP 0 _ rfl
  · exact hP 1 _ rfl
  · exact (hP 2 _ rfl).trans (congrArg some (vp_cell_eq h))
  · exact hP 3 _ rfl
  · exact hP 4 _ rfl
  · exact hP 5 _ rfl
  · exact hP 6 _ rfl
  · exact hP 7 _ rfl
/-- the reference's search for the fewest buttons: c tried, from 63 down -/
def bits6 (x : Int32) : Int32 := sumN 6 (fun k => bt x (nI k))
def fndM (v : Nat → Int32) (r : Int32) : Nat → Int32
  | 0 => -6
  | c + 1 => cond (!decide (rsR v (nI (63 - c)) 0 = -6) && hs (rsR v (nI (63 - c)) 0) r && (decide (fndM v r c = -6) || decide (bits6 (nI (63 - c)) ≤ bits6 (fndM v r c)))) (nI (63 - c)) (fndM v r c)
def unsM (v : Nat → Int32) (r : Int32) (n : Nat) : Int32 := orN n (fun w => if ¬ nI w = r ∧ uiW v r (nI w) = 1 then shl 1 (nI w) else 0)
theorem mul236c (k : Nat) : 236 * nI k = nI (236 * k) := by rw [show (236 : Int32) = nI 236 from rfl, pk_mul]
theorem m1neg {n : Nat} (hn : n ≤ 64) (h : nI n - 1 < 0) : n = 0 := by
  rcases Nat.eq_zero_or_pos n with h0 | h0
  · exact h0
  · rw [sub1 h0] at h
    exact absurd h (nI_pos (by omega))
theorem m1pos {n : Nat} (h : ¬ nI n - 1 < 0) : 0 < n := by
  rcases Nat.eq_zero_or_pos n with h0 | h0
  · subst h0
    exact absurd (by decide) h
  · exact h0
theorem addm1 (x : Int32) : x + Int32.ofInt (-1) = x - 1 := by
  rw [Int32.sub_eq_add_neg]
  rfl
theorem fnd_eq {v : Nat → Int32} {r : Int32} {i : Nat} (h0 : 0 < i) (h1 : i ≤ 64) : fndM v r (64 - (i - 1)) = cond (!decide (rsR v (nI (i - 1)) 0 = -6) && hs (rsR v (nI (i - 1)) 0) r && (decide (fndM v r (64 - i) = -6) || decide (bits6 (nI (i - 1)) ≤ bits6 (fndM v r (64 - i))))) (nI (i - 1)) (fndM v r (64 - i)) := by
  rw [show 64 - (i - 1) = (64 - i) + 1 by omega]
  simp only [fndM]
  rw [show 63 - (64 - i) = i - 1 by omega]
theorem fnd_t {v : Nat → Int32} {r : Int32} {i : Nat} (h0 : 0 < i) (h1 : i ≤ 64) (h2 : ¬ rsR v (nI (i - 1)) 0 = -6) (h3 : hs (rsR v (nI (i - 1)) 0) r = true) (h4 : fndM v r (64 - i) = -6 ∨ bits6 (nI (i - 1)) ≤ bits6 (fndM v r (64 - i))) : nI (i - 1) = fndM v r (64 - (i - 1)) := by
  rw [fnd_eq h0 h1, decide_eq_false h2, h3]
  rcases h4 with h4 | h4
  · rw [decide_eq_true h4]; rfl
  · rw [decide_eq_true h4, Bool.or_true]; rfl
theorem fnd_f {v : Nat → Int32} {r : Int32} {i : Nat} (h0 : 0 < i) (h1 : i ≤ 64) (h4 : rsR v (nI (i - 1)) 0 = -6 ∨ hs (rsR v (nI (i - 1)) 0) r = false ∨ (¬ fndM v r (64 - i) = -6 ∧ bits6 (nI (i - 1)) > bits6 (fndM v r (64 - i)))) : fndM v r (64 - i) = fndM v r (64 - (i - 1)) := by
  rw [fnd_eq h0 h1]
  rcases h4 with h4 | h4 | ⟨h4, h5⟩
  · rw [decide_eq_true h4]; rfl
  · rw [h4, Bool.and_false]; rfl
  · rw [decide_eq_false h4, decide_eq_false (Int32.not_le.mpr h5), Bool.or_false, Bool.and_false]; rfl
