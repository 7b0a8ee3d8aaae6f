/-! PURE, of the public calls of the class -/
def rel11i (v : Nat → Int32) (k : Nat) : Nat → Int32
  | 0 => bt (v 0) (nI k)
  | 1 => bt (fedS v) (nI k)
  | 2 => bt (v 1) (nI k)
  | 3 => bt (wan v) (nI k)
  | 4 => v (px k 2)
  | 5 => v (px k 3)
  | 6 => v (px k 0)
  | 7 => v (px k 1)
  | 8 => v (px k 4)
  | 9 => bt (frtS v k) (nI k)
  | 10 => relC v k
  | _ => -2
def brn6i (v : Nat → Int32) (k j : Nat) : Nat → Int32
  | 0 => b2i (clo v k j)
  | 1 => ccn v k j
  | 2 => frt v k j &&& 1023
  | 3 => bck v k j &&& 1023
  | 4 => shr (frt v k j) 10 &&& 63
  | 5 => shr (bck v k j) 10 &&& 63
  | _ => -2
def rsI (v : Nat → Int32) (b x : Int32) : Int32 := if upR (upd v 2 b) = -6 ∨ x = 0 then upR (upd v 2 b) else if x = 1 then stlV 200 (upd v 2 b) 3 - v 3 else stlV 200 (upd v 2 b) 4 - v 4
def wldI (v : Nat → Int32) (w : Int32) : Nat → Int32 := wldF (upd v 2 0) w
def uiI (v : Nat → Int32) (r w : Int32) : Int32 := if upR (wldI v w) = -6 then -6 else bt (upR (wldI v w)) r
def iuI (x r : Int32) : Bool := !decide (x = -6) && hs x r
def unsI (v : Nat → Int32) (r : Int32) (n : Nat) : Int32 := orN n (fun w => if ¬ nI w = r ∧ iuI (upR (wldI v (nI w))) r = true then shl 1 (nI w) else 0)
def unsU (v : Nat → Int32) (r : Nat) (j : Nat) : Nat → Int32 := if j = r then wldI v (nI j) else stlV 200 (wldI v (nI j))
theorem wldI_RI {v : Nat → Int32} (h : RI v) (w : Int32) : RI (wldI v w) := wldF_RI (RI_lo h (by decide) _) w
def inI (v : Nat → Int32) (r : Int32) (s : Nat) : Nat → Nat → Int32
  | 0, _ => -6
  | m + 1, j => if bcF (nI j) = nI s ∧ iuI (upR (upd v 2 (nI j))) r = true then nI j else inI v r s m (j + 1)
def outI (v : Nat → Int32) (r : Int32) : Nat → Nat → Int32
  | 0, _ => -6
  | m + 1, s => if inI v r s 64 0 = -6 then outI v r m (s + 1) else inI v r s 64 0
def fndI (v : Nat → Int32) (r : Int32) : Int32 := outI v r 7 0
theorem inI_y {v : Nat → Int32} {r : Int32} {s m j : Nat} (hm : 0 < m) (h : bcF (nI j) = nI s ∧ iuI (upR (upd v 2 (nI j))) r = true) : inI v r s m j = nI j := by
  obtain ⟨k, rfl⟩ : ∃ k, m = k + 1 := ⟨m - 1, by omega⟩
  exact if_pos h
theorem inI_n {v : Nat → Int32} {r : Int32} {s m j : Nat} (hm : 0 < m) (h : ¬ (bcF (nI j) = nI s ∧ iuI (upR (upd v 2 (nI j))) r = true)) : inI v r s m j = inI v r s (m - 1) (j + 1) := by
  obtain ⟨k, rfl⟩ : ∃ k, m = k + 1 := ⟨m - 1, by omega⟩
  rw [show k + 1 - 1 = k by omega]
  exact if_neg h
theorem outI_y {v : Nat → Int32} {r : Int32} {s m : Nat} (hm : 0 < m) (h : ¬ inI v r s 64 0 = -6) : outI v r m s = inI v r s 64 0 := by
  obtain ⟨k, rfl⟩ : ∃ k, m = k + 1 := ⟨m - 1, by omega⟩
  exact if_neg h
theorem outI_n {v : Nat → Int32} {r : Int32} {s m : Nat} (hm : 0 < m) (h : inI v r s 64 0 = -6) : outI v r m s = outI v r (m - 1) (s + 1) := by
  obtain ⟨k, rfl⟩ : ∃ k, m = k + 1 := ⟨m - 1, by omega⟩
  rw [show k + 1 - 1 = k by omega]
  exact if_pos h
theorem nI_n6 {j : Nat} (h : j < 2 ^ 31) : ¬ nI j = -6 := fun q => nI_pos h (by rw [q]; decide)
def fndU (x : Int32) : Int32 := if x = -6 then 63 else x
theorem unsU_RI {v : Nat → Int32} (h : RI v) (r j : Nat) : RI (unsU v r j) := by
  unfold unsU
  by_cases hj : j = r
  · rw [if_pos hj]; exact wldI_RI h _
  · rw [if_neg hj]; exact stlV_RI (wldI_RI h _) 200
theorem fndU_y {x : Int32} (h : x = -6) : fndU x = 63 := if_pos h
theorem fndU_n {x : Int32} (h : ¬ x = -6) : fndU x = x := if_neg h
/-- reach as the program goes, with the trial beside it -/
def inW (v : Nat → Int32) (r : Int32) (s : Nat) : Nat → Nat → (Nat → Int32) → Int32 × (Nat → Int32)
  | 0, _, u => (-6, u)
  | m + 1, j, u => if bcF (nI j) = nI s then (if iuI (upR (upd v 2 (nI j))) r = true then (nI j, stlV 200 (upd v 2 (nI j))) else inW v r s m (j + 1) (stlV 200 (upd v 2 (nI j)))) else inW v r s m (j + 1) u
def outW (v : Nat → Int32) (r : Int32) : Nat → Nat → (Nat → Int32) → Int32 × (Nat → Int32)
  | 0, _, u => (-6, u)
  | m + 1, s, u => if (inW v r s 64 0 u).1 = -6 then outW v r m (s + 1) (inW v r s 64 0 u).2 else inW v r s 64 0 u
theorem inW_y {v u : Nat → Int32} {r : Int32} {s m j : Nat} (hm : 0 < m) (h : bcF (nI j) = nI s) : inW v r s m j u = if iuI (upR (upd v 2 (nI j))) r = true then (nI j, stlV 200 (upd v 2 (nI j))) else inW v r s (m - 1) (j + 1) (stlV 200 (upd v 2 (nI j))) := by
  obtain ⟨k, rfl⟩ : ∃ k, m = k + 1 := ⟨m - 1, by omega⟩
  rw [show k + 1 - 1 = k by omega]
  exact if_pos h
theorem inW_n {v u : Nat → Int32} {r : Int32} {s m j : Nat} (hm : 0 < m) (h : ¬ bcF (nI j) = nI s) : inW v r s m j u = inW v r s (m - 1) (j + 1) u := by
  obtain ⟨k, rfl⟩ : ∃ k, m = k + 1 := ⟨m - 1, by omega⟩
  rw [show k + 1 - 1 = k by omega]
  exact if_neg h
theorem outW_y {v u : Nat → Int32} {r : Int32} {s m : Nat} (hm : 0 < m) (h : ¬ (inW v r s 64 0 u).1 = -6) : outW v r m s u = inW v r s 64 0 u := by
  obtain ⟨k, rfl⟩ : ∃ k, m = k + 1 := ⟨m - 1, by omega⟩
  exact if_neg h
theorem outW_n {v u u' : Nat → Int32} {r : Int32} {s m : Nat} (hm : 0 < m) (h : inW v r s 64 0 u = (-6, u')) : outW v r m s u = outW v r (m - 1) (s + 1) u' := by
  obtain ⟨k, rfl⟩ : ∃ k, m = k + 1 := ⟨m - 1, by omega⟩
  rw [show k + 1 - 1 = k by omega]
  refine (if_pos (by rw [h])).trans ?_
  rw [h]
theorem inW_RI {v : Nat → Int32} (hv : RI v) (r : Int32) (s : Nat) : ∀ (m j : Nat) (u : Nat → Int32), RI u → RI (inW v r s m j u).2 := by
  intro m
  induction m with
  | zero => intro j u h; exact h
  | succ m ih =>
    intro j u h
    simp only [inW]
    split
    · split
      · exact stlV_RI (RI_lo hv (by decide) _) 200
      · exact ih _ _ (stlV_RI (RI_lo hv (by decide) _) 200)
    · exact ih _ _ h
theorem outW_RI {v : Nat → Int32} (hv : RI v) (r : Int32) : ∀ (m s : Nat) (u : Nat → Int32), RI u → RI (outW v r m s u).2 := by
  intro m
  induction m with
  | zero => intro s u h; exact h
  | succ m ih =>
    intro s u h
    simp only [outW]
    split
    · exact ih _ _ (inW_RI hv r s 64 0 u h)
    · exact inW_RI hv r s 64 0 u h
theorem inW_I {v : Nat → Int32} (r : Int32) (s : Nat) : ∀ (m j : Nat) (u : Nat → Int32), (inW v r s m j u).1 = inI v r s m j := by
  intro m
  induction m with
  | zero => intro j u; rfl
  | succ m ih =>
    intro j u
    simp only [inW, inI]
    by_cases h1 : bcF (nI j) = nI s
    · by_cases h2 : iuI (upR (upd v 2 (nI j))) r = true
      · rw [if_pos h1, if_pos h2, if_pos ⟨h1, h2⟩]
      · rw [if_pos h1, if_neg h2, if_neg (fun q => h2 q.2)]; exact ih _ _
    · rw [if_neg h1, if_neg (fun q => h1 q.1)]; exact ih _ _
theorem outW_I {v : Nat → Int32} (r : Int32) : ∀ (m s : Nat) (u : Nat → Int32), (outW v r m s u).1 = outI v r m s := by
  intro m
  induction m with
  | zero => intro s u; rfl
  | succ m ih =>
    intro s u
    simp only [outW, outI, inW_I]
    by_cases h1 : inI v r s 64 0 = -6
    · rw [if_pos h1, if_pos h1]; exact ih _ _
    · rw [if_neg h1, if_neg h1]; exact inW_I _ _ _ _ _
