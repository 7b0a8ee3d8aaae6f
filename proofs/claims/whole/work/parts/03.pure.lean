/-! PURE: a room as a row of numbers (place 0 up, 1 welded, 2 on, 3 ticks, 4 moved, 5 LIFE, then 23 of each relay), and what the two programs work out of it -/
def shl (x y : Int32) : Int32 := x <<< (y &&& 31)
def shr (x y : Int32) : Int32 := x >>> (y &&& 31)
def px (r k : Nat) : Nat := 6 + 23 * r + k
def bt (s k : Int32) : Int32 := shr s k &&& 1
def hs (s k : Int32) : Bool := decide (bt s k = 1)
def inr (x lo hi : Int32) : Bool := decide (lo ≤ x) && decide (x ≤ hi)
def onS (v : Nat → Int32) : Int32 := v 0 ||| shl (v 2) 10
def frt (v : Nat → Int32) (r b : Nat) : Int32 := v (px r (5 + 3 * b))
def bck (v : Nat → Int32) (r b : Nat) : Int32 := v (px r (6 + 3 * b))
def ccn (v : Nat → Int32) (r b : Nat) : Int32 := v (px r (7 + 3 * b))
def cnt (v : Nat → Int32) (r : Nat) : Nat := (v (px r 4)).toNatClampNeg
def clo (v : Nat → Int32) (r b : Nat) : Bool := decide (onS v &&& frt v r b = frt v r b) && decide (onS v &&& bck v r b = 0)
def anyN : Nat → (Nat → Bool) → Bool
  | 0, _ => false
  | n + 1, f => anyN n f || f n
def orN : Nat → (Nat → Int32) → Int32
  | 0, _ => 0
  | n + 1, f => orN n f ||| f n
def sumN : Nat → (Nat → Int32) → Int32
  | 0, _ => 0
  | n + 1, f => sumN n f + f n
theorem anyN_t {n : Nat} {f : Nat → Bool} {i : Nat} (h : i < n) (hf : f i = true) : anyN n f = true := by
  induction n with
  | zero => omega
  | succ n ih =>
    rcases Nat.lt_succ_iff_lt_or_eq.mp h with h | h
    · simp [anyN, ih h]
    · subst h; simp [anyN, hf]
theorem anyN_f {n : Nat} {f : Nat → Bool} (h : ∀ i, i < n → f i = false) : anyN n f = false := by
  induction n with
  | zero => rfl
  | succ n ih => simp [anyN, ih (fun i hi => h i (by omega)), h n (by omega)]
theorem anyN_e {n : Nat} {f g : Nat → Bool} (h : ∀ i, i < n → f i = g i) : anyN n f = anyN n g := by
  induction n with
  | zero => rfl
  | succ n ih => simp [anyN, ih (fun i hi => h i (by omega)), h n (by omega)]
theorem orN_e {n : Nat} {f g : Nat → Int32} (h : ∀ i, i < n → f i = g i) : orN n f = orN n g := by
  induction n with
  | zero => rfl
  | succ n ih => simp [orN, ih (fun i hi => h i (by omega)), h n (by omega)]
theorem sumN_e {n : Nat} {f g : Nat → Int32} (h : ∀ i, i < n → f i = g i) : sumN n f = sumN n g := by
  induction n with
  | zero => rfl
  | succ n ih => simp [sumN, ih (fun i hi => h i (by omega)), h n (by omega)]
def fed1 (v : Nat → Int32) (r : Nat) : Bool := anyN (cnt v r) (fun b => clo v r b)
def fedS (v : Nat → Int32) : Int32 := orN 10 (fun r => if fed1 v r = true then shl 1 (nI r) else 0)
def wan (v : Nat → Int32) : Int32 := (fedS v ^^^ v 0) &&& ((v 0 &&& v 1) ^^^ (-1))
/-- what a room's row holds at any time: so many branches a relay, LIFE not below 0 -/
def RI (v : Nat → Int32) : Prop := (∀ r, r < 10 → v (px r 4) = nI (cnt v r) ∧ cnt v r ≤ 6) ∧ 0 ≤ v 5
/-! ticks -/
def wearF (r : Nat) (v : Nat → Int32) : Nat → Int32 :=
  let v1 := upd v (px r 3) (v (px r 3) + 1)
  if v1 5 ≠ 0 ∧ v1 5 ≤ v1 (px r 3) then upd v1 1 (v1 1 ||| shl 1 (nI r)) else v1
def moveF (r : Nat) (v : Nat → Int32) : Nat → Int32 :=
  let v1 := upd v (px r 2) 0
  let v2 := upd v1 4 (v1 4 + 1)
  let v3 := upd v2 0 (v2 0 ^^^ shl 1 (nI r))
  if hs (v3 0) (nI r) = true then wearF r v3 else v3
def tmF (r : Nat) (v : Nat → Int32) : Int32 := if hs (v 0) (nI r) = true then v (px r 1) else v (px r 0)
def waitF (r : Nat) (v : Nat → Int32) : Nat → Int32 :=
  let v1 := upd v (px r 2) (v (px r 2) + 1)
  if tmF r v1 ≤ v1 (px r 2) then moveF r v1 else v1
def stepF (w : Int32) (r : Nat) (v : Nat → Int32) : Nat → Int32 := if hs w (nI r) = true then waitF r v else upd v (px r 2) 0
def stepN (w : Int32) : Nat → (Nat → Int32) → Nat → Int32
  | 0, v => v
  | n + 1, v => stepF w n (stepN w n v)
def tickW (w : Int32) (v : Nat → Int32) : Nat → Int32 := stepN w 10 (upd v 3 (v 3 + 1))
def tick (v : Nat → Int32) : Nat → Int32 := tickW (wan v) v
def tickN : Nat → (Nat → Int32) → Nat → Int32
  | 0, v => v
  | n + 1, v => tick (tickN n v)
/-- ticks until at rest, at most n: how many, and the room then -/
def stlC : Nat → (Nat → Int32) → Nat
  | 0, _ => 0
  | n + 1, v => if wan v = 0 then 0 else stlC n (tick v) + 1
def stlV : Nat → (Nat → Int32) → Nat → Int32
  | 0, v => v
  | n + 1, v => if wan v = 0 then v else stlV n (tick v)
def atRest (v : Nat → Int32) : Bool := decide (wan (stlV 200 v) = 0)
def setlR (v : Nat → Int32) : Int32 := if atRest v = true then nI (stlC 200 v) else nI (stlC 200 v) + 1000
def upR (v : Nat → Int32) : Int32 := if atRest v = true then stlV 200 v 0 else -6
def onesN : Nat → (Nat → Int32) → Nat → Int32
  | 0, v => v
  | n + 1, v => upd (upd (onesN n v) (px n 0) 1) (px n 1) 1
/-! circuits -/
def frtS (v : Nat → Int32) (r : Nat) : Int32 := orN (cnt v r) (fun b => frt v r b)
def bckS (v : Nat → Int32) (r : Nat) : Int32 := orN (cnt v r) (fun b => bck v r b)
def relB (v : Nat → Int32) : Int32 := sumN 10 (fun r => if 0 < v (px r 4) then 1 else 0)
def relC (v : Nat → Int32) (k : Nat) : Int32 := orN 10 (fun r => if hs (frtS v r ||| bckS v r) (nI k) = true then shl 1 (nI r) else 0)
def nevR (v : Nat → Int32) (r : Nat) : Int32 := sumN (cnt v r) (fun b => if frt v r b &&& bck v r b ≠ 0 then 1 else 0)
def nevC (v : Nat → Int32) : Int32 := sumN 10 (fun r => nevR v r)
def clrF (r : Nat) (v : Nat → Int32) : Nat → Int32 := upd v (px r 4) 0
def addB (r : Nat) (v : Nat → Int32) : Nat → Int32 :=
  if v (px r 4) < 6 then
    let v3 := upd (upd (upd v (px r (5 + 3 * cnt v r)) 0) (px r (6 + 3 * cnt v r)) 0) (px r (7 + 3 * cnt v r)) 0
    upd v3 (px r 4) (v3 (px r 4) + 1)
  else v
def rmB (r : Nat) (v : Nat → Int32) : Bool := decide (v (px r 4) < 6)
def rmC (r : Nat) (v : Nat → Int32) : Bool := decide (0 < cnt v r) && decide (ccn v r (cnt v r - 1) < 8)
def addC (r : Nat) (k : Int32) (back : Bool) (v : Nat → Int32) : Nat → Int32 :=
  if 0 < cnt v r then
    let i := px r ((if back = true then 6 else 5) + 3 * (cnt v r - 1))
    let v1 := upd v i (v i ||| shl 1 k)
    upd v1 (px r (7 + 3 * (cnt v r - 1))) (v1 (px r (7 + 3 * (cnt v r - 1))) + 1)
  else v
/-! places -/
theorem px_lt {r k : Nat} (hr : r < 10) (hk : k < 23) : px r k < 236 := by unfold px; omega
theorem px_ne {r k r' k' : Nat} (hk : k < 23) (hk' : k' < 23) (h : r ≠ r' ∨ k ≠ k') : px r k ≠ px r' k' := by unfold px; omega
theorem px_ne6 {r k i : Nat} (hi : i < 6) : px r k ≠ i := by unfold px; omega
theorem px_nI (r k : Nat) : nI 6 + nI 23 * nI r + nI k = nI (px r k) := by rw [pk_mul, nI_add, nI_add]; rfl
theorem lt_lit {i n : Nat} (hi : i < 2 ^ 31) (hn : n < 2 ^ 31) : nI n ≤ nI i ↔ n ≤ i := nI_leI hn hi
theorem RI.c {v : Nat → Int32} (h : RI v) {r : Nat} (hr : r < 10) : v (px r 4) = nI (cnt v r) ∧ cnt v r ≤ 6 := h.1 r hr
/-! a room's cells -/
abbrev rO (a : Nat → Nat) (v : Nat → Int32) : Nat × va_E := (a 0, .inr (3, [.int (v 0), .int (v 1), .int (v 2), .int (v 5), .int (v 3), .int (v 4), .ref (a 1), .ref (a 2), .ref (a 3), .ref (a 4), .ref (a 5), .ref (a 6), .ref (a 7), .ref (a 8)]))
abbrev rR (G : GG) (q : Nat) (v : Nat → Int32) (k : Nat) : Nat × va_E := (q, .inl (gI G, 10, .inl (fun r => v (px r k))))
abbrev rB (G : GG) (q : Nat) (v : Nat → Int32) (k : Nat) : Nat × va_E := (q, .inl (gI G, 60, .inl (fun j => v (px (j / 6) (k + 3 * (j % 6))))))
abbrev rW (G : GG) (a : Nat → Nat) (v : Nat → Int32) : va_W := [rO a v, rR G (a 1) v 0, rR G (a 2) v 1, rR G (a 3) v 2, rR G (a 4) v 3, rR G (a 5) v 4, rB G (a 6) v 5, rB G (a 7) v 6, rB G (a 8) v 7]
theorem rW_addr (G : GG) (a : Nat → Nat) (v v' : Nat → Int32) : (rW G a v').map (·.1) = (rW G a v).map (·.1) := rfl
theorem rR_upd (v : Nat → Int32) (k r : Nat) (x : Int32) (hk : k < 23) (k' : Nat) (hk' : k' < 23) : (fun j => upd v (px r k) x (px j k')) = if k' = k then upd (fun j => v (px j k')) r x else fun j => v (px j k') := by
  split
  next h =>
    subst h
    funext j
    by_cases hj : j = r
    · subst hj; simp [upd]
    · have := px_ne hk hk (r := j) (r' := r) (Or.inl hj)
      simp [upd, hj, this]
  next h =>
    funext j
    have := px_ne hk' hk (r := j) (r' := r) (Or.inr h)
    simp [upd, this]
theorem rR_upd6 (v : Nat → Int32) (i k : Nat) (x : Int32) (hi : i < 6) : (fun j => upd v i x (px j k)) = fun j => v (px j k) := by
  funext j
  have := px_ne6 (r := j) (k := k) hi
  simp [upd, this]
theorem rB_upd6 (v : Nat → Int32) (i k : Nat) (x : Int32) (hi : i < 6) : (fun j => upd v i x (px (j / 6) (k + 3 * (j % 6)))) = fun j => v (px (j / 6) (k + 3 * (j % 6))) := by
  funext j
  have := px_ne6 (r := j / 6) (k := k + 3 * (j % 6)) hi
  simp [upd, this]
theorem rB_updS (v : Nat → Int32) (r k kB : Nat) (x : Int32) (hk : k < 5) (hB : 5 ≤ kB ∧ kB ≤ 7) : (fun j => upd v (px r k) x (px (j / 6) (kB + 3 * (j % 6)))) = fun j => v (px (j / 6) (kB + 3 * (j % 6))) := by
  funext j
  have hj : j % 6 < 6 := Nat.mod_lt _ (by decide)
  have := px_ne (r := j / 6) (k := kB + 3 * (j % 6)) (r' := r) (k' := k) (by omega) (by omega) (Or.inr (by omega))
  simp [upd, this]
theorem rR_updB (v : Nat → Int32) (r k kB b : Nat) (x : Int32) (hk : k < 5) (hB : 5 ≤ kB ∧ kB ≤ 7) (hb : b < 6) : (fun j => upd v (px r (kB + 3 * b)) x (px j k)) = fun j => v (px j k) := by
  funext j
  have := px_ne (r := j) (k := k) (r' := r) (k' := kB + 3 * b) (by omega) (by omega) (Or.inr (by omega))
  simp [upd, this]
theorem rB_updB (v : Nat → Int32) (r k kB b : Nat) (x : Int32) (hk : 5 ≤ k ∧ k ≤ 7) (hB : 5 ≤ kB ∧ kB ≤ 7) (hb : b < 6) : (fun j => upd v (px r (kB + 3 * b)) x (px (j / 6) (k + 3 * (j % 6)))) = if k = kB then upd (fun j => v (px (j / 6) (k + 3 * (j % 6)))) (6 * r + b) x else fun j => v (px (j / 6) (k + 3 * (j % 6))) := by
  split
  next h =>
    subst h
    funext j
    have hj : j % 6 < 6 := Nat.mod_lt _ (by decide)
    by_cases e : j = 6 * r + b
    · subst e
      have e1 : (6 * r + b) / 6 = r := by omega
      have e2 : (6 * r + b) % 6 = b := by omega
      simp [upd, e1, e2]
    · have := px_ne (r := j / 6) (k := k + 3 * (j % 6)) (r' := r) (k' := k + 3 * b) (by omega) (by omega) (by omega)
      simp [upd, this, e]
  next h =>
    funext j
    have hj : j % 6 < 6 := Nat.mod_lt _ (by decide)
    have := px_ne (r := j / 6) (k := k + 3 * (j % 6)) (r' := r) (k' := kB + 3 * b) (by omega) (by omega) (Or.inr (by omega))
    simp [upd, this]
/-- an int field of a room is written -/
theorem rW_setI (G : GG) (a : Nat → Nat) (v : Nat → Int32) (x : Int32) :
    (rW G a (upd v 0 x) = (rW G a v).set 0 (a 0, .inr (3, [.int x, .int (v 1), .int (v 2), .int (v 5), .int (v 3), .int (v 4), .ref (a 1), .ref (a 2), .ref (a 3), .ref (a 4), .ref (a 5), .ref (a 6), .ref (a 7), .ref (a 8)]))) ∧
    (rW G a (upd v 1 x) = (rW G a v).set 0 (a 0, .inr (3, [.int (v 0), .int x, .int (v 2), .int (v 5), .int (v 3), .int (v 4), .ref (a 1), .ref (a 2), .ref (a 3), .ref (a 4), .ref (a 5), .ref (a 6), .ref (a 7), .ref (a 8)]))) ∧
    (rW G a (upd v 2 x) = (rW G a v).set 0 (a 0, .inr (3, [.int (v 0), .int (v 1), .int x, .int (v 5), .int (v 3), .int (v 4), .ref (a 1), .ref (a 2), .ref (a 3), .ref (a 4), .ref (a 5), .ref (a 6), .ref (a 7), .ref (a 8)]))) ∧
    (rW G a (upd v 5 x) = (rW G a v).set 0 (a 0, .inr (3, [.int (v 0), .int (v 1), .int (v 2), .int x, .int (v 3), .int (v 4), .ref (a 1), .ref (a 2), .ref (a 3), .ref (a 4), .ref (a 5), .ref (a 6), .ref (a 7), .ref (a 8)]))) ∧
    (rW G a (upd v 3 x) = (rW G a v).set 0 (a 0, .inr (3, [.int (v 0), .int (v 1), .int (v 2), .int (v 5), .int x, .int (v 4), .ref (a 1), .ref (a 2), .ref (a 3), .ref (a 4), .ref (a 5), .ref (a 6), .ref (a 7), .ref (a 8)]))) ∧
    (rW G a (upd v 4 x) = (rW G a v).set 0 (a 0, .inr (3, [.int (v 0), .int (v 1), .int (v 2), .int (v 5), .int (v 3), .int x, .ref (a 1), .ref (a 2), .ref (a 3), .ref (a 4), .ref (a 5), .ref (a 6), .ref (a 7), .ref (a 8)]))) := by
  refine ⟨?_, ?_, ?_, ?_, ?_, ?_⟩ <;> simp only [rW, rO, rR, rB, rR_upd6 _ _ _ _ (by decide : 0 < 6), rB_upd6 _ _ _ _ (by decide : 0 < 6), rR_upd6 _ _ _ _ (by decide : 1 < 6), rB_upd6 _ _ _ _ (by decide : 1 < 6), rR_upd6 _ _ _ _ (by decide : 2 < 6), rB_upd6 _ _ _ _ (by decide : 2 < 6), rR_upd6 _ _ _ _ (by decide : 3 < 6), rB_upd6 _ _ _ _ (by decide : 3 < 6), rR_upd6 _ _ _ _ (by decide : 4 < 6), rB_upd6 _ _ _ _ (by decide : 4 < 6), rR_upd6 _ _ _ _ (by decide : 5 < 6), rB_upd6 _ _ _ _ (by decide : 5 < 6)] <;> rfl
/-- a place of a row of relays is written -/
theorem rW_setR (G : GG) (a : Nat → Nat) (v : Nat → Int32) (r k : Nat) (x : Int32) (hk : k < 5) :
    rW G a (upd v (px r k) x) = (rW G a v).set (k + 1) (a (k + 1), .inl (gI G, 10, .inl (upd (fun j => v (px j k)) r x))) := by
  have e : ∀ i, i < 6 → upd v (px r k) x i = v i := fun i hi => by
    have := px_ne6 (r := r) (k := k) hi
    simp [upd, Ne.symm this]
  simp only [rW, rO, rR, rB, e 0 (by decide), e 1 (by decide), e 2 (by decide), e 3 (by decide), e 4 (by decide), e 5 (by decide), rR_upd v k r x (by omega) 0 (by decide), rR_upd v k r x (by omega) 1 (by decide), rR_upd v k r x (by omega) 2 (by decide), rR_upd v k r x (by omega) 3 (by decide), rR_upd v k r x (by omega) 4 (by decide), rB_updS v r k 5 x hk (by decide), rB_updS v r k 6 x hk (by decide), rB_updS v r k 7 x hk (by decide)]
  rcases (show k = 0 ∨ k = 1 ∨ k = 2 ∨ k = 3 ∨ k = 4 by omega) with rfl | rfl | rfl | rfl | rfl <;> simp
/-- a place of a row of branches is written -/
theorem rW_setB (G : GG) (a : Nat → Nat) (v : Nat → Int32) (r b k : Nat) (x : Int32) (hk : k < 3) (hb : b < 6) :
    rW G a (upd v (px r (5 + k + 3 * b)) x) = (rW G a v).set (k + 6) (a (k + 6), .inl (gI G, 60, .inl (upd (fun j => v (px (j / 6) (5 + k + 3 * (j % 6)))) (6 * r + b) x))) := by
  have e : ∀ i, i < 6 → upd v (px r (5 + k + 3 * b)) x i = v i := fun i hi => by
    have := px_ne6 (r := r) (k := 5 + k + 3 * b) hi
    simp [upd, Ne.symm this]
  simp only [rW, rO, rR, rB, e 0 (by decide), e 1 (by decide), e 2 (by decide), e 3 (by decide), e 4 (by decide), e 5 (by decide), rR_updB v r 0 (5 + k) b x (by decide) (by omega) hb, rR_updB v r 1 (5 + k) b x (by decide) (by omega) hb, rR_updB v r 2 (5 + k) b x (by decide) (by omega) hb, rR_updB v r 3 (5 + k) b x (by decide) (by omega) hb, rR_updB v r 4 (5 + k) b x (by decide) (by omega) hb, rB_updB v r 5 (5 + k) b x (by decide) (by omega) hb, rB_updB v r 6 (5 + k) b x (by decide) (by omega) hb, rB_updB v r 7 (5 + k) b x (by decide) (by omega) hb]
  rcases (show k = 0 ∨ k = 1 ∨ k = 2 by omega) with rfl | rfl | rfl <;> simp
/-- rooms that agree where a room has places have the same cells -/
theorem vp_cell_eq {cA : ClassId} {n : Nat} {f g : Nat → Int32} (h : ∀ i, i < n → f i = g i) : vp_cell cA (n, .inl f) = vp_cell cA (n, .inl g) := by
  rw [vp_cell_i, vp_cell_i]
  unfold arrV
  congr 2
  funext j
  exact congrArg Value.int (h j.1 j.2)
theorem rW_ext {G : GG} {a : Nat → Nat} {v v' : Nat → Int32} (h : ∀ i, i < 236 → v i = v' i) {H : Heap} (hP : gP G (rW G a v) H) : gP G (rW G a v') H := by
  have hR : ∀ k, k < 5 → ∀ i, i < 10 → v (px i k) = v' (px i k) := fun k hk i hi => h _ (px_lt hi (by omega))
  have hB : ∀ k, k ≤ 7 → ∀ j, j < 60 → v (px (j / 6) (k + 3 * (j % 6))) = v' (px (j / 6) (k + 3 * (j % 6))) := fun k hk j hj => h _ (px_lt (by omega) (by omega))
  intro q x hx
  have hl : q < 9 := (List.getElem?_eq_some_iff.mp hx).1
  rcases (show q = 0 ∨ q = 1 ∨ q = 2 ∨ q = 3 ∨ q = 4 ∨ q = 5 ∨ q = 6 ∨ q = 7 ∨ q = 8 by omega) with rfl | rfl | rfl | rfl | rfl | rfl | rfl | rfl | rfl <;> cases hx
  · have h0 : va_at (gD G) vwCl (a 0, .inr (3, [.int (v 0), .int (v 1), .int (v 2), .int (v 5), .int (v 3), .int (v 4), .ref (a 1), .ref (a 2), .ref (a 3), .ref (a 4), .ref (a 5), .ref (a 6), .ref (a 7), .ref (a 8)])) H := hP 0 _ rfl
    rw [h 0 (by decide), h 1 (by decide), h 2 (by decide), h 3 (by decide), h 4 (by decide), h 5 (by decide)] at h0
    exact h0
  · exact (hP 1 _ rfl).trans (congrArg some (vp_cell_eq (hR 0 (by decide))))
  · exact (hP 2 _ rfl).trans (congrArg some (vp_cell_eq (hR 1 (by decide))))
  · exact (hP 3 _ rfl).trans (congrArg some (vp_cell_eq (hR 2 (by decide))))
  · exact (hP 4 _ rfl).trans (congrArg some (vp_cell_eq (hR 3 (by decide))))
  · exact (hP 5 _ rfl).trans (congrArg some (vp_cell_eq (hR 4 (by decide))))
  · exact (hP 6 _ rfl).trans (congrArg some (vp_cell_eq (hB 5 (by decide))))
  · exact (hP 7 _ rfl).trans (congrArg some (vp_cell_eq (hB 6 (by decide))))
  · exact (hP 8 _ rfl).trans (congrArg some (vp_cell_eq (hB 7 (by decide))))
theorem rB_atfrt (v : Nat → Int32) (r b : Nat) (hb : b < 6) : (fun j => v (px (j / 6) (5 + 3 * (j % 6)))) (6 * r + b) = frt v r b := by
  show v (px ((6 * r + b) / 6) (5 + 3 * ((6 * r + b) % 6))) = v (px r (5 + 3 * b))
  rw [show (6 * r + b) / 6 = r by omega, show (6 * r + b) % 6 = b by omega]
theorem rB_atbck (v : Nat → Int32) (r b : Nat) (hb : b < 6) : (fun j => v (px (j / 6) (6 + 3 * (j % 6)))) (6 * r + b) = bck v r b := by
  show v (px ((6 * r + b) / 6) (6 + 3 * ((6 * r + b) % 6))) = v (px r (6 + 3 * b))
  rw [show (6 * r + b) / 6 = r by omega, show (6 * r + b) % 6 = b by omega]
theorem rB_atccn (v : Nat → Int32) (r b : Nat) (hb : b < 6) : (fun j => v (px (j / 6) (7 + 3 * (j % 6)))) (6 * r + b) = ccn v r b := by
  show v (px ((6 * r + b) / 6) (7 + 3 * ((6 * r + b) % 6))) = v (px r (7 + 3 * b))
  rw [show (6 * r + b) / 6 = r by omega, show (6 * r + b) % 6 = b by omega]
/-- a switch over a number -/
theorem sw_of (x : Int32) (n : Nat) (hn : n < 2 ^ 31 := by decide) : (∃ k : Nat, k ≤ n ∧ x = nI k) ∨ (x.toInt < 0 ∨ (n : Int) < x.toInt) := by
  by_cases h0 : x.toInt < 0
  · exact Or.inr (Or.inl h0)
  · by_cases h1 : (n : Int) < x.toInt
    · exact Or.inr (Or.inr h1)
    · refine Or.inl ⟨x.toInt.toNat, by omega, ?_⟩
      apply Int32.toInt_inj.mp
      rw [nI_toInt (by omega)]
      omega
section NROWS
variable {p : Program} {l : Launch} {e : Env} {R : Room} {s : State} {m : MethodId} {args : Array Value} {below : List Frame} {meth : Method} {c : Code} {H : Heap} {locs : List Loc} {cells slots : Nat} {Q : State → Prop}
variable {cc : ByteArray} {pc : Nat} {ls : Array Slot} {rest : List Value} {D : va_G} {cl : List vw_C} {A : Nat → Prop} {a : Nat} {tys : List (ClassId × FieldType)} {ws : va_W} {H0 : Heap}
theorem va_ialdN {v : Int32} (hexec : p.tables.exec = Jvm.exec) (hb : c.code = cc) (hK : va_K D cl tys s) (hP : va_P D cl ws H) (q0 t0 : Nat) {cA : ClassId} {n j : Nat} {f : Nat → Int32} (ha : ws[q0]? = some (a, .inl (cA, n, .inl f))) (ht : tys[t0]? = some (cA, .int)) {i : Int32} (hi : i = nI j) (hj : j < n) (hn : n < 2 ^ 31) (hv : f j = v) (hdg : decode cc pc = .ok (.iaload, 1))
    (kk : W p l e R s m args below meth c H locs cells slots Q (F0 m (pc + 1) ls (.int v :: rest))) : W p l e R s m args below meth c H locs cells slots Q (F0 m pc ls (.int i :: .ref a :: rest)) := by
  subst hi
  have e1 : (nI j).toNatClampNeg = j := nI_clamp (Nat.lt_trans hj hn)
  refine va_iald hexec hb hK hP q0 t0 ha ht (vp_in_nI hj hn) hdg ?_
  rw [e1, hv]
  exact kk
theorem va_zldN {v : Int32} (hexec : p.tables.exec = Jvm.exec) (hb : c.code = cc) (hK : va_K D cl tys s) (hP : va_P D cl ws H) (q0 t0 : Nat) {cA : ClassId} {n j : Nat} {f : Nat → Int32} (ha : ws[q0]? = some (a, .inl (cA, n, .inl f))) (ht : tys[t0]? = some (cA, .boolean)) {i : Int32} (hi : i = nI j) (hj : j < n) (hn : n < 2 ^ 31) (hv : f j = v) (hdg : decode cc pc = .ok (.baload, 1))
    (kk : W p l e R s m args below meth c H locs cells slots Q (F0 m (pc + 1) ls (.int v :: rest))) : W p l e R s m args below meth c H locs cells slots Q (F0 m pc ls (.int i :: .ref a :: rest)) := by
  subst hi
  have e1 : (nI j).toNatClampNeg = j := nI_clamp (Nat.lt_trans hj hn)
  refine va_zald hexec hb hK hP q0 t0 ha ht (vp_in_nI hj hn) hdg ?_
  rw [e1, hv]
  exact kk
theorem va_iastN {x : Int32} (hexec : p.tables.exec = Jvm.exec) (hb : c.code = cc) (hK : va_K D cl tys s) (hP : va_P D cl ws H) (hD : va_D A ws) (hS : va_S A H0 H locs) (q0 t0 : Nat) {cA : ClassId} {n j : Nat} {f : Nat → Int32} (ha : ws[q0]? = some (a, .inl (cA, n, .inl f))) (ht : tys[t0]? = some (cA, .int)) {i : Int32} (hi : i = nI j) (hj : j < n) (hn : n < 2 ^ 31) (hdg : decode cc pc = .ok (.iastore, 1))
    (kk : ∀ (H1 : Heap) (locs1 : List Loc), va_P D cl (ws.set q0 (a, .inl (cA, n, .inl (upd f j x)))) H1 → va_D A (ws.set q0 (a, .inl (cA, n, .inl (upd f j x)))) → va_S A H0 H1 locs1 → W p l e R s m args below meth c H1 locs1 cells slots Q (F0 m (pc + 1) ls rest)) : W p l e R s m args below meth c H locs cells slots Q (F0 m pc ls (.int x :: .int i :: .ref a :: rest)) := by
  subst hi
  have e1 : (nI j).toNatClampNeg = j := nI_clamp (Nat.lt_trans hj hn)
  refine va_iast hexec hb hK hP hD hS q0 t0 ha ht (vp_in_nI hj hn) hdg ?_
  rw [e1]
  exact kk
end NROWS
theorem seg_P {G : GG} {H : Heap} {segs : List va_W} (i : Nat) {w : va_W} (hP : gP G segs.flatten H) (hi : segs[i]? = some w) : gP G w H := va_P_iff.mpr fun q hq => va_P_iff.mp hP q (List.mem_flatten.mpr ⟨w, List.mem_of_getElem? hi, hq⟩)
theorem placeN (k j : Nat) : nI k * 6 + nI j = nI (6 * k + j) := by
  rw [show (6 : Int32) = nI 6 from rfl, pk_mul, nI_add, Nat.mul_comm]
/-! what a tick leaves -/
def KP (j : Nat) : Prop := j = 2 ∨ j = 5 ∨ ∃ r k, k < 23 ∧ k ≠ 2 ∧ k ≠ 3 ∧ j = px r k
theorem KP_px {j : Nat} (h : KP j) (r k : Nat) (hk : k = 2 ∨ k = 3) : j ≠ px r k := by
  rcases h with rfl | rfl | ⟨r', k', h1, h2, h3, rfl⟩
  · exact Ne.symm (px_ne6 (by decide))
  · exact Ne.symm (px_ne6 (by decide))
  · exact px_ne h1 (by omega) (Or.inr (by omega))
theorem KP_lo {j : Nat} (h : KP j) (i : Nat) (hi : i = 0 ∨ i = 1 ∨ i = 3 ∨ i = 4) : j ≠ i := by
  rcases h with rfl | rfl | ⟨r', k', h1, h2, h3, rfl⟩
  · omega
  · omega
  · exact px_ne6 (by omega)
theorem upd_o {f : Nat → Int32} {i j : Nat} {x : Int32} (h : j ≠ i) : upd f i x j = f j := by simp [upd, h]
theorem upd_s {f : Nat → Int32} {i : Nat} {x : Int32} : upd f i x i = x := by simp [upd]
theorem wearF_kp {j : Nat} (h : KP j) (r : Nat) (v : Nat → Int32) : wearF r v j = v j := by
  simp only [wearF]
  split <;> simp [upd_o (KP_px h r 3 (by omega)), upd_o (KP_lo h 1 (by omega))]
theorem moveF_kp {j : Nat} (h : KP j) (r : Nat) (v : Nat → Int32) : moveF r v j = v j := by
  simp only [moveF]
  split <;> simp [wearF_kp h, upd_o (KP_px h r 2 (by omega)), upd_o (KP_lo h 4 (by omega)), upd_o (KP_lo h 0 (by omega))]
theorem waitF_kp {j : Nat} (h : KP j) (r : Nat) (v : Nat → Int32) : waitF r v j = v j := by
  simp only [waitF]
  split
  · rw [moveF_kp h, upd_o (KP_px h r 2 (by omega))]
  · rw [upd_o (KP_px h r 2 (by omega))]
theorem stepF_kp {j : Nat} (h : KP j) (w : Int32) (r : Nat) (v : Nat → Int32) : stepF w r v j = v j := by
  unfold stepF
  split
  · exact waitF_kp h r v
  · exact upd_o (KP_px h r 2 (by omega))
theorem stepN_kp {j : Nat} (h : KP j) (w : Int32) (n : Nat) (v : Nat → Int32) : stepN w n v j = v j := by
  induction n with
  | zero => rfl
  | succ n ih => exact (stepF_kp h w n _).trans ih
theorem tickW_kp {j : Nat} (h : KP j) (w : Int32) (v : Nat → Int32) : tickW w v j = v j := (stepN_kp h w 10 _).trans (upd_o (KP_lo h 3 (by omega)))
theorem RI_of {v v' : Nat → Int32} (h : RI v) (hk : ∀ j, KP j → v' j = v j) : RI v' := by
  have e : ∀ r, v' (px r 4) = v (px r 4) := fun r => hk _ (Or.inr (Or.inr ⟨r, 4, by decide, by decide, by decide, rfl⟩))
  refine ⟨fun r hr => ?_, ?_⟩
  · have := h.1 r hr
    unfold cnt at this ⊢
    rw [e r]
    exact this
  · rw [hk 5 (Or.inr (Or.inl rfl))]
    exact h.2
theorem tick_RI {v : Nat → Int32} (h : RI v) : RI (tick v) := RI_of h fun j hj => tickW_kp hj _ v
theorem tickN_RI {v : Nat → Int32} (h : RI v) (n : Nat) : RI (tickN n v) := by
  induction n with
  | zero => exact h
  | succ n ih => exact tick_RI ih
theorem stlV_tickN (n : Nat) (v : Nat → Int32) : stlV n v = tickN (stlC n v) v := by
  have comm : ∀ k u, tickN k (tick u) = tick (tickN k u) := by
    intro k
    induction k with
    | zero => intro u; rfl
    | succ k ih => intro u; exact congrArg tick (ih u)
  induction n generalizing v with
  | zero => rfl
  | succ n ih =>
    simp only [stlV, stlC]
    split
    · rfl
    · rw [ih, comm]; rfl
theorem stlC_le (n : Nat) (v : Nat → Int32) : stlC n v ≤ n := by
  induction n generalizing v with
  | zero => exact Nat.le_refl _
  | succ n ih =>
    simp only [stlC]
    split
    · exact Nat.zero_le _
    · exact Nat.succ_le_succ (ih _)
/-! the reference's cells -/
abbrev mW (G : GG) (a : Nat → Nat) (st kp hi sl sv pd td : Nat → Int32) (rc pl pt rt bn : Int32) : va_W := [(a 0, .inr (5, [.ref (a 1), .ref (a 2), .ref (a 3), .int rc, .ref (a 4), .ref (a 5), .ref (a 6), .int pl, .int pt, .int rt, .ref (a 7), .int bn])), (a 1, .inl (gI G, 236, .inl st)), (a 2, .inl (gI G, 236, .inl kp)), (a 3, .inl (gI G, 1416, .inl hi)), (a 4, .inl (gI G, 472, .inl sl)), (a 5, .inl (gI G, 2, .inl sv)), (a 6, .inl (gI G, 64, .inl pd)), (a 7, .inl (gI G, 18, .inl td))]
theorem ofbN (b w : Nat) : (5 : Int32) + 3 * nI b + nI w = nI (5 + 3 * b + w) := by
  rw [show (3 : Int32) = nI 3 from rfl, show (5 : Int32) = nI 5 from rfl, pk_mul, nI_add, nI_add]
theorem ofb_0 (v : Nat → Int32) (r b : Nat) : v (px r (5 + 3 * b + 0)) = frt v r b := rfl
theorem ofb_1 (v : Nat → Int32) (r b : Nat) : v (px r (5 + 3 * b + 1)) = bck v r b := by unfold bck; rw [show 5 + 3 * b + 1 = 6 + 3 * b by omega]
theorem ofb_2 (v : Nat → Int32) (r b : Nat) : v (px r (5 + 3 * b + 2)) = ccn v r b := by unfold ccn; rw [show 5 + 3 * b + 2 = 7 + 3 * b by omega]
theorem i32_ext {x y : Int32} (h : ∀ i, i < 32 → x.toBitVec.getLsbD i = y.toBitVec.getLsbD i) : x = y := by
  apply Int32.toBitVec_inj.mp
  exact BitVec.eq_of_getLsbD_eq h
theorem i32_and (x y : Int32) (i : Nat) : (x &&& y).toBitVec.getLsbD i = (x.toBitVec.getLsbD i && y.toBitVec.getLsbD i) := by
  rw [Int32.toBitVec_and, BitVec.getLsbD_and]
theorem i32_or (x y : Int32) (i : Nat) : (x ||| y).toBitVec.getLsbD i = (x.toBitVec.getLsbD i || y.toBitVec.getLsbD i) := by
  rw [Int32.toBitVec_or, BitVec.getLsbD_or]
theorem i32_xor (x y : Int32) (i : Nat) : (x ^^^ y).toBitVec.getLsbD i = (x.toBitVec.getLsbD i ^^ y.toBitVec.getLsbD i) := by
  rw [Int32.toBitVec_xor, BitVec.getLsbD_xor]
theorem i32_m1 (i : Nat) (hi : i < 32) : ((-1 : Int32)).toBitVec.getLsbD i = true := by
  rw [show ((-1 : Int32)).toBitVec = BitVec.allOnes 32 from rfl, BitVec.getLsbD_allOnes]
  simpa using hi
theorem i32_0 (i : Nat) : ((0 : Int32)).toBitVec.getLsbD i = false := by
  rw [show ((0 : Int32)).toBitVec = 0#32 from rfl, BitVec.getLsbD_zero]
theorem and_nt (x y : Int32) : x &&& (y ^^^ (-1)) = 0 ↔ y &&& x = x := by
  constructor
  · intro h
    refine i32_ext fun i hi => ?_
    have h1 := congrArg (fun z : Int32 => z.toBitVec.getLsbD i) h
    simp only [i32_and, i32_xor, i32_m1 i hi, i32_0] at h1
    rw [i32_and]
    revert h1
    cases x.toBitVec.getLsbD i <;> cases y.toBitVec.getLsbD i <;> decide
  · intro h
    refine i32_ext fun i hi => ?_
    have h1 := congrArg (fun z : Int32 => z.toBitVec.getLsbD i) h
    simp only [i32_and] at h1
    rw [i32_and, i32_xor, i32_m1 i hi, i32_0]
    revert h1
    cases x.toBitVec.getLsbD i <;> cases y.toBitVec.getLsbD i <;> decide
theorem and_cm (x y : Int32) : x &&& y = y &&& x := i32_ext fun i _ => by rw [i32_and, i32_and, Bool.and_comm]
theorem cloM (v : Nat → Int32) (r b : Nat) : clo v r b = (decide (frt v r b &&& (onS v ^^^ (-1)) = 0) && decide (bck v r b &&& onS v = 0)) := by
  unfold clo
  rw [and_cm (bck v r b), decide_eq_decide.mpr (and_nt (frt v r b) (onS v))]
/-! the reference's way to move a relay, and its tick -/
theorem upd_cm {f : Nat → Int32} {i j : Nat} {x y : Int32} (h : i ≠ j) : upd (upd f i x) j y = upd (upd f j y) i x := by
  funext k
  simp only [upd]
  by_cases h1 : k = j
  · subst h1
    simp [Ne.symm h]
  · simp [h1]
theorem upd_same {f : Nat → Int32} {i : Nat} : upd f i (f i) = f := by
  funext k
  simp only [upd]
  split
  · subst_vars; rfl
  · rfl
theorem upd_uu {f : Nat → Int32} {i : Nat} {x y : Int32} : upd (upd f i x) i y = upd f i y := by
  funext k
  simp only [upd]
  split <;> rfl
def mmvF (r : Nat) (v : Nat → Int32) : Nat → Int32 :=
  let v1 := upd v 0 (v 0 ^^^ shl 1 (nI r))
  let v2 := upd v1 4 (v1 4 + 1)
  let v3 := upd v2 (px r 2) 0
  if hs (v3 0) (nI r) = true then
    let v4 := upd v3 (px r 3) (v3 (px r 3) + 1)
    upd v4 1 (v4 1 ||| (if 0 < v4 5 ∧ v4 5 ≤ v4 (px r 3) then shl 1 (nI r) else 0))
  else v3
theorem or_z (x : Int32) : x ||| 0 = x := i32_ext fun i _ => by rw [i32_or, i32_0, Bool.or_false]
theorem pos_of {x : Int32} (h : 0 ≤ x) (h2 : x ≠ 0) : 0 < x := by
  rw [Int32.lt_iff_toInt_lt]
  rw [Int32.le_iff_toInt_le] at h
  have h3 : x.toInt ≠ (0 : Int32).toInt := fun q => h2 (Int32.toInt_inj.mp q)
  omega
theorem pos_ne {x : Int32} (h : 0 < x) : x ≠ 0 := fun q => by rw [q] at h; exact absurd h (by decide)
theorem mmvF_eq (r : Nat) (v : Nat → Int32) (hL : 0 ≤ v 5) : mmvF r v = moveF r v := by
  have e3 : upd (upd (upd v 0 (v 0 ^^^ shl 1 (nI r))) 4 (v 4 + 1)) (px r 2) 0 = upd (upd (upd v (px r 2) 0) 4 (v 4 + 1)) 0 (v 0 ^^^ shl 1 (nI r)) := by
    rw [upd_cm (i := 4) (j := px r 2) (Ne.symm (px_ne6 (by decide))), upd_cm (i := 0) (j := px r 2) (Ne.symm (px_ne6 (by decide))), upd_cm (i := 0) (j := 4) (by decide)]
  have h4 : (4 : Nat) ≠ px r 2 := Ne.symm (px_ne6 (by decide))
  have h0 : (0 : Nat) ≠ px r 2 := Ne.symm (px_ne6 (by decide))
  have h5 : (5 : Nat) ≠ px r 2 := Ne.symm (px_ne6 (by decide))
  have hu : upd (upd (upd v (px r 2) 0) 4 (v 4 + 1)) 0 (v 0 ^^^ shl 1 (nI r)) 5 = v 5 := by rw [upd_o (by decide), upd_o (by decide), upd_o h5]
  have hu0 : upd (upd (upd v (px r 2) 0) 4 (v 4 + 1)) 0 (v 0 ^^^ shl 1 (nI r)) 0 = upd v 0 (v 0 ^^^ shl 1 (nI r)) 0 := by rw [upd_s, upd_s]
  unfold mmvF moveF wearF
  simp only [upd_o (show (4 : Nat) ≠ 0 by decide), upd_o h4, upd_o h0, upd_o (show (0 : Nat) ≠ 4 by decide), e3]
  generalize upd (upd (upd v (px r 2) 0) 4 (v 4 + 1)) 0 (v 0 ^^^ shl 1 (nI r)) = u at hu hu0 ⊢
  rw [← hu0]
  have e5 : ∀ x, upd u (px r 3) x 5 = u 5 := fun x => upd_o (Ne.symm (px_ne6 (by decide)))
  split
  · simp only [e5, hu]
    by_cases hc : 0 < v 5 ∧ v 5 ≤ upd u (px r 3) (u (px r 3) + 1) (px r 3)
    · have hq : v 5 ≠ 0 ∧ v 5 ≤ upd u (px r 3) (u (px r 3) + 1) (px r 3) := ⟨pos_ne hc.1, hc.2⟩
      rw [if_pos hc, if_pos hq]
    · have hq : ¬ (v 5 ≠ 0 ∧ v 5 ≤ upd u (px r 3) (u (px r 3) + 1) (px r 3)) := fun q => hc ⟨pos_of hL q.1, q.2⟩
      rw [if_neg hc, if_neg hq, or_z, upd_same]
  · rfl
theorem wearF_u3 (r : Nat) (v : Nat → Int32) (x : Int32) : wearF r (upd v 3 x) = upd (wearF r v) 3 x := by
  have h3 : (3 : Nat) ≠ px r 3 := Ne.symm (px_ne6 (by decide))
  unfold wearF
  simp only [upd_o (Ne.symm h3), upd_cm (f := v) (i := 3) (j := px r 3) h3, upd_o (show (5 : Nat) ≠ 3 by decide), upd_o (show (1 : Nat) ≠ 3 by decide)]
  split
  · exact upd_cm (by decide)
  · rfl
theorem moveF_u3 (r : Nat) (v : Nat → Int32) (x : Int32) : moveF r (upd v 3 x) = upd (moveF r v) 3 x := by
  have h3 : (3 : Nat) ≠ px r 2 := Ne.symm (px_ne6 (by decide))
  unfold moveF
  simp only [upd_cm (f := v) (i := 3) (j := px r 2) h3]
  generalize upd v (px r 2) 0 = u
  simp only [upd_o (show (4 : Nat) ≠ 3 by decide), upd_cm (f := u) (i := 3) (j := 4) (by decide)]
  generalize upd u 4 (u 4 + 1) = w
  simp only [upd_o (show (0 : Nat) ≠ 3 by decide), upd_cm (f := w) (i := 3) (j := 0) (by decide)]
  generalize upd w 0 (w 0 ^^^ shl 1 (nI r)) = z
  split
  · exact wearF_u3 r z x
  · rfl
theorem tmF_u3 (r : Nat) (v : Nat → Int32) (x : Int32) : tmF r (upd v 3 x) = tmF r v := by
  have h3 : ∀ k, (3 : Nat) ≠ px r k := fun k => Ne.symm (px_ne6 (by decide))
  unfold tmF
  simp only [upd_o (show (0 : Nat) ≠ 3 by decide), upd_o (Ne.symm (h3 0)), upd_o (Ne.symm (h3 1))]
theorem waitF_u3 (r : Nat) (v : Nat → Int32) (x : Int32) : waitF r (upd v 3 x) = upd (waitF r v) 3 x := by
  have h3 : ∀ k, (3 : Nat) ≠ px r k := fun k => Ne.symm (px_ne6 (by decide))
  unfold waitF
  simp only [upd_o (Ne.symm (h3 2)), upd_cm (f := v) (i := 3) (j := px r 2) (h3 2)]
  generalize upd v (px r 2) (v (px r 2) + 1) = u
  simp only [tmF_u3, upd_o (Ne.symm (h3 2))]
  split
  · exact moveF_u3 r u x
  · rfl
theorem stepF_u3 (w : Int32) (r : Nat) (v : Nat → Int32) (x : Int32) : stepF w r (upd v 3 x) = upd (stepF w r v) 3 x := by
  unfold stepF
  split
  · exact waitF_u3 r v x
  · exact upd_cm (Ne.symm (px_ne6 (by decide)))
theorem stepN_u3 (w : Int32) (n : Nat) (v : Nat → Int32) (x : Int32) : stepN w n (upd v 3 x) = upd (stepN w n v) 3 x := by
  induction n with
  | zero => rfl
  | succ n ih => simp only [stepN]; rw [ih, stepF_u3]
theorem wearF_3 (r : Nat) (v : Nat → Int32) : wearF r v 3 = v 3 := by
  have h3 : ∀ k, (3 : Nat) ≠ px r k := fun k => Ne.symm (px_ne6 (by decide))
  simp only [wearF]
  split
  · rw [upd_o (by decide), upd_o (h3 3)]
  · rw [upd_o (h3 3)]
theorem moveF_3 (r : Nat) (v : Nat → Int32) : moveF r v 3 = v 3 := by
  have h3 : ∀ k, (3 : Nat) ≠ px r k := fun k => Ne.symm (px_ne6 (by decide))
  simp only [moveF]
  split
  · rw [wearF_3, upd_o (by decide), upd_o (by decide), upd_o (h3 2)]
  · rw [upd_o (by decide), upd_o (by decide), upd_o (h3 2)]
theorem stepN_3 (w : Int32) (n : Nat) (v : Nat → Int32) : stepN w n v 3 = v 3 := by
  have h3 : ∀ r k, (3 : Nat) ≠ px r k := fun r k => Ne.symm (px_ne6 (by decide))
  induction n with
  | zero => rfl
  | succ n ih =>
    simp only [stepN]
    rw [← ih]
    unfold stepF
    split
    · simp only [waitF]
      split
      · rw [moveF_3, upd_o (h3 _ _)]
      · rw [upd_o (h3 _ _)]
    · rw [upd_o (h3 _ _)]
theorem tickM (v : Nat → Int32) : upd (stepN (wan v) 10 v) 3 (stepN (wan v) 10 v 3 + 1) = tick v := by
  unfold tick tickW
  rw [stepN_u3, stepN_3]
theorem tickN_sh (k : Nat) (u : Nat → Int32) : tickN k (tick u) = tick (tickN k u) := by
  induction k with
  | zero => rfl
  | succ k ih => exact congrArg tick ih
theorem stl_stop {v : Nat → Int32} {i n : Nat} (h : ∀ j, j < i → wan (tickN j v) ≠ 0) (hi : i ≤ n) (he : i = n ∨ wan (tickN i v) = 0) : stlC n v = i ∧ stlV n v = tickN i v := by
  have e : stlC n v = i := by
    induction n generalizing v i with
    | zero => simp only [stlC]; omega
    | succ n ih =>
      simp only [stlC]
      cases i with
      | zero =>
        rcases he with he | he
        · omega
        · rw [if_pos (show wan v = 0 from he)]
      | succ i =>
        rw [if_neg (show ¬ wan v = 0 from h 0 (by omega))]
        have := ih (v := tick v) (i := i) (fun j hj => by rw [tickN_sh]; exact h (j + 1) (by omega)) (by omega) (by
          rcases he with he | he
          · exact Or.inl (by omega)
          · exact Or.inr (by rw [tickN_sh]; exact he))
        omega
  exact ⟨e, by rw [stlV_tickN, e]⟩
theorem cpz0 : (0 : Int32).toNatClampNeg = 0 := by decide
theorem cpz10 : (10 : Int32).toNatClampNeg = 10 := by decide
theorem cpz60 : (60 : Int32).toNatClampNeg = 60 := by decide
theorem cpy_in0 (f g : Nat → Int32) (n : Nat) : ∀ i, i < n → va_cpy f g 0 0 n i = f i := fun i hi => by simp [va_cpy, hi]
set_option maxRecDepth 20000 in
theorem copy_end {G : GG} {a b : Nat → Nat} {u v : Nat → Int32} {H : Heap} (h : gP G [(a 0, .inr (3, [.int (u 0), .int (u 1), .int (u 2), .int (u 5), .int (u 3), .int (u 4), .ref (a 1), .ref (a 2), .ref (a 3), .ref (a 4), .ref (a 5), .ref (a 6), .ref (a 7), .ref (a 8)])), (a 1, .inl (gI G, 10, .inl (va_cpy (fun r => u (px r 0)) (fun r => v (px r 0)) 0 0 10))), (a 2, .inl (gI G, 10, .inl (va_cpy (fun r => u (px r 1)) (fun r => v (px r 1)) 0 0 10))), (a 3, .inl (gI G, 10, .inl (va_cpy (fun r => u (px r 2)) (fun r => v (px r 2)) 0 0 10))), (a 4, .inl (gI G, 10, .inl (va_cpy (fun r => u (px r 3)) (fun r => v (px r 3)) 0 0 10))), (a 5, .inl (gI G, 10, .inl (va_cpy (fun r => u (px r 4)) (fun r => v (px r 4)) 0 0 10))), (a 6, .inl (gI G, 60, .inl (va_cpy (fun j => u (px (j / 6) (5 + 3 * (j % 6)))) (fun j => v (px (j / 6) (5 + 3 * (j % 6)))) 0 0 60))), (a 7, .inl (gI G, 60, .inl (va_cpy (fun j => u (px (j / 6) (6 + 3 * (j % 6)))) (fun j => v (px (j / 6) (6 + 3 * (j % 6)))) 0 0 60))), (a 8, .inl (gI G, 60, .inl (va_cpy (fun j => u (px (j / 6) (7 + 3 * (j % 6)))) (fun j => v (px (j / 6) (7 + 3 * (j % 6)))) 0 0 60))), (b 0, .inr (3, [.int (u 0), .int (u 1), .int (u 2), .int (u 5), .int (u 3), .int (u 4), .ref (b 1), .ref (b 2), .ref (b 3), .ref (b 4), .ref (b 5), .ref (b 6), .ref (b 7), .ref (b 8)])), (b 1, .inl (gI G, 10, .inl (fun r => u (px r 0)))), (b 2, .inl (gI G, 10, .inl (fun r => u (px r 1)))), (b 3, .inl (gI G, 10, .inl (fun r => u (px r 2)))), (b 4, .inl (gI G, 10, .inl (fun r => u (px r 3)))), (b 5, .inl (gI G, 10, .inl (fun r => u (px r 4)))), (b 6, .inl (gI G, 60, .inl (fun j => u (px (j / 6) (5 + 3 * (j % 6)))))), (b 7, .inl (gI G, 60, .inl (fun j => u (px (j / 6) (6 + 3 * (j % 6)))))), (b 8, .inl (gI G, 60, .inl (fun j => u (px (j / 6) (7 + 3 * (j % 6))))))] H) : gP G (List.flatten [rW G a u, rW G b u]) H := by
  intro q x hx
  have hl : q < 18 := (List.getElem?_eq_some_iff.mp hx).1
  rcases (show q = 0 ∨ q = 1 ∨ q = 2 ∨ q = 3 ∨ q = 4 ∨ q = 5 ∨ q = 6 ∨ q = 7 ∨ q = 8 ∨ q = 9 ∨ q = 10 ∨ q = 11 ∨ q = 12 ∨ q = 13 ∨ q = 14 ∨ q = 15 ∨ q = 16 ∨ q = 17 by omega) with rfl | rfl | rfl | rfl | rfl | rfl | rfl | rfl | rfl | rfl | rfl | rfl | rfl | rfl | rfl | rfl | rfl | rfl <;> cases hx
  · exact h 0 _ rfl
  · exact (h 1 _ rfl).trans (congrArg some (vp_cell_eq (cpy_in0 _ _ _)))
  · exact (h 2 _ rfl).trans (congrArg some (vp_cell_eq (cpy_in0 _ _ _)))
  · exact (h 3 _ rfl).trans (congrArg some (vp_cell_eq (cpy_in0 _ _ _)))
  · exact (h 4 _ rfl).trans (congrArg some (vp_cell_eq (cpy_in0 _ _ _)))
  · exact (h 5 _ rfl).trans (congrArg some (vp_cell_eq (cpy_in0 _ _ _)))
  · exact (h 6 _ rfl).trans (congrArg some (vp_cell_eq (cpy_in0 _ _ _)))
  · exact (h 7 _ rfl).trans (congrArg some (vp_cell_eq (cpy_in0 _ _ _)))
  · exact (h 8 _ rfl).trans (congrArg some (vp_cell_eq (cpy_in0 _ _ _)))
  · exact h 9 _ rfl
  · exact h 10 _ rfl
  · exact h 11 _ rfl
  · exact h 12 _ rfl
  · exact h 13 _ rfl
  · exact h 14 _ rfl
  · exact h 15 _ rfl
  · exact h 16 _ rfl
  · exact h 17 _ rfl
theorem setl_cases (v : Nat → Int32) : (atRest v = true ∧ setlR v = nI (stlC 200 v) ∧ stlC 200 v ≤ 200) ∨ (atRest v = false ∧ setlR v = nI (stlC 200 v + 1000) ∧ stlC 200 v ≤ 200) := by
  have hle := stlC_le 200 v
  cases h : atRest v with
  | true => exact Or.inl ⟨rfl, by simp [setlR, h], hle⟩
  | false => exact Or.inr ⟨rfl, by simp only [setlR, h]; rw [← nI_add]; rfl, hle⟩
theorem upR_t {v : Nat → Int32} (h : ¬ setlR v > 200) : Value.int (stlV 200 v 0) = Value.int (upR v) := by
  rcases setl_cases v with ⟨h1, h2, h3⟩ | ⟨h1, h2, h3⟩
  · simp [upR, h1]
  · rw [h2] at h
    exact absurd (show nI 200 < nI (stlC 200 v + 1000) from nI_lt (by omega) (by omega)) h
theorem upR_f {v : Nat → Int32} (h : setlR v > 200) : Value.int (-6) = Value.int (upR v) := by
  rcases setl_cases v with ⟨h1, h2, h3⟩ | ⟨h1, h2, h3⟩
  · rw [h2] at h
    exact absurd h (show ¬ nI 200 < nI (stlC 200 v) from nI_nlt h3 (by decide))
  · simp [upR, h1]
theorem rmB_lt {v : Nat → Int32} {k : Nat} (hI : RI v) (hk : k < 10) (h : rmB k v = true) : cnt v k < 6 := by
  have h1 := of_decide_eq_true h
  obtain ⟨h2, h3⟩ := hI.1 k hk
  rw [h2] at h1
  exact (nI_ltI (by omega) (by decide)).mp (show nI (cnt v k) < nI 6 from h1)
theorem sub1 {n : Nat} (h : 0 < n) : nI n - 1 = nI (n - 1) := by
  obtain ⟨m, rfl⟩ : ∃ m, n = m + 1 := ⟨n - 1, by omega⟩
  exact nI_pred m
theorem subneg {n : Nat} (hn : n ≤ 6) (h : nI n - 1 < 0) : ¬ 0 < n := by
  intro h0
  rw [sub1 h0] at h
  exact nI_pos (by omega) h
theorem subpos {n : Nat} (hn : n ≤ 6) (h : ¬ nI n - 1 < 0) : 0 < n := by
  rcases Nat.eq_zero_or_pos n with h0 | h0
  · subst h0
    exact absurd (by decide) h
  · exact h0
theorem inr_f1 {x lo hi : Int32} (h : x < lo) : (0 : Int32) = b2i (inr x lo hi) := by
  have h1 : inr x lo hi = false := by
    unfold inr
    rw [decide_eq_false (Int32.not_le.mpr h)]
    rfl
  rw [h1]; rfl
theorem inr_f2 {x lo hi : Int32} (h : x > hi) : (0 : Int32) = b2i (inr x lo hi) := by
  have h1 : inr x lo hi = false := by
    unfold inr
    rw [decide_eq_false (p := x ≤ hi) (Int32.not_le.mpr h), Bool.and_false]
  rw [h1]; rfl
theorem inr_t {x lo hi : Int32} (h : ¬ x < lo) (h2 : ¬ x > hi) : (1 : Int32) = b2i (inr x lo hi) := by
  have h1 : inr x lo hi = true := by
    unfold inr
    rw [decide_eq_true (Int32.not_lt.mp h), decide_eq_true (p := x ≤ hi) (Int32.not_lt.mp h2)]
    rfl
  rw [h1]; rfl
/-! ends of the walks of ticks, by their branches -/
theorem tmF_t {r : Nat} {v : Nat → Int32} (h : hs (v 0) (nI r) = true) : tmF r v = v (px r 1) := if_pos h
theorem tmF_f {r : Nat} {v : Nat → Int32} (h : hs (v 0) (nI r) = false) : tmF r v = v (px r 0) := if_neg (Bool.eq_false_iff.mp h)
abbrev w1 (r : Nat) (v : Nat → Int32) : Nat → Int32 := upd v (px r 2) (v (px r 2) + 1)
theorem wait_n {r : Nat} {v : Nat → Int32} {t : Int32} (ht : tmF r (w1 r v) = t) (h : w1 r v (px r 2) < t) : waitF r v = w1 r v := if_neg (fun q => Int32.not_lt.mpr q (by rw [ht]; exact h))
theorem wait_m {r : Nat} {v : Nat → Int32} {t : Int32} (ht : tmF r (w1 r v) = t) (h : ¬ w1 r v (px r 2) < t) : waitF r v = moveF r (w1 r v) := if_pos (by rw [ht]; exact Int32.not_lt.mp h)
abbrev m1 (r : Nat) (v : Nat → Int32) : Nat → Int32 := upd (upd (upd v (px r 2) 0) 4 (upd v (px r 2) 0 4 + 1)) 0 (upd (upd v (px r 2) 0) 4 (upd v (px r 2) 0 4 + 1) 0 ^^^ shl 1 (nI r))
theorem move_t {r : Nat} {v : Nat → Int32} (h : hs (m1 r v 0) (nI r) = true) : moveF r v = wearF r (m1 r v) := if_pos h
theorem move_f {r : Nat} {v : Nat → Int32} (h : hs (m1 r v 0) (nI r) = false) : moveF r v = m1 r v := if_neg (Bool.eq_false_iff.mp h)
abbrev u1 (r : Nat) (v : Nat → Int32) : Nat → Int32 := upd v (px r 3) (v (px r 3) + 1)
theorem wear_0 {r : Nat} {v : Nat → Int32} (h : u1 r v 5 = 0) : wearF r v = u1 r v := if_neg (fun q => q.1 h)
theorem wear_n {r : Nat} {v : Nat → Int32} (h : u1 r v (px r 3) < u1 r v 5) : wearF r v = u1 r v := if_neg (fun q => Int32.not_lt.mpr q.2 h)
theorem wear_y {r : Nat} {v : Nat → Int32} (h : ¬ u1 r v 5 = 0) (h2 : ¬ u1 r v (px r 3) < u1 r v 5) : wearF r v = upd (u1 r v) 1 (u1 r v 1 ||| shl 1 (nI r)) := if_pos ⟨h, Int32.not_lt.mp h2⟩
abbrev n3 (r : Nat) (v : Nat → Int32) : Nat → Int32 := upd (upd (upd v 0 (v 0 ^^^ shl 1 (nI r))) 4 (upd v 0 (v 0 ^^^ shl 1 (nI r)) 4 + 1)) (px r 2) 0
abbrev n4 (r : Nat) (v : Nat → Int32) : Nat → Int32 := upd (n3 r v) (px r 3) (n3 r v (px r 3) + 1)
theorem mmv_f {r : Nat} {v : Nat → Int32} (h : hs (n3 r v 0) (nI r) = false) : mmvF r v = n3 r v := if_neg (Bool.eq_false_iff.mp h)
theorem mmv_y {r : Nat} {v : Nat → Int32} (h : hs (n3 r v 0) (nI r) = true) (h2 : ¬ n4 r v 5 ≤ 0) (h3 : ¬ n4 r v (px r 3) < n4 r v 5) : mmvF r v = upd (n4 r v) 1 (n4 r v 1 ||| shl 1 (nI r)) := (if_pos h).trans (congrArg (fun z => upd (n4 r v) 1 (n4 r v 1 ||| z)) (if_pos ⟨Int32.not_le.mp h2, Int32.not_lt.mp h3⟩))
theorem mmv_n {r : Nat} {v : Nat → Int32} (h : hs (n3 r v 0) (nI r) = true) (h2 : n4 r v 5 ≤ 0 ∨ n4 r v (px r 3) < n4 r v 5) : mmvF r v = upd (n4 r v) 1 (n4 r v 1 ||| 0) := (if_pos h).trans (congrArg (fun z => upd (n4 r v) 1 (n4 r v 1 ||| z)) (if_neg (fun q => by
  rcases h2 with h2 | h2
  · exact Int32.not_le.mpr q.1 h2
  · exact Int32.not_lt.mpr q.2 h2)))
theorem stp_0 {w : Int32} {i : Nat} {U : Nat → Int32} (h : hs w (nI i) = false) : upd U (px i 2) 0 = stepF w i U := (if_neg (Bool.eq_false_iff.mp h)).symm
theorem stp_w {w : Int32} {i : Nat} {U : Nat → Int32} (h : hs w (nI i) = true) : waitF i U = stepF w i U := (if_pos h).symm
theorem stp_n {w : Int32} {i : Nat} {U : Nat → Int32} {t : Int32} (h : hs w (nI i) = true) (ht : tmF i (w1 i U) = t) (h2 : w1 i U (px i 2) < t) : w1 i U = stepF w i U := (wait_n ht h2).symm.trans (stp_w h)
theorem stp_m {w : Int32} {i : Nat} {U : Nat → Int32} {t : Int32} (h : hs w (nI i) = true) (ht : tmF i (w1 i U) = t) (h2 : ¬ w1 i U (px i 2) < t) : moveF i (w1 i U) = stepF w i U := (wait_m ht h2).symm.trans (stp_w h)
theorem setl_a {v : Nat → Int32} {i : Nat} (h3 : ∀ j, j < i → wan (tickN j v) ≠ 0) (h1 : i ≤ 200) (h : wan (tickN i v) = 0) : some (Value.int (nI i)) = some (Value.int (setlR v)) := by
  have e := stl_stop h3 h1 (Or.inr h)
  have hr : atRest v = true := by unfold atRest; rw [e.2]; exact decide_eq_true h
  unfold setlR
  rw [if_pos hr, e.1]
theorem setl_b {v : Nat → Int32} {i : Nat} (h3 : ∀ j, j < i → wan (tickN j v) ≠ 0) (h1 : i ≤ 200) (h2 : 200 ≤ i) (h : ¬ wan (tickN i v) = 0) : some (Value.int 1200) = some (Value.int (setlR v)) := by
  have e := stl_stop h3 h1 (Or.inl (by omega))
  have hr : atRest v = false := by unfold atRest; rw [e.2]; exact decide_eq_false h
  unfold setlR
  rw [hr, e.1, if_neg (by decide), show i = 200 by omega]
  rfl
theorem upR_t' {v : Nat → Int32} (h : ¬ setlR v > 200) : some (Value.int (stlV 200 v 0)) = some (Value.int (upR v)) := congrArg some (upR_t h)
theorem upR_f' {v : Nat → Int32} (h : setlR v > 200) : some (Value.int (-6)) = some (Value.int (upR v)) := congrArg some (upR_f h)
