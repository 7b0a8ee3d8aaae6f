/-! PURE, of texts: what the reader does with a sign, what the pad does with a number -/
abbrev S4 : Type := Nat × Nat × (Nat → Int32)
def ctc (x : Int32) : Int32 := if inr x 65 74 = true then x - 65 else if inr x 97 102 = true then x - 97 + 10 else -1
def rk (x : Int32) : Nat := x.toNatClampNeg
def tkC (s : S4) (x : Int32) : Bool × S4 :=
  if x = 33 ∧ s.1 ≠ 5 then (true, 5, s.2.1, s.2.2)
  else if ctc x = -1 then (false, s)
  else (true, 6, s.2.1, addC s.2.1 (ctc x) (decide (s.1 = 5)) s.2.2)
def tkF (s : S4) (x : Int32) : Bool × S4 := tkC (s.1, s.2.1, addB s.2.1 s.2.2) x
def tkN (s : S4) (x : Int32) : Bool × S4 :=
  if x = 59 then (true, 0, s.2)
  else if x = 43 then (if rmB s.2.1 s.2.2 = true then (true, 4, s.2) else (false, s))
  else if rmC s.2.1 s.2.2 = true then tkC s x else (false, s)
def tkR (s : S4) (x : Int32) : Bool × S4 := if inr (ctc x) 0 9 = true then (true, 1, rk (ctc x), s.2.2) else (false, s)
def tkE (s : S4) (x : Int32) : Bool × S4 := if x = 61 then (true, 2, s.2.1, clrF s.2.1 s.2.2) else (false, s)
def tk (s : S4) (x : Int32) : Bool × S4 := match s.1 with
  | 0 => tkR s x
  | 1 => tkE s x
  | 2 => if x = 48 then (true, 3, s.2) else tkF s x
  | 3 => if x = 59 then (true, 0, s.2) else (false, s)
  | 4 => tkF s x
  | 5 => tkC s x
  | _ => tkN s x
/-- reading m more signs from place i on: what comes out, and how the reader and the room are then -/
def rdR (ch : Nat → Int32) : Nat → Nat → S4 → Int32
  | 0, i, s => if s.1 = 3 ∨ s.1 = 6 then -6 else nI i
  | m + 1, i, s => if (tk s (ch i)).1 = true then rdR ch m (i + 1) (tk s (ch i)).2 else nI i
def rdS (ch : Nat → Int32) : Nat → Nat → S4 → S4
  | 0, _, s => s
  | m + 1, i, s => if (tk s (ch i)).1 = true then rdS ch m (i + 1) (tk s (ch i)).2 else (tk s (ch i)).2
def OK4 (s : S4) : Prop := s.1 ≤ 6 ∧ s.2.1 < 10 ∧ RI s.2.2
theorem clrF_RI {v : Nat → Int32} (h : RI v) {k : Nat} (hk : k < 10) : RI (clrF k v) := by
  refine ⟨fun r hr => ?_, ?_⟩
  · by_cases e : r = k
    · subst e
      unfold cnt clrF
      rw [upd_s]
      exact ⟨rfl, by decide⟩
    · unfold cnt clrF
      rw [upd_o (px_ne (by decide) (by decide) (Or.inl e))]
      exact h.1 r hr
  · unfold clrF
    rw [upd_o (Ne.symm (px_ne6 (by decide)))]
    exact h.2
theorem RI_br {v : Nat → Int32} (h : RI v) {r k : Nat} (hk : 5 ≤ k ∧ k < 23) (x : Int32) : RI (upd v (px r k) x) := by
  refine ⟨fun j hj => ?_, ?_⟩
  · unfold cnt
    rw [upd_o (px_ne (by decide) (by omega) (Or.inr (by omega)))]
    exact h.1 j hj
  · rw [upd_o (Ne.symm (px_ne6 (by decide)))]
    exact h.2
theorem addB_RI {v : Nat → Int32} (h : RI v) {k : Nat} (hk : k < 10) : RI (addB k v) := by
  unfold addB
  split
  next hc =>
    obtain ⟨h2, h3⟩ := h.1 k hk
    have hc' : cnt v k < 6 := rmB_lt h hk (by unfold rmB; exact decide_eq_true hc)
    have h4 : RI (upd (upd (upd v (px k (5 + 3 * cnt v k)) 0) (px k (6 + 3 * cnt v k)) 0) (px k (7 + 3 * cnt v k)) 0) := RI_br (RI_br (RI_br h (by omega) _) (by omega) _) (by omega) _
    have e4 : (upd (upd (upd v (px k (5 + 3 * cnt v k)) 0) (px k (6 + 3 * cnt v k)) 0) (px k (7 + 3 * cnt v k)) 0) (px k 4) = nI (cnt v k) := by
      rw [upd_o (px_ne (by decide) (by omega) (Or.inr (by omega))), upd_o (px_ne (by decide) (by omega) (Or.inr (by omega))), upd_o (px_ne (by decide) (by omega) (Or.inr (by omega))), h2]
    generalize (upd (upd (upd v (px k (5 + 3 * cnt v k)) 0) (px k (6 + 3 * cnt v k)) 0) (px k (7 + 3 * cnt v k)) 0) = u at h4 e4 ⊢
    refine ⟨fun r hr => ?_, ?_⟩
    · by_cases e : r = k
      · subst e
        unfold cnt
        simp only [upd_s, e4, nI_1]
        rw [nI_clamp (by omega)]
        exact ⟨rfl, by omega⟩
      · unfold cnt
        simp only [upd_o (px_ne (r := r) (k := 4) (r' := k) (k' := 4) (by decide) (by decide) (Or.inl e))]
        exact h4.1 r hr
    · simp only [upd_o (Ne.symm (px_ne6 (r := k) (k := 4) (i := 5) (by decide)))]
      exact h4.2
  next => exact h
theorem addC_RI {v : Nat → Int32} (h : RI v) {k : Nat} (hk : k < 10) (c : Int32) (z : Bool) : RI (addC k c z v) := by
  unfold addC
  have h3 := (h.1 k hk).2
  split
  next hc =>
    refine RI_br (RI_br h ?_ _) (by omega) _
    cases z <;> simp <;> omega
  next => exact h
theorem ctc_rk {x : Int32} (h : inr (ctc x) 0 9 = true) : ctc x = nI (rk (ctc x)) ∧ rk (ctc x) < 10 := by
  generalize ctc x = y at h ⊢
  unfold inr at h
  simp only [Bool.and_eq_true, decide_eq_true_eq] at h
  obtain ⟨h1, h2⟩ := h
  obtain ⟨j, hj, rfl⟩ := nI_of2 (n := 9) (M := 9) (by decide) (Int32.not_lt.mpr h1) h2
  unfold rk
  rw [nI_clamp (by omega)]
  exact ⟨rfl, by omega⟩
theorem tkC_OK {s : S4} (h : OK4 s) (x : Int32) : OK4 (tkC s x).2 := by
  unfold tkC
  split
  · exact ⟨Nat.le_of_ble_eq_true rfl, h.2.1, h.2.2⟩
  · split
    · exact h
    · exact ⟨Nat.le_of_ble_eq_true rfl, h.2.1, addC_RI h.2.2 h.2.1 _ _⟩
theorem tkF_OK {s : S4} (h : OK4 s) (x : Int32) : OK4 (tkF s x).2 := tkC_OK (s := (s.1, s.2.1, addB s.2.1 s.2.2)) ⟨h.1, h.2.1, addB_RI h.2.2 h.2.1⟩ x
theorem tk_OK {s : S4} (h : OK4 s) (x : Int32) : OK4 (tk s x).2 := by
  unfold tk
  split
  · unfold tkR
    split
    next hc => exact ⟨Nat.le_of_ble_eq_true rfl, (ctc_rk hc).2, h.2.2⟩
    next => exact h
  · unfold tkE
    split
    · exact ⟨Nat.le_of_ble_eq_true rfl, h.2.1, clrF_RI h.2.2 h.2.1⟩
    · exact h
  · split
    · exact ⟨Nat.le_of_ble_eq_true rfl, h.2.1, h.2.2⟩
    · exact tkF_OK h x
  · split
    · exact ⟨Nat.le_of_ble_eq_true rfl, h.2.1, h.2.2⟩
    · exact h
  · exact tkF_OK h x
  · exact tkC_OK h x
  · unfold tkN
    split
    · exact ⟨Nat.le_of_ble_eq_true rfl, h.2.1, h.2.2⟩
    · split
      · split
        · exact ⟨Nat.le_of_ble_eq_true rfl, h.2.1, h.2.2⟩
        · exact h
      · split
        · exact tkC_OK h x
        · exact h
theorem rdS_OK {ch : Nat → Int32} (m : Nat) : ∀ (i : Nat) {s : S4}, OK4 s → OK4 (rdS ch m i s) := by
  induction m with
  | zero => intro i s h; exact h
  | succ m ih =>
    intro i s h
    simp only [rdS]
    split
    · exact ih _ (tk_OK h _)
    · exact tk_OK h _
/-! numbers of signs -/
def ushr (x y : Int32) : Int32 := (x.toUInt32 >>> (y.toUInt32 &&& Int32.toUInt32 31)).toInt32
def lushr (x : Int64) (y : Int32) : Int64 := (x.toUInt64 >>> (y.toInt64.toUInt64 &&& Int64.toUInt64 63)).toInt64
def lst (x : Int64) : Int32 := Int64.toInt32 (x &&& 255)
def lgF : Nat → Int64 → Nat → Nat
  | 0, _, c => c
  | m + 1, x, c => if x = 0 then c else if inr (lst x) 33 126 = true then lgF m (lushr x 8) (c + 1) else 0
def shN : Nat → Int64 → Int64
  | 0, x => x
  | n + 1, x => lushr (shN n x) 8
def apF (x : Int64) (n c : Nat) (pd : Nat → Int32) : Nat → Int32 := fun i => if n ≤ i ∧ i < n + c then lst (shN (n + c - 1 - i) x) else pd i
/-! the reference reads -/
def chr (pd : Nat → Int32) (n p : Nat) : Int32 := if p < n then pd p else -1
def nx (pd : Nat → Int32) (n p : Nat) (c : Int32) : Nat := if chr pd n p = c then p + 1 else p
theorem ctc_m (x : Int32) : (if inr x 65 74 = true then x - 65 else if inr x 97 102 = true then 10 + x - 97 else -1) = ctc x := by
  unfold ctc
  split
  · rfl
  · split
    · apply Int32.toBitVec_inj.mp
      simp only [Int32.toBitVec_add, Int32.toBitVec_sub, BitVec.sub_eq_add_neg]
      rw [BitVec.add_comm (Int32.toBitVec 10), BitVec.add_assoc, BitVec.add_assoc, BitVec.add_comm (Int32.toBitVec 10)]
    · rfl
/-- contacts of a branch: whether it can stand, the place, the three numbers -/
def rbF (ch : Nat → Int32) (b : Nat) : Nat → Nat → (Nat → Int32) → Bool × Nat × (Nat → Int32)
  | 0, p, td => (true, p, td)
  | m + 1, p, td =>
    let p1 := if ch p = 33 then p + 1 else p
    if ctc (ch p1) < 0 then (false, p1, td)
    else
      let i := b + (if ch p = 33 then 1 else 0)
      let t1 := upd td i (td i ||| shl 1 (ctc (ch p1)))
      let t2 := upd t1 (b + 2) (t1 (b + 2) + 1)
      if t2 (b + 2) < 8 ∧ (ch (p1 + 1) = 33 ∨ ¬ ctc (ch (p1 + 1)) < 0) then rbF ch b m (p1 + 1) t2 else (true, p1 + 1, t2)
abbrev Q4 : Type := Nat × (Nat → Int32) × Nat
/-- a branch: its three numbers are made 0 first -/
def rb1 (ch : Nat → Int32) (s : Q4) : Bool × Q4 :=
  let r := rbF ch (3 * s.2.2) 8 s.1 (upd (upd (upd s.2.1 (3 * s.2.2) 0) (3 * s.2.2 + 1) 0) (3 * s.2.2 + 2) 0)
  (r.1, r.2.1, r.2.2, if r.1 = true then s.2.2 + 1 else s.2.2)
/-- further branches, while a plus stands there -/
def rbs (ch : Nat → Int32) : Nat → Bool × Q4 → Bool × Q4
  | 0, r => r
  | m + 1, r => if r.1 = true ∧ r.2.2.2 < 6 ∧ ch r.2.1 = 43 then rbs ch m (rb1 ch (r.2.1 + 1, r.2.2)) else r
def rbsA (ch : Nat → Int32) (s : Q4) : Bool × Q4 := rbs ch 6 (rb1 ch s)
abbrev Q5 : Type := Nat × Nat × (Nat → Int32) × Nat
/-- a circuit: place, relay, numbers, branches -/
def rc1 (ch : Nat → Int32) (s : Q5) : Bool × Q5 :=
  if inr (ch s.1) 65 74 = true then
    let k := rk (ch s.1 - 65)
    if ch (s.1 + 1) = 61 then
      if ch (s.1 + 2) = 48 then (true, s.1 + 3, k, s.2.2.1, 0)
      else let r := rbsA ch (s.1 + 2, s.2.2.1, 0); (r.1, r.2.1, k, r.2.2.1, r.2.2.2)
    else (false, s.1 + 1, k, s.2.2.1, 0)
  else (false, s.1, s.2.1, s.2.2.1, 0)
/-- the fault: circuits till the end; n: the length -/
def ff (ch : Nat → Int32) (n : Nat) : Nat → Q5 → Int32 × Q5
  | 0, s => (0, s)
  | m + 1, s =>
    let r := rc1 ch s
    if r.1 = true then
      (if r.2.1 = n then (-6, r.2)
       else if ch r.2.1 = 59 then ff ch n m (r.2.1 + 1, r.2.2.1, r.2.2.2.1, 0) else (nI r.2.1, r.2))
    else (nI r.2.1, r.2)
/-- a circuit put in its place -/
def pc18 (td : Nat → Int32) (nb k : Nat) : Nat → (Nat → Int32) → Nat → Int32
  | 0, v => v
  | j + 1, v => upd (pc18 td nb k j v) (px k (5 + j)) (if j < 3 * nb then td j else 0)
def pcF (td : Nat → Int32) (nb k : Nat) (v : Nat → Int32) : Nat → Int32 := pc18 td nb k 18 (upd v (px k 4) (nI nb))
/-- all circuits of a pad without a fault, in their places -/
def rdM (ch : Nat → Int32) (n : Nat) : Nat → Q5 → (Nat → Int32) → Q5 × (Nat → Int32)
  | 0, s, v => (s, v)
  | m + 1, s, v =>
    if s.1 < n then
      let r := (rc1 ch (s.1, s.2.1, s.2.2.1, 0)).2
      rdM ch n m (if ch r.1 = 59 then r.1 + 1 else r.1, r.2) (pcF r.2.2.1 r.2.2.2 r.2.1 v)
    else (s, v)
theorem segs_oneN (segs : List va_W) (i : Nat) (is : List Nat) (n : Nat) {w : va_W} {wrs : List va_W} (h : (i :: is).isPerm (List.range n) = true) (hn : segs.length = n) (h1 : segs[i]? = some w) (h2 : is.filterMap (fun i => segs[i]?) = wrs) : segs.flatten.Perm (w ++ wrs.flatten) := segs_one segs i is (by rw [hn]; exact h) h1 h2
theorem segs_twoN (segs : List va_W) (isC isR : List Nat) (n : Nat) {wcs wrs : List va_W} (h : (isC ++ isR).isPerm (List.range n) = true) (hn : segs.length = n) (h1 : isC.filterMap (fun i => segs[i]?) = wcs) (h2 : isR.filterMap (fun i => segs[i]?) = wrs) : segs.flatten.Perm (wcs.flatten ++ wrs.flatten) := segs_two segs isC isR (by rw [hn]; exact h) h1 h2
