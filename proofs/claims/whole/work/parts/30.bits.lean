/-! PURE, bits: one bit of a set -/
theorem sh_k {k : Nat} (hk : k < 32) : (((nI k &&& 31 : Int32)).toBitVec.smod 32).toNat = k := by
  have h : ∀ j : Fin 32, (((nI j.val &&& 31 : Int32)).toBitVec.smod 32).toNat = j.val := by decide +kernel
  exact h ⟨k, hk⟩
theorem one_bit (i : Nat) : ((1 : Int32)).toBitVec.getLsbD i = decide (i = 0) := by
  rw [show ((1 : Int32)).toBitVec = 1#32 from rfl, BitVec.getLsbD_one]
  simp
theorem bt_gb (x : Int32) {k : Nat} (hk : k < 32) : bt x (nI k) = b2i (x.toBitVec.getLsbD k) := by
  refine i32_ext fun i hi => ?_
  unfold bt shr
  rw [i32_and, one_bit, Int32.toBitVec_shiftRight, BitVec.sshiftRight', sh_k hk, BitVec.getLsbD_sshiftRight]
  by_cases h0 : i = 0
  · subst h0
    rw [decide_eq_true rfl, Bool.and_true]
    have h1 : (b2i (x.toBitVec.getLsbD k)).toBitVec.getLsbD 0 = x.toBitVec.getLsbD k := by cases x.toBitVec.getLsbD k <;> decide
    rw [h1]
    simp [hk]
  · rw [decide_eq_false h0, Bool.and_false]
    have h1 : (b2i (x.toBitVec.getLsbD k)).toBitVec.getLsbD i = false := by
      cases x.toBitVec.getLsbD k
      · exact i32_0 i
      · exact (one_bit i).trans (decide_eq_false h0)
    exact h1.symm
theorem hs_gb (x : Int32) {k : Nat} (hk : k < 32) : hs x (nI k) = x.toBitVec.getLsbD k := by
  unfold hs
  rw [bt_gb x hk]
  cases x.toBitVec.getLsbD k <;> decide
theorem shl_gb {r k : Nat} (hr : r < 32) (hk : k < 32) : (shl 1 (nI r)).toBitVec.getLsbD k = decide (r = k) := by
  have h : ∀ a b : Fin 32, (shl 1 (nI a.val)).toBitVec.getLsbD b.val = decide (a.val = b.val) := by decide +kernel
  exact h ⟨r, hr⟩ ⟨k, hk⟩
theorem hs_or (x y : Int32) {k : Nat} (hk : k < 32) : hs (x ||| y) (nI k) = (hs x (nI k) || hs y (nI k)) := by rw [hs_gb _ hk, hs_gb _ hk, hs_gb _ hk, i32_or]
theorem hs_orN (f : Nat → Int32) {k : Nat} (hk : k < 32) (n : Nat) : hs (orN n f) (nI k) = anyN n (fun i => hs (f i) (nI k)) := by
  induction n with
  | zero => simp only [orN, anyN]; rw [hs_gb _ hk]; exact i32_0 k
  | succ n ih => simp only [orN, anyN]; rw [hs_or _ _ hk, ih]
theorem bt_hs (x : Int32) {k : Nat} (hk : k < 32) : bt x (nI k) = b2i (hs x (nI k)) := by rw [bt_gb _ hk, hs_gb _ hk]
/-- a set made of one bit each -/
theorem bits_any {n r k : Nat} {p : Nat → Bool} (hk : k < 32) (hn : n ≤ 32) : anyN n (fun i => hs (if p i = true then shl 1 (nI i) else 0) (nI k)) = (decide (k < n) && p k) := by
  induction n with
  | zero => rfl
  | succ n ih =>
    simp only [anyN]
    rw [ih (by omega)]
    cases hp : p n
    · rw [if_neg (by decide), hs_gb _ hk, i32_0, Bool.or_false]
      by_cases e : k = n
      · subst e; rw [hp, Bool.and_false, Bool.and_false]
      · rw [decide_eq_decide.mpr (show k < n ↔ k < n + 1 by omega)]
    · rw [if_pos rfl, hs_gb _ hk, shl_gb (by omega) hk]
      by_cases e : n = k
      · subst e; rw [hp, decide_eq_true rfl, decide_eq_true (Nat.lt_succ_self n), Bool.or_true]; rfl
      · rw [decide_eq_false e, Bool.or_false, decide_eq_decide.mpr (show k < n ↔ k < n + 1 by omega)]
/-- is it fed: by the set, by its circuit -/
theorem bt_fedS (v : Nat → Int32) {k : Nat} (hk : k < 10) : bt (fedS v) (nI k) = b2i (fed1 v k) := by
  rw [bt_hs _ (by omega)]
  unfold fedS
  rw [hs_orN _ (by omega), bits_any (r := 0) (by omega) (by decide), decide_eq_true hk, Bool.true_and]
theorem bt_frtS (v : Nat → Int32) {r k : Nat} (hk : k < 32) : bt (frtS v r) (nI k) = b2i (anyN (cnt v r) (fun b => hs (frt v r b) (nI k))) := by
  rw [bt_hs _ hk]
  unfold frtS
  rw [hs_orN _ hk]
/-- a set of relays, by its bits -/
theorem orN_bit {m : Nat} {p : Nat → Bool} {x : Int32} : orN m (fun b => if p b = true then x else 0) = if anyN m p = true then x else 0 := by
  induction m with
  | zero => rfl
  | succ m ih =>
    simp only [orN, anyN]
    rw [ih]
    have key : ∀ a b : Bool, ((if a = true then x else 0) ||| (if b = true then x else 0)) = if (a || b) = true then x else 0 := by
      intro a b
      cases a <;> cases b
      · exact or_z 0
      · exact i32_ext fun i _ => by rw [i32_or]; exact (congrArg (fun z => z || x.toBitVec.getLsbD i) (i32_0 i)).trans (Bool.false_or _)
      · exact or_z x
      · exact i32_ext fun i _ => by rw [i32_or]; exact Bool.or_self _
    exact key _ _
theorem anyN_or {n : Nat} {f g : Nat → Bool} : anyN n (fun i => f i || g i) = (anyN n f || anyN n g) := by
  induction n with
  | zero => rfl
  | succ n ih =>
    simp only [anyN]
    rw [ih]
    cases anyN n f <;> cases anyN n g <;> cases f n <;> cases g n <;> rfl
theorem relC_relM (v : Nat → Int32) {k : Nat} (hk : k < 32) : relC v k = relM v k := by
  unfold relC relM
  refine orN_e fun r hr => ?_
  rw [orN_bit, hs_or _ _ hk]
  unfold frtS bckS
  rw [hs_orN _ hk, hs_orN _ hk, ← anyN_or]
  have e : (fun b => hs (frt v r b) (nI k) || hs (bck v r b) (nI k)) = fun b => hs (frt v r b ||| bck v r b) (nI k) := funext fun b => (hs_or _ _ hk).symm
  rw [e]
