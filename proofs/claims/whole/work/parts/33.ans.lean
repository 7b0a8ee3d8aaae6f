/-! PURE, the answers of what there is, by two rows that tell the same room -/
theorem rel11_eq {v f : Nat → Int32} (h : Sim v f) {k : Nat} (hk : k < 10) (x : Nat) : rel11i v k x = rel11 f k x := by
  match x with
  | 0 => simp only [rel11i, rel11]; exact (congrArg (fun z => bt z (nI k)) (h.lo 0 (by decide))).symm
  | 1 => simp only [rel11i, rel11]; exact (bt_fedS v hk).trans (congrArg b2i (h.s_fed1 hk).symm)
  | 2 => simp only [rel11i, rel11]; exact (congrArg (fun z => bt z (nI k)) (h.lo 1 (by decide))).symm
  | 3 => simp only [rel11i, rel11]; exact (congrArg (fun z => bt z (nI k)) h.s_wan).symm
  | 4 => simp only [rel11i, rel11]; exact (h.pt k 2 hk (by decide)).symm
  | 5 => simp only [rel11i, rel11]; exact (h.pt k 3 hk (by decide)).symm
  | 6 => simp only [rel11i, rel11]; exact (h.pt k 0 hk (by decide)).symm
  | 7 => simp only [rel11i, rel11]; exact (h.pt k 1 hk (by decide)).symm
  | 8 => simp only [rel11i, rel11]; exact (h.pt k 4 hk (by decide)).symm
  | 9 =>
    simp only [rel11i, rel11]
    rw [bt_frtS v (by omega), h.c hk]
    exact congrArg b2i (anyN_cg fun b hb => by rw [h.s_frt hk hb])
  | 10 => simp only [rel11i, rel11]; exact (relC_relM v (by omega)).trans (h.s_relM k).symm
  | n + 11 => simp only [rel11i, rel11]
theorem cnt12_eq {v f : Nat → Int32} (h : Sim v f) (pl rc : Int32) (x : Nat) : cnt12 v pl rc x = cnt12 f pl rc x := by
  match x with
  | 0 => simp only [cnt12]; exact (h.lo 0 (by decide)).symm
  | 1 => simp only [cnt12]; exact h.s_fedS.symm
  | 2 => simp only [cnt12]; exact (h.lo 1 (by decide)).symm
  | 3 => simp only [cnt12]; exact h.s_wan.symm
  | 4 => simp only [cnt12]; exact (h.lo 2 (by decide)).symm
  | 5 => simp only [cnt12]; exact (h.lo 3 (by decide)).symm
  | 6 => simp only [cnt12]; exact (h.lo 4 (by decide)).symm
  | 7 => simp only [cnt12]; exact (h.lo 5 (by decide)).symm
  | 8 => simp only [cnt12]; exact h.s_relB.symm
  | 9 => simp only [cnt12]; exact h.s_nevC.symm
  | 10 => simp only [cnt12]
  | 11 => simp only [cnt12]
  | n + 12 => simp only [cnt12]
/-- no bit but the sixteen contacts' -/
def C16 (x : Int32) : Prop := ∀ i, 16 ≤ i → i < 32 → x.toBitVec.getLsbD i = false
def Mk (v : Nat → Int32) : Prop := ∀ r b, r < 10 → b < cnt v r → C16 (frt v r b) ∧ C16 (bck v r b)
theorem c63 (i : Nat) (hi : i < 32) : ((63 : Int32)).toBitVec.getLsbD i = decide (i < 6) := by
  have h : ∀ k : Fin 32, ((63 : Int32)).toBitVec.getLsbD k.val = decide (k.val < 6) := by decide +kernel
  exact h ⟨i, hi⟩
theorem C16.sh {x : Int32} (h : C16 x) : shr x 10 &&& 63 = shr x 10 := by
  refine i32_ext fun i hi => ?_
  rw [i32_and, c63 i hi]
  by_cases h6 : i < 6
  · rw [decide_eq_true h6, Bool.and_true]
  · rw [decide_eq_false h6, Bool.and_false]
    unfold shr
    rw [Int32.toBitVec_shiftRight, BitVec.sshiftRight', show (((10 &&& 31 : Int32)).toBitVec.smod 32).toNat = 10 by decide +kernel, BitVec.getLsbD_sshiftRight]
    have hm : x.toBitVec.msb = false := by
      rw [BitVec.msb_eq_getLsbD_last]
      exact h 31 (by decide) (by decide)
    by_cases hl : 10 + i < 32
    · have h9 := h (10 + i) (by omega) hl
      rw [show (!decide (32 ≤ i) && if 10 + i < 32 then x.toBitVec.getLsbD (10 + i) else x.toBitVec.msb) = (!decide (32 ≤ i) && x.toBitVec.getLsbD (10 + i)) from by rw [if_pos hl], h9, Bool.and_false]
    · simp [hl, hm]
theorem brn6_eq {v f : Nat → Int32} (h : Sim v f) (hM : Mk v) {r b : Nat} (hr : r < 10) (hb : b < cnt v r) (x : Nat) : brn6i v r b x = brn6 f r b x := by
  match x with
  | 0 => simp only [brn6i, brn6]; exact congrArg b2i (h.s_clo hr hb).symm
  | 1 => simp only [brn6i, brn6]; exact (h.s_ccn hr hb).symm
  | 2 => simp only [brn6i, brn6]; exact (congrArg (fun z => z &&& 1023) (h.s_frt hr hb)).symm
  | 3 => simp only [brn6i, brn6]; exact (congrArg (fun z => z &&& 1023) (h.s_bck hr hb)).symm
  | 4 => simp only [brn6i, brn6]; exact (hM r b hr hb).1.sh.trans (congrArg (fun z => shr z 10) (h.s_frt hr hb)).symm
  | 5 => simp only [brn6i, brn6]; exact (hM r b hr hb).2.sh.trans (congrArg (fun z => shr z 10) (h.s_bck hr hb)).symm
  | n + 6 => simp only [brn6i, brn6]
/-- what ticks and buttons leave keeps the circuits -/
theorem Mk.kp {v v' : Nat → Int32} (h : Mk v) (hk : ∀ r k, r < 10 → 4 ≤ k → k < 23 → v' (px r k) = v (px r k)) (hI : RI v) : Mk v' := by
  intro r b hr hb
  have hc : cnt v' r = cnt v r := by unfold cnt; rw [hk r 4 hr (by decide) (by decide)]
  rw [hc] at hb
  have h6 := (hI.1 r hr).2
  have e1 : frt v' r b = frt v r b := hk r _ hr (by omega) (by omega)
  have e2 : bck v' r b = bck v r b := hk r _ hr (by omega) (by omega)
  rw [e1, e2]
  exact h r b hr hb
