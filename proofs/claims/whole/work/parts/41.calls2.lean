/-! PURE, call by call: texts, undo, saving -/
section WRT
variable {v u : Nat → Int32} {VH VS : Nat → Nat → Int32} {sv pd : Nat → Int32} {N k ol sz : Nat} {st hi sl sw : Nat → Int32}
theorem W_read_aux (h : WR v u VH VS sv pd N k ol sz st hi sl sw pd N sz) {cc cm : Bool} (e : cm = cc) {w f : Nat → Int32} {k' : Nat} (hk : k' < 10) (hw : Gd w) (hS : cm = true → Sim w f) :
    cond cc (relB w) (-3) = cond cm (relB f) (-3) ∧
    WR (cond cc w v) w (cond cc (recV VH ol sz v) VH) VS sv pd (cond cc 0 N) k' (cond cc (recO ol sz) ol) (cond cc (recZ sz) sz) (cond cm f st) (cond cm (recH st hi sz) hi) sl sw pd (cond cm 0 N) (cond cm (recC sz) sz) := by
  subst e
  refine ⟨cond_E fun z => (hS z).s_relB.symm, ?_⟩
  cases cm with
  | false =>
    obtain ⟨⟨a1, a2, a3, a4⟩, a5, a6, a7, a8, a9, b1, b2, -, -, -⟩ := h
    exact WR.mk ⟨a1, hk, a3, a4⟩ a5 hw.1 a7 a8 a9 b1 b2
  | true =>
    have hs := hS rfl
    obtain ⟨⟨a1, a2, a3, a4⟩, a5, a6, a7, a8, a9, b1, b2, -, -, -⟩ := h.rec' hw hs
    have e : recC sz = recZ sz := recC_Z h.1.2.2.2
    show WR w w (recV VH ol sz v) VS sv pd 0 k' (recO ol sz) (recZ sz) f (recH st hi sz) sl sw pd 0 (recC sz)
    rw [e]
    exact WR.mk ⟨Nat.zero_le 64, hk, a3, a4⟩ a5 hw.1 a7 a8 a9 b1 b2
theorem W_read (h : WR v u VH VS sv pd N k ol sz st hi sl sw pd N sz) (kr : Nat) (td : Nat → Int32) :
    cond (decide (rdR pd N 0 (0, k, v) = -6)) (relB (rdS pd N 0 (0, k, v)).2.2) (-3) = cond (decide ((ff (chr pd N) N (N + 1) (0, kr, td, 0)).1 = -6)) (relB ((rdM (chr pd N) N (N + 1) (0, (ff (chr pd N) N (N + 1) (0, kr, td, 0)).2.2.1, (ff (chr pd N) N (N + 1) (0, kr, td, 0)).2.2.2.1, (ff (chr pd N) N (N + 1) (0, kr, td, 0)).2.2.2.2) st)).2) (-3) ∧
    WR (cond (decide (rdR pd N 0 (0, k, v) = -6)) (rdS pd N 0 (0, k, v)).2.2 v) (rdS pd N 0 (0, k, v)).2.2 (cond (decide (rdR pd N 0 (0, k, v) = -6)) (recV VH ol sz v) VH) VS sv pd (cond (decide (rdR pd N 0 (0, k, v) = -6)) 0 N) (rdS pd N 0 (0, k, v)).2.1 (cond (decide (rdR pd N 0 (0, k, v) = -6)) (recO ol sz) ol) (cond (decide (rdR pd N 0 (0, k, v) = -6)) (recZ sz) sz) (cond (decide ((ff (chr pd N) N (N + 1) (0, kr, td, 0)).1 = -6)) ((rdM (chr pd N) N (N + 1) (0, (ff (chr pd N) N (N + 1) (0, kr, td, 0)).2.2.1, (ff (chr pd N) N (N + 1) (0, kr, td, 0)).2.2.2.1, (ff (chr pd N) N (N + 1) (0, kr, td, 0)).2.2.2.2) st)).2 st) (cond (decide ((ff (chr pd N) N (N + 1) (0, kr, td, 0)).1 = -6)) (recH st hi sz) hi) sl sw pd (cond (decide ((ff (chr pd N) N (N + 1) (0, kr, td, 0)).1 = -6)) 0 N) (cond (decide ((ff (chr pd N) N (N + 1) (0, kr, td, 0)).1 = -6)) (recC sz) sz) := by
  have hO : OK4 (0, k, v) := ⟨Nat.zero_le 6, h.1.2.1, h.gd.1⟩
  have hT := rdS_OK (ch := pd) N 0 hO
  refine W_read_aux h ?_ hT.2.1 (rdS_Gd (ch := pd) N 0 hO h.gd) (fun z => ?_)
  · rw [rd_fault k v kr td h.gd.1]
  · exact rd_read h.1.1 k _ _ _ h.gd.1 h.sim (of_decide_eq_true z)
theorem W_fault (h : WR v u VH VS sv pd N k ol sz st hi sl sw pd N sz) (kr : Nat) (td : Nat → Int32) :
    rdR pd N 0 (0, k, u) = (ff (chr pd N) N (N + 1) (0, kr, td, 0)).1 ∧ WR v (rdS pd N 0 (0, k, u)).2.2 VH VS sv pd N (rdS pd N 0 (0, k, u)).2.1 ol sz st hi sl sw pd N sz := by
  have hT := rdS_OK (ch := pd) N 0 (s := (0, k, u)) ⟨Nat.zero_le 6, h.1.2.1, h.ru⟩
  refine ⟨rd_fault k u kr td h.ru, ?_⟩
  obtain ⟨⟨a1, a2, a3, a4⟩, a5, a6, a7, a8, a9, b1, b2, -, -, -⟩ := h
  exact WR.mk ⟨a1, hT.2.1, a3, a4⟩ a5 hT.2.2 a7 a8 a9 b1 b2
theorem WR.pad (h : WR v u VH VS sv pd N k ol sz st hi sl sw pd N sz) {pd' : Nat → Int32} {N' : Nat} (hN : N' ≤ 64) : WR v u VH VS sv pd' N' k ol sz st hi sl sw pd' N' sz := by
  obtain ⟨⟨a1, a2, a3, a4⟩, a5, a6, a7, a8, a9, b1, b2, -, -, -⟩ := h
  exact WR.mk ⟨hN, a2, a3, a4⟩ a5 a6 a7 a8 a9 b1 b2
theorem W_put_aux (h : WR v u VH VS sv pd N k ol sz st hi sl sw pd N sz) (x : Int64) (q : Nat × Int64 × Bool) (hq : q.1 ≤ 8) {n : Nat} (hn : n = pkP q) :
    cond (decide (n = 0)) (-2) (cond (decide (N + n ≤ 64)) (nI (N + n)) (-4)) = cond (!decide (q.1 = 0) && q.2.2 && decide (q.2.1 = 0)) (cond (decide (N + q.1 ≤ 64)) (nI (N + q.1)) (-4)) (-2) ∧
    WR v u VH VS sv (cond (!decide (n = 0) && decide (N + n ≤ 64)) (apG x N n N pd) pd) (cond (!decide (n = 0) && decide (N + n ≤ 64)) (N + n) N) k ol sz st hi sl sw (cond (!decide (q.1 = 0) && q.2.2 && decide (q.2.1 = 0) && decide (N + q.1 ≤ 64)) (amG x N q.1 q.1 pd) pd) (cond (!decide (q.1 = 0) && q.2.2 && decide (q.2.1 = 0) && decide (N + q.1 ≤ 64)) (N + q.1) N) sz := by
  obtain ⟨c, y, b⟩ := q
  have hq : c ≤ 8 := hq
  show cond (decide (n = 0)) (-2) (cond (decide (N + n ≤ 64)) (nI (N + n)) (-4)) = cond (!decide (c = 0) && b && decide (y = 0)) (cond (decide (N + c ≤ 64)) (nI (N + c)) (-4)) (-2) ∧
    WR v u VH VS sv (cond (!decide (n = 0) && decide (N + n ≤ 64)) (apG x N n N pd) pd) (cond (!decide (n = 0) && decide (N + n ≤ 64)) (N + n) N) k ol sz st hi sl sw (cond (!decide (c = 0) && b && decide (y = 0) && decide (N + c ≤ 64)) (amG x N c c pd) pd) (cond (!decide (c = 0) && b && decide (y = 0) && decide (N + c ≤ 64)) (N + c) N) sz
  have no : n = 0 → (!decide (c = 0) && b && decide (y = 0)) = false → cond (decide (n = 0)) (-2) (cond (decide (N + n ≤ 64)) (nI (N + n)) (-4)) = cond (!decide (c = 0) && b && decide (y = 0)) (cond (decide (N + c ≤ 64)) (nI (N + c)) (-4)) (-2) ∧
    WR v u VH VS sv (cond (!decide (n = 0) && decide (N + n ≤ 64)) (apG x N n N pd) pd) (cond (!decide (n = 0) && decide (N + n ≤ 64)) (N + n) N) k ol sz st hi sl sw (cond (!decide (c = 0) && b && decide (y = 0) && decide (N + c ≤ 64)) (amG x N c c pd) pd) (cond (!decide (c = 0) && b && decide (y = 0) && decide (N + c ≤ 64)) (N + c) N) sz := by
    intro h1 h2
    rw [h2, decide_eq_true h1]
    exact ⟨rfl, h⟩
  have hn' : n = if y = 0 ∧ b = true then c else 0 := hn
  by_cases hy : y = 0 ∧ b = true
  · rw [if_pos hy] at hn'
    obtain ⟨rfl, rfl⟩ := hy
    subst hn'
    by_cases h0 : n = 0
    · exact no h0 (by simp [h0])
    · rw [decide_eq_false h0, decide_eq_true (rfl : (0 : Int64) = 0)]
      by_cases hle : N + n ≤ 64
      · rw [decide_eq_true hle, amG_apG x N hq pd]
        exact ⟨rfl, h.pad hle⟩
      · rw [decide_eq_false hle]
        exact ⟨rfl, h⟩
  · rw [if_neg hy] at hn'
    refine no hn' ?_
    by_cases hy0 : y = 0
    · have hb : b = false := by
        cases b with
        | false => rfl
        | true => exact absurd ⟨hy0, rfl⟩ hy
      rw [hb, Bool.and_false, Bool.false_and]
    · rw [decide_eq_false hy0, Bool.and_false]
theorem W_put (h : WR v u VH VS sv pd N k ol sz st hi sl sw pd N sz) (x : Int64) :
    cond (decide (lgF 8 x 0 = 0)) (-2) (cond (decide (N + lgF 8 x 0 ≤ 64)) (nI (N + lgF 8 x 0)) (-4)) = cond (!decide ((pmF 8 x 0 true).1 = 0) && (pmF 8 x 0 true).2.2 && decide ((pmF 8 x 0 true).2.1 = 0)) (cond (decide (N + (pmF 8 x 0 true).1 ≤ 64)) (nI (N + (pmF 8 x 0 true).1)) (-4)) (-2) ∧
    WR v u VH VS sv (cond (!decide (lgF 8 x 0 = 0) && decide (N + lgF 8 x 0 ≤ 64)) (apG x N (lgF 8 x 0) N pd) pd) (cond (!decide (lgF 8 x 0 = 0) && decide (N + lgF 8 x 0 ≤ 64)) (N + lgF 8 x 0) N) k ol sz st hi sl sw (cond (!decide ((pmF 8 x 0 true).1 = 0) && (pmF 8 x 0 true).2.2 && decide ((pmF 8 x 0 true).2.1 = 0) && decide (N + (pmF 8 x 0 true).1 ≤ 64)) (amG x N (pmF 8 x 0 true).1 (pmF 8 x 0 true).1 pd) pd) (cond (!decide ((pmF 8 x 0 true).1 = 0) && (pmF 8 x 0 true).2.2 && decide ((pmF 8 x 0 true).2.1 = 0) && decide (N + (pmF 8 x 0 true).1 ≤ 64)) (N + (pmF 8 x 0 true).1) N) sz :=
  W_put_aux h x (pmF 8 x 0 true) (Nat.le_trans (pmF_le 8 x 0 true) (by decide)) (lg_8 x)
theorem W_undo (h : WR v u VH VS sv pd N k ol sz st hi sl sw pd N sz) :
    WR (cond (decide (sz = 0)) v (VH ((ol + (sz - 1)) % 6))) u VH VS sv pd N k ol (cond (decide (sz = 0)) sz (sz - 1)) (cond (decide (sz = 0)) st (va_cpy hi st (236 * (sz - 1)) 0 236)) hi sl sw pd N (cond (decide (sz = 0)) sz (sz - 1)) := by
  by_cases h0 : sz = 0
  · rw [decide_eq_true h0]
    exact h
  · rw [decide_eq_false h0]
    obtain ⟨⟨a1, a2, a3, a4⟩, a5, a6, a7, a8, a9, b1, b2, -, -, -⟩ := h
    exact WR.mk ⟨a1, a2, a3, Nat.le_trans (Nat.sub_le sz 1) a4⟩ (a8 _) a6 (b1.undo a8 (Nat.pos_of_ne_zero h0)) a8 a9 (b1.less (Nat.sub_le sz 1)) b2
theorem W_save (h : WR v u VH VS sv pd N k ol sz st hi sl sw pd N sz) (x : Int32) :
    cond (inr x 0 1) (v 0) (-2) = cond (inr x 0 1) (st 0) (-2) ∧
    WR v u VH (cond (inr x 0 1) (va_up VS (rk x) v) VS) (cond (inr x 0 1) (upd sv (rk x) 1) sv) pd N k ol sz st hi (cond (inr x 0 1) (va_cpy st sl 0 (236 * rk x) 236) sl) (cond (inr x 0 1) (upd sw (rk x) 1) sw) pd N sz := by
  refine ⟨by rw [h.sim.lo 0 (by decide)], ?_⟩
  cases c1 : inr x 0 1 with
  | false => exact h
  | true =>
    have hr := (inr_r1 c1).2
    obtain ⟨a1, a5, a6, a7, a8, a9, b1, b2, -, -, -⟩ := h
    exact WR.mk a1 a5 a6 a7 a8 (va_up_Gd a9 a5) b1 (b2.save a9 a5.1 a7 hr)
theorem W_restore (h : WR v u VH VS sv pd N k ol sz st hi sl sw pd N sz) (x : Int32) :
    cond (inr x 0 1) (cond (decide (sv (rk x) = 0)) (-5) (VS (rk x) 0)) (-2) = cond (inr x 0 1) (cond (decide (sw (rk x) = 0)) (-5) (va_cpy sl st (236 * rk x) 0 236 0)) (-2) ∧
    WR (cond (inr x 0 1 && !decide (sv (rk x) = 0)) (VS (rk x)) v) u (cond (inr x 0 1 && !decide (sv (rk x) = 0)) (recV VH ol sz v) VH) VS sv pd N k (cond (inr x 0 1 && !decide (sv (rk x) = 0)) (recO ol sz) ol) (cond (inr x 0 1 && !decide (sv (rk x) = 0)) (recZ sz) sz) (cond (inr x 0 1 && !decide (sw (rk x) = 0)) (va_cpy sl st (236 * rk x) 0 236) st) (cond (inr x 0 1 && !decide (sw (rk x) = 0)) (recH st hi sz) hi) sl sw pd N (cond (inr x 0 1 && !decide (sw (rk x) = 0)) (recC sz) sz) := by
  obtain ⟨a1, a5, a6, a7, a8, a9, b1, b2, -, -, -⟩ := id h
  cases c1 : inr x 0 1 with
  | false => exact ⟨rfl, h⟩
  | true =>
    have hr := (inr_r1 c1).2
    have e : sv (rk x) = sw (rk x) := (b2 (rk x) hr).1
    refine ⟨?_, h.chg (by rw [e]) fun hc => ?_⟩
    · rw [← e]
      by_cases h0 : sv (rk x) = 0
      · rw [decide_eq_true h0] <;> rfl
      · rw [decide_eq_false h0]
        exact ((b2.get (st := st) a9 hr h0).lo 0 (by decide)).symm
    · have h0 : sv (rk x) ≠ 0 := fun z => by
        rw [decide_eq_true z] at hc
        exact absurd hc (by decide)
      exact ⟨a9 _, b2.get a9 hr h0⟩
end WRT
