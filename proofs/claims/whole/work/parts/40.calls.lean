/-! PURE: the class' state beside the reference's, call by call: the answers are one, and the states stay beside each other -/
def WR (v u : Nat → Int32) (VH VS : Nat → Nat → Int32) (sv pd : Nat → Int32) (N k ol sz : Nat) (st hi sl sw pe : Nat → Int32) (M sm : Nat) : Prop :=
  (N ≤ 64 ∧ k < 10 ∧ ol < 6 ∧ sz ≤ 6) ∧ Gd v ∧ RI u ∧ Sim v st ∧ (∀ j, Gd (VH j)) ∧ (∀ j, Gd (VS j)) ∧ Rg VH hi ol sz ∧ Sl VS sl sv sw ∧ pe = pd ∧ M = N ∧ sm = sz
section WRS
variable {v u : Nat → Int32} {VH VS : Nat → Nat → Int32} {sv pd : Nat → Int32} {N k ol sz : Nat} {st hi sl sw : Nat → Int32}
theorem WR.mk (h1 : N ≤ 64 ∧ k < 10 ∧ ol < 6 ∧ sz ≤ 6) (h2 : Gd v) (h3 : RI u) (h4 : Sim v st) (h5 : ∀ j, Gd (VH j)) (h6 : ∀ j, Gd (VS j)) (h7 : Rg VH hi ol sz) (h8 : Sl VS sl sv sw) : WR v u VH VS sv pd N k ol sz st hi sl sw pd N sz := ⟨h1, h2, h3, h4, h5, h6, h7, h8, rfl, rfl, rfl⟩
/-- a change: the state before it is recorded on both sides -/
theorem WR.rec' (h : WR v u VH VS sv pd N k ol sz st hi sl sw pd N sz) {v' st' : Nat → Int32} (hv : Gd v') (hS : Sim v' st') : WR v' u (recV VH ol sz v) VS sv pd N k (recO ol sz) (recZ sz) st' (recH st hi sz) sl sw pd N (recC sz) := by
  obtain ⟨⟨a1, a2, a3, a4⟩, a5, a6, a7, a8, a9, b1, b2, -, -, -⟩ := h
  rw [recC_Z a4]
  exact WR.mk ⟨a1, a2, recO_lt a3, recZ_le a4⟩ hv a6 hS (recV_Gd a8 a5) a9 (b1.put a8 a5.1 a7 a3 a4) b2
theorem WR.chg (h : WR v u VH VS sv pd N k ol sz st hi sl sw pd N sz) {cc cm : Bool} (e : cm = cc) {v' st' : Nat → Int32} (hv : cc = true → Gd v' ∧ Sim v' st') : WR (cond cc v' v) u (cond cc (recV VH ol sz v) VH) VS sv pd N k (cond cc (recO ol sz) ol) (cond cc (recZ sz) sz) (cond cm st' st) (cond cm (recH st hi sz) hi) sl sw pd N (cond cm (recC sz) sz) := by
  subst e
  cases cm with
  | false => exact h
  | true =>
    obtain ⟨h1, h2⟩ := hv rfl
    exact h.rec' h1 h2
/-- only the trial has changed -/
theorem WR.tri (h : WR v u VH VS sv pd N k ol sz st hi sl sw pd N sz) {u' : Nat → Int32} (hu : RI u') : WR v u' VH VS sv pd N k ol sz st hi sl sw pd N sz := by
  obtain ⟨a1, a5, a6, a7, a8, a9, b1, b2, -, -, -⟩ := h
  exact WR.mk a1 a5 hu a7 a8 a9 b1 b2
theorem WR.sim (h : WR v u VH VS sv pd N k ol sz st hi sl sw pd N sz) : Sim v st := h.2.2.2.1
theorem WR.gd (h : WR v u VH VS sv pd N k ol sz st hi sl sw pd N sz) : Gd v := h.2.1
theorem WR.ru (h : WR v u VH VS sv pd N k ol sz st hi sl sw pd N sz) : RI u := h.2.2.1
theorem WR.rs (h : WR v u VH VS sv pd N k ol sz st hi sl sw pd N sz) : RI st := h.sim.rI h.gd.1
theorem cond_P {P : (Nat → Int32) → Prop} {c : Bool} {x y : Nat → Int32} (hx : P x) (hy : P y) : P (cond c x y) := by
  cases c
  · exact hy
  · exact hx
theorem cond_E {c : Bool} {a b d : Int32} (h : c = true → a = b) : cond c a d = cond c b d := by
  cases c
  · rfl
  · exact h rfl
theorem zk_lt (z : Bool) : zk z < 2 := by cases z <;> decide
theorem W_time (h : WR v u VH VS sv pd N k ol sz st hi sl sw pd N sz) (r : Int32) (z : Bool) (t : Int32) :
    cond (inr r 0 9) (cond (inr t 1 9) (v (px (rk r) (zk z))) (-2)) (-1) = cond (inr r 0 9) (cond (inr t 1 9) (st (px (rk r) (zk z))) (-2)) (-1) ∧
    WR (cond (inr r 0 9 && inr t 1 9) (upd v (px (rk r) (zk z)) t) v) u (cond (inr r 0 9 && inr t 1 9) (recV VH ol sz v) VH) VS sv pd N k (cond (inr r 0 9 && inr t 1 9) (recO ol sz) ol) (cond (inr r 0 9 && inr t 1 9) (recZ sz) sz) (cond (inr r 0 9 && inr t 1 9) (upd st (px (rk r) (zk z)) t) st) (cond (inr r 0 9 && inr t 1 9) (recH st hi sz) hi) sl sw pd N (cond (inr r 0 9 && inr t 1 9) (recC sz) sz) := by
  have hz := zk_lt z
  refine ⟨?_, h.chg rfl fun hc => ⟨h.gd.pt (by omega) t, h.sim.upt (by omega) t⟩⟩
  cases c1 : inr r 0 9 with
  | false => rfl
  | true =>
    have hr := (inr_rk c1).2
    rw [h.sim.pt (rk r) (zk z) hr (by omega)]
theorem W_life (h : WR v u VH VS sv pd N k ol sz st hi sl sw pd N sz) (x : Int32) :
    cond (inr x 0 99) (v 5) (-2) = cond (inr x 0 99) (st 5) (-2) ∧
    WR (cond (inr x 0 99) (upd v 5 x) v) u (cond (inr x 0 99) (recV VH ol sz v) VH) VS sv pd N k (cond (inr x 0 99) (recO ol sz) ol) (cond (inr x 0 99) (recZ sz) sz) (cond (inr x 0 99) (upd st 5 x) st) (cond (inr x 0 99) (recH st hi sz) hi) sl sw pd N (cond (inr x 0 99) (recC sz) sz) := by
  refine ⟨by rw [h.sim.lo 5 (by decide)], h.chg rfl fun hc => ⟨h.gd.l5 ?_, h.sim.ulo (by decide) x⟩⟩
  unfold inr at hc
  rw [Bool.and_eq_true] at hc
  exact of_decide_eq_true hc.1
theorem W_press (h : WR v u VH VS sv pd N k ol sz st hi sl sw pd N sz) (b : Int32) (z : Bool) :
    cond (inr b 0 5) (cond (hs (v 2) b == z) (-5) (wan (upd v 2 (v 2 ^^^ shl 1 b)))) (-1) = cond (inr b 0 5) (cond (hs (st 2) b == z) (-5) (wan (upd st 2 (st 2 ^^^ shl 1 b)))) (-1) ∧
    WR (cond (inr b 0 5 && !(hs (v 2) b == z)) (upd v 2 (v 2 ^^^ shl 1 b)) v) u (cond (inr b 0 5 && !(hs (v 2) b == z)) (recV VH ol sz v) VH) VS sv pd N k (cond (inr b 0 5 && !(hs (v 2) b == z)) (recO ol sz) ol) (cond (inr b 0 5 && !(hs (v 2) b == z)) (recZ sz) sz) (cond (inr b 0 5 && !(hs (st 2) b == z)) (upd st 2 (st 2 ^^^ shl 1 b)) st) (cond (inr b 0 5 && !(hs (st 2) b == z)) (recH st hi sz) hi) sl sw pd N (cond (inr b 0 5 && !(hs (st 2) b == z)) (recC sz) sz) := by
  have e2 : st 2 = v 2 := h.sim.lo 2 (by decide)
  have hS : Sim (upd v 2 (v 2 ^^^ shl 1 b)) (upd st 2 (v 2 ^^^ shl 1 b)) := h.sim.ulo (by decide) _
  rw [e2]
  refine ⟨by rw [hS.s_wan], h.chg rfl fun _ => ⟨h.gd.lo (by decide) (by decide) _, hS⟩⟩
theorem W_weld (h : WR v u VH VS sv pd N k ol sz st hi sl sw pd N sz) (r : Int32) (z : Bool) :
    cond (inr r 0 9) (cond ((hs (v 1) (nI (rk r)) == z) || (z && !hs (v 0) (nI (rk r)))) (-5) (v (px (rk r) 3))) (-1) = cond (inr r 0 9) (cond ((hs (st 1) (nI (rk r)) == z) || (z && !hs (st 0) (nI (rk r)))) (-5) (st (px (rk r) 3))) (-1) ∧
    WR (cond (inr r 0 9 && !((hs (v 1) (nI (rk r)) == z) || (z && !hs (v 0) (nI (rk r))))) (cond (z) (upd v 1 (v 1 ^^^ shl 1 (nI (rk r)))) (upd (upd v 1 (v 1 ^^^ shl 1 (nI (rk r)))) (px (rk r) 3) 0)) v) u (cond (inr r 0 9 && !((hs (v 1) (nI (rk r)) == z) || (z && !hs (v 0) (nI (rk r))))) (recV VH ol sz v) VH) VS sv pd N k (cond (inr r 0 9 && !((hs (v 1) (nI (rk r)) == z) || (z && !hs (v 0) (nI (rk r))))) (recO ol sz) ol) (cond (inr r 0 9 && !((hs (v 1) (nI (rk r)) == z) || (z && !hs (v 0) (nI (rk r))))) (recZ sz) sz) (cond (inr r 0 9 && !((hs (st 1) (nI (rk r)) == z) || (z && !hs (st 0) (nI (rk r))))) (cond (z) (upd st 1 (st 1 ^^^ shl 1 (nI (rk r)))) (upd (upd st 1 (st 1 ^^^ shl 1 (nI (rk r)))) (px (rk r) 3) 0)) st) (cond (inr r 0 9 && !((hs (st 1) (nI (rk r)) == z) || (z && !hs (st 0) (nI (rk r))))) (recH st hi sz) hi) sl sw pd N (cond (inr r 0 9 && !((hs (st 1) (nI (rk r)) == z) || (z && !hs (st 0) (nI (rk r))))) (recC sz) sz) := by
  have e1 : st 1 = v 1 := h.sim.lo 1 (by decide)
  have e0 : st 0 = v 0 := h.sim.lo 0 (by decide)
  have hS : Sim (upd v 1 (v 1 ^^^ shl 1 (nI (rk r)))) (upd st 1 (v 1 ^^^ shl 1 (nI (rk r)))) := h.sim.ulo (by decide) _
  have hG : Gd (upd v 1 (v 1 ^^^ shl 1 (nI (rk r)))) := h.gd.lo (by decide) (by decide) _
  rw [e1, e0]
  refine ⟨?_, h.chg rfl fun _ => ?_⟩
  · cases c1 : inr r 0 9 with
    | false => rfl
    | true => rw [h.sim.pt (rk r) 3 (inr_rk c1).2 (by decide)]
  · cases z with
    | true => exact ⟨hG, hS⟩
    | false => exact ⟨hG.pt (by decide) 0, hS.upt (by decide) 0⟩
theorem W_pass (h : WR v u VH VS sv pd N k ol sz st hi sl sw pd N sz) (t : Int32) :
    cond (inr t 1 200) (tickN (rk t) v 4 - v 4) (-2) = cond (inr t 1 200) (tickN (rk t) st 4 - st 4) (-2) ∧
    WR (cond (inr t 1 200) (tickN (rk t) v) v) u (cond (inr t 1 200) (recV VH ol sz v) VH) VS sv pd N k (cond (inr t 1 200) (recO ol sz) ol) (cond (inr t 1 200) (recZ sz) sz) (cond (inr t 1 200) (tickN (rk t) st) st) (cond (inr t 1 200) (recH st hi sz) hi) sl sw pd N (cond (inr t 1 200) (recC sz) sz) := by
  have hS := h.sim.s_tickN (rk t)
  refine ⟨?_, h.chg rfl fun _ => ⟨h.gd.tickN _, hS⟩⟩
  rw [hS.lo 4 (by decide), h.sim.lo 4 (by decide)]
theorem W_settle (h : WR v u VH VS sv pd N k ol sz st hi sl sw pd N sz) :
    setlR v = setlR st ∧ WR (stlV 200 v) u (recV VH ol sz v) VS sv pd N k (recO ol sz) (recZ sz) (stlV 200 st) (recH st hi sz) sl sw pd N (recC sz) := ⟨h.sim.s_setlR.symm, h.rec' (h.gd.stl 200) (h.sim.stl 200).1⟩
theorem W_relay (h : WR v u VH VS sv pd N k ol sz st hi sl sw pd N sz) (r x : Int32) :
    cond (inr r 0 9) (cond (inr x 0 10) (rel11i v (rk r) (rk x)) (-2)) (-1) = cond (inr r 0 9) (cond (inr x 0 10) (rel11 st (rk r) (rk x)) (-2)) (-1) := by
  cases c1 : inr r 0 9 with
  | false => rfl
  | true => rw [rel11_eq h.sim (inr_rk c1).2]
theorem W_branch (h : WR v u VH VS sv pd N k ol sz st hi sl sw pd N sz) (r b x : Int32) :
    cond (inr r 0 9 && inr b 0 (v (px (rk r) 4) - 1)) (cond (inr x 0 5) (brn6i v (rk r) (rk b) (rk x)) (-2)) (-1) = cond (inr r 0 9 && inr b 0 (st (px (rk r) 4) - 1)) (cond (inr x 0 5) (brn6 st (rk r) (rk b) (rk x)) (-2)) (-1) := by
  cases c1 : inr r 0 9 with
  | false => rfl
  | true =>
    have hr := (inr_rk c1).2
    rw [h.sim.pt (rk r) 4 hr (by decide), Bool.true_and]
    cases c2 : inr b 0 (v (px (rk r) 4) - 1) with
    | false => rfl
    | true => rw [brn6_eq h.sim (h.gd.2.2.live h.gd.1) hr (brn_in h.gd.1 hr c2).2.1]
theorem W_count (h : WR v u VH VS sv pd N k ol sz st hi sl sw pd N sz) (x : Int32) :
    cond (inr x 0 11) (cnt12 v (nI N) (nI sz) (rk x)) (-2) = cond (inr x 0 11) (cnt12 st (nI N) (nI sz) (rk x)) (-2) := by rw [cnt12_eq h.sim]
theorem W_ifP (h : WR v u VH VS sv pd N k ol sz st hi sl sw pd N sz) (b t : Int32) :
    cond (inr b 0 63 && inr t 0 200) (tickN (rk t) (upd v 2 b) 0) (-2) = cond (inr b 0 63 && inr t 0 200) (tickN (rk t) (upd st 2 b) 0) (-2) ∧
    WR v (cond (inr b 0 63 && inr t 0 200) (tickN (rk t) (upd v 2 b)) u) VH VS sv pd N k ol sz st hi sl sw pd N sz := by
  have hS := (h.sim.ulo (i := 2) (by decide) b).s_tickN (rk t)
  exact ⟨cond_E fun _ => (hS.lo 0 (by decide)).symm, h.tri (cond_P (P := RI) (tickN_RI (RI_lo h.gd.1 (by decide) _) _) h.ru)⟩
theorem W_rest (h : WR v u VH VS sv pd N k ol sz st hi sl sw pd N sz) (b x : Int32) :
    cond (inr b 0 63 && inr x 0 2) (rsI v b x) (-2) = cond (inr b 0 63 && inr x 0 2) (rsR st b x) (-2) ∧
    WR v (cond (inr b 0 63 && inr x 0 2) (stlV 200 (upd v 2 b)) u) VH VS sv pd N k ol sz st hi sl sw pd N sz := by
  exact ⟨cond_E fun _ => (rsI_rsR h.gd.2.1 b x).trans (h.sim.s_rsR b x).symm, h.tri (cond_P (P := RI) (stlV_RI (RI_lo h.gd.1 (by decide) _) 200) h.ru)⟩
theorem onesN_u2 (n : Nat) (v : Nat → Int32) (b : Int32) : upd (onesN n v) 2 b = onesN n (upd v 2 b) := by
  induction n with
  | zero => rfl
  | succ n ih =>
    simp only [onesN]
    rw [upd_cm (px_ne6 (by decide)), upd_cm (px_ne6 (by decide)), ih]
theorem race_st (st : Nat → Int32) (b : Int32) : b2i (!decide (rsR st b 0 = rsR (onesN 10 st) b 0)) = b2i (!decide (upR (upd st 2 b) = upR (onesN 10 (upd st 2 b)))) := by
  have e1 : rsR st b 0 = upR (upd st 2 b) := rsR_upR b
  have e2 : rsR (onesN 10 st) b 0 = upR (onesN 10 (upd st 2 b)) := (rsR_upR b).trans (congrArg upR (onesN_u2 10 st b))
  have g : ∀ a a' c c' : Int32, a = a' → c = c' → b2i (!decide (a = c)) = b2i (!decide (a' = c')) := by intro a a' c c' h1 h2; rw [h1, h2]
  exact g _ _ _ _ e1 e2
theorem W_race (h : WR v u VH VS sv pd N k ol sz st hi sl sw pd N sz) (b : Int32) :
    cond (inr b 0 63) (b2i (!decide (upR (upd v 2 b) = upR (onesN 10 (upd v 2 b))))) (-2) = cond (inr b 0 63) (b2i (!decide (rsR st b 0 = rsR (onesN 10 st) b 0))) (-2) ∧
    WR v (cond (inr b 0 63) (stlV 200 (onesN 10 (upd v 2 b))) u) VH VS sv pd N k ol sz st hi sl sw pd N sz := by
  have g : ∀ a a' c c' : Int32, a = a' → c = c' → b2i (!decide (a = c)) = b2i (!decide (a' = c')) := by intro a a' c c' h1 h2; rw [h1, h2]
  have hw : Sim (upd v 2 b) (upd st 2 b) := h.sim.ulo (by decide) b
  exact ⟨cond_E fun _ => (g _ _ _ _ hw.s_upR.symm (hw.ones 10).s_upR.symm).trans (race_st st b).symm, h.tri (cond_P (P := RI) (stlV_RI (onesN_RI (RI_lo h.gd.1 (by decide) _) 10) 200) h.ru)⟩
theorem W_ifW (h : WR v u VH VS sv pd N k ol sz st hi sl sw pd N sz) (r x : Int32) :
    cond (inr r 0 9 && inr x 0 9) (cond (decide (r = x)) (-2) (uiI v r x)) (-1) = cond (inr r 0 9 && inr x 0 9) (cond (decide (r = x)) (-2) (uiW st r x)) (-1) ∧
    WR v (cond (inr r 0 9 && inr x 0 9 && !decide (r = x)) (stlV 200 (wldI v x)) u) VH VS sv pd N k ol sz st hi sl sw pd N sz := by
  exact ⟨congrArg (fun z => cond (inr r 0 9 && inr x 0 9) (cond (decide (r = x)) (-2) z) (-1)) ((uiI_uiW v r x).trans (h.sim.s_uiW r x).symm), h.tri (cond_P (P := RI) (stlV_RI (wldI_RI h.gd.1 _) 200) h.ru)⟩
theorem W_uns (h : WR v u VH VS sv pd N k ol sz st hi sl sw pd N sz) (r : Int32) :
    cond (inr r 0 9) (unsI v (nI (rk r)) 10) (-1) = cond (inr r 0 9) (unsM st (nI (rk r)) 10) (-1) ∧
    WR v (cond (inr r 0 9) (unsU v (rk r) 9) u) VH VS sv pd N k ol sz st hi sl sw pd N sz := by
  exact ⟨cond_E fun c1 => (unsI_unsM v (by have := (inr_rk c1).2; omega) 10).trans (h.sim.s_unsM _ 10).symm, h.tri (cond_P (P := RI) (unsU_RI h.gd.1 _ 9) h.ru)⟩
theorem W_reach (h : WR v u VH VS sv pd N k ol sz st hi sl sw pd N sz) (r : Int32) :
    cond (inr r 0 9) (outW v (nI (rk r)) 7 0 u).1 (-1) = cond (inr r 0 9) (fndM st (nI (rk r)) 64) (-1) ∧
    WR v (cond (inr r 0 9) (outW v (nI (rk r)) 7 0 u).2 u) VH VS sv pd N k ol sz st hi sl sw pd N sz := by
  exact ⟨cond_E fun _ => (outW_I (nI (rk r)) 7 0 u).trans ((fndI_fndM v (nI (rk r))).trans (h.sim.s_fndM _ 64).symm), h.tri (cond_P (P := RI) (outW_RI h.gd.1 _ 7 0 u h.ru) h.ru)⟩
end WRS
