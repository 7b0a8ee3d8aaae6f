/-! PURE, of the reference's reading -/
theorem pk3 (b : Nat) : 3 * nI b = nI (3 * b) := by rw [show (3 : Int32) = nI 3 from rfl, pk_mul]
theorem chr_lt {pd : Nat → Int32} {N p : Nat} (h : chr pd N p ≠ -1) : p < N := by
  unfold chr at h
  rcases Nat.lt_or_ge p N with q | q
  · exact q
  · rw [if_neg (by omega)] at h
    exact absurd rfl h
theorem nx_le {pd : Nat → Int32} {N p : Nat} {c : Int32} (h : p ≤ N) (hc : c ≠ -1) : nx pd N p c ≤ N := by
  unfold nx
  split
  next q =>
    have := chr_lt (pd := pd) (N := N) (p := p) (by rw [q]; exact hc)
    omega
  next => exact h
theorem ctc_m1 : ctc (-1) = -1 := by decide
theorem ctc_lt {pd : Nat → Int32} {N p : Nat} (h : ¬ ctc (chr pd N p) < 0) : p < N := by
  apply chr_lt (pd := pd)
  intro q
  rw [q, ctc_m1] at h
  exact h (by decide)
theorem rbF_f {ch : Nat → Int32} {b m p : Nat} {td : Nat → Int32} {q : Nat} (hm : 0 < m) (hq : q = if ch p = 33 then p + 1 else p) (h : ctc (ch q) < 0) : rbF ch b m p td = (false, q, td) := by
  obtain ⟨k, rfl⟩ : ∃ k, m = k + 1 := ⟨m - 1, by omega⟩
  subst hq
  simp only [rbF]
  rw [if_pos h]
theorem rbF_g {ch : Nat → Int32} {b m p : Nat} {td T : Nat → Int32} {q I : Nat} (hm : 0 < m) (hq : q = if ch p = 33 then p + 1 else p) (hI : I = b + (if ch p = 33 then 1 else 0)) (h : ¬ ctc (ch q) < 0) (hT : T = upd (upd td I (td I ||| shl 1 (ctc (ch q)))) (b + 2) (upd td I (td I ||| shl 1 (ctc (ch q))) (b + 2) + 1)) (hg : T (b + 2) < 8 ∧ (ch (q + 1) = 33 ∨ ¬ ctc (ch (q + 1)) < 0)) : rbF ch b m p td = rbF ch b (m - 1) (q + 1) T := by
  obtain ⟨k, rfl⟩ : ∃ k, m = k + 1 := ⟨m - 1, by omega⟩
  subst hT
  subst hq
  subst hI
  rw [show k + 1 - 1 = k by omega]
  simp only [rbF]
  rw [if_neg h, if_pos hg]
theorem rbF_e {ch : Nat → Int32} {b m p : Nat} {td T : Nat → Int32} {q I : Nat} (hm : 0 < m) (hq : q = if ch p = 33 then p + 1 else p) (hI : I = b + (if ch p = 33 then 1 else 0)) (h : ¬ ctc (ch q) < 0) (hT : T = upd (upd td I (td I ||| shl 1 (ctc (ch q)))) (b + 2) (upd td I (td I ||| shl 1 (ctc (ch q))) (b + 2) + 1)) (hg : T (b + 2) ≥ 8 ∨ (¬ ch (q + 1) = 33 ∧ ctc (ch (q + 1)) < 0)) : rbF ch b m p td = (true, q + 1, T) := by
  obtain ⟨k, rfl⟩ : ∃ k, m = k + 1 := ⟨m - 1, by omega⟩
  subst hT
  subst hq
  subst hI
  simp only [rbF]
  rw [if_neg h, if_neg]
  rintro ⟨h1, h2⟩
  rcases hg with hg | ⟨hg, hg2⟩
  · exact Int32.not_lt.mpr hg h1
  · rcases h2 with h2 | h2
    · exact hg h2
    · exact h2 hg2
theorem tdup {t T : Nat → Int32} {b I m : Nat} {x : Int32} (hI : I ≠ b + 2) (h : t (b + 2) = nI (8 - m)) (h0 : 0 < m) (h1 : m ≤ 8) (hT : T = upd (upd t I x) (b + 2) (upd t I x (b + 2) + 1)) : T (b + 2) = nI (8 - (m - 1)) := by
  subst hT
  rw [upd_s, upd_o (Ne.symm hI), h, nI_1]
  congr 1
  omega
theorem td_go {T : Nat → Int32} {b m : Nat} (h : T (b + 2) = nI (8 - (m - 1))) (h0 : 0 < m) (h1 : m ≤ 8) (hg : ¬ T (b + 2) ≥ 8) : 0 < m - 1 := by
  rcases Nat.eq_zero_or_pos (m - 1) with q | q
  · rw [h, q] at hg
    exact absurd (show nI 8 ≤ nI (8 - 0) from Int32.le_refl _) hg
  · exact q
theorem rbF_le {pd : Nat → Int32} {N b : Nat} (m : Nat) : ∀ (p : Nat) (td : Nat → Int32), p ≤ N → (rbF (chr pd N) b m p td).2.1 ≤ N ∧ p ≤ (rbF (chr pd N) b m p td).2.1 ∧ ((rbF (chr pd N) b m p td).1 = true → 0 < m → p < (rbF (chr pd N) b m p td).2.1) := by
  induction m with
  | zero => intro p td h; exact ⟨h, Nat.le_refl _, fun _ q => absurd q (by decide)⟩
  | succ m ih =>
    intro p td h
    obtain ⟨q, eq⟩ : ∃ q, q = if chr pd N p = 33 then p + 1 else p := ⟨_, rfl⟩
    have hq : p ≤ q ∧ q ≤ N := by
      have := nx_le (pd := pd) (c := 33) h (by decide)
      unfold nx at this
      rw [eq]
      refine ⟨?_, this⟩
      split <;> omega
    by_cases hc : ctc (chr pd N q) < 0
    · rw [rbF_f (Nat.succ_pos m) eq hc]
      exact ⟨hq.2, hq.1, fun q => by cases q⟩
    · have hlt := ctc_lt hc
      obtain ⟨I, eI⟩ : ∃ I, I = b + (if chr pd N p = 33 then 1 else 0) := ⟨_, rfl⟩
      obtain ⟨T, eT⟩ : ∃ T, T = upd (upd td I (td I ||| shl 1 (ctc (chr pd N q)))) (b + 2) (upd td I (td I ||| shl 1 (ctc (chr pd N q))) (b + 2) + 1) := ⟨_, rfl⟩
      by_cases hg : T (b + 2) < 8 ∧ (chr pd N (q + 1) = 33 ∨ ¬ ctc (chr pd N (q + 1)) < 0)
      · rw [rbF_g (Nat.succ_pos m) eq eI hc eT hg, show m + 1 - 1 = m by omega]
        obtain ⟨a1, a2, a3⟩ := ih (q + 1) T (by omega)
        exact ⟨a1, by omega, fun _ _ => by omega⟩
      · have hg2 : T (b + 2) ≥ 8 ∨ (¬ chr pd N (q + 1) = 33 ∧ ctc (chr pd N (q + 1)) < 0) := by
          by_cases g1 : T (b + 2) < 8
          · refine Or.inr ⟨fun g2 => hg ⟨g1, Or.inl g2⟩, ?_⟩
            by_cases g3 : ctc (chr pd N (q + 1)) < 0
            · exact g3
            · exact absurd ⟨g1, Or.inr g3⟩ hg
          · exact Or.inl (Int32.not_lt.mp g1)
        rw [rbF_e (Nat.succ_pos m) eq eI hc eT hg2]
        exact ⟨show q + 1 ≤ N by omega, show p ≤ q + 1 by omega, fun _ _ => show p < q + 1 by omega⟩
theorem rb1_le {pd : Nat → Int32} {N : Nat} {s : Q4} (h : s.1 ≤ N) : (rb1 (chr pd N) s).2.1 ≤ N ∧ s.1 ≤ (rb1 (chr pd N) s).2.1 ∧ ((rb1 (chr pd N) s).1 = true → s.1 < (rb1 (chr pd N) s).2.1 ∧ (rb1 (chr pd N) s).2.2.2 = s.2.2 + 1) ∧ (rb1 (chr pd N) s).2.2.2 ≤ s.2.2 + 1 := by
  obtain ⟨h1, h2, h3⟩ := rbF_le (pd := pd) (N := N) (b := 3 * s.2.2) 8 s.1 (upd (upd (upd s.2.1 (3 * s.2.2) 0) (3 * s.2.2 + 1) 0) (3 * s.2.2 + 2) 0) h
  simp only [rb1]
  refine ⟨h1, h2, fun q => ⟨h3 q (by decide), if_pos q⟩, ?_⟩
  split <;> omega
theorem rbs_le {pd : Nat → Int32} {N : Nat} (m : Nat) : ∀ (r : Bool × Q4), r.2.1 ≤ N → (rbs (chr pd N) m r).2.1 ≤ N ∧ r.2.1 ≤ (rbs (chr pd N) m r).2.1 := by
  induction m with
  | zero => intro r h; exact ⟨h, Nat.le_refl _⟩
  | succ m ih =>
    intro r h
    simp only [rbs]
    split
    next hc =>
      have hlt := chr_lt (pd := pd) (N := N) (p := r.2.1) (by rw [hc.2.2]; decide)
      obtain ⟨a1, a2, -⟩ := rb1_le (pd := pd) (N := N) (s := (r.2.1 + 1, r.2.2)) (show r.2.1 + 1 ≤ N by omega)
      have a2' : r.2.1 + 1 ≤ (rb1 (chr pd N) (r.2.1 + 1, r.2.2)).2.1 := a2
      obtain ⟨b1, b2⟩ := ih _ a1
      exact ⟨b1, by omega⟩
    next => exact ⟨h, Nat.le_refl _⟩
theorem inr_up {x : Int32} {lo hi : Nat} (hhi : hi < 2 ^ 31) (hlo : lo ≤ hi) (h : inr x (nI lo) (nI hi) = true) : ∃ j : Nat, lo ≤ j ∧ j ≤ hi ∧ x = nI j := by
  have h0 : inr x 0 (nI hi) = true := by
    unfold inr at h ⊢
    simp only [Bool.and_eq_true, decide_eq_true_eq] at h ⊢
    exact ⟨Int32.le_trans (nI_pos' (by omega)) h.1, h.2⟩
  obtain ⟨j, hj, rfl⟩ := inr_nn (n := hi) (nI_toInt hhi) h0
  refine ⟨j, ?_, hj, rfl⟩
  unfold inr at h
  simp only [Bool.and_eq_true, decide_eq_true_eq] at h
  exact (nI_leI (by omega) (by omega)).mp h.1
theorem rel_rk {x : Int32} (h : inr x 65 74 = true) : x - 65 = nI (rk (x - 65)) ∧ rk (x - 65) < 10 := by
  obtain ⟨j, h1, h2, rfl⟩ := inr_up (lo := 65) (hi := 74) (by decide) (by decide) h
  rw [show (65 : Int32) = nI 65 from rfl, pk_sub h1]
  unfold rk
  rw [nI_clamp (by omega)]
  exact ⟨rfl, by omega⟩
theorem rc1_le {pd : Nat → Int32} {N : Nat} {s : Q5} (h : s.1 ≤ N) : (rc1 (chr pd N) s).2.1 ≤ N ∧ s.1 ≤ (rc1 (chr pd N) s).2.1 ∧ ((rc1 (chr pd N) s).1 = true → s.1 < (rc1 (chr pd N) s).2.1 ∧ (rc1 (chr pd N) s).2.2.1 < 10) := by
  unfold rc1
  split
  next hc =>
    have h1 : s.1 < N := by
      apply chr_lt (pd := pd)
      intro q
      rw [q] at hc
      exact absurd hc (by decide)
    have hr := (rel_rk hc).2
    simp only
    split
    next h2 =>
      have h2' := chr_lt (pd := pd) (N := N) (p := s.1 + 1) (by rw [h2]; decide)
      split
      next h3 =>
        have h3' := chr_lt (pd := pd) (N := N) (p := s.1 + 2) (by rw [h3]; decide)
        exact ⟨show s.1 + 3 ≤ N by omega, show s.1 ≤ s.1 + 3 by omega, fun _ => ⟨show s.1 < s.1 + 3 by omega, hr⟩⟩
      next =>
        have a0 := rb1_le (pd := pd) (N := N) (s := (s.1 + 2, s.2.2.1, 0)) (show s.1 + 2 ≤ N by omega)
        have a2 : s.1 + 2 ≤ (rb1 (chr pd N) (s.1 + 2, s.2.2.1, 0)).2.1 := a0.2.1
        obtain ⟨b1, b2⟩ := rbs_le (pd := pd) (N := N) 6 (rb1 (chr pd N) (s.1 + 2, s.2.2.1, 0)) a0.1
        refine ⟨b1, ?_, fun _ => ⟨?_, hr⟩⟩
        · show s.1 ≤ (rbs (chr pd N) 6 (rb1 (chr pd N) (s.1 + 2, s.2.2.1, 0))).2.1
          omega
        · show s.1 < (rbs (chr pd N) 6 (rb1 (chr pd N) (s.1 + 2, s.2.2.1, 0))).2.1
          omega
    next => exact ⟨show s.1 + 1 ≤ N by omega, show s.1 ≤ s.1 + 1 by omega, fun q => by cases q⟩
  next => exact ⟨h, Nat.le_refl _, fun q => by cases q⟩
theorem rbs_stop {ch : Nat → Int32} {r : Bool × Q4} (m : Nat) (h : ¬ (r.1 = true ∧ r.2.2.2 < 6 ∧ ch r.2.1 = 43)) : rbs ch m r = r := by
  cases m with
  | zero => rfl
  | succ m => simp only [rbs]; rw [if_neg h]
theorem rbs_go {ch : Nat → Int32} {r : Bool × Q4} {m : Nat} (hm : 0 < m) (h : r.1 = true ∧ r.2.2.2 < 6 ∧ ch r.2.1 = 43) : rbs ch m r = rbs ch (m - 1) (rb1 ch (r.2.1 + 1, r.2.2.1, r.2.2.2)) := by
  obtain ⟨k, rfl⟩ : ∃ k, m = k + 1 := ⟨m - 1, by omega⟩
  rw [show k + 1 - 1 = k by omega]
  simp only [rbs]
  rw [if_pos h]
theorem nx_t {pd : Nat → Int32} {N p : Nat} {c : Int32} (h : decide (chr pd N p = c) = true) : nI (nx pd N p c) = nI (p + 1) := by
  unfold nx
  rw [if_pos (of_decide_eq_true h)]
theorem nx_f {pd : Nat → Int32} {N p : Nat} {c : Int32} (h : decide (chr pd N p = c) = false) : nI (nx pd N p c) = nI p := by
  unfold nx
  rw [if_neg (of_decide_eq_false h)]
theorem rc1_0 {ch : Nat → Int32} {s : Q5} (h : inr (ch s.1) 65 74 = false) : rc1 ch s = (false, s.1, s.2.1, s.2.2.1, 0) := if_neg (Bool.eq_false_iff.mp h)
theorem rc1_1 {ch : Nat → Int32} {s : Q5} (h : inr (ch s.1) 65 74 = true) (h2 : ¬ ch (s.1 + 1) = 61) : rc1 ch s = (false, s.1 + 1, rk (ch s.1 - 65), s.2.2.1, 0) := (if_pos h).trans (if_neg h2)
theorem rc1_2 {ch : Nat → Int32} {s : Q5} (h : inr (ch s.1) 65 74 = true) (h2 : ch (s.1 + 1) = 61) (h3 : ch (s.1 + 2) = 48) : rc1 ch s = (true, s.1 + 3, rk (ch s.1 - 65), s.2.2.1, 0) := (if_pos h).trans ((if_pos h2).trans (if_pos h3))
theorem rc1_3 {ch : Nat → Int32} {s : Q5} (h : inr (ch s.1) 65 74 = true) (h2 : ch (s.1 + 1) = 61) (h3 : ¬ ch (s.1 + 2) = 48) : rc1 ch s = ((rbs ch 6 (rb1 ch (s.1 + 2, s.2.2.1, 0))).1, (rbs ch 6 (rb1 ch (s.1 + 2, s.2.2.1, 0))).2.1, rk (ch s.1 - 65), (rbs ch 6 (rb1 ch (s.1 + 2, s.2.2.1, 0))).2.2.1, (rbs ch 6 (rb1 ch (s.1 + 2, s.2.2.1, 0))).2.2.2) := (if_pos h).trans ((if_pos h2).trans (if_neg h3))
theorem ff_f {ch : Nat → Int32} {n m : Nat} {s : Q5} (hm : 0 < m) (h : (rc1 ch s).1 = false) : ff ch n m s = (nI (rc1 ch s).2.1, (rc1 ch s).2) := by
  obtain ⟨k, rfl⟩ : ∃ k, m = k + 1 := ⟨m - 1, by omega⟩
  simp only [ff]
  rw [if_neg (Bool.eq_false_iff.mp h)]
theorem ff_n {ch : Nat → Int32} {n m : Nat} {s : Q5} (hm : 0 < m) (h : (rc1 ch s).1 = true) (h2 : (rc1 ch s).2.1 = n) : ff ch n m s = (-6, (rc1 ch s).2) := by
  obtain ⟨k, rfl⟩ : ∃ k, m = k + 1 := ⟨m - 1, by omega⟩
  simp only [ff]
  rw [if_pos h, if_pos h2]
theorem ff_c {ch : Nat → Int32} {n m : Nat} {s : Q5} (hm : 0 < m) (h : (rc1 ch s).1 = true) (h2 : ¬ (rc1 ch s).2.1 = n) (h3 : ch (rc1 ch s).2.1 = 59) : ff ch n m s = ff ch n (m - 1) ((rc1 ch s).2.1 + 1, (rc1 ch s).2.2.1, (rc1 ch s).2.2.2.1, 0) := by
  obtain ⟨k, rfl⟩ : ∃ k, m = k + 1 := ⟨m - 1, by omega⟩
  rw [show k + 1 - 1 = k by omega]
  simp only [ff]
  rw [if_pos h, if_neg h2, if_pos h3]
theorem ff_e {ch : Nat → Int32} {n m : Nat} {s : Q5} (hm : 0 < m) (h : (rc1 ch s).1 = true) (h2 : ¬ (rc1 ch s).2.1 = n) (h3 : ¬ ch (rc1 ch s).2.1 = 59) : ff ch n m s = (nI (rc1 ch s).2.1, (rc1 ch s).2) := by
  obtain ⟨k, rfl⟩ : ∃ k, m = k + 1 := ⟨m - 1, by omega⟩
  simp only [ff]
  rw [if_pos h, if_neg h2, if_neg h3]
theorem ff_ok {ch : Nat → Int32} {n m : Nat} {s : Q5} (hm : 0 < m) (h : (ff ch n m s).1 = -6) (hp : (rc1 ch s).2.1 < 2 ^ 31) : (rc1 ch s).1 = true := by
  cases h2 : (rc1 ch s).1 with
  | true => rfl
  | false =>
    rw [ff_f hm h2] at h
    have h3 : nI (rc1 ch s).2.1 = -6 := h
    exact absurd (show nI (rc1 ch s).2.1 < 0 by rw [h3]; decide) (nI_pos hp)
/-- a pad without a fault: behind a circuit the end, or the next circuit, without a fault, too -/
theorem ff_next {ch : Nat → Int32} {n m : Nat} {s : Q5} (hm : 0 < m) (h : (ff ch n m s).1 = -6) (hp : (rc1 ch s).2.1 < 2 ^ 31) : (rc1 ch s).2.1 = n ∨ (ch (rc1 ch s).2.1 = 59 ∧ (ff ch n (m - 1) ((rc1 ch s).2.1 + 1, (rc1 ch s).2.2.1, (rc1 ch s).2.2.2.1, 0)).1 = -6) := by
  have h1 := ff_ok hm h hp
  by_cases h2 : (rc1 ch s).2.1 = n
  · exact Or.inl h2
  · by_cases h3 : ch (rc1 ch s).2.1 = 59
    · rw [ff_c hm h1 h2 h3] at h
      exact Or.inr ⟨h3, h⟩
    · rw [ff_e hm h1 h2 h3] at h
      have h4 : nI (rc1 ch s).2.1 = -6 := h
      exact absurd (show nI (rc1 ch s).2.1 < 0 by rw [h4]; decide) (nI_pos hp)
theorem rdM_stop {ch : Nat → Int32} {n : Nat} (m : Nat) {s : Q5} {v : Nat → Int32} (h : ¬ s.1 < n) : rdM ch n m s v = (s, v) := by
  cases m with
  | zero => rfl
  | succ m => simp only [rdM]; rw [if_neg h]
theorem rdM_go {ch : Nat → Int32} {n m : Nat} {s : Q5} {v : Nat → Int32} (hm : 0 < m) (h : s.1 < n) {r : Q5} (hr : r = (rc1 ch (s.1, s.2.1, s.2.2.1, 0)).2) : rdM ch n m s v = rdM ch n (m - 1) (if ch r.1 = 59 then r.1 + 1 else r.1, r.2) (pcF r.2.2.1 r.2.2.2 r.2.1 v) := by
  obtain ⟨k, rfl⟩ : ∃ k, m = k + 1 := ⟨m - 1, by omega⟩
  subst hr
  rw [show k + 1 - 1 = k by omega]
  simp only [rdM]
  rw [if_pos h]
theorem rbs_nb {pd : Nat → Int32} {N : Nat} (m : Nat) : ∀ (r : Bool × Q4), r.2.1 ≤ N → r.2.2.2 ≤ 6 → (rbs (chr pd N) m r).2.2.2 ≤ 6 := by
  induction m with
  | zero => intro r _ h; exact h
  | succ m ih =>
    intro r h0 h
    simp only [rbs]
    split
    next hc =>
      have hlt := chr_lt (pd := pd) (N := N) (p := r.2.1) (by rw [hc.2.2]; decide)
      obtain ⟨a1, a2, a3, a4⟩ := rb1_le (pd := pd) (N := N) (s := (r.2.1 + 1, r.2.2)) (show r.2.1 + 1 ≤ N by omega)
      have a4' : (rb1 (chr pd N) (r.2.1 + 1, r.2.2)).2.2.2 ≤ r.2.2.2 + 1 := a4
      exact ih _ a1 (by omega)
    next => exact h
theorem rc1_nb {pd : Nat → Int32} {N : Nat} {s : Q5} (h : s.1 ≤ N) : (rc1 (chr pd N) s).2.2.2.2 ≤ 6 := by
  cases h1 : inr (chr pd N s.1) 65 74 with
  | false => rw [rc1_0 h1]; exact Nat.zero_le 6
  | true =>
    by_cases h2 : chr pd N (s.1 + 1) = 61
    · by_cases h3 : chr pd N (s.1 + 2) = 48
      · rw [rc1_2 h1 h2 h3]; exact Nat.zero_le 6
      · rw [rc1_3 h1 h2 h3]
        have h2' := chr_lt (pd := pd) (N := N) (p := s.1 + 1) (by rw [h2]; decide)
        have a0 := rb1_le (pd := pd) (N := N) (s := (s.1 + 2, s.2.2.1, 0)) (show s.1 + 2 ≤ N by omega)
        have a4 : (rb1 (chr pd N) (s.1 + 2, s.2.2.1, 0)).2.2.2 ≤ 0 + 1 := a0.2.2.2
        exact rbs_nb 6 _ a0.1 (by omega)
    · rw [rc1_1 h1 h2]; exact Nat.zero_le 6
