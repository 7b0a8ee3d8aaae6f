/-! PURE: the fault, and what is read, both ways -/
theorem RS_fault {pd : Nat → Int32} {N : Nat} (m : Nat) : ∀ (p k : Nat) (v : Nat → Int32) (k' : Nat) (td : Nat → Int32) (nb : Nat), RI v → p ≤ N → N + 1 - p ≤ m → (RS pd N p (0, k, v)).1 = (ff (chr pd N) N m (p, k', td, nb)).1 := by
  induction m with
  | zero => intro p k v k' td nb hI hp hm; omega
  | succ m ih =>
    intro p k v k' td nb hI hp hm
    have key := L4 (pd := pd) (k := k) hI hp k' td nb
    obtain ⟨r1, r2, r3⟩ := rc1_le (pd := pd) (N := N) (s := (p, k', td, nb)) hp
    cases h1 : (rc1 (chr pd N) (p, k', td, nb)).1 with
    | false =>
      rw [ff_f (show 0 < m + 1 from Nat.succ_pos m) h1]
      exact key.1 h1
    | true =>
      obtain ⟨q, u', hq, e, hI', hc, hO, hE, hF⟩ := key.2 h1
      have r4 := (r3 h1).1
      have r5 : p < (rc1 (chr pd N) (p, k', td, nb)).2.1 := r4
      by_cases h2 : (rc1 (chr pd N) (p, k', td, nb)).2.1 = N
      · rw [ff_n (show 0 < m + 1 from Nat.succ_pos m) h1 h2, e, h2]
        exact (RS_end (s := (q, (rc1 (chr pd N) (p, k', td, nb)).2.2.1, u')) hq).1
      · by_cases h3 : chr pd N (rc1 (chr pd N) (p, k', td, nb)).2.1 = 59
        · rw [ff_c (show 0 < m + 1 from Nat.succ_pos m) h1 h2 h3, e, Nat.add_sub_cancel]
          rw [RS_go (hF.trans (if_pos h3))]
          exact ih _ _ u' _ _ _ hI' (by omega) (by omega)
        · rw [ff_e (show 0 < m + 1 from Nat.succ_pos m) h1 h2 h3, e]
          exact RS_no r1 (congrArg Prod.fst (hF.trans (if_neg h3))) (fun z => absurd z h2)
/-- a row with a circuit put in its place, place by place -/
theorem pc18_in (td : Nat → Int32) (nb k : Nat) (v : Nat → Int32) {i : Nat} (n : Nat) (hi : i < n) : pc18 td nb k n v (px k (5 + i)) = if i < 3 * nb then td i else 0 := by
  induction n with
  | zero => omega
  | succ n ih =>
    simp only [pc18]
    by_cases e : i = n
    · subst e; exact upd_s
    · rw [upd_o (by unfold px; omega)]
      exact ih (by omega)
theorem pc18_out (td : Nat → Int32) (nb k : Nat) (v : Nat → Int32) {x : Nat} (n : Nat) (h : ∀ j, j < n → x ≠ px k (5 + j)) : pc18 td nb k n v x = v x := by
  induction n with
  | zero => rfl
  | succ n ih =>
    simp only [pc18]
    rw [upd_o (h n (Nat.lt_succ_self n))]
    exact ih fun j hj => h j (by omega)
theorem sim_pcF {v f u td : Nat → Int32} {nb k : Nat} (hS : Sim v f) (hI : RI u) (hk : k < 10) (hnb : nb ≤ 6) (hc : cnt u k = nb) (hO : OT k v u) (hE : EA k (3 * nb) u td) : Sim u (pcF td nb k f) := by
  have h4 : u (px k 4) = nI nb := by rw [(hI.1 k hk).1, hc]
  have out : ∀ x, x ≠ px k 4 → (∀ j, j < 18 → x ≠ px k (5 + j)) → pcF td nb k f x = f x ∧ u x = v x := by
    intro x h1 h2
    refine ⟨?_, hO x h1 fun j hj => by have := h2 j hj; unfold px at this ⊢; omega⟩
    unfold pcF
    rw [pc18_out td nb k _ 18 h2, upd_o h1]
  refine ⟨fun i hi => ?_, fun r w hr hw => ?_, fun r b w hr hb hw => ?_⟩
  · obtain ⟨a, b⟩ := out i (Ne.symm (px_ne6 hi)) fun j hj => Ne.symm (px_ne6 hi)
    rw [a, b, hS.lo i hi]
  · by_cases e : r = k ∧ w = 4
    · obtain ⟨rfl, rfl⟩ := e
      rw [h4]
      unfold pcF
      rw [pc18_out td nb r _ 18 (fun j hj => by unfold px; omega), upd_s]
    · obtain ⟨a, b⟩ := out (px r w) (px_ne (by omega) (by decide) (by omega)) fun j hj => px_ne (by omega) (by omega) (by omega)
      rw [a, b, hS.pt r w hr hw]
  · have hb6 : b < 6 := Nat.lt_of_lt_of_le hb (hI.1 r hr).2
    by_cases e : r = k
    · subst e
      rw [hc] at hb
      have e1 : px r (5 + 3 * b + w) = px r (5 + (3 * b + w)) := by unfold px; omega
      have e2 : px r (5 + (3 * b + w)) = px r 5 + (3 * b + w) := by unfold px; omega
      rw [e1]
      unfold pcF
      rw [pc18_in td nb r _ 18 (by omega), if_pos (by omega), e2]
      exact (hE (3 * b + w) (by omega)).symm
    · have h5 : cnt u r = cnt v r := by
        unfold cnt
        rw [hO (px r 4) (px_ne (by decide) (by decide) (Or.inl e)) fun j hj => by unfold px; omega]
      rw [h5] at hb
      obtain ⟨a, b'⟩ := out (px r (5 + 3 * b + w)) (px_ne (by omega) (by decide) (Or.inl e)) fun j hj => px_ne (by omega) (by omega) (Or.inl e)
      rw [a, b', hS.br r b w hr hb hw]
theorem RS_read {pd : Nat → Int32} {N : Nat} (hN : N ≤ 64) (m : Nat) : ∀ (p k : Nat) (v f : Nat → Int32) (k' : Nat) (td : Nat → Int32) (nb : Nat), RI v → Sim v f → p ≤ N → N + 1 - p ≤ m → (ff (chr pd N) N m (p, k', td, 0)).1 = -6 → Sim (RS pd N p (0, k, v)).2.2.2 (rdM (chr pd N) N m (p, k', td, nb) f).2 := by
  induction m with
  | zero => intro p k v f k' td nb hI hS hp hm; omega
  | succ m ih =>
    intro p k v f k' td nb hI hS hp hm hff
    have key := L4 (pd := pd) (k := k) hI hp k' td 0
    obtain ⟨r1, r2, r3⟩ := rc1_le (pd := pd) (N := N) (s := (p, k', td, 0)) hp
    have hr31 : (rc1 (chr pd N) (p, k', td, 0)).2.1 < 2 ^ 31 := by omega
    have h1 := ff_ok (show 0 < m + 1 from Nat.succ_pos m) hff hr31
    obtain ⟨q, u', hq, e, hI', hc, hO, hE, hF⟩ := key.2 h1
    have r4 := (r3 h1).1
    have r6 := (r3 h1).2
    have r5 : p < (rc1 (chr pd N) (p, k', td, 0)).2.1 := r4
    have hnb := rc1_nb (pd := pd) (N := N) (s := (p, k', td, 0)) hp
    have hsim := sim_pcF hS hI' r6 hnb hc hO hE
    have hpN : p < N := by omega
    have hgoM : rdM (chr pd N) N (m + 1) (p, k', td, nb) f = rdM (chr pd N) N m (if chr pd N (rc1 (chr pd N) (p, k', td, 0)).2.1 = 59 then (rc1 (chr pd N) (p, k', td, 0)).2.1 + 1 else (rc1 (chr pd N) (p, k', td, 0)).2.1, (rc1 (chr pd N) (p, k', td, 0)).2.2) (pcF (rc1 (chr pd N) (p, k', td, 0)).2.2.2.1 (rc1 (chr pd N) (p, k', td, 0)).2.2.2.2 (rc1 (chr pd N) (p, k', td, 0)).2.2.1 f) := rdM_go (s := (p, k', td, nb)) (show 0 < m + 1 from Nat.succ_pos m) hpN rfl
    rw [hgoM, e]
    rcases ff_next (show 0 < m + 1 from Nat.succ_pos m) hff hr31 with h2 | ⟨h3, h4⟩
    · have hn59 : ¬ chr pd N (rc1 (chr pd N) (p, k', td, 0)).2.1 = 59 := by
        rw [h2]
        intro z
        have := chr_lt (pd := pd) (N := N) (p := N) (by rw [z]; decide)
        omega
      rw [if_neg hn59, rdM_stop m (by rw [h2]; exact Nat.lt_irrefl N), h2, (RS_end (s := (q, (rc1 (chr pd N) (p, k', td, 0)).2.2.1, u')) hq).2]
      exact hsim
    · rw [if_pos h3, RS_go (hF.trans (if_pos h3))]
      have hlt := chr_lt (pd := pd) (N := N) (p := (rc1 (chr pd N) (p, k', td, 0)).2.1) (by rw [h3]; decide)
      rw [Nat.add_sub_cancel] at h4
      exact ih ((rc1 (chr pd N) (p, k', td, 0)).2.1 + 1) (rc1 (chr pd N) (p, k', td, 0)).2.2.1 u' (pcF (rc1 (chr pd N) (p, k', td, 0)).2.2.2.1 (rc1 (chr pd N) (p, k', td, 0)).2.2.2.2 (rc1 (chr pd N) (p, k', td, 0)).2.2.1 f) (rc1 (chr pd N) (p, k', td, 0)).2.2.1 (rc1 (chr pd N) (p, k', td, 0)).2.2.2.1 (rc1 (chr pd N) (p, k', td, 0)).2.2.2.2 hI' hsim hlt (by omega) h4
/-- the two faults are one -/
theorem rd_fault {pd : Nat → Int32} {N : Nat} (k : Nat) (v : Nat → Int32) (k' : Nat) (td : Nat → Int32) (hI : RI v) : rdR pd N 0 (0, k, v) = (ff (chr pd N) N (N + 1) (0, k', td, 0)).1 := RS_fault (N + 1) 0 k v k' td 0 hI (Nat.zero_le N) (Nat.le_refl _)
/-- the two rooms that are read are one -/
theorem rd_read {pd : Nat → Int32} {N : Nat} (hN : N ≤ 64) (k : Nat) {v f : Nat → Int32} {k0 : Nat} {td0 : Nat → Int32} (k' : Nat) (td : Nat → Int32) (nb : Nat) (hI : RI v) (hS : Sim v f) (h : (ff (chr pd N) N (N + 1) (0, k0, td0, 0)).1 = -6) : Sim (rdS pd N 0 (0, k, v)).2.2 (rdM (chr pd N) N (N + 1) (0, k', td, nb) f).2 := RS_read hN (N + 1) 0 k v f k' td nb hI hS (Nat.zero_le N) (Nat.le_refl _) ((ff_ind (ch := chr pd N) (n := N) (N + 1) (0, k', td, 0) (0, k0, td0, 0) rfl).trans h)
