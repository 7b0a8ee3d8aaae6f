/-! PURE: what the reference reads doesn't hang on what it told before -/
theorem rbF_ind {ch : Nat → Int32} {b : Nat} (m : Nat) : ∀ (p : Nat) (T T' : Nat → Int32), T b = T' b → T (b + 1) = T' (b + 1) → T (b + 2) = T' (b + 2) →
    (rbF ch b m p T).1 = (rbF ch b m p T').1 ∧ (rbF ch b m p T).2.1 = (rbF ch b m p T').2.1 ∧ (∀ j, b ≤ j → j < b + 3 → (rbF ch b m p T).2.2 j = (rbF ch b m p T').2.2 j) ∧ ∀ j, j < b → (rbF ch b m p T).2.2 j = T j := by
  have three : ∀ (f g : Nat → Int32), f b = g b → f (b + 1) = g (b + 1) → f (b + 2) = g (b + 2) → ∀ j, b ≤ j → j < b + 3 → f j = g j := by
    intro f g h1 h2 h3 j a1 a2
    rcases (show j = b ∨ j = b + 1 ∨ j = b + 2 by omega) with rfl | rfl | rfl
    · exact h1
    · exact h2
    · exact h3
  induction m with
  | zero => intro p T T' h1 h2 h3; exact ⟨rfl, rfl, three T T' h1 h2 h3, fun _ _ => rfl⟩
  | succ m ih =>
    intro p T T' h1 h2 h3
    obtain ⟨q, eq⟩ : ∃ q, q = if ch p = 33 then p + 1 else p := ⟨_, rfl⟩
    by_cases hc : ctc (ch q) < 0
    · rw [rbF_f (td := T) (Nat.succ_pos m) eq hc, rbF_f (td := T') (Nat.succ_pos m) eq hc]
      exact ⟨rfl, rfl, three T T' h1 h2 h3, fun _ _ => rfl⟩
    · obtain ⟨I, eI⟩ : ∃ I, I = b + (if ch p = 33 then 1 else 0) := ⟨_, rfl⟩
      have hI : I = b ∨ I = b + 1 := by
        rw [eI]
        split
        · exact Or.inr rfl
        · exact Or.inl rfl
      obtain ⟨U, eU⟩ : ∃ U, U = upd (upd T I (T I ||| shl 1 (ctc (ch q)))) (b + 2) (upd T I (T I ||| shl 1 (ctc (ch q))) (b + 2) + 1) := ⟨_, rfl⟩
      obtain ⟨U', eU'⟩ : ∃ U, U = upd (upd T' I (T' I ||| shl 1 (ctc (ch q)))) (b + 2) (upd T' I (T' I ||| shl 1 (ctc (ch q))) (b + 2) + 1) := ⟨_, rfl⟩
      have u1 : U b = U' b := by rw [eU, eU']; rcases hI with rfl | rfl <;> simp [upd, h1]
      have u2 : U (b + 1) = U' (b + 1) := by rw [eU, eU']; rcases hI with rfl | rfl <;> simp [upd, h2]
      have u3 : U (b + 2) = U' (b + 2) := by rw [eU, eU']; rcases hI with rfl | rfl <;> simp [upd, h3]
      have u4 : ∀ j, j < b → U j = T j := by
        intro j hj
        rw [eU, upd_o (by omega), upd_o (by omega)]
      by_cases hg : U (b + 2) < 8 ∧ (ch (q + 1) = 33 ∨ ¬ ctc (ch (q + 1)) < 0)
      · rw [rbF_g (td := T) (Nat.succ_pos m) eq eI hc eU hg, rbF_g (td := T') (Nat.succ_pos m) eq eI hc eU' (by rw [← u3]; exact hg), show m + 1 - 1 = m by omega]
        obtain ⟨a1, a2, a3, a4⟩ := ih (q + 1) U U' u1 u2 u3
        exact ⟨a1, a2, a3, fun j hj => (a4 j hj).trans (u4 j hj)⟩
      · have hg2 : U (b + 2) ≥ 8 ∨ (¬ ch (q + 1) = 33 ∧ ctc (ch (q + 1)) < 0) := by
          by_cases g1 : U (b + 2) < 8
          · refine Or.inr ⟨fun g2 => hg ⟨g1, Or.inl g2⟩, ?_⟩
            by_cases g3 : ctc (ch (q + 1)) < 0
            · exact g3
            · exact absurd ⟨g1, Or.inr g3⟩ hg
          · exact Or.inl (Int32.not_lt.mp g1)
        rw [rbF_e (td := T) (Nat.succ_pos m) eq eI hc eU hg2, rbF_e (td := T') (Nat.succ_pos m) eq eI hc eU' (by rw [← u3]; exact hg2)]
        exact ⟨rfl, rfl, three U U' u1 u2 u3, u4⟩
/-- two states of the reading that agree in all that is told so far -/
def Sm4 (s s' : Q4) : Prop := s.1 = s'.1 ∧ s.2.2 = s'.2.2 ∧ ∀ j, j < 3 * s.2.2 → s.2.1 j = s'.2.1 j
theorem rb1_ind {ch : Nat → Int32} {s s' : Q4} (h : Sm4 s s') : (rb1 ch s).1 = (rb1 ch s').1 ∧ Sm4 (rb1 ch s).2 (rb1 ch s').2 := by
  obtain ⟨p, T, b⟩ := s
  obtain ⟨p', T', b'⟩ := s'
  obtain ⟨h1, h2, h3⟩ := h
  have h1' : p = p' := h1
  have h2' : b = b' := h2
  subst h1'
  subst h2'
  have z : ∀ (f g : Nat → Int32) (j : Nat), (j = 3 * b ∨ j = 3 * b + 1 ∨ j = 3 * b + 2) → upd (upd (upd f (3 * b) 0) (3 * b + 1) 0) (3 * b + 2) 0 j = upd (upd (upd g (3 * b) 0) (3 * b + 1) 0) (3 * b + 2) 0 j := by
    intro f g j hj
    rcases hj with rfl | rfl | rfl <;> simp [upd]
  have lo : ∀ (f : Nat → Int32) (j : Nat), j < 3 * b → upd (upd (upd f (3 * b) 0) (3 * b + 1) 0) (3 * b + 2) 0 j = f j := by
    intro f j hj
    rw [upd_o (by omega), upd_o (by omega), upd_o (by omega)]
  obtain ⟨a1, a2, a3, a4⟩ := rbF_ind (ch := ch) (b := 3 * b) 8 p (upd (upd (upd T (3 * b) 0) (3 * b + 1) 0) (3 * b + 2) 0) (upd (upd (upd T' (3 * b) 0) (3 * b + 1) 0) (3 * b + 2) 0) (z T T' _ (Or.inl rfl)) (z T T' _ (Or.inr (Or.inl rfl))) (z T T' _ (Or.inr (Or.inr rfl)))
  obtain ⟨-, -, -, a5⟩ := rbF_ind (ch := ch) (b := 3 * b) 8 p (upd (upd (upd T' (3 * b) 0) (3 * b + 1) 0) (3 * b + 2) 0) (upd (upd (upd T (3 * b) 0) (3 * b + 1) 0) (3 * b + 2) 0) (z T' T _ (Or.inl rfl)) (z T' T _ (Or.inr (Or.inl rfl))) (z T' T _ (Or.inr (Or.inr rfl)))
  refine ⟨a1, a2, ?_, fun j hj => ?_⟩
  · show (if _ then _ else _) = (if _ then _ else _)
    simp only
    rw [a1]
  · have hj2 : j < 3 * (b + 1) := by
      have : (rb1 ch (p, T, b)).2.2.2 ≤ b + 1 := by
        simp only [rb1]
        split <;> omega
      omega
    show (rbF ch (3 * b) 8 p (upd (upd (upd T (3 * b) 0) (3 * b + 1) 0) (3 * b + 2) 0)).2.2 j = (rbF ch (3 * b) 8 p (upd (upd (upd T' (3 * b) 0) (3 * b + 1) 0) (3 * b + 2) 0)).2.2 j
    rcases Nat.lt_or_ge j (3 * b) with q | q
    · rw [a4 j q, a5 j q, lo T j q, lo T' j q]
      exact h3 j q
    · exact a3 j q (by omega)
theorem rbs_ind {ch : Nat → Int32} (m : Nat) : ∀ (r r' : Bool × Q4), r.1 = r'.1 → Sm4 r.2 r'.2 → (rbs ch m r).1 = (rbs ch m r').1 ∧ Sm4 (rbs ch m r).2 (rbs ch m r').2 := by
  induction m with
  | zero => intro r r' h1 h2; exact ⟨h1, h2⟩
  | succ m ih =>
    intro r r' h1 h2
    by_cases hc : r.1 = true ∧ r.2.2.2 < 6 ∧ ch r.2.1 = 43
    · have hc' : r'.1 = true ∧ r'.2.2.2 < 6 ∧ ch r'.2.1 = 43 := by
        rw [← h1, ← h2.2.1, ← h2.1]; exact hc
      rw [rbs_go (Nat.succ_pos m) hc, rbs_go (Nat.succ_pos m) hc', show m + 1 - 1 = m by omega]
      have h3 := rb1_ind (ch := ch) (s := (r.2.1 + 1, r.2.2.1, r.2.2.2)) (s' := (r'.2.1 + 1, r'.2.2.1, r'.2.2.2)) ⟨by show r.2.1 + 1 = r'.2.1 + 1; rw [h2.1], h2.2.1, h2.2.2⟩
      exact ih _ _ h3.1 h3.2
    · have hc' : ¬ (r'.1 = true ∧ r'.2.2.2 < 6 ∧ ch r'.2.1 = 43) := by
        rw [← h1, ← h2.2.1, ← h2.1]; exact hc
      rw [rbs_stop _ hc, rbs_stop _ hc']
      exact ⟨h1, h2⟩
/-- what two readings of a circuit have in common -/
def Sm5 (r r' : Bool × Q5) : Prop := r.1 = r'.1 ∧ r.2.1 = r'.2.1 ∧ r.2.2.2.2 = r'.2.2.2.2 ∧ (∀ j, j < 3 * r.2.2.2.2 → r.2.2.2.1 j = r'.2.2.2.1 j) ∧ (r.1 = true → r.2.2.1 = r'.2.2.1)
theorem Sm5_of {z : Bool} {p p' k k' nb : Nat} {t t' : Nat → Int32} (h1 : p = p') (h2 : ∀ j, j < 3 * nb → t j = t' j) (h3 : z = true → k = k') : Sm5 (z, p, k, t, nb) (z, p', k', t', nb) := ⟨rfl, h1, rfl, h2, h3⟩
theorem Sm5_ofR {R R' : Bool × Q4} {k k' : Nat} (h1 : R.1 = R'.1) (h2 : Sm4 R.2 R'.2) (h3 : k = k') : Sm5 (R.1, R.2.1, k, R.2.2.1, R.2.2.2) (R'.1, R'.2.1, k', R'.2.2.1, R'.2.2.2) := ⟨h1, h2.1, h2.2.1, h2.2.2, fun _ => h3⟩
theorem no3 {t t' : Nat → Int32} : ∀ j, j < 3 * 0 → t j = t' j := fun j hj => absurd hj (Nat.not_lt_zero j)
theorem rc1_ind {ch : Nat → Int32} {s s' : Q5} (h : s.1 = s'.1) : Sm5 (rc1 ch s) (rc1 ch s') := by
  obtain ⟨p, k, t, b⟩ := s
  obtain ⟨p', k', t', b'⟩ := s'
  have h' : p = p' := h
  subst h'
  cases h1 : inr (ch p) 65 74 with
  | false =>
    rw [rc1_0 (s := (p, k, t, b)) h1, rc1_0 (s := (p, k', t', b')) h1]
    exact Sm5_of rfl no3 (fun q => by cases q)
  | true =>
    by_cases h2 : ch (p + 1) = 61
    · by_cases h3 : ch (p + 2) = 48
      · rw [rc1_2 (s := (p, k, t, b)) h1 h2 h3, rc1_2 (s := (p, k', t', b')) h1 h2 h3]
        exact Sm5_of rfl no3 (fun _ => rfl)
      · rw [rc1_3 (s := (p, k, t, b)) h1 h2 h3, rc1_3 (s := (p, k', t', b')) h1 h2 h3]
        have a := rb1_ind (ch := ch) (s := (p + 2, t, 0)) (s' := (p + 2, t', 0)) ⟨rfl, rfl, no3⟩
        have key := rbs_ind (ch := ch) 6 _ _ a.1 a.2
        exact Sm5_ofR key.1 key.2 rfl
    · rw [rc1_1 (s := (p, k, t, b)) h1 h2, rc1_1 (s := (p, k', t', b')) h1 h2]
      exact Sm5_of rfl no3 (fun q => by cases q)
theorem ff_ind {ch : Nat → Int32} {n : Nat} (m : Nat) : ∀ (s s' : Q5), s.1 = s'.1 → (ff ch n m s).1 = (ff ch n m s').1 := by
  induction m with
  | zero => intro s s' _; rfl
  | succ m ih =>
    intro s s' h
    obtain ⟨a1, a2, -⟩ := rc1_ind (ch := ch) (s := s) (s' := s') h
    cases h1 : (rc1 ch s).1 with
    | false =>
      rw [ff_f (Nat.succ_pos m) h1, ff_f (s := s') (Nat.succ_pos m) (by rw [← a1]; exact h1)]
      show nI _ = nI _
      rw [a2]
    | true =>
      have h1' : (rc1 ch s').1 = true := by rw [← a1]; exact h1
      by_cases h2 : (rc1 ch s).2.1 = n
      · rw [ff_n (Nat.succ_pos m) h1 h2, ff_n (s := s') (Nat.succ_pos m) h1' (by rw [← a2]; exact h2)]
      · have h2' : ¬ (rc1 ch s').2.1 = n := by rw [← a2]; exact h2
        by_cases h3 : ch (rc1 ch s).2.1 = 59
        · rw [ff_c (Nat.succ_pos m) h1 h2 h3, ff_c (s := s') (Nat.succ_pos m) h1' h2' (by rw [← a2]; exact h3), show m + 1 - 1 = m by omega]
          exact ih _ _ (by show (rc1 ch s).2.1 + 1 = (rc1 ch s').2.1 + 1; rw [a2])
        · rw [ff_e (Nat.succ_pos m) h1 h2 h3, ff_e (s := s') (Nat.succ_pos m) h1' h2' (by rw [← a2]; exact h3)]
          show nI _ = nI _
          rw [a2]
def ffA (ch : Nat → Int32) (N k : Nat) (td : Nat → Int32) : Int32 × Q5 := ff ch N (N + 1) (0, k, td, 0)
def rdA (ch : Nat → Int32) (N k : Nat) (td v : Nat → Int32) : Q5 × (Nat → Int32) := rdM ch N (N + 1) (0, (ffA ch N k td).2.2.1, (ffA ch N k td).2.2.2.1, (ffA ch N k td).2.2.2.2) v
def okA (ch : Nat → Int32) (N k : Nat) (td : Nat → Int32) : Bool := decide ((ffA ch N k td).1 = -6)
theorem pc18_s (td : Nat → Int32) (nb k j : Nat) (v : Nat → Int32) {x : Int32} (h : x = if j < 3 * nb then td j else 0) : upd (pc18 td nb k j v) (px k (5 + j)) x = pc18 td nb k (j + 1) v := by subst h; rfl
theorem h6_init {ch : Nat → Int32} {N k : Nat} {td : Nat → Int32} {k' : Nat} {td' : Nat → Int32} (c : decide ((ff ch N (N + 1) (0, k, td, 0)).1 = -6) = true) : (ff ch N (N + 1) (0, k', td', 0)).1 = -6 := (ff_ind (ch := ch) (n := N) (N + 1) (0, k', td', 0) (0, k, td, 0) rfl).trans (of_decide_eq_true c)
