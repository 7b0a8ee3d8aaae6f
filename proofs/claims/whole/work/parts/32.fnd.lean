/-! PURE, reach: both searches find the good set that is least by (count of bits, number) -/
def pcb (j : Nat) : Nat := (bits6 (nI j)).toNatClampNeg
theorem pcb_ok {j : Nat} (hj : j < 64) : bcF (nI j) = nI (pcb j) ∧ bits6 (nI j) = nI (pcb j) ∧ pcb j ≤ 6 := by
  have h : ∀ k : Fin 64, bcF (nI k.val) = nI (pcb k.val) ∧ bits6 (nI k.val) = nI (pcb k.val) ∧ pcb k.val ≤ 6 := by decide +kernel
  exact h ⟨j, hj⟩
theorem nI_inj {a b : Nat} (ha : a < 2 ^ 31) (hb : b < 2 ^ 31) (h : nI a = nI b) : a = b := by
  rw [← nI_clamp ha, ← nI_clamp hb, h]
/-- x is the least good one of those in S, or none is -/
def Least (good : Nat → Prop) (S : Nat → Prop) (x : Int32) : Prop := (x = -6 ∧ ∀ j, S j → ¬ good j) ∨ ∃ j, j < 64 ∧ S j ∧ good j ∧ x = nI j ∧ ∀ i, S i → good i → pcb j < pcb i ∨ (pcb j = pcb i ∧ j ≤ i)
theorem Least.un {good S : Nat → Prop} {x y : Int32} (h1 : Least good S x) (h2 : Least good S y) : x = y := by
  rcases h1 with ⟨rfl, h1⟩ | ⟨j, hj, sj, gj, rfl, mj⟩
  · rcases h2 with ⟨rfl, -⟩ | ⟨i, hi, si, gi, rfl, mi⟩
    · rfl
    · exact absurd gi (h1 i si)
  · rcases h2 with ⟨rfl, h2⟩ | ⟨i, hi, si, gi, rfl, mi⟩
    · exact absurd gj (h2 j sj)
    · rcases mj i si gi with a | ⟨a, a2⟩ <;> rcases mi j sj gj with b | ⟨b, b2⟩ <;> first | omega | (rw [show j = i by omega])
theorem least_M {v : Nat → Int32} {r : Int32} {good : Nat → Prop} (hg : ∀ j, j < 64 → (good j ↔ (¬ rsR v (nI j) 0 = -6 ∧ hs (rsR v (nI j) 0) r = true))) (c : Nat) (hc : c ≤ 64) : Least good (fun j => 64 - c ≤ j ∧ j < 64) (fndM v r c) := by
  induction c with
  | zero => exact Or.inl ⟨rfl, fun j hj => by omega⟩
  | succ c ih =>
    have ih := ih (by omega)
    simp only [fndM]
    have hk : 63 - c < 64 := by omega
    have hgk := hg (63 - c) hk
    by_cases g1 : good (63 - c)
    · obtain ⟨a1, a2⟩ := hgk.mp g1
      rw [decide_eq_false a1, a2]
      rcases ih with ⟨e, hn⟩ | ⟨j, hj, sj, gj, e, mj⟩
      · rw [e, decide_eq_true rfl]
        refine Or.inr ⟨63 - c, hk, ⟨by omega, by omega⟩, g1, rfl, fun i si gi => ?_⟩
        by_cases hi : i = 63 - c
        · subst hi; exact Or.inr ⟨rfl, Nat.le_refl _⟩
        · exact absurd gi (hn i ⟨by omega, by omega⟩)
      · rw [e, decide_eq_false (nI_n6 (by omega)), (pcb_ok hk).2.1, (pcb_ok hj).2.1]
        have p1 := (pcb_ok hk).2.2
        have p2 := (pcb_ok hj).2.2
        by_cases hle : pcb (63 - c) ≤ pcb j
        · rw [decide_eq_true (nI_le hle (by omega))]
          refine Or.inr ⟨63 - c, hk, ⟨by omega, by omega⟩, g1, rfl, fun i si gi => ?_⟩
          by_cases hi : i = 63 - c
          · subst hi; exact Or.inr ⟨rfl, Nat.le_refl _⟩
          · have := mj i ⟨by omega, by omega⟩ gi
            omega
        · rw [decide_eq_false (nI_ge (by omega) (by omega))]
          refine Or.inr ⟨j, hj, ⟨by omega, by omega⟩, gj, rfl, fun i si gi => ?_⟩
          by_cases hi : i = 63 - c
          · subst hi; exact Or.inl (by omega)
          · exact mj i ⟨by omega, by omega⟩ gi
    · have h0 : (!decide (rsR v (nI (63 - c)) 0 = -6) && hs (rsR v (nI (63 - c)) 0) r) = false := by
        cases d : (!decide (rsR v (nI (63 - c)) 0 = -6) && hs (rsR v (nI (63 - c)) 0) r)
        · rfl
        · rw [Bool.and_eq_true] at d
          refine absurd (hgk.mpr ⟨fun q => ?_, d.2⟩) g1
          rw [decide_eq_true q] at d
          exact absurd d.1 (by decide)
      rw [h0]
      rcases ih with ⟨e, hn⟩ | ⟨j, hj, sj, gj, e, mj⟩
      · exact Or.inl ⟨e, fun i si gi => by
          by_cases hi : i = 63 - c
          · subst hi; exact g1 gi
          · exact hn i ⟨by omega, by omega⟩ gi⟩
      · refine Or.inr ⟨j, hj, ⟨by omega, by omega⟩, gj, e, fun i si gi => ?_⟩
        by_cases hi : i = 63 - c
        · subst hi; exact absurd gi g1
        · exact mj i ⟨by omega, by omega⟩ gi
/-- one size: the first good one from j on with so many bits -/
theorem in_I {v : Nat → Int32} {r : Int32} {good : Nat → Prop} (hg : ∀ j, j < 64 → (good j ↔ iuI (upR (upd v 2 (nI j))) r = true)) {s : Nat} (hs6 : s ≤ 6) (m j : Nat) (hm : j + m = 64) : (inI v r s m j = -6 ∧ ∀ i, j ≤ i → i < 64 → pcb i = s → ¬ good i) ∨ ∃ k, j ≤ k ∧ k < 64 ∧ pcb k = s ∧ good k ∧ inI v r s m j = nI k ∧ ∀ i, j ≤ i → i < 64 → pcb i = s → good i → k ≤ i := by
  induction m generalizing j with
  | zero => exact Or.inl ⟨rfl, fun i h1 h2 => by omega⟩
  | succ m ih =>
    have hj : j < 64 := by omega
    have pj := pcb_ok hj
    simp only [inI]
    by_cases c1 : bcF (nI j) = nI s ∧ iuI (upR (upd v 2 (nI j))) r = true
    · rw [if_pos c1]
      have e : pcb j = s := nI_inj (by omega) (by omega) (pj.1.symm.trans c1.1)
      exact Or.inr ⟨j, Nat.le_refl j, hj, e, (hg j hj).mpr c1.2, rfl, fun i h1 _ _ _ => h1⟩
    · rw [if_neg c1]
      have hno : pcb j = s → ¬ good j := fun e g => c1 ⟨by rw [pj.1, e], (hg j hj).mp g⟩
      rcases ih (j + 1) (by omega) with ⟨e, hn⟩ | ⟨k, h1, h2, h3, h4, h5, h6⟩
      · refine Or.inl ⟨e, fun i a b c => ?_⟩
        by_cases hi : i = j
        · subst hi; exact hno c
        · exact hn i (by omega) b c
      · refine Or.inr ⟨k, by omega, h2, h3, h4, h5, fun i a b c d => ?_⟩
        by_cases hi : i = j
        · subst hi; exact absurd d (hno c)
        · exact h6 i (by omega) b c d
theorem least_I {v : Nat → Int32} {r : Int32} {good : Nat → Prop} (hg : ∀ j, j < 64 → (good j ↔ iuI (upR (upd v 2 (nI j))) r = true)) (m s : Nat) (hm : s + m = 7) : Least good (fun j => j < 64 ∧ s ≤ pcb j) (outI v r m s) := by
  induction m generalizing s with
  | zero => exact Or.inl ⟨rfl, fun j hj => by have := (pcb_ok hj.1).2.2; have := hj.2; omega⟩
  | succ m ih =>
    simp only [outI]
    rcases in_I hg (s := s) (by omega) 64 0 (by omega) with ⟨e, hn⟩ | ⟨k, h1, h2, h3, h4, h5, h6⟩
    · rw [if_pos e]
      rcases ih (s + 1) (by omega) with ⟨e2, hn2⟩ | ⟨j, hj, sj, gj, e2, mj⟩
      · refine Or.inl ⟨e2, fun i si gi => ?_⟩
        by_cases hi : pcb i = s
        · exact hn i (Nat.zero_le _) si.1 hi gi
        · exact hn2 i ⟨si.1, by have := si.2; omega⟩ gi
      · refine Or.inr ⟨j, hj, ⟨hj, by have := sj.2; omega⟩, gj, e2, fun i si gi => ?_⟩
        by_cases hi : pcb i = s
        · exact absurd gi (hn i (Nat.zero_le _) si.1 hi)
        · exact mj i ⟨si.1, by have := si.2; omega⟩ gi
    · rw [h5, if_neg (nI_n6 (by omega))]
      refine Or.inr ⟨k, h2, ⟨h2, by omega⟩, h4, rfl, fun i si gi => ?_⟩
      by_cases hi : pcb i = s
      · exact Or.inr ⟨by omega, h6 i (Nat.zero_le _) si.1 hi gi⟩
      · exact Or.inl (by have := si.2; omega)
theorem fndI_fndM (v : Nat → Int32) (r : Int32) : fndI v r = fndM v r 64 := by
  have h2 := least_M (v := v) (r := r) (good := fun j => ¬ rsR v (nI j) 0 = -6 ∧ hs (rsR v (nI j) 0) r = true) (fun j _ => Iff.rfl) 64 (Nat.le_refl _)
  have h1 := least_I (v := v) (r := r) (good := fun j => ¬ rsR v (nI j) 0 = -6 ∧ hs (rsR v (nI j) 0) r = true) (fun j _ => by
    rw [rsR_upR]
    have g : ∀ z : Int32, (¬ z = -6 ∧ hs z r = true) ↔ iuI z r = true := by
      intro z
      unfold iuI
      by_cases c : z = -6
      · rw [decide_eq_true c]; exact ⟨fun q => absurd c q.1, fun q => absurd (show false = true from q) (by decide)⟩
      · rw [decide_eq_false c]; exact ⟨fun q => q.2, fun q => ⟨c, q⟩⟩
    exact g _) 7 0 rfl
  have e : (fun j => 64 - 64 ≤ j ∧ j < 64) = fun j => j < 64 ∧ 0 ≤ pcb j := funext fun j => propext ⟨fun q => ⟨q.2, Nat.zero_le _⟩, fun q => ⟨by omega, q.1⟩⟩
  rw [e] at h2
  exact h1.un h2
