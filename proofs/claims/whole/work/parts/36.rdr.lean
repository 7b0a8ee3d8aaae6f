/-! PURE: the class' reader and the reference's, sign by sign -/
/-- the class' reading from place i on, of N signs -/
def RS (pd : Nat → Int32) (N i : Nat) (s : S4) : Int32 × S4 := (rdR pd (N - i) i s, rdS pd (N - i) i s)
theorem tkC_m1 (s : S4) : (tkC s (-1)).1 = false := by
  unfold tkC
  rw [if_neg (fun q => absurd q.1 (by decide)), if_pos ctc_m1]
theorem tk_m1 (s : S4) : (tk s (-1)).1 = false := by
  unfold tk
  split
  · unfold tkR
    rw [ctc_m1, if_neg (by decide)]
  · unfold tkE
    rw [if_neg (by decide)]
  · rw [if_neg (by decide)]
    exact tkC_m1 _
  · rw [if_neg (by decide)]
  · exact tkC_m1 _
  · exact tkC_m1 _
  · unfold tkN
    rw [if_neg (by decide), if_neg (by decide)]
    split
    · exact tkC_m1 _
    · rfl
theorem RS_go {pd : Nat → Int32} {N i : Nat} {s t : S4} (h : tk s (chr pd N i) = (true, t)) : RS pd N i s = RS pd N (i + 1) t := by
  have hi : i < N := by
    rcases Nat.lt_or_ge i N with q | q
    · exact q
    · exfalso
      have e : chr pd N i = -1 := if_neg (Nat.not_lt.mpr q)
      rw [e] at h
      have h1 := tk_m1 s
      rw [h] at h1
      cases h1
  have e : chr pd N i = pd i := if_pos hi
  rw [e] at h
  have h0 := rdR_t (ch := pd) (m := N - i) (i := i) (s := s) (by omega) (congrArg Prod.fst h)
  rw [h, show N - i - 1 = N - (i + 1) by omega] at h0
  exact Prod.ext h0.1 h0.2
theorem RS_no {pd : Nat → Int32} {N i : Nat} {s : S4} (hi : i ≤ N) (h : (tk s (chr pd N i)).1 = false) (h2 : i = N → ¬ (s.1 = 3 ∨ s.1 = 6)) : (RS pd N i s).1 = nI i := by
  rcases Nat.lt_or_ge i N with q | q
  · have e : chr pd N i = pd i := if_pos q
    rw [e] at h
    exact (rdR_f (ch := pd) (m := N - i) (by omega) h).1
  · have e : i = N := by omega
    subst e
    show rdR pd (i - i) i s = nI i
    rw [Nat.sub_self]
    exact if_neg (h2 rfl)
theorem RS_end {pd : Nat → Int32} {N : Nat} {s : S4} (h : s.1 = 3 ∨ s.1 = 6) : (RS pd N N s).1 = -6 ∧ (RS pd N N s).2 = s := by
  show rdR pd (N - N) N s = -6 ∧ rdS pd (N - N) N s = s
  rw [Nat.sub_self]
  exact ⟨if_pos h, rfl⟩
/-! signs -/
theorem ctc_rel {x : Int32} (h : inr x 65 74 = true) : ctc x = x - 65 := if_pos h
theorem ctc_cases (x : Int32) : ctc x = -1 ∨ ∃ j : Nat, j < 16 ∧ ctc x = nI j := by
  cases h : inr x 65 74 with
  | true =>
    obtain ⟨e, hk⟩ := rel_rk h
    exact Or.inr ⟨rk (x - 65), by omega, by rw [ctc_rel h]; exact e⟩
  | false =>
    cases h2 : inr x 97 102 with
    | true =>
      obtain ⟨j, h3, h4, rfl⟩ := inr_up (lo := 97) (hi := 102) (by decide) (by decide) h2
      refine Or.inr ⟨j - 97 + 10, by omega, ?_⟩
      refine (if_neg (by rw [h]; decide)).trans ((if_pos h2).trans ?_)
      rw [show (97 : Int32) = nI 97 from rfl, pk_sub h3, show (10 : Int32) = nI 10 from rfl, nI_add]
    | false => exact Or.inl ((if_neg (by rw [h]; decide)).trans (if_neg (by rw [h2]; decide)))
theorem ctc_n1 {x : Int32} (h : ctc x < 0) : ctc x = -1 := by
  rcases ctc_cases x with e | ⟨j, hj, e⟩
  · exact e
  · rw [e] at h
    exact absurd h (nI_pos (by omega))
theorem ctc_nm {x : Int32} (h : ¬ ctc x < 0) : ¬ ctc x = -1 := fun e => h (by rw [e]; decide)
theorem rel_ctc (x : Int32) : inr (ctc x) 0 9 = inr x 65 74 := by
  cases h : inr x 65 74 with
  | true =>
    obtain ⟨e, hk⟩ := rel_rk h
    rw [ctc_rel h, e]
    exact sw_inr (n := 9) rfl (by omega) (by decide)
  | false =>
    cases h2 : inr x 97 102 with
    | true =>
      obtain ⟨j, h3, h4, rfl⟩ := inr_up (lo := 97) (hi := 102) (by decide) (by decide) h2
      have e : ctc (nI j) = nI (j - 97 + 10) := by
        refine (if_neg (by rw [h]; decide)).trans ((if_pos h2).trans ?_)
        rw [show (97 : Int32) = nI 97 from rfl, pk_sub h3, show (10 : Int32) = nI 10 from rfl, nI_add]
      rw [e]
      unfold inr
      rw [decide_eq_false (p := nI (j - 97 + 10) ≤ 9) (nI_ge (a := 9) (by omega) (by omega)), Bool.and_false]
    | false =>
      have e : ctc x = -1 := (if_neg (by rw [h]; decide)).trans (if_neg (by rw [h2]; decide))
      rw [e]
      decide
theorem tkC_b {q r : Nat} {u : Nat → Int32} (hq : q ≠ 5) : tkC (q, r, u) 33 = (true, 5, r, u) := if_pos ⟨rfl, hq⟩
theorem tkC_n {q r : Nat} {u : Nat → Int32} {x : Int32} (h : ¬ (x = 33 ∧ q ≠ 5)) (h2 : ctc x = -1) : tkC (q, r, u) x = (false, q, r, u) := (if_neg h).trans (if_pos h2)
theorem tkC_c {q r : Nat} {u : Nat → Int32} {x : Int32} (h2 : ¬ ctc x = -1) : tkC (q, r, u) x = (true, 6, r, addC r (ctc x) (decide (q = 5)) u) := (if_neg (fun z => h2 (by rw [z.1]; decide))).trans (if_neg h2)
theorem tk_6 (r : Nat) (u : Nat → Int32) (x : Int32) : tk (6, r, u) x = tkN (6, r, u) x := rfl
theorem tk6_c {r : Nat} {u : Nat → Int32} {x : Int32} (hr : rmC r u = true) (h : x = 33 ∨ ¬ ctc x < 0) : tk (6, r, u) x = tkC (6, r, u) x := by
  have n59 : ¬ x = 59 := by
    intro e
    subst e
    rcases h with h | h
    · exact absurd h (by decide)
    · exact h (by decide)
  have n43 : ¬ x = 43 := by
    intro e
    subst e
    rcases h with h | h
    · exact absurd h (by decide)
    · exact h (by decide)
  exact (tk_6 r u x).trans ((if_neg n59).trans ((if_neg n43).trans (if_pos hr)))
theorem tk6_no {r : Nat} {u : Nat → Int32} {x : Int32} (n59 : ¬ x = 59) (h43 : x = 43 → rmB r u = false) (h : rmC r u = false ∨ (x ≠ 33 ∧ ctc x < 0)) : tk (6, r, u) x = (false, 6, r, u) := by
  refine (tk_6 r u x).trans ((if_neg n59).trans ?_)
  by_cases c43 : x = 43
  · exact (if_pos c43).trans (if_neg (by rw [h43 c43]; decide))
  · refine (if_neg c43).trans ?_
    rcases h with h | ⟨h, h2⟩
    · exact if_neg (by show ¬ rmC r u = true; rw [h]; decide)
    · by_cases hr : rmC r u = true
      · exact (if_pos hr).trans (tkC_n (fun z => h z.1) (ctc_n1 h2))
      · exact if_neg hr
theorem tk6_p {r : Nat} {u : Nat → Int32} (h : rmB r u = true) : tk (6, r, u) 43 = (true, 4, r, u) := (tk_6 r u 43).trans ((if_neg (by decide)).trans ((if_pos rfl).trans (if_pos h)))
theorem tk6_s (r : Nat) (u : Nat → Int32) : tk (6, r, u) 59 = (true, 0, r, u) := (tk_6 r u 59).trans (if_pos rfl)
/-! the branches of a relay, as one row of 18 -/
def EA (r M : Nat) (u td : Nat → Int32) : Prop := ∀ j, j < M → u (px r 5 + j) = td j
def OT (r : Nat) (v u : Nat → Int32) : Prop := ∀ i, i ≠ px r 4 → (∀ j, j < 18 → i ≠ px r 5 + j) → u i = v i
theorem px_45 (r j : Nat) : px r 4 ≠ px r 5 + j := by unfold px; omega
theorem EA.up {r M : Nat} {u td : Nat → Int32} (h : EA r M u td) (i : Nat) (x : Int32) : EA r M (upd u (px r 5 + i) x) (upd td i x) := by
  intro j hj
  by_cases e : j = i
  · subst e; rw [upd_s, upd_s]
  · rw [upd_o (by omega), upd_o e]; exact h j hj
theorem EA.push {r M : Nat} {u td : Nat → Int32} (h : EA r M u td) (x : Int32) : EA r (M + 1) (upd u (px r 5 + M) x) (upd td M x) := by
  intro j hj
  by_cases e : j = M
  · subst e; rw [upd_s, upd_s]
  · rw [upd_o (by omega), upd_o e]; exact h j (by omega)
theorem EA.o4 {r M : Nat} {u td : Nat → Int32} (h : EA r M u td) (x : Int32) : EA r M (upd u (px r 4) x) td := by
  intro j hj
  rw [upd_o (Ne.symm (px_45 r j))]
  exact h j hj
theorem OT.rf (r : Nat) (v : Nat → Int32) : OT r v v := fun _ _ _ => rfl
theorem OT.tr {r : Nat} {a b c : Nat → Int32} (h1 : OT r a b) (h2 : OT r b c) : OT r a c := fun i h h' => (h2 i h h').trans (h1 i h h')
theorem OT.up {r : Nat} {v u : Nat → Int32} (h : OT r v u) {i : Nat} (hi : i < 18) (x : Int32) : OT r v (upd u (px r 5 + i) x) := fun j h1 h2 => by
  rw [upd_o (h2 i hi)]; exact h j h1 h2
theorem OT.up4 {r : Nat} {v u : Nat → Int32} (h : OT r v u) (x : Int32) : OT r v (upd u (px r 4) x) := fun j h1 h2 => by
  rw [upd_o h1]; exact h j h1 h2
theorem addC_def {r n : Nat} {u : Nat → Int32} {c : Int32} {z : Bool} {I : Nat} (hc : cnt u r = n + 1) (hI : I = 3 * n + (if z = true then 1 else 0)) : addC r c z u = upd (upd u (px r 5 + I) (u (px r 5 + I) ||| shl 1 c)) (px r 5 + (3 * n + 2)) (upd u (px r 5 + I) (u (px r 5 + I) ||| shl 1 c) (px r 5 + (3 * n + 2)) + 1) := by
  have e1 : px r ((if z = true then 6 else 5) + 3 * (cnt u r - 1)) = px r 5 + I := by
    rw [hc, hI, Nat.add_sub_cancel]
    cases z
    · show px r (5 + 3 * n) = px r 5 + (3 * n + 0)
      unfold px; omega
    · show px r (6 + 3 * n) = px r 5 + (3 * n + 1)
      unfold px; omega
  have e2 : px r (7 + 3 * (cnt u r - 1)) = px r 5 + (3 * n + 2) := by
    rw [hc, Nat.add_sub_cancel]
    unfold px; omega
  simp only [addC]
  rw [e1, e2, if_pos (by omega)]
theorem addB_def {r n : Nat} {u : Nat → Int32} (hI : RI u) (hr : r < 10) (hc : cnt u r = n) (hn : n < 6) : addB r u = upd (upd (upd (upd u (px r 5 + 3 * n) 0) (px r 5 + (3 * n + 1)) 0) (px r 5 + (3 * n + 1 + 1)) 0) (px r 4) (nI (n + 1)) := by
  have e1 : px r (5 + 3 * cnt u r) = px r 5 + 3 * n := by rw [hc]; unfold px; omega
  have e2 : px r (6 + 3 * cnt u r) = px r 5 + (3 * n + 1) := by rw [hc]; unfold px; omega
  have e3 : px r (7 + 3 * cnt u r) = px r 5 + (3 * n + 1 + 1) := by rw [hc]; unfold px; omega
  have e4 : u (px r 4) = nI n := by rw [(hI.1 r hr).1, hc]
  have h6 : u (px r 4) < 6 := by rw [e4]; exact nI_lt (b := 6) hn (by decide)
  simp only [addB]
  rw [if_pos h6, e1, e2, e3, upd_o (px_45 r _), upd_o (px_45 r _), upd_o (px_45 r _), e4, nI_1]
/-- contacts of one branch: what both readings have in common -/
def LC1 (pd : Nat → Int32) (N r n p : Nat) (s : S4) (u : Nat → Int32) (R : Bool × Nat × (Nat → Int32)) : Prop :=
  (R.1 = false → (RS pd N p s).1 = nI R.2.1) ∧
  (R.1 = true → ∃ u', RS pd N p s = RS pd N R.2.1 (6, r, u') ∧ RI u' ∧ cnt u' r = n + 1 ∧ OT r u u' ∧ EA r (3 * n + 3) u' R.2.2 ∧ (rmC r u' = false ∨ (chr pd N R.2.1 ≠ 33 ∧ ctc (chr pd N R.2.1) < 0)))
theorem LC1.back {pd : Nat → Int32} {N r n p p' : Nat} {s s' : S4} {u u1 : Nat → Int32} {R : Bool × Nat × (Nat → Int32)} (h : RS pd N p s = RS pd N p' s') (hO : OT r u u1) (k : LC1 pd N r n p' s' u1 R) : LC1 pd N r n p s u R := by
  refine ⟨fun z => by rw [h]; exact k.1 z, fun z => ?_⟩
  obtain ⟨u', a1, a2, a3, a4, a5, a6⟩ := k.2 z
  exact ⟨u', h.trans a1, a2, a3, hO.tr a4, a5, a6⟩
theorem L1 {pd : Nat → Int32} {N r n : Nat} (hr : r < 10) (hn : n < 6) (m : Nat) : ∀ (p : Nat) (td u : Nat → Int32) (s : S4) (q : Nat), 0 < m → m ≤ 8 → p ≤ N → q ≠ 5 → tk s (chr pd N p) = tkC (q, r, u) (chr pd N p) → (s.1 = 3 ∨ s.1 = 6 → chr pd N p = 33 ∨ ¬ ctc (chr pd N p) < 0) → RI u → cnt u r = n + 1 → EA r (3 * n + 3) u td → td (3 * n + 2) = nI (8 - m) → LC1 pd N r n p s u (rbF (chr pd N) (3 * n) m p td) := by
  induction m with
  | zero => intro p td u s q h0; exact absurd h0 (Nat.lt_irrefl 0)
  | succ m ih =>
    intro p td u s q _ hm8 hp hq htk hfin hI hc hE hcnt
    obtain ⟨P, eP⟩ : ∃ P, P = if chr pd N p = 33 then p + 1 else p := ⟨_, rfl⟩
    have hpre : ∃ (s1 : S4) (q1 : Nat), RS pd N p s = RS pd N P s1 ∧ tk s1 (chr pd N P) = tkC (q1, r, u) (chr pd N P) ∧ decide (q1 = 5) = decide (chr pd N p = 33) ∧ P ≤ N ∧ (ctc (chr pd N P) < 0 → ¬ (chr pd N P = 33 ∧ q1 ≠ 5) ∧ ¬ (s1.1 = 3 ∨ s1.1 = 6)) := by
      by_cases h33 : chr pd N p = 33
      · have hlt : p < N := chr_lt (pd := pd) (by rw [h33]; decide)
        have eP' : P = p + 1 := by rw [eP, if_pos h33]
        refine ⟨(5, r, u), 5, ?_, rfl, ?_, by omega, fun _ => ⟨fun z => z.2 rfl, show ¬ ((5 : Nat) = 3 ∨ (5 : Nat) = 6) from by decide⟩⟩
        · rw [eP']
          refine RS_go ?_
          rw [htk, h33]
          exact tkC_b hq
        · rw [decide_eq_true h33]
          rfl
      · have eP' : P = p := by rw [eP, if_neg h33]
        refine ⟨s, q, by rw [eP'], by rw [eP']; exact htk, ?_, by omega, fun hneg => ?_⟩
        · rw [decide_eq_false h33, decide_eq_false hq]
        · rw [eP'] at hneg ⊢
          refine ⟨fun z => h33 z.1, fun z => ?_⟩
          rcases hfin z with z | z
          · exact h33 z
          · exact z hneg
    obtain ⟨s1, q1, e1, htk1, hz, hPN, hbad⟩ := hpre
    by_cases hcn : ctc (chr pd N P) < 0
    · rw [rbF_f (show 0 < m + 1 from Nat.succ_pos m) eP hcn]
      refine ⟨fun _ => ?_, fun z => by cases z⟩
      obtain ⟨b1, b2⟩ := hbad hcn
      show (RS pd N p s).1 = nI P
      rw [e1]
      exact RS_no hPN ((congrArg Prod.fst htk1).trans (congrArg Prod.fst (tkC_n b1 (ctc_n1 hcn)))) (fun _ => b2)
    · have hC : ¬ ctc (chr pd N P) = -1 := ctc_nm hcn
      have hlt : P < N := ctc_lt hcn
      obtain ⟨I, eI⟩ : ∃ I, I = 3 * n + (if chr pd N p = 33 then 1 else 0) := ⟨_, rfl⟩
      obtain ⟨T, eT⟩ : ∃ T, T = upd (upd td I (td I ||| shl 1 (ctc (chr pd N P)))) (3 * n + 2) (upd td I (td I ||| shl 1 (ctc (chr pd N P))) (3 * n + 2) + 1) := ⟨_, rfl⟩
      obtain ⟨u1, eu⟩ : ∃ u1, u1 = addC r (ctc (chr pd N P)) (decide (q1 = 5)) u := ⟨_, rfl⟩
      have hgo : RS pd N p s = RS pd N (P + 1) (6, r, u1) := by
        rw [e1]
        refine RS_go ?_
        rw [htk1, eu]
        exact tkC_c hC
      have hI1 : RI u1 := by rw [eu]; exact addC_RI hI hr _ _
      have hIe : I = 3 * n ∨ I = 3 * n + 1 := by
        rw [eI]
        by_cases h : chr pd N p = 33
        · rw [if_pos h]; exact Or.inr rfl
        · rw [if_neg h]; exact Or.inl rfl
      have eI' : I = 3 * n + (if decide (q1 = 5) = true then 1 else 0) := by
        rw [eI, hz]
        by_cases h : chr pd N p = 33
        · rw [if_pos h, decide_eq_true h]; rfl
        · rw [if_neg h, decide_eq_false h]; rfl
      have hu : u1 = upd (upd u (px r 5 + I) (u (px r 5 + I) ||| shl 1 (ctc (chr pd N P)))) (px r 5 + (3 * n + 2)) (upd u (px r 5 + I) (u (px r 5 + I) ||| shl 1 (ctc (chr pd N P))) (px r 5 + (3 * n + 2)) + 1) := by
        rw [eu]
        exact addC_def hc eI'
      have hE1 : EA r (3 * n + 3) u1 T := by
        have e0 : u (px r 5 + I) = td I := hE I (by omega)
        have h1 := hE.up I (td I ||| shl 1 (ctc (chr pd N P)))
        have h2 : upd u (px r 5 + I) (td I ||| shl 1 (ctc (chr pd N P))) (px r 5 + (3 * n + 2)) = upd td I (td I ||| shl 1 (ctc (chr pd N P))) (3 * n + 2) := h1 (3 * n + 2) (by omega)
        rw [hu, eT, e0, h2]
        exact h1.up _ _
      have hO1 : OT r u u1 := by
        rw [hu]
        exact ((OT.rf r u).up (by omega) _).up (by omega) _
      have hc1 : cnt u1 r = n + 1 := by
        have e4 : u1 (px r 4) = u (px r 4) := by rw [hu, upd_o (px_45 _ _), upd_o (px_45 _ _)]
        unfold cnt at hc ⊢
        rw [e4]
        exact hc
      have hT2 : T (3 * n + 2) = nI (8 - m) := tdup (m := m + 1) (by omega) hcnt (show 0 < m + 1 from Nat.succ_pos m) hm8 eT
      have hcc : ccn u1 r n = T (3 * n + 2) := by
        have h3 := hE1 (3 * n + 2) (by omega)
        unfold ccn
        rw [show px r (7 + 3 * n) = px r 5 + (3 * n + 2) by unfold px; omega]
        exact h3
      have hrmC : rmC r u1 = decide (T (3 * n + 2) < 8) := by
        unfold rmC
        rw [hc1, decide_eq_true (Nat.succ_pos n), Nat.add_sub_cancel, hcc, Bool.true_and]
      by_cases hg : T (3 * n + 2) < 8 ∧ (chr pd N (P + 1) = 33 ∨ ¬ ctc (chr pd N (P + 1)) < 0)
      · have hrm : rmC r u1 = true := by rw [hrmC]; exact decide_eq_true hg.1
        have h0 : 0 < m := td_go (m := m + 1) hT2 (show 0 < m + 1 from Nat.succ_pos m) hm8 (Int32.not_le.mpr hg.1)
        have key := ih (P + 1) T u1 (6, r, u1) 6 h0 (by omega) (by omega) (by decide) (tk6_c hrm hg.2) (fun _ => hg.2) hI1 hc1 hE1 hT2
        rw [rbF_g (show 0 < m + 1 from Nat.succ_pos m) eP eI hcn eT hg]
        exact LC1.back hgo hO1 key
      · have hg2 : T (3 * n + 2) ≥ 8 ∨ (¬ chr pd N (P + 1) = 33 ∧ ctc (chr pd N (P + 1)) < 0) := by
          by_cases g1 : T (3 * n + 2) < 8
          · refine Or.inr ⟨fun g2 => hg ⟨g1, Or.inl g2⟩, ?_⟩
            by_cases g3 : ctc (chr pd N (P + 1)) < 0
            · exact g3
            · exact absurd ⟨g1, Or.inr g3⟩ hg
          · exact Or.inl (Int32.not_lt.mp g1)
        rw [rbF_e (show 0 < m + 1 from Nat.succ_pos m) eP eI hcn eT hg2]
        refine ⟨fun z => (by cases z), fun _ => ⟨u1, hgo, hI1, hc1, hO1, hE1, ?_⟩⟩
        rcases hg2 with g | g
        · exact Or.inl (by rw [hrmC]; exact decide_eq_false (Int32.not_lt.mpr g))
        · exact Or.inr g
/-- a branch, from its first sign -/
theorem L2 {pd : Nat → Int32} {N r n : Nat} (hr : r < 10) (hn : n < 6) {p q : Nat} {td u : Nat → Int32} (hp : p ≤ N) (hq : q ≠ 5) (hq2 : ¬ (q = 3 ∨ q = 6)) (htk : tk (q, r, u) (chr pd N p) = tkC (q, r, addB r u) (chr pd N p)) (hI : RI u) (hc : cnt u r = n) (hE : EA r (3 * n) u td) :
    LC1 pd N r n p (q, r, u) u (rbF (chr pd N) (3 * n) 8 p (upd (upd (upd td (3 * n) 0) (3 * n + 1) 0) (3 * n + 2) 0)) := by
  have hd := addB_def hI hr hc hn
  have hI1 : RI (addB r u) := addB_RI hI hr
  have hO : OT r u (addB r u) := by
    rw [hd]
    exact ((((OT.rf r u).up (by omega) _).up (by omega) _).up (by omega) _).up4 _
  have hc1 : cnt (addB r u) r = n + 1 := by
    unfold cnt
    rw [hd, upd_s]
    exact nI_clamp (by omega)
  have hE1 : EA r (3 * n + 3) (addB r u) (upd (upd (upd td (3 * n) 0) (3 * n + 1) 0) (3 * n + 2) 0) := by
    rw [hd]
    exact (((hE.push 0).push 0).push 0).o4 _
  refine LC1.back rfl hO (L1 hr hn 8 p _ (addB r u) (q, r, u) q (by decide) (Nat.le_refl 8) hp hq htk (fun z => absurd z hq2) hI1 hc1 hE1 ?_)
  exact upd_s.trans nI_0.symm
/-- branches of one circuit: what both readings have in common behind some of them -/
def LCX (pd : Nat → Int32) (N r p : Nat) (s : S4) (u : Nat → Int32) (R : Bool × Q4) : Prop :=
  (R.1 = false → (RS pd N p s).1 = nI R.2.1) ∧
  (R.1 = true → ∃ u', RS pd N p s = RS pd N R.2.1 (6, r, u') ∧ RI u' ∧ cnt u' r = R.2.2.2 ∧ R.2.2.2 ≤ 6 ∧ OT r u u' ∧ EA r (3 * R.2.2.2) u' R.2.2.1 ∧ (rmC r u' = false ∨ (chr pd N R.2.1 ≠ 33 ∧ ctc (chr pd N R.2.1) < 0)))
theorem L2x {pd : Nat → Int32} {N r n : Nat} (hr : r < 10) (hn : n < 6) {p p0 q : Nat} {s0 : S4} {td u u0 : Nat → Int32} (hp : p ≤ N) (hq : q ≠ 5) (hq2 : ¬ (q = 3 ∨ q = 6)) (htk : tk (q, r, u) (chr pd N p) = tkC (q, r, addB r u) (chr pd N p)) (hI : RI u) (hc : cnt u r = n) (hE : EA r (3 * n) u td) (h0 : RS pd N p0 s0 = RS pd N p (q, r, u)) (hO : OT r u0 u) :
    LCX pd N r p0 s0 u0 (rb1 (chr pd N) (p, td, n)) := by
  have k := LC1.back h0 hO (L2 hr hn hp hq hq2 htk hI hc hE)
  refine ⟨fun z => k.1 z, fun z => ?_⟩
  obtain ⟨u', a1, a2, a3, a4, a5, a6⟩ := k.2 z
  have e : (rb1 (chr pd N) (p, td, n)).2.2.2 = n + 1 := if_pos z
  refine ⟨u', a1, a2, ?_, ?_, a4, ?_, a6⟩
  · rw [e]; exact a3
  · rw [e]; exact hn
  · rw [e, show 3 * (n + 1) = 3 * n + 3 by omega]; exact a5
/-- the whole of a circuit's branches -/
def LC3 (pd : Nat → Int32) (N r p : Nat) (s : S4) (u : Nat → Int32) (R : Bool × Q4) : Prop :=
  (R.1 = false → (RS pd N p s).1 = nI R.2.1) ∧
  (R.1 = true → ∃ u', RS pd N p s = RS pd N R.2.1 (6, r, u') ∧ RI u' ∧ cnt u' r = R.2.2.2 ∧ OT r u u' ∧ EA r (3 * R.2.2.2) u' R.2.2.1 ∧ tk (6, r, u') (chr pd N R.2.1) = if chr pd N R.2.1 = 59 then (true, 0, r, u') else (false, 6, r, u'))
theorem L3 {pd : Nat → Int32} {N r p : Nat} {s : S4} {u : Nat → Int32} (hr : r < 10) (m : Nat) : ∀ (R : Bool × Q4), R.2.1 ≤ N → LCX pd N r p s u R → (R.1 = true → 6 ≤ R.2.2.2 + m) → LC3 pd N r p s u (rbs (chr pd N) m R) := by
  have stop : ∀ (R : Bool × Q4), ¬ (R.1 = true ∧ R.2.2.2 < 6 ∧ chr pd N R.2.1 = 43) → LCX pd N r p s u R → LC3 pd N r p s u R := by
    intro R hc k
    refine ⟨k.1, fun z => ?_⟩
    obtain ⟨u', a1, a2, a3, a4, a5, a6, a7⟩ := k.2 z
    refine ⟨u', a1, a2, a3, a5, a6, ?_⟩
    by_cases h59 : chr pd N R.2.1 = 59
    · rw [if_pos h59, h59]
      exact tk6_s r u'
    · rw [if_neg h59]
      refine tk6_no h59 (fun h43 => ?_) a7
      have h6 : R.2.2.2 = 6 := by
        rcases Nat.lt_or_ge R.2.2.2 6 with q | q
        · exact absurd ⟨z, q, h43⟩ hc
        · omega
      unfold rmB
      rw [(a2.1 r hr).1, a3, h6]
      decide
  induction m with
  | zero =>
    intro R hp k h6
    refine stop R (fun z => ?_) k
    have := h6 z.1
    omega
  | succ m ih =>
    intro R hp k h6
    by_cases hc : R.1 = true ∧ R.2.2.2 < 6 ∧ chr pd N R.2.1 = 43
    · rw [rbs_go (show 0 < m + 1 from Nat.succ_pos m) hc, Nat.add_sub_cancel]
      obtain ⟨hz, h7, h43⟩ := hc
      obtain ⟨u', a1, a2, a3, a4, a5, a6, a7⟩ := k.2 hz
      have hlt := chr_lt (pd := pd) (N := N) (p := R.2.1) (by rw [h43]; decide)
      have hrm : rmB r u' = true := by
        unfold rmB
        rw [(a2.1 r hr).1, a3]
        exact decide_eq_true (nI_lt (b := 6) h7 (by decide))
      have hgo : RS pd N p s = RS pd N (R.2.1 + 1) (4, r, u') := by
        rw [a1]
        refine RS_go ?_
        rw [h43]
        exact tk6_p hrm
      have k2 := L2x (q := 4) (u := u') hr h7 (p := R.2.1 + 1) hlt (by decide) (by decide) rfl a2 a3 a6 hgo a5
      obtain ⟨b1, b2, b3, b4⟩ := rb1_le (pd := pd) (N := N) (s := (R.2.1 + 1, R.2.2.1, R.2.2.2)) hlt
      refine ih _ b1 k2 (fun z => ?_)
      have b5 := (b3 z).2
      have h8 := h6 hz
      have b6 : (rb1 (chr pd N) (R.2.1 + 1, R.2.2.1, R.2.2.2)).2.2.2 = R.2.2.2 + 1 := b5
      omega
    · rw [rbs_stop _ hc]
      exact stop R hc k
/-- a circuit -/
def LC4 (pd : Nat → Int32) (N p : Nat) (s : S4) (v : Nat → Int32) (R : Bool × Q5) : Prop :=
  (R.1 = false → (RS pd N p s).1 = nI R.2.1) ∧
  (R.1 = true → ∃ q u', (q = 3 ∨ q = 6) ∧ RS pd N p s = RS pd N R.2.1 (q, R.2.2.1, u') ∧ RI u' ∧ cnt u' R.2.2.1 = R.2.2.2.2 ∧ OT R.2.2.1 v u' ∧ EA R.2.2.1 (3 * R.2.2.2.2) u' R.2.2.2.1 ∧ tk (q, R.2.2.1, u') (chr pd N R.2.1) = if chr pd N R.2.1 = 59 then (true, 0, R.2.2.1, u') else (false, q, R.2.2.1, u'))
theorem LC4_f {pd : Nat → Int32} {N p P k nb : Nat} {s : S4} {v td : Nat → Int32} (h : (RS pd N p s).1 = nI P) : LC4 pd N p s v (false, P, k, td, nb) := ⟨fun _ => h, fun z => by cases z⟩
theorem LC4_3 {pd : Nat → Int32} {N p k : Nat} {s : S4} {v : Nat → Int32} {R : Bool × Q4} (h : LC3 pd N k p s v R) : LC4 pd N p s v (R.1, R.2.1, k, R.2.2.1, R.2.2.2) := by
  refine ⟨h.1, fun z => ?_⟩
  obtain ⟨u', a1, a2, a3, a4, a5, a6⟩ := h.2 z
  exact ⟨6, u', Or.inr rfl, a1, a2, a3, a4, a5, a6⟩
theorem LC4_0 {pd : Nat → Int32} {N p P k : Nat} {s : S4} {v u td : Nat → Int32} (h : RS pd N p s = RS pd N P (3, k, u)) (hI : RI u) (hc : cnt u k = 0) (hO : OT k v u) : LC4 pd N p s v (true, P, k, td, 0) := by
  refine ⟨fun z => (by cases z), fun _ => ⟨3, u, Or.inl rfl, h, hI, hc, hO, fun j hj => absurd hj (Nat.not_lt_zero j), rfl⟩⟩
theorem L4 {pd : Nat → Int32} {N p k : Nat} {v : Nat → Int32} (hI : RI v) (hp : p ≤ N) (k' : Nat) (td : Nat → Int32) (nb : Nat) : LC4 pd N p (0, k, v) v (rc1 (chr pd N) (p, k', td, nb)) := by
  cases h1 : inr (chr pd N p) 65 74 with
  | false =>
    rw [rc1_0 (s := (p, k', td, nb)) h1]
    refine LC4_f (RS_no hp ?_ (fun _ => show ¬ ((0 : Nat) = 3 ∨ (0 : Nat) = 6) from by decide))
    have e : tk (0, k, v) (chr pd N p) = (false, 0, k, v) := if_neg (by rw [rel_ctc, h1]; decide)
    exact congrArg Prod.fst e
  | true =>
    obtain ⟨hk1, hk⟩ := rel_rk h1
    have hlt : p < N := chr_lt (pd := pd) (fun z => by rw [z] at h1; exact absurd h1 (by decide))
    have go1 : RS pd N p (0, k, v) = RS pd N (p + 1) (1, rk (chr pd N p - 65), v) := by
      refine RS_go ?_
      have e : tk (0, k, v) (chr pd N p) = (true, 1, rk (ctc (chr pd N p)), v) := if_pos (by rw [rel_ctc, h1])
      rw [e, ctc_rel h1]
    by_cases h2 : chr pd N (p + 1) = 61
    · have hlt2 : p + 1 < N := chr_lt (pd := pd) (by rw [h2]; decide)
      have go2 : RS pd N p (0, k, v) = RS pd N (p + 2) (2, rk (chr pd N p - 65), clrF (rk (chr pd N p - 65)) v) := by
        rw [go1]
        refine RS_go ?_
        exact if_pos h2
      have hI2 : RI (clrF (rk (chr pd N p - 65)) v) := clrF_RI hI hk
      have hc2 : cnt (clrF (rk (chr pd N p - 65)) v) (rk (chr pd N p - 65)) = 0 := by
        unfold cnt clrF
        rw [upd_s]
        exact cpz0
      have hO2 : OT (rk (chr pd N p - 65)) v (clrF (rk (chr pd N p - 65)) v) := (OT.rf _ v).up4 _
      by_cases h3 : chr pd N (p + 2) = 48
      · rw [rc1_2 (s := (p, k', td, nb)) h1 h2 h3]
        refine LC4_0 ?_ hI2 hc2 hO2
        rw [go2]
        refine RS_go ?_
        exact if_pos h3
      · rw [rc1_3 (s := (p, k', td, nb)) h1 h2 h3]
        have hp2 : p + 2 ≤ N := hlt2
        have ht : tk (2, rk (chr pd N p - 65), clrF (rk (chr pd N p - 65)) v) (chr pd N (p + 2)) = tkC (2, rk (chr pd N p - 65), addB (rk (chr pd N p - 65)) (clrF (rk (chr pd N p - 65)) v)) (chr pd N (p + 2)) := if_neg h3
        have k2 := L2x (pd := pd) (q := 2) (td := td) (u := clrF (rk (chr pd N p - 65)) v) hk (n := 0) (by decide) hp2 (by decide) (by decide) ht hI2 hc2 (fun j hj => absurd hj (Nat.not_lt_zero j)) go2 hO2
        obtain ⟨b1, b2, b3, b4⟩ := rb1_le (pd := pd) (N := N) (s := (p + 2, td, 0)) hp2
        exact LC4_3 (L3 hk 6 _ b1 k2 (fun z => by omega))
    · rw [rc1_1 (s := (p, k', td, nb)) h1 h2]
      refine LC4_f ?_
      rw [go1]
      refine RS_no hlt ?_ (fun _ => show ¬ ((1 : Nat) = 3 ∨ (1 : Nat) = 6) from by decide)
      have e : tk (1, rk (chr pd N p - 65), v) (chr pd N (p + 1)) = (false, 1, rk (chr pd N p - 65), v) := if_neg h2
      exact congrArg Prod.fst e
