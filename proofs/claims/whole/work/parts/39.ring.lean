/-! PURE: the history, as a ring and as a row; the slots -/
def Rg (VH : Nat → Nat → Int32) (hi : Nat → Int32) (ol sz : Nat) : Prop := ∀ i, i < sz → Sim (VH ((ol + i) % 6)) (fun k => hi (236 * i + k))
theorem va_up_s (V : Nat → Nat → Int32) (j : Nat) (v : Nat → Int32) : va_up V j v j = v := by simp [va_up]
theorem va_up_o (V : Nat → Nat → Int32) {j i : Nat} (v : Nat → Int32) (h : i ≠ j) : va_up V j v i = V i := by simp [va_up, h]
theorem recC_Z {sz : Nat} (hsz : sz ≤ 6) : recC sz = recZ sz := by
  unfold recC recZ
  by_cases h : sz = 6
  · rw [if_pos h, if_neg (by omega)]; exact h.symm
  · rw [if_neg h, if_pos (by omega)]
theorem recO_lt {ol sz : Nat} (h : ol < 6) : recO ol sz < 6 := by
  unfold recO
  split
  · exact h
  · exact Nat.mod_lt _ (by decide)
theorem recZ_le {sz : Nat} (h : sz ≤ 6) : recZ sz ≤ 6 := by
  unfold recZ
  split <;> omega
theorem recV_Gd {VH : Nat → Nat → Int32} {ol sz : Nat} {v : Nat → Int32} (h : ∀ j, Gd (VH j)) (hv : Gd v) : ∀ j, Gd (recV VH ol sz v j) := by
  intro j
  unfold recV
  by_cases e : j = (ol + sz) % 6
  · rw [e, va_up_s]; exact hv
  · rw [va_up_o _ _ e]; exact h j
theorem Rg.put {VH : Nat → Nat → Int32} {hi v st : Nat → Int32} {ol sz : Nat} (h : Rg VH hi ol sz) (hG : ∀ j, Gd (VH j)) (hv : RI v) (hS : Sim v st) (hol : ol < 6) (hsz : sz ≤ 6) : Rg (recV VH ol sz v) (recH st hi sz) (recO ol sz) (recZ sz) := by
  intro i hi'
  by_cases h6 : sz = 6
  · subst h6
    have eO : recO ol 6 = (ol + 1) % 6 := if_neg (by decide)
    have eZ : recZ 6 = 6 := if_neg (by decide)
    have eH : recH st hi 6 = va_cpy st (shI hi 1180) 0 1180 236 := if_pos rfl
    rw [eZ] at hi'
    rw [eO, eH]
    unfold recV
    by_cases h5 : i = 5
    · subst h5
      rw [show ((ol + 1) % 6 + 5) % 6 = (ol + 6) % 6 by omega, va_up_s]
      refine hS.cg hv fun k hk => ?_
      show va_cpy st (shI hi 1180) 0 1180 236 (236 * 5 + k) = st k
      exact (pk_cpy_in (by omega) (by omega)).trans (congrArg st (by omega))
    · rw [va_up_o _ _ (show ((ol + 1) % 6 + i) % 6 ≠ (ol + 6) % 6 by omega), show ((ol + 1) % 6 + i) % 6 = (ol + (i + 1)) % 6 by omega]
      refine (h (i + 1) (by omega)).cg (hG _).1 fun k hk => ?_
      show va_cpy st (shI hi 1180) 0 1180 236 (236 * i + k) = hi (236 * (i + 1) + k)
      refine (pk_cpy_out (by omega)).trans ((if_pos (by omega)).trans (congrArg hi (by omega)))
  · have hlt : sz < 6 := by omega
    have eO : recO ol sz = ol := if_pos hlt
    have eZ : recZ sz = sz + 1 := if_pos hlt
    have eH : recH st hi sz = va_cpy st hi 0 (236 * sz) 236 := if_neg h6
    rw [eZ] at hi'
    rw [eO, eH]
    unfold recV
    by_cases h5 : i = sz
    · subst h5
      rw [va_up_s]
      refine hS.cg hv fun k hk => ?_
      show va_cpy st hi 0 (236 * i) 236 (236 * i + k) = st k
      exact (pk_cpy_in (by omega) (by omega)).trans (congrArg st (by omega))
    · rw [va_up_o _ _ (show (ol + i) % 6 ≠ (ol + sz) % 6 by omega)]
      refine (h i (by omega)).cg (hG _).1 fun k hk => ?_
      show va_cpy st hi 0 (236 * sz) 236 (236 * i + k) = hi (236 * i + k)
      exact pk_cpy_out (by omega)
theorem Rg.undo {VH : Nat → Nat → Int32} {hi st : Nat → Int32} {ol sz : Nat} (h : Rg VH hi ol sz) (hG : ∀ j, Gd (VH j)) (h0 : 0 < sz) : Sim (VH ((ol + (sz - 1)) % 6)) (va_cpy hi st (236 * (sz - 1)) 0 236) := by
  refine (h (sz - 1) (by omega)).cg (hG _).1 fun k hk => ?_
  show va_cpy hi st (236 * (sz - 1)) 0 236 k = hi (236 * (sz - 1) + k)
  exact (pk_cpy_in (by omega) (by omega)).trans (congrArg hi (by omega))
theorem Rg.less {VH : Nat → Nat → Int32} {hi : Nat → Int32} {ol sz sz' : Nat} (h : Rg VH hi ol sz) (hle : sz' ≤ sz) : Rg VH hi ol sz' := fun i hi' => h i (by omega)
def Sl (VS : Nat → Nat → Int32) (sl sv sv' : Nat → Int32) : Prop := ∀ s, s < 2 → sv s = sv' s ∧ (sv s ≠ 0 → Sim (VS s) (fun k => sl (236 * s + k)))
theorem Sl.save {VS : Nat → Nat → Int32} {sl sv sv' v st : Nat → Int32} {s : Nat} (h : Sl VS sl sv sv') (hG : ∀ j, Gd (VS j)) (hv : RI v) (hS : Sim v st) (hs : s < 2) : Sl (va_up VS s v) (va_cpy st sl 0 (236 * s) 236) (upd sv s 1) (upd sv' s 1) := by
  intro j hj
  by_cases e : j = s
  · subst e
    refine ⟨by rw [upd_s, upd_s], fun _ => ?_⟩
    rw [va_up_s]
    refine hS.cg hv fun k hk => ?_
    show va_cpy st sl 0 (236 * j) 236 (236 * j + k) = st k
    exact (pk_cpy_in (by omega) (by omega)).trans (congrArg st (by omega))
  · refine ⟨by rw [upd_o e, upd_o e]; exact (h j hj).1, fun h0 => ?_⟩
    rw [upd_o e] at h0
    rw [va_up_o _ _ e]
    refine ((h j hj).2 h0).cg (hG _).1 fun k hk => ?_
    show va_cpy st sl 0 (236 * s) 236 (236 * j + k) = sl (236 * j + k)
    exact pk_cpy_out (by omega)
theorem Sl.get {VS : Nat → Nat → Int32} {sl sv sv' st : Nat → Int32} {s : Nat} (h : Sl VS sl sv sv') (hG : ∀ j, Gd (VS j)) (hs : s < 2) (h0 : sv s ≠ 0) : Sim (VS s) (va_cpy sl st (236 * s) 0 236) := by
  refine ((h s hs).2 h0).cg (hG _).1 fun k hk => ?_
  show va_cpy sl st (236 * s) 0 236 k = sl (236 * s + k)
  exact (pk_cpy_in (by omega) (by omega)).trans (congrArg sl (by omega))
theorem va_up_Gd {VS : Nat → Nat → Int32} {s : Nat} {v : Nat → Int32} (h : ∀ j, Gd (VS j)) (hv : Gd v) : ∀ j, Gd (va_up VS s v j) := by
  intro j
  by_cases e : j = s
  · rw [e, va_up_s]; exact hv
  · rw [va_up_o _ _ e]; exact h j
