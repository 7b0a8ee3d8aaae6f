/-! THE LAW: its world, and its calls: the class' cells, then the reference's -/
abbrev clsW (G : GG) (oa ra ta ad qa ha : Nat → Nat) (B S : Nat → Nat → Nat) (v u : Nat → Int32) (VH VS : Nat → Nat → Int32) (sv pd : Nat → Int32) (N pp k ol sz : Nat) : va_W := List.flatten [bMw G oa ra ta ad qa ha S sv, bPw G ad pd N, bQw qa pp k, bHw G ha B ol sz, rW G ra v, rW G ta u, fam G 6 B VH, fam G 2 S VS]
/-- both worlds stand beside each other -/
def LI (G : GG) (oa ra ta ad qa ha a : Nat → Nat) (B S : Nat → Nat → Nat) (A : Nat → Prop) (H : Heap) : Prop :=
  ∃ (v u : Nat → Int32) (VH VS : Nat → Nat → Int32) (sv pd : Nat → Int32) (N pp k ol sz : Nat) (st kp hi sl sw pe td : Nat → Int32) (M sm kr : Nat) (pt bn : Int32),
    WR v u VH VS sv pd N k ol sz st hi sl sw pe M sm ∧ gP G (clsW G oa ra ta ad qa ha B S v u VH VS sv pd N pp k ol sz ++ mW G a st kp hi sl sw pe td (nI sm) (nI M) pt (nI kr) bn) H ∧ va_D A (clsW G oa ra ta ad qa ha B S v u VH VS sv pd N pp k ol sz ++ mW G a st kp hi sl sw pe td (nI sm) (nI M) pt (nI kr) bn)
theorem LI.get {G : GG} {oa ra ta ad qa ha a : Nat → Nat} {B S : Nat → Nat → Nat} {A : Nat → Prop} {H : Heap} (h : LI G oa ra ta ad qa ha a B S A H) :
  ∃ (v u : Nat → Int32) (VH VS : Nat → Nat → Int32) (sv pd : Nat → Int32) (N pp k ol sz : Nat) (st kp hi sl sw td : Nat → Int32) (kr : Nat) (pt bn : Int32),
    WR v u VH VS sv pd N k ol sz st hi sl sw pd N sz ∧ gP G (clsW G oa ra ta ad qa ha B S v u VH VS sv pd N pp k ol sz ++ mW G a st kp hi sl sw pd td (nI sz) (nI N) pt (nI kr) bn) H ∧ va_D A (clsW G oa ra ta ad qa ha B S v u VH VS sv pd N pp k ol sz ++ mW G a st kp hi sl sw pd td (nI sz) (nI N) pt (nI kr) bn) := by
  obtain ⟨v, u, VH, VS, sv, pd, N, pp, k, ol, sz, st, kp, hi, sl, sw, pe, td, M, sm, kr, pt, bn, hW, hP, hD⟩ := h
  obtain ⟨rfl, rfl, rfl⟩ : pe = pd ∧ M = N ∧ sm = sz := hW.2.2.2.2.2.2.2.2
  exact ⟨_, _, _, _, _, _, _, _, _, _, _, _, _, _, _, _, _, _, _, _, hW, hP, hD⟩
/-- what holds all through the law -/
def LZ (p : Program) (s : State) (m : MethodId) (c : Code) (b L : Nat) (xs : Nat → Int32) (G : GG) : Prop := p.tables.exec = Jvm.exec ∧ c.code = cL_law ∧ c.maxLocals = 4 ∧ s.vm.findClass RL = some m.cls ∧ (∀ w ∈ wsL_law, w.before #[Value.ref b] s = true) ∧ va_X b L xs s s.heap ∧ b < s.heap.size ∧ gK G s
abbrev lA (s : State) : Nat → Prop := fun q : Nat => s.heap.size ≤ q
theorem lc_P {G : GG} {wc wm : va_W} {H : Heap} (h : gP G (wc ++ wm) H) : gP G wc H := fr_P (List.Perm.refl _) h
theorem lm_P {G : GG} {wc wm : va_W} {H : Heap} (h : gP G (wc ++ wm) H) : gP G wm H := fr_P List.perm_append_comm h
section LCW
variable {p : Program} {l : Launch} {e : Env} {R : Room} {s : State} {m : MethodId} {args : Array Value} {below : List Frame} {meth : Method} {c : Code} {H : Heap} {locs : List Loc} {cells slots : Nat} {Q : State → Prop}
variable {cc : ByteArray} {pc : Nat} {ls : Array Slot} {rest st0 : List Value} {G : GG} {A0 : Nat → Prop} {H0 : Heap} {wc wm w1 : va_W}
variable {y : MethodName} {bytes : ByteArray} {maxL nL n index : Nat} {ret : Option FieldType} {wsy : List Cond} {rm : Room} {Ts : List Cond} {own C : String} {b : Addr} {As : List Value} {r : Value}
/-- a call of the class that changes its cells -/
theorem lc_W (X : CallFix p m c cc nL s args Ts own) (hM : Met l y wsy rm (pcM G (.ref b :: As) wc) (qMU G (some r) wc w1) 0 0 (aA wc)) (cw : CallW R s args own C index y bytes maxL ret wsy rm 0 0 n) (hP : gP G (wc ++ wm) H) (hK : gK G s) (hD : va_D A0 (wc ++ wm)) (hS : va_S A0 H0 H locs) (hrv : ∃ cell : Cell, H[b]? = some cell ∧ cell.vm.isStatics = false ∧ s.vm.findClass C = some cell.cls)
    (hn : As.length = n) (hsize : ls.size = nL) (hstack : st0 = As.reverse ++ .ref b :: rest) (hW : (rest.map fun v => v.category).sum ≤ 8) (hdg : decode cc pc = .ok (.invokevirtual index, 3)) (hc : cells ≤ R.cells) (hs : slots ≤ R.slots) (hAd : w1.map (·.1) = wc.map (·.1))
    (kk : ∀ (H1 : Heap) (locs1 : List Loc), gP G (w1 ++ wm) H1 → va_D A0 (w1 ++ wm) → va_S A0 H0 H1 locs1 → W p l e R s m args below meth c H1 locs1 cells slots Q (F0 m (pc + 3) ls (r :: rest))) : W p l e R s m args below meth c H locs cells slots Q (F0 m pc ls st0) :=
  mu_VF X hM cw (List.Perm.refl _) (List.Perm.refl _) hP hK hD hS hrv hn hsize hstack hW hdg hc hs hAd kk
/-- a call of the reference that changes its cells -/
theorem lm_W (X : CallFix p m c cc nL s args Ts own) (hM : Met l y wsy rm (pcM G (.ref b :: As) wm) (qMU G (some r) wm w1) 0 0 (aA wm)) (cw : CallW R s args own C index y bytes maxL ret wsy rm 0 0 n) (hP : gP G (wc ++ wm) H) (hK : gK G s) (hD : va_D A0 (wc ++ wm)) (hS : va_S A0 H0 H locs) (hrv : ∃ cell : Cell, H[b]? = some cell ∧ cell.vm.isStatics = false ∧ s.vm.findClass C = some cell.cls)
    (hn : As.length = n) (hsize : ls.size = nL) (hstack : st0 = As.reverse ++ .ref b :: rest) (hW : (rest.map fun v => v.category).sum ≤ 8) (hdg : decode cc pc = .ok (.invokevirtual index, 3)) (hc : cells ≤ R.cells) (hs : slots ≤ R.slots) (hAd : w1.map (·.1) = wm.map (·.1))
    (kk : ∀ (H1 : Heap) (locs1 : List Loc), gP G (wc ++ w1) H1 → va_D A0 (wc ++ w1) → va_S A0 H0 H1 locs1 → W p l e R s m args below meth c H1 locs1 cells slots Q (F0 m (pc + 3) ls (r :: rest))) : W p l e R s m args below meth c H locs cells slots Q (F0 m pc ls st0) :=
  mu_VF X hM cw List.perm_append_comm List.perm_append_comm hP hK hD hS hrv hn hsize hstack hW hdg hc hs hAd kk
end LCW
theorem law_le {i L : Nat} (hi : i ≤ 3000) (hL : L ≤ 2048) (h : ¬ nI L - 4 < nI i) : i + 4 ≤ L := by
  have h1 : (nI L - nI 4).toInt = (L : Int) - (4 : Nat) := pk_sub_toInt (by omega) (by decide)
  have h2 : (nI i).toInt = (i : Int) := nI_toInt (by omega)
  have h3 := Int32.not_lt.mp h
  rw [Int32.le_iff_toInt_le] at h3
  have h4 : (nI L - 4).toInt = (L : Int) - (4 : Nat) := h1
  rw [h2, h4] at h3
  omega
