/-! CORE: the group of class numbers, contracts of reads and of writes, calls, frames -/
abbrev GG : Type := (Nat → ClassId) × (Nat → Nat → Nat) × ClassId × ClassId × ClassId
abbrev gD (G : GG) : va_G := (G.1, G.2.1)
abbrev gI (G : GG) : ClassId := G.2.2.1
abbrev gZ (G : GG) : ClassId := G.2.2.2.1
abbrev gR (G : GG) : ClassId := G.2.2.2.2
abbrev tyA (G : GG) : List (ClassId × FieldType) := [(gI G, .int), (gZ G, .boolean), (gR G, .object "WeldedRelays$Room")]
abbrev gP (G : GG) (ws : va_W) (H : Heap) : Prop := va_P (gD G) vwCl ws H
def NN : List (String × Nat × MethodName) := [(RX4, 21, yX1_init), (RX4, 28, yX2_init), (RX2, 76, yX4_isWithin), (RX2, 51, yX4_isRelay), (RX3, 65, yX4_placeOf), (RX3, 86, yX4_isIn), (RX1, 19, yX4_isWithin)]
def gK (G : GG) (U : State) : Prop := va_K (gD G) vwCl (tyA G) U ∧ (∀ w ∈ NN, va_Nw (.methodLinkNest w.1 w.2.1 w.2.2 RX4) U) ∧ va_AO "WeldedRelays$Room" U
theorem gK.warm {G : GG} {s U : State} (hW : s.WarmedH U.vm) (h : gK G s) : gK G U := ⟨va_K.moved hW.alike h.1, fun w hw => va_Nw.warmM hW (h.2.1 w hw), va_AO.moved hW.alike h.2.2⟩
theorem gK.calling {G : GG} {U : State} {g : JFrame} {mk : MethodId} {a : Array Value} (h : gK G U) : gK G (U.calling g mk a) := ⟨va_K.moved (u := U) (U := U.calling g mk a) (Vm.Alike.refl U.vm) h.1, fun w hw => va_Nw.same (u := U) (U := U.calling g mk a) rfl rfl (h.2.1 w hw), va_AO.moved (u := U) (U := U.calling g mk a) (Vm.Alike.refl U.vm) h.2.2⟩
/-- which cells a world has -/
def aA (ws : va_W) : Nat → Prop := fun q => q ∈ ws.map (·.1)
def nofree : Addr → Prop := fun _ => False
/-- a method's start: its arguments, a world -/
def pcW (G : GG) (av : List Value) (ws : va_W) : Array Value → State → Prop := va_Pc av (fun U => gP G ws U.heap ∧ gK G U)
def pcM (G : GG) (av : List Value) (ws : va_W) : Array Value → State → Prop := va_Pc av (fun U => gP G ws U.heap ∧ gK G U ∧ va_D (fun _ => True) ws)
/-- the end of a read: the answer, the heap as it was -/
def qRO (r : Value) : Array Value → State → Outcome → State → Prop := fun _ st o t => o = .returned (some r) ∧ t.heap = st.heap
/-- the end of a write: the answer, the world, all else as it was -/
def qMU (G : GG) (rv : Option Value) (ws ws' : va_W) : Array Value → State → Outcome → State → Prop := fun _ st o t => o = .returned rv ∧ gP G ws' t.heap ∧ va_F (aA ws) st t
theorem aA_D {ws : va_W} {A : Nat → Prop} (h : va_D A ws) : va_D (aA ws) ws := ⟨h.1, fun k q hk => List.mem_map.mpr ⟨q, List.mem_of_getElem? hk, rfl⟩⟩
theorem aA_in {A : Nat → Prop} {ws : va_W} (h : va_D A ws) : ∀ q, aA ws q → A q := by
  intro q hq
  obtain ⟨x, hx, rfl⟩ := List.mem_map.mp hq
  obtain ⟨i, hi⟩ := List.getElem?_of_mem hx
  exact h.2 i x hi
theorem va_D_iff {A : Nat → Prop} {ws : va_W} : va_D A ws ↔ (ws.map (·.1)).Nodup ∧ ∀ q ∈ ws, A q.1 := by
  constructor
  · intro h
    refine ⟨?_, fun q hq => ?_⟩
    · rw [List.nodup_iff_pairwise_ne, List.pairwise_iff_getElem]
      intro i j hi hj hij he
      simp only [List.length_map] at hi hj
      simp only [List.getElem_map] at he
      have := h.1 i j _ _ (List.getElem?_eq_getElem hi) (List.getElem?_eq_getElem hj) he
      omega
    · obtain ⟨i, hi⟩ := List.getElem?_of_mem hq
      exact h.2 i q hi
  · intro ⟨h1, h2⟩
    refine ⟨fun i j p q hp hq he => ?_, fun k q hk => h2 q (List.mem_of_getElem? hk)⟩
    rw [List.nodup_iff_pairwise_ne, List.pairwise_iff_getElem] at h1
    obtain ⟨hi, e1⟩ := List.getElem?_eq_some_iff.mp hp
    obtain ⟨hj, e2⟩ := List.getElem?_eq_some_iff.mp hq
    rcases Nat.lt_trichotomy i j with h | h | h
    · exact ((h1 i j (by simpa using hi) (by simpa using hj) h) (by simp [e1, e2, he])).elim
    · exact h
    · exact ((h1 j i (by simpa using hj) (by simpa using hi) h) (by simp [e1, e2, he])).elim
theorem va_D_addr {A : Nat → Prop} {ws ws' : va_W} (h : va_D A ws) (he : ws'.map (·.1) = ws.map (·.1)) : va_D A ws' := by
  obtain ⟨h1, h2⟩ := va_D_iff.mp h
  refine va_D_iff.mpr ⟨by rw [he]; exact h1, fun q hq => ?_⟩
  have : q.1 ∈ ws.map (·.1) := by rw [← he]; exact List.mem_map.mpr ⟨q, hq, rfl⟩
  obtain ⟨x, hx, e⟩ := List.mem_map.mp this
  rw [← e]
  exact h2 x hx
theorem va_P_iff {D : va_G} {cl : List vw_C} {ws : va_W} {H : Heap} : va_P D cl ws H ↔ ∀ q ∈ ws, va_at D cl q H := by
  constructor
  · intro h q hq
    obtain ⟨i, hi⟩ := List.getElem?_of_mem hq
    exact h i q hi
  · intro h k q hk
    exact h q (List.mem_of_getElem? hk)
def b2i (b : Bool) : Int32 := if b = true then 1 else 0
theorem b2i_narrow (b : Bool) : narrow .boolean (.int (b2i b)) = .int (b2i b) := by cases b <;> decide
theorem b2i_1 {b : Bool} (h : ¬ b2i b = 0) : b = true := by cases b <;> simp_all [b2i]
theorem b2i_0 {b : Bool} (h : b2i b = 0) : b = false := by cases b <;> simp_all [b2i]
section CORE
variable {p : Program} {l : Launch} {e : Env} {R : Room} {s : State} {m : MethodId} {args : Array Value} {below : List Frame} {meth : Method} {c : Code} {H : Heap} {locs : List Loc} {cells slots : Nat} {Q : State → Prop}
variable {cc : ByteArray} {pc : Nat} {ls : Array Slot} {rest st0 : List Value} {G : GG} {A0 : Nat → Prop} {H0 : Heap} {wc ws ws' : va_W}
theorem lv_asi {x y : Int32} (h : x = y) (k : W p l e R s m args below meth c H locs cells slots Q (F0 m pc ls (.int y :: rest))) : W p l e R s m args below meth c H locs cells slots Q (F0 m pc ls (.int x :: rest)) := h ▸ k
theorem lv_asl {x y : Int64} (h : x = y) (k : W p l e R s m args below meth c H locs cells slots Q (F0 m pc ls (.long y :: rest))) : W p l e R s m args below meth c H locs cells slots Q (F0 m pc ls (.long x :: rest)) := h ▸ k
/-- the head of a method that reads -/
theorem hd_RO {y : MethodName} {ws ws' : List Cond} {rm : Room} {r : Value} {cc : ByteArray} {maxL : Nat} {ret : Option FieldType} {av : List Value} (hy : plainName y.cls = true) (hw : ws = Cond.code y cc maxL ret :: ws') (hlen : (lg_sl av).length ≤ maxL)
    (body : ∀ (p : Program) (e : Env) (s : State) (m : MethodId) (below : List Frame) (meth : Method) (c : Code) (ls : Array Slot), p.tables.exec = Jvm.exec → c.code = cc → meth.sig.returnType = ret → (∀ w ∈ ws, w.before av.toArray s = true) → s.vm.findClass y.cls = some m.cls → meth.locks = false → c.maxLocals = maxL → gP G wc s.heap → gK G s → lv_has ls maxL (lv_args 0 av) →
      W p l e rm s m av.toArray below meth c s.heap [] 0 0 (MQ below (qRO r) av.toArray s 0 0 nofree) (F0 m 0 ls [])) : Met l y ws rm (pcW G av wc) (qRO r) 0 0 nofree := by
  refine Met.ofW (cc := cc) (maxL := maxL) (ret := ret) hy hw ?_
  intro p e s m args below meth c s₁ B hml hv
  obtain ⟨rfl, hP, hK⟩ := hv
  have hl := lv_entry av (n := maxL) hlen
  rw [lg_entry_eq]
  exact body p e s m below meth c _ B.exec B.bytes B.returns (atoms_spec (ws := ws) B.pre) (findClass_of_methodNamed B.named) B.notSynchronized hml hP hK hl
/-- the head of a method that writes -/
theorem hd_MU {y : MethodName} {ws ws' : List Cond} {rm : Room} {rv : Option Value} {w1 : va_W} {cc : ByteArray} {maxL : Nat} {ret : Option FieldType} {av : List Value} (hy : plainName y.cls = true) (hw : ws = Cond.code y cc maxL ret :: ws') (hlen : (lg_sl av).length ≤ maxL)
    (body : ∀ (p : Program) (e : Env) (s : State) (m : MethodId) (below : List Frame) (meth : Method) (c : Code) (ls : Array Slot), p.tables.exec = Jvm.exec → c.code = cc → meth.sig.returnType = ret → (∀ w ∈ ws, w.before av.toArray s = true) → s.vm.findClass y.cls = some m.cls → meth.locks = false → c.maxLocals = maxL → gP G wc s.heap → gK G s → va_D (aA wc) wc → va_S (aA wc) s.heap s.heap [] → lv_has ls maxL (lv_args 0 av) →
      W p l e rm s m av.toArray below meth c s.heap [] 0 0 (MQ below (qMU G rv wc w1) av.toArray s 0 0 (aA wc)) (F0 m 0 ls [])) : Met l y ws rm (pcM G av wc) (qMU G rv wc w1) 0 0 (aA wc) := by
  refine Met.ofW (cc := cc) (maxL := maxL) (ret := ret) hy hw ?_
  intro p e s m args below meth c s₁ B hml hv
  obtain ⟨rfl, hP, hK, hD⟩ := hv
  have hl := lv_entry av (n := maxL) hlen
  rw [lg_entry_eq]
  exact body p e s m below meth c _ B.exec B.bytes B.returns (atoms_spec (ws := ws) B.pre) (findClass_of_methodNamed B.named) B.notSynchronized hml hP hK (aA_D hD) va_S.rf hl
theorem pcW_blind {av : List Value} : FrameBlind (pcW G av ws) := fun _ _ _ _ h => ⟨h.1, h.2.1, gK.calling h.2.2⟩
theorem pcM_blind {av : List Value} : FrameBlind (pcM G av ws) := fun _ _ _ _ h => ⟨h.1, h.2.1, gK.calling h.2.2.1, h.2.2.2⟩
/-- a call of a read: nothing moves -/
theorem ro_on {a : Array Value} {r : Value} (hr : va_Run p l e R s m args below meth c H locs cells slots 0 0 (F0 m pc ls st0) rest (qRO r a) nofree)
    (kk : W p l e R s m args below meth c H locs cells slots Q (F0 m (pc + 3) ls (r :: rest))) : W p l e R s m args below meth c H locs cells slots Q (F0 m pc ls st0) := by
  intro T hT X
  obtain ⟨v, st₀, t, T', L, h0, X', hL, e1, e2, ⟨hv, hh⟩, st⟩ := hr T hT X
  cases hv
  obtain ⟨t2, a1, b1⟩ := kk T' (by rw [e1, hh, h0]) (Stand.forget X' (fun q h => (hL q h).elim))
  exact ⟨t2, st t2 a1, b1⟩
variable {y : MethodName} {bytes : ByteArray} {maxL nL n index : Nat} {ret : Option FieldType} {wsy : List Cond} {rm : Room} {Ts : List Cond} {own C host : String} {b : Addr} {As : List Value} {r : Value}
theorem ro_V (S : CallFix p m c cc nL s args Ts own) (hM : Met l y wsy rm (pcW G (.ref b :: As) wc) (qRO r) 0 0 nofree) (cw : CallW R s args own C index y bytes maxL ret wsy rm 0 0 n) (hP : gP G wc H) (hK : gK G s) (hrv : ∃ cell : Cell, H[b]? = some cell ∧ cell.vm.isStatics = false ∧ s.vm.findClass C = some cell.cls)
    (hn : As.length = n) (hsize : ls.size = nL) (hstack : st0 = As.reverse ++ .ref b :: rest) (hW : (rest.map fun v => v.category).sum ≤ 8) (hdg : decode cc pc = .ok (.invokevirtual index, 3)) (hc : cells ≤ R.cells) (hs : slots ≤ R.slots)
    (kk : W p l e R s m args below meth c H locs cells slots Q (F0 m (pc + 3) ls (r :: rest))) : W p l e R s m args below meth c H locs cells slots Q (F0 m pc ls st0) :=
  ro_on (va_runV (g := F0 m pc ls st0) (As := As) (rest := rest) S hM cw ⟨pcW_blind, hrv, fun U hU hW => ⟨rfl, by rw [hU]; exact hP, hK.warm hW⟩⟩ rfl hn hsize hstack (lv_room hW) hdg ⟨hc, hs⟩) kk
theorem ro_S (S : CallFix p m c cc nL s args Ts own) (hM : Met l y wsy rm (pcW G As wc) (qRO r) 0 0 nofree) (cw : CallB R s args own index y bytes maxL ret wsy rm 0 0 n ∧ (Cond.static y).before args s = true) (hP : gP G wc H) (hK : gK G s)
    (hn : As.length = n) (hsize : ls.size = nL) (hstack : st0 = As.reverse ++ rest) (hW : (rest.map fun v => v.category).sum ≤ 8) (hdg : decode cc pc = .ok (.invokestatic index, 3)) (hc : cells ≤ R.cells) (hs : slots ≤ R.slots)
    (kk : W p l e R s m args below meth c H locs cells slots Q (F0 m (pc + 3) ls (r :: rest))) : W p l e R s m args below meth c H locs cells slots Q (F0 m pc ls st0) :=
  ro_on (va_runS (g := F0 m pc ls st0) (As := As) (rest := rest) S hM cw ⟨pcW_blind, fun U hU hW => ⟨rfl, by rw [hU]; exact hP, hK.warm hW⟩⟩ rfl hn hsize hstack (lv_room hW) hdg ⟨hc, hs⟩) kk
theorem ro_SN (S : CallFix p m c cc nL s args Ts own) (hM : Met l y wsy rm (pcW G As wc) (qRO r) 0 0 nofree) (cw : va_CN R s args own index y host bytes maxL ret wsy rm 0 0 n ∧ (Cond.static y).before args s = true ∧ True) (hP : gP G wc H) (hK : gK G s)
    (hn : As.length = n) (hsize : ls.size = nL) (hstack : st0 = As.reverse ++ rest) (hW : (rest.map fun v => v.category).sum ≤ 8) (hdg : decode cc pc = .ok (.invokestatic index, 3)) (hc : cells ≤ R.cells) (hs : slots ≤ R.slots)
    (kk : W p l e R s m args below meth c H locs cells slots Q (F0 m (pc + 3) ls (r :: rest))) : W p l e R s m args below meth c H locs cells slots Q (F0 m pc ls st0) :=
  ro_on (va_runSN (g := F0 m pc ls st0) (As := As) (rest := rest) S hM cw ⟨pcW_blind, fun U hU hW => ⟨rfl, by rw [hU]; exact hP, hK.warm hW⟩⟩ rfl hn hsize hstack (lv_room hW) hdg ⟨hc, hs⟩) kk
/-- behind a call of a write: what isn't the callee's stays -/
theorem mu_on {a : Array Value} {rv : Option Value} {w1 : va_W} (hr : va_Run p l e R s m args below meth c H locs cells slots 0 0 (F0 m pc ls st0) rest (qMU G rv wc w1 a) (aA wc)) (hS : va_S A0 H0 H locs) (hA : ∀ q, aA wc q → A0 q)
    (kk : ∀ (H1 : Heap) (locs1 : List Loc), gP G w1 H1 → (∀ q : Nat, q < H.size → ¬ aA wc q → H1[q]? = H[q]?) → va_S A0 H0 H1 locs1 → W p l e R s m args below meth c H1 locs1 cells slots Q (F0 m (pc + 3) ls (rv.toList ++ rest))) : W p l e R s m args below meth c H locs cells slots Q (F0 m pc ls st0) := by
  intro T hT X
  obtain ⟨v, st₀, t, T', L, h0, X', hL, e1, e2, ⟨hv, hP1, hz, hk⟩, st⟩ := hr T hT X
  cases hv
  rw [h0] at hz hk
  obtain ⟨t2, a1, b1⟩ := kk T'.heap (locs ++ L) (by rw [e1]; exact hP1) (fun q h1 h2 => by rw [e1]; exact hk q h1 h2)
    ⟨Nat.le_trans hS.1 (by rw [e1]; exact hz), fun q h1 h2 => by rw [e1, hk q (Nat.lt_of_lt_of_le h1 hS.1) (fun z => h2 (hA q z))]; exact hS.2.1 q h1 h2, fun q hq => by
      rcases List.mem_append.mp hq with h | h
      · exact hS.2.2 q h
      · exact hA _ (hL q h)⟩ T' rfl X'
  exact ⟨t2, st t2 a1, b1⟩
/-- .. whose world is all of the caller's -/
theorem mu_V {rv : Option Value} {w1 : va_W} (S : CallFix p m c cc nL s args Ts own) (hM : Met l y wsy rm (pcM G (.ref b :: As) wc) (qMU G rv wc w1) 0 0 (aA wc)) (cw : CallW R s args own C index y bytes maxL ret wsy rm 0 0 n) (hP : gP G wc H) (hK : gK G s) (hD : va_D A0 wc) (hS : va_S A0 H0 H locs) (hrv : ∃ cell : Cell, H[b]? = some cell ∧ cell.vm.isStatics = false ∧ s.vm.findClass C = some cell.cls)
    (hn : As.length = n) (hsize : ls.size = nL) (hstack : st0 = As.reverse ++ .ref b :: rest) (hW : (rest.map fun v => v.category).sum ≤ 8) (hdg : decode cc pc = .ok (.invokevirtual index, 3)) (hc : cells ≤ R.cells) (hs : slots ≤ R.slots) (hAd : w1.map (·.1) = wc.map (·.1))
    (kk : ∀ (H1 : Heap) (locs1 : List Loc), gP G w1 H1 → va_D A0 w1 → va_S A0 H0 H1 locs1 → W p l e R s m args below meth c H1 locs1 cells slots Q (F0 m (pc + 3) ls (rv.toList ++ rest))) : W p l e R s m args below meth c H locs cells slots Q (F0 m pc ls st0) :=
  mu_on (va_runV (g := F0 m pc ls st0) (As := As) (rest := rest) S hM cw ⟨pcM_blind, hrv, fun U hU hW => ⟨rfl, by rw [hU]; exact hP, hK.warm hW, hD.weaken (fun _ _ _ _ => trivial)⟩⟩ rfl hn hsize hstack (lv_room hW) hdg ⟨hc, hs⟩) hS (aA_in hD) (fun H1 locs1 h1 _ h3 => kk H1 locs1 h1 (va_D_addr hD hAd) h3)
/-- .. whose world is a part of the caller's: by lists of segments -/
theorem fr_split {A0 : Nat → Prop} {G : GG} {ws wc wr : va_W} (hp : ws.Perm (wc ++ wr)) (hD : va_D A0 ws) : va_D A0 wc ∧ (∀ q ∈ wr, ¬ aA wc q.1) := by
  obtain ⟨h1, h2⟩ := va_D_iff.mp hD
  have h3 : ((wc ++ wr).map (·.1)).Nodup := (hp.map _).nodup_iff.mp h1
  rw [List.map_append, List.nodup_append] at h3
  refine ⟨va_D_iff.mpr ⟨h3.1, fun q hq => h2 q (hp.mem_iff.mpr (List.mem_append_left _ hq))⟩, fun q hq h => ?_⟩
  exact h3.2.2 _ h _ (List.mem_map.mpr ⟨q, hq, rfl⟩) rfl
theorem fr_back {A0 : Nat → Prop} {G : GG} {H H1 : Heap} {ws ws' wc w1 wr : va_W} (hp : ws.Perm (wc ++ wr)) (hp' : ws'.Perm (w1 ++ wr)) (hAd : w1.map (·.1) = wc.map (·.1)) (hP : gP G ws H) (hD : va_D A0 ws) (hP1 : gP G w1 H1) (hk : ∀ q : Nat, q < H.size → ¬ aA wc q → H1[q]? = H[q]?) : gP G ws' H1 ∧ va_D A0 ws' := by
  obtain ⟨-, hd⟩ := fr_split (G := G) hp hD
  refine ⟨va_P_iff.mpr fun q hq => ?_, ?_⟩
  · rcases List.mem_append.mp (hp'.mem_iff.mp hq) with h | h
    · exact va_P_iff.mp hP1 q h
    · have h0 := va_P_iff.mp hP q (hp.mem_iff.mpr (List.mem_append_right _ h))
      exact h0.kept (hk q.1 h0.lt (hd q h))
  · obtain ⟨h1, h2⟩ := va_D_iff.mp hD
    have e : (ws'.map (·.1)).Perm (ws.map (·.1)) := by
      refine (hp'.map _).trans ?_
      rw [List.map_append, hAd, ← List.map_append]
      exact (hp.map _).symm
    refine va_D_iff.mpr ⟨e.nodup_iff.mpr h1, fun q hq => ?_⟩
    obtain ⟨x, hx, e1⟩ := List.mem_map.mp (e.mem_iff.mp (List.mem_map.mpr ⟨q, hq, rfl⟩))
    rw [← e1]
    exact h2 x hx
theorem fr_P {G : GG} {H : Heap} {ws wc wr : va_W} (hp : ws.Perm (wc ++ wr)) (hP : gP G ws H) : gP G wc H := va_P_iff.mpr fun q hq => va_P_iff.mp hP q (hp.mem_iff.mpr (List.mem_append_left _ hq))
theorem mu_VF {rv : Option Value} {w1 wr : va_W} (S : CallFix p m c cc nL s args Ts own) (hM : Met l y wsy rm (pcM G (.ref b :: As) wc) (qMU G rv wc w1) 0 0 (aA wc)) (cw : CallW R s args own C index y bytes maxL ret wsy rm 0 0 n) (hp : ws.Perm (wc ++ wr)) (hp' : ws'.Perm (w1 ++ wr)) (hP : gP G ws H) (hK : gK G s) (hD : va_D A0 ws) (hS : va_S A0 H0 H locs) (hrv : ∃ cell : Cell, H[b]? = some cell ∧ cell.vm.isStatics = false ∧ s.vm.findClass C = some cell.cls)
    (hn : As.length = n) (hsize : ls.size = nL) (hstack : st0 = As.reverse ++ .ref b :: rest) (hW : (rest.map fun v => v.category).sum ≤ 8) (hdg : decode cc pc = .ok (.invokevirtual index, 3)) (hc : cells ≤ R.cells) (hs : slots ≤ R.slots) (hAd : w1.map (·.1) = wc.map (·.1))
    (kk : ∀ (H1 : Heap) (locs1 : List Loc), gP G ws' H1 → va_D A0 ws' → va_S A0 H0 H1 locs1 → W p l e R s m args below meth c H1 locs1 cells slots Q (F0 m (pc + 3) ls (rv.toList ++ rest))) : W p l e R s m args below meth c H locs cells slots Q (F0 m pc ls st0) :=
  have hD1 := (fr_split (G := G) hp hD).1
  mu_on (va_runV (g := F0 m pc ls st0) (As := As) (rest := rest) S hM cw ⟨pcM_blind, hrv, fun U hU hW => ⟨rfl, by rw [hU]; exact fr_P hp hP, hK.warm hW, hD1.weaken (fun _ _ _ _ => trivial)⟩⟩ rfl hn hsize hstack (lv_room hW) hdg ⟨hc, hs⟩) hS (aA_in hD1) (fun H1 locs1 h1 h2 h3 =>
    have h := fr_back hp hp' hAd hP hD h1 h2
    kk H1 locs1 h.1 h.2 h3)
theorem mu_SF {rv : Option Value} {w1 wr : va_W} (S : CallFix p m c cc nL s args Ts own) (hM : Met l y wsy rm (pcM G As wc) (qMU G rv wc w1) 0 0 (aA wc)) (cw : CallB R s args own index y bytes maxL ret wsy rm 0 0 n ∧ (Cond.static y).before args s = true) (hp : ws.Perm (wc ++ wr)) (hp' : ws'.Perm (w1 ++ wr)) (hP : gP G ws H) (hK : gK G s) (hD : va_D A0 ws) (hS : va_S A0 H0 H locs)
    (hn : As.length = n) (hsize : ls.size = nL) (hstack : st0 = As.reverse ++ rest) (hW : (rest.map fun v => v.category).sum ≤ 8) (hdg : decode cc pc = .ok (.invokestatic index, 3)) (hc : cells ≤ R.cells) (hs : slots ≤ R.slots) (hAd : w1.map (·.1) = wc.map (·.1))
    (kk : ∀ (H1 : Heap) (locs1 : List Loc), gP G ws' H1 → va_D A0 ws' → va_S A0 H0 H1 locs1 → W p l e R s m args below meth c H1 locs1 cells slots Q (F0 m (pc + 3) ls (rv.toList ++ rest))) : W p l e R s m args below meth c H locs cells slots Q (F0 m pc ls st0) :=
  have hD1 := (fr_split (G := G) hp hD).1
  mu_on (va_runS (g := F0 m pc ls st0) (As := As) (rest := rest) S hM cw ⟨pcM_blind, fun U hU hW => ⟨rfl, by rw [hU]; exact fr_P hp hP, hK.warm hW, hD1.weaken (fun _ _ _ _ => trivial)⟩⟩ rfl hn hsize hstack (lv_room hW) hdg ⟨hc, hs⟩) hS (aA_in hD1) (fun H1 locs1 h1 h2 h3 =>
    have h := fr_back hp hp' hAd hP hD h1 h2
    kk H1 locs1 h.1 h.2 h3)
/-! ends -/
theorem ex_ROi {x : Int32} {r : Value} (hx : p.tables.exec = Jvm.exec) (hb : c.code = cc) (hr : meth.sig.returnType = some .int) (hlocks : meth.locks = false) (hH : H = s.heap) (hdg : decode cc pc = .ok (.ireturn, 1)) (h : Value.int x = r) : W p l e R s m args below meth c H [] 0 0 (MQ below (qRO r) args s 0 0 nofree) (F0 m pc ls [.int x]) :=
  W.iret hx hb hr (fun t ht _ => ⟨by rw [h], by rw [ht, hH]⟩) (fun _ h => by cases h) hdg hlocks
theorem ex_MUi {x : Int32} {rv : Option Value} {w1 w2 : va_W} (hx : p.tables.exec = Jvm.exec) (hb : c.code = cc) (hr : meth.sig.returnType = some .int) (hlocks : meth.locks = false) (hP : gP G w2 H) (hS : va_S (aA wc) s.heap H locs) (hdg : decode cc pc = .ok (.ireturn, 1)) (h : some (Value.int x) = rv) (hw : gP G w2 H → gP G w1 H) : W p l e R s m args below meth c H locs 0 0 (MQ below (qMU G rv wc w1) args s 0 0 (aA wc)) (F0 m pc ls [.int x]) :=
  W.iret hx hb hr (fun t ht _ => ⟨by rw [h], by rw [ht]; exact hw hP, hS.F ht⟩) hS.2.2 hdg hlocks
theorem ex_ROz {x : Int32} {r : Value} {b : Bool} (hx : p.tables.exec = Jvm.exec) (hb : c.code = cc) (hr : meth.sig.returnType = some .boolean) (hlocks : meth.locks = false) (hH : H = s.heap) (hdg : decode cc pc = .ok (.ireturn, 1)) (h0 : x = b2i b) (h : Value.int (b2i b) = r) : W p l e R s m args below meth c H [] 0 0 (MQ below (qRO r) args s 0 0 nofree) (F0 m pc ls [.int x]) := by
  subst h0
  exact W.zret hx hb hr (b2i_narrow b) (fun t ht _ => ⟨by rw [h], by rw [ht, hH]⟩) (fun _ h => by cases h) hdg hlocks
theorem ex_MUz {x : Int32} {rv : Option Value} {w1 w2 : va_W} {b : Bool} (hx : p.tables.exec = Jvm.exec) (hb : c.code = cc) (hr : meth.sig.returnType = some .boolean) (hlocks : meth.locks = false) (hP : gP G w2 H) (hS : va_S (aA wc) s.heap H locs) (hdg : decode cc pc = .ok (.ireturn, 1)) (h0 : x = b2i b) (h : some (Value.int (b2i b)) = rv) (hw : gP G w2 H → gP G w1 H) : W p l e R s m args below meth c H locs 0 0 (MQ below (qMU G rv wc w1) args s 0 0 (aA wc)) (F0 m pc ls [.int x]) := by
  subst h0
  exact W.zret hx hb hr (b2i_narrow b) (fun t ht _ => ⟨by rw [h], by rw [ht]; exact hw hP, hS.F ht⟩) hS.2.2 hdg hlocks
theorem ex_MUv {w1 w2 : va_W} (hx : p.tables.exec = Jvm.exec) (hb : c.code = cc) (hr : meth.sig.returnType = none) (hlocks : meth.locks = false) (hP : gP G w2 H) (hS : va_S (aA wc) s.heap H locs) (hdg : decode cc pc = .ok (.return_, 1)) (hw : gP G w2 H → gP G w1 H) : W p l e R s m args below meth c H locs 0 0 (MQ below (qMU G none wc w1) args s 0 0 (aA wc)) (F0 m pc ls []) :=
  W.vret hx hb hr (fun t ht _ => ⟨rfl, by rw [ht]; exact hw hP, hS.F ht⟩) hS.2.2 hdg hlocks
end CORE
theorem range_pick {α : Type} (l : List α) : (List.range l.length).filterMap (fun i => l[i]?) = l := by
  induction l with
  | nil => rfl
  | cons a l ih =>
    rw [List.length_cons, List.range_succ_eq_map, List.filterMap_cons]
    simp only [List.getElem?_cons_zero, List.filterMap_map]
    congr 1
theorem segs_perm {segs : List va_W} {is : List Nat} (h : is.isPerm (List.range segs.length) = true) : segs.flatten.Perm (is.filterMap (fun i => segs[i]?)).flatten := by
  have h1 : is.Perm (List.range segs.length) := List.isPerm_iff.mp h
  have h2 := (h1.filterMap (fun i => segs[i]?)).symm
  rw [range_pick] at h2
  exact h2.flatten
theorem segs_app (A B : List va_W) : (A ++ B).flatten.Perm (A.flatten ++ B.flatten) := by rw [List.flatten_append]
theorem segs_one (segs : List va_W) (i : Nat) (is : List Nat) {w : va_W} {wrs : List va_W} (h : (i :: is).isPerm (List.range segs.length) = true) (h1 : segs[i]? = some w) (h2 : is.filterMap (fun i => segs[i]?) = wrs) : segs.flatten.Perm (w ++ wrs.flatten) := by
  have h3 := segs_perm h
  rw [List.filterMap_cons, h1] at h3
  simp only [List.flatten_cons] at h3
  rw [h2] at h3
  exact h3
theorem segs_two (segs : List va_W) (isC isR : List Nat) {wcs wrs : List va_W} (h : (isC ++ isR).isPerm (List.range segs.length) = true) (h1 : isC.filterMap (fun i => segs[i]?) = wcs) (h2 : isR.filterMap (fun i => segs[i]?) = wrs) : segs.flatten.Perm (wcs.flatten ++ wrs.flatten) := by
  have h3 := segs_perm h
  rw [List.filterMap_append, h1, h2, List.flatten_append] at h3
  exact h3
