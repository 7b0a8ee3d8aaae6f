/-! CORE, of what makes objects: a constructor's world comes with it -/
def pcC (G : GG) (av : List Value) (ws : va_W) (sz : Nat) : Array Value → State → Prop := va_Pc av (fun U => U.heap.size = sz ∧ gP G ws U.heap ∧ gK G U ∧ va_D (fun _ => True) ws)
def qC {S : Type} (G : GG) (fw : S → va_W) (ok : S → Prop) (A : Nat → Prop) : Array Value → State → Outcome → State → Prop := va_Qv ok (fun u t => gP G (fw u) t.heap ∧ va_D A (fw u)) A
theorem pcC_blind {G : GG} {av : List Value} {ws : va_W} {sz : Nat} : FrameBlind (pcC G av ws sz) := fun _ _ _ _ h => ⟨h.1, h.2.1, h.2.2.1, gK.calling h.2.2.2.1, h.2.2.2.2⟩
theorem seg_pushP {G : GG} {L : List va_W} {w : va_W} {H : Heap} (h : gP G (L.flatten ++ w) H) : gP G (L ++ [w]).flatten H := by
  rw [List.flatten_append, List.flatten_cons, List.flatten_nil, List.append_nil]
  exact h
theorem seg_pushD {L : List va_W} {w : va_W} {A : Nat → Prop} (h : va_D A (L.flatten ++ w)) : va_D A (L ++ [w]).flatten := by
  rw [List.flatten_append, List.flatten_cons, List.flatten_nil, List.append_nil]
  exact h
theorem seg_popP {G : GG} {L : List va_W} {w : va_W} {H : Heap} (h : gP G (L ++ [w]).flatten H) : gP G (L.flatten ++ w) H := by
  rw [List.flatten_append, List.flatten_cons, List.flatten_nil, List.append_nil] at h
  exact h
theorem seg_popD {L : List va_W} {w : va_W} {A : Nat → Prop} (h : va_D A (L ++ [w]).flatten) : va_D A (L.flatten ++ w) := by
  rw [List.flatten_append, List.flatten_cons, List.flatten_nil, List.append_nil] at h
  exact h
section NEWC
variable {p : Program} {l : Launch} {e : Env} {R : Room} {s : State} {m : MethodId} {args : Array Value} {below : List Frame} {meth : Method} {c : Code} {H : Heap} {locs : List Loc} {cells slots : Nat} {Q : State → Prop}
variable {cc : ByteArray} {pc : Nat} {ls : Array Slot} {rest st0 : List Value} {G : GG} {A A0 : Nat → Prop} {H0 : Heap} {wc ws ws' w wr : va_W} {mc ms sz : Nat}
theorem hd_C {S : Type} {y : MethodName} {wz wz' : List Cond} {rm : Room} {fw : S → va_W} {ok : S → Prop} {maxL : Nat} {av : List Value} (hy : plainName y.cls = true) (hw : wz = Cond.code y cc maxL none :: wz') (hlen : (lg_sl av).length ≤ maxL)
    (body : ∀ (p : Program) (e : Env) (s : State) (m : MethodId) (below : List Frame) (meth : Method) (c : Code) (ls : Array Slot), p.tables.exec = Jvm.exec → c.code = cc → meth.sig.returnType = none → (∀ w ∈ wz, w.before av.toArray s = true) → s.vm.findClass y.cls = some m.cls → meth.locks = false → c.maxLocals = maxL → meth.name = y.name → (∀ q : Nat, s.heap.size ≤ q → va_A wc sz q) → gP G wc s.heap → gK G s → va_D (va_A wc sz) wc → va_S (va_A wc sz) s.heap s.heap [] → lv_has ls maxL (lv_args 0 av) →
      W p l e rm s m av.toArray below meth c s.heap [] 0 0 (MQ below (qC G fw ok (va_A wc sz)) av.toArray s mc ms (va_A wc sz)) (F0 m 0 ls [])) : Met l y wz rm (pcC G av wc sz) (qC G fw ok (va_A wc sz)) mc ms (va_A wc sz) := by
  refine Met.ofW (cc := cc) (maxL := maxL) (ret := none) hy hw ?_
  intro p e s m args below meth c s₁ B hml hv
  obtain ⟨rfl, hsz, hP, hK, hD⟩ := hv
  have hl := lv_entry av (n := maxL) hlen
  rw [lg_entry_eq]
  exact body p e s m below meth c _ B.exec B.bytes B.returns (atoms_spec (ws := wz) B.pre) (findClass_of_methodNamed B.named) B.notSynchronized hml (name_of_methodNamed B.named B.method).1 (fun q h => Or.inr (hsz ▸ h)) hP hK hD.self va_S.rf hl
theorem nw_I (hexec : p.tables.exec = Jvm.exec) (hb : c.code = cc) (harr : (Cond.arrayClass .int).before args s = true) (hK : gK G s) (hP : gP G ws H) (hD : va_D A ws) (hS : va_S A H0 H locs) (hA : ∀ q, H0.size ≤ q → A q)
    {n : Int32} {N : Nat} (hn : ¬ n < 0) (hN : n.toNatClampNeg = N) (hbytes : N * 4 ≤ 536870912) (hcells : cells + 1 ≤ R.cells) (hslots : slots + N ≤ R.slots) (hdg : decode cc pc = .ok (.newarray .int, 2))
    (kk : ∀ (q : Nat) (H1 : Heap), gP G (ws ++ [(q, .inl (gI G, N, .inl (fun _ => 0)))]) H1 → va_D A (ws ++ [(q, .inl (gI G, N, .inl (fun _ => 0)))]) → va_S A H0 H1 locs →
      W p l e R s m args below meth c H1 locs (cells + 1) (slots + N) Q (F0 m (pc + 2) ls (.ref q :: rest))) : W p l e R s m args below meth c H locs cells slots Q (F0 m pc ls (.int n :: rest)) := by
  refine va_newa (atype := .int) (ty := .int) hexec hb harr rfl hK.1 hP hD hS hA (a0 := (N, .inl (fun _ => 0))) (fun cA => rfl) hn hN hbytes hcells hslots hdg (fun q cA H1 hK1 hP1 hD1 hS1 => ?_)
  have e1 : s.vm.findClass ("[" ++ FieldType.int.toString) = some cA := (hK1.2 3 (cA, .int) rfl).2
  have e2 : s.vm.findClass ("[" ++ FieldType.int.toString) = some (gI G) := (hK.1.2 0 (gI G, .int) rfl).2
  have e3 : cA = gI G := Option.some.inj (e1.symm.trans e2)
  rw [e3] at hP1 hD1
  exact kk q H1 hP1 hD1 hS1
theorem nw_Z (hexec : p.tables.exec = Jvm.exec) (hb : c.code = cc) (harr : (Cond.arrayClass .boolean).before args s = true) (hK : gK G s) (hP : gP G ws H) (hD : va_D A ws) (hS : va_S A H0 H locs) (hA : ∀ q, H0.size ≤ q → A q)
    {n : Int32} {N : Nat} (hn : ¬ n < 0) (hN : n.toNatClampNeg = N) (hbytes : N * 1 ≤ 536870912) (hcells : cells + 1 ≤ R.cells) (hslots : slots + N ≤ R.slots) (hdg : decode cc pc = .ok (.newarray .boolean, 2))
    (kk : ∀ (q : Nat) (H1 : Heap), gP G (ws ++ [(q, .inl (gZ G, N, .inl (fun _ => 0)))]) H1 → va_D A (ws ++ [(q, .inl (gZ G, N, .inl (fun _ => 0)))]) → va_S A H0 H1 locs →
      W p l e R s m args below meth c H1 locs (cells + 1) (slots + N) Q (F0 m (pc + 2) ls (.ref q :: rest))) : W p l e R s m args below meth c H locs cells slots Q (F0 m pc ls (.int n :: rest)) := by
  refine va_newa (atype := .boolean) (ty := .boolean) hexec hb harr rfl hK.1 hP hD hS hA (a0 := (N, .inl (fun _ => 0))) (fun cA => rfl) hn hN hbytes hcells hslots hdg (fun q cA H1 hK1 hP1 hD1 hS1 => ?_)
  have e1 : s.vm.findClass ("[" ++ FieldType.boolean.toString) = some cA := (hK1.2 3 (cA, .boolean) rfl).2
  have e2 : s.vm.findClass ("[" ++ FieldType.boolean.toString) = some (gZ G) := (hK.1.2 1 (gZ G, .boolean) rfl).2
  have e3 : cA = gZ G := Option.some.inj (e1.symm.trans e2)
  rw [e3] at hP1 hD1
  exact kk q H1 hP1 hD1 hS1
theorem nw_R (hexec : p.tables.exec = Jvm.exec) (hb : c.code = cc) {own : String} {index : Nat} (hown : s.vm.findClass own = some m.cls) (hclink : (Cond.classLink own index "WeldedRelays$Room").before args s = true) (hK : gK G s) (hP : gP G ws H) (hD : va_D A ws) (hS : va_S A H0 H locs) (hA : ∀ q, H0.size ≤ q → A q)
    {n : Int32} {N : Nat} (hn : ¬ n < 0) (hN : n.toNatClampNeg = N) (hbytes : N * 4 ≤ 536870912) (hcells : cells + 1 ≤ R.cells) (hslots : slots + N ≤ R.slots) (hdg : decode cc pc = .ok (.anewarray index, 3))
    (kk : ∀ (q : Nat) (H1 : Heap), gP G (ws ++ [(q, .inl (gR G, N, .inr (.inr (.inr (.inr (fun _ => none))))))]) H1 → va_D A (ws ++ [(q, .inl (gR G, N, .inr (.inr (.inr (.inr (fun _ => none))))))]) → va_S A H0 H1 locs →
      W p l e R s m args below meth c H1 locs (cells + 1) (slots + N) Q (F0 m (pc + 3) ls (.ref q :: rest))) : W p l e R s m args below meth c H locs cells slots Q (F0 m pc ls (.int n :: rest)) := by
  refine va_newq hexec hb hown hclink hK.2.2 hK.1 hP hD hS hA hn hN hbytes hcells hslots hdg (fun q cA H1 hK1 hP1 hD1 hS1 => ?_)
  obtain ⟨_, _, -, -, -, e1⟩ := (hK1.2 3 (cA, .object "WeldedRelays$Room") rfl).2
  obtain ⟨_, _, -, -, -, e2⟩ := (hK.1.2 2 (gR G, .object "WeldedRelays$Room") rfl).2
  have e3 : cA = gR G := Option.some.inj (e1.symm.trans e2)
  rw [e3] at hP1 hD1
  exact kk q H1 hP1 hD1 hS1
/-- behind a constructor: what stood, and its world -/
theorem nw_on {S : Type} {fw : S → va_W} {ok : S → Prop} {a : Array Value} (hr : va_Run p l e R s m args below meth c H locs cells slots mc ms (F0 m pc ls st0) rest (qC G fw ok (va_A w H.size) a) (va_A w H.size)) (hP : gP G (wr ++ w) H) (hD : va_D A (wr ++ w)) (hS : va_S A H0 H locs) (hA : ∀ q, H0.size ≤ q → A q)
    (kk : ∀ (u : S) (H1 : Heap) (locs1 : List Loc), ok u → gP G (wr ++ fw u) H1 → va_D A (wr ++ fw u) → va_S A H0 H1 locs1 → W p l e R s m args below meth c H1 locs1 (cells + mc) (slots + ms) Q (F0 m (pc + 3) ls rest)) : W p l e R s m args below meth c H locs cells slots Q (F0 m pc ls st0) := by
  obtain ⟨hn, hAll⟩ := va_D_iff.mp hD
  rw [List.map_append, List.nodup_append] at hn
  have hF : ∀ q, va_A w H.size q → A q := fun q h => by
    rcases h with ⟨k, e9, h⟩ | h
    · exact hAll (q, e9) (List.mem_append_right _ (List.mem_of_getElem? h))
    · exact hA q (Nat.le_trans hS.1 h)
  have hno : ∀ q ∈ wr, q.1 < H.size ∧ ¬ va_A w H.size q.1 := fun q hq => by
    have hl := (va_P_iff.mp hP q (List.mem_append_left _ hq)).lt
    refine ⟨hl, fun h => ?_⟩
    rcases h with ⟨k, e9, h⟩ | h
    · exact hn.2.2 _ (List.mem_map.mpr ⟨q, hq, rfl⟩) _ (List.mem_map.mpr ⟨_, List.mem_of_getElem? h, rfl⟩) rfl
    · omega
  refine va_callv hr hS (fun q _ h => hF q h) hF (fun u t H1 locs1 ht hvm hok hB hz1 hk1 hS1 => ?_)
  obtain ⟨hP1, hD1⟩ := hB
  rw [ht] at hP1
  obtain ⟨hn1, hA1⟩ := va_D_iff.mp hD1
  refine kk u H1 locs1 hok (va_P_iff.mpr fun q hq => ?_) (va_D_iff.mpr ⟨?_, fun q hq => ?_⟩) hS1
  · rcases List.mem_append.mp hq with h | h
    · exact (va_P_iff.mp hP q (List.mem_append_left _ h)).kept (hk1 q.1 (hno q h).1 (hno q h).2)
    · exact va_P_iff.mp hP1 q h
  · rw [List.map_append, List.nodup_append]
    refine ⟨hn.1, hn1, fun x hx y hy hxy => ?_⟩
    obtain ⟨q, hq, rfl⟩ := List.mem_map.mp hx
    obtain ⟨q2, hq2, rfl⟩ := List.mem_map.mp hy
    exact (hno q hq).2 (hxy ▸ hA1 q2 hq2)
  · rcases List.mem_append.mp hq with h | h
    · exact hAll q (List.mem_append_left _ h)
    · exact hF _ (hA1 q h)
variable {y : MethodName} {bytes : ByteArray} {maxL nL n index : Nat} {wsy : List Cond} {rm : Room} {Ts : List Cond} {own host : String} {b : Addr}
theorem nw_C {S : Type} {fw : S → va_W} {ok : S → Prop} (X : CallFix p m c cc nL s args Ts own) (hM : Met l y wsy rm (pcC G [.ref b] w H.size) (qC G fw ok (va_A w H.size)) mc ms (va_A w H.size)) (cw : CallB R s args own index y bytes maxL none wsy rm mc ms 0 ∧ y.name = "<init>" ∧ (Cond.instanceMethod y).before args s = true) (hP : gP G (wr ++ w) H) (hK : gK G s) (hD : va_D A (wr ++ w)) (hS : va_S A H0 H locs) (hA : ∀ q, H0.size ≤ q → A q)
    (hsize : ls.size = nL) (hstack : st0 = .ref b :: rest) (hW : (rest.map fun v => v.category).sum ≤ 8) (hdg : decode cc pc = .ok (.invokespecial index, 3)) (hc : cells + mc ≤ R.cells ∧ slots + ms ≤ R.slots)
    (kk : ∀ (u : S) (H1 : Heap) (locs1 : List Loc), ok u → gP G (wr ++ fw u) H1 → va_D A (wr ++ fw u) → va_S A H0 H1 locs1 → W p l e R s m args below meth c H1 locs1 (cells + mc) (slots + ms) Q (F0 m (pc + 3) ls rest)) : W p l e R s m args below meth c H locs cells slots Q (F0 m pc ls st0) :=
  have hDw : va_D (fun _ => True) w := by
    obtain ⟨hn, -⟩ := va_D_iff.mp hD
    rw [List.map_append, List.nodup_append] at hn
    exact va_D_iff.mpr ⟨hn.2.1, fun _ _ => trivial⟩
  have hPw : gP G w H := va_P_iff.mpr fun q hq => va_P_iff.mp hP q (List.mem_append_right _ hq)
  nw_on (va_runI (g := F0 m pc ls st0) (As := []) (rest := rest) X hM cw ⟨pcC_blind, fun U hU hW => ⟨rfl, by rw [hU], by rw [hU]; exact hPw, hK.warm hW, hDw⟩⟩ rfl rfl hsize hstack (lv_room hW) hdg hc) hP hD hS hA kk
theorem nw_CN {S : Type} {fw : S → va_W} {ok : S → Prop} (X : CallFix p m c cc nL s args Ts own) (hM : Met l y wsy rm (pcC G [.ref b] w H.size) (qC G fw ok (va_A w H.size)) mc ms (va_A w H.size)) (cw : va_CN R s args own index y host bytes maxL none wsy rm mc ms 0 ∧ y.name = "<init>" ∧ (Cond.instanceMethod y).before args s = true) (hP : gP G (wr ++ w) H) (hK : gK G s) (hD : va_D A (wr ++ w)) (hS : va_S A H0 H locs) (hA : ∀ q, H0.size ≤ q → A q)
    (hsize : ls.size = nL) (hstack : st0 = .ref b :: rest) (hW : (rest.map fun v => v.category).sum ≤ 8) (hdg : decode cc pc = .ok (.invokespecial index, 3)) (hc : cells + mc ≤ R.cells ∧ slots + ms ≤ R.slots)
    (kk : ∀ (u : S) (H1 : Heap) (locs1 : List Loc), ok u → gP G (wr ++ fw u) H1 → va_D A (wr ++ fw u) → va_S A H0 H1 locs1 → W p l e R s m args below meth c H1 locs1 (cells + mc) (slots + ms) Q (F0 m (pc + 3) ls rest)) : W p l e R s m args below meth c H locs cells slots Q (F0 m pc ls st0) :=
  have hDw : va_D (fun _ => True) w := by
    obtain ⟨hn, -⟩ := va_D_iff.mp hD
    rw [List.map_append, List.nodup_append] at hn
    exact va_D_iff.mpr ⟨hn.2.1, fun _ _ => trivial⟩
  have hPw : gP G w H := va_P_iff.mpr fun q hq => va_P_iff.mp hP q (List.mem_append_right _ hq)
  nw_on (va_runIN (g := F0 m pc ls st0) (As := []) (rest := rest) X hM cw ⟨pcC_blind, fun U hU hW => ⟨rfl, by rw [hU], by rw [hU]; exact hPw, hK.warm hW, hDw⟩⟩ rfl rfl hsize hstack (lv_room hW) hdg hc) hP hD hS hA kk
/-- a constructor's end -/
theorem ex_C {S : Type} {fw : S → va_W} {ok : S → Prop} (u : S) (hok : ok u) (hx : p.tables.exec = Jvm.exec) (hb : c.code = cc) (hr : meth.sig.returnType = none) (hlocks : meth.locks = false) (hP : gP G (fw u) H) (hD : va_D (va_A wc sz) (fw u)) (hS : va_S (va_A wc sz) s.heap H locs) (hdg : decode cc pc = .ok (.return_, 1)) : W p l e R s m args below meth c H locs mc ms (MQ below (qC G fw ok (va_A wc sz)) args s mc ms (va_A wc sz)) (F0 m pc ls []) :=
  W.vret hx hb hr (fun t ht _ => ⟨⟨u, rfl, hok, by rw [ht]; exact hP, hD⟩, hS.F ht⟩) hS.2.2 hdg
end NEWC
/-- a new room -/
def ini : Nat → Nat → Int32
  | 0 => fun _ => 0
  | n + 1 => upd (upd (ini n) (px n 0) 2) (px n 1) 1
def v0 : Nat → Int32 := ini 10
def mk2 (a b : Nat) : Nat → Nat
  | 0 => a
  | _ => b
def mk3 (a b c : Nat) : Nat → Nat
  | 0 => a
  | 1 => b
  | _ => c
def mk8 (a b c d e f g h : Nat) : Nat → Nat
  | 0 => a
  | 1 => b
  | 2 => c
  | 3 => d
  | 4 => e
  | 5 => f
  | 6 => g
  | _ => h
def mk9 (a b c d e f g h i : Nat) : Nat → Nat
  | 0 => a
  | 1 => b
  | 2 => c
  | 3 => d
  | 4 => e
  | 5 => f
  | 6 => g
  | 7 => h
  | _ => i
def mk6 (a b c d e f : Nat → Nat) : Nat → Nat → Nat
  | 0 => a
  | 1 => b
  | 2 => c
  | 3 => d
  | 4 => e
  | _ => f
def mk2r (a b : Nat → Nat) : Nat → Nat → Nat
  | 0 => a
  | _ => b
theorem flat1P {G : GG} {w : va_W} {H : Heap} (h : gP G (List.flatten [w]) H) : gP G w H := by
  rw [List.flatten_cons, List.flatten_nil, List.append_nil] at h
  exact h
theorem flat1D {w : va_W} {A : Nat → Prop} (h : va_D A (List.flatten [w])) : va_D A w := by
  rw [List.flatten_cons, List.flatten_nil, List.append_nil] at h
  exact h
theorem seg_push2P {G : GG} {L : List va_W} {w w2 : va_W} {H : Heap} (h : gP G (L.flatten ++ (w ++ w2)) H) : gP G (L ++ [w, w2]).flatten H := by
  rw [List.flatten_append, List.flatten_cons, List.flatten_cons, List.flatten_nil, List.append_nil]
  exact h
theorem seg_push2D {L : List va_W} {w w2 : va_W} {A : Nat → Prop} (h : va_D A (L.flatten ++ (w ++ w2))) : va_D A (L ++ [w, w2]).flatten := by
  rw [List.flatten_append, List.flatten_cons, List.flatten_cons, List.flatten_nil, List.append_nil]
  exact h
theorem perm_P {G : GG} {ws ws' : va_W} {H : Heap} (hp : ws.Perm ws') (h : gP G ws H) : gP G ws' H := va_P_iff.mpr fun q hq => va_P_iff.mp h q (hp.mem_iff.mpr hq)
theorem perm_D {ws ws' : va_W} {A : Nat → Prop} (hp : ws.Perm ws') (h : va_D A ws) : va_D A ws' := by
  obtain ⟨h1, h2⟩ := va_D_iff.mp h
  exact va_D_iff.mpr ⟨(hp.map _).nodup_iff.mp h1, fun q hq => h2 q (hp.mem_iff.mpr hq)⟩
theorem cellq_eq {cA : ClassId} {n : Nat} {f g : Nat → Option Nat} (h : ∀ i, i < n → g i = f i) : vp_cell cA (n, .inr (.inr (.inr (.inr g)))) = vp_cell cA (n, .inr (.inr (.inr (.inr f)))) := by
  rw [vp_cell_q, vp_cell_q]
  unfold arrV
  have e : (fun j : Fin n => va_rf (g j.val)) = (fun j : Fin n => va_rf (f j.val)) := funext fun j => by rw [h j.val j.isLt]
  rw [e]
theorem setq_P {G : GG} {ws : va_W} {H : Heap} {a n : Nat} {f g : Nat → Option Nat} (hP : gP G ws H) (q0 : Nat) (ha : ws[q0]? = some (a, .inl (gR G, n, .inr (.inr (.inr (.inr g)))))) (h : ∀ i, i < n → g i = f i) : gP G (ws.set q0 (a, .inl (gR G, n, .inr (.inr (.inr (.inr f)))))) H := by
  intro k x hx
  by_cases hk : q0 = k
  · subst hk
    rw [List.getElem?_set_self (List.getElem?_eq_some_iff.mp ha).1] at hx
    cases hx
    exact (hP q0 _ ha).trans (congrArg some (cellq_eq h))
  · rw [List.getElem?_set_ne hk] at hx
    exact hP k x hx
theorem setq_D {ws : va_W} {A : Nat → Prop} {a : Nat} {x y : va_E} (hD : va_D A ws) (q0 : Nat) (ha : ws[q0]? = some (a, x)) : va_D A (ws.set q0 (a, y)) := hD.set ha
