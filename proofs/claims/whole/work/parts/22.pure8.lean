/-! Rooms in any number; the history, the whole object's cells -/
def fam (G : GG) (n : Nat) (B : Nat → Nat → Nat) (V : Nat → Nat → Int32) : va_W := (List.range n).flatMap (fun i => rW G (B i) (V i))
def fmr (G : GG) (n j : Nat) (B : Nat → Nat → Nat) (V : Nat → Nat → Int32) : va_W := ((List.range n).erase j).flatMap (fun i => rW G (B i) (V i))
theorem fam_perm {G : GG} {n j : Nat} (B : Nat → Nat → Nat) (V : Nat → Nat → Int32) (h : j < n) : (fam G n B V).Perm (rW G (B j) (V j) ++ fmr G n j B V) := by
  have h1 : (List.range n).Perm (j :: (List.range n).erase j) := List.perm_cons_erase (List.mem_range.mpr h)
  have h2 := h1.flatMap_right (fun i => rW G (B i) (V i))
  exact h2
theorem fmr_up {G : GG} {n j : Nat} (B : Nat → Nat → Nat) (V : Nat → Nat → Int32) (v : Nat → Int32) : fmr G n j B (va_up V j v) = fmr G n j B V := by
  unfold fmr
  simp only [List.flatMap]
  congr 1
  apply List.map_congr_left
  intro i hi
  have hne : i ≠ j := ((List.nodup_range).mem_erase_iff.mp hi).1
  simp only [va_up, if_neg hne]
theorem fam_addr (G : GG) (n : Nat) (B : Nat → Nat → Nat) (V V' : Nat → Nat → Int32) : (fam G n B V').map (·.1) = (fam G n B V).map (·.1) := by
  unfold fam
  rw [List.map_flatMap, List.map_flatMap]
  rfl
theorem flat_addr {A B : List va_W} (h : A.map (fun w => w.map (·.1)) = B.map (fun w => w.map (·.1))) : (A.flatten).map (·.1) = (B.flatten).map (·.1) := by
  rw [List.map_flatten, List.map_flatten]
  exact congrArg List.flatten h
abbrev bPw (G : GG) (a : Nat → Nat) (pd : Nat → Int32) (N : Nat) : va_W := [(a 0, .inr (1, [.ref (a 1), .int (nI N)])), (a 1, .inl (gI G, 64, .inl pd))]
abbrev bQw (a : Nat → Nat) (p k : Nat) : va_W := [(a 0, .inr (2, [.int (nI p), .int (nI k)]))]
abbrev bHw (G : GG) (a : Nat → Nat) (B : Nat → Nat → Nat) (ol sz : Nat) : va_W := [(a 0, .inr (0, [.ref (a 1), .int (nI ol), .int (nI sz)])), (a 1, .inl (gR G, 6, .inr (.inr (.inr (.inr (fun i => some (B i 0)))))))]
abbrev bMw (G : GG) (oa ra ta ad qa ha : Nat → Nat) (S : Nat → Nat → Nat) (sv : Nat → Int32) : va_W := [(oa 0, .inr (4, [.ref (ra 0), .ref (ta 0), .ref (ad 0), .ref (qa 0), .ref (ha 0), .ref (oa 1), .ref (oa 2)])), (oa 1, .inl (gR G, 2, .inr (.inr (.inr (.inr (fun i => some (S i 0))))))), (oa 2, .inl (gZ G, 2, .inl sv))]
/-- a room out of a family, beside another room: what else there is -/
theorem fam_split {G : GG} {n j : Nat} {B : Nat → Nat → Nat} {V : Nat → Nat → Int32} (h : j < n) (X R : va_W) : (List.flatten [X, R, fam G n B V]).Perm (List.flatten [rW G (B j) (V j), R] ++ (X ++ fmr G n j B V)) := by
  simp only [List.flatten_cons, List.flatten_nil, List.append_nil]
  have h1 : (X ++ (R ++ fam G n B V)).Perm (X ++ (R ++ (rW G (B j) (V j) ++ fmr G n j B V))) := List.Perm.append_left _ (List.Perm.append_left _ (fam_perm B V h))
  refine h1.trans ?_
  refine (List.perm_append_comm_assoc _ _ _).trans ?_
  rw [List.append_assoc]
  refine (List.Perm.append_left R (List.perm_append_comm_assoc _ _ _)).trans ?_
  exact List.perm_append_comm_assoc _ _ _
theorem fam_split' {G : GG} {n j : Nat} {B : Nat → Nat → Nat} {V : Nat → Nat → Int32} {v : Nat → Int32} (h : j < n) (X R : va_W) : (List.flatten [X, R, fam G n B (va_up V j v)]).Perm (List.flatten [rW G (B j) v, R] ++ (X ++ fmr G n j B V)) := by
  have h1 := fam_split (G := G) (B := B) (V := va_up V j v) h X R
  rw [fmr_up] at h1
  have e : va_up V j v j = v := by simp [va_up]
  rw [e] at h1
  exact h1
theorem flat_swap (a b : va_W) (X : va_W) : (List.flatten [a, b] ++ X).Perm (List.flatten [b, a] ++ X) := by
  simp only [List.flatten_cons, List.flatten_nil, List.append_nil]
  exact List.Perm.append_right _ List.perm_append_comm
def recO (ol sz : Nat) : Nat := if sz < 6 then ol else (ol + 1) % 6
def recZ (sz : Nat) : Nat := if sz < 6 then sz + 1 else sz
def recV (VH : Nat → Nat → Int32) (ol sz : Nat) (v : Nat → Int32) : Nat → Nat → Int32 := va_up VH ((ol + sz) % 6) v
section NROWS2
variable {p : Program} {l : Launch} {e : Env} {R : Room} {s : State} {m : MethodId} {args : Array Value} {below : List Frame} {meth : Method} {c : Code} {H : Heap} {locs : List Loc} {cells slots : Nat} {Q : State → Prop}
variable {cc : ByteArray} {pc : Nat} {ls : Array Slot} {rest : List Value} {D : va_G} {cl : List vw_C} {A : Nat → Prop} {a : Nat} {tys : List (ClassId × FieldType)} {ws : va_W} {H0 : Heap}
theorem va_aldqN {b : Nat} (hexec : p.tables.exec = Jvm.exec) (hb : c.code = cc) (hK : va_K D cl tys s) (hP : va_P D cl ws H) (q0 t0 : Nat) {cA : ClassId} {C : String} {n j : Nat} {f : Nat → Option Nat} (ha : ws[q0]? = some (a, .inl (cA, n, .inr (.inr (.inr (.inr f)))))) (ht : tys[t0]? = some (cA, .object C)) {i : Int32} (hi : i = nI j) (hj : j < n) (hn : n < 2 ^ 31) (hv : f j = some b) (hdg : decode cc pc = .ok (.aaload, 1))
    (kk : W p l e R s m args below meth c H locs cells slots Q (F0 m (pc + 1) ls (.ref b :: rest))) : W p l e R s m args below meth c H locs cells slots Q (F0 m pc ls (.int i :: .ref a :: rest)) := by
  subst hi
  have e1 : (nI j).toNatClampNeg = j := nI_clamp (Nat.lt_trans hj hn)
  refine va_aldq hexec hb hK hP q0 t0 ha ht (vp_in_nI hj hn) hdg ?_
  rw [e1, hv]
  exact kk
theorem va_zastN {x : Int32} (hexec : p.tables.exec = Jvm.exec) (hb : c.code = cc) (hK : va_K D cl tys s) (hP : va_P D cl ws H) (hD : va_D A ws) (hS : va_S A H0 H locs) (q0 t0 : Nat) {cA : ClassId} {n j : Nat} {f : Nat → Int32} (ha : ws[q0]? = some (a, .inl (cA, n, .inl f))) (ht : tys[t0]? = some (cA, .boolean)) {i : Int32} (hi : i = nI j) (hj : j < n) (hn : n < 2 ^ 31) (hx : vp_nar .boolean x = x) (hdg : decode cc pc = .ok (.bastore, 1))
    (kk : ∀ (H1 : Heap) (locs1 : List Loc), va_P D cl (ws.set q0 (a, .inl (cA, n, .inl (upd f j x)))) H1 → va_D A (ws.set q0 (a, .inl (cA, n, .inl (upd f j x)))) → va_S A H0 H1 locs1 → W p l e R s m args below meth c H1 locs1 cells slots Q (F0 m (pc + 1) ls rest)) : W p l e R s m args below meth c H locs cells slots Q (F0 m pc ls (.int x :: .int i :: .ref a :: rest)) := by
  subst hi
  have e1 : (nI j).toNatClampNeg = j := nI_clamp (Nat.lt_trans hj hn)
  refine va_zast hexec hb hK hP hD hS q0 t0 ha ht (vp_in_nI hj hn) hdg ?_
  rw [e1, hx]
  exact kk
end NROWS2
theorem segs_pre (segs : List va_W) (isO : List Nat) (r f n : Nat) {os : List va_W} {R F : va_W} (h : (isO ++ [r, f]).isPerm (List.range n) = true) (hn : segs.length = n) (ho : isO.filterMap (fun i => segs[i]?) = os) (hr : segs[r]? = some R) (hf : segs[f]? = some F) : segs.flatten.Perm (List.flatten [os.flatten, R, F]) := by
  have h3 := segs_perm (segs := segs) (is := isO ++ [r, f]) (by rw [hn]; exact h)
  rw [List.filterMap_append, ho, List.flatten_append] at h3
  have e : List.filterMap (fun i => segs[i]?) [r, f] = [R, F] := by simp [hr, hf]
  rw [e] at h3
  exact h3
