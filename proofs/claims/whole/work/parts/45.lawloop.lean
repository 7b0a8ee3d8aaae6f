/-! THE LAW: its classes, its loop, its start -/
theorem law_known {s : State} {b : Nat} (hts0 : ∀ w ∈ lw_tbl, w.before #[Value.ref b] s = true) : ∃ G : GG, gK G s := by
  have hts : ∀ w ∈ wsL_law, w.before #[Value.ref b] s = true := fun w hw => hts0 w (wsL_law_in w hw)
  have ht : ∀ (i : Nat) (w : Cond), tables_1[i]? = some w → w.before #[Value.ref b] s = true := fun i w h => hts0 w (List.mem_append_right _ (List.mem_of_getElem? h))
  obtain ⟨c0, i0, k0⟩ := u_known (C := RX0) (T := TX0) (N := 3) (n := 3) hts inlX0 (hts (.instantiable RX0 3) (by decide +kernel))
  obtain ⟨c1, i1, k1⟩ := u_known (C := RX1) (T := TX1) (N := 2) (n := 2) hts inlX1 (hts (.instantiable RX1 2) (by decide +kernel))
  obtain ⟨c2, i2, k2⟩ := u_known (C := RX2) (T := TX2) (N := 2) (n := 2) hts inlX2 (hts (.instantiable RX2 2) (by decide +kernel))
  obtain ⟨c3, i3, k3⟩ := u_known (C := RX3) (T := TX3) (N := 14) (n := 14) hts inlX3 (hts (.instantiable RX3 14) (by decide +kernel))
  obtain ⟨c4, i4, k4⟩ := u_known (C := RX4) (T := TX4) (N := 7) (n := 7) hts inlX4 (hts (.instantiable RX4 7) (by decide +kernel))
  obtain ⟨c5, i5, k5⟩ := u_known (C := RX5) (T := TX5) (N := 12) (n := 12) hts inlX5 (hts (.instantiable RX5 12) (by decide +kernel))
  obtain ⟨dC, dI, hKc⟩ : ∃ (dC : Nat → ClassId) (dI : Nat → Nat → Nat), ∀ (k : Nat) (q : vw_C), vwCl[k]? = some q → u_Kn s q.1 q.2.1 q.2.2 (dC k) (dI k) := by
    refine ⟨fun k => if k = 0 then c0 else if k = 1 then c1 else if k = 2 then c2 else if k = 3 then c3 else if k = 4 then c4 else c5, fun k => if k = 0 then i0 else if k = 1 then i1 else if k = 2 then i2 else if k = 3 then i3 else if k = 4 then i4 else i5, ?_⟩
    intro k q hq
    match k, hq with
    | 0, hq => cases hq; exact k0
    | 1, hq => cases hq; exact k1
    | 2, hq => cases hq; exact k2
    | 3, hq => cases hq; exact k3
    | 4, hq => cases hq; exact k4
    | 5, hq => cases hq; exact k5
    | k + 6, hq => simp [vwCl] at hq
  obtain ⟨cI, kI, pI, f1, f2, f3⟩ := Cond.arrayClass_spec (ht 80 (.arrayClass .int) (by decide +kernel))
  obtain ⟨cZ, kZ, pZ, e1, e2, e3⟩ := Cond.arrayClass_spec (ht 152 (.arrayClass .boolean) (by decide +kernel))
  have hO := ht 117 (.arrayOver (.object "WeldedRelays$Room")) (by decide +kernel)
  obtain ⟨pR, cR, kR, g1, g2, g3, g4, g5⟩ := Cond.arrayOver_spec hO
  refine ⟨(dC, dI, cI, cZ, cR), ⟨hKc, fun k q h => ?_⟩, ?_, va_AO.of hO⟩
  · match k, h with
    | 0, h => cases h; exact ⟨fun n z => ⟨(fun k h => by cases h), kI, f2, pI, f3⟩, f1⟩
    | 1, h => cases h; exact ⟨fun n z => ⟨(fun k h => by cases h), kZ, e2, pZ, e3⟩, e1⟩
    | 2, h => cases h; exact ⟨fun n z => ⟨(fun k h => by cases h), kR, g3, pR, g4⟩, kR, pR, g3, g4, g1, g5⟩
    | k + 3, h => simp [tyA] at h
  · exact List.forall_mem_cons.mpr ⟨va_Nw.of rfl (ht 83 _ (by decide +kernel)), List.forall_mem_cons.mpr ⟨va_Nw.of rfl (ht 99 _ (by decide +kernel)), List.forall_mem_cons.mpr ⟨va_Nw.of rfl (ht 198 _ (by decide +kernel)), List.forall_mem_cons.mpr ⟨va_Nw.of rfl (ht 199 _ (by decide +kernel)), List.forall_mem_cons.mpr ⟨va_Nw.of rfl (ht 224 _ (by decide +kernel)), List.forall_mem_cons.mpr ⟨va_Nw.of rfl (ht 295 _ (by decide +kernel)), List.forall_mem_cons.mpr ⟨va_Nw.of rfl (ht 412 _ (by decide +kernel)), fun _ h => absurd h List.not_mem_nil⟩⟩⟩⟩⟩⟩⟩
set_option maxHeartbeats 4000000 in
set_option maxRecDepth 100000 in
/-- the law's loop -/
theorem law_loop {p : Program} {l : Launch} {e : Env} {s : State} {m : MethodId} {below : List Frame} {meth : Method} {c : Code} {b L : Nat} {xs : Nat → Int32} {G : GG} {oa ra ta ad qa ha a : Nat → Nat} {B S : Nat → Nat → Nat} {cells slots : Nat} (Z : LZ p s m c b L xs G) (hL : L ≤ 2048) (hr : meth.sig.returnType = ret) (hlocks : meth.locks = false) (hc : cells ≤ room_1.cells) (hs : slots ≤ room_1.slots) :
    ∀ (n i : Nat) (H : Heap) (locs : List Loc) (ls : Array Slot), i ≤ L → L + 1 ≤ i + n → LI G oa ra ta ad qa ha a B S (lA s) H → va_S (lA s) s.heap H locs → lv_has ls 4 [(0, .ref b), (1, .ref (oa 0)), (2, .ref (a 0)), (3, .int (nI i))] → W p l e room_1 s m #[Value.ref b] below meth c H locs cells slots (lw_Z below #[Value.ref b] s) (F0 m 18 ls []) := by
  obtain ⟨hx, hb, hml, hown, hts, hX, hbl, hKK⟩ := id Z
  have hbA : ¬ lA s b := Nat.not_le.mpr hbl
  intro n
  induction n with
  | zero =>
    intro i H locs ls h1 h2
    exact absurd h2 (by omega)
  | succ n ih =>
    intro i H locs ls hi hin hI hS hl
    refine lv_iload_n hx hb dL_law_18 rfl (lv_at hl 3 rfl) ?_
    refine lv_aload_n hx hb dL_law_19 rfl (lv_at hl 0 rfl) ?_
    refine va_slen hx hb hX hbl hbA hS dL_law_20 ?_
    refine lv_iconst (v := 4) hx hb dL_law_21 (by decide) ?_
    refine lv_isub hx hb dL_law_22 ?_
    refine lv_icmp_gt (tgt := 776) hx hb dL_law_23 (by decide) (fun c1 => ?_) (fun c1 => ?_)
    · refine lv_iconst (v := 1) hx hb dL_law_776 (by decide) ?_
      refine va_forget (fun q hq => hS.2.2 q hq) ?_
      refine W.widen (k := 600000) (n := 7302250) hc hs ?_
      exact lw_ret hx hb hr hlocks dL_law_777
    · have h4 : i + 4 ≤ L := law_le (by omega) hL c1
      have next : ∀ (H : Heap) (locs : List Loc), LI G oa ra ta ad qa ha a B S (lA s) H → va_S (lA s) s.heap H locs → W p l e room_1 s m #[Value.ref b] below meth c H locs cells slots (lw_Z below #[Value.ref b] s) (F0 m 770 ls []) := by
        intro H locs hI hS
        refine lv_iinc (v := nI (i + 4)) (lv' := [(3, .int (nI (i + 4))), (0, .ref b), (1, .ref (oa 0)), (2, .ref (a 0))]) hx hb dL_law_770 hl (k := 3) rfl (show nI i + Int32.ofInt 4 = nI (i + 4) from nI_add i 4) (by decide) rfl (fun ls hl => ?_)
        refine lv_goto (tgt := 18) hx hb dL_law_773 (by decide) ?_
        exact ih (i + 4) H locs ls h4 (by omega) hI hS (lv_sub hl [1, 2, 3, 0] rfl)
      refine lv_aload_n hx hb dL_law_26 rfl (lv_at hl 0 rfl) ?_
      refine lv_iload_n hx hb dL_law_27 rfl (lv_at hl 3 rfl) ?_
      refine va_sld hx hb hX hbl hbA hS (vp_in_nI (show i < L by omega) (by omega)) dL_law_28 ?_
      refine lv_bipush (v := 31) hx hb dL_law_29 (by decide) ?_
      refine lv_iand hx hb dL_law_31 ?_
      rcases sw_of (xs (nI i).toNatClampNeg &&& 31) 21 with ⟨k9, hk9, ek9⟩ | c9
      · refine lv_asi ek9 ?_
        rcases (show k9 = 0 ∨ k9 = 1 ∨ k9 = 2 ∨ k9 = 3 ∨ k9 = 4 ∨ k9 = 5 ∨ k9 = 6 ∨ k9 = 7 ∨ k9 = 8 ∨ k9 = 9 ∨ k9 = 10 ∨ k9 = 11 ∨ k9 = 12 ∨ k9 = 13 ∨ k9 = 14 ∨ k9 = 15 ∨ k9 = 16 ∨ k9 = 17 ∨ k9 = 18 ∨ k9 = 19 ∨ k9 = 20 ∨ k9 = 21 by omega) with rfl | rfl | rfl | rfl | rfl | rfl | rfl | rfl | rfl | rfl | rfl | rfl | rfl | rfl | rfl | rfl | rfl | rfl | rfl | rfl | rfl | rfl
        · refine lv_tableIn (off := 104) (tgt := 136) hx hb dL_law_32 (by decide) (by decide) (by decide) (by decide) ?_
          exact lawc_0 Z h4 hL hI hS hl hc hs next
        · refine lv_tableIn (off := 163) (tgt := 195) hx hb dL_law_32 (by decide) (by decide) (by decide) (by decide) ?_
          exact lawc_1 Z h4 hL hI hS hl hc hs next
        · refine lv_tableIn (off := 186) (tgt := 218) hx hb dL_law_32 (by decide) (by decide) (by decide) (by decide) ?_
          exact lawc_2 Z h4 hL hI hS hl hc hs next
        · refine lv_tableIn (off := 199) (tgt := 231) hx hb dL_law_32 (by decide) (by decide) (by decide) (by decide) ?_
          exact lawc_3 Z h4 hL hI hS hl hc hs next
        · refine lv_tableIn (off := 248) (tgt := 280) hx hb dL_law_32 (by decide) (by decide) (by decide) (by decide) ?_
          exact lawc_4 Z h4 hL hI hS hl hc hs next
        · refine lv_tableIn (off := 297) (tgt := 329) hx hb dL_law_32 (by decide) (by decide) (by decide) (by decide) ?_
          exact lawc_5 Z h4 hL hI hS hl hc hs next
        · refine lv_tableIn (off := 320) (tgt := 352) hx hb dL_law_32 (by decide) (by decide) (by decide) (by decide) ?_
          exact lawc_6 Z h4 hL hI hS hl hc hs next
        · refine lv_tableIn (off := 333) (tgt := 365) hx hb dL_law_32 (by decide) (by decide) (by decide) (by decide) ?_
          exact lawc_7 Z h4 hL hI hS hl hc hs next
        · refine lv_tableIn (off := 366) (tgt := 398) hx hb dL_law_32 (by decide) (by decide) (by decide) (by decide) ?_
          exact lawc_8 Z h4 hL hI hS hl hc hs next
        · refine lv_tableIn (off := 409) (tgt := 441) hx hb dL_law_32 (by decide) (by decide) (by decide) (by decide) ?_
          exact lawc_9 Z h4 hL hI hS hl hc hs next
        · refine lv_tableIn (off := 432) (tgt := 464) hx hb dL_law_32 (by decide) (by decide) (by decide) (by decide) ?_
          exact lawc_10 Z h4 hL hI hS hl hc hs next
        · refine lv_tableIn (off := 465) (tgt := 497) hx hb dL_law_32 (by decide) (by decide) (by decide) (by decide) ?_
          exact lawc_11 Z h4 hL hI hS hl hc hs next
        · refine lv_tableIn (off := 498) (tgt := 530) hx hb dL_law_32 (by decide) (by decide) (by decide) (by decide) ?_
          exact lawc_12 Z h4 hL hI hS hl hc hs next
        · refine lv_tableIn (off := 521) (tgt := 553) hx hb dL_law_32 (by decide) (by decide) (by decide) (by decide) ?_
          exact lawc_13 Z h4 hL hI hS hl hc hs next
        · refine lv_tableIn (off := 554) (tgt := 586) hx hb dL_law_32 (by decide) (by decide) (by decide) (by decide) ?_
          exact lawc_14 Z h4 hL hI hS hl hc hs next
        · refine lv_tableIn (off := 577) (tgt := 609) hx hb dL_law_32 (by decide) (by decide) (by decide) (by decide) ?_
          exact lawc_15 Z h4 hL hI hS hl hc hs next
        · refine lv_tableIn (off := 600) (tgt := 632) hx hb dL_law_32 (by decide) (by decide) (by decide) (by decide) ?_
          exact lawc_16 Z h4 hL hI hS hl hc hs next
        · refine lv_tableIn (off := 653) (tgt := 685) hx hb dL_law_32 (by decide) (by decide) (by decide) (by decide) ?_
          exact lawc_17 Z h4 hL hI hS hl hc hs next
        · refine lv_tableIn (off := 666) (tgt := 698) hx hb dL_law_32 (by decide) (by decide) (by decide) (by decide) ?_
          exact lawc_18 Z h4 hL hI hS hl hc hs next
        · refine lv_tableIn (off := 679) (tgt := 711) hx hb dL_law_32 (by decide) (by decide) (by decide) (by decide) ?_
          exact lawc_19 Z h4 hL hI hS hl hc hs next
        · refine lv_tableIn (off := 692) (tgt := 724) hx hb dL_law_32 (by decide) (by decide) (by decide) (by decide) ?_
          exact lawc_20 Z h4 hL hI hS hl hc hs next
        · refine lv_tableIn (off := 715) (tgt := 747) hx hb dL_law_32 (by decide) (by decide) (by decide) (by decide) ?_
          exact lawc_21 Z h4 hL hI hS hl hc hs next
      · refine lv_tableOut (tgt := 770) hx hb dL_law_32 c9 (by decide) ?_
        exact next H locs hI hS
theorem WR_0 : WR v0 v0 (fun _ => v0) (fun _ => v0) (fun _ => 0) (fun _ => 0) 0 0 0 0 v0 (fun _ => 0) (fun _ => 0) (fun _ => 0) (fun _ => 0) 0 0 :=
  WR.mk ⟨by decide, by decide, by decide, by decide⟩ Gd_v0 Gd_v0.1 (Sim.rf v0) (fun _ => Gd_v0) (fun _ => Gd_v0) (fun i hi => absurd hi (Nat.not_lt_zero i)) (fun s _ => ⟨rfl, fun h => absurd rfl h⟩)
set_option maxHeartbeats 4000000 in
set_option maxRecDepth 100000 in
/-- THE LAW, from its entry -/
theorem whole_start {p : Program} {e : Env} {s : State} {m : MethodId} {below : List Frame} {meth : Method} {c : Code} (l : Launch) (hflags : l.flags = flags0) {b L : Nat} {xs : Nat → Int32} (hL : L ≤ 2048) (C0 : lw_At p s m meth c b L xs) : W p l e room_1 s m #[Value.ref b] below meth c s.heap [] 0 0 (lw_Z below #[Value.ref b] s) (entryFrame m ([Value.ref b] : List Value).toArray 4) := by
  obtain ⟨hx, hb, hr, hml, hown, hts0, hX, hbl, hlocks, hgv⟩ := id C0
  have hts : ∀ w ∈ wsL_law, w.before #[Value.ref b] s = true := fun w hw => hts0 w (wsL_law_in w hw)
  obtain ⟨G, hKK⟩ := law_known hts0
  have Z : LZ p s m c b L xs G := ⟨hx, hb, hml, hown, hts, hX, hbl, hKK⟩
  have hA : ∀ q : Nat, s.heap.size ≤ q → lA s q := fun _ h => h
  have hS : va_S (lA s) s.heap s.heap [] := va_S.rf
  have hP : gP G [] s.heap := fun k q h => by simp at h
  have hD : va_D (lA s) [] := ⟨fun i j p q h => by simp at h, fun k q h => by simp at h⟩
  have hl := lv_entry ([.ref b]) (n := 4) (Nat.le_of_ble_eq_true rfl)
  rw [lg_entry_eq]
  generalize (lg_sl ([.ref b]) ++ List.replicate (4 - (lg_sl ([.ref b])).length) Slot.unset).toArray = ls at hl ⊢
  have hl : lv_has ls 4 [(0, .ref b)] := hl
  refine va_new (ci := 4) (fs := [.null, .null, .null, .null, .null, .null, .null]) (C := RX4) (T := TX4) (N := 7) hx hb hts inlX4 tyX4 tyX4_ok hown (hts (.classLink RL 7 RX4) (by decide +kernel)) (hts (.instantiable RX4 7) (by decide +kernel)) (hts (.initialized RX4) (by decide +kernel)) hKK.1 hP hD hS hA rfl (fun j hj => by rcases (show j = 0 ∨ j = 1 ∨ j = 2 ∨ j = 3 ∨ j = 4 ∨ j = 5 ∨ j = 6 by omega) with rfl | rfl | rfl | rfl | rfl | rfl | rfl <;> rfl) (Nat.le_of_ble_eq_true (by rfl)) (Nat.le_of_ble_eq_true (by rfl)) dL_law_0 (fun q0 H hP hD hS => ?_)
  refine W.widen (k := 1) (n := 7) (Nat.le_of_ble_eq_true rfl) (Nat.le_of_ble_eq_true rfl) ?_
  refine lv_dup hx hb dL_law_3 rfl ?_
  refine nw_C (wr := []) (rest := [.ref q0]) ⟨hx, hb, hml, hown, hts⟩ (c_X4_init l G q0 H.size) (cwI 0 hts gL_law_X4_init rfl rfl rfl (hts (.initialized RX4) (by decide +kernel)) (hts (.methodLink RL 9 yX4_init) (by decide +kernel)) (hts (.instanceMethod yX4_init) (by decide +kernel)) rfl (by decide +kernel) ⟨Nat.le_of_ble_eq_true rfl, Nat.le_of_ble_eq_true rfl⟩) hP hKK hD hS hA hl.1 rfl (Nat.le_of_ble_eq_true rfl) dL_law_4 ⟨Nat.le_of_ble_eq_true (by rfl), Nat.le_of_ble_eq_true (by rfl)⟩ (fun u1 H locs hok hP2 hD2 hS => ?_)
  refine W.widen (k := 98) (n := 2528) (Nat.le_of_ble_eq_true rfl) (Nat.le_of_ble_eq_true rfl) ?_
  obtain ⟨oa, ra, ta, ad, qa, ha, B, S⟩ := u1
  dsimp only at hok hP2 hD2
  subst hok
  have hP : gP G (clsW G oa ra ta ad qa ha B S v0 v0 (fun _ => v0) (fun _ => v0) (fun _ => 0) (fun _ => 0) 0 0 0 0 0) H := hP2
  have hD : va_D (lA s) (clsW G oa ra ta ad qa ha B S v0 v0 (fun _ => v0) (fun _ => v0) (fun _ => 0) (fun _ => 0) 0 0 0 0 0) := hD2
  refine lv_astore_n (lv' := [(1, .ref (oa 0)), (0, .ref b)]) hx hb dL_law_7 rfl hl (by decide) rfl (fun ls hl => ?_)
  refine va_new (ci := 5) (fs := [.null, .null, .null, .int 0, .null, .null, .null, .int 0, .int 0, .int 0, .null, .int 0]) (C := RX5) (T := TX5) (N := 12) hx hb hts inlX5 tyX5 tyX5_ok hown (hts (.classLink RL 10 RX5) (by decide +kernel)) (hts (.instantiable RX5 12) (by decide +kernel)) (hts (.initialized RX5) (by decide +kernel)) hKK.1 hP hD hS hA rfl (fun j hj => by rcases (show j = 0 ∨ j = 1 ∨ j = 2 ∨ j = 3 ∨ j = 4 ∨ j = 5 ∨ j = 6 ∨ j = 7 ∨ j = 8 ∨ j = 9 ∨ j = 10 ∨ j = 11 by omega) with rfl | rfl | rfl | rfl | rfl | rfl | rfl | rfl | rfl | rfl | rfl | rfl <;> rfl) (Nat.le_of_ble_eq_true (by rfl)) (Nat.le_of_ble_eq_true (by rfl)) dL_law_8 (fun q1 H hP hD hS => ?_)
  refine W.widen (k := 99) (n := 2540) (Nat.le_of_ble_eq_true rfl) (Nat.le_of_ble_eq_true rfl) ?_
  refine lv_dup hx hb dL_law_11 rfl ?_
  refine nw_C (wr := (clsW G oa ra ta ad qa ha B S v0 v0 (fun _ => v0) (fun _ => v0) (fun _ => 0) (fun _ => 0) 0 0 0 0 0)) (rest := [.ref q1]) ⟨hx, hb, hml, hown, hts⟩ (c_X5_init l G q1 H.size) (cwI 0 hts gL_law_X5_init rfl rfl rfl (hts (.initialized RX5) (by decide +kernel)) (hts (.methodLink RL 12 yX5_init) (by decide +kernel)) (hts (.instanceMethod yX5_init) (by decide +kernel)) rfl (by decide +kernel) ⟨Nat.le_of_ble_eq_true rfl, Nat.le_of_ble_eq_true rfl⟩) hP hKK hD hS hA hl.1 rfl (Nat.le_of_ble_eq_true rfl) dL_law_12 ⟨Nat.le_of_ble_eq_true (by rfl), Nat.le_of_ble_eq_true (by rfl)⟩ (fun a H locs hok hP2 hD2 hS => ?_)
  refine W.widen (k := 106) (n := 4984) (Nat.le_of_ble_eq_true rfl) (Nat.le_of_ble_eq_true rfl) ?_
  subst hok
  have hP : gP G ((clsW G oa ra ta ad qa ha B S v0 v0 (fun _ => v0) (fun _ => v0) (fun _ => 0) (fun _ => 0) 0 0 0 0 0) ++ mW G a v0 (fun _ => 0) (fun _ => 0) (fun _ => 0) (fun _ => 0) (fun _ => 0) (fun _ => 0) (nI 0) (nI 0) 0 (nI 0) 0) H := hP2
  have hD : va_D (lA s) ((clsW G oa ra ta ad qa ha B S v0 v0 (fun _ => v0) (fun _ => v0) (fun _ => 0) (fun _ => 0) 0 0 0 0 0) ++ mW G a v0 (fun _ => 0) (fun _ => 0) (fun _ => 0) (fun _ => 0) (fun _ => 0) (fun _ => 0) (nI 0) (nI 0) 0 (nI 0) 0) := hD2
  refine lv_astore_n (lv' := [(2, .ref (a 0)), (1, .ref (oa 0)), (0, .ref b)]) hx hb dL_law_15 rfl hl (by decide) rfl (fun ls hl => ?_)
  refine lv_iconst (v := 0) hx hb dL_law_16 (by decide) ?_
  refine lv_istore_n (lv' := [(3, .int 0), (2, .ref (a 0)), (1, .ref (oa 0)), (0, .ref b)]) hx hb dL_law_17 rfl hl (by decide) rfl (fun ls hl => ?_)
  have hl : lv_has ls 4 [(0, .ref b), (1, .ref (oa 0)), (2, .ref (a 0)), (3, .int (nI 0))] := lv_sub hl [3, 2, 1, 0] rfl
  exact law_loop Z hL hr hlocks (Nat.le_of_ble_eq_true (by rfl)) (Nat.le_of_ble_eq_true (by rfl)) (L + 1) 0 H locs ls (Nat.zero_le L) (by omega) ⟨v0, v0, fun _ => v0, fun _ => v0, fun _ => 0, fun _ => 0, 0, 0, 0, 0, 0, v0, fun _ => 0, fun _ => 0, fun _ => 0, fun _ => 0, fun _ => 0, fun _ => 0, 0, 0, 0, 0, 0, WR_0, hP, hD⟩ hS hl
