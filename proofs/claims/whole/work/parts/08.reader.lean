set_option maxHeartbeats 4000000 in
set_option maxRecDepth 100000 in
/-- X2_contactOf -/
theorem c_X2_contactOf (l : Launch) (G : GG) (x : Int32) : Met l yX2_contactOf wsX2_contactOf ({ frames := 1, cells := 0, slots := 0, locals := 22 }) (pcW G [.int x] ([])) (qRO (.int (ctc x))) 0 0 nofree := by
  refine hd_RO (cc := cX2_contactOf) (maxL := 1) (ret := some .int) (by decide) rfl (Nat.le_of_ble_eq_true rfl) ?_
  intro p e s m below meth c ls hx hb hr hts hown hlocks hml hP hKK hl
  have hl : lv_has ls 1 [(0, .int x)] := hl
  refine lv_iload_n hx hb dX2_contactOf_0 rfl (lv_at hl 0 rfl) ?_
  refine lv_bipush (v := 65) hx hb dX2_contactOf_1 (by decide) ?_
  refine lv_bipush (v := 74) hx hb dX2_contactOf_3 (by decide) ?_
  refine ro_SN (As := [.int x, .int 65, .int 74]) (rest := []) ⟨hx, hb, hml, hown, hts⟩ (c_X4_isWithin l G x 65 74) ⟨va_cnB 3 hts gX2_contactOf_X4_isWithin_n76 rfl rfl rfl (hKK.2.1 _ (List.mem_of_getElem? (i := 2) rfl)) (hts (.initialized RX4) (by decide +kernel)) (by decide +kernel) ⟨Nat.le_of_ble_eq_true rfl, Nat.le_of_ble_eq_true rfl⟩, hts (.static yX4_isWithin) (by decide +kernel), trivial⟩ (show gP G [] _ from fun k q h => by simp at h) hKK rfl hl.1 rfl (Nat.le_of_ble_eq_true rfl) dX2_contactOf_5 (Nat.zero_le _) (Nat.zero_le _) ?_
  refine lv_if_eq (tgt := 16) hx hb dX2_contactOf_8 (by decide) (fun c_8 => ?_) (fun c_8 => ?_)
  · skip
    have c_8 := b2i_0 c_8
    refine lv_iload_n hx hb dX2_contactOf_16 rfl (lv_at hl 0 rfl) ?_
    refine lv_bipush (v := 97) hx hb dX2_contactOf_17 (by decide) ?_
    refine lv_bipush (v := 102) hx hb dX2_contactOf_19 (by decide) ?_
    refine ro_SN (As := [.int x, .int 97, .int 102]) (rest := []) ⟨hx, hb, hml, hown, hts⟩ (c_X4_isWithin l G x 97 102) ⟨va_cnB 3 hts gX2_contactOf_X4_isWithin_n76 rfl rfl rfl (hKK.2.1 _ (List.mem_of_getElem? (i := 2) rfl)) (hts (.initialized RX4) (by decide +kernel)) (by decide +kernel) ⟨Nat.le_of_ble_eq_true rfl, Nat.le_of_ble_eq_true rfl⟩, hts (.static yX4_isWithin) (by decide +kernel), trivial⟩ (show gP G [] _ from fun k q h => by simp at h) hKK rfl hl.1 rfl (Nat.le_of_ble_eq_true rfl) dX2_contactOf_21 (Nat.zero_le _) (Nat.zero_le _) ?_
    refine lv_if_eq (tgt := 35) hx hb dX2_contactOf_24 (by decide) (fun c_24 => ?_) (fun c_24 => ?_)
    · skip
      have c_24 := b2i_0 c_24
      refine lv_iconst (v := (-1)) hx hb dX2_contactOf_35 (by decide) ?_
      exact ex_ROi hx hb hr hlocks rfl dX2_contactOf_36 (by unfold ctc; simp_all)
    · skip
      have c_24 := b2i_1 c_24
      refine lv_iload_n hx hb dX2_contactOf_27 rfl (lv_at hl 0 rfl) ?_
      refine lv_bipush (v := 97) hx hb dX2_contactOf_28 (by decide) ?_
      refine lv_isub hx hb dX2_contactOf_30 ?_
      refine lv_bipush (v := 10) hx hb dX2_contactOf_31 (by decide) ?_
      refine lv_iadd hx hb dX2_contactOf_33 ?_
      exact ex_ROi hx hb hr hlocks rfl dX2_contactOf_34 (by unfold ctc; simp_all)
  · skip
    have c_8 := b2i_1 c_8
    refine lv_iload_n hx hb dX2_contactOf_11 rfl (lv_at hl 0 rfl) ?_
    refine lv_bipush (v := 65) hx hb dX2_contactOf_12 (by decide) ?_
    refine lv_isub hx hb dX2_contactOf_14 ?_
    exact ex_ROi hx hb hr hlocks rfl dX2_contactOf_15 (by unfold ctc; simp_all)
set_option maxRecDepth 20000 in
theorem hin_X2_goesTo_X2 : ∀ w ∈ u_ws RX2 TX2 2, w ∈ wsX2_goesTo := by decide +kernel
theorem lk_X2_goesTo_11 : Cond.fieldLink RX2 11 "WeldedRelays$Reader" "place" "I" ∈ wsX2_goesTo := by decide +kernel
set_option maxHeartbeats 4000000 in
set_option maxRecDepth 100000 in
/-- X2_goesTo -/
theorem c_X2_goesTo (l : Launch) (G : GG) (q : Nat → Nat) (t : Nat → Nat) (pp : Nat) (k : Nat) (v : Nat → Int32) (g : Nat) : Met l yX2_goesTo wsX2_goesTo ({ frames := 0, cells := 0, slots := 0, locals := 0 }) (pcM G [.ref (q 0), .int (nI g)] (List.flatten [[(q 0, .inr (2, [.int (nI pp), .int (nI k)]))], rW G t v])) (qMU G (some (.int (b2i true))) (List.flatten [[(q 0, .inr (2, [.int (nI pp), .int (nI k)]))], rW G t v]) (List.flatten [[(q 0, .inr (2, [.int (nI g), .int (nI k)]))], rW G t v])) 0 0 (aA (List.flatten [[(q 0, .inr (2, [.int (nI pp), .int (nI k)]))], rW G t v])) := by
  refine hd_MU (cc := cX2_goesTo) (maxL := 2) (ret := some .boolean) (by decide) rfl (Nat.le_of_ble_eq_true rfl) ?_
  intro p e s m below meth c ls hx hb hr hts hown hlocks hml hP hKK hD hS hl
  have hl : lv_has ls 2 [(0, .ref (q 0)), (1, .int (nI g))] := hl
  refine lv_aload_n hx hb dX2_goesTo_0 rfl (lv_at hl 0 rfl) ?_
  refine lv_iload_n hx hb dX2_goesTo_1 rfl (lv_at hl 1 rfl) ?_
  refine va_put (D := gD G) (ci := 2) (v := .int (nI g)) (ty := .int) (C := RX2) (T := TX2) (N := 2) hx hb hts hin_X2_goesTo_X2 tyX2 tyX2_ok nmX2 hown hKK.1 hP hD hS 0 rfl rfl 0 (by decide) (hts _ lk_X2_goesTo_11) (fun _ h9 => h9) rfl (by decide +kernel) rfl rfl (Nat.le_of_ble_eq_true rfl) dX2_goesTo_2 (fun H locs hP hD hS => ?_)
  have hP : gP G (List.flatten [[(q 0, .inr (2, [.int (nI g), .int (nI k)]))], rW G t v]) H := hP
  have hD : va_D (aA (List.flatten [[(q 0, .inr (2, [.int (nI pp), .int (nI k)]))], rW G t v])) (List.flatten [[(q 0, .inr (2, [.int (nI g), .int (nI k)]))], rW G t v]) := hD
  refine lv_iconst (v := 1) hx hb dX2_goesTo_5 (by decide) ?_
  exact ex_MUz (b := true) (w2 := (List.flatten [[(q 0, .inr (2, [.int (nI g), .int (nI k)]))], rW G t v])) hx hb hr hlocks hP hS dX2_goesTo_6 (rfl) rfl (fun h => h)
set_option maxRecDepth 20000 in
theorem hin_X2_takesContact_X2 : ∀ w ∈ u_ws RX2 TX2 2, w ∈ wsX2_takesContact := by decide +kernel
theorem lk_X2_takesContact_11 : Cond.fieldLink RX2 11 "WeldedRelays$Reader" "place" "I" ∈ wsX2_takesContact := by decide +kernel
theorem lk_X2_takesContact_54 : Cond.fieldLink RX2 54 "WeldedRelays$Reader" "relay" "I" ∈ wsX2_takesContact := by decide +kernel
set_option maxHeartbeats 4000000 in
set_option maxRecDepth 100000 in
/-- X2_takesContact -/
theorem c_X2_takesContact (l : Launch) (G : GG) (q : Nat → Nat) (t : Nat → Nat) (pp : Nat) (k : Nat) (v : Nat → Int32) (x : Int32) (hp : pp ≤ 6) (hk : k < 10) (hI : RI v) : Met l yX2_takesContact wsX2_takesContact ({ frames := 2, cells := 0, slots := 0, locals := 47 }) (pcM G [.ref (q 0), .ref (t 0), .int x] (List.flatten [[(q 0, .inr (2, [.int (nI pp), .int (nI k)]))], rW G t v])) (qMU G (some (.int (b2i (tkC (pp, k, v) x).1))) (List.flatten [[(q 0, .inr (2, [.int (nI pp), .int (nI k)]))], rW G t v]) (List.flatten [[(q 0, .inr (2, [.int (nI ((tkC (pp, k, v) x).2.1)), .int (nI ((tkC (pp, k, v) x).2.2.1))]))], rW G t ((tkC (pp, k, v) x).2.2.2)])) 0 0 (aA (List.flatten [[(q 0, .inr (2, [.int (nI pp), .int (nI k)]))], rW G t v])) := by
  refine hd_MU (cc := cX2_takesContact) (maxL := 5) (ret := some .boolean) (by decide) rfl (Nat.le_of_ble_eq_true rfl) ?_
  intro p e s m below meth c ls hx hb hr hts hown hlocks hml hP hKK hD hS hl
  have hl : lv_has ls 5 [(0, .ref (q 0)), (1, .ref (t 0)), (2, .int x)] := hl
  refine lv_aload_n hx hb dX2_takesContact_0 rfl (lv_at hl 0 rfl) ?_
  refine va_get (D := gD G) (ci := 2) (v := .int (nI pp)) (C := RX2) (T := TX2) (N := 2) hx hb hts hin_X2_takesContact_X2 hown hKK.1 hP 0 rfl rfl 0 (by decide) (hts _ lk_X2_takesContact_11) (fun _ h9 => h9) rfl dX2_takesContact_1 ?_
  refine lv_iconst (v := 5) hx hb dX2_takesContact_4 (by decide) ?_
  refine lv_icmp_ne (tgt := 12) hx hb dX2_takesContact_5 (by decide) (fun c_5 => ?_) (fun c_5 => ?_)
  · skip
    have c5 : pp ≠ 5 := fun q => c_5 (by rw [q]; rfl)
    refine lv_iconst (v := 0) hx hb dX2_takesContact_12 (by decide) ?_
    refine lv_istore_n (lv' := [(3, .int 0), (0, .ref (q 0)), (1, .ref (t 0)), (2, .int x)]) hx hb dX2_takesContact_13 rfl hl (by decide) rfl (fun ls hl => ?_)
    refine lv_iload_n hx hb dX2_takesContact_14 rfl (lv_at hl 3 rfl) ?_
    refine lv_bipush (v := 33) hx hb dX2_takesContact_15 (by decide) ?_
    refine lv_icmp_ne (tgt := 30) hx hb dX2_takesContact_17 (by decide) (fun c_17 => ?_) (fun c_17 => ?_)
    · skip
      refine lv_iload_n hx hb dX2_takesContact_30 rfl (lv_at hl 3 rfl) ?_
      refine ro_S (As := [.int x]) (rest := []) ⟨hx, hb, hml, hown, hts⟩ (c_X2_contactOf l G x) (va_cwS 1 hts gX2_takesContact_X2_contactOf rfl rfl rfl (by decide +kernel) ⟨Nat.le_of_ble_eq_true rfl, Nat.le_of_ble_eq_true rfl⟩) (show gP G [] _ from fun k q h => by simp at h) hKK rfl hl.1 rfl (Nat.le_of_ble_eq_true rfl) dX2_takesContact_31 (Nat.zero_le _) (Nat.zero_le _) ?_
      refine lv_istore (lv' := [(4, .int (ctc x)), (3, .int 0), (0, .ref (q 0)), (1, .ref (t 0)), (2, .int x)]) hx hb dX2_takesContact_34 hl (by decide) rfl (fun ls hl => ?_)
      refine lv_iload hx hb dX2_takesContact_36 (lv_at hl 0 rfl) ?_
      refine lv_iconst (v := (-1)) hx hb dX2_takesContact_38 (by decide) ?_
      refine lv_icmp_ne (tgt := 44) hx hb dX2_takesContact_39 (by decide) (fun c_39 => ?_) (fun c_39 => ?_)
      · skip
        refine lv_aload_n hx hb dX2_takesContact_44 rfl (lv_at hl 3 rfl) ?_
        refine lv_aload_n hx hb dX2_takesContact_45 rfl (lv_at hl 2 rfl) ?_
        refine va_get (D := gD G) (ci := 2) (v := .int (nI k)) (C := RX2) (T := TX2) (N := 2) hx hb hts hin_X2_takesContact_X2 hown hKK.1 hP 0 rfl rfl 1 (by decide) (hts _ lk_X2_takesContact_54) (fun _ h9 => h9) rfl dX2_takesContact_46 ?_
        refine lv_iload hx hb dX2_takesContact_49 (lv_at hl 0 rfl) ?_
        refine lv_iload_n hx hb dX2_takesContact_51 rfl (lv_at hl 1 rfl) ?_
        refine mu_VF (ws := (List.flatten [[(q 0, .inr (2, [.int (nI pp), .int (nI k)]))], rW G t v])) (ws' := (List.flatten [[(q 0, .inr (2, [.int (nI pp), .int (nI k)]))], rW G t (addC k (ctc x) false v)])) (wr := (List.flatten [[(q 0, .inr (2, [.int (nI pp), .int (nI k)]))]])) (As := [.int (nI k), .int (ctc x), .int (b2i false)]) (rest := []) ⟨hx, hb, hml, hown, hts⟩ (c_X3_addContact l G t v k (by omega) (ctc x) false (by assumption)) (cwV 3 hts gX2_takesContact_X3_addContact rfl rfl rfl (by decide +kernel) ⟨Nat.le_of_ble_eq_true rfl, Nat.le_of_ble_eq_true rfl⟩) (segs_oneN [[(q 0, .inr (2, [.int (nI pp), .int (nI k)]))], rW G t v] 1 [0] 2 (by decide) rfl rfl rfl) (segs_oneN [[(q 0, .inr (2, [.int (nI pp), .int (nI k)]))], rW G t (addC k (ctc x) false v)] 1 [0] 2 (by decide) rfl rfl rfl) hP hKK hD hS (va_recv hKK.1 hP (ci := 3) (q0 := 1) rfl rfl) rfl hl.1 rfl (Nat.le_of_ble_eq_true rfl) dX2_takesContact_52 (Nat.zero_le _) (Nat.zero_le _) rfl (fun H locs hP hD hS => ?_)
        refine lv_aload_n hx hb dX2_takesContact_55 rfl (lv_at hl 2 rfl) ?_
        refine lv_bipush (v := 6) hx hb dX2_takesContact_56 (by decide) ?_
        refine mu_V (As := [.int (nI 6)]) (rest := []) ⟨hx, hb, hml, hown, hts⟩ (c_X2_goesTo l G q t pp k (addC k (ctc x) false v) 6) (cwV 1 hts gX2_takesContact_X2_goesTo rfl rfl rfl (by decide +kernel) ⟨Nat.le_of_ble_eq_true rfl, Nat.le_of_ble_eq_true rfl⟩) hP hKK hD hS (va_recv hKK.1 hP (ci := 2) (q0 := 0) rfl rfl) rfl hl.1 rfl (Nat.le_of_ble_eq_true rfl) dX2_takesContact_58 (Nat.zero_le _) (Nat.zero_le _) (rfl) (fun H locs hP hD hS => ?_)
        have e_s : tkC (pp, k, v) x = (true, 6, k, addC k (ctc x) false v) := by unfold tkC; simp_all
        exact ex_MUz (b := (tkC (pp, k, v) x).1) (w2 := (List.flatten [[(q 0, .inr (2, [.int (nI 6), .int (nI k)]))], rW G t (addC k (ctc x) false v)])) hx hb hr hlocks hP hS dX2_takesContact_61 ((congrArg (fun z : Bool × S4 => b2i z.1) e_s).symm) rfl (fun h => by rw [e_s]; exact h)
      · skip
        refine lv_iconst (v := 0) hx hb dX2_takesContact_42 (by decide) ?_
        have e_s : tkC (pp, k, v) x = (false, pp, k, v) := by unfold tkC; simp_all
        exact ex_MUz (b := (tkC (pp, k, v) x).1) (w2 := (List.flatten [[(q 0, .inr (2, [.int (nI pp), .int (nI k)]))], rW G t v])) hx hb hr hlocks hP hS dX2_takesContact_43 ((congrArg (fun z : Bool × S4 => b2i z.1) e_s).symm) rfl (fun h => by rw [e_s]; exact h)
    · skip
      refine lv_iload_n hx hb dX2_takesContact_20 rfl (lv_at hl 0 rfl) ?_
      refine lv_if_ne (tgt := 30) hx hb dX2_takesContact_21 (by decide) (fun c_21 => ?_) (fun c_21 => ?_)
      · skip
        exact absurd c_21 (by decide)
      · skip
        refine lv_aload_n hx hb dX2_takesContact_24 rfl (lv_at hl 1 rfl) ?_
        refine lv_iconst (v := 5) hx hb dX2_takesContact_25 (by decide) ?_
        refine mu_V (As := [.int (nI 5)]) (rest := []) ⟨hx, hb, hml, hown, hts⟩ (c_X2_goesTo l G q t pp k v 5) (cwV 1 hts gX2_takesContact_X2_goesTo rfl rfl rfl (by decide +kernel) ⟨Nat.le_of_ble_eq_true rfl, Nat.le_of_ble_eq_true rfl⟩) hP hKK hD hS (va_recv hKK.1 hP (ci := 2) (q0 := 0) rfl rfl) rfl hl.1 rfl (Nat.le_of_ble_eq_true rfl) dX2_takesContact_26 (Nat.zero_le _) (Nat.zero_le _) (rfl) (fun H locs hP hD hS => ?_)
        have e_s : tkC (pp, k, v) x = (true, 5, k, v) := by unfold tkC; simp_all
        exact ex_MUz (b := (tkC (pp, k, v) x).1) (w2 := (List.flatten [[(q 0, .inr (2, [.int (nI 5), .int (nI k)]))], rW G t v])) hx hb hr hlocks hP hS dX2_takesContact_29 ((congrArg (fun z : Bool × S4 => b2i z.1) e_s).symm) rfl (fun h => by rw [e_s]; exact h)
  · skip
    have c5 : pp = 5 := (nI_eq (by omega) (by decide)).mp c_5
    refine lv_iconst (v := 1) hx hb dX2_takesContact_8 (by decide) ?_
    refine lv_goto (tgt := 13) hx hb dX2_takesContact_9 (by decide) ?_
    refine lv_istore_n (lv' := [(3, .int 1), (0, .ref (q 0)), (1, .ref (t 0)), (2, .int x)]) hx hb dX2_takesContact_13 rfl hl (by decide) rfl (fun ls hl => ?_)
    refine lv_iload_n hx hb dX2_takesContact_14 rfl (lv_at hl 3 rfl) ?_
    refine lv_bipush (v := 33) hx hb dX2_takesContact_15 (by decide) ?_
    refine lv_icmp_ne (tgt := 30) hx hb dX2_takesContact_17 (by decide) (fun c_17 => ?_) (fun c_17 => ?_)
    · skip
      refine lv_iload_n hx hb dX2_takesContact_30 rfl (lv_at hl 3 rfl) ?_
      refine ro_S (As := [.int x]) (rest := []) ⟨hx, hb, hml, hown, hts⟩ (c_X2_contactOf l G x) (va_cwS 1 hts gX2_takesContact_X2_contactOf rfl rfl rfl (by decide +kernel) ⟨Nat.le_of_ble_eq_true rfl, Nat.le_of_ble_eq_true rfl⟩) (show gP G [] _ from fun k q h => by simp at h) hKK rfl hl.1 rfl (Nat.le_of_ble_eq_true rfl) dX2_takesContact_31 (Nat.zero_le _) (Nat.zero_le _) ?_
      refine lv_istore (lv' := [(4, .int (ctc x)), (3, .int 1), (0, .ref (q 0)), (1, .ref (t 0)), (2, .int x)]) hx hb dX2_takesContact_34 hl (by decide) rfl (fun ls hl => ?_)
      refine lv_iload hx hb dX2_takesContact_36 (lv_at hl 0 rfl) ?_
      refine lv_iconst (v := (-1)) hx hb dX2_takesContact_38 (by decide) ?_
      refine lv_icmp_ne (tgt := 44) hx hb dX2_takesContact_39 (by decide) (fun c_39 => ?_) (fun c_39 => ?_)
      · skip
        refine lv_aload_n hx hb dX2_takesContact_44 rfl (lv_at hl 3 rfl) ?_
        refine lv_aload_n hx hb dX2_takesContact_45 rfl (lv_at hl 2 rfl) ?_
        refine va_get (D := gD G) (ci := 2) (v := .int (nI k)) (C := RX2) (T := TX2) (N := 2) hx hb hts hin_X2_takesContact_X2 hown hKK.1 hP 0 rfl rfl 1 (by decide) (hts _ lk_X2_takesContact_54) (fun _ h9 => h9) rfl dX2_takesContact_46 ?_
        refine lv_iload hx hb dX2_takesContact_49 (lv_at hl 0 rfl) ?_
        refine lv_iload_n hx hb dX2_takesContact_51 rfl (lv_at hl 1 rfl) ?_
        refine mu_VF (ws := (List.flatten [[(q 0, .inr (2, [.int (nI pp), .int (nI k)]))], rW G t v])) (ws' := (List.flatten [[(q 0, .inr (2, [.int (nI pp), .int (nI k)]))], rW G t (addC k (ctc x) true v)])) (wr := (List.flatten [[(q 0, .inr (2, [.int (nI pp), .int (nI k)]))]])) (As := [.int (nI k), .int (ctc x), .int (b2i true)]) (rest := []) ⟨hx, hb, hml, hown, hts⟩ (c_X3_addContact l G t v k (by omega) (ctc x) true (by assumption)) (cwV 3 hts gX2_takesContact_X3_addContact rfl rfl rfl (by decide +kernel) ⟨Nat.le_of_ble_eq_true rfl, Nat.le_of_ble_eq_true rfl⟩) (segs_oneN [[(q 0, .inr (2, [.int (nI pp), .int (nI k)]))], rW G t v] 1 [0] 2 (by decide) rfl rfl rfl) (segs_oneN [[(q 0, .inr (2, [.int (nI pp), .int (nI k)]))], rW G t (addC k (ctc x) true v)] 1 [0] 2 (by decide) rfl rfl rfl) hP hKK hD hS (va_recv hKK.1 hP (ci := 3) (q0 := 1) rfl rfl) rfl hl.1 rfl (Nat.le_of_ble_eq_true rfl) dX2_takesContact_52 (Nat.zero_le _) (Nat.zero_le _) rfl (fun H locs hP hD hS => ?_)
        refine lv_aload_n hx hb dX2_takesContact_55 rfl (lv_at hl 2 rfl) ?_
        refine lv_bipush (v := 6) hx hb dX2_takesContact_56 (by decide) ?_
        refine mu_V (As := [.int (nI 6)]) (rest := []) ⟨hx, hb, hml, hown, hts⟩ (c_X2_goesTo l G q t pp k (addC k (ctc x) true v) 6) (cwV 1 hts gX2_takesContact_X2_goesTo rfl rfl rfl (by decide +kernel) ⟨Nat.le_of_ble_eq_true rfl, Nat.le_of_ble_eq_true rfl⟩) hP hKK hD hS (va_recv hKK.1 hP (ci := 2) (q0 := 0) rfl rfl) rfl hl.1 rfl (Nat.le_of_ble_eq_true rfl) dX2_takesContact_58 (Nat.zero_le _) (Nat.zero_le _) (rfl) (fun H locs hP hD hS => ?_)
        have e_s : tkC (pp, k, v) x = (true, 6, k, addC k (ctc x) true v) := by unfold tkC; simp_all
        exact ex_MUz (b := (tkC (pp, k, v) x).1) (w2 := (List.flatten [[(q 0, .inr (2, [.int (nI 6), .int (nI k)]))], rW G t (addC k (ctc x) true v)])) hx hb hr hlocks hP hS dX2_takesContact_61 ((congrArg (fun z : Bool × S4 => b2i z.1) e_s).symm) rfl (fun h => by rw [e_s]; exact h)
      · skip
        refine lv_iconst (v := 0) hx hb dX2_takesContact_42 (by decide) ?_
        have e_s : tkC (pp, k, v) x = (false, pp, k, v) := by unfold tkC; simp_all
        exact ex_MUz (b := (tkC (pp, k, v) x).1) (w2 := (List.flatten [[(q 0, .inr (2, [.int (nI pp), .int (nI k)]))], rW G t v])) hx hb hr hlocks hP hS dX2_takesContact_43 ((congrArg (fun z : Bool × S4 => b2i z.1) e_s).symm) rfl (fun h => by rw [e_s]; exact h)
    · skip
      refine lv_iload_n hx hb dX2_takesContact_20 rfl (lv_at hl 0 rfl) ?_
      refine lv_if_ne (tgt := 30) hx hb dX2_takesContact_21 (by decide) (fun c_21 => ?_) (fun c_21 => ?_)
      · skip
        refine lv_iload_n hx hb dX2_takesContact_30 rfl (lv_at hl 3 rfl) ?_
        refine ro_S (As := [.int x]) (rest := []) ⟨hx, hb, hml, hown, hts⟩ (c_X2_contactOf l G x) (va_cwS 1 hts gX2_takesContact_X2_contactOf rfl rfl rfl (by decide +kernel) ⟨Nat.le_of_ble_eq_true rfl, Nat.le_of_ble_eq_true rfl⟩) (show gP G [] _ from fun k q h => by simp at h) hKK rfl hl.1 rfl (Nat.le_of_ble_eq_true rfl) dX2_takesContact_31 (Nat.zero_le _) (Nat.zero_le _) ?_
        refine lv_istore (lv' := [(4, .int (ctc x)), (3, .int 1), (0, .ref (q 0)), (1, .ref (t 0)), (2, .int x)]) hx hb dX2_takesContact_34 hl (by decide) rfl (fun ls hl => ?_)
        refine lv_iload hx hb dX2_takesContact_36 (lv_at hl 0 rfl) ?_
        refine lv_iconst (v := (-1)) hx hb dX2_takesContact_38 (by decide) ?_
        refine lv_icmp_ne (tgt := 44) hx hb dX2_takesContact_39 (by decide) (fun c_39 => ?_) (fun c_39 => ?_)
        · skip
          refine lv_aload_n hx hb dX2_takesContact_44 rfl (lv_at hl 3 rfl) ?_
          refine lv_aload_n hx hb dX2_takesContact_45 rfl (lv_at hl 2 rfl) ?_
          refine va_get (D := gD G) (ci := 2) (v := .int (nI k)) (C := RX2) (T := TX2) (N := 2) hx hb hts hin_X2_takesContact_X2 hown hKK.1 hP 0 rfl rfl 1 (by decide) (hts _ lk_X2_takesContact_54) (fun _ h9 => h9) rfl dX2_takesContact_46 ?_
          refine lv_iload hx hb dX2_takesContact_49 (lv_at hl 0 rfl) ?_
          refine lv_iload_n hx hb dX2_takesContact_51 rfl (lv_at hl 1 rfl) ?_
          refine mu_VF (ws := (List.flatten [[(q 0, .inr (2, [.int (nI pp), .int (nI k)]))], rW G t v])) (ws' := (List.flatten [[(q 0, .inr (2, [.int (nI pp), .int (nI k)]))], rW G t (addC k (ctc x) true v)])) (wr := (List.flatten [[(q 0, .inr (2, [.int (nI pp), .int (nI k)]))]])) (As := [.int (nI k), .int (ctc x), .int (b2i true)]) (rest := []) ⟨hx, hb, hml, hown, hts⟩ (c_X3_addContact l G t v k (by omega) (ctc x) true (by assumption)) (cwV 3 hts gX2_takesContact_X3_addContact rfl rfl rfl (by decide +kernel) ⟨Nat.le_of_ble_eq_true rfl, Nat.le_of_ble_eq_true rfl⟩) (segs_oneN [[(q 0, .inr (2, [.int (nI pp), .int (nI k)]))], rW G t v] 1 [0] 2 (by decide) rfl rfl rfl) (segs_oneN [[(q 0, .inr (2, [.int (nI pp), .int (nI k)]))], rW G t (addC k (ctc x) true v)] 1 [0] 2 (by decide) rfl rfl rfl) hP hKK hD hS (va_recv hKK.1 hP (ci := 3) (q0 := 1) rfl rfl) rfl hl.1 rfl (Nat.le_of_ble_eq_true rfl) dX2_takesContact_52 (Nat.zero_le _) (Nat.zero_le _) rfl (fun H locs hP hD hS => ?_)
          refine lv_aload_n hx hb dX2_takesContact_55 rfl (lv_at hl 2 rfl) ?_
          refine lv_bipush (v := 6) hx hb dX2_takesContact_56 (by decide) ?_
          refine mu_V (As := [.int (nI 6)]) (rest := []) ⟨hx, hb, hml, hown, hts⟩ (c_X2_goesTo l G q t pp k (addC k (ctc x) true v) 6) (cwV 1 hts gX2_takesContact_X2_goesTo rfl rfl rfl (by decide +kernel) ⟨Nat.le_of_ble_eq_true rfl, Nat.le_of_ble_eq_true rfl⟩) hP hKK hD hS (va_recv hKK.1 hP (ci := 2) (q0 := 0) rfl rfl) rfl hl.1 rfl (Nat.le_of_ble_eq_true rfl) dX2_takesContact_58 (Nat.zero_le _) (Nat.zero_le _) (rfl) (fun H locs hP hD hS => ?_)
          have e_s : tkC (pp, k, v) x = (true, 6, k, addC k (ctc x) true v) := by unfold tkC; simp_all
          exact ex_MUz (b := (tkC (pp, k, v) x).1) (w2 := (List.flatten [[(q 0, .inr (2, [.int (nI 6), .int (nI k)]))], rW G t (addC k (ctc x) true v)])) hx hb hr hlocks hP hS dX2_takesContact_61 ((congrArg (fun z : Bool × S4 => b2i z.1) e_s).symm) rfl (fun h => by rw [e_s]; exact h)
        · skip
          refine lv_iconst (v := 0) hx hb dX2_takesContact_42 (by decide) ?_
          have e_s : tkC (pp, k, v) x = (false, pp, k, v) := by unfold tkC; simp_all
          exact ex_MUz (b := (tkC (pp, k, v) x).1) (w2 := (List.flatten [[(q 0, .inr (2, [.int (nI pp), .int (nI k)]))], rW G t v])) hx hb hr hlocks hP hS dX2_takesContact_43 ((congrArg (fun z : Bool × S4 => b2i z.1) e_s).symm) rfl (fun h => by rw [e_s]; exact h)
      · skip
        exact absurd c_21 (by decide)
set_option maxRecDepth 20000 in
theorem hin_X2_takesFirstContact_X2 : ∀ w ∈ u_ws RX2 TX2 2, w ∈ wsX2_takesFirstContact := by decide +kernel
theorem lk_X2_takesFirstContact_54 : Cond.fieldLink RX2 54 "WeldedRelays$Reader" "relay" "I" ∈ wsX2_takesFirstContact := by decide +kernel
set_option maxHeartbeats 4000000 in
set_option maxRecDepth 100000 in
/-- X2_takesFirstContact -/
theorem c_X2_takesFirstContact (l : Launch) (G : GG) (q : Nat → Nat) (t : Nat → Nat) (pp : Nat) (k : Nat) (v : Nat → Int32) (x : Int32) (hp : pp ≤ 6) (hk : k < 10) (hI : RI v) : Met l yX2_takesFirstContact wsX2_takesFirstContact ({ frames := 3, cells := 0, slots := 0, locals := 71 }) (pcM G [.ref (q 0), .ref (t 0), .int x] (List.flatten [[(q 0, .inr (2, [.int (nI pp), .int (nI k)]))], rW G t v])) (qMU G (some (.int (b2i (tkF (pp, k, v) x).1))) (List.flatten [[(q 0, .inr (2, [.int (nI pp), .int (nI k)]))], rW G t v]) (List.flatten [[(q 0, .inr (2, [.int (nI ((tkF (pp, k, v) x).2.1)), .int (nI ((tkF (pp, k, v) x).2.2.1))]))], rW G t ((tkF (pp, k, v) x).2.2.2)])) 0 0 (aA (List.flatten [[(q 0, .inr (2, [.int (nI pp), .int (nI k)]))], rW G t v])) := by
  refine hd_MU (cc := cX2_takesFirstContact) (maxL := 3) (ret := some .boolean) (by decide) rfl (Nat.le_of_ble_eq_true rfl) ?_
  intro p e s m below meth c ls hx hb hr hts hown hlocks hml hP hKK hD hS hl
  have hl : lv_has ls 3 [(0, .ref (q 0)), (1, .ref (t 0)), (2, .int x)] := hl
  refine lv_aload_n hx hb dX2_takesFirstContact_0 rfl (lv_at hl 1 rfl) ?_
  refine lv_aload_n hx hb dX2_takesFirstContact_1 rfl (lv_at hl 0 rfl) ?_
  refine va_get (D := gD G) (ci := 2) (v := .int (nI k)) (C := RX2) (T := TX2) (N := 2) hx hb hts hin_X2_takesFirstContact_X2 hown hKK.1 hP 0 rfl rfl 1 (by decide) (hts _ lk_X2_takesFirstContact_54) (fun _ h9 => h9) rfl dX2_takesFirstContact_2 ?_
  refine mu_VF (ws := (List.flatten [[(q 0, .inr (2, [.int (nI pp), .int (nI k)]))], rW G t v])) (ws' := (List.flatten [[(q 0, .inr (2, [.int (nI pp), .int (nI k)]))], rW G t (addB k v)])) (wr := (List.flatten [[(q 0, .inr (2, [.int (nI pp), .int (nI k)]))]])) (As := [.int (nI k)]) (rest := []) ⟨hx, hb, hml, hown, hts⟩ (c_X3_addBranch l G t v k (by omega) (by assumption)) (cwV 1 hts gX2_takesFirstContact_X3_addBranch rfl rfl rfl (by decide +kernel) ⟨Nat.le_of_ble_eq_true rfl, Nat.le_of_ble_eq_true rfl⟩) (segs_oneN [[(q 0, .inr (2, [.int (nI pp), .int (nI k)]))], rW G t v] 1 [0] 2 (by decide) rfl rfl rfl) (segs_oneN [[(q 0, .inr (2, [.int (nI pp), .int (nI k)]))], rW G t (addB k v)] 1 [0] 2 (by decide) rfl rfl rfl) hP hKK hD hS (va_recv hKK.1 hP (ci := 3) (q0 := 1) rfl rfl) rfl hl.1 rfl (Nat.le_of_ble_eq_true rfl) dX2_takesFirstContact_5 (Nat.zero_le _) (Nat.zero_le _) rfl (fun H locs hP hD hS => ?_)
  refine lv_aload_n hx hb dX2_takesFirstContact_8 rfl (lv_at hl 0 rfl) ?_
  refine lv_aload_n hx hb dX2_takesFirstContact_9 rfl (lv_at hl 1 rfl) ?_
  refine lv_iload_n hx hb dX2_takesFirstContact_10 rfl (lv_at hl 2 rfl) ?_
  refine mu_V (As := [.ref (t 0), .int x]) (rest := []) ⟨hx, hb, hml, hown, hts⟩ (c_X2_takesContact l G q t pp k (addB k v) x (by omega) (by assumption) (addB_RI hI hk)) (cwV 2 hts gX2_takesFirstContact_X2_takesContact rfl rfl rfl (by decide +kernel) ⟨Nat.le_of_ble_eq_true rfl, Nat.le_of_ble_eq_true rfl⟩) hP hKK hD hS (va_recv hKK.1 hP (ci := 2) (q0 := 0) rfl rfl) rfl hl.1 rfl (Nat.le_of_ble_eq_true rfl) dX2_takesFirstContact_11 (Nat.zero_le _) (Nat.zero_le _) (rfl) (fun H locs hP hD hS => ?_)
  have e_s : tkF (pp, k, v) x = ((tkC (pp, k, (addB k v)) x).1, (tkC (pp, k, (addB k v)) x).2.1, (tkC (pp, k, (addB k v)) x).2.2.1, (tkC (pp, k, (addB k v)) x).2.2.2) := rfl
  exact ex_MUz (b := (tkF (pp, k, v) x).1) (w2 := (List.flatten [[(q 0, .inr (2, [.int (nI ((tkC (pp, k, (addB k v)) x).2.1)), .int (nI ((tkC (pp, k, (addB k v)) x).2.2.1))]))], rW G t ((tkC (pp, k, (addB k v)) x).2.2.2)])) hx hb hr hlocks hP hS dX2_takesFirstContact_14 ((congrArg (fun z : Bool × S4 => b2i z.1) e_s).symm) rfl (fun h => by rw [e_s]; exact h)
set_option maxRecDepth 20000 in
theorem hin_X2_takesNextOfBranch_X2 : ∀ w ∈ u_ws RX2 TX2 2, w ∈ wsX2_takesNextOfBranch := by decide +kernel
theorem lk_X2_takesNextOfBranch_54 : Cond.fieldLink RX2 54 "WeldedRelays$Reader" "relay" "I" ∈ wsX2_takesNextOfBranch := by decide +kernel
set_option maxHeartbeats 4000000 in
set_option maxRecDepth 100000 in
/-- X2_takesNextOfBranch -/
theorem c_X2_takesNextOfBranch (l : Launch) (G : GG) (q : Nat → Nat) (t : Nat → Nat) (pp : Nat) (k : Nat) (v : Nat → Int32) (x : Int32) (hp : pp ≤ 6) (hk : k < 10) (hI : RI v) : Met l yX2_takesNextOfBranch wsX2_takesNextOfBranch ({ frames := 3, cells := 0, slots := 0, locals := 71 }) (pcM G [.ref (q 0), .ref (t 0), .int x] (List.flatten [[(q 0, .inr (2, [.int (nI pp), .int (nI k)]))], rW G t v])) (qMU G (some (.int (b2i (tkN (pp, k, v) x).1))) (List.flatten [[(q 0, .inr (2, [.int (nI pp), .int (nI k)]))], rW G t v]) (List.flatten [[(q 0, .inr (2, [.int (nI ((tkN (pp, k, v) x).2.1)), .int (nI ((tkN (pp, k, v) x).2.2.1))]))], rW G t ((tkN (pp, k, v) x).2.2.2)])) 0 0 (aA (List.flatten [[(q 0, .inr (2, [.int (nI pp), .int (nI k)]))], rW G t v])) := by
  refine hd_MU (cc := cX2_takesNextOfBranch) (maxL := 3) (ret := some .boolean) (by decide) rfl (Nat.le_of_ble_eq_true rfl) ?_
  intro p e s m below meth c ls hx hb hr hts hown hlocks hml hP hKK hD hS hl
  have hl : lv_has ls 3 [(0, .ref (q 0)), (1, .ref (t 0)), (2, .int x)] := hl
  refine lv_iload_n hx hb dX2_takesNextOfBranch_0 rfl (lv_at hl 2 rfl) ?_
  refine lv_bipush (v := 59) hx hb dX2_takesNextOfBranch_1 (by decide) ?_
  refine lv_icmp_ne (tgt := 12) hx hb dX2_takesNextOfBranch_3 (by decide) (fun c_3 => ?_) (fun c_3 => ?_)
  · skip
    refine lv_iload_n hx hb dX2_takesNextOfBranch_12 rfl (lv_at hl 2 rfl) ?_
    refine lv_bipush (v := 43) hx hb dX2_takesNextOfBranch_13 (by decide) ?_
    refine lv_icmp_ne (tgt := 43) hx hb dX2_takesNextOfBranch_15 (by decide) (fun c_15 => ?_) (fun c_15 => ?_)
    · skip
      refine lv_aload_n hx hb dX2_takesNextOfBranch_43 rfl (lv_at hl 1 rfl) ?_
      refine lv_aload_n hx hb dX2_takesNextOfBranch_44 rfl (lv_at hl 0 rfl) ?_
      refine va_get (D := gD G) (ci := 2) (v := .int (nI k)) (C := RX2) (T := TX2) (N := 2) hx hb hts hin_X2_takesNextOfBranch_X2 hown hKK.1 hP 0 rfl rfl 1 (by decide) (hts _ lk_X2_takesNextOfBranch_54) (fun _ h9 => h9) rfl dX2_takesNextOfBranch_45 ?_
      refine ro_V (As := [.int (nI k)]) (rest := []) ⟨hx, hb, hml, hown, hts⟩ (c_X3_hasRoomForContact l G t v k (by omega) (by assumption)) (cwV 1 hts gX2_takesNextOfBranch_X3_hasRoomForContact rfl rfl rfl (by decide +kernel) ⟨Nat.le_of_ble_eq_true rfl, Nat.le_of_ble_eq_true rfl⟩) (seg_P 1 hP rfl) hKK (va_recv hKK.1 (seg_P 1 hP rfl) (ci := 3) (q0 := 0) rfl rfl) rfl hl.1 rfl (Nat.le_of_ble_eq_true rfl) dX2_takesNextOfBranch_48 (Nat.zero_le _) (Nat.zero_le _) ?_
      refine lv_if_eq (tgt := 67) hx hb dX2_takesNextOfBranch_51 (by decide) (fun c_51 => ?_) (fun c_51 => ?_)
      · skip
        have c_51 := b2i_0 c_51
        refine lv_iconst (v := 0) hx hb dX2_takesNextOfBranch_67 (by decide) ?_
        have e_s : tkN (pp, k, v) x = (false, pp, k, v) := (if_neg c_3).trans ((if_neg c_15).trans (if_neg (Bool.eq_false_iff.mp c_51)))
        exact ex_MUz (b := (tkN (pp, k, v) x).1) (w2 := (List.flatten [[(q 0, .inr (2, [.int (nI pp), .int (nI k)]))], rW G t v])) hx hb hr hlocks hP hS dX2_takesNextOfBranch_68 ((congrArg (fun z : Bool × S4 => b2i z.1) e_s).symm) rfl (fun h => by rw [e_s]; exact h)
      · skip
        have c_51 := b2i_1 c_51
        refine lv_aload_n hx hb dX2_takesNextOfBranch_54 rfl (lv_at hl 0 rfl) ?_
        refine lv_aload_n hx hb dX2_takesNextOfBranch_55 rfl (lv_at hl 1 rfl) ?_
        refine lv_iload_n hx hb dX2_takesNextOfBranch_56 rfl (lv_at hl 2 rfl) ?_
        refine mu_V (As := [.ref (t 0), .int x]) (rest := []) ⟨hx, hb, hml, hown, hts⟩ (c_X2_takesContact l G q t pp k v x (by omega) (by assumption) (by assumption)) (cwV 2 hts gX2_takesNextOfBranch_X2_takesContact rfl rfl rfl (by decide +kernel) ⟨Nat.le_of_ble_eq_true rfl, Nat.le_of_ble_eq_true rfl⟩) hP hKK hD hS (va_recv hKK.1 hP (ci := 2) (q0 := 0) rfl rfl) rfl hl.1 rfl (Nat.le_of_ble_eq_true rfl) dX2_takesNextOfBranch_57 (Nat.zero_le _) (Nat.zero_le _) (rfl) (fun H locs hP hD hS => ?_)
        refine lv_if_eq (tgt := 67) hx hb dX2_takesNextOfBranch_60 (by decide) (fun c_60 => ?_) (fun c_60 => ?_)
        · skip
          have c_60 := b2i_0 c_60
          refine lv_iconst (v := 0) hx hb dX2_takesNextOfBranch_67 (by decide) ?_
          have e_s : tkN (pp, k, v) x = (false, (tkC (pp, k, v) x).2.1, (tkC (pp, k, v) x).2.2.1, (tkC (pp, k, v) x).2.2.2) := (if_neg c_3).trans ((if_neg c_15).trans ((if_pos c_51).trans (Prod.ext c_60 rfl)))
          exact ex_MUz (b := (tkN (pp, k, v) x).1) (w2 := (List.flatten [[(q 0, .inr (2, [.int (nI ((tkC (pp, k, v) x).2.1)), .int (nI ((tkC (pp, k, v) x).2.2.1))]))], rW G t ((tkC (pp, k, v) x).2.2.2)])) hx hb hr hlocks hP hS dX2_takesNextOfBranch_68 ((congrArg (fun z : Bool × S4 => b2i z.1) e_s).symm) rfl (fun h => by rw [e_s]; exact h)
        · skip
          have c_60 := b2i_1 c_60
          refine lv_iconst (v := 1) hx hb dX2_takesNextOfBranch_63 (by decide) ?_
          refine lv_goto (tgt := 68) hx hb dX2_takesNextOfBranch_64 (by decide) ?_
          have e_s : tkN (pp, k, v) x = (true, (tkC (pp, k, v) x).2.1, (tkC (pp, k, v) x).2.2.1, (tkC (pp, k, v) x).2.2.2) := (if_neg c_3).trans ((if_neg c_15).trans ((if_pos c_51).trans (Prod.ext c_60 rfl)))
          exact ex_MUz (b := (tkN (pp, k, v) x).1) (w2 := (List.flatten [[(q 0, .inr (2, [.int (nI ((tkC (pp, k, v) x).2.1)), .int (nI ((tkC (pp, k, v) x).2.2.1))]))], rW G t ((tkC (pp, k, v) x).2.2.2)])) hx hb hr hlocks hP hS dX2_takesNextOfBranch_68 ((congrArg (fun z : Bool × S4 => b2i z.1) e_s).symm) rfl (fun h => by rw [e_s]; exact h)
    · skip
      refine lv_aload_n hx hb dX2_takesNextOfBranch_18 rfl (lv_at hl 1 rfl) ?_
      refine lv_aload_n hx hb dX2_takesNextOfBranch_19 rfl (lv_at hl 0 rfl) ?_
      refine va_get (D := gD G) (ci := 2) (v := .int (nI k)) (C := RX2) (T := TX2) (N := 2) hx hb hts hin_X2_takesNextOfBranch_X2 hown hKK.1 hP 0 rfl rfl 1 (by decide) (hts _ lk_X2_takesNextOfBranch_54) (fun _ h9 => h9) rfl dX2_takesNextOfBranch_20 ?_
      refine ro_V (As := [.int (nI k)]) (rest := []) ⟨hx, hb, hml, hown, hts⟩ (c_X3_hasRoomForBranch l G t v k (by omega)) (cwV 1 hts gX2_takesNextOfBranch_X3_hasRoomForBranch rfl rfl rfl (by decide +kernel) ⟨Nat.le_of_ble_eq_true rfl, Nat.le_of_ble_eq_true rfl⟩) (seg_P 1 hP rfl) hKK (va_recv hKK.1 (seg_P 1 hP rfl) (ci := 3) (q0 := 0) rfl rfl) rfl hl.1 rfl (Nat.le_of_ble_eq_true rfl) dX2_takesNextOfBranch_23 (Nat.zero_le _) (Nat.zero_le _) ?_
      refine lv_if_eq (tgt := 41) hx hb dX2_takesNextOfBranch_26 (by decide) (fun c_26 => ?_) (fun c_26 => ?_)
      · skip
        have c_26 := b2i_0 c_26
        refine lv_iconst (v := 0) hx hb dX2_takesNextOfBranch_41 (by decide) ?_
        have e_s : tkN (pp, k, v) x = (false, pp, k, v) := (if_neg c_3).trans ((if_pos c_15).trans (if_neg (Bool.eq_false_iff.mp c_26)))
        exact ex_MUz (b := (tkN (pp, k, v) x).1) (w2 := (List.flatten [[(q 0, .inr (2, [.int (nI pp), .int (nI k)]))], rW G t v])) hx hb hr hlocks hP hS dX2_takesNextOfBranch_42 ((congrArg (fun z : Bool × S4 => b2i z.1) e_s).symm) rfl (fun h => by rw [e_s]; exact h)
      · skip
        have c_26 := b2i_1 c_26
        refine lv_aload_n hx hb dX2_takesNextOfBranch_29 rfl (lv_at hl 0 rfl) ?_
        refine lv_iconst (v := 4) hx hb dX2_takesNextOfBranch_30 (by decide) ?_
        refine mu_V (As := [.int (nI 4)]) (rest := []) ⟨hx, hb, hml, hown, hts⟩ (c_X2_goesTo l G q t pp k v 4) (cwV 1 hts gX2_takesNextOfBranch_X2_goesTo rfl rfl rfl (by decide +kernel) ⟨Nat.le_of_ble_eq_true rfl, Nat.le_of_ble_eq_true rfl⟩) hP hKK hD hS (va_recv hKK.1 hP (ci := 2) (q0 := 0) rfl rfl) rfl hl.1 rfl (Nat.le_of_ble_eq_true rfl) dX2_takesNextOfBranch_31 (Nat.zero_le _) (Nat.zero_le _) (rfl) (fun H locs hP hD hS => ?_)
        refine lv_if_eq (tgt := 41) hx hb dX2_takesNextOfBranch_34 (by decide) (fun c_34 => ?_) (fun c_34 => ?_)
        · skip
          have c_34 := b2i_0 c_34
          exact absurd c_34 (by decide)
        · skip
          have c_34 := b2i_1 c_34
          refine lv_iconst (v := 1) hx hb dX2_takesNextOfBranch_37 (by decide) ?_
          refine lv_goto (tgt := 42) hx hb dX2_takesNextOfBranch_38 (by decide) ?_
          have e_s : tkN (pp, k, v) x = (true, 4, k, v) := (if_neg c_3).trans ((if_pos c_15).trans (if_pos c_26))
          exact ex_MUz (b := (tkN (pp, k, v) x).1) (w2 := (List.flatten [[(q 0, .inr (2, [.int (nI 4), .int (nI k)]))], rW G t v])) hx hb hr hlocks hP hS dX2_takesNextOfBranch_42 ((congrArg (fun z : Bool × S4 => b2i z.1) e_s).symm) rfl (fun h => by rw [e_s]; exact h)
  · skip
    refine lv_aload_n hx hb dX2_takesNextOfBranch_6 rfl (lv_at hl 0 rfl) ?_
    refine lv_iconst (v := 0) hx hb dX2_takesNextOfBranch_7 (by decide) ?_
    refine mu_V (As := [.int (nI 0)]) (rest := []) ⟨hx, hb, hml, hown, hts⟩ (c_X2_goesTo l G q t pp k v 0) (cwV 1 hts gX2_takesNextOfBranch_X2_goesTo rfl rfl rfl (by decide +kernel) ⟨Nat.le_of_ble_eq_true rfl, Nat.le_of_ble_eq_true rfl⟩) hP hKK hD hS (va_recv hKK.1 hP (ci := 2) (q0 := 0) rfl rfl) rfl hl.1 rfl (Nat.le_of_ble_eq_true rfl) dX2_takesNextOfBranch_8 (Nat.zero_le _) (Nat.zero_le _) (rfl) (fun H locs hP hD hS => ?_)
    have e_s : tkN (pp, k, v) x = (true, 0, k, v) := if_pos c_3
    exact ex_MUz (b := (tkN (pp, k, v) x).1) (w2 := (List.flatten [[(q 0, .inr (2, [.int (nI 0), .int (nI k)]))], rW G t v])) hx hb hr hlocks hP hS dX2_takesNextOfBranch_11 ((congrArg (fun z : Bool × S4 => b2i z.1) e_s).symm) rfl (fun h => by rw [e_s]; exact h)
set_option maxRecDepth 20000 in
theorem hin_X2_takesRelay_X2 : ∀ w ∈ u_ws RX2 TX2 2, w ∈ wsX2_takesRelay := by decide +kernel
theorem lk_X2_takesRelay_54 : Cond.fieldLink RX2 54 "WeldedRelays$Reader" "relay" "I" ∈ wsX2_takesRelay := by decide +kernel
set_option maxHeartbeats 4000000 in
set_option maxRecDepth 100000 in
/-- X2_takesRelay -/
theorem c_X2_takesRelay (l : Launch) (G : GG) (q : Nat → Nat) (t : Nat → Nat) (pp : Nat) (k : Nat) (v : Nat → Int32) (x : Int32) (hp : pp ≤ 6) (hk : k < 10) (hI : RI v) : Met l yX2_takesRelay wsX2_takesRelay ({ frames := 2, cells := 0, slots := 0, locals := 42 }) (pcM G [.ref (q 0), .int x] (List.flatten [[(q 0, .inr (2, [.int (nI pp), .int (nI k)]))], rW G t v])) (qMU G (some (.int (b2i (tkR (pp, k, v) x).1))) (List.flatten [[(q 0, .inr (2, [.int (nI pp), .int (nI k)]))], rW G t v]) (List.flatten [[(q 0, .inr (2, [.int (nI ((tkR (pp, k, v) x).2.1)), .int (nI ((tkR (pp, k, v) x).2.2.1))]))], rW G t ((tkR (pp, k, v) x).2.2.2)])) 0 0 (aA (List.flatten [[(q 0, .inr (2, [.int (nI pp), .int (nI k)]))], rW G t v])) := by
  refine hd_MU (cc := cX2_takesRelay) (maxL := 3) (ret := some .boolean) (by decide) rfl (Nat.le_of_ble_eq_true rfl) ?_
  intro p e s m below meth c ls hx hb hr hts hown hlocks hml hP hKK hD hS hl
  have hl : lv_has ls 3 [(0, .ref (q 0)), (1, .int x)] := hl
  refine lv_iload_n hx hb dX2_takesRelay_0 rfl (lv_at hl 1 rfl) ?_
  refine ro_S (As := [.int x]) (rest := []) ⟨hx, hb, hml, hown, hts⟩ (c_X2_contactOf l G x) (va_cwS 1 hts gX2_takesRelay_X2_contactOf rfl rfl rfl (by decide +kernel) ⟨Nat.le_of_ble_eq_true rfl, Nat.le_of_ble_eq_true rfl⟩) (show gP G [] _ from fun k q h => by simp at h) hKK rfl hl.1 rfl (Nat.le_of_ble_eq_true rfl) dX2_takesRelay_1 (Nat.zero_le _) (Nat.zero_le _) ?_
  refine lv_istore_n (lv' := [(2, .int (ctc x)), (0, .ref (q 0)), (1, .int x)]) hx hb dX2_takesRelay_4 rfl hl (by decide) rfl (fun ls hl => ?_)
  refine lv_iload_n hx hb dX2_takesRelay_5 rfl (lv_at hl 0 rfl) ?_
  refine ro_SN (As := [.int (ctc x)]) (rest := []) ⟨hx, hb, hml, hown, hts⟩ (c_X4_isRelay l G (ctc x)) ⟨va_cnB 1 hts gX2_takesRelay_X4_isRelay_n51 rfl rfl rfl (hKK.2.1 _ (List.mem_of_getElem? (i := 3) rfl)) (hts (.initialized RX4) (by decide +kernel)) (by decide +kernel) ⟨Nat.le_of_ble_eq_true rfl, Nat.le_of_ble_eq_true rfl⟩, hts (.static yX4_isRelay) (by decide +kernel), trivial⟩ (show gP G [] _ from fun k q h => by simp at h) hKK rfl hl.1 rfl (Nat.le_of_ble_eq_true rfl) dX2_takesRelay_6 (Nat.zero_le _) (Nat.zero_le _) ?_
  refine lv_if_ne (tgt := 14) hx hb dX2_takesRelay_9 (by decide) (fun c_9 => ?_) (fun c_9 => ?_)
  · skip
    have c_9 := b2i_1 c_9
    have hk2 := ctc_rk c_9
    refine lv_aload_n hx hb dX2_takesRelay_14 rfl (lv_at hl 1 rfl) ?_
    refine lv_iload_n hx hb dX2_takesRelay_15 rfl (lv_at hl 0 rfl) ?_
    refine lv_asi (y := nI (rk (ctc x))) (hk2.1) ?_
    refine va_put (D := gD G) (ci := 2) (v := .int (nI (rk (ctc x)))) (ty := .int) (C := RX2) (T := TX2) (N := 2) hx hb hts hin_X2_takesRelay_X2 tyX2 tyX2_ok nmX2 hown hKK.1 hP hD hS 0 rfl rfl 1 (by decide) (hts _ lk_X2_takesRelay_54) (fun _ h9 => h9) rfl (by decide +kernel) rfl rfl (Nat.le_of_ble_eq_true rfl) dX2_takesRelay_16 (fun H locs hP hD hS => ?_)
    have hP : gP G (List.flatten [[(q 0, .inr (2, [.int (nI pp), .int (nI (rk (ctc x)))]))], rW G t v]) H := hP
    have hD : va_D (aA (List.flatten [[(q 0, .inr (2, [.int (nI pp), .int (nI k)]))], rW G t v])) (List.flatten [[(q 0, .inr (2, [.int (nI pp), .int (nI (rk (ctc x)))]))], rW G t v]) := hD
    refine lv_aload_n hx hb dX2_takesRelay_19 rfl (lv_at hl 1 rfl) ?_
    refine lv_iconst (v := 1) hx hb dX2_takesRelay_20 (by decide) ?_
    refine mu_V (As := [.int (nI 1)]) (rest := []) ⟨hx, hb, hml, hown, hts⟩ (c_X2_goesTo l G q t pp (rk (ctc x)) v 1) (cwV 1 hts gX2_takesRelay_X2_goesTo rfl rfl rfl (by decide +kernel) ⟨Nat.le_of_ble_eq_true rfl, Nat.le_of_ble_eq_true rfl⟩) hP hKK hD hS (va_recv hKK.1 hP (ci := 2) (q0 := 0) rfl rfl) rfl hl.1 rfl (Nat.le_of_ble_eq_true rfl) dX2_takesRelay_21 (Nat.zero_le _) (Nat.zero_le _) (rfl) (fun H locs hP hD hS => ?_)
    have e_s : tkR (pp, k, v) x = (true, 1, rk (ctc x), v) := if_pos c_9
    exact ex_MUz (b := (tkR (pp, k, v) x).1) (w2 := (List.flatten [[(q 0, .inr (2, [.int (nI 1), .int (nI (rk (ctc x)))]))], rW G t v])) hx hb hr hlocks hP hS dX2_takesRelay_24 ((congrArg (fun z : Bool × S4 => b2i z.1) e_s).symm) rfl (fun h => by rw [e_s]; exact h)
  · skip
    have c_9 := b2i_0 c_9
    refine lv_iconst (v := 0) hx hb dX2_takesRelay_12 (by decide) ?_
    have e_s : tkR (pp, k, v) x = (false, pp, k, v) := if_neg (Bool.eq_false_iff.mp c_9)
    exact ex_MUz (b := (tkR (pp, k, v) x).1) (w2 := (List.flatten [[(q 0, .inr (2, [.int (nI pp), .int (nI k)]))], rW G t v])) hx hb hr hlocks hP hS dX2_takesRelay_13 ((congrArg (fun z : Bool × S4 => b2i z.1) e_s).symm) rfl (fun h => by rw [e_s]; exact h)
set_option maxRecDepth 20000 in
theorem hin_X2_takesEquals_X2 : ∀ w ∈ u_ws RX2 TX2 2, w ∈ wsX2_takesEquals := by decide +kernel
theorem lk_X2_takesEquals_54 : Cond.fieldLink RX2 54 "WeldedRelays$Reader" "relay" "I" ∈ wsX2_takesEquals := by decide +kernel
set_option maxHeartbeats 4000000 in
set_option maxRecDepth 100000 in
/-- X2_takesEquals -/
theorem c_X2_takesEquals (l : Launch) (G : GG) (q : Nat → Nat) (t : Nat → Nat) (pp : Nat) (k : Nat) (v : Nat → Int32) (x : Int32) (hp : pp ≤ 6) (hk : k < 10) (hI : RI v) : Met l yX2_takesEquals wsX2_takesEquals ({ frames := 1, cells := 0, slots := 0, locals := 21 }) (pcM G [.ref (q 0), .ref (t 0), .int x] (List.flatten [[(q 0, .inr (2, [.int (nI pp), .int (nI k)]))], rW G t v])) (qMU G (some (.int (b2i (tkE (pp, k, v) x).1))) (List.flatten [[(q 0, .inr (2, [.int (nI pp), .int (nI k)]))], rW G t v]) (List.flatten [[(q 0, .inr (2, [.int (nI ((tkE (pp, k, v) x).2.1)), .int (nI ((tkE (pp, k, v) x).2.2.1))]))], rW G t ((tkE (pp, k, v) x).2.2.2)])) 0 0 (aA (List.flatten [[(q 0, .inr (2, [.int (nI pp), .int (nI k)]))], rW G t v])) := by
  refine hd_MU (cc := cX2_takesEquals) (maxL := 3) (ret := some .boolean) (by decide) rfl (Nat.le_of_ble_eq_true rfl) ?_
  intro p e s m below meth c ls hx hb hr hts hown hlocks hml hP hKK hD hS hl
  have hl : lv_has ls 3 [(0, .ref (q 0)), (1, .ref (t 0)), (2, .int x)] := hl
  refine lv_iload_n hx hb dX2_takesEquals_0 rfl (lv_at hl 2 rfl) ?_
  refine lv_bipush (v := 61) hx hb dX2_takesEquals_1 (by decide) ?_
  refine lv_icmp_eq (tgt := 8) hx hb dX2_takesEquals_3 (by decide) (fun c_3 => ?_) (fun c_3 => ?_)
  · skip
    refine lv_aload_n hx hb dX2_takesEquals_8 rfl (lv_at hl 1 rfl) ?_
    refine lv_aload_n hx hb dX2_takesEquals_9 rfl (lv_at hl 0 rfl) ?_
    refine va_get (D := gD G) (ci := 2) (v := .int (nI k)) (C := RX2) (T := TX2) (N := 2) hx hb hts hin_X2_takesEquals_X2 hown hKK.1 hP 0 rfl rfl 1 (by decide) (hts _ lk_X2_takesEquals_54) (fun _ h9 => h9) rfl dX2_takesEquals_10 ?_
    refine mu_VF (ws := (List.flatten [[(q 0, .inr (2, [.int (nI pp), .int (nI k)]))], rW G t v])) (ws' := (List.flatten [[(q 0, .inr (2, [.int (nI pp), .int (nI k)]))], rW G t (clrF k v)])) (wr := (List.flatten [[(q 0, .inr (2, [.int (nI pp), .int (nI k)]))]])) (As := [.int (nI k)]) (rest := []) ⟨hx, hb, hml, hown, hts⟩ (c_X3_clearCircuit l G t v k (by omega)) (cwV 1 hts gX2_takesEquals_X3_clearCircuit rfl rfl rfl (by decide +kernel) ⟨Nat.le_of_ble_eq_true rfl, Nat.le_of_ble_eq_true rfl⟩) (segs_oneN [[(q 0, .inr (2, [.int (nI pp), .int (nI k)]))], rW G t v] 1 [0] 2 (by decide) rfl rfl rfl) (segs_oneN [[(q 0, .inr (2, [.int (nI pp), .int (nI k)]))], rW G t (clrF k v)] 1 [0] 2 (by decide) rfl rfl rfl) hP hKK hD hS (va_recv hKK.1 hP (ci := 3) (q0 := 1) rfl rfl) rfl hl.1 rfl (Nat.le_of_ble_eq_true rfl) dX2_takesEquals_13 (Nat.zero_le _) (Nat.zero_le _) rfl (fun H locs hP hD hS => ?_)
    refine lv_aload_n hx hb dX2_takesEquals_16 rfl (lv_at hl 0 rfl) ?_
    refine lv_iconst (v := 2) hx hb dX2_takesEquals_17 (by decide) ?_
    refine mu_V (As := [.int (nI 2)]) (rest := []) ⟨hx, hb, hml, hown, hts⟩ (c_X2_goesTo l G q t pp k (clrF k v) 2) (cwV 1 hts gX2_takesEquals_X2_goesTo rfl rfl rfl (by decide +kernel) ⟨Nat.le_of_ble_eq_true rfl, Nat.le_of_ble_eq_true rfl⟩) hP hKK hD hS (va_recv hKK.1 hP (ci := 2) (q0 := 0) rfl rfl) rfl hl.1 rfl (Nat.le_of_ble_eq_true rfl) dX2_takesEquals_18 (Nat.zero_le _) (Nat.zero_le _) (rfl) (fun H locs hP hD hS => ?_)
    have e_s : tkE (pp, k, v) x = (true, 2, k, clrF k v) := if_pos c_3
    exact ex_MUz (b := (tkE (pp, k, v) x).1) (w2 := (List.flatten [[(q 0, .inr (2, [.int (nI 2), .int (nI k)]))], rW G t (clrF k v)])) hx hb hr hlocks hP hS dX2_takesEquals_21 ((congrArg (fun z : Bool × S4 => b2i z.1) e_s).symm) rfl (fun h => by rw [e_s]; exact h)
  · skip
    refine lv_iconst (v := 0) hx hb dX2_takesEquals_6 (by decide) ?_
    have e_s : tkE (pp, k, v) x = (false, pp, k, v) := if_neg c_3
    exact ex_MUz (b := (tkE (pp, k, v) x).1) (w2 := (List.flatten [[(q 0, .inr (2, [.int (nI pp), .int (nI k)]))], rW G t v])) hx hb hr hlocks hP hS dX2_takesEquals_7 ((congrArg (fun z : Bool × S4 => b2i z.1) e_s).symm) rfl (fun h => by rw [e_s]; exact h)
set_option maxRecDepth 20000 in
theorem hin_X2_takes_X2 : ∀ w ∈ u_ws RX2 TX2 2, w ∈ wsX2_takes := by decide +kernel
theorem lk_X2_takes_11 : Cond.fieldLink RX2 11 "WeldedRelays$Reader" "place" "I" ∈ wsX2_takes := by decide +kernel
set_option maxHeartbeats 4000000 in
set_option maxRecDepth 100000 in
/-- X2_takes -/
theorem c_X2_takes (l : Launch) (G : GG) (q : Nat → Nat) (t : Nat → Nat) (pp : Nat) (k : Nat) (v : Nat → Int32) (x : Int32) (hp : pp ≤ 6) (hk : k < 10) (hI : RI v) : Met l yX2_takes wsX2_takes ({ frames := 4, cells := 0, slots := 0, locals := 93 }) (pcM G [.ref (q 0), .ref (t 0), .int x] (List.flatten [[(q 0, .inr (2, [.int (nI pp), .int (nI k)]))], rW G t v])) (qMU G (some (.int (b2i (tk (pp, k, v) x).1))) (List.flatten [[(q 0, .inr (2, [.int (nI pp), .int (nI k)]))], rW G t v]) (List.flatten [[(q 0, .inr (2, [.int (nI ((tk (pp, k, v) x).2.1)), .int (nI ((tk (pp, k, v) x).2.2.1))]))], rW G t ((tk (pp, k, v) x).2.2.2)])) 0 0 (aA (List.flatten [[(q 0, .inr (2, [.int (nI pp), .int (nI k)]))], rW G t v])) := by
  refine hd_MU (cc := cX2_takes) (maxL := 3) (ret := some .boolean) (by decide) rfl (Nat.le_of_ble_eq_true rfl) ?_
  intro p e s m below meth c ls hx hb hr hts hown hlocks hml hP hKK hD hS hl
  have hl : lv_has ls 3 [(0, .ref (q 0)), (1, .ref (t 0)), (2, .int x)] := hl
  refine lv_aload_n hx hb dX2_takes_0 rfl (lv_at hl 0 rfl) ?_
  refine va_get (D := gD G) (ci := 2) (v := .int (nI pp)) (C := RX2) (T := TX2) (N := 2) hx hb hts hin_X2_takes_X2 hown hKK.1 hP 0 rfl rfl 0 (by decide) (hts _ lk_X2_takes_11) (fun _ h9 => h9) rfl dX2_takes_1 ?_
  rcases (show pp = 0 ∨ pp = 1 ∨ pp = 2 ∨ pp = 3 ∨ pp = 4 ∨ pp = 5 ∨ pp = 6 by omega) with rfl | rfl | rfl | rfl | rfl | rfl | rfl
  · skip
    refine lv_tableIn (off := 40) (tgt := 44) hx hb dX2_takes_4 (by decide) (by decide) (by decide) (by decide) ?_
    refine lv_aload_n hx hb dX2_takes_44 rfl (lv_at hl 0 rfl) ?_
    refine lv_iload_n hx hb dX2_takes_45 rfl (lv_at hl 2 rfl) ?_
    refine mu_V (As := [.int x]) (rest := []) ⟨hx, hb, hml, hown, hts⟩ (c_X2_takesRelay l G q t 0 k v x (by omega) (by assumption) (by assumption)) (cwV 1 hts gX2_takes_X2_takesRelay rfl rfl rfl (by decide +kernel) ⟨Nat.le_of_ble_eq_true rfl, Nat.le_of_ble_eq_true rfl⟩) hP hKK hD hS (va_recv hKK.1 hP (ci := 2) (q0 := 0) rfl rfl) rfl hl.1 rfl (Nat.le_of_ble_eq_true rfl) dX2_takes_46 (Nat.zero_le _) (Nat.zero_le _) (rfl) (fun H locs hP hD hS => ?_)
    have e_s : tk (0, k, v) x = ((tkR (0, k, v) x).1, (tkR (0, k, v) x).2.1, (tkR (0, k, v) x).2.2.1, (tkR (0, k, v) x).2.2.2) := rfl
    exact ex_MUz (b := (tk (0, k, v) x).1) (w2 := (List.flatten [[(q 0, .inr (2, [.int (nI ((tkR (0, k, v) x).2.1)), .int (nI ((tkR (0, k, v) x).2.2.1))]))], rW G t ((tkR (0, k, v) x).2.2.2)])) hx hb hr hlocks hP hS dX2_takes_49 ((congrArg (fun z : Bool × S4 => b2i z.1) e_s).symm) rfl (fun h => by rw [e_s]; exact h)
  · skip
    refine lv_tableIn (off := 46) (tgt := 50) hx hb dX2_takes_4 (by decide) (by decide) (by decide) (by decide) ?_
    refine lv_aload_n hx hb dX2_takes_50 rfl (lv_at hl 0 rfl) ?_
    refine lv_aload_n hx hb dX2_takes_51 rfl (lv_at hl 1 rfl) ?_
    refine lv_iload_n hx hb dX2_takes_52 rfl (lv_at hl 2 rfl) ?_
    refine mu_V (As := [.ref (t 0), .int x]) (rest := []) ⟨hx, hb, hml, hown, hts⟩ (c_X2_takesEquals l G q t 1 k v x (by omega) (by assumption) (by assumption)) (cwV 2 hts gX2_takes_X2_takesEquals rfl rfl rfl (by decide +kernel) ⟨Nat.le_of_ble_eq_true rfl, Nat.le_of_ble_eq_true rfl⟩) hP hKK hD hS (va_recv hKK.1 hP (ci := 2) (q0 := 0) rfl rfl) rfl hl.1 rfl (Nat.le_of_ble_eq_true rfl) dX2_takes_53 (Nat.zero_le _) (Nat.zero_le _) (rfl) (fun H locs hP hD hS => ?_)
    have e_s : tk (1, k, v) x = ((tkE (1, k, v) x).1, (tkE (1, k, v) x).2.1, (tkE (1, k, v) x).2.2.1, (tkE (1, k, v) x).2.2.2) := rfl
    exact ex_MUz (b := (tk (1, k, v) x).1) (w2 := (List.flatten [[(q 0, .inr (2, [.int (nI ((tkE (1, k, v) x).2.1)), .int (nI ((tkE (1, k, v) x).2.2.1))]))], rW G t ((tkE (1, k, v) x).2.2.2)])) hx hb hr hlocks hP hS dX2_takes_56 ((congrArg (fun z : Bool × S4 => b2i z.1) e_s).symm) rfl (fun h => by rw [e_s]; exact h)
  · skip
    refine lv_tableIn (off := 53) (tgt := 57) hx hb dX2_takes_4 (by decide) (by decide) (by decide) (by decide) ?_
    refine lv_iload_n hx hb dX2_takes_57 rfl (lv_at hl 2 rfl) ?_
    refine lv_bipush (v := 48) hx hb dX2_takes_58 (by decide) ?_
    refine lv_icmp_ne (tgt := 71) hx hb dX2_takes_60 (by decide) (fun c_60 => ?_) (fun c_60 => ?_)
    · skip
      refine lv_aload_n hx hb dX2_takes_71 rfl (lv_at hl 0 rfl) ?_
      refine lv_aload_n hx hb dX2_takes_72 rfl (lv_at hl 1 rfl) ?_
      refine lv_iload_n hx hb dX2_takes_73 rfl (lv_at hl 2 rfl) ?_
      refine mu_V (As := [.ref (t 0), .int x]) (rest := []) ⟨hx, hb, hml, hown, hts⟩ (c_X2_takesFirstContact l G q t 2 k v x (by omega) (by assumption) (by assumption)) (cwV 2 hts gX2_takes_X2_takesFirstContact rfl rfl rfl (by decide +kernel) ⟨Nat.le_of_ble_eq_true rfl, Nat.le_of_ble_eq_true rfl⟩) hP hKK hD hS (va_recv hKK.1 hP (ci := 2) (q0 := 0) rfl rfl) rfl hl.1 rfl (Nat.le_of_ble_eq_true rfl) dX2_takes_74 (Nat.zero_le _) (Nat.zero_le _) (rfl) (fun H locs hP hD hS => ?_)
      have e_s : tk (2, k, v) x = ((tkF (2, k, v) x).1, (tkF (2, k, v) x).2.1, (tkF (2, k, v) x).2.2.1, (tkF (2, k, v) x).2.2.2) := if_neg c_60
      exact ex_MUz (b := (tk (2, k, v) x).1) (w2 := (List.flatten [[(q 0, .inr (2, [.int (nI ((tkF (2, k, v) x).2.1)), .int (nI ((tkF (2, k, v) x).2.2.1))]))], rW G t ((tkF (2, k, v) x).2.2.2)])) hx hb hr hlocks hP hS dX2_takes_77 ((congrArg (fun z : Bool × S4 => b2i z.1) e_s).symm) rfl (fun h => by rw [e_s]; exact h)
    · skip
      refine lv_aload_n hx hb dX2_takes_63 rfl (lv_at hl 0 rfl) ?_
      refine lv_iconst (v := 3) hx hb dX2_takes_64 (by decide) ?_
      refine mu_V (As := [.int (nI 3)]) (rest := []) ⟨hx, hb, hml, hown, hts⟩ (c_X2_goesTo l G q t 2 k v 3) (cwV 1 hts gX2_takes_X2_goesTo rfl rfl rfl (by decide +kernel) ⟨Nat.le_of_ble_eq_true rfl, Nat.le_of_ble_eq_true rfl⟩) hP hKK hD hS (va_recv hKK.1 hP (ci := 2) (q0 := 0) rfl rfl) rfl hl.1 rfl (Nat.le_of_ble_eq_true rfl) dX2_takes_65 (Nat.zero_le _) (Nat.zero_le _) (rfl) (fun H locs hP hD hS => ?_)
      refine lv_goto (tgt := 77) hx hb dX2_takes_68 (by decide) ?_
      have e_s : tk (2, k, v) x = (true, 3, k, v) := if_pos c_60
      exact ex_MUz (b := (tk (2, k, v) x).1) (w2 := (List.flatten [[(q 0, .inr (2, [.int (nI 3), .int (nI k)]))], rW G t v])) hx hb hr hlocks hP hS dX2_takes_77 ((congrArg (fun z : Bool × S4 => b2i z.1) e_s).symm) rfl (fun h => by rw [e_s]; exact h)
  · skip
    refine lv_tableIn (off := 74) (tgt := 78) hx hb dX2_takes_4 (by decide) (by decide) (by decide) (by decide) ?_
    refine lv_iload_n hx hb dX2_takes_78 rfl (lv_at hl 2 rfl) ?_
    refine lv_bipush (v := 59) hx hb dX2_takes_79 (by decide) ?_
    refine lv_icmp_ne (tgt := 96) hx hb dX2_takes_81 (by decide) (fun c_81 => ?_) (fun c_81 => ?_)
    · skip
      refine lv_iconst (v := 0) hx hb dX2_takes_96 (by decide) ?_
      have e_s : tk (3, k, v) x = (false, 3, k, v) := if_neg c_81
      exact ex_MUz (b := (tk (3, k, v) x).1) (w2 := (List.flatten [[(q 0, .inr (2, [.int (nI 3), .int (nI k)]))], rW G t v])) hx hb hr hlocks hP hS dX2_takes_97 ((congrArg (fun z : Bool × S4 => b2i z.1) e_s).symm) rfl (fun h => by rw [e_s]; exact h)
    · skip
      refine lv_aload_n hx hb dX2_takes_84 rfl (lv_at hl 0 rfl) ?_
      refine lv_iconst (v := 0) hx hb dX2_takes_85 (by decide) ?_
      refine mu_V (As := [.int (nI 0)]) (rest := []) ⟨hx, hb, hml, hown, hts⟩ (c_X2_goesTo l G q t 3 k v 0) (cwV 1 hts gX2_takes_X2_goesTo rfl rfl rfl (by decide +kernel) ⟨Nat.le_of_ble_eq_true rfl, Nat.le_of_ble_eq_true rfl⟩) hP hKK hD hS (va_recv hKK.1 hP (ci := 2) (q0 := 0) rfl rfl) rfl hl.1 rfl (Nat.le_of_ble_eq_true rfl) dX2_takes_86 (Nat.zero_le _) (Nat.zero_le _) (rfl) (fun H locs hP hD hS => ?_)
      refine lv_if_eq (tgt := 96) hx hb dX2_takes_89 (by decide) (fun c_89 => ?_) (fun c_89 => ?_)
      · skip
        have c_89 := b2i_0 c_89
        exact absurd c_89 (by decide)
      · skip
        have c_89 := b2i_1 c_89
        refine lv_iconst (v := 1) hx hb dX2_takes_92 (by decide) ?_
        refine lv_goto (tgt := 97) hx hb dX2_takes_93 (by decide) ?_
        have e_s : tk (3, k, v) x = (true, 0, k, v) := if_pos c_81
        exact ex_MUz (b := (tk (3, k, v) x).1) (w2 := (List.flatten [[(q 0, .inr (2, [.int (nI 0), .int (nI k)]))], rW G t v])) hx hb hr hlocks hP hS dX2_takes_97 ((congrArg (fun z : Bool × S4 => b2i z.1) e_s).symm) rfl (fun h => by rw [e_s]; exact h)
  · skip
    refine lv_tableIn (off := 94) (tgt := 98) hx hb dX2_takes_4 (by decide) (by decide) (by decide) (by decide) ?_
    refine lv_aload_n hx hb dX2_takes_98 rfl (lv_at hl 0 rfl) ?_
    refine lv_aload_n hx hb dX2_takes_99 rfl (lv_at hl 1 rfl) ?_
    refine lv_iload_n hx hb dX2_takes_100 rfl (lv_at hl 2 rfl) ?_
    refine mu_V (As := [.ref (t 0), .int x]) (rest := []) ⟨hx, hb, hml, hown, hts⟩ (c_X2_takesFirstContact l G q t 4 k v x (by omega) (by assumption) (by assumption)) (cwV 2 hts gX2_takes_X2_takesFirstContact rfl rfl rfl (by decide +kernel) ⟨Nat.le_of_ble_eq_true rfl, Nat.le_of_ble_eq_true rfl⟩) hP hKK hD hS (va_recv hKK.1 hP (ci := 2) (q0 := 0) rfl rfl) rfl hl.1 rfl (Nat.le_of_ble_eq_true rfl) dX2_takes_101 (Nat.zero_le _) (Nat.zero_le _) (rfl) (fun H locs hP hD hS => ?_)
    have e_s : tk (4, k, v) x = ((tkF (4, k, v) x).1, (tkF (4, k, v) x).2.1, (tkF (4, k, v) x).2.2.1, (tkF (4, k, v) x).2.2.2) := rfl
    exact ex_MUz (b := (tk (4, k, v) x).1) (w2 := (List.flatten [[(q 0, .inr (2, [.int (nI ((tkF (4, k, v) x).2.1)), .int (nI ((tkF (4, k, v) x).2.2.1))]))], rW G t ((tkF (4, k, v) x).2.2.2)])) hx hb hr hlocks hP hS dX2_takes_104 ((congrArg (fun z : Bool × S4 => b2i z.1) e_s).symm) rfl (fun h => by rw [e_s]; exact h)
  · skip
    refine lv_tableIn (off := 101) (tgt := 105) hx hb dX2_takes_4 (by decide) (by decide) (by decide) (by decide) ?_
    refine lv_aload_n hx hb dX2_takes_105 rfl (lv_at hl 0 rfl) ?_
    refine lv_aload_n hx hb dX2_takes_106 rfl (lv_at hl 1 rfl) ?_
    refine lv_iload_n hx hb dX2_takes_107 rfl (lv_at hl 2 rfl) ?_
    refine mu_V (As := [.ref (t 0), .int x]) (rest := []) ⟨hx, hb, hml, hown, hts⟩ (c_X2_takesContact l G q t 5 k v x (by omega) (by assumption) (by assumption)) (cwV 2 hts gX2_takes_X2_takesContact rfl rfl rfl (by decide +kernel) ⟨Nat.le_of_ble_eq_true rfl, Nat.le_of_ble_eq_true rfl⟩) hP hKK hD hS (va_recv hKK.1 hP (ci := 2) (q0 := 0) rfl rfl) rfl hl.1 rfl (Nat.le_of_ble_eq_true rfl) dX2_takes_108 (Nat.zero_le _) (Nat.zero_le _) (rfl) (fun H locs hP hD hS => ?_)
    have e_s : tk (5, k, v) x = ((tkC (5, k, v) x).1, (tkC (5, k, v) x).2.1, (tkC (5, k, v) x).2.2.1, (tkC (5, k, v) x).2.2.2) := rfl
    exact ex_MUz (b := (tk (5, k, v) x).1) (w2 := (List.flatten [[(q 0, .inr (2, [.int (nI ((tkC (5, k, v) x).2.1)), .int (nI ((tkC (5, k, v) x).2.2.1))]))], rW G t ((tkC (5, k, v) x).2.2.2)])) hx hb hr hlocks hP hS dX2_takes_111 ((congrArg (fun z : Bool × S4 => b2i z.1) e_s).symm) rfl (fun h => by rw [e_s]; exact h)
  · skip
    refine lv_tableOut (tgt := 112) hx hb dX2_takes_4 (by decide) (by decide) ?_
    refine lv_aload_n hx hb dX2_takes_112 rfl (lv_at hl 0 rfl) ?_
    refine lv_aload_n hx hb dX2_takes_113 rfl (lv_at hl 1 rfl) ?_
    refine lv_iload_n hx hb dX2_takes_114 rfl (lv_at hl 2 rfl) ?_
    refine mu_V (As := [.ref (t 0), .int x]) (rest := []) ⟨hx, hb, hml, hown, hts⟩ (c_X2_takesNextOfBranch l G q t 6 k v x (by omega) (by assumption) (by assumption)) (cwV 2 hts gX2_takes_X2_takesNextOfBranch rfl rfl rfl (by decide +kernel) ⟨Nat.le_of_ble_eq_true rfl, Nat.le_of_ble_eq_true rfl⟩) hP hKK hD hS (va_recv hKK.1 hP (ci := 2) (q0 := 0) rfl rfl) rfl hl.1 rfl (Nat.le_of_ble_eq_true rfl) dX2_takes_115 (Nat.zero_le _) (Nat.zero_le _) (rfl) (fun H locs hP hD hS => ?_)
    have e_s : tk (6, k, v) x = ((tkN (6, k, v) x).1, (tkN (6, k, v) x).2.1, (tkN (6, k, v) x).2.2.1, (tkN (6, k, v) x).2.2.2) := rfl
    exact ex_MUz (b := (tk (6, k, v) x).1) (w2 := (List.flatten [[(q 0, .inr (2, [.int (nI ((tkN (6, k, v) x).2.1)), .int (nI ((tkN (6, k, v) x).2.2.1))]))], rW G t ((tkN (6, k, v) x).2.2.2)])) hx hb hr hlocks hP hS dX2_takes_118 ((congrArg (fun z : Bool × S4 => b2i z.1) e_s).symm) rfl (fun h => by rw [e_s]; exact h)
