set_option maxRecDepth 20000 in
theorem hin_X5_readsBranches_X5 : ∀ w ∈ u_ws RX5 TX5 12, w ∈ wsX5_readsBranches := by decide +kernel
theorem lk_X5_readsBranches_105 : Cond.fieldLink RX5 105 "WeldedRelaysModel" "branchesTold" "I" ∈ wsX5_readsBranches := by decide +kernel
set_option maxHeartbeats 4000000 in
set_option maxRecDepth 100000 in
/-- X5_readsBranches -/
theorem c_X5_readsBranches (l : Launch) (G : GG) (a : Nat → Nat) (st : Nat → Int32) (kp : Nat → Int32) (hi : Nat → Int32) (sl : Nat → Int32) (sv : Nat → Int32) (pd : Nat → Int32) (td : Nat → Int32) (rc : Int32) (rt : Int32) (N : Nat) (pp : Nat) (b : Nat) (hn : N ≤ 64) (hp : pp ≤ N) (hb6 : b < 6) : Met l yX5_readsBranches wsX5_readsBranches ({ frames := 3, cells := 0, slots := 0, locals := 67 }) (pcM G [.ref (a 0)] (mW G a st kp hi sl sv pd td rc (nI N) (nI pp) rt (nI b))) (qMU G (some (.int (b2i (rbs (chr pd N) 6 (rb1 (chr pd N) (pp, td, b))).1))) (mW G a st kp hi sl sv pd td rc (nI N) (nI pp) rt (nI b)) (mW G a st kp hi sl sv pd ((rbs (chr pd N) 6 (rb1 (chr pd N) (pp, td, b))).2.2.1) rc (nI N) (nI (rbs (chr pd N) 6 (rb1 (chr pd N) (pp, td, b))).2.1) rt (nI (rbs (chr pd N) 6 (rb1 (chr pd N) (pp, td, b))).2.2.2))) 0 0 (aA (mW G a st kp hi sl sv pd td rc (nI N) (nI pp) rt (nI b))) := by
  refine hd_MU (cc := cX5_readsBranches) (maxL := 2) (ret := some .boolean) (by decide) rfl (Nat.le_of_ble_eq_true rfl) ?_
  intro p e s m below meth c ls hx hb hr hts hown hlocks hml hP hKK hD hS hl
  have hl : lv_has ls 2 [(0, .ref (a 0))] := hl
  refine lv_aload_n hx hb dX5_readsBranches_0 rfl (lv_at hl 0 rfl) ?_
  refine mu_V (As := []) (rest := []) ⟨hx, hb, hml, hown, hts⟩ (c_X5_readsBranch l G a st kp hi sl sv pd td rc rt N pp b (by assumption) (by omega) (by omega)) (cwV 0 hts gX5_readsBranches_X5_readsBranch rfl rfl rfl (by decide +kernel) ⟨Nat.le_of_ble_eq_true rfl, Nat.le_of_ble_eq_true rfl⟩) hP hKK hD hS (va_recv hKK.1 hP (ci := 5) (q0 := 0) rfl rfl) rfl hl.1 rfl (Nat.le_of_ble_eq_true rfl) dX5_readsBranches_1 (Nat.zero_le _) (Nat.zero_le _) (rfl) (fun H locs hP hD hS => ?_)
  refine lv_istore_n (lv' := [(1, .int (b2i (rb1 (chr pd N) (pp, td, b)).1)), (0, .ref (a 0))]) hx hb dX5_readsBranches_4 rfl hl (by decide) rfl (fun ls hl => ?_)
  have L_5 : ∀ (n_5 : Nat) (mm : Nat) (rr : Bool × Q4), (rr.2.1 ≤ N) → (mm + 1 ≤ n_5) → (rr.1 = true → 6 ≤ mm + rr.2.2.2) → (rr.2.2.2 ≤ 6) → (rbs (chr pd N) 6 (rb1 (chr pd N) (pp, td, b)) = rbs (chr pd N) mm rr) → ∀ (H : Heap) (locs : List Loc), gP G (mW G a st kp hi sl sv pd rr.2.2.1 rc (nI N) (nI rr.2.1) rt (nI rr.2.2.2)) H → va_D (aA (mW G a st kp hi sl sv pd td rc (nI N) (nI pp) rt (nI b))) (mW G a st kp hi sl sv pd rr.2.2.1 rc (nI N) (nI rr.2.1) rt (nI rr.2.2.2)) → va_S (aA (mW G a st kp hi sl sv pd td rc (nI N) (nI pp) rt (nI b))) s.heap H locs → ∀ (ls : Array Slot), lv_has ls 2 [(1, .int (b2i rr.1)), (0, .ref (a 0))] → W p l e ({ frames := 3, cells := 0, slots := 0, locals := 67 }) s m (List.toArray [.ref (a 0)]) below meth c H locs 0 0 (MQ below (qMU G (some (.int (b2i (rbs (chr pd N) 6 (rb1 (chr pd N) (pp, td, b))).1))) (mW G a st kp hi sl sv pd td rc (nI N) (nI pp) rt (nI b)) (mW G a st kp hi sl sv pd ((rbs (chr pd N) 6 (rb1 (chr pd N) (pp, td, b))).2.2.1) rc (nI N) (nI (rbs (chr pd N) 6 (rb1 (chr pd N) (pp, td, b))).2.1) rt (nI (rbs (chr pd N) 6 (rb1 (chr pd N) (pp, td, b))).2.2.2))) (List.toArray [.ref (a 0)]) s 0 0 (aA (mW G a st kp hi sl sv pd td rc (nI N) (nI pp) rt (nI b)))) (F0 m 5 ls []) := by
    intro n_5
    induction n_5 with
    | zero => intro mm rr h1 h2 h3 h5 h4; exact absurd (h2) (by omega)
    | succ n_5 ih_5 =>
      intro mm rr h1 h2 h3 h5 h4 H locs hP hD hS ls hl
      refine lv_iload_n hx hb dX5_readsBranches_5 rfl (lv_at hl 0 rfl) ?_
      refine lv_if_eq (tgt := 35) hx hb dX5_readsBranches_6 (by decide) (fun c_6 => ?_) (fun c_6 => ?_)
      · skip
        have c_6 := b2i_0 c_6
        refine lv_iload_n hx hb dX5_readsBranches_35 rfl (lv_at hl 0 rfl) ?_
        exact ex_MUz (b := (rbs (chr pd N) 6 (rb1 (chr pd N) (pp, td, b))).1) (w2 := (mW G a st kp hi sl sv pd rr.2.2.1 rc (nI N) (nI rr.2.1) rt (nI rr.2.2.2))) hx hb hr hlocks hP hS dX5_readsBranches_36 (by rw [h4, rbs_stop mm (fun q => Bool.noConfusion (c_6.symm.trans q.1))]) rfl (fun h => by rw [h4, rbs_stop mm (fun q => Bool.noConfusion (c_6.symm.trans q.1))]; exact h)
      · skip
        have c_6 := b2i_1 c_6
        refine lv_aload_n hx hb dX5_readsBranches_9 rfl (lv_at hl 1 rfl) ?_
        refine va_get (D := gD G) (ci := 5) (v := .int (nI rr.2.2.2)) (C := RX5) (T := TX5) (N := 12) hx hb hts hin_X5_readsBranches_X5 hown hKK.1 hP 0 rfl rfl 11 (by decide) (hts _ lk_X5_readsBranches_105) (fun _ h9 => h9) rfl dX5_readsBranches_10 ?_
        refine lv_bipush (v := 6) hx hb dX5_readsBranches_13 (by decide) ?_
        refine lv_icmp_ge (tgt := 35) hx hb dX5_readsBranches_15 (by decide) (fun c_15 => ?_) (fun c_15 => ?_)
        · skip
          have c_15 : 6 ≤ rr.2.2.2 := (nI_leI (a := 6) (b := rr.2.2.2) (by omega) (by omega)).mp c_15
          refine lv_iload_n hx hb dX5_readsBranches_35 rfl (lv_at hl 0 rfl) ?_
          exact ex_MUz (b := (rbs (chr pd N) 6 (rb1 (chr pd N) (pp, td, b))).1) (w2 := (mW G a st kp hi sl sv pd rr.2.2.1 rc (nI N) (nI rr.2.1) rt (nI rr.2.2.2))) hx hb hr hlocks hP hS dX5_readsBranches_36 (by rw [h4, rbs_stop mm (fun q => by have := q.2.1; omega)]) rfl (fun h => by rw [h4, rbs_stop mm (fun q => by have := q.2.1; omega)]; exact h)
        · skip
          have c_15 : ¬ (6 ≤ rr.2.2.2) := fun q => c_15 ((nI_leI (a := 6) (b := rr.2.2.2) (by omega) (by omega)).mpr q)
          refine lv_aload_n hx hb dX5_readsBranches_18 rfl (lv_at hl 1 rfl) ?_
          refine lv_bipush (v := 43) hx hb dX5_readsBranches_19 (by decide) ?_
          refine mu_V (As := [.int 43]) (rest := []) ⟨hx, hb, hml, hown, hts⟩ (c_X5_isNext l G a st kp hi sl sv pd rr.2.2.1 rc rt (nI rr.2.2.2) N rr.2.1 43 (by assumption) (by omega)) (cwV 1 hts gX5_readsBranches_X5_isNext rfl rfl rfl (by decide +kernel) ⟨Nat.le_of_ble_eq_true rfl, Nat.le_of_ble_eq_true rfl⟩) hP hKK hD hS (va_recv hKK.1 hP (ci := 5) (q0 := 0) rfl rfl) rfl hl.1 rfl (Nat.le_of_ble_eq_true rfl) dX5_readsBranches_21 (Nat.zero_le _) (Nat.zero_le _) (rfl) (fun H locs hP hD hS => ?_)
          refine lv_if_eq (tgt := 35) hx hb dX5_readsBranches_24 (by decide) (fun c_24 => ?_) (fun c_24 => ?_)
          · skip
            have c_24 := b2i_0 c_24
            have ev_1 : nI (nx pd N rr.2.1 43) = nI rr.2.1 := nx_f c_24
            have hP : gP G (mW G a st kp hi sl sv pd rr.2.2.1 rc (nI N) (nI rr.2.1) rt (nI rr.2.2.2)) H := by rw [← ev_1]; exact hP
            have hD : va_D (aA (mW G a st kp hi sl sv pd td rc (nI N) (nI pp) rt (nI b))) (mW G a st kp hi sl sv pd rr.2.2.1 rc (nI N) (nI rr.2.1) rt (nI rr.2.2.2)) := by rw [← ev_1]; exact hD
            refine lv_iload_n hx hb dX5_readsBranches_35 rfl (lv_at hl 0 rfl) ?_
            exact ex_MUz (b := (rbs (chr pd N) 6 (rb1 (chr pd N) (pp, td, b))).1) (w2 := (mW G a st kp hi sl sv pd rr.2.2.1 rc (nI N) (nI rr.2.1) rt (nI rr.2.2.2))) hx hb hr hlocks hP hS dX5_readsBranches_36 (by rw [h4, rbs_stop mm (fun q => of_decide_eq_false c_24 q.2.2)]) rfl (fun h => by rw [h4, rbs_stop mm (fun q => of_decide_eq_false c_24 q.2.2)]; exact h)
          · skip
            have c_24 := b2i_1 c_24
            have p9 : rr.2.1 < N := chr_lt (pd := pd) (by rw [of_decide_eq_true c_24]; decide)
            have a9 := rb1_le (pd := pd) (N := N) (s := (rr.2.1 + 1, rr.2.2.1, rr.2.2.2)) (show rr.2.1 + 1 ≤ N by omega)
            have c_15 : rr.2.2.2 + 1 ≤ 6 := by omega
            have m9 := h3 c_6
            have ev_2 : nI (nx pd N rr.2.1 43) = nI (rr.2.1 + 1) := nx_t c_24
            have hP : gP G (mW G a st kp hi sl sv pd rr.2.2.1 rc (nI N) (nI (rr.2.1 + 1)) rt (nI rr.2.2.2)) H := by rw [← ev_2]; exact hP
            have hD : va_D (aA (mW G a st kp hi sl sv pd td rc (nI N) (nI pp) rt (nI b))) (mW G a st kp hi sl sv pd rr.2.2.1 rc (nI N) (nI (rr.2.1 + 1)) rt (nI rr.2.2.2)) := by rw [← ev_2]; exact hD
            refine lv_aload_n hx hb dX5_readsBranches_27 rfl (lv_at hl 1 rfl) ?_
            refine mu_V (As := []) (rest := []) ⟨hx, hb, hml, hown, hts⟩ (c_X5_readsBranch l G a st kp hi sl sv pd rr.2.2.1 rc rt N (rr.2.1 + 1) rr.2.2.2 (by assumption) (by omega) (by omega)) (cwV 0 hts gX5_readsBranches_X5_readsBranch rfl rfl rfl (by decide +kernel) ⟨Nat.le_of_ble_eq_true rfl, Nat.le_of_ble_eq_true rfl⟩) hP hKK hD hS (va_recv hKK.1 hP (ci := 5) (q0 := 0) rfl rfl) rfl hl.1 rfl (Nat.le_of_ble_eq_true rfl) dX5_readsBranches_28 (Nat.zero_le _) (Nat.zero_le _) (rfl) (fun H locs hP hD hS => ?_)
            refine lv_istore_n (lv' := [(1, .int (b2i (rb1 (chr pd N) ((rr.2.1 + 1), rr.2.2.1, rr.2.2.2)).1)), (0, .ref (a 0))]) hx hb dX5_readsBranches_31 rfl hl (by decide) rfl (fun ls hl => ?_)
            refine lv_goto (tgt := 5) hx hb dX5_readsBranches_32 (by decide) ?_
            exact ih_5 (mm - 1) (rb1 (chr pd N) (rr.2.1 + 1, rr.2.2.1, rr.2.2.2)) (a9.1) (by omega) (fun q => by have q2 : (rb1 (chr pd N) (rr.2.1 + 1, rr.2.2.1, rr.2.2.2)).2.2.2 = rr.2.2.2 + 1 := (a9.2.2.1 q).2; omega) (Nat.le_trans (show (rb1 (chr pd N) (rr.2.1 + 1, rr.2.2.1, rr.2.2.2)).2.2.2 ≤ rr.2.2.2 + 1 from a9.2.2.2) c_15) (h4.trans (rbs_go (by have := h3 c_6; omega) ⟨c_6, by omega, of_decide_eq_true c_24⟩)) _ _ (hP) (hD) hS _ (lv_sub hl [0, 1] rfl)
  exact L_5 7 6 (rb1 (chr pd N) (pp, td, b)) ((rb1_le hp).1) (by omega) (fun _ => Nat.le_add_right _ _) (Nat.le_trans (rb1_le (s := (pp, td, b)) hp).2.2.2 hb6) (rfl) _ _ (hP) (hD) hS _ (lv_sub hl [0, 1] rfl)
set_option maxRecDepth 20000 in
theorem hin_X5_readsCircuit_X5 : ∀ w ∈ u_ws RX5 TX5 12, w ∈ wsX5_readsCircuit := by decide +kernel
theorem lk_X5_readsCircuit_105 : Cond.fieldLink RX5 105 "WeldedRelaysModel" "branchesTold" "I" ∈ wsX5_readsCircuit := by decide +kernel
theorem lk_X5_readsCircuit_89 : Cond.fieldLink RX5 89 "WeldedRelaysModel" "at" "I" ∈ wsX5_readsCircuit := by decide +kernel
theorem lk_X5_readsCircuit_102 : Cond.fieldLink RX5 102 "WeldedRelaysModel" "relayTold" "I" ∈ wsX5_readsCircuit := by decide +kernel
set_option maxHeartbeats 4000000 in
set_option maxRecDepth 100000 in
/-- X5_readsCircuit -/
theorem c_X5_readsCircuit (l : Launch) (G : GG) (a : Nat → Nat) (st : Nat → Int32) (kp : Nat → Int32) (hi : Nat → Int32) (sl : Nat → Int32) (sv : Nat → Int32) (pd : Nat → Int32) (td : Nat → Int32) (rc : Int32) (bn : Int32) (N : Nat) (pp : Nat) (k : Nat) (hn : N ≤ 64) (hp : pp ≤ N) : Met l yX5_readsCircuit wsX5_readsCircuit ({ frames := 4, cells := 0, slots := 0, locals := 88 }) (pcM G [.ref (a 0)] (mW G a st kp hi sl sv pd td rc (nI N) (nI pp) (nI k) bn)) (qMU G (some (.int (b2i (rc1 (chr pd N) (pp, k, td, 0)).1))) (mW G a st kp hi sl sv pd td rc (nI N) (nI pp) (nI k) bn) (mW G a st kp hi sl sv pd ((rc1 (chr pd N) (pp, k, td, 0)).2.2.2.1) rc (nI N) (nI (rc1 (chr pd N) (pp, k, td, 0)).2.1) (nI (rc1 (chr pd N) (pp, k, td, 0)).2.2.1) (nI (rc1 (chr pd N) (pp, k, td, 0)).2.2.2.2))) 0 0 (aA (mW G a st kp hi sl sv pd td rc (nI N) (nI pp) (nI k) bn)) := by
  refine hd_MU (cc := cX5_readsCircuit) (maxL := 2) (ret := some .boolean) (by decide) rfl (Nat.le_of_ble_eq_true rfl) ?_
  intro p e s m below meth c ls hx hb hr hts hown hlocks hml hP hKK hD hS hl
  have hl : lv_has ls 2 [(0, .ref (a 0))] := hl
  refine lv_aload_n hx hb dX5_readsCircuit_0 rfl (lv_at hl 0 rfl) ?_
  refine lv_iconst (v := 0) hx hb dX5_readsCircuit_1 (by decide) ?_
  refine va_put (D := gD G) (ci := 5) (v := .int 0) (ty := .int) (C := RX5) (T := TX5) (N := 12) hx hb hts hin_X5_readsCircuit_X5 tyX5 tyX5_ok nmX5 hown hKK.1 hP hD hS 0 rfl rfl 11 (by decide) (hts _ lk_X5_readsCircuit_105) (fun _ h9 => h9) rfl (by decide +kernel) rfl rfl (Nat.le_of_ble_eq_true rfl) dX5_readsCircuit_2 (fun H locs hP hD hS => ?_)
  have hP : gP G (mW G a st kp hi sl sv pd td rc (nI N) (nI pp) (nI k) 0) H := hP
  have hD : va_D (aA (mW G a st kp hi sl sv pd td rc (nI N) (nI pp) (nI k) bn)) (mW G a st kp hi sl sv pd td rc (nI N) (nI pp) (nI k) 0) := hD
  refine lv_aload_n hx hb dX5_readsCircuit_5 rfl (lv_at hl 0 rfl) ?_
  refine lv_aload_n hx hb dX5_readsCircuit_6 rfl (lv_at hl 0 rfl) ?_
  refine va_get (D := gD G) (ci := 5) (v := .int (nI pp)) (C := RX5) (T := TX5) (N := 12) hx hb hts hin_X5_readsCircuit_X5 hown hKK.1 hP 0 rfl rfl 8 (by decide) (hts _ lk_X5_readsCircuit_89) (fun _ h9 => h9) rfl dX5_readsCircuit_7 ?_
  refine ro_V (As := [.int (nI pp)]) (rest := []) ⟨hx, hb, hml, hown, hts⟩ (c_X5_character l G a st kp hi sl sv pd td rc (nI pp) (nI k) 0 N pp (by assumption) (by omega)) (cwV 1 hts gX5_readsCircuit_X5_character rfl rfl rfl (by decide +kernel) ⟨Nat.le_of_ble_eq_true rfl, Nat.le_of_ble_eq_true rfl⟩) hP hKK (va_recv hKK.1 hP (ci := 5) (q0 := 0) rfl rfl) rfl hl.1 rfl (Nat.le_of_ble_eq_true rfl) dX5_readsCircuit_10 (Nat.zero_le _) (Nat.zero_le _) ?_
  refine lv_istore_n (lv' := [(1, .int (chr pd N pp)), (0, .ref (a 0))]) hx hb dX5_readsCircuit_13 rfl hl (by decide) rfl (fun ls hl => ?_)
  refine lv_iload_n hx hb dX5_readsCircuit_14 rfl (lv_at hl 0 rfl) ?_
  refine lv_bipush (v := 65) hx hb dX5_readsCircuit_15 (by decide) ?_
  refine lv_bipush (v := 74) hx hb dX5_readsCircuit_17 (by decide) ?_
  refine ro_S (As := [.int (chr pd N pp), .int 65, .int 74]) (rest := []) ⟨hx, hb, hml, hown, hts⟩ (c_X5_within l G (chr pd N pp) 65 74) (va_cwS 3 hts gX5_readsCircuit_X5_within rfl rfl rfl (by decide +kernel) ⟨Nat.le_of_ble_eq_true rfl, Nat.le_of_ble_eq_true rfl⟩) (show gP G [] _ from fun k q h => by simp at h) hKK rfl hl.1 rfl (Nat.le_of_ble_eq_true rfl) dX5_readsCircuit_19 (Nat.zero_le _) (Nat.zero_le _) ?_
  refine lv_if_ne (tgt := 27) hx hb dX5_readsCircuit_22 (by decide) (fun c_22 => ?_) (fun c_22 => ?_)
  · skip
    have c_22 := b2i_1 c_22
    have p1 : pp < N := chr_lt (pd := pd) (fun q => by rw [q] at c_22; exact absurd c_22 (by decide))
    refine lv_aload_n hx hb dX5_readsCircuit_27 rfl (lv_at hl 1 rfl) ?_
    refine lv_iload_n hx hb dX5_readsCircuit_28 rfl (lv_at hl 0 rfl) ?_
    refine lv_bipush (v := 65) hx hb dX5_readsCircuit_29 (by decide) ?_
    refine lv_isub hx hb dX5_readsCircuit_31 ?_
    refine lv_asi (y := nI (rk (chr pd N pp - 65))) ((rel_rk c_22).1) ?_
    refine va_put (D := gD G) (ci := 5) (v := .int (nI (rk (chr pd N pp - 65)))) (ty := .int) (C := RX5) (T := TX5) (N := 12) hx hb hts hin_X5_readsCircuit_X5 tyX5 tyX5_ok nmX5 hown hKK.1 hP hD hS 0 rfl rfl 9 (by decide) (hts _ lk_X5_readsCircuit_102) (fun _ h9 => h9) rfl (by decide +kernel) rfl rfl (Nat.le_of_ble_eq_true rfl) dX5_readsCircuit_32 (fun H locs hP hD hS => ?_)
    have hP : gP G (mW G a st kp hi sl sv pd td rc (nI N) (nI pp) (nI (rk (chr pd N pp - 65))) 0) H := hP
    have hD : va_D (aA (mW G a st kp hi sl sv pd td rc (nI N) (nI pp) (nI k) bn)) (mW G a st kp hi sl sv pd td rc (nI N) (nI pp) (nI (rk (chr pd N pp - 65))) 0) := hD
    refine lv_aload_n hx hb dX5_readsCircuit_35 rfl (lv_at hl 1 rfl) ?_
    refine lv_dup hx hb dX5_readsCircuit_36 rfl ?_
    refine va_get (D := gD G) (ci := 5) (v := .int (nI pp)) (C := RX5) (T := TX5) (N := 12) hx hb hts hin_X5_readsCircuit_X5 hown hKK.1 hP 0 rfl rfl 8 (by decide) (hts _ lk_X5_readsCircuit_89) (fun _ h9 => h9) rfl dX5_readsCircuit_37 ?_
    refine lv_iconst (v := 1) hx hb dX5_readsCircuit_40 (by decide) ?_
    refine lv_iadd hx hb dX5_readsCircuit_41 ?_
    refine va_put (D := gD G) (ci := 5) (v := .int ((nI pp) + 1)) (ty := .int) (C := RX5) (T := TX5) (N := 12) hx hb hts hin_X5_readsCircuit_X5 tyX5 tyX5_ok nmX5 hown hKK.1 hP hD hS 0 rfl rfl 8 (by decide) (hts _ lk_X5_readsCircuit_89) (fun _ h9 => h9) rfl (by decide +kernel) rfl rfl (Nat.le_of_ble_eq_true rfl) dX5_readsCircuit_42 (fun H locs hP hD hS => ?_)
    have hP : gP G (mW G a st kp hi sl sv pd td rc (nI N) ((nI pp) + 1) (nI (rk (chr pd N pp - 65))) 0) H := hP
    have hD : va_D (aA (mW G a st kp hi sl sv pd td rc (nI N) (nI pp) (nI k) bn)) (mW G a st kp hi sl sv pd td rc (nI N) ((nI pp) + 1) (nI (rk (chr pd N pp - 65))) 0) := hD
    have ev_1 : (nI pp) + 1 = nI (pp + 1) := nI_1 _
    have hP : gP G (mW G a st kp hi sl sv pd td rc (nI N) (nI (pp + 1)) (nI (rk (chr pd N pp - 65))) 0) H := by rw [← ev_1]; exact hP
    have hD : va_D (aA (mW G a st kp hi sl sv pd td rc (nI N) (nI pp) (nI k) bn)) (mW G a st kp hi sl sv pd td rc (nI N) (nI (pp + 1)) (nI (rk (chr pd N pp - 65))) 0) := by rw [← ev_1]; exact hD
    refine lv_aload_n hx hb dX5_readsCircuit_45 rfl (lv_at hl 1 rfl) ?_
    refine lv_bipush (v := 61) hx hb dX5_readsCircuit_46 (by decide) ?_
    refine mu_V (As := [.int 61]) (rest := []) ⟨hx, hb, hml, hown, hts⟩ (c_X5_isNext l G a st kp hi sl sv pd td rc (nI (rk (chr pd N pp - 65))) 0 N (pp + 1) 61 (by assumption) (by omega)) (cwV 1 hts gX5_readsCircuit_X5_isNext rfl rfl rfl (by decide +kernel) ⟨Nat.le_of_ble_eq_true rfl, Nat.le_of_ble_eq_true rfl⟩) hP hKK hD hS (va_recv hKK.1 hP (ci := 5) (q0 := 0) rfl rfl) rfl hl.1 rfl (Nat.le_of_ble_eq_true rfl) dX5_readsCircuit_48 (Nat.zero_le _) (Nat.zero_le _) (rfl) (fun H locs hP hD hS => ?_)
    refine lv_if_eq (tgt := 74) hx hb dX5_readsCircuit_51 (by decide) (fun c_51 => ?_) (fun c_51 => ?_)
    · skip
      have c_51 := b2i_0 c_51
      have ev_2 : nI (nx pd N (pp + 1) 61) = nI (pp + 1) := nx_f c_51
      have hP : gP G (mW G a st kp hi sl sv pd td rc (nI N) (nI (pp + 1)) (nI (rk (chr pd N pp - 65))) 0) H := by rw [← ev_2]; exact hP
      have hD : va_D (aA (mW G a st kp hi sl sv pd td rc (nI N) (nI pp) (nI k) bn)) (mW G a st kp hi sl sv pd td rc (nI N) (nI (pp + 1)) (nI (rk (chr pd N pp - 65))) 0) := by rw [← ev_2]; exact hD
      refine lv_iconst (v := 0) hx hb dX5_readsCircuit_74 (by decide) ?_
      exact ex_MUz (b := (rc1 (chr pd N) (pp, k, td, 0)).1) (w2 := (mW G a st kp hi sl sv pd td rc (nI N) (nI (pp + 1)) (nI (rk (chr pd N pp - 65))) 0)) hx hb hr hlocks hP hS dX5_readsCircuit_75 (by rw [rc1_1 (s := (pp, k, td, 0)) c_22 (of_decide_eq_false c_51)]; rfl) rfl (fun h => by rw [rc1_1 (s := (pp, k, td, 0)) c_22 (of_decide_eq_false c_51)]; exact h)
    · skip
      have c_51 := b2i_1 c_51
      have p2 : pp + 1 < N := chr_lt (pd := pd) (by rw [of_decide_eq_true c_51]; decide)
      have ev_3 : nI (nx pd N (pp + 1) 61) = nI (pp + 2) := nx_t c_51
      have hP : gP G (mW G a st kp hi sl sv pd td rc (nI N) (nI (pp + 2)) (nI (rk (chr pd N pp - 65))) 0) H := by rw [← ev_3]; exact hP
      have hD : va_D (aA (mW G a st kp hi sl sv pd td rc (nI N) (nI pp) (nI k) bn)) (mW G a st kp hi sl sv pd td rc (nI N) (nI (pp + 2)) (nI (rk (chr pd N pp - 65))) 0) := by rw [← ev_3]; exact hD
      refine lv_aload_n hx hb dX5_readsCircuit_54 rfl (lv_at hl 1 rfl) ?_
      refine lv_bipush (v := 48) hx hb dX5_readsCircuit_55 (by decide) ?_
      refine mu_V (As := [.int 48]) (rest := []) ⟨hx, hb, hml, hown, hts⟩ (c_X5_isNext l G a st kp hi sl sv pd td rc (nI (rk (chr pd N pp - 65))) 0 N (pp + 2) 48 (by assumption) (by omega)) (cwV 1 hts gX5_readsCircuit_X5_isNext rfl rfl rfl (by decide +kernel) ⟨Nat.le_of_ble_eq_true rfl, Nat.le_of_ble_eq_true rfl⟩) hP hKK hD hS (va_recv hKK.1 hP (ci := 5) (q0 := 0) rfl rfl) rfl hl.1 rfl (Nat.le_of_ble_eq_true rfl) dX5_readsCircuit_57 (Nat.zero_le _) (Nat.zero_le _) (rfl) (fun H locs hP hD hS => ?_)
      refine lv_if_ne (tgt := 70) hx hb dX5_readsCircuit_60 (by decide) (fun c_60 => ?_) (fun c_60 => ?_)
      · skip
        have c_60 := b2i_1 c_60
        have ev_4 : nI (nx pd N (pp + 2) 48) = nI (pp + 3) := nx_t c_60
        have hP : gP G (mW G a st kp hi sl sv pd td rc (nI N) (nI (pp + 3)) (nI (rk (chr pd N pp - 65))) 0) H := by rw [← ev_4]; exact hP
        have hD : va_D (aA (mW G a st kp hi sl sv pd td rc (nI N) (nI pp) (nI k) bn)) (mW G a st kp hi sl sv pd td rc (nI N) (nI (pp + 3)) (nI (rk (chr pd N pp - 65))) 0) := by rw [← ev_4]; exact hD
        refine lv_iconst (v := 1) hx hb dX5_readsCircuit_70 (by decide) ?_
        refine lv_goto (tgt := 75) hx hb dX5_readsCircuit_71 (by decide) ?_
        exact ex_MUz (b := (rc1 (chr pd N) (pp, k, td, 0)).1) (w2 := (mW G a st kp hi sl sv pd td rc (nI N) (nI (pp + 3)) (nI (rk (chr pd N pp - 65))) 0)) hx hb hr hlocks hP hS dX5_readsCircuit_75 (by rw [rc1_2 (s := (pp, k, td, 0)) c_22 (of_decide_eq_true c_51) (of_decide_eq_true c_60)]; rfl) rfl (fun h => by rw [rc1_2 (s := (pp, k, td, 0)) c_22 (of_decide_eq_true c_51) (of_decide_eq_true c_60)]; exact h)
      · skip
        have c_60 := b2i_0 c_60
        have ev_5 : nI (nx pd N (pp + 2) 48) = nI (pp + 2) := nx_f c_60
        have hP : gP G (mW G a st kp hi sl sv pd td rc (nI N) (nI (pp + 2)) (nI (rk (chr pd N pp - 65))) 0) H := by rw [← ev_5]; exact hP
        have hD : va_D (aA (mW G a st kp hi sl sv pd td rc (nI N) (nI pp) (nI k) bn)) (mW G a st kp hi sl sv pd td rc (nI N) (nI (pp + 2)) (nI (rk (chr pd N pp - 65))) 0) := by rw [← ev_5]; exact hD
        refine lv_aload_n hx hb dX5_readsCircuit_63 rfl (lv_at hl 1 rfl) ?_
        refine mu_V (As := []) (rest := []) ⟨hx, hb, hml, hown, hts⟩ (c_X5_readsBranches l G a st kp hi sl sv pd td rc (nI (rk (chr pd N pp - 65))) N (pp + 2) 0 (by assumption) (by omega) (by omega)) (cwV 0 hts gX5_readsCircuit_X5_readsBranches rfl rfl rfl (by decide +kernel) ⟨Nat.le_of_ble_eq_true rfl, Nat.le_of_ble_eq_true rfl⟩) hP hKK hD hS (va_recv hKK.1 hP (ci := 5) (q0 := 0) rfl rfl) rfl hl.1 rfl (Nat.le_of_ble_eq_true rfl) dX5_readsCircuit_64 (Nat.zero_le _) (Nat.zero_le _) (rfl) (fun H locs hP hD hS => ?_)
        refine lv_if_eq (tgt := 74) hx hb dX5_readsCircuit_67 (by decide) (fun c_67 => ?_) (fun c_67 => ?_)
        · skip
          have c_67 := b2i_0 c_67
          refine lv_iconst (v := 0) hx hb dX5_readsCircuit_74 (by decide) ?_
          exact ex_MUz (b := (rc1 (chr pd N) (pp, k, td, 0)).1) (w2 := (mW G a st kp hi sl sv pd ((rbs (chr pd N) 6 (rb1 (chr pd N) ((pp + 2), td, 0))).2.2.1) rc (nI N) (nI (rbs (chr pd N) 6 (rb1 (chr pd N) ((pp + 2), td, 0))).2.1) (nI (rk (chr pd N pp - 65))) (nI (rbs (chr pd N) 6 (rb1 (chr pd N) ((pp + 2), td, 0))).2.2.2))) hx hb hr hlocks hP hS dX5_readsCircuit_75 (by rw [rc1_3 (s := (pp, k, td, 0)) c_22 (of_decide_eq_true c_51) (of_decide_eq_false c_60)]; exact congrArg b2i c_67.symm) rfl (fun h => by rw [rc1_3 (s := (pp, k, td, 0)) c_22 (of_decide_eq_true c_51) (of_decide_eq_false c_60)]; exact h)
        · skip
          have c_67 := b2i_1 c_67
          refine lv_iconst (v := 1) hx hb dX5_readsCircuit_70 (by decide) ?_
          refine lv_goto (tgt := 75) hx hb dX5_readsCircuit_71 (by decide) ?_
          exact ex_MUz (b := (rc1 (chr pd N) (pp, k, td, 0)).1) (w2 := (mW G a st kp hi sl sv pd ((rbs (chr pd N) 6 (rb1 (chr pd N) ((pp + 2), td, 0))).2.2.1) rc (nI N) (nI (rbs (chr pd N) 6 (rb1 (chr pd N) ((pp + 2), td, 0))).2.1) (nI (rk (chr pd N pp - 65))) (nI (rbs (chr pd N) 6 (rb1 (chr pd N) ((pp + 2), td, 0))).2.2.2))) hx hb hr hlocks hP hS dX5_readsCircuit_75 (by rw [rc1_3 (s := (pp, k, td, 0)) c_22 (of_decide_eq_true c_51) (of_decide_eq_false c_60)]; exact congrArg b2i c_67.symm) rfl (fun h => by rw [rc1_3 (s := (pp, k, td, 0)) c_22 (of_decide_eq_true c_51) (of_decide_eq_false c_60)]; exact h)
  · skip
    have c_22 := b2i_0 c_22
    refine lv_iconst (v := 0) hx hb dX5_readsCircuit_25 (by decide) ?_
    exact ex_MUz (b := (rc1 (chr pd N) (pp, k, td, 0)).1) (w2 := (mW G a st kp hi sl sv pd td rc (nI N) (nI pp) (nI k) 0)) hx hb hr hlocks hP hS dX5_readsCircuit_26 (by rw [rc1_0 (s := (pp, k, td, 0)) c_22]; rfl) rfl (fun h => by rw [rc1_0 (s := (pp, k, td, 0)) c_22]; exact h)
set_option maxRecDepth 20000 in
theorem hin_X5_findFault_X5 : ∀ w ∈ u_ws RX5 TX5 12, w ∈ wsX5_findFault := by decide +kernel
theorem lk_X5_findFault_89 : Cond.fieldLink RX5 89 "WeldedRelaysModel" "at" "I" ∈ wsX5_findFault := by decide +kernel
theorem lk_X5_findFault_92 : Cond.fieldLink RX5 92 "WeldedRelaysModel" "padLength" "I" ∈ wsX5_findFault := by decide +kernel
set_option maxHeartbeats 4000000 in
set_option maxRecDepth 100000 in
/-- X5_findFault -/
theorem c_X5_findFault (l : Launch) (G : GG) (a : Nat → Nat) (st : Nat → Int32) (kp : Nat → Int32) (hi : Nat → Int32) (sl : Nat → Int32) (sv : Nat → Int32) (pd : Nat → Int32) (td : Nat → Int32) (rc : Int32) (pt : Int32) (bn : Int32) (N : Nat) (k : Nat) (hn : N ≤ 64) : Met l yX5_findFault wsX5_findFault ({ frames := 5, cells := 0, slots := 0, locals := 109 }) (pcM G [.ref (a 0)] (mW G a st kp hi sl sv pd td rc (nI N) pt (nI k) bn)) (qMU G (some (.int (ff (chr pd N) N (N + 1) (0, k, td, 0)).1)) (mW G a st kp hi sl sv pd td rc (nI N) pt (nI k) bn) (mW G a st kp hi sl sv pd ((ff (chr pd N) N (N + 1) (0, k, td, 0)).2.2.2.1) rc (nI N) (nI (ff (chr pd N) N (N + 1) (0, k, td, 0)).2.1) (nI (ff (chr pd N) N (N + 1) (0, k, td, 0)).2.2.1) (nI (ff (chr pd N) N (N + 1) (0, k, td, 0)).2.2.2.2))) 0 0 (aA (mW G a st kp hi sl sv pd td rc (nI N) pt (nI k) bn)) := by
  refine hd_MU (cc := cX5_findFault) (maxL := 1) (ret := some .int) (by decide) rfl (Nat.le_of_ble_eq_true rfl) ?_
  intro p e s m below meth c ls hx hb hr hts hown hlocks hml hP hKK hD hS hl
  have hl : lv_has ls 1 [(0, .ref (a 0))] := hl
  refine lv_aload_n hx hb dX5_findFault_0 rfl (lv_at hl 0 rfl) ?_
  refine lv_iconst (v := 0) hx hb dX5_findFault_1 (by decide) ?_
  refine va_put (D := gD G) (ci := 5) (v := .int 0) (ty := .int) (C := RX5) (T := TX5) (N := 12) hx hb hts hin_X5_findFault_X5 tyX5 tyX5_ok nmX5 hown hKK.1 hP hD hS 0 rfl rfl 8 (by decide) (hts _ lk_X5_findFault_89) (fun _ h9 => h9) rfl (by decide +kernel) rfl rfl (Nat.le_of_ble_eq_true rfl) dX5_findFault_2 (fun H locs hP hD hS => ?_)
  have hP : gP G (mW G a st kp hi sl sv pd td rc (nI N) 0 (nI k) bn) H := hP
  have hD : va_D (aA (mW G a st kp hi sl sv pd td rc (nI N) pt (nI k) bn)) (mW G a st kp hi sl sv pd td rc (nI N) 0 (nI k) bn) := hD
  have L_5 : ∀ (n_5 : Nat) (mm : Nat) (p1 : Nat) (k1 : Nat) (t1 : Nat → Int32) (bq : Int32), (p1 ≤ N) → (mm + 1 ≤ n_5) → (N + 1 ≤ mm + p1) → (ff (chr pd N) N (N + 1) (0, k, td, 0) = ff (chr pd N) N mm (p1, k1, t1, 0)) → ∀ (H : Heap) (locs : List Loc), gP G (mW G a st kp hi sl sv pd t1 rc (nI N) (nI p1) (nI k1) bq) H → va_D (aA (mW G a st kp hi sl sv pd td rc (nI N) pt (nI k) bn)) (mW G a st kp hi sl sv pd t1 rc (nI N) (nI p1) (nI k1) bq) → va_S (aA (mW G a st kp hi sl sv pd td rc (nI N) pt (nI k) bn)) s.heap H locs → ∀ (ls : Array Slot), lv_has ls 1 [(0, .ref (a 0))] → W p l e ({ frames := 5, cells := 0, slots := 0, locals := 109 }) s m (List.toArray [.ref (a 0)]) below meth c H locs 0 0 (MQ below (qMU G (some (.int (ff (chr pd N) N (N + 1) (0, k, td, 0)).1)) (mW G a st kp hi sl sv pd td rc (nI N) pt (nI k) bn) (mW G a st kp hi sl sv pd ((ff (chr pd N) N (N + 1) (0, k, td, 0)).2.2.2.1) rc (nI N) (nI (ff (chr pd N) N (N + 1) (0, k, td, 0)).2.1) (nI (ff (chr pd N) N (N + 1) (0, k, td, 0)).2.2.1) (nI (ff (chr pd N) N (N + 1) (0, k, td, 0)).2.2.2.2))) (List.toArray [.ref (a 0)]) s 0 0 (aA (mW G a st kp hi sl sv pd td rc (nI N) pt (nI k) bn))) (F0 m 5 ls []) := by
    intro n_5
    induction n_5 with
    | zero => intro mm p1 k1 t1 bq h1 h2 h3 h4; exact absurd (h2) (by omega)
    | succ n_5 ih_5 =>
      intro mm p1 k1 t1 bq h1 h2 h3 h4 H locs hP hD hS ls hl
      have hm9 : 0 < mm := by omega
      have a9 := rc1_le (pd := pd) (N := N) (s := (p1, k1, t1, 0)) h1
      refine lv_aload_n hx hb dX5_findFault_5 rfl (lv_at hl 0 rfl) ?_
      refine mu_V (As := []) (rest := []) ⟨hx, hb, hml, hown, hts⟩ (c_X5_readsCircuit l G a st kp hi sl sv pd t1 rc bq N p1 k1 (by assumption) (by omega)) (cwV 0 hts gX5_findFault_X5_readsCircuit rfl rfl rfl (by decide +kernel) ⟨Nat.le_of_ble_eq_true rfl, Nat.le_of_ble_eq_true rfl⟩) hP hKK hD hS (va_recv hKK.1 hP (ci := 5) (q0 := 0) rfl rfl) rfl hl.1 rfl (Nat.le_of_ble_eq_true rfl) dX5_findFault_6 (Nat.zero_le _) (Nat.zero_le _) (rfl) (fun H locs hP hD hS => ?_)
      refine lv_if_ne (tgt := 17) hx hb dX5_findFault_9 (by decide) (fun c_9 => ?_) (fun c_9 => ?_)
      · skip
        have c_9 := b2i_1 c_9
        have z9 := a9.1
        refine lv_aload_n hx hb dX5_findFault_17 rfl (lv_at hl 0 rfl) ?_
        refine va_get (D := gD G) (ci := 5) (v := .int (nI (rc1 (chr pd N) (p1, k1, t1, 0)).2.1)) (C := RX5) (T := TX5) (N := 12) hx hb hts hin_X5_findFault_X5 hown hKK.1 hP 0 rfl rfl 8 (by decide) (hts _ lk_X5_findFault_89) (fun _ h9 => h9) rfl dX5_findFault_18 ?_
        refine lv_aload_n hx hb dX5_findFault_21 rfl (lv_at hl 0 rfl) ?_
        refine va_get (D := gD G) (ci := 5) (v := .int (nI N)) (C := RX5) (T := TX5) (N := 12) hx hb hts hin_X5_findFault_X5 hown hKK.1 hP 0 rfl rfl 7 (by decide) (hts _ lk_X5_findFault_92) (fun _ h9 => h9) rfl dX5_findFault_22 ?_
        refine lv_icmp_ne (tgt := 31) hx hb dX5_findFault_25 (by decide) (fun c_25 => ?_) (fun c_25 => ?_)
        · skip
          have c_25 : ¬ (((rc1 (chr pd N) (p1, k1, t1, 0)).2.1) = N) := fun q => c_25 ((nI_eq (a := (rc1 (chr pd N) (p1, k1, t1, 0)).2.1) (b := N) (by omega) (by omega)).mpr q)
          refine lv_aload_n hx hb dX5_findFault_31 rfl (lv_at hl 0 rfl) ?_
          refine lv_bipush (v := 59) hx hb dX5_findFault_32 (by decide) ?_
          refine mu_V (As := [.int 59]) (rest := []) ⟨hx, hb, hml, hown, hts⟩ (c_X5_isNext l G a st kp hi sl sv pd ((rc1 (chr pd N) (p1, k1, t1, 0)).2.2.2.1) rc (nI (rc1 (chr pd N) (p1, k1, t1, 0)).2.2.1) (nI (rc1 (chr pd N) (p1, k1, t1, 0)).2.2.2.2) N ((rc1 (chr pd N) (p1, k1, t1, 0)).2.1) 59 (by assumption) (by omega)) (cwV 1 hts gX5_findFault_X5_isNext rfl rfl rfl (by decide +kernel) ⟨Nat.le_of_ble_eq_true rfl, Nat.le_of_ble_eq_true rfl⟩) hP hKK hD hS (va_recv hKK.1 hP (ci := 5) (q0 := 0) rfl rfl) rfl hl.1 rfl (Nat.le_of_ble_eq_true rfl) dX5_findFault_34 (Nat.zero_le _) (Nat.zero_le _) (rfl) (fun H locs hP hD hS => ?_)
          refine lv_if_ne (tgt := 5) hx hb dX5_findFault_37 (by decide) (fun c_37 => ?_) (fun c_37 => ?_)
          · skip
            have c_37 := b2i_1 c_37
            have p9 : (rc1 (chr pd N) (p1, k1, t1, 0)).2.1 + 1 ≤ N := chr_lt (pd := pd) (by rw [of_decide_eq_true c_37]; decide)
            have ev_1 : nI (nx pd N ((rc1 (chr pd N) (p1, k1, t1, 0)).2.1) 59) = nI ((rc1 (chr pd N) (p1, k1, t1, 0)).2.1 + 1) := nx_t c_37
            have hP : gP G (mW G a st kp hi sl sv pd ((rc1 (chr pd N) (p1, k1, t1, 0)).2.2.2.1) rc (nI N) (nI ((rc1 (chr pd N) (p1, k1, t1, 0)).2.1 + 1)) (nI (rc1 (chr pd N) (p1, k1, t1, 0)).2.2.1) (nI (rc1 (chr pd N) (p1, k1, t1, 0)).2.2.2.2)) H := by rw [← ev_1]; exact hP
            have hD : va_D (aA (mW G a st kp hi sl sv pd td rc (nI N) pt (nI k) bn)) (mW G a st kp hi sl sv pd ((rc1 (chr pd N) (p1, k1, t1, 0)).2.2.2.1) rc (nI N) (nI ((rc1 (chr pd N) (p1, k1, t1, 0)).2.1 + 1)) (nI (rc1 (chr pd N) (p1, k1, t1, 0)).2.2.1) (nI (rc1 (chr pd N) (p1, k1, t1, 0)).2.2.2.2)) := by rw [← ev_1]; exact hD
            exact ih_5 (mm - 1) ((rc1 (chr pd N) (p1, k1, t1, 0)).2.1 + 1) ((rc1 (chr pd N) (p1, k1, t1, 0)).2.2.1) ((rc1 (chr pd N) (p1, k1, t1, 0)).2.2.2.1) (nI (rc1 (chr pd N) (p1, k1, t1, 0)).2.2.2.2) (p9) (by omega) (by have q9 : p1 < (rc1 (chr pd N) (p1, k1, t1, 0)).2.1 := (a9.2.2 c_9).1; omega) (h4.trans (ff_c (s := (p1, k1, t1, 0)) hm9 c_9 c_25 (of_decide_eq_true c_37))) _ _ (hP) (hD) hS _ (lv_sub hl [0] rfl)
          · skip
            have c_37 := b2i_0 c_37
            have ev_2 : nI (nx pd N ((rc1 (chr pd N) (p1, k1, t1, 0)).2.1) 59) = nI (rc1 (chr pd N) (p1, k1, t1, 0)).2.1 := nx_f c_37
            have hP : gP G (mW G a st kp hi sl sv pd ((rc1 (chr pd N) (p1, k1, t1, 0)).2.2.2.1) rc (nI N) (nI (rc1 (chr pd N) (p1, k1, t1, 0)).2.1) (nI (rc1 (chr pd N) (p1, k1, t1, 0)).2.2.1) (nI (rc1 (chr pd N) (p1, k1, t1, 0)).2.2.2.2)) H := by rw [← ev_2]; exact hP
            have hD : va_D (aA (mW G a st kp hi sl sv pd td rc (nI N) pt (nI k) bn)) (mW G a st kp hi sl sv pd ((rc1 (chr pd N) (p1, k1, t1, 0)).2.2.2.1) rc (nI N) (nI (rc1 (chr pd N) (p1, k1, t1, 0)).2.1) (nI (rc1 (chr pd N) (p1, k1, t1, 0)).2.2.1) (nI (rc1 (chr pd N) (p1, k1, t1, 0)).2.2.2.2)) := by rw [← ev_2]; exact hD
            refine lv_aload_n hx hb dX5_findFault_40 rfl (lv_at hl 0 rfl) ?_
            refine va_get (D := gD G) (ci := 5) (v := .int (nI (rc1 (chr pd N) (p1, k1, t1, 0)).2.1)) (C := RX5) (T := TX5) (N := 12) hx hb hts hin_X5_findFault_X5 hown hKK.1 hP 0 rfl rfl 8 (by decide) (hts _ lk_X5_findFault_89) (fun _ h9 => h9) rfl dX5_findFault_41 ?_
            exact ex_MUi (w2 := (mW G a st kp hi sl sv pd ((rc1 (chr pd N) (p1, k1, t1, 0)).2.2.2.1) rc (nI N) (nI (rc1 (chr pd N) (p1, k1, t1, 0)).2.1) (nI (rc1 (chr pd N) (p1, k1, t1, 0)).2.2.1) (nI (rc1 (chr pd N) (p1, k1, t1, 0)).2.2.2.2))) hx hb hr hlocks hP hS dX5_findFault_44 (by rw [h4, ff_e (s := (p1, k1, t1, 0)) hm9 c_9 c_25 (of_decide_eq_false c_37)]) (fun h => by rw [h4, ff_e (s := (p1, k1, t1, 0)) hm9 c_9 c_25 (of_decide_eq_false c_37)]; exact h)
        · skip
          have c_25 : ((rc1 (chr pd N) (p1, k1, t1, 0)).2.1) = N := (nI_eq (a := (rc1 (chr pd N) (p1, k1, t1, 0)).2.1) (b := N) (by omega) (by omega)).mp c_25
          refine lv_bipush (v := (-6)) hx hb dX5_findFault_28 (by decide) ?_
          exact ex_MUi (w2 := (mW G a st kp hi sl sv pd ((rc1 (chr pd N) (p1, k1, t1, 0)).2.2.2.1) rc (nI N) (nI (rc1 (chr pd N) (p1, k1, t1, 0)).2.1) (nI (rc1 (chr pd N) (p1, k1, t1, 0)).2.2.1) (nI (rc1 (chr pd N) (p1, k1, t1, 0)).2.2.2.2))) hx hb hr hlocks hP hS dX5_findFault_30 (by rw [h4, ff_n (s := (p1, k1, t1, 0)) hm9 c_9 c_25]) (fun h => by rw [h4, ff_n (s := (p1, k1, t1, 0)) hm9 c_9 c_25]; exact h)
      · skip
        have c_9 := b2i_0 c_9
        have z9 := a9.1
        refine lv_aload_n hx hb dX5_findFault_12 rfl (lv_at hl 0 rfl) ?_
        refine va_get (D := gD G) (ci := 5) (v := .int (nI (rc1 (chr pd N) (p1, k1, t1, 0)).2.1)) (C := RX5) (T := TX5) (N := 12) hx hb hts hin_X5_findFault_X5 hown hKK.1 hP 0 rfl rfl 8 (by decide) (hts _ lk_X5_findFault_89) (fun _ h9 => h9) rfl dX5_findFault_13 ?_
        exact ex_MUi (w2 := (mW G a st kp hi sl sv pd ((rc1 (chr pd N) (p1, k1, t1, 0)).2.2.2.1) rc (nI N) (nI (rc1 (chr pd N) (p1, k1, t1, 0)).2.1) (nI (rc1 (chr pd N) (p1, k1, t1, 0)).2.2.1) (nI (rc1 (chr pd N) (p1, k1, t1, 0)).2.2.2.2))) hx hb hr hlocks hP hS dX5_findFault_16 (by rw [h4, ff_f (s := (p1, k1, t1, 0)) hm9 c_9]) (fun h => by rw [h4, ff_f (s := (p1, k1, t1, 0)) hm9 c_9]; exact h)
  exact L_5 (N + 2) (N + 1) 0 k td bn (Nat.zero_le _) (by omega) (by omega) (rfl) _ _ (hP) (hD) hS _ (lv_sub hl [0] rfl)
set_option maxHeartbeats 4000000 in
set_option maxRecDepth 100000 in
/-- X5_fault -/
theorem c_X5_fault (l : Launch) (G : GG) (a : Nat → Nat) (st : Nat → Int32) (kp : Nat → Int32) (hi : Nat → Int32) (sl : Nat → Int32) (sv : Nat → Int32) (pd : Nat → Int32) (td : Nat → Int32) (rc : Int32) (pt : Int32) (bn : Int32) (N : Nat) (k : Nat) (hn : N ≤ 64) : Met l yX5_fault wsX5_fault ({ frames := 6, cells := 0, slots := 0, locals := 129 }) (pcM G [.ref (a 0)] (mW G a st kp hi sl sv pd td rc (nI N) pt (nI k) bn)) (qMU G (some (.int (ff (chr pd N) N (N + 1) (0, k, td, 0)).1)) (mW G a st kp hi sl sv pd td rc (nI N) pt (nI k) bn) (mW G a st kp hi sl sv pd ((ff (chr pd N) N (N + 1) (0, k, td, 0)).2.2.2.1) rc (nI N) (nI (ff (chr pd N) N (N + 1) (0, k, td, 0)).2.1) (nI (ff (chr pd N) N (N + 1) (0, k, td, 0)).2.2.1) (nI (ff (chr pd N) N (N + 1) (0, k, td, 0)).2.2.2.2))) 0 0 (aA (mW G a st kp hi sl sv pd td rc (nI N) pt (nI k) bn)) := by
  refine hd_MU (cc := cX5_fault) (maxL := 1) (ret := some .int) (by decide) rfl (Nat.le_of_ble_eq_true rfl) ?_
  intro p e s m below meth c ls hx hb hr hts hown hlocks hml hP hKK hD hS hl
  have hl : lv_has ls 1 [(0, .ref (a 0))] := hl
  refine lv_aload_n hx hb dX5_fault_0 rfl (lv_at hl 0 rfl) ?_
  refine mu_V (As := []) (rest := []) ⟨hx, hb, hml, hown, hts⟩ (c_X5_findFault l G a st kp hi sl sv pd td rc pt bn N k (by assumption)) (cwV 0 hts gX5_fault_X5_findFault rfl rfl rfl (by decide +kernel) ⟨Nat.le_of_ble_eq_true rfl, Nat.le_of_ble_eq_true rfl⟩) hP hKK hD hS (va_recv hKK.1 hP (ci := 5) (q0 := 0) rfl rfl) rfl hl.1 rfl (Nat.le_of_ble_eq_true rfl) dX5_fault_1 (Nat.zero_le _) (Nat.zero_le _) (rfl) (fun H locs hP hD hS => ?_)
  exact ex_MUi (w2 := (mW G a st kp hi sl sv pd ((ff (chr pd N) N (N + 1) (0, k, td, 0)).2.2.2.1) rc (nI N) (nI (ff (chr pd N) N (N + 1) (0, k, td, 0)).2.1) (nI (ff (chr pd N) N (N + 1) (0, k, td, 0)).2.2.1) (nI (ff (chr pd N) N (N + 1) (0, k, td, 0)).2.2.2.2))) hx hb hr hlocks hP hS dX5_fault_4 (rfl) (fun h => h)
