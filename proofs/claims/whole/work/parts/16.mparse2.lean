set_option maxRecDepth 20000 in
theorem hin_X5_readsBranch_X5 : ∀ w ∈ u_ws RX5 TX5 12, w ∈ wsX5_readsBranch := by decide +kernel
theorem lk_X5_readsBranch_105 : Cond.fieldLink RX5 105 "WeldedRelaysModel" "branchesTold" "I" ∈ wsX5_readsBranch := by decide +kernel
theorem lk_X5_readsBranch_28 : Cond.fieldLink RX5 28 "WeldedRelaysModel" "told" "[I" ∈ wsX5_readsBranch := by decide +kernel
theorem lk_X5_readsBranch_89 : Cond.fieldLink RX5 89 "WeldedRelaysModel" "at" "I" ∈ wsX5_readsBranch := by decide +kernel
set_option maxHeartbeats 4000000 in
set_option maxRecDepth 100000 in
/-- X5_readsBranch -/
theorem c_X5_readsBranch (l : Launch) (G : GG) (a : Nat → Nat) (st : Nat → Int32) (kp : Nat → Int32) (hi : Nat → Int32) (sl : Nat → Int32) (sv : Nat → Int32) (pd : Nat → Int32) (td : Nat → Int32) (rc : Int32) (rt : Int32) (N : Nat) (pp : Nat) (b : Nat) (hn : N ≤ 64) (hp : pp ≤ N) (hb : b < 6) : Met l yX5_readsBranch wsX5_readsBranch ({ frames := 2, cells := 0, slots := 0, locals := 43 }) (pcM G [.ref (a 0)] (mW G a st kp hi sl sv pd td rc (nI N) (nI pp) rt (nI b))) (qMU G (some (.int (b2i (rb1 (chr pd N) (pp, td, b)).1))) (mW G a st kp hi sl sv pd td rc (nI N) (nI pp) rt (nI b)) (mW G a st kp hi sl sv pd ((rb1 (chr pd N) (pp, td, b)).2.2.1) rc (nI N) (nI (rb1 (chr pd N) (pp, td, b)).2.1) rt (nI (rb1 (chr pd N) (pp, td, b)).2.2.2))) 0 0 (aA (mW G a st kp hi sl sv pd td rc (nI N) (nI pp) rt (nI b))) := by
  refine hd_MU (cc := cX5_readsBranch) (maxL := 5) (ret := some .boolean) (by decide) rfl (Nat.le_of_ble_eq_true rfl) ?_
  intro p e s m below meth c ls hx hb hr hts hown hlocks hml hP hKK hD hS hl
  have hl : lv_has ls 5 [(0, .ref (a 0))] := hl
  refine lv_iconst (v := 3) hx hb dX5_readsBranch_0 (by decide) ?_
  refine lv_aload_n hx hb dX5_readsBranch_1 rfl (lv_at hl 0 rfl) ?_
  refine va_get (D := gD G) (ci := 5) (v := .int (nI b)) (C := RX5) (T := TX5) (N := 12) hx hb hts hin_X5_readsBranch_X5 hown hKK.1 hP 0 rfl rfl 11 (by decide) (hts _ lk_X5_readsBranch_105) (fun _ h9 => h9) rfl dX5_readsBranch_2 ?_
  refine lv_imul hx hb dX5_readsBranch_5 ?_
  refine lv_asi (y := nI (3 * b)) (pk3 b) ?_
  refine lv_istore_n (lv' := [(1, .int (nI (3 * b))), (0, .ref (a 0))]) hx hb dX5_readsBranch_6 rfl hl (by decide) rfl (fun ls hl => ?_)
  refine lv_aload_n hx hb dX5_readsBranch_7 rfl (lv_at hl 1 rfl) ?_
  refine va_get (D := gD G) (ci := 5) (v := .ref (a 7)) (C := RX5) (T := TX5) (N := 12) hx hb hts hin_X5_readsBranch_X5 hown hKK.1 hP 0 rfl rfl 10 (by decide) (hts _ lk_X5_readsBranch_28) (fun _ h9 => h9) rfl dX5_readsBranch_8 ?_
  refine lv_iload_n hx hb dX5_readsBranch_11 rfl (lv_at hl 0 rfl) ?_
  refine lv_iconst (v := 0) hx hb dX5_readsBranch_12 (by decide) ?_
  refine va_iastN (j := 3 * b) (x := 0) hx hb hKK.1 hP hD hS 7 0 rfl rfl (rfl) (by omega) (by decide) dX5_readsBranch_13 (fun H locs hP hD hS => ?_)
  have hP : gP G (mW G a st kp hi sl sv pd (upd td (3 * b) 0) rc (nI N) (nI pp) rt (nI b)) H := hP
  have hD : va_D (aA (mW G a st kp hi sl sv pd td rc (nI N) (nI pp) rt (nI b))) (mW G a st kp hi sl sv pd (upd td (3 * b) 0) rc (nI N) (nI pp) rt (nI b)) := hD
  refine lv_aload_n hx hb dX5_readsBranch_14 rfl (lv_at hl 1 rfl) ?_
  refine va_get (D := gD G) (ci := 5) (v := .ref (a 7)) (C := RX5) (T := TX5) (N := 12) hx hb hts hin_X5_readsBranch_X5 hown hKK.1 hP 0 rfl rfl 10 (by decide) (hts _ lk_X5_readsBranch_28) (fun _ h9 => h9) rfl dX5_readsBranch_15 ?_
  refine lv_iload_n hx hb dX5_readsBranch_18 rfl (lv_at hl 0 rfl) ?_
  refine lv_iconst (v := 1) hx hb dX5_readsBranch_19 (by decide) ?_
  refine lv_iadd hx hb dX5_readsBranch_20 ?_
  refine lv_iconst (v := 0) hx hb dX5_readsBranch_21 (by decide) ?_
  refine va_iastN (j := 3 * b + 1) (x := 0) hx hb hKK.1 hP hD hS 7 0 rfl rfl (nI_1 _) (by omega) (by decide) dX5_readsBranch_22 (fun H locs hP hD hS => ?_)
  have hP : gP G (mW G a st kp hi sl sv pd (upd (upd td (3 * b) 0) (3 * b + 1) 0) rc (nI N) (nI pp) rt (nI b)) H := hP
  have hD : va_D (aA (mW G a st kp hi sl sv pd td rc (nI N) (nI pp) rt (nI b))) (mW G a st kp hi sl sv pd (upd (upd td (3 * b) 0) (3 * b + 1) 0) rc (nI N) (nI pp) rt (nI b)) := hD
  refine lv_aload_n hx hb dX5_readsBranch_23 rfl (lv_at hl 1 rfl) ?_
  refine va_get (D := gD G) (ci := 5) (v := .ref (a 7)) (C := RX5) (T := TX5) (N := 12) hx hb hts hin_X5_readsBranch_X5 hown hKK.1 hP 0 rfl rfl 10 (by decide) (hts _ lk_X5_readsBranch_28) (fun _ h9 => h9) rfl dX5_readsBranch_24 ?_
  refine lv_iload_n hx hb dX5_readsBranch_27 rfl (lv_at hl 0 rfl) ?_
  refine lv_iconst (v := 2) hx hb dX5_readsBranch_28 (by decide) ?_
  refine lv_iadd hx hb dX5_readsBranch_29 ?_
  refine lv_iconst (v := 0) hx hb dX5_readsBranch_30 (by decide) ?_
  refine va_iastN (j := 3 * b + 2) (x := 0) hx hb hKK.1 hP hD hS 7 0 rfl rfl (nI_add _ 2) (by omega) (by decide) dX5_readsBranch_31 (fun H locs hP hD hS => ?_)
  have hP : gP G (mW G a st kp hi sl sv pd (upd (upd (upd td (3 * b) 0) (3 * b + 1) 0) (3 * b + 2) 0) rc (nI N) (nI pp) rt (nI b)) H := hP
  have hD : va_D (aA (mW G a st kp hi sl sv pd td rc (nI N) (nI pp) rt (nI b))) (mW G a st kp hi sl sv pd (upd (upd (upd td (3 * b) 0) (3 * b + 1) 0) (3 * b + 2) 0) rc (nI N) (nI pp) rt (nI b)) := hD
  refine lv_iconst (v := 1) hx hb dX5_readsBranch_32 (by decide) ?_
  refine lv_istore_n (lv' := [(2, .int 1), (1, .int (nI (3 * b))), (0, .ref (a 0))]) hx hb dX5_readsBranch_33 rfl hl (by decide) rfl (fun ls hl => ?_)
  have hl : lv_has ls 5 [(2, .int (b2i true)), (1, .int (nI (3 * b))), (0, .ref (a 0))] := by have e_l1 : 1 = (b2i true) := (rfl); rw [← e_l1]; exact hl
  have L_34 : ∀ (n_34 : Nat) (z : Bool) (mm : Nat) (p1 : Nat) (t1 : Nat → Int32), (p1 ≤ N) → (mm + 1 ≤ n_34) → (z = true → t1 (3 * b + 2) = nI (8 - mm) ∧ 0 < mm ∧ mm ≤ 8) → (rbF (chr pd N) (3 * b) 8 pp (upd (upd (upd td (3 * b) 0) (3 * b + 1) 0) (3 * b + 2) 0) = cond z (rbF (chr pd N) (3 * b) mm p1 t1) (true, p1, t1)) → ∀ (H : Heap) (locs : List Loc), gP G (mW G a st kp hi sl sv pd t1 rc (nI N) (nI p1) rt (nI b)) H → va_D (aA (mW G a st kp hi sl sv pd td rc (nI N) (nI pp) rt (nI b))) (mW G a st kp hi sl sv pd t1 rc (nI N) (nI p1) rt (nI b)) → va_S (aA (mW G a st kp hi sl sv pd td rc (nI N) (nI pp) rt (nI b))) s.heap H locs → ∀ (ls : Array Slot), lv_has ls 5 [(2, .int (b2i z)), (1, .int (nI (3 * b))), (0, .ref (a 0))] → W p l e ({ frames := 2, cells := 0, slots := 0, locals := 43 }) s m (List.toArray [.ref (a 0)]) below meth c H locs 0 0 (MQ below (qMU G (some (.int (b2i (rb1 (chr pd N) (pp, td, b)).1))) (mW G a st kp hi sl sv pd td rc (nI N) (nI pp) rt (nI b)) (mW G a st kp hi sl sv pd ((rb1 (chr pd N) (pp, td, b)).2.2.1) rc (nI N) (nI (rb1 (chr pd N) (pp, td, b)).2.1) rt (nI (rb1 (chr pd N) (pp, td, b)).2.2.2))) (List.toArray [.ref (a 0)]) s 0 0 (aA (mW G a st kp hi sl sv pd td rc (nI N) (nI pp) rt (nI b)))) (F0 m 34 ls []) := by
    intro n_34
    induction n_34 with
    | zero => intro z mm p1 t1 h1 h2 h3 h4; exact absurd (h2) (by omega)
    | succ n_34 ih_34 =>
      intro z mm p1 t1 h1 h2 h3 h4 H locs hP hD hS ls hl
      refine lv_iload_n hx hb dX5_readsBranch_34 rfl (lv_at hl 0 rfl) ?_
      refine lv_if_eq (tgt := 159) hx hb dX5_readsBranch_35 (by decide) (fun c_35 => ?_) (fun c_35 => ?_)
      · skip
        have c_35 := b2i_0 c_35
        have h5 : rbF (chr pd N) (3 * b) 8 pp (upd (upd (upd td (3 * b) 0) (3 * b + 1) 0) (3 * b + 2) 0) = (true, p1, t1) := by rw [h4, c_35]; rfl
        refine lv_aload_n hx hb dX5_readsBranch_159 rfl (lv_at hl 2 rfl) ?_
        refine lv_dup hx hb dX5_readsBranch_160 rfl ?_
        refine va_get (D := gD G) (ci := 5) (v := .int (nI b)) (C := RX5) (T := TX5) (N := 12) hx hb hts hin_X5_readsBranch_X5 hown hKK.1 hP 0 rfl rfl 11 (by decide) (hts _ lk_X5_readsBranch_105) (fun _ h9 => h9) rfl dX5_readsBranch_161 ?_
        refine lv_iconst (v := 1) hx hb dX5_readsBranch_164 (by decide) ?_
        refine lv_iadd hx hb dX5_readsBranch_165 ?_
        refine va_put (D := gD G) (ci := 5) (v := .int ((nI b) + 1)) (ty := .int) (C := RX5) (T := TX5) (N := 12) hx hb hts hin_X5_readsBranch_X5 tyX5 tyX5_ok nmX5 hown hKK.1 hP hD hS 0 rfl rfl 11 (by decide) (hts _ lk_X5_readsBranch_105) (fun _ h9 => h9) rfl (by decide +kernel) rfl rfl (Nat.le_of_ble_eq_true rfl) dX5_readsBranch_166 (fun H locs hP hD hS => ?_)
        have hP : gP G (mW G a st kp hi sl sv pd t1 rc (nI N) (nI p1) rt ((nI b) + 1)) H := hP
        have hD : va_D (aA (mW G a st kp hi sl sv pd td rc (nI N) (nI pp) rt (nI b))) (mW G a st kp hi sl sv pd t1 rc (nI N) (nI p1) rt ((nI b) + 1)) := hD
        refine lv_iconst (v := 1) hx hb dX5_readsBranch_169 (by decide) ?_
        exact ex_MUz (b := (rb1 (chr pd N) (pp, td, b)).1) (w2 := (mW G a st kp hi sl sv pd t1 rc (nI N) (nI p1) rt ((nI b) + 1))) hx hb hr hlocks hP hS dX5_readsBranch_170 (by rw [show rb1 (chr pd N) (pp, td, b) = (true, p1, t1, b + 1) by simp only [rb1, h5, reduceIte]]; rfl) rfl (fun h => by rw [show rb1 (chr pd N) (pp, td, b) = (true, p1, t1, b + 1) by simp only [rb1, h5, reduceIte]]; rw [nI_1] at h; exact h)
      · skip
        have c_35 := b2i_1 c_35
        obtain ⟨hc1, hm1, hm2⟩ := h3 c_35
        have h5 : rbF (chr pd N) (3 * b) 8 pp (upd (upd (upd td (3 * b) 0) (3 * b + 1) 0) (3 * b + 2) 0) = rbF (chr pd N) (3 * b) mm p1 t1 := by rw [h4, c_35]; rfl
        refine lv_aload_n hx hb dX5_readsBranch_38 rfl (lv_at hl 2 rfl) ?_
        refine lv_bipush (v := 33) hx hb dX5_readsBranch_39 (by decide) ?_
        refine mu_V (As := [.int 33]) (rest := []) ⟨hx, hb, hml, hown, hts⟩ (c_X5_isNext l G a st kp hi sl sv pd t1 rc rt (nI b) N p1 33 (by assumption) (by omega)) (cwV 1 hts gX5_readsBranch_X5_isNext rfl rfl rfl (by decide +kernel) ⟨Nat.le_of_ble_eq_true rfl, Nat.le_of_ble_eq_true rfl⟩) hP hKK hD hS (va_recv hKK.1 hP (ci := 5) (q0 := 0) rfl rfl) rfl hl.1 rfl (Nat.le_of_ble_eq_true rfl) dX5_readsBranch_41 (Nat.zero_le _) (Nat.zero_le _) (rfl) (fun H locs hP hD hS => ?_)
        have hq1 : nx pd N p1 33 ≤ N := nx_le h1 (by decide)
        refine lv_istore_n (lv' := [(3, .int (b2i (decide (chr pd N p1 = 33)))), (2, .int (b2i z)), (1, .int (nI (3 * b))), (0, .ref (a 0))]) hx hb dX5_readsBranch_44 rfl hl (by decide) rfl (fun ls hl => ?_)
        refine lv_aload_n hx hb dX5_readsBranch_45 rfl (lv_at hl 3 rfl) ?_
        refine lv_aload_n hx hb dX5_readsBranch_46 rfl (lv_at hl 3 rfl) ?_
        refine va_get (D := gD G) (ci := 5) (v := .int (nI (nx pd N p1 33))) (C := RX5) (T := TX5) (N := 12) hx hb hts hin_X5_readsBranch_X5 hown hKK.1 hP 0 rfl rfl 8 (by decide) (hts _ lk_X5_readsBranch_89) (fun _ h9 => h9) rfl dX5_readsBranch_47 ?_
        refine ro_V (As := [.int (nI (nx pd N p1 33))]) (rest := []) ⟨hx, hb, hml, hown, hts⟩ (c_X5_character l G a st kp hi sl sv pd t1 rc (nI (nx pd N p1 33)) rt (nI b) N (nx pd N p1 33) (by assumption) (by omega)) (cwV 1 hts gX5_readsBranch_X5_character rfl rfl rfl (by decide +kernel) ⟨Nat.le_of_ble_eq_true rfl, Nat.le_of_ble_eq_true rfl⟩) hP hKK (va_recv hKK.1 hP (ci := 5) (q0 := 0) rfl rfl) rfl hl.1 rfl (Nat.le_of_ble_eq_true rfl) dX5_readsBranch_50 (Nat.zero_le _) (Nat.zero_le _) ?_
        refine ro_S (As := [.int (chr pd N (nx pd N p1 33))]) (rest := []) ⟨hx, hb, hml, hown, hts⟩ (c_X5_contactOf l G (chr pd N (nx pd N p1 33))) (va_cwS 1 hts gX5_readsBranch_X5_contactOf rfl rfl rfl (by decide +kernel) ⟨Nat.le_of_ble_eq_true rfl, Nat.le_of_ble_eq_true rfl⟩) (show gP G [] _ from fun k q h => by simp at h) hKK rfl hl.1 rfl (Nat.le_of_ble_eq_true rfl) dX5_readsBranch_53 (Nat.zero_le _) (Nat.zero_le _) ?_
        refine lv_istore (lv' := [(4, .int (ctc (chr pd N (nx pd N p1 33)))), (3, .int (b2i (decide (chr pd N p1 = 33)))), (2, .int (b2i z)), (1, .int (nI (3 * b))), (0, .ref (a 0))]) hx hb dX5_readsBranch_56 hl (by decide) rfl (fun ls hl => ?_)
        refine lv_iload hx hb dX5_readsBranch_58 (lv_at hl 0 rfl) ?_
        refine lv_if_ge (tgt := 65) hx hb dX5_readsBranch_60 (by decide) (fun c_60 => ?_) (fun c_60 => ?_)
        · skip
          have hq2 : nx pd N p1 33 < N := ctc_lt (Int32.not_lt.mpr c_60)
          refine lv_aload_n hx hb dX5_readsBranch_65 rfl (lv_at hl 4 rfl) ?_
          refine lv_dup hx hb dX5_readsBranch_66 rfl ?_
          refine va_get (D := gD G) (ci := 5) (v := .int (nI (nx pd N p1 33))) (C := RX5) (T := TX5) (N := 12) hx hb hts hin_X5_readsBranch_X5 hown hKK.1 hP 0 rfl rfl 8 (by decide) (hts _ lk_X5_readsBranch_89) (fun _ h9 => h9) rfl dX5_readsBranch_67 ?_
          refine lv_iconst (v := 1) hx hb dX5_readsBranch_70 (by decide) ?_
          refine lv_iadd hx hb dX5_readsBranch_71 ?_
          refine va_put (D := gD G) (ci := 5) (v := .int ((nI (nx pd N p1 33)) + 1)) (ty := .int) (C := RX5) (T := TX5) (N := 12) hx hb hts hin_X5_readsBranch_X5 tyX5 tyX5_ok nmX5 hown hKK.1 hP hD hS 0 rfl rfl 8 (by decide) (hts _ lk_X5_readsBranch_89) (fun _ h9 => h9) rfl (by decide +kernel) rfl rfl (Nat.le_of_ble_eq_true rfl) dX5_readsBranch_72 (fun H locs hP hD hS => ?_)
          have hP : gP G (mW G a st kp hi sl sv pd t1 rc (nI N) ((nI (nx pd N p1 33)) + 1) rt (nI b)) H := hP
          have hD : va_D (aA (mW G a st kp hi sl sv pd td rc (nI N) (nI pp) rt (nI b))) (mW G a st kp hi sl sv pd t1 rc (nI N) ((nI (nx pd N p1 33)) + 1) rt (nI b)) := hD
          have ev_2 : (nI (nx pd N p1 33)) + 1 = nI (nx pd N p1 33 + 1) := nI_1 _
          have hP : gP G (mW G a st kp hi sl sv pd t1 rc (nI N) (nI (nx pd N p1 33 + 1)) rt (nI b)) H := by rw [← ev_2]; exact hP
          have hD : va_D (aA (mW G a st kp hi sl sv pd td rc (nI N) (nI pp) rt (nI b))) (mW G a st kp hi sl sv pd t1 rc (nI N) (nI (nx pd N p1 33 + 1)) rt (nI b)) := by rw [← ev_2]; exact hD
          refine lv_aload_n hx hb dX5_readsBranch_75 rfl (lv_at hl 4 rfl) ?_
          refine va_get (D := gD G) (ci := 5) (v := .ref (a 7)) (C := RX5) (T := TX5) (N := 12) hx hb hts hin_X5_readsBranch_X5 hown hKK.1 hP 0 rfl rfl 10 (by decide) (hts _ lk_X5_readsBranch_28) (fun _ h9 => h9) rfl dX5_readsBranch_76 ?_
          refine lv_iload_n hx hb dX5_readsBranch_79 rfl (lv_at hl 3 rfl) ?_
          refine lv_iload_n hx hb dX5_readsBranch_80 rfl (lv_at hl 1 rfl) ?_
          refine lv_if_eq (tgt := 88) hx hb dX5_readsBranch_81 (by decide) (fun c_81 => ?_) (fun c_81 => ?_)
          · skip
            have c_81 := b2i_0 c_81
            have c_81 := of_decide_eq_false c_81
            refine lv_iconst (v := 0) hx hb dX5_readsBranch_88 (by decide) ?_
            refine lv_iadd hx hb dX5_readsBranch_89 ?_
            refine lv_dup2_11 hx hb dX5_readsBranch_90 rfl rfl ?_
            refine va_ialdN (j := 3 * b + 0) (v := t1 (3 * b + 0)) hx hb hKK.1 hP 7 0 rfl rfl (nI_add _ 0) (by omega) (by decide) (rfl) dX5_readsBranch_91 ?_
            refine lv_iconst (v := 1) hx hb dX5_readsBranch_92 (by decide) ?_
            refine lv_iload hx hb dX5_readsBranch_93 (lv_at hl 0 rfl) ?_
            refine lv_ishl hx hb dX5_readsBranch_95 ?_
            refine lv_asi (y := shl 1 (ctc (chr pd N (nx pd N p1 33)))) rfl ?_
            refine lv_ior hx hb dX5_readsBranch_96 ?_
            refine va_iastN (j := 3 * b + 0) (x := ((t1 (3 * b + 0)) ||| (shl 1 (ctc (chr pd N (nx pd N p1 33)))))) hx hb hKK.1 hP hD hS 7 0 rfl rfl (nI_add _ 0) (by omega) (by decide) dX5_readsBranch_97 (fun H locs hP hD hS => ?_)
            have hP : gP G (mW G a st kp hi sl sv pd (upd t1 (3 * b + 0) ((t1 (3 * b + 0)) ||| (shl 1 (ctc (chr pd N (nx pd N p1 33)))))) rc (nI N) (nI (nx pd N p1 33 + 1)) rt (nI b)) H := hP
            have hD : va_D (aA (mW G a st kp hi sl sv pd td rc (nI N) (nI pp) rt (nI b))) (mW G a st kp hi sl sv pd (upd t1 (3 * b + 0) ((t1 (3 * b + 0)) ||| (shl 1 (ctc (chr pd N (nx pd N p1 33)))))) rc (nI N) (nI (nx pd N p1 33 + 1)) rt (nI b)) := hD
            refine lv_aload_n hx hb dX5_readsBranch_98 rfl (lv_at hl 4 rfl) ?_
            refine va_get (D := gD G) (ci := 5) (v := .ref (a 7)) (C := RX5) (T := TX5) (N := 12) hx hb hts hin_X5_readsBranch_X5 hown hKK.1 hP 0 rfl rfl 10 (by decide) (hts _ lk_X5_readsBranch_28) (fun _ h9 => h9) rfl dX5_readsBranch_99 ?_
            refine lv_iload_n hx hb dX5_readsBranch_102 rfl (lv_at hl 3 rfl) ?_
            refine lv_iconst (v := 2) hx hb dX5_readsBranch_103 (by decide) ?_
            refine lv_iadd hx hb dX5_readsBranch_104 ?_
            refine lv_dup2_11 hx hb dX5_readsBranch_105 rfl rfl ?_
            refine va_ialdN (j := 3 * b + 2) (v := (upd t1 (3 * b + 0) ((t1 (3 * b + 0)) ||| (shl 1 (ctc (chr pd N (nx pd N p1 33)))))) (3 * b + 2)) hx hb hKK.1 hP 7 0 rfl rfl (nI_add _ 2) (by omega) (by decide) (rfl) dX5_readsBranch_106 ?_
            refine lv_iconst (v := 1) hx hb dX5_readsBranch_107 (by decide) ?_
            refine lv_iadd hx hb dX5_readsBranch_108 ?_
            refine va_iastN (j := 3 * b + 2) (x := (((upd t1 (3 * b + 0) ((t1 (3 * b + 0)) ||| (shl 1 (ctc (chr pd N (nx pd N p1 33)))))) (3 * b + 2)) + 1)) hx hb hKK.1 hP hD hS 7 0 rfl rfl (nI_add _ 2) (by omega) (by decide) dX5_readsBranch_109 (fun H locs hP hD hS => ?_)
            have hP : gP G (mW G a st kp hi sl sv pd (upd (upd t1 (3 * b + 0) ((t1 (3 * b + 0)) ||| (shl 1 (ctc (chr pd N (nx pd N p1 33)))))) (3 * b + 2) (((upd t1 (3 * b + 0) ((t1 (3 * b + 0)) ||| (shl 1 (ctc (chr pd N (nx pd N p1 33)))))) (3 * b + 2)) + 1)) rc (nI N) (nI (nx pd N p1 33 + 1)) rt (nI b)) H := hP
            have hD : va_D (aA (mW G a st kp hi sl sv pd td rc (nI N) (nI pp) rt (nI b))) (mW G a st kp hi sl sv pd (upd (upd t1 (3 * b + 0) ((t1 (3 * b + 0)) ||| (shl 1 (ctc (chr pd N (nx pd N p1 33)))))) (3 * b + 2) (((upd t1 (3 * b + 0) ((t1 (3 * b + 0)) ||| (shl 1 (ctc (chr pd N (nx pd N p1 33)))))) (3 * b + 2)) + 1)) rc (nI N) (nI (nx pd N p1 33 + 1)) rt (nI b)) := hD
            refine lv_aload_n hx hb dX5_readsBranch_110 rfl (lv_at hl 4 rfl) ?_
            refine va_get (D := gD G) (ci := 5) (v := .ref (a 7)) (C := RX5) (T := TX5) (N := 12) hx hb hts hin_X5_readsBranch_X5 hown hKK.1 hP 0 rfl rfl 10 (by decide) (hts _ lk_X5_readsBranch_28) (fun _ h9 => h9) rfl dX5_readsBranch_111 ?_
            refine lv_iload_n hx hb dX5_readsBranch_114 rfl (lv_at hl 3 rfl) ?_
            refine lv_iconst (v := 2) hx hb dX5_readsBranch_115 (by decide) ?_
            refine lv_iadd hx hb dX5_readsBranch_116 ?_
            refine va_ialdN (j := 3 * b + 2) (v := (upd (upd t1 (3 * b + 0) ((t1 (3 * b + 0)) ||| (shl 1 (ctc (chr pd N (nx pd N p1 33)))))) (3 * b + 2) (((upd t1 (3 * b + 0) ((t1 (3 * b + 0)) ||| (shl 1 (ctc (chr pd N (nx pd N p1 33)))))) (3 * b + 2)) + 1)) (3 * b + 2)) hx hb hKK.1 hP 7 0 rfl rfl (nI_add _ 2) (by omega) (by decide) (rfl) dX5_readsBranch_117 ?_
            refine lv_bipush (v := 8) hx hb dX5_readsBranch_118 (by decide) ?_
            refine lv_icmp_ge (tgt := 154) hx hb dX5_readsBranch_120 (by decide) (fun c_120 => ?_) (fun c_120 => ?_)
            · skip
              refine lv_iconst (v := 0) hx hb dX5_readsBranch_154 (by decide) ?_
              refine lv_istore_n (lv' := [(2, .int 0), (4, .int (ctc (chr pd N (nx pd N p1 33)))), (3, .int (b2i (decide (chr pd N p1 = 33)))), (1, .int (nI (3 * b))), (0, .ref (a 0))]) hx hb dX5_readsBranch_155 rfl hl (by decide) rfl (fun ls hl => ?_)
              refine lv_goto (tgt := 34) hx hb dX5_readsBranch_156 (by decide) ?_
              have eT := tdup (b := 3 * b) (I := 3 * b + 0) (T := upd (upd t1 (3 * b + 0) ((t1 (3 * b + 0)) ||| (shl 1 (ctc (chr pd N (nx pd N p1 33)))))) (3 * b + 2) (((upd t1 (3 * b + 0) ((t1 (3 * b + 0)) ||| (shl 1 (ctc (chr pd N (nx pd N p1 33)))))) (3 * b + 2)) + 1)) (by omega) hc1 hm1 hm2 rfl
              have h7 := rbF_e (I := 3 * b + 0) (T := upd (upd t1 (3 * b + 0) ((t1 (3 * b + 0)) ||| (shl 1 (ctc (chr pd N (nx pd N p1 33)))))) (3 * b + 2) (((upd t1 (3 * b + 0) ((t1 (3 * b + 0)) ||| (shl 1 (ctc (chr pd N (nx pd N p1 33)))))) (3 * b + 2)) + 1)) hm1 (rfl : nx pd N p1 33 = _) (by rw [if_neg c_81]) (Int32.not_lt.mpr c_60) rfl (Or.inl c_120)
              exact ih_34 false (mm - 1) (nx pd N p1 33 + 1) (upd (upd t1 (3 * b + 0) ((t1 (3 * b + 0)) ||| (shl 1 (ctc (chr pd N (nx pd N p1 33)))))) (3 * b + 2) (((upd t1 (3 * b + 0) ((t1 (3 * b + 0)) ||| (shl 1 (ctc (chr pd N (nx pd N p1 33)))))) (3 * b + 2)) + 1)) (by omega) (by omega) (fun q => Bool.noConfusion q) (h5.trans h7) _ _ (hP) (hD) hS _ (lv_sub hl [0, 3, 4] rfl)
            · skip
              refine lv_aload_n hx hb dX5_readsBranch_123 rfl (lv_at hl 4 rfl) ?_
              refine lv_aload_n hx hb dX5_readsBranch_124 rfl (lv_at hl 4 rfl) ?_
              refine va_get (D := gD G) (ci := 5) (v := .int (nI (nx pd N p1 33 + 1))) (C := RX5) (T := TX5) (N := 12) hx hb hts hin_X5_readsBranch_X5 hown hKK.1 hP 0 rfl rfl 8 (by decide) (hts _ lk_X5_readsBranch_89) (fun _ h9 => h9) rfl dX5_readsBranch_125 ?_
              refine ro_V (As := [.int (nI (nx pd N p1 33 + 1))]) (rest := []) ⟨hx, hb, hml, hown, hts⟩ (c_X5_character l G a st kp hi sl sv pd (upd (upd t1 (3 * b + 0) ((t1 (3 * b + 0)) ||| (shl 1 (ctc (chr pd N (nx pd N p1 33)))))) (3 * b + 2) (((upd t1 (3 * b + 0) ((t1 (3 * b + 0)) ||| (shl 1 (ctc (chr pd N (nx pd N p1 33)))))) (3 * b + 2)) + 1)) rc (nI (nx pd N p1 33 + 1)) rt (nI b) N (nx pd N p1 33 + 1) (by assumption) (by omega)) (cwV 1 hts gX5_readsBranch_X5_character rfl rfl rfl (by decide +kernel) ⟨Nat.le_of_ble_eq_true rfl, Nat.le_of_ble_eq_true rfl⟩) hP hKK (va_recv hKK.1 hP (ci := 5) (q0 := 0) rfl rfl) rfl hl.1 rfl (Nat.le_of_ble_eq_true rfl) dX5_readsBranch_128 (Nat.zero_le _) (Nat.zero_le _) ?_
              refine lv_bipush (v := 33) hx hb dX5_readsBranch_131 (by decide) ?_
              refine lv_icmp_eq (tgt := 150) hx hb dX5_readsBranch_133 (by decide) (fun c_133 => ?_) (fun c_133 => ?_)
              · skip
                refine lv_iconst (v := 1) hx hb dX5_readsBranch_150 (by decide) ?_
                refine lv_goto (tgt := 155) hx hb dX5_readsBranch_151 (by decide) ?_
                refine lv_istore_n (lv' := [(2, .int 1), (4, .int (ctc (chr pd N (nx pd N p1 33)))), (3, .int (b2i (decide (chr pd N p1 = 33)))), (1, .int (nI (3 * b))), (0, .ref (a 0))]) hx hb dX5_readsBranch_155 rfl hl (by decide) rfl (fun ls hl => ?_)
                refine lv_goto (tgt := 34) hx hb dX5_readsBranch_156 (by decide) ?_
                have eT := tdup (b := 3 * b) (I := 3 * b + 0) (T := upd (upd t1 (3 * b + 0) ((t1 (3 * b + 0)) ||| (shl 1 (ctc (chr pd N (nx pd N p1 33)))))) (3 * b + 2) (((upd t1 (3 * b + 0) ((t1 (3 * b + 0)) ||| (shl 1 (ctc (chr pd N (nx pd N p1 33)))))) (3 * b + 2)) + 1)) (by omega) hc1 hm1 hm2 rfl
                have hz := td_go eT hm1 hm2 c_120
                have h7 := rbF_g (I := 3 * b + 0) (T := upd (upd t1 (3 * b + 0) ((t1 (3 * b + 0)) ||| (shl 1 (ctc (chr pd N (nx pd N p1 33)))))) (3 * b + 2) (((upd t1 (3 * b + 0) ((t1 (3 * b + 0)) ||| (shl 1 (ctc (chr pd N (nx pd N p1 33)))))) (3 * b + 2)) + 1)) hm1 (rfl : nx pd N p1 33 = _) (by rw [if_neg c_81]) (Int32.not_lt.mpr c_60) rfl ⟨Int32.not_le.mp c_120, Or.inl c_133⟩
                exact ih_34 true (mm - 1) (nx pd N p1 33 + 1) (upd (upd t1 (3 * b + 0) ((t1 (3 * b + 0)) ||| (shl 1 (ctc (chr pd N (nx pd N p1 33)))))) (3 * b + 2) (((upd t1 (3 * b + 0) ((t1 (3 * b + 0)) ||| (shl 1 (ctc (chr pd N (nx pd N p1 33)))))) (3 * b + 2)) + 1)) (by omega) (by omega) (fun _ => ⟨eT, hz, by omega⟩) (h5.trans h7) _ _ (hP) (hD) hS _ (lv_sub hl [0, 3, 4] rfl)
              · skip
                refine lv_aload_n hx hb dX5_readsBranch_136 rfl (lv_at hl 4 rfl) ?_
                refine lv_aload_n hx hb dX5_readsBranch_137 rfl (lv_at hl 4 rfl) ?_
                refine va_get (D := gD G) (ci := 5) (v := .int (nI (nx pd N p1 33 + 1))) (C := RX5) (T := TX5) (N := 12) hx hb hts hin_X5_readsBranch_X5 hown hKK.1 hP 0 rfl rfl 8 (by decide) (hts _ lk_X5_readsBranch_89) (fun _ h9 => h9) rfl dX5_readsBranch_138 ?_
                refine ro_V (As := [.int (nI (nx pd N p1 33 + 1))]) (rest := []) ⟨hx, hb, hml, hown, hts⟩ (c_X5_character l G a st kp hi sl sv pd (upd (upd t1 (3 * b + 0) ((t1 (3 * b + 0)) ||| (shl 1 (ctc (chr pd N (nx pd N p1 33)))))) (3 * b + 2) (((upd t1 (3 * b + 0) ((t1 (3 * b + 0)) ||| (shl 1 (ctc (chr pd N (nx pd N p1 33)))))) (3 * b + 2)) + 1)) rc (nI (nx pd N p1 33 + 1)) rt (nI b) N (nx pd N p1 33 + 1) (by assumption) (by omega)) (cwV 1 hts gX5_readsBranch_X5_character rfl rfl rfl (by decide +kernel) ⟨Nat.le_of_ble_eq_true rfl, Nat.le_of_ble_eq_true rfl⟩) hP hKK (va_recv hKK.1 hP (ci := 5) (q0 := 0) rfl rfl) rfl hl.1 rfl (Nat.le_of_ble_eq_true rfl) dX5_readsBranch_141 (Nat.zero_le _) (Nat.zero_le _) ?_
                refine ro_S (As := [.int (chr pd N (nx pd N p1 33 + 1))]) (rest := []) ⟨hx, hb, hml, hown, hts⟩ (c_X5_contactOf l G (chr pd N (nx pd N p1 33 + 1))) (va_cwS 1 hts gX5_readsBranch_X5_contactOf rfl rfl rfl (by decide +kernel) ⟨Nat.le_of_ble_eq_true rfl, Nat.le_of_ble_eq_true rfl⟩) (show gP G [] _ from fun k q h => by simp at h) hKK rfl hl.1 rfl (Nat.le_of_ble_eq_true rfl) dX5_readsBranch_144 (Nat.zero_le _) (Nat.zero_le _) ?_
                refine lv_if_lt (tgt := 154) hx hb dX5_readsBranch_147 (by decide) (fun c_147 => ?_) (fun c_147 => ?_)
                · skip
                  refine lv_iconst (v := 0) hx hb dX5_readsBranch_154 (by decide) ?_
                  refine lv_istore_n (lv' := [(2, .int 0), (4, .int (ctc (chr pd N (nx pd N p1 33)))), (3, .int (b2i (decide (chr pd N p1 = 33)))), (1, .int (nI (3 * b))), (0, .ref (a 0))]) hx hb dX5_readsBranch_155 rfl hl (by decide) rfl (fun ls hl => ?_)
                  refine lv_goto (tgt := 34) hx hb dX5_readsBranch_156 (by decide) ?_
                  have eT := tdup (b := 3 * b) (I := 3 * b + 0) (T := upd (upd t1 (3 * b + 0) ((t1 (3 * b + 0)) ||| (shl 1 (ctc (chr pd N (nx pd N p1 33)))))) (3 * b + 2) (((upd t1 (3 * b + 0) ((t1 (3 * b + 0)) ||| (shl 1 (ctc (chr pd N (nx pd N p1 33)))))) (3 * b + 2)) + 1)) (by omega) hc1 hm1 hm2 rfl
                  have h7 := rbF_e (I := 3 * b + 0) (T := upd (upd t1 (3 * b + 0) ((t1 (3 * b + 0)) ||| (shl 1 (ctc (chr pd N (nx pd N p1 33)))))) (3 * b + 2) (((upd t1 (3 * b + 0) ((t1 (3 * b + 0)) ||| (shl 1 (ctc (chr pd N (nx pd N p1 33)))))) (3 * b + 2)) + 1)) hm1 (rfl : nx pd N p1 33 = _) (by rw [if_neg c_81]) (Int32.not_lt.mpr c_60) rfl (Or.inr ⟨c_133, c_147⟩)
                  exact ih_34 false (mm - 1) (nx pd N p1 33 + 1) (upd (upd t1 (3 * b + 0) ((t1 (3 * b + 0)) ||| (shl 1 (ctc (chr pd N (nx pd N p1 33)))))) (3 * b + 2) (((upd t1 (3 * b + 0) ((t1 (3 * b + 0)) ||| (shl 1 (ctc (chr pd N (nx pd N p1 33)))))) (3 * b + 2)) + 1)) (by omega) (by omega) (fun q => Bool.noConfusion q) (h5.trans h7) _ _ (hP) (hD) hS _ (lv_sub hl [0, 3, 4] rfl)
                · skip
                  refine lv_iconst (v := 1) hx hb dX5_readsBranch_150 (by decide) ?_
                  refine lv_goto (tgt := 155) hx hb dX5_readsBranch_151 (by decide) ?_
                  refine lv_istore_n (lv' := [(2, .int 1), (4, .int (ctc (chr pd N (nx pd N p1 33)))), (3, .int (b2i (decide (chr pd N p1 = 33)))), (1, .int (nI (3 * b))), (0, .ref (a 0))]) hx hb dX5_readsBranch_155 rfl hl (by decide) rfl (fun ls hl => ?_)
                  refine lv_goto (tgt := 34) hx hb dX5_readsBranch_156 (by decide) ?_
                  have eT := tdup (b := 3 * b) (I := 3 * b + 0) (T := upd (upd t1 (3 * b + 0) ((t1 (3 * b + 0)) ||| (shl 1 (ctc (chr pd N (nx pd N p1 33)))))) (3 * b + 2) (((upd t1 (3 * b + 0) ((t1 (3 * b + 0)) ||| (shl 1 (ctc (chr pd N (nx pd N p1 33)))))) (3 * b + 2)) + 1)) (by omega) hc1 hm1 hm2 rfl
                  have hz := td_go eT hm1 hm2 c_120
                  have h7 := rbF_g (I := 3 * b + 0) (T := upd (upd t1 (3 * b + 0) ((t1 (3 * b + 0)) ||| (shl 1 (ctc (chr pd N (nx pd N p1 33)))))) (3 * b + 2) (((upd t1 (3 * b + 0) ((t1 (3 * b + 0)) ||| (shl 1 (ctc (chr pd N (nx pd N p1 33)))))) (3 * b + 2)) + 1)) hm1 (rfl : nx pd N p1 33 = _) (by rw [if_neg c_81]) (Int32.not_lt.mpr c_60) rfl ⟨Int32.not_le.mp c_120, Or.inr c_147⟩
                  exact ih_34 true (mm - 1) (nx pd N p1 33 + 1) (upd (upd t1 (3 * b + 0) ((t1 (3 * b + 0)) ||| (shl 1 (ctc (chr pd N (nx pd N p1 33)))))) (3 * b + 2) (((upd t1 (3 * b + 0) ((t1 (3 * b + 0)) ||| (shl 1 (ctc (chr pd N (nx pd N p1 33)))))) (3 * b + 2)) + 1)) (by omega) (by omega) (fun _ => ⟨eT, hz, by omega⟩) (h5.trans h7) _ _ (hP) (hD) hS _ (lv_sub hl [0, 3, 4] rfl)
          · skip
            have c_81 := b2i_1 c_81
            have c_81 := of_decide_eq_true c_81
            refine lv_iconst (v := 1) hx hb dX5_readsBranch_84 (by decide) ?_
            refine lv_goto (tgt := 89) hx hb dX5_readsBranch_85 (by decide) ?_
            refine lv_iadd hx hb dX5_readsBranch_89 ?_
            refine lv_dup2_11 hx hb dX5_readsBranch_90 rfl rfl ?_
            refine va_ialdN (j := 3 * b + 1) (v := t1 (3 * b + 1)) hx hb hKK.1 hP 7 0 rfl rfl (nI_1 _) (by omega) (by decide) (rfl) dX5_readsBranch_91 ?_
            refine lv_iconst (v := 1) hx hb dX5_readsBranch_92 (by decide) ?_
            refine lv_iload hx hb dX5_readsBranch_93 (lv_at hl 0 rfl) ?_
            refine lv_ishl hx hb dX5_readsBranch_95 ?_
            refine lv_asi (y := shl 1 (ctc (chr pd N (nx pd N p1 33)))) rfl ?_
            refine lv_ior hx hb dX5_readsBranch_96 ?_
            refine va_iastN (j := 3 * b + 1) (x := ((t1 (3 * b + 1)) ||| (shl 1 (ctc (chr pd N (nx pd N p1 33)))))) hx hb hKK.1 hP hD hS 7 0 rfl rfl (nI_1 _) (by omega) (by decide) dX5_readsBranch_97 (fun H locs hP hD hS => ?_)
            have hP : gP G (mW G a st kp hi sl sv pd (upd t1 (3 * b + 1) ((t1 (3 * b + 1)) ||| (shl 1 (ctc (chr pd N (nx pd N p1 33)))))) rc (nI N) (nI (nx pd N p1 33 + 1)) rt (nI b)) H := hP
            have hD : va_D (aA (mW G a st kp hi sl sv pd td rc (nI N) (nI pp) rt (nI b))) (mW G a st kp hi sl sv pd (upd t1 (3 * b + 1) ((t1 (3 * b + 1)) ||| (shl 1 (ctc (chr pd N (nx pd N p1 33)))))) rc (nI N) (nI (nx pd N p1 33 + 1)) rt (nI b)) := hD
            refine lv_aload_n hx hb dX5_readsBranch_98 rfl (lv_at hl 4 rfl) ?_
            refine va_get (D := gD G) (ci := 5) (v := .ref (a 7)) (C := RX5) (T := TX5) (N := 12) hx hb hts hin_X5_readsBranch_X5 hown hKK.1 hP 0 rfl rfl 10 (by decide) (hts _ lk_X5_readsBranch_28) (fun _ h9 => h9) rfl dX5_readsBranch_99 ?_
            refine lv_iload_n hx hb dX5_readsBranch_102 rfl (lv_at hl 3 rfl) ?_
            refine lv_iconst (v := 2) hx hb dX5_readsBranch_103 (by decide) ?_
            refine lv_iadd hx hb dX5_readsBranch_104 ?_
            refine lv_dup2_11 hx hb dX5_readsBranch_105 rfl rfl ?_
            refine va_ialdN (j := 3 * b + 2) (v := (upd t1 (3 * b + 1) ((t1 (3 * b + 1)) ||| (shl 1 (ctc (chr pd N (nx pd N p1 33)))))) (3 * b + 2)) hx hb hKK.1 hP 7 0 rfl rfl (nI_add _ 2) (by omega) (by decide) (rfl) dX5_readsBranch_106 ?_
            refine lv_iconst (v := 1) hx hb dX5_readsBranch_107 (by decide) ?_
            refine lv_iadd hx hb dX5_readsBranch_108 ?_
            refine va_iastN (j := 3 * b + 2) (x := (((upd t1 (3 * b + 1) ((t1 (3 * b + 1)) ||| (shl 1 (ctc (chr pd N (nx pd N p1 33)))))) (3 * b + 2)) + 1)) hx hb hKK.1 hP hD hS 7 0 rfl rfl (nI_add _ 2) (by omega) (by decide) dX5_readsBranch_109 (fun H locs hP hD hS => ?_)
            have hP : gP G (mW G a st kp hi sl sv pd (upd (upd t1 (3 * b + 1) ((t1 (3 * b + 1)) ||| (shl 1 (ctc (chr pd N (nx pd N p1 33)))))) (3 * b + 2) (((upd t1 (3 * b + 1) ((t1 (3 * b + 1)) ||| (shl 1 (ctc (chr pd N (nx pd N p1 33)))))) (3 * b + 2)) + 1)) rc (nI N) (nI (nx pd N p1 33 + 1)) rt (nI b)) H := hP
            have hD : va_D (aA (mW G a st kp hi sl sv pd td rc (nI N) (nI pp) rt (nI b))) (mW G a st kp hi sl sv pd (upd (upd t1 (3 * b + 1) ((t1 (3 * b + 1)) ||| (shl 1 (ctc (chr pd N (nx pd N p1 33)))))) (3 * b + 2) (((upd t1 (3 * b + 1) ((t1 (3 * b + 1)) ||| (shl 1 (ctc (chr pd N (nx pd N p1 33)))))) (3 * b + 2)) + 1)) rc (nI N) (nI (nx pd N p1 33 + 1)) rt (nI b)) := hD
            refine lv_aload_n hx hb dX5_readsBranch_110 rfl (lv_at hl 4 rfl) ?_
            refine va_get (D := gD G) (ci := 5) (v := .ref (a 7)) (C := RX5) (T := TX5) (N := 12) hx hb hts hin_X5_readsBranch_X5 hown hKK.1 hP 0 rfl rfl 10 (by decide) (hts _ lk_X5_readsBranch_28) (fun _ h9 => h9) rfl dX5_readsBranch_111 ?_
            refine lv_iload_n hx hb dX5_readsBranch_114 rfl (lv_at hl 3 rfl) ?_
            refine lv_iconst (v := 2) hx hb dX5_readsBranch_115 (by decide) ?_
            refine lv_iadd hx hb dX5_readsBranch_116 ?_
            refine va_ialdN (j := 3 * b + 2) (v := (upd (upd t1 (3 * b + 1) ((t1 (3 * b + 1)) ||| (shl 1 (ctc (chr pd N (nx pd N p1 33)))))) (3 * b + 2) (((upd t1 (3 * b + 1) ((t1 (3 * b + 1)) ||| (shl 1 (ctc (chr pd N (nx pd N p1 33)))))) (3 * b + 2)) + 1)) (3 * b + 2)) hx hb hKK.1 hP 7 0 rfl rfl (nI_add _ 2) (by omega) (by decide) (rfl) dX5_readsBranch_117 ?_
            refine lv_bipush (v := 8) hx hb dX5_readsBranch_118 (by decide) ?_
            refine lv_icmp_ge (tgt := 154) hx hb dX5_readsBranch_120 (by decide) (fun c_120 => ?_) (fun c_120 => ?_)
            · skip
              refine lv_iconst (v := 0) hx hb dX5_readsBranch_154 (by decide) ?_
              refine lv_istore_n (lv' := [(2, .int 0), (4, .int (ctc (chr pd N (nx pd N p1 33)))), (3, .int (b2i (decide (chr pd N p1 = 33)))), (1, .int (nI (3 * b))), (0, .ref (a 0))]) hx hb dX5_readsBranch_155 rfl hl (by decide) rfl (fun ls hl => ?_)
              refine lv_goto (tgt := 34) hx hb dX5_readsBranch_156 (by decide) ?_
              have eT := tdup (b := 3 * b) (I := 3 * b + 1) (T := upd (upd t1 (3 * b + 1) ((t1 (3 * b + 1)) ||| (shl 1 (ctc (chr pd N (nx pd N p1 33)))))) (3 * b + 2) (((upd t1 (3 * b + 1) ((t1 (3 * b + 1)) ||| (shl 1 (ctc (chr pd N (nx pd N p1 33)))))) (3 * b + 2)) + 1)) (by omega) hc1 hm1 hm2 rfl
              have h7 := rbF_e (I := 3 * b + 1) (T := upd (upd t1 (3 * b + 1) ((t1 (3 * b + 1)) ||| (shl 1 (ctc (chr pd N (nx pd N p1 33)))))) (3 * b + 2) (((upd t1 (3 * b + 1) ((t1 (3 * b + 1)) ||| (shl 1 (ctc (chr pd N (nx pd N p1 33)))))) (3 * b + 2)) + 1)) hm1 (rfl : nx pd N p1 33 = _) (by rw [if_pos c_81]) (Int32.not_lt.mpr c_60) rfl (Or.inl c_120)
              exact ih_34 false (mm - 1) (nx pd N p1 33 + 1) (upd (upd t1 (3 * b + 1) ((t1 (3 * b + 1)) ||| (shl 1 (ctc (chr pd N (nx pd N p1 33)))))) (3 * b + 2) (((upd t1 (3 * b + 1) ((t1 (3 * b + 1)) ||| (shl 1 (ctc (chr pd N (nx pd N p1 33)))))) (3 * b + 2)) + 1)) (by omega) (by omega) (fun q => Bool.noConfusion q) (h5.trans h7) _ _ (hP) (hD) hS _ (lv_sub hl [0, 3, 4] rfl)
            · skip
              refine lv_aload_n hx hb dX5_readsBranch_123 rfl (lv_at hl 4 rfl) ?_
              refine lv_aload_n hx hb dX5_readsBranch_124 rfl (lv_at hl 4 rfl) ?_
              refine va_get (D := gD G) (ci := 5) (v := .int (nI (nx pd N p1 33 + 1))) (C := RX5) (T := TX5) (N := 12) hx hb hts hin_X5_readsBranch_X5 hown hKK.1 hP 0 rfl rfl 8 (by decide) (hts _ lk_X5_readsBranch_89) (fun _ h9 => h9) rfl dX5_readsBranch_125 ?_
              refine ro_V (As := [.int (nI (nx pd N p1 33 + 1))]) (rest := []) ⟨hx, hb, hml, hown, hts⟩ (c_X5_character l G a st kp hi sl sv pd (upd (upd t1 (3 * b + 1) ((t1 (3 * b + 1)) ||| (shl 1 (ctc (chr pd N (nx pd N p1 33)))))) (3 * b + 2) (((upd t1 (3 * b + 1) ((t1 (3 * b + 1)) ||| (shl 1 (ctc (chr pd N (nx pd N p1 33)))))) (3 * b + 2)) + 1)) rc (nI (nx pd N p1 33 + 1)) rt (nI b) N (nx pd N p1 33 + 1) (by assumption) (by omega)) (cwV 1 hts gX5_readsBranch_X5_character rfl rfl rfl (by decide +kernel) ⟨Nat.le_of_ble_eq_true rfl, Nat.le_of_ble_eq_true rfl⟩) hP hKK (va_recv hKK.1 hP (ci := 5) (q0 := 0) rfl rfl) rfl hl.1 rfl (Nat.le_of_ble_eq_true rfl) dX5_readsBranch_128 (Nat.zero_le _) (Nat.zero_le _) ?_
              refine lv_bipush (v := 33) hx hb dX5_readsBranch_131 (by decide) ?_
              refine lv_icmp_eq (tgt := 150) hx hb dX5_readsBranch_133 (by decide) (fun c_133 => ?_) (fun c_133 => ?_)
              · skip
                refine lv_iconst (v := 1) hx hb dX5_readsBranch_150 (by decide) ?_
                refine lv_goto (tgt := 155) hx hb dX5_readsBranch_151 (by decide) ?_
                refine lv_istore_n (lv' := [(2, .int 1), (4, .int (ctc (chr pd N (nx pd N p1 33)))), (3, .int (b2i (decide (chr pd N p1 = 33)))), (1, .int (nI (3 * b))), (0, .ref (a 0))]) hx hb dX5_readsBranch_155 rfl hl (by decide) rfl (fun ls hl => ?_)
                refine lv_goto (tgt := 34) hx hb dX5_readsBranch_156 (by decide) ?_
                have eT := tdup (b := 3 * b) (I := 3 * b + 1) (T := upd (upd t1 (3 * b + 1) ((t1 (3 * b + 1)) ||| (shl 1 (ctc (chr pd N (nx pd N p1 33)))))) (3 * b + 2) (((upd t1 (3 * b + 1) ((t1 (3 * b + 1)) ||| (shl 1 (ctc (chr pd N (nx pd N p1 33)))))) (3 * b + 2)) + 1)) (by omega) hc1 hm1 hm2 rfl
                have hz := td_go eT hm1 hm2 c_120
                have h7 := rbF_g (I := 3 * b + 1) (T := upd (upd t1 (3 * b + 1) ((t1 (3 * b + 1)) ||| (shl 1 (ctc (chr pd N (nx pd N p1 33)))))) (3 * b + 2) (((upd t1 (3 * b + 1) ((t1 (3 * b + 1)) ||| (shl 1 (ctc (chr pd N (nx pd N p1 33)))))) (3 * b + 2)) + 1)) hm1 (rfl : nx pd N p1 33 = _) (by rw [if_pos c_81]) (Int32.not_lt.mpr c_60) rfl ⟨Int32.not_le.mp c_120, Or.inl c_133⟩
                exact ih_34 true (mm - 1) (nx pd N p1 33 + 1) (upd (upd t1 (3 * b + 1) ((t1 (3 * b + 1)) ||| (shl 1 (ctc (chr pd N (nx pd N p1 33)))))) (3 * b + 2) (((upd t1 (3 * b + 1) ((t1 (3 * b + 1)) ||| (shl 1 (ctc (chr pd N (nx pd N p1 33)))))) (3 * b + 2)) + 1)) (by omega) (by omega) (fun _ => ⟨eT, hz, by omega⟩) (h5.trans h7) _ _ (hP) (hD) hS _ (lv_sub hl [0, 3, 4] rfl)
              · skip
                refine lv_aload_n hx hb dX5_readsBranch_136 rfl (lv_at hl 4 rfl) ?_
                refine lv_aload_n hx hb dX5_readsBranch_137 rfl (lv_at hl 4 rfl) ?_
                refine va_get (D := gD G) (ci := 5) (v := .int (nI (nx pd N p1 33 + 1))) (C := RX5) (T := TX5) (N := 12) hx hb hts hin_X5_readsBranch_X5 hown hKK.1 hP 0 rfl rfl 8 (by decide) (hts _ lk_X5_readsBranch_89) (fun _ h9 => h9) rfl dX5_readsBranch_138 ?_
                refine ro_V (As := [.int (nI (nx pd N p1 33 + 1))]) (rest := []) ⟨hx, hb, hml, hown, hts⟩ (c_X5_character l G a st kp hi sl sv pd (upd (upd t1 (3 * b + 1) ((t1 (3 * b + 1)) ||| (shl 1 (ctc (chr pd N (nx pd N p1 33)))))) (3 * b + 2) (((upd t1 (3 * b + 1) ((t1 (3 * b + 1)) ||| (shl 1 (ctc (chr pd N (nx pd N p1 33)))))) (3 * b + 2)) + 1)) rc (nI (nx pd N p1 33 + 1)) rt (nI b) N (nx pd N p1 33 + 1) (by assumption) (by omega)) (cwV 1 hts gX5_readsBranch_X5_character rfl rfl rfl (by decide +kernel) ⟨Nat.le_of_ble_eq_true rfl, Nat.le_of_ble_eq_true rfl⟩) hP hKK (va_recv hKK.1 hP (ci := 5) (q0 := 0) rfl rfl) rfl hl.1 rfl (Nat.le_of_ble_eq_true rfl) dX5_readsBranch_141 (Nat.zero_le _) (Nat.zero_le _) ?_
                refine ro_S (As := [.int (chr pd N (nx pd N p1 33 + 1))]) (rest := []) ⟨hx, hb, hml, hown, hts⟩ (c_X5_contactOf l G (chr pd N (nx pd N p1 33 + 1))) (va_cwS 1 hts gX5_readsBranch_X5_contactOf rfl rfl rfl (by decide +kernel) ⟨Nat.le_of_ble_eq_true rfl, Nat.le_of_ble_eq_true rfl⟩) (show gP G [] _ from fun k q h => by simp at h) hKK rfl hl.1 rfl (Nat.le_of_ble_eq_true rfl) dX5_readsBranch_144 (Nat.zero_le _) (Nat.zero_le _) ?_
                refine lv_if_lt (tgt := 154) hx hb dX5_readsBranch_147 (by decide) (fun c_147 => ?_) (fun c_147 => ?_)
                · skip
                  refine lv_iconst (v := 0) hx hb dX5_readsBranch_154 (by decide) ?_
                  refine lv_istore_n (lv' := [(2, .int 0), (4, .int (ctc (chr pd N (nx pd N p1 33)))), (3, .int (b2i (decide (chr pd N p1 = 33)))), (1, .int (nI (3 * b))), (0, .ref (a 0))]) hx hb dX5_readsBranch_155 rfl hl (by decide) rfl (fun ls hl => ?_)
                  refine lv_goto (tgt := 34) hx hb dX5_readsBranch_156 (by decide) ?_
                  have eT := tdup (b := 3 * b) (I := 3 * b + 1) (T := upd (upd t1 (3 * b + 1) ((t1 (3 * b + 1)) ||| (shl 1 (ctc (chr pd N (nx pd N p1 33)))))) (3 * b + 2) (((upd t1 (3 * b + 1) ((t1 (3 * b + 1)) ||| (shl 1 (ctc (chr pd N (nx pd N p1 33)))))) (3 * b + 2)) + 1)) (by omega) hc1 hm1 hm2 rfl
                  have h7 := rbF_e (I := 3 * b + 1) (T := upd (upd t1 (3 * b + 1) ((t1 (3 * b + 1)) ||| (shl 1 (ctc (chr pd N (nx pd N p1 33)))))) (3 * b + 2) (((upd t1 (3 * b + 1) ((t1 (3 * b + 1)) ||| (shl 1 (ctc (chr pd N (nx pd N p1 33)))))) (3 * b + 2)) + 1)) hm1 (rfl : nx pd N p1 33 = _) (by rw [if_pos c_81]) (Int32.not_lt.mpr c_60) rfl (Or.inr ⟨c_133, c_147⟩)
                  exact ih_34 false (mm - 1) (nx pd N p1 33 + 1) (upd (upd t1 (3 * b + 1) ((t1 (3 * b + 1)) ||| (shl 1 (ctc (chr pd N (nx pd N p1 33)))))) (3 * b + 2) (((upd t1 (3 * b + 1) ((t1 (3 * b + 1)) ||| (shl 1 (ctc (chr pd N (nx pd N p1 33)))))) (3 * b + 2)) + 1)) (by omega) (by omega) (fun q => Bool.noConfusion q) (h5.trans h7) _ _ (hP) (hD) hS _ (lv_sub hl [0, 3, 4] rfl)
                · skip
                  refine lv_iconst (v := 1) hx hb dX5_readsBranch_150 (by decide) ?_
                  refine lv_goto (tgt := 155) hx hb dX5_readsBranch_151 (by decide) ?_
                  refine lv_istore_n (lv' := [(2, .int 1), (4, .int (ctc (chr pd N (nx pd N p1 33)))), (3, .int (b2i (decide (chr pd N p1 = 33)))), (1, .int (nI (3 * b))), (0, .ref (a 0))]) hx hb dX5_readsBranch_155 rfl hl (by decide) rfl (fun ls hl => ?_)
                  refine lv_goto (tgt := 34) hx hb dX5_readsBranch_156 (by decide) ?_
                  have eT := tdup (b := 3 * b) (I := 3 * b + 1) (T := upd (upd t1 (3 * b + 1) ((t1 (3 * b + 1)) ||| (shl 1 (ctc (chr pd N (nx pd N p1 33)))))) (3 * b + 2) (((upd t1 (3 * b + 1) ((t1 (3 * b + 1)) ||| (shl 1 (ctc (chr pd N (nx pd N p1 33)))))) (3 * b + 2)) + 1)) (by omega) hc1 hm1 hm2 rfl
                  have hz := td_go eT hm1 hm2 c_120
                  have h7 := rbF_g (I := 3 * b + 1) (T := upd (upd t1 (3 * b + 1) ((t1 (3 * b + 1)) ||| (shl 1 (ctc (chr pd N (nx pd N p1 33)))))) (3 * b + 2) (((upd t1 (3 * b + 1) ((t1 (3 * b + 1)) ||| (shl 1 (ctc (chr pd N (nx pd N p1 33)))))) (3 * b + 2)) + 1)) hm1 (rfl : nx pd N p1 33 = _) (by rw [if_pos c_81]) (Int32.not_lt.mpr c_60) rfl ⟨Int32.not_le.mp c_120, Or.inr c_147⟩
                  exact ih_34 true (mm - 1) (nx pd N p1 33 + 1) (upd (upd t1 (3 * b + 1) ((t1 (3 * b + 1)) ||| (shl 1 (ctc (chr pd N (nx pd N p1 33)))))) (3 * b + 2) (((upd t1 (3 * b + 1) ((t1 (3 * b + 1)) ||| (shl 1 (ctc (chr pd N (nx pd N p1 33)))))) (3 * b + 2)) + 1)) (by omega) (by omega) (fun _ => ⟨eT, hz, by omega⟩) (h5.trans h7) _ _ (hP) (hD) hS _ (lv_sub hl [0, 3, 4] rfl)
        · skip
          have c_60 := Int32.not_le.mp c_60
          refine lv_iconst (v := 0) hx hb dX5_readsBranch_63 (by decide) ?_
          exact ex_MUz (b := (rb1 (chr pd N) (pp, td, b)).1) (w2 := (mW G a st kp hi sl sv pd t1 rc (nI N) (nI (nx pd N p1 33)) rt (nI b))) hx hb hr hlocks hP hS dX5_readsBranch_64 (by rw [show (rb1 (chr pd N) (pp, td, b)).1 = false by simp only [rb1, h5, rbF_f hm1 rfl c_60]]; rfl) rfl (fun h => by have e6 := h5.trans (rbF_f hm1 (rfl : nx pd N p1 33 = _) c_60); rw [show rb1 (chr pd N) (pp, td, b) = (false, nx pd N p1 33, t1, b) by simp only [rb1, e6, Bool.false_eq_true, reduceIte]]; exact h)
  exact L_34 9 true 8 pp (upd (upd (upd td (3 * b) 0) (3 * b + 1) 0) (3 * b + 2) 0) (hp) (by omega) (fun _ => ⟨by rw [upd_s]; rfl, by omega, by omega⟩) (rfl) _ _ (hP) (hD) hS _ (lv_sub hl [0, 1, 2] rfl)
