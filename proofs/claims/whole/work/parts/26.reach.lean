set_option maxRecDepth 20000 in
theorem hin_X4_reach_X4 : ∀ w ∈ u_ws RX4 TX4 7, w ∈ wsX4_reach := by decide +kernel
theorem lk_X4_reach_16 : Cond.fieldLink RX4 16 "WeldedRelays" "trial" "LWeldedRelays$Room;" ∈ wsX4_reach := by decide +kernel
set_option maxHeartbeats 4000000 in
set_option maxRecDepth 100000 in
/-- X4_reach -/
theorem c_X4_reach (l : Launch) (G : GG) (oa : Nat → Nat) (ra : Nat → Nat) (ta : Nat → Nat) (ad : Nat → Nat) (qa : Nat → Nat) (ha : Nat → Nat) (B : Nat → Nat → Nat) (S : Nat → Nat → Nat) (v : Nat → Int32) (u : Nat → Int32) (VH : Nat → Nat → Int32) (VS : Nat → Nat → Int32) (sv : Nat → Int32) (pd : Nat → Int32) (N : Nat) (pp : Nat) (k : Nat) (ol : Nat) (sz : Nat) (r : Int32) (hn : N ≤ 64) (hk : k < 10) (hol : ol < 6) (hsz : sz ≤ 6) (hI : RI v) (hU : RI u) : Met l yX4_reach wsX4_reach ({ frames := 6, cells := 0, slots := 0, locals := 129 }) (pcM G [.ref (oa 0), .int r] (List.flatten [bMw G oa ra ta ad qa ha S sv, bPw G ad pd N, bQw qa pp k, bHw G ha B ol sz, rW G ra v, rW G ta u, fam G 6 B VH, fam G 2 S VS])) (qMU G (some (.int (cond (inr r 0 9) (outW v (nI (rk r)) 7 0 u).1 (-1)))) (List.flatten [bMw G oa ra ta ad qa ha S sv, bPw G ad pd N, bQw qa pp k, bHw G ha B ol sz, rW G ra v, rW G ta u, fam G 6 B VH, fam G 2 S VS]) (List.flatten [bMw G oa ra ta ad qa ha S sv, bPw G ad pd N, bQw qa pp k, bHw G ha B ol sz, rW G ra v, rW G ta (cond (inr r 0 9) ((outW v (nI (rk r)) 7 0 u).2) (u)), fam G 6 B VH, fam G 2 S VS])) 0 0 (aA (List.flatten [bMw G oa ra ta ad qa ha S sv, bPw G ad pd N, bQw qa pp k, bHw G ha B ol sz, rW G ra v, rW G ta u, fam G 6 B VH, fam G 2 S VS])) := by
  refine hd_MU (cc := cX4_reach) (maxL := 4) (ret := some .int) (by decide) rfl (Nat.le_of_ble_eq_true rfl) ?_
  intro p e s m below meth c ls hx hb hr hts hown hlocks hml hP hKK hD hS hl
  have hl : lv_has ls 4 [(0, .ref (oa 0)), (1, .int r)] := hl
  refine lv_iload_n hx hb dX4_reach_0 rfl (lv_at hl 1 rfl) ?_
  refine ro_S (As := [.int r]) (rest := []) ⟨hx, hb, hml, hown, hts⟩ (c_X4_isRelay l G r) (va_cwS 1 hts gX4_reach_X4_isRelay rfl rfl rfl (by decide +kernel) ⟨Nat.le_of_ble_eq_true rfl, Nat.le_of_ble_eq_true rfl⟩) (show gP G [] _ from fun k q h => by simp at h) hKK rfl hl.1 rfl (Nat.le_of_ble_eq_true rfl) dX4_reach_1 (Nat.zero_le _) (Nat.zero_le _) ?_
  refine lv_if_ne (tgt := 9) hx hb dX4_reach_4 (by decide) (fun c_4 => ?_) (fun c_4 => ?_)
  · skip
    have c_4 := b2i_1 c_4
    have hr9 := inr_rk c_4
    have hl : lv_has ls 4 [(0, .ref (oa 0)), (1, .int (nI (rk r)))] := by have e_l1 : r = (nI (rk r)) := (hr9.1); rw [← e_l1]; exact hl
    refine lv_iconst (v := 0) hx hb dX4_reach_9 (by decide) ?_
    refine lv_istore_n (lv' := [(2, .int 0), (0, .ref (oa 0)), (1, .int (nI (rk r)))]) hx hb dX4_reach_10 rfl hl (by decide) rfl (fun ls hl => ?_)
    have L_11 : ∀ (n_11 : Nat) (z : Nat) (uq : Nat → Int32), (z ≤ 7) → (7 + 1 ≤ z + n_11) → (outW v (nI (rk r)) (7 - z) z uq = outW v (nI (rk r)) 7 0 u) → (RI uq) → ∀ (H : Heap) (locs : List Loc), gP G (List.flatten [bMw G oa ra ta ad qa ha S sv, bPw G ad pd N, bQw qa pp k, bHw G ha B ol sz, rW G ra v, rW G ta uq, fam G 6 B VH, fam G 2 S VS]) H → va_D (aA (List.flatten [bMw G oa ra ta ad qa ha S sv, bPw G ad pd N, bQw qa pp k, bHw G ha B ol sz, rW G ra v, rW G ta u, fam G 6 B VH, fam G 2 S VS])) (List.flatten [bMw G oa ra ta ad qa ha S sv, bPw G ad pd N, bQw qa pp k, bHw G ha B ol sz, rW G ra v, rW G ta uq, fam G 6 B VH, fam G 2 S VS]) → va_S (aA (List.flatten [bMw G oa ra ta ad qa ha S sv, bPw G ad pd N, bQw qa pp k, bHw G ha B ol sz, rW G ra v, rW G ta u, fam G 6 B VH, fam G 2 S VS])) s.heap H locs → ∀ (ls : Array Slot), lv_has ls 4 [(2, .int (nI z)), (0, .ref (oa 0)), (1, .int (nI (rk r)))] → W p l e ({ frames := 6, cells := 0, slots := 0, locals := 129 }) s m (List.toArray [.ref (oa 0), .int r]) below meth c H locs 0 0 (MQ below (qMU G (some (.int (cond (inr r 0 9) (outW v (nI (rk r)) 7 0 u).1 (-1)))) (List.flatten [bMw G oa ra ta ad qa ha S sv, bPw G ad pd N, bQw qa pp k, bHw G ha B ol sz, rW G ra v, rW G ta u, fam G 6 B VH, fam G 2 S VS]) (List.flatten [bMw G oa ra ta ad qa ha S sv, bPw G ad pd N, bQw qa pp k, bHw G ha B ol sz, rW G ra v, rW G ta (cond (inr r 0 9) ((outW v (nI (rk r)) 7 0 u).2) (u)), fam G 6 B VH, fam G 2 S VS])) (List.toArray [.ref (oa 0), .int r]) s 0 0 (aA (List.flatten [bMw G oa ra ta ad qa ha S sv, bPw G ad pd N, bQw qa pp k, bHw G ha B ol sz, rW G ra v, rW G ta u, fam G 6 B VH, fam G 2 S VS]))) (F0 m 11 ls []) := by
      intro n_11
      induction n_11 with
      | zero => intro z uq h1 h2 h3 h5; exact absurd (h2) (by omega)
      | succ n_11 ih_11 =>
        intro z uq h1 h2 h3 h5 H locs hP hD hS ls hl
        refine lv_iload_n hx hb dX4_reach_11 rfl (lv_at hl 0 rfl) ?_
        refine lv_bipush (v := 6) hx hb dX4_reach_12 (by decide) ?_
        refine lv_icmp_gt (tgt := 69) hx hb dX4_reach_14 (by decide) (fun c_14 => ?_) (fun c_14 => ?_)
        · skip
          have c_14 : 6 < z := (nI_ltI (a := 6) (b := z) (by omega) (by omega)).mp c_14
          have e4 : outW v (nI (rk r)) 7 0 u = (-6, uq) := h3.symm.trans (by rw [show 7 - z = 0 by omega]; rfl)
          refine lv_bipush (v := (-6)) hx hb dX4_reach_69 (by decide) ?_
          exact ex_MUi (w2 := (List.flatten [bMw G oa ra ta ad qa ha S sv, bPw G ad pd N, bQw qa pp k, bHw G ha B ol sz, rW G ra v, rW G ta uq, fam G 6 B VH, fam G 2 S VS])) hx hb hr hlocks hP hS dX4_reach_71 (by rw [c_4, e4] <;> rfl) (fun h => by rw [c_4, e4]; exact h)
        · skip
          have c_14 : ¬ (6 < z) := fun q => c_14 ((nI_ltI (a := 6) (b := z) (by omega) (by omega)).mpr q)
          refine lv_iconst (v := 0) hx hb dX4_reach_17 (by decide) ?_
          refine lv_istore_n (lv' := [(3, .int 0), (2, .int (nI z)), (0, .ref (oa 0)), (1, .int (nI (rk r)))]) hx hb dX4_reach_18 rfl hl (by decide) rfl (fun ls hl => ?_)
          have L_19 : ∀ (n_19 : Nat) (j : Nat) (uj : Nat → Int32), (j ≤ 64) → (64 + 1 ≤ j + n_19) → (inW v (nI (rk r)) z (64 - j) j uj = inW v (nI (rk r)) z 64 0 uq) → (RI uj) → ∀ (H : Heap) (locs : List Loc), gP G (List.flatten [bMw G oa ra ta ad qa ha S sv, bPw G ad pd N, bQw qa pp k, bHw G ha B ol sz, rW G ra v, rW G ta uj, fam G 6 B VH, fam G 2 S VS]) H → va_D (aA (List.flatten [bMw G oa ra ta ad qa ha S sv, bPw G ad pd N, bQw qa pp k, bHw G ha B ol sz, rW G ra v, rW G ta u, fam G 6 B VH, fam G 2 S VS])) (List.flatten [bMw G oa ra ta ad qa ha S sv, bPw G ad pd N, bQw qa pp k, bHw G ha B ol sz, rW G ra v, rW G ta uj, fam G 6 B VH, fam G 2 S VS]) → va_S (aA (List.flatten [bMw G oa ra ta ad qa ha S sv, bPw G ad pd N, bQw qa pp k, bHw G ha B ol sz, rW G ra v, rW G ta u, fam G 6 B VH, fam G 2 S VS])) s.heap H locs → ∀ (ls : Array Slot), lv_has ls 4 [(3, .int (nI j)), (2, .int (nI z)), (0, .ref (oa 0)), (1, .int (nI (rk r)))] → W p l e ({ frames := 6, cells := 0, slots := 0, locals := 129 }) s m (List.toArray [.ref (oa 0), .int r]) below meth c H locs 0 0 (MQ below (qMU G (some (.int (cond (inr r 0 9) (outW v (nI (rk r)) 7 0 u).1 (-1)))) (List.flatten [bMw G oa ra ta ad qa ha S sv, bPw G ad pd N, bQw qa pp k, bHw G ha B ol sz, rW G ra v, rW G ta u, fam G 6 B VH, fam G 2 S VS]) (List.flatten [bMw G oa ra ta ad qa ha S sv, bPw G ad pd N, bQw qa pp k, bHw G ha B ol sz, rW G ra v, rW G ta (cond (inr r 0 9) ((outW v (nI (rk r)) 7 0 u).2) (u)), fam G 6 B VH, fam G 2 S VS])) (List.toArray [.ref (oa 0), .int r]) s 0 0 (aA (List.flatten [bMw G oa ra ta ad qa ha S sv, bPw G ad pd N, bQw qa pp k, bHw G ha B ol sz, rW G ra v, rW G ta u, fam G 6 B VH, fam G 2 S VS]))) (F0 m 19 ls []) := by
            intro n_19
            induction n_19 with
            | zero => intro j uj g1 g2 g3 g5; exact absurd (g2) (by omega)
            | succ n_19 ih_19 =>
              intro j uj g1 g2 g3 g5 H locs hP hD hS ls hl
              refine lv_iload_n hx hb dX4_reach_19 rfl (lv_at hl 0 rfl) ?_
              refine lv_bipush (v := 63) hx hb dX4_reach_20 (by decide) ?_
              refine lv_icmp_gt (tgt := 63) hx hb dX4_reach_22 (by decide) (fun c_22 => ?_) (fun c_22 => ?_)
              · skip
                have c_22 : 63 < j := (nI_ltI (a := 63) (b := j) (by omega) (by omega)).mp c_22
                refine lv_iinc (v := nI (z + 1)) (lv' := [(2, .int (nI (z + 1))), (3, .int (nI j)), (0, .ref (oa 0)), (1, .int (nI (rk r)))]) hx hb dX4_reach_63 hl (k := 1) rfl (nI_1 _) (by decide) rfl (fun ls hl => ?_)
                refine lv_goto (tgt := 11) hx hb dX4_reach_66 (by decide) ?_
                exact ih_11 (z + 1) uj (by omega) (by omega) (by rw [show 7 - (z + 1) = 7 - z - 1 by omega]; exact (outW_n (by omega) (g3.symm.trans (by rw [show 64 - j = 0 by omega]; rfl))).symm.trans h3) (g5) _ _ (hP) (hD) hS _ (lv_sub hl [0, 2, 3] rfl)
              · skip
                have c_22 : ¬ (63 < j) := fun q => c_22 ((nI_ltI (a := 63) (b := j) (by omega) (by omega)).mpr q)
                refine lv_iload_n hx hb dX4_reach_25 rfl (lv_at hl 0 rfl) ?_
                refine ro_S (As := [.int (nI j)]) (rest := []) ⟨hx, hb, hml, hown, hts⟩ (c_J6_bitCount_0f7a4 l G (nI j)) (va_cwS 1 hts gX4_reach_J6_bitCount_0f7a4 rfl rfl rfl (by decide +kernel) ⟨Nat.le_of_ble_eq_true rfl, Nat.le_of_ble_eq_true rfl⟩) (show gP G [] _ from fun k q h => by simp at h) hKK rfl hl.1 rfl (Nat.le_of_ble_eq_true rfl) dX4_reach_26 (Nat.zero_le _) (Nat.zero_le _) ?_
                refine lv_iload_n hx hb dX4_reach_29 rfl (lv_at hl 1 rfl) ?_
                refine lv_icmp_eq (tgt := 36) hx hb dX4_reach_30 (by decide) (fun c_30 => ?_) (fun c_30 => ?_)
                · skip
                  have e3 := inW_y (v := v) (r := nI (rk r)) (u := uj) (show 0 < 64 - j by omega) c_30
                  refine lv_aload_n hx hb dX4_reach_36 rfl (lv_at hl 2 rfl) ?_
                  refine lv_iload_n hx hb dX4_reach_37 rfl (lv_at hl 0 rfl) ?_
                  refine mu_V (As := [.int (nI j)]) (rest := []) ⟨hx, hb, hml, hown, hts⟩ (c_X4_tryButtons l G oa ra ta ad qa ha B S v uj VH VS sv pd N pp k ol sz (nI j) (by assumption) (by assumption) (by omega) (by omega) (by assumption) g5) (cwV 1 hts gX4_reach_X4_tryButtons rfl rfl rfl (by decide +kernel) ⟨Nat.le_of_ble_eq_true rfl, Nat.le_of_ble_eq_true rfl⟩) hP hKK hD hS (va_recv hKK.1 hP (ci := 4) (q0 := 0) rfl rfl) rfl hl.1 rfl (Nat.le_of_ble_eq_true rfl) dX4_reach_38 (Nat.zero_le _) (Nat.zero_le _) (flat_addr rfl) (fun H locs hP hD hS => ?_)
                  refine lv_aload_n hx hb dX4_reach_41 rfl (lv_at hl 2 rfl) ?_
                  refine va_get (D := gD G) (ci := 4) (v := .ref (ta 0)) (C := RX4) (T := TX4) (N := 7) hx hb hts hin_X4_reach_X4 hown hKK.1 hP 0 rfl rfl 1 (by decide) (hts _ lk_X4_reach_16) (fun _ h9 => h9) rfl dX4_reach_42 ?_
                  refine mu_VF (ws := (List.flatten [bMw G oa ra ta ad qa ha S sv, bPw G ad pd N, bQw qa pp k, bHw G ha B ol sz, rW G ra v, rW G ta (upd v 2 (nI j)), fam G 6 B VH, fam G 2 S VS])) (ws' := (List.flatten [bMw G oa ra ta ad qa ha S sv, bPw G ad pd N, bQw qa pp k, bHw G ha B ol sz, rW G ra v, rW G ta (stlV 200 (upd v 2 (nI j))), fam G 6 B VH, fam G 2 S VS])) (wr := (List.flatten [bMw G oa ra ta ad qa ha S sv, bPw G ad pd N, bQw qa pp k, bHw G ha B ol sz, rW G ra v, fam G 6 B VH, fam G 2 S VS])) (As := []) (rest := []) ⟨hx, hb, hml, hown, hts⟩ (c_X3_upAtRest l G ta (upd v 2 (nI j)) (RI_lo hI (by decide) _)) (cwV 0 hts gX4_reach_X3_upAtRest rfl rfl rfl (by decide +kernel) ⟨Nat.le_of_ble_eq_true rfl, Nat.le_of_ble_eq_true rfl⟩) (segs_oneN [bMw G oa ra ta ad qa ha S sv, bPw G ad pd N, bQw qa pp k, bHw G ha B ol sz, rW G ra v, rW G ta (upd v 2 (nI j)), fam G 6 B VH, fam G 2 S VS] 5 [0, 1, 2, 3, 4, 6, 7] 8 (by decide) rfl rfl rfl) (segs_oneN [bMw G oa ra ta ad qa ha S sv, bPw G ad pd N, bQw qa pp k, bHw G ha B ol sz, rW G ra v, rW G ta (stlV 200 (upd v 2 (nI j))), fam G 6 B VH, fam G 2 S VS] 5 [0, 1, 2, 3, 4, 6, 7] 8 (by decide) rfl rfl rfl) hP hKK hD hS (va_recv hKK.1 hP (ci := 3) (q0 := 17) rfl rfl) rfl hl.1 rfl (Nat.le_of_ble_eq_true rfl) dX4_reach_45 (Nat.zero_le _) (Nat.zero_le _) rfl (fun H locs hP hD hS => ?_)
                  refine lv_iload_n hx hb dX4_reach_48 rfl (lv_at hl 3 rfl) ?_
                  refine ro_S (As := [.int (upR (upd v 2 (nI j))), .int (nI (rk r))]) (rest := []) ⟨hx, hb, hml, hown, hts⟩ (c_X4_isUpIn l G (upR (upd v 2 (nI j))) (nI (rk r))) (va_cwS 2 hts gX4_reach_X4_isUpIn rfl rfl rfl (by decide +kernel) ⟨Nat.le_of_ble_eq_true rfl, Nat.le_of_ble_eq_true rfl⟩) (show gP G [] _ from fun k q h => by simp at h) hKK rfl hl.1 rfl (Nat.le_of_ble_eq_true rfl) dX4_reach_49 (Nat.zero_le _) (Nat.zero_le _) ?_
                  refine lv_if_eq (tgt := 57) hx hb dX4_reach_52 (by decide) (fun c_52 => ?_) (fun c_52 => ?_)
                  · skip
                    have c_52 := b2i_0 c_52
                    have c_52 : iuI (upR (upd v 2 (nI j))) (nI (rk r)) = false := c_52
                    refine lv_iinc (v := nI (j + 1)) (lv' := [(3, .int (nI (j + 1))), (2, .int (nI z)), (0, .ref (oa 0)), (1, .int (nI (rk r)))]) hx hb dX4_reach_57 hl (k := 0) rfl (nI_1 _) (by decide) rfl (fun ls hl => ?_)
                    refine lv_goto (tgt := 19) hx hb dX4_reach_60 (by decide) ?_
                    exact ih_19 (j + 1) (stlV 200 (upd v 2 (nI j))) (by omega) (by omega) (by rw [show 64 - (j + 1) = 64 - j - 1 by omega]; exact ((e3.trans (if_neg (fun q => Bool.noConfusion (q.symm.trans c_52)))).symm.trans g3)) (stlV_RI (RI_lo hI (by decide) _) 200) _ _ (hP) (hD) hS _ (lv_sub hl [0, 1, 2, 3] rfl)
                  · skip
                    have c_52 := b2i_1 c_52
                    have c_52 : iuI (upR (upd v 2 (nI j))) (nI (rk r)) = true := c_52
                    have e5 : inW v (nI (rk r)) z 64 0 uq = (nI j, stlV 200 (upd v 2 (nI j))) := g3.symm.trans (e3.trans (if_pos c_52))
                    have e4 : outW v (nI (rk r)) 7 0 u = (nI j, stlV 200 (upd v 2 (nI j))) := h3.symm.trans ((outW_y (by omega) (by rw [e5]; exact nI_n6 (by omega))).trans e5)
                    refine lv_iload_n hx hb dX4_reach_55 rfl (lv_at hl 0 rfl) ?_
                    exact ex_MUi (w2 := (List.flatten [bMw G oa ra ta ad qa ha S sv, bPw G ad pd N, bQw qa pp k, bHw G ha B ol sz, rW G ra v, rW G ta (stlV 200 (upd v 2 (nI j))), fam G 6 B VH, fam G 2 S VS])) hx hb hr hlocks hP hS dX4_reach_56 (by rw [c_4, e4] <;> rfl) (fun h => by rw [c_4, e4]; exact h)
                · skip
                  have e3 := inW_n (v := v) (r := nI (rk r)) (u := uj) (show 0 < 64 - j by omega) c_30
                  refine lv_goto (tgt := 57) hx hb dX4_reach_33 (by decide) ?_
                  refine lv_iinc (v := nI (j + 1)) (lv' := [(3, .int (nI (j + 1))), (2, .int (nI z)), (0, .ref (oa 0)), (1, .int (nI (rk r)))]) hx hb dX4_reach_57 hl (k := 0) rfl (nI_1 _) (by decide) rfl (fun ls hl => ?_)
                  refine lv_goto (tgt := 19) hx hb dX4_reach_60 (by decide) ?_
                  exact ih_19 (j + 1) uj (by omega) (by omega) (by rw [show 64 - (j + 1) = 64 - j - 1 by omega]; exact e3.symm.trans g3) (g5) _ _ (hP) (hD) hS _ (lv_sub hl [0, 1, 2, 3] rfl)
          exact L_19 (64 + 1) 0 uq (by omega) (by omega) (rfl) (h5) _ _ (hP) (hD) hS _ (lv_sub hl [0, 1, 2, 3] rfl)
    exact L_11 (7 + 1) 0 u (by omega) (by omega) (rfl) (hU) _ _ (hP) (hD) hS _ (lv_sub hl [0, 1, 2] rfl)
  · skip
    have c_4 := b2i_0 c_4
    refine lv_iconst (v := (-1)) hx hb dX4_reach_7 (by decide) ?_
    exact ex_MUi (w2 := (List.flatten [bMw G oa ra ta ad qa ha S sv, bPw G ad pd N, bQw qa pp k, bHw G ha B ol sz, rW G ra v, rW G ta u, fam G 6 B VH, fam G 2 S VS])) hx hb hr hlocks hP hS dX4_reach_8 (by rw [c_4] <;> rfl) (fun h => by rw [c_4]; exact h)
