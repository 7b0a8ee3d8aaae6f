set_option maxHeartbeats 4000000 in
set_option maxRecDepth 100000 in
/-- X5_time -/
theorem c_X5_time (l : Launch) (G : GG) (a : Nat → Nat) (st : Nat → Int32) (kp : Nat → Int32) (hi : Nat → Int32) (sl : Nat → Int32) (sv : Nat → Int32) (pd : Nat → Int32) (td : Nat → Int32) (pl : Int32) (pt : Int32) (rt : Int32) (bn : Int32) (r : Int32) (z : Bool) (t : Int32) (k : Nat) (hk : k ≤ 6) : Met l yX5_time wsX5_time ({ frames := 2, cells := 0, slots := 0, locals := 45 }) (pcM G [.ref (a 0), .int r, .int (b2i z), .int t] (mW G a st kp hi sl sv pd td (nI k) pl pt rt bn)) (qMU G (some (.int (cond (inr r 0 9) (cond (inr t 1 9) (st (px (rk r) (zk z))) (-2)) (-1)))) (mW G a st kp hi sl sv pd td (nI k) pl pt rt bn) (mW G a (cond (inr r 0 9 && inr t 1 9) (upd st (px (rk r) (zk z)) t) (st)) kp (cond (inr r 0 9 && inr t 1 9) (recH st hi k) (hi)) sl sv pd td (nI (cond (inr r 0 9 && inr t 1 9) (recC k) (k))) pl pt rt bn)) 0 0 (aA (mW G a st kp hi sl sv pd td (nI k) pl pt rt bn)) := by
  refine hd_MU (cc := cX5_time) (maxL := 6) (ret := some .int) (by decide) rfl (Nat.le_of_ble_eq_true rfl) ?_
  intro p e s m below meth c ls hx hb hr hts hown hlocks hml hP hKK hD hS hl
  have hl : lv_has ls 6 [(0, .ref (a 0)), (1, .int r), (2, .int (b2i z)), (3, .int t)] := hl
  refine lv_iload_n hx hb dX5_time_0 rfl (lv_at hl 1 rfl) ?_
  refine ro_S (As := [.int r]) (rest := []) ⟨hx, hb, hml, hown, hts⟩ (c_X5_isRelay l G r) (va_cwS 1 hts gX5_time_X5_isRelay rfl rfl rfl (by decide +kernel) ⟨Nat.le_of_ble_eq_true rfl, Nat.le_of_ble_eq_true rfl⟩) (show gP G [] _ from fun k q h => by simp at h) hKK rfl hl.1 rfl (Nat.le_of_ble_eq_true rfl) dX5_time_1 (Nat.zero_le _) (Nat.zero_le _) ?_
  refine lv_if_ne (tgt := 9) hx hb dX5_time_4 (by decide) (fun c_4 => ?_) (fun c_4 => ?_)
  · skip
    have c_4 := b2i_1 c_4
    refine lv_iload_n hx hb dX5_time_9 rfl (lv_at hl 3 rfl) ?_
    refine lv_iconst (v := 1) hx hb dX5_time_10 (by decide) ?_
    refine lv_bipush (v := 9) hx hb dX5_time_11 (by decide) ?_
    refine ro_S (As := [.int t, .int 1, .int 9]) (rest := []) ⟨hx, hb, hml, hown, hts⟩ (c_X5_within l G t 1 9) (va_cwS 3 hts gX5_time_X5_within rfl rfl rfl (by decide +kernel) ⟨Nat.le_of_ble_eq_true rfl, Nat.le_of_ble_eq_true rfl⟩) (show gP G [] _ from fun k q h => by simp at h) hKK rfl hl.1 rfl (Nat.le_of_ble_eq_true rfl) dX5_time_13 (Nat.zero_le _) (Nat.zero_le _) ?_
    refine lv_if_ne (tgt := 22) hx hb dX5_time_16 (by decide) (fun c_16 => ?_) (fun c_16 => ?_)
    · skip
      have c_16 := b2i_1 c_16
      have hr9 := inr_rk c_4
      have hl : lv_has ls 6 [(0, .ref (a 0)), (1, .int (nI (rk r))), (2, .int (b2i z)), (3, .int t)] := by have e_l1 : r = (nI (rk r)) := (hr9.1); rw [← e_l1]; exact hl
      refine lv_aload_n hx hb dX5_time_22 rfl (lv_at hl 0 rfl) ?_
      refine mu_V (As := []) (rest := []) ⟨hx, hb, hml, hown, hts⟩ (c_X5_record l G a st kp hi sl sv pd td pl pt rt bn k (by omega)) (cwV 0 hts gX5_time_X5_record rfl rfl rfl (by decide +kernel) ⟨Nat.le_of_ble_eq_true rfl, Nat.le_of_ble_eq_true rfl⟩) hP hKK hD hS (va_recv hKK.1 hP (ci := 5) (q0 := 0) rfl rfl) rfl hl.1 rfl (Nat.le_of_ble_eq_true rfl) dX5_time_23 (Nat.zero_le _) (Nat.zero_le _) (rfl) (fun H locs hP hD hS => ?_)
      refine lv_iload_n hx hb dX5_time_26 rfl (lv_at hl 2 rfl) ?_
      refine lv_if_eq (tgt := 34) hx hb dX5_time_27 (by decide) (fun c_27 => ?_) (fun c_27 => ?_)
      · skip
        have c_27 := b2i_0 c_27
        refine lv_iconst (v := 0) hx hb dX5_time_34 (by decide) ?_
        refine lv_istore (lv' := [(4, .int 0), (0, .ref (a 0)), (1, .int (nI (rk r))), (2, .int (b2i z)), (3, .int t)]) hx hb dX5_time_35 hl (by decide) rfl (fun ls hl => ?_)
        refine lv_aload_n hx hb dX5_time_37 rfl (lv_at hl 1 rfl) ?_
        refine lv_iload_n hx hb dX5_time_38 rfl (lv_at hl 2 rfl) ?_
        refine lv_iload hx hb dX5_time_39 (lv_at hl 0 rfl) ?_
        refine ro_V (As := [.int (nI (rk r)), .int (nI 0)]) (rest := []) ⟨hx, hb, hml, hown, hts⟩ (c_X5_part l G a st kp (recH st hi k) sl sv pd td (nI (recC k)) pl pt rt bn (rk r) 0 (by omega) (by omega)) (cwV 2 hts gX5_time_X5_part rfl rfl rfl (by decide +kernel) ⟨Nat.le_of_ble_eq_true rfl, Nat.le_of_ble_eq_true rfl⟩) hP hKK (va_recv hKK.1 hP (ci := 5) (q0 := 0) rfl rfl) rfl hl.1 rfl (Nat.le_of_ble_eq_true rfl) dX5_time_41 (Nat.zero_le _) (Nat.zero_le _) ?_
        refine lv_istore (lv' := [(5, .int (st (px (rk r) 0))), (4, .int 0), (0, .ref (a 0)), (1, .int (nI (rk r))), (2, .int (b2i z)), (3, .int t)]) hx hb dX5_time_44 hl (by decide) rfl (fun ls hl => ?_)
        refine lv_aload_n hx hb dX5_time_46 rfl (lv_at hl 2 rfl) ?_
        refine lv_iload_n hx hb dX5_time_47 rfl (lv_at hl 3 rfl) ?_
        refine lv_iload hx hb dX5_time_48 (lv_at hl 1 rfl) ?_
        refine lv_iload_n hx hb dX5_time_50 rfl (lv_at hl 5 rfl) ?_
        refine mu_V (As := [.int (nI (rk r)), .int (nI 0), .int t]) (rest := []) ⟨hx, hb, hml, hown, hts⟩ (c_X5_setPart l G a st kp (recH st hi k) sl sv pd td (nI (recC k)) pl pt rt bn (rk r) 0 (by omega) (by omega) t) (cwV 3 hts gX5_time_X5_setPart rfl rfl rfl (by decide +kernel) ⟨Nat.le_of_ble_eq_true rfl, Nat.le_of_ble_eq_true rfl⟩) hP hKK hD hS (va_recv hKK.1 hP (ci := 5) (q0 := 0) rfl rfl) rfl hl.1 rfl (Nat.le_of_ble_eq_true rfl) dX5_time_51 (Nat.zero_le _) (Nat.zero_le _) (rfl) (fun H locs hP hD hS => ?_)
        refine lv_iload hx hb dX5_time_54 (lv_at hl 0 rfl) ?_
        exact ex_MUi (w2 := (mW G a (upd st (px (rk r) 0) t) kp (recH st hi k) sl sv pd td (nI (recC k)) pl pt rt bn)) hx hb hr hlocks hP hS dX5_time_56 (by rw [c_4, c_16, c_27] <;> rfl) (fun h => by rw [c_4, c_16, c_27]; exact h)
      · skip
        have c_27 := b2i_1 c_27
        refine lv_iconst (v := 1) hx hb dX5_time_30 (by decide) ?_
        refine lv_goto (tgt := 35) hx hb dX5_time_31 (by decide) ?_
        refine lv_istore (lv' := [(4, .int 1), (0, .ref (a 0)), (1, .int (nI (rk r))), (2, .int (b2i z)), (3, .int t)]) hx hb dX5_time_35 hl (by decide) rfl (fun ls hl => ?_)
        refine lv_aload_n hx hb dX5_time_37 rfl (lv_at hl 1 rfl) ?_
        refine lv_iload_n hx hb dX5_time_38 rfl (lv_at hl 2 rfl) ?_
        refine lv_iload hx hb dX5_time_39 (lv_at hl 0 rfl) ?_
        refine ro_V (As := [.int (nI (rk r)), .int (nI 1)]) (rest := []) ⟨hx, hb, hml, hown, hts⟩ (c_X5_part l G a st kp (recH st hi k) sl sv pd td (nI (recC k)) pl pt rt bn (rk r) 1 (by omega) (by omega)) (cwV 2 hts gX5_time_X5_part rfl rfl rfl (by decide +kernel) ⟨Nat.le_of_ble_eq_true rfl, Nat.le_of_ble_eq_true rfl⟩) hP hKK (va_recv hKK.1 hP (ci := 5) (q0 := 0) rfl rfl) rfl hl.1 rfl (Nat.le_of_ble_eq_true rfl) dX5_time_41 (Nat.zero_le _) (Nat.zero_le _) ?_
        refine lv_istore (lv' := [(5, .int (st (px (rk r) 1))), (4, .int 1), (0, .ref (a 0)), (1, .int (nI (rk r))), (2, .int (b2i z)), (3, .int t)]) hx hb dX5_time_44 hl (by decide) rfl (fun ls hl => ?_)
        refine lv_aload_n hx hb dX5_time_46 rfl (lv_at hl 2 rfl) ?_
        refine lv_iload_n hx hb dX5_time_47 rfl (lv_at hl 3 rfl) ?_
        refine lv_iload hx hb dX5_time_48 (lv_at hl 1 rfl) ?_
        refine lv_iload_n hx hb dX5_time_50 rfl (lv_at hl 5 rfl) ?_
        refine mu_V (As := [.int (nI (rk r)), .int (nI 1), .int t]) (rest := []) ⟨hx, hb, hml, hown, hts⟩ (c_X5_setPart l G a st kp (recH st hi k) sl sv pd td (nI (recC k)) pl pt rt bn (rk r) 1 (by omega) (by omega) t) (cwV 3 hts gX5_time_X5_setPart rfl rfl rfl (by decide +kernel) ⟨Nat.le_of_ble_eq_true rfl, Nat.le_of_ble_eq_true rfl⟩) hP hKK hD hS (va_recv hKK.1 hP (ci := 5) (q0 := 0) rfl rfl) rfl hl.1 rfl (Nat.le_of_ble_eq_true rfl) dX5_time_51 (Nat.zero_le _) (Nat.zero_le _) (rfl) (fun H locs hP hD hS => ?_)
        refine lv_iload hx hb dX5_time_54 (lv_at hl 0 rfl) ?_
        exact ex_MUi (w2 := (mW G a (upd st (px (rk r) 1) t) kp (recH st hi k) sl sv pd td (nI (recC k)) pl pt rt bn)) hx hb hr hlocks hP hS dX5_time_56 (by rw [c_4, c_16, c_27] <;> rfl) (fun h => by rw [c_4, c_16, c_27]; exact h)
    · skip
      have c_16 := b2i_0 c_16
      refine lv_bipush (v := (-2)) hx hb dX5_time_19 (by decide) ?_
      exact ex_MUi (w2 := (mW G a st kp hi sl sv pd td (nI k) pl pt rt bn)) hx hb hr hlocks hP hS dX5_time_21 (by rw [c_4, c_16] <;> rfl) (fun h => by rw [c_4, c_16]; exact h)
  · skip
    have c_4 := b2i_0 c_4
    refine lv_iconst (v := (-1)) hx hb dX5_time_7 (by decide) ?_
    exact ex_MUi (w2 := (mW G a st kp hi sl sv pd td (nI k) pl pt rt bn)) hx hb hr hlocks hP hS dX5_time_8 (by rw [c_4] <;> rfl) (fun h => by rw [c_4]; exact h)
set_option maxRecDepth 20000 in
theorem hin_X5_life_X5 : ∀ w ∈ u_ws RX5 TX5 12, w ∈ wsX5_life := by decide +kernel
theorem lk_X5_life_7 : Cond.fieldLink RX5 7 "WeldedRelaysModel" "state" "[I" ∈ wsX5_life := by decide +kernel
set_option maxHeartbeats 4000000 in
set_option maxRecDepth 100000 in
/-- X5_life -/
theorem c_X5_life (l : Launch) (G : GG) (a : Nat → Nat) (st : Nat → Int32) (kp : Nat → Int32) (hi : Nat → Int32) (sl : Nat → Int32) (sv : Nat → Int32) (pd : Nat → Int32) (td : Nat → Int32) (pl : Int32) (pt : Int32) (rt : Int32) (bn : Int32) (x : Int32) (k : Nat) (hk : k ≤ 6) : Met l yX5_life wsX5_life ({ frames := 2, cells := 0, slots := 0, locals := 45 }) (pcM G [.ref (a 0), .int x] (mW G a st kp hi sl sv pd td (nI k) pl pt rt bn)) (qMU G (some (.int (cond (inr x 0 99) (st 5) (-2)))) (mW G a st kp hi sl sv pd td (nI k) pl pt rt bn) (mW G a (cond (inr x 0 99) (upd st 5 x) (st)) kp (cond (inr x 0 99) (recH st hi k) (hi)) sl sv pd td (nI (cond (inr x 0 99) (recC k) (k))) pl pt rt bn)) 0 0 (aA (mW G a st kp hi sl sv pd td (nI k) pl pt rt bn)) := by
  refine hd_MU (cc := cX5_life) (maxL := 3) (ret := some .int) (by decide) rfl (Nat.le_of_ble_eq_true rfl) ?_
  intro p e s m below meth c ls hx hb hr hts hown hlocks hml hP hKK hD hS hl
  have hl : lv_has ls 3 [(0, .ref (a 0)), (1, .int x)] := hl
  refine lv_iload_n hx hb dX5_life_0 rfl (lv_at hl 1 rfl) ?_
  refine lv_iconst (v := 0) hx hb dX5_life_1 (by decide) ?_
  refine lv_bipush (v := 99) hx hb dX5_life_2 (by decide) ?_
  refine ro_S (As := [.int x, .int 0, .int 99]) (rest := []) ⟨hx, hb, hml, hown, hts⟩ (c_X5_within l G x 0 99) (va_cwS 3 hts gX5_life_X5_within rfl rfl rfl (by decide +kernel) ⟨Nat.le_of_ble_eq_true rfl, Nat.le_of_ble_eq_true rfl⟩) (show gP G [] _ from fun k q h => by simp at h) hKK rfl hl.1 rfl (Nat.le_of_ble_eq_true rfl) dX5_life_4 (Nat.zero_le _) (Nat.zero_le _) ?_
  refine lv_if_ne (tgt := 13) hx hb dX5_life_7 (by decide) (fun c_7 => ?_) (fun c_7 => ?_)
  · skip
    have c_7 := b2i_1 c_7
    refine lv_aload_n hx hb dX5_life_13 rfl (lv_at hl 0 rfl) ?_
    refine mu_V (As := []) (rest := []) ⟨hx, hb, hml, hown, hts⟩ (c_X5_record l G a st kp hi sl sv pd td pl pt rt bn k (by omega)) (cwV 0 hts gX5_life_X5_record rfl rfl rfl (by decide +kernel) ⟨Nat.le_of_ble_eq_true rfl, Nat.le_of_ble_eq_true rfl⟩) hP hKK hD hS (va_recv hKK.1 hP (ci := 5) (q0 := 0) rfl rfl) rfl hl.1 rfl (Nat.le_of_ble_eq_true rfl) dX5_life_14 (Nat.zero_le _) (Nat.zero_le _) (rfl) (fun H locs hP hD hS => ?_)
    refine lv_aload_n hx hb dX5_life_17 rfl (lv_at hl 0 rfl) ?_
    refine va_get (D := gD G) (ci := 5) (v := .ref (a 1)) (C := RX5) (T := TX5) (N := 12) hx hb hts hin_X5_life_X5 hown hKK.1 hP 0 rfl rfl 0 (by decide) (hts _ lk_X5_life_7) (fun _ h9 => h9) rfl dX5_life_18 ?_
    refine lv_iconst (v := 5) hx hb dX5_life_21 (by decide) ?_
    refine va_ialdN (j := 5) (v := st 5) hx hb hKK.1 hP 1 0 rfl rfl (rfl) (by omega) (by decide) (rfl) dX5_life_22 ?_
    refine lv_istore_n (lv' := [(2, .int (st 5)), (0, .ref (a 0)), (1, .int x)]) hx hb dX5_life_23 rfl hl (by decide) rfl (fun ls hl => ?_)
    refine lv_aload_n hx hb dX5_life_24 rfl (lv_at hl 1 rfl) ?_
    refine va_get (D := gD G) (ci := 5) (v := .ref (a 1)) (C := RX5) (T := TX5) (N := 12) hx hb hts hin_X5_life_X5 hown hKK.1 hP 0 rfl rfl 0 (by decide) (hts _ lk_X5_life_7) (fun _ h9 => h9) rfl dX5_life_25 ?_
    refine lv_iconst (v := 5) hx hb dX5_life_28 (by decide) ?_
    refine lv_iload_n hx hb dX5_life_29 rfl (lv_at hl 2 rfl) ?_
    refine va_iastN (j := 5) (x := x) hx hb hKK.1 hP hD hS 1 0 rfl rfl (rfl) (by omega) (by decide) dX5_life_30 (fun H locs hP hD hS => ?_)
    have hP : gP G (mW G a (upd st 5 x) kp (recH st hi k) sl sv pd td (nI (recC k)) pl pt rt bn) H := hP
    have hD : va_D (aA (mW G a st kp hi sl sv pd td (nI k) pl pt rt bn)) (mW G a (upd st 5 x) kp (recH st hi k) sl sv pd td (nI (recC k)) pl pt rt bn) := hD
    refine lv_iload_n hx hb dX5_life_31 rfl (lv_at hl 0 rfl) ?_
    exact ex_MUi (w2 := (mW G a (upd st 5 x) kp (recH st hi k) sl sv pd td (nI (recC k)) pl pt rt bn)) hx hb hr hlocks hP hS dX5_life_32 (by rw [c_7] <;> rfl) (fun h => by rw [c_7]; exact h)
  · skip
    have c_7 := b2i_0 c_7
    refine lv_bipush (v := (-2)) hx hb dX5_life_10 (by decide) ?_
    exact ex_MUi (w2 := (mW G a st kp hi sl sv pd td (nI k) pl pt rt bn)) hx hb hr hlocks hP hS dX5_life_12 (by rw [c_7] <;> rfl) (fun h => by rw [c_7]; exact h)
set_option maxRecDepth 20000 in
theorem hin_X5_press_X5 : ∀ w ∈ u_ws RX5 TX5 12, w ∈ wsX5_press := by decide +kernel
theorem lk_X5_press_7 : Cond.fieldLink RX5 7 "WeldedRelaysModel" "state" "[I" ∈ wsX5_press := by decide +kernel
set_option maxHeartbeats 4000000 in
set_option maxRecDepth 100000 in
/-- X5_press -/
theorem c_X5_press (l : Launch) (G : GG) (a : Nat → Nat) (st : Nat → Int32) (kp : Nat → Int32) (hi : Nat → Int32) (sl : Nat → Int32) (sv : Nat → Int32) (pd : Nat → Int32) (td : Nat → Int32) (pl : Int32) (pt : Int32) (rt : Int32) (bn : Int32) (b : Int32) (z : Bool) (k : Nat) (hk : k ≤ 6) (hI : RI st) : Met l yX5_press wsX5_press ({ frames := 6, cells := 0, slots := 0, locals := 134 }) (pcM G [.ref (a 0), .int b, .int (b2i z)] (mW G a st kp hi sl sv pd td (nI k) pl pt rt bn)) (qMU G (some (.int (cond (inr b 0 5) (cond (hs (st 2) b == z) (-5) (wan (upd st 2 (st 2 ^^^ shl 1 b)))) (-1)))) (mW G a st kp hi sl sv pd td (nI k) pl pt rt bn) (mW G a (cond (inr b 0 5 && !(hs (st 2) b == z)) (upd st 2 (st 2 ^^^ shl 1 b)) (st)) kp (cond (inr b 0 5 && !(hs (st 2) b == z)) (recH st hi k) (hi)) sl sv pd td (nI (cond (inr b 0 5 && !(hs (st 2) b == z)) (recC k) (k))) pl pt rt bn)) 0 0 (aA (mW G a st kp hi sl sv pd td (nI k) pl pt rt bn)) := by
  refine hd_MU (cc := cX5_press) (maxL := 3) (ret := some .int) (by decide) rfl (Nat.le_of_ble_eq_true rfl) ?_
  intro p e s m below meth c ls hx hb hr hts hown hlocks hml hP hKK hD hS hl
  have hl : lv_has ls 3 [(0, .ref (a 0)), (1, .int b), (2, .int (b2i z))] := hl
  refine lv_iload_n hx hb dX5_press_0 rfl (lv_at hl 1 rfl) ?_
  refine lv_iconst (v := 0) hx hb dX5_press_1 (by decide) ?_
  refine lv_iconst (v := 5) hx hb dX5_press_2 (by decide) ?_
  refine ro_S (As := [.int b, .int 0, .int 5]) (rest := []) ⟨hx, hb, hml, hown, hts⟩ (c_X5_within l G b 0 5) (va_cwS 3 hts gX5_press_X5_within rfl rfl rfl (by decide +kernel) ⟨Nat.le_of_ble_eq_true rfl, Nat.le_of_ble_eq_true rfl⟩) (show gP G [] _ from fun k q h => by simp at h) hKK rfl hl.1 rfl (Nat.le_of_ble_eq_true rfl) dX5_press_3 (Nat.zero_le _) (Nat.zero_le _) ?_
  refine lv_if_ne (tgt := 11) hx hb dX5_press_6 (by decide) (fun c_6 => ?_) (fun c_6 => ?_)
  · skip
    have c_6 := b2i_1 c_6
    refine lv_aload_n hx hb dX5_press_11 rfl (lv_at hl 0 rfl) ?_
    refine va_get (D := gD G) (ci := 5) (v := .ref (a 1)) (C := RX5) (T := TX5) (N := 12) hx hb hts hin_X5_press_X5 hown hKK.1 hP 0 rfl rfl 0 (by decide) (hts _ lk_X5_press_7) (fun _ h9 => h9) rfl dX5_press_12 ?_
    refine lv_iconst (v := 2) hx hb dX5_press_15 (by decide) ?_
    refine va_ialdN (j := 2) (v := st 2) hx hb hKK.1 hP 1 0 rfl rfl (rfl) (by omega) (by decide) (rfl) dX5_press_16 ?_
    refine lv_iload_n hx hb dX5_press_17 rfl (lv_at hl 1 rfl) ?_
    refine ro_S (As := [.int (st 2), .int b]) (rest := []) ⟨hx, hb, hml, hown, hts⟩ (c_X5_has l G (st 2) b) (va_cwS 2 hts gX5_press_X5_has rfl rfl rfl (by decide +kernel) ⟨Nat.le_of_ble_eq_true rfl, Nat.le_of_ble_eq_true rfl⟩) (show gP G [] _ from fun k q h => by simp at h) hKK rfl hl.1 rfl (Nat.le_of_ble_eq_true rfl) dX5_press_18 (Nat.zero_le _) (Nat.zero_le _) ?_
    refine lv_iload_n hx hb dX5_press_21 rfl (lv_at hl 2 rfl) ?_
    refine lv_icmp_ne (tgt := 28) hx hb dX5_press_22 (by decide) (fun c_22 => ?_) (fun c_22 => ?_)
    · skip
      have c_22 := b2i_ne c_22
      refine lv_aload_n hx hb dX5_press_28 rfl (lv_at hl 0 rfl) ?_
      refine mu_V (As := []) (rest := []) ⟨hx, hb, hml, hown, hts⟩ (c_X5_record l G a st kp hi sl sv pd td pl pt rt bn k (by omega)) (cwV 0 hts gX5_press_X5_record rfl rfl rfl (by decide +kernel) ⟨Nat.le_of_ble_eq_true rfl, Nat.le_of_ble_eq_true rfl⟩) hP hKK hD hS (va_recv hKK.1 hP (ci := 5) (q0 := 0) rfl rfl) rfl hl.1 rfl (Nat.le_of_ble_eq_true rfl) dX5_press_29 (Nat.zero_le _) (Nat.zero_le _) (rfl) (fun H locs hP hD hS => ?_)
      refine lv_aload_n hx hb dX5_press_32 rfl (lv_at hl 0 rfl) ?_
      refine va_get (D := gD G) (ci := 5) (v := .ref (a 1)) (C := RX5) (T := TX5) (N := 12) hx hb hts hin_X5_press_X5 hown hKK.1 hP 0 rfl rfl 0 (by decide) (hts _ lk_X5_press_7) (fun _ h9 => h9) rfl dX5_press_33 ?_
      refine lv_iconst (v := 2) hx hb dX5_press_36 (by decide) ?_
      refine lv_dup2_11 hx hb dX5_press_37 rfl rfl ?_
      refine va_ialdN (j := 2) (v := st 2) hx hb hKK.1 hP 1 0 rfl rfl (rfl) (by omega) (by decide) (rfl) dX5_press_38 ?_
      refine lv_iconst (v := 1) hx hb dX5_press_39 (by decide) ?_
      refine lv_iload_n hx hb dX5_press_40 rfl (lv_at hl 1 rfl) ?_
      refine lv_ishl hx hb dX5_press_41 ?_
      refine lv_asi (y := shl 1 b) rfl ?_
      refine lv_ixor hx hb dX5_press_42 ?_
      refine va_iastN (j := 2) (x := ((st 2) ^^^ (shl 1 b))) hx hb hKK.1 hP hD hS 1 0 rfl rfl (rfl) (by omega) (by decide) dX5_press_43 (fun H locs hP hD hS => ?_)
      have hP : gP G (mW G a (upd st 2 ((st 2) ^^^ (shl 1 b))) kp (recH st hi k) sl sv pd td (nI (recC k)) pl pt rt bn) H := hP
      have hD : va_D (aA (mW G a st kp hi sl sv pd td (nI k) pl pt rt bn)) (mW G a (upd st 2 ((st 2) ^^^ (shl 1 b))) kp (recH st hi k) sl sv pd td (nI (recC k)) pl pt rt bn) := hD
      refine lv_aload_n hx hb dX5_press_44 rfl (lv_at hl 0 rfl) ?_
      refine ro_V (As := []) (rest := []) ⟨hx, hb, hml, hown, hts⟩ (c_X5_wanting l G a (upd st 2 ((st 2) ^^^ (shl 1 b))) kp (recH st hi k) sl sv pd td (nI (recC k)) pl pt rt bn (RI_lo hI (by decide) _)) (cwV 0 hts gX5_press_X5_wanting rfl rfl rfl (by decide +kernel) ⟨Nat.le_of_ble_eq_true rfl, Nat.le_of_ble_eq_true rfl⟩) hP hKK (va_recv hKK.1 hP (ci := 5) (q0 := 0) rfl rfl) rfl hl.1 rfl (Nat.le_of_ble_eq_true rfl) dX5_press_45 (Nat.zero_le _) (Nat.zero_le _) ?_
      exact ex_MUi (w2 := (mW G a (upd st 2 ((st 2) ^^^ (shl 1 b))) kp (recH st hi k) sl sv pd td (nI (recC k)) pl pt rt bn)) hx hb hr hlocks hP hS dX5_press_48 (by rw [c_6, c_22] <;> rfl) (fun h => by rw [c_6, c_22]; exact h)
    · skip
      have c_22 := b2i_eq c_22
      refine lv_bipush (v := (-5)) hx hb dX5_press_25 (by decide) ?_
      exact ex_MUi (w2 := (mW G a st kp hi sl sv pd td (nI k) pl pt rt bn)) hx hb hr hlocks hP hS dX5_press_27 (by rw [c_6, c_22] <;> rfl) (fun h => by rw [c_6, c_22]; exact h)
  · skip
    have c_6 := b2i_0 c_6
    refine lv_iconst (v := (-1)) hx hb dX5_press_9 (by decide) ?_
    exact ex_MUi (w2 := (mW G a st kp hi sl sv pd td (nI k) pl pt rt bn)) hx hb hr hlocks hP hS dX5_press_10 (by rw [c_6] <;> rfl) (fun h => by rw [c_6]; exact h)
set_option maxRecDepth 20000 in
theorem hin_X5_weld_X5 : ∀ w ∈ u_ws RX5 TX5 12, w ∈ wsX5_weld := by decide +kernel
theorem lk_X5_weld_7 : Cond.fieldLink RX5 7 "WeldedRelaysModel" "state" "[I" ∈ wsX5_weld := by decide +kernel
set_option maxHeartbeats 4000000 in
set_option maxRecDepth 100000 in
/-- X5_weld -/
theorem c_X5_weld (l : Launch) (G : GG) (a : Nat → Nat) (st : Nat → Int32) (kp : Nat → Int32) (hi : Nat → Int32) (sl : Nat → Int32) (sv : Nat → Int32) (pd : Nat → Int32) (td : Nat → Int32) (pl : Int32) (pt : Int32) (rt : Int32) (bn : Int32) (r : Int32) (z : Bool) (k : Nat) (hk : k ≤ 6) : Met l yX5_weld wsX5_weld ({ frames := 2, cells := 0, slots := 0, locals := 45 }) (pcM G [.ref (a 0), .int r, .int (b2i z)] (mW G a st kp hi sl sv pd td (nI k) pl pt rt bn)) (qMU G (some (.int (cond (inr r 0 9) (cond ((hs (st 1) (nI (rk r)) == z) || (z && !hs (st 0) (nI (rk r)))) (-5) (st (px (rk r) 3))) (-1)))) (mW G a st kp hi sl sv pd td (nI k) pl pt rt bn) (mW G a (cond (inr r 0 9 && !((hs (st 1) (nI (rk r)) == z) || (z && !hs (st 0) (nI (rk r))))) (cond (z) (upd st 1 (st 1 ^^^ shl 1 (nI (rk r)))) (upd (upd st 1 (st 1 ^^^ shl 1 (nI (rk r)))) (px (rk r) 3) 0)) (st)) kp (cond (inr r 0 9 && !((hs (st 1) (nI (rk r)) == z) || (z && !hs (st 0) (nI (rk r))))) (recH st hi k) (hi)) sl sv pd td (nI (cond (inr r 0 9 && !((hs (st 1) (nI (rk r)) == z) || (z && !hs (st 0) (nI (rk r))))) (recC k) (k))) pl pt rt bn)) 0 0 (aA (mW G a st kp hi sl sv pd td (nI k) pl pt rt bn)) := by
  refine hd_MU (cc := cX5_weld) (maxL := 4) (ret := some .int) (by decide) rfl (Nat.le_of_ble_eq_true rfl) ?_
  intro p e s m below meth c ls hx hb hr hts hown hlocks hml hP hKK hD hS hl
  have hl : lv_has ls 4 [(0, .ref (a 0)), (1, .int r), (2, .int (b2i z))] := hl
  refine lv_iload_n hx hb dX5_weld_0 rfl (lv_at hl 1 rfl) ?_
  refine ro_S (As := [.int r]) (rest := []) ⟨hx, hb, hml, hown, hts⟩ (c_X5_isRelay l G r) (va_cwS 1 hts gX5_weld_X5_isRelay rfl rfl rfl (by decide +kernel) ⟨Nat.le_of_ble_eq_true rfl, Nat.le_of_ble_eq_true rfl⟩) (show gP G [] _ from fun k q h => by simp at h) hKK rfl hl.1 rfl (Nat.le_of_ble_eq_true rfl) dX5_weld_1 (Nat.zero_le _) (Nat.zero_le _) ?_
  refine lv_if_ne (tgt := 9) hx hb dX5_weld_4 (by decide) (fun c_4 => ?_) (fun c_4 => ?_)
  · skip
    have c_4 := b2i_1 c_4
    have hr9 := inr_rk c_4
    have hl : lv_has ls 4 [(0, .ref (a 0)), (1, .int (nI (rk r))), (2, .int (b2i z))] := by have e_l1 : r = (nI (rk r)) := (hr9.1); rw [← e_l1]; exact hl
    refine lv_aload_n hx hb dX5_weld_9 rfl (lv_at hl 0 rfl) ?_
    refine va_get (D := gD G) (ci := 5) (v := .ref (a 1)) (C := RX5) (T := TX5) (N := 12) hx hb hts hin_X5_weld_X5 hown hKK.1 hP 0 rfl rfl 0 (by decide) (hts _ lk_X5_weld_7) (fun _ h9 => h9) rfl dX5_weld_10 ?_
    refine lv_iconst (v := 1) hx hb dX5_weld_13 (by decide) ?_
    refine va_ialdN (j := 1) (v := st 1) hx hb hKK.1 hP 1 0 rfl rfl (rfl) (by omega) (by decide) (rfl) dX5_weld_14 ?_
    refine lv_iload_n hx hb dX5_weld_15 rfl (lv_at hl 1 rfl) ?_
    refine ro_S (As := [.int (st 1), .int (nI (rk r))]) (rest := []) ⟨hx, hb, hml, hown, hts⟩ (c_X5_has l G (st 1) (nI (rk r))) (va_cwS 2 hts gX5_weld_X5_has rfl rfl rfl (by decide +kernel) ⟨Nat.le_of_ble_eq_true rfl, Nat.le_of_ble_eq_true rfl⟩) (show gP G [] _ from fun k q h => by simp at h) hKK rfl hl.1 rfl (Nat.le_of_ble_eq_true rfl) dX5_weld_16 (Nat.zero_le _) (Nat.zero_le _) ?_
    refine lv_iload_n hx hb dX5_weld_19 rfl (lv_at hl 2 rfl) ?_
    refine lv_icmp_eq (tgt := 40) hx hb dX5_weld_20 (by decide) (fun c_20 => ?_) (fun c_20 => ?_)
    · skip
      have c_20 := b2i_eq c_20
      refine lv_bipush (v := (-5)) hx hb dX5_weld_40 (by decide) ?_
      exact ex_MUi (w2 := (mW G a st kp hi sl sv pd td (nI k) pl pt rt bn)) hx hb hr hlocks hP hS dX5_weld_42 (by rw [c_4, c_20] <;> rfl) (fun h => by rw [c_4, c_20]; exact h)
    · skip
      have c_20 := b2i_ne c_20
      refine lv_iload_n hx hb dX5_weld_23 rfl (lv_at hl 2 rfl) ?_
      refine lv_if_eq (tgt := 43) hx hb dX5_weld_24 (by decide) (fun c_24 => ?_) (fun c_24 => ?_)
      · skip
        have c_24 := b2i_0 c_24
        refine lv_aload_n hx hb dX5_weld_43 rfl (lv_at hl 0 rfl) ?_
        refine mu_V (As := []) (rest := []) ⟨hx, hb, hml, hown, hts⟩ (c_X5_record l G a st kp hi sl sv pd td pl pt rt bn k (by omega)) (cwV 0 hts gX5_weld_X5_record rfl rfl rfl (by decide +kernel) ⟨Nat.le_of_ble_eq_true rfl, Nat.le_of_ble_eq_true rfl⟩) hP hKK hD hS (va_recv hKK.1 hP (ci := 5) (q0 := 0) rfl rfl) rfl hl.1 rfl (Nat.le_of_ble_eq_true rfl) dX5_weld_44 (Nat.zero_le _) (Nat.zero_le _) (rfl) (fun H locs hP hD hS => ?_)
        refine lv_aload_n hx hb dX5_weld_47 rfl (lv_at hl 0 rfl) ?_
        refine lv_iload_n hx hb dX5_weld_48 rfl (lv_at hl 1 rfl) ?_
        refine lv_iconst (v := 3) hx hb dX5_weld_49 (by decide) ?_
        refine ro_V (As := [.int (nI (rk r)), .int (nI 3)]) (rest := []) ⟨hx, hb, hml, hown, hts⟩ (c_X5_part l G a st kp (recH st hi k) sl sv pd td (nI (recC k)) pl pt rt bn (rk r) 3 (by omega) (by omega)) (cwV 2 hts gX5_weld_X5_part rfl rfl rfl (by decide +kernel) ⟨Nat.le_of_ble_eq_true rfl, Nat.le_of_ble_eq_true rfl⟩) hP hKK (va_recv hKK.1 hP (ci := 5) (q0 := 0) rfl rfl) rfl hl.1 rfl (Nat.le_of_ble_eq_true rfl) dX5_weld_50 (Nat.zero_le _) (Nat.zero_le _) ?_
        refine lv_istore_n (lv' := [(3, .int (st (px (rk r) 3))), (0, .ref (a 0)), (1, .int (nI (rk r))), (2, .int (b2i z))]) hx hb dX5_weld_53 rfl hl (by decide) rfl (fun ls hl => ?_)
        refine lv_aload_n hx hb dX5_weld_54 rfl (lv_at hl 1 rfl) ?_
        refine va_get (D := gD G) (ci := 5) (v := .ref (a 1)) (C := RX5) (T := TX5) (N := 12) hx hb hts hin_X5_weld_X5 hown hKK.1 hP 0 rfl rfl 0 (by decide) (hts _ lk_X5_weld_7) (fun _ h9 => h9) rfl dX5_weld_55 ?_
        refine lv_iconst (v := 1) hx hb dX5_weld_58 (by decide) ?_
        refine lv_dup2_11 hx hb dX5_weld_59 rfl rfl ?_
        refine va_ialdN (j := 1) (v := st 1) hx hb hKK.1 hP 1 0 rfl rfl (rfl) (by omega) (by decide) (rfl) dX5_weld_60 ?_
        refine lv_iconst (v := 1) hx hb dX5_weld_61 (by decide) ?_
        refine lv_iload_n hx hb dX5_weld_62 rfl (lv_at hl 2 rfl) ?_
        refine lv_ishl hx hb dX5_weld_63 ?_
        refine lv_asi (y := shl 1 (nI (rk r))) rfl ?_
        refine lv_ixor hx hb dX5_weld_64 ?_
        refine va_iastN (j := 1) (x := ((st 1) ^^^ (shl 1 (nI (rk r))))) hx hb hKK.1 hP hD hS 1 0 rfl rfl (rfl) (by omega) (by decide) dX5_weld_65 (fun H locs hP hD hS => ?_)
        have hP : gP G (mW G a (upd st 1 ((st 1) ^^^ (shl 1 (nI (rk r))))) kp (recH st hi k) sl sv pd td (nI (recC k)) pl pt rt bn) H := hP
        have hD : va_D (aA (mW G a st kp hi sl sv pd td (nI k) pl pt rt bn)) (mW G a (upd st 1 ((st 1) ^^^ (shl 1 (nI (rk r))))) kp (recH st hi k) sl sv pd td (nI (recC k)) pl pt rt bn) := hD
        refine lv_iload_n hx hb dX5_weld_66 rfl (lv_at hl 3 rfl) ?_
        refine lv_if_ne (tgt := 77) hx hb dX5_weld_67 (by decide) (fun c_67 => ?_) (fun c_67 => ?_)
        · skip
          have c_67 := b2i_1 c_67
          exact Bool.noConfusion (c_24.symm.trans c_67)
        · skip
          have c_67 := b2i_0 c_67
          refine lv_aload_n hx hb dX5_weld_70 rfl (lv_at hl 1 rfl) ?_
          refine lv_iload_n hx hb dX5_weld_71 rfl (lv_at hl 2 rfl) ?_
          refine lv_iconst (v := 3) hx hb dX5_weld_72 (by decide) ?_
          refine lv_iconst (v := 0) hx hb dX5_weld_73 (by decide) ?_
          refine mu_V (As := [.int (nI (rk r)), .int (nI 3), .int 0]) (rest := []) ⟨hx, hb, hml, hown, hts⟩ (c_X5_setPart l G a (upd st 1 ((st 1) ^^^ (shl 1 (nI (rk r))))) kp (recH st hi k) sl sv pd td (nI (recC k)) pl pt rt bn (rk r) 3 (by omega) (by omega) 0) (cwV 3 hts gX5_weld_X5_setPart rfl rfl rfl (by decide +kernel) ⟨Nat.le_of_ble_eq_true rfl, Nat.le_of_ble_eq_true rfl⟩) hP hKK hD hS (va_recv hKK.1 hP (ci := 5) (q0 := 0) rfl rfl) rfl hl.1 rfl (Nat.le_of_ble_eq_true rfl) dX5_weld_74 (Nat.zero_le _) (Nat.zero_le _) (rfl) (fun H locs hP hD hS => ?_)
          refine lv_iload_n hx hb dX5_weld_77 rfl (lv_at hl 0 rfl) ?_
          exact ex_MUi (w2 := (mW G a (upd (upd st 1 ((st 1) ^^^ (shl 1 (nI (rk r))))) (px (rk r) 3) 0) kp (recH st hi k) sl sv pd td (nI (recC k)) pl pt rt bn)) hx hb hr hlocks hP hS dX5_weld_78 (by rw [c_4, c_20, c_24] <;> rfl) (fun h => by rw [c_4, c_20, c_24]; exact h)
      · skip
        have c_24 := b2i_1 c_24
        refine lv_aload_n hx hb dX5_weld_27 rfl (lv_at hl 0 rfl) ?_
        refine va_get (D := gD G) (ci := 5) (v := .ref (a 1)) (C := RX5) (T := TX5) (N := 12) hx hb hts hin_X5_weld_X5 hown hKK.1 hP 0 rfl rfl 0 (by decide) (hts _ lk_X5_weld_7) (fun _ h9 => h9) rfl dX5_weld_28 ?_
        refine lv_iconst (v := 0) hx hb dX5_weld_31 (by decide) ?_
        refine va_ialdN (j := 0) (v := st 0) hx hb hKK.1 hP 1 0 rfl rfl (rfl) (by omega) (by decide) (rfl) dX5_weld_32 ?_
        refine lv_iload_n hx hb dX5_weld_33 rfl (lv_at hl 1 rfl) ?_
        refine ro_S (As := [.int (st 0), .int (nI (rk r))]) (rest := []) ⟨hx, hb, hml, hown, hts⟩ (c_X5_has l G (st 0) (nI (rk r))) (va_cwS 2 hts gX5_weld_X5_has rfl rfl rfl (by decide +kernel) ⟨Nat.le_of_ble_eq_true rfl, Nat.le_of_ble_eq_true rfl⟩) (show gP G [] _ from fun k q h => by simp at h) hKK rfl hl.1 rfl (Nat.le_of_ble_eq_true rfl) dX5_weld_34 (Nat.zero_le _) (Nat.zero_le _) ?_
        refine lv_if_ne (tgt := 43) hx hb dX5_weld_37 (by decide) (fun c_37 => ?_) (fun c_37 => ?_)
        · skip
          have c_37 := b2i_1 c_37
          refine lv_aload_n hx hb dX5_weld_43 rfl (lv_at hl 0 rfl) ?_
          refine mu_V (As := []) (rest := []) ⟨hx, hb, hml, hown, hts⟩ (c_X5_record l G a st kp hi sl sv pd td pl pt rt bn k (by omega)) (cwV 0 hts gX5_weld_X5_record rfl rfl rfl (by decide +kernel) ⟨Nat.le_of_ble_eq_true rfl, Nat.le_of_ble_eq_true rfl⟩) hP hKK hD hS (va_recv hKK.1 hP (ci := 5) (q0 := 0) rfl rfl) rfl hl.1 rfl (Nat.le_of_ble_eq_true rfl) dX5_weld_44 (Nat.zero_le _) (Nat.zero_le _) (rfl) (fun H locs hP hD hS => ?_)
          refine lv_aload_n hx hb dX5_weld_47 rfl (lv_at hl 0 rfl) ?_
          refine lv_iload_n hx hb dX5_weld_48 rfl (lv_at hl 1 rfl) ?_
          refine lv_iconst (v := 3) hx hb dX5_weld_49 (by decide) ?_
          refine ro_V (As := [.int (nI (rk r)), .int (nI 3)]) (rest := []) ⟨hx, hb, hml, hown, hts⟩ (c_X5_part l G a st kp (recH st hi k) sl sv pd td (nI (recC k)) pl pt rt bn (rk r) 3 (by omega) (by omega)) (cwV 2 hts gX5_weld_X5_part rfl rfl rfl (by decide +kernel) ⟨Nat.le_of_ble_eq_true rfl, Nat.le_of_ble_eq_true rfl⟩) hP hKK (va_recv hKK.1 hP (ci := 5) (q0 := 0) rfl rfl) rfl hl.1 rfl (Nat.le_of_ble_eq_true rfl) dX5_weld_50 (Nat.zero_le _) (Nat.zero_le _) ?_
          refine lv_istore_n (lv' := [(3, .int (st (px (rk r) 3))), (0, .ref (a 0)), (1, .int (nI (rk r))), (2, .int (b2i z))]) hx hb dX5_weld_53 rfl hl (by decide) rfl (fun ls hl => ?_)
          refine lv_aload_n hx hb dX5_weld_54 rfl (lv_at hl 1 rfl) ?_
          refine va_get (D := gD G) (ci := 5) (v := .ref (a 1)) (C := RX5) (T := TX5) (N := 12) hx hb hts hin_X5_weld_X5 hown hKK.1 hP 0 rfl rfl 0 (by decide) (hts _ lk_X5_weld_7) (fun _ h9 => h9) rfl dX5_weld_55 ?_
          refine lv_iconst (v := 1) hx hb dX5_weld_58 (by decide) ?_
          refine lv_dup2_11 hx hb dX5_weld_59 rfl rfl ?_
          refine va_ialdN (j := 1) (v := st 1) hx hb hKK.1 hP 1 0 rfl rfl (rfl) (by omega) (by decide) (rfl) dX5_weld_60 ?_
          refine lv_iconst (v := 1) hx hb dX5_weld_61 (by decide) ?_
          refine lv_iload_n hx hb dX5_weld_62 rfl (lv_at hl 2 rfl) ?_
          refine lv_ishl hx hb dX5_weld_63 ?_
          refine lv_asi (y := shl 1 (nI (rk r))) rfl ?_
          refine lv_ixor hx hb dX5_weld_64 ?_
          refine va_iastN (j := 1) (x := ((st 1) ^^^ (shl 1 (nI (rk r))))) hx hb hKK.1 hP hD hS 1 0 rfl rfl (rfl) (by omega) (by decide) dX5_weld_65 (fun H locs hP hD hS => ?_)
          have hP : gP G (mW G a (upd st 1 ((st 1) ^^^ (shl 1 (nI (rk r))))) kp (recH st hi k) sl sv pd td (nI (recC k)) pl pt rt bn) H := hP
          have hD : va_D (aA (mW G a st kp hi sl sv pd td (nI k) pl pt rt bn)) (mW G a (upd st 1 ((st 1) ^^^ (shl 1 (nI (rk r))))) kp (recH st hi k) sl sv pd td (nI (recC k)) pl pt rt bn) := hD
          refine lv_iload_n hx hb dX5_weld_66 rfl (lv_at hl 3 rfl) ?_
          refine lv_if_ne (tgt := 77) hx hb dX5_weld_67 (by decide) (fun c_67 => ?_) (fun c_67 => ?_)
          · skip
            have c_67 := b2i_1 c_67
            refine lv_iload_n hx hb dX5_weld_77 rfl (lv_at hl 0 rfl) ?_
            exact ex_MUi (w2 := (mW G a (upd st 1 ((st 1) ^^^ (shl 1 (nI (rk r))))) kp (recH st hi k) sl sv pd td (nI (recC k)) pl pt rt bn)) hx hb hr hlocks hP hS dX5_weld_78 (by rw [c_4, c_20, c_24, c_37] <;> rfl) (fun h => by rw [c_4, c_20, c_24, c_37]; exact h)
          · skip
            have c_67 := b2i_0 c_67
            exact Bool.noConfusion (c_24.symm.trans c_67)
        · skip
          have c_37 := b2i_0 c_37
          refine lv_bipush (v := (-5)) hx hb dX5_weld_40 (by decide) ?_
          exact ex_MUi (w2 := (mW G a st kp hi sl sv pd td (nI k) pl pt rt bn)) hx hb hr hlocks hP hS dX5_weld_42 (by rw [c_4, c_20, c_24, c_37] <;> rfl) (fun h => by rw [c_4, c_20, c_24, c_37]; exact h)
  · skip
    have c_4 := b2i_0 c_4
    refine lv_iconst (v := (-1)) hx hb dX5_weld_7 (by decide) ?_
    exact ex_MUi (w2 := (mW G a st kp hi sl sv pd td (nI k) pl pt rt bn)) hx hb hr hlocks hP hS dX5_weld_8 (by rw [c_4] <;> rfl) (fun h => by rw [c_4]; exact h)
set_option maxHeartbeats 4000000 in
set_option maxRecDepth 100000 in
/-- X5_pass -/
theorem c_X5_pass (l : Launch) (G : GG) (a : Nat → Nat) (st : Nat → Int32) (kp : Nat → Int32) (hi : Nat → Int32) (sl : Nat → Int32) (sv : Nat → Int32) (pd : Nat → Int32) (td : Nat → Int32) (pl : Int32) (pt : Int32) (rt : Int32) (bn : Int32) (t : Int32) (k : Nat) (hk : k ≤ 6) (hI : RI st) : Met l yX5_pass wsX5_pass ({ frames := 8, cells := 0, slots := 0, locals := 179 }) (pcM G [.ref (a 0), .int t] (mW G a st kp hi sl sv pd td (nI k) pl pt rt bn)) (qMU G (some (.int (cond (inr t 1 200) (tickN (rk t) st 4 - st 4) (-2)))) (mW G a st kp hi sl sv pd td (nI k) pl pt rt bn) (mW G a (cond (inr t 1 200) (tickN (rk t) st) (st)) kp (cond (inr t 1 200) (recH st hi k) (hi)) sl sv pd td (nI (cond (inr t 1 200) (recC k) (k))) pl pt rt bn)) 0 0 (aA (mW G a st kp hi sl sv pd td (nI k) pl pt rt bn)) := by
  refine hd_MU (cc := cX5_pass) (maxL := 2) (ret := some .int) (by decide) rfl (Nat.le_of_ble_eq_true rfl) ?_
  intro p e s m below meth c ls hx hb hr hts hown hlocks hml hP hKK hD hS hl
  have hl : lv_has ls 2 [(0, .ref (a 0)), (1, .int t)] := hl
  refine lv_iload_n hx hb dX5_pass_0 rfl (lv_at hl 1 rfl) ?_
  refine lv_iconst (v := 1) hx hb dX5_pass_1 (by decide) ?_
  refine lv_sipush (v := 200) hx hb dX5_pass_2 (by decide) ?_
  refine ro_S (As := [.int t, .int 1, .int 200]) (rest := []) ⟨hx, hb, hml, hown, hts⟩ (c_X5_within l G t 1 200) (va_cwS 3 hts gX5_pass_X5_within rfl rfl rfl (by decide +kernel) ⟨Nat.le_of_ble_eq_true rfl, Nat.le_of_ble_eq_true rfl⟩) (show gP G [] _ from fun k q h => by simp at h) hKK rfl hl.1 rfl (Nat.le_of_ble_eq_true rfl) dX5_pass_5 (Nat.zero_le _) (Nat.zero_le _) ?_
  refine lv_if_ne (tgt := 14) hx hb dX5_pass_8 (by decide) (fun c_8 => ?_) (fun c_8 => ?_)
  · skip
    have c_8 := b2i_1 c_8
    have ht9 := inr_r200 c_8
    have hl : lv_has ls 2 [(0, .ref (a 0)), (1, .int (nI (rk t)))] := by have e_l1 : t = (nI (rk t)) := (ht9.1); rw [← e_l1]; exact hl
    refine lv_aload_n hx hb dX5_pass_14 rfl (lv_at hl 0 rfl) ?_
    refine mu_V (As := []) (rest := []) ⟨hx, hb, hml, hown, hts⟩ (c_X5_record l G a st kp hi sl sv pd td pl pt rt bn k (by omega)) (cwV 0 hts gX5_pass_X5_record rfl rfl rfl (by decide +kernel) ⟨Nat.le_of_ble_eq_true rfl, Nat.le_of_ble_eq_true rfl⟩) hP hKK hD hS (va_recv hKK.1 hP (ci := 5) (q0 := 0) rfl rfl) rfl hl.1 rfl (Nat.le_of_ble_eq_true rfl) dX5_pass_15 (Nat.zero_le _) (Nat.zero_le _) (rfl) (fun H locs hP hD hS => ?_)
    refine lv_aload_n hx hb dX5_pass_18 rfl (lv_at hl 0 rfl) ?_
    refine lv_iload_n hx hb dX5_pass_19 rfl (lv_at hl 1 rfl) ?_
    refine mu_V (As := [.int (nI (rk t))]) (rest := []) ⟨hx, hb, hml, hown, hts⟩ (c_X5_passes l G a st kp (recH st hi k) sl sv pd td (nI (recC k)) pl pt rt bn (rk t) (by omega) (by assumption)) (cwV 1 hts gX5_pass_X5_passes rfl rfl rfl (by decide +kernel) ⟨Nat.le_of_ble_eq_true rfl, Nat.le_of_ble_eq_true rfl⟩) hP hKK hD hS (va_recv hKK.1 hP (ci := 5) (q0 := 0) rfl rfl) rfl hl.1 rfl (Nat.le_of_ble_eq_true rfl) dX5_pass_20 (Nat.zero_le _) (Nat.zero_le _) (rfl) (fun H locs hP hD hS => ?_)
    exact ex_MUi (w2 := (mW G a (tickN (rk t) st) kp (recH st hi k) sl sv pd td (nI (recC k)) pl pt rt bn)) hx hb hr hlocks hP hS dX5_pass_23 (by rw [c_8] <;> rfl) (fun h => by rw [c_8]; exact h)
  · skip
    have c_8 := b2i_0 c_8
    refine lv_bipush (v := (-2)) hx hb dX5_pass_11 (by decide) ?_
    exact ex_MUi (w2 := (mW G a st kp hi sl sv pd td (nI k) pl pt rt bn)) hx hb hr hlocks hP hS dX5_pass_13 (by rw [c_8] <;> rfl) (fun h => by rw [c_8]; exact h)
set_option maxHeartbeats 4000000 in
set_option maxRecDepth 100000 in
/-- X5_settle -/
theorem c_X5_settle (l : Launch) (G : GG) (a : Nat → Nat) (st : Nat → Int32) (kp : Nat → Int32) (hi : Nat → Int32) (sl : Nat → Int32) (sv : Nat → Int32) (pd : Nat → Int32) (td : Nat → Int32) (pl : Int32) (pt : Int32) (rt : Int32) (bn : Int32) (k : Nat) (hk : k ≤ 6) (hI : RI st) : Met l yX5_settle wsX5_settle ({ frames := 8, cells := 0, slots := 0, locals := 177 }) (pcM G [.ref (a 0)] (mW G a st kp hi sl sv pd td (nI k) pl pt rt bn)) (qMU G (some (.int (setlR st))) (mW G a st kp hi sl sv pd td (nI k) pl pt rt bn) (mW G a (stlV 200 st) kp (recH st hi k) sl sv pd td (nI (recC k)) pl pt rt bn)) 0 0 (aA (mW G a st kp hi sl sv pd td (nI k) pl pt rt bn)) := by
  refine hd_MU (cc := cX5_settle) (maxL := 2) (ret := some .int) (by decide) rfl (Nat.le_of_ble_eq_true rfl) ?_
  intro p e s m below meth c ls hx hb hr hts hown hlocks hml hP hKK hD hS hl
  have hl : lv_has ls 2 [(0, .ref (a 0))] := hl
  refine lv_aload_n hx hb dX5_settle_0 rfl (lv_at hl 0 rfl) ?_
  refine mu_V (As := []) (rest := []) ⟨hx, hb, hml, hown, hts⟩ (c_X5_record l G a st kp hi sl sv pd td pl pt rt bn k (by omega)) (cwV 0 hts gX5_settle_X5_record rfl rfl rfl (by decide +kernel) ⟨Nat.le_of_ble_eq_true rfl, Nat.le_of_ble_eq_true rfl⟩) hP hKK hD hS (va_recv hKK.1 hP (ci := 5) (q0 := 0) rfl rfl) rfl hl.1 rfl (Nat.le_of_ble_eq_true rfl) dX5_settle_1 (Nat.zero_le _) (Nat.zero_le _) (rfl) (fun H locs hP hD hS => ?_)
  refine lv_aload_n hx hb dX5_settle_4 rfl (lv_at hl 0 rfl) ?_
  refine mu_V (As := []) (rest := []) ⟨hx, hb, hml, hown, hts⟩ (c_X5_settles l G a st kp (recH st hi k) sl sv pd td (nI (recC k)) pl pt rt bn (by assumption)) (cwV 0 hts gX5_settle_X5_settles rfl rfl rfl (by decide +kernel) ⟨Nat.le_of_ble_eq_true rfl, Nat.le_of_ble_eq_true rfl⟩) hP hKK hD hS (va_recv hKK.1 hP (ci := 5) (q0 := 0) rfl rfl) rfl hl.1 rfl (Nat.le_of_ble_eq_true rfl) dX5_settle_5 (Nat.zero_le _) (Nat.zero_le _) (rfl) (fun H locs hP hD hS => ?_)
  refine lv_istore_n (lv' := [(1, .int (nI (stlC 200 st))), (0, .ref (a 0))]) hx hb dX5_settle_8 rfl hl (by decide) rfl (fun ls hl => ?_)
  refine lv_aload_n hx hb dX5_settle_9 rfl (lv_at hl 1 rfl) ?_
  refine ro_V (As := []) (rest := []) ⟨hx, hb, hml, hown, hts⟩ (c_X5_wanting l G a (stlV 200 st) kp (recH st hi k) sl sv pd td (nI (recC k)) pl pt rt bn (stlV_RI hI 200)) (cwV 0 hts gX5_settle_X5_wanting rfl rfl rfl (by decide +kernel) ⟨Nat.le_of_ble_eq_true rfl, Nat.le_of_ble_eq_true rfl⟩) hP hKK (va_recv hKK.1 hP (ci := 5) (q0 := 0) rfl rfl) rfl hl.1 rfl (Nat.le_of_ble_eq_true rfl) dX5_settle_10 (Nat.zero_le _) (Nat.zero_le _) ?_
  refine lv_if_ne (tgt := 20) hx hb dX5_settle_13 (by decide) (fun c_13 => ?_) (fun c_13 => ?_)
  · skip
    refine lv_iload_n hx hb dX5_settle_20 rfl (lv_at hl 0 rfl) ?_
    refine lv_sipush (v := 1000) hx hb dX5_settle_21 (by decide) ?_
    refine lv_iadd hx hb dX5_settle_24 ?_
    exact ex_MUi (w2 := (mW G a (stlV 200 st) kp (recH st hi k) sl sv pd td (nI (recC k)) pl pt rt bn)) hx hb hr hlocks hP hS dX5_settle_25 (by rw [setlR, atRest_f c_13] <;> rfl) (fun h => h)
  · skip
    refine lv_iload_n hx hb dX5_settle_16 rfl (lv_at hl 0 rfl) ?_
    refine lv_goto (tgt := 25) hx hb dX5_settle_17 (by decide) ?_
    exact ex_MUi (w2 := (mW G a (stlV 200 st) kp (recH st hi k) sl sv pd td (nI (recC k)) pl pt rt bn)) hx hb hr hlocks hP hS dX5_settle_25 (by rw [setlR, atRest_t c_13] <;> rfl) (fun h => h)
set_option maxRecDepth 20000 in
theorem hin_X5_relay_X5 : ∀ w ∈ u_ws RX5 TX5 12, w ∈ wsX5_relay := by decide +kernel
theorem lk_X5_relay_7 : Cond.fieldLink RX5 7 "WeldedRelaysModel" "state" "[I" ∈ wsX5_relay := by decide +kernel
set_option maxHeartbeats 4000000 in
set_option maxRecDepth 100000 in
/-- X5_relay -/
theorem c_X5_relay (l : Launch) (G : GG) (a : Nat → Nat) (st : Nat → Int32) (kp : Nat → Int32) (hi : Nat → Int32) (sl : Nat → Int32) (sv : Nat → Int32) (pd : Nat → Int32) (td : Nat → Int32) (rc : Int32) (pl : Int32) (pt : Int32) (rt : Int32) (bn : Int32) (r : Int32) (x : Int32) (hI : RI st) : Met l yX5_relay wsX5_relay ({ frames := 6, cells := 0, slots := 0, locals := 134 }) (pcW G [.ref (a 0), .int r, .int x] (mW G a st kp hi sl sv pd td rc pl pt rt bn)) (qRO (.int (cond (inr r 0 9) (cond (inr x 0 10) (rel11 st (rk r) (rk x)) (-2)) (-1)))) 0 0 nofree := by
  refine hd_RO (cc := cX5_relay) (maxL := 3) (ret := some .int) (by decide) rfl (Nat.le_of_ble_eq_true rfl) ?_
  intro p e s m below meth c ls hx hb hr hts hown hlocks hml hP hKK hl
  have hl : lv_has ls 3 [(0, .ref (a 0)), (1, .int r), (2, .int x)] := hl
  refine lv_iload_n hx hb dX5_relay_0 rfl (lv_at hl 1 rfl) ?_
  refine ro_S (As := [.int r]) (rest := []) ⟨hx, hb, hml, hown, hts⟩ (c_X5_isRelay l G r) (va_cwS 1 hts gX5_relay_X5_isRelay rfl rfl rfl (by decide +kernel) ⟨Nat.le_of_ble_eq_true rfl, Nat.le_of_ble_eq_true rfl⟩) (show gP G [] _ from fun k q h => by simp at h) hKK rfl hl.1 rfl (Nat.le_of_ble_eq_true rfl) dX5_relay_1 (Nat.zero_le _) (Nat.zero_le _) ?_
  refine lv_if_ne (tgt := 9) hx hb dX5_relay_4 (by decide) (fun c_4 => ?_) (fun c_4 => ?_)
  · skip
    have c_4 := b2i_1 c_4
    have hr9 := inr_rk c_4
    have hl : lv_has ls 3 [(0, .ref (a 0)), (1, .int (nI (rk r))), (2, .int x)] := by have e_l1 : r = (nI (rk r)) := (hr9.1); rw [← e_l1]; exact hl
    refine lv_iload_n hx hb dX5_relay_9 rfl (lv_at hl 2 rfl) ?_
    rcases sw_of x 10 with ⟨k_10, hk_10, ek_10⟩ | c_10
    · rcases (show k_10 = 0 ∨ k_10 = 1 ∨ k_10 = 2 ∨ k_10 = 3 ∨ k_10 = 4 ∨ k_10 = 5 ∨ k_10 = 6 ∨ k_10 = 7 ∨ k_10 = 8 ∨ k_10 = 9 ∨ k_10 = 10 by omega) with rfl | rfl | rfl | rfl | rfl | rfl | rfl | rfl | rfl | rfl | rfl
      · skip
        refine lv_asi ek_10 ?_
        refine lv_tableIn (off := 58) (tgt := 68) hx hb dX5_relay_10 (by decide) (by decide) (by decide) (by decide) ?_
        refine lv_aload_n hx hb dX5_relay_68 rfl (lv_at hl 0 rfl) ?_
        refine va_get (D := gD G) (ci := 5) (v := .ref (a 1)) (C := RX5) (T := TX5) (N := 12) hx hb hts hin_X5_relay_X5 hown hKK.1 hP 0 rfl rfl 0 (by decide) (hts _ lk_X5_relay_7) (fun _ h9 => h9) rfl dX5_relay_69 ?_
        refine lv_iconst (v := 0) hx hb dX5_relay_72 (by decide) ?_
        refine va_ialdN (j := 0) (v := st 0) hx hb hKK.1 hP 1 0 rfl rfl (rfl) (by omega) (by decide) (rfl) dX5_relay_73 ?_
        refine lv_iload_n hx hb dX5_relay_74 rfl (lv_at hl 1 rfl) ?_
        refine lv_ishr hx hb dX5_relay_75 ?_
        refine lv_asi (y := shr (st 0) (nI (rk r))) rfl ?_
        refine lv_iconst (v := 1) hx hb dX5_relay_76 (by decide) ?_
        refine lv_iand hx hb dX5_relay_77 ?_
        exact ex_ROi hx hb hr hlocks rfl dX5_relay_78 (by rw [c_4, show inr x 0 10 = true from sw_inr (n := 10) ek_10 (by decide) (by decide), sw_rk ek_10 (by decide)] <;> rfl)
      · skip
        refine lv_asi ek_10 ?_
        refine lv_tableIn (off := 69) (tgt := 79) hx hb dX5_relay_10 (by decide) (by decide) (by decide) (by decide) ?_
        refine lv_aload_n hx hb dX5_relay_79 rfl (lv_at hl 0 rfl) ?_
        refine lv_iload_n hx hb dX5_relay_80 rfl (lv_at hl 1 rfl) ?_
        refine ro_V (As := [.int (nI (rk r))]) (rest := []) ⟨hx, hb, hml, hown, hts⟩ (c_X5_isFed l G a st kp hi sl sv pd td rc pl pt rt bn (rk r) (by omega) (by assumption)) (cwV 1 hts gX5_relay_X5_isFed rfl rfl rfl (by decide +kernel) ⟨Nat.le_of_ble_eq_true rfl, Nat.le_of_ble_eq_true rfl⟩) hP hKK (va_recv hKK.1 hP (ci := 5) (q0 := 0) rfl rfl) rfl hl.1 rfl (Nat.le_of_ble_eq_true rfl) dX5_relay_81 (Nat.zero_le _) (Nat.zero_le _) ?_
        refine lv_if_eq (tgt := 91) hx hb dX5_relay_84 (by decide) (fun c_84 => ?_) (fun c_84 => ?_)
        · skip
          have c_84 := b2i_0 c_84
          refine lv_iconst (v := 0) hx hb dX5_relay_91 (by decide) ?_
          exact ex_ROi hx hb hr hlocks rfl dX5_relay_92 (by rw [c_4, show inr x 0 10 = true from sw_inr (n := 10) ek_10 (by decide) (by decide), sw_rk ek_10 (by decide)] <;> exact congrArg (fun q => Value.int (b2i q)) c_84.symm)
        · skip
          have c_84 := b2i_1 c_84
          refine lv_iconst (v := 1) hx hb dX5_relay_87 (by decide) ?_
          refine lv_goto (tgt := 92) hx hb dX5_relay_88 (by decide) ?_
          exact ex_ROi hx hb hr hlocks rfl dX5_relay_92 (by rw [c_4, show inr x 0 10 = true from sw_inr (n := 10) ek_10 (by decide) (by decide), sw_rk ek_10 (by decide)] <;> exact congrArg (fun q => Value.int (b2i q)) c_84.symm)
      · skip
        refine lv_asi ek_10 ?_
        refine lv_tableIn (off := 83) (tgt := 93) hx hb dX5_relay_10 (by decide) (by decide) (by decide) (by decide) ?_
        refine lv_aload_n hx hb dX5_relay_93 rfl (lv_at hl 0 rfl) ?_
        refine va_get (D := gD G) (ci := 5) (v := .ref (a 1)) (C := RX5) (T := TX5) (N := 12) hx hb hts hin_X5_relay_X5 hown hKK.1 hP 0 rfl rfl 0 (by decide) (hts _ lk_X5_relay_7) (fun _ h9 => h9) rfl dX5_relay_94 ?_
        refine lv_iconst (v := 1) hx hb dX5_relay_97 (by decide) ?_
        refine va_ialdN (j := 1) (v := st 1) hx hb hKK.1 hP 1 0 rfl rfl (rfl) (by omega) (by decide) (rfl) dX5_relay_98 ?_
        refine lv_iload_n hx hb dX5_relay_99 rfl (lv_at hl 1 rfl) ?_
        refine lv_ishr hx hb dX5_relay_100 ?_
        refine lv_asi (y := shr (st 1) (nI (rk r))) rfl ?_
        refine lv_iconst (v := 1) hx hb dX5_relay_101 (by decide) ?_
        refine lv_iand hx hb dX5_relay_102 ?_
        exact ex_ROi hx hb hr hlocks rfl dX5_relay_103 (by rw [c_4, show inr x 0 10 = true from sw_inr (n := 10) ek_10 (by decide) (by decide), sw_rk ek_10 (by decide)] <;> rfl)
      · skip
        refine lv_asi ek_10 ?_
        refine lv_tableIn (off := 94) (tgt := 104) hx hb dX5_relay_10 (by decide) (by decide) (by decide) (by decide) ?_
        refine lv_aload_n hx hb dX5_relay_104 rfl (lv_at hl 0 rfl) ?_
        refine ro_V (As := []) (rest := []) ⟨hx, hb, hml, hown, hts⟩ (c_X5_wanting l G a st kp hi sl sv pd td rc pl pt rt bn (by assumption)) (cwV 0 hts gX5_relay_X5_wanting rfl rfl rfl (by decide +kernel) ⟨Nat.le_of_ble_eq_true rfl, Nat.le_of_ble_eq_true rfl⟩) hP hKK (va_recv hKK.1 hP (ci := 5) (q0 := 0) rfl rfl) rfl hl.1 rfl (Nat.le_of_ble_eq_true rfl) dX5_relay_105 (Nat.zero_le _) (Nat.zero_le _) ?_
        refine lv_iload_n hx hb dX5_relay_108 rfl (lv_at hl 1 rfl) ?_
        refine lv_ishr hx hb dX5_relay_109 ?_
        refine lv_asi (y := shr (wan st) (nI (rk r))) rfl ?_
        refine lv_iconst (v := 1) hx hb dX5_relay_110 (by decide) ?_
        refine lv_iand hx hb dX5_relay_111 ?_
        exact ex_ROi hx hb hr hlocks rfl dX5_relay_112 (by rw [c_4, show inr x 0 10 = true from sw_inr (n := 10) ek_10 (by decide) (by decide), sw_rk ek_10 (by decide)] <;> rfl)
      · skip
        refine lv_asi ek_10 ?_
        refine lv_tableIn (off := 103) (tgt := 113) hx hb dX5_relay_10 (by decide) (by decide) (by decide) (by decide) ?_
        refine lv_aload_n hx hb dX5_relay_113 rfl (lv_at hl 0 rfl) ?_
        refine lv_iload_n hx hb dX5_relay_114 rfl (lv_at hl 1 rfl) ?_
        refine lv_iconst (v := 2) hx hb dX5_relay_115 (by decide) ?_
        refine ro_V (As := [.int (nI (rk r)), .int (nI 2)]) (rest := []) ⟨hx, hb, hml, hown, hts⟩ (c_X5_part l G a st kp hi sl sv pd td rc pl pt rt bn (rk r) 2 (by omega) (by omega)) (cwV 2 hts gX5_relay_X5_part rfl rfl rfl (by decide +kernel) ⟨Nat.le_of_ble_eq_true rfl, Nat.le_of_ble_eq_true rfl⟩) hP hKK (va_recv hKK.1 hP (ci := 5) (q0 := 0) rfl rfl) rfl hl.1 rfl (Nat.le_of_ble_eq_true rfl) dX5_relay_116 (Nat.zero_le _) (Nat.zero_le _) ?_
        exact ex_ROi hx hb hr hlocks rfl dX5_relay_119 (by rw [c_4, show inr x 0 10 = true from sw_inr (n := 10) ek_10 (by decide) (by decide), sw_rk ek_10 (by decide)] <;> rfl)
      · skip
        refine lv_asi ek_10 ?_
        refine lv_tableIn (off := 110) (tgt := 120) hx hb dX5_relay_10 (by decide) (by decide) (by decide) (by decide) ?_
        refine lv_aload_n hx hb dX5_relay_120 rfl (lv_at hl 0 rfl) ?_
        refine lv_iload_n hx hb dX5_relay_121 rfl (lv_at hl 1 rfl) ?_
        refine lv_iconst (v := 3) hx hb dX5_relay_122 (by decide) ?_
        refine ro_V (As := [.int (nI (rk r)), .int (nI 3)]) (rest := []) ⟨hx, hb, hml, hown, hts⟩ (c_X5_part l G a st kp hi sl sv pd td rc pl pt rt bn (rk r) 3 (by omega) (by omega)) (cwV 2 hts gX5_relay_X5_part rfl rfl rfl (by decide +kernel) ⟨Nat.le_of_ble_eq_true rfl, Nat.le_of_ble_eq_true rfl⟩) hP hKK (va_recv hKK.1 hP (ci := 5) (q0 := 0) rfl rfl) rfl hl.1 rfl (Nat.le_of_ble_eq_true rfl) dX5_relay_123 (Nat.zero_le _) (Nat.zero_le _) ?_
        exact ex_ROi hx hb hr hlocks rfl dX5_relay_126 (by rw [c_4, show inr x 0 10 = true from sw_inr (n := 10) ek_10 (by decide) (by decide), sw_rk ek_10 (by decide)] <;> rfl)
      · skip
        refine lv_asi ek_10 ?_
        refine lv_tableIn (off := 117) (tgt := 127) hx hb dX5_relay_10 (by decide) (by decide) (by decide) (by decide) ?_
        refine lv_aload_n hx hb dX5_relay_127 rfl (lv_at hl 0 rfl) ?_
        refine lv_iload_n hx hb dX5_relay_128 rfl (lv_at hl 1 rfl) ?_
        refine lv_iconst (v := 0) hx hb dX5_relay_129 (by decide) ?_
        refine ro_V (As := [.int (nI (rk r)), .int (nI 0)]) (rest := []) ⟨hx, hb, hml, hown, hts⟩ (c_X5_part l G a st kp hi sl sv pd td rc pl pt rt bn (rk r) 0 (by omega) (by omega)) (cwV 2 hts gX5_relay_X5_part rfl rfl rfl (by decide +kernel) ⟨Nat.le_of_ble_eq_true rfl, Nat.le_of_ble_eq_true rfl⟩) hP hKK (va_recv hKK.1 hP (ci := 5) (q0 := 0) rfl rfl) rfl hl.1 rfl (Nat.le_of_ble_eq_true rfl) dX5_relay_130 (Nat.zero_le _) (Nat.zero_le _) ?_
        exact ex_ROi hx hb hr hlocks rfl dX5_relay_133 (by rw [c_4, show inr x 0 10 = true from sw_inr (n := 10) ek_10 (by decide) (by decide), sw_rk ek_10 (by decide)] <;> rfl)
      · skip
        refine lv_asi ek_10 ?_
        refine lv_tableIn (off := 124) (tgt := 134) hx hb dX5_relay_10 (by decide) (by decide) (by decide) (by decide) ?_
        refine lv_aload_n hx hb dX5_relay_134 rfl (lv_at hl 0 rfl) ?_
        refine lv_iload_n hx hb dX5_relay_135 rfl (lv_at hl 1 rfl) ?_
        refine lv_iconst (v := 1) hx hb dX5_relay_136 (by decide) ?_
        refine ro_V (As := [.int (nI (rk r)), .int (nI 1)]) (rest := []) ⟨hx, hb, hml, hown, hts⟩ (c_X5_part l G a st kp hi sl sv pd td rc pl pt rt bn (rk r) 1 (by omega) (by omega)) (cwV 2 hts gX5_relay_X5_part rfl rfl rfl (by decide +kernel) ⟨Nat.le_of_ble_eq_true rfl, Nat.le_of_ble_eq_true rfl⟩) hP hKK (va_recv hKK.1 hP (ci := 5) (q0 := 0) rfl rfl) rfl hl.1 rfl (Nat.le_of_ble_eq_true rfl) dX5_relay_137 (Nat.zero_le _) (Nat.zero_le _) ?_
        exact ex_ROi hx hb hr hlocks rfl dX5_relay_140 (by rw [c_4, show inr x 0 10 = true from sw_inr (n := 10) ek_10 (by decide) (by decide), sw_rk ek_10 (by decide)] <;> rfl)
      · skip
        refine lv_asi ek_10 ?_
        refine lv_tableIn (off := 131) (tgt := 141) hx hb dX5_relay_10 (by decide) (by decide) (by decide) (by decide) ?_
        refine lv_aload_n hx hb dX5_relay_141 rfl (lv_at hl 0 rfl) ?_
        refine lv_iload_n hx hb dX5_relay_142 rfl (lv_at hl 1 rfl) ?_
        refine lv_iconst (v := 4) hx hb dX5_relay_143 (by decide) ?_
        refine ro_V (As := [.int (nI (rk r)), .int (nI 4)]) (rest := []) ⟨hx, hb, hml, hown, hts⟩ (c_X5_part l G a st kp hi sl sv pd td rc pl pt rt bn (rk r) 4 (by omega) (by omega)) (cwV 2 hts gX5_relay_X5_part rfl rfl rfl (by decide +kernel) ⟨Nat.le_of_ble_eq_true rfl, Nat.le_of_ble_eq_true rfl⟩) hP hKK (va_recv hKK.1 hP (ci := 5) (q0 := 0) rfl rfl) rfl hl.1 rfl (Nat.le_of_ble_eq_true rfl) dX5_relay_144 (Nat.zero_le _) (Nat.zero_le _) ?_
        exact ex_ROi hx hb hr hlocks rfl dX5_relay_147 (by rw [c_4, show inr x 0 10 = true from sw_inr (n := 10) ek_10 (by decide) (by decide), sw_rk ek_10 (by decide)] <;> rfl)
      · skip
        refine lv_asi ek_10 ?_
        refine lv_tableIn (off := 138) (tgt := 148) hx hb dX5_relay_10 (by decide) (by decide) (by decide) (by decide) ?_
        refine lv_aload_n hx hb dX5_relay_148 rfl (lv_at hl 0 rfl) ?_
        refine lv_iload_n hx hb dX5_relay_149 rfl (lv_at hl 1 rfl) ?_
        refine ro_V (As := [.int (nI (rk r))]) (rest := []) ⟨hx, hb, hml, hown, hts⟩ (c_X5_holdsItself l G a st kp hi sl sv pd td rc pl pt rt bn (rk r) (by omega) (by assumption)) (cwV 1 hts gX5_relay_X5_holdsItself rfl rfl rfl (by decide +kernel) ⟨Nat.le_of_ble_eq_true rfl, Nat.le_of_ble_eq_true rfl⟩) hP hKK (va_recv hKK.1 hP (ci := 5) (q0 := 0) rfl rfl) rfl hl.1 rfl (Nat.le_of_ble_eq_true rfl) dX5_relay_150 (Nat.zero_le _) (Nat.zero_le _) ?_
        refine lv_if_eq (tgt := 160) hx hb dX5_relay_153 (by decide) (fun c_153 => ?_) (fun c_153 => ?_)
        · skip
          have c_153 := b2i_0 c_153
          refine lv_iconst (v := 0) hx hb dX5_relay_160 (by decide) ?_
          exact ex_ROi hx hb hr hlocks rfl dX5_relay_161 (by rw [c_4, show inr x 0 10 = true from sw_inr (n := 10) ek_10 (by decide) (by decide), sw_rk ek_10 (by decide)] <;> exact congrArg (fun q => Value.int (b2i q)) c_153.symm)
        · skip
          have c_153 := b2i_1 c_153
          refine lv_iconst (v := 1) hx hb dX5_relay_156 (by decide) ?_
          refine lv_goto (tgt := 161) hx hb dX5_relay_157 (by decide) ?_
          exact ex_ROi hx hb hr hlocks rfl dX5_relay_161 (by rw [c_4, show inr x 0 10 = true from sw_inr (n := 10) ek_10 (by decide) (by decide), sw_rk ek_10 (by decide)] <;> exact congrArg (fun q => Value.int (b2i q)) c_153.symm)
      · skip
        refine lv_asi ek_10 ?_
        refine lv_tableIn (off := 152) (tgt := 162) hx hb dX5_relay_10 (by decide) (by decide) (by decide) (by decide) ?_
        refine lv_aload_n hx hb dX5_relay_162 rfl (lv_at hl 0 rfl) ?_
        refine lv_iload_n hx hb dX5_relay_163 rfl (lv_at hl 1 rfl) ?_
        refine ro_V (As := [.int (nI (rk r))]) (rest := []) ⟨hx, hb, hml, hown, hts⟩ (c_X5_relaysWith l G a st kp hi sl sv pd td rc pl pt rt bn (rk r) (by omega) (by assumption)) (cwV 1 hts gX5_relay_X5_relaysWith rfl rfl rfl (by decide +kernel) ⟨Nat.le_of_ble_eq_true rfl, Nat.le_of_ble_eq_true rfl⟩) hP hKK (va_recv hKK.1 hP (ci := 5) (q0 := 0) rfl rfl) rfl hl.1 rfl (Nat.le_of_ble_eq_true rfl) dX5_relay_164 (Nat.zero_le _) (Nat.zero_le _) ?_
        exact ex_ROi hx hb hr hlocks rfl dX5_relay_167 (by rw [c_4, show inr x 0 10 = true from sw_inr (n := 10) ek_10 (by decide) (by decide), sw_rk ek_10 (by decide)] <;> rfl)
    · skip
      refine lv_tableOut (tgt := 168) hx hb dX5_relay_10 c_10 (by decide) ?_
      refine lv_bipush (v := (-2)) hx hb dX5_relay_168 (by decide) ?_
      exact ex_ROi hx hb hr hlocks rfl dX5_relay_170 (by rw [c_4, show inr x 0 10 = false from sw_out (n := 10) (by decide) c_10] <;> rfl)
  · skip
    have c_4 := b2i_0 c_4
    refine lv_iconst (v := (-1)) hx hb dX5_relay_7 (by decide) ?_
    exact ex_ROi hx hb hr hlocks rfl dX5_relay_8 (by rw [c_4] <;> rfl)
set_option maxHeartbeats 4000000 in
set_option maxRecDepth 100000 in
/-- X5_branch -/
theorem c_X5_branch (l : Launch) (G : GG) (a : Nat → Nat) (st : Nat → Int32) (kp : Nat → Int32) (hi : Nat → Int32) (sl : Nat → Int32) (sv : Nat → Int32) (pd : Nat → Int32) (td : Nat → Int32) (rc : Int32) (pl : Int32) (pt : Int32) (rt : Int32) (bn : Int32) (r : Int32) (b : Int32) (x : Int32) (hI : RI st) : Met l yX5_branch wsX5_branch ({ frames := 3, cells := 0, slots := 0, locals := 68 }) (pcW G [.ref (a 0), .int r, .int b, .int x] (mW G a st kp hi sl sv pd td rc pl pt rt bn)) (qRO (.int (cond (inr r 0 9 && inr b 0 (st (px (rk r) 4) - 1)) (cond (inr x 0 5) (brn6 st (rk r) (rk b) (rk x)) (-2)) (-1)))) 0 0 nofree := by
  refine hd_RO (cc := cX5_branch) (maxL := 5) (ret := some .int) (by decide) rfl (Nat.le_of_ble_eq_true rfl) ?_
  intro p e s m below meth c ls hx hb hr hts hown hlocks hml hP hKK hl
  have hl : lv_has ls 5 [(0, .ref (a 0)), (1, .int r), (2, .int b), (3, .int x)] := hl
  refine lv_iload_n hx hb dX5_branch_0 rfl (lv_at hl 1 rfl) ?_
  refine ro_S (As := [.int r]) (rest := []) ⟨hx, hb, hml, hown, hts⟩ (c_X5_isRelay l G r) (va_cwS 1 hts gX5_branch_X5_isRelay rfl rfl rfl (by decide +kernel) ⟨Nat.le_of_ble_eq_true rfl, Nat.le_of_ble_eq_true rfl⟩) (show gP G [] _ from fun k q h => by simp at h) hKK rfl hl.1 rfl (Nat.le_of_ble_eq_true rfl) dX5_branch_1 (Nat.zero_le _) (Nat.zero_le _) ?_
  refine lv_if_eq (tgt := 23) hx hb dX5_branch_4 (by decide) (fun c_4 => ?_) (fun c_4 => ?_)
  · skip
    have c_4 := b2i_0 c_4
    refine lv_iconst (v := (-1)) hx hb dX5_branch_23 (by decide) ?_
    exact ex_ROi hx hb hr hlocks rfl dX5_branch_24 (by rw [c_4] <;> rfl)
  · skip
    have c_4 := b2i_1 c_4
    have hr9 := inr_rk c_4
    have hl : lv_has ls 5 [(0, .ref (a 0)), (1, .int (nI (rk r))), (2, .int b), (3, .int x)] := by have e_l1 : r = (nI (rk r)) := (hr9.1); rw [← e_l1]; exact hl
    refine lv_iload_n hx hb dX5_branch_7 rfl (lv_at hl 2 rfl) ?_
    refine lv_iconst (v := 0) hx hb dX5_branch_8 (by decide) ?_
    refine lv_aload_n hx hb dX5_branch_9 rfl (lv_at hl 0 rfl) ?_
    refine lv_iload_n hx hb dX5_branch_10 rfl (lv_at hl 1 rfl) ?_
    refine lv_iconst (v := 4) hx hb dX5_branch_11 (by decide) ?_
    refine ro_V (As := [.int (nI (rk r)), .int (nI 4)]) (rest := [.int 0, .int b]) ⟨hx, hb, hml, hown, hts⟩ (c_X5_part l G a st kp hi sl sv pd td rc pl pt rt bn (rk r) 4 (by omega) (by omega)) (cwV 2 hts gX5_branch_X5_part rfl rfl rfl (by decide +kernel) ⟨Nat.le_of_ble_eq_true rfl, Nat.le_of_ble_eq_true rfl⟩) hP hKK (va_recv hKK.1 hP (ci := 5) (q0 := 0) rfl rfl) rfl hl.1 rfl (Nat.le_of_ble_eq_true rfl) dX5_branch_12 (Nat.zero_le _) (Nat.zero_le _) ?_
    refine lv_iconst (v := 1) hx hb dX5_branch_15 (by decide) ?_
    refine lv_isub hx hb dX5_branch_16 ?_
    refine ro_S (As := [.int b, .int 0, .int ((st (px (rk r) 4)) - 1)]) (rest := []) ⟨hx, hb, hml, hown, hts⟩ (c_X5_within l G b 0 ((st (px (rk r) 4)) - 1)) (va_cwS 3 hts gX5_branch_X5_within rfl rfl rfl (by decide +kernel) ⟨Nat.le_of_ble_eq_true rfl, Nat.le_of_ble_eq_true rfl⟩) (show gP G [] _ from fun k q h => by simp at h) hKK rfl hl.1 rfl (Nat.le_of_ble_eq_true rfl) dX5_branch_17 (Nat.zero_le _) (Nat.zero_le _) ?_
    refine lv_if_ne (tgt := 25) hx hb dX5_branch_20 (by decide) (fun c_20 => ?_) (fun c_20 => ?_)
    · skip
      have c_20 := b2i_1 c_20
      have hb2 := brn_in hI hr9.2 c_20
      have hl : lv_has ls 5 [(0, .ref (a 0)), (1, .int (nI (rk r))), (2, .int (nI (rk b))), (3, .int x)] := by have e_l2 : b = (nI (rk b)) := (hb2.1); rw [← e_l2]; exact hl
      refine lv_sipush (v := 1023) hx hb dX5_branch_25 (by decide) ?_
      refine lv_istore (lv' := [(4, .int 1023), (0, .ref (a 0)), (1, .int (nI (rk r))), (2, .int (nI (rk b))), (3, .int x)]) hx hb dX5_branch_28 hl (by decide) rfl (fun ls hl => ?_)
      refine lv_iload_n hx hb dX5_branch_30 rfl (lv_at hl 4 rfl) ?_
      rcases sw_of x 5 with ⟨k_31, hk_31, ek_31⟩ | c_31
      · rcases (show k_31 = 0 ∨ k_31 = 1 ∨ k_31 = 2 ∨ k_31 = 3 ∨ k_31 = 4 ∨ k_31 = 5 by omega) with rfl | rfl | rfl | rfl | rfl | rfl
        · skip
          refine lv_asi ek_31 ?_
          refine lv_tableIn (off := 37) (tgt := 68) hx hb dX5_branch_31 (by decide) (by decide) (by decide) (by decide) ?_
          refine lv_aload_n hx hb dX5_branch_68 rfl (lv_at hl 1 rfl) ?_
          refine lv_iload_n hx hb dX5_branch_69 rfl (lv_at hl 2 rfl) ?_
          refine lv_iload_n hx hb dX5_branch_70 rfl (lv_at hl 3 rfl) ?_
          refine ro_V (As := [.int (nI (rk r)), .int (nI (rk b))]) (rest := []) ⟨hx, hb, hml, hown, hts⟩ (c_X5_isClosed l G a st kp hi sl sv pd td rc pl pt rt bn (rk r) (rk b) (by omega) (by omega)) (cwV 2 hts gX5_branch_X5_isClosed rfl rfl rfl (by decide +kernel) ⟨Nat.le_of_ble_eq_true rfl, Nat.le_of_ble_eq_true rfl⟩) hP hKK (va_recv hKK.1 hP (ci := 5) (q0 := 0) rfl rfl) rfl hl.1 rfl (Nat.le_of_ble_eq_true rfl) dX5_branch_71 (Nat.zero_le _) (Nat.zero_le _) ?_
          refine lv_if_eq (tgt := 81) hx hb dX5_branch_74 (by decide) (fun c_74 => ?_) (fun c_74 => ?_)
          · skip
            have c_74 := b2i_0 c_74
            refine lv_iconst (v := 0) hx hb dX5_branch_81 (by decide) ?_
            exact ex_ROi hx hb hr hlocks rfl dX5_branch_82 (by rw [c_4, c_20, show inr x 0 5 = true from sw_inr (n := 5) ek_31 (by decide) (by decide), sw_rk ek_31 (by decide)] <;> exact congrArg (fun q => Value.int (b2i q)) c_74.symm)
          · skip
            have c_74 := b2i_1 c_74
            refine lv_iconst (v := 1) hx hb dX5_branch_77 (by decide) ?_
            refine lv_goto (tgt := 82) hx hb dX5_branch_78 (by decide) ?_
            exact ex_ROi hx hb hr hlocks rfl dX5_branch_82 (by rw [c_4, c_20, show inr x 0 5 = true from sw_inr (n := 5) ek_31 (by decide) (by decide), sw_rk ek_31 (by decide)] <;> exact congrArg (fun q => Value.int (b2i q)) c_74.symm)
        · skip
          refine lv_asi ek_31 ?_
          refine lv_tableIn (off := 52) (tgt := 83) hx hb dX5_branch_31 (by decide) (by decide) (by decide) (by decide) ?_
          refine lv_aload_n hx hb dX5_branch_83 rfl (lv_at hl 1 rfl) ?_
          refine lv_iload_n hx hb dX5_branch_84 rfl (lv_at hl 2 rfl) ?_
          refine lv_iload_n hx hb dX5_branch_85 rfl (lv_at hl 3 rfl) ?_
          refine lv_iconst (v := 2) hx hb dX5_branch_86 (by decide) ?_
          refine ro_V (As := [.int (nI (rk r)), .int (nI (rk b)), .int (nI 2)]) (rest := []) ⟨hx, hb, hml, hown, hts⟩ (c_X5_ofBranch l G a st kp hi sl sv pd td rc pl pt rt bn (rk r) (rk b) 2 (by omega) (by omega) (by omega)) (cwV 3 hts gX5_branch_X5_ofBranch rfl rfl rfl (by decide +kernel) ⟨Nat.le_of_ble_eq_true rfl, Nat.le_of_ble_eq_true rfl⟩) hP hKK (va_recv hKK.1 hP (ci := 5) (q0 := 0) rfl rfl) rfl hl.1 rfl (Nat.le_of_ble_eq_true rfl) dX5_branch_87 (Nat.zero_le _) (Nat.zero_le _) ?_
          refine lv_asi (y := ccn st (rk r) (rk b)) (ofb_2 _ _ _) ?_
          exact ex_ROi hx hb hr hlocks rfl dX5_branch_90 (by rw [c_4, c_20, show inr x 0 5 = true from sw_inr (n := 5) ek_31 (by decide) (by decide), sw_rk ek_31 (by decide)] <;> rfl)
        · skip
          refine lv_asi ek_31 ?_
          refine lv_tableIn (off := 60) (tgt := 91) hx hb dX5_branch_31 (by decide) (by decide) (by decide) (by decide) ?_
          refine lv_aload_n hx hb dX5_branch_91 rfl (lv_at hl 1 rfl) ?_
          refine lv_iload_n hx hb dX5_branch_92 rfl (lv_at hl 2 rfl) ?_
          refine lv_iload_n hx hb dX5_branch_93 rfl (lv_at hl 3 rfl) ?_
          refine lv_iload_n hx hb dX5_branch_94 rfl (lv_at hl 4 rfl) ?_
          refine lv_iconst (v := 2) hx hb dX5_branch_95 (by decide) ?_
          refine lv_isub hx hb dX5_branch_96 ?_
          refine lv_asi (y := nI 0) (by rw [ek_31]; decide) ?_
          refine ro_V (As := [.int (nI (rk r)), .int (nI (rk b)), .int (nI 0)]) (rest := []) ⟨hx, hb, hml, hown, hts⟩ (c_X5_ofBranch l G a st kp hi sl sv pd td rc pl pt rt bn (rk r) (rk b) 0 (by omega) (by omega) (by omega)) (cwV 3 hts gX5_branch_X5_ofBranch rfl rfl rfl (by decide +kernel) ⟨Nat.le_of_ble_eq_true rfl, Nat.le_of_ble_eq_true rfl⟩) hP hKK (va_recv hKK.1 hP (ci := 5) (q0 := 0) rfl rfl) rfl hl.1 rfl (Nat.le_of_ble_eq_true rfl) dX5_branch_97 (Nat.zero_le _) (Nat.zero_le _) ?_
          refine lv_asi (y := frt st (rk r) (rk b)) (ofb_0 _ _ _) ?_
          refine lv_iload hx hb dX5_branch_100 (lv_at hl 0 rfl) ?_
          refine lv_iand hx hb dX5_branch_102 ?_
          exact ex_ROi hx hb hr hlocks rfl dX5_branch_103 (by rw [c_4, c_20, show inr x 0 5 = true from sw_inr (n := 5) ek_31 (by decide) (by decide), sw_rk ek_31 (by decide)] <;> rfl)
        · skip
          refine lv_asi ek_31 ?_
          refine lv_tableIn (off := 60) (tgt := 91) hx hb dX5_branch_31 (by decide) (by decide) (by decide) (by decide) ?_
          refine lv_aload_n hx hb dX5_branch_91 rfl (lv_at hl 1 rfl) ?_
          refine lv_iload_n hx hb dX5_branch_92 rfl (lv_at hl 2 rfl) ?_
          refine lv_iload_n hx hb dX5_branch_93 rfl (lv_at hl 3 rfl) ?_
          refine lv_iload_n hx hb dX5_branch_94 rfl (lv_at hl 4 rfl) ?_
          refine lv_iconst (v := 2) hx hb dX5_branch_95 (by decide) ?_
          refine lv_isub hx hb dX5_branch_96 ?_
          refine lv_asi (y := nI 1) (by rw [ek_31]; decide) ?_
          refine ro_V (As := [.int (nI (rk r)), .int (nI (rk b)), .int (nI 1)]) (rest := []) ⟨hx, hb, hml, hown, hts⟩ (c_X5_ofBranch l G a st kp hi sl sv pd td rc pl pt rt bn (rk r) (rk b) 1 (by omega) (by omega) (by omega)) (cwV 3 hts gX5_branch_X5_ofBranch rfl rfl rfl (by decide +kernel) ⟨Nat.le_of_ble_eq_true rfl, Nat.le_of_ble_eq_true rfl⟩) hP hKK (va_recv hKK.1 hP (ci := 5) (q0 := 0) rfl rfl) rfl hl.1 rfl (Nat.le_of_ble_eq_true rfl) dX5_branch_97 (Nat.zero_le _) (Nat.zero_le _) ?_
          refine lv_asi (y := bck st (rk r) (rk b)) (ofb_1 _ _ _) ?_
          refine lv_iload hx hb dX5_branch_100 (lv_at hl 0 rfl) ?_
          refine lv_iand hx hb dX5_branch_102 ?_
          exact ex_ROi hx hb hr hlocks rfl dX5_branch_103 (by rw [c_4, c_20, show inr x 0 5 = true from sw_inr (n := 5) ek_31 (by decide) (by decide), sw_rk ek_31 (by decide)] <;> rfl)
        · skip
          refine lv_asi ek_31 ?_
          refine lv_tableIn (off := 73) (tgt := 104) hx hb dX5_branch_31 (by decide) (by decide) (by decide) (by decide) ?_
          refine lv_aload_n hx hb dX5_branch_104 rfl (lv_at hl 1 rfl) ?_
          refine lv_iload_n hx hb dX5_branch_105 rfl (lv_at hl 2 rfl) ?_
          refine lv_iload_n hx hb dX5_branch_106 rfl (lv_at hl 3 rfl) ?_
          refine lv_iload_n hx hb dX5_branch_107 rfl (lv_at hl 4 rfl) ?_
          refine lv_iconst (v := 4) hx hb dX5_branch_108 (by decide) ?_
          refine lv_isub hx hb dX5_branch_109 ?_
          refine lv_asi (y := nI 0) (by rw [ek_31]; decide) ?_
          refine ro_V (As := [.int (nI (rk r)), .int (nI (rk b)), .int (nI 0)]) (rest := []) ⟨hx, hb, hml, hown, hts⟩ (c_X5_ofBranch l G a st kp hi sl sv pd td rc pl pt rt bn (rk r) (rk b) 0 (by omega) (by omega) (by omega)) (cwV 3 hts gX5_branch_X5_ofBranch rfl rfl rfl (by decide +kernel) ⟨Nat.le_of_ble_eq_true rfl, Nat.le_of_ble_eq_true rfl⟩) hP hKK (va_recv hKK.1 hP (ci := 5) (q0 := 0) rfl rfl) rfl hl.1 rfl (Nat.le_of_ble_eq_true rfl) dX5_branch_110 (Nat.zero_le _) (Nat.zero_le _) ?_
          refine lv_asi (y := frt st (rk r) (rk b)) (ofb_0 _ _ _) ?_
          refine lv_bipush (v := 10) hx hb dX5_branch_113 (by decide) ?_
          refine lv_ishr hx hb dX5_branch_115 ?_
          refine lv_asi (y := shr (frt st (rk r) (rk b)) 10) rfl ?_
          exact ex_ROi hx hb hr hlocks rfl dX5_branch_116 (by rw [c_4, c_20, show inr x 0 5 = true from sw_inr (n := 5) ek_31 (by decide) (by decide), sw_rk ek_31 (by decide)] <;> rfl)
        · skip
          refine lv_asi ek_31 ?_
          refine lv_tableIn (off := 73) (tgt := 104) hx hb dX5_branch_31 (by decide) (by decide) (by decide) (by decide) ?_
          refine lv_aload_n hx hb dX5_branch_104 rfl (lv_at hl 1 rfl) ?_
          refine lv_iload_n hx hb dX5_branch_105 rfl (lv_at hl 2 rfl) ?_
          refine lv_iload_n hx hb dX5_branch_106 rfl (lv_at hl 3 rfl) ?_
          refine lv_iload_n hx hb dX5_branch_107 rfl (lv_at hl 4 rfl) ?_
          refine lv_iconst (v := 4) hx hb dX5_branch_108 (by decide) ?_
          refine lv_isub hx hb dX5_branch_109 ?_
          refine lv_asi (y := nI 1) (by rw [ek_31]; decide) ?_
          refine ro_V (As := [.int (nI (rk r)), .int (nI (rk b)), .int (nI 1)]) (rest := []) ⟨hx, hb, hml, hown, hts⟩ (c_X5_ofBranch l G a st kp hi sl sv pd td rc pl pt rt bn (rk r) (rk b) 1 (by omega) (by omega) (by omega)) (cwV 3 hts gX5_branch_X5_ofBranch rfl rfl rfl (by decide +kernel) ⟨Nat.le_of_ble_eq_true rfl, Nat.le_of_ble_eq_true rfl⟩) hP hKK (va_recv hKK.1 hP (ci := 5) (q0 := 0) rfl rfl) rfl hl.1 rfl (Nat.le_of_ble_eq_true rfl) dX5_branch_110 (Nat.zero_le _) (Nat.zero_le _) ?_
          refine lv_asi (y := bck st (rk r) (rk b)) (ofb_1 _ _ _) ?_
          refine lv_bipush (v := 10) hx hb dX5_branch_113 (by decide) ?_
          refine lv_ishr hx hb dX5_branch_115 ?_
          refine lv_asi (y := shr (bck st (rk r) (rk b)) 10) rfl ?_
          exact ex_ROi hx hb hr hlocks rfl dX5_branch_116 (by rw [c_4, c_20, show inr x 0 5 = true from sw_inr (n := 5) ek_31 (by decide) (by decide), sw_rk ek_31 (by decide)] <;> rfl)
      · skip
        refine lv_tableOut (tgt := 117) hx hb dX5_branch_31 c_31 (by decide) ?_
        refine lv_bipush (v := (-2)) hx hb dX5_branch_117 (by decide) ?_
        exact ex_ROi hx hb hr hlocks rfl dX5_branch_119 (by rw [c_4, c_20, show inr x 0 5 = false from sw_out (n := 5) (by decide) c_31] <;> rfl)
    · skip
      have c_20 := b2i_0 c_20
      refine lv_iconst (v := (-1)) hx hb dX5_branch_23 (by decide) ?_
      exact ex_ROi hx hb hr hlocks rfl dX5_branch_24 (by rw [c_4, c_20] <;> rfl)
set_option maxRecDepth 20000 in
theorem hin_X5_count_X5 : ∀ w ∈ u_ws RX5 TX5 12, w ∈ wsX5_count := by decide +kernel
theorem lk_X5_count_7 : Cond.fieldLink RX5 7 "WeldedRelaysModel" "state" "[I" ∈ wsX5_count := by decide +kernel
theorem lk_X5_count_92 : Cond.fieldLink RX5 92 "WeldedRelaysModel" "padLength" "I" ∈ wsX5_count := by decide +kernel
theorem lk_X5_count_35 : Cond.fieldLink RX5 35 "WeldedRelaysModel" "recorded" "I" ∈ wsX5_count := by decide +kernel
set_option maxHeartbeats 4000000 in
set_option maxRecDepth 100000 in
/-- X5_count -/
theorem c_X5_count (l : Launch) (G : GG) (a : Nat → Nat) (st : Nat → Int32) (kp : Nat → Int32) (hi : Nat → Int32) (sl : Nat → Int32) (sv : Nat → Int32) (pd : Nat → Int32) (td : Nat → Int32) (rc : Int32) (pl : Int32) (pt : Int32) (rt : Int32) (bn : Int32) (x : Int32) (hI : RI st) : Met l yX5_count wsX5_count ({ frames := 6, cells := 0, slots := 0, locals := 134 }) (pcW G [.ref (a 0), .int x] (mW G a st kp hi sl sv pd td rc pl pt rt bn)) (qRO (.int (cond (inr x 0 11) (cnt12 st pl rc (rk x)) (-2)))) 0 0 nofree := by
  refine hd_RO (cc := cX5_count) (maxL := 2) (ret := some .int) (by decide) rfl (Nat.le_of_ble_eq_true rfl) ?_
  intro p e s m below meth c ls hx hb hr hts hown hlocks hml hP hKK hl
  have hl : lv_has ls 2 [(0, .ref (a 0)), (1, .int x)] := hl
  refine lv_iload_n hx hb dX5_count_0 rfl (lv_at hl 1 rfl) ?_
  rcases sw_of x 11 with ⟨k_1, hk_1, ek_1⟩ | c_1
  · rcases (show k_1 = 0 ∨ k_1 = 1 ∨ k_1 = 2 ∨ k_1 = 3 ∨ k_1 = 4 ∨ k_1 = 5 ∨ k_1 = 6 ∨ k_1 = 7 ∨ k_1 = 8 ∨ k_1 = 9 ∨ k_1 = 10 ∨ k_1 = 11 by omega) with rfl | rfl | rfl | rfl | rfl | rfl | rfl | rfl | rfl | rfl | rfl | rfl
    · skip
      refine lv_asi ek_1 ?_
      refine lv_tableIn (off := 63) (tgt := 64) hx hb dX5_count_1 (by decide) (by decide) (by decide) (by decide) ?_
      refine lv_aload_n hx hb dX5_count_64 rfl (lv_at hl 0 rfl) ?_
      refine va_get (D := gD G) (ci := 5) (v := .ref (a 1)) (C := RX5) (T := TX5) (N := 12) hx hb hts hin_X5_count_X5 hown hKK.1 hP 0 rfl rfl 0 (by decide) (hts _ lk_X5_count_7) (fun _ h9 => h9) rfl dX5_count_65 ?_
      refine lv_iconst (v := 0) hx hb dX5_count_68 (by decide) ?_
      refine va_ialdN (j := 0) (v := st 0) hx hb hKK.1 hP 1 0 rfl rfl (rfl) (by omega) (by decide) (rfl) dX5_count_69 ?_
      exact ex_ROi hx hb hr hlocks rfl dX5_count_70 (by rw [show inr x 0 11 = true from sw_inr (n := 11) ek_1 (by decide) (by decide), sw_rk ek_1 (by decide)] <;> rfl)
    · skip
      refine lv_asi ek_1 ?_
      refine lv_tableIn (off := 70) (tgt := 71) hx hb dX5_count_1 (by decide) (by decide) (by decide) (by decide) ?_
      refine lv_aload_n hx hb dX5_count_71 rfl (lv_at hl 0 rfl) ?_
      refine ro_V (As := []) (rest := []) ⟨hx, hb, hml, hown, hts⟩ (c_X5_fed l G a st kp hi sl sv pd td rc pl pt rt bn (by assumption)) (cwV 0 hts gX5_count_X5_fed rfl rfl rfl (by decide +kernel) ⟨Nat.le_of_ble_eq_true rfl, Nat.le_of_ble_eq_true rfl⟩) hP hKK (va_recv hKK.1 hP (ci := 5) (q0 := 0) rfl rfl) rfl hl.1 rfl (Nat.le_of_ble_eq_true rfl) dX5_count_72 (Nat.zero_le _) (Nat.zero_le _) ?_
      exact ex_ROi hx hb hr hlocks rfl dX5_count_75 (by rw [show inr x 0 11 = true from sw_inr (n := 11) ek_1 (by decide) (by decide), sw_rk ek_1 (by decide)] <;> rfl)
    · skip
      refine lv_asi ek_1 ?_
      refine lv_tableIn (off := 75) (tgt := 76) hx hb dX5_count_1 (by decide) (by decide) (by decide) (by decide) ?_
      refine lv_aload_n hx hb dX5_count_76 rfl (lv_at hl 0 rfl) ?_
      refine va_get (D := gD G) (ci := 5) (v := .ref (a 1)) (C := RX5) (T := TX5) (N := 12) hx hb hts hin_X5_count_X5 hown hKK.1 hP 0 rfl rfl 0 (by decide) (hts _ lk_X5_count_7) (fun _ h9 => h9) rfl dX5_count_77 ?_
      refine lv_iconst (v := 1) hx hb dX5_count_80 (by decide) ?_
      refine va_ialdN (j := 1) (v := st 1) hx hb hKK.1 hP 1 0 rfl rfl (rfl) (by omega) (by decide) (rfl) dX5_count_81 ?_
      exact ex_ROi hx hb hr hlocks rfl dX5_count_82 (by rw [show inr x 0 11 = true from sw_inr (n := 11) ek_1 (by decide) (by decide), sw_rk ek_1 (by decide)] <;> rfl)
    · skip
      refine lv_asi ek_1 ?_
      refine lv_tableIn (off := 82) (tgt := 83) hx hb dX5_count_1 (by decide) (by decide) (by decide) (by decide) ?_
      refine lv_aload_n hx hb dX5_count_83 rfl (lv_at hl 0 rfl) ?_
      refine ro_V (As := []) (rest := []) ⟨hx, hb, hml, hown, hts⟩ (c_X5_wanting l G a st kp hi sl sv pd td rc pl pt rt bn (by assumption)) (cwV 0 hts gX5_count_X5_wanting rfl rfl rfl (by decide +kernel) ⟨Nat.le_of_ble_eq_true rfl, Nat.le_of_ble_eq_true rfl⟩) hP hKK (va_recv hKK.1 hP (ci := 5) (q0 := 0) rfl rfl) rfl hl.1 rfl (Nat.le_of_ble_eq_true rfl) dX5_count_84 (Nat.zero_le _) (Nat.zero_le _) ?_
      exact ex_ROi hx hb hr hlocks rfl dX5_count_87 (by rw [show inr x 0 11 = true from sw_inr (n := 11) ek_1 (by decide) (by decide), sw_rk ek_1 (by decide)] <;> rfl)
    · skip
      refine lv_asi ek_1 ?_
      refine lv_tableIn (off := 87) (tgt := 88) hx hb dX5_count_1 (by decide) (by decide) (by decide) (by decide) ?_
      refine lv_aload_n hx hb dX5_count_88 rfl (lv_at hl 0 rfl) ?_
      refine va_get (D := gD G) (ci := 5) (v := .ref (a 1)) (C := RX5) (T := TX5) (N := 12) hx hb hts hin_X5_count_X5 hown hKK.1 hP 0 rfl rfl 0 (by decide) (hts _ lk_X5_count_7) (fun _ h9 => h9) rfl dX5_count_89 ?_
      refine lv_iconst (v := 2) hx hb dX5_count_92 (by decide) ?_
      refine va_ialdN (j := 2) (v := st 2) hx hb hKK.1 hP 1 0 rfl rfl (rfl) (by omega) (by decide) (rfl) dX5_count_93 ?_
      exact ex_ROi hx hb hr hlocks rfl dX5_count_94 (by rw [show inr x 0 11 = true from sw_inr (n := 11) ek_1 (by decide) (by decide), sw_rk ek_1 (by decide)] <;> rfl)
    · skip
      refine lv_asi ek_1 ?_
      refine lv_tableIn (off := 94) (tgt := 95) hx hb dX5_count_1 (by decide) (by decide) (by decide) (by decide) ?_
      refine lv_aload_n hx hb dX5_count_95 rfl (lv_at hl 0 rfl) ?_
      refine va_get (D := gD G) (ci := 5) (v := .ref (a 1)) (C := RX5) (T := TX5) (N := 12) hx hb hts hin_X5_count_X5 hown hKK.1 hP 0 rfl rfl 0 (by decide) (hts _ lk_X5_count_7) (fun _ h9 => h9) rfl dX5_count_96 ?_
      refine lv_iconst (v := 3) hx hb dX5_count_99 (by decide) ?_
      refine va_ialdN (j := 3) (v := st 3) hx hb hKK.1 hP 1 0 rfl rfl (rfl) (by omega) (by decide) (rfl) dX5_count_100 ?_
      exact ex_ROi hx hb hr hlocks rfl dX5_count_101 (by rw [show inr x 0 11 = true from sw_inr (n := 11) ek_1 (by decide) (by decide), sw_rk ek_1 (by decide)] <;> rfl)
    · skip
      refine lv_asi ek_1 ?_
      refine lv_tableIn (off := 101) (tgt := 102) hx hb dX5_count_1 (by decide) (by decide) (by decide) (by decide) ?_
      refine lv_aload_n hx hb dX5_count_102 rfl (lv_at hl 0 rfl) ?_
      refine va_get (D := gD G) (ci := 5) (v := .ref (a 1)) (C := RX5) (T := TX5) (N := 12) hx hb hts hin_X5_count_X5 hown hKK.1 hP 0 rfl rfl 0 (by decide) (hts _ lk_X5_count_7) (fun _ h9 => h9) rfl dX5_count_103 ?_
      refine lv_iconst (v := 4) hx hb dX5_count_106 (by decide) ?_
      refine va_ialdN (j := 4) (v := st 4) hx hb hKK.1 hP 1 0 rfl rfl (rfl) (by omega) (by decide) (rfl) dX5_count_107 ?_
      exact ex_ROi hx hb hr hlocks rfl dX5_count_108 (by rw [show inr x 0 11 = true from sw_inr (n := 11) ek_1 (by decide) (by decide), sw_rk ek_1 (by decide)] <;> rfl)
    · skip
      refine lv_asi ek_1 ?_
      refine lv_tableIn (off := 108) (tgt := 109) hx hb dX5_count_1 (by decide) (by decide) (by decide) (by decide) ?_
      refine lv_aload_n hx hb dX5_count_109 rfl (lv_at hl 0 rfl) ?_
      refine va_get (D := gD G) (ci := 5) (v := .ref (a 1)) (C := RX5) (T := TX5) (N := 12) hx hb hts hin_X5_count_X5 hown hKK.1 hP 0 rfl rfl 0 (by decide) (hts _ lk_X5_count_7) (fun _ h9 => h9) rfl dX5_count_110 ?_
      refine lv_iconst (v := 5) hx hb dX5_count_113 (by decide) ?_
      refine va_ialdN (j := 5) (v := st 5) hx hb hKK.1 hP 1 0 rfl rfl (rfl) (by omega) (by decide) (rfl) dX5_count_114 ?_
      exact ex_ROi hx hb hr hlocks rfl dX5_count_115 (by rw [show inr x 0 11 = true from sw_inr (n := 11) ek_1 (by decide) (by decide), sw_rk ek_1 (by decide)] <;> rfl)
    · skip
      refine lv_asi ek_1 ?_
      refine lv_tableIn (off := 115) (tgt := 116) hx hb dX5_count_1 (by decide) (by decide) (by decide) (by decide) ?_
      refine lv_aload_n hx hb dX5_count_116 rfl (lv_at hl 0 rfl) ?_
      refine ro_V (As := []) (rest := []) ⟨hx, hb, hml, hown, hts⟩ (c_X5_relaysWithBranches l G a st kp hi sl sv pd td rc pl pt rt bn) (cwV 0 hts gX5_count_X5_relaysWithBranches rfl rfl rfl (by decide +kernel) ⟨Nat.le_of_ble_eq_true rfl, Nat.le_of_ble_eq_true rfl⟩) hP hKK (va_recv hKK.1 hP (ci := 5) (q0 := 0) rfl rfl) rfl hl.1 rfl (Nat.le_of_ble_eq_true rfl) dX5_count_117 (Nat.zero_le _) (Nat.zero_le _) ?_
      exact ex_ROi hx hb hr hlocks rfl dX5_count_120 (by rw [show inr x 0 11 = true from sw_inr (n := 11) ek_1 (by decide) (by decide), sw_rk ek_1 (by decide)] <;> rfl)
    · skip
      refine lv_asi ek_1 ?_
      refine lv_tableIn (off := 120) (tgt := 121) hx hb dX5_count_1 (by decide) (by decide) (by decide) (by decide) ?_
      refine lv_aload_n hx hb dX5_count_121 rfl (lv_at hl 0 rfl) ?_
      refine ro_V (As := []) (rest := []) ⟨hx, hb, hml, hown, hts⟩ (c_X5_neverClosed l G a st kp hi sl sv pd td rc pl pt rt bn (by assumption)) (cwV 0 hts gX5_count_X5_neverClosed rfl rfl rfl (by decide +kernel) ⟨Nat.le_of_ble_eq_true rfl, Nat.le_of_ble_eq_true rfl⟩) hP hKK (va_recv hKK.1 hP (ci := 5) (q0 := 0) rfl rfl) rfl hl.1 rfl (Nat.le_of_ble_eq_true rfl) dX5_count_122 (Nat.zero_le _) (Nat.zero_le _) ?_
      exact ex_ROi hx hb hr hlocks rfl dX5_count_125 (by rw [show inr x 0 11 = true from sw_inr (n := 11) ek_1 (by decide) (by decide), sw_rk ek_1 (by decide)] <;> rfl)
    · skip
      refine lv_asi ek_1 ?_
      refine lv_tableIn (off := 125) (tgt := 126) hx hb dX5_count_1 (by decide) (by decide) (by decide) (by decide) ?_
      refine lv_aload_n hx hb dX5_count_126 rfl (lv_at hl 0 rfl) ?_
      refine va_get (D := gD G) (ci := 5) (v := .int pl) (C := RX5) (T := TX5) (N := 12) hx hb hts hin_X5_count_X5 hown hKK.1 hP 0 rfl rfl 7 (by decide) (hts _ lk_X5_count_92) (fun _ h9 => h9) rfl dX5_count_127 ?_
      exact ex_ROi hx hb hr hlocks rfl dX5_count_130 (by rw [show inr x 0 11 = true from sw_inr (n := 11) ek_1 (by decide) (by decide), sw_rk ek_1 (by decide)] <;> rfl)
    · skip
      refine lv_asi ek_1 ?_
      refine lv_tableIn (off := 130) (tgt := 131) hx hb dX5_count_1 (by decide) (by decide) (by decide) (by decide) ?_
      refine lv_aload_n hx hb dX5_count_131 rfl (lv_at hl 0 rfl) ?_
      refine va_get (D := gD G) (ci := 5) (v := .int rc) (C := RX5) (T := TX5) (N := 12) hx hb hts hin_X5_count_X5 hown hKK.1 hP 0 rfl rfl 3 (by decide) (hts _ lk_X5_count_35) (fun _ h9 => h9) rfl dX5_count_132 ?_
      exact ex_ROi hx hb hr hlocks rfl dX5_count_135 (by rw [show inr x 0 11 = true from sw_inr (n := 11) ek_1 (by decide) (by decide), sw_rk ek_1 (by decide)] <;> rfl)
  · skip
    refine lv_tableOut (tgt := 136) hx hb dX5_count_1 c_1 (by decide) ?_
    refine lv_bipush (v := (-2)) hx hb dX5_count_136 (by decide) ?_
    exact ex_ROi hx hb hr hlocks rfl dX5_count_138 (by rw [show inr x 0 11 = false from sw_out (n := 11) (by decide) c_1] <;> rfl)
set_option maxRecDepth 20000 in
theorem hin_X5_restWith_X5 : ∀ w ∈ u_ws RX5 TX5 12, w ∈ wsX5_restWith := by decide +kernel
theorem lk_X5_restWith_7 : Cond.fieldLink RX5 7 "WeldedRelaysModel" "state" "[I" ∈ wsX5_restWith := by decide +kernel
theorem lk_X5_restWith_13 : Cond.fieldLink RX5 13 "WeldedRelaysModel" "kept" "[I" ∈ wsX5_restWith := by decide +kernel
set_option maxHeartbeats 4000000 in
set_option maxRecDepth 100000 in
/-- X5_restWith -/
theorem c_X5_restWith (l : Launch) (G : GG) (a : Nat → Nat) (st : Nat → Int32) (kp : Nat → Int32) (hi : Nat → Int32) (sl : Nat → Int32) (sv : Nat → Int32) (pd : Nat → Int32) (td : Nat → Int32) (rc : Int32) (pl : Int32) (pt : Int32) (rt : Int32) (bn : Int32) (b : Int32) (x : Int32) (hI : RI st) : Met l yX5_restWith wsX5_restWith ({ frames := 8, cells := 0, slots := 0, locals := 177 }) (pcM G [.ref (a 0), .int b, .int x] (mW G a st kp hi sl sv pd td rc pl pt rt bn)) (qMU G (some (.int (rsR st b x))) (mW G a st kp hi sl sv pd td rc pl pt rt bn) (mW G a kp kp hi sl sv pd td rc pl pt rt bn)) 0 0 (aA (mW G a st kp hi sl sv pd td rc pl pt rt bn)) := by
  refine hd_MU (cc := cX5_restWith) (maxL := 6) (ret := some .int) (by decide) rfl (Nat.le_of_ble_eq_true rfl) ?_
  intro p e s m below meth c ls hx hb hr hts hown hlocks hml hP hKK hD hS hl
  have hl : lv_has ls 6 [(0, .ref (a 0)), (1, .int b), (2, .int x)] := hl
  refine lv_aload_n hx hb dX5_restWith_0 rfl (lv_at hl 0 rfl) ?_
  refine va_get (D := gD G) (ci := 5) (v := .ref (a 1)) (C := RX5) (T := TX5) (N := 12) hx hb hts hin_X5_restWith_X5 hown hKK.1 hP 0 rfl rfl 0 (by decide) (hts _ lk_X5_restWith_7) (fun _ h9 => h9) rfl dX5_restWith_1 ?_
  refine lv_iconst (v := 4) hx hb dX5_restWith_4 (by decide) ?_
  refine va_ialdN (j := 4) (v := st 4) hx hb hKK.1 hP 1 0 rfl rfl (rfl) (by omega) (by decide) (rfl) dX5_restWith_5 ?_
  refine lv_istore_n (lv' := [(3, .int (st 4)), (0, .ref (a 0)), (1, .int b), (2, .int x)]) hx hb dX5_restWith_6 rfl hl (by decide) rfl (fun ls hl => ?_)
  refine lv_aload_n hx hb dX5_restWith_7 rfl (lv_at hl 1 rfl) ?_
  refine va_get (D := gD G) (ci := 5) (v := .ref (a 1)) (C := RX5) (T := TX5) (N := 12) hx hb hts hin_X5_restWith_X5 hown hKK.1 hP 0 rfl rfl 0 (by decide) (hts _ lk_X5_restWith_7) (fun _ h9 => h9) rfl dX5_restWith_8 ?_
  refine lv_iconst (v := 2) hx hb dX5_restWith_11 (by decide) ?_
  refine lv_iload_n hx hb dX5_restWith_12 rfl (lv_at hl 2 rfl) ?_
  refine va_iastN (j := 2) (x := b) hx hb hKK.1 hP hD hS 1 0 rfl rfl (rfl) (by omega) (by decide) dX5_restWith_13 (fun H locs hP hD hS => ?_)
  have hP : gP G (mW G a (upd st 2 b) kp hi sl sv pd td rc pl pt rt bn) H := hP
  have hD : va_D (aA (mW G a st kp hi sl sv pd td rc pl pt rt bn)) (mW G a (upd st 2 b) kp hi sl sv pd td rc pl pt rt bn) := hD
  refine lv_aload_n hx hb dX5_restWith_14 rfl (lv_at hl 1 rfl) ?_
  refine mu_V (As := []) (rest := []) ⟨hx, hb, hml, hown, hts⟩ (c_X5_settles l G a (upd st 2 b) kp hi sl sv pd td rc pl pt rt bn (RI_lo hI (by decide) _)) (cwV 0 hts gX5_restWith_X5_settles rfl rfl rfl (by decide +kernel) ⟨Nat.le_of_ble_eq_true rfl, Nat.le_of_ble_eq_true rfl⟩) hP hKK hD hS (va_recv hKK.1 hP (ci := 5) (q0 := 0) rfl rfl) rfl hl.1 rfl (Nat.le_of_ble_eq_true rfl) dX5_restWith_15 (Nat.zero_le _) (Nat.zero_le _) (rfl) (fun H locs hP hD hS => ?_)
  refine lv_istore (lv' := [(4, .int (nI (stlC 200 (upd st 2 b)))), (3, .int (st 4)), (0, .ref (a 0)), (1, .int b), (2, .int x)]) hx hb dX5_restWith_18 hl (by decide) rfl (fun ls hl => ?_)
  refine lv_aload_n hx hb dX5_restWith_20 rfl (lv_at hl 2 rfl) ?_
  refine ro_V (As := []) (rest := []) ⟨hx, hb, hml, hown, hts⟩ (c_X5_wanting l G a (stlV 200 (upd st 2 b)) kp hi sl sv pd td rc pl pt rt bn (stlV_RI (RI_lo hI (by decide) _) 200)) (cwV 0 hts gX5_restWith_X5_wanting rfl rfl rfl (by decide +kernel) ⟨Nat.le_of_ble_eq_true rfl, Nat.le_of_ble_eq_true rfl⟩) hP hKK (va_recv hKK.1 hP (ci := 5) (q0 := 0) rfl rfl) rfl hl.1 rfl (Nat.le_of_ble_eq_true rfl) dX5_restWith_21 (Nat.zero_le _) (Nat.zero_le _) ?_
  refine lv_if_eq (tgt := 32) hx hb dX5_restWith_24 (by decide) (fun c_24 => ?_) (fun c_24 => ?_)
  · skip
    refine lv_iload_n hx hb dX5_restWith_32 rfl (lv_at hl 4 rfl) ?_
    refine lv_if_ne (tgt := 45) hx hb dX5_restWith_33 (by decide) (fun c_33 => ?_) (fun c_33 => ?_)
    · skip
      refine lv_iload_n hx hb dX5_restWith_45 rfl (lv_at hl 4 rfl) ?_
      refine lv_iconst (v := 1) hx hb dX5_restWith_46 (by decide) ?_
      refine lv_icmp_ne (tgt := 55) hx hb dX5_restWith_47 (by decide) (fun c_47 => ?_) (fun c_47 => ?_)
      · skip
        refine lv_aload_n hx hb dX5_restWith_55 rfl (lv_at hl 2 rfl) ?_
        refine va_get (D := gD G) (ci := 5) (v := .ref (a 1)) (C := RX5) (T := TX5) (N := 12) hx hb hts hin_X5_restWith_X5 hown hKK.1 hP 0 rfl rfl 0 (by decide) (hts _ lk_X5_restWith_7) (fun _ h9 => h9) rfl dX5_restWith_56 ?_
        refine lv_iconst (v := 4) hx hb dX5_restWith_59 (by decide) ?_
        refine va_ialdN (j := 4) (v := (stlV 200 (upd st 2 b)) 4) hx hb hKK.1 hP 1 0 rfl rfl (rfl) (by omega) (by decide) (rfl) dX5_restWith_60 ?_
        refine lv_iload_n hx hb dX5_restWith_61 rfl (lv_at hl 1 rfl) ?_
        refine lv_isub hx hb dX5_restWith_62 ?_
        refine lv_istore (lv' := [(5, .int (((stlV 200 (upd st 2 b)) 4) - (st 4))), (4, .int (nI (stlC 200 (upd st 2 b)))), (3, .int (st 4)), (0, .ref (a 0)), (1, .int b), (2, .int x)]) hx hb dX5_restWith_63 hl (by decide) rfl (fun ls hl => ?_)
        refine lv_aload_n hx hb dX5_restWith_65 rfl (lv_at hl 3 rfl) ?_
        refine va_get (D := gD G) (ci := 5) (v := .ref (a 2)) (C := RX5) (T := TX5) (N := 12) hx hb hts hin_X5_restWith_X5 hown hKK.1 hP 0 rfl rfl 1 (by decide) (hts _ lk_X5_restWith_13) (fun _ h9 => h9) rfl dX5_restWith_66 ?_
        refine lv_iconst (v := 0) hx hb dX5_restWith_69 (by decide) ?_
        refine lv_aload_n hx hb dX5_restWith_70 rfl (lv_at hl 3 rfl) ?_
        refine va_get (D := gD G) (ci := 5) (v := .ref (a 1)) (C := RX5) (T := TX5) (N := 12) hx hb hts hin_X5_restWith_X5 hown hKK.1 hP 0 rfl rfl 0 (by decide) (hts _ lk_X5_restWith_7) (fun _ h9 => h9) rfl dX5_restWith_71 ?_
        refine lv_iconst (v := 0) hx hb dX5_restWith_74 (by decide) ?_
        refine mu_SF (ws := (mW G a (stlV 200 (upd st 2 b)) kp hi sl sv pd td rc pl pt rt bn)) (ws' := (mW G a (va_cpy kp (stlV 200 (upd st 2 b)) 0 0 236) kp hi sl sv pd td rc pl pt rt bn)) (wr := [(a 0, .inr (5, [.ref (a 1), .ref (a 2), .ref (a 3), .int rc, .ref (a 4), .ref (a 5), .ref (a 6), .int pl, .int pt, .int rt, .ref (a 7), .int bn])), (a 3, .inl (gI G, 1416, .inl hi)), (a 4, .inl (gI G, 472, .inl sl)), (a 5, .inl (gI G, 2, .inl sv)), (a 6, .inl (gI G, 64, .inl pd)), (a 7, .inl (gI G, 18, .inl td))]) (As := [.ref (a 2), .int (nI 0), .ref (a 1), .int (nI 0)]) (rest := []) ⟨hx, hb, hml, hown, hts⟩ (c_X5_moves l G (a 2) (a 1) _ _ 0 0 _ _ (by omega) (by omega) (by omega) (by omega)) (va_cwS 4 hts gX5_restWith_X5_moves rfl rfl rfl (by decide +kernel) ⟨Nat.le_of_ble_eq_true rfl, Nat.le_of_ble_eq_true rfl⟩) (cells_perm (mW G a (stlV 200 (upd st 2 b)) kp hi sl sv pd td rc pl pt rt bn) [2, 1, 0, 3, 4, 5, 6, 7] 8 (by decide) rfl) (cells_perm (mW G a (va_cpy kp (stlV 200 (upd st 2 b)) 0 0 236) kp hi sl sv pd td rc pl pt rt bn) [2, 1, 0, 3, 4, 5, 6, 7] 8 (by decide) rfl) hP hKK hD hS rfl hl.1 rfl (Nat.le_of_ble_eq_true rfl) dX5_restWith_75 (Nat.zero_le _) (Nat.zero_le _) rfl (fun H locs hP hD hS => ?_)
        have hP : gP G (mW G a kp kp hi sl sv pd td rc pl pt rt bn) H := mW_st (cpyA kp _) hP
        have hD : va_D (aA (mW G a st kp hi sl sv pd td rc pl pt rt bn)) (mW G a kp kp hi sl sv pd td rc pl pt rt bn) := va_D_addr hD rfl
        refine lv_iload hx hb dX5_restWith_78 (lv_at hl 0 rfl) ?_
        exact ex_MUi (w2 := (mW G a kp kp hi sl sv pd td rc pl pt rt bn)) hx hb hr hlocks hP hS dX5_restWith_80 (by rw [rsR, atRest_t c_24] <;> exact congrArg (fun q => some (Value.int q)) ((if_neg c_33).trans (if_neg c_47)).symm) (fun h => h)
      · skip
        refine lv_iload hx hb dX5_restWith_50 (lv_at hl 0 rfl) ?_
        refine lv_goto (tgt := 63) hx hb dX5_restWith_52 (by decide) ?_
        refine lv_istore (lv' := [(5, .int (nI (stlC 200 (upd st 2 b)))), (4, .int (nI (stlC 200 (upd st 2 b)))), (3, .int (st 4)), (0, .ref (a 0)), (1, .int b), (2, .int x)]) hx hb dX5_restWith_63 hl (by decide) rfl (fun ls hl => ?_)
        refine lv_aload_n hx hb dX5_restWith_65 rfl (lv_at hl 3 rfl) ?_
        refine va_get (D := gD G) (ci := 5) (v := .ref (a 2)) (C := RX5) (T := TX5) (N := 12) hx hb hts hin_X5_restWith_X5 hown hKK.1 hP 0 rfl rfl 1 (by decide) (hts _ lk_X5_restWith_13) (fun _ h9 => h9) rfl dX5_restWith_66 ?_
        refine lv_iconst (v := 0) hx hb dX5_restWith_69 (by decide) ?_
        refine lv_aload_n hx hb dX5_restWith_70 rfl (lv_at hl 3 rfl) ?_
        refine va_get (D := gD G) (ci := 5) (v := .ref (a 1)) (C := RX5) (T := TX5) (N := 12) hx hb hts hin_X5_restWith_X5 hown hKK.1 hP 0 rfl rfl 0 (by decide) (hts _ lk_X5_restWith_7) (fun _ h9 => h9) rfl dX5_restWith_71 ?_
        refine lv_iconst (v := 0) hx hb dX5_restWith_74 (by decide) ?_
        refine mu_SF (ws := (mW G a (stlV 200 (upd st 2 b)) kp hi sl sv pd td rc pl pt rt bn)) (ws' := (mW G a (va_cpy kp (stlV 200 (upd st 2 b)) 0 0 236) kp hi sl sv pd td rc pl pt rt bn)) (wr := [(a 0, .inr (5, [.ref (a 1), .ref (a 2), .ref (a 3), .int rc, .ref (a 4), .ref (a 5), .ref (a 6), .int pl, .int pt, .int rt, .ref (a 7), .int bn])), (a 3, .inl (gI G, 1416, .inl hi)), (a 4, .inl (gI G, 472, .inl sl)), (a 5, .inl (gI G, 2, .inl sv)), (a 6, .inl (gI G, 64, .inl pd)), (a 7, .inl (gI G, 18, .inl td))]) (As := [.ref (a 2), .int (nI 0), .ref (a 1), .int (nI 0)]) (rest := []) ⟨hx, hb, hml, hown, hts⟩ (c_X5_moves l G (a 2) (a 1) _ _ 0 0 _ _ (by omega) (by omega) (by omega) (by omega)) (va_cwS 4 hts gX5_restWith_X5_moves rfl rfl rfl (by decide +kernel) ⟨Nat.le_of_ble_eq_true rfl, Nat.le_of_ble_eq_true rfl⟩) (cells_perm (mW G a (stlV 200 (upd st 2 b)) kp hi sl sv pd td rc pl pt rt bn) [2, 1, 0, 3, 4, 5, 6, 7] 8 (by decide) rfl) (cells_perm (mW G a (va_cpy kp (stlV 200 (upd st 2 b)) 0 0 236) kp hi sl sv pd td rc pl pt rt bn) [2, 1, 0, 3, 4, 5, 6, 7] 8 (by decide) rfl) hP hKK hD hS rfl hl.1 rfl (Nat.le_of_ble_eq_true rfl) dX5_restWith_75 (Nat.zero_le _) (Nat.zero_le _) rfl (fun H locs hP hD hS => ?_)
        have hP : gP G (mW G a kp kp hi sl sv pd td rc pl pt rt bn) H := mW_st (cpyA kp _) hP
        have hD : va_D (aA (mW G a st kp hi sl sv pd td rc pl pt rt bn)) (mW G a kp kp hi sl sv pd td rc pl pt rt bn) := va_D_addr hD rfl
        refine lv_iload hx hb dX5_restWith_78 (lv_at hl 0 rfl) ?_
        exact ex_MUi (w2 := (mW G a kp kp hi sl sv pd td rc pl pt rt bn)) hx hb hr hlocks hP hS dX5_restWith_80 (by rw [rsR, atRest_t c_24] <;> exact congrArg (fun q => some (Value.int q)) ((if_neg c_33).trans (if_pos c_47)).symm) (fun h => h)
    · skip
      refine lv_aload_n hx hb dX5_restWith_36 rfl (lv_at hl 2 rfl) ?_
      refine va_get (D := gD G) (ci := 5) (v := .ref (a 1)) (C := RX5) (T := TX5) (N := 12) hx hb hts hin_X5_restWith_X5 hown hKK.1 hP 0 rfl rfl 0 (by decide) (hts _ lk_X5_restWith_7) (fun _ h9 => h9) rfl dX5_restWith_37 ?_
      refine lv_iconst (v := 0) hx hb dX5_restWith_40 (by decide) ?_
      refine va_ialdN (j := 0) (v := (stlV 200 (upd st 2 b)) 0) hx hb hKK.1 hP 1 0 rfl rfl (rfl) (by omega) (by decide) (rfl) dX5_restWith_41 ?_
      refine lv_goto (tgt := 63) hx hb dX5_restWith_42 (by decide) ?_
      refine lv_istore (lv' := [(5, .int ((stlV 200 (upd st 2 b)) 0)), (4, .int (nI (stlC 200 (upd st 2 b)))), (3, .int (st 4)), (0, .ref (a 0)), (1, .int b), (2, .int x)]) hx hb dX5_restWith_63 hl (by decide) rfl (fun ls hl => ?_)
      refine lv_aload_n hx hb dX5_restWith_65 rfl (lv_at hl 3 rfl) ?_
      refine va_get (D := gD G) (ci := 5) (v := .ref (a 2)) (C := RX5) (T := TX5) (N := 12) hx hb hts hin_X5_restWith_X5 hown hKK.1 hP 0 rfl rfl 1 (by decide) (hts _ lk_X5_restWith_13) (fun _ h9 => h9) rfl dX5_restWith_66 ?_
      refine lv_iconst (v := 0) hx hb dX5_restWith_69 (by decide) ?_
      refine lv_aload_n hx hb dX5_restWith_70 rfl (lv_at hl 3 rfl) ?_
      refine va_get (D := gD G) (ci := 5) (v := .ref (a 1)) (C := RX5) (T := TX5) (N := 12) hx hb hts hin_X5_restWith_X5 hown hKK.1 hP 0 rfl rfl 0 (by decide) (hts _ lk_X5_restWith_7) (fun _ h9 => h9) rfl dX5_restWith_71 ?_
      refine lv_iconst (v := 0) hx hb dX5_restWith_74 (by decide) ?_
      refine mu_SF (ws := (mW G a (stlV 200 (upd st 2 b)) kp hi sl sv pd td rc pl pt rt bn)) (ws' := (mW G a (va_cpy kp (stlV 200 (upd st 2 b)) 0 0 236) kp hi sl sv pd td rc pl pt rt bn)) (wr := [(a 0, .inr (5, [.ref (a 1), .ref (a 2), .ref (a 3), .int rc, .ref (a 4), .ref (a 5), .ref (a 6), .int pl, .int pt, .int rt, .ref (a 7), .int bn])), (a 3, .inl (gI G, 1416, .inl hi)), (a 4, .inl (gI G, 472, .inl sl)), (a 5, .inl (gI G, 2, .inl sv)), (a 6, .inl (gI G, 64, .inl pd)), (a 7, .inl (gI G, 18, .inl td))]) (As := [.ref (a 2), .int (nI 0), .ref (a 1), .int (nI 0)]) (rest := []) ⟨hx, hb, hml, hown, hts⟩ (c_X5_moves l G (a 2) (a 1) _ _ 0 0 _ _ (by omega) (by omega) (by omega) (by omega)) (va_cwS 4 hts gX5_restWith_X5_moves rfl rfl rfl (by decide +kernel) ⟨Nat.le_of_ble_eq_true rfl, Nat.le_of_ble_eq_true rfl⟩) (cells_perm (mW G a (stlV 200 (upd st 2 b)) kp hi sl sv pd td rc pl pt rt bn) [2, 1, 0, 3, 4, 5, 6, 7] 8 (by decide) rfl) (cells_perm (mW G a (va_cpy kp (stlV 200 (upd st 2 b)) 0 0 236) kp hi sl sv pd td rc pl pt rt bn) [2, 1, 0, 3, 4, 5, 6, 7] 8 (by decide) rfl) hP hKK hD hS rfl hl.1 rfl (Nat.le_of_ble_eq_true rfl) dX5_restWith_75 (Nat.zero_le _) (Nat.zero_le _) rfl (fun H locs hP hD hS => ?_)
      have hP : gP G (mW G a kp kp hi sl sv pd td rc pl pt rt bn) H := mW_st (cpyA kp _) hP
      have hD : va_D (aA (mW G a st kp hi sl sv pd td rc pl pt rt bn)) (mW G a kp kp hi sl sv pd td rc pl pt rt bn) := va_D_addr hD rfl
      refine lv_iload hx hb dX5_restWith_78 (lv_at hl 0 rfl) ?_
      exact ex_MUi (w2 := (mW G a kp kp hi sl sv pd td rc pl pt rt bn)) hx hb hr hlocks hP hS dX5_restWith_80 (by rw [rsR, atRest_t c_24] <;> exact congrArg (fun q => some (Value.int q)) (if_pos c_33).symm) (fun h => h)
  · skip
    refine lv_bipush (v := (-6)) hx hb dX5_restWith_27 (by decide) ?_
    refine lv_goto (tgt := 63) hx hb dX5_restWith_29 (by decide) ?_
    refine lv_istore (lv' := [(5, .int (-6)), (4, .int (nI (stlC 200 (upd st 2 b)))), (3, .int (st 4)), (0, .ref (a 0)), (1, .int b), (2, .int x)]) hx hb dX5_restWith_63 hl (by decide) rfl (fun ls hl => ?_)
    refine lv_aload_n hx hb dX5_restWith_65 rfl (lv_at hl 3 rfl) ?_
    refine va_get (D := gD G) (ci := 5) (v := .ref (a 2)) (C := RX5) (T := TX5) (N := 12) hx hb hts hin_X5_restWith_X5 hown hKK.1 hP 0 rfl rfl 1 (by decide) (hts _ lk_X5_restWith_13) (fun _ h9 => h9) rfl dX5_restWith_66 ?_
    refine lv_iconst (v := 0) hx hb dX5_restWith_69 (by decide) ?_
    refine lv_aload_n hx hb dX5_restWith_70 rfl (lv_at hl 3 rfl) ?_
    refine va_get (D := gD G) (ci := 5) (v := .ref (a 1)) (C := RX5) (T := TX5) (N := 12) hx hb hts hin_X5_restWith_X5 hown hKK.1 hP 0 rfl rfl 0 (by decide) (hts _ lk_X5_restWith_7) (fun _ h9 => h9) rfl dX5_restWith_71 ?_
    refine lv_iconst (v := 0) hx hb dX5_restWith_74 (by decide) ?_
    refine mu_SF (ws := (mW G a (stlV 200 (upd st 2 b)) kp hi sl sv pd td rc pl pt rt bn)) (ws' := (mW G a (va_cpy kp (stlV 200 (upd st 2 b)) 0 0 236) kp hi sl sv pd td rc pl pt rt bn)) (wr := [(a 0, .inr (5, [.ref (a 1), .ref (a 2), .ref (a 3), .int rc, .ref (a 4), .ref (a 5), .ref (a 6), .int pl, .int pt, .int rt, .ref (a 7), .int bn])), (a 3, .inl (gI G, 1416, .inl hi)), (a 4, .inl (gI G, 472, .inl sl)), (a 5, .inl (gI G, 2, .inl sv)), (a 6, .inl (gI G, 64, .inl pd)), (a 7, .inl (gI G, 18, .inl td))]) (As := [.ref (a 2), .int (nI 0), .ref (a 1), .int (nI 0)]) (rest := []) ⟨hx, hb, hml, hown, hts⟩ (c_X5_moves l G (a 2) (a 1) _ _ 0 0 _ _ (by omega) (by omega) (by omega) (by omega)) (va_cwS 4 hts gX5_restWith_X5_moves rfl rfl rfl (by decide +kernel) ⟨Nat.le_of_ble_eq_true rfl, Nat.le_of_ble_eq_true rfl⟩) (cells_perm (mW G a (stlV 200 (upd st 2 b)) kp hi sl sv pd td rc pl pt rt bn) [2, 1, 0, 3, 4, 5, 6, 7] 8 (by decide) rfl) (cells_perm (mW G a (va_cpy kp (stlV 200 (upd st 2 b)) 0 0 236) kp hi sl sv pd td rc pl pt rt bn) [2, 1, 0, 3, 4, 5, 6, 7] 8 (by decide) rfl) hP hKK hD hS rfl hl.1 rfl (Nat.le_of_ble_eq_true rfl) dX5_restWith_75 (Nat.zero_le _) (Nat.zero_le _) rfl (fun H locs hP hD hS => ?_)
    have hP : gP G (mW G a kp kp hi sl sv pd td rc pl pt rt bn) H := mW_st (cpyA kp _) hP
    have hD : va_D (aA (mW G a st kp hi sl sv pd td rc pl pt rt bn)) (mW G a kp kp hi sl sv pd td rc pl pt rt bn) := va_D_addr hD rfl
    refine lv_iload hx hb dX5_restWith_78 (lv_at hl 0 rfl) ?_
    exact ex_MUi (w2 := (mW G a kp kp hi sl sv pd td rc pl pt rt bn)) hx hb hr hlocks hP hS dX5_restWith_80 (by rw [rsR, atRest_f c_24] <;> rfl) (fun h => h)
set_option maxRecDepth 20000 in
theorem hin_X5_ifPressed_X5 : ∀ w ∈ u_ws RX5 TX5 12, w ∈ wsX5_ifPressed := by decide +kernel
theorem lk_X5_ifPressed_7 : Cond.fieldLink RX5 7 "WeldedRelaysModel" "state" "[I" ∈ wsX5_ifPressed := by decide +kernel
theorem lk_X5_ifPressed_13 : Cond.fieldLink RX5 13 "WeldedRelaysModel" "kept" "[I" ∈ wsX5_ifPressed := by decide +kernel
set_option maxHeartbeats 4000000 in
set_option maxRecDepth 100000 in
/-- X5_ifPressed -/
theorem c_X5_ifPressed (l : Launch) (G : GG) (a : Nat → Nat) (st : Nat → Int32) (kp : Nat → Int32) (hi : Nat → Int32) (sl : Nat → Int32) (sv : Nat → Int32) (pd : Nat → Int32) (td : Nat → Int32) (rc : Int32) (pl : Int32) (pt : Int32) (rt : Int32) (bn : Int32) (b : Int32) (t : Int32) (hI : RI st) : Met l yX5_ifPressed wsX5_ifPressed ({ frames := 8, cells := 0, slots := 0, locals := 179 }) (pcM G [.ref (a 0), .int b, .int t] (mW G a st kp hi sl sv pd td rc pl pt rt bn)) (qMU G (some (.int (cond (inr b 0 63 && inr t 0 200) (tickN (rk t) (upd st 2 b) 0) (-2)))) (mW G a st kp hi sl sv pd td rc pl pt rt bn) (mW G a st (cond (inr b 0 63 && inr t 0 200) (st) (kp)) hi sl sv pd td rc pl pt rt bn)) 0 0 (aA (mW G a st kp hi sl sv pd td rc pl pt rt bn)) := by
  refine hd_MU (cc := cX5_ifPressed) (maxL := 4) (ret := some .int) (by decide) rfl (Nat.le_of_ble_eq_true rfl) ?_
  intro p e s m below meth c ls hx hb hr hts hown hlocks hml hP hKK hD hS hl
  have hl : lv_has ls 4 [(0, .ref (a 0)), (1, .int b), (2, .int t)] := hl
  refine lv_iload_n hx hb dX5_ifPressed_0 rfl (lv_at hl 1 rfl) ?_
  refine ro_S (As := [.int b]) (rest := []) ⟨hx, hb, hml, hown, hts⟩ (c_X5_isSet l G b) (va_cwS 1 hts gX5_ifPressed_X5_isSet rfl rfl rfl (by decide +kernel) ⟨Nat.le_of_ble_eq_true rfl, Nat.le_of_ble_eq_true rfl⟩) (show gP G [] _ from fun k q h => by simp at h) hKK rfl hl.1 rfl (Nat.le_of_ble_eq_true rfl) dX5_ifPressed_1 (Nat.zero_le _) (Nat.zero_le _) ?_
  refine lv_if_eq (tgt := 18) hx hb dX5_ifPressed_4 (by decide) (fun c_4 => ?_) (fun c_4 => ?_)
  · skip
    have c_4 := b2i_0 c_4
    refine lv_bipush (v := (-2)) hx hb dX5_ifPressed_18 (by decide) ?_
    exact ex_MUi (w2 := (mW G a st kp hi sl sv pd td rc pl pt rt bn)) hx hb hr hlocks hP hS dX5_ifPressed_20 (by rw [c_4] <;> rfl) (fun h => by rw [c_4]; exact h)
  · skip
    have c_4 := b2i_1 c_4
    refine lv_iload_n hx hb dX5_ifPressed_7 rfl (lv_at hl 2 rfl) ?_
    refine lv_iconst (v := 0) hx hb dX5_ifPressed_8 (by decide) ?_
    refine lv_sipush (v := 200) hx hb dX5_ifPressed_9 (by decide) ?_
    refine ro_S (As := [.int t, .int 0, .int 200]) (rest := []) ⟨hx, hb, hml, hown, hts⟩ (c_X5_within l G t 0 200) (va_cwS 3 hts gX5_ifPressed_X5_within rfl rfl rfl (by decide +kernel) ⟨Nat.le_of_ble_eq_true rfl, Nat.le_of_ble_eq_true rfl⟩) (show gP G [] _ from fun k q h => by simp at h) hKK rfl hl.1 rfl (Nat.le_of_ble_eq_true rfl) dX5_ifPressed_12 (Nat.zero_le _) (Nat.zero_le _) ?_
    refine lv_if_ne (tgt := 21) hx hb dX5_ifPressed_15 (by decide) (fun c_15 => ?_) (fun c_15 => ?_)
    · skip
      have c_15 := b2i_1 c_15
      have ht9 := inr_r0200 c_15
      have hl : lv_has ls 4 [(0, .ref (a 0)), (1, .int b), (2, .int (nI (rk t)))] := by have e_l1 : t = (nI (rk t)) := (ht9.1); rw [← e_l1]; exact hl
      refine lv_aload_n hx hb dX5_ifPressed_21 rfl (lv_at hl 0 rfl) ?_
      refine va_get (D := gD G) (ci := 5) (v := .ref (a 1)) (C := RX5) (T := TX5) (N := 12) hx hb hts hin_X5_ifPressed_X5 hown hKK.1 hP 0 rfl rfl 0 (by decide) (hts _ lk_X5_ifPressed_7) (fun _ h9 => h9) rfl dX5_ifPressed_22 ?_
      refine lv_iconst (v := 0) hx hb dX5_ifPressed_25 (by decide) ?_
      refine lv_aload_n hx hb dX5_ifPressed_26 rfl (lv_at hl 0 rfl) ?_
      refine va_get (D := gD G) (ci := 5) (v := .ref (a 2)) (C := RX5) (T := TX5) (N := 12) hx hb hts hin_X5_ifPressed_X5 hown hKK.1 hP 0 rfl rfl 1 (by decide) (hts _ lk_X5_ifPressed_13) (fun _ h9 => h9) rfl dX5_ifPressed_27 ?_
      refine lv_iconst (v := 0) hx hb dX5_ifPressed_30 (by decide) ?_
      refine mu_SF (ws := (mW G a st kp hi sl sv pd td rc pl pt rt bn)) (ws' := (mW G a st (va_cpy st kp 0 0 236) hi sl sv pd td rc pl pt rt bn)) (wr := [(a 0, .inr (5, [.ref (a 1), .ref (a 2), .ref (a 3), .int rc, .ref (a 4), .ref (a 5), .ref (a 6), .int pl, .int pt, .int rt, .ref (a 7), .int bn])), (a 3, .inl (gI G, 1416, .inl hi)), (a 4, .inl (gI G, 472, .inl sl)), (a 5, .inl (gI G, 2, .inl sv)), (a 6, .inl (gI G, 64, .inl pd)), (a 7, .inl (gI G, 18, .inl td))]) (As := [.ref (a 1), .int (nI 0), .ref (a 2), .int (nI 0)]) (rest := []) ⟨hx, hb, hml, hown, hts⟩ (c_X5_moves l G (a 1) (a 2) _ _ 0 0 _ _ (by omega) (by omega) (by omega) (by omega)) (va_cwS 4 hts gX5_ifPressed_X5_moves rfl rfl rfl (by decide +kernel) ⟨Nat.le_of_ble_eq_true rfl, Nat.le_of_ble_eq_true rfl⟩) (cells_perm (mW G a st kp hi sl sv pd td rc pl pt rt bn) [1, 2, 0, 3, 4, 5, 6, 7] 8 (by decide) rfl) (cells_perm (mW G a st (va_cpy st kp 0 0 236) hi sl sv pd td rc pl pt rt bn) [1, 2, 0, 3, 4, 5, 6, 7] 8 (by decide) rfl) hP hKK hD hS rfl hl.1 rfl (Nat.le_of_ble_eq_true rfl) dX5_ifPressed_31 (Nat.zero_le _) (Nat.zero_le _) rfl (fun H locs hP hD hS => ?_)
      have hP : gP G (mW G a st st hi sl sv pd td rc pl pt rt bn) H := mW_kp (cpyA st _) hP
      have hD : va_D (aA (mW G a st kp hi sl sv pd td rc pl pt rt bn)) (mW G a st st hi sl sv pd td rc pl pt rt bn) := va_D_addr hD rfl
      refine lv_aload_n hx hb dX5_ifPressed_34 rfl (lv_at hl 0 rfl) ?_
      refine va_get (D := gD G) (ci := 5) (v := .ref (a 1)) (C := RX5) (T := TX5) (N := 12) hx hb hts hin_X5_ifPressed_X5 hown hKK.1 hP 0 rfl rfl 0 (by decide) (hts _ lk_X5_ifPressed_7) (fun _ h9 => h9) rfl dX5_ifPressed_35 ?_
      refine lv_iconst (v := 2) hx hb dX5_ifPressed_38 (by decide) ?_
      refine lv_iload_n hx hb dX5_ifPressed_39 rfl (lv_at hl 1 rfl) ?_
      refine va_iastN (j := 2) (x := b) hx hb hKK.1 hP hD hS 1 0 rfl rfl (rfl) (by omega) (by decide) dX5_ifPressed_40 (fun H locs hP hD hS => ?_)
      have hP : gP G (mW G a (upd st 2 b) st hi sl sv pd td rc pl pt rt bn) H := hP
      have hD : va_D (aA (mW G a st kp hi sl sv pd td rc pl pt rt bn)) (mW G a (upd st 2 b) st hi sl sv pd td rc pl pt rt bn) := hD
      refine lv_aload_n hx hb dX5_ifPressed_41 rfl (lv_at hl 0 rfl) ?_
      refine lv_iload_n hx hb dX5_ifPressed_42 rfl (lv_at hl 2 rfl) ?_
      refine mu_V (As := [.int (nI (rk t))]) (rest := []) ⟨hx, hb, hml, hown, hts⟩ (c_X5_passes l G a (upd st 2 b) st hi sl sv pd td rc pl pt rt bn (rk t) (by omega) (RI_lo hI (by decide) _)) (cwV 1 hts gX5_ifPressed_X5_passes rfl rfl rfl (by decide +kernel) ⟨Nat.le_of_ble_eq_true rfl, Nat.le_of_ble_eq_true rfl⟩) hP hKK hD hS (va_recv hKK.1 hP (ci := 5) (q0 := 0) rfl rfl) rfl hl.1 rfl (Nat.le_of_ble_eq_true rfl) dX5_ifPressed_43 (Nat.zero_le _) (Nat.zero_le _) (rfl) (fun H locs hP hD hS => ?_)
      refine lv_pop hx hb dX5_ifPressed_46 rfl ?_
      refine lv_aload_n hx hb dX5_ifPressed_47 rfl (lv_at hl 0 rfl) ?_
      refine va_get (D := gD G) (ci := 5) (v := .ref (a 1)) (C := RX5) (T := TX5) (N := 12) hx hb hts hin_X5_ifPressed_X5 hown hKK.1 hP 0 rfl rfl 0 (by decide) (hts _ lk_X5_ifPressed_7) (fun _ h9 => h9) rfl dX5_ifPressed_48 ?_
      refine lv_iconst (v := 0) hx hb dX5_ifPressed_51 (by decide) ?_
      refine va_ialdN (j := 0) (v := (tickN (rk t) (upd st 2 b)) 0) hx hb hKK.1 hP 1 0 rfl rfl (rfl) (by omega) (by decide) (rfl) dX5_ifPressed_52 ?_
      refine lv_istore_n (lv' := [(3, .int ((tickN (rk t) (upd st 2 b)) 0)), (0, .ref (a 0)), (1, .int b), (2, .int (nI (rk t)))]) hx hb dX5_ifPressed_53 rfl hl (by decide) rfl (fun ls hl => ?_)
      refine lv_aload_n hx hb dX5_ifPressed_54 rfl (lv_at hl 1 rfl) ?_
      refine va_get (D := gD G) (ci := 5) (v := .ref (a 2)) (C := RX5) (T := TX5) (N := 12) hx hb hts hin_X5_ifPressed_X5 hown hKK.1 hP 0 rfl rfl 1 (by decide) (hts _ lk_X5_ifPressed_13) (fun _ h9 => h9) rfl dX5_ifPressed_55 ?_
      refine lv_iconst (v := 0) hx hb dX5_ifPressed_58 (by decide) ?_
      refine lv_aload_n hx hb dX5_ifPressed_59 rfl (lv_at hl 1 rfl) ?_
      refine va_get (D := gD G) (ci := 5) (v := .ref (a 1)) (C := RX5) (T := TX5) (N := 12) hx hb hts hin_X5_ifPressed_X5 hown hKK.1 hP 0 rfl rfl 0 (by decide) (hts _ lk_X5_ifPressed_7) (fun _ h9 => h9) rfl dX5_ifPressed_60 ?_
      refine lv_iconst (v := 0) hx hb dX5_ifPressed_63 (by decide) ?_
      refine mu_SF (ws := (mW G a (tickN (rk t) (upd st 2 b)) st hi sl sv pd td rc pl pt rt bn)) (ws' := (mW G a (va_cpy st (tickN (rk t) (upd st 2 b)) 0 0 236) st hi sl sv pd td rc pl pt rt bn)) (wr := [(a 0, .inr (5, [.ref (a 1), .ref (a 2), .ref (a 3), .int rc, .ref (a 4), .ref (a 5), .ref (a 6), .int pl, .int pt, .int rt, .ref (a 7), .int bn])), (a 3, .inl (gI G, 1416, .inl hi)), (a 4, .inl (gI G, 472, .inl sl)), (a 5, .inl (gI G, 2, .inl sv)), (a 6, .inl (gI G, 64, .inl pd)), (a 7, .inl (gI G, 18, .inl td))]) (As := [.ref (a 2), .int (nI 0), .ref (a 1), .int (nI 0)]) (rest := []) ⟨hx, hb, hml, hown, hts⟩ (c_X5_moves l G (a 2) (a 1) _ _ 0 0 _ _ (by omega) (by omega) (by omega) (by omega)) (va_cwS 4 hts gX5_ifPressed_X5_moves rfl rfl rfl (by decide +kernel) ⟨Nat.le_of_ble_eq_true rfl, Nat.le_of_ble_eq_true rfl⟩) (cells_perm (mW G a (tickN (rk t) (upd st 2 b)) st hi sl sv pd td rc pl pt rt bn) [2, 1, 0, 3, 4, 5, 6, 7] 8 (by decide) rfl) (cells_perm (mW G a (va_cpy st (tickN (rk t) (upd st 2 b)) 0 0 236) st hi sl sv pd td rc pl pt rt bn) [2, 1, 0, 3, 4, 5, 6, 7] 8 (by decide) rfl) hP hKK hD hS rfl hl.1 rfl (Nat.le_of_ble_eq_true rfl) dX5_ifPressed_64 (Nat.zero_le _) (Nat.zero_le _) rfl (fun H locs hP hD hS => ?_)
      have hP : gP G (mW G a st st hi sl sv pd td rc pl pt rt bn) H := mW_st (cpyA st _) hP
      have hD : va_D (aA (mW G a st kp hi sl sv pd td rc pl pt rt bn)) (mW G a st st hi sl sv pd td rc pl pt rt bn) := va_D_addr hD rfl
      refine lv_iload_n hx hb dX5_ifPressed_67 rfl (lv_at hl 0 rfl) ?_
      exact ex_MUi (w2 := (mW G a st st hi sl sv pd td rc pl pt rt bn)) hx hb hr hlocks hP hS dX5_ifPressed_68 (by rw [c_4, c_15] <;> rfl) (fun h => by rw [c_4, c_15]; exact h)
    · skip
      have c_15 := b2i_0 c_15
      refine lv_bipush (v := (-2)) hx hb dX5_ifPressed_18 (by decide) ?_
      exact ex_MUi (w2 := (mW G a st kp hi sl sv pd td rc pl pt rt bn)) hx hb hr hlocks hP hS dX5_ifPressed_20 (by rw [c_4, c_15] <;> rfl) (fun h => by rw [c_4, c_15]; exact h)
set_option maxRecDepth 20000 in
theorem hin_X5_rest_X5 : ∀ w ∈ u_ws RX5 TX5 12, w ∈ wsX5_rest := by decide +kernel
theorem lk_X5_rest_7 : Cond.fieldLink RX5 7 "WeldedRelaysModel" "state" "[I" ∈ wsX5_rest := by decide +kernel
theorem lk_X5_rest_13 : Cond.fieldLink RX5 13 "WeldedRelaysModel" "kept" "[I" ∈ wsX5_rest := by decide +kernel
set_option maxHeartbeats 4000000 in
set_option maxRecDepth 100000 in
/-- X5_rest -/
theorem c_X5_rest (l : Launch) (G : GG) (a : Nat → Nat) (st : Nat → Int32) (kp : Nat → Int32) (hi : Nat → Int32) (sl : Nat → Int32) (sv : Nat → Int32) (pd : Nat → Int32) (td : Nat → Int32) (rc : Int32) (pl : Int32) (pt : Int32) (rt : Int32) (bn : Int32) (b : Int32) (x : Int32) (hI : RI st) : Met l yX5_rest wsX5_rest ({ frames := 9, cells := 0, slots := 0, locals := 202 }) (pcM G [.ref (a 0), .int b, .int x] (mW G a st kp hi sl sv pd td rc pl pt rt bn)) (qMU G (some (.int (cond (inr b 0 63 && inr x 0 2) (rsR st b x) (-2)))) (mW G a st kp hi sl sv pd td rc pl pt rt bn) (mW G a st (cond (inr b 0 63 && inr x 0 2) (st) (kp)) hi sl sv pd td rc pl pt rt bn)) 0 0 (aA (mW G a st kp hi sl sv pd td rc pl pt rt bn)) := by
  refine hd_MU (cc := cX5_rest) (maxL := 3) (ret := some .int) (by decide) rfl (Nat.le_of_ble_eq_true rfl) ?_
  intro p e s m below meth c ls hx hb hr hts hown hlocks hml hP hKK hD hS hl
  have hl : lv_has ls 3 [(0, .ref (a 0)), (1, .int b), (2, .int x)] := hl
  refine lv_iload_n hx hb dX5_rest_0 rfl (lv_at hl 1 rfl) ?_
  refine ro_S (As := [.int b]) (rest := []) ⟨hx, hb, hml, hown, hts⟩ (c_X5_isSet l G b) (va_cwS 1 hts gX5_rest_X5_isSet rfl rfl rfl (by decide +kernel) ⟨Nat.le_of_ble_eq_true rfl, Nat.le_of_ble_eq_true rfl⟩) (show gP G [] _ from fun k q h => by simp at h) hKK rfl hl.1 rfl (Nat.le_of_ble_eq_true rfl) dX5_rest_1 (Nat.zero_le _) (Nat.zero_le _) ?_
  refine lv_if_eq (tgt := 16) hx hb dX5_rest_4 (by decide) (fun c_4 => ?_) (fun c_4 => ?_)
  · skip
    have c_4 := b2i_0 c_4
    refine lv_bipush (v := (-2)) hx hb dX5_rest_16 (by decide) ?_
    exact ex_MUi (w2 := (mW G a st kp hi sl sv pd td rc pl pt rt bn)) hx hb hr hlocks hP hS dX5_rest_18 (by rw [c_4] <;> rfl) (fun h => by rw [c_4]; exact h)
  · skip
    have c_4 := b2i_1 c_4
    refine lv_iload_n hx hb dX5_rest_7 rfl (lv_at hl 2 rfl) ?_
    refine lv_iconst (v := 0) hx hb dX5_rest_8 (by decide) ?_
    refine lv_iconst (v := 2) hx hb dX5_rest_9 (by decide) ?_
    refine ro_S (As := [.int x, .int 0, .int 2]) (rest := []) ⟨hx, hb, hml, hown, hts⟩ (c_X5_within l G x 0 2) (va_cwS 3 hts gX5_rest_X5_within rfl rfl rfl (by decide +kernel) ⟨Nat.le_of_ble_eq_true rfl, Nat.le_of_ble_eq_true rfl⟩) (show gP G [] _ from fun k q h => by simp at h) hKK rfl hl.1 rfl (Nat.le_of_ble_eq_true rfl) dX5_rest_10 (Nat.zero_le _) (Nat.zero_le _) ?_
    refine lv_if_ne (tgt := 19) hx hb dX5_rest_13 (by decide) (fun c_13 => ?_) (fun c_13 => ?_)
    · skip
      have c_13 := b2i_1 c_13
      refine lv_aload_n hx hb dX5_rest_19 rfl (lv_at hl 0 rfl) ?_
      refine va_get (D := gD G) (ci := 5) (v := .ref (a 1)) (C := RX5) (T := TX5) (N := 12) hx hb hts hin_X5_rest_X5 hown hKK.1 hP 0 rfl rfl 0 (by decide) (hts _ lk_X5_rest_7) (fun _ h9 => h9) rfl dX5_rest_20 ?_
      refine lv_iconst (v := 0) hx hb dX5_rest_23 (by decide) ?_
      refine lv_aload_n hx hb dX5_rest_24 rfl (lv_at hl 0 rfl) ?_
      refine va_get (D := gD G) (ci := 5) (v := .ref (a 2)) (C := RX5) (T := TX5) (N := 12) hx hb hts hin_X5_rest_X5 hown hKK.1 hP 0 rfl rfl 1 (by decide) (hts _ lk_X5_rest_13) (fun _ h9 => h9) rfl dX5_rest_25 ?_
      refine lv_iconst (v := 0) hx hb dX5_rest_28 (by decide) ?_
      refine mu_SF (ws := (mW G a st kp hi sl sv pd td rc pl pt rt bn)) (ws' := (mW G a st (va_cpy st kp 0 0 236) hi sl sv pd td rc pl pt rt bn)) (wr := [(a 0, .inr (5, [.ref (a 1), .ref (a 2), .ref (a 3), .int rc, .ref (a 4), .ref (a 5), .ref (a 6), .int pl, .int pt, .int rt, .ref (a 7), .int bn])), (a 3, .inl (gI G, 1416, .inl hi)), (a 4, .inl (gI G, 472, .inl sl)), (a 5, .inl (gI G, 2, .inl sv)), (a 6, .inl (gI G, 64, .inl pd)), (a 7, .inl (gI G, 18, .inl td))]) (As := [.ref (a 1), .int (nI 0), .ref (a 2), .int (nI 0)]) (rest := []) ⟨hx, hb, hml, hown, hts⟩ (c_X5_moves l G (a 1) (a 2) _ _ 0 0 _ _ (by omega) (by omega) (by omega) (by omega)) (va_cwS 4 hts gX5_rest_X5_moves rfl rfl rfl (by decide +kernel) ⟨Nat.le_of_ble_eq_true rfl, Nat.le_of_ble_eq_true rfl⟩) (cells_perm (mW G a st kp hi sl sv pd td rc pl pt rt bn) [1, 2, 0, 3, 4, 5, 6, 7] 8 (by decide) rfl) (cells_perm (mW G a st (va_cpy st kp 0 0 236) hi sl sv pd td rc pl pt rt bn) [1, 2, 0, 3, 4, 5, 6, 7] 8 (by decide) rfl) hP hKK hD hS rfl hl.1 rfl (Nat.le_of_ble_eq_true rfl) dX5_rest_29 (Nat.zero_le _) (Nat.zero_le _) rfl (fun H locs hP hD hS => ?_)
      have hP : gP G (mW G a st st hi sl sv pd td rc pl pt rt bn) H := mW_kp (cpyA st _) hP
      have hD : va_D (aA (mW G a st kp hi sl sv pd td rc pl pt rt bn)) (mW G a st st hi sl sv pd td rc pl pt rt bn) := va_D_addr hD rfl
      refine lv_aload_n hx hb dX5_rest_32 rfl (lv_at hl 0 rfl) ?_
      refine lv_iload_n hx hb dX5_rest_33 rfl (lv_at hl 1 rfl) ?_
      refine lv_iload_n hx hb dX5_rest_34 rfl (lv_at hl 2 rfl) ?_
      refine mu_V (As := [.int b, .int x]) (rest := []) ⟨hx, hb, hml, hown, hts⟩ (c_X5_restWith l G a st st hi sl sv pd td rc pl pt rt bn b x (by assumption)) (cwV 2 hts gX5_rest_X5_restWith rfl rfl rfl (by decide +kernel) ⟨Nat.le_of_ble_eq_true rfl, Nat.le_of_ble_eq_true rfl⟩) hP hKK hD hS (va_recv hKK.1 hP (ci := 5) (q0 := 0) rfl rfl) rfl hl.1 rfl (Nat.le_of_ble_eq_true rfl) dX5_rest_35 (Nat.zero_le _) (Nat.zero_le _) (rfl) (fun H locs hP hD hS => ?_)
      exact ex_MUi (w2 := (mW G a st st hi sl sv pd td rc pl pt rt bn)) hx hb hr hlocks hP hS dX5_rest_38 (by rw [c_4, c_13] <;> rfl) (fun h => by rw [c_4, c_13]; exact h)
    · skip
      have c_13 := b2i_0 c_13
      refine lv_bipush (v := (-2)) hx hb dX5_rest_16 (by decide) ?_
      exact ex_MUi (w2 := (mW G a st kp hi sl sv pd td rc pl pt rt bn)) hx hb hr hlocks hP hS dX5_rest_18 (by rw [c_4, c_13] <;> rfl) (fun h => by rw [c_4, c_13]; exact h)
set_option maxRecDepth 20000 in
theorem hin_X5_race_X5 : ∀ w ∈ u_ws RX5 TX5 12, w ∈ wsX5_race := by decide +kernel
theorem lk_X5_race_7 : Cond.fieldLink RX5 7 "WeldedRelaysModel" "state" "[I" ∈ wsX5_race := by decide +kernel
theorem lk_X5_race_13 : Cond.fieldLink RX5 13 "WeldedRelaysModel" "kept" "[I" ∈ wsX5_race := by decide +kernel
set_option maxHeartbeats 4000000 in
set_option maxRecDepth 100000 in
/-- X5_race -/
theorem c_X5_race (l : Launch) (G : GG) (a : Nat → Nat) (st : Nat → Int32) (kp : Nat → Int32) (hi : Nat → Int32) (sl : Nat → Int32) (sv : Nat → Int32) (pd : Nat → Int32) (td : Nat → Int32) (rc : Int32) (pl : Int32) (pt : Int32) (rt : Int32) (bn : Int32) (b : Int32) (hI : RI st) : Met l yX5_race wsX5_race ({ frames := 9, cells := 0, slots := 0, locals := 202 }) (pcM G [.ref (a 0), .int b] (mW G a st kp hi sl sv pd td rc pl pt rt bn)) (qMU G (some (.int (cond (inr b 0 63) (b2i (!decide (rsR st b 0 = rsR (onesN 10 st) b 0))) (-2)))) (mW G a st kp hi sl sv pd td rc pl pt rt bn) (mW G a st (cond (inr b 0 63) (st) (kp)) hi sl sv pd td rc pl pt rt bn)) 0 0 (aA (mW G a st kp hi sl sv pd td rc pl pt rt bn)) := by
  refine hd_MU (cc := cX5_race) (maxL := 4) (ret := some .int) (by decide) rfl (Nat.le_of_ble_eq_true rfl) ?_
  intro p e s m below meth c ls hx hb hr hts hown hlocks hml hP hKK hD hS hl
  have hl : lv_has ls 4 [(0, .ref (a 0)), (1, .int b)] := hl
  refine lv_iload_n hx hb dX5_race_0 rfl (lv_at hl 1 rfl) ?_
  refine ro_S (As := [.int b]) (rest := []) ⟨hx, hb, hml, hown, hts⟩ (c_X5_isSet l G b) (va_cwS 1 hts gX5_race_X5_isSet rfl rfl rfl (by decide +kernel) ⟨Nat.le_of_ble_eq_true rfl, Nat.le_of_ble_eq_true rfl⟩) (show gP G [] _ from fun k q h => by simp at h) hKK rfl hl.1 rfl (Nat.le_of_ble_eq_true rfl) dX5_race_1 (Nat.zero_le _) (Nat.zero_le _) ?_
  refine lv_if_ne (tgt := 10) hx hb dX5_race_4 (by decide) (fun c_4 => ?_) (fun c_4 => ?_)
  · skip
    have c_4 := b2i_1 c_4
    refine lv_aload_n hx hb dX5_race_10 rfl (lv_at hl 0 rfl) ?_
    refine va_get (D := gD G) (ci := 5) (v := .ref (a 1)) (C := RX5) (T := TX5) (N := 12) hx hb hts hin_X5_race_X5 hown hKK.1 hP 0 rfl rfl 0 (by decide) (hts _ lk_X5_race_7) (fun _ h9 => h9) rfl dX5_race_11 ?_
    refine lv_iconst (v := 0) hx hb dX5_race_14 (by decide) ?_
    refine lv_aload_n hx hb dX5_race_15 rfl (lv_at hl 0 rfl) ?_
    refine va_get (D := gD G) (ci := 5) (v := .ref (a 2)) (C := RX5) (T := TX5) (N := 12) hx hb hts hin_X5_race_X5 hown hKK.1 hP 0 rfl rfl 1 (by decide) (hts _ lk_X5_race_13) (fun _ h9 => h9) rfl dX5_race_16 ?_
    refine lv_iconst (v := 0) hx hb dX5_race_19 (by decide) ?_
    refine mu_SF (ws := (mW G a st kp hi sl sv pd td rc pl pt rt bn)) (ws' := (mW G a st (va_cpy st kp 0 0 236) hi sl sv pd td rc pl pt rt bn)) (wr := [(a 0, .inr (5, [.ref (a 1), .ref (a 2), .ref (a 3), .int rc, .ref (a 4), .ref (a 5), .ref (a 6), .int pl, .int pt, .int rt, .ref (a 7), .int bn])), (a 3, .inl (gI G, 1416, .inl hi)), (a 4, .inl (gI G, 472, .inl sl)), (a 5, .inl (gI G, 2, .inl sv)), (a 6, .inl (gI G, 64, .inl pd)), (a 7, .inl (gI G, 18, .inl td))]) (As := [.ref (a 1), .int (nI 0), .ref (a 2), .int (nI 0)]) (rest := []) ⟨hx, hb, hml, hown, hts⟩ (c_X5_moves l G (a 1) (a 2) _ _ 0 0 _ _ (by omega) (by omega) (by omega) (by omega)) (va_cwS 4 hts gX5_race_X5_moves rfl rfl rfl (by decide +kernel) ⟨Nat.le_of_ble_eq_true rfl, Nat.le_of_ble_eq_true rfl⟩) (cells_perm (mW G a st kp hi sl sv pd td rc pl pt rt bn) [1, 2, 0, 3, 4, 5, 6, 7] 8 (by decide) rfl) (cells_perm (mW G a st (va_cpy st kp 0 0 236) hi sl sv pd td rc pl pt rt bn) [1, 2, 0, 3, 4, 5, 6, 7] 8 (by decide) rfl) hP hKK hD hS rfl hl.1 rfl (Nat.le_of_ble_eq_true rfl) dX5_race_20 (Nat.zero_le _) (Nat.zero_le _) rfl (fun H locs hP hD hS => ?_)
    have hP : gP G (mW G a st st hi sl sv pd td rc pl pt rt bn) H := mW_kp (cpyA st _) hP
    have hD : va_D (aA (mW G a st kp hi sl sv pd td rc pl pt rt bn)) (mW G a st st hi sl sv pd td rc pl pt rt bn) := va_D_addr hD rfl
    refine lv_aload_n hx hb dX5_race_23 rfl (lv_at hl 0 rfl) ?_
    refine lv_iload_n hx hb dX5_race_24 rfl (lv_at hl 1 rfl) ?_
    refine lv_iconst (v := 0) hx hb dX5_race_25 (by decide) ?_
    refine mu_V (As := [.int b, .int 0]) (rest := []) ⟨hx, hb, hml, hown, hts⟩ (c_X5_restWith l G a st st hi sl sv pd td rc pl pt rt bn b 0 (by assumption)) (cwV 2 hts gX5_race_X5_restWith rfl rfl rfl (by decide +kernel) ⟨Nat.le_of_ble_eq_true rfl, Nat.le_of_ble_eq_true rfl⟩) hP hKK hD hS (va_recv hKK.1 hP (ci := 5) (q0 := 0) rfl rfl) rfl hl.1 rfl (Nat.le_of_ble_eq_true rfl) dX5_race_26 (Nat.zero_le _) (Nat.zero_le _) (rfl) (fun H locs hP hD hS => ?_)
    refine lv_istore_n (lv' := [(2, .int (rsR st b 0)), (0, .ref (a 0)), (1, .int b)]) hx hb dX5_race_29 rfl hl (by decide) rfl (fun ls hl => ?_)
    refine lv_iconst (v := 0) hx hb dX5_race_30 (by decide) ?_
    refine lv_istore_n (lv' := [(3, .int 0), (2, .int (rsR st b 0)), (0, .ref (a 0)), (1, .int b)]) hx hb dX5_race_31 rfl hl (by decide) rfl (fun ls hl => ?_)
    have L_32 : ∀ (n_32 : Nat) (i : Nat), (i ≤ 10) → (10 + 1 ≤ i + n_32) → ∀ (H : Heap) (locs : List Loc), gP G (mW G a (onesN i st) st hi sl sv pd td rc pl pt rt bn) H → va_D (aA (mW G a st kp hi sl sv pd td rc pl pt rt bn)) (mW G a (onesN i st) st hi sl sv pd td rc pl pt rt bn) → va_S (aA (mW G a st kp hi sl sv pd td rc pl pt rt bn)) s.heap H locs → ∀ (ls : Array Slot), lv_has ls 4 [(3, .int (nI i)), (2, .int (rsR st b 0)), (0, .ref (a 0)), (1, .int b)] → W p l e ({ frames := 9, cells := 0, slots := 0, locals := 202 }) s m (List.toArray [.ref (a 0), .int b]) below meth c H locs 0 0 (MQ below (qMU G (some (.int (cond (inr b 0 63) (b2i (!decide (rsR st b 0 = rsR (onesN 10 st) b 0))) (-2)))) (mW G a st kp hi sl sv pd td rc pl pt rt bn) (mW G a st (cond (inr b 0 63) (st) (kp)) hi sl sv pd td rc pl pt rt bn)) (List.toArray [.ref (a 0), .int b]) s 0 0 (aA (mW G a st kp hi sl sv pd td rc pl pt rt bn))) (F0 m 32 ls []) := by
      intro n_32
      induction n_32 with
      | zero => intro i h1 h2; exact absurd (h2) (by omega)
      | succ n_32 ih_32 =>
        intro i h1 h2 H locs hP hD hS ls hl
        refine lv_iload_n hx hb dX5_race_32 rfl (lv_at hl 0 rfl) ?_
        refine lv_bipush (v := 10) hx hb dX5_race_33 (by decide) ?_
        refine lv_icmp_ge (tgt := 58) hx hb dX5_race_35 (by decide) (fun c_35 => ?_) (fun c_35 => ?_)
        · skip
          have c_35 : 10 ≤ i := (nI_leI (a := 10) (b := i) (by omega) (by omega)).mp c_35
          refine lv_iload_n hx hb dX5_race_58 rfl (lv_at hl 1 rfl) ?_
          refine lv_aload_n hx hb dX5_race_59 rfl (lv_at hl 2 rfl) ?_
          refine lv_iload_n hx hb dX5_race_60 rfl (lv_at hl 3 rfl) ?_
          refine lv_iconst (v := 0) hx hb dX5_race_61 (by decide) ?_
          refine mu_V (As := [.int b, .int 0]) (rest := [.int (rsR st b 0)]) ⟨hx, hb, hml, hown, hts⟩ (c_X5_restWith l G a (onesN i st) st hi sl sv pd td rc pl pt rt bn b 0 (onesN_RI hI i)) (cwV 2 hts gX5_race_X5_restWith rfl rfl rfl (by decide +kernel) ⟨Nat.le_of_ble_eq_true rfl, Nat.le_of_ble_eq_true rfl⟩) hP hKK hD hS (va_recv hKK.1 hP (ci := 5) (q0 := 0) rfl rfl) rfl hl.1 rfl (Nat.le_of_ble_eq_true rfl) dX5_race_62 (Nat.zero_le _) (Nat.zero_le _) (rfl) (fun H locs hP hD hS => ?_)
          refine lv_icmp_ne (tgt := 72) hx hb dX5_race_65 (by decide) (fun c_65 => ?_) (fun c_65 => ?_)
          · skip
            refine lv_iconst (v := 1) hx hb dX5_race_72 (by decide) ?_
            exact ex_MUi (w2 := (mW G a st st hi sl sv pd td rc pl pt rt bn)) hx hb hr hlocks hP hS dX5_race_73 (by rw [show i = 10 by omega] at c_65; rw [c_4, decide_eq_false c_65] <;> rfl) (fun h => by rw [c_4]; exact h)
          · skip
            refine lv_iconst (v := 0) hx hb dX5_race_68 (by decide) ?_
            refine lv_goto (tgt := 73) hx hb dX5_race_69 (by decide) ?_
            exact ex_MUi (w2 := (mW G a st st hi sl sv pd td rc pl pt rt bn)) hx hb hr hlocks hP hS dX5_race_73 (by rw [show i = 10 by omega] at c_65; rw [c_4, decide_eq_true c_65] <;> rfl) (fun h => by rw [c_4]; exact h)
        · skip
          have c_35 : ¬ (10 ≤ i) := fun q => c_35 ((nI_leI (a := 10) (b := i) (by omega) (by omega)).mpr q)
          refine lv_aload_n hx hb dX5_race_38 rfl (lv_at hl 2 rfl) ?_
          refine lv_iload_n hx hb dX5_race_39 rfl (lv_at hl 0 rfl) ?_
          refine lv_iconst (v := 0) hx hb dX5_race_40 (by decide) ?_
          refine lv_iconst (v := 1) hx hb dX5_race_41 (by decide) ?_
          refine mu_V (As := [.int (nI i), .int (nI 0), .int 1]) (rest := []) ⟨hx, hb, hml, hown, hts⟩ (c_X5_setPart l G a (onesN i st) st hi sl sv pd td rc pl pt rt bn i 0 (by omega) (by omega) 1) (cwV 3 hts gX5_race_X5_setPart rfl rfl rfl (by decide +kernel) ⟨Nat.le_of_ble_eq_true rfl, Nat.le_of_ble_eq_true rfl⟩) hP hKK hD hS (va_recv hKK.1 hP (ci := 5) (q0 := 0) rfl rfl) rfl hl.1 rfl (Nat.le_of_ble_eq_true rfl) dX5_race_42 (Nat.zero_le _) (Nat.zero_le _) (rfl) (fun H locs hP hD hS => ?_)
          refine lv_aload_n hx hb dX5_race_45 rfl (lv_at hl 2 rfl) ?_
          refine lv_iload_n hx hb dX5_race_46 rfl (lv_at hl 0 rfl) ?_
          refine lv_iconst (v := 1) hx hb dX5_race_47 (by decide) ?_
          refine lv_iconst (v := 1) hx hb dX5_race_48 (by decide) ?_
          refine mu_V (As := [.int (nI i), .int (nI 1), .int 1]) (rest := []) ⟨hx, hb, hml, hown, hts⟩ (c_X5_setPart l G a (upd (onesN i st) (px i 0) 1) st hi sl sv pd td rc pl pt rt bn i 1 (by omega) (by omega) 1) (cwV 3 hts gX5_race_X5_setPart rfl rfl rfl (by decide +kernel) ⟨Nat.le_of_ble_eq_true rfl, Nat.le_of_ble_eq_true rfl⟩) hP hKK hD hS (va_recv hKK.1 hP (ci := 5) (q0 := 0) rfl rfl) rfl hl.1 rfl (Nat.le_of_ble_eq_true rfl) dX5_race_49 (Nat.zero_le _) (Nat.zero_le _) (rfl) (fun H locs hP hD hS => ?_)
          have ev_1 : upd (upd (onesN i st) (px i 0) 1) (px i 1) 1 = onesN (i + 1) st := rfl
          have hP : gP G (mW G a (onesN (i + 1) st) st hi sl sv pd td rc pl pt rt bn) H := by rw [← ev_1]; exact hP
          have hD : va_D (aA (mW G a st kp hi sl sv pd td rc pl pt rt bn)) (mW G a (onesN (i + 1) st) st hi sl sv pd td rc pl pt rt bn) := by rw [← ev_1]; exact hD
          refine lv_iinc (v := nI (i + 1)) (lv' := [(3, .int (nI (i + 1))), (2, .int (rsR st b 0)), (0, .ref (a 0)), (1, .int b)]) hx hb dX5_race_52 hl (k := 0) rfl (nI_1 _) (by decide) rfl (fun ls hl => ?_)
          refine lv_goto (tgt := 32) hx hb dX5_race_55 (by decide) ?_
          exact ih_32 (i + 1) (by omega) (by omega) _ _ (hP) (hD) hS _ (lv_sub hl [0, 1, 2, 3] rfl)
    exact L_32 (10 + 1) 0 (by omega) (by omega) _ _ (hP) (hD) hS _ (lv_sub hl [0, 1, 2, 3] rfl)
  · skip
    have c_4 := b2i_0 c_4
    refine lv_bipush (v := (-2)) hx hb dX5_race_7 (by decide) ?_
    exact ex_MUi (w2 := (mW G a st kp hi sl sv pd td rc pl pt rt bn)) hx hb hr hlocks hP hS dX5_race_9 (by rw [c_4] <;> rfl) (fun h => by rw [c_4]; exact h)
set_option maxRecDepth 20000 in
theorem hin_X5_upIfWelded_X5 : ∀ w ∈ u_ws RX5 TX5 12, w ∈ wsX5_upIfWelded := by decide +kernel
theorem lk_X5_upIfWelded_7 : Cond.fieldLink RX5 7 "WeldedRelaysModel" "state" "[I" ∈ wsX5_upIfWelded := by decide +kernel
theorem lk_X5_upIfWelded_13 : Cond.fieldLink RX5 13 "WeldedRelaysModel" "kept" "[I" ∈ wsX5_upIfWelded := by decide +kernel
set_option maxHeartbeats 4000000 in
set_option maxRecDepth 100000 in
/-- X5_upIfWelded -/
theorem c_X5_upIfWelded (l : Launch) (G : GG) (a : Nat → Nat) (st : Nat → Int32) (kp : Nat → Int32) (hi : Nat → Int32) (sl : Nat → Int32) (sv : Nat → Int32) (pd : Nat → Int32) (td : Nat → Int32) (rc : Int32) (pl : Int32) (pt : Int32) (rt : Int32) (bn : Int32) (r : Int32) (x : Int32) (hI : RI st) : Met l yX5_upIfWelded wsX5_upIfWelded ({ frames := 9, cells := 0, slots := 0, locals := 202 }) (pcM G [.ref (a 0), .int r, .int x] (mW G a st kp hi sl sv pd td rc pl pt rt bn)) (qMU G (some (.int (uiW st r x))) (mW G a st kp hi sl sv pd td rc pl pt rt bn) (mW G a st st hi sl sv pd td rc pl pt rt bn)) 0 0 (aA (mW G a st kp hi sl sv pd td rc pl pt rt bn)) := by
  refine hd_MU (cc := cX5_upIfWelded) (maxL := 4) (ret := some .int) (by decide) rfl (Nat.le_of_ble_eq_true rfl) ?_
  intro p e s m below meth c ls hx hb hr hts hown hlocks hml hP hKK hD hS hl
  have hl : lv_has ls 4 [(0, .ref (a 0)), (1, .int r), (2, .int x)] := hl
  refine lv_aload_n hx hb dX5_upIfWelded_0 rfl (lv_at hl 0 rfl) ?_
  refine va_get (D := gD G) (ci := 5) (v := .ref (a 1)) (C := RX5) (T := TX5) (N := 12) hx hb hts hin_X5_upIfWelded_X5 hown hKK.1 hP 0 rfl rfl 0 (by decide) (hts _ lk_X5_upIfWelded_7) (fun _ h9 => h9) rfl dX5_upIfWelded_1 ?_
  refine lv_iconst (v := 0) hx hb dX5_upIfWelded_4 (by decide) ?_
  refine lv_aload_n hx hb dX5_upIfWelded_5 rfl (lv_at hl 0 rfl) ?_
  refine va_get (D := gD G) (ci := 5) (v := .ref (a 2)) (C := RX5) (T := TX5) (N := 12) hx hb hts hin_X5_upIfWelded_X5 hown hKK.1 hP 0 rfl rfl 1 (by decide) (hts _ lk_X5_upIfWelded_13) (fun _ h9 => h9) rfl dX5_upIfWelded_6 ?_
  refine lv_iconst (v := 0) hx hb dX5_upIfWelded_9 (by decide) ?_
  refine mu_SF (ws := (mW G a st kp hi sl sv pd td rc pl pt rt bn)) (ws' := (mW G a st (va_cpy st kp 0 0 236) hi sl sv pd td rc pl pt rt bn)) (wr := [(a 0, .inr (5, [.ref (a 1), .ref (a 2), .ref (a 3), .int rc, .ref (a 4), .ref (a 5), .ref (a 6), .int pl, .int pt, .int rt, .ref (a 7), .int bn])), (a 3, .inl (gI G, 1416, .inl hi)), (a 4, .inl (gI G, 472, .inl sl)), (a 5, .inl (gI G, 2, .inl sv)), (a 6, .inl (gI G, 64, .inl pd)), (a 7, .inl (gI G, 18, .inl td))]) (As := [.ref (a 1), .int (nI 0), .ref (a 2), .int (nI 0)]) (rest := []) ⟨hx, hb, hml, hown, hts⟩ (c_X5_moves l G (a 1) (a 2) _ _ 0 0 _ _ (by omega) (by omega) (by omega) (by omega)) (va_cwS 4 hts gX5_upIfWelded_X5_moves rfl rfl rfl (by decide +kernel) ⟨Nat.le_of_ble_eq_true rfl, Nat.le_of_ble_eq_true rfl⟩) (cells_perm (mW G a st kp hi sl sv pd td rc pl pt rt bn) [1, 2, 0, 3, 4, 5, 6, 7] 8 (by decide) rfl) (cells_perm (mW G a st (va_cpy st kp 0 0 236) hi sl sv pd td rc pl pt rt bn) [1, 2, 0, 3, 4, 5, 6, 7] 8 (by decide) rfl) hP hKK hD hS rfl hl.1 rfl (Nat.le_of_ble_eq_true rfl) dX5_upIfWelded_10 (Nat.zero_le _) (Nat.zero_le _) rfl (fun H locs hP hD hS => ?_)
  have hP : gP G (mW G a st st hi sl sv pd td rc pl pt rt bn) H := mW_kp (cpyA st _) hP
  have hD : va_D (aA (mW G a st kp hi sl sv pd td rc pl pt rt bn)) (mW G a st st hi sl sv pd td rc pl pt rt bn) := va_D_addr hD rfl
  refine lv_aload_n hx hb dX5_upIfWelded_13 rfl (lv_at hl 0 rfl) ?_
  refine va_get (D := gD G) (ci := 5) (v := .ref (a 1)) (C := RX5) (T := TX5) (N := 12) hx hb hts hin_X5_upIfWelded_X5 hown hKK.1 hP 0 rfl rfl 0 (by decide) (hts _ lk_X5_upIfWelded_7) (fun _ h9 => h9) rfl dX5_upIfWelded_14 ?_
  refine lv_iconst (v := 0) hx hb dX5_upIfWelded_17 (by decide) ?_
  refine lv_dup2_11 hx hb dX5_upIfWelded_18 rfl rfl ?_
  refine va_ialdN (j := 0) (v := st 0) hx hb hKK.1 hP 1 0 rfl rfl (rfl) (by omega) (by decide) (rfl) dX5_upIfWelded_19 ?_
  refine lv_iconst (v := 1) hx hb dX5_upIfWelded_20 (by decide) ?_
  refine lv_iload_n hx hb dX5_upIfWelded_21 rfl (lv_at hl 2 rfl) ?_
  refine lv_ishl hx hb dX5_upIfWelded_22 ?_
  refine lv_asi (y := shl 1 x) rfl ?_
  refine lv_ior hx hb dX5_upIfWelded_23 ?_
  refine va_iastN (j := 0) (x := ((st 0) ||| (shl 1 x))) hx hb hKK.1 hP hD hS 1 0 rfl rfl (rfl) (by omega) (by decide) dX5_upIfWelded_24 (fun H locs hP hD hS => ?_)
  have hP : gP G (mW G a (upd st 0 ((st 0) ||| (shl 1 x))) st hi sl sv pd td rc pl pt rt bn) H := hP
  have hD : va_D (aA (mW G a st kp hi sl sv pd td rc pl pt rt bn)) (mW G a (upd st 0 ((st 0) ||| (shl 1 x))) st hi sl sv pd td rc pl pt rt bn) := hD
  refine lv_aload_n hx hb dX5_upIfWelded_25 rfl (lv_at hl 0 rfl) ?_
  refine va_get (D := gD G) (ci := 5) (v := .ref (a 1)) (C := RX5) (T := TX5) (N := 12) hx hb hts hin_X5_upIfWelded_X5 hown hKK.1 hP 0 rfl rfl 0 (by decide) (hts _ lk_X5_upIfWelded_7) (fun _ h9 => h9) rfl dX5_upIfWelded_26 ?_
  refine lv_iconst (v := 1) hx hb dX5_upIfWelded_29 (by decide) ?_
  refine lv_dup2_11 hx hb dX5_upIfWelded_30 rfl rfl ?_
  refine va_ialdN (j := 1) (v := (upd st 0 ((st 0) ||| (shl 1 x))) 1) hx hb hKK.1 hP 1 0 rfl rfl (rfl) (by omega) (by decide) (rfl) dX5_upIfWelded_31 ?_
  refine lv_iconst (v := 1) hx hb dX5_upIfWelded_32 (by decide) ?_
  refine lv_iload_n hx hb dX5_upIfWelded_33 rfl (lv_at hl 2 rfl) ?_
  refine lv_ishl hx hb dX5_upIfWelded_34 ?_
  refine lv_asi (y := shl 1 x) rfl ?_
  refine lv_ior hx hb dX5_upIfWelded_35 ?_
  refine va_iastN (j := 1) (x := (((upd st 0 ((st 0) ||| (shl 1 x))) 1) ||| (shl 1 x))) hx hb hKK.1 hP hD hS 1 0 rfl rfl (rfl) (by omega) (by decide) dX5_upIfWelded_36 (fun H locs hP hD hS => ?_)
  have hP : gP G (mW G a (upd (upd st 0 ((st 0) ||| (shl 1 x))) 1 (((upd st 0 ((st 0) ||| (shl 1 x))) 1) ||| (shl 1 x))) st hi sl sv pd td rc pl pt rt bn) H := hP
  have hD : va_D (aA (mW G a st kp hi sl sv pd td rc pl pt rt bn)) (mW G a (upd (upd st 0 ((st 0) ||| (shl 1 x))) 1 (((upd st 0 ((st 0) ||| (shl 1 x))) 1) ||| (shl 1 x))) st hi sl sv pd td rc pl pt rt bn) := hD
  refine lv_aload_n hx hb dX5_upIfWelded_37 rfl (lv_at hl 0 rfl) ?_
  refine lv_iconst (v := 0) hx hb dX5_upIfWelded_38 (by decide) ?_
  refine lv_iconst (v := 0) hx hb dX5_upIfWelded_39 (by decide) ?_
  refine mu_V (As := [.int 0, .int 0]) (rest := []) ⟨hx, hb, hml, hown, hts⟩ (c_X5_restWith l G a (upd (upd st 0 ((st 0) ||| (shl 1 x))) 1 (((upd st 0 ((st 0) ||| (shl 1 x))) 1) ||| (shl 1 x))) st hi sl sv pd td rc pl pt rt bn 0 0 (wldF_RI hI x)) (cwV 2 hts gX5_upIfWelded_X5_restWith rfl rfl rfl (by decide +kernel) ⟨Nat.le_of_ble_eq_true rfl, Nat.le_of_ble_eq_true rfl⟩) hP hKK hD hS (va_recv hKK.1 hP (ci := 5) (q0 := 0) rfl rfl) rfl hl.1 rfl (Nat.le_of_ble_eq_true rfl) dX5_upIfWelded_40 (Nat.zero_le _) (Nat.zero_le _) (rfl) (fun H locs hP hD hS => ?_)
  refine lv_istore_n (lv' := [(3, .int (rsR (upd (upd st 0 ((st 0) ||| (shl 1 x))) 1 (((upd st 0 ((st 0) ||| (shl 1 x))) 1) ||| (shl 1 x))) 0 0)), (0, .ref (a 0)), (1, .int r), (2, .int x)]) hx hb dX5_upIfWelded_43 rfl hl (by decide) rfl (fun ls hl => ?_)
  refine lv_iload_n hx hb dX5_upIfWelded_44 rfl (lv_at hl 0 rfl) ?_
  refine lv_bipush (v := (-6)) hx hb dX5_upIfWelded_45 (by decide) ?_
  refine lv_icmp_ne (tgt := 55) hx hb dX5_upIfWelded_47 (by decide) (fun c_47 => ?_) (fun c_47 => ?_)
  · skip
    refine lv_iload_n hx hb dX5_upIfWelded_55 rfl (lv_at hl 0 rfl) ?_
    refine lv_iload_n hx hb dX5_upIfWelded_56 rfl (lv_at hl 2 rfl) ?_
    refine lv_ishr hx hb dX5_upIfWelded_57 ?_
    refine lv_asi (y := shr (rsR (upd (upd st 0 ((st 0) ||| (shl 1 x))) 1 (((upd st 0 ((st 0) ||| (shl 1 x))) 1) ||| (shl 1 x))) 0 0) r) rfl ?_
    refine lv_iconst (v := 1) hx hb dX5_upIfWelded_58 (by decide) ?_
    refine lv_iand hx hb dX5_upIfWelded_59 ?_
    exact ex_MUi (w2 := (mW G a st st hi sl sv pd td rc pl pt rt bn)) hx hb hr hlocks hP hS dX5_upIfWelded_60 (congrArg (fun q => some (Value.int q)) (if_neg c_47).symm) (fun h => h)
  · skip
    refine lv_bipush (v := (-6)) hx hb dX5_upIfWelded_50 (by decide) ?_
    refine lv_goto (tgt := 60) hx hb dX5_upIfWelded_52 (by decide) ?_
    exact ex_MUi (w2 := (mW G a st st hi sl sv pd td rc pl pt rt bn)) hx hb hr hlocks hP hS dX5_upIfWelded_60 (congrArg (fun q => some (Value.int q)) (if_pos c_47).symm) (fun h => h)
set_option maxHeartbeats 4000000 in
set_option maxRecDepth 100000 in
/-- X5_ifWelded -/
theorem c_X5_ifWelded (l : Launch) (G : GG) (a : Nat → Nat) (st : Nat → Int32) (kp : Nat → Int32) (hi : Nat → Int32) (sl : Nat → Int32) (sv : Nat → Int32) (pd : Nat → Int32) (td : Nat → Int32) (rc : Int32) (pl : Int32) (pt : Int32) (rt : Int32) (bn : Int32) (r : Int32) (x : Int32) (hI : RI st) : Met l yX5_ifWelded wsX5_ifWelded ({ frames := 10, cells := 0, slots := 0, locals := 225 }) (pcM G [.ref (a 0), .int r, .int x] (mW G a st kp hi sl sv pd td rc pl pt rt bn)) (qMU G (some (.int (cond (inr r 0 9 && inr x 0 9) (cond (decide (r = x)) (-2) (uiW st r x)) (-1)))) (mW G a st kp hi sl sv pd td rc pl pt rt bn) (mW G a st (cond (inr r 0 9 && inr x 0 9 && !decide (r = x)) (st) (kp)) hi sl sv pd td rc pl pt rt bn)) 0 0 (aA (mW G a st kp hi sl sv pd td rc pl pt rt bn)) := by
  refine hd_MU (cc := cX5_ifWelded) (maxL := 3) (ret := some .int) (by decide) rfl (Nat.le_of_ble_eq_true rfl) ?_
  intro p e s m below meth c ls hx hb hr hts hown hlocks hml hP hKK hD hS hl
  have hl : lv_has ls 3 [(0, .ref (a 0)), (1, .int r), (2, .int x)] := hl
  refine lv_iload_n hx hb dX5_ifWelded_0 rfl (lv_at hl 1 rfl) ?_
  refine ro_S (As := [.int r]) (rest := []) ⟨hx, hb, hml, hown, hts⟩ (c_X5_isRelay l G r) (va_cwS 1 hts gX5_ifWelded_X5_isRelay rfl rfl rfl (by decide +kernel) ⟨Nat.le_of_ble_eq_true rfl, Nat.le_of_ble_eq_true rfl⟩) (show gP G [] _ from fun k q h => by simp at h) hKK rfl hl.1 rfl (Nat.le_of_ble_eq_true rfl) dX5_ifWelded_1 (Nat.zero_le _) (Nat.zero_le _) ?_
  refine lv_if_eq (tgt := 14) hx hb dX5_ifWelded_4 (by decide) (fun c_4 => ?_) (fun c_4 => ?_)
  · skip
    have c_4 := b2i_0 c_4
    refine lv_iconst (v := (-1)) hx hb dX5_ifWelded_14 (by decide) ?_
    exact ex_MUi (w2 := (mW G a st kp hi sl sv pd td rc pl pt rt bn)) hx hb hr hlocks hP hS dX5_ifWelded_15 (by rw [c_4] <;> rfl) (fun h => by rw [c_4]; exact h)
  · skip
    have c_4 := b2i_1 c_4
    refine lv_iload_n hx hb dX5_ifWelded_7 rfl (lv_at hl 2 rfl) ?_
    refine ro_S (As := [.int x]) (rest := []) ⟨hx, hb, hml, hown, hts⟩ (c_X5_isRelay l G x) (va_cwS 1 hts gX5_ifWelded_X5_isRelay rfl rfl rfl (by decide +kernel) ⟨Nat.le_of_ble_eq_true rfl, Nat.le_of_ble_eq_true rfl⟩) (show gP G [] _ from fun k q h => by simp at h) hKK rfl hl.1 rfl (Nat.le_of_ble_eq_true rfl) dX5_ifWelded_8 (Nat.zero_le _) (Nat.zero_le _) ?_
    refine lv_if_ne (tgt := 16) hx hb dX5_ifWelded_11 (by decide) (fun c_11 => ?_) (fun c_11 => ?_)
    · skip
      have c_11 := b2i_1 c_11
      refine lv_iload_n hx hb dX5_ifWelded_16 rfl (lv_at hl 1 rfl) ?_
      refine lv_iload_n hx hb dX5_ifWelded_17 rfl (lv_at hl 2 rfl) ?_
      refine lv_icmp_ne (tgt := 26) hx hb dX5_ifWelded_18 (by decide) (fun c_18 => ?_) (fun c_18 => ?_)
      · skip
        have c_18 := decide_eq_false c_18
        refine lv_aload_n hx hb dX5_ifWelded_26 rfl (lv_at hl 0 rfl) ?_
        refine lv_iload_n hx hb dX5_ifWelded_27 rfl (lv_at hl 1 rfl) ?_
        refine lv_iload_n hx hb dX5_ifWelded_28 rfl (lv_at hl 2 rfl) ?_
        refine mu_V (As := [.int r, .int x]) (rest := []) ⟨hx, hb, hml, hown, hts⟩ (c_X5_upIfWelded l G a st kp hi sl sv pd td rc pl pt rt bn r x (by assumption)) (cwV 2 hts gX5_ifWelded_X5_upIfWelded rfl rfl rfl (by decide +kernel) ⟨Nat.le_of_ble_eq_true rfl, Nat.le_of_ble_eq_true rfl⟩) hP hKK hD hS (va_recv hKK.1 hP (ci := 5) (q0 := 0) rfl rfl) rfl hl.1 rfl (Nat.le_of_ble_eq_true rfl) dX5_ifWelded_29 (Nat.zero_le _) (Nat.zero_le _) (rfl) (fun H locs hP hD hS => ?_)
        exact ex_MUi (w2 := (mW G a st st hi sl sv pd td rc pl pt rt bn)) hx hb hr hlocks hP hS dX5_ifWelded_32 (by rw [c_4, c_11, c_18] <;> rfl) (fun h => by rw [c_4, c_11, c_18]; exact h)
      · skip
        have c_18 := decide_eq_true c_18
        refine lv_bipush (v := (-2)) hx hb dX5_ifWelded_21 (by decide) ?_
        refine lv_goto (tgt := 32) hx hb dX5_ifWelded_23 (by decide) ?_
        exact ex_MUi (w2 := (mW G a st kp hi sl sv pd td rc pl pt rt bn)) hx hb hr hlocks hP hS dX5_ifWelded_32 (by rw [c_4, c_11, c_18] <;> rfl) (fun h => by rw [c_4, c_11, c_18]; exact h)
    · skip
      have c_11 := b2i_0 c_11
      refine lv_iconst (v := (-1)) hx hb dX5_ifWelded_14 (by decide) ?_
      exact ex_MUi (w2 := (mW G a st kp hi sl sv pd td rc pl pt rt bn)) hx hb hr hlocks hP hS dX5_ifWelded_15 (by rw [c_4, c_11] <;> rfl) (fun h => by rw [c_4, c_11]; exact h)
