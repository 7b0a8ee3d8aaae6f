set_option maxRecDepth 20000 in
theorem hin_X3_copyFrom_X3 : ∀ w ∈ u_ws RX3 TX3 14, w ∈ wsX3_copyFrom := by decide +kernel
theorem lk_X3_copyFrom_36 : Cond.fieldLink RX3 36 "WeldedRelays$Room" "up" "I" ∈ wsX3_copyFrom := by decide +kernel
theorem lk_X3_copyFrom_40 : Cond.fieldLink RX3 40 "WeldedRelays$Room" "welded" "I" ∈ wsX3_copyFrom := by decide +kernel
theorem lk_X3_copyFrom_43 : Cond.fieldLink RX3 43 "WeldedRelays$Room" "buttons" "I" ∈ wsX3_copyFrom := by decide +kernel
theorem lk_X3_copyFrom_46 : Cond.fieldLink RX3 46 "WeldedRelays$Room" "life" "I" ∈ wsX3_copyFrom := by decide +kernel
theorem lk_X3_copyFrom_49 : Cond.fieldLink RX3 49 "WeldedRelays$Room" "ticks" "I" ∈ wsX3_copyFrom := by decide +kernel
theorem lk_X3_copyFrom_52 : Cond.fieldLink RX3 52 "WeldedRelays$Room" "moves" "I" ∈ wsX3_copyFrom := by decide +kernel
theorem lk_X3_copyFrom_9 : Cond.fieldLink RX3 9 "WeldedRelays$Room" "pickTimes" "[I" ∈ wsX3_copyFrom := by decide +kernel
theorem lk_X3_copyFrom_15 : Cond.fieldLink RX3 15 "WeldedRelays$Room" "dropTimes" "[I" ∈ wsX3_copyFrom := by decide +kernel
theorem lk_X3_copyFrom_18 : Cond.fieldLink RX3 18 "WeldedRelays$Room" "waits" "[I" ∈ wsX3_copyFrom := by decide +kernel
theorem lk_X3_copyFrom_21 : Cond.fieldLink RX3 21 "WeldedRelays$Room" "operations" "[I" ∈ wsX3_copyFrom := by decide +kernel
theorem lk_X3_copyFrom_24 : Cond.fieldLink RX3 24 "WeldedRelays$Room" "branchCounts" "[I" ∈ wsX3_copyFrom := by decide +kernel
theorem lk_X3_copyFrom_27 : Cond.fieldLink RX3 27 "WeldedRelays$Room" "fronts" "[I" ∈ wsX3_copyFrom := by decide +kernel
theorem lk_X3_copyFrom_30 : Cond.fieldLink RX3 30 "WeldedRelays$Room" "backs" "[I" ∈ wsX3_copyFrom := by decide +kernel
theorem lk_X3_copyFrom_33 : Cond.fieldLink RX3 33 "WeldedRelays$Room" "contactCounts" "[I" ∈ wsX3_copyFrom := by decide +kernel
set_option maxHeartbeats 4000000 in
set_option maxRecDepth 100000 in
/-- X3_copyFrom -/
theorem c_X3_copyFrom (l : Launch) (G : GG) (a : Nat → Nat) (v : Nat → Int32) (b : Nat → Nat) (u : Nat → Int32) : Met l yX3_copyFrom wsX3_copyFrom ({ frames := 1, cells := 0, slots := 0, locals := 40 }) (pcM G [.ref (a 0), .ref (b 0)] (List.flatten [rW G a v, rW G b u])) (qMU G none (List.flatten [rW G a v, rW G b u]) (List.flatten [rW G a u, rW G b u])) 0 0 (aA (List.flatten [rW G a v, rW G b u])) := by
  refine hd_MU (cc := cX3_copyFrom) (maxL := 2) (ret := none) (by decide) rfl (Nat.le_of_ble_eq_true rfl) ?_
  intro p e s m below meth c ls hx hb hr hts hown hlocks hml hP hKK hD hS hl
  have hl : lv_has ls 2 [(0, .ref (a 0)), (1, .ref (b 0))] := hl
  refine lv_aload_n hx hb dX3_copyFrom_0 rfl (lv_at hl 0 rfl) ?_
  refine lv_aload_n hx hb dX3_copyFrom_1 rfl (lv_at hl 1 rfl) ?_
  refine va_get (D := gD G) (ci := 3) (v := .int (u 0)) (C := RX3) (T := TX3) (N := 14) hx hb hts hin_X3_copyFrom_X3 hown hKK.1 hP 9 rfl rfl 0 (by decide) (hts _ lk_X3_copyFrom_36) (fun _ h9 => h9) rfl dX3_copyFrom_2 ?_
  refine va_put (D := gD G) (ci := 3) (v := .int (u 0)) (ty := .int) (C := RX3) (T := TX3) (N := 14) hx hb hts hin_X3_copyFrom_X3 tyX3 tyX3_ok nmX3 hown hKK.1 hP hD hS 0 rfl rfl 0 (by decide) (hts _ lk_X3_copyFrom_36) (fun _ h9 => h9) rfl (by decide +kernel) rfl rfl (Nat.le_of_ble_eq_true rfl) dX3_copyFrom_5 (fun H locs hP hD hS => ?_)
  have hP : gP G ([(a 0, .inr (3, [.int (u 0), .int (v 1), .int (v 2), .int (v 5), .int (v 3), .int (v 4), .ref (a 1), .ref (a 2), .ref (a 3), .ref (a 4), .ref (a 5), .ref (a 6), .ref (a 7), .ref (a 8)])), (a 1, .inl (gI G, 10, .inl (fun r => v (px r 0)))), (a 2, .inl (gI G, 10, .inl (fun r => v (px r 1)))), (a 3, .inl (gI G, 10, .inl (fun r => v (px r 2)))), (a 4, .inl (gI G, 10, .inl (fun r => v (px r 3)))), (a 5, .inl (gI G, 10, .inl (fun r => v (px r 4)))), (a 6, .inl (gI G, 60, .inl (fun j => v (px (j / 6) (5 + 3 * (j % 6)))))), (a 7, .inl (gI G, 60, .inl (fun j => v (px (j / 6) (6 + 3 * (j % 6)))))), (a 8, .inl (gI G, 60, .inl (fun j => v (px (j / 6) (7 + 3 * (j % 6)))))), (b 0, .inr (3, [.int (u 0), .int (u 1), .int (u 2), .int (u 5), .int (u 3), .int (u 4), .ref (b 1), .ref (b 2), .ref (b 3), .ref (b 4), .ref (b 5), .ref (b 6), .ref (b 7), .ref (b 8)])), (b 1, .inl (gI G, 10, .inl (fun r => u (px r 0)))), (b 2, .inl (gI G, 10, .inl (fun r => u (px r 1)))), (b 3, .inl (gI G, 10, .inl (fun r => u (px r 2)))), (b 4, .inl (gI G, 10, .inl (fun r => u (px r 3)))), (b 5, .inl (gI G, 10, .inl (fun r => u (px r 4)))), (b 6, .inl (gI G, 60, .inl (fun j => u (px (j / 6) (5 + 3 * (j % 6)))))), (b 7, .inl (gI G, 60, .inl (fun j => u (px (j / 6) (6 + 3 * (j % 6)))))), (b 8, .inl (gI G, 60, .inl (fun j => u (px (j / 6) (7 + 3 * (j % 6))))))]) H := hP
  have hD : va_D (aA (List.flatten [rW G a v, rW G b u])) ([(a 0, .inr (3, [.int (u 0), .int (v 1), .int (v 2), .int (v 5), .int (v 3), .int (v 4), .ref (a 1), .ref (a 2), .ref (a 3), .ref (a 4), .ref (a 5), .ref (a 6), .ref (a 7), .ref (a 8)])), (a 1, .inl (gI G, 10, .inl (fun r => v (px r 0)))), (a 2, .inl (gI G, 10, .inl (fun r => v (px r 1)))), (a 3, .inl (gI G, 10, .inl (fun r => v (px r 2)))), (a 4, .inl (gI G, 10, .inl (fun r => v (px r 3)))), (a 5, .inl (gI G, 10, .inl (fun r => v (px r 4)))), (a 6, .inl (gI G, 60, .inl (fun j => v (px (j / 6) (5 + 3 * (j % 6)))))), (a 7, .inl (gI G, 60, .inl (fun j => v (px (j / 6) (6 + 3 * (j % 6)))))), (a 8, .inl (gI G, 60, .inl (fun j => v (px (j / 6) (7 + 3 * (j % 6)))))), (b 0, .inr (3, [.int (u 0), .int (u 1), .int (u 2), .int (u 5), .int (u 3), .int (u 4), .ref (b 1), .ref (b 2), .ref (b 3), .ref (b 4), .ref (b 5), .ref (b 6), .ref (b 7), .ref (b 8)])), (b 1, .inl (gI G, 10, .inl (fun r => u (px r 0)))), (b 2, .inl (gI G, 10, .inl (fun r => u (px r 1)))), (b 3, .inl (gI G, 10, .inl (fun r => u (px r 2)))), (b 4, .inl (gI G, 10, .inl (fun r => u (px r 3)))), (b 5, .inl (gI G, 10, .inl (fun r => u (px r 4)))), (b 6, .inl (gI G, 60, .inl (fun j => u (px (j / 6) (5 + 3 * (j % 6)))))), (b 7, .inl (gI G, 60, .inl (fun j => u (px (j / 6) (6 + 3 * (j % 6)))))), (b 8, .inl (gI G, 60, .inl (fun j => u (px (j / 6) (7 + 3 * (j % 6))))))]) := hD
  refine lv_aload_n hx hb dX3_copyFrom_8 rfl (lv_at hl 0 rfl) ?_
  refine lv_aload_n hx hb dX3_copyFrom_9 rfl (lv_at hl 1 rfl) ?_
  refine va_get (D := gD G) (ci := 3) (v := .int (u 1)) (C := RX3) (T := TX3) (N := 14) hx hb hts hin_X3_copyFrom_X3 hown hKK.1 hP 9 rfl rfl 1 (by decide) (hts _ lk_X3_copyFrom_40) (fun _ h9 => h9) rfl dX3_copyFrom_10 ?_
  refine va_put (D := gD G) (ci := 3) (v := .int (u 1)) (ty := .int) (C := RX3) (T := TX3) (N := 14) hx hb hts hin_X3_copyFrom_X3 tyX3 tyX3_ok nmX3 hown hKK.1 hP hD hS 0 rfl rfl 1 (by decide) (hts _ lk_X3_copyFrom_40) (fun _ h9 => h9) rfl (by decide +kernel) rfl rfl (Nat.le_of_ble_eq_true rfl) dX3_copyFrom_13 (fun H locs hP hD hS => ?_)
  have hP : gP G ([(a 0, .inr (3, [.int (u 0), .int (u 1), .int (v 2), .int (v 5), .int (v 3), .int (v 4), .ref (a 1), .ref (a 2), .ref (a 3), .ref (a 4), .ref (a 5), .ref (a 6), .ref (a 7), .ref (a 8)])), (a 1, .inl (gI G, 10, .inl (fun r => v (px r 0)))), (a 2, .inl (gI G, 10, .inl (fun r => v (px r 1)))), (a 3, .inl (gI G, 10, .inl (fun r => v (px r 2)))), (a 4, .inl (gI G, 10, .inl (fun r => v (px r 3)))), (a 5, .inl (gI G, 10, .inl (fun r => v (px r 4)))), (a 6, .inl (gI G, 60, .inl (fun j => v (px (j / 6) (5 + 3 * (j % 6)))))), (a 7, .inl (gI G, 60, .inl (fun j => v (px (j / 6) (6 + 3 * (j % 6)))))), (a 8, .inl (gI G, 60, .inl (fun j => v (px (j / 6) (7 + 3 * (j % 6)))))), (b 0, .inr (3, [.int (u 0), .int (u 1), .int (u 2), .int (u 5), .int (u 3), .int (u 4), .ref (b 1), .ref (b 2), .ref (b 3), .ref (b 4), .ref (b 5), .ref (b 6), .ref (b 7), .ref (b 8)])), (b 1, .inl (gI G, 10, .inl (fun r => u (px r 0)))), (b 2, .inl (gI G, 10, .inl (fun r => u (px r 1)))), (b 3, .inl (gI G, 10, .inl (fun r => u (px r 2)))), (b 4, .inl (gI G, 10, .inl (fun r => u (px r 3)))), (b 5, .inl (gI G, 10, .inl (fun r => u (px r 4)))), (b 6, .inl (gI G, 60, .inl (fun j => u (px (j / 6) (5 + 3 * (j % 6)))))), (b 7, .inl (gI G, 60, .inl (fun j => u (px (j / 6) (6 + 3 * (j % 6)))))), (b 8, .inl (gI G, 60, .inl (fun j => u (px (j / 6) (7 + 3 * (j % 6))))))]) H := hP
  have hD : va_D (aA (List.flatten [rW G a v, rW G b u])) ([(a 0, .inr (3, [.int (u 0), .int (u 1), .int (v 2), .int (v 5), .int (v 3), .int (v 4), .ref (a 1), .ref (a 2), .ref (a 3), .ref (a 4), .ref (a 5), .ref (a 6), .ref (a 7), .ref (a 8)])), (a 1, .inl (gI G, 10, .inl (fun r => v (px r 0)))), (a 2, .inl (gI G, 10, .inl (fun r => v (px r 1)))), (a 3, .inl (gI G, 10, .inl (fun r => v (px r 2)))), (a 4, .inl (gI G, 10, .inl (fun r => v (px r 3)))), (a 5, .inl (gI G, 10, .inl (fun r => v (px r 4)))), (a 6, .inl (gI G, 60, .inl (fun j => v (px (j / 6) (5 + 3 * (j % 6)))))), (a 7, .inl (gI G, 60, .inl (fun j => v (px (j / 6) (6 + 3 * (j % 6)))))), (a 8, .inl (gI G, 60, .inl (fun j => v (px (j / 6) (7 + 3 * (j % 6)))))), (b 0, .inr (3, [.int (u 0), .int (u 1), .int (u 2), .int (u 5), .int (u 3), .int (u 4), .ref (b 1), .ref (b 2), .ref (b 3), .ref (b 4), .ref (b 5), .ref (b 6), .ref (b 7), .ref (b 8)])), (b 1, .inl (gI G, 10, .inl (fun r => u (px r 0)))), (b 2, .inl (gI G, 10, .inl (fun r => u (px r 1)))), (b 3, .inl (gI G, 10, .inl (fun r => u (px r 2)))), (b 4, .inl (gI G, 10, .inl (fun r => u (px r 3)))), (b 5, .inl (gI G, 10, .inl (fun r => u (px r 4)))), (b 6, .inl (gI G, 60, .inl (fun j => u (px (j / 6) (5 + 3 * (j % 6)))))), (b 7, .inl (gI G, 60, .inl (fun j => u (px (j / 6) (6 + 3 * (j % 6)))))), (b 8, .inl (gI G, 60, .inl (fun j => u (px (j / 6) (7 + 3 * (j % 6))))))]) := hD
  refine lv_aload_n hx hb dX3_copyFrom_16 rfl (lv_at hl 0 rfl) ?_
  refine lv_aload_n hx hb dX3_copyFrom_17 rfl (lv_at hl 1 rfl) ?_
  refine va_get (D := gD G) (ci := 3) (v := .int (u 2)) (C := RX3) (T := TX3) (N := 14) hx hb hts hin_X3_copyFrom_X3 hown hKK.1 hP 9 rfl rfl 2 (by decide) (hts _ lk_X3_copyFrom_43) (fun _ h9 => h9) rfl dX3_copyFrom_18 ?_
  refine va_put (D := gD G) (ci := 3) (v := .int (u 2)) (ty := .int) (C := RX3) (T := TX3) (N := 14) hx hb hts hin_X3_copyFrom_X3 tyX3 tyX3_ok nmX3 hown hKK.1 hP hD hS 0 rfl rfl 2 (by decide) (hts _ lk_X3_copyFrom_43) (fun _ h9 => h9) rfl (by decide +kernel) rfl rfl (Nat.le_of_ble_eq_true rfl) dX3_copyFrom_21 (fun H locs hP hD hS => ?_)
  have hP : gP G ([(a 0, .inr (3, [.int (u 0), .int (u 1), .int (u 2), .int (v 5), .int (v 3), .int (v 4), .ref (a 1), .ref (a 2), .ref (a 3), .ref (a 4), .ref (a 5), .ref (a 6), .ref (a 7), .ref (a 8)])), (a 1, .inl (gI G, 10, .inl (fun r => v (px r 0)))), (a 2, .inl (gI G, 10, .inl (fun r => v (px r 1)))), (a 3, .inl (gI G, 10, .inl (fun r => v (px r 2)))), (a 4, .inl (gI G, 10, .inl (fun r => v (px r 3)))), (a 5, .inl (gI G, 10, .inl (fun r => v (px r 4)))), (a 6, .inl (gI G, 60, .inl (fun j => v (px (j / 6) (5 + 3 * (j % 6)))))), (a 7, .inl (gI G, 60, .inl (fun j => v (px (j / 6) (6 + 3 * (j % 6)))))), (a 8, .inl (gI G, 60, .inl (fun j => v (px (j / 6) (7 + 3 * (j % 6)))))), (b 0, .inr (3, [.int (u 0), .int (u 1), .int (u 2), .int (u 5), .int (u 3), .int (u 4), .ref (b 1), .ref (b 2), .ref (b 3), .ref (b 4), .ref (b 5), .ref (b 6), .ref (b 7), .ref (b 8)])), (b 1, .inl (gI G, 10, .inl (fun r => u (px r 0)))), (b 2, .inl (gI G, 10, .inl (fun r => u (px r 1)))), (b 3, .inl (gI G, 10, .inl (fun r => u (px r 2)))), (b 4, .inl (gI G, 10, .inl (fun r => u (px r 3)))), (b 5, .inl (gI G, 10, .inl (fun r => u (px r 4)))), (b 6, .inl (gI G, 60, .inl (fun j => u (px (j / 6) (5 + 3 * (j % 6)))))), (b 7, .inl (gI G, 60, .inl (fun j => u (px (j / 6) (6 + 3 * (j % 6)))))), (b 8, .inl (gI G, 60, .inl (fun j => u (px (j / 6) (7 + 3 * (j % 6))))))]) H := hP
  have hD : va_D (aA (List.flatten [rW G a v, rW G b u])) ([(a 0, .inr (3, [.int (u 0), .int (u 1), .int (u 2), .int (v 5), .int (v 3), .int (v 4), .ref (a 1), .ref (a 2), .ref (a 3), .ref (a 4), .ref (a 5), .ref (a 6), .ref (a 7), .ref (a 8)])), (a 1, .inl (gI G, 10, .inl (fun r => v (px r 0)))), (a 2, .inl (gI G, 10, .inl (fun r => v (px r 1)))), (a 3, .inl (gI G, 10, .inl (fun r => v (px r 2)))), (a 4, .inl (gI G, 10, .inl (fun r => v (px r 3)))), (a 5, .inl (gI G, 10, .inl (fun r => v (px r 4)))), (a 6, .inl (gI G, 60, .inl (fun j => v (px (j / 6) (5 + 3 * (j % 6)))))), (a 7, .inl (gI G, 60, .inl (fun j => v (px (j / 6) (6 + 3 * (j % 6)))))), (a 8, .inl (gI G, 60, .inl (fun j => v (px (j / 6) (7 + 3 * (j % 6)))))), (b 0, .inr (3, [.int (u 0), .int (u 1), .int (u 2), .int (u 5), .int (u 3), .int (u 4), .ref (b 1), .ref (b 2), .ref (b 3), .ref (b 4), .ref (b 5), .ref (b 6), .ref (b 7), .ref (b 8)])), (b 1, .inl (gI G, 10, .inl (fun r => u (px r 0)))), (b 2, .inl (gI G, 10, .inl (fun r => u (px r 1)))), (b 3, .inl (gI G, 10, .inl (fun r => u (px r 2)))), (b 4, .inl (gI G, 10, .inl (fun r => u (px r 3)))), (b 5, .inl (gI G, 10, .inl (fun r => u (px r 4)))), (b 6, .inl (gI G, 60, .inl (fun j => u (px (j / 6) (5 + 3 * (j % 6)))))), (b 7, .inl (gI G, 60, .inl (fun j => u (px (j / 6) (6 + 3 * (j % 6)))))), (b 8, .inl (gI G, 60, .inl (fun j => u (px (j / 6) (7 + 3 * (j % 6))))))]) := hD
  refine lv_aload_n hx hb dX3_copyFrom_24 rfl (lv_at hl 0 rfl) ?_
  refine lv_aload_n hx hb dX3_copyFrom_25 rfl (lv_at hl 1 rfl) ?_
  refine va_get (D := gD G) (ci := 3) (v := .int (u 5)) (C := RX3) (T := TX3) (N := 14) hx hb hts hin_X3_copyFrom_X3 hown hKK.1 hP 9 rfl rfl 3 (by decide) (hts _ lk_X3_copyFrom_46) (fun _ h9 => h9) rfl dX3_copyFrom_26 ?_
  refine va_put (D := gD G) (ci := 3) (v := .int (u 5)) (ty := .int) (C := RX3) (T := TX3) (N := 14) hx hb hts hin_X3_copyFrom_X3 tyX3 tyX3_ok nmX3 hown hKK.1 hP hD hS 0 rfl rfl 3 (by decide) (hts _ lk_X3_copyFrom_46) (fun _ h9 => h9) rfl (by decide +kernel) rfl rfl (Nat.le_of_ble_eq_true rfl) dX3_copyFrom_29 (fun H locs hP hD hS => ?_)
  have hP : gP G ([(a 0, .inr (3, [.int (u 0), .int (u 1), .int (u 2), .int (u 5), .int (v 3), .int (v 4), .ref (a 1), .ref (a 2), .ref (a 3), .ref (a 4), .ref (a 5), .ref (a 6), .ref (a 7), .ref (a 8)])), (a 1, .inl (gI G, 10, .inl (fun r => v (px r 0)))), (a 2, .inl (gI G, 10, .inl (fun r => v (px r 1)))), (a 3, .inl (gI G, 10, .inl (fun r => v (px r 2)))), (a 4, .inl (gI G, 10, .inl (fun r => v (px r 3)))), (a 5, .inl (gI G, 10, .inl (fun r => v (px r 4)))), (a 6, .inl (gI G, 60, .inl (fun j => v (px (j / 6) (5 + 3 * (j % 6)))))), (a 7, .inl (gI G, 60, .inl (fun j => v (px (j / 6) (6 + 3 * (j % 6)))))), (a 8, .inl (gI G, 60, .inl (fun j => v (px (j / 6) (7 + 3 * (j % 6)))))), (b 0, .inr (3, [.int (u 0), .int (u 1), .int (u 2), .int (u 5), .int (u 3), .int (u 4), .ref (b 1), .ref (b 2), .ref (b 3), .ref (b 4), .ref (b 5), .ref (b 6), .ref (b 7), .ref (b 8)])), (b 1, .inl (gI G, 10, .inl (fun r => u (px r 0)))), (b 2, .inl (gI G, 10, .inl (fun r => u (px r 1)))), (b 3, .inl (gI G, 10, .inl (fun r => u (px r 2)))), (b 4, .inl (gI G, 10, .inl (fun r => u (px r 3)))), (b 5, .inl (gI G, 10, .inl (fun r => u (px r 4)))), (b 6, .inl (gI G, 60, .inl (fun j => u (px (j / 6) (5 + 3 * (j % 6)))))), (b 7, .inl (gI G, 60, .inl (fun j => u (px (j / 6) (6 + 3 * (j % 6)))))), (b 8, .inl (gI G, 60, .inl (fun j => u (px (j / 6) (7 + 3 * (j % 6))))))]) H := hP
  have hD : va_D (aA (List.flatten [rW G a v, rW G b u])) ([(a 0, .inr (3, [.int (u 0), .int (u 1), .int (u 2), .int (u 5), .int (v 3), .int (v 4), .ref (a 1), .ref (a 2), .ref (a 3), .ref (a 4), .ref (a 5), .ref (a 6), .ref (a 7), .ref (a 8)])), (a 1, .inl (gI G, 10, .inl (fun r => v (px r 0)))), (a 2, .inl (gI G, 10, .inl (fun r => v (px r 1)))), (a 3, .inl (gI G, 10, .inl (fun r => v (px r 2)))), (a 4, .inl (gI G, 10, .inl (fun r => v (px r 3)))), (a 5, .inl (gI G, 10, .inl (fun r => v (px r 4)))), (a 6, .inl (gI G, 60, .inl (fun j => v (px (j / 6) (5 + 3 * (j % 6)))))), (a 7, .inl (gI G, 60, .inl (fun j => v (px (j / 6) (6 + 3 * (j % 6)))))), (a 8, .inl (gI G, 60, .inl (fun j => v (px (j / 6) (7 + 3 * (j % 6)))))), (b 0, .inr (3, [.int (u 0), .int (u 1), .int (u 2), .int (u 5), .int (u 3), .int (u 4), .ref (b 1), .ref (b 2), .ref (b 3), .ref (b 4), .ref (b 5), .ref (b 6), .ref (b 7), .ref (b 8)])), (b 1, .inl (gI G, 10, .inl (fun r => u (px r 0)))), (b 2, .inl (gI G, 10, .inl (fun r => u (px r 1)))), (b 3, .inl (gI G, 10, .inl (fun r => u (px r 2)))), (b 4, .inl (gI G, 10, .inl (fun r => u (px r 3)))), (b 5, .inl (gI G, 10, .inl (fun r => u (px r 4)))), (b 6, .inl (gI G, 60, .inl (fun j => u (px (j / 6) (5 + 3 * (j % 6)))))), (b 7, .inl (gI G, 60, .inl (fun j => u (px (j / 6) (6 + 3 * (j % 6)))))), (b 8, .inl (gI G, 60, .inl (fun j => u (px (j / 6) (7 + 3 * (j % 6))))))]) := hD
  refine lv_aload_n hx hb dX3_copyFrom_32 rfl (lv_at hl 0 rfl) ?_
  refine lv_aload_n hx hb dX3_copyFrom_33 rfl (lv_at hl 1 rfl) ?_
  refine va_get (D := gD G) (ci := 3) (v := .int (u 3)) (C := RX3) (T := TX3) (N := 14) hx hb hts hin_X3_copyFrom_X3 hown hKK.1 hP 9 rfl rfl 4 (by decide) (hts _ lk_X3_copyFrom_49) (fun _ h9 => h9) rfl dX3_copyFrom_34 ?_
  refine va_put (D := gD G) (ci := 3) (v := .int (u 3)) (ty := .int) (C := RX3) (T := TX3) (N := 14) hx hb hts hin_X3_copyFrom_X3 tyX3 tyX3_ok nmX3 hown hKK.1 hP hD hS 0 rfl rfl 4 (by decide) (hts _ lk_X3_copyFrom_49) (fun _ h9 => h9) rfl (by decide +kernel) rfl rfl (Nat.le_of_ble_eq_true rfl) dX3_copyFrom_37 (fun H locs hP hD hS => ?_)
  have hP : gP G ([(a 0, .inr (3, [.int (u 0), .int (u 1), .int (u 2), .int (u 5), .int (u 3), .int (v 4), .ref (a 1), .ref (a 2), .ref (a 3), .ref (a 4), .ref (a 5), .ref (a 6), .ref (a 7), .ref (a 8)])), (a 1, .inl (gI G, 10, .inl (fun r => v (px r 0)))), (a 2, .inl (gI G, 10, .inl (fun r => v (px r 1)))), (a 3, .inl (gI G, 10, .inl (fun r => v (px r 2)))), (a 4, .inl (gI G, 10, .inl (fun r => v (px r 3)))), (a 5, .inl (gI G, 10, .inl (fun r => v (px r 4)))), (a 6, .inl (gI G, 60, .inl (fun j => v (px (j / 6) (5 + 3 * (j % 6)))))), (a 7, .inl (gI G, 60, .inl (fun j => v (px (j / 6) (6 + 3 * (j % 6)))))), (a 8, .inl (gI G, 60, .inl (fun j => v (px (j / 6) (7 + 3 * (j % 6)))))), (b 0, .inr (3, [.int (u 0), .int (u 1), .int (u 2), .int (u 5), .int (u 3), .int (u 4), .ref (b 1), .ref (b 2), .ref (b 3), .ref (b 4), .ref (b 5), .ref (b 6), .ref (b 7), .ref (b 8)])), (b 1, .inl (gI G, 10, .inl (fun r => u (px r 0)))), (b 2, .inl (gI G, 10, .inl (fun r => u (px r 1)))), (b 3, .inl (gI G, 10, .inl (fun r => u (px r 2)))), (b 4, .inl (gI G, 10, .inl (fun r => u (px r 3)))), (b 5, .inl (gI G, 10, .inl (fun r => u (px r 4)))), (b 6, .inl (gI G, 60, .inl (fun j => u (px (j / 6) (5 + 3 * (j % 6)))))), (b 7, .inl (gI G, 60, .inl (fun j => u (px (j / 6) (6 + 3 * (j % 6)))))), (b 8, .inl (gI G, 60, .inl (fun j => u (px (j / 6) (7 + 3 * (j % 6))))))]) H := hP
  have hD : va_D (aA (List.flatten [rW G a v, rW G b u])) ([(a 0, .inr (3, [.int (u 0), .int (u 1), .int (u 2), .int (u 5), .int (u 3), .int (v 4), .ref (a 1), .ref (a 2), .ref (a 3), .ref (a 4), .ref (a 5), .ref (a 6), .ref (a 7), .ref (a 8)])), (a 1, .inl (gI G, 10, .inl (fun r => v (px r 0)))), (a 2, .inl (gI G, 10, .inl (fun r => v (px r 1)))), (a 3, .inl (gI G, 10, .inl (fun r => v (px r 2)))), (a 4, .inl (gI G, 10, .inl (fun r => v (px r 3)))), (a 5, .inl (gI G, 10, .inl (fun r => v (px r 4)))), (a 6, .inl (gI G, 60, .inl (fun j => v (px (j / 6) (5 + 3 * (j % 6)))))), (a 7, .inl (gI G, 60, .inl (fun j => v (px (j / 6) (6 + 3 * (j % 6)))))), (a 8, .inl (gI G, 60, .inl (fun j => v (px (j / 6) (7 + 3 * (j % 6)))))), (b 0, .inr (3, [.int (u 0), .int (u 1), .int (u 2), .int (u 5), .int (u 3), .int (u 4), .ref (b 1), .ref (b 2), .ref (b 3), .ref (b 4), .ref (b 5), .ref (b 6), .ref (b 7), .ref (b 8)])), (b 1, .inl (gI G, 10, .inl (fun r => u (px r 0)))), (b 2, .inl (gI G, 10, .inl (fun r => u (px r 1)))), (b 3, .inl (gI G, 10, .inl (fun r => u (px r 2)))), (b 4, .inl (gI G, 10, .inl (fun r => u (px r 3)))), (b 5, .inl (gI G, 10, .inl (fun r => u (px r 4)))), (b 6, .inl (gI G, 60, .inl (fun j => u (px (j / 6) (5 + 3 * (j % 6)))))), (b 7, .inl (gI G, 60, .inl (fun j => u (px (j / 6) (6 + 3 * (j % 6)))))), (b 8, .inl (gI G, 60, .inl (fun j => u (px (j / 6) (7 + 3 * (j % 6))))))]) := hD
  refine lv_aload_n hx hb dX3_copyFrom_40 rfl (lv_at hl 0 rfl) ?_
  refine lv_aload_n hx hb dX3_copyFrom_41 rfl (lv_at hl 1 rfl) ?_
  refine va_get (D := gD G) (ci := 3) (v := .int (u 4)) (C := RX3) (T := TX3) (N := 14) hx hb hts hin_X3_copyFrom_X3 hown hKK.1 hP 9 rfl rfl 5 (by decide) (hts _ lk_X3_copyFrom_52) (fun _ h9 => h9) rfl dX3_copyFrom_42 ?_
  refine va_put (D := gD G) (ci := 3) (v := .int (u 4)) (ty := .int) (C := RX3) (T := TX3) (N := 14) hx hb hts hin_X3_copyFrom_X3 tyX3 tyX3_ok nmX3 hown hKK.1 hP hD hS 0 rfl rfl 5 (by decide) (hts _ lk_X3_copyFrom_52) (fun _ h9 => h9) rfl (by decide +kernel) rfl rfl (Nat.le_of_ble_eq_true rfl) dX3_copyFrom_45 (fun H locs hP hD hS => ?_)
  have hP : gP G ([(a 0, .inr (3, [.int (u 0), .int (u 1), .int (u 2), .int (u 5), .int (u 3), .int (u 4), .ref (a 1), .ref (a 2), .ref (a 3), .ref (a 4), .ref (a 5), .ref (a 6), .ref (a 7), .ref (a 8)])), (a 1, .inl (gI G, 10, .inl (fun r => v (px r 0)))), (a 2, .inl (gI G, 10, .inl (fun r => v (px r 1)))), (a 3, .inl (gI G, 10, .inl (fun r => v (px r 2)))), (a 4, .inl (gI G, 10, .inl (fun r => v (px r 3)))), (a 5, .inl (gI G, 10, .inl (fun r => v (px r 4)))), (a 6, .inl (gI G, 60, .inl (fun j => v (px (j / 6) (5 + 3 * (j % 6)))))), (a 7, .inl (gI G, 60, .inl (fun j => v (px (j / 6) (6 + 3 * (j % 6)))))), (a 8, .inl (gI G, 60, .inl (fun j => v (px (j / 6) (7 + 3 * (j % 6)))))), (b 0, .inr (3, [.int (u 0), .int (u 1), .int (u 2), .int (u 5), .int (u 3), .int (u 4), .ref (b 1), .ref (b 2), .ref (b 3), .ref (b 4), .ref (b 5), .ref (b 6), .ref (b 7), .ref (b 8)])), (b 1, .inl (gI G, 10, .inl (fun r => u (px r 0)))), (b 2, .inl (gI G, 10, .inl (fun r => u (px r 1)))), (b 3, .inl (gI G, 10, .inl (fun r => u (px r 2)))), (b 4, .inl (gI G, 10, .inl (fun r => u (px r 3)))), (b 5, .inl (gI G, 10, .inl (fun r => u (px r 4)))), (b 6, .inl (gI G, 60, .inl (fun j => u (px (j / 6) (5 + 3 * (j % 6)))))), (b 7, .inl (gI G, 60, .inl (fun j => u (px (j / 6) (6 + 3 * (j % 6)))))), (b 8, .inl (gI G, 60, .inl (fun j => u (px (j / 6) (7 + 3 * (j % 6))))))]) H := hP
  have hD : va_D (aA (List.flatten [rW G a v, rW G b u])) ([(a 0, .inr (3, [.int (u 0), .int (u 1), .int (u 2), .int (u 5), .int (u 3), .int (u 4), .ref (a 1), .ref (a 2), .ref (a 3), .ref (a 4), .ref (a 5), .ref (a 6), .ref (a 7), .ref (a 8)])), (a 1, .inl (gI G, 10, .inl (fun r => v (px r 0)))), (a 2, .inl (gI G, 10, .inl (fun r => v (px r 1)))), (a 3, .inl (gI G, 10, .inl (fun r => v (px r 2)))), (a 4, .inl (gI G, 10, .inl (fun r => v (px r 3)))), (a 5, .inl (gI G, 10, .inl (fun r => v (px r 4)))), (a 6, .inl (gI G, 60, .inl (fun j => v (px (j / 6) (5 + 3 * (j % 6)))))), (a 7, .inl (gI G, 60, .inl (fun j => v (px (j / 6) (6 + 3 * (j % 6)))))), (a 8, .inl (gI G, 60, .inl (fun j => v (px (j / 6) (7 + 3 * (j % 6)))))), (b 0, .inr (3, [.int (u 0), .int (u 1), .int (u 2), .int (u 5), .int (u 3), .int (u 4), .ref (b 1), .ref (b 2), .ref (b 3), .ref (b 4), .ref (b 5), .ref (b 6), .ref (b 7), .ref (b 8)])), (b 1, .inl (gI G, 10, .inl (fun r => u (px r 0)))), (b 2, .inl (gI G, 10, .inl (fun r => u (px r 1)))), (b 3, .inl (gI G, 10, .inl (fun r => u (px r 2)))), (b 4, .inl (gI G, 10, .inl (fun r => u (px r 3)))), (b 5, .inl (gI G, 10, .inl (fun r => u (px r 4)))), (b 6, .inl (gI G, 60, .inl (fun j => u (px (j / 6) (5 + 3 * (j % 6)))))), (b 7, .inl (gI G, 60, .inl (fun j => u (px (j / 6) (6 + 3 * (j % 6)))))), (b 8, .inl (gI G, 60, .inl (fun j => u (px (j / 6) (7 + 3 * (j % 6))))))]) := hD
  refine lv_aload_n hx hb dX3_copyFrom_48 rfl (lv_at hl 1 rfl) ?_
  refine va_get (D := gD G) (ci := 3) (v := .ref (b 1)) (C := RX3) (T := TX3) (N := 14) hx hb hts hin_X3_copyFrom_X3 hown hKK.1 hP 9 rfl rfl 6 (by decide) (hts _ lk_X3_copyFrom_9) (fun _ h9 => h9) rfl dX3_copyFrom_49 ?_
  refine lv_iconst (v := 0) hx hb dX3_copyFrom_52 (by decide) ?_
  refine lv_aload_n hx hb dX3_copyFrom_53 rfl (lv_at hl 0 rfl) ?_
  refine va_get (D := gD G) (ci := 3) (v := .ref (a 1)) (C := RX3) (T := TX3) (N := 14) hx hb hts hin_X3_copyFrom_X3 hown hKK.1 hP 0 rfl rfl 6 (by decide) (hts _ lk_X3_copyFrom_9) (fun _ h9 => h9) rfl dX3_copyFrom_54 ?_
  refine lv_iconst (v := 0) hx hb dX3_copyFrom_57 (by decide) ?_
  refine lv_bipush (v := 10) hx hb dX3_copyFrom_58 (by decide) ?_
  refine va_copyi hx hb (hml.trans hl.1.symm) hown (hts (.methodLink RX3 55 arraycopyName) (by decide +kernel)) (hts (.native arraycopyName) (by decide +kernel)) (hts (.static arraycopyName) (by decide +kernel)) (hts (.initialized "java/lang/System") (by decide +kernel)) hKK.1 hP hD hS 10 1 0 0 rfl rfl rfl rfl rfl (sp := 0) (dp := 0) (n := 10) (by decide) (by decide) (by decide) (by decide) (by decide) (fun _ _ => rfl) (Nat.le_of_ble_eq_true rfl) (by decide) dX3_copyFrom_60 (fun H locs hP hD hS => ?_)
  rw [cpz0, cpz10] at hP hD
  have hP : gP G ([(a 0, .inr (3, [.int (u 0), .int (u 1), .int (u 2), .int (u 5), .int (u 3), .int (u 4), .ref (a 1), .ref (a 2), .ref (a 3), .ref (a 4), .ref (a 5), .ref (a 6), .ref (a 7), .ref (a 8)])), (a 1, .inl (gI G, 10, .inl (va_cpy (fun r => u (px r 0)) (fun r => v (px r 0)) 0 0 10))), (a 2, .inl (gI G, 10, .inl (fun r => v (px r 1)))), (a 3, .inl (gI G, 10, .inl (fun r => v (px r 2)))), (a 4, .inl (gI G, 10, .inl (fun r => v (px r 3)))), (a 5, .inl (gI G, 10, .inl (fun r => v (px r 4)))), (a 6, .inl (gI G, 60, .inl (fun j => v (px (j / 6) (5 + 3 * (j % 6)))))), (a 7, .inl (gI G, 60, .inl (fun j => v (px (j / 6) (6 + 3 * (j % 6)))))), (a 8, .inl (gI G, 60, .inl (fun j => v (px (j / 6) (7 + 3 * (j % 6)))))), (b 0, .inr (3, [.int (u 0), .int (u 1), .int (u 2), .int (u 5), .int (u 3), .int (u 4), .ref (b 1), .ref (b 2), .ref (b 3), .ref (b 4), .ref (b 5), .ref (b 6), .ref (b 7), .ref (b 8)])), (b 1, .inl (gI G, 10, .inl (fun r => u (px r 0)))), (b 2, .inl (gI G, 10, .inl (fun r => u (px r 1)))), (b 3, .inl (gI G, 10, .inl (fun r => u (px r 2)))), (b 4, .inl (gI G, 10, .inl (fun r => u (px r 3)))), (b 5, .inl (gI G, 10, .inl (fun r => u (px r 4)))), (b 6, .inl (gI G, 60, .inl (fun j => u (px (j / 6) (5 + 3 * (j % 6)))))), (b 7, .inl (gI G, 60, .inl (fun j => u (px (j / 6) (6 + 3 * (j % 6)))))), (b 8, .inl (gI G, 60, .inl (fun j => u (px (j / 6) (7 + 3 * (j % 6))))))]) H := hP
  have hD : va_D (aA (List.flatten [rW G a v, rW G b u])) ([(a 0, .inr (3, [.int (u 0), .int (u 1), .int (u 2), .int (u 5), .int (u 3), .int (u 4), .ref (a 1), .ref (a 2), .ref (a 3), .ref (a 4), .ref (a 5), .ref (a 6), .ref (a 7), .ref (a 8)])), (a 1, .inl (gI G, 10, .inl (va_cpy (fun r => u (px r 0)) (fun r => v (px r 0)) 0 0 10))), (a 2, .inl (gI G, 10, .inl (fun r => v (px r 1)))), (a 3, .inl (gI G, 10, .inl (fun r => v (px r 2)))), (a 4, .inl (gI G, 10, .inl (fun r => v (px r 3)))), (a 5, .inl (gI G, 10, .inl (fun r => v (px r 4)))), (a 6, .inl (gI G, 60, .inl (fun j => v (px (j / 6) (5 + 3 * (j % 6)))))), (a 7, .inl (gI G, 60, .inl (fun j => v (px (j / 6) (6 + 3 * (j % 6)))))), (a 8, .inl (gI G, 60, .inl (fun j => v (px (j / 6) (7 + 3 * (j % 6)))))), (b 0, .inr (3, [.int (u 0), .int (u 1), .int (u 2), .int (u 5), .int (u 3), .int (u 4), .ref (b 1), .ref (b 2), .ref (b 3), .ref (b 4), .ref (b 5), .ref (b 6), .ref (b 7), .ref (b 8)])), (b 1, .inl (gI G, 10, .inl (fun r => u (px r 0)))), (b 2, .inl (gI G, 10, .inl (fun r => u (px r 1)))), (b 3, .inl (gI G, 10, .inl (fun r => u (px r 2)))), (b 4, .inl (gI G, 10, .inl (fun r => u (px r 3)))), (b 5, .inl (gI G, 10, .inl (fun r => u (px r 4)))), (b 6, .inl (gI G, 60, .inl (fun j => u (px (j / 6) (5 + 3 * (j % 6)))))), (b 7, .inl (gI G, 60, .inl (fun j => u (px (j / 6) (6 + 3 * (j % 6)))))), (b 8, .inl (gI G, 60, .inl (fun j => u (px (j / 6) (7 + 3 * (j % 6))))))]) := hD
  refine lv_aload_n hx hb dX3_copyFrom_63 rfl (lv_at hl 1 rfl) ?_
  refine va_get (D := gD G) (ci := 3) (v := .ref (b 2)) (C := RX3) (T := TX3) (N := 14) hx hb hts hin_X3_copyFrom_X3 hown hKK.1 hP 9 rfl rfl 7 (by decide) (hts _ lk_X3_copyFrom_15) (fun _ h9 => h9) rfl dX3_copyFrom_64 ?_
  refine lv_iconst (v := 0) hx hb dX3_copyFrom_67 (by decide) ?_
  refine lv_aload_n hx hb dX3_copyFrom_68 rfl (lv_at hl 0 rfl) ?_
  refine va_get (D := gD G) (ci := 3) (v := .ref (a 2)) (C := RX3) (T := TX3) (N := 14) hx hb hts hin_X3_copyFrom_X3 hown hKK.1 hP 0 rfl rfl 7 (by decide) (hts _ lk_X3_copyFrom_15) (fun _ h9 => h9) rfl dX3_copyFrom_69 ?_
  refine lv_iconst (v := 0) hx hb dX3_copyFrom_72 (by decide) ?_
  refine lv_bipush (v := 10) hx hb dX3_copyFrom_73 (by decide) ?_
  refine va_copyi hx hb (hml.trans hl.1.symm) hown (hts (.methodLink RX3 55 arraycopyName) (by decide +kernel)) (hts (.native arraycopyName) (by decide +kernel)) (hts (.static arraycopyName) (by decide +kernel)) (hts (.initialized "java/lang/System") (by decide +kernel)) hKK.1 hP hD hS 11 2 0 0 rfl rfl rfl rfl rfl (sp := 0) (dp := 0) (n := 10) (by decide) (by decide) (by decide) (by decide) (by decide) (fun _ _ => rfl) (Nat.le_of_ble_eq_true rfl) (by decide) dX3_copyFrom_75 (fun H locs hP hD hS => ?_)
  rw [cpz0, cpz10] at hP hD
  have hP : gP G ([(a 0, .inr (3, [.int (u 0), .int (u 1), .int (u 2), .int (u 5), .int (u 3), .int (u 4), .ref (a 1), .ref (a 2), .ref (a 3), .ref (a 4), .ref (a 5), .ref (a 6), .ref (a 7), .ref (a 8)])), (a 1, .inl (gI G, 10, .inl (va_cpy (fun r => u (px r 0)) (fun r => v (px r 0)) 0 0 10))), (a 2, .inl (gI G, 10, .inl (va_cpy (fun r => u (px r 1)) (fun r => v (px r 1)) 0 0 10))), (a 3, .inl (gI G, 10, .inl (fun r => v (px r 2)))), (a 4, .inl (gI G, 10, .inl (fun r => v (px r 3)))), (a 5, .inl (gI G, 10, .inl (fun r => v (px r 4)))), (a 6, .inl (gI G, 60, .inl (fun j => v (px (j / 6) (5 + 3 * (j % 6)))))), (a 7, .inl (gI G, 60, .inl (fun j => v (px (j / 6) (6 + 3 * (j % 6)))))), (a 8, .inl (gI G, 60, .inl (fun j => v (px (j / 6) (7 + 3 * (j % 6)))))), (b 0, .inr (3, [.int (u 0), .int (u 1), .int (u 2), .int (u 5), .int (u 3), .int (u 4), .ref (b 1), .ref (b 2), .ref (b 3), .ref (b 4), .ref (b 5), .ref (b 6), .ref (b 7), .ref (b 8)])), (b 1, .inl (gI G, 10, .inl (fun r => u (px r 0)))), (b 2, .inl (gI G, 10, .inl (fun r => u (px r 1)))), (b 3, .inl (gI G, 10, .inl (fun r => u (px r 2)))), (b 4, .inl (gI G, 10, .inl (fun r => u (px r 3)))), (b 5, .inl (gI G, 10, .inl (fun r => u (px r 4)))), (b 6, .inl (gI G, 60, .inl (fun j => u (px (j / 6) (5 + 3 * (j % 6)))))), (b 7, .inl (gI G, 60, .inl (fun j => u (px (j / 6) (6 + 3 * (j % 6)))))), (b 8, .inl (gI G, 60, .inl (fun j => u (px (j / 6) (7 + 3 * (j % 6))))))]) H := hP
  have hD : va_D (aA (List.flatten [rW G a v, rW G b u])) ([(a 0, .inr (3, [.int (u 0), .int (u 1), .int (u 2), .int (u 5), .int (u 3), .int (u 4), .ref (a 1), .ref (a 2), .ref (a 3), .ref (a 4), .ref (a 5), .ref (a 6), .ref (a 7), .ref (a 8)])), (a 1, .inl (gI G, 10, .inl (va_cpy (fun r => u (px r 0)) (fun r => v (px r 0)) 0 0 10))), (a 2, .inl (gI G, 10, .inl (va_cpy (fun r => u (px r 1)) (fun r => v (px r 1)) 0 0 10))), (a 3, .inl (gI G, 10, .inl (fun r => v (px r 2)))), (a 4, .inl (gI G, 10, .inl (fun r => v (px r 3)))), (a 5, .inl (gI G, 10, .inl (fun r => v (px r 4)))), (a 6, .inl (gI G, 60, .inl (fun j => v (px (j / 6) (5 + 3 * (j % 6)))))), (a 7, .inl (gI G, 60, .inl (fun j => v (px (j / 6) (6 + 3 * (j % 6)))))), (a 8, .inl (gI G, 60, .inl (fun j => v (px (j / 6) (7 + 3 * (j % 6)))))), (b 0, .inr (3, [.int (u 0), .int (u 1), .int (u 2), .int (u 5), .int (u 3), .int (u 4), .ref (b 1), .ref (b 2), .ref (b 3), .ref (b 4), .ref (b 5), .ref (b 6), .ref (b 7), .ref (b 8)])), (b 1, .inl (gI G, 10, .inl (fun r => u (px r 0)))), (b 2, .inl (gI G, 10, .inl (fun r => u (px r 1)))), (b 3, .inl (gI G, 10, .inl (fun r => u (px r 2)))), (b 4, .inl (gI G, 10, .inl (fun r => u (px r 3)))), (b 5, .inl (gI G, 10, .inl (fun r => u (px r 4)))), (b 6, .inl (gI G, 60, .inl (fun j => u (px (j / 6) (5 + 3 * (j % 6)))))), (b 7, .inl (gI G, 60, .inl (fun j => u (px (j / 6) (6 + 3 * (j % 6)))))), (b 8, .inl (gI G, 60, .inl (fun j => u (px (j / 6) (7 + 3 * (j % 6))))))]) := hD
  refine lv_aload_n hx hb dX3_copyFrom_78 rfl (lv_at hl 1 rfl) ?_
  refine va_get (D := gD G) (ci := 3) (v := .ref (b 3)) (C := RX3) (T := TX3) (N := 14) hx hb hts hin_X3_copyFrom_X3 hown hKK.1 hP 9 rfl rfl 8 (by decide) (hts _ lk_X3_copyFrom_18) (fun _ h9 => h9) rfl dX3_copyFrom_79 ?_
  refine lv_iconst (v := 0) hx hb dX3_copyFrom_82 (by decide) ?_
  refine lv_aload_n hx hb dX3_copyFrom_83 rfl (lv_at hl 0 rfl) ?_
  refine va_get (D := gD G) (ci := 3) (v := .ref (a 3)) (C := RX3) (T := TX3) (N := 14) hx hb hts hin_X3_copyFrom_X3 hown hKK.1 hP 0 rfl rfl 8 (by decide) (hts _ lk_X3_copyFrom_18) (fun _ h9 => h9) rfl dX3_copyFrom_84 ?_
  refine lv_iconst (v := 0) hx hb dX3_copyFrom_87 (by decide) ?_
  refine lv_bipush (v := 10) hx hb dX3_copyFrom_88 (by decide) ?_
  refine va_copyi hx hb (hml.trans hl.1.symm) hown (hts (.methodLink RX3 55 arraycopyName) (by decide +kernel)) (hts (.native arraycopyName) (by decide +kernel)) (hts (.static arraycopyName) (by decide +kernel)) (hts (.initialized "java/lang/System") (by decide +kernel)) hKK.1 hP hD hS 12 3 0 0 rfl rfl rfl rfl rfl (sp := 0) (dp := 0) (n := 10) (by decide) (by decide) (by decide) (by decide) (by decide) (fun _ _ => rfl) (Nat.le_of_ble_eq_true rfl) (by decide) dX3_copyFrom_90 (fun H locs hP hD hS => ?_)
  rw [cpz0, cpz10] at hP hD
  have hP : gP G ([(a 0, .inr (3, [.int (u 0), .int (u 1), .int (u 2), .int (u 5), .int (u 3), .int (u 4), .ref (a 1), .ref (a 2), .ref (a 3), .ref (a 4), .ref (a 5), .ref (a 6), .ref (a 7), .ref (a 8)])), (a 1, .inl (gI G, 10, .inl (va_cpy (fun r => u (px r 0)) (fun r => v (px r 0)) 0 0 10))), (a 2, .inl (gI G, 10, .inl (va_cpy (fun r => u (px r 1)) (fun r => v (px r 1)) 0 0 10))), (a 3, .inl (gI G, 10, .inl (va_cpy (fun r => u (px r 2)) (fun r => v (px r 2)) 0 0 10))), (a 4, .inl (gI G, 10, .inl (fun r => v (px r 3)))), (a 5, .inl (gI G, 10, .inl (fun r => v (px r 4)))), (a 6, .inl (gI G, 60, .inl (fun j => v (px (j / 6) (5 + 3 * (j % 6)))))), (a 7, .inl (gI G, 60, .inl (fun j => v (px (j / 6) (6 + 3 * (j % 6)))))), (a 8, .inl (gI G, 60, .inl (fun j => v (px (j / 6) (7 + 3 * (j % 6)))))), (b 0, .inr (3, [.int (u 0), .int (u 1), .int (u 2), .int (u 5), .int (u 3), .int (u 4), .ref (b 1), .ref (b 2), .ref (b 3), .ref (b 4), .ref (b 5), .ref (b 6), .ref (b 7), .ref (b 8)])), (b 1, .inl (gI G, 10, .inl (fun r => u (px r 0)))), (b 2, .inl (gI G, 10, .inl (fun r => u (px r 1)))), (b 3, .inl (gI G, 10, .inl (fun r => u (px r 2)))), (b 4, .inl (gI G, 10, .inl (fun r => u (px r 3)))), (b 5, .inl (gI G, 10, .inl (fun r => u (px r 4)))), (b 6, .inl (gI G, 60, .inl (fun j => u (px (j / 6) (5 + 3 * (j % 6)))))), (b 7, .inl (gI G, 60, .inl (fun j => u (px (j / 6) (6 + 3 * (j % 6)))))), (b 8, .inl (gI G, 60, .inl (fun j => u (px (j / 6) (7 + 3 * (j % 6))))))]) H := hP
  have hD : va_D (aA (List.flatten [rW G a v, rW G b u])) ([(a 0, .inr (3, [.int (u 0), .int (u 1), .int (u 2), .int (u 5), .int (u 3), .int (u 4), .ref (a 1), .ref (a 2), .ref (a 3), .ref (a 4), .ref (a 5), .ref (a 6), .ref (a 7), .ref (a 8)])), (a 1, .inl (gI G, 10, .inl (va_cpy (fun r => u (px r 0)) (fun r => v (px r 0)) 0 0 10))), (a 2, .inl (gI G, 10, .inl (va_cpy (fun r => u (px r 1)) (fun r => v (px r 1)) 0 0 10))), (a 3, .inl (gI G, 10, .inl (va_cpy (fun r => u (px r 2)) (fun r => v (px r 2)) 0 0 10))), (a 4, .inl (gI G, 10, .inl (fun r => v (px r 3)))), (a 5, .inl (gI G, 10, .inl (fun r => v (px r 4)))), (a 6, .inl (gI G, 60, .inl (fun j => v (px (j / 6) (5 + 3 * (j % 6)))))), (a 7, .inl (gI G, 60, .inl (fun j => v (px (j / 6) (6 + 3 * (j % 6)))))), (a 8, .inl (gI G, 60, .inl (fun j => v (px (j / 6) (7 + 3 * (j % 6)))))), (b 0, .inr (3, [.int (u 0), .int (u 1), .int (u 2), .int (u 5), .int (u 3), .int (u 4), .ref (b 1), .ref (b 2), .ref (b 3), .ref (b 4), .ref (b 5), .ref (b 6), .ref (b 7), .ref (b 8)])), (b 1, .inl (gI G, 10, .inl (fun r => u (px r 0)))), (b 2, .inl (gI G, 10, .inl (fun r => u (px r 1)))), (b 3, .inl (gI G, 10, .inl (fun r => u (px r 2)))), (b 4, .inl (gI G, 10, .inl (fun r => u (px r 3)))), (b 5, .inl (gI G, 10, .inl (fun r => u (px r 4)))), (b 6, .inl (gI G, 60, .inl (fun j => u (px (j / 6) (5 + 3 * (j % 6)))))), (b 7, .inl (gI G, 60, .inl (fun j => u (px (j / 6) (6 + 3 * (j % 6)))))), (b 8, .inl (gI G, 60, .inl (fun j => u (px (j / 6) (7 + 3 * (j % 6))))))]) := hD
  refine lv_aload_n hx hb dX3_copyFrom_93 rfl (lv_at hl 1 rfl) ?_
  refine va_get (D := gD G) (ci := 3) (v := .ref (b 4)) (C := RX3) (T := TX3) (N := 14) hx hb hts hin_X3_copyFrom_X3 hown hKK.1 hP 9 rfl rfl 9 (by decide) (hts _ lk_X3_copyFrom_21) (fun _ h9 => h9) rfl dX3_copyFrom_94 ?_
  refine lv_iconst (v := 0) hx hb dX3_copyFrom_97 (by decide) ?_
  refine lv_aload_n hx hb dX3_copyFrom_98 rfl (lv_at hl 0 rfl) ?_
  refine va_get (D := gD G) (ci := 3) (v := .ref (a 4)) (C := RX3) (T := TX3) (N := 14) hx hb hts hin_X3_copyFrom_X3 hown hKK.1 hP 0 rfl rfl 9 (by decide) (hts _ lk_X3_copyFrom_21) (fun _ h9 => h9) rfl dX3_copyFrom_99 ?_
  refine lv_iconst (v := 0) hx hb dX3_copyFrom_102 (by decide) ?_
  refine lv_bipush (v := 10) hx hb dX3_copyFrom_103 (by decide) ?_
  refine va_copyi hx hb (hml.trans hl.1.symm) hown (hts (.methodLink RX3 55 arraycopyName) (by decide +kernel)) (hts (.native arraycopyName) (by decide +kernel)) (hts (.static arraycopyName) (by decide +kernel)) (hts (.initialized "java/lang/System") (by decide +kernel)) hKK.1 hP hD hS 13 4 0 0 rfl rfl rfl rfl rfl (sp := 0) (dp := 0) (n := 10) (by decide) (by decide) (by decide) (by decide) (by decide) (fun _ _ => rfl) (Nat.le_of_ble_eq_true rfl) (by decide) dX3_copyFrom_105 (fun H locs hP hD hS => ?_)
  rw [cpz0, cpz10] at hP hD
  have hP : gP G ([(a 0, .inr (3, [.int (u 0), .int (u 1), .int (u 2), .int (u 5), .int (u 3), .int (u 4), .ref (a 1), .ref (a 2), .ref (a 3), .ref (a 4), .ref (a 5), .ref (a 6), .ref (a 7), .ref (a 8)])), (a 1, .inl (gI G, 10, .inl (va_cpy (fun r => u (px r 0)) (fun r => v (px r 0)) 0 0 10))), (a 2, .inl (gI G, 10, .inl (va_cpy (fun r => u (px r 1)) (fun r => v (px r 1)) 0 0 10))), (a 3, .inl (gI G, 10, .inl (va_cpy (fun r => u (px r 2)) (fun r => v (px r 2)) 0 0 10))), (a 4, .inl (gI G, 10, .inl (va_cpy (fun r => u (px r 3)) (fun r => v (px r 3)) 0 0 10))), (a 5, .inl (gI G, 10, .inl (fun r => v (px r 4)))), (a 6, .inl (gI G, 60, .inl (fun j => v (px (j / 6) (5 + 3 * (j % 6)))))), (a 7, .inl (gI G, 60, .inl (fun j => v (px (j / 6) (6 + 3 * (j % 6)))))), (a 8, .inl (gI G, 60, .inl (fun j => v (px (j / 6) (7 + 3 * (j % 6)))))), (b 0, .inr (3, [.int (u 0), .int (u 1), .int (u 2), .int (u 5), .int (u 3), .int (u 4), .ref (b 1), .ref (b 2), .ref (b 3), .ref (b 4), .ref (b 5), .ref (b 6), .ref (b 7), .ref (b 8)])), (b 1, .inl (gI G, 10, .inl (fun r => u (px r 0)))), (b 2, .inl (gI G, 10, .inl (fun r => u (px r 1)))), (b 3, .inl (gI G, 10, .inl (fun r => u (px r 2)))), (b 4, .inl (gI G, 10, .inl (fun r => u (px r 3)))), (b 5, .inl (gI G, 10, .inl (fun r => u (px r 4)))), (b 6, .inl (gI G, 60, .inl (fun j => u (px (j / 6) (5 + 3 * (j % 6)))))), (b 7, .inl (gI G, 60, .inl (fun j => u (px (j / 6) (6 + 3 * (j % 6)))))), (b 8, .inl (gI G, 60, .inl (fun j => u (px (j / 6) (7 + 3 * (j % 6))))))]) H := hP
  have hD : va_D (aA (List.flatten [rW G a v, rW G b u])) ([(a 0, .inr (3, [.int (u 0), .int (u 1), .int (u 2), .int (u 5), .int (u 3), .int (u 4), .ref (a 1), .ref (a 2), .ref (a 3), .ref (a 4), .ref (a 5), .ref (a 6), .ref (a 7), .ref (a 8)])), (a 1, .inl (gI G, 10, .inl (va_cpy (fun r => u (px r 0)) (fun r => v (px r 0)) 0 0 10))), (a 2, .inl (gI G, 10, .inl (va_cpy (fun r => u (px r 1)) (fun r => v (px r 1)) 0 0 10))), (a 3, .inl (gI G, 10, .inl (va_cpy (fun r => u (px r 2)) (fun r => v (px r 2)) 0 0 10))), (a 4, .inl (gI G, 10, .inl (va_cpy (fun r => u (px r 3)) (fun r => v (px r 3)) 0 0 10))), (a 5, .inl (gI G, 10, .inl (fun r => v (px r 4)))), (a 6, .inl (gI G, 60, .inl (fun j => v (px (j / 6) (5 + 3 * (j % 6)))))), (a 7, .inl (gI G, 60, .inl (fun j => v (px (j / 6) (6 + 3 * (j % 6)))))), (a 8, .inl (gI G, 60, .inl (fun j => v (px (j / 6) (7 + 3 * (j % 6)))))), (b 0, .inr (3, [.int (u 0), .int (u 1), .int (u 2), .int (u 5), .int (u 3), .int (u 4), .ref (b 1), .ref (b 2), .ref (b 3), .ref (b 4), .ref (b 5), .ref (b 6), .ref (b 7), .ref (b 8)])), (b 1, .inl (gI G, 10, .inl (fun r => u (px r 0)))), (b 2, .inl (gI G, 10, .inl (fun r => u (px r 1)))), (b 3, .inl (gI G, 10, .inl (fun r => u (px r 2)))), (b 4, .inl (gI G, 10, .inl (fun r => u (px r 3)))), (b 5, .inl (gI G, 10, .inl (fun r => u (px r 4)))), (b 6, .inl (gI G, 60, .inl (fun j => u (px (j / 6) (5 + 3 * (j % 6)))))), (b 7, .inl (gI G, 60, .inl (fun j => u (px (j / 6) (6 + 3 * (j % 6)))))), (b 8, .inl (gI G, 60, .inl (fun j => u (px (j / 6) (7 + 3 * (j % 6))))))]) := hD
  refine lv_aload_n hx hb dX3_copyFrom_108 rfl (lv_at hl 1 rfl) ?_
  refine va_get (D := gD G) (ci := 3) (v := .ref (b 5)) (C := RX3) (T := TX3) (N := 14) hx hb hts hin_X3_copyFrom_X3 hown hKK.1 hP 9 rfl rfl 10 (by decide) (hts _ lk_X3_copyFrom_24) (fun _ h9 => h9) rfl dX3_copyFrom_109 ?_
  refine lv_iconst (v := 0) hx hb dX3_copyFrom_112 (by decide) ?_
  refine lv_aload_n hx hb dX3_copyFrom_113 rfl (lv_at hl 0 rfl) ?_
  refine va_get (D := gD G) (ci := 3) (v := .ref (a 5)) (C := RX3) (T := TX3) (N := 14) hx hb hts hin_X3_copyFrom_X3 hown hKK.1 hP 0 rfl rfl 10 (by decide) (hts _ lk_X3_copyFrom_24) (fun _ h9 => h9) rfl dX3_copyFrom_114 ?_
  refine lv_iconst (v := 0) hx hb dX3_copyFrom_117 (by decide) ?_
  refine lv_bipush (v := 10) hx hb dX3_copyFrom_118 (by decide) ?_
  refine va_copyi hx hb (hml.trans hl.1.symm) hown (hts (.methodLink RX3 55 arraycopyName) (by decide +kernel)) (hts (.native arraycopyName) (by decide +kernel)) (hts (.static arraycopyName) (by decide +kernel)) (hts (.initialized "java/lang/System") (by decide +kernel)) hKK.1 hP hD hS 14 5 0 0 rfl rfl rfl rfl rfl (sp := 0) (dp := 0) (n := 10) (by decide) (by decide) (by decide) (by decide) (by decide) (fun _ _ => rfl) (Nat.le_of_ble_eq_true rfl) (by decide) dX3_copyFrom_120 (fun H locs hP hD hS => ?_)
  rw [cpz0, cpz10] at hP hD
  have hP : gP G ([(a 0, .inr (3, [.int (u 0), .int (u 1), .int (u 2), .int (u 5), .int (u 3), .int (u 4), .ref (a 1), .ref (a 2), .ref (a 3), .ref (a 4), .ref (a 5), .ref (a 6), .ref (a 7), .ref (a 8)])), (a 1, .inl (gI G, 10, .inl (va_cpy (fun r => u (px r 0)) (fun r => v (px r 0)) 0 0 10))), (a 2, .inl (gI G, 10, .inl (va_cpy (fun r => u (px r 1)) (fun r => v (px r 1)) 0 0 10))), (a 3, .inl (gI G, 10, .inl (va_cpy (fun r => u (px r 2)) (fun r => v (px r 2)) 0 0 10))), (a 4, .inl (gI G, 10, .inl (va_cpy (fun r => u (px r 3)) (fun r => v (px r 3)) 0 0 10))), (a 5, .inl (gI G, 10, .inl (va_cpy (fun r => u (px r 4)) (fun r => v (px r 4)) 0 0 10))), (a 6, .inl (gI G, 60, .inl (fun j => v (px (j / 6) (5 + 3 * (j % 6)))))), (a 7, .inl (gI G, 60, .inl (fun j => v (px (j / 6) (6 + 3 * (j % 6)))))), (a 8, .inl (gI G, 60, .inl (fun j => v (px (j / 6) (7 + 3 * (j % 6)))))), (b 0, .inr (3, [.int (u 0), .int (u 1), .int (u 2), .int (u 5), .int (u 3), .int (u 4), .ref (b 1), .ref (b 2), .ref (b 3), .ref (b 4), .ref (b 5), .ref (b 6), .ref (b 7), .ref (b 8)])), (b 1, .inl (gI G, 10, .inl (fun r => u (px r 0)))), (b 2, .inl (gI G, 10, .inl (fun r => u (px r 1)))), (b 3, .inl (gI G, 10, .inl (fun r => u (px r 2)))), (b 4, .inl (gI G, 10, .inl (fun r => u (px r 3)))), (b 5, .inl (gI G, 10, .inl (fun r => u (px r 4)))), (b 6, .inl (gI G, 60, .inl (fun j => u (px (j / 6) (5 + 3 * (j % 6)))))), (b 7, .inl (gI G, 60, .inl (fun j => u (px (j / 6) (6 + 3 * (j % 6)))))), (b 8, .inl (gI G, 60, .inl (fun j => u (px (j / 6) (7 + 3 * (j % 6))))))]) H := hP
  have hD : va_D (aA (List.flatten [rW G a v, rW G b u])) ([(a 0, .inr (3, [.int (u 0), .int (u 1), .int (u 2), .int (u 5), .int (u 3), .int (u 4), .ref (a 1), .ref (a 2), .ref (a 3), .ref (a 4), .ref (a 5), .ref (a 6), .ref (a 7), .ref (a 8)])), (a 1, .inl (gI G, 10, .inl (va_cpy (fun r => u (px r 0)) (fun r => v (px r 0)) 0 0 10))), (a 2, .inl (gI G, 10, .inl (va_cpy (fun r => u (px r 1)) (fun r => v (px r 1)) 0 0 10))), (a 3, .inl (gI G, 10, .inl (va_cpy (fun r => u (px r 2)) (fun r => v (px r 2)) 0 0 10))), (a 4, .inl (gI G, 10, .inl (va_cpy (fun r => u (px r 3)) (fun r => v (px r 3)) 0 0 10))), (a 5, .inl (gI G, 10, .inl (va_cpy (fun r => u (px r 4)) (fun r => v (px r 4)) 0 0 10))), (a 6, .inl (gI G, 60, .inl (fun j => v (px (j / 6) (5 + 3 * (j % 6)))))), (a 7, .inl (gI G, 60, .inl (fun j => v (px (j / 6) (6 + 3 * (j % 6)))))), (a 8, .inl (gI G, 60, .inl (fun j => v (px (j / 6) (7 + 3 * (j % 6)))))), (b 0, .inr (3, [.int (u 0), .int (u 1), .int (u 2), .int (u 5), .int (u 3), .int (u 4), .ref (b 1), .ref (b 2), .ref (b 3), .ref (b 4), .ref (b 5), .ref (b 6), .ref (b 7), .ref (b 8)])), (b 1, .inl (gI G, 10, .inl (fun r => u (px r 0)))), (b 2, .inl (gI G, 10, .inl (fun r => u (px r 1)))), (b 3, .inl (gI G, 10, .inl (fun r => u (px r 2)))), (b 4, .inl (gI G, 10, .inl (fun r => u (px r 3)))), (b 5, .inl (gI G, 10, .inl (fun r => u (px r 4)))), (b 6, .inl (gI G, 60, .inl (fun j => u (px (j / 6) (5 + 3 * (j % 6)))))), (b 7, .inl (gI G, 60, .inl (fun j => u (px (j / 6) (6 + 3 * (j % 6)))))), (b 8, .inl (gI G, 60, .inl (fun j => u (px (j / 6) (7 + 3 * (j % 6))))))]) := hD
  refine lv_aload_n hx hb dX3_copyFrom_123 rfl (lv_at hl 1 rfl) ?_
  refine va_get (D := gD G) (ci := 3) (v := .ref (b 6)) (C := RX3) (T := TX3) (N := 14) hx hb hts hin_X3_copyFrom_X3 hown hKK.1 hP 9 rfl rfl 11 (by decide) (hts _ lk_X3_copyFrom_27) (fun _ h9 => h9) rfl dX3_copyFrom_124 ?_
  refine lv_iconst (v := 0) hx hb dX3_copyFrom_127 (by decide) ?_
  refine lv_aload_n hx hb dX3_copyFrom_128 rfl (lv_at hl 0 rfl) ?_
  refine va_get (D := gD G) (ci := 3) (v := .ref (a 6)) (C := RX3) (T := TX3) (N := 14) hx hb hts hin_X3_copyFrom_X3 hown hKK.1 hP 0 rfl rfl 11 (by decide) (hts _ lk_X3_copyFrom_27) (fun _ h9 => h9) rfl dX3_copyFrom_129 ?_
  refine lv_iconst (v := 0) hx hb dX3_copyFrom_132 (by decide) ?_
  refine lv_bipush (v := 60) hx hb dX3_copyFrom_133 (by decide) ?_
  refine va_copyi hx hb (hml.trans hl.1.symm) hown (hts (.methodLink RX3 55 arraycopyName) (by decide +kernel)) (hts (.native arraycopyName) (by decide +kernel)) (hts (.static arraycopyName) (by decide +kernel)) (hts (.initialized "java/lang/System") (by decide +kernel)) hKK.1 hP hD hS 15 6 0 0 rfl rfl rfl rfl rfl (sp := 0) (dp := 0) (n := 60) (by decide) (by decide) (by decide) (by decide) (by decide) (fun _ _ => rfl) (Nat.le_of_ble_eq_true rfl) (by decide) dX3_copyFrom_135 (fun H locs hP hD hS => ?_)
  rw [cpz0, cpz60] at hP hD
  have hP : gP G ([(a 0, .inr (3, [.int (u 0), .int (u 1), .int (u 2), .int (u 5), .int (u 3), .int (u 4), .ref (a 1), .ref (a 2), .ref (a 3), .ref (a 4), .ref (a 5), .ref (a 6), .ref (a 7), .ref (a 8)])), (a 1, .inl (gI G, 10, .inl (va_cpy (fun r => u (px r 0)) (fun r => v (px r 0)) 0 0 10))), (a 2, .inl (gI G, 10, .inl (va_cpy (fun r => u (px r 1)) (fun r => v (px r 1)) 0 0 10))), (a 3, .inl (gI G, 10, .inl (va_cpy (fun r => u (px r 2)) (fun r => v (px r 2)) 0 0 10))), (a 4, .inl (gI G, 10, .inl (va_cpy (fun r => u (px r 3)) (fun r => v (px r 3)) 0 0 10))), (a 5, .inl (gI G, 10, .inl (va_cpy (fun r => u (px r 4)) (fun r => v (px r 4)) 0 0 10))), (a 6, .inl (gI G, 60, .inl (va_cpy (fun j => u (px (j / 6) (5 + 3 * (j % 6)))) (fun j => v (px (j / 6) (5 + 3 * (j % 6)))) 0 0 60))), (a 7, .inl (gI G, 60, .inl (fun j => v (px (j / 6) (6 + 3 * (j % 6)))))), (a 8, .inl (gI G, 60, .inl (fun j => v (px (j / 6) (7 + 3 * (j % 6)))))), (b 0, .inr (3, [.int (u 0), .int (u 1), .int (u 2), .int (u 5), .int (u 3), .int (u 4), .ref (b 1), .ref (b 2), .ref (b 3), .ref (b 4), .ref (b 5), .ref (b 6), .ref (b 7), .ref (b 8)])), (b 1, .inl (gI G, 10, .inl (fun r => u (px r 0)))), (b 2, .inl (gI G, 10, .inl (fun r => u (px r 1)))), (b 3, .inl (gI G, 10, .inl (fun r => u (px r 2)))), (b 4, .inl (gI G, 10, .inl (fun r => u (px r 3)))), (b 5, .inl (gI G, 10, .inl (fun r => u (px r 4)))), (b 6, .inl (gI G, 60, .inl (fun j => u (px (j / 6) (5 + 3 * (j % 6)))))), (b 7, .inl (gI G, 60, .inl (fun j => u (px (j / 6) (6 + 3 * (j % 6)))))), (b 8, .inl (gI G, 60, .inl (fun j => u (px (j / 6) (7 + 3 * (j % 6))))))]) H := hP
  have hD : va_D (aA (List.flatten [rW G a v, rW G b u])) ([(a 0, .inr (3, [.int (u 0), .int (u 1), .int (u 2), .int (u 5), .int (u 3), .int (u 4), .ref (a 1), .ref (a 2), .ref (a 3), .ref (a 4), .ref (a 5), .ref (a 6), .ref (a 7), .ref (a 8)])), (a 1, .inl (gI G, 10, .inl (va_cpy (fun r => u (px r 0)) (fun r => v (px r 0)) 0 0 10))), (a 2, .inl (gI G, 10, .inl (va_cpy (fun r => u (px r 1)) (fun r => v (px r 1)) 0 0 10))), (a 3, .inl (gI G, 10, .inl (va_cpy (fun r => u (px r 2)) (fun r => v (px r 2)) 0 0 10))), (a 4, .inl (gI G, 10, .inl (va_cpy (fun r => u (px r 3)) (fun r => v (px r 3)) 0 0 10))), (a 5, .inl (gI G, 10, .inl (va_cpy (fun r => u (px r 4)) (fun r => v (px r 4)) 0 0 10))), (a 6, .inl (gI G, 60, .inl (va_cpy (fun j => u (px (j / 6) (5 + 3 * (j % 6)))) (fun j => v (px (j / 6) (5 + 3 * (j % 6)))) 0 0 60))), (a 7, .inl (gI G, 60, .inl (fun j => v (px (j / 6) (6 + 3 * (j % 6)))))), (a 8, .inl (gI G, 60, .inl (fun j => v (px (j / 6) (7 + 3 * (j % 6)))))), (b 0, .inr (3, [.int (u 0), .int (u 1), .int (u 2), .int (u 5), .int (u 3), .int (u 4), .ref (b 1), .ref (b 2), .ref (b 3), .ref (b 4), .ref (b 5), .ref (b 6), .ref (b 7), .ref (b 8)])), (b 1, .inl (gI G, 10, .inl (fun r => u (px r 0)))), (b 2, .inl (gI G, 10, .inl (fun r => u (px r 1)))), (b 3, .inl (gI G, 10, .inl (fun r => u (px r 2)))), (b 4, .inl (gI G, 10, .inl (fun r => u (px r 3)))), (b 5, .inl (gI G, 10, .inl (fun r => u (px r 4)))), (b 6, .inl (gI G, 60, .inl (fun j => u (px (j / 6) (5 + 3 * (j % 6)))))), (b 7, .inl (gI G, 60, .inl (fun j => u (px (j / 6) (6 + 3 * (j % 6)))))), (b 8, .inl (gI G, 60, .inl (fun j => u (px (j / 6) (7 + 3 * (j % 6))))))]) := hD
  refine lv_aload_n hx hb dX3_copyFrom_138 rfl (lv_at hl 1 rfl) ?_
  refine va_get (D := gD G) (ci := 3) (v := .ref (b 7)) (C := RX3) (T := TX3) (N := 14) hx hb hts hin_X3_copyFrom_X3 hown hKK.1 hP 9 rfl rfl 12 (by decide) (hts _ lk_X3_copyFrom_30) (fun _ h9 => h9) rfl dX3_copyFrom_139 ?_
  refine lv_iconst (v := 0) hx hb dX3_copyFrom_142 (by decide) ?_
  refine lv_aload_n hx hb dX3_copyFrom_143 rfl (lv_at hl 0 rfl) ?_
  refine va_get (D := gD G) (ci := 3) (v := .ref (a 7)) (C := RX3) (T := TX3) (N := 14) hx hb hts hin_X3_copyFrom_X3 hown hKK.1 hP 0 rfl rfl 12 (by decide) (hts _ lk_X3_copyFrom_30) (fun _ h9 => h9) rfl dX3_copyFrom_144 ?_
  refine lv_iconst (v := 0) hx hb dX3_copyFrom_147 (by decide) ?_
  refine lv_bipush (v := 60) hx hb dX3_copyFrom_148 (by decide) ?_
  refine va_copyi hx hb (hml.trans hl.1.symm) hown (hts (.methodLink RX3 55 arraycopyName) (by decide +kernel)) (hts (.native arraycopyName) (by decide +kernel)) (hts (.static arraycopyName) (by decide +kernel)) (hts (.initialized "java/lang/System") (by decide +kernel)) hKK.1 hP hD hS 16 7 0 0 rfl rfl rfl rfl rfl (sp := 0) (dp := 0) (n := 60) (by decide) (by decide) (by decide) (by decide) (by decide) (fun _ _ => rfl) (Nat.le_of_ble_eq_true rfl) (by decide) dX3_copyFrom_150 (fun H locs hP hD hS => ?_)
  rw [cpz0, cpz60] at hP hD
  have hP : gP G ([(a 0, .inr (3, [.int (u 0), .int (u 1), .int (u 2), .int (u 5), .int (u 3), .int (u 4), .ref (a 1), .ref (a 2), .ref (a 3), .ref (a 4), .ref (a 5), .ref (a 6), .ref (a 7), .ref (a 8)])), (a 1, .inl (gI G, 10, .inl (va_cpy (fun r => u (px r 0)) (fun r => v (px r 0)) 0 0 10))), (a 2, .inl (gI G, 10, .inl (va_cpy (fun r => u (px r 1)) (fun r => v (px r 1)) 0 0 10))), (a 3, .inl (gI G, 10, .inl (va_cpy (fun r => u (px r 2)) (fun r => v (px r 2)) 0 0 10))), (a 4, .inl (gI G, 10, .inl (va_cpy (fun r => u (px r 3)) (fun r => v (px r 3)) 0 0 10))), (a 5, .inl (gI G, 10, .inl (va_cpy (fun r => u (px r 4)) (fun r => v (px r 4)) 0 0 10))), (a 6, .inl (gI G, 60, .inl (va_cpy (fun j => u (px (j / 6) (5 + 3 * (j % 6)))) (fun j => v (px (j / 6) (5 + 3 * (j % 6)))) 0 0 60))), (a 7, .inl (gI G, 60, .inl (va_cpy (fun j => u (px (j / 6) (6 + 3 * (j % 6)))) (fun j => v (px (j / 6) (6 + 3 * (j % 6)))) 0 0 60))), (a 8, .inl (gI G, 60, .inl (fun j => v (px (j / 6) (7 + 3 * (j % 6)))))), (b 0, .inr (3, [.int (u 0), .int (u 1), .int (u 2), .int (u 5), .int (u 3), .int (u 4), .ref (b 1), .ref (b 2), .ref (b 3), .ref (b 4), .ref (b 5), .ref (b 6), .ref (b 7), .ref (b 8)])), (b 1, .inl (gI G, 10, .inl (fun r => u (px r 0)))), (b 2, .inl (gI G, 10, .inl (fun r => u (px r 1)))), (b 3, .inl (gI G, 10, .inl (fun r => u (px r 2)))), (b 4, .inl (gI G, 10, .inl (fun r => u (px r 3)))), (b 5, .inl (gI G, 10, .inl (fun r => u (px r 4)))), (b 6, .inl (gI G, 60, .inl (fun j => u (px (j / 6) (5 + 3 * (j % 6)))))), (b 7, .inl (gI G, 60, .inl (fun j => u (px (j / 6) (6 + 3 * (j % 6)))))), (b 8, .inl (gI G, 60, .inl (fun j => u (px (j / 6) (7 + 3 * (j % 6))))))]) H := hP
  have hD : va_D (aA (List.flatten [rW G a v, rW G b u])) ([(a 0, .inr (3, [.int (u 0), .int (u 1), .int (u 2), .int (u 5), .int (u 3), .int (u 4), .ref (a 1), .ref (a 2), .ref (a 3), .ref (a 4), .ref (a 5), .ref (a 6), .ref (a 7), .ref (a 8)])), (a 1, .inl (gI G, 10, .inl (va_cpy (fun r => u (px r 0)) (fun r => v (px r 0)) 0 0 10))), (a 2, .inl (gI G, 10, .inl (va_cpy (fun r => u (px r 1)) (fun r => v (px r 1)) 0 0 10))), (a 3, .inl (gI G, 10, .inl (va_cpy (fun r => u (px r 2)) (fun r => v (px r 2)) 0 0 10))), (a 4, .inl (gI G, 10, .inl (va_cpy (fun r => u (px r 3)) (fun r => v (px r 3)) 0 0 10))), (a 5, .inl (gI G, 10, .inl (va_cpy (fun r => u (px r 4)) (fun r => v (px r 4)) 0 0 10))), (a 6, .inl (gI G, 60, .inl (va_cpy (fun j => u (px (j / 6) (5 + 3 * (j % 6)))) (fun j => v (px (j / 6) (5 + 3 * (j % 6)))) 0 0 60))), (a 7, .inl (gI G, 60, .inl (va_cpy (fun j => u (px (j / 6) (6 + 3 * (j % 6)))) (fun j => v (px (j / 6) (6 + 3 * (j % 6)))) 0 0 60))), (a 8, .inl (gI G, 60, .inl (fun j => v (px (j / 6) (7 + 3 * (j % 6)))))), (b 0, .inr (3, [.int (u 0), .int (u 1), .int (u 2), .int (u 5), .int (u 3), .int (u 4), .ref (b 1), .ref (b 2), .ref (b 3), .ref (b 4), .ref (b 5), .ref (b 6), .ref (b 7), .ref (b 8)])), (b 1, .inl (gI G, 10, .inl (fun r => u (px r 0)))), (b 2, .inl (gI G, 10, .inl (fun r => u (px r 1)))), (b 3, .inl (gI G, 10, .inl (fun r => u (px r 2)))), (b 4, .inl (gI G, 10, .inl (fun r => u (px r 3)))), (b 5, .inl (gI G, 10, .inl (fun r => u (px r 4)))), (b 6, .inl (gI G, 60, .inl (fun j => u (px (j / 6) (5 + 3 * (j % 6)))))), (b 7, .inl (gI G, 60, .inl (fun j => u (px (j / 6) (6 + 3 * (j % 6)))))), (b 8, .inl (gI G, 60, .inl (fun j => u (px (j / 6) (7 + 3 * (j % 6))))))]) := hD
  refine lv_aload_n hx hb dX3_copyFrom_153 rfl (lv_at hl 1 rfl) ?_
  refine va_get (D := gD G) (ci := 3) (v := .ref (b 8)) (C := RX3) (T := TX3) (N := 14) hx hb hts hin_X3_copyFrom_X3 hown hKK.1 hP 9 rfl rfl 13 (by decide) (hts _ lk_X3_copyFrom_33) (fun _ h9 => h9) rfl dX3_copyFrom_154 ?_
  refine lv_iconst (v := 0) hx hb dX3_copyFrom_157 (by decide) ?_
  refine lv_aload_n hx hb dX3_copyFrom_158 rfl (lv_at hl 0 rfl) ?_
  refine va_get (D := gD G) (ci := 3) (v := .ref (a 8)) (C := RX3) (T := TX3) (N := 14) hx hb hts hin_X3_copyFrom_X3 hown hKK.1 hP 0 rfl rfl 13 (by decide) (hts _ lk_X3_copyFrom_33) (fun _ h9 => h9) rfl dX3_copyFrom_159 ?_
  refine lv_iconst (v := 0) hx hb dX3_copyFrom_162 (by decide) ?_
  refine lv_bipush (v := 60) hx hb dX3_copyFrom_163 (by decide) ?_
  refine va_copyi hx hb (hml.trans hl.1.symm) hown (hts (.methodLink RX3 55 arraycopyName) (by decide +kernel)) (hts (.native arraycopyName) (by decide +kernel)) (hts (.static arraycopyName) (by decide +kernel)) (hts (.initialized "java/lang/System") (by decide +kernel)) hKK.1 hP hD hS 17 8 0 0 rfl rfl rfl rfl rfl (sp := 0) (dp := 0) (n := 60) (by decide) (by decide) (by decide) (by decide) (by decide) (fun _ _ => rfl) (Nat.le_of_ble_eq_true rfl) (by decide) dX3_copyFrom_165 (fun H locs hP hD hS => ?_)
  rw [cpz0, cpz60] at hP hD
  have hP : gP G ([(a 0, .inr (3, [.int (u 0), .int (u 1), .int (u 2), .int (u 5), .int (u 3), .int (u 4), .ref (a 1), .ref (a 2), .ref (a 3), .ref (a 4), .ref (a 5), .ref (a 6), .ref (a 7), .ref (a 8)])), (a 1, .inl (gI G, 10, .inl (va_cpy (fun r => u (px r 0)) (fun r => v (px r 0)) 0 0 10))), (a 2, .inl (gI G, 10, .inl (va_cpy (fun r => u (px r 1)) (fun r => v (px r 1)) 0 0 10))), (a 3, .inl (gI G, 10, .inl (va_cpy (fun r => u (px r 2)) (fun r => v (px r 2)) 0 0 10))), (a 4, .inl (gI G, 10, .inl (va_cpy (fun r => u (px r 3)) (fun r => v (px r 3)) 0 0 10))), (a 5, .inl (gI G, 10, .inl (va_cpy (fun r => u (px r 4)) (fun r => v (px r 4)) 0 0 10))), (a 6, .inl (gI G, 60, .inl (va_cpy (fun j => u (px (j / 6) (5 + 3 * (j % 6)))) (fun j => v (px (j / 6) (5 + 3 * (j % 6)))) 0 0 60))), (a 7, .inl (gI G, 60, .inl (va_cpy (fun j => u (px (j / 6) (6 + 3 * (j % 6)))) (fun j => v (px (j / 6) (6 + 3 * (j % 6)))) 0 0 60))), (a 8, .inl (gI G, 60, .inl (va_cpy (fun j => u (px (j / 6) (7 + 3 * (j % 6)))) (fun j => v (px (j / 6) (7 + 3 * (j % 6)))) 0 0 60))), (b 0, .inr (3, [.int (u 0), .int (u 1), .int (u 2), .int (u 5), .int (u 3), .int (u 4), .ref (b 1), .ref (b 2), .ref (b 3), .ref (b 4), .ref (b 5), .ref (b 6), .ref (b 7), .ref (b 8)])), (b 1, .inl (gI G, 10, .inl (fun r => u (px r 0)))), (b 2, .inl (gI G, 10, .inl (fun r => u (px r 1)))), (b 3, .inl (gI G, 10, .inl (fun r => u (px r 2)))), (b 4, .inl (gI G, 10, .inl (fun r => u (px r 3)))), (b 5, .inl (gI G, 10, .inl (fun r => u (px r 4)))), (b 6, .inl (gI G, 60, .inl (fun j => u (px (j / 6) (5 + 3 * (j % 6)))))), (b 7, .inl (gI G, 60, .inl (fun j => u (px (j / 6) (6 + 3 * (j % 6)))))), (b 8, .inl (gI G, 60, .inl (fun j => u (px (j / 6) (7 + 3 * (j % 6))))))]) H := hP
  have hD : va_D (aA (List.flatten [rW G a v, rW G b u])) ([(a 0, .inr (3, [.int (u 0), .int (u 1), .int (u 2), .int (u 5), .int (u 3), .int (u 4), .ref (a 1), .ref (a 2), .ref (a 3), .ref (a 4), .ref (a 5), .ref (a 6), .ref (a 7), .ref (a 8)])), (a 1, .inl (gI G, 10, .inl (va_cpy (fun r => u (px r 0)) (fun r => v (px r 0)) 0 0 10))), (a 2, .inl (gI G, 10, .inl (va_cpy (fun r => u (px r 1)) (fun r => v (px r 1)) 0 0 10))), (a 3, .inl (gI G, 10, .inl (va_cpy (fun r => u (px r 2)) (fun r => v (px r 2)) 0 0 10))), (a 4, .inl (gI G, 10, .inl (va_cpy (fun r => u (px r 3)) (fun r => v (px r 3)) 0 0 10))), (a 5, .inl (gI G, 10, .inl (va_cpy (fun r => u (px r 4)) (fun r => v (px r 4)) 0 0 10))), (a 6, .inl (gI G, 60, .inl (va_cpy (fun j => u (px (j / 6) (5 + 3 * (j % 6)))) (fun j => v (px (j / 6) (5 + 3 * (j % 6)))) 0 0 60))), (a 7, .inl (gI G, 60, .inl (va_cpy (fun j => u (px (j / 6) (6 + 3 * (j % 6)))) (fun j => v (px (j / 6) (6 + 3 * (j % 6)))) 0 0 60))), (a 8, .inl (gI G, 60, .inl (va_cpy (fun j => u (px (j / 6) (7 + 3 * (j % 6)))) (fun j => v (px (j / 6) (7 + 3 * (j % 6)))) 0 0 60))), (b 0, .inr (3, [.int (u 0), .int (u 1), .int (u 2), .int (u 5), .int (u 3), .int (u 4), .ref (b 1), .ref (b 2), .ref (b 3), .ref (b 4), .ref (b 5), .ref (b 6), .ref (b 7), .ref (b 8)])), (b 1, .inl (gI G, 10, .inl (fun r => u (px r 0)))), (b 2, .inl (gI G, 10, .inl (fun r => u (px r 1)))), (b 3, .inl (gI G, 10, .inl (fun r => u (px r 2)))), (b 4, .inl (gI G, 10, .inl (fun r => u (px r 3)))), (b 5, .inl (gI G, 10, .inl (fun r => u (px r 4)))), (b 6, .inl (gI G, 60, .inl (fun j => u (px (j / 6) (5 + 3 * (j % 6)))))), (b 7, .inl (gI G, 60, .inl (fun j => u (px (j / 6) (6 + 3 * (j % 6)))))), (b 8, .inl (gI G, 60, .inl (fun j => u (px (j / 6) (7 + 3 * (j % 6))))))]) := hD
  exact ex_MUv (w2 := [(a 0, .inr (3, [.int (u 0), .int (u 1), .int (u 2), .int (u 5), .int (u 3), .int (u 4), .ref (a 1), .ref (a 2), .ref (a 3), .ref (a 4), .ref (a 5), .ref (a 6), .ref (a 7), .ref (a 8)])), (a 1, .inl (gI G, 10, .inl (va_cpy (fun r => u (px r 0)) (fun r => v (px r 0)) 0 0 10))), (a 2, .inl (gI G, 10, .inl (va_cpy (fun r => u (px r 1)) (fun r => v (px r 1)) 0 0 10))), (a 3, .inl (gI G, 10, .inl (va_cpy (fun r => u (px r 2)) (fun r => v (px r 2)) 0 0 10))), (a 4, .inl (gI G, 10, .inl (va_cpy (fun r => u (px r 3)) (fun r => v (px r 3)) 0 0 10))), (a 5, .inl (gI G, 10, .inl (va_cpy (fun r => u (px r 4)) (fun r => v (px r 4)) 0 0 10))), (a 6, .inl (gI G, 60, .inl (va_cpy (fun j => u (px (j / 6) (5 + 3 * (j % 6)))) (fun j => v (px (j / 6) (5 + 3 * (j % 6)))) 0 0 60))), (a 7, .inl (gI G, 60, .inl (va_cpy (fun j => u (px (j / 6) (6 + 3 * (j % 6)))) (fun j => v (px (j / 6) (6 + 3 * (j % 6)))) 0 0 60))), (a 8, .inl (gI G, 60, .inl (va_cpy (fun j => u (px (j / 6) (7 + 3 * (j % 6)))) (fun j => v (px (j / 6) (7 + 3 * (j % 6)))) 0 0 60))), (b 0, .inr (3, [.int (u 0), .int (u 1), .int (u 2), .int (u 5), .int (u 3), .int (u 4), .ref (b 1), .ref (b 2), .ref (b 3), .ref (b 4), .ref (b 5), .ref (b 6), .ref (b 7), .ref (b 8)])), (b 1, .inl (gI G, 10, .inl (fun r => u (px r 0)))), (b 2, .inl (gI G, 10, .inl (fun r => u (px r 1)))), (b 3, .inl (gI G, 10, .inl (fun r => u (px r 2)))), (b 4, .inl (gI G, 10, .inl (fun r => u (px r 3)))), (b 5, .inl (gI G, 10, .inl (fun r => u (px r 4)))), (b 6, .inl (gI G, 60, .inl (fun j => u (px (j / 6) (5 + 3 * (j % 6)))))), (b 7, .inl (gI G, 60, .inl (fun j => u (px (j / 6) (6 + 3 * (j % 6)))))), (b 8, .inl (gI G, 60, .inl (fun j => u (px (j / 6) (7 + 3 * (j % 6))))))]) hx hb hr hlocks hP hS dX3_copyFrom_168 (fun h => copy_end h)
set_option maxRecDepth 20000 in
theorem hin_X3_makeAllTimesOne_X3 : ∀ w ∈ u_ws RX3 TX3 14, w ∈ wsX3_makeAllTimesOne := by decide +kernel
theorem lk_X3_makeAllTimesOne_9 : Cond.fieldLink RX3 9 "WeldedRelays$Room" "pickTimes" "[I" ∈ wsX3_makeAllTimesOne := by decide +kernel
theorem lk_X3_makeAllTimesOne_15 : Cond.fieldLink RX3 15 "WeldedRelays$Room" "dropTimes" "[I" ∈ wsX3_makeAllTimesOne := by decide +kernel
set_option maxHeartbeats 4000000 in
set_option maxRecDepth 100000 in
/-- X3_makeAllTimesOne -/
theorem c_X3_makeAllTimesOne (l : Launch) (G : GG) (a : Nat → Nat) (v : Nat → Int32) : Met l yX3_makeAllTimesOne wsX3_makeAllTimesOne ({ frames := 0, cells := 0, slots := 0, locals := 0 }) (pcM G [.ref (a 0)] (rW G a v)) (qMU G none (rW G a v) (rW G a (onesN 10 v))) 0 0 (aA (rW G a v)) := by
  refine hd_MU (cc := cX3_makeAllTimesOne) (maxL := 2) (ret := none) (by decide) rfl (Nat.le_of_ble_eq_true rfl) ?_
  intro p e s m below meth c ls hx hb hr hts hown hlocks hml hP hKK hD hS hl
  have hl : lv_has ls 2 [(0, .ref (a 0))] := hl
  refine lv_iconst (v := 0) hx hb dX3_makeAllTimesOne_0 (by decide) ?_
  refine lv_istore_n (lv' := [(1, .int 0), (0, .ref (a 0))]) hx hb dX3_makeAllTimesOne_1 rfl hl (by decide) rfl (fun ls hl => ?_)
  have L_2 : ∀ (n_2 : Nat) (i : Nat), (i ≤ 10) → (10 + 1 ≤ i + n_2) → ∀ (H : Heap) (locs : List Loc), gP G (rW G a (onesN i v)) H → va_D (aA (rW G a v)) (rW G a (onesN i v)) → va_S (aA (rW G a v)) s.heap H locs → ∀ (ls : Array Slot), lv_has ls 2 [(1, .int (nI i)), (0, .ref (a 0))] → W p l e ({ frames := 0, cells := 0, slots := 0, locals := 0 }) s m (List.toArray [.ref (a 0)]) below meth c H locs 0 0 (MQ below (qMU G none (rW G a v) (rW G a (onesN 10 v))) (List.toArray [.ref (a 0)]) s 0 0 (aA (rW G a v))) (F0 m 2 ls []) := by
    intro n_2
    induction n_2 with
    | zero => intro i h1 h2; exact absurd (h2) (by omega)
    | succ n_2 ih_2 =>
      intro i h1 h2 H locs hP hD hS ls hl
      refine lv_iload_n hx hb dX3_makeAllTimesOne_2 rfl (lv_at hl 0 rfl) ?_
      refine lv_bipush (v := 10) hx hb dX3_makeAllTimesOne_3 (by decide) ?_
      refine lv_icmp_ge (tgt := 28) hx hb dX3_makeAllTimesOne_5 (by decide) (fun c_5 => ?_) (fun c_5 => ?_)
      · skip
        have c_5 : 10 ≤ i := (nI_leI (a := 10) (b := i) (by omega) (by omega)).mp c_5
        exact ex_MUv (w2 := (rW G a (onesN i v))) hx hb hr hlocks hP hS dX3_makeAllTimesOne_28 (fun h => by rw [show i = 10 by omega] at h; exact h)
      · skip
        have c_5 : ¬ (10 ≤ i) := fun q => c_5 ((nI_leI (a := 10) (b := i) (by omega) (by omega)).mpr q)
        refine lv_aload_n hx hb dX3_makeAllTimesOne_8 rfl (lv_at hl 1 rfl) ?_
        refine va_get (D := gD G) (ci := 3) (v := .ref (a 1)) (C := RX3) (T := TX3) (N := 14) hx hb hts hin_X3_makeAllTimesOne_X3 hown hKK.1 hP 0 rfl rfl 6 (by decide) (hts _ lk_X3_makeAllTimesOne_9) (fun _ h9 => h9) rfl dX3_makeAllTimesOne_9 ?_
        refine lv_iload_n hx hb dX3_makeAllTimesOne_12 rfl (lv_at hl 0 rfl) ?_
        refine lv_iconst (v := 1) hx hb dX3_makeAllTimesOne_13 (by decide) ?_
        refine va_iastN (j := i) (x := 1) hx hb hKK.1 hP hD hS 1 0 rfl rfl (rfl) (by omega) (by decide) dX3_makeAllTimesOne_14 (fun H locs hP hD hS => ?_)
        have e_14 := rW_setR G a (onesN i v) i 0 1 (by decide)
        have hP : gP G (rW G a (upd (onesN i v) (px i 0) 1)) H := by rw [e_14]; exact hP
        have hD : va_D (aA (rW G a v)) (rW G a (upd (onesN i v) (px i 0) 1)) := by rw [e_14]; exact hD
        refine lv_aload_n hx hb dX3_makeAllTimesOne_15 rfl (lv_at hl 1 rfl) ?_
        refine va_get (D := gD G) (ci := 3) (v := .ref (a 2)) (C := RX3) (T := TX3) (N := 14) hx hb hts hin_X3_makeAllTimesOne_X3 hown hKK.1 hP 0 rfl rfl 7 (by decide) (hts _ lk_X3_makeAllTimesOne_15) (fun _ h9 => h9) rfl dX3_makeAllTimesOne_16 ?_
        refine lv_iload_n hx hb dX3_makeAllTimesOne_19 rfl (lv_at hl 0 rfl) ?_
        refine lv_iconst (v := 1) hx hb dX3_makeAllTimesOne_20 (by decide) ?_
        refine va_iastN (j := i) (x := 1) hx hb hKK.1 hP hD hS 2 0 rfl rfl (rfl) (by omega) (by decide) dX3_makeAllTimesOne_21 (fun H locs hP hD hS => ?_)
        have e_21 := rW_setR G a (upd (onesN i v) (px i 0) 1) i 1 1 (by decide)
        have hP : gP G (rW G a (upd (upd (onesN i v) (px i 0) 1) (px i 1) 1)) H := by rw [e_21]; exact hP
        have hD : va_D (aA (rW G a v)) (rW G a (upd (upd (onesN i v) (px i 0) 1) (px i 1) 1)) := by rw [e_21]; exact hD
        have ev_1 : upd (upd (onesN i v) (px i 0) 1) (px i 1) 1 = onesN (i + 1) v := rfl
        rw [ev_1] at hP hD
        refine lv_iinc (v := nI (i + 1)) (lv' := [(1, .int (nI (i + 1))), (0, .ref (a 0))]) hx hb dX3_makeAllTimesOne_22 hl (k := 0) rfl (nI_1 _) (by decide) rfl (fun ls hl => ?_)
        refine lv_goto (tgt := 2) hx hb dX3_makeAllTimesOne_25 (by decide) ?_
        exact ih_2 (i + 1) (by omega) (by omega) _ _ (hP) (hD) hS _ (lv_sub hl [0, 1] rfl)
  exact L_2 (10 + 1) 0 (by omega) (by omega) _ _ (hP) (hD) hS _ (lv_sub hl [0, 1] rfl)
set_option maxHeartbeats 4000000 in
set_option maxRecDepth 100000 in
/-- X3_ticksUntilRest -/
theorem c_X3_ticksUntilRest (l : Launch) (G : GG) (a : Nat → Nat) (v : Nat → Int32) (hI : RI v) : Met l yX3_ticksUntilRest wsX3_ticksUntilRest ({ frames := 4, cells := 0, slots := 0, locals := 87 }) (pcM G [.ref (a 0)] (rW G a v)) (qMU G (some (.int (setlR v))) (rW G a v) (rW G a (stlV 200 v))) 0 0 (aA (rW G a v)) := by
  refine hd_MU (cc := cX3_ticksUntilRest) (maxL := 3) (ret := some .int) (by decide) rfl (Nat.le_of_ble_eq_true rfl) ?_
  intro p e s m below meth c ls hx hb hr hts hown hlocks hml hP hKK hD hS hl
  have hl : lv_has ls 3 [(0, .ref (a 0))] := hl
  refine lv_iconst (v := 0) hx hb dX3_ticksUntilRest_0 (by decide) ?_
  refine lv_istore_n (lv' := [(1, .int 0), (0, .ref (a 0))]) hx hb dX3_ticksUntilRest_1 rfl hl (by decide) rfl (fun ls hl => ?_)
  have L_2 : ∀ (n_2 : Nat) (i : Nat), (i ≤ 200) → (200 + 1 ≤ i + n_2) → (∀ j, j < i → wan (tickN j v) ≠ 0) → ∀ (H : Heap) (locs : List Loc), gP G (rW G a (tickN i v)) H → va_D (aA (rW G a v)) (rW G a (tickN i v)) → va_S (aA (rW G a v)) s.heap H locs → ∀ (ls : Array Slot), lv_has ls 3 [(1, .int (nI i)), (0, .ref (a 0))] → W p l e ({ frames := 4, cells := 0, slots := 0, locals := 87 }) s m (List.toArray [.ref (a 0)]) below meth c H locs 0 0 (MQ below (qMU G (some (.int (setlR v))) (rW G a v) (rW G a (stlV 200 v))) (List.toArray [.ref (a 0)]) s 0 0 (aA (rW G a v))) (F0 m 2 ls []) := by
    intro n_2
    induction n_2 with
    | zero => intro i h1 h2 h3; exact absurd (h2) (by omega)
    | succ n_2 ih_2 =>
      intro i h1 h2 h3 H locs hP hD hS ls hl
      refine lv_iload_n hx hb dX3_ticksUntilRest_2 rfl (lv_at hl 0 rfl) ?_
      refine lv_sipush (v := 200) hx hb dX3_ticksUntilRest_3 (by decide) ?_
      refine lv_icmp_ge (tgt := 31) hx hb dX3_ticksUntilRest_6 (by decide) (fun c_6 => ?_) (fun c_6 => ?_)
      · skip
        have c_6 : 200 ≤ i := (nI_leI (a := 200) (b := i) (by omega) (by omega)).mp c_6
        refine lv_aload_n hx hb dX3_ticksUntilRest_31 rfl (lv_at hl 1 rfl) ?_
        refine ro_V (As := []) (rest := []) ⟨hx, hb, hml, hown, hts⟩ (c_X3_wantingRelays l G a (tickN i v) (tickN_RI hI i)) (cwV 0 hts gX3_ticksUntilRest_X3_wantingRelays rfl rfl rfl (by decide +kernel) ⟨Nat.le_of_ble_eq_true rfl, Nat.le_of_ble_eq_true rfl⟩) hP hKK (va_recv hKK.1 hP (ci := 3) (q0 := 0) rfl rfl) rfl hl.1 rfl (Nat.le_of_ble_eq_true rfl) dX3_ticksUntilRest_32 (Nat.zero_le _) (Nat.zero_le _) ?_
        refine lv_if_ne (tgt := 44) hx hb dX3_ticksUntilRest_35 (by decide) (fun c_35 => ?_) (fun c_35 => ?_)
        · skip
          refine lv_sipush (v := 1200) hx hb dX3_ticksUntilRest_44 (by decide) ?_
          exact ex_MUi (w2 := (rW G a (tickN i v))) hx hb hr hlocks hP hS dX3_ticksUntilRest_47 (setl_b h3 h1 c_6 c_35) (fun h => by rw [(stl_stop h3 h1 (Or.inl (by omega))).2]; exact h)
        · skip
          refine lv_sipush (v := 200) hx hb dX3_ticksUntilRest_38 (by decide) ?_
          refine lv_goto (tgt := 47) hx hb dX3_ticksUntilRest_41 (by decide) ?_
          exact ex_MUi (w2 := (rW G a (tickN i v))) hx hb hr hlocks hP hS dX3_ticksUntilRest_47 (setl_a (i := 200) (by rw [← show i = 200 by omega]; exact h3) (by omega) (by rw [← show i = 200 by omega]; exact c_35)) (fun h => by rw [(stl_stop h3 h1 (Or.inl (by omega))).2]; exact h)
      · skip
        have c_6 : ¬ (200 ≤ i) := fun q => c_6 ((nI_leI (a := 200) (b := i) (by omega) (by omega)).mpr q)
        refine lv_aload_n hx hb dX3_ticksUntilRest_9 rfl (lv_at hl 1 rfl) ?_
        refine ro_V (As := []) (rest := []) ⟨hx, hb, hml, hown, hts⟩ (c_X3_wantingRelays l G a (tickN i v) (tickN_RI hI i)) (cwV 0 hts gX3_ticksUntilRest_X3_wantingRelays rfl rfl rfl (by decide +kernel) ⟨Nat.le_of_ble_eq_true rfl, Nat.le_of_ble_eq_true rfl⟩) hP hKK (va_recv hKK.1 hP (ci := 3) (q0 := 0) rfl rfl) rfl hl.1 rfl (Nat.le_of_ble_eq_true rfl) dX3_ticksUntilRest_10 (Nat.zero_le _) (Nat.zero_le _) ?_
        refine lv_istore_n (lv' := [(2, .int (wan (tickN i v))), (1, .int (nI i)), (0, .ref (a 0))]) hx hb dX3_ticksUntilRest_13 rfl hl (by decide) rfl (fun ls hl => ?_)
        refine lv_iload_n hx hb dX3_ticksUntilRest_14 rfl (lv_at hl 0 rfl) ?_
        refine lv_if_ne (tgt := 20) hx hb dX3_ticksUntilRest_15 (by decide) (fun c_15 => ?_) (fun c_15 => ?_)
        · skip
          refine lv_aload_n hx hb dX3_ticksUntilRest_20 rfl (lv_at hl 2 rfl) ?_
          refine lv_iload_n hx hb dX3_ticksUntilRest_21 rfl (lv_at hl 0 rfl) ?_
          refine mu_V (As := [.int (wan (tickN i v))]) (rest := []) ⟨hx, hb, hml, hown, hts⟩ (c_X3_passTick l G a (tickN i v) (wan (tickN i v))) (cwV 1 hts gX3_ticksUntilRest_X3_passTick rfl rfl rfl (by decide +kernel) ⟨Nat.le_of_ble_eq_true rfl, Nat.le_of_ble_eq_true rfl⟩) hP hKK hD hS (va_recv hKK.1 hP (ci := 3) (q0 := 0) rfl rfl) rfl hl.1 rfl (Nat.le_of_ble_eq_true rfl) dX3_ticksUntilRest_22 (Nat.zero_le _) (Nat.zero_le _) (rfl) (fun H locs hP hD hS => ?_)
          have ev_1 : tickW (wan (tickN i v)) (tickN i v) = tickN (i + 1) v := rfl
          rw [ev_1] at hP hD
          refine lv_iinc (v := nI (i + 1)) (lv' := [(1, .int (nI (i + 1))), (2, .int (wan (tickN i v))), (0, .ref (a 0))]) hx hb dX3_ticksUntilRest_25 hl (k := 1) rfl (nI_1 _) (by decide) rfl (fun ls hl => ?_)
          refine lv_goto (tgt := 2) hx hb dX3_ticksUntilRest_28 (by decide) ?_
          exact ih_2 (i + 1) (by omega) (by omega) (fun j hj => by rcases Nat.lt_succ_iff_lt_or_eq.mp hj with h | h; exact h3 j h; subst h; assumption) _ _ (hP) (hD) hS _ (lv_sub hl [0, 2] rfl)
        · skip
          have c_15x := c_15
          refine lv_iload_n hx hb dX3_ticksUntilRest_18 rfl (lv_at hl 1 rfl) ?_
          exact ex_MUi (w2 := (rW G a (tickN i v))) hx hb hr hlocks hP hS dX3_ticksUntilRest_19 (setl_a h3 h1 c_15x) (fun h => by rw [(stl_stop h3 h1 (Or.inr c_15x)).2]; exact h)
  exact L_2 (200 + 1) 0 (by omega) (by omega) (fun j hj => by omega) _ _ (hP) (hD) hS _ (lv_sub hl [0, 1] rfl)
set_option maxRecDepth 20000 in
theorem hin_X3_upAtRest_X3 : ∀ w ∈ u_ws RX3 TX3 14, w ∈ wsX3_upAtRest := by decide +kernel
theorem lk_X3_upAtRest_36 : Cond.fieldLink RX3 36 "WeldedRelays$Room" "up" "I" ∈ wsX3_upAtRest := by decide +kernel
set_option maxHeartbeats 4000000 in
set_option maxRecDepth 100000 in
/-- X3_upAtRest -/
theorem c_X3_upAtRest (l : Launch) (G : GG) (a : Nat → Nat) (v : Nat → Int32) (hI : RI v) : Met l yX3_upAtRest wsX3_upAtRest ({ frames := 5, cells := 0, slots := 0, locals := 109 }) (pcM G [.ref (a 0)] (rW G a v)) (qMU G (some (.int (upR v))) (rW G a v) (rW G a (stlV 200 v))) 0 0 (aA (rW G a v)) := by
  refine hd_MU (cc := cX3_upAtRest) (maxL := 1) (ret := some .int) (by decide) rfl (Nat.le_of_ble_eq_true rfl) ?_
  intro p e s m below meth c ls hx hb hr hts hown hlocks hml hP hKK hD hS hl
  have hl : lv_has ls 1 [(0, .ref (a 0))] := hl
  refine lv_aload_n hx hb dX3_upAtRest_0 rfl (lv_at hl 0 rfl) ?_
  refine mu_V (As := []) (rest := []) ⟨hx, hb, hml, hown, hts⟩ (c_X3_ticksUntilRest l G a v (by assumption)) (cwV 0 hts gX3_upAtRest_X3_ticksUntilRest rfl rfl rfl (by decide +kernel) ⟨Nat.le_of_ble_eq_true rfl, Nat.le_of_ble_eq_true rfl⟩) hP hKK hD hS (va_recv hKK.1 hP (ci := 3) (q0 := 0) rfl rfl) rfl hl.1 rfl (Nat.le_of_ble_eq_true rfl) dX3_upAtRest_1 (Nat.zero_le _) (Nat.zero_le _) (rfl) (fun H locs hP hD hS => ?_)
  refine lv_sipush (v := 200) hx hb dX3_upAtRest_4 (by decide) ?_
  refine lv_icmp_gt (tgt := 17) hx hb dX3_upAtRest_7 (by decide) (fun c_7 => ?_) (fun c_7 => ?_)
  · skip
    refine lv_bipush (v := (-6)) hx hb dX3_upAtRest_17 (by decide) ?_
    exact ex_MUi (w2 := (rW G a (stlV 200 v))) hx hb hr hlocks hP hS dX3_upAtRest_19 (upR_f' c_7) (fun h => h)
  · skip
    refine lv_aload_n hx hb dX3_upAtRest_10 rfl (lv_at hl 0 rfl) ?_
    refine va_get (D := gD G) (ci := 3) (v := .int ((stlV 200 v) 0)) (C := RX3) (T := TX3) (N := 14) hx hb hts hin_X3_upAtRest_X3 hown hKK.1 hP 0 rfl rfl 0 (by decide) (hts _ lk_X3_upAtRest_36) (fun _ h9 => h9) rfl dX3_upAtRest_11 ?_
    refine lv_goto (tgt := 19) hx hb dX3_upAtRest_14 (by decide) ?_
    exact ex_MUi (w2 := (rW G a (stlV 200 v))) hx hb hr hlocks hP hS dX3_upAtRest_19 (upR_t' c_7) (fun h => h)
set_option maxRecDepth 20000 in
theorem hin_X3_relaysWithBranches_X3 : ∀ w ∈ u_ws RX3 TX3 14, w ∈ wsX3_relaysWithBranches := by decide +kernel
theorem lk_X3_relaysWithBranches_24 : Cond.fieldLink RX3 24 "WeldedRelays$Room" "branchCounts" "[I" ∈ wsX3_relaysWithBranches := by decide +kernel
set_option maxHeartbeats 4000000 in
set_option maxRecDepth 100000 in
/-- X3_relaysWithBranches -/
theorem c_X3_relaysWithBranches (l : Launch) (G : GG) (a : Nat → Nat) (v : Nat → Int32) : Met l yX3_relaysWithBranches wsX3_relaysWithBranches ({ frames := 0, cells := 0, slots := 0, locals := 0 }) (pcW G [.ref (a 0)] (rW G a v)) (qRO (.int (relB v))) 0 0 nofree := by
  refine hd_RO (cc := cX3_relaysWithBranches) (maxL := 3) (ret := some .int) (by decide) rfl (Nat.le_of_ble_eq_true rfl) ?_
  intro p e s m below meth c ls hx hb hr hts hown hlocks hml hP hKK hl
  have hl : lv_has ls 3 [(0, .ref (a 0))] := hl
  refine lv_iconst (v := 0) hx hb dX3_relaysWithBranches_0 (by decide) ?_
  refine lv_istore_n (lv' := [(1, .int 0), (0, .ref (a 0))]) hx hb dX3_relaysWithBranches_1 rfl hl (by decide) rfl (fun ls hl => ?_)
  refine lv_iconst (v := 0) hx hb dX3_relaysWithBranches_2 (by decide) ?_
  refine lv_istore_n (lv' := [(2, .int 0), (1, .int 0), (0, .ref (a 0))]) hx hb dX3_relaysWithBranches_3 rfl hl (by decide) rfl (fun ls hl => ?_)
  have L_4 : ∀ (n_4 : Nat) (i : Nat), (i ≤ 10) → (10 + 1 ≤ i + n_4) → ∀ (ls : Array Slot), lv_has ls 3 [(2, .int (nI i)), (1, .int (sumN i (fun r => if 0 < v (px r 4) then 1 else 0))), (0, .ref (a 0))] → W p l e ({ frames := 0, cells := 0, slots := 0, locals := 0 }) s m (List.toArray [.ref (a 0)]) below meth c s.heap [] 0 0 (MQ below (qRO (.int (relB v))) (List.toArray [.ref (a 0)]) s 0 0 nofree) (F0 m 4 ls []) := by
    intro n_4
    induction n_4 with
    | zero => intro i h1 h2; exact absurd (h2) (by omega)
    | succ n_4 ih_4 =>
      intro i h1 h2 ls hl
      refine lv_iload_n hx hb dX3_relaysWithBranches_4 rfl (lv_at hl 0 rfl) ?_
      refine lv_bipush (v := 10) hx hb dX3_relaysWithBranches_5 (by decide) ?_
      refine lv_icmp_ge (tgt := 28) hx hb dX3_relaysWithBranches_7 (by decide) (fun c_7 => ?_) (fun c_7 => ?_)
      · skip
        have c_7 : 10 ≤ i := (nI_leI (a := 10) (b := i) (by omega) (by omega)).mp c_7
        refine lv_iload_n hx hb dX3_relaysWithBranches_28 rfl (lv_at hl 1 rfl) ?_
        exact ex_ROi hx hb hr hlocks rfl dX3_relaysWithBranches_29 (by rw [show i = 10 by omega]; rfl)
      · skip
        have c_7 : ¬ (10 ≤ i) := fun q => c_7 ((nI_leI (a := 10) (b := i) (by omega) (by omega)).mpr q)
        refine lv_aload_n hx hb dX3_relaysWithBranches_10 rfl (lv_at hl 2 rfl) ?_
        refine va_get (D := gD G) (ci := 3) (v := .ref (a 5)) (C := RX3) (T := TX3) (N := 14) hx hb hts hin_X3_relaysWithBranches_X3 hown hKK.1 hP 0 rfl rfl 10 (by decide) (hts _ lk_X3_relaysWithBranches_24) (fun _ h9 => h9) rfl dX3_relaysWithBranches_11 ?_
        refine lv_iload_n hx hb dX3_relaysWithBranches_14 rfl (lv_at hl 0 rfl) ?_
        refine va_ialdN (j := i) (v := v (px i 4)) hx hb hKK.1 hP 5 0 rfl rfl (rfl) (by omega) (by decide) (rfl) dX3_relaysWithBranches_15 ?_
        refine lv_if_le (tgt := 22) hx hb dX3_relaysWithBranches_16 (by decide) (fun c_16 => ?_) (fun c_16 => ?_)
        · skip
          have hl : lv_has ls 3 [(2, .int (nI i)), (1, .int (sumN (i + 1) (fun r => if 0 < v (px r 4) then 1 else 0))), (0, .ref (a 0))] := by have e_l1 : (sumN i (fun r => if 0 < v (px r 4) then 1 else 0)) = (sumN (i + 1) (fun r => if 0 < v (px r 4) then 1 else 0)) := (by simp [sumN, Int32.not_lt.mpr c_16]); rw [← e_l1]; exact hl
          refine lv_iinc (v := nI (i + 1)) (lv' := [(2, .int (nI (i + 1))), (1, .int (sumN (i + 1) (fun r => if 0 < v (px r 4) then 1 else 0))), (0, .ref (a 0))]) hx hb dX3_relaysWithBranches_22 hl (k := 0) rfl (nI_1 _) (by decide) rfl (fun ls hl => ?_)
          refine lv_goto (tgt := 4) hx hb dX3_relaysWithBranches_25 (by decide) ?_
          exact ih_4 (i + 1) (by omega) (by omega) _ (lv_sub hl [0, 1, 2] rfl)
        · skip
          refine lv_iinc (v := sumN (i + 1) (fun r => if 0 < v (px r 4) then 1 else 0)) (lv' := [(1, .int (sumN (i + 1) (fun r => if 0 < v (px r 4) then 1 else 0))), (2, .int (nI i)), (0, .ref (a 0))]) hx hb dX3_relaysWithBranches_19 hl (k := 1) rfl (by simp [sumN, Int32.not_le.mp c_16]) (by decide) rfl (fun ls hl => ?_)
          refine lv_iinc (v := nI (i + 1)) (lv' := [(2, .int (nI (i + 1))), (1, .int (sumN (i + 1) (fun r => if 0 < v (px r 4) then 1 else 0))), (0, .ref (a 0))]) hx hb dX3_relaysWithBranches_22 hl (k := 1) rfl (nI_1 _) (by decide) rfl (fun ls hl => ?_)
          refine lv_goto (tgt := 4) hx hb dX3_relaysWithBranches_25 (by decide) ?_
          exact ih_4 (i + 1) (by omega) (by omega) _ (lv_sub hl [0, 1, 2] rfl)
  exact L_4 (10 + 1) 0 (by omega) (by omega) _ (lv_sub hl [0, 1, 2] rfl)
set_option maxRecDepth 20000 in
theorem hin_X3_contactsOfCircuit_X3 : ∀ w ∈ u_ws RX3 TX3 14, w ∈ wsX3_contactsOfCircuit := by decide +kernel
theorem lk_X3_contactsOfCircuit_24 : Cond.fieldLink RX3 24 "WeldedRelays$Room" "branchCounts" "[I" ∈ wsX3_contactsOfCircuit := by decide +kernel
set_option maxHeartbeats 4000000 in
set_option maxRecDepth 100000 in
/-- X3_contactsOfCircuit -/
theorem c_X3_contactsOfCircuit (l : Launch) (G : GG) (a : Nat → Nat) (v : Nat → Int32) (k : Nat) (hk : k < 10) (hI : RI v) : Met l yX3_contactsOfCircuit wsX3_contactsOfCircuit ({ frames := 1, cells := 0, slots := 0, locals := 21 }) (pcW G [.ref (a 0), .ref (a 6), .int (nI k)] (rW G a v)) (qRO (.int (frtS v k))) 0 0 nofree := by
  refine hd_RO (cc := cX3_contactsOfCircuit) (maxL := 6) (ret := some .int) (by decide) rfl (Nat.le_of_ble_eq_true rfl) ?_
  intro p e s m below meth c ls hx hb hr hts hown hlocks hml hP hKK hl
  have hl : lv_has ls 6 [(0, .ref (a 0)), (1, .ref (a 6)), (2, .int (nI k))] := hl
  have hc := hI.1 k hk
  refine lv_iconst (v := 0) hx hb dX3_contactsOfCircuit_0 (by decide) ?_
  refine lv_istore_n (lv' := [(3, .int 0), (0, .ref (a 0)), (1, .ref (a 6)), (2, .int (nI k))]) hx hb dX3_contactsOfCircuit_1 rfl hl (by decide) rfl (fun ls hl => ?_)
  refine lv_iload_n hx hb dX3_contactsOfCircuit_2 rfl (lv_at hl 3 rfl) ?_
  refine lv_aload_n hx hb dX3_contactsOfCircuit_3 rfl (lv_at hl 1 rfl) ?_
  refine va_get (D := gD G) (ci := 3) (v := .ref (a 5)) (C := RX3) (T := TX3) (N := 14) hx hb hts hin_X3_contactsOfCircuit_X3 hown hKK.1 hP 0 rfl rfl 10 (by decide) (hts _ lk_X3_contactsOfCircuit_24) (fun _ h9 => h9) rfl dX3_contactsOfCircuit_4 ?_
  refine lv_iload_n hx hb dX3_contactsOfCircuit_7 rfl (lv_at hl 3 rfl) ?_
  refine va_ialdN (j := k) (v := v (px k 4)) hx hb hKK.1 hP 5 0 rfl rfl (rfl) (by omega) (by decide) (rfl) dX3_contactsOfCircuit_8 ?_
  refine lv_asi (y := nI (cnt v k)) (hc.1) ?_
  refine ro_SN (As := [.int (nI k), .int (nI (cnt v k))]) (rest := []) ⟨hx, hb, hml, hown, hts⟩ (c_X4_placeOf l G k (cnt v k)) ⟨va_cnB 2 hts gX3_contactsOfCircuit_X4_placeOf_n65 rfl rfl rfl (hKK.2.1 _ (List.mem_of_getElem? (i := 4) rfl)) (hts (.initialized RX4) (by decide +kernel)) (by decide +kernel) ⟨Nat.le_of_ble_eq_true rfl, Nat.le_of_ble_eq_true rfl⟩, hts (.static yX4_placeOf) (by decide +kernel), trivial⟩ (show gP G [] _ from fun k q h => by simp at h) hKK rfl hl.1 rfl (Nat.le_of_ble_eq_true rfl) dX3_contactsOfCircuit_9 (Nat.zero_le _) (Nat.zero_le _) ?_
  refine lv_istore (lv' := [(4, .int (nI (6 * k + (cnt v k)))), (3, .int 0), (0, .ref (a 0)), (1, .ref (a 6)), (2, .int (nI k))]) hx hb dX3_contactsOfCircuit_12 hl (by decide) rfl (fun ls hl => ?_)
  refine lv_iload_n hx hb dX3_contactsOfCircuit_14 rfl (lv_at hl 4 rfl) ?_
  refine lv_iconst (v := 0) hx hb dX3_contactsOfCircuit_15 (by decide) ?_
  refine ro_SN (As := [.int (nI k), .int (nI 0)]) (rest := []) ⟨hx, hb, hml, hown, hts⟩ (c_X4_placeOf l G k 0) ⟨va_cnB 2 hts gX3_contactsOfCircuit_X4_placeOf_n65 rfl rfl rfl (hKK.2.1 _ (List.mem_of_getElem? (i := 4) rfl)) (hts (.initialized RX4) (by decide +kernel)) (by decide +kernel) ⟨Nat.le_of_ble_eq_true rfl, Nat.le_of_ble_eq_true rfl⟩, hts (.static yX4_placeOf) (by decide +kernel), trivial⟩ (show gP G [] _ from fun k q h => by simp at h) hKK rfl hl.1 rfl (Nat.le_of_ble_eq_true rfl) dX3_contactsOfCircuit_16 (Nat.zero_le _) (Nat.zero_le _) ?_
  refine lv_istore (lv' := [(5, .int (nI (6 * k + 0))), (4, .int (nI (6 * k + (cnt v k)))), (3, .int 0), (0, .ref (a 0)), (1, .ref (a 6)), (2, .int (nI k))]) hx hb dX3_contactsOfCircuit_19 hl (by decide) rfl (fun ls hl => ?_)
  have L_21 : ∀ (n_21 : Nat) (i : Nat), (i ≤ cnt v k) → (cnt v k + 1 ≤ i + n_21) → ∀ (ls : Array Slot), lv_has ls 6 [(5, .int (nI (6 * k + i))), (4, .int (nI (6 * k + (cnt v k)))), (3, .int (orN i (fun b => frt v k b))), (0, .ref (a 0)), (1, .ref (a 6)), (2, .int (nI k))] → W p l e ({ frames := 1, cells := 0, slots := 0, locals := 21 }) s m (List.toArray [.ref (a 0), .ref (a 6), .int (nI k)]) below meth c s.heap [] 0 0 (MQ below (qRO (.int (frtS v k))) (List.toArray [.ref (a 0), .ref (a 6), .int (nI k)]) s 0 0 nofree) (F0 m 21 ls []) := by
    intro n_21
    induction n_21 with
    | zero => intro i h1 h2; exact absurd (h2) (by omega)
    | succ n_21 ih_21 =>
      intro i h1 h2 ls hl
      refine lv_iload hx hb dX3_contactsOfCircuit_21 (lv_at hl 0 rfl) ?_
      refine lv_iload hx hb dX3_contactsOfCircuit_23 (lv_at hl 1 rfl) ?_
      refine lv_icmp_ge (tgt := 41) hx hb dX3_contactsOfCircuit_25 (by decide) (fun c_25 => ?_) (fun c_25 => ?_)
      · skip
        have c_25 : (6 * k + (cnt v k)) ≤ (6 * k + i) := (nI_leI (a := 6 * k + (cnt v k)) (b := 6 * k + i) (by omega) (by omega)).mp c_25
        refine lv_iload_n hx hb dX3_contactsOfCircuit_41 rfl (lv_at hl 2 rfl) ?_
        exact ex_ROi hx hb hr hlocks rfl dX3_contactsOfCircuit_42 (by rw [show i = cnt v k by omega]; rfl)
      · skip
        have c_25 : ¬ ((6 * k + (cnt v k)) ≤ (6 * k + i)) := fun q => c_25 ((nI_leI (a := 6 * k + (cnt v k)) (b := 6 * k + i) (by omega) (by omega)).mpr q)
        refine lv_iload_n hx hb dX3_contactsOfCircuit_28 rfl (lv_at hl 2 rfl) ?_
        refine lv_aload_n hx hb dX3_contactsOfCircuit_29 rfl (lv_at hl 4 rfl) ?_
        refine lv_iload hx hb dX3_contactsOfCircuit_30 (lv_at hl 0 rfl) ?_
        refine va_ialdN (j := 6 * k + i) (v := frt v k i) hx hb hKK.1 hP 6 0 rfl rfl (rfl) (by omega) (by decide) (rB_atfrt _ _ _ (by omega)) dX3_contactsOfCircuit_32 ?_
        refine lv_ior hx hb dX3_contactsOfCircuit_33 ?_
        refine lv_asi (y := orN (i + 1) (fun b => frt v k b)) (rfl) ?_
        refine lv_istore_n (lv' := [(3, .int (orN (i + 1) (fun b => frt v k b))), (5, .int (nI (6 * k + i))), (4, .int (nI (6 * k + (cnt v k)))), (0, .ref (a 0)), (1, .ref (a 6)), (2, .int (nI k))]) hx hb dX3_contactsOfCircuit_34 rfl hl (by decide) rfl (fun ls hl => ?_)
        refine lv_iinc (v := nI ((6 * k + i) + 1)) (lv' := [(5, .int (nI ((6 * k + i) + 1))), (3, .int (orN (i + 1) (fun b => frt v k b))), (4, .int (nI (6 * k + (cnt v k)))), (0, .ref (a 0)), (1, .ref (a 6)), (2, .int (nI k))]) hx hb dX3_contactsOfCircuit_35 hl (k := 1) rfl (nI_1 _) (by decide) rfl (fun ls hl => ?_)
        refine lv_goto (tgt := 21) hx hb dX3_contactsOfCircuit_38 (by decide) ?_
        exact ih_21 (i + 1) (by omega) (by omega) _ (lv_sub hl [0, 2, 1, 3, 4, 5] rfl)
  exact L_21 (cnt v k + 1) 0 (by omega) (by omega) _ (lv_sub hl [0, 1, 2, 3, 4, 5] rfl)
set_option maxHeartbeats 4000000 in
set_option maxRecDepth 100000 in
/-- X3_contactsOfCircuit -/
theorem c_X3_contactsOfCircuit_b (l : Launch) (G : GG) (a : Nat → Nat) (v : Nat → Int32) (k : Nat) (hk : k < 10) (hI : RI v) : Met l yX3_contactsOfCircuit wsX3_contactsOfCircuit ({ frames := 1, cells := 0, slots := 0, locals := 21 }) (pcW G [.ref (a 0), .ref (a 7), .int (nI k)] (rW G a v)) (qRO (.int (bckS v k))) 0 0 nofree := by
  refine hd_RO (cc := cX3_contactsOfCircuit) (maxL := 6) (ret := some .int) (by decide) rfl (Nat.le_of_ble_eq_true rfl) ?_
  intro p e s m below meth c ls hx hb hr hts hown hlocks hml hP hKK hl
  have hl : lv_has ls 6 [(0, .ref (a 0)), (1, .ref (a 7)), (2, .int (nI k))] := hl
  have hc := hI.1 k hk
  refine lv_iconst (v := 0) hx hb dX3_contactsOfCircuit_0 (by decide) ?_
  refine lv_istore_n (lv' := [(3, .int 0), (0, .ref (a 0)), (1, .ref (a 7)), (2, .int (nI k))]) hx hb dX3_contactsOfCircuit_1 rfl hl (by decide) rfl (fun ls hl => ?_)
  refine lv_iload_n hx hb dX3_contactsOfCircuit_2 rfl (lv_at hl 3 rfl) ?_
  refine lv_aload_n hx hb dX3_contactsOfCircuit_3 rfl (lv_at hl 1 rfl) ?_
  refine va_get (D := gD G) (ci := 3) (v := .ref (a 5)) (C := RX3) (T := TX3) (N := 14) hx hb hts hin_X3_contactsOfCircuit_X3 hown hKK.1 hP 0 rfl rfl 10 (by decide) (hts _ lk_X3_contactsOfCircuit_24) (fun _ h9 => h9) rfl dX3_contactsOfCircuit_4 ?_
  refine lv_iload_n hx hb dX3_contactsOfCircuit_7 rfl (lv_at hl 3 rfl) ?_
  refine va_ialdN (j := k) (v := v (px k 4)) hx hb hKK.1 hP 5 0 rfl rfl (rfl) (by omega) (by decide) (rfl) dX3_contactsOfCircuit_8 ?_
  refine lv_asi (y := nI (cnt v k)) (hc.1) ?_
  refine ro_SN (As := [.int (nI k), .int (nI (cnt v k))]) (rest := []) ⟨hx, hb, hml, hown, hts⟩ (c_X4_placeOf l G k (cnt v k)) ⟨va_cnB 2 hts gX3_contactsOfCircuit_X4_placeOf_n65 rfl rfl rfl (hKK.2.1 _ (List.mem_of_getElem? (i := 4) rfl)) (hts (.initialized RX4) (by decide +kernel)) (by decide +kernel) ⟨Nat.le_of_ble_eq_true rfl, Nat.le_of_ble_eq_true rfl⟩, hts (.static yX4_placeOf) (by decide +kernel), trivial⟩ (show gP G [] _ from fun k q h => by simp at h) hKK rfl hl.1 rfl (Nat.le_of_ble_eq_true rfl) dX3_contactsOfCircuit_9 (Nat.zero_le _) (Nat.zero_le _) ?_
  refine lv_istore (lv' := [(4, .int (nI (6 * k + (cnt v k)))), (3, .int 0), (0, .ref (a 0)), (1, .ref (a 7)), (2, .int (nI k))]) hx hb dX3_contactsOfCircuit_12 hl (by decide) rfl (fun ls hl => ?_)
  refine lv_iload_n hx hb dX3_contactsOfCircuit_14 rfl (lv_at hl 4 rfl) ?_
  refine lv_iconst (v := 0) hx hb dX3_contactsOfCircuit_15 (by decide) ?_
  refine ro_SN (As := [.int (nI k), .int (nI 0)]) (rest := []) ⟨hx, hb, hml, hown, hts⟩ (c_X4_placeOf l G k 0) ⟨va_cnB 2 hts gX3_contactsOfCircuit_X4_placeOf_n65 rfl rfl rfl (hKK.2.1 _ (List.mem_of_getElem? (i := 4) rfl)) (hts (.initialized RX4) (by decide +kernel)) (by decide +kernel) ⟨Nat.le_of_ble_eq_true rfl, Nat.le_of_ble_eq_true rfl⟩, hts (.static yX4_placeOf) (by decide +kernel), trivial⟩ (show gP G [] _ from fun k q h => by simp at h) hKK rfl hl.1 rfl (Nat.le_of_ble_eq_true rfl) dX3_contactsOfCircuit_16 (Nat.zero_le _) (Nat.zero_le _) ?_
  refine lv_istore (lv' := [(5, .int (nI (6 * k + 0))), (4, .int (nI (6 * k + (cnt v k)))), (3, .int 0), (0, .ref (a 0)), (1, .ref (a 7)), (2, .int (nI k))]) hx hb dX3_contactsOfCircuit_19 hl (by decide) rfl (fun ls hl => ?_)
  have L_21 : ∀ (n_21 : Nat) (i : Nat), (i ≤ cnt v k) → (cnt v k + 1 ≤ i + n_21) → ∀ (ls : Array Slot), lv_has ls 6 [(5, .int (nI (6 * k + i))), (4, .int (nI (6 * k + (cnt v k)))), (3, .int (orN i (fun b => bck v k b))), (0, .ref (a 0)), (1, .ref (a 7)), (2, .int (nI k))] → W p l e ({ frames := 1, cells := 0, slots := 0, locals := 21 }) s m (List.toArray [.ref (a 0), .ref (a 7), .int (nI k)]) below meth c s.heap [] 0 0 (MQ below (qRO (.int (bckS v k))) (List.toArray [.ref (a 0), .ref (a 7), .int (nI k)]) s 0 0 nofree) (F0 m 21 ls []) := by
    intro n_21
    induction n_21 with
    | zero => intro i h1 h2; exact absurd (h2) (by omega)
    | succ n_21 ih_21 =>
      intro i h1 h2 ls hl
      refine lv_iload hx hb dX3_contactsOfCircuit_21 (lv_at hl 0 rfl) ?_
      refine lv_iload hx hb dX3_contactsOfCircuit_23 (lv_at hl 1 rfl) ?_
      refine lv_icmp_ge (tgt := 41) hx hb dX3_contactsOfCircuit_25 (by decide) (fun c_25 => ?_) (fun c_25 => ?_)
      · skip
        have c_25 : (6 * k + (cnt v k)) ≤ (6 * k + i) := (nI_leI (a := 6 * k + (cnt v k)) (b := 6 * k + i) (by omega) (by omega)).mp c_25
        refine lv_iload_n hx hb dX3_contactsOfCircuit_41 rfl (lv_at hl 2 rfl) ?_
        exact ex_ROi hx hb hr hlocks rfl dX3_contactsOfCircuit_42 (by rw [show i = cnt v k by omega]; rfl)
      · skip
        have c_25 : ¬ ((6 * k + (cnt v k)) ≤ (6 * k + i)) := fun q => c_25 ((nI_leI (a := 6 * k + (cnt v k)) (b := 6 * k + i) (by omega) (by omega)).mpr q)
        refine lv_iload_n hx hb dX3_contactsOfCircuit_28 rfl (lv_at hl 2 rfl) ?_
        refine lv_aload_n hx hb dX3_contactsOfCircuit_29 rfl (lv_at hl 4 rfl) ?_
        refine lv_iload hx hb dX3_contactsOfCircuit_30 (lv_at hl 0 rfl) ?_
        refine va_ialdN (j := 6 * k + i) (v := bck v k i) hx hb hKK.1 hP 7 0 rfl rfl (rfl) (by omega) (by decide) (rB_atbck _ _ _ (by omega)) dX3_contactsOfCircuit_32 ?_
        refine lv_ior hx hb dX3_contactsOfCircuit_33 ?_
        refine lv_asi (y := orN (i + 1) (fun b => bck v k b)) (rfl) ?_
        refine lv_istore_n (lv' := [(3, .int (orN (i + 1) (fun b => bck v k b))), (5, .int (nI (6 * k + i))), (4, .int (nI (6 * k + (cnt v k)))), (0, .ref (a 0)), (1, .ref (a 7)), (2, .int (nI k))]) hx hb dX3_contactsOfCircuit_34 rfl hl (by decide) rfl (fun ls hl => ?_)
        refine lv_iinc (v := nI ((6 * k + i) + 1)) (lv' := [(5, .int (nI ((6 * k + i) + 1))), (3, .int (orN (i + 1) (fun b => bck v k b))), (4, .int (nI (6 * k + (cnt v k)))), (0, .ref (a 0)), (1, .ref (a 7)), (2, .int (nI k))]) hx hb dX3_contactsOfCircuit_35 hl (k := 1) rfl (nI_1 _) (by decide) rfl (fun ls hl => ?_)
        refine lv_goto (tgt := 21) hx hb dX3_contactsOfCircuit_38 (by decide) ?_
        exact ih_21 (i + 1) (by omega) (by omega) _ (lv_sub hl [0, 2, 1, 3, 4, 5] rfl)
  exact L_21 (cnt v k + 1) 0 (by omega) (by omega) _ (lv_sub hl [0, 1, 2, 3, 4, 5] rfl)
set_option maxRecDepth 20000 in
theorem hin_X3_frontsOfCircuit_X3 : ∀ w ∈ u_ws RX3 TX3 14, w ∈ wsX3_frontsOfCircuit := by decide +kernel
theorem lk_X3_frontsOfCircuit_27 : Cond.fieldLink RX3 27 "WeldedRelays$Room" "fronts" "[I" ∈ wsX3_frontsOfCircuit := by decide +kernel
set_option maxHeartbeats 4000000 in
set_option maxRecDepth 100000 in
/-- X3_frontsOfCircuit -/
theorem c_X3_frontsOfCircuit (l : Launch) (G : GG) (a : Nat → Nat) (v : Nat → Int32) (k : Nat) (hk : k < 10) (hI : RI v) : Met l yX3_frontsOfCircuit wsX3_frontsOfCircuit ({ frames := 2, cells := 0, slots := 0, locals := 46 }) (pcW G [.ref (a 0), .int (nI k)] (rW G a v)) (qRO (.int (frtS v k))) 0 0 nofree := by
  refine hd_RO (cc := cX3_frontsOfCircuit) (maxL := 2) (ret := some .int) (by decide) rfl (Nat.le_of_ble_eq_true rfl) ?_
  intro p e s m below meth c ls hx hb hr hts hown hlocks hml hP hKK hl
  have hl : lv_has ls 2 [(0, .ref (a 0)), (1, .int (nI k))] := hl
  refine lv_aload_n hx hb dX3_frontsOfCircuit_0 rfl (lv_at hl 0 rfl) ?_
  refine lv_aload_n hx hb dX3_frontsOfCircuit_1 rfl (lv_at hl 0 rfl) ?_
  refine va_get (D := gD G) (ci := 3) (v := .ref (a 6)) (C := RX3) (T := TX3) (N := 14) hx hb hts hin_X3_frontsOfCircuit_X3 hown hKK.1 hP 0 rfl rfl 11 (by decide) (hts _ lk_X3_frontsOfCircuit_27) (fun _ h9 => h9) rfl dX3_frontsOfCircuit_2 ?_
  refine lv_iload_n hx hb dX3_frontsOfCircuit_5 rfl (lv_at hl 1 rfl) ?_
  refine ro_V (As := [.ref (a 6), .int (nI k)]) (rest := []) ⟨hx, hb, hml, hown, hts⟩ (c_X3_contactsOfCircuit l G a v k (by omega) (by assumption)) (cwV 2 hts gX3_frontsOfCircuit_X3_contactsOfCircuit rfl rfl rfl (by decide +kernel) ⟨Nat.le_of_ble_eq_true rfl, Nat.le_of_ble_eq_true rfl⟩) hP hKK (va_recv hKK.1 hP (ci := 3) (q0 := 0) rfl rfl) rfl hl.1 rfl (Nat.le_of_ble_eq_true rfl) dX3_frontsOfCircuit_6 (Nat.zero_le _) (Nat.zero_le _) ?_
  exact ex_ROi hx hb hr hlocks rfl dX3_frontsOfCircuit_9 (rfl)
set_option maxRecDepth 20000 in
theorem hin_X3_backsOfCircuit_X3 : ∀ w ∈ u_ws RX3 TX3 14, w ∈ wsX3_backsOfCircuit := by decide +kernel
theorem lk_X3_backsOfCircuit_30 : Cond.fieldLink RX3 30 "WeldedRelays$Room" "backs" "[I" ∈ wsX3_backsOfCircuit := by decide +kernel
set_option maxHeartbeats 4000000 in
set_option maxRecDepth 100000 in
/-- X3_backsOfCircuit -/
theorem c_X3_backsOfCircuit (l : Launch) (G : GG) (a : Nat → Nat) (v : Nat → Int32) (k : Nat) (hk : k < 10) (hI : RI v) : Met l yX3_backsOfCircuit wsX3_backsOfCircuit ({ frames := 2, cells := 0, slots := 0, locals := 46 }) (pcW G [.ref (a 0), .int (nI k)] (rW G a v)) (qRO (.int (bckS v k))) 0 0 nofree := by
  refine hd_RO (cc := cX3_backsOfCircuit) (maxL := 2) (ret := some .int) (by decide) rfl (Nat.le_of_ble_eq_true rfl) ?_
  intro p e s m below meth c ls hx hb hr hts hown hlocks hml hP hKK hl
  have hl : lv_has ls 2 [(0, .ref (a 0)), (1, .int (nI k))] := hl
  refine lv_aload_n hx hb dX3_backsOfCircuit_0 rfl (lv_at hl 0 rfl) ?_
  refine lv_aload_n hx hb dX3_backsOfCircuit_1 rfl (lv_at hl 0 rfl) ?_
  refine va_get (D := gD G) (ci := 3) (v := .ref (a 7)) (C := RX3) (T := TX3) (N := 14) hx hb hts hin_X3_backsOfCircuit_X3 hown hKK.1 hP 0 rfl rfl 12 (by decide) (hts _ lk_X3_backsOfCircuit_30) (fun _ h9 => h9) rfl dX3_backsOfCircuit_2 ?_
  refine lv_iload_n hx hb dX3_backsOfCircuit_5 rfl (lv_at hl 1 rfl) ?_
  refine ro_V (As := [.ref (a 7), .int (nI k)]) (rest := []) ⟨hx, hb, hml, hown, hts⟩ (c_X3_contactsOfCircuit_b l G a v k (by omega) (by assumption)) (cwV 2 hts gX3_backsOfCircuit_X3_contactsOfCircuit rfl rfl rfl (by decide +kernel) ⟨Nat.le_of_ble_eq_true rfl, Nat.le_of_ble_eq_true rfl⟩) hP hKK (va_recv hKK.1 hP (ci := 3) (q0 := 0) rfl rfl) rfl hl.1 rfl (Nat.le_of_ble_eq_true rfl) dX3_backsOfCircuit_6 (Nat.zero_le _) (Nat.zero_le _) ?_
  exact ex_ROi hx hb hr hlocks rfl dX3_backsOfCircuit_9 (rfl)
set_option maxHeartbeats 4000000 in
set_option maxRecDepth 100000 in
/-- X3_relaysWithContactOf -/
theorem c_X3_relaysWithContactOf (l : Launch) (G : GG) (a : Nat → Nat) (v : Nat → Int32) (k : Nat) (hk : k < 10) (hI : RI v) : Met l yX3_relaysWithContactOf wsX3_relaysWithContactOf ({ frames := 3, cells := 0, slots := 0, locals := 67 }) (pcW G [.ref (a 0), .int (nI k)] (rW G a v)) (qRO (.int (relC v k))) 0 0 nofree := by
  refine hd_RO (cc := cX3_relaysWithContactOf) (maxL := 4) (ret := some .int) (by decide) rfl (Nat.le_of_ble_eq_true rfl) ?_
  intro p e s m below meth c ls hx hb hr hts hown hlocks hml hP hKK hl
  have hl : lv_has ls 4 [(0, .ref (a 0)), (1, .int (nI k))] := hl
  refine lv_iconst (v := 0) hx hb dX3_relaysWithContactOf_0 (by decide) ?_
  refine lv_istore_n (lv' := [(2, .int 0), (0, .ref (a 0)), (1, .int (nI k))]) hx hb dX3_relaysWithContactOf_1 rfl hl (by decide) rfl (fun ls hl => ?_)
  refine lv_iconst (v := 0) hx hb dX3_relaysWithContactOf_2 (by decide) ?_
  refine lv_istore_n (lv' := [(3, .int 0), (2, .int 0), (0, .ref (a 0)), (1, .int (nI k))]) hx hb dX3_relaysWithContactOf_3 rfl hl (by decide) rfl (fun ls hl => ?_)
  have L_4 : ∀ (n_4 : Nat) (i : Nat), (i ≤ 10) → (10 + 1 ≤ i + n_4) → ∀ (ls : Array Slot), lv_has ls 4 [(3, .int (nI i)), (2, .int (orN i (fun r => if hs (frtS v r ||| bckS v r) (nI k) = true then shl 1 (nI r) else 0))), (0, .ref (a 0)), (1, .int (nI k))] → W p l e ({ frames := 3, cells := 0, slots := 0, locals := 67 }) s m (List.toArray [.ref (a 0), .int (nI k)]) below meth c s.heap [] 0 0 (MQ below (qRO (.int (relC v k))) (List.toArray [.ref (a 0), .int (nI k)]) s 0 0 nofree) (F0 m 4 ls []) := by
    intro n_4
    induction n_4 with
    | zero => intro i h1 h2; exact absurd (h2) (by omega)
    | succ n_4 ih_4 =>
      intro i h1 h2 ls hl
      refine lv_iload_n hx hb dX3_relaysWithContactOf_4 rfl (lv_at hl 0 rfl) ?_
      refine lv_bipush (v := 10) hx hb dX3_relaysWithContactOf_5 (by decide) ?_
      refine lv_icmp_ge (tgt := 40) hx hb dX3_relaysWithContactOf_7 (by decide) (fun c_7 => ?_) (fun c_7 => ?_)
      · skip
        have c_7 : 10 ≤ i := (nI_leI (a := 10) (b := i) (by omega) (by omega)).mp c_7
        refine lv_iload_n hx hb dX3_relaysWithContactOf_40 rfl (lv_at hl 1 rfl) ?_
        exact ex_ROi hx hb hr hlocks rfl dX3_relaysWithContactOf_41 (by rw [show i = 10 by omega]; rfl)
      · skip
        have c_7 : ¬ (10 ≤ i) := fun q => c_7 ((nI_leI (a := 10) (b := i) (by omega) (by omega)).mpr q)
        refine lv_aload_n hx hb dX3_relaysWithContactOf_10 rfl (lv_at hl 2 rfl) ?_
        refine lv_iload_n hx hb dX3_relaysWithContactOf_11 rfl (lv_at hl 0 rfl) ?_
        refine ro_V (As := [.int (nI i)]) (rest := []) ⟨hx, hb, hml, hown, hts⟩ (c_X3_frontsOfCircuit l G a v i (by omega) (by assumption)) (cwV 1 hts gX3_relaysWithContactOf_X3_frontsOfCircuit rfl rfl rfl (by decide +kernel) ⟨Nat.le_of_ble_eq_true rfl, Nat.le_of_ble_eq_true rfl⟩) hP hKK (va_recv hKK.1 hP (ci := 3) (q0 := 0) rfl rfl) rfl hl.1 rfl (Nat.le_of_ble_eq_true rfl) dX3_relaysWithContactOf_12 (Nat.zero_le _) (Nat.zero_le _) ?_
        refine lv_aload_n hx hb dX3_relaysWithContactOf_15 rfl (lv_at hl 2 rfl) ?_
        refine lv_iload_n hx hb dX3_relaysWithContactOf_16 rfl (lv_at hl 0 rfl) ?_
        refine ro_V (As := [.int (nI i)]) (rest := [.int (frtS v i)]) ⟨hx, hb, hml, hown, hts⟩ (c_X3_backsOfCircuit l G a v i (by omega) (by assumption)) (cwV 1 hts gX3_relaysWithContactOf_X3_backsOfCircuit rfl rfl rfl (by decide +kernel) ⟨Nat.le_of_ble_eq_true rfl, Nat.le_of_ble_eq_true rfl⟩) hP hKK (va_recv hKK.1 hP (ci := 3) (q0 := 0) rfl rfl) rfl hl.1 rfl (Nat.le_of_ble_eq_true rfl) dX3_relaysWithContactOf_17 (Nat.zero_le _) (Nat.zero_le _) ?_
        refine lv_ior hx hb dX3_relaysWithContactOf_20 ?_
        refine lv_iload_n hx hb dX3_relaysWithContactOf_21 rfl (lv_at hl 3 rfl) ?_
        refine ro_SN (As := [.int ((frtS v i) ||| (bckS v i)), .int (nI k)]) (rest := []) ⟨hx, hb, hml, hown, hts⟩ (c_X4_isIn l G ((frtS v i) ||| (bckS v i)) (nI k)) ⟨va_cnB 2 hts gX3_relaysWithContactOf_X4_isIn_n86 rfl rfl rfl (hKK.2.1 _ (List.mem_of_getElem? (i := 5) rfl)) (hts (.initialized RX4) (by decide +kernel)) (by decide +kernel) ⟨Nat.le_of_ble_eq_true rfl, Nat.le_of_ble_eq_true rfl⟩, hts (.static yX4_isIn) (by decide +kernel), trivial⟩ (show gP G [] _ from fun k q h => by simp at h) hKK rfl hl.1 rfl (Nat.le_of_ble_eq_true rfl) dX3_relaysWithContactOf_22 (Nat.zero_le _) (Nat.zero_le _) ?_
        refine lv_if_eq (tgt := 34) hx hb dX3_relaysWithContactOf_25 (by decide) (fun c_25 => ?_) (fun c_25 => ?_)
        · skip
          have c_25 := b2i_0 c_25
          have hl : lv_has ls 4 [(3, .int (nI i)), (2, .int (orN (i + 1) (fun r => if hs (frtS v r ||| bckS v r) (nI k) = true then shl 1 (nI r) else 0))), (0, .ref (a 0)), (1, .int (nI k))] := by have e_l1 : (orN i (fun r => if hs (frtS v r ||| bckS v r) (nI k) = true then shl 1 (nI r) else 0)) = (orN (i + 1) (fun r => if hs (frtS v r ||| bckS v r) (nI k) = true then shl 1 (nI r) else 0)) := (by simp [orN, c_25]); rw [← e_l1]; exact hl
          refine lv_iinc (v := nI (i + 1)) (lv' := [(3, .int (nI (i + 1))), (2, .int (orN (i + 1) (fun r => if hs (frtS v r ||| bckS v r) (nI k) = true then shl 1 (nI r) else 0))), (0, .ref (a 0)), (1, .int (nI k))]) hx hb dX3_relaysWithContactOf_34 hl (k := 0) rfl (nI_1 _) (by decide) rfl (fun ls hl => ?_)
          refine lv_goto (tgt := 4) hx hb dX3_relaysWithContactOf_37 (by decide) ?_
          exact ih_4 (i + 1) (by omega) (by omega) _ (lv_sub hl [0, 1, 2, 3] rfl)
        · skip
          have c_25 := b2i_1 c_25
          refine lv_iload_n hx hb dX3_relaysWithContactOf_28 rfl (lv_at hl 1 rfl) ?_
          refine lv_iconst (v := 1) hx hb dX3_relaysWithContactOf_29 (by decide) ?_
          refine lv_iload_n hx hb dX3_relaysWithContactOf_30 rfl (lv_at hl 0 rfl) ?_
          refine lv_ishl hx hb dX3_relaysWithContactOf_31 ?_
          refine lv_asi (y := shl 1 (nI i)) rfl ?_
          refine lv_ior hx hb dX3_relaysWithContactOf_32 ?_
          refine lv_asi (y := orN (i + 1) (fun r => if hs (frtS v r ||| bckS v r) (nI k) = true then shl 1 (nI r) else 0)) (by simp [orN, c_25]) ?_
          refine lv_istore_n (lv' := [(2, .int (orN (i + 1) (fun r => if hs (frtS v r ||| bckS v r) (nI k) = true then shl 1 (nI r) else 0))), (3, .int (nI i)), (0, .ref (a 0)), (1, .int (nI k))]) hx hb dX3_relaysWithContactOf_33 rfl hl (by decide) rfl (fun ls hl => ?_)
          refine lv_iinc (v := nI (i + 1)) (lv' := [(3, .int (nI (i + 1))), (2, .int (orN (i + 1) (fun r => if hs (frtS v r ||| bckS v r) (nI k) = true then shl 1 (nI r) else 0))), (0, .ref (a 0)), (1, .int (nI k))]) hx hb dX3_relaysWithContactOf_34 hl (k := 1) rfl (nI_1 _) (by decide) rfl (fun ls hl => ?_)
          refine lv_goto (tgt := 4) hx hb dX3_relaysWithContactOf_37 (by decide) ?_
          exact ih_4 (i + 1) (by omega) (by omega) _ (lv_sub hl [0, 1, 2, 3] rfl)
  exact L_4 (10 + 1) 0 (by omega) (by omega) _ (lv_sub hl [0, 1, 2, 3] rfl)
set_option maxRecDepth 20000 in
theorem hin_X3_neverClosedBranches_X3 : ∀ w ∈ u_ws RX3 TX3 14, w ∈ wsX3_neverClosedBranches := by decide +kernel
theorem lk_X3_neverClosedBranches_24 : Cond.fieldLink RX3 24 "WeldedRelays$Room" "branchCounts" "[I" ∈ wsX3_neverClosedBranches := by decide +kernel
theorem lk_X3_neverClosedBranches_27 : Cond.fieldLink RX3 27 "WeldedRelays$Room" "fronts" "[I" ∈ wsX3_neverClosedBranches := by decide +kernel
theorem lk_X3_neverClosedBranches_30 : Cond.fieldLink RX3 30 "WeldedRelays$Room" "backs" "[I" ∈ wsX3_neverClosedBranches := by decide +kernel
set_option maxHeartbeats 4000000 in
set_option maxRecDepth 100000 in
/-- X3_neverClosedBranches -/
theorem c_X3_neverClosedBranches (l : Launch) (G : GG) (a : Nat → Nat) (v : Nat → Int32) (hI : RI v) : Met l yX3_neverClosedBranches wsX3_neverClosedBranches ({ frames := 1, cells := 0, slots := 0, locals := 21 }) (pcW G [.ref (a 0)] (rW G a v)) (qRO (.int (nevC v))) 0 0 nofree := by
  refine hd_RO (cc := cX3_neverClosedBranches) (maxL := 5) (ret := some .int) (by decide) rfl (Nat.le_of_ble_eq_true rfl) ?_
  intro p e s m below meth c ls hx hb hr hts hown hlocks hml hP hKK hl
  have hl : lv_has ls 5 [(0, .ref (a 0))] := hl
  refine lv_iconst (v := 0) hx hb dX3_neverClosedBranches_0 (by decide) ?_
  refine lv_istore_n (lv' := [(1, .int 0), (0, .ref (a 0))]) hx hb dX3_neverClosedBranches_1 rfl hl (by decide) rfl (fun ls hl => ?_)
  refine lv_iconst (v := 0) hx hb dX3_neverClosedBranches_2 (by decide) ?_
  refine lv_istore_n (lv' := [(2, .int 0), (1, .int 0), (0, .ref (a 0))]) hx hb dX3_neverClosedBranches_3 rfl hl (by decide) rfl (fun ls hl => ?_)
  have L_4 : ∀ (n_4 : Nat) (i : Nat), (i ≤ 10) → (10 + 1 ≤ i + n_4) → ∀ (ls : Array Slot), lv_has ls 5 [(2, .int (nI i)), (1, .int (sumN i (fun r => nevR v r))), (0, .ref (a 0))] → W p l e ({ frames := 1, cells := 0, slots := 0, locals := 21 }) s m (List.toArray [.ref (a 0)]) below meth c s.heap [] 0 0 (MQ below (qRO (.int (nevC v))) (List.toArray [.ref (a 0)]) s 0 0 nofree) (F0 m 4 ls []) := by
    intro n_4
    induction n_4 with
    | zero => intro i h1 h2; exact absurd (h2) (by omega)
    | succ n_4 ih_4 =>
      intro i h1 h2 ls hl
      refine lv_iload_n hx hb dX3_neverClosedBranches_4 rfl (lv_at hl 0 rfl) ?_
      refine lv_bipush (v := 10) hx hb dX3_neverClosedBranches_5 (by decide) ?_
      refine lv_icmp_ge (tgt := 67) hx hb dX3_neverClosedBranches_7 (by decide) (fun c_7 => ?_) (fun c_7 => ?_)
      · skip
        have c_7 : 10 ≤ i := (nI_leI (a := 10) (b := i) (by omega) (by omega)).mp c_7
        refine lv_iload_n hx hb dX3_neverClosedBranches_67 rfl (lv_at hl 1 rfl) ?_
        exact ex_ROi hx hb hr hlocks rfl dX3_neverClosedBranches_68 (by rw [show i = 10 by omega]; rfl)
      · skip
        have c_7 : ¬ (10 ≤ i) := fun q => c_7 ((nI_leI (a := 10) (b := i) (by omega) (by omega)).mpr q)
        have hc := hI.1 i (by omega)
        refine lv_iload_n hx hb dX3_neverClosedBranches_10 rfl (lv_at hl 0 rfl) ?_
        refine lv_aload_n hx hb dX3_neverClosedBranches_11 rfl (lv_at hl 2 rfl) ?_
        refine va_get (D := gD G) (ci := 3) (v := .ref (a 5)) (C := RX3) (T := TX3) (N := 14) hx hb hts hin_X3_neverClosedBranches_X3 hown hKK.1 hP 0 rfl rfl 10 (by decide) (hts _ lk_X3_neverClosedBranches_24) (fun _ h9 => h9) rfl dX3_neverClosedBranches_12 ?_
        refine lv_iload_n hx hb dX3_neverClosedBranches_15 rfl (lv_at hl 0 rfl) ?_
        refine va_ialdN (j := i) (v := v (px i 4)) hx hb hKK.1 hP 5 0 rfl rfl (rfl) (by omega) (by decide) (rfl) dX3_neverClosedBranches_16 ?_
        refine lv_asi (y := nI (cnt v i)) ((hI.1 i (by omega)).1) ?_
        refine ro_SN (As := [.int (nI i), .int (nI (cnt v i))]) (rest := []) ⟨hx, hb, hml, hown, hts⟩ (c_X4_placeOf l G i (cnt v i)) ⟨va_cnB 2 hts gX3_neverClosedBranches_X4_placeOf_n65 rfl rfl rfl (hKK.2.1 _ (List.mem_of_getElem? (i := 4) rfl)) (hts (.initialized RX4) (by decide +kernel)) (by decide +kernel) ⟨Nat.le_of_ble_eq_true rfl, Nat.le_of_ble_eq_true rfl⟩, hts (.static yX4_placeOf) (by decide +kernel), trivial⟩ (show gP G [] _ from fun k q h => by simp at h) hKK rfl hl.1 rfl (Nat.le_of_ble_eq_true rfl) dX3_neverClosedBranches_17 (Nat.zero_le _) (Nat.zero_le _) ?_
        refine lv_istore_n (lv' := [(3, .int (nI (6 * i + (cnt v i)))), (2, .int (nI i)), (1, .int (sumN i (fun r => nevR v r))), (0, .ref (a 0))]) hx hb dX3_neverClosedBranches_20 rfl hl (by decide) rfl (fun ls hl => ?_)
        refine lv_iload_n hx hb dX3_neverClosedBranches_21 rfl (lv_at hl 1 rfl) ?_
        refine lv_iconst (v := 0) hx hb dX3_neverClosedBranches_22 (by decide) ?_
        refine ro_SN (As := [.int (nI i), .int (nI 0)]) (rest := []) ⟨hx, hb, hml, hown, hts⟩ (c_X4_placeOf l G i 0) ⟨va_cnB 2 hts gX3_neverClosedBranches_X4_placeOf_n65 rfl rfl rfl (hKK.2.1 _ (List.mem_of_getElem? (i := 4) rfl)) (hts (.initialized RX4) (by decide +kernel)) (by decide +kernel) ⟨Nat.le_of_ble_eq_true rfl, Nat.le_of_ble_eq_true rfl⟩, hts (.static yX4_placeOf) (by decide +kernel), trivial⟩ (show gP G [] _ from fun k q h => by simp at h) hKK rfl hl.1 rfl (Nat.le_of_ble_eq_true rfl) dX3_neverClosedBranches_23 (Nat.zero_le _) (Nat.zero_le _) ?_
        refine lv_istore (lv' := [(4, .int (nI (6 * i + 0))), (3, .int (nI (6 * i + (cnt v i)))), (2, .int (nI i)), (1, .int (sumN i (fun r => nevR v r))), (0, .ref (a 0))]) hx hb dX3_neverClosedBranches_26 hl (by decide) rfl (fun ls hl => ?_)
        have hl : lv_has ls 5 [(4, .int (nI (6 * i + 0))), (3, .int (nI (6 * i + (cnt v i)))), (2, .int (nI i)), (1, .int (sumN i (fun r => nevR v r) + sumN 0 (fun b => if frt v i b &&& bck v i b ≠ 0 then 1 else 0))), (0, .ref (a 0))] := by have e_l1 : (sumN i (fun r => nevR v r)) = (sumN i (fun r => nevR v r) + sumN 0 (fun b => if frt v i b &&& bck v i b ≠ 0 then 1 else 0)) := ((Int32.add_zero _).symm); rw [← e_l1]; exact hl
        have L_28 : ∀ (n_28 : Nat) (j : Nat), (j ≤ cnt v i) → (cnt v i + 1 ≤ j + n_28) → ∀ (ls : Array Slot), lv_has ls 5 [(4, .int (nI (6 * i + j))), (3, .int (nI (6 * i + (cnt v i)))), (2, .int (nI i)), (1, .int (sumN i (fun r => nevR v r) + sumN j (fun b => if frt v i b &&& bck v i b ≠ 0 then 1 else 0))), (0, .ref (a 0))] → W p l e ({ frames := 1, cells := 0, slots := 0, locals := 21 }) s m (List.toArray [.ref (a 0)]) below meth c s.heap [] 0 0 (MQ below (qRO (.int (nevC v))) (List.toArray [.ref (a 0)]) s 0 0 nofree) (F0 m 28 ls []) := by
          intro n_28
          induction n_28 with
          | zero => intro j g1 g2; exact absurd (g2) (by omega)
          | succ n_28 ih_28 =>
            intro j g1 g2 ls hl
            refine lv_iload hx hb dX3_neverClosedBranches_28 (lv_at hl 0 rfl) ?_
            refine lv_iload_n hx hb dX3_neverClosedBranches_30 rfl (lv_at hl 1 rfl) ?_
            refine lv_icmp_ge (tgt := 61) hx hb dX3_neverClosedBranches_31 (by decide) (fun c_31 => ?_) (fun c_31 => ?_)
            · skip
              have c_31 : (6 * i + (cnt v i)) ≤ (6 * i + j) := (nI_leI (a := 6 * i + (cnt v i)) (b := 6 * i + j) (by omega) (by omega)).mp c_31
              have hl : lv_has ls 5 [(4, .int (nI (6 * i + j))), (3, .int (nI (6 * i + (cnt v i)))), (2, .int (nI i)), (1, .int (sumN (i + 1) (fun r => nevR v r))), (0, .ref (a 0))] := by have e_l2 : (sumN i (fun r => nevR v r) + sumN j (fun b => if frt v i b &&& bck v i b ≠ 0 then 1 else 0)) = (sumN (i + 1) (fun r => nevR v r)) := (by rw [show j = cnt v i by omega]; rfl); rw [← e_l2]; exact hl
              refine lv_iinc (v := nI (i + 1)) (lv' := [(2, .int (nI (i + 1))), (4, .int (nI (6 * i + j))), (3, .int (nI (6 * i + (cnt v i)))), (1, .int (sumN (i + 1) (fun r => nevR v r))), (0, .ref (a 0))]) hx hb dX3_neverClosedBranches_61 hl (k := 2) rfl (nI_1 _) (by decide) rfl (fun ls hl => ?_)
              refine lv_goto (tgt := 4) hx hb dX3_neverClosedBranches_64 (by decide) ?_
              exact ih_4 (i + 1) (by omega) (by omega) _ (lv_sub hl [0, 3, 4] rfl)
            · skip
              have c_31 : ¬ ((6 * i + (cnt v i)) ≤ (6 * i + j)) := fun q => c_31 ((nI_leI (a := 6 * i + (cnt v i)) (b := 6 * i + j) (by omega) (by omega)).mpr q)
              refine lv_aload_n hx hb dX3_neverClosedBranches_34 rfl (lv_at hl 4 rfl) ?_
              refine va_get (D := gD G) (ci := 3) (v := .ref (a 6)) (C := RX3) (T := TX3) (N := 14) hx hb hts hin_X3_neverClosedBranches_X3 hown hKK.1 hP 0 rfl rfl 11 (by decide) (hts _ lk_X3_neverClosedBranches_27) (fun _ h9 => h9) rfl dX3_neverClosedBranches_35 ?_
              refine lv_iload hx hb dX3_neverClosedBranches_38 (lv_at hl 0 rfl) ?_
              refine va_ialdN (j := 6 * i + j) (v := frt v i j) hx hb hKK.1 hP 6 0 rfl rfl (rfl) (by omega) (by decide) (rB_atfrt _ _ _ (by omega)) dX3_neverClosedBranches_40 ?_
              refine lv_aload_n hx hb dX3_neverClosedBranches_41 rfl (lv_at hl 4 rfl) ?_
              refine va_get (D := gD G) (ci := 3) (v := .ref (a 7)) (C := RX3) (T := TX3) (N := 14) hx hb hts hin_X3_neverClosedBranches_X3 hown hKK.1 hP 0 rfl rfl 12 (by decide) (hts _ lk_X3_neverClosedBranches_30) (fun _ h9 => h9) rfl dX3_neverClosedBranches_42 ?_
              refine lv_iload hx hb dX3_neverClosedBranches_45 (lv_at hl 0 rfl) ?_
              refine va_ialdN (j := 6 * i + j) (v := bck v i j) hx hb hKK.1 hP 7 0 rfl rfl (rfl) (by omega) (by decide) (rB_atbck _ _ _ (by omega)) dX3_neverClosedBranches_47 ?_
              refine lv_iand hx hb dX3_neverClosedBranches_48 ?_
              refine lv_if_eq (tgt := 55) hx hb dX3_neverClosedBranches_49 (by decide) (fun c_49 => ?_) (fun c_49 => ?_)
              · skip
                have hl : lv_has ls 5 [(4, .int (nI (6 * i + j))), (3, .int (nI (6 * i + (cnt v i)))), (2, .int (nI i)), (1, .int (sumN i (fun r => nevR v r) + sumN (j + 1) (fun b => if frt v i b &&& bck v i b ≠ 0 then 1 else 0))), (0, .ref (a 0))] := by have e_l3 : (sumN i (fun r => nevR v r) + sumN j (fun b => if frt v i b &&& bck v i b ≠ 0 then 1 else 0)) = (sumN i (fun r => nevR v r) + sumN (j + 1) (fun b => if frt v i b &&& bck v i b ≠ 0 then 1 else 0)) := (by simp [sumN, c_49, Int32.add_assoc]); rw [← e_l3]; exact hl
                refine lv_iinc (v := nI ((6 * i + j) + 1)) (lv' := [(4, .int (nI ((6 * i + j) + 1))), (3, .int (nI (6 * i + (cnt v i)))), (2, .int (nI i)), (1, .int (sumN i (fun r => nevR v r) + sumN (j + 1) (fun b => if frt v i b &&& bck v i b ≠ 0 then 1 else 0))), (0, .ref (a 0))]) hx hb dX3_neverClosedBranches_55 hl (k := 0) rfl (nI_1 _) (by decide) rfl (fun ls hl => ?_)
                refine lv_goto (tgt := 28) hx hb dX3_neverClosedBranches_58 (by decide) ?_
                exact ih_28 (j + 1) (by omega) (by omega) _ (lv_sub hl [0, 1, 2, 3, 4] rfl)
              · skip
                refine lv_iinc (v := sumN i (fun r => nevR v r) + sumN (j + 1) (fun b => if frt v i b &&& bck v i b ≠ 0 then 1 else 0)) (lv' := [(1, .int (sumN i (fun r => nevR v r) + sumN (j + 1) (fun b => if frt v i b &&& bck v i b ≠ 0 then 1 else 0))), (4, .int (nI (6 * i + j))), (3, .int (nI (6 * i + (cnt v i)))), (2, .int (nI i)), (0, .ref (a 0))]) hx hb dX3_neverClosedBranches_52 hl (k := 3) rfl (by simp [sumN, c_49, Int32.add_assoc]) (by decide) rfl (fun ls hl => ?_)
                refine lv_iinc (v := nI ((6 * i + j) + 1)) (lv' := [(4, .int (nI ((6 * i + j) + 1))), (1, .int (sumN i (fun r => nevR v r) + sumN (j + 1) (fun b => if frt v i b &&& bck v i b ≠ 0 then 1 else 0))), (3, .int (nI (6 * i + (cnt v i)))), (2, .int (nI i)), (0, .ref (a 0))]) hx hb dX3_neverClosedBranches_55 hl (k := 1) rfl (nI_1 _) (by decide) rfl (fun ls hl => ?_)
                refine lv_goto (tgt := 28) hx hb dX3_neverClosedBranches_58 (by decide) ?_
                exact ih_28 (j + 1) (by omega) (by omega) _ (lv_sub hl [0, 2, 3, 1, 4] rfl)
        exact L_28 (cnt v i + 1) 0 (by omega) (by omega) _ (lv_sub hl [0, 1, 2, 3, 4] rfl)
  exact L_4 (10 + 1) 0 (by omega) (by omega) _ (lv_sub hl [0, 1, 2] rfl)
set_option maxRecDepth 20000 in
theorem hin_X3_clearCircuit_X3 : ∀ w ∈ u_ws RX3 TX3 14, w ∈ wsX3_clearCircuit := by decide +kernel
theorem lk_X3_clearCircuit_24 : Cond.fieldLink RX3 24 "WeldedRelays$Room" "branchCounts" "[I" ∈ wsX3_clearCircuit := by decide +kernel
set_option maxHeartbeats 4000000 in
set_option maxRecDepth 100000 in
/-- X3_clearCircuit -/
theorem c_X3_clearCircuit (l : Launch) (G : GG) (a : Nat → Nat) (v : Nat → Int32) (k : Nat) (hk : k < 10) : Met l yX3_clearCircuit wsX3_clearCircuit ({ frames := 0, cells := 0, slots := 0, locals := 0 }) (pcM G [.ref (a 0), .int (nI k)] (rW G a v)) (qMU G none (rW G a v) (rW G a (clrF k v))) 0 0 (aA (rW G a v)) := by
  refine hd_MU (cc := cX3_clearCircuit) (maxL := 2) (ret := none) (by decide) rfl (Nat.le_of_ble_eq_true rfl) ?_
  intro p e s m below meth c ls hx hb hr hts hown hlocks hml hP hKK hD hS hl
  have hl : lv_has ls 2 [(0, .ref (a 0)), (1, .int (nI k))] := hl
  refine lv_aload_n hx hb dX3_clearCircuit_0 rfl (lv_at hl 0 rfl) ?_
  refine va_get (D := gD G) (ci := 3) (v := .ref (a 5)) (C := RX3) (T := TX3) (N := 14) hx hb hts hin_X3_clearCircuit_X3 hown hKK.1 hP 0 rfl rfl 10 (by decide) (hts _ lk_X3_clearCircuit_24) (fun _ h9 => h9) rfl dX3_clearCircuit_1 ?_
  refine lv_iload_n hx hb dX3_clearCircuit_4 rfl (lv_at hl 1 rfl) ?_
  refine lv_iconst (v := 0) hx hb dX3_clearCircuit_5 (by decide) ?_
  refine va_iastN (j := k) (x := 0) hx hb hKK.1 hP hD hS 5 0 rfl rfl (rfl) (by omega) (by decide) dX3_clearCircuit_6 (fun H locs hP hD hS => ?_)
  have e_6 := rW_setR G a v k 4 0 (by decide)
  have hP : gP G (rW G a (upd v (px k 4) 0)) H := by rw [e_6]; exact hP
  have hD : va_D (aA (rW G a v)) (rW G a (upd v (px k 4) 0)) := by rw [e_6]; exact hD
  exact ex_MUv (w2 := (rW G a (upd v (px k 4) 0))) hx hb hr hlocks hP hS dX3_clearCircuit_7 (fun h => h)
set_option maxRecDepth 20000 in
theorem hin_X3_hasRoomForBranch_X3 : ∀ w ∈ u_ws RX3 TX3 14, w ∈ wsX3_hasRoomForBranch := by decide +kernel
theorem lk_X3_hasRoomForBranch_24 : Cond.fieldLink RX3 24 "WeldedRelays$Room" "branchCounts" "[I" ∈ wsX3_hasRoomForBranch := by decide +kernel
set_option maxHeartbeats 4000000 in
set_option maxRecDepth 100000 in
/-- X3_hasRoomForBranch -/
theorem c_X3_hasRoomForBranch (l : Launch) (G : GG) (a : Nat → Nat) (v : Nat → Int32) (k : Nat) (hk : k < 10) : Met l yX3_hasRoomForBranch wsX3_hasRoomForBranch ({ frames := 0, cells := 0, slots := 0, locals := 0 }) (pcW G [.ref (a 0), .int (nI k)] (rW G a v)) (qRO (.int (b2i (rmB k v)))) 0 0 nofree := by
  refine hd_RO (cc := cX3_hasRoomForBranch) (maxL := 2) (ret := some .boolean) (by decide) rfl (Nat.le_of_ble_eq_true rfl) ?_
  intro p e s m below meth c ls hx hb hr hts hown hlocks hml hP hKK hl
  have hl : lv_has ls 2 [(0, .ref (a 0)), (1, .int (nI k))] := hl
  refine lv_aload_n hx hb dX3_hasRoomForBranch_0 rfl (lv_at hl 0 rfl) ?_
  refine va_get (D := gD G) (ci := 3) (v := .ref (a 5)) (C := RX3) (T := TX3) (N := 14) hx hb hts hin_X3_hasRoomForBranch_X3 hown hKK.1 hP 0 rfl rfl 10 (by decide) (hts _ lk_X3_hasRoomForBranch_24) (fun _ h9 => h9) rfl dX3_hasRoomForBranch_1 ?_
  refine lv_iload_n hx hb dX3_hasRoomForBranch_4 rfl (lv_at hl 1 rfl) ?_
  refine va_ialdN (j := k) (v := v (px k 4)) hx hb hKK.1 hP 5 0 rfl rfl (rfl) (by omega) (by decide) (rfl) dX3_hasRoomForBranch_5 ?_
  refine lv_bipush (v := 6) hx hb dX3_hasRoomForBranch_6 (by decide) ?_
  refine lv_icmp_ge (tgt := 15) hx hb dX3_hasRoomForBranch_8 (by decide) (fun c_8 => ?_) (fun c_8 => ?_)
  · skip
    refine lv_iconst (v := 0) hx hb dX3_hasRoomForBranch_15 (by decide) ?_
    exact ex_ROz (b := rmB k v) hx hb hr hlocks rfl dX3_hasRoomForBranch_16 (by simp_all [rmB, b2i]) rfl
  · skip
    refine lv_iconst (v := 1) hx hb dX3_hasRoomForBranch_11 (by decide) ?_
    refine lv_goto (tgt := 16) hx hb dX3_hasRoomForBranch_12 (by decide) ?_
    exact ex_ROz (b := rmB k v) hx hb hr hlocks rfl dX3_hasRoomForBranch_16 (by simp_all [rmB, b2i]) rfl
set_option maxRecDepth 20000 in
theorem hin_X3_addBranch_X3 : ∀ w ∈ u_ws RX3 TX3 14, w ∈ wsX3_addBranch := by decide +kernel
theorem lk_X3_addBranch_24 : Cond.fieldLink RX3 24 "WeldedRelays$Room" "branchCounts" "[I" ∈ wsX3_addBranch := by decide +kernel
theorem lk_X3_addBranch_27 : Cond.fieldLink RX3 27 "WeldedRelays$Room" "fronts" "[I" ∈ wsX3_addBranch := by decide +kernel
theorem lk_X3_addBranch_30 : Cond.fieldLink RX3 30 "WeldedRelays$Room" "backs" "[I" ∈ wsX3_addBranch := by decide +kernel
theorem lk_X3_addBranch_33 : Cond.fieldLink RX3 33 "WeldedRelays$Room" "contactCounts" "[I" ∈ wsX3_addBranch := by decide +kernel
set_option maxHeartbeats 4000000 in
set_option maxRecDepth 100000 in
/-- X3_addBranch -/
theorem c_X3_addBranch (l : Launch) (G : GG) (a : Nat → Nat) (v : Nat → Int32) (k : Nat) (hk : k < 10) (hI : RI v) : Met l yX3_addBranch wsX3_addBranch ({ frames := 1, cells := 0, slots := 0, locals := 21 }) (pcM G [.ref (a 0), .int (nI k)] (rW G a v)) (qMU G none (rW G a v) (rW G a (addB k v))) 0 0 (aA (rW G a v)) := by
  refine hd_MU (cc := cX3_addBranch) (maxL := 3) (ret := none) (by decide) rfl (Nat.le_of_ble_eq_true rfl) ?_
  intro p e s m below meth c ls hx hb hr hts hown hlocks hml hP hKK hD hS hl
  have hl : lv_has ls 3 [(0, .ref (a 0)), (1, .int (nI k))] := hl
  have hc := hI.1 k hk
  refine lv_aload_n hx hb dX3_addBranch_0 rfl (lv_at hl 0 rfl) ?_
  refine lv_iload_n hx hb dX3_addBranch_1 rfl (lv_at hl 1 rfl) ?_
  refine ro_V (As := [.int (nI k)]) (rest := []) ⟨hx, hb, hml, hown, hts⟩ (c_X3_hasRoomForBranch l G a v k (by omega)) (cwV 1 hts gX3_addBranch_X3_hasRoomForBranch rfl rfl rfl (by decide +kernel) ⟨Nat.le_of_ble_eq_true rfl, Nat.le_of_ble_eq_true rfl⟩) hP hKK (va_recv hKK.1 hP (ci := 3) (q0 := 0) rfl rfl) rfl hl.1 rfl (Nat.le_of_ble_eq_true rfl) dX3_addBranch_2 (Nat.zero_le _) (Nat.zero_le _) ?_
  refine lv_if_eq (tgt := 50) hx hb dX3_addBranch_5 (by decide) (fun c_5 => ?_) (fun c_5 => ?_)
  · skip
    have c_5 := b2i_0 c_5
    exact ex_MUv (w2 := (rW G a v)) hx hb hr hlocks hP hS dX3_addBranch_50 (fun h => by unfold addB; first | (rw [if_pos (of_decide_eq_true c_5)]; exact h) | (rw [if_neg (of_decide_eq_false c_5)]; exact h))
  · skip
    have c_5 := b2i_1 c_5
    have c5 : cnt v k < 6 := rmB_lt hI hk c_5
    refine lv_iload_n hx hb dX3_addBranch_8 rfl (lv_at hl 1 rfl) ?_
    refine lv_aload_n hx hb dX3_addBranch_9 rfl (lv_at hl 0 rfl) ?_
    refine va_get (D := gD G) (ci := 3) (v := .ref (a 5)) (C := RX3) (T := TX3) (N := 14) hx hb hts hin_X3_addBranch_X3 hown hKK.1 hP 0 rfl rfl 10 (by decide) (hts _ lk_X3_addBranch_24) (fun _ h9 => h9) rfl dX3_addBranch_10 ?_
    refine lv_iload_n hx hb dX3_addBranch_13 rfl (lv_at hl 1 rfl) ?_
    refine va_ialdN (j := k) (v := v (px k 4)) hx hb hKK.1 hP 5 0 rfl rfl (rfl) (by omega) (by decide) (rfl) dX3_addBranch_14 ?_
    refine lv_asi (y := nI (cnt v k)) (hc.1) ?_
    refine ro_SN (As := [.int (nI k), .int (nI (cnt v k))]) (rest := []) ⟨hx, hb, hml, hown, hts⟩ (c_X4_placeOf l G k (cnt v k)) ⟨va_cnB 2 hts gX3_addBranch_X4_placeOf_n65 rfl rfl rfl (hKK.2.1 _ (List.mem_of_getElem? (i := 4) rfl)) (hts (.initialized RX4) (by decide +kernel)) (by decide +kernel) ⟨Nat.le_of_ble_eq_true rfl, Nat.le_of_ble_eq_true rfl⟩, hts (.static yX4_placeOf) (by decide +kernel), trivial⟩ (show gP G [] _ from fun k q h => by simp at h) hKK rfl hl.1 rfl (Nat.le_of_ble_eq_true rfl) dX3_addBranch_15 (Nat.zero_le _) (Nat.zero_le _) ?_
    refine lv_istore_n (lv' := [(2, .int (nI (6 * k + (cnt v k)))), (0, .ref (a 0)), (1, .int (nI k))]) hx hb dX3_addBranch_18 rfl hl (by decide) rfl (fun ls hl => ?_)
    refine lv_aload_n hx hb dX3_addBranch_19 rfl (lv_at hl 1 rfl) ?_
    refine va_get (D := gD G) (ci := 3) (v := .ref (a 6)) (C := RX3) (T := TX3) (N := 14) hx hb hts hin_X3_addBranch_X3 hown hKK.1 hP 0 rfl rfl 11 (by decide) (hts _ lk_X3_addBranch_27) (fun _ h9 => h9) rfl dX3_addBranch_20 ?_
    refine lv_iload_n hx hb dX3_addBranch_23 rfl (lv_at hl 0 rfl) ?_
    refine lv_iconst (v := 0) hx hb dX3_addBranch_24 (by decide) ?_
    refine va_iastN (j := 6 * k + (cnt v k)) (x := 0) hx hb hKK.1 hP hD hS 6 0 rfl rfl (rfl) (by omega) (by decide) dX3_addBranch_25 (fun H locs hP hD hS => ?_)
    have e_25 := rW_setB G a v k (cnt v k) 0 0 (by decide) (by omega)
    have hP : gP G (rW G a (upd v (px k (5 + 3 * (cnt v k))) 0)) H := by rw [e_25]; exact hP
    have hD : va_D (aA (rW G a v)) (rW G a (upd v (px k (5 + 3 * (cnt v k))) 0)) := by rw [e_25]; exact hD
    refine lv_aload_n hx hb dX3_addBranch_26 rfl (lv_at hl 1 rfl) ?_
    refine va_get (D := gD G) (ci := 3) (v := .ref (a 7)) (C := RX3) (T := TX3) (N := 14) hx hb hts hin_X3_addBranch_X3 hown hKK.1 hP 0 rfl rfl 12 (by decide) (hts _ lk_X3_addBranch_30) (fun _ h9 => h9) rfl dX3_addBranch_27 ?_
    refine lv_iload_n hx hb dX3_addBranch_30 rfl (lv_at hl 0 rfl) ?_
    refine lv_iconst (v := 0) hx hb dX3_addBranch_31 (by decide) ?_
    refine va_iastN (j := 6 * k + (cnt v k)) (x := 0) hx hb hKK.1 hP hD hS 7 0 rfl rfl (rfl) (by omega) (by decide) dX3_addBranch_32 (fun H locs hP hD hS => ?_)
    have e_32 := rW_setB G a (upd v (px k (5 + 3 * (cnt v k))) 0) k (cnt v k) 1 0 (by decide) (by omega)
    have hP : gP G (rW G a (upd (upd v (px k (5 + 3 * (cnt v k))) 0) (px k (6 + 3 * (cnt v k))) 0)) H := by rw [e_32]; exact hP
    have hD : va_D (aA (rW G a v)) (rW G a (upd (upd v (px k (5 + 3 * (cnt v k))) 0) (px k (6 + 3 * (cnt v k))) 0)) := by rw [e_32]; exact hD
    refine lv_aload_n hx hb dX3_addBranch_33 rfl (lv_at hl 1 rfl) ?_
    refine va_get (D := gD G) (ci := 3) (v := .ref (a 8)) (C := RX3) (T := TX3) (N := 14) hx hb hts hin_X3_addBranch_X3 hown hKK.1 hP 0 rfl rfl 13 (by decide) (hts _ lk_X3_addBranch_33) (fun _ h9 => h9) rfl dX3_addBranch_34 ?_
    refine lv_iload_n hx hb dX3_addBranch_37 rfl (lv_at hl 0 rfl) ?_
    refine lv_iconst (v := 0) hx hb dX3_addBranch_38 (by decide) ?_
    refine va_iastN (j := 6 * k + (cnt v k)) (x := 0) hx hb hKK.1 hP hD hS 8 0 rfl rfl (rfl) (by omega) (by decide) dX3_addBranch_39 (fun H locs hP hD hS => ?_)
    have e_39 := rW_setB G a (upd (upd v (px k (5 + 3 * (cnt v k))) 0) (px k (6 + 3 * (cnt v k))) 0) k (cnt v k) 2 0 (by decide) (by omega)
    have hP : gP G (rW G a (upd (upd (upd v (px k (5 + 3 * (cnt v k))) 0) (px k (6 + 3 * (cnt v k))) 0) (px k (7 + 3 * (cnt v k))) 0)) H := by rw [e_39]; exact hP
    have hD : va_D (aA (rW G a v)) (rW G a (upd (upd (upd v (px k (5 + 3 * (cnt v k))) 0) (px k (6 + 3 * (cnt v k))) 0) (px k (7 + 3 * (cnt v k))) 0)) := by rw [e_39]; exact hD
    refine lv_aload_n hx hb dX3_addBranch_40 rfl (lv_at hl 1 rfl) ?_
    refine va_get (D := gD G) (ci := 3) (v := .ref (a 5)) (C := RX3) (T := TX3) (N := 14) hx hb hts hin_X3_addBranch_X3 hown hKK.1 hP 0 rfl rfl 10 (by decide) (hts _ lk_X3_addBranch_24) (fun _ h9 => h9) rfl dX3_addBranch_41 ?_
    refine lv_iload_n hx hb dX3_addBranch_44 rfl (lv_at hl 2 rfl) ?_
    refine lv_dup2_11 hx hb dX3_addBranch_45 rfl rfl ?_
    refine va_ialdN (j := k) (v := (upd (upd (upd v (px k (5 + 3 * (cnt v k))) 0) (px k (6 + 3 * (cnt v k))) 0) (px k (7 + 3 * (cnt v k))) 0) (px k 4)) hx hb hKK.1 hP 5 0 rfl rfl (rfl) (by omega) (by decide) (rfl) dX3_addBranch_46 ?_
    refine lv_iconst (v := 1) hx hb dX3_addBranch_47 (by decide) ?_
    refine lv_iadd hx hb dX3_addBranch_48 ?_
    refine va_iastN (j := k) (x := (((upd (upd (upd v (px k (5 + 3 * (cnt v k))) 0) (px k (6 + 3 * (cnt v k))) 0) (px k (7 + 3 * (cnt v k))) 0) (px k 4)) + 1)) hx hb hKK.1 hP hD hS 5 0 rfl rfl (rfl) (by omega) (by decide) dX3_addBranch_49 (fun H locs hP hD hS => ?_)
    have e_49 := rW_setR G a (upd (upd (upd v (px k (5 + 3 * (cnt v k))) 0) (px k (6 + 3 * (cnt v k))) 0) (px k (7 + 3 * (cnt v k))) 0) k 4 (((upd (upd (upd v (px k (5 + 3 * (cnt v k))) 0) (px k (6 + 3 * (cnt v k))) 0) (px k (7 + 3 * (cnt v k))) 0) (px k 4)) + 1) (by decide)
    have hP : gP G (rW G a (upd (upd (upd (upd v (px k (5 + 3 * (cnt v k))) 0) (px k (6 + 3 * (cnt v k))) 0) (px k (7 + 3 * (cnt v k))) 0) (px k 4) (((upd (upd (upd v (px k (5 + 3 * (cnt v k))) 0) (px k (6 + 3 * (cnt v k))) 0) (px k (7 + 3 * (cnt v k))) 0) (px k 4)) + 1))) H := by rw [e_49]; exact hP
    have hD : va_D (aA (rW G a v)) (rW G a (upd (upd (upd (upd v (px k (5 + 3 * (cnt v k))) 0) (px k (6 + 3 * (cnt v k))) 0) (px k (7 + 3 * (cnt v k))) 0) (px k 4) (((upd (upd (upd v (px k (5 + 3 * (cnt v k))) 0) (px k (6 + 3 * (cnt v k))) 0) (px k (7 + 3 * (cnt v k))) 0) (px k 4)) + 1))) := by rw [e_49]; exact hD
    exact ex_MUv (w2 := (rW G a (upd (upd (upd (upd v (px k (5 + 3 * (cnt v k))) 0) (px k (6 + 3 * (cnt v k))) 0) (px k (7 + 3 * (cnt v k))) 0) (px k 4) (((upd (upd (upd v (px k (5 + 3 * (cnt v k))) 0) (px k (6 + 3 * (cnt v k))) 0) (px k (7 + 3 * (cnt v k))) 0) (px k 4)) + 1)))) hx hb hr hlocks hP hS dX3_addBranch_50 (fun h => by unfold addB; first | (rw [if_pos (of_decide_eq_true c_5)]; exact h) | (rw [if_neg (of_decide_eq_false c_5)]; exact h))
set_option maxRecDepth 20000 in
theorem hin_X3_hasRoomForContact_X3 : ∀ w ∈ u_ws RX3 TX3 14, w ∈ wsX3_hasRoomForContact := by decide +kernel
theorem lk_X3_hasRoomForContact_24 : Cond.fieldLink RX3 24 "WeldedRelays$Room" "branchCounts" "[I" ∈ wsX3_hasRoomForContact := by decide +kernel
theorem lk_X3_hasRoomForContact_33 : Cond.fieldLink RX3 33 "WeldedRelays$Room" "contactCounts" "[I" ∈ wsX3_hasRoomForContact := by decide +kernel
set_option maxHeartbeats 4000000 in
set_option maxRecDepth 100000 in
/-- X3_hasRoomForContact -/
theorem c_X3_hasRoomForContact (l : Launch) (G : GG) (a : Nat → Nat) (v : Nat → Int32) (k : Nat) (hk : k < 10) (hI : RI v) : Met l yX3_hasRoomForContact wsX3_hasRoomForContact ({ frames := 1, cells := 0, slots := 0, locals := 21 }) (pcW G [.ref (a 0), .int (nI k)] (rW G a v)) (qRO (.int (b2i (rmC k v)))) 0 0 nofree := by
  refine hd_RO (cc := cX3_hasRoomForContact) (maxL := 3) (ret := some .boolean) (by decide) rfl (Nat.le_of_ble_eq_true rfl) ?_
  intro p e s m below meth c ls hx hb hr hts hown hlocks hml hP hKK hl
  have hl : lv_has ls 3 [(0, .ref (a 0)), (1, .int (nI k))] := hl
  have hc := hI.1 k hk
  refine lv_aload_n hx hb dX3_hasRoomForContact_0 rfl (lv_at hl 0 rfl) ?_
  refine va_get (D := gD G) (ci := 3) (v := .ref (a 5)) (C := RX3) (T := TX3) (N := 14) hx hb hts hin_X3_hasRoomForContact_X3 hown hKK.1 hP 0 rfl rfl 10 (by decide) (hts _ lk_X3_hasRoomForContact_24) (fun _ h9 => h9) rfl dX3_hasRoomForContact_1 ?_
  refine lv_iload_n hx hb dX3_hasRoomForContact_4 rfl (lv_at hl 1 rfl) ?_
  refine va_ialdN (j := k) (v := v (px k 4)) hx hb hKK.1 hP 5 0 rfl rfl (rfl) (by omega) (by decide) (rfl) dX3_hasRoomForContact_5 ?_
  refine lv_iconst (v := 1) hx hb dX3_hasRoomForContact_6 (by decide) ?_
  refine lv_isub hx hb dX3_hasRoomForContact_7 ?_
  refine lv_istore_n (lv' := [(2, .int ((v (px k 4)) - 1)), (0, .ref (a 0)), (1, .int (nI k))]) hx hb dX3_hasRoomForContact_8 rfl hl (by decide) rfl (fun ls hl => ?_)
  refine lv_iload_n hx hb dX3_hasRoomForContact_9 rfl (lv_at hl 0 rfl) ?_
  refine lv_if_lt (tgt := 32) hx hb dX3_hasRoomForContact_10 (by decide) (fun c_10 => ?_) (fun c_10 => ?_)
  · skip
    have c10 : ¬ 0 < cnt v k := by rw [hc.1] at c_10; exact subneg hc.2 c_10
    refine lv_iconst (v := 0) hx hb dX3_hasRoomForContact_32 (by decide) ?_
    exact ex_ROz (b := rmC k v) hx hb hr hlocks rfl dX3_hasRoomForContact_33 (by simp_all [rmC, b2i]) rfl
  · skip
    have c10 : 0 < cnt v k := by rw [hc.1] at c_10; exact subpos hc.2 c_10
    have hl : lv_has ls 3 [(2, .int (nI (cnt v k - 1))), (0, .ref (a 0)), (1, .int (nI k))] := by have e_l1 : ((v (px k 4)) - 1) = (nI (cnt v k - 1)) := (by rw [hc.1]; exact sub1 c10); rw [← e_l1]; exact hl
    refine lv_aload_n hx hb dX3_hasRoomForContact_13 rfl (lv_at hl 1 rfl) ?_
    refine va_get (D := gD G) (ci := 3) (v := .ref (a 8)) (C := RX3) (T := TX3) (N := 14) hx hb hts hin_X3_hasRoomForContact_X3 hown hKK.1 hP 0 rfl rfl 13 (by decide) (hts _ lk_X3_hasRoomForContact_33) (fun _ h9 => h9) rfl dX3_hasRoomForContact_14 ?_
    refine lv_iload_n hx hb dX3_hasRoomForContact_17 rfl (lv_at hl 2 rfl) ?_
    refine lv_iload_n hx hb dX3_hasRoomForContact_18 rfl (lv_at hl 0 rfl) ?_
    refine ro_SN (As := [.int (nI k), .int (nI (cnt v k - 1))]) (rest := [.ref (a 8)]) ⟨hx, hb, hml, hown, hts⟩ (c_X4_placeOf l G k (cnt v k - 1)) ⟨va_cnB 2 hts gX3_hasRoomForContact_X4_placeOf_n65 rfl rfl rfl (hKK.2.1 _ (List.mem_of_getElem? (i := 4) rfl)) (hts (.initialized RX4) (by decide +kernel)) (by decide +kernel) ⟨Nat.le_of_ble_eq_true rfl, Nat.le_of_ble_eq_true rfl⟩, hts (.static yX4_placeOf) (by decide +kernel), trivial⟩ (show gP G [] _ from fun k q h => by simp at h) hKK rfl hl.1 rfl (Nat.le_of_ble_eq_true rfl) dX3_hasRoomForContact_19 (Nat.zero_le _) (Nat.zero_le _) ?_
    refine va_ialdN (j := 6 * k + (cnt v k - 1)) (v := ccn v k (cnt v k - 1)) hx hb hKK.1 hP 8 0 rfl rfl (rfl) (by omega) (by decide) (rB_atccn _ _ _ (by omega)) dX3_hasRoomForContact_22 ?_
    refine lv_bipush (v := 8) hx hb dX3_hasRoomForContact_23 (by decide) ?_
    refine lv_icmp_ge (tgt := 32) hx hb dX3_hasRoomForContact_25 (by decide) (fun c_25 => ?_) (fun c_25 => ?_)
    · skip
      refine lv_iconst (v := 0) hx hb dX3_hasRoomForContact_32 (by decide) ?_
      exact ex_ROz (b := rmC k v) hx hb hr hlocks rfl dX3_hasRoomForContact_33 (by simp_all [rmC, b2i]) rfl
    · skip
      refine lv_iconst (v := 1) hx hb dX3_hasRoomForContact_28 (by decide) ?_
      refine lv_goto (tgt := 33) hx hb dX3_hasRoomForContact_29 (by decide) ?_
      exact ex_ROz (b := rmC k v) hx hb hr hlocks rfl dX3_hasRoomForContact_33 (by simp_all [rmC, b2i]) rfl
set_option maxRecDepth 20000 in
theorem hin_X3_addContact_X3 : ∀ w ∈ u_ws RX3 TX3 14, w ∈ wsX3_addContact := by decide +kernel
theorem lk_X3_addContact_24 : Cond.fieldLink RX3 24 "WeldedRelays$Room" "branchCounts" "[I" ∈ wsX3_addContact := by decide +kernel
theorem lk_X3_addContact_27 : Cond.fieldLink RX3 27 "WeldedRelays$Room" "fronts" "[I" ∈ wsX3_addContact := by decide +kernel
theorem lk_X3_addContact_33 : Cond.fieldLink RX3 33 "WeldedRelays$Room" "contactCounts" "[I" ∈ wsX3_addContact := by decide +kernel
theorem lk_X3_addContact_30 : Cond.fieldLink RX3 30 "WeldedRelays$Room" "backs" "[I" ∈ wsX3_addContact := by decide +kernel
set_option maxHeartbeats 4000000 in
set_option maxRecDepth 100000 in
/-- X3_addContact -/
theorem c_X3_addContact (l : Launch) (G : GG) (a : Nat → Nat) (v : Nat → Int32) (k : Nat) (hk : k < 10) (kc : Int32) (z : Bool) (hI : RI v) : Met l yX3_addContact wsX3_addContact ({ frames := 1, cells := 0, slots := 0, locals := 21 }) (pcM G [.ref (a 0), .int (nI k), .int kc, .int (b2i z)] (rW G a v)) (qMU G none (rW G a v) (rW G a (addC k kc z v))) 0 0 (aA (rW G a v)) := by
  refine hd_MU (cc := cX3_addContact) (maxL := 7) (ret := none) (by decide) rfl (Nat.le_of_ble_eq_true rfl) ?_
  intro p e s m below meth c ls hx hb hr hts hown hlocks hml hP hKK hD hS hl
  have hl : lv_has ls 7 [(0, .ref (a 0)), (1, .int (nI k)), (2, .int kc), (3, .int (b2i z))] := hl
  have hc := hI.1 k hk
  refine lv_aload_n hx hb dX3_addContact_0 rfl (lv_at hl 0 rfl) ?_
  refine va_get (D := gD G) (ci := 3) (v := .ref (a 5)) (C := RX3) (T := TX3) (N := 14) hx hb hts hin_X3_addContact_X3 hown hKK.1 hP 0 rfl rfl 10 (by decide) (hts _ lk_X3_addContact_24) (fun _ h9 => h9) rfl dX3_addContact_1 ?_
  refine lv_iload_n hx hb dX3_addContact_4 rfl (lv_at hl 1 rfl) ?_
  refine va_ialdN (j := k) (v := v (px k 4)) hx hb hKK.1 hP 5 0 rfl rfl (rfl) (by omega) (by decide) (rfl) dX3_addContact_5 ?_
  refine lv_iconst (v := 1) hx hb dX3_addContact_6 (by decide) ?_
  refine lv_isub hx hb dX3_addContact_7 ?_
  refine lv_istore (lv' := [(4, .int ((v (px k 4)) - 1)), (0, .ref (a 0)), (1, .int (nI k)), (2, .int kc), (3, .int (b2i z))]) hx hb dX3_addContact_8 hl (by decide) rfl (fun ls hl => ?_)
  refine lv_iload hx hb dX3_addContact_10 (lv_at hl 0 rfl) ?_
  refine lv_if_lt (tgt := 62) hx hb dX3_addContact_12 (by decide) (fun c_12 => ?_) (fun c_12 => ?_)
  · skip
    have c10 : ¬ 0 < cnt v k := by rw [hc.1] at c_12; exact subneg hc.2 c_12
    exact ex_MUv (w2 := (rW G a v)) hx hb hr hlocks hP hS dX3_addContact_62 (fun h => by unfold addC; first | (rw [if_neg c10]; exact h) | (rw [if_pos c10]; subst c_24; exact h))
  · skip
    have c10 : 0 < cnt v k := by rw [hc.1] at c_12; exact subpos hc.2 c_12
    have hl : lv_has ls 7 [(4, .int (nI (cnt v k - 1))), (0, .ref (a 0)), (1, .int (nI k)), (2, .int kc), (3, .int (b2i z))] := by have e_l1 : ((v (px k 4)) - 1) = (nI (cnt v k - 1)) := (by rw [hc.1]; exact sub1 c10); rw [← e_l1]; exact hl
    refine lv_iload_n hx hb dX3_addContact_15 rfl (lv_at hl 2 rfl) ?_
    refine lv_iload hx hb dX3_addContact_16 (lv_at hl 0 rfl) ?_
    refine ro_SN (As := [.int (nI k), .int (nI (cnt v k - 1))]) (rest := []) ⟨hx, hb, hml, hown, hts⟩ (c_X4_placeOf l G k (cnt v k - 1)) ⟨va_cnB 2 hts gX3_addContact_X4_placeOf_n65 rfl rfl rfl (hKK.2.1 _ (List.mem_of_getElem? (i := 4) rfl)) (hts (.initialized RX4) (by decide +kernel)) (by decide +kernel) ⟨Nat.le_of_ble_eq_true rfl, Nat.le_of_ble_eq_true rfl⟩, hts (.static yX4_placeOf) (by decide +kernel), trivial⟩ (show gP G [] _ from fun k q h => by simp at h) hKK rfl hl.1 rfl (Nat.le_of_ble_eq_true rfl) dX3_addContact_18 (Nat.zero_le _) (Nat.zero_le _) ?_
    refine lv_istore (lv' := [(5, .int (nI (6 * k + (cnt v k - 1)))), (4, .int (nI (cnt v k - 1))), (0, .ref (a 0)), (1, .int (nI k)), (2, .int kc), (3, .int (b2i z))]) hx hb dX3_addContact_21 hl (by decide) rfl (fun ls hl => ?_)
    refine lv_iload_n hx hb dX3_addContact_23 rfl (lv_at hl 5 rfl) ?_
    refine lv_if_eq (tgt := 34) hx hb dX3_addContact_24 (by decide) (fun c_24 => ?_) (fun c_24 => ?_)
    · skip
      have c_24 := b2i_0 c_24
      refine lv_aload_n hx hb dX3_addContact_34 rfl (lv_at hl 2 rfl) ?_
      refine va_get (D := gD G) (ci := 3) (v := .ref (a 6)) (C := RX3) (T := TX3) (N := 14) hx hb hts hin_X3_addContact_X3 hown hKK.1 hP 0 rfl rfl 11 (by decide) (hts _ lk_X3_addContact_27) (fun _ h9 => h9) rfl dX3_addContact_35 ?_
      refine lv_astore (lv' := [(6, .ref (a 6)), (5, .int (nI (6 * k + (cnt v k - 1)))), (4, .int (nI (cnt v k - 1))), (0, .ref (a 0)), (1, .int (nI k)), (2, .int kc), (3, .int (b2i z))]) hx hb dX3_addContact_38 hl (by decide) rfl (fun ls hl => ?_)
      refine lv_aload hx hb dX3_addContact_40 (lv_at hl 0 rfl) ?_
      refine lv_iload hx hb dX3_addContact_42 (lv_at hl 1 rfl) ?_
      refine lv_dup2_11 hx hb dX3_addContact_44 rfl rfl ?_
      refine va_ialdN (j := 6 * k + (cnt v k - 1)) (v := frt v k (cnt v k - 1)) hx hb hKK.1 hP 6 0 rfl rfl (rfl) (by omega) (by decide) (rB_atfrt _ _ _ (by omega)) dX3_addContact_45 ?_
      refine lv_iconst (v := 1) hx hb dX3_addContact_46 (by decide) ?_
      refine lv_iload_n hx hb dX3_addContact_47 rfl (lv_at hl 5 rfl) ?_
      refine lv_ishl hx hb dX3_addContact_48 ?_
      refine lv_asi (y := shl 1 kc) rfl ?_
      refine lv_ior hx hb dX3_addContact_49 ?_
      refine va_iastN (j := 6 * k + (cnt v k - 1)) (x := ((frt v k (cnt v k - 1)) ||| (shl 1 kc))) hx hb hKK.1 hP hD hS 6 0 rfl rfl (rfl) (by omega) (by decide) dX3_addContact_50 (fun H locs hP hD hS => ?_)
      have e_50 := rW_setB G a v k (cnt v k - 1) 0 ((frt v k (cnt v k - 1)) ||| (shl 1 kc)) (by decide) (by omega)
      have hP : gP G (rW G a (upd v (px k (5 + 3 * (cnt v k - 1))) ((frt v k (cnt v k - 1)) ||| (shl 1 kc)))) H := by rw [e_50]; exact hP
      have hD : va_D (aA (rW G a v)) (rW G a (upd v (px k (5 + 3 * (cnt v k - 1))) ((frt v k (cnt v k - 1)) ||| (shl 1 kc)))) := by rw [e_50]; exact hD
      refine lv_aload_n hx hb dX3_addContact_51 rfl (lv_at hl 3 rfl) ?_
      refine va_get (D := gD G) (ci := 3) (v := .ref (a 8)) (C := RX3) (T := TX3) (N := 14) hx hb hts hin_X3_addContact_X3 hown hKK.1 hP 0 rfl rfl 13 (by decide) (hts _ lk_X3_addContact_33) (fun _ h9 => h9) rfl dX3_addContact_52 ?_
      refine lv_iload hx hb dX3_addContact_55 (lv_at hl 1 rfl) ?_
      refine lv_dup2_11 hx hb dX3_addContact_57 rfl rfl ?_
      refine va_ialdN (j := 6 * k + (cnt v k - 1)) (v := ccn (upd v (px k (5 + 3 * (cnt v k - 1))) ((frt v k (cnt v k - 1)) ||| (shl 1 kc))) k (cnt v k - 1)) hx hb hKK.1 hP 8 0 rfl rfl (rfl) (by omega) (by decide) (rB_atccn _ _ _ (by omega)) dX3_addContact_58 ?_
      refine lv_iconst (v := 1) hx hb dX3_addContact_59 (by decide) ?_
      refine lv_iadd hx hb dX3_addContact_60 ?_
      refine va_iastN (j := 6 * k + (cnt v k - 1)) (x := ((ccn (upd v (px k (5 + 3 * (cnt v k - 1))) ((frt v k (cnt v k - 1)) ||| (shl 1 kc))) k (cnt v k - 1)) + 1)) hx hb hKK.1 hP hD hS 8 0 rfl rfl (rfl) (by omega) (by decide) dX3_addContact_61 (fun H locs hP hD hS => ?_)
      have e_61 := rW_setB G a (upd v (px k (5 + 3 * (cnt v k - 1))) ((frt v k (cnt v k - 1)) ||| (shl 1 kc))) k (cnt v k - 1) 2 ((ccn (upd v (px k (5 + 3 * (cnt v k - 1))) ((frt v k (cnt v k - 1)) ||| (shl 1 kc))) k (cnt v k - 1)) + 1) (by decide) (by omega)
      have hP : gP G (rW G a (upd (upd v (px k (5 + 3 * (cnt v k - 1))) ((frt v k (cnt v k - 1)) ||| (shl 1 kc))) (px k (7 + 3 * (cnt v k - 1))) ((ccn (upd v (px k (5 + 3 * (cnt v k - 1))) ((frt v k (cnt v k - 1)) ||| (shl 1 kc))) k (cnt v k - 1)) + 1))) H := by rw [e_61]; exact hP
      have hD : va_D (aA (rW G a v)) (rW G a (upd (upd v (px k (5 + 3 * (cnt v k - 1))) ((frt v k (cnt v k - 1)) ||| (shl 1 kc))) (px k (7 + 3 * (cnt v k - 1))) ((ccn (upd v (px k (5 + 3 * (cnt v k - 1))) ((frt v k (cnt v k - 1)) ||| (shl 1 kc))) k (cnt v k - 1)) + 1))) := by rw [e_61]; exact hD
      exact ex_MUv (w2 := (rW G a (upd (upd v (px k (5 + 3 * (cnt v k - 1))) ((frt v k (cnt v k - 1)) ||| (shl 1 kc))) (px k (7 + 3 * (cnt v k - 1))) ((ccn (upd v (px k (5 + 3 * (cnt v k - 1))) ((frt v k (cnt v k - 1)) ||| (shl 1 kc))) k (cnt v k - 1)) + 1)))) hx hb hr hlocks hP hS dX3_addContact_62 (fun h => by unfold addC; first | (rw [if_neg c10]; exact h) | (rw [if_pos c10]; subst c_24; exact h))
    · skip
      have c_24 := b2i_1 c_24
      refine lv_aload_n hx hb dX3_addContact_27 rfl (lv_at hl 2 rfl) ?_
      refine va_get (D := gD G) (ci := 3) (v := .ref (a 7)) (C := RX3) (T := TX3) (N := 14) hx hb hts hin_X3_addContact_X3 hown hKK.1 hP 0 rfl rfl 12 (by decide) (hts _ lk_X3_addContact_30) (fun _ h9 => h9) rfl dX3_addContact_28 ?_
      refine lv_goto (tgt := 38) hx hb dX3_addContact_31 (by decide) ?_
      refine lv_astore (lv' := [(6, .ref (a 7)), (5, .int (nI (6 * k + (cnt v k - 1)))), (4, .int (nI (cnt v k - 1))), (0, .ref (a 0)), (1, .int (nI k)), (2, .int kc), (3, .int (b2i z))]) hx hb dX3_addContact_38 hl (by decide) rfl (fun ls hl => ?_)
      refine lv_aload hx hb dX3_addContact_40 (lv_at hl 0 rfl) ?_
      refine lv_iload hx hb dX3_addContact_42 (lv_at hl 1 rfl) ?_
      refine lv_dup2_11 hx hb dX3_addContact_44 rfl rfl ?_
      refine va_ialdN (j := 6 * k + (cnt v k - 1)) (v := bck v k (cnt v k - 1)) hx hb hKK.1 hP 7 0 rfl rfl (rfl) (by omega) (by decide) (rB_atbck _ _ _ (by omega)) dX3_addContact_45 ?_
      refine lv_iconst (v := 1) hx hb dX3_addContact_46 (by decide) ?_
      refine lv_iload_n hx hb dX3_addContact_47 rfl (lv_at hl 5 rfl) ?_
      refine lv_ishl hx hb dX3_addContact_48 ?_
      refine lv_asi (y := shl 1 kc) rfl ?_
      refine lv_ior hx hb dX3_addContact_49 ?_
      refine va_iastN (j := 6 * k + (cnt v k - 1)) (x := ((bck v k (cnt v k - 1)) ||| (shl 1 kc))) hx hb hKK.1 hP hD hS 7 0 rfl rfl (rfl) (by omega) (by decide) dX3_addContact_50 (fun H locs hP hD hS => ?_)
      have e_50 := rW_setB G a v k (cnt v k - 1) 1 ((bck v k (cnt v k - 1)) ||| (shl 1 kc)) (by decide) (by omega)
      have hP : gP G (rW G a (upd v (px k (6 + 3 * (cnt v k - 1))) ((bck v k (cnt v k - 1)) ||| (shl 1 kc)))) H := by rw [e_50]; exact hP
      have hD : va_D (aA (rW G a v)) (rW G a (upd v (px k (6 + 3 * (cnt v k - 1))) ((bck v k (cnt v k - 1)) ||| (shl 1 kc)))) := by rw [e_50]; exact hD
      refine lv_aload_n hx hb dX3_addContact_51 rfl (lv_at hl 3 rfl) ?_
      refine va_get (D := gD G) (ci := 3) (v := .ref (a 8)) (C := RX3) (T := TX3) (N := 14) hx hb hts hin_X3_addContact_X3 hown hKK.1 hP 0 rfl rfl 13 (by decide) (hts _ lk_X3_addContact_33) (fun _ h9 => h9) rfl dX3_addContact_52 ?_
      refine lv_iload hx hb dX3_addContact_55 (lv_at hl 1 rfl) ?_
      refine lv_dup2_11 hx hb dX3_addContact_57 rfl rfl ?_
      refine va_ialdN (j := 6 * k + (cnt v k - 1)) (v := ccn (upd v (px k (6 + 3 * (cnt v k - 1))) ((bck v k (cnt v k - 1)) ||| (shl 1 kc))) k (cnt v k - 1)) hx hb hKK.1 hP 8 0 rfl rfl (rfl) (by omega) (by decide) (rB_atccn _ _ _ (by omega)) dX3_addContact_58 ?_
      refine lv_iconst (v := 1) hx hb dX3_addContact_59 (by decide) ?_
      refine lv_iadd hx hb dX3_addContact_60 ?_
      refine va_iastN (j := 6 * k + (cnt v k - 1)) (x := ((ccn (upd v (px k (6 + 3 * (cnt v k - 1))) ((bck v k (cnt v k - 1)) ||| (shl 1 kc))) k (cnt v k - 1)) + 1)) hx hb hKK.1 hP hD hS 8 0 rfl rfl (rfl) (by omega) (by decide) dX3_addContact_61 (fun H locs hP hD hS => ?_)
      have e_61 := rW_setB G a (upd v (px k (6 + 3 * (cnt v k - 1))) ((bck v k (cnt v k - 1)) ||| (shl 1 kc))) k (cnt v k - 1) 2 ((ccn (upd v (px k (6 + 3 * (cnt v k - 1))) ((bck v k (cnt v k - 1)) ||| (shl 1 kc))) k (cnt v k - 1)) + 1) (by decide) (by omega)
      have hP : gP G (rW G a (upd (upd v (px k (6 + 3 * (cnt v k - 1))) ((bck v k (cnt v k - 1)) ||| (shl 1 kc))) (px k (7 + 3 * (cnt v k - 1))) ((ccn (upd v (px k (6 + 3 * (cnt v k - 1))) ((bck v k (cnt v k - 1)) ||| (shl 1 kc))) k (cnt v k - 1)) + 1))) H := by rw [e_61]; exact hP
      have hD : va_D (aA (rW G a v)) (rW G a (upd (upd v (px k (6 + 3 * (cnt v k - 1))) ((bck v k (cnt v k - 1)) ||| (shl 1 kc))) (px k (7 + 3 * (cnt v k - 1))) ((ccn (upd v (px k (6 + 3 * (cnt v k - 1))) ((bck v k (cnt v k - 1)) ||| (shl 1 kc))) k (cnt v k - 1)) + 1))) := by rw [e_61]; exact hD
      exact ex_MUv (w2 := (rW G a (upd (upd v (px k (6 + 3 * (cnt v k - 1))) ((bck v k (cnt v k - 1)) ||| (shl 1 kc))) (px k (7 + 3 * (cnt v k - 1))) ((ccn (upd v (px k (6 + 3 * (cnt v k - 1))) ((bck v k (cnt v k - 1)) ||| (shl 1 kc))) k (cnt v k - 1)) + 1)))) hx hb hr hlocks hP hS dX3_addContact_62 (fun h => by unfold addC; first | (rw [if_neg c10]; exact h) | (rw [if_pos c10]; subst c_24; exact h))
