set_option maxRecDepth 20000 in
theorem hin_X1_init_X1 : ∀ w ∈ u_ws RX1 TX1 2, w ∈ wsX1_init := by decide +kernel
theorem lk_X1_init_9 : Cond.fieldLink RX1 9 "WeldedRelays$Pad" "characters" "[I" ∈ wsX1_init := by decide +kernel
set_option maxHeartbeats 4000000 in
set_option maxRecDepth 100000 in
/-- X1_init -/
theorem c_X1_init (l : Launch) (G : GG) (b : Nat) (sz : Nat) : Met l yX1_init wsX1_init ({ frames := 1, cells := 1, slots := 64, locals := 24 }) (pcC G [.ref b] ([(b, .inr (1, [.null, .int 0]))]) sz) (qC G ((fun a : Nat → Nat => bPw G a (fun _ => 0) 0)) ((fun a : Nat → Nat => a 0 = b)) (va_A ([(b, .inr (1, [.null, .int 0]))]) sz)) 1 64 (va_A ([(b, .inr (1, [.null, .int 0]))]) sz) := by
  refine hd_C (cc := cX1_init) (maxL := 1) (by decide) rfl (Nat.le_of_ble_eq_true rfl) ?_
  intro p e s m below meth c ls hx hb hr hts hown hlocks hml hin hA hP hKK hD hS hl
  generalize hHe : s.heap = H at hP ⊢
  have hS : va_S (va_A ([(b, .inr (1, [.null, .int 0]))]) sz) s.heap H [] := by rw [← hHe]; exact hS
  have hP : gP G (List.flatten [[(b, .inr (1, [.null, .int 0]))]]) H := hP
  have hD : va_D (va_A ([(b, .inr (1, [.null, .int 0]))]) sz) (List.flatten [[(b, .inr (1, [.null, .int 0]))]]) := hD
  have hl : lv_has ls 1 [(0, .ref b)] := hl
  refine lv_aload_n hx hb dX1_init_0 rfl (lv_at hl 0 rfl) ?_
  refine W.objInit hx hb hown (hts (.methodLink RX1 3 objectInit) (by decide +kernel)) (hts (.instanceMethod objectInit) (by decide +kernel)) (hts _ (List.mem_of_getElem? (i := 3) rfl)) rfl (by rw [hml]; exact hl.1) rfl dX1_init_1 (Nat.le_of_ble_eq_true rfl) (Nat.le_of_ble_eq_true rfl) ?_
  refine W.eq (g2 := F0 m 4 ls []) rfl ?_
  refine lv_aload_n hx hb dX1_init_4 rfl (lv_at hl 0 rfl) ?_
  refine lv_bipush (v := 64) hx hb dX1_init_5 (by decide) ?_
  refine nw_I (N := 64) hx hb (hts (.arrayClass .int) (by decide +kernel)) hKK hP hD hS hA (by decide) (by decide) (by decide) (Nat.le_of_ble_eq_true (by rfl)) (Nat.le_of_ble_eq_true (by rfl)) dX1_init_7 (fun q7_1 H hP hD hS => ?_)
  refine W.widen (k := 1) (n := 64) (Nat.le_of_ble_eq_true rfl) (Nat.le_of_ble_eq_true rfl) ?_
  have hP := seg_pushP (L := [[(b, .inr (1, [.null, .int 0]))]]) (w := [(q7_1, .inl (gI G, 64, .inl (fun _ => 0)))]) hP
  have hD := seg_pushD (L := [[(b, .inr (1, [.null, .int 0]))]]) (w := [(q7_1, .inl (gI G, 64, .inl (fun _ => 0)))]) hD
  have hP : gP G (List.flatten [[(b, .inr (1, [.null, .int 0]))], [(q7_1, .inl (gI G, 64, .inl (fun _ => 0)))]]) H := hP
  have hD : va_D (va_A ([(b, .inr (1, [.null, .int 0]))]) sz) (List.flatten [[(b, .inr (1, [.null, .int 0]))], [(q7_1, .inl (gI G, 64, .inl (fun _ => 0)))]]) := hD
  refine va_putF (D := gD G) (ci := 1) (v := .ref q7_1) (ty := tyX1 0) (C := RX1) (T := TX1) (N := 2) hx hb hts hin_X1_init_X1 tyX1 tyX1_ok nmX1 hown hKK.1 hP hD hS 0 rfl rfl 0 (by decide) (hts _ lk_X1_init_9) (fun _ h9 => h9) rfl hin rfl (by decide +kernel) rfl rfl (Nat.le_of_ble_eq_true rfl) dX1_init_9 (fun H locs hP hD hS => ?_)
  have hP : gP G (List.flatten [[(b, .inr (1, [.ref q7_1, .int 0]))], [(q7_1, .inl (gI G, 64, .inl (fun _ => 0)))]]) H := hP
  have hD : va_D (va_A ([(b, .inr (1, [.null, .int 0]))]) sz) (List.flatten [[(b, .inr (1, [.ref q7_1, .int 0]))], [(q7_1, .inl (gI G, 64, .inl (fun _ => 0)))]]) := hD
  have hP9 : gP G ((fun a : Nat → Nat => bPw G a (fun _ => 0) 0) (mk2 b q7_1)) H := hP
  have hD9 : va_D (va_A ([(b, .inr (1, [.null, .int 0]))]) sz) ((fun a : Nat → Nat => bPw G a (fun _ => 0) 0) (mk2 b q7_1)) := hD
  exact ex_C (mk2 b q7_1) (rfl) hx hb hr hlocks hP9 hD9 hS dX1_init_12
