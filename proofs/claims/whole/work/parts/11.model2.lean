set_option maxHeartbeats 4000000 in
set_option maxRecDepth 100000 in
/-- X5_moves -/
theorem c_X5_moves (l : Launch) (G : GG) (u1 : Nat) (u2 : Nat) (n1 : Nat) (n2 : Nat) (sf : Nat) (sg : Nat) (f : Nat → Int32) (g : Nat → Int32) (h1 : sf + 236 ≤ n1) (h2 : sg + 236 ≤ n2) (h3 : n1 ≤ 2000) (h4 : n2 ≤ 2000) : Met l yX5_moves wsX5_moves ({ frames := 0, cells := 0, slots := 0, locals := 0 }) (pcM G [.ref u1, .int (nI sf), .ref u2, .int (nI sg)] ([(u1, .inl (gI G, n1, .inl f)), (u2, .inl (gI G, n2, .inl g))])) (qMU G none ([(u1, .inl (gI G, n1, .inl f)), (u2, .inl (gI G, n2, .inl g))]) ([(u1, .inl (gI G, n1, .inl f)), (u2, .inl (gI G, n2, .inl (va_cpy f g sf sg 236)))])) 0 0 (aA ([(u1, .inl (gI G, n1, .inl f)), (u2, .inl (gI G, n2, .inl g))])) := by
  refine hd_MU (cc := cX5_moves) (maxL := 5) (ret := none) (by decide) rfl (Nat.le_of_ble_eq_true rfl) ?_
  intro p e s m below meth c ls hx hb hr hts hown hlocks hml hP hKK hD hS hl
  have hl : lv_has ls 5 [(0, .ref u1), (1, .int (nI sf)), (2, .ref u2), (3, .int (nI sg))] := hl
  refine lv_iconst (v := 0) hx hb dX5_moves_0 (by decide) ?_
  refine lv_istore (lv' := [(4, .int 0), (0, .ref u1), (1, .int (nI sf)), (2, .ref u2), (3, .int (nI sg))]) hx hb dX5_moves_1 hl (by decide) rfl (fun ls hl => ?_)
  have L_3 : ∀ (n_3 : Nat) (i : Nat), (i ≤ 236) → (236 + 1 ≤ i + n_3) → ∀ (H : Heap) (locs : List Loc), gP G ([(u1, .inl (gI G, n1, .inl f)), (u2, .inl (gI G, n2, .inl (va_cpy f g sf sg i)))]) H → va_D (aA ([(u1, .inl (gI G, n1, .inl f)), (u2, .inl (gI G, n2, .inl g))])) ([(u1, .inl (gI G, n1, .inl f)), (u2, .inl (gI G, n2, .inl (va_cpy f g sf sg i)))]) → va_S (aA ([(u1, .inl (gI G, n1, .inl f)), (u2, .inl (gI G, n2, .inl g))])) s.heap H locs → ∀ (ls : Array Slot), lv_has ls 5 [(4, .int (nI i)), (0, .ref u1), (1, .int (nI sf)), (2, .ref u2), (3, .int (nI sg))] → W p l e ({ frames := 0, cells := 0, slots := 0, locals := 0 }) s m (List.toArray [.ref u1, .int (nI sf), .ref u2, .int (nI sg)]) below meth c H locs 0 0 (MQ below (qMU G none ([(u1, .inl (gI G, n1, .inl f)), (u2, .inl (gI G, n2, .inl g))]) ([(u1, .inl (gI G, n1, .inl f)), (u2, .inl (gI G, n2, .inl (va_cpy f g sf sg 236)))])) (List.toArray [.ref u1, .int (nI sf), .ref u2, .int (nI sg)]) s 0 0 (aA ([(u1, .inl (gI G, n1, .inl f)), (u2, .inl (gI G, n2, .inl g))]))) (F0 m 3 ls []) := by
    intro n_3
    induction n_3 with
    | zero => intro i g1 g2; exact absurd (g2) (by omega)
    | succ n_3 ih_3 =>
      intro i g1 g2 H locs hP hD hS ls hl
      refine lv_iload hx hb dX5_moves_3 (lv_at hl 0 rfl) ?_
      refine lv_sipush (v := 236) hx hb dX5_moves_5 (by decide) ?_
      refine lv_icmp_ge (tgt := 29) hx hb dX5_moves_8 (by decide) (fun c_8 => ?_) (fun c_8 => ?_)
      · skip
        have c_8 : 236 ≤ i := (nI_leI (a := 236) (b := i) (by omega) (by omega)).mp c_8
        exact ex_MUv (w2 := [(u1, .inl (gI G, n1, .inl f)), (u2, .inl (gI G, n2, .inl (va_cpy f g sf sg i)))]) hx hb hr hlocks hP hS dX5_moves_29 (fun h => by rw [show i = 236 by omega] at h; exact h)
      · skip
        have c_8 : ¬ (236 ≤ i) := fun q => c_8 ((nI_leI (a := 236) (b := i) (by omega) (by omega)).mpr q)
        refine lv_aload_n hx hb dX5_moves_11 rfl (lv_at hl 3 rfl) ?_
        refine lv_iload_n hx hb dX5_moves_12 rfl (lv_at hl 4 rfl) ?_
        refine lv_iload hx hb dX5_moves_13 (lv_at hl 0 rfl) ?_
        refine lv_iadd hx hb dX5_moves_15 ?_
        refine lv_aload_n hx hb dX5_moves_16 rfl (lv_at hl 1 rfl) ?_
        refine lv_iload_n hx hb dX5_moves_17 rfl (lv_at hl 2 rfl) ?_
        refine lv_iload hx hb dX5_moves_18 (lv_at hl 0 rfl) ?_
        refine lv_iadd hx hb dX5_moves_20 ?_
        refine va_ialdN (j := sf + i) (v := f (sf + i)) hx hb hKK.1 hP 0 0 rfl rfl (nI_add _ _) (by omega) (by omega) (rfl) dX5_moves_21 ?_
        refine va_iastN (j := sg + i) (x := (f (sf + i))) hx hb hKK.1 hP hD hS 1 0 rfl rfl (nI_add _ _) (by omega) (by omega) dX5_moves_22 (fun H locs hP hD hS => ?_)
        have hP : gP G ([(u1, .inl (gI G, n1, .inl f)), (u2, .inl (gI G, n2, .inl (upd (va_cpy f g sf sg i) (sg + i) (f (sf + i)))))]) H := hP
        have hD : va_D (aA ([(u1, .inl (gI G, n1, .inl f)), (u2, .inl (gI G, n2, .inl g))])) ([(u1, .inl (gI G, n1, .inl f)), (u2, .inl (gI G, n2, .inl (upd (va_cpy f g sf sg i) (sg + i) (f (sf + i)))))]) := hD
        have ev_1 : upd (va_cpy f g sf sg i) (sg + i) (f (sf + i)) = va_cpy f g sf sg (i + 1) := cpy_s f g sf sg i
        rw [ev_1] at hP hD
        refine lv_iinc (v := nI (i + 1)) (lv' := [(4, .int (nI (i + 1))), (0, .ref u1), (1, .int (nI sf)), (2, .ref u2), (3, .int (nI sg))]) hx hb dX5_moves_23 hl (k := 0) rfl (nI_1 _) (by decide) rfl (fun ls hl => ?_)
        refine lv_goto (tgt := 3) hx hb dX5_moves_26 (by decide) ?_
        exact ih_3 (i + 1) (by omega) (by omega) _ _ (hP) (hD) hS _ (lv_sub hl [0, 1, 2, 3, 4] rfl)
  exact L_3 (236 + 1) 0 (by omega) (by omega) _ _ (by rw [cpy_0]; exact hP) (by rw [cpy_0]; exact hD) hS _ (lv_sub hl [0, 1, 2, 3, 4] rfl)
set_option maxRecDepth 20000 in
theorem hin_X5_record_X5 : ∀ w ∈ u_ws RX5 TX5 12, w ∈ wsX5_record := by decide +kernel
theorem lk_X5_record_35 : Cond.fieldLink RX5 35 "WeldedRelaysModel" "recorded" "I" ∈ wsX5_record := by decide +kernel
theorem lk_X5_record_7 : Cond.fieldLink RX5 7 "WeldedRelaysModel" "state" "[I" ∈ wsX5_record := by decide +kernel
theorem lk_X5_record_16 : Cond.fieldLink RX5 16 "WeldedRelaysModel" "history" "[I" ∈ wsX5_record := by decide +kernel
set_option maxHeartbeats 4000000 in
set_option maxRecDepth 100000 in
/-- X5_record -/
theorem c_X5_record (l : Launch) (G : GG) (a : Nat → Nat) (st : Nat → Int32) (kp : Nat → Int32) (hi : Nat → Int32) (sl : Nat → Int32) (sv : Nat → Int32) (pd : Nat → Int32) (td : Nat → Int32) (pl : Int32) (pt : Int32) (rt : Int32) (bn : Int32) (k : Nat) (hk : k ≤ 6) : Met l yX5_record wsX5_record ({ frames := 1, cells := 0, slots := 0, locals := 24 }) (pcM G [.ref (a 0)] (mW G a st kp hi sl sv pd td (nI k) pl pt rt bn)) (qMU G none (mW G a st kp hi sl sv pd td (nI k) pl pt rt bn) (mW G a st kp (recH st hi k) sl sv pd td (nI (recC k)) pl pt rt bn)) 0 0 (aA (mW G a st kp hi sl sv pd td (nI k) pl pt rt bn)) := by
  refine hd_MU (cc := cX5_record) (maxL := 2) (ret := none) (by decide) rfl (Nat.le_of_ble_eq_true rfl) ?_
  intro p e s m below meth c ls hx hb hr hts hown hlocks hml hP hKK hD hS hl
  have hl : lv_has ls 2 [(0, .ref (a 0))] := hl
  refine lv_aload_n hx hb dX5_record_0 rfl (lv_at hl 0 rfl) ?_
  refine va_get (D := gD G) (ci := 5) (v := .int (nI k)) (C := RX5) (T := TX5) (N := 12) hx hb hts hin_X5_record_X5 hown hKK.1 hP 0 rfl rfl 3 (by decide) (hts _ lk_X5_record_35) (fun _ h9 => h9) rfl dX5_record_1 ?_
  refine lv_bipush (v := 6) hx hb dX5_record_4 (by decide) ?_
  refine lv_icmp_ne (tgt := 50) hx hb dX5_record_6 (by decide) (fun c_6 => ?_) (fun c_6 => ?_)
  · skip
    have c_6 : ¬ (k = 6) := fun q => c_6 ((nI_eq (a := k) (b := 6) (by omega) (by omega)).mpr q)
    refine lv_aload_n hx hb dX5_record_50 rfl (lv_at hl 0 rfl) ?_
    refine va_get (D := gD G) (ci := 5) (v := .ref (a 1)) (C := RX5) (T := TX5) (N := 12) hx hb hts hin_X5_record_X5 hown hKK.1 hP 0 rfl rfl 0 (by decide) (hts _ lk_X5_record_7) (fun _ h9 => h9) rfl dX5_record_51 ?_
    refine lv_iconst (v := 0) hx hb dX5_record_54 (by decide) ?_
    refine lv_aload_n hx hb dX5_record_55 rfl (lv_at hl 0 rfl) ?_
    refine va_get (D := gD G) (ci := 5) (v := .ref (a 3)) (C := RX5) (T := TX5) (N := 12) hx hb hts hin_X5_record_X5 hown hKK.1 hP 0 rfl rfl 2 (by decide) (hts _ lk_X5_record_16) (fun _ h9 => h9) rfl dX5_record_56 ?_
    refine lv_aload_n hx hb dX5_record_59 rfl (lv_at hl 0 rfl) ?_
    refine va_get (D := gD G) (ci := 5) (v := .int (nI k)) (C := RX5) (T := TX5) (N := 12) hx hb hts hin_X5_record_X5 hown hKK.1 hP 0 rfl rfl 3 (by decide) (hts _ lk_X5_record_35) (fun _ h9 => h9) rfl dX5_record_60 ?_
    refine lv_sipush (v := 236) hx hb dX5_record_63 (by decide) ?_
    refine lv_imul hx hb dX5_record_66 ?_
    refine lv_asi (y := nI (236 * k)) (mul236 k) ?_
    refine mu_SF (ws := (mW G a st kp hi sl sv pd td (nI k) pl pt rt bn)) (ws' := (mW G a st kp (va_cpy st hi 0 (236 * k) 236) sl sv pd td (nI k) pl pt rt bn)) (wr := [(a 0, .inr (5, [.ref (a 1), .ref (a 2), .ref (a 3), .int (nI k), .ref (a 4), .ref (a 5), .ref (a 6), .int pl, .int pt, .int rt, .ref (a 7), .int bn])), (a 2, .inl (gI G, 236, .inl kp)), (a 4, .inl (gI G, 472, .inl sl)), (a 5, .inl (gI G, 2, .inl sv)), (a 6, .inl (gI G, 64, .inl pd)), (a 7, .inl (gI G, 18, .inl td))]) (As := [.ref (a 1), .int (nI 0), .ref (a 3), .int (nI (236 * k))]) (rest := []) ⟨hx, hb, hml, hown, hts⟩ (c_X5_moves l G (a 1) (a 3) _ _ 0 (236 * k) _ _ (by omega) (by omega) (by omega) (by omega)) (va_cwS 4 hts gX5_record_X5_moves rfl rfl rfl (by decide +kernel) ⟨Nat.le_of_ble_eq_true rfl, Nat.le_of_ble_eq_true rfl⟩) (cells_perm (mW G a st kp hi sl sv pd td (nI k) pl pt rt bn) [1, 3, 0, 2, 4, 5, 6, 7] 8 (by decide) rfl) (cells_perm (mW G a st kp (va_cpy st hi 0 (236 * k) 236) sl sv pd td (nI k) pl pt rt bn) [1, 3, 0, 2, 4, 5, 6, 7] 8 (by decide) rfl) hP hKK hD hS rfl hl.1 rfl (Nat.le_of_ble_eq_true rfl) dX5_record_67 (Nat.zero_le _) (Nat.zero_le _) rfl (fun H locs hP hD hS => ?_)
    refine lv_aload_n hx hb dX5_record_70 rfl (lv_at hl 0 rfl) ?_
    refine lv_dup hx hb dX5_record_71 rfl ?_
    refine va_get (D := gD G) (ci := 5) (v := .int (nI k)) (C := RX5) (T := TX5) (N := 12) hx hb hts hin_X5_record_X5 hown hKK.1 hP 0 rfl rfl 3 (by decide) (hts _ lk_X5_record_35) (fun _ h9 => h9) rfl dX5_record_72 ?_
    refine lv_iconst (v := 1) hx hb dX5_record_75 (by decide) ?_
    refine lv_iadd hx hb dX5_record_76 ?_
    refine va_put (D := gD G) (ci := 5) (v := .int ((nI k) + 1)) (ty := .int) (C := RX5) (T := TX5) (N := 12) hx hb hts hin_X5_record_X5 tyX5 tyX5_ok nmX5 hown hKK.1 hP hD hS 0 rfl rfl 3 (by decide) (hts _ lk_X5_record_35) (fun _ h9 => h9) rfl (by decide +kernel) rfl rfl (Nat.le_of_ble_eq_true rfl) dX5_record_77 (fun H locs hP hD hS => ?_)
    have hP : gP G (mW G a st kp (va_cpy st hi 0 (236 * k) 236) sl sv pd td ((nI k) + 1) pl pt rt bn) H := hP
    have hD : va_D (aA (mW G a st kp hi sl sv pd td (nI k) pl pt rt bn)) (mW G a st kp (va_cpy st hi 0 (236 * k) 236) sl sv pd td ((nI k) + 1) pl pt rt bn) := hD
    exact ex_MUv (w2 := (mW G a st kp (va_cpy st hi 0 (236 * k) 236) sl sv pd td ((nI k) + 1) pl pt rt bn)) hx hb hr hlocks hP hS dX5_record_80 (fun h => by have e1 : recH st hi k = va_cpy st hi 0 (236 * k) 236 := (if_neg c_6); have e2 : nI (recC k) = (nI k) + 1 := recC_n hk c_6; rw [e1, e2]; exact h)
  · skip
    have c_6 : k = 6 := (nI_eq (a := k) (b := 6) (by omega) (by omega)).mp c_6
    refine lv_iconst (v := 0) hx hb dX5_record_9 (by decide) ?_
    refine lv_istore_n (lv' := [(1, .int 0), (0, .ref (a 0))]) hx hb dX5_record_10 rfl hl (by decide) rfl (fun ls hl => ?_)
    have L_11 : ∀ (n_11 : Nat) (i : Nat), (i ≤ 1180) → (1180 + 1 ≤ i + n_11) → ∀ (H : Heap) (locs : List Loc), gP G (mW G a st kp (shI hi i) sl sv pd td (nI k) pl pt rt bn) H → va_D (aA (mW G a st kp hi sl sv pd td (nI k) pl pt rt bn)) (mW G a st kp (shI hi i) sl sv pd td (nI k) pl pt rt bn) → va_S (aA (mW G a st kp hi sl sv pd td (nI k) pl pt rt bn)) s.heap H locs → ∀ (ls : Array Slot), lv_has ls 2 [(1, .int (nI i)), (0, .ref (a 0))] → W p l e ({ frames := 1, cells := 0, slots := 0, locals := 24 }) s m (List.toArray [.ref (a 0)]) below meth c H locs 0 0 (MQ below (qMU G none (mW G a st kp hi sl sv pd td (nI k) pl pt rt bn) (mW G a st kp (recH st hi k) sl sv pd td (nI (recC k)) pl pt rt bn)) (List.toArray [.ref (a 0)]) s 0 0 (aA (mW G a st kp hi sl sv pd td (nI k) pl pt rt bn))) (F0 m 11 ls []) := by
      intro n_11
      induction n_11 with
      | zero => intro i g1 g2; exact absurd (g2) (by omega)
      | succ n_11 ih_11 =>
        intro i g1 g2 H locs hP hD hS ls hl
        refine lv_iload_n hx hb dX5_record_11 rfl (lv_at hl 0 rfl) ?_
        refine lv_sipush (v := 1180) hx hb dX5_record_12 (by decide) ?_
        refine lv_icmp_ge (tgt := 40) hx hb dX5_record_15 (by decide) (fun c_15 => ?_) (fun c_15 => ?_)
        · skip
          have c_15 : 1180 ≤ i := (nI_leI (a := 1180) (b := i) (by omega) (by omega)).mp c_15
          have ev_1 : shI hi i = shI hi 1180 := by rw [show i = 1180 by omega]
          have hP : gP G (mW G a st kp (shI hi 1180) sl sv pd td (nI k) pl pt rt bn) H := by rw [← ev_1]; exact hP
          have hD : va_D (aA (mW G a st kp hi sl sv pd td (nI k) pl pt rt bn)) (mW G a st kp (shI hi 1180) sl sv pd td (nI k) pl pt rt bn) := by rw [← ev_1]; exact hD
          refine lv_aload_n hx hb dX5_record_40 rfl (lv_at hl 1 rfl) ?_
          refine lv_dup hx hb dX5_record_41 rfl ?_
          refine va_get (D := gD G) (ci := 5) (v := .int (nI k)) (C := RX5) (T := TX5) (N := 12) hx hb hts hin_X5_record_X5 hown hKK.1 hP 0 rfl rfl 3 (by decide) (hts _ lk_X5_record_35) (fun _ h9 => h9) rfl dX5_record_42 ?_
          refine lv_iconst (v := 1) hx hb dX5_record_45 (by decide) ?_
          refine lv_isub hx hb dX5_record_46 ?_
          refine va_put (D := gD G) (ci := 5) (v := .int ((nI k) - 1)) (ty := .int) (C := RX5) (T := TX5) (N := 12) hx hb hts hin_X5_record_X5 tyX5 tyX5_ok nmX5 hown hKK.1 hP hD hS 0 rfl rfl 3 (by decide) (hts _ lk_X5_record_35) (fun _ h9 => h9) rfl (by decide +kernel) rfl rfl (Nat.le_of_ble_eq_true rfl) dX5_record_47 (fun H locs hP hD hS => ?_)
          have hP : gP G (mW G a st kp (shI hi 1180) sl sv pd td ((nI k) - 1) pl pt rt bn) H := hP
          have hD : va_D (aA (mW G a st kp hi sl sv pd td (nI k) pl pt rt bn)) (mW G a st kp (shI hi 1180) sl sv pd td ((nI k) - 1) pl pt rt bn) := hD
          refine lv_aload_n hx hb dX5_record_50 rfl (lv_at hl 1 rfl) ?_
          refine va_get (D := gD G) (ci := 5) (v := .ref (a 1)) (C := RX5) (T := TX5) (N := 12) hx hb hts hin_X5_record_X5 hown hKK.1 hP 0 rfl rfl 0 (by decide) (hts _ lk_X5_record_7) (fun _ h9 => h9) rfl dX5_record_51 ?_
          refine lv_iconst (v := 0) hx hb dX5_record_54 (by decide) ?_
          refine lv_aload_n hx hb dX5_record_55 rfl (lv_at hl 1 rfl) ?_
          refine va_get (D := gD G) (ci := 5) (v := .ref (a 3)) (C := RX5) (T := TX5) (N := 12) hx hb hts hin_X5_record_X5 hown hKK.1 hP 0 rfl rfl 2 (by decide) (hts _ lk_X5_record_16) (fun _ h9 => h9) rfl dX5_record_56 ?_
          refine lv_aload_n hx hb dX5_record_59 rfl (lv_at hl 1 rfl) ?_
          refine va_get (D := gD G) (ci := 5) (v := .int ((nI k) - 1)) (C := RX5) (T := TX5) (N := 12) hx hb hts hin_X5_record_X5 hown hKK.1 hP 0 rfl rfl 3 (by decide) (hts _ lk_X5_record_35) (fun _ h9 => h9) rfl dX5_record_60 ?_
          refine lv_sipush (v := 236) hx hb dX5_record_63 (by decide) ?_
          refine lv_imul hx hb dX5_record_66 ?_
          refine lv_asi (y := nI 1180) (by rw [c_6]; decide) ?_
          refine mu_SF (ws := (mW G a st kp (shI hi 1180) sl sv pd td ((nI k) - 1) pl pt rt bn)) (ws' := (mW G a st kp (va_cpy st (shI hi 1180) 0 1180 236) sl sv pd td ((nI k) - 1) pl pt rt bn)) (wr := [(a 0, .inr (5, [.ref (a 1), .ref (a 2), .ref (a 3), .int ((nI k) - 1), .ref (a 4), .ref (a 5), .ref (a 6), .int pl, .int pt, .int rt, .ref (a 7), .int bn])), (a 2, .inl (gI G, 236, .inl kp)), (a 4, .inl (gI G, 472, .inl sl)), (a 5, .inl (gI G, 2, .inl sv)), (a 6, .inl (gI G, 64, .inl pd)), (a 7, .inl (gI G, 18, .inl td))]) (As := [.ref (a 1), .int (nI 0), .ref (a 3), .int (nI 1180)]) (rest := []) ⟨hx, hb, hml, hown, hts⟩ (c_X5_moves l G (a 1) (a 3) _ _ 0 1180 _ _ (by omega) (by omega) (by omega) (by omega)) (va_cwS 4 hts gX5_record_X5_moves rfl rfl rfl (by decide +kernel) ⟨Nat.le_of_ble_eq_true rfl, Nat.le_of_ble_eq_true rfl⟩) (cells_perm (mW G a st kp (shI hi 1180) sl sv pd td ((nI k) - 1) pl pt rt bn) [1, 3, 0, 2, 4, 5, 6, 7] 8 (by decide) rfl) (cells_perm (mW G a st kp (va_cpy st (shI hi 1180) 0 1180 236) sl sv pd td ((nI k) - 1) pl pt rt bn) [1, 3, 0, 2, 4, 5, 6, 7] 8 (by decide) rfl) hP hKK hD hS rfl hl.1 rfl (Nat.le_of_ble_eq_true rfl) dX5_record_67 (Nat.zero_le _) (Nat.zero_le _) rfl (fun H locs hP hD hS => ?_)
          refine lv_aload_n hx hb dX5_record_70 rfl (lv_at hl 1 rfl) ?_
          refine lv_dup hx hb dX5_record_71 rfl ?_
          refine va_get (D := gD G) (ci := 5) (v := .int ((nI k) - 1)) (C := RX5) (T := TX5) (N := 12) hx hb hts hin_X5_record_X5 hown hKK.1 hP 0 rfl rfl 3 (by decide) (hts _ lk_X5_record_35) (fun _ h9 => h9) rfl dX5_record_72 ?_
          refine lv_iconst (v := 1) hx hb dX5_record_75 (by decide) ?_
          refine lv_iadd hx hb dX5_record_76 ?_
          refine va_put (D := gD G) (ci := 5) (v := .int (((nI k) - 1) + 1)) (ty := .int) (C := RX5) (T := TX5) (N := 12) hx hb hts hin_X5_record_X5 tyX5 tyX5_ok nmX5 hown hKK.1 hP hD hS 0 rfl rfl 3 (by decide) (hts _ lk_X5_record_35) (fun _ h9 => h9) rfl (by decide +kernel) rfl rfl (Nat.le_of_ble_eq_true rfl) dX5_record_77 (fun H locs hP hD hS => ?_)
          have hP : gP G (mW G a st kp (va_cpy st (shI hi 1180) 0 1180 236) sl sv pd td (((nI k) - 1) + 1) pl pt rt bn) H := hP
          have hD : va_D (aA (mW G a st kp hi sl sv pd td (nI k) pl pt rt bn)) (mW G a st kp (va_cpy st (shI hi 1180) 0 1180 236) sl sv pd td (((nI k) - 1) + 1) pl pt rt bn) := hD
          exact ex_MUv (w2 := (mW G a st kp (va_cpy st (shI hi 1180) 0 1180 236) sl sv pd td (((nI k) - 1) + 1) pl pt rt bn)) hx hb hr hlocks hP hS dX5_record_80 (fun h => by have e1 : recH st hi k = va_cpy st (shI hi 1180) 0 1180 236 := (if_pos c_6); have e2 : nI (recC k) = ((nI k) - 1) + 1 := recC_6 c_6; rw [e1, e2]; exact h)
        · skip
          have c_15 : ¬ (1180 ≤ i) := fun q => c_15 ((nI_leI (a := 1180) (b := i) (by omega) (by omega)).mpr q)
          refine lv_aload_n hx hb dX5_record_18 rfl (lv_at hl 1 rfl) ?_
          refine va_get (D := gD G) (ci := 5) (v := .ref (a 3)) (C := RX5) (T := TX5) (N := 12) hx hb hts hin_X5_record_X5 hown hKK.1 hP 0 rfl rfl 2 (by decide) (hts _ lk_X5_record_16) (fun _ h9 => h9) rfl dX5_record_19 ?_
          refine lv_iload_n hx hb dX5_record_22 rfl (lv_at hl 0 rfl) ?_
          refine lv_aload_n hx hb dX5_record_23 rfl (lv_at hl 1 rfl) ?_
          refine va_get (D := gD G) (ci := 5) (v := .ref (a 3)) (C := RX5) (T := TX5) (N := 12) hx hb hts hin_X5_record_X5 hown hKK.1 hP 0 rfl rfl 2 (by decide) (hts _ lk_X5_record_16) (fun _ h9 => h9) rfl dX5_record_24 ?_
          refine lv_iload_n hx hb dX5_record_27 rfl (lv_at hl 0 rfl) ?_
          refine lv_sipush (v := 236) hx hb dX5_record_28 (by decide) ?_
          refine lv_iadd hx hb dX5_record_31 ?_
          refine va_ialdN (j := i + 236) (v := (shI hi i) (i + 236)) hx hb hKK.1 hP 3 0 rfl rfl (nI_add i 236) (by omega) (by decide) (rfl) dX5_record_32 ?_
          refine va_iastN (j := i) (x := ((shI hi i) (i + 236))) hx hb hKK.1 hP hD hS 3 0 rfl rfl (rfl) (by omega) (by decide) dX5_record_33 (fun H locs hP hD hS => ?_)
          have hP : gP G (mW G a st kp (upd (shI hi i) i ((shI hi i) (i + 236))) sl sv pd td (nI k) pl pt rt bn) H := hP
          have hD : va_D (aA (mW G a st kp hi sl sv pd td (nI k) pl pt rt bn)) (mW G a st kp (upd (shI hi i) i ((shI hi i) (i + 236))) sl sv pd td (nI k) pl pt rt bn) := hD
          have ev_2 : upd (shI hi i) i ((shI hi i) (i + 236)) = shI hi (i + 1) := shI_s hi i
          have hP : gP G (mW G a st kp (shI hi (i + 1)) sl sv pd td (nI k) pl pt rt bn) H := by rw [← ev_2]; exact hP
          have hD : va_D (aA (mW G a st kp hi sl sv pd td (nI k) pl pt rt bn)) (mW G a st kp (shI hi (i + 1)) sl sv pd td (nI k) pl pt rt bn) := by rw [← ev_2]; exact hD
          refine lv_iinc (v := nI (i + 1)) (lv' := [(1, .int (nI (i + 1))), (0, .ref (a 0))]) hx hb dX5_record_34 hl (k := 0) rfl (nI_1 _) (by decide) rfl (fun ls hl => ?_)
          refine lv_goto (tgt := 11) hx hb dX5_record_37 (by decide) ?_
          exact ih_11 (i + 1) (by omega) (by omega) _ _ (hP) (hD) hS _ (lv_sub hl [0, 1] rfl)
    exact L_11 (1180 + 1) 0 (by omega) (by omega) _ _ (by rw [shI_0]; exact hP) (by rw [shI_0]; exact hD) hS _ (lv_sub hl [0, 1] rfl)
set_option maxHeartbeats 4000000 in
set_option maxRecDepth 100000 in
/-- X5_relaysWithBranches -/
theorem c_X5_relaysWithBranches (l : Launch) (G : GG) (a : Nat → Nat) (st : Nat → Int32) (kp : Nat → Int32) (hi : Nat → Int32) (sl : Nat → Int32) (sv : Nat → Int32) (pd : Nat → Int32) (td : Nat → Int32) (rc : Int32) (pl : Int32) (pt : Int32) (rt : Int32) (bn : Int32) : Met l yX5_relaysWithBranches wsX5_relaysWithBranches ({ frames := 1, cells := 0, slots := 0, locals := 22 }) (pcW G [.ref (a 0)] (mW G a st kp hi sl sv pd td rc pl pt rt bn)) (qRO (.int (relB st))) 0 0 nofree := by
  refine hd_RO (cc := cX5_relaysWithBranches) (maxL := 3) (ret := some .int) (by decide) rfl (Nat.le_of_ble_eq_true rfl) ?_
  intro p e s m below meth c ls hx hb hr hts hown hlocks hml hP hKK hl
  have hl : lv_has ls 3 [(0, .ref (a 0))] := hl
  refine lv_iconst (v := 0) hx hb dX5_relaysWithBranches_0 (by decide) ?_
  refine lv_istore_n (lv' := [(1, .int 0), (0, .ref (a 0))]) hx hb dX5_relaysWithBranches_1 rfl hl (by decide) rfl (fun ls hl => ?_)
  refine lv_iconst (v := 0) hx hb dX5_relaysWithBranches_2 (by decide) ?_
  refine lv_istore_n (lv' := [(2, .int 0), (1, .int 0), (0, .ref (a 0))]) hx hb dX5_relaysWithBranches_3 rfl hl (by decide) rfl (fun ls hl => ?_)
  have L_4 : ∀ (n_4 : Nat) (i : Nat), (i ≤ 10) → (10 + 1 ≤ i + n_4) → ∀ (ls : Array Slot), lv_has ls 3 [(2, .int (nI i)), (1, .int (sumN i (fun r => if 0 < st (px r 4) then 1 else 0))), (0, .ref (a 0))] → W p l e ({ frames := 1, cells := 0, slots := 0, locals := 22 }) s m (List.toArray [.ref (a 0)]) below meth c s.heap [] 0 0 (MQ below (qRO (.int (relB st))) (List.toArray [.ref (a 0)]) s 0 0 nofree) (F0 m 4 ls []) := by
    intro n_4
    induction n_4 with
    | zero => intro i h1 h2; exact absurd (h2) (by omega)
    | succ n_4 ih_4 =>
      intro i h1 h2 ls hl
      refine lv_iload_n hx hb dX5_relaysWithBranches_4 rfl (lv_at hl 0 rfl) ?_
      refine lv_bipush (v := 10) hx hb dX5_relaysWithBranches_5 (by decide) ?_
      refine lv_icmp_ge (tgt := 33) hx hb dX5_relaysWithBranches_7 (by decide) (fun c_7 => ?_) (fun c_7 => ?_)
      · skip
        have c_7 : 10 ≤ i := (nI_leI (a := 10) (b := i) (by omega) (by omega)).mp c_7
        refine lv_iload_n hx hb dX5_relaysWithBranches_33 rfl (lv_at hl 1 rfl) ?_
        exact ex_ROi hx hb hr hlocks rfl dX5_relaysWithBranches_34 (by rw [show i = 10 by omega]; rfl)
      · skip
        have c_7 : ¬ (10 ≤ i) := fun q => c_7 ((nI_leI (a := 10) (b := i) (by omega) (by omega)).mpr q)
        refine lv_iload_n hx hb dX5_relaysWithBranches_10 rfl (lv_at hl 1 rfl) ?_
        refine lv_aload_n hx hb dX5_relaysWithBranches_11 rfl (lv_at hl 2 rfl) ?_
        refine lv_iload_n hx hb dX5_relaysWithBranches_12 rfl (lv_at hl 0 rfl) ?_
        refine lv_iconst (v := 4) hx hb dX5_relaysWithBranches_13 (by decide) ?_
        refine ro_V (As := [.int (nI i), .int (nI 4)]) (rest := [.int (sumN i (fun r => if 0 < st (px r 4) then 1 else 0))]) ⟨hx, hb, hml, hown, hts⟩ (c_X5_part l G a st kp hi sl sv pd td rc pl pt rt bn i 4 (by omega) (by omega)) (cwV 2 hts gX5_relaysWithBranches_X5_part rfl rfl rfl (by decide +kernel) ⟨Nat.le_of_ble_eq_true rfl, Nat.le_of_ble_eq_true rfl⟩) hP hKK (va_recv hKK.1 hP (ci := 5) (q0 := 0) rfl rfl) rfl hl.1 rfl (Nat.le_of_ble_eq_true rfl) dX5_relaysWithBranches_14 (Nat.zero_le _) (Nat.zero_le _) ?_
        refine lv_if_le (tgt := 24) hx hb dX5_relaysWithBranches_17 (by decide) (fun c_17 => ?_) (fun c_17 => ?_)
        · skip
          refine lv_iconst (v := 0) hx hb dX5_relaysWithBranches_24 (by decide) ?_
          refine lv_iadd hx hb dX5_relaysWithBranches_25 ?_
          refine lv_asi (y := sumN (i + 1) (fun r => if 0 < st (px r 4) then 1 else 0)) (by simp [sumN, Int32.not_lt.mpr c_17]) ?_
          refine lv_istore_n (lv' := [(1, .int (sumN (i + 1) (fun r => if 0 < st (px r 4) then 1 else 0))), (2, .int (nI i)), (0, .ref (a 0))]) hx hb dX5_relaysWithBranches_26 rfl hl (by decide) rfl (fun ls hl => ?_)
          refine lv_iinc (v := nI (i + 1)) (lv' := [(2, .int (nI (i + 1))), (1, .int (sumN (i + 1) (fun r => if 0 < st (px r 4) then 1 else 0))), (0, .ref (a 0))]) hx hb dX5_relaysWithBranches_27 hl (k := 1) rfl (nI_1 _) (by decide) rfl (fun ls hl => ?_)
          refine lv_goto (tgt := 4) hx hb dX5_relaysWithBranches_30 (by decide) ?_
          exact ih_4 (i + 1) (by omega) (by omega) _ (lv_sub hl [0, 1, 2] rfl)
        · skip
          refine lv_iconst (v := 1) hx hb dX5_relaysWithBranches_20 (by decide) ?_
          refine lv_goto (tgt := 25) hx hb dX5_relaysWithBranches_21 (by decide) ?_
          refine lv_iadd hx hb dX5_relaysWithBranches_25 ?_
          refine lv_asi (y := sumN (i + 1) (fun r => if 0 < st (px r 4) then 1 else 0)) (by simp [sumN, Int32.not_le.mp c_17]) ?_
          refine lv_istore_n (lv' := [(1, .int (sumN (i + 1) (fun r => if 0 < st (px r 4) then 1 else 0))), (2, .int (nI i)), (0, .ref (a 0))]) hx hb dX5_relaysWithBranches_26 rfl hl (by decide) rfl (fun ls hl => ?_)
          refine lv_iinc (v := nI (i + 1)) (lv' := [(2, .int (nI (i + 1))), (1, .int (sumN (i + 1) (fun r => if 0 < st (px r 4) then 1 else 0))), (0, .ref (a 0))]) hx hb dX5_relaysWithBranches_27 hl (k := 1) rfl (nI_1 _) (by decide) rfl (fun ls hl => ?_)
          refine lv_goto (tgt := 4) hx hb dX5_relaysWithBranches_30 (by decide) ?_
          exact ih_4 (i + 1) (by omega) (by omega) _ (lv_sub hl [0, 1, 2] rfl)
  exact L_4 (10 + 1) 0 (by omega) (by omega) _ (lv_sub hl [0, 1, 2] rfl)
set_option maxHeartbeats 4000000 in
set_option maxRecDepth 100000 in
/-- X5_holdsItself -/
theorem c_X5_holdsItself (l : Launch) (G : GG) (a : Nat → Nat) (st : Nat → Int32) (kp : Nat → Int32) (hi : Nat → Int32) (sl : Nat → Int32) (sv : Nat → Int32) (pd : Nat → Int32) (td : Nat → Int32) (rc : Int32) (pl : Int32) (pt : Int32) (rt : Int32) (bn : Int32) (k : Nat) (hk : k < 10) (hI : RI st) : Met l yX5_holdsItself wsX5_holdsItself ({ frames := 2, cells := 0, slots := 0, locals := 45 }) (pcW G [.ref (a 0), .int (nI k)] (mW G a st kp hi sl sv pd td rc pl pt rt bn)) (qRO (.int (b2i (anyN (cnt st k) (fun b => hs (frt st k b) (nI k)))))) 0 0 nofree := by
  refine hd_RO (cc := cX5_holdsItself) (maxL := 4) (ret := some .boolean) (by decide) rfl (Nat.le_of_ble_eq_true rfl) ?_
  intro p e s m below meth c ls hx hb hr hts hown hlocks hml hP hKK hl
  have hl : lv_has ls 4 [(0, .ref (a 0)), (1, .int (nI k))] := hl
  have hc := hI.1 k hk
  refine lv_iconst (v := 0) hx hb dX5_holdsItself_0 (by decide) ?_
  refine lv_istore_n (lv' := [(2, .int 0), (0, .ref (a 0)), (1, .int (nI k))]) hx hb dX5_holdsItself_1 rfl hl (by decide) rfl (fun ls hl => ?_)
  refine lv_iconst (v := 0) hx hb dX5_holdsItself_2 (by decide) ?_
  refine lv_istore_n (lv' := [(3, .int 0), (2, .int 0), (0, .ref (a 0)), (1, .int (nI k))]) hx hb dX5_holdsItself_3 rfl hl (by decide) rfl (fun ls hl => ?_)
  have L_4 : ∀ (n_4 : Nat) (i : Nat), (i ≤ cnt st k) → (cnt st k + 1 ≤ i + n_4) → ∀ (ls : Array Slot), lv_has ls 4 [(3, .int (nI i)), (2, .int (b2i (anyN i (fun b => hs (frt st k b) (nI k))))), (0, .ref (a 0)), (1, .int (nI k))] → W p l e ({ frames := 2, cells := 0, slots := 0, locals := 45 }) s m (List.toArray [.ref (a 0), .int (nI k)]) below meth c s.heap [] 0 0 (MQ below (qRO (.int (b2i (anyN (cnt st k) (fun b => hs (frt st k b) (nI k)))))) (List.toArray [.ref (a 0), .int (nI k)]) s 0 0 nofree) (F0 m 4 ls []) := by
    intro n_4
    induction n_4 with
    | zero => intro i h1 h2; exact absurd (h2) (by omega)
    | succ n_4 ih_4 =>
      intro i h1 h2 ls hl
      refine lv_iload_n hx hb dX5_holdsItself_4 rfl (lv_at hl 0 rfl) ?_
      refine lv_aload_n hx hb dX5_holdsItself_5 rfl (lv_at hl 2 rfl) ?_
      refine lv_iload_n hx hb dX5_holdsItself_6 rfl (lv_at hl 3 rfl) ?_
      refine lv_iconst (v := 4) hx hb dX5_holdsItself_7 (by decide) ?_
      refine ro_V (As := [.int (nI k), .int (nI 4)]) (rest := [.int (nI i)]) ⟨hx, hb, hml, hown, hts⟩ (c_X5_part l G a st kp hi sl sv pd td rc pl pt rt bn k 4 (by omega) (by omega)) (cwV 2 hts gX5_holdsItself_X5_part rfl rfl rfl (by decide +kernel) ⟨Nat.le_of_ble_eq_true rfl, Nat.le_of_ble_eq_true rfl⟩) hP hKK (va_recv hKK.1 hP (ci := 5) (q0 := 0) rfl rfl) rfl hl.1 rfl (Nat.le_of_ble_eq_true rfl) dX5_holdsItself_8 (Nat.zero_le _) (Nat.zero_le _) ?_
      refine lv_asi (y := nI (cnt st k)) (hc.1) ?_
      refine lv_icmp_ge (tgt := 44) hx hb dX5_holdsItself_11 (by decide) (fun c_11 => ?_) (fun c_11 => ?_)
      · skip
        have c_11 : (cnt st k) ≤ i := (nI_leI (a := cnt st k) (b := i) (by omega) (by omega)).mp c_11
        refine lv_iload_n hx hb dX5_holdsItself_44 rfl (lv_at hl 1 rfl) ?_
        exact ex_ROz (b := anyN (cnt st k) (fun b => hs (frt st k b) (nI k))) hx hb hr hlocks rfl dX5_holdsItself_45 (by rw [show i = cnt st k by omega]) rfl
      · skip
        have c_11 : ¬ ((cnt st k) ≤ i) := fun q => c_11 ((nI_leI (a := cnt st k) (b := i) (by omega) (by omega)).mpr q)
        refine lv_iload_n hx hb dX5_holdsItself_14 rfl (lv_at hl 1 rfl) ?_
        refine lv_if_ne (tgt := 32) hx hb dX5_holdsItself_15 (by decide) (fun c_15 => ?_) (fun c_15 => ?_)
        · skip
          have c_15 := b2i_1 c_15
          refine lv_iconst (v := 1) hx hb dX5_holdsItself_32 (by decide) ?_
          refine lv_goto (tgt := 37) hx hb dX5_holdsItself_33 (by decide) ?_
          refine lv_asi (y := b2i (anyN (i + 1) (fun b => hs (frt st k b) (nI k)))) (by simp_all [anyN, b2i]) ?_
          refine lv_istore_n (lv' := [(2, .int (b2i (anyN (i + 1) (fun b => hs (frt st k b) (nI k))))), (3, .int (nI i)), (0, .ref (a 0)), (1, .int (nI k))]) hx hb dX5_holdsItself_37 rfl hl (by decide) rfl (fun ls hl => ?_)
          refine lv_iinc (v := nI (i + 1)) (lv' := [(3, .int (nI (i + 1))), (2, .int (b2i (anyN (i + 1) (fun b => hs (frt st k b) (nI k))))), (0, .ref (a 0)), (1, .int (nI k))]) hx hb dX5_holdsItself_38 hl (k := 1) rfl (nI_1 _) (by decide) rfl (fun ls hl => ?_)
          refine lv_goto (tgt := 4) hx hb dX5_holdsItself_41 (by decide) ?_
          exact ih_4 (i + 1) (by omega) (by omega) _ (lv_sub hl [0, 1, 2, 3] rfl)
        · skip
          have c_15 := b2i_0 c_15
          refine lv_aload_n hx hb dX5_holdsItself_18 rfl (lv_at hl 2 rfl) ?_
          refine lv_iload_n hx hb dX5_holdsItself_19 rfl (lv_at hl 3 rfl) ?_
          refine lv_iload_n hx hb dX5_holdsItself_20 rfl (lv_at hl 0 rfl) ?_
          refine lv_iconst (v := 0) hx hb dX5_holdsItself_21 (by decide) ?_
          refine ro_V (As := [.int (nI k), .int (nI i), .int (nI 0)]) (rest := []) ⟨hx, hb, hml, hown, hts⟩ (c_X5_ofBranch l G a st kp hi sl sv pd td rc pl pt rt bn k i 0 (by omega) (by omega) (by omega)) (cwV 3 hts gX5_holdsItself_X5_ofBranch rfl rfl rfl (by decide +kernel) ⟨Nat.le_of_ble_eq_true rfl, Nat.le_of_ble_eq_true rfl⟩) hP hKK (va_recv hKK.1 hP (ci := 5) (q0 := 0) rfl rfl) rfl hl.1 rfl (Nat.le_of_ble_eq_true rfl) dX5_holdsItself_22 (Nat.zero_le _) (Nat.zero_le _) ?_
          refine lv_asi (y := frt st k i) (ofb_0 _ _ _) ?_
          refine lv_iload_n hx hb dX5_holdsItself_25 rfl (lv_at hl 3 rfl) ?_
          refine ro_S (As := [.int (frt st k i), .int (nI k)]) (rest := []) ⟨hx, hb, hml, hown, hts⟩ (c_X5_has l G (frt st k i) (nI k)) (va_cwS 2 hts gX5_holdsItself_X5_has rfl rfl rfl (by decide +kernel) ⟨Nat.le_of_ble_eq_true rfl, Nat.le_of_ble_eq_true rfl⟩) (show gP G [] _ from fun k q h => by simp at h) hKK rfl hl.1 rfl (Nat.le_of_ble_eq_true rfl) dX5_holdsItself_26 (Nat.zero_le _) (Nat.zero_le _) ?_
          refine lv_if_eq (tgt := 36) hx hb dX5_holdsItself_29 (by decide) (fun c_29 => ?_) (fun c_29 => ?_)
          · skip
            have c_29 := b2i_0 c_29
            refine lv_iconst (v := 0) hx hb dX5_holdsItself_36 (by decide) ?_
            refine lv_asi (y := b2i (anyN (i + 1) (fun b => hs (frt st k b) (nI k)))) (by simp_all [anyN, b2i]) ?_
            refine lv_istore_n (lv' := [(2, .int (b2i (anyN (i + 1) (fun b => hs (frt st k b) (nI k))))), (3, .int (nI i)), (0, .ref (a 0)), (1, .int (nI k))]) hx hb dX5_holdsItself_37 rfl hl (by decide) rfl (fun ls hl => ?_)
            refine lv_iinc (v := nI (i + 1)) (lv' := [(3, .int (nI (i + 1))), (2, .int (b2i (anyN (i + 1) (fun b => hs (frt st k b) (nI k))))), (0, .ref (a 0)), (1, .int (nI k))]) hx hb dX5_holdsItself_38 hl (k := 1) rfl (nI_1 _) (by decide) rfl (fun ls hl => ?_)
            refine lv_goto (tgt := 4) hx hb dX5_holdsItself_41 (by decide) ?_
            exact ih_4 (i + 1) (by omega) (by omega) _ (lv_sub hl [0, 1, 2, 3] rfl)
          · skip
            have c_29 := b2i_1 c_29
            refine lv_iconst (v := 1) hx hb dX5_holdsItself_32 (by decide) ?_
            refine lv_goto (tgt := 37) hx hb dX5_holdsItself_33 (by decide) ?_
            refine lv_asi (y := b2i (anyN (i + 1) (fun b => hs (frt st k b) (nI k)))) (by simp_all [anyN, b2i]) ?_
            refine lv_istore_n (lv' := [(2, .int (b2i (anyN (i + 1) (fun b => hs (frt st k b) (nI k))))), (3, .int (nI i)), (0, .ref (a 0)), (1, .int (nI k))]) hx hb dX5_holdsItself_37 rfl hl (by decide) rfl (fun ls hl => ?_)
            refine lv_iinc (v := nI (i + 1)) (lv' := [(3, .int (nI (i + 1))), (2, .int (b2i (anyN (i + 1) (fun b => hs (frt st k b) (nI k))))), (0, .ref (a 0)), (1, .int (nI k))]) hx hb dX5_holdsItself_38 hl (k := 1) rfl (nI_1 _) (by decide) rfl (fun ls hl => ?_)
            refine lv_goto (tgt := 4) hx hb dX5_holdsItself_41 (by decide) ?_
            exact ih_4 (i + 1) (by omega) (by omega) _ (lv_sub hl [0, 1, 2, 3] rfl)
  exact L_4 (cnt st k + 1) 0 (by omega) (by omega) _ (lv_sub hl [0, 1, 2, 3] rfl)
set_option maxHeartbeats 4000000 in
set_option maxRecDepth 100000 in
/-- X5_relaysWith -/
theorem c_X5_relaysWith (l : Launch) (G : GG) (a : Nat → Nat) (st : Nat → Int32) (kp : Nat → Int32) (hi : Nat → Int32) (sl : Nat → Int32) (sv : Nat → Int32) (pd : Nat → Int32) (td : Nat → Int32) (rc : Int32) (pl : Int32) (pt : Int32) (rt : Int32) (bn : Int32) (k : Nat) (hk : k < 10) (hI : RI st) : Met l yX5_relaysWith wsX5_relaysWith ({ frames := 2, cells := 0, slots := 0, locals := 45 }) (pcW G [.ref (a 0), .int (nI k)] (mW G a st kp hi sl sv pd td rc pl pt rt bn)) (qRO (.int (relM st k))) 0 0 nofree := by
  refine hd_RO (cc := cX5_relaysWith) (maxL := 5) (ret := some .int) (by decide) rfl (Nat.le_of_ble_eq_true rfl) ?_
  intro p e s m below meth c ls hx hb hr hts hown hlocks hml hP hKK hl
  have hl : lv_has ls 5 [(0, .ref (a 0)), (1, .int (nI k))] := hl
  refine lv_iconst (v := 0) hx hb dX5_relaysWith_0 (by decide) ?_
  refine lv_istore_n (lv' := [(2, .int 0), (0, .ref (a 0)), (1, .int (nI k))]) hx hb dX5_relaysWith_1 rfl hl (by decide) rfl (fun ls hl => ?_)
  refine lv_iconst (v := 0) hx hb dX5_relaysWith_2 (by decide) ?_
  refine lv_istore_n (lv' := [(3, .int 0), (2, .int 0), (0, .ref (a 0)), (1, .int (nI k))]) hx hb dX5_relaysWith_3 rfl hl (by decide) rfl (fun ls hl => ?_)
  have L_4 : ∀ (n_4 : Nat) (i : Nat), (i ≤ 10) → (10 + 1 ≤ i + n_4) → ∀ (ls : Array Slot), lv_has ls 5 [(3, .int (nI i)), (2, .int (orN i (fun r => orN (cnt st r) (fun b => if hs (frt st r b ||| bck st r b) (nI k) = true then shl 1 (nI r) else 0)))), (0, .ref (a 0)), (1, .int (nI k))] → W p l e ({ frames := 2, cells := 0, slots := 0, locals := 45 }) s m (List.toArray [.ref (a 0), .int (nI k)]) below meth c s.heap [] 0 0 (MQ below (qRO (.int (relM st k))) (List.toArray [.ref (a 0), .int (nI k)]) s 0 0 nofree) (F0 m 4 ls []) := by
    intro n_4
    induction n_4 with
    | zero => intro i h1 h2; exact absurd (h2) (by omega)
    | succ n_4 ih_4 =>
      intro i h1 h2 ls hl
      refine lv_iload_n hx hb dX5_relaysWith_4 rfl (lv_at hl 0 rfl) ?_
      refine lv_bipush (v := 10) hx hb dX5_relaysWith_5 (by decide) ?_
      refine lv_icmp_ge (tgt := 70) hx hb dX5_relaysWith_7 (by decide) (fun c_7 => ?_) (fun c_7 => ?_)
      · skip
        have c_7 : 10 ≤ i := (nI_leI (a := 10) (b := i) (by omega) (by omega)).mp c_7
        refine lv_iload_n hx hb dX5_relaysWith_70 rfl (lv_at hl 1 rfl) ?_
        exact ex_ROi hx hb hr hlocks rfl dX5_relaysWith_71 (by rw [show i = 10 by omega]; rfl)
      · skip
        have c_7 : ¬ (10 ≤ i) := fun q => c_7 ((nI_leI (a := 10) (b := i) (by omega) (by omega)).mpr q)
        have hc := hI.1 i (by omega)
        refine lv_iconst (v := 0) hx hb dX5_relaysWith_10 (by decide) ?_
        refine lv_istore (lv' := [(4, .int 0), (3, .int (nI i)), (2, .int (orN i (fun r => orN (cnt st r) (fun b => if hs (frt st r b ||| bck st r b) (nI k) = true then shl 1 (nI r) else 0)))), (0, .ref (a 0)), (1, .int (nI k))]) hx hb dX5_relaysWith_11 hl (by decide) rfl (fun ls hl => ?_)
        have hl : lv_has ls 5 [(4, .int 0), (3, .int (nI i)), (2, .int (orN i (fun r => orN (cnt st r) (fun b => if hs (frt st r b ||| bck st r b) (nI k) = true then shl 1 (nI r) else 0)) ||| orN 0 (fun b => if hs (frt st i b ||| bck st i b) (nI k) = true then shl 1 (nI i) else 0))), (0, .ref (a 0)), (1, .int (nI k))] := by have e_l1 : (orN i (fun r => orN (cnt st r) (fun b => if hs (frt st r b ||| bck st r b) (nI k) = true then shl 1 (nI r) else 0))) = (orN i (fun r => orN (cnt st r) (fun b => if hs (frt st r b ||| bck st r b) (nI k) = true then shl 1 (nI r) else 0)) ||| orN 0 (fun b => if hs (frt st i b ||| bck st i b) (nI k) = true then shl 1 (nI i) else 0)) := ((or_z _).symm); rw [← e_l1]; exact hl
        have L_13 : ∀ (n_13 : Nat) (j : Nat), (j ≤ cnt st i) → (cnt st i + 1 ≤ j + n_13) → ∀ (ls : Array Slot), lv_has ls 5 [(4, .int (nI j)), (3, .int (nI i)), (2, .int (orN i (fun r => orN (cnt st r) (fun b => if hs (frt st r b ||| bck st r b) (nI k) = true then shl 1 (nI r) else 0)) ||| orN j (fun b => if hs (frt st i b ||| bck st i b) (nI k) = true then shl 1 (nI i) else 0))), (0, .ref (a 0)), (1, .int (nI k))] → W p l e ({ frames := 2, cells := 0, slots := 0, locals := 45 }) s m (List.toArray [.ref (a 0), .int (nI k)]) below meth c s.heap [] 0 0 (MQ below (qRO (.int (relM st k))) (List.toArray [.ref (a 0), .int (nI k)]) s 0 0 nofree) (F0 m 13 ls []) := by
          intro n_13
          induction n_13 with
          | zero => intro j g1 g2; exact absurd (g2) (by omega)
          | succ n_13 ih_13 =>
            intro j g1 g2 ls hl
            refine lv_iload hx hb dX5_relaysWith_13 (lv_at hl 0 rfl) ?_
            refine lv_aload_n hx hb dX5_relaysWith_15 rfl (lv_at hl 3 rfl) ?_
            refine lv_iload_n hx hb dX5_relaysWith_16 rfl (lv_at hl 1 rfl) ?_
            refine lv_iconst (v := 4) hx hb dX5_relaysWith_17 (by decide) ?_
            refine ro_V (As := [.int (nI i), .int (nI 4)]) (rest := [.int (nI j)]) ⟨hx, hb, hml, hown, hts⟩ (c_X5_part l G a st kp hi sl sv pd td rc pl pt rt bn i 4 (by omega) (by omega)) (cwV 2 hts gX5_relaysWith_X5_part rfl rfl rfl (by decide +kernel) ⟨Nat.le_of_ble_eq_true rfl, Nat.le_of_ble_eq_true rfl⟩) hP hKK (va_recv hKK.1 hP (ci := 5) (q0 := 0) rfl rfl) rfl hl.1 rfl (Nat.le_of_ble_eq_true rfl) dX5_relaysWith_18 (Nat.zero_le _) (Nat.zero_le _) ?_
            refine lv_asi (y := nI (cnt st i)) (hc.1) ?_
            refine lv_icmp_ge (tgt := 64) hx hb dX5_relaysWith_21 (by decide) (fun c_21 => ?_) (fun c_21 => ?_)
            · skip
              have c_21 : (cnt st i) ≤ j := (nI_leI (a := cnt st i) (b := j) (by omega) (by omega)).mp c_21
              have hl : lv_has ls 5 [(4, .int (nI j)), (3, .int (nI i)), (2, .int (orN (i + 1) (fun r => orN (cnt st r) (fun b => if hs (frt st r b ||| bck st r b) (nI k) = true then shl 1 (nI r) else 0)))), (0, .ref (a 0)), (1, .int (nI k))] := by have e_l2 : (orN i (fun r => orN (cnt st r) (fun b => if hs (frt st r b ||| bck st r b) (nI k) = true then shl 1 (nI r) else 0)) ||| orN j (fun b => if hs (frt st i b ||| bck st i b) (nI k) = true then shl 1 (nI i) else 0)) = (orN (i + 1) (fun r => orN (cnt st r) (fun b => if hs (frt st r b ||| bck st r b) (nI k) = true then shl 1 (nI r) else 0))) := (by rw [show j = cnt st i by omega]; rfl); rw [← e_l2]; exact hl
              refine lv_iinc (v := nI (i + 1)) (lv' := [(3, .int (nI (i + 1))), (4, .int (nI j)), (2, .int (orN (i + 1) (fun r => orN (cnt st r) (fun b => if hs (frt st r b ||| bck st r b) (nI k) = true then shl 1 (nI r) else 0)))), (0, .ref (a 0)), (1, .int (nI k))]) hx hb dX5_relaysWith_64 hl (k := 1) rfl (nI_1 _) (by decide) rfl (fun ls hl => ?_)
              refine lv_goto (tgt := 4) hx hb dX5_relaysWith_67 (by decide) ?_
              exact ih_4 (i + 1) (by omega) (by omega) _ (lv_sub hl [0, 2, 3, 4] rfl)
            · skip
              have c_21 : ¬ ((cnt st i) ≤ j) := fun q => c_21 ((nI_leI (a := cnt st i) (b := j) (by omega) (by omega)).mpr q)
              refine lv_iload_n hx hb dX5_relaysWith_24 rfl (lv_at hl 2 rfl) ?_
              refine lv_aload_n hx hb dX5_relaysWith_25 rfl (lv_at hl 3 rfl) ?_
              refine lv_iload_n hx hb dX5_relaysWith_26 rfl (lv_at hl 1 rfl) ?_
              refine lv_iload hx hb dX5_relaysWith_27 (lv_at hl 0 rfl) ?_
              refine lv_iconst (v := 0) hx hb dX5_relaysWith_29 (by decide) ?_
              refine ro_V (As := [.int (nI i), .int (nI j), .int (nI 0)]) (rest := [.int (orN i (fun r => orN (cnt st r) (fun b => if hs (frt st r b ||| bck st r b) (nI k) = true then shl 1 (nI r) else 0)) ||| orN j (fun b => if hs (frt st i b ||| bck st i b) (nI k) = true then shl 1 (nI i) else 0))]) ⟨hx, hb, hml, hown, hts⟩ (c_X5_ofBranch l G a st kp hi sl sv pd td rc pl pt rt bn i j 0 (by omega) (by omega) (by omega)) (cwV 3 hts gX5_relaysWith_X5_ofBranch rfl rfl rfl (by decide +kernel) ⟨Nat.le_of_ble_eq_true rfl, Nat.le_of_ble_eq_true rfl⟩) hP hKK (va_recv hKK.1 hP (ci := 5) (q0 := 0) rfl rfl) rfl hl.1 rfl (Nat.le_of_ble_eq_true rfl) dX5_relaysWith_30 (Nat.zero_le _) (Nat.zero_le _) ?_
              refine lv_asi (y := frt st i j) (ofb_0 _ _ _) ?_
              refine lv_aload_n hx hb dX5_relaysWith_33 rfl (lv_at hl 3 rfl) ?_
              refine lv_iload_n hx hb dX5_relaysWith_34 rfl (lv_at hl 1 rfl) ?_
              refine lv_iload hx hb dX5_relaysWith_35 (lv_at hl 0 rfl) ?_
              refine lv_iconst (v := 1) hx hb dX5_relaysWith_37 (by decide) ?_
              refine ro_V (As := [.int (nI i), .int (nI j), .int (nI 1)]) (rest := [.int (frt st i j), .int (orN i (fun r => orN (cnt st r) (fun b => if hs (frt st r b ||| bck st r b) (nI k) = true then shl 1 (nI r) else 0)) ||| orN j (fun b => if hs (frt st i b ||| bck st i b) (nI k) = true then shl 1 (nI i) else 0))]) ⟨hx, hb, hml, hown, hts⟩ (c_X5_ofBranch l G a st kp hi sl sv pd td rc pl pt rt bn i j 1 (by omega) (by omega) (by omega)) (cwV 3 hts gX5_relaysWith_X5_ofBranch rfl rfl rfl (by decide +kernel) ⟨Nat.le_of_ble_eq_true rfl, Nat.le_of_ble_eq_true rfl⟩) hP hKK (va_recv hKK.1 hP (ci := 5) (q0 := 0) rfl rfl) rfl hl.1 rfl (Nat.le_of_ble_eq_true rfl) dX5_relaysWith_38 (Nat.zero_le _) (Nat.zero_le _) ?_
              refine lv_asi (y := bck st i j) (ofb_1 _ _ _) ?_
              refine lv_ior hx hb dX5_relaysWith_41 ?_
              refine lv_iload_n hx hb dX5_relaysWith_42 rfl (lv_at hl 4 rfl) ?_
              refine ro_S (As := [.int ((frt st i j) ||| (bck st i j)), .int (nI k)]) (rest := [.int (orN i (fun r => orN (cnt st r) (fun b => if hs (frt st r b ||| bck st r b) (nI k) = true then shl 1 (nI r) else 0)) ||| orN j (fun b => if hs (frt st i b ||| bck st i b) (nI k) = true then shl 1 (nI i) else 0))]) ⟨hx, hb, hml, hown, hts⟩ (c_X5_has l G ((frt st i j) ||| (bck st i j)) (nI k)) (va_cwS 2 hts gX5_relaysWith_X5_has rfl rfl rfl (by decide +kernel) ⟨Nat.le_of_ble_eq_true rfl, Nat.le_of_ble_eq_true rfl⟩) (show gP G [] _ from fun k q h => by simp at h) hKK rfl hl.1 rfl (Nat.le_of_ble_eq_true rfl) dX5_relaysWith_43 (Nat.zero_le _) (Nat.zero_le _) ?_
              refine lv_if_eq (tgt := 55) hx hb dX5_relaysWith_46 (by decide) (fun c_46 => ?_) (fun c_46 => ?_)
              · skip
                have c_46 := b2i_0 c_46
                refine lv_iconst (v := 0) hx hb dX5_relaysWith_55 (by decide) ?_
                refine lv_ior hx hb dX5_relaysWith_56 ?_
                refine lv_asi (y := orN i (fun r => orN (cnt st r) (fun b => if hs (frt st r b ||| bck st r b) (nI k) = true then shl 1 (nI r) else 0)) ||| orN (j + 1) (fun b => if hs (frt st i b ||| bck st i b) (nI k) = true then shl 1 (nI i) else 0)) (by simp [orN, c_46, or_as]) ?_
                refine lv_istore_n (lv' := [(2, .int (orN i (fun r => orN (cnt st r) (fun b => if hs (frt st r b ||| bck st r b) (nI k) = true then shl 1 (nI r) else 0)) ||| orN (j + 1) (fun b => if hs (frt st i b ||| bck st i b) (nI k) = true then shl 1 (nI i) else 0))), (4, .int (nI j)), (3, .int (nI i)), (0, .ref (a 0)), (1, .int (nI k))]) hx hb dX5_relaysWith_57 rfl hl (by decide) rfl (fun ls hl => ?_)
                refine lv_iinc (v := nI (j + 1)) (lv' := [(4, .int (nI (j + 1))), (2, .int (orN i (fun r => orN (cnt st r) (fun b => if hs (frt st r b ||| bck st r b) (nI k) = true then shl 1 (nI r) else 0)) ||| orN (j + 1) (fun b => if hs (frt st i b ||| bck st i b) (nI k) = true then shl 1 (nI i) else 0))), (3, .int (nI i)), (0, .ref (a 0)), (1, .int (nI k))]) hx hb dX5_relaysWith_58 hl (k := 1) rfl (nI_1 _) (by decide) rfl (fun ls hl => ?_)
                refine lv_goto (tgt := 13) hx hb dX5_relaysWith_61 (by decide) ?_
                exact ih_13 (j + 1) (by omega) (by omega) _ (lv_sub hl [0, 2, 1, 3, 4] rfl)
              · skip
                have c_46 := b2i_1 c_46
                refine lv_iconst (v := 1) hx hb dX5_relaysWith_49 (by decide) ?_
                refine lv_iload_n hx hb dX5_relaysWith_50 rfl (lv_at hl 1 rfl) ?_
                refine lv_ishl hx hb dX5_relaysWith_51 ?_
                refine lv_asi (y := shl 1 (nI i)) rfl ?_
                refine lv_goto (tgt := 56) hx hb dX5_relaysWith_52 (by decide) ?_
                refine lv_ior hx hb dX5_relaysWith_56 ?_
                refine lv_asi (y := orN i (fun r => orN (cnt st r) (fun b => if hs (frt st r b ||| bck st r b) (nI k) = true then shl 1 (nI r) else 0)) ||| orN (j + 1) (fun b => if hs (frt st i b ||| bck st i b) (nI k) = true then shl 1 (nI i) else 0)) (by simp [orN, c_46, or_as]) ?_
                refine lv_istore_n (lv' := [(2, .int (orN i (fun r => orN (cnt st r) (fun b => if hs (frt st r b ||| bck st r b) (nI k) = true then shl 1 (nI r) else 0)) ||| orN (j + 1) (fun b => if hs (frt st i b ||| bck st i b) (nI k) = true then shl 1 (nI i) else 0))), (4, .int (nI j)), (3, .int (nI i)), (0, .ref (a 0)), (1, .int (nI k))]) hx hb dX5_relaysWith_57 rfl hl (by decide) rfl (fun ls hl => ?_)
                refine lv_iinc (v := nI (j + 1)) (lv' := [(4, .int (nI (j + 1))), (2, .int (orN i (fun r => orN (cnt st r) (fun b => if hs (frt st r b ||| bck st r b) (nI k) = true then shl 1 (nI r) else 0)) ||| orN (j + 1) (fun b => if hs (frt st i b ||| bck st i b) (nI k) = true then shl 1 (nI i) else 0))), (3, .int (nI i)), (0, .ref (a 0)), (1, .int (nI k))]) hx hb dX5_relaysWith_58 hl (k := 1) rfl (nI_1 _) (by decide) rfl (fun ls hl => ?_)
                refine lv_goto (tgt := 13) hx hb dX5_relaysWith_61 (by decide) ?_
                exact ih_13 (j + 1) (by omega) (by omega) _ (lv_sub hl [0, 2, 1, 3, 4] rfl)
        exact L_13 (cnt st i + 1) 0 (by omega) (by omega) _ (lv_sub hl [0, 1, 2, 3, 4] rfl)
  exact L_4 (10 + 1) 0 (by omega) (by omega) _ (lv_sub hl [0, 1, 2, 3] rfl)
set_option maxHeartbeats 4000000 in
set_option maxRecDepth 100000 in
/-- X5_neverClosed -/
theorem c_X5_neverClosed (l : Launch) (G : GG) (a : Nat → Nat) (st : Nat → Int32) (kp : Nat → Int32) (hi : Nat → Int32) (sl : Nat → Int32) (sv : Nat → Int32) (pd : Nat → Int32) (td : Nat → Int32) (rc : Int32) (pl : Int32) (pt : Int32) (rt : Int32) (bn : Int32) (hI : RI st) : Met l yX5_neverClosed wsX5_neverClosed ({ frames := 2, cells := 0, slots := 0, locals := 45 }) (pcW G [.ref (a 0)] (mW G a st kp hi sl sv pd td rc pl pt rt bn)) (qRO (.int (nevC st))) 0 0 nofree := by
  refine hd_RO (cc := cX5_neverClosed) (maxL := 4) (ret := some .int) (by decide) rfl (Nat.le_of_ble_eq_true rfl) ?_
  intro p e s m below meth c ls hx hb hr hts hown hlocks hml hP hKK hl
  have hl : lv_has ls 4 [(0, .ref (a 0))] := hl
  refine lv_iconst (v := 0) hx hb dX5_neverClosed_0 (by decide) ?_
  refine lv_istore_n (lv' := [(1, .int 0), (0, .ref (a 0))]) hx hb dX5_neverClosed_1 rfl hl (by decide) rfl (fun ls hl => ?_)
  refine lv_iconst (v := 0) hx hb dX5_neverClosed_2 (by decide) ?_
  refine lv_istore_n (lv' := [(2, .int 0), (1, .int 0), (0, .ref (a 0))]) hx hb dX5_neverClosed_3 rfl hl (by decide) rfl (fun ls hl => ?_)
  have L_4 : ∀ (n_4 : Nat) (i : Nat), (i ≤ 10) → (10 + 1 ≤ i + n_4) → ∀ (ls : Array Slot), lv_has ls 4 [(2, .int (nI i)), (1, .int (sumN i (fun r => nevR st r))), (0, .ref (a 0))] → W p l e ({ frames := 2, cells := 0, slots := 0, locals := 45 }) s m (List.toArray [.ref (a 0)]) below meth c s.heap [] 0 0 (MQ below (qRO (.int (nevC st))) (List.toArray [.ref (a 0)]) s 0 0 nofree) (F0 m 4 ls []) := by
    intro n_4
    induction n_4 with
    | zero => intro i h1 h2; exact absurd (h2) (by omega)
    | succ n_4 ih_4 =>
      intro i h1 h2 ls hl
      refine lv_iload_n hx hb dX5_neverClosed_4 rfl (lv_at hl 0 rfl) ?_
      refine lv_bipush (v := 10) hx hb dX5_neverClosed_5 (by decide) ?_
      refine lv_icmp_ge (tgt := 60) hx hb dX5_neverClosed_7 (by decide) (fun c_7 => ?_) (fun c_7 => ?_)
      · skip
        have c_7 : 10 ≤ i := (nI_leI (a := 10) (b := i) (by omega) (by omega)).mp c_7
        refine lv_iload_n hx hb dX5_neverClosed_60 rfl (lv_at hl 1 rfl) ?_
        exact ex_ROi hx hb hr hlocks rfl dX5_neverClosed_61 (by rw [show i = 10 by omega]; rfl)
      · skip
        have c_7 : ¬ (10 ≤ i) := fun q => c_7 ((nI_leI (a := 10) (b := i) (by omega) (by omega)).mpr q)
        have hc := hI.1 i (by omega)
        refine lv_iconst (v := 0) hx hb dX5_neverClosed_10 (by decide) ?_
        refine lv_istore_n (lv' := [(3, .int 0), (2, .int (nI i)), (1, .int (sumN i (fun r => nevR st r))), (0, .ref (a 0))]) hx hb dX5_neverClosed_11 rfl hl (by decide) rfl (fun ls hl => ?_)
        have hl : lv_has ls 4 [(3, .int 0), (2, .int (nI i)), (1, .int (sumN i (fun r => nevR st r) + sumN 0 (fun b => if frt st i b &&& bck st i b ≠ 0 then 1 else 0))), (0, .ref (a 0))] := by have e_l1 : (sumN i (fun r => nevR st r)) = (sumN i (fun r => nevR st r) + sumN 0 (fun b => if frt st i b &&& bck st i b ≠ 0 then 1 else 0)) := ((Int32.add_zero _).symm); rw [← e_l1]; exact hl
        have L_12 : ∀ (n_12 : Nat) (j : Nat), (j ≤ cnt st i) → (cnt st i + 1 ≤ j + n_12) → ∀ (ls : Array Slot), lv_has ls 4 [(3, .int (nI j)), (2, .int (nI i)), (1, .int (sumN i (fun r => nevR st r) + sumN j (fun b => if frt st i b &&& bck st i b ≠ 0 then 1 else 0))), (0, .ref (a 0))] → W p l e ({ frames := 2, cells := 0, slots := 0, locals := 45 }) s m (List.toArray [.ref (a 0)]) below meth c s.heap [] 0 0 (MQ below (qRO (.int (nevC st))) (List.toArray [.ref (a 0)]) s 0 0 nofree) (F0 m 12 ls []) := by
          intro n_12
          induction n_12 with
          | zero => intro j g1 g2; exact absurd (g2) (by omega)
          | succ n_12 ih_12 =>
            intro j g1 g2 ls hl
            refine lv_iload_n hx hb dX5_neverClosed_12 rfl (lv_at hl 0 rfl) ?_
            refine lv_aload_n hx hb dX5_neverClosed_13 rfl (lv_at hl 3 rfl) ?_
            refine lv_iload_n hx hb dX5_neverClosed_14 rfl (lv_at hl 1 rfl) ?_
            refine lv_iconst (v := 4) hx hb dX5_neverClosed_15 (by decide) ?_
            refine ro_V (As := [.int (nI i), .int (nI 4)]) (rest := [.int (nI j)]) ⟨hx, hb, hml, hown, hts⟩ (c_X5_part l G a st kp hi sl sv pd td rc pl pt rt bn i 4 (by omega) (by omega)) (cwV 2 hts gX5_neverClosed_X5_part rfl rfl rfl (by decide +kernel) ⟨Nat.le_of_ble_eq_true rfl, Nat.le_of_ble_eq_true rfl⟩) hP hKK (va_recv hKK.1 hP (ci := 5) (q0 := 0) rfl rfl) rfl hl.1 rfl (Nat.le_of_ble_eq_true rfl) dX5_neverClosed_16 (Nat.zero_le _) (Nat.zero_le _) ?_
            refine lv_asi (y := nI (cnt st i)) (hc.1) ?_
            refine lv_icmp_ge (tgt := 54) hx hb dX5_neverClosed_19 (by decide) (fun c_19 => ?_) (fun c_19 => ?_)
            · skip
              have c_19 : (cnt st i) ≤ j := (nI_leI (a := cnt st i) (b := j) (by omega) (by omega)).mp c_19
              have hl : lv_has ls 4 [(3, .int (nI j)), (2, .int (nI i)), (1, .int (sumN (i + 1) (fun r => nevR st r))), (0, .ref (a 0))] := by have e_l2 : (sumN i (fun r => nevR st r) + sumN j (fun b => if frt st i b &&& bck st i b ≠ 0 then 1 else 0)) = (sumN (i + 1) (fun r => nevR st r)) := (by rw [show j = cnt st i by omega]; rfl); rw [← e_l2]; exact hl
              refine lv_iinc (v := nI (i + 1)) (lv' := [(2, .int (nI (i + 1))), (3, .int (nI j)), (1, .int (sumN (i + 1) (fun r => nevR st r))), (0, .ref (a 0))]) hx hb dX5_neverClosed_54 hl (k := 1) rfl (nI_1 _) (by decide) rfl (fun ls hl => ?_)
              refine lv_goto (tgt := 4) hx hb dX5_neverClosed_57 (by decide) ?_
              exact ih_4 (i + 1) (by omega) (by omega) _ (lv_sub hl [0, 2, 3] rfl)
            · skip
              have c_19 : ¬ ((cnt st i) ≤ j) := fun q => c_19 ((nI_leI (a := cnt st i) (b := j) (by omega) (by omega)).mpr q)
              refine lv_iload_n hx hb dX5_neverClosed_22 rfl (lv_at hl 2 rfl) ?_
              refine lv_aload_n hx hb dX5_neverClosed_23 rfl (lv_at hl 3 rfl) ?_
              refine lv_iload_n hx hb dX5_neverClosed_24 rfl (lv_at hl 1 rfl) ?_
              refine lv_iload_n hx hb dX5_neverClosed_25 rfl (lv_at hl 0 rfl) ?_
              refine lv_iconst (v := 0) hx hb dX5_neverClosed_26 (by decide) ?_
              refine ro_V (As := [.int (nI i), .int (nI j), .int (nI 0)]) (rest := [.int (sumN i (fun r => nevR st r) + sumN j (fun b => if frt st i b &&& bck st i b ≠ 0 then 1 else 0))]) ⟨hx, hb, hml, hown, hts⟩ (c_X5_ofBranch l G a st kp hi sl sv pd td rc pl pt rt bn i j 0 (by omega) (by omega) (by omega)) (cwV 3 hts gX5_neverClosed_X5_ofBranch rfl rfl rfl (by decide +kernel) ⟨Nat.le_of_ble_eq_true rfl, Nat.le_of_ble_eq_true rfl⟩) hP hKK (va_recv hKK.1 hP (ci := 5) (q0 := 0) rfl rfl) rfl hl.1 rfl (Nat.le_of_ble_eq_true rfl) dX5_neverClosed_27 (Nat.zero_le _) (Nat.zero_le _) ?_
              refine lv_asi (y := frt st i j) (ofb_0 _ _ _) ?_
              refine lv_aload_n hx hb dX5_neverClosed_30 rfl (lv_at hl 3 rfl) ?_
              refine lv_iload_n hx hb dX5_neverClosed_31 rfl (lv_at hl 1 rfl) ?_
              refine lv_iload_n hx hb dX5_neverClosed_32 rfl (lv_at hl 0 rfl) ?_
              refine lv_iconst (v := 1) hx hb dX5_neverClosed_33 (by decide) ?_
              refine ro_V (As := [.int (nI i), .int (nI j), .int (nI 1)]) (rest := [.int (frt st i j), .int (sumN i (fun r => nevR st r) + sumN j (fun b => if frt st i b &&& bck st i b ≠ 0 then 1 else 0))]) ⟨hx, hb, hml, hown, hts⟩ (c_X5_ofBranch l G a st kp hi sl sv pd td rc pl pt rt bn i j 1 (by omega) (by omega) (by omega)) (cwV 3 hts gX5_neverClosed_X5_ofBranch rfl rfl rfl (by decide +kernel) ⟨Nat.le_of_ble_eq_true rfl, Nat.le_of_ble_eq_true rfl⟩) hP hKK (va_recv hKK.1 hP (ci := 5) (q0 := 0) rfl rfl) rfl hl.1 rfl (Nat.le_of_ble_eq_true rfl) dX5_neverClosed_34 (Nat.zero_le _) (Nat.zero_le _) ?_
              refine lv_asi (y := bck st i j) (ofb_1 _ _ _) ?_
              refine lv_iand hx hb dX5_neverClosed_37 ?_
              refine lv_if_eq (tgt := 45) hx hb dX5_neverClosed_38 (by decide) (fun c_38 => ?_) (fun c_38 => ?_)
              · skip
                refine lv_iconst (v := 0) hx hb dX5_neverClosed_45 (by decide) ?_
                refine lv_iadd hx hb dX5_neverClosed_46 ?_
                refine lv_asi (y := sumN i (fun r => nevR st r) + sumN (j + 1) (fun b => if frt st i b &&& bck st i b ≠ 0 then 1 else 0)) (by simp [sumN, c_38, Int32.add_assoc]) ?_
                refine lv_istore_n (lv' := [(1, .int (sumN i (fun r => nevR st r) + sumN (j + 1) (fun b => if frt st i b &&& bck st i b ≠ 0 then 1 else 0))), (3, .int (nI j)), (2, .int (nI i)), (0, .ref (a 0))]) hx hb dX5_neverClosed_47 rfl hl (by decide) rfl (fun ls hl => ?_)
                refine lv_iinc (v := nI (j + 1)) (lv' := [(3, .int (nI (j + 1))), (1, .int (sumN i (fun r => nevR st r) + sumN (j + 1) (fun b => if frt st i b &&& bck st i b ≠ 0 then 1 else 0))), (2, .int (nI i)), (0, .ref (a 0))]) hx hb dX5_neverClosed_48 hl (k := 1) rfl (nI_1 _) (by decide) rfl (fun ls hl => ?_)
                refine lv_goto (tgt := 12) hx hb dX5_neverClosed_51 (by decide) ?_
                exact ih_12 (j + 1) (by omega) (by omega) _ (lv_sub hl [0, 2, 1, 3] rfl)
              · skip
                refine lv_iconst (v := 1) hx hb dX5_neverClosed_41 (by decide) ?_
                refine lv_goto (tgt := 46) hx hb dX5_neverClosed_42 (by decide) ?_
                refine lv_iadd hx hb dX5_neverClosed_46 ?_
                refine lv_asi (y := sumN i (fun r => nevR st r) + sumN (j + 1) (fun b => if frt st i b &&& bck st i b ≠ 0 then 1 else 0)) (by simp [sumN, c_38, Int32.add_assoc]) ?_
                refine lv_istore_n (lv' := [(1, .int (sumN i (fun r => nevR st r) + sumN (j + 1) (fun b => if frt st i b &&& bck st i b ≠ 0 then 1 else 0))), (3, .int (nI j)), (2, .int (nI i)), (0, .ref (a 0))]) hx hb dX5_neverClosed_47 rfl hl (by decide) rfl (fun ls hl => ?_)
                refine lv_iinc (v := nI (j + 1)) (lv' := [(3, .int (nI (j + 1))), (1, .int (sumN i (fun r => nevR st r) + sumN (j + 1) (fun b => if frt st i b &&& bck st i b ≠ 0 then 1 else 0))), (2, .int (nI i)), (0, .ref (a 0))]) hx hb dX5_neverClosed_48 hl (k := 1) rfl (nI_1 _) (by decide) rfl (fun ls hl => ?_)
                refine lv_goto (tgt := 12) hx hb dX5_neverClosed_51 (by decide) ?_
                exact ih_12 (j + 1) (by omega) (by omega) _ (lv_sub hl [0, 2, 1, 3] rfl)
        exact L_12 (cnt st i + 1) 0 (by omega) (by omega) _ (lv_sub hl [0, 1, 2, 3] rfl)
  exact L_4 (10 + 1) 0 (by omega) (by omega) _ (lv_sub hl [0, 1, 2] rfl)
