set_option maxHeartbeats 4000000 in
set_option maxRecDepth 100000 in
/-- X5_bits -/
theorem c_X5_bits (l : Launch) (G : GG) (x : Int32) : Met l yX5_bits wsX5_bits ({ frames := 0, cells := 0, slots := 0, locals := 0 }) (pcW G [.int x] ([])) (qRO (.int (bits6 x))) 0 0 nofree := by
  refine hd_RO (cc := cX5_bits) (maxL := 3) (ret := some .int) (by decide) rfl (Nat.le_of_ble_eq_true rfl) ?_
  intro p e s m below meth c ls hx hb hr hts hown hlocks hml hP hKK hl
  have hl : lv_has ls 3 [(0, .int x)] := hl
  refine lv_iconst (v := 0) hx hb dX5_bits_0 (by decide) ?_
  refine lv_istore_n (lv' := [(1, .int 0), (0, .int x)]) hx hb dX5_bits_1 rfl hl (by decide) rfl (fun ls hl => ?_)
  refine lv_iconst (v := 0) hx hb dX5_bits_2 (by decide) ?_
  refine lv_istore_n (lv' := [(2, .int 0), (1, .int 0), (0, .int x)]) hx hb dX5_bits_3 rfl hl (by decide) rfl (fun ls hl => ?_)
  have L_4 : ∀ (n_4 : Nat) (i : Nat), (i ≤ 6) → (6 + 1 ≤ i + n_4) → ∀ (ls : Array Slot), lv_has ls 3 [(2, .int (nI i)), (1, .int (sumN i (fun k => bt x (nI k)))), (0, .int x)] → W p l e ({ frames := 0, cells := 0, slots := 0, locals := 0 }) s m (List.toArray [.int x]) below meth c s.heap [] 0 0 (MQ below (qRO (.int (bits6 x))) (List.toArray [.int x]) s 0 0 nofree) (F0 m 4 ls []) := by
    intro n_4
    induction n_4 with
    | zero => intro i h1 h2; exact absurd (h2) (by omega)
    | succ n_4 ih_4 =>
      intro i h1 h2 ls hl
      refine lv_iload_n hx hb dX5_bits_4 rfl (lv_at hl 0 rfl) ?_
      refine lv_bipush (v := 6) hx hb dX5_bits_5 (by decide) ?_
      refine lv_icmp_ge (tgt := 24) hx hb dX5_bits_7 (by decide) (fun c_7 => ?_) (fun c_7 => ?_)
      · skip
        have c_7 : 6 ≤ i := (nI_leI (a := 6) (b := i) (by omega) (by omega)).mp c_7
        refine lv_iload_n hx hb dX5_bits_24 rfl (lv_at hl 1 rfl) ?_
        exact ex_ROi hx hb hr hlocks rfl dX5_bits_25 (by rw [show i = 6 by omega]; rfl)
      · skip
        have c_7 : ¬ (6 ≤ i) := fun q => c_7 ((nI_leI (a := 6) (b := i) (by omega) (by omega)).mpr q)
        refine lv_iload_n hx hb dX5_bits_10 rfl (lv_at hl 1 rfl) ?_
        refine lv_iload_n hx hb dX5_bits_11 rfl (lv_at hl 2 rfl) ?_
        refine lv_iload_n hx hb dX5_bits_12 rfl (lv_at hl 0 rfl) ?_
        refine lv_ishr hx hb dX5_bits_13 ?_
        refine lv_asi (y := shr x (nI i)) rfl ?_
        refine lv_iconst (v := 1) hx hb dX5_bits_14 (by decide) ?_
        refine lv_iand hx hb dX5_bits_15 ?_
        refine lv_iadd hx hb dX5_bits_16 ?_
        refine lv_asi (y := sumN (i + 1) (fun k => bt x (nI k))) (rfl) ?_
        refine lv_istore_n (lv' := [(1, .int (sumN (i + 1) (fun k => bt x (nI k)))), (2, .int (nI i)), (0, .int x)]) hx hb dX5_bits_17 rfl hl (by decide) rfl (fun ls hl => ?_)
        refine lv_iinc (v := nI (i + 1)) (lv' := [(2, .int (nI (i + 1))), (1, .int (sumN (i + 1) (fun k => bt x (nI k)))), (0, .int x)]) hx hb dX5_bits_18 hl (k := 1) rfl (nI_1 _) (by decide) rfl (fun ls hl => ?_)
        refine lv_goto (tgt := 4) hx hb dX5_bits_21 (by decide) ?_
        exact ih_4 (i + 1) (by omega) (by omega) _ (lv_sub hl [0, 1, 2] rfl)
  exact L_4 (6 + 1) 0 (by omega) (by omega) _ (lv_sub hl [0, 1, 2] rfl)
set_option maxHeartbeats 4000000 in
set_option maxRecDepth 100000 in
/-- X5_unsafe -/
theorem c_X5_unsafe (l : Launch) (G : GG) (a : Nat → Nat) (st : Nat → Int32) (kp : Nat → Int32) (hi : Nat → Int32) (sl : Nat → Int32) (sv : Nat → Int32) (pd : Nat → Int32) (td : Nat → Int32) (rc : Int32) (pl : Int32) (pt : Int32) (rt : Int32) (bn : Int32) (r : Int32) (hI : RI st) : Met l yX5_unsafe wsX5_unsafe ({ frames := 10, cells := 0, slots := 0, locals := 225 }) (pcM G [.ref (a 0), .int r] (mW G a st kp hi sl sv pd td rc pl pt rt bn)) (qMU G (some (.int (cond (inr r 0 9) (unsM st (nI (rk r)) 10) (-1)))) (mW G a st kp hi sl sv pd td rc pl pt rt bn) (mW G a st (cond (inr r 0 9) (st) (kp)) hi sl sv pd td rc pl pt rt bn)) 0 0 (aA (mW G a st kp hi sl sv pd td rc pl pt rt bn)) := by
  refine hd_MU (cc := cX5_unsafe) (maxL := 4) (ret := some .int) (by decide) rfl (Nat.le_of_ble_eq_true rfl) ?_
  intro p e s m below meth c ls hx hb hr hts hown hlocks hml hP hKK hD hS hl
  have hl : lv_has ls 4 [(0, .ref (a 0)), (1, .int r)] := hl
  refine lv_iload_n hx hb dX5_unsafe_0 rfl (lv_at hl 1 rfl) ?_
  refine ro_S (As := [.int r]) (rest := []) ⟨hx, hb, hml, hown, hts⟩ (c_X5_isRelay l G r) (va_cwS 1 hts gX5_unsafe_X5_isRelay rfl rfl rfl (by decide +kernel) ⟨Nat.le_of_ble_eq_true rfl, Nat.le_of_ble_eq_true rfl⟩) (show gP G [] _ from fun k q h => by simp at h) hKK rfl hl.1 rfl (Nat.le_of_ble_eq_true rfl) dX5_unsafe_1 (Nat.zero_le _) (Nat.zero_le _) ?_
  refine lv_if_ne (tgt := 9) hx hb dX5_unsafe_4 (by decide) (fun c_4 => ?_) (fun c_4 => ?_)
  · skip
    have c_4 := b2i_1 c_4
    have hr9 := inr_rk c_4
    have hl : lv_has ls 4 [(0, .ref (a 0)), (1, .int (nI (rk r)))] := by have e_l1 : r = (nI (rk r)) := (hr9.1); rw [← e_l1]; exact hl
    refine lv_iconst (v := 0) hx hb dX5_unsafe_9 (by decide) ?_
    refine lv_istore_n (lv' := [(2, .int 0), (0, .ref (a 0)), (1, .int (nI (rk r)))]) hx hb dX5_unsafe_10 rfl hl (by decide) rfl (fun ls hl => ?_)
    refine lv_iconst (v := 0) hx hb dX5_unsafe_11 (by decide) ?_
    refine lv_istore_n (lv' := [(3, .int 0), (2, .int 0), (0, .ref (a 0)), (1, .int (nI (rk r)))]) hx hb dX5_unsafe_12 rfl hl (by decide) rfl (fun ls hl => ?_)
    have L_13 : ∀ (n_13 : Nat) (i : Nat) (kq : Nat → Int32), (i ≤ 10) → (10 + 1 ≤ i + n_13) → (i = 0 ∨ (i = 1 ∧ rk r = 0) ∨ kq = st) → ∀ (H : Heap) (locs : List Loc), gP G (mW G a st kq hi sl sv pd td rc pl pt rt bn) H → va_D (aA (mW G a st kp hi sl sv pd td rc pl pt rt bn)) (mW G a st kq hi sl sv pd td rc pl pt rt bn) → va_S (aA (mW G a st kp hi sl sv pd td rc pl pt rt bn)) s.heap H locs → ∀ (ls : Array Slot), lv_has ls 4 [(3, .int (nI i)), (2, .int (unsM st (nI (rk r)) i)), (0, .ref (a 0)), (1, .int (nI (rk r)))] → W p l e ({ frames := 10, cells := 0, slots := 0, locals := 225 }) s m (List.toArray [.ref (a 0), .int r]) below meth c H locs 0 0 (MQ below (qMU G (some (.int (cond (inr r 0 9) (unsM st (nI (rk r)) 10) (-1)))) (mW G a st kp hi sl sv pd td rc pl pt rt bn) (mW G a st (cond (inr r 0 9) (st) (kp)) hi sl sv pd td rc pl pt rt bn)) (List.toArray [.ref (a 0), .int r]) s 0 0 (aA (mW G a st kp hi sl sv pd td rc pl pt rt bn))) (F0 m 13 ls []) := by
      intro n_13
      induction n_13 with
      | zero => intro i kq h1 h2 h3; exact absurd (h2) (by omega)
      | succ n_13 ih_13 =>
        intro i kq h1 h2 h3 H locs hP hD hS ls hl
        refine lv_iload_n hx hb dX5_unsafe_13 rfl (lv_at hl 0 rfl) ?_
        refine lv_bipush (v := 10) hx hb dX5_unsafe_14 (by decide) ?_
        refine lv_icmp_ge (tgt := 50) hx hb dX5_unsafe_16 (by decide) (fun c_16 => ?_) (fun c_16 => ?_)
        · skip
          have c_16 : 10 ≤ i := (nI_leI (a := 10) (b := i) (by omega) (by omega)).mp c_16
          refine lv_iload_n hx hb dX5_unsafe_50 rfl (lv_at hl 1 rfl) ?_
          exact ex_MUi (w2 := (mW G a st kq hi sl sv pd td rc pl pt rt bn)) hx hb hr hlocks hP hS dX5_unsafe_51 (by rw [c_4, show i = 10 by omega] <;> rfl) (fun h => by rw [c_4]; have e9 : kq = st := (by rcases h3 with h3 | h3 | h3; omega; omega; exact h3); rw [e9] at h; exact h)
        · skip
          have c_16 : ¬ (10 ≤ i) := fun q => c_16 ((nI_leI (a := 10) (b := i) (by omega) (by omega)).mpr q)
          refine lv_iload_n hx hb dX5_unsafe_19 rfl (lv_at hl 1 rfl) ?_
          refine lv_iload_n hx hb dX5_unsafe_20 rfl (lv_at hl 0 rfl) ?_
          refine lv_iload_n hx hb dX5_unsafe_21 rfl (lv_at hl 3 rfl) ?_
          refine lv_icmp_eq (tgt := 41) hx hb dX5_unsafe_22 (by decide) (fun c_22 => ?_) (fun c_22 => ?_)
          · skip
            have c_22x := (nI_eq (a := i) (b := rk r) (by omega) (by omega)).mp c_22
            refine lv_iconst (v := 0) hx hb dX5_unsafe_41 (by decide) ?_
            refine lv_ior hx hb dX5_unsafe_42 ?_
            refine lv_asi (y := unsM st (nI (rk r)) (i + 1)) (by simp [unsM, orN, c_22]) ?_
            refine lv_istore_n (lv' := [(2, .int (unsM st (nI (rk r)) (i + 1))), (3, .int (nI i)), (0, .ref (a 0)), (1, .int (nI (rk r)))]) hx hb dX5_unsafe_43 rfl hl (by decide) rfl (fun ls hl => ?_)
            refine lv_iinc (v := nI (i + 1)) (lv' := [(3, .int (nI (i + 1))), (2, .int (unsM st (nI (rk r)) (i + 1))), (0, .ref (a 0)), (1, .int (nI (rk r)))]) hx hb dX5_unsafe_44 hl (k := 1) rfl (nI_1 _) (by decide) rfl (fun ls hl => ?_)
            refine lv_goto (tgt := 13) hx hb dX5_unsafe_47 (by decide) ?_
            exact ih_13 (i + 1) kq (by omega) (by omega) (by first | exact Or.inr (Or.inr rfl) | (rcases h3 with h3 | h3 | h3; exact Or.inr (Or.inl (by omega)); omega; exact Or.inr (Or.inr h3))) _ _ (hP) (hD) hS _ (lv_sub hl [0, 1, 2, 3] rfl)
          · skip
            have c_22x : ¬ i = rk r := fun q => c_22 (by rw [q])
            refine lv_aload_n hx hb dX5_unsafe_25 rfl (lv_at hl 2 rfl) ?_
            refine lv_iload_n hx hb dX5_unsafe_26 rfl (lv_at hl 3 rfl) ?_
            refine lv_iload_n hx hb dX5_unsafe_27 rfl (lv_at hl 0 rfl) ?_
            refine mu_V (As := [.int (nI (rk r)), .int (nI i)]) (rest := [.int (unsM st (nI (rk r)) i)]) ⟨hx, hb, hml, hown, hts⟩ (c_X5_upIfWelded l G a st kq hi sl sv pd td rc pl pt rt bn (nI (rk r)) (nI i) (by assumption)) (cwV 2 hts gX5_unsafe_X5_upIfWelded rfl rfl rfl (by decide +kernel) ⟨Nat.le_of_ble_eq_true rfl, Nat.le_of_ble_eq_true rfl⟩) hP hKK hD hS (va_recv hKK.1 hP (ci := 5) (q0 := 0) rfl rfl) rfl hl.1 rfl (Nat.le_of_ble_eq_true rfl) dX5_unsafe_28 (Nat.zero_le _) (Nat.zero_le _) (rfl) (fun H locs hP hD hS => ?_)
            refine lv_iconst (v := 1) hx hb dX5_unsafe_31 (by decide) ?_
            refine lv_icmp_ne (tgt := 41) hx hb dX5_unsafe_32 (by decide) (fun c_32 => ?_) (fun c_32 => ?_)
            · skip
              refine lv_iconst (v := 0) hx hb dX5_unsafe_41 (by decide) ?_
              refine lv_ior hx hb dX5_unsafe_42 ?_
              refine lv_asi (y := unsM st (nI (rk r)) (i + 1)) (by simp [unsM, orN, c_22, c_32]) ?_
              refine lv_istore_n (lv' := [(2, .int (unsM st (nI (rk r)) (i + 1))), (3, .int (nI i)), (0, .ref (a 0)), (1, .int (nI (rk r)))]) hx hb dX5_unsafe_43 rfl hl (by decide) rfl (fun ls hl => ?_)
              refine lv_iinc (v := nI (i + 1)) (lv' := [(3, .int (nI (i + 1))), (2, .int (unsM st (nI (rk r)) (i + 1))), (0, .ref (a 0)), (1, .int (nI (rk r)))]) hx hb dX5_unsafe_44 hl (k := 1) rfl (nI_1 _) (by decide) rfl (fun ls hl => ?_)
              refine lv_goto (tgt := 13) hx hb dX5_unsafe_47 (by decide) ?_
              exact ih_13 (i + 1) st (by omega) (by omega) (by first | exact Or.inr (Or.inr rfl) | (rcases h3 with h3 | h3 | h3; exact Or.inr (Or.inl (by omega)); omega; exact Or.inr (Or.inr h3))) _ _ (hP) (hD) hS _ (lv_sub hl [0, 1, 2, 3] rfl)
            · skip
              refine lv_iconst (v := 1) hx hb dX5_unsafe_35 (by decide) ?_
              refine lv_iload_n hx hb dX5_unsafe_36 rfl (lv_at hl 0 rfl) ?_
              refine lv_ishl hx hb dX5_unsafe_37 ?_
              refine lv_asi (y := shl 1 (nI i)) rfl ?_
              refine lv_goto (tgt := 42) hx hb dX5_unsafe_38 (by decide) ?_
              refine lv_ior hx hb dX5_unsafe_42 ?_
              refine lv_asi (y := unsM st (nI (rk r)) (i + 1)) (by simp [unsM, orN, c_22, c_32]) ?_
              refine lv_istore_n (lv' := [(2, .int (unsM st (nI (rk r)) (i + 1))), (3, .int (nI i)), (0, .ref (a 0)), (1, .int (nI (rk r)))]) hx hb dX5_unsafe_43 rfl hl (by decide) rfl (fun ls hl => ?_)
              refine lv_iinc (v := nI (i + 1)) (lv' := [(3, .int (nI (i + 1))), (2, .int (unsM st (nI (rk r)) (i + 1))), (0, .ref (a 0)), (1, .int (nI (rk r)))]) hx hb dX5_unsafe_44 hl (k := 1) rfl (nI_1 _) (by decide) rfl (fun ls hl => ?_)
              refine lv_goto (tgt := 13) hx hb dX5_unsafe_47 (by decide) ?_
              exact ih_13 (i + 1) st (by omega) (by omega) (by first | exact Or.inr (Or.inr rfl) | (rcases h3 with h3 | h3 | h3; exact Or.inr (Or.inl (by omega)); omega; exact Or.inr (Or.inr h3))) _ _ (hP) (hD) hS _ (lv_sub hl [0, 1, 2, 3] rfl)
    exact L_13 (10 + 1) 0 kp (by omega) (by omega) (Or.inl rfl) _ _ (hP) (hD) hS _ (lv_sub hl [0, 1, 2, 3] rfl)
  · skip
    have c_4 := b2i_0 c_4
    refine lv_iconst (v := (-1)) hx hb dX5_unsafe_7 (by decide) ?_
    exact ex_MUi (w2 := (mW G a st kp hi sl sv pd td rc pl pt rt bn)) hx hb hr hlocks hP hS dX5_unsafe_8 (by rw [c_4] <;> rfl) (fun h => by rw [c_4]; exact h)
set_option maxRecDepth 20000 in
theorem hin_X5_reach_X5 : ∀ w ∈ u_ws RX5 TX5 12, w ∈ wsX5_reach := by decide +kernel
theorem lk_X5_reach_7 : Cond.fieldLink RX5 7 "WeldedRelaysModel" "state" "[I" ∈ wsX5_reach := by decide +kernel
theorem lk_X5_reach_13 : Cond.fieldLink RX5 13 "WeldedRelaysModel" "kept" "[I" ∈ wsX5_reach := by decide +kernel
set_option maxHeartbeats 4000000 in
set_option maxRecDepth 100000 in
/-- X5_reach -/
theorem c_X5_reach (l : Launch) (G : GG) (a : Nat → Nat) (st : Nat → Int32) (kp : Nat → Int32) (hi : Nat → Int32) (sl : Nat → Int32) (sv : Nat → Int32) (pd : Nat → Int32) (td : Nat → Int32) (rc : Int32) (pl : Int32) (pt : Int32) (rt : Int32) (bn : Int32) (r : Int32) (hI : RI st) : Met l yX5_reach wsX5_reach ({ frames := 9, cells := 0, slots := 0, locals := 202 }) (pcM G [.ref (a 0), .int r] (mW G a st kp hi sl sv pd td rc pl pt rt bn)) (qMU G (some (.int (cond (inr r 0 9) (fndM st (nI (rk r)) 64) (-1)))) (mW G a st kp hi sl sv pd td rc pl pt rt bn) (mW G a st (cond (inr r 0 9) (st) (kp)) hi sl sv pd td rc pl pt rt bn)) 0 0 (aA (mW G a st kp hi sl sv pd td rc pl pt rt bn)) := by
  refine hd_MU (cc := cX5_reach) (maxL := 6) (ret := some .int) (by decide) rfl (Nat.le_of_ble_eq_true rfl) ?_
  intro p e s m below meth c ls hx hb hr hts hown hlocks hml hP hKK hD hS hl
  have hl : lv_has ls 6 [(0, .ref (a 0)), (1, .int r)] := hl
  refine lv_iload_n hx hb dX5_reach_0 rfl (lv_at hl 1 rfl) ?_
  refine ro_S (As := [.int r]) (rest := []) ⟨hx, hb, hml, hown, hts⟩ (c_X5_isRelay l G r) (va_cwS 1 hts gX5_reach_X5_isRelay rfl rfl rfl (by decide +kernel) ⟨Nat.le_of_ble_eq_true rfl, Nat.le_of_ble_eq_true rfl⟩) (show gP G [] _ from fun k q h => by simp at h) hKK rfl hl.1 rfl (Nat.le_of_ble_eq_true rfl) dX5_reach_1 (Nat.zero_le _) (Nat.zero_le _) ?_
  refine lv_if_ne (tgt := 9) hx hb dX5_reach_4 (by decide) (fun c_4 => ?_) (fun c_4 => ?_)
  · skip
    have c_4 := b2i_1 c_4
    have hr9 := inr_rk c_4
    have hl : lv_has ls 6 [(0, .ref (a 0)), (1, .int (nI (rk r)))] := by have e_l1 : r = (nI (rk r)) := (hr9.1); rw [← e_l1]; exact hl
    refine lv_bipush (v := (-6)) hx hb dX5_reach_9 (by decide) ?_
    refine lv_istore_n (lv' := [(2, .int (-6)), (0, .ref (a 0)), (1, .int (nI (rk r)))]) hx hb dX5_reach_11 rfl hl (by decide) rfl (fun ls hl => ?_)
    refine lv_bipush (v := 63) hx hb dX5_reach_12 (by decide) ?_
    refine lv_istore_n (lv' := [(3, .int 63), (2, .int (-6)), (0, .ref (a 0)), (1, .int (nI (rk r)))]) hx hb dX5_reach_14 rfl hl (by decide) rfl (fun ls hl => ?_)
    have hl : lv_has ls 6 [(3, .int (nI 64 - 1)), (2, .int (-6)), (0, .ref (a 0)), (1, .int (nI (rk r)))] := by have e_l2 : 63 = (nI 64 - 1) := (by decide); rw [← e_l2]; exact hl
    have L_15 : ∀ (n_15 : Nat) (i : Nat) (kq : Nat → Int32), (i ≤ 64) → (i + 1 ≤ n_15) → (i = 64 ∨ kq = st) → ∀ (H : Heap) (locs : List Loc), gP G (mW G a st kq hi sl sv pd td rc pl pt rt bn) H → va_D (aA (mW G a st kp hi sl sv pd td rc pl pt rt bn)) (mW G a st kq hi sl sv pd td rc pl pt rt bn) → va_S (aA (mW G a st kp hi sl sv pd td rc pl pt rt bn)) s.heap H locs → ∀ (ls : Array Slot), lv_has ls 6 [(3, .int (nI i - 1)), (2, .int (fndM st (nI (rk r)) (64 - i))), (0, .ref (a 0)), (1, .int (nI (rk r)))] → W p l e ({ frames := 9, cells := 0, slots := 0, locals := 202 }) s m (List.toArray [.ref (a 0), .int r]) below meth c H locs 0 0 (MQ below (qMU G (some (.int (cond (inr r 0 9) (fndM st (nI (rk r)) 64) (-1)))) (mW G a st kp hi sl sv pd td rc pl pt rt bn) (mW G a st (cond (inr r 0 9) (st) (kp)) hi sl sv pd td rc pl pt rt bn)) (List.toArray [.ref (a 0), .int r]) s 0 0 (aA (mW G a st kp hi sl sv pd td rc pl pt rt bn))) (F0 m 15 ls []) := by
      intro n_15
      induction n_15 with
      | zero => intro i kq h1 h2 h3; exact absurd (h2) (by omega)
      | succ n_15 ih_15 =>
        intro i kq h1 h2 h3 H locs hP hD hS ls hl
        refine lv_iload_n hx hb dX5_reach_15 rfl (lv_at hl 0 rfl) ?_
        refine lv_if_lt (tgt := 97) hx hb dX5_reach_16 (by decide) (fun c_16 => ?_) (fun c_16 => ?_)
        · skip
          have i0 := m1neg h1 c_16
          refine lv_iload_n hx hb dX5_reach_97 rfl (lv_at hl 1 rfl) ?_
          exact ex_MUi (w2 := (mW G a st kq hi sl sv pd td rc pl pt rt bn)) hx hb hr hlocks hP hS dX5_reach_98 (by rw [c_4, i0] <;> rfl) (fun h => by rw [c_4]; have e9 : kq = st := (by rcases h3 with h3 | h3; omega; exact h3); rw [e9] at h; exact h)
        · skip
          have h0 := m1pos c_16
          have hl : lv_has ls 6 [(3, .int (nI (i - 1))), (2, .int (fndM st (nI (rk r)) (64 - i))), (0, .ref (a 0)), (1, .int (nI (rk r)))] := by have e_l3 : (nI i - 1) = (nI (i - 1)) := (sub1 h0); rw [← e_l3]; exact hl
          refine lv_aload_n hx hb dX5_reach_19 rfl (lv_at hl 2 rfl) ?_
          refine va_get (D := gD G) (ci := 5) (v := .ref (a 1)) (C := RX5) (T := TX5) (N := 12) hx hb hts hin_X5_reach_X5 hown hKK.1 hP 0 rfl rfl 0 (by decide) (hts _ lk_X5_reach_7) (fun _ h9 => h9) rfl dX5_reach_20 ?_
          refine lv_iconst (v := 0) hx hb dX5_reach_23 (by decide) ?_
          refine lv_aload_n hx hb dX5_reach_24 rfl (lv_at hl 2 rfl) ?_
          refine va_get (D := gD G) (ci := 5) (v := .ref (a 2)) (C := RX5) (T := TX5) (N := 12) hx hb hts hin_X5_reach_X5 hown hKK.1 hP 0 rfl rfl 1 (by decide) (hts _ lk_X5_reach_13) (fun _ h9 => h9) rfl dX5_reach_25 ?_
          refine lv_iconst (v := 0) hx hb dX5_reach_28 (by decide) ?_
          refine mu_SF (ws := (mW G a st kq hi sl sv pd td rc pl pt rt bn)) (ws' := (mW G a st (va_cpy st kq 0 0 236) hi sl sv pd td rc pl pt rt bn)) (wr := [(a 0, .inr (5, [.ref (a 1), .ref (a 2), .ref (a 3), .int rc, .ref (a 4), .ref (a 5), .ref (a 6), .int pl, .int pt, .int rt, .ref (a 7), .int bn])), (a 3, .inl (gI G, 1416, .inl hi)), (a 4, .inl (gI G, 472, .inl sl)), (a 5, .inl (gI G, 2, .inl sv)), (a 6, .inl (gI G, 64, .inl pd)), (a 7, .inl (gI G, 18, .inl td))]) (As := [.ref (a 1), .int (nI 0), .ref (a 2), .int (nI 0)]) (rest := []) ⟨hx, hb, hml, hown, hts⟩ (c_X5_moves l G (a 1) (a 2) _ _ 0 0 _ _ (by omega) (by omega) (by omega) (by omega)) (va_cwS 4 hts gX5_reach_X5_moves rfl rfl rfl (by decide +kernel) ⟨Nat.le_of_ble_eq_true rfl, Nat.le_of_ble_eq_true rfl⟩) (cells_perm (mW G a st kq hi sl sv pd td rc pl pt rt bn) [1, 2, 0, 3, 4, 5, 6, 7] 8 (by decide) rfl) (cells_perm (mW G a st (va_cpy st kq 0 0 236) hi sl sv pd td rc pl pt rt bn) [1, 2, 0, 3, 4, 5, 6, 7] 8 (by decide) rfl) hP hKK hD hS rfl hl.1 rfl (Nat.le_of_ble_eq_true rfl) dX5_reach_29 (Nat.zero_le _) (Nat.zero_le _) rfl (fun H locs hP hD hS => ?_)
          have hP : gP G (mW G a st st hi sl sv pd td rc pl pt rt bn) H := mW_kp (cpyA st _) hP
          have hD : va_D (aA (mW G a st kp hi sl sv pd td rc pl pt rt bn)) (mW G a st st hi sl sv pd td rc pl pt rt bn) := va_D_addr hD rfl
          refine lv_aload_n hx hb dX5_reach_32 rfl (lv_at hl 2 rfl) ?_
          refine lv_iload_n hx hb dX5_reach_33 rfl (lv_at hl 0 rfl) ?_
          refine lv_iconst (v := 0) hx hb dX5_reach_34 (by decide) ?_
          refine mu_V (As := [.int (nI (i - 1)), .int 0]) (rest := []) ⟨hx, hb, hml, hown, hts⟩ (c_X5_restWith l G a st st hi sl sv pd td rc pl pt rt bn (nI (i - 1)) 0 (by assumption)) (cwV 2 hts gX5_reach_X5_restWith rfl rfl rfl (by decide +kernel) ⟨Nat.le_of_ble_eq_true rfl, Nat.le_of_ble_eq_true rfl⟩) hP hKK hD hS (va_recv hKK.1 hP (ci := 5) (q0 := 0) rfl rfl) rfl hl.1 rfl (Nat.le_of_ble_eq_true rfl) dX5_reach_35 (Nat.zero_le _) (Nat.zero_le _) (rfl) (fun H locs hP hD hS => ?_)
          refine lv_istore (lv' := [(4, .int (rsR st (nI (i - 1)) 0)), (3, .int (nI (i - 1))), (2, .int (fndM st (nI (rk r)) (64 - i))), (0, .ref (a 0)), (1, .int (nI (rk r)))]) hx hb dX5_reach_38 hl (by decide) rfl (fun ls hl => ?_)
          refine lv_iload hx hb dX5_reach_40 (lv_at hl 0 rfl) ?_
          refine lv_bipush (v := (-6)) hx hb dX5_reach_42 (by decide) ?_
          refine lv_icmp_eq (tgt := 77) hx hb dX5_reach_44 (by decide) (fun c_44 => ?_) (fun c_44 => ?_)
          · skip
            refine lv_iconst (v := 0) hx hb dX5_reach_77 (by decide) ?_
            refine lv_istore (lv' := [(5, .int 0), (4, .int (rsR st (nI (i - 1)) 0)), (3, .int (nI (i - 1))), (2, .int (fndM st (nI (rk r)) (64 - i))), (0, .ref (a 0)), (1, .int (nI (rk r)))]) hx hb dX5_reach_78 hl (by decide) rfl (fun ls hl => ?_)
            refine lv_iload hx hb dX5_reach_80 (lv_at hl 0 rfl) ?_
            refine lv_if_eq (tgt := 89) hx hb dX5_reach_82 (by decide) (fun c_82 => ?_) (fun c_82 => ?_)
            · skip
              refine lv_iload_n hx hb dX5_reach_89 rfl (lv_at hl 3 rfl) ?_
              refine lv_asi (y := fndM st (nI (rk r)) (64 - (i - 1))) (fnd_f h0 h1 (Or.inl c_44)) ?_
              refine lv_istore_n (lv' := [(2, .int (fndM st (nI (rk r)) (64 - (i - 1)))), (5, .int 0), (4, .int (rsR st (nI (i - 1)) 0)), (3, .int (nI (i - 1))), (0, .ref (a 0)), (1, .int (nI (rk r)))]) hx hb dX5_reach_90 rfl hl (by decide) rfl (fun ls hl => ?_)
              refine lv_iinc (v := nI (i - 1) - 1) (lv' := [(3, .int (nI (i - 1) - 1)), (2, .int (fndM st (nI (rk r)) (64 - (i - 1)))), (5, .int 0), (4, .int (rsR st (nI (i - 1)) 0)), (0, .ref (a 0)), (1, .int (nI (rk r)))]) hx hb dX5_reach_91 hl (k := 3) rfl (addm1 _) (by decide) rfl (fun ls hl => ?_)
              refine lv_goto (tgt := 15) hx hb dX5_reach_94 (by decide) ?_
              exact ih_15 (i - 1) st (by omega) (by omega) (Or.inr rfl) _ _ (hP) (hD) hS _ (lv_sub hl [0, 1, 4, 5] rfl)
            · skip
              exact absurd c_82 (by decide)
          · skip
            refine lv_iload hx hb dX5_reach_47 (lv_at hl 0 rfl) ?_
            refine lv_iload_n hx hb dX5_reach_49 rfl (lv_at hl 4 rfl) ?_
            refine ro_S (As := [.int (rsR st (nI (i - 1)) 0), .int (nI (rk r))]) (rest := []) ⟨hx, hb, hml, hown, hts⟩ (c_X5_has l G (rsR st (nI (i - 1)) 0) (nI (rk r))) (va_cwS 2 hts gX5_reach_X5_has rfl rfl rfl (by decide +kernel) ⟨Nat.le_of_ble_eq_true rfl, Nat.le_of_ble_eq_true rfl⟩) (show gP G [] _ from fun k q h => by simp at h) hKK rfl hl.1 rfl (Nat.le_of_ble_eq_true rfl) dX5_reach_50 (Nat.zero_le _) (Nat.zero_le _) ?_
            refine lv_if_eq (tgt := 77) hx hb dX5_reach_53 (by decide) (fun c_53 => ?_) (fun c_53 => ?_)
            · skip
              have c_53 := b2i_0 c_53
              refine lv_iconst (v := 0) hx hb dX5_reach_77 (by decide) ?_
              refine lv_istore (lv' := [(5, .int 0), (4, .int (rsR st (nI (i - 1)) 0)), (3, .int (nI (i - 1))), (2, .int (fndM st (nI (rk r)) (64 - i))), (0, .ref (a 0)), (1, .int (nI (rk r)))]) hx hb dX5_reach_78 hl (by decide) rfl (fun ls hl => ?_)
              refine lv_iload hx hb dX5_reach_80 (lv_at hl 0 rfl) ?_
              refine lv_if_eq (tgt := 89) hx hb dX5_reach_82 (by decide) (fun c_82 => ?_) (fun c_82 => ?_)
              · skip
                refine lv_iload_n hx hb dX5_reach_89 rfl (lv_at hl 3 rfl) ?_
                refine lv_asi (y := fndM st (nI (rk r)) (64 - (i - 1))) (fnd_f h0 h1 (Or.inr (Or.inl c_53))) ?_
                refine lv_istore_n (lv' := [(2, .int (fndM st (nI (rk r)) (64 - (i - 1)))), (5, .int 0), (4, .int (rsR st (nI (i - 1)) 0)), (3, .int (nI (i - 1))), (0, .ref (a 0)), (1, .int (nI (rk r)))]) hx hb dX5_reach_90 rfl hl (by decide) rfl (fun ls hl => ?_)
                refine lv_iinc (v := nI (i - 1) - 1) (lv' := [(3, .int (nI (i - 1) - 1)), (2, .int (fndM st (nI (rk r)) (64 - (i - 1)))), (5, .int 0), (4, .int (rsR st (nI (i - 1)) 0)), (0, .ref (a 0)), (1, .int (nI (rk r)))]) hx hb dX5_reach_91 hl (k := 3) rfl (addm1 _) (by decide) rfl (fun ls hl => ?_)
                refine lv_goto (tgt := 15) hx hb dX5_reach_94 (by decide) ?_
                exact ih_15 (i - 1) st (by omega) (by omega) (Or.inr rfl) _ _ (hP) (hD) hS _ (lv_sub hl [0, 1, 4, 5] rfl)
              · skip
                exact absurd c_82 (by decide)
            · skip
              have c_53 := b2i_1 c_53
              refine lv_iload_n hx hb dX5_reach_56 rfl (lv_at hl 2 rfl) ?_
              refine lv_bipush (v := (-6)) hx hb dX5_reach_57 (by decide) ?_
              refine lv_icmp_eq (tgt := 73) hx hb dX5_reach_59 (by decide) (fun c_59 => ?_) (fun c_59 => ?_)
              · skip
                refine lv_iconst (v := 1) hx hb dX5_reach_73 (by decide) ?_
                refine lv_goto (tgt := 78) hx hb dX5_reach_74 (by decide) ?_
                refine lv_istore (lv' := [(5, .int 1), (4, .int (rsR st (nI (i - 1)) 0)), (3, .int (nI (i - 1))), (2, .int (fndM st (nI (rk r)) (64 - i))), (0, .ref (a 0)), (1, .int (nI (rk r)))]) hx hb dX5_reach_78 hl (by decide) rfl (fun ls hl => ?_)
                refine lv_iload hx hb dX5_reach_80 (lv_at hl 0 rfl) ?_
                refine lv_if_eq (tgt := 89) hx hb dX5_reach_82 (by decide) (fun c_82 => ?_) (fun c_82 => ?_)
                · skip
                  exact absurd c_82 (by decide)
                · skip
                  refine lv_iload_n hx hb dX5_reach_85 rfl (lv_at hl 2 rfl) ?_
                  refine lv_goto (tgt := 90) hx hb dX5_reach_86 (by decide) ?_
                  refine lv_asi (y := fndM st (nI (rk r)) (64 - (i - 1))) (fnd_t h0 h1 c_44 c_53 (Or.inl c_59)) ?_
                  refine lv_istore_n (lv' := [(2, .int (fndM st (nI (rk r)) (64 - (i - 1)))), (5, .int 1), (4, .int (rsR st (nI (i - 1)) 0)), (3, .int (nI (i - 1))), (0, .ref (a 0)), (1, .int (nI (rk r)))]) hx hb dX5_reach_90 rfl hl (by decide) rfl (fun ls hl => ?_)
                  refine lv_iinc (v := nI (i - 1) - 1) (lv' := [(3, .int (nI (i - 1) - 1)), (2, .int (fndM st (nI (rk r)) (64 - (i - 1)))), (5, .int 1), (4, .int (rsR st (nI (i - 1)) 0)), (0, .ref (a 0)), (1, .int (nI (rk r)))]) hx hb dX5_reach_91 hl (k := 3) rfl (addm1 _) (by decide) rfl (fun ls hl => ?_)
                  refine lv_goto (tgt := 15) hx hb dX5_reach_94 (by decide) ?_
                  exact ih_15 (i - 1) st (by omega) (by omega) (Or.inr rfl) _ _ (hP) (hD) hS _ (lv_sub hl [0, 1, 4, 5] rfl)
              · skip
                refine lv_iload_n hx hb dX5_reach_62 rfl (lv_at hl 1 rfl) ?_
                refine ro_S (As := [.int (nI (i - 1))]) (rest := []) ⟨hx, hb, hml, hown, hts⟩ (c_X5_bits l G (nI (i - 1))) (va_cwS 1 hts gX5_reach_X5_bits rfl rfl rfl (by decide +kernel) ⟨Nat.le_of_ble_eq_true rfl, Nat.le_of_ble_eq_true rfl⟩) (show gP G [] _ from fun k q h => by simp at h) hKK rfl hl.1 rfl (Nat.le_of_ble_eq_true rfl) dX5_reach_63 (Nat.zero_le _) (Nat.zero_le _) ?_
                refine lv_iload_n hx hb dX5_reach_66 rfl (lv_at hl 2 rfl) ?_
                refine ro_S (As := [.int (fndM st (nI (rk r)) (64 - i))]) (rest := [.int (bits6 (nI (i - 1)))]) ⟨hx, hb, hml, hown, hts⟩ (c_X5_bits l G (fndM st (nI (rk r)) (64 - i))) (va_cwS 1 hts gX5_reach_X5_bits rfl rfl rfl (by decide +kernel) ⟨Nat.le_of_ble_eq_true rfl, Nat.le_of_ble_eq_true rfl⟩) (show gP G [] _ from fun k q h => by simp at h) hKK rfl hl.1 rfl (Nat.le_of_ble_eq_true rfl) dX5_reach_67 (Nat.zero_le _) (Nat.zero_le _) ?_
                refine lv_icmp_gt (tgt := 77) hx hb dX5_reach_70 (by decide) (fun c_70 => ?_) (fun c_70 => ?_)
                · skip
                  refine lv_iconst (v := 0) hx hb dX5_reach_77 (by decide) ?_
                  refine lv_istore (lv' := [(5, .int 0), (4, .int (rsR st (nI (i - 1)) 0)), (3, .int (nI (i - 1))), (2, .int (fndM st (nI (rk r)) (64 - i))), (0, .ref (a 0)), (1, .int (nI (rk r)))]) hx hb dX5_reach_78 hl (by decide) rfl (fun ls hl => ?_)
                  refine lv_iload hx hb dX5_reach_80 (lv_at hl 0 rfl) ?_
                  refine lv_if_eq (tgt := 89) hx hb dX5_reach_82 (by decide) (fun c_82 => ?_) (fun c_82 => ?_)
                  · skip
                    refine lv_iload_n hx hb dX5_reach_89 rfl (lv_at hl 3 rfl) ?_
                    refine lv_asi (y := fndM st (nI (rk r)) (64 - (i - 1))) (fnd_f h0 h1 (Or.inr (Or.inr ⟨c_59, c_70⟩))) ?_
                    refine lv_istore_n (lv' := [(2, .int (fndM st (nI (rk r)) (64 - (i - 1)))), (5, .int 0), (4, .int (rsR st (nI (i - 1)) 0)), (3, .int (nI (i - 1))), (0, .ref (a 0)), (1, .int (nI (rk r)))]) hx hb dX5_reach_90 rfl hl (by decide) rfl (fun ls hl => ?_)
                    refine lv_iinc (v := nI (i - 1) - 1) (lv' := [(3, .int (nI (i - 1) - 1)), (2, .int (fndM st (nI (rk r)) (64 - (i - 1)))), (5, .int 0), (4, .int (rsR st (nI (i - 1)) 0)), (0, .ref (a 0)), (1, .int (nI (rk r)))]) hx hb dX5_reach_91 hl (k := 3) rfl (addm1 _) (by decide) rfl (fun ls hl => ?_)
                    refine lv_goto (tgt := 15) hx hb dX5_reach_94 (by decide) ?_
                    exact ih_15 (i - 1) st (by omega) (by omega) (Or.inr rfl) _ _ (hP) (hD) hS _ (lv_sub hl [0, 1, 4, 5] rfl)
                  · skip
                    exact absurd c_82 (by decide)
                · skip
                  refine lv_iconst (v := 1) hx hb dX5_reach_73 (by decide) ?_
                  refine lv_goto (tgt := 78) hx hb dX5_reach_74 (by decide) ?_
                  refine lv_istore (lv' := [(5, .int 1), (4, .int (rsR st (nI (i - 1)) 0)), (3, .int (nI (i - 1))), (2, .int (fndM st (nI (rk r)) (64 - i))), (0, .ref (a 0)), (1, .int (nI (rk r)))]) hx hb dX5_reach_78 hl (by decide) rfl (fun ls hl => ?_)
                  refine lv_iload hx hb dX5_reach_80 (lv_at hl 0 rfl) ?_
                  refine lv_if_eq (tgt := 89) hx hb dX5_reach_82 (by decide) (fun c_82 => ?_) (fun c_82 => ?_)
                  · skip
                    exact absurd c_82 (by decide)
                  · skip
                    refine lv_iload_n hx hb dX5_reach_85 rfl (lv_at hl 2 rfl) ?_
                    refine lv_goto (tgt := 90) hx hb dX5_reach_86 (by decide) ?_
                    refine lv_asi (y := fndM st (nI (rk r)) (64 - (i - 1))) (fnd_t h0 h1 c_44 c_53 (Or.inr (Int32.not_lt.mp c_70))) ?_
                    refine lv_istore_n (lv' := [(2, .int (fndM st (nI (rk r)) (64 - (i - 1)))), (5, .int 1), (4, .int (rsR st (nI (i - 1)) 0)), (3, .int (nI (i - 1))), (0, .ref (a 0)), (1, .int (nI (rk r)))]) hx hb dX5_reach_90 rfl hl (by decide) rfl (fun ls hl => ?_)
                    refine lv_iinc (v := nI (i - 1) - 1) (lv' := [(3, .int (nI (i - 1) - 1)), (2, .int (fndM st (nI (rk r)) (64 - (i - 1)))), (5, .int 1), (4, .int (rsR st (nI (i - 1)) 0)), (0, .ref (a 0)), (1, .int (nI (rk r)))]) hx hb dX5_reach_91 hl (k := 3) rfl (addm1 _) (by decide) rfl (fun ls hl => ?_)
                    refine lv_goto (tgt := 15) hx hb dX5_reach_94 (by decide) ?_
                    exact ih_15 (i - 1) st (by omega) (by omega) (Or.inr rfl) _ _ (hP) (hD) hS _ (lv_sub hl [0, 1, 4, 5] rfl)
    exact L_15 65 64 kp (by omega) (by omega) (Or.inl rfl) _ _ (hP) (hD) hS _ (lv_sub hl [0, 1, 2, 3] rfl)
  · skip
    have c_4 := b2i_0 c_4
    refine lv_iconst (v := (-1)) hx hb dX5_reach_7 (by decide) ?_
    exact ex_MUi (w2 := (mW G a st kp hi sl sv pd td rc pl pt rt bn)) hx hb hr hlocks hP hS dX5_reach_8 (by rw [c_4] <;> rfl) (fun h => by rw [c_4]; exact h)
set_option maxRecDepth 20000 in
theorem hin_X5_wipe_X5 : ∀ w ∈ u_ws RX5 TX5 12, w ∈ wsX5_wipe := by decide +kernel
theorem lk_X5_wipe_92 : Cond.fieldLink RX5 92 "WeldedRelaysModel" "padLength" "I" ∈ wsX5_wipe := by decide +kernel
set_option maxHeartbeats 4000000 in
set_option maxRecDepth 100000 in
/-- X5_wipe -/
theorem c_X5_wipe (l : Launch) (G : GG) (a : Nat → Nat) (st : Nat → Int32) (kp : Nat → Int32) (hi : Nat → Int32) (sl : Nat → Int32) (sv : Nat → Int32) (pd : Nat → Int32) (td : Nat → Int32) (rc : Int32) (pl : Int32) (pt : Int32) (rt : Int32) (bn : Int32) : Met l yX5_wipe wsX5_wipe ({ frames := 0, cells := 0, slots := 0, locals := 0 }) (pcM G [.ref (a 0)] (mW G a st kp hi sl sv pd td rc pl pt rt bn)) (qMU G (some (.int pl)) (mW G a st kp hi sl sv pd td rc pl pt rt bn) (mW G a st kp hi sl sv pd td rc 0 pt rt bn)) 0 0 (aA (mW G a st kp hi sl sv pd td rc pl pt rt bn)) := by
  refine hd_MU (cc := cX5_wipe) (maxL := 2) (ret := some .int) (by decide) rfl (Nat.le_of_ble_eq_true rfl) ?_
  intro p e s m below meth c ls hx hb hr hts hown hlocks hml hP hKK hD hS hl
  have hl : lv_has ls 2 [(0, .ref (a 0))] := hl
  refine lv_aload_n hx hb dX5_wipe_0 rfl (lv_at hl 0 rfl) ?_
  refine va_get (D := gD G) (ci := 5) (v := .int pl) (C := RX5) (T := TX5) (N := 12) hx hb hts hin_X5_wipe_X5 hown hKK.1 hP 0 rfl rfl 7 (by decide) (hts _ lk_X5_wipe_92) (fun _ h9 => h9) rfl dX5_wipe_1 ?_
  refine lv_istore_n (lv' := [(1, .int pl), (0, .ref (a 0))]) hx hb dX5_wipe_4 rfl hl (by decide) rfl (fun ls hl => ?_)
  refine lv_aload_n hx hb dX5_wipe_5 rfl (lv_at hl 1 rfl) ?_
  refine lv_iconst (v := 0) hx hb dX5_wipe_6 (by decide) ?_
  refine va_put (D := gD G) (ci := 5) (v := .int 0) (ty := .int) (C := RX5) (T := TX5) (N := 12) hx hb hts hin_X5_wipe_X5 tyX5 tyX5_ok nmX5 hown hKK.1 hP hD hS 0 rfl rfl 7 (by decide) (hts _ lk_X5_wipe_92) (fun _ h9 => h9) rfl (by decide +kernel) rfl rfl (Nat.le_of_ble_eq_true rfl) dX5_wipe_7 (fun H locs hP hD hS => ?_)
  have hP : gP G (mW G a st kp hi sl sv pd td rc 0 pt rt bn) H := hP
  have hD : va_D (aA (mW G a st kp hi sl sv pd td rc pl pt rt bn)) (mW G a st kp hi sl sv pd td rc 0 pt rt bn) := hD
  refine lv_iload_n hx hb dX5_wipe_10 rfl (lv_at hl 0 rfl) ?_
  exact ex_MUi (w2 := (mW G a st kp hi sl sv pd td rc 0 pt rt bn)) hx hb hr hlocks hP hS dX5_wipe_11 (rfl) (fun h => h)
set_option maxRecDepth 20000 in
theorem hin_X5_undo_X5 : ∀ w ∈ u_ws RX5 TX5 12, w ∈ wsX5_undo := by decide +kernel
theorem lk_X5_undo_35 : Cond.fieldLink RX5 35 "WeldedRelaysModel" "recorded" "I" ∈ wsX5_undo := by decide +kernel
theorem lk_X5_undo_16 : Cond.fieldLink RX5 16 "WeldedRelaysModel" "history" "[I" ∈ wsX5_undo := by decide +kernel
theorem lk_X5_undo_7 : Cond.fieldLink RX5 7 "WeldedRelaysModel" "state" "[I" ∈ wsX5_undo := by decide +kernel
set_option maxHeartbeats 4000000 in
set_option maxRecDepth 100000 in
/-- X5_undo -/
theorem c_X5_undo (l : Launch) (G : GG) (a : Nat → Nat) (st : Nat → Int32) (kp : Nat → Int32) (hi : Nat → Int32) (sl : Nat → Int32) (sv : Nat → Int32) (pd : Nat → Int32) (td : Nat → Int32) (pl : Int32) (pt : Int32) (rt : Int32) (bn : Int32) (k : Nat) (hk : k ≤ 6) : Met l yX5_undo wsX5_undo ({ frames := 1, cells := 0, slots := 0, locals := 24 }) (pcM G [.ref (a 0)] (mW G a st kp hi sl sv pd td (nI k) pl pt rt bn)) (qMU G (some (.int (cond (decide (k = 0)) (-5) (nI (k - 1))))) (mW G a st kp hi sl sv pd td (nI k) pl pt rt bn) (mW G a (cond (decide (k = 0)) (st) (va_cpy hi st (236 * (k - 1)) 0 236)) kp hi sl sv pd td (nI (cond (decide (k = 0)) k (k - 1))) pl pt rt bn)) 0 0 (aA (mW G a st kp hi sl sv pd td (nI k) pl pt rt bn)) := by
  refine hd_MU (cc := cX5_undo) (maxL := 1) (ret := some .int) (by decide) rfl (Nat.le_of_ble_eq_true rfl) ?_
  intro p e s m below meth c ls hx hb hr hts hown hlocks hml hP hKK hD hS hl
  have hl : lv_has ls 1 [(0, .ref (a 0))] := hl
  refine lv_aload_n hx hb dX5_undo_0 rfl (lv_at hl 0 rfl) ?_
  refine va_get (D := gD G) (ci := 5) (v := .int (nI k)) (C := RX5) (T := TX5) (N := 12) hx hb hts hin_X5_undo_X5 hown hKK.1 hP 0 rfl rfl 3 (by decide) (hts _ lk_X5_undo_35) (fun _ h9 => h9) rfl dX5_undo_1 ?_
  refine lv_if_ne (tgt := 10) hx hb dX5_undo_4 (by decide) (fun c_4 => ?_) (fun c_4 => ?_)
  · skip
    have hk0 : 0 < k := by rcases Nat.eq_zero_or_pos k with h0 | h0; subst h0; exact absurd rfl c_4; exact h0
    have c_4 := decide_eq_false (p := k = 0) (by omega)
    refine lv_aload_n hx hb dX5_undo_10 rfl (lv_at hl 0 rfl) ?_
    refine lv_dup hx hb dX5_undo_11 rfl ?_
    refine va_get (D := gD G) (ci := 5) (v := .int (nI k)) (C := RX5) (T := TX5) (N := 12) hx hb hts hin_X5_undo_X5 hown hKK.1 hP 0 rfl rfl 3 (by decide) (hts _ lk_X5_undo_35) (fun _ h9 => h9) rfl dX5_undo_12 ?_
    refine lv_iconst (v := 1) hx hb dX5_undo_15 (by decide) ?_
    refine lv_isub hx hb dX5_undo_16 ?_
    refine lv_asi (y := nI (k - 1)) (sub1 hk0) ?_
    refine va_put (D := gD G) (ci := 5) (v := .int (nI (k - 1))) (ty := .int) (C := RX5) (T := TX5) (N := 12) hx hb hts hin_X5_undo_X5 tyX5 tyX5_ok nmX5 hown hKK.1 hP hD hS 0 rfl rfl 3 (by decide) (hts _ lk_X5_undo_35) (fun _ h9 => h9) rfl (by decide +kernel) rfl rfl (Nat.le_of_ble_eq_true rfl) dX5_undo_17 (fun H locs hP hD hS => ?_)
    have hP : gP G (mW G a st kp hi sl sv pd td (nI (k - 1)) pl pt rt bn) H := hP
    have hD : va_D (aA (mW G a st kp hi sl sv pd td (nI k) pl pt rt bn)) (mW G a st kp hi sl sv pd td (nI (k - 1)) pl pt rt bn) := hD
    refine lv_aload_n hx hb dX5_undo_20 rfl (lv_at hl 0 rfl) ?_
    refine va_get (D := gD G) (ci := 5) (v := .ref (a 3)) (C := RX5) (T := TX5) (N := 12) hx hb hts hin_X5_undo_X5 hown hKK.1 hP 0 rfl rfl 2 (by decide) (hts _ lk_X5_undo_16) (fun _ h9 => h9) rfl dX5_undo_21 ?_
    refine lv_aload_n hx hb dX5_undo_24 rfl (lv_at hl 0 rfl) ?_
    refine va_get (D := gD G) (ci := 5) (v := .int (nI (k - 1))) (C := RX5) (T := TX5) (N := 12) hx hb hts hin_X5_undo_X5 hown hKK.1 hP 0 rfl rfl 3 (by decide) (hts _ lk_X5_undo_35) (fun _ h9 => h9) rfl dX5_undo_25 ?_
    refine lv_sipush (v := 236) hx hb dX5_undo_28 (by decide) ?_
    refine lv_imul hx hb dX5_undo_31 ?_
    refine lv_asi (y := nI (236 * (k - 1))) (mul236 _) ?_
    refine lv_aload_n hx hb dX5_undo_32 rfl (lv_at hl 0 rfl) ?_
    refine va_get (D := gD G) (ci := 5) (v := .ref (a 1)) (C := RX5) (T := TX5) (N := 12) hx hb hts hin_X5_undo_X5 hown hKK.1 hP 0 rfl rfl 0 (by decide) (hts _ lk_X5_undo_7) (fun _ h9 => h9) rfl dX5_undo_33 ?_
    refine lv_iconst (v := 0) hx hb dX5_undo_36 (by decide) ?_
    refine mu_SF (ws := (mW G a st kp hi sl sv pd td (nI (k - 1)) pl pt rt bn)) (ws' := (mW G a (va_cpy hi st (236 * (k - 1)) 0 236) kp hi sl sv pd td (nI (k - 1)) pl pt rt bn)) (wr := [(a 0, .inr (5, [.ref (a 1), .ref (a 2), .ref (a 3), .int (nI (k - 1)), .ref (a 4), .ref (a 5), .ref (a 6), .int pl, .int pt, .int rt, .ref (a 7), .int bn])), (a 2, .inl (gI G, 236, .inl kp)), (a 4, .inl (gI G, 472, .inl sl)), (a 5, .inl (gI G, 2, .inl sv)), (a 6, .inl (gI G, 64, .inl pd)), (a 7, .inl (gI G, 18, .inl td))]) (As := [.ref (a 3), .int (nI (236 * (k - 1))), .ref (a 1), .int (nI 0)]) (rest := []) ⟨hx, hb, hml, hown, hts⟩ (c_X5_moves l G (a 3) (a 1) _ _ (236 * (k - 1)) 0 _ _ (by omega) (by omega) (by omega) (by omega)) (va_cwS 4 hts gX5_undo_X5_moves rfl rfl rfl (by decide +kernel) ⟨Nat.le_of_ble_eq_true rfl, Nat.le_of_ble_eq_true rfl⟩) (cells_perm (mW G a st kp hi sl sv pd td (nI (k - 1)) pl pt rt bn) [3, 1, 0, 2, 4, 5, 6, 7] 8 (by decide) rfl) (cells_perm (mW G a (va_cpy hi st (236 * (k - 1)) 0 236) kp hi sl sv pd td (nI (k - 1)) pl pt rt bn) [3, 1, 0, 2, 4, 5, 6, 7] 8 (by decide) rfl) hP hKK hD hS rfl hl.1 rfl (Nat.le_of_ble_eq_true rfl) dX5_undo_37 (Nat.zero_le _) (Nat.zero_le _) rfl (fun H locs hP hD hS => ?_)
    refine lv_aload_n hx hb dX5_undo_40 rfl (lv_at hl 0 rfl) ?_
    refine va_get (D := gD G) (ci := 5) (v := .int (nI (k - 1))) (C := RX5) (T := TX5) (N := 12) hx hb hts hin_X5_undo_X5 hown hKK.1 hP 0 rfl rfl 3 (by decide) (hts _ lk_X5_undo_35) (fun _ h9 => h9) rfl dX5_undo_41 ?_
    exact ex_MUi (w2 := (mW G a (va_cpy hi st (236 * (k - 1)) 0 236) kp hi sl sv pd td (nI (k - 1)) pl pt rt bn)) hx hb hr hlocks hP hS dX5_undo_44 (by rw [c_4] <;> rfl) (fun h => by rw [c_4]; exact h)
  · skip
    have c_4 : decide (k = 0) = true := decide_eq_true (by rcases Nat.eq_zero_or_pos k with h0 | h0; exact h0; exact absurd c_4 (nI_ne0 h0 (by omega)))
    refine lv_bipush (v := (-5)) hx hb dX5_undo_7 (by decide) ?_
    exact ex_MUi (w2 := (mW G a st kp hi sl sv pd td (nI k) pl pt rt bn)) hx hb hr hlocks hP hS dX5_undo_9 (by rw [c_4] <;> rfl) (fun h => by rw [c_4]; exact h)
set_option maxRecDepth 20000 in
theorem hin_X5_save_X5 : ∀ w ∈ u_ws RX5 TX5 12, w ∈ wsX5_save := by decide +kernel
theorem lk_X5_save_7 : Cond.fieldLink RX5 7 "WeldedRelaysModel" "state" "[I" ∈ wsX5_save := by decide +kernel
theorem lk_X5_save_19 : Cond.fieldLink RX5 19 "WeldedRelaysModel" "slots" "[I" ∈ wsX5_save := by decide +kernel
theorem lk_X5_save_22 : Cond.fieldLink RX5 22 "WeldedRelaysModel" "isSaved" "[I" ∈ wsX5_save := by decide +kernel
set_option maxHeartbeats 4000000 in
set_option maxRecDepth 100000 in
/-- X5_save -/
theorem c_X5_save (l : Launch) (G : GG) (a : Nat → Nat) (st : Nat → Int32) (kp : Nat → Int32) (hi : Nat → Int32) (sl : Nat → Int32) (sv : Nat → Int32) (pd : Nat → Int32) (td : Nat → Int32) (rc : Int32) (pl : Int32) (pt : Int32) (rt : Int32) (bn : Int32) (x : Int32) : Met l yX5_save wsX5_save ({ frames := 1, cells := 0, slots := 0, locals := 24 }) (pcM G [.ref (a 0), .int x] (mW G a st kp hi sl sv pd td rc pl pt rt bn)) (qMU G (some (.int (cond (inr x 0 1) (st 0) (-2)))) (mW G a st kp hi sl sv pd td rc pl pt rt bn) (mW G a st kp hi (cond (inr x 0 1) (va_cpy st sl 0 (236 * rk x) 236) (sl)) (cond (inr x 0 1) (upd sv (rk x) 1) (sv)) pd td rc pl pt rt bn)) 0 0 (aA (mW G a st kp hi sl sv pd td rc pl pt rt bn)) := by
  refine hd_MU (cc := cX5_save) (maxL := 2) (ret := some .int) (by decide) rfl (Nat.le_of_ble_eq_true rfl) ?_
  intro p e s m below meth c ls hx hb hr hts hown hlocks hml hP hKK hD hS hl
  have hl : lv_has ls 2 [(0, .ref (a 0)), (1, .int x)] := hl
  refine lv_iload_n hx hb dX5_save_0 rfl (lv_at hl 1 rfl) ?_
  refine lv_iconst (v := 0) hx hb dX5_save_1 (by decide) ?_
  refine lv_iconst (v := 1) hx hb dX5_save_2 (by decide) ?_
  refine ro_S (As := [.int x, .int 0, .int 1]) (rest := []) ⟨hx, hb, hml, hown, hts⟩ (c_X5_within l G x 0 1) (va_cwS 3 hts gX5_save_X5_within rfl rfl rfl (by decide +kernel) ⟨Nat.le_of_ble_eq_true rfl, Nat.le_of_ble_eq_true rfl⟩) (show gP G [] _ from fun k q h => by simp at h) hKK rfl hl.1 rfl (Nat.le_of_ble_eq_true rfl) dX5_save_3 (Nat.zero_le _) (Nat.zero_le _) ?_
  refine lv_if_ne (tgt := 12) hx hb dX5_save_6 (by decide) (fun c_6 => ?_) (fun c_6 => ?_)
  · skip
    have c_6 := b2i_1 c_6
    have hx9 := inr_r1 c_6
    have hl : lv_has ls 2 [(0, .ref (a 0)), (1, .int (nI (rk x)))] := by have e_l1 : x = (nI (rk x)) := (hx9.1); rw [← e_l1]; exact hl
    refine lv_aload_n hx hb dX5_save_12 rfl (lv_at hl 0 rfl) ?_
    refine va_get (D := gD G) (ci := 5) (v := .ref (a 1)) (C := RX5) (T := TX5) (N := 12) hx hb hts hin_X5_save_X5 hown hKK.1 hP 0 rfl rfl 0 (by decide) (hts _ lk_X5_save_7) (fun _ h9 => h9) rfl dX5_save_13 ?_
    refine lv_iconst (v := 0) hx hb dX5_save_16 (by decide) ?_
    refine lv_aload_n hx hb dX5_save_17 rfl (lv_at hl 0 rfl) ?_
    refine va_get (D := gD G) (ci := 5) (v := .ref (a 4)) (C := RX5) (T := TX5) (N := 12) hx hb hts hin_X5_save_X5 hown hKK.1 hP 0 rfl rfl 4 (by decide) (hts _ lk_X5_save_19) (fun _ h9 => h9) rfl dX5_save_18 ?_
    refine lv_sipush (v := 236) hx hb dX5_save_21 (by decide) ?_
    refine lv_iload_n hx hb dX5_save_24 rfl (lv_at hl 1 rfl) ?_
    refine lv_imul hx hb dX5_save_25 ?_
    refine lv_asi (y := nI (236 * rk x)) (mul236c _) ?_
    refine mu_SF (ws := (mW G a st kp hi sl sv pd td rc pl pt rt bn)) (ws' := (mW G a st kp hi (va_cpy st sl 0 (236 * rk x) 236) sv pd td rc pl pt rt bn)) (wr := [(a 0, .inr (5, [.ref (a 1), .ref (a 2), .ref (a 3), .int rc, .ref (a 4), .ref (a 5), .ref (a 6), .int pl, .int pt, .int rt, .ref (a 7), .int bn])), (a 2, .inl (gI G, 236, .inl kp)), (a 3, .inl (gI G, 1416, .inl hi)), (a 5, .inl (gI G, 2, .inl sv)), (a 6, .inl (gI G, 64, .inl pd)), (a 7, .inl (gI G, 18, .inl td))]) (As := [.ref (a 1), .int (nI 0), .ref (a 4), .int (nI (236 * rk x))]) (rest := []) ⟨hx, hb, hml, hown, hts⟩ (c_X5_moves l G (a 1) (a 4) _ _ 0 (236 * rk x) _ _ (by omega) (by omega) (by omega) (by omega)) (va_cwS 4 hts gX5_save_X5_moves rfl rfl rfl (by decide +kernel) ⟨Nat.le_of_ble_eq_true rfl, Nat.le_of_ble_eq_true rfl⟩) (cells_perm (mW G a st kp hi sl sv pd td rc pl pt rt bn) [1, 4, 0, 2, 3, 5, 6, 7] 8 (by decide) rfl) (cells_perm (mW G a st kp hi (va_cpy st sl 0 (236 * rk x) 236) sv pd td rc pl pt rt bn) [1, 4, 0, 2, 3, 5, 6, 7] 8 (by decide) rfl) hP hKK hD hS rfl hl.1 rfl (Nat.le_of_ble_eq_true rfl) dX5_save_26 (Nat.zero_le _) (Nat.zero_le _) rfl (fun H locs hP hD hS => ?_)
    refine lv_aload_n hx hb dX5_save_29 rfl (lv_at hl 0 rfl) ?_
    refine va_get (D := gD G) (ci := 5) (v := .ref (a 5)) (C := RX5) (T := TX5) (N := 12) hx hb hts hin_X5_save_X5 hown hKK.1 hP 0 rfl rfl 5 (by decide) (hts _ lk_X5_save_22) (fun _ h9 => h9) rfl dX5_save_30 ?_
    refine lv_iload_n hx hb dX5_save_33 rfl (lv_at hl 1 rfl) ?_
    refine lv_iconst (v := 1) hx hb dX5_save_34 (by decide) ?_
    refine va_iastN (j := rk x) (x := 1) hx hb hKK.1 hP hD hS 5 0 rfl rfl (rfl) (by omega) (by decide) dX5_save_35 (fun H locs hP hD hS => ?_)
    have hP : gP G (mW G a st kp hi (va_cpy st sl 0 (236 * rk x) 236) (upd sv (rk x) 1) pd td rc pl pt rt bn) H := hP
    have hD : va_D (aA (mW G a st kp hi sl sv pd td rc pl pt rt bn)) (mW G a st kp hi (va_cpy st sl 0 (236 * rk x) 236) (upd sv (rk x) 1) pd td rc pl pt rt bn) := hD
    refine lv_aload_n hx hb dX5_save_36 rfl (lv_at hl 0 rfl) ?_
    refine va_get (D := gD G) (ci := 5) (v := .ref (a 1)) (C := RX5) (T := TX5) (N := 12) hx hb hts hin_X5_save_X5 hown hKK.1 hP 0 rfl rfl 0 (by decide) (hts _ lk_X5_save_7) (fun _ h9 => h9) rfl dX5_save_37 ?_
    refine lv_iconst (v := 0) hx hb dX5_save_40 (by decide) ?_
    refine va_ialdN (j := 0) (v := st 0) hx hb hKK.1 hP 1 0 rfl rfl (rfl) (by omega) (by decide) (rfl) dX5_save_41 ?_
    exact ex_MUi (w2 := (mW G a st kp hi (va_cpy st sl 0 (236 * rk x) 236) (upd sv (rk x) 1) pd td rc pl pt rt bn)) hx hb hr hlocks hP hS dX5_save_42 (by rw [c_6] <;> rfl) (fun h => by rw [c_6]; exact h)
  · skip
    have c_6 := b2i_0 c_6
    refine lv_bipush (v := (-2)) hx hb dX5_save_9 (by decide) ?_
    exact ex_MUi (w2 := (mW G a st kp hi sl sv pd td rc pl pt rt bn)) hx hb hr hlocks hP hS dX5_save_11 (by rw [c_6] <;> rfl) (fun h => by rw [c_6]; exact h)
set_option maxRecDepth 20000 in
theorem hin_X5_restore_X5 : ∀ w ∈ u_ws RX5 TX5 12, w ∈ wsX5_restore := by decide +kernel
theorem lk_X5_restore_22 : Cond.fieldLink RX5 22 "WeldedRelaysModel" "isSaved" "[I" ∈ wsX5_restore := by decide +kernel
theorem lk_X5_restore_19 : Cond.fieldLink RX5 19 "WeldedRelaysModel" "slots" "[I" ∈ wsX5_restore := by decide +kernel
theorem lk_X5_restore_7 : Cond.fieldLink RX5 7 "WeldedRelaysModel" "state" "[I" ∈ wsX5_restore := by decide +kernel
set_option maxHeartbeats 4000000 in
set_option maxRecDepth 100000 in
/-- X5_restore -/
theorem c_X5_restore (l : Launch) (G : GG) (a : Nat → Nat) (st : Nat → Int32) (kp : Nat → Int32) (hi : Nat → Int32) (sl : Nat → Int32) (sv : Nat → Int32) (pd : Nat → Int32) (td : Nat → Int32) (pl : Int32) (pt : Int32) (rt : Int32) (bn : Int32) (x : Int32) (k : Nat) (hk : k ≤ 6) : Met l yX5_restore wsX5_restore ({ frames := 2, cells := 0, slots := 0, locals := 45 }) (pcM G [.ref (a 0), .int x] (mW G a st kp hi sl sv pd td (nI k) pl pt rt bn)) (qMU G (some (.int (cond (inr x 0 1) (cond (decide (sv (rk x) = 0)) (-5) (va_cpy sl st (236 * rk x) 0 236 0)) (-2)))) (mW G a st kp hi sl sv pd td (nI k) pl pt rt bn) (mW G a (cond (inr x 0 1 && !decide (sv (rk x) = 0)) (va_cpy sl st (236 * rk x) 0 236) (st)) kp (cond (inr x 0 1 && !decide (sv (rk x) = 0)) (recH st hi k) (hi)) sl sv pd td (nI (cond (inr x 0 1 && !decide (sv (rk x) = 0)) (recC k) (k))) pl pt rt bn)) 0 0 (aA (mW G a st kp hi sl sv pd td (nI k) pl pt rt bn)) := by
  refine hd_MU (cc := cX5_restore) (maxL := 2) (ret := some .int) (by decide) rfl (Nat.le_of_ble_eq_true rfl) ?_
  intro p e s m below meth c ls hx hb hr hts hown hlocks hml hP hKK hD hS hl
  have hl : lv_has ls 2 [(0, .ref (a 0)), (1, .int x)] := hl
  refine lv_iload_n hx hb dX5_restore_0 rfl (lv_at hl 1 rfl) ?_
  refine lv_iconst (v := 0) hx hb dX5_restore_1 (by decide) ?_
  refine lv_iconst (v := 1) hx hb dX5_restore_2 (by decide) ?_
  refine ro_S (As := [.int x, .int 0, .int 1]) (rest := []) ⟨hx, hb, hml, hown, hts⟩ (c_X5_within l G x 0 1) (va_cwS 3 hts gX5_restore_X5_within rfl rfl rfl (by decide +kernel) ⟨Nat.le_of_ble_eq_true rfl, Nat.le_of_ble_eq_true rfl⟩) (show gP G [] _ from fun k q h => by simp at h) hKK rfl hl.1 rfl (Nat.le_of_ble_eq_true rfl) dX5_restore_3 (Nat.zero_le _) (Nat.zero_le _) ?_
  refine lv_if_ne (tgt := 12) hx hb dX5_restore_6 (by decide) (fun c_6 => ?_) (fun c_6 => ?_)
  · skip
    have c_6 := b2i_1 c_6
    have hx9 := inr_r1 c_6
    have hl : lv_has ls 2 [(0, .ref (a 0)), (1, .int (nI (rk x)))] := by have e_l1 : x = (nI (rk x)) := (hx9.1); rw [← e_l1]; exact hl
    refine lv_aload_n hx hb dX5_restore_12 rfl (lv_at hl 0 rfl) ?_
    refine va_get (D := gD G) (ci := 5) (v := .ref (a 5)) (C := RX5) (T := TX5) (N := 12) hx hb hts hin_X5_restore_X5 hown hKK.1 hP 0 rfl rfl 5 (by decide) (hts _ lk_X5_restore_22) (fun _ h9 => h9) rfl dX5_restore_13 ?_
    refine lv_iload_n hx hb dX5_restore_16 rfl (lv_at hl 1 rfl) ?_
    refine va_ialdN (j := rk x) (v := sv (rk x)) hx hb hKK.1 hP 5 0 rfl rfl (rfl) (by omega) (by decide) (rfl) dX5_restore_17 ?_
    refine lv_if_ne (tgt := 24) hx hb dX5_restore_18 (by decide) (fun c_18 => ?_) (fun c_18 => ?_)
    · skip
      have c_18 := decide_eq_false c_18
      refine lv_aload_n hx hb dX5_restore_24 rfl (lv_at hl 0 rfl) ?_
      refine mu_V (As := []) (rest := []) ⟨hx, hb, hml, hown, hts⟩ (c_X5_record l G a st kp hi sl sv pd td pl pt rt bn k (by omega)) (cwV 0 hts gX5_restore_X5_record rfl rfl rfl (by decide +kernel) ⟨Nat.le_of_ble_eq_true rfl, Nat.le_of_ble_eq_true rfl⟩) hP hKK hD hS (va_recv hKK.1 hP (ci := 5) (q0 := 0) rfl rfl) rfl hl.1 rfl (Nat.le_of_ble_eq_true rfl) dX5_restore_25 (Nat.zero_le _) (Nat.zero_le _) (rfl) (fun H locs hP hD hS => ?_)
      refine lv_aload_n hx hb dX5_restore_28 rfl (lv_at hl 0 rfl) ?_
      refine va_get (D := gD G) (ci := 5) (v := .ref (a 4)) (C := RX5) (T := TX5) (N := 12) hx hb hts hin_X5_restore_X5 hown hKK.1 hP 0 rfl rfl 4 (by decide) (hts _ lk_X5_restore_19) (fun _ h9 => h9) rfl dX5_restore_29 ?_
      refine lv_sipush (v := 236) hx hb dX5_restore_32 (by decide) ?_
      refine lv_iload_n hx hb dX5_restore_35 rfl (lv_at hl 1 rfl) ?_
      refine lv_imul hx hb dX5_restore_36 ?_
      refine lv_asi (y := nI (236 * rk x)) (mul236c _) ?_
      refine lv_aload_n hx hb dX5_restore_37 rfl (lv_at hl 0 rfl) ?_
      refine va_get (D := gD G) (ci := 5) (v := .ref (a 1)) (C := RX5) (T := TX5) (N := 12) hx hb hts hin_X5_restore_X5 hown hKK.1 hP 0 rfl rfl 0 (by decide) (hts _ lk_X5_restore_7) (fun _ h9 => h9) rfl dX5_restore_38 ?_
      refine lv_iconst (v := 0) hx hb dX5_restore_41 (by decide) ?_
      refine mu_SF (ws := (mW G a st kp (recH st hi k) sl sv pd td (nI (recC k)) pl pt rt bn)) (ws' := (mW G a (va_cpy sl st (236 * rk x) 0 236) kp (recH st hi k) sl sv pd td (nI (recC k)) pl pt rt bn)) (wr := [(a 0, .inr (5, [.ref (a 1), .ref (a 2), .ref (a 3), .int (nI (recC k)), .ref (a 4), .ref (a 5), .ref (a 6), .int pl, .int pt, .int rt, .ref (a 7), .int bn])), (a 2, .inl (gI G, 236, .inl kp)), (a 3, .inl (gI G, 1416, .inl (recH st hi k))), (a 5, .inl (gI G, 2, .inl sv)), (a 6, .inl (gI G, 64, .inl pd)), (a 7, .inl (gI G, 18, .inl td))]) (As := [.ref (a 4), .int (nI (236 * rk x)), .ref (a 1), .int (nI 0)]) (rest := []) ⟨hx, hb, hml, hown, hts⟩ (c_X5_moves l G (a 4) (a 1) _ _ (236 * rk x) 0 _ _ (by omega) (by omega) (by omega) (by omega)) (va_cwS 4 hts gX5_restore_X5_moves rfl rfl rfl (by decide +kernel) ⟨Nat.le_of_ble_eq_true rfl, Nat.le_of_ble_eq_true rfl⟩) (cells_perm (mW G a st kp (recH st hi k) sl sv pd td (nI (recC k)) pl pt rt bn) [4, 1, 0, 2, 3, 5, 6, 7] 8 (by decide) rfl) (cells_perm (mW G a (va_cpy sl st (236 * rk x) 0 236) kp (recH st hi k) sl sv pd td (nI (recC k)) pl pt rt bn) [4, 1, 0, 2, 3, 5, 6, 7] 8 (by decide) rfl) hP hKK hD hS rfl hl.1 rfl (Nat.le_of_ble_eq_true rfl) dX5_restore_42 (Nat.zero_le _) (Nat.zero_le _) rfl (fun H locs hP hD hS => ?_)
      refine lv_aload_n hx hb dX5_restore_45 rfl (lv_at hl 0 rfl) ?_
      refine va_get (D := gD G) (ci := 5) (v := .ref (a 1)) (C := RX5) (T := TX5) (N := 12) hx hb hts hin_X5_restore_X5 hown hKK.1 hP 0 rfl rfl 0 (by decide) (hts _ lk_X5_restore_7) (fun _ h9 => h9) rfl dX5_restore_46 ?_
      refine lv_iconst (v := 0) hx hb dX5_restore_49 (by decide) ?_
      refine va_ialdN (j := 0) (v := (va_cpy sl st (236 * rk x) 0 236) 0) hx hb hKK.1 hP 1 0 rfl rfl (rfl) (by omega) (by decide) (rfl) dX5_restore_50 ?_
      exact ex_MUi (w2 := (mW G a (va_cpy sl st (236 * rk x) 0 236) kp (recH st hi k) sl sv pd td (nI (recC k)) pl pt rt bn)) hx hb hr hlocks hP hS dX5_restore_51 (by rw [c_6, c_18] <;> rfl) (fun h => by rw [c_6, c_18]; exact h)
    · skip
      have c_18 := decide_eq_true c_18
      refine lv_bipush (v := (-5)) hx hb dX5_restore_21 (by decide) ?_
      exact ex_MUi (w2 := (mW G a st kp hi sl sv pd td (nI k) pl pt rt bn)) hx hb hr hlocks hP hS dX5_restore_23 (by rw [c_6, c_18] <;> rfl) (fun h => by rw [c_6, c_18]; exact h)
  · skip
    have c_6 := b2i_0 c_6
    refine lv_bipush (v := (-2)) hx hb dX5_restore_9 (by decide) ?_
    exact ex_MUi (w2 := (mW G a st kp hi sl sv pd td (nI k) pl pt rt bn)) hx hb hr hlocks hP hS dX5_restore_11 (by rw [c_6] <;> rfl) (fun h => by rw [c_6]; exact h)
