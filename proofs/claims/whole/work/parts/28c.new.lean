set_option maxHeartbeats 4000000 in
set_option maxRecDepth 100000 in
/-- X2_init -/
theorem c_X2_init (l : Launch) (G : GG) (b : Nat) (sz : Nat) : Met l yX2_init wsX2_init ({ frames := 1, cells := 0, slots := 0, locals := 24 }) (pcC G [.ref b] ([(b, .inr (2, [.int 0, .int 0]))]) sz) (qC G ((fun a : Nat → Nat => bQw a 0 0)) ((fun a : Nat → Nat => a 0 = b)) (va_A ([(b, .inr (2, [.int 0, .int 0]))]) sz)) 0 0 (va_A ([(b, .inr (2, [.int 0, .int 0]))]) sz) := by
  refine hd_C (cc := cX2_init) (maxL := 1) (by decide) rfl (Nat.le_of_ble_eq_true rfl) ?_
  intro p e s m below meth c ls hx hb hr hts hown hlocks hml hin hA hP hKK hD hS hl
  generalize hHe : s.heap = H at hP ⊢
  have hS : va_S (va_A ([(b, .inr (2, [.int 0, .int 0]))]) sz) s.heap H [] := by rw [← hHe]; exact hS
  have hP : gP G (List.flatten [[(b, .inr (2, [.int 0, .int 0]))]]) H := hP
  have hD : va_D (va_A ([(b, .inr (2, [.int 0, .int 0]))]) sz) (List.flatten [[(b, .inr (2, [.int 0, .int 0]))]]) := hD
  have hl : lv_has ls 1 [(0, .ref b)] := hl
  refine lv_aload_n hx hb dX2_init_0 rfl (lv_at hl 0 rfl) ?_
  refine W.objInit hx hb hown (hts (.methodLink RX2 3 objectInit) (by decide +kernel)) (hts (.instanceMethod objectInit) (by decide +kernel)) (hts _ (List.mem_of_getElem? (i := 3) rfl)) rfl (by rw [hml]; exact hl.1) rfl dX2_init_1 (Nat.le_of_ble_eq_true rfl) (Nat.le_of_ble_eq_true rfl) ?_
  refine W.eq (g2 := F0 m 4 ls []) rfl ?_
  have hP9 : gP G ((fun a : Nat → Nat => bQw a 0 0) (fun _ => b)) H := hP
  have hD9 : va_D (va_A ([(b, .inr (2, [.int 0, .int 0]))]) sz) ((fun a : Nat → Nat => bQw a 0 0) (fun _ => b)) := hD
  exact ex_C (fun _ => b) (rfl) hx hb hr hlocks hP9 hD9 hS dX2_init_4
