section
-- ===== PART A: goes FIRST, ahead of the names: the tables' words, and 'selects' of the private methods out of them =====
/-- a private method of a class that the tables say can be made, by its rows of tables_1 -/
def lw_okq (q : MethodName × Nat) : Prop := (q.1.cls ≠ "java/lang/invoke/MethodHandle" ∧ q.1.cls ≠ "java/lang/invoke/VarHandle") ∧ Cond.instantiable q.1.cls q.2 ∈ tables_1 ∧ Cond.privateMethod q.1 ∈ tables_1 ∧ Cond.instanceMethod q.1 ∈ tables_1
theorem lw_p0 : lw_okq (⟨"WeldedRelays$Reader", "takes", "(LWeldedRelays$Room;I)Z"⟩, 2) := ⟨⟨by decide +kernel, by decide +kernel⟩, List.mem_of_getElem? (i := 98) (by decide +kernel), List.mem_of_getElem? (i := 188) (by decide +kernel), List.mem_of_getElem? (i := 189) (by decide +kernel)⟩
theorem lw_p1 : lw_okq (⟨"WeldedRelays$Reader", "takesRelay", "(I)Z"⟩, 2) := ⟨⟨by decide +kernel, by decide +kernel⟩, List.mem_of_getElem? (i := 98) (by decide +kernel), List.mem_of_getElem? (i := 192) (by decide +kernel), List.mem_of_getElem? (i := 193) (by decide +kernel)⟩
theorem lw_p2 : lw_okq (⟨"WeldedRelays$Reader", "goesTo", "(I)Z"⟩, 2) := ⟨⟨by decide +kernel, by decide +kernel⟩, List.mem_of_getElem? (i := 98) (by decide +kernel), List.mem_of_getElem? (i := 201) (by decide +kernel), List.mem_of_getElem? (i := 202) (by decide +kernel)⟩
theorem lw_p3 : lw_okq (⟨"WeldedRelays$Reader", "takesEquals", "(LWeldedRelays$Room;I)Z"⟩, 2) := ⟨⟨by decide +kernel, by decide +kernel⟩, List.mem_of_getElem? (i := 98) (by decide +kernel), List.mem_of_getElem? (i := 205) (by decide +kernel), List.mem_of_getElem? (i := 206) (by decide +kernel)⟩
theorem lw_p4 : lw_okq (⟨"WeldedRelays$Reader", "takesFirstContact", "(LWeldedRelays$Room;I)Z"⟩, 2) := ⟨⟨by decide +kernel, by decide +kernel⟩, List.mem_of_getElem? (i := 98) (by decide +kernel), List.mem_of_getElem? (i := 213) (by decide +kernel), List.mem_of_getElem? (i := 214) (by decide +kernel)⟩
theorem lw_p5 : lw_okq (⟨"WeldedRelays$Reader", "takesContact", "(LWeldedRelays$Room;I)Z"⟩, 2) := ⟨⟨by decide +kernel, by decide +kernel⟩, List.mem_of_getElem? (i := 98) (by decide +kernel), List.mem_of_getElem? (i := 228) (by decide +kernel), List.mem_of_getElem? (i := 229) (by decide +kernel)⟩
theorem lw_p6 : lw_okq (⟨"WeldedRelays$Reader", "takesNextOfBranch", "(LWeldedRelays$Room;I)Z"⟩, 2) := ⟨⟨by decide +kernel, by decide +kernel⟩, List.mem_of_getElem? (i := 98) (by decide +kernel), List.mem_of_getElem? (i := 236) (by decide +kernel), List.mem_of_getElem? (i := 237) (by decide +kernel)⟩
theorem lw_p7 : lw_okq (⟨"WeldedRelays$Room", "isFed", "(I)Z"⟩, 14) := ⟨⟨by decide +kernel, by decide +kernel⟩, List.mem_of_getElem? (i := 18) (by decide +kernel), List.mem_of_getElem? (i := 271) (by decide +kernel), List.mem_of_getElem? (i := 272) (by decide +kernel)⟩
theorem lw_p8 : lw_okq (⟨"WeldedRelays$Room", "passTick", "(I)V"⟩, 14) := ⟨⟨by decide +kernel, by decide +kernel⟩, List.mem_of_getElem? (i := 18) (by decide +kernel), List.mem_of_getElem? (i := 292) (by decide +kernel), List.mem_of_getElem? (i := 293) (by decide +kernel)⟩
theorem lw_p9 : lw_okq (⟨"WeldedRelays$Room", "waitOrMove", "(I)V"⟩, 14) := ⟨⟨by decide +kernel, by decide +kernel⟩, List.mem_of_getElem? (i := 18) (by decide +kernel), List.mem_of_getElem? (i := 297) (by decide +kernel), List.mem_of_getElem? (i := 298) (by decide +kernel)⟩
theorem lw_p10 : lw_okq (⟨"WeldedRelays$Room", "wear", "(I)V"⟩, 14) := ⟨⟨by decide +kernel, by decide +kernel⟩, List.mem_of_getElem? (i := 18) (by decide +kernel), List.mem_of_getElem? (i := 301) (by decide +kernel), List.mem_of_getElem? (i := 302) (by decide +kernel)⟩
theorem lw_p11 : lw_okq (⟨"WeldedRelays$Room", "contactsOfCircuit", "([II)I"⟩, 14) := ⟨⟨by decide +kernel, by decide +kernel⟩, List.mem_of_getElem? (i := 18) (by decide +kernel), List.mem_of_getElem? (i := 322) (by decide +kernel), List.mem_of_getElem? (i := 323) (by decide +kernel)⟩
theorem lw_p12 : lw_okq (⟨"WeldedRelays$Room", "backsOfCircuit", "(I)I"⟩, 14) := ⟨⟨by decide +kernel, by decide +kernel⟩, List.mem_of_getElem? (i := 18) (by decide +kernel), List.mem_of_getElem? (i := 331) (by decide +kernel), List.mem_of_getElem? (i := 332) (by decide +kernel)⟩
theorem lw_p13 : lw_okq (⟨"WeldedRelays", "tryButtons", "(I)V"⟩, 7) := ⟨⟨by decide +kernel, by decide +kernel⟩, List.mem_of_getElem? (i := 10) (by decide +kernel), List.mem_of_getElem? (i := 356) (by decide +kernel), List.mem_of_getElem? (i := 357) (by decide +kernel)⟩
theorem lw_p14 : lw_okq (⟨"WeldedRelays", "tryWelded", "(I)V"⟩, 7) := ⟨⟨by decide +kernel, by decide +kernel⟩, List.mem_of_getElem? (i := 10) (by decide +kernel), List.mem_of_getElem? (i := 381) (by decide +kernel), List.mem_of_getElem? (i := 382) (by decide +kernel)⟩
theorem lw_p15 : lw_okq (⟨"WeldedRelaysModel", "setPart", "(III)V"⟩, 12) := ⟨⟨by decide +kernel, by decide +kernel⟩, List.mem_of_getElem? (i := 442) (by decide +kernel), List.mem_of_getElem? (i := 448) (by decide +kernel), List.mem_of_getElem? (i := 449) (by decide +kernel)⟩
def lw_privs_1 : List (MethodName × Nat) := [(⟨"WeldedRelays$Reader", "takes", "(LWeldedRelays$Room;I)Z"⟩, 2), (⟨"WeldedRelays$Reader", "takesRelay", "(I)Z"⟩, 2), (⟨"WeldedRelays$Reader", "goesTo", "(I)Z"⟩, 2), (⟨"WeldedRelays$Reader", "takesEquals", "(LWeldedRelays$Room;I)Z"⟩, 2), (⟨"WeldedRelays$Reader", "takesFirstContact", "(LWeldedRelays$Room;I)Z"⟩, 2), (⟨"WeldedRelays$Reader", "takesContact", "(LWeldedRelays$Room;I)Z"⟩, 2), (⟨"WeldedRelays$Reader", "takesNextOfBranch", "(LWeldedRelays$Room;I)Z"⟩, 2), (⟨"WeldedRelays$Room", "isFed", "(I)Z"⟩, 14), (⟨"WeldedRelays$Room", "passTick", "(I)V"⟩, 14), (⟨"WeldedRelays$Room", "waitOrMove", "(I)V"⟩, 14), (⟨"WeldedRelays$Room", "wear", "(I)V"⟩, 14), (⟨"WeldedRelays$Room", "contactsOfCircuit", "([II)I"⟩, 14), (⟨"WeldedRelays$Room", "backsOfCircuit", "(I)I"⟩, 14), (⟨"WeldedRelays", "tryButtons", "(I)V"⟩, 7), (⟨"WeldedRelays", "tryWelded", "(I)V"⟩, 7), (⟨"WeldedRelaysModel", "setPart", "(III)V"⟩, 12)]
theorem lw_r1 : ∀ q ∈ lw_privs_1, lw_okq q := List.forall_mem_cons.mpr ⟨lw_p0, List.forall_mem_cons.mpr ⟨lw_p1, List.forall_mem_cons.mpr ⟨lw_p2, List.forall_mem_cons.mpr ⟨lw_p3, List.forall_mem_cons.mpr ⟨lw_p4, List.forall_mem_cons.mpr ⟨lw_p5, List.forall_mem_cons.mpr ⟨lw_p6, List.forall_mem_cons.mpr ⟨lw_p7, List.forall_mem_cons.mpr ⟨lw_p8, List.forall_mem_cons.mpr ⟨lw_p9, List.forall_mem_cons.mpr ⟨lw_p10, List.forall_mem_cons.mpr ⟨lw_p11, List.forall_mem_cons.mpr ⟨lw_p12, List.forall_mem_cons.mpr ⟨lw_p13, List.forall_mem_cons.mpr ⟨lw_p14, List.forall_mem_cons.mpr ⟨lw_p15, fun _ h => absurd h List.not_mem_nil⟩⟩⟩⟩⟩⟩⟩⟩⟩⟩⟩⟩⟩⟩⟩⟩
theorem lw_p16 : lw_okq (⟨"WeldedRelaysModel", "record", "()V"⟩, 12) := ⟨⟨by decide +kernel, by decide +kernel⟩, List.mem_of_getElem? (i := 442) (by decide +kernel), List.mem_of_getElem? (i := 499) (by decide +kernel), List.mem_of_getElem? (i := 500) (by decide +kernel)⟩
theorem lw_p17 : lw_okq (⟨"WeldedRelaysModel", "part", "(II)I"⟩, 12) := ⟨⟨by decide +kernel, by decide +kernel⟩, List.mem_of_getElem? (i := 442) (by decide +kernel), List.mem_of_getElem? (i := 506) (by decide +kernel), List.mem_of_getElem? (i := 507) (by decide +kernel)⟩
theorem lw_p18 : lw_okq (⟨"WeldedRelaysModel", "findFault", "()I"⟩, 12) := ⟨⟨by decide +kernel, by decide +kernel⟩, List.mem_of_getElem? (i := 442) (by decide +kernel), List.mem_of_getElem? (i := 518) (by decide +kernel), List.mem_of_getElem? (i := 519) (by decide +kernel)⟩
theorem lw_p19 : lw_okq (⟨"WeldedRelaysModel", "readsCircuit", "()Z"⟩, 12) := ⟨⟨by decide +kernel, by decide +kernel⟩, List.mem_of_getElem? (i := 442) (by decide +kernel), List.mem_of_getElem? (i := 522) (by decide +kernel), List.mem_of_getElem? (i := 523) (by decide +kernel)⟩
theorem lw_p20 : lw_okq (⟨"WeldedRelaysModel", "character", "(I)I"⟩, 12) := ⟨⟨by decide +kernel, by decide +kernel⟩, List.mem_of_getElem? (i := 442) (by decide +kernel), List.mem_of_getElem? (i := 526) (by decide +kernel), List.mem_of_getElem? (i := 527) (by decide +kernel)⟩
theorem lw_p21 : lw_okq (⟨"WeldedRelaysModel", "isNext", "(I)Z"⟩, 12) := ⟨⟨by decide +kernel, by decide +kernel⟩, List.mem_of_getElem? (i := 442) (by decide +kernel), List.mem_of_getElem? (i := 530) (by decide +kernel), List.mem_of_getElem? (i := 531) (by decide +kernel)⟩
theorem lw_p22 : lw_okq (⟨"WeldedRelaysModel", "readsBranches", "()Z"⟩, 12) := ⟨⟨by decide +kernel, by decide +kernel⟩, List.mem_of_getElem? (i := 442) (by decide +kernel), List.mem_of_getElem? (i := 534) (by decide +kernel), List.mem_of_getElem? (i := 535) (by decide +kernel)⟩
theorem lw_p23 : lw_okq (⟨"WeldedRelaysModel", "readsBranch", "()Z"⟩, 12) := ⟨⟨by decide +kernel, by decide +kernel⟩, List.mem_of_getElem? (i := 442) (by decide +kernel), List.mem_of_getElem? (i := 538) (by decide +kernel), List.mem_of_getElem? (i := 539) (by decide +kernel)⟩
theorem lw_p24 : lw_okq (⟨"WeldedRelaysModel", "relaysWithBranches", "()I"⟩, 12) := ⟨⟨by decide +kernel, by decide +kernel⟩, List.mem_of_getElem? (i := 442) (by decide +kernel), List.mem_of_getElem? (i := 545) (by decide +kernel), List.mem_of_getElem? (i := 546) (by decide +kernel)⟩
theorem lw_p25 : lw_okq (⟨"WeldedRelaysModel", "wanting", "()I"⟩, 12) := ⟨⟨by decide +kernel, by decide +kernel⟩, List.mem_of_getElem? (i := 442) (by decide +kernel), List.mem_of_getElem? (i := 556) (by decide +kernel), List.mem_of_getElem? (i := 557) (by decide +kernel)⟩
theorem lw_p26 : lw_okq (⟨"WeldedRelaysModel", "fed", "()I"⟩, 12) := ⟨⟨by decide +kernel, by decide +kernel⟩, List.mem_of_getElem? (i := 442) (by decide +kernel), List.mem_of_getElem? (i := 560) (by decide +kernel), List.mem_of_getElem? (i := 561) (by decide +kernel)⟩
theorem lw_p27 : lw_okq (⟨"WeldedRelaysModel", "isFed", "(I)Z"⟩, 12) := ⟨⟨by decide +kernel, by decide +kernel⟩, List.mem_of_getElem? (i := 442) (by decide +kernel), List.mem_of_getElem? (i := 564) (by decide +kernel), List.mem_of_getElem? (i := 565) (by decide +kernel)⟩
theorem lw_p28 : lw_okq (⟨"WeldedRelaysModel", "isClosed", "(II)Z"⟩, 12) := ⟨⟨by decide +kernel, by decide +kernel⟩, List.mem_of_getElem? (i := 442) (by decide +kernel), List.mem_of_getElem? (i := 568) (by decide +kernel), List.mem_of_getElem? (i := 569) (by decide +kernel)⟩
theorem lw_p29 : lw_okq (⟨"WeldedRelaysModel", "ofBranch", "(III)I"⟩, 12) := ⟨⟨by decide +kernel, by decide +kernel⟩, List.mem_of_getElem? (i := 442) (by decide +kernel), List.mem_of_getElem? (i := 572) (by decide +kernel), List.mem_of_getElem? (i := 573) (by decide +kernel)⟩
theorem lw_p30 : lw_okq (⟨"WeldedRelaysModel", "passes", "(I)I"⟩, 12) := ⟨⟨by decide +kernel, by decide +kernel⟩, List.mem_of_getElem? (i := 442) (by decide +kernel), List.mem_of_getElem? (i := 584) (by decide +kernel), List.mem_of_getElem? (i := 585) (by decide +kernel)⟩
theorem lw_p31 : lw_okq (⟨"WeldedRelaysModel", "tick", "()V"⟩, 12) := ⟨⟨by decide +kernel, by decide +kernel⟩, List.mem_of_getElem? (i := 442) (by decide +kernel), List.mem_of_getElem? (i := 588) (by decide +kernel), List.mem_of_getElem? (i := 589) (by decide +kernel)⟩
def lw_privs_2 : List (MethodName × Nat) := [(⟨"WeldedRelaysModel", "record", "()V"⟩, 12), (⟨"WeldedRelaysModel", "part", "(II)I"⟩, 12), (⟨"WeldedRelaysModel", "findFault", "()I"⟩, 12), (⟨"WeldedRelaysModel", "readsCircuit", "()Z"⟩, 12), (⟨"WeldedRelaysModel", "character", "(I)I"⟩, 12), (⟨"WeldedRelaysModel", "isNext", "(I)Z"⟩, 12), (⟨"WeldedRelaysModel", "readsBranches", "()Z"⟩, 12), (⟨"WeldedRelaysModel", "readsBranch", "()Z"⟩, 12), (⟨"WeldedRelaysModel", "relaysWithBranches", "()I"⟩, 12), (⟨"WeldedRelaysModel", "wanting", "()I"⟩, 12), (⟨"WeldedRelaysModel", "fed", "()I"⟩, 12), (⟨"WeldedRelaysModel", "isFed", "(I)Z"⟩, 12), (⟨"WeldedRelaysModel", "isClosed", "(II)Z"⟩, 12), (⟨"WeldedRelaysModel", "ofBranch", "(III)I"⟩, 12), (⟨"WeldedRelaysModel", "passes", "(I)I"⟩, 12), (⟨"WeldedRelaysModel", "tick", "()V"⟩, 12)]
theorem lw_r2 : ∀ q ∈ lw_privs_2, lw_okq q := List.forall_mem_cons.mpr ⟨lw_p16, List.forall_mem_cons.mpr ⟨lw_p17, List.forall_mem_cons.mpr ⟨lw_p18, List.forall_mem_cons.mpr ⟨lw_p19, List.forall_mem_cons.mpr ⟨lw_p20, List.forall_mem_cons.mpr ⟨lw_p21, List.forall_mem_cons.mpr ⟨lw_p22, List.forall_mem_cons.mpr ⟨lw_p23, List.forall_mem_cons.mpr ⟨lw_p24, List.forall_mem_cons.mpr ⟨lw_p25, List.forall_mem_cons.mpr ⟨lw_p26, List.forall_mem_cons.mpr ⟨lw_p27, List.forall_mem_cons.mpr ⟨lw_p28, List.forall_mem_cons.mpr ⟨lw_p29, List.forall_mem_cons.mpr ⟨lw_p30, List.forall_mem_cons.mpr ⟨lw_p31, fun _ h => absurd h List.not_mem_nil⟩⟩⟩⟩⟩⟩⟩⟩⟩⟩⟩⟩⟩⟩⟩⟩
theorem lw_p32 : lw_okq (⟨"WeldedRelaysModel", "moveRelay", "(I)V"⟩, 12) := ⟨⟨by decide +kernel, by decide +kernel⟩, List.mem_of_getElem? (i := 442) (by decide +kernel), List.mem_of_getElem? (i := 592) (by decide +kernel), List.mem_of_getElem? (i := 593) (by decide +kernel)⟩
theorem lw_p33 : lw_okq (⟨"WeldedRelaysModel", "settles", "()I"⟩, 12) := ⟨⟨by decide +kernel, by decide +kernel⟩, List.mem_of_getElem? (i := 442) (by decide +kernel), List.mem_of_getElem? (i := 600) (by decide +kernel), List.mem_of_getElem? (i := 601) (by decide +kernel)⟩
theorem lw_p34 : lw_okq (⟨"WeldedRelaysModel", "holdsItself", "(I)Z"⟩, 12) := ⟨⟨by decide +kernel, by decide +kernel⟩, List.mem_of_getElem? (i := 442) (by decide +kernel), List.mem_of_getElem? (i := 608) (by decide +kernel), List.mem_of_getElem? (i := 609) (by decide +kernel)⟩
theorem lw_p35 : lw_okq (⟨"WeldedRelaysModel", "relaysWith", "(I)I"⟩, 12) := ⟨⟨by decide +kernel, by decide +kernel⟩, List.mem_of_getElem? (i := 442) (by decide +kernel), List.mem_of_getElem? (i := 612) (by decide +kernel), List.mem_of_getElem? (i := 613) (by decide +kernel)⟩
theorem lw_p36 : lw_okq (⟨"WeldedRelaysModel", "neverClosed", "()I"⟩, 12) := ⟨⟨by decide +kernel, by decide +kernel⟩, List.mem_of_getElem? (i := 442) (by decide +kernel), List.mem_of_getElem? (i := 624) (by decide +kernel), List.mem_of_getElem? (i := 625) (by decide +kernel)⟩
theorem lw_p37 : lw_okq (⟨"WeldedRelaysModel", "restWith", "(II)I"⟩, 12) := ⟨⟨by decide +kernel, by decide +kernel⟩, List.mem_of_getElem? (i := 442) (by decide +kernel), List.mem_of_getElem? (i := 639) (by decide +kernel), List.mem_of_getElem? (i := 640) (by decide +kernel)⟩
theorem lw_p38 : lw_okq (⟨"WeldedRelaysModel", "upIfWelded", "(II)I"⟩, 12) := ⟨⟨by decide +kernel, by decide +kernel⟩, List.mem_of_getElem? (i := 442) (by decide +kernel), List.mem_of_getElem? (i := 651) (by decide +kernel), List.mem_of_getElem? (i := 652) (by decide +kernel)⟩
def lw_privs_3 : List (MethodName × Nat) := [(⟨"WeldedRelaysModel", "moveRelay", "(I)V"⟩, 12), (⟨"WeldedRelaysModel", "settles", "()I"⟩, 12), (⟨"WeldedRelaysModel", "holdsItself", "(I)Z"⟩, 12), (⟨"WeldedRelaysModel", "relaysWith", "(I)I"⟩, 12), (⟨"WeldedRelaysModel", "neverClosed", "()I"⟩, 12), (⟨"WeldedRelaysModel", "restWith", "(II)I"⟩, 12), (⟨"WeldedRelaysModel", "upIfWelded", "(II)I"⟩, 12)]
theorem lw_r3 : ∀ q ∈ lw_privs_3, lw_okq q := List.forall_mem_cons.mpr ⟨lw_p32, List.forall_mem_cons.mpr ⟨lw_p33, List.forall_mem_cons.mpr ⟨lw_p34, List.forall_mem_cons.mpr ⟨lw_p35, List.forall_mem_cons.mpr ⟨lw_p36, List.forall_mem_cons.mpr ⟨lw_p37, List.forall_mem_cons.mpr ⟨lw_p38, fun _ h => absurd h List.not_mem_nil⟩⟩⟩⟩⟩⟩⟩
def lw_privs : List (MethodName × Nat) := lw_privs_1 ++ (lw_privs_2 ++ (lw_privs_3))
def lw_tbl : List Cond := k2_sels lw_privs ++ tables_1
theorem lw_privs_ok : ∀ q ∈ lw_privs, lw_okq q := by
  show ∀ q ∈ lw_privs_1 ++ (lw_privs_2 ++ (lw_privs_3)), lw_okq q
  exact List.forall_mem_append.mpr ⟨lw_r1, List.forall_mem_append.mpr ⟨lw_r2, lw_r3⟩⟩
/-! ===== BEGIN words of one list among another's, by their places ===== -/
theorem goodIn_r {big : List Cond} (ws : List Cond) (ps : List Nat) (hp : ws = ps.filterMap (fun i => big[i]?)) (h : ws.all goodWord = true) : GoodIn big ws := by
  intro w hw
  have h1 := List.all_eq_true.mp h w hw
  rw [hp] at hw
  obtain ⟨i, -, hi⟩ := List.mem_filterMap.mp hw
  have hm : w ∈ big := by first | exact List.mem_of_getElem? hi | exact List.getElem?_mem hi
  exact ⟨hm, good_of_word h1⟩
theorem goodIn_app {big a b : List Cond} (ha : GoodIn big a) (hb : GoodIn big b) : GoodIn big (a ++ b) := fun w h => (List.mem_append.mp h).elim (ha w) (hb w)
theorem goodIn_ca {big a b : List Cond} {c : Cond} (ha : GoodIn big (c :: a)) (hb : GoodIn big b) : GoodIn big (c :: (a ++ b)) := fun w h => (List.mem_cons.mp h).elim (fun e => ha w (List.mem_cons.mpr (Or.inl e))) (fun h => (List.mem_append.mp h).elim (fun h => ha w (List.mem_cons.mpr (Or.inr h))) (hb w))
theorem goodIn_sub {big ws : List Cond} (hm : ∀ w ∈ ws, w ∈ big) (h : ws.all goodWord = true) : GoodIn big ws := fun w hw => ⟨hm w hw, good_of_word (List.all_eq_true.mp h w hw)⟩
/-! ===== END ===== -/

/-! ===== BEGIN printed: names, fields, word lists, decode rows ===== -/
def RX0 : String := "WeldedRelays$History"
def TX0 : u_T := fun k => match k with
  | 0 => ("WeldedRelays$History", "states", "[LWeldedRelays$Room;", true)
  | 1 => ("WeldedRelays$History", "oldest", "I", false)
  | _ => ("WeldedRelays$History", "size", "I", false)
def tyX0 : Nat → FieldType := fun k => match k with
  | 0 => .array (.object "WeldedRelays$Room")
  | 1 => .int
  | _ => .int
abbrev wsX00 : List Cond := u_ws RX0 TX0 3
theorem nmX0 : ∀ a, a < 3 → ∀ b, b < 3 → a ≠ b → (TX0 a).2.1 ≠ (TX0 b).2.1 := by decide +kernel
theorem tyX0_ok : ∀ k, k < 3 → parseFieldDescriptor (TX0 k).2.2.1 = some (tyX0 k) := by decide +kernel
abbrev cX0_init : ByteArray := prog_2_method_1_code
def yX0_init : MethodName := ⟨RX0, "<init>", "()V"⟩
abbrev cX0_record : ByteArray := prog_2_method_2_code
def yX0_record : MethodName := ⟨RX0, "record", "(LWeldedRelays$Room;)V"⟩
abbrev cX0_takeBackTo : ByteArray := prog_2_method_3_code
def yX0_takeBackTo : MethodName := ⟨RX0, "takeBackTo", "(LWeldedRelays$Room;)V"⟩
def RX1 : String := "WeldedRelays$Pad"
def TX1 : u_T := fun k => match k with
  | 0 => ("WeldedRelays$Pad", "characters", "[I", true)
  | _ => ("WeldedRelays$Pad", "length", "I", false)
def tyX1 : Nat → FieldType := fun k => match k with
  | 0 => .array .int
  | _ => .int
abbrev wsX10 : List Cond := u_ws RX1 TX1 2
theorem nmX1 : ∀ a, a < 2 → ∀ b, b < 2 → a ≠ b → (TX1 a).2.1 ≠ (TX1 b).2.1 := by decide +kernel
theorem tyX1_ok : ∀ k, k < 2 → parseFieldDescriptor (TX1 k).2.2.1 = some (tyX1 k) := by decide +kernel
abbrev cX1_init : ByteArray := prog_3_method_1_code
def yX1_init : MethodName := ⟨RX1, "<init>", "()V"⟩
abbrev cX1_lengthOf : ByteArray := prog_3_method_2_code
def yX1_lengthOf : MethodName := ⟨RX1, "lengthOf", "(J)I"⟩
abbrev cX1_lastOf : ByteArray := prog_3_method_3_code
def yX1_lastOf : MethodName := ⟨RX1, "lastOf", "(J)I"⟩
abbrev cX1_append : ByteArray := prog_3_method_4_code
def yX1_append : MethodName := ⟨RX1, "append", "(JI)V"⟩
abbrev cX1_clear : ByteArray := prog_3_method_5_code
def yX1_clear : MethodName := ⟨RX1, "clear", "()V"⟩
def RX2 : String := "WeldedRelays$Reader"
def TX2 : u_T := fun k => match k with
  | 0 => ("WeldedRelays$Reader", "place", "I", false)
  | _ => ("WeldedRelays$Reader", "relay", "I", false)
def tyX2 : Nat → FieldType := fun k => match k with
  | 0 => .int
  | _ => .int
abbrev wsX20 : List Cond := u_ws RX2 TX2 2
theorem nmX2 : ∀ a, a < 2 → ∀ b, b < 2 → a ≠ b → (TX2 a).2.1 ≠ (TX2 b).2.1 := by decide +kernel
theorem tyX2_ok : ∀ k, k < 2 → parseFieldDescriptor (TX2 k).2.2.1 = some (tyX2 k) := by decide +kernel
abbrev cX2_init : ByteArray := prog_4_method_1_code
def yX2_init : MethodName := ⟨RX2, "<init>", "()V"⟩
abbrev cX2_readInto : ByteArray := prog_4_method_2_code
def yX2_readInto : MethodName := ⟨RX2, "readInto", "(LWeldedRelays$Room;LWeldedRelays$Pad;)I"⟩
abbrev cX2_takes : ByteArray := prog_4_method_3_code
def yX2_takes : MethodName := ⟨RX2, "takes", "(LWeldedRelays$Room;I)Z"⟩
abbrev cX2_goesTo : ByteArray := prog_4_method_4_code
def yX2_goesTo : MethodName := ⟨RX2, "goesTo", "(I)Z"⟩
abbrev cX2_takesRelay : ByteArray := prog_4_method_5_code
def yX2_takesRelay : MethodName := ⟨RX2, "takesRelay", "(I)Z"⟩
abbrev cX2_takesEquals : ByteArray := prog_4_method_6_code
def yX2_takesEquals : MethodName := ⟨RX2, "takesEquals", "(LWeldedRelays$Room;I)Z"⟩
abbrev cX2_takesFirstContact : ByteArray := prog_4_method_7_code
def yX2_takesFirstContact : MethodName := ⟨RX2, "takesFirstContact", "(LWeldedRelays$Room;I)Z"⟩
abbrev cX2_takesNextOfBranch : ByteArray := prog_4_method_8_code
def yX2_takesNextOfBranch : MethodName := ⟨RX2, "takesNextOfBranch", "(LWeldedRelays$Room;I)Z"⟩
abbrev cX2_takesContact : ByteArray := prog_4_method_9_code
def yX2_takesContact : MethodName := ⟨RX2, "takesContact", "(LWeldedRelays$Room;I)Z"⟩
abbrev cX2_contactOf : ByteArray := prog_4_method_10_code
def yX2_contactOf : MethodName := ⟨RX2, "contactOf", "(I)I"⟩
def RX3 : String := "WeldedRelays$Room"
def TX3 : u_T := fun k => match k with
  | 0 => ("WeldedRelays$Room", "up", "I", false)
  | 1 => ("WeldedRelays$Room", "welded", "I", false)
  | 2 => ("WeldedRelays$Room", "buttons", "I", false)
  | 3 => ("WeldedRelays$Room", "life", "I", false)
  | 4 => ("WeldedRelays$Room", "ticks", "I", false)
  | 5 => ("WeldedRelays$Room", "moves", "I", false)
  | 6 => ("WeldedRelays$Room", "pickTimes", "[I", true)
  | 7 => ("WeldedRelays$Room", "dropTimes", "[I", true)
  | 8 => ("WeldedRelays$Room", "waits", "[I", true)
  | 9 => ("WeldedRelays$Room", "operations", "[I", true)
  | 10 => ("WeldedRelays$Room", "branchCounts", "[I", true)
  | 11 => ("WeldedRelays$Room", "fronts", "[I", true)
  | 12 => ("WeldedRelays$Room", "backs", "[I", true)
  | _ => ("WeldedRelays$Room", "contactCounts", "[I", true)
def tyX3 : Nat → FieldType := fun k => match k with
  | 0 => .int
  | 1 => .int
  | 2 => .int
  | 3 => .int
  | 4 => .int
  | 5 => .int
  | 6 => .array .int
  | 7 => .array .int
  | 8 => .array .int
  | 9 => .array .int
  | 10 => .array .int
  | 11 => .array .int
  | 12 => .array .int
  | _ => .array .int
abbrev wsX30 : List Cond := u_ws RX3 TX3 14
theorem nmX3 : ∀ a, a < 14 → ∀ b, b < 14 → a ≠ b → (TX3 a).2.1 ≠ (TX3 b).2.1 := by decide +kernel
theorem tyX3_ok : ∀ k, k < 14 → parseFieldDescriptor (TX3 k).2.2.1 = some (tyX3 k) := by decide +kernel
abbrev cX3_init : ByteArray := prog_5_method_1_code
def yX3_init : MethodName := ⟨RX3, "<init>", "()V"⟩
abbrev cX3_copyFrom : ByteArray := prog_5_method_2_code
def yX3_copyFrom : MethodName := ⟨RX3, "copyFrom", "(LWeldedRelays$Room;)V"⟩
abbrev cX3_makeAllTimesOne : ByteArray := prog_5_method_3_code
def yX3_makeAllTimesOne : MethodName := ⟨RX3, "makeAllTimesOne", "()V"⟩
abbrev cX3_fedRelays : ByteArray := prog_5_method_4_code
def yX3_fedRelays : MethodName := ⟨RX3, "fedRelays", "()I"⟩
abbrev cX3_isFed : ByteArray := prog_5_method_5_code
def yX3_isFed : MethodName := ⟨RX3, "isFed", "(I)Z"⟩
abbrev cX3_isClosed : ByteArray := prog_5_method_6_code
def yX3_isClosed : MethodName := ⟨RX3, "isClosed", "(I)Z"⟩
abbrev cX3_wantingRelays : ByteArray := prog_5_method_7_code
def yX3_wantingRelays : MethodName := ⟨RX3, "wantingRelays", "()I"⟩
abbrev cX3_passTicks : ByteArray := prog_5_method_8_code
def yX3_passTicks : MethodName := ⟨RX3, "passTicks", "(I)V"⟩
abbrev cX3_ticksUntilRest : ByteArray := prog_5_method_9_code
def yX3_ticksUntilRest : MethodName := ⟨RX3, "ticksUntilRest", "()I"⟩
abbrev cX3_upAtRest : ByteArray := prog_5_method_10_code
def yX3_upAtRest : MethodName := ⟨RX3, "upAtRest", "()I"⟩
abbrev cX3_passTick : ByteArray := prog_5_method_11_code
def yX3_passTick : MethodName := ⟨RX3, "passTick", "(I)V"⟩
abbrev cX3_waitOrMove : ByteArray := prog_5_method_12_code
def yX3_waitOrMove : MethodName := ⟨RX3, "waitOrMove", "(I)V"⟩
abbrev cX3_wear : ByteArray := prog_5_method_13_code
def yX3_wear : MethodName := ⟨RX3, "wear", "(I)V"⟩
abbrev cX3_clearCircuit : ByteArray := prog_5_method_14_code
def yX3_clearCircuit : MethodName := ⟨RX3, "clearCircuit", "(I)V"⟩
abbrev cX3_hasRoomForBranch : ByteArray := prog_5_method_15_code
def yX3_hasRoomForBranch : MethodName := ⟨RX3, "hasRoomForBranch", "(I)Z"⟩
abbrev cX3_addBranch : ByteArray := prog_5_method_16_code
def yX3_addBranch : MethodName := ⟨RX3, "addBranch", "(I)V"⟩
abbrev cX3_hasRoomForContact : ByteArray := prog_5_method_17_code
def yX3_hasRoomForContact : MethodName := ⟨RX3, "hasRoomForContact", "(I)Z"⟩
abbrev cX3_addContact : ByteArray := prog_5_method_18_code
def yX3_addContact : MethodName := ⟨RX3, "addContact", "(IIZ)V"⟩
abbrev cX3_relaysWithBranches : ByteArray := prog_5_method_19_code
def yX3_relaysWithBranches : MethodName := ⟨RX3, "relaysWithBranches", "()I"⟩
abbrev cX3_relaysWithContactOf : ByteArray := prog_5_method_20_code
def yX3_relaysWithContactOf : MethodName := ⟨RX3, "relaysWithContactOf", "(I)I"⟩
abbrev cX3_frontsOfCircuit : ByteArray := prog_5_method_21_code
def yX3_frontsOfCircuit : MethodName := ⟨RX3, "frontsOfCircuit", "(I)I"⟩
abbrev cX3_backsOfCircuit : ByteArray := prog_5_method_22_code
def yX3_backsOfCircuit : MethodName := ⟨RX3, "backsOfCircuit", "(I)I"⟩
abbrev cX3_contactsOfCircuit : ByteArray := prog_5_method_23_code
def yX3_contactsOfCircuit : MethodName := ⟨RX3, "contactsOfCircuit", "([II)I"⟩
abbrev cX3_neverClosedBranches : ByteArray := prog_5_method_24_code
def yX3_neverClosedBranches : MethodName := ⟨RX3, "neverClosedBranches", "()I"⟩
def RX4 : String := "WeldedRelays"
def TX4 : u_T := fun k => match k with
  | 0 => ("WeldedRelays", "room", "LWeldedRelays$Room;", true)
  | 1 => ("WeldedRelays", "trial", "LWeldedRelays$Room;", true)
  | 2 => ("WeldedRelays", "pad", "LWeldedRelays$Pad;", true)
  | 3 => ("WeldedRelays", "reader", "LWeldedRelays$Reader;", true)
  | 4 => ("WeldedRelays", "history", "LWeldedRelays$History;", true)
  | 5 => ("WeldedRelays", "slots", "[LWeldedRelays$Room;", true)
  | _ => ("WeldedRelays", "isSaved", "[Z", true)
def tyX4 : Nat → FieldType := fun k => match k with
  | 0 => .object "WeldedRelays$Room"
  | 1 => .object "WeldedRelays$Room"
  | 2 => .object "WeldedRelays$Pad"
  | 3 => .object "WeldedRelays$Reader"
  | 4 => .object "WeldedRelays$History"
  | 5 => .array (.object "WeldedRelays$Room")
  | _ => .array .boolean
abbrev wsX40 : List Cond := u_ws RX4 TX4 7
theorem nmX4 : ∀ a, a < 7 → ∀ b, b < 7 → a ≠ b → (TX4 a).2.1 ≠ (TX4 b).2.1 := by decide +kernel
theorem tyX4_ok : ∀ k, k < 7 → parseFieldDescriptor (TX4 k).2.2.1 = some (tyX4 k) := by decide +kernel
abbrev cX4_init : ByteArray := prog_1_method_1_code
def yX4_init : MethodName := ⟨RX4, "<init>", "()V"⟩
abbrev cX4_time : ByteArray := prog_1_method_2_code
def yX4_time : MethodName := ⟨RX4, "time", "(IZI)I"⟩
abbrev cX4_life : ByteArray := prog_1_method_3_code
def yX4_life : MethodName := ⟨RX4, "life", "(I)I"⟩
abbrev cX4_read : ByteArray := prog_1_method_4_code
def yX4_read : MethodName := ⟨RX4, "read", "()I"⟩
abbrev cX4_press : ByteArray := prog_1_method_5_code
def yX4_press : MethodName := ⟨RX4, "press", "(IZ)I"⟩
abbrev cX4_weld : ByteArray := prog_1_method_6_code
def yX4_weld : MethodName := ⟨RX4, "weld", "(IZ)I"⟩
abbrev cX4_pass : ByteArray := prog_1_method_7_code
def yX4_pass : MethodName := ⟨RX4, "pass", "(I)I"⟩
abbrev cX4_settle : ByteArray := prog_1_method_8_code
def yX4_settle : MethodName := ⟨RX4, "settle", "()I"⟩
abbrev cX4_relay : ByteArray := prog_1_method_9_code
def yX4_relay : MethodName := ⟨RX4, "relay", "(II)I"⟩
abbrev cX4_branch : ByteArray := prog_1_method_10_code
def yX4_branch : MethodName := ⟨RX4, "branch", "(III)I"⟩
abbrev cX4_count : ByteArray := prog_1_method_11_code
def yX4_count : MethodName := ⟨RX4, "count", "(I)I"⟩
abbrev cX4_ifPressed : ByteArray := prog_1_method_12_code
def yX4_ifPressed : MethodName := ⟨RX4, "ifPressed", "(II)I"⟩
abbrev cX4_rest : ByteArray := prog_1_method_13_code
def yX4_rest : MethodName := ⟨RX4, "rest", "(II)I"⟩
abbrev cX4_race : ByteArray := prog_1_method_14_code
def yX4_race : MethodName := ⟨RX4, "race", "(I)I"⟩
abbrev cX4_ifWelded : ByteArray := prog_1_method_15_code
def yX4_ifWelded : MethodName := ⟨RX4, "ifWelded", "(II)I"⟩
abbrev cX4_unsafe : ByteArray := prog_1_method_16_code
def yX4_unsafe : MethodName := ⟨RX4, "\x75nsafe", "(I)I"⟩
abbrev cX4_reach : ByteArray := prog_1_method_17_code
def yX4_reach : MethodName := ⟨RX4, "reach", "(I)I"⟩
abbrev cX4_put : ByteArray := prog_1_method_18_code
def yX4_put : MethodName := ⟨RX4, "put", "(J)I"⟩
abbrev cX4_wipe : ByteArray := prog_1_method_19_code
def yX4_wipe : MethodName := ⟨RX4, "wipe", "()I"⟩
abbrev cX4_fault : ByteArray := prog_1_method_20_code
def yX4_fault : MethodName := ⟨RX4, "fault", "()I"⟩
abbrev cX4_undo : ByteArray := prog_1_method_21_code
def yX4_undo : MethodName := ⟨RX4, "undo", "()I"⟩
abbrev cX4_save : ByteArray := prog_1_method_22_code
def yX4_save : MethodName := ⟨RX4, "save", "(I)I"⟩
abbrev cX4_restore : ByteArray := prog_1_method_23_code
def yX4_restore : MethodName := ⟨RX4, "restore", "(I)I"⟩
abbrev cX4_tryButtons : ByteArray := prog_1_method_24_code
def yX4_tryButtons : MethodName := ⟨RX4, "tryButtons", "(I)V"⟩
abbrev cX4_tryWelded : ByteArray := prog_1_method_25_code
def yX4_tryWelded : MethodName := ⟨RX4, "tryWelded", "(I)V"⟩
abbrev cX4_isUpIn : ByteArray := prog_1_method_26_code
def yX4_isUpIn : MethodName := ⟨RX4, "isUpIn", "(II)Z"⟩
abbrev cX4_isRelay : ByteArray := prog_1_method_27_code
def yX4_isRelay : MethodName := ⟨RX4, "isRelay", "(I)Z"⟩
abbrev cX4_isButtonSet : ByteArray := prog_1_method_28_code
def yX4_isButtonSet : MethodName := ⟨RX4, "isButtonSet", "(I)Z"⟩
abbrev cX4_isWithin : ByteArray := prog_1_method_29_code
def yX4_isWithin : MethodName := ⟨RX4, "isWithin", "(III)Z"⟩
abbrev cX4_isIn : ByteArray := prog_1_method_30_code
def yX4_isIn : MethodName := ⟨RX4, "isIn", "(II)Z"⟩
abbrev cX4_bit : ByteArray := prog_1_method_31_code
def yX4_bit : MethodName := ⟨RX4, "bit", "(II)I"⟩
abbrev cX4_placeOf : ByteArray := prog_1_method_32_code
def yX4_placeOf : MethodName := ⟨RX4, "placeOf", "(II)I"⟩
def RX5 : String := "WeldedRelaysModel"
def TX5 : u_T := fun k => match k with
  | 0 => ("WeldedRelaysModel", "state", "[I", true)
  | 1 => ("WeldedRelaysModel", "kept", "[I", true)
  | 2 => ("WeldedRelaysModel", "history", "[I", true)
  | 3 => ("WeldedRelaysModel", "recorded", "I", false)
  | 4 => ("WeldedRelaysModel", "slots", "[I", true)
  | 5 => ("WeldedRelaysModel", "isSaved", "[I", true)
  | 6 => ("WeldedRelaysModel", "pad", "[I", true)
  | 7 => ("WeldedRelaysModel", "padLength", "I", false)
  | 8 => ("WeldedRelaysModel", "at", "I", false)
  | 9 => ("WeldedRelaysModel", "relayTold", "I", false)
  | 10 => ("WeldedRelaysModel", "told", "[I", true)
  | _ => ("WeldedRelaysModel", "branchesTold", "I", false)
def tyX5 : Nat → FieldType := fun k => match k with
  | 0 => .array .int
  | 1 => .array .int
  | 2 => .array .int
  | 3 => .int
  | 4 => .array .int
  | 5 => .array .int
  | 6 => .array .int
  | 7 => .int
  | 8 => .int
  | 9 => .int
  | 10 => .array .int
  | _ => .int
abbrev wsX50 : List Cond := u_ws RX5 TX5 12
theorem nmX5 : ∀ a, a < 12 → ∀ b, b < 12 → a ≠ b → (TX5 a).2.1 ≠ (TX5 b).2.1 := by decide +kernel
theorem tyX5_ok : ∀ k, k < 12 → parseFieldDescriptor (TX5 k).2.2.1 = some (tyX5 k) := by decide +kernel
abbrev cX5_init : ByteArray := prog_7_method_1_code
def yX5_init : MethodName := ⟨RX5, "<init>", "()V"⟩
abbrev cX5_moves : ByteArray := prog_7_method_3_code
def yX5_moves : MethodName := ⟨RX5, "moves", "([II[II)V"⟩
abbrev cX5_within : ByteArray := prog_7_method_4_code
def yX5_within : MethodName := ⟨RX5, "within", "(III)Z"⟩
abbrev cX5_record : ByteArray := prog_7_method_5_code
def yX5_record : MethodName := ⟨RX5, "record", "()V"⟩
abbrev cX5_isRelay : ByteArray := prog_7_method_6_code
def yX5_isRelay : MethodName := ⟨RX5, "isRelay", "(I)Z"⟩
abbrev cX5_part : ByteArray := prog_7_method_7_code
def yX5_part : MethodName := ⟨RX5, "part", "(II)I"⟩
abbrev cX5_setPart : ByteArray := prog_7_method_8_code
def yX5_setPart : MethodName := ⟨RX5, "setPart", "(III)V"⟩
abbrev cX5_has : ByteArray := prog_7_method_9_code
def yX5_has : MethodName := ⟨RX5, "has", "(II)Z"⟩
abbrev cX5_ofBranch : ByteArray := prog_7_method_10_code
def yX5_ofBranch : MethodName := ⟨RX5, "ofBranch", "(III)I"⟩
abbrev cX5_isClosed : ByteArray := prog_7_method_11_code
def yX5_isClosed : MethodName := ⟨RX5, "isClosed", "(II)Z"⟩
abbrev cX5_isFed : ByteArray := prog_7_method_12_code
def yX5_isFed : MethodName := ⟨RX5, "isFed", "(I)Z"⟩
abbrev cX5_fed : ByteArray := prog_7_method_13_code
def yX5_fed : MethodName := ⟨RX5, "fed", "()I"⟩
abbrev cX5_wanting : ByteArray := prog_7_method_14_code
def yX5_wanting : MethodName := ⟨RX5, "wanting", "()I"⟩
abbrev cX5_moveRelay : ByteArray := prog_7_method_15_code
def yX5_moveRelay : MethodName := ⟨RX5, "moveRelay", "(I)V"⟩
abbrev cX5_tick : ByteArray := prog_7_method_16_code
def yX5_tick : MethodName := ⟨RX5, "tick", "()V"⟩
abbrev cX5_settles : ByteArray := prog_7_method_17_code
def yX5_settles : MethodName := ⟨RX5, "settles", "()I"⟩
abbrev cX5_time : ByteArray := prog_7_method_18_code
def yX5_time : MethodName := ⟨RX5, "time", "(IZI)I"⟩
abbrev cX5_life : ByteArray := prog_7_method_19_code
def yX5_life : MethodName := ⟨RX5, "life", "(I)I"⟩
abbrev cX5_relaysWithBranches : ByteArray := prog_7_method_20_code
def yX5_relaysWithBranches : MethodName := ⟨RX5, "relaysWithBranches", "()I"⟩
abbrev cX5_read : ByteArray := prog_7_method_21_code
def yX5_read : MethodName := ⟨RX5, "read", "()I"⟩
abbrev cX5_press : ByteArray := prog_7_method_22_code
def yX5_press : MethodName := ⟨RX5, "press", "(IZ)I"⟩
abbrev cX5_weld : ByteArray := prog_7_method_23_code
def yX5_weld : MethodName := ⟨RX5, "weld", "(IZ)I"⟩
abbrev cX5_passes : ByteArray := prog_7_method_24_code
def yX5_passes : MethodName := ⟨RX5, "passes", "(I)I"⟩
abbrev cX5_pass : ByteArray := prog_7_method_25_code
def yX5_pass : MethodName := ⟨RX5, "pass", "(I)I"⟩
abbrev cX5_settle : ByteArray := prog_7_method_26_code
def yX5_settle : MethodName := ⟨RX5, "settle", "()I"⟩
abbrev cX5_holdsItself : ByteArray := prog_7_method_27_code
def yX5_holdsItself : MethodName := ⟨RX5, "holdsItself", "(I)Z"⟩
abbrev cX5_relaysWith : ByteArray := prog_7_method_28_code
def yX5_relaysWith : MethodName := ⟨RX5, "relaysWith", "(I)I"⟩
abbrev cX5_relay : ByteArray := prog_7_method_29_code
def yX5_relay : MethodName := ⟨RX5, "relay", "(II)I"⟩
abbrev cX5_branch : ByteArray := prog_7_method_30_code
def yX5_branch : MethodName := ⟨RX5, "branch", "(III)I"⟩
abbrev cX5_neverClosed : ByteArray := prog_7_method_31_code
def yX5_neverClosed : MethodName := ⟨RX5, "neverClosed", "()I"⟩
abbrev cX5_count : ByteArray := prog_7_method_32_code
def yX5_count : MethodName := ⟨RX5, "count", "(I)I"⟩
abbrev cX5_isSet : ByteArray := prog_7_method_33_code
def yX5_isSet : MethodName := ⟨RX5, "isSet", "(I)Z"⟩
abbrev cX5_ifPressed : ByteArray := prog_7_method_34_code
def yX5_ifPressed : MethodName := ⟨RX5, "ifPressed", "(II)I"⟩
abbrev cX5_restWith : ByteArray := prog_7_method_35_code
def yX5_restWith : MethodName := ⟨RX5, "restWith", "(II)I"⟩
abbrev cX5_rest : ByteArray := prog_7_method_36_code
def yX5_rest : MethodName := ⟨RX5, "rest", "(II)I"⟩
abbrev cX5_race : ByteArray := prog_7_method_37_code
def yX5_race : MethodName := ⟨RX5, "race", "(I)I"⟩
abbrev cX5_upIfWelded : ByteArray := prog_7_method_38_code
def yX5_upIfWelded : MethodName := ⟨RX5, "upIfWelded", "(II)I"⟩
abbrev cX5_ifWelded : ByteArray := prog_7_method_39_code
def yX5_ifWelded : MethodName := ⟨RX5, "ifWelded", "(II)I"⟩
abbrev cX5_unsafe : ByteArray := prog_7_method_40_code
def yX5_unsafe : MethodName := ⟨RX5, "\x75nsafe", "(I)I"⟩
abbrev cX5_bits : ByteArray := prog_7_method_41_code
def yX5_bits : MethodName := ⟨RX5, "bits", "(I)I"⟩
abbrev cX5_reach : ByteArray := prog_7_method_42_code
def yX5_reach : MethodName := ⟨RX5, "reach", "(I)I"⟩
abbrev cX5_put : ByteArray := prog_7_method_43_code
def yX5_put : MethodName := ⟨RX5, "put", "(J)I"⟩
abbrev cX5_wipe : ByteArray := prog_7_method_44_code
def yX5_wipe : MethodName := ⟨RX5, "wipe", "()I"⟩
abbrev cX5_character : ByteArray := prog_7_method_45_code
def yX5_character : MethodName := ⟨RX5, "character", "(I)I"⟩
abbrev cX5_isNext : ByteArray := prog_7_method_46_code
def yX5_isNext : MethodName := ⟨RX5, "isNext", "(I)Z"⟩
abbrev cX5_contactOf : ByteArray := prog_7_method_47_code
def yX5_contactOf : MethodName := ⟨RX5, "contactOf", "(I)I"⟩
abbrev cX5_readsBranch : ByteArray := prog_7_method_48_code
def yX5_readsBranch : MethodName := ⟨RX5, "readsBranch", "()Z"⟩
abbrev cX5_readsBranches : ByteArray := prog_7_method_49_code
def yX5_readsBranches : MethodName := ⟨RX5, "readsBranches", "()Z"⟩
abbrev cX5_readsCircuit : ByteArray := prog_7_method_50_code
def yX5_readsCircuit : MethodName := ⟨RX5, "readsCircuit", "()Z"⟩
abbrev cX5_findFault : ByteArray := prog_7_method_51_code
def yX5_findFault : MethodName := ⟨RX5, "findFault", "()I"⟩
abbrev cX5_fault : ByteArray := prog_7_method_52_code
def yX5_fault : MethodName := ⟨RX5, "fault", "()I"⟩
abbrev cX5_undo : ByteArray := prog_7_method_53_code
def yX5_undo : MethodName := ⟨RX5, "undo", "()I"⟩
abbrev cX5_save : ByteArray := prog_7_method_54_code
def yX5_save : MethodName := ⟨RX5, "save", "(I)I"⟩
abbrev cX5_restore : ByteArray := prog_7_method_55_code
def yX5_restore : MethodName := ⟨RX5, "restore", "(I)I"⟩
def RJ6 : String := "java/lang/Integer"
def TJ6 : u_T := fun k => match k with
  | _ => ("", "", "", false)
def tyJ6 : Nat → FieldType := fun k => match k with
  | _ => .int
abbrev wsJ60 : List Cond := u_ws RJ6 TJ6 0
theorem nmJ6 : ∀ a, a < 0 → ∀ b, b < 0 → a ≠ b → (TJ6 a).2.1 ≠ (TJ6 b).2.1 := by decide +kernel
theorem tyJ6_ok : ∀ k, k < 0 → parseFieldDescriptor (TJ6 k).2.2.1 = some (tyJ6 k) := by decide +kernel
abbrev cJ6_bitCount_0f7a4 : ByteArray := prog_8_method_49_code
def yJ6_bitCount_0f7a4 : MethodName := ⟨RJ6, "bitCount", "(I)I"⟩
def RJ10 : String := "java/lang/System"
def TJ10 : u_T := fun k => match k with
  | _ => ("", "", "", false)
def tyJ10 : Nat → FieldType := fun k => match k with
  | _ => .int
abbrev wsJ100 : List Cond := u_ws RJ10 TJ10 0
theorem nmJ10 : ∀ a, a < 0 → ∀ b, b < 0 → a ≠ b → (TJ10 a).2.1 ≠ (TJ10 b).2.1 := by decide +kernel
theorem tyJ10_ok : ∀ k, k < 0 → parseFieldDescriptor (TJ10 k).2.2.1 = some (tyJ10 k) := by decide +kernel
def RL : String := "WeldedRelaysLaw"
abbrev cL_law : ByteArray := code
def yL_law : MethodName := ⟨RL, "law", "([I)Z"⟩
def wsX3_init : List Cond := .code yX3_init cX3_init 2 none :: ([.methodLink RX3 3 objectInit, .instanceMethod objectInit, .code objectInit ⟨#[0xb1]⟩ 1 none, .arrayClass .int, .fieldLink RX3 9 "WeldedRelays$Room" "pickTimes" "[I", .fieldLink RX3 15 "WeldedRelays$Room" "dropTimes" "[I", .fieldLink RX3 18 "WeldedRelays$Room" "waits" "[I", .fieldLink RX3 21 "WeldedRelays$Room" "operations" "[I", .fieldLink RX3 24 "WeldedRelays$Room" "branchCounts" "[I", .fieldLink RX3 27 "WeldedRelays$Room" "fronts" "[I", .fieldLink RX3 30 "WeldedRelays$Room" "backs" "[I", .fieldLink RX3 33 "WeldedRelays$Room" "contactCounts" "[I"] ++ wsX30)
def wsX0_init : List Cond := .code yX0_init cX0_init 2 none :: ([.methodLink RX0 3 objectInit, .instanceMethod objectInit, .code objectInit ⟨#[0xb1]⟩ 1 none, .classLink RX0 9 RX3, .fieldLink RX0 11 "WeldedRelays$History" "states" "[LWeldedRelays$Room;", .instantiable RX3 14, .initialized RX3, .methodLink RX0 17 yX3_init, .instanceMethod yX3_init, .code yX3_init cX3_init 2 none, .methodLink RX3 3 objectInit, .arrayClass .int, .fieldLink RX3 9 "WeldedRelays$Room" "pickTimes" "[I", .fieldLink RX3 15 "WeldedRelays$Room" "dropTimes" "[I", .fieldLink RX3 18 "WeldedRelays$Room" "waits" "[I", .fieldLink RX3 21 "WeldedRelays$Room" "operations" "[I", .fieldLink RX3 24 "WeldedRelays$Room" "branchCounts" "[I", .fieldLink RX3 27 "WeldedRelays$Room" "fronts" "[I", .fieldLink RX3 30 "WeldedRelays$Room" "backs" "[I", .fieldLink RX3 33 "WeldedRelays$Room" "contactCounts" "[I"] ++ wsX00 ++ wsX30)
def wsX3_copyFrom : List Cond := .code yX3_copyFrom cX3_copyFrom 2 none :: ([.fieldLink RX3 36 "WeldedRelays$Room" "up" "I", .fieldLink RX3 40 "WeldedRelays$Room" "welded" "I", .fieldLink RX3 43 "WeldedRelays$Room" "buttons" "I", .fieldLink RX3 46 "WeldedRelays$Room" "life" "I", .fieldLink RX3 49 "WeldedRelays$Room" "ticks" "I", .fieldLink RX3 52 "WeldedRelays$Room" "moves" "I", .fieldLink RX3 9 "WeldedRelays$Room" "pickTimes" "[I", .methodLink RX3 55 arraycopyName, .native arraycopyName, .static arraycopyName, .initialized "java/lang/System", .fieldLink RX3 15 "WeldedRelays$Room" "dropTimes" "[I", .fieldLink RX3 18 "WeldedRelays$Room" "waits" "[I", .fieldLink RX3 21 "WeldedRelays$Room" "operations" "[I", .fieldLink RX3 24 "WeldedRelays$Room" "branchCounts" "[I", .fieldLink RX3 27 "WeldedRelays$Room" "fronts" "[I", .fieldLink RX3 30 "WeldedRelays$Room" "backs" "[I", .fieldLink RX3 33 "WeldedRelays$Room" "contactCounts" "[I"] ++ wsX30)
def wsX0_record_r1 : List Cond := [Cond.fieldLink RX0 11 "WeldedRelays$History" "states" "[LWeldedRelays$Room;", Cond.fieldLink RX0 18 "WeldedRelays$History" "oldest" "I", Cond.fieldLink RX0 22 "WeldedRelays$History" "size" "I", Cond.methodLink RX0 25 yX3_copyFrom, Cond.instanceMethod yX3_copyFrom, Cond.selects RX3 yX3_copyFrom yX3_copyFrom, Cond.initialized RX3, Cond.code yX3_copyFrom cX3_copyFrom 2 none, Cond.fieldLink RX3 36 "WeldedRelays$Room" "up" "I", Cond.fieldLink RX3 40 "WeldedRelays$Room" "welded" "I", Cond.fieldLink RX3 43 "WeldedRelays$Room" "buttons" "I", Cond.fieldLink RX3 46 "WeldedRelays$Room" "life" "I", Cond.fieldLink RX3 49 "WeldedRelays$Room" "ticks" "I", Cond.fieldLink RX3 52 "WeldedRelays$Room" "moves" "I", Cond.fieldLink RX3 9 "WeldedRelays$Room" "pickTimes" "[I", Cond.methodLink RX3 55 arraycopyName, Cond.native arraycopyName, Cond.static arraycopyName, Cond.initialized "java/lang/System", Cond.fieldLink RX3 15 "WeldedRelays$Room" "dropTimes" "[I", Cond.fieldLink RX3 18 "WeldedRelays$Room" "waits" "[I", Cond.fieldLink RX3 21 "WeldedRelays$Room" "operations" "[I", Cond.fieldLink RX3 24 "WeldedRelays$Room" "branchCounts" "[I", Cond.fieldLink RX3 27 "WeldedRelays$Room" "fronts" "[I"]
def wsX0_record_r2 : List Cond := [Cond.fieldLink RX3 30 "WeldedRelays$Room" "backs" "[I", Cond.fieldLink RX3 33 "WeldedRelays$Room" "contactCounts" "[I"]
def wsX0_record : List Cond := .code yX0_record cX0_record 2 none :: ((wsX0_record_r1 ++ wsX0_record_r2) ++ wsX00 ++ wsX30)
def wsX0_takeBackTo_r1 : List Cond := [Cond.fieldLink RX0 22 "WeldedRelays$History" "size" "I", Cond.fieldLink RX0 11 "WeldedRelays$History" "states" "[LWeldedRelays$Room;", Cond.fieldLink RX0 18 "WeldedRelays$History" "oldest" "I", Cond.methodLink RX0 25 yX3_copyFrom, Cond.instanceMethod yX3_copyFrom, Cond.selects RX3 yX3_copyFrom yX3_copyFrom, Cond.initialized RX3, Cond.code yX3_copyFrom cX3_copyFrom 2 none, Cond.fieldLink RX3 36 "WeldedRelays$Room" "up" "I", Cond.fieldLink RX3 40 "WeldedRelays$Room" "welded" "I", Cond.fieldLink RX3 43 "WeldedRelays$Room" "buttons" "I", Cond.fieldLink RX3 46 "WeldedRelays$Room" "life" "I", Cond.fieldLink RX3 49 "WeldedRelays$Room" "ticks" "I", Cond.fieldLink RX3 52 "WeldedRelays$Room" "moves" "I", Cond.fieldLink RX3 9 "WeldedRelays$Room" "pickTimes" "[I", Cond.methodLink RX3 55 arraycopyName, Cond.native arraycopyName, Cond.static arraycopyName, Cond.initialized "java/lang/System", Cond.fieldLink RX3 15 "WeldedRelays$Room" "dropTimes" "[I", Cond.fieldLink RX3 18 "WeldedRelays$Room" "waits" "[I", Cond.fieldLink RX3 21 "WeldedRelays$Room" "operations" "[I", Cond.fieldLink RX3 24 "WeldedRelays$Room" "branchCounts" "[I", Cond.fieldLink RX3 27 "WeldedRelays$Room" "fronts" "[I"]
def wsX0_takeBackTo_r2 : List Cond := [Cond.fieldLink RX3 30 "WeldedRelays$Room" "backs" "[I", Cond.fieldLink RX3 33 "WeldedRelays$Room" "contactCounts" "[I"]
def wsX0_takeBackTo : List Cond := .code yX0_takeBackTo cX0_takeBackTo 2 none :: ((wsX0_takeBackTo_r1 ++ wsX0_takeBackTo_r2) ++ wsX00 ++ wsX30)
def wsX1_init : List Cond := .code yX1_init cX1_init 1 none :: ([.methodLink RX1 3 objectInit, .instanceMethod objectInit, .code objectInit ⟨#[0xb1]⟩ 1 none, .arrayClass .int, .fieldLink RX1 9 "WeldedRelays$Pad" "characters" "[I"] ++ wsX10)
def wsX1_lastOf : List Cond := .code yX1_lastOf cX1_lastOf 2 (some .int) :: ([.constantLong RX1 23 (255)])
def wsX4_isWithin : List Cond := .code yX4_isWithin cX4_isWithin 3 (some .boolean) :: ([])
def wsX1_lengthOf : List Cond := .code yX1_lengthOf cX1_lengthOf 5 (some .int) :: ([.methodLink RX1 15 yX1_lastOf, .static yX1_lastOf, .initialized RX1, .code yX1_lastOf cX1_lastOf 2 (some .int), .constantLong RX1 23 (255), .static yX4_isWithin, .initialized RX4, .code yX4_isWithin cX4_isWithin 3 (some .boolean)])
def wsX1_append : List Cond := .code yX1_append cX1_append 7 none :: ([.fieldLink RX1 25 "WeldedRelays$Pad" "length" "I", .fieldLink RX1 9 "WeldedRelays$Pad" "characters" "[I", .methodLink RX1 15 yX1_lastOf, .static yX1_lastOf, .initialized RX1, .code yX1_lastOf cX1_lastOf 2 (some .int), .constantLong RX1 23 (255)] ++ wsX10)
def wsX1_clear : List Cond := .code yX1_clear cX1_clear 1 none :: ([.fieldLink RX1 25 "WeldedRelays$Pad" "length" "I"] ++ wsX10)
def wsX2_init : List Cond := .code yX2_init cX2_init 1 none :: ([.methodLink RX2 3 objectInit, .instanceMethod objectInit, .code objectInit ⟨#[0xb1]⟩ 1 none])
def wsX2_contactOf : List Cond := .code yX2_contactOf cX2_contactOf 1 (some .int) :: ([.static yX4_isWithin, .initialized RX4, .code yX4_isWithin cX4_isWithin 3 (some .boolean)])
def wsX4_isRelay : List Cond := .code yX4_isRelay cX4_isRelay 1 (some .boolean) :: ([.methodLink RX4 52 yX4_isWithin, .static yX4_isWithin, .initialized RX4, .code yX4_isWithin cX4_isWithin 3 (some .boolean)])
def wsX2_goesTo : List Cond := .code yX2_goesTo cX2_goesTo 2 (some .boolean) :: ([.fieldLink RX2 11 "WeldedRelays$Reader" "place" "I"] ++ wsX20)
def wsX2_takesRelay : List Cond := .code yX2_takesRelay cX2_takesRelay 3 (some .boolean) :: ([.fieldLink RX2 54 "WeldedRelays$Reader" "relay" "I", .methodLink RX2 47 yX2_contactOf, .static yX2_contactOf, .initialized RX2, .code yX2_contactOf cX2_contactOf 1 (some .int), .static yX4_isWithin, .initialized RX4, .code yX4_isWithin cX4_isWithin 3 (some .boolean), .static yX4_isRelay, .code yX4_isRelay cX4_isRelay 1 (some .boolean), .methodLink RX4 52 yX4_isWithin, .methodLink RX2 35 yX2_goesTo, .instanceMethod yX2_goesTo, .selects RX2 yX2_goesTo yX2_goesTo, .code yX2_goesTo cX2_goesTo 2 (some .boolean), .fieldLink RX2 11 "WeldedRelays$Reader" "place" "I"] ++ wsX20)
def wsX3_clearCircuit : List Cond := .code yX3_clearCircuit cX3_clearCircuit 2 none :: ([.fieldLink RX3 24 "WeldedRelays$Room" "branchCounts" "[I"] ++ wsX30)
def wsX2_takesEquals : List Cond := .code yX2_takesEquals cX2_takesEquals 3 (some .boolean) :: ([.fieldLink RX2 54 "WeldedRelays$Reader" "relay" "I", .methodLink RX2 57 yX3_clearCircuit, .instanceMethod yX3_clearCircuit, .selects RX3 yX3_clearCircuit yX3_clearCircuit, .initialized RX3, .code yX3_clearCircuit cX3_clearCircuit 2 none, .fieldLink RX3 24 "WeldedRelays$Room" "branchCounts" "[I", .methodLink RX2 35 yX2_goesTo, .instanceMethod yX2_goesTo, .selects RX2 yX2_goesTo yX2_goesTo, .initialized RX2, .code yX2_goesTo cX2_goesTo 2 (some .boolean), .fieldLink RX2 11 "WeldedRelays$Reader" "place" "I"] ++ wsX20 ++ wsX30)
def wsX3_hasRoomForBranch : List Cond := .code yX3_hasRoomForBranch cX3_hasRoomForBranch 2 (some .boolean) :: ([.fieldLink RX3 24 "WeldedRelays$Room" "branchCounts" "[I"] ++ wsX30)
def wsX4_placeOf : List Cond := .code yX4_placeOf cX4_placeOf 2 (some .int) :: ([])
def wsX3_addBranch : List Cond := .code yX3_addBranch cX3_addBranch 3 none :: ([.fieldLink RX3 24 "WeldedRelays$Room" "branchCounts" "[I", .fieldLink RX3 27 "WeldedRelays$Room" "fronts" "[I", .fieldLink RX3 30 "WeldedRelays$Room" "backs" "[I", .fieldLink RX3 33 "WeldedRelays$Room" "contactCounts" "[I", .methodLink RX3 96 yX3_hasRoomForBranch, .instanceMethod yX3_hasRoomForBranch, .selects RX3 yX3_hasRoomForBranch yX3_hasRoomForBranch, .initialized RX3, .code yX3_hasRoomForBranch cX3_hasRoomForBranch 2 (some .boolean), .static yX4_placeOf, .initialized RX4, .code yX4_placeOf cX4_placeOf 2 (some .int)] ++ wsX30)
def wsX3_addContact : List Cond := .code yX3_addContact cX3_addContact 7 none :: ([.fieldLink RX3 24 "WeldedRelays$Room" "branchCounts" "[I", .fieldLink RX3 30 "WeldedRelays$Room" "backs" "[I", .fieldLink RX3 27 "WeldedRelays$Room" "fronts" "[I", .fieldLink RX3 33 "WeldedRelays$Room" "contactCounts" "[I", .static yX4_placeOf, .initialized RX4, .code yX4_placeOf cX4_placeOf 2 (some .int)] ++ wsX30)
def wsX2_takesContact : List Cond := .code yX2_takesContact cX2_takesContact 5 (some .boolean) :: ([.fieldLink RX2 11 "WeldedRelays$Reader" "place" "I", .fieldLink RX2 54 "WeldedRelays$Reader" "relay" "I", .methodLink RX2 35 yX2_goesTo, .instanceMethod yX2_goesTo, .selects RX2 yX2_goesTo yX2_goesTo, .initialized RX2, .code yX2_goesTo cX2_goesTo 2 (some .boolean), .methodLink RX2 47 yX2_contactOf, .static yX2_contactOf, .code yX2_contactOf cX2_contactOf 1 (some .int), .static yX4_isWithin, .initialized RX4, .code yX4_isWithin cX4_isWithin 3 (some .boolean), .methodLink RX2 72 yX3_addContact, .instanceMethod yX3_addContact, .selects RX3 yX3_addContact yX3_addContact, .initialized RX3, .code yX3_addContact cX3_addContact 7 none, .fieldLink RX3 24 "WeldedRelays$Room" "branchCounts" "[I", .fieldLink RX3 30 "WeldedRelays$Room" "backs" "[I", .fieldLink RX3 27 "WeldedRelays$Room" "fronts" "[I", .fieldLink RX3 33 "WeldedRelays$Room" "contactCounts" "[I", .static yX4_placeOf, .code yX4_placeOf cX4_placeOf 2 (some .int)] ++ wsX20 ++ wsX30)
def wsX2_takesFirstContact_r1 : List Cond := [Cond.fieldLink RX2 54 "WeldedRelays$Reader" "relay" "I", Cond.methodLink RX2 63 yX3_addBranch, Cond.instanceMethod yX3_addBranch, Cond.selects RX3 yX3_addBranch yX3_addBranch, Cond.initialized RX3, Cond.code yX3_addBranch cX3_addBranch 3 none, Cond.fieldLink RX3 24 "WeldedRelays$Room" "branchCounts" "[I", Cond.fieldLink RX3 27 "WeldedRelays$Room" "fronts" "[I", Cond.fieldLink RX3 30 "WeldedRelays$Room" "backs" "[I", Cond.fieldLink RX3 33 "WeldedRelays$Room" "contactCounts" "[I", Cond.methodLink RX3 96 yX3_hasRoomForBranch, Cond.instanceMethod yX3_hasRoomForBranch, Cond.selects RX3 yX3_hasRoomForBranch yX3_hasRoomForBranch, Cond.code yX3_hasRoomForBranch cX3_hasRoomForBranch 2 (some .boolean), Cond.static yX4_placeOf, Cond.initialized RX4, Cond.code yX4_placeOf cX4_placeOf 2 (some .int), Cond.methodLink RX2 41 yX2_takesContact, Cond.instanceMethod yX2_takesContact, Cond.selects RX2 yX2_takesContact yX2_takesContact, Cond.initialized RX2, Cond.code yX2_takesContact cX2_takesContact 5 (some .boolean), Cond.fieldLink RX2 11 "WeldedRelays$Reader" "place" "I", Cond.methodLink RX2 35 yX2_goesTo]
def wsX2_takesFirstContact_r2 : List Cond := [Cond.instanceMethod yX2_goesTo, Cond.selects RX2 yX2_goesTo yX2_goesTo, Cond.code yX2_goesTo cX2_goesTo 2 (some .boolean), Cond.methodLink RX2 47 yX2_contactOf, Cond.static yX2_contactOf, Cond.code yX2_contactOf cX2_contactOf 1 (some .int), Cond.static yX4_isWithin, Cond.code yX4_isWithin cX4_isWithin 3 (some .boolean), Cond.methodLink RX2 72 yX3_addContact, Cond.instanceMethod yX3_addContact, Cond.selects RX3 yX3_addContact yX3_addContact, Cond.code yX3_addContact cX3_addContact 7 none]
def wsX2_takesFirstContact : List Cond := .code yX2_takesFirstContact cX2_takesFirstContact 3 (some .boolean) :: ((wsX2_takesFirstContact_r1 ++ wsX2_takesFirstContact_r2) ++ wsX20 ++ wsX30)
def wsX3_hasRoomForContact : List Cond := .code yX3_hasRoomForContact cX3_hasRoomForContact 3 (some .boolean) :: ([.fieldLink RX3 24 "WeldedRelays$Room" "branchCounts" "[I", .fieldLink RX3 33 "WeldedRelays$Room" "contactCounts" "[I", .static yX4_placeOf, .initialized RX4, .code yX4_placeOf cX4_placeOf 2 (some .int)] ++ wsX30)
def wsX2_takesNextOfBranch_r1 : List Cond := [Cond.fieldLink RX2 54 "WeldedRelays$Reader" "relay" "I", Cond.methodLink RX2 35 yX2_goesTo, Cond.instanceMethod yX2_goesTo, Cond.selects RX2 yX2_goesTo yX2_goesTo, Cond.initialized RX2, Cond.code yX2_goesTo cX2_goesTo 2 (some .boolean), Cond.fieldLink RX2 11 "WeldedRelays$Reader" "place" "I", Cond.methodLink RX2 66 yX3_hasRoomForBranch, Cond.instanceMethod yX3_hasRoomForBranch, Cond.selects RX3 yX3_hasRoomForBranch yX3_hasRoomForBranch, Cond.initialized RX3, Cond.code yX3_hasRoomForBranch cX3_hasRoomForBranch 2 (some .boolean), Cond.fieldLink RX3 24 "WeldedRelays$Room" "branchCounts" "[I", Cond.methodLink RX2 69 yX3_hasRoomForContact, Cond.instanceMethod yX3_hasRoomForContact, Cond.selects RX3 yX3_hasRoomForContact yX3_hasRoomForContact, Cond.code yX3_hasRoomForContact cX3_hasRoomForContact 3 (some .boolean), Cond.fieldLink RX3 33 "WeldedRelays$Room" "contactCounts" "[I", Cond.static yX4_placeOf, Cond.initialized RX4, Cond.code yX4_placeOf cX4_placeOf 2 (some .int), Cond.methodLink RX2 41 yX2_takesContact, Cond.instanceMethod yX2_takesContact, Cond.selects RX2 yX2_takesContact yX2_takesContact]
def wsX2_takesNextOfBranch_r2 : List Cond := [Cond.code yX2_takesContact cX2_takesContact 5 (some .boolean), Cond.methodLink RX2 47 yX2_contactOf, Cond.static yX2_contactOf, Cond.code yX2_contactOf cX2_contactOf 1 (some .int), Cond.static yX4_isWithin, Cond.code yX4_isWithin cX4_isWithin 3 (some .boolean), Cond.methodLink RX2 72 yX3_addContact, Cond.instanceMethod yX3_addContact, Cond.selects RX3 yX3_addContact yX3_addContact, Cond.code yX3_addContact cX3_addContact 7 none, Cond.fieldLink RX3 30 "WeldedRelays$Room" "backs" "[I", Cond.fieldLink RX3 27 "WeldedRelays$Room" "fronts" "[I"]
def wsX2_takesNextOfBranch : List Cond := .code yX2_takesNextOfBranch cX2_takesNextOfBranch 3 (some .boolean) :: ((wsX2_takesNextOfBranch_r1 ++ wsX2_takesNextOfBranch_r2) ++ wsX20 ++ wsX30)
def wsX2_takes_r1 : List Cond := [Cond.fieldLink RX2 11 "WeldedRelays$Reader" "place" "I", Cond.methodLink RX2 28 yX2_takesRelay, Cond.instanceMethod yX2_takesRelay, Cond.selects RX2 yX2_takesRelay yX2_takesRelay, Cond.initialized RX2, Cond.code yX2_takesRelay cX2_takesRelay 3 (some .boolean), Cond.fieldLink RX2 54 "WeldedRelays$Reader" "relay" "I", Cond.methodLink RX2 47 yX2_contactOf, Cond.static yX2_contactOf, Cond.code yX2_contactOf cX2_contactOf 1 (some .int), Cond.static yX4_isWithin, Cond.initialized RX4, Cond.code yX4_isWithin cX4_isWithin 3 (some .boolean), Cond.static yX4_isRelay, Cond.code yX4_isRelay cX4_isRelay 1 (some .boolean), Cond.methodLink RX4 52 yX4_isWithin, Cond.methodLink RX2 35 yX2_goesTo, Cond.instanceMethod yX2_goesTo, Cond.selects RX2 yX2_goesTo yX2_goesTo, Cond.code yX2_goesTo cX2_goesTo 2 (some .boolean), Cond.methodLink RX2 32 yX2_takesEquals, Cond.instanceMethod yX2_takesEquals, Cond.selects RX2 yX2_takesEquals yX2_takesEquals, Cond.code yX2_takesEquals cX2_takesEquals 3 (some .boolean)]
def wsX2_takes_r2 : List Cond := [Cond.methodLink RX2 57 yX3_clearCircuit, Cond.instanceMethod yX3_clearCircuit, Cond.selects RX3 yX3_clearCircuit yX3_clearCircuit, Cond.initialized RX3, Cond.code yX3_clearCircuit cX3_clearCircuit 2 none, Cond.fieldLink RX3 24 "WeldedRelays$Room" "branchCounts" "[I", Cond.methodLink RX2 38 yX2_takesFirstContact, Cond.instanceMethod yX2_takesFirstContact, Cond.selects RX2 yX2_takesFirstContact yX2_takesFirstContact, Cond.code yX2_takesFirstContact cX2_takesFirstContact 3 (some .boolean), Cond.methodLink RX2 63 yX3_addBranch, Cond.instanceMethod yX3_addBranch, Cond.selects RX3 yX3_addBranch yX3_addBranch, Cond.code yX3_addBranch cX3_addBranch 3 none, Cond.fieldLink RX3 27 "WeldedRelays$Room" "fronts" "[I", Cond.fieldLink RX3 30 "WeldedRelays$Room" "backs" "[I", Cond.fieldLink RX3 33 "WeldedRelays$Room" "contactCounts" "[I", Cond.methodLink RX3 96 yX3_hasRoomForBranch, Cond.instanceMethod yX3_hasRoomForBranch, Cond.selects RX3 yX3_hasRoomForBranch yX3_hasRoomForBranch, Cond.code yX3_hasRoomForBranch cX3_hasRoomForBranch 2 (some .boolean), Cond.static yX4_placeOf, Cond.code yX4_placeOf cX4_placeOf 2 (some .int), Cond.methodLink RX2 41 yX2_takesContact]
def wsX2_takes_r3 : List Cond := [Cond.instanceMethod yX2_takesContact, Cond.selects RX2 yX2_takesContact yX2_takesContact, Cond.code yX2_takesContact cX2_takesContact 5 (some .boolean), Cond.methodLink RX2 72 yX3_addContact, Cond.instanceMethod yX3_addContact, Cond.selects RX3 yX3_addContact yX3_addContact, Cond.code yX3_addContact cX3_addContact 7 none, Cond.methodLink RX2 44 yX2_takesNextOfBranch, Cond.instanceMethod yX2_takesNextOfBranch, Cond.selects RX2 yX2_takesNextOfBranch yX2_takesNextOfBranch, Cond.code yX2_takesNextOfBranch cX2_takesNextOfBranch 3 (some .boolean), Cond.methodLink RX2 66 yX3_hasRoomForBranch, Cond.methodLink RX2 69 yX3_hasRoomForContact, Cond.instanceMethod yX3_hasRoomForContact, Cond.selects RX3 yX3_hasRoomForContact yX3_hasRoomForContact, Cond.code yX3_hasRoomForContact cX3_hasRoomForContact 3 (some .boolean)]
def wsX2_takes : List Cond := .code yX2_takes cX2_takes 3 (some .boolean) :: ((wsX2_takes_r1 ++ (wsX2_takes_r2 ++ wsX2_takes_r3)) ++ wsX20 ++ wsX30)
def wsX2_readInto_r1 : List Cond := [Cond.fieldLink RX2 11 "WeldedRelays$Reader" "place" "I", Cond.fieldLink RX2 15 "WeldedRelays$Pad" "length" "I", Cond.fieldLink RX2 20 "WeldedRelays$Pad" "characters" "[I", Cond.methodLink RX2 24 yX2_takes, Cond.instanceMethod yX2_takes, Cond.selects RX2 yX2_takes yX2_takes, Cond.initialized RX2, Cond.code yX2_takes cX2_takes 3 (some .boolean), Cond.methodLink RX2 28 yX2_takesRelay, Cond.instanceMethod yX2_takesRelay, Cond.selects RX2 yX2_takesRelay yX2_takesRelay, Cond.code yX2_takesRelay cX2_takesRelay 3 (some .boolean), Cond.fieldLink RX2 54 "WeldedRelays$Reader" "relay" "I", Cond.methodLink RX2 47 yX2_contactOf, Cond.static yX2_contactOf, Cond.code yX2_contactOf cX2_contactOf 1 (some .int), Cond.static yX4_isWithin, Cond.initialized RX4, Cond.code yX4_isWithin cX4_isWithin 3 (some .boolean), Cond.static yX4_isRelay, Cond.code yX4_isRelay cX4_isRelay 1 (some .boolean), Cond.methodLink RX4 52 yX4_isWithin, Cond.methodLink RX2 35 yX2_goesTo, Cond.instanceMethod yX2_goesTo]
def wsX2_readInto_r2 : List Cond := [Cond.selects RX2 yX2_goesTo yX2_goesTo, Cond.code yX2_goesTo cX2_goesTo 2 (some .boolean), Cond.methodLink RX2 32 yX2_takesEquals, Cond.instanceMethod yX2_takesEquals, Cond.selects RX2 yX2_takesEquals yX2_takesEquals, Cond.code yX2_takesEquals cX2_takesEquals 3 (some .boolean), Cond.methodLink RX2 57 yX3_clearCircuit, Cond.instanceMethod yX3_clearCircuit, Cond.selects RX3 yX3_clearCircuit yX3_clearCircuit, Cond.initialized RX3, Cond.code yX3_clearCircuit cX3_clearCircuit 2 none, Cond.fieldLink RX3 24 "WeldedRelays$Room" "branchCounts" "[I", Cond.methodLink RX2 38 yX2_takesFirstContact, Cond.instanceMethod yX2_takesFirstContact, Cond.selects RX2 yX2_takesFirstContact yX2_takesFirstContact, Cond.code yX2_takesFirstContact cX2_takesFirstContact 3 (some .boolean), Cond.methodLink RX2 63 yX3_addBranch, Cond.instanceMethod yX3_addBranch, Cond.selects RX3 yX3_addBranch yX3_addBranch, Cond.code yX3_addBranch cX3_addBranch 3 none, Cond.fieldLink RX3 27 "WeldedRelays$Room" "fronts" "[I", Cond.fieldLink RX3 30 "WeldedRelays$Room" "backs" "[I", Cond.fieldLink RX3 33 "WeldedRelays$Room" "contactCounts" "[I", Cond.methodLink RX3 96 yX3_hasRoomForBranch]
def wsX2_readInto_r3 : List Cond := [Cond.instanceMethod yX3_hasRoomForBranch, Cond.selects RX3 yX3_hasRoomForBranch yX3_hasRoomForBranch, Cond.code yX3_hasRoomForBranch cX3_hasRoomForBranch 2 (some .boolean), Cond.static yX4_placeOf, Cond.code yX4_placeOf cX4_placeOf 2 (some .int), Cond.methodLink RX2 41 yX2_takesContact, Cond.instanceMethod yX2_takesContact, Cond.selects RX2 yX2_takesContact yX2_takesContact, Cond.code yX2_takesContact cX2_takesContact 5 (some .boolean), Cond.methodLink RX2 72 yX3_addContact, Cond.instanceMethod yX3_addContact, Cond.selects RX3 yX3_addContact yX3_addContact, Cond.code yX3_addContact cX3_addContact 7 none, Cond.methodLink RX2 44 yX2_takesNextOfBranch, Cond.instanceMethod yX2_takesNextOfBranch, Cond.selects RX2 yX2_takesNextOfBranch yX2_takesNextOfBranch, Cond.code yX2_takesNextOfBranch cX2_takesNextOfBranch 3 (some .boolean), Cond.methodLink RX2 66 yX3_hasRoomForBranch, Cond.methodLink RX2 69 yX3_hasRoomForContact, Cond.instanceMethod yX3_hasRoomForContact, Cond.selects RX3 yX3_hasRoomForContact yX3_hasRoomForContact, Cond.code yX3_hasRoomForContact cX3_hasRoomForContact 3 (some .boolean)]
def wsX2_readInto : List Cond := .code yX2_readInto cX2_readInto 4 (some .int) :: ((wsX2_readInto_r1 ++ (wsX2_readInto_r2 ++ wsX2_readInto_r3)) ++ wsX20 ++ wsX10 ++ wsX30)
def wsX3_makeAllTimesOne : List Cond := .code yX3_makeAllTimesOne cX3_makeAllTimesOne 2 none :: ([.fieldLink RX3 9 "WeldedRelays$Room" "pickTimes" "[I", .fieldLink RX3 15 "WeldedRelays$Room" "dropTimes" "[I"] ++ wsX30)
def wsX3_isClosed : List Cond := .code yX3_isClosed cX3_isClosed 3 (some .boolean) :: ([.fieldLink RX3 36 "WeldedRelays$Room" "up" "I", .fieldLink RX3 43 "WeldedRelays$Room" "buttons" "I", .fieldLink RX3 27 "WeldedRelays$Room" "fronts" "[I", .fieldLink RX3 30 "WeldedRelays$Room" "backs" "[I"] ++ wsX30)
def wsX3_isFed : List Cond := .code yX3_isFed cX3_isFed 4 (some .boolean) :: ([.fieldLink RX3 24 "WeldedRelays$Room" "branchCounts" "[I", .static yX4_placeOf, .initialized RX4, .code yX4_placeOf cX4_placeOf 2 (some .int), .methodLink RX3 69 yX3_isClosed, .instanceMethod yX3_isClosed, .selects RX3 yX3_isClosed yX3_isClosed, .initialized RX3, .code yX3_isClosed cX3_isClosed 3 (some .boolean), .fieldLink RX3 36 "WeldedRelays$Room" "up" "I", .fieldLink RX3 43 "WeldedRelays$Room" "buttons" "I", .fieldLink RX3 27 "WeldedRelays$Room" "fronts" "[I", .fieldLink RX3 30 "WeldedRelays$Room" "backs" "[I"] ++ wsX30)
def wsX3_fedRelays : List Cond := .code yX3_fedRelays cX3_fedRelays 3 (some .int) :: ([.methodLink RX3 61 yX3_isFed, .instanceMethod yX3_isFed, .selects RX3 yX3_isFed yX3_isFed, .initialized RX3, .code yX3_isFed cX3_isFed 4 (some .boolean), .fieldLink RX3 24 "WeldedRelays$Room" "branchCounts" "[I", .static yX4_placeOf, .initialized RX4, .code yX4_placeOf cX4_placeOf 2 (some .int), .methodLink RX3 69 yX3_isClosed, .instanceMethod yX3_isClosed, .selects RX3 yX3_isClosed yX3_isClosed, .code yX3_isClosed cX3_isClosed 3 (some .boolean), .fieldLink RX3 36 "WeldedRelays$Room" "up" "I", .fieldLink RX3 43 "WeldedRelays$Room" "buttons" "I", .fieldLink RX3 27 "WeldedRelays$Room" "fronts" "[I", .fieldLink RX3 30 "WeldedRelays$Room" "backs" "[I"] ++ wsX30)
def wsX3_wantingRelays : List Cond := .code yX3_wantingRelays cX3_wantingRelays 1 (some .int) :: ([.fieldLink RX3 36 "WeldedRelays$Room" "up" "I", .fieldLink RX3 40 "WeldedRelays$Room" "welded" "I", .methodLink RX3 72 yX3_fedRelays, .instanceMethod yX3_fedRelays, .selects RX3 yX3_fedRelays yX3_fedRelays, .initialized RX3, .code yX3_fedRelays cX3_fedRelays 3 (some .int), .methodLink RX3 61 yX3_isFed, .instanceMethod yX3_isFed, .selects RX3 yX3_isFed yX3_isFed, .code yX3_isFed cX3_isFed 4 (some .boolean), .fieldLink RX3 24 "WeldedRelays$Room" "branchCounts" "[I", .static yX4_placeOf, .initialized RX4, .code yX4_placeOf cX4_placeOf 2 (some .int), .methodLink RX3 69 yX3_isClosed, .instanceMethod yX3_isClosed, .selects RX3 yX3_isClosed yX3_isClosed, .code yX3_isClosed cX3_isClosed 3 (some .boolean), .fieldLink RX3 43 "WeldedRelays$Room" "buttons" "I", .fieldLink RX3 27 "WeldedRelays$Room" "fronts" "[I", .fieldLink RX3 30 "WeldedRelays$Room" "backs" "[I"] ++ wsX30)
def wsX4_bit : List Cond := .code yX4_bit cX4_bit 2 (some .int) :: ([])
def wsX4_isIn : List Cond := .code yX4_isIn cX4_isIn 2 (some .boolean) :: ([.methodLink RX4 114 yX4_bit, .static yX4_bit, .initialized RX4, .code yX4_bit cX4_bit 2 (some .int)])
def wsX3_wear : List Cond := .code yX3_wear cX3_wear 2 none :: ([.fieldLink RX3 21 "WeldedRelays$Room" "operations" "[I", .fieldLink RX3 46 "WeldedRelays$Room" "life" "I", .fieldLink RX3 40 "WeldedRelays$Room" "welded" "I"] ++ wsX30)
def wsX3_waitOrMove : List Cond := .code yX3_waitOrMove cX3_waitOrMove 3 none :: ([.fieldLink RX3 18 "WeldedRelays$Room" "waits" "[I", .fieldLink RX3 36 "WeldedRelays$Room" "up" "I", .fieldLink RX3 15 "WeldedRelays$Room" "dropTimes" "[I", .fieldLink RX3 9 "WeldedRelays$Room" "pickTimes" "[I", .fieldLink RX3 52 "WeldedRelays$Room" "moves" "I", .static yX4_isIn, .initialized RX4, .code yX4_isIn cX4_isIn 2 (some .boolean), .methodLink RX4 114 yX4_bit, .static yX4_bit, .code yX4_bit cX4_bit 2 (some .int), .methodLink RX3 93 yX3_wear, .instanceMethod yX3_wear, .selects RX3 yX3_wear yX3_wear, .initialized RX3, .code yX3_wear cX3_wear 2 none, .fieldLink RX3 21 "WeldedRelays$Room" "operations" "[I", .fieldLink RX3 46 "WeldedRelays$Room" "life" "I", .fieldLink RX3 40 "WeldedRelays$Room" "welded" "I"] ++ wsX30)
def wsX3_passTick : List Cond := .code yX3_passTick cX3_passTick 3 none :: ([.fieldLink RX3 49 "WeldedRelays$Room" "ticks" "I", .fieldLink RX3 18 "WeldedRelays$Room" "waits" "[I", .static yX4_isIn, .initialized RX4, .code yX4_isIn cX4_isIn 2 (some .boolean), .methodLink RX4 114 yX4_bit, .static yX4_bit, .code yX4_bit cX4_bit 2 (some .int), .methodLink RX3 90 yX3_waitOrMove, .instanceMethod yX3_waitOrMove, .selects RX3 yX3_waitOrMove yX3_waitOrMove, .initialized RX3, .code yX3_waitOrMove cX3_waitOrMove 3 none, .fieldLink RX3 36 "WeldedRelays$Room" "up" "I", .fieldLink RX3 15 "WeldedRelays$Room" "dropTimes" "[I", .fieldLink RX3 9 "WeldedRelays$Room" "pickTimes" "[I", .fieldLink RX3 52 "WeldedRelays$Room" "moves" "I", .methodLink RX3 93 yX3_wear, .instanceMethod yX3_wear, .selects RX3 yX3_wear yX3_wear, .code yX3_wear cX3_wear 2 none, .fieldLink RX3 21 "WeldedRelays$Room" "operations" "[I", .fieldLink RX3 46 "WeldedRelays$Room" "life" "I", .fieldLink RX3 40 "WeldedRelays$Room" "welded" "I"] ++ wsX30)
def wsX3_passTicks_r1 : List Cond := [Cond.methodLink RX3 76 yX3_wantingRelays, Cond.instanceMethod yX3_wantingRelays, Cond.selects RX3 yX3_wantingRelays yX3_wantingRelays, Cond.initialized RX3, Cond.code yX3_wantingRelays cX3_wantingRelays 1 (some .int), Cond.fieldLink RX3 36 "WeldedRelays$Room" "up" "I", Cond.fieldLink RX3 40 "WeldedRelays$Room" "welded" "I", Cond.methodLink RX3 72 yX3_fedRelays, Cond.instanceMethod yX3_fedRelays, Cond.selects RX3 yX3_fedRelays yX3_fedRelays, Cond.code yX3_fedRelays cX3_fedRelays 3 (some .int), Cond.methodLink RX3 61 yX3_isFed, Cond.instanceMethod yX3_isFed, Cond.selects RX3 yX3_isFed yX3_isFed, Cond.code yX3_isFed cX3_isFed 4 (some .boolean), Cond.fieldLink RX3 24 "WeldedRelays$Room" "branchCounts" "[I", Cond.static yX4_placeOf, Cond.initialized RX4, Cond.code yX4_placeOf cX4_placeOf 2 (some .int), Cond.methodLink RX3 69 yX3_isClosed, Cond.instanceMethod yX3_isClosed, Cond.selects RX3 yX3_isClosed yX3_isClosed, Cond.code yX3_isClosed cX3_isClosed 3 (some .boolean), Cond.fieldLink RX3 43 "WeldedRelays$Room" "buttons" "I"]
def wsX3_passTicks_r2 : List Cond := [Cond.fieldLink RX3 27 "WeldedRelays$Room" "fronts" "[I", Cond.fieldLink RX3 30 "WeldedRelays$Room" "backs" "[I", Cond.methodLink RX3 79 yX3_passTick, Cond.instanceMethod yX3_passTick, Cond.selects RX3 yX3_passTick yX3_passTick, Cond.code yX3_passTick cX3_passTick 3 none, Cond.fieldLink RX3 49 "WeldedRelays$Room" "ticks" "I", Cond.fieldLink RX3 18 "WeldedRelays$Room" "waits" "[I", Cond.static yX4_isIn, Cond.code yX4_isIn cX4_isIn 2 (some .boolean), Cond.methodLink RX4 114 yX4_bit, Cond.static yX4_bit, Cond.code yX4_bit cX4_bit 2 (some .int), Cond.methodLink RX3 90 yX3_waitOrMove, Cond.instanceMethod yX3_waitOrMove, Cond.selects RX3 yX3_waitOrMove yX3_waitOrMove, Cond.code yX3_waitOrMove cX3_waitOrMove 3 none, Cond.fieldLink RX3 15 "WeldedRelays$Room" "dropTimes" "[I", Cond.fieldLink RX3 9 "WeldedRelays$Room" "pickTimes" "[I", Cond.fieldLink RX3 52 "WeldedRelays$Room" "moves" "I", Cond.methodLink RX3 93 yX3_wear, Cond.instanceMethod yX3_wear, Cond.selects RX3 yX3_wear yX3_wear, Cond.code yX3_wear cX3_wear 2 none]
def wsX3_passTicks_r3 : List Cond := [Cond.fieldLink RX3 21 "WeldedRelays$Room" "operations" "[I", Cond.fieldLink RX3 46 "WeldedRelays$Room" "life" "I"]
def wsX3_passTicks : List Cond := .code yX3_passTicks cX3_passTicks 3 none :: ((wsX3_passTicks_r1 ++ (wsX3_passTicks_r2 ++ wsX3_passTicks_r3)) ++ wsX30)
def wsX3_ticksUntilRest_r1 : List Cond := [Cond.methodLink RX3 76 yX3_wantingRelays, Cond.instanceMethod yX3_wantingRelays, Cond.selects RX3 yX3_wantingRelays yX3_wantingRelays, Cond.initialized RX3, Cond.code yX3_wantingRelays cX3_wantingRelays 1 (some .int), Cond.fieldLink RX3 36 "WeldedRelays$Room" "up" "I", Cond.fieldLink RX3 40 "WeldedRelays$Room" "welded" "I", Cond.methodLink RX3 72 yX3_fedRelays, Cond.instanceMethod yX3_fedRelays, Cond.selects RX3 yX3_fedRelays yX3_fedRelays, Cond.code yX3_fedRelays cX3_fedRelays 3 (some .int), Cond.methodLink RX3 61 yX3_isFed, Cond.instanceMethod yX3_isFed, Cond.selects RX3 yX3_isFed yX3_isFed, Cond.code yX3_isFed cX3_isFed 4 (some .boolean), Cond.fieldLink RX3 24 "WeldedRelays$Room" "branchCounts" "[I", Cond.static yX4_placeOf, Cond.initialized RX4, Cond.code yX4_placeOf cX4_placeOf 2 (some .int), Cond.methodLink RX3 69 yX3_isClosed, Cond.instanceMethod yX3_isClosed, Cond.selects RX3 yX3_isClosed yX3_isClosed, Cond.code yX3_isClosed cX3_isClosed 3 (some .boolean), Cond.fieldLink RX3 43 "WeldedRelays$Room" "buttons" "I"]
def wsX3_ticksUntilRest_r2 : List Cond := [Cond.fieldLink RX3 27 "WeldedRelays$Room" "fronts" "[I", Cond.fieldLink RX3 30 "WeldedRelays$Room" "backs" "[I", Cond.methodLink RX3 79 yX3_passTick, Cond.instanceMethod yX3_passTick, Cond.selects RX3 yX3_passTick yX3_passTick, Cond.code yX3_passTick cX3_passTick 3 none, Cond.fieldLink RX3 49 "WeldedRelays$Room" "ticks" "I", Cond.fieldLink RX3 18 "WeldedRelays$Room" "waits" "[I", Cond.static yX4_isIn, Cond.code yX4_isIn cX4_isIn 2 (some .boolean), Cond.methodLink RX4 114 yX4_bit, Cond.static yX4_bit, Cond.code yX4_bit cX4_bit 2 (some .int), Cond.methodLink RX3 90 yX3_waitOrMove, Cond.instanceMethod yX3_waitOrMove, Cond.selects RX3 yX3_waitOrMove yX3_waitOrMove, Cond.code yX3_waitOrMove cX3_waitOrMove 3 none, Cond.fieldLink RX3 15 "WeldedRelays$Room" "dropTimes" "[I", Cond.fieldLink RX3 9 "WeldedRelays$Room" "pickTimes" "[I", Cond.fieldLink RX3 52 "WeldedRelays$Room" "moves" "I", Cond.methodLink RX3 93 yX3_wear, Cond.instanceMethod yX3_wear, Cond.selects RX3 yX3_wear yX3_wear, Cond.code yX3_wear cX3_wear 2 none]
def wsX3_ticksUntilRest_r3 : List Cond := [Cond.fieldLink RX3 21 "WeldedRelays$Room" "operations" "[I", Cond.fieldLink RX3 46 "WeldedRelays$Room" "life" "I"]
def wsX3_ticksUntilRest : List Cond := .code yX3_ticksUntilRest cX3_ticksUntilRest 3 (some .int) :: ((wsX3_ticksUntilRest_r1 ++ (wsX3_ticksUntilRest_r2 ++ wsX3_ticksUntilRest_r3)) ++ wsX30)
def wsX3_upAtRest_r1 : List Cond := [Cond.fieldLink RX3 36 "WeldedRelays$Room" "up" "I", Cond.methodLink RX3 83 yX3_ticksUntilRest, Cond.instanceMethod yX3_ticksUntilRest, Cond.selects RX3 yX3_ticksUntilRest yX3_ticksUntilRest, Cond.initialized RX3, Cond.code yX3_ticksUntilRest cX3_ticksUntilRest 3 (some .int), Cond.methodLink RX3 76 yX3_wantingRelays, Cond.instanceMethod yX3_wantingRelays, Cond.selects RX3 yX3_wantingRelays yX3_wantingRelays, Cond.code yX3_wantingRelays cX3_wantingRelays 1 (some .int), Cond.fieldLink RX3 40 "WeldedRelays$Room" "welded" "I", Cond.methodLink RX3 72 yX3_fedRelays, Cond.instanceMethod yX3_fedRelays, Cond.selects RX3 yX3_fedRelays yX3_fedRelays, Cond.code yX3_fedRelays cX3_fedRelays 3 (some .int), Cond.methodLink RX3 61 yX3_isFed, Cond.instanceMethod yX3_isFed, Cond.selects RX3 yX3_isFed yX3_isFed, Cond.code yX3_isFed cX3_isFed 4 (some .boolean), Cond.fieldLink RX3 24 "WeldedRelays$Room" "branchCounts" "[I", Cond.static yX4_placeOf, Cond.initialized RX4, Cond.code yX4_placeOf cX4_placeOf 2 (some .int), Cond.methodLink RX3 69 yX3_isClosed]
def wsX3_upAtRest_r2 : List Cond := [Cond.instanceMethod yX3_isClosed, Cond.selects RX3 yX3_isClosed yX3_isClosed, Cond.code yX3_isClosed cX3_isClosed 3 (some .boolean), Cond.fieldLink RX3 43 "WeldedRelays$Room" "buttons" "I", Cond.fieldLink RX3 27 "WeldedRelays$Room" "fronts" "[I", Cond.fieldLink RX3 30 "WeldedRelays$Room" "backs" "[I", Cond.methodLink RX3 79 yX3_passTick, Cond.instanceMethod yX3_passTick, Cond.selects RX3 yX3_passTick yX3_passTick, Cond.code yX3_passTick cX3_passTick 3 none, Cond.fieldLink RX3 49 "WeldedRelays$Room" "ticks" "I", Cond.fieldLink RX3 18 "WeldedRelays$Room" "waits" "[I", Cond.static yX4_isIn, Cond.code yX4_isIn cX4_isIn 2 (some .boolean), Cond.methodLink RX4 114 yX4_bit, Cond.static yX4_bit, Cond.code yX4_bit cX4_bit 2 (some .int), Cond.methodLink RX3 90 yX3_waitOrMove, Cond.instanceMethod yX3_waitOrMove, Cond.selects RX3 yX3_waitOrMove yX3_waitOrMove, Cond.code yX3_waitOrMove cX3_waitOrMove 3 none, Cond.fieldLink RX3 15 "WeldedRelays$Room" "dropTimes" "[I", Cond.fieldLink RX3 9 "WeldedRelays$Room" "pickTimes" "[I", Cond.fieldLink RX3 52 "WeldedRelays$Room" "moves" "I"]
def wsX3_upAtRest_r3 : List Cond := [Cond.methodLink RX3 93 yX3_wear, Cond.instanceMethod yX3_wear, Cond.selects RX3 yX3_wear yX3_wear, Cond.code yX3_wear cX3_wear 2 none, Cond.fieldLink RX3 21 "WeldedRelays$Room" "operations" "[I", Cond.fieldLink RX3 46 "WeldedRelays$Room" "life" "I"]
def wsX3_upAtRest : List Cond := .code yX3_upAtRest cX3_upAtRest 1 (some .int) :: ((wsX3_upAtRest_r1 ++ (wsX3_upAtRest_r2 ++ wsX3_upAtRest_r3)) ++ wsX30)
def wsX3_relaysWithBranches : List Cond := .code yX3_relaysWithBranches cX3_relaysWithBranches 3 (some .int) :: ([.fieldLink RX3 24 "WeldedRelays$Room" "branchCounts" "[I"] ++ wsX30)
def wsX3_contactsOfCircuit : List Cond := .code yX3_contactsOfCircuit cX3_contactsOfCircuit 6 (some .int) :: ([.fieldLink RX3 24 "WeldedRelays$Room" "branchCounts" "[I", .static yX4_placeOf, .initialized RX4, .code yX4_placeOf cX4_placeOf 2 (some .int)] ++ wsX30)
def wsX3_frontsOfCircuit : List Cond := .code yX3_frontsOfCircuit cX3_frontsOfCircuit 2 (some .int) :: ([.fieldLink RX3 27 "WeldedRelays$Room" "fronts" "[I", .methodLink RX3 106 yX3_contactsOfCircuit, .instanceMethod yX3_contactsOfCircuit, .selects RX3 yX3_contactsOfCircuit yX3_contactsOfCircuit, .initialized RX3, .code yX3_contactsOfCircuit cX3_contactsOfCircuit 6 (some .int), .fieldLink RX3 24 "WeldedRelays$Room" "branchCounts" "[I", .static yX4_placeOf, .initialized RX4, .code yX4_placeOf cX4_placeOf 2 (some .int)] ++ wsX30)
def wsX3_backsOfCircuit : List Cond := .code yX3_backsOfCircuit cX3_backsOfCircuit 2 (some .int) :: ([.fieldLink RX3 30 "WeldedRelays$Room" "backs" "[I", .methodLink RX3 106 yX3_contactsOfCircuit, .instanceMethod yX3_contactsOfCircuit, .selects RX3 yX3_contactsOfCircuit yX3_contactsOfCircuit, .initialized RX3, .code yX3_contactsOfCircuit cX3_contactsOfCircuit 6 (some .int), .fieldLink RX3 24 "WeldedRelays$Room" "branchCounts" "[I", .static yX4_placeOf, .initialized RX4, .code yX4_placeOf cX4_placeOf 2 (some .int)] ++ wsX30)
def wsX3_relaysWithContactOf : List Cond := .code yX3_relaysWithContactOf cX3_relaysWithContactOf 4 (some .int) :: ([.methodLink RX3 99 yX3_frontsOfCircuit, .instanceMethod yX3_frontsOfCircuit, .selects RX3 yX3_frontsOfCircuit yX3_frontsOfCircuit, .initialized RX3, .code yX3_frontsOfCircuit cX3_frontsOfCircuit 2 (some .int), .fieldLink RX3 27 "WeldedRelays$Room" "fronts" "[I", .methodLink RX3 106 yX3_contactsOfCircuit, .instanceMethod yX3_contactsOfCircuit, .selects RX3 yX3_contactsOfCircuit yX3_contactsOfCircuit, .code yX3_contactsOfCircuit cX3_contactsOfCircuit 6 (some .int), .fieldLink RX3 24 "WeldedRelays$Room" "branchCounts" "[I", .static yX4_placeOf, .initialized RX4, .code yX4_placeOf cX4_placeOf 2 (some .int), .methodLink RX3 103 yX3_backsOfCircuit, .instanceMethod yX3_backsOfCircuit, .selects RX3 yX3_backsOfCircuit yX3_backsOfCircuit, .code yX3_backsOfCircuit cX3_backsOfCircuit 2 (some .int), .fieldLink RX3 30 "WeldedRelays$Room" "backs" "[I", .static yX4_isIn, .code yX4_isIn cX4_isIn 2 (some .boolean), .methodLink RX4 114 yX4_bit, .static yX4_bit, .code yX4_bit cX4_bit 2 (some .int)] ++ wsX30)
def wsX3_neverClosedBranches : List Cond := .code yX3_neverClosedBranches cX3_neverClosedBranches 5 (some .int) :: ([.fieldLink RX3 24 "WeldedRelays$Room" "branchCounts" "[I", .fieldLink RX3 27 "WeldedRelays$Room" "fronts" "[I", .fieldLink RX3 30 "WeldedRelays$Room" "backs" "[I", .static yX4_placeOf, .initialized RX4, .code yX4_placeOf cX4_placeOf 2 (some .int)] ++ wsX30)
def wsX4_init_r1 : List Cond := [Cond.methodLink RX4 3 objectInit, Cond.instanceMethod objectInit, Cond.code objectInit ⟨#[0xb1]⟩ 1 none, Cond.classLink RX4 9 RX3, Cond.instantiable RX3 14, Cond.initialized RX3, Cond.fieldLink RX4 12 "WeldedRelays" "room" "LWeldedRelays$Room;", Cond.fieldLink RX4 16 "WeldedRelays" "trial" "LWeldedRelays$Room;", Cond.classLink RX4 19 RX1, Cond.instantiable RX1 2, Cond.initialized RX1, Cond.fieldLink RX4 22 "WeldedRelays" "pad" "LWeldedRelays$Pad;", Cond.classLink RX4 26 RX2, Cond.instantiable RX2 2, Cond.initialized RX2, Cond.fieldLink RX4 29 "WeldedRelays" "reader" "LWeldedRelays$Reader;", Cond.classLink RX4 33 RX0, Cond.instantiable RX0 3, Cond.initialized RX0, Cond.fieldLink RX4 36 "WeldedRelays" "history" "LWeldedRelays$History;", Cond.fieldLink RX4 40 "WeldedRelays" "slots" "[LWeldedRelays$Room;", Cond.arrayClass .boolean, Cond.fieldLink RX4 44 "WeldedRelays" "isSaved" "[Z", Cond.methodLink RX4 11 yX3_init]
def wsX4_init_r2 : List Cond := [Cond.instanceMethod yX3_init, Cond.code yX3_init cX3_init 2 none, Cond.methodLink RX3 3 objectInit, Cond.arrayClass .int, Cond.fieldLink RX3 9 "WeldedRelays$Room" "pickTimes" "[I", Cond.fieldLink RX3 15 "WeldedRelays$Room" "dropTimes" "[I", Cond.fieldLink RX3 18 "WeldedRelays$Room" "waits" "[I", Cond.fieldLink RX3 21 "WeldedRelays$Room" "operations" "[I", Cond.fieldLink RX3 24 "WeldedRelays$Room" "branchCounts" "[I", Cond.fieldLink RX3 27 "WeldedRelays$Room" "fronts" "[I", Cond.fieldLink RX3 30 "WeldedRelays$Room" "backs" "[I", Cond.fieldLink RX3 33 "WeldedRelays$Room" "contactCounts" "[I", Cond.instanceMethod yX1_init, Cond.code yX1_init cX1_init 1 none, Cond.methodLink RX1 3 objectInit, Cond.fieldLink RX1 9 "WeldedRelays$Pad" "characters" "[I", Cond.instanceMethod yX2_init, Cond.code yX2_init cX2_init 1 none, Cond.methodLink RX2 3 objectInit, Cond.methodLink RX4 35 yX0_init, Cond.instanceMethod yX0_init, Cond.code yX0_init cX0_init 2 none, Cond.methodLink RX0 3 objectInit, Cond.classLink RX0 9 RX3]
def wsX4_init_r3 : List Cond := [Cond.fieldLink RX0 11 "WeldedRelays$History" "states" "[LWeldedRelays$Room;", Cond.methodLink RX0 17 yX3_init]
def wsX4_init : List Cond := .code yX4_init cX4_init 2 none :: ((wsX4_init_r1 ++ (wsX4_init_r2 ++ wsX4_init_r3)) ++ wsX30 ++ wsX40 ++ wsX10 ++ wsX20 ++ wsX00)
def wsX4_time_r1 : List Cond := [Cond.fieldLink RX4 36 "WeldedRelays" "history" "LWeldedRelays$History;", Cond.fieldLink RX4 12 "WeldedRelays" "room" "LWeldedRelays$Room;", Cond.fieldLink RX4 60 "WeldedRelays$Room" "dropTimes" "[I", Cond.fieldLink RX4 64 "WeldedRelays$Room" "pickTimes" "[I", Cond.methodLink RX4 48 yX4_isRelay, Cond.static yX4_isRelay, Cond.initialized RX4, Cond.code yX4_isRelay cX4_isRelay 1 (some .boolean), Cond.methodLink RX4 52 yX4_isWithin, Cond.static yX4_isWithin, Cond.code yX4_isWithin cX4_isWithin 3 (some .boolean), Cond.methodLink RX4 56 yX0_record, Cond.instanceMethod yX0_record, Cond.selects RX0 yX0_record yX0_record, Cond.initialized RX0, Cond.code yX0_record cX0_record 2 none, Cond.fieldLink RX0 11 "WeldedRelays$History" "states" "[LWeldedRelays$Room;", Cond.fieldLink RX0 18 "WeldedRelays$History" "oldest" "I", Cond.fieldLink RX0 22 "WeldedRelays$History" "size" "I", Cond.methodLink RX0 25 yX3_copyFrom, Cond.instanceMethod yX3_copyFrom, Cond.selects RX3 yX3_copyFrom yX3_copyFrom, Cond.initialized RX3, Cond.code yX3_copyFrom cX3_copyFrom 2 none]
def wsX4_time_r2 : List Cond := [Cond.fieldLink RX3 36 "WeldedRelays$Room" "up" "I", Cond.fieldLink RX3 40 "WeldedRelays$Room" "welded" "I", Cond.fieldLink RX3 43 "WeldedRelays$Room" "buttons" "I", Cond.fieldLink RX3 46 "WeldedRelays$Room" "life" "I", Cond.fieldLink RX3 49 "WeldedRelays$Room" "ticks" "I", Cond.fieldLink RX3 52 "WeldedRelays$Room" "moves" "I", Cond.fieldLink RX3 9 "WeldedRelays$Room" "pickTimes" "[I", Cond.methodLink RX3 55 arraycopyName, Cond.native arraycopyName, Cond.static arraycopyName, Cond.initialized "java/lang/System", Cond.fieldLink RX3 15 "WeldedRelays$Room" "dropTimes" "[I", Cond.fieldLink RX3 18 "WeldedRelays$Room" "waits" "[I", Cond.fieldLink RX3 21 "WeldedRelays$Room" "operations" "[I", Cond.fieldLink RX3 24 "WeldedRelays$Room" "branchCounts" "[I", Cond.fieldLink RX3 27 "WeldedRelays$Room" "fronts" "[I", Cond.fieldLink RX3 30 "WeldedRelays$Room" "backs" "[I", Cond.fieldLink RX3 33 "WeldedRelays$Room" "contactCounts" "[I"]
def wsX4_time : List Cond := .code yX4_time cX4_time 6 (some .int) :: ((wsX4_time_r1 ++ wsX4_time_r2) ++ wsX40 ++ wsX30 ++ wsX00)
def wsX4_life_r1 : List Cond := [Cond.fieldLink RX4 36 "WeldedRelays" "history" "LWeldedRelays$History;", Cond.fieldLink RX4 12 "WeldedRelays" "room" "LWeldedRelays$Room;", Cond.fieldLink RX4 67 "WeldedRelays$Room" "life" "I", Cond.methodLink RX4 52 yX4_isWithin, Cond.static yX4_isWithin, Cond.initialized RX4, Cond.code yX4_isWithin cX4_isWithin 3 (some .boolean), Cond.methodLink RX4 56 yX0_record, Cond.instanceMethod yX0_record, Cond.selects RX0 yX0_record yX0_record, Cond.initialized RX0, Cond.code yX0_record cX0_record 2 none, Cond.fieldLink RX0 11 "WeldedRelays$History" "states" "[LWeldedRelays$Room;", Cond.fieldLink RX0 18 "WeldedRelays$History" "oldest" "I", Cond.fieldLink RX0 22 "WeldedRelays$History" "size" "I", Cond.methodLink RX0 25 yX3_copyFrom, Cond.instanceMethod yX3_copyFrom, Cond.selects RX3 yX3_copyFrom yX3_copyFrom, Cond.initialized RX3, Cond.code yX3_copyFrom cX3_copyFrom 2 none, Cond.fieldLink RX3 36 "WeldedRelays$Room" "up" "I", Cond.fieldLink RX3 40 "WeldedRelays$Room" "welded" "I", Cond.fieldLink RX3 43 "WeldedRelays$Room" "buttons" "I", Cond.fieldLink RX3 46 "WeldedRelays$Room" "life" "I"]
def wsX4_life_r2 : List Cond := [Cond.fieldLink RX3 49 "WeldedRelays$Room" "ticks" "I", Cond.fieldLink RX3 52 "WeldedRelays$Room" "moves" "I", Cond.fieldLink RX3 9 "WeldedRelays$Room" "pickTimes" "[I", Cond.methodLink RX3 55 arraycopyName, Cond.native arraycopyName, Cond.static arraycopyName, Cond.initialized "java/lang/System", Cond.fieldLink RX3 15 "WeldedRelays$Room" "dropTimes" "[I", Cond.fieldLink RX3 18 "WeldedRelays$Room" "waits" "[I", Cond.fieldLink RX3 21 "WeldedRelays$Room" "operations" "[I", Cond.fieldLink RX3 24 "WeldedRelays$Room" "branchCounts" "[I", Cond.fieldLink RX3 27 "WeldedRelays$Room" "fronts" "[I", Cond.fieldLink RX3 30 "WeldedRelays$Room" "backs" "[I", Cond.fieldLink RX3 33 "WeldedRelays$Room" "contactCounts" "[I"]
def wsX4_life : List Cond := .code yX4_life cX4_life 3 (some .int) :: ((wsX4_life_r1 ++ wsX4_life_r2) ++ wsX40 ++ wsX30 ++ wsX00)
def wsX4_read_r1 : List Cond := [Cond.fieldLink RX4 16 "WeldedRelays" "trial" "LWeldedRelays$Room;", Cond.fieldLink RX4 12 "WeldedRelays" "room" "LWeldedRelays$Room;", Cond.fieldLink RX4 29 "WeldedRelays" "reader" "LWeldedRelays$Reader;", Cond.fieldLink RX4 22 "WeldedRelays" "pad" "LWeldedRelays$Pad;", Cond.fieldLink RX4 36 "WeldedRelays" "history" "LWeldedRelays$History;", Cond.methodLink RX4 71 yX3_copyFrom, Cond.instanceMethod yX3_copyFrom, Cond.selects RX3 yX3_copyFrom yX3_copyFrom, Cond.initialized RX3, Cond.code yX3_copyFrom cX3_copyFrom 2 none, Cond.fieldLink RX3 36 "WeldedRelays$Room" "up" "I", Cond.fieldLink RX3 40 "WeldedRelays$Room" "welded" "I", Cond.fieldLink RX3 43 "WeldedRelays$Room" "buttons" "I", Cond.fieldLink RX3 46 "WeldedRelays$Room" "life" "I", Cond.fieldLink RX3 49 "WeldedRelays$Room" "ticks" "I", Cond.fieldLink RX3 52 "WeldedRelays$Room" "moves" "I", Cond.fieldLink RX3 9 "WeldedRelays$Room" "pickTimes" "[I", Cond.methodLink RX3 55 arraycopyName, Cond.native arraycopyName, Cond.static arraycopyName, Cond.initialized "java/lang/System", Cond.fieldLink RX3 15 "WeldedRelays$Room" "dropTimes" "[I", Cond.fieldLink RX3 18 "WeldedRelays$Room" "waits" "[I", Cond.fieldLink RX3 21 "WeldedRelays$Room" "operations" "[I"]
def wsX4_read_r2 : List Cond := [Cond.fieldLink RX3 24 "WeldedRelays$Room" "branchCounts" "[I", Cond.fieldLink RX3 27 "WeldedRelays$Room" "fronts" "[I", Cond.fieldLink RX3 30 "WeldedRelays$Room" "backs" "[I", Cond.fieldLink RX3 33 "WeldedRelays$Room" "contactCounts" "[I", Cond.methodLink RX4 74 yX2_readInto, Cond.instanceMethod yX2_readInto, Cond.selects RX2 yX2_readInto yX2_readInto, Cond.initialized RX2, Cond.code yX2_readInto cX2_readInto 4 (some .int), Cond.fieldLink RX2 11 "WeldedRelays$Reader" "place" "I", Cond.fieldLink RX2 15 "WeldedRelays$Pad" "length" "I", Cond.fieldLink RX2 20 "WeldedRelays$Pad" "characters" "[I", Cond.methodLink RX2 24 yX2_takes, Cond.instanceMethod yX2_takes, Cond.selects RX2 yX2_takes yX2_takes, Cond.code yX2_takes cX2_takes 3 (some .boolean), Cond.methodLink RX2 28 yX2_takesRelay, Cond.instanceMethod yX2_takesRelay, Cond.selects RX2 yX2_takesRelay yX2_takesRelay, Cond.code yX2_takesRelay cX2_takesRelay 3 (some .boolean), Cond.fieldLink RX2 54 "WeldedRelays$Reader" "relay" "I", Cond.methodLink RX2 47 yX2_contactOf, Cond.static yX2_contactOf, Cond.code yX2_contactOf cX2_contactOf 1 (some .int)]
def wsX4_read_r3 : List Cond := [Cond.static yX4_isWithin, Cond.initialized RX4, Cond.code yX4_isWithin cX4_isWithin 3 (some .boolean), Cond.static yX4_isRelay, Cond.code yX4_isRelay cX4_isRelay 1 (some .boolean), Cond.methodLink RX4 52 yX4_isWithin, Cond.methodLink RX2 35 yX2_goesTo, Cond.instanceMethod yX2_goesTo, Cond.selects RX2 yX2_goesTo yX2_goesTo, Cond.code yX2_goesTo cX2_goesTo 2 (some .boolean), Cond.methodLink RX2 32 yX2_takesEquals, Cond.instanceMethod yX2_takesEquals, Cond.selects RX2 yX2_takesEquals yX2_takesEquals, Cond.code yX2_takesEquals cX2_takesEquals 3 (some .boolean), Cond.methodLink RX2 57 yX3_clearCircuit, Cond.instanceMethod yX3_clearCircuit, Cond.selects RX3 yX3_clearCircuit yX3_clearCircuit, Cond.code yX3_clearCircuit cX3_clearCircuit 2 none, Cond.methodLink RX2 38 yX2_takesFirstContact, Cond.instanceMethod yX2_takesFirstContact, Cond.selects RX2 yX2_takesFirstContact yX2_takesFirstContact, Cond.code yX2_takesFirstContact cX2_takesFirstContact 3 (some .boolean), Cond.methodLink RX2 63 yX3_addBranch, Cond.instanceMethod yX3_addBranch]
def wsX4_read_r4 : List Cond := [Cond.selects RX3 yX3_addBranch yX3_addBranch, Cond.code yX3_addBranch cX3_addBranch 3 none, Cond.methodLink RX3 96 yX3_hasRoomForBranch, Cond.instanceMethod yX3_hasRoomForBranch, Cond.selects RX3 yX3_hasRoomForBranch yX3_hasRoomForBranch, Cond.code yX3_hasRoomForBranch cX3_hasRoomForBranch 2 (some .boolean), Cond.static yX4_placeOf, Cond.code yX4_placeOf cX4_placeOf 2 (some .int), Cond.methodLink RX2 41 yX2_takesContact, Cond.instanceMethod yX2_takesContact, Cond.selects RX2 yX2_takesContact yX2_takesContact, Cond.code yX2_takesContact cX2_takesContact 5 (some .boolean), Cond.methodLink RX2 72 yX3_addContact, Cond.instanceMethod yX3_addContact, Cond.selects RX3 yX3_addContact yX3_addContact, Cond.code yX3_addContact cX3_addContact 7 none, Cond.methodLink RX2 44 yX2_takesNextOfBranch, Cond.instanceMethod yX2_takesNextOfBranch, Cond.selects RX2 yX2_takesNextOfBranch yX2_takesNextOfBranch, Cond.code yX2_takesNextOfBranch cX2_takesNextOfBranch 3 (some .boolean), Cond.methodLink RX2 66 yX3_hasRoomForBranch, Cond.methodLink RX2 69 yX3_hasRoomForContact, Cond.instanceMethod yX3_hasRoomForContact, Cond.selects RX3 yX3_hasRoomForContact yX3_hasRoomForContact]
def wsX4_read_r5 : List Cond := [Cond.code yX3_hasRoomForContact cX3_hasRoomForContact 3 (some .boolean), Cond.methodLink RX4 56 yX0_record, Cond.instanceMethod yX0_record, Cond.selects RX0 yX0_record yX0_record, Cond.initialized RX0, Cond.code yX0_record cX0_record 2 none, Cond.fieldLink RX0 11 "WeldedRelays$History" "states" "[LWeldedRelays$Room;", Cond.fieldLink RX0 18 "WeldedRelays$History" "oldest" "I", Cond.fieldLink RX0 22 "WeldedRelays$History" "size" "I", Cond.methodLink RX0 25 yX3_copyFrom, Cond.methodLink RX4 78 yX1_clear, Cond.instanceMethod yX1_clear, Cond.selects RX1 yX1_clear yX1_clear, Cond.initialized RX1, Cond.code yX1_clear cX1_clear 1 none, Cond.fieldLink RX1 25 "WeldedRelays$Pad" "length" "I", Cond.methodLink RX4 81 yX3_relaysWithBranches, Cond.instanceMethod yX3_relaysWithBranches, Cond.selects RX3 yX3_relaysWithBranches yX3_relaysWithBranches, Cond.code yX3_relaysWithBranches cX3_relaysWithBranches 3 (some .int)]
def wsX4_read : List Cond := .code yX4_read cX4_read 1 (some .int) :: ((wsX4_read_r1 ++ (wsX4_read_r2 ++ (wsX4_read_r3 ++ (wsX4_read_r4 ++ wsX4_read_r5)))) ++ wsX40 ++ wsX30 ++ wsX20 ++ wsX10 ++ wsX00)
def wsX4_press_r1 : List Cond := [Cond.fieldLink RX4 12 "WeldedRelays" "room" "LWeldedRelays$Room;", Cond.fieldLink RX4 85 "WeldedRelays$Room" "buttons" "I", Cond.fieldLink RX4 36 "WeldedRelays" "history" "LWeldedRelays$History;", Cond.methodLink RX4 52 yX4_isWithin, Cond.static yX4_isWithin, Cond.initialized RX4, Cond.code yX4_isWithin cX4_isWithin 3 (some .boolean), Cond.methodLink RX4 88 yX4_isIn, Cond.static yX4_isIn, Cond.code yX4_isIn cX4_isIn 2 (some .boolean), Cond.methodLink RX4 114 yX4_bit, Cond.static yX4_bit, Cond.code yX4_bit cX4_bit 2 (some .int), Cond.methodLink RX4 56 yX0_record, Cond.instanceMethod yX0_record, Cond.selects RX0 yX0_record yX0_record, Cond.initialized RX0, Cond.code yX0_record cX0_record 2 none, Cond.fieldLink RX0 11 "WeldedRelays$History" "states" "[LWeldedRelays$Room;", Cond.fieldLink RX0 18 "WeldedRelays$History" "oldest" "I", Cond.fieldLink RX0 22 "WeldedRelays$History" "size" "I", Cond.methodLink RX0 25 yX3_copyFrom, Cond.instanceMethod yX3_copyFrom, Cond.selects RX3 yX3_copyFrom yX3_copyFrom]
def wsX4_press_r2 : List Cond := [Cond.initialized RX3, Cond.code yX3_copyFrom cX3_copyFrom 2 none, Cond.fieldLink RX3 36 "WeldedRelays$Room" "up" "I", Cond.fieldLink RX3 40 "WeldedRelays$Room" "welded" "I", Cond.fieldLink RX3 43 "WeldedRelays$Room" "buttons" "I", Cond.fieldLink RX3 46 "WeldedRelays$Room" "life" "I", Cond.fieldLink RX3 49 "WeldedRelays$Room" "ticks" "I", Cond.fieldLink RX3 52 "WeldedRelays$Room" "moves" "I", Cond.fieldLink RX3 9 "WeldedRelays$Room" "pickTimes" "[I", Cond.methodLink RX3 55 arraycopyName, Cond.native arraycopyName, Cond.static arraycopyName, Cond.initialized "java/lang/System", Cond.fieldLink RX3 15 "WeldedRelays$Room" "dropTimes" "[I", Cond.fieldLink RX3 18 "WeldedRelays$Room" "waits" "[I", Cond.fieldLink RX3 21 "WeldedRelays$Room" "operations" "[I", Cond.fieldLink RX3 24 "WeldedRelays$Room" "branchCounts" "[I", Cond.fieldLink RX3 27 "WeldedRelays$Room" "fronts" "[I", Cond.fieldLink RX3 30 "WeldedRelays$Room" "backs" "[I", Cond.fieldLink RX3 33 "WeldedRelays$Room" "contactCounts" "[I", Cond.methodLink RX4 92 yX3_wantingRelays, Cond.instanceMethod yX3_wantingRelays, Cond.selects RX3 yX3_wantingRelays yX3_wantingRelays, Cond.code yX3_wantingRelays cX3_wantingRelays 1 (some .int)]
def wsX4_press_r3 : List Cond := [Cond.methodLink RX3 72 yX3_fedRelays, Cond.instanceMethod yX3_fedRelays, Cond.selects RX3 yX3_fedRelays yX3_fedRelays, Cond.code yX3_fedRelays cX3_fedRelays 3 (some .int), Cond.methodLink RX3 61 yX3_isFed, Cond.instanceMethod yX3_isFed, Cond.selects RX3 yX3_isFed yX3_isFed, Cond.code yX3_isFed cX3_isFed 4 (some .boolean), Cond.static yX4_placeOf, Cond.code yX4_placeOf cX4_placeOf 2 (some .int), Cond.methodLink RX3 69 yX3_isClosed, Cond.instanceMethod yX3_isClosed, Cond.selects RX3 yX3_isClosed yX3_isClosed, Cond.code yX3_isClosed cX3_isClosed 3 (some .boolean)]
def wsX4_press : List Cond := .code yX4_press cX4_press 3 (some .int) :: ((wsX4_press_r1 ++ (wsX4_press_r2 ++ wsX4_press_r3)) ++ wsX40 ++ wsX30 ++ wsX00)
def wsX4_weld_r1 : List Cond := [Cond.fieldLink RX4 12 "WeldedRelays" "room" "LWeldedRelays$Room;", Cond.fieldLink RX4 95 "WeldedRelays$Room" "up" "I", Cond.fieldLink RX4 98 "WeldedRelays$Room" "welded" "I", Cond.fieldLink RX4 36 "WeldedRelays" "history" "LWeldedRelays$History;", Cond.fieldLink RX4 101 "WeldedRelays$Room" "operations" "[I", Cond.methodLink RX4 48 yX4_isRelay, Cond.static yX4_isRelay, Cond.initialized RX4, Cond.code yX4_isRelay cX4_isRelay 1 (some .boolean), Cond.methodLink RX4 52 yX4_isWithin, Cond.static yX4_isWithin, Cond.code yX4_isWithin cX4_isWithin 3 (some .boolean), Cond.methodLink RX4 88 yX4_isIn, Cond.static yX4_isIn, Cond.code yX4_isIn cX4_isIn 2 (some .boolean), Cond.methodLink RX4 114 yX4_bit, Cond.static yX4_bit, Cond.code yX4_bit cX4_bit 2 (some .int), Cond.methodLink RX4 56 yX0_record, Cond.instanceMethod yX0_record, Cond.selects RX0 yX0_record yX0_record, Cond.initialized RX0, Cond.code yX0_record cX0_record 2 none, Cond.fieldLink RX0 11 "WeldedRelays$History" "states" "[LWeldedRelays$Room;"]
def wsX4_weld_r2 : List Cond := [Cond.fieldLink RX0 18 "WeldedRelays$History" "oldest" "I", Cond.fieldLink RX0 22 "WeldedRelays$History" "size" "I", Cond.methodLink RX0 25 yX3_copyFrom, Cond.instanceMethod yX3_copyFrom, Cond.selects RX3 yX3_copyFrom yX3_copyFrom, Cond.initialized RX3, Cond.code yX3_copyFrom cX3_copyFrom 2 none, Cond.fieldLink RX3 36 "WeldedRelays$Room" "up" "I", Cond.fieldLink RX3 40 "WeldedRelays$Room" "welded" "I", Cond.fieldLink RX3 43 "WeldedRelays$Room" "buttons" "I", Cond.fieldLink RX3 46 "WeldedRelays$Room" "life" "I", Cond.fieldLink RX3 49 "WeldedRelays$Room" "ticks" "I", Cond.fieldLink RX3 52 "WeldedRelays$Room" "moves" "I", Cond.fieldLink RX3 9 "WeldedRelays$Room" "pickTimes" "[I", Cond.methodLink RX3 55 arraycopyName, Cond.native arraycopyName, Cond.static arraycopyName, Cond.initialized "java/lang/System", Cond.fieldLink RX3 15 "WeldedRelays$Room" "dropTimes" "[I", Cond.fieldLink RX3 18 "WeldedRelays$Room" "waits" "[I", Cond.fieldLink RX3 21 "WeldedRelays$Room" "operations" "[I", Cond.fieldLink RX3 24 "WeldedRelays$Room" "branchCounts" "[I", Cond.fieldLink RX3 27 "WeldedRelays$Room" "fronts" "[I", Cond.fieldLink RX3 30 "WeldedRelays$Room" "backs" "[I"]
def wsX4_weld_r3 : List Cond := [Cond.fieldLink RX3 33 "WeldedRelays$Room" "contactCounts" "[I"]
def wsX4_weld : List Cond := .code yX4_weld cX4_weld 5 (some .int) :: ((wsX4_weld_r1 ++ (wsX4_weld_r2 ++ wsX4_weld_r3)) ++ wsX40 ++ wsX30 ++ wsX00)
def wsX4_pass_r1 : List Cond := [Cond.fieldLink RX4 36 "WeldedRelays" "history" "LWeldedRelays$History;", Cond.fieldLink RX4 12 "WeldedRelays" "room" "LWeldedRelays$Room;", Cond.fieldLink RX4 104 "WeldedRelays$Room" "moves" "I", Cond.methodLink RX4 52 yX4_isWithin, Cond.static yX4_isWithin, Cond.initialized RX4, Cond.code yX4_isWithin cX4_isWithin 3 (some .boolean), Cond.methodLink RX4 56 yX0_record, Cond.instanceMethod yX0_record, Cond.selects RX0 yX0_record yX0_record, Cond.initialized RX0, Cond.code yX0_record cX0_record 2 none, Cond.fieldLink RX0 11 "WeldedRelays$History" "states" "[LWeldedRelays$Room;", Cond.fieldLink RX0 18 "WeldedRelays$History" "oldest" "I", Cond.fieldLink RX0 22 "WeldedRelays$History" "size" "I", Cond.methodLink RX0 25 yX3_copyFrom, Cond.instanceMethod yX3_copyFrom, Cond.selects RX3 yX3_copyFrom yX3_copyFrom, Cond.initialized RX3, Cond.code yX3_copyFrom cX3_copyFrom 2 none, Cond.fieldLink RX3 36 "WeldedRelays$Room" "up" "I", Cond.fieldLink RX3 40 "WeldedRelays$Room" "welded" "I", Cond.fieldLink RX3 43 "WeldedRelays$Room" "buttons" "I", Cond.fieldLink RX3 46 "WeldedRelays$Room" "life" "I"]
def wsX4_pass_r2 : List Cond := [Cond.fieldLink RX3 49 "WeldedRelays$Room" "ticks" "I", Cond.fieldLink RX3 52 "WeldedRelays$Room" "moves" "I", Cond.fieldLink RX3 9 "WeldedRelays$Room" "pickTimes" "[I", Cond.methodLink RX3 55 arraycopyName, Cond.native arraycopyName, Cond.static arraycopyName, Cond.initialized "java/lang/System", Cond.fieldLink RX3 15 "WeldedRelays$Room" "dropTimes" "[I", Cond.fieldLink RX3 18 "WeldedRelays$Room" "waits" "[I", Cond.fieldLink RX3 21 "WeldedRelays$Room" "operations" "[I", Cond.fieldLink RX3 24 "WeldedRelays$Room" "branchCounts" "[I", Cond.fieldLink RX3 27 "WeldedRelays$Room" "fronts" "[I", Cond.fieldLink RX3 30 "WeldedRelays$Room" "backs" "[I", Cond.fieldLink RX3 33 "WeldedRelays$Room" "contactCounts" "[I", Cond.methodLink RX4 107 yX3_passTicks, Cond.instanceMethod yX3_passTicks, Cond.selects RX3 yX3_passTicks yX3_passTicks, Cond.code yX3_passTicks cX3_passTicks 3 none, Cond.methodLink RX3 76 yX3_wantingRelays, Cond.instanceMethod yX3_wantingRelays, Cond.selects RX3 yX3_wantingRelays yX3_wantingRelays, Cond.code yX3_wantingRelays cX3_wantingRelays 1 (some .int), Cond.methodLink RX3 72 yX3_fedRelays, Cond.instanceMethod yX3_fedRelays]
def wsX4_pass_r3 : List Cond := [Cond.selects RX3 yX3_fedRelays yX3_fedRelays, Cond.code yX3_fedRelays cX3_fedRelays 3 (some .int), Cond.methodLink RX3 61 yX3_isFed, Cond.instanceMethod yX3_isFed, Cond.selects RX3 yX3_isFed yX3_isFed, Cond.code yX3_isFed cX3_isFed 4 (some .boolean), Cond.static yX4_placeOf, Cond.code yX4_placeOf cX4_placeOf 2 (some .int), Cond.methodLink RX3 69 yX3_isClosed, Cond.instanceMethod yX3_isClosed, Cond.selects RX3 yX3_isClosed yX3_isClosed, Cond.code yX3_isClosed cX3_isClosed 3 (some .boolean), Cond.methodLink RX3 79 yX3_passTick, Cond.instanceMethod yX3_passTick, Cond.selects RX3 yX3_passTick yX3_passTick, Cond.code yX3_passTick cX3_passTick 3 none, Cond.static yX4_isIn, Cond.code yX4_isIn cX4_isIn 2 (some .boolean), Cond.methodLink RX4 114 yX4_bit, Cond.static yX4_bit, Cond.code yX4_bit cX4_bit 2 (some .int), Cond.methodLink RX3 90 yX3_waitOrMove, Cond.instanceMethod yX3_waitOrMove, Cond.selects RX3 yX3_waitOrMove yX3_waitOrMove]
def wsX4_pass_r4 : List Cond := [Cond.code yX3_waitOrMove cX3_waitOrMove 3 none, Cond.methodLink RX3 93 yX3_wear, Cond.instanceMethod yX3_wear, Cond.selects RX3 yX3_wear yX3_wear, Cond.code yX3_wear cX3_wear 2 none]
def wsX4_pass : List Cond := .code yX4_pass cX4_pass 3 (some .int) :: ((wsX4_pass_r1 ++ (wsX4_pass_r2 ++ (wsX4_pass_r3 ++ wsX4_pass_r4))) ++ wsX40 ++ wsX30 ++ wsX00)
def wsX4_settle_r1 : List Cond := [Cond.fieldLink RX4 36 "WeldedRelays" "history" "LWeldedRelays$History;", Cond.fieldLink RX4 12 "WeldedRelays" "room" "LWeldedRelays$Room;", Cond.methodLink RX4 56 yX0_record, Cond.instanceMethod yX0_record, Cond.selects RX0 yX0_record yX0_record, Cond.initialized RX0, Cond.code yX0_record cX0_record 2 none, Cond.fieldLink RX0 11 "WeldedRelays$History" "states" "[LWeldedRelays$Room;", Cond.fieldLink RX0 18 "WeldedRelays$History" "oldest" "I", Cond.fieldLink RX0 22 "WeldedRelays$History" "size" "I", Cond.methodLink RX0 25 yX3_copyFrom, Cond.instanceMethod yX3_copyFrom, Cond.selects RX3 yX3_copyFrom yX3_copyFrom, Cond.initialized RX3, Cond.code yX3_copyFrom cX3_copyFrom 2 none, Cond.fieldLink RX3 36 "WeldedRelays$Room" "up" "I", Cond.fieldLink RX3 40 "WeldedRelays$Room" "welded" "I", Cond.fieldLink RX3 43 "WeldedRelays$Room" "buttons" "I", Cond.fieldLink RX3 46 "WeldedRelays$Room" "life" "I", Cond.fieldLink RX3 49 "WeldedRelays$Room" "ticks" "I", Cond.fieldLink RX3 52 "WeldedRelays$Room" "moves" "I", Cond.fieldLink RX3 9 "WeldedRelays$Room" "pickTimes" "[I", Cond.methodLink RX3 55 arraycopyName, Cond.native arraycopyName]
def wsX4_settle_r2 : List Cond := [Cond.static arraycopyName, Cond.initialized "java/lang/System", Cond.fieldLink RX3 15 "WeldedRelays$Room" "dropTimes" "[I", Cond.fieldLink RX3 18 "WeldedRelays$Room" "waits" "[I", Cond.fieldLink RX3 21 "WeldedRelays$Room" "operations" "[I", Cond.fieldLink RX3 24 "WeldedRelays$Room" "branchCounts" "[I", Cond.fieldLink RX3 27 "WeldedRelays$Room" "fronts" "[I", Cond.fieldLink RX3 30 "WeldedRelays$Room" "backs" "[I", Cond.fieldLink RX3 33 "WeldedRelays$Room" "contactCounts" "[I", Cond.methodLink RX4 111 yX3_ticksUntilRest, Cond.instanceMethod yX3_ticksUntilRest, Cond.selects RX3 yX3_ticksUntilRest yX3_ticksUntilRest, Cond.code yX3_ticksUntilRest cX3_ticksUntilRest 3 (some .int), Cond.methodLink RX3 76 yX3_wantingRelays, Cond.instanceMethod yX3_wantingRelays, Cond.selects RX3 yX3_wantingRelays yX3_wantingRelays, Cond.code yX3_wantingRelays cX3_wantingRelays 1 (some .int), Cond.methodLink RX3 72 yX3_fedRelays, Cond.instanceMethod yX3_fedRelays, Cond.selects RX3 yX3_fedRelays yX3_fedRelays, Cond.code yX3_fedRelays cX3_fedRelays 3 (some .int), Cond.methodLink RX3 61 yX3_isFed, Cond.instanceMethod yX3_isFed, Cond.selects RX3 yX3_isFed yX3_isFed]
def wsX4_settle_r3 : List Cond := [Cond.code yX3_isFed cX3_isFed 4 (some .boolean), Cond.static yX4_placeOf, Cond.initialized RX4, Cond.code yX4_placeOf cX4_placeOf 2 (some .int), Cond.methodLink RX3 69 yX3_isClosed, Cond.instanceMethod yX3_isClosed, Cond.selects RX3 yX3_isClosed yX3_isClosed, Cond.code yX3_isClosed cX3_isClosed 3 (some .boolean), Cond.methodLink RX3 79 yX3_passTick, Cond.instanceMethod yX3_passTick, Cond.selects RX3 yX3_passTick yX3_passTick, Cond.code yX3_passTick cX3_passTick 3 none, Cond.static yX4_isIn, Cond.code yX4_isIn cX4_isIn 2 (some .boolean), Cond.methodLink RX4 114 yX4_bit, Cond.static yX4_bit, Cond.code yX4_bit cX4_bit 2 (some .int), Cond.methodLink RX3 90 yX3_waitOrMove, Cond.instanceMethod yX3_waitOrMove, Cond.selects RX3 yX3_waitOrMove yX3_waitOrMove, Cond.code yX3_waitOrMove cX3_waitOrMove 3 none, Cond.methodLink RX3 93 yX3_wear, Cond.instanceMethod yX3_wear, Cond.selects RX3 yX3_wear yX3_wear]
def wsX4_settle_r4 : List Cond := [Cond.code yX3_wear cX3_wear 2 none]
def wsX4_settle : List Cond := .code yX4_settle cX4_settle 1 (some .int) :: ((wsX4_settle_r1 ++ (wsX4_settle_r2 ++ (wsX4_settle_r3 ++ wsX4_settle_r4))) ++ wsX40 ++ wsX00 ++ wsX30)
def wsX4_relay_r1 : List Cond := [Cond.fieldLink RX4 12 "WeldedRelays" "room" "LWeldedRelays$Room;", Cond.fieldLink RX4 95 "WeldedRelays$Room" "up" "I", Cond.fieldLink RX4 98 "WeldedRelays$Room" "welded" "I", Cond.fieldLink RX4 121 "WeldedRelays$Room" "waits" "[I", Cond.fieldLink RX4 101 "WeldedRelays$Room" "operations" "[I", Cond.fieldLink RX4 64 "WeldedRelays$Room" "pickTimes" "[I", Cond.fieldLink RX4 60 "WeldedRelays$Room" "dropTimes" "[I", Cond.fieldLink RX4 124 "WeldedRelays$Room" "branchCounts" "[I", Cond.methodLink RX4 48 yX4_isRelay, Cond.static yX4_isRelay, Cond.initialized RX4, Cond.code yX4_isRelay cX4_isRelay 1 (some .boolean), Cond.methodLink RX4 52 yX4_isWithin, Cond.static yX4_isWithin, Cond.code yX4_isWithin cX4_isWithin 3 (some .boolean), Cond.methodLink RX4 114 yX4_bit, Cond.static yX4_bit, Cond.code yX4_bit cX4_bit 2 (some .int), Cond.methodLink RX4 118 yX3_fedRelays, Cond.instanceMethod yX3_fedRelays, Cond.selects RX3 yX3_fedRelays yX3_fedRelays, Cond.initialized RX3, Cond.code yX3_fedRelays cX3_fedRelays 3 (some .int), Cond.methodLink RX3 61 yX3_isFed]
def wsX4_relay_r2 : List Cond := [Cond.instanceMethod yX3_isFed, Cond.selects RX3 yX3_isFed yX3_isFed, Cond.code yX3_isFed cX3_isFed 4 (some .boolean), Cond.fieldLink RX3 24 "WeldedRelays$Room" "branchCounts" "[I", Cond.static yX4_placeOf, Cond.code yX4_placeOf cX4_placeOf 2 (some .int), Cond.methodLink RX3 69 yX3_isClosed, Cond.instanceMethod yX3_isClosed, Cond.selects RX3 yX3_isClosed yX3_isClosed, Cond.code yX3_isClosed cX3_isClosed 3 (some .boolean), Cond.fieldLink RX3 36 "WeldedRelays$Room" "up" "I", Cond.fieldLink RX3 43 "WeldedRelays$Room" "buttons" "I", Cond.fieldLink RX3 27 "WeldedRelays$Room" "fronts" "[I", Cond.fieldLink RX3 30 "WeldedRelays$Room" "backs" "[I", Cond.methodLink RX4 92 yX3_wantingRelays, Cond.instanceMethod yX3_wantingRelays, Cond.selects RX3 yX3_wantingRelays yX3_wantingRelays, Cond.code yX3_wantingRelays cX3_wantingRelays 1 (some .int), Cond.fieldLink RX3 40 "WeldedRelays$Room" "welded" "I", Cond.methodLink RX3 72 yX3_fedRelays, Cond.methodLink RX4 127 yX3_frontsOfCircuit, Cond.instanceMethod yX3_frontsOfCircuit, Cond.selects RX3 yX3_frontsOfCircuit yX3_frontsOfCircuit, Cond.code yX3_frontsOfCircuit cX3_frontsOfCircuit 2 (some .int)]
def wsX4_relay_r3 : List Cond := [Cond.methodLink RX3 106 yX3_contactsOfCircuit, Cond.instanceMethod yX3_contactsOfCircuit, Cond.selects RX3 yX3_contactsOfCircuit yX3_contactsOfCircuit, Cond.code yX3_contactsOfCircuit cX3_contactsOfCircuit 6 (some .int), Cond.methodLink RX4 131 yX3_relaysWithContactOf, Cond.instanceMethod yX3_relaysWithContactOf, Cond.selects RX3 yX3_relaysWithContactOf yX3_relaysWithContactOf, Cond.code yX3_relaysWithContactOf cX3_relaysWithContactOf 4 (some .int), Cond.methodLink RX3 99 yX3_frontsOfCircuit, Cond.methodLink RX3 103 yX3_backsOfCircuit, Cond.instanceMethod yX3_backsOfCircuit, Cond.selects RX3 yX3_backsOfCircuit yX3_backsOfCircuit, Cond.code yX3_backsOfCircuit cX3_backsOfCircuit 2 (some .int), Cond.static yX4_isIn, Cond.code yX4_isIn cX4_isIn 2 (some .boolean)]
def wsX4_relay : List Cond := .code yX4_relay cX4_relay 3 (some .int) :: ((wsX4_relay_r1 ++ (wsX4_relay_r2 ++ wsX4_relay_r3)) ++ wsX40 ++ wsX30)
def wsX4_branch : List Cond := .code yX4_branch cX4_branch 5 (some .int) :: ([.fieldLink RX4 12 "WeldedRelays" "room" "LWeldedRelays$Room;", .fieldLink RX4 124 "WeldedRelays$Room" "branchCounts" "[I", .fieldLink RX4 140 "WeldedRelays$Room" "contactCounts" "[I", .fieldLink RX4 143 "WeldedRelays$Room" "fronts" "[I", .fieldLink RX4 146 "WeldedRelays$Room" "backs" "[I", .methodLink RX4 48 yX4_isRelay, .static yX4_isRelay, .initialized RX4, .code yX4_isRelay cX4_isRelay 1 (some .boolean), .methodLink RX4 52 yX4_isWithin, .static yX4_isWithin, .code yX4_isWithin cX4_isWithin 3 (some .boolean), .methodLink RX4 134 yX4_placeOf, .static yX4_placeOf, .code yX4_placeOf cX4_placeOf 2 (some .int), .methodLink RX4 137 yX3_isClosed, .instanceMethod yX3_isClosed, .selects RX3 yX3_isClosed yX3_isClosed, .initialized RX3, .code yX3_isClosed cX3_isClosed 3 (some .boolean), .fieldLink RX3 36 "WeldedRelays$Room" "up" "I", .fieldLink RX3 43 "WeldedRelays$Room" "buttons" "I", .fieldLink RX3 27 "WeldedRelays$Room" "fronts" "[I", .fieldLink RX3 30 "WeldedRelays$Room" "backs" "[I"] ++ wsX40 ++ wsX30)
def wsX4_count_r1 : List Cond := [Cond.fieldLink RX4 12 "WeldedRelays" "room" "LWeldedRelays$Room;", Cond.fieldLink RX4 95 "WeldedRelays$Room" "up" "I", Cond.fieldLink RX4 98 "WeldedRelays$Room" "welded" "I", Cond.fieldLink RX4 85 "WeldedRelays$Room" "buttons" "I", Cond.fieldLink RX4 149 "WeldedRelays$Room" "ticks" "I", Cond.fieldLink RX4 104 "WeldedRelays$Room" "moves" "I", Cond.fieldLink RX4 67 "WeldedRelays$Room" "life" "I", Cond.fieldLink RX4 22 "WeldedRelays" "pad" "LWeldedRelays$Pad;", Cond.fieldLink RX4 155 "WeldedRelays$Pad" "length" "I", Cond.fieldLink RX4 36 "WeldedRelays" "history" "LWeldedRelays$History;", Cond.fieldLink RX4 158 "WeldedRelays$History" "size" "I", Cond.methodLink RX4 118 yX3_fedRelays, Cond.instanceMethod yX3_fedRelays, Cond.selects RX3 yX3_fedRelays yX3_fedRelays, Cond.initialized RX3, Cond.code yX3_fedRelays cX3_fedRelays 3 (some .int), Cond.methodLink RX3 61 yX3_isFed, Cond.instanceMethod yX3_isFed, Cond.selects RX3 yX3_isFed yX3_isFed, Cond.code yX3_isFed cX3_isFed 4 (some .boolean), Cond.fieldLink RX3 24 "WeldedRelays$Room" "branchCounts" "[I", Cond.static yX4_placeOf, Cond.initialized RX4, Cond.code yX4_placeOf cX4_placeOf 2 (some .int)]
def wsX4_count_r2 : List Cond := [Cond.methodLink RX3 69 yX3_isClosed, Cond.instanceMethod yX3_isClosed, Cond.selects RX3 yX3_isClosed yX3_isClosed, Cond.code yX3_isClosed cX3_isClosed 3 (some .boolean), Cond.fieldLink RX3 36 "WeldedRelays$Room" "up" "I", Cond.fieldLink RX3 43 "WeldedRelays$Room" "buttons" "I", Cond.fieldLink RX3 27 "WeldedRelays$Room" "fronts" "[I", Cond.fieldLink RX3 30 "WeldedRelays$Room" "backs" "[I", Cond.methodLink RX4 92 yX3_wantingRelays, Cond.instanceMethod yX3_wantingRelays, Cond.selects RX3 yX3_wantingRelays yX3_wantingRelays, Cond.code yX3_wantingRelays cX3_wantingRelays 1 (some .int), Cond.fieldLink RX3 40 "WeldedRelays$Room" "welded" "I", Cond.methodLink RX3 72 yX3_fedRelays, Cond.methodLink RX4 81 yX3_relaysWithBranches, Cond.instanceMethod yX3_relaysWithBranches, Cond.selects RX3 yX3_relaysWithBranches yX3_relaysWithBranches, Cond.code yX3_relaysWithBranches cX3_relaysWithBranches 3 (some .int), Cond.methodLink RX4 152 yX3_neverClosedBranches, Cond.instanceMethod yX3_neverClosedBranches, Cond.selects RX3 yX3_neverClosedBranches yX3_neverClosedBranches, Cond.code yX3_neverClosedBranches cX3_neverClosedBranches 5 (some .int)]
def wsX4_count : List Cond := .code yX4_count cX4_count 2 (some .int) :: ((wsX4_count_r1 ++ wsX4_count_r2) ++ wsX40 ++ wsX30 ++ wsX10 ++ wsX00)
def wsX4_isButtonSet : List Cond := .code yX4_isButtonSet cX4_isButtonSet 1 (some .boolean) :: ([.methodLink RX4 52 yX4_isWithin, .static yX4_isWithin, .initialized RX4, .code yX4_isWithin cX4_isWithin 3 (some .boolean)])
def wsX4_tryButtons_r1 : List Cond := [Cond.fieldLink RX4 16 "WeldedRelays" "trial" "LWeldedRelays$Room;", Cond.fieldLink RX4 12 "WeldedRelays" "room" "LWeldedRelays$Room;", Cond.fieldLink RX4 85 "WeldedRelays$Room" "buttons" "I", Cond.methodLink RX4 71 yX3_copyFrom, Cond.instanceMethod yX3_copyFrom, Cond.selects RX3 yX3_copyFrom yX3_copyFrom, Cond.initialized RX3, Cond.code yX3_copyFrom cX3_copyFrom 2 none, Cond.fieldLink RX3 36 "WeldedRelays$Room" "up" "I", Cond.fieldLink RX3 40 "WeldedRelays$Room" "welded" "I", Cond.fieldLink RX3 43 "WeldedRelays$Room" "buttons" "I", Cond.fieldLink RX3 46 "WeldedRelays$Room" "life" "I", Cond.fieldLink RX3 49 "WeldedRelays$Room" "ticks" "I", Cond.fieldLink RX3 52 "WeldedRelays$Room" "moves" "I", Cond.fieldLink RX3 9 "WeldedRelays$Room" "pickTimes" "[I", Cond.methodLink RX3 55 arraycopyName, Cond.native arraycopyName, Cond.static arraycopyName, Cond.initialized "java/lang/System", Cond.fieldLink RX3 15 "WeldedRelays$Room" "dropTimes" "[I", Cond.fieldLink RX3 18 "WeldedRelays$Room" "waits" "[I", Cond.fieldLink RX3 21 "WeldedRelays$Room" "operations" "[I", Cond.fieldLink RX3 24 "WeldedRelays$Room" "branchCounts" "[I", Cond.fieldLink RX3 27 "WeldedRelays$Room" "fronts" "[I"]
def wsX4_tryButtons_r2 : List Cond := [Cond.fieldLink RX3 30 "WeldedRelays$Room" "backs" "[I", Cond.fieldLink RX3 33 "WeldedRelays$Room" "contactCounts" "[I"]
def wsX4_tryButtons : List Cond := .code yX4_tryButtons cX4_tryButtons 2 none :: ((wsX4_tryButtons_r1 ++ wsX4_tryButtons_r2) ++ wsX40 ++ wsX30)
def wsX4_ifPressed_r1 : List Cond := [Cond.fieldLink RX4 16 "WeldedRelays" "trial" "LWeldedRelays$Room;", Cond.fieldLink RX4 95 "WeldedRelays$Room" "up" "I", Cond.methodLink RX4 161 yX4_isButtonSet, Cond.static yX4_isButtonSet, Cond.initialized RX4, Cond.code yX4_isButtonSet cX4_isButtonSet 1 (some .boolean), Cond.methodLink RX4 52 yX4_isWithin, Cond.static yX4_isWithin, Cond.code yX4_isWithin cX4_isWithin 3 (some .boolean), Cond.methodLink RX4 164 yX4_tryButtons, Cond.instanceMethod yX4_tryButtons, Cond.selects RX4 yX4_tryButtons yX4_tryButtons, Cond.code yX4_tryButtons cX4_tryButtons 2 none, Cond.fieldLink RX4 12 "WeldedRelays" "room" "LWeldedRelays$Room;", Cond.fieldLink RX4 85 "WeldedRelays$Room" "buttons" "I", Cond.methodLink RX4 71 yX3_copyFrom, Cond.instanceMethod yX3_copyFrom, Cond.selects RX3 yX3_copyFrom yX3_copyFrom, Cond.initialized RX3, Cond.code yX3_copyFrom cX3_copyFrom 2 none, Cond.fieldLink RX3 36 "WeldedRelays$Room" "up" "I", Cond.fieldLink RX3 40 "WeldedRelays$Room" "welded" "I", Cond.fieldLink RX3 43 "WeldedRelays$Room" "buttons" "I", Cond.fieldLink RX3 46 "WeldedRelays$Room" "life" "I"]
def wsX4_ifPressed_r2 : List Cond := [Cond.fieldLink RX3 49 "WeldedRelays$Room" "ticks" "I", Cond.fieldLink RX3 52 "WeldedRelays$Room" "moves" "I", Cond.fieldLink RX3 9 "WeldedRelays$Room" "pickTimes" "[I", Cond.methodLink RX3 55 arraycopyName, Cond.native arraycopyName, Cond.static arraycopyName, Cond.initialized "java/lang/System", Cond.fieldLink RX3 15 "WeldedRelays$Room" "dropTimes" "[I", Cond.fieldLink RX3 18 "WeldedRelays$Room" "waits" "[I", Cond.fieldLink RX3 21 "WeldedRelays$Room" "operations" "[I", Cond.fieldLink RX3 24 "WeldedRelays$Room" "branchCounts" "[I", Cond.fieldLink RX3 27 "WeldedRelays$Room" "fronts" "[I", Cond.fieldLink RX3 30 "WeldedRelays$Room" "backs" "[I", Cond.fieldLink RX3 33 "WeldedRelays$Room" "contactCounts" "[I", Cond.methodLink RX4 107 yX3_passTicks, Cond.instanceMethod yX3_passTicks, Cond.selects RX3 yX3_passTicks yX3_passTicks, Cond.code yX3_passTicks cX3_passTicks 3 none, Cond.methodLink RX3 76 yX3_wantingRelays, Cond.instanceMethod yX3_wantingRelays, Cond.selects RX3 yX3_wantingRelays yX3_wantingRelays, Cond.code yX3_wantingRelays cX3_wantingRelays 1 (some .int), Cond.methodLink RX3 72 yX3_fedRelays, Cond.instanceMethod yX3_fedRelays]
def wsX4_ifPressed_r3 : List Cond := [Cond.selects RX3 yX3_fedRelays yX3_fedRelays, Cond.code yX3_fedRelays cX3_fedRelays 3 (some .int), Cond.methodLink RX3 61 yX3_isFed, Cond.instanceMethod yX3_isFed, Cond.selects RX3 yX3_isFed yX3_isFed, Cond.code yX3_isFed cX3_isFed 4 (some .boolean), Cond.static yX4_placeOf, Cond.code yX4_placeOf cX4_placeOf 2 (some .int), Cond.methodLink RX3 69 yX3_isClosed, Cond.instanceMethod yX3_isClosed, Cond.selects RX3 yX3_isClosed yX3_isClosed, Cond.code yX3_isClosed cX3_isClosed 3 (some .boolean), Cond.methodLink RX3 79 yX3_passTick, Cond.instanceMethod yX3_passTick, Cond.selects RX3 yX3_passTick yX3_passTick, Cond.code yX3_passTick cX3_passTick 3 none, Cond.static yX4_isIn, Cond.code yX4_isIn cX4_isIn 2 (some .boolean), Cond.methodLink RX4 114 yX4_bit, Cond.static yX4_bit, Cond.code yX4_bit cX4_bit 2 (some .int), Cond.methodLink RX3 90 yX3_waitOrMove, Cond.instanceMethod yX3_waitOrMove, Cond.selects RX3 yX3_waitOrMove yX3_waitOrMove]
def wsX4_ifPressed_r4 : List Cond := [Cond.code yX3_waitOrMove cX3_waitOrMove 3 none, Cond.methodLink RX3 93 yX3_wear, Cond.instanceMethod yX3_wear, Cond.selects RX3 yX3_wear yX3_wear, Cond.code yX3_wear cX3_wear 2 none]
def wsX4_ifPressed : List Cond := .code yX4_ifPressed cX4_ifPressed 3 (some .int) :: ((wsX4_ifPressed_r1 ++ (wsX4_ifPressed_r2 ++ (wsX4_ifPressed_r3 ++ wsX4_ifPressed_r4))) ++ wsX40 ++ wsX30)
def wsX4_rest_r1 : List Cond := [Cond.fieldLink RX4 16 "WeldedRelays" "trial" "LWeldedRelays$Room;", Cond.fieldLink RX4 149 "WeldedRelays$Room" "ticks" "I", Cond.fieldLink RX4 12 "WeldedRelays" "room" "LWeldedRelays$Room;", Cond.fieldLink RX4 104 "WeldedRelays$Room" "moves" "I", Cond.methodLink RX4 161 yX4_isButtonSet, Cond.static yX4_isButtonSet, Cond.initialized RX4, Cond.code yX4_isButtonSet cX4_isButtonSet 1 (some .boolean), Cond.methodLink RX4 52 yX4_isWithin, Cond.static yX4_isWithin, Cond.code yX4_isWithin cX4_isWithin 3 (some .boolean), Cond.methodLink RX4 164 yX4_tryButtons, Cond.instanceMethod yX4_tryButtons, Cond.selects RX4 yX4_tryButtons yX4_tryButtons, Cond.code yX4_tryButtons cX4_tryButtons 2 none, Cond.fieldLink RX4 85 "WeldedRelays$Room" "buttons" "I", Cond.methodLink RX4 71 yX3_copyFrom, Cond.instanceMethod yX3_copyFrom, Cond.selects RX3 yX3_copyFrom yX3_copyFrom, Cond.initialized RX3, Cond.code yX3_copyFrom cX3_copyFrom 2 none, Cond.fieldLink RX3 36 "WeldedRelays$Room" "up" "I", Cond.fieldLink RX3 40 "WeldedRelays$Room" "welded" "I", Cond.fieldLink RX3 43 "WeldedRelays$Room" "buttons" "I"]
def wsX4_rest_r2 : List Cond := [Cond.fieldLink RX3 46 "WeldedRelays$Room" "life" "I", Cond.fieldLink RX3 49 "WeldedRelays$Room" "ticks" "I", Cond.fieldLink RX3 52 "WeldedRelays$Room" "moves" "I", Cond.fieldLink RX3 9 "WeldedRelays$Room" "pickTimes" "[I", Cond.methodLink RX3 55 arraycopyName, Cond.native arraycopyName, Cond.static arraycopyName, Cond.initialized "java/lang/System", Cond.fieldLink RX3 15 "WeldedRelays$Room" "dropTimes" "[I", Cond.fieldLink RX3 18 "WeldedRelays$Room" "waits" "[I", Cond.fieldLink RX3 21 "WeldedRelays$Room" "operations" "[I", Cond.fieldLink RX3 24 "WeldedRelays$Room" "branchCounts" "[I", Cond.fieldLink RX3 27 "WeldedRelays$Room" "fronts" "[I", Cond.fieldLink RX3 30 "WeldedRelays$Room" "backs" "[I", Cond.fieldLink RX3 33 "WeldedRelays$Room" "contactCounts" "[I", Cond.methodLink RX4 167 yX3_upAtRest, Cond.instanceMethod yX3_upAtRest, Cond.selects RX3 yX3_upAtRest yX3_upAtRest, Cond.code yX3_upAtRest cX3_upAtRest 1 (some .int), Cond.methodLink RX3 83 yX3_ticksUntilRest, Cond.instanceMethod yX3_ticksUntilRest, Cond.selects RX3 yX3_ticksUntilRest yX3_ticksUntilRest, Cond.code yX3_ticksUntilRest cX3_ticksUntilRest 3 (some .int), Cond.methodLink RX3 76 yX3_wantingRelays]
def wsX4_rest_r3 : List Cond := [Cond.instanceMethod yX3_wantingRelays, Cond.selects RX3 yX3_wantingRelays yX3_wantingRelays, Cond.code yX3_wantingRelays cX3_wantingRelays 1 (some .int), Cond.methodLink RX3 72 yX3_fedRelays, Cond.instanceMethod yX3_fedRelays, Cond.selects RX3 yX3_fedRelays yX3_fedRelays, Cond.code yX3_fedRelays cX3_fedRelays 3 (some .int), Cond.methodLink RX3 61 yX3_isFed, Cond.instanceMethod yX3_isFed, Cond.selects RX3 yX3_isFed yX3_isFed, Cond.code yX3_isFed cX3_isFed 4 (some .boolean), Cond.static yX4_placeOf, Cond.code yX4_placeOf cX4_placeOf 2 (some .int), Cond.methodLink RX3 69 yX3_isClosed, Cond.instanceMethod yX3_isClosed, Cond.selects RX3 yX3_isClosed yX3_isClosed, Cond.code yX3_isClosed cX3_isClosed 3 (some .boolean), Cond.methodLink RX3 79 yX3_passTick, Cond.instanceMethod yX3_passTick, Cond.selects RX3 yX3_passTick yX3_passTick, Cond.code yX3_passTick cX3_passTick 3 none, Cond.static yX4_isIn, Cond.code yX4_isIn cX4_isIn 2 (some .boolean), Cond.methodLink RX4 114 yX4_bit]
def wsX4_rest_r4 : List Cond := [Cond.static yX4_bit, Cond.code yX4_bit cX4_bit 2 (some .int), Cond.methodLink RX3 90 yX3_waitOrMove, Cond.instanceMethod yX3_waitOrMove, Cond.selects RX3 yX3_waitOrMove yX3_waitOrMove, Cond.code yX3_waitOrMove cX3_waitOrMove 3 none, Cond.methodLink RX3 93 yX3_wear, Cond.instanceMethod yX3_wear, Cond.selects RX3 yX3_wear yX3_wear, Cond.code yX3_wear cX3_wear 2 none]
def wsX4_rest : List Cond := .code yX4_rest cX4_rest 4 (some .int) :: ((wsX4_rest_r1 ++ (wsX4_rest_r2 ++ (wsX4_rest_r3 ++ wsX4_rest_r4))) ++ wsX40 ++ wsX30)
def wsX4_race_r1 : List Cond := [Cond.fieldLink RX4 16 "WeldedRelays" "trial" "LWeldedRelays$Room;", Cond.methodLink RX4 161 yX4_isButtonSet, Cond.static yX4_isButtonSet, Cond.initialized RX4, Cond.code yX4_isButtonSet cX4_isButtonSet 1 (some .boolean), Cond.methodLink RX4 52 yX4_isWithin, Cond.static yX4_isWithin, Cond.code yX4_isWithin cX4_isWithin 3 (some .boolean), Cond.methodLink RX4 164 yX4_tryButtons, Cond.instanceMethod yX4_tryButtons, Cond.selects RX4 yX4_tryButtons yX4_tryButtons, Cond.code yX4_tryButtons cX4_tryButtons 2 none, Cond.fieldLink RX4 12 "WeldedRelays" "room" "LWeldedRelays$Room;", Cond.fieldLink RX4 85 "WeldedRelays$Room" "buttons" "I", Cond.methodLink RX4 71 yX3_copyFrom, Cond.instanceMethod yX3_copyFrom, Cond.selects RX3 yX3_copyFrom yX3_copyFrom, Cond.initialized RX3, Cond.code yX3_copyFrom cX3_copyFrom 2 none, Cond.fieldLink RX3 36 "WeldedRelays$Room" "up" "I", Cond.fieldLink RX3 40 "WeldedRelays$Room" "welded" "I", Cond.fieldLink RX3 43 "WeldedRelays$Room" "buttons" "I", Cond.fieldLink RX3 46 "WeldedRelays$Room" "life" "I", Cond.fieldLink RX3 49 "WeldedRelays$Room" "ticks" "I"]
def wsX4_race_r2 : List Cond := [Cond.fieldLink RX3 52 "WeldedRelays$Room" "moves" "I", Cond.fieldLink RX3 9 "WeldedRelays$Room" "pickTimes" "[I", Cond.methodLink RX3 55 arraycopyName, Cond.native arraycopyName, Cond.static arraycopyName, Cond.initialized "java/lang/System", Cond.fieldLink RX3 15 "WeldedRelays$Room" "dropTimes" "[I", Cond.fieldLink RX3 18 "WeldedRelays$Room" "waits" "[I", Cond.fieldLink RX3 21 "WeldedRelays$Room" "operations" "[I", Cond.fieldLink RX3 24 "WeldedRelays$Room" "branchCounts" "[I", Cond.fieldLink RX3 27 "WeldedRelays$Room" "fronts" "[I", Cond.fieldLink RX3 30 "WeldedRelays$Room" "backs" "[I", Cond.fieldLink RX3 33 "WeldedRelays$Room" "contactCounts" "[I", Cond.methodLink RX4 167 yX3_upAtRest, Cond.instanceMethod yX3_upAtRest, Cond.selects RX3 yX3_upAtRest yX3_upAtRest, Cond.code yX3_upAtRest cX3_upAtRest 1 (some .int), Cond.methodLink RX3 83 yX3_ticksUntilRest, Cond.instanceMethod yX3_ticksUntilRest, Cond.selects RX3 yX3_ticksUntilRest yX3_ticksUntilRest, Cond.code yX3_ticksUntilRest cX3_ticksUntilRest 3 (some .int), Cond.methodLink RX3 76 yX3_wantingRelays, Cond.instanceMethod yX3_wantingRelays, Cond.selects RX3 yX3_wantingRelays yX3_wantingRelays]
def wsX4_race_r3 : List Cond := [Cond.code yX3_wantingRelays cX3_wantingRelays 1 (some .int), Cond.methodLink RX3 72 yX3_fedRelays, Cond.instanceMethod yX3_fedRelays, Cond.selects RX3 yX3_fedRelays yX3_fedRelays, Cond.code yX3_fedRelays cX3_fedRelays 3 (some .int), Cond.methodLink RX3 61 yX3_isFed, Cond.instanceMethod yX3_isFed, Cond.selects RX3 yX3_isFed yX3_isFed, Cond.code yX3_isFed cX3_isFed 4 (some .boolean), Cond.static yX4_placeOf, Cond.code yX4_placeOf cX4_placeOf 2 (some .int), Cond.methodLink RX3 69 yX3_isClosed, Cond.instanceMethod yX3_isClosed, Cond.selects RX3 yX3_isClosed yX3_isClosed, Cond.code yX3_isClosed cX3_isClosed 3 (some .boolean), Cond.methodLink RX3 79 yX3_passTick, Cond.instanceMethod yX3_passTick, Cond.selects RX3 yX3_passTick yX3_passTick, Cond.code yX3_passTick cX3_passTick 3 none, Cond.static yX4_isIn, Cond.code yX4_isIn cX4_isIn 2 (some .boolean), Cond.methodLink RX4 114 yX4_bit, Cond.static yX4_bit, Cond.code yX4_bit cX4_bit 2 (some .int)]
def wsX4_race_r4 : List Cond := [Cond.methodLink RX3 90 yX3_waitOrMove, Cond.instanceMethod yX3_waitOrMove, Cond.selects RX3 yX3_waitOrMove yX3_waitOrMove, Cond.code yX3_waitOrMove cX3_waitOrMove 3 none, Cond.methodLink RX3 93 yX3_wear, Cond.instanceMethod yX3_wear, Cond.selects RX3 yX3_wear yX3_wear, Cond.code yX3_wear cX3_wear 2 none, Cond.methodLink RX4 170 yX3_makeAllTimesOne, Cond.instanceMethod yX3_makeAllTimesOne, Cond.selects RX3 yX3_makeAllTimesOne yX3_makeAllTimesOne, Cond.code yX3_makeAllTimesOne cX3_makeAllTimesOne 2 none]
def wsX4_race : List Cond := .code yX4_race cX4_race 3 (some .int) :: ((wsX4_race_r1 ++ (wsX4_race_r2 ++ (wsX4_race_r3 ++ wsX4_race_r4))) ++ wsX40 ++ wsX30)
def wsX4_tryWelded_r1 : List Cond := [Cond.fieldLink RX4 16 "WeldedRelays" "trial" "LWeldedRelays$Room;", Cond.fieldLink RX4 95 "WeldedRelays$Room" "up" "I", Cond.fieldLink RX4 98 "WeldedRelays$Room" "welded" "I", Cond.methodLink RX4 164 yX4_tryButtons, Cond.instanceMethod yX4_tryButtons, Cond.selects RX4 yX4_tryButtons yX4_tryButtons, Cond.initialized RX4, Cond.code yX4_tryButtons cX4_tryButtons 2 none, Cond.fieldLink RX4 12 "WeldedRelays" "room" "LWeldedRelays$Room;", Cond.fieldLink RX4 85 "WeldedRelays$Room" "buttons" "I", Cond.methodLink RX4 71 yX3_copyFrom, Cond.instanceMethod yX3_copyFrom, Cond.selects RX3 yX3_copyFrom yX3_copyFrom, Cond.initialized RX3, Cond.code yX3_copyFrom cX3_copyFrom 2 none, Cond.fieldLink RX3 36 "WeldedRelays$Room" "up" "I", Cond.fieldLink RX3 40 "WeldedRelays$Room" "welded" "I", Cond.fieldLink RX3 43 "WeldedRelays$Room" "buttons" "I", Cond.fieldLink RX3 46 "WeldedRelays$Room" "life" "I", Cond.fieldLink RX3 49 "WeldedRelays$Room" "ticks" "I", Cond.fieldLink RX3 52 "WeldedRelays$Room" "moves" "I", Cond.fieldLink RX3 9 "WeldedRelays$Room" "pickTimes" "[I", Cond.methodLink RX3 55 arraycopyName, Cond.native arraycopyName]
def wsX4_tryWelded_r2 : List Cond := [Cond.static arraycopyName, Cond.initialized "java/lang/System", Cond.fieldLink RX3 15 "WeldedRelays$Room" "dropTimes" "[I", Cond.fieldLink RX3 18 "WeldedRelays$Room" "waits" "[I", Cond.fieldLink RX3 21 "WeldedRelays$Room" "operations" "[I", Cond.fieldLink RX3 24 "WeldedRelays$Room" "branchCounts" "[I", Cond.fieldLink RX3 27 "WeldedRelays$Room" "fronts" "[I", Cond.fieldLink RX3 30 "WeldedRelays$Room" "backs" "[I", Cond.fieldLink RX3 33 "WeldedRelays$Room" "contactCounts" "[I"]
def wsX4_tryWelded : List Cond := .code yX4_tryWelded cX4_tryWelded 2 none :: ((wsX4_tryWelded_r1 ++ wsX4_tryWelded_r2) ++ wsX40 ++ wsX30)
def wsX4_ifWelded_r1 : List Cond := [Cond.fieldLink RX4 16 "WeldedRelays" "trial" "LWeldedRelays$Room;", Cond.methodLink RX4 48 yX4_isRelay, Cond.static yX4_isRelay, Cond.initialized RX4, Cond.code yX4_isRelay cX4_isRelay 1 (some .boolean), Cond.methodLink RX4 52 yX4_isWithin, Cond.static yX4_isWithin, Cond.code yX4_isWithin cX4_isWithin 3 (some .boolean), Cond.methodLink RX4 173 yX4_tryWelded, Cond.instanceMethod yX4_tryWelded, Cond.selects RX4 yX4_tryWelded yX4_tryWelded, Cond.code yX4_tryWelded cX4_tryWelded 2 none, Cond.fieldLink RX4 95 "WeldedRelays$Room" "up" "I", Cond.fieldLink RX4 98 "WeldedRelays$Room" "welded" "I", Cond.methodLink RX4 164 yX4_tryButtons, Cond.instanceMethod yX4_tryButtons, Cond.selects RX4 yX4_tryButtons yX4_tryButtons, Cond.code yX4_tryButtons cX4_tryButtons 2 none, Cond.fieldLink RX4 12 "WeldedRelays" "room" "LWeldedRelays$Room;", Cond.fieldLink RX4 85 "WeldedRelays$Room" "buttons" "I", Cond.methodLink RX4 71 yX3_copyFrom, Cond.instanceMethod yX3_copyFrom, Cond.selects RX3 yX3_copyFrom yX3_copyFrom, Cond.initialized RX3]
def wsX4_ifWelded_r2 : List Cond := [Cond.code yX3_copyFrom cX3_copyFrom 2 none, Cond.fieldLink RX3 36 "WeldedRelays$Room" "up" "I", Cond.fieldLink RX3 40 "WeldedRelays$Room" "welded" "I", Cond.fieldLink RX3 43 "WeldedRelays$Room" "buttons" "I", Cond.fieldLink RX3 46 "WeldedRelays$Room" "life" "I", Cond.fieldLink RX3 49 "WeldedRelays$Room" "ticks" "I", Cond.fieldLink RX3 52 "WeldedRelays$Room" "moves" "I", Cond.fieldLink RX3 9 "WeldedRelays$Room" "pickTimes" "[I", Cond.methodLink RX3 55 arraycopyName, Cond.native arraycopyName, Cond.static arraycopyName, Cond.initialized "java/lang/System", Cond.fieldLink RX3 15 "WeldedRelays$Room" "dropTimes" "[I", Cond.fieldLink RX3 18 "WeldedRelays$Room" "waits" "[I", Cond.fieldLink RX3 21 "WeldedRelays$Room" "operations" "[I", Cond.fieldLink RX3 24 "WeldedRelays$Room" "branchCounts" "[I", Cond.fieldLink RX3 27 "WeldedRelays$Room" "fronts" "[I", Cond.fieldLink RX3 30 "WeldedRelays$Room" "backs" "[I", Cond.fieldLink RX3 33 "WeldedRelays$Room" "contactCounts" "[I", Cond.methodLink RX4 167 yX3_upAtRest, Cond.instanceMethod yX3_upAtRest, Cond.selects RX3 yX3_upAtRest yX3_upAtRest, Cond.code yX3_upAtRest cX3_upAtRest 1 (some .int), Cond.methodLink RX3 83 yX3_ticksUntilRest]
def wsX4_ifWelded_r3 : List Cond := [Cond.instanceMethod yX3_ticksUntilRest, Cond.selects RX3 yX3_ticksUntilRest yX3_ticksUntilRest, Cond.code yX3_ticksUntilRest cX3_ticksUntilRest 3 (some .int), Cond.methodLink RX3 76 yX3_wantingRelays, Cond.instanceMethod yX3_wantingRelays, Cond.selects RX3 yX3_wantingRelays yX3_wantingRelays, Cond.code yX3_wantingRelays cX3_wantingRelays 1 (some .int), Cond.methodLink RX3 72 yX3_fedRelays, Cond.instanceMethod yX3_fedRelays, Cond.selects RX3 yX3_fedRelays yX3_fedRelays, Cond.code yX3_fedRelays cX3_fedRelays 3 (some .int), Cond.methodLink RX3 61 yX3_isFed, Cond.instanceMethod yX3_isFed, Cond.selects RX3 yX3_isFed yX3_isFed, Cond.code yX3_isFed cX3_isFed 4 (some .boolean), Cond.static yX4_placeOf, Cond.code yX4_placeOf cX4_placeOf 2 (some .int), Cond.methodLink RX3 69 yX3_isClosed, Cond.instanceMethod yX3_isClosed, Cond.selects RX3 yX3_isClosed yX3_isClosed, Cond.code yX3_isClosed cX3_isClosed 3 (some .boolean), Cond.methodLink RX3 79 yX3_passTick, Cond.instanceMethod yX3_passTick, Cond.selects RX3 yX3_passTick yX3_passTick]
def wsX4_ifWelded_r4 : List Cond := [Cond.code yX3_passTick cX3_passTick 3 none, Cond.static yX4_isIn, Cond.code yX4_isIn cX4_isIn 2 (some .boolean), Cond.methodLink RX4 114 yX4_bit, Cond.static yX4_bit, Cond.code yX4_bit cX4_bit 2 (some .int), Cond.methodLink RX3 90 yX3_waitOrMove, Cond.instanceMethod yX3_waitOrMove, Cond.selects RX3 yX3_waitOrMove yX3_waitOrMove, Cond.code yX3_waitOrMove cX3_waitOrMove 3 none, Cond.methodLink RX3 93 yX3_wear, Cond.instanceMethod yX3_wear, Cond.selects RX3 yX3_wear yX3_wear, Cond.code yX3_wear cX3_wear 2 none]
def wsX4_ifWelded : List Cond := .code yX4_ifWelded cX4_ifWelded 4 (some .int) :: ((wsX4_ifWelded_r1 ++ (wsX4_ifWelded_r2 ++ (wsX4_ifWelded_r3 ++ wsX4_ifWelded_r4))) ++ wsX40 ++ wsX30)
def wsX4_isUpIn : List Cond := .code yX4_isUpIn cX4_isUpIn 2 (some .boolean) :: ([.methodLink RX4 88 yX4_isIn, .static yX4_isIn, .initialized RX4, .code yX4_isIn cX4_isIn 2 (some .boolean), .methodLink RX4 114 yX4_bit, .static yX4_bit, .code yX4_bit cX4_bit 2 (some .int)])
def wsX4_unsafe_r1 : List Cond := [Cond.fieldLink RX4 16 "WeldedRelays" "trial" "LWeldedRelays$Room;", Cond.methodLink RX4 48 yX4_isRelay, Cond.static yX4_isRelay, Cond.initialized RX4, Cond.code yX4_isRelay cX4_isRelay 1 (some .boolean), Cond.methodLink RX4 52 yX4_isWithin, Cond.static yX4_isWithin, Cond.code yX4_isWithin cX4_isWithin 3 (some .boolean), Cond.methodLink RX4 173 yX4_tryWelded, Cond.instanceMethod yX4_tryWelded, Cond.selects RX4 yX4_tryWelded yX4_tryWelded, Cond.code yX4_tryWelded cX4_tryWelded 2 none, Cond.fieldLink RX4 95 "WeldedRelays$Room" "up" "I", Cond.fieldLink RX4 98 "WeldedRelays$Room" "welded" "I", Cond.methodLink RX4 164 yX4_tryButtons, Cond.instanceMethod yX4_tryButtons, Cond.selects RX4 yX4_tryButtons yX4_tryButtons, Cond.code yX4_tryButtons cX4_tryButtons 2 none, Cond.fieldLink RX4 12 "WeldedRelays" "room" "LWeldedRelays$Room;", Cond.fieldLink RX4 85 "WeldedRelays$Room" "buttons" "I", Cond.methodLink RX4 71 yX3_copyFrom, Cond.instanceMethod yX3_copyFrom, Cond.selects RX3 yX3_copyFrom yX3_copyFrom, Cond.initialized RX3]
def wsX4_unsafe_r2 : List Cond := [Cond.code yX3_copyFrom cX3_copyFrom 2 none, Cond.fieldLink RX3 36 "WeldedRelays$Room" "up" "I", Cond.fieldLink RX3 40 "WeldedRelays$Room" "welded" "I", Cond.fieldLink RX3 43 "WeldedRelays$Room" "buttons" "I", Cond.fieldLink RX3 46 "WeldedRelays$Room" "life" "I", Cond.fieldLink RX3 49 "WeldedRelays$Room" "ticks" "I", Cond.fieldLink RX3 52 "WeldedRelays$Room" "moves" "I", Cond.fieldLink RX3 9 "WeldedRelays$Room" "pickTimes" "[I", Cond.methodLink RX3 55 arraycopyName, Cond.native arraycopyName, Cond.static arraycopyName, Cond.initialized "java/lang/System", Cond.fieldLink RX3 15 "WeldedRelays$Room" "dropTimes" "[I", Cond.fieldLink RX3 18 "WeldedRelays$Room" "waits" "[I", Cond.fieldLink RX3 21 "WeldedRelays$Room" "operations" "[I", Cond.fieldLink RX3 24 "WeldedRelays$Room" "branchCounts" "[I", Cond.fieldLink RX3 27 "WeldedRelays$Room" "fronts" "[I", Cond.fieldLink RX3 30 "WeldedRelays$Room" "backs" "[I", Cond.fieldLink RX3 33 "WeldedRelays$Room" "contactCounts" "[I", Cond.methodLink RX4 167 yX3_upAtRest, Cond.instanceMethod yX3_upAtRest, Cond.selects RX3 yX3_upAtRest yX3_upAtRest, Cond.code yX3_upAtRest cX3_upAtRest 1 (some .int), Cond.methodLink RX3 83 yX3_ticksUntilRest]
def wsX4_unsafe_r3 : List Cond := [Cond.instanceMethod yX3_ticksUntilRest, Cond.selects RX3 yX3_ticksUntilRest yX3_ticksUntilRest, Cond.code yX3_ticksUntilRest cX3_ticksUntilRest 3 (some .int), Cond.methodLink RX3 76 yX3_wantingRelays, Cond.instanceMethod yX3_wantingRelays, Cond.selects RX3 yX3_wantingRelays yX3_wantingRelays, Cond.code yX3_wantingRelays cX3_wantingRelays 1 (some .int), Cond.methodLink RX3 72 yX3_fedRelays, Cond.instanceMethod yX3_fedRelays, Cond.selects RX3 yX3_fedRelays yX3_fedRelays, Cond.code yX3_fedRelays cX3_fedRelays 3 (some .int), Cond.methodLink RX3 61 yX3_isFed, Cond.instanceMethod yX3_isFed, Cond.selects RX3 yX3_isFed yX3_isFed, Cond.code yX3_isFed cX3_isFed 4 (some .boolean), Cond.static yX4_placeOf, Cond.code yX4_placeOf cX4_placeOf 2 (some .int), Cond.methodLink RX3 69 yX3_isClosed, Cond.instanceMethod yX3_isClosed, Cond.selects RX3 yX3_isClosed yX3_isClosed, Cond.code yX3_isClosed cX3_isClosed 3 (some .boolean), Cond.methodLink RX3 79 yX3_passTick, Cond.instanceMethod yX3_passTick, Cond.selects RX3 yX3_passTick yX3_passTick]
def wsX4_unsafe_r4 : List Cond := [Cond.code yX3_passTick cX3_passTick 3 none, Cond.static yX4_isIn, Cond.code yX4_isIn cX4_isIn 2 (some .boolean), Cond.methodLink RX4 114 yX4_bit, Cond.static yX4_bit, Cond.code yX4_bit cX4_bit 2 (some .int), Cond.methodLink RX3 90 yX3_waitOrMove, Cond.instanceMethod yX3_waitOrMove, Cond.selects RX3 yX3_waitOrMove yX3_waitOrMove, Cond.code yX3_waitOrMove cX3_waitOrMove 3 none, Cond.methodLink RX3 93 yX3_wear, Cond.instanceMethod yX3_wear, Cond.selects RX3 yX3_wear yX3_wear, Cond.code yX3_wear cX3_wear 2 none, Cond.methodLink RX4 176 yX4_isUpIn, Cond.static yX4_isUpIn, Cond.code yX4_isUpIn cX4_isUpIn 2 (some .boolean), Cond.methodLink RX4 88 yX4_isIn]
def wsX4_unsafe : List Cond := .code yX4_unsafe cX4_unsafe 4 (some .int) :: ((wsX4_unsafe_r1 ++ (wsX4_unsafe_r2 ++ (wsX4_unsafe_r3 ++ wsX4_unsafe_r4))) ++ wsX40 ++ wsX30)
def wsJ6_bitCount_0f7a4 : List Cond := .code yJ6_bitCount_0f7a4 cJ6_bitCount_0f7a4 1 (some .int) :: ([.constant RJ6 265 (1431655765), .constant RJ6 266 (858993459), .constant RJ6 267 (252645135)])
def wsX4_reach_r1 : List Cond := [Cond.fieldLink RX4 16 "WeldedRelays" "trial" "LWeldedRelays$Room;", Cond.methodLink RX4 48 yX4_isRelay, Cond.static yX4_isRelay, Cond.initialized RX4, Cond.code yX4_isRelay cX4_isRelay 1 (some .boolean), Cond.methodLink RX4 52 yX4_isWithin, Cond.static yX4_isWithin, Cond.code yX4_isWithin cX4_isWithin 3 (some .boolean), Cond.methodLink RX4 179 yJ6_bitCount_0f7a4, Cond.static yJ6_bitCount_0f7a4, Cond.initialized RJ6, Cond.code yJ6_bitCount_0f7a4 cJ6_bitCount_0f7a4 1 (some .int), Cond.constant RJ6 265 (1431655765), Cond.constant RJ6 266 (858993459), Cond.constant RJ6 267 (252645135), Cond.methodLink RX4 164 yX4_tryButtons, Cond.instanceMethod yX4_tryButtons, Cond.selects RX4 yX4_tryButtons yX4_tryButtons, Cond.code yX4_tryButtons cX4_tryButtons 2 none, Cond.fieldLink RX4 12 "WeldedRelays" "room" "LWeldedRelays$Room;", Cond.fieldLink RX4 85 "WeldedRelays$Room" "buttons" "I", Cond.methodLink RX4 71 yX3_copyFrom, Cond.instanceMethod yX3_copyFrom, Cond.selects RX3 yX3_copyFrom yX3_copyFrom]
def wsX4_reach_r2 : List Cond := [Cond.initialized RX3, Cond.code yX3_copyFrom cX3_copyFrom 2 none, Cond.fieldLink RX3 36 "WeldedRelays$Room" "up" "I", Cond.fieldLink RX3 40 "WeldedRelays$Room" "welded" "I", Cond.fieldLink RX3 43 "WeldedRelays$Room" "buttons" "I", Cond.fieldLink RX3 46 "WeldedRelays$Room" "life" "I", Cond.fieldLink RX3 49 "WeldedRelays$Room" "ticks" "I", Cond.fieldLink RX3 52 "WeldedRelays$Room" "moves" "I", Cond.fieldLink RX3 9 "WeldedRelays$Room" "pickTimes" "[I", Cond.methodLink RX3 55 arraycopyName, Cond.native arraycopyName, Cond.static arraycopyName, Cond.initialized "java/lang/System", Cond.fieldLink RX3 15 "WeldedRelays$Room" "dropTimes" "[I", Cond.fieldLink RX3 18 "WeldedRelays$Room" "waits" "[I", Cond.fieldLink RX3 21 "WeldedRelays$Room" "operations" "[I", Cond.fieldLink RX3 24 "WeldedRelays$Room" "branchCounts" "[I", Cond.fieldLink RX3 27 "WeldedRelays$Room" "fronts" "[I", Cond.fieldLink RX3 30 "WeldedRelays$Room" "backs" "[I", Cond.fieldLink RX3 33 "WeldedRelays$Room" "contactCounts" "[I", Cond.methodLink RX4 167 yX3_upAtRest, Cond.instanceMethod yX3_upAtRest, Cond.selects RX3 yX3_upAtRest yX3_upAtRest, Cond.code yX3_upAtRest cX3_upAtRest 1 (some .int)]
def wsX4_reach_r3 : List Cond := [Cond.methodLink RX3 83 yX3_ticksUntilRest, Cond.instanceMethod yX3_ticksUntilRest, Cond.selects RX3 yX3_ticksUntilRest yX3_ticksUntilRest, Cond.code yX3_ticksUntilRest cX3_ticksUntilRest 3 (some .int), Cond.methodLink RX3 76 yX3_wantingRelays, Cond.instanceMethod yX3_wantingRelays, Cond.selects RX3 yX3_wantingRelays yX3_wantingRelays, Cond.code yX3_wantingRelays cX3_wantingRelays 1 (some .int), Cond.methodLink RX3 72 yX3_fedRelays, Cond.instanceMethod yX3_fedRelays, Cond.selects RX3 yX3_fedRelays yX3_fedRelays, Cond.code yX3_fedRelays cX3_fedRelays 3 (some .int), Cond.methodLink RX3 61 yX3_isFed, Cond.instanceMethod yX3_isFed, Cond.selects RX3 yX3_isFed yX3_isFed, Cond.code yX3_isFed cX3_isFed 4 (some .boolean), Cond.static yX4_placeOf, Cond.code yX4_placeOf cX4_placeOf 2 (some .int), Cond.methodLink RX3 69 yX3_isClosed, Cond.instanceMethod yX3_isClosed, Cond.selects RX3 yX3_isClosed yX3_isClosed, Cond.code yX3_isClosed cX3_isClosed 3 (some .boolean), Cond.methodLink RX3 79 yX3_passTick, Cond.instanceMethod yX3_passTick]
def wsX4_reach_r4 : List Cond := [Cond.selects RX3 yX3_passTick yX3_passTick, Cond.code yX3_passTick cX3_passTick 3 none, Cond.static yX4_isIn, Cond.code yX4_isIn cX4_isIn 2 (some .boolean), Cond.methodLink RX4 114 yX4_bit, Cond.static yX4_bit, Cond.code yX4_bit cX4_bit 2 (some .int), Cond.methodLink RX3 90 yX3_waitOrMove, Cond.instanceMethod yX3_waitOrMove, Cond.selects RX3 yX3_waitOrMove yX3_waitOrMove, Cond.code yX3_waitOrMove cX3_waitOrMove 3 none, Cond.methodLink RX3 93 yX3_wear, Cond.instanceMethod yX3_wear, Cond.selects RX3 yX3_wear yX3_wear, Cond.code yX3_wear cX3_wear 2 none, Cond.methodLink RX4 176 yX4_isUpIn, Cond.static yX4_isUpIn, Cond.code yX4_isUpIn cX4_isUpIn 2 (some .boolean), Cond.methodLink RX4 88 yX4_isIn]
def wsX4_reach : List Cond := .code yX4_reach cX4_reach 4 (some .int) :: ((wsX4_reach_r1 ++ (wsX4_reach_r2 ++ (wsX4_reach_r3 ++ wsX4_reach_r4))) ++ wsX40 ++ wsX30)
def wsX4_put : List Cond := .code yX4_put cX4_put 4 (some .int) :: ([.fieldLink RX4 22 "WeldedRelays" "pad" "LWeldedRelays$Pad;", .fieldLink RX4 155 "WeldedRelays$Pad" "length" "I", .methodLink RX4 184 yX1_lengthOf, .static yX1_lengthOf, .initialized RX1, .code yX1_lengthOf cX1_lengthOf 5 (some .int), .methodLink RX1 15 yX1_lastOf, .static yX1_lastOf, .code yX1_lastOf cX1_lastOf 2 (some .int), .constantLong RX1 23 (255), .static yX4_isWithin, .initialized RX4, .code yX4_isWithin cX4_isWithin 3 (some .boolean), .methodLink RX4 188 yX1_append, .instanceMethod yX1_append, .selects RX1 yX1_append yX1_append, .code yX1_append cX1_append 7 none, .fieldLink RX1 25 "WeldedRelays$Pad" "length" "I", .fieldLink RX1 9 "WeldedRelays$Pad" "characters" "[I"] ++ wsX40 ++ wsX10)
def wsX4_wipe : List Cond := .code yX4_wipe cX4_wipe 2 (some .int) :: ([.fieldLink RX4 22 "WeldedRelays" "pad" "LWeldedRelays$Pad;", .fieldLink RX4 155 "WeldedRelays$Pad" "length" "I", .methodLink RX4 78 yX1_clear, .instanceMethod yX1_clear, .selects RX1 yX1_clear yX1_clear, .initialized RX1, .code yX1_clear cX1_clear 1 none, .fieldLink RX1 25 "WeldedRelays$Pad" "length" "I"] ++ wsX40 ++ wsX10)
def wsX4_fault_r1 : List Cond := [Cond.fieldLink RX4 29 "WeldedRelays" "reader" "LWeldedRelays$Reader;", Cond.fieldLink RX4 16 "WeldedRelays" "trial" "LWeldedRelays$Room;", Cond.fieldLink RX4 22 "WeldedRelays" "pad" "LWeldedRelays$Pad;", Cond.methodLink RX4 74 yX2_readInto, Cond.instanceMethod yX2_readInto, Cond.selects RX2 yX2_readInto yX2_readInto, Cond.initialized RX2, Cond.code yX2_readInto cX2_readInto 4 (some .int), Cond.fieldLink RX2 11 "WeldedRelays$Reader" "place" "I", Cond.fieldLink RX2 15 "WeldedRelays$Pad" "length" "I", Cond.fieldLink RX2 20 "WeldedRelays$Pad" "characters" "[I", Cond.methodLink RX2 24 yX2_takes, Cond.instanceMethod yX2_takes, Cond.selects RX2 yX2_takes yX2_takes, Cond.code yX2_takes cX2_takes 3 (some .boolean), Cond.methodLink RX2 28 yX2_takesRelay, Cond.instanceMethod yX2_takesRelay, Cond.selects RX2 yX2_takesRelay yX2_takesRelay, Cond.code yX2_takesRelay cX2_takesRelay 3 (some .boolean), Cond.fieldLink RX2 54 "WeldedRelays$Reader" "relay" "I", Cond.methodLink RX2 47 yX2_contactOf, Cond.static yX2_contactOf, Cond.code yX2_contactOf cX2_contactOf 1 (some .int), Cond.static yX4_isWithin]
def wsX4_fault_r2 : List Cond := [Cond.initialized RX4, Cond.code yX4_isWithin cX4_isWithin 3 (some .boolean), Cond.static yX4_isRelay, Cond.code yX4_isRelay cX4_isRelay 1 (some .boolean), Cond.methodLink RX4 52 yX4_isWithin, Cond.methodLink RX2 35 yX2_goesTo, Cond.instanceMethod yX2_goesTo, Cond.selects RX2 yX2_goesTo yX2_goesTo, Cond.code yX2_goesTo cX2_goesTo 2 (some .boolean), Cond.methodLink RX2 32 yX2_takesEquals, Cond.instanceMethod yX2_takesEquals, Cond.selects RX2 yX2_takesEquals yX2_takesEquals, Cond.code yX2_takesEquals cX2_takesEquals 3 (some .boolean), Cond.methodLink RX2 57 yX3_clearCircuit, Cond.instanceMethod yX3_clearCircuit, Cond.selects RX3 yX3_clearCircuit yX3_clearCircuit, Cond.initialized RX3, Cond.code yX3_clearCircuit cX3_clearCircuit 2 none, Cond.fieldLink RX3 24 "WeldedRelays$Room" "branchCounts" "[I", Cond.methodLink RX2 38 yX2_takesFirstContact, Cond.instanceMethod yX2_takesFirstContact, Cond.selects RX2 yX2_takesFirstContact yX2_takesFirstContact, Cond.code yX2_takesFirstContact cX2_takesFirstContact 3 (some .boolean), Cond.methodLink RX2 63 yX3_addBranch]
def wsX4_fault_r3 : List Cond := [Cond.instanceMethod yX3_addBranch, Cond.selects RX3 yX3_addBranch yX3_addBranch, Cond.code yX3_addBranch cX3_addBranch 3 none, Cond.fieldLink RX3 27 "WeldedRelays$Room" "fronts" "[I", Cond.fieldLink RX3 30 "WeldedRelays$Room" "backs" "[I", Cond.fieldLink RX3 33 "WeldedRelays$Room" "contactCounts" "[I", Cond.methodLink RX3 96 yX3_hasRoomForBranch, Cond.instanceMethod yX3_hasRoomForBranch, Cond.selects RX3 yX3_hasRoomForBranch yX3_hasRoomForBranch, Cond.code yX3_hasRoomForBranch cX3_hasRoomForBranch 2 (some .boolean), Cond.static yX4_placeOf, Cond.code yX4_placeOf cX4_placeOf 2 (some .int), Cond.methodLink RX2 41 yX2_takesContact, Cond.instanceMethod yX2_takesContact, Cond.selects RX2 yX2_takesContact yX2_takesContact, Cond.code yX2_takesContact cX2_takesContact 5 (some .boolean), Cond.methodLink RX2 72 yX3_addContact, Cond.instanceMethod yX3_addContact, Cond.selects RX3 yX3_addContact yX3_addContact, Cond.code yX3_addContact cX3_addContact 7 none, Cond.methodLink RX2 44 yX2_takesNextOfBranch, Cond.instanceMethod yX2_takesNextOfBranch, Cond.selects RX2 yX2_takesNextOfBranch yX2_takesNextOfBranch, Cond.code yX2_takesNextOfBranch cX2_takesNextOfBranch 3 (some .boolean)]
def wsX4_fault_r4 : List Cond := [Cond.methodLink RX2 66 yX3_hasRoomForBranch, Cond.methodLink RX2 69 yX3_hasRoomForContact, Cond.instanceMethod yX3_hasRoomForContact, Cond.selects RX3 yX3_hasRoomForContact yX3_hasRoomForContact, Cond.code yX3_hasRoomForContact cX3_hasRoomForContact 3 (some .boolean)]
def wsX4_fault : List Cond := .code yX4_fault cX4_fault 1 (some .int) :: ((wsX4_fault_r1 ++ (wsX4_fault_r2 ++ (wsX4_fault_r3 ++ wsX4_fault_r4))) ++ wsX40 ++ wsX20 ++ wsX10 ++ wsX30)
def wsX4_undo_r1 : List Cond := [Cond.fieldLink RX4 36 "WeldedRelays" "history" "LWeldedRelays$History;", Cond.fieldLink RX4 158 "WeldedRelays$History" "size" "I", Cond.fieldLink RX4 12 "WeldedRelays" "room" "LWeldedRelays$Room;", Cond.methodLink RX4 192 yX0_takeBackTo, Cond.instanceMethod yX0_takeBackTo, Cond.selects RX0 yX0_takeBackTo yX0_takeBackTo, Cond.initialized RX0, Cond.code yX0_takeBackTo cX0_takeBackTo 2 none, Cond.fieldLink RX0 22 "WeldedRelays$History" "size" "I", Cond.fieldLink RX0 11 "WeldedRelays$History" "states" "[LWeldedRelays$Room;", Cond.fieldLink RX0 18 "WeldedRelays$History" "oldest" "I", Cond.methodLink RX0 25 yX3_copyFrom, Cond.instanceMethod yX3_copyFrom, Cond.selects RX3 yX3_copyFrom yX3_copyFrom, Cond.initialized RX3, Cond.code yX3_copyFrom cX3_copyFrom 2 none, Cond.fieldLink RX3 36 "WeldedRelays$Room" "up" "I", Cond.fieldLink RX3 40 "WeldedRelays$Room" "welded" "I", Cond.fieldLink RX3 43 "WeldedRelays$Room" "buttons" "I", Cond.fieldLink RX3 46 "WeldedRelays$Room" "life" "I", Cond.fieldLink RX3 49 "WeldedRelays$Room" "ticks" "I", Cond.fieldLink RX3 52 "WeldedRelays$Room" "moves" "I", Cond.fieldLink RX3 9 "WeldedRelays$Room" "pickTimes" "[I", Cond.methodLink RX3 55 arraycopyName]
def wsX4_undo_r2 : List Cond := [Cond.native arraycopyName, Cond.static arraycopyName, Cond.initialized "java/lang/System", Cond.fieldLink RX3 15 "WeldedRelays$Room" "dropTimes" "[I", Cond.fieldLink RX3 18 "WeldedRelays$Room" "waits" "[I", Cond.fieldLink RX3 21 "WeldedRelays$Room" "operations" "[I", Cond.fieldLink RX3 24 "WeldedRelays$Room" "branchCounts" "[I", Cond.fieldLink RX3 27 "WeldedRelays$Room" "fronts" "[I", Cond.fieldLink RX3 30 "WeldedRelays$Room" "backs" "[I", Cond.fieldLink RX3 33 "WeldedRelays$Room" "contactCounts" "[I"]
def wsX4_undo : List Cond := .code yX4_undo cX4_undo 1 (some .int) :: ((wsX4_undo_r1 ++ wsX4_undo_r2) ++ wsX40 ++ wsX00 ++ wsX30)
def wsX4_save_r1 : List Cond := [Cond.fieldLink RX4 40 "WeldedRelays" "slots" "[LWeldedRelays$Room;", Cond.fieldLink RX4 12 "WeldedRelays" "room" "LWeldedRelays$Room;", Cond.fieldLink RX4 44 "WeldedRelays" "isSaved" "[Z", Cond.fieldLink RX4 95 "WeldedRelays$Room" "up" "I", Cond.methodLink RX4 52 yX4_isWithin, Cond.static yX4_isWithin, Cond.initialized RX4, Cond.code yX4_isWithin cX4_isWithin 3 (some .boolean), Cond.methodLink RX4 71 yX3_copyFrom, Cond.instanceMethod yX3_copyFrom, Cond.selects RX3 yX3_copyFrom yX3_copyFrom, Cond.initialized RX3, Cond.code yX3_copyFrom cX3_copyFrom 2 none, Cond.fieldLink RX3 36 "WeldedRelays$Room" "up" "I", Cond.fieldLink RX3 40 "WeldedRelays$Room" "welded" "I", Cond.fieldLink RX3 43 "WeldedRelays$Room" "buttons" "I", Cond.fieldLink RX3 46 "WeldedRelays$Room" "life" "I", Cond.fieldLink RX3 49 "WeldedRelays$Room" "ticks" "I", Cond.fieldLink RX3 52 "WeldedRelays$Room" "moves" "I", Cond.fieldLink RX3 9 "WeldedRelays$Room" "pickTimes" "[I", Cond.methodLink RX3 55 arraycopyName, Cond.native arraycopyName, Cond.static arraycopyName, Cond.initialized "java/lang/System"]
def wsX4_save_r2 : List Cond := [Cond.fieldLink RX3 15 "WeldedRelays$Room" "dropTimes" "[I", Cond.fieldLink RX3 18 "WeldedRelays$Room" "waits" "[I", Cond.fieldLink RX3 21 "WeldedRelays$Room" "operations" "[I", Cond.fieldLink RX3 24 "WeldedRelays$Room" "branchCounts" "[I", Cond.fieldLink RX3 27 "WeldedRelays$Room" "fronts" "[I", Cond.fieldLink RX3 30 "WeldedRelays$Room" "backs" "[I", Cond.fieldLink RX3 33 "WeldedRelays$Room" "contactCounts" "[I"]
def wsX4_save : List Cond := .code yX4_save cX4_save 2 (some .int) :: ((wsX4_save_r1 ++ wsX4_save_r2) ++ wsX40 ++ wsX30)
def wsX4_restore_r1 : List Cond := [Cond.fieldLink RX4 44 "WeldedRelays" "isSaved" "[Z", Cond.fieldLink RX4 36 "WeldedRelays" "history" "LWeldedRelays$History;", Cond.fieldLink RX4 12 "WeldedRelays" "room" "LWeldedRelays$Room;", Cond.fieldLink RX4 40 "WeldedRelays" "slots" "[LWeldedRelays$Room;", Cond.fieldLink RX4 95 "WeldedRelays$Room" "up" "I", Cond.methodLink RX4 52 yX4_isWithin, Cond.static yX4_isWithin, Cond.initialized RX4, Cond.code yX4_isWithin cX4_isWithin 3 (some .boolean), Cond.methodLink RX4 56 yX0_record, Cond.instanceMethod yX0_record, Cond.selects RX0 yX0_record yX0_record, Cond.initialized RX0, Cond.code yX0_record cX0_record 2 none, Cond.fieldLink RX0 11 "WeldedRelays$History" "states" "[LWeldedRelays$Room;", Cond.fieldLink RX0 18 "WeldedRelays$History" "oldest" "I", Cond.fieldLink RX0 22 "WeldedRelays$History" "size" "I", Cond.methodLink RX0 25 yX3_copyFrom, Cond.instanceMethod yX3_copyFrom, Cond.selects RX3 yX3_copyFrom yX3_copyFrom, Cond.initialized RX3, Cond.code yX3_copyFrom cX3_copyFrom 2 none, Cond.fieldLink RX3 36 "WeldedRelays$Room" "up" "I", Cond.fieldLink RX3 40 "WeldedRelays$Room" "welded" "I"]
def wsX4_restore_r2 : List Cond := [Cond.fieldLink RX3 43 "WeldedRelays$Room" "buttons" "I", Cond.fieldLink RX3 46 "WeldedRelays$Room" "life" "I", Cond.fieldLink RX3 49 "WeldedRelays$Room" "ticks" "I", Cond.fieldLink RX3 52 "WeldedRelays$Room" "moves" "I", Cond.fieldLink RX3 9 "WeldedRelays$Room" "pickTimes" "[I", Cond.methodLink RX3 55 arraycopyName, Cond.native arraycopyName, Cond.static arraycopyName, Cond.initialized "java/lang/System", Cond.fieldLink RX3 15 "WeldedRelays$Room" "dropTimes" "[I", Cond.fieldLink RX3 18 "WeldedRelays$Room" "waits" "[I", Cond.fieldLink RX3 21 "WeldedRelays$Room" "operations" "[I", Cond.fieldLink RX3 24 "WeldedRelays$Room" "branchCounts" "[I", Cond.fieldLink RX3 27 "WeldedRelays$Room" "fronts" "[I", Cond.fieldLink RX3 30 "WeldedRelays$Room" "backs" "[I", Cond.fieldLink RX3 33 "WeldedRelays$Room" "contactCounts" "[I", Cond.methodLink RX4 71 yX3_copyFrom]
def wsX4_restore : List Cond := .code yX4_restore cX4_restore 2 (some .int) :: ((wsX4_restore_r1 ++ wsX4_restore_r2) ++ wsX40 ++ wsX30 ++ wsX00)
def wsX5_setPart : List Cond := .code yX5_setPart cX5_setPart 4 none :: ([.fieldLink RX5 7 "WeldedRelaysModel" "state" "[I"] ++ wsX50)
def wsX5_init : List Cond := .code yX5_init cX5_init 2 none :: ([.methodLink RX5 1 objectInit, .instanceMethod objectInit, .code objectInit ⟨#[0xb1]⟩ 1 none, .arrayClass .int, .fieldLink RX5 7 "WeldedRelaysModel" "state" "[I", .fieldLink RX5 13 "WeldedRelaysModel" "kept" "[I", .fieldLink RX5 16 "WeldedRelaysModel" "history" "[I", .fieldLink RX5 19 "WeldedRelaysModel" "slots" "[I", .fieldLink RX5 22 "WeldedRelaysModel" "isSaved" "[I", .fieldLink RX5 25 "WeldedRelaysModel" "pad" "[I", .fieldLink RX5 28 "WeldedRelaysModel" "told" "[I", .methodLink RX5 31 yX5_setPart, .instanceMethod yX5_setPart, .selects RX5 yX5_setPart yX5_setPart, .initialized RX5, .code yX5_setPart cX5_setPart 4 none] ++ wsX50)
def wsX5_moves : List Cond := .code yX5_moves cX5_moves 5 none :: ([])
def wsX5_within : List Cond := .code yX5_within cX5_within 3 (some .boolean) :: ([])
def wsX5_record : List Cond := .code yX5_record cX5_record 2 none :: ([.fieldLink RX5 35 "WeldedRelaysModel" "recorded" "I", .fieldLink RX5 16 "WeldedRelaysModel" "history" "[I", .fieldLink RX5 7 "WeldedRelaysModel" "state" "[I", .methodLink RX5 39 yX5_moves, .static yX5_moves, .initialized RX5, .code yX5_moves cX5_moves 5 none] ++ wsX50)
def wsX5_isRelay : List Cond := .code yX5_isRelay cX5_isRelay 1 (some .boolean) :: ([.methodLink RX5 43 yX5_within, .static yX5_within, .initialized RX5, .code yX5_within cX5_within 3 (some .boolean)])
def wsX5_part : List Cond := .code yX5_part cX5_part 3 (some .int) :: ([.fieldLink RX5 7 "WeldedRelaysModel" "state" "[I"] ++ wsX50)
def wsX5_has : List Cond := .code yX5_has cX5_has 2 (some .boolean) :: ([])
def wsX5_ofBranch : List Cond := .code yX5_ofBranch cX5_ofBranch 4 (some .int) :: ([.methodLink RX5 47 yX5_part, .instanceMethod yX5_part, .selects RX5 yX5_part yX5_part, .initialized RX5, .code yX5_part cX5_part 3 (some .int), .fieldLink RX5 7 "WeldedRelaysModel" "state" "[I"] ++ wsX50)
def wsX5_isClosed : List Cond := .code yX5_isClosed cX5_isClosed 4 (some .boolean) :: ([.fieldLink RX5 7 "WeldedRelaysModel" "state" "[I", .methodLink RX5 51 yX5_ofBranch, .instanceMethod yX5_ofBranch, .selects RX5 yX5_ofBranch yX5_ofBranch, .initialized RX5, .code yX5_ofBranch cX5_ofBranch 4 (some .int), .methodLink RX5 47 yX5_part, .instanceMethod yX5_part, .selects RX5 yX5_part yX5_part, .code yX5_part cX5_part 3 (some .int)] ++ wsX50)
def wsX5_isFed : List Cond := .code yX5_isFed cX5_isFed 4 (some .boolean) :: ([.methodLink RX5 47 yX5_part, .instanceMethod yX5_part, .selects RX5 yX5_part yX5_part, .initialized RX5, .code yX5_part cX5_part 3 (some .int), .fieldLink RX5 7 "WeldedRelaysModel" "state" "[I", .methodLink RX5 55 yX5_isClosed, .instanceMethod yX5_isClosed, .selects RX5 yX5_isClosed yX5_isClosed, .code yX5_isClosed cX5_isClosed 4 (some .boolean), .methodLink RX5 51 yX5_ofBranch, .instanceMethod yX5_ofBranch, .selects RX5 yX5_ofBranch yX5_ofBranch, .code yX5_ofBranch cX5_ofBranch 4 (some .int)] ++ wsX50)
def wsX5_fed : List Cond := .code yX5_fed cX5_fed 3 (some .int) :: ([.methodLink RX5 59 yX5_isFed, .instanceMethod yX5_isFed, .selects RX5 yX5_isFed yX5_isFed, .initialized RX5, .code yX5_isFed cX5_isFed 4 (some .boolean), .methodLink RX5 47 yX5_part, .instanceMethod yX5_part, .selects RX5 yX5_part yX5_part, .code yX5_part cX5_part 3 (some .int), .fieldLink RX5 7 "WeldedRelaysModel" "state" "[I", .methodLink RX5 55 yX5_isClosed, .instanceMethod yX5_isClosed, .selects RX5 yX5_isClosed yX5_isClosed, .code yX5_isClosed cX5_isClosed 4 (some .boolean), .methodLink RX5 51 yX5_ofBranch, .instanceMethod yX5_ofBranch, .selects RX5 yX5_ofBranch yX5_ofBranch, .code yX5_ofBranch cX5_ofBranch 4 (some .int)] ++ wsX50)
def wsX5_wanting : List Cond := .code yX5_wanting cX5_wanting 2 (some .int) :: ([.fieldLink RX5 7 "WeldedRelaysModel" "state" "[I", .methodLink RX5 63 yX5_fed, .instanceMethod yX5_fed, .selects RX5 yX5_fed yX5_fed, .initialized RX5, .code yX5_fed cX5_fed 3 (some .int), .methodLink RX5 59 yX5_isFed, .instanceMethod yX5_isFed, .selects RX5 yX5_isFed yX5_isFed, .code yX5_isFed cX5_isFed 4 (some .boolean), .methodLink RX5 47 yX5_part, .instanceMethod yX5_part, .selects RX5 yX5_part yX5_part, .code yX5_part cX5_part 3 (some .int), .methodLink RX5 55 yX5_isClosed, .instanceMethod yX5_isClosed, .selects RX5 yX5_isClosed yX5_isClosed, .code yX5_isClosed cX5_isClosed 4 (some .boolean), .methodLink RX5 51 yX5_ofBranch, .instanceMethod yX5_ofBranch, .selects RX5 yX5_ofBranch yX5_ofBranch, .code yX5_ofBranch cX5_ofBranch 4 (some .int)] ++ wsX50)
def wsX5_moveRelay : List Cond := .code yX5_moveRelay cX5_moveRelay 3 none :: ([.fieldLink RX5 7 "WeldedRelaysModel" "state" "[I", .methodLink RX5 31 yX5_setPart, .instanceMethod yX5_setPart, .selects RX5 yX5_setPart yX5_setPart, .initialized RX5, .code yX5_setPart cX5_setPart 4 none, .methodLink RX5 67 yX5_has, .static yX5_has, .code yX5_has cX5_has 2 (some .boolean), .methodLink RX5 47 yX5_part, .instanceMethod yX5_part, .selects RX5 yX5_part yX5_part, .code yX5_part cX5_part 3 (some .int)] ++ wsX50)
def wsX5_tick_r1 : List Cond := [Cond.fieldLink RX5 7 "WeldedRelaysModel" "state" "[I", Cond.methodLink RX5 70 yX5_wanting, Cond.instanceMethod yX5_wanting, Cond.selects RX5 yX5_wanting yX5_wanting, Cond.initialized RX5, Cond.code yX5_wanting cX5_wanting 2 (some .int), Cond.methodLink RX5 63 yX5_fed, Cond.instanceMethod yX5_fed, Cond.selects RX5 yX5_fed yX5_fed, Cond.code yX5_fed cX5_fed 3 (some .int), Cond.methodLink RX5 59 yX5_isFed, Cond.instanceMethod yX5_isFed, Cond.selects RX5 yX5_isFed yX5_isFed, Cond.code yX5_isFed cX5_isFed 4 (some .boolean), Cond.methodLink RX5 47 yX5_part, Cond.instanceMethod yX5_part, Cond.selects RX5 yX5_part yX5_part, Cond.code yX5_part cX5_part 3 (some .int), Cond.methodLink RX5 55 yX5_isClosed, Cond.instanceMethod yX5_isClosed, Cond.selects RX5 yX5_isClosed yX5_isClosed, Cond.code yX5_isClosed cX5_isClosed 4 (some .boolean), Cond.methodLink RX5 51 yX5_ofBranch, Cond.instanceMethod yX5_ofBranch]
def wsX5_tick_r2 : List Cond := [Cond.selects RX5 yX5_ofBranch yX5_ofBranch, Cond.code yX5_ofBranch cX5_ofBranch 4 (some .int), Cond.methodLink RX5 67 yX5_has, Cond.static yX5_has, Cond.code yX5_has cX5_has 2 (some .boolean), Cond.methodLink RX5 31 yX5_setPart, Cond.instanceMethod yX5_setPart, Cond.selects RX5 yX5_setPart yX5_setPart, Cond.code yX5_setPart cX5_setPart 4 none, Cond.methodLink RX5 73 yX5_moveRelay, Cond.instanceMethod yX5_moveRelay, Cond.selects RX5 yX5_moveRelay yX5_moveRelay, Cond.code yX5_moveRelay cX5_moveRelay 3 none]
def wsX5_tick : List Cond := .code yX5_tick cX5_tick 3 none :: ((wsX5_tick_r1 ++ wsX5_tick_r2) ++ wsX50)
def wsX5_settles_r1 : List Cond := [Cond.methodLink RX5 70 yX5_wanting, Cond.instanceMethod yX5_wanting, Cond.selects RX5 yX5_wanting yX5_wanting, Cond.initialized RX5, Cond.code yX5_wanting cX5_wanting 2 (some .int), Cond.fieldLink RX5 7 "WeldedRelaysModel" "state" "[I", Cond.methodLink RX5 63 yX5_fed, Cond.instanceMethod yX5_fed, Cond.selects RX5 yX5_fed yX5_fed, Cond.code yX5_fed cX5_fed 3 (some .int), Cond.methodLink RX5 59 yX5_isFed, Cond.instanceMethod yX5_isFed, Cond.selects RX5 yX5_isFed yX5_isFed, Cond.code yX5_isFed cX5_isFed 4 (some .boolean), Cond.methodLink RX5 47 yX5_part, Cond.instanceMethod yX5_part, Cond.selects RX5 yX5_part yX5_part, Cond.code yX5_part cX5_part 3 (some .int), Cond.methodLink RX5 55 yX5_isClosed, Cond.instanceMethod yX5_isClosed, Cond.selects RX5 yX5_isClosed yX5_isClosed, Cond.code yX5_isClosed cX5_isClosed 4 (some .boolean), Cond.methodLink RX5 51 yX5_ofBranch, Cond.instanceMethod yX5_ofBranch]
def wsX5_settles_r2 : List Cond := [Cond.selects RX5 yX5_ofBranch yX5_ofBranch, Cond.code yX5_ofBranch cX5_ofBranch 4 (some .int), Cond.methodLink RX5 77 yX5_tick, Cond.instanceMethod yX5_tick, Cond.selects RX5 yX5_tick yX5_tick, Cond.code yX5_tick cX5_tick 3 none, Cond.methodLink RX5 67 yX5_has, Cond.static yX5_has, Cond.code yX5_has cX5_has 2 (some .boolean), Cond.methodLink RX5 31 yX5_setPart, Cond.instanceMethod yX5_setPart, Cond.selects RX5 yX5_setPart yX5_setPart, Cond.code yX5_setPart cX5_setPart 4 none, Cond.methodLink RX5 73 yX5_moveRelay, Cond.instanceMethod yX5_moveRelay, Cond.selects RX5 yX5_moveRelay yX5_moveRelay, Cond.code yX5_moveRelay cX5_moveRelay 3 none]
def wsX5_settles : List Cond := .code yX5_settles cX5_settles 2 (some .int) :: ((wsX5_settles_r1 ++ wsX5_settles_r2) ++ wsX50)
def wsX5_time_r1 : List Cond := [Cond.methodLink RX5 80 yX5_isRelay, Cond.static yX5_isRelay, Cond.initialized RX5, Cond.code yX5_isRelay cX5_isRelay 1 (some .boolean), Cond.methodLink RX5 43 yX5_within, Cond.static yX5_within, Cond.code yX5_within cX5_within 3 (some .boolean), Cond.methodLink RX5 83 yX5_record, Cond.instanceMethod yX5_record, Cond.selects RX5 yX5_record yX5_record, Cond.code yX5_record cX5_record 2 none, Cond.fieldLink RX5 35 "WeldedRelaysModel" "recorded" "I", Cond.fieldLink RX5 16 "WeldedRelaysModel" "history" "[I", Cond.fieldLink RX5 7 "WeldedRelaysModel" "state" "[I", Cond.methodLink RX5 39 yX5_moves, Cond.static yX5_moves, Cond.code yX5_moves cX5_moves 5 none, Cond.methodLink RX5 47 yX5_part, Cond.instanceMethod yX5_part, Cond.selects RX5 yX5_part yX5_part, Cond.code yX5_part cX5_part 3 (some .int), Cond.methodLink RX5 31 yX5_setPart, Cond.instanceMethod yX5_setPart, Cond.selects RX5 yX5_setPart yX5_setPart]
def wsX5_time_r2 : List Cond := [Cond.code yX5_setPart cX5_setPart 4 none]
def wsX5_time : List Cond := .code yX5_time cX5_time 6 (some .int) :: ((wsX5_time_r1 ++ wsX5_time_r2) ++ wsX50)
def wsX5_life : List Cond := .code yX5_life cX5_life 3 (some .int) :: ([.fieldLink RX5 7 "WeldedRelaysModel" "state" "[I", .methodLink RX5 43 yX5_within, .static yX5_within, .initialized RX5, .code yX5_within cX5_within 3 (some .boolean), .methodLink RX5 83 yX5_record, .instanceMethod yX5_record, .selects RX5 yX5_record yX5_record, .code yX5_record cX5_record 2 none, .fieldLink RX5 35 "WeldedRelaysModel" "recorded" "I", .fieldLink RX5 16 "WeldedRelaysModel" "history" "[I", .methodLink RX5 39 yX5_moves, .static yX5_moves, .code yX5_moves cX5_moves 5 none] ++ wsX50)
def wsX5_relaysWithBranches : List Cond := .code yX5_relaysWithBranches cX5_relaysWithBranches 3 (some .int) :: ([.methodLink RX5 47 yX5_part, .instanceMethod yX5_part, .selects RX5 yX5_part yX5_part, .initialized RX5, .code yX5_part cX5_part 3 (some .int), .fieldLink RX5 7 "WeldedRelaysModel" "state" "[I"] ++ wsX50)
def wsX5_character : List Cond := .code yX5_character cX5_character 2 (some .int) :: ([.fieldLink RX5 92 "WeldedRelaysModel" "padLength" "I", .fieldLink RX5 25 "WeldedRelaysModel" "pad" "[I"] ++ wsX50)
def wsX5_isNext : List Cond := .code yX5_isNext cX5_isNext 3 (some .boolean) :: ([.fieldLink RX5 89 "WeldedRelaysModel" "at" "I", .methodLink RX5 141 yX5_character, .instanceMethod yX5_character, .selects RX5 yX5_character yX5_character, .initialized RX5, .code yX5_character cX5_character 2 (some .int), .fieldLink RX5 92 "WeldedRelaysModel" "padLength" "I", .fieldLink RX5 25 "WeldedRelaysModel" "pad" "[I"] ++ wsX50)
def wsX5_contactOf : List Cond := .code yX5_contactOf cX5_contactOf 1 (some .int) :: ([.methodLink RX5 43 yX5_within, .static yX5_within, .initialized RX5, .code yX5_within cX5_within 3 (some .boolean)])
def wsX5_readsBranch : List Cond := .code yX5_readsBranch cX5_readsBranch 5 (some .boolean) :: ([.fieldLink RX5 105 "WeldedRelaysModel" "branchesTold" "I", .fieldLink RX5 28 "WeldedRelaysModel" "told" "[I", .fieldLink RX5 89 "WeldedRelaysModel" "at" "I", .methodLink RX5 99 yX5_isNext, .instanceMethod yX5_isNext, .selects RX5 yX5_isNext yX5_isNext, .initialized RX5, .code yX5_isNext cX5_isNext 3 (some .boolean), .methodLink RX5 141 yX5_character, .instanceMethod yX5_character, .selects RX5 yX5_character yX5_character, .code yX5_character cX5_character 2 (some .int), .fieldLink RX5 92 "WeldedRelaysModel" "padLength" "I", .fieldLink RX5 25 "WeldedRelaysModel" "pad" "[I", .methodLink RX5 144 yX5_contactOf, .static yX5_contactOf, .code yX5_contactOf cX5_contactOf 1 (some .int), .methodLink RX5 43 yX5_within, .static yX5_within, .code yX5_within cX5_within 3 (some .boolean)] ++ wsX50)
def wsX5_readsBranches : List Cond := .code yX5_readsBranches cX5_readsBranches 2 (some .boolean) :: ([.fieldLink RX5 105 "WeldedRelaysModel" "branchesTold" "I", .methodLink RX5 147 yX5_readsBranch, .instanceMethod yX5_readsBranch, .selects RX5 yX5_readsBranch yX5_readsBranch, .initialized RX5, .code yX5_readsBranch cX5_readsBranch 5 (some .boolean), .fieldLink RX5 28 "WeldedRelaysModel" "told" "[I", .fieldLink RX5 89 "WeldedRelaysModel" "at" "I", .methodLink RX5 99 yX5_isNext, .instanceMethod yX5_isNext, .selects RX5 yX5_isNext yX5_isNext, .code yX5_isNext cX5_isNext 3 (some .boolean), .methodLink RX5 141 yX5_character, .instanceMethod yX5_character, .selects RX5 yX5_character yX5_character, .code yX5_character cX5_character 2 (some .int), .fieldLink RX5 92 "WeldedRelaysModel" "padLength" "I", .fieldLink RX5 25 "WeldedRelaysModel" "pad" "[I", .methodLink RX5 144 yX5_contactOf, .static yX5_contactOf, .code yX5_contactOf cX5_contactOf 1 (some .int), .methodLink RX5 43 yX5_within, .static yX5_within, .code yX5_within cX5_within 3 (some .boolean)] ++ wsX50)
def wsX5_readsCircuit_r1 : List Cond := [Cond.fieldLink RX5 105 "WeldedRelaysModel" "branchesTold" "I", Cond.fieldLink RX5 89 "WeldedRelaysModel" "at" "I", Cond.fieldLink RX5 102 "WeldedRelaysModel" "relayTold" "I", Cond.methodLink RX5 141 yX5_character, Cond.instanceMethod yX5_character, Cond.selects RX5 yX5_character yX5_character, Cond.initialized RX5, Cond.code yX5_character cX5_character 2 (some .int), Cond.fieldLink RX5 92 "WeldedRelaysModel" "padLength" "I", Cond.fieldLink RX5 25 "WeldedRelaysModel" "pad" "[I", Cond.methodLink RX5 43 yX5_within, Cond.static yX5_within, Cond.code yX5_within cX5_within 3 (some .boolean), Cond.methodLink RX5 99 yX5_isNext, Cond.instanceMethod yX5_isNext, Cond.selects RX5 yX5_isNext yX5_isNext, Cond.code yX5_isNext cX5_isNext 3 (some .boolean), Cond.methodLink RX5 150 yX5_readsBranches, Cond.instanceMethod yX5_readsBranches, Cond.selects RX5 yX5_readsBranches yX5_readsBranches, Cond.code yX5_readsBranches cX5_readsBranches 2 (some .boolean), Cond.methodLink RX5 147 yX5_readsBranch, Cond.instanceMethod yX5_readsBranch, Cond.selects RX5 yX5_readsBranch yX5_readsBranch]
def wsX5_readsCircuit_r2 : List Cond := [Cond.code yX5_readsBranch cX5_readsBranch 5 (some .boolean), Cond.fieldLink RX5 28 "WeldedRelaysModel" "told" "[I", Cond.methodLink RX5 144 yX5_contactOf, Cond.static yX5_contactOf, Cond.code yX5_contactOf cX5_contactOf 1 (some .int)]
def wsX5_readsCircuit : List Cond := .code yX5_readsCircuit cX5_readsCircuit 2 (some .boolean) :: ((wsX5_readsCircuit_r1 ++ wsX5_readsCircuit_r2) ++ wsX50)
def wsX5_findFault_r1 : List Cond := [Cond.fieldLink RX5 89 "WeldedRelaysModel" "at" "I", Cond.fieldLink RX5 92 "WeldedRelaysModel" "padLength" "I", Cond.methodLink RX5 95 yX5_readsCircuit, Cond.instanceMethod yX5_readsCircuit, Cond.selects RX5 yX5_readsCircuit yX5_readsCircuit, Cond.initialized RX5, Cond.code yX5_readsCircuit cX5_readsCircuit 2 (some .boolean), Cond.fieldLink RX5 105 "WeldedRelaysModel" "branchesTold" "I", Cond.fieldLink RX5 102 "WeldedRelaysModel" "relayTold" "I", Cond.methodLink RX5 141 yX5_character, Cond.instanceMethod yX5_character, Cond.selects RX5 yX5_character yX5_character, Cond.code yX5_character cX5_character 2 (some .int), Cond.fieldLink RX5 25 "WeldedRelaysModel" "pad" "[I", Cond.methodLink RX5 43 yX5_within, Cond.static yX5_within, Cond.code yX5_within cX5_within 3 (some .boolean), Cond.methodLink RX5 99 yX5_isNext, Cond.instanceMethod yX5_isNext, Cond.selects RX5 yX5_isNext yX5_isNext, Cond.code yX5_isNext cX5_isNext 3 (some .boolean), Cond.methodLink RX5 150 yX5_readsBranches, Cond.instanceMethod yX5_readsBranches, Cond.selects RX5 yX5_readsBranches yX5_readsBranches]
def wsX5_findFault_r2 : List Cond := [Cond.code yX5_readsBranches cX5_readsBranches 2 (some .boolean), Cond.methodLink RX5 147 yX5_readsBranch, Cond.instanceMethod yX5_readsBranch, Cond.selects RX5 yX5_readsBranch yX5_readsBranch, Cond.code yX5_readsBranch cX5_readsBranch 5 (some .boolean), Cond.fieldLink RX5 28 "WeldedRelaysModel" "told" "[I", Cond.methodLink RX5 144 yX5_contactOf, Cond.static yX5_contactOf, Cond.code yX5_contactOf cX5_contactOf 1 (some .int)]
def wsX5_findFault : List Cond := .code yX5_findFault cX5_findFault 1 (some .int) :: ((wsX5_findFault_r1 ++ wsX5_findFault_r2) ++ wsX50)
def wsX5_read_r1 : List Cond := [Cond.fieldLink RX5 89 "WeldedRelaysModel" "at" "I", Cond.fieldLink RX5 92 "WeldedRelaysModel" "padLength" "I", Cond.fieldLink RX5 102 "WeldedRelaysModel" "relayTold" "I", Cond.fieldLink RX5 105 "WeldedRelaysModel" "branchesTold" "I", Cond.fieldLink RX5 28 "WeldedRelaysModel" "told" "[I", Cond.methodLink RX5 86 yX5_findFault, Cond.instanceMethod yX5_findFault, Cond.selects RX5 yX5_findFault yX5_findFault, Cond.initialized RX5, Cond.code yX5_findFault cX5_findFault 1 (some .int), Cond.methodLink RX5 95 yX5_readsCircuit, Cond.instanceMethod yX5_readsCircuit, Cond.selects RX5 yX5_readsCircuit yX5_readsCircuit, Cond.code yX5_readsCircuit cX5_readsCircuit 2 (some .boolean), Cond.methodLink RX5 141 yX5_character, Cond.instanceMethod yX5_character, Cond.selects RX5 yX5_character yX5_character, Cond.code yX5_character cX5_character 2 (some .int), Cond.fieldLink RX5 25 "WeldedRelaysModel" "pad" "[I", Cond.methodLink RX5 43 yX5_within, Cond.static yX5_within, Cond.code yX5_within cX5_within 3 (some .boolean), Cond.methodLink RX5 99 yX5_isNext, Cond.instanceMethod yX5_isNext]
def wsX5_read_r2 : List Cond := [Cond.selects RX5 yX5_isNext yX5_isNext, Cond.code yX5_isNext cX5_isNext 3 (some .boolean), Cond.methodLink RX5 150 yX5_readsBranches, Cond.instanceMethod yX5_readsBranches, Cond.selects RX5 yX5_readsBranches yX5_readsBranches, Cond.code yX5_readsBranches cX5_readsBranches 2 (some .boolean), Cond.methodLink RX5 147 yX5_readsBranch, Cond.instanceMethod yX5_readsBranch, Cond.selects RX5 yX5_readsBranch yX5_readsBranch, Cond.code yX5_readsBranch cX5_readsBranch 5 (some .boolean), Cond.methodLink RX5 144 yX5_contactOf, Cond.static yX5_contactOf, Cond.code yX5_contactOf cX5_contactOf 1 (some .int), Cond.methodLink RX5 83 yX5_record, Cond.instanceMethod yX5_record, Cond.selects RX5 yX5_record yX5_record, Cond.code yX5_record cX5_record 2 none, Cond.fieldLink RX5 35 "WeldedRelaysModel" "recorded" "I", Cond.fieldLink RX5 16 "WeldedRelaysModel" "history" "[I", Cond.fieldLink RX5 7 "WeldedRelaysModel" "state" "[I", Cond.methodLink RX5 39 yX5_moves, Cond.static yX5_moves, Cond.code yX5_moves cX5_moves 5 none, Cond.methodLink RX5 31 yX5_setPart]
def wsX5_read_r3 : List Cond := [Cond.instanceMethod yX5_setPart, Cond.selects RX5 yX5_setPart yX5_setPart, Cond.code yX5_setPart cX5_setPart 4 none, Cond.methodLink RX5 108 yX5_relaysWithBranches, Cond.instanceMethod yX5_relaysWithBranches, Cond.selects RX5 yX5_relaysWithBranches yX5_relaysWithBranches, Cond.code yX5_relaysWithBranches cX5_relaysWithBranches 3 (some .int), Cond.methodLink RX5 47 yX5_part, Cond.instanceMethod yX5_part, Cond.selects RX5 yX5_part yX5_part, Cond.code yX5_part cX5_part 3 (some .int)]
def wsX5_read : List Cond := .code yX5_read cX5_read 2 (some .int) :: ((wsX5_read_r1 ++ (wsX5_read_r2 ++ wsX5_read_r3)) ++ wsX50)
def wsX5_press_r1 : List Cond := [Cond.fieldLink RX5 7 "WeldedRelaysModel" "state" "[I", Cond.methodLink RX5 43 yX5_within, Cond.static yX5_within, Cond.initialized RX5, Cond.code yX5_within cX5_within 3 (some .boolean), Cond.methodLink RX5 67 yX5_has, Cond.static yX5_has, Cond.code yX5_has cX5_has 2 (some .boolean), Cond.methodLink RX5 83 yX5_record, Cond.instanceMethod yX5_record, Cond.selects RX5 yX5_record yX5_record, Cond.code yX5_record cX5_record 2 none, Cond.fieldLink RX5 35 "WeldedRelaysModel" "recorded" "I", Cond.fieldLink RX5 16 "WeldedRelaysModel" "history" "[I", Cond.methodLink RX5 39 yX5_moves, Cond.static yX5_moves, Cond.code yX5_moves cX5_moves 5 none, Cond.methodLink RX5 70 yX5_wanting, Cond.instanceMethod yX5_wanting, Cond.selects RX5 yX5_wanting yX5_wanting, Cond.code yX5_wanting cX5_wanting 2 (some .int), Cond.methodLink RX5 63 yX5_fed, Cond.instanceMethod yX5_fed, Cond.selects RX5 yX5_fed yX5_fed]
def wsX5_press_r2 : List Cond := [Cond.code yX5_fed cX5_fed 3 (some .int), Cond.methodLink RX5 59 yX5_isFed, Cond.instanceMethod yX5_isFed, Cond.selects RX5 yX5_isFed yX5_isFed, Cond.code yX5_isFed cX5_isFed 4 (some .boolean), Cond.methodLink RX5 47 yX5_part, Cond.instanceMethod yX5_part, Cond.selects RX5 yX5_part yX5_part, Cond.code yX5_part cX5_part 3 (some .int), Cond.methodLink RX5 55 yX5_isClosed, Cond.instanceMethod yX5_isClosed, Cond.selects RX5 yX5_isClosed yX5_isClosed, Cond.code yX5_isClosed cX5_isClosed 4 (some .boolean), Cond.methodLink RX5 51 yX5_ofBranch, Cond.instanceMethod yX5_ofBranch, Cond.selects RX5 yX5_ofBranch yX5_ofBranch, Cond.code yX5_ofBranch cX5_ofBranch 4 (some .int)]
def wsX5_press : List Cond := .code yX5_press cX5_press 3 (some .int) :: ((wsX5_press_r1 ++ wsX5_press_r2) ++ wsX50)
def wsX5_weld_r1 : List Cond := [Cond.fieldLink RX5 7 "WeldedRelaysModel" "state" "[I", Cond.methodLink RX5 80 yX5_isRelay, Cond.static yX5_isRelay, Cond.initialized RX5, Cond.code yX5_isRelay cX5_isRelay 1 (some .boolean), Cond.methodLink RX5 43 yX5_within, Cond.static yX5_within, Cond.code yX5_within cX5_within 3 (some .boolean), Cond.methodLink RX5 67 yX5_has, Cond.static yX5_has, Cond.code yX5_has cX5_has 2 (some .boolean), Cond.methodLink RX5 83 yX5_record, Cond.instanceMethod yX5_record, Cond.selects RX5 yX5_record yX5_record, Cond.code yX5_record cX5_record 2 none, Cond.fieldLink RX5 35 "WeldedRelaysModel" "recorded" "I", Cond.fieldLink RX5 16 "WeldedRelaysModel" "history" "[I", Cond.methodLink RX5 39 yX5_moves, Cond.static yX5_moves, Cond.code yX5_moves cX5_moves 5 none, Cond.methodLink RX5 47 yX5_part, Cond.instanceMethod yX5_part, Cond.selects RX5 yX5_part yX5_part, Cond.code yX5_part cX5_part 3 (some .int)]
def wsX5_weld_r2 : List Cond := [Cond.methodLink RX5 31 yX5_setPart, Cond.instanceMethod yX5_setPart, Cond.selects RX5 yX5_setPart yX5_setPart, Cond.code yX5_setPart cX5_setPart 4 none]
def wsX5_weld : List Cond := .code yX5_weld cX5_weld 4 (some .int) :: ((wsX5_weld_r1 ++ wsX5_weld_r2) ++ wsX50)
def wsX5_passes_r1 : List Cond := [Cond.fieldLink RX5 7 "WeldedRelaysModel" "state" "[I", Cond.methodLink RX5 77 yX5_tick, Cond.instanceMethod yX5_tick, Cond.selects RX5 yX5_tick yX5_tick, Cond.initialized RX5, Cond.code yX5_tick cX5_tick 3 none, Cond.methodLink RX5 70 yX5_wanting, Cond.instanceMethod yX5_wanting, Cond.selects RX5 yX5_wanting yX5_wanting, Cond.code yX5_wanting cX5_wanting 2 (some .int), Cond.methodLink RX5 63 yX5_fed, Cond.instanceMethod yX5_fed, Cond.selects RX5 yX5_fed yX5_fed, Cond.code yX5_fed cX5_fed 3 (some .int), Cond.methodLink RX5 59 yX5_isFed, Cond.instanceMethod yX5_isFed, Cond.selects RX5 yX5_isFed yX5_isFed, Cond.code yX5_isFed cX5_isFed 4 (some .boolean), Cond.methodLink RX5 47 yX5_part, Cond.instanceMethod yX5_part, Cond.selects RX5 yX5_part yX5_part, Cond.code yX5_part cX5_part 3 (some .int), Cond.methodLink RX5 55 yX5_isClosed, Cond.instanceMethod yX5_isClosed]
def wsX5_passes_r2 : List Cond := [Cond.selects RX5 yX5_isClosed yX5_isClosed, Cond.code yX5_isClosed cX5_isClosed 4 (some .boolean), Cond.methodLink RX5 51 yX5_ofBranch, Cond.instanceMethod yX5_ofBranch, Cond.selects RX5 yX5_ofBranch yX5_ofBranch, Cond.code yX5_ofBranch cX5_ofBranch 4 (some .int), Cond.methodLink RX5 67 yX5_has, Cond.static yX5_has, Cond.code yX5_has cX5_has 2 (some .boolean), Cond.methodLink RX5 31 yX5_setPart, Cond.instanceMethod yX5_setPart, Cond.selects RX5 yX5_setPart yX5_setPart, Cond.code yX5_setPart cX5_setPart 4 none, Cond.methodLink RX5 73 yX5_moveRelay, Cond.instanceMethod yX5_moveRelay, Cond.selects RX5 yX5_moveRelay yX5_moveRelay, Cond.code yX5_moveRelay cX5_moveRelay 3 none]
def wsX5_passes : List Cond := .code yX5_passes cX5_passes 4 (some .int) :: ((wsX5_passes_r1 ++ wsX5_passes_r2) ++ wsX50)
def wsX5_pass_r1 : List Cond := [Cond.methodLink RX5 43 yX5_within, Cond.static yX5_within, Cond.initialized RX5, Cond.code yX5_within cX5_within 3 (some .boolean), Cond.methodLink RX5 83 yX5_record, Cond.instanceMethod yX5_record, Cond.selects RX5 yX5_record yX5_record, Cond.code yX5_record cX5_record 2 none, Cond.fieldLink RX5 35 "WeldedRelaysModel" "recorded" "I", Cond.fieldLink RX5 16 "WeldedRelaysModel" "history" "[I", Cond.fieldLink RX5 7 "WeldedRelaysModel" "state" "[I", Cond.methodLink RX5 39 yX5_moves, Cond.static yX5_moves, Cond.code yX5_moves cX5_moves 5 none, Cond.methodLink RX5 111 yX5_passes, Cond.instanceMethod yX5_passes, Cond.selects RX5 yX5_passes yX5_passes, Cond.code yX5_passes cX5_passes 4 (some .int), Cond.methodLink RX5 77 yX5_tick, Cond.instanceMethod yX5_tick, Cond.selects RX5 yX5_tick yX5_tick, Cond.code yX5_tick cX5_tick 3 none, Cond.methodLink RX5 70 yX5_wanting, Cond.instanceMethod yX5_wanting]
def wsX5_pass_r2 : List Cond := [Cond.selects RX5 yX5_wanting yX5_wanting, Cond.code yX5_wanting cX5_wanting 2 (some .int), Cond.methodLink RX5 63 yX5_fed, Cond.instanceMethod yX5_fed, Cond.selects RX5 yX5_fed yX5_fed, Cond.code yX5_fed cX5_fed 3 (some .int), Cond.methodLink RX5 59 yX5_isFed, Cond.instanceMethod yX5_isFed, Cond.selects RX5 yX5_isFed yX5_isFed, Cond.code yX5_isFed cX5_isFed 4 (some .boolean), Cond.methodLink RX5 47 yX5_part, Cond.instanceMethod yX5_part, Cond.selects RX5 yX5_part yX5_part, Cond.code yX5_part cX5_part 3 (some .int), Cond.methodLink RX5 55 yX5_isClosed, Cond.instanceMethod yX5_isClosed, Cond.selects RX5 yX5_isClosed yX5_isClosed, Cond.code yX5_isClosed cX5_isClosed 4 (some .boolean), Cond.methodLink RX5 51 yX5_ofBranch, Cond.instanceMethod yX5_ofBranch, Cond.selects RX5 yX5_ofBranch yX5_ofBranch, Cond.code yX5_ofBranch cX5_ofBranch 4 (some .int), Cond.methodLink RX5 67 yX5_has, Cond.static yX5_has]
def wsX5_pass_r3 : List Cond := [Cond.code yX5_has cX5_has 2 (some .boolean), Cond.methodLink RX5 31 yX5_setPart, Cond.instanceMethod yX5_setPart, Cond.selects RX5 yX5_setPart yX5_setPart, Cond.code yX5_setPart cX5_setPart 4 none, Cond.methodLink RX5 73 yX5_moveRelay, Cond.instanceMethod yX5_moveRelay, Cond.selects RX5 yX5_moveRelay yX5_moveRelay, Cond.code yX5_moveRelay cX5_moveRelay 3 none]
def wsX5_pass : List Cond := .code yX5_pass cX5_pass 2 (some .int) :: ((wsX5_pass_r1 ++ (wsX5_pass_r2 ++ wsX5_pass_r3)) ++ wsX50)
def wsX5_settle_r1 : List Cond := [Cond.methodLink RX5 83 yX5_record, Cond.instanceMethod yX5_record, Cond.selects RX5 yX5_record yX5_record, Cond.initialized RX5, Cond.code yX5_record cX5_record 2 none, Cond.fieldLink RX5 35 "WeldedRelaysModel" "recorded" "I", Cond.fieldLink RX5 16 "WeldedRelaysModel" "history" "[I", Cond.fieldLink RX5 7 "WeldedRelaysModel" "state" "[I", Cond.methodLink RX5 39 yX5_moves, Cond.static yX5_moves, Cond.code yX5_moves cX5_moves 5 none, Cond.methodLink RX5 115 yX5_settles, Cond.instanceMethod yX5_settles, Cond.selects RX5 yX5_settles yX5_settles, Cond.code yX5_settles cX5_settles 2 (some .int), Cond.methodLink RX5 70 yX5_wanting, Cond.instanceMethod yX5_wanting, Cond.selects RX5 yX5_wanting yX5_wanting, Cond.code yX5_wanting cX5_wanting 2 (some .int), Cond.methodLink RX5 63 yX5_fed, Cond.instanceMethod yX5_fed, Cond.selects RX5 yX5_fed yX5_fed, Cond.code yX5_fed cX5_fed 3 (some .int), Cond.methodLink RX5 59 yX5_isFed]
def wsX5_settle_r2 : List Cond := [Cond.instanceMethod yX5_isFed, Cond.selects RX5 yX5_isFed yX5_isFed, Cond.code yX5_isFed cX5_isFed 4 (some .boolean), Cond.methodLink RX5 47 yX5_part, Cond.instanceMethod yX5_part, Cond.selects RX5 yX5_part yX5_part, Cond.code yX5_part cX5_part 3 (some .int), Cond.methodLink RX5 55 yX5_isClosed, Cond.instanceMethod yX5_isClosed, Cond.selects RX5 yX5_isClosed yX5_isClosed, Cond.code yX5_isClosed cX5_isClosed 4 (some .boolean), Cond.methodLink RX5 51 yX5_ofBranch, Cond.instanceMethod yX5_ofBranch, Cond.selects RX5 yX5_ofBranch yX5_ofBranch, Cond.code yX5_ofBranch cX5_ofBranch 4 (some .int), Cond.methodLink RX5 77 yX5_tick, Cond.instanceMethod yX5_tick, Cond.selects RX5 yX5_tick yX5_tick, Cond.code yX5_tick cX5_tick 3 none, Cond.methodLink RX5 67 yX5_has, Cond.static yX5_has, Cond.code yX5_has cX5_has 2 (some .boolean), Cond.methodLink RX5 31 yX5_setPart, Cond.instanceMethod yX5_setPart]
def wsX5_settle_r3 : List Cond := [Cond.selects RX5 yX5_setPart yX5_setPart, Cond.code yX5_setPart cX5_setPart 4 none, Cond.methodLink RX5 73 yX5_moveRelay, Cond.instanceMethod yX5_moveRelay, Cond.selects RX5 yX5_moveRelay yX5_moveRelay, Cond.code yX5_moveRelay cX5_moveRelay 3 none]
def wsX5_settle : List Cond := .code yX5_settle cX5_settle 2 (some .int) :: ((wsX5_settle_r1 ++ (wsX5_settle_r2 ++ wsX5_settle_r3)) ++ wsX50)
def wsX5_holdsItself : List Cond := .code yX5_holdsItself cX5_holdsItself 4 (some .boolean) :: ([.methodLink RX5 47 yX5_part, .instanceMethod yX5_part, .selects RX5 yX5_part yX5_part, .initialized RX5, .code yX5_part cX5_part 3 (some .int), .fieldLink RX5 7 "WeldedRelaysModel" "state" "[I", .methodLink RX5 51 yX5_ofBranch, .instanceMethod yX5_ofBranch, .selects RX5 yX5_ofBranch yX5_ofBranch, .code yX5_ofBranch cX5_ofBranch 4 (some .int), .methodLink RX5 67 yX5_has, .static yX5_has, .code yX5_has cX5_has 2 (some .boolean)] ++ wsX50)
def wsX5_relaysWith : List Cond := .code yX5_relaysWith cX5_relaysWith 5 (some .int) :: ([.methodLink RX5 47 yX5_part, .instanceMethod yX5_part, .selects RX5 yX5_part yX5_part, .initialized RX5, .code yX5_part cX5_part 3 (some .int), .fieldLink RX5 7 "WeldedRelaysModel" "state" "[I", .methodLink RX5 51 yX5_ofBranch, .instanceMethod yX5_ofBranch, .selects RX5 yX5_ofBranch yX5_ofBranch, .code yX5_ofBranch cX5_ofBranch 4 (some .int), .methodLink RX5 67 yX5_has, .static yX5_has, .code yX5_has cX5_has 2 (some .boolean)] ++ wsX50)
def wsX5_relay_r1 : List Cond := [Cond.fieldLink RX5 7 "WeldedRelaysModel" "state" "[I", Cond.methodLink RX5 80 yX5_isRelay, Cond.static yX5_isRelay, Cond.initialized RX5, Cond.code yX5_isRelay cX5_isRelay 1 (some .boolean), Cond.methodLink RX5 43 yX5_within, Cond.static yX5_within, Cond.code yX5_within cX5_within 3 (some .boolean), Cond.methodLink RX5 59 yX5_isFed, Cond.instanceMethod yX5_isFed, Cond.selects RX5 yX5_isFed yX5_isFed, Cond.code yX5_isFed cX5_isFed 4 (some .boolean), Cond.methodLink RX5 47 yX5_part, Cond.instanceMethod yX5_part, Cond.selects RX5 yX5_part yX5_part, Cond.code yX5_part cX5_part 3 (some .int), Cond.methodLink RX5 55 yX5_isClosed, Cond.instanceMethod yX5_isClosed, Cond.selects RX5 yX5_isClosed yX5_isClosed, Cond.code yX5_isClosed cX5_isClosed 4 (some .boolean), Cond.methodLink RX5 51 yX5_ofBranch, Cond.instanceMethod yX5_ofBranch, Cond.selects RX5 yX5_ofBranch yX5_ofBranch, Cond.code yX5_ofBranch cX5_ofBranch 4 (some .int)]
def wsX5_relay_r2 : List Cond := [Cond.methodLink RX5 70 yX5_wanting, Cond.instanceMethod yX5_wanting, Cond.selects RX5 yX5_wanting yX5_wanting, Cond.code yX5_wanting cX5_wanting 2 (some .int), Cond.methodLink RX5 63 yX5_fed, Cond.instanceMethod yX5_fed, Cond.selects RX5 yX5_fed yX5_fed, Cond.code yX5_fed cX5_fed 3 (some .int), Cond.methodLink RX5 118 yX5_holdsItself, Cond.instanceMethod yX5_holdsItself, Cond.selects RX5 yX5_holdsItself yX5_holdsItself, Cond.code yX5_holdsItself cX5_holdsItself 4 (some .boolean), Cond.methodLink RX5 67 yX5_has, Cond.static yX5_has, Cond.code yX5_has cX5_has 2 (some .boolean), Cond.methodLink RX5 121 yX5_relaysWith, Cond.instanceMethod yX5_relaysWith, Cond.selects RX5 yX5_relaysWith yX5_relaysWith, Cond.code yX5_relaysWith cX5_relaysWith 5 (some .int)]
def wsX5_relay : List Cond := .code yX5_relay cX5_relay 3 (some .int) :: ((wsX5_relay_r1 ++ wsX5_relay_r2) ++ wsX50)
def wsX5_branch : List Cond := .code yX5_branch cX5_branch 5 (some .int) :: ([.methodLink RX5 80 yX5_isRelay, .static yX5_isRelay, .initialized RX5, .code yX5_isRelay cX5_isRelay 1 (some .boolean), .methodLink RX5 43 yX5_within, .static yX5_within, .code yX5_within cX5_within 3 (some .boolean), .methodLink RX5 47 yX5_part, .instanceMethod yX5_part, .selects RX5 yX5_part yX5_part, .code yX5_part cX5_part 3 (some .int), .fieldLink RX5 7 "WeldedRelaysModel" "state" "[I", .methodLink RX5 55 yX5_isClosed, .instanceMethod yX5_isClosed, .selects RX5 yX5_isClosed yX5_isClosed, .code yX5_isClosed cX5_isClosed 4 (some .boolean), .methodLink RX5 51 yX5_ofBranch, .instanceMethod yX5_ofBranch, .selects RX5 yX5_ofBranch yX5_ofBranch, .code yX5_ofBranch cX5_ofBranch 4 (some .int)] ++ wsX50)
def wsX5_neverClosed : List Cond := .code yX5_neverClosed cX5_neverClosed 4 (some .int) :: ([.methodLink RX5 47 yX5_part, .instanceMethod yX5_part, .selects RX5 yX5_part yX5_part, .initialized RX5, .code yX5_part cX5_part 3 (some .int), .fieldLink RX5 7 "WeldedRelaysModel" "state" "[I", .methodLink RX5 51 yX5_ofBranch, .instanceMethod yX5_ofBranch, .selects RX5 yX5_ofBranch yX5_ofBranch, .code yX5_ofBranch cX5_ofBranch 4 (some .int)] ++ wsX50)
def wsX5_count_r1 : List Cond := [Cond.fieldLink RX5 7 "WeldedRelaysModel" "state" "[I", Cond.fieldLink RX5 92 "WeldedRelaysModel" "padLength" "I", Cond.fieldLink RX5 35 "WeldedRelaysModel" "recorded" "I", Cond.methodLink RX5 63 yX5_fed, Cond.instanceMethod yX5_fed, Cond.selects RX5 yX5_fed yX5_fed, Cond.initialized RX5, Cond.code yX5_fed cX5_fed 3 (some .int), Cond.methodLink RX5 59 yX5_isFed, Cond.instanceMethod yX5_isFed, Cond.selects RX5 yX5_isFed yX5_isFed, Cond.code yX5_isFed cX5_isFed 4 (some .boolean), Cond.methodLink RX5 47 yX5_part, Cond.instanceMethod yX5_part, Cond.selects RX5 yX5_part yX5_part, Cond.code yX5_part cX5_part 3 (some .int), Cond.methodLink RX5 55 yX5_isClosed, Cond.instanceMethod yX5_isClosed, Cond.selects RX5 yX5_isClosed yX5_isClosed, Cond.code yX5_isClosed cX5_isClosed 4 (some .boolean), Cond.methodLink RX5 51 yX5_ofBranch, Cond.instanceMethod yX5_ofBranch, Cond.selects RX5 yX5_ofBranch yX5_ofBranch, Cond.code yX5_ofBranch cX5_ofBranch 4 (some .int)]
def wsX5_count_r2 : List Cond := [Cond.methodLink RX5 70 yX5_wanting, Cond.instanceMethod yX5_wanting, Cond.selects RX5 yX5_wanting yX5_wanting, Cond.code yX5_wanting cX5_wanting 2 (some .int), Cond.methodLink RX5 108 yX5_relaysWithBranches, Cond.instanceMethod yX5_relaysWithBranches, Cond.selects RX5 yX5_relaysWithBranches yX5_relaysWithBranches, Cond.code yX5_relaysWithBranches cX5_relaysWithBranches 3 (some .int), Cond.methodLink RX5 124 yX5_neverClosed, Cond.instanceMethod yX5_neverClosed, Cond.selects RX5 yX5_neverClosed yX5_neverClosed, Cond.code yX5_neverClosed cX5_neverClosed 4 (some .int)]
def wsX5_count : List Cond := .code yX5_count cX5_count 2 (some .int) :: ((wsX5_count_r1 ++ wsX5_count_r2) ++ wsX50)
def wsX5_isSet : List Cond := .code yX5_isSet cX5_isSet 1 (some .boolean) :: ([.methodLink RX5 43 yX5_within, .static yX5_within, .initialized RX5, .code yX5_within cX5_within 3 (some .boolean)])
def wsX5_ifPressed_r1 : List Cond := [Cond.fieldLink RX5 7 "WeldedRelaysModel" "state" "[I", Cond.fieldLink RX5 13 "WeldedRelaysModel" "kept" "[I", Cond.methodLink RX5 127 yX5_isSet, Cond.static yX5_isSet, Cond.initialized RX5, Cond.code yX5_isSet cX5_isSet 1 (some .boolean), Cond.methodLink RX5 43 yX5_within, Cond.static yX5_within, Cond.code yX5_within cX5_within 3 (some .boolean), Cond.methodLink RX5 39 yX5_moves, Cond.static yX5_moves, Cond.code yX5_moves cX5_moves 5 none, Cond.methodLink RX5 111 yX5_passes, Cond.instanceMethod yX5_passes, Cond.selects RX5 yX5_passes yX5_passes, Cond.code yX5_passes cX5_passes 4 (some .int), Cond.methodLink RX5 77 yX5_tick, Cond.instanceMethod yX5_tick, Cond.selects RX5 yX5_tick yX5_tick, Cond.code yX5_tick cX5_tick 3 none, Cond.methodLink RX5 70 yX5_wanting, Cond.instanceMethod yX5_wanting, Cond.selects RX5 yX5_wanting yX5_wanting, Cond.code yX5_wanting cX5_wanting 2 (some .int)]
def wsX5_ifPressed_r2 : List Cond := [Cond.methodLink RX5 63 yX5_fed, Cond.instanceMethod yX5_fed, Cond.selects RX5 yX5_fed yX5_fed, Cond.code yX5_fed cX5_fed 3 (some .int), Cond.methodLink RX5 59 yX5_isFed, Cond.instanceMethod yX5_isFed, Cond.selects RX5 yX5_isFed yX5_isFed, Cond.code yX5_isFed cX5_isFed 4 (some .boolean), Cond.methodLink RX5 47 yX5_part, Cond.instanceMethod yX5_part, Cond.selects RX5 yX5_part yX5_part, Cond.code yX5_part cX5_part 3 (some .int), Cond.methodLink RX5 55 yX5_isClosed, Cond.instanceMethod yX5_isClosed, Cond.selects RX5 yX5_isClosed yX5_isClosed, Cond.code yX5_isClosed cX5_isClosed 4 (some .boolean), Cond.methodLink RX5 51 yX5_ofBranch, Cond.instanceMethod yX5_ofBranch, Cond.selects RX5 yX5_ofBranch yX5_ofBranch, Cond.code yX5_ofBranch cX5_ofBranch 4 (some .int), Cond.methodLink RX5 67 yX5_has, Cond.static yX5_has, Cond.code yX5_has cX5_has 2 (some .boolean), Cond.methodLink RX5 31 yX5_setPart]
def wsX5_ifPressed_r3 : List Cond := [Cond.instanceMethod yX5_setPart, Cond.selects RX5 yX5_setPart yX5_setPart, Cond.code yX5_setPart cX5_setPart 4 none, Cond.methodLink RX5 73 yX5_moveRelay, Cond.instanceMethod yX5_moveRelay, Cond.selects RX5 yX5_moveRelay yX5_moveRelay, Cond.code yX5_moveRelay cX5_moveRelay 3 none]
def wsX5_ifPressed : List Cond := .code yX5_ifPressed cX5_ifPressed 4 (some .int) :: ((wsX5_ifPressed_r1 ++ (wsX5_ifPressed_r2 ++ wsX5_ifPressed_r3)) ++ wsX50)
def wsX5_restWith_r1 : List Cond := [Cond.fieldLink RX5 7 "WeldedRelaysModel" "state" "[I", Cond.fieldLink RX5 13 "WeldedRelaysModel" "kept" "[I", Cond.methodLink RX5 115 yX5_settles, Cond.instanceMethod yX5_settles, Cond.selects RX5 yX5_settles yX5_settles, Cond.initialized RX5, Cond.code yX5_settles cX5_settles 2 (some .int), Cond.methodLink RX5 70 yX5_wanting, Cond.instanceMethod yX5_wanting, Cond.selects RX5 yX5_wanting yX5_wanting, Cond.code yX5_wanting cX5_wanting 2 (some .int), Cond.methodLink RX5 63 yX5_fed, Cond.instanceMethod yX5_fed, Cond.selects RX5 yX5_fed yX5_fed, Cond.code yX5_fed cX5_fed 3 (some .int), Cond.methodLink RX5 59 yX5_isFed, Cond.instanceMethod yX5_isFed, Cond.selects RX5 yX5_isFed yX5_isFed, Cond.code yX5_isFed cX5_isFed 4 (some .boolean), Cond.methodLink RX5 47 yX5_part, Cond.instanceMethod yX5_part, Cond.selects RX5 yX5_part yX5_part, Cond.code yX5_part cX5_part 3 (some .int), Cond.methodLink RX5 55 yX5_isClosed]
def wsX5_restWith_r2 : List Cond := [Cond.instanceMethod yX5_isClosed, Cond.selects RX5 yX5_isClosed yX5_isClosed, Cond.code yX5_isClosed cX5_isClosed 4 (some .boolean), Cond.methodLink RX5 51 yX5_ofBranch, Cond.instanceMethod yX5_ofBranch, Cond.selects RX5 yX5_ofBranch yX5_ofBranch, Cond.code yX5_ofBranch cX5_ofBranch 4 (some .int), Cond.methodLink RX5 77 yX5_tick, Cond.instanceMethod yX5_tick, Cond.selects RX5 yX5_tick yX5_tick, Cond.code yX5_tick cX5_tick 3 none, Cond.methodLink RX5 67 yX5_has, Cond.static yX5_has, Cond.code yX5_has cX5_has 2 (some .boolean), Cond.methodLink RX5 31 yX5_setPart, Cond.instanceMethod yX5_setPart, Cond.selects RX5 yX5_setPart yX5_setPart, Cond.code yX5_setPart cX5_setPart 4 none, Cond.methodLink RX5 73 yX5_moveRelay, Cond.instanceMethod yX5_moveRelay, Cond.selects RX5 yX5_moveRelay yX5_moveRelay, Cond.code yX5_moveRelay cX5_moveRelay 3 none, Cond.methodLink RX5 39 yX5_moves, Cond.static yX5_moves]
def wsX5_restWith_r3 : List Cond := [Cond.code yX5_moves cX5_moves 5 none]
def wsX5_restWith : List Cond := .code yX5_restWith cX5_restWith 6 (some .int) :: ((wsX5_restWith_r1 ++ (wsX5_restWith_r2 ++ wsX5_restWith_r3)) ++ wsX50)
def wsX5_rest_r1 : List Cond := [Cond.fieldLink RX5 7 "WeldedRelaysModel" "state" "[I", Cond.fieldLink RX5 13 "WeldedRelaysModel" "kept" "[I", Cond.methodLink RX5 127 yX5_isSet, Cond.static yX5_isSet, Cond.initialized RX5, Cond.code yX5_isSet cX5_isSet 1 (some .boolean), Cond.methodLink RX5 43 yX5_within, Cond.static yX5_within, Cond.code yX5_within cX5_within 3 (some .boolean), Cond.methodLink RX5 39 yX5_moves, Cond.static yX5_moves, Cond.code yX5_moves cX5_moves 5 none, Cond.methodLink RX5 130 yX5_restWith, Cond.instanceMethod yX5_restWith, Cond.selects RX5 yX5_restWith yX5_restWith, Cond.code yX5_restWith cX5_restWith 6 (some .int), Cond.methodLink RX5 115 yX5_settles, Cond.instanceMethod yX5_settles, Cond.selects RX5 yX5_settles yX5_settles, Cond.code yX5_settles cX5_settles 2 (some .int), Cond.methodLink RX5 70 yX5_wanting, Cond.instanceMethod yX5_wanting, Cond.selects RX5 yX5_wanting yX5_wanting, Cond.code yX5_wanting cX5_wanting 2 (some .int)]
def wsX5_rest_r2 : List Cond := [Cond.methodLink RX5 63 yX5_fed, Cond.instanceMethod yX5_fed, Cond.selects RX5 yX5_fed yX5_fed, Cond.code yX5_fed cX5_fed 3 (some .int), Cond.methodLink RX5 59 yX5_isFed, Cond.instanceMethod yX5_isFed, Cond.selects RX5 yX5_isFed yX5_isFed, Cond.code yX5_isFed cX5_isFed 4 (some .boolean), Cond.methodLink RX5 47 yX5_part, Cond.instanceMethod yX5_part, Cond.selects RX5 yX5_part yX5_part, Cond.code yX5_part cX5_part 3 (some .int), Cond.methodLink RX5 55 yX5_isClosed, Cond.instanceMethod yX5_isClosed, Cond.selects RX5 yX5_isClosed yX5_isClosed, Cond.code yX5_isClosed cX5_isClosed 4 (some .boolean), Cond.methodLink RX5 51 yX5_ofBranch, Cond.instanceMethod yX5_ofBranch, Cond.selects RX5 yX5_ofBranch yX5_ofBranch, Cond.code yX5_ofBranch cX5_ofBranch 4 (some .int), Cond.methodLink RX5 77 yX5_tick, Cond.instanceMethod yX5_tick, Cond.selects RX5 yX5_tick yX5_tick, Cond.code yX5_tick cX5_tick 3 none]
def wsX5_rest_r3 : List Cond := [Cond.methodLink RX5 67 yX5_has, Cond.static yX5_has, Cond.code yX5_has cX5_has 2 (some .boolean), Cond.methodLink RX5 31 yX5_setPart, Cond.instanceMethod yX5_setPart, Cond.selects RX5 yX5_setPart yX5_setPart, Cond.code yX5_setPart cX5_setPart 4 none, Cond.methodLink RX5 73 yX5_moveRelay, Cond.instanceMethod yX5_moveRelay, Cond.selects RX5 yX5_moveRelay yX5_moveRelay, Cond.code yX5_moveRelay cX5_moveRelay 3 none]
def wsX5_rest : List Cond := .code yX5_rest cX5_rest 3 (some .int) :: ((wsX5_rest_r1 ++ (wsX5_rest_r2 ++ wsX5_rest_r3)) ++ wsX50)
def wsX5_race_r1 : List Cond := [Cond.fieldLink RX5 7 "WeldedRelaysModel" "state" "[I", Cond.fieldLink RX5 13 "WeldedRelaysModel" "kept" "[I", Cond.methodLink RX5 127 yX5_isSet, Cond.static yX5_isSet, Cond.initialized RX5, Cond.code yX5_isSet cX5_isSet 1 (some .boolean), Cond.methodLink RX5 43 yX5_within, Cond.static yX5_within, Cond.code yX5_within cX5_within 3 (some .boolean), Cond.methodLink RX5 39 yX5_moves, Cond.static yX5_moves, Cond.code yX5_moves cX5_moves 5 none, Cond.methodLink RX5 130 yX5_restWith, Cond.instanceMethod yX5_restWith, Cond.selects RX5 yX5_restWith yX5_restWith, Cond.code yX5_restWith cX5_restWith 6 (some .int), Cond.methodLink RX5 115 yX5_settles, Cond.instanceMethod yX5_settles, Cond.selects RX5 yX5_settles yX5_settles, Cond.code yX5_settles cX5_settles 2 (some .int), Cond.methodLink RX5 70 yX5_wanting, Cond.instanceMethod yX5_wanting, Cond.selects RX5 yX5_wanting yX5_wanting, Cond.code yX5_wanting cX5_wanting 2 (some .int)]
def wsX5_race_r2 : List Cond := [Cond.methodLink RX5 63 yX5_fed, Cond.instanceMethod yX5_fed, Cond.selects RX5 yX5_fed yX5_fed, Cond.code yX5_fed cX5_fed 3 (some .int), Cond.methodLink RX5 59 yX5_isFed, Cond.instanceMethod yX5_isFed, Cond.selects RX5 yX5_isFed yX5_isFed, Cond.code yX5_isFed cX5_isFed 4 (some .boolean), Cond.methodLink RX5 47 yX5_part, Cond.instanceMethod yX5_part, Cond.selects RX5 yX5_part yX5_part, Cond.code yX5_part cX5_part 3 (some .int), Cond.methodLink RX5 55 yX5_isClosed, Cond.instanceMethod yX5_isClosed, Cond.selects RX5 yX5_isClosed yX5_isClosed, Cond.code yX5_isClosed cX5_isClosed 4 (some .boolean), Cond.methodLink RX5 51 yX5_ofBranch, Cond.instanceMethod yX5_ofBranch, Cond.selects RX5 yX5_ofBranch yX5_ofBranch, Cond.code yX5_ofBranch cX5_ofBranch 4 (some .int), Cond.methodLink RX5 77 yX5_tick, Cond.instanceMethod yX5_tick, Cond.selects RX5 yX5_tick yX5_tick, Cond.code yX5_tick cX5_tick 3 none]
def wsX5_race_r3 : List Cond := [Cond.methodLink RX5 67 yX5_has, Cond.static yX5_has, Cond.code yX5_has cX5_has 2 (some .boolean), Cond.methodLink RX5 31 yX5_setPart, Cond.instanceMethod yX5_setPart, Cond.selects RX5 yX5_setPart yX5_setPart, Cond.code yX5_setPart cX5_setPart 4 none, Cond.methodLink RX5 73 yX5_moveRelay, Cond.instanceMethod yX5_moveRelay, Cond.selects RX5 yX5_moveRelay yX5_moveRelay, Cond.code yX5_moveRelay cX5_moveRelay 3 none]
def wsX5_race : List Cond := .code yX5_race cX5_race 4 (some .int) :: ((wsX5_race_r1 ++ (wsX5_race_r2 ++ wsX5_race_r3)) ++ wsX50)
def wsX5_upIfWelded_r1 : List Cond := [Cond.fieldLink RX5 7 "WeldedRelaysModel" "state" "[I", Cond.fieldLink RX5 13 "WeldedRelaysModel" "kept" "[I", Cond.methodLink RX5 39 yX5_moves, Cond.static yX5_moves, Cond.initialized RX5, Cond.code yX5_moves cX5_moves 5 none, Cond.methodLink RX5 130 yX5_restWith, Cond.instanceMethod yX5_restWith, Cond.selects RX5 yX5_restWith yX5_restWith, Cond.code yX5_restWith cX5_restWith 6 (some .int), Cond.methodLink RX5 115 yX5_settles, Cond.instanceMethod yX5_settles, Cond.selects RX5 yX5_settles yX5_settles, Cond.code yX5_settles cX5_settles 2 (some .int), Cond.methodLink RX5 70 yX5_wanting, Cond.instanceMethod yX5_wanting, Cond.selects RX5 yX5_wanting yX5_wanting, Cond.code yX5_wanting cX5_wanting 2 (some .int), Cond.methodLink RX5 63 yX5_fed, Cond.instanceMethod yX5_fed, Cond.selects RX5 yX5_fed yX5_fed, Cond.code yX5_fed cX5_fed 3 (some .int), Cond.methodLink RX5 59 yX5_isFed, Cond.instanceMethod yX5_isFed]
def wsX5_upIfWelded_r2 : List Cond := [Cond.selects RX5 yX5_isFed yX5_isFed, Cond.code yX5_isFed cX5_isFed 4 (some .boolean), Cond.methodLink RX5 47 yX5_part, Cond.instanceMethod yX5_part, Cond.selects RX5 yX5_part yX5_part, Cond.code yX5_part cX5_part 3 (some .int), Cond.methodLink RX5 55 yX5_isClosed, Cond.instanceMethod yX5_isClosed, Cond.selects RX5 yX5_isClosed yX5_isClosed, Cond.code yX5_isClosed cX5_isClosed 4 (some .boolean), Cond.methodLink RX5 51 yX5_ofBranch, Cond.instanceMethod yX5_ofBranch, Cond.selects RX5 yX5_ofBranch yX5_ofBranch, Cond.code yX5_ofBranch cX5_ofBranch 4 (some .int), Cond.methodLink RX5 77 yX5_tick, Cond.instanceMethod yX5_tick, Cond.selects RX5 yX5_tick yX5_tick, Cond.code yX5_tick cX5_tick 3 none, Cond.methodLink RX5 67 yX5_has, Cond.static yX5_has, Cond.code yX5_has cX5_has 2 (some .boolean), Cond.methodLink RX5 31 yX5_setPart, Cond.instanceMethod yX5_setPart, Cond.selects RX5 yX5_setPart yX5_setPart]
def wsX5_upIfWelded_r3 : List Cond := [Cond.code yX5_setPart cX5_setPart 4 none, Cond.methodLink RX5 73 yX5_moveRelay, Cond.instanceMethod yX5_moveRelay, Cond.selects RX5 yX5_moveRelay yX5_moveRelay, Cond.code yX5_moveRelay cX5_moveRelay 3 none]
def wsX5_upIfWelded : List Cond := .code yX5_upIfWelded cX5_upIfWelded 4 (some .int) :: ((wsX5_upIfWelded_r1 ++ (wsX5_upIfWelded_r2 ++ wsX5_upIfWelded_r3)) ++ wsX50)
def wsX5_ifWelded_r1 : List Cond := [Cond.methodLink RX5 80 yX5_isRelay, Cond.static yX5_isRelay, Cond.initialized RX5, Cond.code yX5_isRelay cX5_isRelay 1 (some .boolean), Cond.methodLink RX5 43 yX5_within, Cond.static yX5_within, Cond.code yX5_within cX5_within 3 (some .boolean), Cond.methodLink RX5 133 yX5_upIfWelded, Cond.instanceMethod yX5_upIfWelded, Cond.selects RX5 yX5_upIfWelded yX5_upIfWelded, Cond.code yX5_upIfWelded cX5_upIfWelded 4 (some .int), Cond.fieldLink RX5 7 "WeldedRelaysModel" "state" "[I", Cond.fieldLink RX5 13 "WeldedRelaysModel" "kept" "[I", Cond.methodLink RX5 39 yX5_moves, Cond.static yX5_moves, Cond.code yX5_moves cX5_moves 5 none, Cond.methodLink RX5 130 yX5_restWith, Cond.instanceMethod yX5_restWith, Cond.selects RX5 yX5_restWith yX5_restWith, Cond.code yX5_restWith cX5_restWith 6 (some .int), Cond.methodLink RX5 115 yX5_settles, Cond.instanceMethod yX5_settles, Cond.selects RX5 yX5_settles yX5_settles, Cond.code yX5_settles cX5_settles 2 (some .int)]
def wsX5_ifWelded_r2 : List Cond := [Cond.methodLink RX5 70 yX5_wanting, Cond.instanceMethod yX5_wanting, Cond.selects RX5 yX5_wanting yX5_wanting, Cond.code yX5_wanting cX5_wanting 2 (some .int), Cond.methodLink RX5 63 yX5_fed, Cond.instanceMethod yX5_fed, Cond.selects RX5 yX5_fed yX5_fed, Cond.code yX5_fed cX5_fed 3 (some .int), Cond.methodLink RX5 59 yX5_isFed, Cond.instanceMethod yX5_isFed, Cond.selects RX5 yX5_isFed yX5_isFed, Cond.code yX5_isFed cX5_isFed 4 (some .boolean), Cond.methodLink RX5 47 yX5_part, Cond.instanceMethod yX5_part, Cond.selects RX5 yX5_part yX5_part, Cond.code yX5_part cX5_part 3 (some .int), Cond.methodLink RX5 55 yX5_isClosed, Cond.instanceMethod yX5_isClosed, Cond.selects RX5 yX5_isClosed yX5_isClosed, Cond.code yX5_isClosed cX5_isClosed 4 (some .boolean), Cond.methodLink RX5 51 yX5_ofBranch, Cond.instanceMethod yX5_ofBranch, Cond.selects RX5 yX5_ofBranch yX5_ofBranch, Cond.code yX5_ofBranch cX5_ofBranch 4 (some .int)]
def wsX5_ifWelded_r3 : List Cond := [Cond.methodLink RX5 77 yX5_tick, Cond.instanceMethod yX5_tick, Cond.selects RX5 yX5_tick yX5_tick, Cond.code yX5_tick cX5_tick 3 none, Cond.methodLink RX5 67 yX5_has, Cond.static yX5_has, Cond.code yX5_has cX5_has 2 (some .boolean), Cond.methodLink RX5 31 yX5_setPart, Cond.instanceMethod yX5_setPart, Cond.selects RX5 yX5_setPart yX5_setPart, Cond.code yX5_setPart cX5_setPart 4 none, Cond.methodLink RX5 73 yX5_moveRelay, Cond.instanceMethod yX5_moveRelay, Cond.selects RX5 yX5_moveRelay yX5_moveRelay, Cond.code yX5_moveRelay cX5_moveRelay 3 none]
def wsX5_ifWelded : List Cond := .code yX5_ifWelded cX5_ifWelded 3 (some .int) :: ((wsX5_ifWelded_r1 ++ (wsX5_ifWelded_r2 ++ wsX5_ifWelded_r3)) ++ wsX50)
def wsX5_unsafe_r1 : List Cond := [Cond.methodLink RX5 80 yX5_isRelay, Cond.static yX5_isRelay, Cond.initialized RX5, Cond.code yX5_isRelay cX5_isRelay 1 (some .boolean), Cond.methodLink RX5 43 yX5_within, Cond.static yX5_within, Cond.code yX5_within cX5_within 3 (some .boolean), Cond.methodLink RX5 133 yX5_upIfWelded, Cond.instanceMethod yX5_upIfWelded, Cond.selects RX5 yX5_upIfWelded yX5_upIfWelded, Cond.code yX5_upIfWelded cX5_upIfWelded 4 (some .int), Cond.fieldLink RX5 7 "WeldedRelaysModel" "state" "[I", Cond.fieldLink RX5 13 "WeldedRelaysModel" "kept" "[I", Cond.methodLink RX5 39 yX5_moves, Cond.static yX5_moves, Cond.code yX5_moves cX5_moves 5 none, Cond.methodLink RX5 130 yX5_restWith, Cond.instanceMethod yX5_restWith, Cond.selects RX5 yX5_restWith yX5_restWith, Cond.code yX5_restWith cX5_restWith 6 (some .int), Cond.methodLink RX5 115 yX5_settles, Cond.instanceMethod yX5_settles, Cond.selects RX5 yX5_settles yX5_settles, Cond.code yX5_settles cX5_settles 2 (some .int)]
def wsX5_unsafe_r2 : List Cond := [Cond.methodLink RX5 70 yX5_wanting, Cond.instanceMethod yX5_wanting, Cond.selects RX5 yX5_wanting yX5_wanting, Cond.code yX5_wanting cX5_wanting 2 (some .int), Cond.methodLink RX5 63 yX5_fed, Cond.instanceMethod yX5_fed, Cond.selects RX5 yX5_fed yX5_fed, Cond.code yX5_fed cX5_fed 3 (some .int), Cond.methodLink RX5 59 yX5_isFed, Cond.instanceMethod yX5_isFed, Cond.selects RX5 yX5_isFed yX5_isFed, Cond.code yX5_isFed cX5_isFed 4 (some .boolean), Cond.methodLink RX5 47 yX5_part, Cond.instanceMethod yX5_part, Cond.selects RX5 yX5_part yX5_part, Cond.code yX5_part cX5_part 3 (some .int), Cond.methodLink RX5 55 yX5_isClosed, Cond.instanceMethod yX5_isClosed, Cond.selects RX5 yX5_isClosed yX5_isClosed, Cond.code yX5_isClosed cX5_isClosed 4 (some .boolean), Cond.methodLink RX5 51 yX5_ofBranch, Cond.instanceMethod yX5_ofBranch, Cond.selects RX5 yX5_ofBranch yX5_ofBranch, Cond.code yX5_ofBranch cX5_ofBranch 4 (some .int)]
def wsX5_unsafe_r3 : List Cond := [Cond.methodLink RX5 77 yX5_tick, Cond.instanceMethod yX5_tick, Cond.selects RX5 yX5_tick yX5_tick, Cond.code yX5_tick cX5_tick 3 none, Cond.methodLink RX5 67 yX5_has, Cond.static yX5_has, Cond.code yX5_has cX5_has 2 (some .boolean), Cond.methodLink RX5 31 yX5_setPart, Cond.instanceMethod yX5_setPart, Cond.selects RX5 yX5_setPart yX5_setPart, Cond.code yX5_setPart cX5_setPart 4 none, Cond.methodLink RX5 73 yX5_moveRelay, Cond.instanceMethod yX5_moveRelay, Cond.selects RX5 yX5_moveRelay yX5_moveRelay, Cond.code yX5_moveRelay cX5_moveRelay 3 none]
def wsX5_unsafe : List Cond := .code yX5_unsafe cX5_unsafe 4 (some .int) :: ((wsX5_unsafe_r1 ++ (wsX5_unsafe_r2 ++ wsX5_unsafe_r3)) ++ wsX50)
def wsX5_bits : List Cond := .code yX5_bits cX5_bits 3 (some .int) :: ([])
def wsX5_reach_r1 : List Cond := [Cond.fieldLink RX5 7 "WeldedRelaysModel" "state" "[I", Cond.fieldLink RX5 13 "WeldedRelaysModel" "kept" "[I", Cond.methodLink RX5 80 yX5_isRelay, Cond.static yX5_isRelay, Cond.initialized RX5, Cond.code yX5_isRelay cX5_isRelay 1 (some .boolean), Cond.methodLink RX5 43 yX5_within, Cond.static yX5_within, Cond.code yX5_within cX5_within 3 (some .boolean), Cond.methodLink RX5 39 yX5_moves, Cond.static yX5_moves, Cond.code yX5_moves cX5_moves 5 none, Cond.methodLink RX5 130 yX5_restWith, Cond.instanceMethod yX5_restWith, Cond.selects RX5 yX5_restWith yX5_restWith, Cond.code yX5_restWith cX5_restWith 6 (some .int), Cond.methodLink RX5 115 yX5_settles, Cond.instanceMethod yX5_settles, Cond.selects RX5 yX5_settles yX5_settles, Cond.code yX5_settles cX5_settles 2 (some .int), Cond.methodLink RX5 70 yX5_wanting, Cond.instanceMethod yX5_wanting, Cond.selects RX5 yX5_wanting yX5_wanting, Cond.code yX5_wanting cX5_wanting 2 (some .int)]
def wsX5_reach_r2 : List Cond := [Cond.methodLink RX5 63 yX5_fed, Cond.instanceMethod yX5_fed, Cond.selects RX5 yX5_fed yX5_fed, Cond.code yX5_fed cX5_fed 3 (some .int), Cond.methodLink RX5 59 yX5_isFed, Cond.instanceMethod yX5_isFed, Cond.selects RX5 yX5_isFed yX5_isFed, Cond.code yX5_isFed cX5_isFed 4 (some .boolean), Cond.methodLink RX5 47 yX5_part, Cond.instanceMethod yX5_part, Cond.selects RX5 yX5_part yX5_part, Cond.code yX5_part cX5_part 3 (some .int), Cond.methodLink RX5 55 yX5_isClosed, Cond.instanceMethod yX5_isClosed, Cond.selects RX5 yX5_isClosed yX5_isClosed, Cond.code yX5_isClosed cX5_isClosed 4 (some .boolean), Cond.methodLink RX5 51 yX5_ofBranch, Cond.instanceMethod yX5_ofBranch, Cond.selects RX5 yX5_ofBranch yX5_ofBranch, Cond.code yX5_ofBranch cX5_ofBranch 4 (some .int), Cond.methodLink RX5 77 yX5_tick, Cond.instanceMethod yX5_tick, Cond.selects RX5 yX5_tick yX5_tick, Cond.code yX5_tick cX5_tick 3 none]
def wsX5_reach_r3 : List Cond := [Cond.methodLink RX5 67 yX5_has, Cond.static yX5_has, Cond.code yX5_has cX5_has 2 (some .boolean), Cond.methodLink RX5 31 yX5_setPart, Cond.instanceMethod yX5_setPart, Cond.selects RX5 yX5_setPart yX5_setPart, Cond.code yX5_setPart cX5_setPart 4 none, Cond.methodLink RX5 73 yX5_moveRelay, Cond.instanceMethod yX5_moveRelay, Cond.selects RX5 yX5_moveRelay yX5_moveRelay, Cond.code yX5_moveRelay cX5_moveRelay 3 none, Cond.methodLink RX5 136 yX5_bits, Cond.static yX5_bits, Cond.code yX5_bits cX5_bits 3 (some .int)]
def wsX5_reach : List Cond := .code yX5_reach cX5_reach 6 (some .int) :: ((wsX5_reach_r1 ++ (wsX5_reach_r2 ++ wsX5_reach_r3)) ++ wsX50)
def wsX5_put : List Cond := .code yX5_put cX5_put 8 (some .int) :: ([.constantLong RX5 139 (255), .fieldLink RX5 92 "WeldedRelaysModel" "padLength" "I", .fieldLink RX5 25 "WeldedRelaysModel" "pad" "[I", .methodLink RX5 43 yX5_within, .static yX5_within, .initialized RX5, .code yX5_within cX5_within 3 (some .boolean)] ++ wsX50)
def wsX5_wipe : List Cond := .code yX5_wipe cX5_wipe 2 (some .int) :: ([.fieldLink RX5 92 "WeldedRelaysModel" "padLength" "I"] ++ wsX50)
def wsX5_fault_r1 : List Cond := [Cond.methodLink RX5 86 yX5_findFault, Cond.instanceMethod yX5_findFault, Cond.selects RX5 yX5_findFault yX5_findFault, Cond.initialized RX5, Cond.code yX5_findFault cX5_findFault 1 (some .int), Cond.fieldLink RX5 89 "WeldedRelaysModel" "at" "I", Cond.fieldLink RX5 92 "WeldedRelaysModel" "padLength" "I", Cond.methodLink RX5 95 yX5_readsCircuit, Cond.instanceMethod yX5_readsCircuit, Cond.selects RX5 yX5_readsCircuit yX5_readsCircuit, Cond.code yX5_readsCircuit cX5_readsCircuit 2 (some .boolean), Cond.fieldLink RX5 105 "WeldedRelaysModel" "branchesTold" "I", Cond.fieldLink RX5 102 "WeldedRelaysModel" "relayTold" "I", Cond.methodLink RX5 141 yX5_character, Cond.instanceMethod yX5_character, Cond.selects RX5 yX5_character yX5_character, Cond.code yX5_character cX5_character 2 (some .int), Cond.fieldLink RX5 25 "WeldedRelaysModel" "pad" "[I", Cond.methodLink RX5 43 yX5_within, Cond.static yX5_within, Cond.code yX5_within cX5_within 3 (some .boolean), Cond.methodLink RX5 99 yX5_isNext, Cond.instanceMethod yX5_isNext, Cond.selects RX5 yX5_isNext yX5_isNext]
def wsX5_fault_r2 : List Cond := [Cond.code yX5_isNext cX5_isNext 3 (some .boolean), Cond.methodLink RX5 150 yX5_readsBranches, Cond.instanceMethod yX5_readsBranches, Cond.selects RX5 yX5_readsBranches yX5_readsBranches, Cond.code yX5_readsBranches cX5_readsBranches 2 (some .boolean), Cond.methodLink RX5 147 yX5_readsBranch, Cond.instanceMethod yX5_readsBranch, Cond.selects RX5 yX5_readsBranch yX5_readsBranch, Cond.code yX5_readsBranch cX5_readsBranch 5 (some .boolean), Cond.fieldLink RX5 28 "WeldedRelaysModel" "told" "[I", Cond.methodLink RX5 144 yX5_contactOf, Cond.static yX5_contactOf, Cond.code yX5_contactOf cX5_contactOf 1 (some .int)]
def wsX5_fault : List Cond := .code yX5_fault cX5_fault 1 (some .int) :: ((wsX5_fault_r1 ++ wsX5_fault_r2) ++ wsX50)
def wsX5_undo : List Cond := .code yX5_undo cX5_undo 1 (some .int) :: ([.fieldLink RX5 35 "WeldedRelaysModel" "recorded" "I", .fieldLink RX5 16 "WeldedRelaysModel" "history" "[I", .fieldLink RX5 7 "WeldedRelaysModel" "state" "[I", .methodLink RX5 39 yX5_moves, .static yX5_moves, .initialized RX5, .code yX5_moves cX5_moves 5 none] ++ wsX50)
def wsX5_save : List Cond := .code yX5_save cX5_save 2 (some .int) :: ([.fieldLink RX5 7 "WeldedRelaysModel" "state" "[I", .fieldLink RX5 19 "WeldedRelaysModel" "slots" "[I", .fieldLink RX5 22 "WeldedRelaysModel" "isSaved" "[I", .methodLink RX5 43 yX5_within, .static yX5_within, .initialized RX5, .code yX5_within cX5_within 3 (some .boolean), .methodLink RX5 39 yX5_moves, .static yX5_moves, .code yX5_moves cX5_moves 5 none] ++ wsX50)
def wsX5_restore : List Cond := .code yX5_restore cX5_restore 2 (some .int) :: ([.fieldLink RX5 22 "WeldedRelaysModel" "isSaved" "[I", .fieldLink RX5 19 "WeldedRelaysModel" "slots" "[I", .fieldLink RX5 7 "WeldedRelaysModel" "state" "[I", .methodLink RX5 43 yX5_within, .static yX5_within, .initialized RX5, .code yX5_within cX5_within 3 (some .boolean), .methodLink RX5 83 yX5_record, .instanceMethod yX5_record, .selects RX5 yX5_record yX5_record, .code yX5_record cX5_record 2 none, .fieldLink RX5 35 "WeldedRelaysModel" "recorded" "I", .fieldLink RX5 16 "WeldedRelaysModel" "history" "[I", .methodLink RX5 39 yX5_moves, .static yX5_moves, .code yX5_moves cX5_moves 5 none] ++ wsX50)
def wsL_law_r1 : List Cond := [Cond.classLink RL 7 RX4, Cond.instantiable RX4 7, Cond.initialized RX4, Cond.classLink RL 10 RX5, Cond.instantiable RX5 12, Cond.initialized RX5, Cond.constantLong RL 83 (4294967295), Cond.methodLink RL 9 yX4_init, Cond.instanceMethod yX4_init, Cond.code yX4_init cX4_init 2 none, Cond.methodLink RX4 3 objectInit, Cond.instanceMethod objectInit, Cond.code objectInit ⟨#[0xb1]⟩ 1 none, Cond.classLink RX4 9 RX3, Cond.instantiable RX3 14, Cond.initialized RX3, Cond.fieldLink RX4 12 "WeldedRelays" "room" "LWeldedRelays$Room;", Cond.fieldLink RX4 16 "WeldedRelays" "trial" "LWeldedRelays$Room;", Cond.classLink RX4 19 RX1, Cond.instantiable RX1 2, Cond.initialized RX1, Cond.fieldLink RX4 22 "WeldedRelays" "pad" "LWeldedRelays$Pad;", Cond.classLink RX4 26 RX2, Cond.instantiable RX2 2]
def wsL_law_r2 : List Cond := [Cond.initialized RX2, Cond.fieldLink RX4 29 "WeldedRelays" "reader" "LWeldedRelays$Reader;", Cond.classLink RX4 33 RX0, Cond.instantiable RX0 3, Cond.initialized RX0, Cond.fieldLink RX4 36 "WeldedRelays" "history" "LWeldedRelays$History;", Cond.fieldLink RX4 40 "WeldedRelays" "slots" "[LWeldedRelays$Room;", Cond.arrayClass .boolean, Cond.fieldLink RX4 44 "WeldedRelays" "isSaved" "[Z", Cond.methodLink RX4 11 yX3_init, Cond.instanceMethod yX3_init, Cond.code yX3_init cX3_init 2 none, Cond.methodLink RX3 3 objectInit, Cond.arrayClass .int, Cond.fieldLink RX3 9 "WeldedRelays$Room" "pickTimes" "[I", Cond.fieldLink RX3 15 "WeldedRelays$Room" "dropTimes" "[I", Cond.fieldLink RX3 18 "WeldedRelays$Room" "waits" "[I", Cond.fieldLink RX3 21 "WeldedRelays$Room" "operations" "[I", Cond.fieldLink RX3 24 "WeldedRelays$Room" "branchCounts" "[I", Cond.fieldLink RX3 27 "WeldedRelays$Room" "fronts" "[I", Cond.fieldLink RX3 30 "WeldedRelays$Room" "backs" "[I", Cond.fieldLink RX3 33 "WeldedRelays$Room" "contactCounts" "[I", Cond.instanceMethod yX1_init, Cond.code yX1_init cX1_init 1 none]
def wsL_law_r3 : List Cond := [Cond.methodLink RX1 3 objectInit, Cond.fieldLink RX1 9 "WeldedRelays$Pad" "characters" "[I", Cond.instanceMethod yX2_init, Cond.code yX2_init cX2_init 1 none, Cond.methodLink RX2 3 objectInit, Cond.methodLink RX4 35 yX0_init, Cond.instanceMethod yX0_init, Cond.code yX0_init cX0_init 2 none, Cond.methodLink RX0 3 objectInit, Cond.classLink RX0 9 RX3, Cond.fieldLink RX0 11 "WeldedRelays$History" "states" "[LWeldedRelays$Room;", Cond.methodLink RX0 17 yX3_init, Cond.methodLink RL 12 yX5_init, Cond.instanceMethod yX5_init, Cond.code yX5_init cX5_init 2 none, Cond.methodLink RX5 1 objectInit, Cond.fieldLink RX5 7 "WeldedRelaysModel" "state" "[I", Cond.fieldLink RX5 13 "WeldedRelaysModel" "kept" "[I", Cond.fieldLink RX5 16 "WeldedRelaysModel" "history" "[I", Cond.fieldLink RX5 19 "WeldedRelaysModel" "slots" "[I", Cond.fieldLink RX5 22 "WeldedRelaysModel" "isSaved" "[I", Cond.fieldLink RX5 25 "WeldedRelaysModel" "pad" "[I", Cond.fieldLink RX5 28 "WeldedRelaysModel" "told" "[I", Cond.methodLink RX5 31 yX5_setPart]
def wsL_law_r4 : List Cond := [Cond.instanceMethod yX5_setPart, Cond.selects RX5 yX5_setPart yX5_setPart, Cond.code yX5_setPart cX5_setPart 4 none, Cond.methodLink RL 13 yX4_time, Cond.instanceMethod yX4_time, Cond.selects RX4 yX4_time yX4_time, Cond.code yX4_time cX4_time 6 (some .int), Cond.fieldLink RX4 60 "WeldedRelays$Room" "dropTimes" "[I", Cond.fieldLink RX4 64 "WeldedRelays$Room" "pickTimes" "[I", Cond.methodLink RX4 48 yX4_isRelay, Cond.static yX4_isRelay, Cond.code yX4_isRelay cX4_isRelay 1 (some .boolean), Cond.methodLink RX4 52 yX4_isWithin, Cond.static yX4_isWithin, Cond.code yX4_isWithin cX4_isWithin 3 (some .boolean), Cond.methodLink RX4 56 yX0_record, Cond.instanceMethod yX0_record, Cond.selects RX0 yX0_record yX0_record, Cond.code yX0_record cX0_record 2 none, Cond.fieldLink RX0 18 "WeldedRelays$History" "oldest" "I", Cond.fieldLink RX0 22 "WeldedRelays$History" "size" "I", Cond.methodLink RX0 25 yX3_copyFrom, Cond.instanceMethod yX3_copyFrom, Cond.selects RX3 yX3_copyFrom yX3_copyFrom]
def wsL_law_r5 : List Cond := [Cond.code yX3_copyFrom cX3_copyFrom 2 none, Cond.fieldLink RX3 36 "WeldedRelays$Room" "up" "I", Cond.fieldLink RX3 40 "WeldedRelays$Room" "welded" "I", Cond.fieldLink RX3 43 "WeldedRelays$Room" "buttons" "I", Cond.fieldLink RX3 46 "WeldedRelays$Room" "life" "I", Cond.fieldLink RX3 49 "WeldedRelays$Room" "ticks" "I", Cond.fieldLink RX3 52 "WeldedRelays$Room" "moves" "I", Cond.methodLink RX3 55 arraycopyName, Cond.native arraycopyName, Cond.static arraycopyName, Cond.initialized "java/lang/System", Cond.methodLink RL 17 yX5_time, Cond.instanceMethod yX5_time, Cond.selects RX5 yX5_time yX5_time, Cond.code yX5_time cX5_time 6 (some .int), Cond.methodLink RX5 80 yX5_isRelay, Cond.static yX5_isRelay, Cond.code yX5_isRelay cX5_isRelay 1 (some .boolean), Cond.methodLink RX5 43 yX5_within, Cond.static yX5_within, Cond.code yX5_within cX5_within 3 (some .boolean), Cond.methodLink RX5 83 yX5_record, Cond.instanceMethod yX5_record, Cond.selects RX5 yX5_record yX5_record]
def wsL_law_r6 : List Cond := [Cond.code yX5_record cX5_record 2 none, Cond.fieldLink RX5 35 "WeldedRelaysModel" "recorded" "I", Cond.methodLink RX5 39 yX5_moves, Cond.static yX5_moves, Cond.code yX5_moves cX5_moves 5 none, Cond.methodLink RX5 47 yX5_part, Cond.instanceMethod yX5_part, Cond.selects RX5 yX5_part yX5_part, Cond.code yX5_part cX5_part 3 (some .int), Cond.methodLink RL 18 yX4_life, Cond.instanceMethod yX4_life, Cond.selects RX4 yX4_life yX4_life, Cond.code yX4_life cX4_life 3 (some .int), Cond.fieldLink RX4 67 "WeldedRelays$Room" "life" "I", Cond.methodLink RL 22 yX5_life, Cond.instanceMethod yX5_life, Cond.selects RX5 yX5_life yX5_life, Cond.code yX5_life cX5_life 3 (some .int), Cond.methodLink RL 23 yX4_read, Cond.instanceMethod yX4_read, Cond.selects RX4 yX4_read yX4_read, Cond.code yX4_read cX4_read 1 (some .int), Cond.methodLink RX4 71 yX3_copyFrom, Cond.methodLink RX4 74 yX2_readInto]
def wsL_law_r7 : List Cond := [Cond.instanceMethod yX2_readInto, Cond.selects RX2 yX2_readInto yX2_readInto, Cond.code yX2_readInto cX2_readInto 4 (some .int), Cond.fieldLink RX2 11 "WeldedRelays$Reader" "place" "I", Cond.fieldLink RX2 15 "WeldedRelays$Pad" "length" "I", Cond.fieldLink RX2 20 "WeldedRelays$Pad" "characters" "[I", Cond.methodLink RX2 24 yX2_takes, Cond.instanceMethod yX2_takes, Cond.selects RX2 yX2_takes yX2_takes, Cond.code yX2_takes cX2_takes 3 (some .boolean), Cond.methodLink RX2 28 yX2_takesRelay, Cond.instanceMethod yX2_takesRelay, Cond.selects RX2 yX2_takesRelay yX2_takesRelay, Cond.code yX2_takesRelay cX2_takesRelay 3 (some .boolean), Cond.fieldLink RX2 54 "WeldedRelays$Reader" "relay" "I", Cond.methodLink RX2 47 yX2_contactOf, Cond.static yX2_contactOf, Cond.code yX2_contactOf cX2_contactOf 1 (some .int), Cond.methodLink RX2 35 yX2_goesTo, Cond.instanceMethod yX2_goesTo, Cond.selects RX2 yX2_goesTo yX2_goesTo, Cond.code yX2_goesTo cX2_goesTo 2 (some .boolean), Cond.methodLink RX2 32 yX2_takesEquals, Cond.instanceMethod yX2_takesEquals]
def wsL_law_r8 : List Cond := [Cond.selects RX2 yX2_takesEquals yX2_takesEquals, Cond.code yX2_takesEquals cX2_takesEquals 3 (some .boolean), Cond.methodLink RX2 57 yX3_clearCircuit, Cond.instanceMethod yX3_clearCircuit, Cond.selects RX3 yX3_clearCircuit yX3_clearCircuit, Cond.code yX3_clearCircuit cX3_clearCircuit 2 none, Cond.methodLink RX2 38 yX2_takesFirstContact, Cond.instanceMethod yX2_takesFirstContact, Cond.selects RX2 yX2_takesFirstContact yX2_takesFirstContact, Cond.code yX2_takesFirstContact cX2_takesFirstContact 3 (some .boolean), Cond.methodLink RX2 63 yX3_addBranch, Cond.instanceMethod yX3_addBranch, Cond.selects RX3 yX3_addBranch yX3_addBranch, Cond.code yX3_addBranch cX3_addBranch 3 none, Cond.methodLink RX3 96 yX3_hasRoomForBranch, Cond.instanceMethod yX3_hasRoomForBranch, Cond.selects RX3 yX3_hasRoomForBranch yX3_hasRoomForBranch, Cond.code yX3_hasRoomForBranch cX3_hasRoomForBranch 2 (some .boolean), Cond.static yX4_placeOf, Cond.code yX4_placeOf cX4_placeOf 2 (some .int), Cond.methodLink RX2 41 yX2_takesContact, Cond.instanceMethod yX2_takesContact, Cond.selects RX2 yX2_takesContact yX2_takesContact, Cond.code yX2_takesContact cX2_takesContact 5 (some .boolean)]
def wsL_law_r9 : List Cond := [Cond.methodLink RX2 72 yX3_addContact, Cond.instanceMethod yX3_addContact, Cond.selects RX3 yX3_addContact yX3_addContact, Cond.code yX3_addContact cX3_addContact 7 none, Cond.methodLink RX2 44 yX2_takesNextOfBranch, Cond.instanceMethod yX2_takesNextOfBranch, Cond.selects RX2 yX2_takesNextOfBranch yX2_takesNextOfBranch, Cond.code yX2_takesNextOfBranch cX2_takesNextOfBranch 3 (some .boolean), Cond.methodLink RX2 66 yX3_hasRoomForBranch, Cond.methodLink RX2 69 yX3_hasRoomForContact, Cond.instanceMethod yX3_hasRoomForContact, Cond.selects RX3 yX3_hasRoomForContact yX3_hasRoomForContact, Cond.code yX3_hasRoomForContact cX3_hasRoomForContact 3 (some .boolean), Cond.methodLink RX4 78 yX1_clear, Cond.instanceMethod yX1_clear, Cond.selects RX1 yX1_clear yX1_clear, Cond.code yX1_clear cX1_clear 1 none, Cond.fieldLink RX1 25 "WeldedRelays$Pad" "length" "I", Cond.methodLink RX4 81 yX3_relaysWithBranches, Cond.instanceMethod yX3_relaysWithBranches, Cond.selects RX3 yX3_relaysWithBranches yX3_relaysWithBranches, Cond.code yX3_relaysWithBranches cX3_relaysWithBranches 3 (some .int), Cond.methodLink RL 27 yX5_read, Cond.instanceMethod yX5_read]
def wsL_law_r10 : List Cond := [Cond.selects RX5 yX5_read yX5_read, Cond.code yX5_read cX5_read 2 (some .int), Cond.fieldLink RX5 89 "WeldedRelaysModel" "at" "I", Cond.fieldLink RX5 92 "WeldedRelaysModel" "padLength" "I", Cond.fieldLink RX5 102 "WeldedRelaysModel" "relayTold" "I", Cond.fieldLink RX5 105 "WeldedRelaysModel" "branchesTold" "I", Cond.methodLink RX5 86 yX5_findFault, Cond.instanceMethod yX5_findFault, Cond.selects RX5 yX5_findFault yX5_findFault, Cond.code yX5_findFault cX5_findFault 1 (some .int), Cond.methodLink RX5 95 yX5_readsCircuit, Cond.instanceMethod yX5_readsCircuit, Cond.selects RX5 yX5_readsCircuit yX5_readsCircuit, Cond.code yX5_readsCircuit cX5_readsCircuit 2 (some .boolean), Cond.methodLink RX5 141 yX5_character, Cond.instanceMethod yX5_character, Cond.selects RX5 yX5_character yX5_character, Cond.code yX5_character cX5_character 2 (some .int), Cond.methodLink RX5 99 yX5_isNext, Cond.instanceMethod yX5_isNext, Cond.selects RX5 yX5_isNext yX5_isNext, Cond.code yX5_isNext cX5_isNext 3 (some .boolean), Cond.methodLink RX5 150 yX5_readsBranches, Cond.instanceMethod yX5_readsBranches]
def wsL_law_r11 : List Cond := [Cond.selects RX5 yX5_readsBranches yX5_readsBranches, Cond.code yX5_readsBranches cX5_readsBranches 2 (some .boolean), Cond.methodLink RX5 147 yX5_readsBranch, Cond.instanceMethod yX5_readsBranch, Cond.selects RX5 yX5_readsBranch yX5_readsBranch, Cond.code yX5_readsBranch cX5_readsBranch 5 (some .boolean), Cond.methodLink RX5 144 yX5_contactOf, Cond.static yX5_contactOf, Cond.code yX5_contactOf cX5_contactOf 1 (some .int), Cond.methodLink RX5 108 yX5_relaysWithBranches, Cond.instanceMethod yX5_relaysWithBranches, Cond.selects RX5 yX5_relaysWithBranches yX5_relaysWithBranches, Cond.code yX5_relaysWithBranches cX5_relaysWithBranches 3 (some .int), Cond.methodLink RL 28 yX4_press, Cond.instanceMethod yX4_press, Cond.selects RX4 yX4_press yX4_press, Cond.code yX4_press cX4_press 3 (some .int), Cond.fieldLink RX4 85 "WeldedRelays$Room" "buttons" "I", Cond.methodLink RX4 88 yX4_isIn, Cond.static yX4_isIn, Cond.code yX4_isIn cX4_isIn 2 (some .boolean), Cond.methodLink RX4 114 yX4_bit, Cond.static yX4_bit, Cond.code yX4_bit cX4_bit 2 (some .int)]
def wsL_law_r12 : List Cond := [Cond.methodLink RX4 92 yX3_wantingRelays, Cond.instanceMethod yX3_wantingRelays, Cond.selects RX3 yX3_wantingRelays yX3_wantingRelays, Cond.code yX3_wantingRelays cX3_wantingRelays 1 (some .int), Cond.methodLink RX3 72 yX3_fedRelays, Cond.instanceMethod yX3_fedRelays, Cond.selects RX3 yX3_fedRelays yX3_fedRelays, Cond.code yX3_fedRelays cX3_fedRelays 3 (some .int), Cond.methodLink RX3 61 yX3_isFed, Cond.instanceMethod yX3_isFed, Cond.selects RX3 yX3_isFed yX3_isFed, Cond.code yX3_isFed cX3_isFed 4 (some .boolean), Cond.methodLink RX3 69 yX3_isClosed, Cond.instanceMethod yX3_isClosed, Cond.selects RX3 yX3_isClosed yX3_isClosed, Cond.code yX3_isClosed cX3_isClosed 3 (some .boolean), Cond.methodLink RL 32 yX5_press, Cond.instanceMethod yX5_press, Cond.selects RX5 yX5_press yX5_press, Cond.code yX5_press cX5_press 3 (some .int), Cond.methodLink RX5 67 yX5_has, Cond.static yX5_has, Cond.code yX5_has cX5_has 2 (some .boolean), Cond.methodLink RX5 70 yX5_wanting]
def wsL_law_r13 : List Cond := [Cond.instanceMethod yX5_wanting, Cond.selects RX5 yX5_wanting yX5_wanting, Cond.code yX5_wanting cX5_wanting 2 (some .int), Cond.methodLink RX5 63 yX5_fed, Cond.instanceMethod yX5_fed, Cond.selects RX5 yX5_fed yX5_fed, Cond.code yX5_fed cX5_fed 3 (some .int), Cond.methodLink RX5 59 yX5_isFed, Cond.instanceMethod yX5_isFed, Cond.selects RX5 yX5_isFed yX5_isFed, Cond.code yX5_isFed cX5_isFed 4 (some .boolean), Cond.methodLink RX5 55 yX5_isClosed, Cond.instanceMethod yX5_isClosed, Cond.selects RX5 yX5_isClosed yX5_isClosed, Cond.code yX5_isClosed cX5_isClosed 4 (some .boolean), Cond.methodLink RX5 51 yX5_ofBranch, Cond.instanceMethod yX5_ofBranch, Cond.selects RX5 yX5_ofBranch yX5_ofBranch, Cond.code yX5_ofBranch cX5_ofBranch 4 (some .int), Cond.methodLink RL 33 yX4_weld, Cond.instanceMethod yX4_weld, Cond.selects RX4 yX4_weld yX4_weld, Cond.code yX4_weld cX4_weld 5 (some .int), Cond.fieldLink RX4 95 "WeldedRelays$Room" "up" "I"]
def wsL_law_r14 : List Cond := [Cond.fieldLink RX4 98 "WeldedRelays$Room" "welded" "I", Cond.fieldLink RX4 101 "WeldedRelays$Room" "operations" "[I", Cond.methodLink RL 36 yX5_weld, Cond.instanceMethod yX5_weld, Cond.selects RX5 yX5_weld yX5_weld, Cond.code yX5_weld cX5_weld 4 (some .int), Cond.methodLink RL 37 yX4_pass, Cond.instanceMethod yX4_pass, Cond.selects RX4 yX4_pass yX4_pass, Cond.code yX4_pass cX4_pass 3 (some .int), Cond.fieldLink RX4 104 "WeldedRelays$Room" "moves" "I", Cond.methodLink RX4 107 yX3_passTicks, Cond.instanceMethod yX3_passTicks, Cond.selects RX3 yX3_passTicks yX3_passTicks, Cond.code yX3_passTicks cX3_passTicks 3 none, Cond.methodLink RX3 76 yX3_wantingRelays, Cond.methodLink RX3 79 yX3_passTick, Cond.instanceMethod yX3_passTick, Cond.selects RX3 yX3_passTick yX3_passTick, Cond.code yX3_passTick cX3_passTick 3 none, Cond.methodLink RX3 90 yX3_waitOrMove, Cond.instanceMethod yX3_waitOrMove, Cond.selects RX3 yX3_waitOrMove yX3_waitOrMove, Cond.code yX3_waitOrMove cX3_waitOrMove 3 none]
def wsL_law_r15 : List Cond := [Cond.methodLink RX3 93 yX3_wear, Cond.instanceMethod yX3_wear, Cond.selects RX3 yX3_wear yX3_wear, Cond.code yX3_wear cX3_wear 2 none, Cond.methodLink RL 40 yX5_pass, Cond.instanceMethod yX5_pass, Cond.selects RX5 yX5_pass yX5_pass, Cond.code yX5_pass cX5_pass 2 (some .int), Cond.methodLink RX5 111 yX5_passes, Cond.instanceMethod yX5_passes, Cond.selects RX5 yX5_passes yX5_passes, Cond.code yX5_passes cX5_passes 4 (some .int), Cond.methodLink RX5 77 yX5_tick, Cond.instanceMethod yX5_tick, Cond.selects RX5 yX5_tick yX5_tick, Cond.code yX5_tick cX5_tick 3 none, Cond.methodLink RX5 73 yX5_moveRelay, Cond.instanceMethod yX5_moveRelay, Cond.selects RX5 yX5_moveRelay yX5_moveRelay, Cond.code yX5_moveRelay cX5_moveRelay 3 none, Cond.methodLink RL 41 yX4_settle, Cond.instanceMethod yX4_settle, Cond.selects RX4 yX4_settle yX4_settle, Cond.code yX4_settle cX4_settle 1 (some .int)]
def wsL_law_r16 : List Cond := [Cond.methodLink RX4 111 yX3_ticksUntilRest, Cond.instanceMethod yX3_ticksUntilRest, Cond.selects RX3 yX3_ticksUntilRest yX3_ticksUntilRest, Cond.code yX3_ticksUntilRest cX3_ticksUntilRest 3 (some .int), Cond.methodLink RL 44 yX5_settle, Cond.instanceMethod yX5_settle, Cond.selects RX5 yX5_settle yX5_settle, Cond.code yX5_settle cX5_settle 2 (some .int), Cond.methodLink RX5 115 yX5_settles, Cond.instanceMethod yX5_settles, Cond.selects RX5 yX5_settles yX5_settles, Cond.code yX5_settles cX5_settles 2 (some .int), Cond.methodLink RL 45 yX4_relay, Cond.instanceMethod yX4_relay, Cond.selects RX4 yX4_relay yX4_relay, Cond.code yX4_relay cX4_relay 3 (some .int), Cond.fieldLink RX4 121 "WeldedRelays$Room" "waits" "[I", Cond.fieldLink RX4 124 "WeldedRelays$Room" "branchCounts" "[I", Cond.methodLink RX4 118 yX3_fedRelays, Cond.methodLink RX4 127 yX3_frontsOfCircuit, Cond.instanceMethod yX3_frontsOfCircuit, Cond.selects RX3 yX3_frontsOfCircuit yX3_frontsOfCircuit, Cond.code yX3_frontsOfCircuit cX3_frontsOfCircuit 2 (some .int), Cond.methodLink RX3 106 yX3_contactsOfCircuit]
def wsL_law_r17 : List Cond := [Cond.instanceMethod yX3_contactsOfCircuit, Cond.selects RX3 yX3_contactsOfCircuit yX3_contactsOfCircuit, Cond.code yX3_contactsOfCircuit cX3_contactsOfCircuit 6 (some .int), Cond.methodLink RX4 131 yX3_relaysWithContactOf, Cond.instanceMethod yX3_relaysWithContactOf, Cond.selects RX3 yX3_relaysWithContactOf yX3_relaysWithContactOf, Cond.code yX3_relaysWithContactOf cX3_relaysWithContactOf 4 (some .int), Cond.methodLink RX3 99 yX3_frontsOfCircuit, Cond.methodLink RX3 103 yX3_backsOfCircuit, Cond.instanceMethod yX3_backsOfCircuit, Cond.selects RX3 yX3_backsOfCircuit yX3_backsOfCircuit, Cond.code yX3_backsOfCircuit cX3_backsOfCircuit 2 (some .int), Cond.methodLink RL 49 yX5_relay, Cond.instanceMethod yX5_relay, Cond.selects RX5 yX5_relay yX5_relay, Cond.code yX5_relay cX5_relay 3 (some .int), Cond.methodLink RX5 118 yX5_holdsItself, Cond.instanceMethod yX5_holdsItself, Cond.selects RX5 yX5_holdsItself yX5_holdsItself, Cond.code yX5_holdsItself cX5_holdsItself 4 (some .boolean), Cond.methodLink RX5 121 yX5_relaysWith, Cond.instanceMethod yX5_relaysWith, Cond.selects RX5 yX5_relaysWith yX5_relaysWith, Cond.code yX5_relaysWith cX5_relaysWith 5 (some .int)]
def wsL_law_r18 : List Cond := [Cond.methodLink RL 50 yX4_branch, Cond.instanceMethod yX4_branch, Cond.selects RX4 yX4_branch yX4_branch, Cond.code yX4_branch cX4_branch 5 (some .int), Cond.fieldLink RX4 140 "WeldedRelays$Room" "contactCounts" "[I", Cond.fieldLink RX4 143 "WeldedRelays$Room" "fronts" "[I", Cond.fieldLink RX4 146 "WeldedRelays$Room" "backs" "[I", Cond.methodLink RX4 134 yX4_placeOf, Cond.methodLink RX4 137 yX3_isClosed, Cond.methodLink RL 54 yX5_branch, Cond.instanceMethod yX5_branch, Cond.selects RX5 yX5_branch yX5_branch, Cond.code yX5_branch cX5_branch 5 (some .int), Cond.methodLink RL 55 yX4_count, Cond.instanceMethod yX4_count, Cond.selects RX4 yX4_count yX4_count, Cond.code yX4_count cX4_count 2 (some .int), Cond.fieldLink RX4 149 "WeldedRelays$Room" "ticks" "I", Cond.fieldLink RX4 155 "WeldedRelays$Pad" "length" "I", Cond.fieldLink RX4 158 "WeldedRelays$History" "size" "I", Cond.methodLink RX4 152 yX3_neverClosedBranches, Cond.instanceMethod yX3_neverClosedBranches, Cond.selects RX3 yX3_neverClosedBranches yX3_neverClosedBranches, Cond.code yX3_neverClosedBranches cX3_neverClosedBranches 5 (some .int)]
def wsL_law_r19 : List Cond := [Cond.methodLink RL 58 yX5_count, Cond.instanceMethod yX5_count, Cond.selects RX5 yX5_count yX5_count, Cond.code yX5_count cX5_count 2 (some .int), Cond.methodLink RX5 124 yX5_neverClosed, Cond.instanceMethod yX5_neverClosed, Cond.selects RX5 yX5_neverClosed yX5_neverClosed, Cond.code yX5_neverClosed cX5_neverClosed 4 (some .int), Cond.methodLink RL 59 yX4_ifPressed, Cond.instanceMethod yX4_ifPressed, Cond.selects RX4 yX4_ifPressed yX4_ifPressed, Cond.code yX4_ifPressed cX4_ifPressed 3 (some .int), Cond.methodLink RX4 161 yX4_isButtonSet, Cond.static yX4_isButtonSet, Cond.code yX4_isButtonSet cX4_isButtonSet 1 (some .boolean), Cond.methodLink RX4 164 yX4_tryButtons, Cond.instanceMethod yX4_tryButtons, Cond.selects RX4 yX4_tryButtons yX4_tryButtons, Cond.code yX4_tryButtons cX4_tryButtons 2 none, Cond.methodLink RL 62 yX5_ifPressed, Cond.instanceMethod yX5_ifPressed, Cond.selects RX5 yX5_ifPressed yX5_ifPressed, Cond.code yX5_ifPressed cX5_ifPressed 4 (some .int), Cond.methodLink RX5 127 yX5_isSet]
def wsL_law_r20 : List Cond := [Cond.static yX5_isSet, Cond.code yX5_isSet cX5_isSet 1 (some .boolean), Cond.methodLink RL 63 yX4_rest, Cond.instanceMethod yX4_rest, Cond.selects RX4 yX4_rest yX4_rest, Cond.code yX4_rest cX4_rest 4 (some .int), Cond.methodLink RX4 167 yX3_upAtRest, Cond.instanceMethod yX3_upAtRest, Cond.selects RX3 yX3_upAtRest yX3_upAtRest, Cond.code yX3_upAtRest cX3_upAtRest 1 (some .int), Cond.methodLink RX3 83 yX3_ticksUntilRest, Cond.methodLink RL 66 yX5_rest, Cond.instanceMethod yX5_rest, Cond.selects RX5 yX5_rest yX5_rest, Cond.code yX5_rest cX5_rest 3 (some .int), Cond.methodLink RX5 130 yX5_restWith, Cond.instanceMethod yX5_restWith, Cond.selects RX5 yX5_restWith yX5_restWith, Cond.code yX5_restWith cX5_restWith 6 (some .int), Cond.methodLink RL 67 yX4_race, Cond.instanceMethod yX4_race, Cond.selects RX4 yX4_race yX4_race, Cond.code yX4_race cX4_race 3 (some .int), Cond.methodLink RX4 170 yX3_makeAllTimesOne]
def wsL_law_r21 : List Cond := [Cond.instanceMethod yX3_makeAllTimesOne, Cond.selects RX3 yX3_makeAllTimesOne yX3_makeAllTimesOne, Cond.code yX3_makeAllTimesOne cX3_makeAllTimesOne 2 none, Cond.methodLink RL 70 yX5_race, Cond.instanceMethod yX5_race, Cond.selects RX5 yX5_race yX5_race, Cond.code yX5_race cX5_race 4 (some .int), Cond.methodLink RL 71 yX4_ifWelded, Cond.instanceMethod yX4_ifWelded, Cond.selects RX4 yX4_ifWelded yX4_ifWelded, Cond.code yX4_ifWelded cX4_ifWelded 4 (some .int), Cond.methodLink RX4 173 yX4_tryWelded, Cond.instanceMethod yX4_tryWelded, Cond.selects RX4 yX4_tryWelded yX4_tryWelded, Cond.code yX4_tryWelded cX4_tryWelded 2 none, Cond.methodLink RL 74 yX5_ifWelded, Cond.instanceMethod yX5_ifWelded, Cond.selects RX5 yX5_ifWelded yX5_ifWelded, Cond.code yX5_ifWelded cX5_ifWelded 3 (some .int), Cond.methodLink RX5 133 yX5_upIfWelded, Cond.instanceMethod yX5_upIfWelded, Cond.selects RX5 yX5_upIfWelded yX5_upIfWelded, Cond.code yX5_upIfWelded cX5_upIfWelded 4 (some .int), Cond.methodLink RL 75 yX4_unsafe]
def wsL_law_r22 : List Cond := [Cond.instanceMethod yX4_unsafe, Cond.selects RX4 yX4_unsafe yX4_unsafe, Cond.code yX4_unsafe cX4_unsafe 4 (some .int), Cond.methodLink RX4 176 yX4_isUpIn, Cond.static yX4_isUpIn, Cond.code yX4_isUpIn cX4_isUpIn 2 (some .boolean), Cond.methodLink RL 78 yX5_unsafe, Cond.instanceMethod yX5_unsafe, Cond.selects RX5 yX5_unsafe yX5_unsafe, Cond.code yX5_unsafe cX5_unsafe 4 (some .int), Cond.methodLink RL 79 yX4_reach, Cond.instanceMethod yX4_reach, Cond.selects RX4 yX4_reach yX4_reach, Cond.code yX4_reach cX4_reach 4 (some .int), Cond.methodLink RX4 179 yJ6_bitCount_0f7a4, Cond.static yJ6_bitCount_0f7a4, Cond.initialized RJ6, Cond.code yJ6_bitCount_0f7a4 cJ6_bitCount_0f7a4 1 (some .int), Cond.constant RJ6 265 (1431655765), Cond.constant RJ6 266 (858993459), Cond.constant RJ6 267 (252645135), Cond.methodLink RL 82 yX5_reach, Cond.instanceMethod yX5_reach, Cond.selects RX5 yX5_reach yX5_reach]
def wsL_law_r23 : List Cond := [Cond.code yX5_reach cX5_reach 6 (some .int), Cond.methodLink RX5 136 yX5_bits, Cond.static yX5_bits, Cond.code yX5_bits cX5_bits 3 (some .int), Cond.methodLink RL 85 yX4_put, Cond.instanceMethod yX4_put, Cond.selects RX4 yX4_put yX4_put, Cond.code yX4_put cX4_put 4 (some .int), Cond.methodLink RX4 184 yX1_lengthOf, Cond.static yX1_lengthOf, Cond.code yX1_lengthOf cX1_lengthOf 5 (some .int), Cond.methodLink RX1 15 yX1_lastOf, Cond.static yX1_lastOf, Cond.code yX1_lastOf cX1_lastOf 2 (some .int), Cond.constantLong RX1 23 (255), Cond.methodLink RX4 188 yX1_append, Cond.instanceMethod yX1_append, Cond.selects RX1 yX1_append yX1_append, Cond.code yX1_append cX1_append 7 none, Cond.methodLink RL 89 yX5_put, Cond.instanceMethod yX5_put, Cond.selects RX5 yX5_put yX5_put, Cond.code yX5_put cX5_put 8 (some .int), Cond.constantLong RX5 139 (255)]
def wsL_law_r24 : List Cond := [Cond.methodLink RL 90 yX4_wipe, Cond.instanceMethod yX4_wipe, Cond.selects RX4 yX4_wipe yX4_wipe, Cond.code yX4_wipe cX4_wipe 2 (some .int), Cond.methodLink RL 93 yX5_wipe, Cond.instanceMethod yX5_wipe, Cond.selects RX5 yX5_wipe yX5_wipe, Cond.code yX5_wipe cX5_wipe 2 (some .int), Cond.methodLink RL 94 yX4_fault, Cond.instanceMethod yX4_fault, Cond.selects RX4 yX4_fault yX4_fault, Cond.code yX4_fault cX4_fault 1 (some .int), Cond.methodLink RL 97 yX5_fault, Cond.instanceMethod yX5_fault, Cond.selects RX5 yX5_fault yX5_fault, Cond.code yX5_fault cX5_fault 1 (some .int), Cond.methodLink RL 98 yX4_undo, Cond.instanceMethod yX4_undo, Cond.selects RX4 yX4_undo yX4_undo, Cond.code yX4_undo cX4_undo 1 (some .int), Cond.methodLink RX4 192 yX0_takeBackTo, Cond.instanceMethod yX0_takeBackTo, Cond.selects RX0 yX0_takeBackTo yX0_takeBackTo, Cond.code yX0_takeBackTo cX0_takeBackTo 2 none]
def wsL_law_r25 : List Cond := [Cond.methodLink RL 101 yX5_undo, Cond.instanceMethod yX5_undo, Cond.selects RX5 yX5_undo yX5_undo, Cond.code yX5_undo cX5_undo 1 (some .int), Cond.methodLink RL 102 yX4_save, Cond.instanceMethod yX4_save, Cond.selects RX4 yX4_save yX4_save, Cond.code yX4_save cX4_save 2 (some .int), Cond.methodLink RL 105 yX5_save, Cond.instanceMethod yX5_save, Cond.selects RX5 yX5_save yX5_save, Cond.code yX5_save cX5_save 2 (some .int), Cond.methodLink RL 106 yX4_restore, Cond.instanceMethod yX4_restore, Cond.selects RX4 yX4_restore yX4_restore, Cond.code yX4_restore cX4_restore 2 (some .int), Cond.methodLink RL 109 yX5_restore, Cond.instanceMethod yX5_restore, Cond.selects RX5 yX5_restore yX5_restore, Cond.code yX5_restore cX5_restore 2 (some .int)]
def wsL_law : List Cond := (wsL_law_r1 ++ (wsL_law_r2 ++ (wsL_law_r3 ++ (wsL_law_r4 ++ (wsL_law_r5 ++ (wsL_law_r6 ++ (wsL_law_r7 ++ (wsL_law_r8 ++ (wsL_law_r9 ++ (wsL_law_r10 ++ (wsL_law_r11 ++ (wsL_law_r12 ++ (wsL_law_r13 ++ (wsL_law_r14 ++ (wsL_law_r15 ++ (wsL_law_r16 ++ (wsL_law_r17 ++ (wsL_law_r18 ++ (wsL_law_r19 ++ (wsL_law_r20 ++ (wsL_law_r21 ++ (wsL_law_r22 ++ (wsL_law_r23 ++ (wsL_law_r24 ++ wsL_law_r25)))))))))))))))))))))))) ++ wsX40 ++ wsX50 ++ wsX30 ++ wsX10 ++ wsX20 ++ wsX00 ++ ([] : List Cond)
set_option maxRecDepth 20000 in
theorem wsL_in_r1 : ∀ w ∈ wsL_law_r1, w ∈ lw_tbl := fun w h => (goodIn_p wsL_law_r1 [52, 55] (by decide +kernel) (by decide +kernel) w h).1
set_option maxRecDepth 20000 in
theorem wsL_in_r2 : ∀ w ∈ wsL_law_r2, w ∈ lw_tbl := fun w h => (goodIn_p wsL_law_r2 [60, 124] (by decide +kernel) (by decide +kernel) w h).1
set_option maxRecDepth 20000 in
theorem wsL_in_r3 : ∀ w ∈ wsL_law_r3, w ∈ lw_tbl := fun w h => (goodIn_p wsL_law_r3 [140, 153, 484] (by decide +kernel) (by decide +kernel) w h).1
set_option maxRecDepth 20000 in
theorem wsL_in_r4 : ∀ w ∈ wsL_law_r4, w ∈ lw_tbl := fun w h => (goodIn_p wsL_law_r4 [489, 195, 198, 201, 205] (by decide +kernel) (by decide +kernel) w h).1
set_option maxRecDepth 20000 in
theorem wsL_in_r5 : ∀ w ∈ wsL_law_r5, w ∈ lw_tbl := fun w h => (goodIn_p wsL_law_r5 [209, 530, 533, 536] (by decide +kernel) (by decide +kernel) w h).1
set_option maxRecDepth 20000 in
theorem wsL_in_r6 : ∀ w ∈ wsL_law_r6, w ∈ lw_tbl := fun w h => (goodIn_p wsL_law_r6 [540, 543, 547, 216, 551, 220] (by decide +kernel) (by decide +kernel) w h).1
set_option maxRecDepth 20000 in
theorem wsL_in_r7 : ∀ w ∈ wsL_law_r7, w ∈ lw_tbl := fun w h => (goodIn_p wsL_law_r7 [225, 229, 233, 236, 242] (by decide +kernel) (by decide +kernel) w h).1
set_option maxRecDepth 20000 in
theorem wsL_in_r8 : ∀ w ∈ wsL_law_r8, w ∈ lw_tbl := fun w h => (goodIn_p wsL_law_r8 [246, 250, 254, 258, 262, 265, 269] (by decide +kernel) (by decide +kernel) w h).1
set_option maxRecDepth 20000 in
theorem wsL_in_r9 : ∀ w ∈ wsL_law_r9, w ∈ lw_tbl := fun w h => (goodIn_p wsL_law_r9 [273, 277, 282, 286, 290] (by decide +kernel) (by decide +kernel) w h).1
set_option maxRecDepth 20000 in
theorem wsL_in_r10 : ∀ w ∈ wsL_law_r10, w ∈ lw_tbl := fun w h => (goodIn_p wsL_law_r10 [555, 559, 563, 567, 571] (by decide +kernel) (by decide +kernel) w h).1
set_option maxRecDepth 20000 in
theorem wsL_in_r11 : ∀ w ∈ wsL_law_r11, w ∈ lw_tbl := fun w h => (goodIn_p wsL_law_r11 [575, 579, 582, 586, 294, 297, 300] (by decide +kernel) (by decide +kernel) w h).1
set_option maxRecDepth 20000 in
theorem wsL_in_r12 : ∀ w ∈ wsL_law_r12, w ∈ lw_tbl := fun w h => (goodIn_p wsL_law_r12 [304, 308, 312, 316, 590, 593] (by decide +kernel) (by decide +kernel) w h).1
set_option maxRecDepth 20000 in
theorem wsL_in_r13 : ∀ w ∈ wsL_law_r13, w ∈ lw_tbl := fun w h => (goodIn_p wsL_law_r13 [597, 601, 605, 609, 613, 320] (by decide +kernel) (by decide +kernel) w h).1
set_option maxRecDepth 20000 in
theorem wsL_in_r14 : ∀ w ∈ wsL_law_r14, w ∈ lw_tbl := fun w h => (goodIn_p wsL_law_r14 [617, 324, 328, 333, 338] (by decide +kernel) (by decide +kernel) w h).1
set_option maxRecDepth 20000 in
theorem wsL_in_r15 : ∀ w ∈ wsL_law_r15, w ∈ lw_tbl := fun w h => (goodIn_p wsL_law_r15 [342, 621, 625, 629, 633, 346] (by decide +kernel) (by decide +kernel) w h).1
set_option maxRecDepth 20000 in
theorem wsL_in_r16 : ∀ w ∈ wsL_law_r16, w ∈ lw_tbl := fun w h => (goodIn_p wsL_law_r16 [350, 637, 641, 354, 359] (by decide +kernel) (by decide +kernel) w h).1
set_option maxRecDepth 20000 in
theorem wsL_in_r17 : ∀ w ∈ wsL_law_r17, w ∈ lw_tbl := fun w h => (goodIn_p wsL_law_r17 [363, 367, 372, 645, 649, 653] (by decide +kernel) (by decide +kernel) w h).1
set_option maxRecDepth 20000 in
theorem wsL_in_r18 : ∀ w ∈ wsL_law_r18, w ∈ lw_tbl := fun w h => (goodIn_p wsL_law_r18 [376, 657, 382, 386] (by decide +kernel) (by decide +kernel) w h).1
set_option maxRecDepth 20000 in
theorem wsL_in_r19 : ∀ w ∈ wsL_law_r19, w ∈ lw_tbl := fun w h => (goodIn_p wsL_law_r19 [661, 665, 390, 393, 397, 669] (by decide +kernel) (by decide +kernel) w h).1
set_option maxRecDepth 20000 in
theorem wsL_in_r20 : ∀ w ∈ wsL_law_r20, w ∈ lw_tbl := fun w h => (goodIn_p wsL_law_r20 [672, 401, 405, 676, 680, 410] (by decide +kernel) (by decide +kernel) w h).1
set_option maxRecDepth 20000 in
theorem wsL_in_r21 : ∀ w ∈ wsL_law_r21, w ∈ lw_tbl := fun w h => (goodIn_p wsL_law_r21 [414, 684, 418, 422, 688, 692] (by decide +kernel) (by decide +kernel) w h).1
set_option maxRecDepth 20000 in
theorem wsL_in_r22 : ∀ w ∈ wsL_law_r22, w ∈ lw_tbl := fun w h => (goodIn_p wsL_law_r22 [426, 429, 696, 433, 436] (by decide +kernel) (by decide +kernel) w h).1
set_option maxRecDepth 20000 in
theorem wsL_in_r23 : ∀ w ∈ wsL_law_r23, w ∈ lw_tbl := fun w h => (goodIn_p wsL_law_r23 [700, 703, 443, 446, 449, 455, 707] (by decide +kernel) (by decide +kernel) w h).1
set_option maxRecDepth 20000 in
theorem wsL_in_r24 : ∀ w ∈ wsL_law_r24, w ∈ lw_tbl := fun w h => (goodIn_p wsL_law_r24 [459, 712, 463, 716, 467, 471] (by decide +kernel) (by decide +kernel) w h).1
set_option maxRecDepth 20000 in
theorem wsL_in_r25 : ∀ w ∈ wsL_law_r25, w ∈ lw_tbl := fun w h => (goodIn_p wsL_law_r25 [720, 475, 724, 479, 728] (by decide +kernel) (by decide +kernel) w h).1
set_option maxRecDepth 20000 in
theorem wsL_in_wsX40 : ∀ w ∈ wsX40, w ∈ lw_tbl := by decide +kernel
set_option maxRecDepth 20000 in
theorem wsL_in_wsX50 : ∀ w ∈ wsX50, w ∈ lw_tbl := by decide +kernel
set_option maxRecDepth 20000 in
theorem wsL_in_wsX30 : ∀ w ∈ wsX30, w ∈ lw_tbl := by decide +kernel
set_option maxRecDepth 20000 in
theorem wsL_in_wsX10 : ∀ w ∈ wsX10, w ∈ lw_tbl := by decide +kernel
set_option maxRecDepth 20000 in
theorem wsL_in_wsX20 : ∀ w ∈ wsX20, w ∈ lw_tbl := by decide +kernel
set_option maxRecDepth 20000 in
theorem wsL_in_wsX00 : ∀ w ∈ wsX00, w ∈ lw_tbl := by decide +kernel
theorem wsL_law_in : ∀ w ∈ wsL_law, w ∈ lw_tbl := by
  unfold wsL_law
  exact List.forall_mem_append.mpr ⟨List.forall_mem_append.mpr ⟨List.forall_mem_append.mpr ⟨List.forall_mem_append.mpr ⟨List.forall_mem_append.mpr ⟨List.forall_mem_append.mpr ⟨List.forall_mem_append.mpr ⟨(List.forall_mem_append.mpr ⟨wsL_in_r1, List.forall_mem_append.mpr ⟨wsL_in_r2, List.forall_mem_append.mpr ⟨wsL_in_r3, List.forall_mem_append.mpr ⟨wsL_in_r4, List.forall_mem_append.mpr ⟨wsL_in_r5, List.forall_mem_append.mpr ⟨wsL_in_r6, List.forall_mem_append.mpr ⟨wsL_in_r7, List.forall_mem_append.mpr ⟨wsL_in_r8, List.forall_mem_append.mpr ⟨wsL_in_r9, List.forall_mem_append.mpr ⟨wsL_in_r10, List.forall_mem_append.mpr ⟨wsL_in_r11, List.forall_mem_append.mpr ⟨wsL_in_r12, List.forall_mem_append.mpr ⟨wsL_in_r13, List.forall_mem_append.mpr ⟨wsL_in_r14, List.forall_mem_append.mpr ⟨wsL_in_r15, List.forall_mem_append.mpr ⟨wsL_in_r16, List.forall_mem_append.mpr ⟨wsL_in_r17, List.forall_mem_append.mpr ⟨wsL_in_r18, List.forall_mem_append.mpr ⟨wsL_in_r19, List.forall_mem_append.mpr ⟨wsL_in_r20, List.forall_mem_append.mpr ⟨wsL_in_r21, List.forall_mem_append.mpr ⟨wsL_in_r22, List.forall_mem_append.mpr ⟨wsL_in_r23, List.forall_mem_append.mpr ⟨wsL_in_r24, wsL_in_r25⟩⟩⟩⟩⟩⟩⟩⟩⟩⟩⟩⟩⟩⟩⟩⟩⟩⟩⟩⟩⟩⟩⟩⟩), wsL_in_wsX40⟩, wsL_in_wsX50⟩, wsL_in_wsX30⟩, wsL_in_wsX10⟩, wsL_in_wsX20⟩, wsL_in_wsX00⟩, fun _ h => absurd h List.not_mem_nil⟩
theorem inlX0 : ∀ w ∈ wsX00, w ∈ wsL_law := fun _ h => List.mem_append_left _ (List.mem_append_right _ h)
theorem inX0 : ∀ w ∈ wsX00, w ∈ lw_tbl := fun w h => wsL_law_in w (inlX0 w h)
theorem inlX1 : ∀ w ∈ wsX10, w ∈ wsL_law := fun _ h => List.mem_append_left _ (List.mem_append_left _ (List.mem_append_left _ (List.mem_append_right _ h)))
theorem inX1 : ∀ w ∈ wsX10, w ∈ lw_tbl := fun w h => wsL_law_in w (inlX1 w h)
theorem inlX2 : ∀ w ∈ wsX20, w ∈ wsL_law := fun _ h => List.mem_append_left _ (List.mem_append_left _ (List.mem_append_right _ h))
theorem inX2 : ∀ w ∈ wsX20, w ∈ lw_tbl := fun w h => wsL_law_in w (inlX2 w h)
theorem inlX3 : ∀ w ∈ wsX30, w ∈ wsL_law := fun _ h => List.mem_append_left _ (List.mem_append_left _ (List.mem_append_left _ (List.mem_append_left _ (List.mem_append_right _ h))))
theorem inX3 : ∀ w ∈ wsX30, w ∈ lw_tbl := fun w h => wsL_law_in w (inlX3 w h)
theorem inlX4 : ∀ w ∈ wsX40, w ∈ wsL_law := fun _ h => List.mem_append_left _ (List.mem_append_left _ (List.mem_append_left _ (List.mem_append_left _ (List.mem_append_left _ (List.mem_append_left _ (List.mem_append_right _ h))))))
theorem inX4 : ∀ w ∈ wsX40, w ∈ lw_tbl := fun w h => wsL_law_in w (inlX4 w h)
theorem inlX5 : ∀ w ∈ wsX50, w ∈ wsL_law := fun _ h => List.mem_append_left _ (List.mem_append_left _ (List.mem_append_left _ (List.mem_append_left _ (List.mem_append_left _ (List.mem_append_right _ h)))))
theorem inX5 : ∀ w ∈ wsX50, w ∈ lw_tbl := fun w h => wsL_law_in w (inlX5 w h)
theorem inJ6 : ∀ w ∈ wsJ60, w ∈ lw_tbl := by decide +kernel
theorem inJ10 : ∀ w ∈ wsJ100, w ∈ lw_tbl := by decide +kernel
set_option maxRecDepth 20000 in
theorem ggX0_init_X3_init : GoodIn wsX0_init wsX3_init := goodIn_r _ [10, 11, 2, 3, 12, 13, 14, 15, 16, 17, 18, 19, 20, 24, 25, 26, 27, 28, 29, 30, 31, 32, 33, 34, 35, 36, 37] (by decide +kernel) (by decide +kernel)
set_option maxRecDepth 20000 in
theorem gX0_init_X3_init : GoodIn wsX0_init (wsX3_init) := ggX0_init_X3_init
theorem dX0_init_0 : decode cX0_init 0 = .ok (.aload_n 0, 1) := by decide +kernel
theorem dX0_init_1 : decode cX0_init 1 = .ok (.invokespecial 3, 3) := by decide +kernel
theorem dX0_init_4 : decode cX0_init 4 = .ok (.aload_n 0, 1) := by decide +kernel
theorem dX0_init_5 : decode cX0_init 5 = .ok (.bipush 6, 2) := by decide +kernel
theorem dX0_init_7 : decode cX0_init 7 = .ok (.anewarray 9, 3) := by decide +kernel
theorem dX0_init_10 : decode cX0_init 10 = .ok (.putfield 11, 3) := by decide +kernel
theorem dX0_init_13 : decode cX0_init 13 = .ok (.iconst 0, 1) := by decide +kernel
theorem dX0_init_14 : decode cX0_init 14 = .ok (.istore_n 1, 1) := by decide +kernel
theorem dX0_init_15 : decode cX0_init 15 = .ok (.iload_n 1, 1) := by decide +kernel
theorem dX0_init_16 : decode cX0_init 16 = .ok (.bipush 6, 2) := by decide +kernel
theorem dX0_init_18 : decode cX0_init 18 = .ok (.if_icmp .ge 22, 3) := by decide +kernel
theorem dX0_init_21 : decode cX0_init 21 = .ok (.aload_n 0, 1) := by decide +kernel
theorem dX0_init_22 : decode cX0_init 22 = .ok (.getfield 11, 3) := by decide +kernel
theorem dX0_init_25 : decode cX0_init 25 = .ok (.iload_n 1, 1) := by decide +kernel
theorem dX0_init_26 : decode cX0_init 26 = .ok (.new 9, 3) := by decide +kernel
theorem dX0_init_29 : decode cX0_init 29 = .ok (.dup, 1) := by decide +kernel
theorem dX0_init_30 : decode cX0_init 30 = .ok (.invokespecial 17, 3) := by decide +kernel
theorem dX0_init_33 : decode cX0_init 33 = .ok (.aastore, 1) := by decide +kernel
theorem dX0_init_34 : decode cX0_init 34 = .ok (.iinc 1 1, 3) := by decide +kernel
theorem dX0_init_37 : decode cX0_init 37 = .ok (.goto (-22), 3) := by decide +kernel
theorem dX0_init_40 : decode cX0_init 40 = .ok (.return_, 1) := by decide +kernel
set_option maxRecDepth 20000 in
theorem ggX0_record_X3_copyFrom : GoodIn wsX0_record wsX3_copyFrom := goodIn_r _ [8, 9, 10, 11, 12, 13, 14, 15, 16, 17, 18, 19, 20, 21, 22, 23, 24, 25, 26, 30, 31, 32, 33, 34, 35, 36, 37, 38, 39, 40, 41, 42, 43] (by decide +kernel) (by decide +kernel)
set_option maxRecDepth 20000 in
theorem gX0_record_X3_copyFrom : GoodIn wsX0_record (wsV RX0 25 RX3 yX3_copyFrom wsX3_copyFrom) := goodIn_app (goodIn_of _ (by decide +kernel)) ggX0_record_X3_copyFrom
theorem dX0_record_0 : decode cX0_record 0 = .ok (.aload_n 0, 1) := by decide +kernel
theorem dX0_record_1 : decode cX0_record 1 = .ok (.getfield 11, 3) := by decide +kernel
theorem dX0_record_4 : decode cX0_record 4 = .ok (.aload_n 0, 1) := by decide +kernel
theorem dX0_record_5 : decode cX0_record 5 = .ok (.getfield 18, 3) := by decide +kernel
theorem dX0_record_8 : decode cX0_record 8 = .ok (.aload_n 0, 1) := by decide +kernel
theorem dX0_record_9 : decode cX0_record 9 = .ok (.getfield 22, 3) := by decide +kernel
theorem dX0_record_12 : decode cX0_record 12 = .ok (.iadd, 1) := by decide +kernel
theorem dX0_record_13 : decode cX0_record 13 = .ok (.bipush 6, 2) := by decide +kernel
theorem dX0_record_15 : decode cX0_record 15 = .ok (.irem, 1) := by decide +kernel
theorem dX0_record_16 : decode cX0_record 16 = .ok (.aaload, 1) := by decide +kernel
theorem dX0_record_17 : decode cX0_record 17 = .ok (.aload_n 1, 1) := by decide +kernel
theorem dX0_record_18 : decode cX0_record 18 = .ok (.invokevirtual 25, 3) := by decide +kernel
theorem dX0_record_21 : decode cX0_record 21 = .ok (.aload_n 0, 1) := by decide +kernel
theorem dX0_record_22 : decode cX0_record 22 = .ok (.getfield 22, 3) := by decide +kernel
theorem dX0_record_25 : decode cX0_record 25 = .ok (.bipush 6, 2) := by decide +kernel
theorem dX0_record_27 : decode cX0_record 27 = .ok (.if_icmp .ge 16, 3) := by decide +kernel
theorem dX0_record_30 : decode cX0_record 30 = .ok (.aload_n 0, 1) := by decide +kernel
theorem dX0_record_31 : decode cX0_record 31 = .ok (.dup, 1) := by decide +kernel
theorem dX0_record_32 : decode cX0_record 32 = .ok (.getfield 22, 3) := by decide +kernel
theorem dX0_record_35 : decode cX0_record 35 = .ok (.iconst 1, 1) := by decide +kernel
theorem dX0_record_36 : decode cX0_record 36 = .ok (.iadd, 1) := by decide +kernel
theorem dX0_record_37 : decode cX0_record 37 = .ok (.putfield 22, 3) := by decide +kernel
theorem dX0_record_40 : decode cX0_record 40 = .ok (.goto 16, 3) := by decide +kernel
theorem dX0_record_43 : decode cX0_record 43 = .ok (.aload_n 0, 1) := by decide +kernel
theorem dX0_record_44 : decode cX0_record 44 = .ok (.aload_n 0, 1) := by decide +kernel
theorem dX0_record_45 : decode cX0_record 45 = .ok (.getfield 18, 3) := by decide +kernel
theorem dX0_record_48 : decode cX0_record 48 = .ok (.iconst 1, 1) := by decide +kernel
theorem dX0_record_49 : decode cX0_record 49 = .ok (.iadd, 1) := by decide +kernel
theorem dX0_record_50 : decode cX0_record 50 = .ok (.bipush 6, 2) := by decide +kernel
theorem dX0_record_52 : decode cX0_record 52 = .ok (.irem, 1) := by decide +kernel
theorem dX0_record_53 : decode cX0_record 53 = .ok (.putfield 18, 3) := by decide +kernel
theorem dX0_record_56 : decode cX0_record 56 = .ok (.return_, 1) := by decide +kernel
set_option maxRecDepth 20000 in
theorem ggX0_takeBackTo_X3_copyFrom : GoodIn wsX0_takeBackTo wsX3_copyFrom := goodIn_r _ [8, 9, 10, 11, 12, 13, 14, 15, 16, 17, 18, 19, 20, 21, 22, 23, 24, 25, 26, 30, 31, 32, 33, 34, 35, 36, 37, 38, 39, 40, 41, 42, 43] (by decide +kernel) (by decide +kernel)
set_option maxRecDepth 20000 in
theorem gX0_takeBackTo_X3_copyFrom : GoodIn wsX0_takeBackTo (wsV RX0 25 RX3 yX3_copyFrom wsX3_copyFrom) := goodIn_app (goodIn_of _ (by decide +kernel)) ggX0_takeBackTo_X3_copyFrom
theorem dX0_takeBackTo_0 : decode cX0_takeBackTo 0 = .ok (.aload_n 0, 1) := by decide +kernel
theorem dX0_takeBackTo_1 : decode cX0_takeBackTo 1 = .ok (.getfield 22, 3) := by decide +kernel
theorem dX0_takeBackTo_4 : decode cX0_takeBackTo 4 = .ok (.ifCond .le 34, 3) := by decide +kernel
theorem dX0_takeBackTo_7 : decode cX0_takeBackTo 7 = .ok (.aload_n 0, 1) := by decide +kernel
theorem dX0_takeBackTo_8 : decode cX0_takeBackTo 8 = .ok (.dup, 1) := by decide +kernel
theorem dX0_takeBackTo_9 : decode cX0_takeBackTo 9 = .ok (.getfield 22, 3) := by decide +kernel
theorem dX0_takeBackTo_12 : decode cX0_takeBackTo 12 = .ok (.iconst 1, 1) := by decide +kernel
theorem dX0_takeBackTo_13 : decode cX0_takeBackTo 13 = .ok (.isub, 1) := by decide +kernel
theorem dX0_takeBackTo_14 : decode cX0_takeBackTo 14 = .ok (.putfield 22, 3) := by decide +kernel
theorem dX0_takeBackTo_17 : decode cX0_takeBackTo 17 = .ok (.aload_n 1, 1) := by decide +kernel
theorem dX0_takeBackTo_18 : decode cX0_takeBackTo 18 = .ok (.aload_n 0, 1) := by decide +kernel
theorem dX0_takeBackTo_19 : decode cX0_takeBackTo 19 = .ok (.getfield 11, 3) := by decide +kernel
theorem dX0_takeBackTo_22 : decode cX0_takeBackTo 22 = .ok (.aload_n 0, 1) := by decide +kernel
theorem dX0_takeBackTo_23 : decode cX0_takeBackTo 23 = .ok (.getfield 18, 3) := by decide +kernel
theorem dX0_takeBackTo_26 : decode cX0_takeBackTo 26 = .ok (.aload_n 0, 1) := by decide +kernel
theorem dX0_takeBackTo_27 : decode cX0_takeBackTo 27 = .ok (.getfield 22, 3) := by decide +kernel
theorem dX0_takeBackTo_30 : decode cX0_takeBackTo 30 = .ok (.iadd, 1) := by decide +kernel
theorem dX0_takeBackTo_31 : decode cX0_takeBackTo 31 = .ok (.bipush 6, 2) := by decide +kernel
theorem dX0_takeBackTo_33 : decode cX0_takeBackTo 33 = .ok (.irem, 1) := by decide +kernel
theorem dX0_takeBackTo_34 : decode cX0_takeBackTo 34 = .ok (.aaload, 1) := by decide +kernel
theorem dX0_takeBackTo_35 : decode cX0_takeBackTo 35 = .ok (.invokevirtual 25, 3) := by decide +kernel
theorem dX0_takeBackTo_38 : decode cX0_takeBackTo 38 = .ok (.return_, 1) := by decide +kernel
theorem dX1_init_0 : decode cX1_init 0 = .ok (.aload_n 0, 1) := by decide +kernel
theorem dX1_init_1 : decode cX1_init 1 = .ok (.invokespecial 3, 3) := by decide +kernel
theorem dX1_init_4 : decode cX1_init 4 = .ok (.aload_n 0, 1) := by decide +kernel
theorem dX1_init_5 : decode cX1_init 5 = .ok (.bipush 64, 2) := by decide +kernel
theorem dX1_init_7 : decode cX1_init 7 = .ok (.newarray .int, 2) := by decide +kernel
theorem dX1_init_9 : decode cX1_init 9 = .ok (.putfield 9, 3) := by decide +kernel
theorem dX1_init_12 : decode cX1_init 12 = .ok (.return_, 1) := by decide +kernel
set_option maxRecDepth 20000 in
theorem ggX1_lengthOf_X1_lastOf : GoodIn wsX1_lengthOf wsX1_lastOf := goodIn_r _ [4, 5] (by decide +kernel) (by decide +kernel)
set_option maxRecDepth 20000 in
theorem gX1_lengthOf_X1_lastOf : GoodIn wsX1_lengthOf (va_wsS RX1 15 yX1_lastOf wsX1_lastOf) := goodIn_app (goodIn_of _ (by decide +kernel)) ggX1_lengthOf_X1_lastOf
set_option maxRecDepth 20000 in
theorem ggX1_lengthOf_X4_isWithin : GoodIn wsX1_lengthOf wsX4_isWithin := goodIn_r _ [8] (by decide +kernel) (by decide +kernel)
set_option maxRecDepth 20000 in
theorem gX1_lengthOf_X4_isWithin_n19 : GoodIn wsX1_lengthOf (wsX4_isWithin) := ggX1_lengthOf_X4_isWithin
theorem dX1_lengthOf_0 : decode cX1_lengthOf 0 = .ok (.iconst 0, 1) := by decide +kernel
theorem dX1_lengthOf_1 : decode cX1_lengthOf 1 = .ok (.istore_n 2, 1) := by decide +kernel
theorem dX1_lengthOf_2 : decode cX1_lengthOf 2 = .ok (.lload_n 0, 1) := by decide +kernel
theorem dX1_lengthOf_3 : decode cX1_lengthOf 3 = .ok (.lstore_n 3, 1) := by decide +kernel
theorem dX1_lengthOf_4 : decode cX1_lengthOf 4 = .ok (.lload_n 3, 1) := by decide +kernel
theorem dX1_lengthOf_5 : decode cX1_lengthOf 5 = .ok (.lconst 0, 1) := by decide +kernel
theorem dX1_lengthOf_6 : decode cX1_lengthOf 6 = .ok (.lcmp, 1) := by decide +kernel
theorem dX1_lengthOf_7 : decode cX1_lengthOf 7 = .ok (.ifCond .eq 36, 3) := by decide +kernel
theorem dX1_lengthOf_10 : decode cX1_lengthOf 10 = .ok (.iload_n 2, 1) := by decide +kernel
theorem dX1_lengthOf_11 : decode cX1_lengthOf 11 = .ok (.bipush 8, 2) := by decide +kernel
theorem dX1_lengthOf_13 : decode cX1_lengthOf 13 = .ok (.if_icmp .ge 30, 3) := by decide +kernel
theorem dX1_lengthOf_16 : decode cX1_lengthOf 16 = .ok (.lload_n 3, 1) := by decide +kernel
theorem dX1_lengthOf_17 : decode cX1_lengthOf 17 = .ok (.invokestatic 15, 3) := by decide +kernel
theorem dX1_lengthOf_20 : decode cX1_lengthOf 20 = .ok (.bipush 33, 2) := by decide +kernel
theorem dX1_lengthOf_22 : decode cX1_lengthOf 22 = .ok (.bipush 126, 2) := by decide +kernel
theorem dX1_lengthOf_24 : decode cX1_lengthOf 24 = .ok (.invokestatic 19, 3) := by decide +kernel
theorem dX1_lengthOf_27 : decode cX1_lengthOf 27 = .ok (.ifCond .ne 5, 3) := by decide +kernel
theorem dX1_lengthOf_30 : decode cX1_lengthOf 30 = .ok (.iconst 0, 1) := by decide +kernel
theorem dX1_lengthOf_31 : decode cX1_lengthOf 31 = .ok (.ireturn, 1) := by decide +kernel
theorem dX1_lengthOf_32 : decode cX1_lengthOf 32 = .ok (.iinc 2 1, 3) := by decide +kernel
theorem dX1_lengthOf_35 : decode cX1_lengthOf 35 = .ok (.lload_n 3, 1) := by decide +kernel
theorem dX1_lengthOf_36 : decode cX1_lengthOf 36 = .ok (.bipush 8, 2) := by decide +kernel
theorem dX1_lengthOf_38 : decode cX1_lengthOf 38 = .ok (.lushr, 1) := by decide +kernel
theorem dX1_lengthOf_39 : decode cX1_lengthOf 39 = .ok (.lstore_n 3, 1) := by decide +kernel
theorem dX1_lengthOf_40 : decode cX1_lengthOf 40 = .ok (.goto (-36), 3) := by decide +kernel
theorem dX1_lengthOf_43 : decode cX1_lengthOf 43 = .ok (.iload_n 2, 1) := by decide +kernel
theorem dX1_lengthOf_44 : decode cX1_lengthOf 44 = .ok (.ireturn, 1) := by decide +kernel
theorem dX1_lastOf_0 : decode cX1_lastOf 0 = .ok (.lload_n 0, 1) := by decide +kernel
theorem dX1_lastOf_1 : decode cX1_lastOf 1 = .ok (.ldc2_w 23, 3) := by decide +kernel
theorem dX1_lastOf_4 : decode cX1_lastOf 4 = .ok (.land, 1) := by decide +kernel
theorem dX1_lastOf_5 : decode cX1_lastOf 5 = .ok (.l2i, 1) := by decide +kernel
theorem dX1_lastOf_6 : decode cX1_lastOf 6 = .ok (.ireturn, 1) := by decide +kernel
set_option maxRecDepth 20000 in
theorem ggX1_append_X1_lastOf : GoodIn wsX1_append wsX1_lastOf := goodIn_r _ [6, 7] (by decide +kernel) (by decide +kernel)
set_option maxRecDepth 20000 in
theorem gX1_append_X1_lastOf : GoodIn wsX1_append (va_wsS RX1 15 yX1_lastOf wsX1_lastOf) := goodIn_app (goodIn_of _ (by decide +kernel)) ggX1_append_X1_lastOf
theorem dX1_append_0 : decode cX1_append 0 = .ok (.iload_n 3, 1) := by decide +kernel
theorem dX1_append_1 : decode cX1_append 1 = .ok (.ifCond .lt 14, 3) := by decide +kernel
theorem dX1_append_4 : decode cX1_append 4 = .ok (.aload_n 0, 1) := by decide +kernel
theorem dX1_append_5 : decode cX1_append 5 = .ok (.getfield 25, 3) := by decide +kernel
theorem dX1_append_8 : decode cX1_append 8 = .ok (.iload_n 3, 1) := by decide +kernel
theorem dX1_append_9 : decode cX1_append 9 = .ok (.iadd, 1) := by decide +kernel
theorem dX1_append_10 : decode cX1_append 10 = .ok (.bipush 64, 2) := by decide +kernel
theorem dX1_append_12 : decode cX1_append 12 = .ok (.if_icmp .le 4, 3) := by decide +kernel
theorem dX1_append_15 : decode cX1_append 15 = .ok (.return_, 1) := by decide +kernel
theorem dX1_append_16 : decode cX1_append 16 = .ok (.lload_n 1, 1) := by decide +kernel
theorem dX1_append_17 : decode cX1_append 17 = .ok (.lstore 4, 2) := by decide +kernel
theorem dX1_append_19 : decode cX1_append 19 = .ok (.aload_n 0, 1) := by decide +kernel
theorem dX1_append_20 : decode cX1_append 20 = .ok (.getfield 25, 3) := by decide +kernel
theorem dX1_append_23 : decode cX1_append 23 = .ok (.iload_n 3, 1) := by decide +kernel
theorem dX1_append_24 : decode cX1_append 24 = .ok (.iadd, 1) := by decide +kernel
theorem dX1_append_25 : decode cX1_append 25 = .ok (.iconst 1, 1) := by decide +kernel
theorem dX1_append_26 : decode cX1_append 26 = .ok (.isub, 1) := by decide +kernel
theorem dX1_append_27 : decode cX1_append 27 = .ok (.istore 6, 2) := by decide +kernel
theorem dX1_append_29 : decode cX1_append 29 = .ok (.iload 6, 2) := by decide +kernel
theorem dX1_append_31 : decode cX1_append 31 = .ok (.aload_n 0, 1) := by decide +kernel
theorem dX1_append_32 : decode cX1_append 32 = .ok (.getfield 25, 3) := by decide +kernel
theorem dX1_append_35 : decode cX1_append 35 = .ok (.if_icmp .lt 28, 3) := by decide +kernel
theorem dX1_append_38 : decode cX1_append 38 = .ok (.aload_n 0, 1) := by decide +kernel
theorem dX1_append_39 : decode cX1_append 39 = .ok (.getfield 9, 3) := by decide +kernel
theorem dX1_append_42 : decode cX1_append 42 = .ok (.iload 6, 2) := by decide +kernel
theorem dX1_append_44 : decode cX1_append 44 = .ok (.lload 4, 2) := by decide +kernel
theorem dX1_append_46 : decode cX1_append 46 = .ok (.invokestatic 15, 3) := by decide +kernel
theorem dX1_append_49 : decode cX1_append 49 = .ok (.iastore, 1) := by decide +kernel
theorem dX1_append_50 : decode cX1_append 50 = .ok (.lload 4, 2) := by decide +kernel
theorem dX1_append_52 : decode cX1_append 52 = .ok (.bipush 8, 2) := by decide +kernel
theorem dX1_append_54 : decode cX1_append 54 = .ok (.lushr, 1) := by decide +kernel
theorem dX1_append_55 : decode cX1_append 55 = .ok (.lstore 4, 2) := by decide +kernel
theorem dX1_append_57 : decode cX1_append 57 = .ok (.iinc 6 (-1), 3) := by decide +kernel
theorem dX1_append_60 : decode cX1_append 60 = .ok (.goto (-31), 3) := by decide +kernel
theorem dX1_append_63 : decode cX1_append 63 = .ok (.aload_n 0, 1) := by decide +kernel
theorem dX1_append_64 : decode cX1_append 64 = .ok (.dup, 1) := by decide +kernel
theorem dX1_append_65 : decode cX1_append 65 = .ok (.getfield 25, 3) := by decide +kernel
theorem dX1_append_68 : decode cX1_append 68 = .ok (.iload_n 3, 1) := by decide +kernel
theorem dX1_append_69 : decode cX1_append 69 = .ok (.iadd, 1) := by decide +kernel
theorem dX1_append_70 : decode cX1_append 70 = .ok (.putfield 25, 3) := by decide +kernel
theorem dX1_append_73 : decode cX1_append 73 = .ok (.return_, 1) := by decide +kernel
theorem dX1_clear_0 : decode cX1_clear 0 = .ok (.aload_n 0, 1) := by decide +kernel
theorem dX1_clear_1 : decode cX1_clear 1 = .ok (.iconst 0, 1) := by decide +kernel
theorem dX1_clear_2 : decode cX1_clear 2 = .ok (.putfield 25, 3) := by decide +kernel
theorem dX1_clear_5 : decode cX1_clear 5 = .ok (.return_, 1) := by decide +kernel
theorem dX2_init_0 : decode cX2_init 0 = .ok (.aload_n 0, 1) := by decide +kernel
theorem dX2_init_1 : decode cX2_init 1 = .ok (.invokespecial 3, 3) := by decide +kernel
theorem dX2_init_4 : decode cX2_init 4 = .ok (.return_, 1) := by decide +kernel
set_option maxRecDepth 20000 in
theorem ggX2_readInto_X2_takes : GoodIn wsX2_readInto wsX2_takes := goodIn_r _ [8, 1, 9, 10, 11, 7, 12, 13, 14, 15, 16, 17, 18, 19, 20, 21, 22, 23, 24, 25, 26, 27, 28, 29, 30, 31, 32, 33, 34, 35, 36, 37, 38, 39, 40, 41, 42, 43, 44, 45, 46, 47, 48, 49, 50, 51, 52, 53, 54, 55, 56, 57, 58, 59, 60, 61, 62, 63, 64, 65, 66, 67, 68, 69, 70, 71, 72, 75, 76, 77, 78, 79, 80, 81, 82, 83, 84, 85, 86, 87, 88] (by decide +kernel) (by decide +kernel)
set_option maxRecDepth 20000 in
theorem gX2_readInto_X2_takes : GoodIn wsX2_readInto (wsV RX2 24 RX2 yX2_takes wsX2_takes) := goodIn_app (goodIn_of _ (by decide +kernel)) ggX2_readInto_X2_takes
theorem dX2_readInto_0 : decode cX2_readInto 0 = .ok (.aload_n 0, 1) := by decide +kernel
theorem dX2_readInto_1 : decode cX2_readInto 1 = .ok (.iconst 0, 1) := by decide +kernel
theorem dX2_readInto_2 : decode cX2_readInto 2 = .ok (.putfield 11, 3) := by decide +kernel
theorem dX2_readInto_5 : decode cX2_readInto 5 = .ok (.iconst 0, 1) := by decide +kernel
theorem dX2_readInto_6 : decode cX2_readInto 6 = .ok (.istore_n 3, 1) := by decide +kernel
theorem dX2_readInto_7 : decode cX2_readInto 7 = .ok (.iload_n 3, 1) := by decide +kernel
theorem dX2_readInto_8 : decode cX2_readInto 8 = .ok (.aload_n 2, 1) := by decide +kernel
theorem dX2_readInto_9 : decode cX2_readInto 9 = .ok (.getfield 15, 3) := by decide +kernel
theorem dX2_readInto_12 : decode cX2_readInto 12 = .ok (.if_icmp .ge 31, 3) := by decide +kernel
theorem dX2_readInto_15 : decode cX2_readInto 15 = .ok (.iload_n 3, 1) := by decide +kernel
theorem dX2_readInto_16 : decode cX2_readInto 16 = .ok (.bipush 64, 2) := by decide +kernel
theorem dX2_readInto_18 : decode cX2_readInto 18 = .ok (.if_icmp .ge 25, 3) := by decide +kernel
theorem dX2_readInto_21 : decode cX2_readInto 21 = .ok (.aload_n 0, 1) := by decide +kernel
theorem dX2_readInto_22 : decode cX2_readInto 22 = .ok (.aload_n 1, 1) := by decide +kernel
theorem dX2_readInto_23 : decode cX2_readInto 23 = .ok (.aload_n 2, 1) := by decide +kernel
theorem dX2_readInto_24 : decode cX2_readInto 24 = .ok (.getfield 20, 3) := by decide +kernel
theorem dX2_readInto_27 : decode cX2_readInto 27 = .ok (.iload_n 3, 1) := by decide +kernel
theorem dX2_readInto_28 : decode cX2_readInto 28 = .ok (.iaload, 1) := by decide +kernel
theorem dX2_readInto_29 : decode cX2_readInto 29 = .ok (.invokevirtual 24, 3) := by decide +kernel
theorem dX2_readInto_32 : decode cX2_readInto 32 = .ok (.ifCond .ne 5, 3) := by decide +kernel
theorem dX2_readInto_35 : decode cX2_readInto 35 = .ok (.iload_n 3, 1) := by decide +kernel
theorem dX2_readInto_36 : decode cX2_readInto 36 = .ok (.ireturn, 1) := by decide +kernel
theorem dX2_readInto_37 : decode cX2_readInto 37 = .ok (.iinc 3 1, 3) := by decide +kernel
theorem dX2_readInto_40 : decode cX2_readInto 40 = .ok (.goto (-33), 3) := by decide +kernel
theorem dX2_readInto_43 : decode cX2_readInto 43 = .ok (.aload_n 0, 1) := by decide +kernel
theorem dX2_readInto_44 : decode cX2_readInto 44 = .ok (.getfield 11, 3) := by decide +kernel
theorem dX2_readInto_47 : decode cX2_readInto 47 = .ok (.iconst 3, 1) := by decide +kernel
theorem dX2_readInto_48 : decode cX2_readInto 48 = .ok (.if_icmp .eq 12, 3) := by decide +kernel
theorem dX2_readInto_51 : decode cX2_readInto 51 = .ok (.aload_n 0, 1) := by decide +kernel
theorem dX2_readInto_52 : decode cX2_readInto 52 = .ok (.getfield 11, 3) := by decide +kernel
theorem dX2_readInto_55 : decode cX2_readInto 55 = .ok (.bipush 6, 2) := by decide +kernel
theorem dX2_readInto_57 : decode cX2_readInto 57 = .ok (.if_icmp .ne 8, 3) := by decide +kernel
theorem dX2_readInto_60 : decode cX2_readInto 60 = .ok (.bipush (-6), 2) := by decide +kernel
theorem dX2_readInto_62 : decode cX2_readInto 62 = .ok (.goto 7, 3) := by decide +kernel
theorem dX2_readInto_65 : decode cX2_readInto 65 = .ok (.aload_n 2, 1) := by decide +kernel
theorem dX2_readInto_66 : decode cX2_readInto 66 = .ok (.getfield 15, 3) := by decide +kernel
theorem dX2_readInto_69 : decode cX2_readInto 69 = .ok (.ireturn, 1) := by decide +kernel
set_option maxRecDepth 20000 in
theorem ggX2_takes_X2_takesRelay : GoodIn wsX2_takes wsX2_takesRelay := goodIn_r _ [6, 7, 8, 9, 5, 10, 11, 12, 13, 14, 15, 16, 17, 18, 19, 20, 1, 65, 66] (by decide +kernel) (by decide +kernel)
set_option maxRecDepth 20000 in
theorem gX2_takes_X2_takesRelay : GoodIn wsX2_takes (wsV RX2 28 RX2 yX2_takesRelay wsX2_takesRelay) := goodIn_app (goodIn_of _ (by decide +kernel)) ggX2_takes_X2_takesRelay
set_option maxRecDepth 20000 in
theorem ggX2_takes_X2_takesEquals : GoodIn wsX2_takes wsX2_takesEquals := goodIn_r _ [24, 7, 25, 26, 27, 28, 29, 30, 17, 18, 19, 5, 20, 1, 65, 66, 67, 68, 69, 70, 71, 72, 73, 74, 75, 76, 77, 78, 79, 80] (by decide +kernel) (by decide +kernel)
set_option maxRecDepth 20000 in
theorem gX2_takes_X2_takesEquals : GoodIn wsX2_takes (wsV RX2 32 RX2 yX2_takesEquals wsX2_takesEquals) := goodIn_app (goodIn_of _ (by decide +kernel)) ggX2_takes_X2_takesEquals
set_option maxRecDepth 20000 in
theorem ggX2_takes_X2_goesTo : GoodIn wsX2_takes wsX2_goesTo := goodIn_r _ [20, 1, 65, 66] (by decide +kernel) (by decide +kernel)
set_option maxRecDepth 20000 in
theorem gX2_takes_X2_goesTo : GoodIn wsX2_takes (wsV RX2 35 RX2 yX2_goesTo wsX2_goesTo) := goodIn_app (goodIn_of _ (by decide +kernel)) ggX2_takes_X2_goesTo
set_option maxRecDepth 20000 in
theorem ggX2_takes_X2_takesFirstContact : GoodIn wsX2_takes wsX2_takesFirstContact := goodIn_r _ [34, 7, 35, 36, 37, 28, 38, 30, 39, 40, 41, 42, 43, 44, 45, 46, 12, 47, 48, 49, 50, 5, 51, 1, 17, 18, 19, 20, 8, 9, 10, 11, 13, 52, 53, 54, 55, 65, 66, 67, 68, 69, 70, 71, 72, 73, 74, 75, 76, 77, 78, 79, 80] (by decide +kernel) (by decide +kernel)
set_option maxRecDepth 20000 in
theorem gX2_takes_X2_takesFirstContact : GoodIn wsX2_takes (wsV RX2 38 RX2 yX2_takesFirstContact wsX2_takesFirstContact) := goodIn_app (goodIn_of _ (by decide +kernel)) ggX2_takes_X2_takesFirstContact
set_option maxRecDepth 20000 in
theorem ggX2_takes_X2_takesContact : GoodIn wsX2_takes wsX2_takesContact := goodIn_r _ [51, 1, 7, 17, 18, 19, 5, 20, 8, 9, 10, 11, 12, 13, 52, 53, 54, 28, 55, 30, 40, 39, 41, 46, 47, 65, 66, 67, 68, 69, 70, 71, 72, 73, 74, 75, 76, 77, 78, 79, 80] (by decide +kernel) (by decide +kernel)
set_option maxRecDepth 20000 in
theorem gX2_takes_X2_takesContact : GoodIn wsX2_takes (wsV RX2 41 RX2 yX2_takesContact wsX2_takesContact) := goodIn_app (goodIn_of _ (by decide +kernel)) ggX2_takes_X2_takesContact
set_option maxRecDepth 20000 in
theorem ggX2_takes_X2_takesNextOfBranch : GoodIn wsX2_takes wsX2_takesNextOfBranch := goodIn_r _ [59, 7, 17, 18, 19, 5, 20, 1, 60, 43, 44, 28, 45, 30, 61, 62, 63, 64, 41, 46, 12, 47, 48, 49, 50, 51, 8, 9, 10, 11, 13, 52, 53, 54, 55, 40, 39, 65, 66, 67, 68, 69, 70, 71, 72, 73, 74, 75, 76, 77, 78, 79, 80] (by decide +kernel) (by decide +kernel)
set_option maxRecDepth 20000 in
theorem gX2_takes_X2_takesNextOfBranch : GoodIn wsX2_takes (wsV RX2 44 RX2 yX2_takesNextOfBranch wsX2_takesNextOfBranch) := goodIn_app (goodIn_of _ (by decide +kernel)) ggX2_takes_X2_takesNextOfBranch
theorem dX2_takes_0 : decode cX2_takes 0 = .ok (.aload_n 0, 1) := by decide +kernel
theorem dX2_takes_1 : decode cX2_takes 1 = .ok (.getfield 11, 3) := by decide +kernel
theorem dX2_takes_4 : decode cX2_takes 4 = .ok (.tableswitch 108 0 5 #[40, 46, 53, 74, 94, 101], 40) := by decide +kernel
theorem dX2_takes_44 : decode cX2_takes 44 = .ok (.aload_n 0, 1) := by decide +kernel
theorem dX2_takes_45 : decode cX2_takes 45 = .ok (.iload_n 2, 1) := by decide +kernel
theorem dX2_takes_46 : decode cX2_takes 46 = .ok (.invokevirtual 28, 3) := by decide +kernel
theorem dX2_takes_49 : decode cX2_takes 49 = .ok (.ireturn, 1) := by decide +kernel
theorem dX2_takes_50 : decode cX2_takes 50 = .ok (.aload_n 0, 1) := by decide +kernel
theorem dX2_takes_51 : decode cX2_takes 51 = .ok (.aload_n 1, 1) := by decide +kernel
theorem dX2_takes_52 : decode cX2_takes 52 = .ok (.iload_n 2, 1) := by decide +kernel
theorem dX2_takes_53 : decode cX2_takes 53 = .ok (.invokevirtual 32, 3) := by decide +kernel
theorem dX2_takes_56 : decode cX2_takes 56 = .ok (.ireturn, 1) := by decide +kernel
theorem dX2_takes_57 : decode cX2_takes 57 = .ok (.iload_n 2, 1) := by decide +kernel
theorem dX2_takes_58 : decode cX2_takes 58 = .ok (.bipush 48, 2) := by decide +kernel
theorem dX2_takes_60 : decode cX2_takes 60 = .ok (.if_icmp .ne 11, 3) := by decide +kernel
theorem dX2_takes_63 : decode cX2_takes 63 = .ok (.aload_n 0, 1) := by decide +kernel
theorem dX2_takes_64 : decode cX2_takes 64 = .ok (.iconst 3, 1) := by decide +kernel
theorem dX2_takes_65 : decode cX2_takes 65 = .ok (.invokevirtual 35, 3) := by decide +kernel
theorem dX2_takes_68 : decode cX2_takes 68 = .ok (.goto 9, 3) := by decide +kernel
theorem dX2_takes_71 : decode cX2_takes 71 = .ok (.aload_n 0, 1) := by decide +kernel
theorem dX2_takes_72 : decode cX2_takes 72 = .ok (.aload_n 1, 1) := by decide +kernel
theorem dX2_takes_73 : decode cX2_takes 73 = .ok (.iload_n 2, 1) := by decide +kernel
theorem dX2_takes_74 : decode cX2_takes 74 = .ok (.invokevirtual 38, 3) := by decide +kernel
theorem dX2_takes_77 : decode cX2_takes 77 = .ok (.ireturn, 1) := by decide +kernel
theorem dX2_takes_78 : decode cX2_takes 78 = .ok (.iload_n 2, 1) := by decide +kernel
theorem dX2_takes_79 : decode cX2_takes 79 = .ok (.bipush 59, 2) := by decide +kernel
theorem dX2_takes_81 : decode cX2_takes 81 = .ok (.if_icmp .ne 15, 3) := by decide +kernel
theorem dX2_takes_84 : decode cX2_takes 84 = .ok (.aload_n 0, 1) := by decide +kernel
theorem dX2_takes_85 : decode cX2_takes 85 = .ok (.iconst 0, 1) := by decide +kernel
theorem dX2_takes_86 : decode cX2_takes 86 = .ok (.invokevirtual 35, 3) := by decide +kernel
theorem dX2_takes_89 : decode cX2_takes 89 = .ok (.ifCond .eq 7, 3) := by decide +kernel
theorem dX2_takes_92 : decode cX2_takes 92 = .ok (.iconst 1, 1) := by decide +kernel
theorem dX2_takes_93 : decode cX2_takes 93 = .ok (.goto 4, 3) := by decide +kernel
theorem dX2_takes_96 : decode cX2_takes 96 = .ok (.iconst 0, 1) := by decide +kernel
theorem dX2_takes_97 : decode cX2_takes 97 = .ok (.ireturn, 1) := by decide +kernel
theorem dX2_takes_98 : decode cX2_takes 98 = .ok (.aload_n 0, 1) := by decide +kernel
theorem dX2_takes_99 : decode cX2_takes 99 = .ok (.aload_n 1, 1) := by decide +kernel
theorem dX2_takes_100 : decode cX2_takes 100 = .ok (.iload_n 2, 1) := by decide +kernel
theorem dX2_takes_101 : decode cX2_takes 101 = .ok (.invokevirtual 38, 3) := by decide +kernel
theorem dX2_takes_104 : decode cX2_takes 104 = .ok (.ireturn, 1) := by decide +kernel
theorem dX2_takes_105 : decode cX2_takes 105 = .ok (.aload_n 0, 1) := by decide +kernel
theorem dX2_takes_106 : decode cX2_takes 106 = .ok (.aload_n 1, 1) := by decide +kernel
theorem dX2_takes_107 : decode cX2_takes 107 = .ok (.iload_n 2, 1) := by decide +kernel
theorem dX2_takes_108 : decode cX2_takes 108 = .ok (.invokevirtual 41, 3) := by decide +kernel
theorem dX2_takes_111 : decode cX2_takes 111 = .ok (.ireturn, 1) := by decide +kernel
theorem dX2_takes_112 : decode cX2_takes 112 = .ok (.aload_n 0, 1) := by decide +kernel
theorem dX2_takes_113 : decode cX2_takes 113 = .ok (.aload_n 1, 1) := by decide +kernel
theorem dX2_takes_114 : decode cX2_takes 114 = .ok (.iload_n 2, 1) := by decide +kernel
theorem dX2_takes_115 : decode cX2_takes 115 = .ok (.invokevirtual 44, 3) := by decide +kernel
theorem dX2_takes_118 : decode cX2_takes 118 = .ok (.ireturn, 1) := by decide +kernel
theorem dX2_goesTo_0 : decode cX2_goesTo 0 = .ok (.aload_n 0, 1) := by decide +kernel
theorem dX2_goesTo_1 : decode cX2_goesTo 1 = .ok (.iload_n 1, 1) := by decide +kernel
theorem dX2_goesTo_2 : decode cX2_goesTo 2 = .ok (.putfield 11, 3) := by decide +kernel
theorem dX2_goesTo_5 : decode cX2_goesTo 5 = .ok (.iconst 1, 1) := by decide +kernel
theorem dX2_goesTo_6 : decode cX2_goesTo 6 = .ok (.ireturn, 1) := by decide +kernel
set_option maxRecDepth 20000 in
theorem ggX2_takesRelay_X2_contactOf : GoodIn wsX2_takesRelay wsX2_contactOf := goodIn_r _ [5, 6, 7, 8] (by decide +kernel) (by decide +kernel)
set_option maxRecDepth 20000 in
theorem gX2_takesRelay_X2_contactOf : GoodIn wsX2_takesRelay (va_wsS RX2 47 yX2_contactOf wsX2_contactOf) := goodIn_app (goodIn_of _ (by decide +kernel)) ggX2_takesRelay_X2_contactOf
set_option maxRecDepth 20000 in
theorem ggX2_takesRelay_X4_isRelay : GoodIn wsX2_takesRelay wsX4_isRelay := goodIn_r _ [10, 11, 6, 7, 8] (by decide +kernel) (by decide +kernel)
set_option maxRecDepth 20000 in
theorem gX2_takesRelay_X4_isRelay_n51 : GoodIn wsX2_takesRelay (wsX4_isRelay) := ggX2_takesRelay_X4_isRelay
set_option maxRecDepth 20000 in
theorem ggX2_takesRelay_X2_goesTo : GoodIn wsX2_takesRelay wsX2_goesTo := goodIn_r _ [15, 16, 17, 18] (by decide +kernel) (by decide +kernel)
set_option maxRecDepth 20000 in
theorem gX2_takesRelay_X2_goesTo : GoodIn wsX2_takesRelay (wsV RX2 35 RX2 yX2_goesTo wsX2_goesTo) := goodIn_app (goodIn_of _ (by decide +kernel)) ggX2_takesRelay_X2_goesTo
theorem dX2_takesRelay_0 : decode cX2_takesRelay 0 = .ok (.iload_n 1, 1) := by decide +kernel
theorem dX2_takesRelay_1 : decode cX2_takesRelay 1 = .ok (.invokestatic 47, 3) := by decide +kernel
theorem dX2_takesRelay_4 : decode cX2_takesRelay 4 = .ok (.istore_n 2, 1) := by decide +kernel
theorem dX2_takesRelay_5 : decode cX2_takesRelay 5 = .ok (.iload_n 2, 1) := by decide +kernel
theorem dX2_takesRelay_6 : decode cX2_takesRelay 6 = .ok (.invokestatic 51, 3) := by decide +kernel
theorem dX2_takesRelay_9 : decode cX2_takesRelay 9 = .ok (.ifCond .ne 5, 3) := by decide +kernel
theorem dX2_takesRelay_12 : decode cX2_takesRelay 12 = .ok (.iconst 0, 1) := by decide +kernel
theorem dX2_takesRelay_13 : decode cX2_takesRelay 13 = .ok (.ireturn, 1) := by decide +kernel
theorem dX2_takesRelay_14 : decode cX2_takesRelay 14 = .ok (.aload_n 0, 1) := by decide +kernel
theorem dX2_takesRelay_15 : decode cX2_takesRelay 15 = .ok (.iload_n 2, 1) := by decide +kernel
theorem dX2_takesRelay_16 : decode cX2_takesRelay 16 = .ok (.putfield 54, 3) := by decide +kernel
theorem dX2_takesRelay_19 : decode cX2_takesRelay 19 = .ok (.aload_n 0, 1) := by decide +kernel
theorem dX2_takesRelay_20 : decode cX2_takesRelay 20 = .ok (.iconst 1, 1) := by decide +kernel
theorem dX2_takesRelay_21 : decode cX2_takesRelay 21 = .ok (.invokevirtual 35, 3) := by decide +kernel
theorem dX2_takesRelay_24 : decode cX2_takesRelay 24 = .ok (.ireturn, 1) := by decide +kernel
set_option maxRecDepth 20000 in
theorem ggX2_takesEquals_X3_clearCircuit : GoodIn wsX2_takesEquals wsX3_clearCircuit := goodIn_r _ [6, 7, 16, 17, 18, 19, 20, 21, 22, 23, 24, 25, 26, 27, 28, 29] (by decide +kernel) (by decide +kernel)
set_option maxRecDepth 20000 in
theorem gX2_takesEquals_X3_clearCircuit : GoodIn wsX2_takesEquals (wsV RX2 57 RX3 yX3_clearCircuit wsX3_clearCircuit) := goodIn_app (goodIn_of _ (by decide +kernel)) ggX2_takesEquals_X3_clearCircuit
set_option maxRecDepth 20000 in
theorem ggX2_takesEquals_X2_goesTo : GoodIn wsX2_takesEquals wsX2_goesTo := goodIn_r _ [12, 13, 14, 15] (by decide +kernel) (by decide +kernel)
set_option maxRecDepth 20000 in
theorem gX2_takesEquals_X2_goesTo : GoodIn wsX2_takesEquals (wsV RX2 35 RX2 yX2_goesTo wsX2_goesTo) := goodIn_app (goodIn_of _ (by decide +kernel)) ggX2_takesEquals_X2_goesTo
theorem dX2_takesEquals_0 : decode cX2_takesEquals 0 = .ok (.iload_n 2, 1) := by decide +kernel
theorem dX2_takesEquals_1 : decode cX2_takesEquals 1 = .ok (.bipush 61, 2) := by decide +kernel
theorem dX2_takesEquals_3 : decode cX2_takesEquals 3 = .ok (.if_icmp .eq 5, 3) := by decide +kernel
theorem dX2_takesEquals_6 : decode cX2_takesEquals 6 = .ok (.iconst 0, 1) := by decide +kernel
theorem dX2_takesEquals_7 : decode cX2_takesEquals 7 = .ok (.ireturn, 1) := by decide +kernel
theorem dX2_takesEquals_8 : decode cX2_takesEquals 8 = .ok (.aload_n 1, 1) := by decide +kernel
theorem dX2_takesEquals_9 : decode cX2_takesEquals 9 = .ok (.aload_n 0, 1) := by decide +kernel
theorem dX2_takesEquals_10 : decode cX2_takesEquals 10 = .ok (.getfield 54, 3) := by decide +kernel
theorem dX2_takesEquals_13 : decode cX2_takesEquals 13 = .ok (.invokevirtual 57, 3) := by decide +kernel
theorem dX2_takesEquals_16 : decode cX2_takesEquals 16 = .ok (.aload_n 0, 1) := by decide +kernel
theorem dX2_takesEquals_17 : decode cX2_takesEquals 17 = .ok (.iconst 2, 1) := by decide +kernel
theorem dX2_takesEquals_18 : decode cX2_takesEquals 18 = .ok (.invokevirtual 35, 3) := by decide +kernel
theorem dX2_takesEquals_21 : decode cX2_takesEquals 21 = .ok (.ireturn, 1) := by decide +kernel
set_option maxRecDepth 20000 in
theorem ggX2_takesFirstContact_X3_addBranch : GoodIn wsX2_takesFirstContact wsX3_addBranch := goodIn_r _ [6, 7, 8, 9, 10, 11, 12, 13, 5, 14, 15, 16, 17, 39, 40, 41, 42, 43, 44, 45, 46, 47, 48, 49, 50, 51, 52] (by decide +kernel) (by decide +kernel)
set_option maxRecDepth 20000 in
theorem gX2_takesFirstContact_X3_addBranch : GoodIn wsX2_takesFirstContact (wsV RX2 63 RX3 yX3_addBranch wsX3_addBranch) := goodIn_app (goodIn_of _ (by decide +kernel)) ggX2_takesFirstContact_X3_addBranch
set_option maxRecDepth 20000 in
theorem ggX2_takesFirstContact_X2_takesContact : GoodIn wsX2_takesFirstContact wsX2_takesContact := goodIn_r _ [22, 23, 1, 24, 25, 26, 21, 27, 28, 29, 30, 31, 16, 32, 33, 34, 35, 5, 36, 7, 9, 8, 10, 15, 17, 37, 38, 39, 40, 41, 42, 43, 44, 45, 46, 47, 48, 49, 50, 51, 52] (by decide +kernel) (by decide +kernel)
set_option maxRecDepth 20000 in
theorem gX2_takesFirstContact_X2_takesContact : GoodIn wsX2_takesFirstContact (wsV RX2 41 RX2 yX2_takesContact wsX2_takesContact) := goodIn_app (goodIn_of _ (by decide +kernel)) ggX2_takesFirstContact_X2_takesContact
theorem dX2_takesFirstContact_0 : decode cX2_takesFirstContact 0 = .ok (.aload_n 1, 1) := by decide +kernel
theorem dX2_takesFirstContact_1 : decode cX2_takesFirstContact 1 = .ok (.aload_n 0, 1) := by decide +kernel
theorem dX2_takesFirstContact_2 : decode cX2_takesFirstContact 2 = .ok (.getfield 54, 3) := by decide +kernel
theorem dX2_takesFirstContact_5 : decode cX2_takesFirstContact 5 = .ok (.invokevirtual 63, 3) := by decide +kernel
theorem dX2_takesFirstContact_8 : decode cX2_takesFirstContact 8 = .ok (.aload_n 0, 1) := by decide +kernel
theorem dX2_takesFirstContact_9 : decode cX2_takesFirstContact 9 = .ok (.aload_n 1, 1) := by decide +kernel
theorem dX2_takesFirstContact_10 : decode cX2_takesFirstContact 10 = .ok (.iload_n 2, 1) := by decide +kernel
theorem dX2_takesFirstContact_11 : decode cX2_takesFirstContact 11 = .ok (.invokevirtual 41, 3) := by decide +kernel
theorem dX2_takesFirstContact_14 : decode cX2_takesFirstContact 14 = .ok (.ireturn, 1) := by decide +kernel
set_option maxRecDepth 20000 in
theorem ggX2_takesNextOfBranch_X2_goesTo : GoodIn wsX2_takesNextOfBranch wsX2_goesTo := goodIn_r _ [6, 7, 37, 38] (by decide +kernel) (by decide +kernel)
end
section
set_option maxRecDepth 20000 in
theorem gX2_takesNextOfBranch_X2_goesTo : GoodIn wsX2_takesNextOfBranch (wsV RX2 35 RX2 yX2_goesTo wsX2_goesTo) := goodIn_app (goodIn_of _ (by decide +kernel)) ggX2_takesNextOfBranch_X2_goesTo
set_option maxRecDepth 20000 in
theorem ggX2_takesNextOfBranch_X3_hasRoomForBranch : GoodIn wsX2_takesNextOfBranch wsX3_hasRoomForBranch := goodIn_r _ [12, 13, 39, 40, 41, 42, 43, 44, 45, 46, 47, 48, 49, 50, 51, 52] (by decide +kernel) (by decide +kernel)
set_option maxRecDepth 20000 in
theorem gX2_takesNextOfBranch_X3_hasRoomForBranch : GoodIn wsX2_takesNextOfBranch (wsV RX2 66 RX3 yX3_hasRoomForBranch wsX3_hasRoomForBranch) := goodIn_app (goodIn_of _ (by decide +kernel)) ggX2_takesNextOfBranch_X3_hasRoomForBranch
set_option maxRecDepth 20000 in
theorem ggX2_takesNextOfBranch_X3_hasRoomForContact : GoodIn wsX2_takesNextOfBranch wsX3_hasRoomForContact := goodIn_r _ [17, 13, 18, 19, 20, 21, 39, 40, 41, 42, 43, 44, 45, 46, 47, 48, 49, 50, 51, 52] (by decide +kernel) (by decide +kernel)
set_option maxRecDepth 20000 in
theorem gX2_takesNextOfBranch_X3_hasRoomForContact : GoodIn wsX2_takesNextOfBranch (wsV RX2 69 RX3 yX3_hasRoomForContact wsX3_hasRoomForContact) := goodIn_app (goodIn_of _ (by decide +kernel)) ggX2_takesNextOfBranch_X3_hasRoomForContact
set_option maxRecDepth 20000 in
theorem ggX2_takesNextOfBranch_X2_takesContact : GoodIn wsX2_takesNextOfBranch wsX2_takesContact := goodIn_r _ [25, 7, 1, 2, 3, 4, 5, 6, 26, 27, 28, 29, 20, 30, 31, 32, 33, 11, 34, 13, 35, 36, 18, 19, 21, 37, 38, 39, 40, 41, 42, 43, 44, 45, 46, 47, 48, 49, 50, 51, 52] (by decide +kernel) (by decide +kernel)
set_option maxRecDepth 20000 in
theorem gX2_takesNextOfBranch_X2_takesContact : GoodIn wsX2_takesNextOfBranch (wsV RX2 41 RX2 yX2_takesContact wsX2_takesContact) := goodIn_app (goodIn_of _ (by decide +kernel)) ggX2_takesNextOfBranch_X2_takesContact
theorem dX2_takesNextOfBranch_0 : decode cX2_takesNextOfBranch 0 = .ok (.iload_n 2, 1) := by decide +kernel
theorem dX2_takesNextOfBranch_1 : decode cX2_takesNextOfBranch 1 = .ok (.bipush 59, 2) := by decide +kernel
theorem dX2_takesNextOfBranch_3 : decode cX2_takesNextOfBranch 3 = .ok (.if_icmp .ne 9, 3) := by decide +kernel
theorem dX2_takesNextOfBranch_6 : decode cX2_takesNextOfBranch 6 = .ok (.aload_n 0, 1) := by decide +kernel
theorem dX2_takesNextOfBranch_7 : decode cX2_takesNextOfBranch 7 = .ok (.iconst 0, 1) := by decide +kernel
theorem dX2_takesNextOfBranch_8 : decode cX2_takesNextOfBranch 8 = .ok (.invokevirtual 35, 3) := by decide +kernel
theorem dX2_takesNextOfBranch_11 : decode cX2_takesNextOfBranch 11 = .ok (.ireturn, 1) := by decide +kernel
theorem dX2_takesNextOfBranch_12 : decode cX2_takesNextOfBranch 12 = .ok (.iload_n 2, 1) := by decide +kernel
theorem dX2_takesNextOfBranch_13 : decode cX2_takesNextOfBranch 13 = .ok (.bipush 43, 2) := by decide +kernel
theorem dX2_takesNextOfBranch_15 : decode cX2_takesNextOfBranch 15 = .ok (.if_icmp .ne 28, 3) := by decide +kernel
theorem dX2_takesNextOfBranch_18 : decode cX2_takesNextOfBranch 18 = .ok (.aload_n 1, 1) := by decide +kernel
theorem dX2_takesNextOfBranch_19 : decode cX2_takesNextOfBranch 19 = .ok (.aload_n 0, 1) := by decide +kernel
theorem dX2_takesNextOfBranch_20 : decode cX2_takesNextOfBranch 20 = .ok (.getfield 54, 3) := by decide +kernel
theorem dX2_takesNextOfBranch_23 : decode cX2_takesNextOfBranch 23 = .ok (.invokevirtual 66, 3) := by decide +kernel
theorem dX2_takesNextOfBranch_26 : decode cX2_takesNextOfBranch 26 = .ok (.ifCond .eq 15, 3) := by decide +kernel
theorem dX2_takesNextOfBranch_29 : decode cX2_takesNextOfBranch 29 = .ok (.aload_n 0, 1) := by decide +kernel
theorem dX2_takesNextOfBranch_30 : decode cX2_takesNextOfBranch 30 = .ok (.iconst 4, 1) := by decide +kernel
theorem dX2_takesNextOfBranch_31 : decode cX2_takesNextOfBranch 31 = .ok (.invokevirtual 35, 3) := by decide +kernel
theorem dX2_takesNextOfBranch_34 : decode cX2_takesNextOfBranch 34 = .ok (.ifCond .eq 7, 3) := by decide +kernel
theorem dX2_takesNextOfBranch_37 : decode cX2_takesNextOfBranch 37 = .ok (.iconst 1, 1) := by decide +kernel
theorem dX2_takesNextOfBranch_38 : decode cX2_takesNextOfBranch 38 = .ok (.goto 4, 3) := by decide +kernel
theorem dX2_takesNextOfBranch_41 : decode cX2_takesNextOfBranch 41 = .ok (.iconst 0, 1) := by decide +kernel
theorem dX2_takesNextOfBranch_42 : decode cX2_takesNextOfBranch 42 = .ok (.ireturn, 1) := by decide +kernel
theorem dX2_takesNextOfBranch_43 : decode cX2_takesNextOfBranch 43 = .ok (.aload_n 1, 1) := by decide +kernel
theorem dX2_takesNextOfBranch_44 : decode cX2_takesNextOfBranch 44 = .ok (.aload_n 0, 1) := by decide +kernel
theorem dX2_takesNextOfBranch_45 : decode cX2_takesNextOfBranch 45 = .ok (.getfield 54, 3) := by decide +kernel
theorem dX2_takesNextOfBranch_48 : decode cX2_takesNextOfBranch 48 = .ok (.invokevirtual 69, 3) := by decide +kernel
theorem dX2_takesNextOfBranch_51 : decode cX2_takesNextOfBranch 51 = .ok (.ifCond .eq 16, 3) := by decide +kernel
theorem dX2_takesNextOfBranch_54 : decode cX2_takesNextOfBranch 54 = .ok (.aload_n 0, 1) := by decide +kernel
theorem dX2_takesNextOfBranch_55 : decode cX2_takesNextOfBranch 55 = .ok (.aload_n 1, 1) := by decide +kernel
theorem dX2_takesNextOfBranch_56 : decode cX2_takesNextOfBranch 56 = .ok (.iload_n 2, 1) := by decide +kernel
theorem dX2_takesNextOfBranch_57 : decode cX2_takesNextOfBranch 57 = .ok (.invokevirtual 41, 3) := by decide +kernel
theorem dX2_takesNextOfBranch_60 : decode cX2_takesNextOfBranch 60 = .ok (.ifCond .eq 7, 3) := by decide +kernel
theorem dX2_takesNextOfBranch_63 : decode cX2_takesNextOfBranch 63 = .ok (.iconst 1, 1) := by decide +kernel
theorem dX2_takesNextOfBranch_64 : decode cX2_takesNextOfBranch 64 = .ok (.goto 4, 3) := by decide +kernel
theorem dX2_takesNextOfBranch_67 : decode cX2_takesNextOfBranch 67 = .ok (.iconst 0, 1) := by decide +kernel
theorem dX2_takesNextOfBranch_68 : decode cX2_takesNextOfBranch 68 = .ok (.ireturn, 1) := by decide +kernel
set_option maxRecDepth 20000 in
theorem ggX2_takesContact_X2_goesTo : GoodIn wsX2_takesContact wsX2_goesTo := goodIn_r _ [7, 1, 25, 26] (by decide +kernel) (by decide +kernel)
set_option maxRecDepth 20000 in
theorem gX2_takesContact_X2_goesTo : GoodIn wsX2_takesContact (wsV RX2 35 RX2 yX2_goesTo wsX2_goesTo) := goodIn_app (goodIn_of _ (by decide +kernel)) ggX2_takesContact_X2_goesTo
set_option maxRecDepth 20000 in
theorem ggX2_takesContact_X2_contactOf : GoodIn wsX2_takesContact wsX2_contactOf := goodIn_r _ [10, 11, 12, 13] (by decide +kernel) (by decide +kernel)
set_option maxRecDepth 20000 in
theorem gX2_takesContact_X2_contactOf : GoodIn wsX2_takesContact (va_wsS RX2 47 yX2_contactOf wsX2_contactOf) := goodIn_app (goodIn_of _ (by decide +kernel)) ggX2_takesContact_X2_contactOf
set_option maxRecDepth 20000 in
theorem ggX2_takesContact_X3_addContact : GoodIn wsX2_takesContact wsX3_addContact := goodIn_r _ [18, 19, 20, 21, 22, 23, 12, 24, 27, 28, 29, 30, 31, 32, 33, 34, 35, 36, 37, 38, 39, 40] (by decide +kernel) (by decide +kernel)
set_option maxRecDepth 20000 in
theorem gX2_takesContact_X3_addContact : GoodIn wsX2_takesContact (wsV RX2 72 RX3 yX3_addContact wsX3_addContact) := goodIn_app (goodIn_of _ (by decide +kernel)) ggX2_takesContact_X3_addContact
theorem dX2_takesContact_0 : decode cX2_takesContact 0 = .ok (.aload_n 0, 1) := by decide +kernel
theorem dX2_takesContact_1 : decode cX2_takesContact 1 = .ok (.getfield 11, 3) := by decide +kernel
theorem dX2_takesContact_4 : decode cX2_takesContact 4 = .ok (.iconst 5, 1) := by decide +kernel
theorem dX2_takesContact_5 : decode cX2_takesContact 5 = .ok (.if_icmp .ne 7, 3) := by decide +kernel
theorem dX2_takesContact_8 : decode cX2_takesContact 8 = .ok (.iconst 1, 1) := by decide +kernel
theorem dX2_takesContact_9 : decode cX2_takesContact 9 = .ok (.goto 4, 3) := by decide +kernel
theorem dX2_takesContact_12 : decode cX2_takesContact 12 = .ok (.iconst 0, 1) := by decide +kernel
theorem dX2_takesContact_13 : decode cX2_takesContact 13 = .ok (.istore_n 3, 1) := by decide +kernel
theorem dX2_takesContact_14 : decode cX2_takesContact 14 = .ok (.iload_n 2, 1) := by decide +kernel
theorem dX2_takesContact_15 : decode cX2_takesContact 15 = .ok (.bipush 33, 2) := by decide +kernel
theorem dX2_takesContact_17 : decode cX2_takesContact 17 = .ok (.if_icmp .ne 13, 3) := by decide +kernel
theorem dX2_takesContact_20 : decode cX2_takesContact 20 = .ok (.iload_n 3, 1) := by decide +kernel
theorem dX2_takesContact_21 : decode cX2_takesContact 21 = .ok (.ifCond .ne 9, 3) := by decide +kernel
theorem dX2_takesContact_24 : decode cX2_takesContact 24 = .ok (.aload_n 0, 1) := by decide +kernel
theorem dX2_takesContact_25 : decode cX2_takesContact 25 = .ok (.iconst 5, 1) := by decide +kernel
theorem dX2_takesContact_26 : decode cX2_takesContact 26 = .ok (.invokevirtual 35, 3) := by decide +kernel
theorem dX2_takesContact_29 : decode cX2_takesContact 29 = .ok (.ireturn, 1) := by decide +kernel
theorem dX2_takesContact_30 : decode cX2_takesContact 30 = .ok (.iload_n 2, 1) := by decide +kernel
theorem dX2_takesContact_31 : decode cX2_takesContact 31 = .ok (.invokestatic 47, 3) := by decide +kernel
theorem dX2_takesContact_34 : decode cX2_takesContact 34 = .ok (.istore 4, 2) := by decide +kernel
theorem dX2_takesContact_36 : decode cX2_takesContact 36 = .ok (.iload 4, 2) := by decide +kernel
theorem dX2_takesContact_38 : decode cX2_takesContact 38 = .ok (.iconst (-1), 1) := by decide +kernel
theorem dX2_takesContact_39 : decode cX2_takesContact 39 = .ok (.if_icmp .ne 5, 3) := by decide +kernel
theorem dX2_takesContact_42 : decode cX2_takesContact 42 = .ok (.iconst 0, 1) := by decide +kernel
theorem dX2_takesContact_43 : decode cX2_takesContact 43 = .ok (.ireturn, 1) := by decide +kernel
theorem dX2_takesContact_44 : decode cX2_takesContact 44 = .ok (.aload_n 1, 1) := by decide +kernel
theorem dX2_takesContact_45 : decode cX2_takesContact 45 = .ok (.aload_n 0, 1) := by decide +kernel
theorem dX2_takesContact_46 : decode cX2_takesContact 46 = .ok (.getfield 54, 3) := by decide +kernel
theorem dX2_takesContact_49 : decode cX2_takesContact 49 = .ok (.iload 4, 2) := by decide +kernel
theorem dX2_takesContact_51 : decode cX2_takesContact 51 = .ok (.iload_n 3, 1) := by decide +kernel
theorem dX2_takesContact_52 : decode cX2_takesContact 52 = .ok (.invokevirtual 72, 3) := by decide +kernel
theorem dX2_takesContact_55 : decode cX2_takesContact 55 = .ok (.aload_n 0, 1) := by decide +kernel
theorem dX2_takesContact_56 : decode cX2_takesContact 56 = .ok (.bipush 6, 2) := by decide +kernel
theorem dX2_takesContact_58 : decode cX2_takesContact 58 = .ok (.invokevirtual 35, 3) := by decide +kernel
theorem dX2_takesContact_61 : decode cX2_takesContact 61 = .ok (.ireturn, 1) := by decide +kernel
set_option maxRecDepth 20000 in
theorem ggX2_contactOf_X4_isWithin : GoodIn wsX2_contactOf wsX4_isWithin := goodIn_r _ [3] (by decide +kernel) (by decide +kernel)
set_option maxRecDepth 20000 in
theorem gX2_contactOf_X4_isWithin_n76 : GoodIn wsX2_contactOf (wsX4_isWithin) := ggX2_contactOf_X4_isWithin
theorem dX2_contactOf_0 : decode cX2_contactOf 0 = .ok (.iload_n 0, 1) := by decide +kernel
theorem dX2_contactOf_1 : decode cX2_contactOf 1 = .ok (.bipush 65, 2) := by decide +kernel
theorem dX2_contactOf_3 : decode cX2_contactOf 3 = .ok (.bipush 74, 2) := by decide +kernel
theorem dX2_contactOf_5 : decode cX2_contactOf 5 = .ok (.invokestatic 76, 3) := by decide +kernel
theorem dX2_contactOf_8 : decode cX2_contactOf 8 = .ok (.ifCond .eq 8, 3) := by decide +kernel
theorem dX2_contactOf_11 : decode cX2_contactOf 11 = .ok (.iload_n 0, 1) := by decide +kernel
theorem dX2_contactOf_12 : decode cX2_contactOf 12 = .ok (.bipush 65, 2) := by decide +kernel
theorem dX2_contactOf_14 : decode cX2_contactOf 14 = .ok (.isub, 1) := by decide +kernel
theorem dX2_contactOf_15 : decode cX2_contactOf 15 = .ok (.ireturn, 1) := by decide +kernel
theorem dX2_contactOf_16 : decode cX2_contactOf 16 = .ok (.iload_n 0, 1) := by decide +kernel
theorem dX2_contactOf_17 : decode cX2_contactOf 17 = .ok (.bipush 97, 2) := by decide +kernel
theorem dX2_contactOf_19 : decode cX2_contactOf 19 = .ok (.bipush 102, 2) := by decide +kernel
theorem dX2_contactOf_21 : decode cX2_contactOf 21 = .ok (.invokestatic 76, 3) := by decide +kernel
theorem dX2_contactOf_24 : decode cX2_contactOf 24 = .ok (.ifCond .eq 11, 3) := by decide +kernel
theorem dX2_contactOf_27 : decode cX2_contactOf 27 = .ok (.iload_n 0, 1) := by decide +kernel
theorem dX2_contactOf_28 : decode cX2_contactOf 28 = .ok (.bipush 97, 2) := by decide +kernel
theorem dX2_contactOf_30 : decode cX2_contactOf 30 = .ok (.isub, 1) := by decide +kernel
theorem dX2_contactOf_31 : decode cX2_contactOf 31 = .ok (.bipush 10, 2) := by decide +kernel
theorem dX2_contactOf_33 : decode cX2_contactOf 33 = .ok (.iadd, 1) := by decide +kernel
theorem dX2_contactOf_34 : decode cX2_contactOf 34 = .ok (.ireturn, 1) := by decide +kernel
theorem dX2_contactOf_35 : decode cX2_contactOf 35 = .ok (.iconst (-1), 1) := by decide +kernel
theorem dX2_contactOf_36 : decode cX2_contactOf 36 = .ok (.ireturn, 1) := by decide +kernel
theorem dX3_init_0 : decode cX3_init 0 = .ok (.aload_n 0, 1) := by decide +kernel
theorem dX3_init_1 : decode cX3_init 1 = .ok (.invokespecial 3, 3) := by decide +kernel
theorem dX3_init_4 : decode cX3_init 4 = .ok (.aload_n 0, 1) := by decide +kernel
theorem dX3_init_5 : decode cX3_init 5 = .ok (.bipush 10, 2) := by decide +kernel
theorem dX3_init_7 : decode cX3_init 7 = .ok (.newarray .int, 2) := by decide +kernel
theorem dX3_init_9 : decode cX3_init 9 = .ok (.putfield 9, 3) := by decide +kernel
theorem dX3_init_12 : decode cX3_init 12 = .ok (.aload_n 0, 1) := by decide +kernel
theorem dX3_init_13 : decode cX3_init 13 = .ok (.bipush 10, 2) := by decide +kernel
theorem dX3_init_15 : decode cX3_init 15 = .ok (.newarray .int, 2) := by decide +kernel
theorem dX3_init_17 : decode cX3_init 17 = .ok (.putfield 15, 3) := by decide +kernel
theorem dX3_init_20 : decode cX3_init 20 = .ok (.aload_n 0, 1) := by decide +kernel
theorem dX3_init_21 : decode cX3_init 21 = .ok (.bipush 10, 2) := by decide +kernel
theorem dX3_init_23 : decode cX3_init 23 = .ok (.newarray .int, 2) := by decide +kernel
theorem dX3_init_25 : decode cX3_init 25 = .ok (.putfield 18, 3) := by decide +kernel
theorem dX3_init_28 : decode cX3_init 28 = .ok (.aload_n 0, 1) := by decide +kernel
theorem dX3_init_29 : decode cX3_init 29 = .ok (.bipush 10, 2) := by decide +kernel
theorem dX3_init_31 : decode cX3_init 31 = .ok (.newarray .int, 2) := by decide +kernel
theorem dX3_init_33 : decode cX3_init 33 = .ok (.putfield 21, 3) := by decide +kernel
theorem dX3_init_36 : decode cX3_init 36 = .ok (.aload_n 0, 1) := by decide +kernel
theorem dX3_init_37 : decode cX3_init 37 = .ok (.bipush 10, 2) := by decide +kernel
theorem dX3_init_39 : decode cX3_init 39 = .ok (.newarray .int, 2) := by decide +kernel
theorem dX3_init_41 : decode cX3_init 41 = .ok (.putfield 24, 3) := by decide +kernel
theorem dX3_init_44 : decode cX3_init 44 = .ok (.aload_n 0, 1) := by decide +kernel
theorem dX3_init_45 : decode cX3_init 45 = .ok (.bipush 60, 2) := by decide +kernel
theorem dX3_init_47 : decode cX3_init 47 = .ok (.newarray .int, 2) := by decide +kernel
theorem dX3_init_49 : decode cX3_init 49 = .ok (.putfield 27, 3) := by decide +kernel
theorem dX3_init_52 : decode cX3_init 52 = .ok (.aload_n 0, 1) := by decide +kernel
theorem dX3_init_53 : decode cX3_init 53 = .ok (.bipush 60, 2) := by decide +kernel
theorem dX3_init_55 : decode cX3_init 55 = .ok (.newarray .int, 2) := by decide +kernel
theorem dX3_init_57 : decode cX3_init 57 = .ok (.putfield 30, 3) := by decide +kernel
theorem dX3_init_60 : decode cX3_init 60 = .ok (.aload_n 0, 1) := by decide +kernel
theorem dX3_init_61 : decode cX3_init 61 = .ok (.bipush 60, 2) := by decide +kernel
theorem dX3_init_63 : decode cX3_init 63 = .ok (.newarray .int, 2) := by decide +kernel
theorem dX3_init_65 : decode cX3_init 65 = .ok (.putfield 33, 3) := by decide +kernel
theorem dX3_init_68 : decode cX3_init 68 = .ok (.iconst 0, 1) := by decide +kernel
theorem dX3_init_69 : decode cX3_init 69 = .ok (.istore_n 1, 1) := by decide +kernel
theorem dX3_init_70 : decode cX3_init 70 = .ok (.iload_n 1, 1) := by decide +kernel
theorem dX3_init_71 : decode cX3_init 71 = .ok (.bipush 10, 2) := by decide +kernel
theorem dX3_init_73 : decode cX3_init 73 = .ok (.if_icmp .ge 23, 3) := by decide +kernel
theorem dX3_init_76 : decode cX3_init 76 = .ok (.aload_n 0, 1) := by decide +kernel
theorem dX3_init_77 : decode cX3_init 77 = .ok (.getfield 9, 3) := by decide +kernel
theorem dX3_init_80 : decode cX3_init 80 = .ok (.iload_n 1, 1) := by decide +kernel
theorem dX3_init_81 : decode cX3_init 81 = .ok (.iconst 2, 1) := by decide +kernel
theorem dX3_init_82 : decode cX3_init 82 = .ok (.iastore, 1) := by decide +kernel
theorem dX3_init_83 : decode cX3_init 83 = .ok (.aload_n 0, 1) := by decide +kernel
theorem dX3_init_84 : decode cX3_init 84 = .ok (.getfield 15, 3) := by decide +kernel
theorem dX3_init_87 : decode cX3_init 87 = .ok (.iload_n 1, 1) := by decide +kernel
theorem dX3_init_88 : decode cX3_init 88 = .ok (.iconst 1, 1) := by decide +kernel
theorem dX3_init_89 : decode cX3_init 89 = .ok (.iastore, 1) := by decide +kernel
theorem dX3_init_90 : decode cX3_init 90 = .ok (.iinc 1 1, 3) := by decide +kernel
theorem dX3_init_93 : decode cX3_init 93 = .ok (.goto (-23), 3) := by decide +kernel
theorem dX3_init_96 : decode cX3_init 96 = .ok (.return_, 1) := by decide +kernel
theorem dX3_copyFrom_0 : decode cX3_copyFrom 0 = .ok (.aload_n 0, 1) := by decide +kernel
theorem dX3_copyFrom_1 : decode cX3_copyFrom 1 = .ok (.aload_n 1, 1) := by decide +kernel
theorem dX3_copyFrom_2 : decode cX3_copyFrom 2 = .ok (.getfield 36, 3) := by decide +kernel
theorem dX3_copyFrom_5 : decode cX3_copyFrom 5 = .ok (.putfield 36, 3) := by decide +kernel
theorem dX3_copyFrom_8 : decode cX3_copyFrom 8 = .ok (.aload_n 0, 1) := by decide +kernel
theorem dX3_copyFrom_9 : decode cX3_copyFrom 9 = .ok (.aload_n 1, 1) := by decide +kernel
theorem dX3_copyFrom_10 : decode cX3_copyFrom 10 = .ok (.getfield 40, 3) := by decide +kernel
theorem dX3_copyFrom_13 : decode cX3_copyFrom 13 = .ok (.putfield 40, 3) := by decide +kernel
theorem dX3_copyFrom_16 : decode cX3_copyFrom 16 = .ok (.aload_n 0, 1) := by decide +kernel
theorem dX3_copyFrom_17 : decode cX3_copyFrom 17 = .ok (.aload_n 1, 1) := by decide +kernel
theorem dX3_copyFrom_18 : decode cX3_copyFrom 18 = .ok (.getfield 43, 3) := by decide +kernel
theorem dX3_copyFrom_21 : decode cX3_copyFrom 21 = .ok (.putfield 43, 3) := by decide +kernel
theorem dX3_copyFrom_24 : decode cX3_copyFrom 24 = .ok (.aload_n 0, 1) := by decide +kernel
theorem dX3_copyFrom_25 : decode cX3_copyFrom 25 = .ok (.aload_n 1, 1) := by decide +kernel
theorem dX3_copyFrom_26 : decode cX3_copyFrom 26 = .ok (.getfield 46, 3) := by decide +kernel
theorem dX3_copyFrom_29 : decode cX3_copyFrom 29 = .ok (.putfield 46, 3) := by decide +kernel
theorem dX3_copyFrom_32 : decode cX3_copyFrom 32 = .ok (.aload_n 0, 1) := by decide +kernel
theorem dX3_copyFrom_33 : decode cX3_copyFrom 33 = .ok (.aload_n 1, 1) := by decide +kernel
theorem dX3_copyFrom_34 : decode cX3_copyFrom 34 = .ok (.getfield 49, 3) := by decide +kernel
theorem dX3_copyFrom_37 : decode cX3_copyFrom 37 = .ok (.putfield 49, 3) := by decide +kernel
theorem dX3_copyFrom_40 : decode cX3_copyFrom 40 = .ok (.aload_n 0, 1) := by decide +kernel
theorem dX3_copyFrom_41 : decode cX3_copyFrom 41 = .ok (.aload_n 1, 1) := by decide +kernel
theorem dX3_copyFrom_42 : decode cX3_copyFrom 42 = .ok (.getfield 52, 3) := by decide +kernel
theorem dX3_copyFrom_45 : decode cX3_copyFrom 45 = .ok (.putfield 52, 3) := by decide +kernel
theorem dX3_copyFrom_48 : decode cX3_copyFrom 48 = .ok (.aload_n 1, 1) := by decide +kernel
theorem dX3_copyFrom_49 : decode cX3_copyFrom 49 = .ok (.getfield 9, 3) := by decide +kernel
theorem dX3_copyFrom_52 : decode cX3_copyFrom 52 = .ok (.iconst 0, 1) := by decide +kernel
theorem dX3_copyFrom_53 : decode cX3_copyFrom 53 = .ok (.aload_n 0, 1) := by decide +kernel
theorem dX3_copyFrom_54 : decode cX3_copyFrom 54 = .ok (.getfield 9, 3) := by decide +kernel
theorem dX3_copyFrom_57 : decode cX3_copyFrom 57 = .ok (.iconst 0, 1) := by decide +kernel
theorem dX3_copyFrom_58 : decode cX3_copyFrom 58 = .ok (.bipush 10, 2) := by decide +kernel
theorem dX3_copyFrom_60 : decode cX3_copyFrom 60 = .ok (.invokestatic 55, 3) := by decide +kernel
theorem dX3_copyFrom_63 : decode cX3_copyFrom 63 = .ok (.aload_n 1, 1) := by decide +kernel
theorem dX3_copyFrom_64 : decode cX3_copyFrom 64 = .ok (.getfield 15, 3) := by decide +kernel
theorem dX3_copyFrom_67 : decode cX3_copyFrom 67 = .ok (.iconst 0, 1) := by decide +kernel
theorem dX3_copyFrom_68 : decode cX3_copyFrom 68 = .ok (.aload_n 0, 1) := by decide +kernel
theorem dX3_copyFrom_69 : decode cX3_copyFrom 69 = .ok (.getfield 15, 3) := by decide +kernel
theorem dX3_copyFrom_72 : decode cX3_copyFrom 72 = .ok (.iconst 0, 1) := by decide +kernel
theorem dX3_copyFrom_73 : decode cX3_copyFrom 73 = .ok (.bipush 10, 2) := by decide +kernel
theorem dX3_copyFrom_75 : decode cX3_copyFrom 75 = .ok (.invokestatic 55, 3) := by decide +kernel
theorem dX3_copyFrom_78 : decode cX3_copyFrom 78 = .ok (.aload_n 1, 1) := by decide +kernel
theorem dX3_copyFrom_79 : decode cX3_copyFrom 79 = .ok (.getfield 18, 3) := by decide +kernel
theorem dX3_copyFrom_82 : decode cX3_copyFrom 82 = .ok (.iconst 0, 1) := by decide +kernel
theorem dX3_copyFrom_83 : decode cX3_copyFrom 83 = .ok (.aload_n 0, 1) := by decide +kernel
theorem dX3_copyFrom_84 : decode cX3_copyFrom 84 = .ok (.getfield 18, 3) := by decide +kernel
theorem dX3_copyFrom_87 : decode cX3_copyFrom 87 = .ok (.iconst 0, 1) := by decide +kernel
theorem dX3_copyFrom_88 : decode cX3_copyFrom 88 = .ok (.bipush 10, 2) := by decide +kernel
theorem dX3_copyFrom_90 : decode cX3_copyFrom 90 = .ok (.invokestatic 55, 3) := by decide +kernel
theorem dX3_copyFrom_93 : decode cX3_copyFrom 93 = .ok (.aload_n 1, 1) := by decide +kernel
theorem dX3_copyFrom_94 : decode cX3_copyFrom 94 = .ok (.getfield 21, 3) := by decide +kernel
theorem dX3_copyFrom_97 : decode cX3_copyFrom 97 = .ok (.iconst 0, 1) := by decide +kernel
theorem dX3_copyFrom_98 : decode cX3_copyFrom 98 = .ok (.aload_n 0, 1) := by decide +kernel
theorem dX3_copyFrom_99 : decode cX3_copyFrom 99 = .ok (.getfield 21, 3) := by decide +kernel
theorem dX3_copyFrom_102 : decode cX3_copyFrom 102 = .ok (.iconst 0, 1) := by decide +kernel
theorem dX3_copyFrom_103 : decode cX3_copyFrom 103 = .ok (.bipush 10, 2) := by decide +kernel
theorem dX3_copyFrom_105 : decode cX3_copyFrom 105 = .ok (.invokestatic 55, 3) := by decide +kernel
theorem dX3_copyFrom_108 : decode cX3_copyFrom 108 = .ok (.aload_n 1, 1) := by decide +kernel
theorem dX3_copyFrom_109 : decode cX3_copyFrom 109 = .ok (.getfield 24, 3) := by decide +kernel
theorem dX3_copyFrom_112 : decode cX3_copyFrom 112 = .ok (.iconst 0, 1) := by decide +kernel
theorem dX3_copyFrom_113 : decode cX3_copyFrom 113 = .ok (.aload_n 0, 1) := by decide +kernel
theorem dX3_copyFrom_114 : decode cX3_copyFrom 114 = .ok (.getfield 24, 3) := by decide +kernel
theorem dX3_copyFrom_117 : decode cX3_copyFrom 117 = .ok (.iconst 0, 1) := by decide +kernel
theorem dX3_copyFrom_118 : decode cX3_copyFrom 118 = .ok (.bipush 10, 2) := by decide +kernel
theorem dX3_copyFrom_120 : decode cX3_copyFrom 120 = .ok (.invokestatic 55, 3) := by decide +kernel
theorem dX3_copyFrom_123 : decode cX3_copyFrom 123 = .ok (.aload_n 1, 1) := by decide +kernel
theorem dX3_copyFrom_124 : decode cX3_copyFrom 124 = .ok (.getfield 27, 3) := by decide +kernel
theorem dX3_copyFrom_127 : decode cX3_copyFrom 127 = .ok (.iconst 0, 1) := by decide +kernel
theorem dX3_copyFrom_128 : decode cX3_copyFrom 128 = .ok (.aload_n 0, 1) := by decide +kernel
theorem dX3_copyFrom_129 : decode cX3_copyFrom 129 = .ok (.getfield 27, 3) := by decide +kernel
theorem dX3_copyFrom_132 : decode cX3_copyFrom 132 = .ok (.iconst 0, 1) := by decide +kernel
theorem dX3_copyFrom_133 : decode cX3_copyFrom 133 = .ok (.bipush 60, 2) := by decide +kernel
theorem dX3_copyFrom_135 : decode cX3_copyFrom 135 = .ok (.invokestatic 55, 3) := by decide +kernel
theorem dX3_copyFrom_138 : decode cX3_copyFrom 138 = .ok (.aload_n 1, 1) := by decide +kernel
theorem dX3_copyFrom_139 : decode cX3_copyFrom 139 = .ok (.getfield 30, 3) := by decide +kernel
theorem dX3_copyFrom_142 : decode cX3_copyFrom 142 = .ok (.iconst 0, 1) := by decide +kernel
theorem dX3_copyFrom_143 : decode cX3_copyFrom 143 = .ok (.aload_n 0, 1) := by decide +kernel
theorem dX3_copyFrom_144 : decode cX3_copyFrom 144 = .ok (.getfield 30, 3) := by decide +kernel
theorem dX3_copyFrom_147 : decode cX3_copyFrom 147 = .ok (.iconst 0, 1) := by decide +kernel
theorem dX3_copyFrom_148 : decode cX3_copyFrom 148 = .ok (.bipush 60, 2) := by decide +kernel
theorem dX3_copyFrom_150 : decode cX3_copyFrom 150 = .ok (.invokestatic 55, 3) := by decide +kernel
theorem dX3_copyFrom_153 : decode cX3_copyFrom 153 = .ok (.aload_n 1, 1) := by decide +kernel
theorem dX3_copyFrom_154 : decode cX3_copyFrom 154 = .ok (.getfield 33, 3) := by decide +kernel
theorem dX3_copyFrom_157 : decode cX3_copyFrom 157 = .ok (.iconst 0, 1) := by decide +kernel
theorem dX3_copyFrom_158 : decode cX3_copyFrom 158 = .ok (.aload_n 0, 1) := by decide +kernel
theorem dX3_copyFrom_159 : decode cX3_copyFrom 159 = .ok (.getfield 33, 3) := by decide +kernel
theorem dX3_copyFrom_162 : decode cX3_copyFrom 162 = .ok (.iconst 0, 1) := by decide +kernel
theorem dX3_copyFrom_163 : decode cX3_copyFrom 163 = .ok (.bipush 60, 2) := by decide +kernel
theorem dX3_copyFrom_165 : decode cX3_copyFrom 165 = .ok (.invokestatic 55, 3) := by decide +kernel
theorem dX3_copyFrom_168 : decode cX3_copyFrom 168 = .ok (.return_, 1) := by decide +kernel
theorem dX3_makeAllTimesOne_0 : decode cX3_makeAllTimesOne 0 = .ok (.iconst 0, 1) := by decide +kernel
theorem dX3_makeAllTimesOne_1 : decode cX3_makeAllTimesOne 1 = .ok (.istore_n 1, 1) := by decide +kernel
theorem dX3_makeAllTimesOne_2 : decode cX3_makeAllTimesOne 2 = .ok (.iload_n 1, 1) := by decide +kernel
theorem dX3_makeAllTimesOne_3 : decode cX3_makeAllTimesOne 3 = .ok (.bipush 10, 2) := by decide +kernel
theorem dX3_makeAllTimesOne_5 : decode cX3_makeAllTimesOne 5 = .ok (.if_icmp .ge 23, 3) := by decide +kernel
theorem dX3_makeAllTimesOne_8 : decode cX3_makeAllTimesOne 8 = .ok (.aload_n 0, 1) := by decide +kernel
theorem dX3_makeAllTimesOne_9 : decode cX3_makeAllTimesOne 9 = .ok (.getfield 9, 3) := by decide +kernel
theorem dX3_makeAllTimesOne_12 : decode cX3_makeAllTimesOne 12 = .ok (.iload_n 1, 1) := by decide +kernel
theorem dX3_makeAllTimesOne_13 : decode cX3_makeAllTimesOne 13 = .ok (.iconst 1, 1) := by decide +kernel
theorem dX3_makeAllTimesOne_14 : decode cX3_makeAllTimesOne 14 = .ok (.iastore, 1) := by decide +kernel
theorem dX3_makeAllTimesOne_15 : decode cX3_makeAllTimesOne 15 = .ok (.aload_n 0, 1) := by decide +kernel
theorem dX3_makeAllTimesOne_16 : decode cX3_makeAllTimesOne 16 = .ok (.getfield 15, 3) := by decide +kernel
theorem dX3_makeAllTimesOne_19 : decode cX3_makeAllTimesOne 19 = .ok (.iload_n 1, 1) := by decide +kernel
theorem dX3_makeAllTimesOne_20 : decode cX3_makeAllTimesOne 20 = .ok (.iconst 1, 1) := by decide +kernel
theorem dX3_makeAllTimesOne_21 : decode cX3_makeAllTimesOne 21 = .ok (.iastore, 1) := by decide +kernel
theorem dX3_makeAllTimesOne_22 : decode cX3_makeAllTimesOne 22 = .ok (.iinc 1 1, 3) := by decide +kernel
theorem dX3_makeAllTimesOne_25 : decode cX3_makeAllTimesOne 25 = .ok (.goto (-23), 3) := by decide +kernel
theorem dX3_makeAllTimesOne_28 : decode cX3_makeAllTimesOne 28 = .ok (.return_, 1) := by decide +kernel
set_option maxRecDepth 20000 in
theorem ggX3_fedRelays_X3_isFed : GoodIn wsX3_fedRelays wsX3_isFed := goodIn_r _ [5, 6, 7, 8, 9, 10, 11, 12, 4, 13, 14, 15, 16, 17, 18, 19, 20, 21, 22, 23, 24, 25, 26, 27, 28, 29, 30, 31] (by decide +kernel) (by decide +kernel)
set_option maxRecDepth 20000 in
theorem gX3_fedRelays_X3_isFed : GoodIn wsX3_fedRelays (wsV RX3 61 RX3 yX3_isFed wsX3_isFed) := goodIn_app (goodIn_of _ (by decide +kernel)) ggX3_fedRelays_X3_isFed
theorem dX3_fedRelays_0 : decode cX3_fedRelays 0 = .ok (.iconst 0, 1) := by decide +kernel
theorem dX3_fedRelays_1 : decode cX3_fedRelays 1 = .ok (.istore_n 1, 1) := by decide +kernel
theorem dX3_fedRelays_2 : decode cX3_fedRelays 2 = .ok (.iconst 0, 1) := by decide +kernel
theorem dX3_fedRelays_3 : decode cX3_fedRelays 3 = .ok (.istore_n 2, 1) := by decide +kernel
theorem dX3_fedRelays_4 : decode cX3_fedRelays 4 = .ok (.iload_n 2, 1) := by decide +kernel
theorem dX3_fedRelays_5 : decode cX3_fedRelays 5 = .ok (.bipush 10, 2) := by decide +kernel
theorem dX3_fedRelays_7 : decode cX3_fedRelays 7 = .ok (.if_icmp .ge 23, 3) := by decide +kernel
theorem dX3_fedRelays_10 : decode cX3_fedRelays 10 = .ok (.aload_n 0, 1) := by decide +kernel
theorem dX3_fedRelays_11 : decode cX3_fedRelays 11 = .ok (.iload_n 2, 1) := by decide +kernel
theorem dX3_fedRelays_12 : decode cX3_fedRelays 12 = .ok (.invokevirtual 61, 3) := by decide +kernel
theorem dX3_fedRelays_15 : decode cX3_fedRelays 15 = .ok (.ifCond .eq 9, 3) := by decide +kernel
theorem dX3_fedRelays_18 : decode cX3_fedRelays 18 = .ok (.iload_n 1, 1) := by decide +kernel
theorem dX3_fedRelays_19 : decode cX3_fedRelays 19 = .ok (.iconst 1, 1) := by decide +kernel
theorem dX3_fedRelays_20 : decode cX3_fedRelays 20 = .ok (.iload_n 2, 1) := by decide +kernel
theorem dX3_fedRelays_21 : decode cX3_fedRelays 21 = .ok (.ishl, 1) := by decide +kernel
theorem dX3_fedRelays_22 : decode cX3_fedRelays 22 = .ok (.ior, 1) := by decide +kernel
theorem dX3_fedRelays_23 : decode cX3_fedRelays 23 = .ok (.istore_n 1, 1) := by decide +kernel
theorem dX3_fedRelays_24 : decode cX3_fedRelays 24 = .ok (.iinc 2 1, 3) := by decide +kernel
theorem dX3_fedRelays_27 : decode cX3_fedRelays 27 = .ok (.goto (-23), 3) := by decide +kernel
theorem dX3_fedRelays_30 : decode cX3_fedRelays 30 = .ok (.iload_n 1, 1) := by decide +kernel
theorem dX3_fedRelays_31 : decode cX3_fedRelays 31 = .ok (.ireturn, 1) := by decide +kernel
set_option maxRecDepth 20000 in
theorem ggX3_isFed_X4_placeOf : GoodIn wsX3_isFed wsX4_placeOf := goodIn_r _ [4] (by decide +kernel) (by decide +kernel)
set_option maxRecDepth 20000 in
theorem gX3_isFed_X4_placeOf_n65 : GoodIn wsX3_isFed (wsX4_placeOf) := ggX3_isFed_X4_placeOf
set_option maxRecDepth 20000 in
theorem ggX3_isFed_X3_isClosed : GoodIn wsX3_isFed wsX3_isClosed := goodIn_r _ [9, 10, 11, 12, 13, 14, 15, 16, 17, 18, 19, 20, 21, 22, 23, 24, 25, 26, 27] (by decide +kernel) (by decide +kernel)
set_option maxRecDepth 20000 in
theorem gX3_isFed_X3_isClosed : GoodIn wsX3_isFed (wsV RX3 69 RX3 yX3_isClosed wsX3_isClosed) := goodIn_app (goodIn_of _ (by decide +kernel)) ggX3_isFed_X3_isClosed
theorem dX3_isFed_0 : decode cX3_isFed 0 = .ok (.iload_n 1, 1) := by decide +kernel
theorem dX3_isFed_1 : decode cX3_isFed 1 = .ok (.aload_n 0, 1) := by decide +kernel
theorem dX3_isFed_2 : decode cX3_isFed 2 = .ok (.getfield 24, 3) := by decide +kernel
theorem dX3_isFed_5 : decode cX3_isFed 5 = .ok (.iload_n 1, 1) := by decide +kernel
theorem dX3_isFed_6 : decode cX3_isFed 6 = .ok (.iaload, 1) := by decide +kernel
theorem dX3_isFed_7 : decode cX3_isFed 7 = .ok (.invokestatic 65, 3) := by decide +kernel
theorem dX3_isFed_10 : decode cX3_isFed 10 = .ok (.istore_n 2, 1) := by decide +kernel
theorem dX3_isFed_11 : decode cX3_isFed 11 = .ok (.iload_n 1, 1) := by decide +kernel
theorem dX3_isFed_12 : decode cX3_isFed 12 = .ok (.iconst 0, 1) := by decide +kernel
theorem dX3_isFed_13 : decode cX3_isFed 13 = .ok (.invokestatic 65, 3) := by decide +kernel
theorem dX3_isFed_16 : decode cX3_isFed 16 = .ok (.istore_n 3, 1) := by decide +kernel
theorem dX3_isFed_17 : decode cX3_isFed 17 = .ok (.iload_n 3, 1) := by decide +kernel
theorem dX3_isFed_18 : decode cX3_isFed 18 = .ok (.iload_n 2, 1) := by decide +kernel
theorem dX3_isFed_19 : decode cX3_isFed 19 = .ok (.if_icmp .ge 19, 3) := by decide +kernel
theorem dX3_isFed_22 : decode cX3_isFed 22 = .ok (.aload_n 0, 1) := by decide +kernel
theorem dX3_isFed_23 : decode cX3_isFed 23 = .ok (.iload_n 3, 1) := by decide +kernel
theorem dX3_isFed_24 : decode cX3_isFed 24 = .ok (.invokevirtual 69, 3) := by decide +kernel
theorem dX3_isFed_27 : decode cX3_isFed 27 = .ok (.ifCond .eq 5, 3) := by decide +kernel
theorem dX3_isFed_30 : decode cX3_isFed 30 = .ok (.iconst 1, 1) := by decide +kernel
theorem dX3_isFed_31 : decode cX3_isFed 31 = .ok (.ireturn, 1) := by decide +kernel
theorem dX3_isFed_32 : decode cX3_isFed 32 = .ok (.iinc 3 1, 3) := by decide +kernel
theorem dX3_isFed_35 : decode cX3_isFed 35 = .ok (.goto (-18), 3) := by decide +kernel
theorem dX3_isFed_38 : decode cX3_isFed 38 = .ok (.iconst 0, 1) := by decide +kernel
theorem dX3_isFed_39 : decode cX3_isFed 39 = .ok (.ireturn, 1) := by decide +kernel
theorem dX3_isClosed_0 : decode cX3_isClosed 0 = .ok (.aload_n 0, 1) := by decide +kernel
theorem dX3_isClosed_1 : decode cX3_isClosed 1 = .ok (.getfield 36, 3) := by decide +kernel
theorem dX3_isClosed_4 : decode cX3_isClosed 4 = .ok (.aload_n 0, 1) := by decide +kernel
theorem dX3_isClosed_5 : decode cX3_isClosed 5 = .ok (.getfield 43, 3) := by decide +kernel
theorem dX3_isClosed_8 : decode cX3_isClosed 8 = .ok (.bipush 10, 2) := by decide +kernel
theorem dX3_isClosed_10 : decode cX3_isClosed 10 = .ok (.ishl, 1) := by decide +kernel
theorem dX3_isClosed_11 : decode cX3_isClosed 11 = .ok (.ior, 1) := by decide +kernel
theorem dX3_isClosed_12 : decode cX3_isClosed 12 = .ok (.istore_n 2, 1) := by decide +kernel
theorem dX3_isClosed_13 : decode cX3_isClosed 13 = .ok (.iload_n 2, 1) := by decide +kernel
theorem dX3_isClosed_14 : decode cX3_isClosed 14 = .ok (.aload_n 0, 1) := by decide +kernel
theorem dX3_isClosed_15 : decode cX3_isClosed 15 = .ok (.getfield 27, 3) := by decide +kernel
theorem dX3_isClosed_18 : decode cX3_isClosed 18 = .ok (.iload_n 1, 1) := by decide +kernel
theorem dX3_isClosed_19 : decode cX3_isClosed 19 = .ok (.iaload, 1) := by decide +kernel
theorem dX3_isClosed_20 : decode cX3_isClosed 20 = .ok (.iand, 1) := by decide +kernel
theorem dX3_isClosed_21 : decode cX3_isClosed 21 = .ok (.aload_n 0, 1) := by decide +kernel
theorem dX3_isClosed_22 : decode cX3_isClosed 22 = .ok (.getfield 27, 3) := by decide +kernel
theorem dX3_isClosed_25 : decode cX3_isClosed 25 = .ok (.iload_n 1, 1) := by decide +kernel
theorem dX3_isClosed_26 : decode cX3_isClosed 26 = .ok (.iaload, 1) := by decide +kernel
theorem dX3_isClosed_27 : decode cX3_isClosed 27 = .ok (.if_icmp .ne 18, 3) := by decide +kernel
theorem dX3_isClosed_30 : decode cX3_isClosed 30 = .ok (.iload_n 2, 1) := by decide +kernel
theorem dX3_isClosed_31 : decode cX3_isClosed 31 = .ok (.aload_n 0, 1) := by decide +kernel
theorem dX3_isClosed_32 : decode cX3_isClosed 32 = .ok (.getfield 30, 3) := by decide +kernel
theorem dX3_isClosed_35 : decode cX3_isClosed 35 = .ok (.iload_n 1, 1) := by decide +kernel
theorem dX3_isClosed_36 : decode cX3_isClosed 36 = .ok (.iaload, 1) := by decide +kernel
theorem dX3_isClosed_37 : decode cX3_isClosed 37 = .ok (.iand, 1) := by decide +kernel
theorem dX3_isClosed_38 : decode cX3_isClosed 38 = .ok (.ifCond .ne 7, 3) := by decide +kernel
theorem dX3_isClosed_41 : decode cX3_isClosed 41 = .ok (.iconst 1, 1) := by decide +kernel
theorem dX3_isClosed_42 : decode cX3_isClosed 42 = .ok (.goto 4, 3) := by decide +kernel
theorem dX3_isClosed_45 : decode cX3_isClosed 45 = .ok (.iconst 0, 1) := by decide +kernel
theorem dX3_isClosed_46 : decode cX3_isClosed 46 = .ok (.ireturn, 1) := by decide +kernel
set_option maxRecDepth 20000 in
theorem ggX3_wantingRelays_X3_fedRelays : GoodIn wsX3_wantingRelays wsX3_fedRelays := goodIn_r _ [7, 8, 9, 10, 6, 11, 12, 13, 14, 15, 16, 17, 18, 19, 1, 20, 21, 22, 23, 24, 25, 26, 27, 28, 29, 30, 31, 32, 33, 34, 35, 36] (by decide +kernel) (by decide +kernel)
set_option maxRecDepth 20000 in
theorem gX3_wantingRelays_X3_fedRelays : GoodIn wsX3_wantingRelays (wsV RX3 72 RX3 yX3_fedRelays wsX3_fedRelays) := goodIn_app (goodIn_of _ (by decide +kernel)) ggX3_wantingRelays_X3_fedRelays
theorem dX3_wantingRelays_0 : decode cX3_wantingRelays 0 = .ok (.aload_n 0, 1) := by decide +kernel
theorem dX3_wantingRelays_1 : decode cX3_wantingRelays 1 = .ok (.invokevirtual 72, 3) := by decide +kernel
theorem dX3_wantingRelays_4 : decode cX3_wantingRelays 4 = .ok (.aload_n 0, 1) := by decide +kernel
theorem dX3_wantingRelays_5 : decode cX3_wantingRelays 5 = .ok (.getfield 36, 3) := by decide +kernel
theorem dX3_wantingRelays_8 : decode cX3_wantingRelays 8 = .ok (.ixor, 1) := by decide +kernel
theorem dX3_wantingRelays_9 : decode cX3_wantingRelays 9 = .ok (.aload_n 0, 1) := by decide +kernel
theorem dX3_wantingRelays_10 : decode cX3_wantingRelays 10 = .ok (.getfield 36, 3) := by decide +kernel
theorem dX3_wantingRelays_13 : decode cX3_wantingRelays 13 = .ok (.aload_n 0, 1) := by decide +kernel
theorem dX3_wantingRelays_14 : decode cX3_wantingRelays 14 = .ok (.getfield 40, 3) := by decide +kernel
theorem dX3_wantingRelays_17 : decode cX3_wantingRelays 17 = .ok (.iand, 1) := by decide +kernel
theorem dX3_wantingRelays_18 : decode cX3_wantingRelays 18 = .ok (.iconst (-1), 1) := by decide +kernel
theorem dX3_wantingRelays_19 : decode cX3_wantingRelays 19 = .ok (.ixor, 1) := by decide +kernel
theorem dX3_wantingRelays_20 : decode cX3_wantingRelays 20 = .ok (.iand, 1) := by decide +kernel
theorem dX3_wantingRelays_21 : decode cX3_wantingRelays 21 = .ok (.ireturn, 1) := by decide +kernel
set_option maxRecDepth 20000 in
theorem ggX3_passTicks_X3_wantingRelays : GoodIn wsX3_passTicks wsX3_wantingRelays := goodIn_r _ [5, 6, 7, 8, 9, 10, 4, 11, 12, 13, 14, 15, 16, 17, 18, 19, 20, 21, 22, 23, 24, 25, 26, 51, 52, 53, 54, 55, 56, 57, 58, 59, 60, 61, 62, 63, 64] (by decide +kernel) (by decide +kernel)
set_option maxRecDepth 20000 in
theorem gX3_passTicks_X3_wantingRelays : GoodIn wsX3_passTicks (wsV RX3 76 RX3 yX3_wantingRelays wsX3_wantingRelays) := goodIn_app (goodIn_of _ (by decide +kernel)) ggX3_passTicks_X3_wantingRelays
set_option maxRecDepth 20000 in
theorem ggX3_passTicks_X3_passTick : GoodIn wsX3_passTicks wsX3_passTick := goodIn_r _ [30, 31, 32, 33, 18, 34, 35, 36, 37, 38, 39, 40, 4, 41, 6, 42, 43, 44, 45, 46, 47, 48, 49, 50, 7, 51, 52, 53, 54, 55, 56, 57, 58, 59, 60, 61, 62, 63, 64] (by decide +kernel) (by decide +kernel)
set_option maxRecDepth 20000 in
theorem gX3_passTicks_X3_passTick : GoodIn wsX3_passTicks (wsV RX3 79 RX3 yX3_passTick wsX3_passTick) := goodIn_app (goodIn_of _ (by decide +kernel)) ggX3_passTicks_X3_passTick
theorem dX3_passTicks_0 : decode cX3_passTicks 0 = .ok (.iconst 0, 1) := by decide +kernel
theorem dX3_passTicks_1 : decode cX3_passTicks 1 = .ok (.istore_n 2, 1) := by decide +kernel
theorem dX3_passTicks_2 : decode cX3_passTicks 2 = .ok (.iload_n 2, 1) := by decide +kernel
theorem dX3_passTicks_3 : decode cX3_passTicks 3 = .ok (.iload_n 1, 1) := by decide +kernel
theorem dX3_passTicks_4 : decode cX3_passTicks 4 = .ok (.if_icmp .ge 17, 3) := by decide +kernel
theorem dX3_passTicks_7 : decode cX3_passTicks 7 = .ok (.aload_n 0, 1) := by decide +kernel
theorem dX3_passTicks_8 : decode cX3_passTicks 8 = .ok (.aload_n 0, 1) := by decide +kernel
theorem dX3_passTicks_9 : decode cX3_passTicks 9 = .ok (.invokevirtual 76, 3) := by decide +kernel
theorem dX3_passTicks_12 : decode cX3_passTicks 12 = .ok (.invokevirtual 79, 3) := by decide +kernel
theorem dX3_passTicks_15 : decode cX3_passTicks 15 = .ok (.iinc 2 1, 3) := by decide +kernel
theorem dX3_passTicks_18 : decode cX3_passTicks 18 = .ok (.goto (-16), 3) := by decide +kernel
theorem dX3_passTicks_21 : decode cX3_passTicks 21 = .ok (.return_, 1) := by decide +kernel
set_option maxRecDepth 20000 in
theorem ggX3_ticksUntilRest_X3_wantingRelays : GoodIn wsX3_ticksUntilRest wsX3_wantingRelays := goodIn_r _ [5, 6, 7, 8, 9, 10, 4, 11, 12, 13, 14, 15, 16, 17, 18, 19, 20, 21, 22, 23, 24, 25, 26, 51, 52, 53, 54, 55, 56, 57, 58, 59, 60, 61, 62, 63, 64] (by decide +kernel) (by decide +kernel)
set_option maxRecDepth 20000 in
theorem gX3_ticksUntilRest_X3_wantingRelays : GoodIn wsX3_ticksUntilRest (wsV RX3 76 RX3 yX3_wantingRelays wsX3_wantingRelays) := goodIn_app (goodIn_of _ (by decide +kernel)) ggX3_ticksUntilRest_X3_wantingRelays
set_option maxRecDepth 20000 in
theorem ggX3_ticksUntilRest_X3_passTick : GoodIn wsX3_ticksUntilRest wsX3_passTick := goodIn_r _ [30, 31, 32, 33, 18, 34, 35, 36, 37, 38, 39, 40, 4, 41, 6, 42, 43, 44, 45, 46, 47, 48, 49, 50, 7, 51, 52, 53, 54, 55, 56, 57, 58, 59, 60, 61, 62, 63, 64] (by decide +kernel) (by decide +kernel)
set_option maxRecDepth 20000 in
theorem gX3_ticksUntilRest_X3_passTick : GoodIn wsX3_ticksUntilRest (wsV RX3 79 RX3 yX3_passTick wsX3_passTick) := goodIn_app (goodIn_of _ (by decide +kernel)) ggX3_ticksUntilRest_X3_passTick
theorem dX3_ticksUntilRest_0 : decode cX3_ticksUntilRest 0 = .ok (.iconst 0, 1) := by decide +kernel
theorem dX3_ticksUntilRest_1 : decode cX3_ticksUntilRest 1 = .ok (.istore_n 1, 1) := by decide +kernel
theorem dX3_ticksUntilRest_2 : decode cX3_ticksUntilRest 2 = .ok (.iload_n 1, 1) := by decide +kernel
theorem dX3_ticksUntilRest_3 : decode cX3_ticksUntilRest 3 = .ok (.sipush 200, 3) := by decide +kernel
theorem dX3_ticksUntilRest_6 : decode cX3_ticksUntilRest 6 = .ok (.if_icmp .ge 25, 3) := by decide +kernel
theorem dX3_ticksUntilRest_9 : decode cX3_ticksUntilRest 9 = .ok (.aload_n 0, 1) := by decide +kernel
theorem dX3_ticksUntilRest_10 : decode cX3_ticksUntilRest 10 = .ok (.invokevirtual 76, 3) := by decide +kernel
theorem dX3_ticksUntilRest_13 : decode cX3_ticksUntilRest 13 = .ok (.istore_n 2, 1) := by decide +kernel
theorem dX3_ticksUntilRest_14 : decode cX3_ticksUntilRest 14 = .ok (.iload_n 2, 1) := by decide +kernel
theorem dX3_ticksUntilRest_15 : decode cX3_ticksUntilRest 15 = .ok (.ifCond .ne 5, 3) := by decide +kernel
theorem dX3_ticksUntilRest_18 : decode cX3_ticksUntilRest 18 = .ok (.iload_n 1, 1) := by decide +kernel
theorem dX3_ticksUntilRest_19 : decode cX3_ticksUntilRest 19 = .ok (.ireturn, 1) := by decide +kernel
theorem dX3_ticksUntilRest_20 : decode cX3_ticksUntilRest 20 = .ok (.aload_n 0, 1) := by decide +kernel
theorem dX3_ticksUntilRest_21 : decode cX3_ticksUntilRest 21 = .ok (.iload_n 2, 1) := by decide +kernel
theorem dX3_ticksUntilRest_22 : decode cX3_ticksUntilRest 22 = .ok (.invokevirtual 79, 3) := by decide +kernel
theorem dX3_ticksUntilRest_25 : decode cX3_ticksUntilRest 25 = .ok (.iinc 1 1, 3) := by decide +kernel
theorem dX3_ticksUntilRest_28 : decode cX3_ticksUntilRest 28 = .ok (.goto (-26), 3) := by decide +kernel
theorem dX3_ticksUntilRest_31 : decode cX3_ticksUntilRest 31 = .ok (.aload_n 0, 1) := by decide +kernel
theorem dX3_ticksUntilRest_32 : decode cX3_ticksUntilRest 32 = .ok (.invokevirtual 76, 3) := by decide +kernel
theorem dX3_ticksUntilRest_35 : decode cX3_ticksUntilRest 35 = .ok (.ifCond .ne 9, 3) := by decide +kernel
theorem dX3_ticksUntilRest_38 : decode cX3_ticksUntilRest 38 = .ok (.sipush 200, 3) := by decide +kernel
theorem dX3_ticksUntilRest_41 : decode cX3_ticksUntilRest 41 = .ok (.goto 6, 3) := by decide +kernel
theorem dX3_ticksUntilRest_44 : decode cX3_ticksUntilRest 44 = .ok (.sipush 1200, 3) := by decide +kernel
theorem dX3_ticksUntilRest_47 : decode cX3_ticksUntilRest 47 = .ok (.ireturn, 1) := by decide +kernel
set_option maxRecDepth 20000 in
theorem ggX3_upAtRest_X3_ticksUntilRest : GoodIn wsX3_upAtRest wsX3_ticksUntilRest := goodIn_r _ [6, 7, 8, 9, 5, 10, 1, 11, 12, 13, 14, 15, 16, 17, 18, 19, 20, 21, 22, 23, 24, 25, 26, 27, 28, 29, 30, 31, 32, 33, 34, 35, 36, 37, 38, 39, 40, 41, 42, 43, 44, 45, 46, 47, 48, 49, 50, 51, 52, 53, 54, 55, 56, 57, 58, 59, 60, 61, 62, 63, 64, 65, 66, 67, 68] (by decide +kernel) (by decide +kernel)
set_option maxRecDepth 20000 in
theorem gX3_upAtRest_X3_ticksUntilRest : GoodIn wsX3_upAtRest (wsV RX3 83 RX3 yX3_ticksUntilRest wsX3_ticksUntilRest) := goodIn_app (goodIn_of _ (by decide +kernel)) ggX3_upAtRest_X3_ticksUntilRest
theorem dX3_upAtRest_0 : decode cX3_upAtRest 0 = .ok (.aload_n 0, 1) := by decide +kernel
theorem dX3_upAtRest_1 : decode cX3_upAtRest 1 = .ok (.invokevirtual 83, 3) := by decide +kernel
theorem dX3_upAtRest_4 : decode cX3_upAtRest 4 = .ok (.sipush 200, 3) := by decide +kernel
theorem dX3_upAtRest_7 : decode cX3_upAtRest 7 = .ok (.if_icmp .gt 10, 3) := by decide +kernel
theorem dX3_upAtRest_10 : decode cX3_upAtRest 10 = .ok (.aload_n 0, 1) := by decide +kernel
theorem dX3_upAtRest_11 : decode cX3_upAtRest 11 = .ok (.getfield 36, 3) := by decide +kernel
theorem dX3_upAtRest_14 : decode cX3_upAtRest 14 = .ok (.goto 5, 3) := by decide +kernel
theorem dX3_upAtRest_17 : decode cX3_upAtRest 17 = .ok (.bipush (-6), 2) := by decide +kernel
theorem dX3_upAtRest_19 : decode cX3_upAtRest 19 = .ok (.ireturn, 1) := by decide +kernel
set_option maxRecDepth 20000 in
theorem ggX3_passTick_X4_isIn : GoodIn wsX3_passTick wsX4_isIn := goodIn_r _ [5, 6, 7, 4, 8] (by decide +kernel) (by decide +kernel)
set_option maxRecDepth 20000 in
theorem gX3_passTick_X4_isIn_n86 : GoodIn wsX3_passTick (wsX4_isIn) := ggX3_passTick_X4_isIn
set_option maxRecDepth 20000 in
theorem ggX3_passTick_X3_waitOrMove : GoodIn wsX3_passTick wsX3_waitOrMove := goodIn_r _ [13, 2, 14, 15, 16, 17, 3, 4, 5, 6, 7, 8, 18, 19, 20, 12, 21, 22, 23, 24, 25, 26, 27, 28, 29, 30, 31, 32, 33, 34, 35, 36, 37, 38] (by decide +kernel) (by decide +kernel)
set_option maxRecDepth 20000 in
theorem gX3_passTick_X3_waitOrMove : GoodIn wsX3_passTick (wsV RX3 90 RX3 yX3_waitOrMove wsX3_waitOrMove) := goodIn_app (goodIn_of _ (by decide +kernel)) ggX3_passTick_X3_waitOrMove
theorem dX3_passTick_0 : decode cX3_passTick 0 = .ok (.aload_n 0, 1) := by decide +kernel
theorem dX3_passTick_1 : decode cX3_passTick 1 = .ok (.dup, 1) := by decide +kernel
theorem dX3_passTick_2 : decode cX3_passTick 2 = .ok (.getfield 49, 3) := by decide +kernel
theorem dX3_passTick_5 : decode cX3_passTick 5 = .ok (.iconst 1, 1) := by decide +kernel
theorem dX3_passTick_6 : decode cX3_passTick 6 = .ok (.iadd, 1) := by decide +kernel
theorem dX3_passTick_7 : decode cX3_passTick 7 = .ok (.putfield 49, 3) := by decide +kernel
theorem dX3_passTick_10 : decode cX3_passTick 10 = .ok (.iconst 0, 1) := by decide +kernel
theorem dX3_passTick_11 : decode cX3_passTick 11 = .ok (.istore_n 2, 1) := by decide +kernel
theorem dX3_passTick_12 : decode cX3_passTick 12 = .ok (.iload_n 2, 1) := by decide +kernel
theorem dX3_passTick_13 : decode cX3_passTick 13 = .ok (.bipush 10, 2) := by decide +kernel
theorem dX3_passTick_15 : decode cX3_passTick 15 = .ok (.if_icmp .ge 32, 3) := by decide +kernel
theorem dX3_passTick_18 : decode cX3_passTick 18 = .ok (.iload_n 1, 1) := by decide +kernel
theorem dX3_passTick_19 : decode cX3_passTick 19 = .ok (.iload_n 2, 1) := by decide +kernel
theorem dX3_passTick_20 : decode cX3_passTick 20 = .ok (.invokestatic 86, 3) := by decide +kernel
theorem dX3_passTick_23 : decode cX3_passTick 23 = .ok (.ifCond .eq 11, 3) := by decide +kernel
theorem dX3_passTick_26 : decode cX3_passTick 26 = .ok (.aload_n 0, 1) := by decide +kernel
theorem dX3_passTick_27 : decode cX3_passTick 27 = .ok (.iload_n 2, 1) := by decide +kernel
theorem dX3_passTick_28 : decode cX3_passTick 28 = .ok (.invokevirtual 90, 3) := by decide +kernel
theorem dX3_passTick_31 : decode cX3_passTick 31 = .ok (.goto 10, 3) := by decide +kernel
theorem dX3_passTick_34 : decode cX3_passTick 34 = .ok (.aload_n 0, 1) := by decide +kernel
theorem dX3_passTick_35 : decode cX3_passTick 35 = .ok (.getfield 18, 3) := by decide +kernel
theorem dX3_passTick_38 : decode cX3_passTick 38 = .ok (.iload_n 2, 1) := by decide +kernel
theorem dX3_passTick_39 : decode cX3_passTick 39 = .ok (.iconst 0, 1) := by decide +kernel
theorem dX3_passTick_40 : decode cX3_passTick 40 = .ok (.iastore, 1) := by decide +kernel
theorem dX3_passTick_41 : decode cX3_passTick 41 = .ok (.iinc 2 1, 3) := by decide +kernel
theorem dX3_passTick_44 : decode cX3_passTick 44 = .ok (.goto (-32), 3) := by decide +kernel
theorem dX3_passTick_47 : decode cX3_passTick 47 = .ok (.return_, 1) := by decide +kernel
set_option maxRecDepth 20000 in
theorem ggX3_waitOrMove_X4_isIn : GoodIn wsX3_waitOrMove wsX4_isIn := goodIn_r _ [8, 9, 10, 7, 11] (by decide +kernel) (by decide +kernel)
set_option maxRecDepth 20000 in
theorem gX3_waitOrMove_X4_isIn_n86 : GoodIn wsX3_waitOrMove (wsX4_isIn) := ggX3_waitOrMove_X4_isIn
set_option maxRecDepth 20000 in
theorem ggX3_waitOrMove_X3_wear : GoodIn wsX3_waitOrMove wsX3_wear := goodIn_r _ [16, 17, 18, 19, 20, 21, 22, 23, 24, 25, 26, 27, 28, 29, 30, 31, 32, 33] (by decide +kernel) (by decide +kernel)
set_option maxRecDepth 20000 in
theorem gX3_waitOrMove_X3_wear : GoodIn wsX3_waitOrMove (wsV RX3 93 RX3 yX3_wear wsX3_wear) := goodIn_app (goodIn_of _ (by decide +kernel)) ggX3_waitOrMove_X3_wear
theorem dX3_waitOrMove_0 : decode cX3_waitOrMove 0 = .ok (.aload_n 0, 1) := by decide +kernel
theorem dX3_waitOrMove_1 : decode cX3_waitOrMove 1 = .ok (.getfield 18, 3) := by decide +kernel
theorem dX3_waitOrMove_4 : decode cX3_waitOrMove 4 = .ok (.iload_n 1, 1) := by decide +kernel
theorem dX3_waitOrMove_5 : decode cX3_waitOrMove 5 = .ok (.dup2, 1) := by decide +kernel
theorem dX3_waitOrMove_6 : decode cX3_waitOrMove 6 = .ok (.iaload, 1) := by decide +kernel
theorem dX3_waitOrMove_7 : decode cX3_waitOrMove 7 = .ok (.iconst 1, 1) := by decide +kernel
theorem dX3_waitOrMove_8 : decode cX3_waitOrMove 8 = .ok (.iadd, 1) := by decide +kernel
theorem dX3_waitOrMove_9 : decode cX3_waitOrMove 9 = .ok (.iastore, 1) := by decide +kernel
theorem dX3_waitOrMove_10 : decode cX3_waitOrMove 10 = .ok (.aload_n 0, 1) := by decide +kernel
theorem dX3_waitOrMove_11 : decode cX3_waitOrMove 11 = .ok (.getfield 36, 3) := by decide +kernel
theorem dX3_waitOrMove_14 : decode cX3_waitOrMove 14 = .ok (.iload_n 1, 1) := by decide +kernel
theorem dX3_waitOrMove_15 : decode cX3_waitOrMove 15 = .ok (.invokestatic 86, 3) := by decide +kernel
theorem dX3_waitOrMove_18 : decode cX3_waitOrMove 18 = .ok (.ifCond .eq 12, 3) := by decide +kernel
theorem dX3_waitOrMove_21 : decode cX3_waitOrMove 21 = .ok (.aload_n 0, 1) := by decide +kernel
theorem dX3_waitOrMove_22 : decode cX3_waitOrMove 22 = .ok (.getfield 15, 3) := by decide +kernel
theorem dX3_waitOrMove_25 : decode cX3_waitOrMove 25 = .ok (.iload_n 1, 1) := by decide +kernel
theorem dX3_waitOrMove_26 : decode cX3_waitOrMove 26 = .ok (.iaload, 1) := by decide +kernel
theorem dX3_waitOrMove_27 : decode cX3_waitOrMove 27 = .ok (.goto 9, 3) := by decide +kernel
theorem dX3_waitOrMove_30 : decode cX3_waitOrMove 30 = .ok (.aload_n 0, 1) := by decide +kernel
theorem dX3_waitOrMove_31 : decode cX3_waitOrMove 31 = .ok (.getfield 9, 3) := by decide +kernel
theorem dX3_waitOrMove_34 : decode cX3_waitOrMove 34 = .ok (.iload_n 1, 1) := by decide +kernel
theorem dX3_waitOrMove_35 : decode cX3_waitOrMove 35 = .ok (.iaload, 1) := by decide +kernel
theorem dX3_waitOrMove_36 : decode cX3_waitOrMove 36 = .ok (.istore_n 2, 1) := by decide +kernel
theorem dX3_waitOrMove_37 : decode cX3_waitOrMove 37 = .ok (.aload_n 0, 1) := by decide +kernel
theorem dX3_waitOrMove_38 : decode cX3_waitOrMove 38 = .ok (.getfield 18, 3) := by decide +kernel
theorem dX3_waitOrMove_41 : decode cX3_waitOrMove 41 = .ok (.iload_n 1, 1) := by decide +kernel
theorem dX3_waitOrMove_42 : decode cX3_waitOrMove 42 = .ok (.iaload, 1) := by decide +kernel
theorem dX3_waitOrMove_43 : decode cX3_waitOrMove 43 = .ok (.iload_n 2, 1) := by decide +kernel
theorem dX3_waitOrMove_44 : decode cX3_waitOrMove 44 = .ok (.if_icmp .lt 48, 3) := by decide +kernel
theorem dX3_waitOrMove_47 : decode cX3_waitOrMove 47 = .ok (.aload_n 0, 1) := by decide +kernel
theorem dX3_waitOrMove_48 : decode cX3_waitOrMove 48 = .ok (.getfield 18, 3) := by decide +kernel
theorem dX3_waitOrMove_51 : decode cX3_waitOrMove 51 = .ok (.iload_n 1, 1) := by decide +kernel
theorem dX3_waitOrMove_52 : decode cX3_waitOrMove 52 = .ok (.iconst 0, 1) := by decide +kernel
theorem dX3_waitOrMove_53 : decode cX3_waitOrMove 53 = .ok (.iastore, 1) := by decide +kernel
theorem dX3_waitOrMove_54 : decode cX3_waitOrMove 54 = .ok (.aload_n 0, 1) := by decide +kernel
theorem dX3_waitOrMove_55 : decode cX3_waitOrMove 55 = .ok (.dup, 1) := by decide +kernel
theorem dX3_waitOrMove_56 : decode cX3_waitOrMove 56 = .ok (.getfield 52, 3) := by decide +kernel
theorem dX3_waitOrMove_59 : decode cX3_waitOrMove 59 = .ok (.iconst 1, 1) := by decide +kernel
theorem dX3_waitOrMove_60 : decode cX3_waitOrMove 60 = .ok (.iadd, 1) := by decide +kernel
theorem dX3_waitOrMove_61 : decode cX3_waitOrMove 61 = .ok (.putfield 52, 3) := by decide +kernel
theorem dX3_waitOrMove_64 : decode cX3_waitOrMove 64 = .ok (.aload_n 0, 1) := by decide +kernel
theorem dX3_waitOrMove_65 : decode cX3_waitOrMove 65 = .ok (.dup, 1) := by decide +kernel
theorem dX3_waitOrMove_66 : decode cX3_waitOrMove 66 = .ok (.getfield 36, 3) := by decide +kernel
theorem dX3_waitOrMove_69 : decode cX3_waitOrMove 69 = .ok (.iconst 1, 1) := by decide +kernel
theorem dX3_waitOrMove_70 : decode cX3_waitOrMove 70 = .ok (.iload_n 1, 1) := by decide +kernel
theorem dX3_waitOrMove_71 : decode cX3_waitOrMove 71 = .ok (.ishl, 1) := by decide +kernel
theorem dX3_waitOrMove_72 : decode cX3_waitOrMove 72 = .ok (.ixor, 1) := by decide +kernel
theorem dX3_waitOrMove_73 : decode cX3_waitOrMove 73 = .ok (.putfield 36, 3) := by decide +kernel
theorem dX3_waitOrMove_76 : decode cX3_waitOrMove 76 = .ok (.aload_n 0, 1) := by decide +kernel
theorem dX3_waitOrMove_77 : decode cX3_waitOrMove 77 = .ok (.getfield 36, 3) := by decide +kernel
theorem dX3_waitOrMove_80 : decode cX3_waitOrMove 80 = .ok (.iload_n 1, 1) := by decide +kernel
theorem dX3_waitOrMove_81 : decode cX3_waitOrMove 81 = .ok (.invokestatic 86, 3) := by decide +kernel
theorem dX3_waitOrMove_84 : decode cX3_waitOrMove 84 = .ok (.ifCond .eq 8, 3) := by decide +kernel
theorem dX3_waitOrMove_87 : decode cX3_waitOrMove 87 = .ok (.aload_n 0, 1) := by decide +kernel
theorem dX3_waitOrMove_88 : decode cX3_waitOrMove 88 = .ok (.iload_n 1, 1) := by decide +kernel
theorem dX3_waitOrMove_89 : decode cX3_waitOrMove 89 = .ok (.invokevirtual 93, 3) := by decide +kernel
theorem dX3_waitOrMove_92 : decode cX3_waitOrMove 92 = .ok (.return_, 1) := by decide +kernel
theorem dX3_wear_0 : decode cX3_wear 0 = .ok (.aload_n 0, 1) := by decide +kernel
theorem dX3_wear_1 : decode cX3_wear 1 = .ok (.getfield 21, 3) := by decide +kernel
theorem dX3_wear_4 : decode cX3_wear 4 = .ok (.iload_n 1, 1) := by decide +kernel
theorem dX3_wear_5 : decode cX3_wear 5 = .ok (.dup2, 1) := by decide +kernel
theorem dX3_wear_6 : decode cX3_wear 6 = .ok (.iaload, 1) := by decide +kernel
theorem dX3_wear_7 : decode cX3_wear 7 = .ok (.iconst 1, 1) := by decide +kernel
theorem dX3_wear_8 : decode cX3_wear 8 = .ok (.iadd, 1) := by decide +kernel
theorem dX3_wear_9 : decode cX3_wear 9 = .ok (.iastore, 1) := by decide +kernel
theorem dX3_wear_10 : decode cX3_wear 10 = .ok (.aload_n 0, 1) := by decide +kernel
theorem dX3_wear_11 : decode cX3_wear 11 = .ok (.getfield 46, 3) := by decide +kernel
theorem dX3_wear_14 : decode cX3_wear 14 = .ok (.ifCond .eq 28, 3) := by decide +kernel
theorem dX3_wear_17 : decode cX3_wear 17 = .ok (.aload_n 0, 1) := by decide +kernel
theorem dX3_wear_18 : decode cX3_wear 18 = .ok (.getfield 21, 3) := by decide +kernel
theorem dX3_wear_21 : decode cX3_wear 21 = .ok (.iload_n 1, 1) := by decide +kernel
theorem dX3_wear_22 : decode cX3_wear 22 = .ok (.iaload, 1) := by decide +kernel
theorem dX3_wear_23 : decode cX3_wear 23 = .ok (.aload_n 0, 1) := by decide +kernel
theorem dX3_wear_24 : decode cX3_wear 24 = .ok (.getfield 46, 3) := by decide +kernel
theorem dX3_wear_27 : decode cX3_wear 27 = .ok (.if_icmp .lt 15, 3) := by decide +kernel
theorem dX3_wear_30 : decode cX3_wear 30 = .ok (.aload_n 0, 1) := by decide +kernel
theorem dX3_wear_31 : decode cX3_wear 31 = .ok (.dup, 1) := by decide +kernel
theorem dX3_wear_32 : decode cX3_wear 32 = .ok (.getfield 40, 3) := by decide +kernel
theorem dX3_wear_35 : decode cX3_wear 35 = .ok (.iconst 1, 1) := by decide +kernel
theorem dX3_wear_36 : decode cX3_wear 36 = .ok (.iload_n 1, 1) := by decide +kernel
theorem dX3_wear_37 : decode cX3_wear 37 = .ok (.ishl, 1) := by decide +kernel
theorem dX3_wear_38 : decode cX3_wear 38 = .ok (.ior, 1) := by decide +kernel
theorem dX3_wear_39 : decode cX3_wear 39 = .ok (.putfield 40, 3) := by decide +kernel
theorem dX3_wear_42 : decode cX3_wear 42 = .ok (.return_, 1) := by decide +kernel
theorem dX3_clearCircuit_0 : decode cX3_clearCircuit 0 = .ok (.aload_n 0, 1) := by decide +kernel
theorem dX3_clearCircuit_1 : decode cX3_clearCircuit 1 = .ok (.getfield 24, 3) := by decide +kernel
theorem dX3_clearCircuit_4 : decode cX3_clearCircuit 4 = .ok (.iload_n 1, 1) := by decide +kernel
theorem dX3_clearCircuit_5 : decode cX3_clearCircuit 5 = .ok (.iconst 0, 1) := by decide +kernel
theorem dX3_clearCircuit_6 : decode cX3_clearCircuit 6 = .ok (.iastore, 1) := by decide +kernel
theorem dX3_clearCircuit_7 : decode cX3_clearCircuit 7 = .ok (.return_, 1) := by decide +kernel
theorem dX3_hasRoomForBranch_0 : decode cX3_hasRoomForBranch 0 = .ok (.aload_n 0, 1) := by decide +kernel
theorem dX3_hasRoomForBranch_1 : decode cX3_hasRoomForBranch 1 = .ok (.getfield 24, 3) := by decide +kernel
theorem dX3_hasRoomForBranch_4 : decode cX3_hasRoomForBranch 4 = .ok (.iload_n 1, 1) := by decide +kernel
theorem dX3_hasRoomForBranch_5 : decode cX3_hasRoomForBranch 5 = .ok (.iaload, 1) := by decide +kernel
theorem dX3_hasRoomForBranch_6 : decode cX3_hasRoomForBranch 6 = .ok (.bipush 6, 2) := by decide +kernel
theorem dX3_hasRoomForBranch_8 : decode cX3_hasRoomForBranch 8 = .ok (.if_icmp .ge 7, 3) := by decide +kernel
theorem dX3_hasRoomForBranch_11 : decode cX3_hasRoomForBranch 11 = .ok (.iconst 1, 1) := by decide +kernel
theorem dX3_hasRoomForBranch_12 : decode cX3_hasRoomForBranch 12 = .ok (.goto 4, 3) := by decide +kernel
theorem dX3_hasRoomForBranch_15 : decode cX3_hasRoomForBranch 15 = .ok (.iconst 0, 1) := by decide +kernel
theorem dX3_hasRoomForBranch_16 : decode cX3_hasRoomForBranch 16 = .ok (.ireturn, 1) := by decide +kernel
set_option maxRecDepth 20000 in
theorem ggX3_addBranch_X3_hasRoomForBranch : GoodIn wsX3_addBranch wsX3_hasRoomForBranch := goodIn_r _ [9, 1, 13, 14, 15, 16, 17, 18, 19, 20, 21, 22, 23, 24, 25, 26] (by decide +kernel) (by decide +kernel)
set_option maxRecDepth 20000 in
theorem gX3_addBranch_X3_hasRoomForBranch : GoodIn wsX3_addBranch (wsV RX3 96 RX3 yX3_hasRoomForBranch wsX3_hasRoomForBranch) := goodIn_app (goodIn_of _ (by decide +kernel)) ggX3_addBranch_X3_hasRoomForBranch
set_option maxRecDepth 20000 in
theorem ggX3_addBranch_X4_placeOf : GoodIn wsX3_addBranch wsX4_placeOf := goodIn_r _ [12] (by decide +kernel) (by decide +kernel)
set_option maxRecDepth 20000 in
theorem gX3_addBranch_X4_placeOf_n65 : GoodIn wsX3_addBranch (wsX4_placeOf) := ggX3_addBranch_X4_placeOf
theorem dX3_addBranch_0 : decode cX3_addBranch 0 = .ok (.aload_n 0, 1) := by decide +kernel
theorem dX3_addBranch_1 : decode cX3_addBranch 1 = .ok (.iload_n 1, 1) := by decide +kernel
theorem dX3_addBranch_2 : decode cX3_addBranch 2 = .ok (.invokevirtual 96, 3) := by decide +kernel
theorem dX3_addBranch_5 : decode cX3_addBranch 5 = .ok (.ifCond .eq 45, 3) := by decide +kernel
theorem dX3_addBranch_8 : decode cX3_addBranch 8 = .ok (.iload_n 1, 1) := by decide +kernel
theorem dX3_addBranch_9 : decode cX3_addBranch 9 = .ok (.aload_n 0, 1) := by decide +kernel
theorem dX3_addBranch_10 : decode cX3_addBranch 10 = .ok (.getfield 24, 3) := by decide +kernel
theorem dX3_addBranch_13 : decode cX3_addBranch 13 = .ok (.iload_n 1, 1) := by decide +kernel
theorem dX3_addBranch_14 : decode cX3_addBranch 14 = .ok (.iaload, 1) := by decide +kernel
theorem dX3_addBranch_15 : decode cX3_addBranch 15 = .ok (.invokestatic 65, 3) := by decide +kernel
theorem dX3_addBranch_18 : decode cX3_addBranch 18 = .ok (.istore_n 2, 1) := by decide +kernel
theorem dX3_addBranch_19 : decode cX3_addBranch 19 = .ok (.aload_n 0, 1) := by decide +kernel
theorem dX3_addBranch_20 : decode cX3_addBranch 20 = .ok (.getfield 27, 3) := by decide +kernel
theorem dX3_addBranch_23 : decode cX3_addBranch 23 = .ok (.iload_n 2, 1) := by decide +kernel
theorem dX3_addBranch_24 : decode cX3_addBranch 24 = .ok (.iconst 0, 1) := by decide +kernel
theorem dX3_addBranch_25 : decode cX3_addBranch 25 = .ok (.iastore, 1) := by decide +kernel
theorem dX3_addBranch_26 : decode cX3_addBranch 26 = .ok (.aload_n 0, 1) := by decide +kernel
theorem dX3_addBranch_27 : decode cX3_addBranch 27 = .ok (.getfield 30, 3) := by decide +kernel
theorem dX3_addBranch_30 : decode cX3_addBranch 30 = .ok (.iload_n 2, 1) := by decide +kernel
theorem dX3_addBranch_31 : decode cX3_addBranch 31 = .ok (.iconst 0, 1) := by decide +kernel
theorem dX3_addBranch_32 : decode cX3_addBranch 32 = .ok (.iastore, 1) := by decide +kernel
theorem dX3_addBranch_33 : decode cX3_addBranch 33 = .ok (.aload_n 0, 1) := by decide +kernel
theorem dX3_addBranch_34 : decode cX3_addBranch 34 = .ok (.getfield 33, 3) := by decide +kernel
theorem dX3_addBranch_37 : decode cX3_addBranch 37 = .ok (.iload_n 2, 1) := by decide +kernel
theorem dX3_addBranch_38 : decode cX3_addBranch 38 = .ok (.iconst 0, 1) := by decide +kernel
theorem dX3_addBranch_39 : decode cX3_addBranch 39 = .ok (.iastore, 1) := by decide +kernel
theorem dX3_addBranch_40 : decode cX3_addBranch 40 = .ok (.aload_n 0, 1) := by decide +kernel
theorem dX3_addBranch_41 : decode cX3_addBranch 41 = .ok (.getfield 24, 3) := by decide +kernel
theorem dX3_addBranch_44 : decode cX3_addBranch 44 = .ok (.iload_n 1, 1) := by decide +kernel
theorem dX3_addBranch_45 : decode cX3_addBranch 45 = .ok (.dup2, 1) := by decide +kernel
theorem dX3_addBranch_46 : decode cX3_addBranch 46 = .ok (.iaload, 1) := by decide +kernel
theorem dX3_addBranch_47 : decode cX3_addBranch 47 = .ok (.iconst 1, 1) := by decide +kernel
theorem dX3_addBranch_48 : decode cX3_addBranch 48 = .ok (.iadd, 1) := by decide +kernel
theorem dX3_addBranch_49 : decode cX3_addBranch 49 = .ok (.iastore, 1) := by decide +kernel
theorem dX3_addBranch_50 : decode cX3_addBranch 50 = .ok (.return_, 1) := by decide +kernel
set_option maxRecDepth 20000 in
theorem ggX3_hasRoomForContact_X4_placeOf : GoodIn wsX3_hasRoomForContact wsX4_placeOf := goodIn_r _ [5] (by decide +kernel) (by decide +kernel)
set_option maxRecDepth 20000 in
theorem gX3_hasRoomForContact_X4_placeOf_n65 : GoodIn wsX3_hasRoomForContact (wsX4_placeOf) := ggX3_hasRoomForContact_X4_placeOf
theorem dX3_hasRoomForContact_0 : decode cX3_hasRoomForContact 0 = .ok (.aload_n 0, 1) := by decide +kernel
theorem dX3_hasRoomForContact_1 : decode cX3_hasRoomForContact 1 = .ok (.getfield 24, 3) := by decide +kernel
theorem dX3_hasRoomForContact_4 : decode cX3_hasRoomForContact 4 = .ok (.iload_n 1, 1) := by decide +kernel
theorem dX3_hasRoomForContact_5 : decode cX3_hasRoomForContact 5 = .ok (.iaload, 1) := by decide +kernel
theorem dX3_hasRoomForContact_6 : decode cX3_hasRoomForContact 6 = .ok (.iconst 1, 1) := by decide +kernel
theorem dX3_hasRoomForContact_7 : decode cX3_hasRoomForContact 7 = .ok (.isub, 1) := by decide +kernel
theorem dX3_hasRoomForContact_8 : decode cX3_hasRoomForContact 8 = .ok (.istore_n 2, 1) := by decide +kernel
theorem dX3_hasRoomForContact_9 : decode cX3_hasRoomForContact 9 = .ok (.iload_n 2, 1) := by decide +kernel
theorem dX3_hasRoomForContact_10 : decode cX3_hasRoomForContact 10 = .ok (.ifCond .lt 22, 3) := by decide +kernel
theorem dX3_hasRoomForContact_13 : decode cX3_hasRoomForContact 13 = .ok (.aload_n 0, 1) := by decide +kernel
theorem dX3_hasRoomForContact_14 : decode cX3_hasRoomForContact 14 = .ok (.getfield 33, 3) := by decide +kernel
theorem dX3_hasRoomForContact_17 : decode cX3_hasRoomForContact 17 = .ok (.iload_n 1, 1) := by decide +kernel
theorem dX3_hasRoomForContact_18 : decode cX3_hasRoomForContact 18 = .ok (.iload_n 2, 1) := by decide +kernel
theorem dX3_hasRoomForContact_19 : decode cX3_hasRoomForContact 19 = .ok (.invokestatic 65, 3) := by decide +kernel
theorem dX3_hasRoomForContact_22 : decode cX3_hasRoomForContact 22 = .ok (.iaload, 1) := by decide +kernel
theorem dX3_hasRoomForContact_23 : decode cX3_hasRoomForContact 23 = .ok (.bipush 8, 2) := by decide +kernel
theorem dX3_hasRoomForContact_25 : decode cX3_hasRoomForContact 25 = .ok (.if_icmp .ge 7, 3) := by decide +kernel
theorem dX3_hasRoomForContact_28 : decode cX3_hasRoomForContact 28 = .ok (.iconst 1, 1) := by decide +kernel
theorem dX3_hasRoomForContact_29 : decode cX3_hasRoomForContact 29 = .ok (.goto 4, 3) := by decide +kernel
theorem dX3_hasRoomForContact_32 : decode cX3_hasRoomForContact 32 = .ok (.iconst 0, 1) := by decide +kernel
theorem dX3_hasRoomForContact_33 : decode cX3_hasRoomForContact 33 = .ok (.ireturn, 1) := by decide +kernel
set_option maxRecDepth 20000 in
theorem ggX3_addContact_X4_placeOf : GoodIn wsX3_addContact wsX4_placeOf := goodIn_r _ [7] (by decide +kernel) (by decide +kernel)
set_option maxRecDepth 20000 in
theorem gX3_addContact_X4_placeOf_n65 : GoodIn wsX3_addContact (wsX4_placeOf) := ggX3_addContact_X4_placeOf
theorem dX3_addContact_0 : decode cX3_addContact 0 = .ok (.aload_n 0, 1) := by decide +kernel
theorem dX3_addContact_1 : decode cX3_addContact 1 = .ok (.getfield 24, 3) := by decide +kernel
theorem dX3_addContact_4 : decode cX3_addContact 4 = .ok (.iload_n 1, 1) := by decide +kernel
theorem dX3_addContact_5 : decode cX3_addContact 5 = .ok (.iaload, 1) := by decide +kernel
theorem dX3_addContact_6 : decode cX3_addContact 6 = .ok (.iconst 1, 1) := by decide +kernel
theorem dX3_addContact_7 : decode cX3_addContact 7 = .ok (.isub, 1) := by decide +kernel
theorem dX3_addContact_8 : decode cX3_addContact 8 = .ok (.istore 4, 2) := by decide +kernel
theorem dX3_addContact_10 : decode cX3_addContact 10 = .ok (.iload 4, 2) := by decide +kernel
theorem dX3_addContact_12 : decode cX3_addContact 12 = .ok (.ifCond .lt 50, 3) := by decide +kernel
theorem dX3_addContact_15 : decode cX3_addContact 15 = .ok (.iload_n 1, 1) := by decide +kernel
theorem dX3_addContact_16 : decode cX3_addContact 16 = .ok (.iload 4, 2) := by decide +kernel
theorem dX3_addContact_18 : decode cX3_addContact 18 = .ok (.invokestatic 65, 3) := by decide +kernel
theorem dX3_addContact_21 : decode cX3_addContact 21 = .ok (.istore 5, 2) := by decide +kernel
theorem dX3_addContact_23 : decode cX3_addContact 23 = .ok (.iload_n 3, 1) := by decide +kernel
theorem dX3_addContact_24 : decode cX3_addContact 24 = .ok (.ifCond .eq 10, 3) := by decide +kernel
theorem dX3_addContact_27 : decode cX3_addContact 27 = .ok (.aload_n 0, 1) := by decide +kernel
theorem dX3_addContact_28 : decode cX3_addContact 28 = .ok (.getfield 30, 3) := by decide +kernel
theorem dX3_addContact_31 : decode cX3_addContact 31 = .ok (.goto 7, 3) := by decide +kernel
theorem dX3_addContact_34 : decode cX3_addContact 34 = .ok (.aload_n 0, 1) := by decide +kernel
theorem dX3_addContact_35 : decode cX3_addContact 35 = .ok (.getfield 27, 3) := by decide +kernel
theorem dX3_addContact_38 : decode cX3_addContact 38 = .ok (.astore 6, 2) := by decide +kernel
theorem dX3_addContact_40 : decode cX3_addContact 40 = .ok (.aload 6, 2) := by decide +kernel
theorem dX3_addContact_42 : decode cX3_addContact 42 = .ok (.iload 5, 2) := by decide +kernel
theorem dX3_addContact_44 : decode cX3_addContact 44 = .ok (.dup2, 1) := by decide +kernel
theorem dX3_addContact_45 : decode cX3_addContact 45 = .ok (.iaload, 1) := by decide +kernel
theorem dX3_addContact_46 : decode cX3_addContact 46 = .ok (.iconst 1, 1) := by decide +kernel
theorem dX3_addContact_47 : decode cX3_addContact 47 = .ok (.iload_n 2, 1) := by decide +kernel
theorem dX3_addContact_48 : decode cX3_addContact 48 = .ok (.ishl, 1) := by decide +kernel
theorem dX3_addContact_49 : decode cX3_addContact 49 = .ok (.ior, 1) := by decide +kernel
theorem dX3_addContact_50 : decode cX3_addContact 50 = .ok (.iastore, 1) := by decide +kernel
theorem dX3_addContact_51 : decode cX3_addContact 51 = .ok (.aload_n 0, 1) := by decide +kernel
theorem dX3_addContact_52 : decode cX3_addContact 52 = .ok (.getfield 33, 3) := by decide +kernel
theorem dX3_addContact_55 : decode cX3_addContact 55 = .ok (.iload 5, 2) := by decide +kernel
theorem dX3_addContact_57 : decode cX3_addContact 57 = .ok (.dup2, 1) := by decide +kernel
theorem dX3_addContact_58 : decode cX3_addContact 58 = .ok (.iaload, 1) := by decide +kernel
theorem dX3_addContact_59 : decode cX3_addContact 59 = .ok (.iconst 1, 1) := by decide +kernel
theorem dX3_addContact_60 : decode cX3_addContact 60 = .ok (.iadd, 1) := by decide +kernel
theorem dX3_addContact_61 : decode cX3_addContact 61 = .ok (.iastore, 1) := by decide +kernel
theorem dX3_addContact_62 : decode cX3_addContact 62 = .ok (.return_, 1) := by decide +kernel
theorem dX3_relaysWithBranches_0 : decode cX3_relaysWithBranches 0 = .ok (.iconst 0, 1) := by decide +kernel
theorem dX3_relaysWithBranches_1 : decode cX3_relaysWithBranches 1 = .ok (.istore_n 1, 1) := by decide +kernel
theorem dX3_relaysWithBranches_2 : decode cX3_relaysWithBranches 2 = .ok (.iconst 0, 1) := by decide +kernel
theorem dX3_relaysWithBranches_3 : decode cX3_relaysWithBranches 3 = .ok (.istore_n 2, 1) := by decide +kernel
theorem dX3_relaysWithBranches_4 : decode cX3_relaysWithBranches 4 = .ok (.iload_n 2, 1) := by decide +kernel
theorem dX3_relaysWithBranches_5 : decode cX3_relaysWithBranches 5 = .ok (.bipush 10, 2) := by decide +kernel
theorem dX3_relaysWithBranches_7 : decode cX3_relaysWithBranches 7 = .ok (.if_icmp .ge 21, 3) := by decide +kernel
theorem dX3_relaysWithBranches_10 : decode cX3_relaysWithBranches 10 = .ok (.aload_n 0, 1) := by decide +kernel
theorem dX3_relaysWithBranches_11 : decode cX3_relaysWithBranches 11 = .ok (.getfield 24, 3) := by decide +kernel
theorem dX3_relaysWithBranches_14 : decode cX3_relaysWithBranches 14 = .ok (.iload_n 2, 1) := by decide +kernel
theorem dX3_relaysWithBranches_15 : decode cX3_relaysWithBranches 15 = .ok (.iaload, 1) := by decide +kernel
theorem dX3_relaysWithBranches_16 : decode cX3_relaysWithBranches 16 = .ok (.ifCond .le 6, 3) := by decide +kernel
theorem dX3_relaysWithBranches_19 : decode cX3_relaysWithBranches 19 = .ok (.iinc 1 1, 3) := by decide +kernel
theorem dX3_relaysWithBranches_22 : decode cX3_relaysWithBranches 22 = .ok (.iinc 2 1, 3) := by decide +kernel
theorem dX3_relaysWithBranches_25 : decode cX3_relaysWithBranches 25 = .ok (.goto (-21), 3) := by decide +kernel
theorem dX3_relaysWithBranches_28 : decode cX3_relaysWithBranches 28 = .ok (.iload_n 1, 1) := by decide +kernel
theorem dX3_relaysWithBranches_29 : decode cX3_relaysWithBranches 29 = .ok (.ireturn, 1) := by decide +kernel
set_option maxRecDepth 20000 in
theorem ggX3_relaysWithContactOf_X3_frontsOfCircuit : GoodIn wsX3_relaysWithContactOf wsX3_frontsOfCircuit := goodIn_r _ [5, 6, 7, 8, 9, 4, 10, 11, 12, 13, 14, 25, 26, 27, 28, 29, 30, 31, 32, 33, 34, 35, 36, 37, 38] (by decide +kernel) (by decide +kernel)
set_option maxRecDepth 20000 in
theorem gX3_relaysWithContactOf_X3_frontsOfCircuit : GoodIn wsX3_relaysWithContactOf (wsV RX3 99 RX3 yX3_frontsOfCircuit wsX3_frontsOfCircuit) := goodIn_app (goodIn_of _ (by decide +kernel)) ggX3_relaysWithContactOf_X3_frontsOfCircuit
set_option maxRecDepth 20000 in
theorem ggX3_relaysWithContactOf_X3_backsOfCircuit : GoodIn wsX3_relaysWithContactOf wsX3_backsOfCircuit := goodIn_r _ [18, 19, 7, 8, 9, 4, 10, 11, 12, 13, 14, 25, 26, 27, 28, 29, 30, 31, 32, 33, 34, 35, 36, 37, 38] (by decide +kernel) (by decide +kernel)
set_option maxRecDepth 20000 in
theorem gX3_relaysWithContactOf_X3_backsOfCircuit : GoodIn wsX3_relaysWithContactOf (wsV RX3 103 RX3 yX3_backsOfCircuit wsX3_backsOfCircuit) := goodIn_app (goodIn_of _ (by decide +kernel)) ggX3_relaysWithContactOf_X3_backsOfCircuit
set_option maxRecDepth 20000 in
theorem ggX3_relaysWithContactOf_X4_isIn : GoodIn wsX3_relaysWithContactOf wsX4_isIn := goodIn_r _ [21, 22, 23, 13, 24] (by decide +kernel) (by decide +kernel)
set_option maxRecDepth 20000 in
theorem gX3_relaysWithContactOf_X4_isIn_n86 : GoodIn wsX3_relaysWithContactOf (wsX4_isIn) := ggX3_relaysWithContactOf_X4_isIn
theorem dX3_relaysWithContactOf_0 : decode cX3_relaysWithContactOf 0 = .ok (.iconst 0, 1) := by decide +kernel
theorem dX3_relaysWithContactOf_1 : decode cX3_relaysWithContactOf 1 = .ok (.istore_n 2, 1) := by decide +kernel
theorem dX3_relaysWithContactOf_2 : decode cX3_relaysWithContactOf 2 = .ok (.iconst 0, 1) := by decide +kernel
theorem dX3_relaysWithContactOf_3 : decode cX3_relaysWithContactOf 3 = .ok (.istore_n 3, 1) := by decide +kernel
theorem dX3_relaysWithContactOf_4 : decode cX3_relaysWithContactOf 4 = .ok (.iload_n 3, 1) := by decide +kernel
theorem dX3_relaysWithContactOf_5 : decode cX3_relaysWithContactOf 5 = .ok (.bipush 10, 2) := by decide +kernel
theorem dX3_relaysWithContactOf_7 : decode cX3_relaysWithContactOf 7 = .ok (.if_icmp .ge 33, 3) := by decide +kernel
theorem dX3_relaysWithContactOf_10 : decode cX3_relaysWithContactOf 10 = .ok (.aload_n 0, 1) := by decide +kernel
theorem dX3_relaysWithContactOf_11 : decode cX3_relaysWithContactOf 11 = .ok (.iload_n 3, 1) := by decide +kernel
theorem dX3_relaysWithContactOf_12 : decode cX3_relaysWithContactOf 12 = .ok (.invokevirtual 99, 3) := by decide +kernel
theorem dX3_relaysWithContactOf_15 : decode cX3_relaysWithContactOf 15 = .ok (.aload_n 0, 1) := by decide +kernel
theorem dX3_relaysWithContactOf_16 : decode cX3_relaysWithContactOf 16 = .ok (.iload_n 3, 1) := by decide +kernel
theorem dX3_relaysWithContactOf_17 : decode cX3_relaysWithContactOf 17 = .ok (.invokevirtual 103, 3) := by decide +kernel
theorem dX3_relaysWithContactOf_20 : decode cX3_relaysWithContactOf 20 = .ok (.ior, 1) := by decide +kernel
theorem dX3_relaysWithContactOf_21 : decode cX3_relaysWithContactOf 21 = .ok (.iload_n 1, 1) := by decide +kernel
theorem dX3_relaysWithContactOf_22 : decode cX3_relaysWithContactOf 22 = .ok (.invokestatic 86, 3) := by decide +kernel
theorem dX3_relaysWithContactOf_25 : decode cX3_relaysWithContactOf 25 = .ok (.ifCond .eq 9, 3) := by decide +kernel
theorem dX3_relaysWithContactOf_28 : decode cX3_relaysWithContactOf 28 = .ok (.iload_n 2, 1) := by decide +kernel
theorem dX3_relaysWithContactOf_29 : decode cX3_relaysWithContactOf 29 = .ok (.iconst 1, 1) := by decide +kernel
theorem dX3_relaysWithContactOf_30 : decode cX3_relaysWithContactOf 30 = .ok (.iload_n 3, 1) := by decide +kernel
theorem dX3_relaysWithContactOf_31 : decode cX3_relaysWithContactOf 31 = .ok (.ishl, 1) := by decide +kernel
theorem dX3_relaysWithContactOf_32 : decode cX3_relaysWithContactOf 32 = .ok (.ior, 1) := by decide +kernel
theorem dX3_relaysWithContactOf_33 : decode cX3_relaysWithContactOf 33 = .ok (.istore_n 2, 1) := by decide +kernel
theorem dX3_relaysWithContactOf_34 : decode cX3_relaysWithContactOf 34 = .ok (.iinc 3 1, 3) := by decide +kernel
theorem dX3_relaysWithContactOf_37 : decode cX3_relaysWithContactOf 37 = .ok (.goto (-33), 3) := by decide +kernel
theorem dX3_relaysWithContactOf_40 : decode cX3_relaysWithContactOf 40 = .ok (.iload_n 2, 1) := by decide +kernel
theorem dX3_relaysWithContactOf_41 : decode cX3_relaysWithContactOf 41 = .ok (.ireturn, 1) := by decide +kernel
set_option maxRecDepth 20000 in
theorem ggX3_frontsOfCircuit_X3_contactsOfCircuit : GoodIn wsX3_frontsOfCircuit wsX3_contactsOfCircuit := goodIn_r _ [6, 7, 8, 9, 10, 11, 12, 13, 14, 15, 16, 17, 18, 19, 20, 21, 22, 23, 24] (by decide +kernel) (by decide +kernel)
set_option maxRecDepth 20000 in
theorem gX3_frontsOfCircuit_X3_contactsOfCircuit : GoodIn wsX3_frontsOfCircuit (wsV RX3 106 RX3 yX3_contactsOfCircuit wsX3_contactsOfCircuit) := goodIn_app (goodIn_of _ (by decide +kernel)) ggX3_frontsOfCircuit_X3_contactsOfCircuit
theorem dX3_frontsOfCircuit_0 : decode cX3_frontsOfCircuit 0 = .ok (.aload_n 0, 1) := by decide +kernel
theorem dX3_frontsOfCircuit_1 : decode cX3_frontsOfCircuit 1 = .ok (.aload_n 0, 1) := by decide +kernel
theorem dX3_frontsOfCircuit_2 : decode cX3_frontsOfCircuit 2 = .ok (.getfield 27, 3) := by decide +kernel
theorem dX3_frontsOfCircuit_5 : decode cX3_frontsOfCircuit 5 = .ok (.iload_n 1, 1) := by decide +kernel
theorem dX3_frontsOfCircuit_6 : decode cX3_frontsOfCircuit 6 = .ok (.invokevirtual 106, 3) := by decide +kernel
theorem dX3_frontsOfCircuit_9 : decode cX3_frontsOfCircuit 9 = .ok (.ireturn, 1) := by decide +kernel
set_option maxRecDepth 20000 in
theorem ggX3_backsOfCircuit_X3_contactsOfCircuit : GoodIn wsX3_backsOfCircuit wsX3_contactsOfCircuit := goodIn_r _ [6, 7, 8, 9, 10, 11, 12, 13, 14, 15, 16, 17, 18, 19, 20, 21, 22, 23, 24] (by decide +kernel) (by decide +kernel)
set_option maxRecDepth 20000 in
theorem gX3_backsOfCircuit_X3_contactsOfCircuit : GoodIn wsX3_backsOfCircuit (wsV RX3 106 RX3 yX3_contactsOfCircuit wsX3_contactsOfCircuit) := goodIn_app (goodIn_of _ (by decide +kernel)) ggX3_backsOfCircuit_X3_contactsOfCircuit
theorem dX3_backsOfCircuit_0 : decode cX3_backsOfCircuit 0 = .ok (.aload_n 0, 1) := by decide +kernel
theorem dX3_backsOfCircuit_1 : decode cX3_backsOfCircuit 1 = .ok (.aload_n 0, 1) := by decide +kernel
theorem dX3_backsOfCircuit_2 : decode cX3_backsOfCircuit 2 = .ok (.getfield 30, 3) := by decide +kernel
theorem dX3_backsOfCircuit_5 : decode cX3_backsOfCircuit 5 = .ok (.iload_n 1, 1) := by decide +kernel
theorem dX3_backsOfCircuit_6 : decode cX3_backsOfCircuit 6 = .ok (.invokevirtual 106, 3) := by decide +kernel
theorem dX3_backsOfCircuit_9 : decode cX3_backsOfCircuit 9 = .ok (.ireturn, 1) := by decide +kernel
set_option maxRecDepth 20000 in
theorem ggX3_contactsOfCircuit_X4_placeOf : GoodIn wsX3_contactsOfCircuit wsX4_placeOf := goodIn_r _ [4] (by decide +kernel) (by decide +kernel)
set_option maxRecDepth 20000 in
theorem gX3_contactsOfCircuit_X4_placeOf_n65 : GoodIn wsX3_contactsOfCircuit (wsX4_placeOf) := ggX3_contactsOfCircuit_X4_placeOf
theorem dX3_contactsOfCircuit_0 : decode cX3_contactsOfCircuit 0 = .ok (.iconst 0, 1) := by decide +kernel
theorem dX3_contactsOfCircuit_1 : decode cX3_contactsOfCircuit 1 = .ok (.istore_n 3, 1) := by decide +kernel
theorem dX3_contactsOfCircuit_2 : decode cX3_contactsOfCircuit 2 = .ok (.iload_n 2, 1) := by decide +kernel
theorem dX3_contactsOfCircuit_3 : decode cX3_contactsOfCircuit 3 = .ok (.aload_n 0, 1) := by decide +kernel
theorem dX3_contactsOfCircuit_4 : decode cX3_contactsOfCircuit 4 = .ok (.getfield 24, 3) := by decide +kernel
theorem dX3_contactsOfCircuit_7 : decode cX3_contactsOfCircuit 7 = .ok (.iload_n 2, 1) := by decide +kernel
theorem dX3_contactsOfCircuit_8 : decode cX3_contactsOfCircuit 8 = .ok (.iaload, 1) := by decide +kernel
theorem dX3_contactsOfCircuit_9 : decode cX3_contactsOfCircuit 9 = .ok (.invokestatic 65, 3) := by decide +kernel
theorem dX3_contactsOfCircuit_12 : decode cX3_contactsOfCircuit 12 = .ok (.istore 4, 2) := by decide +kernel
theorem dX3_contactsOfCircuit_14 : decode cX3_contactsOfCircuit 14 = .ok (.iload_n 2, 1) := by decide +kernel
theorem dX3_contactsOfCircuit_15 : decode cX3_contactsOfCircuit 15 = .ok (.iconst 0, 1) := by decide +kernel
theorem dX3_contactsOfCircuit_16 : decode cX3_contactsOfCircuit 16 = .ok (.invokestatic 65, 3) := by decide +kernel
theorem dX3_contactsOfCircuit_19 : decode cX3_contactsOfCircuit 19 = .ok (.istore 5, 2) := by decide +kernel
theorem dX3_contactsOfCircuit_21 : decode cX3_contactsOfCircuit 21 = .ok (.iload 5, 2) := by decide +kernel
theorem dX3_contactsOfCircuit_23 : decode cX3_contactsOfCircuit 23 = .ok (.iload 4, 2) := by decide +kernel
theorem dX3_contactsOfCircuit_25 : decode cX3_contactsOfCircuit 25 = .ok (.if_icmp .ge 16, 3) := by decide +kernel
theorem dX3_contactsOfCircuit_28 : decode cX3_contactsOfCircuit 28 = .ok (.iload_n 3, 1) := by decide +kernel
theorem dX3_contactsOfCircuit_29 : decode cX3_contactsOfCircuit 29 = .ok (.aload_n 1, 1) := by decide +kernel
theorem dX3_contactsOfCircuit_30 : decode cX3_contactsOfCircuit 30 = .ok (.iload 5, 2) := by decide +kernel
theorem dX3_contactsOfCircuit_32 : decode cX3_contactsOfCircuit 32 = .ok (.iaload, 1) := by decide +kernel
theorem dX3_contactsOfCircuit_33 : decode cX3_contactsOfCircuit 33 = .ok (.ior, 1) := by decide +kernel
theorem dX3_contactsOfCircuit_34 : decode cX3_contactsOfCircuit 34 = .ok (.istore_n 3, 1) := by decide +kernel
theorem dX3_contactsOfCircuit_35 : decode cX3_contactsOfCircuit 35 = .ok (.iinc 5 1, 3) := by decide +kernel
theorem dX3_contactsOfCircuit_38 : decode cX3_contactsOfCircuit 38 = .ok (.goto (-17), 3) := by decide +kernel
theorem dX3_contactsOfCircuit_41 : decode cX3_contactsOfCircuit 41 = .ok (.iload_n 3, 1) := by decide +kernel
theorem dX3_contactsOfCircuit_42 : decode cX3_contactsOfCircuit 42 = .ok (.ireturn, 1) := by decide +kernel
set_option maxRecDepth 20000 in
theorem ggX3_neverClosedBranches_X4_placeOf : GoodIn wsX3_neverClosedBranches wsX4_placeOf := goodIn_r _ [6] (by decide +kernel) (by decide +kernel)
set_option maxRecDepth 20000 in
theorem gX3_neverClosedBranches_X4_placeOf_n65 : GoodIn wsX3_neverClosedBranches (wsX4_placeOf) := ggX3_neverClosedBranches_X4_placeOf
theorem dX3_neverClosedBranches_0 : decode cX3_neverClosedBranches 0 = .ok (.iconst 0, 1) := by decide +kernel
theorem dX3_neverClosedBranches_1 : decode cX3_neverClosedBranches 1 = .ok (.istore_n 1, 1) := by decide +kernel
theorem dX3_neverClosedBranches_2 : decode cX3_neverClosedBranches 2 = .ok (.iconst 0, 1) := by decide +kernel
theorem dX3_neverClosedBranches_3 : decode cX3_neverClosedBranches 3 = .ok (.istore_n 2, 1) := by decide +kernel
theorem dX3_neverClosedBranches_4 : decode cX3_neverClosedBranches 4 = .ok (.iload_n 2, 1) := by decide +kernel
theorem dX3_neverClosedBranches_5 : decode cX3_neverClosedBranches 5 = .ok (.bipush 10, 2) := by decide +kernel
theorem dX3_neverClosedBranches_7 : decode cX3_neverClosedBranches 7 = .ok (.if_icmp .ge 60, 3) := by decide +kernel
theorem dX3_neverClosedBranches_10 : decode cX3_neverClosedBranches 10 = .ok (.iload_n 2, 1) := by decide +kernel
theorem dX3_neverClosedBranches_11 : decode cX3_neverClosedBranches 11 = .ok (.aload_n 0, 1) := by decide +kernel
theorem dX3_neverClosedBranches_12 : decode cX3_neverClosedBranches 12 = .ok (.getfield 24, 3) := by decide +kernel
theorem dX3_neverClosedBranches_15 : decode cX3_neverClosedBranches 15 = .ok (.iload_n 2, 1) := by decide +kernel
theorem dX3_neverClosedBranches_16 : decode cX3_neverClosedBranches 16 = .ok (.iaload, 1) := by decide +kernel
theorem dX3_neverClosedBranches_17 : decode cX3_neverClosedBranches 17 = .ok (.invokestatic 65, 3) := by decide +kernel
theorem dX3_neverClosedBranches_20 : decode cX3_neverClosedBranches 20 = .ok (.istore_n 3, 1) := by decide +kernel
theorem dX3_neverClosedBranches_21 : decode cX3_neverClosedBranches 21 = .ok (.iload_n 2, 1) := by decide +kernel
theorem dX3_neverClosedBranches_22 : decode cX3_neverClosedBranches 22 = .ok (.iconst 0, 1) := by decide +kernel
theorem dX3_neverClosedBranches_23 : decode cX3_neverClosedBranches 23 = .ok (.invokestatic 65, 3) := by decide +kernel
theorem dX3_neverClosedBranches_26 : decode cX3_neverClosedBranches 26 = .ok (.istore 4, 2) := by decide +kernel
theorem dX3_neverClosedBranches_28 : decode cX3_neverClosedBranches 28 = .ok (.iload 4, 2) := by decide +kernel
theorem dX3_neverClosedBranches_30 : decode cX3_neverClosedBranches 30 = .ok (.iload_n 3, 1) := by decide +kernel
theorem dX3_neverClosedBranches_31 : decode cX3_neverClosedBranches 31 = .ok (.if_icmp .ge 30, 3) := by decide +kernel
theorem dX3_neverClosedBranches_34 : decode cX3_neverClosedBranches 34 = .ok (.aload_n 0, 1) := by decide +kernel
theorem dX3_neverClosedBranches_35 : decode cX3_neverClosedBranches 35 = .ok (.getfield 27, 3) := by decide +kernel
theorem dX3_neverClosedBranches_38 : decode cX3_neverClosedBranches 38 = .ok (.iload 4, 2) := by decide +kernel
theorem dX3_neverClosedBranches_40 : decode cX3_neverClosedBranches 40 = .ok (.iaload, 1) := by decide +kernel
theorem dX3_neverClosedBranches_41 : decode cX3_neverClosedBranches 41 = .ok (.aload_n 0, 1) := by decide +kernel
theorem dX3_neverClosedBranches_42 : decode cX3_neverClosedBranches 42 = .ok (.getfield 30, 3) := by decide +kernel
theorem dX3_neverClosedBranches_45 : decode cX3_neverClosedBranches 45 = .ok (.iload 4, 2) := by decide +kernel
theorem dX3_neverClosedBranches_47 : decode cX3_neverClosedBranches 47 = .ok (.iaload, 1) := by decide +kernel
theorem dX3_neverClosedBranches_48 : decode cX3_neverClosedBranches 48 = .ok (.iand, 1) := by decide +kernel
theorem dX3_neverClosedBranches_49 : decode cX3_neverClosedBranches 49 = .ok (.ifCond .eq 6, 3) := by decide +kernel
theorem dX3_neverClosedBranches_52 : decode cX3_neverClosedBranches 52 = .ok (.iinc 1 1, 3) := by decide +kernel
theorem dX3_neverClosedBranches_55 : decode cX3_neverClosedBranches 55 = .ok (.iinc 4 1, 3) := by decide +kernel
end
section
theorem dX3_neverClosedBranches_58 : decode cX3_neverClosedBranches 58 = .ok (.goto (-30), 3) := by decide +kernel
theorem dX3_neverClosedBranches_61 : decode cX3_neverClosedBranches 61 = .ok (.iinc 2 1, 3) := by decide +kernel
theorem dX3_neverClosedBranches_64 : decode cX3_neverClosedBranches 64 = .ok (.goto (-60), 3) := by decide +kernel
theorem dX3_neverClosedBranches_67 : decode cX3_neverClosedBranches 67 = .ok (.iload_n 1, 1) := by decide +kernel
theorem dX3_neverClosedBranches_68 : decode cX3_neverClosedBranches 68 = .ok (.ireturn, 1) := by decide +kernel
set_option maxRecDepth 20000 in
theorem ggX4_init_X3_init : GoodIn wsX4_init wsX3_init := goodIn_r _ [26, 27, 2, 3, 28, 29, 30, 31, 32, 33, 34, 35, 36, 51, 52, 53, 54, 55, 56, 57, 58, 59, 60, 61, 62, 63, 64] (by decide +kernel) (by decide +kernel)
set_option maxRecDepth 20000 in
theorem gX4_init_X3_init : GoodIn wsX4_init (wsX3_init) := ggX4_init_X3_init
set_option maxRecDepth 20000 in
theorem ggX4_init_X1_init : GoodIn wsX4_init wsX1_init := goodIn_r _ [38, 39, 2, 3, 28, 40, 72, 73] (by decide +kernel) (by decide +kernel)
set_option maxRecDepth 20000 in
theorem gX4_init_X1_init_n21 : GoodIn wsX4_init (wsX1_init) := ggX4_init_X1_init
set_option maxRecDepth 20000 in
theorem ggX4_init_X2_init : GoodIn wsX4_init wsX2_init := goodIn_r _ [42, 43, 2, 3] (by decide +kernel) (by decide +kernel)
set_option maxRecDepth 20000 in
theorem gX4_init_X2_init_n28 : GoodIn wsX4_init (wsX2_init) := ggX4_init_X2_init
set_option maxRecDepth 20000 in
theorem ggX4_init_X0_init : GoodIn wsX4_init wsX0_init := goodIn_r _ [46, 47, 2, 3, 48, 49, 5, 6, 50, 25, 26, 27, 28, 29, 30, 31, 32, 33, 34, 35, 36, 76, 77, 78, 51, 52, 53, 54, 55, 56, 57, 58, 59, 60, 61, 62, 63, 64] (by decide +kernel) (by decide +kernel)
set_option maxRecDepth 20000 in
theorem gX4_init_X0_init : GoodIn wsX4_init (wsX0_init) := ggX4_init_X0_init
theorem dX4_init_0 : decode cX4_init 0 = .ok (.aload_n 0, 1) := by decide +kernel
theorem dX4_init_1 : decode cX4_init 1 = .ok (.invokespecial 3, 3) := by decide +kernel
theorem dX4_init_4 : decode cX4_init 4 = .ok (.aload_n 0, 1) := by decide +kernel
theorem dX4_init_5 : decode cX4_init 5 = .ok (.new 9, 3) := by decide +kernel
theorem dX4_init_8 : decode cX4_init 8 = .ok (.dup, 1) := by decide +kernel
theorem dX4_init_9 : decode cX4_init 9 = .ok (.invokespecial 11, 3) := by decide +kernel
theorem dX4_init_12 : decode cX4_init 12 = .ok (.putfield 12, 3) := by decide +kernel
theorem dX4_init_15 : decode cX4_init 15 = .ok (.aload_n 0, 1) := by decide +kernel
theorem dX4_init_16 : decode cX4_init 16 = .ok (.new 9, 3) := by decide +kernel
theorem dX4_init_19 : decode cX4_init 19 = .ok (.dup, 1) := by decide +kernel
theorem dX4_init_20 : decode cX4_init 20 = .ok (.invokespecial 11, 3) := by decide +kernel
theorem dX4_init_23 : decode cX4_init 23 = .ok (.putfield 16, 3) := by decide +kernel
theorem dX4_init_26 : decode cX4_init 26 = .ok (.aload_n 0, 1) := by decide +kernel
theorem dX4_init_27 : decode cX4_init 27 = .ok (.new 19, 3) := by decide +kernel
theorem dX4_init_30 : decode cX4_init 30 = .ok (.dup, 1) := by decide +kernel
theorem dX4_init_31 : decode cX4_init 31 = .ok (.invokespecial 21, 3) := by decide +kernel
theorem dX4_init_34 : decode cX4_init 34 = .ok (.putfield 22, 3) := by decide +kernel
theorem dX4_init_37 : decode cX4_init 37 = .ok (.aload_n 0, 1) := by decide +kernel
theorem dX4_init_38 : decode cX4_init 38 = .ok (.new 26, 3) := by decide +kernel
theorem dX4_init_41 : decode cX4_init 41 = .ok (.dup, 1) := by decide +kernel
theorem dX4_init_42 : decode cX4_init 42 = .ok (.invokespecial 28, 3) := by decide +kernel
theorem dX4_init_45 : decode cX4_init 45 = .ok (.putfield 29, 3) := by decide +kernel
theorem dX4_init_48 : decode cX4_init 48 = .ok (.aload_n 0, 1) := by decide +kernel
theorem dX4_init_49 : decode cX4_init 49 = .ok (.new 33, 3) := by decide +kernel
theorem dX4_init_52 : decode cX4_init 52 = .ok (.dup, 1) := by decide +kernel
theorem dX4_init_53 : decode cX4_init 53 = .ok (.invokespecial 35, 3) := by decide +kernel
theorem dX4_init_56 : decode cX4_init 56 = .ok (.putfield 36, 3) := by decide +kernel
theorem dX4_init_59 : decode cX4_init 59 = .ok (.aload_n 0, 1) := by decide +kernel
theorem dX4_init_60 : decode cX4_init 60 = .ok (.iconst 2, 1) := by decide +kernel
theorem dX4_init_61 : decode cX4_init 61 = .ok (.anewarray 9, 3) := by decide +kernel
theorem dX4_init_64 : decode cX4_init 64 = .ok (.putfield 40, 3) := by decide +kernel
theorem dX4_init_67 : decode cX4_init 67 = .ok (.aload_n 0, 1) := by decide +kernel
theorem dX4_init_68 : decode cX4_init 68 = .ok (.iconst 2, 1) := by decide +kernel
theorem dX4_init_69 : decode cX4_init 69 = .ok (.newarray .boolean, 2) := by decide +kernel
theorem dX4_init_71 : decode cX4_init 71 = .ok (.putfield 44, 3) := by decide +kernel
theorem dX4_init_74 : decode cX4_init 74 = .ok (.iconst 0, 1) := by decide +kernel
theorem dX4_init_75 : decode cX4_init 75 = .ok (.istore_n 1, 1) := by decide +kernel
theorem dX4_init_76 : decode cX4_init 76 = .ok (.iload_n 1, 1) := by decide +kernel
theorem dX4_init_77 : decode cX4_init 77 = .ok (.iconst 2, 1) := by decide +kernel
theorem dX4_init_78 : decode cX4_init 78 = .ok (.if_icmp .ge 22, 3) := by decide +kernel
theorem dX4_init_81 : decode cX4_init 81 = .ok (.aload_n 0, 1) := by decide +kernel
theorem dX4_init_82 : decode cX4_init 82 = .ok (.getfield 40, 3) := by decide +kernel
theorem dX4_init_85 : decode cX4_init 85 = .ok (.iload_n 1, 1) := by decide +kernel
theorem dX4_init_86 : decode cX4_init 86 = .ok (.new 9, 3) := by decide +kernel
theorem dX4_init_89 : decode cX4_init 89 = .ok (.dup, 1) := by decide +kernel
theorem dX4_init_90 : decode cX4_init 90 = .ok (.invokespecial 11, 3) := by decide +kernel
theorem dX4_init_93 : decode cX4_init 93 = .ok (.aastore, 1) := by decide +kernel
theorem dX4_init_94 : decode cX4_init 94 = .ok (.iinc 1 1, 3) := by decide +kernel
theorem dX4_init_97 : decode cX4_init 97 = .ok (.goto (-21), 3) := by decide +kernel
theorem dX4_init_100 : decode cX4_init 100 = .ok (.return_, 1) := by decide +kernel
set_option maxRecDepth 20000 in
theorem ggX4_time_X4_isRelay : GoodIn wsX4_time wsX4_isRelay := goodIn_r _ [8, 9, 10, 7, 11] (by decide +kernel) (by decide +kernel)
set_option maxRecDepth 20000 in
theorem gX4_time_X4_isRelay : GoodIn wsX4_time (va_wsS RX4 48 yX4_isRelay wsX4_isRelay) := goodIn_app (goodIn_of _ (by decide +kernel)) ggX4_time_X4_isRelay
set_option maxRecDepth 20000 in
theorem ggX4_time_X4_isWithin : GoodIn wsX4_time wsX4_isWithin := goodIn_r _ [11] (by decide +kernel) (by decide +kernel)
set_option maxRecDepth 20000 in
theorem gX4_time_X4_isWithin : GoodIn wsX4_time (va_wsS RX4 52 yX4_isWithin wsX4_isWithin) := goodIn_app (goodIn_of _ (by decide +kernel)) ggX4_time_X4_isWithin
set_option maxRecDepth 20000 in
theorem ggX4_time_X0_record : GoodIn wsX4_time wsX0_record := goodIn_r _ [16, 17, 18, 19, 20, 21, 22, 23, 24, 25, 26, 27, 28, 29, 30, 31, 32, 33, 34, 35, 36, 37, 38, 39, 40, 41, 42, 64, 65, 66, 50, 51, 52, 53, 54, 55, 56, 57, 58, 59, 60, 61, 62, 63] (by decide +kernel) (by decide +kernel)
set_option maxRecDepth 20000 in
theorem gX4_time_X0_record : GoodIn wsX4_time (wsV RX4 56 RX0 yX0_record wsX0_record) := goodIn_app (goodIn_of _ (by decide +kernel)) ggX4_time_X0_record
theorem dX4_time_0 : decode cX4_time 0 = .ok (.iload_n 1, 1) := by decide +kernel
theorem dX4_time_1 : decode cX4_time 1 = .ok (.invokestatic 48, 3) := by decide +kernel
theorem dX4_time_4 : decode cX4_time 4 = .ok (.ifCond .ne 5, 3) := by decide +kernel
theorem dX4_time_7 : decode cX4_time 7 = .ok (.iconst (-1), 1) := by decide +kernel
theorem dX4_time_8 : decode cX4_time 8 = .ok (.ireturn, 1) := by decide +kernel
theorem dX4_time_9 : decode cX4_time 9 = .ok (.iload_n 3, 1) := by decide +kernel
theorem dX4_time_10 : decode cX4_time 10 = .ok (.iconst 1, 1) := by decide +kernel
theorem dX4_time_11 : decode cX4_time 11 = .ok (.bipush 9, 2) := by decide +kernel
theorem dX4_time_13 : decode cX4_time 13 = .ok (.invokestatic 52, 3) := by decide +kernel
theorem dX4_time_16 : decode cX4_time 16 = .ok (.ifCond .ne 6, 3) := by decide +kernel
theorem dX4_time_19 : decode cX4_time 19 = .ok (.bipush (-2), 2) := by decide +kernel
theorem dX4_time_21 : decode cX4_time 21 = .ok (.ireturn, 1) := by decide +kernel
theorem dX4_time_22 : decode cX4_time 22 = .ok (.aload_n 0, 1) := by decide +kernel
theorem dX4_time_23 : decode cX4_time 23 = .ok (.getfield 36, 3) := by decide +kernel
theorem dX4_time_26 : decode cX4_time 26 = .ok (.aload_n 0, 1) := by decide +kernel
theorem dX4_time_27 : decode cX4_time 27 = .ok (.getfield 12, 3) := by decide +kernel
theorem dX4_time_30 : decode cX4_time 30 = .ok (.invokevirtual 56, 3) := by decide +kernel
theorem dX4_time_33 : decode cX4_time 33 = .ok (.iload_n 2, 1) := by decide +kernel
theorem dX4_time_34 : decode cX4_time 34 = .ok (.ifCond .eq 13, 3) := by decide +kernel
theorem dX4_time_37 : decode cX4_time 37 = .ok (.aload_n 0, 1) := by decide +kernel
theorem dX4_time_38 : decode cX4_time 38 = .ok (.getfield 12, 3) := by decide +kernel
theorem dX4_time_41 : decode cX4_time 41 = .ok (.getfield 60, 3) := by decide +kernel
theorem dX4_time_44 : decode cX4_time 44 = .ok (.goto 10, 3) := by decide +kernel
theorem dX4_time_47 : decode cX4_time 47 = .ok (.aload_n 0, 1) := by decide +kernel
theorem dX4_time_48 : decode cX4_time 48 = .ok (.getfield 12, 3) := by decide +kernel
theorem dX4_time_51 : decode cX4_time 51 = .ok (.getfield 64, 3) := by decide +kernel
theorem dX4_time_54 : decode cX4_time 54 = .ok (.astore 4, 2) := by decide +kernel
theorem dX4_time_56 : decode cX4_time 56 = .ok (.aload 4, 2) := by decide +kernel
theorem dX4_time_58 : decode cX4_time 58 = .ok (.iload_n 1, 1) := by decide +kernel
theorem dX4_time_59 : decode cX4_time 59 = .ok (.iaload, 1) := by decide +kernel
theorem dX4_time_60 : decode cX4_time 60 = .ok (.istore 5, 2) := by decide +kernel
theorem dX4_time_62 : decode cX4_time 62 = .ok (.aload 4, 2) := by decide +kernel
theorem dX4_time_64 : decode cX4_time 64 = .ok (.iload_n 1, 1) := by decide +kernel
theorem dX4_time_65 : decode cX4_time 65 = .ok (.iload_n 3, 1) := by decide +kernel
theorem dX4_time_66 : decode cX4_time 66 = .ok (.iastore, 1) := by decide +kernel
theorem dX4_time_67 : decode cX4_time 67 = .ok (.iload 5, 2) := by decide +kernel
theorem dX4_time_69 : decode cX4_time 69 = .ok (.ireturn, 1) := by decide +kernel
set_option maxRecDepth 20000 in
theorem ggX4_life_X4_isWithin : GoodIn wsX4_life wsX4_isWithin := goodIn_r _ [7] (by decide +kernel) (by decide +kernel)
set_option maxRecDepth 20000 in
theorem gX4_life_X4_isWithin : GoodIn wsX4_life (va_wsS RX4 52 yX4_isWithin wsX4_isWithin) := goodIn_app (goodIn_of _ (by decide +kernel)) ggX4_life_X4_isWithin
set_option maxRecDepth 20000 in
theorem ggX4_life_X0_record : GoodIn wsX4_life wsX0_record := goodIn_r _ [12, 13, 14, 15, 16, 17, 18, 19, 20, 21, 22, 23, 24, 25, 26, 27, 28, 29, 30, 31, 32, 33, 34, 35, 36, 37, 38, 60, 61, 62, 46, 47, 48, 49, 50, 51, 52, 53, 54, 55, 56, 57, 58, 59] (by decide +kernel) (by decide +kernel)
set_option maxRecDepth 20000 in
theorem gX4_life_X0_record : GoodIn wsX4_life (wsV RX4 56 RX0 yX0_record wsX0_record) := goodIn_app (goodIn_of _ (by decide +kernel)) ggX4_life_X0_record
theorem dX4_life_0 : decode cX4_life 0 = .ok (.iload_n 1, 1) := by decide +kernel
theorem dX4_life_1 : decode cX4_life 1 = .ok (.iconst 0, 1) := by decide +kernel
theorem dX4_life_2 : decode cX4_life 2 = .ok (.bipush 99, 2) := by decide +kernel
theorem dX4_life_4 : decode cX4_life 4 = .ok (.invokestatic 52, 3) := by decide +kernel
theorem dX4_life_7 : decode cX4_life 7 = .ok (.ifCond .ne 6, 3) := by decide +kernel
theorem dX4_life_10 : decode cX4_life 10 = .ok (.bipush (-2), 2) := by decide +kernel
theorem dX4_life_12 : decode cX4_life 12 = .ok (.ireturn, 1) := by decide +kernel
theorem dX4_life_13 : decode cX4_life 13 = .ok (.aload_n 0, 1) := by decide +kernel
theorem dX4_life_14 : decode cX4_life 14 = .ok (.getfield 36, 3) := by decide +kernel
theorem dX4_life_17 : decode cX4_life 17 = .ok (.aload_n 0, 1) := by decide +kernel
theorem dX4_life_18 : decode cX4_life 18 = .ok (.getfield 12, 3) := by decide +kernel
theorem dX4_life_21 : decode cX4_life 21 = .ok (.invokevirtual 56, 3) := by decide +kernel
theorem dX4_life_24 : decode cX4_life 24 = .ok (.aload_n 0, 1) := by decide +kernel
theorem dX4_life_25 : decode cX4_life 25 = .ok (.getfield 12, 3) := by decide +kernel
theorem dX4_life_28 : decode cX4_life 28 = .ok (.getfield 67, 3) := by decide +kernel
theorem dX4_life_31 : decode cX4_life 31 = .ok (.istore_n 2, 1) := by decide +kernel
theorem dX4_life_32 : decode cX4_life 32 = .ok (.aload_n 0, 1) := by decide +kernel
theorem dX4_life_33 : decode cX4_life 33 = .ok (.getfield 12, 3) := by decide +kernel
theorem dX4_life_36 : decode cX4_life 36 = .ok (.iload_n 1, 1) := by decide +kernel
theorem dX4_life_37 : decode cX4_life 37 = .ok (.putfield 67, 3) := by decide +kernel
theorem dX4_life_40 : decode cX4_life 40 = .ok (.iload_n 2, 1) := by decide +kernel
theorem dX4_life_41 : decode cX4_life 41 = .ok (.ireturn, 1) := by decide +kernel
set_option maxRecDepth 20000 in
theorem ggX4_read_X3_copyFrom : GoodIn wsX4_read wsX3_copyFrom := goodIn_r _ [10, 11, 12, 13, 14, 15, 16, 17, 18, 19, 20, 21, 22, 23, 24, 25, 26, 27, 28, 124, 125, 126, 127, 128, 129, 130, 131, 132, 133, 134, 135, 136, 137] (by decide +kernel) (by decide +kernel)
set_option maxRecDepth 20000 in
theorem gX4_read_X3_copyFrom : GoodIn wsX4_read (wsV RX4 71 RX3 yX3_copyFrom wsX3_copyFrom) := goodIn_app (goodIn_of _ (by decide +kernel)) ggX4_read_X3_copyFrom
set_option maxRecDepth 20000 in
theorem ggX4_read_X2_readInto : GoodIn wsX4_read wsX2_readInto := goodIn_r _ [33, 34, 35, 36, 37, 38, 39, 32, 40, 41, 42, 43, 44, 45, 46, 47, 48, 49, 50, 51, 52, 53, 54, 55, 56, 57, 58, 59, 60, 61, 62, 63, 64, 65, 9, 66, 25, 67, 68, 69, 70, 71, 72, 73, 74, 26, 27, 28, 75, 76, 77, 78, 79, 80, 81, 82, 83, 84, 85, 86, 87, 88, 89, 90, 91, 92, 93, 94, 95, 96, 97, 138, 139, 140, 141, 124, 125, 126, 127, 128, 129, 130, 131, 132, 133, 134, 135, 136, 137] (by decide +kernel) (by decide +kernel)
set_option maxRecDepth 20000 in
theorem gX4_read_X2_readInto : GoodIn wsX4_read (wsV RX4 74 RX2 yX2_readInto wsX2_readInto) := goodIn_app (goodIn_of _ (by decide +kernel)) ggX4_read_X2_readInto
set_option maxRecDepth 20000 in
theorem ggX4_read_X0_record : GoodIn wsX4_read wsX0_record := goodIn_r _ [102, 103, 104, 105, 106, 7, 8, 9, 10, 11, 12, 13, 14, 15, 16, 17, 18, 19, 20, 21, 22, 23, 24, 25, 26, 27, 28, 142, 143, 144, 124, 125, 126, 127, 128, 129, 130, 131, 132, 133, 134, 135, 136, 137] (by decide +kernel) (by decide +kernel)
set_option maxRecDepth 20000 in
theorem gX4_read_X0_record : GoodIn wsX4_read (wsV RX4 56 RX0 yX0_record wsX0_record) := goodIn_app (goodIn_of _ (by decide +kernel)) ggX4_read_X0_record
set_option maxRecDepth 20000 in
theorem ggX4_read_X1_clear : GoodIn wsX4_read wsX1_clear := goodIn_r _ [111, 112, 140, 141] (by decide +kernel) (by decide +kernel)
set_option maxRecDepth 20000 in
theorem gX4_read_X1_clear : GoodIn wsX4_read (wsV RX4 78 RX1 yX1_clear wsX1_clear) := goodIn_app (goodIn_of _ (by decide +kernel)) ggX4_read_X1_clear
set_option maxRecDepth 20000 in
theorem ggX4_read_X3_relaysWithBranches : GoodIn wsX4_read wsX3_relaysWithBranches := goodIn_r _ [116, 25, 124, 125, 126, 127, 128, 129, 130, 131, 132, 133, 134, 135, 136, 137] (by decide +kernel) (by decide +kernel)
set_option maxRecDepth 20000 in
theorem gX4_read_X3_relaysWithBranches : GoodIn wsX4_read (wsV RX4 81 RX3 yX3_relaysWithBranches wsX3_relaysWithBranches) := goodIn_app (goodIn_of _ (by decide +kernel)) ggX4_read_X3_relaysWithBranches
theorem dX4_read_0 : decode cX4_read 0 = .ok (.aload_n 0, 1) := by decide +kernel
theorem dX4_read_1 : decode cX4_read 1 = .ok (.getfield 16, 3) := by decide +kernel
theorem dX4_read_4 : decode cX4_read 4 = .ok (.aload_n 0, 1) := by decide +kernel
theorem dX4_read_5 : decode cX4_read 5 = .ok (.getfield 12, 3) := by decide +kernel
theorem dX4_read_8 : decode cX4_read 8 = .ok (.invokevirtual 71, 3) := by decide +kernel
theorem dX4_read_11 : decode cX4_read 11 = .ok (.aload_n 0, 1) := by decide +kernel
theorem dX4_read_12 : decode cX4_read 12 = .ok (.getfield 29, 3) := by decide +kernel
theorem dX4_read_15 : decode cX4_read 15 = .ok (.aload_n 0, 1) := by decide +kernel
theorem dX4_read_16 : decode cX4_read 16 = .ok (.getfield 16, 3) := by decide +kernel
theorem dX4_read_19 : decode cX4_read 19 = .ok (.aload_n 0, 1) := by decide +kernel
theorem dX4_read_20 : decode cX4_read 20 = .ok (.getfield 22, 3) := by decide +kernel
theorem dX4_read_23 : decode cX4_read 23 = .ok (.invokevirtual 74, 3) := by decide +kernel
theorem dX4_read_26 : decode cX4_read 26 = .ok (.bipush (-6), 2) := by decide +kernel
theorem dX4_read_28 : decode cX4_read 28 = .ok (.if_icmp .eq 6, 3) := by decide +kernel
theorem dX4_read_31 : decode cX4_read 31 = .ok (.bipush (-3), 2) := by decide +kernel
theorem dX4_read_33 : decode cX4_read 33 = .ok (.ireturn, 1) := by decide +kernel
theorem dX4_read_34 : decode cX4_read 34 = .ok (.aload_n 0, 1) := by decide +kernel
theorem dX4_read_35 : decode cX4_read 35 = .ok (.getfield 36, 3) := by decide +kernel
theorem dX4_read_38 : decode cX4_read 38 = .ok (.aload_n 0, 1) := by decide +kernel
theorem dX4_read_39 : decode cX4_read 39 = .ok (.getfield 12, 3) := by decide +kernel
theorem dX4_read_42 : decode cX4_read 42 = .ok (.invokevirtual 56, 3) := by decide +kernel
theorem dX4_read_45 : decode cX4_read 45 = .ok (.aload_n 0, 1) := by decide +kernel
theorem dX4_read_46 : decode cX4_read 46 = .ok (.getfield 12, 3) := by decide +kernel
theorem dX4_read_49 : decode cX4_read 49 = .ok (.aload_n 0, 1) := by decide +kernel
theorem dX4_read_50 : decode cX4_read 50 = .ok (.getfield 16, 3) := by decide +kernel
theorem dX4_read_53 : decode cX4_read 53 = .ok (.invokevirtual 71, 3) := by decide +kernel
theorem dX4_read_56 : decode cX4_read 56 = .ok (.aload_n 0, 1) := by decide +kernel
theorem dX4_read_57 : decode cX4_read 57 = .ok (.getfield 22, 3) := by decide +kernel
theorem dX4_read_60 : decode cX4_read 60 = .ok (.invokevirtual 78, 3) := by decide +kernel
theorem dX4_read_63 : decode cX4_read 63 = .ok (.aload_n 0, 1) := by decide +kernel
theorem dX4_read_64 : decode cX4_read 64 = .ok (.getfield 12, 3) := by decide +kernel
theorem dX4_read_67 : decode cX4_read 67 = .ok (.invokevirtual 81, 3) := by decide +kernel
theorem dX4_read_70 : decode cX4_read 70 = .ok (.ireturn, 1) := by decide +kernel
set_option maxRecDepth 20000 in
theorem ggX4_press_X4_isWithin : GoodIn wsX4_press wsX4_isWithin := goodIn_r _ [7] (by decide +kernel) (by decide +kernel)
set_option maxRecDepth 20000 in
theorem gX4_press_X4_isWithin : GoodIn wsX4_press (va_wsS RX4 52 yX4_isWithin wsX4_isWithin) := goodIn_app (goodIn_of _ (by decide +kernel)) ggX4_press_X4_isWithin
set_option maxRecDepth 20000 in
theorem ggX4_press_X4_isIn : GoodIn wsX4_press wsX4_isIn := goodIn_r _ [10, 11, 12, 6, 13] (by decide +kernel) (by decide +kernel)
set_option maxRecDepth 20000 in
theorem gX4_press_X4_isIn : GoodIn wsX4_press (va_wsS RX4 88 yX4_isIn wsX4_isIn) := goodIn_app (goodIn_of _ (by decide +kernel)) ggX4_press_X4_isIn
set_option maxRecDepth 20000 in
theorem ggX4_press_X0_record : GoodIn wsX4_press wsX0_record := goodIn_r _ [18, 19, 20, 21, 22, 23, 24, 25, 26, 27, 28, 29, 30, 31, 32, 33, 34, 35, 36, 37, 38, 39, 40, 41, 42, 43, 44, 84, 85, 86, 70, 71, 72, 73, 74, 75, 76, 77, 78, 79, 80, 81, 82, 83] (by decide +kernel) (by decide +kernel)
set_option maxRecDepth 20000 in
theorem gX4_press_X0_record : GoodIn wsX4_press (wsV RX4 56 RX0 yX0_record wsX0_record) := goodIn_app (goodIn_of _ (by decide +kernel)) ggX4_press_X0_record
set_option maxRecDepth 20000 in
theorem ggX4_press_X3_wantingRelays : GoodIn wsX4_press wsX3_wantingRelays := goodIn_r _ [48, 27, 28, 49, 50, 51, 25, 52, 53, 54, 55, 56, 41, 57, 6, 58, 59, 60, 61, 62, 29, 42, 43, 70, 71, 72, 73, 74, 75, 76, 77, 78, 79, 80, 81, 82, 83] (by decide +kernel) (by decide +kernel)
set_option maxRecDepth 20000 in
theorem gX4_press_X3_wantingRelays : GoodIn wsX4_press (wsV RX4 92 RX3 yX3_wantingRelays wsX3_wantingRelays) := goodIn_app (goodIn_of _ (by decide +kernel)) ggX4_press_X3_wantingRelays
theorem dX4_press_0 : decode cX4_press 0 = .ok (.iload_n 1, 1) := by decide +kernel
theorem dX4_press_1 : decode cX4_press 1 = .ok (.iconst 0, 1) := by decide +kernel
theorem dX4_press_2 : decode cX4_press 2 = .ok (.iconst 5, 1) := by decide +kernel
theorem dX4_press_3 : decode cX4_press 3 = .ok (.invokestatic 52, 3) := by decide +kernel
theorem dX4_press_6 : decode cX4_press 6 = .ok (.ifCond .ne 5, 3) := by decide +kernel
theorem dX4_press_9 : decode cX4_press 9 = .ok (.iconst (-1), 1) := by decide +kernel
theorem dX4_press_10 : decode cX4_press 10 = .ok (.ireturn, 1) := by decide +kernel
theorem dX4_press_11 : decode cX4_press 11 = .ok (.aload_n 0, 1) := by decide +kernel
theorem dX4_press_12 : decode cX4_press 12 = .ok (.getfield 12, 3) := by decide +kernel
theorem dX4_press_15 : decode cX4_press 15 = .ok (.getfield 85, 3) := by decide +kernel
theorem dX4_press_18 : decode cX4_press 18 = .ok (.iload_n 1, 1) := by decide +kernel
theorem dX4_press_19 : decode cX4_press 19 = .ok (.invokestatic 88, 3) := by decide +kernel
theorem dX4_press_22 : decode cX4_press 22 = .ok (.iload_n 2, 1) := by decide +kernel
theorem dX4_press_23 : decode cX4_press 23 = .ok (.if_icmp .ne 6, 3) := by decide +kernel
theorem dX4_press_26 : decode cX4_press 26 = .ok (.bipush (-5), 2) := by decide +kernel
theorem dX4_press_28 : decode cX4_press 28 = .ok (.ireturn, 1) := by decide +kernel
theorem dX4_press_29 : decode cX4_press 29 = .ok (.aload_n 0, 1) := by decide +kernel
theorem dX4_press_30 : decode cX4_press 30 = .ok (.getfield 36, 3) := by decide +kernel
theorem dX4_press_33 : decode cX4_press 33 = .ok (.aload_n 0, 1) := by decide +kernel
theorem dX4_press_34 : decode cX4_press 34 = .ok (.getfield 12, 3) := by decide +kernel
theorem dX4_press_37 : decode cX4_press 37 = .ok (.invokevirtual 56, 3) := by decide +kernel
theorem dX4_press_40 : decode cX4_press 40 = .ok (.aload_n 0, 1) := by decide +kernel
theorem dX4_press_41 : decode cX4_press 41 = .ok (.getfield 12, 3) := by decide +kernel
theorem dX4_press_44 : decode cX4_press 44 = .ok (.dup, 1) := by decide +kernel
theorem dX4_press_45 : decode cX4_press 45 = .ok (.getfield 85, 3) := by decide +kernel
theorem dX4_press_48 : decode cX4_press 48 = .ok (.iconst 1, 1) := by decide +kernel
theorem dX4_press_49 : decode cX4_press 49 = .ok (.iload_n 1, 1) := by decide +kernel
theorem dX4_press_50 : decode cX4_press 50 = .ok (.ishl, 1) := by decide +kernel
theorem dX4_press_51 : decode cX4_press 51 = .ok (.ixor, 1) := by decide +kernel
theorem dX4_press_52 : decode cX4_press 52 = .ok (.putfield 85, 3) := by decide +kernel
theorem dX4_press_55 : decode cX4_press 55 = .ok (.aload_n 0, 1) := by decide +kernel
theorem dX4_press_56 : decode cX4_press 56 = .ok (.getfield 12, 3) := by decide +kernel
theorem dX4_press_59 : decode cX4_press 59 = .ok (.invokevirtual 92, 3) := by decide +kernel
theorem dX4_press_62 : decode cX4_press 62 = .ok (.ireturn, 1) := by decide +kernel
set_option maxRecDepth 20000 in
theorem ggX4_weld_X4_isRelay : GoodIn wsX4_weld wsX4_isRelay := goodIn_r _ [9, 10, 11, 8, 12] (by decide +kernel) (by decide +kernel)
set_option maxRecDepth 20000 in
theorem gX4_weld_X4_isRelay : GoodIn wsX4_weld (va_wsS RX4 48 yX4_isRelay wsX4_isRelay) := goodIn_app (goodIn_of _ (by decide +kernel)) ggX4_weld_X4_isRelay
set_option maxRecDepth 20000 in
theorem ggX4_weld_X4_isIn : GoodIn wsX4_weld wsX4_isIn := goodIn_r _ [15, 16, 17, 8, 18] (by decide +kernel) (by decide +kernel)
set_option maxRecDepth 20000 in
theorem gX4_weld_X4_isIn : GoodIn wsX4_weld (va_wsS RX4 88 yX4_isIn wsX4_isIn) := goodIn_app (goodIn_of _ (by decide +kernel)) ggX4_weld_X4_isIn
set_option maxRecDepth 20000 in
theorem ggX4_weld_X0_record : GoodIn wsX4_weld wsX0_record := goodIn_r _ [23, 24, 25, 26, 27, 28, 29, 30, 31, 32, 33, 34, 35, 36, 37, 38, 39, 40, 41, 42, 43, 44, 45, 46, 47, 48, 49, 71, 72, 73, 57, 58, 59, 60, 61, 62, 63, 64, 65, 66, 67, 68, 69, 70] (by decide +kernel) (by decide +kernel)
set_option maxRecDepth 20000 in
theorem gX4_weld_X0_record : GoodIn wsX4_weld (wsV RX4 56 RX0 yX0_record wsX0_record) := goodIn_app (goodIn_of _ (by decide +kernel)) ggX4_weld_X0_record
theorem dX4_weld_0 : decode cX4_weld 0 = .ok (.iload_n 1, 1) := by decide +kernel
theorem dX4_weld_1 : decode cX4_weld 1 = .ok (.invokestatic 48, 3) := by decide +kernel
theorem dX4_weld_4 : decode cX4_weld 4 = .ok (.ifCond .ne 5, 3) := by decide +kernel
theorem dX4_weld_7 : decode cX4_weld 7 = .ok (.iconst (-1), 1) := by decide +kernel
theorem dX4_weld_8 : decode cX4_weld 8 = .ok (.ireturn, 1) := by decide +kernel
theorem dX4_weld_9 : decode cX4_weld 9 = .ok (.aload_n 0, 1) := by decide +kernel
theorem dX4_weld_10 : decode cX4_weld 10 = .ok (.getfield 12, 3) := by decide +kernel
theorem dX4_weld_13 : decode cX4_weld 13 = .ok (.getfield 95, 3) := by decide +kernel
theorem dX4_weld_16 : decode cX4_weld 16 = .ok (.iload_n 1, 1) := by decide +kernel
theorem dX4_weld_17 : decode cX4_weld 17 = .ok (.invokestatic 88, 3) := by decide +kernel
theorem dX4_weld_20 : decode cX4_weld 20 = .ok (.ifCond .ne 7, 3) := by decide +kernel
theorem dX4_weld_23 : decode cX4_weld 23 = .ok (.iconst 1, 1) := by decide +kernel
theorem dX4_weld_24 : decode cX4_weld 24 = .ok (.goto 4, 3) := by decide +kernel
theorem dX4_weld_27 : decode cX4_weld 27 = .ok (.iconst 0, 1) := by decide +kernel
theorem dX4_weld_28 : decode cX4_weld 28 = .ok (.istore_n 3, 1) := by decide +kernel
theorem dX4_weld_29 : decode cX4_weld 29 = .ok (.aload_n 0, 1) := by decide +kernel
theorem dX4_weld_30 : decode cX4_weld 30 = .ok (.getfield 12, 3) := by decide +kernel
theorem dX4_weld_33 : decode cX4_weld 33 = .ok (.getfield 98, 3) := by decide +kernel
theorem dX4_weld_36 : decode cX4_weld 36 = .ok (.iload_n 1, 1) := by decide +kernel
theorem dX4_weld_37 : decode cX4_weld 37 = .ok (.invokestatic 88, 3) := by decide +kernel
theorem dX4_weld_40 : decode cX4_weld 40 = .ok (.iload_n 2, 1) := by decide +kernel
theorem dX4_weld_41 : decode cX4_weld 41 = .ok (.if_icmp .eq 11, 3) := by decide +kernel
theorem dX4_weld_44 : decode cX4_weld 44 = .ok (.iload_n 2, 1) := by decide +kernel
theorem dX4_weld_45 : decode cX4_weld 45 = .ok (.ifCond .eq 10, 3) := by decide +kernel
theorem dX4_weld_48 : decode cX4_weld 48 = .ok (.iload_n 3, 1) := by decide +kernel
theorem dX4_weld_49 : decode cX4_weld 49 = .ok (.ifCond .eq 6, 3) := by decide +kernel
theorem dX4_weld_52 : decode cX4_weld 52 = .ok (.bipush (-5), 2) := by decide +kernel
theorem dX4_weld_54 : decode cX4_weld 54 = .ok (.ireturn, 1) := by decide +kernel
theorem dX4_weld_55 : decode cX4_weld 55 = .ok (.aload_n 0, 1) := by decide +kernel
theorem dX4_weld_56 : decode cX4_weld 56 = .ok (.getfield 36, 3) := by decide +kernel
theorem dX4_weld_59 : decode cX4_weld 59 = .ok (.aload_n 0, 1) := by decide +kernel
theorem dX4_weld_60 : decode cX4_weld 60 = .ok (.getfield 12, 3) := by decide +kernel
theorem dX4_weld_63 : decode cX4_weld 63 = .ok (.invokevirtual 56, 3) := by decide +kernel
theorem dX4_weld_66 : decode cX4_weld 66 = .ok (.aload_n 0, 1) := by decide +kernel
theorem dX4_weld_67 : decode cX4_weld 67 = .ok (.getfield 12, 3) := by decide +kernel
theorem dX4_weld_70 : decode cX4_weld 70 = .ok (.getfield 101, 3) := by decide +kernel
theorem dX4_weld_73 : decode cX4_weld 73 = .ok (.iload_n 1, 1) := by decide +kernel
theorem dX4_weld_74 : decode cX4_weld 74 = .ok (.iaload, 1) := by decide +kernel
theorem dX4_weld_75 : decode cX4_weld 75 = .ok (.istore 4, 2) := by decide +kernel
theorem dX4_weld_77 : decode cX4_weld 77 = .ok (.aload_n 0, 1) := by decide +kernel
theorem dX4_weld_78 : decode cX4_weld 78 = .ok (.getfield 12, 3) := by decide +kernel
theorem dX4_weld_81 : decode cX4_weld 81 = .ok (.dup, 1) := by decide +kernel
theorem dX4_weld_82 : decode cX4_weld 82 = .ok (.getfield 98, 3) := by decide +kernel
theorem dX4_weld_85 : decode cX4_weld 85 = .ok (.iconst 1, 1) := by decide +kernel
theorem dX4_weld_86 : decode cX4_weld 86 = .ok (.iload_n 1, 1) := by decide +kernel
theorem dX4_weld_87 : decode cX4_weld 87 = .ok (.ishl, 1) := by decide +kernel
theorem dX4_weld_88 : decode cX4_weld 88 = .ok (.ixor, 1) := by decide +kernel
theorem dX4_weld_89 : decode cX4_weld 89 = .ok (.putfield 98, 3) := by decide +kernel
theorem dX4_weld_92 : decode cX4_weld 92 = .ok (.iload_n 2, 1) := by decide +kernel
theorem dX4_weld_93 : decode cX4_weld 93 = .ok (.ifCond .ne 13, 3) := by decide +kernel
theorem dX4_weld_96 : decode cX4_weld 96 = .ok (.aload_n 0, 1) := by decide +kernel
theorem dX4_weld_97 : decode cX4_weld 97 = .ok (.getfield 12, 3) := by decide +kernel
theorem dX4_weld_100 : decode cX4_weld 100 = .ok (.getfield 101, 3) := by decide +kernel
theorem dX4_weld_103 : decode cX4_weld 103 = .ok (.iload_n 1, 1) := by decide +kernel
theorem dX4_weld_104 : decode cX4_weld 104 = .ok (.iconst 0, 1) := by decide +kernel
theorem dX4_weld_105 : decode cX4_weld 105 = .ok (.iastore, 1) := by decide +kernel
theorem dX4_weld_106 : decode cX4_weld 106 = .ok (.iload 4, 2) := by decide +kernel
theorem dX4_weld_108 : decode cX4_weld 108 = .ok (.ireturn, 1) := by decide +kernel
set_option maxRecDepth 20000 in
theorem ggX4_pass_X4_isWithin : GoodIn wsX4_pass wsX4_isWithin := goodIn_r _ [7] (by decide +kernel) (by decide +kernel)
set_option maxRecDepth 20000 in
theorem gX4_pass_X4_isWithin : GoodIn wsX4_pass (va_wsS RX4 52 yX4_isWithin wsX4_isWithin) := goodIn_app (goodIn_of _ (by decide +kernel)) ggX4_pass_X4_isWithin
set_option maxRecDepth 20000 in
theorem ggX4_pass_X0_record : GoodIn wsX4_pass wsX0_record := goodIn_r _ [12, 13, 14, 15, 16, 17, 18, 19, 20, 21, 22, 23, 24, 25, 26, 27, 28, 29, 30, 31, 32, 33, 34, 35, 36, 37, 38, 99, 100, 101, 85, 86, 87, 88, 89, 90, 91, 92, 93, 94, 95, 96, 97, 98] (by decide +kernel) (by decide +kernel)
set_option maxRecDepth 20000 in
theorem gX4_pass_X0_record : GoodIn wsX4_pass (wsV RX4 56 RX0 yX0_record wsX0_record) := goodIn_app (goodIn_of _ (by decide +kernel)) ggX4_pass_X0_record
set_option maxRecDepth 20000 in
theorem ggX4_pass_X3_passTicks : GoodIn wsX4_pass wsX3_passTicks := goodIn_r _ [42, 43, 44, 45, 19, 46, 21, 22, 47, 48, 49, 50, 51, 52, 53, 54, 35, 55, 6, 56, 57, 58, 59, 60, 23, 36, 37, 61, 62, 63, 64, 25, 33, 65, 66, 67, 68, 69, 70, 71, 72, 73, 32, 27, 26, 74, 75, 76, 77, 34, 24, 85, 86, 87, 88, 89, 90, 91, 92, 93, 94, 95, 96, 97, 98] (by decide +kernel) (by decide +kernel)
set_option maxRecDepth 20000 in
theorem gX4_pass_X3_passTicks : GoodIn wsX4_pass (wsV RX4 107 RX3 yX3_passTicks wsX3_passTicks) := goodIn_app (goodIn_of _ (by decide +kernel)) ggX4_pass_X3_passTicks
theorem dX4_pass_0 : decode cX4_pass 0 = .ok (.iload_n 1, 1) := by decide +kernel
theorem dX4_pass_1 : decode cX4_pass 1 = .ok (.iconst 1, 1) := by decide +kernel
theorem dX4_pass_2 : decode cX4_pass 2 = .ok (.sipush 200, 3) := by decide +kernel
theorem dX4_pass_5 : decode cX4_pass 5 = .ok (.invokestatic 52, 3) := by decide +kernel
theorem dX4_pass_8 : decode cX4_pass 8 = .ok (.ifCond .ne 6, 3) := by decide +kernel
theorem dX4_pass_11 : decode cX4_pass 11 = .ok (.bipush (-2), 2) := by decide +kernel
theorem dX4_pass_13 : decode cX4_pass 13 = .ok (.ireturn, 1) := by decide +kernel
theorem dX4_pass_14 : decode cX4_pass 14 = .ok (.aload_n 0, 1) := by decide +kernel
theorem dX4_pass_15 : decode cX4_pass 15 = .ok (.getfield 36, 3) := by decide +kernel
theorem dX4_pass_18 : decode cX4_pass 18 = .ok (.aload_n 0, 1) := by decide +kernel
theorem dX4_pass_19 : decode cX4_pass 19 = .ok (.getfield 12, 3) := by decide +kernel
theorem dX4_pass_22 : decode cX4_pass 22 = .ok (.invokevirtual 56, 3) := by decide +kernel
theorem dX4_pass_25 : decode cX4_pass 25 = .ok (.aload_n 0, 1) := by decide +kernel
theorem dX4_pass_26 : decode cX4_pass 26 = .ok (.getfield 12, 3) := by decide +kernel
theorem dX4_pass_29 : decode cX4_pass 29 = .ok (.getfield 104, 3) := by decide +kernel
theorem dX4_pass_32 : decode cX4_pass 32 = .ok (.istore_n 2, 1) := by decide +kernel
theorem dX4_pass_33 : decode cX4_pass 33 = .ok (.aload_n 0, 1) := by decide +kernel
theorem dX4_pass_34 : decode cX4_pass 34 = .ok (.getfield 12, 3) := by decide +kernel
theorem dX4_pass_37 : decode cX4_pass 37 = .ok (.iload_n 1, 1) := by decide +kernel
theorem dX4_pass_38 : decode cX4_pass 38 = .ok (.invokevirtual 107, 3) := by decide +kernel
theorem dX4_pass_41 : decode cX4_pass 41 = .ok (.aload_n 0, 1) := by decide +kernel
theorem dX4_pass_42 : decode cX4_pass 42 = .ok (.getfield 12, 3) := by decide +kernel
theorem dX4_pass_45 : decode cX4_pass 45 = .ok (.getfield 104, 3) := by decide +kernel
theorem dX4_pass_48 : decode cX4_pass 48 = .ok (.iload_n 2, 1) := by decide +kernel
theorem dX4_pass_49 : decode cX4_pass 49 = .ok (.isub, 1) := by decide +kernel
theorem dX4_pass_50 : decode cX4_pass 50 = .ok (.ireturn, 1) := by decide +kernel
set_option maxRecDepth 20000 in
theorem ggX4_settle_X0_record : GoodIn wsX4_settle wsX0_record := goodIn_r _ [7, 8, 9, 10, 11, 12, 13, 14, 15, 16, 17, 18, 19, 20, 21, 22, 23, 24, 25, 26, 27, 28, 29, 30, 31, 32, 33, 81, 82, 83, 84, 85, 86, 87, 88, 89, 90, 91, 92, 93, 94, 95, 96, 97] (by decide +kernel) (by decide +kernel)
set_option maxRecDepth 20000 in
theorem gX4_settle_X0_record : GoodIn wsX4_settle (wsV RX4 56 RX0 yX0_record wsX0_record) := goodIn_app (goodIn_of _ (by decide +kernel)) ggX4_settle_X0_record
set_option maxRecDepth 20000 in
theorem ggX4_settle_X3_ticksUntilRest : GoodIn wsX4_settle wsX3_ticksUntilRest := goodIn_r _ [37, 38, 39, 40, 14, 41, 16, 17, 42, 43, 44, 45, 46, 47, 48, 49, 30, 50, 51, 52, 53, 54, 55, 56, 18, 31, 32, 57, 58, 59, 60, 20, 28, 61, 62, 63, 64, 65, 66, 67, 68, 69, 27, 22, 21, 70, 71, 72, 73, 29, 19, 84, 85, 86, 87, 88, 89, 90, 91, 92, 93, 94, 95, 96, 97] (by decide +kernel) (by decide +kernel)
set_option maxRecDepth 20000 in
theorem gX4_settle_X3_ticksUntilRest : GoodIn wsX4_settle (wsV RX4 111 RX3 yX3_ticksUntilRest wsX3_ticksUntilRest) := goodIn_app (goodIn_of _ (by decide +kernel)) ggX4_settle_X3_ticksUntilRest
theorem dX4_settle_0 : decode cX4_settle 0 = .ok (.aload_n 0, 1) := by decide +kernel
theorem dX4_settle_1 : decode cX4_settle 1 = .ok (.getfield 36, 3) := by decide +kernel
theorem dX4_settle_4 : decode cX4_settle 4 = .ok (.aload_n 0, 1) := by decide +kernel
theorem dX4_settle_5 : decode cX4_settle 5 = .ok (.getfield 12, 3) := by decide +kernel
theorem dX4_settle_8 : decode cX4_settle 8 = .ok (.invokevirtual 56, 3) := by decide +kernel
theorem dX4_settle_11 : decode cX4_settle 11 = .ok (.aload_n 0, 1) := by decide +kernel
theorem dX4_settle_12 : decode cX4_settle 12 = .ok (.getfield 12, 3) := by decide +kernel
theorem dX4_settle_15 : decode cX4_settle 15 = .ok (.invokevirtual 111, 3) := by decide +kernel
theorem dX4_settle_18 : decode cX4_settle 18 = .ok (.ireturn, 1) := by decide +kernel
set_option maxRecDepth 20000 in
theorem ggX4_relay_X4_isRelay : GoodIn wsX4_relay wsX4_isRelay := goodIn_r _ [12, 13, 14, 11, 15] (by decide +kernel) (by decide +kernel)
set_option maxRecDepth 20000 in
theorem gX4_relay_X4_isRelay : GoodIn wsX4_relay (va_wsS RX4 48 yX4_isRelay wsX4_isRelay) := goodIn_app (goodIn_of _ (by decide +kernel)) ggX4_relay_X4_isRelay
set_option maxRecDepth 20000 in
theorem ggX4_relay_X4_bit : GoodIn wsX4_relay wsX4_bit := goodIn_r _ [18] (by decide +kernel) (by decide +kernel)
set_option maxRecDepth 20000 in
theorem gX4_relay_X4_bit : GoodIn wsX4_relay (va_wsS RX4 114 yX4_bit wsX4_bit) := goodIn_app (goodIn_of _ (by decide +kernel)) ggX4_relay_X4_bit
set_option maxRecDepth 20000 in
theorem ggX4_relay_X3_fedRelays : GoodIn wsX4_relay wsX3_fedRelays := goodIn_r _ [23, 24, 25, 26, 22, 27, 28, 29, 11, 30, 31, 32, 33, 34, 35, 36, 37, 38, 71, 72, 73, 74, 75, 76, 77, 78, 79, 80, 81, 82, 83, 84] (by decide +kernel) (by decide +kernel)
set_option maxRecDepth 20000 in
theorem gX4_relay_X3_fedRelays : GoodIn wsX4_relay (wsV RX4 118 RX3 yX3_fedRelays wsX3_fedRelays) := goodIn_app (goodIn_of _ (by decide +kernel)) ggX4_relay_X3_fedRelays
set_option maxRecDepth 20000 in
theorem ggX4_relay_X3_wantingRelays : GoodIn wsX4_relay wsX3_wantingRelays := goodIn_r _ [42, 35, 43, 44, 20, 21, 22, 23, 24, 25, 26, 27, 28, 29, 11, 30, 31, 32, 33, 34, 36, 37, 38, 71, 72, 73, 74, 75, 76, 77, 78, 79, 80, 81, 82, 83, 84] (by decide +kernel) (by decide +kernel)
set_option maxRecDepth 20000 in
theorem gX4_relay_X3_wantingRelays : GoodIn wsX4_relay (wsV RX4 92 RX3 yX3_wantingRelays wsX3_wantingRelays) := goodIn_app (goodIn_of _ (by decide +kernel)) ggX4_relay_X3_wantingRelays
set_option maxRecDepth 20000 in
theorem ggX4_relay_X3_frontsOfCircuit : GoodIn wsX4_relay wsX3_frontsOfCircuit := goodIn_r _ [48, 37, 49, 50, 51, 22, 52, 28, 29, 11, 30, 71, 72, 73, 74, 75, 76, 77, 78, 79, 80, 81, 82, 83, 84] (by decide +kernel) (by decide +kernel)
set_option maxRecDepth 20000 in
theorem gX4_relay_X3_frontsOfCircuit : GoodIn wsX4_relay (wsV RX4 127 RX3 yX3_frontsOfCircuit wsX3_frontsOfCircuit) := goodIn_app (goodIn_of _ (by decide +kernel)) ggX4_relay_X3_frontsOfCircuit
set_option maxRecDepth 20000 in
theorem ggX4_relay_X3_relaysWithContactOf : GoodIn wsX4_relay wsX3_relaysWithContactOf := goodIn_r _ [56, 57, 46, 47, 22, 48, 37, 49, 50, 51, 52, 28, 29, 11, 30, 58, 59, 60, 61, 38, 62, 63, 16, 17, 18, 71, 72, 73, 74, 75, 76, 77, 78, 79, 80, 81, 82, 83, 84] (by decide +kernel) (by decide +kernel)
set_option maxRecDepth 20000 in
theorem gX4_relay_X3_relaysWithContactOf : GoodIn wsX4_relay (wsV RX4 131 RX3 yX3_relaysWithContactOf wsX3_relaysWithContactOf) := goodIn_app (goodIn_of _ (by decide +kernel)) ggX4_relay_X3_relaysWithContactOf
theorem dX4_relay_0 : decode cX4_relay 0 = .ok (.iload_n 1, 1) := by decide +kernel
theorem dX4_relay_1 : decode cX4_relay 1 = .ok (.invokestatic 48, 3) := by decide +kernel
theorem dX4_relay_4 : decode cX4_relay 4 = .ok (.ifCond .ne 5, 3) := by decide +kernel
theorem dX4_relay_7 : decode cX4_relay 7 = .ok (.iconst (-1), 1) := by decide +kernel
theorem dX4_relay_8 : decode cX4_relay 8 = .ok (.ireturn, 1) := by decide +kernel
theorem dX4_relay_9 : decode cX4_relay 9 = .ok (.iload_n 2, 1) := by decide +kernel
theorem dX4_relay_10 : decode cX4_relay 10 = .ok (.tableswitch 178 0 10 #[58, 70, 82, 94, 106, 116, 126, 136, 146, 156, 169], 58) := by decide +kernel
theorem dX4_relay_68 : decode cX4_relay 68 = .ok (.aload_n 0, 1) := by decide +kernel
theorem dX4_relay_69 : decode cX4_relay 69 = .ok (.getfield 12, 3) := by decide +kernel
theorem dX4_relay_72 : decode cX4_relay 72 = .ok (.getfield 95, 3) := by decide +kernel
theorem dX4_relay_75 : decode cX4_relay 75 = .ok (.iload_n 1, 1) := by decide +kernel
theorem dX4_relay_76 : decode cX4_relay 76 = .ok (.invokestatic 114, 3) := by decide +kernel
theorem dX4_relay_79 : decode cX4_relay 79 = .ok (.ireturn, 1) := by decide +kernel
theorem dX4_relay_80 : decode cX4_relay 80 = .ok (.aload_n 0, 1) := by decide +kernel
theorem dX4_relay_81 : decode cX4_relay 81 = .ok (.getfield 12, 3) := by decide +kernel
theorem dX4_relay_84 : decode cX4_relay 84 = .ok (.invokevirtual 118, 3) := by decide +kernel
theorem dX4_relay_87 : decode cX4_relay 87 = .ok (.iload_n 1, 1) := by decide +kernel
theorem dX4_relay_88 : decode cX4_relay 88 = .ok (.invokestatic 114, 3) := by decide +kernel
theorem dX4_relay_91 : decode cX4_relay 91 = .ok (.ireturn, 1) := by decide +kernel
theorem dX4_relay_92 : decode cX4_relay 92 = .ok (.aload_n 0, 1) := by decide +kernel
theorem dX4_relay_93 : decode cX4_relay 93 = .ok (.getfield 12, 3) := by decide +kernel
theorem dX4_relay_96 : decode cX4_relay 96 = .ok (.getfield 98, 3) := by decide +kernel
theorem dX4_relay_99 : decode cX4_relay 99 = .ok (.iload_n 1, 1) := by decide +kernel
theorem dX4_relay_100 : decode cX4_relay 100 = .ok (.invokestatic 114, 3) := by decide +kernel
theorem dX4_relay_103 : decode cX4_relay 103 = .ok (.ireturn, 1) := by decide +kernel
theorem dX4_relay_104 : decode cX4_relay 104 = .ok (.aload_n 0, 1) := by decide +kernel
theorem dX4_relay_105 : decode cX4_relay 105 = .ok (.getfield 12, 3) := by decide +kernel
theorem dX4_relay_108 : decode cX4_relay 108 = .ok (.invokevirtual 92, 3) := by decide +kernel
theorem dX4_relay_111 : decode cX4_relay 111 = .ok (.iload_n 1, 1) := by decide +kernel
theorem dX4_relay_112 : decode cX4_relay 112 = .ok (.invokestatic 114, 3) := by decide +kernel
theorem dX4_relay_115 : decode cX4_relay 115 = .ok (.ireturn, 1) := by decide +kernel
theorem dX4_relay_116 : decode cX4_relay 116 = .ok (.aload_n 0, 1) := by decide +kernel
theorem dX4_relay_117 : decode cX4_relay 117 = .ok (.getfield 12, 3) := by decide +kernel
theorem dX4_relay_120 : decode cX4_relay 120 = .ok (.getfield 121, 3) := by decide +kernel
theorem dX4_relay_123 : decode cX4_relay 123 = .ok (.iload_n 1, 1) := by decide +kernel
theorem dX4_relay_124 : decode cX4_relay 124 = .ok (.iaload, 1) := by decide +kernel
theorem dX4_relay_125 : decode cX4_relay 125 = .ok (.ireturn, 1) := by decide +kernel
theorem dX4_relay_126 : decode cX4_relay 126 = .ok (.aload_n 0, 1) := by decide +kernel
theorem dX4_relay_127 : decode cX4_relay 127 = .ok (.getfield 12, 3) := by decide +kernel
theorem dX4_relay_130 : decode cX4_relay 130 = .ok (.getfield 101, 3) := by decide +kernel
theorem dX4_relay_133 : decode cX4_relay 133 = .ok (.iload_n 1, 1) := by decide +kernel
theorem dX4_relay_134 : decode cX4_relay 134 = .ok (.iaload, 1) := by decide +kernel
theorem dX4_relay_135 : decode cX4_relay 135 = .ok (.ireturn, 1) := by decide +kernel
theorem dX4_relay_136 : decode cX4_relay 136 = .ok (.aload_n 0, 1) := by decide +kernel
theorem dX4_relay_137 : decode cX4_relay 137 = .ok (.getfield 12, 3) := by decide +kernel
theorem dX4_relay_140 : decode cX4_relay 140 = .ok (.getfield 64, 3) := by decide +kernel
theorem dX4_relay_143 : decode cX4_relay 143 = .ok (.iload_n 1, 1) := by decide +kernel
theorem dX4_relay_144 : decode cX4_relay 144 = .ok (.iaload, 1) := by decide +kernel
theorem dX4_relay_145 : decode cX4_relay 145 = .ok (.ireturn, 1) := by decide +kernel
theorem dX4_relay_146 : decode cX4_relay 146 = .ok (.aload_n 0, 1) := by decide +kernel
theorem dX4_relay_147 : decode cX4_relay 147 = .ok (.getfield 12, 3) := by decide +kernel
theorem dX4_relay_150 : decode cX4_relay 150 = .ok (.getfield 60, 3) := by decide +kernel
theorem dX4_relay_153 : decode cX4_relay 153 = .ok (.iload_n 1, 1) := by decide +kernel
theorem dX4_relay_154 : decode cX4_relay 154 = .ok (.iaload, 1) := by decide +kernel
theorem dX4_relay_155 : decode cX4_relay 155 = .ok (.ireturn, 1) := by decide +kernel
theorem dX4_relay_156 : decode cX4_relay 156 = .ok (.aload_n 0, 1) := by decide +kernel
theorem dX4_relay_157 : decode cX4_relay 157 = .ok (.getfield 12, 3) := by decide +kernel
theorem dX4_relay_160 : decode cX4_relay 160 = .ok (.getfield 124, 3) := by decide +kernel
theorem dX4_relay_163 : decode cX4_relay 163 = .ok (.iload_n 1, 1) := by decide +kernel
theorem dX4_relay_164 : decode cX4_relay 164 = .ok (.iaload, 1) := by decide +kernel
theorem dX4_relay_165 : decode cX4_relay 165 = .ok (.ireturn, 1) := by decide +kernel
theorem dX4_relay_166 : decode cX4_relay 166 = .ok (.aload_n 0, 1) := by decide +kernel
theorem dX4_relay_167 : decode cX4_relay 167 = .ok (.getfield 12, 3) := by decide +kernel
theorem dX4_relay_170 : decode cX4_relay 170 = .ok (.iload_n 1, 1) := by decide +kernel
theorem dX4_relay_171 : decode cX4_relay 171 = .ok (.invokevirtual 127, 3) := by decide +kernel
theorem dX4_relay_174 : decode cX4_relay 174 = .ok (.iload_n 1, 1) := by decide +kernel
theorem dX4_relay_175 : decode cX4_relay 175 = .ok (.invokestatic 114, 3) := by decide +kernel
theorem dX4_relay_178 : decode cX4_relay 178 = .ok (.ireturn, 1) := by decide +kernel
theorem dX4_relay_179 : decode cX4_relay 179 = .ok (.aload_n 0, 1) := by decide +kernel
theorem dX4_relay_180 : decode cX4_relay 180 = .ok (.getfield 12, 3) := by decide +kernel
theorem dX4_relay_183 : decode cX4_relay 183 = .ok (.iload_n 1, 1) := by decide +kernel
theorem dX4_relay_184 : decode cX4_relay 184 = .ok (.invokevirtual 131, 3) := by decide +kernel
theorem dX4_relay_187 : decode cX4_relay 187 = .ok (.ireturn, 1) := by decide +kernel
theorem dX4_relay_188 : decode cX4_relay 188 = .ok (.bipush (-2), 2) := by decide +kernel
theorem dX4_relay_190 : decode cX4_relay 190 = .ok (.ireturn, 1) := by decide +kernel
set_option maxRecDepth 20000 in
theorem ggX4_branch_X4_isRelay : GoodIn wsX4_branch wsX4_isRelay := goodIn_r _ [9, 10, 11, 8, 12] (by decide +kernel) (by decide +kernel)
set_option maxRecDepth 20000 in
theorem gX4_branch_X4_isRelay : GoodIn wsX4_branch (va_wsS RX4 48 yX4_isRelay wsX4_isRelay) := goodIn_app (goodIn_of _ (by decide +kernel)) ggX4_branch_X4_isRelay
set_option maxRecDepth 20000 in
theorem ggX4_branch_X4_isWithin : GoodIn wsX4_branch wsX4_isWithin := goodIn_r _ [12] (by decide +kernel) (by decide +kernel)
set_option maxRecDepth 20000 in
theorem gX4_branch_X4_isWithin : GoodIn wsX4_branch (va_wsS RX4 52 yX4_isWithin wsX4_isWithin) := goodIn_app (goodIn_of _ (by decide +kernel)) ggX4_branch_X4_isWithin
set_option maxRecDepth 20000 in
theorem ggX4_branch_X4_placeOf : GoodIn wsX4_branch wsX4_placeOf := goodIn_r _ [15] (by decide +kernel) (by decide +kernel)
set_option maxRecDepth 20000 in
theorem gX4_branch_X4_placeOf : GoodIn wsX4_branch (va_wsS RX4 134 yX4_placeOf wsX4_placeOf) := goodIn_app (goodIn_of _ (by decide +kernel)) ggX4_branch_X4_placeOf
set_option maxRecDepth 20000 in
theorem ggX4_branch_X3_isClosed : GoodIn wsX4_branch wsX3_isClosed := goodIn_r _ [20, 21, 22, 23, 24, 32, 33, 34, 35, 36, 37, 38, 39, 40, 41, 42, 43, 44, 45] (by decide +kernel) (by decide +kernel)
set_option maxRecDepth 20000 in
theorem gX4_branch_X3_isClosed : GoodIn wsX4_branch (wsV RX4 137 RX3 yX3_isClosed wsX3_isClosed) := goodIn_app (goodIn_of _ (by decide +kernel)) ggX4_branch_X3_isClosed
theorem dX4_branch_0 : decode cX4_branch 0 = .ok (.iload_n 1, 1) := by decide +kernel
theorem dX4_branch_1 : decode cX4_branch 1 = .ok (.invokestatic 48, 3) := by decide +kernel
theorem dX4_branch_4 : decode cX4_branch 4 = .ok (.ifCond .eq 22, 3) := by decide +kernel
theorem dX4_branch_7 : decode cX4_branch 7 = .ok (.iload_n 2, 1) := by decide +kernel
theorem dX4_branch_8 : decode cX4_branch 8 = .ok (.iconst 0, 1) := by decide +kernel
theorem dX4_branch_9 : decode cX4_branch 9 = .ok (.aload_n 0, 1) := by decide +kernel
theorem dX4_branch_10 : decode cX4_branch 10 = .ok (.getfield 12, 3) := by decide +kernel
theorem dX4_branch_13 : decode cX4_branch 13 = .ok (.getfield 124, 3) := by decide +kernel
theorem dX4_branch_16 : decode cX4_branch 16 = .ok (.iload_n 1, 1) := by decide +kernel
theorem dX4_branch_17 : decode cX4_branch 17 = .ok (.iaload, 1) := by decide +kernel
theorem dX4_branch_18 : decode cX4_branch 18 = .ok (.iconst 1, 1) := by decide +kernel
theorem dX4_branch_19 : decode cX4_branch 19 = .ok (.isub, 1) := by decide +kernel
theorem dX4_branch_20 : decode cX4_branch 20 = .ok (.invokestatic 52, 3) := by decide +kernel
theorem dX4_branch_23 : decode cX4_branch 23 = .ok (.ifCond .ne 5, 3) := by decide +kernel
theorem dX4_branch_26 : decode cX4_branch 26 = .ok (.iconst (-1), 1) := by decide +kernel
theorem dX4_branch_27 : decode cX4_branch 27 = .ok (.ireturn, 1) := by decide +kernel
theorem dX4_branch_28 : decode cX4_branch 28 = .ok (.iload_n 1, 1) := by decide +kernel
theorem dX4_branch_29 : decode cX4_branch 29 = .ok (.iload_n 2, 1) := by decide +kernel
theorem dX4_branch_30 : decode cX4_branch 30 = .ok (.invokestatic 134, 3) := by decide +kernel
theorem dX4_branch_33 : decode cX4_branch 33 = .ok (.istore 4, 2) := by decide +kernel
theorem dX4_branch_35 : decode cX4_branch 35 = .ok (.iload_n 3, 1) := by decide +kernel
theorem dX4_branch_36 : decode cX4_branch 36 = .ok (.tableswitch 133 0 5 #[40, 58, 69, 84, 99, 116], 40) := by decide +kernel
theorem dX4_branch_76 : decode cX4_branch 76 = .ok (.aload_n 0, 1) := by decide +kernel
theorem dX4_branch_77 : decode cX4_branch 77 = .ok (.getfield 12, 3) := by decide +kernel
theorem dX4_branch_80 : decode cX4_branch 80 = .ok (.iload 4, 2) := by decide +kernel
theorem dX4_branch_82 : decode cX4_branch 82 = .ok (.invokevirtual 137, 3) := by decide +kernel
theorem dX4_branch_85 : decode cX4_branch 85 = .ok (.ifCond .eq 7, 3) := by decide +kernel
theorem dX4_branch_88 : decode cX4_branch 88 = .ok (.iconst 1, 1) := by decide +kernel
theorem dX4_branch_89 : decode cX4_branch 89 = .ok (.goto 4, 3) := by decide +kernel
theorem dX4_branch_92 : decode cX4_branch 92 = .ok (.iconst 0, 1) := by decide +kernel
theorem dX4_branch_93 : decode cX4_branch 93 = .ok (.ireturn, 1) := by decide +kernel
theorem dX4_branch_94 : decode cX4_branch 94 = .ok (.aload_n 0, 1) := by decide +kernel
theorem dX4_branch_95 : decode cX4_branch 95 = .ok (.getfield 12, 3) := by decide +kernel
theorem dX4_branch_98 : decode cX4_branch 98 = .ok (.getfield 140, 3) := by decide +kernel
theorem dX4_branch_101 : decode cX4_branch 101 = .ok (.iload 4, 2) := by decide +kernel
theorem dX4_branch_103 : decode cX4_branch 103 = .ok (.iaload, 1) := by decide +kernel
theorem dX4_branch_104 : decode cX4_branch 104 = .ok (.ireturn, 1) := by decide +kernel
theorem dX4_branch_105 : decode cX4_branch 105 = .ok (.aload_n 0, 1) := by decide +kernel
theorem dX4_branch_106 : decode cX4_branch 106 = .ok (.getfield 12, 3) := by decide +kernel
theorem dX4_branch_109 : decode cX4_branch 109 = .ok (.getfield 143, 3) := by decide +kernel
theorem dX4_branch_112 : decode cX4_branch 112 = .ok (.iload 4, 2) := by decide +kernel
theorem dX4_branch_114 : decode cX4_branch 114 = .ok (.iaload, 1) := by decide +kernel
theorem dX4_branch_115 : decode cX4_branch 115 = .ok (.sipush 1023, 3) := by decide +kernel
theorem dX4_branch_118 : decode cX4_branch 118 = .ok (.iand, 1) := by decide +kernel
theorem dX4_branch_119 : decode cX4_branch 119 = .ok (.ireturn, 1) := by decide +kernel
theorem dX4_branch_120 : decode cX4_branch 120 = .ok (.aload_n 0, 1) := by decide +kernel
theorem dX4_branch_121 : decode cX4_branch 121 = .ok (.getfield 12, 3) := by decide +kernel
theorem dX4_branch_124 : decode cX4_branch 124 = .ok (.getfield 146, 3) := by decide +kernel
theorem dX4_branch_127 : decode cX4_branch 127 = .ok (.iload 4, 2) := by decide +kernel
theorem dX4_branch_129 : decode cX4_branch 129 = .ok (.iaload, 1) := by decide +kernel
theorem dX4_branch_130 : decode cX4_branch 130 = .ok (.sipush 1023, 3) := by decide +kernel
theorem dX4_branch_133 : decode cX4_branch 133 = .ok (.iand, 1) := by decide +kernel
theorem dX4_branch_134 : decode cX4_branch 134 = .ok (.ireturn, 1) := by decide +kernel
theorem dX4_branch_135 : decode cX4_branch 135 = .ok (.aload_n 0, 1) := by decide +kernel
theorem dX4_branch_136 : decode cX4_branch 136 = .ok (.getfield 12, 3) := by decide +kernel
theorem dX4_branch_139 : decode cX4_branch 139 = .ok (.getfield 143, 3) := by decide +kernel
theorem dX4_branch_142 : decode cX4_branch 142 = .ok (.iload 4, 2) := by decide +kernel
theorem dX4_branch_144 : decode cX4_branch 144 = .ok (.iaload, 1) := by decide +kernel
theorem dX4_branch_145 : decode cX4_branch 145 = .ok (.bipush 10, 2) := by decide +kernel
theorem dX4_branch_147 : decode cX4_branch 147 = .ok (.ishr, 1) := by decide +kernel
theorem dX4_branch_148 : decode cX4_branch 148 = .ok (.bipush 63, 2) := by decide +kernel
theorem dX4_branch_150 : decode cX4_branch 150 = .ok (.iand, 1) := by decide +kernel
theorem dX4_branch_151 : decode cX4_branch 151 = .ok (.ireturn, 1) := by decide +kernel
theorem dX4_branch_152 : decode cX4_branch 152 = .ok (.aload_n 0, 1) := by decide +kernel
theorem dX4_branch_153 : decode cX4_branch 153 = .ok (.getfield 12, 3) := by decide +kernel
theorem dX4_branch_156 : decode cX4_branch 156 = .ok (.getfield 146, 3) := by decide +kernel
theorem dX4_branch_159 : decode cX4_branch 159 = .ok (.iload 4, 2) := by decide +kernel
theorem dX4_branch_161 : decode cX4_branch 161 = .ok (.iaload, 1) := by decide +kernel
theorem dX4_branch_162 : decode cX4_branch 162 = .ok (.bipush 10, 2) := by decide +kernel
theorem dX4_branch_164 : decode cX4_branch 164 = .ok (.ishr, 1) := by decide +kernel
theorem dX4_branch_165 : decode cX4_branch 165 = .ok (.bipush 63, 2) := by decide +kernel
theorem dX4_branch_167 : decode cX4_branch 167 = .ok (.iand, 1) := by decide +kernel
theorem dX4_branch_168 : decode cX4_branch 168 = .ok (.ireturn, 1) := by decide +kernel
theorem dX4_branch_169 : decode cX4_branch 169 = .ok (.bipush (-2), 2) := by decide +kernel
theorem dX4_branch_171 : decode cX4_branch 171 = .ok (.ireturn, 1) := by decide +kernel
set_option maxRecDepth 20000 in
theorem ggX4_count_X3_fedRelays : GoodIn wsX4_count wsX3_fedRelays := goodIn_r _ [16, 17, 18, 19, 15, 20, 21, 22, 23, 24, 25, 26, 27, 28, 29, 30, 31, 32, 54, 55, 56, 57, 58, 59, 60, 61, 62, 63, 64, 65, 66, 67] (by decide +kernel) (by decide +kernel)
set_option maxRecDepth 20000 in
theorem gX4_count_X3_fedRelays : GoodIn wsX4_count (wsV RX4 118 RX3 yX3_fedRelays wsX3_fedRelays) := goodIn_app (goodIn_of _ (by decide +kernel)) ggX4_count_X3_fedRelays
set_option maxRecDepth 20000 in
theorem ggX4_count_X3_wantingRelays : GoodIn wsX4_count wsX3_wantingRelays := goodIn_r _ [36, 29, 37, 38, 13, 14, 15, 16, 17, 18, 19, 20, 21, 22, 23, 24, 25, 26, 27, 28, 30, 31, 32, 54, 55, 56, 57, 58, 59, 60, 61, 62, 63, 64, 65, 66, 67] (by decide +kernel) (by decide +kernel)
set_option maxRecDepth 20000 in
theorem gX4_count_X3_wantingRelays : GoodIn wsX4_count (wsV RX4 92 RX3 yX3_wantingRelays wsX3_wantingRelays) := goodIn_app (goodIn_of _ (by decide +kernel)) ggX4_count_X3_wantingRelays
set_option maxRecDepth 20000 in
theorem ggX4_count_X3_relaysWithBranches : GoodIn wsX4_count wsX3_relaysWithBranches := goodIn_r _ [42, 21, 54, 55, 56, 57, 58, 59, 60, 61, 62, 63, 64, 65, 66, 67] (by decide +kernel) (by decide +kernel)
set_option maxRecDepth 20000 in
theorem gX4_count_X3_relaysWithBranches : GoodIn wsX4_count (wsV RX4 81 RX3 yX3_relaysWithBranches wsX3_relaysWithBranches) := goodIn_app (goodIn_of _ (by decide +kernel)) ggX4_count_X3_relaysWithBranches
set_option maxRecDepth 20000 in
theorem ggX4_count_X3_neverClosedBranches : GoodIn wsX4_count wsX3_neverClosedBranches := goodIn_r _ [46, 21, 31, 32, 22, 23, 24, 54, 55, 56, 57, 58, 59, 60, 61, 62, 63, 64, 65, 66, 67] (by decide +kernel) (by decide +kernel)
set_option maxRecDepth 20000 in
theorem gX4_count_X3_neverClosedBranches : GoodIn wsX4_count (wsV RX4 152 RX3 yX3_neverClosedBranches wsX3_neverClosedBranches) := goodIn_app (goodIn_of _ (by decide +kernel)) ggX4_count_X3_neverClosedBranches
theorem dX4_count_0 : decode cX4_count 0 = .ok (.iload_n 1, 1) := by decide +kernel
theorem dX4_count_1 : decode cX4_count 1 = .ok (.tableswitch 159 0 11 #[63, 71, 79, 87, 95, 103, 111, 119, 127, 135, 143, 151], 63) := by decide +kernel
theorem dX4_count_64 : decode cX4_count 64 = .ok (.aload_n 0, 1) := by decide +kernel
theorem dX4_count_65 : decode cX4_count 65 = .ok (.getfield 12, 3) := by decide +kernel
theorem dX4_count_68 : decode cX4_count 68 = .ok (.getfield 95, 3) := by decide +kernel
theorem dX4_count_71 : decode cX4_count 71 = .ok (.ireturn, 1) := by decide +kernel
theorem dX4_count_72 : decode cX4_count 72 = .ok (.aload_n 0, 1) := by decide +kernel
theorem dX4_count_73 : decode cX4_count 73 = .ok (.getfield 12, 3) := by decide +kernel
theorem dX4_count_76 : decode cX4_count 76 = .ok (.invokevirtual 118, 3) := by decide +kernel
theorem dX4_count_79 : decode cX4_count 79 = .ok (.ireturn, 1) := by decide +kernel
theorem dX4_count_80 : decode cX4_count 80 = .ok (.aload_n 0, 1) := by decide +kernel
theorem dX4_count_81 : decode cX4_count 81 = .ok (.getfield 12, 3) := by decide +kernel
theorem dX4_count_84 : decode cX4_count 84 = .ok (.getfield 98, 3) := by decide +kernel
theorem dX4_count_87 : decode cX4_count 87 = .ok (.ireturn, 1) := by decide +kernel
theorem dX4_count_88 : decode cX4_count 88 = .ok (.aload_n 0, 1) := by decide +kernel
theorem dX4_count_89 : decode cX4_count 89 = .ok (.getfield 12, 3) := by decide +kernel
theorem dX4_count_92 : decode cX4_count 92 = .ok (.invokevirtual 92, 3) := by decide +kernel
theorem dX4_count_95 : decode cX4_count 95 = .ok (.ireturn, 1) := by decide +kernel
theorem dX4_count_96 : decode cX4_count 96 = .ok (.aload_n 0, 1) := by decide +kernel
theorem dX4_count_97 : decode cX4_count 97 = .ok (.getfield 12, 3) := by decide +kernel
theorem dX4_count_100 : decode cX4_count 100 = .ok (.getfield 85, 3) := by decide +kernel
theorem dX4_count_103 : decode cX4_count 103 = .ok (.ireturn, 1) := by decide +kernel
theorem dX4_count_104 : decode cX4_count 104 = .ok (.aload_n 0, 1) := by decide +kernel
theorem dX4_count_105 : decode cX4_count 105 = .ok (.getfield 12, 3) := by decide +kernel
theorem dX4_count_108 : decode cX4_count 108 = .ok (.getfield 149, 3) := by decide +kernel
theorem dX4_count_111 : decode cX4_count 111 = .ok (.ireturn, 1) := by decide +kernel
theorem dX4_count_112 : decode cX4_count 112 = .ok (.aload_n 0, 1) := by decide +kernel
theorem dX4_count_113 : decode cX4_count 113 = .ok (.getfield 12, 3) := by decide +kernel
theorem dX4_count_116 : decode cX4_count 116 = .ok (.getfield 104, 3) := by decide +kernel
theorem dX4_count_119 : decode cX4_count 119 = .ok (.ireturn, 1) := by decide +kernel
theorem dX4_count_120 : decode cX4_count 120 = .ok (.aload_n 0, 1) := by decide +kernel
theorem dX4_count_121 : decode cX4_count 121 = .ok (.getfield 12, 3) := by decide +kernel
theorem dX4_count_124 : decode cX4_count 124 = .ok (.getfield 67, 3) := by decide +kernel
theorem dX4_count_127 : decode cX4_count 127 = .ok (.ireturn, 1) := by decide +kernel
theorem dX4_count_128 : decode cX4_count 128 = .ok (.aload_n 0, 1) := by decide +kernel
theorem dX4_count_129 : decode cX4_count 129 = .ok (.getfield 12, 3) := by decide +kernel
theorem dX4_count_132 : decode cX4_count 132 = .ok (.invokevirtual 81, 3) := by decide +kernel
theorem dX4_count_135 : decode cX4_count 135 = .ok (.ireturn, 1) := by decide +kernel
theorem dX4_count_136 : decode cX4_count 136 = .ok (.aload_n 0, 1) := by decide +kernel
theorem dX4_count_137 : decode cX4_count 137 = .ok (.getfield 12, 3) := by decide +kernel
theorem dX4_count_140 : decode cX4_count 140 = .ok (.invokevirtual 152, 3) := by decide +kernel
theorem dX4_count_143 : decode cX4_count 143 = .ok (.ireturn, 1) := by decide +kernel
theorem dX4_count_144 : decode cX4_count 144 = .ok (.aload_n 0, 1) := by decide +kernel
theorem dX4_count_145 : decode cX4_count 145 = .ok (.getfield 22, 3) := by decide +kernel
theorem dX4_count_148 : decode cX4_count 148 = .ok (.getfield 155, 3) := by decide +kernel
theorem dX4_count_151 : decode cX4_count 151 = .ok (.ireturn, 1) := by decide +kernel
theorem dX4_count_152 : decode cX4_count 152 = .ok (.aload_n 0, 1) := by decide +kernel
theorem dX4_count_153 : decode cX4_count 153 = .ok (.getfield 36, 3) := by decide +kernel
theorem dX4_count_156 : decode cX4_count 156 = .ok (.getfield 158, 3) := by decide +kernel
theorem dX4_count_159 : decode cX4_count 159 = .ok (.ireturn, 1) := by decide +kernel
theorem dX4_count_160 : decode cX4_count 160 = .ok (.bipush (-2), 2) := by decide +kernel
theorem dX4_count_162 : decode cX4_count 162 = .ok (.ireturn, 1) := by decide +kernel
set_option maxRecDepth 20000 in
theorem ggX4_ifPressed_X4_isButtonSet : GoodIn wsX4_ifPressed wsX4_isButtonSet := goodIn_r _ [6, 7, 8, 5, 9] (by decide +kernel) (by decide +kernel)
set_option maxRecDepth 20000 in
theorem gX4_ifPressed_X4_isButtonSet : GoodIn wsX4_ifPressed (va_wsS RX4 161 yX4_isButtonSet wsX4_isButtonSet) := goodIn_app (goodIn_of _ (by decide +kernel)) ggX4_ifPressed_X4_isButtonSet
set_option maxRecDepth 20000 in
theorem ggX4_ifPressed_X4_isWithin : GoodIn wsX4_ifPressed wsX4_isWithin := goodIn_r _ [9] (by decide +kernel) (by decide +kernel)
set_option maxRecDepth 20000 in
theorem gX4_ifPressed_X4_isWithin : GoodIn wsX4_ifPressed (va_wsS RX4 52 yX4_isWithin wsX4_isWithin) := goodIn_app (goodIn_of _ (by decide +kernel)) ggX4_ifPressed_X4_isWithin
set_option maxRecDepth 20000 in
theorem ggX4_ifPressed_X4_tryButtons : GoodIn wsX4_ifPressed wsX4_tryButtons := goodIn_r _ [13, 1, 14, 15, 16, 17, 18, 19, 20, 21, 22, 23, 24, 25, 26, 27, 28, 29, 30, 31, 32, 33, 34, 35, 36, 37, 38, 78, 79, 80, 81, 82, 83, 84, 85, 86, 87, 88, 89, 90, 91, 92, 93, 94, 95, 96, 97, 98] (by decide +kernel) (by decide +kernel)
set_option maxRecDepth 20000 in
theorem gX4_ifPressed_X4_tryButtons : GoodIn wsX4_ifPressed (wsV RX4 164 RX4 yX4_tryButtons wsX4_tryButtons) := goodIn_app (goodIn_of _ (by decide +kernel)) ggX4_ifPressed_X4_tryButtons
set_option maxRecDepth 20000 in
theorem ggX4_ifPressed_X3_passTicks : GoodIn wsX4_ifPressed wsX3_passTicks := goodIn_r _ [42, 43, 44, 45, 19, 46, 21, 22, 47, 48, 49, 50, 51, 52, 53, 54, 35, 55, 5, 56, 57, 58, 59, 60, 23, 36, 37, 61, 62, 63, 64, 25, 33, 65, 66, 67, 68, 69, 70, 71, 72, 73, 32, 27, 26, 74, 75, 76, 77, 34, 24, 85, 86, 87, 88, 89, 90, 91, 92, 93, 94, 95, 96, 97, 98] (by decide +kernel) (by decide +kernel)
set_option maxRecDepth 20000 in
theorem gX4_ifPressed_X3_passTicks : GoodIn wsX4_ifPressed (wsV RX4 107 RX3 yX3_passTicks wsX3_passTicks) := goodIn_app (goodIn_of _ (by decide +kernel)) ggX4_ifPressed_X3_passTicks
theorem dX4_ifPressed_0 : decode cX4_ifPressed 0 = .ok (.iload_n 1, 1) := by decide +kernel
theorem dX4_ifPressed_1 : decode cX4_ifPressed 1 = .ok (.invokestatic 161, 3) := by decide +kernel
theorem dX4_ifPressed_4 : decode cX4_ifPressed 4 = .ok (.ifCond .eq 14, 3) := by decide +kernel
theorem dX4_ifPressed_7 : decode cX4_ifPressed 7 = .ok (.iload_n 2, 1) := by decide +kernel
theorem dX4_ifPressed_8 : decode cX4_ifPressed 8 = .ok (.iconst 0, 1) := by decide +kernel
theorem dX4_ifPressed_9 : decode cX4_ifPressed 9 = .ok (.sipush 200, 3) := by decide +kernel
theorem dX4_ifPressed_12 : decode cX4_ifPressed 12 = .ok (.invokestatic 52, 3) := by decide +kernel
theorem dX4_ifPressed_15 : decode cX4_ifPressed 15 = .ok (.ifCond .ne 6, 3) := by decide +kernel
theorem dX4_ifPressed_18 : decode cX4_ifPressed 18 = .ok (.bipush (-2), 2) := by decide +kernel
theorem dX4_ifPressed_20 : decode cX4_ifPressed 20 = .ok (.ireturn, 1) := by decide +kernel
theorem dX4_ifPressed_21 : decode cX4_ifPressed 21 = .ok (.aload_n 0, 1) := by decide +kernel
theorem dX4_ifPressed_22 : decode cX4_ifPressed 22 = .ok (.iload_n 1, 1) := by decide +kernel
theorem dX4_ifPressed_23 : decode cX4_ifPressed 23 = .ok (.invokevirtual 164, 3) := by decide +kernel
theorem dX4_ifPressed_26 : decode cX4_ifPressed 26 = .ok (.aload_n 0, 1) := by decide +kernel
theorem dX4_ifPressed_27 : decode cX4_ifPressed 27 = .ok (.getfield 16, 3) := by decide +kernel
theorem dX4_ifPressed_30 : decode cX4_ifPressed 30 = .ok (.iload_n 2, 1) := by decide +kernel
theorem dX4_ifPressed_31 : decode cX4_ifPressed 31 = .ok (.invokevirtual 107, 3) := by decide +kernel
theorem dX4_ifPressed_34 : decode cX4_ifPressed 34 = .ok (.aload_n 0, 1) := by decide +kernel
theorem dX4_ifPressed_35 : decode cX4_ifPressed 35 = .ok (.getfield 16, 3) := by decide +kernel
theorem dX4_ifPressed_38 : decode cX4_ifPressed 38 = .ok (.getfield 95, 3) := by decide +kernel
theorem dX4_ifPressed_41 : decode cX4_ifPressed 41 = .ok (.ireturn, 1) := by decide +kernel
set_option maxRecDepth 20000 in
theorem ggX4_rest_X4_isButtonSet : GoodIn wsX4_rest wsX4_isButtonSet := goodIn_r _ [8, 9, 10, 7, 11] (by decide +kernel) (by decide +kernel)
set_option maxRecDepth 20000 in
theorem gX4_rest_X4_isButtonSet : GoodIn wsX4_rest (va_wsS RX4 161 yX4_isButtonSet wsX4_isButtonSet) := goodIn_app (goodIn_of _ (by decide +kernel)) ggX4_rest_X4_isButtonSet
set_option maxRecDepth 20000 in
theorem ggX4_rest_X4_isWithin : GoodIn wsX4_rest wsX4_isWithin := goodIn_r _ [11] (by decide +kernel) (by decide +kernel)
set_option maxRecDepth 20000 in
theorem gX4_rest_X4_isWithin : GoodIn wsX4_rest (va_wsS RX4 52 yX4_isWithin wsX4_isWithin) := goodIn_app (goodIn_of _ (by decide +kernel)) ggX4_rest_X4_isWithin
set_option maxRecDepth 20000 in
theorem ggX4_rest_X4_tryButtons : GoodIn wsX4_rest wsX4_tryButtons := goodIn_r _ [15, 1, 3, 16, 17, 18, 19, 20, 21, 22, 23, 24, 25, 26, 27, 28, 29, 30, 31, 32, 33, 34, 35, 36, 37, 38, 39, 83, 84, 85, 86, 87, 88, 89, 90, 91, 92, 93, 94, 95, 96, 97, 98, 99, 100, 101, 102, 103] (by decide +kernel) (by decide +kernel)
set_option maxRecDepth 20000 in
theorem gX4_rest_X4_tryButtons : GoodIn wsX4_rest (wsV RX4 164 RX4 yX4_tryButtons wsX4_tryButtons) := goodIn_app (goodIn_of _ (by decide +kernel)) ggX4_rest_X4_tryButtons
set_option maxRecDepth 20000 in
theorem ggX4_rest_X3_upAtRest : GoodIn wsX4_rest wsX3_upAtRest := goodIn_r _ [43, 22, 44, 45, 46, 20, 47, 48, 49, 50, 51, 23, 52, 53, 54, 55, 56, 57, 58, 59, 36, 60, 7, 61, 62, 63, 64, 65, 24, 37, 38, 66, 67, 68, 69, 26, 34, 70, 71, 72, 73, 74, 75, 76, 77, 78, 33, 28, 27, 79, 80, 81, 82, 35, 25, 90, 91, 92, 93, 94, 95, 96, 97, 98, 99, 100, 101, 102, 103] (by decide +kernel) (by decide +kernel)
set_option maxRecDepth 20000 in
theorem gX4_rest_X3_upAtRest : GoodIn wsX4_rest (wsV RX4 167 RX3 yX3_upAtRest wsX3_upAtRest) := goodIn_app (goodIn_of _ (by decide +kernel)) ggX4_rest_X3_upAtRest
theorem dX4_rest_0 : decode cX4_rest 0 = .ok (.iload_n 1, 1) := by decide +kernel
theorem dX4_rest_1 : decode cX4_rest 1 = .ok (.invokestatic 161, 3) := by decide +kernel
theorem dX4_rest_4 : decode cX4_rest 4 = .ok (.ifCond .eq 12, 3) := by decide +kernel
theorem dX4_rest_7 : decode cX4_rest 7 = .ok (.iload_n 2, 1) := by decide +kernel
theorem dX4_rest_8 : decode cX4_rest 8 = .ok (.iconst 0, 1) := by decide +kernel
theorem dX4_rest_9 : decode cX4_rest 9 = .ok (.iconst 2, 1) := by decide +kernel
theorem dX4_rest_10 : decode cX4_rest 10 = .ok (.invokestatic 52, 3) := by decide +kernel
theorem dX4_rest_13 : decode cX4_rest 13 = .ok (.ifCond .ne 6, 3) := by decide +kernel
theorem dX4_rest_16 : decode cX4_rest 16 = .ok (.bipush (-2), 2) := by decide +kernel
theorem dX4_rest_18 : decode cX4_rest 18 = .ok (.ireturn, 1) := by decide +kernel
theorem dX4_rest_19 : decode cX4_rest 19 = .ok (.aload_n 0, 1) := by decide +kernel
theorem dX4_rest_20 : decode cX4_rest 20 = .ok (.iload_n 1, 1) := by decide +kernel
theorem dX4_rest_21 : decode cX4_rest 21 = .ok (.invokevirtual 164, 3) := by decide +kernel
theorem dX4_rest_24 : decode cX4_rest 24 = .ok (.aload_n 0, 1) := by decide +kernel
theorem dX4_rest_25 : decode cX4_rest 25 = .ok (.getfield 16, 3) := by decide +kernel
theorem dX4_rest_28 : decode cX4_rest 28 = .ok (.invokevirtual 167, 3) := by decide +kernel
theorem dX4_rest_31 : decode cX4_rest 31 = .ok (.istore_n 3, 1) := by decide +kernel
theorem dX4_rest_32 : decode cX4_rest 32 = .ok (.iload_n 3, 1) := by decide +kernel
theorem dX4_rest_33 : decode cX4_rest 33 = .ok (.bipush (-6), 2) := by decide +kernel
theorem dX4_rest_35 : decode cX4_rest 35 = .ok (.if_icmp .eq 7, 3) := by decide +kernel
theorem dX4_rest_38 : decode cX4_rest 38 = .ok (.iload_n 2, 1) := by decide +kernel
theorem dX4_rest_39 : decode cX4_rest 39 = .ok (.ifCond .ne 5, 3) := by decide +kernel
theorem dX4_rest_42 : decode cX4_rest 42 = .ok (.iload_n 3, 1) := by decide +kernel
theorem dX4_rest_43 : decode cX4_rest 43 = .ok (.ireturn, 1) := by decide +kernel
theorem dX4_rest_44 : decode cX4_rest 44 = .ok (.iload_n 2, 1) := by decide +kernel
theorem dX4_rest_45 : decode cX4_rest 45 = .ok (.iconst 1, 1) := by decide +kernel
theorem dX4_rest_46 : decode cX4_rest 46 = .ok (.if_icmp .ne 21, 3) := by decide +kernel
theorem dX4_rest_49 : decode cX4_rest 49 = .ok (.aload_n 0, 1) := by decide +kernel
theorem dX4_rest_50 : decode cX4_rest 50 = .ok (.getfield 16, 3) := by decide +kernel
theorem dX4_rest_53 : decode cX4_rest 53 = .ok (.getfield 149, 3) := by decide +kernel
theorem dX4_rest_56 : decode cX4_rest 56 = .ok (.aload_n 0, 1) := by decide +kernel
theorem dX4_rest_57 : decode cX4_rest 57 = .ok (.getfield 12, 3) := by decide +kernel
theorem dX4_rest_60 : decode cX4_rest 60 = .ok (.getfield 149, 3) := by decide +kernel
theorem dX4_rest_63 : decode cX4_rest 63 = .ok (.isub, 1) := by decide +kernel
theorem dX4_rest_64 : decode cX4_rest 64 = .ok (.goto 18, 3) := by decide +kernel
theorem dX4_rest_67 : decode cX4_rest 67 = .ok (.aload_n 0, 1) := by decide +kernel
theorem dX4_rest_68 : decode cX4_rest 68 = .ok (.getfield 16, 3) := by decide +kernel
theorem dX4_rest_71 : decode cX4_rest 71 = .ok (.getfield 104, 3) := by decide +kernel
theorem dX4_rest_74 : decode cX4_rest 74 = .ok (.aload_n 0, 1) := by decide +kernel
theorem dX4_rest_75 : decode cX4_rest 75 = .ok (.getfield 12, 3) := by decide +kernel
theorem dX4_rest_78 : decode cX4_rest 78 = .ok (.getfield 104, 3) := by decide +kernel
theorem dX4_rest_81 : decode cX4_rest 81 = .ok (.isub, 1) := by decide +kernel
theorem dX4_rest_82 : decode cX4_rest 82 = .ok (.ireturn, 1) := by decide +kernel
set_option maxRecDepth 20000 in
theorem ggX4_race_X4_isButtonSet : GoodIn wsX4_race wsX4_isButtonSet := goodIn_r _ [5, 6, 7, 4, 8] (by decide +kernel) (by decide +kernel)
set_option maxRecDepth 20000 in
theorem gX4_race_X4_isButtonSet : GoodIn wsX4_race (va_wsS RX4 161 yX4_isButtonSet wsX4_isButtonSet) := goodIn_app (goodIn_of _ (by decide +kernel)) ggX4_race_X4_isButtonSet
set_option maxRecDepth 20000 in
theorem ggX4_race_X4_tryButtons : GoodIn wsX4_race wsX4_tryButtons := goodIn_r _ [12, 1, 13, 14, 15, 16, 17, 18, 19, 20, 21, 22, 23, 24, 25, 26, 27, 28, 29, 30, 31, 32, 33, 34, 35, 36, 37, 85, 86, 87, 88, 89, 90, 91, 92, 93, 94, 95, 96, 97, 98, 99, 100, 101, 102, 103, 104, 105] (by decide +kernel) (by decide +kernel)
set_option maxRecDepth 20000 in
theorem gX4_race_X4_tryButtons : GoodIn wsX4_race (wsV RX4 164 RX4 yX4_tryButtons wsX4_tryButtons) := goodIn_app (goodIn_of _ (by decide +kernel)) ggX4_race_X4_tryButtons
set_option maxRecDepth 20000 in
theorem ggX4_race_X3_upAtRest : GoodIn wsX4_race wsX3_upAtRest := goodIn_r _ [41, 20, 42, 43, 44, 18, 45, 46, 47, 48, 49, 21, 50, 51, 52, 53, 54, 55, 56, 57, 34, 58, 4, 59, 60, 61, 62, 63, 22, 35, 36, 64, 65, 66, 67, 24, 32, 68, 69, 70, 71, 72, 73, 74, 75, 76, 31, 26, 25, 77, 78, 79, 80, 33, 23, 92, 93, 94, 95, 96, 97, 98, 99, 100, 101, 102, 103, 104, 105] (by decide +kernel) (by decide +kernel)
set_option maxRecDepth 20000 in
theorem gX4_race_X3_upAtRest : GoodIn wsX4_race (wsV RX4 167 RX3 yX3_upAtRest wsX3_upAtRest) := goodIn_app (goodIn_of _ (by decide +kernel)) ggX4_race_X3_upAtRest
set_option maxRecDepth 20000 in
theorem ggX4_race_X3_makeAllTimesOne : GoodIn wsX4_race wsX3_makeAllTimesOne := goodIn_r _ [84, 26, 31, 92, 93, 94, 95, 96, 97, 98, 99, 100, 101, 102, 103, 104, 105] (by decide +kernel) (by decide +kernel)
set_option maxRecDepth 20000 in
theorem gX4_race_X3_makeAllTimesOne : GoodIn wsX4_race (wsV RX4 170 RX3 yX3_makeAllTimesOne wsX3_makeAllTimesOne) := goodIn_app (goodIn_of _ (by decide +kernel)) ggX4_race_X3_makeAllTimesOne
theorem dX4_race_0 : decode cX4_race 0 = .ok (.iload_n 1, 1) := by decide +kernel
theorem dX4_race_1 : decode cX4_race 1 = .ok (.invokestatic 161, 3) := by decide +kernel
theorem dX4_race_4 : decode cX4_race 4 = .ok (.ifCond .ne 6, 3) := by decide +kernel
theorem dX4_race_7 : decode cX4_race 7 = .ok (.bipush (-2), 2) := by decide +kernel
theorem dX4_race_9 : decode cX4_race 9 = .ok (.ireturn, 1) := by decide +kernel
theorem dX4_race_10 : decode cX4_race 10 = .ok (.aload_n 0, 1) := by decide +kernel
theorem dX4_race_11 : decode cX4_race 11 = .ok (.iload_n 1, 1) := by decide +kernel
theorem dX4_race_12 : decode cX4_race 12 = .ok (.invokevirtual 164, 3) := by decide +kernel
theorem dX4_race_15 : decode cX4_race 15 = .ok (.aload_n 0, 1) := by decide +kernel
theorem dX4_race_16 : decode cX4_race 16 = .ok (.getfield 16, 3) := by decide +kernel
theorem dX4_race_19 : decode cX4_race 19 = .ok (.invokevirtual 167, 3) := by decide +kernel
theorem dX4_race_22 : decode cX4_race 22 = .ok (.istore_n 2, 1) := by decide +kernel
theorem dX4_race_23 : decode cX4_race 23 = .ok (.aload_n 0, 1) := by decide +kernel
theorem dX4_race_24 : decode cX4_race 24 = .ok (.iload_n 1, 1) := by decide +kernel
theorem dX4_race_25 : decode cX4_race 25 = .ok (.invokevirtual 164, 3) := by decide +kernel
theorem dX4_race_28 : decode cX4_race 28 = .ok (.aload_n 0, 1) := by decide +kernel
theorem dX4_race_29 : decode cX4_race 29 = .ok (.getfield 16, 3) := by decide +kernel
theorem dX4_race_32 : decode cX4_race 32 = .ok (.invokevirtual 170, 3) := by decide +kernel
theorem dX4_race_35 : decode cX4_race 35 = .ok (.iload_n 2, 1) := by decide +kernel
theorem dX4_race_36 : decode cX4_race 36 = .ok (.aload_n 0, 1) := by decide +kernel
theorem dX4_race_37 : decode cX4_race 37 = .ok (.getfield 16, 3) := by decide +kernel
theorem dX4_race_40 : decode cX4_race 40 = .ok (.invokevirtual 167, 3) := by decide +kernel
theorem dX4_race_43 : decode cX4_race 43 = .ok (.if_icmp .ne 7, 3) := by decide +kernel
theorem dX4_race_46 : decode cX4_race 46 = .ok (.iconst 0, 1) := by decide +kernel
theorem dX4_race_47 : decode cX4_race 47 = .ok (.goto 4, 3) := by decide +kernel
theorem dX4_race_50 : decode cX4_race 50 = .ok (.iconst 1, 1) := by decide +kernel
theorem dX4_race_51 : decode cX4_race 51 = .ok (.ireturn, 1) := by decide +kernel
set_option maxRecDepth 20000 in
theorem ggX4_ifWelded_X4_isRelay : GoodIn wsX4_ifWelded wsX4_isRelay := goodIn_r _ [5, 6, 7, 4, 8] (by decide +kernel) (by decide +kernel)
set_option maxRecDepth 20000 in
theorem gX4_ifWelded_X4_isRelay : GoodIn wsX4_ifWelded (va_wsS RX4 48 yX4_isRelay wsX4_isRelay) := goodIn_app (goodIn_of _ (by decide +kernel)) ggX4_ifWelded_X4_isRelay
set_option maxRecDepth 20000 in
theorem ggX4_ifWelded_X4_tryWelded : GoodIn wsX4_ifWelded wsX4_tryWelded := goodIn_r _ [12, 1, 13, 14, 15, 16, 17, 4, 18, 19, 20, 21, 22, 23, 24, 25, 26, 27, 28, 29, 30, 31, 32, 33, 34, 35, 36, 37, 38, 39, 40, 41, 42, 43, 87, 88, 89, 90, 91, 92, 93, 94, 95, 96, 97, 98, 99, 100, 101, 102, 103, 104, 105, 106, 107] (by decide +kernel) (by decide +kernel)
set_option maxRecDepth 20000 in
theorem gX4_ifWelded_X4_tryWelded : GoodIn wsX4_ifWelded (wsV RX4 173 RX4 yX4_tryWelded wsX4_tryWelded) := goodIn_app (goodIn_of _ (by decide +kernel)) ggX4_ifWelded_X4_tryWelded
set_option maxRecDepth 20000 in
theorem ggX4_ifWelded_X3_upAtRest : GoodIn wsX4_ifWelded wsX3_upAtRest := goodIn_r _ [47, 26, 48, 49, 50, 24, 51, 52, 53, 54, 55, 27, 56, 57, 58, 59, 60, 61, 62, 63, 40, 64, 4, 65, 66, 67, 68, 69, 28, 41, 42, 70, 71, 72, 73, 30, 38, 74, 75, 76, 77, 78, 79, 80, 81, 82, 37, 32, 31, 83, 84, 85, 86, 39, 29, 94, 95, 96, 97, 98, 99, 100, 101, 102, 103, 104, 105, 106, 107] (by decide +kernel) (by decide +kernel)
set_option maxRecDepth 20000 in
theorem gX4_ifWelded_X3_upAtRest : GoodIn wsX4_ifWelded (wsV RX4 167 RX3 yX3_upAtRest wsX3_upAtRest) := goodIn_app (goodIn_of _ (by decide +kernel)) ggX4_ifWelded_X3_upAtRest
set_option maxRecDepth 20000 in
theorem ggX4_ifWelded_X4_bit : GoodIn wsX4_ifWelded wsX4_bit := goodIn_r _ [78] (by decide +kernel) (by decide +kernel)
set_option maxRecDepth 20000 in
theorem gX4_ifWelded_X4_bit : GoodIn wsX4_ifWelded (va_wsS RX4 114 yX4_bit wsX4_bit) := goodIn_app (goodIn_of _ (by decide +kernel)) ggX4_ifWelded_X4_bit
theorem dX4_ifWelded_0 : decode cX4_ifWelded 0 = .ok (.iload_n 1, 1) := by decide +kernel
theorem dX4_ifWelded_1 : decode cX4_ifWelded 1 = .ok (.invokestatic 48, 3) := by decide +kernel
theorem dX4_ifWelded_4 : decode cX4_ifWelded 4 = .ok (.ifCond .eq 10, 3) := by decide +kernel
theorem dX4_ifWelded_7 : decode cX4_ifWelded 7 = .ok (.iload_n 2, 1) := by decide +kernel
theorem dX4_ifWelded_8 : decode cX4_ifWelded 8 = .ok (.invokestatic 48, 3) := by decide +kernel
theorem dX4_ifWelded_11 : decode cX4_ifWelded 11 = .ok (.ifCond .ne 5, 3) := by decide +kernel
theorem dX4_ifWelded_14 : decode cX4_ifWelded 14 = .ok (.iconst (-1), 1) := by decide +kernel
theorem dX4_ifWelded_15 : decode cX4_ifWelded 15 = .ok (.ireturn, 1) := by decide +kernel
theorem dX4_ifWelded_16 : decode cX4_ifWelded 16 = .ok (.iload_n 1, 1) := by decide +kernel
theorem dX4_ifWelded_17 : decode cX4_ifWelded 17 = .ok (.iload_n 2, 1) := by decide +kernel
theorem dX4_ifWelded_18 : decode cX4_ifWelded 18 = .ok (.if_icmp .ne 6, 3) := by decide +kernel
theorem dX4_ifWelded_21 : decode cX4_ifWelded 21 = .ok (.bipush (-2), 2) := by decide +kernel
theorem dX4_ifWelded_23 : decode cX4_ifWelded 23 = .ok (.ireturn, 1) := by decide +kernel
theorem dX4_ifWelded_24 : decode cX4_ifWelded 24 = .ok (.aload_n 0, 1) := by decide +kernel
theorem dX4_ifWelded_25 : decode cX4_ifWelded 25 = .ok (.iload_n 2, 1) := by decide +kernel
theorem dX4_ifWelded_26 : decode cX4_ifWelded 26 = .ok (.invokevirtual 173, 3) := by decide +kernel
theorem dX4_ifWelded_29 : decode cX4_ifWelded 29 = .ok (.aload_n 0, 1) := by decide +kernel
theorem dX4_ifWelded_30 : decode cX4_ifWelded 30 = .ok (.getfield 16, 3) := by decide +kernel
theorem dX4_ifWelded_33 : decode cX4_ifWelded 33 = .ok (.invokevirtual 167, 3) := by decide +kernel
theorem dX4_ifWelded_36 : decode cX4_ifWelded 36 = .ok (.istore_n 3, 1) := by decide +kernel
theorem dX4_ifWelded_37 : decode cX4_ifWelded 37 = .ok (.iload_n 3, 1) := by decide +kernel
theorem dX4_ifWelded_38 : decode cX4_ifWelded 38 = .ok (.bipush (-6), 2) := by decide +kernel
theorem dX4_ifWelded_40 : decode cX4_ifWelded 40 = .ok (.if_icmp .ne 8, 3) := by decide +kernel
theorem dX4_ifWelded_43 : decode cX4_ifWelded 43 = .ok (.bipush (-6), 2) := by decide +kernel
theorem dX4_ifWelded_45 : decode cX4_ifWelded 45 = .ok (.goto 8, 3) := by decide +kernel
theorem dX4_ifWelded_48 : decode cX4_ifWelded 48 = .ok (.iload_n 3, 1) := by decide +kernel
theorem dX4_ifWelded_49 : decode cX4_ifWelded 49 = .ok (.iload_n 1, 1) := by decide +kernel
theorem dX4_ifWelded_50 : decode cX4_ifWelded 50 = .ok (.invokestatic 114, 3) := by decide +kernel
theorem dX4_ifWelded_53 : decode cX4_ifWelded 53 = .ok (.ireturn, 1) := by decide +kernel
set_option maxRecDepth 20000 in
theorem ggX4_unsafe_X4_isRelay : GoodIn wsX4_unsafe wsX4_isRelay := goodIn_r _ [5, 6, 7, 4, 8] (by decide +kernel) (by decide +kernel)
set_option maxRecDepth 20000 in
theorem gX4_unsafe_X4_isRelay : GoodIn wsX4_unsafe (va_wsS RX4 48 yX4_isRelay wsX4_isRelay) := goodIn_app (goodIn_of _ (by decide +kernel)) ggX4_unsafe_X4_isRelay
set_option maxRecDepth 20000 in
theorem ggX4_unsafe_X4_tryWelded : GoodIn wsX4_unsafe wsX4_tryWelded := goodIn_r _ [12, 1, 13, 14, 15, 16, 17, 4, 18, 19, 20, 21, 22, 23, 24, 25, 26, 27, 28, 29, 30, 31, 32, 33, 34, 35, 36, 37, 38, 39, 40, 41, 42, 43, 91, 92, 93, 94, 95, 96, 97, 98, 99, 100, 101, 102, 103, 104, 105, 106, 107, 108, 109, 110, 111] (by decide +kernel) (by decide +kernel)
set_option maxRecDepth 20000 in
theorem gX4_unsafe_X4_tryWelded : GoodIn wsX4_unsafe (wsV RX4 173 RX4 yX4_tryWelded wsX4_tryWelded) := goodIn_app (goodIn_of _ (by decide +kernel)) ggX4_unsafe_X4_tryWelded
set_option maxRecDepth 20000 in
theorem ggX4_unsafe_X3_upAtRest : GoodIn wsX4_unsafe wsX3_upAtRest := goodIn_r _ [47, 26, 48, 49, 50, 24, 51, 52, 53, 54, 55, 27, 56, 57, 58, 59, 60, 61, 62, 63, 40, 64, 4, 65, 66, 67, 68, 69, 28, 41, 42, 70, 71, 72, 73, 30, 38, 74, 75, 76, 77, 78, 79, 80, 81, 82, 37, 32, 31, 83, 84, 85, 86, 39, 29, 98, 99, 100, 101, 102, 103, 104, 105, 106, 107, 108, 109, 110, 111] (by decide +kernel) (by decide +kernel)
set_option maxRecDepth 20000 in
theorem gX4_unsafe_X3_upAtRest : GoodIn wsX4_unsafe (wsV RX4 167 RX3 yX3_upAtRest wsX3_upAtRest) := goodIn_app (goodIn_of _ (by decide +kernel)) ggX4_unsafe_X3_upAtRest
set_option maxRecDepth 20000 in
theorem ggX4_unsafe_X4_isUpIn : GoodIn wsX4_unsafe wsX4_isUpIn := goodIn_r _ [89, 90, 74, 4, 75, 76, 77, 78] (by decide +kernel) (by decide +kernel)
set_option maxRecDepth 20000 in
theorem gX4_unsafe_X4_isUpIn : GoodIn wsX4_unsafe (va_wsS RX4 176 yX4_isUpIn wsX4_isUpIn) := goodIn_app (goodIn_of _ (by decide +kernel)) ggX4_unsafe_X4_isUpIn
theorem dX4_unsafe_0 : decode cX4_unsafe 0 = .ok (.iload_n 1, 1) := by decide +kernel
theorem dX4_unsafe_1 : decode cX4_unsafe 1 = .ok (.invokestatic 48, 3) := by decide +kernel
theorem dX4_unsafe_4 : decode cX4_unsafe 4 = .ok (.ifCond .ne 5, 3) := by decide +kernel
theorem dX4_unsafe_7 : decode cX4_unsafe 7 = .ok (.iconst (-1), 1) := by decide +kernel
theorem dX4_unsafe_8 : decode cX4_unsafe 8 = .ok (.ireturn, 1) := by decide +kernel
theorem dX4_unsafe_9 : decode cX4_unsafe 9 = .ok (.iconst 0, 1) := by decide +kernel
theorem dX4_unsafe_10 : decode cX4_unsafe 10 = .ok (.istore_n 2, 1) := by decide +kernel
theorem dX4_unsafe_11 : decode cX4_unsafe 11 = .ok (.iconst 0, 1) := by decide +kernel
theorem dX4_unsafe_12 : decode cX4_unsafe 12 = .ok (.istore_n 3, 1) := by decide +kernel
theorem dX4_unsafe_13 : decode cX4_unsafe 13 = .ok (.iload_n 3, 1) := by decide +kernel
theorem dX4_unsafe_14 : decode cX4_unsafe 14 = .ok (.bipush 10, 2) := by decide +kernel
theorem dX4_unsafe_16 : decode cX4_unsafe 16 = .ok (.if_icmp .ge 39, 3) := by decide +kernel
theorem dX4_unsafe_19 : decode cX4_unsafe 19 = .ok (.aload_n 0, 1) := by decide +kernel
theorem dX4_unsafe_20 : decode cX4_unsafe 20 = .ok (.iload_n 3, 1) := by decide +kernel
end
section
theorem dX4_unsafe_21 : decode cX4_unsafe 21 = .ok (.invokevirtual 173, 3) := by decide +kernel
theorem dX4_unsafe_24 : decode cX4_unsafe 24 = .ok (.iload_n 3, 1) := by decide +kernel
theorem dX4_unsafe_25 : decode cX4_unsafe 25 = .ok (.iload_n 1, 1) := by decide +kernel
theorem dX4_unsafe_26 : decode cX4_unsafe 26 = .ok (.if_icmp .eq 23, 3) := by decide +kernel
theorem dX4_unsafe_29 : decode cX4_unsafe 29 = .ok (.aload_n 0, 1) := by decide +kernel
theorem dX4_unsafe_30 : decode cX4_unsafe 30 = .ok (.getfield 16, 3) := by decide +kernel
theorem dX4_unsafe_33 : decode cX4_unsafe 33 = .ok (.invokevirtual 167, 3) := by decide +kernel
theorem dX4_unsafe_36 : decode cX4_unsafe 36 = .ok (.iload_n 1, 1) := by decide +kernel
theorem dX4_unsafe_37 : decode cX4_unsafe 37 = .ok (.invokestatic 176, 3) := by decide +kernel
theorem dX4_unsafe_40 : decode cX4_unsafe 40 = .ok (.ifCond .eq 9, 3) := by decide +kernel
theorem dX4_unsafe_43 : decode cX4_unsafe 43 = .ok (.iload_n 2, 1) := by decide +kernel
theorem dX4_unsafe_44 : decode cX4_unsafe 44 = .ok (.iconst 1, 1) := by decide +kernel
theorem dX4_unsafe_45 : decode cX4_unsafe 45 = .ok (.iload_n 3, 1) := by decide +kernel
theorem dX4_unsafe_46 : decode cX4_unsafe 46 = .ok (.ishl, 1) := by decide +kernel
theorem dX4_unsafe_47 : decode cX4_unsafe 47 = .ok (.ior, 1) := by decide +kernel
theorem dX4_unsafe_48 : decode cX4_unsafe 48 = .ok (.istore_n 2, 1) := by decide +kernel
theorem dX4_unsafe_49 : decode cX4_unsafe 49 = .ok (.iinc 3 1, 3) := by decide +kernel
theorem dX4_unsafe_52 : decode cX4_unsafe 52 = .ok (.goto (-39), 3) := by decide +kernel
theorem dX4_unsafe_55 : decode cX4_unsafe 55 = .ok (.iload_n 2, 1) := by decide +kernel
theorem dX4_unsafe_56 : decode cX4_unsafe 56 = .ok (.ireturn, 1) := by decide +kernel
set_option maxRecDepth 20000 in
theorem ggX4_reach_X4_isRelay : GoodIn wsX4_reach wsX4_isRelay := goodIn_r _ [5, 6, 7, 4, 8] (by decide +kernel) (by decide +kernel)
set_option maxRecDepth 20000 in
theorem gX4_reach_X4_isRelay : GoodIn wsX4_reach (va_wsS RX4 48 yX4_isRelay wsX4_isRelay) := goodIn_app (goodIn_of _ (by decide +kernel)) ggX4_reach_X4_isRelay
set_option maxRecDepth 20000 in
theorem ggX4_reach_J6_bitCount_0f7a4 : GoodIn wsX4_reach wsJ6_bitCount_0f7a4 := goodIn_r _ [12, 13, 14, 15] (by decide +kernel) (by decide +kernel)
set_option maxRecDepth 20000 in
theorem gX4_reach_J6_bitCount_0f7a4 : GoodIn wsX4_reach (va_wsS RX4 179 yJ6_bitCount_0f7a4 wsJ6_bitCount_0f7a4) := goodIn_app (goodIn_of _ (by decide +kernel)) ggX4_reach_J6_bitCount_0f7a4
set_option maxRecDepth 20000 in
theorem ggX4_reach_X4_tryButtons : GoodIn wsX4_reach wsX4_tryButtons := goodIn_r _ [19, 1, 20, 21, 22, 23, 24, 25, 26, 27, 28, 29, 30, 31, 32, 33, 34, 35, 36, 37, 38, 39, 40, 41, 42, 43, 44, 92, 93, 94, 95, 96, 97, 98, 99, 100, 101, 102, 103, 104, 105, 106, 107, 108, 109, 110, 111, 112] (by decide +kernel) (by decide +kernel)
set_option maxRecDepth 20000 in
theorem gX4_reach_X4_tryButtons : GoodIn wsX4_reach (wsV RX4 164 RX4 yX4_tryButtons wsX4_tryButtons) := goodIn_app (goodIn_of _ (by decide +kernel)) ggX4_reach_X4_tryButtons
set_option maxRecDepth 20000 in
theorem ggX4_reach_X3_upAtRest : GoodIn wsX4_reach wsX3_upAtRest := goodIn_r _ [48, 27, 49, 50, 51, 25, 52, 53, 54, 55, 56, 28, 57, 58, 59, 60, 61, 62, 63, 64, 41, 65, 4, 66, 67, 68, 69, 70, 29, 42, 43, 71, 72, 73, 74, 31, 39, 75, 76, 77, 78, 79, 80, 81, 82, 83, 38, 33, 32, 84, 85, 86, 87, 40, 30, 99, 100, 101, 102, 103, 104, 105, 106, 107, 108, 109, 110, 111, 112] (by decide +kernel) (by decide +kernel)
set_option maxRecDepth 20000 in
theorem gX4_reach_X3_upAtRest : GoodIn wsX4_reach (wsV RX4 167 RX3 yX3_upAtRest wsX3_upAtRest) := goodIn_app (goodIn_of _ (by decide +kernel)) ggX4_reach_X3_upAtRest
set_option maxRecDepth 20000 in
theorem ggX4_reach_X4_isUpIn : GoodIn wsX4_reach wsX4_isUpIn := goodIn_r _ [90, 91, 75, 4, 76, 77, 78, 79] (by decide +kernel) (by decide +kernel)
set_option maxRecDepth 20000 in
theorem gX4_reach_X4_isUpIn : GoodIn wsX4_reach (va_wsS RX4 176 yX4_isUpIn wsX4_isUpIn) := goodIn_app (goodIn_of _ (by decide +kernel)) ggX4_reach_X4_isUpIn
theorem dX4_reach_0 : decode cX4_reach 0 = .ok (.iload_n 1, 1) := by decide +kernel
theorem dX4_reach_1 : decode cX4_reach 1 = .ok (.invokestatic 48, 3) := by decide +kernel
theorem dX4_reach_4 : decode cX4_reach 4 = .ok (.ifCond .ne 5, 3) := by decide +kernel
theorem dX4_reach_7 : decode cX4_reach 7 = .ok (.iconst (-1), 1) := by decide +kernel
theorem dX4_reach_8 : decode cX4_reach 8 = .ok (.ireturn, 1) := by decide +kernel
theorem dX4_reach_9 : decode cX4_reach 9 = .ok (.iconst 0, 1) := by decide +kernel
theorem dX4_reach_10 : decode cX4_reach 10 = .ok (.istore_n 2, 1) := by decide +kernel
theorem dX4_reach_11 : decode cX4_reach 11 = .ok (.iload_n 2, 1) := by decide +kernel
theorem dX4_reach_12 : decode cX4_reach 12 = .ok (.bipush 6, 2) := by decide +kernel
theorem dX4_reach_14 : decode cX4_reach 14 = .ok (.if_icmp .gt 55, 3) := by decide +kernel
theorem dX4_reach_17 : decode cX4_reach 17 = .ok (.iconst 0, 1) := by decide +kernel
theorem dX4_reach_18 : decode cX4_reach 18 = .ok (.istore_n 3, 1) := by decide +kernel
theorem dX4_reach_19 : decode cX4_reach 19 = .ok (.iload_n 3, 1) := by decide +kernel
theorem dX4_reach_20 : decode cX4_reach 20 = .ok (.bipush 63, 2) := by decide +kernel
theorem dX4_reach_22 : decode cX4_reach 22 = .ok (.if_icmp .gt 41, 3) := by decide +kernel
theorem dX4_reach_25 : decode cX4_reach 25 = .ok (.iload_n 3, 1) := by decide +kernel
theorem dX4_reach_26 : decode cX4_reach 26 = .ok (.invokestatic 179, 3) := by decide +kernel
theorem dX4_reach_29 : decode cX4_reach 29 = .ok (.iload_n 2, 1) := by decide +kernel
theorem dX4_reach_30 : decode cX4_reach 30 = .ok (.if_icmp .eq 6, 3) := by decide +kernel
theorem dX4_reach_33 : decode cX4_reach 33 = .ok (.goto 24, 3) := by decide +kernel
theorem dX4_reach_36 : decode cX4_reach 36 = .ok (.aload_n 0, 1) := by decide +kernel
theorem dX4_reach_37 : decode cX4_reach 37 = .ok (.iload_n 3, 1) := by decide +kernel
theorem dX4_reach_38 : decode cX4_reach 38 = .ok (.invokevirtual 164, 3) := by decide +kernel
theorem dX4_reach_41 : decode cX4_reach 41 = .ok (.aload_n 0, 1) := by decide +kernel
theorem dX4_reach_42 : decode cX4_reach 42 = .ok (.getfield 16, 3) := by decide +kernel
theorem dX4_reach_45 : decode cX4_reach 45 = .ok (.invokevirtual 167, 3) := by decide +kernel
theorem dX4_reach_48 : decode cX4_reach 48 = .ok (.iload_n 1, 1) := by decide +kernel
theorem dX4_reach_49 : decode cX4_reach 49 = .ok (.invokestatic 176, 3) := by decide +kernel
theorem dX4_reach_52 : decode cX4_reach 52 = .ok (.ifCond .eq 5, 3) := by decide +kernel
theorem dX4_reach_55 : decode cX4_reach 55 = .ok (.iload_n 3, 1) := by decide +kernel
theorem dX4_reach_56 : decode cX4_reach 56 = .ok (.ireturn, 1) := by decide +kernel
theorem dX4_reach_57 : decode cX4_reach 57 = .ok (.iinc 3 1, 3) := by decide +kernel
theorem dX4_reach_60 : decode cX4_reach 60 = .ok (.goto (-41), 3) := by decide +kernel
theorem dX4_reach_63 : decode cX4_reach 63 = .ok (.iinc 2 1, 3) := by decide +kernel
theorem dX4_reach_66 : decode cX4_reach 66 = .ok (.goto (-55), 3) := by decide +kernel
theorem dX4_reach_69 : decode cX4_reach 69 = .ok (.bipush (-6), 2) := by decide +kernel
theorem dX4_reach_71 : decode cX4_reach 71 = .ok (.ireturn, 1) := by decide +kernel
set_option maxRecDepth 20000 in
theorem ggX4_put_X1_lengthOf : GoodIn wsX4_put wsX1_lengthOf := goodIn_r _ [6, 7, 8, 5, 9, 10, 11, 12, 13] (by decide +kernel) (by decide +kernel)
set_option maxRecDepth 20000 in
theorem gX4_put_X1_lengthOf : GoodIn wsX4_put (va_wsS RX4 184 yX1_lengthOf wsX1_lengthOf) := goodIn_app (goodIn_of _ (by decide +kernel)) ggX4_put_X1_lengthOf
set_option maxRecDepth 20000 in
theorem ggX4_put_X1_append : GoodIn wsX4_put wsX1_append := goodIn_r _ [17, 18, 19, 7, 8, 5, 9, 10, 27, 28] (by decide +kernel) (by decide +kernel)
set_option maxRecDepth 20000 in
theorem gX4_put_X1_append : GoodIn wsX4_put (wsV RX4 188 RX1 yX1_append wsX1_append) := goodIn_app (goodIn_of _ (by decide +kernel)) ggX4_put_X1_append
theorem dX4_put_0 : decode cX4_put 0 = .ok (.lload_n 1, 1) := by decide +kernel
theorem dX4_put_1 : decode cX4_put 1 = .ok (.invokestatic 184, 3) := by decide +kernel
theorem dX4_put_4 : decode cX4_put 4 = .ok (.istore_n 3, 1) := by decide +kernel
theorem dX4_put_5 : decode cX4_put 5 = .ok (.iload_n 3, 1) := by decide +kernel
theorem dX4_put_6 : decode cX4_put 6 = .ok (.ifCond .ne 6, 3) := by decide +kernel
theorem dX4_put_9 : decode cX4_put 9 = .ok (.bipush (-2), 2) := by decide +kernel
theorem dX4_put_11 : decode cX4_put 11 = .ok (.ireturn, 1) := by decide +kernel
theorem dX4_put_12 : decode cX4_put 12 = .ok (.aload_n 0, 1) := by decide +kernel
theorem dX4_put_13 : decode cX4_put 13 = .ok (.getfield 22, 3) := by decide +kernel
theorem dX4_put_16 : decode cX4_put 16 = .ok (.getfield 155, 3) := by decide +kernel
theorem dX4_put_19 : decode cX4_put 19 = .ok (.iload_n 3, 1) := by decide +kernel
theorem dX4_put_20 : decode cX4_put 20 = .ok (.iadd, 1) := by decide +kernel
theorem dX4_put_21 : decode cX4_put 21 = .ok (.bipush 64, 2) := by decide +kernel
theorem dX4_put_23 : decode cX4_put 23 = .ok (.if_icmp .le 6, 3) := by decide +kernel
theorem dX4_put_26 : decode cX4_put 26 = .ok (.bipush (-4), 2) := by decide +kernel
theorem dX4_put_28 : decode cX4_put 28 = .ok (.ireturn, 1) := by decide +kernel
theorem dX4_put_29 : decode cX4_put 29 = .ok (.aload_n 0, 1) := by decide +kernel
theorem dX4_put_30 : decode cX4_put 30 = .ok (.getfield 22, 3) := by decide +kernel
theorem dX4_put_33 : decode cX4_put 33 = .ok (.lload_n 1, 1) := by decide +kernel
theorem dX4_put_34 : decode cX4_put 34 = .ok (.iload_n 3, 1) := by decide +kernel
theorem dX4_put_35 : decode cX4_put 35 = .ok (.invokevirtual 188, 3) := by decide +kernel
theorem dX4_put_38 : decode cX4_put 38 = .ok (.aload_n 0, 1) := by decide +kernel
theorem dX4_put_39 : decode cX4_put 39 = .ok (.getfield 22, 3) := by decide +kernel
theorem dX4_put_42 : decode cX4_put 42 = .ok (.getfield 155, 3) := by decide +kernel
theorem dX4_put_45 : decode cX4_put 45 = .ok (.ireturn, 1) := by decide +kernel
set_option maxRecDepth 20000 in
theorem ggX4_wipe_X1_clear : GoodIn wsX4_wipe wsX1_clear := goodIn_r _ [7, 8, 16, 17] (by decide +kernel) (by decide +kernel)
set_option maxRecDepth 20000 in
theorem gX4_wipe_X1_clear : GoodIn wsX4_wipe (wsV RX4 78 RX1 yX1_clear wsX1_clear) := goodIn_app (goodIn_of _ (by decide +kernel)) ggX4_wipe_X1_clear
theorem dX4_wipe_0 : decode cX4_wipe 0 = .ok (.aload_n 0, 1) := by decide +kernel
theorem dX4_wipe_1 : decode cX4_wipe 1 = .ok (.getfield 22, 3) := by decide +kernel
theorem dX4_wipe_4 : decode cX4_wipe 4 = .ok (.getfield 155, 3) := by decide +kernel
theorem dX4_wipe_7 : decode cX4_wipe 7 = .ok (.istore_n 1, 1) := by decide +kernel
theorem dX4_wipe_8 : decode cX4_wipe 8 = .ok (.aload_n 0, 1) := by decide +kernel
theorem dX4_wipe_9 : decode cX4_wipe 9 = .ok (.getfield 22, 3) := by decide +kernel
theorem dX4_wipe_12 : decode cX4_wipe 12 = .ok (.invokevirtual 78, 3) := by decide +kernel
theorem dX4_wipe_15 : decode cX4_wipe 15 = .ok (.iload_n 1, 1) := by decide +kernel
theorem dX4_wipe_16 : decode cX4_wipe 16 = .ok (.ireturn, 1) := by decide +kernel
set_option maxRecDepth 20000 in
theorem ggX4_fault_X2_readInto : GoodIn wsX4_fault wsX2_readInto := goodIn_r _ [8, 9, 10, 11, 12, 13, 14, 7, 15, 16, 17, 18, 19, 20, 21, 22, 23, 24, 25, 26, 27, 28, 29, 30, 31, 32, 33, 34, 35, 36, 37, 38, 39, 40, 41, 42, 43, 44, 45, 46, 47, 48, 49, 50, 51, 52, 53, 54, 55, 56, 57, 58, 59, 60, 61, 62, 63, 64, 65, 66, 67, 68, 69, 70, 71, 72, 73, 74, 75, 76, 77, 85, 86, 87, 88, 89, 90, 91, 92, 93, 94, 95, 96, 97, 98, 99, 100, 101, 102] (by decide +kernel) (by decide +kernel)
set_option maxRecDepth 20000 in
theorem gX4_fault_X2_readInto : GoodIn wsX4_fault (wsV RX4 74 RX2 yX2_readInto wsX2_readInto) := goodIn_app (goodIn_of _ (by decide +kernel)) ggX4_fault_X2_readInto
theorem dX4_fault_0 : decode cX4_fault 0 = .ok (.aload_n 0, 1) := by decide +kernel
theorem dX4_fault_1 : decode cX4_fault 1 = .ok (.getfield 29, 3) := by decide +kernel
theorem dX4_fault_4 : decode cX4_fault 4 = .ok (.aload_n 0, 1) := by decide +kernel
theorem dX4_fault_5 : decode cX4_fault 5 = .ok (.getfield 16, 3) := by decide +kernel
theorem dX4_fault_8 : decode cX4_fault 8 = .ok (.aload_n 0, 1) := by decide +kernel
theorem dX4_fault_9 : decode cX4_fault 9 = .ok (.getfield 22, 3) := by decide +kernel
theorem dX4_fault_12 : decode cX4_fault 12 = .ok (.invokevirtual 74, 3) := by decide +kernel
theorem dX4_fault_15 : decode cX4_fault 15 = .ok (.ireturn, 1) := by decide +kernel
set_option maxRecDepth 20000 in
theorem ggX4_undo_X0_takeBackTo : GoodIn wsX4_undo wsX0_takeBackTo := goodIn_r _ [8, 9, 10, 11, 12, 13, 14, 15, 16, 17, 18, 19, 20, 21, 22, 23, 24, 25, 26, 27, 28, 29, 30, 31, 32, 33, 34, 42, 43, 44, 45, 46, 47, 48, 49, 50, 51, 52, 53, 54, 55, 56, 57, 58] (by decide +kernel) (by decide +kernel)
set_option maxRecDepth 20000 in
theorem gX4_undo_X0_takeBackTo : GoodIn wsX4_undo (wsV RX4 192 RX0 yX0_takeBackTo wsX0_takeBackTo) := goodIn_app (goodIn_of _ (by decide +kernel)) ggX4_undo_X0_takeBackTo
theorem dX4_undo_0 : decode cX4_undo 0 = .ok (.aload_n 0, 1) := by decide +kernel
theorem dX4_undo_1 : decode cX4_undo 1 = .ok (.getfield 36, 3) := by decide +kernel
theorem dX4_undo_4 : decode cX4_undo 4 = .ok (.getfield 158, 3) := by decide +kernel
theorem dX4_undo_7 : decode cX4_undo 7 = .ok (.ifCond .ne 6, 3) := by decide +kernel
theorem dX4_undo_10 : decode cX4_undo 10 = .ok (.bipush (-5), 2) := by decide +kernel
theorem dX4_undo_12 : decode cX4_undo 12 = .ok (.ireturn, 1) := by decide +kernel
theorem dX4_undo_13 : decode cX4_undo 13 = .ok (.aload_n 0, 1) := by decide +kernel
theorem dX4_undo_14 : decode cX4_undo 14 = .ok (.getfield 36, 3) := by decide +kernel
theorem dX4_undo_17 : decode cX4_undo 17 = .ok (.aload_n 0, 1) := by decide +kernel
theorem dX4_undo_18 : decode cX4_undo 18 = .ok (.getfield 12, 3) := by decide +kernel
theorem dX4_undo_21 : decode cX4_undo 21 = .ok (.invokevirtual 192, 3) := by decide +kernel
theorem dX4_undo_24 : decode cX4_undo 24 = .ok (.aload_n 0, 1) := by decide +kernel
theorem dX4_undo_25 : decode cX4_undo 25 = .ok (.getfield 36, 3) := by decide +kernel
theorem dX4_undo_28 : decode cX4_undo 28 = .ok (.getfield 158, 3) := by decide +kernel
theorem dX4_undo_31 : decode cX4_undo 31 = .ok (.ireturn, 1) := by decide +kernel
set_option maxRecDepth 20000 in
theorem ggX4_save_X4_isWithin : GoodIn wsX4_save wsX4_isWithin := goodIn_r _ [8] (by decide +kernel) (by decide +kernel)
set_option maxRecDepth 20000 in
theorem gX4_save_X4_isWithin : GoodIn wsX4_save (va_wsS RX4 52 yX4_isWithin wsX4_isWithin) := goodIn_app (goodIn_of _ (by decide +kernel)) ggX4_save_X4_isWithin
set_option maxRecDepth 20000 in
theorem ggX4_save_X3_copyFrom : GoodIn wsX4_save wsX3_copyFrom := goodIn_r _ [13, 14, 15, 16, 17, 18, 19, 20, 21, 22, 23, 24, 25, 26, 27, 28, 29, 30, 31, 39, 40, 41, 42, 43, 44, 45, 46, 47, 48, 49, 50, 51, 52] (by decide +kernel) (by decide +kernel)
set_option maxRecDepth 20000 in
theorem gX4_save_X3_copyFrom : GoodIn wsX4_save (wsV RX4 71 RX3 yX3_copyFrom wsX3_copyFrom) := goodIn_app (goodIn_of _ (by decide +kernel)) ggX4_save_X3_copyFrom
theorem dX4_save_0 : decode cX4_save 0 = .ok (.iload_n 1, 1) := by decide +kernel
theorem dX4_save_1 : decode cX4_save 1 = .ok (.iconst 0, 1) := by decide +kernel
theorem dX4_save_2 : decode cX4_save 2 = .ok (.iconst 1, 1) := by decide +kernel
theorem dX4_save_3 : decode cX4_save 3 = .ok (.invokestatic 52, 3) := by decide +kernel
theorem dX4_save_6 : decode cX4_save 6 = .ok (.ifCond .ne 6, 3) := by decide +kernel
theorem dX4_save_9 : decode cX4_save 9 = .ok (.bipush (-2), 2) := by decide +kernel
theorem dX4_save_11 : decode cX4_save 11 = .ok (.ireturn, 1) := by decide +kernel
theorem dX4_save_12 : decode cX4_save 12 = .ok (.aload_n 0, 1) := by decide +kernel
theorem dX4_save_13 : decode cX4_save 13 = .ok (.getfield 40, 3) := by decide +kernel
theorem dX4_save_16 : decode cX4_save 16 = .ok (.iload_n 1, 1) := by decide +kernel
theorem dX4_save_17 : decode cX4_save 17 = .ok (.aaload, 1) := by decide +kernel
theorem dX4_save_18 : decode cX4_save 18 = .ok (.aload_n 0, 1) := by decide +kernel
theorem dX4_save_19 : decode cX4_save 19 = .ok (.getfield 12, 3) := by decide +kernel
theorem dX4_save_22 : decode cX4_save 22 = .ok (.invokevirtual 71, 3) := by decide +kernel
theorem dX4_save_25 : decode cX4_save 25 = .ok (.aload_n 0, 1) := by decide +kernel
theorem dX4_save_26 : decode cX4_save 26 = .ok (.getfield 44, 3) := by decide +kernel
theorem dX4_save_29 : decode cX4_save 29 = .ok (.iload_n 1, 1) := by decide +kernel
theorem dX4_save_30 : decode cX4_save 30 = .ok (.iconst 1, 1) := by decide +kernel
theorem dX4_save_31 : decode cX4_save 31 = .ok (.bastore, 1) := by decide +kernel
theorem dX4_save_32 : decode cX4_save 32 = .ok (.aload_n 0, 1) := by decide +kernel
theorem dX4_save_33 : decode cX4_save 33 = .ok (.getfield 12, 3) := by decide +kernel
theorem dX4_save_36 : decode cX4_save 36 = .ok (.getfield 95, 3) := by decide +kernel
theorem dX4_save_39 : decode cX4_save 39 = .ok (.ireturn, 1) := by decide +kernel
set_option maxRecDepth 20000 in
theorem ggX4_restore_X4_isWithin : GoodIn wsX4_restore wsX4_isWithin := goodIn_r _ [9] (by decide +kernel) (by decide +kernel)
set_option maxRecDepth 20000 in
theorem gX4_restore_X4_isWithin : GoodIn wsX4_restore (va_wsS RX4 52 yX4_isWithin wsX4_isWithin) := goodIn_app (goodIn_of _ (by decide +kernel)) ggX4_restore_X4_isWithin
set_option maxRecDepth 20000 in
theorem ggX4_restore_X0_record : GoodIn wsX4_restore wsX0_record := goodIn_r _ [14, 15, 16, 17, 18, 19, 20, 21, 22, 23, 24, 25, 26, 27, 28, 29, 30, 31, 32, 33, 34, 35, 36, 37, 38, 39, 40, 63, 64, 65, 49, 50, 51, 52, 53, 54, 55, 56, 57, 58, 59, 60, 61, 62] (by decide +kernel) (by decide +kernel)
set_option maxRecDepth 20000 in
theorem gX4_restore_X0_record : GoodIn wsX4_restore (wsV RX4 56 RX0 yX0_record wsX0_record) := goodIn_app (goodIn_of _ (by decide +kernel)) ggX4_restore_X0_record
set_option maxRecDepth 20000 in
theorem ggX4_restore_X3_copyFrom : GoodIn wsX4_restore wsX3_copyFrom := goodIn_r _ [22, 23, 24, 25, 26, 27, 28, 29, 30, 31, 32, 33, 34, 35, 36, 37, 38, 39, 40, 49, 50, 51, 52, 53, 54, 55, 56, 57, 58, 59, 60, 61, 62] (by decide +kernel) (by decide +kernel)
set_option maxRecDepth 20000 in
theorem gX4_restore_X3_copyFrom : GoodIn wsX4_restore (wsV RX4 71 RX3 yX3_copyFrom wsX3_copyFrom) := goodIn_app (goodIn_of _ (by decide +kernel)) ggX4_restore_X3_copyFrom
theorem dX4_restore_0 : decode cX4_restore 0 = .ok (.iload_n 1, 1) := by decide +kernel
theorem dX4_restore_1 : decode cX4_restore 1 = .ok (.iconst 0, 1) := by decide +kernel
theorem dX4_restore_2 : decode cX4_restore 2 = .ok (.iconst 1, 1) := by decide +kernel
theorem dX4_restore_3 : decode cX4_restore 3 = .ok (.invokestatic 52, 3) := by decide +kernel
theorem dX4_restore_6 : decode cX4_restore 6 = .ok (.ifCond .ne 6, 3) := by decide +kernel
theorem dX4_restore_9 : decode cX4_restore 9 = .ok (.bipush (-2), 2) := by decide +kernel
theorem dX4_restore_11 : decode cX4_restore 11 = .ok (.ireturn, 1) := by decide +kernel
theorem dX4_restore_12 : decode cX4_restore 12 = .ok (.aload_n 0, 1) := by decide +kernel
theorem dX4_restore_13 : decode cX4_restore 13 = .ok (.getfield 44, 3) := by decide +kernel
theorem dX4_restore_16 : decode cX4_restore 16 = .ok (.iload_n 1, 1) := by decide +kernel
theorem dX4_restore_17 : decode cX4_restore 17 = .ok (.baload, 1) := by decide +kernel
theorem dX4_restore_18 : decode cX4_restore 18 = .ok (.ifCond .ne 6, 3) := by decide +kernel
theorem dX4_restore_21 : decode cX4_restore 21 = .ok (.bipush (-5), 2) := by decide +kernel
theorem dX4_restore_23 : decode cX4_restore 23 = .ok (.ireturn, 1) := by decide +kernel
theorem dX4_restore_24 : decode cX4_restore 24 = .ok (.aload_n 0, 1) := by decide +kernel
theorem dX4_restore_25 : decode cX4_restore 25 = .ok (.getfield 36, 3) := by decide +kernel
theorem dX4_restore_28 : decode cX4_restore 28 = .ok (.aload_n 0, 1) := by decide +kernel
theorem dX4_restore_29 : decode cX4_restore 29 = .ok (.getfield 12, 3) := by decide +kernel
theorem dX4_restore_32 : decode cX4_restore 32 = .ok (.invokevirtual 56, 3) := by decide +kernel
theorem dX4_restore_35 : decode cX4_restore 35 = .ok (.aload_n 0, 1) := by decide +kernel
theorem dX4_restore_36 : decode cX4_restore 36 = .ok (.getfield 12, 3) := by decide +kernel
theorem dX4_restore_39 : decode cX4_restore 39 = .ok (.aload_n 0, 1) := by decide +kernel
theorem dX4_restore_40 : decode cX4_restore 40 = .ok (.getfield 40, 3) := by decide +kernel
theorem dX4_restore_43 : decode cX4_restore 43 = .ok (.iload_n 1, 1) := by decide +kernel
theorem dX4_restore_44 : decode cX4_restore 44 = .ok (.aaload, 1) := by decide +kernel
theorem dX4_restore_45 : decode cX4_restore 45 = .ok (.invokevirtual 71, 3) := by decide +kernel
theorem dX4_restore_48 : decode cX4_restore 48 = .ok (.aload_n 0, 1) := by decide +kernel
theorem dX4_restore_49 : decode cX4_restore 49 = .ok (.getfield 12, 3) := by decide +kernel
theorem dX4_restore_52 : decode cX4_restore 52 = .ok (.getfield 95, 3) := by decide +kernel
theorem dX4_restore_55 : decode cX4_restore 55 = .ok (.ireturn, 1) := by decide +kernel
set_option maxRecDepth 20000 in
theorem ggX4_tryButtons_X3_copyFrom : GoodIn wsX4_tryButtons wsX3_copyFrom := goodIn_r _ [8, 9, 10, 11, 12, 13, 14, 15, 16, 17, 18, 19, 20, 21, 22, 23, 24, 25, 26, 34, 35, 36, 37, 38, 39, 40, 41, 42, 43, 44, 45, 46, 47] (by decide +kernel) (by decide +kernel)
set_option maxRecDepth 20000 in
theorem gX4_tryButtons_X3_copyFrom : GoodIn wsX4_tryButtons (wsV RX4 71 RX3 yX3_copyFrom wsX3_copyFrom) := goodIn_app (goodIn_of _ (by decide +kernel)) ggX4_tryButtons_X3_copyFrom
theorem dX4_tryButtons_0 : decode cX4_tryButtons 0 = .ok (.aload_n 0, 1) := by decide +kernel
theorem dX4_tryButtons_1 : decode cX4_tryButtons 1 = .ok (.getfield 16, 3) := by decide +kernel
theorem dX4_tryButtons_4 : decode cX4_tryButtons 4 = .ok (.aload_n 0, 1) := by decide +kernel
theorem dX4_tryButtons_5 : decode cX4_tryButtons 5 = .ok (.getfield 12, 3) := by decide +kernel
theorem dX4_tryButtons_8 : decode cX4_tryButtons 8 = .ok (.invokevirtual 71, 3) := by decide +kernel
theorem dX4_tryButtons_11 : decode cX4_tryButtons 11 = .ok (.aload_n 0, 1) := by decide +kernel
theorem dX4_tryButtons_12 : decode cX4_tryButtons 12 = .ok (.getfield 16, 3) := by decide +kernel
theorem dX4_tryButtons_15 : decode cX4_tryButtons 15 = .ok (.iload_n 1, 1) := by decide +kernel
theorem dX4_tryButtons_16 : decode cX4_tryButtons 16 = .ok (.putfield 85, 3) := by decide +kernel
theorem dX4_tryButtons_19 : decode cX4_tryButtons 19 = .ok (.return_, 1) := by decide +kernel
set_option maxRecDepth 20000 in
theorem ggX4_tryWelded_X4_tryButtons : GoodIn wsX4_tryWelded wsX4_tryButtons := goodIn_r _ [8, 1, 9, 10, 11, 12, 13, 14, 15, 16, 17, 18, 19, 20, 21, 22, 23, 24, 25, 26, 27, 28, 29, 30, 31, 32, 33, 34, 35, 36, 37, 38, 39, 40, 41, 42, 43, 44, 45, 46, 47, 48, 49, 50, 51, 52, 53, 54] (by decide +kernel) (by decide +kernel)
set_option maxRecDepth 20000 in
theorem gX4_tryWelded_X4_tryButtons : GoodIn wsX4_tryWelded (wsV RX4 164 RX4 yX4_tryButtons wsX4_tryButtons) := goodIn_app (goodIn_of _ (by decide +kernel)) ggX4_tryWelded_X4_tryButtons
theorem dX4_tryWelded_0 : decode cX4_tryWelded 0 = .ok (.aload_n 0, 1) := by decide +kernel
theorem dX4_tryWelded_1 : decode cX4_tryWelded 1 = .ok (.iconst 0, 1) := by decide +kernel
theorem dX4_tryWelded_2 : decode cX4_tryWelded 2 = .ok (.invokevirtual 164, 3) := by decide +kernel
theorem dX4_tryWelded_5 : decode cX4_tryWelded 5 = .ok (.aload_n 0, 1) := by decide +kernel
theorem dX4_tryWelded_6 : decode cX4_tryWelded 6 = .ok (.getfield 16, 3) := by decide +kernel
theorem dX4_tryWelded_9 : decode cX4_tryWelded 9 = .ok (.dup, 1) := by decide +kernel
theorem dX4_tryWelded_10 : decode cX4_tryWelded 10 = .ok (.getfield 95, 3) := by decide +kernel
theorem dX4_tryWelded_13 : decode cX4_tryWelded 13 = .ok (.iconst 1, 1) := by decide +kernel
theorem dX4_tryWelded_14 : decode cX4_tryWelded 14 = .ok (.iload_n 1, 1) := by decide +kernel
theorem dX4_tryWelded_15 : decode cX4_tryWelded 15 = .ok (.ishl, 1) := by decide +kernel
theorem dX4_tryWelded_16 : decode cX4_tryWelded 16 = .ok (.ior, 1) := by decide +kernel
theorem dX4_tryWelded_17 : decode cX4_tryWelded 17 = .ok (.putfield 95, 3) := by decide +kernel
theorem dX4_tryWelded_20 : decode cX4_tryWelded 20 = .ok (.aload_n 0, 1) := by decide +kernel
theorem dX4_tryWelded_21 : decode cX4_tryWelded 21 = .ok (.getfield 16, 3) := by decide +kernel
theorem dX4_tryWelded_24 : decode cX4_tryWelded 24 = .ok (.dup, 1) := by decide +kernel
theorem dX4_tryWelded_25 : decode cX4_tryWelded 25 = .ok (.getfield 98, 3) := by decide +kernel
theorem dX4_tryWelded_28 : decode cX4_tryWelded 28 = .ok (.iconst 1, 1) := by decide +kernel
theorem dX4_tryWelded_29 : decode cX4_tryWelded 29 = .ok (.iload_n 1, 1) := by decide +kernel
theorem dX4_tryWelded_30 : decode cX4_tryWelded 30 = .ok (.ishl, 1) := by decide +kernel
theorem dX4_tryWelded_31 : decode cX4_tryWelded 31 = .ok (.ior, 1) := by decide +kernel
theorem dX4_tryWelded_32 : decode cX4_tryWelded 32 = .ok (.putfield 98, 3) := by decide +kernel
theorem dX4_tryWelded_35 : decode cX4_tryWelded 35 = .ok (.return_, 1) := by decide +kernel
set_option maxRecDepth 20000 in
theorem ggX4_isUpIn_X4_isIn : GoodIn wsX4_isUpIn wsX4_isIn := goodIn_r _ [4, 5, 6, 3, 7] (by decide +kernel) (by decide +kernel)
set_option maxRecDepth 20000 in
theorem gX4_isUpIn_X4_isIn : GoodIn wsX4_isUpIn (va_wsS RX4 88 yX4_isIn wsX4_isIn) := goodIn_app (goodIn_of _ (by decide +kernel)) ggX4_isUpIn_X4_isIn
theorem dX4_isUpIn_0 : decode cX4_isUpIn 0 = .ok (.iload_n 0, 1) := by decide +kernel
theorem dX4_isUpIn_1 : decode cX4_isUpIn 1 = .ok (.bipush (-6), 2) := by decide +kernel
theorem dX4_isUpIn_3 : decode cX4_isUpIn 3 = .ok (.if_icmp .eq 15, 3) := by decide +kernel
theorem dX4_isUpIn_6 : decode cX4_isUpIn 6 = .ok (.iload_n 0, 1) := by decide +kernel
theorem dX4_isUpIn_7 : decode cX4_isUpIn 7 = .ok (.iload_n 1, 1) := by decide +kernel
theorem dX4_isUpIn_8 : decode cX4_isUpIn 8 = .ok (.invokestatic 88, 3) := by decide +kernel
theorem dX4_isUpIn_11 : decode cX4_isUpIn 11 = .ok (.ifCond .eq 7, 3) := by decide +kernel
theorem dX4_isUpIn_14 : decode cX4_isUpIn 14 = .ok (.iconst 1, 1) := by decide +kernel
theorem dX4_isUpIn_15 : decode cX4_isUpIn 15 = .ok (.goto 4, 3) := by decide +kernel
theorem dX4_isUpIn_18 : decode cX4_isUpIn 18 = .ok (.iconst 0, 1) := by decide +kernel
theorem dX4_isUpIn_19 : decode cX4_isUpIn 19 = .ok (.ireturn, 1) := by decide +kernel
set_option maxRecDepth 20000 in
theorem ggX4_isRelay_X4_isWithin : GoodIn wsX4_isRelay wsX4_isWithin := goodIn_r _ [4] (by decide +kernel) (by decide +kernel)
set_option maxRecDepth 20000 in
theorem gX4_isRelay_X4_isWithin : GoodIn wsX4_isRelay (va_wsS RX4 52 yX4_isWithin wsX4_isWithin) := goodIn_app (goodIn_of _ (by decide +kernel)) ggX4_isRelay_X4_isWithin
theorem dX4_isRelay_0 : decode cX4_isRelay 0 = .ok (.iload_n 0, 1) := by decide +kernel
theorem dX4_isRelay_1 : decode cX4_isRelay 1 = .ok (.iconst 0, 1) := by decide +kernel
theorem dX4_isRelay_2 : decode cX4_isRelay 2 = .ok (.bipush 9, 2) := by decide +kernel
theorem dX4_isRelay_4 : decode cX4_isRelay 4 = .ok (.invokestatic 52, 3) := by decide +kernel
theorem dX4_isRelay_7 : decode cX4_isRelay 7 = .ok (.ireturn, 1) := by decide +kernel
set_option maxRecDepth 20000 in
theorem ggX4_isButtonSet_X4_isWithin : GoodIn wsX4_isButtonSet wsX4_isWithin := goodIn_r _ [4] (by decide +kernel) (by decide +kernel)
set_option maxRecDepth 20000 in
theorem gX4_isButtonSet_X4_isWithin : GoodIn wsX4_isButtonSet (va_wsS RX4 52 yX4_isWithin wsX4_isWithin) := goodIn_app (goodIn_of _ (by decide +kernel)) ggX4_isButtonSet_X4_isWithin
theorem dX4_isButtonSet_0 : decode cX4_isButtonSet 0 = .ok (.iload_n 0, 1) := by decide +kernel
theorem dX4_isButtonSet_1 : decode cX4_isButtonSet 1 = .ok (.iconst 0, 1) := by decide +kernel
theorem dX4_isButtonSet_2 : decode cX4_isButtonSet 2 = .ok (.bipush 63, 2) := by decide +kernel
theorem dX4_isButtonSet_4 : decode cX4_isButtonSet 4 = .ok (.invokestatic 52, 3) := by decide +kernel
theorem dX4_isButtonSet_7 : decode cX4_isButtonSet 7 = .ok (.ireturn, 1) := by decide +kernel
theorem dX4_isWithin_0 : decode cX4_isWithin 0 = .ok (.iload_n 0, 1) := by decide +kernel
theorem dX4_isWithin_1 : decode cX4_isWithin 1 = .ok (.iload_n 1, 1) := by decide +kernel
theorem dX4_isWithin_2 : decode cX4_isWithin 2 = .ok (.if_icmp .lt 12, 3) := by decide +kernel
theorem dX4_isWithin_5 : decode cX4_isWithin 5 = .ok (.iload_n 0, 1) := by decide +kernel
theorem dX4_isWithin_6 : decode cX4_isWithin 6 = .ok (.iload_n 2, 1) := by decide +kernel
theorem dX4_isWithin_7 : decode cX4_isWithin 7 = .ok (.if_icmp .gt 7, 3) := by decide +kernel
theorem dX4_isWithin_10 : decode cX4_isWithin 10 = .ok (.iconst 1, 1) := by decide +kernel
theorem dX4_isWithin_11 : decode cX4_isWithin 11 = .ok (.goto 4, 3) := by decide +kernel
theorem dX4_isWithin_14 : decode cX4_isWithin 14 = .ok (.iconst 0, 1) := by decide +kernel
theorem dX4_isWithin_15 : decode cX4_isWithin 15 = .ok (.ireturn, 1) := by decide +kernel
set_option maxRecDepth 20000 in
theorem ggX4_isIn_X4_bit : GoodIn wsX4_isIn wsX4_bit := goodIn_r _ [4] (by decide +kernel) (by decide +kernel)
set_option maxRecDepth 20000 in
theorem gX4_isIn_X4_bit : GoodIn wsX4_isIn (va_wsS RX4 114 yX4_bit wsX4_bit) := goodIn_app (goodIn_of _ (by decide +kernel)) ggX4_isIn_X4_bit
theorem dX4_isIn_0 : decode cX4_isIn 0 = .ok (.iload_n 0, 1) := by decide +kernel
theorem dX4_isIn_1 : decode cX4_isIn 1 = .ok (.iload_n 1, 1) := by decide +kernel
theorem dX4_isIn_2 : decode cX4_isIn 2 = .ok (.invokestatic 114, 3) := by decide +kernel
theorem dX4_isIn_5 : decode cX4_isIn 5 = .ok (.iconst 1, 1) := by decide +kernel
theorem dX4_isIn_6 : decode cX4_isIn 6 = .ok (.if_icmp .ne 7, 3) := by decide +kernel
theorem dX4_isIn_9 : decode cX4_isIn 9 = .ok (.iconst 1, 1) := by decide +kernel
theorem dX4_isIn_10 : decode cX4_isIn 10 = .ok (.goto 4, 3) := by decide +kernel
theorem dX4_isIn_13 : decode cX4_isIn 13 = .ok (.iconst 0, 1) := by decide +kernel
theorem dX4_isIn_14 : decode cX4_isIn 14 = .ok (.ireturn, 1) := by decide +kernel
theorem dX4_bit_0 : decode cX4_bit 0 = .ok (.iload_n 0, 1) := by decide +kernel
theorem dX4_bit_1 : decode cX4_bit 1 = .ok (.iload_n 1, 1) := by decide +kernel
theorem dX4_bit_2 : decode cX4_bit 2 = .ok (.ishr, 1) := by decide +kernel
theorem dX4_bit_3 : decode cX4_bit 3 = .ok (.iconst 1, 1) := by decide +kernel
theorem dX4_bit_4 : decode cX4_bit 4 = .ok (.iand, 1) := by decide +kernel
theorem dX4_bit_5 : decode cX4_bit 5 = .ok (.ireturn, 1) := by decide +kernel
theorem dX4_placeOf_0 : decode cX4_placeOf 0 = .ok (.iload_n 0, 1) := by decide +kernel
theorem dX4_placeOf_1 : decode cX4_placeOf 1 = .ok (.bipush 6, 2) := by decide +kernel
theorem dX4_placeOf_3 : decode cX4_placeOf 3 = .ok (.imul, 1) := by decide +kernel
theorem dX4_placeOf_4 : decode cX4_placeOf 4 = .ok (.iload_n 1, 1) := by decide +kernel
theorem dX4_placeOf_5 : decode cX4_placeOf 5 = .ok (.iadd, 1) := by decide +kernel
theorem dX4_placeOf_6 : decode cX4_placeOf 6 = .ok (.ireturn, 1) := by decide +kernel
set_option maxRecDepth 20000 in
theorem ggX5_init_X5_setPart : GoodIn wsX5_init wsX5_setPart := goodIn_r _ [16, 5, 17, 18, 19, 20, 21, 22, 23, 24, 25, 26, 27, 28] (by decide +kernel) (by decide +kernel)
set_option maxRecDepth 20000 in
theorem gX5_init_X5_setPart : GoodIn wsX5_init (wsV RX5 31 RX5 yX5_setPart wsX5_setPart) := goodIn_app (goodIn_of _ (by decide +kernel)) ggX5_init_X5_setPart
theorem dX5_init_0 : decode cX5_init 0 = .ok (.aload_n 0, 1) := by decide +kernel
theorem dX5_init_1 : decode cX5_init 1 = .ok (.invokespecial 1, 3) := by decide +kernel
theorem dX5_init_4 : decode cX5_init 4 = .ok (.aload_n 0, 1) := by decide +kernel
theorem dX5_init_5 : decode cX5_init 5 = .ok (.sipush 236, 3) := by decide +kernel
theorem dX5_init_8 : decode cX5_init 8 = .ok (.newarray .int, 2) := by decide +kernel
theorem dX5_init_10 : decode cX5_init 10 = .ok (.putfield 7, 3) := by decide +kernel
theorem dX5_init_13 : decode cX5_init 13 = .ok (.aload_n 0, 1) := by decide +kernel
theorem dX5_init_14 : decode cX5_init 14 = .ok (.sipush 236, 3) := by decide +kernel
theorem dX5_init_17 : decode cX5_init 17 = .ok (.newarray .int, 2) := by decide +kernel
theorem dX5_init_19 : decode cX5_init 19 = .ok (.putfield 13, 3) := by decide +kernel
theorem dX5_init_22 : decode cX5_init 22 = .ok (.aload_n 0, 1) := by decide +kernel
theorem dX5_init_23 : decode cX5_init 23 = .ok (.sipush 1416, 3) := by decide +kernel
theorem dX5_init_26 : decode cX5_init 26 = .ok (.newarray .int, 2) := by decide +kernel
theorem dX5_init_28 : decode cX5_init 28 = .ok (.putfield 16, 3) := by decide +kernel
theorem dX5_init_31 : decode cX5_init 31 = .ok (.aload_n 0, 1) := by decide +kernel
theorem dX5_init_32 : decode cX5_init 32 = .ok (.sipush 472, 3) := by decide +kernel
theorem dX5_init_35 : decode cX5_init 35 = .ok (.newarray .int, 2) := by decide +kernel
theorem dX5_init_37 : decode cX5_init 37 = .ok (.putfield 19, 3) := by decide +kernel
theorem dX5_init_40 : decode cX5_init 40 = .ok (.aload_n 0, 1) := by decide +kernel
theorem dX5_init_41 : decode cX5_init 41 = .ok (.iconst 2, 1) := by decide +kernel
theorem dX5_init_42 : decode cX5_init 42 = .ok (.newarray .int, 2) := by decide +kernel
theorem dX5_init_44 : decode cX5_init 44 = .ok (.putfield 22, 3) := by decide +kernel
theorem dX5_init_47 : decode cX5_init 47 = .ok (.aload_n 0, 1) := by decide +kernel
theorem dX5_init_48 : decode cX5_init 48 = .ok (.bipush 64, 2) := by decide +kernel
theorem dX5_init_50 : decode cX5_init 50 = .ok (.newarray .int, 2) := by decide +kernel
theorem dX5_init_52 : decode cX5_init 52 = .ok (.putfield 25, 3) := by decide +kernel
theorem dX5_init_55 : decode cX5_init 55 = .ok (.aload_n 0, 1) := by decide +kernel
theorem dX5_init_56 : decode cX5_init 56 = .ok (.bipush 18, 2) := by decide +kernel
theorem dX5_init_58 : decode cX5_init 58 = .ok (.newarray .int, 2) := by decide +kernel
theorem dX5_init_60 : decode cX5_init 60 = .ok (.putfield 28, 3) := by decide +kernel
theorem dX5_init_63 : decode cX5_init 63 = .ok (.iconst 0, 1) := by decide +kernel
theorem dX5_init_64 : decode cX5_init 64 = .ok (.istore_n 1, 1) := by decide +kernel
theorem dX5_init_65 : decode cX5_init 65 = .ok (.iload_n 1, 1) := by decide +kernel
theorem dX5_init_66 : decode cX5_init 66 = .ok (.bipush 10, 2) := by decide +kernel
theorem dX5_init_68 : decode cX5_init 68 = .ok (.if_icmp .ge 23, 3) := by decide +kernel
theorem dX5_init_71 : decode cX5_init 71 = .ok (.aload_n 0, 1) := by decide +kernel
theorem dX5_init_72 : decode cX5_init 72 = .ok (.iload_n 1, 1) := by decide +kernel
theorem dX5_init_73 : decode cX5_init 73 = .ok (.iconst 0, 1) := by decide +kernel
theorem dX5_init_74 : decode cX5_init 74 = .ok (.iconst 2, 1) := by decide +kernel
theorem dX5_init_75 : decode cX5_init 75 = .ok (.invokevirtual 31, 3) := by decide +kernel
theorem dX5_init_78 : decode cX5_init 78 = .ok (.aload_n 0, 1) := by decide +kernel
theorem dX5_init_79 : decode cX5_init 79 = .ok (.iload_n 1, 1) := by decide +kernel
theorem dX5_init_80 : decode cX5_init 80 = .ok (.iconst 1, 1) := by decide +kernel
theorem dX5_init_81 : decode cX5_init 81 = .ok (.iconst 1, 1) := by decide +kernel
theorem dX5_init_82 : decode cX5_init 82 = .ok (.invokevirtual 31, 3) := by decide +kernel
theorem dX5_init_85 : decode cX5_init 85 = .ok (.iinc 1 1, 3) := by decide +kernel
theorem dX5_init_88 : decode cX5_init 88 = .ok (.goto (-23), 3) := by decide +kernel
theorem dX5_init_91 : decode cX5_init 91 = .ok (.return_, 1) := by decide +kernel
theorem dX5_moves_0 : decode cX5_moves 0 = .ok (.iconst 0, 1) := by decide +kernel
theorem dX5_moves_1 : decode cX5_moves 1 = .ok (.istore 4, 2) := by decide +kernel
theorem dX5_moves_3 : decode cX5_moves 3 = .ok (.iload 4, 2) := by decide +kernel
theorem dX5_moves_5 : decode cX5_moves 5 = .ok (.sipush 236, 3) := by decide +kernel
theorem dX5_moves_8 : decode cX5_moves 8 = .ok (.if_icmp .ge 21, 3) := by decide +kernel
theorem dX5_moves_11 : decode cX5_moves 11 = .ok (.aload_n 2, 1) := by decide +kernel
theorem dX5_moves_12 : decode cX5_moves 12 = .ok (.iload_n 3, 1) := by decide +kernel
theorem dX5_moves_13 : decode cX5_moves 13 = .ok (.iload 4, 2) := by decide +kernel
theorem dX5_moves_15 : decode cX5_moves 15 = .ok (.iadd, 1) := by decide +kernel
theorem dX5_moves_16 : decode cX5_moves 16 = .ok (.aload_n 0, 1) := by decide +kernel
theorem dX5_moves_17 : decode cX5_moves 17 = .ok (.iload_n 1, 1) := by decide +kernel
theorem dX5_moves_18 : decode cX5_moves 18 = .ok (.iload 4, 2) := by decide +kernel
theorem dX5_moves_20 : decode cX5_moves 20 = .ok (.iadd, 1) := by decide +kernel
theorem dX5_moves_21 : decode cX5_moves 21 = .ok (.iaload, 1) := by decide +kernel
theorem dX5_moves_22 : decode cX5_moves 22 = .ok (.iastore, 1) := by decide +kernel
theorem dX5_moves_23 : decode cX5_moves 23 = .ok (.iinc 4 1, 3) := by decide +kernel
theorem dX5_moves_26 : decode cX5_moves 26 = .ok (.goto (-23), 3) := by decide +kernel
theorem dX5_moves_29 : decode cX5_moves 29 = .ok (.return_, 1) := by decide +kernel
theorem dX5_within_0 : decode cX5_within 0 = .ok (.iload_n 0, 1) := by decide +kernel
theorem dX5_within_1 : decode cX5_within 1 = .ok (.iload_n 1, 1) := by decide +kernel
theorem dX5_within_2 : decode cX5_within 2 = .ok (.if_icmp .lt 12, 3) := by decide +kernel
theorem dX5_within_5 : decode cX5_within 5 = .ok (.iload_n 0, 1) := by decide +kernel
theorem dX5_within_6 : decode cX5_within 6 = .ok (.iload_n 2, 1) := by decide +kernel
theorem dX5_within_7 : decode cX5_within 7 = .ok (.if_icmp .gt 7, 3) := by decide +kernel
theorem dX5_within_10 : decode cX5_within 10 = .ok (.iconst 1, 1) := by decide +kernel
theorem dX5_within_11 : decode cX5_within 11 = .ok (.goto 4, 3) := by decide +kernel
theorem dX5_within_14 : decode cX5_within 14 = .ok (.iconst 0, 1) := by decide +kernel
theorem dX5_within_15 : decode cX5_within 15 = .ok (.ireturn, 1) := by decide +kernel
set_option maxRecDepth 20000 in
theorem ggX5_record_X5_moves : GoodIn wsX5_record wsX5_moves := goodIn_r _ [7] (by decide +kernel) (by decide +kernel)
set_option maxRecDepth 20000 in
theorem gX5_record_X5_moves : GoodIn wsX5_record (va_wsS RX5 39 yX5_moves wsX5_moves) := goodIn_app (goodIn_of _ (by decide +kernel)) ggX5_record_X5_moves
theorem dX5_record_0 : decode cX5_record 0 = .ok (.aload_n 0, 1) := by decide +kernel
theorem dX5_record_1 : decode cX5_record 1 = .ok (.getfield 35, 3) := by decide +kernel
theorem dX5_record_4 : decode cX5_record 4 = .ok (.bipush 6, 2) := by decide +kernel
theorem dX5_record_6 : decode cX5_record 6 = .ok (.if_icmp .ne 44, 3) := by decide +kernel
theorem dX5_record_9 : decode cX5_record 9 = .ok (.iconst 0, 1) := by decide +kernel
theorem dX5_record_10 : decode cX5_record 10 = .ok (.istore_n 1, 1) := by decide +kernel
theorem dX5_record_11 : decode cX5_record 11 = .ok (.iload_n 1, 1) := by decide +kernel
theorem dX5_record_12 : decode cX5_record 12 = .ok (.sipush 1180, 3) := by decide +kernel
theorem dX5_record_15 : decode cX5_record 15 = .ok (.if_icmp .ge 25, 3) := by decide +kernel
theorem dX5_record_18 : decode cX5_record 18 = .ok (.aload_n 0, 1) := by decide +kernel
theorem dX5_record_19 : decode cX5_record 19 = .ok (.getfield 16, 3) := by decide +kernel
theorem dX5_record_22 : decode cX5_record 22 = .ok (.iload_n 1, 1) := by decide +kernel
theorem dX5_record_23 : decode cX5_record 23 = .ok (.aload_n 0, 1) := by decide +kernel
theorem dX5_record_24 : decode cX5_record 24 = .ok (.getfield 16, 3) := by decide +kernel
theorem dX5_record_27 : decode cX5_record 27 = .ok (.iload_n 1, 1) := by decide +kernel
theorem dX5_record_28 : decode cX5_record 28 = .ok (.sipush 236, 3) := by decide +kernel
theorem dX5_record_31 : decode cX5_record 31 = .ok (.iadd, 1) := by decide +kernel
theorem dX5_record_32 : decode cX5_record 32 = .ok (.iaload, 1) := by decide +kernel
theorem dX5_record_33 : decode cX5_record 33 = .ok (.iastore, 1) := by decide +kernel
theorem dX5_record_34 : decode cX5_record 34 = .ok (.iinc 1 1, 3) := by decide +kernel
theorem dX5_record_37 : decode cX5_record 37 = .ok (.goto (-26), 3) := by decide +kernel
theorem dX5_record_40 : decode cX5_record 40 = .ok (.aload_n 0, 1) := by decide +kernel
theorem dX5_record_41 : decode cX5_record 41 = .ok (.dup, 1) := by decide +kernel
theorem dX5_record_42 : decode cX5_record 42 = .ok (.getfield 35, 3) := by decide +kernel
theorem dX5_record_45 : decode cX5_record 45 = .ok (.iconst 1, 1) := by decide +kernel
theorem dX5_record_46 : decode cX5_record 46 = .ok (.isub, 1) := by decide +kernel
theorem dX5_record_47 : decode cX5_record 47 = .ok (.putfield 35, 3) := by decide +kernel
theorem dX5_record_50 : decode cX5_record 50 = .ok (.aload_n 0, 1) := by decide +kernel
theorem dX5_record_51 : decode cX5_record 51 = .ok (.getfield 7, 3) := by decide +kernel
theorem dX5_record_54 : decode cX5_record 54 = .ok (.iconst 0, 1) := by decide +kernel
theorem dX5_record_55 : decode cX5_record 55 = .ok (.aload_n 0, 1) := by decide +kernel
theorem dX5_record_56 : decode cX5_record 56 = .ok (.getfield 16, 3) := by decide +kernel
theorem dX5_record_59 : decode cX5_record 59 = .ok (.aload_n 0, 1) := by decide +kernel
theorem dX5_record_60 : decode cX5_record 60 = .ok (.getfield 35, 3) := by decide +kernel
theorem dX5_record_63 : decode cX5_record 63 = .ok (.sipush 236, 3) := by decide +kernel
theorem dX5_record_66 : decode cX5_record 66 = .ok (.imul, 1) := by decide +kernel
theorem dX5_record_67 : decode cX5_record 67 = .ok (.invokestatic 39, 3) := by decide +kernel
theorem dX5_record_70 : decode cX5_record 70 = .ok (.aload_n 0, 1) := by decide +kernel
theorem dX5_record_71 : decode cX5_record 71 = .ok (.dup, 1) := by decide +kernel
theorem dX5_record_72 : decode cX5_record 72 = .ok (.getfield 35, 3) := by decide +kernel
theorem dX5_record_75 : decode cX5_record 75 = .ok (.iconst 1, 1) := by decide +kernel
theorem dX5_record_76 : decode cX5_record 76 = .ok (.iadd, 1) := by decide +kernel
theorem dX5_record_77 : decode cX5_record 77 = .ok (.putfield 35, 3) := by decide +kernel
theorem dX5_record_80 : decode cX5_record 80 = .ok (.return_, 1) := by decide +kernel
set_option maxRecDepth 20000 in
theorem ggX5_isRelay_X5_within : GoodIn wsX5_isRelay wsX5_within := goodIn_r _ [4] (by decide +kernel) (by decide +kernel)
set_option maxRecDepth 20000 in
theorem gX5_isRelay_X5_within : GoodIn wsX5_isRelay (va_wsS RX5 43 yX5_within wsX5_within) := goodIn_app (goodIn_of _ (by decide +kernel)) ggX5_isRelay_X5_within
theorem dX5_isRelay_0 : decode cX5_isRelay 0 = .ok (.iload_n 0, 1) := by decide +kernel
theorem dX5_isRelay_1 : decode cX5_isRelay 1 = .ok (.iconst 0, 1) := by decide +kernel
theorem dX5_isRelay_2 : decode cX5_isRelay 2 = .ok (.bipush 9, 2) := by decide +kernel
theorem dX5_isRelay_4 : decode cX5_isRelay 4 = .ok (.invokestatic 43, 3) := by decide +kernel
theorem dX5_isRelay_7 : decode cX5_isRelay 7 = .ok (.ireturn, 1) := by decide +kernel
theorem dX5_part_0 : decode cX5_part 0 = .ok (.aload_n 0, 1) := by decide +kernel
theorem dX5_part_1 : decode cX5_part 1 = .ok (.getfield 7, 3) := by decide +kernel
theorem dX5_part_4 : decode cX5_part 4 = .ok (.bipush 6, 2) := by decide +kernel
theorem dX5_part_6 : decode cX5_part 6 = .ok (.bipush 23, 2) := by decide +kernel
theorem dX5_part_8 : decode cX5_part 8 = .ok (.iload_n 1, 1) := by decide +kernel
theorem dX5_part_9 : decode cX5_part 9 = .ok (.imul, 1) := by decide +kernel
theorem dX5_part_10 : decode cX5_part 10 = .ok (.iadd, 1) := by decide +kernel
theorem dX5_part_11 : decode cX5_part 11 = .ok (.iload_n 2, 1) := by decide +kernel
theorem dX5_part_12 : decode cX5_part 12 = .ok (.iadd, 1) := by decide +kernel
theorem dX5_part_13 : decode cX5_part 13 = .ok (.iaload, 1) := by decide +kernel
theorem dX5_part_14 : decode cX5_part 14 = .ok (.ireturn, 1) := by decide +kernel
theorem dX5_setPart_0 : decode cX5_setPart 0 = .ok (.aload_n 0, 1) := by decide +kernel
theorem dX5_setPart_1 : decode cX5_setPart 1 = .ok (.getfield 7, 3) := by decide +kernel
theorem dX5_setPart_4 : decode cX5_setPart 4 = .ok (.bipush 6, 2) := by decide +kernel
theorem dX5_setPart_6 : decode cX5_setPart 6 = .ok (.bipush 23, 2) := by decide +kernel
theorem dX5_setPart_8 : decode cX5_setPart 8 = .ok (.iload_n 1, 1) := by decide +kernel
theorem dX5_setPart_9 : decode cX5_setPart 9 = .ok (.imul, 1) := by decide +kernel
theorem dX5_setPart_10 : decode cX5_setPart 10 = .ok (.iadd, 1) := by decide +kernel
theorem dX5_setPart_11 : decode cX5_setPart 11 = .ok (.iload_n 2, 1) := by decide +kernel
theorem dX5_setPart_12 : decode cX5_setPart 12 = .ok (.iadd, 1) := by decide +kernel
theorem dX5_setPart_13 : decode cX5_setPart 13 = .ok (.iload_n 3, 1) := by decide +kernel
theorem dX5_setPart_14 : decode cX5_setPart 14 = .ok (.iastore, 1) := by decide +kernel
theorem dX5_setPart_15 : decode cX5_setPart 15 = .ok (.return_, 1) := by decide +kernel
theorem dX5_has_0 : decode cX5_has 0 = .ok (.iload_n 0, 1) := by decide +kernel
theorem dX5_has_1 : decode cX5_has 1 = .ok (.iload_n 1, 1) := by decide +kernel
theorem dX5_has_2 : decode cX5_has 2 = .ok (.ishr, 1) := by decide +kernel
theorem dX5_has_3 : decode cX5_has 3 = .ok (.iconst 1, 1) := by decide +kernel
theorem dX5_has_4 : decode cX5_has 4 = .ok (.iand, 1) := by decide +kernel
theorem dX5_has_5 : decode cX5_has 5 = .ok (.iconst 1, 1) := by decide +kernel
theorem dX5_has_6 : decode cX5_has 6 = .ok (.if_icmp .ne 7, 3) := by decide +kernel
theorem dX5_has_9 : decode cX5_has 9 = .ok (.iconst 1, 1) := by decide +kernel
theorem dX5_has_10 : decode cX5_has 10 = .ok (.goto 4, 3) := by decide +kernel
theorem dX5_has_13 : decode cX5_has 13 = .ok (.iconst 0, 1) := by decide +kernel
theorem dX5_has_14 : decode cX5_has 14 = .ok (.ireturn, 1) := by decide +kernel
set_option maxRecDepth 20000 in
theorem ggX5_ofBranch_X5_part : GoodIn wsX5_ofBranch wsX5_part := goodIn_r _ [5, 6, 7, 8, 9, 10, 11, 12, 13, 14, 15, 16, 17, 18] (by decide +kernel) (by decide +kernel)
set_option maxRecDepth 20000 in
theorem gX5_ofBranch_X5_part : GoodIn wsX5_ofBranch (wsV RX5 47 RX5 yX5_part wsX5_part) := goodIn_app (goodIn_of _ (by decide +kernel)) ggX5_ofBranch_X5_part
theorem dX5_ofBranch_0 : decode cX5_ofBranch 0 = .ok (.aload_n 0, 1) := by decide +kernel
theorem dX5_ofBranch_1 : decode cX5_ofBranch 1 = .ok (.iload_n 1, 1) := by decide +kernel
theorem dX5_ofBranch_2 : decode cX5_ofBranch 2 = .ok (.iconst 5, 1) := by decide +kernel
theorem dX5_ofBranch_3 : decode cX5_ofBranch 3 = .ok (.iconst 3, 1) := by decide +kernel
theorem dX5_ofBranch_4 : decode cX5_ofBranch 4 = .ok (.iload_n 2, 1) := by decide +kernel
theorem dX5_ofBranch_5 : decode cX5_ofBranch 5 = .ok (.imul, 1) := by decide +kernel
theorem dX5_ofBranch_6 : decode cX5_ofBranch 6 = .ok (.iadd, 1) := by decide +kernel
theorem dX5_ofBranch_7 : decode cX5_ofBranch 7 = .ok (.iload_n 3, 1) := by decide +kernel
theorem dX5_ofBranch_8 : decode cX5_ofBranch 8 = .ok (.iadd, 1) := by decide +kernel
theorem dX5_ofBranch_9 : decode cX5_ofBranch 9 = .ok (.invokevirtual 47, 3) := by decide +kernel
theorem dX5_ofBranch_12 : decode cX5_ofBranch 12 = .ok (.ireturn, 1) := by decide +kernel
set_option maxRecDepth 20000 in
theorem ggX5_isClosed_X5_ofBranch : GoodIn wsX5_isClosed wsX5_ofBranch := goodIn_r _ [6, 7, 8, 9, 5, 10, 1, 11, 12, 13, 14, 15, 16, 17, 18, 19, 20, 21, 22] (by decide +kernel) (by decide +kernel)
set_option maxRecDepth 20000 in
theorem gX5_isClosed_X5_ofBranch : GoodIn wsX5_isClosed (wsV RX5 51 RX5 yX5_ofBranch wsX5_ofBranch) := goodIn_app (goodIn_of _ (by decide +kernel)) ggX5_isClosed_X5_ofBranch
theorem dX5_isClosed_0 : decode cX5_isClosed 0 = .ok (.aload_n 0, 1) := by decide +kernel
theorem dX5_isClosed_1 : decode cX5_isClosed 1 = .ok (.getfield 7, 3) := by decide +kernel
theorem dX5_isClosed_4 : decode cX5_isClosed 4 = .ok (.iconst 0, 1) := by decide +kernel
theorem dX5_isClosed_5 : decode cX5_isClosed 5 = .ok (.iaload, 1) := by decide +kernel
theorem dX5_isClosed_6 : decode cX5_isClosed 6 = .ok (.aload_n 0, 1) := by decide +kernel
theorem dX5_isClosed_7 : decode cX5_isClosed 7 = .ok (.getfield 7, 3) := by decide +kernel
theorem dX5_isClosed_10 : decode cX5_isClosed 10 = .ok (.iconst 2, 1) := by decide +kernel
theorem dX5_isClosed_11 : decode cX5_isClosed 11 = .ok (.iaload, 1) := by decide +kernel
theorem dX5_isClosed_12 : decode cX5_isClosed 12 = .ok (.bipush 10, 2) := by decide +kernel
theorem dX5_isClosed_14 : decode cX5_isClosed 14 = .ok (.ishl, 1) := by decide +kernel
theorem dX5_isClosed_15 : decode cX5_isClosed 15 = .ok (.ior, 1) := by decide +kernel
theorem dX5_isClosed_16 : decode cX5_isClosed 16 = .ok (.istore_n 3, 1) := by decide +kernel
theorem dX5_isClosed_17 : decode cX5_isClosed 17 = .ok (.aload_n 0, 1) := by decide +kernel
theorem dX5_isClosed_18 : decode cX5_isClosed 18 = .ok (.iload_n 1, 1) := by decide +kernel
theorem dX5_isClosed_19 : decode cX5_isClosed 19 = .ok (.iload_n 2, 1) := by decide +kernel
theorem dX5_isClosed_20 : decode cX5_isClosed 20 = .ok (.iconst 0, 1) := by decide +kernel
theorem dX5_isClosed_21 : decode cX5_isClosed 21 = .ok (.invokevirtual 51, 3) := by decide +kernel
theorem dX5_isClosed_24 : decode cX5_isClosed 24 = .ok (.iload_n 3, 1) := by decide +kernel
theorem dX5_isClosed_25 : decode cX5_isClosed 25 = .ok (.iconst (-1), 1) := by decide +kernel
theorem dX5_isClosed_26 : decode cX5_isClosed 26 = .ok (.ixor, 1) := by decide +kernel
theorem dX5_isClosed_27 : decode cX5_isClosed 27 = .ok (.iand, 1) := by decide +kernel
theorem dX5_isClosed_28 : decode cX5_isClosed 28 = .ok (.ifCond .ne 19, 3) := by decide +kernel
theorem dX5_isClosed_31 : decode cX5_isClosed 31 = .ok (.aload_n 0, 1) := by decide +kernel
theorem dX5_isClosed_32 : decode cX5_isClosed 32 = .ok (.iload_n 1, 1) := by decide +kernel
theorem dX5_isClosed_33 : decode cX5_isClosed 33 = .ok (.iload_n 2, 1) := by decide +kernel
theorem dX5_isClosed_34 : decode cX5_isClosed 34 = .ok (.iconst 1, 1) := by decide +kernel
theorem dX5_isClosed_35 : decode cX5_isClosed 35 = .ok (.invokevirtual 51, 3) := by decide +kernel
theorem dX5_isClosed_38 : decode cX5_isClosed 38 = .ok (.iload_n 3, 1) := by decide +kernel
theorem dX5_isClosed_39 : decode cX5_isClosed 39 = .ok (.iand, 1) := by decide +kernel
theorem dX5_isClosed_40 : decode cX5_isClosed 40 = .ok (.ifCond .ne 7, 3) := by decide +kernel
theorem dX5_isClosed_43 : decode cX5_isClosed 43 = .ok (.iconst 1, 1) := by decide +kernel
theorem dX5_isClosed_44 : decode cX5_isClosed 44 = .ok (.goto 4, 3) := by decide +kernel
theorem dX5_isClosed_47 : decode cX5_isClosed 47 = .ok (.iconst 0, 1) := by decide +kernel
theorem dX5_isClosed_48 : decode cX5_isClosed 48 = .ok (.ireturn, 1) := by decide +kernel
set_option maxRecDepth 20000 in
theorem ggX5_isFed_X5_part : GoodIn wsX5_isFed wsX5_part := goodIn_r _ [5, 6, 15, 16, 17, 18, 19, 20, 21, 22, 23, 24, 25, 26] (by decide +kernel) (by decide +kernel)
set_option maxRecDepth 20000 in
theorem gX5_isFed_X5_part : GoodIn wsX5_isFed (wsV RX5 47 RX5 yX5_part wsX5_part) := goodIn_app (goodIn_of _ (by decide +kernel)) ggX5_isFed_X5_part
set_option maxRecDepth 20000 in
theorem ggX5_isFed_X5_isClosed : GoodIn wsX5_isFed wsX5_isClosed := goodIn_r _ [10, 6, 11, 12, 13, 4, 14, 1, 2, 3, 5, 15, 16, 17, 18, 19, 20, 21, 22, 23, 24, 25, 26] (by decide +kernel) (by decide +kernel)
set_option maxRecDepth 20000 in
theorem gX5_isFed_X5_isClosed : GoodIn wsX5_isFed (wsV RX5 55 RX5 yX5_isClosed wsX5_isClosed) := goodIn_app (goodIn_of _ (by decide +kernel)) ggX5_isFed_X5_isClosed
theorem dX5_isFed_0 : decode cX5_isFed 0 = .ok (.iconst 0, 1) := by decide +kernel
theorem dX5_isFed_1 : decode cX5_isFed 1 = .ok (.istore_n 2, 1) := by decide +kernel
theorem dX5_isFed_2 : decode cX5_isFed 2 = .ok (.iconst 0, 1) := by decide +kernel
theorem dX5_isFed_3 : decode cX5_isFed 3 = .ok (.istore_n 3, 1) := by decide +kernel
theorem dX5_isFed_4 : decode cX5_isFed 4 = .ok (.iload_n 3, 1) := by decide +kernel
theorem dX5_isFed_5 : decode cX5_isFed 5 = .ok (.aload_n 0, 1) := by decide +kernel
theorem dX5_isFed_6 : decode cX5_isFed 6 = .ok (.iload_n 1, 1) := by decide +kernel
theorem dX5_isFed_7 : decode cX5_isFed 7 = .ok (.iconst 4, 1) := by decide +kernel
theorem dX5_isFed_8 : decode cX5_isFed 8 = .ok (.invokevirtual 47, 3) := by decide +kernel
theorem dX5_isFed_11 : decode cX5_isFed 11 = .ok (.if_icmp .ge 28, 3) := by decide +kernel
theorem dX5_isFed_14 : decode cX5_isFed 14 = .ok (.iload_n 2, 1) := by decide +kernel
theorem dX5_isFed_15 : decode cX5_isFed 15 = .ok (.ifCond .ne 12, 3) := by decide +kernel
theorem dX5_isFed_18 : decode cX5_isFed 18 = .ok (.aload_n 0, 1) := by decide +kernel
theorem dX5_isFed_19 : decode cX5_isFed 19 = .ok (.iload_n 1, 1) := by decide +kernel
theorem dX5_isFed_20 : decode cX5_isFed 20 = .ok (.iload_n 3, 1) := by decide +kernel
theorem dX5_isFed_21 : decode cX5_isFed 21 = .ok (.invokevirtual 55, 3) := by decide +kernel
theorem dX5_isFed_24 : decode cX5_isFed 24 = .ok (.ifCond .eq 7, 3) := by decide +kernel
theorem dX5_isFed_27 : decode cX5_isFed 27 = .ok (.iconst 1, 1) := by decide +kernel
theorem dX5_isFed_28 : decode cX5_isFed 28 = .ok (.goto 4, 3) := by decide +kernel
theorem dX5_isFed_31 : decode cX5_isFed 31 = .ok (.iconst 0, 1) := by decide +kernel
theorem dX5_isFed_32 : decode cX5_isFed 32 = .ok (.istore_n 2, 1) := by decide +kernel
theorem dX5_isFed_33 : decode cX5_isFed 33 = .ok (.iinc 3 1, 3) := by decide +kernel
theorem dX5_isFed_36 : decode cX5_isFed 36 = .ok (.goto (-32), 3) := by decide +kernel
theorem dX5_isFed_39 : decode cX5_isFed 39 = .ok (.iload_n 2, 1) := by decide +kernel
theorem dX5_isFed_40 : decode cX5_isFed 40 = .ok (.ireturn, 1) := by decide +kernel
set_option maxRecDepth 20000 in
theorem ggX5_fed_X5_isFed : GoodIn wsX5_fed wsX5_isFed := goodIn_r _ [5, 6, 7, 8, 4, 9, 10, 11, 12, 13, 14, 15, 16, 17, 18, 19, 20, 21, 22, 23, 24, 25, 26, 27, 28, 29, 30] (by decide +kernel) (by decide +kernel)
set_option maxRecDepth 20000 in
theorem gX5_fed_X5_isFed : GoodIn wsX5_fed (wsV RX5 59 RX5 yX5_isFed wsX5_isFed) := goodIn_app (goodIn_of _ (by decide +kernel)) ggX5_fed_X5_isFed
theorem dX5_fed_0 : decode cX5_fed 0 = .ok (.iconst 0, 1) := by decide +kernel
theorem dX5_fed_1 : decode cX5_fed 1 = .ok (.istore_n 1, 1) := by decide +kernel
theorem dX5_fed_2 : decode cX5_fed 2 = .ok (.iconst 0, 1) := by decide +kernel
theorem dX5_fed_3 : decode cX5_fed 3 = .ok (.istore_n 2, 1) := by decide +kernel
theorem dX5_fed_4 : decode cX5_fed 4 = .ok (.iload_n 2, 1) := by decide +kernel
theorem dX5_fed_5 : decode cX5_fed 5 = .ok (.bipush 10, 2) := by decide +kernel
theorem dX5_fed_7 : decode cX5_fed 7 = .ok (.if_icmp .ge 27, 3) := by decide +kernel
theorem dX5_fed_10 : decode cX5_fed 10 = .ok (.iload_n 1, 1) := by decide +kernel
theorem dX5_fed_11 : decode cX5_fed 11 = .ok (.aload_n 0, 1) := by decide +kernel
theorem dX5_fed_12 : decode cX5_fed 12 = .ok (.iload_n 2, 1) := by decide +kernel
theorem dX5_fed_13 : decode cX5_fed 13 = .ok (.invokevirtual 59, 3) := by decide +kernel
theorem dX5_fed_16 : decode cX5_fed 16 = .ok (.ifCond .eq 9, 3) := by decide +kernel
theorem dX5_fed_19 : decode cX5_fed 19 = .ok (.iconst 1, 1) := by decide +kernel
theorem dX5_fed_20 : decode cX5_fed 20 = .ok (.iload_n 2, 1) := by decide +kernel
theorem dX5_fed_21 : decode cX5_fed 21 = .ok (.ishl, 1) := by decide +kernel
theorem dX5_fed_22 : decode cX5_fed 22 = .ok (.goto 4, 3) := by decide +kernel
theorem dX5_fed_25 : decode cX5_fed 25 = .ok (.iconst 0, 1) := by decide +kernel
theorem dX5_fed_26 : decode cX5_fed 26 = .ok (.ior, 1) := by decide +kernel
theorem dX5_fed_27 : decode cX5_fed 27 = .ok (.istore_n 1, 1) := by decide +kernel
theorem dX5_fed_28 : decode cX5_fed 28 = .ok (.iinc 2 1, 3) := by decide +kernel
theorem dX5_fed_31 : decode cX5_fed 31 = .ok (.goto (-27), 3) := by decide +kernel
theorem dX5_fed_34 : decode cX5_fed 34 = .ok (.iload_n 1, 1) := by decide +kernel
theorem dX5_fed_35 : decode cX5_fed 35 = .ok (.ireturn, 1) := by decide +kernel
set_option maxRecDepth 20000 in
theorem ggX5_wanting_X5_fed : GoodIn wsX5_wanting wsX5_fed := goodIn_r _ [6, 7, 8, 9, 5, 10, 11, 12, 13, 14, 1, 15, 16, 17, 18, 19, 20, 21, 22, 23, 24, 25, 26, 27, 28, 29, 30, 31, 32, 33, 34] (by decide +kernel) (by decide +kernel)
set_option maxRecDepth 20000 in
theorem gX5_wanting_X5_fed : GoodIn wsX5_wanting (wsV RX5 63 RX5 yX5_fed wsX5_fed) := goodIn_app (goodIn_of _ (by decide +kernel)) ggX5_wanting_X5_fed
theorem dX5_wanting_0 : decode cX5_wanting 0 = .ok (.aload_n 0, 1) := by decide +kernel
theorem dX5_wanting_1 : decode cX5_wanting 1 = .ok (.invokevirtual 63, 3) := by decide +kernel
theorem dX5_wanting_4 : decode cX5_wanting 4 = .ok (.istore_n 1, 1) := by decide +kernel
theorem dX5_wanting_5 : decode cX5_wanting 5 = .ok (.iload_n 1, 1) := by decide +kernel
theorem dX5_wanting_6 : decode cX5_wanting 6 = .ok (.aload_n 0, 1) := by decide +kernel
theorem dX5_wanting_7 : decode cX5_wanting 7 = .ok (.getfield 7, 3) := by decide +kernel
theorem dX5_wanting_10 : decode cX5_wanting 10 = .ok (.iconst 0, 1) := by decide +kernel
theorem dX5_wanting_11 : decode cX5_wanting 11 = .ok (.iaload, 1) := by decide +kernel
theorem dX5_wanting_12 : decode cX5_wanting 12 = .ok (.ixor, 1) := by decide +kernel
theorem dX5_wanting_13 : decode cX5_wanting 13 = .ok (.aload_n 0, 1) := by decide +kernel
theorem dX5_wanting_14 : decode cX5_wanting 14 = .ok (.getfield 7, 3) := by decide +kernel
theorem dX5_wanting_17 : decode cX5_wanting 17 = .ok (.iconst 0, 1) := by decide +kernel
theorem dX5_wanting_18 : decode cX5_wanting 18 = .ok (.iaload, 1) := by decide +kernel
theorem dX5_wanting_19 : decode cX5_wanting 19 = .ok (.aload_n 0, 1) := by decide +kernel
theorem dX5_wanting_20 : decode cX5_wanting 20 = .ok (.getfield 7, 3) := by decide +kernel
theorem dX5_wanting_23 : decode cX5_wanting 23 = .ok (.iconst 1, 1) := by decide +kernel
theorem dX5_wanting_24 : decode cX5_wanting 24 = .ok (.iaload, 1) := by decide +kernel
theorem dX5_wanting_25 : decode cX5_wanting 25 = .ok (.iand, 1) := by decide +kernel
theorem dX5_wanting_26 : decode cX5_wanting 26 = .ok (.iconst (-1), 1) := by decide +kernel
theorem dX5_wanting_27 : decode cX5_wanting 27 = .ok (.ixor, 1) := by decide +kernel
theorem dX5_wanting_28 : decode cX5_wanting 28 = .ok (.iand, 1) := by decide +kernel
theorem dX5_wanting_29 : decode cX5_wanting 29 = .ok (.ireturn, 1) := by decide +kernel
set_option maxRecDepth 20000 in
theorem ggX5_moveRelay_X5_setPart : GoodIn wsX5_moveRelay wsX5_setPart := goodIn_r _ [6, 1, 14, 15, 16, 17, 18, 19, 20, 21, 22, 23, 24, 25] (by decide +kernel) (by decide +kernel)
set_option maxRecDepth 20000 in
theorem gX5_moveRelay_X5_setPart : GoodIn wsX5_moveRelay (wsV RX5 31 RX5 yX5_setPart wsX5_setPart) := goodIn_app (goodIn_of _ (by decide +kernel)) ggX5_moveRelay_X5_setPart
set_option maxRecDepth 20000 in
theorem ggX5_moveRelay_X5_has : GoodIn wsX5_moveRelay wsX5_has := goodIn_r _ [9] (by decide +kernel) (by decide +kernel)
set_option maxRecDepth 20000 in
theorem gX5_moveRelay_X5_has : GoodIn wsX5_moveRelay (va_wsS RX5 67 yX5_has wsX5_has) := goodIn_app (goodIn_of _ (by decide +kernel)) ggX5_moveRelay_X5_has
set_option maxRecDepth 20000 in
theorem ggX5_moveRelay_X5_part : GoodIn wsX5_moveRelay wsX5_part := goodIn_r _ [13, 1, 14, 15, 16, 17, 18, 19, 20, 21, 22, 23, 24, 25] (by decide +kernel) (by decide +kernel)
set_option maxRecDepth 20000 in
theorem gX5_moveRelay_X5_part : GoodIn wsX5_moveRelay (wsV RX5 47 RX5 yX5_part wsX5_part) := goodIn_app (goodIn_of _ (by decide +kernel)) ggX5_moveRelay_X5_part
theorem dX5_moveRelay_0 : decode cX5_moveRelay 0 = .ok (.aload_n 0, 1) := by decide +kernel
theorem dX5_moveRelay_1 : decode cX5_moveRelay 1 = .ok (.getfield 7, 3) := by decide +kernel
theorem dX5_moveRelay_4 : decode cX5_moveRelay 4 = .ok (.iconst 0, 1) := by decide +kernel
theorem dX5_moveRelay_5 : decode cX5_moveRelay 5 = .ok (.dup2, 1) := by decide +kernel
theorem dX5_moveRelay_6 : decode cX5_moveRelay 6 = .ok (.iaload, 1) := by decide +kernel
theorem dX5_moveRelay_7 : decode cX5_moveRelay 7 = .ok (.iconst 1, 1) := by decide +kernel
theorem dX5_moveRelay_8 : decode cX5_moveRelay 8 = .ok (.iload_n 1, 1) := by decide +kernel
theorem dX5_moveRelay_9 : decode cX5_moveRelay 9 = .ok (.ishl, 1) := by decide +kernel
theorem dX5_moveRelay_10 : decode cX5_moveRelay 10 = .ok (.ixor, 1) := by decide +kernel
theorem dX5_moveRelay_11 : decode cX5_moveRelay 11 = .ok (.iastore, 1) := by decide +kernel
theorem dX5_moveRelay_12 : decode cX5_moveRelay 12 = .ok (.aload_n 0, 1) := by decide +kernel
theorem dX5_moveRelay_13 : decode cX5_moveRelay 13 = .ok (.getfield 7, 3) := by decide +kernel
theorem dX5_moveRelay_16 : decode cX5_moveRelay 16 = .ok (.iconst 4, 1) := by decide +kernel
theorem dX5_moveRelay_17 : decode cX5_moveRelay 17 = .ok (.dup2, 1) := by decide +kernel
theorem dX5_moveRelay_18 : decode cX5_moveRelay 18 = .ok (.iaload, 1) := by decide +kernel
theorem dX5_moveRelay_19 : decode cX5_moveRelay 19 = .ok (.iconst 1, 1) := by decide +kernel
theorem dX5_moveRelay_20 : decode cX5_moveRelay 20 = .ok (.iadd, 1) := by decide +kernel
theorem dX5_moveRelay_21 : decode cX5_moveRelay 21 = .ok (.iastore, 1) := by decide +kernel
theorem dX5_moveRelay_22 : decode cX5_moveRelay 22 = .ok (.aload_n 0, 1) := by decide +kernel
theorem dX5_moveRelay_23 : decode cX5_moveRelay 23 = .ok (.iload_n 1, 1) := by decide +kernel
theorem dX5_moveRelay_24 : decode cX5_moveRelay 24 = .ok (.iconst 2, 1) := by decide +kernel
theorem dX5_moveRelay_25 : decode cX5_moveRelay 25 = .ok (.iconst 0, 1) := by decide +kernel
theorem dX5_moveRelay_26 : decode cX5_moveRelay 26 = .ok (.invokevirtual 31, 3) := by decide +kernel
theorem dX5_moveRelay_29 : decode cX5_moveRelay 29 = .ok (.aload_n 0, 1) := by decide +kernel
theorem dX5_moveRelay_30 : decode cX5_moveRelay 30 = .ok (.getfield 7, 3) := by decide +kernel
theorem dX5_moveRelay_33 : decode cX5_moveRelay 33 = .ok (.iconst 0, 1) := by decide +kernel
theorem dX5_moveRelay_34 : decode cX5_moveRelay 34 = .ok (.iaload, 1) := by decide +kernel
theorem dX5_moveRelay_35 : decode cX5_moveRelay 35 = .ok (.iload_n 1, 1) := by decide +kernel
theorem dX5_moveRelay_36 : decode cX5_moveRelay 36 = .ok (.invokestatic 67, 3) := by decide +kernel
theorem dX5_moveRelay_39 : decode cX5_moveRelay 39 = .ok (.ifCond .eq 67, 3) := by decide +kernel
theorem dX5_moveRelay_42 : decode cX5_moveRelay 42 = .ok (.aload_n 0, 1) := by decide +kernel
theorem dX5_moveRelay_43 : decode cX5_moveRelay 43 = .ok (.iload_n 1, 1) := by decide +kernel
theorem dX5_moveRelay_44 : decode cX5_moveRelay 44 = .ok (.iconst 3, 1) := by decide +kernel
theorem dX5_moveRelay_45 : decode cX5_moveRelay 45 = .ok (.aload_n 0, 1) := by decide +kernel
theorem dX5_moveRelay_46 : decode cX5_moveRelay 46 = .ok (.iload_n 1, 1) := by decide +kernel
theorem dX5_moveRelay_47 : decode cX5_moveRelay 47 = .ok (.iconst 3, 1) := by decide +kernel
theorem dX5_moveRelay_48 : decode cX5_moveRelay 48 = .ok (.invokevirtual 47, 3) := by decide +kernel
theorem dX5_moveRelay_51 : decode cX5_moveRelay 51 = .ok (.iconst 1, 1) := by decide +kernel
theorem dX5_moveRelay_52 : decode cX5_moveRelay 52 = .ok (.iadd, 1) := by decide +kernel
theorem dX5_moveRelay_53 : decode cX5_moveRelay 53 = .ok (.invokevirtual 31, 3) := by decide +kernel
theorem dX5_moveRelay_56 : decode cX5_moveRelay 56 = .ok (.aload_n 0, 1) := by decide +kernel
theorem dX5_moveRelay_57 : decode cX5_moveRelay 57 = .ok (.getfield 7, 3) := by decide +kernel
theorem dX5_moveRelay_60 : decode cX5_moveRelay 60 = .ok (.iconst 5, 1) := by decide +kernel
theorem dX5_moveRelay_61 : decode cX5_moveRelay 61 = .ok (.iaload, 1) := by decide +kernel
theorem dX5_moveRelay_62 : decode cX5_moveRelay 62 = .ok (.ifCond .le 22, 3) := by decide +kernel
theorem dX5_moveRelay_65 : decode cX5_moveRelay 65 = .ok (.aload_n 0, 1) := by decide +kernel
theorem dX5_moveRelay_66 : decode cX5_moveRelay 66 = .ok (.iload_n 1, 1) := by decide +kernel
theorem dX5_moveRelay_67 : decode cX5_moveRelay 67 = .ok (.iconst 3, 1) := by decide +kernel
theorem dX5_moveRelay_68 : decode cX5_moveRelay 68 = .ok (.invokevirtual 47, 3) := by decide +kernel
theorem dX5_moveRelay_71 : decode cX5_moveRelay 71 = .ok (.aload_n 0, 1) := by decide +kernel
theorem dX5_moveRelay_72 : decode cX5_moveRelay 72 = .ok (.getfield 7, 3) := by decide +kernel
theorem dX5_moveRelay_75 : decode cX5_moveRelay 75 = .ok (.iconst 5, 1) := by decide +kernel
theorem dX5_moveRelay_76 : decode cX5_moveRelay 76 = .ok (.iaload, 1) := by decide +kernel
theorem dX5_moveRelay_77 : decode cX5_moveRelay 77 = .ok (.if_icmp .lt 7, 3) := by decide +kernel
theorem dX5_moveRelay_80 : decode cX5_moveRelay 80 = .ok (.iconst 1, 1) := by decide +kernel
theorem dX5_moveRelay_81 : decode cX5_moveRelay 81 = .ok (.goto 4, 3) := by decide +kernel
theorem dX5_moveRelay_84 : decode cX5_moveRelay 84 = .ok (.iconst 0, 1) := by decide +kernel
theorem dX5_moveRelay_85 : decode cX5_moveRelay 85 = .ok (.istore_n 2, 1) := by decide +kernel
theorem dX5_moveRelay_86 : decode cX5_moveRelay 86 = .ok (.aload_n 0, 1) := by decide +kernel
theorem dX5_moveRelay_87 : decode cX5_moveRelay 87 = .ok (.getfield 7, 3) := by decide +kernel
theorem dX5_moveRelay_90 : decode cX5_moveRelay 90 = .ok (.iconst 1, 1) := by decide +kernel
theorem dX5_moveRelay_91 : decode cX5_moveRelay 91 = .ok (.dup2, 1) := by decide +kernel
theorem dX5_moveRelay_92 : decode cX5_moveRelay 92 = .ok (.iaload, 1) := by decide +kernel
theorem dX5_moveRelay_93 : decode cX5_moveRelay 93 = .ok (.iload_n 2, 1) := by decide +kernel
theorem dX5_moveRelay_94 : decode cX5_moveRelay 94 = .ok (.ifCond .eq 9, 3) := by decide +kernel
theorem dX5_moveRelay_97 : decode cX5_moveRelay 97 = .ok (.iconst 1, 1) := by decide +kernel
theorem dX5_moveRelay_98 : decode cX5_moveRelay 98 = .ok (.iload_n 1, 1) := by decide +kernel
theorem dX5_moveRelay_99 : decode cX5_moveRelay 99 = .ok (.ishl, 1) := by decide +kernel
theorem dX5_moveRelay_100 : decode cX5_moveRelay 100 = .ok (.goto 4, 3) := by decide +kernel
theorem dX5_moveRelay_103 : decode cX5_moveRelay 103 = .ok (.iconst 0, 1) := by decide +kernel
theorem dX5_moveRelay_104 : decode cX5_moveRelay 104 = .ok (.ior, 1) := by decide +kernel
theorem dX5_moveRelay_105 : decode cX5_moveRelay 105 = .ok (.iastore, 1) := by decide +kernel
theorem dX5_moveRelay_106 : decode cX5_moveRelay 106 = .ok (.return_, 1) := by decide +kernel
set_option maxRecDepth 20000 in
theorem ggX5_tick_X5_wanting : GoodIn wsX5_tick wsX5_wanting := goodIn_r _ [6, 1, 7, 8, 9, 5, 10, 11, 12, 13, 14, 15, 16, 17, 18, 19, 20, 21, 22, 23, 24, 25, 26, 38, 39, 40, 41, 42, 43, 44, 45, 46, 47, 48, 49] (by decide +kernel) (by decide +kernel)
set_option maxRecDepth 20000 in
theorem gX5_tick_X5_wanting : GoodIn wsX5_tick (wsV RX5 70 RX5 yX5_wanting wsX5_wanting) := goodIn_app (goodIn_of _ (by decide +kernel)) ggX5_tick_X5_wanting
set_option maxRecDepth 20000 in
theorem ggX5_tick_X5_has : GoodIn wsX5_tick wsX5_has := goodIn_r _ [29] (by decide +kernel) (by decide +kernel)
set_option maxRecDepth 20000 in
theorem gX5_tick_X5_has : GoodIn wsX5_tick (va_wsS RX5 67 yX5_has wsX5_has) := goodIn_app (goodIn_of _ (by decide +kernel)) ggX5_tick_X5_has
set_option maxRecDepth 20000 in
theorem ggX5_tick_X5_part : GoodIn wsX5_tick wsX5_part := goodIn_r _ [18, 1, 38, 39, 40, 41, 42, 43, 44, 45, 46, 47, 48, 49] (by decide +kernel) (by decide +kernel)
set_option maxRecDepth 20000 in
theorem gX5_tick_X5_part : GoodIn wsX5_tick (wsV RX5 47 RX5 yX5_part wsX5_part) := goodIn_app (goodIn_of _ (by decide +kernel)) ggX5_tick_X5_part
set_option maxRecDepth 20000 in
theorem ggX5_tick_X5_setPart : GoodIn wsX5_tick wsX5_setPart := goodIn_r _ [33, 1, 38, 39, 40, 41, 42, 43, 44, 45, 46, 47, 48, 49] (by decide +kernel) (by decide +kernel)
set_option maxRecDepth 20000 in
theorem gX5_tick_X5_setPart : GoodIn wsX5_tick (wsV RX5 31 RX5 yX5_setPart wsX5_setPart) := goodIn_app (goodIn_of _ (by decide +kernel)) ggX5_tick_X5_setPart
set_option maxRecDepth 20000 in
theorem ggX5_tick_X5_moveRelay : GoodIn wsX5_tick wsX5_moveRelay := goodIn_r _ [37, 1, 30, 31, 32, 5, 33, 27, 28, 29, 15, 16, 17, 18, 38, 39, 40, 41, 42, 43, 44, 45, 46, 47, 48, 49] (by decide +kernel) (by decide +kernel)
set_option maxRecDepth 20000 in
theorem gX5_tick_X5_moveRelay : GoodIn wsX5_tick (wsV RX5 73 RX5 yX5_moveRelay wsX5_moveRelay) := goodIn_app (goodIn_of _ (by decide +kernel)) ggX5_tick_X5_moveRelay
theorem dX5_tick_0 : decode cX5_tick 0 = .ok (.aload_n 0, 1) := by decide +kernel
theorem dX5_tick_1 : decode cX5_tick 1 = .ok (.invokevirtual 70, 3) := by decide +kernel
theorem dX5_tick_4 : decode cX5_tick 4 = .ok (.istore_n 1, 1) := by decide +kernel
theorem dX5_tick_5 : decode cX5_tick 5 = .ok (.iconst 0, 1) := by decide +kernel
theorem dX5_tick_6 : decode cX5_tick 6 = .ok (.istore_n 2, 1) := by decide +kernel
theorem dX5_tick_7 : decode cX5_tick 7 = .ok (.iload_n 2, 1) := by decide +kernel
theorem dX5_tick_8 : decode cX5_tick 8 = .ok (.bipush 10, 2) := by decide +kernel
theorem dX5_tick_10 : decode cX5_tick 10 = .ok (.if_icmp .ge 80, 3) := by decide +kernel
theorem dX5_tick_13 : decode cX5_tick 13 = .ok (.aload_n 0, 1) := by decide +kernel
theorem dX5_tick_14 : decode cX5_tick 14 = .ok (.iload_n 2, 1) := by decide +kernel
theorem dX5_tick_15 : decode cX5_tick 15 = .ok (.iconst 2, 1) := by decide +kernel
theorem dX5_tick_16 : decode cX5_tick 16 = .ok (.iload_n 1, 1) := by decide +kernel
theorem dX5_tick_17 : decode cX5_tick 17 = .ok (.iload_n 2, 1) := by decide +kernel
theorem dX5_tick_18 : decode cX5_tick 18 = .ok (.invokestatic 67, 3) := by decide +kernel
theorem dX5_tick_21 : decode cX5_tick 21 = .ok (.ifCond .eq 14, 3) := by decide +kernel
theorem dX5_tick_24 : decode cX5_tick 24 = .ok (.aload_n 0, 1) := by decide +kernel
theorem dX5_tick_25 : decode cX5_tick 25 = .ok (.iload_n 2, 1) := by decide +kernel
theorem dX5_tick_26 : decode cX5_tick 26 = .ok (.iconst 2, 1) := by decide +kernel
theorem dX5_tick_27 : decode cX5_tick 27 = .ok (.invokevirtual 47, 3) := by decide +kernel
theorem dX5_tick_30 : decode cX5_tick 30 = .ok (.iconst 1, 1) := by decide +kernel
theorem dX5_tick_31 : decode cX5_tick 31 = .ok (.iadd, 1) := by decide +kernel
theorem dX5_tick_32 : decode cX5_tick 32 = .ok (.goto 4, 3) := by decide +kernel
theorem dX5_tick_35 : decode cX5_tick 35 = .ok (.iconst 0, 1) := by decide +kernel
theorem dX5_tick_36 : decode cX5_tick 36 = .ok (.invokevirtual 31, 3) := by decide +kernel
theorem dX5_tick_39 : decode cX5_tick 39 = .ok (.iload_n 1, 1) := by decide +kernel
theorem dX5_tick_40 : decode cX5_tick 40 = .ok (.iload_n 2, 1) := by decide +kernel
theorem dX5_tick_41 : decode cX5_tick 41 = .ok (.invokestatic 67, 3) := by decide +kernel
theorem dX5_tick_44 : decode cX5_tick 44 = .ok (.ifCond .eq 40, 3) := by decide +kernel
theorem dX5_tick_47 : decode cX5_tick 47 = .ok (.aload_n 0, 1) := by decide +kernel
theorem dX5_tick_48 : decode cX5_tick 48 = .ok (.iload_n 2, 1) := by decide +kernel
theorem dX5_tick_49 : decode cX5_tick 49 = .ok (.iconst 2, 1) := by decide +kernel
theorem dX5_tick_50 : decode cX5_tick 50 = .ok (.invokevirtual 47, 3) := by decide +kernel
theorem dX5_tick_53 : decode cX5_tick 53 = .ok (.aload_n 0, 1) := by decide +kernel
theorem dX5_tick_54 : decode cX5_tick 54 = .ok (.iload_n 2, 1) := by decide +kernel
theorem dX5_tick_55 : decode cX5_tick 55 = .ok (.aload_n 0, 1) := by decide +kernel
theorem dX5_tick_56 : decode cX5_tick 56 = .ok (.getfield 7, 3) := by decide +kernel
theorem dX5_tick_59 : decode cX5_tick 59 = .ok (.iconst 0, 1) := by decide +kernel
theorem dX5_tick_60 : decode cX5_tick 60 = .ok (.iaload, 1) := by decide +kernel
theorem dX5_tick_61 : decode cX5_tick 61 = .ok (.iload_n 2, 1) := by decide +kernel
theorem dX5_tick_62 : decode cX5_tick 62 = .ok (.invokestatic 67, 3) := by decide +kernel
theorem dX5_tick_65 : decode cX5_tick 65 = .ok (.ifCond .eq 7, 3) := by decide +kernel
theorem dX5_tick_68 : decode cX5_tick 68 = .ok (.iconst 1, 1) := by decide +kernel
theorem dX5_tick_69 : decode cX5_tick 69 = .ok (.goto 4, 3) := by decide +kernel
theorem dX5_tick_72 : decode cX5_tick 72 = .ok (.iconst 0, 1) := by decide +kernel
theorem dX5_tick_73 : decode cX5_tick 73 = .ok (.invokevirtual 47, 3) := by decide +kernel
theorem dX5_tick_76 : decode cX5_tick 76 = .ok (.if_icmp .lt 8, 3) := by decide +kernel
theorem dX5_tick_79 : decode cX5_tick 79 = .ok (.aload_n 0, 1) := by decide +kernel
theorem dX5_tick_80 : decode cX5_tick 80 = .ok (.iload_n 2, 1) := by decide +kernel
theorem dX5_tick_81 : decode cX5_tick 81 = .ok (.invokevirtual 73, 3) := by decide +kernel
theorem dX5_tick_84 : decode cX5_tick 84 = .ok (.iinc 2 1, 3) := by decide +kernel
theorem dX5_tick_87 : decode cX5_tick 87 = .ok (.goto (-80), 3) := by decide +kernel
theorem dX5_tick_90 : decode cX5_tick 90 = .ok (.aload_n 0, 1) := by decide +kernel
theorem dX5_tick_91 : decode cX5_tick 91 = .ok (.getfield 7, 3) := by decide +kernel
theorem dX5_tick_94 : decode cX5_tick 94 = .ok (.iconst 3, 1) := by decide +kernel
theorem dX5_tick_95 : decode cX5_tick 95 = .ok (.dup2, 1) := by decide +kernel
theorem dX5_tick_96 : decode cX5_tick 96 = .ok (.iaload, 1) := by decide +kernel
theorem dX5_tick_97 : decode cX5_tick 97 = .ok (.iconst 1, 1) := by decide +kernel
theorem dX5_tick_98 : decode cX5_tick 98 = .ok (.iadd, 1) := by decide +kernel
theorem dX5_tick_99 : decode cX5_tick 99 = .ok (.iastore, 1) := by decide +kernel
theorem dX5_tick_100 : decode cX5_tick 100 = .ok (.return_, 1) := by decide +kernel
set_option maxRecDepth 20000 in
theorem ggX5_settles_X5_wanting : GoodIn wsX5_settles wsX5_wanting := goodIn_r _ [5, 6, 7, 8, 9, 4, 10, 11, 12, 13, 14, 15, 16, 17, 18, 19, 20, 21, 22, 23, 24, 25, 26, 42, 43, 44, 45, 46, 47, 48, 49, 50, 51, 52, 53] (by decide +kernel) (by decide +kernel)
set_option maxRecDepth 20000 in
theorem gX5_settles_X5_wanting : GoodIn wsX5_settles (wsV RX5 70 RX5 yX5_wanting wsX5_wanting) := goodIn_app (goodIn_of _ (by decide +kernel)) ggX5_settles_X5_wanting
set_option maxRecDepth 20000 in
theorem ggX5_settles_X5_tick : GoodIn wsX5_settles wsX5_tick := goodIn_r _ [30, 6, 1, 2, 3, 4, 5, 7, 8, 9, 10, 11, 12, 13, 14, 15, 16, 17, 18, 19, 20, 21, 22, 23, 24, 25, 26, 31, 32, 33, 34, 35, 36, 37, 38, 39, 40, 41, 42, 43, 44, 45, 46, 47, 48, 49, 50, 51, 52, 53] (by decide +kernel) (by decide +kernel)
set_option maxRecDepth 20000 in
theorem gX5_settles_X5_tick : GoodIn wsX5_settles (wsV RX5 77 RX5 yX5_tick wsX5_tick) := goodIn_app (goodIn_of _ (by decide +kernel)) ggX5_settles_X5_tick
theorem dX5_settles_0 : decode cX5_settles 0 = .ok (.iconst 0, 1) := by decide +kernel
theorem dX5_settles_1 : decode cX5_settles 1 = .ok (.istore_n 1, 1) := by decide +kernel
theorem dX5_settles_2 : decode cX5_settles 2 = .ok (.iload_n 1, 1) := by decide +kernel
theorem dX5_settles_3 : decode cX5_settles 3 = .ok (.sipush 200, 3) := by decide +kernel
theorem dX5_settles_6 : decode cX5_settles 6 = .ok (.if_icmp .ge 20, 3) := by decide +kernel
theorem dX5_settles_9 : decode cX5_settles 9 = .ok (.aload_n 0, 1) := by decide +kernel
theorem dX5_settles_10 : decode cX5_settles 10 = .ok (.invokevirtual 70, 3) := by decide +kernel
theorem dX5_settles_13 : decode cX5_settles 13 = .ok (.ifCond .eq 13, 3) := by decide +kernel
theorem dX5_settles_16 : decode cX5_settles 16 = .ok (.aload_n 0, 1) := by decide +kernel
theorem dX5_settles_17 : decode cX5_settles 17 = .ok (.invokevirtual 77, 3) := by decide +kernel
theorem dX5_settles_20 : decode cX5_settles 20 = .ok (.iinc 1 1, 3) := by decide +kernel
theorem dX5_settles_23 : decode cX5_settles 23 = .ok (.goto (-21), 3) := by decide +kernel
theorem dX5_settles_26 : decode cX5_settles 26 = .ok (.iload_n 1, 1) := by decide +kernel
theorem dX5_settles_27 : decode cX5_settles 27 = .ok (.ireturn, 1) := by decide +kernel
set_option maxRecDepth 20000 in
theorem ggX5_time_X5_isRelay : GoodIn wsX5_time wsX5_isRelay := goodIn_r _ [4, 5, 6, 3, 7] (by decide +kernel) (by decide +kernel)
set_option maxRecDepth 20000 in
theorem gX5_time_X5_isRelay : GoodIn wsX5_time (va_wsS RX5 80 yX5_isRelay wsX5_isRelay) := goodIn_app (goodIn_of _ (by decide +kernel)) ggX5_time_X5_isRelay
set_option maxRecDepth 20000 in
theorem ggX5_time_X5_within : GoodIn wsX5_time wsX5_within := goodIn_r _ [7] (by decide +kernel) (by decide +kernel)
set_option maxRecDepth 20000 in
theorem gX5_time_X5_within : GoodIn wsX5_time (va_wsS RX5 43 yX5_within wsX5_within) := goodIn_app (goodIn_of _ (by decide +kernel)) ggX5_time_X5_within
set_option maxRecDepth 20000 in
theorem ggX5_time_X5_record : GoodIn wsX5_time wsX5_record := goodIn_r _ [11, 12, 13, 14, 15, 16, 3, 17, 26, 27, 28, 29, 30, 31, 32, 33, 34, 35, 36, 37] (by decide +kernel) (by decide +kernel)
set_option maxRecDepth 20000 in
theorem gX5_time_X5_record : GoodIn wsX5_time (wsV RX5 83 RX5 yX5_record wsX5_record) := goodIn_app (goodIn_of _ (by decide +kernel)) ggX5_time_X5_record
set_option maxRecDepth 20000 in
theorem ggX5_time_X5_part : GoodIn wsX5_time wsX5_part := goodIn_r _ [21, 14, 26, 27, 28, 29, 30, 31, 32, 33, 34, 35, 36, 37] (by decide +kernel) (by decide +kernel)
set_option maxRecDepth 20000 in
theorem gX5_time_X5_part : GoodIn wsX5_time (wsV RX5 47 RX5 yX5_part wsX5_part) := goodIn_app (goodIn_of _ (by decide +kernel)) ggX5_time_X5_part
set_option maxRecDepth 20000 in
theorem ggX5_time_X5_setPart : GoodIn wsX5_time wsX5_setPart := goodIn_r _ [25, 14, 26, 27, 28, 29, 30, 31, 32, 33, 34, 35, 36, 37] (by decide +kernel) (by decide +kernel)
end
section
set_option maxRecDepth 20000 in
theorem gX5_time_X5_setPart : GoodIn wsX5_time (wsV RX5 31 RX5 yX5_setPart wsX5_setPart) := goodIn_app (goodIn_of _ (by decide +kernel)) ggX5_time_X5_setPart
theorem dX5_time_0 : decode cX5_time 0 = .ok (.iload_n 1, 1) := by decide +kernel
theorem dX5_time_1 : decode cX5_time 1 = .ok (.invokestatic 80, 3) := by decide +kernel
theorem dX5_time_4 : decode cX5_time 4 = .ok (.ifCond .ne 5, 3) := by decide +kernel
theorem dX5_time_7 : decode cX5_time 7 = .ok (.iconst (-1), 1) := by decide +kernel
theorem dX5_time_8 : decode cX5_time 8 = .ok (.ireturn, 1) := by decide +kernel
theorem dX5_time_9 : decode cX5_time 9 = .ok (.iload_n 3, 1) := by decide +kernel
theorem dX5_time_10 : decode cX5_time 10 = .ok (.iconst 1, 1) := by decide +kernel
theorem dX5_time_11 : decode cX5_time 11 = .ok (.bipush 9, 2) := by decide +kernel
theorem dX5_time_13 : decode cX5_time 13 = .ok (.invokestatic 43, 3) := by decide +kernel
theorem dX5_time_16 : decode cX5_time 16 = .ok (.ifCond .ne 6, 3) := by decide +kernel
theorem dX5_time_19 : decode cX5_time 19 = .ok (.bipush (-2), 2) := by decide +kernel
theorem dX5_time_21 : decode cX5_time 21 = .ok (.ireturn, 1) := by decide +kernel
theorem dX5_time_22 : decode cX5_time 22 = .ok (.aload_n 0, 1) := by decide +kernel
theorem dX5_time_23 : decode cX5_time 23 = .ok (.invokevirtual 83, 3) := by decide +kernel
theorem dX5_time_26 : decode cX5_time 26 = .ok (.iload_n 2, 1) := by decide +kernel
theorem dX5_time_27 : decode cX5_time 27 = .ok (.ifCond .eq 7, 3) := by decide +kernel
theorem dX5_time_30 : decode cX5_time 30 = .ok (.iconst 1, 1) := by decide +kernel
theorem dX5_time_31 : decode cX5_time 31 = .ok (.goto 4, 3) := by decide +kernel
theorem dX5_time_34 : decode cX5_time 34 = .ok (.iconst 0, 1) := by decide +kernel
theorem dX5_time_35 : decode cX5_time 35 = .ok (.istore 4, 2) := by decide +kernel
theorem dX5_time_37 : decode cX5_time 37 = .ok (.aload_n 0, 1) := by decide +kernel
theorem dX5_time_38 : decode cX5_time 38 = .ok (.iload_n 1, 1) := by decide +kernel
theorem dX5_time_39 : decode cX5_time 39 = .ok (.iload 4, 2) := by decide +kernel
theorem dX5_time_41 : decode cX5_time 41 = .ok (.invokevirtual 47, 3) := by decide +kernel
theorem dX5_time_44 : decode cX5_time 44 = .ok (.istore 5, 2) := by decide +kernel
theorem dX5_time_46 : decode cX5_time 46 = .ok (.aload_n 0, 1) := by decide +kernel
theorem dX5_time_47 : decode cX5_time 47 = .ok (.iload_n 1, 1) := by decide +kernel
theorem dX5_time_48 : decode cX5_time 48 = .ok (.iload 4, 2) := by decide +kernel
theorem dX5_time_50 : decode cX5_time 50 = .ok (.iload_n 3, 1) := by decide +kernel
theorem dX5_time_51 : decode cX5_time 51 = .ok (.invokevirtual 31, 3) := by decide +kernel
theorem dX5_time_54 : decode cX5_time 54 = .ok (.iload 5, 2) := by decide +kernel
theorem dX5_time_56 : decode cX5_time 56 = .ok (.ireturn, 1) := by decide +kernel
set_option maxRecDepth 20000 in
theorem ggX5_life_X5_within : GoodIn wsX5_life wsX5_within := goodIn_r _ [5] (by decide +kernel) (by decide +kernel)
set_option maxRecDepth 20000 in
theorem gX5_life_X5_within : GoodIn wsX5_life (va_wsS RX5 43 yX5_within wsX5_within) := goodIn_app (goodIn_of _ (by decide +kernel)) ggX5_life_X5_within
set_option maxRecDepth 20000 in
theorem ggX5_life_X5_record : GoodIn wsX5_life wsX5_record := goodIn_r _ [9, 10, 11, 1, 12, 13, 4, 14, 15, 16, 17, 18, 19, 20, 21, 22, 23, 24, 25, 26] (by decide +kernel) (by decide +kernel)
set_option maxRecDepth 20000 in
theorem gX5_life_X5_record : GoodIn wsX5_life (wsV RX5 83 RX5 yX5_record wsX5_record) := goodIn_app (goodIn_of _ (by decide +kernel)) ggX5_life_X5_record
theorem dX5_life_0 : decode cX5_life 0 = .ok (.iload_n 1, 1) := by decide +kernel
theorem dX5_life_1 : decode cX5_life 1 = .ok (.iconst 0, 1) := by decide +kernel
theorem dX5_life_2 : decode cX5_life 2 = .ok (.bipush 99, 2) := by decide +kernel
theorem dX5_life_4 : decode cX5_life 4 = .ok (.invokestatic 43, 3) := by decide +kernel
theorem dX5_life_7 : decode cX5_life 7 = .ok (.ifCond .ne 6, 3) := by decide +kernel
theorem dX5_life_10 : decode cX5_life 10 = .ok (.bipush (-2), 2) := by decide +kernel
theorem dX5_life_12 : decode cX5_life 12 = .ok (.ireturn, 1) := by decide +kernel
theorem dX5_life_13 : decode cX5_life 13 = .ok (.aload_n 0, 1) := by decide +kernel
theorem dX5_life_14 : decode cX5_life 14 = .ok (.invokevirtual 83, 3) := by decide +kernel
theorem dX5_life_17 : decode cX5_life 17 = .ok (.aload_n 0, 1) := by decide +kernel
theorem dX5_life_18 : decode cX5_life 18 = .ok (.getfield 7, 3) := by decide +kernel
theorem dX5_life_21 : decode cX5_life 21 = .ok (.iconst 5, 1) := by decide +kernel
theorem dX5_life_22 : decode cX5_life 22 = .ok (.iaload, 1) := by decide +kernel
theorem dX5_life_23 : decode cX5_life 23 = .ok (.istore_n 2, 1) := by decide +kernel
theorem dX5_life_24 : decode cX5_life 24 = .ok (.aload_n 0, 1) := by decide +kernel
theorem dX5_life_25 : decode cX5_life 25 = .ok (.getfield 7, 3) := by decide +kernel
theorem dX5_life_28 : decode cX5_life 28 = .ok (.iconst 5, 1) := by decide +kernel
theorem dX5_life_29 : decode cX5_life 29 = .ok (.iload_n 1, 1) := by decide +kernel
theorem dX5_life_30 : decode cX5_life 30 = .ok (.iastore, 1) := by decide +kernel
theorem dX5_life_31 : decode cX5_life 31 = .ok (.iload_n 2, 1) := by decide +kernel
theorem dX5_life_32 : decode cX5_life 32 = .ok (.ireturn, 1) := by decide +kernel
set_option maxRecDepth 20000 in
theorem ggX5_relaysWithBranches_X5_part : GoodIn wsX5_relaysWithBranches wsX5_part := goodIn_r _ [5, 6, 7, 8, 9, 10, 11, 12, 13, 14, 15, 16, 17, 18] (by decide +kernel) (by decide +kernel)
set_option maxRecDepth 20000 in
theorem gX5_relaysWithBranches_X5_part : GoodIn wsX5_relaysWithBranches (wsV RX5 47 RX5 yX5_part wsX5_part) := goodIn_app (goodIn_of _ (by decide +kernel)) ggX5_relaysWithBranches_X5_part
theorem dX5_relaysWithBranches_0 : decode cX5_relaysWithBranches 0 = .ok (.iconst 0, 1) := by decide +kernel
theorem dX5_relaysWithBranches_1 : decode cX5_relaysWithBranches 1 = .ok (.istore_n 1, 1) := by decide +kernel
theorem dX5_relaysWithBranches_2 : decode cX5_relaysWithBranches 2 = .ok (.iconst 0, 1) := by decide +kernel
theorem dX5_relaysWithBranches_3 : decode cX5_relaysWithBranches 3 = .ok (.istore_n 2, 1) := by decide +kernel
theorem dX5_relaysWithBranches_4 : decode cX5_relaysWithBranches 4 = .ok (.iload_n 2, 1) := by decide +kernel
theorem dX5_relaysWithBranches_5 : decode cX5_relaysWithBranches 5 = .ok (.bipush 10, 2) := by decide +kernel
theorem dX5_relaysWithBranches_7 : decode cX5_relaysWithBranches 7 = .ok (.if_icmp .ge 26, 3) := by decide +kernel
theorem dX5_relaysWithBranches_10 : decode cX5_relaysWithBranches 10 = .ok (.iload_n 1, 1) := by decide +kernel
theorem dX5_relaysWithBranches_11 : decode cX5_relaysWithBranches 11 = .ok (.aload_n 0, 1) := by decide +kernel
theorem dX5_relaysWithBranches_12 : decode cX5_relaysWithBranches 12 = .ok (.iload_n 2, 1) := by decide +kernel
theorem dX5_relaysWithBranches_13 : decode cX5_relaysWithBranches 13 = .ok (.iconst 4, 1) := by decide +kernel
theorem dX5_relaysWithBranches_14 : decode cX5_relaysWithBranches 14 = .ok (.invokevirtual 47, 3) := by decide +kernel
theorem dX5_relaysWithBranches_17 : decode cX5_relaysWithBranches 17 = .ok (.ifCond .le 7, 3) := by decide +kernel
theorem dX5_relaysWithBranches_20 : decode cX5_relaysWithBranches 20 = .ok (.iconst 1, 1) := by decide +kernel
theorem dX5_relaysWithBranches_21 : decode cX5_relaysWithBranches 21 = .ok (.goto 4, 3) := by decide +kernel
theorem dX5_relaysWithBranches_24 : decode cX5_relaysWithBranches 24 = .ok (.iconst 0, 1) := by decide +kernel
theorem dX5_relaysWithBranches_25 : decode cX5_relaysWithBranches 25 = .ok (.iadd, 1) := by decide +kernel
theorem dX5_relaysWithBranches_26 : decode cX5_relaysWithBranches 26 = .ok (.istore_n 1, 1) := by decide +kernel
theorem dX5_relaysWithBranches_27 : decode cX5_relaysWithBranches 27 = .ok (.iinc 2 1, 3) := by decide +kernel
theorem dX5_relaysWithBranches_30 : decode cX5_relaysWithBranches 30 = .ok (.goto (-26), 3) := by decide +kernel
theorem dX5_relaysWithBranches_33 : decode cX5_relaysWithBranches 33 = .ok (.iload_n 1, 1) := by decide +kernel
theorem dX5_relaysWithBranches_34 : decode cX5_relaysWithBranches 34 = .ok (.ireturn, 1) := by decide +kernel
set_option maxRecDepth 20000 in
theorem ggX5_read_X5_findFault : GoodIn wsX5_read wsX5_findFault := goodIn_r _ [10, 1, 2, 11, 12, 13, 9, 14, 4, 3, 15, 16, 17, 18, 19, 20, 21, 22, 23, 24, 25, 26, 27, 28, 29, 30, 31, 32, 33, 34, 5, 35, 36, 37, 60, 61, 62, 63, 64, 65, 66, 67, 68, 69, 70, 71] (by decide +kernel) (by decide +kernel)
set_option maxRecDepth 20000 in
theorem gX5_read_X5_findFault : GoodIn wsX5_read (wsV RX5 86 RX5 yX5_findFault wsX5_findFault) := goodIn_app (goodIn_of _ (by decide +kernel)) ggX5_read_X5_findFault
set_option maxRecDepth 20000 in
theorem ggX5_read_X5_record : GoodIn wsX5_read wsX5_record := goodIn_r _ [41, 42, 43, 44, 45, 46, 9, 47, 60, 61, 62, 63, 64, 65, 66, 67, 68, 69, 70, 71] (by decide +kernel) (by decide +kernel)
set_option maxRecDepth 20000 in
theorem gX5_read_X5_record : GoodIn wsX5_read (wsV RX5 83 RX5 yX5_record wsX5_record) := goodIn_app (goodIn_of _ (by decide +kernel)) ggX5_read_X5_record
set_option maxRecDepth 20000 in
theorem ggX5_read_X5_readsCircuit : GoodIn wsX5_read wsX5_readsCircuit := goodIn_r _ [14, 4, 1, 3, 15, 16, 17, 9, 18, 2, 19, 20, 21, 22, 23, 24, 25, 26, 27, 28, 29, 30, 31, 32, 33, 34, 5, 35, 36, 37, 60, 61, 62, 63, 64, 65, 66, 67, 68, 69, 70, 71] (by decide +kernel) (by decide +kernel)
set_option maxRecDepth 20000 in
theorem gX5_read_X5_readsCircuit : GoodIn wsX5_read (wsV RX5 95 RX5 yX5_readsCircuit wsX5_readsCircuit) := goodIn_app (goodIn_of _ (by decide +kernel)) ggX5_read_X5_readsCircuit
set_option maxRecDepth 20000 in
theorem ggX5_read_X5_isNext : GoodIn wsX5_read wsX5_isNext := goodIn_r _ [26, 1, 15, 16, 17, 9, 18, 2, 19, 60, 61, 62, 63, 64, 65, 66, 67, 68, 69, 70, 71] (by decide +kernel) (by decide +kernel)
set_option maxRecDepth 20000 in
theorem gX5_read_X5_isNext : GoodIn wsX5_read (wsV RX5 99 RX5 yX5_isNext wsX5_isNext) := goodIn_app (goodIn_of _ (by decide +kernel)) ggX5_read_X5_isNext
set_option maxRecDepth 20000 in
theorem ggX5_read_X5_setPart : GoodIn wsX5_read wsX5_setPart := goodIn_r _ [51, 44, 60, 61, 62, 63, 64, 65, 66, 67, 68, 69, 70, 71] (by decide +kernel) (by decide +kernel)
set_option maxRecDepth 20000 in
theorem gX5_read_X5_setPart : GoodIn wsX5_read (wsV RX5 31 RX5 yX5_setPart wsX5_setPart) := goodIn_app (goodIn_of _ (by decide +kernel)) ggX5_read_X5_setPart
set_option maxRecDepth 20000 in
theorem ggX5_read_X5_relaysWithBranches : GoodIn wsX5_read wsX5_relaysWithBranches := goodIn_r _ [55, 56, 57, 58, 9, 59, 44, 60, 61, 62, 63, 64, 65, 66, 67, 68, 69, 70, 71] (by decide +kernel) (by decide +kernel)
set_option maxRecDepth 20000 in
theorem gX5_read_X5_relaysWithBranches : GoodIn wsX5_read (wsV RX5 108 RX5 yX5_relaysWithBranches wsX5_relaysWithBranches) := goodIn_app (goodIn_of _ (by decide +kernel)) ggX5_read_X5_relaysWithBranches
theorem dX5_read_0 : decode cX5_read 0 = .ok (.aload_n 0, 1) := by decide +kernel
theorem dX5_read_1 : decode cX5_read 1 = .ok (.invokevirtual 86, 3) := by decide +kernel
theorem dX5_read_4 : decode cX5_read 4 = .ok (.bipush (-6), 2) := by decide +kernel
theorem dX5_read_6 : decode cX5_read 6 = .ok (.if_icmp .eq 6, 3) := by decide +kernel
theorem dX5_read_9 : decode cX5_read 9 = .ok (.bipush (-3), 2) := by decide +kernel
theorem dX5_read_11 : decode cX5_read 11 = .ok (.ireturn, 1) := by decide +kernel
theorem dX5_read_12 : decode cX5_read 12 = .ok (.aload_n 0, 1) := by decide +kernel
theorem dX5_read_13 : decode cX5_read 13 = .ok (.invokevirtual 83, 3) := by decide +kernel
theorem dX5_read_16 : decode cX5_read 16 = .ok (.aload_n 0, 1) := by decide +kernel
theorem dX5_read_17 : decode cX5_read 17 = .ok (.iconst 0, 1) := by decide +kernel
theorem dX5_read_18 : decode cX5_read 18 = .ok (.putfield 89, 3) := by decide +kernel
theorem dX5_read_21 : decode cX5_read 21 = .ok (.aload_n 0, 1) := by decide +kernel
theorem dX5_read_22 : decode cX5_read 22 = .ok (.getfield 89, 3) := by decide +kernel
theorem dX5_read_25 : decode cX5_read 25 = .ok (.aload_n 0, 1) := by decide +kernel
theorem dX5_read_26 : decode cX5_read 26 = .ok (.getfield 92, 3) := by decide +kernel
theorem dX5_read_29 : decode cX5_read 29 = .ok (.if_icmp .ge 76, 3) := by decide +kernel
theorem dX5_read_32 : decode cX5_read 32 = .ok (.aload_n 0, 1) := by decide +kernel
theorem dX5_read_33 : decode cX5_read 33 = .ok (.invokevirtual 95, 3) := by decide +kernel
theorem dX5_read_36 : decode cX5_read 36 = .ok (.pop, 1) := by decide +kernel
theorem dX5_read_37 : decode cX5_read 37 = .ok (.aload_n 0, 1) := by decide +kernel
theorem dX5_read_38 : decode cX5_read 38 = .ok (.bipush 59, 2) := by decide +kernel
theorem dX5_read_40 : decode cX5_read 40 = .ok (.invokevirtual 99, 3) := by decide +kernel
theorem dX5_read_43 : decode cX5_read 43 = .ok (.pop, 1) := by decide +kernel
theorem dX5_read_44 : decode cX5_read 44 = .ok (.aload_n 0, 1) := by decide +kernel
theorem dX5_read_45 : decode cX5_read 45 = .ok (.aload_n 0, 1) := by decide +kernel
theorem dX5_read_46 : decode cX5_read 46 = .ok (.getfield 102, 3) := by decide +kernel
theorem dX5_read_49 : decode cX5_read 49 = .ok (.iconst 4, 1) := by decide +kernel
theorem dX5_read_50 : decode cX5_read 50 = .ok (.aload_n 0, 1) := by decide +kernel
theorem dX5_read_51 : decode cX5_read 51 = .ok (.getfield 105, 3) := by decide +kernel
theorem dX5_read_54 : decode cX5_read 54 = .ok (.invokevirtual 31, 3) := by decide +kernel
theorem dX5_read_57 : decode cX5_read 57 = .ok (.iconst 0, 1) := by decide +kernel
theorem dX5_read_58 : decode cX5_read 58 = .ok (.istore_n 1, 1) := by decide +kernel
theorem dX5_read_59 : decode cX5_read 59 = .ok (.iload_n 1, 1) := by decide +kernel
theorem dX5_read_60 : decode cX5_read 60 = .ok (.bipush 18, 2) := by decide +kernel
theorem dX5_read_62 : decode cX5_read 62 = .ok (.if_icmp .ge 40, 3) := by decide +kernel
theorem dX5_read_65 : decode cX5_read 65 = .ok (.aload_n 0, 1) := by decide +kernel
theorem dX5_read_66 : decode cX5_read 66 = .ok (.aload_n 0, 1) := by decide +kernel
theorem dX5_read_67 : decode cX5_read 67 = .ok (.getfield 102, 3) := by decide +kernel
theorem dX5_read_70 : decode cX5_read 70 = .ok (.iconst 5, 1) := by decide +kernel
theorem dX5_read_71 : decode cX5_read 71 = .ok (.iload_n 1, 1) := by decide +kernel
theorem dX5_read_72 : decode cX5_read 72 = .ok (.iadd, 1) := by decide +kernel
theorem dX5_read_73 : decode cX5_read 73 = .ok (.iload_n 1, 1) := by decide +kernel
theorem dX5_read_74 : decode cX5_read 74 = .ok (.iconst 3, 1) := by decide +kernel
theorem dX5_read_75 : decode cX5_read 75 = .ok (.aload_n 0, 1) := by decide +kernel
theorem dX5_read_76 : decode cX5_read 76 = .ok (.getfield 105, 3) := by decide +kernel
theorem dX5_read_79 : decode cX5_read 79 = .ok (.imul, 1) := by decide +kernel
theorem dX5_read_80 : decode cX5_read 80 = .ok (.if_icmp .ge 12, 3) := by decide +kernel
theorem dX5_read_83 : decode cX5_read 83 = .ok (.aload_n 0, 1) := by decide +kernel
theorem dX5_read_84 : decode cX5_read 84 = .ok (.getfield 28, 3) := by decide +kernel
theorem dX5_read_87 : decode cX5_read 87 = .ok (.iload_n 1, 1) := by decide +kernel
theorem dX5_read_88 : decode cX5_read 88 = .ok (.iaload, 1) := by decide +kernel
theorem dX5_read_89 : decode cX5_read 89 = .ok (.goto 4, 3) := by decide +kernel
theorem dX5_read_92 : decode cX5_read 92 = .ok (.iconst 0, 1) := by decide +kernel
theorem dX5_read_93 : decode cX5_read 93 = .ok (.invokevirtual 31, 3) := by decide +kernel
theorem dX5_read_96 : decode cX5_read 96 = .ok (.iinc 1 1, 3) := by decide +kernel
theorem dX5_read_99 : decode cX5_read 99 = .ok (.goto (-40), 3) := by decide +kernel
theorem dX5_read_102 : decode cX5_read 102 = .ok (.goto (-81), 3) := by decide +kernel
theorem dX5_read_105 : decode cX5_read 105 = .ok (.aload_n 0, 1) := by decide +kernel
theorem dX5_read_106 : decode cX5_read 106 = .ok (.iconst 0, 1) := by decide +kernel
theorem dX5_read_107 : decode cX5_read 107 = .ok (.putfield 92, 3) := by decide +kernel
theorem dX5_read_110 : decode cX5_read 110 = .ok (.aload_n 0, 1) := by decide +kernel
theorem dX5_read_111 : decode cX5_read 111 = .ok (.invokevirtual 108, 3) := by decide +kernel
theorem dX5_read_114 : decode cX5_read 114 = .ok (.ireturn, 1) := by decide +kernel
set_option maxRecDepth 20000 in
theorem ggX5_press_X5_within : GoodIn wsX5_press wsX5_within := goodIn_r _ [5] (by decide +kernel) (by decide +kernel)
set_option maxRecDepth 20000 in
theorem gX5_press_X5_within : GoodIn wsX5_press (va_wsS RX5 43 yX5_within wsX5_within) := goodIn_app (goodIn_of _ (by decide +kernel)) ggX5_press_X5_within
set_option maxRecDepth 20000 in
theorem ggX5_press_X5_has : GoodIn wsX5_press wsX5_has := goodIn_r _ [8] (by decide +kernel) (by decide +kernel)
set_option maxRecDepth 20000 in
theorem gX5_press_X5_has : GoodIn wsX5_press (va_wsS RX5 67 yX5_has wsX5_has) := goodIn_app (goodIn_of _ (by decide +kernel)) ggX5_press_X5_has
set_option maxRecDepth 20000 in
theorem ggX5_press_X5_record : GoodIn wsX5_press wsX5_record := goodIn_r _ [12, 13, 14, 1, 15, 16, 4, 17, 42, 43, 44, 45, 46, 47, 48, 49, 50, 51, 52, 53] (by decide +kernel) (by decide +kernel)
set_option maxRecDepth 20000 in
theorem gX5_press_X5_record : GoodIn wsX5_press (wsV RX5 83 RX5 yX5_record wsX5_record) := goodIn_app (goodIn_of _ (by decide +kernel)) ggX5_press_X5_record
set_option maxRecDepth 20000 in
theorem ggX5_press_X5_wanting : GoodIn wsX5_press wsX5_wanting := goodIn_r _ [21, 1, 22, 23, 24, 4, 25, 26, 27, 28, 29, 30, 31, 32, 33, 34, 35, 36, 37, 38, 39, 40, 41, 42, 43, 44, 45, 46, 47, 48, 49, 50, 51, 52, 53] (by decide +kernel) (by decide +kernel)
set_option maxRecDepth 20000 in
theorem gX5_press_X5_wanting : GoodIn wsX5_press (wsV RX5 70 RX5 yX5_wanting wsX5_wanting) := goodIn_app (goodIn_of _ (by decide +kernel)) ggX5_press_X5_wanting
theorem dX5_press_0 : decode cX5_press 0 = .ok (.iload_n 1, 1) := by decide +kernel
theorem dX5_press_1 : decode cX5_press 1 = .ok (.iconst 0, 1) := by decide +kernel
theorem dX5_press_2 : decode cX5_press 2 = .ok (.iconst 5, 1) := by decide +kernel
theorem dX5_press_3 : decode cX5_press 3 = .ok (.invokestatic 43, 3) := by decide +kernel
theorem dX5_press_6 : decode cX5_press 6 = .ok (.ifCond .ne 5, 3) := by decide +kernel
theorem dX5_press_9 : decode cX5_press 9 = .ok (.iconst (-1), 1) := by decide +kernel
theorem dX5_press_10 : decode cX5_press 10 = .ok (.ireturn, 1) := by decide +kernel
theorem dX5_press_11 : decode cX5_press 11 = .ok (.aload_n 0, 1) := by decide +kernel
theorem dX5_press_12 : decode cX5_press 12 = .ok (.getfield 7, 3) := by decide +kernel
theorem dX5_press_15 : decode cX5_press 15 = .ok (.iconst 2, 1) := by decide +kernel
theorem dX5_press_16 : decode cX5_press 16 = .ok (.iaload, 1) := by decide +kernel
theorem dX5_press_17 : decode cX5_press 17 = .ok (.iload_n 1, 1) := by decide +kernel
theorem dX5_press_18 : decode cX5_press 18 = .ok (.invokestatic 67, 3) := by decide +kernel
theorem dX5_press_21 : decode cX5_press 21 = .ok (.iload_n 2, 1) := by decide +kernel
theorem dX5_press_22 : decode cX5_press 22 = .ok (.if_icmp .ne 6, 3) := by decide +kernel
theorem dX5_press_25 : decode cX5_press 25 = .ok (.bipush (-5), 2) := by decide +kernel
theorem dX5_press_27 : decode cX5_press 27 = .ok (.ireturn, 1) := by decide +kernel
theorem dX5_press_28 : decode cX5_press 28 = .ok (.aload_n 0, 1) := by decide +kernel
theorem dX5_press_29 : decode cX5_press 29 = .ok (.invokevirtual 83, 3) := by decide +kernel
theorem dX5_press_32 : decode cX5_press 32 = .ok (.aload_n 0, 1) := by decide +kernel
theorem dX5_press_33 : decode cX5_press 33 = .ok (.getfield 7, 3) := by decide +kernel
theorem dX5_press_36 : decode cX5_press 36 = .ok (.iconst 2, 1) := by decide +kernel
theorem dX5_press_37 : decode cX5_press 37 = .ok (.dup2, 1) := by decide +kernel
theorem dX5_press_38 : decode cX5_press 38 = .ok (.iaload, 1) := by decide +kernel
theorem dX5_press_39 : decode cX5_press 39 = .ok (.iconst 1, 1) := by decide +kernel
theorem dX5_press_40 : decode cX5_press 40 = .ok (.iload_n 1, 1) := by decide +kernel
theorem dX5_press_41 : decode cX5_press 41 = .ok (.ishl, 1) := by decide +kernel
theorem dX5_press_42 : decode cX5_press 42 = .ok (.ixor, 1) := by decide +kernel
theorem dX5_press_43 : decode cX5_press 43 = .ok (.iastore, 1) := by decide +kernel
theorem dX5_press_44 : decode cX5_press 44 = .ok (.aload_n 0, 1) := by decide +kernel
theorem dX5_press_45 : decode cX5_press 45 = .ok (.invokevirtual 70, 3) := by decide +kernel
theorem dX5_press_48 : decode cX5_press 48 = .ok (.ireturn, 1) := by decide +kernel
set_option maxRecDepth 20000 in
theorem ggX5_weld_X5_isRelay : GoodIn wsX5_weld wsX5_isRelay := goodIn_r _ [5, 6, 7, 4, 8] (by decide +kernel) (by decide +kernel)
set_option maxRecDepth 20000 in
theorem gX5_weld_X5_isRelay : GoodIn wsX5_weld (va_wsS RX5 80 yX5_isRelay wsX5_isRelay) := goodIn_app (goodIn_of _ (by decide +kernel)) ggX5_weld_X5_isRelay
set_option maxRecDepth 20000 in
theorem ggX5_weld_X5_has : GoodIn wsX5_weld wsX5_has := goodIn_r _ [11] (by decide +kernel) (by decide +kernel)
set_option maxRecDepth 20000 in
theorem gX5_weld_X5_has : GoodIn wsX5_weld (va_wsS RX5 67 yX5_has wsX5_has) := goodIn_app (goodIn_of _ (by decide +kernel)) ggX5_weld_X5_has
set_option maxRecDepth 20000 in
theorem ggX5_weld_X5_record : GoodIn wsX5_weld wsX5_record := goodIn_r _ [15, 16, 17, 1, 18, 19, 4, 20, 29, 30, 31, 32, 33, 34, 35, 36, 37, 38, 39, 40] (by decide +kernel) (by decide +kernel)
set_option maxRecDepth 20000 in
theorem gX5_weld_X5_record : GoodIn wsX5_weld (wsV RX5 83 RX5 yX5_record wsX5_record) := goodIn_app (goodIn_of _ (by decide +kernel)) ggX5_weld_X5_record
set_option maxRecDepth 20000 in
theorem ggX5_weld_X5_part : GoodIn wsX5_weld wsX5_part := goodIn_r _ [24, 1, 29, 30, 31, 32, 33, 34, 35, 36, 37, 38, 39, 40] (by decide +kernel) (by decide +kernel)
set_option maxRecDepth 20000 in
theorem gX5_weld_X5_part : GoodIn wsX5_weld (wsV RX5 47 RX5 yX5_part wsX5_part) := goodIn_app (goodIn_of _ (by decide +kernel)) ggX5_weld_X5_part
set_option maxRecDepth 20000 in
theorem ggX5_weld_X5_setPart : GoodIn wsX5_weld wsX5_setPart := goodIn_r _ [28, 1, 29, 30, 31, 32, 33, 34, 35, 36, 37, 38, 39, 40] (by decide +kernel) (by decide +kernel)
set_option maxRecDepth 20000 in
theorem gX5_weld_X5_setPart : GoodIn wsX5_weld (wsV RX5 31 RX5 yX5_setPart wsX5_setPart) := goodIn_app (goodIn_of _ (by decide +kernel)) ggX5_weld_X5_setPart
theorem dX5_weld_0 : decode cX5_weld 0 = .ok (.iload_n 1, 1) := by decide +kernel
theorem dX5_weld_1 : decode cX5_weld 1 = .ok (.invokestatic 80, 3) := by decide +kernel
theorem dX5_weld_4 : decode cX5_weld 4 = .ok (.ifCond .ne 5, 3) := by decide +kernel
theorem dX5_weld_7 : decode cX5_weld 7 = .ok (.iconst (-1), 1) := by decide +kernel
theorem dX5_weld_8 : decode cX5_weld 8 = .ok (.ireturn, 1) := by decide +kernel
theorem dX5_weld_9 : decode cX5_weld 9 = .ok (.aload_n 0, 1) := by decide +kernel
theorem dX5_weld_10 : decode cX5_weld 10 = .ok (.getfield 7, 3) := by decide +kernel
theorem dX5_weld_13 : decode cX5_weld 13 = .ok (.iconst 1, 1) := by decide +kernel
theorem dX5_weld_14 : decode cX5_weld 14 = .ok (.iaload, 1) := by decide +kernel
theorem dX5_weld_15 : decode cX5_weld 15 = .ok (.iload_n 1, 1) := by decide +kernel
theorem dX5_weld_16 : decode cX5_weld 16 = .ok (.invokestatic 67, 3) := by decide +kernel
theorem dX5_weld_19 : decode cX5_weld 19 = .ok (.iload_n 2, 1) := by decide +kernel
theorem dX5_weld_20 : decode cX5_weld 20 = .ok (.if_icmp .eq 20, 3) := by decide +kernel
theorem dX5_weld_23 : decode cX5_weld 23 = .ok (.iload_n 2, 1) := by decide +kernel
theorem dX5_weld_24 : decode cX5_weld 24 = .ok (.ifCond .eq 19, 3) := by decide +kernel
theorem dX5_weld_27 : decode cX5_weld 27 = .ok (.aload_n 0, 1) := by decide +kernel
theorem dX5_weld_28 : decode cX5_weld 28 = .ok (.getfield 7, 3) := by decide +kernel
theorem dX5_weld_31 : decode cX5_weld 31 = .ok (.iconst 0, 1) := by decide +kernel
theorem dX5_weld_32 : decode cX5_weld 32 = .ok (.iaload, 1) := by decide +kernel
theorem dX5_weld_33 : decode cX5_weld 33 = .ok (.iload_n 1, 1) := by decide +kernel
theorem dX5_weld_34 : decode cX5_weld 34 = .ok (.invokestatic 67, 3) := by decide +kernel
theorem dX5_weld_37 : decode cX5_weld 37 = .ok (.ifCond .ne 6, 3) := by decide +kernel
theorem dX5_weld_40 : decode cX5_weld 40 = .ok (.bipush (-5), 2) := by decide +kernel
theorem dX5_weld_42 : decode cX5_weld 42 = .ok (.ireturn, 1) := by decide +kernel
theorem dX5_weld_43 : decode cX5_weld 43 = .ok (.aload_n 0, 1) := by decide +kernel
theorem dX5_weld_44 : decode cX5_weld 44 = .ok (.invokevirtual 83, 3) := by decide +kernel
theorem dX5_weld_47 : decode cX5_weld 47 = .ok (.aload_n 0, 1) := by decide +kernel
theorem dX5_weld_48 : decode cX5_weld 48 = .ok (.iload_n 1, 1) := by decide +kernel
theorem dX5_weld_49 : decode cX5_weld 49 = .ok (.iconst 3, 1) := by decide +kernel
theorem dX5_weld_50 : decode cX5_weld 50 = .ok (.invokevirtual 47, 3) := by decide +kernel
theorem dX5_weld_53 : decode cX5_weld 53 = .ok (.istore_n 3, 1) := by decide +kernel
theorem dX5_weld_54 : decode cX5_weld 54 = .ok (.aload_n 0, 1) := by decide +kernel
theorem dX5_weld_55 : decode cX5_weld 55 = .ok (.getfield 7, 3) := by decide +kernel
theorem dX5_weld_58 : decode cX5_weld 58 = .ok (.iconst 1, 1) := by decide +kernel
theorem dX5_weld_59 : decode cX5_weld 59 = .ok (.dup2, 1) := by decide +kernel
theorem dX5_weld_60 : decode cX5_weld 60 = .ok (.iaload, 1) := by decide +kernel
theorem dX5_weld_61 : decode cX5_weld 61 = .ok (.iconst 1, 1) := by decide +kernel
theorem dX5_weld_62 : decode cX5_weld 62 = .ok (.iload_n 1, 1) := by decide +kernel
theorem dX5_weld_63 : decode cX5_weld 63 = .ok (.ishl, 1) := by decide +kernel
theorem dX5_weld_64 : decode cX5_weld 64 = .ok (.ixor, 1) := by decide +kernel
theorem dX5_weld_65 : decode cX5_weld 65 = .ok (.iastore, 1) := by decide +kernel
theorem dX5_weld_66 : decode cX5_weld 66 = .ok (.iload_n 2, 1) := by decide +kernel
theorem dX5_weld_67 : decode cX5_weld 67 = .ok (.ifCond .ne 10, 3) := by decide +kernel
theorem dX5_weld_70 : decode cX5_weld 70 = .ok (.aload_n 0, 1) := by decide +kernel
theorem dX5_weld_71 : decode cX5_weld 71 = .ok (.iload_n 1, 1) := by decide +kernel
theorem dX5_weld_72 : decode cX5_weld 72 = .ok (.iconst 3, 1) := by decide +kernel
theorem dX5_weld_73 : decode cX5_weld 73 = .ok (.iconst 0, 1) := by decide +kernel
theorem dX5_weld_74 : decode cX5_weld 74 = .ok (.invokevirtual 31, 3) := by decide +kernel
theorem dX5_weld_77 : decode cX5_weld 77 = .ok (.iload_n 3, 1) := by decide +kernel
theorem dX5_weld_78 : decode cX5_weld 78 = .ok (.ireturn, 1) := by decide +kernel
set_option maxRecDepth 20000 in
theorem ggX5_passes_X5_tick : GoodIn wsX5_passes wsX5_tick := goodIn_r _ [6, 1, 7, 8, 9, 5, 10, 11, 12, 13, 14, 15, 16, 17, 18, 19, 20, 21, 22, 23, 24, 25, 26, 27, 28, 29, 30, 31, 32, 33, 34, 35, 36, 37, 38, 39, 40, 41, 42, 43, 44, 45, 46, 47, 48, 49, 50, 51, 52, 53] (by decide +kernel) (by decide +kernel)
set_option maxRecDepth 20000 in
theorem gX5_passes_X5_tick : GoodIn wsX5_passes (wsV RX5 77 RX5 yX5_tick wsX5_tick) := goodIn_app (goodIn_of _ (by decide +kernel)) ggX5_passes_X5_tick
theorem dX5_passes_0 : decode cX5_passes 0 = .ok (.aload_n 0, 1) := by decide +kernel
theorem dX5_passes_1 : decode cX5_passes 1 = .ok (.getfield 7, 3) := by decide +kernel
theorem dX5_passes_4 : decode cX5_passes 4 = .ok (.iconst 4, 1) := by decide +kernel
theorem dX5_passes_5 : decode cX5_passes 5 = .ok (.iaload, 1) := by decide +kernel
theorem dX5_passes_6 : decode cX5_passes 6 = .ok (.istore_n 2, 1) := by decide +kernel
theorem dX5_passes_7 : decode cX5_passes 7 = .ok (.iconst 0, 1) := by decide +kernel
theorem dX5_passes_8 : decode cX5_passes 8 = .ok (.istore_n 3, 1) := by decide +kernel
theorem dX5_passes_9 : decode cX5_passes 9 = .ok (.iload_n 3, 1) := by decide +kernel
theorem dX5_passes_10 : decode cX5_passes 10 = .ok (.iload_n 1, 1) := by decide +kernel
theorem dX5_passes_11 : decode cX5_passes 11 = .ok (.if_icmp .ge 13, 3) := by decide +kernel
theorem dX5_passes_14 : decode cX5_passes 14 = .ok (.aload_n 0, 1) := by decide +kernel
theorem dX5_passes_15 : decode cX5_passes 15 = .ok (.invokevirtual 77, 3) := by decide +kernel
theorem dX5_passes_18 : decode cX5_passes 18 = .ok (.iinc 3 1, 3) := by decide +kernel
theorem dX5_passes_21 : decode cX5_passes 21 = .ok (.goto (-12), 3) := by decide +kernel
theorem dX5_passes_24 : decode cX5_passes 24 = .ok (.aload_n 0, 1) := by decide +kernel
theorem dX5_passes_25 : decode cX5_passes 25 = .ok (.getfield 7, 3) := by decide +kernel
theorem dX5_passes_28 : decode cX5_passes 28 = .ok (.iconst 4, 1) := by decide +kernel
theorem dX5_passes_29 : decode cX5_passes 29 = .ok (.iaload, 1) := by decide +kernel
theorem dX5_passes_30 : decode cX5_passes 30 = .ok (.iload_n 2, 1) := by decide +kernel
theorem dX5_passes_31 : decode cX5_passes 31 = .ok (.isub, 1) := by decide +kernel
theorem dX5_passes_32 : decode cX5_passes 32 = .ok (.ireturn, 1) := by decide +kernel
set_option maxRecDepth 20000 in
theorem ggX5_pass_X5_within : GoodIn wsX5_pass wsX5_within := goodIn_r _ [4] (by decide +kernel) (by decide +kernel)
set_option maxRecDepth 20000 in
theorem gX5_pass_X5_within : GoodIn wsX5_pass (va_wsS RX5 43 yX5_within wsX5_within) := goodIn_app (goodIn_of _ (by decide +kernel)) ggX5_pass_X5_within
set_option maxRecDepth 20000 in
theorem ggX5_pass_X5_record : GoodIn wsX5_pass wsX5_record := goodIn_r _ [8, 9, 10, 11, 12, 13, 3, 14, 58, 59, 60, 61, 62, 63, 64, 65, 66, 67, 68, 69] (by decide +kernel) (by decide +kernel)
set_option maxRecDepth 20000 in
theorem gX5_pass_X5_record : GoodIn wsX5_pass (wsV RX5 83 RX5 yX5_record wsX5_record) := goodIn_app (goodIn_of _ (by decide +kernel)) ggX5_pass_X5_record
set_option maxRecDepth 20000 in
theorem ggX5_pass_X5_passes : GoodIn wsX5_pass wsX5_passes := goodIn_r _ [18, 11, 19, 20, 21, 3, 22, 23, 24, 25, 26, 27, 28, 29, 30, 31, 32, 33, 34, 35, 36, 37, 38, 39, 40, 41, 42, 43, 44, 45, 46, 47, 48, 49, 50, 51, 52, 53, 54, 55, 56, 57, 58, 59, 60, 61, 62, 63, 64, 65, 66, 67, 68, 69] (by decide +kernel) (by decide +kernel)
set_option maxRecDepth 20000 in
theorem gX5_pass_X5_passes : GoodIn wsX5_pass (wsV RX5 111 RX5 yX5_passes wsX5_passes) := goodIn_app (goodIn_of _ (by decide +kernel)) ggX5_pass_X5_passes
theorem dX5_pass_0 : decode cX5_pass 0 = .ok (.iload_n 1, 1) := by decide +kernel
theorem dX5_pass_1 : decode cX5_pass 1 = .ok (.iconst 1, 1) := by decide +kernel
theorem dX5_pass_2 : decode cX5_pass 2 = .ok (.sipush 200, 3) := by decide +kernel
theorem dX5_pass_5 : decode cX5_pass 5 = .ok (.invokestatic 43, 3) := by decide +kernel
theorem dX5_pass_8 : decode cX5_pass 8 = .ok (.ifCond .ne 6, 3) := by decide +kernel
theorem dX5_pass_11 : decode cX5_pass 11 = .ok (.bipush (-2), 2) := by decide +kernel
theorem dX5_pass_13 : decode cX5_pass 13 = .ok (.ireturn, 1) := by decide +kernel
theorem dX5_pass_14 : decode cX5_pass 14 = .ok (.aload_n 0, 1) := by decide +kernel
theorem dX5_pass_15 : decode cX5_pass 15 = .ok (.invokevirtual 83, 3) := by decide +kernel
theorem dX5_pass_18 : decode cX5_pass 18 = .ok (.aload_n 0, 1) := by decide +kernel
theorem dX5_pass_19 : decode cX5_pass 19 = .ok (.iload_n 1, 1) := by decide +kernel
theorem dX5_pass_20 : decode cX5_pass 20 = .ok (.invokevirtual 111, 3) := by decide +kernel
theorem dX5_pass_23 : decode cX5_pass 23 = .ok (.ireturn, 1) := by decide +kernel
set_option maxRecDepth 20000 in
theorem ggX5_settle_X5_record : GoodIn wsX5_settle wsX5_record := goodIn_r _ [5, 6, 7, 8, 9, 10, 4, 11, 55, 56, 57, 58, 59, 60, 61, 62, 63, 64, 65, 66] (by decide +kernel) (by decide +kernel)
set_option maxRecDepth 20000 in
theorem gX5_settle_X5_record : GoodIn wsX5_settle (wsV RX5 83 RX5 yX5_record wsX5_record) := goodIn_app (goodIn_of _ (by decide +kernel)) ggX5_settle_X5_record
set_option maxRecDepth 20000 in
theorem ggX5_settle_X5_settles : GoodIn wsX5_settle wsX5_settles := goodIn_r _ [15, 16, 17, 18, 4, 19, 8, 20, 21, 22, 23, 24, 25, 26, 27, 28, 29, 30, 31, 32, 33, 34, 35, 36, 37, 38, 39, 40, 41, 42, 43, 44, 45, 46, 47, 48, 49, 50, 51, 52, 53, 54, 55, 56, 57, 58, 59, 60, 61, 62, 63, 64, 65, 66] (by decide +kernel) (by decide +kernel)
set_option maxRecDepth 20000 in
theorem gX5_settle_X5_settles : GoodIn wsX5_settle (wsV RX5 115 RX5 yX5_settles wsX5_settles) := goodIn_app (goodIn_of _ (by decide +kernel)) ggX5_settle_X5_settles
set_option maxRecDepth 20000 in
theorem ggX5_settle_X5_wanting : GoodIn wsX5_settle wsX5_wanting := goodIn_r _ [19, 8, 20, 21, 22, 4, 23, 24, 25, 26, 27, 28, 29, 30, 31, 32, 33, 34, 35, 36, 37, 38, 39, 55, 56, 57, 58, 59, 60, 61, 62, 63, 64, 65, 66] (by decide +kernel) (by decide +kernel)
set_option maxRecDepth 20000 in
theorem gX5_settle_X5_wanting : GoodIn wsX5_settle (wsV RX5 70 RX5 yX5_wanting wsX5_wanting) := goodIn_app (goodIn_of _ (by decide +kernel)) ggX5_settle_X5_wanting
theorem dX5_settle_0 : decode cX5_settle 0 = .ok (.aload_n 0, 1) := by decide +kernel
theorem dX5_settle_1 : decode cX5_settle 1 = .ok (.invokevirtual 83, 3) := by decide +kernel
theorem dX5_settle_4 : decode cX5_settle 4 = .ok (.aload_n 0, 1) := by decide +kernel
theorem dX5_settle_5 : decode cX5_settle 5 = .ok (.invokevirtual 115, 3) := by decide +kernel
theorem dX5_settle_8 : decode cX5_settle 8 = .ok (.istore_n 1, 1) := by decide +kernel
theorem dX5_settle_9 : decode cX5_settle 9 = .ok (.aload_n 0, 1) := by decide +kernel
theorem dX5_settle_10 : decode cX5_settle 10 = .ok (.invokevirtual 70, 3) := by decide +kernel
theorem dX5_settle_13 : decode cX5_settle 13 = .ok (.ifCond .ne 7, 3) := by decide +kernel
theorem dX5_settle_16 : decode cX5_settle 16 = .ok (.iload_n 1, 1) := by decide +kernel
theorem dX5_settle_17 : decode cX5_settle 17 = .ok (.goto 8, 3) := by decide +kernel
theorem dX5_settle_20 : decode cX5_settle 20 = .ok (.iload_n 1, 1) := by decide +kernel
theorem dX5_settle_21 : decode cX5_settle 21 = .ok (.sipush 1000, 3) := by decide +kernel
theorem dX5_settle_24 : decode cX5_settle 24 = .ok (.iadd, 1) := by decide +kernel
theorem dX5_settle_25 : decode cX5_settle 25 = .ok (.ireturn, 1) := by decide +kernel
set_option maxRecDepth 20000 in
theorem ggX5_holdsItself_X5_part : GoodIn wsX5_holdsItself wsX5_part := goodIn_r _ [5, 6, 14, 15, 16, 17, 18, 19, 20, 21, 22, 23, 24, 25] (by decide +kernel) (by decide +kernel)
set_option maxRecDepth 20000 in
theorem gX5_holdsItself_X5_part : GoodIn wsX5_holdsItself (wsV RX5 47 RX5 yX5_part wsX5_part) := goodIn_app (goodIn_of _ (by decide +kernel)) ggX5_holdsItself_X5_part
set_option maxRecDepth 20000 in
theorem ggX5_holdsItself_X5_ofBranch : GoodIn wsX5_holdsItself wsX5_ofBranch := goodIn_r _ [10, 1, 2, 3, 4, 5, 6, 14, 15, 16, 17, 18, 19, 20, 21, 22, 23, 24, 25] (by decide +kernel) (by decide +kernel)
set_option maxRecDepth 20000 in
theorem gX5_holdsItself_X5_ofBranch : GoodIn wsX5_holdsItself (wsV RX5 51 RX5 yX5_ofBranch wsX5_ofBranch) := goodIn_app (goodIn_of _ (by decide +kernel)) ggX5_holdsItself_X5_ofBranch
set_option maxRecDepth 20000 in
theorem ggX5_holdsItself_X5_has : GoodIn wsX5_holdsItself wsX5_has := goodIn_r _ [13] (by decide +kernel) (by decide +kernel)
set_option maxRecDepth 20000 in
theorem gX5_holdsItself_X5_has : GoodIn wsX5_holdsItself (va_wsS RX5 67 yX5_has wsX5_has) := goodIn_app (goodIn_of _ (by decide +kernel)) ggX5_holdsItself_X5_has
theorem dX5_holdsItself_0 : decode cX5_holdsItself 0 = .ok (.iconst 0, 1) := by decide +kernel
theorem dX5_holdsItself_1 : decode cX5_holdsItself 1 = .ok (.istore_n 2, 1) := by decide +kernel
theorem dX5_holdsItself_2 : decode cX5_holdsItself 2 = .ok (.iconst 0, 1) := by decide +kernel
theorem dX5_holdsItself_3 : decode cX5_holdsItself 3 = .ok (.istore_n 3, 1) := by decide +kernel
theorem dX5_holdsItself_4 : decode cX5_holdsItself 4 = .ok (.iload_n 3, 1) := by decide +kernel
theorem dX5_holdsItself_5 : decode cX5_holdsItself 5 = .ok (.aload_n 0, 1) := by decide +kernel
theorem dX5_holdsItself_6 : decode cX5_holdsItself 6 = .ok (.iload_n 1, 1) := by decide +kernel
theorem dX5_holdsItself_7 : decode cX5_holdsItself 7 = .ok (.iconst 4, 1) := by decide +kernel
theorem dX5_holdsItself_8 : decode cX5_holdsItself 8 = .ok (.invokevirtual 47, 3) := by decide +kernel
theorem dX5_holdsItself_11 : decode cX5_holdsItself 11 = .ok (.if_icmp .ge 33, 3) := by decide +kernel
theorem dX5_holdsItself_14 : decode cX5_holdsItself 14 = .ok (.iload_n 2, 1) := by decide +kernel
theorem dX5_holdsItself_15 : decode cX5_holdsItself 15 = .ok (.ifCond .ne 17, 3) := by decide +kernel
theorem dX5_holdsItself_18 : decode cX5_holdsItself 18 = .ok (.aload_n 0, 1) := by decide +kernel
theorem dX5_holdsItself_19 : decode cX5_holdsItself 19 = .ok (.iload_n 1, 1) := by decide +kernel
theorem dX5_holdsItself_20 : decode cX5_holdsItself 20 = .ok (.iload_n 3, 1) := by decide +kernel
theorem dX5_holdsItself_21 : decode cX5_holdsItself 21 = .ok (.iconst 0, 1) := by decide +kernel
theorem dX5_holdsItself_22 : decode cX5_holdsItself 22 = .ok (.invokevirtual 51, 3) := by decide +kernel
theorem dX5_holdsItself_25 : decode cX5_holdsItself 25 = .ok (.iload_n 1, 1) := by decide +kernel
theorem dX5_holdsItself_26 : decode cX5_holdsItself 26 = .ok (.invokestatic 67, 3) := by decide +kernel
theorem dX5_holdsItself_29 : decode cX5_holdsItself 29 = .ok (.ifCond .eq 7, 3) := by decide +kernel
theorem dX5_holdsItself_32 : decode cX5_holdsItself 32 = .ok (.iconst 1, 1) := by decide +kernel
theorem dX5_holdsItself_33 : decode cX5_holdsItself 33 = .ok (.goto 4, 3) := by decide +kernel
theorem dX5_holdsItself_36 : decode cX5_holdsItself 36 = .ok (.iconst 0, 1) := by decide +kernel
theorem dX5_holdsItself_37 : decode cX5_holdsItself 37 = .ok (.istore_n 2, 1) := by decide +kernel
theorem dX5_holdsItself_38 : decode cX5_holdsItself 38 = .ok (.iinc 3 1, 3) := by decide +kernel
theorem dX5_holdsItself_41 : decode cX5_holdsItself 41 = .ok (.goto (-37), 3) := by decide +kernel
theorem dX5_holdsItself_44 : decode cX5_holdsItself 44 = .ok (.iload_n 2, 1) := by decide +kernel
theorem dX5_holdsItself_45 : decode cX5_holdsItself 45 = .ok (.ireturn, 1) := by decide +kernel
set_option maxRecDepth 20000 in
theorem ggX5_relaysWith_X5_part : GoodIn wsX5_relaysWith wsX5_part := goodIn_r _ [5, 6, 14, 15, 16, 17, 18, 19, 20, 21, 22, 23, 24, 25] (by decide +kernel) (by decide +kernel)
set_option maxRecDepth 20000 in
theorem gX5_relaysWith_X5_part : GoodIn wsX5_relaysWith (wsV RX5 47 RX5 yX5_part wsX5_part) := goodIn_app (goodIn_of _ (by decide +kernel)) ggX5_relaysWith_X5_part
set_option maxRecDepth 20000 in
theorem ggX5_relaysWith_X5_ofBranch : GoodIn wsX5_relaysWith wsX5_ofBranch := goodIn_r _ [10, 1, 2, 3, 4, 5, 6, 14, 15, 16, 17, 18, 19, 20, 21, 22, 23, 24, 25] (by decide +kernel) (by decide +kernel)
set_option maxRecDepth 20000 in
theorem gX5_relaysWith_X5_ofBranch : GoodIn wsX5_relaysWith (wsV RX5 51 RX5 yX5_ofBranch wsX5_ofBranch) := goodIn_app (goodIn_of _ (by decide +kernel)) ggX5_relaysWith_X5_ofBranch
set_option maxRecDepth 20000 in
theorem ggX5_relaysWith_X5_has : GoodIn wsX5_relaysWith wsX5_has := goodIn_r _ [13] (by decide +kernel) (by decide +kernel)
set_option maxRecDepth 20000 in
theorem gX5_relaysWith_X5_has : GoodIn wsX5_relaysWith (va_wsS RX5 67 yX5_has wsX5_has) := goodIn_app (goodIn_of _ (by decide +kernel)) ggX5_relaysWith_X5_has
theorem dX5_relaysWith_0 : decode cX5_relaysWith 0 = .ok (.iconst 0, 1) := by decide +kernel
theorem dX5_relaysWith_1 : decode cX5_relaysWith 1 = .ok (.istore_n 2, 1) := by decide +kernel
theorem dX5_relaysWith_2 : decode cX5_relaysWith 2 = .ok (.iconst 0, 1) := by decide +kernel
theorem dX5_relaysWith_3 : decode cX5_relaysWith 3 = .ok (.istore_n 3, 1) := by decide +kernel
theorem dX5_relaysWith_4 : decode cX5_relaysWith 4 = .ok (.iload_n 3, 1) := by decide +kernel
theorem dX5_relaysWith_5 : decode cX5_relaysWith 5 = .ok (.bipush 10, 2) := by decide +kernel
theorem dX5_relaysWith_7 : decode cX5_relaysWith 7 = .ok (.if_icmp .ge 63, 3) := by decide +kernel
theorem dX5_relaysWith_10 : decode cX5_relaysWith 10 = .ok (.iconst 0, 1) := by decide +kernel
theorem dX5_relaysWith_11 : decode cX5_relaysWith 11 = .ok (.istore 4, 2) := by decide +kernel
theorem dX5_relaysWith_13 : decode cX5_relaysWith 13 = .ok (.iload 4, 2) := by decide +kernel
theorem dX5_relaysWith_15 : decode cX5_relaysWith 15 = .ok (.aload_n 0, 1) := by decide +kernel
theorem dX5_relaysWith_16 : decode cX5_relaysWith 16 = .ok (.iload_n 3, 1) := by decide +kernel
theorem dX5_relaysWith_17 : decode cX5_relaysWith 17 = .ok (.iconst 4, 1) := by decide +kernel
theorem dX5_relaysWith_18 : decode cX5_relaysWith 18 = .ok (.invokevirtual 47, 3) := by decide +kernel
theorem dX5_relaysWith_21 : decode cX5_relaysWith 21 = .ok (.if_icmp .ge 43, 3) := by decide +kernel
theorem dX5_relaysWith_24 : decode cX5_relaysWith 24 = .ok (.iload_n 2, 1) := by decide +kernel
theorem dX5_relaysWith_25 : decode cX5_relaysWith 25 = .ok (.aload_n 0, 1) := by decide +kernel
theorem dX5_relaysWith_26 : decode cX5_relaysWith 26 = .ok (.iload_n 3, 1) := by decide +kernel
theorem dX5_relaysWith_27 : decode cX5_relaysWith 27 = .ok (.iload 4, 2) := by decide +kernel
theorem dX5_relaysWith_29 : decode cX5_relaysWith 29 = .ok (.iconst 0, 1) := by decide +kernel
theorem dX5_relaysWith_30 : decode cX5_relaysWith 30 = .ok (.invokevirtual 51, 3) := by decide +kernel
theorem dX5_relaysWith_33 : decode cX5_relaysWith 33 = .ok (.aload_n 0, 1) := by decide +kernel
theorem dX5_relaysWith_34 : decode cX5_relaysWith 34 = .ok (.iload_n 3, 1) := by decide +kernel
theorem dX5_relaysWith_35 : decode cX5_relaysWith 35 = .ok (.iload 4, 2) := by decide +kernel
theorem dX5_relaysWith_37 : decode cX5_relaysWith 37 = .ok (.iconst 1, 1) := by decide +kernel
theorem dX5_relaysWith_38 : decode cX5_relaysWith 38 = .ok (.invokevirtual 51, 3) := by decide +kernel
theorem dX5_relaysWith_41 : decode cX5_relaysWith 41 = .ok (.ior, 1) := by decide +kernel
theorem dX5_relaysWith_42 : decode cX5_relaysWith 42 = .ok (.iload_n 1, 1) := by decide +kernel
theorem dX5_relaysWith_43 : decode cX5_relaysWith 43 = .ok (.invokestatic 67, 3) := by decide +kernel
theorem dX5_relaysWith_46 : decode cX5_relaysWith 46 = .ok (.ifCond .eq 9, 3) := by decide +kernel
theorem dX5_relaysWith_49 : decode cX5_relaysWith 49 = .ok (.iconst 1, 1) := by decide +kernel
theorem dX5_relaysWith_50 : decode cX5_relaysWith 50 = .ok (.iload_n 3, 1) := by decide +kernel
theorem dX5_relaysWith_51 : decode cX5_relaysWith 51 = .ok (.ishl, 1) := by decide +kernel
theorem dX5_relaysWith_52 : decode cX5_relaysWith 52 = .ok (.goto 4, 3) := by decide +kernel
theorem dX5_relaysWith_55 : decode cX5_relaysWith 55 = .ok (.iconst 0, 1) := by decide +kernel
theorem dX5_relaysWith_56 : decode cX5_relaysWith 56 = .ok (.ior, 1) := by decide +kernel
theorem dX5_relaysWith_57 : decode cX5_relaysWith 57 = .ok (.istore_n 2, 1) := by decide +kernel
theorem dX5_relaysWith_58 : decode cX5_relaysWith 58 = .ok (.iinc 4 1, 3) := by decide +kernel
theorem dX5_relaysWith_61 : decode cX5_relaysWith 61 = .ok (.goto (-48), 3) := by decide +kernel
theorem dX5_relaysWith_64 : decode cX5_relaysWith 64 = .ok (.iinc 3 1, 3) := by decide +kernel
theorem dX5_relaysWith_67 : decode cX5_relaysWith 67 = .ok (.goto (-63), 3) := by decide +kernel
theorem dX5_relaysWith_70 : decode cX5_relaysWith 70 = .ok (.iload_n 2, 1) := by decide +kernel
theorem dX5_relaysWith_71 : decode cX5_relaysWith 71 = .ok (.ireturn, 1) := by decide +kernel
set_option maxRecDepth 20000 in
theorem ggX5_relay_X5_isRelay : GoodIn wsX5_relay wsX5_isRelay := goodIn_r _ [5, 6, 7, 4, 8] (by decide +kernel) (by decide +kernel)
set_option maxRecDepth 20000 in
theorem gX5_relay_X5_isRelay : GoodIn wsX5_relay (va_wsS RX5 80 yX5_isRelay wsX5_isRelay) := goodIn_app (goodIn_of _ (by decide +kernel)) ggX5_relay_X5_isRelay
set_option maxRecDepth 20000 in
theorem ggX5_relay_X5_isFed : GoodIn wsX5_relay wsX5_isFed := goodIn_r _ [12, 13, 14, 15, 4, 16, 1, 17, 18, 19, 20, 21, 22, 23, 24, 44, 45, 46, 47, 48, 49, 50, 51, 52, 53, 54, 55] (by decide +kernel) (by decide +kernel)
set_option maxRecDepth 20000 in
theorem gX5_relay_X5_isFed : GoodIn wsX5_relay (wsV RX5 59 RX5 yX5_isFed wsX5_isFed) := goodIn_app (goodIn_of _ (by decide +kernel)) ggX5_relay_X5_isFed
set_option maxRecDepth 20000 in
theorem ggX5_relay_X5_wanting : GoodIn wsX5_relay wsX5_wanting := goodIn_r _ [28, 1, 29, 30, 31, 4, 32, 9, 10, 11, 12, 13, 14, 15, 16, 17, 18, 19, 20, 21, 22, 23, 24, 44, 45, 46, 47, 48, 49, 50, 51, 52, 53, 54, 55] (by decide +kernel) (by decide +kernel)
set_option maxRecDepth 20000 in
theorem gX5_relay_X5_wanting : GoodIn wsX5_relay (wsV RX5 70 RX5 yX5_wanting wsX5_wanting) := goodIn_app (goodIn_of _ (by decide +kernel)) ggX5_relay_X5_wanting
set_option maxRecDepth 20000 in
theorem ggX5_relay_X5_part : GoodIn wsX5_relay wsX5_part := goodIn_r _ [16, 1, 44, 45, 46, 47, 48, 49, 50, 51, 52, 53, 54, 55] (by decide +kernel) (by decide +kernel)
set_option maxRecDepth 20000 in
theorem gX5_relay_X5_part : GoodIn wsX5_relay (wsV RX5 47 RX5 yX5_part wsX5_part) := goodIn_app (goodIn_of _ (by decide +kernel)) ggX5_relay_X5_part
set_option maxRecDepth 20000 in
theorem ggX5_relay_X5_holdsItself : GoodIn wsX5_relay wsX5_holdsItself := goodIn_r _ [36, 13, 14, 15, 4, 16, 1, 21, 22, 23, 24, 37, 38, 39, 44, 45, 46, 47, 48, 49, 50, 51, 52, 53, 54, 55] (by decide +kernel) (by decide +kernel)
set_option maxRecDepth 20000 in
theorem gX5_relay_X5_holdsItself : GoodIn wsX5_relay (wsV RX5 118 RX5 yX5_holdsItself wsX5_holdsItself) := goodIn_app (goodIn_of _ (by decide +kernel)) ggX5_relay_X5_holdsItself
set_option maxRecDepth 20000 in
theorem ggX5_relay_X5_relaysWith : GoodIn wsX5_relay wsX5_relaysWith := goodIn_r _ [43, 13, 14, 15, 4, 16, 1, 21, 22, 23, 24, 37, 38, 39, 44, 45, 46, 47, 48, 49, 50, 51, 52, 53, 54, 55] (by decide +kernel) (by decide +kernel)
set_option maxRecDepth 20000 in
theorem gX5_relay_X5_relaysWith : GoodIn wsX5_relay (wsV RX5 121 RX5 yX5_relaysWith wsX5_relaysWith) := goodIn_app (goodIn_of _ (by decide +kernel)) ggX5_relay_X5_relaysWith
theorem dX5_relay_0 : decode cX5_relay 0 = .ok (.iload_n 1, 1) := by decide +kernel
theorem dX5_relay_1 : decode cX5_relay 1 = .ok (.invokestatic 80, 3) := by decide +kernel
theorem dX5_relay_4 : decode cX5_relay 4 = .ok (.ifCond .ne 5, 3) := by decide +kernel
theorem dX5_relay_7 : decode cX5_relay 7 = .ok (.iconst (-1), 1) := by decide +kernel
theorem dX5_relay_8 : decode cX5_relay 8 = .ok (.ireturn, 1) := by decide +kernel
theorem dX5_relay_9 : decode cX5_relay 9 = .ok (.iload_n 2, 1) := by decide +kernel
theorem dX5_relay_10 : decode cX5_relay 10 = .ok (.tableswitch 158 0 10 #[58, 69, 83, 94, 103, 110, 117, 124, 131, 138, 152], 58) := by decide +kernel
theorem dX5_relay_68 : decode cX5_relay 68 = .ok (.aload_n 0, 1) := by decide +kernel
theorem dX5_relay_69 : decode cX5_relay 69 = .ok (.getfield 7, 3) := by decide +kernel
theorem dX5_relay_72 : decode cX5_relay 72 = .ok (.iconst 0, 1) := by decide +kernel
theorem dX5_relay_73 : decode cX5_relay 73 = .ok (.iaload, 1) := by decide +kernel
theorem dX5_relay_74 : decode cX5_relay 74 = .ok (.iload_n 1, 1) := by decide +kernel
theorem dX5_relay_75 : decode cX5_relay 75 = .ok (.ishr, 1) := by decide +kernel
theorem dX5_relay_76 : decode cX5_relay 76 = .ok (.iconst 1, 1) := by decide +kernel
theorem dX5_relay_77 : decode cX5_relay 77 = .ok (.iand, 1) := by decide +kernel
theorem dX5_relay_78 : decode cX5_relay 78 = .ok (.ireturn, 1) := by decide +kernel
theorem dX5_relay_79 : decode cX5_relay 79 = .ok (.aload_n 0, 1) := by decide +kernel
theorem dX5_relay_80 : decode cX5_relay 80 = .ok (.iload_n 1, 1) := by decide +kernel
theorem dX5_relay_81 : decode cX5_relay 81 = .ok (.invokevirtual 59, 3) := by decide +kernel
theorem dX5_relay_84 : decode cX5_relay 84 = .ok (.ifCond .eq 7, 3) := by decide +kernel
theorem dX5_relay_87 : decode cX5_relay 87 = .ok (.iconst 1, 1) := by decide +kernel
theorem dX5_relay_88 : decode cX5_relay 88 = .ok (.goto 4, 3) := by decide +kernel
theorem dX5_relay_91 : decode cX5_relay 91 = .ok (.iconst 0, 1) := by decide +kernel
theorem dX5_relay_92 : decode cX5_relay 92 = .ok (.ireturn, 1) := by decide +kernel
theorem dX5_relay_93 : decode cX5_relay 93 = .ok (.aload_n 0, 1) := by decide +kernel
theorem dX5_relay_94 : decode cX5_relay 94 = .ok (.getfield 7, 3) := by decide +kernel
theorem dX5_relay_97 : decode cX5_relay 97 = .ok (.iconst 1, 1) := by decide +kernel
theorem dX5_relay_98 : decode cX5_relay 98 = .ok (.iaload, 1) := by decide +kernel
theorem dX5_relay_99 : decode cX5_relay 99 = .ok (.iload_n 1, 1) := by decide +kernel
theorem dX5_relay_100 : decode cX5_relay 100 = .ok (.ishr, 1) := by decide +kernel
theorem dX5_relay_101 : decode cX5_relay 101 = .ok (.iconst 1, 1) := by decide +kernel
theorem dX5_relay_102 : decode cX5_relay 102 = .ok (.iand, 1) := by decide +kernel
theorem dX5_relay_103 : decode cX5_relay 103 = .ok (.ireturn, 1) := by decide +kernel
theorem dX5_relay_104 : decode cX5_relay 104 = .ok (.aload_n 0, 1) := by decide +kernel
theorem dX5_relay_105 : decode cX5_relay 105 = .ok (.invokevirtual 70, 3) := by decide +kernel
theorem dX5_relay_108 : decode cX5_relay 108 = .ok (.iload_n 1, 1) := by decide +kernel
theorem dX5_relay_109 : decode cX5_relay 109 = .ok (.ishr, 1) := by decide +kernel
theorem dX5_relay_110 : decode cX5_relay 110 = .ok (.iconst 1, 1) := by decide +kernel
theorem dX5_relay_111 : decode cX5_relay 111 = .ok (.iand, 1) := by decide +kernel
theorem dX5_relay_112 : decode cX5_relay 112 = .ok (.ireturn, 1) := by decide +kernel
theorem dX5_relay_113 : decode cX5_relay 113 = .ok (.aload_n 0, 1) := by decide +kernel
theorem dX5_relay_114 : decode cX5_relay 114 = .ok (.iload_n 1, 1) := by decide +kernel
theorem dX5_relay_115 : decode cX5_relay 115 = .ok (.iconst 2, 1) := by decide +kernel
theorem dX5_relay_116 : decode cX5_relay 116 = .ok (.invokevirtual 47, 3) := by decide +kernel
theorem dX5_relay_119 : decode cX5_relay 119 = .ok (.ireturn, 1) := by decide +kernel
theorem dX5_relay_120 : decode cX5_relay 120 = .ok (.aload_n 0, 1) := by decide +kernel
theorem dX5_relay_121 : decode cX5_relay 121 = .ok (.iload_n 1, 1) := by decide +kernel
theorem dX5_relay_122 : decode cX5_relay 122 = .ok (.iconst 3, 1) := by decide +kernel
theorem dX5_relay_123 : decode cX5_relay 123 = .ok (.invokevirtual 47, 3) := by decide +kernel
theorem dX5_relay_126 : decode cX5_relay 126 = .ok (.ireturn, 1) := by decide +kernel
theorem dX5_relay_127 : decode cX5_relay 127 = .ok (.aload_n 0, 1) := by decide +kernel
theorem dX5_relay_128 : decode cX5_relay 128 = .ok (.iload_n 1, 1) := by decide +kernel
theorem dX5_relay_129 : decode cX5_relay 129 = .ok (.iconst 0, 1) := by decide +kernel
theorem dX5_relay_130 : decode cX5_relay 130 = .ok (.invokevirtual 47, 3) := by decide +kernel
theorem dX5_relay_133 : decode cX5_relay 133 = .ok (.ireturn, 1) := by decide +kernel
theorem dX5_relay_134 : decode cX5_relay 134 = .ok (.aload_n 0, 1) := by decide +kernel
theorem dX5_relay_135 : decode cX5_relay 135 = .ok (.iload_n 1, 1) := by decide +kernel
theorem dX5_relay_136 : decode cX5_relay 136 = .ok (.iconst 1, 1) := by decide +kernel
theorem dX5_relay_137 : decode cX5_relay 137 = .ok (.invokevirtual 47, 3) := by decide +kernel
theorem dX5_relay_140 : decode cX5_relay 140 = .ok (.ireturn, 1) := by decide +kernel
theorem dX5_relay_141 : decode cX5_relay 141 = .ok (.aload_n 0, 1) := by decide +kernel
theorem dX5_relay_142 : decode cX5_relay 142 = .ok (.iload_n 1, 1) := by decide +kernel
theorem dX5_relay_143 : decode cX5_relay 143 = .ok (.iconst 4, 1) := by decide +kernel
theorem dX5_relay_144 : decode cX5_relay 144 = .ok (.invokevirtual 47, 3) := by decide +kernel
theorem dX5_relay_147 : decode cX5_relay 147 = .ok (.ireturn, 1) := by decide +kernel
theorem dX5_relay_148 : decode cX5_relay 148 = .ok (.aload_n 0, 1) := by decide +kernel
theorem dX5_relay_149 : decode cX5_relay 149 = .ok (.iload_n 1, 1) := by decide +kernel
theorem dX5_relay_150 : decode cX5_relay 150 = .ok (.invokevirtual 118, 3) := by decide +kernel
theorem dX5_relay_153 : decode cX5_relay 153 = .ok (.ifCond .eq 7, 3) := by decide +kernel
theorem dX5_relay_156 : decode cX5_relay 156 = .ok (.iconst 1, 1) := by decide +kernel
theorem dX5_relay_157 : decode cX5_relay 157 = .ok (.goto 4, 3) := by decide +kernel
theorem dX5_relay_160 : decode cX5_relay 160 = .ok (.iconst 0, 1) := by decide +kernel
theorem dX5_relay_161 : decode cX5_relay 161 = .ok (.ireturn, 1) := by decide +kernel
theorem dX5_relay_162 : decode cX5_relay 162 = .ok (.aload_n 0, 1) := by decide +kernel
theorem dX5_relay_163 : decode cX5_relay 163 = .ok (.iload_n 1, 1) := by decide +kernel
theorem dX5_relay_164 : decode cX5_relay 164 = .ok (.invokevirtual 121, 3) := by decide +kernel
theorem dX5_relay_167 : decode cX5_relay 167 = .ok (.ireturn, 1) := by decide +kernel
theorem dX5_relay_168 : decode cX5_relay 168 = .ok (.bipush (-2), 2) := by decide +kernel
theorem dX5_relay_170 : decode cX5_relay 170 = .ok (.ireturn, 1) := by decide +kernel
set_option maxRecDepth 20000 in
theorem ggX5_branch_X5_isRelay : GoodIn wsX5_branch wsX5_isRelay := goodIn_r _ [4, 5, 6, 3, 7] (by decide +kernel) (by decide +kernel)
set_option maxRecDepth 20000 in
theorem gX5_branch_X5_isRelay : GoodIn wsX5_branch (va_wsS RX5 80 yX5_isRelay wsX5_isRelay) := goodIn_app (goodIn_of _ (by decide +kernel)) ggX5_branch_X5_isRelay
set_option maxRecDepth 20000 in
theorem ggX5_branch_X5_part : GoodIn wsX5_branch wsX5_part := goodIn_r _ [11, 12, 21, 22, 23, 24, 25, 26, 27, 28, 29, 30, 31, 32] (by decide +kernel) (by decide +kernel)
set_option maxRecDepth 20000 in
theorem gX5_branch_X5_part : GoodIn wsX5_branch (wsV RX5 47 RX5 yX5_part wsX5_part) := goodIn_app (goodIn_of _ (by decide +kernel)) ggX5_branch_X5_part
set_option maxRecDepth 20000 in
theorem ggX5_branch_X5_within : GoodIn wsX5_branch wsX5_within := goodIn_r _ [7] (by decide +kernel) (by decide +kernel)
set_option maxRecDepth 20000 in
theorem gX5_branch_X5_within : GoodIn wsX5_branch (va_wsS RX5 43 yX5_within wsX5_within) := goodIn_app (goodIn_of _ (by decide +kernel)) ggX5_branch_X5_within
set_option maxRecDepth 20000 in
theorem ggX5_branch_X5_isClosed : GoodIn wsX5_branch wsX5_isClosed := goodIn_r _ [16, 12, 17, 18, 19, 3, 20, 8, 9, 10, 11, 21, 22, 23, 24, 25, 26, 27, 28, 29, 30, 31, 32] (by decide +kernel) (by decide +kernel)
set_option maxRecDepth 20000 in
theorem gX5_branch_X5_isClosed : GoodIn wsX5_branch (wsV RX5 55 RX5 yX5_isClosed wsX5_isClosed) := goodIn_app (goodIn_of _ (by decide +kernel)) ggX5_branch_X5_isClosed
set_option maxRecDepth 20000 in
theorem ggX5_branch_X5_ofBranch : GoodIn wsX5_branch wsX5_ofBranch := goodIn_r _ [20, 8, 9, 10, 3, 11, 12, 21, 22, 23, 24, 25, 26, 27, 28, 29, 30, 31, 32] (by decide +kernel) (by decide +kernel)
set_option maxRecDepth 20000 in
theorem gX5_branch_X5_ofBranch : GoodIn wsX5_branch (wsV RX5 51 RX5 yX5_ofBranch wsX5_ofBranch) := goodIn_app (goodIn_of _ (by decide +kernel)) ggX5_branch_X5_ofBranch
theorem dX5_branch_0 : decode cX5_branch 0 = .ok (.iload_n 1, 1) := by decide +kernel
theorem dX5_branch_1 : decode cX5_branch 1 = .ok (.invokestatic 80, 3) := by decide +kernel
theorem dX5_branch_4 : decode cX5_branch 4 = .ok (.ifCond .eq 19, 3) := by decide +kernel
theorem dX5_branch_7 : decode cX5_branch 7 = .ok (.iload_n 2, 1) := by decide +kernel
theorem dX5_branch_8 : decode cX5_branch 8 = .ok (.iconst 0, 1) := by decide +kernel
theorem dX5_branch_9 : decode cX5_branch 9 = .ok (.aload_n 0, 1) := by decide +kernel
theorem dX5_branch_10 : decode cX5_branch 10 = .ok (.iload_n 1, 1) := by decide +kernel
theorem dX5_branch_11 : decode cX5_branch 11 = .ok (.iconst 4, 1) := by decide +kernel
theorem dX5_branch_12 : decode cX5_branch 12 = .ok (.invokevirtual 47, 3) := by decide +kernel
theorem dX5_branch_15 : decode cX5_branch 15 = .ok (.iconst 1, 1) := by decide +kernel
theorem dX5_branch_16 : decode cX5_branch 16 = .ok (.isub, 1) := by decide +kernel
theorem dX5_branch_17 : decode cX5_branch 17 = .ok (.invokestatic 43, 3) := by decide +kernel
theorem dX5_branch_20 : decode cX5_branch 20 = .ok (.ifCond .ne 5, 3) := by decide +kernel
theorem dX5_branch_23 : decode cX5_branch 23 = .ok (.iconst (-1), 1) := by decide +kernel
theorem dX5_branch_24 : decode cX5_branch 24 = .ok (.ireturn, 1) := by decide +kernel
theorem dX5_branch_25 : decode cX5_branch 25 = .ok (.sipush 1023, 3) := by decide +kernel
theorem dX5_branch_28 : decode cX5_branch 28 = .ok (.istore 4, 2) := by decide +kernel
theorem dX5_branch_30 : decode cX5_branch 30 = .ok (.iload_n 3, 1) := by decide +kernel
theorem dX5_branch_31 : decode cX5_branch 31 = .ok (.tableswitch 86 0 5 #[37, 52, 60, 60, 73, 73], 37) := by decide +kernel
theorem dX5_branch_68 : decode cX5_branch 68 = .ok (.aload_n 0, 1) := by decide +kernel
theorem dX5_branch_69 : decode cX5_branch 69 = .ok (.iload_n 1, 1) := by decide +kernel
theorem dX5_branch_70 : decode cX5_branch 70 = .ok (.iload_n 2, 1) := by decide +kernel
theorem dX5_branch_71 : decode cX5_branch 71 = .ok (.invokevirtual 55, 3) := by decide +kernel
theorem dX5_branch_74 : decode cX5_branch 74 = .ok (.ifCond .eq 7, 3) := by decide +kernel
theorem dX5_branch_77 : decode cX5_branch 77 = .ok (.iconst 1, 1) := by decide +kernel
theorem dX5_branch_78 : decode cX5_branch 78 = .ok (.goto 4, 3) := by decide +kernel
theorem dX5_branch_81 : decode cX5_branch 81 = .ok (.iconst 0, 1) := by decide +kernel
theorem dX5_branch_82 : decode cX5_branch 82 = .ok (.ireturn, 1) := by decide +kernel
theorem dX5_branch_83 : decode cX5_branch 83 = .ok (.aload_n 0, 1) := by decide +kernel
theorem dX5_branch_84 : decode cX5_branch 84 = .ok (.iload_n 1, 1) := by decide +kernel
theorem dX5_branch_85 : decode cX5_branch 85 = .ok (.iload_n 2, 1) := by decide +kernel
theorem dX5_branch_86 : decode cX5_branch 86 = .ok (.iconst 2, 1) := by decide +kernel
theorem dX5_branch_87 : decode cX5_branch 87 = .ok (.invokevirtual 51, 3) := by decide +kernel
theorem dX5_branch_90 : decode cX5_branch 90 = .ok (.ireturn, 1) := by decide +kernel
theorem dX5_branch_91 : decode cX5_branch 91 = .ok (.aload_n 0, 1) := by decide +kernel
theorem dX5_branch_92 : decode cX5_branch 92 = .ok (.iload_n 1, 1) := by decide +kernel
theorem dX5_branch_93 : decode cX5_branch 93 = .ok (.iload_n 2, 1) := by decide +kernel
theorem dX5_branch_94 : decode cX5_branch 94 = .ok (.iload_n 3, 1) := by decide +kernel
theorem dX5_branch_95 : decode cX5_branch 95 = .ok (.iconst 2, 1) := by decide +kernel
theorem dX5_branch_96 : decode cX5_branch 96 = .ok (.isub, 1) := by decide +kernel
theorem dX5_branch_97 : decode cX5_branch 97 = .ok (.invokevirtual 51, 3) := by decide +kernel
theorem dX5_branch_100 : decode cX5_branch 100 = .ok (.iload 4, 2) := by decide +kernel
theorem dX5_branch_102 : decode cX5_branch 102 = .ok (.iand, 1) := by decide +kernel
theorem dX5_branch_103 : decode cX5_branch 103 = .ok (.ireturn, 1) := by decide +kernel
theorem dX5_branch_104 : decode cX5_branch 104 = .ok (.aload_n 0, 1) := by decide +kernel
theorem dX5_branch_105 : decode cX5_branch 105 = .ok (.iload_n 1, 1) := by decide +kernel
theorem dX5_branch_106 : decode cX5_branch 106 = .ok (.iload_n 2, 1) := by decide +kernel
theorem dX5_branch_107 : decode cX5_branch 107 = .ok (.iload_n 3, 1) := by decide +kernel
theorem dX5_branch_108 : decode cX5_branch 108 = .ok (.iconst 4, 1) := by decide +kernel
theorem dX5_branch_109 : decode cX5_branch 109 = .ok (.isub, 1) := by decide +kernel
theorem dX5_branch_110 : decode cX5_branch 110 = .ok (.invokevirtual 51, 3) := by decide +kernel
theorem dX5_branch_113 : decode cX5_branch 113 = .ok (.bipush 10, 2) := by decide +kernel
theorem dX5_branch_115 : decode cX5_branch 115 = .ok (.ishr, 1) := by decide +kernel
theorem dX5_branch_116 : decode cX5_branch 116 = .ok (.ireturn, 1) := by decide +kernel
theorem dX5_branch_117 : decode cX5_branch 117 = .ok (.bipush (-2), 2) := by decide +kernel
theorem dX5_branch_119 : decode cX5_branch 119 = .ok (.ireturn, 1) := by decide +kernel
set_option maxRecDepth 20000 in
theorem ggX5_neverClosed_X5_part : GoodIn wsX5_neverClosed wsX5_part := goodIn_r _ [5, 6, 11, 12, 13, 14, 15, 16, 17, 18, 19, 20, 21, 22] (by decide +kernel) (by decide +kernel)
set_option maxRecDepth 20000 in
theorem gX5_neverClosed_X5_part : GoodIn wsX5_neverClosed (wsV RX5 47 RX5 yX5_part wsX5_part) := goodIn_app (goodIn_of _ (by decide +kernel)) ggX5_neverClosed_X5_part
set_option maxRecDepth 20000 in
theorem ggX5_neverClosed_X5_ofBranch : GoodIn wsX5_neverClosed wsX5_ofBranch := goodIn_r _ [10, 1, 2, 3, 4, 5, 6, 11, 12, 13, 14, 15, 16, 17, 18, 19, 20, 21, 22] (by decide +kernel) (by decide +kernel)
set_option maxRecDepth 20000 in
theorem gX5_neverClosed_X5_ofBranch : GoodIn wsX5_neverClosed (wsV RX5 51 RX5 yX5_ofBranch wsX5_ofBranch) := goodIn_app (goodIn_of _ (by decide +kernel)) ggX5_neverClosed_X5_ofBranch
theorem dX5_neverClosed_0 : decode cX5_neverClosed 0 = .ok (.iconst 0, 1) := by decide +kernel
theorem dX5_neverClosed_1 : decode cX5_neverClosed 1 = .ok (.istore_n 1, 1) := by decide +kernel
theorem dX5_neverClosed_2 : decode cX5_neverClosed 2 = .ok (.iconst 0, 1) := by decide +kernel
theorem dX5_neverClosed_3 : decode cX5_neverClosed 3 = .ok (.istore_n 2, 1) := by decide +kernel
theorem dX5_neverClosed_4 : decode cX5_neverClosed 4 = .ok (.iload_n 2, 1) := by decide +kernel
theorem dX5_neverClosed_5 : decode cX5_neverClosed 5 = .ok (.bipush 10, 2) := by decide +kernel
theorem dX5_neverClosed_7 : decode cX5_neverClosed 7 = .ok (.if_icmp .ge 53, 3) := by decide +kernel
theorem dX5_neverClosed_10 : decode cX5_neverClosed 10 = .ok (.iconst 0, 1) := by decide +kernel
theorem dX5_neverClosed_11 : decode cX5_neverClosed 11 = .ok (.istore_n 3, 1) := by decide +kernel
theorem dX5_neverClosed_12 : decode cX5_neverClosed 12 = .ok (.iload_n 3, 1) := by decide +kernel
theorem dX5_neverClosed_13 : decode cX5_neverClosed 13 = .ok (.aload_n 0, 1) := by decide +kernel
theorem dX5_neverClosed_14 : decode cX5_neverClosed 14 = .ok (.iload_n 2, 1) := by decide +kernel
theorem dX5_neverClosed_15 : decode cX5_neverClosed 15 = .ok (.iconst 4, 1) := by decide +kernel
theorem dX5_neverClosed_16 : decode cX5_neverClosed 16 = .ok (.invokevirtual 47, 3) := by decide +kernel
theorem dX5_neverClosed_19 : decode cX5_neverClosed 19 = .ok (.if_icmp .ge 35, 3) := by decide +kernel
theorem dX5_neverClosed_22 : decode cX5_neverClosed 22 = .ok (.iload_n 1, 1) := by decide +kernel
theorem dX5_neverClosed_23 : decode cX5_neverClosed 23 = .ok (.aload_n 0, 1) := by decide +kernel
theorem dX5_neverClosed_24 : decode cX5_neverClosed 24 = .ok (.iload_n 2, 1) := by decide +kernel
theorem dX5_neverClosed_25 : decode cX5_neverClosed 25 = .ok (.iload_n 3, 1) := by decide +kernel
theorem dX5_neverClosed_26 : decode cX5_neverClosed 26 = .ok (.iconst 0, 1) := by decide +kernel
theorem dX5_neverClosed_27 : decode cX5_neverClosed 27 = .ok (.invokevirtual 51, 3) := by decide +kernel
theorem dX5_neverClosed_30 : decode cX5_neverClosed 30 = .ok (.aload_n 0, 1) := by decide +kernel
theorem dX5_neverClosed_31 : decode cX5_neverClosed 31 = .ok (.iload_n 2, 1) := by decide +kernel
theorem dX5_neverClosed_32 : decode cX5_neverClosed 32 = .ok (.iload_n 3, 1) := by decide +kernel
theorem dX5_neverClosed_33 : decode cX5_neverClosed 33 = .ok (.iconst 1, 1) := by decide +kernel
theorem dX5_neverClosed_34 : decode cX5_neverClosed 34 = .ok (.invokevirtual 51, 3) := by decide +kernel
theorem dX5_neverClosed_37 : decode cX5_neverClosed 37 = .ok (.iand, 1) := by decide +kernel
theorem dX5_neverClosed_38 : decode cX5_neverClosed 38 = .ok (.ifCond .eq 7, 3) := by decide +kernel
theorem dX5_neverClosed_41 : decode cX5_neverClosed 41 = .ok (.iconst 1, 1) := by decide +kernel
theorem dX5_neverClosed_42 : decode cX5_neverClosed 42 = .ok (.goto 4, 3) := by decide +kernel
theorem dX5_neverClosed_45 : decode cX5_neverClosed 45 = .ok (.iconst 0, 1) := by decide +kernel
theorem dX5_neverClosed_46 : decode cX5_neverClosed 46 = .ok (.iadd, 1) := by decide +kernel
theorem dX5_neverClosed_47 : decode cX5_neverClosed 47 = .ok (.istore_n 1, 1) := by decide +kernel
theorem dX5_neverClosed_48 : decode cX5_neverClosed 48 = .ok (.iinc 3 1, 3) := by decide +kernel
theorem dX5_neverClosed_51 : decode cX5_neverClosed 51 = .ok (.goto (-39), 3) := by decide +kernel
theorem dX5_neverClosed_54 : decode cX5_neverClosed 54 = .ok (.iinc 2 1, 3) := by decide +kernel
theorem dX5_neverClosed_57 : decode cX5_neverClosed 57 = .ok (.goto (-53), 3) := by decide +kernel
theorem dX5_neverClosed_60 : decode cX5_neverClosed 60 = .ok (.iload_n 1, 1) := by decide +kernel
theorem dX5_neverClosed_61 : decode cX5_neverClosed 61 = .ok (.ireturn, 1) := by decide +kernel
set_option maxRecDepth 20000 in
theorem ggX5_count_X5_fed : GoodIn wsX5_count wsX5_fed := goodIn_r _ [8, 9, 10, 11, 7, 12, 13, 14, 15, 16, 1, 17, 18, 19, 20, 21, 22, 23, 24, 37, 38, 39, 40, 41, 42, 43, 44, 45, 46, 47, 48] (by decide +kernel) (by decide +kernel)
set_option maxRecDepth 20000 in
theorem gX5_count_X5_fed : GoodIn wsX5_count (wsV RX5 63 RX5 yX5_fed wsX5_fed) := goodIn_app (goodIn_of _ (by decide +kernel)) ggX5_count_X5_fed
set_option maxRecDepth 20000 in
theorem ggX5_count_X5_wanting : GoodIn wsX5_count wsX5_wanting := goodIn_r _ [28, 1, 4, 5, 6, 7, 8, 9, 10, 11, 12, 13, 14, 15, 16, 17, 18, 19, 20, 21, 22, 23, 24, 37, 38, 39, 40, 41, 42, 43, 44, 45, 46, 47, 48] (by decide +kernel) (by decide +kernel)
set_option maxRecDepth 20000 in
theorem gX5_count_X5_wanting : GoodIn wsX5_count (wsV RX5 70 RX5 yX5_wanting wsX5_wanting) := goodIn_app (goodIn_of _ (by decide +kernel)) ggX5_count_X5_wanting
set_option maxRecDepth 20000 in
theorem ggX5_count_X5_relaysWithBranches : GoodIn wsX5_count wsX5_relaysWithBranches := goodIn_r _ [32, 13, 14, 15, 7, 16, 1, 37, 38, 39, 40, 41, 42, 43, 44, 45, 46, 47, 48] (by decide +kernel) (by decide +kernel)
set_option maxRecDepth 20000 in
theorem gX5_count_X5_relaysWithBranches : GoodIn wsX5_count (wsV RX5 108 RX5 yX5_relaysWithBranches wsX5_relaysWithBranches) := goodIn_app (goodIn_of _ (by decide +kernel)) ggX5_count_X5_relaysWithBranches
set_option maxRecDepth 20000 in
theorem ggX5_count_X5_neverClosed : GoodIn wsX5_count wsX5_neverClosed := goodIn_r _ [36, 13, 14, 15, 7, 16, 1, 21, 22, 23, 24, 37, 38, 39, 40, 41, 42, 43, 44, 45, 46, 47, 48] (by decide +kernel) (by decide +kernel)
set_option maxRecDepth 20000 in
theorem gX5_count_X5_neverClosed : GoodIn wsX5_count (wsV RX5 124 RX5 yX5_neverClosed wsX5_neverClosed) := goodIn_app (goodIn_of _ (by decide +kernel)) ggX5_count_X5_neverClosed
theorem dX5_count_0 : decode cX5_count 0 = .ok (.iload_n 1, 1) := by decide +kernel
theorem dX5_count_1 : decode cX5_count 1 = .ok (.tableswitch 135 0 11 #[63, 70, 75, 82, 87, 94, 101, 108, 115, 120, 125, 130], 63) := by decide +kernel
theorem dX5_count_64 : decode cX5_count 64 = .ok (.aload_n 0, 1) := by decide +kernel
theorem dX5_count_65 : decode cX5_count 65 = .ok (.getfield 7, 3) := by decide +kernel
theorem dX5_count_68 : decode cX5_count 68 = .ok (.iconst 0, 1) := by decide +kernel
theorem dX5_count_69 : decode cX5_count 69 = .ok (.iaload, 1) := by decide +kernel
theorem dX5_count_70 : decode cX5_count 70 = .ok (.ireturn, 1) := by decide +kernel
theorem dX5_count_71 : decode cX5_count 71 = .ok (.aload_n 0, 1) := by decide +kernel
theorem dX5_count_72 : decode cX5_count 72 = .ok (.invokevirtual 63, 3) := by decide +kernel
theorem dX5_count_75 : decode cX5_count 75 = .ok (.ireturn, 1) := by decide +kernel
theorem dX5_count_76 : decode cX5_count 76 = .ok (.aload_n 0, 1) := by decide +kernel
theorem dX5_count_77 : decode cX5_count 77 = .ok (.getfield 7, 3) := by decide +kernel
theorem dX5_count_80 : decode cX5_count 80 = .ok (.iconst 1, 1) := by decide +kernel
theorem dX5_count_81 : decode cX5_count 81 = .ok (.iaload, 1) := by decide +kernel
theorem dX5_count_82 : decode cX5_count 82 = .ok (.ireturn, 1) := by decide +kernel
theorem dX5_count_83 : decode cX5_count 83 = .ok (.aload_n 0, 1) := by decide +kernel
theorem dX5_count_84 : decode cX5_count 84 = .ok (.invokevirtual 70, 3) := by decide +kernel
theorem dX5_count_87 : decode cX5_count 87 = .ok (.ireturn, 1) := by decide +kernel
theorem dX5_count_88 : decode cX5_count 88 = .ok (.aload_n 0, 1) := by decide +kernel
theorem dX5_count_89 : decode cX5_count 89 = .ok (.getfield 7, 3) := by decide +kernel
theorem dX5_count_92 : decode cX5_count 92 = .ok (.iconst 2, 1) := by decide +kernel
theorem dX5_count_93 : decode cX5_count 93 = .ok (.iaload, 1) := by decide +kernel
theorem dX5_count_94 : decode cX5_count 94 = .ok (.ireturn, 1) := by decide +kernel
theorem dX5_count_95 : decode cX5_count 95 = .ok (.aload_n 0, 1) := by decide +kernel
theorem dX5_count_96 : decode cX5_count 96 = .ok (.getfield 7, 3) := by decide +kernel
theorem dX5_count_99 : decode cX5_count 99 = .ok (.iconst 3, 1) := by decide +kernel
theorem dX5_count_100 : decode cX5_count 100 = .ok (.iaload, 1) := by decide +kernel
theorem dX5_count_101 : decode cX5_count 101 = .ok (.ireturn, 1) := by decide +kernel
theorem dX5_count_102 : decode cX5_count 102 = .ok (.aload_n 0, 1) := by decide +kernel
theorem dX5_count_103 : decode cX5_count 103 = .ok (.getfield 7, 3) := by decide +kernel
theorem dX5_count_106 : decode cX5_count 106 = .ok (.iconst 4, 1) := by decide +kernel
theorem dX5_count_107 : decode cX5_count 107 = .ok (.iaload, 1) := by decide +kernel
theorem dX5_count_108 : decode cX5_count 108 = .ok (.ireturn, 1) := by decide +kernel
theorem dX5_count_109 : decode cX5_count 109 = .ok (.aload_n 0, 1) := by decide +kernel
theorem dX5_count_110 : decode cX5_count 110 = .ok (.getfield 7, 3) := by decide +kernel
theorem dX5_count_113 : decode cX5_count 113 = .ok (.iconst 5, 1) := by decide +kernel
theorem dX5_count_114 : decode cX5_count 114 = .ok (.iaload, 1) := by decide +kernel
theorem dX5_count_115 : decode cX5_count 115 = .ok (.ireturn, 1) := by decide +kernel
theorem dX5_count_116 : decode cX5_count 116 = .ok (.aload_n 0, 1) := by decide +kernel
theorem dX5_count_117 : decode cX5_count 117 = .ok (.invokevirtual 108, 3) := by decide +kernel
theorem dX5_count_120 : decode cX5_count 120 = .ok (.ireturn, 1) := by decide +kernel
theorem dX5_count_121 : decode cX5_count 121 = .ok (.aload_n 0, 1) := by decide +kernel
theorem dX5_count_122 : decode cX5_count 122 = .ok (.invokevirtual 124, 3) := by decide +kernel
theorem dX5_count_125 : decode cX5_count 125 = .ok (.ireturn, 1) := by decide +kernel
theorem dX5_count_126 : decode cX5_count 126 = .ok (.aload_n 0, 1) := by decide +kernel
theorem dX5_count_127 : decode cX5_count 127 = .ok (.getfield 92, 3) := by decide +kernel
theorem dX5_count_130 : decode cX5_count 130 = .ok (.ireturn, 1) := by decide +kernel
theorem dX5_count_131 : decode cX5_count 131 = .ok (.aload_n 0, 1) := by decide +kernel
theorem dX5_count_132 : decode cX5_count 132 = .ok (.getfield 35, 3) := by decide +kernel
theorem dX5_count_135 : decode cX5_count 135 = .ok (.ireturn, 1) := by decide +kernel
theorem dX5_count_136 : decode cX5_count 136 = .ok (.bipush (-2), 2) := by decide +kernel
theorem dX5_count_138 : decode cX5_count 138 = .ok (.ireturn, 1) := by decide +kernel
set_option maxRecDepth 20000 in
theorem ggX5_isSet_X5_within : GoodIn wsX5_isSet wsX5_within := goodIn_r _ [4] (by decide +kernel) (by decide +kernel)
set_option maxRecDepth 20000 in
theorem gX5_isSet_X5_within : GoodIn wsX5_isSet (va_wsS RX5 43 yX5_within wsX5_within) := goodIn_app (goodIn_of _ (by decide +kernel)) ggX5_isSet_X5_within
theorem dX5_isSet_0 : decode cX5_isSet 0 = .ok (.iload_n 0, 1) := by decide +kernel
theorem dX5_isSet_1 : decode cX5_isSet 1 = .ok (.iconst 0, 1) := by decide +kernel
theorem dX5_isSet_2 : decode cX5_isSet 2 = .ok (.bipush 63, 2) := by decide +kernel
theorem dX5_isSet_4 : decode cX5_isSet 4 = .ok (.invokestatic 43, 3) := by decide +kernel
theorem dX5_isSet_7 : decode cX5_isSet 7 = .ok (.ireturn, 1) := by decide +kernel
set_option maxRecDepth 20000 in
theorem ggX5_ifPressed_X5_isSet : GoodIn wsX5_ifPressed wsX5_isSet := goodIn_r _ [6, 7, 8, 5, 9] (by decide +kernel) (by decide +kernel)
set_option maxRecDepth 20000 in
theorem gX5_ifPressed_X5_isSet : GoodIn wsX5_ifPressed (va_wsS RX5 127 yX5_isSet wsX5_isSet) := goodIn_app (goodIn_of _ (by decide +kernel)) ggX5_ifPressed_X5_isSet
set_option maxRecDepth 20000 in
theorem ggX5_ifPressed_X5_within : GoodIn wsX5_ifPressed wsX5_within := goodIn_r _ [9] (by decide +kernel) (by decide +kernel)
set_option maxRecDepth 20000 in
theorem gX5_ifPressed_X5_within : GoodIn wsX5_ifPressed (va_wsS RX5 43 yX5_within wsX5_within) := goodIn_app (goodIn_of _ (by decide +kernel)) ggX5_ifPressed_X5_within
set_option maxRecDepth 20000 in
theorem ggX5_ifPressed_X5_moves : GoodIn wsX5_ifPressed wsX5_moves := goodIn_r _ [12] (by decide +kernel) (by decide +kernel)
set_option maxRecDepth 20000 in
theorem gX5_ifPressed_X5_moves : GoodIn wsX5_ifPressed (va_wsS RX5 39 yX5_moves wsX5_moves) := goodIn_app (goodIn_of _ (by decide +kernel)) ggX5_ifPressed_X5_moves
set_option maxRecDepth 20000 in
theorem ggX5_ifPressed_X5_passes : GoodIn wsX5_ifPressed wsX5_passes := goodIn_r _ [16, 1, 17, 18, 19, 5, 20, 21, 22, 23, 24, 25, 26, 27, 28, 29, 30, 31, 32, 33, 34, 35, 36, 37, 38, 39, 40, 41, 42, 43, 44, 45, 46, 47, 48, 49, 50, 51, 52, 53, 54, 55, 56, 57, 58, 59, 60, 61, 62, 63, 64, 65, 66, 67] (by decide +kernel) (by decide +kernel)
set_option maxRecDepth 20000 in
theorem gX5_ifPressed_X5_passes : GoodIn wsX5_ifPressed (wsV RX5 111 RX5 yX5_passes wsX5_passes) := goodIn_app (goodIn_of _ (by decide +kernel)) ggX5_ifPressed_X5_passes
theorem dX5_ifPressed_0 : decode cX5_ifPressed 0 = .ok (.iload_n 1, 1) := by decide +kernel
theorem dX5_ifPressed_1 : decode cX5_ifPressed 1 = .ok (.invokestatic 127, 3) := by decide +kernel
theorem dX5_ifPressed_4 : decode cX5_ifPressed 4 = .ok (.ifCond .eq 14, 3) := by decide +kernel
theorem dX5_ifPressed_7 : decode cX5_ifPressed 7 = .ok (.iload_n 2, 1) := by decide +kernel
theorem dX5_ifPressed_8 : decode cX5_ifPressed 8 = .ok (.iconst 0, 1) := by decide +kernel
theorem dX5_ifPressed_9 : decode cX5_ifPressed 9 = .ok (.sipush 200, 3) := by decide +kernel
theorem dX5_ifPressed_12 : decode cX5_ifPressed 12 = .ok (.invokestatic 43, 3) := by decide +kernel
theorem dX5_ifPressed_15 : decode cX5_ifPressed 15 = .ok (.ifCond .ne 6, 3) := by decide +kernel
theorem dX5_ifPressed_18 : decode cX5_ifPressed 18 = .ok (.bipush (-2), 2) := by decide +kernel
theorem dX5_ifPressed_20 : decode cX5_ifPressed 20 = .ok (.ireturn, 1) := by decide +kernel
theorem dX5_ifPressed_21 : decode cX5_ifPressed 21 = .ok (.aload_n 0, 1) := by decide +kernel
theorem dX5_ifPressed_22 : decode cX5_ifPressed 22 = .ok (.getfield 7, 3) := by decide +kernel
theorem dX5_ifPressed_25 : decode cX5_ifPressed 25 = .ok (.iconst 0, 1) := by decide +kernel
theorem dX5_ifPressed_26 : decode cX5_ifPressed 26 = .ok (.aload_n 0, 1) := by decide +kernel
theorem dX5_ifPressed_27 : decode cX5_ifPressed 27 = .ok (.getfield 13, 3) := by decide +kernel
theorem dX5_ifPressed_30 : decode cX5_ifPressed 30 = .ok (.iconst 0, 1) := by decide +kernel
theorem dX5_ifPressed_31 : decode cX5_ifPressed 31 = .ok (.invokestatic 39, 3) := by decide +kernel
theorem dX5_ifPressed_34 : decode cX5_ifPressed 34 = .ok (.aload_n 0, 1) := by decide +kernel
theorem dX5_ifPressed_35 : decode cX5_ifPressed 35 = .ok (.getfield 7, 3) := by decide +kernel
theorem dX5_ifPressed_38 : decode cX5_ifPressed 38 = .ok (.iconst 2, 1) := by decide +kernel
theorem dX5_ifPressed_39 : decode cX5_ifPressed 39 = .ok (.iload_n 1, 1) := by decide +kernel
theorem dX5_ifPressed_40 : decode cX5_ifPressed 40 = .ok (.iastore, 1) := by decide +kernel
theorem dX5_ifPressed_41 : decode cX5_ifPressed 41 = .ok (.aload_n 0, 1) := by decide +kernel
theorem dX5_ifPressed_42 : decode cX5_ifPressed 42 = .ok (.iload_n 2, 1) := by decide +kernel
theorem dX5_ifPressed_43 : decode cX5_ifPressed 43 = .ok (.invokevirtual 111, 3) := by decide +kernel
theorem dX5_ifPressed_46 : decode cX5_ifPressed 46 = .ok (.pop, 1) := by decide +kernel
theorem dX5_ifPressed_47 : decode cX5_ifPressed 47 = .ok (.aload_n 0, 1) := by decide +kernel
theorem dX5_ifPressed_48 : decode cX5_ifPressed 48 = .ok (.getfield 7, 3) := by decide +kernel
theorem dX5_ifPressed_51 : decode cX5_ifPressed 51 = .ok (.iconst 0, 1) := by decide +kernel
theorem dX5_ifPressed_52 : decode cX5_ifPressed 52 = .ok (.iaload, 1) := by decide +kernel
theorem dX5_ifPressed_53 : decode cX5_ifPressed 53 = .ok (.istore_n 3, 1) := by decide +kernel
theorem dX5_ifPressed_54 : decode cX5_ifPressed 54 = .ok (.aload_n 0, 1) := by decide +kernel
theorem dX5_ifPressed_55 : decode cX5_ifPressed 55 = .ok (.getfield 13, 3) := by decide +kernel
theorem dX5_ifPressed_58 : decode cX5_ifPressed 58 = .ok (.iconst 0, 1) := by decide +kernel
theorem dX5_ifPressed_59 : decode cX5_ifPressed 59 = .ok (.aload_n 0, 1) := by decide +kernel
theorem dX5_ifPressed_60 : decode cX5_ifPressed 60 = .ok (.getfield 7, 3) := by decide +kernel
theorem dX5_ifPressed_63 : decode cX5_ifPressed 63 = .ok (.iconst 0, 1) := by decide +kernel
theorem dX5_ifPressed_64 : decode cX5_ifPressed 64 = .ok (.invokestatic 39, 3) := by decide +kernel
theorem dX5_ifPressed_67 : decode cX5_ifPressed 67 = .ok (.iload_n 3, 1) := by decide +kernel
theorem dX5_ifPressed_68 : decode cX5_ifPressed 68 = .ok (.ireturn, 1) := by decide +kernel
set_option maxRecDepth 20000 in
theorem ggX5_restWith_X5_settles : GoodIn wsX5_restWith wsX5_settles := goodIn_r _ [7, 8, 9, 10, 6, 11, 1, 12, 13, 14, 15, 16, 17, 18, 19, 20, 21, 22, 23, 24, 25, 26, 27, 28, 29, 30, 31, 32, 33, 34, 35, 36, 37, 38, 39, 40, 41, 42, 43, 44, 45, 46, 50, 51, 52, 53, 54, 55, 56, 57, 58, 59, 60, 61] (by decide +kernel) (by decide +kernel)
set_option maxRecDepth 20000 in
theorem gX5_restWith_X5_settles : GoodIn wsX5_restWith (wsV RX5 115 RX5 yX5_settles wsX5_settles) := goodIn_app (goodIn_of _ (by decide +kernel)) ggX5_restWith_X5_settles
set_option maxRecDepth 20000 in
theorem ggX5_restWith_X5_wanting : GoodIn wsX5_restWith wsX5_wanting := goodIn_r _ [11, 1, 12, 13, 14, 6, 15, 16, 17, 18, 19, 20, 21, 22, 23, 24, 25, 26, 27, 28, 29, 30, 31, 50, 51, 52, 53, 54, 55, 56, 57, 58, 59, 60, 61] (by decide +kernel) (by decide +kernel)
set_option maxRecDepth 20000 in
theorem gX5_restWith_X5_wanting : GoodIn wsX5_restWith (wsV RX5 70 RX5 yX5_wanting wsX5_wanting) := goodIn_app (goodIn_of _ (by decide +kernel)) ggX5_restWith_X5_wanting
set_option maxRecDepth 20000 in
theorem ggX5_restWith_X5_moves : GoodIn wsX5_restWith wsX5_moves := goodIn_r _ [49] (by decide +kernel) (by decide +kernel)
set_option maxRecDepth 20000 in
theorem gX5_restWith_X5_moves : GoodIn wsX5_restWith (va_wsS RX5 39 yX5_moves wsX5_moves) := goodIn_app (goodIn_of _ (by decide +kernel)) ggX5_restWith_X5_moves
theorem dX5_restWith_0 : decode cX5_restWith 0 = .ok (.aload_n 0, 1) := by decide +kernel
theorem dX5_restWith_1 : decode cX5_restWith 1 = .ok (.getfield 7, 3) := by decide +kernel
theorem dX5_restWith_4 : decode cX5_restWith 4 = .ok (.iconst 4, 1) := by decide +kernel
theorem dX5_restWith_5 : decode cX5_restWith 5 = .ok (.iaload, 1) := by decide +kernel
theorem dX5_restWith_6 : decode cX5_restWith 6 = .ok (.istore_n 3, 1) := by decide +kernel
theorem dX5_restWith_7 : decode cX5_restWith 7 = .ok (.aload_n 0, 1) := by decide +kernel
theorem dX5_restWith_8 : decode cX5_restWith 8 = .ok (.getfield 7, 3) := by decide +kernel
theorem dX5_restWith_11 : decode cX5_restWith 11 = .ok (.iconst 2, 1) := by decide +kernel
theorem dX5_restWith_12 : decode cX5_restWith 12 = .ok (.iload_n 1, 1) := by decide +kernel
theorem dX5_restWith_13 : decode cX5_restWith 13 = .ok (.iastore, 1) := by decide +kernel
theorem dX5_restWith_14 : decode cX5_restWith 14 = .ok (.aload_n 0, 1) := by decide +kernel
theorem dX5_restWith_15 : decode cX5_restWith 15 = .ok (.invokevirtual 115, 3) := by decide +kernel
theorem dX5_restWith_18 : decode cX5_restWith 18 = .ok (.istore 4, 2) := by decide +kernel
theorem dX5_restWith_20 : decode cX5_restWith 20 = .ok (.aload_n 0, 1) := by decide +kernel
end
section
theorem dX5_restWith_21 : decode cX5_restWith 21 = .ok (.invokevirtual 70, 3) := by decide +kernel
theorem dX5_restWith_24 : decode cX5_restWith 24 = .ok (.ifCond .eq 8, 3) := by decide +kernel
theorem dX5_restWith_27 : decode cX5_restWith 27 = .ok (.bipush (-6), 2) := by decide +kernel
theorem dX5_restWith_29 : decode cX5_restWith 29 = .ok (.goto 34, 3) := by decide +kernel
theorem dX5_restWith_32 : decode cX5_restWith 32 = .ok (.iload_n 2, 1) := by decide +kernel
theorem dX5_restWith_33 : decode cX5_restWith 33 = .ok (.ifCond .ne 12, 3) := by decide +kernel
theorem dX5_restWith_36 : decode cX5_restWith 36 = .ok (.aload_n 0, 1) := by decide +kernel
theorem dX5_restWith_37 : decode cX5_restWith 37 = .ok (.getfield 7, 3) := by decide +kernel
theorem dX5_restWith_40 : decode cX5_restWith 40 = .ok (.iconst 0, 1) := by decide +kernel
theorem dX5_restWith_41 : decode cX5_restWith 41 = .ok (.iaload, 1) := by decide +kernel
theorem dX5_restWith_42 : decode cX5_restWith 42 = .ok (.goto 21, 3) := by decide +kernel
theorem dX5_restWith_45 : decode cX5_restWith 45 = .ok (.iload_n 2, 1) := by decide +kernel
theorem dX5_restWith_46 : decode cX5_restWith 46 = .ok (.iconst 1, 1) := by decide +kernel
theorem dX5_restWith_47 : decode cX5_restWith 47 = .ok (.if_icmp .ne 8, 3) := by decide +kernel
theorem dX5_restWith_50 : decode cX5_restWith 50 = .ok (.iload 4, 2) := by decide +kernel
theorem dX5_restWith_52 : decode cX5_restWith 52 = .ok (.goto 11, 3) := by decide +kernel
theorem dX5_restWith_55 : decode cX5_restWith 55 = .ok (.aload_n 0, 1) := by decide +kernel
theorem dX5_restWith_56 : decode cX5_restWith 56 = .ok (.getfield 7, 3) := by decide +kernel
theorem dX5_restWith_59 : decode cX5_restWith 59 = .ok (.iconst 4, 1) := by decide +kernel
theorem dX5_restWith_60 : decode cX5_restWith 60 = .ok (.iaload, 1) := by decide +kernel
theorem dX5_restWith_61 : decode cX5_restWith 61 = .ok (.iload_n 3, 1) := by decide +kernel
theorem dX5_restWith_62 : decode cX5_restWith 62 = .ok (.isub, 1) := by decide +kernel
theorem dX5_restWith_63 : decode cX5_restWith 63 = .ok (.istore 5, 2) := by decide +kernel
theorem dX5_restWith_65 : decode cX5_restWith 65 = .ok (.aload_n 0, 1) := by decide +kernel
theorem dX5_restWith_66 : decode cX5_restWith 66 = .ok (.getfield 13, 3) := by decide +kernel
theorem dX5_restWith_69 : decode cX5_restWith 69 = .ok (.iconst 0, 1) := by decide +kernel
theorem dX5_restWith_70 : decode cX5_restWith 70 = .ok (.aload_n 0, 1) := by decide +kernel
theorem dX5_restWith_71 : decode cX5_restWith 71 = .ok (.getfield 7, 3) := by decide +kernel
theorem dX5_restWith_74 : decode cX5_restWith 74 = .ok (.iconst 0, 1) := by decide +kernel
theorem dX5_restWith_75 : decode cX5_restWith 75 = .ok (.invokestatic 39, 3) := by decide +kernel
theorem dX5_restWith_78 : decode cX5_restWith 78 = .ok (.iload 5, 2) := by decide +kernel
theorem dX5_restWith_80 : decode cX5_restWith 80 = .ok (.ireturn, 1) := by decide +kernel
set_option maxRecDepth 20000 in
theorem ggX5_rest_X5_isSet : GoodIn wsX5_rest wsX5_isSet := goodIn_r _ [6, 7, 8, 5, 9] (by decide +kernel) (by decide +kernel)
set_option maxRecDepth 20000 in
theorem gX5_rest_X5_isSet : GoodIn wsX5_rest (va_wsS RX5 127 yX5_isSet wsX5_isSet) := goodIn_app (goodIn_of _ (by decide +kernel)) ggX5_rest_X5_isSet
set_option maxRecDepth 20000 in
theorem ggX5_rest_X5_within : GoodIn wsX5_rest wsX5_within := goodIn_r _ [9] (by decide +kernel) (by decide +kernel)
set_option maxRecDepth 20000 in
theorem gX5_rest_X5_within : GoodIn wsX5_rest (va_wsS RX5 43 yX5_within wsX5_within) := goodIn_app (goodIn_of _ (by decide +kernel)) ggX5_rest_X5_within
set_option maxRecDepth 20000 in
theorem ggX5_rest_X5_moves : GoodIn wsX5_rest wsX5_moves := goodIn_r _ [12] (by decide +kernel) (by decide +kernel)
set_option maxRecDepth 20000 in
theorem gX5_rest_X5_moves : GoodIn wsX5_rest (va_wsS RX5 39 yX5_moves wsX5_moves) := goodIn_app (goodIn_of _ (by decide +kernel)) ggX5_rest_X5_moves
set_option maxRecDepth 20000 in
theorem ggX5_rest_X5_restWith : GoodIn wsX5_rest wsX5_restWith := goodIn_r _ [16, 1, 2, 17, 18, 19, 5, 20, 21, 22, 23, 24, 25, 26, 27, 28, 29, 30, 31, 32, 33, 34, 35, 36, 37, 38, 39, 40, 41, 42, 43, 44, 45, 46, 47, 48, 49, 50, 51, 52, 53, 54, 55, 56, 57, 58, 59, 10, 11, 12, 60, 61, 62, 63, 64, 65, 66, 67, 68, 69, 70, 71] (by decide +kernel) (by decide +kernel)
set_option maxRecDepth 20000 in
theorem gX5_rest_X5_restWith : GoodIn wsX5_rest (wsV RX5 130 RX5 yX5_restWith wsX5_restWith) := goodIn_app (goodIn_of _ (by decide +kernel)) ggX5_rest_X5_restWith
theorem dX5_rest_0 : decode cX5_rest 0 = .ok (.iload_n 1, 1) := by decide +kernel
theorem dX5_rest_1 : decode cX5_rest 1 = .ok (.invokestatic 127, 3) := by decide +kernel
theorem dX5_rest_4 : decode cX5_rest 4 = .ok (.ifCond .eq 12, 3) := by decide +kernel
theorem dX5_rest_7 : decode cX5_rest 7 = .ok (.iload_n 2, 1) := by decide +kernel
theorem dX5_rest_8 : decode cX5_rest 8 = .ok (.iconst 0, 1) := by decide +kernel
theorem dX5_rest_9 : decode cX5_rest 9 = .ok (.iconst 2, 1) := by decide +kernel
theorem dX5_rest_10 : decode cX5_rest 10 = .ok (.invokestatic 43, 3) := by decide +kernel
theorem dX5_rest_13 : decode cX5_rest 13 = .ok (.ifCond .ne 6, 3) := by decide +kernel
theorem dX5_rest_16 : decode cX5_rest 16 = .ok (.bipush (-2), 2) := by decide +kernel
theorem dX5_rest_18 : decode cX5_rest 18 = .ok (.ireturn, 1) := by decide +kernel
theorem dX5_rest_19 : decode cX5_rest 19 = .ok (.aload_n 0, 1) := by decide +kernel
theorem dX5_rest_20 : decode cX5_rest 20 = .ok (.getfield 7, 3) := by decide +kernel
theorem dX5_rest_23 : decode cX5_rest 23 = .ok (.iconst 0, 1) := by decide +kernel
theorem dX5_rest_24 : decode cX5_rest 24 = .ok (.aload_n 0, 1) := by decide +kernel
theorem dX5_rest_25 : decode cX5_rest 25 = .ok (.getfield 13, 3) := by decide +kernel
theorem dX5_rest_28 : decode cX5_rest 28 = .ok (.iconst 0, 1) := by decide +kernel
theorem dX5_rest_29 : decode cX5_rest 29 = .ok (.invokestatic 39, 3) := by decide +kernel
theorem dX5_rest_32 : decode cX5_rest 32 = .ok (.aload_n 0, 1) := by decide +kernel
theorem dX5_rest_33 : decode cX5_rest 33 = .ok (.iload_n 1, 1) := by decide +kernel
theorem dX5_rest_34 : decode cX5_rest 34 = .ok (.iload_n 2, 1) := by decide +kernel
theorem dX5_rest_35 : decode cX5_rest 35 = .ok (.invokevirtual 130, 3) := by decide +kernel
theorem dX5_rest_38 : decode cX5_rest 38 = .ok (.ireturn, 1) := by decide +kernel
set_option maxRecDepth 20000 in
theorem ggX5_race_X5_isSet : GoodIn wsX5_race wsX5_isSet := goodIn_r _ [6, 7, 8, 5, 9] (by decide +kernel) (by decide +kernel)
set_option maxRecDepth 20000 in
theorem gX5_race_X5_isSet : GoodIn wsX5_race (va_wsS RX5 127 yX5_isSet wsX5_isSet) := goodIn_app (goodIn_of _ (by decide +kernel)) ggX5_race_X5_isSet
set_option maxRecDepth 20000 in
theorem ggX5_race_X5_moves : GoodIn wsX5_race wsX5_moves := goodIn_r _ [12] (by decide +kernel) (by decide +kernel)
set_option maxRecDepth 20000 in
theorem gX5_race_X5_moves : GoodIn wsX5_race (va_wsS RX5 39 yX5_moves wsX5_moves) := goodIn_app (goodIn_of _ (by decide +kernel)) ggX5_race_X5_moves
set_option maxRecDepth 20000 in
theorem ggX5_race_X5_restWith : GoodIn wsX5_race wsX5_restWith := goodIn_r _ [16, 1, 2, 17, 18, 19, 5, 20, 21, 22, 23, 24, 25, 26, 27, 28, 29, 30, 31, 32, 33, 34, 35, 36, 37, 38, 39, 40, 41, 42, 43, 44, 45, 46, 47, 48, 49, 50, 51, 52, 53, 54, 55, 56, 57, 58, 59, 10, 11, 12, 60, 61, 62, 63, 64, 65, 66, 67, 68, 69, 70, 71] (by decide +kernel) (by decide +kernel)
set_option maxRecDepth 20000 in
theorem gX5_race_X5_restWith : GoodIn wsX5_race (wsV RX5 130 RX5 yX5_restWith wsX5_restWith) := goodIn_app (goodIn_of _ (by decide +kernel)) ggX5_race_X5_restWith
set_option maxRecDepth 20000 in
theorem ggX5_race_X5_setPart : GoodIn wsX5_race wsX5_setPart := goodIn_r _ [55, 1, 60, 61, 62, 63, 64, 65, 66, 67, 68, 69, 70, 71] (by decide +kernel) (by decide +kernel)
set_option maxRecDepth 20000 in
theorem gX5_race_X5_setPart : GoodIn wsX5_race (wsV RX5 31 RX5 yX5_setPart wsX5_setPart) := goodIn_app (goodIn_of _ (by decide +kernel)) ggX5_race_X5_setPart
theorem dX5_race_0 : decode cX5_race 0 = .ok (.iload_n 1, 1) := by decide +kernel
theorem dX5_race_1 : decode cX5_race 1 = .ok (.invokestatic 127, 3) := by decide +kernel
theorem dX5_race_4 : decode cX5_race 4 = .ok (.ifCond .ne 6, 3) := by decide +kernel
theorem dX5_race_7 : decode cX5_race 7 = .ok (.bipush (-2), 2) := by decide +kernel
theorem dX5_race_9 : decode cX5_race 9 = .ok (.ireturn, 1) := by decide +kernel
theorem dX5_race_10 : decode cX5_race 10 = .ok (.aload_n 0, 1) := by decide +kernel
theorem dX5_race_11 : decode cX5_race 11 = .ok (.getfield 7, 3) := by decide +kernel
theorem dX5_race_14 : decode cX5_race 14 = .ok (.iconst 0, 1) := by decide +kernel
theorem dX5_race_15 : decode cX5_race 15 = .ok (.aload_n 0, 1) := by decide +kernel
theorem dX5_race_16 : decode cX5_race 16 = .ok (.getfield 13, 3) := by decide +kernel
theorem dX5_race_19 : decode cX5_race 19 = .ok (.iconst 0, 1) := by decide +kernel
theorem dX5_race_20 : decode cX5_race 20 = .ok (.invokestatic 39, 3) := by decide +kernel
theorem dX5_race_23 : decode cX5_race 23 = .ok (.aload_n 0, 1) := by decide +kernel
theorem dX5_race_24 : decode cX5_race 24 = .ok (.iload_n 1, 1) := by decide +kernel
theorem dX5_race_25 : decode cX5_race 25 = .ok (.iconst 0, 1) := by decide +kernel
theorem dX5_race_26 : decode cX5_race 26 = .ok (.invokevirtual 130, 3) := by decide +kernel
theorem dX5_race_29 : decode cX5_race 29 = .ok (.istore_n 2, 1) := by decide +kernel
theorem dX5_race_30 : decode cX5_race 30 = .ok (.iconst 0, 1) := by decide +kernel
theorem dX5_race_31 : decode cX5_race 31 = .ok (.istore_n 3, 1) := by decide +kernel
theorem dX5_race_32 : decode cX5_race 32 = .ok (.iload_n 3, 1) := by decide +kernel
theorem dX5_race_33 : decode cX5_race 33 = .ok (.bipush 10, 2) := by decide +kernel
theorem dX5_race_35 : decode cX5_race 35 = .ok (.if_icmp .ge 23, 3) := by decide +kernel
theorem dX5_race_38 : decode cX5_race 38 = .ok (.aload_n 0, 1) := by decide +kernel
theorem dX5_race_39 : decode cX5_race 39 = .ok (.iload_n 3, 1) := by decide +kernel
theorem dX5_race_40 : decode cX5_race 40 = .ok (.iconst 0, 1) := by decide +kernel
theorem dX5_race_41 : decode cX5_race 41 = .ok (.iconst 1, 1) := by decide +kernel
theorem dX5_race_42 : decode cX5_race 42 = .ok (.invokevirtual 31, 3) := by decide +kernel
theorem dX5_race_45 : decode cX5_race 45 = .ok (.aload_n 0, 1) := by decide +kernel
theorem dX5_race_46 : decode cX5_race 46 = .ok (.iload_n 3, 1) := by decide +kernel
theorem dX5_race_47 : decode cX5_race 47 = .ok (.iconst 1, 1) := by decide +kernel
theorem dX5_race_48 : decode cX5_race 48 = .ok (.iconst 1, 1) := by decide +kernel
theorem dX5_race_49 : decode cX5_race 49 = .ok (.invokevirtual 31, 3) := by decide +kernel
theorem dX5_race_52 : decode cX5_race 52 = .ok (.iinc 3 1, 3) := by decide +kernel
theorem dX5_race_55 : decode cX5_race 55 = .ok (.goto (-23), 3) := by decide +kernel
theorem dX5_race_58 : decode cX5_race 58 = .ok (.iload_n 2, 1) := by decide +kernel
theorem dX5_race_59 : decode cX5_race 59 = .ok (.aload_n 0, 1) := by decide +kernel
theorem dX5_race_60 : decode cX5_race 60 = .ok (.iload_n 1, 1) := by decide +kernel
theorem dX5_race_61 : decode cX5_race 61 = .ok (.iconst 0, 1) := by decide +kernel
theorem dX5_race_62 : decode cX5_race 62 = .ok (.invokevirtual 130, 3) := by decide +kernel
theorem dX5_race_65 : decode cX5_race 65 = .ok (.if_icmp .ne 7, 3) := by decide +kernel
theorem dX5_race_68 : decode cX5_race 68 = .ok (.iconst 0, 1) := by decide +kernel
theorem dX5_race_69 : decode cX5_race 69 = .ok (.goto 4, 3) := by decide +kernel
theorem dX5_race_72 : decode cX5_race 72 = .ok (.iconst 1, 1) := by decide +kernel
theorem dX5_race_73 : decode cX5_race 73 = .ok (.ireturn, 1) := by decide +kernel
set_option maxRecDepth 20000 in
theorem ggX5_upIfWelded_X5_moves : GoodIn wsX5_upIfWelded wsX5_moves := goodIn_r _ [6] (by decide +kernel) (by decide +kernel)
set_option maxRecDepth 20000 in
theorem gX5_upIfWelded_X5_moves : GoodIn wsX5_upIfWelded (va_wsS RX5 39 yX5_moves wsX5_moves) := goodIn_app (goodIn_of _ (by decide +kernel)) ggX5_upIfWelded_X5_moves
set_option maxRecDepth 20000 in
theorem ggX5_upIfWelded_X5_restWith : GoodIn wsX5_upIfWelded wsX5_restWith := goodIn_r _ [10, 1, 2, 11, 12, 13, 5, 14, 15, 16, 17, 18, 19, 20, 21, 22, 23, 24, 25, 26, 27, 28, 29, 30, 31, 32, 33, 34, 35, 36, 37, 38, 39, 40, 41, 42, 43, 44, 45, 46, 47, 48, 49, 50, 51, 52, 53, 3, 4, 6, 54, 55, 56, 57, 58, 59, 60, 61, 62, 63, 64, 65] (by decide +kernel) (by decide +kernel)
set_option maxRecDepth 20000 in
theorem gX5_upIfWelded_X5_restWith : GoodIn wsX5_upIfWelded (wsV RX5 130 RX5 yX5_restWith wsX5_restWith) := goodIn_app (goodIn_of _ (by decide +kernel)) ggX5_upIfWelded_X5_restWith
theorem dX5_upIfWelded_0 : decode cX5_upIfWelded 0 = .ok (.aload_n 0, 1) := by decide +kernel
theorem dX5_upIfWelded_1 : decode cX5_upIfWelded 1 = .ok (.getfield 7, 3) := by decide +kernel
theorem dX5_upIfWelded_4 : decode cX5_upIfWelded 4 = .ok (.iconst 0, 1) := by decide +kernel
theorem dX5_upIfWelded_5 : decode cX5_upIfWelded 5 = .ok (.aload_n 0, 1) := by decide +kernel
theorem dX5_upIfWelded_6 : decode cX5_upIfWelded 6 = .ok (.getfield 13, 3) := by decide +kernel
theorem dX5_upIfWelded_9 : decode cX5_upIfWelded 9 = .ok (.iconst 0, 1) := by decide +kernel
theorem dX5_upIfWelded_10 : decode cX5_upIfWelded 10 = .ok (.invokestatic 39, 3) := by decide +kernel
theorem dX5_upIfWelded_13 : decode cX5_upIfWelded 13 = .ok (.aload_n 0, 1) := by decide +kernel
theorem dX5_upIfWelded_14 : decode cX5_upIfWelded 14 = .ok (.getfield 7, 3) := by decide +kernel
theorem dX5_upIfWelded_17 : decode cX5_upIfWelded 17 = .ok (.iconst 0, 1) := by decide +kernel
theorem dX5_upIfWelded_18 : decode cX5_upIfWelded 18 = .ok (.dup2, 1) := by decide +kernel
theorem dX5_upIfWelded_19 : decode cX5_upIfWelded 19 = .ok (.iaload, 1) := by decide +kernel
theorem dX5_upIfWelded_20 : decode cX5_upIfWelded 20 = .ok (.iconst 1, 1) := by decide +kernel
theorem dX5_upIfWelded_21 : decode cX5_upIfWelded 21 = .ok (.iload_n 2, 1) := by decide +kernel
theorem dX5_upIfWelded_22 : decode cX5_upIfWelded 22 = .ok (.ishl, 1) := by decide +kernel
theorem dX5_upIfWelded_23 : decode cX5_upIfWelded 23 = .ok (.ior, 1) := by decide +kernel
theorem dX5_upIfWelded_24 : decode cX5_upIfWelded 24 = .ok (.iastore, 1) := by decide +kernel
theorem dX5_upIfWelded_25 : decode cX5_upIfWelded 25 = .ok (.aload_n 0, 1) := by decide +kernel
theorem dX5_upIfWelded_26 : decode cX5_upIfWelded 26 = .ok (.getfield 7, 3) := by decide +kernel
theorem dX5_upIfWelded_29 : decode cX5_upIfWelded 29 = .ok (.iconst 1, 1) := by decide +kernel
theorem dX5_upIfWelded_30 : decode cX5_upIfWelded 30 = .ok (.dup2, 1) := by decide +kernel
theorem dX5_upIfWelded_31 : decode cX5_upIfWelded 31 = .ok (.iaload, 1) := by decide +kernel
theorem dX5_upIfWelded_32 : decode cX5_upIfWelded 32 = .ok (.iconst 1, 1) := by decide +kernel
theorem dX5_upIfWelded_33 : decode cX5_upIfWelded 33 = .ok (.iload_n 2, 1) := by decide +kernel
theorem dX5_upIfWelded_34 : decode cX5_upIfWelded 34 = .ok (.ishl, 1) := by decide +kernel
theorem dX5_upIfWelded_35 : decode cX5_upIfWelded 35 = .ok (.ior, 1) := by decide +kernel
theorem dX5_upIfWelded_36 : decode cX5_upIfWelded 36 = .ok (.iastore, 1) := by decide +kernel
theorem dX5_upIfWelded_37 : decode cX5_upIfWelded 37 = .ok (.aload_n 0, 1) := by decide +kernel
theorem dX5_upIfWelded_38 : decode cX5_upIfWelded 38 = .ok (.iconst 0, 1) := by decide +kernel
theorem dX5_upIfWelded_39 : decode cX5_upIfWelded 39 = .ok (.iconst 0, 1) := by decide +kernel
theorem dX5_upIfWelded_40 : decode cX5_upIfWelded 40 = .ok (.invokevirtual 130, 3) := by decide +kernel
theorem dX5_upIfWelded_43 : decode cX5_upIfWelded 43 = .ok (.istore_n 3, 1) := by decide +kernel
theorem dX5_upIfWelded_44 : decode cX5_upIfWelded 44 = .ok (.iload_n 3, 1) := by decide +kernel
theorem dX5_upIfWelded_45 : decode cX5_upIfWelded 45 = .ok (.bipush (-6), 2) := by decide +kernel
theorem dX5_upIfWelded_47 : decode cX5_upIfWelded 47 = .ok (.if_icmp .ne 8, 3) := by decide +kernel
theorem dX5_upIfWelded_50 : decode cX5_upIfWelded 50 = .ok (.bipush (-6), 2) := by decide +kernel
theorem dX5_upIfWelded_52 : decode cX5_upIfWelded 52 = .ok (.goto 8, 3) := by decide +kernel
theorem dX5_upIfWelded_55 : decode cX5_upIfWelded 55 = .ok (.iload_n 3, 1) := by decide +kernel
theorem dX5_upIfWelded_56 : decode cX5_upIfWelded 56 = .ok (.iload_n 1, 1) := by decide +kernel
theorem dX5_upIfWelded_57 : decode cX5_upIfWelded 57 = .ok (.ishr, 1) := by decide +kernel
theorem dX5_upIfWelded_58 : decode cX5_upIfWelded 58 = .ok (.iconst 1, 1) := by decide +kernel
theorem dX5_upIfWelded_59 : decode cX5_upIfWelded 59 = .ok (.iand, 1) := by decide +kernel
theorem dX5_upIfWelded_60 : decode cX5_upIfWelded 60 = .ok (.ireturn, 1) := by decide +kernel
set_option maxRecDepth 20000 in
theorem ggX5_ifWelded_X5_isRelay : GoodIn wsX5_ifWelded wsX5_isRelay := goodIn_r _ [4, 5, 6, 3, 7] (by decide +kernel) (by decide +kernel)
set_option maxRecDepth 20000 in
theorem gX5_ifWelded_X5_isRelay : GoodIn wsX5_ifWelded (va_wsS RX5 80 yX5_isRelay wsX5_isRelay) := goodIn_app (goodIn_of _ (by decide +kernel)) ggX5_ifWelded_X5_isRelay
set_option maxRecDepth 20000 in
theorem ggX5_ifWelded_X5_upIfWelded : GoodIn wsX5_ifWelded wsX5_upIfWelded := goodIn_r _ [11, 12, 13, 14, 15, 3, 16, 17, 18, 19, 20, 21, 22, 23, 24, 25, 26, 27, 28, 29, 30, 31, 32, 33, 34, 35, 36, 37, 38, 39, 40, 41, 42, 43, 44, 45, 46, 47, 48, 49, 50, 51, 52, 53, 54, 55, 56, 57, 58, 59, 60, 61, 62, 63, 64, 65, 66, 67, 68, 69, 70, 71, 72, 73, 74, 75] (by decide +kernel) (by decide +kernel)
set_option maxRecDepth 20000 in
theorem gX5_ifWelded_X5_upIfWelded : GoodIn wsX5_ifWelded (wsV RX5 133 RX5 yX5_upIfWelded wsX5_upIfWelded) := goodIn_app (goodIn_of _ (by decide +kernel)) ggX5_ifWelded_X5_upIfWelded
theorem dX5_ifWelded_0 : decode cX5_ifWelded 0 = .ok (.iload_n 1, 1) := by decide +kernel
theorem dX5_ifWelded_1 : decode cX5_ifWelded 1 = .ok (.invokestatic 80, 3) := by decide +kernel
theorem dX5_ifWelded_4 : decode cX5_ifWelded 4 = .ok (.ifCond .eq 10, 3) := by decide +kernel
theorem dX5_ifWelded_7 : decode cX5_ifWelded 7 = .ok (.iload_n 2, 1) := by decide +kernel
theorem dX5_ifWelded_8 : decode cX5_ifWelded 8 = .ok (.invokestatic 80, 3) := by decide +kernel
theorem dX5_ifWelded_11 : decode cX5_ifWelded 11 = .ok (.ifCond .ne 5, 3) := by decide +kernel
theorem dX5_ifWelded_14 : decode cX5_ifWelded 14 = .ok (.iconst (-1), 1) := by decide +kernel
theorem dX5_ifWelded_15 : decode cX5_ifWelded 15 = .ok (.ireturn, 1) := by decide +kernel
theorem dX5_ifWelded_16 : decode cX5_ifWelded 16 = .ok (.iload_n 1, 1) := by decide +kernel
theorem dX5_ifWelded_17 : decode cX5_ifWelded 17 = .ok (.iload_n 2, 1) := by decide +kernel
theorem dX5_ifWelded_18 : decode cX5_ifWelded 18 = .ok (.if_icmp .ne 8, 3) := by decide +kernel
theorem dX5_ifWelded_21 : decode cX5_ifWelded 21 = .ok (.bipush (-2), 2) := by decide +kernel
theorem dX5_ifWelded_23 : decode cX5_ifWelded 23 = .ok (.goto 9, 3) := by decide +kernel
theorem dX5_ifWelded_26 : decode cX5_ifWelded 26 = .ok (.aload_n 0, 1) := by decide +kernel
theorem dX5_ifWelded_27 : decode cX5_ifWelded 27 = .ok (.iload_n 1, 1) := by decide +kernel
theorem dX5_ifWelded_28 : decode cX5_ifWelded 28 = .ok (.iload_n 2, 1) := by decide +kernel
theorem dX5_ifWelded_29 : decode cX5_ifWelded 29 = .ok (.invokevirtual 133, 3) := by decide +kernel
theorem dX5_ifWelded_32 : decode cX5_ifWelded 32 = .ok (.ireturn, 1) := by decide +kernel
set_option maxRecDepth 20000 in
theorem ggX5_unsafe_X5_isRelay : GoodIn wsX5_unsafe wsX5_isRelay := goodIn_r _ [4, 5, 6, 3, 7] (by decide +kernel) (by decide +kernel)
set_option maxRecDepth 20000 in
theorem gX5_unsafe_X5_isRelay : GoodIn wsX5_unsafe (va_wsS RX5 80 yX5_isRelay wsX5_isRelay) := goodIn_app (goodIn_of _ (by decide +kernel)) ggX5_unsafe_X5_isRelay
set_option maxRecDepth 20000 in
theorem ggX5_unsafe_X5_upIfWelded : GoodIn wsX5_unsafe wsX5_upIfWelded := goodIn_r _ [11, 12, 13, 14, 15, 3, 16, 17, 18, 19, 20, 21, 22, 23, 24, 25, 26, 27, 28, 29, 30, 31, 32, 33, 34, 35, 36, 37, 38, 39, 40, 41, 42, 43, 44, 45, 46, 47, 48, 49, 50, 51, 52, 53, 54, 55, 56, 57, 58, 59, 60, 61, 62, 63, 64, 65, 66, 67, 68, 69, 70, 71, 72, 73, 74, 75] (by decide +kernel) (by decide +kernel)
set_option maxRecDepth 20000 in
theorem gX5_unsafe_X5_upIfWelded : GoodIn wsX5_unsafe (wsV RX5 133 RX5 yX5_upIfWelded wsX5_upIfWelded) := goodIn_app (goodIn_of _ (by decide +kernel)) ggX5_unsafe_X5_upIfWelded
theorem dX5_unsafe_0 : decode cX5_unsafe 0 = .ok (.iload_n 1, 1) := by decide +kernel
theorem dX5_unsafe_1 : decode cX5_unsafe 1 = .ok (.invokestatic 80, 3) := by decide +kernel
theorem dX5_unsafe_4 : decode cX5_unsafe 4 = .ok (.ifCond .ne 5, 3) := by decide +kernel
theorem dX5_unsafe_7 : decode cX5_unsafe 7 = .ok (.iconst (-1), 1) := by decide +kernel
theorem dX5_unsafe_8 : decode cX5_unsafe 8 = .ok (.ireturn, 1) := by decide +kernel
theorem dX5_unsafe_9 : decode cX5_unsafe 9 = .ok (.iconst 0, 1) := by decide +kernel
theorem dX5_unsafe_10 : decode cX5_unsafe 10 = .ok (.istore_n 2, 1) := by decide +kernel
theorem dX5_unsafe_11 : decode cX5_unsafe 11 = .ok (.iconst 0, 1) := by decide +kernel
theorem dX5_unsafe_12 : decode cX5_unsafe 12 = .ok (.istore_n 3, 1) := by decide +kernel
theorem dX5_unsafe_13 : decode cX5_unsafe 13 = .ok (.iload_n 3, 1) := by decide +kernel
theorem dX5_unsafe_14 : decode cX5_unsafe 14 = .ok (.bipush 10, 2) := by decide +kernel
theorem dX5_unsafe_16 : decode cX5_unsafe 16 = .ok (.if_icmp .ge 34, 3) := by decide +kernel
theorem dX5_unsafe_19 : decode cX5_unsafe 19 = .ok (.iload_n 2, 1) := by decide +kernel
theorem dX5_unsafe_20 : decode cX5_unsafe 20 = .ok (.iload_n 3, 1) := by decide +kernel
theorem dX5_unsafe_21 : decode cX5_unsafe 21 = .ok (.iload_n 1, 1) := by decide +kernel
theorem dX5_unsafe_22 : decode cX5_unsafe 22 = .ok (.if_icmp .eq 19, 3) := by decide +kernel
theorem dX5_unsafe_25 : decode cX5_unsafe 25 = .ok (.aload_n 0, 1) := by decide +kernel
theorem dX5_unsafe_26 : decode cX5_unsafe 26 = .ok (.iload_n 1, 1) := by decide +kernel
theorem dX5_unsafe_27 : decode cX5_unsafe 27 = .ok (.iload_n 3, 1) := by decide +kernel
theorem dX5_unsafe_28 : decode cX5_unsafe 28 = .ok (.invokevirtual 133, 3) := by decide +kernel
theorem dX5_unsafe_31 : decode cX5_unsafe 31 = .ok (.iconst 1, 1) := by decide +kernel
theorem dX5_unsafe_32 : decode cX5_unsafe 32 = .ok (.if_icmp .ne 9, 3) := by decide +kernel
theorem dX5_unsafe_35 : decode cX5_unsafe 35 = .ok (.iconst 1, 1) := by decide +kernel
theorem dX5_unsafe_36 : decode cX5_unsafe 36 = .ok (.iload_n 3, 1) := by decide +kernel
theorem dX5_unsafe_37 : decode cX5_unsafe 37 = .ok (.ishl, 1) := by decide +kernel
theorem dX5_unsafe_38 : decode cX5_unsafe 38 = .ok (.goto 4, 3) := by decide +kernel
theorem dX5_unsafe_41 : decode cX5_unsafe 41 = .ok (.iconst 0, 1) := by decide +kernel
theorem dX5_unsafe_42 : decode cX5_unsafe 42 = .ok (.ior, 1) := by decide +kernel
theorem dX5_unsafe_43 : decode cX5_unsafe 43 = .ok (.istore_n 2, 1) := by decide +kernel
theorem dX5_unsafe_44 : decode cX5_unsafe 44 = .ok (.iinc 3 1, 3) := by decide +kernel
theorem dX5_unsafe_47 : decode cX5_unsafe 47 = .ok (.goto (-34), 3) := by decide +kernel
theorem dX5_unsafe_50 : decode cX5_unsafe 50 = .ok (.iload_n 2, 1) := by decide +kernel
theorem dX5_unsafe_51 : decode cX5_unsafe 51 = .ok (.ireturn, 1) := by decide +kernel
theorem dX5_bits_0 : decode cX5_bits 0 = .ok (.iconst 0, 1) := by decide +kernel
theorem dX5_bits_1 : decode cX5_bits 1 = .ok (.istore_n 1, 1) := by decide +kernel
theorem dX5_bits_2 : decode cX5_bits 2 = .ok (.iconst 0, 1) := by decide +kernel
theorem dX5_bits_3 : decode cX5_bits 3 = .ok (.istore_n 2, 1) := by decide +kernel
theorem dX5_bits_4 : decode cX5_bits 4 = .ok (.iload_n 2, 1) := by decide +kernel
theorem dX5_bits_5 : decode cX5_bits 5 = .ok (.bipush 6, 2) := by decide +kernel
theorem dX5_bits_7 : decode cX5_bits 7 = .ok (.if_icmp .ge 17, 3) := by decide +kernel
theorem dX5_bits_10 : decode cX5_bits 10 = .ok (.iload_n 1, 1) := by decide +kernel
theorem dX5_bits_11 : decode cX5_bits 11 = .ok (.iload_n 0, 1) := by decide +kernel
theorem dX5_bits_12 : decode cX5_bits 12 = .ok (.iload_n 2, 1) := by decide +kernel
theorem dX5_bits_13 : decode cX5_bits 13 = .ok (.ishr, 1) := by decide +kernel
theorem dX5_bits_14 : decode cX5_bits 14 = .ok (.iconst 1, 1) := by decide +kernel
theorem dX5_bits_15 : decode cX5_bits 15 = .ok (.iand, 1) := by decide +kernel
theorem dX5_bits_16 : decode cX5_bits 16 = .ok (.iadd, 1) := by decide +kernel
theorem dX5_bits_17 : decode cX5_bits 17 = .ok (.istore_n 1, 1) := by decide +kernel
theorem dX5_bits_18 : decode cX5_bits 18 = .ok (.iinc 2 1, 3) := by decide +kernel
theorem dX5_bits_21 : decode cX5_bits 21 = .ok (.goto (-17), 3) := by decide +kernel
theorem dX5_bits_24 : decode cX5_bits 24 = .ok (.iload_n 1, 1) := by decide +kernel
theorem dX5_bits_25 : decode cX5_bits 25 = .ok (.ireturn, 1) := by decide +kernel
set_option maxRecDepth 20000 in
theorem ggX5_reach_X5_isRelay : GoodIn wsX5_reach wsX5_isRelay := goodIn_r _ [6, 7, 8, 5, 9] (by decide +kernel) (by decide +kernel)
set_option maxRecDepth 20000 in
theorem gX5_reach_X5_isRelay : GoodIn wsX5_reach (va_wsS RX5 80 yX5_isRelay wsX5_isRelay) := goodIn_app (goodIn_of _ (by decide +kernel)) ggX5_reach_X5_isRelay
set_option maxRecDepth 20000 in
theorem ggX5_reach_X5_moves : GoodIn wsX5_reach wsX5_moves := goodIn_r _ [12] (by decide +kernel) (by decide +kernel)
set_option maxRecDepth 20000 in
theorem gX5_reach_X5_moves : GoodIn wsX5_reach (va_wsS RX5 39 yX5_moves wsX5_moves) := goodIn_app (goodIn_of _ (by decide +kernel)) ggX5_reach_X5_moves
set_option maxRecDepth 20000 in
theorem ggX5_reach_X5_restWith : GoodIn wsX5_reach wsX5_restWith := goodIn_r _ [16, 1, 2, 17, 18, 19, 5, 20, 21, 22, 23, 24, 25, 26, 27, 28, 29, 30, 31, 32, 33, 34, 35, 36, 37, 38, 39, 40, 41, 42, 43, 44, 45, 46, 47, 48, 49, 50, 51, 52, 53, 54, 55, 56, 57, 58, 59, 10, 11, 12, 63, 64, 65, 66, 67, 68, 69, 70, 71, 72, 73, 74] (by decide +kernel) (by decide +kernel)
set_option maxRecDepth 20000 in
theorem gX5_reach_X5_restWith : GoodIn wsX5_reach (wsV RX5 130 RX5 yX5_restWith wsX5_restWith) := goodIn_app (goodIn_of _ (by decide +kernel)) ggX5_reach_X5_restWith
set_option maxRecDepth 20000 in
theorem ggX5_reach_X5_has : GoodIn wsX5_reach wsX5_has := goodIn_r _ [51] (by decide +kernel) (by decide +kernel)
set_option maxRecDepth 20000 in
theorem gX5_reach_X5_has : GoodIn wsX5_reach (va_wsS RX5 67 yX5_has wsX5_has) := goodIn_app (goodIn_of _ (by decide +kernel)) ggX5_reach_X5_has
set_option maxRecDepth 20000 in
theorem ggX5_reach_X5_bits : GoodIn wsX5_reach wsX5_bits := goodIn_r _ [62] (by decide +kernel) (by decide +kernel)
set_option maxRecDepth 20000 in
theorem gX5_reach_X5_bits : GoodIn wsX5_reach (va_wsS RX5 136 yX5_bits wsX5_bits) := goodIn_app (goodIn_of _ (by decide +kernel)) ggX5_reach_X5_bits
theorem dX5_reach_0 : decode cX5_reach 0 = .ok (.iload_n 1, 1) := by decide +kernel
theorem dX5_reach_1 : decode cX5_reach 1 = .ok (.invokestatic 80, 3) := by decide +kernel
theorem dX5_reach_4 : decode cX5_reach 4 = .ok (.ifCond .ne 5, 3) := by decide +kernel
theorem dX5_reach_7 : decode cX5_reach 7 = .ok (.iconst (-1), 1) := by decide +kernel
theorem dX5_reach_8 : decode cX5_reach 8 = .ok (.ireturn, 1) := by decide +kernel
theorem dX5_reach_9 : decode cX5_reach 9 = .ok (.bipush (-6), 2) := by decide +kernel
theorem dX5_reach_11 : decode cX5_reach 11 = .ok (.istore_n 2, 1) := by decide +kernel
theorem dX5_reach_12 : decode cX5_reach 12 = .ok (.bipush 63, 2) := by decide +kernel
theorem dX5_reach_14 : decode cX5_reach 14 = .ok (.istore_n 3, 1) := by decide +kernel
theorem dX5_reach_15 : decode cX5_reach 15 = .ok (.iload_n 3, 1) := by decide +kernel
theorem dX5_reach_16 : decode cX5_reach 16 = .ok (.ifCond .lt 81, 3) := by decide +kernel
theorem dX5_reach_19 : decode cX5_reach 19 = .ok (.aload_n 0, 1) := by decide +kernel
theorem dX5_reach_20 : decode cX5_reach 20 = .ok (.getfield 7, 3) := by decide +kernel
theorem dX5_reach_23 : decode cX5_reach 23 = .ok (.iconst 0, 1) := by decide +kernel
theorem dX5_reach_24 : decode cX5_reach 24 = .ok (.aload_n 0, 1) := by decide +kernel
theorem dX5_reach_25 : decode cX5_reach 25 = .ok (.getfield 13, 3) := by decide +kernel
theorem dX5_reach_28 : decode cX5_reach 28 = .ok (.iconst 0, 1) := by decide +kernel
theorem dX5_reach_29 : decode cX5_reach 29 = .ok (.invokestatic 39, 3) := by decide +kernel
theorem dX5_reach_32 : decode cX5_reach 32 = .ok (.aload_n 0, 1) := by decide +kernel
theorem dX5_reach_33 : decode cX5_reach 33 = .ok (.iload_n 3, 1) := by decide +kernel
theorem dX5_reach_34 : decode cX5_reach 34 = .ok (.iconst 0, 1) := by decide +kernel
theorem dX5_reach_35 : decode cX5_reach 35 = .ok (.invokevirtual 130, 3) := by decide +kernel
theorem dX5_reach_38 : decode cX5_reach 38 = .ok (.istore 4, 2) := by decide +kernel
theorem dX5_reach_40 : decode cX5_reach 40 = .ok (.iload 4, 2) := by decide +kernel
theorem dX5_reach_42 : decode cX5_reach 42 = .ok (.bipush (-6), 2) := by decide +kernel
theorem dX5_reach_44 : decode cX5_reach 44 = .ok (.if_icmp .eq 33, 3) := by decide +kernel
theorem dX5_reach_47 : decode cX5_reach 47 = .ok (.iload 4, 2) := by decide +kernel
theorem dX5_reach_49 : decode cX5_reach 49 = .ok (.iload_n 1, 1) := by decide +kernel
theorem dX5_reach_50 : decode cX5_reach 50 = .ok (.invokestatic 67, 3) := by decide +kernel
theorem dX5_reach_53 : decode cX5_reach 53 = .ok (.ifCond .eq 24, 3) := by decide +kernel
theorem dX5_reach_56 : decode cX5_reach 56 = .ok (.iload_n 2, 1) := by decide +kernel
theorem dX5_reach_57 : decode cX5_reach 57 = .ok (.bipush (-6), 2) := by decide +kernel
theorem dX5_reach_59 : decode cX5_reach 59 = .ok (.if_icmp .eq 14, 3) := by decide +kernel
theorem dX5_reach_62 : decode cX5_reach 62 = .ok (.iload_n 3, 1) := by decide +kernel
theorem dX5_reach_63 : decode cX5_reach 63 = .ok (.invokestatic 136, 3) := by decide +kernel
theorem dX5_reach_66 : decode cX5_reach 66 = .ok (.iload_n 2, 1) := by decide +kernel
theorem dX5_reach_67 : decode cX5_reach 67 = .ok (.invokestatic 136, 3) := by decide +kernel
theorem dX5_reach_70 : decode cX5_reach 70 = .ok (.if_icmp .gt 7, 3) := by decide +kernel
theorem dX5_reach_73 : decode cX5_reach 73 = .ok (.iconst 1, 1) := by decide +kernel
theorem dX5_reach_74 : decode cX5_reach 74 = .ok (.goto 4, 3) := by decide +kernel
theorem dX5_reach_77 : decode cX5_reach 77 = .ok (.iconst 0, 1) := by decide +kernel
theorem dX5_reach_78 : decode cX5_reach 78 = .ok (.istore 5, 2) := by decide +kernel
theorem dX5_reach_80 : decode cX5_reach 80 = .ok (.iload 5, 2) := by decide +kernel
theorem dX5_reach_82 : decode cX5_reach 82 = .ok (.ifCond .eq 7, 3) := by decide +kernel
theorem dX5_reach_85 : decode cX5_reach 85 = .ok (.iload_n 3, 1) := by decide +kernel
theorem dX5_reach_86 : decode cX5_reach 86 = .ok (.goto 4, 3) := by decide +kernel
theorem dX5_reach_89 : decode cX5_reach 89 = .ok (.iload_n 2, 1) := by decide +kernel
theorem dX5_reach_90 : decode cX5_reach 90 = .ok (.istore_n 2, 1) := by decide +kernel
theorem dX5_reach_91 : decode cX5_reach 91 = .ok (.iinc 3 (-1), 3) := by decide +kernel
theorem dX5_reach_94 : decode cX5_reach 94 = .ok (.goto (-79), 3) := by decide +kernel
theorem dX5_reach_97 : decode cX5_reach 97 = .ok (.iload_n 2, 1) := by decide +kernel
theorem dX5_reach_98 : decode cX5_reach 98 = .ok (.ireturn, 1) := by decide +kernel
set_option maxRecDepth 20000 in
theorem ggX5_put_X5_within : GoodIn wsX5_put wsX5_within := goodIn_r _ [7] (by decide +kernel) (by decide +kernel)
set_option maxRecDepth 20000 in
theorem gX5_put_X5_within : GoodIn wsX5_put (va_wsS RX5 43 yX5_within wsX5_within) := goodIn_app (goodIn_of _ (by decide +kernel)) ggX5_put_X5_within
theorem dX5_put_0 : decode cX5_put 0 = .ok (.iconst 0, 1) := by decide +kernel
theorem dX5_put_1 : decode cX5_put 1 = .ok (.istore_n 3, 1) := by decide +kernel
theorem dX5_put_2 : decode cX5_put 2 = .ok (.lload_n 1, 1) := by decide +kernel
theorem dX5_put_3 : decode cX5_put 3 = .ok (.lstore 4, 2) := by decide +kernel
theorem dX5_put_5 : decode cX5_put 5 = .ok (.iconst 1, 1) := by decide +kernel
theorem dX5_put_6 : decode cX5_put 6 = .ok (.istore 6, 2) := by decide +kernel
theorem dX5_put_8 : decode cX5_put 8 = .ok (.iload_n 3, 1) := by decide +kernel
theorem dX5_put_9 : decode cX5_put 9 = .ok (.bipush 8, 2) := by decide +kernel
theorem dX5_put_11 : decode cX5_put 11 = .ok (.if_icmp .ge 56, 3) := by decide +kernel
theorem dX5_put_14 : decode cX5_put 14 = .ok (.lload 4, 2) := by decide +kernel
theorem dX5_put_16 : decode cX5_put 16 = .ok (.ldc2_w 139, 3) := by decide +kernel
theorem dX5_put_19 : decode cX5_put 19 = .ok (.land, 1) := by decide +kernel
theorem dX5_put_20 : decode cX5_put 20 = .ok (.lconst 0, 1) := by decide +kernel
theorem dX5_put_21 : decode cX5_put 21 = .ok (.lcmp, 1) := by decide +kernel
theorem dX5_put_22 : decode cX5_put 22 = .ok (.ifCond .eq 45, 3) := by decide +kernel
theorem dX5_put_25 : decode cX5_put 25 = .ok (.iload 6, 2) := by decide +kernel
theorem dX5_put_27 : decode cX5_put 27 = .ok (.ifCond .eq 24, 3) := by decide +kernel
theorem dX5_put_30 : decode cX5_put 30 = .ok (.lload 4, 2) := by decide +kernel
theorem dX5_put_32 : decode cX5_put 32 = .ok (.ldc2_w 139, 3) := by decide +kernel
theorem dX5_put_35 : decode cX5_put 35 = .ok (.land, 1) := by decide +kernel
theorem dX5_put_36 : decode cX5_put 36 = .ok (.l2i, 1) := by decide +kernel
theorem dX5_put_37 : decode cX5_put 37 = .ok (.bipush 33, 2) := by decide +kernel
theorem dX5_put_39 : decode cX5_put 39 = .ok (.bipush 126, 2) := by decide +kernel
theorem dX5_put_41 : decode cX5_put 41 = .ok (.invokestatic 43, 3) := by decide +kernel
theorem dX5_put_44 : decode cX5_put 44 = .ok (.ifCond .eq 7, 3) := by decide +kernel
theorem dX5_put_47 : decode cX5_put 47 = .ok (.iconst 1, 1) := by decide +kernel
theorem dX5_put_48 : decode cX5_put 48 = .ok (.goto 4, 3) := by decide +kernel
theorem dX5_put_51 : decode cX5_put 51 = .ok (.iconst 0, 1) := by decide +kernel
theorem dX5_put_52 : decode cX5_put 52 = .ok (.istore 6, 2) := by decide +kernel
theorem dX5_put_54 : decode cX5_put 54 = .ok (.lload 4, 2) := by decide +kernel
theorem dX5_put_56 : decode cX5_put 56 = .ok (.bipush 8, 2) := by decide +kernel
theorem dX5_put_58 : decode cX5_put 58 = .ok (.lushr, 1) := by decide +kernel
theorem dX5_put_59 : decode cX5_put 59 = .ok (.lstore 4, 2) := by decide +kernel
theorem dX5_put_61 : decode cX5_put 61 = .ok (.iinc 3 1, 3) := by decide +kernel
theorem dX5_put_64 : decode cX5_put 64 = .ok (.goto (-56), 3) := by decide +kernel
theorem dX5_put_67 : decode cX5_put 67 = .ok (.iload_n 3, 1) := by decide +kernel
theorem dX5_put_68 : decode cX5_put 68 = .ok (.ifCond .eq 15, 3) := by decide +kernel
theorem dX5_put_71 : decode cX5_put 71 = .ok (.iload 6, 2) := by decide +kernel
theorem dX5_put_73 : decode cX5_put 73 = .ok (.ifCond .eq 10, 3) := by decide +kernel
theorem dX5_put_76 : decode cX5_put 76 = .ok (.lload 4, 2) := by decide +kernel
theorem dX5_put_78 : decode cX5_put 78 = .ok (.lconst 0, 1) := by decide +kernel
theorem dX5_put_79 : decode cX5_put 79 = .ok (.lcmp, 1) := by decide +kernel
theorem dX5_put_80 : decode cX5_put 80 = .ok (.ifCond .eq 6, 3) := by decide +kernel
theorem dX5_put_83 : decode cX5_put 83 = .ok (.bipush (-2), 2) := by decide +kernel
theorem dX5_put_85 : decode cX5_put 85 = .ok (.ireturn, 1) := by decide +kernel
theorem dX5_put_86 : decode cX5_put 86 = .ok (.aload_n 0, 1) := by decide +kernel
theorem dX5_put_87 : decode cX5_put 87 = .ok (.getfield 92, 3) := by decide +kernel
theorem dX5_put_90 : decode cX5_put 90 = .ok (.iload_n 3, 1) := by decide +kernel
theorem dX5_put_91 : decode cX5_put 91 = .ok (.iadd, 1) := by decide +kernel
theorem dX5_put_92 : decode cX5_put 92 = .ok (.bipush 64, 2) := by decide +kernel
theorem dX5_put_94 : decode cX5_put 94 = .ok (.if_icmp .le 6, 3) := by decide +kernel
theorem dX5_put_97 : decode cX5_put 97 = .ok (.bipush (-4), 2) := by decide +kernel
theorem dX5_put_99 : decode cX5_put 99 = .ok (.ireturn, 1) := by decide +kernel
theorem dX5_put_100 : decode cX5_put 100 = .ok (.iload_n 3, 1) := by decide +kernel
theorem dX5_put_101 : decode cX5_put 101 = .ok (.iconst 1, 1) := by decide +kernel
theorem dX5_put_102 : decode cX5_put 102 = .ok (.isub, 1) := by decide +kernel
theorem dX5_put_103 : decode cX5_put 103 = .ok (.istore 7, 2) := by decide +kernel
theorem dX5_put_105 : decode cX5_put 105 = .ok (.iload 7, 2) := by decide +kernel
theorem dX5_put_107 : decode cX5_put 107 = .ok (.ifCond .lt 40, 3) := by decide +kernel
theorem dX5_put_110 : decode cX5_put 110 = .ok (.aload_n 0, 1) := by decide +kernel
theorem dX5_put_111 : decode cX5_put 111 = .ok (.getfield 25, 3) := by decide +kernel
theorem dX5_put_114 : decode cX5_put 114 = .ok (.aload_n 0, 1) := by decide +kernel
theorem dX5_put_115 : decode cX5_put 115 = .ok (.getfield 92, 3) := by decide +kernel
theorem dX5_put_118 : decode cX5_put 118 = .ok (.lload_n 1, 1) := by decide +kernel
theorem dX5_put_119 : decode cX5_put 119 = .ok (.bipush 8, 2) := by decide +kernel
theorem dX5_put_121 : decode cX5_put 121 = .ok (.iload 7, 2) := by decide +kernel
theorem dX5_put_123 : decode cX5_put 123 = .ok (.imul, 1) := by decide +kernel
theorem dX5_put_124 : decode cX5_put 124 = .ok (.lushr, 1) := by decide +kernel
theorem dX5_put_125 : decode cX5_put 125 = .ok (.ldc2_w 139, 3) := by decide +kernel
theorem dX5_put_128 : decode cX5_put 128 = .ok (.land, 1) := by decide +kernel
theorem dX5_put_129 : decode cX5_put 129 = .ok (.l2i, 1) := by decide +kernel
theorem dX5_put_130 : decode cX5_put 130 = .ok (.iastore, 1) := by decide +kernel
theorem dX5_put_131 : decode cX5_put 131 = .ok (.aload_n 0, 1) := by decide +kernel
theorem dX5_put_132 : decode cX5_put 132 = .ok (.dup, 1) := by decide +kernel
theorem dX5_put_133 : decode cX5_put 133 = .ok (.getfield 92, 3) := by decide +kernel
theorem dX5_put_136 : decode cX5_put 136 = .ok (.iconst 1, 1) := by decide +kernel
theorem dX5_put_137 : decode cX5_put 137 = .ok (.iadd, 1) := by decide +kernel
theorem dX5_put_138 : decode cX5_put 138 = .ok (.putfield 92, 3) := by decide +kernel
theorem dX5_put_141 : decode cX5_put 141 = .ok (.iinc 7 (-1), 3) := by decide +kernel
theorem dX5_put_144 : decode cX5_put 144 = .ok (.goto (-39), 3) := by decide +kernel
theorem dX5_put_147 : decode cX5_put 147 = .ok (.aload_n 0, 1) := by decide +kernel
theorem dX5_put_148 : decode cX5_put 148 = .ok (.getfield 92, 3) := by decide +kernel
theorem dX5_put_151 : decode cX5_put 151 = .ok (.ireturn, 1) := by decide +kernel
theorem dX5_wipe_0 : decode cX5_wipe 0 = .ok (.aload_n 0, 1) := by decide +kernel
theorem dX5_wipe_1 : decode cX5_wipe 1 = .ok (.getfield 92, 3) := by decide +kernel
theorem dX5_wipe_4 : decode cX5_wipe 4 = .ok (.istore_n 1, 1) := by decide +kernel
theorem dX5_wipe_5 : decode cX5_wipe 5 = .ok (.aload_n 0, 1) := by decide +kernel
theorem dX5_wipe_6 : decode cX5_wipe 6 = .ok (.iconst 0, 1) := by decide +kernel
theorem dX5_wipe_7 : decode cX5_wipe 7 = .ok (.putfield 92, 3) := by decide +kernel
theorem dX5_wipe_10 : decode cX5_wipe 10 = .ok (.iload_n 1, 1) := by decide +kernel
theorem dX5_wipe_11 : decode cX5_wipe 11 = .ok (.ireturn, 1) := by decide +kernel
theorem dX5_character_0 : decode cX5_character 0 = .ok (.iload_n 1, 1) := by decide +kernel
theorem dX5_character_1 : decode cX5_character 1 = .ok (.aload_n 0, 1) := by decide +kernel
theorem dX5_character_2 : decode cX5_character 2 = .ok (.getfield 92, 3) := by decide +kernel
theorem dX5_character_5 : decode cX5_character 5 = .ok (.if_icmp .ge 12, 3) := by decide +kernel
theorem dX5_character_8 : decode cX5_character 8 = .ok (.aload_n 0, 1) := by decide +kernel
theorem dX5_character_9 : decode cX5_character 9 = .ok (.getfield 25, 3) := by decide +kernel
theorem dX5_character_12 : decode cX5_character 12 = .ok (.iload_n 1, 1) := by decide +kernel
theorem dX5_character_13 : decode cX5_character 13 = .ok (.iaload, 1) := by decide +kernel
theorem dX5_character_14 : decode cX5_character 14 = .ok (.goto 4, 3) := by decide +kernel
theorem dX5_character_17 : decode cX5_character 17 = .ok (.iconst (-1), 1) := by decide +kernel
theorem dX5_character_18 : decode cX5_character 18 = .ok (.ireturn, 1) := by decide +kernel
set_option maxRecDepth 20000 in
theorem ggX5_isNext_X5_character : GoodIn wsX5_isNext wsX5_character := goodIn_r _ [6, 7, 8, 9, 10, 11, 12, 13, 14, 15, 16, 17, 18, 19, 20] (by decide +kernel) (by decide +kernel)
set_option maxRecDepth 20000 in
theorem gX5_isNext_X5_character : GoodIn wsX5_isNext (wsV RX5 141 RX5 yX5_character wsX5_character) := goodIn_app (goodIn_of _ (by decide +kernel)) ggX5_isNext_X5_character
theorem dX5_isNext_0 : decode cX5_isNext 0 = .ok (.aload_n 0, 1) := by decide +kernel
theorem dX5_isNext_1 : decode cX5_isNext 1 = .ok (.aload_n 0, 1) := by decide +kernel
theorem dX5_isNext_2 : decode cX5_isNext 2 = .ok (.getfield 89, 3) := by decide +kernel
theorem dX5_isNext_5 : decode cX5_isNext 5 = .ok (.invokevirtual 141, 3) := by decide +kernel
theorem dX5_isNext_8 : decode cX5_isNext 8 = .ok (.iload_n 1, 1) := by decide +kernel
theorem dX5_isNext_9 : decode cX5_isNext 9 = .ok (.if_icmp .ne 7, 3) := by decide +kernel
theorem dX5_isNext_12 : decode cX5_isNext 12 = .ok (.iconst 1, 1) := by decide +kernel
theorem dX5_isNext_13 : decode cX5_isNext 13 = .ok (.goto 4, 3) := by decide +kernel
theorem dX5_isNext_16 : decode cX5_isNext 16 = .ok (.iconst 0, 1) := by decide +kernel
theorem dX5_isNext_17 : decode cX5_isNext 17 = .ok (.istore_n 2, 1) := by decide +kernel
theorem dX5_isNext_18 : decode cX5_isNext 18 = .ok (.aload_n 0, 1) := by decide +kernel
theorem dX5_isNext_19 : decode cX5_isNext 19 = .ok (.dup, 1) := by decide +kernel
theorem dX5_isNext_20 : decode cX5_isNext 20 = .ok (.getfield 89, 3) := by decide +kernel
theorem dX5_isNext_23 : decode cX5_isNext 23 = .ok (.iload_n 2, 1) := by decide +kernel
theorem dX5_isNext_24 : decode cX5_isNext 24 = .ok (.ifCond .eq 7, 3) := by decide +kernel
theorem dX5_isNext_27 : decode cX5_isNext 27 = .ok (.iconst 1, 1) := by decide +kernel
theorem dX5_isNext_28 : decode cX5_isNext 28 = .ok (.goto 4, 3) := by decide +kernel
theorem dX5_isNext_31 : decode cX5_isNext 31 = .ok (.iconst 0, 1) := by decide +kernel
theorem dX5_isNext_32 : decode cX5_isNext 32 = .ok (.iadd, 1) := by decide +kernel
theorem dX5_isNext_33 : decode cX5_isNext 33 = .ok (.putfield 89, 3) := by decide +kernel
theorem dX5_isNext_36 : decode cX5_isNext 36 = .ok (.iload_n 2, 1) := by decide +kernel
theorem dX5_isNext_37 : decode cX5_isNext 37 = .ok (.ireturn, 1) := by decide +kernel
set_option maxRecDepth 20000 in
theorem ggX5_contactOf_X5_within : GoodIn wsX5_contactOf wsX5_within := goodIn_r _ [4] (by decide +kernel) (by decide +kernel)
set_option maxRecDepth 20000 in
theorem gX5_contactOf_X5_within : GoodIn wsX5_contactOf (va_wsS RX5 43 yX5_within wsX5_within) := goodIn_app (goodIn_of _ (by decide +kernel)) ggX5_contactOf_X5_within
theorem dX5_contactOf_0 : decode cX5_contactOf 0 = .ok (.iload_n 0, 1) := by decide +kernel
theorem dX5_contactOf_1 : decode cX5_contactOf 1 = .ok (.bipush 65, 2) := by decide +kernel
theorem dX5_contactOf_3 : decode cX5_contactOf 3 = .ok (.bipush 74, 2) := by decide +kernel
theorem dX5_contactOf_5 : decode cX5_contactOf 5 = .ok (.invokestatic 43, 3) := by decide +kernel
theorem dX5_contactOf_8 : decode cX5_contactOf 8 = .ok (.ifCond .eq 10, 3) := by decide +kernel
theorem dX5_contactOf_11 : decode cX5_contactOf 11 = .ok (.iload_n 0, 1) := by decide +kernel
theorem dX5_contactOf_12 : decode cX5_contactOf 12 = .ok (.bipush 65, 2) := by decide +kernel
theorem dX5_contactOf_14 : decode cX5_contactOf 14 = .ok (.isub, 1) := by decide +kernel
theorem dX5_contactOf_15 : decode cX5_contactOf 15 = .ok (.goto 25, 3) := by decide +kernel
theorem dX5_contactOf_18 : decode cX5_contactOf 18 = .ok (.iload_n 0, 1) := by decide +kernel
theorem dX5_contactOf_19 : decode cX5_contactOf 19 = .ok (.bipush 97, 2) := by decide +kernel
theorem dX5_contactOf_21 : decode cX5_contactOf 21 = .ok (.bipush 102, 2) := by decide +kernel
theorem dX5_contactOf_23 : decode cX5_contactOf 23 = .ok (.invokestatic 43, 3) := by decide +kernel
theorem dX5_contactOf_26 : decode cX5_contactOf 26 = .ok (.ifCond .eq 13, 3) := by decide +kernel
theorem dX5_contactOf_29 : decode cX5_contactOf 29 = .ok (.bipush 10, 2) := by decide +kernel
theorem dX5_contactOf_31 : decode cX5_contactOf 31 = .ok (.iload_n 0, 1) := by decide +kernel
theorem dX5_contactOf_32 : decode cX5_contactOf 32 = .ok (.iadd, 1) := by decide +kernel
theorem dX5_contactOf_33 : decode cX5_contactOf 33 = .ok (.bipush 97, 2) := by decide +kernel
theorem dX5_contactOf_35 : decode cX5_contactOf 35 = .ok (.isub, 1) := by decide +kernel
theorem dX5_contactOf_36 : decode cX5_contactOf 36 = .ok (.goto 4, 3) := by decide +kernel
theorem dX5_contactOf_39 : decode cX5_contactOf 39 = .ok (.iconst (-1), 1) := by decide +kernel
theorem dX5_contactOf_40 : decode cX5_contactOf 40 = .ok (.ireturn, 1) := by decide +kernel
set_option maxRecDepth 20000 in
theorem ggX5_readsBranch_X5_isNext : GoodIn wsX5_readsBranch wsX5_isNext := goodIn_r _ [8, 3, 9, 10, 11, 7, 12, 13, 14, 21, 22, 23, 24, 25, 26, 27, 28, 29, 30, 31, 32] (by decide +kernel) (by decide +kernel)
set_option maxRecDepth 20000 in
theorem gX5_readsBranch_X5_isNext : GoodIn wsX5_readsBranch (wsV RX5 99 RX5 yX5_isNext wsX5_isNext) := goodIn_app (goodIn_of _ (by decide +kernel)) ggX5_readsBranch_X5_isNext
set_option maxRecDepth 20000 in
theorem ggX5_readsBranch_X5_character : GoodIn wsX5_readsBranch wsX5_character := goodIn_r _ [12, 13, 14, 21, 22, 23, 24, 25, 26, 27, 28, 29, 30, 31, 32] (by decide +kernel) (by decide +kernel)
set_option maxRecDepth 20000 in
theorem gX5_readsBranch_X5_character : GoodIn wsX5_readsBranch (wsV RX5 141 RX5 yX5_character wsX5_character) := goodIn_app (goodIn_of _ (by decide +kernel)) ggX5_readsBranch_X5_character
set_option maxRecDepth 20000 in
theorem ggX5_readsBranch_X5_contactOf : GoodIn wsX5_readsBranch wsX5_contactOf := goodIn_r _ [17, 18, 19, 7, 20] (by decide +kernel) (by decide +kernel)
set_option maxRecDepth 20000 in
theorem gX5_readsBranch_X5_contactOf : GoodIn wsX5_readsBranch (va_wsS RX5 144 yX5_contactOf wsX5_contactOf) := goodIn_app (goodIn_of _ (by decide +kernel)) ggX5_readsBranch_X5_contactOf
theorem dX5_readsBranch_0 : decode cX5_readsBranch 0 = .ok (.iconst 3, 1) := by decide +kernel
theorem dX5_readsBranch_1 : decode cX5_readsBranch 1 = .ok (.aload_n 0, 1) := by decide +kernel
theorem dX5_readsBranch_2 : decode cX5_readsBranch 2 = .ok (.getfield 105, 3) := by decide +kernel
theorem dX5_readsBranch_5 : decode cX5_readsBranch 5 = .ok (.imul, 1) := by decide +kernel
theorem dX5_readsBranch_6 : decode cX5_readsBranch 6 = .ok (.istore_n 1, 1) := by decide +kernel
theorem dX5_readsBranch_7 : decode cX5_readsBranch 7 = .ok (.aload_n 0, 1) := by decide +kernel
theorem dX5_readsBranch_8 : decode cX5_readsBranch 8 = .ok (.getfield 28, 3) := by decide +kernel
theorem dX5_readsBranch_11 : decode cX5_readsBranch 11 = .ok (.iload_n 1, 1) := by decide +kernel
theorem dX5_readsBranch_12 : decode cX5_readsBranch 12 = .ok (.iconst 0, 1) := by decide +kernel
theorem dX5_readsBranch_13 : decode cX5_readsBranch 13 = .ok (.iastore, 1) := by decide +kernel
theorem dX5_readsBranch_14 : decode cX5_readsBranch 14 = .ok (.aload_n 0, 1) := by decide +kernel
theorem dX5_readsBranch_15 : decode cX5_readsBranch 15 = .ok (.getfield 28, 3) := by decide +kernel
theorem dX5_readsBranch_18 : decode cX5_readsBranch 18 = .ok (.iload_n 1, 1) := by decide +kernel
theorem dX5_readsBranch_19 : decode cX5_readsBranch 19 = .ok (.iconst 1, 1) := by decide +kernel
theorem dX5_readsBranch_20 : decode cX5_readsBranch 20 = .ok (.iadd, 1) := by decide +kernel
theorem dX5_readsBranch_21 : decode cX5_readsBranch 21 = .ok (.iconst 0, 1) := by decide +kernel
theorem dX5_readsBranch_22 : decode cX5_readsBranch 22 = .ok (.iastore, 1) := by decide +kernel
theorem dX5_readsBranch_23 : decode cX5_readsBranch 23 = .ok (.aload_n 0, 1) := by decide +kernel
theorem dX5_readsBranch_24 : decode cX5_readsBranch 24 = .ok (.getfield 28, 3) := by decide +kernel
theorem dX5_readsBranch_27 : decode cX5_readsBranch 27 = .ok (.iload_n 1, 1) := by decide +kernel
theorem dX5_readsBranch_28 : decode cX5_readsBranch 28 = .ok (.iconst 2, 1) := by decide +kernel
theorem dX5_readsBranch_29 : decode cX5_readsBranch 29 = .ok (.iadd, 1) := by decide +kernel
theorem dX5_readsBranch_30 : decode cX5_readsBranch 30 = .ok (.iconst 0, 1) := by decide +kernel
theorem dX5_readsBranch_31 : decode cX5_readsBranch 31 = .ok (.iastore, 1) := by decide +kernel
theorem dX5_readsBranch_32 : decode cX5_readsBranch 32 = .ok (.iconst 1, 1) := by decide +kernel
theorem dX5_readsBranch_33 : decode cX5_readsBranch 33 = .ok (.istore_n 2, 1) := by decide +kernel
theorem dX5_readsBranch_34 : decode cX5_readsBranch 34 = .ok (.iload_n 2, 1) := by decide +kernel
theorem dX5_readsBranch_35 : decode cX5_readsBranch 35 = .ok (.ifCond .eq 124, 3) := by decide +kernel
theorem dX5_readsBranch_38 : decode cX5_readsBranch 38 = .ok (.aload_n 0, 1) := by decide +kernel
theorem dX5_readsBranch_39 : decode cX5_readsBranch 39 = .ok (.bipush 33, 2) := by decide +kernel
theorem dX5_readsBranch_41 : decode cX5_readsBranch 41 = .ok (.invokevirtual 99, 3) := by decide +kernel
theorem dX5_readsBranch_44 : decode cX5_readsBranch 44 = .ok (.istore_n 3, 1) := by decide +kernel
theorem dX5_readsBranch_45 : decode cX5_readsBranch 45 = .ok (.aload_n 0, 1) := by decide +kernel
theorem dX5_readsBranch_46 : decode cX5_readsBranch 46 = .ok (.aload_n 0, 1) := by decide +kernel
theorem dX5_readsBranch_47 : decode cX5_readsBranch 47 = .ok (.getfield 89, 3) := by decide +kernel
theorem dX5_readsBranch_50 : decode cX5_readsBranch 50 = .ok (.invokevirtual 141, 3) := by decide +kernel
theorem dX5_readsBranch_53 : decode cX5_readsBranch 53 = .ok (.invokestatic 144, 3) := by decide +kernel
theorem dX5_readsBranch_56 : decode cX5_readsBranch 56 = .ok (.istore 4, 2) := by decide +kernel
theorem dX5_readsBranch_58 : decode cX5_readsBranch 58 = .ok (.iload 4, 2) := by decide +kernel
theorem dX5_readsBranch_60 : decode cX5_readsBranch 60 = .ok (.ifCond .ge 5, 3) := by decide +kernel
theorem dX5_readsBranch_63 : decode cX5_readsBranch 63 = .ok (.iconst 0, 1) := by decide +kernel
theorem dX5_readsBranch_64 : decode cX5_readsBranch 64 = .ok (.ireturn, 1) := by decide +kernel
theorem dX5_readsBranch_65 : decode cX5_readsBranch 65 = .ok (.aload_n 0, 1) := by decide +kernel
theorem dX5_readsBranch_66 : decode cX5_readsBranch 66 = .ok (.dup, 1) := by decide +kernel
theorem dX5_readsBranch_67 : decode cX5_readsBranch 67 = .ok (.getfield 89, 3) := by decide +kernel
theorem dX5_readsBranch_70 : decode cX5_readsBranch 70 = .ok (.iconst 1, 1) := by decide +kernel
theorem dX5_readsBranch_71 : decode cX5_readsBranch 71 = .ok (.iadd, 1) := by decide +kernel
theorem dX5_readsBranch_72 : decode cX5_readsBranch 72 = .ok (.putfield 89, 3) := by decide +kernel
theorem dX5_readsBranch_75 : decode cX5_readsBranch 75 = .ok (.aload_n 0, 1) := by decide +kernel
theorem dX5_readsBranch_76 : decode cX5_readsBranch 76 = .ok (.getfield 28, 3) := by decide +kernel
theorem dX5_readsBranch_79 : decode cX5_readsBranch 79 = .ok (.iload_n 1, 1) := by decide +kernel
theorem dX5_readsBranch_80 : decode cX5_readsBranch 80 = .ok (.iload_n 3, 1) := by decide +kernel
theorem dX5_readsBranch_81 : decode cX5_readsBranch 81 = .ok (.ifCond .eq 7, 3) := by decide +kernel
theorem dX5_readsBranch_84 : decode cX5_readsBranch 84 = .ok (.iconst 1, 1) := by decide +kernel
theorem dX5_readsBranch_85 : decode cX5_readsBranch 85 = .ok (.goto 4, 3) := by decide +kernel
theorem dX5_readsBranch_88 : decode cX5_readsBranch 88 = .ok (.iconst 0, 1) := by decide +kernel
theorem dX5_readsBranch_89 : decode cX5_readsBranch 89 = .ok (.iadd, 1) := by decide +kernel
theorem dX5_readsBranch_90 : decode cX5_readsBranch 90 = .ok (.dup2, 1) := by decide +kernel
theorem dX5_readsBranch_91 : decode cX5_readsBranch 91 = .ok (.iaload, 1) := by decide +kernel
theorem dX5_readsBranch_92 : decode cX5_readsBranch 92 = .ok (.iconst 1, 1) := by decide +kernel
theorem dX5_readsBranch_93 : decode cX5_readsBranch 93 = .ok (.iload 4, 2) := by decide +kernel
theorem dX5_readsBranch_95 : decode cX5_readsBranch 95 = .ok (.ishl, 1) := by decide +kernel
theorem dX5_readsBranch_96 : decode cX5_readsBranch 96 = .ok (.ior, 1) := by decide +kernel
theorem dX5_readsBranch_97 : decode cX5_readsBranch 97 = .ok (.iastore, 1) := by decide +kernel
theorem dX5_readsBranch_98 : decode cX5_readsBranch 98 = .ok (.aload_n 0, 1) := by decide +kernel
theorem dX5_readsBranch_99 : decode cX5_readsBranch 99 = .ok (.getfield 28, 3) := by decide +kernel
theorem dX5_readsBranch_102 : decode cX5_readsBranch 102 = .ok (.iload_n 1, 1) := by decide +kernel
theorem dX5_readsBranch_103 : decode cX5_readsBranch 103 = .ok (.iconst 2, 1) := by decide +kernel
theorem dX5_readsBranch_104 : decode cX5_readsBranch 104 = .ok (.iadd, 1) := by decide +kernel
theorem dX5_readsBranch_105 : decode cX5_readsBranch 105 = .ok (.dup2, 1) := by decide +kernel
theorem dX5_readsBranch_106 : decode cX5_readsBranch 106 = .ok (.iaload, 1) := by decide +kernel
theorem dX5_readsBranch_107 : decode cX5_readsBranch 107 = .ok (.iconst 1, 1) := by decide +kernel
theorem dX5_readsBranch_108 : decode cX5_readsBranch 108 = .ok (.iadd, 1) := by decide +kernel
theorem dX5_readsBranch_109 : decode cX5_readsBranch 109 = .ok (.iastore, 1) := by decide +kernel
theorem dX5_readsBranch_110 : decode cX5_readsBranch 110 = .ok (.aload_n 0, 1) := by decide +kernel
theorem dX5_readsBranch_111 : decode cX5_readsBranch 111 = .ok (.getfield 28, 3) := by decide +kernel
theorem dX5_readsBranch_114 : decode cX5_readsBranch 114 = .ok (.iload_n 1, 1) := by decide +kernel
theorem dX5_readsBranch_115 : decode cX5_readsBranch 115 = .ok (.iconst 2, 1) := by decide +kernel
theorem dX5_readsBranch_116 : decode cX5_readsBranch 116 = .ok (.iadd, 1) := by decide +kernel
theorem dX5_readsBranch_117 : decode cX5_readsBranch 117 = .ok (.iaload, 1) := by decide +kernel
theorem dX5_readsBranch_118 : decode cX5_readsBranch 118 = .ok (.bipush 8, 2) := by decide +kernel
theorem dX5_readsBranch_120 : decode cX5_readsBranch 120 = .ok (.if_icmp .ge 34, 3) := by decide +kernel
theorem dX5_readsBranch_123 : decode cX5_readsBranch 123 = .ok (.aload_n 0, 1) := by decide +kernel
theorem dX5_readsBranch_124 : decode cX5_readsBranch 124 = .ok (.aload_n 0, 1) := by decide +kernel
theorem dX5_readsBranch_125 : decode cX5_readsBranch 125 = .ok (.getfield 89, 3) := by decide +kernel
theorem dX5_readsBranch_128 : decode cX5_readsBranch 128 = .ok (.invokevirtual 141, 3) := by decide +kernel
theorem dX5_readsBranch_131 : decode cX5_readsBranch 131 = .ok (.bipush 33, 2) := by decide +kernel
theorem dX5_readsBranch_133 : decode cX5_readsBranch 133 = .ok (.if_icmp .eq 17, 3) := by decide +kernel
theorem dX5_readsBranch_136 : decode cX5_readsBranch 136 = .ok (.aload_n 0, 1) := by decide +kernel
theorem dX5_readsBranch_137 : decode cX5_readsBranch 137 = .ok (.aload_n 0, 1) := by decide +kernel
theorem dX5_readsBranch_138 : decode cX5_readsBranch 138 = .ok (.getfield 89, 3) := by decide +kernel
theorem dX5_readsBranch_141 : decode cX5_readsBranch 141 = .ok (.invokevirtual 141, 3) := by decide +kernel
theorem dX5_readsBranch_144 : decode cX5_readsBranch 144 = .ok (.invokestatic 144, 3) := by decide +kernel
theorem dX5_readsBranch_147 : decode cX5_readsBranch 147 = .ok (.ifCond .lt 7, 3) := by decide +kernel
theorem dX5_readsBranch_150 : decode cX5_readsBranch 150 = .ok (.iconst 1, 1) := by decide +kernel
theorem dX5_readsBranch_151 : decode cX5_readsBranch 151 = .ok (.goto 4, 3) := by decide +kernel
theorem dX5_readsBranch_154 : decode cX5_readsBranch 154 = .ok (.iconst 0, 1) := by decide +kernel
theorem dX5_readsBranch_155 : decode cX5_readsBranch 155 = .ok (.istore_n 2, 1) := by decide +kernel
theorem dX5_readsBranch_156 : decode cX5_readsBranch 156 = .ok (.goto (-122), 3) := by decide +kernel
theorem dX5_readsBranch_159 : decode cX5_readsBranch 159 = .ok (.aload_n 0, 1) := by decide +kernel
theorem dX5_readsBranch_160 : decode cX5_readsBranch 160 = .ok (.dup, 1) := by decide +kernel
theorem dX5_readsBranch_161 : decode cX5_readsBranch 161 = .ok (.getfield 105, 3) := by decide +kernel
theorem dX5_readsBranch_164 : decode cX5_readsBranch 164 = .ok (.iconst 1, 1) := by decide +kernel
theorem dX5_readsBranch_165 : decode cX5_readsBranch 165 = .ok (.iadd, 1) := by decide +kernel
theorem dX5_readsBranch_166 : decode cX5_readsBranch 166 = .ok (.putfield 105, 3) := by decide +kernel
theorem dX5_readsBranch_169 : decode cX5_readsBranch 169 = .ok (.iconst 1, 1) := by decide +kernel
theorem dX5_readsBranch_170 : decode cX5_readsBranch 170 = .ok (.ireturn, 1) := by decide +kernel
set_option maxRecDepth 20000 in
theorem ggX5_readsBranches_X5_readsBranch : GoodIn wsX5_readsBranches wsX5_readsBranch := goodIn_r _ [6, 1, 7, 8, 9, 10, 11, 5, 12, 13, 14, 15, 16, 17, 18, 19, 20, 21, 22, 23, 24, 25, 26, 27, 28, 29, 30, 31, 32, 33, 34, 35, 36] (by decide +kernel) (by decide +kernel)
set_option maxRecDepth 20000 in
theorem gX5_readsBranches_X5_readsBranch : GoodIn wsX5_readsBranches (wsV RX5 147 RX5 yX5_readsBranch wsX5_readsBranch) := goodIn_app (goodIn_of _ (by decide +kernel)) ggX5_readsBranches_X5_readsBranch
set_option maxRecDepth 20000 in
theorem ggX5_readsBranches_X5_isNext : GoodIn wsX5_readsBranches wsX5_isNext := goodIn_r _ [12, 8, 13, 14, 15, 5, 16, 17, 18, 25, 26, 27, 28, 29, 30, 31, 32, 33, 34, 35, 36] (by decide +kernel) (by decide +kernel)
set_option maxRecDepth 20000 in
theorem gX5_readsBranches_X5_isNext : GoodIn wsX5_readsBranches (wsV RX5 99 RX5 yX5_isNext wsX5_isNext) := goodIn_app (goodIn_of _ (by decide +kernel)) ggX5_readsBranches_X5_isNext
theorem dX5_readsBranches_0 : decode cX5_readsBranches 0 = .ok (.aload_n 0, 1) := by decide +kernel
theorem dX5_readsBranches_1 : decode cX5_readsBranches 1 = .ok (.invokevirtual 147, 3) := by decide +kernel
theorem dX5_readsBranches_4 : decode cX5_readsBranches 4 = .ok (.istore_n 1, 1) := by decide +kernel
theorem dX5_readsBranches_5 : decode cX5_readsBranches 5 = .ok (.iload_n 1, 1) := by decide +kernel
theorem dX5_readsBranches_6 : decode cX5_readsBranches 6 = .ok (.ifCond .eq 29, 3) := by decide +kernel
theorem dX5_readsBranches_9 : decode cX5_readsBranches 9 = .ok (.aload_n 0, 1) := by decide +kernel
theorem dX5_readsBranches_10 : decode cX5_readsBranches 10 = .ok (.getfield 105, 3) := by decide +kernel
theorem dX5_readsBranches_13 : decode cX5_readsBranches 13 = .ok (.bipush 6, 2) := by decide +kernel
theorem dX5_readsBranches_15 : decode cX5_readsBranches 15 = .ok (.if_icmp .ge 20, 3) := by decide +kernel
theorem dX5_readsBranches_18 : decode cX5_readsBranches 18 = .ok (.aload_n 0, 1) := by decide +kernel
theorem dX5_readsBranches_19 : decode cX5_readsBranches 19 = .ok (.bipush 43, 2) := by decide +kernel
theorem dX5_readsBranches_21 : decode cX5_readsBranches 21 = .ok (.invokevirtual 99, 3) := by decide +kernel
theorem dX5_readsBranches_24 : decode cX5_readsBranches 24 = .ok (.ifCond .eq 11, 3) := by decide +kernel
theorem dX5_readsBranches_27 : decode cX5_readsBranches 27 = .ok (.aload_n 0, 1) := by decide +kernel
theorem dX5_readsBranches_28 : decode cX5_readsBranches 28 = .ok (.invokevirtual 147, 3) := by decide +kernel
theorem dX5_readsBranches_31 : decode cX5_readsBranches 31 = .ok (.istore_n 1, 1) := by decide +kernel
theorem dX5_readsBranches_32 : decode cX5_readsBranches 32 = .ok (.goto (-27), 3) := by decide +kernel
theorem dX5_readsBranches_35 : decode cX5_readsBranches 35 = .ok (.iload_n 1, 1) := by decide +kernel
theorem dX5_readsBranches_36 : decode cX5_readsBranches 36 = .ok (.ireturn, 1) := by decide +kernel
set_option maxRecDepth 20000 in
theorem ggX5_readsCircuit_X5_character : GoodIn wsX5_readsCircuit wsX5_character := goodIn_r _ [8, 9, 10, 30, 31, 32, 33, 34, 35, 36, 37, 38, 39, 40, 41] (by decide +kernel) (by decide +kernel)
set_option maxRecDepth 20000 in
theorem gX5_readsCircuit_X5_character : GoodIn wsX5_readsCircuit (wsV RX5 141 RX5 yX5_character wsX5_character) := goodIn_app (goodIn_of _ (by decide +kernel)) ggX5_readsCircuit_X5_character
set_option maxRecDepth 20000 in
theorem ggX5_readsCircuit_X5_within : GoodIn wsX5_readsCircuit wsX5_within := goodIn_r _ [13] (by decide +kernel) (by decide +kernel)
set_option maxRecDepth 20000 in
theorem gX5_readsCircuit_X5_within : GoodIn wsX5_readsCircuit (va_wsS RX5 43 yX5_within wsX5_within) := goodIn_app (goodIn_of _ (by decide +kernel)) ggX5_readsCircuit_X5_within
set_option maxRecDepth 20000 in
theorem ggX5_readsCircuit_X5_isNext : GoodIn wsX5_readsCircuit wsX5_isNext := goodIn_r _ [17, 2, 4, 5, 6, 7, 8, 9, 10, 30, 31, 32, 33, 34, 35, 36, 37, 38, 39, 40, 41] (by decide +kernel) (by decide +kernel)
set_option maxRecDepth 20000 in
theorem gX5_readsCircuit_X5_isNext : GoodIn wsX5_readsCircuit (wsV RX5 99 RX5 yX5_isNext wsX5_isNext) := goodIn_app (goodIn_of _ (by decide +kernel)) ggX5_readsCircuit_X5_isNext
set_option maxRecDepth 20000 in
theorem ggX5_readsCircuit_X5_readsBranches : GoodIn wsX5_readsCircuit wsX5_readsBranches := goodIn_r _ [21, 1, 22, 23, 24, 7, 25, 26, 2, 14, 15, 16, 17, 4, 5, 6, 8, 9, 10, 27, 28, 29, 11, 12, 13, 30, 31, 32, 33, 34, 35, 36, 37, 38, 39, 40, 41] (by decide +kernel) (by decide +kernel)
set_option maxRecDepth 20000 in
theorem gX5_readsCircuit_X5_readsBranches : GoodIn wsX5_readsCircuit (wsV RX5 150 RX5 yX5_readsBranches wsX5_readsBranches) := goodIn_app (goodIn_of _ (by decide +kernel)) ggX5_readsCircuit_X5_readsBranches
theorem dX5_readsCircuit_0 : decode cX5_readsCircuit 0 = .ok (.aload_n 0, 1) := by decide +kernel
theorem dX5_readsCircuit_1 : decode cX5_readsCircuit 1 = .ok (.iconst 0, 1) := by decide +kernel
theorem dX5_readsCircuit_2 : decode cX5_readsCircuit 2 = .ok (.putfield 105, 3) := by decide +kernel
theorem dX5_readsCircuit_5 : decode cX5_readsCircuit 5 = .ok (.aload_n 0, 1) := by decide +kernel
theorem dX5_readsCircuit_6 : decode cX5_readsCircuit 6 = .ok (.aload_n 0, 1) := by decide +kernel
theorem dX5_readsCircuit_7 : decode cX5_readsCircuit 7 = .ok (.getfield 89, 3) := by decide +kernel
theorem dX5_readsCircuit_10 : decode cX5_readsCircuit 10 = .ok (.invokevirtual 141, 3) := by decide +kernel
theorem dX5_readsCircuit_13 : decode cX5_readsCircuit 13 = .ok (.istore_n 1, 1) := by decide +kernel
theorem dX5_readsCircuit_14 : decode cX5_readsCircuit 14 = .ok (.iload_n 1, 1) := by decide +kernel
theorem dX5_readsCircuit_15 : decode cX5_readsCircuit 15 = .ok (.bipush 65, 2) := by decide +kernel
theorem dX5_readsCircuit_17 : decode cX5_readsCircuit 17 = .ok (.bipush 74, 2) := by decide +kernel
theorem dX5_readsCircuit_19 : decode cX5_readsCircuit 19 = .ok (.invokestatic 43, 3) := by decide +kernel
theorem dX5_readsCircuit_22 : decode cX5_readsCircuit 22 = .ok (.ifCond .ne 5, 3) := by decide +kernel
theorem dX5_readsCircuit_25 : decode cX5_readsCircuit 25 = .ok (.iconst 0, 1) := by decide +kernel
theorem dX5_readsCircuit_26 : decode cX5_readsCircuit 26 = .ok (.ireturn, 1) := by decide +kernel
theorem dX5_readsCircuit_27 : decode cX5_readsCircuit 27 = .ok (.aload_n 0, 1) := by decide +kernel
theorem dX5_readsCircuit_28 : decode cX5_readsCircuit 28 = .ok (.iload_n 1, 1) := by decide +kernel
theorem dX5_readsCircuit_29 : decode cX5_readsCircuit 29 = .ok (.bipush 65, 2) := by decide +kernel
theorem dX5_readsCircuit_31 : decode cX5_readsCircuit 31 = .ok (.isub, 1) := by decide +kernel
theorem dX5_readsCircuit_32 : decode cX5_readsCircuit 32 = .ok (.putfield 102, 3) := by decide +kernel
theorem dX5_readsCircuit_35 : decode cX5_readsCircuit 35 = .ok (.aload_n 0, 1) := by decide +kernel
theorem dX5_readsCircuit_36 : decode cX5_readsCircuit 36 = .ok (.dup, 1) := by decide +kernel
theorem dX5_readsCircuit_37 : decode cX5_readsCircuit 37 = .ok (.getfield 89, 3) := by decide +kernel
theorem dX5_readsCircuit_40 : decode cX5_readsCircuit 40 = .ok (.iconst 1, 1) := by decide +kernel
theorem dX5_readsCircuit_41 : decode cX5_readsCircuit 41 = .ok (.iadd, 1) := by decide +kernel
theorem dX5_readsCircuit_42 : decode cX5_readsCircuit 42 = .ok (.putfield 89, 3) := by decide +kernel
theorem dX5_readsCircuit_45 : decode cX5_readsCircuit 45 = .ok (.aload_n 0, 1) := by decide +kernel
theorem dX5_readsCircuit_46 : decode cX5_readsCircuit 46 = .ok (.bipush 61, 2) := by decide +kernel
theorem dX5_readsCircuit_48 : decode cX5_readsCircuit 48 = .ok (.invokevirtual 99, 3) := by decide +kernel
theorem dX5_readsCircuit_51 : decode cX5_readsCircuit 51 = .ok (.ifCond .eq 23, 3) := by decide +kernel
theorem dX5_readsCircuit_54 : decode cX5_readsCircuit 54 = .ok (.aload_n 0, 1) := by decide +kernel
theorem dX5_readsCircuit_55 : decode cX5_readsCircuit 55 = .ok (.bipush 48, 2) := by decide +kernel
theorem dX5_readsCircuit_57 : decode cX5_readsCircuit 57 = .ok (.invokevirtual 99, 3) := by decide +kernel
theorem dX5_readsCircuit_60 : decode cX5_readsCircuit 60 = .ok (.ifCond .ne 10, 3) := by decide +kernel
theorem dX5_readsCircuit_63 : decode cX5_readsCircuit 63 = .ok (.aload_n 0, 1) := by decide +kernel
theorem dX5_readsCircuit_64 : decode cX5_readsCircuit 64 = .ok (.invokevirtual 150, 3) := by decide +kernel
theorem dX5_readsCircuit_67 : decode cX5_readsCircuit 67 = .ok (.ifCond .eq 7, 3) := by decide +kernel
theorem dX5_readsCircuit_70 : decode cX5_readsCircuit 70 = .ok (.iconst 1, 1) := by decide +kernel
theorem dX5_readsCircuit_71 : decode cX5_readsCircuit 71 = .ok (.goto 4, 3) := by decide +kernel
theorem dX5_readsCircuit_74 : decode cX5_readsCircuit 74 = .ok (.iconst 0, 1) := by decide +kernel
theorem dX5_readsCircuit_75 : decode cX5_readsCircuit 75 = .ok (.ireturn, 1) := by decide +kernel
set_option maxRecDepth 20000 in
theorem ggX5_findFault_X5_readsCircuit : GoodIn wsX5_findFault wsX5_readsCircuit := goodIn_r _ [7, 8, 1, 9, 10, 11, 12, 6, 13, 2, 14, 15, 16, 17, 18, 19, 20, 21, 22, 23, 24, 25, 26, 27, 28, 29, 30, 31, 32, 33, 34, 35, 36, 37, 38, 39, 40, 41, 42, 43, 44, 45] (by decide +kernel) (by decide +kernel)
set_option maxRecDepth 20000 in
theorem gX5_findFault_X5_readsCircuit : GoodIn wsX5_findFault (wsV RX5 95 RX5 yX5_readsCircuit wsX5_readsCircuit) := goodIn_app (goodIn_of _ (by decide +kernel)) ggX5_findFault_X5_readsCircuit
set_option maxRecDepth 20000 in
theorem ggX5_findFault_X5_isNext : GoodIn wsX5_findFault wsX5_isNext := goodIn_r _ [21, 1, 10, 11, 12, 6, 13, 2, 14, 34, 35, 36, 37, 38, 39, 40, 41, 42, 43, 44, 45] (by decide +kernel) (by decide +kernel)
set_option maxRecDepth 20000 in
theorem gX5_findFault_X5_isNext : GoodIn wsX5_findFault (wsV RX5 99 RX5 yX5_isNext wsX5_isNext) := goodIn_app (goodIn_of _ (by decide +kernel)) ggX5_findFault_X5_isNext
theorem dX5_findFault_0 : decode cX5_findFault 0 = .ok (.aload_n 0, 1) := by decide +kernel
theorem dX5_findFault_1 : decode cX5_findFault 1 = .ok (.iconst 0, 1) := by decide +kernel
theorem dX5_findFault_2 : decode cX5_findFault 2 = .ok (.putfield 89, 3) := by decide +kernel
theorem dX5_findFault_5 : decode cX5_findFault 5 = .ok (.aload_n 0, 1) := by decide +kernel
theorem dX5_findFault_6 : decode cX5_findFault 6 = .ok (.invokevirtual 95, 3) := by decide +kernel
theorem dX5_findFault_9 : decode cX5_findFault 9 = .ok (.ifCond .ne 8, 3) := by decide +kernel
theorem dX5_findFault_12 : decode cX5_findFault 12 = .ok (.aload_n 0, 1) := by decide +kernel
theorem dX5_findFault_13 : decode cX5_findFault 13 = .ok (.getfield 89, 3) := by decide +kernel
theorem dX5_findFault_16 : decode cX5_findFault 16 = .ok (.ireturn, 1) := by decide +kernel
theorem dX5_findFault_17 : decode cX5_findFault 17 = .ok (.aload_n 0, 1) := by decide +kernel
theorem dX5_findFault_18 : decode cX5_findFault 18 = .ok (.getfield 89, 3) := by decide +kernel
theorem dX5_findFault_21 : decode cX5_findFault 21 = .ok (.aload_n 0, 1) := by decide +kernel
theorem dX5_findFault_22 : decode cX5_findFault 22 = .ok (.getfield 92, 3) := by decide +kernel
theorem dX5_findFault_25 : decode cX5_findFault 25 = .ok (.if_icmp .ne 6, 3) := by decide +kernel
theorem dX5_findFault_28 : decode cX5_findFault 28 = .ok (.bipush (-6), 2) := by decide +kernel
theorem dX5_findFault_30 : decode cX5_findFault 30 = .ok (.ireturn, 1) := by decide +kernel
theorem dX5_findFault_31 : decode cX5_findFault 31 = .ok (.aload_n 0, 1) := by decide +kernel
theorem dX5_findFault_32 : decode cX5_findFault 32 = .ok (.bipush 59, 2) := by decide +kernel
theorem dX5_findFault_34 : decode cX5_findFault 34 = .ok (.invokevirtual 99, 3) := by decide +kernel
theorem dX5_findFault_37 : decode cX5_findFault 37 = .ok (.ifCond .ne (-32), 3) := by decide +kernel
theorem dX5_findFault_40 : decode cX5_findFault 40 = .ok (.aload_n 0, 1) := by decide +kernel
theorem dX5_findFault_41 : decode cX5_findFault 41 = .ok (.getfield 89, 3) := by decide +kernel
theorem dX5_findFault_44 : decode cX5_findFault 44 = .ok (.ireturn, 1) := by decide +kernel
set_option maxRecDepth 20000 in
theorem ggX5_fault_X5_findFault : GoodIn wsX5_fault wsX5_findFault := goodIn_r _ [5, 6, 7, 8, 9, 10, 4, 11, 12, 13, 14, 15, 16, 17, 18, 19, 20, 21, 22, 23, 24, 25, 26, 27, 28, 29, 30, 31, 32, 33, 34, 35, 36, 37, 38, 39, 40, 41, 42, 43, 44, 45, 46, 47, 48, 49] (by decide +kernel) (by decide +kernel)
set_option maxRecDepth 20000 in
theorem gX5_fault_X5_findFault : GoodIn wsX5_fault (wsV RX5 86 RX5 yX5_findFault wsX5_findFault) := goodIn_app (goodIn_of _ (by decide +kernel)) ggX5_fault_X5_findFault
theorem dX5_fault_0 : decode cX5_fault 0 = .ok (.aload_n 0, 1) := by decide +kernel
theorem dX5_fault_1 : decode cX5_fault 1 = .ok (.invokevirtual 86, 3) := by decide +kernel
theorem dX5_fault_4 : decode cX5_fault 4 = .ok (.ireturn, 1) := by decide +kernel
set_option maxRecDepth 20000 in
theorem ggX5_undo_X5_moves : GoodIn wsX5_undo wsX5_moves := goodIn_r _ [7] (by decide +kernel) (by decide +kernel)
set_option maxRecDepth 20000 in
theorem gX5_undo_X5_moves : GoodIn wsX5_undo (va_wsS RX5 39 yX5_moves wsX5_moves) := goodIn_app (goodIn_of _ (by decide +kernel)) ggX5_undo_X5_moves
theorem dX5_undo_0 : decode cX5_undo 0 = .ok (.aload_n 0, 1) := by decide +kernel
theorem dX5_undo_1 : decode cX5_undo 1 = .ok (.getfield 35, 3) := by decide +kernel
theorem dX5_undo_4 : decode cX5_undo 4 = .ok (.ifCond .ne 6, 3) := by decide +kernel
theorem dX5_undo_7 : decode cX5_undo 7 = .ok (.bipush (-5), 2) := by decide +kernel
theorem dX5_undo_9 : decode cX5_undo 9 = .ok (.ireturn, 1) := by decide +kernel
theorem dX5_undo_10 : decode cX5_undo 10 = .ok (.aload_n 0, 1) := by decide +kernel
theorem dX5_undo_11 : decode cX5_undo 11 = .ok (.dup, 1) := by decide +kernel
theorem dX5_undo_12 : decode cX5_undo 12 = .ok (.getfield 35, 3) := by decide +kernel
theorem dX5_undo_15 : decode cX5_undo 15 = .ok (.iconst 1, 1) := by decide +kernel
theorem dX5_undo_16 : decode cX5_undo 16 = .ok (.isub, 1) := by decide +kernel
theorem dX5_undo_17 : decode cX5_undo 17 = .ok (.putfield 35, 3) := by decide +kernel
theorem dX5_undo_20 : decode cX5_undo 20 = .ok (.aload_n 0, 1) := by decide +kernel
theorem dX5_undo_21 : decode cX5_undo 21 = .ok (.getfield 16, 3) := by decide +kernel
theorem dX5_undo_24 : decode cX5_undo 24 = .ok (.aload_n 0, 1) := by decide +kernel
theorem dX5_undo_25 : decode cX5_undo 25 = .ok (.getfield 35, 3) := by decide +kernel
theorem dX5_undo_28 : decode cX5_undo 28 = .ok (.sipush 236, 3) := by decide +kernel
theorem dX5_undo_31 : decode cX5_undo 31 = .ok (.imul, 1) := by decide +kernel
theorem dX5_undo_32 : decode cX5_undo 32 = .ok (.aload_n 0, 1) := by decide +kernel
theorem dX5_undo_33 : decode cX5_undo 33 = .ok (.getfield 7, 3) := by decide +kernel
theorem dX5_undo_36 : decode cX5_undo 36 = .ok (.iconst 0, 1) := by decide +kernel
theorem dX5_undo_37 : decode cX5_undo 37 = .ok (.invokestatic 39, 3) := by decide +kernel
theorem dX5_undo_40 : decode cX5_undo 40 = .ok (.aload_n 0, 1) := by decide +kernel
theorem dX5_undo_41 : decode cX5_undo 41 = .ok (.getfield 35, 3) := by decide +kernel
theorem dX5_undo_44 : decode cX5_undo 44 = .ok (.ireturn, 1) := by decide +kernel
set_option maxRecDepth 20000 in
theorem ggX5_save_X5_within : GoodIn wsX5_save wsX5_within := goodIn_r _ [7] (by decide +kernel) (by decide +kernel)
set_option maxRecDepth 20000 in
theorem gX5_save_X5_within : GoodIn wsX5_save (va_wsS RX5 43 yX5_within wsX5_within) := goodIn_app (goodIn_of _ (by decide +kernel)) ggX5_save_X5_within
set_option maxRecDepth 20000 in
theorem ggX5_save_X5_moves : GoodIn wsX5_save wsX5_moves := goodIn_r _ [10] (by decide +kernel) (by decide +kernel)
set_option maxRecDepth 20000 in
theorem gX5_save_X5_moves : GoodIn wsX5_save (va_wsS RX5 39 yX5_moves wsX5_moves) := goodIn_app (goodIn_of _ (by decide +kernel)) ggX5_save_X5_moves
theorem dX5_save_0 : decode cX5_save 0 = .ok (.iload_n 1, 1) := by decide +kernel
theorem dX5_save_1 : decode cX5_save 1 = .ok (.iconst 0, 1) := by decide +kernel
theorem dX5_save_2 : decode cX5_save 2 = .ok (.iconst 1, 1) := by decide +kernel
theorem dX5_save_3 : decode cX5_save 3 = .ok (.invokestatic 43, 3) := by decide +kernel
theorem dX5_save_6 : decode cX5_save 6 = .ok (.ifCond .ne 6, 3) := by decide +kernel
theorem dX5_save_9 : decode cX5_save 9 = .ok (.bipush (-2), 2) := by decide +kernel
theorem dX5_save_11 : decode cX5_save 11 = .ok (.ireturn, 1) := by decide +kernel
theorem dX5_save_12 : decode cX5_save 12 = .ok (.aload_n 0, 1) := by decide +kernel
theorem dX5_save_13 : decode cX5_save 13 = .ok (.getfield 7, 3) := by decide +kernel
theorem dX5_save_16 : decode cX5_save 16 = .ok (.iconst 0, 1) := by decide +kernel
theorem dX5_save_17 : decode cX5_save 17 = .ok (.aload_n 0, 1) := by decide +kernel
theorem dX5_save_18 : decode cX5_save 18 = .ok (.getfield 19, 3) := by decide +kernel
theorem dX5_save_21 : decode cX5_save 21 = .ok (.sipush 236, 3) := by decide +kernel
theorem dX5_save_24 : decode cX5_save 24 = .ok (.iload_n 1, 1) := by decide +kernel
theorem dX5_save_25 : decode cX5_save 25 = .ok (.imul, 1) := by decide +kernel
theorem dX5_save_26 : decode cX5_save 26 = .ok (.invokestatic 39, 3) := by decide +kernel
theorem dX5_save_29 : decode cX5_save 29 = .ok (.aload_n 0, 1) := by decide +kernel
theorem dX5_save_30 : decode cX5_save 30 = .ok (.getfield 22, 3) := by decide +kernel
theorem dX5_save_33 : decode cX5_save 33 = .ok (.iload_n 1, 1) := by decide +kernel
theorem dX5_save_34 : decode cX5_save 34 = .ok (.iconst 1, 1) := by decide +kernel
theorem dX5_save_35 : decode cX5_save 35 = .ok (.iastore, 1) := by decide +kernel
theorem dX5_save_36 : decode cX5_save 36 = .ok (.aload_n 0, 1) := by decide +kernel
theorem dX5_save_37 : decode cX5_save 37 = .ok (.getfield 7, 3) := by decide +kernel
theorem dX5_save_40 : decode cX5_save 40 = .ok (.iconst 0, 1) := by decide +kernel
theorem dX5_save_41 : decode cX5_save 41 = .ok (.iaload, 1) := by decide +kernel
theorem dX5_save_42 : decode cX5_save 42 = .ok (.ireturn, 1) := by decide +kernel
set_option maxRecDepth 20000 in
theorem ggX5_restore_X5_within : GoodIn wsX5_restore wsX5_within := goodIn_r _ [7] (by decide +kernel) (by decide +kernel)
set_option maxRecDepth 20000 in
theorem gX5_restore_X5_within : GoodIn wsX5_restore (va_wsS RX5 43 yX5_within wsX5_within) := goodIn_app (goodIn_of _ (by decide +kernel)) ggX5_restore_X5_within
set_option maxRecDepth 20000 in
theorem ggX5_restore_X5_record : GoodIn wsX5_restore wsX5_record := goodIn_r _ [11, 12, 13, 3, 14, 15, 6, 16, 17, 18, 19, 20, 21, 22, 23, 24, 25, 26, 27, 28] (by decide +kernel) (by decide +kernel)
set_option maxRecDepth 20000 in
theorem gX5_restore_X5_record : GoodIn wsX5_restore (wsV RX5 83 RX5 yX5_record wsX5_record) := goodIn_app (goodIn_of _ (by decide +kernel)) ggX5_restore_X5_record
set_option maxRecDepth 20000 in
theorem ggX5_restore_X5_moves : GoodIn wsX5_restore wsX5_moves := goodIn_r _ [16] (by decide +kernel) (by decide +kernel)
set_option maxRecDepth 20000 in
theorem gX5_restore_X5_moves : GoodIn wsX5_restore (va_wsS RX5 39 yX5_moves wsX5_moves) := goodIn_app (goodIn_of _ (by decide +kernel)) ggX5_restore_X5_moves
theorem dX5_restore_0 : decode cX5_restore 0 = .ok (.iload_n 1, 1) := by decide +kernel
theorem dX5_restore_1 : decode cX5_restore 1 = .ok (.iconst 0, 1) := by decide +kernel
theorem dX5_restore_2 : decode cX5_restore 2 = .ok (.iconst 1, 1) := by decide +kernel
theorem dX5_restore_3 : decode cX5_restore 3 = .ok (.invokestatic 43, 3) := by decide +kernel
theorem dX5_restore_6 : decode cX5_restore 6 = .ok (.ifCond .ne 6, 3) := by decide +kernel
theorem dX5_restore_9 : decode cX5_restore 9 = .ok (.bipush (-2), 2) := by decide +kernel
theorem dX5_restore_11 : decode cX5_restore 11 = .ok (.ireturn, 1) := by decide +kernel
theorem dX5_restore_12 : decode cX5_restore 12 = .ok (.aload_n 0, 1) := by decide +kernel
theorem dX5_restore_13 : decode cX5_restore 13 = .ok (.getfield 22, 3) := by decide +kernel
theorem dX5_restore_16 : decode cX5_restore 16 = .ok (.iload_n 1, 1) := by decide +kernel
theorem dX5_restore_17 : decode cX5_restore 17 = .ok (.iaload, 1) := by decide +kernel
theorem dX5_restore_18 : decode cX5_restore 18 = .ok (.ifCond .ne 6, 3) := by decide +kernel
theorem dX5_restore_21 : decode cX5_restore 21 = .ok (.bipush (-5), 2) := by decide +kernel
theorem dX5_restore_23 : decode cX5_restore 23 = .ok (.ireturn, 1) := by decide +kernel
theorem dX5_restore_24 : decode cX5_restore 24 = .ok (.aload_n 0, 1) := by decide +kernel
theorem dX5_restore_25 : decode cX5_restore 25 = .ok (.invokevirtual 83, 3) := by decide +kernel
theorem dX5_restore_28 : decode cX5_restore 28 = .ok (.aload_n 0, 1) := by decide +kernel
theorem dX5_restore_29 : decode cX5_restore 29 = .ok (.getfield 19, 3) := by decide +kernel
theorem dX5_restore_32 : decode cX5_restore 32 = .ok (.sipush 236, 3) := by decide +kernel
theorem dX5_restore_35 : decode cX5_restore 35 = .ok (.iload_n 1, 1) := by decide +kernel
theorem dX5_restore_36 : decode cX5_restore 36 = .ok (.imul, 1) := by decide +kernel
theorem dX5_restore_37 : decode cX5_restore 37 = .ok (.aload_n 0, 1) := by decide +kernel
theorem dX5_restore_38 : decode cX5_restore 38 = .ok (.getfield 7, 3) := by decide +kernel
theorem dX5_restore_41 : decode cX5_restore 41 = .ok (.iconst 0, 1) := by decide +kernel
theorem dX5_restore_42 : decode cX5_restore 42 = .ok (.invokestatic 39, 3) := by decide +kernel
theorem dX5_restore_45 : decode cX5_restore 45 = .ok (.aload_n 0, 1) := by decide +kernel
theorem dX5_restore_46 : decode cX5_restore 46 = .ok (.getfield 7, 3) := by decide +kernel
theorem dX5_restore_49 : decode cX5_restore 49 = .ok (.iconst 0, 1) := by decide +kernel
theorem dX5_restore_50 : decode cX5_restore 50 = .ok (.iaload, 1) := by decide +kernel
theorem dX5_restore_51 : decode cX5_restore 51 = .ok (.ireturn, 1) := by decide +kernel
theorem dJ6_bitCount_0f7a4_0 : decode cJ6_bitCount_0f7a4 0 = .ok (.iload_n 0, 1) := by decide +kernel
theorem dJ6_bitCount_0f7a4_1 : decode cJ6_bitCount_0f7a4 1 = .ok (.iload_n 0, 1) := by decide +kernel
theorem dJ6_bitCount_0f7a4_2 : decode cJ6_bitCount_0f7a4 2 = .ok (.iconst 1, 1) := by decide +kernel
theorem dJ6_bitCount_0f7a4_3 : decode cJ6_bitCount_0f7a4 3 = .ok (.iushr, 1) := by decide +kernel
theorem dJ6_bitCount_0f7a4_4 : decode cJ6_bitCount_0f7a4 4 = .ok (.ldc_w 265, 3) := by decide +kernel
theorem dJ6_bitCount_0f7a4_7 : decode cJ6_bitCount_0f7a4 7 = .ok (.iand, 1) := by decide +kernel
theorem dJ6_bitCount_0f7a4_8 : decode cJ6_bitCount_0f7a4 8 = .ok (.isub, 1) := by decide +kernel
theorem dJ6_bitCount_0f7a4_9 : decode cJ6_bitCount_0f7a4 9 = .ok (.istore_n 0, 1) := by decide +kernel
end
section
theorem dJ6_bitCount_0f7a4_10 : decode cJ6_bitCount_0f7a4 10 = .ok (.iload_n 0, 1) := by decide +kernel
theorem dJ6_bitCount_0f7a4_11 : decode cJ6_bitCount_0f7a4 11 = .ok (.ldc_w 266, 3) := by decide +kernel
theorem dJ6_bitCount_0f7a4_14 : decode cJ6_bitCount_0f7a4 14 = .ok (.iand, 1) := by decide +kernel
theorem dJ6_bitCount_0f7a4_15 : decode cJ6_bitCount_0f7a4 15 = .ok (.iload_n 0, 1) := by decide +kernel
theorem dJ6_bitCount_0f7a4_16 : decode cJ6_bitCount_0f7a4 16 = .ok (.iconst 2, 1) := by decide +kernel
theorem dJ6_bitCount_0f7a4_17 : decode cJ6_bitCount_0f7a4 17 = .ok (.iushr, 1) := by decide +kernel
theorem dJ6_bitCount_0f7a4_18 : decode cJ6_bitCount_0f7a4 18 = .ok (.ldc_w 266, 3) := by decide +kernel
theorem dJ6_bitCount_0f7a4_21 : decode cJ6_bitCount_0f7a4 21 = .ok (.iand, 1) := by decide +kernel
theorem dJ6_bitCount_0f7a4_22 : decode cJ6_bitCount_0f7a4 22 = .ok (.iadd, 1) := by decide +kernel
theorem dJ6_bitCount_0f7a4_23 : decode cJ6_bitCount_0f7a4 23 = .ok (.istore_n 0, 1) := by decide +kernel
theorem dJ6_bitCount_0f7a4_24 : decode cJ6_bitCount_0f7a4 24 = .ok (.iload_n 0, 1) := by decide +kernel
theorem dJ6_bitCount_0f7a4_25 : decode cJ6_bitCount_0f7a4 25 = .ok (.iload_n 0, 1) := by decide +kernel
theorem dJ6_bitCount_0f7a4_26 : decode cJ6_bitCount_0f7a4 26 = .ok (.iconst 4, 1) := by decide +kernel
theorem dJ6_bitCount_0f7a4_27 : decode cJ6_bitCount_0f7a4 27 = .ok (.iushr, 1) := by decide +kernel
theorem dJ6_bitCount_0f7a4_28 : decode cJ6_bitCount_0f7a4 28 = .ok (.iadd, 1) := by decide +kernel
theorem dJ6_bitCount_0f7a4_29 : decode cJ6_bitCount_0f7a4 29 = .ok (.ldc_w 267, 3) := by decide +kernel
theorem dJ6_bitCount_0f7a4_32 : decode cJ6_bitCount_0f7a4 32 = .ok (.iand, 1) := by decide +kernel
theorem dJ6_bitCount_0f7a4_33 : decode cJ6_bitCount_0f7a4 33 = .ok (.istore_n 0, 1) := by decide +kernel
theorem dJ6_bitCount_0f7a4_34 : decode cJ6_bitCount_0f7a4 34 = .ok (.iload_n 0, 1) := by decide +kernel
theorem dJ6_bitCount_0f7a4_35 : decode cJ6_bitCount_0f7a4 35 = .ok (.iload_n 0, 1) := by decide +kernel
theorem dJ6_bitCount_0f7a4_36 : decode cJ6_bitCount_0f7a4 36 = .ok (.bipush 8, 2) := by decide +kernel
theorem dJ6_bitCount_0f7a4_38 : decode cJ6_bitCount_0f7a4 38 = .ok (.iushr, 1) := by decide +kernel
theorem dJ6_bitCount_0f7a4_39 : decode cJ6_bitCount_0f7a4 39 = .ok (.iadd, 1) := by decide +kernel
theorem dJ6_bitCount_0f7a4_40 : decode cJ6_bitCount_0f7a4 40 = .ok (.istore_n 0, 1) := by decide +kernel
theorem dJ6_bitCount_0f7a4_41 : decode cJ6_bitCount_0f7a4 41 = .ok (.iload_n 0, 1) := by decide +kernel
theorem dJ6_bitCount_0f7a4_42 : decode cJ6_bitCount_0f7a4 42 = .ok (.iload_n 0, 1) := by decide +kernel
theorem dJ6_bitCount_0f7a4_43 : decode cJ6_bitCount_0f7a4 43 = .ok (.bipush 16, 2) := by decide +kernel
theorem dJ6_bitCount_0f7a4_45 : decode cJ6_bitCount_0f7a4 45 = .ok (.iushr, 1) := by decide +kernel
theorem dJ6_bitCount_0f7a4_46 : decode cJ6_bitCount_0f7a4 46 = .ok (.iadd, 1) := by decide +kernel
theorem dJ6_bitCount_0f7a4_47 : decode cJ6_bitCount_0f7a4 47 = .ok (.istore_n 0, 1) := by decide +kernel
theorem dJ6_bitCount_0f7a4_48 : decode cJ6_bitCount_0f7a4 48 = .ok (.iload_n 0, 1) := by decide +kernel
theorem dJ6_bitCount_0f7a4_49 : decode cJ6_bitCount_0f7a4 49 = .ok (.bipush 63, 2) := by decide +kernel
theorem dJ6_bitCount_0f7a4_51 : decode cJ6_bitCount_0f7a4 51 = .ok (.iand, 1) := by decide +kernel
theorem dJ6_bitCount_0f7a4_52 : decode cJ6_bitCount_0f7a4 52 = .ok (.ireturn, 1) := by decide +kernel
set_option maxRecDepth 20000 in
theorem ggL_law_X4_init : GoodIn wsL_law wsX4_init := goodIn_r _ [9, 10, 11, 12, 13, 14, 15, 16, 17, 18, 19, 20, 21, 22, 23, 24, 25, 26, 27, 28, 29, 30, 31, 32, 33, 34, 35, 36, 37, 38, 39, 40, 41, 42, 43, 44, 45, 46, 47, 48, 49, 50, 51, 52, 53, 54, 55, 56, 57, 58, 59, 615, 616, 617, 618, 619, 620, 621, 622, 623, 624, 625, 626, 627, 628, 596, 597, 598, 599, 600, 601, 602, 629, 630, 631, 632, 633, 634, 635] (by decide +kernel) (by decide +kernel)
set_option maxRecDepth 20000 in
theorem gL_law_X4_init : GoodIn wsL_law (wsX4_init) := ggL_law_X4_init
set_option maxRecDepth 20000 in
theorem ggL_law_X5_init : GoodIn wsL_law wsX5_init := goodIn_r _ [62, 63, 11, 12, 37, 64, 65, 66, 67, 68, 69, 70, 71, 72, 73, 5, 74, 603, 604, 605, 606, 607, 608, 609, 610, 611, 612, 613, 614] (by decide +kernel) (by decide +kernel)
set_option maxRecDepth 20000 in
theorem gL_law_X5_init : GoodIn wsL_law (wsX5_init) := ggL_law_X5_init
set_option maxRecDepth 20000 in
theorem ggL_law_X4_time : GoodIn wsL_law wsX4_time := goodIn_r _ [78, 29, 16, 79, 80, 81, 82, 2, 83, 84, 85, 86, 87, 88, 89, 28, 90, 58, 91, 92, 93, 94, 95, 15, 96, 97, 98, 99, 100, 101, 102, 38, 103, 104, 105, 106, 39, 40, 41, 42, 43, 44, 45, 596, 597, 598, 599, 600, 601, 602, 615, 616, 617, 618, 619, 620, 621, 622, 623, 624, 625, 626, 627, 628, 633, 634, 635] (by decide +kernel) (by decide +kernel)
set_option maxRecDepth 20000 in
theorem gL_law_X4_time : GoodIn wsL_law (wsV RL 13 RX4 yX4_time wsX4_time) := goodIn_app (goodIn_of _ (by decide +kernel)) ggL_law_X4_time
set_option maxRecDepth 20000 in
theorem ggL_law_X5_time : GoodIn wsL_law wsX5_time := goodIn_r _ [110, 111, 112, 5, 113, 114, 115, 116, 117, 118, 119, 120, 121, 66, 64, 122, 123, 124, 125, 126, 127, 128, 71, 72, 73, 74, 603, 604, 605, 606, 607, 608, 609, 610, 611, 612, 613, 614] (by decide +kernel) (by decide +kernel)
set_option maxRecDepth 20000 in
theorem gL_law_X5_time : GoodIn wsL_law (wsV RL 17 RX5 yX5_time wsX5_time) := goodIn_app (goodIn_of _ (by decide +kernel)) ggL_law_X5_time
set_option maxRecDepth 20000 in
theorem ggL_law_X4_life : GoodIn wsL_law wsX4_life := goodIn_r _ [132, 29, 16, 133, 84, 85, 2, 86, 87, 88, 89, 28, 90, 58, 91, 92, 93, 94, 95, 15, 96, 97, 98, 99, 100, 101, 102, 38, 103, 104, 105, 106, 39, 40, 41, 42, 43, 44, 45, 596, 597, 598, 599, 600, 601, 602, 615, 616, 617, 618, 619, 620, 621, 622, 623, 624, 625, 626, 627, 628, 633, 634, 635] (by decide +kernel) (by decide +kernel)
set_option maxRecDepth 20000 in
theorem gL_law_X4_life : GoodIn wsL_law (wsV RL 18 RX4 yX4_life wsX4_life) := goodIn_app (goodIn_of _ (by decide +kernel)) ggL_law_X4_life
set_option maxRecDepth 20000 in
theorem ggL_law_X5_life : GoodIn wsL_law wsX5_life := goodIn_r _ [137, 64, 114, 115, 5, 116, 117, 118, 119, 120, 121, 66, 122, 123, 124, 603, 604, 605, 606, 607, 608, 609, 610, 611, 612, 613, 614] (by decide +kernel) (by decide +kernel)
set_option maxRecDepth 20000 in
theorem gL_law_X5_life : GoodIn wsL_law (wsV RL 22 RX5 yX5_life wsX5_life) := goodIn_app (goodIn_of _ (by decide +kernel)) ggL_law_X5_life
set_option maxRecDepth 20000 in
theorem ggL_law_X4_read : GoodIn wsL_law wsX4_read := goodIn_r _ [141, 17, 16, 25, 21, 29, 142, 94, 95, 15, 96, 97, 98, 99, 100, 101, 102, 38, 103, 104, 105, 106, 39, 40, 41, 42, 43, 44, 45, 143, 144, 145, 24, 146, 147, 148, 149, 150, 151, 152, 153, 154, 155, 156, 157, 158, 159, 160, 161, 85, 2, 86, 82, 83, 84, 162, 163, 164, 165, 166, 167, 168, 169, 170, 171, 172, 173, 174, 175, 176, 177, 178, 179, 180, 181, 182, 183, 184, 185, 186, 187, 188, 189, 190, 191, 192, 193, 194, 195, 196, 197, 198, 199, 200, 201, 202, 203, 204, 87, 88, 89, 28, 90, 58, 91, 92, 93, 205, 206, 207, 20, 208, 209, 210, 211, 212, 213, 596, 597, 598, 599, 600, 601, 602, 615, 616, 617, 618, 619, 620, 621, 622, 623, 624, 625, 626, 627, 628, 631, 632, 629, 630, 633, 634, 635] (by decide +kernel) (by decide +kernel)
set_option maxRecDepth 20000 in
theorem gL_law_X4_read : GoodIn wsL_law (wsV RL 23 RX4 yX4_read wsX4_read) := goodIn_app (goodIn_of _ (by decide +kernel)) ggL_law_X4_read
set_option maxRecDepth 20000 in
theorem ggL_law_X5_read : GoodIn wsL_law wsX5_read := goodIn_r _ [217, 218, 219, 220, 221, 70, 222, 223, 224, 5, 225, 226, 227, 228, 229, 230, 231, 232, 233, 69, 114, 115, 116, 234, 235, 236, 237, 238, 239, 240, 241, 242, 243, 244, 245, 246, 247, 248, 117, 118, 119, 120, 121, 66, 64, 122, 123, 124, 71, 72, 73, 74, 249, 250, 251, 252, 125, 126, 127, 128, 603, 604, 605, 606, 607, 608, 609, 610, 611, 612, 613, 614] (by decide +kernel) (by decide +kernel)
set_option maxRecDepth 20000 in
theorem gL_law_X5_read : GoodIn wsL_law (wsV RL 27 RX5 yX5_read wsX5_read) := goodIn_app (goodIn_of _ (by decide +kernel)) ggL_law_X5_read
set_option maxRecDepth 20000 in
theorem ggL_law_X4_press : GoodIn wsL_law wsX4_press := goodIn_r _ [256, 16, 257, 29, 84, 85, 2, 86, 258, 259, 260, 261, 262, 263, 87, 88, 89, 28, 90, 58, 91, 92, 93, 94, 95, 15, 96, 97, 98, 99, 100, 101, 102, 38, 103, 104, 105, 106, 39, 40, 41, 42, 43, 44, 45, 264, 265, 266, 267, 268, 269, 270, 271, 272, 273, 274, 275, 186, 187, 276, 277, 278, 279, 596, 597, 598, 599, 600, 601, 602, 615, 616, 617, 618, 619, 620, 621, 622, 623, 624, 625, 626, 627, 628, 633, 634, 635] (by decide +kernel) (by decide +kernel)
set_option maxRecDepth 20000 in
theorem gL_law_X4_press : GoodIn wsL_law (wsV RL 28 RX4 yX4_press wsX4_press) := goodIn_app (goodIn_of _ (by decide +kernel)) ggL_law_X4_press
set_option maxRecDepth 20000 in
theorem ggL_law_X5_press : GoodIn wsL_law wsX5_press := goodIn_r _ [283, 64, 114, 115, 5, 116, 284, 285, 286, 117, 118, 119, 120, 121, 66, 122, 123, 124, 287, 288, 289, 290, 291, 292, 293, 294, 295, 296, 297, 298, 125, 126, 127, 128, 299, 300, 301, 302, 303, 304, 305, 306, 603, 604, 605, 606, 607, 608, 609, 610, 611, 612, 613, 614] (by decide +kernel) (by decide +kernel)
set_option maxRecDepth 20000 in
theorem gL_law_X5_press : GoodIn wsL_law (wsV RL 32 RX5 yX5_press wsX5_press) := goodIn_app (goodIn_of _ (by decide +kernel)) ggL_law_X5_press
set_option maxRecDepth 20000 in
theorem ggL_law_X4_weld : GoodIn wsL_law wsX4_weld := goodIn_r _ [310, 16, 311, 312, 29, 313, 81, 82, 2, 83, 84, 85, 86, 258, 259, 260, 261, 262, 263, 87, 88, 89, 28, 90, 58, 91, 92, 93, 94, 95, 15, 96, 97, 98, 99, 100, 101, 102, 38, 103, 104, 105, 106, 39, 40, 41, 42, 43, 44, 45, 596, 597, 598, 599, 600, 601, 602, 615, 616, 617, 618, 619, 620, 621, 622, 623, 624, 625, 626, 627, 628, 633, 634, 635] (by decide +kernel) (by decide +kernel)
set_option maxRecDepth 20000 in
theorem gL_law_X4_weld : GoodIn wsL_law (wsV RL 33 RX4 yX4_weld wsX4_weld) := goodIn_app (goodIn_of _ (by decide +kernel)) ggL_law_X4_weld
set_option maxRecDepth 20000 in
theorem ggL_law_X5_weld : GoodIn wsL_law wsX5_weld := goodIn_r _ [317, 64, 111, 112, 5, 113, 114, 115, 116, 284, 285, 286, 117, 118, 119, 120, 121, 66, 122, 123, 124, 125, 126, 127, 128, 71, 72, 73, 74, 603, 604, 605, 606, 607, 608, 609, 610, 611, 612, 613, 614] (by decide +kernel) (by decide +kernel)
set_option maxRecDepth 20000 in
theorem gL_law_X5_weld : GoodIn wsL_law (wsV RL 36 RX5 yX5_weld wsX5_weld) := goodIn_app (goodIn_of _ (by decide +kernel)) ggL_law_X5_weld
set_option maxRecDepth 20000 in
theorem ggL_law_X4_pass : GoodIn wsL_law wsX4_pass := goodIn_r _ [321, 29, 16, 322, 84, 85, 2, 86, 87, 88, 89, 28, 90, 58, 91, 92, 93, 94, 95, 15, 96, 97, 98, 99, 100, 101, 102, 38, 103, 104, 105, 106, 39, 40, 41, 42, 43, 44, 45, 323, 324, 325, 326, 327, 265, 266, 267, 268, 269, 270, 271, 272, 273, 274, 275, 186, 187, 276, 277, 278, 279, 328, 329, 330, 331, 259, 260, 261, 262, 263, 332, 333, 334, 335, 336, 337, 338, 339, 596, 597, 598, 599, 600, 601, 602, 615, 616, 617, 618, 619, 620, 621, 622, 623, 624, 625, 626, 627, 628, 633, 634, 635] (by decide +kernel) (by decide +kernel)
set_option maxRecDepth 20000 in
theorem gL_law_X4_pass : GoodIn wsL_law (wsV RL 37 RX4 yX4_pass wsX4_pass) := goodIn_app (goodIn_of _ (by decide +kernel)) ggL_law_X4_pass
set_option maxRecDepth 20000 in
theorem ggL_law_X5_pass : GoodIn wsL_law wsX5_pass := goodIn_r _ [343, 114, 115, 5, 116, 117, 118, 119, 120, 121, 66, 64, 122, 123, 124, 344, 345, 346, 347, 348, 349, 350, 351, 287, 288, 289, 290, 291, 292, 293, 294, 295, 296, 297, 298, 125, 126, 127, 128, 299, 300, 301, 302, 303, 304, 305, 306, 284, 285, 286, 71, 72, 73, 74, 352, 353, 354, 355, 603, 604, 605, 606, 607, 608, 609, 610, 611, 612, 613, 614] (by decide +kernel) (by decide +kernel)
set_option maxRecDepth 20000 in
theorem gL_law_X5_pass : GoodIn wsL_law (wsV RL 40 RX5 yX5_pass wsX5_pass) := goodIn_app (goodIn_of _ (by decide +kernel)) ggL_law_X5_pass
set_option maxRecDepth 20000 in
theorem ggL_law_X4_settle : GoodIn wsL_law wsX4_settle := goodIn_r _ [359, 29, 16, 87, 88, 89, 28, 90, 58, 91, 92, 93, 94, 95, 15, 96, 97, 98, 99, 100, 101, 102, 38, 103, 104, 105, 106, 39, 40, 41, 42, 43, 44, 45, 360, 361, 362, 363, 327, 265, 266, 267, 268, 269, 270, 271, 272, 273, 274, 275, 186, 2, 187, 276, 277, 278, 279, 328, 329, 330, 331, 259, 260, 261, 262, 263, 332, 333, 334, 335, 336, 337, 338, 339, 596, 597, 598, 599, 600, 601, 602, 633, 634, 635, 615, 616, 617, 618, 619, 620, 621, 622, 623, 624, 625, 626, 627, 628] (by decide +kernel) (by decide +kernel)
set_option maxRecDepth 20000 in
theorem gL_law_X4_settle : GoodIn wsL_law (wsV RL 41 RX4 yX4_settle wsX4_settle) := goodIn_app (goodIn_of _ (by decide +kernel)) ggL_law_X4_settle
set_option maxRecDepth 20000 in
theorem ggL_law_X5_settle : GoodIn wsL_law wsX5_settle := goodIn_r _ [367, 117, 118, 119, 5, 120, 121, 66, 64, 122, 123, 124, 368, 369, 370, 371, 287, 288, 289, 290, 291, 292, 293, 294, 295, 296, 297, 298, 125, 126, 127, 128, 299, 300, 301, 302, 303, 304, 305, 306, 348, 349, 350, 351, 284, 285, 286, 71, 72, 73, 74, 352, 353, 354, 355, 603, 604, 605, 606, 607, 608, 609, 610, 611, 612, 613, 614] (by decide +kernel) (by decide +kernel)
set_option maxRecDepth 20000 in
theorem gL_law_X5_settle : GoodIn wsL_law (wsV RL 44 RX5 yX5_settle wsX5_settle) := goodIn_app (goodIn_of _ (by decide +kernel)) ggL_law_X5_settle
set_option maxRecDepth 20000 in
theorem ggL_law_X4_relay : GoodIn wsL_law wsX4_relay := goodIn_r _ [375, 16, 311, 312, 376, 313, 80, 79, 377, 81, 82, 2, 83, 84, 85, 86, 261, 262, 263, 378, 269, 270, 15, 271, 272, 273, 274, 275, 42, 186, 187, 276, 277, 278, 279, 97, 99, 43, 44, 264, 265, 266, 267, 98, 268, 379, 380, 381, 382, 383, 384, 385, 386, 387, 388, 389, 390, 391, 392, 393, 394, 395, 259, 260, 596, 597, 598, 599, 600, 601, 602, 615, 616, 617, 618, 619, 620, 621, 622, 623, 624, 625, 626, 627, 628] (by decide +kernel) (by decide +kernel)
set_option maxRecDepth 20000 in
theorem gL_law_X4_relay : GoodIn wsL_law (wsV RL 45 RX4 yX4_relay wsX4_relay) := goodIn_app (goodIn_of _ (by decide +kernel)) ggL_law_X4_relay
set_option maxRecDepth 20000 in
theorem ggL_law_X5_relay : GoodIn wsL_law wsX5_relay := goodIn_r _ [399, 64, 111, 112, 5, 113, 114, 115, 116, 295, 296, 297, 298, 125, 126, 127, 128, 299, 300, 301, 302, 303, 304, 305, 306, 287, 288, 289, 290, 291, 292, 293, 294, 400, 401, 402, 403, 284, 285, 286, 404, 405, 406, 407, 603, 604, 605, 606, 607, 608, 609, 610, 611, 612, 613, 614] (by decide +kernel) (by decide +kernel)
set_option maxRecDepth 20000 in
theorem gL_law_X5_relay : GoodIn wsL_law (wsV RL 49 RX5 yX5_relay wsX5_relay) := goodIn_app (goodIn_of _ (by decide +kernel)) ggL_law_X5_relay
set_option maxRecDepth 20000 in
theorem ggL_law_X4_branch : GoodIn wsL_law wsX4_branch := goodIn_r _ [411, 16, 377, 412, 413, 414, 81, 82, 2, 83, 84, 85, 86, 415, 186, 187, 416, 277, 278, 15, 279, 97, 99, 43, 44, 596, 597, 598, 599, 600, 601, 602, 615, 616, 617, 618, 619, 620, 621, 622, 623, 624, 625, 626, 627, 628] (by decide +kernel) (by decide +kernel)
set_option maxRecDepth 20000 in
theorem gL_law_X4_branch : GoodIn wsL_law (wsV RL 50 RX4 yX4_branch wsX4_branch) := goodIn_app (goodIn_of _ (by decide +kernel)) ggL_law_X4_branch
set_option maxRecDepth 20000 in
theorem ggL_law_X5_branch : GoodIn wsL_law wsX5_branch := goodIn_r _ [420, 111, 112, 5, 113, 114, 115, 116, 125, 126, 127, 128, 64, 299, 300, 301, 302, 303, 304, 305, 306, 603, 604, 605, 606, 607, 608, 609, 610, 611, 612, 613, 614] (by decide +kernel) (by decide +kernel)
set_option maxRecDepth 20000 in
theorem gL_law_X5_branch : GoodIn wsL_law (wsV RL 54 RX5 yX5_branch wsX5_branch) := goodIn_app (goodIn_of _ (by decide +kernel)) ggL_law_X5_branch
set_option maxRecDepth 20000 in
theorem ggL_law_X4_count : GoodIn wsL_law wsX4_count := goodIn_r _ [424, 16, 311, 312, 257, 425, 322, 133, 21, 426, 29, 427, 378, 269, 270, 15, 271, 272, 273, 274, 275, 42, 186, 2, 187, 276, 277, 278, 279, 97, 99, 43, 44, 264, 265, 266, 267, 98, 268, 210, 211, 212, 213, 428, 429, 430, 431, 596, 597, 598, 599, 600, 601, 602, 615, 616, 617, 618, 619, 620, 621, 622, 623, 624, 625, 626, 627, 628, 629, 630, 633, 634, 635] (by decide +kernel) (by decide +kernel)
set_option maxRecDepth 20000 in
theorem gL_law_X4_count : GoodIn wsL_law (wsV RL 55 RX4 yX4_count wsX4_count) := goodIn_app (goodIn_of _ (by decide +kernel)) ggL_law_X4_count
set_option maxRecDepth 20000 in
theorem ggL_law_X5_count : GoodIn wsL_law wsX5_count := goodIn_r _ [435, 64, 219, 121, 291, 292, 293, 5, 294, 295, 296, 297, 298, 125, 126, 127, 128, 299, 300, 301, 302, 303, 304, 305, 306, 287, 288, 289, 290, 249, 250, 251, 252, 436, 437, 438, 439, 603, 604, 605, 606, 607, 608, 609, 610, 611, 612, 613, 614] (by decide +kernel) (by decide +kernel)
set_option maxRecDepth 20000 in
theorem gL_law_X5_count : GoodIn wsL_law (wsV RL 58 RX5 yX5_count wsX5_count) := goodIn_app (goodIn_of _ (by decide +kernel)) ggL_law_X5_count
set_option maxRecDepth 20000 in
theorem ggL_law_X4_ifPressed : GoodIn wsL_law wsX4_ifPressed := goodIn_r _ [443, 17, 311, 444, 445, 2, 446, 84, 85, 86, 447, 448, 449, 450, 16, 257, 142, 94, 95, 15, 96, 97, 98, 99, 100, 101, 102, 38, 103, 104, 105, 106, 39, 40, 41, 42, 43, 44, 45, 323, 324, 325, 326, 327, 265, 266, 267, 268, 269, 270, 271, 272, 273, 274, 275, 186, 187, 276, 277, 278, 279, 328, 329, 330, 331, 259, 260, 261, 262, 263, 332, 333, 334, 335, 336, 337, 338, 339, 596, 597, 598, 599, 600, 601, 602, 615, 616, 617, 618, 619, 620, 621, 622, 623, 624, 625, 626, 627, 628] (by decide +kernel) (by decide +kernel)
set_option maxRecDepth 20000 in
theorem gL_law_X4_ifPressed : GoodIn wsL_law (wsV RL 59 RX4 yX4_ifPressed wsX4_ifPressed) := goodIn_app (goodIn_of _ (by decide +kernel)) ggL_law_X4_ifPressed
set_option maxRecDepth 20000 in
theorem ggL_law_X5_ifPressed : GoodIn wsL_law wsX5_ifPressed := goodIn_r _ [454, 64, 65, 455, 456, 5, 457, 114, 115, 116, 122, 123, 124, 344, 345, 346, 347, 348, 349, 350, 351, 287, 288, 289, 290, 291, 292, 293, 294, 295, 296, 297, 298, 125, 126, 127, 128, 299, 300, 301, 302, 303, 304, 305, 306, 284, 285, 286, 71, 72, 73, 74, 352, 353, 354, 355, 603, 604, 605, 606, 607, 608, 609, 610, 611, 612, 613, 614] (by decide +kernel) (by decide +kernel)
set_option maxRecDepth 20000 in
theorem gL_law_X5_ifPressed : GoodIn wsL_law (wsV RL 62 RX5 yX5_ifPressed wsX5_ifPressed) := goodIn_app (goodIn_of _ (by decide +kernel)) ggL_law_X5_ifPressed
set_option maxRecDepth 20000 in
theorem ggL_law_X4_rest : GoodIn wsL_law wsX4_rest := goodIn_r _ [461, 17, 425, 16, 322, 444, 445, 2, 446, 84, 85, 86, 447, 448, 449, 450, 257, 142, 94, 95, 15, 96, 97, 98, 99, 100, 101, 102, 38, 103, 104, 105, 106, 39, 40, 41, 42, 43, 44, 45, 462, 463, 464, 465, 466, 361, 362, 363, 327, 265, 266, 267, 268, 269, 270, 271, 272, 273, 274, 275, 186, 187, 276, 277, 278, 279, 328, 329, 330, 331, 259, 260, 261, 262, 263, 332, 333, 334, 335, 336, 337, 338, 339, 596, 597, 598, 599, 600, 601, 602, 615, 616, 617, 618, 619, 620, 621, 622, 623, 624, 625, 626, 627, 628] (by decide +kernel) (by decide +kernel)
set_option maxRecDepth 20000 in
theorem gL_law_X4_rest : GoodIn wsL_law (wsV RL 63 RX4 yX4_rest wsX4_rest) := goodIn_app (goodIn_of _ (by decide +kernel)) ggL_law_X4_rest
set_option maxRecDepth 20000 in
theorem ggL_law_X5_rest : GoodIn wsL_law wsX5_rest := goodIn_r _ [470, 64, 65, 455, 456, 5, 457, 114, 115, 116, 122, 123, 124, 471, 472, 473, 474, 368, 369, 370, 371, 287, 288, 289, 290, 291, 292, 293, 294, 295, 296, 297, 298, 125, 126, 127, 128, 299, 300, 301, 302, 303, 304, 305, 306, 348, 349, 350, 351, 284, 285, 286, 71, 72, 73, 74, 352, 353, 354, 355, 603, 604, 605, 606, 607, 608, 609, 610, 611, 612, 613, 614] (by decide +kernel) (by decide +kernel)
set_option maxRecDepth 20000 in
theorem gL_law_X5_rest : GoodIn wsL_law (wsV RL 66 RX5 yX5_rest wsX5_rest) := goodIn_app (goodIn_of _ (by decide +kernel)) ggL_law_X5_rest
set_option maxRecDepth 20000 in
theorem ggL_law_X4_race : GoodIn wsL_law wsX4_race := goodIn_r _ [478, 17, 444, 445, 2, 446, 84, 85, 86, 447, 448, 449, 450, 16, 257, 142, 94, 95, 15, 96, 97, 98, 99, 100, 101, 102, 38, 103, 104, 105, 106, 39, 40, 41, 42, 43, 44, 45, 462, 463, 464, 465, 466, 361, 362, 363, 327, 265, 266, 267, 268, 269, 270, 271, 272, 273, 274, 275, 186, 187, 276, 277, 278, 279, 328, 329, 330, 331, 259, 260, 261, 262, 263, 332, 333, 334, 335, 336, 337, 338, 339, 479, 480, 481, 482, 596, 597, 598, 599, 600, 601, 602, 615, 616, 617, 618, 619, 620, 621, 622, 623, 624, 625, 626, 627, 628] (by decide +kernel) (by decide +kernel)
set_option maxRecDepth 20000 in
theorem gL_law_X4_race : GoodIn wsL_law (wsV RL 67 RX4 yX4_race wsX4_race) := goodIn_app (goodIn_of _ (by decide +kernel)) ggL_law_X4_race
set_option maxRecDepth 20000 in
theorem ggL_law_X5_race : GoodIn wsL_law wsX5_race := goodIn_r _ [486, 64, 65, 455, 456, 5, 457, 114, 115, 116, 122, 123, 124, 471, 472, 473, 474, 368, 369, 370, 371, 287, 288, 289, 290, 291, 292, 293, 294, 295, 296, 297, 298, 125, 126, 127, 128, 299, 300, 301, 302, 303, 304, 305, 306, 348, 349, 350, 351, 284, 285, 286, 71, 72, 73, 74, 352, 353, 354, 355, 603, 604, 605, 606, 607, 608, 609, 610, 611, 612, 613, 614] (by decide +kernel) (by decide +kernel)
set_option maxRecDepth 20000 in
theorem gL_law_X5_race : GoodIn wsL_law (wsV RL 70 RX5 yX5_race wsX5_race) := goodIn_app (goodIn_of _ (by decide +kernel)) ggL_law_X5_race
set_option maxRecDepth 20000 in
theorem ggL_law_X4_ifWelded : GoodIn wsL_law wsX4_ifWelded := goodIn_r _ [490, 17, 81, 82, 2, 83, 84, 85, 86, 491, 492, 493, 494, 311, 312, 447, 448, 449, 450, 16, 257, 142, 94, 95, 15, 96, 97, 98, 99, 100, 101, 102, 38, 103, 104, 105, 106, 39, 40, 41, 42, 43, 44, 45, 462, 463, 464, 465, 466, 361, 362, 363, 327, 265, 266, 267, 268, 269, 270, 271, 272, 273, 274, 275, 186, 187, 276, 277, 278, 279, 328, 329, 330, 331, 259, 260, 261, 262, 263, 332, 333, 334, 335, 336, 337, 338, 339, 596, 597, 598, 599, 600, 601, 602, 615, 616, 617, 618, 619, 620, 621, 622, 623, 624, 625, 626, 627, 628] (by decide +kernel) (by decide +kernel)
set_option maxRecDepth 20000 in
theorem gL_law_X4_ifWelded : GoodIn wsL_law (wsV RL 71 RX4 yX4_ifWelded wsX4_ifWelded) := goodIn_app (goodIn_of _ (by decide +kernel)) ggL_law_X4_ifWelded
set_option maxRecDepth 20000 in
theorem ggL_law_X5_ifWelded : GoodIn wsL_law wsX5_ifWelded := goodIn_r _ [498, 111, 112, 5, 113, 114, 115, 116, 499, 500, 501, 502, 64, 65, 122, 123, 124, 471, 472, 473, 474, 368, 369, 370, 371, 287, 288, 289, 290, 291, 292, 293, 294, 295, 296, 297, 298, 125, 126, 127, 128, 299, 300, 301, 302, 303, 304, 305, 306, 348, 349, 350, 351, 284, 285, 286, 71, 72, 73, 74, 352, 353, 354, 355, 603, 604, 605, 606, 607, 608, 609, 610, 611, 612, 613, 614] (by decide +kernel) (by decide +kernel)
set_option maxRecDepth 20000 in
theorem gL_law_X5_ifWelded : GoodIn wsL_law (wsV RL 74 RX5 yX5_ifWelded wsX5_ifWelded) := goodIn_app (goodIn_of _ (by decide +kernel)) ggL_law_X5_ifWelded
set_option maxRecDepth 20000 in
theorem ggL_law_X4_unsafe : GoodIn wsL_law wsX4_unsafe := goodIn_r _ [506, 17, 81, 82, 2, 83, 84, 85, 86, 491, 492, 493, 494, 311, 312, 447, 448, 449, 450, 16, 257, 142, 94, 95, 15, 96, 97, 98, 99, 100, 101, 102, 38, 103, 104, 105, 106, 39, 40, 41, 42, 43, 44, 45, 462, 463, 464, 465, 466, 361, 362, 363, 327, 265, 266, 267, 268, 269, 270, 271, 272, 273, 274, 275, 186, 187, 276, 277, 278, 279, 328, 329, 330, 331, 259, 260, 261, 262, 263, 332, 333, 334, 335, 336, 337, 338, 339, 507, 508, 509, 258, 596, 597, 598, 599, 600, 601, 602, 615, 616, 617, 618, 619, 620, 621, 622, 623, 624, 625, 626, 627, 628] (by decide +kernel) (by decide +kernel)
set_option maxRecDepth 20000 in
theorem gL_law_X4_unsafe : GoodIn wsL_law (wsV RL 75 RX4 yX4_unsafe wsX4_unsafe) := goodIn_app (goodIn_of _ (by decide +kernel)) ggL_law_X4_unsafe
set_option maxRecDepth 20000 in
theorem ggL_law_X5_unsafe : GoodIn wsL_law wsX5_unsafe := goodIn_r _ [513, 111, 112, 5, 113, 114, 115, 116, 499, 500, 501, 502, 64, 65, 122, 123, 124, 471, 472, 473, 474, 368, 369, 370, 371, 287, 288, 289, 290, 291, 292, 293, 294, 295, 296, 297, 298, 125, 126, 127, 128, 299, 300, 301, 302, 303, 304, 305, 306, 348, 349, 350, 351, 284, 285, 286, 71, 72, 73, 74, 352, 353, 354, 355, 603, 604, 605, 606, 607, 608, 609, 610, 611, 612, 613, 614] (by decide +kernel) (by decide +kernel)
set_option maxRecDepth 20000 in
theorem gL_law_X5_unsafe : GoodIn wsL_law (wsV RL 78 RX5 yX5_unsafe wsX5_unsafe) := goodIn_app (goodIn_of _ (by decide +kernel)) ggL_law_X5_unsafe
set_option maxRecDepth 20000 in
theorem ggL_law_X4_reach : GoodIn wsL_law wsX4_reach := goodIn_r _ [517, 17, 81, 82, 2, 83, 84, 85, 86, 518, 519, 520, 521, 522, 523, 524, 447, 448, 449, 450, 16, 257, 142, 94, 95, 15, 96, 97, 98, 99, 100, 101, 102, 38, 103, 104, 105, 106, 39, 40, 41, 42, 43, 44, 45, 462, 463, 464, 465, 466, 361, 362, 363, 327, 265, 266, 267, 268, 269, 270, 271, 272, 273, 274, 275, 186, 187, 276, 277, 278, 279, 328, 329, 330, 331, 259, 260, 261, 262, 263, 332, 333, 334, 335, 336, 337, 338, 339, 507, 508, 509, 258, 596, 597, 598, 599, 600, 601, 602, 615, 616, 617, 618, 619, 620, 621, 622, 623, 624, 625, 626, 627, 628] (by decide +kernel) (by decide +kernel)
set_option maxRecDepth 20000 in
theorem gL_law_X4_reach : GoodIn wsL_law (wsV RL 79 RX4 yX4_reach wsX4_reach) := goodIn_app (goodIn_of _ (by decide +kernel)) ggL_law_X4_reach
set_option maxRecDepth 20000 in
theorem ggL_law_X5_reach : GoodIn wsL_law wsX5_reach := goodIn_r _ [528, 64, 65, 111, 112, 5, 113, 114, 115, 116, 122, 123, 124, 471, 472, 473, 474, 368, 369, 370, 371, 287, 288, 289, 290, 291, 292, 293, 294, 295, 296, 297, 298, 125, 126, 127, 128, 299, 300, 301, 302, 303, 304, 305, 306, 348, 349, 350, 351, 284, 285, 286, 71, 72, 73, 74, 352, 353, 354, 355, 529, 530, 531, 603, 604, 605, 606, 607, 608, 609, 610, 611, 612, 613, 614] (by decide +kernel) (by decide +kernel)
set_option maxRecDepth 20000 in
theorem gL_law_X5_reach : GoodIn wsL_law (wsV RL 82 RX5 yX5_reach wsX5_reach) := goodIn_app (goodIn_of _ (by decide +kernel)) ggL_law_X5_reach
set_option maxRecDepth 20000 in
theorem ggL_law_X4_put : GoodIn wsL_law wsX4_put := goodIn_r _ [535, 21, 426, 536, 537, 20, 538, 539, 540, 541, 542, 85, 2, 86, 543, 544, 545, 546, 209, 49, 596, 597, 598, 599, 600, 601, 602, 629, 630] (by decide +kernel) (by decide +kernel)
set_option maxRecDepth 20000 in
theorem gL_law_X4_put : GoodIn wsL_law (wsV RL 85 RX4 yX4_put wsX4_put) := goodIn_app (goodIn_of _ (by decide +kernel)) ggL_law_X4_put
set_option maxRecDepth 20000 in
theorem ggL_law_X5_put : GoodIn wsL_law wsX5_put := goodIn_r _ [550, 551, 219, 69, 114, 115, 5, 116, 603, 604, 605, 606, 607, 608, 609, 610, 611, 612, 613, 614] (by decide +kernel) (by decide +kernel)
set_option maxRecDepth 20000 in
theorem gL_law_X5_put : GoodIn wsL_law (wsV RL 89 RX5 yX5_put wsX5_put) := goodIn_app (goodIn_of _ (by decide +kernel)) ggL_law_X5_put
set_option maxRecDepth 20000 in
theorem ggL_law_X4_wipe : GoodIn wsL_law wsX4_wipe := goodIn_r _ [555, 21, 426, 205, 206, 207, 20, 208, 209, 596, 597, 598, 599, 600, 601, 602, 629, 630] (by decide +kernel) (by decide +kernel)
set_option maxRecDepth 20000 in
theorem gL_law_X4_wipe : GoodIn wsL_law (wsV RL 90 RX4 yX4_wipe wsX4_wipe) := goodIn_app (goodIn_of _ (by decide +kernel)) ggL_law_X4_wipe
set_option maxRecDepth 20000 in
theorem ggL_law_X5_wipe : GoodIn wsL_law wsX5_wipe := goodIn_r _ [559, 219, 603, 604, 605, 606, 607, 608, 609, 610, 611, 612, 613, 614] (by decide +kernel) (by decide +kernel)
set_option maxRecDepth 20000 in
theorem gL_law_X5_wipe : GoodIn wsL_law (wsV RL 93 RX5 yX5_wipe wsX5_wipe) := goodIn_app (goodIn_of _ (by decide +kernel)) ggL_law_X5_wipe
set_option maxRecDepth 20000 in
theorem ggL_law_X4_fault : GoodIn wsL_law wsX4_fault := goodIn_r _ [563, 25, 17, 21, 143, 144, 145, 24, 146, 147, 148, 149, 150, 151, 152, 153, 154, 155, 156, 157, 158, 159, 160, 161, 85, 2, 86, 82, 83, 84, 162, 163, 164, 165, 166, 167, 168, 169, 170, 171, 172, 15, 173, 42, 174, 175, 176, 177, 178, 179, 180, 181, 43, 44, 45, 182, 183, 184, 185, 186, 187, 188, 189, 190, 191, 192, 193, 194, 195, 196, 197, 198, 199, 200, 201, 202, 203, 204, 596, 597, 598, 599, 600, 601, 602, 631, 632, 629, 630, 615, 616, 617, 618, 619, 620, 621, 622, 623, 624, 625, 626, 627, 628] (by decide +kernel) (by decide +kernel)
set_option maxRecDepth 20000 in
theorem gL_law_X4_fault : GoodIn wsL_law (wsV RL 94 RX4 yX4_fault wsX4_fault) := goodIn_app (goodIn_of _ (by decide +kernel)) ggL_law_X4_fault
set_option maxRecDepth 20000 in
theorem ggL_law_X5_fault : GoodIn wsL_law wsX5_fault := goodIn_r _ [567, 222, 223, 224, 5, 225, 218, 219, 226, 227, 228, 229, 221, 220, 230, 231, 232, 233, 69, 114, 115, 116, 234, 235, 236, 237, 238, 239, 240, 241, 242, 243, 244, 245, 70, 246, 247, 248, 603, 604, 605, 606, 607, 608, 609, 610, 611, 612, 613, 614] (by decide +kernel) (by decide +kernel)
set_option maxRecDepth 20000 in
theorem gL_law_X5_fault : GoodIn wsL_law (wsV RL 97 RX5 yX5_fault wsX5_fault) := goodIn_app (goodIn_of _ (by decide +kernel)) ggL_law_X5_fault
set_option maxRecDepth 20000 in
theorem ggL_law_X4_undo : GoodIn wsL_law wsX4_undo := goodIn_r _ [571, 29, 427, 16, 572, 573, 574, 28, 575, 92, 58, 91, 93, 94, 95, 15, 96, 97, 98, 99, 100, 101, 102, 38, 103, 104, 105, 106, 39, 40, 41, 42, 43, 44, 45, 596, 597, 598, 599, 600, 601, 602, 633, 634, 635, 615, 616, 617, 618, 619, 620, 621, 622, 623, 624, 625, 626, 627, 628] (by decide +kernel) (by decide +kernel)
set_option maxRecDepth 20000 in
theorem gL_law_X4_undo : GoodIn wsL_law (wsV RL 98 RX4 yX4_undo wsX4_undo) := goodIn_app (goodIn_of _ (by decide +kernel)) ggL_law_X4_undo
set_option maxRecDepth 20000 in
theorem ggL_law_X5_undo : GoodIn wsL_law wsX5_undo := goodIn_r _ [579, 121, 66, 64, 122, 123, 5, 124, 603, 604, 605, 606, 607, 608, 609, 610, 611, 612, 613, 614] (by decide +kernel) (by decide +kernel)
set_option maxRecDepth 20000 in
theorem gL_law_X5_undo : GoodIn wsL_law (wsV RL 101 RX5 yX5_undo wsX5_undo) := goodIn_app (goodIn_of _ (by decide +kernel)) ggL_law_X5_undo
set_option maxRecDepth 20000 in
theorem ggL_law_X4_save : GoodIn wsL_law wsX4_save := goodIn_r _ [583, 30, 16, 32, 311, 84, 85, 2, 86, 142, 94, 95, 15, 96, 97, 98, 99, 100, 101, 102, 38, 103, 104, 105, 106, 39, 40, 41, 42, 43, 44, 45, 596, 597, 598, 599, 600, 601, 602, 615, 616, 617, 618, 619, 620, 621, 622, 623, 624, 625, 626, 627, 628] (by decide +kernel) (by decide +kernel)
set_option maxRecDepth 20000 in
theorem gL_law_X4_save : GoodIn wsL_law (wsV RL 102 RX4 yX4_save wsX4_save) := goodIn_app (goodIn_of _ (by decide +kernel)) ggL_law_X4_save
set_option maxRecDepth 20000 in
theorem ggL_law_X5_save : GoodIn wsL_law wsX5_save := goodIn_r _ [587, 64, 67, 68, 114, 115, 5, 116, 122, 123, 124, 603, 604, 605, 606, 607, 608, 609, 610, 611, 612, 613, 614] (by decide +kernel) (by decide +kernel)
set_option maxRecDepth 20000 in
theorem gL_law_X5_save : GoodIn wsL_law (wsV RL 105 RX5 yX5_save wsX5_save) := goodIn_app (goodIn_of _ (by decide +kernel)) ggL_law_X5_save
set_option maxRecDepth 20000 in
theorem ggL_law_X4_restore : GoodIn wsL_law wsX4_restore := goodIn_r _ [591, 32, 29, 16, 30, 311, 84, 85, 2, 86, 87, 88, 89, 28, 90, 58, 91, 92, 93, 94, 95, 15, 96, 97, 98, 99, 100, 101, 102, 38, 103, 104, 105, 106, 39, 40, 41, 42, 43, 44, 45, 142, 596, 597, 598, 599, 600, 601, 602, 615, 616, 617, 618, 619, 620, 621, 622, 623, 624, 625, 626, 627, 628, 633, 634, 635] (by decide +kernel) (by decide +kernel)
set_option maxRecDepth 20000 in
theorem gL_law_X4_restore : GoodIn wsL_law (wsV RL 106 RX4 yX4_restore wsX4_restore) := goodIn_app (goodIn_of _ (by decide +kernel)) ggL_law_X4_restore
set_option maxRecDepth 20000 in
theorem ggL_law_X5_restore : GoodIn wsL_law wsX5_restore := goodIn_r _ [595, 68, 67, 64, 114, 115, 5, 116, 117, 118, 119, 120, 121, 66, 122, 123, 124, 603, 604, 605, 606, 607, 608, 609, 610, 611, 612, 613, 614] (by decide +kernel) (by decide +kernel)
set_option maxRecDepth 20000 in
theorem gL_law_X5_restore : GoodIn wsL_law (wsV RL 109 RX5 yX5_restore wsX5_restore) := goodIn_app (goodIn_of _ (by decide +kernel)) ggL_law_X5_restore
theorem dL_law_0 : decode cL_law 0 = .ok (.new 7, 3) := by decide +kernel
theorem dL_law_3 : decode cL_law 3 = .ok (.dup, 1) := by decide +kernel
theorem dL_law_4 : decode cL_law 4 = .ok (.invokespecial 9, 3) := by decide +kernel
theorem dL_law_7 : decode cL_law 7 = .ok (.astore_n 1, 1) := by decide +kernel
theorem dL_law_8 : decode cL_law 8 = .ok (.new 10, 3) := by decide +kernel
theorem dL_law_11 : decode cL_law 11 = .ok (.dup, 1) := by decide +kernel
theorem dL_law_12 : decode cL_law 12 = .ok (.invokespecial 12, 3) := by decide +kernel
theorem dL_law_15 : decode cL_law 15 = .ok (.astore_n 2, 1) := by decide +kernel
theorem dL_law_16 : decode cL_law 16 = .ok (.iconst 0, 1) := by decide +kernel
theorem dL_law_17 : decode cL_law 17 = .ok (.istore_n 3, 1) := by decide +kernel
theorem dL_law_18 : decode cL_law 18 = .ok (.iload_n 3, 1) := by decide +kernel
theorem dL_law_19 : decode cL_law 19 = .ok (.aload_n 0, 1) := by decide +kernel
theorem dL_law_20 : decode cL_law 20 = .ok (.arraylength, 1) := by decide +kernel
theorem dL_law_21 : decode cL_law 21 = .ok (.iconst 4, 1) := by decide +kernel
theorem dL_law_22 : decode cL_law 22 = .ok (.isub, 1) := by decide +kernel
theorem dL_law_23 : decode cL_law 23 = .ok (.if_icmp .gt 753, 3) := by decide +kernel
theorem dL_law_26 : decode cL_law 26 = .ok (.aload_n 0, 1) := by decide +kernel
theorem dL_law_27 : decode cL_law 27 = .ok (.iload_n 3, 1) := by decide +kernel
theorem dL_law_28 : decode cL_law 28 = .ok (.iaload, 1) := by decide +kernel
theorem dL_law_29 : decode cL_law 29 = .ok (.bipush 31, 2) := by decide +kernel
theorem dL_law_31 : decode cL_law 31 = .ok (.iand, 1) := by decide +kernel
theorem dL_law_32 : decode cL_law 32 = .ok (.tableswitch 738 0 21 #[104, 163, 186, 199, 248, 297, 320, 333, 366, 409, 432, 465, 498, 521, 554, 577, 600, 653, 666, 679, 692, 715], 104) := by decide +kernel
theorem dL_law_136 : decode cL_law 136 = .ok (.aload_n 1, 1) := by decide +kernel
theorem dL_law_137 : decode cL_law 137 = .ok (.aload_n 0, 1) := by decide +kernel
theorem dL_law_138 : decode cL_law 138 = .ok (.iload_n 3, 1) := by decide +kernel
theorem dL_law_139 : decode cL_law 139 = .ok (.iconst 1, 1) := by decide +kernel
theorem dL_law_140 : decode cL_law 140 = .ok (.iadd, 1) := by decide +kernel
theorem dL_law_141 : decode cL_law 141 = .ok (.iaload, 1) := by decide +kernel
theorem dL_law_142 : decode cL_law 142 = .ok (.aload_n 0, 1) := by decide +kernel
theorem dL_law_143 : decode cL_law 143 = .ok (.iload_n 3, 1) := by decide +kernel
theorem dL_law_144 : decode cL_law 144 = .ok (.iconst 2, 1) := by decide +kernel
theorem dL_law_145 : decode cL_law 145 = .ok (.iadd, 1) := by decide +kernel
theorem dL_law_146 : decode cL_law 146 = .ok (.iaload, 1) := by decide +kernel
theorem dL_law_147 : decode cL_law 147 = .ok (.ifCond .eq 7, 3) := by decide +kernel
theorem dL_law_150 : decode cL_law 150 = .ok (.iconst 1, 1) := by decide +kernel
theorem dL_law_151 : decode cL_law 151 = .ok (.goto 4, 3) := by decide +kernel
theorem dL_law_154 : decode cL_law 154 = .ok (.iconst 0, 1) := by decide +kernel
theorem dL_law_155 : decode cL_law 155 = .ok (.aload_n 0, 1) := by decide +kernel
theorem dL_law_156 : decode cL_law 156 = .ok (.iload_n 3, 1) := by decide +kernel
theorem dL_law_157 : decode cL_law 157 = .ok (.iconst 3, 1) := by decide +kernel
theorem dL_law_158 : decode cL_law 158 = .ok (.iadd, 1) := by decide +kernel
theorem dL_law_159 : decode cL_law 159 = .ok (.iaload, 1) := by decide +kernel
theorem dL_law_160 : decode cL_law 160 = .ok (.invokevirtual 13, 3) := by decide +kernel
theorem dL_law_163 : decode cL_law 163 = .ok (.aload_n 2, 1) := by decide +kernel
theorem dL_law_164 : decode cL_law 164 = .ok (.aload_n 0, 1) := by decide +kernel
theorem dL_law_165 : decode cL_law 165 = .ok (.iload_n 3, 1) := by decide +kernel
theorem dL_law_166 : decode cL_law 166 = .ok (.iconst 1, 1) := by decide +kernel
theorem dL_law_167 : decode cL_law 167 = .ok (.iadd, 1) := by decide +kernel
theorem dL_law_168 : decode cL_law 168 = .ok (.iaload, 1) := by decide +kernel
theorem dL_law_169 : decode cL_law 169 = .ok (.aload_n 0, 1) := by decide +kernel
theorem dL_law_170 : decode cL_law 170 = .ok (.iload_n 3, 1) := by decide +kernel
theorem dL_law_171 : decode cL_law 171 = .ok (.iconst 2, 1) := by decide +kernel
theorem dL_law_172 : decode cL_law 172 = .ok (.iadd, 1) := by decide +kernel
theorem dL_law_173 : decode cL_law 173 = .ok (.iaload, 1) := by decide +kernel
theorem dL_law_174 : decode cL_law 174 = .ok (.ifCond .eq 7, 3) := by decide +kernel
theorem dL_law_177 : decode cL_law 177 = .ok (.iconst 1, 1) := by decide +kernel
theorem dL_law_178 : decode cL_law 178 = .ok (.goto 4, 3) := by decide +kernel
theorem dL_law_181 : decode cL_law 181 = .ok (.iconst 0, 1) := by decide +kernel
theorem dL_law_182 : decode cL_law 182 = .ok (.aload_n 0, 1) := by decide +kernel
theorem dL_law_183 : decode cL_law 183 = .ok (.iload_n 3, 1) := by decide +kernel
theorem dL_law_184 : decode cL_law 184 = .ok (.iconst 3, 1) := by decide +kernel
theorem dL_law_185 : decode cL_law 185 = .ok (.iadd, 1) := by decide +kernel
theorem dL_law_186 : decode cL_law 186 = .ok (.iaload, 1) := by decide +kernel
theorem dL_law_187 : decode cL_law 187 = .ok (.invokevirtual 17, 3) := by decide +kernel
theorem dL_law_190 : decode cL_law 190 = .ok (.if_icmp .eq 580, 3) := by decide +kernel
theorem dL_law_193 : decode cL_law 193 = .ok (.iconst 0, 1) := by decide +kernel
theorem dL_law_194 : decode cL_law 194 = .ok (.ireturn, 1) := by decide +kernel
theorem dL_law_195 : decode cL_law 195 = .ok (.aload_n 1, 1) := by decide +kernel
theorem dL_law_196 : decode cL_law 196 = .ok (.aload_n 0, 1) := by decide +kernel
theorem dL_law_197 : decode cL_law 197 = .ok (.iload_n 3, 1) := by decide +kernel
theorem dL_law_198 : decode cL_law 198 = .ok (.iconst 1, 1) := by decide +kernel
theorem dL_law_199 : decode cL_law 199 = .ok (.iadd, 1) := by decide +kernel
theorem dL_law_200 : decode cL_law 200 = .ok (.iaload, 1) := by decide +kernel
theorem dL_law_201 : decode cL_law 201 = .ok (.invokevirtual 18, 3) := by decide +kernel
theorem dL_law_204 : decode cL_law 204 = .ok (.aload_n 2, 1) := by decide +kernel
theorem dL_law_205 : decode cL_law 205 = .ok (.aload_n 0, 1) := by decide +kernel
theorem dL_law_206 : decode cL_law 206 = .ok (.iload_n 3, 1) := by decide +kernel
theorem dL_law_207 : decode cL_law 207 = .ok (.iconst 1, 1) := by decide +kernel
theorem dL_law_208 : decode cL_law 208 = .ok (.iadd, 1) := by decide +kernel
theorem dL_law_209 : decode cL_law 209 = .ok (.iaload, 1) := by decide +kernel
theorem dL_law_210 : decode cL_law 210 = .ok (.invokevirtual 22, 3) := by decide +kernel
theorem dL_law_213 : decode cL_law 213 = .ok (.if_icmp .eq 557, 3) := by decide +kernel
theorem dL_law_216 : decode cL_law 216 = .ok (.iconst 0, 1) := by decide +kernel
theorem dL_law_217 : decode cL_law 217 = .ok (.ireturn, 1) := by decide +kernel
theorem dL_law_218 : decode cL_law 218 = .ok (.aload_n 1, 1) := by decide +kernel
theorem dL_law_219 : decode cL_law 219 = .ok (.invokevirtual 23, 3) := by decide +kernel
theorem dL_law_222 : decode cL_law 222 = .ok (.aload_n 2, 1) := by decide +kernel
theorem dL_law_223 : decode cL_law 223 = .ok (.invokevirtual 27, 3) := by decide +kernel
theorem dL_law_226 : decode cL_law 226 = .ok (.if_icmp .eq 544, 3) := by decide +kernel
theorem dL_law_229 : decode cL_law 229 = .ok (.iconst 0, 1) := by decide +kernel
theorem dL_law_230 : decode cL_law 230 = .ok (.ireturn, 1) := by decide +kernel
theorem dL_law_231 : decode cL_law 231 = .ok (.aload_n 1, 1) := by decide +kernel
theorem dL_law_232 : decode cL_law 232 = .ok (.aload_n 0, 1) := by decide +kernel
theorem dL_law_233 : decode cL_law 233 = .ok (.iload_n 3, 1) := by decide +kernel
theorem dL_law_234 : decode cL_law 234 = .ok (.iconst 1, 1) := by decide +kernel
theorem dL_law_235 : decode cL_law 235 = .ok (.iadd, 1) := by decide +kernel
theorem dL_law_236 : decode cL_law 236 = .ok (.iaload, 1) := by decide +kernel
theorem dL_law_237 : decode cL_law 237 = .ok (.aload_n 0, 1) := by decide +kernel
theorem dL_law_238 : decode cL_law 238 = .ok (.iload_n 3, 1) := by decide +kernel
theorem dL_law_239 : decode cL_law 239 = .ok (.iconst 2, 1) := by decide +kernel
theorem dL_law_240 : decode cL_law 240 = .ok (.iadd, 1) := by decide +kernel
theorem dL_law_241 : decode cL_law 241 = .ok (.iaload, 1) := by decide +kernel
theorem dL_law_242 : decode cL_law 242 = .ok (.ifCond .eq 7, 3) := by decide +kernel
theorem dL_law_245 : decode cL_law 245 = .ok (.iconst 1, 1) := by decide +kernel
theorem dL_law_246 : decode cL_law 246 = .ok (.goto 4, 3) := by decide +kernel
theorem dL_law_249 : decode cL_law 249 = .ok (.iconst 0, 1) := by decide +kernel
theorem dL_law_250 : decode cL_law 250 = .ok (.invokevirtual 28, 3) := by decide +kernel
theorem dL_law_253 : decode cL_law 253 = .ok (.aload_n 2, 1) := by decide +kernel
theorem dL_law_254 : decode cL_law 254 = .ok (.aload_n 0, 1) := by decide +kernel
theorem dL_law_255 : decode cL_law 255 = .ok (.iload_n 3, 1) := by decide +kernel
theorem dL_law_256 : decode cL_law 256 = .ok (.iconst 1, 1) := by decide +kernel
theorem dL_law_257 : decode cL_law 257 = .ok (.iadd, 1) := by decide +kernel
theorem dL_law_258 : decode cL_law 258 = .ok (.iaload, 1) := by decide +kernel
theorem dL_law_259 : decode cL_law 259 = .ok (.aload_n 0, 1) := by decide +kernel
theorem dL_law_260 : decode cL_law 260 = .ok (.iload_n 3, 1) := by decide +kernel
theorem dL_law_261 : decode cL_law 261 = .ok (.iconst 2, 1) := by decide +kernel
theorem dL_law_262 : decode cL_law 262 = .ok (.iadd, 1) := by decide +kernel
theorem dL_law_263 : decode cL_law 263 = .ok (.iaload, 1) := by decide +kernel
theorem dL_law_264 : decode cL_law 264 = .ok (.ifCond .eq 7, 3) := by decide +kernel
theorem dL_law_267 : decode cL_law 267 = .ok (.iconst 1, 1) := by decide +kernel
theorem dL_law_268 : decode cL_law 268 = .ok (.goto 4, 3) := by decide +kernel
theorem dL_law_271 : decode cL_law 271 = .ok (.iconst 0, 1) := by decide +kernel
theorem dL_law_272 : decode cL_law 272 = .ok (.invokevirtual 32, 3) := by decide +kernel
theorem dL_law_275 : decode cL_law 275 = .ok (.if_icmp .eq 495, 3) := by decide +kernel
theorem dL_law_278 : decode cL_law 278 = .ok (.iconst 0, 1) := by decide +kernel
theorem dL_law_279 : decode cL_law 279 = .ok (.ireturn, 1) := by decide +kernel
theorem dL_law_280 : decode cL_law 280 = .ok (.aload_n 1, 1) := by decide +kernel
theorem dL_law_281 : decode cL_law 281 = .ok (.aload_n 0, 1) := by decide +kernel
theorem dL_law_282 : decode cL_law 282 = .ok (.iload_n 3, 1) := by decide +kernel
theorem dL_law_283 : decode cL_law 283 = .ok (.iconst 1, 1) := by decide +kernel
theorem dL_law_284 : decode cL_law 284 = .ok (.iadd, 1) := by decide +kernel
theorem dL_law_285 : decode cL_law 285 = .ok (.iaload, 1) := by decide +kernel
theorem dL_law_286 : decode cL_law 286 = .ok (.aload_n 0, 1) := by decide +kernel
theorem dL_law_287 : decode cL_law 287 = .ok (.iload_n 3, 1) := by decide +kernel
theorem dL_law_288 : decode cL_law 288 = .ok (.iconst 2, 1) := by decide +kernel
theorem dL_law_289 : decode cL_law 289 = .ok (.iadd, 1) := by decide +kernel
theorem dL_law_290 : decode cL_law 290 = .ok (.iaload, 1) := by decide +kernel
theorem dL_law_291 : decode cL_law 291 = .ok (.ifCond .eq 7, 3) := by decide +kernel
theorem dL_law_294 : decode cL_law 294 = .ok (.iconst 1, 1) := by decide +kernel
theorem dL_law_295 : decode cL_law 295 = .ok (.goto 4, 3) := by decide +kernel
theorem dL_law_298 : decode cL_law 298 = .ok (.iconst 0, 1) := by decide +kernel
theorem dL_law_299 : decode cL_law 299 = .ok (.invokevirtual 33, 3) := by decide +kernel
theorem dL_law_302 : decode cL_law 302 = .ok (.aload_n 2, 1) := by decide +kernel
theorem dL_law_303 : decode cL_law 303 = .ok (.aload_n 0, 1) := by decide +kernel
theorem dL_law_304 : decode cL_law 304 = .ok (.iload_n 3, 1) := by decide +kernel
theorem dL_law_305 : decode cL_law 305 = .ok (.iconst 1, 1) := by decide +kernel
theorem dL_law_306 : decode cL_law 306 = .ok (.iadd, 1) := by decide +kernel
theorem dL_law_307 : decode cL_law 307 = .ok (.iaload, 1) := by decide +kernel
theorem dL_law_308 : decode cL_law 308 = .ok (.aload_n 0, 1) := by decide +kernel
theorem dL_law_309 : decode cL_law 309 = .ok (.iload_n 3, 1) := by decide +kernel
theorem dL_law_310 : decode cL_law 310 = .ok (.iconst 2, 1) := by decide +kernel
theorem dL_law_311 : decode cL_law 311 = .ok (.iadd, 1) := by decide +kernel
theorem dL_law_312 : decode cL_law 312 = .ok (.iaload, 1) := by decide +kernel
theorem dL_law_313 : decode cL_law 313 = .ok (.ifCond .eq 7, 3) := by decide +kernel
theorem dL_law_316 : decode cL_law 316 = .ok (.iconst 1, 1) := by decide +kernel
theorem dL_law_317 : decode cL_law 317 = .ok (.goto 4, 3) := by decide +kernel
theorem dL_law_320 : decode cL_law 320 = .ok (.iconst 0, 1) := by decide +kernel
theorem dL_law_321 : decode cL_law 321 = .ok (.invokevirtual 36, 3) := by decide +kernel
theorem dL_law_324 : decode cL_law 324 = .ok (.if_icmp .eq 446, 3) := by decide +kernel
theorem dL_law_327 : decode cL_law 327 = .ok (.iconst 0, 1) := by decide +kernel
theorem dL_law_328 : decode cL_law 328 = .ok (.ireturn, 1) := by decide +kernel
theorem dL_law_329 : decode cL_law 329 = .ok (.aload_n 1, 1) := by decide +kernel
theorem dL_law_330 : decode cL_law 330 = .ok (.aload_n 0, 1) := by decide +kernel
theorem dL_law_331 : decode cL_law 331 = .ok (.iload_n 3, 1) := by decide +kernel
theorem dL_law_332 : decode cL_law 332 = .ok (.iconst 1, 1) := by decide +kernel
theorem dL_law_333 : decode cL_law 333 = .ok (.iadd, 1) := by decide +kernel
theorem dL_law_334 : decode cL_law 334 = .ok (.iaload, 1) := by decide +kernel
theorem dL_law_335 : decode cL_law 335 = .ok (.invokevirtual 37, 3) := by decide +kernel
theorem dL_law_338 : decode cL_law 338 = .ok (.aload_n 2, 1) := by decide +kernel
theorem dL_law_339 : decode cL_law 339 = .ok (.aload_n 0, 1) := by decide +kernel
theorem dL_law_340 : decode cL_law 340 = .ok (.iload_n 3, 1) := by decide +kernel
theorem dL_law_341 : decode cL_law 341 = .ok (.iconst 1, 1) := by decide +kernel
theorem dL_law_342 : decode cL_law 342 = .ok (.iadd, 1) := by decide +kernel
theorem dL_law_343 : decode cL_law 343 = .ok (.iaload, 1) := by decide +kernel
theorem dL_law_344 : decode cL_law 344 = .ok (.invokevirtual 40, 3) := by decide +kernel
theorem dL_law_347 : decode cL_law 347 = .ok (.if_icmp .eq 423, 3) := by decide +kernel
theorem dL_law_350 : decode cL_law 350 = .ok (.iconst 0, 1) := by decide +kernel
theorem dL_law_351 : decode cL_law 351 = .ok (.ireturn, 1) := by decide +kernel
theorem dL_law_352 : decode cL_law 352 = .ok (.aload_n 1, 1) := by decide +kernel
theorem dL_law_353 : decode cL_law 353 = .ok (.invokevirtual 41, 3) := by decide +kernel
theorem dL_law_356 : decode cL_law 356 = .ok (.aload_n 2, 1) := by decide +kernel
theorem dL_law_357 : decode cL_law 357 = .ok (.invokevirtual 44, 3) := by decide +kernel
theorem dL_law_360 : decode cL_law 360 = .ok (.if_icmp .eq 410, 3) := by decide +kernel
theorem dL_law_363 : decode cL_law 363 = .ok (.iconst 0, 1) := by decide +kernel
theorem dL_law_364 : decode cL_law 364 = .ok (.ireturn, 1) := by decide +kernel
theorem dL_law_365 : decode cL_law 365 = .ok (.aload_n 1, 1) := by decide +kernel
theorem dL_law_366 : decode cL_law 366 = .ok (.aload_n 0, 1) := by decide +kernel
theorem dL_law_367 : decode cL_law 367 = .ok (.iload_n 3, 1) := by decide +kernel
theorem dL_law_368 : decode cL_law 368 = .ok (.iconst 1, 1) := by decide +kernel
theorem dL_law_369 : decode cL_law 369 = .ok (.iadd, 1) := by decide +kernel
theorem dL_law_370 : decode cL_law 370 = .ok (.iaload, 1) := by decide +kernel
theorem dL_law_371 : decode cL_law 371 = .ok (.aload_n 0, 1) := by decide +kernel
theorem dL_law_372 : decode cL_law 372 = .ok (.iload_n 3, 1) := by decide +kernel
theorem dL_law_373 : decode cL_law 373 = .ok (.iconst 2, 1) := by decide +kernel
theorem dL_law_374 : decode cL_law 374 = .ok (.iadd, 1) := by decide +kernel
theorem dL_law_375 : decode cL_law 375 = .ok (.iaload, 1) := by decide +kernel
theorem dL_law_376 : decode cL_law 376 = .ok (.invokevirtual 45, 3) := by decide +kernel
theorem dL_law_379 : decode cL_law 379 = .ok (.aload_n 2, 1) := by decide +kernel
theorem dL_law_380 : decode cL_law 380 = .ok (.aload_n 0, 1) := by decide +kernel
theorem dL_law_381 : decode cL_law 381 = .ok (.iload_n 3, 1) := by decide +kernel
theorem dL_law_382 : decode cL_law 382 = .ok (.iconst 1, 1) := by decide +kernel
theorem dL_law_383 : decode cL_law 383 = .ok (.iadd, 1) := by decide +kernel
theorem dL_law_384 : decode cL_law 384 = .ok (.iaload, 1) := by decide +kernel
theorem dL_law_385 : decode cL_law 385 = .ok (.aload_n 0, 1) := by decide +kernel
theorem dL_law_386 : decode cL_law 386 = .ok (.iload_n 3, 1) := by decide +kernel
theorem dL_law_387 : decode cL_law 387 = .ok (.iconst 2, 1) := by decide +kernel
theorem dL_law_388 : decode cL_law 388 = .ok (.iadd, 1) := by decide +kernel
theorem dL_law_389 : decode cL_law 389 = .ok (.iaload, 1) := by decide +kernel
theorem dL_law_390 : decode cL_law 390 = .ok (.invokevirtual 49, 3) := by decide +kernel
theorem dL_law_393 : decode cL_law 393 = .ok (.if_icmp .eq 377, 3) := by decide +kernel
theorem dL_law_396 : decode cL_law 396 = .ok (.iconst 0, 1) := by decide +kernel
theorem dL_law_397 : decode cL_law 397 = .ok (.ireturn, 1) := by decide +kernel
theorem dL_law_398 : decode cL_law 398 = .ok (.aload_n 1, 1) := by decide +kernel
theorem dL_law_399 : decode cL_law 399 = .ok (.aload_n 0, 1) := by decide +kernel
theorem dL_law_400 : decode cL_law 400 = .ok (.iload_n 3, 1) := by decide +kernel
theorem dL_law_401 : decode cL_law 401 = .ok (.iconst 1, 1) := by decide +kernel
theorem dL_law_402 : decode cL_law 402 = .ok (.iadd, 1) := by decide +kernel
theorem dL_law_403 : decode cL_law 403 = .ok (.iaload, 1) := by decide +kernel
theorem dL_law_404 : decode cL_law 404 = .ok (.aload_n 0, 1) := by decide +kernel
theorem dL_law_405 : decode cL_law 405 = .ok (.iload_n 3, 1) := by decide +kernel
theorem dL_law_406 : decode cL_law 406 = .ok (.iconst 2, 1) := by decide +kernel
theorem dL_law_407 : decode cL_law 407 = .ok (.iadd, 1) := by decide +kernel
theorem dL_law_408 : decode cL_law 408 = .ok (.iaload, 1) := by decide +kernel
theorem dL_law_409 : decode cL_law 409 = .ok (.aload_n 0, 1) := by decide +kernel
theorem dL_law_410 : decode cL_law 410 = .ok (.iload_n 3, 1) := by decide +kernel
theorem dL_law_411 : decode cL_law 411 = .ok (.iconst 3, 1) := by decide +kernel
theorem dL_law_412 : decode cL_law 412 = .ok (.iadd, 1) := by decide +kernel
theorem dL_law_413 : decode cL_law 413 = .ok (.iaload, 1) := by decide +kernel
theorem dL_law_414 : decode cL_law 414 = .ok (.invokevirtual 50, 3) := by decide +kernel
theorem dL_law_417 : decode cL_law 417 = .ok (.aload_n 2, 1) := by decide +kernel
theorem dL_law_418 : decode cL_law 418 = .ok (.aload_n 0, 1) := by decide +kernel
theorem dL_law_419 : decode cL_law 419 = .ok (.iload_n 3, 1) := by decide +kernel
theorem dL_law_420 : decode cL_law 420 = .ok (.iconst 1, 1) := by decide +kernel
theorem dL_law_421 : decode cL_law 421 = .ok (.iadd, 1) := by decide +kernel
theorem dL_law_422 : decode cL_law 422 = .ok (.iaload, 1) := by decide +kernel
theorem dL_law_423 : decode cL_law 423 = .ok (.aload_n 0, 1) := by decide +kernel
theorem dL_law_424 : decode cL_law 424 = .ok (.iload_n 3, 1) := by decide +kernel
theorem dL_law_425 : decode cL_law 425 = .ok (.iconst 2, 1) := by decide +kernel
theorem dL_law_426 : decode cL_law 426 = .ok (.iadd, 1) := by decide +kernel
theorem dL_law_427 : decode cL_law 427 = .ok (.iaload, 1) := by decide +kernel
theorem dL_law_428 : decode cL_law 428 = .ok (.aload_n 0, 1) := by decide +kernel
theorem dL_law_429 : decode cL_law 429 = .ok (.iload_n 3, 1) := by decide +kernel
theorem dL_law_430 : decode cL_law 430 = .ok (.iconst 3, 1) := by decide +kernel
theorem dL_law_431 : decode cL_law 431 = .ok (.iadd, 1) := by decide +kernel
theorem dL_law_432 : decode cL_law 432 = .ok (.iaload, 1) := by decide +kernel
theorem dL_law_433 : decode cL_law 433 = .ok (.invokevirtual 54, 3) := by decide +kernel
theorem dL_law_436 : decode cL_law 436 = .ok (.if_icmp .eq 334, 3) := by decide +kernel
theorem dL_law_439 : decode cL_law 439 = .ok (.iconst 0, 1) := by decide +kernel
theorem dL_law_440 : decode cL_law 440 = .ok (.ireturn, 1) := by decide +kernel
theorem dL_law_441 : decode cL_law 441 = .ok (.aload_n 1, 1) := by decide +kernel
theorem dL_law_442 : decode cL_law 442 = .ok (.aload_n 0, 1) := by decide +kernel
theorem dL_law_443 : decode cL_law 443 = .ok (.iload_n 3, 1) := by decide +kernel
theorem dL_law_444 : decode cL_law 444 = .ok (.iconst 1, 1) := by decide +kernel
theorem dL_law_445 : decode cL_law 445 = .ok (.iadd, 1) := by decide +kernel
theorem dL_law_446 : decode cL_law 446 = .ok (.iaload, 1) := by decide +kernel
theorem dL_law_447 : decode cL_law 447 = .ok (.invokevirtual 55, 3) := by decide +kernel
theorem dL_law_450 : decode cL_law 450 = .ok (.aload_n 2, 1) := by decide +kernel
theorem dL_law_451 : decode cL_law 451 = .ok (.aload_n 0, 1) := by decide +kernel
theorem dL_law_452 : decode cL_law 452 = .ok (.iload_n 3, 1) := by decide +kernel
theorem dL_law_453 : decode cL_law 453 = .ok (.iconst 1, 1) := by decide +kernel
theorem dL_law_454 : decode cL_law 454 = .ok (.iadd, 1) := by decide +kernel
theorem dL_law_455 : decode cL_law 455 = .ok (.iaload, 1) := by decide +kernel
theorem dL_law_456 : decode cL_law 456 = .ok (.invokevirtual 58, 3) := by decide +kernel
theorem dL_law_459 : decode cL_law 459 = .ok (.if_icmp .eq 311, 3) := by decide +kernel
theorem dL_law_462 : decode cL_law 462 = .ok (.iconst 0, 1) := by decide +kernel
theorem dL_law_463 : decode cL_law 463 = .ok (.ireturn, 1) := by decide +kernel
theorem dL_law_464 : decode cL_law 464 = .ok (.aload_n 1, 1) := by decide +kernel
theorem dL_law_465 : decode cL_law 465 = .ok (.aload_n 0, 1) := by decide +kernel
theorem dL_law_466 : decode cL_law 466 = .ok (.iload_n 3, 1) := by decide +kernel
theorem dL_law_467 : decode cL_law 467 = .ok (.iconst 1, 1) := by decide +kernel
theorem dL_law_468 : decode cL_law 468 = .ok (.iadd, 1) := by decide +kernel
theorem dL_law_469 : decode cL_law 469 = .ok (.iaload, 1) := by decide +kernel
theorem dL_law_470 : decode cL_law 470 = .ok (.aload_n 0, 1) := by decide +kernel
theorem dL_law_471 : decode cL_law 471 = .ok (.iload_n 3, 1) := by decide +kernel
theorem dL_law_472 : decode cL_law 472 = .ok (.iconst 2, 1) := by decide +kernel
theorem dL_law_473 : decode cL_law 473 = .ok (.iadd, 1) := by decide +kernel
theorem dL_law_474 : decode cL_law 474 = .ok (.iaload, 1) := by decide +kernel
theorem dL_law_475 : decode cL_law 475 = .ok (.invokevirtual 59, 3) := by decide +kernel
theorem dL_law_478 : decode cL_law 478 = .ok (.aload_n 2, 1) := by decide +kernel
theorem dL_law_479 : decode cL_law 479 = .ok (.aload_n 0, 1) := by decide +kernel
theorem dL_law_480 : decode cL_law 480 = .ok (.iload_n 3, 1) := by decide +kernel
theorem dL_law_481 : decode cL_law 481 = .ok (.iconst 1, 1) := by decide +kernel
theorem dL_law_482 : decode cL_law 482 = .ok (.iadd, 1) := by decide +kernel
theorem dL_law_483 : decode cL_law 483 = .ok (.iaload, 1) := by decide +kernel
theorem dL_law_484 : decode cL_law 484 = .ok (.aload_n 0, 1) := by decide +kernel
theorem dL_law_485 : decode cL_law 485 = .ok (.iload_n 3, 1) := by decide +kernel
theorem dL_law_486 : decode cL_law 486 = .ok (.iconst 2, 1) := by decide +kernel
theorem dL_law_487 : decode cL_law 487 = .ok (.iadd, 1) := by decide +kernel
theorem dL_law_488 : decode cL_law 488 = .ok (.iaload, 1) := by decide +kernel
theorem dL_law_489 : decode cL_law 489 = .ok (.invokevirtual 62, 3) := by decide +kernel
theorem dL_law_492 : decode cL_law 492 = .ok (.if_icmp .eq 278, 3) := by decide +kernel
theorem dL_law_495 : decode cL_law 495 = .ok (.iconst 0, 1) := by decide +kernel
theorem dL_law_496 : decode cL_law 496 = .ok (.ireturn, 1) := by decide +kernel
theorem dL_law_497 : decode cL_law 497 = .ok (.aload_n 1, 1) := by decide +kernel
theorem dL_law_498 : decode cL_law 498 = .ok (.aload_n 0, 1) := by decide +kernel
theorem dL_law_499 : decode cL_law 499 = .ok (.iload_n 3, 1) := by decide +kernel
theorem dL_law_500 : decode cL_law 500 = .ok (.iconst 1, 1) := by decide +kernel
theorem dL_law_501 : decode cL_law 501 = .ok (.iadd, 1) := by decide +kernel
theorem dL_law_502 : decode cL_law 502 = .ok (.iaload, 1) := by decide +kernel
theorem dL_law_503 : decode cL_law 503 = .ok (.aload_n 0, 1) := by decide +kernel
theorem dL_law_504 : decode cL_law 504 = .ok (.iload_n 3, 1) := by decide +kernel
theorem dL_law_505 : decode cL_law 505 = .ok (.iconst 2, 1) := by decide +kernel
theorem dL_law_506 : decode cL_law 506 = .ok (.iadd, 1) := by decide +kernel
theorem dL_law_507 : decode cL_law 507 = .ok (.iaload, 1) := by decide +kernel
theorem dL_law_508 : decode cL_law 508 = .ok (.invokevirtual 63, 3) := by decide +kernel
theorem dL_law_511 : decode cL_law 511 = .ok (.aload_n 2, 1) := by decide +kernel
theorem dL_law_512 : decode cL_law 512 = .ok (.aload_n 0, 1) := by decide +kernel
theorem dL_law_513 : decode cL_law 513 = .ok (.iload_n 3, 1) := by decide +kernel
theorem dL_law_514 : decode cL_law 514 = .ok (.iconst 1, 1) := by decide +kernel
theorem dL_law_515 : decode cL_law 515 = .ok (.iadd, 1) := by decide +kernel
theorem dL_law_516 : decode cL_law 516 = .ok (.iaload, 1) := by decide +kernel
theorem dL_law_517 : decode cL_law 517 = .ok (.aload_n 0, 1) := by decide +kernel
theorem dL_law_518 : decode cL_law 518 = .ok (.iload_n 3, 1) := by decide +kernel
theorem dL_law_519 : decode cL_law 519 = .ok (.iconst 2, 1) := by decide +kernel
theorem dL_law_520 : decode cL_law 520 = .ok (.iadd, 1) := by decide +kernel
theorem dL_law_521 : decode cL_law 521 = .ok (.iaload, 1) := by decide +kernel
theorem dL_law_522 : decode cL_law 522 = .ok (.invokevirtual 66, 3) := by decide +kernel
theorem dL_law_525 : decode cL_law 525 = .ok (.if_icmp .eq 245, 3) := by decide +kernel
theorem dL_law_528 : decode cL_law 528 = .ok (.iconst 0, 1) := by decide +kernel
theorem dL_law_529 : decode cL_law 529 = .ok (.ireturn, 1) := by decide +kernel
theorem dL_law_530 : decode cL_law 530 = .ok (.aload_n 1, 1) := by decide +kernel
theorem dL_law_531 : decode cL_law 531 = .ok (.aload_n 0, 1) := by decide +kernel
theorem dL_law_532 : decode cL_law 532 = .ok (.iload_n 3, 1) := by decide +kernel
theorem dL_law_533 : decode cL_law 533 = .ok (.iconst 1, 1) := by decide +kernel
theorem dL_law_534 : decode cL_law 534 = .ok (.iadd, 1) := by decide +kernel
theorem dL_law_535 : decode cL_law 535 = .ok (.iaload, 1) := by decide +kernel
theorem dL_law_536 : decode cL_law 536 = .ok (.invokevirtual 67, 3) := by decide +kernel
theorem dL_law_539 : decode cL_law 539 = .ok (.aload_n 2, 1) := by decide +kernel
theorem dL_law_540 : decode cL_law 540 = .ok (.aload_n 0, 1) := by decide +kernel
theorem dL_law_541 : decode cL_law 541 = .ok (.iload_n 3, 1) := by decide +kernel
theorem dL_law_542 : decode cL_law 542 = .ok (.iconst 1, 1) := by decide +kernel
theorem dL_law_543 : decode cL_law 543 = .ok (.iadd, 1) := by decide +kernel
theorem dL_law_544 : decode cL_law 544 = .ok (.iaload, 1) := by decide +kernel
theorem dL_law_545 : decode cL_law 545 = .ok (.invokevirtual 70, 3) := by decide +kernel
theorem dL_law_548 : decode cL_law 548 = .ok (.if_icmp .eq 222, 3) := by decide +kernel
theorem dL_law_551 : decode cL_law 551 = .ok (.iconst 0, 1) := by decide +kernel
theorem dL_law_552 : decode cL_law 552 = .ok (.ireturn, 1) := by decide +kernel
theorem dL_law_553 : decode cL_law 553 = .ok (.aload_n 1, 1) := by decide +kernel
theorem dL_law_554 : decode cL_law 554 = .ok (.aload_n 0, 1) := by decide +kernel
theorem dL_law_555 : decode cL_law 555 = .ok (.iload_n 3, 1) := by decide +kernel
theorem dL_law_556 : decode cL_law 556 = .ok (.iconst 1, 1) := by decide +kernel
theorem dL_law_557 : decode cL_law 557 = .ok (.iadd, 1) := by decide +kernel
theorem dL_law_558 : decode cL_law 558 = .ok (.iaload, 1) := by decide +kernel
theorem dL_law_559 : decode cL_law 559 = .ok (.aload_n 0, 1) := by decide +kernel
theorem dL_law_560 : decode cL_law 560 = .ok (.iload_n 3, 1) := by decide +kernel
theorem dL_law_561 : decode cL_law 561 = .ok (.iconst 2, 1) := by decide +kernel
theorem dL_law_562 : decode cL_law 562 = .ok (.iadd, 1) := by decide +kernel
theorem dL_law_563 : decode cL_law 563 = .ok (.iaload, 1) := by decide +kernel
theorem dL_law_564 : decode cL_law 564 = .ok (.invokevirtual 71, 3) := by decide +kernel
theorem dL_law_567 : decode cL_law 567 = .ok (.aload_n 2, 1) := by decide +kernel
theorem dL_law_568 : decode cL_law 568 = .ok (.aload_n 0, 1) := by decide +kernel
theorem dL_law_569 : decode cL_law 569 = .ok (.iload_n 3, 1) := by decide +kernel
theorem dL_law_570 : decode cL_law 570 = .ok (.iconst 1, 1) := by decide +kernel
theorem dL_law_571 : decode cL_law 571 = .ok (.iadd, 1) := by decide +kernel
theorem dL_law_572 : decode cL_law 572 = .ok (.iaload, 1) := by decide +kernel
theorem dL_law_573 : decode cL_law 573 = .ok (.aload_n 0, 1) := by decide +kernel
theorem dL_law_574 : decode cL_law 574 = .ok (.iload_n 3, 1) := by decide +kernel
theorem dL_law_575 : decode cL_law 575 = .ok (.iconst 2, 1) := by decide +kernel
theorem dL_law_576 : decode cL_law 576 = .ok (.iadd, 1) := by decide +kernel
theorem dL_law_577 : decode cL_law 577 = .ok (.iaload, 1) := by decide +kernel
theorem dL_law_578 : decode cL_law 578 = .ok (.invokevirtual 74, 3) := by decide +kernel
theorem dL_law_581 : decode cL_law 581 = .ok (.if_icmp .eq 189, 3) := by decide +kernel
theorem dL_law_584 : decode cL_law 584 = .ok (.iconst 0, 1) := by decide +kernel
theorem dL_law_585 : decode cL_law 585 = .ok (.ireturn, 1) := by decide +kernel
theorem dL_law_586 : decode cL_law 586 = .ok (.aload_n 1, 1) := by decide +kernel
theorem dL_law_587 : decode cL_law 587 = .ok (.aload_n 0, 1) := by decide +kernel
theorem dL_law_588 : decode cL_law 588 = .ok (.iload_n 3, 1) := by decide +kernel
theorem dL_law_589 : decode cL_law 589 = .ok (.iconst 1, 1) := by decide +kernel
theorem dL_law_590 : decode cL_law 590 = .ok (.iadd, 1) := by decide +kernel
theorem dL_law_591 : decode cL_law 591 = .ok (.iaload, 1) := by decide +kernel
theorem dL_law_592 : decode cL_law 592 = .ok (.invokevirtual 75, 3) := by decide +kernel
theorem dL_law_595 : decode cL_law 595 = .ok (.aload_n 2, 1) := by decide +kernel
theorem dL_law_596 : decode cL_law 596 = .ok (.aload_n 0, 1) := by decide +kernel
theorem dL_law_597 : decode cL_law 597 = .ok (.iload_n 3, 1) := by decide +kernel
theorem dL_law_598 : decode cL_law 598 = .ok (.iconst 1, 1) := by decide +kernel
theorem dL_law_599 : decode cL_law 599 = .ok (.iadd, 1) := by decide +kernel
theorem dL_law_600 : decode cL_law 600 = .ok (.iaload, 1) := by decide +kernel
theorem dL_law_601 : decode cL_law 601 = .ok (.invokevirtual 78, 3) := by decide +kernel
theorem dL_law_604 : decode cL_law 604 = .ok (.if_icmp .eq 166, 3) := by decide +kernel
theorem dL_law_607 : decode cL_law 607 = .ok (.iconst 0, 1) := by decide +kernel
theorem dL_law_608 : decode cL_law 608 = .ok (.ireturn, 1) := by decide +kernel
theorem dL_law_609 : decode cL_law 609 = .ok (.aload_n 1, 1) := by decide +kernel
theorem dL_law_610 : decode cL_law 610 = .ok (.aload_n 0, 1) := by decide +kernel
theorem dL_law_611 : decode cL_law 611 = .ok (.iload_n 3, 1) := by decide +kernel
theorem dL_law_612 : decode cL_law 612 = .ok (.iconst 1, 1) := by decide +kernel
theorem dL_law_613 : decode cL_law 613 = .ok (.iadd, 1) := by decide +kernel
theorem dL_law_614 : decode cL_law 614 = .ok (.iaload, 1) := by decide +kernel
theorem dL_law_615 : decode cL_law 615 = .ok (.invokevirtual 79, 3) := by decide +kernel
theorem dL_law_618 : decode cL_law 618 = .ok (.aload_n 2, 1) := by decide +kernel
theorem dL_law_619 : decode cL_law 619 = .ok (.aload_n 0, 1) := by decide +kernel
theorem dL_law_620 : decode cL_law 620 = .ok (.iload_n 3, 1) := by decide +kernel
theorem dL_law_621 : decode cL_law 621 = .ok (.iconst 1, 1) := by decide +kernel
theorem dL_law_622 : decode cL_law 622 = .ok (.iadd, 1) := by decide +kernel
theorem dL_law_623 : decode cL_law 623 = .ok (.iaload, 1) := by decide +kernel
theorem dL_law_624 : decode cL_law 624 = .ok (.invokevirtual 82, 3) := by decide +kernel
theorem dL_law_627 : decode cL_law 627 = .ok (.if_icmp .eq 143, 3) := by decide +kernel
theorem dL_law_630 : decode cL_law 630 = .ok (.iconst 0, 1) := by decide +kernel
theorem dL_law_631 : decode cL_law 631 = .ok (.ireturn, 1) := by decide +kernel
theorem dL_law_632 : decode cL_law 632 = .ok (.aload_n 1, 1) := by decide +kernel
theorem dL_law_633 : decode cL_law 633 = .ok (.aload_n 0, 1) := by decide +kernel
theorem dL_law_634 : decode cL_law 634 = .ok (.iload_n 3, 1) := by decide +kernel
theorem dL_law_635 : decode cL_law 635 = .ok (.iconst 1, 1) := by decide +kernel
theorem dL_law_636 : decode cL_law 636 = .ok (.iadd, 1) := by decide +kernel
theorem dL_law_637 : decode cL_law 637 = .ok (.iaload, 1) := by decide +kernel
theorem dL_law_638 : decode cL_law 638 = .ok (.i2l, 1) := by decide +kernel
theorem dL_law_639 : decode cL_law 639 = .ok (.bipush 32, 2) := by decide +kernel
theorem dL_law_641 : decode cL_law 641 = .ok (.lshl, 1) := by decide +kernel
theorem dL_law_642 : decode cL_law 642 = .ok (.aload_n 0, 1) := by decide +kernel
theorem dL_law_643 : decode cL_law 643 = .ok (.iload_n 3, 1) := by decide +kernel
theorem dL_law_644 : decode cL_law 644 = .ok (.iconst 2, 1) := by decide +kernel
theorem dL_law_645 : decode cL_law 645 = .ok (.iadd, 1) := by decide +kernel
theorem dL_law_646 : decode cL_law 646 = .ok (.iaload, 1) := by decide +kernel
theorem dL_law_647 : decode cL_law 647 = .ok (.i2l, 1) := by decide +kernel
theorem dL_law_648 : decode cL_law 648 = .ok (.ldc2_w 83, 3) := by decide +kernel
theorem dL_law_651 : decode cL_law 651 = .ok (.land, 1) := by decide +kernel
theorem dL_law_652 : decode cL_law 652 = .ok (.lor, 1) := by decide +kernel
theorem dL_law_653 : decode cL_law 653 = .ok (.invokevirtual 85, 3) := by decide +kernel
theorem dL_law_656 : decode cL_law 656 = .ok (.aload_n 2, 1) := by decide +kernel
theorem dL_law_657 : decode cL_law 657 = .ok (.aload_n 0, 1) := by decide +kernel
theorem dL_law_658 : decode cL_law 658 = .ok (.iload_n 3, 1) := by decide +kernel
theorem dL_law_659 : decode cL_law 659 = .ok (.iconst 1, 1) := by decide +kernel
theorem dL_law_660 : decode cL_law 660 = .ok (.iadd, 1) := by decide +kernel
theorem dL_law_661 : decode cL_law 661 = .ok (.iaload, 1) := by decide +kernel
theorem dL_law_662 : decode cL_law 662 = .ok (.i2l, 1) := by decide +kernel
theorem dL_law_663 : decode cL_law 663 = .ok (.bipush 32, 2) := by decide +kernel
theorem dL_law_665 : decode cL_law 665 = .ok (.lshl, 1) := by decide +kernel
theorem dL_law_666 : decode cL_law 666 = .ok (.aload_n 0, 1) := by decide +kernel
theorem dL_law_667 : decode cL_law 667 = .ok (.iload_n 3, 1) := by decide +kernel
theorem dL_law_668 : decode cL_law 668 = .ok (.iconst 2, 1) := by decide +kernel
theorem dL_law_669 : decode cL_law 669 = .ok (.iadd, 1) := by decide +kernel
theorem dL_law_670 : decode cL_law 670 = .ok (.iaload, 1) := by decide +kernel
theorem dL_law_671 : decode cL_law 671 = .ok (.i2l, 1) := by decide +kernel
theorem dL_law_672 : decode cL_law 672 = .ok (.ldc2_w 83, 3) := by decide +kernel
theorem dL_law_675 : decode cL_law 675 = .ok (.land, 1) := by decide +kernel
theorem dL_law_676 : decode cL_law 676 = .ok (.lor, 1) := by decide +kernel
theorem dL_law_677 : decode cL_law 677 = .ok (.invokevirtual 89, 3) := by decide +kernel
theorem dL_law_680 : decode cL_law 680 = .ok (.if_icmp .eq 90, 3) := by decide +kernel
theorem dL_law_683 : decode cL_law 683 = .ok (.iconst 0, 1) := by decide +kernel
theorem dL_law_684 : decode cL_law 684 = .ok (.ireturn, 1) := by decide +kernel
theorem dL_law_685 : decode cL_law 685 = .ok (.aload_n 1, 1) := by decide +kernel
theorem dL_law_686 : decode cL_law 686 = .ok (.invokevirtual 90, 3) := by decide +kernel
theorem dL_law_689 : decode cL_law 689 = .ok (.aload_n 2, 1) := by decide +kernel
theorem dL_law_690 : decode cL_law 690 = .ok (.invokevirtual 93, 3) := by decide +kernel
theorem dL_law_693 : decode cL_law 693 = .ok (.if_icmp .eq 77, 3) := by decide +kernel
theorem dL_law_696 : decode cL_law 696 = .ok (.iconst 0, 1) := by decide +kernel
theorem dL_law_697 : decode cL_law 697 = .ok (.ireturn, 1) := by decide +kernel
theorem dL_law_698 : decode cL_law 698 = .ok (.aload_n 1, 1) := by decide +kernel
theorem dL_law_699 : decode cL_law 699 = .ok (.invokevirtual 94, 3) := by decide +kernel
theorem dL_law_702 : decode cL_law 702 = .ok (.aload_n 2, 1) := by decide +kernel
theorem dL_law_703 : decode cL_law 703 = .ok (.invokevirtual 97, 3) := by decide +kernel
theorem dL_law_706 : decode cL_law 706 = .ok (.if_icmp .eq 64, 3) := by decide +kernel
theorem dL_law_709 : decode cL_law 709 = .ok (.iconst 0, 1) := by decide +kernel
theorem dL_law_710 : decode cL_law 710 = .ok (.ireturn, 1) := by decide +kernel
theorem dL_law_711 : decode cL_law 711 = .ok (.aload_n 1, 1) := by decide +kernel
theorem dL_law_712 : decode cL_law 712 = .ok (.invokevirtual 98, 3) := by decide +kernel
theorem dL_law_715 : decode cL_law 715 = .ok (.aload_n 2, 1) := by decide +kernel
theorem dL_law_716 : decode cL_law 716 = .ok (.invokevirtual 101, 3) := by decide +kernel
theorem dL_law_719 : decode cL_law 719 = .ok (.if_icmp .eq 51, 3) := by decide +kernel
theorem dL_law_722 : decode cL_law 722 = .ok (.iconst 0, 1) := by decide +kernel
theorem dL_law_723 : decode cL_law 723 = .ok (.ireturn, 1) := by decide +kernel
theorem dL_law_724 : decode cL_law 724 = .ok (.aload_n 1, 1) := by decide +kernel
theorem dL_law_725 : decode cL_law 725 = .ok (.aload_n 0, 1) := by decide +kernel
theorem dL_law_726 : decode cL_law 726 = .ok (.iload_n 3, 1) := by decide +kernel
theorem dL_law_727 : decode cL_law 727 = .ok (.iconst 1, 1) := by decide +kernel
theorem dL_law_728 : decode cL_law 728 = .ok (.iadd, 1) := by decide +kernel
theorem dL_law_729 : decode cL_law 729 = .ok (.iaload, 1) := by decide +kernel
theorem dL_law_730 : decode cL_law 730 = .ok (.invokevirtual 102, 3) := by decide +kernel
theorem dL_law_733 : decode cL_law 733 = .ok (.aload_n 2, 1) := by decide +kernel
theorem dL_law_734 : decode cL_law 734 = .ok (.aload_n 0, 1) := by decide +kernel
theorem dL_law_735 : decode cL_law 735 = .ok (.iload_n 3, 1) := by decide +kernel
theorem dL_law_736 : decode cL_law 736 = .ok (.iconst 1, 1) := by decide +kernel
theorem dL_law_737 : decode cL_law 737 = .ok (.iadd, 1) := by decide +kernel
theorem dL_law_738 : decode cL_law 738 = .ok (.iaload, 1) := by decide +kernel
theorem dL_law_739 : decode cL_law 739 = .ok (.invokevirtual 105, 3) := by decide +kernel
theorem dL_law_742 : decode cL_law 742 = .ok (.if_icmp .eq 28, 3) := by decide +kernel
theorem dL_law_745 : decode cL_law 745 = .ok (.iconst 0, 1) := by decide +kernel
theorem dL_law_746 : decode cL_law 746 = .ok (.ireturn, 1) := by decide +kernel
theorem dL_law_747 : decode cL_law 747 = .ok (.aload_n 1, 1) := by decide +kernel
theorem dL_law_748 : decode cL_law 748 = .ok (.aload_n 0, 1) := by decide +kernel
theorem dL_law_749 : decode cL_law 749 = .ok (.iload_n 3, 1) := by decide +kernel
theorem dL_law_750 : decode cL_law 750 = .ok (.iconst 1, 1) := by decide +kernel
theorem dL_law_751 : decode cL_law 751 = .ok (.iadd, 1) := by decide +kernel
theorem dL_law_752 : decode cL_law 752 = .ok (.iaload, 1) := by decide +kernel
theorem dL_law_753 : decode cL_law 753 = .ok (.invokevirtual 106, 3) := by decide +kernel
theorem dL_law_756 : decode cL_law 756 = .ok (.aload_n 2, 1) := by decide +kernel
theorem dL_law_757 : decode cL_law 757 = .ok (.aload_n 0, 1) := by decide +kernel
theorem dL_law_758 : decode cL_law 758 = .ok (.iload_n 3, 1) := by decide +kernel
theorem dL_law_759 : decode cL_law 759 = .ok (.iconst 1, 1) := by decide +kernel
theorem dL_law_760 : decode cL_law 760 = .ok (.iadd, 1) := by decide +kernel
theorem dL_law_761 : decode cL_law 761 = .ok (.iaload, 1) := by decide +kernel
theorem dL_law_762 : decode cL_law 762 = .ok (.invokevirtual 109, 3) := by decide +kernel
theorem dL_law_765 : decode cL_law 765 = .ok (.if_icmp .eq 5, 3) := by decide +kernel
theorem dL_law_768 : decode cL_law 768 = .ok (.iconst 0, 1) := by decide +kernel
theorem dL_law_769 : decode cL_law 769 = .ok (.ireturn, 1) := by decide +kernel
theorem dL_law_770 : decode cL_law 770 = .ok (.iinc 3 4, 3) := by decide +kernel
theorem dL_law_773 : decode cL_law 773 = .ok (.goto (-755), 3) := by decide +kernel
theorem dL_law_776 : decode cL_law 776 = .ok (.iconst 1, 1) := by decide +kernel
theorem dL_law_777 : decode cL_law 777 = .ok (.ireturn, 1) := by decide +kernel
abbrev vwCl : List vw_C := [(RX0, TX0, 3), (RX1, TX1, 2), (RX2, TX2, 2), (RX3, TX3, 14), (RX4, TX4, 7), (RX5, TX5, 12)]
end
section
/-! CORE: the group of class numbers, contracts of reads and of writes, calls, frames -/
abbrev GG : Type := (Nat → ClassId) × (Nat → Nat → Nat) × ClassId × ClassId × ClassId
abbrev gD (G : GG) : va_G := (G.1, G.2.1)
abbrev gI (G : GG) : ClassId := G.2.2.1
abbrev gZ (G : GG) : ClassId := G.2.2.2.1
abbrev gR (G : GG) : ClassId := G.2.2.2.2
abbrev tyA (G : GG) : List (ClassId × FieldType) := [(gI G, .int), (gZ G, .boolean), (gR G, .object "WeldedRelays$Room")]
abbrev gP (G : GG) (ws : va_W) (H : Heap) : Prop := va_P (gD G) vwCl ws H
def NN : List (String × Nat × MethodName) := [(RX4, 21, yX1_init), (RX4, 28, yX2_init), (RX2, 76, yX4_isWithin), (RX2, 51, yX4_isRelay), (RX3, 65, yX4_placeOf), (RX3, 86, yX4_isIn), (RX1, 19, yX4_isWithin)]
def gK (G : GG) (U : State) : Prop := va_K (gD G) vwCl (tyA G) U ∧ (∀ w ∈ NN, va_Nw (.methodLinkNest w.1 w.2.1 w.2.2 RX4) U) ∧ va_AO "WeldedRelays$Room" U
theorem gK.warm {G : GG} {s U : State} (hW : s.WarmedH U.vm) (h : gK G s) : gK G U := ⟨va_K.moved hW.alike h.1, fun w hw => va_Nw.warmM hW (h.2.1 w hw), va_AO.moved hW.alike h.2.2⟩
theorem gK.calling {G : GG} {U : State} {g : JFrame} {mk : MethodId} {a : Array Value} (h : gK G U) : gK G (U.calling g mk a) := ⟨va_K.moved (u := U) (U := U.calling g mk a) (Vm.Alike.refl U.vm) h.1, fun w hw => va_Nw.same (u := U) (U := U.calling g mk a) rfl rfl (h.2.1 w hw), va_AO.moved (u := U) (U := U.calling g mk a) (Vm.Alike.refl U.vm) h.2.2⟩
/-- which cells a world has -/
def aA (ws : va_W) : Nat → Prop := fun q => q ∈ ws.map (·.1)
def nofree : Addr → Prop := fun _ => False
/-- a method's start: its arguments, a world -/
def pcW (G : GG) (av : List Value) (ws : va_W) : Array Value → State → Prop := va_Pc av (fun U => gP G ws U.heap ∧ gK G U)
def pcM (G : GG) (av : List Value) (ws : va_W) : Array Value → State → Prop := va_Pc av (fun U => gP G ws U.heap ∧ gK G U ∧ va_D (fun _ => True) ws)
/-- the end of a read: the answer, the heap as it was -/
def qRO (r : Value) : Array Value → State → Outcome → State → Prop := fun _ st o t => o = .returned (some r) ∧ t.heap = st.heap
/-- the end of a write: the answer, the world, all else as it was -/
def qMU (G : GG) (rv : Option Value) (ws ws' : va_W) : Array Value → State → Outcome → State → Prop := fun _ st o t => o = .returned rv ∧ gP G ws' t.heap ∧ va_F (aA ws) st t
theorem aA_D {ws : va_W} {A : Nat → Prop} (h : va_D A ws) : va_D (aA ws) ws := ⟨h.1, fun k q hk => List.mem_map.mpr ⟨q, List.mem_of_getElem? hk, rfl⟩⟩
theorem aA_in {A : Nat → Prop} {ws : va_W} (h : va_D A ws) : ∀ q, aA ws q → A q := by
  intro q hq
  obtain ⟨x, hx, rfl⟩ := List.mem_map.mp hq
  obtain ⟨i, hi⟩ := List.getElem?_of_mem hx
  exact h.2 i x hi
theorem va_D_iff {A : Nat → Prop} {ws : va_W} : va_D A ws ↔ (ws.map (·.1)).Nodup ∧ ∀ q ∈ ws, A q.1 := by
  constructor
  · intro h
    refine ⟨?_, fun q hq => ?_⟩
    · rw [List.nodup_iff_pairwise_ne, List.pairwise_iff_getElem]
      intro i j hi hj hij he
      simp only [List.length_map] at hi hj
      simp only [List.getElem_map] at he
      have := h.1 i j _ _ (List.getElem?_eq_getElem hi) (List.getElem?_eq_getElem hj) he
      omega
    · obtain ⟨i, hi⟩ := List.getElem?_of_mem hq
      exact h.2 i q hi
  · intro ⟨h1, h2⟩
    refine ⟨fun i j p q hp hq he => ?_, fun k q hk => h2 q (List.mem_of_getElem? hk)⟩
    rw [List.nodup_iff_pairwise_ne, List.pairwise_iff_getElem] at h1
    obtain ⟨hi, e1⟩ := List.getElem?_eq_some_iff.mp hp
    obtain ⟨hj, e2⟩ := List.getElem?_eq_some_iff.mp hq
    rcases Nat.lt_trichotomy i j with h | h | h
    · exact absurd (by simp [e1, e2, he]) (h1 i j (by simpa using hi) (by simpa using hj) h)
    · exact h
    · exact absurd (by simp [e1, e2, he]) (h1 j i (by simpa using hj) (by simpa using hi) h)
theorem va_D_addr {A : Nat → Prop} {ws ws' : va_W} (h : va_D A ws) (he : ws'.map (·.1) = ws.map (·.1)) : va_D A ws' := by
  obtain ⟨h1, h2⟩ := va_D_iff.mp h
  refine va_D_iff.mpr ⟨by rw [he]; exact h1, fun q hq => ?_⟩
  have : q.1 ∈ ws.map (·.1) := by rw [← he]; exact List.mem_map.mpr ⟨q, hq, rfl⟩
  obtain ⟨x, hx, e⟩ := List.mem_map.mp this
  rw [← e]
  exact h2 x hx
theorem va_P_iff {D : va_G} {cl : List vw_C} {ws : va_W} {H : Heap} : va_P D cl ws H ↔ ∀ q ∈ ws, va_at D cl q H := by
  constructor
  · intro h q hq
    obtain ⟨i, hi⟩ := List.getElem?_of_mem hq
    exact h i q hi
  · intro h k q hk
    exact h q (List.mem_of_getElem? hk)
def b2i (b : Bool) : Int32 := if b = true then 1 else 0
theorem b2i_narrow (b : Bool) : narrow .boolean (.int (b2i b)) = .int (b2i b) := by cases b <;> decide
theorem b2i_1 {b : Bool} (h : ¬ b2i b = 0) : b = true := by cases b <;> simp_all [b2i]
theorem b2i_0 {b : Bool} (h : b2i b = 0) : b = false := by cases b <;> simp_all [b2i]
section CORE
variable {p : Program} {l : Launch} {e : Env} {R : Room} {s : State} {m : MethodId} {args : Array Value} {below : List Frame} {meth : Method} {c : Code} {H : Heap} {locs : List Loc} {cells slots : Nat} {Q : State → Prop}
variable {cc : ByteArray} {pc : Nat} {ls : Array Slot} {rest st0 : List Value} {G : GG} {A0 : Nat → Prop} {H0 : Heap} {wc ws ws' : va_W}
theorem lv_asi {x y : Int32} (h : x = y) (k : W p l e R s m args below meth c H locs cells slots Q (F0 m pc ls (.int y :: rest))) : W p l e R s m args below meth c H locs cells slots Q (F0 m pc ls (.int x :: rest)) := h ▸ k
theorem lv_asl {x y : Int64} (h : x = y) (k : W p l e R s m args below meth c H locs cells slots Q (F0 m pc ls (.long y :: rest))) : W p l e R s m args below meth c H locs cells slots Q (F0 m pc ls (.long x :: rest)) := h ▸ k
/-- the head of a method that reads -/
theorem hd_RO {y : MethodName} {ws ws' : List Cond} {rm : Room} {r : Value} {cc : ByteArray} {maxL : Nat} {ret : Option FieldType} {av : List Value} (hy : plainName y.cls = true) (hw : ws = Cond.code y cc maxL ret :: ws') (hlen : (lg_sl av).length ≤ maxL)
    (body : ∀ (p : Program) (e : Env) (s : State) (m : MethodId) (below : List Frame) (meth : Method) (c : Code) (ls : Array Slot), p.tables.exec = Jvm.exec → c.code = cc → meth.sig.returnType = ret → (∀ w ∈ ws, w.before av.toArray s = true) → s.vm.findClass y.cls = some m.cls → meth.locks = false → c.maxLocals = maxL → gP G wc s.heap → gK G s → lv_has ls maxL (lv_args 0 av) →
      W p l e rm s m av.toArray below meth c s.heap [] 0 0 (MQ below (qRO r) av.toArray s 0 0 nofree) (F0 m 0 ls [])) : Met l y ws rm (pcW G av wc) (qRO r) 0 0 nofree := by
  refine Met.ofW (cc := cc) (maxL := maxL) (ret := ret) hy hw ?_
  intro p e s m args below meth c s₁ B hml hv
  obtain ⟨rfl, hP, hK⟩ := hv
  have hl := lv_entry av (n := maxL) hlen
  rw [lg_entry_eq]
  exact body p e s m below meth c _ B.exec B.bytes B.returns (atoms_spec (ws := ws) B.pre) (findClass_of_methodNamed B.named) B.notSynchronized hml hP hK hl
/-- the head of a method that writes -/
theorem hd_MU {y : MethodName} {ws ws' : List Cond} {rm : Room} {rv : Option Value} {w1 : va_W} {cc : ByteArray} {maxL : Nat} {ret : Option FieldType} {av : List Value} (hy : plainName y.cls = true) (hw : ws = Cond.code y cc maxL ret :: ws') (hlen : (lg_sl av).length ≤ maxL)
    (body : ∀ (p : Program) (e : Env) (s : State) (m : MethodId) (below : List Frame) (meth : Method) (c : Code) (ls : Array Slot), p.tables.exec = Jvm.exec → c.code = cc → meth.sig.returnType = ret → (∀ w ∈ ws, w.before av.toArray s = true) → s.vm.findClass y.cls = some m.cls → meth.locks = false → c.maxLocals = maxL → gP G wc s.heap → gK G s → va_D (aA wc) wc → va_S (aA wc) s.heap s.heap [] → lv_has ls maxL (lv_args 0 av) →
      W p l e rm s m av.toArray below meth c s.heap [] 0 0 (MQ below (qMU G rv wc w1) av.toArray s 0 0 (aA wc)) (F0 m 0 ls [])) : Met l y ws rm (pcM G av wc) (qMU G rv wc w1) 0 0 (aA wc) := by
  refine Met.ofW (cc := cc) (maxL := maxL) (ret := ret) hy hw ?_
  intro p e s m args below meth c s₁ B hml hv
  obtain ⟨rfl, hP, hK, hD⟩ := hv
  have hl := lv_entry av (n := maxL) hlen
  rw [lg_entry_eq]
  exact body p e s m below meth c _ B.exec B.bytes B.returns (atoms_spec (ws := ws) B.pre) (findClass_of_methodNamed B.named) B.notSynchronized hml hP hK (aA_D hD) va_S.rf hl
theorem pcW_blind {av : List Value} : FrameBlind (pcW G av ws) := fun _ _ _ _ h => ⟨h.1, h.2.1, gK.calling h.2.2⟩
theorem pcM_blind {av : List Value} : FrameBlind (pcM G av ws) := fun _ _ _ _ h => ⟨h.1, h.2.1, gK.calling h.2.2.1, h.2.2.2⟩
/-- a call of a read: nothing moves -/
theorem ro_on {a : Array Value} {r : Value} (hr : va_Run p l e R s m args below meth c H locs cells slots 0 0 (F0 m pc ls st0) rest (qRO r a) nofree)
    (kk : W p l e R s m args below meth c H locs cells slots Q (F0 m (pc + 3) ls (r :: rest))) : W p l e R s m args below meth c H locs cells slots Q (F0 m pc ls st0) := by
  intro T hT X
  obtain ⟨v, st₀, t, T', L, h0, X', hL, e1, e2, ⟨hv, hh⟩, st⟩ := hr T hT X
  cases hv
  obtain ⟨t2, a1, b1⟩ := kk T' (by rw [e1, hh, h0]) (Stand.forget X' (fun q h => (hL q h).elim))
  exact ⟨t2, st t2 a1, b1⟩
variable {y : MethodName} {bytes : ByteArray} {maxL nL n index : Nat} {ret : Option FieldType} {wsy : List Cond} {rm : Room} {Ts : List Cond} {own C host : String} {b : Addr} {As : List Value} {r : Value}
theorem ro_V (S : CallFix p m c cc nL s args Ts own) (hM : Met l y wsy rm (pcW G (.ref b :: As) wc) (qRO r) 0 0 nofree) (cw : CallW R s args own C index y bytes maxL ret wsy rm 0 0 n) (hP : gP G wc H) (hK : gK G s) (hrv : ∃ cell : Cell, H[b]? = some cell ∧ cell.vm.isStatics = false ∧ s.vm.findClass C = some cell.cls)
    (hn : As.length = n) (hsize : ls.size = nL) (hstack : st0 = As.reverse ++ .ref b :: rest) (hW : (rest.map fun v => v.category).sum ≤ 8) (hdg : decode cc pc = .ok (.invokevirtual index, 3)) (hc : cells ≤ R.cells) (hs : slots ≤ R.slots)
    (kk : W p l e R s m args below meth c H locs cells slots Q (F0 m (pc + 3) ls (r :: rest))) : W p l e R s m args below meth c H locs cells slots Q (F0 m pc ls st0) :=
  ro_on (va_runV (g := F0 m pc ls st0) (As := As) (rest := rest) S hM cw ⟨pcW_blind, hrv, fun U hU hW => ⟨rfl, by rw [hU]; exact hP, hK.warm hW⟩⟩ rfl hn hsize hstack (lv_room hW) hdg ⟨hc, hs⟩) kk
theorem ro_S (S : CallFix p m c cc nL s args Ts own) (hM : Met l y wsy rm (pcW G As wc) (qRO r) 0 0 nofree) (cw : CallB R s args own index y bytes maxL ret wsy rm 0 0 n ∧ (Cond.static y).before args s = true) (hP : gP G wc H) (hK : gK G s)
    (hn : As.length = n) (hsize : ls.size = nL) (hstack : st0 = As.reverse ++ rest) (hW : (rest.map fun v => v.category).sum ≤ 8) (hdg : decode cc pc = .ok (.invokestatic index, 3)) (hc : cells ≤ R.cells) (hs : slots ≤ R.slots)
    (kk : W p l e R s m args below meth c H locs cells slots Q (F0 m (pc + 3) ls (r :: rest))) : W p l e R s m args below meth c H locs cells slots Q (F0 m pc ls st0) :=
  ro_on (va_runS (g := F0 m pc ls st0) (As := As) (rest := rest) S hM cw ⟨pcW_blind, fun U hU hW => ⟨rfl, by rw [hU]; exact hP, hK.warm hW⟩⟩ rfl hn hsize hstack (lv_room hW) hdg ⟨hc, hs⟩) kk
theorem ro_SN (S : CallFix p m c cc nL s args Ts own) (hM : Met l y wsy rm (pcW G As wc) (qRO r) 0 0 nofree) (cw : va_CN R s args own index y host bytes maxL ret wsy rm 0 0 n ∧ (Cond.static y).before args s = true ∧ True) (hP : gP G wc H) (hK : gK G s)
    (hn : As.length = n) (hsize : ls.size = nL) (hstack : st0 = As.reverse ++ rest) (hW : (rest.map fun v => v.category).sum ≤ 8) (hdg : decode cc pc = .ok (.invokestatic index, 3)) (hc : cells ≤ R.cells) (hs : slots ≤ R.slots)
    (kk : W p l e R s m args below meth c H locs cells slots Q (F0 m (pc + 3) ls (r :: rest))) : W p l e R s m args below meth c H locs cells slots Q (F0 m pc ls st0) :=
  ro_on (va_runSN (g := F0 m pc ls st0) (As := As) (rest := rest) S hM cw ⟨pcW_blind, fun U hU hW => ⟨rfl, by rw [hU]; exact hP, hK.warm hW⟩⟩ rfl hn hsize hstack (lv_room hW) hdg ⟨hc, hs⟩) kk
/-- behind a call of a write: what isn't the callee's stays -/
theorem mu_on {a : Array Value} {rv : Option Value} {w1 : va_W} (hr : va_Run p l e R s m args below meth c H locs cells slots 0 0 (F0 m pc ls st0) rest (qMU G rv wc w1 a) (aA wc)) (hS : va_S A0 H0 H locs) (hA : ∀ q, aA wc q → A0 q)
    (kk : ∀ (H1 : Heap) (locs1 : List Loc), gP G w1 H1 → (∀ q : Nat, q < H.size → ¬ aA wc q → H1[q]? = H[q]?) → va_S A0 H0 H1 locs1 → W p l e R s m args below meth c H1 locs1 cells slots Q (F0 m (pc + 3) ls (rv.toList ++ rest))) : W p l e R s m args below meth c H locs cells slots Q (F0 m pc ls st0) := by
  intro T hT X
  obtain ⟨v, st₀, t, T', L, h0, X', hL, e1, e2, ⟨hv, hP1, hz, hk⟩, st⟩ := hr T hT X
  cases hv
  rw [h0] at hz hk
  obtain ⟨t2, a1, b1⟩ := kk T'.heap (locs ++ L) (by rw [e1]; exact hP1) (fun q h1 h2 => by rw [e1]; exact hk q h1 h2)
    ⟨Nat.le_trans hS.1 (by rw [e1]; exact hz), fun q h1 h2 => by rw [e1, hk q (Nat.lt_of_lt_of_le h1 hS.1) (fun z => h2 (hA q z))]; exact hS.2.1 q h1 h2, fun q hq => by
      rcases List.mem_append.mp hq with h | h
      · exact hS.2.2 q h
      · exact hA _ (hL q h)⟩ T' rfl X'
  exact ⟨t2, st t2 a1, b1⟩
/-- .. whose world is all of the caller's -/
theorem mu_V {rv : Option Value} {w1 : va_W} (S : CallFix p m c cc nL s args Ts own) (hM : Met l y wsy rm (pcM G (.ref b :: As) wc) (qMU G rv wc w1) 0 0 (aA wc)) (cw : CallW R s args own C index y bytes maxL ret wsy rm 0 0 n) (hP : gP G wc H) (hK : gK G s) (hD : va_D A0 wc) (hS : va_S A0 H0 H locs) (hrv : ∃ cell : Cell, H[b]? = some cell ∧ cell.vm.isStatics = false ∧ s.vm.findClass C = some cell.cls)
    (hn : As.length = n) (hsize : ls.size = nL) (hstack : st0 = As.reverse ++ .ref b :: rest) (hW : (rest.map fun v => v.category).sum ≤ 8) (hdg : decode cc pc = .ok (.invokevirtual index, 3)) (hc : cells ≤ R.cells) (hs : slots ≤ R.slots) (hAd : w1.map (·.1) = wc.map (·.1))
    (kk : ∀ (H1 : Heap) (locs1 : List Loc), gP G w1 H1 → va_D A0 w1 → va_S A0 H0 H1 locs1 → W p l e R s m args below meth c H1 locs1 cells slots Q (F0 m (pc + 3) ls (rv.toList ++ rest))) : W p l e R s m args below meth c H locs cells slots Q (F0 m pc ls st0) :=
  mu_on (va_runV (g := F0 m pc ls st0) (As := As) (rest := rest) S hM cw ⟨pcM_blind, hrv, fun U hU hW => ⟨rfl, by rw [hU]; exact hP, hK.warm hW, hD.weaken (fun _ _ _ _ => trivial)⟩⟩ rfl hn hsize hstack (lv_room hW) hdg ⟨hc, hs⟩) hS (aA_in hD) (fun H1 locs1 h1 _ h3 => kk H1 locs1 h1 (va_D_addr hD hAd) h3)
/-- .. whose world is a part of the caller's: by lists of segments -/
theorem fr_split {A0 : Nat → Prop} {G : GG} {ws wc wr : va_W} (hp : ws.Perm (wc ++ wr)) (hD : va_D A0 ws) : va_D A0 wc ∧ (∀ q ∈ wr, ¬ aA wc q.1) := by
  obtain ⟨h1, h2⟩ := va_D_iff.mp hD
  have h3 : ((wc ++ wr).map (·.1)).Nodup := (hp.map _).nodup_iff.mp h1
  rw [List.map_append, List.nodup_append] at h3
  refine ⟨va_D_iff.mpr ⟨h3.1, fun q hq => h2 q (hp.mem_iff.mpr (List.mem_append_left _ hq))⟩, fun q hq h => ?_⟩
  exact h3.2.2 _ h _ (List.mem_map.mpr ⟨q, hq, rfl⟩) rfl
theorem fr_back {A0 : Nat → Prop} {G : GG} {H H1 : Heap} {ws ws' wc w1 wr : va_W} (hp : ws.Perm (wc ++ wr)) (hp' : ws'.Perm (w1 ++ wr)) (hAd : w1.map (·.1) = wc.map (·.1)) (hP : gP G ws H) (hD : va_D A0 ws) (hP1 : gP G w1 H1) (hk : ∀ q : Nat, q < H.size → ¬ aA wc q → H1[q]? = H[q]?) : gP G ws' H1 ∧ va_D A0 ws' := by
  obtain ⟨-, hd⟩ := fr_split (G := G) hp hD
  refine ⟨va_P_iff.mpr fun q hq => ?_, ?_⟩
  · rcases List.mem_append.mp (hp'.mem_iff.mp hq) with h | h
    · exact va_P_iff.mp hP1 q h
    · have h0 := va_P_iff.mp hP q (hp.mem_iff.mpr (List.mem_append_right _ h))
      exact h0.kept (hk q.1 h0.lt (hd q h))
  · obtain ⟨h1, h2⟩ := va_D_iff.mp hD
    have e : (ws'.map (·.1)).Perm (ws.map (·.1)) := by
      refine (hp'.map _).trans ?_
      rw [List.map_append, hAd, ← List.map_append]
      exact (hp.map _).symm
    refine va_D_iff.mpr ⟨e.nodup_iff.mpr h1, fun q hq => ?_⟩
    obtain ⟨x, hx, e1⟩ := List.mem_map.mp (e.mem_iff.mp (List.mem_map.mpr ⟨q, hq, rfl⟩))
    rw [← e1]
    exact h2 x hx
theorem fr_P {G : GG} {H : Heap} {ws wc wr : va_W} (hp : ws.Perm (wc ++ wr)) (hP : gP G ws H) : gP G wc H := va_P_iff.mpr fun q hq => va_P_iff.mp hP q (hp.mem_iff.mpr (List.mem_append_left _ hq))
theorem mu_VF {rv : Option Value} {w1 wr : va_W} (S : CallFix p m c cc nL s args Ts own) (hM : Met l y wsy rm (pcM G (.ref b :: As) wc) (qMU G rv wc w1) 0 0 (aA wc)) (cw : CallW R s args own C index y bytes maxL ret wsy rm 0 0 n) (hp : ws.Perm (wc ++ wr)) (hp' : ws'.Perm (w1 ++ wr)) (hP : gP G ws H) (hK : gK G s) (hD : va_D A0 ws) (hS : va_S A0 H0 H locs) (hrv : ∃ cell : Cell, H[b]? = some cell ∧ cell.vm.isStatics = false ∧ s.vm.findClass C = some cell.cls)
    (hn : As.length = n) (hsize : ls.size = nL) (hstack : st0 = As.reverse ++ .ref b :: rest) (hW : (rest.map fun v => v.category).sum ≤ 8) (hdg : decode cc pc = .ok (.invokevirtual index, 3)) (hc : cells ≤ R.cells) (hs : slots ≤ R.slots) (hAd : w1.map (·.1) = wc.map (·.1))
    (kk : ∀ (H1 : Heap) (locs1 : List Loc), gP G ws' H1 → va_D A0 ws' → va_S A0 H0 H1 locs1 → W p l e R s m args below meth c H1 locs1 cells slots Q (F0 m (pc + 3) ls (rv.toList ++ rest))) : W p l e R s m args below meth c H locs cells slots Q (F0 m pc ls st0) :=
  have hD1 := (fr_split (G := G) hp hD).1
  mu_on (va_runV (g := F0 m pc ls st0) (As := As) (rest := rest) S hM cw ⟨pcM_blind, hrv, fun U hU hW => ⟨rfl, by rw [hU]; exact fr_P hp hP, hK.warm hW, hD1.weaken (fun _ _ _ _ => trivial)⟩⟩ rfl hn hsize hstack (lv_room hW) hdg ⟨hc, hs⟩) hS (aA_in hD1) (fun H1 locs1 h1 h2 h3 =>
    have h := fr_back hp hp' hAd hP hD h1 h2
    kk H1 locs1 h.1 h.2 h3)
theorem mu_SF {rv : Option Value} {w1 wr : va_W} (S : CallFix p m c cc nL s args Ts own) (hM : Met l y wsy rm (pcM G As wc) (qMU G rv wc w1) 0 0 (aA wc)) (cw : CallB R s args own index y bytes maxL ret wsy rm 0 0 n ∧ (Cond.static y).before args s = true) (hp : ws.Perm (wc ++ wr)) (hp' : ws'.Perm (w1 ++ wr)) (hP : gP G ws H) (hK : gK G s) (hD : va_D A0 ws) (hS : va_S A0 H0 H locs)
    (hn : As.length = n) (hsize : ls.size = nL) (hstack : st0 = As.reverse ++ rest) (hW : (rest.map fun v => v.category).sum ≤ 8) (hdg : decode cc pc = .ok (.invokestatic index, 3)) (hc : cells ≤ R.cells) (hs : slots ≤ R.slots) (hAd : w1.map (·.1) = wc.map (·.1))
    (kk : ∀ (H1 : Heap) (locs1 : List Loc), gP G ws' H1 → va_D A0 ws' → va_S A0 H0 H1 locs1 → W p l e R s m args below meth c H1 locs1 cells slots Q (F0 m (pc + 3) ls (rv.toList ++ rest))) : W p l e R s m args below meth c H locs cells slots Q (F0 m pc ls st0) :=
  have hD1 := (fr_split (G := G) hp hD).1
  mu_on (va_runS (g := F0 m pc ls st0) (As := As) (rest := rest) S hM cw ⟨pcM_blind, fun U hU hW => ⟨rfl, by rw [hU]; exact fr_P hp hP, hK.warm hW, hD1.weaken (fun _ _ _ _ => trivial)⟩⟩ rfl hn hsize hstack (lv_room hW) hdg ⟨hc, hs⟩) hS (aA_in hD1) (fun H1 locs1 h1 h2 h3 =>
    have h := fr_back hp hp' hAd hP hD h1 h2
    kk H1 locs1 h.1 h.2 h3)
/-! ends -/
theorem ex_ROi {x : Int32} {r : Value} (hx : p.tables.exec = Jvm.exec) (hb : c.code = cc) (hr : meth.sig.returnType = some .int) (hlocks : meth.locks = false) (hH : H = s.heap) (hdg : decode cc pc = .ok (.ireturn, 1)) (h : Value.int x = r) : W p l e R s m args below meth c H [] 0 0 (MQ below (qRO r) args s 0 0 nofree) (F0 m pc ls [.int x]) :=
  W.iret hx hb hr (fun t ht _ => ⟨by rw [h], by rw [ht, hH]⟩) (fun _ h => by cases h) hdg hlocks
theorem ex_MUi {x : Int32} {rv : Option Value} {w1 w2 : va_W} (hx : p.tables.exec = Jvm.exec) (hb : c.code = cc) (hr : meth.sig.returnType = some .int) (hlocks : meth.locks = false) (hP : gP G w2 H) (hS : va_S (aA wc) s.heap H locs) (hdg : decode cc pc = .ok (.ireturn, 1)) (h : some (Value.int x) = rv) (hw : gP G w2 H → gP G w1 H) : W p l e R s m args below meth c H locs 0 0 (MQ below (qMU G rv wc w1) args s 0 0 (aA wc)) (F0 m pc ls [.int x]) :=
  W.iret hx hb hr (fun t ht _ => ⟨by rw [h], by rw [ht]; exact hw hP, hS.F ht⟩) hS.2.2 hdg hlocks
theorem ex_ROz {x : Int32} {r : Value} {b : Bool} (hx : p.tables.exec = Jvm.exec) (hb : c.code = cc) (hr : meth.sig.returnType = some .boolean) (hlocks : meth.locks = false) (hH : H = s.heap) (hdg : decode cc pc = .ok (.ireturn, 1)) (h0 : x = b2i b) (h : Value.int (b2i b) = r) : W p l e R s m args below meth c H [] 0 0 (MQ below (qRO r) args s 0 0 nofree) (F0 m pc ls [.int x]) := by
  subst h0
  exact W.zret hx hb hr (b2i_narrow b) (fun t ht _ => ⟨by rw [h], by rw [ht, hH]⟩) (fun _ h => by cases h) hdg hlocks
theorem ex_MUz {x : Int32} {rv : Option Value} {w1 w2 : va_W} {b : Bool} (hx : p.tables.exec = Jvm.exec) (hb : c.code = cc) (hr : meth.sig.returnType = some .boolean) (hlocks : meth.locks = false) (hP : gP G w2 H) (hS : va_S (aA wc) s.heap H locs) (hdg : decode cc pc = .ok (.ireturn, 1)) (h0 : x = b2i b) (h : some (Value.int (b2i b)) = rv) (hw : gP G w2 H → gP G w1 H) : W p l e R s m args below meth c H locs 0 0 (MQ below (qMU G rv wc w1) args s 0 0 (aA wc)) (F0 m pc ls [.int x]) := by
  subst h0
  exact W.zret hx hb hr (b2i_narrow b) (fun t ht _ => ⟨by rw [h], by rw [ht]; exact hw hP, hS.F ht⟩) hS.2.2 hdg hlocks
theorem ex_MUv {w1 w2 : va_W} (hx : p.tables.exec = Jvm.exec) (hb : c.code = cc) (hr : meth.sig.returnType = none) (hlocks : meth.locks = false) (hP : gP G w2 H) (hS : va_S (aA wc) s.heap H locs) (hdg : decode cc pc = .ok (.return_, 1)) (hw : gP G w2 H → gP G w1 H) : W p l e R s m args below meth c H locs 0 0 (MQ below (qMU G none wc w1) args s 0 0 (aA wc)) (F0 m pc ls []) :=
  W.vret hx hb hr (fun t ht _ => ⟨rfl, by rw [ht]; exact hw hP, hS.F ht⟩) hS.2.2 hdg hlocks
end CORE
end
section
/-! PURE: a room as a row of numbers (place 0 up, 1 welded, 2 on, 3 ticks, 4 moved, 5 LIFE, then 23 of each relay), and what the two programs work out of it -/
def shl (x y : Int32) : Int32 := x <<< (y &&& 31)
def shr (x y : Int32) : Int32 := x >>> (y &&& 31)
def px (r k : Nat) : Nat := 6 + 23 * r + k
def bt (s k : Int32) : Int32 := shr s k &&& 1
def hs (s k : Int32) : Bool := decide (bt s k = 1)
def inr (x lo hi : Int32) : Bool := decide (lo ≤ x) && decide (x ≤ hi)
def onS (v : Nat → Int32) : Int32 := v 0 ||| shl (v 2) 10
def frt (v : Nat → Int32) (r b : Nat) : Int32 := v (px r (5 + 3 * b))
def bck (v : Nat → Int32) (r b : Nat) : Int32 := v (px r (6 + 3 * b))
def ccn (v : Nat → Int32) (r b : Nat) : Int32 := v (px r (7 + 3 * b))
def cnt (v : Nat → Int32) (r : Nat) : Nat := (v (px r 4)).toNatClampNeg
def clo (v : Nat → Int32) (r b : Nat) : Bool := decide (onS v &&& frt v r b = frt v r b) && decide (onS v &&& bck v r b = 0)
def anyN : Nat → (Nat → Bool) → Bool
  | 0, _ => false
  | n + 1, f => anyN n f || f n
def orN : Nat → (Nat → Int32) → Int32
  | 0, _ => 0
  | n + 1, f => orN n f ||| f n
def sumN : Nat → (Nat → Int32) → Int32
  | 0, _ => 0
  | n + 1, f => sumN n f + f n
theorem anyN_t {n : Nat} {f : Nat → Bool} {i : Nat} (h : i < n) (hf : f i = true) : anyN n f = true := by
  induction n with
  | zero => omega
  | succ n ih =>
    rcases Nat.lt_succ_iff_lt_or_eq.mp h with h | h
    · simp [anyN, ih h]
    · subst h; simp [anyN, hf]
theorem anyN_f {n : Nat} {f : Nat → Bool} (h : ∀ i, i < n → f i = false) : anyN n f = false := by
  induction n with
  | zero => rfl
  | succ n ih => simp [anyN, ih (fun i hi => h i (by omega)), h n (by omega)]
theorem anyN_e {n : Nat} {f g : Nat → Bool} (h : ∀ i, i < n → f i = g i) : anyN n f = anyN n g := by
  induction n with
  | zero => rfl
  | succ n ih => simp [anyN, ih (fun i hi => h i (by omega)), h n (by omega)]
theorem orN_e {n : Nat} {f g : Nat → Int32} (h : ∀ i, i < n → f i = g i) : orN n f = orN n g := by
  induction n with
  | zero => rfl
  | succ n ih => simp [orN, ih (fun i hi => h i (by omega)), h n (by omega)]
theorem sumN_e {n : Nat} {f g : Nat → Int32} (h : ∀ i, i < n → f i = g i) : sumN n f = sumN n g := by
  induction n with
  | zero => rfl
  | succ n ih => simp [sumN, ih (fun i hi => h i (by omega)), h n (by omega)]
def fed1 (v : Nat → Int32) (r : Nat) : Bool := anyN (cnt v r) (fun b => clo v r b)
def fedS (v : Nat → Int32) : Int32 := orN 10 (fun r => if fed1 v r = true then shl 1 (nI r) else 0)
def wan (v : Nat → Int32) : Int32 := (fedS v ^^^ v 0) &&& ((v 0 &&& v 1) ^^^ (-1))
/-- what a room's row holds at any time: so many branches a relay, LIFE not below 0 -/
def RI (v : Nat → Int32) : Prop := (∀ r, r < 10 → v (px r 4) = nI (cnt v r) ∧ cnt v r ≤ 6) ∧ 0 ≤ v 5
/-! ticks -/
def wearF (r : Nat) (v : Nat → Int32) : Nat → Int32 :=
  let v1 := upd v (px r 3) (v (px r 3) + 1)
  if v1 5 ≠ 0 ∧ v1 5 ≤ v1 (px r 3) then upd v1 1 (v1 1 ||| shl 1 (nI r)) else v1
def moveF (r : Nat) (v : Nat → Int32) : Nat → Int32 :=
  let v1 := upd v (px r 2) 0
  let v2 := upd v1 4 (v1 4 + 1)
  let v3 := upd v2 0 (v2 0 ^^^ shl 1 (nI r))
  if hs (v3 0) (nI r) = true then wearF r v3 else v3
def waitF (r : Nat) (v : Nat → Int32) : Nat → Int32 :=
  let v1 := upd v (px r 2) (v (px r 2) + 1)
  if (if hs (v1 0) (nI r) = true then v1 (px r 1) else v1 (px r 0)) ≤ v1 (px r 2) then moveF r v1 else v1
def stepF (w : Int32) (r : Nat) (v : Nat → Int32) : Nat → Int32 := if hs w (nI r) = true then waitF r v else upd v (px r 2) 0
def stepN (w : Int32) : Nat → (Nat → Int32) → Nat → Int32
  | 0, v => v
  | n + 1, v => stepF w n (stepN w n v)
def tickW (w : Int32) (v : Nat → Int32) : Nat → Int32 := stepN w 10 (upd v 3 (v 3 + 1))
def tick (v : Nat → Int32) : Nat → Int32 := tickW (wan v) v
def tickN : Nat → (Nat → Int32) → Nat → Int32
  | 0, v => v
  | n + 1, v => tick (tickN n v)
/-- ticks until at rest, at most n: how many, and the room then -/
def stlC : Nat → (Nat → Int32) → Nat
  | 0, _ => 0
  | n + 1, v => if wan v = 0 then 0 else stlC n (tick v) + 1
def stlV : Nat → (Nat → Int32) → Nat → Int32
  | 0, v => v
  | n + 1, v => if wan v = 0 then v else stlV n (tick v)
def atRest (v : Nat → Int32) : Bool := decide (wan (stlV 200 v) = 0)
def setlR (v : Nat → Int32) : Int32 := if atRest v = true then nI (stlC 200 v) else nI (stlC 200 v) + 1000
def upR (v : Nat → Int32) : Int32 := if atRest v = true then stlV 200 v 0 else -6
def onesN : Nat → (Nat → Int32) → Nat → Int32
  | 0, v => v
  | n + 1, v => upd (upd (onesN n v) (px n 0) 1) (px n 1) 1
/-! circuits -/
def frtS (v : Nat → Int32) (r : Nat) : Int32 := orN (cnt v r) (fun b => frt v r b)
def bckS (v : Nat → Int32) (r : Nat) : Int32 := orN (cnt v r) (fun b => bck v r b)
def relB (v : Nat → Int32) : Int32 := sumN 10 (fun r => if 0 < v (px r 4) then 1 else 0)
def relC (v : Nat → Int32) (k : Nat) : Int32 := orN 10 (fun r => if hs (frtS v r ||| bckS v r) (nI k) = true then shl 1 (nI r) else 0)
def nevR (v : Nat → Int32) (r : Nat) : Int32 := sumN (cnt v r) (fun b => if frt v r b &&& bck v r b ≠ 0 then 1 else 0)
def nevC (v : Nat → Int32) : Int32 := sumN 10 (fun r => nevR v r)
def clrF (r : Nat) (v : Nat → Int32) : Nat → Int32 := upd v (px r 4) 0
def addB (r : Nat) (v : Nat → Int32) : Nat → Int32 :=
  if v (px r 4) < 6 then upd (upd (upd (upd v (px r (5 + 3 * cnt v r)) 0) (px r (6 + 3 * cnt v r)) 0) (px r (7 + 3 * cnt v r)) 0) (px r 4) (v (px r 4) + 1) else v
def rmB (r : Nat) (v : Nat → Int32) : Bool := decide (v (px r 4) < 6)
def rmC (r : Nat) (v : Nat → Int32) : Bool := decide (0 < cnt v r) && decide (ccn v r (cnt v r - 1) < 8)
def addC (r : Nat) (k : Int32) (back : Bool) (v : Nat → Int32) : Nat → Int32 :=
  if 0 < cnt v r then
    let i := px r ((if back = true then 6 else 5) + 3 * (cnt v r - 1))
    let v1 := upd v i (v i ||| shl 1 k)
    upd v1 (px r (7 + 3 * (cnt v r - 1))) (v1 (px r (7 + 3 * (cnt v r - 1))) + 1)
  else v
/-! places -/
theorem px_lt {r k : Nat} (hr : r < 10) (hk : k < 23) : px r k < 236 := by unfold px; omega
theorem px_ne {r k r' k' : Nat} (hk : k < 23) (hk' : k' < 23) (h : r ≠ r' ∨ k ≠ k') : px r k ≠ px r' k' := by unfold px; omega
theorem px_ne6 {r k i : Nat} (hi : i < 6) : px r k ≠ i := by unfold px; omega
theorem px_nI (r k : Nat) : nI 6 + nI 23 * nI r + nI k = nI (px r k) := by rw [pk_mul, nI_add, nI_add]; rfl
theorem lt_lit {i n : Nat} (hi : i < 2 ^ 31) (hn : n < 2 ^ 31) : nI n ≤ nI i ↔ n ≤ i := nI_leI hn hi
theorem RI.c {v : Nat → Int32} (h : RI v) {r : Nat} (hr : r < 10) : v (px r 4) = nI (cnt v r) ∧ cnt v r ≤ 6 := h.1 r hr
/-! a room's cells -/
abbrev rO (a : Nat → Nat) (v : Nat → Int32) : Nat × va_E := (a 0, .inr (3, [.int (v 0), .int (v 1), .int (v 2), .int (v 5), .int (v 3), .int (v 4), .ref (a 1), .ref (a 2), .ref (a 3), .ref (a 4), .ref (a 5), .ref (a 6), .ref (a 7), .ref (a 8)]))
abbrev rR (G : GG) (q : Nat) (v : Nat → Int32) (k : Nat) : Nat × va_E := (q, .inl (gI G, 10, .inl (fun r => v (px r k))))
abbrev rB (G : GG) (q : Nat) (v : Nat → Int32) (k : Nat) : Nat × va_E := (q, .inl (gI G, 60, .inl (fun j => v (px (j / 6) (k + 3 * (j % 6))))))
abbrev rW (G : GG) (a : Nat → Nat) (v : Nat → Int32) : va_W := [rO a v, rR G (a 1) v 0, rR G (a 2) v 1, rR G (a 3) v 2, rR G (a 4) v 3, rR G (a 5) v 4, rB G (a 6) v 5, rB G (a 7) v 6, rB G (a 8) v 7]
theorem rW_addr (G : GG) (a : Nat → Nat) (v v' : Nat → Int32) : (rW G a v').map (·.1) = (rW G a v).map (·.1) := rfl
theorem rR_upd (v : Nat → Int32) (k r : Nat) (x : Int32) (hk : k < 23) (k' : Nat) (hk' : k' < 23) : (fun j => upd v (px r k) x (px j k')) = if k' = k then upd (fun j => v (px j k')) r x else fun j => v (px j k') := by
  split
  next h =>
    subst h
    funext j
    by_cases hj : j = r
    · subst hj; simp [upd]
    · have := px_ne hk hk (r := j) (r' := r) (Or.inl hj)
      simp [upd, hj, this]
  next h =>
    funext j
    have := px_ne hk' hk (r := j) (r' := r) (Or.inr h)
    simp [upd, this]
theorem rR_upd6 (v : Nat → Int32) (i k : Nat) (x : Int32) (hi : i < 6) : (fun j => upd v i x (px j k)) = fun j => v (px j k) := by
  funext j
  have := px_ne6 (r := j) (k := k) hi
  simp [upd, this]
theorem rB_upd6 (v : Nat → Int32) (i k : Nat) (x : Int32) (hi : i < 6) : (fun j => upd v i x (px (j / 6) (k + 3 * (j % 6)))) = fun j => v (px (j / 6) (k + 3 * (j % 6))) := by
  funext j
  have := px_ne6 (r := j / 6) (k := k + 3 * (j % 6)) hi
  simp [upd, this]
theorem rB_updS (v : Nat → Int32) (r k kB : Nat) (x : Int32) (hk : k < 5) (hB : 5 ≤ kB ∧ kB ≤ 7) : (fun j => upd v (px r k) x (px (j / 6) (kB + 3 * (j % 6)))) = fun j => v (px (j / 6) (kB + 3 * (j % 6))) := by
  funext j
  have hj : j % 6 < 6 := Nat.mod_lt _ (by decide)
  have := px_ne (r := j / 6) (k := kB + 3 * (j % 6)) (r' := r) (k' := k) (by omega) (by omega) (Or.inr (by omega))
  simp [upd, this]
theorem rR_updB (v : Nat → Int32) (r k kB b : Nat) (x : Int32) (hk : k < 5) (hB : 5 ≤ kB ∧ kB ≤ 7) (hb : b < 6) : (fun j => upd v (px r (kB + 3 * b)) x (px j k)) = fun j => v (px j k) := by
  funext j
  have := px_ne (r := j) (k := k) (r' := r) (k' := kB + 3 * b) (by omega) (by omega) (Or.inr (by omega))
  simp [upd, this]
theorem rB_updB (v : Nat → Int32) (r k kB b : Nat) (x : Int32) (hk : 5 ≤ k ∧ k ≤ 7) (hB : 5 ≤ kB ∧ kB ≤ 7) (hb : b < 6) : (fun j => upd v (px r (kB + 3 * b)) x (px (j / 6) (k + 3 * (j % 6)))) = if k = kB then upd (fun j => v (px (j / 6) (k + 3 * (j % 6)))) (6 * r + b) x else fun j => v (px (j / 6) (k + 3 * (j % 6))) := by
  split
  next h =>
    subst h
    funext j
    have hj : j % 6 < 6 := Nat.mod_lt _ (by decide)
    by_cases e : j = 6 * r + b
    · subst e
      have e1 : (6 * r + b) / 6 = r := by omega
      have e2 : (6 * r + b) % 6 = b := by omega
      simp [upd, e1, e2]
    · have := px_ne (r := j / 6) (k := k + 3 * (j % 6)) (r' := r) (k' := k + 3 * b) (by omega) (by omega) (by omega)
      simp [upd, this, e]
  next h =>
    funext j
    have hj : j % 6 < 6 := Nat.mod_lt _ (by decide)
    have := px_ne (r := j / 6) (k := k + 3 * (j % 6)) (r' := r) (k' := kB + 3 * b) (by omega) (by omega) (Or.inr (by omega))
    simp [upd, this]
/-- an int field of a room is written -/
theorem rW_setI (G : GG) (a : Nat → Nat) (v : Nat → Int32) (x : Int32) :
    (rW G a (upd v 0 x) = (rW G a v).set 0 (a 0, .inr (3, [.int x, .int (v 1), .int (v 2), .int (v 5), .int (v 3), .int (v 4), .ref (a 1), .ref (a 2), .ref (a 3), .ref (a 4), .ref (a 5), .ref (a 6), .ref (a 7), .ref (a 8)]))) ∧
    (rW G a (upd v 1 x) = (rW G a v).set 0 (a 0, .inr (3, [.int (v 0), .int x, .int (v 2), .int (v 5), .int (v 3), .int (v 4), .ref (a 1), .ref (a 2), .ref (a 3), .ref (a 4), .ref (a 5), .ref (a 6), .ref (a 7), .ref (a 8)]))) ∧
    (rW G a (upd v 2 x) = (rW G a v).set 0 (a 0, .inr (3, [.int (v 0), .int (v 1), .int x, .int (v 5), .int (v 3), .int (v 4), .ref (a 1), .ref (a 2), .ref (a 3), .ref (a 4), .ref (a 5), .ref (a 6), .ref (a 7), .ref (a 8)]))) ∧
    (rW G a (upd v 5 x) = (rW G a v).set 0 (a 0, .inr (3, [.int (v 0), .int (v 1), .int (v 2), .int x, .int (v 3), .int (v 4), .ref (a 1), .ref (a 2), .ref (a 3), .ref (a 4), .ref (a 5), .ref (a 6), .ref (a 7), .ref (a 8)]))) ∧
    (rW G a (upd v 3 x) = (rW G a v).set 0 (a 0, .inr (3, [.int (v 0), .int (v 1), .int (v 2), .int (v 5), .int x, .int (v 4), .ref (a 1), .ref (a 2), .ref (a 3), .ref (a 4), .ref (a 5), .ref (a 6), .ref (a 7), .ref (a 8)]))) ∧
    (rW G a (upd v 4 x) = (rW G a v).set 0 (a 0, .inr (3, [.int (v 0), .int (v 1), .int (v 2), .int (v 5), .int (v 3), .int x, .ref (a 1), .ref (a 2), .ref (a 3), .ref (a 4), .ref (a 5), .ref (a 6), .ref (a 7), .ref (a 8)]))) := by
  refine ⟨?_, ?_, ?_, ?_, ?_, ?_⟩ <;> simp only [rW, rO, rR, rB, rR_upd6 _ _ _ _ (by decide : 0 < 6), rB_upd6 _ _ _ _ (by decide : 0 < 6), rR_upd6 _ _ _ _ (by decide : 1 < 6), rB_upd6 _ _ _ _ (by decide : 1 < 6), rR_upd6 _ _ _ _ (by decide : 2 < 6), rB_upd6 _ _ _ _ (by decide : 2 < 6), rR_upd6 _ _ _ _ (by decide : 3 < 6), rB_upd6 _ _ _ _ (by decide : 3 < 6), rR_upd6 _ _ _ _ (by decide : 4 < 6), rB_upd6 _ _ _ _ (by decide : 4 < 6), rR_upd6 _ _ _ _ (by decide : 5 < 6), rB_upd6 _ _ _ _ (by decide : 5 < 6)] <;> rfl
/-- a place of a row of relays is written -/
theorem rW_setR (G : GG) (a : Nat → Nat) (v : Nat → Int32) (r k : Nat) (x : Int32) (hk : k < 5) :
    rW G a (upd v (px r k) x) = (rW G a v).set (k + 1) (a (k + 1), .inl (gI G, 10, .inl (upd (fun j => v (px j k)) r x))) := by
  have e : ∀ i, i < 6 → upd v (px r k) x i = v i := fun i hi => by
    have := px_ne6 (r := r) (k := k) hi
    simp [upd, Ne.symm this]
  simp only [rW, rO, rR, rB, e 0 (by decide), e 1 (by decide), e 2 (by decide), e 3 (by decide), e 4 (by decide), e 5 (by decide), rR_upd v k r x (by omega) 0 (by decide), rR_upd v k r x (by omega) 1 (by decide), rR_upd v k r x (by omega) 2 (by decide), rR_upd v k r x (by omega) 3 (by decide), rR_upd v k r x (by omega) 4 (by decide), rB_updS v r k 5 x hk (by decide), rB_updS v r k 6 x hk (by decide), rB_updS v r k 7 x hk (by decide)]
  rcases (show k = 0 ∨ k = 1 ∨ k = 2 ∨ k = 3 ∨ k = 4 by omega) with rfl | rfl | rfl | rfl | rfl <;> simp
/-- a place of a row of branches is written -/
theorem rW_setB (G : GG) (a : Nat → Nat) (v : Nat → Int32) (r b k : Nat) (x : Int32) (hk : k < 3) (hb : b < 6) :
    rW G a (upd v (px r (5 + k + 3 * b)) x) = (rW G a v).set (k + 6) (a (k + 6), .inl (gI G, 60, .inl (upd (fun j => v (px (j / 6) (5 + k + 3 * (j % 6)))) (6 * r + b) x))) := by
  have e : ∀ i, i < 6 → upd v (px r (5 + k + 3 * b)) x i = v i := fun i hi => by
    have := px_ne6 (r := r) (k := 5 + k + 3 * b) hi
    simp [upd, Ne.symm this]
  simp only [rW, rO, rR, rB, e 0 (by decide), e 1 (by decide), e 2 (by decide), e 3 (by decide), e 4 (by decide), e 5 (by decide), rR_updB v r 0 (5 + k) b x (by decide) (by omega) hb, rR_updB v r 1 (5 + k) b x (by decide) (by omega) hb, rR_updB v r 2 (5 + k) b x (by decide) (by omega) hb, rR_updB v r 3 (5 + k) b x (by decide) (by omega) hb, rR_updB v r 4 (5 + k) b x (by decide) (by omega) hb, rB_updB v r 5 (5 + k) b x (by decide) (by omega) hb, rB_updB v r 6 (5 + k) b x (by decide) (by omega) hb, rB_updB v r 7 (5 + k) b x (by decide) (by omega) hb]
  rcases (show k = 0 ∨ k = 1 ∨ k = 2 by omega) with rfl | rfl | rfl <;> simp
/-- rooms that agree where a room has places have the same cells -/
theorem vp_cell_eq {cA : ClassId} {n : Nat} {f g : Nat → Int32} (h : ∀ i, i < n → f i = g i) : vp_cell cA (n, .inl f) = vp_cell cA (n, .inl g) := by
  rw [vp_cell_i, vp_cell_i]
  unfold arrV
  congr 2
  funext j
  rw [h j.1 j.2]
theorem rW_ext {G : GG} {a : Nat → Nat} {v v' : Nat → Int32} (h : ∀ i, i < 236 → v i = v' i) {H : Heap} (hP : gP G (rW G a v) H) : gP G (rW G a v') H := by
  have hR : ∀ k, k < 5 → ∀ i, i < 10 → v (px i k) = v' (px i k) := fun k hk i hi => h _ (px_lt hi (by omega))
  have hB : ∀ k, k ≤ 7 → ∀ j, j < 60 → v (px (j / 6) (k + 3 * (j % 6))) = v' (px (j / 6) (k + 3 * (j % 6))) := fun k hk j hj => h _ (px_lt (by omega) (by omega))
  intro q x hx
  have hl : q < 9 := (List.getElem?_eq_some_iff.mp hx).1
  rcases (show q = 0 ∨ q = 1 ∨ q = 2 ∨ q = 3 ∨ q = 4 ∨ q = 5 ∨ q = 6 ∨ q = 7 ∨ q = 8 by omega) with rfl | rfl | rfl | rfl | rfl | rfl | rfl | rfl | rfl <;> cases hx
  · have h0 := hP 0 _ rfl
    rw [h 0 (by decide), h 1 (by decide), h 2 (by decide), h 3 (by decide), h 4 (by decide), h 5 (by decide)] at h0
    exact h0
  · exact (hP 1 _ rfl).trans (congrArg some (vp_cell_eq (hR 0 (by decide))))
  · exact (hP 2 _ rfl).trans (congrArg some (vp_cell_eq (hR 1 (by decide))))
  · exact (hP 3 _ rfl).trans (congrArg some (vp_cell_eq (hR 2 (by decide))))
  · exact (hP 4 _ rfl).trans (congrArg some (vp_cell_eq (hR 3 (by decide))))
  · exact (hP 5 _ rfl).trans (congrArg some (vp_cell_eq (hR 4 (by decide))))
  · exact (hP 6 _ rfl).trans (congrArg some (vp_cell_eq (hB 5 (by decide))))
  · exact (hP 7 _ rfl).trans (congrArg some (vp_cell_eq (hB 6 (by decide))))
  · exact (hP 8 _ rfl).trans (congrArg some (vp_cell_eq (hB 7 (by decide))))
theorem rB_atfrt (v : Nat → Int32) (r b : Nat) (hb : b < 6) : (fun j => v (px (j / 6) (5 + 3 * (j % 6)))) (6 * r + b) = frt v r b := by
  show v (px ((6 * r + b) / 6) (5 + 3 * ((6 * r + b) % 6))) = v (px r (5 + 3 * b))
  rw [show (6 * r + b) / 6 = r by omega, show (6 * r + b) % 6 = b by omega]
theorem rB_atbck (v : Nat → Int32) (r b : Nat) (hb : b < 6) : (fun j => v (px (j / 6) (6 + 3 * (j % 6)))) (6 * r + b) = bck v r b := by
  show v (px ((6 * r + b) / 6) (6 + 3 * ((6 * r + b) % 6))) = v (px r (6 + 3 * b))
  rw [show (6 * r + b) / 6 = r by omega, show (6 * r + b) % 6 = b by omega]
theorem rB_atccn (v : Nat → Int32) (r b : Nat) (hb : b < 6) : (fun j => v (px (j / 6) (7 + 3 * (j % 6)))) (6 * r + b) = ccn v r b := by
  show v (px ((6 * r + b) / 6) (7 + 3 * ((6 * r + b) % 6))) = v (px r (7 + 3 * b))
  rw [show (6 * r + b) / 6 = r by omega, show (6 * r + b) % 6 = b by omega]
/-- a switch over a number -/
theorem sw_of (x : Int32) (n : Nat) (hn : n < 2 ^ 31 := by decide) : (∃ k : Nat, k ≤ n ∧ x = nI k) ∨ (x.toInt < 0 ∨ (n : Int) < x.toInt) := by
  by_cases h0 : x.toInt < 0
  · exact Or.inr (Or.inl h0)
  · by_cases h1 : (n : Int) < x.toInt
    · exact Or.inr (Or.inr h1)
    · refine Or.inl ⟨x.toInt.toNat, by omega, ?_⟩
      apply Int32.toInt_inj.mp
      rw [nI_toInt (by omega)]
      omega
section NROWS
variable {p : Program} {l : Launch} {e : Env} {R : Room} {s : State} {m : MethodId} {args : Array Value} {below : List Frame} {meth : Method} {c : Code} {H : Heap} {locs : List Loc} {cells slots : Nat} {Q : State → Prop}
variable {cc : ByteArray} {pc : Nat} {ls : Array Slot} {rest : List Value} {D : va_G} {cl : List vw_C} {A : Nat → Prop} {a : Nat} {tys : List (ClassId × FieldType)} {ws : va_W} {H0 : Heap}
theorem va_ialdN {v : Int32} (hexec : p.tables.exec = Jvm.exec) (hb : c.code = cc) (hK : va_K D cl tys s) (hP : va_P D cl ws H) (q0 t0 : Nat) {cA : ClassId} {n j : Nat} {f : Nat → Int32} (ha : ws[q0]? = some (a, .inl (cA, n, .inl f))) (ht : tys[t0]? = some (cA, .int)) {i : Int32} (hi : i = nI j) (hj : j < n) (hn : n < 2 ^ 31) (hv : f j = v) (hdg : decode cc pc = .ok (.iaload, 1))
    (kk : W p l e R s m args below meth c H locs cells slots Q (F0 m (pc + 1) ls (.int v :: rest))) : W p l e R s m args below meth c H locs cells slots Q (F0 m pc ls (.int i :: .ref a :: rest)) := by
  subst hi
  have e1 : (nI j).toNatClampNeg = j := nI_clamp (Nat.lt_trans hj hn)
  refine va_iald hexec hb hK hP q0 t0 ha ht (vp_in_nI hj hn) hdg ?_
  rw [e1, hv]
  exact kk
theorem va_zldN {v : Int32} (hexec : p.tables.exec = Jvm.exec) (hb : c.code = cc) (hK : va_K D cl tys s) (hP : va_P D cl ws H) (q0 t0 : Nat) {cA : ClassId} {n j : Nat} {f : Nat → Int32} (ha : ws[q0]? = some (a, .inl (cA, n, .inl f))) (ht : tys[t0]? = some (cA, .boolean)) {i : Int32} (hi : i = nI j) (hj : j < n) (hn : n < 2 ^ 31) (hv : f j = v) (hdg : decode cc pc = .ok (.baload, 1))
    (kk : W p l e R s m args below meth c H locs cells slots Q (F0 m (pc + 1) ls (.int v :: rest))) : W p l e R s m args below meth c H locs cells slots Q (F0 m pc ls (.int i :: .ref a :: rest)) := by
  subst hi
  have e1 : (nI j).toNatClampNeg = j := nI_clamp (Nat.lt_trans hj hn)
  refine va_zald hexec hb hK hP q0 t0 ha ht (vp_in_nI hj hn) hdg ?_
  rw [e1, hv]
  exact kk
theorem va_iastN {x : Int32} (hexec : p.tables.exec = Jvm.exec) (hb : c.code = cc) (hK : va_K D cl tys s) (hP : va_P D cl ws H) (hD : va_D A ws) (hS : va_S A H0 H locs) (q0 t0 : Nat) {cA : ClassId} {n j : Nat} {f : Nat → Int32} (ha : ws[q0]? = some (a, .inl (cA, n, .inl f))) (ht : tys[t0]? = some (cA, .int)) {i : Int32} (hi : i = nI j) (hj : j < n) (hn : n < 2 ^ 31) (hdg : decode cc pc = .ok (.iastore, 1))
    (kk : ∀ (H1 : Heap) (locs1 : List Loc), va_P D cl (ws.set q0 (a, .inl (cA, n, .inl (upd f j x)))) H1 → va_D A (ws.set q0 (a, .inl (cA, n, .inl (upd f j x)))) → va_S A H0 H1 locs1 → W p l e R s m args below meth c H1 locs1 cells slots Q (F0 m (pc + 1) ls rest)) : W p l e R s m args below meth c H locs cells slots Q (F0 m pc ls (.int x :: .int i :: .ref a :: rest)) := by
  subst hi
  have e1 : (nI j).toNatClampNeg = j := nI_clamp (Nat.lt_trans hj hn)
  refine va_iast hexec hb hK hP hD hS q0 t0 ha ht (vp_in_nI hj hn) hdg ?_
  rw [e1]
  exact kk
end NROWS
theorem seg_P {G : GG} {H : Heap} {segs : List va_W} (i : Nat) {w : va_W} (hP : gP G segs.flatten H) (hi : segs[i]? = some w) : gP G w H := va_P_iff.mpr fun q hq => va_P_iff.mp hP q (List.mem_flatten.mpr ⟨w, List.mem_of_getElem? hi, hq⟩)
theorem placeN (k j : Nat) : nI k * 6 + nI j = nI (6 * k + j) := by
  rw [show (6 : Int32) = nI 6 from rfl, pk_mul, nI_add, Nat.mul_comm]
/-! what a tick leaves -/
def KP (j : Nat) : Prop := j = 2 ∨ j = 5 ∨ ∃ r k, k < 23 ∧ k ≠ 2 ∧ k ≠ 3 ∧ j = px r k
theorem KP_px {j : Nat} (h : KP j) (r k : Nat) (hk : k = 2 ∨ k = 3) : j ≠ px r k := by
  rcases h with rfl | rfl | ⟨r', k', h1, h2, h3, rfl⟩
  · exact Ne.symm (px_ne6 (by decide))
  · exact Ne.symm (px_ne6 (by decide))
  · exact px_ne h1 (by omega) (Or.inr (by omega))
theorem KP_lo {j : Nat} (h : KP j) (i : Nat) (hi : i = 0 ∨ i = 1 ∨ i = 3 ∨ i = 4) : j ≠ i := by
  rcases h with rfl | rfl | ⟨r', k', h1, h2, h3, rfl⟩
  · omega
  · omega
  · exact px_ne6 (by omega)
theorem upd_o {f : Nat → Int32} {i j : Nat} {x : Int32} (h : j ≠ i) : upd f i x j = f j := by simp [upd, h]
theorem upd_s {f : Nat → Int32} {i : Nat} {x : Int32} : upd f i x i = x := by simp [upd]
theorem wearF_kp {j : Nat} (h : KP j) (r : Nat) (v : Nat → Int32) : wearF r v j = v j := by
  simp only [wearF]
  split <;> simp [upd_o (KP_px h r 3 (by omega)), upd_o (KP_lo h 1 (by omega))]
theorem moveF_kp {j : Nat} (h : KP j) (r : Nat) (v : Nat → Int32) : moveF r v j = v j := by
  simp only [moveF]
  split <;> simp [wearF_kp h, upd_o (KP_px h r 2 (by omega)), upd_o (KP_lo h 4 (by omega)), upd_o (KP_lo h 0 (by omega))]
theorem waitF_kp {j : Nat} (h : KP j) (r : Nat) (v : Nat → Int32) : waitF r v j = v j := by
  simp only [waitF]
  split
  · rw [moveF_kp h, upd_o (KP_px h r 2 (by omega))]
  · rw [upd_o (KP_px h r 2 (by omega))]
theorem stepF_kp {j : Nat} (h : KP j) (w : Int32) (r : Nat) (v : Nat → Int32) : stepF w r v j = v j := by
  unfold stepF
  split
  · exact waitF_kp h r v
  · exact upd_o (KP_px h r 2 (by omega))
theorem stepN_kp {j : Nat} (h : KP j) (w : Int32) (n : Nat) (v : Nat → Int32) : stepN w n v j = v j := by
  induction n with
  | zero => rfl
  | succ n ih => exact (stepF_kp h w n _).trans ih
theorem tickW_kp {j : Nat} (h : KP j) (w : Int32) (v : Nat → Int32) : tickW w v j = v j := (stepN_kp h w 10 _).trans (upd_o (KP_lo h 3 (by omega)))
theorem RI_of {v v' : Nat → Int32} (h : RI v) (hk : ∀ j, KP j → v' j = v j) : RI v' := by
  have e : ∀ r, v' (px r 4) = v (px r 4) := fun r => hk _ (Or.inr (Or.inr ⟨r, 4, by decide, by decide, by decide, rfl⟩))
  refine ⟨fun r hr => ?_, ?_⟩
  · have := h.1 r hr
    unfold cnt at this ⊢
    rw [e r]
    exact this
  · rw [hk 5 (Or.inr (Or.inl rfl))]
    exact h.2
theorem tick_RI {v : Nat → Int32} (h : RI v) : RI (tick v) := RI_of h fun j hj => tickW_kp hj _ v
theorem tickN_RI {v : Nat → Int32} (h : RI v) (n : Nat) : RI (tickN n v) := by
  induction n with
  | zero => exact h
  | succ n ih => exact tick_RI ih
theorem stlV_tickN (n : Nat) (v : Nat → Int32) : stlV n v = tickN (stlC n v) v := by
  have comm : ∀ k u, tickN k (tick u) = tick (tickN k u) := by
    intro k
    induction k with
    | zero => intro u; rfl
    | succ k ih => intro u; exact congrArg tick (ih u)
  induction n generalizing v with
  | zero => rfl
  | succ n ih =>
    simp only [stlV, stlC]
    split
    · rfl
    · rw [ih, comm]; rfl
theorem stlC_le (n : Nat) (v : Nat → Int32) : stlC n v ≤ n := by
  induction n generalizing v with
  | zero => exact Nat.le_refl _
  | succ n ih =>
    simp only [stlC]
    split
    · exact Nat.zero_le _
    · exact Nat.succ_le_succ (ih _)
/-! the reference's cells -/
abbrev mW (G : GG) (a : Nat → Nat) (st kp hi sl sv pd td : Nat → Int32) (rc pl pt rt bn : Int32) : va_W := [(a 0, .inr (5, [.ref (a 1), .ref (a 2), .ref (a 3), .int rc, .ref (a 4), .ref (a 5), .ref (a 6), .int pl, .int pt, .int rt, .ref (a 7), .int bn])), (a 1, .inl (gI G, 236, .inl st)), (a 2, .inl (gI G, 236, .inl kp)), (a 3, .inl (gI G, 1416, .inl hi)), (a 4, .inl (gI G, 472, .inl sl)), (a 5, .inl (gI G, 2, .inl sv)), (a 6, .inl (gI G, 64, .inl pd)), (a 7, .inl (gI G, 18, .inl td))]
theorem ofbN (b w : Nat) : (5 : Int32) + 3 * nI b + nI w = nI (5 + 3 * b + w) := by
  rw [show (3 : Int32) = nI 3 from rfl, show (5 : Int32) = nI 5 from rfl, pk_mul, nI_add, nI_add]
theorem ofb_0 (v : Nat → Int32) (r b : Nat) : v (px r (5 + 3 * b + 0)) = frt v r b := rfl
theorem ofb_1 (v : Nat → Int32) (r b : Nat) : v (px r (5 + 3 * b + 1)) = bck v r b := by unfold bck; rw [show 5 + 3 * b + 1 = 6 + 3 * b by omega]
theorem ofb_2 (v : Nat → Int32) (r b : Nat) : v (px r (5 + 3 * b + 2)) = ccn v r b := by unfold ccn; rw [show 5 + 3 * b + 2 = 7 + 3 * b by omega]
theorem i32_ext {x y : Int32} (h : ∀ i, i < 32 → x.toBitVec.getLsbD i = y.toBitVec.getLsbD i) : x = y := by
  apply Int32.toBitVec_inj.mp
  exact BitVec.eq_of_getLsbD_eq h
theorem i32_and (x y : Int32) (i : Nat) : (x &&& y).toBitVec.getLsbD i = (x.toBitVec.getLsbD i && y.toBitVec.getLsbD i) := by
  rw [Int32.toBitVec_and, BitVec.getLsbD_and]
theorem i32_or (x y : Int32) (i : Nat) : (x ||| y).toBitVec.getLsbD i = (x.toBitVec.getLsbD i || y.toBitVec.getLsbD i) := by
  rw [Int32.toBitVec_or, BitVec.getLsbD_or]
theorem i32_xor (x y : Int32) (i : Nat) : (x ^^^ y).toBitVec.getLsbD i = (x.toBitVec.getLsbD i ^^ y.toBitVec.getLsbD i) := by
  rw [Int32.toBitVec_xor, BitVec.getLsbD_xor]
theorem i32_m1 (i : Nat) (hi : i < 32) : ((-1 : Int32)).toBitVec.getLsbD i = true := by
  rw [show ((-1 : Int32)).toBitVec = BitVec.allOnes 32 from rfl, BitVec.getLsbD_allOnes]
  simpa using hi
theorem i32_0 (i : Nat) : ((0 : Int32)).toBitVec.getLsbD i = false := by
  rw [show ((0 : Int32)).toBitVec = 0#32 from rfl, BitVec.getLsbD_zero]
theorem and_nt (x y : Int32) : x &&& (y ^^^ (-1)) = 0 ↔ y &&& x = x := by
  constructor
  · intro h
    refine i32_ext fun i hi => ?_
    have h1 := congrArg (fun z : Int32 => z.toBitVec.getLsbD i) h
    simp only [i32_and, i32_xor, i32_m1 i hi, i32_0] at h1
    rw [i32_and]
    revert h1
    cases x.toBitVec.getLsbD i <;> cases y.toBitVec.getLsbD i <;> decide
  · intro h
    refine i32_ext fun i hi => ?_
    have h1 := congrArg (fun z : Int32 => z.toBitVec.getLsbD i) h
    simp only [i32_and] at h1
    rw [i32_and, i32_xor, i32_m1 i hi, i32_0]
    revert h1
    cases x.toBitVec.getLsbD i <;> cases y.toBitVec.getLsbD i <;> decide
theorem and_cm (x y : Int32) : x &&& y = y &&& x := i32_ext fun i _ => by rw [i32_and, i32_and, Bool.and_comm]
theorem cloM (v : Nat → Int32) (r b : Nat) : clo v r b = (decide (frt v r b &&& (onS v ^^^ (-1)) = 0) && decide (bck v r b &&& onS v = 0)) := by
  unfold clo
  rw [and_cm (bck v r b), decide_eq_decide.mpr (and_nt (frt v r b) (onS v))]
/-! the reference's way to move a relay, and its tick -/
theorem upd_cm {f : Nat → Int32} {i j : Nat} {x y : Int32} (h : i ≠ j) : upd (upd f i x) j y = upd (upd f j y) i x := by
  funext k
  simp only [upd]
  by_cases h1 : k = j
  · subst h1
    simp [Ne.symm h]
  · simp [h1]
theorem upd_same {f : Nat → Int32} {i : Nat} : upd f i (f i) = f := by
  funext k
  simp only [upd]
  split
  · subst_vars; rfl
  · rfl
theorem upd_uu {f : Nat → Int32} {i : Nat} {x y : Int32} : upd (upd f i x) i y = upd f i y := by
  funext k
  simp only [upd]
  split <;> rfl
def mmvF (r : Nat) (v : Nat → Int32) : Nat → Int32 :=
  let v1 := upd v 0 (v 0 ^^^ shl 1 (nI r))
  let v2 := upd v1 4 (v1 4 + 1)
  let v3 := upd v2 (px r 2) 0
  if hs (v3 0) (nI r) = true then
    let v4 := upd v3 (px r 3) (v3 (px r 3) + 1)
    upd v4 1 (v4 1 ||| (if 0 < v4 5 ∧ v4 5 ≤ v4 (px r 3) then shl 1 (nI r) else 0))
  else v3
theorem or_z (x : Int32) : x ||| 0 = x := i32_ext fun i _ => by rw [i32_or, i32_0, Bool.or_false]
theorem pos_of {x : Int32} (h : 0 ≤ x) (h2 : x ≠ 0) : 0 < x := by
  rw [Int32.lt_iff_toInt_lt]
  rw [Int32.le_iff_toInt_le] at h
  have h3 : x.toInt ≠ (0 : Int32).toInt := fun q => h2 (Int32.toInt_inj.mp q)
  omega
theorem pos_ne {x : Int32} (h : 0 < x) : x ≠ 0 := fun q => by rw [q] at h; exact absurd h (by decide)
theorem mmvF_eq (r : Nat) (v : Nat → Int32) (hL : 0 ≤ v 5) : mmvF r v = moveF r v := by
  have e3 : upd (upd (upd v 0 (v 0 ^^^ shl 1 (nI r))) 4 (v 4 + 1)) (px r 2) 0 = upd (upd (upd v (px r 2) 0) 4 (v 4 + 1)) 0 (v 0 ^^^ shl 1 (nI r)) := by
    rw [upd_cm (i := 4) (j := px r 2) (Ne.symm (px_ne6 (by decide))), upd_cm (i := 0) (j := px r 2) (Ne.symm (px_ne6 (by decide))), upd_cm (i := 0) (j := 4) (by decide)]
  have h4 : (4 : Nat) ≠ px r 2 := Ne.symm (px_ne6 (by decide))
  have h0 : (0 : Nat) ≠ px r 2 := Ne.symm (px_ne6 (by decide))
  have h5 : (5 : Nat) ≠ px r 2 := Ne.symm (px_ne6 (by decide))
  have hu : upd (upd (upd v (px r 2) 0) 4 (v 4 + 1)) 0 (v 0 ^^^ shl 1 (nI r)) 5 = v 5 := by rw [upd_o (by decide), upd_o (by decide), upd_o h5]
  unfold mmvF moveF wearF
  simp only [upd_o (show (4 : Nat) ≠ 0 by decide), upd_o h4, upd_o h0, upd_o (show (0 : Nat) ≠ 4 by decide), e3]
  generalize upd (upd (upd v (px r 2) 0) 4 (v 4 + 1)) 0 (v 0 ^^^ shl 1 (nI r)) = u at hu ⊢
  have e5 : ∀ x, upd u (px r 3) x 5 = u 5 := fun x => upd_o (Ne.symm (px_ne6 (by decide)))
  split
  · simp only [e5, hu]
    by_cases hc : 0 < v 5 ∧ v 5 ≤ upd u (px r 3) (u (px r 3) + 1) (px r 3)
    · rw [if_pos hc, if_pos ⟨pos_ne hc.1, hc.2⟩]
    · rw [if_neg hc, if_neg (fun q => hc ⟨pos_of hL q.1, q.2⟩), or_z, upd_same]
  · rfl
theorem wearF_u3 (r : Nat) (v : Nat → Int32) (x : Int32) : wearF r (upd v 3 x) = upd (wearF r v) 3 x := by
  have h3 : (3 : Nat) ≠ px r 3 := Ne.symm (px_ne6 (by decide))
  unfold wearF
  simp only [upd_o (Ne.symm h3), upd_cm (f := v) (i := 3) (j := px r 3) h3, upd_o (show (5 : Nat) ≠ 3 by decide), upd_o (show (1 : Nat) ≠ 3 by decide)]
  split
  · exact upd_cm (by decide)
  · rfl
theorem moveF_u3 (r : Nat) (v : Nat → Int32) (x : Int32) : moveF r (upd v 3 x) = upd (moveF r v) 3 x := by
  have h3 : (3 : Nat) ≠ px r 2 := Ne.symm (px_ne6 (by decide))
  unfold moveF
  simp only [upd_cm (f := v) (i := 3) (j := px r 2) h3]
  generalize upd v (px r 2) 0 = u
  simp only [upd_o (show (4 : Nat) ≠ 3 by decide), upd_cm (f := u) (i := 3) (j := 4) (by decide)]
  generalize upd u 4 (u 4 + 1) = w
  simp only [upd_o (show (0 : Nat) ≠ 3 by decide), upd_cm (f := w) (i := 3) (j := 0) (by decide)]
  generalize upd w 0 (w 0 ^^^ shl 1 (nI r)) = z
  split
  · exact wearF_u3 r z x
  · rfl
theorem waitF_u3 (r : Nat) (v : Nat → Int32) (x : Int32) : waitF r (upd v 3 x) = upd (waitF r v) 3 x := by
  have h3 : ∀ k, (3 : Nat) ≠ px r k := fun k => Ne.symm (px_ne6 (by decide))
  unfold waitF
  simp only [upd_o (Ne.symm (h3 2)), upd_cm (f := v) (i := 3) (j := px r 2) (h3 2)]
  generalize upd v (px r 2) (v (px r 2) + 1) = u
  simp only [upd_o (show (0 : Nat) ≠ 3 by decide), upd_o (Ne.symm (h3 0)), upd_o (Ne.symm (h3 1)), upd_o (Ne.symm (h3 2))]
  split
  · exact moveF_u3 r u x
  · rfl
theorem stepF_u3 (w : Int32) (r : Nat) (v : Nat → Int32) (x : Int32) : stepF w r (upd v 3 x) = upd (stepF w r v) 3 x := by
  unfold stepF
  split
  · exact waitF_u3 r v x
  · exact upd_cm (Ne.symm (px_ne6 (by decide)))
theorem stepN_u3 (w : Int32) (n : Nat) (v : Nat → Int32) (x : Int32) : stepN w n (upd v 3 x) = upd (stepN w n v) 3 x := by
  induction n with
  | zero => rfl
  | succ n ih => simp only [stepN]; rw [ih, stepF_u3]
theorem wearF_3 (r : Nat) (v : Nat → Int32) : wearF r v 3 = v 3 := by
  have h3 : ∀ k, (3 : Nat) ≠ px r k := fun k => Ne.symm (px_ne6 (by decide))
  unfold wearF
  simp only
  split
  · rw [upd_o (by decide), upd_o (h3 3)]
  · rw [upd_o (h3 3)]
theorem moveF_3 (r : Nat) (v : Nat → Int32) : moveF r v 3 = v 3 := by
  have h3 : ∀ k, (3 : Nat) ≠ px r k := fun k => Ne.symm (px_ne6 (by decide))
  unfold moveF
  simp only
  split
  · rw [wearF_3, upd_o (by decide), upd_o (by decide), upd_o (h3 2)]
  · rw [upd_o (by decide), upd_o (by decide), upd_o (h3 2)]
theorem stepN_3 (w : Int32) (n : Nat) (v : Nat → Int32) : stepN w n v 3 = v 3 := by
  have h3 : ∀ r k, (3 : Nat) ≠ px r k := fun r k => Ne.symm (px_ne6 (by decide))
  induction n with
  | zero => rfl
  | succ n ih =>
    simp only [stepN]
    rw [← ih]
    unfold stepF
    split
    · unfold waitF
      simp only
      split
      · rw [moveF_3, upd_o (h3 _ _)]
      · rw [upd_o (h3 _ _)]
    · rw [upd_o (h3 _ _)]
theorem tickM (v : Nat → Int32) : upd (stepN (wan v) 10 v) 3 (stepN (wan v) 10 v 3 + 1) = tick v := by
  unfold tick tickW
  rw [stepN_u3, stepN_3]
theorem tickN_sh (k : Nat) (u : Nat → Int32) : tickN k (tick u) = tick (tickN k u) := by
  induction k with
  | zero => rfl
  | succ k ih => exact congrArg tick ih
theorem stl_stop {v : Nat → Int32} {i n : Nat} (h : ∀ j, j < i → wan (tickN j v) ≠ 0) (hi : i ≤ n) (he : i = n ∨ wan (tickN i v) = 0) : stlC n v = i ∧ stlV n v = tickN i v := by
  have e : stlC n v = i := by
    induction n generalizing v i with
    | zero => simp only [stlC]; omega
    | succ n ih =>
      simp only [stlC]
      cases i with
      | zero =>
        rcases he with he | he
        · omega
        · rw [if_pos he]
      | succ i =>
        rw [if_neg (h 0 (by omega))]
        have := ih (v := tick v) (i := i) (fun j hj => by rw [tickN_sh]; exact h (j + 1) (by omega)) (by omega) (by
          rcases he with he | he
          · exact Or.inl (by omega)
          · exact Or.inr (by rw [tickN_sh]; exact he))
        omega
  exact ⟨e, by rw [stlV_tickN, e]⟩
end
section
set_option maxHeartbeats 4000000 in
set_option maxRecDepth 100000 in
/-- X4_isWithin -/
theorem c_X4_isWithin (l : Launch) (G : GG) (x : Int32) (lo : Int32) (hi : Int32) : Met l yX4_isWithin wsX4_isWithin ({ frames := 0, cells := 0, slots := 0, locals := 0 }) (pcW G [.int x, .int lo, .int hi] ([])) (qRO (.int (b2i (inr x lo hi)))) 0 0 nofree := by
  refine hd_RO (cc := cX4_isWithin) (maxL := 3) (ret := some .boolean) (by decide) rfl (Nat.le_of_ble_eq_true rfl) ?_
  intro p e s m below meth c ls hx hb hr hts hown hlocks hml hP hKK hl
  have hl : lv_has ls 3 [(0, .int x), (1, .int lo), (2, .int hi)] := hl
  refine lv_iload_n hx hb dX4_isWithin_0 rfl (lv_at hl 0 rfl) ?_
  refine lv_iload_n hx hb dX4_isWithin_1 rfl (lv_at hl 1 rfl) ?_
  refine lv_icmp_lt (tgt := 14) hx hb dX4_isWithin_2 (by decide) (fun c_2 => ?_) (fun c_2 => ?_)
  · skip
    refine lv_iconst (v := 0) hx hb dX4_isWithin_14 (by decide) ?_
    exact ex_ROz (b := inr x lo hi) hx hb hr hlocks rfl dX4_isWithin_15 (by simp_all [inr, b2i]) rfl
  · skip
    refine lv_iload_n hx hb dX4_isWithin_5 rfl (lv_at hl 0 rfl) ?_
    refine lv_iload_n hx hb dX4_isWithin_6 rfl (lv_at hl 2 rfl) ?_
    refine lv_icmp_gt (tgt := 14) hx hb dX4_isWithin_7 (by decide) (fun c_7 => ?_) (fun c_7 => ?_)
    · skip
      refine lv_iconst (v := 0) hx hb dX4_isWithin_14 (by decide) ?_
      exact ex_ROz (b := inr x lo hi) hx hb hr hlocks rfl dX4_isWithin_15 (by simp_all [inr, b2i]) rfl
    · skip
      refine lv_iconst (v := 1) hx hb dX4_isWithin_10 (by decide) ?_
      refine lv_goto (tgt := 15) hx hb dX4_isWithin_11 (by decide) ?_
      exact ex_ROz (b := inr x lo hi) hx hb hr hlocks rfl dX4_isWithin_15 (by simp_all [inr, b2i]) rfl
set_option maxHeartbeats 4000000 in
set_option maxRecDepth 100000 in
/-- X4_isRelay -/
theorem c_X4_isRelay (l : Launch) (G : GG) (x : Int32) : Met l yX4_isRelay wsX4_isRelay ({ frames := 1, cells := 0, slots := 0, locals := 22 }) (pcW G [.int x] ([])) (qRO (.int (b2i (inr x 0 9)))) 0 0 nofree := by
  refine hd_RO (cc := cX4_isRelay) (maxL := 1) (ret := some .boolean) (by decide) rfl (Nat.le_of_ble_eq_true rfl) ?_
  intro p e s m below meth c ls hx hb hr hts hown hlocks hml hP hKK hl
  have hl : lv_has ls 1 [(0, .int x)] := hl
  refine lv_iload_n hx hb dX4_isRelay_0 rfl (lv_at hl 0 rfl) ?_
  refine lv_iconst (v := 0) hx hb dX4_isRelay_1 (by decide) ?_
  refine lv_bipush (v := 9) hx hb dX4_isRelay_2 (by decide) ?_
  refine ro_S (As := [.int x, .int 0, .int 9]) (rest := []) ⟨hx, hb, hml, hown, hts⟩ (c_X4_isWithin l G x 0 9) (va_cwS 3 hts gX4_isRelay_X4_isWithin rfl rfl rfl (by decide +kernel) ⟨Nat.le_of_ble_eq_true rfl, Nat.le_of_ble_eq_true rfl⟩) (show gP G [] _ from fun k q h => by simp at h) hKK rfl hl.1 rfl (Nat.le_of_ble_eq_true rfl) dX4_isRelay_4 (Nat.zero_le _) (Nat.zero_le _) ?_
  exact ex_ROz (b := inr x 0 9) hx hb hr hlocks rfl dX4_isRelay_7 (rfl) rfl
set_option maxHeartbeats 4000000 in
set_option maxRecDepth 100000 in
/-- X4_isButtonSet -/
theorem c_X4_isButtonSet (l : Launch) (G : GG) (x : Int32) : Met l yX4_isButtonSet wsX4_isButtonSet ({ frames := 1, cells := 0, slots := 0, locals := 22 }) (pcW G [.int x] ([])) (qRO (.int (b2i (inr x 0 63)))) 0 0 nofree := by
  refine hd_RO (cc := cX4_isButtonSet) (maxL := 1) (ret := some .boolean) (by decide) rfl (Nat.le_of_ble_eq_true rfl) ?_
  intro p e s m below meth c ls hx hb hr hts hown hlocks hml hP hKK hl
  have hl : lv_has ls 1 [(0, .int x)] := hl
  refine lv_iload_n hx hb dX4_isButtonSet_0 rfl (lv_at hl 0 rfl) ?_
  refine lv_iconst (v := 0) hx hb dX4_isButtonSet_1 (by decide) ?_
  refine lv_bipush (v := 63) hx hb dX4_isButtonSet_2 (by decide) ?_
  refine ro_S (As := [.int x, .int 0, .int 63]) (rest := []) ⟨hx, hb, hml, hown, hts⟩ (c_X4_isWithin l G x 0 63) (va_cwS 3 hts gX4_isButtonSet_X4_isWithin rfl rfl rfl (by decide +kernel) ⟨Nat.le_of_ble_eq_true rfl, Nat.le_of_ble_eq_true rfl⟩) (show gP G [] _ from fun k q h => by simp at h) hKK rfl hl.1 rfl (Nat.le_of_ble_eq_true rfl) dX4_isButtonSet_4 (Nat.zero_le _) (Nat.zero_le _) ?_
  exact ex_ROz (b := inr x 0 63) hx hb hr hlocks rfl dX4_isButtonSet_7 (rfl) rfl
set_option maxHeartbeats 4000000 in
set_option maxRecDepth 100000 in
/-- X4_bit -/
theorem c_X4_bit (l : Launch) (G : GG) (x : Int32) (k : Int32) : Met l yX4_bit wsX4_bit ({ frames := 0, cells := 0, slots := 0, locals := 0 }) (pcW G [.int x, .int k] ([])) (qRO (.int (bt x k))) 0 0 nofree := by
  refine hd_RO (cc := cX4_bit) (maxL := 2) (ret := some .int) (by decide) rfl (Nat.le_of_ble_eq_true rfl) ?_
  intro p e s m below meth c ls hx hb hr hts hown hlocks hml hP hKK hl
  have hl : lv_has ls 2 [(0, .int x), (1, .int k)] := hl
  refine lv_iload_n hx hb dX4_bit_0 rfl (lv_at hl 0 rfl) ?_
  refine lv_iload_n hx hb dX4_bit_1 rfl (lv_at hl 1 rfl) ?_
  refine lv_ishr hx hb dX4_bit_2 ?_
  refine lv_asi (y := shr x k) rfl ?_
  refine lv_iconst (v := 1) hx hb dX4_bit_3 (by decide) ?_
  refine lv_iand hx hb dX4_bit_4 ?_
  exact ex_ROi hx hb hr hlocks rfl dX4_bit_5 (rfl)
set_option maxHeartbeats 4000000 in
set_option maxRecDepth 100000 in
/-- X4_isIn -/
theorem c_X4_isIn (l : Launch) (G : GG) (x : Int32) (k : Int32) : Met l yX4_isIn wsX4_isIn ({ frames := 1, cells := 0, slots := 0, locals := 21 }) (pcW G [.int x, .int k] ([])) (qRO (.int (b2i (hs x k)))) 0 0 nofree := by
  refine hd_RO (cc := cX4_isIn) (maxL := 2) (ret := some .boolean) (by decide) rfl (Nat.le_of_ble_eq_true rfl) ?_
  intro p e s m below meth c ls hx hb hr hts hown hlocks hml hP hKK hl
  have hl : lv_has ls 2 [(0, .int x), (1, .int k)] := hl
  refine lv_iload_n hx hb dX4_isIn_0 rfl (lv_at hl 0 rfl) ?_
  refine lv_iload_n hx hb dX4_isIn_1 rfl (lv_at hl 1 rfl) ?_
  refine ro_S (As := [.int x, .int k]) (rest := []) ⟨hx, hb, hml, hown, hts⟩ (c_X4_bit l G x k) (va_cwS 2 hts gX4_isIn_X4_bit rfl rfl rfl (by decide +kernel) ⟨Nat.le_of_ble_eq_true rfl, Nat.le_of_ble_eq_true rfl⟩) (show gP G [] _ from fun k q h => by simp at h) hKK rfl hl.1 rfl (Nat.le_of_ble_eq_true rfl) dX4_isIn_2 (Nat.zero_le _) (Nat.zero_le _) ?_
  refine lv_iconst (v := 1) hx hb dX4_isIn_5 (by decide) ?_
  refine lv_icmp_ne (tgt := 13) hx hb dX4_isIn_6 (by decide) (fun c_6 => ?_) (fun c_6 => ?_)
  · skip
    refine lv_iconst (v := 0) hx hb dX4_isIn_13 (by decide) ?_
    exact ex_ROz (b := hs x k) hx hb hr hlocks rfl dX4_isIn_14 (by simp_all [hs, b2i]) rfl
  · skip
    refine lv_iconst (v := 1) hx hb dX4_isIn_9 (by decide) ?_
    refine lv_goto (tgt := 14) hx hb dX4_isIn_10 (by decide) ?_
    exact ex_ROz (b := hs x k) hx hb hr hlocks rfl dX4_isIn_14 (by simp_all [hs, b2i]) rfl
set_option maxHeartbeats 4000000 in
set_option maxRecDepth 100000 in
/-- X4_isUpIn -/
theorem c_X4_isUpIn (l : Launch) (G : GG) (x : Int32) (k : Int32) : Met l yX4_isUpIn wsX4_isUpIn ({ frames := 2, cells := 0, slots := 0, locals := 42 }) (pcW G [.int x, .int k] ([])) (qRO (.int (b2i (!decide (x = -6) && hs x k)))) 0 0 nofree := by
  refine hd_RO (cc := cX4_isUpIn) (maxL := 2) (ret := some .boolean) (by decide) rfl (Nat.le_of_ble_eq_true rfl) ?_
  intro p e s m below meth c ls hx hb hr hts hown hlocks hml hP hKK hl
  have hl : lv_has ls 2 [(0, .int x), (1, .int k)] := hl
  refine lv_iload_n hx hb dX4_isUpIn_0 rfl (lv_at hl 0 rfl) ?_
  refine lv_bipush (v := (-6)) hx hb dX4_isUpIn_1 (by decide) ?_
  refine lv_icmp_eq (tgt := 18) hx hb dX4_isUpIn_3 (by decide) (fun c_3 => ?_) (fun c_3 => ?_)
  · skip
    refine lv_iconst (v := 0) hx hb dX4_isUpIn_18 (by decide) ?_
    exact ex_ROz (b := !decide (x = -6) && hs x k) hx hb hr hlocks rfl dX4_isUpIn_19 (by simp_all [b2i]) rfl
  · skip
    refine lv_iload_n hx hb dX4_isUpIn_6 rfl (lv_at hl 0 rfl) ?_
    refine lv_iload_n hx hb dX4_isUpIn_7 rfl (lv_at hl 1 rfl) ?_
    refine ro_S (As := [.int x, .int k]) (rest := []) ⟨hx, hb, hml, hown, hts⟩ (c_X4_isIn l G x k) (va_cwS 2 hts gX4_isUpIn_X4_isIn rfl rfl rfl (by decide +kernel) ⟨Nat.le_of_ble_eq_true rfl, Nat.le_of_ble_eq_true rfl⟩) (show gP G [] _ from fun k q h => by simp at h) hKK rfl hl.1 rfl (Nat.le_of_ble_eq_true rfl) dX4_isUpIn_8 (Nat.zero_le _) (Nat.zero_le _) ?_
    refine lv_if_eq (tgt := 18) hx hb dX4_isUpIn_11 (by decide) (fun c_11 => ?_) (fun c_11 => ?_)
    · skip
      have c_11 := b2i_0 c_11
      refine lv_iconst (v := 0) hx hb dX4_isUpIn_18 (by decide) ?_
      exact ex_ROz (b := !decide (x = -6) && hs x k) hx hb hr hlocks rfl dX4_isUpIn_19 (by simp_all [b2i]) rfl
    · skip
      have c_11 := b2i_1 c_11
      refine lv_iconst (v := 1) hx hb dX4_isUpIn_14 (by decide) ?_
      refine lv_goto (tgt := 19) hx hb dX4_isUpIn_15 (by decide) ?_
      exact ex_ROz (b := !decide (x = -6) && hs x k) hx hb hr hlocks rfl dX4_isUpIn_19 (by simp_all [b2i]) rfl
set_option maxHeartbeats 4000000 in
set_option maxRecDepth 100000 in
/-- X4_placeOf -/
theorem c_X4_placeOf (l : Launch) (G : GG) (k : Nat) (j : Nat) : Met l yX4_placeOf wsX4_placeOf ({ frames := 0, cells := 0, slots := 0, locals := 0 }) (pcW G [.int (nI k), .int (nI j)] ([])) (qRO (.int (nI (6 * k + j)))) 0 0 nofree := by
  refine hd_RO (cc := cX4_placeOf) (maxL := 2) (ret := some .int) (by decide) rfl (Nat.le_of_ble_eq_true rfl) ?_
  intro p e s m below meth c ls hx hb hr hts hown hlocks hml hP hKK hl
  have hl : lv_has ls 2 [(0, .int (nI k)), (1, .int (nI j))] := hl
  refine lv_iload_n hx hb dX4_placeOf_0 rfl (lv_at hl 0 rfl) ?_
  refine lv_bipush (v := 6) hx hb dX4_placeOf_1 (by decide) ?_
  refine lv_imul hx hb dX4_placeOf_3 ?_
  refine lv_iload_n hx hb dX4_placeOf_4 rfl (lv_at hl 1 rfl) ?_
  refine lv_iadd hx hb dX4_placeOf_5 ?_
  exact ex_ROi hx hb hr hlocks rfl dX4_placeOf_6 (congrArg Value.int (placeN k j))
set_option maxRecDepth 20000 in
theorem hin_X3_isClosed_X3 : ∀ w ∈ u_ws RX3 TX3 14, w ∈ wsX3_isClosed := by decide +kernel
theorem lk_X3_isClosed_36 : Cond.fieldLink RX3 36 "WeldedRelays$Room" "up" "I" ∈ wsX3_isClosed := by decide +kernel
theorem lk_X3_isClosed_43 : Cond.fieldLink RX3 43 "WeldedRelays$Room" "buttons" "I" ∈ wsX3_isClosed := by decide +kernel
theorem lk_X3_isClosed_27 : Cond.fieldLink RX3 27 "WeldedRelays$Room" "fronts" "[I" ∈ wsX3_isClosed := by decide +kernel
theorem lk_X3_isClosed_30 : Cond.fieldLink RX3 30 "WeldedRelays$Room" "backs" "[I" ∈ wsX3_isClosed := by decide +kernel
set_option maxHeartbeats 4000000 in
set_option maxRecDepth 100000 in
/-- X3_isClosed -/
theorem c_X3_isClosed (l : Launch) (G : GG) (a : Nat → Nat) (v : Nat → Int32) (r : Nat) (b : Nat) (hr : r < 10) (hb : b < 6) : Met l yX3_isClosed wsX3_isClosed ({ frames := 0, cells := 0, slots := 0, locals := 0 }) (pcW G [.ref (a 0), .int (nI (6 * r + b))] (rW G a v)) (qRO (.int (b2i (clo v r b)))) 0 0 nofree := by
  refine hd_RO (cc := cX3_isClosed) (maxL := 3) (ret := some .boolean) (by decide) rfl (Nat.le_of_ble_eq_true rfl) ?_
  intro p e s m below meth c ls hx hb hr hts hown hlocks hml hP hKK hl
  have hl : lv_has ls 3 [(0, .ref (a 0)), (1, .int (nI (6 * r + b)))] := hl
  refine lv_aload_n hx hb dX3_isClosed_0 rfl (lv_at hl 0 rfl) ?_
  refine va_get (D := gD G) (ci := 3) (v := .int (v 0)) (C := RX3) (T := TX3) (N := 14) hx hb hts hin_X3_isClosed_X3 hown hKK.1 hP 0 rfl rfl 0 (by decide) (hts _ lk_X3_isClosed_36) (fun _ h9 => h9) rfl dX3_isClosed_1 ?_
  refine lv_aload_n hx hb dX3_isClosed_4 rfl (lv_at hl 0 rfl) ?_
  refine va_get (D := gD G) (ci := 3) (v := .int (v 2)) (C := RX3) (T := TX3) (N := 14) hx hb hts hin_X3_isClosed_X3 hown hKK.1 hP 0 rfl rfl 2 (by decide) (hts _ lk_X3_isClosed_43) (fun _ h9 => h9) rfl dX3_isClosed_5 ?_
  refine lv_bipush (v := 10) hx hb dX3_isClosed_8 (by decide) ?_
  refine lv_ishl hx hb dX3_isClosed_10 ?_
  refine lv_asi (y := shl (v 2) 10) rfl ?_
  refine lv_ior hx hb dX3_isClosed_11 ?_
  refine lv_istore_n (lv' := [(2, .int ((v 0) ||| (shl (v 2) 10))), (0, .ref (a 0)), (1, .int (nI (6 * r + b)))]) hx hb dX3_isClosed_12 rfl hl (by decide) rfl (fun ls hl => ?_)
  refine lv_iload_n hx hb dX3_isClosed_13 rfl (lv_at hl 0 rfl) ?_
  refine lv_aload_n hx hb dX3_isClosed_14 rfl (lv_at hl 1 rfl) ?_
  refine va_get (D := gD G) (ci := 3) (v := .ref (a 6)) (C := RX3) (T := TX3) (N := 14) hx hb hts hin_X3_isClosed_X3 hown hKK.1 hP 0 rfl rfl 11 (by decide) (hts _ lk_X3_isClosed_27) (fun _ h9 => h9) rfl dX3_isClosed_15 ?_
  refine lv_iload_n hx hb dX3_isClosed_18 rfl (lv_at hl 2 rfl) ?_
  refine va_ialdN (v := frt v r b) hx hb hKK.1 hP 6 0 rfl rfl (rfl) (by omega) (by decide) (rB_atfrt _ _ _ (by omega)) dX3_isClosed_19 ?_
  refine lv_iand hx hb dX3_isClosed_20 ?_
  refine lv_aload_n hx hb dX3_isClosed_21 rfl (lv_at hl 1 rfl) ?_
  refine va_get (D := gD G) (ci := 3) (v := .ref (a 6)) (C := RX3) (T := TX3) (N := 14) hx hb hts hin_X3_isClosed_X3 hown hKK.1 hP 0 rfl rfl 11 (by decide) (hts _ lk_X3_isClosed_27) (fun _ h9 => h9) rfl dX3_isClosed_22 ?_
  refine lv_iload_n hx hb dX3_isClosed_25 rfl (lv_at hl 2 rfl) ?_
  refine va_ialdN (v := frt v r b) hx hb hKK.1 hP 6 0 rfl rfl (rfl) (by omega) (by decide) (rB_atfrt _ _ _ (by omega)) dX3_isClosed_26 ?_
  refine lv_icmp_ne (tgt := 45) hx hb dX3_isClosed_27 (by decide) (fun c_27 => ?_) (fun c_27 => ?_)
  · skip
    refine lv_iconst (v := 0) hx hb dX3_isClosed_45 (by decide) ?_
    exact ex_ROz (b := clo v r b) hx hb hr hlocks rfl dX3_isClosed_46 (by simp_all [clo, b2i, onS]) rfl
  · skip
    refine lv_iload_n hx hb dX3_isClosed_30 rfl (lv_at hl 0 rfl) ?_
    refine lv_aload_n hx hb dX3_isClosed_31 rfl (lv_at hl 1 rfl) ?_
    refine va_get (D := gD G) (ci := 3) (v := .ref (a 7)) (C := RX3) (T := TX3) (N := 14) hx hb hts hin_X3_isClosed_X3 hown hKK.1 hP 0 rfl rfl 12 (by decide) (hts _ lk_X3_isClosed_30) (fun _ h9 => h9) rfl dX3_isClosed_32 ?_
    refine lv_iload_n hx hb dX3_isClosed_35 rfl (lv_at hl 2 rfl) ?_
    refine va_ialdN (v := bck v r b) hx hb hKK.1 hP 7 0 rfl rfl (rfl) (by omega) (by decide) (rB_atbck _ _ _ (by omega)) dX3_isClosed_36 ?_
    refine lv_iand hx hb dX3_isClosed_37 ?_
    refine lv_if_ne (tgt := 45) hx hb dX3_isClosed_38 (by decide) (fun c_38 => ?_) (fun c_38 => ?_)
    · skip
      refine lv_iconst (v := 0) hx hb dX3_isClosed_45 (by decide) ?_
      exact ex_ROz (b := clo v r b) hx hb hr hlocks rfl dX3_isClosed_46 (by simp_all [clo, b2i, onS]) rfl
    · skip
      refine lv_iconst (v := 1) hx hb dX3_isClosed_41 (by decide) ?_
      refine lv_goto (tgt := 46) hx hb dX3_isClosed_42 (by decide) ?_
      exact ex_ROz (b := clo v r b) hx hb hr hlocks rfl dX3_isClosed_46 (by simp_all [clo, b2i, onS]) rfl
set_option maxRecDepth 20000 in
theorem hin_X3_isFed_X3 : ∀ w ∈ u_ws RX3 TX3 14, w ∈ wsX3_isFed := by decide +kernel
theorem lk_X3_isFed_24 : Cond.fieldLink RX3 24 "WeldedRelays$Room" "branchCounts" "[I" ∈ wsX3_isFed := by decide +kernel
set_option maxHeartbeats 4000000 in
set_option maxRecDepth 100000 in
/-- X3_isFed -/
theorem c_X3_isFed (l : Launch) (G : GG) (a : Nat → Nat) (v : Nat → Int32) (k : Nat) (hk : k < 10) (hI : RI v) : Met l yX3_isFed wsX3_isFed ({ frames := 1, cells := 0, slots := 0, locals := 22 }) (pcW G [.ref (a 0), .int (nI k)] (rW G a v)) (qRO (.int (b2i (fed1 v k)))) 0 0 nofree := by
  refine hd_RO (cc := cX3_isFed) (maxL := 4) (ret := some .boolean) (by decide) rfl (Nat.le_of_ble_eq_true rfl) ?_
  intro p e s m below meth c ls hx hb hr hts hown hlocks hml hP hKK hl
  have hl : lv_has ls 4 [(0, .ref (a 0)), (1, .int (nI k))] := hl
  have hc := hI.1 k hk
  refine lv_iload_n hx hb dX3_isFed_0 rfl (lv_at hl 1 rfl) ?_
  refine lv_aload_n hx hb dX3_isFed_1 rfl (lv_at hl 0 rfl) ?_
  refine va_get (D := gD G) (ci := 3) (v := .ref (a 5)) (C := RX3) (T := TX3) (N := 14) hx hb hts hin_X3_isFed_X3 hown hKK.1 hP 0 rfl rfl 10 (by decide) (hts _ lk_X3_isFed_24) (fun _ h9 => h9) rfl dX3_isFed_2 ?_
  refine lv_iload_n hx hb dX3_isFed_5 rfl (lv_at hl 1 rfl) ?_
  refine va_ialdN (v := v (px k 4)) hx hb hKK.1 hP 5 0 rfl rfl (rfl) (by omega) (by decide) (rfl) dX3_isFed_6 ?_
  refine lv_asi (y := nI (cnt v k)) (hc.1) ?_
  refine ro_SN (As := [.int (nI k), .int (nI (cnt v k))]) (rest := []) ⟨hx, hb, hml, hown, hts⟩ (c_X4_placeOf l G k (cnt v k)) ⟨va_cnB 2 hts gX3_isFed_X4_placeOf_n65 rfl rfl rfl (hKK.2.1 _ (List.mem_of_getElem? (i := 4) rfl)) (hts (.initialized RX4) (by decide +kernel)) (by decide +kernel) ⟨Nat.le_of_ble_eq_true rfl, Nat.le_of_ble_eq_true rfl⟩, hts (.static yX4_placeOf) (by decide +kernel), trivial⟩ (show gP G [] _ from fun k q h => by simp at h) hKK rfl hl.1 rfl (Nat.le_of_ble_eq_true rfl) dX3_isFed_7 (Nat.zero_le _) (Nat.zero_le _) ?_
  refine lv_istore_n (lv' := [(2, .int (nI (6 * k + (cnt v k)))), (0, .ref (a 0)), (1, .int (nI k))]) hx hb dX3_isFed_10 rfl hl (by decide) rfl (fun ls hl => ?_)
  refine lv_iload_n hx hb dX3_isFed_11 rfl (lv_at hl 2 rfl) ?_
  refine lv_iconst (v := 0) hx hb dX3_isFed_12 (by decide) ?_
  refine ro_SN (As := [.int (nI k), .int (nI 0)]) (rest := []) ⟨hx, hb, hml, hown, hts⟩ (c_X4_placeOf l G k 0) ⟨va_cnB 2 hts gX3_isFed_X4_placeOf_n65 rfl rfl rfl (hKK.2.1 _ (List.mem_of_getElem? (i := 4) rfl)) (hts (.initialized RX4) (by decide +kernel)) (by decide +kernel) ⟨Nat.le_of_ble_eq_true rfl, Nat.le_of_ble_eq_true rfl⟩, hts (.static yX4_placeOf) (by decide +kernel), trivial⟩ (show gP G [] _ from fun k q h => by simp at h) hKK rfl hl.1 rfl (Nat.le_of_ble_eq_true rfl) dX3_isFed_13 (Nat.zero_le _) (Nat.zero_le _) ?_
  refine lv_istore_n (lv' := [(3, .int (nI (6 * k + 0))), (2, .int (nI (6 * k + (cnt v k)))), (0, .ref (a 0)), (1, .int (nI k))]) hx hb dX3_isFed_16 rfl hl (by decide) rfl (fun ls hl => ?_)
  have L_17 : ∀ (n : Nat) (i : Nat), (i ≤ cnt v k) → (cnt v k + 1 ≤ i + n) → (∀ b, b < i → clo v k b = false) → ∀ (ls : Array Slot), lv_has ls 4 [(3, .int (nI (6 * k + i))), (2, .int (nI (6 * k + (cnt v k)))), (0, .ref (a 0)), (1, .int (nI k))] → W p l e ({ frames := 1, cells := 0, slots := 0, locals := 22 }) s m (List.toArray [.ref (a 0), .int (nI k)]) below meth c s.heap [] 0 0 (MQ below (qRO (.int (b2i (fed1 v k)))) (List.toArray [.ref (a 0), .int (nI k)]) s 0 0 nofree) (F0 m 17 ls []) := by
    intro n
    induction n with
    | zero => intro i h1 h2 h3; exact absurd (h2) (by omega)
    | succ n ih =>
      intro i h1 h2 h3 ls hl
      refine lv_iload_n hx hb dX3_isFed_17 rfl (lv_at hl 0 rfl) ?_
      refine lv_iload_n hx hb dX3_isFed_18 rfl (lv_at hl 1 rfl) ?_
      refine lv_icmp_ge (tgt := 38) hx hb dX3_isFed_19 (by decide) (fun c_19 => ?_) (fun c_19 => ?_)
      · skip
        have c_19 := (lt_lit (by omega) (by omega)).mp c_19
        refine lv_iconst (v := 0) hx hb dX3_isFed_38 (by decide) ?_
        exact ex_ROz (b := fed1 v k) hx hb hr hlocks rfl dX3_isFed_39 (by rw [show fed1 v k = false from anyN_f (fun b hb => h3 b (by omega))]; rfl) rfl
      · skip
        have c_19 := fun q => c_19 ((lt_lit (by omega) (by omega)).mpr q)
        refine lv_aload_n hx hb dX3_isFed_22 rfl (lv_at hl 2 rfl) ?_
        refine lv_iload_n hx hb dX3_isFed_23 rfl (lv_at hl 0 rfl) ?_
        refine ro_V (As := [.int (nI (6 * k + i))]) (rest := []) ⟨hx, hb, hml, hown, hts⟩ (c_X3_isClosed l G a v _ _ (by omega) (by omega)) (cwV 1 hts gX3_isFed_X3_isClosed rfl rfl rfl (by decide +kernel) ⟨Nat.le_of_ble_eq_true rfl, Nat.le_of_ble_eq_true rfl⟩) hP hKK (va_recv hKK.1 hP (ci := 3) (q0 := 0) rfl rfl) rfl hl.1 rfl (Nat.le_of_ble_eq_true rfl) dX3_isFed_24 (Nat.zero_le _) (Nat.zero_le _) ?_
        refine lv_if_eq (tgt := 32) hx hb dX3_isFed_27 (by decide) (fun c_27 => ?_) (fun c_27 => ?_)
        · skip
          have c_27 := b2i_0 c_27
          refine lv_iinc (v := nI ((6 * k + i) + 1)) (lv' := [(3, .int (nI ((6 * k + i) + 1))), (2, .int (nI (6 * k + (cnt v k)))), (0, .ref (a 0)), (1, .int (nI k))]) hx hb dX3_isFed_32 hl (k := 0) rfl (nI_1 _) (by decide) rfl (fun ls hl => ?_)
          refine lv_goto (tgt := 17) hx hb dX3_isFed_35 (by decide) ?_
          exact ih (i + 1) (by omega) (by omega) (fun b hb => by rcases Nat.lt_succ_iff_lt_or_eq.mp hb with h | h; exact h3 b h; subst h; assumption) _ (lv_sub hl [0, 1, 2, 3] rfl)
        · skip
          have c_27 := b2i_1 c_27
          refine lv_iconst (v := 1) hx hb dX3_isFed_30 (by decide) ?_
          exact ex_ROz (b := fed1 v k) hx hb hr hlocks rfl dX3_isFed_31 (by rw [show fed1 v k = true from anyN_t (i := i) (by omega) (by assumption)]; rfl) rfl
  exact L_17 (cnt v k + 1) 0 (by omega) (by omega) (fun b hb => by omega) _ (lv_sub hl [0, 1, 2, 3] rfl)
set_option maxHeartbeats 4000000 in
set_option maxRecDepth 100000 in
/-- X3_fedRelays -/
theorem c_X3_fedRelays (l : Launch) (G : GG) (a : Nat → Nat) (v : Nat → Int32) (hI : RI v) : Met l yX3_fedRelays wsX3_fedRelays ({ frames := 2, cells := 0, slots := 0, locals := 45 }) (pcW G [.ref (a 0)] (rW G a v)) (qRO (.int (fedS v))) 0 0 nofree := by
  refine hd_RO (cc := cX3_fedRelays) (maxL := 3) (ret := some .int) (by decide) rfl (Nat.le_of_ble_eq_true rfl) ?_
  intro p e s m below meth c ls hx hb hr hts hown hlocks hml hP hKK hl
  have hl : lv_has ls 3 [(0, .ref (a 0))] := hl
  refine lv_iconst (v := 0) hx hb dX3_fedRelays_0 (by decide) ?_
  refine lv_istore_n (lv' := [(1, .int 0), (0, .ref (a 0))]) hx hb dX3_fedRelays_1 rfl hl (by decide) rfl (fun ls hl => ?_)
  refine lv_iconst (v := 0) hx hb dX3_fedRelays_2 (by decide) ?_
  refine lv_istore_n (lv' := [(2, .int 0), (1, .int 0), (0, .ref (a 0))]) hx hb dX3_fedRelays_3 rfl hl (by decide) rfl (fun ls hl => ?_)
  have L_4 : ∀ (n : Nat) (i : Nat), (i ≤ 10) → (10 + 1 ≤ i + n) → ∀ (ls : Array Slot), lv_has ls 3 [(2, .int (nI i)), (1, .int (orN i (fun r => if fed1 v r = true then shl 1 (nI r) else 0))), (0, .ref (a 0))] → W p l e ({ frames := 2, cells := 0, slots := 0, locals := 45 }) s m (List.toArray [.ref (a 0)]) below meth c s.heap [] 0 0 (MQ below (qRO (.int (fedS v))) (List.toArray [.ref (a 0)]) s 0 0 nofree) (F0 m 4 ls []) := by
    intro n
    induction n with
    | zero => intro i h1 h2; exact absurd (h2) (by omega)
    | succ n ih =>
      intro i h1 h2 ls hl
      refine lv_iload_n hx hb dX3_fedRelays_4 rfl (lv_at hl 0 rfl) ?_
      refine lv_bipush (v := 10) hx hb dX3_fedRelays_5 (by decide) ?_
      refine lv_icmp_ge (tgt := 30) hx hb dX3_fedRelays_7 (by decide) (fun c_7 => ?_) (fun c_7 => ?_)
      · skip
        have c_7 := (lt_lit (by omega) (by omega)).mp c_7
        refine lv_iload_n hx hb dX3_fedRelays_30 rfl (lv_at hl 1 rfl) ?_
        exact ex_ROi hx hb hr hlocks rfl dX3_fedRelays_31 (by rw [show i = 10 by omega]; rfl)
      · skip
        have c_7 := fun q => c_7 ((lt_lit (by omega) (by omega)).mpr q)
        refine lv_aload_n hx hb dX3_fedRelays_10 rfl (lv_at hl 2 rfl) ?_
        refine lv_iload_n hx hb dX3_fedRelays_11 rfl (lv_at hl 0 rfl) ?_
        refine ro_V (As := [.int (nI i)]) (rest := []) ⟨hx, hb, hml, hown, hts⟩ (c_X3_isFed l G a v i (by omega) (by assumption)) (cwV 1 hts gX3_fedRelays_X3_isFed rfl rfl rfl (by decide +kernel) ⟨Nat.le_of_ble_eq_true rfl, Nat.le_of_ble_eq_true rfl⟩) hP hKK (va_recv hKK.1 hP (ci := 3) (q0 := 0) rfl rfl) rfl hl.1 rfl (Nat.le_of_ble_eq_true rfl) dX3_fedRelays_12 (Nat.zero_le _) (Nat.zero_le _) ?_
        refine lv_if_eq (tgt := 24) hx hb dX3_fedRelays_15 (by decide) (fun c_15 => ?_) (fun c_15 => ?_)
        · skip
          have c_15 := b2i_0 c_15
          have hl : lv_has ls 3 [(2, .int (nI i)), (1, .int (orN (i + 1) (fun r => if fed1 v r = true then shl 1 (nI r) else 0))), (0, .ref (a 0))] := by have e_l1 : (orN i (fun r => if fed1 v r = true then shl 1 (nI r) else 0)) = (orN (i + 1) (fun r => if fed1 v r = true then shl 1 (nI r) else 0)) := by simp [orN, c_15]; rw [← e_l1]; exact hl
          refine lv_iinc (v := nI (i + 1)) (lv' := [(2, .int (nI (i + 1))), (1, .int (orN (i + 1) (fun r => if fed1 v r = true then shl 1 (nI r) else 0))), (0, .ref (a 0))]) hx hb dX3_fedRelays_24 hl (k := 0) rfl (nI_1 _) (by decide) rfl (fun ls hl => ?_)
          refine lv_goto (tgt := 4) hx hb dX3_fedRelays_27 (by decide) ?_
          exact ih (i + 1) (by omega) (by omega) _ (lv_sub hl [0, 1, 2] rfl)
        · skip
          have c_15 := b2i_1 c_15
          refine lv_iload_n hx hb dX3_fedRelays_18 rfl (lv_at hl 1 rfl) ?_
          refine lv_iconst (v := 1) hx hb dX3_fedRelays_19 (by decide) ?_
          refine lv_iload_n hx hb dX3_fedRelays_20 rfl (lv_at hl 0 rfl) ?_
          refine lv_ishl hx hb dX3_fedRelays_21 ?_
          refine lv_asi (y := shl 1 (nI i)) rfl ?_
          refine lv_ior hx hb dX3_fedRelays_22 ?_
          refine lv_asi (y := orN (i + 1) (fun r => if fed1 v r = true then shl 1 (nI r) else 0)) (by simp [orN, c_15]) ?_
          refine lv_istore_n (lv' := [(1, .int (orN (i + 1) (fun r => if fed1 v r = true then shl 1 (nI r) else 0))), (2, .int (nI i)), (0, .ref (a 0))]) hx hb dX3_fedRelays_23 rfl hl (by decide) rfl (fun ls hl => ?_)
          refine lv_iinc (v := nI (i + 1)) (lv' := [(2, .int (nI (i + 1))), (1, .int (orN (i + 1) (fun r => if fed1 v r = true then shl 1 (nI r) else 0))), (0, .ref (a 0))]) hx hb dX3_fedRelays_24 hl (k := 1) rfl (nI_1 _) (by decide) rfl (fun ls hl => ?_)
          refine lv_goto (tgt := 4) hx hb dX3_fedRelays_27 (by decide) ?_
          exact ih (i + 1) (by omega) (by omega) _ (lv_sub hl [0, 1, 2] rfl)
  exact L_4 (10 + 1) 0 (by omega) (by omega) _ (lv_sub hl [0, 1, 2] rfl)
set_option maxRecDepth 20000 in
theorem hin_X3_wantingRelays_X3 : ∀ w ∈ u_ws RX3 TX3 14, w ∈ wsX3_wantingRelays := by decide +kernel
theorem lk_X3_wantingRelays_36 : Cond.fieldLink RX3 36 "WeldedRelays$Room" "up" "I" ∈ wsX3_wantingRelays := by decide +kernel
theorem lk_X3_wantingRelays_40 : Cond.fieldLink RX3 40 "WeldedRelays$Room" "welded" "I" ∈ wsX3_wantingRelays := by decide +kernel
set_option maxHeartbeats 4000000 in
set_option maxRecDepth 100000 in
/-- X3_wantingRelays -/
theorem c_X3_wantingRelays (l : Launch) (G : GG) (a : Nat → Nat) (v : Nat → Int32) (hI : RI v) : Met l yX3_wantingRelays wsX3_wantingRelays ({ frames := 3, cells := 0, slots := 0, locals := 67 }) (pcW G [.ref (a 0)] (rW G a v)) (qRO (.int (wan v))) 0 0 nofree := by
  refine hd_RO (cc := cX3_wantingRelays) (maxL := 1) (ret := some .int) (by decide) rfl (Nat.le_of_ble_eq_true rfl) ?_
  intro p e s m below meth c ls hx hb hr hts hown hlocks hml hP hKK hl
  have hl : lv_has ls 1 [(0, .ref (a 0))] := hl
  refine lv_aload_n hx hb dX3_wantingRelays_0 rfl (lv_at hl 0 rfl) ?_
  refine ro_V (As := []) (rest := []) ⟨hx, hb, hml, hown, hts⟩ (c_X3_fedRelays l G a v (by assumption)) (cwV 0 hts gX3_wantingRelays_X3_fedRelays rfl rfl rfl (by decide +kernel) ⟨Nat.le_of_ble_eq_true rfl, Nat.le_of_ble_eq_true rfl⟩) hP hKK (va_recv hKK.1 hP (ci := 3) (q0 := 0) rfl rfl) rfl hl.1 rfl (Nat.le_of_ble_eq_true rfl) dX3_wantingRelays_1 (Nat.zero_le _) (Nat.zero_le _) ?_
  refine lv_aload_n hx hb dX3_wantingRelays_4 rfl (lv_at hl 0 rfl) ?_
  refine va_get (D := gD G) (ci := 3) (v := .int (v 0)) (C := RX3) (T := TX3) (N := 14) hx hb hts hin_X3_wantingRelays_X3 hown hKK.1 hP 0 rfl rfl 0 (by decide) (hts _ lk_X3_wantingRelays_36) (fun _ h9 => h9) rfl dX3_wantingRelays_5 ?_
  refine lv_ixor hx hb dX3_wantingRelays_8 ?_
  refine lv_aload_n hx hb dX3_wantingRelays_9 rfl (lv_at hl 0 rfl) ?_
  refine va_get (D := gD G) (ci := 3) (v := .int (v 0)) (C := RX3) (T := TX3) (N := 14) hx hb hts hin_X3_wantingRelays_X3 hown hKK.1 hP 0 rfl rfl 0 (by decide) (hts _ lk_X3_wantingRelays_36) (fun _ h9 => h9) rfl dX3_wantingRelays_10 ?_
  refine lv_aload_n hx hb dX3_wantingRelays_13 rfl (lv_at hl 0 rfl) ?_
  refine va_get (D := gD G) (ci := 3) (v := .int (v 1)) (C := RX3) (T := TX3) (N := 14) hx hb hts hin_X3_wantingRelays_X3 hown hKK.1 hP 0 rfl rfl 1 (by decide) (hts _ lk_X3_wantingRelays_40) (fun _ h9 => h9) rfl dX3_wantingRelays_14 ?_
  refine lv_iand hx hb dX3_wantingRelays_17 ?_
  refine lv_iconst (v := (-1)) hx hb dX3_wantingRelays_18 (by decide) ?_
  refine lv_ixor hx hb dX3_wantingRelays_19 ?_
  refine lv_iand hx hb dX3_wantingRelays_20 ?_
  exact ex_ROi hx hb hr hlocks rfl dX3_wantingRelays_21 (rfl)
set_option maxRecDepth 20000 in
theorem hin_X3_wear_X3 : ∀ w ∈ u_ws RX3 TX3 14, w ∈ wsX3_wear := by decide +kernel
theorem lk_X3_wear_21 : Cond.fieldLink RX3 21 "WeldedRelays$Room" "operations" "[I" ∈ wsX3_wear := by decide +kernel
theorem lk_X3_wear_46 : Cond.fieldLink RX3 46 "WeldedRelays$Room" "life" "I" ∈ wsX3_wear := by decide +kernel
theorem lk_X3_wear_40 : Cond.fieldLink RX3 40 "WeldedRelays$Room" "welded" "I" ∈ wsX3_wear := by decide +kernel
set_option maxHeartbeats 4000000 in
set_option maxRecDepth 100000 in
/-- X3_wear -/
theorem c_X3_wear (l : Launch) (G : GG) (a : Nat → Nat) (v : Nat → Int32) (k : Nat) (hk : k < 10) : Met l yX3_wear wsX3_wear ({ frames := 0, cells := 0, slots := 0, locals := 0 }) (pcM G [.ref (a 0), .int (nI k)] (rW G a v)) (qMU G none (rW G a v) (rW G a (wearF k v))) 0 0 (aA (rW G a v)) := by
  refine hd_MU (cc := cX3_wear) (maxL := 2) (ret := none) (by decide) rfl (Nat.le_of_ble_eq_true rfl) ?_
  intro p e s m below meth c ls hx hb hr hts hown hlocks hml hP hKK hD hS hl
  have hl : lv_has ls 2 [(0, .ref (a 0)), (1, .int (nI k))] := hl
  refine lv_aload_n hx hb dX3_wear_0 rfl (lv_at hl 0 rfl) ?_
  refine va_get (D := gD G) (ci := 3) (v := .ref (a 4)) (C := RX3) (T := TX3) (N := 14) hx hb hts hin_X3_wear_X3 hown hKK.1 hP 0 rfl rfl 9 (by decide) (hts _ lk_X3_wear_21) (fun _ h9 => h9) rfl dX3_wear_1 ?_
  refine lv_iload_n hx hb dX3_wear_4 rfl (lv_at hl 1 rfl) ?_
  refine lv_dup2_11 hx hb dX3_wear_5 rfl rfl ?_
  refine va_ialdN (v := v (px k 3)) hx hb hKK.1 hP 4 0 rfl rfl (rfl) (by omega) (by decide) (rfl) dX3_wear_6 ?_
  refine lv_iconst (v := 1) hx hb dX3_wear_7 (by decide) ?_
  refine lv_iadd hx hb dX3_wear_8 ?_
  refine va_iastN (x := ((v (px k 3)) + 1)) hx hb hKK.1 hP hD hS 4 0 rfl rfl (rfl) (by omega) (by decide) dX3_wear_9 (fun H locs hP hD hS => ?_)
  have e_9 := rW_setR G a v k 3 ((v (px k 3)) + 1) (by decide)
  have hP : gP G (rW G a (upd v (px k 3) ((v (px k 3)) + 1))) H := by rw [e_9]; exact hP
  have hD : va_D _ (rW G a (upd v (px k 3) ((v (px k 3)) + 1))) := by rw [e_9]; exact hD
  refine lv_aload_n hx hb dX3_wear_10 rfl (lv_at hl 0 rfl) ?_
  refine va_get (D := gD G) (ci := 3) (v := .int ((upd v (px k 3) ((v (px k 3)) + 1)) 5)) (C := RX3) (T := TX3) (N := 14) hx hb hts hin_X3_wear_X3 hown hKK.1 hP 0 rfl rfl 3 (by decide) (hts _ lk_X3_wear_46) (fun _ h9 => h9) rfl dX3_wear_11 ?_
  refine lv_if_eq (tgt := 42) hx hb dX3_wear_14 (by decide) (fun c_14 => ?_) (fun c_14 => ?_)
  · skip
    exact ex_MUv (w2 := (rW G a (upd v (px k 3) ((v (px k 3)) + 1)))) hx hb hr hlocks hP hS dX3_wear_42 (fun h => by simp only [wearF]; simp_all)
  · skip
    refine lv_aload_n hx hb dX3_wear_17 rfl (lv_at hl 0 rfl) ?_
    refine va_get (D := gD G) (ci := 3) (v := .ref (a 4)) (C := RX3) (T := TX3) (N := 14) hx hb hts hin_X3_wear_X3 hown hKK.1 hP 0 rfl rfl 9 (by decide) (hts _ lk_X3_wear_21) (fun _ h9 => h9) rfl dX3_wear_18 ?_
    refine lv_iload_n hx hb dX3_wear_21 rfl (lv_at hl 1 rfl) ?_
    refine va_ialdN (v := (upd v (px k 3) ((v (px k 3)) + 1)) (px k 3)) hx hb hKK.1 hP 4 0 rfl rfl (rfl) (by omega) (by decide) (rfl) dX3_wear_22 ?_
    refine lv_aload_n hx hb dX3_wear_23 rfl (lv_at hl 0 rfl) ?_
    refine va_get (D := gD G) (ci := 3) (v := .int ((upd v (px k 3) ((v (px k 3)) + 1)) 5)) (C := RX3) (T := TX3) (N := 14) hx hb hts hin_X3_wear_X3 hown hKK.1 hP 0 rfl rfl 3 (by decide) (hts _ lk_X3_wear_46) (fun _ h9 => h9) rfl dX3_wear_24 ?_
    refine lv_icmp_lt (tgt := 42) hx hb dX3_wear_27 (by decide) (fun c_27 => ?_) (fun c_27 => ?_)
    · skip
      exact ex_MUv (w2 := (rW G a (upd v (px k 3) ((v (px k 3)) + 1)))) hx hb hr hlocks hP hS dX3_wear_42 (fun h => by simp only [wearF]; simp_all)
    · skip
      refine lv_aload_n hx hb dX3_wear_30 rfl (lv_at hl 0 rfl) ?_
      refine lv_dup hx hb dX3_wear_31 rfl ?_
      refine va_get (D := gD G) (ci := 3) (v := .int ((upd v (px k 3) ((v (px k 3)) + 1)) 1)) (C := RX3) (T := TX3) (N := 14) hx hb hts hin_X3_wear_X3 hown hKK.1 hP 0 rfl rfl 1 (by decide) (hts _ lk_X3_wear_40) (fun _ h9 => h9) rfl dX3_wear_32 ?_
      refine lv_iconst (v := 1) hx hb dX3_wear_35 (by decide) ?_
      refine lv_iload_n hx hb dX3_wear_36 rfl (lv_at hl 1 rfl) ?_
      refine lv_ishl hx hb dX3_wear_37 ?_
      refine lv_asi (y := shl 1 (nI k)) rfl ?_
      refine lv_ior hx hb dX3_wear_38 ?_
      refine va_put (D := gD G) (ci := 3) (v := .int (((upd v (px k 3) ((v (px k 3)) + 1)) 1) ||| (shl 1 (nI k)))) (ty := .int) (C := RX3) (T := TX3) (N := 14) hx hb hts hin_X3_wear_X3 tyX3 tyX3_ok nmX3 hown hKK.1 hP hD hS 0 rfl rfl 1 (by decide) (hts _ lk_X3_wear_40) (fun _ h9 => h9) rfl (by decide +kernel) rfl rfl (Nat.le_of_ble_eq_true rfl) dX3_wear_39 (fun H locs hP hD hS => ?_)
      have e_39 := (rW_setI G a (upd v (px k 3) ((v (px k 3)) + 1)) (((upd v (px k 3) ((v (px k 3)) + 1)) 1) ||| (shl 1 (nI k)))).2.1
      have hP : gP G (rW G a (upd (upd v (px k 3) ((v (px k 3)) + 1)) 1 (((upd v (px k 3) ((v (px k 3)) + 1)) 1) ||| (shl 1 (nI k))))) H := by rw [e_39]; exact hP
      have hD : va_D _ (rW G a (upd (upd v (px k 3) ((v (px k 3)) + 1)) 1 (((upd v (px k 3) ((v (px k 3)) + 1)) 1) ||| (shl 1 (nI k))))) := by rw [e_39]; exact hD
      exact ex_MUv (w2 := (rW G a (upd (upd v (px k 3) ((v (px k 3)) + 1)) 1 (((upd v (px k 3) ((v (px k 3)) + 1)) 1) ||| (shl 1 (nI k)))))) hx hb hr hlocks hP hS dX3_wear_42 (fun h => by simp only [wearF]; simp_all)
set_option maxRecDepth 20000 in
theorem hin_X3_waitOrMove_X3 : ∀ w ∈ u_ws RX3 TX3 14, w ∈ wsX3_waitOrMove := by decide +kernel
theorem lk_X3_waitOrMove_18 : Cond.fieldLink RX3 18 "WeldedRelays$Room" "waits" "[I" ∈ wsX3_waitOrMove := by decide +kernel
theorem lk_X3_waitOrMove_36 : Cond.fieldLink RX3 36 "WeldedRelays$Room" "up" "I" ∈ wsX3_waitOrMove := by decide +kernel
theorem lk_X3_waitOrMove_9 : Cond.fieldLink RX3 9 "WeldedRelays$Room" "pickTimes" "[I" ∈ wsX3_waitOrMove := by decide +kernel
theorem lk_X3_waitOrMove_52 : Cond.fieldLink RX3 52 "WeldedRelays$Room" "moves" "I" ∈ wsX3_waitOrMove := by decide +kernel
theorem lk_X3_waitOrMove_15 : Cond.fieldLink RX3 15 "WeldedRelays$Room" "dropTimes" "[I" ∈ wsX3_waitOrMove := by decide +kernel
set_option maxHeartbeats 4000000 in
set_option maxRecDepth 100000 in
/-- X3_waitOrMove -/
theorem c_X3_waitOrMove (l : Launch) (G : GG) (a : Nat → Nat) (v : Nat → Int32) (k : Nat) (hk : k < 10) : Met l yX3_waitOrMove wsX3_waitOrMove ({ frames := 2, cells := 0, slots := 0, locals := 42 }) (pcM G [.ref (a 0), .int (nI k)] (rW G a v)) (qMU G none (rW G a v) (rW G a (waitF k v))) 0 0 (aA (rW G a v)) := by
  refine hd_MU (cc := cX3_waitOrMove) (maxL := 3) (ret := none) (by decide) rfl (Nat.le_of_ble_eq_true rfl) ?_
  intro p e s m below meth c ls hx hb hr hts hown hlocks hml hP hKK hD hS hl
  have hl : lv_has ls 3 [(0, .ref (a 0)), (1, .int (nI k))] := hl
  refine lv_aload_n hx hb dX3_waitOrMove_0 rfl (lv_at hl 0 rfl) ?_
  refine va_get (D := gD G) (ci := 3) (v := .ref (a 3)) (C := RX3) (T := TX3) (N := 14) hx hb hts hin_X3_waitOrMove_X3 hown hKK.1 hP 0 rfl rfl 8 (by decide) (hts _ lk_X3_waitOrMove_18) (fun _ h9 => h9) rfl dX3_waitOrMove_1 ?_
  refine lv_iload_n hx hb dX3_waitOrMove_4 rfl (lv_at hl 1 rfl) ?_
  refine lv_dup2_11 hx hb dX3_waitOrMove_5 rfl rfl ?_
  refine va_ialdN (v := v (px k 2)) hx hb hKK.1 hP 3 0 rfl rfl (rfl) (by omega) (by decide) (rfl) dX3_waitOrMove_6 ?_
  refine lv_iconst (v := 1) hx hb dX3_waitOrMove_7 (by decide) ?_
  refine lv_iadd hx hb dX3_waitOrMove_8 ?_
  refine va_iastN (x := ((v (px k 2)) + 1)) hx hb hKK.1 hP hD hS 3 0 rfl rfl (rfl) (by omega) (by decide) dX3_waitOrMove_9 (fun H locs hP hD hS => ?_)
  have e_9 := rW_setR G a v k 2 ((v (px k 2)) + 1) (by decide)
  have hP : gP G (rW G a (upd v (px k 2) ((v (px k 2)) + 1))) H := by rw [e_9]; exact hP
  have hD : va_D _ (rW G a (upd v (px k 2) ((v (px k 2)) + 1))) := by rw [e_9]; exact hD
  refine lv_aload_n hx hb dX3_waitOrMove_10 rfl (lv_at hl 0 rfl) ?_
  refine va_get (D := gD G) (ci := 3) (v := .int ((upd v (px k 2) ((v (px k 2)) + 1)) 0)) (C := RX3) (T := TX3) (N := 14) hx hb hts hin_X3_waitOrMove_X3 hown hKK.1 hP 0 rfl rfl 0 (by decide) (hts _ lk_X3_waitOrMove_36) (fun _ h9 => h9) rfl dX3_waitOrMove_11 ?_
  refine lv_iload_n hx hb dX3_waitOrMove_14 rfl (lv_at hl 1 rfl) ?_
  refine ro_SN (As := [.int ((upd v (px k 2) ((v (px k 2)) + 1)) 0), .int (nI k)]) (rest := []) ⟨hx, hb, hml, hown, hts⟩ (c_X4_isIn l G ((upd v (px k 2) ((v (px k 2)) + 1)) 0) (nI k)) ⟨va_cnB 2 hts gX3_waitOrMove_X4_isIn_n86 rfl rfl rfl (hKK.2.1 _ (List.mem_of_getElem? (i := 5) rfl)) (hts (.initialized RX4) (by decide +kernel)) (by decide +kernel) ⟨Nat.le_of_ble_eq_true rfl, Nat.le_of_ble_eq_true rfl⟩, hts (.static yX4_isIn) (by decide +kernel), trivial⟩ (show gP G [] _ from fun k q h => by simp at h) hKK rfl hl.1 rfl (Nat.le_of_ble_eq_true rfl) dX3_waitOrMove_15 (Nat.zero_le _) (Nat.zero_le _) ?_
  refine lv_if_eq (tgt := 30) hx hb dX3_waitOrMove_18 (by decide) (fun c_18 => ?_) (fun c_18 => ?_)
  · skip
    have c_18 := b2i_0 c_18
    refine lv_aload_n hx hb dX3_waitOrMove_30 rfl (lv_at hl 0 rfl) ?_
    refine va_get (D := gD G) (ci := 3) (v := .ref (a 1)) (C := RX3) (T := TX3) (N := 14) hx hb hts hin_X3_waitOrMove_X3 hown hKK.1 hP 0 rfl rfl 6 (by decide) (hts _ lk_X3_waitOrMove_9) (fun _ h9 => h9) rfl dX3_waitOrMove_31 ?_
    refine lv_iload_n hx hb dX3_waitOrMove_34 rfl (lv_at hl 1 rfl) ?_
    refine va_ialdN (v := (upd v (px k 2) ((v (px k 2)) + 1)) (px k 0)) hx hb hKK.1 hP 1 0 rfl rfl (rfl) (by omega) (by decide) (rfl) dX3_waitOrMove_35 ?_
    refine lv_istore_n (lv' := [(2, .int ((upd v (px k 2) ((v (px k 2)) + 1)) (px k 0))), (0, .ref (a 0)), (1, .int (nI k))]) hx hb dX3_waitOrMove_36 rfl hl (by decide) rfl (fun ls hl => ?_)
    refine lv_aload_n hx hb dX3_waitOrMove_37 rfl (lv_at hl 1 rfl) ?_
    refine va_get (D := gD G) (ci := 3) (v := .ref (a 3)) (C := RX3) (T := TX3) (N := 14) hx hb hts hin_X3_waitOrMove_X3 hown hKK.1 hP 0 rfl rfl 8 (by decide) (hts _ lk_X3_waitOrMove_18) (fun _ h9 => h9) rfl dX3_waitOrMove_38 ?_
    refine lv_iload_n hx hb dX3_waitOrMove_41 rfl (lv_at hl 2 rfl) ?_
    refine va_ialdN (v := (upd v (px k 2) ((v (px k 2)) + 1)) (px k 2)) hx hb hKK.1 hP 3 0 rfl rfl (rfl) (by omega) (by decide) (rfl) dX3_waitOrMove_42 ?_
    refine lv_iload_n hx hb dX3_waitOrMove_43 rfl (lv_at hl 0 rfl) ?_
    refine lv_icmp_lt (tgt := 92) hx hb dX3_waitOrMove_44 (by decide) (fun c_44 => ?_) (fun c_44 => ?_)
    · skip
      exact ex_MUv (w2 := (rW G a (upd v (px k 2) ((v (px k 2)) + 1)))) hx hb hr hlocks hP hS dX3_waitOrMove_92 (fun h => by simp only [waitF, moveF]; simp_all)
    · skip
      refine lv_aload_n hx hb dX3_waitOrMove_47 rfl (lv_at hl 1 rfl) ?_
      refine va_get (D := gD G) (ci := 3) (v := .ref (a 3)) (C := RX3) (T := TX3) (N := 14) hx hb hts hin_X3_waitOrMove_X3 hown hKK.1 hP 0 rfl rfl 8 (by decide) (hts _ lk_X3_waitOrMove_18) (fun _ h9 => h9) rfl dX3_waitOrMove_48 ?_
      refine lv_iload_n hx hb dX3_waitOrMove_51 rfl (lv_at hl 2 rfl) ?_
      refine lv_iconst (v := 0) hx hb dX3_waitOrMove_52 (by decide) ?_
      refine va_iastN (x := 0) hx hb hKK.1 hP hD hS 3 0 rfl rfl (rfl) (by omega) (by decide) dX3_waitOrMove_53 (fun H locs hP hD hS => ?_)
      have e_53 := rW_setR G a (upd v (px k 2) ((v (px k 2)) + 1)) k 2 0 (by decide)
      have hP : gP G (rW G a (upd (upd v (px k 2) ((v (px k 2)) + 1)) (px k 2) 0)) H := by rw [e_53]; exact hP
      have hD : va_D _ (rW G a (upd (upd v (px k 2) ((v (px k 2)) + 1)) (px k 2) 0)) := by rw [e_53]; exact hD
      refine lv_aload_n hx hb dX3_waitOrMove_54 rfl (lv_at hl 1 rfl) ?_
      refine lv_dup hx hb dX3_waitOrMove_55 rfl ?_
      refine va_get (D := gD G) (ci := 3) (v := .int ((upd (upd v (px k 2) ((v (px k 2)) + 1)) (px k 2) 0) 4)) (C := RX3) (T := TX3) (N := 14) hx hb hts hin_X3_waitOrMove_X3 hown hKK.1 hP 0 rfl rfl 5 (by decide) (hts _ lk_X3_waitOrMove_52) (fun _ h9 => h9) rfl dX3_waitOrMove_56 ?_
      refine lv_iconst (v := 1) hx hb dX3_waitOrMove_59 (by decide) ?_
      refine lv_iadd hx hb dX3_waitOrMove_60 ?_
      refine va_put (D := gD G) (ci := 3) (v := .int (((upd (upd v (px k 2) ((v (px k 2)) + 1)) (px k 2) 0) 4) + 1)) (ty := .int) (C := RX3) (T := TX3) (N := 14) hx hb hts hin_X3_waitOrMove_X3 tyX3 tyX3_ok nmX3 hown hKK.1 hP hD hS 0 rfl rfl 5 (by decide) (hts _ lk_X3_waitOrMove_52) (fun _ h9 => h9) rfl (by decide +kernel) rfl rfl (Nat.le_of_ble_eq_true rfl) dX3_waitOrMove_61 (fun H locs hP hD hS => ?_)
      have e_61 := (rW_setI G a (upd (upd v (px k 2) ((v (px k 2)) + 1)) (px k 2) 0) (((upd (upd v (px k 2) ((v (px k 2)) + 1)) (px k 2) 0) 4) + 1)).2.2.2.2.2
      have hP : gP G (rW G a (upd (upd (upd v (px k 2) ((v (px k 2)) + 1)) (px k 2) 0) 4 (((upd (upd v (px k 2) ((v (px k 2)) + 1)) (px k 2) 0) 4) + 1))) H := by rw [e_61]; exact hP
      have hD : va_D _ (rW G a (upd (upd (upd v (px k 2) ((v (px k 2)) + 1)) (px k 2) 0) 4 (((upd (upd v (px k 2) ((v (px k 2)) + 1)) (px k 2) 0) 4) + 1))) := by rw [e_61]; exact hD
      refine lv_aload_n hx hb dX3_waitOrMove_64 rfl (lv_at hl 1 rfl) ?_
      refine lv_dup hx hb dX3_waitOrMove_65 rfl ?_
      refine va_get (D := gD G) (ci := 3) (v := .int ((upd (upd (upd v (px k 2) ((v (px k 2)) + 1)) (px k 2) 0) 4 (((upd (upd v (px k 2) ((v (px k 2)) + 1)) (px k 2) 0) 4) + 1)) 0)) (C := RX3) (T := TX3) (N := 14) hx hb hts hin_X3_waitOrMove_X3 hown hKK.1 hP 0 rfl rfl 0 (by decide) (hts _ lk_X3_waitOrMove_36) (fun _ h9 => h9) rfl dX3_waitOrMove_66 ?_
      refine lv_iconst (v := 1) hx hb dX3_waitOrMove_69 (by decide) ?_
      refine lv_iload_n hx hb dX3_waitOrMove_70 rfl (lv_at hl 2 rfl) ?_
      refine lv_ishl hx hb dX3_waitOrMove_71 ?_
      refine lv_asi (y := shl 1 (nI k)) rfl ?_
      refine lv_ixor hx hb dX3_waitOrMove_72 ?_
      refine va_put (D := gD G) (ci := 3) (v := .int (((upd (upd (upd v (px k 2) ((v (px k 2)) + 1)) (px k 2) 0) 4 (((upd (upd v (px k 2) ((v (px k 2)) + 1)) (px k 2) 0) 4) + 1)) 0) ^^^ (shl 1 (nI k)))) (ty := .int) (C := RX3) (T := TX3) (N := 14) hx hb hts hin_X3_waitOrMove_X3 tyX3 tyX3_ok nmX3 hown hKK.1 hP hD hS 0 rfl rfl 0 (by decide) (hts _ lk_X3_waitOrMove_36) (fun _ h9 => h9) rfl (by decide +kernel) rfl rfl (Nat.le_of_ble_eq_true rfl) dX3_waitOrMove_73 (fun H locs hP hD hS => ?_)
      have e_73 := (rW_setI G a (upd (upd (upd v (px k 2) ((v (px k 2)) + 1)) (px k 2) 0) 4 (((upd (upd v (px k 2) ((v (px k 2)) + 1)) (px k 2) 0) 4) + 1)) (((upd (upd (upd v (px k 2) ((v (px k 2)) + 1)) (px k 2) 0) 4 (((upd (upd v (px k 2) ((v (px k 2)) + 1)) (px k 2) 0) 4) + 1)) 0) ^^^ (shl 1 (nI k)))).1
      have hP : gP G (rW G a (upd (upd (upd (upd v (px k 2) ((v (px k 2)) + 1)) (px k 2) 0) 4 (((upd (upd v (px k 2) ((v (px k 2)) + 1)) (px k 2) 0) 4) + 1)) 0 (((upd (upd (upd v (px k 2) ((v (px k 2)) + 1)) (px k 2) 0) 4 (((upd (upd v (px k 2) ((v (px k 2)) + 1)) (px k 2) 0) 4) + 1)) 0) ^^^ (shl 1 (nI k))))) H := by rw [e_73]; exact hP
      have hD : va_D _ (rW G a (upd (upd (upd (upd v (px k 2) ((v (px k 2)) + 1)) (px k 2) 0) 4 (((upd (upd v (px k 2) ((v (px k 2)) + 1)) (px k 2) 0) 4) + 1)) 0 (((upd (upd (upd v (px k 2) ((v (px k 2)) + 1)) (px k 2) 0) 4 (((upd (upd v (px k 2) ((v (px k 2)) + 1)) (px k 2) 0) 4) + 1)) 0) ^^^ (shl 1 (nI k))))) := by rw [e_73]; exact hD
      refine lv_aload_n hx hb dX3_waitOrMove_76 rfl (lv_at hl 1 rfl) ?_
      refine va_get (D := gD G) (ci := 3) (v := .int ((upd (upd (upd (upd v (px k 2) ((v (px k 2)) + 1)) (px k 2) 0) 4 (((upd (upd v (px k 2) ((v (px k 2)) + 1)) (px k 2) 0) 4) + 1)) 0 (((upd (upd (upd v (px k 2) ((v (px k 2)) + 1)) (px k 2) 0) 4 (((upd (upd v (px k 2) ((v (px k 2)) + 1)) (px k 2) 0) 4) + 1)) 0) ^^^ (shl 1 (nI k)))) 0)) (C := RX3) (T := TX3) (N := 14) hx hb hts hin_X3_waitOrMove_X3 hown hKK.1 hP 0 rfl rfl 0 (by decide) (hts _ lk_X3_waitOrMove_36) (fun _ h9 => h9) rfl dX3_waitOrMove_77 ?_
      refine lv_iload_n hx hb dX3_waitOrMove_80 rfl (lv_at hl 2 rfl) ?_
      refine ro_SN (As := [.int ((upd (upd (upd (upd v (px k 2) ((v (px k 2)) + 1)) (px k 2) 0) 4 (((upd (upd v (px k 2) ((v (px k 2)) + 1)) (px k 2) 0) 4) + 1)) 0 (((upd (upd (upd v (px k 2) ((v (px k 2)) + 1)) (px k 2) 0) 4 (((upd (upd v (px k 2) ((v (px k 2)) + 1)) (px k 2) 0) 4) + 1)) 0) ^^^ (shl 1 (nI k)))) 0), .int (nI k)]) (rest := []) ⟨hx, hb, hml, hown, hts⟩ (c_X4_isIn l G ((upd (upd (upd (upd v (px k 2) ((v (px k 2)) + 1)) (px k 2) 0) 4 (((upd (upd v (px k 2) ((v (px k 2)) + 1)) (px k 2) 0) 4) + 1)) 0 (((upd (upd (upd v (px k 2) ((v (px k 2)) + 1)) (px k 2) 0) 4 (((upd (upd v (px k 2) ((v (px k 2)) + 1)) (px k 2) 0) 4) + 1)) 0) ^^^ (shl 1 (nI k)))) 0) (nI k)) ⟨va_cnB 2 hts gX3_waitOrMove_X4_isIn_n86 rfl rfl rfl (hKK.2.1 _ (List.mem_of_getElem? (i := 5) rfl)) (hts (.initialized RX4) (by decide +kernel)) (by decide +kernel) ⟨Nat.le_of_ble_eq_true rfl, Nat.le_of_ble_eq_true rfl⟩, hts (.static yX4_isIn) (by decide +kernel), trivial⟩ (show gP G [] _ from fun k q h => by simp at h) hKK rfl hl.1 rfl (Nat.le_of_ble_eq_true rfl) dX3_waitOrMove_81 (Nat.zero_le _) (Nat.zero_le _) ?_
      refine lv_if_eq (tgt := 92) hx hb dX3_waitOrMove_84 (by decide) (fun c_84 => ?_) (fun c_84 => ?_)
      · skip
        have c_84 := b2i_0 c_84
        exact ex_MUv (w2 := (rW G a (upd (upd (upd (upd v (px k 2) ((v (px k 2)) + 1)) (px k 2) 0) 4 (((upd (upd v (px k 2) ((v (px k 2)) + 1)) (px k 2) 0) 4) + 1)) 0 (((upd (upd (upd v (px k 2) ((v (px k 2)) + 1)) (px k 2) 0) 4 (((upd (upd v (px k 2) ((v (px k 2)) + 1)) (px k 2) 0) 4) + 1)) 0) ^^^ (shl 1 (nI k)))))) hx hb hr hlocks hP hS dX3_waitOrMove_92 (fun h => by simp only [waitF, moveF]; simp_all)
      · skip
        have c_84 := b2i_1 c_84
        refine lv_aload_n hx hb dX3_waitOrMove_87 rfl (lv_at hl 1 rfl) ?_
        refine lv_iload_n hx hb dX3_waitOrMove_88 rfl (lv_at hl 2 rfl) ?_
        refine mu_V (As := [.int (nI k)]) (rest := []) ⟨hx, hb, hml, hown, hts⟩ (c_X3_wear l G a (upd (upd (upd (upd v (px k 2) ((v (px k 2)) + 1)) (px k 2) 0) 4 (((upd (upd v (px k 2) ((v (px k 2)) + 1)) (px k 2) 0) 4) + 1)) 0 (((upd (upd (upd v (px k 2) ((v (px k 2)) + 1)) (px k 2) 0) 4 (((upd (upd v (px k 2) ((v (px k 2)) + 1)) (px k 2) 0) 4) + 1)) 0) ^^^ (shl 1 (nI k)))) k (by omega)) (cwV 1 hts gX3_waitOrMove_X3_wear rfl rfl rfl (by decide +kernel) ⟨Nat.le_of_ble_eq_true rfl, Nat.le_of_ble_eq_true rfl⟩) hP hKK hD hS (va_recv hKK.1 hP (ci := 3) (q0 := 0) rfl rfl) rfl hl.1 rfl (Nat.le_of_ble_eq_true rfl) dX3_waitOrMove_89 (Nat.zero_le _) (Nat.zero_le _) rfl (fun H locs hP hD hS => ?_)
        exact ex_MUv (w2 := (rW G a (wearF k (upd (upd (upd (upd v (px k 2) ((v (px k 2)) + 1)) (px k 2) 0) 4 (((upd (upd v (px k 2) ((v (px k 2)) + 1)) (px k 2) 0) 4) + 1)) 0 (((upd (upd (upd v (px k 2) ((v (px k 2)) + 1)) (px k 2) 0) 4 (((upd (upd v (px k 2) ((v (px k 2)) + 1)) (px k 2) 0) 4) + 1)) 0) ^^^ (shl 1 (nI k))))))) hx hb hr hlocks hP hS dX3_waitOrMove_92 (fun h => by simp only [waitF, moveF]; simp_all)
  · skip
    have c_18 := b2i_1 c_18
    refine lv_aload_n hx hb dX3_waitOrMove_21 rfl (lv_at hl 0 rfl) ?_
    refine va_get (D := gD G) (ci := 3) (v := .ref (a 2)) (C := RX3) (T := TX3) (N := 14) hx hb hts hin_X3_waitOrMove_X3 hown hKK.1 hP 0 rfl rfl 7 (by decide) (hts _ lk_X3_waitOrMove_15) (fun _ h9 => h9) rfl dX3_waitOrMove_22 ?_
    refine lv_iload_n hx hb dX3_waitOrMove_25 rfl (lv_at hl 1 rfl) ?_
    refine va_ialdN (v := (upd v (px k 2) ((v (px k 2)) + 1)) (px k 1)) hx hb hKK.1 hP 2 0 rfl rfl (rfl) (by omega) (by decide) (rfl) dX3_waitOrMove_26 ?_
    refine lv_goto (tgt := 36) hx hb dX3_waitOrMove_27 (by decide) ?_
    refine lv_istore_n (lv' := [(2, .int ((upd v (px k 2) ((v (px k 2)) + 1)) (px k 1))), (0, .ref (a 0)), (1, .int (nI k))]) hx hb dX3_waitOrMove_36 rfl hl (by decide) rfl (fun ls hl => ?_)
    refine lv_aload_n hx hb dX3_waitOrMove_37 rfl (lv_at hl 1 rfl) ?_
    refine va_get (D := gD G) (ci := 3) (v := .ref (a 3)) (C := RX3) (T := TX3) (N := 14) hx hb hts hin_X3_waitOrMove_X3 hown hKK.1 hP 0 rfl rfl 8 (by decide) (hts _ lk_X3_waitOrMove_18) (fun _ h9 => h9) rfl dX3_waitOrMove_38 ?_
    refine lv_iload_n hx hb dX3_waitOrMove_41 rfl (lv_at hl 2 rfl) ?_
    refine va_ialdN (v := (upd v (px k 2) ((v (px k 2)) + 1)) (px k 2)) hx hb hKK.1 hP 3 0 rfl rfl (rfl) (by omega) (by decide) (rfl) dX3_waitOrMove_42 ?_
    refine lv_iload_n hx hb dX3_waitOrMove_43 rfl (lv_at hl 0 rfl) ?_
    refine lv_icmp_lt (tgt := 92) hx hb dX3_waitOrMove_44 (by decide) (fun c_44 => ?_) (fun c_44 => ?_)
    · skip
      exact ex_MUv (w2 := (rW G a (upd v (px k 2) ((v (px k 2)) + 1)))) hx hb hr hlocks hP hS dX3_waitOrMove_92 (fun h => by simp only [waitF, moveF]; simp_all)
    · skip
      refine lv_aload_n hx hb dX3_waitOrMove_47 rfl (lv_at hl 1 rfl) ?_
      refine va_get (D := gD G) (ci := 3) (v := .ref (a 3)) (C := RX3) (T := TX3) (N := 14) hx hb hts hin_X3_waitOrMove_X3 hown hKK.1 hP 0 rfl rfl 8 (by decide) (hts _ lk_X3_waitOrMove_18) (fun _ h9 => h9) rfl dX3_waitOrMove_48 ?_
      refine lv_iload_n hx hb dX3_waitOrMove_51 rfl (lv_at hl 2 rfl) ?_
      refine lv_iconst (v := 0) hx hb dX3_waitOrMove_52 (by decide) ?_
      refine va_iastN (x := 0) hx hb hKK.1 hP hD hS 3 0 rfl rfl (rfl) (by omega) (by decide) dX3_waitOrMove_53 (fun H locs hP hD hS => ?_)
      have e_53 := rW_setR G a (upd v (px k 2) ((v (px k 2)) + 1)) k 2 0 (by decide)
      have hP : gP G (rW G a (upd (upd v (px k 2) ((v (px k 2)) + 1)) (px k 2) 0)) H := by rw [e_53]; exact hP
      have hD : va_D _ (rW G a (upd (upd v (px k 2) ((v (px k 2)) + 1)) (px k 2) 0)) := by rw [e_53]; exact hD
      refine lv_aload_n hx hb dX3_waitOrMove_54 rfl (lv_at hl 1 rfl) ?_
      refine lv_dup hx hb dX3_waitOrMove_55 rfl ?_
      refine va_get (D := gD G) (ci := 3) (v := .int ((upd (upd v (px k 2) ((v (px k 2)) + 1)) (px k 2) 0) 4)) (C := RX3) (T := TX3) (N := 14) hx hb hts hin_X3_waitOrMove_X3 hown hKK.1 hP 0 rfl rfl 5 (by decide) (hts _ lk_X3_waitOrMove_52) (fun _ h9 => h9) rfl dX3_waitOrMove_56 ?_
      refine lv_iconst (v := 1) hx hb dX3_waitOrMove_59 (by decide) ?_
      refine lv_iadd hx hb dX3_waitOrMove_60 ?_
      refine va_put (D := gD G) (ci := 3) (v := .int (((upd (upd v (px k 2) ((v (px k 2)) + 1)) (px k 2) 0) 4) + 1)) (ty := .int) (C := RX3) (T := TX3) (N := 14) hx hb hts hin_X3_waitOrMove_X3 tyX3 tyX3_ok nmX3 hown hKK.1 hP hD hS 0 rfl rfl 5 (by decide) (hts _ lk_X3_waitOrMove_52) (fun _ h9 => h9) rfl (by decide +kernel) rfl rfl (Nat.le_of_ble_eq_true rfl) dX3_waitOrMove_61 (fun H locs hP hD hS => ?_)
      have e_61 := (rW_setI G a (upd (upd v (px k 2) ((v (px k 2)) + 1)) (px k 2) 0) (((upd (upd v (px k 2) ((v (px k 2)) + 1)) (px k 2) 0) 4) + 1)).2.2.2.2.2
      have hP : gP G (rW G a (upd (upd (upd v (px k 2) ((v (px k 2)) + 1)) (px k 2) 0) 4 (((upd (upd v (px k 2) ((v (px k 2)) + 1)) (px k 2) 0) 4) + 1))) H := by rw [e_61]; exact hP
      have hD : va_D _ (rW G a (upd (upd (upd v (px k 2) ((v (px k 2)) + 1)) (px k 2) 0) 4 (((upd (upd v (px k 2) ((v (px k 2)) + 1)) (px k 2) 0) 4) + 1))) := by rw [e_61]; exact hD
      refine lv_aload_n hx hb dX3_waitOrMove_64 rfl (lv_at hl 1 rfl) ?_
      refine lv_dup hx hb dX3_waitOrMove_65 rfl ?_
      refine va_get (D := gD G) (ci := 3) (v := .int ((upd (upd (upd v (px k 2) ((v (px k 2)) + 1)) (px k 2) 0) 4 (((upd (upd v (px k 2) ((v (px k 2)) + 1)) (px k 2) 0) 4) + 1)) 0)) (C := RX3) (T := TX3) (N := 14) hx hb hts hin_X3_waitOrMove_X3 hown hKK.1 hP 0 rfl rfl 0 (by decide) (hts _ lk_X3_waitOrMove_36) (fun _ h9 => h9) rfl dX3_waitOrMove_66 ?_
      refine lv_iconst (v := 1) hx hb dX3_waitOrMove_69 (by decide) ?_
      refine lv_iload_n hx hb dX3_waitOrMove_70 rfl (lv_at hl 2 rfl) ?_
      refine lv_ishl hx hb dX3_waitOrMove_71 ?_
      refine lv_asi (y := shl 1 (nI k)) rfl ?_
      refine lv_ixor hx hb dX3_waitOrMove_72 ?_
      refine va_put (D := gD G) (ci := 3) (v := .int (((upd (upd (upd v (px k 2) ((v (px k 2)) + 1)) (px k 2) 0) 4 (((upd (upd v (px k 2) ((v (px k 2)) + 1)) (px k 2) 0) 4) + 1)) 0) ^^^ (shl 1 (nI k)))) (ty := .int) (C := RX3) (T := TX3) (N := 14) hx hb hts hin_X3_waitOrMove_X3 tyX3 tyX3_ok nmX3 hown hKK.1 hP hD hS 0 rfl rfl 0 (by decide) (hts _ lk_X3_waitOrMove_36) (fun _ h9 => h9) rfl (by decide +kernel) rfl rfl (Nat.le_of_ble_eq_true rfl) dX3_waitOrMove_73 (fun H locs hP hD hS => ?_)
      have e_73 := (rW_setI G a (upd (upd (upd v (px k 2) ((v (px k 2)) + 1)) (px k 2) 0) 4 (((upd (upd v (px k 2) ((v (px k 2)) + 1)) (px k 2) 0) 4) + 1)) (((upd (upd (upd v (px k 2) ((v (px k 2)) + 1)) (px k 2) 0) 4 (((upd (upd v (px k 2) ((v (px k 2)) + 1)) (px k 2) 0) 4) + 1)) 0) ^^^ (shl 1 (nI k)))).1
      have hP : gP G (rW G a (upd (upd (upd (upd v (px k 2) ((v (px k 2)) + 1)) (px k 2) 0) 4 (((upd (upd v (px k 2) ((v (px k 2)) + 1)) (px k 2) 0) 4) + 1)) 0 (((upd (upd (upd v (px k 2) ((v (px k 2)) + 1)) (px k 2) 0) 4 (((upd (upd v (px k 2) ((v (px k 2)) + 1)) (px k 2) 0) 4) + 1)) 0) ^^^ (shl 1 (nI k))))) H := by rw [e_73]; exact hP
      have hD : va_D _ (rW G a (upd (upd (upd (upd v (px k 2) ((v (px k 2)) + 1)) (px k 2) 0) 4 (((upd (upd v (px k 2) ((v (px k 2)) + 1)) (px k 2) 0) 4) + 1)) 0 (((upd (upd (upd v (px k 2) ((v (px k 2)) + 1)) (px k 2) 0) 4 (((upd (upd v (px k 2) ((v (px k 2)) + 1)) (px k 2) 0) 4) + 1)) 0) ^^^ (shl 1 (nI k))))) := by rw [e_73]; exact hD
      refine lv_aload_n hx hb dX3_waitOrMove_76 rfl (lv_at hl 1 rfl) ?_
      refine va_get (D := gD G) (ci := 3) (v := .int ((upd (upd (upd (upd v (px k 2) ((v (px k 2)) + 1)) (px k 2) 0) 4 (((upd (upd v (px k 2) ((v (px k 2)) + 1)) (px k 2) 0) 4) + 1)) 0 (((upd (upd (upd v (px k 2) ((v (px k 2)) + 1)) (px k 2) 0) 4 (((upd (upd v (px k 2) ((v (px k 2)) + 1)) (px k 2) 0) 4) + 1)) 0) ^^^ (shl 1 (nI k)))) 0)) (C := RX3) (T := TX3) (N := 14) hx hb hts hin_X3_waitOrMove_X3 hown hKK.1 hP 0 rfl rfl 0 (by decide) (hts _ lk_X3_waitOrMove_36) (fun _ h9 => h9) rfl dX3_waitOrMove_77 ?_
      refine lv_iload_n hx hb dX3_waitOrMove_80 rfl (lv_at hl 2 rfl) ?_
      refine ro_SN (As := [.int ((upd (upd (upd (upd v (px k 2) ((v (px k 2)) + 1)) (px k 2) 0) 4 (((upd (upd v (px k 2) ((v (px k 2)) + 1)) (px k 2) 0) 4) + 1)) 0 (((upd (upd (upd v (px k 2) ((v (px k 2)) + 1)) (px k 2) 0) 4 (((upd (upd v (px k 2) ((v (px k 2)) + 1)) (px k 2) 0) 4) + 1)) 0) ^^^ (shl 1 (nI k)))) 0), .int (nI k)]) (rest := []) ⟨hx, hb, hml, hown, hts⟩ (c_X4_isIn l G ((upd (upd (upd (upd v (px k 2) ((v (px k 2)) + 1)) (px k 2) 0) 4 (((upd (upd v (px k 2) ((v (px k 2)) + 1)) (px k 2) 0) 4) + 1)) 0 (((upd (upd (upd v (px k 2) ((v (px k 2)) + 1)) (px k 2) 0) 4 (((upd (upd v (px k 2) ((v (px k 2)) + 1)) (px k 2) 0) 4) + 1)) 0) ^^^ (shl 1 (nI k)))) 0) (nI k)) ⟨va_cnB 2 hts gX3_waitOrMove_X4_isIn_n86 rfl rfl rfl (hKK.2.1 _ (List.mem_of_getElem? (i := 5) rfl)) (hts (.initialized RX4) (by decide +kernel)) (by decide +kernel) ⟨Nat.le_of_ble_eq_true rfl, Nat.le_of_ble_eq_true rfl⟩, hts (.static yX4_isIn) (by decide +kernel), trivial⟩ (show gP G [] _ from fun k q h => by simp at h) hKK rfl hl.1 rfl (Nat.le_of_ble_eq_true rfl) dX3_waitOrMove_81 (Nat.zero_le _) (Nat.zero_le _) ?_
      refine lv_if_eq (tgt := 92) hx hb dX3_waitOrMove_84 (by decide) (fun c_84 => ?_) (fun c_84 => ?_)
      · skip
        have c_84 := b2i_0 c_84
        exact ex_MUv (w2 := (rW G a (upd (upd (upd (upd v (px k 2) ((v (px k 2)) + 1)) (px k 2) 0) 4 (((upd (upd v (px k 2) ((v (px k 2)) + 1)) (px k 2) 0) 4) + 1)) 0 (((upd (upd (upd v (px k 2) ((v (px k 2)) + 1)) (px k 2) 0) 4 (((upd (upd v (px k 2) ((v (px k 2)) + 1)) (px k 2) 0) 4) + 1)) 0) ^^^ (shl 1 (nI k)))))) hx hb hr hlocks hP hS dX3_waitOrMove_92 (fun h => by simp only [waitF, moveF]; simp_all)
      · skip
        have c_84 := b2i_1 c_84
        refine lv_aload_n hx hb dX3_waitOrMove_87 rfl (lv_at hl 1 rfl) ?_
        refine lv_iload_n hx hb dX3_waitOrMove_88 rfl (lv_at hl 2 rfl) ?_
        refine mu_V (As := [.int (nI k)]) (rest := []) ⟨hx, hb, hml, hown, hts⟩ (c_X3_wear l G a (upd (upd (upd (upd v (px k 2) ((v (px k 2)) + 1)) (px k 2) 0) 4 (((upd (upd v (px k 2) ((v (px k 2)) + 1)) (px k 2) 0) 4) + 1)) 0 (((upd (upd (upd v (px k 2) ((v (px k 2)) + 1)) (px k 2) 0) 4 (((upd (upd v (px k 2) ((v (px k 2)) + 1)) (px k 2) 0) 4) + 1)) 0) ^^^ (shl 1 (nI k)))) k (by omega)) (cwV 1 hts gX3_waitOrMove_X3_wear rfl rfl rfl (by decide +kernel) ⟨Nat.le_of_ble_eq_true rfl, Nat.le_of_ble_eq_true rfl⟩) hP hKK hD hS (va_recv hKK.1 hP (ci := 3) (q0 := 0) rfl rfl) rfl hl.1 rfl (Nat.le_of_ble_eq_true rfl) dX3_waitOrMove_89 (Nat.zero_le _) (Nat.zero_le _) rfl (fun H locs hP hD hS => ?_)
        exact ex_MUv (w2 := (rW G a (wearF k (upd (upd (upd (upd v (px k 2) ((v (px k 2)) + 1)) (px k 2) 0) 4 (((upd (upd v (px k 2) ((v (px k 2)) + 1)) (px k 2) 0) 4) + 1)) 0 (((upd (upd (upd v (px k 2) ((v (px k 2)) + 1)) (px k 2) 0) 4 (((upd (upd v (px k 2) ((v (px k 2)) + 1)) (px k 2) 0) 4) + 1)) 0) ^^^ (shl 1 (nI k))))))) hx hb hr hlocks hP hS dX3_waitOrMove_92 (fun h => by simp only [waitF, moveF]; simp_all)
set_option maxRecDepth 20000 in
theorem hin_X3_passTick_X3 : ∀ w ∈ u_ws RX3 TX3 14, w ∈ wsX3_passTick := by decide +kernel
theorem lk_X3_passTick_49 : Cond.fieldLink RX3 49 "WeldedRelays$Room" "ticks" "I" ∈ wsX3_passTick := by decide +kernel
theorem lk_X3_passTick_18 : Cond.fieldLink RX3 18 "WeldedRelays$Room" "waits" "[I" ∈ wsX3_passTick := by decide +kernel
set_option maxHeartbeats 4000000 in
set_option maxRecDepth 100000 in
/-- X3_passTick -/
theorem c_X3_passTick (l : Launch) (G : GG) (a : Nat → Nat) (v : Nat → Int32) (w : Int32) : Met l yX3_passTick wsX3_passTick ({ frames := 3, cells := 0, slots := 0, locals := 64 }) (pcM G [.ref (a 0), .int w] (rW G a v)) (qMU G none (rW G a v) (rW G a (tickW w v))) 0 0 (aA (rW G a v)) := by
  refine hd_MU (cc := cX3_passTick) (maxL := 3) (ret := none) (by decide) rfl (Nat.le_of_ble_eq_true rfl) ?_
  intro p e s m below meth c ls hx hb hr hts hown hlocks hml hP hKK hD hS hl
  have hl : lv_has ls 3 [(0, .ref (a 0)), (1, .int w)] := hl
  refine lv_aload_n hx hb dX3_passTick_0 rfl (lv_at hl 0 rfl) ?_
  refine lv_dup hx hb dX3_passTick_1 rfl ?_
  refine va_get (D := gD G) (ci := 3) (v := .int (v 3)) (C := RX3) (T := TX3) (N := 14) hx hb hts hin_X3_passTick_X3 hown hKK.1 hP 0 rfl rfl 4 (by decide) (hts _ lk_X3_passTick_49) (fun _ h9 => h9) rfl dX3_passTick_2 ?_
  refine lv_iconst (v := 1) hx hb dX3_passTick_5 (by decide) ?_
  refine lv_iadd hx hb dX3_passTick_6 ?_
  refine va_put (D := gD G) (ci := 3) (v := .int ((v 3) + 1)) (ty := .int) (C := RX3) (T := TX3) (N := 14) hx hb hts hin_X3_passTick_X3 tyX3 tyX3_ok nmX3 hown hKK.1 hP hD hS 0 rfl rfl 4 (by decide) (hts _ lk_X3_passTick_49) (fun _ h9 => h9) rfl (by decide +kernel) rfl rfl (Nat.le_of_ble_eq_true rfl) dX3_passTick_7 (fun H locs hP hD hS => ?_)
  have e_7 := (rW_setI G a v ((v 3) + 1)).2.2.2.2.1
  have hP : gP G (rW G a (upd v 3 ((v 3) + 1))) H := by rw [e_7]; exact hP
  have hD : va_D _ (rW G a (upd v 3 ((v 3) + 1))) := by rw [e_7]; exact hD
  refine lv_iconst (v := 0) hx hb dX3_passTick_10 (by decide) ?_
  refine lv_istore_n (lv' := [(2, .int 0), (0, .ref (a 0)), (1, .int w)]) hx hb dX3_passTick_11 rfl hl (by decide) rfl (fun ls hl => ?_)
  have L_12 : ∀ (n : Nat) (i : Nat), (i ≤ 10) → (10 + 1 ≤ i + n) → ∀ (H : Heap) (locs : List Loc), gP G (rW G a (stepN w i (upd v 3 (v 3 + 1)))) H → va_D (aA (rW G a v)) (rW G a (stepN w i (upd v 3 (v 3 + 1)))) → va_S (aA (rW G a v)) s.heap H locs → ∀ (ls : Array Slot), lv_has ls 3 [(2, .int (nI i)), (0, .ref (a 0)), (1, .int w)] → W p l e ({ frames := 3, cells := 0, slots := 0, locals := 64 }) s m (List.toArray [.ref (a 0), .int w]) below meth c H locs 0 0 (MQ below (qMU G none (rW G a v) (rW G a (tickW w v))) (List.toArray [.ref (a 0), .int w]) s 0 0 (aA (rW G a v))) (F0 m 12 ls []) := by
    intro n
    induction n with
    | zero => intro i h1 h2; exact absurd (h2) (by omega)
    | succ n ih =>
      intro i h1 h2 H locs hP hD hS ls hl
      refine lv_iload_n hx hb dX3_passTick_12 rfl (lv_at hl 0 rfl) ?_
      refine lv_bipush (v := 10) hx hb dX3_passTick_13 (by decide) ?_
      refine lv_icmp_ge (tgt := 47) hx hb dX3_passTick_15 (by decide) (fun c_15 => ?_) (fun c_15 => ?_)
      · skip
        have c_15 := (lt_lit (by omega) (by omega)).mp c_15
        exact ex_MUv (w2 := (rW G a (stepN w i (upd v 3 (v 3 + 1))))) hx hb hr hlocks hP hS dX3_passTick_47 (fun h => by rw [show i = 10 by omega] at h; exact h)
      · skip
        have c_15 := fun q => c_15 ((lt_lit (by omega) (by omega)).mpr q)
        refine lv_iload_n hx hb dX3_passTick_18 rfl (lv_at hl 2 rfl) ?_
        refine lv_iload_n hx hb dX3_passTick_19 rfl (lv_at hl 0 rfl) ?_
        refine ro_SN (As := [.int w, .int (nI i)]) (rest := []) ⟨hx, hb, hml, hown, hts⟩ (c_X4_isIn l G w (nI i)) ⟨va_cnB 2 hts gX3_passTick_X4_isIn_n86 rfl rfl rfl (hKK.2.1 _ (List.mem_of_getElem? (i := 5) rfl)) (hts (.initialized RX4) (by decide +kernel)) (by decide +kernel) ⟨Nat.le_of_ble_eq_true rfl, Nat.le_of_ble_eq_true rfl⟩, hts (.static yX4_isIn) (by decide +kernel), trivial⟩ (show gP G [] _ from fun k q h => by simp at h) hKK rfl hl.1 rfl (Nat.le_of_ble_eq_true rfl) dX3_passTick_20 (Nat.zero_le _) (Nat.zero_le _) ?_
        refine lv_if_eq (tgt := 34) hx hb dX3_passTick_23 (by decide) (fun c_23 => ?_) (fun c_23 => ?_)
        · skip
          have c_23 := b2i_0 c_23
          refine lv_aload_n hx hb dX3_passTick_34 rfl (lv_at hl 1 rfl) ?_
          refine va_get (D := gD G) (ci := 3) (v := .ref (a 3)) (C := RX3) (T := TX3) (N := 14) hx hb hts hin_X3_passTick_X3 hown hKK.1 hP 0 rfl rfl 8 (by decide) (hts _ lk_X3_passTick_18) (fun _ h9 => h9) rfl dX3_passTick_35 ?_
          refine lv_iload_n hx hb dX3_passTick_38 rfl (lv_at hl 0 rfl) ?_
          refine lv_iconst (v := 0) hx hb dX3_passTick_39 (by decide) ?_
          refine va_iastN (x := 0) hx hb hKK.1 hP hD hS 3 0 rfl rfl (rfl) (by omega) (by decide) dX3_passTick_40 (fun H locs hP hD hS => ?_)
          have e_40 := rW_setR G a (stepN w i (upd v 3 (v 3 + 1))) i 2 0 (by decide)
          have hP : gP G (rW G a (upd (stepN w i (upd v 3 (v 3 + 1))) (px i 2) 0)) H := by rw [e_40]; exact hP
          have hD : va_D _ (rW G a (upd (stepN w i (upd v 3 (v 3 + 1))) (px i 2) 0)) := by rw [e_40]; exact hD
          have ev_1 : upd (stepN w i (upd v 3 (v 3 + 1))) (px i 2) 0 = stepN w (i + 1) (upd v 3 (v 3 + 1)) := by simp [stepN, stepF, c_23]
          rw [ev_1] at hP hD
          refine lv_iinc (v := nI (i + 1)) (lv' := [(2, .int (nI (i + 1))), (0, .ref (a 0)), (1, .int w)]) hx hb dX3_passTick_41 hl (k := 0) rfl (nI_1 _) (by decide) rfl (fun ls hl => ?_)
          refine lv_goto (tgt := 12) hx hb dX3_passTick_44 (by decide) ?_
          exact ih (i + 1) (by omega) (by omega) _ _ (hP) (hD) hS _ (lv_sub hl [0, 1, 2] rfl)
        · skip
          have c_23 := b2i_1 c_23
          refine lv_aload_n hx hb dX3_passTick_26 rfl (lv_at hl 1 rfl) ?_
          refine lv_iload_n hx hb dX3_passTick_27 rfl (lv_at hl 0 rfl) ?_
          refine mu_V (As := [.int (nI i)]) (rest := []) ⟨hx, hb, hml, hown, hts⟩ (c_X3_waitOrMove l G a (stepN w i (upd v 3 (v 3 + 1))) i (by omega)) (cwV 1 hts gX3_passTick_X3_waitOrMove rfl rfl rfl (by decide +kernel) ⟨Nat.le_of_ble_eq_true rfl, Nat.le_of_ble_eq_true rfl⟩) hP hKK hD hS (va_recv hKK.1 hP (ci := 3) (q0 := 0) rfl rfl) rfl hl.1 rfl (Nat.le_of_ble_eq_true rfl) dX3_passTick_28 (Nat.zero_le _) (Nat.zero_le _) rfl (fun H locs hP hD hS => ?_)
          have ev_2 : waitF i (stepN w i (upd v 3 (v 3 + 1))) = stepN w (i + 1) (upd v 3 (v 3 + 1)) := by simp [stepN, stepF, c_23]
          rw [ev_2] at hP hD
          refine lv_goto (tgt := 41) hx hb dX3_passTick_31 (by decide) ?_
          refine lv_iinc (v := nI (i + 1)) (lv' := [(2, .int (nI (i + 1))), (0, .ref (a 0)), (1, .int w)]) hx hb dX3_passTick_41 hl (k := 0) rfl (nI_1 _) (by decide) rfl (fun ls hl => ?_)
          refine lv_goto (tgt := 12) hx hb dX3_passTick_44 (by decide) ?_
          exact ih (i + 1) (by omega) (by omega) _ _ (hP) (hD) hS _ (lv_sub hl [0, 1, 2] rfl)
  exact L_12 (10 + 1) 0 (by omega) (by omega) _ _ (hP) (hD) hS _ (lv_sub hl [0, 1, 2] rfl)
set_option maxHeartbeats 4000000 in
set_option maxRecDepth 100000 in
/-- X3_passTicks -/
theorem c_X3_passTicks (l : Launch) (G : GG) (a : Nat → Nat) (v : Nat → Int32) (k : Nat) (hk : k ≤ 200) (hI : RI v) : Met l yX3_passTicks wsX3_passTicks ({ frames := 4, cells := 0, slots := 0, locals := 87 }) (pcM G [.ref (a 0), .int (nI k)] (rW G a v)) (qMU G none (rW G a v) (rW G a (tickN k v))) 0 0 (aA (rW G a v)) := by
  refine hd_MU (cc := cX3_passTicks) (maxL := 3) (ret := none) (by decide) rfl (Nat.le_of_ble_eq_true rfl) ?_
  intro p e s m below meth c ls hx hb hr hts hown hlocks hml hP hKK hD hS hl
  have hl : lv_has ls 3 [(0, .ref (a 0)), (1, .int (nI k))] := hl
  refine lv_iconst (v := 0) hx hb dX3_passTicks_0 (by decide) ?_
  refine lv_istore_n (lv' := [(2, .int 0), (0, .ref (a 0)), (1, .int (nI k))]) hx hb dX3_passTicks_1 rfl hl (by decide) rfl (fun ls hl => ?_)
  have L_2 : ∀ (n : Nat) (i : Nat), (i ≤ k) → (k + 1 ≤ i + n) → ∀ (H : Heap) (locs : List Loc), gP G (rW G a (tickN i v)) H → va_D (aA (rW G a v)) (rW G a (tickN i v)) → va_S (aA (rW G a v)) s.heap H locs → ∀ (ls : Array Slot), lv_has ls 3 [(2, .int (nI i)), (0, .ref (a 0)), (1, .int (nI k))] → W p l e ({ frames := 4, cells := 0, slots := 0, locals := 87 }) s m (List.toArray [.ref (a 0), .int (nI k)]) below meth c H locs 0 0 (MQ below (qMU G none (rW G a v) (rW G a (tickN k v))) (List.toArray [.ref (a 0), .int (nI k)]) s 0 0 (aA (rW G a v))) (F0 m 2 ls []) := by
    intro n
    induction n with
    | zero => intro i h1 h2; exact absurd (h2) (by omega)
    | succ n ih =>
      intro i h1 h2 H locs hP hD hS ls hl
      refine lv_iload_n hx hb dX3_passTicks_2 rfl (lv_at hl 0 rfl) ?_
      refine lv_iload_n hx hb dX3_passTicks_3 rfl (lv_at hl 2 rfl) ?_
      refine lv_icmp_ge (tgt := 21) hx hb dX3_passTicks_4 (by decide) (fun c_4 => ?_) (fun c_4 => ?_)
      · skip
        have c_4 := (lt_lit (by omega) (by omega)).mp c_4
        exact ex_MUv (w2 := (rW G a (tickN i v))) hx hb hr hlocks hP hS dX3_passTicks_21 (fun h => by rw [show i = k by omega] at h; exact h)
      · skip
        have c_4 := fun q => c_4 ((lt_lit (by omega) (by omega)).mpr q)
        refine lv_aload_n hx hb dX3_passTicks_7 rfl (lv_at hl 1 rfl) ?_
        refine lv_aload_n hx hb dX3_passTicks_8 rfl (lv_at hl 1 rfl) ?_
        refine ro_V (As := []) (rest := [.ref (a 0)]) ⟨hx, hb, hml, hown, hts⟩ (c_X3_wantingRelays l G a (tickN i v) (tickN_RI hI i)) (cwV 0 hts gX3_passTicks_X3_wantingRelays rfl rfl rfl (by decide +kernel) ⟨Nat.le_of_ble_eq_true rfl, Nat.le_of_ble_eq_true rfl⟩) hP hKK (va_recv hKK.1 hP (ci := 3) (q0 := 0) rfl rfl) rfl hl.1 rfl (Nat.le_of_ble_eq_true rfl) dX3_passTicks_9 (Nat.zero_le _) (Nat.zero_le _) ?_
        refine mu_V (As := [.int (wan (tickN i v))]) (rest := []) ⟨hx, hb, hml, hown, hts⟩ (c_X3_passTick l G a (tickN i v) (wan (tickN i v))) (cwV 1 hts gX3_passTicks_X3_passTick rfl rfl rfl (by decide +kernel) ⟨Nat.le_of_ble_eq_true rfl, Nat.le_of_ble_eq_true rfl⟩) hP hKK hD hS (va_recv hKK.1 hP (ci := 3) (q0 := 0) rfl rfl) rfl hl.1 rfl (Nat.le_of_ble_eq_true rfl) dX3_passTicks_12 (Nat.zero_le _) (Nat.zero_le _) rfl (fun H locs hP hD hS => ?_)
        have ev_1 : tickW (wan (tickN i v)) (tickN i v) = tickN (i + 1) v := rfl
        rw [ev_1] at hP hD
        refine lv_iinc (v := nI (i + 1)) (lv' := [(2, .int (nI (i + 1))), (0, .ref (a 0)), (1, .int (nI k))]) hx hb dX3_passTicks_15 hl (k := 0) rfl (nI_1 _) (by decide) rfl (fun ls hl => ?_)
        refine lv_goto (tgt := 2) hx hb dX3_passTicks_18 (by decide) ?_
        exact ih (i + 1) (by omega) (by omega) _ _ (hP) (hD) hS _ (lv_sub hl [0, 1, 2] rfl)
  exact L_2 (k + 1) 0 (by omega) (by omega) _ _ (hP) (hD) hS _ (lv_sub hl [0, 1, 2] rfl)
end
section
set_option maxHeartbeats 4000000 in
set_option maxRecDepth 100000 in
/-- X5_within -/
theorem c_X5_within (l : Launch) (G : GG) (x : Int32) (lo : Int32) (hi : Int32) : Met l yX5_within wsX5_within ({ frames := 0, cells := 0, slots := 0, locals := 0 }) (pcW G [.int x, .int lo, .int hi] ([])) (qRO (.int (b2i (inr x lo hi)))) 0 0 nofree := by
  refine hd_RO (cc := cX5_within) (maxL := 3) (ret := some .boolean) (by decide) rfl (Nat.le_of_ble_eq_true rfl) ?_
  intro p e s m below meth c ls hx hb hr hts hown hlocks hml hP hKK hl
  have hl : lv_has ls 3 [(0, .int x), (1, .int lo), (2, .int hi)] := hl
  refine lv_iload_n hx hb dX5_within_0 rfl (lv_at hl 0 rfl) ?_
  refine lv_iload_n hx hb dX5_within_1 rfl (lv_at hl 1 rfl) ?_
  refine lv_icmp_lt (tgt := 14) hx hb dX5_within_2 (by decide) (fun c_2 => ?_) (fun c_2 => ?_)
  · skip
    refine lv_iconst (v := 0) hx hb dX5_within_14 (by decide) ?_
    exact ex_ROz (b := inr x lo hi) hx hb hr hlocks rfl dX5_within_15 (by simp_all [inr, b2i]) rfl
  · skip
    refine lv_iload_n hx hb dX5_within_5 rfl (lv_at hl 0 rfl) ?_
    refine lv_iload_n hx hb dX5_within_6 rfl (lv_at hl 2 rfl) ?_
    refine lv_icmp_gt (tgt := 14) hx hb dX5_within_7 (by decide) (fun c_7 => ?_) (fun c_7 => ?_)
    · skip
      refine lv_iconst (v := 0) hx hb dX5_within_14 (by decide) ?_
      exact ex_ROz (b := inr x lo hi) hx hb hr hlocks rfl dX5_within_15 (by simp_all [inr, b2i]) rfl
    · skip
      refine lv_iconst (v := 1) hx hb dX5_within_10 (by decide) ?_
      refine lv_goto (tgt := 15) hx hb dX5_within_11 (by decide) ?_
      exact ex_ROz (b := inr x lo hi) hx hb hr hlocks rfl dX5_within_15 (by simp_all [inr, b2i]) rfl
set_option maxHeartbeats 4000000 in
set_option maxRecDepth 100000 in
/-- X5_isRelay -/
theorem c_X5_isRelay (l : Launch) (G : GG) (x : Int32) : Met l yX5_isRelay wsX5_isRelay ({ frames := 1, cells := 0, slots := 0, locals := 22 }) (pcW G [.int x] ([])) (qRO (.int (b2i (inr x 0 9)))) 0 0 nofree := by
  refine hd_RO (cc := cX5_isRelay) (maxL := 1) (ret := some .boolean) (by decide) rfl (Nat.le_of_ble_eq_true rfl) ?_
  intro p e s m below meth c ls hx hb hr hts hown hlocks hml hP hKK hl
  have hl : lv_has ls 1 [(0, .int x)] := hl
  refine lv_iload_n hx hb dX5_isRelay_0 rfl (lv_at hl 0 rfl) ?_
  refine lv_iconst (v := 0) hx hb dX5_isRelay_1 (by decide) ?_
  refine lv_bipush (v := 9) hx hb dX5_isRelay_2 (by decide) ?_
  refine ro_S (As := [.int x, .int 0, .int 9]) (rest := []) ⟨hx, hb, hml, hown, hts⟩ (c_X5_within l G x 0 9) (va_cwS 3 hts gX5_isRelay_X5_within rfl rfl rfl (by decide +kernel) ⟨Nat.le_of_ble_eq_true rfl, Nat.le_of_ble_eq_true rfl⟩) (show gP G [] _ from fun k q h => by simp at h) hKK rfl hl.1 rfl (Nat.le_of_ble_eq_true rfl) dX5_isRelay_4 (Nat.zero_le _) (Nat.zero_le _) ?_
  exact ex_ROz (b := inr x 0 9) hx hb hr hlocks rfl dX5_isRelay_7 (rfl) rfl
set_option maxHeartbeats 4000000 in
set_option maxRecDepth 100000 in
/-- X5_isSet -/
theorem c_X5_isSet (l : Launch) (G : GG) (x : Int32) : Met l yX5_isSet wsX5_isSet ({ frames := 1, cells := 0, slots := 0, locals := 22 }) (pcW G [.int x] ([])) (qRO (.int (b2i (inr x 0 63)))) 0 0 nofree := by
  refine hd_RO (cc := cX5_isSet) (maxL := 1) (ret := some .boolean) (by decide) rfl (Nat.le_of_ble_eq_true rfl) ?_
  intro p e s m below meth c ls hx hb hr hts hown hlocks hml hP hKK hl
  have hl : lv_has ls 1 [(0, .int x)] := hl
  refine lv_iload_n hx hb dX5_isSet_0 rfl (lv_at hl 0 rfl) ?_
  refine lv_iconst (v := 0) hx hb dX5_isSet_1 (by decide) ?_
  refine lv_bipush (v := 63) hx hb dX5_isSet_2 (by decide) ?_
  refine ro_S (As := [.int x, .int 0, .int 63]) (rest := []) ⟨hx, hb, hml, hown, hts⟩ (c_X5_within l G x 0 63) (va_cwS 3 hts gX5_isSet_X5_within rfl rfl rfl (by decide +kernel) ⟨Nat.le_of_ble_eq_true rfl, Nat.le_of_ble_eq_true rfl⟩) (show gP G [] _ from fun k q h => by simp at h) hKK rfl hl.1 rfl (Nat.le_of_ble_eq_true rfl) dX5_isSet_4 (Nat.zero_le _) (Nat.zero_le _) ?_
  exact ex_ROz (b := inr x 0 63) hx hb hr hlocks rfl dX5_isSet_7 (rfl) rfl
set_option maxHeartbeats 4000000 in
set_option maxRecDepth 100000 in
/-- X5_has -/
theorem c_X5_has (l : Launch) (G : GG) (x : Int32) (k : Int32) : Met l yX5_has wsX5_has ({ frames := 0, cells := 0, slots := 0, locals := 0 }) (pcW G [.int x, .int k] ([])) (qRO (.int (b2i (hs x k)))) 0 0 nofree := by
  refine hd_RO (cc := cX5_has) (maxL := 2) (ret := some .boolean) (by decide) rfl (Nat.le_of_ble_eq_true rfl) ?_
  intro p e s m below meth c ls hx hb hr hts hown hlocks hml hP hKK hl
  have hl : lv_has ls 2 [(0, .int x), (1, .int k)] := hl
  refine lv_iload_n hx hb dX5_has_0 rfl (lv_at hl 0 rfl) ?_
  refine lv_iload_n hx hb dX5_has_1 rfl (lv_at hl 1 rfl) ?_
  refine lv_ishr hx hb dX5_has_2 ?_
  refine lv_asi (y := shr x k) rfl ?_
  refine lv_iconst (v := 1) hx hb dX5_has_3 (by decide) ?_
  refine lv_iand hx hb dX5_has_4 ?_
  refine lv_iconst (v := 1) hx hb dX5_has_5 (by decide) ?_
  refine lv_icmp_ne (tgt := 13) hx hb dX5_has_6 (by decide) (fun c_6 => ?_) (fun c_6 => ?_)
  · skip
    refine lv_iconst (v := 0) hx hb dX5_has_13 (by decide) ?_
    exact ex_ROz (b := hs x k) hx hb hr hlocks rfl dX5_has_14 (by simp_all [hs, bt, b2i]) rfl
  · skip
    refine lv_iconst (v := 1) hx hb dX5_has_9 (by decide) ?_
    refine lv_goto (tgt := 14) hx hb dX5_has_10 (by decide) ?_
    exact ex_ROz (b := hs x k) hx hb hr hlocks rfl dX5_has_14 (by simp_all [hs, bt, b2i]) rfl
set_option maxRecDepth 20000 in
theorem hin_X5_part_X5 : ∀ w ∈ u_ws RX5 TX5 12, w ∈ wsX5_part := by decide +kernel
theorem lk_X5_part_7 : Cond.fieldLink RX5 7 "WeldedRelaysModel" "state" "[I" ∈ wsX5_part := by decide +kernel
set_option maxHeartbeats 4000000 in
set_option maxRecDepth 100000 in
/-- X5_part -/
theorem c_X5_part (l : Launch) (G : GG) (a : Nat → Nat) (st : Nat → Int32) (kp : Nat → Int32) (hi : Nat → Int32) (sl : Nat → Int32) (sv : Nat → Int32) (pd : Nat → Int32) (td : Nat → Int32) (rc : Int32) (pl : Int32) (pt : Int32) (rt : Int32) (bn : Int32) (k : Nat) (j : Nat) (hk : k < 10) (hj : j < 23) : Met l yX5_part wsX5_part ({ frames := 0, cells := 0, slots := 0, locals := 0 }) (pcW G [.ref (a 0), .int (nI k), .int (nI j)] (mW G a st kp hi sl sv pd td rc pl pt rt bn)) (qRO (.int (st (px k j)))) 0 0 nofree := by
  refine hd_RO (cc := cX5_part) (maxL := 3) (ret := some .int) (by decide) rfl (Nat.le_of_ble_eq_true rfl) ?_
  intro p e s m below meth c ls hx hb hr hts hown hlocks hml hP hKK hl
  have hl : lv_has ls 3 [(0, .ref (a 0)), (1, .int (nI k)), (2, .int (nI j))] := hl
  refine lv_aload_n hx hb dX5_part_0 rfl (lv_at hl 0 rfl) ?_
  refine va_get (D := gD G) (ci := 5) (v := .ref (a 1)) (C := RX5) (T := TX5) (N := 12) hx hb hts hin_X5_part_X5 hown hKK.1 hP 0 rfl rfl 0 (by decide) (hts _ lk_X5_part_7) (fun _ h9 => h9) rfl dX5_part_1 ?_
  refine lv_bipush (v := 6) hx hb dX5_part_4 (by decide) ?_
  refine lv_bipush (v := 23) hx hb dX5_part_6 (by decide) ?_
  refine lv_iload_n hx hb dX5_part_8 rfl (lv_at hl 1 rfl) ?_
  refine lv_imul hx hb dX5_part_9 ?_
  refine lv_iadd hx hb dX5_part_10 ?_
  refine lv_iload_n hx hb dX5_part_11 rfl (lv_at hl 2 rfl) ?_
  refine lv_iadd hx hb dX5_part_12 ?_
  refine va_ialdN (v := st (px k j)) hx hb hKK.1 hP 1 0 rfl rfl (px_nI k j) (px_lt hk hj) (by decide) (rfl) dX5_part_13 ?_
  exact ex_ROi hx hb hr hlocks rfl dX5_part_14 (rfl)
set_option maxRecDepth 20000 in
theorem hin_X5_setPart_X5 : ∀ w ∈ u_ws RX5 TX5 12, w ∈ wsX5_setPart := by decide +kernel
theorem lk_X5_setPart_7 : Cond.fieldLink RX5 7 "WeldedRelaysModel" "state" "[I" ∈ wsX5_setPart := by decide +kernel
set_option maxHeartbeats 4000000 in
set_option maxRecDepth 100000 in
/-- X5_setPart -/
theorem c_X5_setPart (l : Launch) (G : GG) (a : Nat → Nat) (st : Nat → Int32) (kp : Nat → Int32) (hi : Nat → Int32) (sl : Nat → Int32) (sv : Nat → Int32) (pd : Nat → Int32) (td : Nat → Int32) (rc : Int32) (pl : Int32) (pt : Int32) (rt : Int32) (bn : Int32) (k : Nat) (j : Nat) (hk : k < 10) (hj : j < 23) (x : Int32) : Met l yX5_setPart wsX5_setPart ({ frames := 0, cells := 0, slots := 0, locals := 0 }) (pcM G [.ref (a 0), .int (nI k), .int (nI j), .int x] (mW G a st kp hi sl sv pd td rc pl pt rt bn)) (qMU G none (mW G a st kp hi sl sv pd td rc pl pt rt bn) (mW G a (upd st (px k j) x) kp hi sl sv pd td rc pl pt rt bn)) 0 0 (aA (mW G a st kp hi sl sv pd td rc pl pt rt bn)) := by
  refine hd_MU (cc := cX5_setPart) (maxL := 4) (ret := none) (by decide) rfl (Nat.le_of_ble_eq_true rfl) ?_
  intro p e s m below meth c ls hx hb hr hts hown hlocks hml hP hKK hD hS hl
  have hl : lv_has ls 4 [(0, .ref (a 0)), (1, .int (nI k)), (2, .int (nI j)), (3, .int x)] := hl
  refine lv_aload_n hx hb dX5_setPart_0 rfl (lv_at hl 0 rfl) ?_
  refine va_get (D := gD G) (ci := 5) (v := .ref (a 1)) (C := RX5) (T := TX5) (N := 12) hx hb hts hin_X5_setPart_X5 hown hKK.1 hP 0 rfl rfl 0 (by decide) (hts _ lk_X5_setPart_7) (fun _ h9 => h9) rfl dX5_setPart_1 ?_
  refine lv_bipush (v := 6) hx hb dX5_setPart_4 (by decide) ?_
  refine lv_bipush (v := 23) hx hb dX5_setPart_6 (by decide) ?_
  refine lv_iload_n hx hb dX5_setPart_8 rfl (lv_at hl 1 rfl) ?_
  refine lv_imul hx hb dX5_setPart_9 ?_
  refine lv_iadd hx hb dX5_setPart_10 ?_
  refine lv_iload_n hx hb dX5_setPart_11 rfl (lv_at hl 2 rfl) ?_
  refine lv_iadd hx hb dX5_setPart_12 ?_
  refine lv_iload_n hx hb dX5_setPart_13 rfl (lv_at hl 3 rfl) ?_
  refine va_iastN (x := x) hx hb hKK.1 hP hD hS 1 0 rfl rfl (px_nI k j) (px_lt hk hj) (by decide) dX5_setPart_14 (fun H locs hP hD hS => ?_)
  have hP : gP G (mW G a (upd st (px k j) x) kp hi sl sv pd td rc pl pt rt bn) H := hP
  have hD : va_D _ (mW G a (upd st (px k j) x) kp hi sl sv pd td rc pl pt rt bn) := hD
  exact ex_MUv (w2 := (mW G a (upd st (px k j) x) kp hi sl sv pd td rc pl pt rt bn)) hx hb hr hlocks hP hS dX5_setPart_15 (fun h => h)
set_option maxHeartbeats 4000000 in
set_option maxRecDepth 100000 in
/-- X5_ofBranch -/
theorem c_X5_ofBranch (l : Launch) (G : GG) (a : Nat → Nat) (st : Nat → Int32) (kp : Nat → Int32) (hi : Nat → Int32) (sl : Nat → Int32) (sv : Nat → Int32) (pd : Nat → Int32) (td : Nat → Int32) (rc : Int32) (pl : Int32) (pt : Int32) (rt : Int32) (bn : Int32) (r : Nat) (b : Nat) (w : Nat) (hr : r < 10) (hb : b < 6) (hw : w < 3) : Met l yX5_ofBranch wsX5_ofBranch ({ frames := 1, cells := 0, slots := 0, locals := 22 }) (pcW G [.ref (a 0), .int (nI r), .int (nI b), .int (nI w)] (mW G a st kp hi sl sv pd td rc pl pt rt bn)) (qRO (.int (st (px r (5 + 3 * b + w))))) 0 0 nofree := by
  refine hd_RO (cc := cX5_ofBranch) (maxL := 4) (ret := some .int) (by decide) rfl (Nat.le_of_ble_eq_true rfl) ?_
  intro p e s m below meth c ls hx hb hr hts hown hlocks hml hP hKK hl
  have hl : lv_has ls 4 [(0, .ref (a 0)), (1, .int (nI r)), (2, .int (nI b)), (3, .int (nI w))] := hl
  refine lv_aload_n hx hb dX5_ofBranch_0 rfl (lv_at hl 0 rfl) ?_
  refine lv_iload_n hx hb dX5_ofBranch_1 rfl (lv_at hl 1 rfl) ?_
  refine lv_iconst (v := 5) hx hb dX5_ofBranch_2 (by decide) ?_
  refine lv_iconst (v := 3) hx hb dX5_ofBranch_3 (by decide) ?_
  refine lv_iload_n hx hb dX5_ofBranch_4 rfl (lv_at hl 2 rfl) ?_
  refine lv_imul hx hb dX5_ofBranch_5 ?_
  refine lv_iadd hx hb dX5_ofBranch_6 ?_
  refine lv_iload_n hx hb dX5_ofBranch_7 rfl (lv_at hl 3 rfl) ?_
  refine lv_iadd hx hb dX5_ofBranch_8 ?_
  refine lv_asi (y := nI (5 + 3 * b + w)) (ofbN b w) ?_
  refine ro_V (As := [.int (nI r), .int (nI (5 + 3 * b + w))]) (rest := []) ⟨hx, hb, hml, hown, hts⟩ (c_X5_part l G a st kp hi sl sv pd td rc pl pt rt bn r (5 + 3 * b + w) (by omega) (by omega)) (cwV 2 hts gX5_ofBranch_X5_part rfl rfl rfl (by decide +kernel) ⟨Nat.le_of_ble_eq_true rfl, Nat.le_of_ble_eq_true rfl⟩) hP hKK (va_recv hKK.1 hP (ci := 5) (q0 := 0) rfl rfl) rfl hl.1 rfl (Nat.le_of_ble_eq_true rfl) dX5_ofBranch_9 (Nat.zero_le _) (Nat.zero_le _) ?_
  exact ex_ROi hx hb hr hlocks rfl dX5_ofBranch_12 (rfl)
set_option maxRecDepth 20000 in
theorem hin_X5_isClosed_X5 : ∀ w ∈ u_ws RX5 TX5 12, w ∈ wsX5_isClosed := by decide +kernel
theorem lk_X5_isClosed_7 : Cond.fieldLink RX5 7 "WeldedRelaysModel" "state" "[I" ∈ wsX5_isClosed := by decide +kernel
set_option maxHeartbeats 4000000 in
set_option maxRecDepth 100000 in
/-- X5_isClosed -/
theorem c_X5_isClosed (l : Launch) (G : GG) (a : Nat → Nat) (st : Nat → Int32) (kp : Nat → Int32) (hi : Nat → Int32) (sl : Nat → Int32) (sv : Nat → Int32) (pd : Nat → Int32) (td : Nat → Int32) (rc : Int32) (pl : Int32) (pt : Int32) (rt : Int32) (bn : Int32) (r : Nat) (b : Nat) (hr : r < 10) (hb : b < 6) : Met l yX5_isClosed wsX5_isClosed ({ frames := 2, cells := 0, slots := 0, locals := 45 }) (pcW G [.ref (a 0), .int (nI r), .int (nI b)] (mW G a st kp hi sl sv pd td rc pl pt rt bn)) (qRO (.int (b2i (clo st r b)))) 0 0 nofree := by
  refine hd_RO (cc := cX5_isClosed) (maxL := 4) (ret := some .boolean) (by decide) rfl (Nat.le_of_ble_eq_true rfl) ?_
  intro p e s m below meth c ls hx hb hr hts hown hlocks hml hP hKK hl
  have hl : lv_has ls 4 [(0, .ref (a 0)), (1, .int (nI r)), (2, .int (nI b))] := hl
  refine lv_aload_n hx hb dX5_isClosed_0 rfl (lv_at hl 0 rfl) ?_
  refine va_get (D := gD G) (ci := 5) (v := .ref (a 1)) (C := RX5) (T := TX5) (N := 12) hx hb hts hin_X5_isClosed_X5 hown hKK.1 hP 0 rfl rfl 0 (by decide) (hts _ lk_X5_isClosed_7) (fun _ h9 => h9) rfl dX5_isClosed_1 ?_
  refine lv_iconst (v := 0) hx hb dX5_isClosed_4 (by decide) ?_
  refine va_ialdN (v := st 0) hx hb hKK.1 hP 1 0 rfl rfl (rfl) (by omega) (by decide) (rfl) dX5_isClosed_5 ?_
  refine lv_aload_n hx hb dX5_isClosed_6 rfl (lv_at hl 0 rfl) ?_
  refine va_get (D := gD G) (ci := 5) (v := .ref (a 1)) (C := RX5) (T := TX5) (N := 12) hx hb hts hin_X5_isClosed_X5 hown hKK.1 hP 0 rfl rfl 0 (by decide) (hts _ lk_X5_isClosed_7) (fun _ h9 => h9) rfl dX5_isClosed_7 ?_
  refine lv_iconst (v := 2) hx hb dX5_isClosed_10 (by decide) ?_
  refine va_ialdN (v := st 2) hx hb hKK.1 hP 1 0 rfl rfl (rfl) (by omega) (by decide) (rfl) dX5_isClosed_11 ?_
  refine lv_bipush (v := 10) hx hb dX5_isClosed_12 (by decide) ?_
  refine lv_ishl hx hb dX5_isClosed_14 ?_
  refine lv_asi (y := shl (st 2) 10) rfl ?_
  refine lv_ior hx hb dX5_isClosed_15 ?_
  refine lv_istore_n (lv' := [(3, .int ((st 0) ||| (shl (st 2) 10))), (0, .ref (a 0)), (1, .int (nI r)), (2, .int (nI b))]) hx hb dX5_isClosed_16 rfl hl (by decide) rfl (fun ls hl => ?_)
  refine lv_aload_n hx hb dX5_isClosed_17 rfl (lv_at hl 1 rfl) ?_
  refine lv_iload_n hx hb dX5_isClosed_18 rfl (lv_at hl 2 rfl) ?_
  refine lv_iload_n hx hb dX5_isClosed_19 rfl (lv_at hl 3 rfl) ?_
  refine lv_iconst (v := 0) hx hb dX5_isClosed_20 (by decide) ?_
  refine ro_V (As := [.int (nI r), .int (nI b), .int (nI 0)]) (rest := []) ⟨hx, hb, hml, hown, hts⟩ (c_X5_ofBranch l G a st kp hi sl sv pd td rc pl pt rt bn r b 0 (by omega) (by omega) (by omega)) (cwV 3 hts gX5_isClosed_X5_ofBranch rfl rfl rfl (by decide +kernel) ⟨Nat.le_of_ble_eq_true rfl, Nat.le_of_ble_eq_true rfl⟩) hP hKK (va_recv hKK.1 hP (ci := 5) (q0 := 0) rfl rfl) rfl hl.1 rfl (Nat.le_of_ble_eq_true rfl) dX5_isClosed_21 (Nat.zero_le _) (Nat.zero_le _) ?_
  refine lv_asi (y := frt st r b) (ofb_0 _ _ _) ?_
  refine lv_iload_n hx hb dX5_isClosed_24 rfl (lv_at hl 0 rfl) ?_
  refine lv_iconst (v := (-1)) hx hb dX5_isClosed_25 (by decide) ?_
  refine lv_ixor hx hb dX5_isClosed_26 ?_
  refine lv_iand hx hb dX5_isClosed_27 ?_
  refine lv_if_ne (tgt := 47) hx hb dX5_isClosed_28 (by decide) (fun c_28 => ?_) (fun c_28 => ?_)
  · skip
    refine lv_iconst (v := 0) hx hb dX5_isClosed_47 (by decide) ?_
    exact ex_ROz (b := clo st r b) hx hb hr hlocks rfl dX5_isClosed_48 (by rw [cloM]; simp_all [b2i, onS]) rfl
  · skip
    refine lv_aload_n hx hb dX5_isClosed_31 rfl (lv_at hl 1 rfl) ?_
    refine lv_iload_n hx hb dX5_isClosed_32 rfl (lv_at hl 2 rfl) ?_
    refine lv_iload_n hx hb dX5_isClosed_33 rfl (lv_at hl 3 rfl) ?_
    refine lv_iconst (v := 1) hx hb dX5_isClosed_34 (by decide) ?_
    refine ro_V (As := [.int (nI r), .int (nI b), .int (nI 1)]) (rest := []) ⟨hx, hb, hml, hown, hts⟩ (c_X5_ofBranch l G a st kp hi sl sv pd td rc pl pt rt bn r b 1 (by omega) (by omega) (by omega)) (cwV 3 hts gX5_isClosed_X5_ofBranch rfl rfl rfl (by decide +kernel) ⟨Nat.le_of_ble_eq_true rfl, Nat.le_of_ble_eq_true rfl⟩) hP hKK (va_recv hKK.1 hP (ci := 5) (q0 := 0) rfl rfl) rfl hl.1 rfl (Nat.le_of_ble_eq_true rfl) dX5_isClosed_35 (Nat.zero_le _) (Nat.zero_le _) ?_
    refine lv_asi (y := bck st r b) (ofb_1 _ _ _) ?_
    refine lv_iload_n hx hb dX5_isClosed_38 rfl (lv_at hl 0 rfl) ?_
    refine lv_iand hx hb dX5_isClosed_39 ?_
    refine lv_if_ne (tgt := 47) hx hb dX5_isClosed_40 (by decide) (fun c_40 => ?_) (fun c_40 => ?_)
    · skip
      refine lv_iconst (v := 0) hx hb dX5_isClosed_47 (by decide) ?_
      exact ex_ROz (b := clo st r b) hx hb hr hlocks rfl dX5_isClosed_48 (by rw [cloM]; simp_all [b2i, onS]) rfl
    · skip
      refine lv_iconst (v := 1) hx hb dX5_isClosed_43 (by decide) ?_
      refine lv_goto (tgt := 48) hx hb dX5_isClosed_44 (by decide) ?_
      exact ex_ROz (b := clo st r b) hx hb hr hlocks rfl dX5_isClosed_48 (by rw [cloM]; simp_all [b2i, onS]) rfl
set_option maxHeartbeats 4000000 in
set_option maxRecDepth 100000 in
/-- X5_isFed -/
theorem c_X5_isFed (l : Launch) (G : GG) (a : Nat → Nat) (st : Nat → Int32) (kp : Nat → Int32) (hi : Nat → Int32) (sl : Nat → Int32) (sv : Nat → Int32) (pd : Nat → Int32) (td : Nat → Int32) (rc : Int32) (pl : Int32) (pt : Int32) (rt : Int32) (bn : Int32) (k : Nat) (hk : k < 10) (hI : RI st) : Met l yX5_isFed wsX5_isFed ({ frames := 3, cells := 0, slots := 0, locals := 68 }) (pcW G [.ref (a 0), .int (nI k)] (mW G a st kp hi sl sv pd td rc pl pt rt bn)) (qRO (.int (b2i (fed1 st k)))) 0 0 nofree := by
  refine hd_RO (cc := cX5_isFed) (maxL := 4) (ret := some .boolean) (by decide) rfl (Nat.le_of_ble_eq_true rfl) ?_
  intro p e s m below meth c ls hx hb hr hts hown hlocks hml hP hKK hl
  have hl : lv_has ls 4 [(0, .ref (a 0)), (1, .int (nI k))] := hl
  have hc := hI.1 k hk
  refine lv_iconst (v := 0) hx hb dX5_isFed_0 (by decide) ?_
  refine lv_istore_n (lv' := [(2, .int 0), (0, .ref (a 0)), (1, .int (nI k))]) hx hb dX5_isFed_1 rfl hl (by decide) rfl (fun ls hl => ?_)
  refine lv_iconst (v := 0) hx hb dX5_isFed_2 (by decide) ?_
  refine lv_istore_n (lv' := [(3, .int 0), (2, .int 0), (0, .ref (a 0)), (1, .int (nI k))]) hx hb dX5_isFed_3 rfl hl (by decide) rfl (fun ls hl => ?_)
  have L_4 : ∀ (n : Nat) (i : Nat), (i ≤ cnt st k) → (cnt st k + 1 ≤ i + n) → ∀ (ls : Array Slot), lv_has ls 4 [(3, .int (nI i)), (2, .int (b2i (anyN i (fun b => clo st k b)))), (0, .ref (a 0)), (1, .int (nI k))] → W p l e ({ frames := 3, cells := 0, slots := 0, locals := 68 }) s m (List.toArray [.ref (a 0), .int (nI k)]) below meth c s.heap [] 0 0 (MQ below (qRO (.int (b2i (fed1 st k)))) (List.toArray [.ref (a 0), .int (nI k)]) s 0 0 nofree) (F0 m 4 ls []) := by
    intro n
    induction n with
    | zero => intro i h1 h2; exact absurd (h2) (by omega)
    | succ n ih =>
      intro i h1 h2 ls hl
      refine lv_iload_n hx hb dX5_isFed_4 rfl (lv_at hl 0 rfl) ?_
      refine lv_aload_n hx hb dX5_isFed_5 rfl (lv_at hl 2 rfl) ?_
      refine lv_iload_n hx hb dX5_isFed_6 rfl (lv_at hl 3 rfl) ?_
      refine lv_iconst (v := 4) hx hb dX5_isFed_7 (by decide) ?_
      refine ro_V (As := [.int (nI k), .int (nI 4)]) (rest := [.int (nI i)]) ⟨hx, hb, hml, hown, hts⟩ (c_X5_part l G a st kp hi sl sv pd td rc pl pt rt bn k 4 (by omega) (by omega)) (cwV 2 hts gX5_isFed_X5_part rfl rfl rfl (by decide +kernel) ⟨Nat.le_of_ble_eq_true rfl, Nat.le_of_ble_eq_true rfl⟩) hP hKK (va_recv hKK.1 hP (ci := 5) (q0 := 0) rfl rfl) rfl hl.1 rfl (Nat.le_of_ble_eq_true rfl) dX5_isFed_8 (Nat.zero_le _) (Nat.zero_le _) ?_
      refine lv_asi (y := nI (cnt st k)) (hc.1) ?_
      refine lv_icmp_ge (tgt := 39) hx hb dX5_isFed_11 (by decide) (fun c_11 => ?_) (fun c_11 => ?_)
      · skip
        have c_11 := (lt_lit (by omega) (by omega)).mp c_11
        refine lv_iload_n hx hb dX5_isFed_39 rfl (lv_at hl 1 rfl) ?_
        exact ex_ROz (b := fed1 st k) hx hb hr hlocks rfl dX5_isFed_40 (by rw [show i = cnt st k by omega]; rfl) rfl
      · skip
        have c_11 := fun q => c_11 ((lt_lit (by omega) (by omega)).mpr q)
        refine lv_iload_n hx hb dX5_isFed_14 rfl (lv_at hl 1 rfl) ?_
        refine lv_if_ne (tgt := 27) hx hb dX5_isFed_15 (by decide) (fun c_15 => ?_) (fun c_15 => ?_)
        · skip
          have c_15 := b2i_1 c_15
          refine lv_iconst (v := 1) hx hb dX5_isFed_27 (by decide) ?_
          refine lv_goto (tgt := 32) hx hb dX5_isFed_28 (by decide) ?_
          refine lv_asi (y := b2i (anyN (i + 1) (fun b => clo st k b))) (by simp_all [anyN, b2i]) ?_
          refine lv_istore_n (lv' := [(2, .int (b2i (anyN (i + 1) (fun b => clo st k b)))), (3, .int (nI i)), (0, .ref (a 0)), (1, .int (nI k))]) hx hb dX5_isFed_32 rfl hl (by decide) rfl (fun ls hl => ?_)
          refine lv_iinc (v := nI (i + 1)) (lv' := [(3, .int (nI (i + 1))), (2, .int (b2i (anyN (i + 1) (fun b => clo st k b)))), (0, .ref (a 0)), (1, .int (nI k))]) hx hb dX5_isFed_33 hl (k := 1) rfl (nI_1 _) (by decide) rfl (fun ls hl => ?_)
          refine lv_goto (tgt := 4) hx hb dX5_isFed_36 (by decide) ?_
          exact ih (i + 1) (by omega) (by omega) _ (lv_sub hl [0, 1, 2, 3] rfl)
        · skip
          have c_15 := b2i_0 (Decidable.not_not.mp c_15)
          refine lv_aload_n hx hb dX5_isFed_18 rfl (lv_at hl 2 rfl) ?_
          refine lv_iload_n hx hb dX5_isFed_19 rfl (lv_at hl 3 rfl) ?_
          refine lv_iload_n hx hb dX5_isFed_20 rfl (lv_at hl 0 rfl) ?_
          refine ro_V (As := [.int (nI k), .int (nI i)]) (rest := []) ⟨hx, hb, hml, hown, hts⟩ (c_X5_isClosed l G a st kp hi sl sv pd td rc pl pt rt bn k i (by omega) (by omega)) (cwV 2 hts gX5_isFed_X5_isClosed rfl rfl rfl (by decide +kernel) ⟨Nat.le_of_ble_eq_true rfl, Nat.le_of_ble_eq_true rfl⟩) hP hKK (va_recv hKK.1 hP (ci := 5) (q0 := 0) rfl rfl) rfl hl.1 rfl (Nat.le_of_ble_eq_true rfl) dX5_isFed_21 (Nat.zero_le _) (Nat.zero_le _) ?_
          refine lv_if_eq (tgt := 31) hx hb dX5_isFed_24 (by decide) (fun c_24 => ?_) (fun c_24 => ?_)
          · skip
            have c_24 := b2i_0 c_24
            refine lv_iconst (v := 0) hx hb dX5_isFed_31 (by decide) ?_
            refine lv_asi (y := b2i (anyN (i + 1) (fun b => clo st k b))) (by simp_all [anyN, b2i]) ?_
            refine lv_istore_n (lv' := [(2, .int (b2i (anyN (i + 1) (fun b => clo st k b)))), (3, .int (nI i)), (0, .ref (a 0)), (1, .int (nI k))]) hx hb dX5_isFed_32 rfl hl (by decide) rfl (fun ls hl => ?_)
            refine lv_iinc (v := nI (i + 1)) (lv' := [(3, .int (nI (i + 1))), (2, .int (b2i (anyN (i + 1) (fun b => clo st k b)))), (0, .ref (a 0)), (1, .int (nI k))]) hx hb dX5_isFed_33 hl (k := 1) rfl (nI_1 _) (by decide) rfl (fun ls hl => ?_)
            refine lv_goto (tgt := 4) hx hb dX5_isFed_36 (by decide) ?_
            exact ih (i + 1) (by omega) (by omega) _ (lv_sub hl [0, 1, 2, 3] rfl)
          · skip
            have c_24 := b2i_1 c_24
            refine lv_iconst (v := 1) hx hb dX5_isFed_27 (by decide) ?_
            refine lv_goto (tgt := 32) hx hb dX5_isFed_28 (by decide) ?_
            refine lv_asi (y := b2i (anyN (i + 1) (fun b => clo st k b))) (by simp_all [anyN, b2i]) ?_
            refine lv_istore_n (lv' := [(2, .int (b2i (anyN (i + 1) (fun b => clo st k b)))), (3, .int (nI i)), (0, .ref (a 0)), (1, .int (nI k))]) hx hb dX5_isFed_32 rfl hl (by decide) rfl (fun ls hl => ?_)
            refine lv_iinc (v := nI (i + 1)) (lv' := [(3, .int (nI (i + 1))), (2, .int (b2i (anyN (i + 1) (fun b => clo st k b)))), (0, .ref (a 0)), (1, .int (nI k))]) hx hb dX5_isFed_33 hl (k := 1) rfl (nI_1 _) (by decide) rfl (fun ls hl => ?_)
            refine lv_goto (tgt := 4) hx hb dX5_isFed_36 (by decide) ?_
            exact ih (i + 1) (by omega) (by omega) _ (lv_sub hl [0, 1, 2, 3] rfl)
  exact L_4 (cnt st k + 1) 0 (by omega) (by omega) _ (lv_sub hl [0, 1, 2, 3] rfl)
set_option maxHeartbeats 4000000 in
set_option maxRecDepth 100000 in
/-- X5_fed -/
theorem c_X5_fed (l : Launch) (G : GG) (a : Nat → Nat) (st : Nat → Int32) (kp : Nat → Int32) (hi : Nat → Int32) (sl : Nat → Int32) (sv : Nat → Int32) (pd : Nat → Int32) (td : Nat → Int32) (rc : Int32) (pl : Int32) (pt : Int32) (rt : Int32) (bn : Int32) (hI : RI st) : Met l yX5_fed wsX5_fed ({ frames := 4, cells := 0, slots := 0, locals := 91 }) (pcW G [.ref (a 0)] (mW G a st kp hi sl sv pd td rc pl pt rt bn)) (qRO (.int (fedS st))) 0 0 nofree := by
  refine hd_RO (cc := cX5_fed) (maxL := 3) (ret := some .int) (by decide) rfl (Nat.le_of_ble_eq_true rfl) ?_
  intro p e s m below meth c ls hx hb hr hts hown hlocks hml hP hKK hl
  have hl : lv_has ls 3 [(0, .ref (a 0))] := hl
  refine lv_iconst (v := 0) hx hb dX5_fed_0 (by decide) ?_
  refine lv_istore_n (lv' := [(1, .int 0), (0, .ref (a 0))]) hx hb dX5_fed_1 rfl hl (by decide) rfl (fun ls hl => ?_)
  refine lv_iconst (v := 0) hx hb dX5_fed_2 (by decide) ?_
  refine lv_istore_n (lv' := [(2, .int 0), (1, .int 0), (0, .ref (a 0))]) hx hb dX5_fed_3 rfl hl (by decide) rfl (fun ls hl => ?_)
  have L_4 : ∀ (n : Nat) (i : Nat), (i ≤ 10) → (10 + 1 ≤ i + n) → ∀ (ls : Array Slot), lv_has ls 3 [(2, .int (nI i)), (1, .int (orN i (fun r => if fed1 st r = true then shl 1 (nI r) else 0))), (0, .ref (a 0))] → W p l e ({ frames := 4, cells := 0, slots := 0, locals := 91 }) s m (List.toArray [.ref (a 0)]) below meth c s.heap [] 0 0 (MQ below (qRO (.int (fedS st))) (List.toArray [.ref (a 0)]) s 0 0 nofree) (F0 m 4 ls []) := by
    intro n
    induction n with
    | zero => intro i h1 h2; exact absurd (h2) (by omega)
    | succ n ih =>
      intro i h1 h2 ls hl
      refine lv_iload_n hx hb dX5_fed_4 rfl (lv_at hl 0 rfl) ?_
      refine lv_bipush (v := 10) hx hb dX5_fed_5 (by decide) ?_
      refine lv_icmp_ge (tgt := 34) hx hb dX5_fed_7 (by decide) (fun c_7 => ?_) (fun c_7 => ?_)
      · skip
        have c_7 := (lt_lit (by omega) (by omega)).mp c_7
        refine lv_iload_n hx hb dX5_fed_34 rfl (lv_at hl 1 rfl) ?_
        exact ex_ROi hx hb hr hlocks rfl dX5_fed_35 (by rw [show i = 10 by omega]; rfl)
      · skip
        have c_7 := fun q => c_7 ((lt_lit (by omega) (by omega)).mpr q)
        refine lv_iload_n hx hb dX5_fed_10 rfl (lv_at hl 1 rfl) ?_
        refine lv_aload_n hx hb dX5_fed_11 rfl (lv_at hl 2 rfl) ?_
        refine lv_iload_n hx hb dX5_fed_12 rfl (lv_at hl 0 rfl) ?_
        refine ro_V (As := [.int (nI i)]) (rest := [.int (orN i (fun r => if fed1 st r = true then shl 1 (nI r) else 0))]) ⟨hx, hb, hml, hown, hts⟩ (c_X5_isFed l G a st kp hi sl sv pd td rc pl pt rt bn i (by omega) (by assumption)) (cwV 1 hts gX5_fed_X5_isFed rfl rfl rfl (by decide +kernel) ⟨Nat.le_of_ble_eq_true rfl, Nat.le_of_ble_eq_true rfl⟩) hP hKK (va_recv hKK.1 hP (ci := 5) (q0 := 0) rfl rfl) rfl hl.1 rfl (Nat.le_of_ble_eq_true rfl) dX5_fed_13 (Nat.zero_le _) (Nat.zero_le _) ?_
        refine lv_if_eq (tgt := 25) hx hb dX5_fed_16 (by decide) (fun c_16 => ?_) (fun c_16 => ?_)
        · skip
          have c_16 := b2i_0 c_16
          refine lv_iconst (v := 0) hx hb dX5_fed_25 (by decide) ?_
          refine lv_ior hx hb dX5_fed_26 ?_
          refine lv_asi (y := orN (i + 1) (fun r => if fed1 st r = true then shl 1 (nI r) else 0)) (by simp [orN, c_16]) ?_
          refine lv_istore_n (lv' := [(1, .int (orN (i + 1) (fun r => if fed1 st r = true then shl 1 (nI r) else 0))), (2, .int (nI i)), (0, .ref (a 0))]) hx hb dX5_fed_27 rfl hl (by decide) rfl (fun ls hl => ?_)
          refine lv_iinc (v := nI (i + 1)) (lv' := [(2, .int (nI (i + 1))), (1, .int (orN (i + 1) (fun r => if fed1 st r = true then shl 1 (nI r) else 0))), (0, .ref (a 0))]) hx hb dX5_fed_28 hl (k := 1) rfl (nI_1 _) (by decide) rfl (fun ls hl => ?_)
          refine lv_goto (tgt := 4) hx hb dX5_fed_31 (by decide) ?_
          exact ih (i + 1) (by omega) (by omega) _ (lv_sub hl [0, 1, 2] rfl)
        · skip
          have c_16 := b2i_1 c_16
          refine lv_iconst (v := 1) hx hb dX5_fed_19 (by decide) ?_
          refine lv_iload_n hx hb dX5_fed_20 rfl (lv_at hl 0 rfl) ?_
          refine lv_ishl hx hb dX5_fed_21 ?_
          refine lv_asi (y := shl 1 (nI i)) rfl ?_
          refine lv_goto (tgt := 26) hx hb dX5_fed_22 (by decide) ?_
          refine lv_ior hx hb dX5_fed_26 ?_
          refine lv_asi (y := orN (i + 1) (fun r => if fed1 st r = true then shl 1 (nI r) else 0)) (by simp [orN, c_16]) ?_
          refine lv_istore_n (lv' := [(1, .int (orN (i + 1) (fun r => if fed1 st r = true then shl 1 (nI r) else 0))), (2, .int (nI i)), (0, .ref (a 0))]) hx hb dX5_fed_27 rfl hl (by decide) rfl (fun ls hl => ?_)
          refine lv_iinc (v := nI (i + 1)) (lv' := [(2, .int (nI (i + 1))), (1, .int (orN (i + 1) (fun r => if fed1 st r = true then shl 1 (nI r) else 0))), (0, .ref (a 0))]) hx hb dX5_fed_28 hl (k := 1) rfl (nI_1 _) (by decide) rfl (fun ls hl => ?_)
          refine lv_goto (tgt := 4) hx hb dX5_fed_31 (by decide) ?_
          exact ih (i + 1) (by omega) (by omega) _ (lv_sub hl [0, 1, 2] rfl)
  exact L_4 (10 + 1) 0 (by omega) (by omega) _ (lv_sub hl [0, 1, 2] rfl)
set_option maxRecDepth 20000 in
theorem hin_X5_wanting_X5 : ∀ w ∈ u_ws RX5 TX5 12, w ∈ wsX5_wanting := by decide +kernel
theorem lk_X5_wanting_7 : Cond.fieldLink RX5 7 "WeldedRelaysModel" "state" "[I" ∈ wsX5_wanting := by decide +kernel
set_option maxHeartbeats 4000000 in
set_option maxRecDepth 100000 in
/-- X5_wanting -/
theorem c_X5_wanting (l : Launch) (G : GG) (a : Nat → Nat) (st : Nat → Int32) (kp : Nat → Int32) (hi : Nat → Int32) (sl : Nat → Int32) (sv : Nat → Int32) (pd : Nat → Int32) (td : Nat → Int32) (rc : Int32) (pl : Int32) (pt : Int32) (rt : Int32) (bn : Int32) (hI : RI st) : Met l yX5_wanting wsX5_wanting ({ frames := 5, cells := 0, slots := 0, locals := 113 }) (pcW G [.ref (a 0)] (mW G a st kp hi sl sv pd td rc pl pt rt bn)) (qRO (.int (wan st))) 0 0 nofree := by
  refine hd_RO (cc := cX5_wanting) (maxL := 2) (ret := some .int) (by decide) rfl (Nat.le_of_ble_eq_true rfl) ?_
  intro p e s m below meth c ls hx hb hr hts hown hlocks hml hP hKK hl
  have hl : lv_has ls 2 [(0, .ref (a 0))] := hl
  refine lv_aload_n hx hb dX5_wanting_0 rfl (lv_at hl 0 rfl) ?_
  refine ro_V (As := []) (rest := []) ⟨hx, hb, hml, hown, hts⟩ (c_X5_fed l G a st kp hi sl sv pd td rc pl pt rt bn (by assumption)) (cwV 0 hts gX5_wanting_X5_fed rfl rfl rfl (by decide +kernel) ⟨Nat.le_of_ble_eq_true rfl, Nat.le_of_ble_eq_true rfl⟩) hP hKK (va_recv hKK.1 hP (ci := 5) (q0 := 0) rfl rfl) rfl hl.1 rfl (Nat.le_of_ble_eq_true rfl) dX5_wanting_1 (Nat.zero_le _) (Nat.zero_le _) ?_
  refine lv_istore_n (lv' := [(1, .int (fedS st)), (0, .ref (a 0))]) hx hb dX5_wanting_4 rfl hl (by decide) rfl (fun ls hl => ?_)
  refine lv_iload_n hx hb dX5_wanting_5 rfl (lv_at hl 0 rfl) ?_
  refine lv_aload_n hx hb dX5_wanting_6 rfl (lv_at hl 1 rfl) ?_
  refine va_get (D := gD G) (ci := 5) (v := .ref (a 1)) (C := RX5) (T := TX5) (N := 12) hx hb hts hin_X5_wanting_X5 hown hKK.1 hP 0 rfl rfl 0 (by decide) (hts _ lk_X5_wanting_7) (fun _ h9 => h9) rfl dX5_wanting_7 ?_
  refine lv_iconst (v := 0) hx hb dX5_wanting_10 (by decide) ?_
  refine va_ialdN (v := st 0) hx hb hKK.1 hP 1 0 rfl rfl (rfl) (by omega) (by decide) (rfl) dX5_wanting_11 ?_
  refine lv_ixor hx hb dX5_wanting_12 ?_
  refine lv_aload_n hx hb dX5_wanting_13 rfl (lv_at hl 1 rfl) ?_
  refine va_get (D := gD G) (ci := 5) (v := .ref (a 1)) (C := RX5) (T := TX5) (N := 12) hx hb hts hin_X5_wanting_X5 hown hKK.1 hP 0 rfl rfl 0 (by decide) (hts _ lk_X5_wanting_7) (fun _ h9 => h9) rfl dX5_wanting_14 ?_
  refine lv_iconst (v := 0) hx hb dX5_wanting_17 (by decide) ?_
  refine va_ialdN (v := st 0) hx hb hKK.1 hP 1 0 rfl rfl (rfl) (by omega) (by decide) (rfl) dX5_wanting_18 ?_
  refine lv_aload_n hx hb dX5_wanting_19 rfl (lv_at hl 1 rfl) ?_
  refine va_get (D := gD G) (ci := 5) (v := .ref (a 1)) (C := RX5) (T := TX5) (N := 12) hx hb hts hin_X5_wanting_X5 hown hKK.1 hP 0 rfl rfl 0 (by decide) (hts _ lk_X5_wanting_7) (fun _ h9 => h9) rfl dX5_wanting_20 ?_
  refine lv_iconst (v := 1) hx hb dX5_wanting_23 (by decide) ?_
  refine va_ialdN (v := st 1) hx hb hKK.1 hP 1 0 rfl rfl (rfl) (by omega) (by decide) (rfl) dX5_wanting_24 ?_
  refine lv_iand hx hb dX5_wanting_25 ?_
  refine lv_iconst (v := (-1)) hx hb dX5_wanting_26 (by decide) ?_
  refine lv_ixor hx hb dX5_wanting_27 ?_
  refine lv_iand hx hb dX5_wanting_28 ?_
  exact ex_ROi hx hb hr hlocks rfl dX5_wanting_29 (rfl)
set_option maxRecDepth 20000 in
theorem hin_X5_moveRelay_X5 : ∀ w ∈ u_ws RX5 TX5 12, w ∈ wsX5_moveRelay := by decide +kernel
theorem lk_X5_moveRelay_7 : Cond.fieldLink RX5 7 "WeldedRelaysModel" "state" "[I" ∈ wsX5_moveRelay := by decide +kernel
set_option maxHeartbeats 4000000 in
set_option maxRecDepth 100000 in
/-- X5_moveRelay -/
theorem c_X5_moveRelay (l : Launch) (G : GG) (a : Nat → Nat) (st : Nat → Int32) (kp : Nat → Int32) (hi : Nat → Int32) (sl : Nat → Int32) (sv : Nat → Int32) (pd : Nat → Int32) (td : Nat → Int32) (rc : Int32) (pl : Int32) (pt : Int32) (rt : Int32) (bn : Int32) (k : Nat) (hk : k < 10) (hL : 0 ≤ st 5) : Met l yX5_moveRelay wsX5_moveRelay ({ frames := 1, cells := 0, slots := 0, locals := 23 }) (pcM G [.ref (a 0), .int (nI k)] (mW G a st kp hi sl sv pd td rc pl pt rt bn)) (qMU G none (mW G a st kp hi sl sv pd td rc pl pt rt bn) (mW G a (moveF k st) kp hi sl sv pd td rc pl pt rt bn)) 0 0 (aA (mW G a st kp hi sl sv pd td rc pl pt rt bn)) := by
  refine hd_MU (cc := cX5_moveRelay) (maxL := 3) (ret := none) (by decide) rfl (Nat.le_of_ble_eq_true rfl) ?_
  intro p e s m below meth c ls hx hb hr hts hown hlocks hml hP hKK hD hS hl
  have hl : lv_has ls 3 [(0, .ref (a 0)), (1, .int (nI k))] := hl
  refine lv_aload_n hx hb dX5_moveRelay_0 rfl (lv_at hl 0 rfl) ?_
  refine va_get (D := gD G) (ci := 5) (v := .ref (a 1)) (C := RX5) (T := TX5) (N := 12) hx hb hts hin_X5_moveRelay_X5 hown hKK.1 hP 0 rfl rfl 0 (by decide) (hts _ lk_X5_moveRelay_7) (fun _ h9 => h9) rfl dX5_moveRelay_1 ?_
  refine lv_iconst (v := 0) hx hb dX5_moveRelay_4 (by decide) ?_
  refine lv_dup2_11 hx hb dX5_moveRelay_5 rfl rfl ?_
  refine va_ialdN (v := st 0) hx hb hKK.1 hP 1 0 rfl rfl (rfl) (by omega) (by decide) (rfl) dX5_moveRelay_6 ?_
  refine lv_iconst (v := 1) hx hb dX5_moveRelay_7 (by decide) ?_
  refine lv_iload_n hx hb dX5_moveRelay_8 rfl (lv_at hl 1 rfl) ?_
  refine lv_ishl hx hb dX5_moveRelay_9 ?_
  refine lv_asi (y := shl 1 (nI k)) rfl ?_
  refine lv_ixor hx hb dX5_moveRelay_10 ?_
  refine va_iastN (x := ((st 0) ^^^ (shl 1 (nI k)))) hx hb hKK.1 hP hD hS 1 0 rfl rfl (rfl) (by omega) (by decide) dX5_moveRelay_11 (fun H locs hP hD hS => ?_)
  have hP : gP G (mW G a (upd st 0 ((st 0) ^^^ (shl 1 (nI k)))) kp hi sl sv pd td rc pl pt rt bn) H := hP
  have hD : va_D _ (mW G a (upd st 0 ((st 0) ^^^ (shl 1 (nI k)))) kp hi sl sv pd td rc pl pt rt bn) := hD
  refine lv_aload_n hx hb dX5_moveRelay_12 rfl (lv_at hl 0 rfl) ?_
  refine va_get (D := gD G) (ci := 5) (v := .ref (a 1)) (C := RX5) (T := TX5) (N := 12) hx hb hts hin_X5_moveRelay_X5 hown hKK.1 hP 0 rfl rfl 0 (by decide) (hts _ lk_X5_moveRelay_7) (fun _ h9 => h9) rfl dX5_moveRelay_13 ?_
  refine lv_iconst (v := 4) hx hb dX5_moveRelay_16 (by decide) ?_
  refine lv_dup2_11 hx hb dX5_moveRelay_17 rfl rfl ?_
  refine va_ialdN (v := (upd st 0 ((st 0) ^^^ (shl 1 (nI k)))) 4) hx hb hKK.1 hP 1 0 rfl rfl (rfl) (by omega) (by decide) (rfl) dX5_moveRelay_18 ?_
  refine lv_iconst (v := 1) hx hb dX5_moveRelay_19 (by decide) ?_
  refine lv_iadd hx hb dX5_moveRelay_20 ?_
  refine va_iastN (x := (((upd st 0 ((st 0) ^^^ (shl 1 (nI k)))) 4) + 1)) hx hb hKK.1 hP hD hS 1 0 rfl rfl (rfl) (by omega) (by decide) dX5_moveRelay_21 (fun H locs hP hD hS => ?_)
  have hP : gP G (mW G a (upd (upd st 0 ((st 0) ^^^ (shl 1 (nI k)))) 4 (((upd st 0 ((st 0) ^^^ (shl 1 (nI k)))) 4) + 1)) kp hi sl sv pd td rc pl pt rt bn) H := hP
  have hD : va_D _ (mW G a (upd (upd st 0 ((st 0) ^^^ (shl 1 (nI k)))) 4 (((upd st 0 ((st 0) ^^^ (shl 1 (nI k)))) 4) + 1)) kp hi sl sv pd td rc pl pt rt bn) := hD
  refine lv_aload_n hx hb dX5_moveRelay_22 rfl (lv_at hl 0 rfl) ?_
  refine lv_iload_n hx hb dX5_moveRelay_23 rfl (lv_at hl 1 rfl) ?_
  refine lv_iconst (v := 2) hx hb dX5_moveRelay_24 (by decide) ?_
  refine lv_iconst (v := 0) hx hb dX5_moveRelay_25 (by decide) ?_
  refine mu_V (As := [.int (nI k), .int (nI 2), .int 0]) (rest := []) ⟨hx, hb, hml, hown, hts⟩ (c_X5_setPart l G a (upd (upd st 0 ((st 0) ^^^ (shl 1 (nI k)))) 4 (((upd st 0 ((st 0) ^^^ (shl 1 (nI k)))) 4) + 1)) kp hi sl sv pd td rc pl pt rt bn k 2 (by omega) (by omega) 0) (cwV 3 hts gX5_moveRelay_X5_setPart rfl rfl rfl (by decide +kernel) ⟨Nat.le_of_ble_eq_true rfl, Nat.le_of_ble_eq_true rfl⟩) hP hKK hD hS (va_recv hKK.1 hP (ci := 5) (q0 := 0) rfl rfl) rfl hl.1 rfl (Nat.le_of_ble_eq_true rfl) dX5_moveRelay_26 (Nat.zero_le _) (Nat.zero_le _) rfl (fun H locs hP hD hS => ?_)
  refine lv_aload_n hx hb dX5_moveRelay_29 rfl (lv_at hl 0 rfl) ?_
  refine va_get (D := gD G) (ci := 5) (v := .ref (a 1)) (C := RX5) (T := TX5) (N := 12) hx hb hts hin_X5_moveRelay_X5 hown hKK.1 hP 0 rfl rfl 0 (by decide) (hts _ lk_X5_moveRelay_7) (fun _ h9 => h9) rfl dX5_moveRelay_30 ?_
  refine lv_iconst (v := 0) hx hb dX5_moveRelay_33 (by decide) ?_
  refine va_ialdN (v := (upd (upd (upd st 0 ((st 0) ^^^ (shl 1 (nI k)))) 4 (((upd st 0 ((st 0) ^^^ (shl 1 (nI k)))) 4) + 1)) (px k 2) 0) 0) hx hb hKK.1 hP 1 0 rfl rfl (rfl) (by omega) (by decide) (rfl) dX5_moveRelay_34 ?_
  refine lv_iload_n hx hb dX5_moveRelay_35 rfl (lv_at hl 1 rfl) ?_
  refine ro_S (As := [.int ((upd (upd (upd st 0 ((st 0) ^^^ (shl 1 (nI k)))) 4 (((upd st 0 ((st 0) ^^^ (shl 1 (nI k)))) 4) + 1)) (px k 2) 0) 0), .int (nI k)]) (rest := []) ⟨hx, hb, hml, hown, hts⟩ (c_X5_has l G ((upd (upd (upd st 0 ((st 0) ^^^ (shl 1 (nI k)))) 4 (((upd st 0 ((st 0) ^^^ (shl 1 (nI k)))) 4) + 1)) (px k 2) 0) 0) (nI k)) (va_cwS 2 hts gX5_moveRelay_X5_has rfl rfl rfl (by decide +kernel) ⟨Nat.le_of_ble_eq_true rfl, Nat.le_of_ble_eq_true rfl⟩) (show gP G [] _ from fun k q h => by simp at h) hKK rfl hl.1 rfl (Nat.le_of_ble_eq_true rfl) dX5_moveRelay_36 (Nat.zero_le _) (Nat.zero_le _) ?_
  refine lv_if_eq (tgt := 106) hx hb dX5_moveRelay_39 (by decide) (fun c_39 => ?_) (fun c_39 => ?_)
  · skip
    have c_39 := b2i_0 c_39
    exact ex_MUv (w2 := (mW G a (upd (upd (upd st 0 ((st 0) ^^^ (shl 1 (nI k)))) 4 (((upd st 0 ((st 0) ^^^ (shl 1 (nI k)))) 4) + 1)) (px k 2) 0) kp hi sl sv pd td rc pl pt rt bn)) hx hb hr hlocks hP hS dX5_moveRelay_106 (fun h => by rw [← mmvF_eq k st hL]; simp only [mmvF]; simp_all)
  · skip
    have c_39 := b2i_1 c_39
    refine lv_aload_n hx hb dX5_moveRelay_42 rfl (lv_at hl 0 rfl) ?_
    refine lv_iload_n hx hb dX5_moveRelay_43 rfl (lv_at hl 1 rfl) ?_
    refine lv_iconst (v := 3) hx hb dX5_moveRelay_44 (by decide) ?_
    refine lv_aload_n hx hb dX5_moveRelay_45 rfl (lv_at hl 0 rfl) ?_
    refine lv_iload_n hx hb dX5_moveRelay_46 rfl (lv_at hl 1 rfl) ?_
    refine lv_iconst (v := 3) hx hb dX5_moveRelay_47 (by decide) ?_
    refine ro_V (As := [.int (nI k), .int (nI 3)]) (rest := [.int 3, .int (nI k), .ref (a 0)]) ⟨hx, hb, hml, hown, hts⟩ (c_X5_part l G a (upd (upd (upd st 0 ((st 0) ^^^ (shl 1 (nI k)))) 4 (((upd st 0 ((st 0) ^^^ (shl 1 (nI k)))) 4) + 1)) (px k 2) 0) kp hi sl sv pd td rc pl pt rt bn k 3 (by omega) (by omega)) (cwV 2 hts gX5_moveRelay_X5_part rfl rfl rfl (by decide +kernel) ⟨Nat.le_of_ble_eq_true rfl, Nat.le_of_ble_eq_true rfl⟩) hP hKK (va_recv hKK.1 hP (ci := 5) (q0 := 0) rfl rfl) rfl hl.1 rfl (Nat.le_of_ble_eq_true rfl) dX5_moveRelay_48 (Nat.zero_le _) (Nat.zero_le _) ?_
    refine lv_iconst (v := 1) hx hb dX5_moveRelay_51 (by decide) ?_
    refine lv_iadd hx hb dX5_moveRelay_52 ?_
    refine mu_V (As := [.int (nI k), .int (nI 3), .int (((upd (upd (upd st 0 ((st 0) ^^^ (shl 1 (nI k)))) 4 (((upd st 0 ((st 0) ^^^ (shl 1 (nI k)))) 4) + 1)) (px k 2) 0) (px k 3)) + 1)]) (rest := []) ⟨hx, hb, hml, hown, hts⟩ (c_X5_setPart l G a (upd (upd (upd st 0 ((st 0) ^^^ (shl 1 (nI k)))) 4 (((upd st 0 ((st 0) ^^^ (shl 1 (nI k)))) 4) + 1)) (px k 2) 0) kp hi sl sv pd td rc pl pt rt bn k 3 (by omega) (by omega) (((upd (upd (upd st 0 ((st 0) ^^^ (shl 1 (nI k)))) 4 (((upd st 0 ((st 0) ^^^ (shl 1 (nI k)))) 4) + 1)) (px k 2) 0) (px k 3)) + 1)) (cwV 3 hts gX5_moveRelay_X5_setPart rfl rfl rfl (by decide +kernel) ⟨Nat.le_of_ble_eq_true rfl, Nat.le_of_ble_eq_true rfl⟩) hP hKK hD hS (va_recv hKK.1 hP (ci := 5) (q0 := 0) rfl rfl) rfl hl.1 rfl (Nat.le_of_ble_eq_true rfl) dX5_moveRelay_53 (Nat.zero_le _) (Nat.zero_le _) rfl (fun H locs hP hD hS => ?_)
    refine lv_aload_n hx hb dX5_moveRelay_56 rfl (lv_at hl 0 rfl) ?_
    refine va_get (D := gD G) (ci := 5) (v := .ref (a 1)) (C := RX5) (T := TX5) (N := 12) hx hb hts hin_X5_moveRelay_X5 hown hKK.1 hP 0 rfl rfl 0 (by decide) (hts _ lk_X5_moveRelay_7) (fun _ h9 => h9) rfl dX5_moveRelay_57 ?_
    refine lv_iconst (v := 5) hx hb dX5_moveRelay_60 (by decide) ?_
    refine va_ialdN (v := (upd (upd (upd (upd st 0 ((st 0) ^^^ (shl 1 (nI k)))) 4 (((upd st 0 ((st 0) ^^^ (shl 1 (nI k)))) 4) + 1)) (px k 2) 0) (px k 3) (((upd (upd (upd st 0 ((st 0) ^^^ (shl 1 (nI k)))) 4 (((upd st 0 ((st 0) ^^^ (shl 1 (nI k)))) 4) + 1)) (px k 2) 0) (px k 3)) + 1)) 5) hx hb hKK.1 hP 1 0 rfl rfl (rfl) (by omega) (by decide) (rfl) dX5_moveRelay_61 ?_
    refine lv_if_le (tgt := 84) hx hb dX5_moveRelay_62 (by decide) (fun c_62 => ?_) (fun c_62 => ?_)
    · skip
      refine lv_iconst (v := 0) hx hb dX5_moveRelay_84 (by decide) ?_
      refine lv_istore_n (lv' := [(2, .int 0), (0, .ref (a 0)), (1, .int (nI k))]) hx hb dX5_moveRelay_85 rfl hl (by decide) rfl (fun ls hl => ?_)
      refine lv_aload_n hx hb dX5_moveRelay_86 rfl (lv_at hl 1 rfl) ?_
      refine va_get (D := gD G) (ci := 5) (v := .ref (a 1)) (C := RX5) (T := TX5) (N := 12) hx hb hts hin_X5_moveRelay_X5 hown hKK.1 hP 0 rfl rfl 0 (by decide) (hts _ lk_X5_moveRelay_7) (fun _ h9 => h9) rfl dX5_moveRelay_87 ?_
      refine lv_iconst (v := 1) hx hb dX5_moveRelay_90 (by decide) ?_
      refine lv_dup2_11 hx hb dX5_moveRelay_91 rfl rfl ?_
      refine va_ialdN (v := (upd (upd (upd (upd st 0 ((st 0) ^^^ (shl 1 (nI k)))) 4 (((upd st 0 ((st 0) ^^^ (shl 1 (nI k)))) 4) + 1)) (px k 2) 0) (px k 3) (((upd (upd (upd st 0 ((st 0) ^^^ (shl 1 (nI k)))) 4 (((upd st 0 ((st 0) ^^^ (shl 1 (nI k)))) 4) + 1)) (px k 2) 0) (px k 3)) + 1)) 1) hx hb hKK.1 hP 1 0 rfl rfl (rfl) (by omega) (by decide) (rfl) dX5_moveRelay_92 ?_
      refine lv_iload_n hx hb dX5_moveRelay_93 rfl (lv_at hl 0 rfl) ?_
      refine lv_if_eq (tgt := 103) hx hb dX5_moveRelay_94 (by decide) (fun c_94 => ?_) (fun c_94 => ?_)
      · skip
        refine lv_iconst (v := 0) hx hb dX5_moveRelay_103 (by decide) ?_
        refine lv_ior hx hb dX5_moveRelay_104 ?_
        refine va_iastN (x := (((upd (upd (upd (upd st 0 ((st 0) ^^^ (shl 1 (nI k)))) 4 (((upd st 0 ((st 0) ^^^ (shl 1 (nI k)))) 4) + 1)) (px k 2) 0) (px k 3) (((upd (upd (upd st 0 ((st 0) ^^^ (shl 1 (nI k)))) 4 (((upd st 0 ((st 0) ^^^ (shl 1 (nI k)))) 4) + 1)) (px k 2) 0) (px k 3)) + 1)) 1) ||| 0)) hx hb hKK.1 hP hD hS 1 0 rfl rfl (rfl) (by omega) (by decide) dX5_moveRelay_105 (fun H locs hP hD hS => ?_)
        have hP : gP G (mW G a (upd (upd (upd (upd (upd st 0 ((st 0) ^^^ (shl 1 (nI k)))) 4 (((upd st 0 ((st 0) ^^^ (shl 1 (nI k)))) 4) + 1)) (px k 2) 0) (px k 3) (((upd (upd (upd st 0 ((st 0) ^^^ (shl 1 (nI k)))) 4 (((upd st 0 ((st 0) ^^^ (shl 1 (nI k)))) 4) + 1)) (px k 2) 0) (px k 3)) + 1)) 1 (((upd (upd (upd (upd st 0 ((st 0) ^^^ (shl 1 (nI k)))) 4 (((upd st 0 ((st 0) ^^^ (shl 1 (nI k)))) 4) + 1)) (px k 2) 0) (px k 3) (((upd (upd (upd st 0 ((st 0) ^^^ (shl 1 (nI k)))) 4 (((upd st 0 ((st 0) ^^^ (shl 1 (nI k)))) 4) + 1)) (px k 2) 0) (px k 3)) + 1)) 1) ||| 0)) kp hi sl sv pd td rc pl pt rt bn) H := hP
        have hD : va_D _ (mW G a (upd (upd (upd (upd (upd st 0 ((st 0) ^^^ (shl 1 (nI k)))) 4 (((upd st 0 ((st 0) ^^^ (shl 1 (nI k)))) 4) + 1)) (px k 2) 0) (px k 3) (((upd (upd (upd st 0 ((st 0) ^^^ (shl 1 (nI k)))) 4 (((upd st 0 ((st 0) ^^^ (shl 1 (nI k)))) 4) + 1)) (px k 2) 0) (px k 3)) + 1)) 1 (((upd (upd (upd (upd st 0 ((st 0) ^^^ (shl 1 (nI k)))) 4 (((upd st 0 ((st 0) ^^^ (shl 1 (nI k)))) 4) + 1)) (px k 2) 0) (px k 3) (((upd (upd (upd st 0 ((st 0) ^^^ (shl 1 (nI k)))) 4 (((upd st 0 ((st 0) ^^^ (shl 1 (nI k)))) 4) + 1)) (px k 2) 0) (px k 3)) + 1)) 1) ||| 0)) kp hi sl sv pd td rc pl pt rt bn) := hD
        exact ex_MUv (w2 := (mW G a (upd (upd (upd (upd (upd st 0 ((st 0) ^^^ (shl 1 (nI k)))) 4 (((upd st 0 ((st 0) ^^^ (shl 1 (nI k)))) 4) + 1)) (px k 2) 0) (px k 3) (((upd (upd (upd st 0 ((st 0) ^^^ (shl 1 (nI k)))) 4 (((upd st 0 ((st 0) ^^^ (shl 1 (nI k)))) 4) + 1)) (px k 2) 0) (px k 3)) + 1)) 1 (((upd (upd (upd (upd st 0 ((st 0) ^^^ (shl 1 (nI k)))) 4 (((upd st 0 ((st 0) ^^^ (shl 1 (nI k)))) 4) + 1)) (px k 2) 0) (px k 3) (((upd (upd (upd st 0 ((st 0) ^^^ (shl 1 (nI k)))) 4 (((upd st 0 ((st 0) ^^^ (shl 1 (nI k)))) 4) + 1)) (px k 2) 0) (px k 3)) + 1)) 1) ||| 0)) kp hi sl sv pd td rc pl pt rt bn)) hx hb hr hlocks hP hS dX5_moveRelay_106 (fun h => by rw [← mmvF_eq k st hL]; simp only [mmvF]; simp_all)
      · skip
        exact absurd c_94 (by decide)
    · skip
      refine lv_aload_n hx hb dX5_moveRelay_65 rfl (lv_at hl 0 rfl) ?_
      refine lv_iload_n hx hb dX5_moveRelay_66 rfl (lv_at hl 1 rfl) ?_
      refine lv_iconst (v := 3) hx hb dX5_moveRelay_67 (by decide) ?_
      refine ro_V (As := [.int (nI k), .int (nI 3)]) (rest := []) ⟨hx, hb, hml, hown, hts⟩ (c_X5_part l G a (upd (upd (upd (upd st 0 ((st 0) ^^^ (shl 1 (nI k)))) 4 (((upd st 0 ((st 0) ^^^ (shl 1 (nI k)))) 4) + 1)) (px k 2) 0) (px k 3) (((upd (upd (upd st 0 ((st 0) ^^^ (shl 1 (nI k)))) 4 (((upd st 0 ((st 0) ^^^ (shl 1 (nI k)))) 4) + 1)) (px k 2) 0) (px k 3)) + 1)) kp hi sl sv pd td rc pl pt rt bn k 3 (by omega) (by omega)) (cwV 2 hts gX5_moveRelay_X5_part rfl rfl rfl (by decide +kernel) ⟨Nat.le_of_ble_eq_true rfl, Nat.le_of_ble_eq_true rfl⟩) hP hKK (va_recv hKK.1 hP (ci := 5) (q0 := 0) rfl rfl) rfl hl.1 rfl (Nat.le_of_ble_eq_true rfl) dX5_moveRelay_68 (Nat.zero_le _) (Nat.zero_le _) ?_
      refine lv_aload_n hx hb dX5_moveRelay_71 rfl (lv_at hl 0 rfl) ?_
      refine va_get (D := gD G) (ci := 5) (v := .ref (a 1)) (C := RX5) (T := TX5) (N := 12) hx hb hts hin_X5_moveRelay_X5 hown hKK.1 hP 0 rfl rfl 0 (by decide) (hts _ lk_X5_moveRelay_7) (fun _ h9 => h9) rfl dX5_moveRelay_72 ?_
      refine lv_iconst (v := 5) hx hb dX5_moveRelay_75 (by decide) ?_
      refine va_ialdN (v := (upd (upd (upd (upd st 0 ((st 0) ^^^ (shl 1 (nI k)))) 4 (((upd st 0 ((st 0) ^^^ (shl 1 (nI k)))) 4) + 1)) (px k 2) 0) (px k 3) (((upd (upd (upd st 0 ((st 0) ^^^ (shl 1 (nI k)))) 4 (((upd st 0 ((st 0) ^^^ (shl 1 (nI k)))) 4) + 1)) (px k 2) 0) (px k 3)) + 1)) 5) hx hb hKK.1 hP 1 0 rfl rfl (rfl) (by omega) (by decide) (rfl) dX5_moveRelay_76 ?_
      refine lv_icmp_lt (tgt := 84) hx hb dX5_moveRelay_77 (by decide) (fun c_77 => ?_) (fun c_77 => ?_)
      · skip
        refine lv_iconst (v := 0) hx hb dX5_moveRelay_84 (by decide) ?_
        refine lv_istore_n (lv' := [(2, .int 0), (0, .ref (a 0)), (1, .int (nI k))]) hx hb dX5_moveRelay_85 rfl hl (by decide) rfl (fun ls hl => ?_)
        refine lv_aload_n hx hb dX5_moveRelay_86 rfl (lv_at hl 1 rfl) ?_
        refine va_get (D := gD G) (ci := 5) (v := .ref (a 1)) (C := RX5) (T := TX5) (N := 12) hx hb hts hin_X5_moveRelay_X5 hown hKK.1 hP 0 rfl rfl 0 (by decide) (hts _ lk_X5_moveRelay_7) (fun _ h9 => h9) rfl dX5_moveRelay_87 ?_
        refine lv_iconst (v := 1) hx hb dX5_moveRelay_90 (by decide) ?_
        refine lv_dup2_11 hx hb dX5_moveRelay_91 rfl rfl ?_
        refine va_ialdN (v := (upd (upd (upd (upd st 0 ((st 0) ^^^ (shl 1 (nI k)))) 4 (((upd st 0 ((st 0) ^^^ (shl 1 (nI k)))) 4) + 1)) (px k 2) 0) (px k 3) (((upd (upd (upd st 0 ((st 0) ^^^ (shl 1 (nI k)))) 4 (((upd st 0 ((st 0) ^^^ (shl 1 (nI k)))) 4) + 1)) (px k 2) 0) (px k 3)) + 1)) 1) hx hb hKK.1 hP 1 0 rfl rfl (rfl) (by omega) (by decide) (rfl) dX5_moveRelay_92 ?_
        refine lv_iload_n hx hb dX5_moveRelay_93 rfl (lv_at hl 0 rfl) ?_
        refine lv_if_eq (tgt := 103) hx hb dX5_moveRelay_94 (by decide) (fun c_94 => ?_) (fun c_94 => ?_)
        · skip
          refine lv_iconst (v := 0) hx hb dX5_moveRelay_103 (by decide) ?_
          refine lv_ior hx hb dX5_moveRelay_104 ?_
          refine va_iastN (x := (((upd (upd (upd (upd st 0 ((st 0) ^^^ (shl 1 (nI k)))) 4 (((upd st 0 ((st 0) ^^^ (shl 1 (nI k)))) 4) + 1)) (px k 2) 0) (px k 3) (((upd (upd (upd st 0 ((st 0) ^^^ (shl 1 (nI k)))) 4 (((upd st 0 ((st 0) ^^^ (shl 1 (nI k)))) 4) + 1)) (px k 2) 0) (px k 3)) + 1)) 1) ||| 0)) hx hb hKK.1 hP hD hS 1 0 rfl rfl (rfl) (by omega) (by decide) dX5_moveRelay_105 (fun H locs hP hD hS => ?_)
          have hP : gP G (mW G a (upd (upd (upd (upd (upd st 0 ((st 0) ^^^ (shl 1 (nI k)))) 4 (((upd st 0 ((st 0) ^^^ (shl 1 (nI k)))) 4) + 1)) (px k 2) 0) (px k 3) (((upd (upd (upd st 0 ((st 0) ^^^ (shl 1 (nI k)))) 4 (((upd st 0 ((st 0) ^^^ (shl 1 (nI k)))) 4) + 1)) (px k 2) 0) (px k 3)) + 1)) 1 (((upd (upd (upd (upd st 0 ((st 0) ^^^ (shl 1 (nI k)))) 4 (((upd st 0 ((st 0) ^^^ (shl 1 (nI k)))) 4) + 1)) (px k 2) 0) (px k 3) (((upd (upd (upd st 0 ((st 0) ^^^ (shl 1 (nI k)))) 4 (((upd st 0 ((st 0) ^^^ (shl 1 (nI k)))) 4) + 1)) (px k 2) 0) (px k 3)) + 1)) 1) ||| 0)) kp hi sl sv pd td rc pl pt rt bn) H := hP
          have hD : va_D _ (mW G a (upd (upd (upd (upd (upd st 0 ((st 0) ^^^ (shl 1 (nI k)))) 4 (((upd st 0 ((st 0) ^^^ (shl 1 (nI k)))) 4) + 1)) (px k 2) 0) (px k 3) (((upd (upd (upd st 0 ((st 0) ^^^ (shl 1 (nI k)))) 4 (((upd st 0 ((st 0) ^^^ (shl 1 (nI k)))) 4) + 1)) (px k 2) 0) (px k 3)) + 1)) 1 (((upd (upd (upd (upd st 0 ((st 0) ^^^ (shl 1 (nI k)))) 4 (((upd st 0 ((st 0) ^^^ (shl 1 (nI k)))) 4) + 1)) (px k 2) 0) (px k 3) (((upd (upd (upd st 0 ((st 0) ^^^ (shl 1 (nI k)))) 4 (((upd st 0 ((st 0) ^^^ (shl 1 (nI k)))) 4) + 1)) (px k 2) 0) (px k 3)) + 1)) 1) ||| 0)) kp hi sl sv pd td rc pl pt rt bn) := hD
          exact ex_MUv (w2 := (mW G a (upd (upd (upd (upd (upd st 0 ((st 0) ^^^ (shl 1 (nI k)))) 4 (((upd st 0 ((st 0) ^^^ (shl 1 (nI k)))) 4) + 1)) (px k 2) 0) (px k 3) (((upd (upd (upd st 0 ((st 0) ^^^ (shl 1 (nI k)))) 4 (((upd st 0 ((st 0) ^^^ (shl 1 (nI k)))) 4) + 1)) (px k 2) 0) (px k 3)) + 1)) 1 (((upd (upd (upd (upd st 0 ((st 0) ^^^ (shl 1 (nI k)))) 4 (((upd st 0 ((st 0) ^^^ (shl 1 (nI k)))) 4) + 1)) (px k 2) 0) (px k 3) (((upd (upd (upd st 0 ((st 0) ^^^ (shl 1 (nI k)))) 4 (((upd st 0 ((st 0) ^^^ (shl 1 (nI k)))) 4) + 1)) (px k 2) 0) (px k 3)) + 1)) 1) ||| 0)) kp hi sl sv pd td rc pl pt rt bn)) hx hb hr hlocks hP hS dX5_moveRelay_106 (fun h => by rw [← mmvF_eq k st hL]; simp only [mmvF]; simp_all)
        · skip
          exact absurd c_94 (by decide)
      · skip
        refine lv_iconst (v := 1) hx hb dX5_moveRelay_80 (by decide) ?_
        refine lv_goto (tgt := 85) hx hb dX5_moveRelay_81 (by decide) ?_
        refine lv_istore_n (lv' := [(2, .int 1), (0, .ref (a 0)), (1, .int (nI k))]) hx hb dX5_moveRelay_85 rfl hl (by decide) rfl (fun ls hl => ?_)
        refine lv_aload_n hx hb dX5_moveRelay_86 rfl (lv_at hl 1 rfl) ?_
        refine va_get (D := gD G) (ci := 5) (v := .ref (a 1)) (C := RX5) (T := TX5) (N := 12) hx hb hts hin_X5_moveRelay_X5 hown hKK.1 hP 0 rfl rfl 0 (by decide) (hts _ lk_X5_moveRelay_7) (fun _ h9 => h9) rfl dX5_moveRelay_87 ?_
        refine lv_iconst (v := 1) hx hb dX5_moveRelay_90 (by decide) ?_
        refine lv_dup2_11 hx hb dX5_moveRelay_91 rfl rfl ?_
        refine va_ialdN (v := (upd (upd (upd (upd st 0 ((st 0) ^^^ (shl 1 (nI k)))) 4 (((upd st 0 ((st 0) ^^^ (shl 1 (nI k)))) 4) + 1)) (px k 2) 0) (px k 3) (((upd (upd (upd st 0 ((st 0) ^^^ (shl 1 (nI k)))) 4 (((upd st 0 ((st 0) ^^^ (shl 1 (nI k)))) 4) + 1)) (px k 2) 0) (px k 3)) + 1)) 1) hx hb hKK.1 hP 1 0 rfl rfl (rfl) (by omega) (by decide) (rfl) dX5_moveRelay_92 ?_
        refine lv_iload_n hx hb dX5_moveRelay_93 rfl (lv_at hl 0 rfl) ?_
        refine lv_if_eq (tgt := 103) hx hb dX5_moveRelay_94 (by decide) (fun c_94 => ?_) (fun c_94 => ?_)
        · skip
          exact absurd c_94 (by decide)
        · skip
          refine lv_iconst (v := 1) hx hb dX5_moveRelay_97 (by decide) ?_
          refine lv_iload_n hx hb dX5_moveRelay_98 rfl (lv_at hl 2 rfl) ?_
          refine lv_ishl hx hb dX5_moveRelay_99 ?_
          refine lv_asi (y := shl 1 (nI k)) rfl ?_
          refine lv_goto (tgt := 104) hx hb dX5_moveRelay_100 (by decide) ?_
          refine lv_ior hx hb dX5_moveRelay_104 ?_
          refine va_iastN (x := (((upd (upd (upd (upd st 0 ((st 0) ^^^ (shl 1 (nI k)))) 4 (((upd st 0 ((st 0) ^^^ (shl 1 (nI k)))) 4) + 1)) (px k 2) 0) (px k 3) (((upd (upd (upd st 0 ((st 0) ^^^ (shl 1 (nI k)))) 4 (((upd st 0 ((st 0) ^^^ (shl 1 (nI k)))) 4) + 1)) (px k 2) 0) (px k 3)) + 1)) 1) ||| (shl 1 (nI k)))) hx hb hKK.1 hP hD hS 1 0 rfl rfl (rfl) (by omega) (by decide) dX5_moveRelay_105 (fun H locs hP hD hS => ?_)
          have hP : gP G (mW G a (upd (upd (upd (upd (upd st 0 ((st 0) ^^^ (shl 1 (nI k)))) 4 (((upd st 0 ((st 0) ^^^ (shl 1 (nI k)))) 4) + 1)) (px k 2) 0) (px k 3) (((upd (upd (upd st 0 ((st 0) ^^^ (shl 1 (nI k)))) 4 (((upd st 0 ((st 0) ^^^ (shl 1 (nI k)))) 4) + 1)) (px k 2) 0) (px k 3)) + 1)) 1 (((upd (upd (upd (upd st 0 ((st 0) ^^^ (shl 1 (nI k)))) 4 (((upd st 0 ((st 0) ^^^ (shl 1 (nI k)))) 4) + 1)) (px k 2) 0) (px k 3) (((upd (upd (upd st 0 ((st 0) ^^^ (shl 1 (nI k)))) 4 (((upd st 0 ((st 0) ^^^ (shl 1 (nI k)))) 4) + 1)) (px k 2) 0) (px k 3)) + 1)) 1) ||| (shl 1 (nI k)))) kp hi sl sv pd td rc pl pt rt bn) H := hP
          have hD : va_D _ (mW G a (upd (upd (upd (upd (upd st 0 ((st 0) ^^^ (shl 1 (nI k)))) 4 (((upd st 0 ((st 0) ^^^ (shl 1 (nI k)))) 4) + 1)) (px k 2) 0) (px k 3) (((upd (upd (upd st 0 ((st 0) ^^^ (shl 1 (nI k)))) 4 (((upd st 0 ((st 0) ^^^ (shl 1 (nI k)))) 4) + 1)) (px k 2) 0) (px k 3)) + 1)) 1 (((upd (upd (upd (upd st 0 ((st 0) ^^^ (shl 1 (nI k)))) 4 (((upd st 0 ((st 0) ^^^ (shl 1 (nI k)))) 4) + 1)) (px k 2) 0) (px k 3) (((upd (upd (upd st 0 ((st 0) ^^^ (shl 1 (nI k)))) 4 (((upd st 0 ((st 0) ^^^ (shl 1 (nI k)))) 4) + 1)) (px k 2) 0) (px k 3)) + 1)) 1) ||| (shl 1 (nI k)))) kp hi sl sv pd td rc pl pt rt bn) := hD
          exact ex_MUv (w2 := (mW G a (upd (upd (upd (upd (upd st 0 ((st 0) ^^^ (shl 1 (nI k)))) 4 (((upd st 0 ((st 0) ^^^ (shl 1 (nI k)))) 4) + 1)) (px k 2) 0) (px k 3) (((upd (upd (upd st 0 ((st 0) ^^^ (shl 1 (nI k)))) 4 (((upd st 0 ((st 0) ^^^ (shl 1 (nI k)))) 4) + 1)) (px k 2) 0) (px k 3)) + 1)) 1 (((upd (upd (upd (upd st 0 ((st 0) ^^^ (shl 1 (nI k)))) 4 (((upd st 0 ((st 0) ^^^ (shl 1 (nI k)))) 4) + 1)) (px k 2) 0) (px k 3) (((upd (upd (upd st 0 ((st 0) ^^^ (shl 1 (nI k)))) 4 (((upd st 0 ((st 0) ^^^ (shl 1 (nI k)))) 4) + 1)) (px k 2) 0) (px k 3)) + 1)) 1) ||| (shl 1 (nI k)))) kp hi sl sv pd td rc pl pt rt bn)) hx hb hr hlocks hP hS dX5_moveRelay_106 (fun h => by rw [← mmvF_eq k st hL]; simp only [mmvF]; simp_all)
set_option maxRecDepth 20000 in
theorem hin_X5_tick_X5 : ∀ w ∈ u_ws RX5 TX5 12, w ∈ wsX5_tick := by decide +kernel
theorem lk_X5_tick_7 : Cond.fieldLink RX5 7 "WeldedRelaysModel" "state" "[I" ∈ wsX5_tick := by decide +kernel
set_option maxHeartbeats 4000000 in
set_option maxRecDepth 100000 in
/-- X5_tick -/
theorem c_X5_tick (l : Launch) (G : GG) (a : Nat → Nat) (st : Nat → Int32) (kp : Nat → Int32) (hi : Nat → Int32) (sl : Nat → Int32) (sv : Nat → Int32) (pd : Nat → Int32) (td : Nat → Int32) (rc : Int32) (pl : Int32) (pt : Int32) (rt : Int32) (bn : Int32) (hI : RI st) : Met l yX5_tick wsX5_tick ({ frames := 6, cells := 0, slots := 0, locals := 134 }) (pcM G [.ref (a 0)] (mW G a st kp hi sl sv pd td rc pl pt rt bn)) (qMU G none (mW G a st kp hi sl sv pd td rc pl pt rt bn) (mW G a (tick st) kp hi sl sv pd td rc pl pt rt bn)) 0 0 (aA (mW G a st kp hi sl sv pd td rc pl pt rt bn)) := by
  refine hd_MU (cc := cX5_tick) (maxL := 3) (ret := none) (by decide) rfl (Nat.le_of_ble_eq_true rfl) ?_
  intro p e s m below meth c ls hx hb hr hts hown hlocks hml hP hKK hD hS hl
  have hl : lv_has ls 3 [(0, .ref (a 0))] := hl
  refine lv_aload_n hx hb dX5_tick_0 rfl (lv_at hl 0 rfl) ?_
  refine ro_V (As := []) (rest := []) ⟨hx, hb, hml, hown, hts⟩ (c_X5_wanting l G a st kp hi sl sv pd td rc pl pt rt bn (by assumption)) (cwV 0 hts gX5_tick_X5_wanting rfl rfl rfl (by decide +kernel) ⟨Nat.le_of_ble_eq_true rfl, Nat.le_of_ble_eq_true rfl⟩) hP hKK (va_recv hKK.1 hP (ci := 5) (q0 := 0) rfl rfl) rfl hl.1 rfl (Nat.le_of_ble_eq_true rfl) dX5_tick_1 (Nat.zero_le _) (Nat.zero_le _) ?_
  refine lv_istore_n (lv' := [(1, .int (wan st)), (0, .ref (a 0))]) hx hb dX5_tick_4 rfl hl (by decide) rfl (fun ls hl => ?_)
  refine lv_iconst (v := 0) hx hb dX5_tick_5 (by decide) ?_
  refine lv_istore_n (lv' := [(2, .int 0), (1, .int (wan st)), (0, .ref (a 0))]) hx hb dX5_tick_6 rfl hl (by decide) rfl (fun ls hl => ?_)
  have L_7 : ∀ (n : Nat) (i : Nat), (i ≤ 10) → (10 + 1 ≤ i + n) → ∀ (H : Heap) (locs : List Loc), gP G (mW G a (stepN (wan st) i st) kp hi sl sv pd td rc pl pt rt bn) H → va_D (aA (mW G a st kp hi sl sv pd td rc pl pt rt bn)) (mW G a (stepN (wan st) i st) kp hi sl sv pd td rc pl pt rt bn) → va_S (aA (mW G a st kp hi sl sv pd td rc pl pt rt bn)) s.heap H locs → ∀ (ls : Array Slot), lv_has ls 3 [(2, .int (nI i)), (1, .int (wan st)), (0, .ref (a 0))] → W p l e ({ frames := 6, cells := 0, slots := 0, locals := 134 }) s m (List.toArray [.ref (a 0)]) below meth c H locs 0 0 (MQ below (qMU G none (mW G a st kp hi sl sv pd td rc pl pt rt bn) (mW G a (tick st) kp hi sl sv pd td rc pl pt rt bn)) (List.toArray [.ref (a 0)]) s 0 0 (aA (mW G a st kp hi sl sv pd td rc pl pt rt bn))) (F0 m 7 ls []) := by
    intro n
    induction n with
    | zero => intro i h1 h2; exact absurd (h2) (by omega)
    | succ n ih =>
      intro i h1 h2 H locs hP hD hS ls hl
      refine lv_iload_n hx hb dX5_tick_7 rfl (lv_at hl 0 rfl) ?_
      refine lv_bipush (v := 10) hx hb dX5_tick_8 (by decide) ?_
      refine lv_icmp_ge (tgt := 90) hx hb dX5_tick_10 (by decide) (fun c_10 => ?_) (fun c_10 => ?_)
      · skip
        have c_10 := (lt_lit (by omega) (by omega)).mp c_10
        refine lv_aload_n hx hb dX5_tick_90 rfl (lv_at hl 2 rfl) ?_
        refine va_get (D := gD G) (ci := 5) (v := .ref (a 1)) (C := RX5) (T := TX5) (N := 12) hx hb hts hin_X5_tick_X5 hown hKK.1 hP 0 rfl rfl 0 (by decide) (hts _ lk_X5_tick_7) (fun _ h9 => h9) rfl dX5_tick_91 ?_
        refine lv_iconst (v := 3) hx hb dX5_tick_94 (by decide) ?_
        refine lv_dup2_11 hx hb dX5_tick_95 rfl rfl ?_
        refine va_ialdN (v := (stepN (wan st) i st) 3) hx hb hKK.1 hP 1 0 rfl rfl (rfl) (by omega) (by decide) (rfl) dX5_tick_96 ?_
        refine lv_iconst (v := 1) hx hb dX5_tick_97 (by decide) ?_
        refine lv_iadd hx hb dX5_tick_98 ?_
        refine va_iastN (x := (((stepN (wan st) i st) 3) + 1)) hx hb hKK.1 hP hD hS 1 0 rfl rfl (rfl) (by omega) (by decide) dX5_tick_99 (fun H locs hP hD hS => ?_)
        have hP : gP G (mW G a (upd (stepN (wan st) i st) 3 (((stepN (wan st) i st) 3) + 1)) kp hi sl sv pd td rc pl pt rt bn) H := hP
        have hD : va_D _ (mW G a (upd (stepN (wan st) i st) 3 (((stepN (wan st) i st) 3) + 1)) kp hi sl sv pd td rc pl pt rt bn) := hD
        exact ex_MUv (w2 := (mW G a (upd (stepN (wan st) i st) 3 (((stepN (wan st) i st) 3) + 1)) kp hi sl sv pd td rc pl pt rt bn)) hx hb hr hlocks hP hS dX5_tick_100 (fun h => by rw [show i = 10 by omega, tickM] at h; exact h)
      · skip
        have c_10 := fun q => c_10 ((lt_lit (by omega) (by omega)).mpr q)
        refine lv_aload_n hx hb dX5_tick_13 rfl (lv_at hl 2 rfl) ?_
        refine lv_iload_n hx hb dX5_tick_14 rfl (lv_at hl 0 rfl) ?_
        refine lv_iconst (v := 2) hx hb dX5_tick_15 (by decide) ?_
        refine lv_iload_n hx hb dX5_tick_16 rfl (lv_at hl 1 rfl) ?_
        refine lv_iload_n hx hb dX5_tick_17 rfl (lv_at hl 0 rfl) ?_
        refine ro_S (As := [.int (wan st), .int (nI i)]) (rest := [.int 2, .int (nI i), .ref (a 0)]) ⟨hx, hb, hml, hown, hts⟩ (c_X5_has l G (wan st) (nI i)) (va_cwS 2 hts gX5_tick_X5_has rfl rfl rfl (by decide +kernel) ⟨Nat.le_of_ble_eq_true rfl, Nat.le_of_ble_eq_true rfl⟩) (show gP G [] _ from fun k q h => by simp at h) hKK rfl hl.1 rfl (Nat.le_of_ble_eq_true rfl) dX5_tick_18 (Nat.zero_le _) (Nat.zero_le _) ?_
        refine lv_if_eq (tgt := 35) hx hb dX5_tick_21 (by decide) (fun c_21 => ?_) (fun c_21 => ?_)
        · skip
          have c_21 := b2i_0 c_21
          refine lv_iconst (v := 0) hx hb dX5_tick_35 (by decide) ?_
          refine mu_V (As := [.int (nI i), .int (nI 2), .int 0]) (rest := []) ⟨hx, hb, hml, hown, hts⟩ (c_X5_setPart l G a (stepN (wan st) i st) kp hi sl sv pd td rc pl pt rt bn i 2 (by omega) (by omega) 0) (cwV 3 hts gX5_tick_X5_setPart rfl rfl rfl (by decide +kernel) ⟨Nat.le_of_ble_eq_true rfl, Nat.le_of_ble_eq_true rfl⟩) hP hKK hD hS (va_recv hKK.1 hP (ci := 5) (q0 := 0) rfl rfl) rfl hl.1 rfl (Nat.le_of_ble_eq_true rfl) dX5_tick_36 (Nat.zero_le _) (Nat.zero_le _) rfl (fun H locs hP hD hS => ?_)
          refine lv_iload_n hx hb dX5_tick_39 rfl (lv_at hl 1 rfl) ?_
          refine lv_iload_n hx hb dX5_tick_40 rfl (lv_at hl 0 rfl) ?_
          refine ro_S (As := [.int (wan st), .int (nI i)]) (rest := []) ⟨hx, hb, hml, hown, hts⟩ (c_X5_has l G (wan st) (nI i)) (va_cwS 2 hts gX5_tick_X5_has rfl rfl rfl (by decide +kernel) ⟨Nat.le_of_ble_eq_true rfl, Nat.le_of_ble_eq_true rfl⟩) (show gP G [] _ from fun k q h => by simp at h) hKK rfl hl.1 rfl (Nat.le_of_ble_eq_true rfl) dX5_tick_41 (Nat.zero_le _) (Nat.zero_le _) ?_
          refine lv_if_eq (tgt := 84) hx hb dX5_tick_44 (by decide) (fun c_44 => ?_) (fun c_44 => ?_)
          · skip
            have c_44 := b2i_0 c_44
            have ev_1 : upd (stepN (wan st) i st) (px i 2) 0 = stepN (wan st) (i + 1) st := by simp only [stepN, stepF, waitF]; simp_all
            have hP : gP G (mW G a (stepN (wan st) (i + 1) st) kp hi sl sv pd td rc pl pt rt bn) H := by rw [← ev_1]; exact hP
            have hD : va_D _ (mW G a (stepN (wan st) (i + 1) st) kp hi sl sv pd td rc pl pt rt bn) := by rw [← ev_1]; exact hD
            refine lv_iinc (v := nI (i + 1)) (lv' := [(2, .int (nI (i + 1))), (1, .int (wan st)), (0, .ref (a 0))]) hx hb dX5_tick_84 hl (k := 0) rfl (nI_1 _) (by decide) rfl (fun ls hl => ?_)
            refine lv_goto (tgt := 7) hx hb dX5_tick_87 (by decide) ?_
            exact ih (i + 1) (by omega) (by omega) _ _ (hP) (hD) hS _ (lv_sub hl [0, 1, 2] rfl)
          · skip
            have c_44 := b2i_1 c_44
            refine lv_aload_n hx hb dX5_tick_47 rfl (lv_at hl 2 rfl) ?_
            refine lv_iload_n hx hb dX5_tick_48 rfl (lv_at hl 0 rfl) ?_
            refine lv_iconst (v := 2) hx hb dX5_tick_49 (by decide) ?_
            refine ro_V (As := [.int (nI i), .int (nI 2)]) (rest := []) ⟨hx, hb, hml, hown, hts⟩ (c_X5_part l G a (upd (stepN (wan st) i st) (px i 2) 0) kp hi sl sv pd td rc pl pt rt bn i 2 (by omega) (by omega)) (cwV 2 hts gX5_tick_X5_part rfl rfl rfl (by decide +kernel) ⟨Nat.le_of_ble_eq_true rfl, Nat.le_of_ble_eq_true rfl⟩) hP hKK (va_recv hKK.1 hP (ci := 5) (q0 := 0) rfl rfl) rfl hl.1 rfl (Nat.le_of_ble_eq_true rfl) dX5_tick_50 (Nat.zero_le _) (Nat.zero_le _) ?_
            refine lv_aload_n hx hb dX5_tick_53 rfl (lv_at hl 2 rfl) ?_
            refine lv_iload_n hx hb dX5_tick_54 rfl (lv_at hl 0 rfl) ?_
            refine lv_aload_n hx hb dX5_tick_55 rfl (lv_at hl 2 rfl) ?_
            refine va_get (D := gD G) (ci := 5) (v := .ref (a 1)) (C := RX5) (T := TX5) (N := 12) hx hb hts hin_X5_tick_X5 hown hKK.1 hP 0 rfl rfl 0 (by decide) (hts _ lk_X5_tick_7) (fun _ h9 => h9) rfl dX5_tick_56 ?_
            refine lv_iconst (v := 0) hx hb dX5_tick_59 (by decide) ?_
            refine va_ialdN (v := (upd (stepN (wan st) i st) (px i 2) 0) 0) hx hb hKK.1 hP 1 0 rfl rfl (rfl) (by omega) (by decide) (rfl) dX5_tick_60 ?_
            refine lv_iload_n hx hb dX5_tick_61 rfl (lv_at hl 0 rfl) ?_
            refine ro_S (As := [.int ((upd (stepN (wan st) i st) (px i 2) 0) 0), .int (nI i)]) (rest := [.int (nI i), .ref (a 0), .int ((upd (stepN (wan st) i st) (px i 2) 0) (px i 2))]) ⟨hx, hb, hml, hown, hts⟩ (c_X5_has l G ((upd (stepN (wan st) i st) (px i 2) 0) 0) (nI i)) (va_cwS 2 hts gX5_tick_X5_has rfl rfl rfl (by decide +kernel) ⟨Nat.le_of_ble_eq_true rfl, Nat.le_of_ble_eq_true rfl⟩) (show gP G [] _ from fun k q h => by simp at h) hKK rfl hl.1 rfl (Nat.le_of_ble_eq_true rfl) dX5_tick_62 (Nat.zero_le _) (Nat.zero_le _) ?_
            refine lv_if_eq (tgt := 72) hx hb dX5_tick_65 (by decide) (fun c_65 => ?_) (fun c_65 => ?_)
            · skip
              have c_65 := b2i_0 c_65
              refine lv_iconst (v := 0) hx hb dX5_tick_72 (by decide) ?_
              refine ro_V (As := [.int (nI i), .int (nI 0)]) (rest := [.int ((upd (stepN (wan st) i st) (px i 2) 0) (px i 2))]) ⟨hx, hb, hml, hown, hts⟩ (c_X5_part l G a (upd (stepN (wan st) i st) (px i 2) 0) kp hi sl sv pd td rc pl pt rt bn i 0 (by omega) (by omega)) (cwV 2 hts gX5_tick_X5_part rfl rfl rfl (by decide +kernel) ⟨Nat.le_of_ble_eq_true rfl, Nat.le_of_ble_eq_true rfl⟩) hP hKK (va_recv hKK.1 hP (ci := 5) (q0 := 0) rfl rfl) rfl hl.1 rfl (Nat.le_of_ble_eq_true rfl) dX5_tick_73 (Nat.zero_le _) (Nat.zero_le _) ?_
              refine lv_icmp_lt (tgt := 84) hx hb dX5_tick_76 (by decide) (fun c_76 => ?_) (fun c_76 => ?_)
              · skip
                have ev_2 : upd (stepN (wan st) i st) (px i 2) 0 = stepN (wan st) (i + 1) st := by simp only [stepN, stepF, waitF]; simp_all
                have hP : gP G (mW G a (stepN (wan st) (i + 1) st) kp hi sl sv pd td rc pl pt rt bn) H := by rw [← ev_2]; exact hP
                have hD : va_D _ (mW G a (stepN (wan st) (i + 1) st) kp hi sl sv pd td rc pl pt rt bn) := by rw [← ev_2]; exact hD
                refine lv_iinc (v := nI (i + 1)) (lv' := [(2, .int (nI (i + 1))), (1, .int (wan st)), (0, .ref (a 0))]) hx hb dX5_tick_84 hl (k := 0) rfl (nI_1 _) (by decide) rfl (fun ls hl => ?_)
                refine lv_goto (tgt := 7) hx hb dX5_tick_87 (by decide) ?_
                exact ih (i + 1) (by omega) (by omega) _ _ (hP) (hD) hS _ (lv_sub hl [0, 1, 2] rfl)
              · skip
                refine lv_aload_n hx hb dX5_tick_79 rfl (lv_at hl 2 rfl) ?_
                refine lv_iload_n hx hb dX5_tick_80 rfl (lv_at hl 0 rfl) ?_
                refine mu_V (As := [.int (nI i)]) (rest := []) ⟨hx, hb, hml, hown, hts⟩ (c_X5_moveRelay l G a (upd (stepN (wan st) i st) (px i 2) 0) kp hi sl sv pd td rc pl pt rt bn i (by omega) (by rw [upd_o (Ne.symm (px_ne6 (by decide))), stepN_kp (Or.inr (Or.inl rfl))]; exact hI.2)) (cwV 1 hts gX5_tick_X5_moveRelay rfl rfl rfl (by decide +kernel) ⟨Nat.le_of_ble_eq_true rfl, Nat.le_of_ble_eq_true rfl⟩) hP hKK hD hS (va_recv hKK.1 hP (ci := 5) (q0 := 0) rfl rfl) rfl hl.1 rfl (Nat.le_of_ble_eq_true rfl) dX5_tick_81 (Nat.zero_le _) (Nat.zero_le _) rfl (fun H locs hP hD hS => ?_)
                have ev_3 : moveF i (upd (stepN (wan st) i st) (px i 2) 0) = stepN (wan st) (i + 1) st := by simp only [stepN, stepF, waitF]; simp_all
                have hP : gP G (mW G a (stepN (wan st) (i + 1) st) kp hi sl sv pd td rc pl pt rt bn) H := by rw [← ev_3]; exact hP
                have hD : va_D _ (mW G a (stepN (wan st) (i + 1) st) kp hi sl sv pd td rc pl pt rt bn) := by rw [← ev_3]; exact hD
                refine lv_iinc (v := nI (i + 1)) (lv' := [(2, .int (nI (i + 1))), (1, .int (wan st)), (0, .ref (a 0))]) hx hb dX5_tick_84 hl (k := 0) rfl (nI_1 _) (by decide) rfl (fun ls hl => ?_)
                refine lv_goto (tgt := 7) hx hb dX5_tick_87 (by decide) ?_
                exact ih (i + 1) (by omega) (by omega) _ _ (hP) (hD) hS _ (lv_sub hl [0, 1, 2] rfl)
            · skip
              have c_65 := b2i_1 c_65
              refine lv_iconst (v := 1) hx hb dX5_tick_68 (by decide) ?_
              refine lv_goto (tgt := 73) hx hb dX5_tick_69 (by decide) ?_
              refine ro_V (As := [.int (nI i), .int (nI 1)]) (rest := [.int ((upd (stepN (wan st) i st) (px i 2) 0) (px i 2))]) ⟨hx, hb, hml, hown, hts⟩ (c_X5_part l G a (upd (stepN (wan st) i st) (px i 2) 0) kp hi sl sv pd td rc pl pt rt bn i 1 (by omega) (by omega)) (cwV 2 hts gX5_tick_X5_part rfl rfl rfl (by decide +kernel) ⟨Nat.le_of_ble_eq_true rfl, Nat.le_of_ble_eq_true rfl⟩) hP hKK (va_recv hKK.1 hP (ci := 5) (q0 := 0) rfl rfl) rfl hl.1 rfl (Nat.le_of_ble_eq_true rfl) dX5_tick_73 (Nat.zero_le _) (Nat.zero_le _) ?_
              refine lv_icmp_lt (tgt := 84) hx hb dX5_tick_76 (by decide) (fun c_76 => ?_) (fun c_76 => ?_)
              · skip
                have ev_4 : upd (stepN (wan st) i st) (px i 2) 0 = stepN (wan st) (i + 1) st := by simp only [stepN, stepF, waitF]; simp_all
                have hP : gP G (mW G a (stepN (wan st) (i + 1) st) kp hi sl sv pd td rc pl pt rt bn) H := by rw [← ev_4]; exact hP
                have hD : va_D _ (mW G a (stepN (wan st) (i + 1) st) kp hi sl sv pd td rc pl pt rt bn) := by rw [← ev_4]; exact hD
                refine lv_iinc (v := nI (i + 1)) (lv' := [(2, .int (nI (i + 1))), (1, .int (wan st)), (0, .ref (a 0))]) hx hb dX5_tick_84 hl (k := 0) rfl (nI_1 _) (by decide) rfl (fun ls hl => ?_)
                refine lv_goto (tgt := 7) hx hb dX5_tick_87 (by decide) ?_
                exact ih (i + 1) (by omega) (by omega) _ _ (hP) (hD) hS _ (lv_sub hl [0, 1, 2] rfl)
              · skip
                refine lv_aload_n hx hb dX5_tick_79 rfl (lv_at hl 2 rfl) ?_
                refine lv_iload_n hx hb dX5_tick_80 rfl (lv_at hl 0 rfl) ?_
                refine mu_V (As := [.int (nI i)]) (rest := []) ⟨hx, hb, hml, hown, hts⟩ (c_X5_moveRelay l G a (upd (stepN (wan st) i st) (px i 2) 0) kp hi sl sv pd td rc pl pt rt bn i (by omega) (by rw [upd_o (Ne.symm (px_ne6 (by decide))), stepN_kp (Or.inr (Or.inl rfl))]; exact hI.2)) (cwV 1 hts gX5_tick_X5_moveRelay rfl rfl rfl (by decide +kernel) ⟨Nat.le_of_ble_eq_true rfl, Nat.le_of_ble_eq_true rfl⟩) hP hKK hD hS (va_recv hKK.1 hP (ci := 5) (q0 := 0) rfl rfl) rfl hl.1 rfl (Nat.le_of_ble_eq_true rfl) dX5_tick_81 (Nat.zero_le _) (Nat.zero_le _) rfl (fun H locs hP hD hS => ?_)
                have ev_5 : moveF i (upd (stepN (wan st) i st) (px i 2) 0) = stepN (wan st) (i + 1) st := by simp only [stepN, stepF, waitF]; simp_all
                have hP : gP G (mW G a (stepN (wan st) (i + 1) st) kp hi sl sv pd td rc pl pt rt bn) H := by rw [← ev_5]; exact hP
                have hD : va_D _ (mW G a (stepN (wan st) (i + 1) st) kp hi sl sv pd td rc pl pt rt bn) := by rw [← ev_5]; exact hD
                refine lv_iinc (v := nI (i + 1)) (lv' := [(2, .int (nI (i + 1))), (1, .int (wan st)), (0, .ref (a 0))]) hx hb dX5_tick_84 hl (k := 0) rfl (nI_1 _) (by decide) rfl (fun ls hl => ?_)
                refine lv_goto (tgt := 7) hx hb dX5_tick_87 (by decide) ?_
                exact ih (i + 1) (by omega) (by omega) _ _ (hP) (hD) hS _ (lv_sub hl [0, 1, 2] rfl)
        · skip
          have c_21 := b2i_1 c_21
          refine lv_aload_n hx hb dX5_tick_24 rfl (lv_at hl 2 rfl) ?_
          refine lv_iload_n hx hb dX5_tick_25 rfl (lv_at hl 0 rfl) ?_
          refine lv_iconst (v := 2) hx hb dX5_tick_26 (by decide) ?_
          refine ro_V (As := [.int (nI i), .int (nI 2)]) (rest := [.int 2, .int (nI i), .ref (a 0)]) ⟨hx, hb, hml, hown, hts⟩ (c_X5_part l G a (stepN (wan st) i st) kp hi sl sv pd td rc pl pt rt bn i 2 (by omega) (by omega)) (cwV 2 hts gX5_tick_X5_part rfl rfl rfl (by decide +kernel) ⟨Nat.le_of_ble_eq_true rfl, Nat.le_of_ble_eq_true rfl⟩) hP hKK (va_recv hKK.1 hP (ci := 5) (q0 := 0) rfl rfl) rfl hl.1 rfl (Nat.le_of_ble_eq_true rfl) dX5_tick_27 (Nat.zero_le _) (Nat.zero_le _) ?_
          refine lv_iconst (v := 1) hx hb dX5_tick_30 (by decide) ?_
          refine lv_iadd hx hb dX5_tick_31 ?_
          refine lv_goto (tgt := 36) hx hb dX5_tick_32 (by decide) ?_
          refine mu_V (As := [.int (nI i), .int (nI 2), .int (((stepN (wan st) i st) (px i 2)) + 1)]) (rest := []) ⟨hx, hb, hml, hown, hts⟩ (c_X5_setPart l G a (stepN (wan st) i st) kp hi sl sv pd td rc pl pt rt bn i 2 (by omega) (by omega) (((stepN (wan st) i st) (px i 2)) + 1)) (cwV 3 hts gX5_tick_X5_setPart rfl rfl rfl (by decide +kernel) ⟨Nat.le_of_ble_eq_true rfl, Nat.le_of_ble_eq_true rfl⟩) hP hKK hD hS (va_recv hKK.1 hP (ci := 5) (q0 := 0) rfl rfl) rfl hl.1 rfl (Nat.le_of_ble_eq_true rfl) dX5_tick_36 (Nat.zero_le _) (Nat.zero_le _) rfl (fun H locs hP hD hS => ?_)
          refine lv_iload_n hx hb dX5_tick_39 rfl (lv_at hl 1 rfl) ?_
          refine lv_iload_n hx hb dX5_tick_40 rfl (lv_at hl 0 rfl) ?_
          refine ro_S (As := [.int (wan st), .int (nI i)]) (rest := []) ⟨hx, hb, hml, hown, hts⟩ (c_X5_has l G (wan st) (nI i)) (va_cwS 2 hts gX5_tick_X5_has rfl rfl rfl (by decide +kernel) ⟨Nat.le_of_ble_eq_true rfl, Nat.le_of_ble_eq_true rfl⟩) (show gP G [] _ from fun k q h => by simp at h) hKK rfl hl.1 rfl (Nat.le_of_ble_eq_true rfl) dX5_tick_41 (Nat.zero_le _) (Nat.zero_le _) ?_
          refine lv_if_eq (tgt := 84) hx hb dX5_tick_44 (by decide) (fun c_44 => ?_) (fun c_44 => ?_)
          · skip
            have c_44 := b2i_0 c_44
            have ev_6 : upd (stepN (wan st) i st) (px i 2) (((stepN (wan st) i st) (px i 2)) + 1) = stepN (wan st) (i + 1) st := by simp only [stepN, stepF, waitF]; simp_all
            have hP : gP G (mW G a (stepN (wan st) (i + 1) st) kp hi sl sv pd td rc pl pt rt bn) H := by rw [← ev_6]; exact hP
            have hD : va_D _ (mW G a (stepN (wan st) (i + 1) st) kp hi sl sv pd td rc pl pt rt bn) := by rw [← ev_6]; exact hD
            refine lv_iinc (v := nI (i + 1)) (lv' := [(2, .int (nI (i + 1))), (1, .int (wan st)), (0, .ref (a 0))]) hx hb dX5_tick_84 hl (k := 0) rfl (nI_1 _) (by decide) rfl (fun ls hl => ?_)
            refine lv_goto (tgt := 7) hx hb dX5_tick_87 (by decide) ?_
            exact ih (i + 1) (by omega) (by omega) _ _ (hP) (hD) hS _ (lv_sub hl [0, 1, 2] rfl)
          · skip
            have c_44 := b2i_1 c_44
            refine lv_aload_n hx hb dX5_tick_47 rfl (lv_at hl 2 rfl) ?_
            refine lv_iload_n hx hb dX5_tick_48 rfl (lv_at hl 0 rfl) ?_
            refine lv_iconst (v := 2) hx hb dX5_tick_49 (by decide) ?_
            refine ro_V (As := [.int (nI i), .int (nI 2)]) (rest := []) ⟨hx, hb, hml, hown, hts⟩ (c_X5_part l G a (upd (stepN (wan st) i st) (px i 2) (((stepN (wan st) i st) (px i 2)) + 1)) kp hi sl sv pd td rc pl pt rt bn i 2 (by omega) (by omega)) (cwV 2 hts gX5_tick_X5_part rfl rfl rfl (by decide +kernel) ⟨Nat.le_of_ble_eq_true rfl, Nat.le_of_ble_eq_true rfl⟩) hP hKK (va_recv hKK.1 hP (ci := 5) (q0 := 0) rfl rfl) rfl hl.1 rfl (Nat.le_of_ble_eq_true rfl) dX5_tick_50 (Nat.zero_le _) (Nat.zero_le _) ?_
            refine lv_aload_n hx hb dX5_tick_53 rfl (lv_at hl 2 rfl) ?_
            refine lv_iload_n hx hb dX5_tick_54 rfl (lv_at hl 0 rfl) ?_
            refine lv_aload_n hx hb dX5_tick_55 rfl (lv_at hl 2 rfl) ?_
            refine va_get (D := gD G) (ci := 5) (v := .ref (a 1)) (C := RX5) (T := TX5) (N := 12) hx hb hts hin_X5_tick_X5 hown hKK.1 hP 0 rfl rfl 0 (by decide) (hts _ lk_X5_tick_7) (fun _ h9 => h9) rfl dX5_tick_56 ?_
            refine lv_iconst (v := 0) hx hb dX5_tick_59 (by decide) ?_
            refine va_ialdN (v := (upd (stepN (wan st) i st) (px i 2) (((stepN (wan st) i st) (px i 2)) + 1)) 0) hx hb hKK.1 hP 1 0 rfl rfl (rfl) (by omega) (by decide) (rfl) dX5_tick_60 ?_
            refine lv_iload_n hx hb dX5_tick_61 rfl (lv_at hl 0 rfl) ?_
            refine ro_S (As := [.int ((upd (stepN (wan st) i st) (px i 2) (((stepN (wan st) i st) (px i 2)) + 1)) 0), .int (nI i)]) (rest := [.int (nI i), .ref (a 0), .int ((upd (stepN (wan st) i st) (px i 2) (((stepN (wan st) i st) (px i 2)) + 1)) (px i 2))]) ⟨hx, hb, hml, hown, hts⟩ (c_X5_has l G ((upd (stepN (wan st) i st) (px i 2) (((stepN (wan st) i st) (px i 2)) + 1)) 0) (nI i)) (va_cwS 2 hts gX5_tick_X5_has rfl rfl rfl (by decide +kernel) ⟨Nat.le_of_ble_eq_true rfl, Nat.le_of_ble_eq_true rfl⟩) (show gP G [] _ from fun k q h => by simp at h) hKK rfl hl.1 rfl (Nat.le_of_ble_eq_true rfl) dX5_tick_62 (Nat.zero_le _) (Nat.zero_le _) ?_
            refine lv_if_eq (tgt := 72) hx hb dX5_tick_65 (by decide) (fun c_65 => ?_) (fun c_65 => ?_)
            · skip
              have c_65 := b2i_0 c_65
              refine lv_iconst (v := 0) hx hb dX5_tick_72 (by decide) ?_
              refine ro_V (As := [.int (nI i), .int (nI 0)]) (rest := [.int ((upd (stepN (wan st) i st) (px i 2) (((stepN (wan st) i st) (px i 2)) + 1)) (px i 2))]) ⟨hx, hb, hml, hown, hts⟩ (c_X5_part l G a (upd (stepN (wan st) i st) (px i 2) (((stepN (wan st) i st) (px i 2)) + 1)) kp hi sl sv pd td rc pl pt rt bn i 0 (by omega) (by omega)) (cwV 2 hts gX5_tick_X5_part rfl rfl rfl (by decide +kernel) ⟨Nat.le_of_ble_eq_true rfl, Nat.le_of_ble_eq_true rfl⟩) hP hKK (va_recv hKK.1 hP (ci := 5) (q0 := 0) rfl rfl) rfl hl.1 rfl (Nat.le_of_ble_eq_true rfl) dX5_tick_73 (Nat.zero_le _) (Nat.zero_le _) ?_
              refine lv_icmp_lt (tgt := 84) hx hb dX5_tick_76 (by decide) (fun c_76 => ?_) (fun c_76 => ?_)
              · skip
                have ev_7 : upd (stepN (wan st) i st) (px i 2) (((stepN (wan st) i st) (px i 2)) + 1) = stepN (wan st) (i + 1) st := by simp only [stepN, stepF, waitF]; simp_all
                have hP : gP G (mW G a (stepN (wan st) (i + 1) st) kp hi sl sv pd td rc pl pt rt bn) H := by rw [← ev_7]; exact hP
                have hD : va_D _ (mW G a (stepN (wan st) (i + 1) st) kp hi sl sv pd td rc pl pt rt bn) := by rw [← ev_7]; exact hD
                refine lv_iinc (v := nI (i + 1)) (lv' := [(2, .int (nI (i + 1))), (1, .int (wan st)), (0, .ref (a 0))]) hx hb dX5_tick_84 hl (k := 0) rfl (nI_1 _) (by decide) rfl (fun ls hl => ?_)
                refine lv_goto (tgt := 7) hx hb dX5_tick_87 (by decide) ?_
                exact ih (i + 1) (by omega) (by omega) _ _ (hP) (hD) hS _ (lv_sub hl [0, 1, 2] rfl)
              · skip
                refine lv_aload_n hx hb dX5_tick_79 rfl (lv_at hl 2 rfl) ?_
                refine lv_iload_n hx hb dX5_tick_80 rfl (lv_at hl 0 rfl) ?_
                refine mu_V (As := [.int (nI i)]) (rest := []) ⟨hx, hb, hml, hown, hts⟩ (c_X5_moveRelay l G a (upd (stepN (wan st) i st) (px i 2) (((stepN (wan st) i st) (px i 2)) + 1)) kp hi sl sv pd td rc pl pt rt bn i (by omega) (by rw [upd_o (Ne.symm (px_ne6 (by decide))), stepN_kp (Or.inr (Or.inl rfl))]; exact hI.2)) (cwV 1 hts gX5_tick_X5_moveRelay rfl rfl rfl (by decide +kernel) ⟨Nat.le_of_ble_eq_true rfl, Nat.le_of_ble_eq_true rfl⟩) hP hKK hD hS (va_recv hKK.1 hP (ci := 5) (q0 := 0) rfl rfl) rfl hl.1 rfl (Nat.le_of_ble_eq_true rfl) dX5_tick_81 (Nat.zero_le _) (Nat.zero_le _) rfl (fun H locs hP hD hS => ?_)
                have ev_8 : moveF i (upd (stepN (wan st) i st) (px i 2) (((stepN (wan st) i st) (px i 2)) + 1)) = stepN (wan st) (i + 1) st := by simp only [stepN, stepF, waitF]; simp_all
                have hP : gP G (mW G a (stepN (wan st) (i + 1) st) kp hi sl sv pd td rc pl pt rt bn) H := by rw [← ev_8]; exact hP
                have hD : va_D _ (mW G a (stepN (wan st) (i + 1) st) kp hi sl sv pd td rc pl pt rt bn) := by rw [← ev_8]; exact hD
                refine lv_iinc (v := nI (i + 1)) (lv' := [(2, .int (nI (i + 1))), (1, .int (wan st)), (0, .ref (a 0))]) hx hb dX5_tick_84 hl (k := 0) rfl (nI_1 _) (by decide) rfl (fun ls hl => ?_)
                refine lv_goto (tgt := 7) hx hb dX5_tick_87 (by decide) ?_
                exact ih (i + 1) (by omega) (by omega) _ _ (hP) (hD) hS _ (lv_sub hl [0, 1, 2] rfl)
            · skip
              have c_65 := b2i_1 c_65
              refine lv_iconst (v := 1) hx hb dX5_tick_68 (by decide) ?_
              refine lv_goto (tgt := 73) hx hb dX5_tick_69 (by decide) ?_
              refine ro_V (As := [.int (nI i), .int (nI 1)]) (rest := [.int ((upd (stepN (wan st) i st) (px i 2) (((stepN (wan st) i st) (px i 2)) + 1)) (px i 2))]) ⟨hx, hb, hml, hown, hts⟩ (c_X5_part l G a (upd (stepN (wan st) i st) (px i 2) (((stepN (wan st) i st) (px i 2)) + 1)) kp hi sl sv pd td rc pl pt rt bn i 1 (by omega) (by omega)) (cwV 2 hts gX5_tick_X5_part rfl rfl rfl (by decide +kernel) ⟨Nat.le_of_ble_eq_true rfl, Nat.le_of_ble_eq_true rfl⟩) hP hKK (va_recv hKK.1 hP (ci := 5) (q0 := 0) rfl rfl) rfl hl.1 rfl (Nat.le_of_ble_eq_true rfl) dX5_tick_73 (Nat.zero_le _) (Nat.zero_le _) ?_
              refine lv_icmp_lt (tgt := 84) hx hb dX5_tick_76 (by decide) (fun c_76 => ?_) (fun c_76 => ?_)
              · skip
                have ev_9 : upd (stepN (wan st) i st) (px i 2) (((stepN (wan st) i st) (px i 2)) + 1) = stepN (wan st) (i + 1) st := by simp only [stepN, stepF, waitF]; simp_all
                have hP : gP G (mW G a (stepN (wan st) (i + 1) st) kp hi sl sv pd td rc pl pt rt bn) H := by rw [← ev_9]; exact hP
                have hD : va_D _ (mW G a (stepN (wan st) (i + 1) st) kp hi sl sv pd td rc pl pt rt bn) := by rw [← ev_9]; exact hD
                refine lv_iinc (v := nI (i + 1)) (lv' := [(2, .int (nI (i + 1))), (1, .int (wan st)), (0, .ref (a 0))]) hx hb dX5_tick_84 hl (k := 0) rfl (nI_1 _) (by decide) rfl (fun ls hl => ?_)
                refine lv_goto (tgt := 7) hx hb dX5_tick_87 (by decide) ?_
                exact ih (i + 1) (by omega) (by omega) _ _ (hP) (hD) hS _ (lv_sub hl [0, 1, 2] rfl)
              · skip
                refine lv_aload_n hx hb dX5_tick_79 rfl (lv_at hl 2 rfl) ?_
                refine lv_iload_n hx hb dX5_tick_80 rfl (lv_at hl 0 rfl) ?_
                refine mu_V (As := [.int (nI i)]) (rest := []) ⟨hx, hb, hml, hown, hts⟩ (c_X5_moveRelay l G a (upd (stepN (wan st) i st) (px i 2) (((stepN (wan st) i st) (px i 2)) + 1)) kp hi sl sv pd td rc pl pt rt bn i (by omega) (by rw [upd_o (Ne.symm (px_ne6 (by decide))), stepN_kp (Or.inr (Or.inl rfl))]; exact hI.2)) (cwV 1 hts gX5_tick_X5_moveRelay rfl rfl rfl (by decide +kernel) ⟨Nat.le_of_ble_eq_true rfl, Nat.le_of_ble_eq_true rfl⟩) hP hKK hD hS (va_recv hKK.1 hP (ci := 5) (q0 := 0) rfl rfl) rfl hl.1 rfl (Nat.le_of_ble_eq_true rfl) dX5_tick_81 (Nat.zero_le _) (Nat.zero_le _) rfl (fun H locs hP hD hS => ?_)
                have ev_10 : moveF i (upd (stepN (wan st) i st) (px i 2) (((stepN (wan st) i st) (px i 2)) + 1)) = stepN (wan st) (i + 1) st := by simp only [stepN, stepF, waitF]; simp_all
                have hP : gP G (mW G a (stepN (wan st) (i + 1) st) kp hi sl sv pd td rc pl pt rt bn) H := by rw [← ev_10]; exact hP
                have hD : va_D _ (mW G a (stepN (wan st) (i + 1) st) kp hi sl sv pd td rc pl pt rt bn) := by rw [← ev_10]; exact hD
                refine lv_iinc (v := nI (i + 1)) (lv' := [(2, .int (nI (i + 1))), (1, .int (wan st)), (0, .ref (a 0))]) hx hb dX5_tick_84 hl (k := 0) rfl (nI_1 _) (by decide) rfl (fun ls hl => ?_)
                refine lv_goto (tgt := 7) hx hb dX5_tick_87 (by decide) ?_
                exact ih (i + 1) (by omega) (by omega) _ _ (hP) (hD) hS _ (lv_sub hl [0, 1, 2] rfl)
  exact L_7 (10 + 1) 0 (by omega) (by omega) _ _ (hP) (hD) hS _ (lv_sub hl [0, 1, 2] rfl)
set_option maxHeartbeats 4000000 in
set_option maxRecDepth 100000 in
/-- X5_settles -/
theorem c_X5_settles (l : Launch) (G : GG) (a : Nat → Nat) (st : Nat → Int32) (kp : Nat → Int32) (hi : Nat → Int32) (sl : Nat → Int32) (sv : Nat → Int32) (pd : Nat → Int32) (td : Nat → Int32) (rc : Int32) (pl : Int32) (pt : Int32) (rt : Int32) (bn : Int32) (hI : RI st) : Met l yX5_settles wsX5_settles ({ frames := 7, cells := 0, slots := 0, locals := 156 }) (pcM G [.ref (a 0)] (mW G a st kp hi sl sv pd td rc pl pt rt bn)) (qMU G (some (.int (nI (stlC 200 st)))) (mW G a st kp hi sl sv pd td rc pl pt rt bn) (mW G a (stlV 200 st) kp hi sl sv pd td rc pl pt rt bn)) 0 0 (aA (mW G a st kp hi sl sv pd td rc pl pt rt bn)) := by
  refine hd_MU (cc := cX5_settles) (maxL := 2) (ret := some .int) (by decide) rfl (Nat.le_of_ble_eq_true rfl) ?_
  intro p e s m below meth c ls hx hb hr hts hown hlocks hml hP hKK hD hS hl
  have hl : lv_has ls 2 [(0, .ref (a 0))] := hl
  refine lv_iconst (v := 0) hx hb dX5_settles_0 (by decide) ?_
  refine lv_istore_n (lv' := [(1, .int 0), (0, .ref (a 0))]) hx hb dX5_settles_1 rfl hl (by decide) rfl (fun ls hl => ?_)
  have L_2 : ∀ (n : Nat) (i : Nat), (i ≤ 200) → (200 + 1 ≤ i + n) → (∀ j, j < i → wan (tickN j st) ≠ 0) → ∀ (H : Heap) (locs : List Loc), gP G (mW G a (tickN i st) kp hi sl sv pd td rc pl pt rt bn) H → va_D (aA (mW G a st kp hi sl sv pd td rc pl pt rt bn)) (mW G a (tickN i st) kp hi sl sv pd td rc pl pt rt bn) → va_S (aA (mW G a st kp hi sl sv pd td rc pl pt rt bn)) s.heap H locs → ∀ (ls : Array Slot), lv_has ls 2 [(1, .int (nI i)), (0, .ref (a 0))] → W p l e ({ frames := 7, cells := 0, slots := 0, locals := 156 }) s m (List.toArray [.ref (a 0)]) below meth c H locs 0 0 (MQ below (qMU G (some (.int (nI (stlC 200 st)))) (mW G a st kp hi sl sv pd td rc pl pt rt bn) (mW G a (stlV 200 st) kp hi sl sv pd td rc pl pt rt bn)) (List.toArray [.ref (a 0)]) s 0 0 (aA (mW G a st kp hi sl sv pd td rc pl pt rt bn))) (F0 m 2 ls []) := by
    intro n
    induction n with
    | zero => intro i h1 h2 h3; exact absurd (h2) (by omega)
    | succ n ih =>
      intro i h1 h2 h3 H locs hP hD hS ls hl
      refine lv_iload_n hx hb dX5_settles_2 rfl (lv_at hl 0 rfl) ?_
      refine lv_sipush (v := 200) hx hb dX5_settles_3 (by decide) ?_
      refine lv_icmp_ge (tgt := 26) hx hb dX5_settles_6 (by decide) (fun c_6 => ?_) (fun c_6 => ?_)
      · skip
        have c_6 := (lt_lit (by omega) (by omega)).mp c_6
        refine lv_iload_n hx hb dX5_settles_26 rfl (lv_at hl 0 rfl) ?_
        exact ex_MUi (w2 := (mW G a (tickN i st) kp hi sl sv pd td rc pl pt rt bn)) hx hb hr hlocks hP hS dX5_settles_27 (by rw [(stl_stop h3 h1 (by first | (left; omega) | (right; assumption))).1]) (fun h => by rw [(stl_stop h3 h1 (by first | (left; omega) | (right; assumption))).2]; exact h)
      · skip
        have c_6 := fun q => c_6 ((lt_lit (by omega) (by omega)).mpr q)
        refine lv_aload_n hx hb dX5_settles_9 rfl (lv_at hl 1 rfl) ?_
        refine ro_V (As := []) (rest := []) ⟨hx, hb, hml, hown, hts⟩ (c_X5_wanting l G a (tickN i st) kp hi sl sv pd td rc pl pt rt bn (tickN_RI hI i)) (cwV 0 hts gX5_settles_X5_wanting rfl rfl rfl (by decide +kernel) ⟨Nat.le_of_ble_eq_true rfl, Nat.le_of_ble_eq_true rfl⟩) hP hKK (va_recv hKK.1 hP (ci := 5) (q0 := 0) rfl rfl) rfl hl.1 rfl (Nat.le_of_ble_eq_true rfl) dX5_settles_10 (Nat.zero_le _) (Nat.zero_le _) ?_
        refine lv_if_eq (tgt := 26) hx hb dX5_settles_13 (by decide) (fun c_13 => ?_) (fun c_13 => ?_)
        · skip
          refine lv_iload_n hx hb dX5_settles_26 rfl (lv_at hl 0 rfl) ?_
          exact ex_MUi (w2 := (mW G a (tickN i st) kp hi sl sv pd td rc pl pt rt bn)) hx hb hr hlocks hP hS dX5_settles_27 (by rw [(stl_stop h3 h1 (by first | (left; omega) | (right; assumption))).1]) (fun h => by rw [(stl_stop h3 h1 (by first | (left; omega) | (right; assumption))).2]; exact h)
        · skip
          refine lv_aload_n hx hb dX5_settles_16 rfl (lv_at hl 1 rfl) ?_
          refine mu_V (As := []) (rest := []) ⟨hx, hb, hml, hown, hts⟩ (c_X5_tick l G a (tickN i st) kp hi sl sv pd td rc pl pt rt bn (tickN_RI hI i)) (cwV 0 hts gX5_settles_X5_tick rfl rfl rfl (by decide +kernel) ⟨Nat.le_of_ble_eq_true rfl, Nat.le_of_ble_eq_true rfl⟩) hP hKK hD hS (va_recv hKK.1 hP (ci := 5) (q0 := 0) rfl rfl) rfl hl.1 rfl (Nat.le_of_ble_eq_true rfl) dX5_settles_17 (Nat.zero_le _) (Nat.zero_le _) rfl (fun H locs hP hD hS => ?_)
          refine lv_iinc (v := nI (i + 1)) (lv' := [(1, .int (nI (i + 1))), (0, .ref (a 0))]) hx hb dX5_settles_20 hl (k := 0) rfl (nI_1 _) (by decide) rfl (fun ls hl => ?_)
          refine lv_goto (tgt := 2) hx hb dX5_settles_23 (by decide) ?_
          exact ih (i + 1) (by omega) (by omega) (fun j hj => by rcases Nat.lt_succ_iff_lt_or_eq.mp hj with h | h; exact h3 j h; subst h; assumption) _ _ (hP) (hD) hS _ (lv_sub hl [0, 1] rfl)
  exact L_2 (200 + 1) 0 (by omega) (by omega) (fun j hj => by omega) _ _ (hP) (hD) hS _ (lv_sub hl [0, 1] rfl)
set_option maxRecDepth 20000 in
theorem hin_X5_passes_X5 : ∀ w ∈ u_ws RX5 TX5 12, w ∈ wsX5_passes := by decide +kernel
theorem lk_X5_passes_7 : Cond.fieldLink RX5 7 "WeldedRelaysModel" "state" "[I" ∈ wsX5_passes := by decide +kernel
set_option maxHeartbeats 4000000 in
set_option maxRecDepth 100000 in
/-- X5_passes -/
theorem c_X5_passes (l : Launch) (G : GG) (a : Nat → Nat) (st : Nat → Int32) (kp : Nat → Int32) (hi : Nat → Int32) (sl : Nat → Int32) (sv : Nat → Int32) (pd : Nat → Int32) (td : Nat → Int32) (rc : Int32) (pl : Int32) (pt : Int32) (rt : Int32) (bn : Int32) (k : Nat) (hk : k ≤ 200) (hI : RI st) : Met l yX5_passes wsX5_passes ({ frames := 7, cells := 0, slots := 0, locals := 156 }) (pcM G [.ref (a 0), .int (nI k)] (mW G a st kp hi sl sv pd td rc pl pt rt bn)) (qMU G (some (.int (tickN k st 4 - st 4))) (mW G a st kp hi sl sv pd td rc pl pt rt bn) (mW G a (tickN k st) kp hi sl sv pd td rc pl pt rt bn)) 0 0 (aA (mW G a st kp hi sl sv pd td rc pl pt rt bn)) := by
  refine hd_MU (cc := cX5_passes) (maxL := 4) (ret := some .int) (by decide) rfl (Nat.le_of_ble_eq_true rfl) ?_
  intro p e s m below meth c ls hx hb hr hts hown hlocks hml hP hKK hD hS hl
  have hl : lv_has ls 4 [(0, .ref (a 0)), (1, .int (nI k))] := hl
  refine lv_aload_n hx hb dX5_passes_0 rfl (lv_at hl 0 rfl) ?_
  refine va_get (D := gD G) (ci := 5) (v := .ref (a 1)) (C := RX5) (T := TX5) (N := 12) hx hb hts hin_X5_passes_X5 hown hKK.1 hP 0 rfl rfl 0 (by decide) (hts _ lk_X5_passes_7) (fun _ h9 => h9) rfl dX5_passes_1 ?_
  refine lv_iconst (v := 4) hx hb dX5_passes_4 (by decide) ?_
  refine va_ialdN (v := st 4) hx hb hKK.1 hP 1 0 rfl rfl (rfl) (by omega) (by decide) (rfl) dX5_passes_5 ?_
  refine lv_istore_n (lv' := [(2, .int (st 4)), (0, .ref (a 0)), (1, .int (nI k))]) hx hb dX5_passes_6 rfl hl (by decide) rfl (fun ls hl => ?_)
  refine lv_iconst (v := 0) hx hb dX5_passes_7 (by decide) ?_
  refine lv_istore_n (lv' := [(3, .int 0), (2, .int (st 4)), (0, .ref (a 0)), (1, .int (nI k))]) hx hb dX5_passes_8 rfl hl (by decide) rfl (fun ls hl => ?_)
  have L_9 : ∀ (n : Nat) (i : Nat), (i ≤ k) → (k + 1 ≤ i + n) → ∀ (H : Heap) (locs : List Loc), gP G (mW G a (tickN i st) kp hi sl sv pd td rc pl pt rt bn) H → va_D (aA (mW G a st kp hi sl sv pd td rc pl pt rt bn)) (mW G a (tickN i st) kp hi sl sv pd td rc pl pt rt bn) → va_S (aA (mW G a st kp hi sl sv pd td rc pl pt rt bn)) s.heap H locs → ∀ (ls : Array Slot), lv_has ls 4 [(3, .int (nI i)), (2, .int (st 4)), (0, .ref (a 0)), (1, .int (nI k))] → W p l e ({ frames := 7, cells := 0, slots := 0, locals := 156 }) s m (List.toArray [.ref (a 0), .int (nI k)]) below meth c H locs 0 0 (MQ below (qMU G (some (.int (tickN k st 4 - st 4))) (mW G a st kp hi sl sv pd td rc pl pt rt bn) (mW G a (tickN k st) kp hi sl sv pd td rc pl pt rt bn)) (List.toArray [.ref (a 0), .int (nI k)]) s 0 0 (aA (mW G a st kp hi sl sv pd td rc pl pt rt bn))) (F0 m 9 ls []) := by
    intro n
    induction n with
    | zero => intro i h1 h2; exact absurd (h2) (by omega)
    | succ n ih =>
      intro i h1 h2 H locs hP hD hS ls hl
      refine lv_iload_n hx hb dX5_passes_9 rfl (lv_at hl 0 rfl) ?_
      refine lv_iload_n hx hb dX5_passes_10 rfl (lv_at hl 3 rfl) ?_
      refine lv_icmp_ge (tgt := 24) hx hb dX5_passes_11 (by decide) (fun c_11 => ?_) (fun c_11 => ?_)
      · skip
        have c_11 := (lt_lit (by omega) (by omega)).mp c_11
        have hik : i = k := by omega
        subst hik
        refine lv_aload_n hx hb dX5_passes_24 rfl (lv_at hl 2 rfl) ?_
        refine va_get (D := gD G) (ci := 5) (v := .ref (a 1)) (C := RX5) (T := TX5) (N := 12) hx hb hts hin_X5_passes_X5 hown hKK.1 hP 0 rfl rfl 0 (by decide) (hts _ lk_X5_passes_7) (fun _ h9 => h9) rfl dX5_passes_25 ?_
        refine lv_iconst (v := 4) hx hb dX5_passes_28 (by decide) ?_
        refine va_ialdN (v := (tickN i st) 4) hx hb hKK.1 hP 1 0 rfl rfl (rfl) (by omega) (by decide) (rfl) dX5_passes_29 ?_
        refine lv_iload_n hx hb dX5_passes_30 rfl (lv_at hl 1 rfl) ?_
        refine lv_isub hx hb dX5_passes_31 ?_
        exact ex_MUi (w2 := (mW G a (tickN i st) kp hi sl sv pd td rc pl pt rt bn)) hx hb hr hlocks hP hS dX5_passes_32 (rfl) (fun h => h)
      · skip
        have c_11 := fun q => c_11 ((lt_lit (by omega) (by omega)).mpr q)
        refine lv_aload_n hx hb dX5_passes_14 rfl (lv_at hl 2 rfl) ?_
        refine mu_V (As := []) (rest := []) ⟨hx, hb, hml, hown, hts⟩ (c_X5_tick l G a (tickN i st) kp hi sl sv pd td rc pl pt rt bn (tickN_RI hI i)) (cwV 0 hts gX5_passes_X5_tick rfl rfl rfl (by decide +kernel) ⟨Nat.le_of_ble_eq_true rfl, Nat.le_of_ble_eq_true rfl⟩) hP hKK hD hS (va_recv hKK.1 hP (ci := 5) (q0 := 0) rfl rfl) rfl hl.1 rfl (Nat.le_of_ble_eq_true rfl) dX5_passes_15 (Nat.zero_le _) (Nat.zero_le _) rfl (fun H locs hP hD hS => ?_)
        refine lv_iinc (v := nI (i + 1)) (lv' := [(3, .int (nI (i + 1))), (2, .int (st 4)), (0, .ref (a 0)), (1, .int (nI k))]) hx hb dX5_passes_18 hl (k := 0) rfl (nI_1 _) (by decide) rfl (fun ls hl => ?_)
        refine lv_goto (tgt := 9) hx hb dX5_passes_21 (by decide) ?_
        exact ih (i + 1) (by omega) (by omega) _ _ (hP) (hD) hS _ (lv_sub hl [0, 1, 2, 3] rfl)
  exact L_9 (k + 1) 0 (by omega) (by omega) _ _ (hP) (hD) hS _ (lv_sub hl [0, 1, 2, 3] rfl)
end
