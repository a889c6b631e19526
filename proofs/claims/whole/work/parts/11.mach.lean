/-! contracts of the methods, by gen.py: X6_at, X1_digitAt, X1_readNumber, X1_readSign, X1_addDraft, X1_readCue, X1_readBehind, X2_dropOldest, X2_at, X5_copyFrom, X2_record, X2_moveLatestTo, X3_begin, X4_fill, X3_wayTo -/
theorem dX6_at_0 : decode cX6_at 0 = .ok (.iload_n 1, 1) := by decide +kernel
theorem dX6_at_1 : decode cX6_at 1 = .ok (.aload_n 0, 1) := by decide +kernel
theorem dX6_at_2 : decode cX6_at 2 = .ok (.getfield 20, 3) := by decide +kernel
theorem dX6_at_5 : decode cX6_at 5 = .ok (.invokestatic 28, 3) := by decide +kernel
theorem dX6_at_8 : decode cX6_at 8 = .ok (.ifCond .eq 14, 3) := by decide +kernel
theorem dX6_at_11 : decode cX6_at 11 = .ok (.aload_n 0, 1) := by decide +kernel
theorem dX6_at_12 : decode cX6_at 12 = .ok (.getfield 14, 3) := by decide +kernel
theorem dX6_at_15 : decode cX6_at 15 = .ok (.iload_n 1, 1) := by decide +kernel
theorem dX6_at_16 : decode cX6_at 16 = .ok (.invokevirtual 32, 3) := by decide +kernel
theorem dX6_at_19 : decode cX6_at 19 = .ok (.goto 4, 3) := by decide +kernel
theorem dX6_at_22 : decode cX6_at 22 = .ok (.iconst (-1), 1) := by decide +kernel
theorem dX6_at_23 : decode cX6_at 23 = .ok (.ireturn, 1) := by decide +kernel
set_option maxRecDepth 20000 in
theorem ggX6_at_X4_get : GoodIn wsX6_at wsX4_get := goodIn_r _ [10, 11, 14] (by decide +kernel) (by decide +kernel)
set_option maxRecDepth 20000 in
theorem gX6_at_X4_get : GoodIn wsX6_at (wsV RX6 32 RX4 yX4_get wsX4_get) := goodIn_app (goodIn_of _ (by decide +kernel)) ggX6_at_X4_get
set_option maxRecDepth 20000 in
theorem ggX6_at_X7_isBelow : GoodIn wsX6_at wsX7_isBelow := goodIn_r _ [5] (by decide +kernel) (by decide +kernel)
set_option maxRecDepth 20000 in
theorem gX6_at_X7_isBelow_n28 : GoodIn wsX6_at (wsX7_isBelow) := ggX6_at_X7_isBelow
theorem iX6_at_6 : ∀ w ∈ u_ws RX6 TX6 2, w ∈ wsX6_at := fun w h => List.mem_cons_of_mem _ (List.mem_append_left _ (List.mem_append_right _ (h)))
set_option maxHeartbeats 4000000 in
set_option maxRecDepth 100000 in
theorem c_X6_at {E : EE} {l : Launch} {g : GG} {ad : Nat → Nat} (hg : gwf g) {o0 : Nat} {x1 : Int} {M : Mm} {Q : Int → Mm → Prop} (k_o0 : gk g o0 = 6) (h : p_X6_at g o0 x1 M Q) : Ct E l yX6_at wsX6_at rmX6_at g ad [.ref (ad o0), cI x1] M (QI E g ad Q) := by
  refine ent (cc := cX6_at) (maxL := 2) (ret := (some .int)) (own := RX6) (by decide +kernel) rfl rfl (Nat.le_of_ble_eq_true rfl) ?_
  intro p e s m below meth c ls X hr hlk K w hl
  have hl : lv_has ls 2 [(0, .ref (ad o0)), (1, cI x1)] := hl
  unfold p_X6_at at h
  refine lv_iload_n X.1 X.2.1 dX6_at_0 rfl (lv_at hl 1 rfl) ?_
  refine lv_aload_n X.1 X.2.1 dX6_at_1 rfl (lv_at hl 0 rfl) ?_
  refine r_geti (N := 2) (T := TX6) (kz := 1) X K w iX6_at_6 k_o0 rfl (by decide) 1 (by decide) rfl rfl rfl (List.mem_of_getElem? (i := 1) rfl) dX6_at_2 ?_
  refine q_i (x_SN (As := [cI x1, cI (M o0 1)]) (rest := []) X K w (c_X7_isBelow hg h) ⟨va_cnB 2 X.2.2.2.2 gX6_at_X7_isBelow_n28 rfl rfl rfl (K.2.2 _ (List.mem_of_getElem? (i := 3) rfl)) (X.2.2.2.2 _ (List.mem_of_getElem? (i := 4) rfl)) (by decide +kernel) ⟨Nat.le_of_ble_eq_true rfl, Nat.le_of_ble_eq_true rfl⟩, X.2.2.2.2 _ (List.mem_of_getElem? (i := 3) rfl), trivial⟩ rfl hl rfl (Nat.le_of_ble_eq_true rfl) dX6_at_5 ⟨Nat.le_of_ble_eq_true rfl, Nat.le_of_ble_eq_true rfl⟩) w (fun r2 M1 H locs h w => ?_)
  obtain ⟨i0, h1, h2⟩ := h
  refine r_if_eq (tgt := 22) X i0 dX6_at_8 (by decide) (fun cc => ?_) (fun cc => ?_)
  · have h := h1 cc
    refine r_iconst X dX6_at_22 ?_
    exact r_ireturn X hr hlk K w h dX6_at_23
  · have h := h2 cc
    refine lv_aload_n X.1 X.2.1 dX6_at_11 rfl (lv_at hl 0 rfl) ?_
    refine r_getr (N := 2) (T := TX6) X K w iX6_at_6 k_o0 rfl (by decide) 0 (by decide) rfl rfl (List.mem_of_getElem? (i := 2) rfl) dX6_at_12 ?_
    have k3 : gk g (o0 + 1) = 4 := gch hg k_o0 (by decide) 0 (by decide) rfl rfl
    refine lv_iload_n X.1 X.2.1 dX6_at_15 rfl (lv_at hl 1 rfl) ?_
    refine q_i (x_V (As := [cI x1]) (rest := []) X K w (c_X4_get hg k3 h) (cwV 1 X.2.2.2.2 gX6_at_X4_get rfl rfl rfl (by decide +kernel) ⟨Nat.le_of_ble_eq_true rfl, Nat.le_of_ble_eq_true rfl⟩) k3 (by decide) rfl rfl hl rfl (Nat.le_of_ble_eq_true rfl) dX6_at_16 ⟨Nat.le_of_ble_eq_true rfl, Nat.le_of_ble_eq_true rfl⟩) w (fun r5 M4 H locs h w => ?_)
    refine lv_goto (tgt := 23) X.1 X.2.1 dX6_at_19 (by decide) ?_
    exact r_ireturn X hr hlk K w h dX6_at_23
theorem dX1_digitAt_0 : decode cX1_digitAt 0 = .ok (.aload_n 0, 1) := by decide +kernel
theorem dX1_digitAt_1 : decode cX1_digitAt 1 = .ok (.iload_n 1, 1) := by decide +kernel
theorem dX1_digitAt_2 : decode cX1_digitAt 2 = .ok (.invokevirtual 55, 3) := by decide +kernel
theorem dX1_digitAt_5 : decode cX1_digitAt 5 = .ok (.istore_n 2, 1) := by decide +kernel
theorem dX1_digitAt_6 : decode cX1_digitAt 6 = .ok (.iload_n 2, 1) := by decide +kernel
theorem dX1_digitAt_7 : decode cX1_digitAt 7 = .ok (.bipush 48, 2) := by decide +kernel
theorem dX1_digitAt_9 : decode cX1_digitAt 9 = .ok (.bipush 57, 2) := by decide +kernel
theorem dX1_digitAt_11 : decode cX1_digitAt 11 = .ok (.invokestatic 74, 3) := by decide +kernel
theorem dX1_digitAt_14 : decode cX1_digitAt 14 = .ok (.ifCond .eq 10, 3) := by decide +kernel
theorem dX1_digitAt_17 : decode cX1_digitAt 17 = .ok (.iload_n 2, 1) := by decide +kernel
theorem dX1_digitAt_18 : decode cX1_digitAt 18 = .ok (.bipush 48, 2) := by decide +kernel
theorem dX1_digitAt_20 : decode cX1_digitAt 20 = .ok (.isub, 1) := by decide +kernel
theorem dX1_digitAt_21 : decode cX1_digitAt 21 = .ok (.goto 5, 3) := by decide +kernel
theorem dX1_digitAt_24 : decode cX1_digitAt 24 = .ok (.bipush (-5), 2) := by decide +kernel
theorem dX1_digitAt_26 : decode cX1_digitAt 26 = .ok (.ireturn, 1) := by decide +kernel
set_option maxRecDepth 20000 in
theorem ggX1_digitAt_X6_at : GoodIn wsX1_digitAt wsX6_at := goodIn_r _ [5, 6, 7, 8, 9, 10, 11, 12, 13, 14, 15, 16, 19, 20, 21] (by decide +kernel) (by decide +kernel)
set_option maxRecDepth 20000 in
theorem gX1_digitAt_X6_at : GoodIn wsX1_digitAt (wsV RX1 55 RX6 yX6_at wsX6_at) := goodIn_app (goodIn_of _ (by decide +kernel)) ggX1_digitAt_X6_at
set_option maxRecDepth 20000 in
theorem ggX1_digitAt_X7_isWithin : GoodIn wsX1_digitAt wsX7_isWithin := goodIn_r _ [18] (by decide +kernel) (by decide +kernel)
set_option maxRecDepth 20000 in
theorem gX1_digitAt_X7_isWithin_n74 : GoodIn wsX1_digitAt (wsX7_isWithin) := ggX1_digitAt_X7_isWithin
set_option maxHeartbeats 4000000 in
set_option maxRecDepth 100000 in
theorem c_X1_digitAt {E : EE} {l : Launch} {g : GG} {ad : Nat → Nat} (hg : gwf g) {o0 : Nat} {x1 : Int} {M : Mm} {Q : Int → Mm → Prop} (k_o0 : gk g o0 = 6) (h : p_X1_digitAt g o0 x1 M Q) : Ct E l yX1_digitAt wsX1_digitAt rmX1_digitAt g ad [.ref (ad o0), cI x1] M (QI E g ad Q) := by
  refine ent (cc := cX1_digitAt) (maxL := 3) (ret := (some .int)) (own := RX1) (by decide +kernel) rfl rfl (Nat.le_of_ble_eq_true rfl) ?_
  intro p e s m below meth c ls X hr hlk K w hl
  have hl : lv_has ls 3 [(0, .ref (ad o0)), (1, cI x1)] := hl
  unfold p_X1_digitAt at h
  refine lv_aload_n X.1 X.2.1 dX1_digitAt_0 rfl (lv_at hl 0 rfl) ?_
  refine lv_iload_n X.1 X.2.1 dX1_digitAt_1 rfl (lv_at hl 1 rfl) ?_
  refine q_i (x_V (As := [cI x1]) (rest := []) X K w (c_X6_at hg k_o0 h) (cwV 1 X.2.2.2.2 gX1_digitAt_X6_at rfl rfl rfl (by decide +kernel) ⟨Nat.le_of_ble_eq_true rfl, Nat.le_of_ble_eq_true rfl⟩) k_o0 (by decide) rfl rfl hl rfl (Nat.le_of_ble_eq_true rfl) dX1_digitAt_2 ⟨Nat.le_of_ble_eq_true rfl, Nat.le_of_ble_eq_true rfl⟩) w (fun r2 M1 H locs h w => ?_)
  refine lv_istore_n (lv' := [(2, cI r2), (0, .ref (ad o0)), (1, cI x1)]) X.1 X.2.1 dX1_digitAt_5 rfl hl (by decide) rfl (fun ls hl => ?_)
  refine lv_iload_n X.1 X.2.1 dX1_digitAt_6 rfl (lv_at hl 0 rfl) ?_
  refine r_bipush X dX1_digitAt_7 (by decide +kernel) ?_
  refine r_bipush X dX1_digitAt_9 (by decide +kernel) ?_
  refine q_i (x_SN (As := [cI r2, cI 48, cI 57]) (rest := []) X K w (c_X7_isWithin hg h) ⟨va_cnB 3 X.2.2.2.2 gX1_digitAt_X7_isWithin_n74 rfl rfl rfl (K.2.2 _ (List.mem_of_getElem? (i := 4) rfl)) (X.2.2.2.2 _ (List.mem_of_getElem? (i := 9) rfl)) (by decide +kernel) ⟨Nat.le_of_ble_eq_true rfl, Nat.le_of_ble_eq_true rfl⟩, X.2.2.2.2 _ (List.mem_of_getElem? (i := 17) rfl), trivial⟩ rfl hl rfl (Nat.le_of_ble_eq_true rfl) dX1_digitAt_11 ⟨Nat.le_of_ble_eq_true rfl, Nat.le_of_ble_eq_true rfl⟩) w (fun r4 M3 H locs h w => ?_)
  obtain ⟨i0, h1, h2⟩ := h
  refine r_if_eq (tgt := 24) X i0 dX1_digitAt_14 (by decide) (fun cc => ?_) (fun cc => ?_)
  · have h := h1 cc
    refine r_bipush X dX1_digitAt_24 (by decide +kernel) ?_
    exact r_ireturn X hr hlk K w h dX1_digitAt_26
  · have h := h2 cc
    refine lv_iload_n X.1 X.2.1 dX1_digitAt_17 rfl (lv_at hl 0 rfl) ?_
    refine r_bipush X dX1_digitAt_18 (by decide +kernel) ?_
    refine r_isub X dX1_digitAt_20 ?_
    refine lv_goto (tgt := 26) X.1 X.2.1 dX1_digitAt_21 (by decide) ?_
    exact r_ireturn X hr hlk K w h dX1_digitAt_26
theorem dX1_readNumber_0 : decode cX1_readNumber 0 = .ok (.aload_n 0, 1) := by decide +kernel
theorem dX1_readNumber_1 : decode cX1_readNumber 1 = .ok (.getfield 24, 3) := by decide +kernel
theorem dX1_readNumber_4 : decode cX1_readNumber 4 = .ok (.ifCond .eq 5, 3) := by decide +kernel
theorem dX1_readNumber_7 : decode cX1_readNumber 7 = .ok (.iconst 0, 1) := by decide +kernel
theorem dX1_readNumber_8 : decode cX1_readNumber 8 = .ok (.ireturn, 1) := by decide +kernel
theorem dX1_readNumber_9 : decode cX1_readNumber 9 = .ok (.aload_n 1, 1) := by decide +kernel
theorem dX1_readNumber_10 : decode cX1_readNumber 10 = .ok (.aload_n 0, 1) := by decide +kernel
theorem dX1_readNumber_11 : decode cX1_readNumber 11 = .ok (.getfield 20, 3) := by decide +kernel
theorem dX1_readNumber_14 : decode cX1_readNumber 14 = .ok (.invokestatic 70, 3) := by decide +kernel
theorem dX1_readNumber_17 : decode cX1_readNumber 17 = .ok (.istore 4, 2) := by decide +kernel
theorem dX1_readNumber_19 : decode cX1_readNumber 19 = .ok (.iload 4, 2) := by decide +kernel
theorem dX1_readNumber_21 : decode cX1_readNumber 21 = .ok (.bipush (-5), 2) := by decide +kernel
theorem dX1_readNumber_23 : decode cX1_readNumber 23 = .ok (.if_icmp .eq 13, 3) := by decide +kernel
theorem dX1_readNumber_26 : decode cX1_readNumber 26 = .ok (.iload 4, 2) := by decide +kernel
theorem dX1_readNumber_28 : decode cX1_readNumber 28 = .ok (.iload_n 2, 1) := by decide +kernel
theorem dX1_readNumber_29 : decode cX1_readNumber 29 = .ok (.iload_n 3, 1) := by decide +kernel
theorem dX1_readNumber_30 : decode cX1_readNumber 30 = .ok (.invokestatic 74, 3) := by decide +kernel
theorem dX1_readNumber_33 : decode cX1_readNumber 33 = .ok (.ifCond .ne 10, 3) := by decide +kernel
theorem dX1_readNumber_36 : decode cX1_readNumber 36 = .ok (.aload_n 0, 1) := by decide +kernel
theorem dX1_readNumber_37 : decode cX1_readNumber 37 = .ok (.iconst 1, 1) := by decide +kernel
theorem dX1_readNumber_38 : decode cX1_readNumber 38 = .ok (.putfield 24, 3) := by decide +kernel
theorem dX1_readNumber_41 : decode cX1_readNumber 41 = .ok (.iconst 0, 1) := by decide +kernel
theorem dX1_readNumber_42 : decode cX1_readNumber 42 = .ok (.ireturn, 1) := by decide +kernel
theorem dX1_readNumber_43 : decode cX1_readNumber 43 = .ok (.aload_n 0, 1) := by decide +kernel
theorem dX1_readNumber_44 : decode cX1_readNumber 44 = .ok (.dup, 1) := by decide +kernel
theorem dX1_readNumber_45 : decode cX1_readNumber 45 = .ok (.getfield 20, 3) := by decide +kernel
theorem dX1_readNumber_48 : decode cX1_readNumber 48 = .ok (.iconst 1, 1) := by decide +kernel
theorem dX1_readNumber_49 : decode cX1_readNumber 49 = .ok (.iadd, 1) := by decide +kernel
theorem dX1_readNumber_50 : decode cX1_readNumber 50 = .ok (.putfield 20, 3) := by decide +kernel
theorem dX1_readNumber_53 : decode cX1_readNumber 53 = .ok (.iload 4, 2) := by decide +kernel
theorem dX1_readNumber_55 : decode cX1_readNumber 55 = .ok (.ifCond .le 69, 3) := by decide +kernel
theorem dX1_readNumber_58 : decode cX1_readNumber 58 = .ok (.aload_n 0, 1) := by decide +kernel
theorem dX1_readNumber_59 : decode cX1_readNumber 59 = .ok (.getfield 20, 3) := by decide +kernel
theorem dX1_readNumber_62 : decode cX1_readNumber 62 = .ok (.aload_n 1, 1) := by decide +kernel
theorem dX1_readNumber_63 : decode cX1_readNumber 63 = .ok (.getfield 39, 3) := by decide +kernel
theorem dX1_readNumber_66 : decode cX1_readNumber 66 = .ok (.if_icmp .ge 58, 3) := by decide +kernel
theorem dX1_readNumber_69 : decode cX1_readNumber 69 = .ok (.aload_n 1, 1) := by decide +kernel
theorem dX1_readNumber_70 : decode cX1_readNumber 70 = .ok (.aload_n 0, 1) := by decide +kernel
theorem dX1_readNumber_71 : decode cX1_readNumber 71 = .ok (.getfield 20, 3) := by decide +kernel
theorem dX1_readNumber_74 : decode cX1_readNumber 74 = .ok (.invokestatic 70, 3) := by decide +kernel
theorem dX1_readNumber_77 : decode cX1_readNumber 77 = .ok (.istore 5, 2) := by decide +kernel
theorem dX1_readNumber_79 : decode cX1_readNumber 79 = .ok (.iload 5, 2) := by decide +kernel
theorem dX1_readNumber_81 : decode cX1_readNumber 81 = .ok (.bipush (-5), 2) := by decide +kernel
theorem dX1_readNumber_83 : decode cX1_readNumber 83 = .ok (.if_icmp .eq 41, 3) := by decide +kernel
theorem dX1_readNumber_86 : decode cX1_readNumber 86 = .ok (.iload 4, 2) := by decide +kernel
theorem dX1_readNumber_88 : decode cX1_readNumber 88 = .ok (.bipush 10, 2) := by decide +kernel
theorem dX1_readNumber_90 : decode cX1_readNumber 90 = .ok (.imul, 1) := by decide +kernel
theorem dX1_readNumber_91 : decode cX1_readNumber 91 = .ok (.iload 5, 2) := by decide +kernel
theorem dX1_readNumber_93 : decode cX1_readNumber 93 = .ok (.iadd, 1) := by decide +kernel
theorem dX1_readNumber_94 : decode cX1_readNumber 94 = .ok (.iload_n 3, 1) := by decide +kernel
theorem dX1_readNumber_95 : decode cX1_readNumber 95 = .ok (.if_icmp .le 6, 3) := by decide +kernel
theorem dX1_readNumber_98 : decode cX1_readNumber 98 = .ok (.goto 26, 3) := by decide +kernel
theorem dX1_readNumber_101 : decode cX1_readNumber 101 = .ok (.iload 4, 2) := by decide +kernel
theorem dX1_readNumber_103 : decode cX1_readNumber 103 = .ok (.bipush 10, 2) := by decide +kernel
theorem dX1_readNumber_105 : decode cX1_readNumber 105 = .ok (.imul, 1) := by decide +kernel
theorem dX1_readNumber_106 : decode cX1_readNumber 106 = .ok (.iload 5, 2) := by decide +kernel
theorem dX1_readNumber_108 : decode cX1_readNumber 108 = .ok (.iadd, 1) := by decide +kernel
theorem dX1_readNumber_109 : decode cX1_readNumber 109 = .ok (.istore 4, 2) := by decide +kernel
theorem dX1_readNumber_111 : decode cX1_readNumber 111 = .ok (.aload_n 0, 1) := by decide +kernel
theorem dX1_readNumber_112 : decode cX1_readNumber 112 = .ok (.dup, 1) := by decide +kernel
theorem dX1_readNumber_113 : decode cX1_readNumber 113 = .ok (.getfield 20, 3) := by decide +kernel
theorem dX1_readNumber_116 : decode cX1_readNumber 116 = .ok (.iconst 1, 1) := by decide +kernel
theorem dX1_readNumber_117 : decode cX1_readNumber 117 = .ok (.iadd, 1) := by decide +kernel
theorem dX1_readNumber_118 : decode cX1_readNumber 118 = .ok (.putfield 20, 3) := by decide +kernel
theorem dX1_readNumber_121 : decode cX1_readNumber 121 = .ok (.goto (-68), 3) := by decide +kernel
theorem dX1_readNumber_124 : decode cX1_readNumber 124 = .ok (.iload 4, 2) := by decide +kernel
theorem dX1_readNumber_126 : decode cX1_readNumber 126 = .ok (.ireturn, 1) := by decide +kernel
set_option maxRecDepth 20000 in
theorem ggX1_readNumber_X1_digitAt : GoodIn wsX1_readNumber wsX1_digitAt := goodIn_r _ [6, 7, 8, 9, 10, 11, 12, 13, 14, 15, 16, 17, 18, 19, 20, 21, 22, 23, 24, 29, 30, 31] (by decide +kernel) (by decide +kernel)
set_option maxRecDepth 20000 in
theorem gX1_readNumber_X1_digitAt : GoodIn wsX1_readNumber (va_wsS RX1 70 yX1_digitAt wsX1_digitAt) := goodIn_app (goodIn_of _ (by decide +kernel)) ggX1_readNumber_X1_digitAt
set_option maxRecDepth 20000 in
theorem ggX1_readNumber_X7_isWithin : GoodIn wsX1_readNumber wsX7_isWithin := goodIn_r _ [24] (by decide +kernel) (by decide +kernel)
set_option maxRecDepth 20000 in
theorem gX1_readNumber_X7_isWithin_n74 : GoodIn wsX1_readNumber (wsX7_isWithin) := ggX1_readNumber_X7_isWithin
theorem iX1_readNumber_1 : ∀ w ∈ u_ws RX1 TX1 4, w ∈ wsX1_readNumber := fun w h => List.mem_cons_of_mem _ (List.mem_append_left _ (List.mem_append_left _ (List.mem_append_right _ (h))))
theorem iX1_readNumber_6 : ∀ w ∈ u_ws RX6 TX6 2, w ∈ wsX1_readNumber := fun w h => List.mem_cons_of_mem _ (List.mem_append_left _ (List.mem_append_right _ (h)))
set_option maxHeartbeats 4000000 in
set_option maxRecDepth 100000 in
theorem w_X1_readNumber_L53 {p : Program} {l : Launch} {e : Env} {s : State} {m : MethodId} {args : Array Value} {below : List Frame} {meth : Method} {c : Code} {E : EE} {g : GG} {ad : Nat → Nat} (hg : gwf g) (X : CallFix p m c cX1_readNumber 6 s args wsX1_readNumber RX1) (K : Kn E s) (hr : meth.sig.returnType = (some .int)) (hlk : meth.locks = false) {Q : Int → Mm → Prop} : ∀ (n : Nat) (o0 : Nat) (o1 : Nat) (x3 : Int) (x4 : Int) (M : Mm) (H : Heap) (locs : List Loc) (ls : Array Slot), gk g o0 = 1 → gk g o1 = 6 → Rw E g ad M s.heap H locs → lv_has ls 6 [(0, .ref (ad o0)), (1, .ref (ad o1)), (3, cI x3), (4, cI x4)] → p_X1_readNumber_L53 g n o0 o1 x3 x4 M Q → W p l e rmX1_readNumber s m args below meth c H locs 0 0 (MQ below (QI E g ad Q) args s 0 0 (Rg g ad)) (F0 m 53 ls []) := by
  intro n
  induction n with
  | zero =>
    intro o0 o1 x3 x4 M H locs ls k_o0 k_o1 w hl h
    exact absurd h (by unfold p_X1_readNumber_L53; exact id)
  | succ n ih =>
    intro o0 o1 x3 x4 M H locs ls k_o0 k_o1 w hl h
    unfold p_X1_readNumber_L53 at h
    refine lv_iload X.1 X.2.1 dX1_readNumber_53 (lv_at hl 3 rfl) ?_
    obtain ⟨i0, h1, h2⟩ := h
    refine r_if_le (tgt := 124) X i0 dX1_readNumber_55 (by decide) (fun cc => ?_) (fun cc => ?_)
    · have h := h1 cc
      refine lv_iload X.1 X.2.1 dX1_readNumber_124 (lv_at hl 3 rfl) ?_
      exact r_ireturn X hr hlk K w h dX1_readNumber_126
    · have h := h2 cc
      refine lv_aload_n X.1 X.2.1 dX1_readNumber_58 rfl (lv_at hl 0 rfl) ?_
      refine r_geti (N := 4) (T := TX1) (kz := 1) X K w iX1_readNumber_1 k_o0 rfl (by decide) 1 (by decide) rfl rfl rfl (List.mem_of_getElem? (i := 2) rfl) dX1_readNumber_59 ?_
      refine lv_aload_n X.1 X.2.1 dX1_readNumber_62 rfl (lv_at hl 1 rfl) ?_
      refine r_getiN (N := 2) (T := TX6) (kz := 1) X K w iX1_readNumber_6 k_o1 rfl (by decide) 1 (by decide) rfl rfl rfl (List.mem_of_getElem? (i := 26) rfl) dX1_readNumber_63 ?_
      obtain ⟨i0, i1, h1, h2⟩ := h
      refine r_icmp_ge (tgt := 124) X i0 i1 dX1_readNumber_66 (by decide) (fun cc => ?_) (fun cc => ?_)
      · have h := h1 cc
        refine lv_iload X.1 X.2.1 dX1_readNumber_124 (lv_at hl 3 rfl) ?_
        exact r_ireturn X hr hlk K w h dX1_readNumber_126
      · have h := h2 cc
        refine lv_aload_n X.1 X.2.1 dX1_readNumber_69 rfl (lv_at hl 1 rfl) ?_
        refine lv_aload_n X.1 X.2.1 dX1_readNumber_70 rfl (lv_at hl 0 rfl) ?_
        refine r_geti (N := 4) (T := TX1) (kz := 1) X K w iX1_readNumber_1 k_o0 rfl (by decide) 1 (by decide) rfl rfl rfl (List.mem_of_getElem? (i := 2) rfl) dX1_readNumber_71 ?_
        refine q_i (x_S (As := [.ref (ad o1), cI (M o0 1)]) (rest := []) X K w (c_X1_digitAt hg k_o1 h) (va_cwS 2 X.2.2.2.2 gX1_readNumber_X1_digitAt rfl rfl rfl (by decide +kernel) ⟨Nat.le_of_ble_eq_true rfl, Nat.le_of_ble_eq_true rfl⟩) rfl hl rfl (Nat.le_of_ble_eq_true rfl) dX1_readNumber_74 ⟨Nat.le_of_ble_eq_true rfl, Nat.le_of_ble_eq_true rfl⟩) w (fun r8 M7 H locs h w => ?_)
        refine lv_istore (lv' := [(5, cI r8), (0, .ref (ad o0)), (1, .ref (ad o1)), (3, cI x3), (4, cI x4)]) X.1 X.2.1 dX1_readNumber_77 hl (by decide) rfl (fun ls hl => ?_)
        refine lv_iload X.1 X.2.1 dX1_readNumber_79 (lv_at hl 0 rfl) ?_
        refine r_bipush X dX1_readNumber_81 (by decide +kernel) ?_
        obtain ⟨i0, h1, h2⟩ := h
        refine r_icmp_eq (tgt := 124) X i0 ⟨by decide, by decide⟩ dX1_readNumber_83 (by decide) (fun cc => ?_) (fun cc => ?_)
        · have h := h1 cc
          refine lv_iload X.1 X.2.1 dX1_readNumber_124 (lv_at hl 4 rfl) ?_
          exact r_ireturn X hr hlk K w h dX1_readNumber_126
        · have h := h2 cc
          refine lv_iload X.1 X.2.1 dX1_readNumber_86 (lv_at hl 4 rfl) ?_
          refine r_bipush X dX1_readNumber_88 (by decide +kernel) ?_
          refine r_imul X dX1_readNumber_90 ?_
          refine lv_iload X.1 X.2.1 dX1_readNumber_91 (lv_at hl 0 rfl) ?_
          refine r_iadd X dX1_readNumber_93 ?_
          refine lv_iload_n X.1 X.2.1 dX1_readNumber_94 rfl (lv_at hl 3 rfl) ?_
          obtain ⟨i0, i1, h1, h2⟩ := h
          refine r_icmp_le (tgt := 101) X i0 i1 dX1_readNumber_95 (by decide) (fun cc => ?_) (fun cc => ?_)
          · have h := h1 cc
            refine lv_iload X.1 X.2.1 dX1_readNumber_101 (lv_at hl 4 rfl) ?_
            refine r_bipush X dX1_readNumber_103 (by decide +kernel) ?_
            refine r_imul X dX1_readNumber_105 ?_
            refine lv_iload X.1 X.2.1 dX1_readNumber_106 (lv_at hl 0 rfl) ?_
            refine r_iadd X dX1_readNumber_108 ?_
            refine lv_istore (lv' := [(4, cI ((x4 * 10) + r8)), (5, cI r8), (0, .ref (ad o0)), (1, .ref (ad o1)), (3, cI x3)]) X.1 X.2.1 dX1_readNumber_109 hl (by decide) rfl (fun ls hl => ?_)
            refine lv_aload_n X.1 X.2.1 dX1_readNumber_111 rfl (lv_at hl 2 rfl) ?_
            refine lv_dup X.1 X.2.1 dX1_readNumber_112 rfl ?_
            refine r_geti (N := 4) (T := TX1) (kz := 1) X K w iX1_readNumber_1 k_o0 rfl (by decide) 1 (by decide) rfl rfl rfl (List.mem_of_getElem? (i := 2) rfl) dX1_readNumber_113 ?_
            refine r_iconst X dX1_readNumber_116 ?_
            refine r_iadd X dX1_readNumber_117 ?_
            refine r_puti (N := 4) (T := TX1) (kz := 1) (ty := .int) X K w iX1_readNumber_1 tyX1 tyX1_ok nmX1 k_o0 rfl (by decide) 1 (by decide) rfl rfl rfl rfl (by decide +kernel) rfl rfl (List.mem_of_getElem? (i := 2) rfl) dX1_readNumber_118 (fun M9 H locs e w => ?_)
            replace h := h M9 e
            refine lv_goto (tgt := 53) X.1 X.2.1 dX1_readNumber_121 (by decide) ?_
            exact ih o0 o1 x3 ((x4 * 10) + r8) M9 _ _ _ k_o0 k_o1 w (lv_sub hl [2, 3, 4, 0] rfl) h
          · have h := h2 cc
            refine lv_goto (tgt := 124) X.1 X.2.1 dX1_readNumber_98 (by decide) ?_
            refine lv_iload X.1 X.2.1 dX1_readNumber_124 (lv_at hl 4 rfl) ?_
            exact r_ireturn X hr hlk K w h dX1_readNumber_126
set_option maxHeartbeats 4000000 in
set_option maxRecDepth 100000 in
theorem c_X1_readNumber {E : EE} {l : Launch} {g : GG} {ad : Nat → Nat} (hg : gwf g) {o0 : Nat} {o1 : Nat} {x2 : Int} {x3 : Int} {M : Mm} {Q : Int → Mm → Prop} (k_o0 : gk g o0 = 1) (k_o1 : gk g o1 = 6) (h : p_X1_readNumber g o0 o1 x2 x3 M Q) : Ct E l yX1_readNumber wsX1_readNumber rmX1_readNumber g ad [.ref (ad o0), .ref (ad o1), cI x2, cI x3] M (QI E g ad Q) := by
  refine ent (cc := cX1_readNumber) (maxL := 6) (ret := (some .int)) (own := RX1) (by decide +kernel) rfl rfl (Nat.le_of_ble_eq_true rfl) ?_
  intro p e s m below meth c ls X hr hlk K w hl
  have hl : lv_has ls 6 [(0, .ref (ad o0)), (1, .ref (ad o1)), (2, cI x2), (3, cI x3)] := hl
  unfold p_X1_readNumber at h
  refine lv_aload_n X.1 X.2.1 dX1_readNumber_0 rfl (lv_at hl 0 rfl) ?_
  refine r_geti (N := 4) (T := TX1) (kz := 2) X K w iX1_readNumber_1 k_o0 rfl (by decide) 2 (by decide) rfl rfl rfl (List.mem_of_getElem? (i := 1) rfl) dX1_readNumber_1 ?_
  obtain ⟨i0, h1, h2⟩ := h
  refine r_if_eq (tgt := 9) X i0 dX1_readNumber_4 (by decide) (fun cc => ?_) (fun cc => ?_)
  · have h := h1 cc
    refine lv_aload_n X.1 X.2.1 dX1_readNumber_9 rfl (lv_at hl 1 rfl) ?_
    refine lv_aload_n X.1 X.2.1 dX1_readNumber_10 rfl (lv_at hl 0 rfl) ?_
    refine r_geti (N := 4) (T := TX1) (kz := 1) X K w iX1_readNumber_1 k_o0 rfl (by decide) 1 (by decide) rfl rfl rfl (List.mem_of_getElem? (i := 2) rfl) dX1_readNumber_11 ?_
    refine q_i (x_S (As := [.ref (ad o1), cI (M o0 1)]) (rest := []) X K w (c_X1_digitAt hg k_o1 h) (va_cwS 2 X.2.2.2.2 gX1_readNumber_X1_digitAt rfl rfl rfl (by decide +kernel) ⟨Nat.le_of_ble_eq_true rfl, Nat.le_of_ble_eq_true rfl⟩) rfl hl rfl (Nat.le_of_ble_eq_true rfl) dX1_readNumber_14 ⟨Nat.le_of_ble_eq_true rfl, Nat.le_of_ble_eq_true rfl⟩) w (fun r2 M1 H locs h w => ?_)
    refine lv_istore (lv' := [(4, cI r2), (0, .ref (ad o0)), (1, .ref (ad o1)), (2, cI x2), (3, cI x3)]) X.1 X.2.1 dX1_readNumber_17 hl (by decide) rfl (fun ls hl => ?_)
    refine lv_iload X.1 X.2.1 dX1_readNumber_19 (lv_at hl 0 rfl) ?_
    refine r_bipush X dX1_readNumber_21 (by decide +kernel) ?_
    obtain ⟨i0, h1, h2⟩ := h
    refine r_icmp_eq (tgt := 36) X i0 ⟨by decide, by decide⟩ dX1_readNumber_23 (by decide) (fun cc => ?_) (fun cc => ?_)
    · have h := h1 cc
      refine lv_aload_n X.1 X.2.1 dX1_readNumber_36 rfl (lv_at hl 1 rfl) ?_
      refine r_iconst X dX1_readNumber_37 ?_
      refine r_puti (N := 4) (T := TX1) (kz := 2) (ty := .boolean) X K w iX1_readNumber_1 tyX1 tyX1_ok nmX1 k_o0 rfl (by decide) 2 (by decide) rfl rfl rfl rfl (by decide +kernel) (by decide +kernel) (by decide +kernel) (List.mem_of_getElem? (i := 1) rfl) dX1_readNumber_38 (fun M3 H locs e w => ?_)
      replace h := h M3 e
      refine r_iconst X dX1_readNumber_41 ?_
      exact r_ireturn X hr hlk K w h dX1_readNumber_42
    · have h := h2 cc
      refine lv_iload X.1 X.2.1 dX1_readNumber_26 (lv_at hl 0 rfl) ?_
      refine lv_iload_n X.1 X.2.1 dX1_readNumber_28 rfl (lv_at hl 3 rfl) ?_
      refine lv_iload_n X.1 X.2.1 dX1_readNumber_29 rfl (lv_at hl 4 rfl) ?_
      refine q_i (x_SN (As := [cI r2, cI x2, cI x3]) (rest := []) X K w (c_X7_isWithin hg h) ⟨va_cnB 3 X.2.2.2.2 gX1_readNumber_X7_isWithin_n74 rfl rfl rfl (K.2.2 _ (List.mem_of_getElem? (i := 4) rfl)) (X.2.2.2.2 _ (List.mem_of_getElem? (i := 15) rfl)) (by decide +kernel) ⟨Nat.le_of_ble_eq_true rfl, Nat.le_of_ble_eq_true rfl⟩, X.2.2.2.2 _ (List.mem_of_getElem? (i := 23) rfl), trivial⟩ rfl hl rfl (Nat.le_of_ble_eq_true rfl) dX1_readNumber_30 ⟨Nat.le_of_ble_eq_true rfl, Nat.le_of_ble_eq_true rfl⟩) w (fun r5 M4 H locs h w => ?_)
      obtain ⟨i0, h1, h2⟩ := h
      refine r_if_ne (tgt := 43) X i0 dX1_readNumber_33 (by decide) (fun cc => ?_) (fun cc => ?_)
      · have h := h1 cc
        refine lv_aload_n X.1 X.2.1 dX1_readNumber_43 rfl (lv_at hl 1 rfl) ?_
        refine lv_dup X.1 X.2.1 dX1_readNumber_44 rfl ?_
        refine r_geti (N := 4) (T := TX1) (kz := 1) X K w iX1_readNumber_1 k_o0 rfl (by decide) 1 (by decide) rfl rfl rfl (List.mem_of_getElem? (i := 2) rfl) dX1_readNumber_45 ?_
        refine r_iconst X dX1_readNumber_48 ?_
        refine r_iadd X dX1_readNumber_49 ?_
        refine r_puti (N := 4) (T := TX1) (kz := 1) (ty := .int) X K w iX1_readNumber_1 tyX1 tyX1_ok nmX1 k_o0 rfl (by decide) 1 (by decide) rfl rfl rfl rfl (by decide +kernel) rfl rfl (List.mem_of_getElem? (i := 2) rfl) dX1_readNumber_50 (fun M6 H locs e w => ?_)
        replace h := h M6 e
        obtain ⟨n10, h⟩ := h
        exact w_X1_readNumber_L53 hg X K hr hlk n10 o0 o1 x3 r2 M6 _ _ _ k_o0 k_o1 w (lv_sub hl [1, 2, 4, 0] rfl) h
      · have h := h2 cc
        refine lv_aload_n X.1 X.2.1 dX1_readNumber_36 rfl (lv_at hl 1 rfl) ?_
        refine r_iconst X dX1_readNumber_37 ?_
        refine r_puti (N := 4) (T := TX1) (kz := 2) (ty := .boolean) X K w iX1_readNumber_1 tyX1 tyX1_ok nmX1 k_o0 rfl (by decide) 2 (by decide) rfl rfl rfl rfl (by decide +kernel) (by decide +kernel) (by decide +kernel) (List.mem_of_getElem? (i := 1) rfl) dX1_readNumber_38 (fun M11 H locs e w => ?_)
        replace h := h M11 e
        refine r_iconst X dX1_readNumber_41 ?_
        exact r_ireturn X hr hlk K w h dX1_readNumber_42
  · have h := h2 cc
    refine r_iconst X dX1_readNumber_7 ?_
    exact r_ireturn X hr hlk K w h dX1_readNumber_8
theorem dX1_readSign_0 : decode cX1_readSign 0 = .ok (.aload_n 0, 1) := by decide +kernel
theorem dX1_readSign_1 : decode cX1_readSign 1 = .ok (.getfield 24, 3) := by decide +kernel
theorem dX1_readSign_4 : decode cX1_readSign 4 = .ok (.ifCond .eq 4, 3) := by decide +kernel
theorem dX1_readSign_7 : decode cX1_readSign 7 = .ok (.return_, 1) := by decide +kernel
theorem dX1_readSign_8 : decode cX1_readSign 8 = .ok (.aload_n 1, 1) := by decide +kernel
theorem dX1_readSign_9 : decode cX1_readSign 9 = .ok (.aload_n 0, 1) := by decide +kernel
theorem dX1_readSign_10 : decode cX1_readSign 10 = .ok (.getfield 20, 3) := by decide +kernel
theorem dX1_readSign_13 : decode cX1_readSign 13 = .ok (.invokevirtual 55, 3) := by decide +kernel
theorem dX1_readSign_16 : decode cX1_readSign 16 = .ok (.iload_n 2, 1) := by decide +kernel
theorem dX1_readSign_17 : decode cX1_readSign 17 = .ok (.if_icmp .ne 16, 3) := by decide +kernel
theorem dX1_readSign_20 : decode cX1_readSign 20 = .ok (.aload_n 0, 1) := by decide +kernel
theorem dX1_readSign_21 : decode cX1_readSign 21 = .ok (.dup, 1) := by decide +kernel
theorem dX1_readSign_22 : decode cX1_readSign 22 = .ok (.getfield 20, 3) := by decide +kernel
theorem dX1_readSign_25 : decode cX1_readSign 25 = .ok (.iconst 1, 1) := by decide +kernel
theorem dX1_readSign_26 : decode cX1_readSign 26 = .ok (.iadd, 1) := by decide +kernel
theorem dX1_readSign_27 : decode cX1_readSign 27 = .ok (.putfield 20, 3) := by decide +kernel
theorem dX1_readSign_30 : decode cX1_readSign 30 = .ok (.goto 8, 3) := by decide +kernel
theorem dX1_readSign_33 : decode cX1_readSign 33 = .ok (.aload_n 0, 1) := by decide +kernel
theorem dX1_readSign_34 : decode cX1_readSign 34 = .ok (.iconst 1, 1) := by decide +kernel
theorem dX1_readSign_35 : decode cX1_readSign 35 = .ok (.putfield 24, 3) := by decide +kernel
theorem dX1_readSign_38 : decode cX1_readSign 38 = .ok (.return_, 1) := by decide +kernel
set_option maxRecDepth 20000 in
theorem ggX1_readSign_X6_at : GoodIn wsX1_readSign wsX6_at := goodIn_r _ [7, 8, 9, 10, 11, 12, 13, 14, 15, 16, 17, 18, 23, 24, 25] (by decide +kernel) (by decide +kernel)
set_option maxRecDepth 20000 in
theorem gX1_readSign_X6_at : GoodIn wsX1_readSign (wsV RX1 55 RX6 yX6_at wsX6_at) := goodIn_app (goodIn_of _ (by decide +kernel)) ggX1_readSign_X6_at
theorem iX1_readSign_1 : ∀ w ∈ u_ws RX1 TX1 4, w ∈ wsX1_readSign := fun w h => List.mem_cons_of_mem _ (List.mem_append_left _ (List.mem_append_left _ (List.mem_append_right _ (h))))
set_option maxHeartbeats 4000000 in
set_option maxRecDepth 100000 in
theorem c_X1_readSign {E : EE} {l : Launch} {g : GG} {ad : Nat → Nat} (hg : gwf g) {o0 : Nat} {o1 : Nat} {x2 : Int} {M : Mm} {Q : Mm → Prop} (k_o0 : gk g o0 = 1) (k_o1 : gk g o1 = 6) (h : p_X1_readSign g o0 o1 x2 M Q) : Ct E l yX1_readSign wsX1_readSign rmX1_readSign g ad [.ref (ad o0), .ref (ad o1), cI x2] M (QV E g ad Q) := by
  refine ent (cc := cX1_readSign) (maxL := 3) (ret := none) (own := RX1) (by decide +kernel) rfl rfl (Nat.le_of_ble_eq_true rfl) ?_
  intro p e s m below meth c ls X hr hlk K w hl
  have hl : lv_has ls 3 [(0, .ref (ad o0)), (1, .ref (ad o1)), (2, cI x2)] := hl
  unfold p_X1_readSign at h
  refine lv_aload_n X.1 X.2.1 dX1_readSign_0 rfl (lv_at hl 0 rfl) ?_
  refine r_geti (N := 4) (T := TX1) (kz := 2) X K w iX1_readSign_1 k_o0 rfl (by decide) 2 (by decide) rfl rfl rfl (List.mem_of_getElem? (i := 1) rfl) dX1_readSign_1 ?_
  obtain ⟨i0, h1, h2⟩ := h
  refine r_if_eq (tgt := 8) X i0 dX1_readSign_4 (by decide) (fun cc => ?_) (fun cc => ?_)
  · have h := h1 cc
    refine lv_aload_n X.1 X.2.1 dX1_readSign_8 rfl (lv_at hl 1 rfl) ?_
    refine lv_aload_n X.1 X.2.1 dX1_readSign_9 rfl (lv_at hl 0 rfl) ?_
    refine r_geti (N := 4) (T := TX1) (kz := 1) X K w iX1_readSign_1 k_o0 rfl (by decide) 1 (by decide) rfl rfl rfl (List.mem_of_getElem? (i := 2) rfl) dX1_readSign_10 ?_
    refine q_i (x_V (As := [cI (M o0 1)]) (rest := []) X K w (c_X6_at hg k_o1 h) (cwV 1 X.2.2.2.2 gX1_readSign_X6_at rfl rfl rfl (by decide +kernel) ⟨Nat.le_of_ble_eq_true rfl, Nat.le_of_ble_eq_true rfl⟩) k_o1 (by decide) rfl rfl hl rfl (Nat.le_of_ble_eq_true rfl) dX1_readSign_13 ⟨Nat.le_of_ble_eq_true rfl, Nat.le_of_ble_eq_true rfl⟩) w (fun r2 M1 H locs h w => ?_)
    refine lv_iload_n X.1 X.2.1 dX1_readSign_16 rfl (lv_at hl 2 rfl) ?_
    obtain ⟨i0, i1, h1, h2⟩ := h
    refine r_icmp_ne (tgt := 33) X i0 i1 dX1_readSign_17 (by decide) (fun cc => ?_) (fun cc => ?_)
    · have h := h1 cc
      refine lv_aload_n X.1 X.2.1 dX1_readSign_33 rfl (lv_at hl 0 rfl) ?_
      refine r_iconst X dX1_readSign_34 ?_
      refine r_puti (N := 4) (T := TX1) (kz := 2) (ty := .boolean) X K w iX1_readSign_1 tyX1 tyX1_ok nmX1 k_o0 rfl (by decide) 2 (by decide) rfl rfl rfl rfl (by decide +kernel) (by decide +kernel) (by decide +kernel) (List.mem_of_getElem? (i := 1) rfl) dX1_readSign_35 (fun M3 H locs e w => ?_)
      replace h := h M3 e
      exact r_return X hr hlk K w h dX1_readSign_38
    · have h := h2 cc
      refine lv_aload_n X.1 X.2.1 dX1_readSign_20 rfl (lv_at hl 0 rfl) ?_
      refine lv_dup X.1 X.2.1 dX1_readSign_21 rfl ?_
      refine r_geti (N := 4) (T := TX1) (kz := 1) X K w iX1_readSign_1 k_o0 rfl (by decide) 1 (by decide) rfl rfl rfl (List.mem_of_getElem? (i := 2) rfl) dX1_readSign_22 ?_
      refine r_iconst X dX1_readSign_25 ?_
      refine r_iadd X dX1_readSign_26 ?_
      refine r_puti (N := 4) (T := TX1) (kz := 1) (ty := .int) X K w iX1_readSign_1 tyX1 tyX1_ok nmX1 k_o0 rfl (by decide) 1 (by decide) rfl rfl rfl rfl (by decide +kernel) rfl rfl (List.mem_of_getElem? (i := 2) rfl) dX1_readSign_27 (fun M4 H locs e w => ?_)
      replace h := h M4 e
      refine lv_goto (tgt := 38) X.1 X.2.1 dX1_readSign_30 (by decide) ?_
      exact r_return X hr hlk K w h dX1_readSign_38
  · have h := h2 cc
    exact r_return X hr hlk K w h dX1_readSign_7
theorem dX1_addDraft_0 : decode cX1_addDraft 0 = .ok (.aload_n 0, 1) := by decide +kernel
theorem dX1_addDraft_1 : decode cX1_addDraft 1 = .ok (.getfield 14, 3) := by decide +kernel
theorem dX1_addDraft_4 : decode cX1_addDraft 4 = .ok (.iload_n 1, 1) := by decide +kernel
theorem dX1_addDraft_5 : decode cX1_addDraft 5 = .ok (.iload_n 2, 1) := by decide +kernel
theorem dX1_addDraft_6 : decode cX1_addDraft 6 = .ok (.iload_n 3, 1) := by decide +kernel
theorem dX1_addDraft_7 : decode cX1_addDraft 7 = .ok (.invokevirtual 63, 3) := by decide +kernel
theorem dX1_addDraft_10 : decode cX1_addDraft 10 = .ok (.ifCond .eq 11, 3) := by decide +kernel
theorem dX1_addDraft_13 : decode cX1_addDraft 13 = .ok (.aload_n 0, 1) := by decide +kernel
theorem dX1_addDraft_14 : decode cX1_addDraft 14 = .ok (.iconst 1, 1) := by decide +kernel
theorem dX1_addDraft_15 : decode cX1_addDraft 15 = .ok (.putfield 28, 3) := by decide +kernel
theorem dX1_addDraft_18 : decode cX1_addDraft 18 = .ok (.goto 15, 3) := by decide +kernel
theorem dX1_addDraft_21 : decode cX1_addDraft 21 = .ok (.aload_n 0, 1) := by decide +kernel
theorem dX1_addDraft_22 : decode cX1_addDraft 22 = .ok (.getfield 14, 3) := by decide +kernel
theorem dX1_addDraft_25 : decode cX1_addDraft 25 = .ok (.iload_n 1, 1) := by decide +kernel
theorem dX1_addDraft_26 : decode cX1_addDraft 26 = .ok (.iload_n 2, 1) := by decide +kernel
theorem dX1_addDraft_27 : decode cX1_addDraft 27 = .ok (.iload_n 3, 1) := by decide +kernel
theorem dX1_addDraft_28 : decode cX1_addDraft 28 = .ok (.iload 4, 2) := by decide +kernel
theorem dX1_addDraft_30 : decode cX1_addDraft 30 = .ok (.invokevirtual 67, 3) := by decide +kernel
theorem dX1_addDraft_33 : decode cX1_addDraft 33 = .ok (.return_, 1) := by decide +kernel
set_option maxRecDepth 20000 in
theorem ggX1_addDraft_X0_append : GoodIn wsX1_addDraft wsX0_append := goodIn_r _ [21, 8, 22, 9, 10, 11, 23, 24, 25, 26, 15, 27, 17, 32, 33, 34, 35, 36, 37, 38] (by decide +kernel) (by decide +kernel)
set_option maxRecDepth 20000 in
theorem gX1_addDraft_X0_append : GoodIn wsX1_addDraft (wsV RX1 67 RX0 yX0_append wsX0_append) := goodIn_app (goodIn_of _ (by decide +kernel)) ggX1_addDraft_X0_append
set_option maxRecDepth 20000 in
theorem ggX1_addDraft_X0_has : GoodIn wsX1_addDraft wsX0_has := goodIn_r _ [7, 8, 9, 10, 11, 12, 13, 14, 15, 16, 17, 32, 33, 34, 35, 36, 37, 38] (by decide +kernel) (by decide +kernel)
set_option maxRecDepth 20000 in
theorem gX1_addDraft_X0_has : GoodIn wsX1_addDraft (wsV RX1 63 RX0 yX0_has wsX0_has) := goodIn_app (goodIn_of _ (by decide +kernel)) ggX1_addDraft_X0_has
theorem iX1_addDraft_1 : ∀ w ∈ u_ws RX1 TX1 4, w ∈ wsX1_addDraft := fun w h => List.mem_cons_of_mem _ (List.mem_append_left _ (List.mem_append_left _ (List.mem_append_right _ (h))))
set_option maxHeartbeats 4000000 in
set_option maxRecDepth 100000 in
theorem c_X1_addDraft {E : EE} {l : Launch} {g : GG} {ad : Nat → Nat} (hg : gwf g) {o0 : Nat} {x1 : Int} {x2 : Int} {x3 : Int} {x4 : Int} {M : Mm} {Q : Mm → Prop} (k_o0 : gk g o0 = 1) (h : p_X1_addDraft g o0 x1 x2 x3 x4 M Q) : Ct E l yX1_addDraft wsX1_addDraft rmX1_addDraft g ad [.ref (ad o0), cI x1, cI x2, cI x3, cI x4] M (QV E g ad Q) := by
  refine ent (cc := cX1_addDraft) (maxL := 5) (ret := none) (own := RX1) (by decide +kernel) rfl rfl (Nat.le_of_ble_eq_true rfl) ?_
  intro p e s m below meth c ls X hr hlk K w hl
  have hl : lv_has ls 5 [(0, .ref (ad o0)), (1, cI x1), (2, cI x2), (3, cI x3), (4, cI x4)] := hl
  unfold p_X1_addDraft at h
  refine lv_aload_n X.1 X.2.1 dX1_addDraft_0 rfl (lv_at hl 0 rfl) ?_
  refine r_getr (N := 4) (T := TX1) X K w iX1_addDraft_1 k_o0 rfl (by decide) 0 (by decide) rfl rfl (List.mem_of_getElem? (i := 1) rfl) dX1_addDraft_1 ?_
  have k1 : gk g (o0 + 1) = 0 := gch hg k_o0 (by decide) 0 (by decide) rfl rfl
  refine lv_iload_n X.1 X.2.1 dX1_addDraft_4 rfl (lv_at hl 1 rfl) ?_
  refine lv_iload_n X.1 X.2.1 dX1_addDraft_5 rfl (lv_at hl 2 rfl) ?_
  refine lv_iload_n X.1 X.2.1 dX1_addDraft_6 rfl (lv_at hl 3 rfl) ?_
  refine q_i (x_V (As := [cI x1, cI x2, cI x3]) (rest := []) X K w (c_X0_has hg k1 h) (cwV 3 X.2.2.2.2 gX1_addDraft_X0_has rfl rfl rfl (by decide +kernel) ⟨Nat.le_of_ble_eq_true rfl, Nat.le_of_ble_eq_true rfl⟩) k1 (by decide) rfl rfl hl rfl (Nat.le_of_ble_eq_true rfl) dX1_addDraft_7 ⟨Nat.le_of_ble_eq_true rfl, Nat.le_of_ble_eq_true rfl⟩) w (fun r3 M2 H locs h w => ?_)
  obtain ⟨i0, h1, h2⟩ := h
  refine r_if_eq (tgt := 21) X i0 dX1_addDraft_10 (by decide) (fun cc => ?_) (fun cc => ?_)
  · have h := h1 cc
    refine lv_aload_n X.1 X.2.1 dX1_addDraft_21 rfl (lv_at hl 0 rfl) ?_
    refine r_getr (N := 4) (T := TX1) X K w iX1_addDraft_1 k_o0 rfl (by decide) 0 (by decide) rfl rfl (List.mem_of_getElem? (i := 1) rfl) dX1_addDraft_22 ?_
    have k4 : gk g (o0 + 1) = 0 := gch hg k_o0 (by decide) 0 (by decide) rfl rfl
    refine lv_iload_n X.1 X.2.1 dX1_addDraft_25 rfl (lv_at hl 1 rfl) ?_
    refine lv_iload_n X.1 X.2.1 dX1_addDraft_26 rfl (lv_at hl 2 rfl) ?_
    refine lv_iload_n X.1 X.2.1 dX1_addDraft_27 rfl (lv_at hl 3 rfl) ?_
    refine lv_iload X.1 X.2.1 dX1_addDraft_28 (lv_at hl 4 rfl) ?_
    refine q_v (x_V (As := [cI x1, cI x2, cI x3, cI x4]) (rest := []) X K w (c_X0_append hg k4 h) (cwV 4 X.2.2.2.2 gX1_addDraft_X0_append rfl rfl rfl (by decide +kernel) ⟨Nat.le_of_ble_eq_true rfl, Nat.le_of_ble_eq_true rfl⟩) k4 (by decide) rfl rfl hl rfl (Nat.le_of_ble_eq_true rfl) dX1_addDraft_30 ⟨Nat.le_of_ble_eq_true rfl, Nat.le_of_ble_eq_true rfl⟩) w (fun M5 H locs h w => ?_)
    exact r_return X hr hlk K w h dX1_addDraft_33
  · have h := h2 cc
    refine lv_aload_n X.1 X.2.1 dX1_addDraft_13 rfl (lv_at hl 0 rfl) ?_
    refine r_iconst X dX1_addDraft_14 ?_
    refine r_puti (N := 4) (T := TX1) (kz := 3) (ty := .boolean) X K w iX1_addDraft_1 tyX1 tyX1_ok nmX1 k_o0 rfl (by decide) 3 (by decide) rfl rfl rfl rfl (by decide +kernel) (by decide +kernel) (by decide +kernel) (List.mem_of_getElem? (i := 2) rfl) dX1_addDraft_15 (fun M6 H locs e w => ?_)
    replace h := h M6 e
    refine lv_goto (tgt := 33) X.1 X.2.1 dX1_addDraft_18 (by decide) ?_
    exact r_return X hr hlk K w h dX1_addDraft_33
theorem dX1_readCue_0 : decode cX1_readCue 0 = .ok (.aload_n 0, 1) := by decide +kernel
theorem dX1_readCue_1 : decode cX1_readCue 1 = .ok (.aload_n 1, 1) := by decide +kernel
theorem dX1_readCue_2 : decode cX1_readCue 2 = .ok (.iconst 0, 1) := by decide +kernel
theorem dX1_readCue_3 : decode cX1_readCue 3 = .ok (.iconst 5, 1) := by decide +kernel
theorem dX1_readCue_4 : decode cX1_readCue 4 = .ok (.invokevirtual 51, 3) := by decide +kernel
theorem dX1_readCue_7 : decode cX1_readCue 7 = .ok (.istore_n 2, 1) := by decide +kernel
theorem dX1_readCue_8 : decode cX1_readCue 8 = .ok (.aload_n 0, 1) := by decide +kernel
theorem dX1_readCue_9 : decode cX1_readCue 9 = .ok (.aload_n 1, 1) := by decide +kernel
theorem dX1_readCue_10 : decode cX1_readCue 10 = .ok (.bipush 64, 2) := by decide +kernel
theorem dX1_readCue_12 : decode cX1_readCue 12 = .ok (.invokevirtual 44, 3) := by decide +kernel
theorem dX1_readCue_15 : decode cX1_readCue 15 = .ok (.aload_n 0, 1) := by decide +kernel
theorem dX1_readCue_16 : decode cX1_readCue 16 = .ok (.aload_n 1, 1) := by decide +kernel
theorem dX1_readCue_17 : decode cX1_readCue 17 = .ok (.iconst 0, 1) := by decide +kernel
theorem dX1_readCue_18 : decode cX1_readCue 18 = .ok (.sipush 999, 3) := by decide +kernel
theorem dX1_readCue_21 : decode cX1_readCue 21 = .ok (.invokevirtual 51, 3) := by decide +kernel
theorem dX1_readCue_24 : decode cX1_readCue 24 = .ok (.istore_n 3, 1) := by decide +kernel
theorem dX1_readCue_25 : decode cX1_readCue 25 = .ok (.aload_n 0, 1) := by decide +kernel
theorem dX1_readCue_26 : decode cX1_readCue 26 = .ok (.aload_n 1, 1) := by decide +kernel
theorem dX1_readCue_27 : decode cX1_readCue 27 = .ok (.bipush 115, 2) := by decide +kernel
theorem dX1_readCue_29 : decode cX1_readCue 29 = .ok (.invokevirtual 44, 3) := by decide +kernel
theorem dX1_readCue_32 : decode cX1_readCue 32 = .ok (.aload_n 0, 1) := by decide +kernel
theorem dX1_readCue_33 : decode cX1_readCue 33 = .ok (.aload_n 1, 1) := by decide +kernel
theorem dX1_readCue_34 : decode cX1_readCue 34 = .ok (.iconst 0, 1) := by decide +kernel
theorem dX1_readCue_35 : decode cX1_readCue 35 = .ok (.bipush 9, 2) := by decide +kernel
theorem dX1_readCue_37 : decode cX1_readCue 37 = .ok (.invokevirtual 51, 3) := by decide +kernel
theorem dX1_readCue_40 : decode cX1_readCue 40 = .ok (.istore 4, 2) := by decide +kernel
theorem dX1_readCue_42 : decode cX1_readCue 42 = .ok (.iconst 1, 1) := by decide +kernel
theorem dX1_readCue_43 : decode cX1_readCue 43 = .ok (.istore 5, 2) := by decide +kernel
theorem dX1_readCue_45 : decode cX1_readCue 45 = .ok (.aload_n 0, 1) := by decide +kernel
theorem dX1_readCue_46 : decode cX1_readCue 46 = .ok (.getfield 24, 3) := by decide +kernel
theorem dX1_readCue_49 : decode cX1_readCue 49 = .ok (.ifCond .ne 36, 3) := by decide +kernel
theorem dX1_readCue_52 : decode cX1_readCue 52 = .ok (.aload_n 1, 1) := by decide +kernel
theorem dX1_readCue_53 : decode cX1_readCue 53 = .ok (.aload_n 0, 1) := by decide +kernel
theorem dX1_readCue_54 : decode cX1_readCue 54 = .ok (.getfield 20, 3) := by decide +kernel
theorem dX1_readCue_57 : decode cX1_readCue 57 = .ok (.invokevirtual 55, 3) := by decide +kernel
theorem dX1_readCue_60 : decode cX1_readCue 60 = .ok (.bipush 42, 2) := by decide +kernel
theorem dX1_readCue_62 : decode cX1_readCue 62 = .ok (.if_icmp .ne 23, 3) := by decide +kernel
theorem dX1_readCue_65 : decode cX1_readCue 65 = .ok (.aload_n 0, 1) := by decide +kernel
theorem dX1_readCue_66 : decode cX1_readCue 66 = .ok (.dup, 1) := by decide +kernel
theorem dX1_readCue_67 : decode cX1_readCue 67 = .ok (.getfield 20, 3) := by decide +kernel
theorem dX1_readCue_70 : decode cX1_readCue 70 = .ok (.iconst 1, 1) := by decide +kernel
theorem dX1_readCue_71 : decode cX1_readCue 71 = .ok (.iadd, 1) := by decide +kernel
theorem dX1_readCue_72 : decode cX1_readCue 72 = .ok (.putfield 20, 3) := by decide +kernel
theorem dX1_readCue_75 : decode cX1_readCue 75 = .ok (.aload_n 0, 1) := by decide +kernel
theorem dX1_readCue_76 : decode cX1_readCue 76 = .ok (.aload_n 1, 1) := by decide +kernel
theorem dX1_readCue_77 : decode cX1_readCue 77 = .ok (.iconst 1, 1) := by decide +kernel
theorem dX1_readCue_78 : decode cX1_readCue 78 = .ok (.bipush 20, 2) := by decide +kernel
theorem dX1_readCue_80 : decode cX1_readCue 80 = .ok (.invokevirtual 51, 3) := by decide +kernel
theorem dX1_readCue_83 : decode cX1_readCue 83 = .ok (.istore 5, 2) := by decide +kernel
theorem dX1_readCue_85 : decode cX1_readCue 85 = .ok (.aload_n 0, 1) := by decide +kernel
theorem dX1_readCue_86 : decode cX1_readCue 86 = .ok (.getfield 24, 3) := by decide +kernel
theorem dX1_readCue_89 : decode cX1_readCue 89 = .ok (.ifCond .ne 13, 3) := by decide +kernel
theorem dX1_readCue_92 : decode cX1_readCue 92 = .ok (.aload_n 0, 1) := by decide +kernel
theorem dX1_readCue_93 : decode cX1_readCue 93 = .ok (.iload_n 2, 1) := by decide +kernel
theorem dX1_readCue_94 : decode cX1_readCue 94 = .ok (.iload_n 3, 1) := by decide +kernel
theorem dX1_readCue_95 : decode cX1_readCue 95 = .ok (.iload 4, 2) := by decide +kernel
theorem dX1_readCue_97 : decode cX1_readCue 97 = .ok (.iload 5, 2) := by decide +kernel
theorem dX1_readCue_99 : decode cX1_readCue 99 = .ok (.invokevirtual 59, 3) := by decide +kernel
theorem dX1_readCue_102 : decode cX1_readCue 102 = .ok (.return_, 1) := by decide +kernel
set_option maxRecDepth 20000 in
theorem ggX1_readCue_X1_addDraft : GoodIn wsX1_readCue wsX1_addDraft := goodIn_r _ [36, 37, 38, 39, 40, 41, 42, 43, 44, 45, 46, 47, 48, 22, 23, 24, 25, 26, 49, 50, 51, 52, 53, 54, 55, 56, 57, 58, 59, 60, 61, 62, 66, 67, 68, 69, 70, 71, 65] (by decide +kernel) (by decide +kernel)
set_option maxRecDepth 20000 in
theorem gX1_readCue_X1_addDraft : GoodIn wsX1_readCue (wsV RX1 59 RX1 yX1_addDraft wsX1_addDraft) := goodIn_app (goodIn_of _ (by decide +kernel)) ggX1_readCue_X1_addDraft
set_option maxRecDepth 20000 in
theorem ggX1_readCue_X1_readNumber : GoodIn wsX1_readCue wsX1_readNumber := goodIn_r _ [7, 1, 2, 8, 9, 6, 10, 11, 12, 13, 14, 15, 16, 17, 18, 19, 20, 21, 22, 23, 24, 25, 26, 27, 28, 59, 60, 61, 62, 63, 64, 65] (by decide +kernel) (by decide +kernel)
set_option maxRecDepth 20000 in
theorem gX1_readCue_X1_readNumber : GoodIn wsX1_readCue (wsV RX1 51 RX1 yX1_readNumber wsX1_readNumber) := goodIn_app (goodIn_of _ (by decide +kernel)) ggX1_readCue_X1_readNumber
set_option maxRecDepth 20000 in
theorem ggX1_readCue_X1_readSign : GoodIn wsX1_readCue wsX1_readSign := goodIn_r _ [32, 1, 2, 11, 12, 13, 14, 15, 16, 17, 18, 19, 20, 21, 22, 23, 24, 25, 26, 59, 60, 61, 62, 63, 64, 65] (by decide +kernel) (by decide +kernel)
set_option maxRecDepth 20000 in
theorem gX1_readCue_X1_readSign : GoodIn wsX1_readCue (wsV RX1 44 RX1 yX1_readSign wsX1_readSign) := goodIn_app (goodIn_of _ (by decide +kernel)) ggX1_readCue_X1_readSign
set_option maxRecDepth 20000 in
theorem ggX1_readCue_X6_at : GoodIn wsX1_readCue wsX6_at := goodIn_r _ [15, 16, 17, 18, 19, 20, 21, 22, 23, 24, 25, 26, 63, 64, 65] (by decide +kernel) (by decide +kernel)
set_option maxRecDepth 20000 in
theorem gX1_readCue_X6_at : GoodIn wsX1_readCue (wsV RX1 55 RX6 yX6_at wsX6_at) := goodIn_app (goodIn_of _ (by decide +kernel)) ggX1_readCue_X6_at
theorem iX1_readCue_1 : ∀ w ∈ u_ws RX1 TX1 4, w ∈ wsX1_readCue := fun w h => List.mem_cons_of_mem _ (List.mem_append_left _ (List.mem_append_left _ (List.mem_append_left _ (List.mem_append_right _ (h)))))
set_option maxHeartbeats 4000000 in
set_option maxRecDepth 100000 in
theorem w_X1_readCue_J85 {p : Program} {l : Launch} {e : Env} {s : State} {m : MethodId} {args : Array Value} {below : List Frame} {meth : Method} {c : Code} {E : EE} {g : GG} {ad : Nat → Nat} (hg : gwf g) (X : CallFix p m c cX1_readCue 6 s args wsX1_readCue RX1) (K : Kn E s) (hr : meth.sig.returnType = none) (hlk : meth.locks = false) {Q : Mm → Prop} : ∀ (o0 : Nat) (x2 : Int) (x3 : Int) (x4 : Int) (x5 : Int) (M : Mm) (H : Heap) (locs : List Loc) (ls : Array Slot), gk g o0 = 1 → Rw E g ad M s.heap H locs → lv_has ls 6 [(0, .ref (ad o0)), (2, cI x2), (3, cI x3), (4, cI x4), (5, cI x5)] → p_X1_readCue_J85 g o0 x2 x3 x4 x5 M Q → W p l e rmX1_readCue s m args below meth c H locs 0 0 (MQ below (QV E g ad Q) args s 0 0 (Rg g ad)) (F0 m 85 ls []) := by
  intro o0 x2 x3 x4 x5 M H locs ls k_o0 w hl h
  unfold p_X1_readCue_J85 at h
  refine lv_aload_n X.1 X.2.1 dX1_readCue_85 rfl (lv_at hl 0 rfl) ?_
  refine r_geti (N := 4) (T := TX1) (kz := 2) X K w iX1_readCue_1 k_o0 rfl (by decide) 2 (by decide) rfl rfl rfl (List.mem_of_getElem? (i := 1) rfl) dX1_readCue_86 ?_
  obtain ⟨i0, h1, h2⟩ := h
  refine r_if_ne (tgt := 102) X i0 dX1_readCue_89 (by decide) (fun cc => ?_) (fun cc => ?_)
  · have h := h1 cc
    exact r_return X hr hlk K w h dX1_readCue_102
  · have h := h2 cc
    refine lv_aload_n X.1 X.2.1 dX1_readCue_92 rfl (lv_at hl 0 rfl) ?_
    refine lv_iload_n X.1 X.2.1 dX1_readCue_93 rfl (lv_at hl 1 rfl) ?_
    refine lv_iload_n X.1 X.2.1 dX1_readCue_94 rfl (lv_at hl 2 rfl) ?_
    refine lv_iload X.1 X.2.1 dX1_readCue_95 (lv_at hl 3 rfl) ?_
    refine lv_iload X.1 X.2.1 dX1_readCue_97 (lv_at hl 4 rfl) ?_
    refine q_v (x_V (As := [cI x2, cI x3, cI x4, cI x5]) (rest := []) X K w (c_X1_addDraft hg k_o0 h) (cwV 4 X.2.2.2.2 gX1_readCue_X1_addDraft rfl rfl rfl (by decide +kernel) ⟨Nat.le_of_ble_eq_true rfl, Nat.le_of_ble_eq_true rfl⟩) k_o0 (by decide) rfl rfl hl rfl (Nat.le_of_ble_eq_true rfl) dX1_readCue_99 ⟨Nat.le_of_ble_eq_true rfl, Nat.le_of_ble_eq_true rfl⟩) w (fun M9 H locs h w => ?_)
    exact r_return X hr hlk K w h dX1_readCue_102
set_option maxHeartbeats 4000000 in
set_option maxRecDepth 100000 in
theorem c_X1_readCue {E : EE} {l : Launch} {g : GG} {ad : Nat → Nat} (hg : gwf g) {o0 : Nat} {o1 : Nat} {M : Mm} {Q : Mm → Prop} (k_o0 : gk g o0 = 1) (k_o1 : gk g o1 = 6) (h : p_X1_readCue g o0 o1 M Q) : Ct E l yX1_readCue wsX1_readCue rmX1_readCue g ad [.ref (ad o0), .ref (ad o1)] M (QV E g ad Q) := by
  refine ent (cc := cX1_readCue) (maxL := 6) (ret := none) (own := RX1) (by decide +kernel) rfl rfl (Nat.le_of_ble_eq_true rfl) ?_
  intro p e s m below meth c ls X hr hlk K w hl
  have hl : lv_has ls 6 [(0, .ref (ad o0)), (1, .ref (ad o1))] := hl
  unfold p_X1_readCue at h
  refine lv_aload_n X.1 X.2.1 dX1_readCue_0 rfl (lv_at hl 0 rfl) ?_
  refine lv_aload_n X.1 X.2.1 dX1_readCue_1 rfl (lv_at hl 1 rfl) ?_
  refine r_iconst X dX1_readCue_2 ?_
  refine r_iconst X dX1_readCue_3 ?_
  refine q_i (x_V (As := [.ref (ad o1), cI 0, cI 5]) (rest := []) X K w (c_X1_readNumber hg k_o0 k_o1 h) (cwV 3 X.2.2.2.2 gX1_readCue_X1_readNumber rfl rfl rfl (by decide +kernel) ⟨Nat.le_of_ble_eq_true rfl, Nat.le_of_ble_eq_true rfl⟩) k_o0 (by decide) rfl rfl hl rfl (Nat.le_of_ble_eq_true rfl) dX1_readCue_4 ⟨Nat.le_of_ble_eq_true rfl, Nat.le_of_ble_eq_true rfl⟩) w (fun r2 M1 H locs h w => ?_)
  refine lv_istore_n (lv' := [(2, cI r2), (0, .ref (ad o0)), (1, .ref (ad o1))]) X.1 X.2.1 dX1_readCue_7 rfl hl (by decide) rfl (fun ls hl => ?_)
  refine lv_aload_n X.1 X.2.1 dX1_readCue_8 rfl (lv_at hl 1 rfl) ?_
  refine lv_aload_n X.1 X.2.1 dX1_readCue_9 rfl (lv_at hl 2 rfl) ?_
  refine r_bipush X dX1_readCue_10 (by decide +kernel) ?_
  refine q_v (x_V (As := [.ref (ad o1), cI 64]) (rest := []) X K w (c_X1_readSign hg k_o0 k_o1 h) (cwV 2 X.2.2.2.2 gX1_readCue_X1_readSign rfl rfl rfl (by decide +kernel) ⟨Nat.le_of_ble_eq_true rfl, Nat.le_of_ble_eq_true rfl⟩) k_o0 (by decide) rfl rfl hl rfl (Nat.le_of_ble_eq_true rfl) dX1_readCue_12 ⟨Nat.le_of_ble_eq_true rfl, Nat.le_of_ble_eq_true rfl⟩) w (fun M3 H locs h w => ?_)
  refine lv_aload_n X.1 X.2.1 dX1_readCue_15 rfl (lv_at hl 1 rfl) ?_
  refine lv_aload_n X.1 X.2.1 dX1_readCue_16 rfl (lv_at hl 2 rfl) ?_
  refine r_iconst X dX1_readCue_17 ?_
  refine r_sipush X dX1_readCue_18 (by decide +kernel) ?_
  refine q_i (x_V (As := [.ref (ad o1), cI 0, cI 999]) (rest := []) X K w (c_X1_readNumber hg k_o0 k_o1 h) (cwV 3 X.2.2.2.2 gX1_readCue_X1_readNumber rfl rfl rfl (by decide +kernel) ⟨Nat.le_of_ble_eq_true rfl, Nat.le_of_ble_eq_true rfl⟩) k_o0 (by decide) rfl rfl hl rfl (Nat.le_of_ble_eq_true rfl) dX1_readCue_21 ⟨Nat.le_of_ble_eq_true rfl, Nat.le_of_ble_eq_true rfl⟩) w (fun r5 M4 H locs h w => ?_)
  refine lv_istore_n (lv' := [(3, cI r5), (2, cI r2), (0, .ref (ad o0)), (1, .ref (ad o1))]) X.1 X.2.1 dX1_readCue_24 rfl hl (by decide) rfl (fun ls hl => ?_)
  refine lv_aload_n X.1 X.2.1 dX1_readCue_25 rfl (lv_at hl 2 rfl) ?_
  refine lv_aload_n X.1 X.2.1 dX1_readCue_26 rfl (lv_at hl 3 rfl) ?_
  refine r_bipush X dX1_readCue_27 (by decide +kernel) ?_
  refine q_v (x_V (As := [.ref (ad o1), cI 115]) (rest := []) X K w (c_X1_readSign hg k_o0 k_o1 h) (cwV 2 X.2.2.2.2 gX1_readCue_X1_readSign rfl rfl rfl (by decide +kernel) ⟨Nat.le_of_ble_eq_true rfl, Nat.le_of_ble_eq_true rfl⟩) k_o0 (by decide) rfl rfl hl rfl (Nat.le_of_ble_eq_true rfl) dX1_readCue_29 ⟨Nat.le_of_ble_eq_true rfl, Nat.le_of_ble_eq_true rfl⟩) w (fun M6 H locs h w => ?_)
  refine lv_aload_n X.1 X.2.1 dX1_readCue_32 rfl (lv_at hl 2 rfl) ?_
  refine lv_aload_n X.1 X.2.1 dX1_readCue_33 rfl (lv_at hl 3 rfl) ?_
  refine r_iconst X dX1_readCue_34 ?_
  refine r_bipush X dX1_readCue_35 (by decide +kernel) ?_
  refine q_i (x_V (As := [.ref (ad o1), cI 0, cI 9]) (rest := []) X K w (c_X1_readNumber hg k_o0 k_o1 h) (cwV 3 X.2.2.2.2 gX1_readCue_X1_readNumber rfl rfl rfl (by decide +kernel) ⟨Nat.le_of_ble_eq_true rfl, Nat.le_of_ble_eq_true rfl⟩) k_o0 (by decide) rfl rfl hl rfl (Nat.le_of_ble_eq_true rfl) dX1_readCue_37 ⟨Nat.le_of_ble_eq_true rfl, Nat.le_of_ble_eq_true rfl⟩) w (fun r8 M7 H locs h w => ?_)
  refine lv_istore (lv' := [(4, cI r8), (3, cI r5), (2, cI r2), (0, .ref (ad o0)), (1, .ref (ad o1))]) X.1 X.2.1 dX1_readCue_40 hl (by decide) rfl (fun ls hl => ?_)
  refine r_iconst X dX1_readCue_42 ?_
  refine lv_istore (lv' := [(5, cI 1), (4, cI r8), (3, cI r5), (2, cI r2), (0, .ref (ad o0)), (1, .ref (ad o1))]) X.1 X.2.1 dX1_readCue_43 hl (by decide) rfl (fun ls hl => ?_)
  refine lv_aload_n X.1 X.2.1 dX1_readCue_45 rfl (lv_at hl 4 rfl) ?_
  refine r_geti (N := 4) (T := TX1) (kz := 2) X K w iX1_readCue_1 k_o0 rfl (by decide) 2 (by decide) rfl rfl rfl (List.mem_of_getElem? (i := 1) rfl) dX1_readCue_46 ?_
  obtain ⟨i0, h1, h2⟩ := h
  refine r_if_ne (tgt := 85) X i0 dX1_readCue_49 (by decide) (fun cc => ?_) (fun cc => ?_)
  · have h := h1 cc
    exact w_X1_readCue_J85 hg X K hr hlk o0 r2 r5 r8 1 M7 _ _ _ k_o0 w (lv_sub hl [4, 3, 2, 1, 0] rfl) h
  · have h := h2 cc
    refine lv_aload_n X.1 X.2.1 dX1_readCue_52 rfl (lv_at hl 5 rfl) ?_
    refine lv_aload_n X.1 X.2.1 dX1_readCue_53 rfl (lv_at hl 4 rfl) ?_
    refine r_geti (N := 4) (T := TX1) (kz := 1) X K w iX1_readCue_1 k_o0 rfl (by decide) 1 (by decide) rfl rfl rfl (List.mem_of_getElem? (i := 2) rfl) dX1_readCue_54 ?_
    refine q_i (x_V (As := [cI (M7 o0 1)]) (rest := []) X K w (c_X6_at hg k_o1 h) (cwV 1 X.2.2.2.2 gX1_readCue_X6_at rfl rfl rfl (by decide +kernel) ⟨Nat.le_of_ble_eq_true rfl, Nat.le_of_ble_eq_true rfl⟩) k_o1 (by decide) rfl rfl hl rfl (Nat.le_of_ble_eq_true rfl) dX1_readCue_57 ⟨Nat.le_of_ble_eq_true rfl, Nat.le_of_ble_eq_true rfl⟩) w (fun r11 M10 H locs h w => ?_)
    refine r_bipush X dX1_readCue_60 (by decide +kernel) ?_
    obtain ⟨i0, h1, h2⟩ := h
    refine r_icmp_ne (tgt := 85) X i0 ⟨by decide, by decide⟩ dX1_readCue_62 (by decide) (fun cc => ?_) (fun cc => ?_)
    · have h := h1 cc
      exact w_X1_readCue_J85 hg X K hr hlk o0 r2 r5 r8 1 M10 _ _ _ k_o0 w (lv_sub hl [4, 3, 2, 1, 0] rfl) h
    · have h := h2 cc
      refine lv_aload_n X.1 X.2.1 dX1_readCue_65 rfl (lv_at hl 4 rfl) ?_
      refine lv_dup X.1 X.2.1 dX1_readCue_66 rfl ?_
      refine r_geti (N := 4) (T := TX1) (kz := 1) X K w iX1_readCue_1 k_o0 rfl (by decide) 1 (by decide) rfl rfl rfl (List.mem_of_getElem? (i := 2) rfl) dX1_readCue_67 ?_
      refine r_iconst X dX1_readCue_70 ?_
      refine r_iadd X dX1_readCue_71 ?_
      refine r_puti (N := 4) (T := TX1) (kz := 1) (ty := .int) X K w iX1_readCue_1 tyX1 tyX1_ok nmX1 k_o0 rfl (by decide) 1 (by decide) rfl rfl rfl rfl (by decide +kernel) rfl rfl (List.mem_of_getElem? (i := 2) rfl) dX1_readCue_72 (fun M12 H locs e w => ?_)
      replace h := h M12 e
      refine lv_aload_n X.1 X.2.1 dX1_readCue_75 rfl (lv_at hl 4 rfl) ?_
      refine lv_aload_n X.1 X.2.1 dX1_readCue_76 rfl (lv_at hl 5 rfl) ?_
      refine r_iconst X dX1_readCue_77 ?_
      refine r_bipush X dX1_readCue_78 (by decide +kernel) ?_
      refine q_i (x_V (As := [.ref (ad o1), cI 1, cI 20]) (rest := []) X K w (c_X1_readNumber hg k_o0 k_o1 h) (cwV 3 X.2.2.2.2 gX1_readCue_X1_readNumber rfl rfl rfl (by decide +kernel) ⟨Nat.le_of_ble_eq_true rfl, Nat.le_of_ble_eq_true rfl⟩) k_o0 (by decide) rfl rfl hl rfl (Nat.le_of_ble_eq_true rfl) dX1_readCue_80 ⟨Nat.le_of_ble_eq_true rfl, Nat.le_of_ble_eq_true rfl⟩) w (fun r14 M13 H locs h w => ?_)
      refine lv_istore (lv' := [(5, cI r14), (4, cI r8), (3, cI r5), (2, cI r2), (0, .ref (ad o0)), (1, .ref (ad o1))]) X.1 X.2.1 dX1_readCue_83 hl (by decide) rfl (fun ls hl => ?_)
      exact w_X1_readCue_J85 hg X K hr hlk o0 r2 r5 r8 r14 M13 _ _ _ k_o0 w (lv_sub hl [4, 3, 2, 1, 0] rfl) h
theorem dX1_readBehind_0 : decode cX1_readBehind 0 = .ok (.aload_n 0, 1) := by decide +kernel
theorem dX1_readBehind_1 : decode cX1_readBehind 1 = .ok (.getfield 14, 3) := by decide +kernel
theorem dX1_readBehind_4 : decode cX1_readBehind 4 = .ok (.aload_n 1, 1) := by decide +kernel
theorem dX1_readBehind_5 : decode cX1_readBehind 5 = .ok (.invokevirtual 31, 3) := by decide +kernel
theorem dX1_readBehind_8 : decode cX1_readBehind 8 = .ok (.aload_n 0, 1) := by decide +kernel
theorem dX1_readBehind_9 : decode cX1_readBehind 9 = .ok (.iconst 0, 1) := by decide +kernel
theorem dX1_readBehind_10 : decode cX1_readBehind 10 = .ok (.putfield 20, 3) := by decide +kernel
theorem dX1_readBehind_13 : decode cX1_readBehind 13 = .ok (.aload_n 0, 1) := by decide +kernel
theorem dX1_readBehind_14 : decode cX1_readBehind 14 = .ok (.iconst 0, 1) := by decide +kernel
theorem dX1_readBehind_15 : decode cX1_readBehind 15 = .ok (.putfield 24, 3) := by decide +kernel
theorem dX1_readBehind_18 : decode cX1_readBehind 18 = .ok (.aload_n 0, 1) := by decide +kernel
theorem dX1_readBehind_19 : decode cX1_readBehind 19 = .ok (.iconst 0, 1) := by decide +kernel
theorem dX1_readBehind_20 : decode cX1_readBehind 20 = .ok (.putfield 28, 3) := by decide +kernel
theorem dX1_readBehind_23 : decode cX1_readBehind 23 = .ok (.aload_n 0, 1) := by decide +kernel
theorem dX1_readBehind_24 : decode cX1_readBehind 24 = .ok (.aload_n 2, 1) := by decide +kernel
theorem dX1_readBehind_25 : decode cX1_readBehind 25 = .ok (.invokevirtual 35, 3) := by decide +kernel
theorem dX1_readBehind_28 : decode cX1_readBehind 28 = .ok (.iconst 1, 1) := by decide +kernel
theorem dX1_readBehind_29 : decode cX1_readBehind 29 = .ok (.istore_n 3, 1) := by decide +kernel
theorem dX1_readBehind_30 : decode cX1_readBehind 30 = .ok (.iload_n 3, 1) := by decide +kernel
theorem dX1_readBehind_31 : decode cX1_readBehind 31 = .ok (.bipush 60, 2) := by decide +kernel
theorem dX1_readBehind_33 : decode cX1_readBehind 33 = .ok (.if_icmp .ge 39, 3) := by decide +kernel
theorem dX1_readBehind_36 : decode cX1_readBehind 36 = .ok (.aload_n 0, 1) := by decide +kernel
theorem dX1_readBehind_37 : decode cX1_readBehind 37 = .ok (.getfield 24, 3) := by decide +kernel
theorem dX1_readBehind_40 : decode cX1_readBehind 40 = .ok (.ifCond .ne 32, 3) := by decide +kernel
theorem dX1_readBehind_43 : decode cX1_readBehind 43 = .ok (.aload_n 0, 1) := by decide +kernel
theorem dX1_readBehind_44 : decode cX1_readBehind 44 = .ok (.getfield 20, 3) := by decide +kernel
theorem dX1_readBehind_47 : decode cX1_readBehind 47 = .ok (.aload_n 2, 1) := by decide +kernel
theorem dX1_readBehind_48 : decode cX1_readBehind 48 = .ok (.getfield 39, 3) := by decide +kernel
theorem dX1_readBehind_51 : decode cX1_readBehind 51 = .ok (.if_icmp .ge 21, 3) := by decide +kernel
theorem dX1_readBehind_54 : decode cX1_readBehind 54 = .ok (.aload_n 0, 1) := by decide +kernel
theorem dX1_readBehind_55 : decode cX1_readBehind 55 = .ok (.aload_n 2, 1) := by decide +kernel
theorem dX1_readBehind_56 : decode cX1_readBehind 56 = .ok (.bipush 44, 2) := by decide +kernel
theorem dX1_readBehind_58 : decode cX1_readBehind 58 = .ok (.invokevirtual 44, 3) := by decide +kernel
theorem dX1_readBehind_61 : decode cX1_readBehind 61 = .ok (.aload_n 0, 1) := by decide +kernel
theorem dX1_readBehind_62 : decode cX1_readBehind 62 = .ok (.aload_n 2, 1) := by decide +kernel
theorem dX1_readBehind_63 : decode cX1_readBehind 63 = .ok (.invokevirtual 35, 3) := by decide +kernel
theorem dX1_readBehind_66 : decode cX1_readBehind 66 = .ok (.iinc 3 1, 3) := by decide +kernel
theorem dX1_readBehind_69 : decode cX1_readBehind 69 = .ok (.goto (-39), 3) := by decide +kernel
theorem dX1_readBehind_72 : decode cX1_readBehind 72 = .ok (.aload_n 0, 1) := by decide +kernel
theorem dX1_readBehind_73 : decode cX1_readBehind 73 = .ok (.getfield 14, 3) := by decide +kernel
theorem dX1_readBehind_76 : decode cX1_readBehind 76 = .ok (.invokevirtual 48, 3) := by decide +kernel
theorem dX1_readBehind_79 : decode cX1_readBehind 79 = .ok (.return_, 1) := by decide +kernel
set_option maxRecDepth 20000 in
theorem ggX1_readBehind_X0_copyFrom : GoodIn wsX1_readBehind wsX0_copyFrom := goodIn_r _ [9, 10, 11, 12, 13, 14, 15, 16, 17, 18, 19, 20, 21, 22, 23, 24, 25, 26, 27, 28, 29, 30, 108, 109, 110, 111, 112, 113, 114] (by decide +kernel) (by decide +kernel)
set_option maxRecDepth 20000 in
theorem gX1_readBehind_X0_copyFrom : GoodIn wsX1_readBehind (wsV RX1 31 RX0 yX0_copyFrom wsX0_copyFrom) := goodIn_app (goodIn_of _ (by decide +kernel)) ggX1_readBehind_X0_copyFrom
set_option maxRecDepth 20000 in
theorem ggX1_readBehind_X0_putInOrder : GoodIn wsX1_readBehind wsX0_putInOrder := goodIn_r _ [83, 14, 84, 85, 86, 8, 87, 88, 89, 90, 91, 10, 11, 12, 71, 54, 55, 23, 56, 25, 92, 93, 94, 95, 13, 96, 97, 98, 99, 100, 101, 77, 78, 79, 108, 109, 110, 111, 112, 113, 114] (by decide +kernel) (by decide +kernel)
set_option maxRecDepth 20000 in
theorem gX1_readBehind_X0_putInOrder : GoodIn wsX1_readBehind (wsV RX1 48 RX0 yX0_putInOrder wsX0_putInOrder) := goodIn_app (goodIn_of _ (by decide +kernel)) ggX1_readBehind_X0_putInOrder
set_option maxRecDepth 20000 in
theorem ggX1_readBehind_X1_readCue : GoodIn wsX1_readBehind wsX1_readCue := goodIn_r _ [35, 3, 2, 36, 37, 38, 34, 39, 40, 41, 42, 43, 44, 45, 46, 47, 48, 49, 50, 51, 52, 53, 54, 55, 23, 56, 25, 57, 58, 59, 60, 61, 62, 63, 64, 65, 66, 1, 4, 67, 68, 69, 8, 70, 14, 11, 10, 12, 71, 72, 73, 74, 75, 15, 13, 76, 77, 78, 79, 102, 103, 104, 105, 106, 107, 114, 108, 109, 110, 111, 112, 113] (by decide +kernel) (by decide +kernel)
set_option maxRecDepth 20000 in
theorem gX1_readBehind_X1_readCue : GoodIn wsX1_readBehind (wsV RX1 35 RX1 yX1_readCue wsX1_readCue) := goodIn_app (goodIn_of _ (by decide +kernel)) ggX1_readBehind_X1_readCue
set_option maxRecDepth 20000 in
theorem ggX1_readBehind_X1_readSign : GoodIn wsX1_readBehind wsX1_readSign := goodIn_r _ [62, 3, 2, 43, 44, 45, 46, 47, 48, 49, 50, 51, 52, 53, 54, 55, 23, 56, 25, 102, 103, 104, 105, 106, 107, 114] (by decide +kernel) (by decide +kernel)
set_option maxRecDepth 20000 in
theorem gX1_readBehind_X1_readSign : GoodIn wsX1_readBehind (wsV RX1 44 RX1 yX1_readSign wsX1_readSign) := goodIn_app (goodIn_of _ (by decide +kernel)) ggX1_readBehind_X1_readSign
theorem iX1_readBehind_1 : ∀ w ∈ u_ws RX1 TX1 4, w ∈ wsX1_readBehind := fun w h => List.mem_cons_of_mem _ (List.mem_append_left _ (List.mem_append_left _ (List.mem_append_left _ (List.mem_append_right _ (h)))))
theorem iX1_readBehind_6 : ∀ w ∈ u_ws RX6 TX6 2, w ∈ wsX1_readBehind := fun w h => List.mem_cons_of_mem _ (List.mem_append_left _ (List.mem_append_left _ (List.mem_append_right _ (h))))
set_option maxHeartbeats 4000000 in
set_option maxRecDepth 100000 in
theorem w_X1_readBehind_J72 {p : Program} {l : Launch} {e : Env} {s : State} {m : MethodId} {args : Array Value} {below : List Frame} {meth : Method} {c : Code} {E : EE} {g : GG} {ad : Nat → Nat} (hg : gwf g) (X : CallFix p m c cX1_readBehind 4 s args wsX1_readBehind RX1) (K : Kn E s) (hr : meth.sig.returnType = none) (hlk : meth.locks = false) {Q : Mm → Prop} : ∀ (o0 : Nat) (M : Mm) (H : Heap) (locs : List Loc) (ls : Array Slot), gk g o0 = 1 → Rw E g ad M s.heap H locs → lv_has ls 4 [(0, .ref (ad o0))] → p_X1_readBehind_J72 g o0 M Q → W p l e rmX1_readBehind s m args below meth c H locs 0 0 (MQ below (QV E g ad Q) args s 0 0 (Rg g ad)) (F0 m 72 ls []) := by
  intro o0 M H locs ls k_o0 w hl h
  unfold p_X1_readBehind_J72 at h
  refine lv_aload_n X.1 X.2.1 dX1_readBehind_72 rfl (lv_at hl 0 rfl) ?_
  refine r_getr (N := 4) (T := TX1) X K w iX1_readBehind_1 k_o0 rfl (by decide) 0 (by decide) rfl rfl (List.mem_of_getElem? (i := 1) rfl) dX1_readBehind_73 ?_
  have k7 : gk g (o0 + 1) = 0 := gch hg k_o0 (by decide) 0 (by decide) rfl rfl
  refine q_v (x_V (As := []) (rest := []) X K w (c_X0_putInOrder hg k7 h) (cwV 0 X.2.2.2.2 gX1_readBehind_X0_putInOrder rfl rfl rfl (by decide +kernel) ⟨Nat.le_of_ble_eq_true rfl, Nat.le_of_ble_eq_true rfl⟩) k7 (by decide) rfl rfl hl rfl (Nat.le_of_ble_eq_true rfl) dX1_readBehind_76 ⟨Nat.le_of_ble_eq_true rfl, Nat.le_of_ble_eq_true rfl⟩) w (fun M8 H locs h w => ?_)
  exact r_return X hr hlk K w h dX1_readBehind_79
set_option maxHeartbeats 4000000 in
set_option maxRecDepth 100000 in
theorem w_X1_readBehind_L30 {p : Program} {l : Launch} {e : Env} {s : State} {m : MethodId} {args : Array Value} {below : List Frame} {meth : Method} {c : Code} {E : EE} {g : GG} {ad : Nat → Nat} (hg : gwf g) (X : CallFix p m c cX1_readBehind 4 s args wsX1_readBehind RX1) (K : Kn E s) (hr : meth.sig.returnType = none) (hlk : meth.locks = false) {Q : Mm → Prop} : ∀ (n : Nat) (o0 : Nat) (o2 : Nat) (x3 : Int) (M : Mm) (H : Heap) (locs : List Loc) (ls : Array Slot), gk g o0 = 1 → gk g o2 = 6 → Rw E g ad M s.heap H locs → lv_has ls 4 [(0, .ref (ad o0)), (2, .ref (ad o2)), (3, cI x3)] → p_X1_readBehind_L30 g n o0 o2 x3 M Q → W p l e rmX1_readBehind s m args below meth c H locs 0 0 (MQ below (QV E g ad Q) args s 0 0 (Rg g ad)) (F0 m 30 ls []) := by
  intro n
  induction n with
  | zero =>
    intro o0 o2 x3 M H locs ls k_o0 k_o2 w hl h
    exact absurd h (by unfold p_X1_readBehind_L30; exact id)
  | succ n ih =>
    intro o0 o2 x3 M H locs ls k_o0 k_o2 w hl h
    unfold p_X1_readBehind_L30 at h
    refine lv_iload_n X.1 X.2.1 dX1_readBehind_30 rfl (lv_at hl 2 rfl) ?_
    refine r_bipush X dX1_readBehind_31 (by decide +kernel) ?_
    obtain ⟨i0, h1, h2⟩ := h
    refine r_icmp_ge (tgt := 72) X i0 ⟨by decide, by decide⟩ dX1_readBehind_33 (by decide) (fun cc => ?_) (fun cc => ?_)
    · have h := h1 cc
      exact w_X1_readBehind_J72 hg X K hr hlk o0 M _ _ _ k_o0 w (lv_sub hl [0] rfl) h
    · have h := h2 cc
      refine lv_aload_n X.1 X.2.1 dX1_readBehind_36 rfl (lv_at hl 0 rfl) ?_
      refine r_geti (N := 4) (T := TX1) (kz := 2) X K w iX1_readBehind_1 k_o0 rfl (by decide) 2 (by decide) rfl rfl rfl (List.mem_of_getElem? (i := 3) rfl) dX1_readBehind_37 ?_
      obtain ⟨i0, h1, h2⟩ := h
      refine r_if_ne (tgt := 72) X i0 dX1_readBehind_40 (by decide) (fun cc => ?_) (fun cc => ?_)
      · have h := h1 cc
        exact w_X1_readBehind_J72 hg X K hr hlk o0 M _ _ _ k_o0 w (lv_sub hl [0] rfl) h
      · have h := h2 cc
        refine lv_aload_n X.1 X.2.1 dX1_readBehind_43 rfl (lv_at hl 0 rfl) ?_
        refine r_geti (N := 4) (T := TX1) (kz := 1) X K w iX1_readBehind_1 k_o0 rfl (by decide) 1 (by decide) rfl rfl rfl (List.mem_of_getElem? (i := 2) rfl) dX1_readBehind_44 ?_
        refine lv_aload_n X.1 X.2.1 dX1_readBehind_47 rfl (lv_at hl 1 rfl) ?_
        refine r_getiN (N := 2) (T := TX6) (kz := 1) X K w iX1_readBehind_6 k_o2 rfl (by decide) 1 (by decide) rfl rfl rfl (List.mem_of_getElem? (i := 26) rfl) dX1_readBehind_48 ?_
        obtain ⟨i0, i1, h1, h2⟩ := h
        refine r_icmp_ge (tgt := 72) X i0 i1 dX1_readBehind_51 (by decide) (fun cc => ?_) (fun cc => ?_)
        · have h := h1 cc
          exact w_X1_readBehind_J72 hg X K hr hlk o0 M _ _ _ k_o0 w (lv_sub hl [0] rfl) h
        · have h := h2 cc
          refine lv_aload_n X.1 X.2.1 dX1_readBehind_54 rfl (lv_at hl 0 rfl) ?_
          refine lv_aload_n X.1 X.2.1 dX1_readBehind_55 rfl (lv_at hl 1 rfl) ?_
          refine r_bipush X dX1_readBehind_56 (by decide +kernel) ?_
          refine q_v (x_V (As := [.ref (ad o2), cI 44]) (rest := []) X K w (c_X1_readSign hg k_o0 k_o2 h) (cwV 2 X.2.2.2.2 gX1_readBehind_X1_readSign rfl rfl rfl (by decide +kernel) ⟨Nat.le_of_ble_eq_true rfl, Nat.le_of_ble_eq_true rfl⟩) k_o0 (by decide) rfl rfl hl rfl (Nat.le_of_ble_eq_true rfl) dX1_readBehind_58 ⟨Nat.le_of_ble_eq_true rfl, Nat.le_of_ble_eq_true rfl⟩) w (fun M9 H locs h w => ?_)
          refine lv_aload_n X.1 X.2.1 dX1_readBehind_61 rfl (lv_at hl 0 rfl) ?_
          refine lv_aload_n X.1 X.2.1 dX1_readBehind_62 rfl (lv_at hl 1 rfl) ?_
          refine q_v (x_V (As := [.ref (ad o2)]) (rest := []) X K w (c_X1_readCue hg k_o0 k_o2 h) (cwV 1 X.2.2.2.2 gX1_readBehind_X1_readCue rfl rfl rfl (by decide +kernel) ⟨Nat.le_of_ble_eq_true rfl, Nat.le_of_ble_eq_true rfl⟩) k_o0 (by decide) rfl rfl hl rfl (Nat.le_of_ble_eq_true rfl) dX1_readBehind_63 ⟨Nat.le_of_ble_eq_true rfl, Nat.le_of_ble_eq_true rfl⟩) w (fun M10 H locs h w => ?_)
          refine r_iinc (lv' := [(3, cI (x3 + 1)), (0, .ref (ad o0)), (2, .ref (ad o2))]) X hl (k := 2) rfl (by decide) dX1_readBehind_66 rfl (fun ls hl => ?_)
          refine lv_goto (tgt := 30) X.1 X.2.1 dX1_readBehind_69 (by decide) ?_
          exact ih o0 o2 (x3 + 1) M10 _ _ _ k_o0 k_o2 w (lv_sub hl [1, 2, 0] rfl) h
set_option maxHeartbeats 4000000 in
set_option maxRecDepth 100000 in
theorem c_X1_readBehind {E : EE} {l : Launch} {g : GG} {ad : Nat → Nat} (hg : gwf g) {o0 : Nat} {o1 : Nat} {o2 : Nat} {M : Mm} {Q : Mm → Prop} (k_o0 : gk g o0 = 1) (k_o1 : gk g o1 = 0) (k_o2 : gk g o2 = 6) (h : p_X1_readBehind g o0 o1 o2 M Q) : Ct E l yX1_readBehind wsX1_readBehind rmX1_readBehind g ad [.ref (ad o0), .ref (ad o1), .ref (ad o2)] M (QV E g ad Q) := by
  refine ent (cc := cX1_readBehind) (maxL := 4) (ret := none) (own := RX1) (by decide +kernel) rfl rfl (Nat.le_of_ble_eq_true rfl) ?_
  intro p e s m below meth c ls X hr hlk K w hl
  have hl : lv_has ls 4 [(0, .ref (ad o0)), (1, .ref (ad o1)), (2, .ref (ad o2))] := hl
  unfold p_X1_readBehind at h
  refine lv_aload_n X.1 X.2.1 dX1_readBehind_0 rfl (lv_at hl 0 rfl) ?_
  refine r_getr (N := 4) (T := TX1) X K w iX1_readBehind_1 k_o0 rfl (by decide) 0 (by decide) rfl rfl (List.mem_of_getElem? (i := 1) rfl) dX1_readBehind_1 ?_
  have k1 : gk g (o0 + 1) = 0 := gch hg k_o0 (by decide) 0 (by decide) rfl rfl
  refine lv_aload_n X.1 X.2.1 dX1_readBehind_4 rfl (lv_at hl 1 rfl) ?_
  refine q_v (x_V (As := [.ref (ad o1)]) (rest := []) X K w (c_X0_copyFrom hg k1 k_o1 h) (cwV 1 X.2.2.2.2 gX1_readBehind_X0_copyFrom rfl rfl rfl (by decide +kernel) ⟨Nat.le_of_ble_eq_true rfl, Nat.le_of_ble_eq_true rfl⟩) k1 (by decide) rfl rfl hl rfl (Nat.le_of_ble_eq_true rfl) dX1_readBehind_5 ⟨Nat.le_of_ble_eq_true rfl, Nat.le_of_ble_eq_true rfl⟩) w (fun M2 H locs h w => ?_)
  refine lv_aload_n X.1 X.2.1 dX1_readBehind_8 rfl (lv_at hl 0 rfl) ?_
  refine r_iconst X dX1_readBehind_9 ?_
  refine r_puti (N := 4) (T := TX1) (kz := 1) (ty := .int) X K w iX1_readBehind_1 tyX1 tyX1_ok nmX1 k_o0 rfl (by decide) 1 (by decide) rfl rfl rfl rfl (by decide +kernel) rfl rfl (List.mem_of_getElem? (i := 2) rfl) dX1_readBehind_10 (fun M3 H locs e w => ?_)
  replace h := h M3 e
  refine lv_aload_n X.1 X.2.1 dX1_readBehind_13 rfl (lv_at hl 0 rfl) ?_
  refine r_iconst X dX1_readBehind_14 ?_
  refine r_puti (N := 4) (T := TX1) (kz := 2) (ty := .boolean) X K w iX1_readBehind_1 tyX1 tyX1_ok nmX1 k_o0 rfl (by decide) 2 (by decide) rfl rfl rfl rfl (by decide +kernel) (by decide +kernel) (by decide +kernel) (List.mem_of_getElem? (i := 3) rfl) dX1_readBehind_15 (fun M4 H locs e w => ?_)
  replace h := h M4 e
  refine lv_aload_n X.1 X.2.1 dX1_readBehind_18 rfl (lv_at hl 0 rfl) ?_
  refine r_iconst X dX1_readBehind_19 ?_
  refine r_puti (N := 4) (T := TX1) (kz := 3) (ty := .boolean) X K w iX1_readBehind_1 tyX1 tyX1_ok nmX1 k_o0 rfl (by decide) 3 (by decide) rfl rfl rfl rfl (by decide +kernel) (by decide +kernel) (by decide +kernel) (List.mem_of_getElem? (i := 4) rfl) dX1_readBehind_20 (fun M5 H locs e w => ?_)
  replace h := h M5 e
  refine lv_aload_n X.1 X.2.1 dX1_readBehind_23 rfl (lv_at hl 0 rfl) ?_
  refine lv_aload_n X.1 X.2.1 dX1_readBehind_24 rfl (lv_at hl 2 rfl) ?_
  refine q_v (x_V (As := [.ref (ad o2)]) (rest := []) X K w (c_X1_readCue hg k_o0 k_o2 h) (cwV 1 X.2.2.2.2 gX1_readBehind_X1_readCue rfl rfl rfl (by decide +kernel) ⟨Nat.le_of_ble_eq_true rfl, Nat.le_of_ble_eq_true rfl⟩) k_o0 (by decide) rfl rfl hl rfl (Nat.le_of_ble_eq_true rfl) dX1_readBehind_25 ⟨Nat.le_of_ble_eq_true rfl, Nat.le_of_ble_eq_true rfl⟩) w (fun M6 H locs h w => ?_)
  refine r_iconst X dX1_readBehind_28 ?_
  refine lv_istore_n (lv' := [(3, cI 1), (0, .ref (ad o0)), (1, .ref (ad o1)), (2, .ref (ad o2))]) X.1 X.2.1 dX1_readBehind_29 rfl hl (by decide) rfl (fun ls hl => ?_)
  obtain ⟨n11, h⟩ := h
  exact w_X1_readBehind_L30 hg X K hr hlk n11 o0 o2 1 M6 _ _ _ k_o0 k_o2 w (lv_sub hl [1, 3, 0] rfl) h
theorem dX2_dropOldest_0 : decode cX2_dropOldest 0 = .ok (.iconst 1, 1) := by decide +kernel
theorem dX2_dropOldest_1 : decode cX2_dropOldest 1 = .ok (.istore_n 1, 1) := by decide +kernel
theorem dX2_dropOldest_2 : decode cX2_dropOldest 2 = .ok (.iload_n 1, 1) := by decide +kernel
theorem dX2_dropOldest_3 : decode cX2_dropOldest 3 = .ok (.aload_n 0, 1) := by decide +kernel
theorem dX2_dropOldest_4 : decode cX2_dropOldest 4 = .ok (.getfield 11, 3) := by decide +kernel
theorem dX2_dropOldest_7 : decode cX2_dropOldest 7 = .ok (.arraylength, 1) := by decide +kernel
theorem dX2_dropOldest_8 : decode cX2_dropOldest 8 = .ok (.if_icmp .ge 39, 3) := by decide +kernel
theorem dX2_dropOldest_11 : decode cX2_dropOldest 11 = .ok (.aload_n 0, 1) := by decide +kernel
theorem dX2_dropOldest_12 : decode cX2_dropOldest 12 = .ok (.getfield 11, 3) := by decide +kernel
theorem dX2_dropOldest_15 : decode cX2_dropOldest 15 = .ok (.iload_n 1, 1) := by decide +kernel
theorem dX2_dropOldest_16 : decode cX2_dropOldest 16 = .ok (.iconst 1, 1) := by decide +kernel
theorem dX2_dropOldest_17 : decode cX2_dropOldest 17 = .ok (.isub, 1) := by decide +kernel
theorem dX2_dropOldest_18 : decode cX2_dropOldest 18 = .ok (.aaload, 1) := by decide +kernel
theorem dX2_dropOldest_19 : decode cX2_dropOldest 19 = .ok (.astore_n 2, 1) := by decide +kernel
theorem dX2_dropOldest_20 : decode cX2_dropOldest 20 = .ok (.aload_n 0, 1) := by decide +kernel
theorem dX2_dropOldest_21 : decode cX2_dropOldest 21 = .ok (.getfield 11, 3) := by decide +kernel
theorem dX2_dropOldest_24 : decode cX2_dropOldest 24 = .ok (.iload_n 1, 1) := by decide +kernel
theorem dX2_dropOldest_25 : decode cX2_dropOldest 25 = .ok (.iconst 1, 1) := by decide +kernel
theorem dX2_dropOldest_26 : decode cX2_dropOldest 26 = .ok (.isub, 1) := by decide +kernel
theorem dX2_dropOldest_27 : decode cX2_dropOldest 27 = .ok (.aload_n 0, 1) := by decide +kernel
theorem dX2_dropOldest_28 : decode cX2_dropOldest 28 = .ok (.getfield 11, 3) := by decide +kernel
theorem dX2_dropOldest_31 : decode cX2_dropOldest 31 = .ok (.iload_n 1, 1) := by decide +kernel
theorem dX2_dropOldest_32 : decode cX2_dropOldest 32 = .ok (.aaload, 1) := by decide +kernel
theorem dX2_dropOldest_33 : decode cX2_dropOldest 33 = .ok (.aastore, 1) := by decide +kernel
theorem dX2_dropOldest_34 : decode cX2_dropOldest 34 = .ok (.aload_n 0, 1) := by decide +kernel
theorem dX2_dropOldest_35 : decode cX2_dropOldest 35 = .ok (.getfield 11, 3) := by decide +kernel
theorem dX2_dropOldest_38 : decode cX2_dropOldest 38 = .ok (.iload_n 1, 1) := by decide +kernel
theorem dX2_dropOldest_39 : decode cX2_dropOldest 39 = .ok (.aload_n 2, 1) := by decide +kernel
theorem dX2_dropOldest_40 : decode cX2_dropOldest 40 = .ok (.aastore, 1) := by decide +kernel
theorem dX2_dropOldest_41 : decode cX2_dropOldest 41 = .ok (.iinc 1 1, 3) := by decide +kernel
theorem dX2_dropOldest_44 : decode cX2_dropOldest 44 = .ok (.goto (-42), 3) := by decide +kernel
theorem dX2_dropOldest_47 : decode cX2_dropOldest 47 = .ok (.aload_n 0, 1) := by decide +kernel
theorem dX2_dropOldest_48 : decode cX2_dropOldest 48 = .ok (.dup, 1) := by decide +kernel
theorem dX2_dropOldest_49 : decode cX2_dropOldest 49 = .ok (.getfield 17, 3) := by decide +kernel
theorem dX2_dropOldest_52 : decode cX2_dropOldest 52 = .ok (.iconst 1, 1) := by decide +kernel
theorem dX2_dropOldest_53 : decode cX2_dropOldest 53 = .ok (.isub, 1) := by decide +kernel
theorem dX2_dropOldest_54 : decode cX2_dropOldest 54 = .ok (.putfield 17, 3) := by decide +kernel
theorem dX2_dropOldest_57 : decode cX2_dropOldest 57 = .ok (.return_, 1) := by decide +kernel
theorem iX2_dropOldest_2 : ∀ w ∈ u_ws RX2 TX2 2, w ∈ wsX2_dropOldest := fun w h => List.mem_cons_of_mem _ (List.mem_append_right _ (h))
set_option maxHeartbeats 4000000 in
set_option maxRecDepth 100000 in
theorem w_X2_dropOldest_L2 {p : Program} {l : Launch} {e : Env} {s : State} {m : MethodId} {args : Array Value} {below : List Frame} {meth : Method} {c : Code} {E : EE} {g : GG} {ad : Nat → Nat} (hg : gwf g) (X : CallFix p m c cX2_dropOldest 3 s args wsX2_dropOldest RX2) (K : Kn E s) (hr : meth.sig.returnType = none) (hlk : meth.locks = false) {Q : Mm → Prop} : ∀ (n : Nat) (o0 : Nat) (x1 : Int) (M : Mm) (H : Heap) (locs : List Loc) (ls : Array Slot), gk g o0 = 2 → Rw E g ad M s.heap H locs → lv_has ls 3 [(0, .ref (ad o0)), (1, cI x1)] → p_X2_dropOldest_L2 g n o0 x1 M Q → W p l e rmX2_dropOldest s m args below meth c H locs 0 0 (MQ below (QV E g ad Q) args s 0 0 (Rg g ad)) (F0 m 2 ls []) := by
  intro n
  induction n with
  | zero =>
    intro o0 x1 M H locs ls k_o0 w hl h
    exact absurd h (by unfold p_X2_dropOldest_L2; exact id)
  | succ n ih =>
    intro o0 x1 M H locs ls k_o0 w hl h
    unfold p_X2_dropOldest_L2 at h
    refine lv_iload_n X.1 X.2.1 dX2_dropOldest_2 rfl (lv_at hl 1 rfl) ?_
    refine lv_aload_n X.1 X.2.1 dX2_dropOldest_3 rfl (lv_at hl 0 rfl) ?_
    refine r_getr (N := 2) (T := TX2) X K w iX2_dropOldest_2 k_o0 rfl (by decide) 0 (by decide) rfl rfl (List.mem_of_getElem? (i := 1) rfl) dX2_dropOldest_4 ?_
    have k1 : gk g (o0 + 1) = 10 := gch hg k_o0 (by decide) 0 (by decide) rfl rfl
    refine r_alenR X K w k1 dX2_dropOldest_7 ?_
    obtain ⟨i0, h1, h2⟩ := h
    refine r_icmp_ge (tgt := 47) X i0 (inR_n (hg.2 _)) dX2_dropOldest_8 (by decide) (fun cc => ?_) (fun cc => ?_)
    · have h := h1 cc
      refine lv_aload_n X.1 X.2.1 dX2_dropOldest_47 rfl (lv_at hl 0 rfl) ?_
      refine lv_dup X.1 X.2.1 dX2_dropOldest_48 rfl ?_
      refine r_geti (N := 2) (T := TX2) (kz := 1) X K w iX2_dropOldest_2 k_o0 rfl (by decide) 1 (by decide) rfl rfl rfl (List.mem_of_getElem? (i := 2) rfl) dX2_dropOldest_49 ?_
      refine r_iconst X dX2_dropOldest_52 ?_
      refine r_isub X dX2_dropOldest_53 ?_
      refine r_puti (N := 2) (T := TX2) (kz := 1) (ty := .int) X K w iX2_dropOldest_2 tyX2 tyX2_ok nmX2 k_o0 rfl (by decide) 1 (by decide) rfl rfl rfl rfl (by decide +kernel) rfl rfl (List.mem_of_getElem? (i := 2) rfl) dX2_dropOldest_54 (fun M2 H locs e w => ?_)
      replace h := h M2 e
      exact r_return X hr hlk K w h dX2_dropOldest_57
    · have h := h2 cc
      refine lv_aload_n X.1 X.2.1 dX2_dropOldest_11 rfl (lv_at hl 0 rfl) ?_
      refine r_getr (N := 2) (T := TX2) X K w iX2_dropOldest_2 k_o0 rfl (by decide) 0 (by decide) rfl rfl (List.mem_of_getElem? (i := 1) rfl) dX2_dropOldest_12 ?_
      have k3 : gk g (o0 + 1) = 10 := gch hg k_o0 (by decide) 0 (by decide) rfl rfl
      refine lv_iload_n X.1 X.2.1 dX2_dropOldest_15 rfl (lv_at hl 1 rfl) ?_
      refine r_iconst X dX2_dropOldest_16 ?_
      refine r_isub X dX2_dropOldest_17 ?_
      obtain ⟨b0, b1, k4, h⟩ := h
      refine r_aald X K w hg k3 b0 b1 dX2_dropOldest_18 ?_
      refine lv_astore_n (lv' := [(2, .ref (ad ((M (o0 + 1) (x1 - 1)).toNat))), (0, .ref (ad o0)), (1, cI x1)]) X.1 X.2.1 dX2_dropOldest_19 rfl hl (by decide) rfl (fun ls hl => ?_)
      refine lv_aload_n X.1 X.2.1 dX2_dropOldest_20 rfl (lv_at hl 1 rfl) ?_
      refine r_getr (N := 2) (T := TX2) X K w iX2_dropOldest_2 k_o0 rfl (by decide) 0 (by decide) rfl rfl (List.mem_of_getElem? (i := 1) rfl) dX2_dropOldest_21 ?_
      have k5 : gk g (o0 + 1) = 10 := gch hg k_o0 (by decide) 0 (by decide) rfl rfl
      refine lv_iload_n X.1 X.2.1 dX2_dropOldest_24 rfl (lv_at hl 2 rfl) ?_
      refine r_iconst X dX2_dropOldest_25 ?_
      refine r_isub X dX2_dropOldest_26 ?_
      refine lv_aload_n X.1 X.2.1 dX2_dropOldest_27 rfl (lv_at hl 1 rfl) ?_
      refine r_getr (N := 2) (T := TX2) X K w iX2_dropOldest_2 k_o0 rfl (by decide) 0 (by decide) rfl rfl (List.mem_of_getElem? (i := 1) rfl) dX2_dropOldest_28 ?_
      have k6 : gk g (o0 + 1) = 10 := gch hg k_o0 (by decide) 0 (by decide) rfl rfl
      refine lv_iload_n X.1 X.2.1 dX2_dropOldest_31 rfl (lv_at hl 2 rfl) ?_
      obtain ⟨b0, b1, k7, h⟩ := h
      refine r_aald X K w hg k6 b0 b1 dX2_dropOldest_32 ?_
      obtain ⟨b0, b1, h⟩ := h
      refine r_aast X K w hg k5 k7 b0 b1 dX2_dropOldest_33 (fun M8 H locs e w => ?_)
      replace h := h M8 e
      refine lv_aload_n X.1 X.2.1 dX2_dropOldest_34 rfl (lv_at hl 1 rfl) ?_
      refine r_getr (N := 2) (T := TX2) X K w iX2_dropOldest_2 k_o0 rfl (by decide) 0 (by decide) rfl rfl (List.mem_of_getElem? (i := 1) rfl) dX2_dropOldest_35 ?_
      have k9 : gk g (o0 + 1) = 10 := gch hg k_o0 (by decide) 0 (by decide) rfl rfl
      refine lv_iload_n X.1 X.2.1 dX2_dropOldest_38 rfl (lv_at hl 2 rfl) ?_
      refine lv_aload_n X.1 X.2.1 dX2_dropOldest_39 rfl (lv_at hl 0 rfl) ?_
      obtain ⟨b0, b1, h⟩ := h
      refine r_aast X K w hg k9 k4 b0 b1 dX2_dropOldest_40 (fun M10 H locs e w => ?_)
      replace h := h M10 e
      refine r_iinc (lv' := [(1, cI (x1 + 1)), (2, .ref (ad ((M (o0 + 1) (x1 - 1)).toNat))), (0, .ref (ad o0))]) X hl (k := 2) rfl (by decide) dX2_dropOldest_41 rfl (fun ls hl => ?_)
      refine lv_goto (tgt := 2) X.1 X.2.1 dX2_dropOldest_44 (by decide) ?_
      exact ih o0 (x1 + 1) M10 _ _ _ k_o0 w (lv_sub hl [2, 0] rfl) h
set_option maxHeartbeats 4000000 in
set_option maxRecDepth 100000 in
theorem c_X2_dropOldest {E : EE} {l : Launch} {g : GG} {ad : Nat → Nat} (hg : gwf g) {o0 : Nat} {M : Mm} {Q : Mm → Prop} (k_o0 : gk g o0 = 2) (h : p_X2_dropOldest g o0 M Q) : Ct E l yX2_dropOldest wsX2_dropOldest rmX2_dropOldest g ad [.ref (ad o0)] M (QV E g ad Q) := by
  refine ent (cc := cX2_dropOldest) (maxL := 3) (ret := none) (own := RX2) (by decide +kernel) rfl rfl (Nat.le_of_ble_eq_true rfl) ?_
  intro p e s m below meth c ls X hr hlk K w hl
  have hl : lv_has ls 3 [(0, .ref (ad o0))] := hl
  unfold p_X2_dropOldest at h
  refine r_iconst X dX2_dropOldest_0 ?_
  refine lv_istore_n (lv' := [(1, cI 1), (0, .ref (ad o0))]) X.1 X.2.1 dX2_dropOldest_1 rfl hl (by decide) rfl (fun ls hl => ?_)
  obtain ⟨n11, h⟩ := h
  exact w_X2_dropOldest_L2 hg X K hr hlk n11 o0 1 M _ _ _ k_o0 w (lv_sub hl [1, 0] rfl) h
theorem dX2_at_0 : decode cX2_at 0 = .ok (.iload_n 1, 1) := by decide +kernel
theorem dX2_at_1 : decode cX2_at 1 = .ok (.ifCond .lt 21, 3) := by decide +kernel
theorem dX2_at_4 : decode cX2_at 4 = .ok (.iload_n 1, 1) := by decide +kernel
theorem dX2_at_5 : decode cX2_at 5 = .ok (.aload_n 0, 1) := by decide +kernel
theorem dX2_at_6 : decode cX2_at 6 = .ok (.getfield 11, 3) := by decide +kernel
theorem dX2_at_9 : decode cX2_at 9 = .ok (.arraylength, 1) := by decide +kernel
theorem dX2_at_10 : decode cX2_at 10 = .ok (.if_icmp .ge 12, 3) := by decide +kernel
theorem dX2_at_13 : decode cX2_at 13 = .ok (.aload_n 0, 1) := by decide +kernel
theorem dX2_at_14 : decode cX2_at 14 = .ok (.getfield 11, 3) := by decide +kernel
theorem dX2_at_17 : decode cX2_at 17 = .ok (.iload_n 1, 1) := by decide +kernel
theorem dX2_at_18 : decode cX2_at 18 = .ok (.aaload, 1) := by decide +kernel
theorem dX2_at_19 : decode cX2_at 19 = .ok (.goto 4, 3) := by decide +kernel
theorem dX2_at_22 : decode cX2_at 22 = .ok (.aconst_null, 1) := by decide +kernel
theorem dX2_at_23 : decode cX2_at 23 = .ok (.areturn, 1) := by decide +kernel
theorem iX2_at_2 : ∀ w ∈ u_ws RX2 TX2 2, w ∈ wsX2_at := fun w h => List.mem_cons_of_mem _ (List.mem_append_right _ (h))
set_option maxHeartbeats 4000000 in
set_option maxRecDepth 100000 in
theorem c_X2_at {E : EE} {l : Launch} {g : GG} {ad : Nat → Nat} (hg : gwf g) {o0 : Nat} {x1 : Int} {M : Mm} {Q : Option Nat → Mm → Prop} (k_o0 : gk g o0 = 2) (h : p_X2_at g o0 x1 M Q) : Ct E l yX2_at wsX2_at rmX2_at g ad [.ref (ad o0), cI x1] M (QO E g ad 5 Q) := by
  refine ent (cc := cX2_at) (maxL := 2) (ret := (some (.object "LentSounds$State"))) (own := RX2) (by decide +kernel) rfl rfl (Nat.le_of_ble_eq_true rfl) ?_
  intro p e s m below meth c ls X hr hlk K w hl
  have hl : lv_has ls 2 [(0, .ref (ad o0)), (1, cI x1)] := hl
  unfold p_X2_at at h
  refine lv_iload_n X.1 X.2.1 dX2_at_0 rfl (lv_at hl 1 rfl) ?_
  obtain ⟨i0, h1, h2⟩ := h
  refine r_if_lt (tgt := 22) X i0 dX2_at_1 (by decide) (fun cc => ?_) (fun cc => ?_)
  · have h := h1 cc
    refine lv_null X.1 X.2.1 dX2_at_22 ?_
    exact r_areturnN X hr (Or.inl ⟨_, rfl⟩) hlk K w h dX2_at_23
  · have h := h2 cc
    refine lv_iload_n X.1 X.2.1 dX2_at_4 rfl (lv_at hl 1 rfl) ?_
    refine lv_aload_n X.1 X.2.1 dX2_at_5 rfl (lv_at hl 0 rfl) ?_
    refine r_getr (N := 2) (T := TX2) X K w iX2_at_2 k_o0 rfl (by decide) 0 (by decide) rfl rfl (List.mem_of_getElem? (i := 1) rfl) dX2_at_6 ?_
    have k1 : gk g (o0 + 1) = 10 := gch hg k_o0 (by decide) 0 (by decide) rfl rfl
    refine r_alenR X K w k1 dX2_at_9 ?_
    obtain ⟨i0, h1, h2⟩ := h
    refine r_icmp_ge (tgt := 22) X i0 (inR_n (hg.2 _)) dX2_at_10 (by decide) (fun cc => ?_) (fun cc => ?_)
    · have h := h1 cc
      refine lv_null X.1 X.2.1 dX2_at_22 ?_
      exact r_areturnN X hr (Or.inl ⟨_, rfl⟩) hlk K w h dX2_at_23
    · have h := h2 cc
      refine lv_aload_n X.1 X.2.1 dX2_at_13 rfl (lv_at hl 0 rfl) ?_
      refine r_getr (N := 2) (T := TX2) X K w iX2_at_2 k_o0 rfl (by decide) 0 (by decide) rfl rfl (List.mem_of_getElem? (i := 1) rfl) dX2_at_14 ?_
      have k2 : gk g (o0 + 1) = 10 := gch hg k_o0 (by decide) 0 (by decide) rfl rfl
      refine lv_iload_n X.1 X.2.1 dX2_at_17 rfl (lv_at hl 1 rfl) ?_
      obtain ⟨b0, b1, k3, h⟩ := h
      refine r_aald X K w hg k2 b0 b1 dX2_at_18 ?_
      refine lv_goto (tgt := 23) X.1 X.2.1 dX2_at_19 (by decide) ?_
      exact r_areturnO X hr (Or.inl ⟨_, rfl⟩) hlk K w k3 h dX2_at_23
theorem dX5_copyFrom_0 : decode cX5_copyFrom 0 = .ok (.aload_n 0, 1) := by decide +kernel
theorem dX5_copyFrom_1 : decode cX5_copyFrom 1 = .ok (.getfield 14, 3) := by decide +kernel
theorem dX5_copyFrom_4 : decode cX5_copyFrom 4 = .ok (.aload_n 1, 1) := by decide +kernel
theorem dX5_copyFrom_5 : decode cX5_copyFrom 5 = .ok (.getfield 14, 3) := by decide +kernel
theorem dX5_copyFrom_8 : decode cX5_copyFrom 8 = .ok (.invokevirtual 59, 3) := by decide +kernel
theorem dX5_copyFrom_11 : decode cX5_copyFrom 11 = .ok (.aload_n 0, 1) := by decide +kernel
theorem dX5_copyFrom_12 : decode cX5_copyFrom 12 = .ok (.getfield 20, 3) := by decide +kernel
theorem dX5_copyFrom_15 : decode cX5_copyFrom 15 = .ok (.aload_n 1, 1) := by decide +kernel
theorem dX5_copyFrom_16 : decode cX5_copyFrom 16 = .ok (.getfield 20, 3) := by decide +kernel
theorem dX5_copyFrom_19 : decode cX5_copyFrom 19 = .ok (.invokevirtual 59, 3) := by decide +kernel
theorem dX5_copyFrom_22 : decode cX5_copyFrom 22 = .ok (.aload_n 0, 1) := by decide +kernel
theorem dX5_copyFrom_23 : decode cX5_copyFrom 23 = .ok (.getfield 23, 3) := by decide +kernel
theorem dX5_copyFrom_26 : decode cX5_copyFrom 26 = .ok (.aload_n 1, 1) := by decide +kernel
theorem dX5_copyFrom_27 : decode cX5_copyFrom 27 = .ok (.getfield 23, 3) := by decide +kernel
theorem dX5_copyFrom_30 : decode cX5_copyFrom 30 = .ok (.invokevirtual 59, 3) := by decide +kernel
theorem dX5_copyFrom_33 : decode cX5_copyFrom 33 = .ok (.aload_n 0, 1) := by decide +kernel
theorem dX5_copyFrom_34 : decode cX5_copyFrom 34 = .ok (.getfield 26, 3) := by decide +kernel
theorem dX5_copyFrom_37 : decode cX5_copyFrom 37 = .ok (.aload_n 1, 1) := by decide +kernel
theorem dX5_copyFrom_38 : decode cX5_copyFrom 38 = .ok (.getfield 26, 3) := by decide +kernel
theorem dX5_copyFrom_41 : decode cX5_copyFrom 41 = .ok (.invokevirtual 59, 3) := by decide +kernel
theorem dX5_copyFrom_44 : decode cX5_copyFrom 44 = .ok (.aload_n 0, 1) := by decide +kernel
theorem dX5_copyFrom_45 : decode cX5_copyFrom 45 = .ok (.getfield 32, 3) := by decide +kernel
theorem dX5_copyFrom_48 : decode cX5_copyFrom 48 = .ok (.aload_n 1, 1) := by decide +kernel
theorem dX5_copyFrom_49 : decode cX5_copyFrom 49 = .ok (.getfield 32, 3) := by decide +kernel
theorem dX5_copyFrom_52 : decode cX5_copyFrom 52 = .ok (.invokevirtual 63, 3) := by decide +kernel
theorem dX5_copyFrom_55 : decode cX5_copyFrom 55 = .ok (.aload_n 0, 1) := by decide +kernel
theorem dX5_copyFrom_56 : decode cX5_copyFrom 56 = .ok (.aload_n 1, 1) := by decide +kernel
theorem dX5_copyFrom_57 : decode cX5_copyFrom 57 = .ok (.getfield 36, 3) := by decide +kernel
theorem dX5_copyFrom_60 : decode cX5_copyFrom 60 = .ok (.putfield 36, 3) := by decide +kernel
theorem dX5_copyFrom_63 : decode cX5_copyFrom 63 = .ok (.aload_n 0, 1) := by decide +kernel
theorem dX5_copyFrom_64 : decode cX5_copyFrom 64 = .ok (.aload_n 1, 1) := by decide +kernel
theorem dX5_copyFrom_65 : decode cX5_copyFrom 65 = .ok (.getfield 40, 3) := by decide +kernel
theorem dX5_copyFrom_68 : decode cX5_copyFrom 68 = .ok (.putfield 40, 3) := by decide +kernel
theorem dX5_copyFrom_71 : decode cX5_copyFrom 71 = .ok (.aload_n 0, 1) := by decide +kernel
theorem dX5_copyFrom_72 : decode cX5_copyFrom 72 = .ok (.aload_n 1, 1) := by decide +kernel
theorem dX5_copyFrom_73 : decode cX5_copyFrom 73 = .ok (.getfield 43, 3) := by decide +kernel
theorem dX5_copyFrom_76 : decode cX5_copyFrom 76 = .ok (.putfield 43, 3) := by decide +kernel
theorem dX5_copyFrom_79 : decode cX5_copyFrom 79 = .ok (.aload_n 0, 1) := by decide +kernel
theorem dX5_copyFrom_80 : decode cX5_copyFrom 80 = .ok (.aload_n 1, 1) := by decide +kernel
theorem dX5_copyFrom_81 : decode cX5_copyFrom 81 = .ok (.getfield 46, 3) := by decide +kernel
theorem dX5_copyFrom_84 : decode cX5_copyFrom 84 = .ok (.putfield 46, 3) := by decide +kernel
theorem dX5_copyFrom_87 : decode cX5_copyFrom 87 = .ok (.aload_n 0, 1) := by decide +kernel
theorem dX5_copyFrom_88 : decode cX5_copyFrom 88 = .ok (.aload_n 1, 1) := by decide +kernel
theorem dX5_copyFrom_89 : decode cX5_copyFrom 89 = .ok (.getfield 49, 3) := by decide +kernel
theorem dX5_copyFrom_92 : decode cX5_copyFrom 92 = .ok (.putfield 49, 3) := by decide +kernel
theorem dX5_copyFrom_95 : decode cX5_copyFrom 95 = .ok (.aload_n 0, 1) := by decide +kernel
theorem dX5_copyFrom_96 : decode cX5_copyFrom 96 = .ok (.aload_n 1, 1) := by decide +kernel
theorem dX5_copyFrom_97 : decode cX5_copyFrom 97 = .ok (.getfield 52, 3) := by decide +kernel
theorem dX5_copyFrom_100 : decode cX5_copyFrom 100 = .ok (.putfield 52, 3) := by decide +kernel
theorem dX5_copyFrom_103 : decode cX5_copyFrom 103 = .ok (.return_, 1) := by decide +kernel
set_option maxRecDepth 20000 in
theorem ggX5_copyFrom_X0_copyFrom : GoodIn wsX5_copyFrom wsX0_copyFrom := goodIn_r _ [30, 31, 32, 33, 34, 35, 36, 37, 19, 20, 21, 38, 13, 14, 15, 16, 17, 18, 22, 23, 24, 25, 51, 52, 53, 54, 55, 56, 50] (by decide +kernel) (by decide +kernel)
set_option maxRecDepth 20000 in
theorem gX5_copyFrom_X0_copyFrom : GoodIn wsX5_copyFrom (wsV RX5 63 RX0 yX0_copyFrom wsX0_copyFrom) := goodIn_app (goodIn_of _ (by decide +kernel)) ggX5_copyFrom_X0_copyFrom
set_option maxRecDepth 20000 in
theorem ggX5_copyFrom_X4_copyFrom : GoodIn wsX5_copyFrom wsX4_copyFrom := goodIn_r _ [16, 17, 18, 19, 20, 21, 22, 23, 24, 25, 50] (by decide +kernel) (by decide +kernel)
set_option maxRecDepth 20000 in
theorem gX5_copyFrom_X4_copyFrom : GoodIn wsX5_copyFrom (wsV RX5 59 RX4 yX4_copyFrom wsX4_copyFrom) := goodIn_app (goodIn_of _ (by decide +kernel)) ggX5_copyFrom_X4_copyFrom
theorem iX5_copyFrom_5 : ∀ w ∈ u_ws RX5 TX5 11, w ∈ wsX5_copyFrom := fun w h => List.mem_cons_of_mem _ (List.mem_append_left _ (List.mem_append_left _ (List.mem_append_right _ (h))))
set_option maxHeartbeats 4000000 in
set_option maxRecDepth 100000 in
theorem c_X5_copyFrom {E : EE} {l : Launch} {g : GG} {ad : Nat → Nat} (hg : gwf g) {o0 : Nat} {o1 : Nat} {M : Mm} {Q : Mm → Prop} (k_o0 : gk g o0 = 5) (k_o1 : gk g o1 = 5) (h : p_X5_copyFrom g o0 o1 M Q) : Ct E l yX5_copyFrom wsX5_copyFrom rmX5_copyFrom g ad [.ref (ad o0), .ref (ad o1)] M (QV E g ad Q) := by
  refine ent (cc := cX5_copyFrom) (maxL := 2) (ret := none) (own := RX5) (by decide +kernel) rfl rfl (Nat.le_of_ble_eq_true rfl) ?_
  intro p e s m below meth c ls X hr hlk K w hl
  have hl : lv_has ls 2 [(0, .ref (ad o0)), (1, .ref (ad o1))] := hl
  unfold p_X5_copyFrom at h
  refine lv_aload_n X.1 X.2.1 dX5_copyFrom_0 rfl (lv_at hl 0 rfl) ?_
  refine r_getr (N := 11) (T := TX5) X K w iX5_copyFrom_5 k_o0 rfl (by decide) 0 (by decide) rfl rfl (List.mem_of_getElem? (i := 1) rfl) dX5_copyFrom_1 ?_
  have k1 : gk g (o0 + 1) = 4 := gch hg k_o0 (by decide) 0 (by decide) rfl rfl
  refine lv_aload_n X.1 X.2.1 dX5_copyFrom_4 rfl (lv_at hl 1 rfl) ?_
  refine r_getr (N := 11) (T := TX5) X K w iX5_copyFrom_5 k_o1 rfl (by decide) 0 (by decide) rfl rfl (List.mem_of_getElem? (i := 1) rfl) dX5_copyFrom_5 ?_
  have k2 : gk g (o1 + 1) = 4 := gch hg k_o1 (by decide) 0 (by decide) rfl rfl
  refine q_v (x_V (As := [.ref (ad (o1 + 1))]) (rest := []) X K w (c_X4_copyFrom hg k1 k2 h) (cwV 1 X.2.2.2.2 gX5_copyFrom_X4_copyFrom rfl rfl rfl (by decide +kernel) ⟨Nat.le_of_ble_eq_true rfl, Nat.le_of_ble_eq_true rfl⟩) k1 (by decide) rfl rfl hl rfl (Nat.le_of_ble_eq_true rfl) dX5_copyFrom_8 ⟨Nat.le_of_ble_eq_true rfl, Nat.le_of_ble_eq_true rfl⟩) w (fun M3 H locs h w => ?_)
  refine lv_aload_n X.1 X.2.1 dX5_copyFrom_11 rfl (lv_at hl 0 rfl) ?_
  refine r_getr (N := 11) (T := TX5) X K w iX5_copyFrom_5 k_o0 rfl (by decide) 1 (by decide) rfl rfl (List.mem_of_getElem? (i := 2) rfl) dX5_copyFrom_12 ?_
  have k4 : gk g (o0 + 3) = 4 := gch hg k_o0 (by decide) 1 (by decide) rfl rfl
  refine lv_aload_n X.1 X.2.1 dX5_copyFrom_15 rfl (lv_at hl 1 rfl) ?_
  refine r_getr (N := 11) (T := TX5) X K w iX5_copyFrom_5 k_o1 rfl (by decide) 1 (by decide) rfl rfl (List.mem_of_getElem? (i := 2) rfl) dX5_copyFrom_16 ?_
  have k5 : gk g (o1 + 3) = 4 := gch hg k_o1 (by decide) 1 (by decide) rfl rfl
  refine q_v (x_V (As := [.ref (ad (o1 + 3))]) (rest := []) X K w (c_X4_copyFrom hg k4 k5 h) (cwV 1 X.2.2.2.2 gX5_copyFrom_X4_copyFrom rfl rfl rfl (by decide +kernel) ⟨Nat.le_of_ble_eq_true rfl, Nat.le_of_ble_eq_true rfl⟩) k4 (by decide) rfl rfl hl rfl (Nat.le_of_ble_eq_true rfl) dX5_copyFrom_19 ⟨Nat.le_of_ble_eq_true rfl, Nat.le_of_ble_eq_true rfl⟩) w (fun M6 H locs h w => ?_)
  refine lv_aload_n X.1 X.2.1 dX5_copyFrom_22 rfl (lv_at hl 0 rfl) ?_
  refine r_getr (N := 11) (T := TX5) X K w iX5_copyFrom_5 k_o0 rfl (by decide) 2 (by decide) rfl rfl (List.mem_of_getElem? (i := 3) rfl) dX5_copyFrom_23 ?_
  have k7 : gk g (o0 + 5) = 4 := gch hg k_o0 (by decide) 2 (by decide) rfl rfl
  refine lv_aload_n X.1 X.2.1 dX5_copyFrom_26 rfl (lv_at hl 1 rfl) ?_
  refine r_getr (N := 11) (T := TX5) X K w iX5_copyFrom_5 k_o1 rfl (by decide) 2 (by decide) rfl rfl (List.mem_of_getElem? (i := 3) rfl) dX5_copyFrom_27 ?_
  have k8 : gk g (o1 + 5) = 4 := gch hg k_o1 (by decide) 2 (by decide) rfl rfl
  refine q_v (x_V (As := [.ref (ad (o1 + 5))]) (rest := []) X K w (c_X4_copyFrom hg k7 k8 h) (cwV 1 X.2.2.2.2 gX5_copyFrom_X4_copyFrom rfl rfl rfl (by decide +kernel) ⟨Nat.le_of_ble_eq_true rfl, Nat.le_of_ble_eq_true rfl⟩) k7 (by decide) rfl rfl hl rfl (Nat.le_of_ble_eq_true rfl) dX5_copyFrom_30 ⟨Nat.le_of_ble_eq_true rfl, Nat.le_of_ble_eq_true rfl⟩) w (fun M9 H locs h w => ?_)
  refine lv_aload_n X.1 X.2.1 dX5_copyFrom_33 rfl (lv_at hl 0 rfl) ?_
  refine r_getr (N := 11) (T := TX5) X K w iX5_copyFrom_5 k_o0 rfl (by decide) 3 (by decide) rfl rfl (List.mem_of_getElem? (i := 4) rfl) dX5_copyFrom_34 ?_
  have k10 : gk g (o0 + 7) = 4 := gch hg k_o0 (by decide) 3 (by decide) rfl rfl
  refine lv_aload_n X.1 X.2.1 dX5_copyFrom_37 rfl (lv_at hl 1 rfl) ?_
  refine r_getr (N := 11) (T := TX5) X K w iX5_copyFrom_5 k_o1 rfl (by decide) 3 (by decide) rfl rfl (List.mem_of_getElem? (i := 4) rfl) dX5_copyFrom_38 ?_
  have k11 : gk g (o1 + 7) = 4 := gch hg k_o1 (by decide) 3 (by decide) rfl rfl
  refine q_v (x_V (As := [.ref (ad (o1 + 7))]) (rest := []) X K w (c_X4_copyFrom hg k10 k11 h) (cwV 1 X.2.2.2.2 gX5_copyFrom_X4_copyFrom rfl rfl rfl (by decide +kernel) ⟨Nat.le_of_ble_eq_true rfl, Nat.le_of_ble_eq_true rfl⟩) k10 (by decide) rfl rfl hl rfl (Nat.le_of_ble_eq_true rfl) dX5_copyFrom_41 ⟨Nat.le_of_ble_eq_true rfl, Nat.le_of_ble_eq_true rfl⟩) w (fun M12 H locs h w => ?_)
  refine lv_aload_n X.1 X.2.1 dX5_copyFrom_44 rfl (lv_at hl 0 rfl) ?_
  refine r_getr (N := 11) (T := TX5) X K w iX5_copyFrom_5 k_o0 rfl (by decide) 4 (by decide) rfl rfl (List.mem_of_getElem? (i := 5) rfl) dX5_copyFrom_45 ?_
  have k13 : gk g (o0 + 9) = 0 := gch hg k_o0 (by decide) 4 (by decide) rfl rfl
  refine lv_aload_n X.1 X.2.1 dX5_copyFrom_48 rfl (lv_at hl 1 rfl) ?_
  refine r_getr (N := 11) (T := TX5) X K w iX5_copyFrom_5 k_o1 rfl (by decide) 4 (by decide) rfl rfl (List.mem_of_getElem? (i := 5) rfl) dX5_copyFrom_49 ?_
  have k14 : gk g (o1 + 9) = 0 := gch hg k_o1 (by decide) 4 (by decide) rfl rfl
  refine q_v (x_V (As := [.ref (ad (o1 + 9))]) (rest := []) X K w (c_X0_copyFrom hg k13 k14 h) (cwV 1 X.2.2.2.2 gX5_copyFrom_X0_copyFrom rfl rfl rfl (by decide +kernel) ⟨Nat.le_of_ble_eq_true rfl, Nat.le_of_ble_eq_true rfl⟩) k13 (by decide) rfl rfl hl rfl (Nat.le_of_ble_eq_true rfl) dX5_copyFrom_52 ⟨Nat.le_of_ble_eq_true rfl, Nat.le_of_ble_eq_true rfl⟩) w (fun M15 H locs h w => ?_)
  refine lv_aload_n X.1 X.2.1 dX5_copyFrom_55 rfl (lv_at hl 0 rfl) ?_
  refine lv_aload_n X.1 X.2.1 dX5_copyFrom_56 rfl (lv_at hl 1 rfl) ?_
  refine r_geti (N := 11) (T := TX5) (kz := 5) X K w iX5_copyFrom_5 k_o1 rfl (by decide) 5 (by decide) rfl rfl rfl (List.mem_of_getElem? (i := 6) rfl) dX5_copyFrom_57 ?_
  refine r_puti (N := 11) (T := TX5) (kz := 5) (ty := .int) X K w iX5_copyFrom_5 tyX5 tyX5_ok nmX5 k_o0 rfl (by decide) 5 (by decide) rfl rfl rfl rfl (by decide +kernel) rfl rfl (List.mem_of_getElem? (i := 6) rfl) dX5_copyFrom_60 (fun M16 H locs e w => ?_)
  replace h := h M16 e
  refine lv_aload_n X.1 X.2.1 dX5_copyFrom_63 rfl (lv_at hl 0 rfl) ?_
  refine lv_aload_n X.1 X.2.1 dX5_copyFrom_64 rfl (lv_at hl 1 rfl) ?_
  refine r_geti (N := 11) (T := TX5) (kz := 6) X K w iX5_copyFrom_5 k_o1 rfl (by decide) 6 (by decide) rfl rfl rfl (List.mem_of_getElem? (i := 7) rfl) dX5_copyFrom_65 ?_
  refine r_puti (N := 11) (T := TX5) (kz := 6) (ty := .int) X K w iX5_copyFrom_5 tyX5 tyX5_ok nmX5 k_o0 rfl (by decide) 6 (by decide) rfl rfl rfl rfl (by decide +kernel) rfl rfl (List.mem_of_getElem? (i := 7) rfl) dX5_copyFrom_68 (fun M17 H locs e w => ?_)
  replace h := h M17 e
  refine lv_aload_n X.1 X.2.1 dX5_copyFrom_71 rfl (lv_at hl 0 rfl) ?_
  refine lv_aload_n X.1 X.2.1 dX5_copyFrom_72 rfl (lv_at hl 1 rfl) ?_
  refine r_geti (N := 11) (T := TX5) (kz := 7) X K w iX5_copyFrom_5 k_o1 rfl (by decide) 7 (by decide) rfl rfl rfl (List.mem_of_getElem? (i := 8) rfl) dX5_copyFrom_73 ?_
  refine r_puti (N := 11) (T := TX5) (kz := 7) (ty := .int) X K w iX5_copyFrom_5 tyX5 tyX5_ok nmX5 k_o0 rfl (by decide) 7 (by decide) rfl rfl rfl rfl (by decide +kernel) rfl rfl (List.mem_of_getElem? (i := 8) rfl) dX5_copyFrom_76 (fun M18 H locs e w => ?_)
  replace h := h M18 e
  refine lv_aload_n X.1 X.2.1 dX5_copyFrom_79 rfl (lv_at hl 0 rfl) ?_
  refine lv_aload_n X.1 X.2.1 dX5_copyFrom_80 rfl (lv_at hl 1 rfl) ?_
  refine r_geti (N := 11) (T := TX5) (kz := 8) X K w iX5_copyFrom_5 k_o1 rfl (by decide) 8 (by decide) rfl rfl rfl (List.mem_of_getElem? (i := 9) rfl) dX5_copyFrom_81 ?_
  refine r_puti (N := 11) (T := TX5) (kz := 8) (ty := .int) X K w iX5_copyFrom_5 tyX5 tyX5_ok nmX5 k_o0 rfl (by decide) 8 (by decide) rfl rfl rfl rfl (by decide +kernel) rfl rfl (List.mem_of_getElem? (i := 9) rfl) dX5_copyFrom_84 (fun M19 H locs e w => ?_)
  replace h := h M19 e
  refine lv_aload_n X.1 X.2.1 dX5_copyFrom_87 rfl (lv_at hl 0 rfl) ?_
  refine lv_aload_n X.1 X.2.1 dX5_copyFrom_88 rfl (lv_at hl 1 rfl) ?_
  refine r_geti (N := 11) (T := TX5) (kz := 9) X K w iX5_copyFrom_5 k_o1 rfl (by decide) 9 (by decide) rfl rfl rfl (List.mem_of_getElem? (i := 10) rfl) dX5_copyFrom_89 ?_
  refine r_puti (N := 11) (T := TX5) (kz := 9) (ty := .int) X K w iX5_copyFrom_5 tyX5 tyX5_ok nmX5 k_o0 rfl (by decide) 9 (by decide) rfl rfl rfl rfl (by decide +kernel) rfl rfl (List.mem_of_getElem? (i := 10) rfl) dX5_copyFrom_92 (fun M20 H locs e w => ?_)
  replace h := h M20 e
  refine lv_aload_n X.1 X.2.1 dX5_copyFrom_95 rfl (lv_at hl 0 rfl) ?_
  refine lv_aload_n X.1 X.2.1 dX5_copyFrom_96 rfl (lv_at hl 1 rfl) ?_
  refine r_geti (N := 11) (T := TX5) (kz := 10) X K w iX5_copyFrom_5 k_o1 rfl (by decide) 10 (by decide) rfl rfl rfl (List.mem_of_getElem? (i := 11) rfl) dX5_copyFrom_97 ?_
  refine r_puti (N := 11) (T := TX5) (kz := 10) (ty := .int) X K w iX5_copyFrom_5 tyX5 tyX5_ok nmX5 k_o0 rfl (by decide) 10 (by decide) rfl rfl rfl rfl (by decide +kernel) rfl rfl (List.mem_of_getElem? (i := 11) rfl) dX5_copyFrom_100 (fun M21 H locs e w => ?_)
  replace h := h M21 e
  exact r_return X hr hlk K w h dX5_copyFrom_103
theorem dX2_record_0 : decode cX2_record 0 = .ok (.aload_n 0, 1) := by decide +kernel
theorem dX2_record_1 : decode cX2_record 1 = .ok (.getfield 17, 3) := by decide +kernel
theorem dX2_record_4 : decode cX2_record 4 = .ok (.aload_n 0, 1) := by decide +kernel
theorem dX2_record_5 : decode cX2_record 5 = .ok (.getfield 11, 3) := by decide +kernel
theorem dX2_record_8 : decode cX2_record 8 = .ok (.arraylength, 1) := by decide +kernel
theorem dX2_record_9 : decode cX2_record 9 = .ok (.if_icmp .lt 7, 3) := by decide +kernel
theorem dX2_record_12 : decode cX2_record 12 = .ok (.aload_n 0, 1) := by decide +kernel
theorem dX2_record_13 : decode cX2_record 13 = .ok (.invokevirtual 22, 3) := by decide +kernel
theorem dX2_record_16 : decode cX2_record 16 = .ok (.aload_n 0, 1) := by decide +kernel
theorem dX2_record_17 : decode cX2_record 17 = .ok (.aload_n 0, 1) := by decide +kernel
theorem dX2_record_18 : decode cX2_record 18 = .ok (.getfield 17, 3) := by decide +kernel
theorem dX2_record_21 : decode cX2_record 21 = .ok (.invokevirtual 25, 3) := by decide +kernel
theorem dX2_record_24 : decode cX2_record 24 = .ok (.astore_n 2, 1) := by decide +kernel
theorem dX2_record_25 : decode cX2_record 25 = .ok (.aload_n 2, 1) := by decide +kernel
theorem dX2_record_26 : decode cX2_record 26 = .ok (.ifnull 18, 3) := by decide +kernel
theorem dX2_record_29 : decode cX2_record 29 = .ok (.aload_n 2, 1) := by decide +kernel
theorem dX2_record_30 : decode cX2_record 30 = .ok (.aload_n 1, 1) := by decide +kernel
theorem dX2_record_31 : decode cX2_record 31 = .ok (.invokevirtual 29, 3) := by decide +kernel
theorem dX2_record_34 : decode cX2_record 34 = .ok (.aload_n 0, 1) := by decide +kernel
theorem dX2_record_35 : decode cX2_record 35 = .ok (.dup, 1) := by decide +kernel
theorem dX2_record_36 : decode cX2_record 36 = .ok (.getfield 17, 3) := by decide +kernel
theorem dX2_record_39 : decode cX2_record 39 = .ok (.iconst 1, 1) := by decide +kernel
theorem dX2_record_40 : decode cX2_record 40 = .ok (.iadd, 1) := by decide +kernel
theorem dX2_record_41 : decode cX2_record 41 = .ok (.putfield 17, 3) := by decide +kernel
theorem dX2_record_44 : decode cX2_record 44 = .ok (.return_, 1) := by decide +kernel
set_option maxRecDepth 20000 in
theorem ggX2_record_X2_at : GoodIn wsX2_record wsX2_at := goodIn_r _ [11, 2, 55, 56] (by decide +kernel) (by decide +kernel)
set_option maxRecDepth 20000 in
theorem gX2_record_X2_at : GoodIn wsX2_record (wsV RX2 25 RX2 yX2_at wsX2_at) := goodIn_app (goodIn_of _ (by decide +kernel)) ggX2_record_X2_at
set_option maxRecDepth 20000 in
theorem ggX2_record_X2_dropOldest : GoodIn wsX2_record wsX2_dropOldest := goodIn_r _ [7, 2, 1, 55, 56] (by decide +kernel) (by decide +kernel)
set_option maxRecDepth 20000 in
theorem gX2_record_X2_dropOldest : GoodIn wsX2_record (wsV RX2 22 RX2 yX2_dropOldest wsX2_dropOldest) := goodIn_app (goodIn_of _ (by decide +kernel)) ggX2_record_X2_dropOldest
set_option maxRecDepth 20000 in
theorem ggX2_record_X5_copyFrom : GoodIn wsX2_record wsX5_copyFrom := goodIn_r _ [16, 17, 18, 19, 20, 21, 22, 23, 24, 25, 26, 27, 28, 29, 30, 31, 32, 33, 34, 35, 36, 37, 38, 39, 40, 41, 42, 43, 44, 45, 46, 47, 48, 49, 50, 51, 52, 53, 54, 57, 58, 59, 60, 61, 62, 63, 64, 65, 66, 67, 68, 69, 70, 71, 72, 73, 74] (by decide +kernel) (by decide +kernel)
set_option maxRecDepth 20000 in
theorem gX2_record_X5_copyFrom : GoodIn wsX2_record (wsV RX2 29 RX5 yX5_copyFrom wsX5_copyFrom) := goodIn_app (goodIn_of _ (by decide +kernel)) ggX2_record_X5_copyFrom
theorem iX2_record_2 : ∀ w ∈ u_ws RX2 TX2 2, w ∈ wsX2_record := fun w h => List.mem_cons_of_mem _ (List.mem_append_left _ (List.mem_append_left _ (List.mem_append_left _ (List.mem_append_right _ (h)))))
set_option maxHeartbeats 4000000 in
set_option maxRecDepth 100000 in
theorem w_X2_record_J16 {p : Program} {l : Launch} {e : Env} {s : State} {m : MethodId} {args : Array Value} {below : List Frame} {meth : Method} {c : Code} {E : EE} {g : GG} {ad : Nat → Nat} (hg : gwf g) (X : CallFix p m c cX2_record 3 s args wsX2_record RX2) (K : Kn E s) (hr : meth.sig.returnType = none) (hlk : meth.locks = false) {Q : Mm → Prop} : ∀ (o0 : Nat) (o1 : Nat) (M : Mm) (H : Heap) (locs : List Loc) (ls : Array Slot), gk g o0 = 2 → gk g o1 = 5 → Rw E g ad M s.heap H locs → lv_has ls 3 [(0, .ref (ad o0)), (1, .ref (ad o1))] → p_X2_record_J16 g o0 o1 M Q → W p l e rmX2_record s m args below meth c H locs 0 0 (MQ below (QV E g ad Q) args s 0 0 (Rg g ad)) (F0 m 16 ls []) := by
  intro o0 o1 M H locs ls k_o0 k_o1 w hl h
  unfold p_X2_record_J16 at h
  refine lv_aload_n X.1 X.2.1 dX2_record_16 rfl (lv_at hl 0 rfl) ?_
  refine lv_aload_n X.1 X.2.1 dX2_record_17 rfl (lv_at hl 0 rfl) ?_
  refine r_geti (N := 2) (T := TX2) (kz := 1) X K w iX2_record_2 k_o0 rfl (by decide) 1 (by decide) rfl rfl rfl (List.mem_of_getElem? (i := 1) rfl) dX2_record_18 ?_
  refine q_o (x_V (As := [cI (M o0 1)]) (rest := []) X K w (c_X2_at hg k_o0 h) (cwV 1 X.2.2.2.2 gX2_record_X2_at rfl rfl rfl (by decide +kernel) ⟨Nat.le_of_ble_eq_true rfl, Nat.le_of_ble_eq_true rfl⟩) k_o0 (by decide) rfl rfl hl rfl (Nat.le_of_ble_eq_true rfl) dX2_record_21 ⟨Nat.le_of_ble_eq_true rfl, Nat.le_of_ble_eq_true rfl⟩) w (fun M2 H locs h w => ?_) (fun o3 M2 H locs h k4 w => ?_)
  · replace h := h.1 rfl
    refine lv_astore_nN (lv' := [(2, .null), (0, .ref (ad o0)), (1, .ref (ad o1))]) X.1 X.2.1 dX2_record_24 rfl hl (by decide) rfl (fun ls hl => ?_)
    refine lv_aload_nN X.1 X.2.1 dX2_record_25 rfl (lv_at hl 0 rfl) ?_
    refine lv_ifnullN (tgt := 44) X.1 X.2.1 dX2_record_26 (by decide) ?_
    exact r_return X hr hlk K w h dX2_record_44
  · replace h := h.2 o3 rfl k4
    refine lv_astore_n (lv' := [(2, .ref (ad o3)), (0, .ref (ad o0)), (1, .ref (ad o1))]) X.1 X.2.1 dX2_record_24 rfl hl (by decide) rfl (fun ls hl => ?_)
    refine lv_aload_n X.1 X.2.1 dX2_record_25 rfl (lv_at hl 0 rfl) ?_
    refine lv_ifnull X.1 X.2.1 dX2_record_26 ?_
    refine lv_aload_n X.1 X.2.1 dX2_record_29 rfl (lv_at hl 0 rfl) ?_
    refine lv_aload_n X.1 X.2.1 dX2_record_30 rfl (lv_at hl 2 rfl) ?_
    refine q_v (x_V (As := [.ref (ad o1)]) (rest := []) X K w (c_X5_copyFrom hg k4 k_o1 h) (cwV 1 X.2.2.2.2 gX2_record_X5_copyFrom rfl rfl rfl (by decide +kernel) ⟨Nat.le_of_ble_eq_true rfl, Nat.le_of_ble_eq_true rfl⟩) k4 (by decide) rfl rfl hl rfl (Nat.le_of_ble_eq_true rfl) dX2_record_31 ⟨Nat.le_of_ble_eq_true rfl, Nat.le_of_ble_eq_true rfl⟩) w (fun M5 H locs h w => ?_)
    refine lv_aload_n X.1 X.2.1 dX2_record_34 rfl (lv_at hl 1 rfl) ?_
    refine lv_dup X.1 X.2.1 dX2_record_35 rfl ?_
    refine r_geti (N := 2) (T := TX2) (kz := 1) X K w iX2_record_2 k_o0 rfl (by decide) 1 (by decide) rfl rfl rfl (List.mem_of_getElem? (i := 1) rfl) dX2_record_36 ?_
    refine r_iconst X dX2_record_39 ?_
    refine r_iadd X dX2_record_40 ?_
    refine r_puti (N := 2) (T := TX2) (kz := 1) (ty := .int) X K w iX2_record_2 tyX2 tyX2_ok nmX2 k_o0 rfl (by decide) 1 (by decide) rfl rfl rfl rfl (by decide +kernel) rfl rfl (List.mem_of_getElem? (i := 1) rfl) dX2_record_41 (fun M6 H locs e w => ?_)
    replace h := h M6 e
    exact r_return X hr hlk K w h dX2_record_44
set_option maxHeartbeats 4000000 in
set_option maxRecDepth 100000 in
theorem c_X2_record {E : EE} {l : Launch} {g : GG} {ad : Nat → Nat} (hg : gwf g) {o0 : Nat} {o1 : Nat} {M : Mm} {Q : Mm → Prop} (k_o0 : gk g o0 = 2) (k_o1 : gk g o1 = 5) (h : p_X2_record g o0 o1 M Q) : Ct E l yX2_record wsX2_record rmX2_record g ad [.ref (ad o0), .ref (ad o1)] M (QV E g ad Q) := by
  refine ent (cc := cX2_record) (maxL := 3) (ret := none) (own := RX2) (by decide +kernel) rfl rfl (Nat.le_of_ble_eq_true rfl) ?_
  intro p e s m below meth c ls X hr hlk K w hl
  have hl : lv_has ls 3 [(0, .ref (ad o0)), (1, .ref (ad o1))] := hl
  unfold p_X2_record at h
  refine lv_aload_n X.1 X.2.1 dX2_record_0 rfl (lv_at hl 0 rfl) ?_
  refine r_geti (N := 2) (T := TX2) (kz := 1) X K w iX2_record_2 k_o0 rfl (by decide) 1 (by decide) rfl rfl rfl (List.mem_of_getElem? (i := 1) rfl) dX2_record_1 ?_
  refine lv_aload_n X.1 X.2.1 dX2_record_4 rfl (lv_at hl 0 rfl) ?_
  refine r_getr (N := 2) (T := TX2) X K w iX2_record_2 k_o0 rfl (by decide) 0 (by decide) rfl rfl (List.mem_of_getElem? (i := 2) rfl) dX2_record_5 ?_
  have k1 : gk g (o0 + 1) = 10 := gch hg k_o0 (by decide) 0 (by decide) rfl rfl
  refine r_alenR X K w k1 dX2_record_8 ?_
  obtain ⟨i0, h1, h2⟩ := h
  refine r_icmp_lt (tgt := 16) X i0 (inR_n (hg.2 _)) dX2_record_9 (by decide) (fun cc => ?_) (fun cc => ?_)
  · have h := h1 cc
    exact w_X2_record_J16 hg X K hr hlk o0 o1 M _ _ _ k_o0 k_o1 w (lv_sub hl [0, 1] rfl) h
  · have h := h2 cc
    refine lv_aload_n X.1 X.2.1 dX2_record_12 rfl (lv_at hl 0 rfl) ?_
    refine q_v (x_V (As := []) (rest := []) X K w (c_X2_dropOldest hg k_o0 h) (cwV 0 X.2.2.2.2 gX2_record_X2_dropOldest rfl rfl rfl (by decide +kernel) ⟨Nat.le_of_ble_eq_true rfl, Nat.le_of_ble_eq_true rfl⟩) k_o0 (by decide) rfl rfl hl rfl (Nat.le_of_ble_eq_true rfl) dX2_record_13 ⟨Nat.le_of_ble_eq_true rfl, Nat.le_of_ble_eq_true rfl⟩) w (fun M7 H locs h w => ?_)
    exact w_X2_record_J16 hg X K hr hlk o0 o1 M7 _ _ _ k_o0 k_o1 w (lv_sub hl [0, 1] rfl) h
theorem dX2_moveLatestTo_0 : decode cX2_moveLatestTo 0 = .ok (.aload_n 0, 1) := by decide +kernel
theorem dX2_moveLatestTo_1 : decode cX2_moveLatestTo 1 = .ok (.aload_n 0, 1) := by decide +kernel
theorem dX2_moveLatestTo_2 : decode cX2_moveLatestTo 2 = .ok (.getfield 17, 3) := by decide +kernel
theorem dX2_moveLatestTo_5 : decode cX2_moveLatestTo 5 = .ok (.iconst 1, 1) := by decide +kernel
theorem dX2_moveLatestTo_6 : decode cX2_moveLatestTo 6 = .ok (.isub, 1) := by decide +kernel
theorem dX2_moveLatestTo_7 : decode cX2_moveLatestTo 7 = .ok (.invokevirtual 25, 3) := by decide +kernel
theorem dX2_moveLatestTo_10 : decode cX2_moveLatestTo 10 = .ok (.astore_n 2, 1) := by decide +kernel
theorem dX2_moveLatestTo_11 : decode cX2_moveLatestTo 11 = .ok (.aload_n 2, 1) := by decide +kernel
theorem dX2_moveLatestTo_12 : decode cX2_moveLatestTo 12 = .ok (.ifnull 18, 3) := by decide +kernel
theorem dX2_moveLatestTo_15 : decode cX2_moveLatestTo 15 = .ok (.aload_n 1, 1) := by decide +kernel
theorem dX2_moveLatestTo_16 : decode cX2_moveLatestTo 16 = .ok (.aload_n 2, 1) := by decide +kernel
theorem dX2_moveLatestTo_17 : decode cX2_moveLatestTo 17 = .ok (.invokevirtual 29, 3) := by decide +kernel
theorem dX2_moveLatestTo_20 : decode cX2_moveLatestTo 20 = .ok (.aload_n 0, 1) := by decide +kernel
theorem dX2_moveLatestTo_21 : decode cX2_moveLatestTo 21 = .ok (.dup, 1) := by decide +kernel
theorem dX2_moveLatestTo_22 : decode cX2_moveLatestTo 22 = .ok (.getfield 17, 3) := by decide +kernel
theorem dX2_moveLatestTo_25 : decode cX2_moveLatestTo 25 = .ok (.iconst 1, 1) := by decide +kernel
theorem dX2_moveLatestTo_26 : decode cX2_moveLatestTo 26 = .ok (.isub, 1) := by decide +kernel
theorem dX2_moveLatestTo_27 : decode cX2_moveLatestTo 27 = .ok (.putfield 17, 3) := by decide +kernel
theorem dX2_moveLatestTo_30 : decode cX2_moveLatestTo 30 = .ok (.return_, 1) := by decide +kernel
set_option maxRecDepth 20000 in
theorem ggX2_moveLatestTo_X2_at : GoodIn wsX2_moveLatestTo wsX2_at := goodIn_r _ [6, 7, 51, 52] (by decide +kernel) (by decide +kernel)
set_option maxRecDepth 20000 in
theorem gX2_moveLatestTo_X2_at : GoodIn wsX2_moveLatestTo (wsV RX2 25 RX2 yX2_at wsX2_at) := goodIn_app (goodIn_of _ (by decide +kernel)) ggX2_moveLatestTo_X2_at
set_option maxRecDepth 20000 in
theorem ggX2_moveLatestTo_X5_copyFrom : GoodIn wsX2_moveLatestTo wsX5_copyFrom := goodIn_r _ [12, 13, 14, 15, 16, 17, 18, 19, 20, 21, 22, 23, 24, 25, 26, 27, 28, 29, 30, 31, 32, 33, 34, 35, 36, 37, 38, 39, 40, 41, 42, 43, 44, 45, 46, 47, 48, 49, 50, 53, 54, 55, 56, 57, 58, 59, 60, 61, 62, 63, 64, 65, 66, 67, 68, 69, 70] (by decide +kernel) (by decide +kernel)
set_option maxRecDepth 20000 in
theorem gX2_moveLatestTo_X5_copyFrom : GoodIn wsX2_moveLatestTo (wsV RX2 29 RX5 yX5_copyFrom wsX5_copyFrom) := goodIn_app (goodIn_of _ (by decide +kernel)) ggX2_moveLatestTo_X5_copyFrom
theorem iX2_moveLatestTo_2 : ∀ w ∈ u_ws RX2 TX2 2, w ∈ wsX2_moveLatestTo := fun w h => List.mem_cons_of_mem _ (List.mem_append_left _ (List.mem_append_left _ (List.mem_append_left _ (List.mem_append_right _ (h)))))
set_option maxHeartbeats 4000000 in
set_option maxRecDepth 100000 in
theorem c_X2_moveLatestTo {E : EE} {l : Launch} {g : GG} {ad : Nat → Nat} (hg : gwf g) {o0 : Nat} {o1 : Nat} {M : Mm} {Q : Mm → Prop} (k_o0 : gk g o0 = 2) (k_o1 : gk g o1 = 5) (h : p_X2_moveLatestTo g o0 o1 M Q) : Ct E l yX2_moveLatestTo wsX2_moveLatestTo rmX2_moveLatestTo g ad [.ref (ad o0), .ref (ad o1)] M (QV E g ad Q) := by
  refine ent (cc := cX2_moveLatestTo) (maxL := 3) (ret := none) (own := RX2) (by decide +kernel) rfl rfl (Nat.le_of_ble_eq_true rfl) ?_
  intro p e s m below meth c ls X hr hlk K w hl
  have hl : lv_has ls 3 [(0, .ref (ad o0)), (1, .ref (ad o1))] := hl
  unfold p_X2_moveLatestTo at h
  refine lv_aload_n X.1 X.2.1 dX2_moveLatestTo_0 rfl (lv_at hl 0 rfl) ?_
  refine lv_aload_n X.1 X.2.1 dX2_moveLatestTo_1 rfl (lv_at hl 0 rfl) ?_
  refine r_geti (N := 2) (T := TX2) (kz := 1) X K w iX2_moveLatestTo_2 k_o0 rfl (by decide) 1 (by decide) rfl rfl rfl (List.mem_of_getElem? (i := 1) rfl) dX2_moveLatestTo_2 ?_
  refine r_iconst X dX2_moveLatestTo_5 ?_
  refine r_isub X dX2_moveLatestTo_6 ?_
  refine q_o (x_V (As := [cI ((M o0 1) - 1)]) (rest := []) X K w (c_X2_at hg k_o0 h) (cwV 1 X.2.2.2.2 gX2_moveLatestTo_X2_at rfl rfl rfl (by decide +kernel) ⟨Nat.le_of_ble_eq_true rfl, Nat.le_of_ble_eq_true rfl⟩) k_o0 (by decide) rfl rfl hl rfl (Nat.le_of_ble_eq_true rfl) dX2_moveLatestTo_7 ⟨Nat.le_of_ble_eq_true rfl, Nat.le_of_ble_eq_true rfl⟩) w (fun M1 H locs h w => ?_) (fun o2 M1 H locs h k3 w => ?_)
  · replace h := h.1 rfl
    refine lv_astore_nN (lv' := [(2, .null), (0, .ref (ad o0)), (1, .ref (ad o1))]) X.1 X.2.1 dX2_moveLatestTo_10 rfl hl (by decide) rfl (fun ls hl => ?_)
    refine lv_aload_nN X.1 X.2.1 dX2_moveLatestTo_11 rfl (lv_at hl 0 rfl) ?_
    refine lv_ifnullN (tgt := 30) X.1 X.2.1 dX2_moveLatestTo_12 (by decide) ?_
    exact r_return X hr hlk K w h dX2_moveLatestTo_30
  · replace h := h.2 o2 rfl k3
    refine lv_astore_n (lv' := [(2, .ref (ad o2)), (0, .ref (ad o0)), (1, .ref (ad o1))]) X.1 X.2.1 dX2_moveLatestTo_10 rfl hl (by decide) rfl (fun ls hl => ?_)
    refine lv_aload_n X.1 X.2.1 dX2_moveLatestTo_11 rfl (lv_at hl 0 rfl) ?_
    refine lv_ifnull X.1 X.2.1 dX2_moveLatestTo_12 ?_
    refine lv_aload_n X.1 X.2.1 dX2_moveLatestTo_15 rfl (lv_at hl 2 rfl) ?_
    refine lv_aload_n X.1 X.2.1 dX2_moveLatestTo_16 rfl (lv_at hl 0 rfl) ?_
    refine q_v (x_V (As := [.ref (ad o2)]) (rest := []) X K w (c_X5_copyFrom hg k_o1 k3 h) (cwV 1 X.2.2.2.2 gX2_moveLatestTo_X5_copyFrom rfl rfl rfl (by decide +kernel) ⟨Nat.le_of_ble_eq_true rfl, Nat.le_of_ble_eq_true rfl⟩) k_o1 (by decide) rfl rfl hl rfl (Nat.le_of_ble_eq_true rfl) dX2_moveLatestTo_17 ⟨Nat.le_of_ble_eq_true rfl, Nat.le_of_ble_eq_true rfl⟩) w (fun M4 H locs h w => ?_)
    refine lv_aload_n X.1 X.2.1 dX2_moveLatestTo_20 rfl (lv_at hl 1 rfl) ?_
    refine lv_dup X.1 X.2.1 dX2_moveLatestTo_21 rfl ?_
    refine r_geti (N := 2) (T := TX2) (kz := 1) X K w iX2_moveLatestTo_2 k_o0 rfl (by decide) 1 (by decide) rfl rfl rfl (List.mem_of_getElem? (i := 1) rfl) dX2_moveLatestTo_22 ?_
    refine r_iconst X dX2_moveLatestTo_25 ?_
    refine r_isub X dX2_moveLatestTo_26 ?_
    refine r_puti (N := 2) (T := TX2) (kz := 1) (ty := .int) X K w iX2_moveLatestTo_2 tyX2 tyX2_ok nmX2 k_o0 rfl (by decide) 1 (by decide) rfl rfl rfl rfl (by decide +kernel) rfl rfl (List.mem_of_getElem? (i := 1) rfl) dX2_moveLatestTo_27 (fun M5 H locs e w => ?_)
    replace h := h M5 e
    exact r_return X hr hlk K w h dX2_moveLatestTo_30
theorem dX3_begin_0 : decode cX3_begin 0 = .ok (.aload_n 0, 1) := by decide +kernel
theorem dX3_begin_1 : decode cX3_begin 1 = .ok (.iload_n 2, 1) := by decide +kernel
theorem dX3_begin_2 : decode cX3_begin 2 = .ok (.putfield 53, 3) := by decide +kernel
theorem dX3_begin_5 : decode cX3_begin 5 = .ok (.aload_n 0, 1) := by decide +kernel
theorem dX3_begin_6 : decode cX3_begin 6 = .ok (.getfield 14, 3) := by decide +kernel
theorem dX3_begin_9 : decode cX3_begin 9 = .ok (.aload_n 1, 1) := by decide +kernel
theorem dX3_begin_10 : decode cX3_begin 10 = .ok (.getfield 63, 3) := by decide +kernel
theorem dX3_begin_13 : decode cX3_begin 13 = .ok (.invokevirtual 66, 3) := by decide +kernel
theorem dX3_begin_16 : decode cX3_begin 16 = .ok (.iconst 0, 1) := by decide +kernel
theorem dX3_begin_17 : decode cX3_begin 17 = .ok (.istore_n 3, 1) := by decide +kernel
theorem dX3_begin_18 : decode cX3_begin 18 = .ok (.iload_n 3, 1) := by decide +kernel
theorem dX3_begin_19 : decode cX3_begin 19 = .ok (.iconst 4, 1) := by decide +kernel
theorem dX3_begin_20 : decode cX3_begin 20 = .ok (.if_icmp .ge 49, 3) := by decide +kernel
theorem dX3_begin_23 : decode cX3_begin 23 = .ok (.iload_n 3, 1) := by decide +kernel
theorem dX3_begin_24 : decode cX3_begin 24 = .ok (.aload_n 1, 1) := by decide +kernel
theorem dX3_begin_25 : decode cX3_begin 25 = .ok (.getfield 70, 3) := by decide +kernel
theorem dX3_begin_28 : decode cX3_begin 28 = .ok (.if_icmp .lt 7, 3) := by decide +kernel
theorem dX3_begin_31 : decode cX3_begin 31 = .ok (.iconst 1, 1) := by decide +kernel
theorem dX3_begin_32 : decode cX3_begin 32 = .ok (.goto 4, 3) := by decide +kernel
theorem dX3_begin_35 : decode cX3_begin 35 = .ok (.iconst 0, 1) := by decide +kernel
theorem dX3_begin_36 : decode cX3_begin 36 = .ok (.istore 4, 2) := by decide +kernel
theorem dX3_begin_38 : decode cX3_begin 38 = .ok (.aload_n 0, 1) := by decide +kernel
theorem dX3_begin_39 : decode cX3_begin 39 = .ok (.getfield 26, 3) := by decide +kernel
theorem dX3_begin_42 : decode cX3_begin 42 = .ok (.iload_n 3, 1) := by decide +kernel
theorem dX3_begin_43 : decode cX3_begin 43 = .ok (.iload 4, 2) := by decide +kernel
theorem dX3_begin_45 : decode cX3_begin 45 = .ok (.ifCond .eq 7, 3) := by decide +kernel
theorem dX3_begin_48 : decode cX3_begin 48 = .ok (.iload_n 3, 1) := by decide +kernel
theorem dX3_begin_49 : decode cX3_begin 49 = .ok (.goto 11, 3) := by decide +kernel
theorem dX3_begin_52 : decode cX3_begin 52 = .ok (.aload_n 1, 1) := by decide +kernel
theorem dX3_begin_53 : decode cX3_begin 53 = .ok (.getfield 71, 3) := by decide +kernel
theorem dX3_begin_56 : decode cX3_begin 56 = .ok (.iload_n 3, 1) := by decide +kernel
theorem dX3_begin_57 : decode cX3_begin 57 = .ok (.invokevirtual 72, 3) := by decide +kernel
theorem dX3_begin_60 : decode cX3_begin 60 = .ok (.invokevirtual 76, 3) := by decide +kernel
theorem dX3_begin_63 : decode cX3_begin 63 = .ok (.iinc 3 1, 3) := by decide +kernel
theorem dX3_begin_66 : decode cX3_begin 66 = .ok (.goto (-48), 3) := by decide +kernel
theorem dX3_begin_69 : decode cX3_begin 69 = .ok (.return_, 1) := by decide +kernel
set_option maxRecDepth 20000 in
theorem ggX3_begin_X4_copyFrom : GoodIn wsX3_begin wsX4_copyFrom := goodIn_r _ [8, 9, 10, 11, 12, 13, 14, 15, 16, 17, 52] (by decide +kernel) (by decide +kernel)
set_option maxRecDepth 20000 in
theorem gX3_begin_X4_copyFrom : GoodIn wsX3_begin (wsV RX3 66 RX4 yX4_copyFrom wsX4_copyFrom) := goodIn_app (goodIn_of _ (by decide +kernel)) ggX3_begin_X4_copyFrom
set_option maxRecDepth 20000 in
theorem ggX3_begin_X4_get : GoodIn wsX3_begin wsX4_get := goodIn_r _ [21, 9, 52] (by decide +kernel) (by decide +kernel)
set_option maxRecDepth 20000 in
theorem gX3_begin_X4_get : GoodIn wsX3_begin (wsV RX3 72 RX4 yX4_get wsX4_get) := goodIn_app (goodIn_of _ (by decide +kernel)) ggX3_begin_X4_get
set_option maxRecDepth 20000 in
theorem ggX3_begin_X4_put : GoodIn wsX3_begin wsX4_put := goodIn_r _ [25, 9, 52] (by decide +kernel) (by decide +kernel)
set_option maxRecDepth 20000 in
theorem gX3_begin_X4_put : GoodIn wsX3_begin (wsV RX3 76 RX4 yX4_put wsX4_put) := goodIn_app (goodIn_of _ (by decide +kernel)) ggX3_begin_X4_put
theorem iX3_begin_3 : ∀ w ∈ u_ws RX3 TX3 15, w ∈ wsX3_begin := fun w h => List.mem_cons_of_mem _ (List.mem_append_left _ (List.mem_append_left _ (List.mem_append_right _ (h))))
theorem iX3_begin_5 : ∀ w ∈ u_ws RX5 TX5 11, w ∈ wsX3_begin := fun w h => List.mem_cons_of_mem _ (List.mem_append_left _ (List.mem_append_right _ (h)))
set_option maxHeartbeats 4000000 in
set_option maxRecDepth 100000 in
theorem w_X3_begin_L18 {p : Program} {l : Launch} {e : Env} {s : State} {m : MethodId} {args : Array Value} {below : List Frame} {meth : Method} {c : Code} {E : EE} {g : GG} {ad : Nat → Nat} (hg : gwf g) (X : CallFix p m c cX3_begin 5 s args wsX3_begin RX3) (K : Kn E s) (hr : meth.sig.returnType = none) (hlk : meth.locks = false) {Q : Mm → Prop} : ∀ (n : Nat) (o0 : Nat) (o1 : Nat) (x3 : Int) (M : Mm) (H : Heap) (locs : List Loc) (ls : Array Slot), gk g o0 = 3 → gk g o1 = 5 → Rw E g ad M s.heap H locs → lv_has ls 5 [(0, .ref (ad o0)), (1, .ref (ad o1)), (3, cI x3)] → p_X3_begin_L18 g n o0 o1 x3 M Q → W p l e rmX3_begin s m args below meth c H locs 0 0 (MQ below (QV E g ad Q) args s 0 0 (Rg g ad)) (F0 m 18 ls []) := by
  intro n
  induction n with
  | zero =>
    intro o0 o1 x3 M H locs ls k_o0 k_o1 w hl h
    exact absurd h (by unfold p_X3_begin_L18; exact id)
  | succ n ih =>
    intro o0 o1 x3 M H locs ls k_o0 k_o1 w hl h
    unfold p_X3_begin_L18 at h
    refine lv_iload_n X.1 X.2.1 dX3_begin_18 rfl (lv_at hl 2 rfl) ?_
    refine r_iconst X dX3_begin_19 ?_
    obtain ⟨i0, h1, h2⟩ := h
    refine r_icmp_ge (tgt := 69) X i0 ⟨by decide, by decide⟩ dX3_begin_20 (by decide) (fun cc => ?_) (fun cc => ?_)
    · have h := h1 cc
      exact r_return X hr hlk K w h dX3_begin_69
    · have h := h2 cc
      refine lv_iload_n X.1 X.2.1 dX3_begin_23 rfl (lv_at hl 2 rfl) ?_
      refine lv_aload_n X.1 X.2.1 dX3_begin_24 rfl (lv_at hl 1 rfl) ?_
      refine r_getiN (N := 11) (T := TX5) (kz := 5) X K w iX3_begin_5 k_o1 rfl (by decide) 5 (by decide) rfl rfl rfl (List.mem_of_getElem? (i := 17) rfl) dX3_begin_25 ?_
      obtain ⟨i0, i1, h1, h2⟩ := h
      refine r_icmp_lt (tgt := 35) X i0 i1 dX3_begin_28 (by decide) (fun cc => ?_) (fun cc => ?_)
      · have h := h1 cc
        refine r_iconst X dX3_begin_35 ?_
        refine lv_istore (lv' := [(4, cI 0), (0, .ref (ad o0)), (1, .ref (ad o1)), (3, cI x3)]) X.1 X.2.1 dX3_begin_36 hl (by decide) rfl (fun ls hl => ?_)
        refine lv_aload_n X.1 X.2.1 dX3_begin_38 rfl (lv_at hl 1 rfl) ?_
        refine r_getr (N := 15) (T := TX3) X K w iX3_begin_3 k_o0 rfl (by decide) 3 (by decide) rfl rfl (List.mem_of_getElem? (i := 3) rfl) dX3_begin_39 ?_
        have k5 : gk g (o0 + 7) = 4 := gch hg k_o0 (by decide) 3 (by decide) rfl rfl
        refine lv_iload_n X.1 X.2.1 dX3_begin_42 rfl (lv_at hl 3 rfl) ?_
        refine lv_iload X.1 X.2.1 dX3_begin_43 (lv_at hl 0 rfl) ?_
        refine r_if_eq (tgt := 52) X ⟨by decide, by decide⟩ dX3_begin_45 (by decide) (fun cc => ?_) (fun cc => absurd cc (by decide))
        refine lv_aload_n X.1 X.2.1 dX3_begin_52 rfl (lv_at hl 2 rfl) ?_
        refine r_getrN (N := 11) (T := TX5) X K w iX3_begin_5 k_o1 rfl (by decide) 3 (by decide) rfl rfl (List.mem_of_getElem? (i := 13) rfl) dX3_begin_53 ?_
        have k6 : gk g (o1 + 7) = 4 := gch hg k_o1 (by decide) 3 (by decide) rfl rfl
        refine lv_iload_n X.1 X.2.1 dX3_begin_56 rfl (lv_at hl 3 rfl) ?_
        refine q_i (x_V (As := [cI x3]) (rest := [cI x3, .ref (ad (o0 + 7))]) X K w (c_X4_get hg k6 h) (cwV 1 X.2.2.2.2 gX3_begin_X4_get rfl rfl rfl (by decide +kernel) ⟨Nat.le_of_ble_eq_true rfl, Nat.le_of_ble_eq_true rfl⟩) k6 (by decide) rfl rfl hl rfl (Nat.le_of_ble_eq_true rfl) dX3_begin_57 ⟨Nat.le_of_ble_eq_true rfl, Nat.le_of_ble_eq_true rfl⟩) w (fun r8 M7 H locs h w => ?_)
        refine q_v (x_V (As := [cI x3, cI r8]) (rest := []) X K w (c_X4_put hg k5 h) (cwV 2 X.2.2.2.2 gX3_begin_X4_put rfl rfl rfl (by decide +kernel) ⟨Nat.le_of_ble_eq_true rfl, Nat.le_of_ble_eq_true rfl⟩) k5 (by decide) rfl rfl hl rfl (Nat.le_of_ble_eq_true rfl) dX3_begin_60 ⟨Nat.le_of_ble_eq_true rfl, Nat.le_of_ble_eq_true rfl⟩) w (fun M9 H locs h w => ?_)
        refine r_iinc (lv' := [(3, cI (x3 + 1)), (4, cI 0), (0, .ref (ad o0)), (1, .ref (ad o1))]) X hl (k := 3) rfl (by decide) dX3_begin_63 rfl (fun ls hl => ?_)
        refine lv_goto (tgt := 18) X.1 X.2.1 dX3_begin_66 (by decide) ?_
        exact ih o0 o1 (x3 + 1) M9 _ _ _ k_o0 k_o1 w (lv_sub hl [2, 3, 0] rfl) h
      · have h := h2 cc
        refine r_iconst X dX3_begin_31 ?_
        refine lv_goto (tgt := 36) X.1 X.2.1 dX3_begin_32 (by decide) ?_
        refine lv_istore (lv' := [(4, cI 1), (0, .ref (ad o0)), (1, .ref (ad o1)), (3, cI x3)]) X.1 X.2.1 dX3_begin_36 hl (by decide) rfl (fun ls hl => ?_)
        refine lv_aload_n X.1 X.2.1 dX3_begin_38 rfl (lv_at hl 1 rfl) ?_
        refine r_getr (N := 15) (T := TX3) X K w iX3_begin_3 k_o0 rfl (by decide) 3 (by decide) rfl rfl (List.mem_of_getElem? (i := 3) rfl) dX3_begin_39 ?_
        have k10 : gk g (o0 + 7) = 4 := gch hg k_o0 (by decide) 3 (by decide) rfl rfl
        refine lv_iload_n X.1 X.2.1 dX3_begin_42 rfl (lv_at hl 3 rfl) ?_
        refine lv_iload X.1 X.2.1 dX3_begin_43 (lv_at hl 0 rfl) ?_
        refine r_if_eq (tgt := 52) X ⟨by decide, by decide⟩ dX3_begin_45 (by decide) (fun cc => absurd cc (by decide)) (fun cc => ?_)
        refine lv_iload_n X.1 X.2.1 dX3_begin_48 rfl (lv_at hl 3 rfl) ?_
        refine lv_goto (tgt := 60) X.1 X.2.1 dX3_begin_49 (by decide) ?_
        refine q_v (x_V (As := [cI x3, cI x3]) (rest := []) X K w (c_X4_put hg k10 h) (cwV 2 X.2.2.2.2 gX3_begin_X4_put rfl rfl rfl (by decide +kernel) ⟨Nat.le_of_ble_eq_true rfl, Nat.le_of_ble_eq_true rfl⟩) k10 (by decide) rfl rfl hl rfl (Nat.le_of_ble_eq_true rfl) dX3_begin_60 ⟨Nat.le_of_ble_eq_true rfl, Nat.le_of_ble_eq_true rfl⟩) w (fun M11 H locs h w => ?_)
        refine r_iinc (lv' := [(3, cI (x3 + 1)), (4, cI 1), (0, .ref (ad o0)), (1, .ref (ad o1))]) X hl (k := 3) rfl (by decide) dX3_begin_63 rfl (fun ls hl => ?_)
        refine lv_goto (tgt := 18) X.1 X.2.1 dX3_begin_66 (by decide) ?_
        exact ih o0 o1 (x3 + 1) M11 _ _ _ k_o0 k_o1 w (lv_sub hl [2, 3, 0] rfl) h
set_option maxHeartbeats 4000000 in
set_option maxRecDepth 100000 in
theorem c_X3_begin {E : EE} {l : Launch} {g : GG} {ad : Nat → Nat} (hg : gwf g) {o0 : Nat} {o1 : Nat} {x2 : Int} {M : Mm} {Q : Mm → Prop} (k_o0 : gk g o0 = 3) (k_o1 : gk g o1 = 5) (h : p_X3_begin g o0 o1 x2 M Q) : Ct E l yX3_begin wsX3_begin rmX3_begin g ad [.ref (ad o0), .ref (ad o1), cI x2] M (QV E g ad Q) := by
  refine ent (cc := cX3_begin) (maxL := 5) (ret := none) (own := RX3) (by decide +kernel) rfl rfl (Nat.le_of_ble_eq_true rfl) ?_
  intro p e s m below meth c ls X hr hlk K w hl
  have hl : lv_has ls 5 [(0, .ref (ad o0)), (1, .ref (ad o1)), (2, cI x2)] := hl
  unfold p_X3_begin at h
  refine lv_aload_n X.1 X.2.1 dX3_begin_0 rfl (lv_at hl 0 rfl) ?_
  refine lv_iload_n X.1 X.2.1 dX3_begin_1 rfl (lv_at hl 2 rfl) ?_
  refine r_puti (N := 15) (T := TX3) (kz := 12) (ty := .int) X K w iX3_begin_3 tyX3 tyX3_ok nmX3 k_o0 rfl (by decide) 12 (by decide) rfl rfl rfl rfl (by decide +kernel) rfl rfl (List.mem_of_getElem? (i := 1) rfl) dX3_begin_2 (fun M1 H locs e w => ?_)
  replace h := h M1 e
  refine lv_aload_n X.1 X.2.1 dX3_begin_5 rfl (lv_at hl 0 rfl) ?_
  refine r_getr (N := 15) (T := TX3) X K w iX3_begin_3 k_o0 rfl (by decide) 0 (by decide) rfl rfl (List.mem_of_getElem? (i := 2) rfl) dX3_begin_6 ?_
  have k2 : gk g (o0 + 1) = 4 := gch hg k_o0 (by decide) 0 (by decide) rfl rfl
  refine lv_aload_n X.1 X.2.1 dX3_begin_9 rfl (lv_at hl 1 rfl) ?_
  refine r_getrN (N := 11) (T := TX5) X K w iX3_begin_5 k_o1 rfl (by decide) 1 (by decide) rfl rfl (List.mem_of_getElem? (i := 10) rfl) dX3_begin_10 ?_
  have k3 : gk g (o1 + 3) = 4 := gch hg k_o1 (by decide) 1 (by decide) rfl rfl
  refine q_v (x_V (As := [.ref (ad (o1 + 3))]) (rest := []) X K w (c_X4_copyFrom hg k2 k3 h) (cwV 1 X.2.2.2.2 gX3_begin_X4_copyFrom rfl rfl rfl (by decide +kernel) ⟨Nat.le_of_ble_eq_true rfl, Nat.le_of_ble_eq_true rfl⟩) k2 (by decide) rfl rfl hl rfl (Nat.le_of_ble_eq_true rfl) dX3_begin_13 ⟨Nat.le_of_ble_eq_true rfl, Nat.le_of_ble_eq_true rfl⟩) w (fun M4 H locs h w => ?_)
  refine r_iconst X dX3_begin_16 ?_
  refine lv_istore_n (lv' := [(3, cI 0), (0, .ref (ad o0)), (1, .ref (ad o1)), (2, cI x2)]) X.1 X.2.1 dX3_begin_17 rfl hl (by decide) rfl (fun ls hl => ?_)
  obtain ⟨n12, h⟩ := h
  exact w_X3_begin_L18 hg X K hr hlk n12 o0 o1 0 M4 _ _ _ k_o0 k_o1 w (lv_sub hl [1, 2, 0] rfl) h
theorem dX4_fill_0 : decode cX4_fill 0 = .ok (.iconst 0, 1) := by decide +kernel
theorem dX4_fill_1 : decode cX4_fill 1 = .ok (.istore_n 2, 1) := by decide +kernel
theorem dX4_fill_2 : decode cX4_fill 2 = .ok (.iload_n 2, 1) := by decide +kernel
theorem dX4_fill_3 : decode cX4_fill 3 = .ok (.aload_n 0, 1) := by decide +kernel
theorem dX4_fill_4 : decode cX4_fill 4 = .ok (.getfield 13, 3) := by decide +kernel
theorem dX4_fill_7 : decode cX4_fill 7 = .ok (.arraylength, 1) := by decide +kernel
theorem dX4_fill_8 : decode cX4_fill 8 = .ok (.if_icmp .ge 16, 3) := by decide +kernel
theorem dX4_fill_11 : decode cX4_fill 11 = .ok (.aload_n 0, 1) := by decide +kernel
theorem dX4_fill_12 : decode cX4_fill 12 = .ok (.getfield 13, 3) := by decide +kernel
theorem dX4_fill_15 : decode cX4_fill 15 = .ok (.iload_n 2, 1) := by decide +kernel
theorem dX4_fill_16 : decode cX4_fill 16 = .ok (.iload_n 1, 1) := by decide +kernel
theorem dX4_fill_17 : decode cX4_fill 17 = .ok (.iastore, 1) := by decide +kernel
theorem dX4_fill_18 : decode cX4_fill 18 = .ok (.iinc 2 1, 3) := by decide +kernel
theorem dX4_fill_21 : decode cX4_fill 21 = .ok (.goto (-19), 3) := by decide +kernel
theorem dX4_fill_24 : decode cX4_fill 24 = .ok (.return_, 1) := by decide +kernel
theorem iX4_fill_4 : ∀ w ∈ u_ws RX4 TX4 1, w ∈ wsX4_fill := fun w h => List.mem_cons_of_mem _ (List.mem_append_right _ (h))
set_option maxHeartbeats 4000000 in
set_option maxRecDepth 100000 in
theorem w_X4_fill_L2 {p : Program} {l : Launch} {e : Env} {s : State} {m : MethodId} {args : Array Value} {below : List Frame} {meth : Method} {c : Code} {E : EE} {g : GG} {ad : Nat → Nat} (hg : gwf g) (X : CallFix p m c cX4_fill 3 s args wsX4_fill RX4) (K : Kn E s) (hr : meth.sig.returnType = none) (hlk : meth.locks = false) {Q : Mm → Prop} : ∀ (n : Nat) (o0 : Nat) (x1 : Int) (x2 : Int) (M : Mm) (H : Heap) (locs : List Loc) (ls : Array Slot), gk g o0 = 4 → Rw E g ad M s.heap H locs → lv_has ls 3 [(0, .ref (ad o0)), (1, cI x1), (2, cI x2)] → p_X4_fill_L2 g n o0 x1 x2 M Q → W p l e rmX4_fill s m args below meth c H locs 0 0 (MQ below (QV E g ad Q) args s 0 0 (Rg g ad)) (F0 m 2 ls []) := by
  intro n
  induction n with
  | zero =>
    intro o0 x1 x2 M H locs ls k_o0 w hl h
    exact absurd h (by unfold p_X4_fill_L2; exact id)
  | succ n ih =>
    intro o0 x1 x2 M H locs ls k_o0 w hl h
    unfold p_X4_fill_L2 at h
    refine lv_iload_n X.1 X.2.1 dX4_fill_2 rfl (lv_at hl 2 rfl) ?_
    refine lv_aload_n X.1 X.2.1 dX4_fill_3 rfl (lv_at hl 0 rfl) ?_
    refine r_getr (N := 1) (T := TX4) X K w iX4_fill_4 k_o0 rfl (by decide) 0 (by decide) rfl rfl (List.mem_of_getElem? (i := 1) rfl) dX4_fill_4 ?_
    have k1 : gk g (o0 + 1) = 9 := gch hg k_o0 (by decide) 0 (by decide) rfl rfl
    refine r_alen X K w k1 dX4_fill_7 ?_
    obtain ⟨i0, h1, h2⟩ := h
    refine r_icmp_ge (tgt := 24) X i0 (inR_n (hg.2 _)) dX4_fill_8 (by decide) (fun cc => ?_) (fun cc => ?_)
    · have h := h1 cc
      exact r_return X hr hlk K w h dX4_fill_24
    · have h := h2 cc
      refine lv_aload_n X.1 X.2.1 dX4_fill_11 rfl (lv_at hl 0 rfl) ?_
      refine r_getr (N := 1) (T := TX4) X K w iX4_fill_4 k_o0 rfl (by decide) 0 (by decide) rfl rfl (List.mem_of_getElem? (i := 1) rfl) dX4_fill_12 ?_
      have k2 : gk g (o0 + 1) = 9 := gch hg k_o0 (by decide) 0 (by decide) rfl rfl
      refine lv_iload_n X.1 X.2.1 dX4_fill_15 rfl (lv_at hl 2 rfl) ?_
      refine lv_iload_n X.1 X.2.1 dX4_fill_16 rfl (lv_at hl 1 rfl) ?_
      obtain ⟨b0, b1, h⟩ := h
      refine r_iast X K w hg k2 b0 b1 dX4_fill_17 (fun M3 H locs e w => ?_)
      replace h := h M3 e
      refine r_iinc (lv' := [(2, cI (x2 + 1)), (0, .ref (ad o0)), (1, cI x1)]) X hl (k := 2) rfl (by decide) dX4_fill_18 rfl (fun ls hl => ?_)
      refine lv_goto (tgt := 2) X.1 X.2.1 dX4_fill_21 (by decide) ?_
      exact ih o0 x1 (x2 + 1) M3 _ _ _ k_o0 w (lv_sub hl [1, 2, 0] rfl) h
set_option maxHeartbeats 4000000 in
set_option maxRecDepth 100000 in
theorem c_X4_fill {E : EE} {l : Launch} {g : GG} {ad : Nat → Nat} (hg : gwf g) {o0 : Nat} {x1 : Int} {M : Mm} {Q : Mm → Prop} (k_o0 : gk g o0 = 4) (h : p_X4_fill g o0 x1 M Q) : Ct E l yX4_fill wsX4_fill rmX4_fill g ad [.ref (ad o0), cI x1] M (QV E g ad Q) := by
  refine ent (cc := cX4_fill) (maxL := 3) (ret := none) (own := RX4) (by decide +kernel) rfl rfl (Nat.le_of_ble_eq_true rfl) ?_
  intro p e s m below meth c ls X hr hlk K w hl
  have hl : lv_has ls 3 [(0, .ref (ad o0)), (1, cI x1)] := hl
  unfold p_X4_fill at h
  refine r_iconst X dX4_fill_0 ?_
  refine lv_istore_n (lv' := [(2, cI 0), (0, .ref (ad o0)), (1, cI x1)]) X.1 X.2.1 dX4_fill_1 rfl hl (by decide) rfl (fun ls hl => ?_)
  obtain ⟨n4, h⟩ := h
  exact w_X4_fill_L2 hg X K hr hlk n4 o0 x1 0 M _ _ _ k_o0 w (lv_sub hl [1, 2, 0] rfl) h
theorem dX3_wayTo_0 : decode cX3_wayTo 0 = .ok (.iload_n 1, 1) := by decide +kernel
theorem dX3_wayTo_1 : decode cX3_wayTo 1 = .ok (.aload_n 0, 1) := by decide +kernel
theorem dX3_wayTo_2 : decode cX3_wayTo 2 = .ok (.getfield 26, 3) := by decide +kernel
theorem dX3_wayTo_5 : decode cX3_wayTo 5 = .ok (.iload_n 2, 1) := by decide +kernel
theorem dX3_wayTo_6 : decode cX3_wayTo 6 = .ok (.invokevirtual 72, 3) := by decide +kernel
theorem dX3_wayTo_9 : decode cX3_wayTo 9 = .ok (.isub, 1) := by decide +kernel
theorem dX3_wayTo_10 : decode cX3_wayTo 10 = .ok (.invokestatic 133, 3) := by decide +kernel
theorem dX3_wayTo_13 : decode cX3_wayTo 13 = .ok (.ireturn, 1) := by decide +kernel
set_option maxRecDepth 20000 in
theorem ggX3_wayTo_X4_get : GoodIn wsX3_wayTo wsX4_get := goodIn_r _ [10, 11, 27] (by decide +kernel) (by decide +kernel)
set_option maxRecDepth 20000 in
theorem gX3_wayTo_X4_get : GoodIn wsX3_wayTo (wsV RX3 72 RX4 yX4_get wsX4_get) := goodIn_app (goodIn_of _ (by decide +kernel)) ggX3_wayTo_X4_get
theorem iX3_wayTo_3 : ∀ w ∈ u_ws RX3 TX3 15, w ∈ wsX3_wayTo := fun w h => List.mem_cons_of_mem _ (List.mem_append_left _ (List.mem_append_right _ (h)))
set_option maxHeartbeats 4000000 in
set_option maxRecDepth 100000 in
theorem c_X3_wayTo {E : EE} {l : Launch} {g : GG} {ad : Nat → Nat} (hg : gwf g) {o0 : Nat} {x1 : Int} {x2 : Int} {M : Mm} {Q : Int → Mm → Prop} (k_o0 : gk g o0 = 3) (h : p_X3_wayTo g o0 x1 x2 M Q) : Ct E l yX3_wayTo wsX3_wayTo rmX3_wayTo g ad [.ref (ad o0), cI x1, cI x2] M (QI E g ad Q) := by
  refine ent (cc := cX3_wayTo) (maxL := 3) (ret := (some .int)) (own := RX3) (by decide +kernel) rfl rfl (Nat.le_of_ble_eq_true rfl) ?_
  intro p e s m below meth c ls X hr hlk K w hl
  have hl : lv_has ls 3 [(0, .ref (ad o0)), (1, cI x1), (2, cI x2)] := hl
  unfold p_X3_wayTo at h
  refine lv_iload_n X.1 X.2.1 dX3_wayTo_0 rfl (lv_at hl 1 rfl) ?_
  refine lv_aload_n X.1 X.2.1 dX3_wayTo_1 rfl (lv_at hl 0 rfl) ?_
  refine r_getr (N := 15) (T := TX3) X K w iX3_wayTo_3 k_o0 rfl (by decide) 3 (by decide) rfl rfl (List.mem_of_getElem? (i := 1) rfl) dX3_wayTo_2 ?_
  have k1 : gk g (o0 + 7) = 4 := gch hg k_o0 (by decide) 3 (by decide) rfl rfl
  refine lv_iload_n X.1 X.2.1 dX3_wayTo_5 rfl (lv_at hl 2 rfl) ?_
  refine q_i (x_V (As := [cI x2]) (rest := [cI x1]) X K w (c_X4_get hg k1 h) (cwV 1 X.2.2.2.2 gX3_wayTo_X4_get rfl rfl rfl (by decide +kernel) ⟨Nat.le_of_ble_eq_true rfl, Nat.le_of_ble_eq_true rfl⟩) k1 (by decide) rfl rfl hl rfl (Nat.le_of_ble_eq_true rfl) dX3_wayTo_6 ⟨Nat.le_of_ble_eq_true rfl, Nat.le_of_ble_eq_true rfl⟩) w (fun r3 M2 H locs h w => ?_)
  refine r_isub X dX3_wayTo_9 ?_
  obtain ⟨i0, h⟩ := h
  refine r_abs X hl i0 (List.mem_of_getElem? (i := 2) rfl) (List.mem_of_getElem? (i := 3) rfl) (List.mem_of_getElem? (i := 4) rfl) (List.mem_of_getElem? (i := 5) rfl) (by decide) (Nat.le_of_ble_eq_true rfl) ⟨by decide, by decide⟩ dX3_wayTo_10 ?_
  exact r_ireturn X hr hlk K w h dX3_wayTo_13
