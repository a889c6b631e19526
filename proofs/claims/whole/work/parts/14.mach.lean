/-! contracts of the methods, by gen.py: X7_sound, X7_cue, X7_hand, X7_scene, X7_missed, X7_ifHands, X7_cleanTakes, X7_count, X8_in, X8_copy, X8_remember, X8_acted, X8_of -/
theorem dX7_sound_0 : decode cX7_sound 0 = .ok (.iload_n 1, 1) := by decide +kernel
theorem dX7_sound_1 : decode cX7_sound 1 = .ok (.bipush 10, 2) := by decide +kernel
theorem dX7_sound_3 : decode cX7_sound 3 = .ok (.invokestatic 51, 3) := by decide +kernel
theorem dX7_sound_6 : decode cX7_sound 6 = .ok (.ifCond .ne 5, 3) := by decide +kernel
theorem dX7_sound_9 : decode cX7_sound 9 = .ok (.iconst (-1), 1) := by decide +kernel
theorem dX7_sound_10 : decode cX7_sound 10 = .ok (.ireturn, 1) := by decide +kernel
theorem dX7_sound_11 : decode cX7_sound 11 = .ok (.iload_n 2, 1) := by decide +kernel
theorem dX7_sound_12 : decode cX7_sound 12 = .ok (.tableswitch 120 0 5 #[40, 40, 40, 53, 65, 92], 40) := by decide +kernel
theorem dX7_sound_52 : decode cX7_sound 52 = .ok (.aload_n 0, 1) := by decide +kernel
theorem dX7_sound_53 : decode cX7_sound 53 = .ok (.getfield 10, 3) := by decide +kernel
theorem dX7_sound_56 : decode cX7_sound 56 = .ok (.iload_n 2, 1) := by decide +kernel
theorem dX7_sound_57 : decode cX7_sound 57 = .ok (.invokevirtual 58, 3) := by decide +kernel
theorem dX7_sound_60 : decode cX7_sound 60 = .ok (.iload_n 1, 1) := by decide +kernel
theorem dX7_sound_61 : decode cX7_sound 61 = .ok (.invokevirtual 62, 3) := by decide +kernel
theorem dX7_sound_64 : decode cX7_sound 64 = .ok (.ireturn, 1) := by decide +kernel
theorem dX7_sound_65 : decode cX7_sound 65 = .ok (.aload_n 0, 1) := by decide +kernel
theorem dX7_sound_66 : decode cX7_sound 66 = .ok (.getfield 10, 3) := by decide +kernel
theorem dX7_sound_69 : decode cX7_sound 69 = .ok (.getfield 91, 3) := by decide +kernel
theorem dX7_sound_72 : decode cX7_sound 72 = .ok (.iload_n 1, 1) := by decide +kernel
theorem dX7_sound_73 : decode cX7_sound 73 = .ok (.invokevirtual 174, 3) := by decide +kernel
theorem dX7_sound_76 : decode cX7_sound 76 = .ok (.ireturn, 1) := by decide +kernel
theorem dX7_sound_77 : decode cX7_sound 77 = .ok (.aload_n 0, 1) := by decide +kernel
theorem dX7_sound_78 : decode cX7_sound 78 = .ok (.aload_n 0, 1) := by decide +kernel
theorem dX7_sound_79 : decode cX7_sound 79 = .ok (.getfield 10, 3) := by decide +kernel
theorem dX7_sound_82 : decode cX7_sound 82 = .ok (.getfield 80, 3) := by decide +kernel
theorem dX7_sound_85 : decode cX7_sound 85 = .ok (.invokevirtual 136, 3) := by decide +kernel
theorem dX7_sound_88 : decode cX7_sound 88 = .ok (.aload_n 0, 1) := by decide +kernel
theorem dX7_sound_89 : decode cX7_sound 89 = .ok (.getfield 43, 3) := by decide +kernel
theorem dX7_sound_92 : decode cX7_sound 92 = .ok (.iload_n 1, 1) := by decide +kernel
theorem dX7_sound_93 : decode cX7_sound 93 = .ok (.aload_n 0, 1) := by decide +kernel
theorem dX7_sound_94 : decode cX7_sound 94 = .ok (.getfield 10, 3) := by decide +kernel
theorem dX7_sound_97 : decode cX7_sound 97 = .ok (.getfield 91, 3) := by decide +kernel
theorem dX7_sound_100 : decode cX7_sound 100 = .ok (.invokevirtual 177, 3) := by decide +kernel
theorem dX7_sound_103 : decode cX7_sound 103 = .ok (.ireturn, 1) := by decide +kernel
theorem dX7_sound_104 : decode cX7_sound 104 = .ok (.aload_n 0, 1) := by decide +kernel
theorem dX7_sound_105 : decode cX7_sound 105 = .ok (.getfield 10, 3) := by decide +kernel
theorem dX7_sound_108 : decode cX7_sound 108 = .ok (.getfield 91, 3) := by decide +kernel
theorem dX7_sound_111 : decode cX7_sound 111 = .ok (.iload_n 1, 1) := by decide +kernel
theorem dX7_sound_112 : decode cX7_sound 112 = .ok (.invokevirtual 174, 3) := by decide +kernel
theorem dX7_sound_115 : decode cX7_sound 115 = .ok (.aload_n 0, 1) := by decide +kernel
theorem dX7_sound_116 : decode cX7_sound 116 = .ok (.getfield 10, 3) := by decide +kernel
theorem dX7_sound_119 : decode cX7_sound 119 = .ok (.getfield 139, 3) := by decide +kernel
theorem dX7_sound_122 : decode cX7_sound 122 = .ok (.iload_n 1, 1) := by decide +kernel
theorem dX7_sound_123 : decode cX7_sound 123 = .ok (.invokevirtual 62, 3) := by decide +kernel
theorem dX7_sound_126 : decode cX7_sound 126 = .ok (.isub, 1) := by decide +kernel
theorem dX7_sound_127 : decode cX7_sound 127 = .ok (.iconst 0, 1) := by decide +kernel
theorem dX7_sound_128 : decode cX7_sound 128 = .ok (.invokestatic 181, 3) := by decide +kernel
theorem dX7_sound_131 : decode cX7_sound 131 = .ok (.ireturn, 1) := by decide +kernel
theorem dX7_sound_132 : decode cX7_sound 132 = .ok (.bipush (-2), 2) := by decide +kernel
theorem dX7_sound_134 : decode cX7_sound 134 = .ok (.ireturn, 1) := by decide +kernel
set_option maxRecDepth 20000 in
theorem ggX7_sound_X0_sizeOfSound : GoodIn wsX7_sound wsX0_sizeOfSound := goodIn_r _ [29, 30, 31, 32, 33, 28, 34, 35, 36, 20, 21, 22, 23, 24, 151, 152, 153, 154, 155, 156, 150] (by decide +kernel) (by decide +kernel)
set_option maxRecDepth 20000 in
theorem gX7_sound_X0_sizeOfSound : GoodIn wsX7_sound (wsV RX7 174 RX0 yX0_sizeOfSound wsX0_sizeOfSound) := goodIn_app (goodIn_of _ (by decide +kernel)) ggX7_sound_X0_sizeOfSound
set_option maxRecDepth 20000 in
theorem ggX7_sound_X3_playsOfSound : GoodIn wsX7_sound wsX3_playsOfSound := goodIn_r _ [131, 86, 60, 20, 21, 22, 23, 24, 151, 152, 153, 154, 155, 156, 157, 158, 159, 160, 161, 162, 163, 164, 165, 166, 167, 168, 169, 170, 171, 150] (by decide +kernel) (by decide +kernel)
set_option maxRecDepth 20000 in
theorem gX7_sound_X3_playsOfSound : GoodIn wsX7_sound (wsV RX7 177 RX3 yX3_playsOfSound wsX3_playsOfSound) := goodIn_app (goodIn_of _ (by decide +kernel)) ggX7_sound_X3_playsOfSound
set_option maxRecDepth 20000 in
theorem ggX7_sound_X4_get : GoodIn wsX7_sound wsX4_get := goodIn_r _ [23, 24, 150] (by decide +kernel) (by decide +kernel)
set_option maxRecDepth 20000 in
theorem gX7_sound_X4_get : GoodIn wsX7_sound (wsV RX7 62 RX4 yX4_get wsX4_get) := goodIn_app (goodIn_of _ (by decide +kernel)) ggX7_sound_X4_get
set_option maxRecDepth 20000 in
theorem ggX7_sound_X5_soundRow : GoodIn wsX7_sound wsX5_soundRow := goodIn_r _ [15, 16, 17, 18, 139, 140, 141, 142, 143, 144, 145, 146, 147, 148, 149] (by decide +kernel) (by decide +kernel)
set_option maxRecDepth 20000 in
theorem gX7_sound_X5_soundRow : GoodIn wsX7_sound (wsV RX7 58 RX5 yX5_soundRow wsX5_soundRow) := goodIn_app (goodIn_of _ (by decide +kernel)) ggX7_sound_X5_soundRow
set_option maxRecDepth 20000 in
theorem ggX7_sound_X7_isBelow : GoodIn wsX7_sound wsX7_isBelow := goodIn_r _ [10] (by decide +kernel) (by decide +kernel)
set_option maxRecDepth 20000 in
theorem gX7_sound_X7_isBelow : GoodIn wsX7_sound (va_wsS RX7 51 yX7_isBelow wsX7_isBelow) := goodIn_app (goodIn_of _ (by decide +kernel)) ggX7_sound_X7_isBelow
set_option maxRecDepth 20000 in
theorem ggX7_sound_X7_rehearse : GoodIn wsX7_sound wsX7_rehearse := goodIn_r _ [40, 2, 1, 41, 42, 43, 44, 45, 46, 47, 48, 49, 50, 51, 22, 52, 24, 53, 54, 5, 55, 56, 57, 58, 59, 60, 20, 21, 23, 61, 62, 63, 64, 65, 66, 67, 68, 69, 70, 71, 72, 73, 74, 75, 76, 77, 78, 79, 80, 81, 82, 83, 84, 85, 86, 87, 88, 89, 90, 91, 92, 93, 94, 95, 96, 97, 98, 99, 100, 101, 102, 103, 104, 105, 106, 107, 108, 109, 110, 111, 112, 113, 114, 115, 116, 117, 118, 119, 120, 28, 121, 122, 123, 36, 124, 125, 126, 127, 132, 133, 134, 135, 136, 137, 138, 157, 158, 159, 160, 161, 162, 163, 164, 165, 166, 167, 168, 169, 170, 171, 139, 140, 141, 142, 143, 144, 145, 146, 147, 148, 149, 150, 151, 152, 153, 154, 155, 156] (by decide +kernel) (by decide +kernel)
set_option maxRecDepth 20000 in
theorem gX7_sound_X7_rehearse : GoodIn wsX7_sound (wsV RX7 136 RX7 yX7_rehearse wsX7_rehearse) := goodIn_app (goodIn_of _ (by decide +kernel)) ggX7_sound_X7_rehearse
theorem iX7_sound_5 : ∀ w ∈ u_ws RX5 TX5 11, w ∈ wsX7_sound := fun w h => List.mem_cons_of_mem _ (List.mem_append_left _ (List.mem_append_left _ (List.mem_append_left _ (List.mem_append_right _ (h)))))
theorem iX7_sound_7 : ∀ w ∈ u_ws RX7 TX7 7, w ∈ wsX7_sound := fun w h => List.mem_cons_of_mem _ (List.mem_append_left _ (List.mem_append_left _ (List.mem_append_left _ (List.mem_append_left _ (List.mem_append_right _ (h))))))
set_option maxHeartbeats 4000000 in
set_option maxRecDepth 100000 in
theorem c_X7_sound {E : EE} {l : Launch} {g : GG} {ad : Nat → Nat} (hg : gwf g) {o0 : Nat} {x1 : Int} {x2 : Int} {M : Mm} {Q : Int → Mm → Prop} (k_o0 : gk g o0 = 7) (h : p_X7_sound g o0 x1 x2 M Q) : Ct E l yX7_sound wsX7_sound rmX7_sound g ad [.ref (ad o0), cI x1, cI x2] M (QI E g ad Q) := by
  refine ent (cc := cX7_sound) (maxL := 3) (ret := (some .int)) (own := RX7) (by decide +kernel) rfl rfl (Nat.le_of_ble_eq_true rfl) ?_
  intro p e s m below meth c ls X hr hlk K w hl
  have hl : lv_has ls 3 [(0, .ref (ad o0)), (1, cI x1), (2, cI x2)] := hl
  unfold p_X7_sound at h
  refine lv_iload_n X.1 X.2.1 dX7_sound_0 rfl (lv_at hl 1 rfl) ?_
  refine r_bipush X dX7_sound_1 (by decide +kernel) ?_
  refine q_i (x_S (As := [cI x1, cI 10]) (rest := []) X K w (c_X7_isBelow hg h) (va_cwS 2 X.2.2.2.2 gX7_sound_X7_isBelow rfl rfl rfl (by decide +kernel) ⟨Nat.le_of_ble_eq_true rfl, Nat.le_of_ble_eq_true rfl⟩) rfl hl rfl (Nat.le_of_ble_eq_true rfl) dX7_sound_3 ⟨Nat.le_of_ble_eq_true rfl, Nat.le_of_ble_eq_true rfl⟩) w (fun r2 M1 H locs h w => ?_)
  obtain ⟨i0, h1, h2⟩ := h
  refine r_if_ne (tgt := 11) X i0 dX7_sound_6 (by decide) (fun cc => ?_) (fun cc => ?_)
  · have h := h1 cc
    refine lv_iload_n X.1 X.2.1 dX7_sound_11 rfl (lv_at hl 2 rfl) ?_
    obtain ⟨i0, h⟩ := h
    obtain ⟨h1, h⟩ := h
    by_cases cs0 : x2 = 0
    · have h := h1 cs0
      refine r_tabIn (tgt := 52) X i0 dX7_sound_12 0 cs0 (by decide) (by decide) rfl (by decide) ?_
      refine lv_aload_n X.1 X.2.1 dX7_sound_52 rfl (lv_at hl 0 rfl) ?_
      refine r_getr (N := 7) (T := TX7) X K w iX7_sound_7 k_o0 rfl (by decide) 0 (by decide) rfl rfl (List.mem_of_getElem? (i := 1) rfl) dX7_sound_53 ?_
      have k3 : gk g (o0 + 1) = 5 := gch hg k_o0 (by decide) 0 (by decide) rfl rfl
      refine lv_iload_n X.1 X.2.1 dX7_sound_56 rfl (lv_at hl 2 rfl) ?_
      refine q_r (x_V (As := [cI x2]) (rest := []) X K w (c_X5_soundRow hg k3 h) (cwV 1 X.2.2.2.2 gX7_sound_X5_soundRow rfl rfl rfl (by decide +kernel) ⟨Nat.le_of_ble_eq_true rfl, Nat.le_of_ble_eq_true rfl⟩) k3 (by decide) rfl rfl hl rfl (Nat.le_of_ble_eq_true rfl) dX7_sound_57 ⟨Nat.le_of_ble_eq_true rfl, Nat.le_of_ble_eq_true rfl⟩) w (fun o5 M4 H locs h k6 w => ?_)
      replace h := h k6
      refine lv_iload_n X.1 X.2.1 dX7_sound_60 rfl (lv_at hl 1 rfl) ?_
      refine q_i (x_V (As := [cI x1]) (rest := []) X K w (c_X4_get hg k6 h) (cwV 1 X.2.2.2.2 gX7_sound_X4_get rfl rfl rfl (by decide +kernel) ⟨Nat.le_of_ble_eq_true rfl, Nat.le_of_ble_eq_true rfl⟩) k6 (by decide) rfl rfl hl rfl (Nat.le_of_ble_eq_true rfl) dX7_sound_61 ⟨Nat.le_of_ble_eq_true rfl, Nat.le_of_ble_eq_true rfl⟩) w (fun r8 M7 H locs h w => ?_)
      exact r_ireturn X hr hlk K w h dX7_sound_64
    obtain ⟨h1, h⟩ := h
    by_cases cs1 : x2 = 1
    · have h := h1 cs1
      refine r_tabIn (tgt := 52) X i0 dX7_sound_12 1 cs1 (by decide) (by decide) rfl (by decide) ?_
      refine lv_aload_n X.1 X.2.1 dX7_sound_52 rfl (lv_at hl 0 rfl) ?_
      refine r_getr (N := 7) (T := TX7) X K w iX7_sound_7 k_o0 rfl (by decide) 0 (by decide) rfl rfl (List.mem_of_getElem? (i := 1) rfl) dX7_sound_53 ?_
      have k9 : gk g (o0 + 1) = 5 := gch hg k_o0 (by decide) 0 (by decide) rfl rfl
      refine lv_iload_n X.1 X.2.1 dX7_sound_56 rfl (lv_at hl 2 rfl) ?_
      refine q_r (x_V (As := [cI x2]) (rest := []) X K w (c_X5_soundRow hg k9 h) (cwV 1 X.2.2.2.2 gX7_sound_X5_soundRow rfl rfl rfl (by decide +kernel) ⟨Nat.le_of_ble_eq_true rfl, Nat.le_of_ble_eq_true rfl⟩) k9 (by decide) rfl rfl hl rfl (Nat.le_of_ble_eq_true rfl) dX7_sound_57 ⟨Nat.le_of_ble_eq_true rfl, Nat.le_of_ble_eq_true rfl⟩) w (fun o11 M10 H locs h k12 w => ?_)
      replace h := h k12
      refine lv_iload_n X.1 X.2.1 dX7_sound_60 rfl (lv_at hl 1 rfl) ?_
      refine q_i (x_V (As := [cI x1]) (rest := []) X K w (c_X4_get hg k12 h) (cwV 1 X.2.2.2.2 gX7_sound_X4_get rfl rfl rfl (by decide +kernel) ⟨Nat.le_of_ble_eq_true rfl, Nat.le_of_ble_eq_true rfl⟩) k12 (by decide) rfl rfl hl rfl (Nat.le_of_ble_eq_true rfl) dX7_sound_61 ⟨Nat.le_of_ble_eq_true rfl, Nat.le_of_ble_eq_true rfl⟩) w (fun r14 M13 H locs h w => ?_)
      exact r_ireturn X hr hlk K w h dX7_sound_64
    obtain ⟨h1, h⟩ := h
    by_cases cs2 : x2 = 2
    · have h := h1 cs2
      refine r_tabIn (tgt := 52) X i0 dX7_sound_12 2 cs2 (by decide) (by decide) rfl (by decide) ?_
      refine lv_aload_n X.1 X.2.1 dX7_sound_52 rfl (lv_at hl 0 rfl) ?_
      refine r_getr (N := 7) (T := TX7) X K w iX7_sound_7 k_o0 rfl (by decide) 0 (by decide) rfl rfl (List.mem_of_getElem? (i := 1) rfl) dX7_sound_53 ?_
      have k15 : gk g (o0 + 1) = 5 := gch hg k_o0 (by decide) 0 (by decide) rfl rfl
      refine lv_iload_n X.1 X.2.1 dX7_sound_56 rfl (lv_at hl 2 rfl) ?_
      refine q_r (x_V (As := [cI x2]) (rest := []) X K w (c_X5_soundRow hg k15 h) (cwV 1 X.2.2.2.2 gX7_sound_X5_soundRow rfl rfl rfl (by decide +kernel) ⟨Nat.le_of_ble_eq_true rfl, Nat.le_of_ble_eq_true rfl⟩) k15 (by decide) rfl rfl hl rfl (Nat.le_of_ble_eq_true rfl) dX7_sound_57 ⟨Nat.le_of_ble_eq_true rfl, Nat.le_of_ble_eq_true rfl⟩) w (fun o17 M16 H locs h k18 w => ?_)
      replace h := h k18
      refine lv_iload_n X.1 X.2.1 dX7_sound_60 rfl (lv_at hl 1 rfl) ?_
      refine q_i (x_V (As := [cI x1]) (rest := []) X K w (c_X4_get hg k18 h) (cwV 1 X.2.2.2.2 gX7_sound_X4_get rfl rfl rfl (by decide +kernel) ⟨Nat.le_of_ble_eq_true rfl, Nat.le_of_ble_eq_true rfl⟩) k18 (by decide) rfl rfl hl rfl (Nat.le_of_ble_eq_true rfl) dX7_sound_61 ⟨Nat.le_of_ble_eq_true rfl, Nat.le_of_ble_eq_true rfl⟩) w (fun r20 M19 H locs h w => ?_)
      exact r_ireturn X hr hlk K w h dX7_sound_64
    obtain ⟨h1, h⟩ := h
    by_cases cs3 : x2 = 3
    · have h := h1 cs3
      refine r_tabIn (tgt := 65) X i0 dX7_sound_12 3 cs3 (by decide) (by decide) rfl (by decide) ?_
      refine lv_aload_n X.1 X.2.1 dX7_sound_65 rfl (lv_at hl 0 rfl) ?_
      refine r_getr (N := 7) (T := TX7) X K w iX7_sound_7 k_o0 rfl (by decide) 0 (by decide) rfl rfl (List.mem_of_getElem? (i := 1) rfl) dX7_sound_66 ?_
      have k21 : gk g (o0 + 1) = 5 := gch hg k_o0 (by decide) 0 (by decide) rfl rfl
      refine r_getrN (N := 11) (T := TX5) X K w iX7_sound_5 k21 rfl (by decide) 4 (by decide) rfl rfl (List.mem_of_getElem? (i := 16) rfl) dX7_sound_69 ?_
      have k22 : gk g ((o0 + 1) + 9) = 0 := gch hg k21 (by decide) 4 (by decide) rfl rfl
      refine lv_iload_n X.1 X.2.1 dX7_sound_72 rfl (lv_at hl 1 rfl) ?_
      refine q_i (x_V (As := [cI x1]) (rest := []) X K w (c_X0_sizeOfSound hg k22 h) (cwV 1 X.2.2.2.2 gX7_sound_X0_sizeOfSound rfl rfl rfl (by decide +kernel) ⟨Nat.le_of_ble_eq_true rfl, Nat.le_of_ble_eq_true rfl⟩) k22 (by decide) rfl rfl hl rfl (Nat.le_of_ble_eq_true rfl) dX7_sound_73 ⟨Nat.le_of_ble_eq_true rfl, Nat.le_of_ble_eq_true rfl⟩) w (fun r24 M23 H locs h w => ?_)
      exact r_ireturn X hr hlk K w h dX7_sound_76
    obtain ⟨h1, h⟩ := h
    by_cases cs4 : x2 = 4
    · have h := h1 cs4
      refine r_tabIn (tgt := 77) X i0 dX7_sound_12 4 cs4 (by decide) (by decide) rfl (by decide) ?_
      refine lv_aload_n X.1 X.2.1 dX7_sound_77 rfl (lv_at hl 0 rfl) ?_
      refine lv_aload_n X.1 X.2.1 dX7_sound_78 rfl (lv_at hl 0 rfl) ?_
      refine r_getr (N := 7) (T := TX7) X K w iX7_sound_7 k_o0 rfl (by decide) 0 (by decide) rfl rfl (List.mem_of_getElem? (i := 1) rfl) dX7_sound_79 ?_
      have k25 : gk g (o0 + 1) = 5 := gch hg k_o0 (by decide) 0 (by decide) rfl rfl
      refine r_getiN (N := 11) (T := TX5) (kz := 5) X K w iX7_sound_5 k25 rfl (by decide) 5 (by decide) rfl rfl rfl (List.mem_of_getElem? (i := 18) rfl) dX7_sound_82 ?_
      refine q_v (x_V (As := [cI (M1 (o0 + 1) 5)]) (rest := []) X K w (c_X7_rehearse hg k_o0 h) (cwV 1 X.2.2.2.2 gX7_sound_X7_rehearse rfl rfl rfl (by decide +kernel) ⟨Nat.le_of_ble_eq_true rfl, Nat.le_of_ble_eq_true rfl⟩) k_o0 (by decide) rfl rfl hl rfl (Nat.le_of_ble_eq_true rfl) dX7_sound_85 ⟨Nat.le_of_ble_eq_true rfl, Nat.le_of_ble_eq_true rfl⟩) w (fun M26 H locs h w => ?_)
      refine lv_aload_n X.1 X.2.1 dX7_sound_88 rfl (lv_at hl 0 rfl) ?_
      refine r_getr (N := 7) (T := TX7) X K w iX7_sound_7 k_o0 rfl (by decide) 5 (by decide) rfl rfl (List.mem_of_getElem? (i := 2) rfl) dX7_sound_89 ?_
      have k27 : gk g (o0 + 124) = 3 := gch hg k_o0 (by decide) 5 (by decide) rfl rfl
      refine lv_iload_n X.1 X.2.1 dX7_sound_92 rfl (lv_at hl 1 rfl) ?_
      refine lv_aload_n X.1 X.2.1 dX7_sound_93 rfl (lv_at hl 0 rfl) ?_
      refine r_getr (N := 7) (T := TX7) X K w iX7_sound_7 k_o0 rfl (by decide) 0 (by decide) rfl rfl (List.mem_of_getElem? (i := 1) rfl) dX7_sound_94 ?_
      have k28 : gk g (o0 + 1) = 5 := gch hg k_o0 (by decide) 0 (by decide) rfl rfl
      refine r_getrN (N := 11) (T := TX5) X K w iX7_sound_5 k28 rfl (by decide) 4 (by decide) rfl rfl (List.mem_of_getElem? (i := 16) rfl) dX7_sound_97 ?_
      have k29 : gk g ((o0 + 1) + 9) = 0 := gch hg k28 (by decide) 4 (by decide) rfl rfl
      refine q_i (x_V (As := [cI x1, .ref (ad ((o0 + 1) + 9))]) (rest := []) X K w (c_X3_playsOfSound hg k27 k29 h) (cwV 2 X.2.2.2.2 gX7_sound_X3_playsOfSound rfl rfl rfl (by decide +kernel) ⟨Nat.le_of_ble_eq_true rfl, Nat.le_of_ble_eq_true rfl⟩) k27 (by decide) rfl rfl hl rfl (Nat.le_of_ble_eq_true rfl) dX7_sound_100 ⟨Nat.le_of_ble_eq_true rfl, Nat.le_of_ble_eq_true rfl⟩) w (fun r31 M30 H locs h w => ?_)
      exact r_ireturn X hr hlk K w h dX7_sound_103
    obtain ⟨h1, h⟩ := h
    by_cases cs5 : x2 = 5
    · have h := h1 cs5
      refine r_tabIn (tgt := 104) X i0 dX7_sound_12 5 cs5 (by decide) (by decide) rfl (by decide) ?_
      refine lv_aload_n X.1 X.2.1 dX7_sound_104 rfl (lv_at hl 0 rfl) ?_
      refine r_getr (N := 7) (T := TX7) X K w iX7_sound_7 k_o0 rfl (by decide) 0 (by decide) rfl rfl (List.mem_of_getElem? (i := 1) rfl) dX7_sound_105 ?_
      have k32 : gk g (o0 + 1) = 5 := gch hg k_o0 (by decide) 0 (by decide) rfl rfl
      refine r_getrN (N := 11) (T := TX5) X K w iX7_sound_5 k32 rfl (by decide) 4 (by decide) rfl rfl (List.mem_of_getElem? (i := 16) rfl) dX7_sound_108 ?_
      have k33 : gk g ((o0 + 1) + 9) = 0 := gch hg k32 (by decide) 4 (by decide) rfl rfl
      refine lv_iload_n X.1 X.2.1 dX7_sound_111 rfl (lv_at hl 1 rfl) ?_
      refine q_i (x_V (As := [cI x1]) (rest := []) X K w (c_X0_sizeOfSound hg k33 h) (cwV 1 X.2.2.2.2 gX7_sound_X0_sizeOfSound rfl rfl rfl (by decide +kernel) ⟨Nat.le_of_ble_eq_true rfl, Nat.le_of_ble_eq_true rfl⟩) k33 (by decide) rfl rfl hl rfl (Nat.le_of_ble_eq_true rfl) dX7_sound_112 ⟨Nat.le_of_ble_eq_true rfl, Nat.le_of_ble_eq_true rfl⟩) w (fun r35 M34 H locs h w => ?_)
      refine lv_aload_n X.1 X.2.1 dX7_sound_115 rfl (lv_at hl 0 rfl) ?_
      refine r_getr (N := 7) (T := TX7) X K w iX7_sound_7 k_o0 rfl (by decide) 0 (by decide) rfl rfl (List.mem_of_getElem? (i := 1) rfl) dX7_sound_116 ?_
      have k36 : gk g (o0 + 1) = 5 := gch hg k_o0 (by decide) 0 (by decide) rfl rfl
      refine r_getrN (N := 11) (T := TX5) X K w iX7_sound_5 k36 rfl (by decide) 1 (by decide) rfl rfl (List.mem_of_getElem? (i := 11) rfl) dX7_sound_119 ?_
      have k37 : gk g ((o0 + 1) + 3) = 4 := gch hg k36 (by decide) 1 (by decide) rfl rfl
      refine lv_iload_n X.1 X.2.1 dX7_sound_122 rfl (lv_at hl 1 rfl) ?_
      refine q_i (x_V (As := [cI x1]) (rest := [cI r35]) X K w (c_X4_get hg k37 h) (cwV 1 X.2.2.2.2 gX7_sound_X4_get rfl rfl rfl (by decide +kernel) ⟨Nat.le_of_ble_eq_true rfl, Nat.le_of_ble_eq_true rfl⟩) k37 (by decide) rfl rfl hl rfl (Nat.le_of_ble_eq_true rfl) dX7_sound_123 ⟨Nat.le_of_ble_eq_true rfl, Nat.le_of_ble_eq_true rfl⟩) w (fun r39 M38 H locs h w => ?_)
      refine r_isub X dX7_sound_126 ?_
      refine r_iconst X dX7_sound_127 ?_
      obtain ⟨i0, h⟩ := h
      refine r_max X hl i0 ⟨by decide, by decide⟩ (List.mem_of_getElem? (i := 3) rfl) (List.mem_of_getElem? (i := 4) rfl) (List.mem_of_getElem? (i := 5) rfl) (List.mem_of_getElem? (i := 6) rfl) (by decide) (Nat.le_of_ble_eq_true rfl) ⟨by decide, by decide⟩ dX7_sound_128 ?_
      exact r_ireturn X hr hlk K w h dX7_sound_131
    have co : x2 < 0 ∨ 5 < x2 := by omega
    replace h := h co
    refine r_tabOut (tgt := 132) X i0 dX7_sound_12 co (by decide) ?_
    refine r_bipush X dX7_sound_132 (by decide +kernel) ?_
    exact r_ireturn X hr hlk K w h dX7_sound_134
  · have h := h2 cc
    refine r_iconst X dX7_sound_9 ?_
    exact r_ireturn X hr hlk K w h dX7_sound_10
theorem dX7_cue_0 : decode cX7_cue 0 = .ok (.iload_n 1, 1) := by decide +kernel
theorem dX7_cue_1 : decode cX7_cue 1 = .ok (.aload_n 0, 1) := by decide +kernel
theorem dX7_cue_2 : decode cX7_cue 2 = .ok (.getfield 10, 3) := by decide +kernel
theorem dX7_cue_5 : decode cX7_cue 5 = .ok (.getfield 91, 3) := by decide +kernel
theorem dX7_cue_8 : decode cX7_cue 8 = .ok (.getfield 111, 3) := by decide +kernel
theorem dX7_cue_11 : decode cX7_cue 11 = .ok (.invokestatic 51, 3) := by decide +kernel
theorem dX7_cue_14 : decode cX7_cue 14 = .ok (.ifCond .ne 5, 3) := by decide +kernel
theorem dX7_cue_17 : decode cX7_cue 17 = .ok (.iconst (-1), 1) := by decide +kernel
theorem dX7_cue_18 : decode cX7_cue 18 = .ok (.ireturn, 1) := by decide +kernel
theorem dX7_cue_19 : decode cX7_cue 19 = .ok (.iload_n 2, 1) := by decide +kernel
theorem dX7_cue_20 : decode cX7_cue 20 = .ok (.tableswitch 173 0 6 #[44, 59, 74, 89, 104, 127, 150], 44) := by decide +kernel
theorem dX7_cue_64 : decode cX7_cue 64 = .ok (.aload_n 0, 1) := by decide +kernel
theorem dX7_cue_65 : decode cX7_cue 65 = .ok (.getfield 10, 3) := by decide +kernel
theorem dX7_cue_68 : decode cX7_cue 68 = .ok (.getfield 91, 3) := by decide +kernel
theorem dX7_cue_71 : decode cX7_cue 71 = .ok (.getfield 187, 3) := by decide +kernel
theorem dX7_cue_74 : decode cX7_cue 74 = .ok (.iload_n 1, 1) := by decide +kernel
theorem dX7_cue_75 : decode cX7_cue 75 = .ok (.invokevirtual 62, 3) := by decide +kernel
theorem dX7_cue_78 : decode cX7_cue 78 = .ok (.ireturn, 1) := by decide +kernel
theorem dX7_cue_79 : decode cX7_cue 79 = .ok (.aload_n 0, 1) := by decide +kernel
theorem dX7_cue_80 : decode cX7_cue 80 = .ok (.getfield 10, 3) := by decide +kernel
theorem dX7_cue_83 : decode cX7_cue 83 = .ok (.getfield 91, 3) := by decide +kernel
theorem dX7_cue_86 : decode cX7_cue 86 = .ok (.getfield 190, 3) := by decide +kernel
theorem dX7_cue_89 : decode cX7_cue 89 = .ok (.iload_n 1, 1) := by decide +kernel
theorem dX7_cue_90 : decode cX7_cue 90 = .ok (.invokevirtual 62, 3) := by decide +kernel
theorem dX7_cue_93 : decode cX7_cue 93 = .ok (.ireturn, 1) := by decide +kernel
theorem dX7_cue_94 : decode cX7_cue 94 = .ok (.aload_n 0, 1) := by decide +kernel
theorem dX7_cue_95 : decode cX7_cue 95 = .ok (.getfield 10, 3) := by decide +kernel
theorem dX7_cue_98 : decode cX7_cue 98 = .ok (.getfield 91, 3) := by decide +kernel
theorem dX7_cue_101 : decode cX7_cue 101 = .ok (.getfield 193, 3) := by decide +kernel
theorem dX7_cue_104 : decode cX7_cue 104 = .ok (.iload_n 1, 1) := by decide +kernel
theorem dX7_cue_105 : decode cX7_cue 105 = .ok (.invokevirtual 62, 3) := by decide +kernel
theorem dX7_cue_108 : decode cX7_cue 108 = .ok (.ireturn, 1) := by decide +kernel
theorem dX7_cue_109 : decode cX7_cue 109 = .ok (.aload_n 0, 1) := by decide +kernel
theorem dX7_cue_110 : decode cX7_cue 110 = .ok (.getfield 10, 3) := by decide +kernel
theorem dX7_cue_113 : decode cX7_cue 113 = .ok (.getfield 91, 3) := by decide +kernel
theorem dX7_cue_116 : decode cX7_cue 116 = .ok (.getfield 196, 3) := by decide +kernel
theorem dX7_cue_119 : decode cX7_cue 119 = .ok (.iload_n 1, 1) := by decide +kernel
theorem dX7_cue_120 : decode cX7_cue 120 = .ok (.invokevirtual 62, 3) := by decide +kernel
theorem dX7_cue_123 : decode cX7_cue 123 = .ok (.ireturn, 1) := by decide +kernel
theorem dX7_cue_124 : decode cX7_cue 124 = .ok (.aload_n 0, 1) := by decide +kernel
theorem dX7_cue_125 : decode cX7_cue 125 = .ok (.aload_n 0, 1) := by decide +kernel
theorem dX7_cue_126 : decode cX7_cue 126 = .ok (.getfield 10, 3) := by decide +kernel
theorem dX7_cue_129 : decode cX7_cue 129 = .ok (.getfield 80, 3) := by decide +kernel
theorem dX7_cue_132 : decode cX7_cue 132 = .ok (.invokevirtual 136, 3) := by decide +kernel
theorem dX7_cue_135 : decode cX7_cue 135 = .ok (.aload_n 0, 1) := by decide +kernel
theorem dX7_cue_136 : decode cX7_cue 136 = .ok (.getfield 43, 3) := by decide +kernel
theorem dX7_cue_139 : decode cX7_cue 139 = .ok (.getfield 199, 3) := by decide +kernel
theorem dX7_cue_142 : decode cX7_cue 142 = .ok (.iload_n 1, 1) := by decide +kernel
theorem dX7_cue_143 : decode cX7_cue 143 = .ok (.invokevirtual 62, 3) := by decide +kernel
theorem dX7_cue_146 : decode cX7_cue 146 = .ok (.ireturn, 1) := by decide +kernel
theorem dX7_cue_147 : decode cX7_cue 147 = .ok (.aload_n 0, 1) := by decide +kernel
theorem dX7_cue_148 : decode cX7_cue 148 = .ok (.aload_n 0, 1) := by decide +kernel
theorem dX7_cue_149 : decode cX7_cue 149 = .ok (.getfield 10, 3) := by decide +kernel
theorem dX7_cue_152 : decode cX7_cue 152 = .ok (.getfield 80, 3) := by decide +kernel
theorem dX7_cue_155 : decode cX7_cue 155 = .ok (.invokevirtual 136, 3) := by decide +kernel
theorem dX7_cue_158 : decode cX7_cue 158 = .ok (.aload_n 0, 1) := by decide +kernel
theorem dX7_cue_159 : decode cX7_cue 159 = .ok (.getfield 43, 3) := by decide +kernel
theorem dX7_cue_162 : decode cX7_cue 162 = .ok (.getfield 202, 3) := by decide +kernel
theorem dX7_cue_165 : decode cX7_cue 165 = .ok (.iload_n 1, 1) := by decide +kernel
theorem dX7_cue_166 : decode cX7_cue 166 = .ok (.invokevirtual 62, 3) := by decide +kernel
theorem dX7_cue_169 : decode cX7_cue 169 = .ok (.ireturn, 1) := by decide +kernel
theorem dX7_cue_170 : decode cX7_cue 170 = .ok (.aload_n 0, 1) := by decide +kernel
theorem dX7_cue_171 : decode cX7_cue 171 = .ok (.aload_n 0, 1) := by decide +kernel
theorem dX7_cue_172 : decode cX7_cue 172 = .ok (.getfield 10, 3) := by decide +kernel
theorem dX7_cue_175 : decode cX7_cue 175 = .ok (.getfield 80, 3) := by decide +kernel
theorem dX7_cue_178 : decode cX7_cue 178 = .ok (.invokevirtual 136, 3) := by decide +kernel
theorem dX7_cue_181 : decode cX7_cue 181 = .ok (.aload_n 0, 1) := by decide +kernel
theorem dX7_cue_182 : decode cX7_cue 182 = .ok (.getfield 43, 3) := by decide +kernel
theorem dX7_cue_185 : decode cX7_cue 185 = .ok (.getfield 205, 3) := by decide +kernel
theorem dX7_cue_188 : decode cX7_cue 188 = .ok (.iload_n 1, 1) := by decide +kernel
theorem dX7_cue_189 : decode cX7_cue 189 = .ok (.invokevirtual 62, 3) := by decide +kernel
theorem dX7_cue_192 : decode cX7_cue 192 = .ok (.ireturn, 1) := by decide +kernel
theorem dX7_cue_193 : decode cX7_cue 193 = .ok (.bipush (-2), 2) := by decide +kernel
theorem dX7_cue_195 : decode cX7_cue 195 = .ok (.ireturn, 1) := by decide +kernel
set_option maxRecDepth 20000 in
theorem ggX7_cue_X4_get : GoodIn wsX7_cue wsX4_get := goodIn_r _ [11, 12, 146] (by decide +kernel) (by decide +kernel)
set_option maxRecDepth 20000 in
theorem gX7_cue_X4_get : GoodIn wsX7_cue (wsV RX7 62 RX4 yX4_get wsX4_get) := goodIn_app (goodIn_of _ (by decide +kernel)) ggX7_cue_X4_get
set_option maxRecDepth 20000 in
theorem ggX7_cue_X7_isBelow : GoodIn wsX7_cue wsX7_isBelow := goodIn_r _ [6] (by decide +kernel) (by decide +kernel)
set_option maxRecDepth 20000 in
theorem gX7_cue_X7_isBelow : GoodIn wsX7_cue (va_wsS RX7 51 yX7_isBelow wsX7_isBelow) := goodIn_app (goodIn_of _ (by decide +kernel)) ggX7_cue_X7_isBelow
set_option maxRecDepth 20000 in
theorem ggX7_cue_X7_rehearse : GoodIn wsX7_cue wsX7_rehearse := goodIn_r _ [16, 2, 1, 17, 18, 19, 20, 21, 22, 23, 24, 25, 26, 27, 10, 28, 12, 29, 30, 31, 32, 33, 34, 35, 36, 37, 8, 9, 11, 38, 39, 40, 41, 42, 43, 44, 45, 46, 47, 48, 49, 50, 51, 52, 53, 54, 55, 56, 57, 58, 59, 60, 61, 62, 63, 64, 65, 66, 67, 68, 69, 70, 71, 72, 73, 74, 75, 76, 77, 78, 79, 80, 81, 82, 83, 84, 85, 86, 87, 88, 89, 90, 91, 92, 93, 94, 95, 96, 97, 98, 99, 100, 101, 102, 103, 104, 105, 106, 107, 108, 109, 110, 111, 112, 113, 131, 132, 133, 134, 135, 136, 137, 138, 139, 140, 141, 142, 143, 144, 145, 114, 115, 116, 117, 118, 119, 120, 121, 122, 123, 124, 146, 125, 126, 127, 128, 129, 130] (by decide +kernel) (by decide +kernel)
set_option maxRecDepth 20000 in
theorem gX7_cue_X7_rehearse : GoodIn wsX7_cue (wsV RX7 136 RX7 yX7_rehearse wsX7_rehearse) := goodIn_app (goodIn_of _ (by decide +kernel)) ggX7_cue_X7_rehearse
theorem iX7_cue_0 : ∀ w ∈ u_ws RX0 TX0 6, w ∈ wsX7_cue := fun w h => List.mem_cons_of_mem _ (List.mem_append_left _ (List.mem_append_left _ (List.mem_append_right _ (h))))
theorem iX7_cue_3 : ∀ w ∈ u_ws RX3 TX3 15, w ∈ wsX7_cue := fun w h => List.mem_cons_of_mem _ (List.mem_append_left _ (List.mem_append_right _ (h)))
theorem iX7_cue_5 : ∀ w ∈ u_ws RX5 TX5 11, w ∈ wsX7_cue := fun w h => List.mem_cons_of_mem _ (List.mem_append_left _ (List.mem_append_left _ (List.mem_append_left _ (List.mem_append_right _ (h)))))
theorem iX7_cue_7 : ∀ w ∈ u_ws RX7 TX7 7, w ∈ wsX7_cue := fun w h => List.mem_cons_of_mem _ (List.mem_append_left _ (List.mem_append_left _ (List.mem_append_left _ (List.mem_append_left _ (List.mem_append_right _ (h))))))
theorem tstep_X7_cue {x k k2 : Int} (h : k ≤ x) (hn : ¬ x = k) (e : k + 1 = k2) : k2 ≤ x := by omega
theorem tlow_X7_cue (x k : Int) : x < k ∨ k ≤ x := by omega
set_option maxHeartbeats 4000000 in
set_option maxRecDepth 100000 in
theorem c_X7_cue {E : EE} {l : Launch} {g : GG} {ad : Nat → Nat} (hg : gwf g) {o0 : Nat} {x1 : Int} {x2 : Int} {M : Mm} {Q : Int → Mm → Prop} (k_o0 : gk g o0 = 7) (h : p_X7_cue g o0 x1 x2 M Q) : Ct E l yX7_cue wsX7_cue rmX7_cue g ad [.ref (ad o0), cI x1, cI x2] M (QI E g ad Q) := by
  refine ent (cc := cX7_cue) (maxL := 3) (ret := (some .int)) (own := RX7) (by decide +kernel) rfl rfl (Nat.le_of_ble_eq_true rfl) ?_
  intro p e s m below meth c ls X hr hlk K w hl
  have hl : lv_has ls 3 [(0, .ref (ad o0)), (1, cI x1), (2, cI x2)] := hl
  unfold p_X7_cue at h
  refine lv_iload_n X.1 X.2.1 dX7_cue_0 rfl (lv_at hl 1 rfl) ?_
  refine lv_aload_n X.1 X.2.1 dX7_cue_1 rfl (lv_at hl 0 rfl) ?_
  refine r_getr (N := 7) (T := TX7) X K w iX7_cue_7 k_o0 rfl (by decide) 0 (by decide) rfl rfl (List.mem_of_getElem? (i := 1) rfl) dX7_cue_2 ?_
  have k1 : gk g (o0 + 1) = 5 := gch hg k_o0 (by decide) 0 (by decide) rfl rfl
  refine r_getrN (N := 11) (T := TX5) X K w iX7_cue_5 k1 rfl (by decide) 4 (by decide) rfl rfl (List.mem_of_getElem? (i := 16) rfl) dX7_cue_5 ?_
  have k2 : gk g ((o0 + 1) + 9) = 0 := gch hg k1 (by decide) 4 (by decide) rfl rfl
  refine r_getiN (N := 6) (T := TX0) (kz := 5) X K w iX7_cue_0 k2 rfl (by decide) 5 (by decide) rfl rfl rfl (List.mem_of_getElem? (i := 8) rfl) dX7_cue_8 ?_
  refine q_i (x_S (As := [cI x1, cI (M ((o0 + 1) + 9) 5)]) (rest := []) X K w (c_X7_isBelow hg h) (va_cwS 2 X.2.2.2.2 gX7_cue_X7_isBelow rfl rfl rfl (by decide +kernel) ⟨Nat.le_of_ble_eq_true rfl, Nat.le_of_ble_eq_true rfl⟩) rfl hl rfl (Nat.le_of_ble_eq_true rfl) dX7_cue_11 ⟨Nat.le_of_ble_eq_true rfl, Nat.le_of_ble_eq_true rfl⟩) w (fun r4 M3 H locs h w => ?_)
  obtain ⟨i0, h1, h2⟩ := h
  refine r_if_ne (tgt := 19) X i0 dX7_cue_14 (by decide) (fun cc => ?_) (fun cc => ?_)
  · have h := h1 cc
    refine lv_iload_n X.1 X.2.1 dX7_cue_19 rfl (lv_at hl 2 rfl) ?_
    obtain ⟨i0, h⟩ := h
    obtain ⟨h1, h⟩ := h
    by_cases cs0 : x2 = 0
    · have h := h1 cs0
      refine r_tabIn (tgt := 64) X i0 dX7_cue_20 0 cs0 (by decide) (by decide) rfl (by decide) ?_
      refine lv_aload_n X.1 X.2.1 dX7_cue_64 rfl (lv_at hl 0 rfl) ?_
      refine r_getr (N := 7) (T := TX7) X K w iX7_cue_7 k_o0 rfl (by decide) 0 (by decide) rfl rfl (List.mem_of_getElem? (i := 1) rfl) dX7_cue_65 ?_
      have k5 : gk g (o0 + 1) = 5 := gch hg k_o0 (by decide) 0 (by decide) rfl rfl
      refine r_getrN (N := 11) (T := TX5) X K w iX7_cue_5 k5 rfl (by decide) 4 (by decide) rfl rfl (List.mem_of_getElem? (i := 16) rfl) dX7_cue_68 ?_
      have k6 : gk g ((o0 + 1) + 9) = 0 := gch hg k5 (by decide) 4 (by decide) rfl rfl
      refine r_getrN (N := 6) (T := TX0) X K w iX7_cue_0 k6 rfl (by decide) 2 (by decide) rfl rfl (List.mem_of_getElem? (i := 3) rfl) dX7_cue_71 ?_
      have k7 : gk g (((o0 + 1) + 9) + 3) = 4 := gch hg k6 (by decide) 2 (by decide) rfl rfl
      refine lv_iload_n X.1 X.2.1 dX7_cue_74 rfl (lv_at hl 1 rfl) ?_
      refine q_i (x_V (As := [cI x1]) (rest := []) X K w (c_X4_get hg k7 h) (cwV 1 X.2.2.2.2 gX7_cue_X4_get rfl rfl rfl (by decide +kernel) ⟨Nat.le_of_ble_eq_true rfl, Nat.le_of_ble_eq_true rfl⟩) k7 (by decide) rfl rfl hl rfl (Nat.le_of_ble_eq_true rfl) dX7_cue_75 ⟨Nat.le_of_ble_eq_true rfl, Nat.le_of_ble_eq_true rfl⟩) w (fun r9 M8 H locs h w => ?_)
      exact r_ireturn X hr hlk K w h dX7_cue_78
    obtain ⟨h1, h⟩ := h
    by_cases cs1 : x2 = 1
    · have h := h1 cs1
      refine r_tabIn (tgt := 79) X i0 dX7_cue_20 1 cs1 (by decide) (by decide) rfl (by decide) ?_
      refine lv_aload_n X.1 X.2.1 dX7_cue_79 rfl (lv_at hl 0 rfl) ?_
      refine r_getr (N := 7) (T := TX7) X K w iX7_cue_7 k_o0 rfl (by decide) 0 (by decide) rfl rfl (List.mem_of_getElem? (i := 1) rfl) dX7_cue_80 ?_
      have k10 : gk g (o0 + 1) = 5 := gch hg k_o0 (by decide) 0 (by decide) rfl rfl
      refine r_getrN (N := 11) (T := TX5) X K w iX7_cue_5 k10 rfl (by decide) 4 (by decide) rfl rfl (List.mem_of_getElem? (i := 16) rfl) dX7_cue_83 ?_
      have k11 : gk g ((o0 + 1) + 9) = 0 := gch hg k10 (by decide) 4 (by decide) rfl rfl
      refine r_getrN (N := 6) (T := TX0) X K w iX7_cue_0 k11 rfl (by decide) 1 (by decide) rfl rfl (List.mem_of_getElem? (i := 1) rfl) dX7_cue_86 ?_
      have k12 : gk g (((o0 + 1) + 9) + 1) = 4 := gch hg k11 (by decide) 1 (by decide) rfl rfl
      refine lv_iload_n X.1 X.2.1 dX7_cue_89 rfl (lv_at hl 1 rfl) ?_
      refine q_i (x_V (As := [cI x1]) (rest := []) X K w (c_X4_get hg k12 h) (cwV 1 X.2.2.2.2 gX7_cue_X4_get rfl rfl rfl (by decide +kernel) ⟨Nat.le_of_ble_eq_true rfl, Nat.le_of_ble_eq_true rfl⟩) k12 (by decide) rfl rfl hl rfl (Nat.le_of_ble_eq_true rfl) dX7_cue_90 ⟨Nat.le_of_ble_eq_true rfl, Nat.le_of_ble_eq_true rfl⟩) w (fun r14 M13 H locs h w => ?_)
      exact r_ireturn X hr hlk K w h dX7_cue_93
    obtain ⟨h1, h⟩ := h
    by_cases cs2 : x2 = 2
    · have h := h1 cs2
      refine r_tabIn (tgt := 94) X i0 dX7_cue_20 2 cs2 (by decide) (by decide) rfl (by decide) ?_
      refine lv_aload_n X.1 X.2.1 dX7_cue_94 rfl (lv_at hl 0 rfl) ?_
      refine r_getr (N := 7) (T := TX7) X K w iX7_cue_7 k_o0 rfl (by decide) 0 (by decide) rfl rfl (List.mem_of_getElem? (i := 1) rfl) dX7_cue_95 ?_
      have k15 : gk g (o0 + 1) = 5 := gch hg k_o0 (by decide) 0 (by decide) rfl rfl
      refine r_getrN (N := 11) (T := TX5) X K w iX7_cue_5 k15 rfl (by decide) 4 (by decide) rfl rfl (List.mem_of_getElem? (i := 16) rfl) dX7_cue_98 ?_
      have k16 : gk g ((o0 + 1) + 9) = 0 := gch hg k15 (by decide) 4 (by decide) rfl rfl
      refine r_getrN (N := 6) (T := TX0) X K w iX7_cue_0 k16 rfl (by decide) 3 (by decide) rfl rfl (List.mem_of_getElem? (i := 5) rfl) dX7_cue_101 ?_
      have k17 : gk g (((o0 + 1) + 9) + 5) = 4 := gch hg k16 (by decide) 3 (by decide) rfl rfl
      refine lv_iload_n X.1 X.2.1 dX7_cue_104 rfl (lv_at hl 1 rfl) ?_
      refine q_i (x_V (As := [cI x1]) (rest := []) X K w (c_X4_get hg k17 h) (cwV 1 X.2.2.2.2 gX7_cue_X4_get rfl rfl rfl (by decide +kernel) ⟨Nat.le_of_ble_eq_true rfl, Nat.le_of_ble_eq_true rfl⟩) k17 (by decide) rfl rfl hl rfl (Nat.le_of_ble_eq_true rfl) dX7_cue_105 ⟨Nat.le_of_ble_eq_true rfl, Nat.le_of_ble_eq_true rfl⟩) w (fun r19 M18 H locs h w => ?_)
      exact r_ireturn X hr hlk K w h dX7_cue_108
    obtain ⟨h1, h⟩ := h
    by_cases cs3 : x2 = 3
    · have h := h1 cs3
      refine r_tabIn (tgt := 109) X i0 dX7_cue_20 3 cs3 (by decide) (by decide) rfl (by decide) ?_
      refine lv_aload_n X.1 X.2.1 dX7_cue_109 rfl (lv_at hl 0 rfl) ?_
      refine r_getr (N := 7) (T := TX7) X K w iX7_cue_7 k_o0 rfl (by decide) 0 (by decide) rfl rfl (List.mem_of_getElem? (i := 1) rfl) dX7_cue_110 ?_
      have k20 : gk g (o0 + 1) = 5 := gch hg k_o0 (by decide) 0 (by decide) rfl rfl
      refine r_getrN (N := 11) (T := TX5) X K w iX7_cue_5 k20 rfl (by decide) 4 (by decide) rfl rfl (List.mem_of_getElem? (i := 16) rfl) dX7_cue_113 ?_
      have k21 : gk g ((o0 + 1) + 9) = 0 := gch hg k20 (by decide) 4 (by decide) rfl rfl
      refine r_getrN (N := 6) (T := TX0) X K w iX7_cue_0 k21 rfl (by decide) 4 (by decide) rfl rfl (List.mem_of_getElem? (i := 6) rfl) dX7_cue_116 ?_
      have k22 : gk g (((o0 + 1) + 9) + 7) = 4 := gch hg k21 (by decide) 4 (by decide) rfl rfl
      refine lv_iload_n X.1 X.2.1 dX7_cue_119 rfl (lv_at hl 1 rfl) ?_
      refine q_i (x_V (As := [cI x1]) (rest := []) X K w (c_X4_get hg k22 h) (cwV 1 X.2.2.2.2 gX7_cue_X4_get rfl rfl rfl (by decide +kernel) ⟨Nat.le_of_ble_eq_true rfl, Nat.le_of_ble_eq_true rfl⟩) k22 (by decide) rfl rfl hl rfl (Nat.le_of_ble_eq_true rfl) dX7_cue_120 ⟨Nat.le_of_ble_eq_true rfl, Nat.le_of_ble_eq_true rfl⟩) w (fun r24 M23 H locs h w => ?_)
      exact r_ireturn X hr hlk K w h dX7_cue_123
    obtain ⟨h1, h⟩ := h
    by_cases cs4 : x2 = 4
    · have h := h1 cs4
      refine r_tabIn (tgt := 124) X i0 dX7_cue_20 4 cs4 (by decide) (by decide) rfl (by decide) ?_
      refine lv_aload_n X.1 X.2.1 dX7_cue_124 rfl (lv_at hl 0 rfl) ?_
      refine lv_aload_n X.1 X.2.1 dX7_cue_125 rfl (lv_at hl 0 rfl) ?_
      refine r_getr (N := 7) (T := TX7) X K w iX7_cue_7 k_o0 rfl (by decide) 0 (by decide) rfl rfl (List.mem_of_getElem? (i := 1) rfl) dX7_cue_126 ?_
      have k25 : gk g (o0 + 1) = 5 := gch hg k_o0 (by decide) 0 (by decide) rfl rfl
      refine r_getiN (N := 11) (T := TX5) (kz := 5) X K w iX7_cue_5 k25 rfl (by decide) 5 (by decide) rfl rfl rfl (List.mem_of_getElem? (i := 18) rfl) dX7_cue_129 ?_
      refine q_v (x_V (As := [cI (M3 (o0 + 1) 5)]) (rest := []) X K w (c_X7_rehearse hg k_o0 h) (cwV 1 X.2.2.2.2 gX7_cue_X7_rehearse rfl rfl rfl (by decide +kernel) ⟨Nat.le_of_ble_eq_true rfl, Nat.le_of_ble_eq_true rfl⟩) k_o0 (by decide) rfl rfl hl rfl (Nat.le_of_ble_eq_true rfl) dX7_cue_132 ⟨Nat.le_of_ble_eq_true rfl, Nat.le_of_ble_eq_true rfl⟩) w (fun M26 H locs h w => ?_)
      refine lv_aload_n X.1 X.2.1 dX7_cue_135 rfl (lv_at hl 0 rfl) ?_
      refine r_getr (N := 7) (T := TX7) X K w iX7_cue_7 k_o0 rfl (by decide) 5 (by decide) rfl rfl (List.mem_of_getElem? (i := 2) rfl) dX7_cue_136 ?_
      have k27 : gk g (o0 + 124) = 3 := gch hg k_o0 (by decide) 5 (by decide) rfl rfl
      refine r_getrN (N := 15) (T := TX3) X K w iX7_cue_3 k27 rfl (by decide) 7 (by decide) rfl rfl (List.mem_of_getElem? (i := 37) rfl) dX7_cue_139 ?_
      have k28 : gk g ((o0 + 124) + 15) = 4 := gch hg k27 (by decide) 7 (by decide) rfl rfl
      refine lv_iload_n X.1 X.2.1 dX7_cue_142 rfl (lv_at hl 1 rfl) ?_
      refine q_i (x_V (As := [cI x1]) (rest := []) X K w (c_X4_get hg k28 h) (cwV 1 X.2.2.2.2 gX7_cue_X4_get rfl rfl rfl (by decide +kernel) ⟨Nat.le_of_ble_eq_true rfl, Nat.le_of_ble_eq_true rfl⟩) k28 (by decide) rfl rfl hl rfl (Nat.le_of_ble_eq_true rfl) dX7_cue_143 ⟨Nat.le_of_ble_eq_true rfl, Nat.le_of_ble_eq_true rfl⟩) w (fun r30 M29 H locs h w => ?_)
      exact r_ireturn X hr hlk K w h dX7_cue_146
    obtain ⟨h1, h⟩ := h
    by_cases cs5 : x2 = 5
    · have h := h1 cs5
      refine r_tabIn (tgt := 147) X i0 dX7_cue_20 5 cs5 (by decide) (by decide) rfl (by decide) ?_
      refine lv_aload_n X.1 X.2.1 dX7_cue_147 rfl (lv_at hl 0 rfl) ?_
      refine lv_aload_n X.1 X.2.1 dX7_cue_148 rfl (lv_at hl 0 rfl) ?_
      refine r_getr (N := 7) (T := TX7) X K w iX7_cue_7 k_o0 rfl (by decide) 0 (by decide) rfl rfl (List.mem_of_getElem? (i := 1) rfl) dX7_cue_149 ?_
      have k31 : gk g (o0 + 1) = 5 := gch hg k_o0 (by decide) 0 (by decide) rfl rfl
      refine r_getiN (N := 11) (T := TX5) (kz := 5) X K w iX7_cue_5 k31 rfl (by decide) 5 (by decide) rfl rfl rfl (List.mem_of_getElem? (i := 18) rfl) dX7_cue_152 ?_
      refine q_v (x_V (As := [cI (M3 (o0 + 1) 5)]) (rest := []) X K w (c_X7_rehearse hg k_o0 h) (cwV 1 X.2.2.2.2 gX7_cue_X7_rehearse rfl rfl rfl (by decide +kernel) ⟨Nat.le_of_ble_eq_true rfl, Nat.le_of_ble_eq_true rfl⟩) k_o0 (by decide) rfl rfl hl rfl (Nat.le_of_ble_eq_true rfl) dX7_cue_155 ⟨Nat.le_of_ble_eq_true rfl, Nat.le_of_ble_eq_true rfl⟩) w (fun M32 H locs h w => ?_)
      refine lv_aload_n X.1 X.2.1 dX7_cue_158 rfl (lv_at hl 0 rfl) ?_
      refine r_getr (N := 7) (T := TX7) X K w iX7_cue_7 k_o0 rfl (by decide) 5 (by decide) rfl rfl (List.mem_of_getElem? (i := 2) rfl) dX7_cue_159 ?_
      have k33 : gk g (o0 + 124) = 3 := gch hg k_o0 (by decide) 5 (by decide) rfl rfl
      refine r_getrN (N := 15) (T := TX3) X K w iX7_cue_3 k33 rfl (by decide) 8 (by decide) rfl rfl (List.mem_of_getElem? (i := 38) rfl) dX7_cue_162 ?_
      have k34 : gk g ((o0 + 124) + 17) = 4 := gch hg k33 (by decide) 8 (by decide) rfl rfl
      refine lv_iload_n X.1 X.2.1 dX7_cue_165 rfl (lv_at hl 1 rfl) ?_
      refine q_i (x_V (As := [cI x1]) (rest := []) X K w (c_X4_get hg k34 h) (cwV 1 X.2.2.2.2 gX7_cue_X4_get rfl rfl rfl (by decide +kernel) ⟨Nat.le_of_ble_eq_true rfl, Nat.le_of_ble_eq_true rfl⟩) k34 (by decide) rfl rfl hl rfl (Nat.le_of_ble_eq_true rfl) dX7_cue_166 ⟨Nat.le_of_ble_eq_true rfl, Nat.le_of_ble_eq_true rfl⟩) w (fun r36 M35 H locs h w => ?_)
      exact r_ireturn X hr hlk K w h dX7_cue_169
    obtain ⟨h1, h⟩ := h
    by_cases cs6 : x2 = 6
    · have h := h1 cs6
      refine r_tabIn (tgt := 170) X i0 dX7_cue_20 6 cs6 (by decide) (by decide) rfl (by decide) ?_
      refine lv_aload_n X.1 X.2.1 dX7_cue_170 rfl (lv_at hl 0 rfl) ?_
      refine lv_aload_n X.1 X.2.1 dX7_cue_171 rfl (lv_at hl 0 rfl) ?_
      refine r_getr (N := 7) (T := TX7) X K w iX7_cue_7 k_o0 rfl (by decide) 0 (by decide) rfl rfl (List.mem_of_getElem? (i := 1) rfl) dX7_cue_172 ?_
      have k37 : gk g (o0 + 1) = 5 := gch hg k_o0 (by decide) 0 (by decide) rfl rfl
      refine r_getiN (N := 11) (T := TX5) (kz := 5) X K w iX7_cue_5 k37 rfl (by decide) 5 (by decide) rfl rfl rfl (List.mem_of_getElem? (i := 18) rfl) dX7_cue_175 ?_
      refine q_v (x_V (As := [cI (M3 (o0 + 1) 5)]) (rest := []) X K w (c_X7_rehearse hg k_o0 h) (cwV 1 X.2.2.2.2 gX7_cue_X7_rehearse rfl rfl rfl (by decide +kernel) ⟨Nat.le_of_ble_eq_true rfl, Nat.le_of_ble_eq_true rfl⟩) k_o0 (by decide) rfl rfl hl rfl (Nat.le_of_ble_eq_true rfl) dX7_cue_178 ⟨Nat.le_of_ble_eq_true rfl, Nat.le_of_ble_eq_true rfl⟩) w (fun M38 H locs h w => ?_)
      refine lv_aload_n X.1 X.2.1 dX7_cue_181 rfl (lv_at hl 0 rfl) ?_
      refine r_getr (N := 7) (T := TX7) X K w iX7_cue_7 k_o0 rfl (by decide) 5 (by decide) rfl rfl (List.mem_of_getElem? (i := 2) rfl) dX7_cue_182 ?_
      have k39 : gk g (o0 + 124) = 3 := gch hg k_o0 (by decide) 5 (by decide) rfl rfl
      refine r_getrN (N := 15) (T := TX3) X K w iX7_cue_3 k39 rfl (by decide) 9 (by decide) rfl rfl (List.mem_of_getElem? (i := 39) rfl) dX7_cue_185 ?_
      have k40 : gk g ((o0 + 124) + 19) = 4 := gch hg k39 (by decide) 9 (by decide) rfl rfl
      refine lv_iload_n X.1 X.2.1 dX7_cue_188 rfl (lv_at hl 1 rfl) ?_
      refine q_i (x_V (As := [cI x1]) (rest := []) X K w (c_X4_get hg k40 h) (cwV 1 X.2.2.2.2 gX7_cue_X4_get rfl rfl rfl (by decide +kernel) ⟨Nat.le_of_ble_eq_true rfl, Nat.le_of_ble_eq_true rfl⟩) k40 (by decide) rfl rfl hl rfl (Nat.le_of_ble_eq_true rfl) dX7_cue_189 ⟨Nat.le_of_ble_eq_true rfl, Nat.le_of_ble_eq_true rfl⟩) w (fun r42 M41 H locs h w => ?_)
      exact r_ireturn X hr hlk K w h dX7_cue_192
    have co : x2 < 0 ∨ 6 < x2 := by
      rcases tlow_X7_cue x2 0 with q | q
      · exact Or.inl q
      have q : (1 : Int) ≤ x2 := tstep_X7_cue q cs0 rfl
      have q : (2 : Int) ≤ x2 := tstep_X7_cue q cs1 rfl
      have q : (3 : Int) ≤ x2 := tstep_X7_cue q cs2 rfl
      have q : (4 : Int) ≤ x2 := tstep_X7_cue q cs3 rfl
      have q : (5 : Int) ≤ x2 := tstep_X7_cue q cs4 rfl
      have q : (6 : Int) ≤ x2 := tstep_X7_cue q cs5 rfl
      have q : (7 : Int) ≤ x2 := tstep_X7_cue q cs6 rfl
      exact Or.inr q
    replace h := h co
    refine r_tabOut (tgt := 193) X i0 dX7_cue_20 co (by decide) ?_
    refine r_bipush X dX7_cue_193 (by decide +kernel) ?_
    exact r_ireturn X hr hlk K w h dX7_cue_195
  · have h := h2 cc
    refine r_iconst X dX7_cue_17 ?_
    exact r_ireturn X hr hlk K w h dX7_cue_18
theorem dX7_hand_0 : decode cX7_hand 0 = .ok (.iload_n 1, 1) := by decide +kernel
theorem dX7_hand_1 : decode cX7_hand 1 = .ok (.aload_n 0, 1) := by decide +kernel
theorem dX7_hand_2 : decode cX7_hand 2 = .ok (.getfield 10, 3) := by decide +kernel
theorem dX7_hand_5 : decode cX7_hand 5 = .ok (.getfield 80, 3) := by decide +kernel
theorem dX7_hand_8 : decode cX7_hand 8 = .ok (.invokestatic 51, 3) := by decide +kernel
theorem dX7_hand_11 : decode cX7_hand 11 = .ok (.ifCond .ne 5, 3) := by decide +kernel
theorem dX7_hand_14 : decode cX7_hand 14 = .ok (.iconst (-1), 1) := by decide +kernel
theorem dX7_hand_15 : decode cX7_hand 15 = .ok (.ireturn, 1) := by decide +kernel
theorem dX7_hand_16 : decode cX7_hand 16 = .ok (.aload_n 0, 1) := by decide +kernel
theorem dX7_hand_17 : decode cX7_hand 17 = .ok (.aload_n 0, 1) := by decide +kernel
theorem dX7_hand_18 : decode cX7_hand 18 = .ok (.getfield 10, 3) := by decide +kernel
theorem dX7_hand_21 : decode cX7_hand 21 = .ok (.getfield 80, 3) := by decide +kernel
theorem dX7_hand_24 : decode cX7_hand 24 = .ok (.invokevirtual 136, 3) := by decide +kernel
theorem dX7_hand_27 : decode cX7_hand 27 = .ok (.iload_n 2, 1) := by decide +kernel
theorem dX7_hand_28 : decode cX7_hand 28 = .ok (.tableswitch 96 0 4 #[36, 48, 60, 72, 84], 36) := by decide +kernel
theorem dX7_hand_64 : decode cX7_hand 64 = .ok (.aload_n 0, 1) := by decide +kernel
theorem dX7_hand_65 : decode cX7_hand 65 = .ok (.getfield 10, 3) := by decide +kernel
theorem dX7_hand_68 : decode cX7_hand 68 = .ok (.getfield 84, 3) := by decide +kernel
theorem dX7_hand_71 : decode cX7_hand 71 = .ok (.iload_n 1, 1) := by decide +kernel
theorem dX7_hand_72 : decode cX7_hand 72 = .ok (.invokevirtual 62, 3) := by decide +kernel
theorem dX7_hand_75 : decode cX7_hand 75 = .ok (.ireturn, 1) := by decide +kernel
theorem dX7_hand_76 : decode cX7_hand 76 = .ok (.aload_n 0, 1) := by decide +kernel
theorem dX7_hand_77 : decode cX7_hand 77 = .ok (.getfield 43, 3) := by decide +kernel
theorem dX7_hand_80 : decode cX7_hand 80 = .ok (.getfield 208, 3) := by decide +kernel
theorem dX7_hand_83 : decode cX7_hand 83 = .ok (.iload_n 1, 1) := by decide +kernel
theorem dX7_hand_84 : decode cX7_hand 84 = .ok (.invokevirtual 62, 3) := by decide +kernel
theorem dX7_hand_87 : decode cX7_hand 87 = .ok (.ireturn, 1) := by decide +kernel
theorem dX7_hand_88 : decode cX7_hand 88 = .ok (.aload_n 0, 1) := by decide +kernel
theorem dX7_hand_89 : decode cX7_hand 89 = .ok (.getfield 43, 3) := by decide +kernel
theorem dX7_hand_92 : decode cX7_hand 92 = .ok (.getfield 211, 3) := by decide +kernel
theorem dX7_hand_95 : decode cX7_hand 95 = .ok (.iload_n 1, 1) := by decide +kernel
theorem dX7_hand_96 : decode cX7_hand 96 = .ok (.invokevirtual 62, 3) := by decide +kernel
theorem dX7_hand_99 : decode cX7_hand 99 = .ok (.ireturn, 1) := by decide +kernel
theorem dX7_hand_100 : decode cX7_hand 100 = .ok (.aload_n 0, 1) := by decide +kernel
theorem dX7_hand_101 : decode cX7_hand 101 = .ok (.getfield 43, 3) := by decide +kernel
theorem dX7_hand_104 : decode cX7_hand 104 = .ok (.getfield 214, 3) := by decide +kernel
theorem dX7_hand_107 : decode cX7_hand 107 = .ok (.iload_n 1, 1) := by decide +kernel
theorem dX7_hand_108 : decode cX7_hand 108 = .ok (.invokevirtual 62, 3) := by decide +kernel
theorem dX7_hand_111 : decode cX7_hand 111 = .ok (.ireturn, 1) := by decide +kernel
theorem dX7_hand_112 : decode cX7_hand 112 = .ok (.aload_n 0, 1) := by decide +kernel
theorem dX7_hand_113 : decode cX7_hand 113 = .ok (.getfield 43, 3) := by decide +kernel
theorem dX7_hand_116 : decode cX7_hand 116 = .ok (.getfield 146, 3) := by decide +kernel
theorem dX7_hand_119 : decode cX7_hand 119 = .ok (.iload_n 1, 1) := by decide +kernel
theorem dX7_hand_120 : decode cX7_hand 120 = .ok (.invokevirtual 62, 3) := by decide +kernel
theorem dX7_hand_123 : decode cX7_hand 123 = .ok (.ireturn, 1) := by decide +kernel
theorem dX7_hand_124 : decode cX7_hand 124 = .ok (.bipush (-2), 2) := by decide +kernel
theorem dX7_hand_126 : decode cX7_hand 126 = .ok (.ireturn, 1) := by decide +kernel
set_option maxRecDepth 20000 in
theorem ggX7_hand_X4_get : GoodIn wsX7_hand wsX4_get := goodIn_r _ [36, 24, 140] (by decide +kernel) (by decide +kernel)
set_option maxRecDepth 20000 in
theorem gX7_hand_X4_get : GoodIn wsX7_hand (wsV RX7 62 RX4 yX4_get wsX4_get) := goodIn_app (goodIn_of _ (by decide +kernel)) ggX7_hand_X4_get
set_option maxRecDepth 20000 in
theorem ggX7_hand_X7_isBelow : GoodIn wsX7_hand wsX7_isBelow := goodIn_r _ [6] (by decide +kernel) (by decide +kernel)
set_option maxRecDepth 20000 in
theorem gX7_hand_X7_isBelow : GoodIn wsX7_hand (va_wsS RX7 51 yX7_isBelow wsX7_isBelow) := goodIn_app (goodIn_of _ (by decide +kernel)) ggX7_hand_X7_isBelow
set_option maxRecDepth 20000 in
theorem ggX7_hand_X7_rehearse : GoodIn wsX7_hand wsX7_rehearse := goodIn_r _ [10, 2, 1, 11, 12, 13, 14, 15, 16, 17, 18, 19, 20, 21, 22, 23, 24, 25, 26, 27, 28, 29, 30, 31, 32, 33, 34, 35, 36, 37, 38, 39, 40, 41, 42, 43, 44, 45, 46, 47, 48, 49, 50, 51, 52, 53, 54, 55, 56, 57, 58, 59, 60, 61, 62, 63, 64, 65, 66, 67, 68, 69, 70, 71, 72, 73, 74, 75, 76, 77, 78, 79, 80, 81, 82, 83, 84, 85, 86, 87, 88, 89, 90, 91, 92, 93, 94, 95, 96, 97, 98, 99, 100, 101, 102, 103, 104, 105, 107, 108, 109, 110, 111, 112, 113, 125, 126, 127, 128, 129, 130, 131, 132, 133, 134, 135, 136, 137, 138, 139, 114, 115, 116, 117, 118, 119, 120, 121, 122, 123, 124, 140, 141, 142, 143, 144, 145, 146] (by decide +kernel) (by decide +kernel)
set_option maxRecDepth 20000 in
theorem gX7_hand_X7_rehearse : GoodIn wsX7_hand (wsV RX7 136 RX7 yX7_rehearse wsX7_rehearse) := goodIn_app (goodIn_of _ (by decide +kernel)) ggX7_hand_X7_rehearse
theorem iX7_hand_3 : ∀ w ∈ u_ws RX3 TX3 15, w ∈ wsX7_hand := fun w h => List.mem_cons_of_mem _ (List.mem_append_left _ (List.mem_append_left _ (List.mem_append_right _ (h))))
theorem iX7_hand_5 : ∀ w ∈ u_ws RX5 TX5 11, w ∈ wsX7_hand := fun w h => List.mem_cons_of_mem _ (List.mem_append_left _ (List.mem_append_left _ (List.mem_append_left _ (List.mem_append_right _ (h)))))
theorem iX7_hand_7 : ∀ w ∈ u_ws RX7 TX7 7, w ∈ wsX7_hand := fun w h => List.mem_cons_of_mem _ (List.mem_append_left _ (List.mem_append_left _ (List.mem_append_left _ (List.mem_append_left _ (List.mem_append_right _ (h))))))
set_option maxHeartbeats 4000000 in
set_option maxRecDepth 100000 in
theorem c_X7_hand {E : EE} {l : Launch} {g : GG} {ad : Nat → Nat} (hg : gwf g) {o0 : Nat} {x1 : Int} {x2 : Int} {M : Mm} {Q : Int → Mm → Prop} (k_o0 : gk g o0 = 7) (h : p_X7_hand g o0 x1 x2 M Q) : Ct E l yX7_hand wsX7_hand rmX7_hand g ad [.ref (ad o0), cI x1, cI x2] M (QI E g ad Q) := by
  refine ent (cc := cX7_hand) (maxL := 3) (ret := (some .int)) (own := RX7) (by decide +kernel) rfl rfl (Nat.le_of_ble_eq_true rfl) ?_
  intro p e s m below meth c ls X hr hlk K w hl
  have hl : lv_has ls 3 [(0, .ref (ad o0)), (1, cI x1), (2, cI x2)] := hl
  unfold p_X7_hand at h
  refine lv_iload_n X.1 X.2.1 dX7_hand_0 rfl (lv_at hl 1 rfl) ?_
  refine lv_aload_n X.1 X.2.1 dX7_hand_1 rfl (lv_at hl 0 rfl) ?_
  refine r_getr (N := 7) (T := TX7) X K w iX7_hand_7 k_o0 rfl (by decide) 0 (by decide) rfl rfl (List.mem_of_getElem? (i := 1) rfl) dX7_hand_2 ?_
  have k1 : gk g (o0 + 1) = 5 := gch hg k_o0 (by decide) 0 (by decide) rfl rfl
  refine r_getiN (N := 11) (T := TX5) (kz := 5) X K w iX7_hand_5 k1 rfl (by decide) 5 (by decide) rfl rfl rfl (List.mem_of_getElem? (i := 18) rfl) dX7_hand_5 ?_
  refine q_i (x_S (As := [cI x1, cI (M (o0 + 1) 5)]) (rest := []) X K w (c_X7_isBelow hg h) (va_cwS 2 X.2.2.2.2 gX7_hand_X7_isBelow rfl rfl rfl (by decide +kernel) ⟨Nat.le_of_ble_eq_true rfl, Nat.le_of_ble_eq_true rfl⟩) rfl hl rfl (Nat.le_of_ble_eq_true rfl) dX7_hand_8 ⟨Nat.le_of_ble_eq_true rfl, Nat.le_of_ble_eq_true rfl⟩) w (fun r3 M2 H locs h w => ?_)
  obtain ⟨i0, h1, h2⟩ := h
  refine r_if_ne (tgt := 16) X i0 dX7_hand_11 (by decide) (fun cc => ?_) (fun cc => ?_)
  · have h := h1 cc
    refine lv_aload_n X.1 X.2.1 dX7_hand_16 rfl (lv_at hl 0 rfl) ?_
    refine lv_aload_n X.1 X.2.1 dX7_hand_17 rfl (lv_at hl 0 rfl) ?_
    refine r_getr (N := 7) (T := TX7) X K w iX7_hand_7 k_o0 rfl (by decide) 0 (by decide) rfl rfl (List.mem_of_getElem? (i := 1) rfl) dX7_hand_18 ?_
    have k4 : gk g (o0 + 1) = 5 := gch hg k_o0 (by decide) 0 (by decide) rfl rfl
    refine r_getiN (N := 11) (T := TX5) (kz := 5) X K w iX7_hand_5 k4 rfl (by decide) 5 (by decide) rfl rfl rfl (List.mem_of_getElem? (i := 18) rfl) dX7_hand_21 ?_
    refine q_v (x_V (As := [cI (M2 (o0 + 1) 5)]) (rest := []) X K w (c_X7_rehearse hg k_o0 h) (cwV 1 X.2.2.2.2 gX7_hand_X7_rehearse rfl rfl rfl (by decide +kernel) ⟨Nat.le_of_ble_eq_true rfl, Nat.le_of_ble_eq_true rfl⟩) k_o0 (by decide) rfl rfl hl rfl (Nat.le_of_ble_eq_true rfl) dX7_hand_24 ⟨Nat.le_of_ble_eq_true rfl, Nat.le_of_ble_eq_true rfl⟩) w (fun M5 H locs h w => ?_)
    refine lv_iload_n X.1 X.2.1 dX7_hand_27 rfl (lv_at hl 2 rfl) ?_
    obtain ⟨i0, h⟩ := h
    obtain ⟨h1, h⟩ := h
    by_cases cs0 : x2 = 0
    · have h := h1 cs0
      refine r_tabIn (tgt := 64) X i0 dX7_hand_28 0 cs0 (by decide) (by decide) rfl (by decide) ?_
      refine lv_aload_n X.1 X.2.1 dX7_hand_64 rfl (lv_at hl 0 rfl) ?_
      refine r_getr (N := 7) (T := TX7) X K w iX7_hand_7 k_o0 rfl (by decide) 0 (by decide) rfl rfl (List.mem_of_getElem? (i := 1) rfl) dX7_hand_65 ?_
      have k6 : gk g (o0 + 1) = 5 := gch hg k_o0 (by decide) 0 (by decide) rfl rfl
      refine r_getrN (N := 11) (T := TX5) X K w iX7_hand_5 k6 rfl (by decide) 3 (by decide) rfl rfl (List.mem_of_getElem? (i := 14) rfl) dX7_hand_68 ?_
      have k7 : gk g ((o0 + 1) + 7) = 4 := gch hg k6 (by decide) 3 (by decide) rfl rfl
      refine lv_iload_n X.1 X.2.1 dX7_hand_71 rfl (lv_at hl 1 rfl) ?_
      refine q_i (x_V (As := [cI x1]) (rest := []) X K w (c_X4_get hg k7 h) (cwV 1 X.2.2.2.2 gX7_hand_X4_get rfl rfl rfl (by decide +kernel) ⟨Nat.le_of_ble_eq_true rfl, Nat.le_of_ble_eq_true rfl⟩) k7 (by decide) rfl rfl hl rfl (Nat.le_of_ble_eq_true rfl) dX7_hand_72 ⟨Nat.le_of_ble_eq_true rfl, Nat.le_of_ble_eq_true rfl⟩) w (fun r9 M8 H locs h w => ?_)
      exact r_ireturn X hr hlk K w h dX7_hand_75
    obtain ⟨h1, h⟩ := h
    by_cases cs1 : x2 = 1
    · have h := h1 cs1
      refine r_tabIn (tgt := 76) X i0 dX7_hand_28 1 cs1 (by decide) (by decide) rfl (by decide) ?_
      refine lv_aload_n X.1 X.2.1 dX7_hand_76 rfl (lv_at hl 0 rfl) ?_
      refine r_getr (N := 7) (T := TX7) X K w iX7_hand_7 k_o0 rfl (by decide) 5 (by decide) rfl rfl (List.mem_of_getElem? (i := 2) rfl) dX7_hand_77 ?_
      have k10 : gk g (o0 + 124) = 3 := gch hg k_o0 (by decide) 5 (by decide) rfl rfl
      refine r_getrN (N := 15) (T := TX3) X K w iX7_hand_3 k10 rfl (by decide) 5 (by decide) rfl rfl (List.mem_of_getElem? (i := 35) rfl) dX7_hand_80 ?_
      have k11 : gk g ((o0 + 124) + 11) = 4 := gch hg k10 (by decide) 5 (by decide) rfl rfl
      refine lv_iload_n X.1 X.2.1 dX7_hand_83 rfl (lv_at hl 1 rfl) ?_
      refine q_i (x_V (As := [cI x1]) (rest := []) X K w (c_X4_get hg k11 h) (cwV 1 X.2.2.2.2 gX7_hand_X4_get rfl rfl rfl (by decide +kernel) ⟨Nat.le_of_ble_eq_true rfl, Nat.le_of_ble_eq_true rfl⟩) k11 (by decide) rfl rfl hl rfl (Nat.le_of_ble_eq_true rfl) dX7_hand_84 ⟨Nat.le_of_ble_eq_true rfl, Nat.le_of_ble_eq_true rfl⟩) w (fun r13 M12 H locs h w => ?_)
      exact r_ireturn X hr hlk K w h dX7_hand_87
    obtain ⟨h1, h⟩ := h
    by_cases cs2 : x2 = 2
    · have h := h1 cs2
      refine r_tabIn (tgt := 88) X i0 dX7_hand_28 2 cs2 (by decide) (by decide) rfl (by decide) ?_
      refine lv_aload_n X.1 X.2.1 dX7_hand_88 rfl (lv_at hl 0 rfl) ?_
      refine r_getr (N := 7) (T := TX7) X K w iX7_hand_7 k_o0 rfl (by decide) 5 (by decide) rfl rfl (List.mem_of_getElem? (i := 2) rfl) dX7_hand_89 ?_
      have k14 : gk g (o0 + 124) = 3 := gch hg k_o0 (by decide) 5 (by decide) rfl rfl
      refine r_getrN (N := 15) (T := TX3) X K w iX7_hand_3 k14 rfl (by decide) 6 (by decide) rfl rfl (List.mem_of_getElem? (i := 36) rfl) dX7_hand_92 ?_
      have k15 : gk g ((o0 + 124) + 13) = 4 := gch hg k14 (by decide) 6 (by decide) rfl rfl
      refine lv_iload_n X.1 X.2.1 dX7_hand_95 rfl (lv_at hl 1 rfl) ?_
      refine q_i (x_V (As := [cI x1]) (rest := []) X K w (c_X4_get hg k15 h) (cwV 1 X.2.2.2.2 gX7_hand_X4_get rfl rfl rfl (by decide +kernel) ⟨Nat.le_of_ble_eq_true rfl, Nat.le_of_ble_eq_true rfl⟩) k15 (by decide) rfl rfl hl rfl (Nat.le_of_ble_eq_true rfl) dX7_hand_96 ⟨Nat.le_of_ble_eq_true rfl, Nat.le_of_ble_eq_true rfl⟩) w (fun r17 M16 H locs h w => ?_)
      exact r_ireturn X hr hlk K w h dX7_hand_99
    obtain ⟨h1, h⟩ := h
    by_cases cs3 : x2 = 3
    · have h := h1 cs3
      refine r_tabIn (tgt := 100) X i0 dX7_hand_28 3 cs3 (by decide) (by decide) rfl (by decide) ?_
      refine lv_aload_n X.1 X.2.1 dX7_hand_100 rfl (lv_at hl 0 rfl) ?_
      refine r_getr (N := 7) (T := TX7) X K w iX7_hand_7 k_o0 rfl (by decide) 5 (by decide) rfl rfl (List.mem_of_getElem? (i := 2) rfl) dX7_hand_101 ?_
      have k18 : gk g (o0 + 124) = 3 := gch hg k_o0 (by decide) 5 (by decide) rfl rfl
      refine r_getrN (N := 15) (T := TX3) X K w iX7_hand_3 k18 rfl (by decide) 4 (by decide) rfl rfl (List.mem_of_getElem? (i := 34) rfl) dX7_hand_104 ?_
      have k19 : gk g ((o0 + 124) + 9) = 4 := gch hg k18 (by decide) 4 (by decide) rfl rfl
      refine lv_iload_n X.1 X.2.1 dX7_hand_107 rfl (lv_at hl 1 rfl) ?_
      refine q_i (x_V (As := [cI x1]) (rest := []) X K w (c_X4_get hg k19 h) (cwV 1 X.2.2.2.2 gX7_hand_X4_get rfl rfl rfl (by decide +kernel) ⟨Nat.le_of_ble_eq_true rfl, Nat.le_of_ble_eq_true rfl⟩) k19 (by decide) rfl rfl hl rfl (Nat.le_of_ble_eq_true rfl) dX7_hand_108 ⟨Nat.le_of_ble_eq_true rfl, Nat.le_of_ble_eq_true rfl⟩) w (fun r21 M20 H locs h w => ?_)
      exact r_ireturn X hr hlk K w h dX7_hand_111
    obtain ⟨h1, h⟩ := h
    by_cases cs4 : x2 = 4
    · have h := h1 cs4
      refine r_tabIn (tgt := 112) X i0 dX7_hand_28 4 cs4 (by decide) (by decide) rfl (by decide) ?_
      refine lv_aload_n X.1 X.2.1 dX7_hand_112 rfl (lv_at hl 0 rfl) ?_
      refine r_getr (N := 7) (T := TX7) X K w iX7_hand_7 k_o0 rfl (by decide) 5 (by decide) rfl rfl (List.mem_of_getElem? (i := 2) rfl) dX7_hand_113 ?_
      have k22 : gk g (o0 + 124) = 3 := gch hg k_o0 (by decide) 5 (by decide) rfl rfl
      refine r_getrN (N := 15) (T := TX3) X K w iX7_hand_3 k22 rfl (by decide) 3 (by decide) rfl rfl (List.mem_of_getElem? (i := 33) rfl) dX7_hand_116 ?_
      have k23 : gk g ((o0 + 124) + 7) = 4 := gch hg k22 (by decide) 3 (by decide) rfl rfl
      refine lv_iload_n X.1 X.2.1 dX7_hand_119 rfl (lv_at hl 1 rfl) ?_
      refine q_i (x_V (As := [cI x1]) (rest := []) X K w (c_X4_get hg k23 h) (cwV 1 X.2.2.2.2 gX7_hand_X4_get rfl rfl rfl (by decide +kernel) ⟨Nat.le_of_ble_eq_true rfl, Nat.le_of_ble_eq_true rfl⟩) k23 (by decide) rfl rfl hl rfl (Nat.le_of_ble_eq_true rfl) dX7_hand_120 ⟨Nat.le_of_ble_eq_true rfl, Nat.le_of_ble_eq_true rfl⟩) w (fun r25 M24 H locs h w => ?_)
      exact r_ireturn X hr hlk K w h dX7_hand_123
    have co : x2 < 0 ∨ 4 < x2 := by omega
    replace h := h co
    refine r_tabOut (tgt := 124) X i0 dX7_hand_28 co (by decide) ?_
    refine r_bipush X dX7_hand_124 (by decide +kernel) ?_
    exact r_ireturn X hr hlk K w h dX7_hand_126
  · have h := h2 cc
    refine r_iconst X dX7_hand_14 ?_
    exact r_ireturn X hr hlk K w h dX7_hand_15
theorem dX7_scene_0 : decode cX7_scene 0 = .ok (.iload_n 1, 1) := by decide +kernel
theorem dX7_scene_1 : decode cX7_scene 1 = .ok (.bipush 6, 2) := by decide +kernel
theorem dX7_scene_3 : decode cX7_scene 3 = .ok (.invokestatic 51, 3) := by decide +kernel
theorem dX7_scene_6 : decode cX7_scene 6 = .ok (.ifCond .ne 5, 3) := by decide +kernel
theorem dX7_scene_9 : decode cX7_scene 9 = .ok (.iconst (-1), 1) := by decide +kernel
theorem dX7_scene_10 : decode cX7_scene 10 = .ok (.ireturn, 1) := by decide +kernel
theorem dX7_scene_11 : decode cX7_scene 11 = .ok (.iload_n 2, 1) := by decide +kernel
theorem dX7_scene_12 : decode cX7_scene 12 = .ok (.tableswitch 118 0 4 #[36, 48, 60, 72, 95], 36) := by decide +kernel
theorem dX7_scene_48 : decode cX7_scene 48 = .ok (.aload_n 0, 1) := by decide +kernel
theorem dX7_scene_49 : decode cX7_scene 49 = .ok (.getfield 10, 3) := by decide +kernel
theorem dX7_scene_52 : decode cX7_scene 52 = .ok (.getfield 91, 3) := by decide +kernel
theorem dX7_scene_55 : decode cX7_scene 55 = .ok (.iload_n 1, 1) := by decide +kernel
theorem dX7_scene_56 : decode cX7_scene 56 = .ok (.invokevirtual 127, 3) := by decide +kernel
theorem dX7_scene_59 : decode cX7_scene 59 = .ok (.ireturn, 1) := by decide +kernel
theorem dX7_scene_60 : decode cX7_scene 60 = .ok (.aload_n 0, 1) := by decide +kernel
theorem dX7_scene_61 : decode cX7_scene 61 = .ok (.getfield 10, 3) := by decide +kernel
theorem dX7_scene_64 : decode cX7_scene 64 = .ok (.getfield 91, 3) := by decide +kernel
theorem dX7_scene_67 : decode cX7_scene 67 = .ok (.iload_n 1, 1) := by decide +kernel
theorem dX7_scene_68 : decode cX7_scene 68 = .ok (.invokevirtual 217, 3) := by decide +kernel
theorem dX7_scene_71 : decode cX7_scene 71 = .ok (.ireturn, 1) := by decide +kernel
theorem dX7_scene_72 : decode cX7_scene 72 = .ok (.aload_n 0, 1) := by decide +kernel
theorem dX7_scene_73 : decode cX7_scene 73 = .ok (.getfield 10, 3) := by decide +kernel
theorem dX7_scene_76 : decode cX7_scene 76 = .ok (.getfield 91, 3) := by decide +kernel
theorem dX7_scene_79 : decode cX7_scene 79 = .ok (.iload_n 1, 1) := by decide +kernel
theorem dX7_scene_80 : decode cX7_scene 80 = .ok (.invokevirtual 220, 3) := by decide +kernel
theorem dX7_scene_83 : decode cX7_scene 83 = .ok (.ireturn, 1) := by decide +kernel
theorem dX7_scene_84 : decode cX7_scene 84 = .ok (.aload_n 0, 1) := by decide +kernel
theorem dX7_scene_85 : decode cX7_scene 85 = .ok (.aload_n 0, 1) := by decide +kernel
theorem dX7_scene_86 : decode cX7_scene 86 = .ok (.getfield 10, 3) := by decide +kernel
theorem dX7_scene_89 : decode cX7_scene 89 = .ok (.getfield 80, 3) := by decide +kernel
theorem dX7_scene_92 : decode cX7_scene 92 = .ok (.invokevirtual 136, 3) := by decide +kernel
theorem dX7_scene_95 : decode cX7_scene 95 = .ok (.aload_n 0, 1) := by decide +kernel
theorem dX7_scene_96 : decode cX7_scene 96 = .ok (.getfield 43, 3) := by decide +kernel
theorem dX7_scene_99 : decode cX7_scene 99 = .ok (.getfield 223, 3) := by decide +kernel
theorem dX7_scene_102 : decode cX7_scene 102 = .ok (.iload_n 1, 1) := by decide +kernel
theorem dX7_scene_103 : decode cX7_scene 103 = .ok (.invokevirtual 62, 3) := by decide +kernel
theorem dX7_scene_106 : decode cX7_scene 106 = .ok (.ireturn, 1) := by decide +kernel
theorem dX7_scene_107 : decode cX7_scene 107 = .ok (.aload_n 0, 1) := by decide +kernel
theorem dX7_scene_108 : decode cX7_scene 108 = .ok (.aload_n 0, 1) := by decide +kernel
theorem dX7_scene_109 : decode cX7_scene 109 = .ok (.getfield 10, 3) := by decide +kernel
theorem dX7_scene_112 : decode cX7_scene 112 = .ok (.getfield 80, 3) := by decide +kernel
theorem dX7_scene_115 : decode cX7_scene 115 = .ok (.invokevirtual 136, 3) := by decide +kernel
theorem dX7_scene_118 : decode cX7_scene 118 = .ok (.aload_n 0, 1) := by decide +kernel
theorem dX7_scene_119 : decode cX7_scene 119 = .ok (.getfield 43, 3) := by decide +kernel
theorem dX7_scene_122 : decode cX7_scene 122 = .ok (.getfield 226, 3) := by decide +kernel
theorem dX7_scene_125 : decode cX7_scene 125 = .ok (.iload_n 1, 1) := by decide +kernel
theorem dX7_scene_126 : decode cX7_scene 126 = .ok (.invokevirtual 62, 3) := by decide +kernel
theorem dX7_scene_129 : decode cX7_scene 129 = .ok (.ireturn, 1) := by decide +kernel
theorem dX7_scene_130 : decode cX7_scene 130 = .ok (.bipush (-2), 2) := by decide +kernel
theorem dX7_scene_132 : decode cX7_scene 132 = .ok (.ireturn, 1) := by decide +kernel
set_option maxRecDepth 20000 in
theorem ggX7_scene_X0_firstTick : GoodIn wsX7_scene wsX0_firstTick := goodIn_r _ [27, 17, 12, 28, 18, 19, 20, 21, 22, 23, 162, 163, 164, 165, 166, 167, 168] (by decide +kernel) (by decide +kernel)
set_option maxRecDepth 20000 in
theorem gX7_scene_X0_firstTick : GoodIn wsX7_scene (wsV RX7 217 RX0 yX0_firstTick wsX0_firstTick) := goodIn_app (goodIn_of _ (by decide +kernel)) ggX7_scene_X0_firstTick
set_option maxRecDepth 20000 in
theorem ggX7_scene_X0_greatestEnd : GoodIn wsX7_scene wsX0_greatestEnd := goodIn_r _ [32, 17, 12, 33, 34, 35, 36, 18, 19, 20, 21, 22, 23, 37, 38, 39, 10, 40, 28, 41, 162, 163, 164, 165, 166, 167, 168] (by decide +kernel) (by decide +kernel)
set_option maxRecDepth 20000 in
theorem gX7_scene_X0_greatestEnd : GoodIn wsX7_scene (wsV RX7 220 RX0 yX0_greatestEnd wsX0_greatestEnd) := goodIn_app (goodIn_of _ (by decide +kernel)) ggX7_scene_X0_greatestEnd
set_option maxRecDepth 20000 in
theorem ggX7_scene_X0_sizeOfScene : GoodIn wsX7_scene wsX0_sizeOfScene := goodIn_r _ [11, 12, 13, 14, 15, 10, 16, 17, 18, 19, 20, 21, 22, 23, 162, 163, 164, 165, 166, 167, 168] (by decide +kernel) (by decide +kernel)
set_option maxRecDepth 20000 in
theorem gX7_scene_X0_sizeOfScene : GoodIn wsX7_scene (wsV RX7 127 RX0 yX0_sizeOfScene wsX0_sizeOfScene) := goodIn_app (goodIn_of _ (by decide +kernel)) ggX7_scene_X0_sizeOfScene
set_option maxRecDepth 20000 in
theorem ggX7_scene_X4_get : GoodIn wsX7_scene wsX4_get := goodIn_r _ [22, 23, 168] (by decide +kernel) (by decide +kernel)
set_option maxRecDepth 20000 in
theorem gX7_scene_X4_get : GoodIn wsX7_scene (wsV RX7 62 RX4 yX4_get wsX4_get) := goodIn_app (goodIn_of _ (by decide +kernel)) ggX7_scene_X4_get
set_option maxRecDepth 20000 in
theorem ggX7_scene_X7_isBelow : GoodIn wsX7_scene wsX7_isBelow := goodIn_r _ [6] (by decide +kernel) (by decide +kernel)
set_option maxRecDepth 20000 in
theorem gX7_scene_X7_isBelow : GoodIn wsX7_scene (va_wsS RX7 51 yX7_isBelow wsX7_isBelow) := goodIn_app (goodIn_of _ (by decide +kernel)) ggX7_scene_X7_isBelow
set_option maxRecDepth 20000 in
theorem ggX7_scene_X7_rehearse : GoodIn wsX7_scene wsX7_rehearse := goodIn_r _ [45, 2, 1, 46, 47, 48, 49, 50, 51, 52, 53, 54, 55, 56, 21, 57, 23, 58, 59, 35, 60, 61, 62, 63, 64, 65, 19, 20, 22, 66, 67, 68, 69, 70, 71, 72, 73, 74, 75, 76, 77, 78, 79, 80, 81, 82, 83, 84, 85, 86, 87, 88, 89, 90, 91, 92, 93, 94, 95, 96, 97, 98, 99, 100, 101, 102, 103, 104, 105, 106, 107, 108, 109, 110, 111, 112, 113, 114, 115, 116, 117, 118, 119, 120, 121, 122, 123, 38, 39, 10, 40, 28, 41, 18, 124, 125, 126, 127, 129, 130, 131, 132, 133, 134, 135, 147, 148, 149, 150, 151, 152, 153, 154, 155, 156, 157, 158, 159, 160, 161, 136, 137, 138, 139, 140, 141, 142, 143, 144, 145, 146, 168, 162, 163, 164, 165, 166, 167] (by decide +kernel) (by decide +kernel)
set_option maxRecDepth 20000 in
theorem gX7_scene_X7_rehearse : GoodIn wsX7_scene (wsV RX7 136 RX7 yX7_rehearse wsX7_rehearse) := goodIn_app (goodIn_of _ (by decide +kernel)) ggX7_scene_X7_rehearse
theorem iX7_scene_3 : ∀ w ∈ u_ws RX3 TX3 15, w ∈ wsX7_scene := fun w h => List.mem_cons_of_mem _ (List.mem_append_left _ (List.mem_append_left _ (List.mem_append_right _ (h))))
theorem iX7_scene_5 : ∀ w ∈ u_ws RX5 TX5 11, w ∈ wsX7_scene := fun w h => List.mem_cons_of_mem _ (List.mem_append_left _ (List.mem_append_left _ (List.mem_append_left _ (List.mem_append_right _ (h)))))
theorem iX7_scene_7 : ∀ w ∈ u_ws RX7 TX7 7, w ∈ wsX7_scene := fun w h => List.mem_cons_of_mem _ (List.mem_append_left _ (List.mem_append_left _ (List.mem_append_left _ (List.mem_append_left _ (List.mem_append_right _ (h))))))
set_option maxHeartbeats 4000000 in
set_option maxRecDepth 100000 in
theorem c_X7_scene {E : EE} {l : Launch} {g : GG} {ad : Nat → Nat} (hg : gwf g) {o0 : Nat} {x1 : Int} {x2 : Int} {M : Mm} {Q : Int → Mm → Prop} (k_o0 : gk g o0 = 7) (h : p_X7_scene g o0 x1 x2 M Q) : Ct E l yX7_scene wsX7_scene rmX7_scene g ad [.ref (ad o0), cI x1, cI x2] M (QI E g ad Q) := by
  refine ent (cc := cX7_scene) (maxL := 3) (ret := (some .int)) (own := RX7) (by decide +kernel) rfl rfl (Nat.le_of_ble_eq_true rfl) ?_
  intro p e s m below meth c ls X hr hlk K w hl
  have hl : lv_has ls 3 [(0, .ref (ad o0)), (1, cI x1), (2, cI x2)] := hl
  unfold p_X7_scene at h
  refine lv_iload_n X.1 X.2.1 dX7_scene_0 rfl (lv_at hl 1 rfl) ?_
  refine r_bipush X dX7_scene_1 (by decide +kernel) ?_
  refine q_i (x_S (As := [cI x1, cI 6]) (rest := []) X K w (c_X7_isBelow hg h) (va_cwS 2 X.2.2.2.2 gX7_scene_X7_isBelow rfl rfl rfl (by decide +kernel) ⟨Nat.le_of_ble_eq_true rfl, Nat.le_of_ble_eq_true rfl⟩) rfl hl rfl (Nat.le_of_ble_eq_true rfl) dX7_scene_3 ⟨Nat.le_of_ble_eq_true rfl, Nat.le_of_ble_eq_true rfl⟩) w (fun r2 M1 H locs h w => ?_)
  obtain ⟨i0, h1, h2⟩ := h
  refine r_if_ne (tgt := 11) X i0 dX7_scene_6 (by decide) (fun cc => ?_) (fun cc => ?_)
  · have h := h1 cc
    refine lv_iload_n X.1 X.2.1 dX7_scene_11 rfl (lv_at hl 2 rfl) ?_
    obtain ⟨i0, h⟩ := h
    obtain ⟨h1, h⟩ := h
    by_cases cs0 : x2 = 0
    · have h := h1 cs0
      refine r_tabIn (tgt := 48) X i0 dX7_scene_12 0 cs0 (by decide) (by decide) rfl (by decide) ?_
      refine lv_aload_n X.1 X.2.1 dX7_scene_48 rfl (lv_at hl 0 rfl) ?_
      refine r_getr (N := 7) (T := TX7) X K w iX7_scene_7 k_o0 rfl (by decide) 0 (by decide) rfl rfl (List.mem_of_getElem? (i := 1) rfl) dX7_scene_49 ?_
      have k3 : gk g (o0 + 1) = 5 := gch hg k_o0 (by decide) 0 (by decide) rfl rfl
      refine r_getrN (N := 11) (T := TX5) X K w iX7_scene_5 k3 rfl (by decide) 4 (by decide) rfl rfl (List.mem_of_getElem? (i := 16) rfl) dX7_scene_52 ?_
      have k4 : gk g ((o0 + 1) + 9) = 0 := gch hg k3 (by decide) 4 (by decide) rfl rfl
      refine lv_iload_n X.1 X.2.1 dX7_scene_55 rfl (lv_at hl 1 rfl) ?_
      refine q_i (x_V (As := [cI x1]) (rest := []) X K w (c_X0_sizeOfScene hg k4 h) (cwV 1 X.2.2.2.2 gX7_scene_X0_sizeOfScene rfl rfl rfl (by decide +kernel) ⟨Nat.le_of_ble_eq_true rfl, Nat.le_of_ble_eq_true rfl⟩) k4 (by decide) rfl rfl hl rfl (Nat.le_of_ble_eq_true rfl) dX7_scene_56 ⟨Nat.le_of_ble_eq_true rfl, Nat.le_of_ble_eq_true rfl⟩) w (fun r6 M5 H locs h w => ?_)
      exact r_ireturn X hr hlk K w h dX7_scene_59
    obtain ⟨h1, h⟩ := h
    by_cases cs1 : x2 = 1
    · have h := h1 cs1
      refine r_tabIn (tgt := 60) X i0 dX7_scene_12 1 cs1 (by decide) (by decide) rfl (by decide) ?_
      refine lv_aload_n X.1 X.2.1 dX7_scene_60 rfl (lv_at hl 0 rfl) ?_
      refine r_getr (N := 7) (T := TX7) X K w iX7_scene_7 k_o0 rfl (by decide) 0 (by decide) rfl rfl (List.mem_of_getElem? (i := 1) rfl) dX7_scene_61 ?_
      have k7 : gk g (o0 + 1) = 5 := gch hg k_o0 (by decide) 0 (by decide) rfl rfl
      refine r_getrN (N := 11) (T := TX5) X K w iX7_scene_5 k7 rfl (by decide) 4 (by decide) rfl rfl (List.mem_of_getElem? (i := 16) rfl) dX7_scene_64 ?_
      have k8 : gk g ((o0 + 1) + 9) = 0 := gch hg k7 (by decide) 4 (by decide) rfl rfl
      refine lv_iload_n X.1 X.2.1 dX7_scene_67 rfl (lv_at hl 1 rfl) ?_
      refine q_i (x_V (As := [cI x1]) (rest := []) X K w (c_X0_firstTick hg k8 h) (cwV 1 X.2.2.2.2 gX7_scene_X0_firstTick rfl rfl rfl (by decide +kernel) ⟨Nat.le_of_ble_eq_true rfl, Nat.le_of_ble_eq_true rfl⟩) k8 (by decide) rfl rfl hl rfl (Nat.le_of_ble_eq_true rfl) dX7_scene_68 ⟨Nat.le_of_ble_eq_true rfl, Nat.le_of_ble_eq_true rfl⟩) w (fun r10 M9 H locs h w => ?_)
      exact r_ireturn X hr hlk K w h dX7_scene_71
    obtain ⟨h1, h⟩ := h
    by_cases cs2 : x2 = 2
    · have h := h1 cs2
      refine r_tabIn (tgt := 72) X i0 dX7_scene_12 2 cs2 (by decide) (by decide) rfl (by decide) ?_
      refine lv_aload_n X.1 X.2.1 dX7_scene_72 rfl (lv_at hl 0 rfl) ?_
      refine r_getr (N := 7) (T := TX7) X K w iX7_scene_7 k_o0 rfl (by decide) 0 (by decide) rfl rfl (List.mem_of_getElem? (i := 1) rfl) dX7_scene_73 ?_
      have k11 : gk g (o0 + 1) = 5 := gch hg k_o0 (by decide) 0 (by decide) rfl rfl
      refine r_getrN (N := 11) (T := TX5) X K w iX7_scene_5 k11 rfl (by decide) 4 (by decide) rfl rfl (List.mem_of_getElem? (i := 16) rfl) dX7_scene_76 ?_
      have k12 : gk g ((o0 + 1) + 9) = 0 := gch hg k11 (by decide) 4 (by decide) rfl rfl
      refine lv_iload_n X.1 X.2.1 dX7_scene_79 rfl (lv_at hl 1 rfl) ?_
      refine q_i (x_V (As := [cI x1]) (rest := []) X K w (c_X0_greatestEnd hg k12 h) (cwV 1 X.2.2.2.2 gX7_scene_X0_greatestEnd rfl rfl rfl (by decide +kernel) ⟨Nat.le_of_ble_eq_true rfl, Nat.le_of_ble_eq_true rfl⟩) k12 (by decide) rfl rfl hl rfl (Nat.le_of_ble_eq_true rfl) dX7_scene_80 ⟨Nat.le_of_ble_eq_true rfl, Nat.le_of_ble_eq_true rfl⟩) w (fun r14 M13 H locs h w => ?_)
      exact r_ireturn X hr hlk K w h dX7_scene_83
    obtain ⟨h1, h⟩ := h
    by_cases cs3 : x2 = 3
    · have h := h1 cs3
      refine r_tabIn (tgt := 84) X i0 dX7_scene_12 3 cs3 (by decide) (by decide) rfl (by decide) ?_
      refine lv_aload_n X.1 X.2.1 dX7_scene_84 rfl (lv_at hl 0 rfl) ?_
      refine lv_aload_n X.1 X.2.1 dX7_scene_85 rfl (lv_at hl 0 rfl) ?_
      refine r_getr (N := 7) (T := TX7) X K w iX7_scene_7 k_o0 rfl (by decide) 0 (by decide) rfl rfl (List.mem_of_getElem? (i := 1) rfl) dX7_scene_86 ?_
      have k15 : gk g (o0 + 1) = 5 := gch hg k_o0 (by decide) 0 (by decide) rfl rfl
      refine r_getiN (N := 11) (T := TX5) (kz := 5) X K w iX7_scene_5 k15 rfl (by decide) 5 (by decide) rfl rfl rfl (List.mem_of_getElem? (i := 18) rfl) dX7_scene_89 ?_
      refine q_v (x_V (As := [cI (M1 (o0 + 1) 5)]) (rest := []) X K w (c_X7_rehearse hg k_o0 h) (cwV 1 X.2.2.2.2 gX7_scene_X7_rehearse rfl rfl rfl (by decide +kernel) ⟨Nat.le_of_ble_eq_true rfl, Nat.le_of_ble_eq_true rfl⟩) k_o0 (by decide) rfl rfl hl rfl (Nat.le_of_ble_eq_true rfl) dX7_scene_92 ⟨Nat.le_of_ble_eq_true rfl, Nat.le_of_ble_eq_true rfl⟩) w (fun M16 H locs h w => ?_)
      refine lv_aload_n X.1 X.2.1 dX7_scene_95 rfl (lv_at hl 0 rfl) ?_
      refine r_getr (N := 7) (T := TX7) X K w iX7_scene_7 k_o0 rfl (by decide) 5 (by decide) rfl rfl (List.mem_of_getElem? (i := 2) rfl) dX7_scene_96 ?_
      have k17 : gk g (o0 + 124) = 3 := gch hg k_o0 (by decide) 5 (by decide) rfl rfl
      refine r_getrN (N := 15) (T := TX3) X K w iX7_scene_3 k17 rfl (by decide) 10 (by decide) rfl rfl (List.mem_of_getElem? (i := 40) rfl) dX7_scene_99 ?_
      have k18 : gk g ((o0 + 124) + 21) = 4 := gch hg k17 (by decide) 10 (by decide) rfl rfl
      refine lv_iload_n X.1 X.2.1 dX7_scene_102 rfl (lv_at hl 1 rfl) ?_
      refine q_i (x_V (As := [cI x1]) (rest := []) X K w (c_X4_get hg k18 h) (cwV 1 X.2.2.2.2 gX7_scene_X4_get rfl rfl rfl (by decide +kernel) ⟨Nat.le_of_ble_eq_true rfl, Nat.le_of_ble_eq_true rfl⟩) k18 (by decide) rfl rfl hl rfl (Nat.le_of_ble_eq_true rfl) dX7_scene_103 ⟨Nat.le_of_ble_eq_true rfl, Nat.le_of_ble_eq_true rfl⟩) w (fun r20 M19 H locs h w => ?_)
      exact r_ireturn X hr hlk K w h dX7_scene_106
    obtain ⟨h1, h⟩ := h
    by_cases cs4 : x2 = 4
    · have h := h1 cs4
      refine r_tabIn (tgt := 107) X i0 dX7_scene_12 4 cs4 (by decide) (by decide) rfl (by decide) ?_
      refine lv_aload_n X.1 X.2.1 dX7_scene_107 rfl (lv_at hl 0 rfl) ?_
      refine lv_aload_n X.1 X.2.1 dX7_scene_108 rfl (lv_at hl 0 rfl) ?_
      refine r_getr (N := 7) (T := TX7) X K w iX7_scene_7 k_o0 rfl (by decide) 0 (by decide) rfl rfl (List.mem_of_getElem? (i := 1) rfl) dX7_scene_109 ?_
      have k21 : gk g (o0 + 1) = 5 := gch hg k_o0 (by decide) 0 (by decide) rfl rfl
      refine r_getiN (N := 11) (T := TX5) (kz := 5) X K w iX7_scene_5 k21 rfl (by decide) 5 (by decide) rfl rfl rfl (List.mem_of_getElem? (i := 18) rfl) dX7_scene_112 ?_
      refine q_v (x_V (As := [cI (M1 (o0 + 1) 5)]) (rest := []) X K w (c_X7_rehearse hg k_o0 h) (cwV 1 X.2.2.2.2 gX7_scene_X7_rehearse rfl rfl rfl (by decide +kernel) ⟨Nat.le_of_ble_eq_true rfl, Nat.le_of_ble_eq_true rfl⟩) k_o0 (by decide) rfl rfl hl rfl (Nat.le_of_ble_eq_true rfl) dX7_scene_115 ⟨Nat.le_of_ble_eq_true rfl, Nat.le_of_ble_eq_true rfl⟩) w (fun M22 H locs h w => ?_)
      refine lv_aload_n X.1 X.2.1 dX7_scene_118 rfl (lv_at hl 0 rfl) ?_
      refine r_getr (N := 7) (T := TX7) X K w iX7_scene_7 k_o0 rfl (by decide) 5 (by decide) rfl rfl (List.mem_of_getElem? (i := 2) rfl) dX7_scene_119 ?_
      have k23 : gk g (o0 + 124) = 3 := gch hg k_o0 (by decide) 5 (by decide) rfl rfl
      refine r_getrN (N := 15) (T := TX3) X K w iX7_scene_3 k23 rfl (by decide) 11 (by decide) rfl rfl (List.mem_of_getElem? (i := 41) rfl) dX7_scene_122 ?_
      have k24 : gk g ((o0 + 124) + 23) = 4 := gch hg k23 (by decide) 11 (by decide) rfl rfl
      refine lv_iload_n X.1 X.2.1 dX7_scene_125 rfl (lv_at hl 1 rfl) ?_
      refine q_i (x_V (As := [cI x1]) (rest := []) X K w (c_X4_get hg k24 h) (cwV 1 X.2.2.2.2 gX7_scene_X4_get rfl rfl rfl (by decide +kernel) ⟨Nat.le_of_ble_eq_true rfl, Nat.le_of_ble_eq_true rfl⟩) k24 (by decide) rfl rfl hl rfl (Nat.le_of_ble_eq_true rfl) dX7_scene_126 ⟨Nat.le_of_ble_eq_true rfl, Nat.le_of_ble_eq_true rfl⟩) w (fun r26 M25 H locs h w => ?_)
      exact r_ireturn X hr hlk K w h dX7_scene_129
    have co : x2 < 0 ∨ 4 < x2 := by omega
    replace h := h co
    refine r_tabOut (tgt := 130) X i0 dX7_scene_12 co (by decide) ?_
    refine r_bipush X dX7_scene_130 (by decide +kernel) ?_
    exact r_ireturn X hr hlk K w h dX7_scene_132
  · have h := h2 cc
    refine r_iconst X dX7_scene_9 ?_
    exact r_ireturn X hr hlk K w h dX7_scene_10
theorem dX7_missed_0 : decode cX7_missed 0 = .ok (.iload_n 1, 1) := by decide +kernel
theorem dX7_missed_1 : decode cX7_missed 1 = .ok (.ifCond .ge 6, 3) := by decide +kernel
theorem dX7_missed_4 : decode cX7_missed 4 = .ok (.bipush (-2), 2) := by decide +kernel
theorem dX7_missed_6 : decode cX7_missed 6 = .ok (.ireturn, 1) := by decide +kernel
theorem dX7_missed_7 : decode cX7_missed 7 = .ok (.aload_n 0, 1) := by decide +kernel
theorem dX7_missed_8 : decode cX7_missed 8 = .ok (.aload_n 0, 1) := by decide +kernel
theorem dX7_missed_9 : decode cX7_missed 9 = .ok (.getfield 10, 3) := by decide +kernel
theorem dX7_missed_12 : decode cX7_missed 12 = .ok (.getfield 80, 3) := by decide +kernel
theorem dX7_missed_15 : decode cX7_missed 15 = .ok (.invokevirtual 136, 3) := by decide +kernel
theorem dX7_missed_18 : decode cX7_missed 18 = .ok (.aload_n 0, 1) := by decide +kernel
theorem dX7_missed_19 : decode cX7_missed 19 = .ok (.getfield 43, 3) := by decide +kernel
theorem dX7_missed_22 : decode cX7_missed 22 = .ok (.iload_n 1, 1) := by decide +kernel
theorem dX7_missed_23 : decode cX7_missed 23 = .ok (.aload_n 0, 1) := by decide +kernel
theorem dX7_missed_24 : decode cX7_missed 24 = .ok (.getfield 10, 3) := by decide +kernel
theorem dX7_missed_27 : decode cX7_missed 27 = .ok (.getfield 91, 3) := by decide +kernel
theorem dX7_missed_30 : decode cX7_missed 30 = .ok (.getfield 111, 3) := by decide +kernel
theorem dX7_missed_33 : decode cX7_missed 33 = .ok (.invokevirtual 229, 3) := by decide +kernel
theorem dX7_missed_36 : decode cX7_missed 36 = .ok (.ireturn, 1) := by decide +kernel
set_option maxRecDepth 20000 in
theorem ggX7_missed_X3_missedCue : GoodIn wsX7_missed wsX3_missedCue := goodIn_r _ [106, 59, 30, 31, 32, 19, 33, 21, 131, 132, 133, 134, 135, 136, 137, 138, 139, 140, 141, 142, 143, 144, 145, 146] (by decide +kernel) (by decide +kernel)
set_option maxRecDepth 20000 in
theorem gX7_missed_X3_missedCue : GoodIn wsX7_missed (wsV RX7 229 RX3 yX3_missedCue wsX3_missedCue) := goodIn_app (goodIn_of _ (by decide +kernel)) ggX7_missed_X3_missedCue
set_option maxRecDepth 20000 in
theorem ggX7_missed_X7_rehearse : GoodIn wsX7_missed wsX7_rehearse := goodIn_r _ [7, 2, 1, 8, 9, 10, 11, 12, 13, 14, 15, 16, 17, 18, 19, 20, 21, 22, 23, 24, 25, 26, 27, 28, 29, 30, 31, 32, 33, 34, 35, 36, 37, 38, 39, 40, 41, 42, 43, 44, 45, 46, 47, 48, 49, 50, 51, 52, 53, 54, 55, 56, 57, 58, 59, 60, 61, 62, 63, 64, 65, 66, 67, 68, 69, 70, 71, 72, 73, 74, 75, 76, 77, 78, 79, 80, 81, 82, 83, 84, 85, 86, 87, 88, 89, 90, 91, 92, 93, 94, 95, 96, 97, 98, 99, 100, 101, 102, 107, 108, 109, 110, 111, 112, 113, 131, 132, 133, 134, 135, 136, 137, 138, 139, 140, 141, 142, 143, 144, 145, 114, 115, 116, 117, 118, 119, 120, 121, 122, 123, 124, 146, 125, 126, 127, 128, 129, 130] (by decide +kernel) (by decide +kernel)
set_option maxRecDepth 20000 in
theorem gX7_missed_X7_rehearse : GoodIn wsX7_missed (wsV RX7 136 RX7 yX7_rehearse wsX7_rehearse) := goodIn_app (goodIn_of _ (by decide +kernel)) ggX7_missed_X7_rehearse
theorem iX7_missed_0 : ∀ w ∈ u_ws RX0 TX0 6, w ∈ wsX7_missed := fun w h => List.mem_cons_of_mem _ (List.mem_append_left _ (List.mem_append_left _ (List.mem_append_right _ (h))))
theorem iX7_missed_5 : ∀ w ∈ u_ws RX5 TX5 11, w ∈ wsX7_missed := fun w h => List.mem_cons_of_mem _ (List.mem_append_left _ (List.mem_append_left _ (List.mem_append_left _ (List.mem_append_right _ (h)))))
theorem iX7_missed_7 : ∀ w ∈ u_ws RX7 TX7 7, w ∈ wsX7_missed := fun w h => List.mem_cons_of_mem _ (List.mem_append_left _ (List.mem_append_left _ (List.mem_append_left _ (List.mem_append_left _ (List.mem_append_right _ (h))))))
set_option maxHeartbeats 4000000 in
set_option maxRecDepth 100000 in
theorem c_X7_missed {E : EE} {l : Launch} {g : GG} {ad : Nat → Nat} (hg : gwf g) {o0 : Nat} {x1 : Int} {M : Mm} {Q : Int → Mm → Prop} (k_o0 : gk g o0 = 7) (h : p_X7_missed g o0 x1 M Q) : Ct E l yX7_missed wsX7_missed rmX7_missed g ad [.ref (ad o0), cI x1] M (QI E g ad Q) := by
  refine ent (cc := cX7_missed) (maxL := 2) (ret := (some .int)) (own := RX7) (by decide +kernel) rfl rfl (Nat.le_of_ble_eq_true rfl) ?_
  intro p e s m below meth c ls X hr hlk K w hl
  have hl : lv_has ls 2 [(0, .ref (ad o0)), (1, cI x1)] := hl
  unfold p_X7_missed at h
  refine lv_iload_n X.1 X.2.1 dX7_missed_0 rfl (lv_at hl 1 rfl) ?_
  obtain ⟨i0, h1, h2⟩ := h
  refine r_if_ge (tgt := 7) X i0 dX7_missed_1 (by decide) (fun cc => ?_) (fun cc => ?_)
  · have h := h1 cc
    refine lv_aload_n X.1 X.2.1 dX7_missed_7 rfl (lv_at hl 0 rfl) ?_
    refine lv_aload_n X.1 X.2.1 dX7_missed_8 rfl (lv_at hl 0 rfl) ?_
    refine r_getr (N := 7) (T := TX7) X K w iX7_missed_7 k_o0 rfl (by decide) 0 (by decide) rfl rfl (List.mem_of_getElem? (i := 1) rfl) dX7_missed_9 ?_
    have k1 : gk g (o0 + 1) = 5 := gch hg k_o0 (by decide) 0 (by decide) rfl rfl
    refine r_getiN (N := 11) (T := TX5) (kz := 5) X K w iX7_missed_5 k1 rfl (by decide) 5 (by decide) rfl rfl rfl (List.mem_of_getElem? (i := 18) rfl) dX7_missed_12 ?_
    refine q_v (x_V (As := [cI (M (o0 + 1) 5)]) (rest := []) X K w (c_X7_rehearse hg k_o0 h) (cwV 1 X.2.2.2.2 gX7_missed_X7_rehearse rfl rfl rfl (by decide +kernel) ⟨Nat.le_of_ble_eq_true rfl, Nat.le_of_ble_eq_true rfl⟩) k_o0 (by decide) rfl rfl hl rfl (Nat.le_of_ble_eq_true rfl) dX7_missed_15 ⟨Nat.le_of_ble_eq_true rfl, Nat.le_of_ble_eq_true rfl⟩) w (fun M2 H locs h w => ?_)
    refine lv_aload_n X.1 X.2.1 dX7_missed_18 rfl (lv_at hl 0 rfl) ?_
    refine r_getr (N := 7) (T := TX7) X K w iX7_missed_7 k_o0 rfl (by decide) 5 (by decide) rfl rfl (List.mem_of_getElem? (i := 2) rfl) dX7_missed_19 ?_
    have k3 : gk g (o0 + 124) = 3 := gch hg k_o0 (by decide) 5 (by decide) rfl rfl
    refine lv_iload_n X.1 X.2.1 dX7_missed_22 rfl (lv_at hl 1 rfl) ?_
    refine lv_aload_n X.1 X.2.1 dX7_missed_23 rfl (lv_at hl 0 rfl) ?_
    refine r_getr (N := 7) (T := TX7) X K w iX7_missed_7 k_o0 rfl (by decide) 0 (by decide) rfl rfl (List.mem_of_getElem? (i := 1) rfl) dX7_missed_24 ?_
    have k4 : gk g (o0 + 1) = 5 := gch hg k_o0 (by decide) 0 (by decide) rfl rfl
    refine r_getrN (N := 11) (T := TX5) X K w iX7_missed_5 k4 rfl (by decide) 4 (by decide) rfl rfl (List.mem_of_getElem? (i := 16) rfl) dX7_missed_27 ?_
    have k5 : gk g ((o0 + 1) + 9) = 0 := gch hg k4 (by decide) 4 (by decide) rfl rfl
    refine r_getiN (N := 6) (T := TX0) (kz := 5) X K w iX7_missed_0 k5 rfl (by decide) 5 (by decide) rfl rfl rfl (List.mem_of_getElem? (i := 8) rfl) dX7_missed_30 ?_
    refine q_i (x_V (As := [cI x1, cI (M2 ((o0 + 1) + 9) 5)]) (rest := []) X K w (c_X3_missedCue hg k3 h) (cwV 2 X.2.2.2.2 gX7_missed_X3_missedCue rfl rfl rfl (by decide +kernel) ⟨Nat.le_of_ble_eq_true rfl, Nat.le_of_ble_eq_true rfl⟩) k3 (by decide) rfl rfl hl rfl (Nat.le_of_ble_eq_true rfl) dX7_missed_33 ⟨Nat.le_of_ble_eq_true rfl, Nat.le_of_ble_eq_true rfl⟩) w (fun r7 M6 H locs h w => ?_)
    exact r_ireturn X hr hlk K w h dX7_missed_36
  · have h := h2 cc
    refine r_bipush X dX7_missed_4 (by decide +kernel) ?_
    exact r_ireturn X hr hlk K w h dX7_missed_6
theorem dX7_ifHands_0 : decode cX7_ifHands 0 = .ok (.iload_n 1, 1) := by decide +kernel
theorem dX7_ifHands_1 : decode cX7_ifHands 1 = .ok (.iconst 1, 1) := by decide +kernel
theorem dX7_ifHands_2 : decode cX7_ifHands 2 = .ok (.iconst 4, 1) := by decide +kernel
theorem dX7_ifHands_3 : decode cX7_ifHands 3 = .ok (.invokestatic 76, 3) := by decide +kernel
theorem dX7_ifHands_6 : decode cX7_ifHands 6 = .ok (.ifCond .ne 6, 3) := by decide +kernel
theorem dX7_ifHands_9 : decode cX7_ifHands 9 = .ok (.bipush (-2), 2) := by decide +kernel
theorem dX7_ifHands_11 : decode cX7_ifHands 11 = .ok (.ireturn, 1) := by decide +kernel
theorem dX7_ifHands_12 : decode cX7_ifHands 12 = .ok (.aload_n 0, 1) := by decide +kernel
theorem dX7_ifHands_13 : decode cX7_ifHands 13 = .ok (.iload_n 1, 1) := by decide +kernel
theorem dX7_ifHands_14 : decode cX7_ifHands 14 = .ok (.invokevirtual 136, 3) := by decide +kernel
theorem dX7_ifHands_17 : decode cX7_ifHands 17 = .ok (.aload_n 0, 1) := by decide +kernel
theorem dX7_ifHands_18 : decode cX7_ifHands 18 = .ok (.getfield 43, 3) := by decide +kernel
theorem dX7_ifHands_21 : decode cX7_ifHands 21 = .ok (.getfield 160, 3) := by decide +kernel
theorem dX7_ifHands_24 : decode cX7_ifHands 24 = .ok (.ireturn, 1) := by decide +kernel
set_option maxRecDepth 20000 in
theorem ggX7_ifHands_X7_isWithin : GoodIn wsX7_ifHands wsX7_isWithin := goodIn_r _ [5] (by decide +kernel) (by decide +kernel)
set_option maxRecDepth 20000 in
theorem gX7_ifHands_X7_isWithin : GoodIn wsX7_ifHands (va_wsS RX7 76 yX7_isWithin wsX7_isWithin) := goodIn_app (goodIn_of _ (by decide +kernel)) ggX7_ifHands_X7_isWithin
set_option maxRecDepth 20000 in
theorem ggX7_ifHands_X7_rehearse : GoodIn wsX7_ifHands wsX7_rehearse := goodIn_r _ [9, 1, 10, 11, 12, 13, 14, 15, 16, 17, 18, 19, 20, 21, 22, 23, 24, 25, 26, 27, 28, 29, 30, 31, 32, 33, 34, 35, 36, 37, 38, 39, 40, 41, 42, 43, 44, 45, 46, 47, 48, 49, 50, 51, 52, 53, 54, 55, 56, 57, 58, 59, 60, 61, 62, 63, 64, 65, 66, 67, 68, 69, 70, 71, 72, 73, 74, 75, 76, 77, 78, 79, 80, 81, 82, 83, 84, 85, 86, 87, 88, 89, 90, 91, 92, 93, 94, 95, 96, 97, 98, 99, 100, 101, 102, 103, 104, 105, 106, 107, 108, 109, 110, 111, 112, 113, 114, 115, 116, 117, 118, 119, 120, 121, 122, 123, 124, 125, 126, 127, 128, 129, 130, 131, 132, 133, 134, 135, 136, 137, 138, 139, 140, 141, 142, 143, 144, 145] (by decide +kernel) (by decide +kernel)
set_option maxRecDepth 20000 in
theorem gX7_ifHands_X7_rehearse : GoodIn wsX7_ifHands (wsV RX7 136 RX7 yX7_rehearse wsX7_rehearse) := goodIn_app (goodIn_of _ (by decide +kernel)) ggX7_ifHands_X7_rehearse
theorem iX7_ifHands_3 : ∀ w ∈ u_ws RX3 TX3 15, w ∈ wsX7_ifHands := fun w h => List.mem_cons_of_mem _ (List.mem_append_left _ (List.mem_append_left _ (List.mem_append_left _ (List.mem_append_right _ (h)))))
theorem iX7_ifHands_7 : ∀ w ∈ u_ws RX7 TX7 7, w ∈ wsX7_ifHands := fun w h => List.mem_cons_of_mem _ (List.mem_append_left _ (List.mem_append_left _ (List.mem_append_left _ (List.mem_append_left _ (List.mem_append_right _ (h))))))
set_option maxHeartbeats 4000000 in
set_option maxRecDepth 100000 in
theorem c_X7_ifHands {E : EE} {l : Launch} {g : GG} {ad : Nat → Nat} (hg : gwf g) {o0 : Nat} {x1 : Int} {M : Mm} {Q : Int → Mm → Prop} (k_o0 : gk g o0 = 7) (h : p_X7_ifHands g o0 x1 M Q) : Ct E l yX7_ifHands wsX7_ifHands rmX7_ifHands g ad [.ref (ad o0), cI x1] M (QI E g ad Q) := by
  refine ent (cc := cX7_ifHands) (maxL := 2) (ret := (some .int)) (own := RX7) (by decide +kernel) rfl rfl (Nat.le_of_ble_eq_true rfl) ?_
  intro p e s m below meth c ls X hr hlk K w hl
  have hl : lv_has ls 2 [(0, .ref (ad o0)), (1, cI x1)] := hl
  unfold p_X7_ifHands at h
  refine lv_iload_n X.1 X.2.1 dX7_ifHands_0 rfl (lv_at hl 1 rfl) ?_
  refine r_iconst X dX7_ifHands_1 ?_
  refine r_iconst X dX7_ifHands_2 ?_
  refine q_i (x_S (As := [cI x1, cI 1, cI 4]) (rest := []) X K w (c_X7_isWithin hg h) (va_cwS 3 X.2.2.2.2 gX7_ifHands_X7_isWithin rfl rfl rfl (by decide +kernel) ⟨Nat.le_of_ble_eq_true rfl, Nat.le_of_ble_eq_true rfl⟩) rfl hl rfl (Nat.le_of_ble_eq_true rfl) dX7_ifHands_3 ⟨Nat.le_of_ble_eq_true rfl, Nat.le_of_ble_eq_true rfl⟩) w (fun r2 M1 H locs h w => ?_)
  obtain ⟨i0, h1, h2⟩ := h
  refine r_if_ne (tgt := 12) X i0 dX7_ifHands_6 (by decide) (fun cc => ?_) (fun cc => ?_)
  · have h := h1 cc
    refine lv_aload_n X.1 X.2.1 dX7_ifHands_12 rfl (lv_at hl 0 rfl) ?_
    refine lv_iload_n X.1 X.2.1 dX7_ifHands_13 rfl (lv_at hl 1 rfl) ?_
    refine q_v (x_V (As := [cI x1]) (rest := []) X K w (c_X7_rehearse hg k_o0 h) (cwV 1 X.2.2.2.2 gX7_ifHands_X7_rehearse rfl rfl rfl (by decide +kernel) ⟨Nat.le_of_ble_eq_true rfl, Nat.le_of_ble_eq_true rfl⟩) k_o0 (by decide) rfl rfl hl rfl (Nat.le_of_ble_eq_true rfl) dX7_ifHands_14 ⟨Nat.le_of_ble_eq_true rfl, Nat.le_of_ble_eq_true rfl⟩) w (fun M3 H locs h w => ?_)
    refine lv_aload_n X.1 X.2.1 dX7_ifHands_17 rfl (lv_at hl 0 rfl) ?_
    refine r_getr (N := 7) (T := TX7) X K w iX7_ifHands_7 k_o0 rfl (by decide) 5 (by decide) rfl rfl (List.mem_of_getElem? (i := 1) rfl) dX7_ifHands_18 ?_
    have k4 : gk g (o0 + 124) = 3 := gch hg k_o0 (by decide) 5 (by decide) rfl rfl
    refine r_getiN (N := 15) (T := TX3) (kz := 14) X K w iX7_ifHands_3 k4 rfl (by decide) 14 (by decide) rfl rfl rfl (List.mem_of_getElem? (i := 43) rfl) dX7_ifHands_21 ?_
    exact r_ireturn X hr hlk K w h dX7_ifHands_24
  · have h := h2 cc
    refine r_bipush X dX7_ifHands_9 (by decide +kernel) ?_
    exact r_ireturn X hr hlk K w h dX7_ifHands_11
theorem dX7_cleanTakes_0 : decode cX7_cleanTakes 0 = .ok (.aload_n 0, 1) := by decide +kernel
theorem dX7_cleanTakes_1 : decode cX7_cleanTakes 1 = .ok (.getfield 10, 3) := by decide +kernel
theorem dX7_cleanTakes_4 : decode cX7_cleanTakes 4 = .ok (.getfield 91, 3) := by decide +kernel
theorem dX7_cleanTakes_7 : decode cX7_cleanTakes 7 = .ok (.getfield 111, 3) := by decide +kernel
theorem dX7_cleanTakes_10 : decode cX7_cleanTakes 10 = .ok (.ifCond .ne 6, 3) := by decide +kernel
theorem dX7_cleanTakes_13 : decode cX7_cleanTakes 13 = .ok (.bipush (-4), 2) := by decide +kernel
theorem dX7_cleanTakes_15 : decode cX7_cleanTakes 15 = .ok (.ireturn, 1) := by decide +kernel
theorem dX7_cleanTakes_16 : decode cX7_cleanTakes 16 = .ok (.aload_n 0, 1) := by decide +kernel
theorem dX7_cleanTakes_17 : decode cX7_cleanTakes 17 = .ok (.getfield 43, 3) := by decide +kernel
theorem dX7_cleanTakes_20 : decode cX7_cleanTakes 20 = .ok (.aload_n 0, 1) := by decide +kernel
theorem dX7_cleanTakes_21 : decode cX7_cleanTakes 21 = .ok (.getfield 10, 3) := by decide +kernel
theorem dX7_cleanTakes_24 : decode cX7_cleanTakes 24 = .ok (.aload_n 0, 1) := by decide +kernel
theorem dX7_cleanTakes_25 : decode cX7_cleanTakes 25 = .ok (.getfield 10, 3) := by decide +kernel
theorem dX7_cleanTakes_28 : decode cX7_cleanTakes 28 = .ok (.getfield 80, 3) := by decide +kernel
theorem dX7_cleanTakes_31 : decode cX7_cleanTakes 31 = .ok (.invokevirtual 232, 3) := by decide +kernel
theorem dX7_cleanTakes_34 : decode cX7_cleanTakes 34 = .ok (.iconst 0, 1) := by decide +kernel
theorem dX7_cleanTakes_35 : decode cX7_cleanTakes 35 = .ok (.istore_n 1, 1) := by decide +kernel
theorem dX7_cleanTakes_36 : decode cX7_cleanTakes 36 = .ok (.iload_n 1, 1) := by decide +kernel
theorem dX7_cleanTakes_37 : decode cX7_cleanTakes 37 = .ok (.bipush 30, 2) := by decide +kernel
theorem dX7_cleanTakes_39 : decode cX7_cleanTakes 39 = .ok (.if_icmp .ge 32, 3) := by decide +kernel
theorem dX7_cleanTakes_42 : decode cX7_cleanTakes 42 = .ok (.aload_n 0, 1) := by decide +kernel
theorem dX7_cleanTakes_43 : decode cX7_cleanTakes 43 = .ok (.getfield 43, 3) := by decide +kernel
theorem dX7_cleanTakes_46 : decode cX7_cleanTakes 46 = .ok (.aload_n 0, 1) := by decide +kernel
theorem dX7_cleanTakes_47 : decode cX7_cleanTakes 47 = .ok (.getfield 10, 3) := by decide +kernel
theorem dX7_cleanTakes_50 : decode cX7_cleanTakes 50 = .ok (.invokevirtual 236, 3) := by decide +kernel
theorem dX7_cleanTakes_53 : decode cX7_cleanTakes 53 = .ok (.aload_n 0, 1) := by decide +kernel
theorem dX7_cleanTakes_54 : decode cX7_cleanTakes 54 = .ok (.getfield 43, 3) := by decide +kernel
theorem dX7_cleanTakes_57 : decode cX7_cleanTakes 57 = .ok (.getfield 153, 3) := by decide +kernel
theorem dX7_cleanTakes_60 : decode cX7_cleanTakes 60 = .ok (.ifCond .le 5, 3) := by decide +kernel
theorem dX7_cleanTakes_63 : decode cX7_cleanTakes 63 = .ok (.iload_n 1, 1) := by decide +kernel
theorem dX7_cleanTakes_64 : decode cX7_cleanTakes 64 = .ok (.ireturn, 1) := by decide +kernel
theorem dX7_cleanTakes_65 : decode cX7_cleanTakes 65 = .ok (.iinc 1 1, 3) := by decide +kernel
theorem dX7_cleanTakes_68 : decode cX7_cleanTakes 68 = .ok (.goto (-32), 3) := by decide +kernel
theorem dX7_cleanTakes_71 : decode cX7_cleanTakes 71 = .ok (.bipush 30, 2) := by decide +kernel
theorem dX7_cleanTakes_73 : decode cX7_cleanTakes 73 = .ok (.ireturn, 1) := by decide +kernel
set_option maxRecDepth 20000 in
theorem ggX7_cleanTakes_X3_begin : GoodIn wsX7_cleanTakes wsX3_begin := goodIn_r _ [7, 8, 9, 10, 11, 12, 13, 14, 15, 16, 17, 18, 19, 20, 21, 22, 23, 24, 25, 26, 27, 28, 29, 30, 31, 32, 122, 123, 124, 125, 126, 127, 128, 129, 130, 131, 132, 133, 134, 135, 136, 105, 106, 107, 108, 109, 110, 111, 112, 113, 114, 115, 137] (by decide +kernel) (by decide +kernel)
set_option maxRecDepth 20000 in
theorem gX7_cleanTakes_X3_begin : GoodIn wsX7_cleanTakes (wsV RX7 232 RX3 yX3_begin wsX3_begin) := goodIn_app (goodIn_of _ (by decide +kernel)) ggX7_cleanTakes_X3_begin
set_option maxRecDepth 20000 in
theorem ggX7_cleanTakes_X3_playTake : GoodIn wsX7_cleanTakes wsX3_playTake := goodIn_r _ [36, 37, 38, 39, 40, 41, 42, 43, 44, 45, 46, 47, 48, 14, 49, 16, 50, 51, 52, 6, 53, 54, 25, 26, 27, 28, 55, 56, 57, 58, 8, 59, 60, 61, 62, 10, 63, 64, 19, 65, 66, 67, 68, 69, 9, 70, 71, 72, 73, 29, 30, 31, 32, 74, 75, 76, 77, 78, 79, 80, 81, 82, 83, 84, 85, 86, 87, 88, 89, 90, 91, 92, 93, 94, 95, 96, 97, 122, 123, 124, 125, 126, 127, 128, 129, 130, 131, 132, 133, 134, 135, 136, 105, 106, 107, 108, 109, 110, 111, 112, 113, 114, 115, 116, 117, 118, 119, 120, 121, 137] (by decide +kernel) (by decide +kernel)
set_option maxRecDepth 20000 in
theorem gX7_cleanTakes_X3_playTake : GoodIn wsX7_cleanTakes (wsV RX7 236 RX3 yX3_playTake wsX3_playTake) := goodIn_app (goodIn_of _ (by decide +kernel)) ggX7_cleanTakes_X3_playTake
theorem iX7_cleanTakes_0 : ∀ w ∈ u_ws RX0 TX0 6, w ∈ wsX7_cleanTakes := fun w h => List.mem_cons_of_mem _ (List.mem_append_left _ (List.mem_append_left _ (List.mem_append_right _ (h))))
theorem iX7_cleanTakes_3 : ∀ w ∈ u_ws RX3 TX3 15, w ∈ wsX7_cleanTakes := fun w h => List.mem_cons_of_mem _ (List.mem_append_left _ (List.mem_append_right _ (h)))
theorem iX7_cleanTakes_5 : ∀ w ∈ u_ws RX5 TX5 11, w ∈ wsX7_cleanTakes := fun w h => List.mem_cons_of_mem _ (List.mem_append_left _ (List.mem_append_left _ (List.mem_append_left _ (List.mem_append_right _ (h)))))
theorem iX7_cleanTakes_7 : ∀ w ∈ u_ws RX7 TX7 7, w ∈ wsX7_cleanTakes := fun w h => List.mem_cons_of_mem _ (List.mem_append_left _ (List.mem_append_left _ (List.mem_append_left _ (List.mem_append_left _ (List.mem_append_right _ (h))))))
set_option maxHeartbeats 4000000 in
set_option maxRecDepth 100000 in
theorem w_X7_cleanTakes_L36 {p : Program} {l : Launch} {e : Env} {s : State} {m : MethodId} {args : Array Value} {below : List Frame} {meth : Method} {c : Code} {E : EE} {g : GG} {ad : Nat → Nat} (hg : gwf g) (X : CallFix p m c cX7_cleanTakes 2 s args wsX7_cleanTakes RX7) (K : Kn E s) (hr : meth.sig.returnType = (some .int)) (hlk : meth.locks = false) {Q : Int → Mm → Prop} : ∀ (n : Nat) (o0 : Nat) (x1 : Int) (M : Mm) (H : Heap) (locs : List Loc) (ls : Array Slot), gk g o0 = 7 → Rw E g ad M s.heap H locs → lv_has ls 2 [(0, .ref (ad o0)), (1, cI x1)] → p_X7_cleanTakes_L36 g n o0 x1 M Q → W p l e rmX7_cleanTakes s m args below meth c H locs 0 0 (MQ below (QI E g ad Q) args s 0 0 (Rg g ad)) (F0 m 36 ls []) := by
  intro n
  induction n with
  | zero =>
    intro o0 x1 M H locs ls k_o0 w hl h
    exact absurd h (by unfold p_X7_cleanTakes_L36; exact id)
  | succ n ih =>
    intro o0 x1 M H locs ls k_o0 w hl h
    unfold p_X7_cleanTakes_L36 at h
    refine lv_iload_n X.1 X.2.1 dX7_cleanTakes_36 rfl (lv_at hl 1 rfl) ?_
    refine r_bipush X dX7_cleanTakes_37 (by decide +kernel) ?_
    obtain ⟨i0, h1, h2⟩ := h
    refine r_icmp_ge (tgt := 71) X i0 ⟨by decide, by decide⟩ dX7_cleanTakes_39 (by decide) (fun cc => ?_) (fun cc => ?_)
    · have h := h1 cc
      refine r_bipush X dX7_cleanTakes_71 (by decide +kernel) ?_
      exact r_ireturn X hr hlk K w h dX7_cleanTakes_73
    · have h := h2 cc
      refine lv_aload_n X.1 X.2.1 dX7_cleanTakes_42 rfl (lv_at hl 0 rfl) ?_
      refine r_getr (N := 7) (T := TX7) X K w iX7_cleanTakes_7 k_o0 rfl (by decide) 5 (by decide) rfl rfl (List.mem_of_getElem? (i := 2) rfl) dX7_cleanTakes_43 ?_
      have k7 : gk g (o0 + 124) = 3 := gch hg k_o0 (by decide) 5 (by decide) rfl rfl
      refine lv_aload_n X.1 X.2.1 dX7_cleanTakes_46 rfl (lv_at hl 0 rfl) ?_
      refine r_getr (N := 7) (T := TX7) X K w iX7_cleanTakes_7 k_o0 rfl (by decide) 0 (by decide) rfl rfl (List.mem_of_getElem? (i := 1) rfl) dX7_cleanTakes_47 ?_
      have k8 : gk g (o0 + 1) = 5 := gch hg k_o0 (by decide) 0 (by decide) rfl rfl
      refine q_v (x_V (As := [.ref (ad (o0 + 1))]) (rest := []) X K w (c_X3_playTake hg k7 k8 h) (cwV 1 X.2.2.2.2 gX7_cleanTakes_X3_playTake rfl rfl rfl (by decide +kernel) ⟨Nat.le_of_ble_eq_true rfl, Nat.le_of_ble_eq_true rfl⟩) k7 (by decide) rfl rfl hl rfl (Nat.le_of_ble_eq_true rfl) dX7_cleanTakes_50 ⟨Nat.le_of_ble_eq_true rfl, Nat.le_of_ble_eq_true rfl⟩) w (fun M9 H locs h w => ?_)
      refine lv_aload_n X.1 X.2.1 dX7_cleanTakes_53 rfl (lv_at hl 0 rfl) ?_
      refine r_getr (N := 7) (T := TX7) X K w iX7_cleanTakes_7 k_o0 rfl (by decide) 5 (by decide) rfl rfl (List.mem_of_getElem? (i := 2) rfl) dX7_cleanTakes_54 ?_
      have k10 : gk g (o0 + 124) = 3 := gch hg k_o0 (by decide) 5 (by decide) rfl rfl
      refine r_getiN (N := 15) (T := TX3) (kz := 13) X K w iX7_cleanTakes_3 k10 rfl (by decide) 13 (by decide) rfl rfl rfl (List.mem_of_getElem? (i := 42) rfl) dX7_cleanTakes_57 ?_
      obtain ⟨i0, h1, h2⟩ := h
      refine r_if_le (tgt := 65) X i0 dX7_cleanTakes_60 (by decide) (fun cc => ?_) (fun cc => ?_)
      · have h := h1 cc
        refine r_iinc (lv' := [(1, cI (x1 + 1)), (0, .ref (ad o0))]) X hl (k := 1) rfl (by decide) dX7_cleanTakes_65 rfl (fun ls hl => ?_)
        refine lv_goto (tgt := 36) X.1 X.2.1 dX7_cleanTakes_68 (by decide) ?_
        exact ih o0 (x1 + 1) M9 _ _ _ k_o0 w (lv_sub hl [1, 0] rfl) h
      · have h := h2 cc
        refine lv_iload_n X.1 X.2.1 dX7_cleanTakes_63 rfl (lv_at hl 1 rfl) ?_
        exact r_ireturn X hr hlk K w h dX7_cleanTakes_64
set_option maxHeartbeats 4000000 in
set_option maxRecDepth 100000 in
theorem c_X7_cleanTakes {E : EE} {l : Launch} {g : GG} {ad : Nat → Nat} (hg : gwf g) {o0 : Nat} {M : Mm} {Q : Int → Mm → Prop} (k_o0 : gk g o0 = 7) (h : p_X7_cleanTakes g o0 M Q) : Ct E l yX7_cleanTakes wsX7_cleanTakes rmX7_cleanTakes g ad [.ref (ad o0)] M (QI E g ad Q) := by
  refine ent (cc := cX7_cleanTakes) (maxL := 2) (ret := (some .int)) (own := RX7) (by decide +kernel) rfl rfl (Nat.le_of_ble_eq_true rfl) ?_
  intro p e s m below meth c ls X hr hlk K w hl
  have hl : lv_has ls 2 [(0, .ref (ad o0))] := hl
  unfold p_X7_cleanTakes at h
  refine lv_aload_n X.1 X.2.1 dX7_cleanTakes_0 rfl (lv_at hl 0 rfl) ?_
  refine r_getr (N := 7) (T := TX7) X K w iX7_cleanTakes_7 k_o0 rfl (by decide) 0 (by decide) rfl rfl (List.mem_of_getElem? (i := 1) rfl) dX7_cleanTakes_1 ?_
  have k1 : gk g (o0 + 1) = 5 := gch hg k_o0 (by decide) 0 (by decide) rfl rfl
  refine r_getrN (N := 11) (T := TX5) X K w iX7_cleanTakes_5 k1 rfl (by decide) 4 (by decide) rfl rfl (List.mem_of_getElem? (i := 16) rfl) dX7_cleanTakes_4 ?_
  have k2 : gk g ((o0 + 1) + 9) = 0 := gch hg k1 (by decide) 4 (by decide) rfl rfl
  refine r_getiN (N := 6) (T := TX0) (kz := 5) X K w iX7_cleanTakes_0 k2 rfl (by decide) 5 (by decide) rfl rfl rfl (List.mem_of_getElem? (i := 8) rfl) dX7_cleanTakes_7 ?_
  obtain ⟨i0, h1, h2⟩ := h
  refine r_if_ne (tgt := 16) X i0 dX7_cleanTakes_10 (by decide) (fun cc => ?_) (fun cc => ?_)
  · have h := h1 cc
    refine lv_aload_n X.1 X.2.1 dX7_cleanTakes_16 rfl (lv_at hl 0 rfl) ?_
    refine r_getr (N := 7) (T := TX7) X K w iX7_cleanTakes_7 k_o0 rfl (by decide) 5 (by decide) rfl rfl (List.mem_of_getElem? (i := 2) rfl) dX7_cleanTakes_17 ?_
    have k3 : gk g (o0 + 124) = 3 := gch hg k_o0 (by decide) 5 (by decide) rfl rfl
    refine lv_aload_n X.1 X.2.1 dX7_cleanTakes_20 rfl (lv_at hl 0 rfl) ?_
    refine r_getr (N := 7) (T := TX7) X K w iX7_cleanTakes_7 k_o0 rfl (by decide) 0 (by decide) rfl rfl (List.mem_of_getElem? (i := 1) rfl) dX7_cleanTakes_21 ?_
    have k4 : gk g (o0 + 1) = 5 := gch hg k_o0 (by decide) 0 (by decide) rfl rfl
    refine lv_aload_n X.1 X.2.1 dX7_cleanTakes_24 rfl (lv_at hl 0 rfl) ?_
    refine r_getr (N := 7) (T := TX7) X K w iX7_cleanTakes_7 k_o0 rfl (by decide) 0 (by decide) rfl rfl (List.mem_of_getElem? (i := 1) rfl) dX7_cleanTakes_25 ?_
    have k5 : gk g (o0 + 1) = 5 := gch hg k_o0 (by decide) 0 (by decide) rfl rfl
    refine r_getiN (N := 11) (T := TX5) (kz := 5) X K w iX7_cleanTakes_5 k5 rfl (by decide) 5 (by decide) rfl rfl rfl (List.mem_of_getElem? (i := 18) rfl) dX7_cleanTakes_28 ?_
    refine q_v (x_V (As := [.ref (ad (o0 + 1)), cI (M (o0 + 1) 5)]) (rest := []) X K w (c_X3_begin hg k3 k4 h) (cwV 2 X.2.2.2.2 gX7_cleanTakes_X3_begin rfl rfl rfl (by decide +kernel) ⟨Nat.le_of_ble_eq_true rfl, Nat.le_of_ble_eq_true rfl⟩) k3 (by decide) rfl rfl hl rfl (Nat.le_of_ble_eq_true rfl) dX7_cleanTakes_31 ⟨Nat.le_of_ble_eq_true rfl, Nat.le_of_ble_eq_true rfl⟩) w (fun M6 H locs h w => ?_)
    refine r_iconst X dX7_cleanTakes_34 ?_
    refine lv_istore_n (lv' := [(1, cI 0), (0, .ref (ad o0))]) X.1 X.2.1 dX7_cleanTakes_35 rfl hl (by decide) rfl (fun ls hl => ?_)
    obtain ⟨n11, h⟩ := h
    exact w_X7_cleanTakes_L36 hg X K hr hlk n11 o0 0 M6 _ _ _ k_o0 w (lv_sub hl [1, 0] rfl) h
  · have h := h2 cc
    refine r_bipush X dX7_cleanTakes_13 (by decide +kernel) ?_
    exact r_ireturn X hr hlk K w h dX7_cleanTakes_15
theorem dX7_count_0 : decode cX7_count 0 = .ok (.iload_n 1, 1) := by decide +kernel
theorem dX7_count_1 : decode cX7_count 1 = .ok (.tableswitch 187 0 11 #[63, 74, 82, 90, 98, 106, 114, 122, 141, 160, 171, 179], 63) := by decide +kernel
theorem dX7_count_64 : decode cX7_count 64 = .ok (.aload_n 0, 1) := by decide +kernel
theorem dX7_count_65 : decode cX7_count 65 = .ok (.getfield 10, 3) := by decide +kernel
theorem dX7_count_68 : decode cX7_count 68 = .ok (.getfield 91, 3) := by decide +kernel
theorem dX7_count_71 : decode cX7_count 71 = .ok (.getfield 111, 3) := by decide +kernel
theorem dX7_count_74 : decode cX7_count 74 = .ok (.ireturn, 1) := by decide +kernel
theorem dX7_count_75 : decode cX7_count 75 = .ok (.aload_n 0, 1) := by decide +kernel
theorem dX7_count_76 : decode cX7_count 76 = .ok (.getfield 10, 3) := by decide +kernel
theorem dX7_count_79 : decode cX7_count 79 = .ok (.getfield 80, 3) := by decide +kernel
theorem dX7_count_82 : decode cX7_count 82 = .ok (.ireturn, 1) := by decide +kernel
theorem dX7_count_83 : decode cX7_count 83 = .ok (.aload_n 0, 1) := by decide +kernel
theorem dX7_count_84 : decode cX7_count 84 = .ok (.getfield 10, 3) := by decide +kernel
theorem dX7_count_87 : decode cX7_count 87 = .ok (.getfield 88, 3) := by decide +kernel
theorem dX7_count_90 : decode cX7_count 90 = .ok (.ireturn, 1) := by decide +kernel
theorem dX7_count_91 : decode cX7_count 91 = .ok (.aload_n 0, 1) := by decide +kernel
theorem dX7_count_92 : decode cX7_count 92 = .ok (.getfield 10, 3) := by decide +kernel
theorem dX7_count_95 : decode cX7_count 95 = .ok (.getfield 147, 3) := by decide +kernel
theorem dX7_count_98 : decode cX7_count 98 = .ok (.ireturn, 1) := by decide +kernel
theorem dX7_count_99 : decode cX7_count 99 = .ok (.aload_n 0, 1) := by decide +kernel
theorem dX7_count_100 : decode cX7_count 100 = .ok (.getfield 10, 3) := by decide +kernel
theorem dX7_count_103 : decode cX7_count 103 = .ok (.getfield 150, 3) := by decide +kernel
theorem dX7_count_106 : decode cX7_count 106 = .ok (.ireturn, 1) := by decide +kernel
theorem dX7_count_107 : decode cX7_count 107 = .ok (.aload_n 0, 1) := by decide +kernel
theorem dX7_count_108 : decode cX7_count 108 = .ok (.getfield 10, 3) := by decide +kernel
theorem dX7_count_111 : decode cX7_count 111 = .ok (.getfield 156, 3) := by decide +kernel
theorem dX7_count_114 : decode cX7_count 114 = .ok (.ireturn, 1) := by decide +kernel
theorem dX7_count_115 : decode cX7_count 115 = .ok (.aload_n 0, 1) := by decide +kernel
theorem dX7_count_116 : decode cX7_count 116 = .ok (.getfield 10, 3) := by decide +kernel
theorem dX7_count_119 : decode cX7_count 119 = .ok (.getfield 157, 3) := by decide +kernel
theorem dX7_count_122 : decode cX7_count 122 = .ok (.ireturn, 1) := by decide +kernel
theorem dX7_count_123 : decode cX7_count 123 = .ok (.aload_n 0, 1) := by decide +kernel
theorem dX7_count_124 : decode cX7_count 124 = .ok (.aload_n 0, 1) := by decide +kernel
theorem dX7_count_125 : decode cX7_count 125 = .ok (.getfield 10, 3) := by decide +kernel
theorem dX7_count_128 : decode cX7_count 128 = .ok (.getfield 80, 3) := by decide +kernel
theorem dX7_count_131 : decode cX7_count 131 = .ok (.invokevirtual 136, 3) := by decide +kernel
theorem dX7_count_134 : decode cX7_count 134 = .ok (.aload_n 0, 1) := by decide +kernel
theorem dX7_count_135 : decode cX7_count 135 = .ok (.getfield 43, 3) := by decide +kernel
theorem dX7_count_138 : decode cX7_count 138 = .ok (.getfield 153, 3) := by decide +kernel
theorem dX7_count_141 : decode cX7_count 141 = .ok (.ireturn, 1) := by decide +kernel
theorem dX7_count_142 : decode cX7_count 142 = .ok (.aload_n 0, 1) := by decide +kernel
theorem dX7_count_143 : decode cX7_count 143 = .ok (.aload_n 0, 1) := by decide +kernel
theorem dX7_count_144 : decode cX7_count 144 = .ok (.getfield 10, 3) := by decide +kernel
theorem dX7_count_147 : decode cX7_count 147 = .ok (.getfield 80, 3) := by decide +kernel
theorem dX7_count_150 : decode cX7_count 150 = .ok (.invokevirtual 136, 3) := by decide +kernel
theorem dX7_count_153 : decode cX7_count 153 = .ok (.aload_n 0, 1) := by decide +kernel
theorem dX7_count_154 : decode cX7_count 154 = .ok (.getfield 43, 3) := by decide +kernel
theorem dX7_count_157 : decode cX7_count 157 = .ok (.getfield 160, 3) := by decide +kernel
theorem dX7_count_160 : decode cX7_count 160 = .ok (.ireturn, 1) := by decide +kernel
theorem dX7_count_161 : decode cX7_count 161 = .ok (.aload_n 0, 1) := by decide +kernel
theorem dX7_count_162 : decode cX7_count 162 = .ok (.getfield 10, 3) := by decide +kernel
theorem dX7_count_165 : decode cX7_count 165 = .ok (.getfield 139, 3) := by decide +kernel
theorem dX7_count_168 : decode cX7_count 168 = .ok (.invokevirtual 239, 3) := by decide +kernel
theorem dX7_count_171 : decode cX7_count 171 = .ok (.ireturn, 1) := by decide +kernel
theorem dX7_count_172 : decode cX7_count 172 = .ok (.aload_n 0, 1) := by decide +kernel
theorem dX7_count_173 : decode cX7_count 173 = .ok (.getfield 22, 3) := by decide +kernel
theorem dX7_count_176 : decode cX7_count 176 = .ok (.getfield 168, 3) := by decide +kernel
theorem dX7_count_179 : decode cX7_count 179 = .ok (.ireturn, 1) := by decide +kernel
theorem dX7_count_180 : decode cX7_count 180 = .ok (.aload_n 0, 1) := by decide +kernel
theorem dX7_count_181 : decode cX7_count 181 = .ok (.getfield 29, 3) := by decide +kernel
theorem dX7_count_184 : decode cX7_count 184 = .ok (.getfield 161, 3) := by decide +kernel
theorem dX7_count_187 : decode cX7_count 187 = .ok (.ireturn, 1) := by decide +kernel
theorem dX7_count_188 : decode cX7_count 188 = .ok (.bipush (-2), 2) := by decide +kernel
theorem dX7_count_190 : decode cX7_count 190 = .ok (.ireturn, 1) := by decide +kernel
set_option maxRecDepth 20000 in
theorem ggX7_count_X4_sum : GoodIn wsX7_count wsX4_sum := goodIn_r _ [108, 23, 152] (by decide +kernel) (by decide +kernel)
set_option maxRecDepth 20000 in
theorem gX7_count_X4_sum : GoodIn wsX7_count (wsV RX7 239 RX4 yX4_sum wsX4_sum) := goodIn_app (goodIn_of _ (by decide +kernel)) ggX7_count_X4_sum
set_option maxRecDepth 20000 in
theorem ggX7_count_X7_rehearse : GoodIn wsX7_count wsX7_rehearse := goodIn_r _ [9, 2, 1, 10, 11, 12, 13, 14, 15, 16, 17, 18, 19, 20, 21, 22, 23, 24, 25, 26, 27, 28, 29, 30, 31, 32, 33, 34, 35, 36, 37, 38, 39, 40, 41, 42, 43, 44, 45, 46, 47, 48, 49, 50, 51, 52, 53, 54, 55, 56, 57, 58, 59, 60, 61, 62, 63, 64, 65, 66, 67, 68, 69, 70, 71, 72, 73, 74, 75, 76, 77, 78, 79, 80, 81, 82, 83, 84, 85, 86, 87, 88, 89, 90, 91, 92, 93, 94, 95, 96, 97, 98, 99, 100, 101, 102, 103, 104, 109, 110, 111, 112, 113, 114, 115, 133, 134, 135, 136, 137, 138, 139, 140, 141, 142, 143, 144, 145, 146, 147, 116, 117, 118, 119, 120, 121, 122, 123, 124, 125, 126, 152, 127, 128, 129, 130, 131, 132] (by decide +kernel) (by decide +kernel)
set_option maxRecDepth 20000 in
theorem gX7_count_X7_rehearse : GoodIn wsX7_count (wsV RX7 136 RX7 yX7_rehearse wsX7_rehearse) := goodIn_app (goodIn_of _ (by decide +kernel)) ggX7_count_X7_rehearse
theorem iX7_count_0 : ∀ w ∈ u_ws RX0 TX0 6, w ∈ wsX7_count := fun w h => List.mem_cons_of_mem _ (List.mem_append_left _ (List.mem_append_left _ (List.mem_append_left _ (List.mem_append_left _ (List.mem_append_right _ (h))))))
theorem iX7_count_2 : ∀ w ∈ u_ws RX2 TX2 2, w ∈ wsX7_count := fun w h => List.mem_cons_of_mem _ (List.mem_append_left _ (List.mem_append_left _ (List.mem_append_right _ (h))))
theorem iX7_count_3 : ∀ w ∈ u_ws RX3 TX3 15, w ∈ wsX7_count := fun w h => List.mem_cons_of_mem _ (List.mem_append_left _ (List.mem_append_left _ (List.mem_append_left _ (List.mem_append_right _ (h)))))
theorem iX7_count_5 : ∀ w ∈ u_ws RX5 TX5 11, w ∈ wsX7_count := fun w h => List.mem_cons_of_mem _ (List.mem_append_left _ (List.mem_append_left _ (List.mem_append_left _ (List.mem_append_left _ (List.mem_append_left _ (List.mem_append_right _ (h)))))))
theorem iX7_count_6 : ∀ w ∈ u_ws RX6 TX6 2, w ∈ wsX7_count := fun w h => List.mem_cons_of_mem _ (List.mem_append_left _ (List.mem_append_right _ (h)))
theorem iX7_count_7 : ∀ w ∈ u_ws RX7 TX7 7, w ∈ wsX7_count := fun w h => List.mem_cons_of_mem _ (List.mem_append_left _ (List.mem_append_left _ (List.mem_append_left _ (List.mem_append_left _ (List.mem_append_left _ (List.mem_append_left _ (List.mem_append_right _ (h))))))))
theorem tstep_X7_count {x k k2 : Int} (h : k ≤ x) (hn : ¬ x = k) (e : k + 1 = k2) : k2 ≤ x := by omega
theorem tlow_X7_count (x k : Int) : x < k ∨ k ≤ x := by omega
set_option maxHeartbeats 4000000 in
set_option maxRecDepth 100000 in
theorem c_X7_count {E : EE} {l : Launch} {g : GG} {ad : Nat → Nat} (hg : gwf g) {o0 : Nat} {x1 : Int} {M : Mm} {Q : Int → Mm → Prop} (k_o0 : gk g o0 = 7) (h : p_X7_count g o0 x1 M Q) : Ct E l yX7_count wsX7_count rmX7_count g ad [.ref (ad o0), cI x1] M (QI E g ad Q) := by
  refine ent (cc := cX7_count) (maxL := 2) (ret := (some .int)) (own := RX7) (by decide +kernel) rfl rfl (Nat.le_of_ble_eq_true rfl) ?_
  intro p e s m below meth c ls X hr hlk K w hl
  have hl : lv_has ls 2 [(0, .ref (ad o0)), (1, cI x1)] := hl
  unfold p_X7_count at h
  refine lv_iload_n X.1 X.2.1 dX7_count_0 rfl (lv_at hl 1 rfl) ?_
  obtain ⟨i0, h⟩ := h
  obtain ⟨h1, h⟩ := h
  by_cases cs0 : x1 = 0
  · have h := h1 cs0
    refine r_tabIn (tgt := 64) X i0 dX7_count_1 0 cs0 (by decide) (by decide) rfl (by decide) ?_
    refine lv_aload_n X.1 X.2.1 dX7_count_64 rfl (lv_at hl 0 rfl) ?_
    refine r_getr (N := 7) (T := TX7) X K w iX7_count_7 k_o0 rfl (by decide) 0 (by decide) rfl rfl (List.mem_of_getElem? (i := 1) rfl) dX7_count_65 ?_
    have k1 : gk g (o0 + 1) = 5 := gch hg k_o0 (by decide) 0 (by decide) rfl rfl
    refine r_getrN (N := 11) (T := TX5) X K w iX7_count_5 k1 rfl (by decide) 4 (by decide) rfl rfl (List.mem_of_getElem? (i := 16) rfl) dX7_count_68 ?_
    have k2 : gk g ((o0 + 1) + 9) = 0 := gch hg k1 (by decide) 4 (by decide) rfl rfl
    refine r_getiN (N := 6) (T := TX0) (kz := 5) X K w iX7_count_0 k2 rfl (by decide) 5 (by decide) rfl rfl rfl (List.mem_of_getElem? (i := 8) rfl) dX7_count_71 ?_
    exact r_ireturn X hr hlk K w h dX7_count_74
  obtain ⟨h1, h⟩ := h
  by_cases cs1 : x1 = 1
  · have h := h1 cs1
    refine r_tabIn (tgt := 75) X i0 dX7_count_1 1 cs1 (by decide) (by decide) rfl (by decide) ?_
    refine lv_aload_n X.1 X.2.1 dX7_count_75 rfl (lv_at hl 0 rfl) ?_
    refine r_getr (N := 7) (T := TX7) X K w iX7_count_7 k_o0 rfl (by decide) 0 (by decide) rfl rfl (List.mem_of_getElem? (i := 1) rfl) dX7_count_76 ?_
    have k3 : gk g (o0 + 1) = 5 := gch hg k_o0 (by decide) 0 (by decide) rfl rfl
    refine r_getiN (N := 11) (T := TX5) (kz := 5) X K w iX7_count_5 k3 rfl (by decide) 5 (by decide) rfl rfl rfl (List.mem_of_getElem? (i := 18) rfl) dX7_count_79 ?_
    exact r_ireturn X hr hlk K w h dX7_count_82
  obtain ⟨h1, h⟩ := h
  by_cases cs2 : x1 = 2
  · have h := h1 cs2
    refine r_tabIn (tgt := 83) X i0 dX7_count_1 2 cs2 (by decide) (by decide) rfl (by decide) ?_
    refine lv_aload_n X.1 X.2.1 dX7_count_83 rfl (lv_at hl 0 rfl) ?_
    refine r_getr (N := 7) (T := TX7) X K w iX7_count_7 k_o0 rfl (by decide) 0 (by decide) rfl rfl (List.mem_of_getElem? (i := 1) rfl) dX7_count_84 ?_
    have k4 : gk g (o0 + 1) = 5 := gch hg k_o0 (by decide) 0 (by decide) rfl rfl
    refine r_getiN (N := 11) (T := TX5) (kz := 6) X K w iX7_count_5 k4 rfl (by decide) 6 (by decide) rfl rfl rfl (List.mem_of_getElem? (i := 19) rfl) dX7_count_87 ?_
    exact r_ireturn X hr hlk K w h dX7_count_90
  obtain ⟨h1, h⟩ := h
  by_cases cs3 : x1 = 3
  · have h := h1 cs3
    refine r_tabIn (tgt := 91) X i0 dX7_count_1 3 cs3 (by decide) (by decide) rfl (by decide) ?_
    refine lv_aload_n X.1 X.2.1 dX7_count_91 rfl (lv_at hl 0 rfl) ?_
    refine r_getr (N := 7) (T := TX7) X K w iX7_count_7 k_o0 rfl (by decide) 0 (by decide) rfl rfl (List.mem_of_getElem? (i := 1) rfl) dX7_count_92 ?_
    have k5 : gk g (o0 + 1) = 5 := gch hg k_o0 (by decide) 0 (by decide) rfl rfl
    refine r_getiN (N := 11) (T := TX5) (kz := 7) X K w iX7_count_5 k5 rfl (by decide) 7 (by decide) rfl rfl rfl (List.mem_of_getElem? (i := 21) rfl) dX7_count_95 ?_
    exact r_ireturn X hr hlk K w h dX7_count_98
  obtain ⟨h1, h⟩ := h
  by_cases cs4 : x1 = 4
  · have h := h1 cs4
    refine r_tabIn (tgt := 99) X i0 dX7_count_1 4 cs4 (by decide) (by decide) rfl (by decide) ?_
    refine lv_aload_n X.1 X.2.1 dX7_count_99 rfl (lv_at hl 0 rfl) ?_
    refine r_getr (N := 7) (T := TX7) X K w iX7_count_7 k_o0 rfl (by decide) 0 (by decide) rfl rfl (List.mem_of_getElem? (i := 1) rfl) dX7_count_100 ?_
    have k6 : gk g (o0 + 1) = 5 := gch hg k_o0 (by decide) 0 (by decide) rfl rfl
    refine r_getiN (N := 11) (T := TX5) (kz := 8) X K w iX7_count_5 k6 rfl (by decide) 8 (by decide) rfl rfl rfl (List.mem_of_getElem? (i := 22) rfl) dX7_count_103 ?_
    exact r_ireturn X hr hlk K w h dX7_count_106
  obtain ⟨h1, h⟩ := h
  by_cases cs5 : x1 = 5
  · have h := h1 cs5
    refine r_tabIn (tgt := 107) X i0 dX7_count_1 5 cs5 (by decide) (by decide) rfl (by decide) ?_
    refine lv_aload_n X.1 X.2.1 dX7_count_107 rfl (lv_at hl 0 rfl) ?_
    refine r_getr (N := 7) (T := TX7) X K w iX7_count_7 k_o0 rfl (by decide) 0 (by decide) rfl rfl (List.mem_of_getElem? (i := 1) rfl) dX7_count_108 ?_
    have k7 : gk g (o0 + 1) = 5 := gch hg k_o0 (by decide) 0 (by decide) rfl rfl
    refine r_getiN (N := 11) (T := TX5) (kz := 9) X K w iX7_count_5 k7 rfl (by decide) 9 (by decide) rfl rfl rfl (List.mem_of_getElem? (i := 23) rfl) dX7_count_111 ?_
    exact r_ireturn X hr hlk K w h dX7_count_114
  obtain ⟨h1, h⟩ := h
  by_cases cs6 : x1 = 6
  · have h := h1 cs6
    refine r_tabIn (tgt := 115) X i0 dX7_count_1 6 cs6 (by decide) (by decide) rfl (by decide) ?_
    refine lv_aload_n X.1 X.2.1 dX7_count_115 rfl (lv_at hl 0 rfl) ?_
    refine r_getr (N := 7) (T := TX7) X K w iX7_count_7 k_o0 rfl (by decide) 0 (by decide) rfl rfl (List.mem_of_getElem? (i := 1) rfl) dX7_count_116 ?_
    have k8 : gk g (o0 + 1) = 5 := gch hg k_o0 (by decide) 0 (by decide) rfl rfl
    refine r_getiN (N := 11) (T := TX5) (kz := 10) X K w iX7_count_5 k8 rfl (by decide) 10 (by decide) rfl rfl rfl (List.mem_of_getElem? (i := 24) rfl) dX7_count_119 ?_
    exact r_ireturn X hr hlk K w h dX7_count_122
  obtain ⟨h1, h⟩ := h
  by_cases cs7 : x1 = 7
  · have h := h1 cs7
    refine r_tabIn (tgt := 123) X i0 dX7_count_1 7 cs7 (by decide) (by decide) rfl (by decide) ?_
    refine lv_aload_n X.1 X.2.1 dX7_count_123 rfl (lv_at hl 0 rfl) ?_
    refine lv_aload_n X.1 X.2.1 dX7_count_124 rfl (lv_at hl 0 rfl) ?_
    refine r_getr (N := 7) (T := TX7) X K w iX7_count_7 k_o0 rfl (by decide) 0 (by decide) rfl rfl (List.mem_of_getElem? (i := 1) rfl) dX7_count_125 ?_
    have k9 : gk g (o0 + 1) = 5 := gch hg k_o0 (by decide) 0 (by decide) rfl rfl
    refine r_getiN (N := 11) (T := TX5) (kz := 5) X K w iX7_count_5 k9 rfl (by decide) 5 (by decide) rfl rfl rfl (List.mem_of_getElem? (i := 18) rfl) dX7_count_128 ?_
    refine q_v (x_V (As := [cI (M (o0 + 1) 5)]) (rest := []) X K w (c_X7_rehearse hg k_o0 h) (cwV 1 X.2.2.2.2 gX7_count_X7_rehearse rfl rfl rfl (by decide +kernel) ⟨Nat.le_of_ble_eq_true rfl, Nat.le_of_ble_eq_true rfl⟩) k_o0 (by decide) rfl rfl hl rfl (Nat.le_of_ble_eq_true rfl) dX7_count_131 ⟨Nat.le_of_ble_eq_true rfl, Nat.le_of_ble_eq_true rfl⟩) w (fun M10 H locs h w => ?_)
    refine lv_aload_n X.1 X.2.1 dX7_count_134 rfl (lv_at hl 0 rfl) ?_
    refine r_getr (N := 7) (T := TX7) X K w iX7_count_7 k_o0 rfl (by decide) 5 (by decide) rfl rfl (List.mem_of_getElem? (i := 2) rfl) dX7_count_135 ?_
    have k11 : gk g (o0 + 124) = 3 := gch hg k_o0 (by decide) 5 (by decide) rfl rfl
    refine r_getiN (N := 15) (T := TX3) (kz := 13) X K w iX7_count_3 k11 rfl (by decide) 13 (by decide) rfl rfl rfl (List.mem_of_getElem? (i := 42) rfl) dX7_count_138 ?_
    exact r_ireturn X hr hlk K w h dX7_count_141
  obtain ⟨h1, h⟩ := h
  by_cases cs8 : x1 = 8
  · have h := h1 cs8
    refine r_tabIn (tgt := 142) X i0 dX7_count_1 8 cs8 (by decide) (by decide) rfl (by decide) ?_
    refine lv_aload_n X.1 X.2.1 dX7_count_142 rfl (lv_at hl 0 rfl) ?_
    refine lv_aload_n X.1 X.2.1 dX7_count_143 rfl (lv_at hl 0 rfl) ?_
    refine r_getr (N := 7) (T := TX7) X K w iX7_count_7 k_o0 rfl (by decide) 0 (by decide) rfl rfl (List.mem_of_getElem? (i := 1) rfl) dX7_count_144 ?_
    have k12 : gk g (o0 + 1) = 5 := gch hg k_o0 (by decide) 0 (by decide) rfl rfl
    refine r_getiN (N := 11) (T := TX5) (kz := 5) X K w iX7_count_5 k12 rfl (by decide) 5 (by decide) rfl rfl rfl (List.mem_of_getElem? (i := 18) rfl) dX7_count_147 ?_
    refine q_v (x_V (As := [cI (M (o0 + 1) 5)]) (rest := []) X K w (c_X7_rehearse hg k_o0 h) (cwV 1 X.2.2.2.2 gX7_count_X7_rehearse rfl rfl rfl (by decide +kernel) ⟨Nat.le_of_ble_eq_true rfl, Nat.le_of_ble_eq_true rfl⟩) k_o0 (by decide) rfl rfl hl rfl (Nat.le_of_ble_eq_true rfl) dX7_count_150 ⟨Nat.le_of_ble_eq_true rfl, Nat.le_of_ble_eq_true rfl⟩) w (fun M13 H locs h w => ?_)
    refine lv_aload_n X.1 X.2.1 dX7_count_153 rfl (lv_at hl 0 rfl) ?_
    refine r_getr (N := 7) (T := TX7) X K w iX7_count_7 k_o0 rfl (by decide) 5 (by decide) rfl rfl (List.mem_of_getElem? (i := 2) rfl) dX7_count_154 ?_
    have k14 : gk g (o0 + 124) = 3 := gch hg k_o0 (by decide) 5 (by decide) rfl rfl
    refine r_getiN (N := 15) (T := TX3) (kz := 14) X K w iX7_count_3 k14 rfl (by decide) 14 (by decide) rfl rfl rfl (List.mem_of_getElem? (i := 43) rfl) dX7_count_157 ?_
    exact r_ireturn X hr hlk K w h dX7_count_160
  obtain ⟨h1, h⟩ := h
  by_cases cs9 : x1 = 9
  · have h := h1 cs9
    refine r_tabIn (tgt := 161) X i0 dX7_count_1 9 cs9 (by decide) (by decide) rfl (by decide) ?_
    refine lv_aload_n X.1 X.2.1 dX7_count_161 rfl (lv_at hl 0 rfl) ?_
    refine r_getr (N := 7) (T := TX7) X K w iX7_count_7 k_o0 rfl (by decide) 0 (by decide) rfl rfl (List.mem_of_getElem? (i := 1) rfl) dX7_count_162 ?_
    have k15 : gk g (o0 + 1) = 5 := gch hg k_o0 (by decide) 0 (by decide) rfl rfl
    refine r_getrN (N := 11) (T := TX5) X K w iX7_count_5 k15 rfl (by decide) 1 (by decide) rfl rfl (List.mem_of_getElem? (i := 11) rfl) dX7_count_165 ?_
    have k16 : gk g ((o0 + 1) + 3) = 4 := gch hg k15 (by decide) 1 (by decide) rfl rfl
    refine q_i (x_V (As := []) (rest := []) X K w (c_X4_sum hg k16 h) (cwV 0 X.2.2.2.2 gX7_count_X4_sum rfl rfl rfl (by decide +kernel) ⟨Nat.le_of_ble_eq_true rfl, Nat.le_of_ble_eq_true rfl⟩) k16 (by decide) rfl rfl hl rfl (Nat.le_of_ble_eq_true rfl) dX7_count_168 ⟨Nat.le_of_ble_eq_true rfl, Nat.le_of_ble_eq_true rfl⟩) w (fun r18 M17 H locs h w => ?_)
    exact r_ireturn X hr hlk K w h dX7_count_171
  obtain ⟨h1, h⟩ := h
  by_cases cs10 : x1 = 10
  · have h := h1 cs10
    refine r_tabIn (tgt := 172) X i0 dX7_count_1 10 cs10 (by decide) (by decide) rfl (by decide) ?_
    refine lv_aload_n X.1 X.2.1 dX7_count_172 rfl (lv_at hl 0 rfl) ?_
    refine r_getr (N := 7) (T := TX7) X K w iX7_count_7 k_o0 rfl (by decide) 2 (by decide) rfl rfl (List.mem_of_getElem? (i := 3) rfl) dX7_count_173 ?_
    have k19 : gk g (o0 + 37) = 2 := gch hg k_o0 (by decide) 2 (by decide) rfl rfl
    refine r_getiN (N := 2) (T := TX2) (kz := 1) X K w iX7_count_2 k19 rfl (by decide) 1 (by decide) rfl rfl rfl (List.mem_of_getElem? (i := 25) rfl) dX7_count_176 ?_
    exact r_ireturn X hr hlk K w h dX7_count_179
  obtain ⟨h1, h⟩ := h
  by_cases cs11 : x1 = 11
  · have h := h1 cs11
    refine r_tabIn (tgt := 180) X i0 dX7_count_1 11 cs11 (by decide) (by decide) rfl (by decide) ?_
    refine lv_aload_n X.1 X.2.1 dX7_count_180 rfl (lv_at hl 0 rfl) ?_
    refine r_getr (N := 7) (T := TX7) X K w iX7_count_7 k_o0 rfl (by decide) 3 (by decide) rfl rfl (List.mem_of_getElem? (i := 4) rfl) dX7_count_181 ?_
    have k20 : gk g (o0 + 111) = 6 := gch hg k_o0 (by decide) 3 (by decide) rfl rfl
    refine r_getiN (N := 2) (T := TX6) (kz := 1) X K w iX7_count_6 k20 rfl (by decide) 1 (by decide) rfl rfl rfl (List.mem_of_getElem? (i := 27) rfl) dX7_count_184 ?_
    exact r_ireturn X hr hlk K w h dX7_count_187
  have co : x1 < 0 ∨ 11 < x1 := by
    rcases tlow_X7_count x1 0 with q | q
    · exact Or.inl q
    have q : (1 : Int) ≤ x1 := tstep_X7_count q cs0 rfl
    have q : (2 : Int) ≤ x1 := tstep_X7_count q cs1 rfl
    have q : (3 : Int) ≤ x1 := tstep_X7_count q cs2 rfl
    have q : (4 : Int) ≤ x1 := tstep_X7_count q cs3 rfl
    have q : (5 : Int) ≤ x1 := tstep_X7_count q cs4 rfl
    have q : (6 : Int) ≤ x1 := tstep_X7_count q cs5 rfl
    have q : (7 : Int) ≤ x1 := tstep_X7_count q cs6 rfl
    have q : (8 : Int) ≤ x1 := tstep_X7_count q cs7 rfl
    have q : (9 : Int) ≤ x1 := tstep_X7_count q cs8 rfl
    have q : (10 : Int) ≤ x1 := tstep_X7_count q cs9 rfl
    have q : (11 : Int) ≤ x1 := tstep_X7_count q cs10 rfl
    have q : (12 : Int) ≤ x1 := tstep_X7_count q cs11 rfl
    exact Or.inr q
  replace h := h co
  refine r_tabOut (tgt := 188) X i0 dX7_count_1 co (by decide) ?_
  refine r_bipush X dX7_count_188 (by decide +kernel) ?_
  exact r_ireturn X hr hlk K w h dX7_count_190
theorem dX8_in_0 : decode cX8_in 0 = .ok (.lload_n 0, 1) := by decide +kernel
theorem dX8_in_1 : decode cX8_in 1 = .ok (.lload_n 2, 1) := by decide +kernel
theorem dX8_in_2 : decode cX8_in 2 = .ok (.lcmp, 1) := by decide +kernel
theorem dX8_in_3 : decode cX8_in 3 = .ok (.ifCond .lt 14, 3) := by decide +kernel
theorem dX8_in_6 : decode cX8_in 6 = .ok (.lload_n 0, 1) := by decide +kernel
theorem dX8_in_7 : decode cX8_in 7 = .ok (.lload 4, 2) := by decide +kernel
theorem dX8_in_9 : decode cX8_in 9 = .ok (.lcmp, 1) := by decide +kernel
theorem dX8_in_10 : decode cX8_in 10 = .ok (.ifCond .gt 7, 3) := by decide +kernel
theorem dX8_in_13 : decode cX8_in 13 = .ok (.iconst 1, 1) := by decide +kernel
theorem dX8_in_14 : decode cX8_in 14 = .ok (.goto 4, 3) := by decide +kernel
theorem dX8_in_17 : decode cX8_in 17 = .ok (.iconst 0, 1) := by decide +kernel
theorem dX8_in_18 : decode cX8_in 18 = .ok (.ireturn, 1) := by decide +kernel
set_option maxHeartbeats 4000000 in
set_option maxRecDepth 100000 in
theorem c_X8_in {E : EE} {l : Launch} {g : GG} {ad : Nat → Nat} (hg : gwf g) {x0 : Int} {x2 : Int} {x4 : Int} {M : Mm} {Q : Int → Mm → Prop} (h : p_X8_in g x0 x2 x4 M Q) : Ct E l yX8_in wsX8_in rmX8_in g ad [cL x0, cL x2, cL x4] M (QI E g ad Q) := by
  refine ent (cc := cX8_in) (maxL := 6) (ret := (some .boolean)) (own := RX8) (by decide +kernel) rfl rfl (Nat.le_of_ble_eq_true rfl) ?_
  intro p e s m below meth c ls X hr hlk K w hl
  have hl : lv_has ls 6 [(0, cL x0), (2, cL x2), (4, cL x4)] := hl
  unfold p_X8_in at h
  refine lv_lload_n X.1 X.2.1 dX8_in_0 rfl (lv_at hl 0 rfl) ?_
  refine lv_lload_n X.1 X.2.1 dX8_in_1 rfl (lv_at hl 1 rfl) ?_
  obtain ⟨i0, i1, h1, h2⟩ := h
  refine r_lcmp X i0 i1 dX8_in_2 (fun r ir er1 er2 => ?_)
  refine r_if_lt (tgt := 17) X ir dX8_in_3 (by decide) (fun cc => ?_) (fun cc => ?_)
  · have h := h1 (by omega)
    refine r_iconst X dX8_in_17 ?_
    exact r_zreturn X hr hlk K w (by decide +kernel) h dX8_in_18
  · have h := h2 (by omega)
    refine lv_lload_n X.1 X.2.1 dX8_in_6 rfl (lv_at hl 0 rfl) ?_
    refine lv_lload X.1 X.2.1 dX8_in_7 (lv_at hl 2 rfl) ?_
    obtain ⟨i0, i1, h1, h2⟩ := h
    refine r_lcmp X i0 i1 dX8_in_9 (fun r ir er1 er2 => ?_)
    refine r_if_gt (tgt := 17) X ir dX8_in_10 (by decide) (fun cc => ?_) (fun cc => ?_)
    · have h := h1 (by omega)
      refine r_iconst X dX8_in_17 ?_
      exact r_zreturn X hr hlk K w (by decide +kernel) h dX8_in_18
    · have h := h2 (by omega)
      refine r_iconst X dX8_in_13 ?_
      refine lv_goto (tgt := 18) X.1 X.2.1 dX8_in_14 (by decide) ?_
      exact r_zreturn X hr hlk K w (by decide +kernel) h dX8_in_18
theorem dX8_copy_0 : decode cX8_copy 0 = .ok (.iconst 0, 1) := by decide +kernel
theorem dX8_copy_1 : decode cX8_copy 1 = .ok (.istore_n 2, 1) := by decide +kernel
theorem dX8_copy_2 : decode cX8_copy 2 = .ok (.iload_n 2, 1) := by decide +kernel
theorem dX8_copy_3 : decode cX8_copy 3 = .ok (.sipush 201, 3) := by decide +kernel
theorem dX8_copy_6 : decode cX8_copy 6 = .ok (.if_icmp .ge 15, 3) := by decide +kernel
theorem dX8_copy_9 : decode cX8_copy 9 = .ok (.aload_n 1, 1) := by decide +kernel
theorem dX8_copy_10 : decode cX8_copy 10 = .ok (.iload_n 2, 1) := by decide +kernel
theorem dX8_copy_11 : decode cX8_copy 11 = .ok (.aload_n 0, 1) := by decide +kernel
theorem dX8_copy_12 : decode cX8_copy 12 = .ok (.iload_n 2, 1) := by decide +kernel
theorem dX8_copy_13 : decode cX8_copy 13 = .ok (.iaload, 1) := by decide +kernel
theorem dX8_copy_14 : decode cX8_copy 14 = .ok (.iastore, 1) := by decide +kernel
theorem dX8_copy_15 : decode cX8_copy 15 = .ok (.iinc 2 1, 3) := by decide +kernel
theorem dX8_copy_18 : decode cX8_copy 18 = .ok (.goto (-16), 3) := by decide +kernel
theorem dX8_copy_21 : decode cX8_copy 21 = .ok (.return_, 1) := by decide +kernel
set_option maxHeartbeats 4000000 in
set_option maxRecDepth 100000 in
theorem w_X8_copy_L2 {p : Program} {l : Launch} {e : Env} {s : State} {m : MethodId} {args : Array Value} {below : List Frame} {meth : Method} {c : Code} {E : EE} {g : GG} {ad : Nat → Nat} (hg : gwf g) (X : CallFix p m c cX8_copy 3 s args wsX8_copy RX8) (K : Kn E s) (hr : meth.sig.returnType = none) (hlk : meth.locks = false) {Q : Mm → Prop} : ∀ (n : Nat) (o0 : Nat) (o1 : Nat) (x2 : Int) (M : Mm) (H : Heap) (locs : List Loc) (ls : Array Slot), gk g o0 = 9 → gk g o1 = 9 → Rw E g ad M s.heap H locs → lv_has ls 3 [(0, .ref (ad o0)), (1, .ref (ad o1)), (2, cI x2)] → p_X8_copy_L2 g n o0 o1 x2 M Q → W p l e rmX8_copy s m args below meth c H locs 0 0 (MQ below (QV E g ad Q) args s 0 0 (Rg g ad)) (F0 m 2 ls []) := by
  intro n
  induction n with
  | zero =>
    intro o0 o1 x2 M H locs ls k_o0 k_o1 w hl h
    exact absurd h (by unfold p_X8_copy_L2; exact id)
  | succ n ih =>
    intro o0 o1 x2 M H locs ls k_o0 k_o1 w hl h
    unfold p_X8_copy_L2 at h
    refine lv_iload_n X.1 X.2.1 dX8_copy_2 rfl (lv_at hl 2 rfl) ?_
    refine r_sipush X dX8_copy_3 (by decide +kernel) ?_
    obtain ⟨i0, h1, h2⟩ := h
    refine r_icmp_ge (tgt := 21) X i0 ⟨by decide, by decide⟩ dX8_copy_6 (by decide) (fun cc => ?_) (fun cc => ?_)
    · have h := h1 cc
      exact r_return X hr hlk K w h dX8_copy_21
    · have h := h2 cc
      refine lv_aload_n X.1 X.2.1 dX8_copy_9 rfl (lv_at hl 1 rfl) ?_
      refine lv_iload_n X.1 X.2.1 dX8_copy_10 rfl (lv_at hl 2 rfl) ?_
      refine lv_aload_n X.1 X.2.1 dX8_copy_11 rfl (lv_at hl 0 rfl) ?_
      refine lv_iload_n X.1 X.2.1 dX8_copy_12 rfl (lv_at hl 2 rfl) ?_
      obtain ⟨b0, b1, h⟩ := h
      refine r_iald X K w hg k_o0 b0 b1 dX8_copy_13 ?_
      obtain ⟨b0, b1, h⟩ := h
      refine r_iast X K w hg k_o1 b0 b1 dX8_copy_14 (fun M1 H locs e w => ?_)
      replace h := h M1 e
      refine r_iinc (lv' := [(2, cI (x2 + 1)), (0, .ref (ad o0)), (1, .ref (ad o1))]) X hl (k := 2) rfl (by decide) dX8_copy_15 rfl (fun ls hl => ?_)
      refine lv_goto (tgt := 2) X.1 X.2.1 dX8_copy_18 (by decide) ?_
      exact ih o0 o1 (x2 + 1) M1 _ _ _ k_o0 k_o1 w (lv_sub hl [1, 2, 0] rfl) h
set_option maxHeartbeats 4000000 in
set_option maxRecDepth 100000 in
theorem c_X8_copy {E : EE} {l : Launch} {g : GG} {ad : Nat → Nat} (hg : gwf g) {o0 : Nat} {o1 : Nat} {M : Mm} {Q : Mm → Prop} (k_o0 : gk g o0 = 9) (k_o1 : gk g o1 = 9) (h : p_X8_copy g o0 o1 M Q) : Ct E l yX8_copy wsX8_copy rmX8_copy g ad [.ref (ad o0), .ref (ad o1)] M (QV E g ad Q) := by
  refine ent (cc := cX8_copy) (maxL := 3) (ret := none) (own := RX8) (by decide +kernel) rfl rfl (Nat.le_of_ble_eq_true rfl) ?_
  intro p e s m below meth c ls X hr hlk K w hl
  have hl : lv_has ls 3 [(0, .ref (ad o0)), (1, .ref (ad o1))] := hl
  unfold p_X8_copy at h
  refine r_iconst X dX8_copy_0 ?_
  refine lv_istore_n (lv' := [(2, cI 0), (0, .ref (ad o0)), (1, .ref (ad o1))]) X.1 X.2.1 dX8_copy_1 rfl hl (by decide) rfl (fun ls hl => ?_)
  obtain ⟨n2, h⟩ := h
  exact w_X8_copy_L2 hg X K hr hlk n2 o0 o1 0 M _ _ _ k_o0 k_o1 w (lv_sub hl [1, 2, 0] rfl) h
theorem dX8_remember_0 : decode cX8_remember 0 = .ok (.aload_n 0, 1) := by decide +kernel
theorem dX8_remember_1 : decode cX8_remember 1 = .ok (.getfield 7, 3) := by decide +kernel
theorem dX8_remember_4 : decode cX8_remember 4 = .ok (.aload_n 0, 1) := by decide +kernel
theorem dX8_remember_5 : decode cX8_remember 5 = .ok (.getfield 13, 3) := by decide +kernel
theorem dX8_remember_8 : decode cX8_remember 8 = .ok (.invokestatic 61, 3) := by decide +kernel
theorem dX8_remember_11 : decode cX8_remember 11 = .ok (.return_, 1) := by decide +kernel
set_option maxRecDepth 20000 in
theorem ggX8_remember_X8_copy : GoodIn wsX8_remember wsX8_copy := goodIn_r _ [6] (by decide +kernel) (by decide +kernel)
set_option maxRecDepth 20000 in
theorem gX8_remember_X8_copy : GoodIn wsX8_remember (va_wsS RX8 61 yX8_copy wsX8_copy) := goodIn_app (goodIn_of _ (by decide +kernel)) ggX8_remember_X8_copy
theorem iX8_remember_8 : ∀ w ∈ u_ws RX8 TX8 25, w ∈ wsX8_remember := fun w h => List.mem_cons_of_mem _ (List.mem_append_right _ (h))
set_option maxHeartbeats 4000000 in
set_option maxRecDepth 100000 in
theorem c_X8_remember {E : EE} {l : Launch} {g : GG} {ad : Nat → Nat} (hg : gwf g) {o0 : Nat} {M : Mm} {Q : Mm → Prop} (k_o0 : gk g o0 = 8) (h : p_X8_remember g o0 M Q) : Ct E l yX8_remember wsX8_remember rmX8_remember g ad [.ref (ad o0)] M (QV E g ad Q) := by
  refine ent (cc := cX8_remember) (maxL := 1) (ret := none) (own := RX8) (by decide +kernel) rfl rfl (Nat.le_of_ble_eq_true rfl) ?_
  intro p e s m below meth c ls X hr hlk K w hl
  have hl : lv_has ls 1 [(0, .ref (ad o0))] := hl
  unfold p_X8_remember at h
  refine lv_aload_n X.1 X.2.1 dX8_remember_0 rfl (lv_at hl 0 rfl) ?_
  refine r_getr (N := 25) (T := TX8) X K w iX8_remember_8 k_o0 rfl (by decide) 0 (by decide) rfl rfl (List.mem_of_getElem? (i := 1) rfl) dX8_remember_1 ?_
  have k1 : gk g (o0 + 1) = 9 := gch hg k_o0 (by decide) 0 (by decide) rfl rfl
  refine lv_aload_n X.1 X.2.1 dX8_remember_4 rfl (lv_at hl 0 rfl) ?_
  refine r_getr (N := 25) (T := TX8) X K w iX8_remember_8 k_o0 rfl (by decide) 1 (by decide) rfl rfl (List.mem_of_getElem? (i := 2) rfl) dX8_remember_5 ?_
  have k2 : gk g (o0 + 2) = 9 := gch hg k_o0 (by decide) 1 (by decide) rfl rfl
  refine q_v (x_S (As := [.ref (ad (o0 + 1)), .ref (ad (o0 + 2))]) (rest := []) X K w (c_X8_copy hg k1 k2 h) (va_cwS 2 X.2.2.2.2 gX8_remember_X8_copy rfl rfl rfl (by decide +kernel) ⟨Nat.le_of_ble_eq_true rfl, Nat.le_of_ble_eq_true rfl⟩) rfl hl rfl (Nat.le_of_ble_eq_true rfl) dX8_remember_8 ⟨Nat.le_of_ble_eq_true rfl, Nat.le_of_ble_eq_true rfl⟩) w (fun M3 H locs h w => ?_)
  exact r_return X hr hlk K w h dX8_remember_11
theorem dX8_acted_0 : decode cX8_acted 0 = .ok (.aload_n 0, 1) := by decide +kernel
theorem dX8_acted_1 : decode cX8_acted 1 = .ok (.getfield 65, 3) := by decide +kernel
theorem dX8_acted_4 : decode cX8_acted 4 = .ok (.iconst 4, 1) := by decide +kernel
theorem dX8_acted_5 : decode cX8_acted 5 = .ok (.if_icmp .ne 44, 3) := by decide +kernel
theorem dX8_acted_8 : decode cX8_acted 8 = .ok (.iconst 0, 1) := by decide +kernel
theorem dX8_acted_9 : decode cX8_acted 9 = .ok (.istore_n 2, 1) := by decide +kernel
theorem dX8_acted_10 : decode cX8_acted 10 = .ok (.iload_n 2, 1) := by decide +kernel
theorem dX8_acted_11 : decode cX8_acted 11 = .ok (.sipush 603, 3) := by decide +kernel
theorem dX8_acted_14 : decode cX8_acted 14 = .ok (.if_icmp .ge 25, 3) := by decide +kernel
theorem dX8_acted_17 : decode cX8_acted 17 = .ok (.aload_n 0, 1) := by decide +kernel
theorem dX8_acted_18 : decode cX8_acted 18 = .ok (.getfield 19, 3) := by decide +kernel
theorem dX8_acted_21 : decode cX8_acted 21 = .ok (.iload_n 2, 1) := by decide +kernel
theorem dX8_acted_22 : decode cX8_acted 22 = .ok (.aload_n 0, 1) := by decide +kernel
theorem dX8_acted_23 : decode cX8_acted 23 = .ok (.getfield 19, 3) := by decide +kernel
theorem dX8_acted_26 : decode cX8_acted 26 = .ok (.iload_n 2, 1) := by decide +kernel
theorem dX8_acted_27 : decode cX8_acted 27 = .ok (.sipush 201, 3) := by decide +kernel
theorem dX8_acted_30 : decode cX8_acted 30 = .ok (.iadd, 1) := by decide +kernel
theorem dX8_acted_31 : decode cX8_acted 31 = .ok (.iaload, 1) := by decide +kernel
theorem dX8_acted_32 : decode cX8_acted 32 = .ok (.iastore, 1) := by decide +kernel
theorem dX8_acted_33 : decode cX8_acted 33 = .ok (.iinc 2 1, 3) := by decide +kernel
theorem dX8_acted_36 : decode cX8_acted 36 = .ok (.goto (-26), 3) := by decide +kernel
theorem dX8_acted_39 : decode cX8_acted 39 = .ok (.aload_n 0, 1) := by decide +kernel
theorem dX8_acted_40 : decode cX8_acted 40 = .ok (.dup, 1) := by decide +kernel
theorem dX8_acted_41 : decode cX8_acted 41 = .ok (.getfield 65, 3) := by decide +kernel
theorem dX8_acted_44 : decode cX8_acted 44 = .ok (.iconst 1, 1) := by decide +kernel
theorem dX8_acted_45 : decode cX8_acted 45 = .ok (.isub, 1) := by decide +kernel
theorem dX8_acted_46 : decode cX8_acted 46 = .ok (.putfield 65, 3) := by decide +kernel
theorem dX8_acted_49 : decode cX8_acted 49 = .ok (.iconst 0, 1) := by decide +kernel
theorem dX8_acted_50 : decode cX8_acted 50 = .ok (.istore_n 2, 1) := by decide +kernel
theorem dX8_acted_51 : decode cX8_acted 51 = .ok (.iload_n 2, 1) := by decide +kernel
theorem dX8_acted_52 : decode cX8_acted 52 = .ok (.sipush 201, 3) := by decide +kernel
theorem dX8_acted_55 : decode cX8_acted 55 = .ok (.if_icmp .ge 30, 3) := by decide +kernel
theorem dX8_acted_58 : decode cX8_acted 58 = .ok (.aload_n 0, 1) := by decide +kernel
theorem dX8_acted_59 : decode cX8_acted 59 = .ok (.getfield 19, 3) := by decide +kernel
theorem dX8_acted_62 : decode cX8_acted 62 = .ok (.sipush 201, 3) := by decide +kernel
theorem dX8_acted_65 : decode cX8_acted 65 = .ok (.aload_n 0, 1) := by decide +kernel
theorem dX8_acted_66 : decode cX8_acted 66 = .ok (.getfield 65, 3) := by decide +kernel
theorem dX8_acted_69 : decode cX8_acted 69 = .ok (.imul, 1) := by decide +kernel
theorem dX8_acted_70 : decode cX8_acted 70 = .ok (.iload_n 2, 1) := by decide +kernel
theorem dX8_acted_71 : decode cX8_acted 71 = .ok (.iadd, 1) := by decide +kernel
theorem dX8_acted_72 : decode cX8_acted 72 = .ok (.aload_n 0, 1) := by decide +kernel
theorem dX8_acted_73 : decode cX8_acted 73 = .ok (.getfield 13, 3) := by decide +kernel
theorem dX8_acted_76 : decode cX8_acted 76 = .ok (.iload_n 2, 1) := by decide +kernel
theorem dX8_acted_77 : decode cX8_acted 77 = .ok (.iaload, 1) := by decide +kernel
theorem dX8_acted_78 : decode cX8_acted 78 = .ok (.iastore, 1) := by decide +kernel
theorem dX8_acted_79 : decode cX8_acted 79 = .ok (.iinc 2 1, 3) := by decide +kernel
theorem dX8_acted_82 : decode cX8_acted 82 = .ok (.goto (-31), 3) := by decide +kernel
theorem dX8_acted_85 : decode cX8_acted 85 = .ok (.aload_n 0, 1) := by decide +kernel
theorem dX8_acted_86 : decode cX8_acted 86 = .ok (.dup, 1) := by decide +kernel
theorem dX8_acted_87 : decode cX8_acted 87 = .ok (.getfield 65, 3) := by decide +kernel
theorem dX8_acted_90 : decode cX8_acted 90 = .ok (.iconst 1, 1) := by decide +kernel
theorem dX8_acted_91 : decode cX8_acted 91 = .ok (.iadd, 1) := by decide +kernel
theorem dX8_acted_92 : decode cX8_acted 92 = .ok (.putfield 65, 3) := by decide +kernel
theorem dX8_acted_95 : decode cX8_acted 95 = .ok (.iload_n 1, 1) := by decide +kernel
theorem dX8_acted_96 : decode cX8_acted 96 = .ok (.ireturn, 1) := by decide +kernel
theorem iX8_acted_8 : ∀ w ∈ u_ws RX8 TX8 25, w ∈ wsX8_acted := fun w h => List.mem_cons_of_mem _ (List.mem_append_right _ (h))
set_option maxHeartbeats 4000000 in
set_option maxRecDepth 100000 in
theorem w_X8_acted_L51 {p : Program} {l : Launch} {e : Env} {s : State} {m : MethodId} {args : Array Value} {below : List Frame} {meth : Method} {c : Code} {E : EE} {g : GG} {ad : Nat → Nat} (hg : gwf g) (X : CallFix p m c cX8_acted 3 s args wsX8_acted RX8) (K : Kn E s) (hr : meth.sig.returnType = (some .int)) (hlk : meth.locks = false) {Q : Int → Mm → Prop} : ∀ (n : Nat) (o0 : Nat) (x1 : Int) (x2 : Int) (M : Mm) (H : Heap) (locs : List Loc) (ls : Array Slot), gk g o0 = 8 → Rw E g ad M s.heap H locs → lv_has ls 3 [(0, .ref (ad o0)), (1, cI x1), (2, cI x2)] → p_X8_acted_L51 g n o0 x1 x2 M Q → W p l e rmX8_acted s m args below meth c H locs 0 0 (MQ below (QI E g ad Q) args s 0 0 (Rg g ad)) (F0 m 51 ls []) := by
  intro n
  induction n with
  | zero =>
    intro o0 x1 x2 M H locs ls k_o0 w hl h
    exact absurd h (by unfold p_X8_acted_L51; exact id)
  | succ n ih =>
    intro o0 x1 x2 M H locs ls k_o0 w hl h
    unfold p_X8_acted_L51 at h
    refine lv_iload_n X.1 X.2.1 dX8_acted_51 rfl (lv_at hl 2 rfl) ?_
    refine r_sipush X dX8_acted_52 (by decide +kernel) ?_
    obtain ⟨i0, h1, h2⟩ := h
    refine r_icmp_ge (tgt := 85) X i0 ⟨by decide, by decide⟩ dX8_acted_55 (by decide) (fun cc => ?_) (fun cc => ?_)
    · have h := h1 cc
      refine lv_aload_n X.1 X.2.1 dX8_acted_85 rfl (lv_at hl 0 rfl) ?_
      refine lv_dup X.1 X.2.1 dX8_acted_86 rfl ?_
      refine r_geti (N := 25) (T := TX8) (kz := 4) X K w iX8_acted_8 k_o0 rfl (by decide) 4 (by decide) rfl rfl rfl (List.mem_of_getElem? (i := 1) rfl) dX8_acted_87 ?_
      refine r_iconst X dX8_acted_90 ?_
      refine r_iadd X dX8_acted_91 ?_
      refine r_puti (N := 25) (T := TX8) (kz := 4) (ty := .int) X K w iX8_acted_8 tyX8 tyX8_ok nmX8 k_o0 rfl (by decide) 4 (by decide) rfl rfl rfl rfl (by decide +kernel) rfl rfl (List.mem_of_getElem? (i := 1) rfl) dX8_acted_92 (fun M1 H locs e w => ?_)
      replace h := h M1 e
      refine lv_iload_n X.1 X.2.1 dX8_acted_95 rfl (lv_at hl 1 rfl) ?_
      exact r_ireturn X hr hlk K w h dX8_acted_96
    · have h := h2 cc
      refine lv_aload_n X.1 X.2.1 dX8_acted_58 rfl (lv_at hl 0 rfl) ?_
      refine r_getr (N := 25) (T := TX8) X K w iX8_acted_8 k_o0 rfl (by decide) 3 (by decide) rfl rfl (List.mem_of_getElem? (i := 2) rfl) dX8_acted_59 ?_
      have k2 : gk g (o0 + 4) = 9 := gch hg k_o0 (by decide) 3 (by decide) rfl rfl
      refine r_sipush X dX8_acted_62 (by decide +kernel) ?_
      refine lv_aload_n X.1 X.2.1 dX8_acted_65 rfl (lv_at hl 0 rfl) ?_
      refine r_geti (N := 25) (T := TX8) (kz := 4) X K w iX8_acted_8 k_o0 rfl (by decide) 4 (by decide) rfl rfl rfl (List.mem_of_getElem? (i := 1) rfl) dX8_acted_66 ?_
      refine r_imul X dX8_acted_69 ?_
      refine lv_iload_n X.1 X.2.1 dX8_acted_70 rfl (lv_at hl 2 rfl) ?_
      refine r_iadd X dX8_acted_71 ?_
      refine lv_aload_n X.1 X.2.1 dX8_acted_72 rfl (lv_at hl 0 rfl) ?_
      refine r_getr (N := 25) (T := TX8) X K w iX8_acted_8 k_o0 rfl (by decide) 1 (by decide) rfl rfl (List.mem_of_getElem? (i := 3) rfl) dX8_acted_73 ?_
      have k3 : gk g (o0 + 2) = 9 := gch hg k_o0 (by decide) 1 (by decide) rfl rfl
      refine lv_iload_n X.1 X.2.1 dX8_acted_76 rfl (lv_at hl 2 rfl) ?_
      obtain ⟨b0, b1, h⟩ := h
      refine r_iald X K w hg k3 b0 b1 dX8_acted_77 ?_
      obtain ⟨b0, b1, h⟩ := h
      refine r_iast X K w hg k2 b0 b1 dX8_acted_78 (fun M4 H locs e w => ?_)
      replace h := h M4 e
      refine r_iinc (lv' := [(2, cI (x2 + 1)), (0, .ref (ad o0)), (1, cI x1)]) X hl (k := 2) rfl (by decide) dX8_acted_79 rfl (fun ls hl => ?_)
      refine lv_goto (tgt := 51) X.1 X.2.1 dX8_acted_82 (by decide) ?_
      exact ih o0 x1 (x2 + 1) M4 _ _ _ k_o0 w (lv_sub hl [1, 2, 0] rfl) h
set_option maxHeartbeats 4000000 in
set_option maxRecDepth 100000 in
theorem w_X8_acted_L10 {p : Program} {l : Launch} {e : Env} {s : State} {m : MethodId} {args : Array Value} {below : List Frame} {meth : Method} {c : Code} {E : EE} {g : GG} {ad : Nat → Nat} (hg : gwf g) (X : CallFix p m c cX8_acted 3 s args wsX8_acted RX8) (K : Kn E s) (hr : meth.sig.returnType = (some .int)) (hlk : meth.locks = false) {Q : Int → Mm → Prop} : ∀ (n : Nat) (o0 : Nat) (x1 : Int) (x2 : Int) (M : Mm) (H : Heap) (locs : List Loc) (ls : Array Slot), gk g o0 = 8 → Rw E g ad M s.heap H locs → lv_has ls 3 [(0, .ref (ad o0)), (1, cI x1), (2, cI x2)] → p_X8_acted_L10 g n o0 x1 x2 M Q → W p l e rmX8_acted s m args below meth c H locs 0 0 (MQ below (QI E g ad Q) args s 0 0 (Rg g ad)) (F0 m 10 ls []) := by
  intro n
  induction n with
  | zero =>
    intro o0 x1 x2 M H locs ls k_o0 w hl h
    exact absurd h (by unfold p_X8_acted_L10; exact id)
  | succ n ih =>
    intro o0 x1 x2 M H locs ls k_o0 w hl h
    unfold p_X8_acted_L10 at h
    refine lv_iload_n X.1 X.2.1 dX8_acted_10 rfl (lv_at hl 2 rfl) ?_
    refine r_sipush X dX8_acted_11 (by decide +kernel) ?_
    obtain ⟨i0, h1, h2⟩ := h
    refine r_icmp_ge (tgt := 39) X i0 ⟨by decide, by decide⟩ dX8_acted_14 (by decide) (fun cc => ?_) (fun cc => ?_)
    · have h := h1 cc
      refine lv_aload_n X.1 X.2.1 dX8_acted_39 rfl (lv_at hl 0 rfl) ?_
      refine lv_dup X.1 X.2.1 dX8_acted_40 rfl ?_
      refine r_geti (N := 25) (T := TX8) (kz := 4) X K w iX8_acted_8 k_o0 rfl (by decide) 4 (by decide) rfl rfl rfl (List.mem_of_getElem? (i := 1) rfl) dX8_acted_41 ?_
      refine r_iconst X dX8_acted_44 ?_
      refine r_isub X dX8_acted_45 ?_
      refine r_puti (N := 25) (T := TX8) (kz := 4) (ty := .int) X K w iX8_acted_8 tyX8 tyX8_ok nmX8 k_o0 rfl (by decide) 4 (by decide) rfl rfl rfl rfl (by decide +kernel) rfl rfl (List.mem_of_getElem? (i := 1) rfl) dX8_acted_46 (fun M6 H locs e w => ?_)
      replace h := h M6 e
      refine r_iconst X dX8_acted_49 ?_
      refine lv_istore_n (lv' := [(2, cI 0), (0, .ref (ad o0)), (1, cI x1)]) X.1 X.2.1 dX8_acted_50 rfl hl (by decide) rfl (fun ls hl => ?_)
      obtain ⟨n7, h⟩ := h
      exact w_X8_acted_L51 hg X K hr hlk n7 o0 x1 0 M6 _ _ _ k_o0 w (lv_sub hl [1, 2, 0] rfl) h
    · have h := h2 cc
      refine lv_aload_n X.1 X.2.1 dX8_acted_17 rfl (lv_at hl 0 rfl) ?_
      refine r_getr (N := 25) (T := TX8) X K w iX8_acted_8 k_o0 rfl (by decide) 3 (by decide) rfl rfl (List.mem_of_getElem? (i := 2) rfl) dX8_acted_18 ?_
      have k8 : gk g (o0 + 4) = 9 := gch hg k_o0 (by decide) 3 (by decide) rfl rfl
      refine lv_iload_n X.1 X.2.1 dX8_acted_21 rfl (lv_at hl 2 rfl) ?_
      refine lv_aload_n X.1 X.2.1 dX8_acted_22 rfl (lv_at hl 0 rfl) ?_
      refine r_getr (N := 25) (T := TX8) X K w iX8_acted_8 k_o0 rfl (by decide) 3 (by decide) rfl rfl (List.mem_of_getElem? (i := 2) rfl) dX8_acted_23 ?_
      have k9 : gk g (o0 + 4) = 9 := gch hg k_o0 (by decide) 3 (by decide) rfl rfl
      refine lv_iload_n X.1 X.2.1 dX8_acted_26 rfl (lv_at hl 2 rfl) ?_
      refine r_sipush X dX8_acted_27 (by decide +kernel) ?_
      refine r_iadd X dX8_acted_30 ?_
      obtain ⟨b0, b1, h⟩ := h
      refine r_iald X K w hg k9 b0 b1 dX8_acted_31 ?_
      obtain ⟨b0, b1, h⟩ := h
      refine r_iast X K w hg k8 b0 b1 dX8_acted_32 (fun M10 H locs e w => ?_)
      replace h := h M10 e
      refine r_iinc (lv' := [(2, cI (x2 + 1)), (0, .ref (ad o0)), (1, cI x1)]) X hl (k := 2) rfl (by decide) dX8_acted_33 rfl (fun ls hl => ?_)
      refine lv_goto (tgt := 10) X.1 X.2.1 dX8_acted_36 (by decide) ?_
      exact ih o0 x1 (x2 + 1) M10 _ _ _ k_o0 w (lv_sub hl [1, 2, 0] rfl) h
set_option maxHeartbeats 4000000 in
set_option maxRecDepth 100000 in
theorem c_X8_acted {E : EE} {l : Launch} {g : GG} {ad : Nat → Nat} (hg : gwf g) {o0 : Nat} {x1 : Int} {M : Mm} {Q : Int → Mm → Prop} (k_o0 : gk g o0 = 8) (h : p_X8_acted g o0 x1 M Q) : Ct E l yX8_acted wsX8_acted rmX8_acted g ad [.ref (ad o0), cI x1] M (QI E g ad Q) := by
  refine ent (cc := cX8_acted) (maxL := 3) (ret := (some .int)) (own := RX8) (by decide +kernel) rfl rfl (Nat.le_of_ble_eq_true rfl) ?_
  intro p e s m below meth c ls X hr hlk K w hl
  have hl : lv_has ls 3 [(0, .ref (ad o0)), (1, cI x1)] := hl
  unfold p_X8_acted at h
  refine lv_aload_n X.1 X.2.1 dX8_acted_0 rfl (lv_at hl 0 rfl) ?_
  refine r_geti (N := 25) (T := TX8) (kz := 4) X K w iX8_acted_8 k_o0 rfl (by decide) 4 (by decide) rfl rfl rfl (List.mem_of_getElem? (i := 1) rfl) dX8_acted_1 ?_
  refine r_iconst X dX8_acted_4 ?_
  obtain ⟨i0, h1, h2⟩ := h
  refine r_icmp_ne (tgt := 49) X i0 ⟨by decide, by decide⟩ dX8_acted_5 (by decide) (fun cc => ?_) (fun cc => ?_)
  · have h := h1 cc
    refine r_iconst X dX8_acted_49 ?_
    refine lv_istore_n (lv' := [(2, cI 0), (0, .ref (ad o0)), (1, cI x1)]) X.1 X.2.1 dX8_acted_50 rfl hl (by decide) rfl (fun ls hl => ?_)
    obtain ⟨n5, h⟩ := h
    exact w_X8_acted_L51 hg X K hr hlk n5 o0 x1 0 M _ _ _ k_o0 w (lv_sub hl [1, 2, 0] rfl) h
  · have h := h2 cc
    refine r_iconst X dX8_acted_8 ?_
    refine lv_istore_n (lv' := [(2, cI 0), (0, .ref (ad o0)), (1, cI x1)]) X.1 X.2.1 dX8_acted_9 rfl hl (by decide) rfl (fun ls hl => ?_)
    obtain ⟨n11, h⟩ := h
    exact w_X8_acted_L10 hg X K hr hlk n11 o0 x1 0 M _ _ _ k_o0 w (lv_sub hl [1, 2, 0] rfl) h
theorem dX8_of_0 : decode cX8_of 0 = .ok (.aload_n 0, 1) := by decide +kernel
theorem dX8_of_1 : decode cX8_of 1 = .ok (.getfield 7, 3) := by decide +kernel
theorem dX8_of_4 : decode cX8_of 4 = .ok (.bipush 41, 2) := by decide +kernel
theorem dX8_of_6 : decode cX8_of 6 = .ok (.iconst 4, 1) := by decide +kernel
theorem dX8_of_7 : decode cX8_of 7 = .ok (.iload_n 1, 1) := by decide +kernel
theorem dX8_of_8 : decode cX8_of 8 = .ok (.imul, 1) := by decide +kernel
theorem dX8_of_9 : decode cX8_of 9 = .ok (.iadd, 1) := by decide +kernel
theorem dX8_of_10 : decode cX8_of 10 = .ok (.iload_n 2, 1) := by decide +kernel
theorem dX8_of_11 : decode cX8_of 11 = .ok (.iadd, 1) := by decide +kernel
theorem dX8_of_12 : decode cX8_of 12 = .ok (.iaload, 1) := by decide +kernel
theorem dX8_of_13 : decode cX8_of 13 = .ok (.ireturn, 1) := by decide +kernel
theorem iX8_of_8 : ∀ w ∈ u_ws RX8 TX8 25, w ∈ wsX8_of := fun w h => List.mem_cons_of_mem _ (List.mem_append_right _ (h))
set_option maxHeartbeats 4000000 in
set_option maxRecDepth 100000 in
theorem c_X8_of {E : EE} {l : Launch} {g : GG} {ad : Nat → Nat} (hg : gwf g) {o0 : Nat} {x1 : Int} {x2 : Int} {M : Mm} {Q : Int → Mm → Prop} (k_o0 : gk g o0 = 8) (h : p_X8_of g o0 x1 x2 M Q) : Ct E l yX8_of wsX8_of rmX8_of g ad [.ref (ad o0), cI x1, cI x2] M (QI E g ad Q) := by
  refine ent (cc := cX8_of) (maxL := 3) (ret := (some .int)) (own := RX8) (by decide +kernel) rfl rfl (Nat.le_of_ble_eq_true rfl) ?_
  intro p e s m below meth c ls X hr hlk K w hl
  have hl : lv_has ls 3 [(0, .ref (ad o0)), (1, cI x1), (2, cI x2)] := hl
  unfold p_X8_of at h
  refine lv_aload_n X.1 X.2.1 dX8_of_0 rfl (lv_at hl 0 rfl) ?_
  refine r_getr (N := 25) (T := TX8) X K w iX8_of_8 k_o0 rfl (by decide) 0 (by decide) rfl rfl (List.mem_of_getElem? (i := 1) rfl) dX8_of_1 ?_
  have k1 : gk g (o0 + 1) = 9 := gch hg k_o0 (by decide) 0 (by decide) rfl rfl
  refine r_bipush X dX8_of_4 (by decide +kernel) ?_
  refine r_iconst X dX8_of_6 ?_
  refine lv_iload_n X.1 X.2.1 dX8_of_7 rfl (lv_at hl 1 rfl) ?_
  refine r_imul X dX8_of_8 ?_
  refine r_iadd X dX8_of_9 ?_
  refine lv_iload_n X.1 X.2.1 dX8_of_10 rfl (lv_at hl 2 rfl) ?_
  refine r_iadd X dX8_of_11 ?_
  obtain ⟨b0, b1, h⟩ := h
  refine r_iald X K w hg k1 b0 b1 dX8_of_12 ?_
  exact r_ireturn X hr hlk K w h dX8_of_13
