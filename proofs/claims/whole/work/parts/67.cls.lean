section
/-! the class: its constructor -/
set_option maxRecDepth 20000 in
theorem ggX7_init_X5_init : GoodIn wsX7_init wsX5_init := goodIn_r _ [28, 29, 2, 3, 30, 31, 32, 33, 34, 35, 36, 37, 38, 39, 40, 41, 42, 43, 44, 45, 46, 47, 48, 49, 50, 51, 52, 53, 54, 55, 56, 57, 58, 59, 60, 61, 62, 63, 64, 65, 66, 67, 68, 69, 70, 71, 72, 158, 117, 118, 119, 120, 121, 122, 123, 124, 125, 126, 127, 159, 160, 161, 162, 163, 164] (by decide +kernel) (by decide +kernel)
set_option maxRecDepth 20000 in
theorem gX7_init_X5_init : GoodIn wsX7_init (wsX5_init) := ggX7_init_X5_init
set_option maxRecDepth 20000 in
theorem ggX7_init_X2_init : GoodIn wsX7_init wsX2_init := goodIn_r _ [75, 76, 2, 3, 77, 78, 79, 5, 6, 80, 27, 28, 29, 30, 31, 32, 33, 34, 35, 36, 37, 38, 39, 40, 41, 42, 43, 44, 45, 46, 47, 48, 49, 50, 51, 52, 53, 54, 55, 56, 57, 58, 59, 60, 61, 62, 63, 64, 65, 66, 67, 68, 69, 70, 71, 72, 135, 136, 117, 118, 119, 120, 121, 122, 123, 124, 125, 126, 127, 158, 159, 160, 161, 162, 163, 164] (by decide +kernel) (by decide +kernel)
set_option maxRecDepth 20000 in
theorem gX7_init_X2_init : GoodIn wsX7_init (wsX2_init) := ggX7_init_X2_init
set_option maxRecDepth 20000 in
theorem ggX7_init_X6_init : GoodIn wsX7_init wsX6_init := goodIn_r _ [82, 83, 2, 3, 84, 31, 32, 85, 86, 87, 48, 49, 50, 51, 52, 53, 54, 55, 56, 158, 137, 138] (by decide +kernel) (by decide +kernel)
set_option maxRecDepth 20000 in
theorem gX7_init_X6_init_n28 : GoodIn wsX7_init (wsX6_init) := ggX7_init_X6_init
set_option maxRecDepth 20000 in
theorem ggX7_init_X1_init : GoodIn wsX7_init wsX1_init := goodIn_r _ [89, 90, 2, 3, 91, 38, 39, 92, 93, 94, 95, 96, 58, 59, 60, 61, 62, 63, 31, 32, 64, 65, 66, 67, 68, 48, 49, 50, 51, 52, 53, 54, 55, 56, 159, 160, 161, 162, 163, 164, 139, 140, 141, 142, 158] (by decide +kernel) (by decide +kernel)
set_option maxRecDepth 20000 in
theorem gX7_init_X1_init_n35 : GoodIn wsX7_init (wsX1_init) := ggX7_init_X1_init
set_option maxRecDepth 20000 in
theorem ggX7_init_X3_init : GoodIn wsX7_init wsX3_init := goodIn_r _ [98, 99, 2, 3, 100, 31, 32, 101, 102, 103, 104, 105, 106, 107, 108, 109, 110, 111, 112, 113, 114, 115, 116, 48, 49, 50, 51, 52, 53, 54, 55, 56, 158, 143, 144, 145, 146, 147, 148, 149, 150, 151, 152, 153, 154, 155, 156, 157] (by decide +kernel) (by decide +kernel)
set_option maxRecDepth 20000 in
theorem gX7_init_X3_init_n42 : GoodIn wsX7_init (wsX3_init) := ggX7_init_X3_init
theorem dX7_init_0 : decode cX7_init 0 = .ok (.aload_n 0, 1) := by decide +kernel
theorem dX7_init_1 : decode cX7_init 1 = .ok (.invokespecial 1, 3) := by decide +kernel
theorem dX7_init_4 : decode cX7_init 4 = .ok (.aload_n 0, 1) := by decide +kernel
theorem dX7_init_5 : decode cX7_init 5 = .ok (.new 7, 3) := by decide +kernel
theorem dX7_init_8 : decode cX7_init 8 = .ok (.dup, 1) := by decide +kernel
theorem dX7_init_9 : decode cX7_init 9 = .ok (.invokespecial 9, 3) := by decide +kernel
theorem dX7_init_12 : decode cX7_init 12 = .ok (.putfield 10, 3) := by decide +kernel
theorem dX7_init_15 : decode cX7_init 15 = .ok (.aload_n 0, 1) := by decide +kernel
theorem dX7_init_16 : decode cX7_init 16 = .ok (.new 7, 3) := by decide +kernel
theorem dX7_init_19 : decode cX7_init 19 = .ok (.dup, 1) := by decide +kernel
theorem dX7_init_20 : decode cX7_init 20 = .ok (.invokespecial 9, 3) := by decide +kernel
theorem dX7_init_23 : decode cX7_init 23 = .ok (.putfield 16, 3) := by decide +kernel
theorem dX7_init_26 : decode cX7_init 26 = .ok (.aload_n 0, 1) := by decide +kernel
theorem dX7_init_27 : decode cX7_init 27 = .ok (.new 19, 3) := by decide +kernel
theorem dX7_init_30 : decode cX7_init 30 = .ok (.dup, 1) := by decide +kernel
theorem dX7_init_31 : decode cX7_init 31 = .ok (.invokespecial 21, 3) := by decide +kernel
theorem dX7_init_34 : decode cX7_init 34 = .ok (.putfield 22, 3) := by decide +kernel
theorem dX7_init_37 : decode cX7_init 37 = .ok (.aload_n 0, 1) := by decide +kernel
theorem dX7_init_38 : decode cX7_init 38 = .ok (.new 26, 3) := by decide +kernel
theorem dX7_init_41 : decode cX7_init 41 = .ok (.dup, 1) := by decide +kernel
theorem dX7_init_42 : decode cX7_init 42 = .ok (.invokespecial 28, 3) := by decide +kernel
theorem dX7_init_45 : decode cX7_init 45 = .ok (.putfield 29, 3) := by decide +kernel
theorem dX7_init_48 : decode cX7_init 48 = .ok (.aload_n 0, 1) := by decide +kernel
theorem dX7_init_49 : decode cX7_init 49 = .ok (.new 33, 3) := by decide +kernel
theorem dX7_init_52 : decode cX7_init 52 = .ok (.dup, 1) := by decide +kernel
theorem dX7_init_53 : decode cX7_init 53 = .ok (.invokespecial 35, 3) := by decide +kernel
theorem dX7_init_56 : decode cX7_init 56 = .ok (.putfield 36, 3) := by decide +kernel
theorem dX7_init_59 : decode cX7_init 59 = .ok (.aload_n 0, 1) := by decide +kernel
theorem dX7_init_60 : decode cX7_init 60 = .ok (.new 40, 3) := by decide +kernel
theorem dX7_init_63 : decode cX7_init 63 = .ok (.dup, 1) := by decide +kernel
theorem dX7_init_64 : decode cX7_init 64 = .ok (.invokespecial 42, 3) := by decide +kernel
theorem dX7_init_67 : decode cX7_init 67 = .ok (.putfield 43, 3) := by decide +kernel
theorem dX7_init_70 : decode cX7_init 70 = .ok (.aload_n 0, 1) := by decide +kernel
theorem dX7_init_71 : decode cX7_init 71 = .ok (.iconst 0, 1) := by decide +kernel
theorem dX7_init_72 : decode cX7_init 72 = .ok (.putfield 47, 3) := by decide +kernel
theorem dX7_init_75 : decode cX7_init 75 = .ok (.return_, 1) := by decide +kernel
set_option maxHeartbeats 4000000 in
set_option maxRecDepth 100000 in
theorem k_X7_init {E : EE} {l : Launch} : CnA E l yX7_init wsX7_init ({ frames := 6, cells := 148, slots := 2002, locals := 170 }) 7 gC MC0 [] 148 (2002) := by
  intro h sz
  refine Met.ofW (cc := cX7_init) (maxL := 1) (ret := none) (by decide) rfl ?_
  intro p e s m args below meth c s₁ B hml hv
  obtain ⟨rfl, hsz, hP, ⟨hK, hAO⟩, hlt⟩ := hv
  have hx := B.exec
  have hb := B.bytes
  have hr := B.returns
  have hts := atoms_spec (ws := wsX7_init) B.pre
  have hown : s.vm.findClass RX7 = some m.cls := findClass_of_methodNamed B.named
  have hlocks := B.notSynchronized
  have hin : meth.name = "<init>" := (name_of_methodNamed B.named B.method).1
  subst hsz
  have hD := one_D (h := h) (sz := s.heap.size) (e := .inr (7, blk 7))
  generalize hAe : (fun x => x = h ∨ s.heap.size ≤ x) = A at hD ⊢
  have hA : ∀ q : Nat, s.heap.size ≤ q → A q := fun q h => by rw [← hAe]; exact Or.inr h
  have hS : va_S A s.heap s.heap [] := va_S.rf
  have hl := lv_entry ([.ref h]) (n := 1) (Nat.le_of_ble_eq_true rfl)
  rw [lg_entry_eq]
  generalize (lg_sl ([.ref h]) ++ List.replicate (1 - (lg_sl ([.ref h])).length) Slot.unset).toArray = ls at hl ⊢
  have hl : lv_has ls 1 [(0, .ref h)] := hl
  have X : CallFix p m c cX7_init 1 s _ wsX7_init RX7 := ⟨hx, hb, hml, hown, hts⟩
  refine lv_aload_n hx hb dX7_init_0 rfl (lv_at hl 0 rfl) ?_
  refine W.objInit hx hb hown (hts (.methodLink RX7 1 objectInit) (by decide +kernel)) (hts (.instanceMethod objectInit) (by decide +kernel)) (hts (.code objectInit ⟨#[0xb1]⟩ 1 none) (by decide +kernel)) rfl (by rw [hml]; exact hl.1) rfl dX7_init_1 (Nat.le_of_ble_eq_true rfl) (Nat.le_of_ble_eq_true rfl) ?_
  refine W.eq (g2 := F0 m 4 ls []) rfl ?_
  refine lv_aload_n hx hb dX7_init_4 rfl (lv_at hl 0 rfl) ?_
  refine va_new (D := E.1) (ci := 5) (fs := blk 5) (C := RX5) (T := TX5) (N := 11) hx hb hts (by decide +kernel) tyX5 tyX5_ok hown (hts (.classLink RX7 7 RX5) (by decide +kernel)) (hts (.instantiable RX5 11) (by decide +kernel)) (hts (.initialized RX5) (by decide +kernel)) hK.1 hP hD hS hA rfl (fun j hj => by have : j < 11 := hj; match j, this with | 0, _ => rfl | 1, _ => rfl | 2, _ => rfl | 3, _ => rfl | 4, _ => rfl | 5, _ => rfl | 6, _ => rfl | 7, _ => rfl | 8, _ => rfl | 9, _ => rfl | 10, _ => rfl) (show 0 + 1 ≤ 148 by omega) (show 0 + 11 ≤ 2002 by omega) dX7_init_5 (fun q H hP hD hS => ?_)
  refine lv_dup hx hb dX7_init_8 rfl ?_
  refine k_ini (WW := ([(h, .inr (7, [.null, .null, .null, .null, .null, .null, .int 0]))])) (gc := gSta) (Mf := (MS 10 4)) (nc := 17) (ns := 208) hK hP hD hS hA (va_runI (As := []) (rest := [.ref q, .ref h]) X (k_X5_init q H.size) (cwI 0 hts gX7_init_X5_init rfl rfl rfl (hts (.initialized RX5) (by decide +kernel)) (hts (.methodLink RX7 9 yX5_init) (by decide +kernel)) (hts (.instanceMethod yX5_init) (by decide +kernel)) rfl (by decide +kernel) ⟨Nat.le_of_ble_eq_true rfl, Nat.le_of_ble_eq_true rfl⟩) (k_pre hK hP) rfl rfl hl.1 rfl (lv_room (Nat.le_of_ble_eq_true rfl)) dX7_init_9 ⟨show 0 + 1 + 17 ≤ 148 by omega, show 0 + 11 + 208 ≤ 2002 by omega⟩) (fun a1 H locs h0 hPz hDz hSz => ?_)
  refine W.widen (k := 18) (n := 219) (by omega) (by omega) ?_
  subst h0
  have hP := hPz
  have hD := hDz
  have hS := hSz
  refine va_putF (D := E.1) (ci := 7) (v := .ref (a1 0)) (ty := .object "LentSounds$State") (C := RX7) (T := TX7) (N := 7) hx hb hts (by decide +kernel) tyX7 tyX7_ok nmX7 hown hK.1 hP hD hS 0 rfl rfl 0 (by decide) (hts (.fieldLink RX7 10 "LentSounds" "now" "LLentSounds$State;") (by decide +kernel)) (fun _ h9 => h9) rfl hin rfl (by decide +kernel) rfl rfl (Nat.le_of_ble_eq_true rfl) dX7_init_12 (fun H locs hP hD hS => ?_)
  have hP : va_P E.1 vwCl (([(h, .inr (7, [.ref (a1 0), .null, .null, .null, .null, .null, .int 0]))]) ++ wd E gSta a1 (MS 10 4)) H := hP
  have hD : va_D A (([(h, .inr (7, [.ref (a1 0), .null, .null, .null, .null, .null, .int 0]))]) ++ wd E gSta a1 (MS 10 4)) := hD
  refine lv_aload_n hx hb dX7_init_15 rfl (lv_at hl 0 rfl) ?_
  refine va_new (D := E.1) (ci := 5) (fs := blk 5) (C := RX5) (T := TX5) (N := 11) hx hb hts (by decide +kernel) tyX5 tyX5_ok hown (hts (.classLink RX7 7 RX5) (by decide +kernel)) (hts (.instantiable RX5 11) (by decide +kernel)) (hts (.initialized RX5) (by decide +kernel)) hK.1 hP hD hS hA rfl (fun j hj => by have : j < 11 := hj; match j, this with | 0, _ => rfl | 1, _ => rfl | 2, _ => rfl | 3, _ => rfl | 4, _ => rfl | 5, _ => rfl | 6, _ => rfl | 7, _ => rfl | 8, _ => rfl | 9, _ => rfl | 10, _ => rfl) (show 18 + 1 ≤ 148 by omega) (show 219 + 11 ≤ 2002 by omega) dX7_init_16 (fun q H hP hD hS => ?_)
  refine lv_dup hx hb dX7_init_19 rfl ?_
  refine k_ini (WW := (([(h, .inr (7, [.ref (a1 0), .null, .null, .null, .null, .null, .int 0]))]) ++ wd E gSta a1 (MS 10 4))) (gc := gSta) (Mf := (MS 10 4)) (nc := 17) (ns := 208) hK hP hD hS hA (va_runI (As := []) (rest := [.ref q, .ref h]) X (k_X5_init q H.size) (cwI 0 hts gX7_init_X5_init rfl rfl rfl (hts (.initialized RX5) (by decide +kernel)) (hts (.methodLink RX7 9 yX5_init) (by decide +kernel)) (hts (.instanceMethod yX5_init) (by decide +kernel)) rfl (by decide +kernel) ⟨Nat.le_of_ble_eq_true rfl, Nat.le_of_ble_eq_true rfl⟩) (k_pre hK hP) rfl rfl hl.1 rfl (lv_room (Nat.le_of_ble_eq_true rfl)) dX7_init_20 ⟨show 18 + 1 + 17 ≤ 148 by omega, show 219 + 11 + 208 ≤ 2002 by omega⟩) (fun a2 H locs h0 hPz hDz hSz => ?_)
  refine W.widen (k := 36) (n := 438) (by omega) (by omega) ?_
  subst h0
  have hP := hPz
  have hD := hDz
  have hS := hSz
  refine va_putF (D := E.1) (ci := 7) (v := .ref (a2 0)) (ty := .object "LentSounds$State") (C := RX7) (T := TX7) (N := 7) hx hb hts (by decide +kernel) tyX7 tyX7_ok nmX7 hown hK.1 hP hD hS 0 rfl rfl 1 (by decide) (hts (.fieldLink RX7 16 "LentSounds" "snapshot" "LLentSounds$State;") (by decide +kernel)) (fun _ h9 => h9) rfl hin rfl (by decide +kernel) rfl rfl (Nat.le_of_ble_eq_true rfl) dX7_init_23 (fun H locs hP hD hS => ?_)
  have hP : va_P E.1 vwCl ((([(h, .inr (7, [.ref (a1 0), .ref (a2 0), .null, .null, .null, .null, .int 0]))]) ++ wd E gSta a1 (MS 10 4)) ++ wd E gSta a2 (MS 10 4)) H := hP
  have hD : va_D A ((([(h, .inr (7, [.ref (a1 0), .ref (a2 0), .null, .null, .null, .null, .int 0]))]) ++ wd E gSta a1 (MS 10 4)) ++ wd E gSta a2 (MS 10 4)) := hD
  refine lv_aload_n hx hb dX7_init_26 rfl (lv_at hl 0 rfl) ?_
  refine va_new (D := E.1) (ci := 2) (fs := blk 2) (C := RX2) (T := TX2) (N := 2) hx hb hts (by decide +kernel) tyX2 tyX2_ok hown (hts (.classLink RX7 19 RX2) (by decide +kernel)) (hts (.instantiable RX2 2) (by decide +kernel)) (hts (.initialized RX2) (by decide +kernel)) hK.1 hP hD hS hA rfl (fun j hj => by have : j < 2 := hj; match j, this with | 0, _ => rfl | 1, _ => rfl) (show 36 + 1 ≤ 148 by omega) (show 438 + 2 ≤ 2002 by omega) dX7_init_27 (fun q H hP hD hS => ?_)
  refine lv_dup hx hb dX7_init_30 rfl ?_
  refine k_ini (WW := ((([(h, .inr (7, [.ref (a1 0), .ref (a2 0), .null, .null, .null, .null, .int 0]))]) ++ wd E gSta a1 (MS 10 4)) ++ wd E gSta a2 (MS 10 4))) (gc := gHis) (Mf := MHis) (nc := 73) (ns := 880) hK hP hD hS hA (va_runI (As := []) (rest := [.ref q, .ref h]) X (k_X2_init q H.size) (cwI 0 hts gX7_init_X2_init rfl rfl rfl (hts (.initialized RX2) (by decide +kernel)) (hts (.methodLink RX7 21 yX2_init) (by decide +kernel)) (hts (.instanceMethod yX2_init) (by decide +kernel)) rfl (by decide +kernel) ⟨Nat.le_of_ble_eq_true rfl, Nat.le_of_ble_eq_true rfl⟩) (k_preA hK hAO hP) rfl rfl hl.1 rfl (lv_room (Nat.le_of_ble_eq_true rfl)) dX7_init_31 ⟨show 36 + 1 + 73 ≤ 148 by omega, show 438 + 2 + 880 ≤ 2002 by omega⟩) (fun a3 H locs h0 hPz hDz hSz => ?_)
  refine W.widen (k := 110) (n := 1320) (by omega) (by omega) ?_
  subst h0
  have hP := hPz
  have hD := hDz
  have hS := hSz
  refine va_putF (D := E.1) (ci := 7) (v := .ref (a3 0)) (ty := .object "LentSounds$History") (C := RX7) (T := TX7) (N := 7) hx hb hts (by decide +kernel) tyX7 tyX7_ok nmX7 hown hK.1 hP hD hS 0 rfl rfl 2 (by decide) (hts (.fieldLink RX7 22 "LentSounds" "history" "LLentSounds$History;") (by decide +kernel)) (fun _ h9 => h9) rfl hin rfl (by decide +kernel) rfl rfl (Nat.le_of_ble_eq_true rfl) dX7_init_34 (fun H locs hP hD hS => ?_)
  have hP : va_P E.1 vwCl (((([(h, .inr (7, [.ref (a1 0), .ref (a2 0), .ref (a3 0), .null, .null, .null, .int 0]))]) ++ wd E gSta a1 (MS 10 4)) ++ wd E gSta a2 (MS 10 4)) ++ wd E gHis a3 MHis) H := hP
  have hD : va_D A (((([(h, .inr (7, [.ref (a1 0), .ref (a2 0), .ref (a3 0), .null, .null, .null, .int 0]))]) ++ wd E gSta a1 (MS 10 4)) ++ wd E gSta a2 (MS 10 4)) ++ wd E gHis a3 MHis) := hD
  refine lv_aload_n hx hb dX7_init_37 rfl (lv_at hl 0 rfl) ?_
  refine va_new (D := E.1) (ci := 6) (fs := blk 6) (C := RX6) (T := TX6) (N := 2) hx hb hts (by decide +kernel) tyX6 tyX6_ok hown (hts (.classLink RX7 26 RX6) (by decide +kernel)) (hts (.instantiable RX6 2) (by decide +kernel)) (hts (.initialized RX6) (by decide +kernel)) hK.1 hP hD hS hA rfl (fun j hj => by have : j < 2 := hj; match j, this with | 0, _ => rfl | 1, _ => rfl) (show 110 + 1 ≤ 148 by omega) (show 1320 + 2 ≤ 2002 by omega) dX7_init_38 (fun q H hP hD hS => ?_)
  refine lv_dup hx hb dX7_init_41 rfl ?_
  refine k_ini (WW := (((([(h, .inr (7, [.ref (a1 0), .ref (a2 0), .ref (a3 0), .null, .null, .null, .int 0]))]) ++ wd E gSta a1 (MS 10 4)) ++ wd E gSta a2 (MS 10 4)) ++ wd E gHis a3 MHis)) (gc := gTxt) (Mf := M00) (nc := 2) (ns := 61) hK hP hD hS hA (va_runIN (As := []) (rest := [.ref q, .ref h]) X (k_X6_init q H.size) ⟨va_cnB 0 hts gX7_init_X6_init_n28 rfl rfl rfl (hK.2.2 _ (List.mem_of_getElem? (i := 0) rfl)) (hts (.initialized RX6) (by decide +kernel)) (by decide +kernel) ⟨Nat.le_of_ble_eq_true rfl, Nat.le_of_ble_eq_true rfl⟩, rfl, hts (.instanceMethod yX6_init) (by decide +kernel)⟩ (k_pre hK hP) rfl rfl hl.1 rfl (lv_room (Nat.le_of_ble_eq_true rfl)) dX7_init_42 ⟨show 110 + 1 + 2 ≤ 148 by omega, show 1320 + 2 + 61 ≤ 2002 by omega⟩) (fun a4 H locs h0 hPz hDz hSz => ?_)
  refine W.widen (k := 113) (n := 1383) (by omega) (by omega) ?_
  subst h0
  have hP := hPz
  have hD := hDz
  have hS := hSz
  refine va_putF (D := E.1) (ci := 7) (v := .ref (a4 0)) (ty := .object "LentSounds$Text") (C := RX7) (T := TX7) (N := 7) hx hb hts (by decide +kernel) tyX7 tyX7_ok nmX7 hown hK.1 hP hD hS 0 rfl rfl 3 (by decide) (hts (.fieldLink RX7 29 "LentSounds" "text" "LLentSounds$Text;") (by decide +kernel)) (fun _ h9 => h9) rfl hin rfl (by decide +kernel) rfl rfl (Nat.le_of_ble_eq_true rfl) dX7_init_45 (fun H locs hP hD hS => ?_)
  have hP : va_P E.1 vwCl ((((([(h, .inr (7, [.ref (a1 0), .ref (a2 0), .ref (a3 0), .ref (a4 0), .null, .null, .int 0]))]) ++ wd E gSta a1 (MS 10 4)) ++ wd E gSta a2 (MS 10 4)) ++ wd E gHis a3 MHis) ++ wd E gTxt a4 M00) H := hP
  have hD : va_D A ((((([(h, .inr (7, [.ref (a1 0), .ref (a2 0), .ref (a3 0), .ref (a4 0), .null, .null, .int 0]))]) ++ wd E gSta a1 (MS 10 4)) ++ wd E gSta a2 (MS 10 4)) ++ wd E gHis a3 MHis) ++ wd E gTxt a4 M00) := hD
  refine lv_aload_n hx hb dX7_init_48 rfl (lv_at hl 0 rfl) ?_
  refine va_new (D := E.1) (ci := 1) (fs := blk 1) (C := RX1) (T := TX1) (N := 4) hx hb hts (by decide +kernel) tyX1 tyX1_ok hown (hts (.classLink RX7 33 RX1) (by decide +kernel)) (hts (.instantiable RX1 4) (by decide +kernel)) (hts (.initialized RX1) (by decide +kernel)) hK.1 hP hD hS hA rfl (fun j hj => by have : j < 4 := hj; match j, this with | 0, _ => rfl | 1, _ => rfl | 2, _ => rfl | 3, _ => rfl) (show 113 + 1 ≤ 148 by omega) (show 1383 + 4 ≤ 2002 by omega) dX7_init_49 (fun q H hP hD hS => ?_)
  refine lv_dup hx hb dX7_init_52 rfl ?_
  refine k_ini (WW := ((((([(h, .inr (7, [.ref (a1 0), .ref (a2 0), .ref (a3 0), .ref (a4 0), .null, .null, .int 0]))]) ++ wd E gSta a1 (MS 10 4)) ++ wd E gSta a2 (MS 10 4)) ++ wd E gHis a3 MHis) ++ wd E gTxt a4 M00)) (gc := gRdr) (Mf := MRdr) (nc := 9) (ns := 410) hK hP hD hS hA (va_runIN (As := []) (rest := [.ref q, .ref h]) X (k_X1_init q H.size) ⟨va_cnB 0 hts gX7_init_X1_init_n35 rfl rfl rfl (hK.2.2 _ (List.mem_of_getElem? (i := 1) rfl)) (hts (.initialized RX1) (by decide +kernel)) (by decide +kernel) ⟨Nat.le_of_ble_eq_true rfl, Nat.le_of_ble_eq_true rfl⟩, rfl, hts (.instanceMethod yX1_init) (by decide +kernel)⟩ (k_pre hK hP) rfl rfl hl.1 rfl (lv_room (Nat.le_of_ble_eq_true rfl)) dX7_init_53 ⟨show 113 + 1 + 9 ≤ 148 by omega, show 1383 + 4 + 410 ≤ 2002 by omega⟩) (fun a5 H locs h0 hPz hDz hSz => ?_)
  refine W.widen (k := 123) (n := 1797) (by omega) (by omega) ?_
  subst h0
  have hP := hPz
  have hD := hDz
  have hS := hSz
  refine va_putF (D := E.1) (ci := 7) (v := .ref (a5 0)) (ty := .object "LentSounds$CueReader") (C := RX7) (T := TX7) (N := 7) hx hb hts (by decide +kernel) tyX7 tyX7_ok nmX7 hown hK.1 hP hD hS 0 rfl rfl 4 (by decide) (hts (.fieldLink RX7 36 "LentSounds" "reader" "LLentSounds$CueReader;") (by decide +kernel)) (fun _ h9 => h9) rfl hin rfl (by decide +kernel) rfl rfl (Nat.le_of_ble_eq_true rfl) dX7_init_56 (fun H locs hP hD hS => ?_)
  have hP : va_P E.1 vwCl (((((([(h, .inr (7, [.ref (a1 0), .ref (a2 0), .ref (a3 0), .ref (a4 0), .ref (a5 0), .null, .int 0]))]) ++ wd E gSta a1 (MS 10 4)) ++ wd E gSta a2 (MS 10 4)) ++ wd E gHis a3 MHis) ++ wd E gTxt a4 M00) ++ wd E gRdr a5 MRdr) H := hP
  have hD : va_D A (((((([(h, .inr (7, [.ref (a1 0), .ref (a2 0), .ref (a3 0), .ref (a4 0), .ref (a5 0), .null, .int 0]))]) ++ wd E gSta a1 (MS 10 4)) ++ wd E gSta a2 (MS 10 4)) ++ wd E gHis a3 MHis) ++ wd E gTxt a4 M00) ++ wd E gRdr a5 MRdr) := hD
  refine lv_aload_n hx hb dX7_init_59 rfl (lv_at hl 0 rfl) ?_
  refine va_new (D := E.1) (ci := 3) (fs := blk 3) (C := RX3) (T := TX3) (N := 15) hx hb hts (by decide +kernel) tyX3 tyX3_ok hown (hts (.classLink RX7 40 RX3) (by decide +kernel)) (hts (.instantiable RX3 15) (by decide +kernel)) (hts (.initialized RX3) (by decide +kernel)) hK.1 hP hD hS hA rfl (fun j hj => by have : j < 15 := hj; match j, this with | 0, _ => rfl | 1, _ => rfl | 2, _ => rfl | 3, _ => rfl | 4, _ => rfl | 5, _ => rfl | 6, _ => rfl | 7, _ => rfl | 8, _ => rfl | 9, _ => rfl | 10, _ => rfl | 11, _ => rfl | 12, _ => rfl | 13, _ => rfl | 14, _ => rfl) (show 123 + 1 ≤ 148 by omega) (show 1797 + 15 ≤ 2002 by omega) dX7_init_60 (fun q H hP hD hS => ?_)
  refine lv_dup hx hb dX7_init_63 rfl ?_
  refine k_ini (WW := (((((([(h, .inr (7, [.ref (a1 0), .ref (a2 0), .ref (a3 0), .ref (a4 0), .ref (a5 0), .null, .int 0]))]) ++ wd E gSta a1 (MS 10 4)) ++ wd E gSta a2 (MS 10 4)) ++ wd E gHis a3 MHis) ++ wd E gTxt a4 M00) ++ wd E gRdr a5 MRdr)) (gc := gReh) (Mf := M00) (nc := 24) (ns := 190) hK hP hD hS hA (va_runIN (As := []) (rest := [.ref q, .ref h]) X (k_X3_init q H.size) ⟨va_cnB 0 hts gX7_init_X3_init_n42 rfl rfl rfl (hK.2.2 _ (List.mem_of_getElem? (i := 2) rfl)) (hts (.initialized RX3) (by decide +kernel)) (by decide +kernel) ⟨Nat.le_of_ble_eq_true rfl, Nat.le_of_ble_eq_true rfl⟩, rfl, hts (.instanceMethod yX3_init) (by decide +kernel)⟩ (k_pre hK hP) rfl rfl hl.1 rfl (lv_room (Nat.le_of_ble_eq_true rfl)) dX7_init_64 ⟨show 123 + 1 + 24 ≤ 148 by omega, show 1797 + 15 + 190 ≤ 2002 by omega⟩) (fun a6 H locs h0 hPz hDz hSz => ?_)
  refine W.widen (k := 148) (n := 2002) (by omega) (by omega) ?_
  subst h0
  have hP := hPz
  have hD := hDz
  have hS := hSz
  refine va_putF (D := E.1) (ci := 7) (v := .ref (a6 0)) (ty := .object "LentSounds$Rehearsal") (C := RX7) (T := TX7) (N := 7) hx hb hts (by decide +kernel) tyX7 tyX7_ok nmX7 hown hK.1 hP hD hS 0 rfl rfl 5 (by decide) (hts (.fieldLink RX7 43 "LentSounds" "rehearsal" "LLentSounds$Rehearsal;") (by decide +kernel)) (fun _ h9 => h9) rfl hin rfl (by decide +kernel) rfl rfl (Nat.le_of_ble_eq_true rfl) dX7_init_67 (fun H locs hP hD hS => ?_)
  have hP : va_P E.1 vwCl ((((((([(h, .inr (7, [.ref (a1 0), .ref (a2 0), .ref (a3 0), .ref (a4 0), .ref (a5 0), .ref (a6 0), .int 0]))]) ++ wd E gSta a1 (MS 10 4)) ++ wd E gSta a2 (MS 10 4)) ++ wd E gHis a3 MHis) ++ wd E gTxt a4 M00) ++ wd E gRdr a5 MRdr) ++ wd E gReh a6 M00) H := hP
  have hD : va_D A ((((((([(h, .inr (7, [.ref (a1 0), .ref (a2 0), .ref (a3 0), .ref (a4 0), .ref (a5 0), .ref (a6 0), .int 0]))]) ++ wd E gSta a1 (MS 10 4)) ++ wd E gSta a2 (MS 10 4)) ++ wd E gHis a3 MHis) ++ wd E gTxt a4 M00) ++ wd E gRdr a5 MRdr) ++ wd E gReh a6 M00) := hD
  refine lv_aload_n hx hb dX7_init_70 rfl (lv_at hl 0 rfl) ?_
  refine r_iconst X dX7_init_71 ?_
  refine va_put (D := E.1) (ci := 7) (v := cI 0) (ty := .boolean) (C := RX7) (T := TX7) (N := 7) hx hb hts (by decide +kernel) tyX7 tyX7_ok nmX7 hown hK.1 hP hD hS 0 rfl rfl 6 (by decide) (hts (.fieldLink RX7 47 "LentSounds" "hasSnapshot" "Z") (by decide +kernel)) (fun _ h9 => h9) rfl (by decide +kernel) rfl rfl (Nat.le_of_ble_eq_true rfl) dX7_init_72 (fun H locs hP hD hS => ?_)
  have hP : va_P E.1 vwCl ((((((([(h, .inr (7, [.ref (a1 0), .ref (a2 0), .ref (a3 0), .ref (a4 0), .ref (a5 0), .ref (a6 0), cI 0]))]) ++ wd E gSta a1 (MS 10 4)) ++ wd E gSta a2 (MS 10 4)) ++ wd E gHis a3 MHis) ++ wd E gTxt a4 M00) ++ wd E gRdr a5 MRdr) ++ wd E gReh a6 M00) H := hP
  have hD : va_D A ((((((([(h, .inr (7, [.ref (a1 0), .ref (a2 0), .ref (a3 0), .ref (a4 0), .ref (a5 0), .ref (a6 0), cI 0]))]) ++ wd E gSta a1 (MS 10 4)) ++ wd E gSta a2 (MS 10 4)) ++ wd E gHis a3 MHis) ++ wd E gTxt a4 M00) ++ wd E gRdr a5 MRdr) ++ wd E gReh a6 M00) := hD
  have hP : va_P E.1 vwCl (wd E gC (adC h a1 a2 a3 a4 a5 a6) MC0) H := by rw [wd_gC]; exact hP
  have hD : va_D A (wd E gC (adC h a1 a2 a3 a4 a5 a6) MC0) := by rw [wd_gC]; exact hD
  refine W.widen (k := 148) (n := 2002) (by omega) (by omega) ?_
  exact W.vret hx hb hr (fun t ht hW => ⟨⟨adC h a1 a2 a3 a4 a5 a6, rfl, rfl, by rw [ht]; exact hP, hK.warm hW, hD⟩, hS.F ht⟩) hS.2.2 dX7_init_75
end
