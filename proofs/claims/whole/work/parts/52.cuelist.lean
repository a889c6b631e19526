section
/-! CueList's constructor -/
set_option maxRecDepth 20000 in
theorem ggX0_init_X4_init : GoodIn wsX0_init wsX4_init := goodIn_r _ [15, 16, 2, 3, 17, 18, 19, 20, 21, 22, 29] (by decide +kernel) (by decide +kernel)
set_option maxRecDepth 20000 in
theorem gX0_init_X4_init : GoodIn wsX0_init (wsX4_init) := ggX0_init_X4_init
theorem dX0_init_0 : decode cX0_init 0 = .ok (.aload_n 0, 1) := by decide +kernel
theorem dX0_init_1 : decode cX0_init 1 = .ok (.invokespecial 3, 3) := by decide +kernel
theorem dX0_init_4 : decode cX0_init 4 = .ok (.aload_n 0, 1) := by decide +kernel
theorem dX0_init_5 : decode cX0_init 5 = .ok (.iconst 0, 1) := by decide +kernel
theorem dX0_init_6 : decode cX0_init 6 = .ok (.putfield 9, 3) := by decide +kernel
theorem dX0_init_9 : decode cX0_init 9 = .ok (.aload_n 0, 1) := by decide +kernel
theorem dX0_init_10 : decode cX0_init 10 = .ok (.iload_n 1, 1) := by decide +kernel
theorem dX0_init_11 : decode cX0_init 11 = .ok (.putfield 15, 3) := by decide +kernel
theorem dX0_init_14 : decode cX0_init 14 = .ok (.aload_n 0, 1) := by decide +kernel
theorem dX0_init_15 : decode cX0_init 15 = .ok (.new 18, 3) := by decide +kernel
theorem dX0_init_18 : decode cX0_init 18 = .ok (.dup, 1) := by decide +kernel
theorem dX0_init_19 : decode cX0_init 19 = .ok (.iload_n 1, 1) := by decide +kernel
theorem dX0_init_20 : decode cX0_init 20 = .ok (.invokespecial 20, 3) := by decide +kernel
theorem dX0_init_23 : decode cX0_init 23 = .ok (.putfield 23, 3) := by decide +kernel
theorem dX0_init_26 : decode cX0_init 26 = .ok (.aload_n 0, 1) := by decide +kernel
theorem dX0_init_27 : decode cX0_init 27 = .ok (.new 18, 3) := by decide +kernel
theorem dX0_init_30 : decode cX0_init 30 = .ok (.dup, 1) := by decide +kernel
theorem dX0_init_31 : decode cX0_init 31 = .ok (.iload_n 1, 1) := by decide +kernel
theorem dX0_init_32 : decode cX0_init 32 = .ok (.invokespecial 20, 3) := by decide +kernel
theorem dX0_init_35 : decode cX0_init 35 = .ok (.putfield 27, 3) := by decide +kernel
theorem dX0_init_38 : decode cX0_init 38 = .ok (.aload_n 0, 1) := by decide +kernel
theorem dX0_init_39 : decode cX0_init 39 = .ok (.new 18, 3) := by decide +kernel
theorem dX0_init_42 : decode cX0_init 42 = .ok (.dup, 1) := by decide +kernel
theorem dX0_init_43 : decode cX0_init 43 = .ok (.iload_n 1, 1) := by decide +kernel
theorem dX0_init_44 : decode cX0_init 44 = .ok (.invokespecial 20, 3) := by decide +kernel
theorem dX0_init_47 : decode cX0_init 47 = .ok (.putfield 30, 3) := by decide +kernel
theorem dX0_init_50 : decode cX0_init 50 = .ok (.aload_n 0, 1) := by decide +kernel
theorem dX0_init_51 : decode cX0_init 51 = .ok (.new 18, 3) := by decide +kernel
theorem dX0_init_54 : decode cX0_init 54 = .ok (.dup, 1) := by decide +kernel
theorem dX0_init_55 : decode cX0_init 55 = .ok (.iload_n 1, 1) := by decide +kernel
theorem dX0_init_56 : decode cX0_init 56 = .ok (.invokespecial 20, 3) := by decide +kernel
theorem dX0_init_59 : decode cX0_init 59 = .ok (.putfield 33, 3) := by decide +kernel
theorem dX0_init_62 : decode cX0_init 62 = .ok (.return_, 1) := by decide +kernel
def gCue (n : Nat) : GG := [(0, 0), (4, 0), (9, n), (4, 0), (9, n), (4, 0), (9, n), (4, 0), (9, n)]
def M0C (n : Nat) : Mm := fun o k => if o = 0 ∧ k = 0 then (n : Int) else 0
set_option maxHeartbeats 4000000 in
set_option maxRecDepth 100000 in
theorem k_X0_init {E : EE} {l : Launch} {n : Nat} (hn : n ≤ 1000) : Cn E l yX0_init wsX0_init ({ frames := 3, cells := 8, slots := 4 * n + 4, locals := 70 }) 0 (gCue n) (M0C n) [cI n] 8 (4 * n + 4) := by
  intro h sz
  refine Met.ofW (cc := cX0_init) (maxL := 2) (ret := none) (by decide) rfl ?_
  intro p e s m args below meth c s₁ B hml hv
  obtain ⟨rfl, hsz, hP, hK, hlt⟩ := hv
  have hx := B.exec
  have hb := B.bytes
  have hr := B.returns
  have hts := atoms_spec (ws := wsX0_init) B.pre
  have hown : s.vm.findClass RX0 = some m.cls := findClass_of_methodNamed B.named
  have hlocks := B.notSynchronized
  have hin : meth.name = "<init>" := (name_of_methodNamed B.named B.method).1
  subst hsz
  have hD := one_D (h := h) (sz := s.heap.size) (e := .inr (0, blk 0))
  generalize hAe : (fun x => x = h ∨ s.heap.size ≤ x) = A at hD ⊢
  have hA : ∀ q : Nat, s.heap.size ≤ q → A q := fun q h => by rw [← hAe]; exact Or.inr h
  have hS : va_S A s.heap s.heap [] := va_S.rf
  have hl := lv_entry ([.ref h, cI n]) (n := 2) (Nat.le_of_ble_eq_true rfl)
  rw [lg_entry_eq]
  generalize (lg_sl ([.ref h, cI n]) ++ List.replicate (2 - (lg_sl ([.ref h, cI n])).length) Slot.unset).toArray = ls at hl ⊢
  have hl : lv_has ls 2 [(0, .ref h), (1, cI n)] := hl
  have X : CallFix p m c cX0_init 2 s _ wsX0_init RX0 := ⟨hx, hb, hml, hown, hts⟩
  refine lv_aload_n hx hb dX0_init_0 rfl (lv_at hl 0 rfl) ?_
  refine W.objInit hx hb hown (hts (.methodLink RX0 3 objectInit) (by decide +kernel)) (hts (.instanceMethod objectInit) (by decide +kernel)) (hts (.code objectInit ⟨#[0xb1]⟩ 1 none) (by decide +kernel)) rfl (by rw [hml]; exact hl.1) rfl dX0_init_1 (Nat.le_of_ble_eq_true rfl) (Nat.le_of_ble_eq_true rfl) ?_
  refine W.eq (g2 := F0 m 4 ls []) rfl ?_
  refine lv_aload_n hx hb dX0_init_4 rfl (lv_at hl 0 rfl) ?_
  refine lv_iconst hx hb dX0_init_5 rfl ?_
  refine va_put (D := E.1) (ci := 0) (v := cI 0) (ty := .int) (C := RX0) (T := TX0) (N := 6) hx hb hts (by decide +kernel) tyX0 tyX0_ok nmX0 hown hK.1 hP hD hS 0 rfl rfl 5 (by decide) (hts (.fieldLink RX0 9 "LentSounds$CueList" "size" "I") (by decide +kernel)) (fun _ h9 => h9) rfl (by decide +kernel) rfl rfl (Nat.le_of_ble_eq_true rfl) dX0_init_6 (fun H locs hP hD hS => ?_)
  have hP : va_P E.1 vwCl ([(h, .inr (0, [.int 0, .null, .null, .null, .null, cI 0]))]) H := hP
  have hD : va_D A ([(h, .inr (0, [.int 0, .null, .null, .null, .null, cI 0]))]) := hD
  refine lv_aload_n hx hb dX0_init_9 rfl (lv_at hl 0 rfl) ?_
  refine lv_iload_n hx hb dX0_init_10 rfl (lv_at hl 1 rfl) ?_
  refine va_putF (D := E.1) (ci := 0) (v := cI n) (ty := .int) (C := RX0) (T := TX0) (N := 6) hx hb hts (by decide +kernel) tyX0 tyX0_ok nmX0 hown hK.1 hP hD hS 0 rfl rfl 0 (by decide) (hts (.fieldLink RX0 15 "LentSounds$CueList" "capacity" "I") (by decide +kernel)) (fun _ h9 => h9) rfl hin rfl (by decide +kernel) rfl rfl (Nat.le_of_ble_eq_true rfl) dX0_init_11 (fun H locs hP hD hS => ?_)
  have hP : va_P E.1 vwCl ([(h, .inr (0, [cI n, .null, .null, .null, .null, cI 0]))]) H := hP
  have hD : va_D A ([(h, .inr (0, [cI n, .null, .null, .null, .null, cI 0]))]) := hD
  refine lv_aload_n hx hb dX0_init_14 rfl (lv_at hl 0 rfl) ?_
  refine va_new (D := E.1) (ci := 4) (fs := blk 4) (C := RX4) (T := TX4) (N := 1) hx hb hts (by decide +kernel) tyX4 tyX4_ok hown (hts (.classLink RX0 18 RX4) (by decide +kernel)) (hts (.instantiable RX4 1) (by decide +kernel)) (hts (.initialized RX4) (by decide +kernel)) hK.1 hP hD hS hA rfl (fun j hj => by have : j < 1 := hj; match j, this with | 0, _ => rfl) (show 0 + 1 ≤ 8 by omega) (show 0 + 1 ≤ 4 * n + 4 by omega) dX0_init_15 (fun q H hP hD hS => ?_)
  refine lv_dup hx hb dX0_init_18 rfl ?_
  refine lv_iload_n hx hb dX0_init_19 rfl (lv_at hl 1 rfl) ?_
  refine k_ini (WW := ([(h, .inr (0, [cI n, .null, .null, .null, .null, cI 0]))])) (gc := (gRow n)) (Mf := M00) (nc := 1) (ns := n) hK hP hD hS hA (va_runI (As := [cI n]) (rest := [.ref q, .ref h]) X (k_X4_init hn q H.size) (cwI 1 hts gX0_init_X4_init rfl rfl rfl (hts (.initialized RX4) (by decide +kernel)) (hts (.methodLink RX0 20 yX4_init) (by decide +kernel)) (hts (.instanceMethod yX4_init) (by decide +kernel)) rfl (by decide +kernel) ⟨Nat.le_of_ble_eq_true rfl, Nat.le_of_ble_eq_true rfl⟩) (k_pre hK hP) rfl rfl hl.1 rfl (lv_room (Nat.le_of_ble_eq_true rfl)) dX0_init_20 ⟨show 0 + 1 + 1 ≤ 8 by omega, show 0 + 1 + n ≤ 4 * n + 4 by omega⟩) (fun a1 H locs h0 hPz hDz hSz => ?_)
  refine W.widen (k := 2) (n := 1 + n) (by omega) (by omega) ?_
  subst h0
  have hP := hPz
  have hD := hDz
  have hS := hSz
  refine va_putF (D := E.1) (ci := 0) (v := .ref (a1 0)) (ty := .object "LentSounds$Row") (C := RX0) (T := TX0) (N := 6) hx hb hts (by decide +kernel) tyX0 tyX0_ok nmX0 hown hK.1 hP hD hS 0 rfl rfl 1 (by decide) (hts (.fieldLink RX0 23 "LentSounds$CueList" "ticks" "LLentSounds$Row;") (by decide +kernel)) (fun _ h9 => h9) rfl hin rfl (by decide +kernel) rfl rfl (Nat.le_of_ble_eq_true rfl) dX0_init_23 (fun H locs hP hD hS => ?_)
  have hP : va_P E.1 vwCl (([(h, .inr (0, [cI n, .ref (a1 0), .null, .null, .null, cI 0]))]) ++ wd E (gRow n) a1 M00) H := hP
  have hD : va_D A (([(h, .inr (0, [cI n, .ref (a1 0), .null, .null, .null, cI 0]))]) ++ wd E (gRow n) a1 M00) := hD
  refine lv_aload_n hx hb dX0_init_26 rfl (lv_at hl 0 rfl) ?_
  refine va_new (D := E.1) (ci := 4) (fs := blk 4) (C := RX4) (T := TX4) (N := 1) hx hb hts (by decide +kernel) tyX4 tyX4_ok hown (hts (.classLink RX0 18 RX4) (by decide +kernel)) (hts (.instantiable RX4 1) (by decide +kernel)) (hts (.initialized RX4) (by decide +kernel)) hK.1 hP hD hS hA rfl (fun j hj => by have : j < 1 := hj; match j, this with | 0, _ => rfl) (show 2 + 1 ≤ 8 by omega) (show 1 + n + 1 ≤ 4 * n + 4 by omega) dX0_init_27 (fun q H hP hD hS => ?_)
  refine lv_dup hx hb dX0_init_30 rfl ?_
  refine lv_iload_n hx hb dX0_init_31 rfl (lv_at hl 1 rfl) ?_
  refine k_ini (WW := (([(h, .inr (0, [cI n, .ref (a1 0), .null, .null, .null, cI 0]))]) ++ wd E (gRow n) a1 M00)) (gc := (gRow n)) (Mf := M00) (nc := 1) (ns := n) hK hP hD hS hA (va_runI (As := [cI n]) (rest := [.ref q, .ref h]) X (k_X4_init hn q H.size) (cwI 1 hts gX0_init_X4_init rfl rfl rfl (hts (.initialized RX4) (by decide +kernel)) (hts (.methodLink RX0 20 yX4_init) (by decide +kernel)) (hts (.instanceMethod yX4_init) (by decide +kernel)) rfl (by decide +kernel) ⟨Nat.le_of_ble_eq_true rfl, Nat.le_of_ble_eq_true rfl⟩) (k_pre hK hP) rfl rfl hl.1 rfl (lv_room (Nat.le_of_ble_eq_true rfl)) dX0_init_32 ⟨show 2 + 1 + 1 ≤ 8 by omega, show 1 + n + 1 + n ≤ 4 * n + 4 by omega⟩) (fun a2 H locs h0 hPz hDz hSz => ?_)
  refine W.widen (k := 4) (n := 1 + n + 1 + n) (by omega) (by omega) ?_
  subst h0
  have hP := hPz
  have hD := hDz
  have hS := hSz
  refine va_putF (D := E.1) (ci := 0) (v := .ref (a2 0)) (ty := .object "LentSounds$Row") (C := RX0) (T := TX0) (N := 6) hx hb hts (by decide +kernel) tyX0 tyX0_ok nmX0 hown hK.1 hP hD hS 0 rfl rfl 2 (by decide) (hts (.fieldLink RX0 27 "LentSounds$CueList" "scenes" "LLentSounds$Row;") (by decide +kernel)) (fun _ h9 => h9) rfl hin rfl (by decide +kernel) rfl rfl (Nat.le_of_ble_eq_true rfl) dX0_init_35 (fun H locs hP hD hS => ?_)
  have hP : va_P E.1 vwCl ((([(h, .inr (0, [cI n, .ref (a1 0), .ref (a2 0), .null, .null, cI 0]))]) ++ wd E (gRow n) a1 M00) ++ wd E (gRow n) a2 M00) H := hP
  have hD : va_D A ((([(h, .inr (0, [cI n, .ref (a1 0), .ref (a2 0), .null, .null, cI 0]))]) ++ wd E (gRow n) a1 M00) ++ wd E (gRow n) a2 M00) := hD
  refine lv_aload_n hx hb dX0_init_38 rfl (lv_at hl 0 rfl) ?_
  refine va_new (D := E.1) (ci := 4) (fs := blk 4) (C := RX4) (T := TX4) (N := 1) hx hb hts (by decide +kernel) tyX4 tyX4_ok hown (hts (.classLink RX0 18 RX4) (by decide +kernel)) (hts (.instantiable RX4 1) (by decide +kernel)) (hts (.initialized RX4) (by decide +kernel)) hK.1 hP hD hS hA rfl (fun j hj => by have : j < 1 := hj; match j, this with | 0, _ => rfl) (show 4 + 1 ≤ 8 by omega) (show 1 + n + 1 + n + 1 ≤ 4 * n + 4 by omega) dX0_init_39 (fun q H hP hD hS => ?_)
  refine lv_dup hx hb dX0_init_42 rfl ?_
  refine lv_iload_n hx hb dX0_init_43 rfl (lv_at hl 1 rfl) ?_
  refine k_ini (WW := ((([(h, .inr (0, [cI n, .ref (a1 0), .ref (a2 0), .null, .null, cI 0]))]) ++ wd E (gRow n) a1 M00) ++ wd E (gRow n) a2 M00)) (gc := (gRow n)) (Mf := M00) (nc := 1) (ns := n) hK hP hD hS hA (va_runI (As := [cI n]) (rest := [.ref q, .ref h]) X (k_X4_init hn q H.size) (cwI 1 hts gX0_init_X4_init rfl rfl rfl (hts (.initialized RX4) (by decide +kernel)) (hts (.methodLink RX0 20 yX4_init) (by decide +kernel)) (hts (.instanceMethod yX4_init) (by decide +kernel)) rfl (by decide +kernel) ⟨Nat.le_of_ble_eq_true rfl, Nat.le_of_ble_eq_true rfl⟩) (k_pre hK hP) rfl rfl hl.1 rfl (lv_room (Nat.le_of_ble_eq_true rfl)) dX0_init_44 ⟨show 4 + 1 + 1 ≤ 8 by omega, show 1 + n + 1 + n + 1 + n ≤ 4 * n + 4 by omega⟩) (fun a3 H locs h0 hPz hDz hSz => ?_)
  refine W.widen (k := 6) (n := 1 + n + 1 + n + 1 + n) (by omega) (by omega) ?_
  subst h0
  have hP := hPz
  have hD := hDz
  have hS := hSz
  refine va_putF (D := E.1) (ci := 0) (v := .ref (a3 0)) (ty := .object "LentSounds$Row") (C := RX0) (T := TX0) (N := 6) hx hb hts (by decide +kernel) tyX0 tyX0_ok nmX0 hown hK.1 hP hD hS 0 rfl rfl 3 (by decide) (hts (.fieldLink RX0 30 "LentSounds$CueList" "sounds" "LLentSounds$Row;") (by decide +kernel)) (fun _ h9 => h9) rfl hin rfl (by decide +kernel) rfl rfl (Nat.le_of_ble_eq_true rfl) dX0_init_47 (fun H locs hP hD hS => ?_)
  have hP : va_P E.1 vwCl (((([(h, .inr (0, [cI n, .ref (a1 0), .ref (a2 0), .ref (a3 0), .null, cI 0]))]) ++ wd E (gRow n) a1 M00) ++ wd E (gRow n) a2 M00) ++ wd E (gRow n) a3 M00) H := hP
  have hD : va_D A (((([(h, .inr (0, [cI n, .ref (a1 0), .ref (a2 0), .ref (a3 0), .null, cI 0]))]) ++ wd E (gRow n) a1 M00) ++ wd E (gRow n) a2 M00) ++ wd E (gRow n) a3 M00) := hD
  refine lv_aload_n hx hb dX0_init_50 rfl (lv_at hl 0 rfl) ?_
  refine va_new (D := E.1) (ci := 4) (fs := blk 4) (C := RX4) (T := TX4) (N := 1) hx hb hts (by decide +kernel) tyX4 tyX4_ok hown (hts (.classLink RX0 18 RX4) (by decide +kernel)) (hts (.instantiable RX4 1) (by decide +kernel)) (hts (.initialized RX4) (by decide +kernel)) hK.1 hP hD hS hA rfl (fun j hj => by have : j < 1 := hj; match j, this with | 0, _ => rfl) (show 6 + 1 ≤ 8 by omega) (show 1 + n + 1 + n + 1 + n + 1 ≤ 4 * n + 4 by omega) dX0_init_51 (fun q H hP hD hS => ?_)
  refine lv_dup hx hb dX0_init_54 rfl ?_
  refine lv_iload_n hx hb dX0_init_55 rfl (lv_at hl 1 rfl) ?_
  refine k_ini (WW := (((([(h, .inr (0, [cI n, .ref (a1 0), .ref (a2 0), .ref (a3 0), .null, cI 0]))]) ++ wd E (gRow n) a1 M00) ++ wd E (gRow n) a2 M00) ++ wd E (gRow n) a3 M00)) (gc := (gRow n)) (Mf := M00) (nc := 1) (ns := n) hK hP hD hS hA (va_runI (As := [cI n]) (rest := [.ref q, .ref h]) X (k_X4_init hn q H.size) (cwI 1 hts gX0_init_X4_init rfl rfl rfl (hts (.initialized RX4) (by decide +kernel)) (hts (.methodLink RX0 20 yX4_init) (by decide +kernel)) (hts (.instanceMethod yX4_init) (by decide +kernel)) rfl (by decide +kernel) ⟨Nat.le_of_ble_eq_true rfl, Nat.le_of_ble_eq_true rfl⟩) (k_pre hK hP) rfl rfl hl.1 rfl (lv_room (Nat.le_of_ble_eq_true rfl)) dX0_init_56 ⟨show 6 + 1 + 1 ≤ 8 by omega, show 1 + n + 1 + n + 1 + n + 1 + n ≤ 4 * n + 4 by omega⟩) (fun a4 H locs h0 hPz hDz hSz => ?_)
  refine W.widen (k := 8) (n := 1 + n + 1 + n + 1 + n + 1 + n) (by omega) (by omega) ?_
  subst h0
  have hP := hPz
  have hD := hDz
  have hS := hSz
  refine va_putF (D := E.1) (ci := 0) (v := .ref (a4 0)) (ty := .object "LentSounds$Row") (C := RX0) (T := TX0) (N := 6) hx hb hts (by decide +kernel) tyX0 tyX0_ok nmX0 hown hK.1 hP hD hS 0 rfl rfl 4 (by decide) (hts (.fieldLink RX0 33 "LentSounds$CueList" "lengths" "LLentSounds$Row;") (by decide +kernel)) (fun _ h9 => h9) rfl hin rfl (by decide +kernel) rfl rfl (Nat.le_of_ble_eq_true rfl) dX0_init_59 (fun H locs hP hD hS => ?_)
  have hP : va_P E.1 vwCl ((((([(h, .inr (0, [cI n, .ref (a1 0), .ref (a2 0), .ref (a3 0), .ref (a4 0), cI 0]))]) ++ wd E (gRow n) a1 M00) ++ wd E (gRow n) a2 M00) ++ wd E (gRow n) a3 M00) ++ wd E (gRow n) a4 M00) H := hP
  have hD : va_D A ((((([(h, .inr (0, [cI n, .ref (a1 0), .ref (a2 0), .ref (a3 0), .ref (a4 0), cI 0]))]) ++ wd E (gRow n) a1 M00) ++ wd E (gRow n) a2 M00) ++ wd E (gRow n) a3 M00) ++ wd E (gRow n) a4 M00) := hD
  refine W.widen (k := 8) (n := 4 * n + 4) (by omega) (by omega) ?_
  exact W.vret hx hb hr (fun t ht hW => ⟨⟨(fun o => match o with | 0 => h | 1 => a1 0 | 2 => a1 1 | 3 => a2 0 | 4 => a2 1 | 5 => a3 0 | 6 => a3 1 | 7 => a4 0 | _ => a4 1), rfl, rfl, by rw [ht]; exact hP, hK.warm hW, hD⟩, hS.F ht⟩) hS.2.2 dX0_init_62
end
