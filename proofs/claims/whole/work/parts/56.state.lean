section
/-! State: its constructor -/
def MS0 : Mm := fun o k => if o = 0 then (if k = 5 ∨ k = 6 then 2 else 0) else if o = 9 then (if k = 0 then 40 else 0) else 0
theorem MS_0 : MS 0 0 = MS0 := by
  funext o k
  unfold MS MS0
  have hn : ¬ (0 ≤ k ∧ k < 0) := by omega
  simp only [if_neg hn]
  by_cases h0 : o = 0
  · simp only [if_pos h0]
  · by_cases h9 : o = 9
    · subst h9; simp
    · simp [h0, h9]
set_option maxHeartbeats 4000000 in
set_option maxRecDepth 100000 in
theorem k_X5_init {E : EE} {l : Launch} : Cn E l yX5_init wsX5_init ({ frames := 4, cells := 17, slots := 208, locals := 110 }) 5 gSta (MS 10 4) [] 17 (208) := by
  intro h sz
  refine Met.ofW (cc := cX5_init) (maxL := 2) (ret := none) (by decide) rfl ?_
  intro p e s m args below meth c s₁ B hml hv
  obtain ⟨rfl, hsz, hP, hK, hlt⟩ := hv
  have hx := B.exec
  have hb := B.bytes
  have hr := B.returns
  have hts := atoms_spec (ws := wsX5_init) B.pre
  have hown : s.vm.findClass RX5 = some m.cls := findClass_of_methodNamed B.named
  have hlocks := B.notSynchronized
  have hin : meth.name = "<init>" := (name_of_methodNamed B.named B.method).1
  subst hsz
  have hD := one_D (h := h) (sz := s.heap.size) (e := .inr (5, blk 5))
  generalize hAe : (fun x => x = h ∨ s.heap.size ≤ x) = A at hD ⊢
  have hA : ∀ q : Nat, s.heap.size ≤ q → A q := fun q h => by rw [← hAe]; exact Or.inr h
  have hS : va_S A s.heap s.heap [] := va_S.rf
  have hl := lv_entry ([.ref h]) (n := 2) (Nat.le_of_ble_eq_true rfl)
  rw [lg_entry_eq]
  generalize (lg_sl ([.ref h]) ++ List.replicate (2 - (lg_sl ([.ref h])).length) Slot.unset).toArray = ls at hl ⊢
  have hl : lv_has ls 2 [(0, .ref h)] := hl
  have X : CallFix p m c cX5_init 2 s _ wsX5_init RX5 := ⟨hx, hb, hml, hown, hts⟩
  refine lv_aload_n hx hb dX5_init_0 rfl (lv_at hl 0 rfl) ?_
  refine W.objInit hx hb hown (hts (.methodLink RX5 3 objectInit) (by decide +kernel)) (hts (.instanceMethod objectInit) (by decide +kernel)) (hts (.code objectInit ⟨#[0xb1]⟩ 1 none) (by decide +kernel)) rfl (by rw [hml]; exact hl.1) rfl dX5_init_1 (Nat.le_of_ble_eq_true rfl) (Nat.le_of_ble_eq_true rfl) ?_
  refine W.eq (g2 := F0 m 4 ls []) rfl ?_
  refine lv_aload_n hx hb dX5_init_4 rfl (lv_at hl 0 rfl) ?_
  refine va_new (D := E.1) (ci := 4) (fs := blk 4) (C := RX4) (T := TX4) (N := 1) hx hb hts (by decide +kernel) tyX4 tyX4_ok hown (hts (.classLink RX5 9 RX4) (by decide +kernel)) (hts (.instantiable RX4 1) (by decide +kernel)) (hts (.initialized RX4) (by decide +kernel)) hK.1 hP hD hS hA rfl (fun j hj => by have : j < 1 := hj; match j, this with | 0, _ => rfl) (show 0 + 1 ≤ 17 by omega) (show 0 + 1 ≤ 208 by omega) dX5_init_5 (fun q H hP hD hS => ?_)
  refine lv_dup hx hb dX5_init_8 rfl ?_
  refine r_bipush X dX5_init_9 (by decide) ?_
  refine k_ini (WW := ([(h, .inr (5, [.null, .null, .null, .null, .null, .int 0, .int 0, .int 0, .int 0, .int 0, .int 0]))])) (gc := (gRow 10)) (Mf := M00) (nc := 1) (ns := 10) hK hP hD hS hA (va_runI (As := [cI (10 : Nat)]) (rest := [.ref q, .ref h]) X (k_X4_init (n := 10) (by decide) q H.size) (cwI 1 hts gX5_init_X4_init rfl rfl rfl (hts (.initialized RX4) (by decide +kernel)) (hts (.methodLink RX5 11 yX4_init) (by decide +kernel)) (hts (.instanceMethod yX4_init) (by decide +kernel)) rfl (by decide +kernel) ⟨Nat.le_of_ble_eq_true rfl, Nat.le_of_ble_eq_true rfl⟩) (k_pre hK hP) rfl rfl hl.1 rfl (lv_room (Nat.le_of_ble_eq_true rfl)) dX5_init_11 ⟨show 0 + 1 + 1 ≤ 17 by omega, show 0 + 1 + 10 ≤ 208 by omega⟩) (fun a1 H locs h0 hPz hDz hSz => ?_)
  refine W.widen (k := 2) (n := 1 + 10) (by omega) (by omega) ?_
  subst h0
  have hP := hPz
  have hD := hDz
  have hS := hSz
  refine va_putF (D := E.1) (ci := 5) (v := .ref (a1 0)) (ty := .object "LentSounds$Row") (C := RX5) (T := TX5) (N := 11) hx hb hts (by decide +kernel) tyX5 tyX5_ok nmX5 hown hK.1 hP hD hS 0 rfl rfl 0 (by decide) (hts (.fieldLink RX5 14 "LentSounds$State" "soundShelves" "LLentSounds$Row;") (by decide +kernel)) (fun _ h9 => h9) rfl hin rfl (by decide +kernel) rfl rfl (Nat.le_of_ble_eq_true rfl) dX5_init_14 (fun H locs hP hD hS => ?_)
  have hP : va_P E.1 vwCl (([(h, .inr (5, [.ref (a1 0), .null, .null, .null, .null, .int 0, .int 0, .int 0, .int 0, .int 0, .int 0]))]) ++ wd E (gRow 10) a1 M00) H := hP
  have hD : va_D A (([(h, .inr (5, [.ref (a1 0), .null, .null, .null, .null, .int 0, .int 0, .int 0, .int 0, .int 0, .int 0]))]) ++ wd E (gRow 10) a1 M00) := hD
  refine lv_aload_n hx hb dX5_init_17 rfl (lv_at hl 0 rfl) ?_
  refine va_new (D := E.1) (ci := 4) (fs := blk 4) (C := RX4) (T := TX4) (N := 1) hx hb hts (by decide +kernel) tyX4 tyX4_ok hown (hts (.classLink RX5 9 RX4) (by decide +kernel)) (hts (.instantiable RX4 1) (by decide +kernel)) (hts (.initialized RX4) (by decide +kernel)) hK.1 hP hD hS hA rfl (fun j hj => by have : j < 1 := hj; match j, this with | 0, _ => rfl) (show 2 + 1 ≤ 17 by omega) (show 1 + 10 + 1 ≤ 208 by omega) dX5_init_18 (fun q H hP hD hS => ?_)
  refine lv_dup hx hb dX5_init_21 rfl ?_
  refine r_bipush X dX5_init_22 (by decide) ?_
  refine k_ini (WW := (([(h, .inr (5, [.ref (a1 0), .null, .null, .null, .null, .int 0, .int 0, .int 0, .int 0, .int 0, .int 0]))]) ++ wd E (gRow 10) a1 M00)) (gc := (gRow 10)) (Mf := M00) (nc := 1) (ns := 10) hK hP hD hS hA (va_runI (As := [cI (10 : Nat)]) (rest := [.ref q, .ref h]) X (k_X4_init (n := 10) (by decide) q H.size) (cwI 1 hts gX5_init_X4_init rfl rfl rfl (hts (.initialized RX4) (by decide +kernel)) (hts (.methodLink RX5 11 yX4_init) (by decide +kernel)) (hts (.instanceMethod yX4_init) (by decide +kernel)) rfl (by decide +kernel) ⟨Nat.le_of_ble_eq_true rfl, Nat.le_of_ble_eq_true rfl⟩) (k_pre hK hP) rfl rfl hl.1 rfl (lv_room (Nat.le_of_ble_eq_true rfl)) dX5_init_24 ⟨show 2 + 1 + 1 ≤ 17 by omega, show 1 + 10 + 1 + 10 ≤ 208 by omega⟩) (fun a2 H locs h0 hPz hDz hSz => ?_)
  refine W.widen (k := 4) (n := 1 + 10 + 1 + 10) (by omega) (by omega) ?_
  subst h0
  have hP := hPz
  have hD := hDz
  have hS := hSz
  refine va_putF (D := E.1) (ci := 5) (v := .ref (a2 0)) (ty := .object "LentSounds$Row") (C := RX5) (T := TX5) (N := 11) hx hb hts (by decide +kernel) tyX5 tyX5_ok nmX5 hown hK.1 hP hD hS 0 rfl rfl 1 (by decide) (hts (.fieldLink RX5 20 "LentSounds$State" "charges" "LLentSounds$Row;") (by decide +kernel)) (fun _ h9 => h9) rfl hin rfl (by decide +kernel) rfl rfl (Nat.le_of_ble_eq_true rfl) dX5_init_27 (fun H locs hP hD hS => ?_)
  have hP : va_P E.1 vwCl ((([(h, .inr (5, [.ref (a1 0), .ref (a2 0), .null, .null, .null, .int 0, .int 0, .int 0, .int 0, .int 0, .int 0]))]) ++ wd E (gRow 10) a1 M00) ++ wd E (gRow 10) a2 M00) H := hP
  have hD : va_D A ((([(h, .inr (5, [.ref (a1 0), .ref (a2 0), .null, .null, .null, .int 0, .int 0, .int 0, .int 0, .int 0, .int 0]))]) ++ wd E (gRow 10) a1 M00) ++ wd E (gRow 10) a2 M00) := hD
  refine lv_aload_n hx hb dX5_init_30 rfl (lv_at hl 0 rfl) ?_
  refine va_new (D := E.1) (ci := 4) (fs := blk 4) (C := RX4) (T := TX4) (N := 1) hx hb hts (by decide +kernel) tyX4 tyX4_ok hown (hts (.classLink RX5 9 RX4) (by decide +kernel)) (hts (.instantiable RX4 1) (by decide +kernel)) (hts (.initialized RX4) (by decide +kernel)) hK.1 hP hD hS hA rfl (fun j hj => by have : j < 1 := hj; match j, this with | 0, _ => rfl) (show 4 + 1 ≤ 17 by omega) (show 1 + 10 + 1 + 10 + 1 ≤ 208 by omega) dX5_init_31 (fun q H hP hD hS => ?_)
  refine lv_dup hx hb dX5_init_34 rfl ?_
  refine r_bipush X dX5_init_35 (by decide) ?_
  refine k_ini (WW := ((([(h, .inr (5, [.ref (a1 0), .ref (a2 0), .null, .null, .null, .int 0, .int 0, .int 0, .int 0, .int 0, .int 0]))]) ++ wd E (gRow 10) a1 M00) ++ wd E (gRow 10) a2 M00)) (gc := (gRow 10)) (Mf := M00) (nc := 1) (ns := 10) hK hP hD hS hA (va_runI (As := [cI (10 : Nat)]) (rest := [.ref q, .ref h]) X (k_X4_init (n := 10) (by decide) q H.size) (cwI 1 hts gX5_init_X4_init rfl rfl rfl (hts (.initialized RX4) (by decide +kernel)) (hts (.methodLink RX5 11 yX4_init) (by decide +kernel)) (hts (.instanceMethod yX4_init) (by decide +kernel)) rfl (by decide +kernel) ⟨Nat.le_of_ble_eq_true rfl, Nat.le_of_ble_eq_true rfl⟩) (k_pre hK hP) rfl rfl hl.1 rfl (lv_room (Nat.le_of_ble_eq_true rfl)) dX5_init_37 ⟨show 4 + 1 + 1 ≤ 17 by omega, show 1 + 10 + 1 + 10 + 1 + 10 ≤ 208 by omega⟩) (fun a3 H locs h0 hPz hDz hSz => ?_)
  refine W.widen (k := 6) (n := 1 + 10 + 1 + 10 + 1 + 10) (by omega) (by omega) ?_
  subst h0
  have hP := hPz
  have hD := hDz
  have hS := hSz
  refine va_putF (D := E.1) (ci := 5) (v := .ref (a3 0)) (ty := .object "LentSounds$Row") (C := RX5) (T := TX5) (N := 11) hx hb hts (by decide +kernel) tyX5 tyX5_ok nmX5 hown hK.1 hP hD hS 0 rfl rfl 2 (by decide) (hts (.fieldLink RX5 23 "LentSounds$State" "loudness" "LLentSounds$Row;") (by decide +kernel)) (fun _ h9 => h9) rfl hin rfl (by decide +kernel) rfl rfl (Nat.le_of_ble_eq_true rfl) dX5_init_40 (fun H locs hP hD hS => ?_)
  have hP : va_P E.1 vwCl (((([(h, .inr (5, [.ref (a1 0), .ref (a2 0), .ref (a3 0), .null, .null, .int 0, .int 0, .int 0, .int 0, .int 0, .int 0]))]) ++ wd E (gRow 10) a1 M00) ++ wd E (gRow 10) a2 M00) ++ wd E (gRow 10) a3 M00) H := hP
  have hD : va_D A (((([(h, .inr (5, [.ref (a1 0), .ref (a2 0), .ref (a3 0), .null, .null, .int 0, .int 0, .int 0, .int 0, .int 0, .int 0]))]) ++ wd E (gRow 10) a1 M00) ++ wd E (gRow 10) a2 M00) ++ wd E (gRow 10) a3 M00) := hD
  refine lv_aload_n hx hb dX5_init_43 rfl (lv_at hl 0 rfl) ?_
  refine va_new (D := E.1) (ci := 4) (fs := blk 4) (C := RX4) (T := TX4) (N := 1) hx hb hts (by decide +kernel) tyX4 tyX4_ok hown (hts (.classLink RX5 9 RX4) (by decide +kernel)) (hts (.instantiable RX4 1) (by decide +kernel)) (hts (.initialized RX4) (by decide +kernel)) hK.1 hP hD hS hA rfl (fun j hj => by have : j < 1 := hj; match j, this with | 0, _ => rfl) (show 6 + 1 ≤ 17 by omega) (show 1 + 10 + 1 + 10 + 1 + 10 + 1 ≤ 208 by omega) dX5_init_44 (fun q H hP hD hS => ?_)
  refine lv_dup hx hb dX5_init_47 rfl ?_
  refine r_iconst X dX5_init_48 ?_
  refine k_ini (WW := (((([(h, .inr (5, [.ref (a1 0), .ref (a2 0), .ref (a3 0), .null, .null, .int 0, .int 0, .int 0, .int 0, .int 0, .int 0]))]) ++ wd E (gRow 10) a1 M00) ++ wd E (gRow 10) a2 M00) ++ wd E (gRow 10) a3 M00)) (gc := (gRow 4)) (Mf := M00) (nc := 1) (ns := 4) hK hP hD hS hA (va_runI (As := [cI (4 : Nat)]) (rest := [.ref q, .ref h]) X (k_X4_init (n := 4) (by decide) q H.size) (cwI 1 hts gX5_init_X4_init rfl rfl rfl (hts (.initialized RX4) (by decide +kernel)) (hts (.methodLink RX5 11 yX4_init) (by decide +kernel)) (hts (.instanceMethod yX4_init) (by decide +kernel)) rfl (by decide +kernel) ⟨Nat.le_of_ble_eq_true rfl, Nat.le_of_ble_eq_true rfl⟩) (k_pre hK hP) rfl rfl hl.1 rfl (lv_room (Nat.le_of_ble_eq_true rfl)) dX5_init_49 ⟨show 6 + 1 + 1 ≤ 17 by omega, show 1 + 10 + 1 + 10 + 1 + 10 + 1 + 4 ≤ 208 by omega⟩) (fun a4 H locs h0 hPz hDz hSz => ?_)
  refine W.widen (k := 8) (n := 1 + 10 + 1 + 10 + 1 + 10 + 1 + 4) (by omega) (by omega) ?_
  subst h0
  have hP := hPz
  have hD := hDz
  have hS := hSz
  refine va_putF (D := E.1) (ci := 5) (v := .ref (a4 0)) (ty := .object "LentSounds$Row") (C := RX5) (T := TX5) (N := 11) hx hb hts (by decide +kernel) tyX5 tyX5_ok nmX5 hown hK.1 hP hD hS 0 rfl rfl 3 (by decide) (hts (.fieldLink RX5 26 "LentSounds$State" "handShelves" "LLentSounds$Row;") (by decide +kernel)) (fun _ h9 => h9) rfl hin rfl (by decide +kernel) rfl rfl (Nat.le_of_ble_eq_true rfl) dX5_init_52 (fun H locs hP hD hS => ?_)
  have hP : va_P E.1 vwCl ((((([(h, .inr (5, [.ref (a1 0), .ref (a2 0), .ref (a3 0), .ref (a4 0), .null, .int 0, .int 0, .int 0, .int 0, .int 0, .int 0]))]) ++ wd E (gRow 10) a1 M00) ++ wd E (gRow 10) a2 M00) ++ wd E (gRow 10) a3 M00) ++ wd E (gRow 4) a4 M00) H := hP
  have hD : va_D A ((((([(h, .inr (5, [.ref (a1 0), .ref (a2 0), .ref (a3 0), .ref (a4 0), .null, .int 0, .int 0, .int 0, .int 0, .int 0, .int 0]))]) ++ wd E (gRow 10) a1 M00) ++ wd E (gRow 10) a2 M00) ++ wd E (gRow 10) a3 M00) ++ wd E (gRow 4) a4 M00) := hD
  refine lv_aload_n hx hb dX5_init_55 rfl (lv_at hl 0 rfl) ?_
  refine va_new (D := E.1) (ci := 0) (fs := blk 0) (C := RX0) (T := TX0) (N := 6) hx hb hts (by decide +kernel) tyX0 tyX0_ok hown (hts (.classLink RX5 29 RX0) (by decide +kernel)) (hts (.instantiable RX0 6) (by decide +kernel)) (hts (.initialized RX0) (by decide +kernel)) hK.1 hP hD hS hA rfl (fun j hj => by have : j < 6 := hj; match j, this with | 0, _ => rfl | 1, _ => rfl | 2, _ => rfl | 3, _ => rfl | 4, _ => rfl | 5, _ => rfl) (show 8 + 1 ≤ 17 by omega) (show 1 + 10 + 1 + 10 + 1 + 10 + 1 + 4 + 6 ≤ 208 by omega) dX5_init_56 (fun q H hP hD hS => ?_)
  refine lv_dup hx hb dX5_init_59 rfl ?_
  refine r_bipush X dX5_init_60 (by decide) ?_
  refine k_ini (WW := ((((([(h, .inr (5, [.ref (a1 0), .ref (a2 0), .ref (a3 0), .ref (a4 0), .null, .int 0, .int 0, .int 0, .int 0, .int 0, .int 0]))]) ++ wd E (gRow 10) a1 M00) ++ wd E (gRow 10) a2 M00) ++ wd E (gRow 10) a3 M00) ++ wd E (gRow 4) a4 M00)) (gc := (gCue 40)) (Mf := (M0C 40)) (nc := 8) (ns := (4 * 40 + 4)) hK hP hD hS hA (va_runI (As := [cI (40 : Nat)]) (rest := [.ref q, .ref h]) X (k_X0_init (n := 40) (by decide) q H.size) (cwI 1 hts gX5_init_X0_init rfl rfl rfl (hts (.initialized RX0) (by decide +kernel)) (hts (.methodLink RX5 31 yX0_init) (by decide +kernel)) (hts (.instanceMethod yX0_init) (by decide +kernel)) rfl (by decide +kernel) ⟨Nat.le_of_ble_eq_true rfl, Nat.le_of_ble_eq_true rfl⟩) (k_pre hK hP) rfl rfl hl.1 rfl (lv_room (Nat.le_of_ble_eq_true rfl)) dX5_init_62 ⟨show 8 + 1 + 8 ≤ 17 by omega, show 1 + 10 + 1 + 10 + 1 + 10 + 1 + 4 + 6 + (4 * 40 + 4) ≤ 208 by omega⟩) (fun a5 H locs h0 hPz hDz hSz => ?_)
  refine W.widen (k := 17) (n := 1 + 10 + 1 + 10 + 1 + 10 + 1 + 4 + 6 + (4 * 40 + 4)) (by omega) (by omega) ?_
  subst h0
  have hP := hPz
  have hD := hDz
  have hS := hSz
  refine va_putF (D := E.1) (ci := 5) (v := .ref (a5 0)) (ty := .object "LentSounds$CueList") (C := RX5) (T := TX5) (N := 11) hx hb hts (by decide +kernel) tyX5 tyX5_ok nmX5 hown hK.1 hP hD hS 0 rfl rfl 4 (by decide) (hts (.fieldLink RX5 32 "LentSounds$State" "cues" "LLentSounds$CueList;") (by decide +kernel)) (fun _ h9 => h9) rfl hin rfl (by decide +kernel) rfl rfl (Nat.le_of_ble_eq_true rfl) dX5_init_65 (fun H locs hP hD hS => ?_)
  have hP : va_P E.1 vwCl (((((([(h, .inr (5, [.ref (a1 0), .ref (a2 0), .ref (a3 0), .ref (a4 0), .ref (a5 0), .int 0, .int 0, .int 0, .int 0, .int 0, .int 0]))]) ++ wd E (gRow 10) a1 M00) ++ wd E (gRow 10) a2 M00) ++ wd E (gRow 10) a3 M00) ++ wd E (gRow 4) a4 M00) ++ wd E (gCue 40) a5 (M0C 40)) H := hP
  have hD : va_D A (((((([(h, .inr (5, [.ref (a1 0), .ref (a2 0), .ref (a3 0), .ref (a4 0), .ref (a5 0), .int 0, .int 0, .int 0, .int 0, .int 0, .int 0]))]) ++ wd E (gRow 10) a1 M00) ++ wd E (gRow 10) a2 M00) ++ wd E (gRow 10) a3 M00) ++ wd E (gRow 4) a4 M00) ++ wd E (gCue 40) a5 (M0C 40)) := hD
  refine lv_aload_n hx hb dX5_init_68 rfl (lv_at hl 0 rfl) ?_
  refine r_iconst X dX5_init_69 ?_
  refine va_put (D := E.1) (ci := 5) (v := cI 2) (ty := .int) (C := RX5) (T := TX5) (N := 11) hx hb hts (by decide +kernel) tyX5 tyX5_ok nmX5 hown hK.1 hP hD hS 0 rfl rfl 5 (by decide) (hts (.fieldLink RX5 36 "LentSounds$State" "hands" "I") (by decide +kernel)) (fun _ h9 => h9) rfl (by decide +kernel) rfl rfl (Nat.le_of_ble_eq_true rfl) dX5_init_70 (fun H locs hP hD hS => ?_)
  have hP : va_P E.1 vwCl (((((([(h, .inr (5, [.ref (a1 0), .ref (a2 0), .ref (a3 0), .ref (a4 0), .ref (a5 0), cI 2, .int 0, .int 0, .int 0, .int 0, .int 0]))]) ++ wd E (gRow 10) a1 M00) ++ wd E (gRow 10) a2 M00) ++ wd E (gRow 10) a3 M00) ++ wd E (gRow 4) a4 M00) ++ wd E (gCue 40) a5 (M0C 40)) H := hP
  have hD : va_D A (((((([(h, .inr (5, [.ref (a1 0), .ref (a2 0), .ref (a3 0), .ref (a4 0), .ref (a5 0), cI 2, .int 0, .int 0, .int 0, .int 0, .int 0]))]) ++ wd E (gRow 10) a1 M00) ++ wd E (gRow 10) a2 M00) ++ wd E (gRow 10) a3 M00) ++ wd E (gRow 4) a4 M00) ++ wd E (gCue 40) a5 (M0C 40)) := hD
  refine lv_aload_n hx hb dX5_init_73 rfl (lv_at hl 0 rfl) ?_
  refine r_iconst X dX5_init_74 ?_
  refine va_put (D := E.1) (ci := 5) (v := cI 2) (ty := .int) (C := RX5) (T := TX5) (N := 11) hx hb hts (by decide +kernel) tyX5 tyX5_ok nmX5 hown hK.1 hP hD hS 0 rfl rfl 6 (by decide) (hts (.fieldLink RX5 40 "LentSounds$State" "carrying" "I") (by decide +kernel)) (fun _ h9 => h9) rfl (by decide +kernel) rfl rfl (Nat.le_of_ble_eq_true rfl) dX5_init_75 (fun H locs hP hD hS => ?_)
  have hP : va_P E.1 vwCl (((((([(h, .inr (5, [.ref (a1 0), .ref (a2 0), .ref (a3 0), .ref (a4 0), .ref (a5 0), cI 2, cI 2, .int 0, .int 0, .int 0, .int 0]))]) ++ wd E (gRow 10) a1 M00) ++ wd E (gRow 10) a2 M00) ++ wd E (gRow 10) a3 M00) ++ wd E (gRow 4) a4 M00) ++ wd E (gCue 40) a5 (M0C 40)) H := hP
  have hD : va_D A (((((([(h, .inr (5, [.ref (a1 0), .ref (a2 0), .ref (a3 0), .ref (a4 0), .ref (a5 0), cI 2, cI 2, .int 0, .int 0, .int 0, .int 0]))]) ++ wd E (gRow 10) a1 M00) ++ wd E (gRow 10) a2 M00) ++ wd E (gRow 10) a3 M00) ++ wd E (gRow 4) a4 M00) ++ wd E (gCue 40) a5 (M0C 40)) := hD
  refine lv_aload_n hx hb dX5_init_78 rfl (lv_at hl 0 rfl) ?_
  refine r_iconst X dX5_init_79 ?_
  refine va_put (D := E.1) (ci := 5) (v := cI 0) (ty := .int) (C := RX5) (T := TX5) (N := 11) hx hb hts (by decide +kernel) tyX5 tyX5_ok nmX5 hown hK.1 hP hD hS 0 rfl rfl 7 (by decide) (hts (.fieldLink RX5 43 "LentSounds$State" "takes" "I") (by decide +kernel)) (fun _ h9 => h9) rfl (by decide +kernel) rfl rfl (Nat.le_of_ble_eq_true rfl) dX5_init_80 (fun H locs hP hD hS => ?_)
  have hP : va_P E.1 vwCl (((((([(h, .inr (5, [.ref (a1 0), .ref (a2 0), .ref (a3 0), .ref (a4 0), .ref (a5 0), cI 2, cI 2, cI 0, .int 0, .int 0, .int 0]))]) ++ wd E (gRow 10) a1 M00) ++ wd E (gRow 10) a2 M00) ++ wd E (gRow 10) a3 M00) ++ wd E (gRow 4) a4 M00) ++ wd E (gCue 40) a5 (M0C 40)) H := hP
  have hD : va_D A (((((([(h, .inr (5, [.ref (a1 0), .ref (a2 0), .ref (a3 0), .ref (a4 0), .ref (a5 0), cI 2, cI 2, cI 0, .int 0, .int 0, .int 0]))]) ++ wd E (gRow 10) a1 M00) ++ wd E (gRow 10) a2 M00) ++ wd E (gRow 10) a3 M00) ++ wd E (gRow 4) a4 M00) ++ wd E (gCue 40) a5 (M0C 40)) := hD
  refine lv_aload_n hx hb dX5_init_83 rfl (lv_at hl 0 rfl) ?_
  refine r_iconst X dX5_init_84 ?_
  refine va_put (D := E.1) (ci := 5) (v := cI 0) (ty := .int) (C := RX5) (T := TX5) (N := 11) hx hb hts (by decide +kernel) tyX5 tyX5_ok nmX5 hown hK.1 hP hD hS 0 rfl rfl 8 (by decide) (hts (.fieldLink RX5 46 "LentSounds$State" "playedCues" "I") (by decide +kernel)) (fun _ h9 => h9) rfl (by decide +kernel) rfl rfl (Nat.le_of_ble_eq_true rfl) dX5_init_85 (fun H locs hP hD hS => ?_)
  have hP : va_P E.1 vwCl (((((([(h, .inr (5, [.ref (a1 0), .ref (a2 0), .ref (a3 0), .ref (a4 0), .ref (a5 0), cI 2, cI 2, cI 0, cI 0, .int 0, .int 0]))]) ++ wd E (gRow 10) a1 M00) ++ wd E (gRow 10) a2 M00) ++ wd E (gRow 10) a3 M00) ++ wd E (gRow 4) a4 M00) ++ wd E (gCue 40) a5 (M0C 40)) H := hP
  have hD : va_D A (((((([(h, .inr (5, [.ref (a1 0), .ref (a2 0), .ref (a3 0), .ref (a4 0), .ref (a5 0), cI 2, cI 2, cI 0, cI 0, .int 0, .int 0]))]) ++ wd E (gRow 10) a1 M00) ++ wd E (gRow 10) a2 M00) ++ wd E (gRow 10) a3 M00) ++ wd E (gRow 4) a4 M00) ++ wd E (gCue 40) a5 (M0C 40)) := hD
  refine lv_aload_n hx hb dX5_init_88 rfl (lv_at hl 0 rfl) ?_
  refine r_iconst X dX5_init_89 ?_
  refine va_put (D := E.1) (ci := 5) (v := cI 0) (ty := .int) (C := RX5) (T := TX5) (N := 11) hx hb hts (by decide +kernel) tyX5 tyX5_ok nmX5 hown hK.1 hP hD hS 0 rfl rfl 9 (by decide) (hts (.fieldLink RX5 49 "LentSounds$State" "missedCues" "I") (by decide +kernel)) (fun _ h9 => h9) rfl (by decide +kernel) rfl rfl (Nat.le_of_ble_eq_true rfl) dX5_init_90 (fun H locs hP hD hS => ?_)
  have hP : va_P E.1 vwCl (((((([(h, .inr (5, [.ref (a1 0), .ref (a2 0), .ref (a3 0), .ref (a4 0), .ref (a5 0), cI 2, cI 2, cI 0, cI 0, cI 0, .int 0]))]) ++ wd E (gRow 10) a1 M00) ++ wd E (gRow 10) a2 M00) ++ wd E (gRow 10) a3 M00) ++ wd E (gRow 4) a4 M00) ++ wd E (gCue 40) a5 (M0C 40)) H := hP
  have hD : va_D A (((((([(h, .inr (5, [.ref (a1 0), .ref (a2 0), .ref (a3 0), .ref (a4 0), .ref (a5 0), cI 2, cI 2, cI 0, cI 0, cI 0, .int 0]))]) ++ wd E (gRow 10) a1 M00) ++ wd E (gRow 10) a2 M00) ++ wd E (gRow 10) a3 M00) ++ wd E (gRow 4) a4 M00) ++ wd E (gCue 40) a5 (M0C 40)) := hD
  refine lv_aload_n hx hb dX5_init_93 rfl (lv_at hl 0 rfl) ?_
  refine r_iconst X dX5_init_94 ?_
  refine va_put (D := E.1) (ci := 5) (v := cI 0) (ty := .int) (C := RX5) (T := TX5) (N := 11) hx hb hts (by decide +kernel) tyX5 tyX5_ok nmX5 hown hK.1 hP hD hS 0 rfl rfl 10 (by decide) (hts (.fieldLink RX5 52 "LentSounds$State" "missedByEar" "I") (by decide +kernel)) (fun _ h9 => h9) rfl (by decide +kernel) rfl rfl (Nat.le_of_ble_eq_true rfl) dX5_init_95 (fun H locs hP hD hS => ?_)
  have hP : va_P E.1 vwCl (((((([(h, .inr (5, [.ref (a1 0), .ref (a2 0), .ref (a3 0), .ref (a4 0), .ref (a5 0), cI 2, cI 2, cI 0, cI 0, cI 0, cI 0]))]) ++ wd E (gRow 10) a1 M00) ++ wd E (gRow 10) a2 M00) ++ wd E (gRow 10) a3 M00) ++ wd E (gRow 4) a4 M00) ++ wd E (gCue 40) a5 (M0C 40)) H := hP
  have hD : va_D A (((((([(h, .inr (5, [.ref (a1 0), .ref (a2 0), .ref (a3 0), .ref (a4 0), .ref (a5 0), cI 2, cI 2, cI 0, cI 0, cI 0, cI 0]))]) ++ wd E (gRow 10) a1 M00) ++ wd E (gRow 10) a2 M00) ++ wd E (gRow 10) a3 M00) ++ wd E (gRow 4) a4 M00) ++ wd E (gCue 40) a5 (M0C 40)) := hD
  obtain ⟨ad, h0, hP, hD⟩ : ∃ ad : Nat → Nat, ad 0 = h ∧ va_P E.1 vwCl (wd E gSta ad MS0) H ∧ va_D A (wd E gSta ad MS0) := ⟨fun o => match o with | 0 => h | 1 => a1 0 | 2 => a1 1 | 3 => a2 0 | 4 => a2 1 | 5 => a3 0 | 6 => a3 1 | 7 => a4 0 | 8 => a4 1 | o + 9 => a5 o, rfl, hP, hD⟩
  rw [← MS_0] at hP hD
  refine W.widen (k := 17) (n := 208) (by omega) (by omega) ?_
  refine r_iconst X dX5_init_98 ?_
  refine lv_istore_n (lv' := [(1, cI 0), (0, .ref h)]) hx hb dX5_init_99 rfl hl (by decide) rfl (fun ls hl => ?_)
  refine st_l1 (ad := ad) X hK (Nat.le_refl _) (Nat.le_refl _) (fun ls H locs hl hP hD hS => ?_) 11 0 ls H _ (by omega) (by omega) (by rw [h0]; exact hl) hP hD hS
  refine r_iconst X dX5_init_141 ?_
  refine lv_istore_n (lv' := [(1, cI 0), (0, .ref (ad 0))]) hx hb dX5_init_142 rfl hl (by decide) rfl (fun ls hl => ?_)
  refine st_l2 (ad := ad) X hK (Nat.le_refl _) (Nat.le_refl _) (fun ls H locs hP hD hS => ?_) 5 0 ls H _ (by omega) (by omega) hl hP hD hS
  exact W.vret hx hb hr (fun t ht hW => ⟨⟨ad, rfl, h0, by rw [ht]; exact hP, hK.warm hW, hD⟩, hS.F ht⟩) hS.2.2 dX5_init_163
end
