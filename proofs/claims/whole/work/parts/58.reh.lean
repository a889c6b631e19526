section
/-! Rehearsal: its constructor -/
set_option maxRecDepth 20000 in
theorem ggX3_init_X4_init : GoodIn wsX3_init wsX4_init := goodIn_r _ [24, 25, 2, 3, 26, 27, 28, 29, 30, 31, 32] (by decide +kernel) (by decide +kernel)
set_option maxRecDepth 20000 in
theorem gX3_init_X4_init : GoodIn wsX3_init (wsX4_init) := ggX3_init_X4_init
theorem dX3_init_0 : decode cX3_init 0 = .ok (.aload_n 0, 1) := by decide +kernel
theorem dX3_init_1 : decode cX3_init 1 = .ok (.invokespecial 3, 3) := by decide +kernel
theorem dX3_init_4 : decode cX3_init 4 = .ok (.aload_n 0, 1) := by decide +kernel
theorem dX3_init_5 : decode cX3_init 5 = .ok (.new 9, 3) := by decide +kernel
theorem dX3_init_8 : decode cX3_init 8 = .ok (.dup, 1) := by decide +kernel
theorem dX3_init_9 : decode cX3_init 9 = .ok (.bipush 10, 2) := by decide +kernel
theorem dX3_init_11 : decode cX3_init 11 = .ok (.invokespecial 11, 3) := by decide +kernel
theorem dX3_init_14 : decode cX3_init 14 = .ok (.putfield 14, 3) := by decide +kernel
theorem dX3_init_17 : decode cX3_init 17 = .ok (.aload_n 0, 1) := by decide +kernel
theorem dX3_init_18 : decode cX3_init 18 = .ok (.new 9, 3) := by decide +kernel
theorem dX3_init_21 : decode cX3_init 21 = .ok (.dup, 1) := by decide +kernel
theorem dX3_init_22 : decode cX3_init 22 = .ok (.bipush 10, 2) := by decide +kernel
theorem dX3_init_24 : decode cX3_init 24 = .ok (.invokespecial 11, 3) := by decide +kernel
theorem dX3_init_27 : decode cX3_init 27 = .ok (.putfield 20, 3) := by decide +kernel
theorem dX3_init_30 : decode cX3_init 30 = .ok (.aload_n 0, 1) := by decide +kernel
theorem dX3_init_31 : decode cX3_init 31 = .ok (.new 9, 3) := by decide +kernel
theorem dX3_init_34 : decode cX3_init 34 = .ok (.dup, 1) := by decide +kernel
theorem dX3_init_35 : decode cX3_init 35 = .ok (.bipush 10, 2) := by decide +kernel
theorem dX3_init_37 : decode cX3_init 37 = .ok (.invokespecial 11, 3) := by decide +kernel
theorem dX3_init_40 : decode cX3_init 40 = .ok (.putfield 23, 3) := by decide +kernel
theorem dX3_init_43 : decode cX3_init 43 = .ok (.aload_n 0, 1) := by decide +kernel
theorem dX3_init_44 : decode cX3_init 44 = .ok (.new 9, 3) := by decide +kernel
theorem dX3_init_47 : decode cX3_init 47 = .ok (.dup, 1) := by decide +kernel
theorem dX3_init_48 : decode cX3_init 48 = .ok (.iconst 4, 1) := by decide +kernel
theorem dX3_init_49 : decode cX3_init 49 = .ok (.invokespecial 11, 3) := by decide +kernel
theorem dX3_init_52 : decode cX3_init 52 = .ok (.putfield 26, 3) := by decide +kernel
theorem dX3_init_55 : decode cX3_init 55 = .ok (.aload_n 0, 1) := by decide +kernel
theorem dX3_init_56 : decode cX3_init 56 = .ok (.new 9, 3) := by decide +kernel
theorem dX3_init_59 : decode cX3_init 59 = .ok (.dup, 1) := by decide +kernel
theorem dX3_init_60 : decode cX3_init 60 = .ok (.iconst 4, 1) := by decide +kernel
theorem dX3_init_61 : decode cX3_init 61 = .ok (.invokespecial 11, 3) := by decide +kernel
theorem dX3_init_64 : decode cX3_init 64 = .ok (.putfield 29, 3) := by decide +kernel
theorem dX3_init_67 : decode cX3_init 67 = .ok (.aload_n 0, 1) := by decide +kernel
theorem dX3_init_68 : decode cX3_init 68 = .ok (.new 9, 3) := by decide +kernel
theorem dX3_init_71 : decode cX3_init 71 = .ok (.dup, 1) := by decide +kernel
theorem dX3_init_72 : decode cX3_init 72 = .ok (.iconst 4, 1) := by decide +kernel
theorem dX3_init_73 : decode cX3_init 73 = .ok (.invokespecial 11, 3) := by decide +kernel
theorem dX3_init_76 : decode cX3_init 76 = .ok (.putfield 32, 3) := by decide +kernel
theorem dX3_init_79 : decode cX3_init 79 = .ok (.aload_n 0, 1) := by decide +kernel
theorem dX3_init_80 : decode cX3_init 80 = .ok (.new 9, 3) := by decide +kernel
theorem dX3_init_83 : decode cX3_init 83 = .ok (.dup, 1) := by decide +kernel
theorem dX3_init_84 : decode cX3_init 84 = .ok (.iconst 4, 1) := by decide +kernel
theorem dX3_init_85 : decode cX3_init 85 = .ok (.invokespecial 11, 3) := by decide +kernel
theorem dX3_init_88 : decode cX3_init 88 = .ok (.putfield 35, 3) := by decide +kernel
theorem dX3_init_91 : decode cX3_init 91 = .ok (.aload_n 0, 1) := by decide +kernel
theorem dX3_init_92 : decode cX3_init 92 = .ok (.new 9, 3) := by decide +kernel
theorem dX3_init_95 : decode cX3_init 95 = .ok (.dup, 1) := by decide +kernel
theorem dX3_init_96 : decode cX3_init 96 = .ok (.bipush 40, 2) := by decide +kernel
theorem dX3_init_98 : decode cX3_init 98 = .ok (.invokespecial 11, 3) := by decide +kernel
theorem dX3_init_101 : decode cX3_init 101 = .ok (.putfield 38, 3) := by decide +kernel
theorem dX3_init_104 : decode cX3_init 104 = .ok (.aload_n 0, 1) := by decide +kernel
theorem dX3_init_105 : decode cX3_init 105 = .ok (.new 9, 3) := by decide +kernel
theorem dX3_init_108 : decode cX3_init 108 = .ok (.dup, 1) := by decide +kernel
theorem dX3_init_109 : decode cX3_init 109 = .ok (.bipush 40, 2) := by decide +kernel
theorem dX3_init_111 : decode cX3_init 111 = .ok (.invokespecial 11, 3) := by decide +kernel
theorem dX3_init_114 : decode cX3_init 114 = .ok (.putfield 41, 3) := by decide +kernel
theorem dX3_init_117 : decode cX3_init 117 = .ok (.aload_n 0, 1) := by decide +kernel
theorem dX3_init_118 : decode cX3_init 118 = .ok (.new 9, 3) := by decide +kernel
theorem dX3_init_121 : decode cX3_init 121 = .ok (.dup, 1) := by decide +kernel
theorem dX3_init_122 : decode cX3_init 122 = .ok (.bipush 40, 2) := by decide +kernel
theorem dX3_init_124 : decode cX3_init 124 = .ok (.invokespecial 11, 3) := by decide +kernel
theorem dX3_init_127 : decode cX3_init 127 = .ok (.putfield 44, 3) := by decide +kernel
theorem dX3_init_130 : decode cX3_init 130 = .ok (.aload_n 0, 1) := by decide +kernel
theorem dX3_init_131 : decode cX3_init 131 = .ok (.new 9, 3) := by decide +kernel
theorem dX3_init_134 : decode cX3_init 134 = .ok (.dup, 1) := by decide +kernel
theorem dX3_init_135 : decode cX3_init 135 = .ok (.bipush 6, 2) := by decide +kernel
theorem dX3_init_137 : decode cX3_init 137 = .ok (.invokespecial 11, 3) := by decide +kernel
theorem dX3_init_140 : decode cX3_init 140 = .ok (.putfield 47, 3) := by decide +kernel
theorem dX3_init_143 : decode cX3_init 143 = .ok (.aload_n 0, 1) := by decide +kernel
theorem dX3_init_144 : decode cX3_init 144 = .ok (.new 9, 3) := by decide +kernel
theorem dX3_init_147 : decode cX3_init 147 = .ok (.dup, 1) := by decide +kernel
theorem dX3_init_148 : decode cX3_init 148 = .ok (.bipush 6, 2) := by decide +kernel
theorem dX3_init_150 : decode cX3_init 150 = .ok (.invokespecial 11, 3) := by decide +kernel
theorem dX3_init_153 : decode cX3_init 153 = .ok (.putfield 50, 3) := by decide +kernel
theorem dX3_init_156 : decode cX3_init 156 = .ok (.aload_n 0, 1) := by decide +kernel
theorem dX3_init_157 : decode cX3_init 157 = .ok (.iconst 0, 1) := by decide +kernel
theorem dX3_init_158 : decode cX3_init 158 = .ok (.putfield 53, 3) := by decide +kernel
theorem dX3_init_161 : decode cX3_init 161 = .ok (.aload_n 0, 1) := by decide +kernel
theorem dX3_init_162 : decode cX3_init 162 = .ok (.iconst 0, 1) := by decide +kernel
theorem dX3_init_163 : decode cX3_init 163 = .ok (.putfield 57, 3) := by decide +kernel
theorem dX3_init_166 : decode cX3_init 166 = .ok (.aload_n 0, 1) := by decide +kernel
theorem dX3_init_167 : decode cX3_init 167 = .ok (.iconst 0, 1) := by decide +kernel
theorem dX3_init_168 : decode cX3_init 168 = .ok (.putfield 60, 3) := by decide +kernel
theorem dX3_init_171 : decode cX3_init 171 = .ok (.return_, 1) := by decide +kernel
def gReh : GG := [(3, 0), (4, 0), (9, 10), (4, 0), (9, 10), (4, 0), (9, 10), (4, 0), (9, 4), (4, 0), (9, 4), (4, 0), (9, 4), (4, 0), (9, 4), (4, 0), (9, 40), (4, 0), (9, 40), (4, 0), (9, 40), (4, 0), (9, 6), (4, 0), (9, 6)]
set_option maxHeartbeats 4000000 in
set_option maxRecDepth 100000 in
theorem k_X3_init {E : EE} {l : Launch} : Cn E l yX3_init wsX3_init ({ frames := 3, cells := 24, slots := 190, locals := 100 }) 3 gReh M00 [] 24 (190) := by
  intro h sz
  refine Met.ofW (cc := cX3_init) (maxL := 1) (ret := none) (by decide) rfl ?_
  intro p e s m args below meth c s₁ B hml hv
  obtain ⟨rfl, hsz, hP, hK, hlt⟩ := hv
  have hx := B.exec
  have hb := B.bytes
  have hr := B.returns
  have hts := atoms_spec (ws := wsX3_init) B.pre
  have hown : s.vm.findClass RX3 = some m.cls := findClass_of_methodNamed B.named
  have hlocks := B.notSynchronized
  have hin : meth.name = "<init>" := (name_of_methodNamed B.named B.method).1
  subst hsz
  have hD := one_D (h := h) (sz := s.heap.size) (e := .inr (3, blk 3))
  generalize hAe : (fun x => x = h ∨ s.heap.size ≤ x) = A at hD ⊢
  have hA : ∀ q : Nat, s.heap.size ≤ q → A q := fun q h => by rw [← hAe]; exact Or.inr h
  have hS : va_S A s.heap s.heap [] := va_S.rf
  have hl := lv_entry ([.ref h]) (n := 1) (Nat.le_of_ble_eq_true rfl)
  rw [lg_entry_eq]
  generalize (lg_sl ([.ref h]) ++ List.replicate (1 - (lg_sl ([.ref h])).length) Slot.unset).toArray = ls at hl ⊢
  have hl : lv_has ls 1 [(0, .ref h)] := hl
  have X : CallFix p m c cX3_init 1 s _ wsX3_init RX3 := ⟨hx, hb, hml, hown, hts⟩
  refine lv_aload_n hx hb dX3_init_0 rfl (lv_at hl 0 rfl) ?_
  refine W.objInit hx hb hown (hts (.methodLink RX3 3 objectInit) (by decide +kernel)) (hts (.instanceMethod objectInit) (by decide +kernel)) (hts (.code objectInit ⟨#[0xb1]⟩ 1 none) (by decide +kernel)) rfl (by rw [hml]; exact hl.1) rfl dX3_init_1 (Nat.le_of_ble_eq_true rfl) (Nat.le_of_ble_eq_true rfl) ?_
  refine W.eq (g2 := F0 m 4 ls []) rfl ?_
  refine lv_aload_n hx hb dX3_init_4 rfl (lv_at hl 0 rfl) ?_
  refine va_new (D := E.1) (ci := 4) (fs := blk 4) (C := RX4) (T := TX4) (N := 1) hx hb hts (by decide +kernel) tyX4 tyX4_ok hown (hts (.classLink RX3 9 RX4) (by decide +kernel)) (hts (.instantiable RX4 1) (by decide +kernel)) (hts (.initialized RX4) (by decide +kernel)) hK.1 hP hD hS hA rfl (fun j hj => by have : j < 1 := hj; match j, this with | 0, _ => rfl) (show 0 + 1 ≤ 24 by omega) (show 0 + 1 ≤ 190 by omega) dX3_init_5 (fun q H hP hD hS => ?_)
  refine lv_dup hx hb dX3_init_8 rfl ?_
  refine r_bipush X dX3_init_9 (by decide) ?_
  refine k_ini (WW := ([(h, .inr (3, [.null, .null, .null, .null, .null, .null, .null, .null, .null, .null, .null, .null, .int 0, .int 0, .int 0]))])) (gc := (gRow 10)) (Mf := M00) (nc := 1) (ns := 10) hK hP hD hS hA (va_runI (As := [cI (10 : Nat)]) (rest := [.ref q, .ref h]) X (k_X4_init (n := 10) (by decide) q H.size) (cwI 1 hts gX3_init_X4_init rfl rfl rfl (hts (.initialized RX4) (by decide +kernel)) (hts (.methodLink RX3 11 yX4_init) (by decide +kernel)) (hts (.instanceMethod yX4_init) (by decide +kernel)) rfl (by decide +kernel) ⟨Nat.le_of_ble_eq_true rfl, Nat.le_of_ble_eq_true rfl⟩) (k_pre hK hP) rfl rfl hl.1 rfl (lv_room (Nat.le_of_ble_eq_true rfl)) dX3_init_11 ⟨show 0 + 1 + 1 ≤ 24 by omega, show 0 + 1 + 10 ≤ 190 by omega⟩) (fun a1 H locs h0 hPz hDz hSz => ?_)
  refine W.widen (k := 2) (n := 1 + 10) (by omega) (by omega) ?_
  subst h0
  have hP := hPz
  have hD := hDz
  have hS := hSz
  refine va_putF (D := E.1) (ci := 3) (v := .ref (a1 0)) (ty := .object "LentSounds$Row") (C := RX3) (T := TX3) (N := 15) hx hb hts (by decide +kernel) tyX3 tyX3_ok nmX3 hown hK.1 hP hD hS 0 rfl rfl 0 (by decide) (hts (.fieldLink RX3 14 "LentSounds$Rehearsal" "charges" "LLentSounds$Row;") (by decide +kernel)) (fun _ h9 => h9) rfl hin rfl (by decide +kernel) rfl rfl (Nat.le_of_ble_eq_true rfl) dX3_init_14 (fun H locs hP hD hS => ?_)
  have hP : va_P E.1 vwCl (([(h, .inr (3, [.ref (a1 0), .null, .null, .null, .null, .null, .null, .null, .null, .null, .null, .null, .int 0, .int 0, .int 0]))]) ++ wd E (gRow 10) a1 M00) H := hP
  have hD : va_D A (([(h, .inr (3, [.ref (a1 0), .null, .null, .null, .null, .null, .null, .null, .null, .null, .null, .null, .int 0, .int 0, .int 0]))]) ++ wd E (gRow 10) a1 M00) := hD
  refine lv_aload_n hx hb dX3_init_17 rfl (lv_at hl 0 rfl) ?_
  refine va_new (D := E.1) (ci := 4) (fs := blk 4) (C := RX4) (T := TX4) (N := 1) hx hb hts (by decide +kernel) tyX4 tyX4_ok hown (hts (.classLink RX3 9 RX4) (by decide +kernel)) (hts (.instantiable RX4 1) (by decide +kernel)) (hts (.initialized RX4) (by decide +kernel)) hK.1 hP hD hS hA rfl (fun j hj => by have : j < 1 := hj; match j, this with | 0, _ => rfl) (show 2 + 1 ≤ 24 by omega) (show 1 + 10 + 1 ≤ 190 by omega) dX3_init_18 (fun q H hP hD hS => ?_)
  refine lv_dup hx hb dX3_init_21 rfl ?_
  refine r_bipush X dX3_init_22 (by decide) ?_
  refine k_ini (WW := (([(h, .inr (3, [.ref (a1 0), .null, .null, .null, .null, .null, .null, .null, .null, .null, .null, .null, .int 0, .int 0, .int 0]))]) ++ wd E (gRow 10) a1 M00)) (gc := (gRow 10)) (Mf := M00) (nc := 1) (ns := 10) hK hP hD hS hA (va_runI (As := [cI (10 : Nat)]) (rest := [.ref q, .ref h]) X (k_X4_init (n := 10) (by decide) q H.size) (cwI 1 hts gX3_init_X4_init rfl rfl rfl (hts (.initialized RX4) (by decide +kernel)) (hts (.methodLink RX3 11 yX4_init) (by decide +kernel)) (hts (.instanceMethod yX4_init) (by decide +kernel)) rfl (by decide +kernel) ⟨Nat.le_of_ble_eq_true rfl, Nat.le_of_ble_eq_true rfl⟩) (k_pre hK hP) rfl rfl hl.1 rfl (lv_room (Nat.le_of_ble_eq_true rfl)) dX3_init_24 ⟨show 2 + 1 + 1 ≤ 24 by omega, show 1 + 10 + 1 + 10 ≤ 190 by omega⟩) (fun a2 H locs h0 hPz hDz hSz => ?_)
  refine W.widen (k := 4) (n := 1 + 10 + 1 + 10) (by omega) (by omega) ?_
  subst h0
  have hP := hPz
  have hD := hDz
  have hS := hSz
  refine va_putF (D := E.1) (ci := 3) (v := .ref (a2 0)) (ty := .object "LentSounds$Row") (C := RX3) (T := TX3) (N := 15) hx hb hts (by decide +kernel) tyX3 tyX3_ok nmX3 hown hK.1 hP hD hS 0 rfl rfl 1 (by decide) (hts (.fieldLink RX3 20 "LentSounds$Rehearsal" "latestScenes" "LLentSounds$Row;") (by decide +kernel)) (fun _ h9 => h9) rfl hin rfl (by decide +kernel) rfl rfl (Nat.le_of_ble_eq_true rfl) dX3_init_27 (fun H locs hP hD hS => ?_)
  have hP : va_P E.1 vwCl ((([(h, .inr (3, [.ref (a1 0), .ref (a2 0), .null, .null, .null, .null, .null, .null, .null, .null, .null, .null, .int 0, .int 0, .int 0]))]) ++ wd E (gRow 10) a1 M00) ++ wd E (gRow 10) a2 M00) H := hP
  have hD : va_D A ((([(h, .inr (3, [.ref (a1 0), .ref (a2 0), .null, .null, .null, .null, .null, .null, .null, .null, .null, .null, .int 0, .int 0, .int 0]))]) ++ wd E (gRow 10) a1 M00) ++ wd E (gRow 10) a2 M00) := hD
  refine lv_aload_n hx hb dX3_init_30 rfl (lv_at hl 0 rfl) ?_
  refine va_new (D := E.1) (ci := 4) (fs := blk 4) (C := RX4) (T := TX4) (N := 1) hx hb hts (by decide +kernel) tyX4 tyX4_ok hown (hts (.classLink RX3 9 RX4) (by decide +kernel)) (hts (.instantiable RX4 1) (by decide +kernel)) (hts (.initialized RX4) (by decide +kernel)) hK.1 hP hD hS hA rfl (fun j hj => by have : j < 1 := hj; match j, this with | 0, _ => rfl) (show 4 + 1 ≤ 24 by omega) (show 1 + 10 + 1 + 10 + 1 ≤ 190 by omega) dX3_init_31 (fun q H hP hD hS => ?_)
  refine lv_dup hx hb dX3_init_34 rfl ?_
  refine r_bipush X dX3_init_35 (by decide) ?_
  refine k_ini (WW := ((([(h, .inr (3, [.ref (a1 0), .ref (a2 0), .null, .null, .null, .null, .null, .null, .null, .null, .null, .null, .int 0, .int 0, .int 0]))]) ++ wd E (gRow 10) a1 M00) ++ wd E (gRow 10) a2 M00)) (gc := (gRow 10)) (Mf := M00) (nc := 1) (ns := 10) hK hP hD hS hA (va_runI (As := [cI (10 : Nat)]) (rest := [.ref q, .ref h]) X (k_X4_init (n := 10) (by decide) q H.size) (cwI 1 hts gX3_init_X4_init rfl rfl rfl (hts (.initialized RX4) (by decide +kernel)) (hts (.methodLink RX3 11 yX4_init) (by decide +kernel)) (hts (.instanceMethod yX4_init) (by decide +kernel)) rfl (by decide +kernel) ⟨Nat.le_of_ble_eq_true rfl, Nat.le_of_ble_eq_true rfl⟩) (k_pre hK hP) rfl rfl hl.1 rfl (lv_room (Nat.le_of_ble_eq_true rfl)) dX3_init_37 ⟨show 4 + 1 + 1 ≤ 24 by omega, show 1 + 10 + 1 + 10 + 1 + 10 ≤ 190 by omega⟩) (fun a3 H locs h0 hPz hDz hSz => ?_)
  refine W.widen (k := 6) (n := 1 + 10 + 1 + 10 + 1 + 10) (by omega) (by omega) ?_
  subst h0
  have hP := hPz
  have hD := hDz
  have hS := hSz
  refine va_putF (D := E.1) (ci := 3) (v := .ref (a3 0)) (ty := .object "LentSounds$Row") (C := RX3) (T := TX3) (N := 15) hx hb hts (by decide +kernel) tyX3 tyX3_ok nmX3 hown hK.1 hP hD hS 0 rfl rfl 2 (by decide) (hts (.fieldLink RX3 23 "LentSounds$Rehearsal" "latestEnds" "LLentSounds$Row;") (by decide +kernel)) (fun _ h9 => h9) rfl hin rfl (by decide +kernel) rfl rfl (Nat.le_of_ble_eq_true rfl) dX3_init_40 (fun H locs hP hD hS => ?_)
  have hP : va_P E.1 vwCl (((([(h, .inr (3, [.ref (a1 0), .ref (a2 0), .ref (a3 0), .null, .null, .null, .null, .null, .null, .null, .null, .null, .int 0, .int 0, .int 0]))]) ++ wd E (gRow 10) a1 M00) ++ wd E (gRow 10) a2 M00) ++ wd E (gRow 10) a3 M00) H := hP
  have hD : va_D A (((([(h, .inr (3, [.ref (a1 0), .ref (a2 0), .ref (a3 0), .null, .null, .null, .null, .null, .null, .null, .null, .null, .int 0, .int 0, .int 0]))]) ++ wd E (gRow 10) a1 M00) ++ wd E (gRow 10) a2 M00) ++ wd E (gRow 10) a3 M00) := hD
  refine lv_aload_n hx hb dX3_init_43 rfl (lv_at hl 0 rfl) ?_
  refine va_new (D := E.1) (ci := 4) (fs := blk 4) (C := RX4) (T := TX4) (N := 1) hx hb hts (by decide +kernel) tyX4 tyX4_ok hown (hts (.classLink RX3 9 RX4) (by decide +kernel)) (hts (.instantiable RX4 1) (by decide +kernel)) (hts (.initialized RX4) (by decide +kernel)) hK.1 hP hD hS hA rfl (fun j hj => by have : j < 1 := hj; match j, this with | 0, _ => rfl) (show 6 + 1 ≤ 24 by omega) (show 1 + 10 + 1 + 10 + 1 + 10 + 1 ≤ 190 by omega) dX3_init_44 (fun q H hP hD hS => ?_)
  refine lv_dup hx hb dX3_init_47 rfl ?_
  refine r_iconst X dX3_init_48 ?_
  refine k_ini (WW := (((([(h, .inr (3, [.ref (a1 0), .ref (a2 0), .ref (a3 0), .null, .null, .null, .null, .null, .null, .null, .null, .null, .int 0, .int 0, .int 0]))]) ++ wd E (gRow 10) a1 M00) ++ wd E (gRow 10) a2 M00) ++ wd E (gRow 10) a3 M00)) (gc := (gRow 4)) (Mf := M00) (nc := 1) (ns := 4) hK hP hD hS hA (va_runI (As := [cI (4 : Nat)]) (rest := [.ref q, .ref h]) X (k_X4_init (n := 4) (by decide) q H.size) (cwI 1 hts gX3_init_X4_init rfl rfl rfl (hts (.initialized RX4) (by decide +kernel)) (hts (.methodLink RX3 11 yX4_init) (by decide +kernel)) (hts (.instanceMethod yX4_init) (by decide +kernel)) rfl (by decide +kernel) ⟨Nat.le_of_ble_eq_true rfl, Nat.le_of_ble_eq_true rfl⟩) (k_pre hK hP) rfl rfl hl.1 rfl (lv_room (Nat.le_of_ble_eq_true rfl)) dX3_init_49 ⟨show 6 + 1 + 1 ≤ 24 by omega, show 1 + 10 + 1 + 10 + 1 + 10 + 1 + 4 ≤ 190 by omega⟩) (fun a4 H locs h0 hPz hDz hSz => ?_)
  refine W.widen (k := 8) (n := 1 + 10 + 1 + 10 + 1 + 10 + 1 + 4) (by omega) (by omega) ?_
  subst h0
  have hP := hPz
  have hD := hDz
  have hS := hSz
  refine va_putF (D := E.1) (ci := 3) (v := .ref (a4 0)) (ty := .object "LentSounds$Row") (C := RX3) (T := TX3) (N := 15) hx hb hts (by decide +kernel) tyX3 tyX3_ok nmX3 hown hK.1 hP hD hS 0 rfl rfl 3 (by decide) (hts (.fieldLink RX3 26 "LentSounds$Rehearsal" "handShelves" "LLentSounds$Row;") (by decide +kernel)) (fun _ h9 => h9) rfl hin rfl (by decide +kernel) rfl rfl (Nat.le_of_ble_eq_true rfl) dX3_init_52 (fun H locs hP hD hS => ?_)
  have hP : va_P E.1 vwCl ((((([(h, .inr (3, [.ref (a1 0), .ref (a2 0), .ref (a3 0), .ref (a4 0), .null, .null, .null, .null, .null, .null, .null, .null, .int 0, .int 0, .int 0]))]) ++ wd E (gRow 10) a1 M00) ++ wd E (gRow 10) a2 M00) ++ wd E (gRow 10) a3 M00) ++ wd E (gRow 4) a4 M00) H := hP
  have hD : va_D A ((((([(h, .inr (3, [.ref (a1 0), .ref (a2 0), .ref (a3 0), .ref (a4 0), .null, .null, .null, .null, .null, .null, .null, .null, .int 0, .int 0, .int 0]))]) ++ wd E (gRow 10) a1 M00) ++ wd E (gRow 10) a2 M00) ++ wd E (gRow 10) a3 M00) ++ wd E (gRow 4) a4 M00) := hD
  refine lv_aload_n hx hb dX3_init_55 rfl (lv_at hl 0 rfl) ?_
  refine va_new (D := E.1) (ci := 4) (fs := blk 4) (C := RX4) (T := TX4) (N := 1) hx hb hts (by decide +kernel) tyX4 tyX4_ok hown (hts (.classLink RX3 9 RX4) (by decide +kernel)) (hts (.instantiable RX4 1) (by decide +kernel)) (hts (.initialized RX4) (by decide +kernel)) hK.1 hP hD hS hA rfl (fun j hj => by have : j < 1 := hj; match j, this with | 0, _ => rfl) (show 8 + 1 ≤ 24 by omega) (show 1 + 10 + 1 + 10 + 1 + 10 + 1 + 4 + 1 ≤ 190 by omega) dX3_init_56 (fun q H hP hD hS => ?_)
  refine lv_dup hx hb dX3_init_59 rfl ?_
  refine r_iconst X dX3_init_60 ?_
  refine k_ini (WW := ((((([(h, .inr (3, [.ref (a1 0), .ref (a2 0), .ref (a3 0), .ref (a4 0), .null, .null, .null, .null, .null, .null, .null, .null, .int 0, .int 0, .int 0]))]) ++ wd E (gRow 10) a1 M00) ++ wd E (gRow 10) a2 M00) ++ wd E (gRow 10) a3 M00) ++ wd E (gRow 4) a4 M00)) (gc := (gRow 4)) (Mf := M00) (nc := 1) (ns := 4) hK hP hD hS hA (va_runI (As := [cI (4 : Nat)]) (rest := [.ref q, .ref h]) X (k_X4_init (n := 4) (by decide) q H.size) (cwI 1 hts gX3_init_X4_init rfl rfl rfl (hts (.initialized RX4) (by decide +kernel)) (hts (.methodLink RX3 11 yX4_init) (by decide +kernel)) (hts (.instanceMethod yX4_init) (by decide +kernel)) rfl (by decide +kernel) ⟨Nat.le_of_ble_eq_true rfl, Nat.le_of_ble_eq_true rfl⟩) (k_pre hK hP) rfl rfl hl.1 rfl (lv_room (Nat.le_of_ble_eq_true rfl)) dX3_init_61 ⟨show 8 + 1 + 1 ≤ 24 by omega, show 1 + 10 + 1 + 10 + 1 + 10 + 1 + 4 + 1 + 4 ≤ 190 by omega⟩) (fun a5 H locs h0 hPz hDz hSz => ?_)
  refine W.widen (k := 10) (n := 1 + 10 + 1 + 10 + 1 + 10 + 1 + 4 + 1 + 4) (by omega) (by omega) ?_
  subst h0
  have hP := hPz
  have hD := hDz
  have hS := hSz
  refine va_putF (D := E.1) (ci := 3) (v := .ref (a5 0)) (ty := .object "LentSounds$Row") (C := RX3) (T := TX3) (N := 15) hx hb hts (by decide +kernel) tyX3 tyX3_ok nmX3 hown hK.1 hP hD hS 0 rfl rfl 4 (by decide) (hts (.fieldLink RX3 29 "LentSounds$Rehearsal" "freeFrom" "LLentSounds$Row;") (by decide +kernel)) (fun _ h9 => h9) rfl hin rfl (by decide +kernel) rfl rfl (Nat.le_of_ble_eq_true rfl) dX3_init_64 (fun H locs hP hD hS => ?_)
  have hP : va_P E.1 vwCl (((((([(h, .inr (3, [.ref (a1 0), .ref (a2 0), .ref (a3 0), .ref (a4 0), .ref (a5 0), .null, .null, .null, .null, .null, .null, .null, .int 0, .int 0, .int 0]))]) ++ wd E (gRow 10) a1 M00) ++ wd E (gRow 10) a2 M00) ++ wd E (gRow 10) a3 M00) ++ wd E (gRow 4) a4 M00) ++ wd E (gRow 4) a5 M00) H := hP
  have hD : va_D A (((((([(h, .inr (3, [.ref (a1 0), .ref (a2 0), .ref (a3 0), .ref (a4 0), .ref (a5 0), .null, .null, .null, .null, .null, .null, .null, .int 0, .int 0, .int 0]))]) ++ wd E (gRow 10) a1 M00) ++ wd E (gRow 10) a2 M00) ++ wd E (gRow 10) a3 M00) ++ wd E (gRow 4) a4 M00) ++ wd E (gRow 4) a5 M00) := hD
  refine lv_aload_n hx hb dX3_init_67 rfl (lv_at hl 0 rfl) ?_
  refine va_new (D := E.1) (ci := 4) (fs := blk 4) (C := RX4) (T := TX4) (N := 1) hx hb hts (by decide +kernel) tyX4 tyX4_ok hown (hts (.classLink RX3 9 RX4) (by decide +kernel)) (hts (.instantiable RX4 1) (by decide +kernel)) (hts (.initialized RX4) (by decide +kernel)) hK.1 hP hD hS hA rfl (fun j hj => by have : j < 1 := hj; match j, this with | 0, _ => rfl) (show 10 + 1 ≤ 24 by omega) (show 1 + 10 + 1 + 10 + 1 + 10 + 1 + 4 + 1 + 4 + 1 ≤ 190 by omega) dX3_init_68 (fun q H hP hD hS => ?_)
  refine lv_dup hx hb dX3_init_71 rfl ?_
  refine r_iconst X dX3_init_72 ?_
  refine k_ini (WW := (((((([(h, .inr (3, [.ref (a1 0), .ref (a2 0), .ref (a3 0), .ref (a4 0), .ref (a5 0), .null, .null, .null, .null, .null, .null, .null, .int 0, .int 0, .int 0]))]) ++ wd E (gRow 10) a1 M00) ++ wd E (gRow 10) a2 M00) ++ wd E (gRow 10) a3 M00) ++ wd E (gRow 4) a4 M00) ++ wd E (gRow 4) a5 M00)) (gc := (gRow 4)) (Mf := M00) (nc := 1) (ns := 4) hK hP hD hS hA (va_runI (As := [cI (4 : Nat)]) (rest := [.ref q, .ref h]) X (k_X4_init (n := 4) (by decide) q H.size) (cwI 1 hts gX3_init_X4_init rfl rfl rfl (hts (.initialized RX4) (by decide +kernel)) (hts (.methodLink RX3 11 yX4_init) (by decide +kernel)) (hts (.instanceMethod yX4_init) (by decide +kernel)) rfl (by decide +kernel) ⟨Nat.le_of_ble_eq_true rfl, Nat.le_of_ble_eq_true rfl⟩) (k_pre hK hP) rfl rfl hl.1 rfl (lv_room (Nat.le_of_ble_eq_true rfl)) dX3_init_73 ⟨show 10 + 1 + 1 ≤ 24 by omega, show 1 + 10 + 1 + 10 + 1 + 10 + 1 + 4 + 1 + 4 + 1 + 4 ≤ 190 by omega⟩) (fun a6 H locs h0 hPz hDz hSz => ?_)
  refine W.widen (k := 12) (n := 1 + 10 + 1 + 10 + 1 + 10 + 1 + 4 + 1 + 4 + 1 + 4) (by omega) (by omega) ?_
  subst h0
  have hP := hPz
  have hD := hDz
  have hS := hSz
  refine va_putF (D := E.1) (ci := 3) (v := .ref (a6 0)) (ty := .object "LentSounds$Row") (C := RX3) (T := TX3) (N := 15) hx hb hts (by decide +kernel) tyX3 tyX3_ok nmX3 hown hK.1 hP hD hS 0 rfl rfl 5 (by decide) (hts (.fieldLink RX3 32 "LentSounds$Rehearsal" "handPlays" "LLentSounds$Row;") (by decide +kernel)) (fun _ h9 => h9) rfl hin rfl (by decide +kernel) rfl rfl (Nat.le_of_ble_eq_true rfl) dX3_init_76 (fun H locs hP hD hS => ?_)
  have hP : va_P E.1 vwCl ((((((([(h, .inr (3, [.ref (a1 0), .ref (a2 0), .ref (a3 0), .ref (a4 0), .ref (a5 0), .ref (a6 0), .null, .null, .null, .null, .null, .null, .int 0, .int 0, .int 0]))]) ++ wd E (gRow 10) a1 M00) ++ wd E (gRow 10) a2 M00) ++ wd E (gRow 10) a3 M00) ++ wd E (gRow 4) a4 M00) ++ wd E (gRow 4) a5 M00) ++ wd E (gRow 4) a6 M00) H := hP
  have hD : va_D A ((((((([(h, .inr (3, [.ref (a1 0), .ref (a2 0), .ref (a3 0), .ref (a4 0), .ref (a5 0), .ref (a6 0), .null, .null, .null, .null, .null, .null, .int 0, .int 0, .int 0]))]) ++ wd E (gRow 10) a1 M00) ++ wd E (gRow 10) a2 M00) ++ wd E (gRow 10) a3 M00) ++ wd E (gRow 4) a4 M00) ++ wd E (gRow 4) a5 M00) ++ wd E (gRow 4) a6 M00) := hD
  refine lv_aload_n hx hb dX3_init_79 rfl (lv_at hl 0 rfl) ?_
  refine va_new (D := E.1) (ci := 4) (fs := blk 4) (C := RX4) (T := TX4) (N := 1) hx hb hts (by decide +kernel) tyX4 tyX4_ok hown (hts (.classLink RX3 9 RX4) (by decide +kernel)) (hts (.instantiable RX4 1) (by decide +kernel)) (hts (.initialized RX4) (by decide +kernel)) hK.1 hP hD hS hA rfl (fun j hj => by have : j < 1 := hj; match j, this with | 0, _ => rfl) (show 12 + 1 ≤ 24 by omega) (show 1 + 10 + 1 + 10 + 1 + 10 + 1 + 4 + 1 + 4 + 1 + 4 + 1 ≤ 190 by omega) dX3_init_80 (fun q H hP hD hS => ?_)
  refine lv_dup hx hb dX3_init_83 rfl ?_
  refine r_iconst X dX3_init_84 ?_
  refine k_ini (WW := ((((((([(h, .inr (3, [.ref (a1 0), .ref (a2 0), .ref (a3 0), .ref (a4 0), .ref (a5 0), .ref (a6 0), .null, .null, .null, .null, .null, .null, .int 0, .int 0, .int 0]))]) ++ wd E (gRow 10) a1 M00) ++ wd E (gRow 10) a2 M00) ++ wd E (gRow 10) a3 M00) ++ wd E (gRow 4) a4 M00) ++ wd E (gRow 4) a5 M00) ++ wd E (gRow 4) a6 M00)) (gc := (gRow 4)) (Mf := M00) (nc := 1) (ns := 4) hK hP hD hS hA (va_runI (As := [cI (4 : Nat)]) (rest := [.ref q, .ref h]) X (k_X4_init (n := 4) (by decide) q H.size) (cwI 1 hts gX3_init_X4_init rfl rfl rfl (hts (.initialized RX4) (by decide +kernel)) (hts (.methodLink RX3 11 yX4_init) (by decide +kernel)) (hts (.instanceMethod yX4_init) (by decide +kernel)) rfl (by decide +kernel) ⟨Nat.le_of_ble_eq_true rfl, Nat.le_of_ble_eq_true rfl⟩) (k_pre hK hP) rfl rfl hl.1 rfl (lv_room (Nat.le_of_ble_eq_true rfl)) dX3_init_85 ⟨show 12 + 1 + 1 ≤ 24 by omega, show 1 + 10 + 1 + 10 + 1 + 10 + 1 + 4 + 1 + 4 + 1 + 4 + 1 + 4 ≤ 190 by omega⟩) (fun a7 H locs h0 hPz hDz hSz => ?_)
  refine W.widen (k := 14) (n := 1 + 10 + 1 + 10 + 1 + 10 + 1 + 4 + 1 + 4 + 1 + 4 + 1 + 4) (by omega) (by omega) ?_
  subst h0
  have hP := hPz
  have hD := hDz
  have hS := hSz
  refine va_putF (D := E.1) (ci := 3) (v := .ref (a7 0)) (ty := .object "LentSounds$Row") (C := RX3) (T := TX3) (N := 15) hx hb hts (by decide +kernel) tyX3 tyX3_ok nmX3 hown hK.1 hP hD hS 0 rfl rfl 6 (by decide) (hts (.fieldLink RX3 35 "LentSounds$Rehearsal" "handWays" "LLentSounds$Row;") (by decide +kernel)) (fun _ h9 => h9) rfl hin rfl (by decide +kernel) rfl rfl (Nat.le_of_ble_eq_true rfl) dX3_init_88 (fun H locs hP hD hS => ?_)
  have hP : va_P E.1 vwCl (((((((([(h, .inr (3, [.ref (a1 0), .ref (a2 0), .ref (a3 0), .ref (a4 0), .ref (a5 0), .ref (a6 0), .ref (a7 0), .null, .null, .null, .null, .null, .int 0, .int 0, .int 0]))]) ++ wd E (gRow 10) a1 M00) ++ wd E (gRow 10) a2 M00) ++ wd E (gRow 10) a3 M00) ++ wd E (gRow 4) a4 M00) ++ wd E (gRow 4) a5 M00) ++ wd E (gRow 4) a6 M00) ++ wd E (gRow 4) a7 M00) H := hP
  have hD : va_D A (((((((([(h, .inr (3, [.ref (a1 0), .ref (a2 0), .ref (a3 0), .ref (a4 0), .ref (a5 0), .ref (a6 0), .ref (a7 0), .null, .null, .null, .null, .null, .int 0, .int 0, .int 0]))]) ++ wd E (gRow 10) a1 M00) ++ wd E (gRow 10) a2 M00) ++ wd E (gRow 10) a3 M00) ++ wd E (gRow 4) a4 M00) ++ wd E (gRow 4) a5 M00) ++ wd E (gRow 4) a6 M00) ++ wd E (gRow 4) a7 M00) := hD
  refine lv_aload_n hx hb dX3_init_91 rfl (lv_at hl 0 rfl) ?_
  refine va_new (D := E.1) (ci := 4) (fs := blk 4) (C := RX4) (T := TX4) (N := 1) hx hb hts (by decide +kernel) tyX4 tyX4_ok hown (hts (.classLink RX3 9 RX4) (by decide +kernel)) (hts (.instantiable RX4 1) (by decide +kernel)) (hts (.initialized RX4) (by decide +kernel)) hK.1 hP hD hS hA rfl (fun j hj => by have : j < 1 := hj; match j, this with | 0, _ => rfl) (show 14 + 1 ≤ 24 by omega) (show 1 + 10 + 1 + 10 + 1 + 10 + 1 + 4 + 1 + 4 + 1 + 4 + 1 + 4 + 1 ≤ 190 by omega) dX3_init_92 (fun q H hP hD hS => ?_)
  refine lv_dup hx hb dX3_init_95 rfl ?_
  refine r_bipush X dX3_init_96 (by decide) ?_
  refine k_ini (WW := (((((((([(h, .inr (3, [.ref (a1 0), .ref (a2 0), .ref (a3 0), .ref (a4 0), .ref (a5 0), .ref (a6 0), .ref (a7 0), .null, .null, .null, .null, .null, .int 0, .int 0, .int 0]))]) ++ wd E (gRow 10) a1 M00) ++ wd E (gRow 10) a2 M00) ++ wd E (gRow 10) a3 M00) ++ wd E (gRow 4) a4 M00) ++ wd E (gRow 4) a5 M00) ++ wd E (gRow 4) a6 M00) ++ wd E (gRow 4) a7 M00)) (gc := (gRow 40)) (Mf := M00) (nc := 1) (ns := 40) hK hP hD hS hA (va_runI (As := [cI (40 : Nat)]) (rest := [.ref q, .ref h]) X (k_X4_init (n := 40) (by decide) q H.size) (cwI 1 hts gX3_init_X4_init rfl rfl rfl (hts (.initialized RX4) (by decide +kernel)) (hts (.methodLink RX3 11 yX4_init) (by decide +kernel)) (hts (.instanceMethod yX4_init) (by decide +kernel)) rfl (by decide +kernel) ⟨Nat.le_of_ble_eq_true rfl, Nat.le_of_ble_eq_true rfl⟩) (k_pre hK hP) rfl rfl hl.1 rfl (lv_room (Nat.le_of_ble_eq_true rfl)) dX3_init_98 ⟨show 14 + 1 + 1 ≤ 24 by omega, show 1 + 10 + 1 + 10 + 1 + 10 + 1 + 4 + 1 + 4 + 1 + 4 + 1 + 4 + 1 + 40 ≤ 190 by omega⟩) (fun a8 H locs h0 hPz hDz hSz => ?_)
  refine W.widen (k := 16) (n := 1 + 10 + 1 + 10 + 1 + 10 + 1 + 4 + 1 + 4 + 1 + 4 + 1 + 4 + 1 + 40) (by omega) (by omega) ?_
  subst h0
  have hP := hPz
  have hD := hDz
  have hS := hSz
  refine va_putF (D := E.1) (ci := 3) (v := .ref (a8 0)) (ty := .object "LentSounds$Row") (C := RX3) (T := TX3) (N := 15) hx hb hts (by decide +kernel) tyX3 tyX3_ok nmX3 hown hK.1 hP hD hS 0 rfl rfl 7 (by decide) (hts (.fieldLink RX3 38 "LentSounds$Rehearsal" "players" "LLentSounds$Row;") (by decide +kernel)) (fun _ h9 => h9) rfl hin rfl (by decide +kernel) rfl rfl (Nat.le_of_ble_eq_true rfl) dX3_init_101 (fun H locs hP hD hS => ?_)
  have hP : va_P E.1 vwCl ((((((((([(h, .inr (3, [.ref (a1 0), .ref (a2 0), .ref (a3 0), .ref (a4 0), .ref (a5 0), .ref (a6 0), .ref (a7 0), .ref (a8 0), .null, .null, .null, .null, .int 0, .int 0, .int 0]))]) ++ wd E (gRow 10) a1 M00) ++ wd E (gRow 10) a2 M00) ++ wd E (gRow 10) a3 M00) ++ wd E (gRow 4) a4 M00) ++ wd E (gRow 4) a5 M00) ++ wd E (gRow 4) a6 M00) ++ wd E (gRow 4) a7 M00) ++ wd E (gRow 40) a8 M00) H := hP
  have hD : va_D A ((((((((([(h, .inr (3, [.ref (a1 0), .ref (a2 0), .ref (a3 0), .ref (a4 0), .ref (a5 0), .ref (a6 0), .ref (a7 0), .ref (a8 0), .null, .null, .null, .null, .int 0, .int 0, .int 0]))]) ++ wd E (gRow 10) a1 M00) ++ wd E (gRow 10) a2 M00) ++ wd E (gRow 10) a3 M00) ++ wd E (gRow 4) a4 M00) ++ wd E (gRow 4) a5 M00) ++ wd E (gRow 4) a6 M00) ++ wd E (gRow 4) a7 M00) ++ wd E (gRow 40) a8 M00) := hD
  refine lv_aload_n hx hb dX3_init_104 rfl (lv_at hl 0 rfl) ?_
  refine va_new (D := E.1) (ci := 4) (fs := blk 4) (C := RX4) (T := TX4) (N := 1) hx hb hts (by decide +kernel) tyX4 tyX4_ok hown (hts (.classLink RX3 9 RX4) (by decide +kernel)) (hts (.instantiable RX4 1) (by decide +kernel)) (hts (.initialized RX4) (by decide +kernel)) hK.1 hP hD hS hA rfl (fun j hj => by have : j < 1 := hj; match j, this with | 0, _ => rfl) (show 16 + 1 ≤ 24 by omega) (show 1 + 10 + 1 + 10 + 1 + 10 + 1 + 4 + 1 + 4 + 1 + 4 + 1 + 4 + 1 + 40 + 1 ≤ 190 by omega) dX3_init_105 (fun q H hP hD hS => ?_)
  refine lv_dup hx hb dX3_init_108 rfl ?_
  refine r_bipush X dX3_init_109 (by decide) ?_
  refine k_ini (WW := ((((((((([(h, .inr (3, [.ref (a1 0), .ref (a2 0), .ref (a3 0), .ref (a4 0), .ref (a5 0), .ref (a6 0), .ref (a7 0), .ref (a8 0), .null, .null, .null, .null, .int 0, .int 0, .int 0]))]) ++ wd E (gRow 10) a1 M00) ++ wd E (gRow 10) a2 M00) ++ wd E (gRow 10) a3 M00) ++ wd E (gRow 4) a4 M00) ++ wd E (gRow 4) a5 M00) ++ wd E (gRow 4) a6 M00) ++ wd E (gRow 4) a7 M00) ++ wd E (gRow 40) a8 M00)) (gc := (gRow 40)) (Mf := M00) (nc := 1) (ns := 40) hK hP hD hS hA (va_runI (As := [cI (40 : Nat)]) (rest := [.ref q, .ref h]) X (k_X4_init (n := 40) (by decide) q H.size) (cwI 1 hts gX3_init_X4_init rfl rfl rfl (hts (.initialized RX4) (by decide +kernel)) (hts (.methodLink RX3 11 yX4_init) (by decide +kernel)) (hts (.instanceMethod yX4_init) (by decide +kernel)) rfl (by decide +kernel) ⟨Nat.le_of_ble_eq_true rfl, Nat.le_of_ble_eq_true rfl⟩) (k_pre hK hP) rfl rfl hl.1 rfl (lv_room (Nat.le_of_ble_eq_true rfl)) dX3_init_111 ⟨show 16 + 1 + 1 ≤ 24 by omega, show 1 + 10 + 1 + 10 + 1 + 10 + 1 + 4 + 1 + 4 + 1 + 4 + 1 + 4 + 1 + 40 + 1 + 40 ≤ 190 by omega⟩) (fun a9 H locs h0 hPz hDz hSz => ?_)
  refine W.widen (k := 18) (n := 1 + 10 + 1 + 10 + 1 + 10 + 1 + 4 + 1 + 4 + 1 + 4 + 1 + 4 + 1 + 40 + 1 + 40) (by omega) (by omega) ?_
  subst h0
  have hP := hPz
  have hD := hDz
  have hS := hSz
  refine va_putF (D := E.1) (ci := 3) (v := .ref (a9 0)) (ty := .object "LentSounds$Row") (C := RX3) (T := TX3) (N := 15) hx hb hts (by decide +kernel) tyX3 tyX3_ok nmX3 hown hK.1 hP hD hS 0 rfl rfl 8 (by decide) (hts (.fieldLink RX3 41 "LentSounds$Rehearsal" "reasons" "LLentSounds$Row;") (by decide +kernel)) (fun _ h9 => h9) rfl hin rfl (by decide +kernel) rfl rfl (Nat.le_of_ble_eq_true rfl) dX3_init_114 (fun H locs hP hD hS => ?_)
  have hP : va_P E.1 vwCl (((((((((([(h, .inr (3, [.ref (a1 0), .ref (a2 0), .ref (a3 0), .ref (a4 0), .ref (a5 0), .ref (a6 0), .ref (a7 0), .ref (a8 0), .ref (a9 0), .null, .null, .null, .int 0, .int 0, .int 0]))]) ++ wd E (gRow 10) a1 M00) ++ wd E (gRow 10) a2 M00) ++ wd E (gRow 10) a3 M00) ++ wd E (gRow 4) a4 M00) ++ wd E (gRow 4) a5 M00) ++ wd E (gRow 4) a6 M00) ++ wd E (gRow 4) a7 M00) ++ wd E (gRow 40) a8 M00) ++ wd E (gRow 40) a9 M00) H := hP
  have hD : va_D A (((((((((([(h, .inr (3, [.ref (a1 0), .ref (a2 0), .ref (a3 0), .ref (a4 0), .ref (a5 0), .ref (a6 0), .ref (a7 0), .ref (a8 0), .ref (a9 0), .null, .null, .null, .int 0, .int 0, .int 0]))]) ++ wd E (gRow 10) a1 M00) ++ wd E (gRow 10) a2 M00) ++ wd E (gRow 10) a3 M00) ++ wd E (gRow 4) a4 M00) ++ wd E (gRow 4) a5 M00) ++ wd E (gRow 4) a6 M00) ++ wd E (gRow 4) a7 M00) ++ wd E (gRow 40) a8 M00) ++ wd E (gRow 40) a9 M00) := hD
  refine lv_aload_n hx hb dX3_init_117 rfl (lv_at hl 0 rfl) ?_
  refine va_new (D := E.1) (ci := 4) (fs := blk 4) (C := RX4) (T := TX4) (N := 1) hx hb hts (by decide +kernel) tyX4 tyX4_ok hown (hts (.classLink RX3 9 RX4) (by decide +kernel)) (hts (.instantiable RX4 1) (by decide +kernel)) (hts (.initialized RX4) (by decide +kernel)) hK.1 hP hD hS hA rfl (fun j hj => by have : j < 1 := hj; match j, this with | 0, _ => rfl) (show 18 + 1 ≤ 24 by omega) (show 1 + 10 + 1 + 10 + 1 + 10 + 1 + 4 + 1 + 4 + 1 + 4 + 1 + 4 + 1 + 40 + 1 + 40 + 1 ≤ 190 by omega) dX3_init_118 (fun q H hP hD hS => ?_)
  refine lv_dup hx hb dX3_init_121 rfl ?_
  refine r_bipush X dX3_init_122 (by decide) ?_
  refine k_ini (WW := (((((((((([(h, .inr (3, [.ref (a1 0), .ref (a2 0), .ref (a3 0), .ref (a4 0), .ref (a5 0), .ref (a6 0), .ref (a7 0), .ref (a8 0), .ref (a9 0), .null, .null, .null, .int 0, .int 0, .int 0]))]) ++ wd E (gRow 10) a1 M00) ++ wd E (gRow 10) a2 M00) ++ wd E (gRow 10) a3 M00) ++ wd E (gRow 4) a4 M00) ++ wd E (gRow 4) a5 M00) ++ wd E (gRow 4) a6 M00) ++ wd E (gRow 4) a7 M00) ++ wd E (gRow 40) a8 M00) ++ wd E (gRow 40) a9 M00)) (gc := (gRow 40)) (Mf := M00) (nc := 1) (ns := 40) hK hP hD hS hA (va_runI (As := [cI (40 : Nat)]) (rest := [.ref q, .ref h]) X (k_X4_init (n := 40) (by decide) q H.size) (cwI 1 hts gX3_init_X4_init rfl rfl rfl (hts (.initialized RX4) (by decide +kernel)) (hts (.methodLink RX3 11 yX4_init) (by decide +kernel)) (hts (.instanceMethod yX4_init) (by decide +kernel)) rfl (by decide +kernel) ⟨Nat.le_of_ble_eq_true rfl, Nat.le_of_ble_eq_true rfl⟩) (k_pre hK hP) rfl rfl hl.1 rfl (lv_room (Nat.le_of_ble_eq_true rfl)) dX3_init_124 ⟨show 18 + 1 + 1 ≤ 24 by omega, show 1 + 10 + 1 + 10 + 1 + 10 + 1 + 4 + 1 + 4 + 1 + 4 + 1 + 4 + 1 + 40 + 1 + 40 + 1 + 40 ≤ 190 by omega⟩) (fun a10 H locs h0 hPz hDz hSz => ?_)
  refine W.widen (k := 20) (n := 1 + 10 + 1 + 10 + 1 + 10 + 1 + 4 + 1 + 4 + 1 + 4 + 1 + 4 + 1 + 40 + 1 + 40 + 1 + 40) (by omega) (by omega) ?_
  subst h0
  have hP := hPz
  have hD := hDz
  have hS := hSz
  refine va_putF (D := E.1) (ci := 3) (v := .ref (a10 0)) (ty := .object "LentSounds$Row") (C := RX3) (T := TX3) (N := 15) hx hb hts (by decide +kernel) tyX3 tyX3_ok nmX3 hown hK.1 hP hD hS 0 rfl rfl 9 (by decide) (hts (.fieldLink RX3 44 "LentSounds$Rehearsal" "ways" "LLentSounds$Row;") (by decide +kernel)) (fun _ h9 => h9) rfl hin rfl (by decide +kernel) rfl rfl (Nat.le_of_ble_eq_true rfl) dX3_init_127 (fun H locs hP hD hS => ?_)
  have hP : va_P E.1 vwCl ((((((((((([(h, .inr (3, [.ref (a1 0), .ref (a2 0), .ref (a3 0), .ref (a4 0), .ref (a5 0), .ref (a6 0), .ref (a7 0), .ref (a8 0), .ref (a9 0), .ref (a10 0), .null, .null, .int 0, .int 0, .int 0]))]) ++ wd E (gRow 10) a1 M00) ++ wd E (gRow 10) a2 M00) ++ wd E (gRow 10) a3 M00) ++ wd E (gRow 4) a4 M00) ++ wd E (gRow 4) a5 M00) ++ wd E (gRow 4) a6 M00) ++ wd E (gRow 4) a7 M00) ++ wd E (gRow 40) a8 M00) ++ wd E (gRow 40) a9 M00) ++ wd E (gRow 40) a10 M00) H := hP
  have hD : va_D A ((((((((((([(h, .inr (3, [.ref (a1 0), .ref (a2 0), .ref (a3 0), .ref (a4 0), .ref (a5 0), .ref (a6 0), .ref (a7 0), .ref (a8 0), .ref (a9 0), .ref (a10 0), .null, .null, .int 0, .int 0, .int 0]))]) ++ wd E (gRow 10) a1 M00) ++ wd E (gRow 10) a2 M00) ++ wd E (gRow 10) a3 M00) ++ wd E (gRow 4) a4 M00) ++ wd E (gRow 4) a5 M00) ++ wd E (gRow 4) a6 M00) ++ wd E (gRow 4) a7 M00) ++ wd E (gRow 40) a8 M00) ++ wd E (gRow 40) a9 M00) ++ wd E (gRow 40) a10 M00) := hD
  refine lv_aload_n hx hb dX3_init_130 rfl (lv_at hl 0 rfl) ?_
  refine va_new (D := E.1) (ci := 4) (fs := blk 4) (C := RX4) (T := TX4) (N := 1) hx hb hts (by decide +kernel) tyX4 tyX4_ok hown (hts (.classLink RX3 9 RX4) (by decide +kernel)) (hts (.instantiable RX4 1) (by decide +kernel)) (hts (.initialized RX4) (by decide +kernel)) hK.1 hP hD hS hA rfl (fun j hj => by have : j < 1 := hj; match j, this with | 0, _ => rfl) (show 20 + 1 ≤ 24 by omega) (show 1 + 10 + 1 + 10 + 1 + 10 + 1 + 4 + 1 + 4 + 1 + 4 + 1 + 4 + 1 + 40 + 1 + 40 + 1 + 40 + 1 ≤ 190 by omega) dX3_init_131 (fun q H hP hD hS => ?_)
  refine lv_dup hx hb dX3_init_134 rfl ?_
  refine r_bipush X dX3_init_135 (by decide) ?_
  refine k_ini (WW := ((((((((((([(h, .inr (3, [.ref (a1 0), .ref (a2 0), .ref (a3 0), .ref (a4 0), .ref (a5 0), .ref (a6 0), .ref (a7 0), .ref (a8 0), .ref (a9 0), .ref (a10 0), .null, .null, .int 0, .int 0, .int 0]))]) ++ wd E (gRow 10) a1 M00) ++ wd E (gRow 10) a2 M00) ++ wd E (gRow 10) a3 M00) ++ wd E (gRow 4) a4 M00) ++ wd E (gRow 4) a5 M00) ++ wd E (gRow 4) a6 M00) ++ wd E (gRow 4) a7 M00) ++ wd E (gRow 40) a8 M00) ++ wd E (gRow 40) a9 M00) ++ wd E (gRow 40) a10 M00)) (gc := (gRow 6)) (Mf := M00) (nc := 1) (ns := 6) hK hP hD hS hA (va_runI (As := [cI (6 : Nat)]) (rest := [.ref q, .ref h]) X (k_X4_init (n := 6) (by decide) q H.size) (cwI 1 hts gX3_init_X4_init rfl rfl rfl (hts (.initialized RX4) (by decide +kernel)) (hts (.methodLink RX3 11 yX4_init) (by decide +kernel)) (hts (.instanceMethod yX4_init) (by decide +kernel)) rfl (by decide +kernel) ⟨Nat.le_of_ble_eq_true rfl, Nat.le_of_ble_eq_true rfl⟩) (k_pre hK hP) rfl rfl hl.1 rfl (lv_room (Nat.le_of_ble_eq_true rfl)) dX3_init_137 ⟨show 20 + 1 + 1 ≤ 24 by omega, show 1 + 10 + 1 + 10 + 1 + 10 + 1 + 4 + 1 + 4 + 1 + 4 + 1 + 4 + 1 + 40 + 1 + 40 + 1 + 40 + 1 + 6 ≤ 190 by omega⟩) (fun a11 H locs h0 hPz hDz hSz => ?_)
  refine W.widen (k := 22) (n := 1 + 10 + 1 + 10 + 1 + 10 + 1 + 4 + 1 + 4 + 1 + 4 + 1 + 4 + 1 + 40 + 1 + 40 + 1 + 40 + 1 + 6) (by omega) (by omega) ?_
  subst h0
  have hP := hPz
  have hD := hDz
  have hS := hSz
  refine va_putF (D := E.1) (ci := 3) (v := .ref (a11 0)) (ty := .object "LentSounds$Row") (C := RX3) (T := TX3) (N := 15) hx hb hts (by decide +kernel) tyX3 tyX3_ok nmX3 hown hK.1 hP hD hS 0 rfl rfl 10 (by decide) (hts (.fieldLink RX3 47 "LentSounds$Rehearsal" "sceneMisses" "LLentSounds$Row;") (by decide +kernel)) (fun _ h9 => h9) rfl hin rfl (by decide +kernel) rfl rfl (Nat.le_of_ble_eq_true rfl) dX3_init_140 (fun H locs hP hD hS => ?_)
  have hP : va_P E.1 vwCl (((((((((((([(h, .inr (3, [.ref (a1 0), .ref (a2 0), .ref (a3 0), .ref (a4 0), .ref (a5 0), .ref (a6 0), .ref (a7 0), .ref (a8 0), .ref (a9 0), .ref (a10 0), .ref (a11 0), .null, .int 0, .int 0, .int 0]))]) ++ wd E (gRow 10) a1 M00) ++ wd E (gRow 10) a2 M00) ++ wd E (gRow 10) a3 M00) ++ wd E (gRow 4) a4 M00) ++ wd E (gRow 4) a5 M00) ++ wd E (gRow 4) a6 M00) ++ wd E (gRow 4) a7 M00) ++ wd E (gRow 40) a8 M00) ++ wd E (gRow 40) a9 M00) ++ wd E (gRow 40) a10 M00) ++ wd E (gRow 6) a11 M00) H := hP
  have hD : va_D A (((((((((((([(h, .inr (3, [.ref (a1 0), .ref (a2 0), .ref (a3 0), .ref (a4 0), .ref (a5 0), .ref (a6 0), .ref (a7 0), .ref (a8 0), .ref (a9 0), .ref (a10 0), .ref (a11 0), .null, .int 0, .int 0, .int 0]))]) ++ wd E (gRow 10) a1 M00) ++ wd E (gRow 10) a2 M00) ++ wd E (gRow 10) a3 M00) ++ wd E (gRow 4) a4 M00) ++ wd E (gRow 4) a5 M00) ++ wd E (gRow 4) a6 M00) ++ wd E (gRow 4) a7 M00) ++ wd E (gRow 40) a8 M00) ++ wd E (gRow 40) a9 M00) ++ wd E (gRow 40) a10 M00) ++ wd E (gRow 6) a11 M00) := hD
  refine lv_aload_n hx hb dX3_init_143 rfl (lv_at hl 0 rfl) ?_
  refine va_new (D := E.1) (ci := 4) (fs := blk 4) (C := RX4) (T := TX4) (N := 1) hx hb hts (by decide +kernel) tyX4 tyX4_ok hown (hts (.classLink RX3 9 RX4) (by decide +kernel)) (hts (.instantiable RX4 1) (by decide +kernel)) (hts (.initialized RX4) (by decide +kernel)) hK.1 hP hD hS hA rfl (fun j hj => by have : j < 1 := hj; match j, this with | 0, _ => rfl) (show 22 + 1 ≤ 24 by omega) (show 1 + 10 + 1 + 10 + 1 + 10 + 1 + 4 + 1 + 4 + 1 + 4 + 1 + 4 + 1 + 40 + 1 + 40 + 1 + 40 + 1 + 6 + 1 ≤ 190 by omega) dX3_init_144 (fun q H hP hD hS => ?_)
  refine lv_dup hx hb dX3_init_147 rfl ?_
  refine r_bipush X dX3_init_148 (by decide) ?_
  refine k_ini (WW := (((((((((((([(h, .inr (3, [.ref (a1 0), .ref (a2 0), .ref (a3 0), .ref (a4 0), .ref (a5 0), .ref (a6 0), .ref (a7 0), .ref (a8 0), .ref (a9 0), .ref (a10 0), .ref (a11 0), .null, .int 0, .int 0, .int 0]))]) ++ wd E (gRow 10) a1 M00) ++ wd E (gRow 10) a2 M00) ++ wd E (gRow 10) a3 M00) ++ wd E (gRow 4) a4 M00) ++ wd E (gRow 4) a5 M00) ++ wd E (gRow 4) a6 M00) ++ wd E (gRow 4) a7 M00) ++ wd E (gRow 40) a8 M00) ++ wd E (gRow 40) a9 M00) ++ wd E (gRow 40) a10 M00) ++ wd E (gRow 6) a11 M00)) (gc := (gRow 6)) (Mf := M00) (nc := 1) (ns := 6) hK hP hD hS hA (va_runI (As := [cI (6 : Nat)]) (rest := [.ref q, .ref h]) X (k_X4_init (n := 6) (by decide) q H.size) (cwI 1 hts gX3_init_X4_init rfl rfl rfl (hts (.initialized RX4) (by decide +kernel)) (hts (.methodLink RX3 11 yX4_init) (by decide +kernel)) (hts (.instanceMethod yX4_init) (by decide +kernel)) rfl (by decide +kernel) ⟨Nat.le_of_ble_eq_true rfl, Nat.le_of_ble_eq_true rfl⟩) (k_pre hK hP) rfl rfl hl.1 rfl (lv_room (Nat.le_of_ble_eq_true rfl)) dX3_init_150 ⟨show 22 + 1 + 1 ≤ 24 by omega, show 1 + 10 + 1 + 10 + 1 + 10 + 1 + 4 + 1 + 4 + 1 + 4 + 1 + 4 + 1 + 40 + 1 + 40 + 1 + 40 + 1 + 6 + 1 + 6 ≤ 190 by omega⟩) (fun a12 H locs h0 hPz hDz hSz => ?_)
  refine W.widen (k := 24) (n := 1 + 10 + 1 + 10 + 1 + 10 + 1 + 4 + 1 + 4 + 1 + 4 + 1 + 4 + 1 + 40 + 1 + 40 + 1 + 40 + 1 + 6 + 1 + 6) (by omega) (by omega) ?_
  subst h0
  have hP := hPz
  have hD := hDz
  have hS := hSz
  refine va_putF (D := E.1) (ci := 3) (v := .ref (a12 0)) (ty := .object "LentSounds$Row") (C := RX3) (T := TX3) (N := 15) hx hb hts (by decide +kernel) tyX3 tyX3_ok nmX3 hown hK.1 hP hD hS 0 rfl rfl 11 (by decide) (hts (.fieldLink RX3 50 "LentSounds$Rehearsal" "sceneLoans" "LLentSounds$Row;") (by decide +kernel)) (fun _ h9 => h9) rfl hin rfl (by decide +kernel) rfl rfl (Nat.le_of_ble_eq_true rfl) dX3_init_153 (fun H locs hP hD hS => ?_)
  have hP : va_P E.1 vwCl ((((((((((((([(h, .inr (3, [.ref (a1 0), .ref (a2 0), .ref (a3 0), .ref (a4 0), .ref (a5 0), .ref (a6 0), .ref (a7 0), .ref (a8 0), .ref (a9 0), .ref (a10 0), .ref (a11 0), .ref (a12 0), .int 0, .int 0, .int 0]))]) ++ wd E (gRow 10) a1 M00) ++ wd E (gRow 10) a2 M00) ++ wd E (gRow 10) a3 M00) ++ wd E (gRow 4) a4 M00) ++ wd E (gRow 4) a5 M00) ++ wd E (gRow 4) a6 M00) ++ wd E (gRow 4) a7 M00) ++ wd E (gRow 40) a8 M00) ++ wd E (gRow 40) a9 M00) ++ wd E (gRow 40) a10 M00) ++ wd E (gRow 6) a11 M00) ++ wd E (gRow 6) a12 M00) H := hP
  have hD : va_D A ((((((((((((([(h, .inr (3, [.ref (a1 0), .ref (a2 0), .ref (a3 0), .ref (a4 0), .ref (a5 0), .ref (a6 0), .ref (a7 0), .ref (a8 0), .ref (a9 0), .ref (a10 0), .ref (a11 0), .ref (a12 0), .int 0, .int 0, .int 0]))]) ++ wd E (gRow 10) a1 M00) ++ wd E (gRow 10) a2 M00) ++ wd E (gRow 10) a3 M00) ++ wd E (gRow 4) a4 M00) ++ wd E (gRow 4) a5 M00) ++ wd E (gRow 4) a6 M00) ++ wd E (gRow 4) a7 M00) ++ wd E (gRow 40) a8 M00) ++ wd E (gRow 40) a9 M00) ++ wd E (gRow 40) a10 M00) ++ wd E (gRow 6) a11 M00) ++ wd E (gRow 6) a12 M00) := hD
  refine lv_aload_n hx hb dX3_init_156 rfl (lv_at hl 0 rfl) ?_
  refine r_iconst X dX3_init_157 ?_
  refine va_put (D := E.1) (ci := 3) (v := cI 0) (ty := .int) (C := RX3) (T := TX3) (N := 15) hx hb hts (by decide +kernel) tyX3 tyX3_ok nmX3 hown hK.1 hP hD hS 0 rfl rfl 12 (by decide) (hts (.fieldLink RX3 53 "LentSounds$Rehearsal" "hands" "I") (by decide +kernel)) (fun _ h9 => h9) rfl (by decide +kernel) rfl rfl (Nat.le_of_ble_eq_true rfl) dX3_init_158 (fun H locs hP hD hS => ?_)
  have hP : va_P E.1 vwCl ((((((((((((([(h, .inr (3, [.ref (a1 0), .ref (a2 0), .ref (a3 0), .ref (a4 0), .ref (a5 0), .ref (a6 0), .ref (a7 0), .ref (a8 0), .ref (a9 0), .ref (a10 0), .ref (a11 0), .ref (a12 0), cI 0, .int 0, .int 0]))]) ++ wd E (gRow 10) a1 M00) ++ wd E (gRow 10) a2 M00) ++ wd E (gRow 10) a3 M00) ++ wd E (gRow 4) a4 M00) ++ wd E (gRow 4) a5 M00) ++ wd E (gRow 4) a6 M00) ++ wd E (gRow 4) a7 M00) ++ wd E (gRow 40) a8 M00) ++ wd E (gRow 40) a9 M00) ++ wd E (gRow 40) a10 M00) ++ wd E (gRow 6) a11 M00) ++ wd E (gRow 6) a12 M00) H := hP
  have hD : va_D A ((((((((((((([(h, .inr (3, [.ref (a1 0), .ref (a2 0), .ref (a3 0), .ref (a4 0), .ref (a5 0), .ref (a6 0), .ref (a7 0), .ref (a8 0), .ref (a9 0), .ref (a10 0), .ref (a11 0), .ref (a12 0), cI 0, .int 0, .int 0]))]) ++ wd E (gRow 10) a1 M00) ++ wd E (gRow 10) a2 M00) ++ wd E (gRow 10) a3 M00) ++ wd E (gRow 4) a4 M00) ++ wd E (gRow 4) a5 M00) ++ wd E (gRow 4) a6 M00) ++ wd E (gRow 4) a7 M00) ++ wd E (gRow 40) a8 M00) ++ wd E (gRow 40) a9 M00) ++ wd E (gRow 40) a10 M00) ++ wd E (gRow 6) a11 M00) ++ wd E (gRow 6) a12 M00) := hD
  refine lv_aload_n hx hb dX3_init_161 rfl (lv_at hl 0 rfl) ?_
  refine r_iconst X dX3_init_162 ?_
  refine va_put (D := E.1) (ci := 3) (v := cI 0) (ty := .int) (C := RX3) (T := TX3) (N := 15) hx hb hts (by decide +kernel) tyX3 tyX3_ok nmX3 hown hK.1 hP hD hS 0 rfl rfl 13 (by decide) (hts (.fieldLink RX3 57 "LentSounds$Rehearsal" "missedCues" "I") (by decide +kernel)) (fun _ h9 => h9) rfl (by decide +kernel) rfl rfl (Nat.le_of_ble_eq_true rfl) dX3_init_163 (fun H locs hP hD hS => ?_)
  have hP : va_P E.1 vwCl ((((((((((((([(h, .inr (3, [.ref (a1 0), .ref (a2 0), .ref (a3 0), .ref (a4 0), .ref (a5 0), .ref (a6 0), .ref (a7 0), .ref (a8 0), .ref (a9 0), .ref (a10 0), .ref (a11 0), .ref (a12 0), cI 0, cI 0, .int 0]))]) ++ wd E (gRow 10) a1 M00) ++ wd E (gRow 10) a2 M00) ++ wd E (gRow 10) a3 M00) ++ wd E (gRow 4) a4 M00) ++ wd E (gRow 4) a5 M00) ++ wd E (gRow 4) a6 M00) ++ wd E (gRow 4) a7 M00) ++ wd E (gRow 40) a8 M00) ++ wd E (gRow 40) a9 M00) ++ wd E (gRow 40) a10 M00) ++ wd E (gRow 6) a11 M00) ++ wd E (gRow 6) a12 M00) H := hP
  have hD : va_D A ((((((((((((([(h, .inr (3, [.ref (a1 0), .ref (a2 0), .ref (a3 0), .ref (a4 0), .ref (a5 0), .ref (a6 0), .ref (a7 0), .ref (a8 0), .ref (a9 0), .ref (a10 0), .ref (a11 0), .ref (a12 0), cI 0, cI 0, .int 0]))]) ++ wd E (gRow 10) a1 M00) ++ wd E (gRow 10) a2 M00) ++ wd E (gRow 10) a3 M00) ++ wd E (gRow 4) a4 M00) ++ wd E (gRow 4) a5 M00) ++ wd E (gRow 4) a6 M00) ++ wd E (gRow 4) a7 M00) ++ wd E (gRow 40) a8 M00) ++ wd E (gRow 40) a9 M00) ++ wd E (gRow 40) a10 M00) ++ wd E (gRow 6) a11 M00) ++ wd E (gRow 6) a12 M00) := hD
  refine lv_aload_n hx hb dX3_init_166 rfl (lv_at hl 0 rfl) ?_
  refine r_iconst X dX3_init_167 ?_
  refine va_put (D := E.1) (ci := 3) (v := cI 0) (ty := .int) (C := RX3) (T := TX3) (N := 15) hx hb hts (by decide +kernel) tyX3 tyX3_ok nmX3 hown hK.1 hP hD hS 0 rfl rfl 14 (by decide) (hts (.fieldLink RX3 60 "LentSounds$Rehearsal" "missedByEar" "I") (by decide +kernel)) (fun _ h9 => h9) rfl (by decide +kernel) rfl rfl (Nat.le_of_ble_eq_true rfl) dX3_init_168 (fun H locs hP hD hS => ?_)
  have hP : va_P E.1 vwCl ((((((((((((([(h, .inr (3, [.ref (a1 0), .ref (a2 0), .ref (a3 0), .ref (a4 0), .ref (a5 0), .ref (a6 0), .ref (a7 0), .ref (a8 0), .ref (a9 0), .ref (a10 0), .ref (a11 0), .ref (a12 0), cI 0, cI 0, cI 0]))]) ++ wd E (gRow 10) a1 M00) ++ wd E (gRow 10) a2 M00) ++ wd E (gRow 10) a3 M00) ++ wd E (gRow 4) a4 M00) ++ wd E (gRow 4) a5 M00) ++ wd E (gRow 4) a6 M00) ++ wd E (gRow 4) a7 M00) ++ wd E (gRow 40) a8 M00) ++ wd E (gRow 40) a9 M00) ++ wd E (gRow 40) a10 M00) ++ wd E (gRow 6) a11 M00) ++ wd E (gRow 6) a12 M00) H := hP
  have hD : va_D A ((((((((((((([(h, .inr (3, [.ref (a1 0), .ref (a2 0), .ref (a3 0), .ref (a4 0), .ref (a5 0), .ref (a6 0), .ref (a7 0), .ref (a8 0), .ref (a9 0), .ref (a10 0), .ref (a11 0), .ref (a12 0), cI 0, cI 0, cI 0]))]) ++ wd E (gRow 10) a1 M00) ++ wd E (gRow 10) a2 M00) ++ wd E (gRow 10) a3 M00) ++ wd E (gRow 4) a4 M00) ++ wd E (gRow 4) a5 M00) ++ wd E (gRow 4) a6 M00) ++ wd E (gRow 4) a7 M00) ++ wd E (gRow 40) a8 M00) ++ wd E (gRow 40) a9 M00) ++ wd E (gRow 40) a10 M00) ++ wd E (gRow 6) a11 M00) ++ wd E (gRow 6) a12 M00) := hD
  refine W.widen (k := 24) (n := 190) (by omega) (by omega) ?_
  exact W.vret hx hb hr (fun t ht hW => ⟨⟨(fun o => match o with | 0 => h | 1 => a1 0 | 2 => a1 1 | 3 => a2 0 | 4 => a2 1 | 5 => a3 0 | 6 => a3 1 | 7 => a4 0 | 8 => a4 1 | 9 => a5 0 | 10 => a5 1 | 11 => a6 0 | 12 => a6 1 | 13 => a7 0 | 14 => a7 1 | 15 => a8 0 | 16 => a8 1 | 17 => a9 0 | 18 => a9 1 | 19 => a10 0 | 20 => a10 1 | 21 => a11 0 | 22 => a11 1 | 23 => a12 0 | _ => a12 1), rfl, rfl, by rw [ht]; exact hP, hK.warm hW, hD⟩, hS.F ht⟩) hS.2.2 dX3_init_171
end
