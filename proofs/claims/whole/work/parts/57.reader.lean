section
/-! the reader of cues: its constructor -/
set_option maxRecDepth 20000 in
theorem ggX1_init_X0_init : GoodIn wsX1_init wsX0_init := goodIn_r _ [13, 14, 2, 3, 15, 16, 17, 18, 19, 20, 21, 22, 23, 24, 25, 26, 27, 28, 29, 30, 31, 32, 33, 34, 35, 36, 37, 38, 39, 44] (by decide +kernel) (by decide +kernel)
set_option maxRecDepth 20000 in
theorem gX1_init_X0_init : GoodIn wsX1_init (wsX0_init) := ggX1_init_X0_init
theorem dX1_init_0 : decode cX1_init 0 = .ok (.aload_n 0, 1) := by decide +kernel
theorem dX1_init_1 : decode cX1_init 1 = .ok (.invokespecial 3, 3) := by decide +kernel
theorem dX1_init_4 : decode cX1_init 4 = .ok (.aload_n 0, 1) := by decide +kernel
theorem dX1_init_5 : decode cX1_init 5 = .ok (.new 9, 3) := by decide +kernel
theorem dX1_init_8 : decode cX1_init 8 = .ok (.dup, 1) := by decide +kernel
theorem dX1_init_9 : decode cX1_init 9 = .ok (.bipush 100, 2) := by decide +kernel
theorem dX1_init_11 : decode cX1_init 11 = .ok (.invokespecial 11, 3) := by decide +kernel
theorem dX1_init_14 : decode cX1_init 14 = .ok (.putfield 14, 3) := by decide +kernel
theorem dX1_init_17 : decode cX1_init 17 = .ok (.aload_n 0, 1) := by decide +kernel
theorem dX1_init_18 : decode cX1_init 18 = .ok (.iconst 0, 1) := by decide +kernel
theorem dX1_init_19 : decode cX1_init 19 = .ok (.putfield 20, 3) := by decide +kernel
theorem dX1_init_22 : decode cX1_init 22 = .ok (.aload_n 0, 1) := by decide +kernel
theorem dX1_init_23 : decode cX1_init 23 = .ok (.iconst 0, 1) := by decide +kernel
theorem dX1_init_24 : decode cX1_init 24 = .ok (.putfield 24, 3) := by decide +kernel
theorem dX1_init_27 : decode cX1_init 27 = .ok (.aload_n 0, 1) := by decide +kernel
theorem dX1_init_28 : decode cX1_init 28 = .ok (.iconst 0, 1) := by decide +kernel
theorem dX1_init_29 : decode cX1_init 29 = .ok (.putfield 28, 3) := by decide +kernel
theorem dX1_init_32 : decode cX1_init 32 = .ok (.return_, 1) := by decide +kernel
def gRdr : GG := [(1, 0), (0, 0), (4, 0), (9, 100), (4, 0), (9, 100), (4, 0), (9, 100), (4, 0), (9, 100)]
def MRdr : Mm := fun o k => if o = 1 ∧ k = 0 then 100 else 0
set_option maxHeartbeats 4000000 in
set_option maxRecDepth 100000 in
theorem k_X1_init {E : EE} {l : Launch} : Cn E l yX1_init wsX1_init ({ frames := 4, cells := 9, slots := 410, locals := 100 }) 1 gRdr MRdr [] 9 (410) := by
  intro h sz
  refine Met.ofW (cc := cX1_init) (maxL := 1) (ret := none) (by decide) rfl ?_
  intro p e s m args below meth c s₁ B hml hv
  obtain ⟨rfl, hsz, hP, hK, hlt⟩ := hv
  have hx := B.exec
  have hb := B.bytes
  have hr := B.returns
  have hts := atoms_spec (ws := wsX1_init) B.pre
  have hown : s.vm.findClass RX1 = some m.cls := findClass_of_methodNamed B.named
  have hlocks := B.notSynchronized
  have hin : meth.name = "<init>" := (name_of_methodNamed B.named B.method).1
  subst hsz
  have hD := one_D (h := h) (sz := s.heap.size) (e := .inr (1, blk 1))
  generalize hAe : (fun x => x = h ∨ s.heap.size ≤ x) = A at hD ⊢
  have hA : ∀ q : Nat, s.heap.size ≤ q → A q := fun q h => by rw [← hAe]; exact Or.inr h
  have hS : va_S A s.heap s.heap [] := va_S.rf
  have hl := lv_entry ([.ref h]) (n := 1) (Nat.le_of_ble_eq_true rfl)
  rw [lg_entry_eq]
  generalize (lg_sl ([.ref h]) ++ List.replicate (1 - (lg_sl ([.ref h])).length) Slot.unset).toArray = ls at hl ⊢
  have hl : lv_has ls 1 [(0, .ref h)] := hl
  have X : CallFix p m c cX1_init 1 s _ wsX1_init RX1 := ⟨hx, hb, hml, hown, hts⟩
  refine lv_aload_n hx hb dX1_init_0 rfl (lv_at hl 0 rfl) ?_
  refine W.objInit hx hb hown (hts (.methodLink RX1 3 objectInit) (by decide +kernel)) (hts (.instanceMethod objectInit) (by decide +kernel)) (hts (.code objectInit ⟨#[0xb1]⟩ 1 none) (by decide +kernel)) rfl (by rw [hml]; exact hl.1) rfl dX1_init_1 (Nat.le_of_ble_eq_true rfl) (Nat.le_of_ble_eq_true rfl) ?_
  refine W.eq (g2 := F0 m 4 ls []) rfl ?_
  refine lv_aload_n hx hb dX1_init_4 rfl (lv_at hl 0 rfl) ?_
  refine va_new (D := E.1) (ci := 0) (fs := blk 0) (C := RX0) (T := TX0) (N := 6) hx hb hts (by decide +kernel) tyX0 tyX0_ok hown (hts (.classLink RX1 9 RX0) (by decide +kernel)) (hts (.instantiable RX0 6) (by decide +kernel)) (hts (.initialized RX0) (by decide +kernel)) hK.1 hP hD hS hA rfl (fun j hj => by have : j < 6 := hj; match j, this with | 0, _ => rfl | 1, _ => rfl | 2, _ => rfl | 3, _ => rfl | 4, _ => rfl | 5, _ => rfl) (show 0 + 1 ≤ 9 by omega) (show 0 + 6 ≤ 410 by omega) dX1_init_5 (fun q H hP hD hS => ?_)
  refine lv_dup hx hb dX1_init_8 rfl ?_
  refine r_bipush X dX1_init_9 (by decide) ?_
  refine k_ini (WW := ([(h, .inr (1, [.null, .int 0, .int 0, .int 0]))])) (gc := (gCue 100)) (Mf := (M0C 100)) (nc := 8) (ns := (4 * 100 + 4)) hK hP hD hS hA (va_runI (As := [cI (100 : Nat)]) (rest := [.ref q, .ref h]) X (k_X0_init (n := 100) (by decide) q H.size) (cwI 1 hts gX1_init_X0_init rfl rfl rfl (hts (.initialized RX0) (by decide +kernel)) (hts (.methodLink RX1 11 yX0_init) (by decide +kernel)) (hts (.instanceMethod yX0_init) (by decide +kernel)) rfl (by decide +kernel) ⟨Nat.le_of_ble_eq_true rfl, Nat.le_of_ble_eq_true rfl⟩) (k_pre hK hP) rfl rfl hl.1 rfl (lv_room (Nat.le_of_ble_eq_true rfl)) dX1_init_11 ⟨show 0 + 1 + 8 ≤ 9 by omega, show 0 + 6 + (4 * 100 + 4) ≤ 410 by omega⟩) (fun a1 H locs h0 hPz hDz hSz => ?_)
  refine W.widen (k := 9) (n := 6 + (4 * 100 + 4)) (by omega) (by omega) ?_
  subst h0
  have hP := hPz
  have hD := hDz
  have hS := hSz
  refine va_putF (D := E.1) (ci := 1) (v := .ref (a1 0)) (ty := .object "LentSounds$CueList") (C := RX1) (T := TX1) (N := 4) hx hb hts (by decide +kernel) tyX1 tyX1_ok nmX1 hown hK.1 hP hD hS 0 rfl rfl 0 (by decide) (hts (.fieldLink RX1 14 "LentSounds$CueReader" "drafts" "LLentSounds$CueList;") (by decide +kernel)) (fun _ h9 => h9) rfl hin rfl (by decide +kernel) rfl rfl (Nat.le_of_ble_eq_true rfl) dX1_init_14 (fun H locs hP hD hS => ?_)
  have hP : va_P E.1 vwCl (([(h, .inr (1, [.ref (a1 0), .int 0, .int 0, .int 0]))]) ++ wd E (gCue 100) a1 (M0C 100)) H := hP
  have hD : va_D A (([(h, .inr (1, [.ref (a1 0), .int 0, .int 0, .int 0]))]) ++ wd E (gCue 100) a1 (M0C 100)) := hD
  refine lv_aload_n hx hb dX1_init_17 rfl (lv_at hl 0 rfl) ?_
  refine r_iconst X dX1_init_18 ?_
  refine va_put (D := E.1) (ci := 1) (v := cI 0) (ty := .int) (C := RX1) (T := TX1) (N := 4) hx hb hts (by decide +kernel) tyX1 tyX1_ok nmX1 hown hK.1 hP hD hS 0 rfl rfl 1 (by decide) (hts (.fieldLink RX1 20 "LentSounds$CueReader" "position" "I") (by decide +kernel)) (fun _ h9 => h9) rfl (by decide +kernel) rfl rfl (Nat.le_of_ble_eq_true rfl) dX1_init_19 (fun H locs hP hD hS => ?_)
  have hP : va_P E.1 vwCl (([(h, .inr (1, [.ref (a1 0), cI 0, .int 0, .int 0]))]) ++ wd E (gCue 100) a1 (M0C 100)) H := hP
  have hD : va_D A (([(h, .inr (1, [.ref (a1 0), cI 0, .int 0, .int 0]))]) ++ wd E (gCue 100) a1 (M0C 100)) := hD
  refine lv_aload_n hx hb dX1_init_22 rfl (lv_at hl 0 rfl) ?_
  refine r_iconst X dX1_init_23 ?_
  refine va_put (D := E.1) (ci := 1) (v := cI 0) (ty := .boolean) (C := RX1) (T := TX1) (N := 4) hx hb hts (by decide +kernel) tyX1 tyX1_ok nmX1 hown hK.1 hP hD hS 0 rfl rfl 2 (by decide) (hts (.fieldLink RX1 24 "LentSounds$CueReader" "faulty" "Z") (by decide +kernel)) (fun _ h9 => h9) rfl (by decide +kernel) rfl rfl (Nat.le_of_ble_eq_true rfl) dX1_init_24 (fun H locs hP hD hS => ?_)
  have hP : va_P E.1 vwCl (([(h, .inr (1, [.ref (a1 0), cI 0, cI 0, .int 0]))]) ++ wd E (gCue 100) a1 (M0C 100)) H := hP
  have hD : va_D A (([(h, .inr (1, [.ref (a1 0), cI 0, cI 0, .int 0]))]) ++ wd E (gCue 100) a1 (M0C 100)) := hD
  refine lv_aload_n hx hb dX1_init_27 rfl (lv_at hl 0 rfl) ?_
  refine r_iconst X dX1_init_28 ?_
  refine va_put (D := E.1) (ci := 1) (v := cI 0) (ty := .boolean) (C := RX1) (T := TX1) (N := 4) hx hb hts (by decide +kernel) tyX1 tyX1_ok nmX1 hown hK.1 hP hD hS 0 rfl rfl 3 (by decide) (hts (.fieldLink RX1 28 "LentSounds$CueReader" "foundTwice" "Z") (by decide +kernel)) (fun _ h9 => h9) rfl (by decide +kernel) rfl rfl (Nat.le_of_ble_eq_true rfl) dX1_init_29 (fun H locs hP hD hS => ?_)
  have hP : va_P E.1 vwCl (([(h, .inr (1, [.ref (a1 0), cI 0, cI 0, cI 0]))]) ++ wd E (gCue 100) a1 (M0C 100)) H := hP
  have hD : va_D A (([(h, .inr (1, [.ref (a1 0), cI 0, cI 0, cI 0]))]) ++ wd E (gCue 100) a1 (M0C 100)) := hD
  refine W.widen (k := 9) (n := 410) (by omega) (by omega) ?_
  exact W.vret hx hb hr (fun t ht hW => ⟨⟨(fun o => match o with | 0 => h | o + 1 => a1 o), rfl, rfl, by rw [ht]; exact hP, hK.warm hW, hD⟩, hS.F ht⟩) hS.2.2 dX1_init_32
end
