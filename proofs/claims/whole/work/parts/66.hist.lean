section
/-! History: its constructor -/
/-- as Cn, where rows of states are made -/
def CnA (E : EE) (l : Launch) (y : MethodName) (ws : List Cond) (rm : Room) (ci : Nat) (gc : GG) (Mf : Mm) (avs : List Value) (nc ns : Nat) : Prop := ∀ h sz : Nat, Met l y ws rm (va_Pc (.ref h :: avs) (fun U => U.heap.size = sz ∧ va_P E.1 vwCl [(h, .inr (ci, blk ci))] U.heap ∧ (Kn E U ∧ va_AO RX5 U) ∧ h < sz)) (va_Qv (fun ad : Nat → Nat => ad 0 = h) (fun ad t => va_P E.1 vwCl (wd E gc ad Mf) t.heap ∧ Kn E t ∧ va_D (fun x => x = h ∨ sz ≤ x) (wd E gc ad Mf)) (fun x => x = h ∨ sz ≤ x)) nc ns (fun x => x = h ∨ sz ≤ x)
/-- the class of a row of states is one -/
theorem cA_uniqR {E : EE} {U : State} {cA : ClassId} (h : va_K E.1 vwCl (tyE E ++ [(cA, .object RX5)]) U) : cA = E.2.2 := by
  obtain ⟨-, -, -, -, -, h3⟩ := (h.2 1 (E.2.2, .object RX5) rfl).2
  obtain ⟨-, -, -, -, -, h4⟩ := (h.2 2 (cA, .object RX5) rfl).2
  exact Option.some.inj (h4.symm.trans h3)
theorem k_preA {E : EE} {s : State} {H : Heap} {WW : va_W} {q ci : Nat} {As : List Value} (K : Kn E s) (hAO : va_AO RX5 s) (hP : va_P E.1 vwCl (WW ++ [(q, .inr (ci, blk ci))]) H) : PreS s H (va_Pc (.ref q :: As) (fun U => U.heap.size = H.size ∧ va_P E.1 vwCl [(q, .inr (ci, blk ci))] U.heap ∧ (Kn E U ∧ va_AO RX5 U) ∧ q < H.size)) (.ref q :: As) := by
  have last : (WW ++ [(q, (.inr (ci, blk ci) : va_E))])[WW.length]? = some (q, .inr (ci, blk ci)) := by simp
  refine ⟨fun a U g mk h => ?_, fun U hU hW => ⟨rfl, by rw [hU], ?_, ⟨K.warm hW, va_AO.moved hW.alike hAO⟩, (hP _ _ last).lt⟩⟩
  · obtain ⟨h0, h1, h2, ⟨h3, h5⟩, h4⟩ := h
    exact ⟨h0, h1, h2, ⟨h3.calling, va_AO.moved (u := U) (U := U.calling g mk a) (Vm.Alike.refl U.vm) h5⟩, h4⟩
  · rw [hU]
    intro k x hx
    have : k = 0 := by
      have := (List.getElem?_eq_some_iff.mp hx).1
      simp at this; omega
    subst this
    cases hx
    exact hP _ _ last
theorem hw_at {E : EE} {h q : Nat} {f : Nat → Option Nat} {RR : va_W} {a : Nat → Nat} : ((HW E h q f ++ RR) ++ wd E gSta a (MS 10 4))[2 + RR.length]? = some (a 0, .inr (5, fv a (MS 10 4 0) 0 0 (sh 5))) := by
  have hlen : (HW E h q f ++ RR).length = 2 + RR.length := by rw [List.length_append]; rfl
  rw [List.getElem?_append_right (by omega), hlen, Nat.sub_self]
  exact wd_obj (g := gSta) (by decide +kernel) (by decide)
set_option maxRecDepth 20000 in
theorem ggX2_init_X5_init : GoodIn wsX2_init wsX5_init := goodIn_r _ [11, 12, 2, 3, 13, 14, 15, 16, 17, 18, 19, 20, 21, 22, 23, 24, 25, 26, 27, 28, 29, 30, 31, 32, 33, 34, 35, 36, 37, 38, 39, 40, 41, 42, 43, 44, 45, 46, 47, 48, 49, 50, 51, 52, 53, 54, 55, 69, 58, 59, 60, 61, 62, 63, 64, 65, 66, 67, 68, 70, 71, 72, 73, 74, 75] (by decide +kernel) (by decide +kernel)
set_option maxRecDepth 20000 in
theorem gX2_init_X5_init : GoodIn wsX2_init (wsX5_init) := ggX2_init_X5_init
theorem dX2_init_0 : decode cX2_init 0 = .ok (.aload_n 0, 1) := by decide +kernel
theorem dX2_init_1 : decode cX2_init 1 = .ok (.invokespecial 3, 3) := by decide +kernel
theorem dX2_init_4 : decode cX2_init 4 = .ok (.aload_n 0, 1) := by decide +kernel
theorem dX2_init_5 : decode cX2_init 5 = .ok (.iconst 4, 1) := by decide +kernel
theorem dX2_init_6 : decode cX2_init 6 = .ok (.anewarray 9, 3) := by decide +kernel
theorem dX2_init_9 : decode cX2_init 9 = .ok (.putfield 11, 3) := by decide +kernel
theorem dX2_init_12 : decode cX2_init 12 = .ok (.aload_n 0, 1) := by decide +kernel
theorem dX2_init_13 : decode cX2_init 13 = .ok (.iconst 0, 1) := by decide +kernel
theorem dX2_init_14 : decode cX2_init 14 = .ok (.putfield 17, 3) := by decide +kernel
theorem dX2_init_17 : decode cX2_init 17 = .ok (.iconst 0, 1) := by decide +kernel
theorem dX2_init_18 : decode cX2_init 18 = .ok (.istore_n 1, 1) := by decide +kernel
theorem dX2_init_19 : decode cX2_init 19 = .ok (.iload_n 1, 1) := by decide +kernel
theorem dX2_init_20 : decode cX2_init 20 = .ok (.aload_n 0, 1) := by decide +kernel
theorem dX2_init_21 : decode cX2_init 21 = .ok (.getfield 11, 3) := by decide +kernel
theorem dX2_init_24 : decode cX2_init 24 = .ok (.arraylength, 1) := by decide +kernel
theorem dX2_init_25 : decode cX2_init 25 = .ok (.if_icmp .ge 22, 3) := by decide +kernel
theorem dX2_init_28 : decode cX2_init 28 = .ok (.aload_n 0, 1) := by decide +kernel
theorem dX2_init_29 : decode cX2_init 29 = .ok (.getfield 11, 3) := by decide +kernel
theorem dX2_init_32 : decode cX2_init 32 = .ok (.iload_n 1, 1) := by decide +kernel
theorem dX2_init_33 : decode cX2_init 33 = .ok (.new 9, 3) := by decide +kernel
theorem dX2_init_36 : decode cX2_init 36 = .ok (.dup, 1) := by decide +kernel
theorem dX2_init_37 : decode cX2_init 37 = .ok (.invokespecial 21, 3) := by decide +kernel
theorem dX2_init_40 : decode cX2_init 40 = .ok (.aastore, 1) := by decide +kernel
theorem dX2_init_41 : decode cX2_init 41 = .ok (.iinc 1 1, 3) := by decide +kernel
theorem dX2_init_44 : decode cX2_init 44 = .ok (.goto (-25), 3) := by decide +kernel
theorem dX2_init_47 : decode cX2_init 47 = .ok (.return_, 1) := by decide +kernel
section
variable {p : Program} {l : Launch} {e : Env} {s : State} {m : MethodId} {args : Array Value} {below : List Frame} {meth : Method} {c : Code} {H H0 : Heap} {locs : List Loc} {cells slots : Nat} {Q : State → Prop} {A : Nat → Prop} {E : EE} {ls : Array Slot} {R : Room}
set_option maxHeartbeats 4000000 in
set_option maxRecDepth 100000 in
theorem hi_step (X : CallFix p m c cX2_init 2 s args wsX2_init RX2) (K : Kn E s) {i : Nat} (hi : i < 4) {h q : Nat} {f : Nat → Option Nat} {RR : va_W} (hl : lv_has ls 2 [(1, cI (i : Int)), (0, .ref h)]) (hP : va_P E.1 vwCl (HW E h q f ++ RR) H) (hD : va_D A (HW E h q f ++ RR)) (hS : va_S A H0 H locs) (hA : ∀ q, H0.size ≤ q → A q) (hc : cells + 18 ≤ R.cells) (hs : slots + 219 ≤ R.slots) (hR : 5 ≤ R.frames ∧ 131 ≤ R.locals)
    (kk : ∀ (a : Nat → Nat) (ls : Array Slot) (H : Heap) (locs : List Loc), lv_has ls 2 [(1, cI ((i + 1 : Nat) : Int)), (0, .ref h)] → va_P E.1 vwCl (HW E h q (va_up f i (some (a 0))) ++ (RR ++ wd E gSta a (MS 10 4))) H → va_D A (HW E h q (va_up f i (some (a 0))) ++ (RR ++ wd E gSta a (MS 10 4))) → va_S A H0 H locs → W p l e R s m args below meth c H locs (cells + 18) (slots + 219) Q (F0 m 19 ls [])) : W p l e R s m args below meth c H locs cells slots Q (F0 m 19 ls []) := by
  refine lv_iload_n X.1 X.2.1 dX2_init_19 rfl (lv_at hl 0 rfl) ?_
  refine lv_aload_n X.1 X.2.1 dX2_init_20 rfl (lv_at hl 1 rfl) ?_
  refine va_get (D := E.1) (ci := 2) (v := .ref q) (C := RX2) (T := TX2) (N := 2) X.1 X.2.1 X.2.2.2.2 (by decide +kernel) X.2.2.2.1 K.1 hP 0 rfl rfl 0 (by decide) (X.2.2.2.2 (.fieldLink RX2 11 "LentSounds$History" "states" "[LLentSounds$State;") (by decide +kernel)) (fun _ h9 => h9) rfl dX2_init_21 ?_
  refine va_alen (a := q) (v := Int32.ofInt 4) X.1 X.2.1 K.1 hP 1 1 rfl tyE1 rfl dX2_init_24 ?_
  refine r_icmp_ge (a := (i : Int)) (b := 4) (tgt := 47) X (inR_s (by omega) (by omega)) (inR_s (by omega) (by omega)) dX2_init_25 (by decide) (fun hge => absurd hge (by omega)) (fun hlt => ?_)
  refine lv_aload_n X.1 X.2.1 dX2_init_28 rfl (lv_at hl 1 rfl) ?_
  refine va_get (D := E.1) (ci := 2) (v := .ref q) (C := RX2) (T := TX2) (N := 2) X.1 X.2.1 X.2.2.2.2 (by decide +kernel) X.2.2.2.1 K.1 hP 0 rfl rfl 0 (by decide) (X.2.2.2.2 (.fieldLink RX2 11 "LentSounds$History" "states" "[LLentSounds$State;") (by decide +kernel)) (fun _ h9 => h9) rfl dX2_init_29 ?_
  refine lv_iload_n X.1 X.2.1 dX2_init_32 rfl (lv_at hl 0 rfl) ?_
  refine va_new (D := E.1) (ci := 5) (fs := blk 5) (C := RX5) (T := TX5) (N := 11) X.1 X.2.1 X.2.2.2.2 (by decide +kernel) tyX5 tyX5_ok X.2.2.2.1 (X.2.2.2.2 (.classLink RX2 9 RX5) (by decide +kernel)) (X.2.2.2.2 (.instantiable RX5 11) (by decide +kernel)) (X.2.2.2.2 (.initialized RX5) (by decide +kernel)) K.1 hP hD hS hA rfl (fun j hj => by have : j < 11 := hj; match j, this with | 0, _ => rfl | 1, _ => rfl | 2, _ => rfl | 3, _ => rfl | 4, _ => rfl | 5, _ => rfl | 6, _ => rfl | 7, _ => rfl | 8, _ => rfl | 9, _ => rfl | 10, _ => rfl) (by omega) (by omega) dX2_init_33 (fun q1 H hP hD hS => ?_)
  refine lv_dup X.1 X.2.1 dX2_init_36 rfl ?_
  refine k_ini (WW := HW E h q f ++ RR) (gc := gSta) (Mf := MS 10 4) (nc := 17) (ns := 208) K hP hD hS hA (va_runI (As := []) (rest := [.ref q1, cI (i : Int), .ref q]) X (k_X5_init q1 H.size) (cwI 0 X.2.2.2.2 gX2_init_X5_init rfl rfl rfl (X.2.2.2.2 (.initialized RX5) (by decide +kernel)) (X.2.2.2.2 (.methodLink RX2 21 yX5_init) (by decide +kernel)) (X.2.2.2.2 (.instanceMethod yX5_init) (by decide +kernel)) rfl (by decide +kernel) ⟨hR.1, hR.2⟩) (k_pre K hP) rfl rfl hl.1 rfl (lv_room (Nat.le_of_ble_eq_true rfl)) dX2_init_37 ⟨by omega, by omega⟩) (fun a H locs h0 hPz hDz hSz => ?_)
  subst h0
  have ei : (Int32.ofInt (i : Int)).toNatClampNeg = i := by rw [cI_cl (by omega) (by omega)]; omega
  refine va_astq (r := (RX5, TX5, 11)) X.1 X.2.1 K.1 hPz hDz hSz 1 1 (2 + RR.length) 5 rfl tyE1 hw_at rfl (cI_in (by omega) (by omega) (by omega)) dX2_init_40 (fun H locs hP hD hS => ?_)
  rw [ei] at hP hD
  have hP : va_P E.1 vwCl (HW E h q (va_up f i (some (a 0))) ++ (RR ++ wd E gSta a (MS 10 4))) H := hP
  have hD : va_D A (HW E h q (va_up f i (some (a 0))) ++ (RR ++ wd E gSta a (MS 10 4))) := hD
  refine r_iinc (lv' := [(1, cI ((i + 1 : Nat) : Int)), (0, .ref h)]) X hl (k := 0) rfl (by decide) dX2_init_41 rfl (fun ls hl => ?_)
  refine lv_goto (tgt := 19) X.1 X.2.1 dX2_init_44 (by decide) ?_
  exact kk a ls H locs hl hP hD hS
end
set_option maxHeartbeats 4000000 in
set_option maxRecDepth 100000 in
theorem k_X2_init {E : EE} {l : Launch} : CnA E l yX2_init wsX2_init ({ frames := 5, cells := 73, slots := 880, locals := 140 }) 2 gHis MHis [] 73 (880) := by
  intro h sz
  refine Met.ofW (cc := cX2_init) (maxL := 2) (ret := none) (by decide) rfl ?_
  intro p e s m args below meth c s₁ B hml hv
  obtain ⟨rfl, hsz, hP, ⟨hK, hAO⟩, hlt⟩ := hv
  have hx := B.exec
  have hb := B.bytes
  have hr := B.returns
  have hts := atoms_spec (ws := wsX2_init) B.pre
  have hown : s.vm.findClass RX2 = some m.cls := findClass_of_methodNamed B.named
  have hlocks := B.notSynchronized
  have hin : meth.name = "<init>" := (name_of_methodNamed B.named B.method).1
  subst hsz
  have hD := one_D (h := h) (sz := s.heap.size) (e := .inr (2, blk 2))
  generalize hAe : (fun x => x = h ∨ s.heap.size ≤ x) = A at hD ⊢
  have hA : ∀ q : Nat, s.heap.size ≤ q → A q := fun q h => by rw [← hAe]; exact Or.inr h
  have hS : va_S A s.heap s.heap [] := va_S.rf
  have hl := lv_entry ([.ref h]) (n := 2) (Nat.le_of_ble_eq_true rfl)
  rw [lg_entry_eq]
  generalize (lg_sl ([.ref h]) ++ List.replicate (2 - (lg_sl ([.ref h])).length) Slot.unset).toArray = ls at hl ⊢
  have hl : lv_has ls 2 [(0, .ref h)] := hl
  have X : CallFix p m c cX2_init 2 s _ wsX2_init RX2 := ⟨hx, hb, hml, hown, hts⟩
  refine lv_aload_n hx hb dX2_init_0 rfl (lv_at hl 0 rfl) ?_
  refine W.objInit hx hb hown (hts (.methodLink RX2 3 objectInit) (by decide +kernel)) (hts (.instanceMethod objectInit) (by decide +kernel)) (hts (.code objectInit ⟨#[0xb1]⟩ 1 none) (by decide +kernel)) rfl (by rw [hml]; exact hl.1) rfl dX2_init_1 (Nat.le_of_ble_eq_true rfl) (Nat.le_of_ble_eq_true rfl) ?_
  refine W.eq (g2 := F0 m 4 ls []) rfl ?_
  refine lv_aload_n hx hb dX2_init_4 rfl (lv_at hl 0 rfl) ?_
  refine r_iconst X dX2_init_5 ?_
  refine va_newq (C := RX5) (N' := 4) hx hb hown (hts (.classLink RX2 9 RX5) (by decide +kernel)) hAO hK.1 hP hD hS hA (by decide +kernel) (by decide +kernel) (by decide) (show 0 + 1 ≤ 73 by omega) (show 0 + 4 ≤ 880 by omega) dX2_init_6 (fun q cA H hK2 hP hD hS => ?_)
  have hcA := cA_uniqR hK2
  subst hcA
  have hP : va_P E.1 vwCl [(h, .inr (2, [.null, .int 0])), (q, .inl (E.2.2, 4, .inr (.inr (.inr (.inr (fun _ => none))))))] H := hP
  have hD : va_D A [(h, .inr (2, [.null, .int 0])), (q, .inl (E.2.2, 4, .inr (.inr (.inr (.inr (fun _ => none))))))] := hD
  refine va_putF (D := E.1) (ci := 2) (v := .ref q) (ty := .array (.object "LentSounds$State")) (C := RX2) (T := TX2) (N := 2) hx hb hts (by decide +kernel) tyX2 tyX2_ok nmX2 hown hK.1 hP hD hS 0 rfl rfl 0 (by decide) (hts (.fieldLink RX2 11 "LentSounds$History" "states" "[LLentSounds$State;") (by decide +kernel)) (fun _ h9 => h9) rfl hin rfl (by decide +kernel) rfl rfl (Nat.le_of_ble_eq_true rfl) dX2_init_9 (fun H locs hP hD hS => ?_)
  have hP : va_P E.1 vwCl [(h, .inr (2, [.ref q, .int 0])), (q, .inl (E.2.2, 4, .inr (.inr (.inr (.inr (fun _ => none))))))] H := hP
  have hD : va_D A [(h, .inr (2, [.ref q, .int 0])), (q, .inl (E.2.2, 4, .inr (.inr (.inr (.inr (fun _ => none))))))] := hD
  refine lv_aload_n hx hb dX2_init_12 rfl (lv_at hl 0 rfl) ?_
  refine r_iconst X dX2_init_13 ?_
  refine va_put (D := E.1) (ci := 2) (v := cI 0) (ty := .int) (C := RX2) (T := TX2) (N := 2) hx hb hts (by decide +kernel) tyX2 tyX2_ok nmX2 hown hK.1 hP hD hS 0 rfl rfl 1 (by decide) (hts (.fieldLink RX2 17 "LentSounds$History" "size" "I") (by decide +kernel)) (fun _ h9 => h9) rfl (by decide +kernel) rfl rfl (Nat.le_of_ble_eq_true rfl) dX2_init_14 (fun H locs hP hD hS => ?_)
  have hP : va_P E.1 vwCl (HW E h q (fun _ => none) ++ []) H := hP
  have hD : va_D A (HW E h q (fun _ => none) ++ []) := hD
  refine r_iconst X dX2_init_17 ?_
  refine lv_istore_n (lv' := [(1, cI ((0 : Nat) : Int)), (0, .ref h)]) hx hb dX2_init_18 rfl hl (by decide) rfl (fun ls hl => ?_)
  refine hi_step (i := 0) X hK (by decide) hl hP hD hS hA (show 0 + 1 + 18 ≤ 73 by omega) (show 0 + 4 + 219 ≤ 880 by omega) ⟨Nat.le_of_ble_eq_true rfl, Nat.le_of_ble_eq_true rfl⟩ (fun a0 ls H locs hl hP hD hS => ?_)
  refine W.widen (k := 0 + 1 + 18) (n := 0 + 4 + 219) (by omega) (by omega) ?_
  refine hi_step (i := 1) X hK (by decide) hl hP hD hS hA (show 0 + 1 + 36 ≤ 73 by omega) (show 0 + 4 + 438 ≤ 880 by omega) ⟨Nat.le_of_ble_eq_true rfl, Nat.le_of_ble_eq_true rfl⟩ (fun a1 ls H locs hl hP hD hS => ?_)
  refine W.widen (k := 0 + 1 + 36) (n := 0 + 4 + 438) (by omega) (by omega) ?_
  refine hi_step (i := 2) X hK (by decide) hl hP hD hS hA (show 0 + 1 + 54 ≤ 73 by omega) (show 0 + 4 + 657 ≤ 880 by omega) ⟨Nat.le_of_ble_eq_true rfl, Nat.le_of_ble_eq_true rfl⟩ (fun a2 ls H locs hl hP hD hS => ?_)
  refine W.widen (k := 0 + 1 + 54) (n := 0 + 4 + 657) (by omega) (by omega) ?_
  refine hi_step (i := 3) X hK (by decide) hl hP hD hS hA (show 0 + 1 + 72 ≤ 73 by omega) (show 0 + 4 + 876 ≤ 880 by omega) ⟨Nat.le_of_ble_eq_true rfl, Nat.le_of_ble_eq_true rfl⟩ (fun a3 ls H locs hl hP hD hS => ?_)
  refine W.widen (k := 0 + 1 + 72) (n := 0 + 4 + 876) (by omega) (by omega) ?_
  refine lv_iload_n hx hb dX2_init_19 rfl (lv_at hl 0 rfl) ?_
  refine lv_aload_n hx hb dX2_init_20 rfl (lv_at hl 1 rfl) ?_
  refine va_get (D := E.1) (ci := 2) (v := .ref q) (C := RX2) (T := TX2) (N := 2) hx hb hts (by decide +kernel) hown hK.1 hP 0 rfl rfl 0 (by decide) (hts (.fieldLink RX2 11 "LentSounds$History" "states" "[LLentSounds$State;") (by decide +kernel)) (fun _ h9 => h9) rfl dX2_init_21 ?_
  refine va_alen (a := q) (v := Int32.ofInt 4) hx hb hK.1 hP 1 1 rfl tyE1 rfl dX2_init_24 ?_
  refine r_icmp_ge (a := ((4 : Nat) : Int)) (b := 4) (tgt := 47) X (inR_s (by omega) (by omega)) (inR_s (by omega) (by omega)) dX2_init_25 (by decide) (fun hge => ?_) (fun hlt => absurd hlt (by omega))
  have hQ := P_refs (k := 1) (n := 4) (f := va_up (va_up (va_up (va_up (fun _ => none) 0 (some (a0 0))) 1 (some (a1 0))) 2 (some (a2 0))) 3 (some (a3 0))) (f' := fun j : Nat => some (adH h q a0 a1 a2 a3 (rHis j).toNat)) hP rfl (fun j hj => hw_end (h := h) (q := q) hj rfl)
  have hE := hD.set (p := 1) (e := .inl (E.2.2, 4, .inr (.inr (.inr (.inr (fun j : Nat => some (adH h q a0 a1 a2 a3 (rHis j).toNat))))))) rfl
  have hP : va_P E.1 vwCl (wd E gHis (adH h q a0 a1 a2 a3) MHis) H := by rw [wd_gHis]; exact hQ
  have hD : va_D A (wd E gHis (adH h q a0 a1 a2 a3) MHis) := by rw [wd_gHis]; exact hE
  refine W.widen (k := 73) (n := 880) (by omega) (by omega) ?_
  exact W.vret hx hb hr (fun t ht hW => ⟨⟨adH h q a0 a1 a2 a3, rfl, rfl, by rw [ht]; exact hP, hK.warm hW, hD⟩, hS.F ht⟩) hS.2.2 dX2_init_47
end
