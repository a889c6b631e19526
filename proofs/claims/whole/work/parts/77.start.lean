section
/-! the law, from its entry -/
/-- the classes of the launch -/
theorem mk_E {s : State} {args : Array Value} (hts : ∀ w ∈ lw_tbl, w.before args s = true) : ∃ E : EE, Kn E s ∧ va_AO RX5 s := by
  have htl : ∀ w ∈ wsL_law, w.before args s = true := fun w h => hts w (wsL_law_in w h)
  obtain ⟨c0, i0, k0⟩ := u_known (C := RX0) (T := TX0) (N := 6) (n := 6) htl inlX0 (htl (.instantiable RX0 6) (List.mem_of_getElem? (i := 46) rfl))
  obtain ⟨c1, i1, k1⟩ := u_known (C := RX1) (T := TX1) (N := 4) (n := 4) htl inlX1 (htl (.instantiable RX1 4) (List.mem_of_getElem? (i := 26) rfl))
  obtain ⟨c2, i2, k2⟩ := u_known (C := RX2) (T := TX2) (N := 2) (n := 2) htl inlX2 (htl (.instantiable RX2 2) (List.mem_of_getElem? (i := 18) rfl))
  obtain ⟨c3, i3, k3⟩ := u_known (C := RX3) (T := TX3) (N := 15) (n := 15) htl inlX3 (htl (.instantiable RX3 15) (List.mem_of_getElem? (i := 30) rfl))
  obtain ⟨c4, i4, k4⟩ := u_known (C := RX4) (T := TX4) (N := 1) (n := 1) htl inlX4 (htl (.instantiable RX4 1) (List.mem_of_getElem? (i := 39) rfl))
  obtain ⟨c5, i5, k5⟩ := u_known (C := RX5) (T := TX5) (N := 11) (n := 11) htl inlX5 (htl (.instantiable RX5 11) (List.mem_of_getElem? (i := 13) rfl))
  obtain ⟨c6, i6, k6⟩ := u_known (C := RX6) (T := TX6) (N := 2) (n := 2) htl inlX6 (htl (.instantiable RX6 2) (List.mem_of_getElem? (i := 22) rfl))
  obtain ⟨c7, i7, k7⟩ := u_known (C := RX7) (T := TX7) (N := 7) (n := 7) htl inlX7 (htl (.instantiable RX7 7) (List.mem_of_getElem? (i := 1) rfl))
  obtain ⟨c8, i8, k8⟩ := u_known (C := RX8) (T := TX8) (N := 25) (n := 25) htl inlX8 (htl (.instantiable RX8 25) (List.mem_of_getElem? (i := 4) rfl))
  obtain ⟨c9, k9, p9, f1, f2, f3⟩ := Cond.arrayClass_spec (htl (.arrayClass .int) (List.mem_of_getElem? (i := 63) rfl))
  have hAO : va_AO RX5 s := va_AO.of (hts _ li_AO)
  obtain ⟨p10, c10, k10, g1, g2, g3, g4, g5⟩ := Cond.arrayOver_spec (hts _ li_AO)
  refine ⟨((fun k => match k with | 0 => c0 | 1 => c1 | 2 => c2 | 3 => c3 | 4 => c4 | 5 => c5 | 6 => c6 | 7 => c7 | _ => c8, fun k => match k with | 0 => i0 | 1 => i1 | 2 => i2 | 3 => i3 | 4 => i4 | 5 => i5 | 6 => i6 | 7 => i7 | _ => i8), c9, c10), ⟨⟨fun k q hq => ?_, fun k q hq => ?_⟩, fun w hw => ?_, fun w hw => ?_⟩, hAO⟩
  · match k, hq with
    | 0, hq => cases hq; exact k0
    | 1, hq => cases hq; exact k1
    | 2, hq => cases hq; exact k2
    | 3, hq => cases hq; exact k3
    | 4, hq => cases hq; exact k4
    | 5, hq => cases hq; exact k5
    | 6, hq => cases hq; exact k6
    | 7, hq => cases hq; exact k7
    | 8, hq => cases hq; exact k8
    | k + 9, hq => simp at hq
  · match k, hq with
    | 0, hq => cases hq; exact ⟨fun n z => ⟨fun k h => (by cases h), k9, f2, p9, f3⟩, f1⟩
    | 1, hq => cases hq; exact ⟨fun n z => ⟨fun k h => (by cases h), k10, g3, p10, g4⟩, k10, p10, g3, g4, g1, g5⟩
    | k + 2, hq => simp [tyE] at hq
  · have h := li_nsF w hw
    obtain ⟨a, i, b, n, d, hh, rfl⟩ := isF_ok w hw
    exact va_Nw.of rfl (hts _ h)
  · have h := li_nsM w hw
    obtain ⟨a, i, x, hh, rfl⟩ := isM_ok w hw
    exact va_Nw.of rfl (hts _ h)
theorem blk_7 : ∀ j, j < 7 → defaultValue (tyX7 j) = vp_V (blk 7) j := by
  intro j hj
  have h : j = 0 ∨ j = 1 ∨ j = 2 ∨ j = 3 ∨ j = 4 ∨ j = 5 ∨ j = 6 := by omega
  rcases h with rfl | rfl | rfl | rfl | rfl | rfl | rfl <;> rfl
theorem blk_8 : ∀ j, j < 25 → defaultValue (tyX8 j) = vp_V (blk 8) j := by
  intro j hj
  have h : j = 0 ∨ j = 1 ∨ j = 2 ∨ j = 3 ∨ j = 4 ∨ j = 5 ∨ j = 6 ∨ j = 7 ∨ j = 8 ∨ j = 9 ∨ j = 10 ∨ j = 11 ∨ j = 12 ∨ j = 13 ∨ j = 14 ∨ j = 15 ∨ j = 16 ∨ j = 17 ∨ j = 18 ∨ j = 19 ∨ j = 20 ∨ j = 21 ∨ j = 22 ∨ j = 23 ∨ j = 24 := by omega
  rcases h with rfl | rfl | rfl | rfl | rfl | rfl | rfl | rfl | rfl | rfl | rfl | rfl | rfl | rfl | rfl | rfl | rfl | rfl | rfl | rfl | rfl | rfl | rfl | rfl | rfl <;> rfl
set_option maxHeartbeats 4000000 in
set_option maxRecDepth 100000 in
theorem whole_start {p : Program} {e : Env} {s : State} {m : MethodId} {below : List Frame} {meth : Method} {c : Code} (l : Launch) (hflags : l.flags = flags0) {b L : Nat} {xs : Nat → Int32} (hL : L ≤ 2048) (C0 : lw_At p s m meth c b L xs) : W p l e room_1 s m #[Value.ref b] below meth c s.heap [] 0 0 (lw_Z below #[Value.ref b] s) (entryFrame m ([Value.ref b] : List Value).toArray 4) := by
  obtain ⟨hx, hb, hr, hml, hown, hts, hX, hbl, hlocks, hgv⟩ := C0
  have htl : ∀ w ∈ wsL_law, w.before #[Value.ref b] s = true := fun w h => hts w (wsL_law_in w h)
  have hown : s.vm.findClass RL = some m.cls := hown
  obtain ⟨E, hK, hAO⟩ := mk_E hts
  have X : CallFix p m c code 4 s #[Value.ref b] wsL_law RL := ⟨hx, hb, hml, hown, htl⟩
  have hA : ∀ q : Nat, s.heap.size ≤ q → Fr s q := fun _ h => h
  have hS : va_S (Fr s) s.heap s.heap [] := va_S.rf
  have hP : va_P E.1 vwCl [] s.heap := fun k q h => by simp at h
  have hD : va_D (Fr s) [] := ⟨fun i j p q h => by simp at h, fun k q h => by simp at h⟩
  have hl := lv_entry ([.ref b]) (n := 4) (Nat.le_of_ble_eq_true rfl)
  rw [lg_entry_eq]
  generalize (lg_sl ([.ref b]) ++ List.replicate (4 - (lg_sl ([.ref b])).length) Slot.unset).toArray = ls at hl ⊢
  have hl : lv_has ls 4 [(0, .ref b)] := hl
  refine va_new (D := E.1) (ci := 7) (fs := blk 7) (C := RX7) (T := TX7) (N := 7) hx hb htl inlX7 tyX7 tyX7_ok hown (htl (.classLink RL 7 RX7) (List.mem_of_getElem? (i := 0) rfl)) (htl (.instantiable RX7 7) (List.mem_of_getElem? (i := 1) rfl)) (htl (.initialized RX7) (List.mem_of_getElem? (i := 2) rfl)) hK.1 hP hD hS hA rfl (blk_7) (Nat.le_of_ble_eq_true rfl) (Nat.le_of_ble_eq_true rfl) dL_law_0 (fun q H hP hD hS => ?_)
  refine lv_dup hx hb dL_law_3 rfl ?_
  refine k_ini (WW := []) (gc := gC) (Mf := MC0) (nc := 148) (ns := 2002) hK hP hD hS hA (va_runI (As := []) (rest := [.ref q]) X (k_X7_init q H.size) (cwI 0 htl gL_law_X7_init rfl rfl rfl (htl (.initialized RX7) (List.mem_of_getElem? (i := 2) rfl)) (htl (.methodLink RL 9 yX7_init) (List.mem_of_getElem? (i := 6) rfl)) (htl (.instanceMethod yX7_init) (List.mem_of_getElem? (i := 7) rfl)) rfl (by decide +kernel) ⟨Nat.le_of_ble_eq_true rfl, Nat.le_of_ble_eq_true rfl⟩) (k_preA hK hAO hP) rfl rfl hl.1 rfl (lv_room (Nat.le_of_ble_eq_true rfl)) dL_law_4 ⟨Nat.le_of_ble_eq_true rfl, Nat.le_of_ble_eq_true rfl⟩) (fun ad H locs h0 hPz hDz hSz => ?_)
  refine W.widen (k := 149) (n := 2009) (by omega) (by omega) ?_
  subst h0
  have hP : va_P E.1 vwCl (wd E gC ad MC0) H := hPz
  have hD : va_D (Fr s) (wd E gC ad MC0) := hDz
  have hS := hSz
  refine lv_astore_n (lv' := [(1, .ref (ad 0)), (0, .ref b)]) hx hb dL_law_7 rfl hl (by decide) rfl (fun ls hl => ?_)
  refine va_new (D := E.1) (ci := 8) (fs := blk 8) (C := RX8) (T := TX8) (N := 25) hx hb htl inlX8 tyX8 tyX8_ok hown (htl (.classLink RL 10 RX8) (List.mem_of_getElem? (i := 3) rfl)) (htl (.instantiable RX8 25) (List.mem_of_getElem? (i := 4) rfl)) (htl (.initialized RX8) (List.mem_of_getElem? (i := 5) rfl)) hK.1 hP hD hS hA rfl (blk_8) (Nat.le_of_ble_eq_true rfl) (Nat.le_of_ble_eq_true rfl) dL_law_8 (fun q H hP hD hS => ?_)
  refine lv_dup hx hb dL_law_11 rfl ?_
  refine k_ini (WW := wd E gC ad MC0) (gc := gM) (Mf := (MN 10 4 2 2)) (nc := 17) (ns := 1924) hK hP hD hS hA (va_runI (As := []) (rest := [.ref q]) X (k_X8_init q H.size) (cwI 0 htl gL_law_X8_init rfl rfl rfl (htl (.initialized RX8) (List.mem_of_getElem? (i := 5) rfl)) (htl (.methodLink RL 12 yX8_init) (List.mem_of_getElem? (i := 125) rfl)) (htl (.instanceMethod yX8_init) (List.mem_of_getElem? (i := 126) rfl)) rfl (by decide +kernel) ⟨Nat.le_of_ble_eq_true rfl, Nat.le_of_ble_eq_true rfl⟩) (k_pre hK hP) rfl rfl hl.1 rfl (lv_room (Nat.le_of_ble_eq_true rfl)) dL_law_12 ⟨Nat.le_of_ble_eq_true rfl, Nat.le_of_ble_eq_true rfl⟩) (fun bd H locs h0 hPz hDz hSz => ?_)
  refine W.widen (k := 167) (n := 3958) (by omega) (by omega) ?_
  subst h0
  have hP := hPz
  have hD := hDz
  have hS := hSz
  refine lv_astore_n (lv' := [(2, .ref (bd 0)), (1, .ref (ad 0)), (0, .ref b)]) hx hb dL_law_15 rfl hl (by decide) rfl (fun ls hl => ?_)
  refine r_iconst X dL_law_16 ?_
  refine lv_istore_n (lv' := [(3, cI ((0 : Nat) : Int)), (2, .ref (bd 0)), (1, .ref (ad 0)), (0, .ref b)]) hx hb dL_law_17 rfl hl (by decide) rfl (fun ls hl => ?_)
  exact law_loop (ad := ad) (bd := bd) ⟨X, hK, hX, hbl, hL⟩ hr hlocks ⟨Nat.le_of_ble_eq_true rfl, Nat.le_of_ble_eq_true rfl⟩ (L + 5) 0 MC0 (MN 10 4 2 2) H _ ls (by omega) (by omega) INV_0 (lv_sub hl [3, 2, 1, 0] rfl) hP hD hS
end
