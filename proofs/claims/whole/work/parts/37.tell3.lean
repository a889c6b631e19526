/-! PURE: missed, ifHands, cleanTakes, count -/
noncomputable def fM (T : Mm) (n : Int) : Nat → Int → Int
  | 0, _ => -5
  | m + 1, r => if T 9 (n - (m + 1 : Nat)) = 0 then fM T n m r else if r = 0 then n - (m + 1 : Nat) else fM T n m (r - 1)
noncomputable def F_missed (r : Int) (a : Int → Int) : Int := if r < 0 then -2 else fM (Tf a) (a 36) (a 36).toNat r
theorem ms_c {M : Mm} {Q : Int → Mm → Prop} {a : Int → Int} {r : Int} (hV : VR a) (hr : inR r) (hT : TauC M (Tf a) (a 30).toNat (a 36)) : ∀ (m f : Nat) (z : Int), m ≤ (a 36).toNat → m < f → 0 ≤ z → z + m ≤ a 36 → Q (fM (Tf a) (a 36) m (r - z)) M → p_X3_missedCue_L5 gC f 124 r (a 36) z (a 36 - m) M Q := by
  obtain ⟨g0, g1, g2, g3, g4, g5, g6, g7, g8, g9, g10, g11, g12, g13, g14, g15, g16, g17, g18, g19⟩ := gl_c
  have h36 := hV.2.2.2.2.2.2.1
  have hW := VT_Tf hV
  intro m
  induction m with
  | zero =>
    intro f z _ hf z0 z1 k
    obtain ⟨f', rfl⟩ : ∃ f', f = f' + 1 := ⟨f - 1, by omega⟩
    unfold p_X3_missedCue_L5
    exact ⟨inR_s (by omega) (by omega), inR_s (by omega) (by omega), fun _ => k, fun h => absurd h (by omega)⟩
  | succ m ih =>
    intro f z hm hf z0 z1 k
    obtain ⟨f', rfl⟩ : ∃ f', f = f' + 1 := ⟨f - 1, by omega⟩
    have e9 : M 142 (a 36 - (m + 1 : Nat)) = Tf a 9 (a 36 - (m + 1 : Nat)) := (hT.2.2.2.2.1 _ (by omega) (by omega)).2.1
    have v9 := hW.2.2.2.1 (a 36 - (m + 1 : Nat)) (by omega) (by omega)
    unfold fM at k
    unfold p_X3_missedCue_L5
    refine ⟨inR_s (by omega) (by omega), inR_s (by omega) (by omega), fun h => absurd h (by omega), fun _ => get_c (by omega) (by show _ < ((gl gC 142 : Nat) : Int); rw [g8]; omega) ?_⟩
    show inR (M 142 _) ∧ (M 142 _ = 0 → _) ∧ (M 142 _ ≠ 0 → _)
    rw [e9, show a 36 - (m + 1 : Nat) + 1 = a 36 - (m : Nat) by omega]
    refine ⟨inR_s (by omega) (by omega), fun h0 => ?_, fun hne => ⟨inR_s (by omega) (by omega), hr, fun h1 => ?_, fun h1 => ?_⟩⟩
    · rw [if_pos h0] at k
      exact ih f' z (by omega) (by omega) z0 (by omega) k
    · rw [if_neg hne, if_neg (by omega)] at k
      refine ih f' (z + 1) (by omega) (by omega) (by omega) (by omega) ?_
      rw [show r - (z + 1) = r - z - 1 by omega]; exact k
    · rw [if_neg hne, if_pos (by omega)] at k
      exact k
theorem c_missed {M : Mm} {Q : Int → Mm → Prop} {a : Int → Int} {l : List (Int → Int)} {sn : Option (Int → Int)} {tl : Int} {t : Int → Int} {r : Int} (hr : inR r) (h : RC M a l sn tl t) (k : ∀ M' : Mm, RC M' a l sn tl t → Q (F_missed r a) M') : p_X7_missed gC 0 r M Q := by
  have hV := h.2.1
  have h36 := hV.2.2.2.2.2.2.1
  unfold F_missed at k
  unfold p_X7_missed
  refine ⟨hr, fun h0 => rehearseN h (fun M2 h2 hT => ?_), fun h0 => by rw [if_pos h0] at k; exact k M h⟩
  rw [if_neg (by omega)] at k
  have e36 : M2 (0 + 1 + 9) 5 = a 36 := h2.1.2.2.2.2.2.1
  rw [e36]
  unfold p_X3_missedCue
  have := ms_c (Q := Q) hV hr hT (a 36).toNat 42 0 (Nat.le_refl _) (by omega) (by omega) (by omega) (by rw [show r - 0 = r by omega]; exact k M2 h2)
  rw [show a 36 - ((a 36).toNat : Int) = 0 by omega] at this
  exact ⟨42, this⟩
theorem ms_m {N : Mm} {Q : Int → Mm → Prop} {a : Int → Int} (hV : VR a) (hN : ∀ k : Int, 0 ≤ k → k < 201 → N 1 k = a k) (h7 : ∀ j, 0 ≤ j → j < a 36 → N 7 j = Tf a 9 j) : ∀ (m f : Nat) (r : Int), m ≤ (a 36).toNat → m < f → 0 ≤ r → inR r → Q (fM (Tf a) (a 36) m r) N → p_X8_missed_L15 gM f 0 r (a 36 - m) N Q := by
  obtain ⟨g1, g6, g7, g8, g9, g10, g11, g12, g13, g14, g15⟩ := gl_m
  have h36 := hV.2.2.2.2.2.2.1
  have e36 : N 1 36 = a 36 := hN 36 (by omega) (by omega)
  have hW := VT_Tf hV
  intro m
  induction m with
  | zero =>
    intro f r _ hf r0 hr k
    obtain ⟨f', rfl⟩ : ∃ f', f = f' + 1 := ⟨f - 1, by omega⟩
    unfold p_X8_missed_L15
    simp only [Nat.zero_add, g1]
    rw [e36]
    exact ⟨by omega, inR_s (by omega) (by omega), inR_s (by omega) (by omega), fun _ => k, fun h => absurd h (by omega)⟩
  | succ m ih =>
    intro f r hm hf r0 hr k
    obtain ⟨f', rfl⟩ : ∃ f', f = f' + 1 := ⟨f - 1, by omega⟩
    have v9 := hW.2.2.2.1 (a 36 - (m + 1 : Nat)) (by omega) (by omega)
    unfold fM at k
    unfold p_X8_missed_L15
    simp only [Nat.zero_add, g1, g7]
    rw [e36, h7 (a 36 - (m + 1 : Nat)) (by omega) (by omega), show a 36 - (m + 1 : Nat) + 1 = a 36 - (m : Nat) by omega]
    refine ⟨by omega, inR_s (by omega) (by omega), inR_s (by omega) (by omega), fun h => absurd h (by omega), fun _ => ⟨by omega, by omega, inR_s (by omega) (by omega), fun h0 => ?_, fun hne => ⟨hr, fun h1 => ?_, fun h1 => ?_⟩⟩⟩
    · rw [if_pos (by omega)] at k
      exact ih f' r (by omega) (by omega) r0 hr k
    · rw [if_neg (by omega), if_neg h1] at k
      exact ih f' (r + -1) (by omega) (by omega) (by omega) ⟨by have := hr.1; omega, by have := hr.2; omega⟩ k
    · rw [if_neg (by omega), if_pos h1] at k
      exact k
theorem m_missed {N : Mm} {Q : Int → Mm → Prop} {a : Int → Int} {l : List (Int → Int)} {sn : Option (Int → Int)} {tl : Int} {t : Int → Int} {r : Int} (hr : inR r) (hV : VR a) (h : RM N a l sn tl t) (k : ∀ N' : Mm, RM N' a l sn tl t → Q (F_missed r a) N') : p_X8_missed gM 0 r N Q := by
  have h36 := hV.2.2.2.2.2.2.1
  unfold F_missed at k
  unfold p_X8_missed
  refine ⟨hr, fun h0 => tries_m hV h (fun N1 h1 hT => ?_), fun h0 => by rw [if_pos h0] at k; exact k N h⟩
  rw [if_neg (by omega)] at k
  have := ms_m (Q := Q) hV h1.1 (fun j j0 j1 => (hT.2.2 j j0 j1).2.1) (a 36).toNat 42 r (Nat.le_refl _) (by omega) h0 hr (k N1 h1)
  rw [show a 36 - ((a 36).toNat : Int) = 0 by omega] at this
  exact ⟨42, this⟩
/-! other hands -/
theorem step_congr {a b : Int → Int} {n : Nat} {T : Mm} {c : Int} (h1 : tk b c = tk a c) (h2 : sc b c = sc a c) (h3 : sd b c = sd a c) (h4 : la b c = la a c) (h5 : b (sd a c) = a (sd a c)) (h6 : b 35 = a 35) (h7 : b (20 + sd a c) = a (20 + sd a c)) : tStep b n T c = tStep a n T c := by
  have hn : nearC b n T c = nearC a n T c := by unfold nearC; rw [h1, h3, h5]
  have hw : whyC b n T c = whyC a n T c := by unfold whyC; rw [hn, h1, h2, h3, h6]
  have hp : ∀ p, tPlay b T c p = tPlay a T c p := fun p => by unfold tPlay; rw [h1, h2, h3, h4, h5]
  have hm : ∀ w, tMiss b T c w = tMiss a T c w := fun w => by unfold tMiss; rw [h2, h3, h7]
  unfold tStep
  rw [hw, hn, hp, hm]
theorem run_hnd {a : Int → Int} {n m : Nat} {T : Mm} (hV : VR a) (hm : m ≤ 4) : ∀ c : Nat, (c : Int) ≤ a 36 → tRun (hnd a m) n T c = tRun a n T c
  | 0, _ => rfl
  | c + 1, hc => by
    have h30 := hV.2.2.2.1
    obtain ⟨-, -, ⟨d0, d1⟩, -⟩ := hV.2.2.2.2.2.2.2.1 c (by omega) (by omega)
    show tStep (hnd a m) n (tRun (hnd a m) n T c) c = tStep a n (tRun a n T c) c
    rw [run_hnd hV hm c (by omega)]
    exact step_congr (hnd_ne (by omega) (by omega)) (hnd_ne (by omega) (by omega)) (hnd_ne (by omega) (by omega)) (hnd_ne (by omega) (by omega)) (hnd_ne (by omega) (by omega)) (hnd_ne (by omega) (by omega)) (hnd_ne (by omega) (by omega))
noncomputable def F_ifHands (n : Int) (a : Int → Int) : Int := if n < 1 ∨ 4 < n then -2 else Tn a n.toNat 7 1
theorem c_ifHands {M : Mm} {Q : Int → Mm → Prop} {a : Int → Int} {l : List (Int → Int)} {sn : Option (Int → Int)} {tl : Int} {t : Int → Int} {n : Int} (hn : inR n) (h : RC M a l sn tl t) (k : ∀ M' : Mm, RC M' a l sn tl t → Q (F_ifHands n a) M') : p_X7_ifHands gC 0 n M Q := by
  unfold F_ifHands at k
  unfold p_X7_ifHands
  refine within_c hn inR1 ⟨by decide, by decide⟩ (fun n0 n1 => ⟨inR1, fun _ => ?_, fun q => absurd q (by decide)⟩) (fun q => ⟨inR0, fun z => absurd rfl z, fun _ => by rw [if_pos q] at k; exact k M h⟩)
  rw [if_neg (by omega)] at k
  obtain ⟨m, rfl⟩ : ∃ m : Nat, n = m := ⟨n.toNat, by omega⟩
  refine rehearse_c h (by omega) (fun M2 h2 _ hT => ?_)
  have e : M2 (0 + 124) 14 = Tn a m 7 1 := hT.2.2.2.1.2
  rw [e]
  exact k M2 h2
theorem m_ifHands {N : Mm} {Q : Int → Mm → Prop} {a : Int → Int} {l : List (Int → Int)} {sn : Option (Int → Int)} {tl : Int} {t : Int → Int} {n : Int} (hn : inR n) (hV : VR a) (h : RM N a l sn tl t) (k : ∀ N' : Mm, RM N' a l sn tl t → Q (F_ifHands n a) N') : p_X8_ifHands gM 0 n N Q := by
  have h30 := hV.2.2.2.1
  have h36 := hV.2.2.2.2.2.2.1
  unfold F_ifHands at k
  unfold p_X8_ifHands
  refine ⟨hn, in_m hn inR1 ⟨by decide, by decide⟩ (fun n0 n1 => ⟨inR1, fun _ => ?_, fun q => absurd q (by decide)⟩) (fun q => ⟨inR0, fun z => absurd rfl z, fun _ => by rw [if_pos (by omega)] at k; exact k N h⟩)⟩
  rw [if_neg (by omega)] at k
  obtain ⟨m, rfl⟩ : ∃ m : Nat, n = m := ⟨n.toNat, by omega⟩
  refine cpy_m (a := 1) (b := 3) (by decide +kernel) (by decide +kernel) (by decide) ?_
  have c1 : ∀ o, o ≠ 3 → mcp N 1 3 201 o = N o := fun o ho => mcp_ne ho
  have c3 : ∀ j : Int, 0 ≤ j → j < 201 → mcp N 1 3 201 3 j = a j := fun j j0 j1 => by
    rw [mcp_eq]; show (if 0 ≤ j ∧ j < 201 then N 1 j else N 3 j) = _
    rw [if_pos ⟨j0, j1⟩]; exact h.1 j j0 j1
  generalize mcp N 1 3 201 = N1 at c1 c3
  refine bh_m (a := a) (fun j j0 j1 => by rw [c1 1 (by omega)]; exact h.1 j j0 j1) h30 n0 n1 (fun N2 f2 e2 => ?_)
  have e36 : hnd a m 36 = a 36 := hnd_ne (by omega) (by omega)
  refine plays_m (n := m) (T := t0 a) (a := hnd a m) (VR_hnd hV n0 n1) hnd_30 (T0_t0 hV (by omega)) ⟨fun j j0 j1 _ _ => e2 j j0 j1, fun s s0 s1 => by rw [e2 _ (by omega) (by omega)]; exact hnd_ne (by omega) (by omega), fun h' h0 h1 => ?_⟩ (fun N3 hT fr => ?_)
  · rw [e2 _ (by omega) (by omega)]
    show _ = if h' < a 30 then a (31 + h') else h'
    by_cases hh : h' < a 30
    · rw [if_pos hh]; exact hnd_ne (by omega) (by omega)
    · rw [if_neg hh]; exact hnd_new (by omega) h0 h1
  rw [e36, run_hnd hV (by omega) _ (by omega)] at hT
  refine cpy_m (a := 3) (b := 1) (by decide +kernel) (by decide +kernel) (by decide) ?_
  have e1 : ∀ j : Int, 0 ≤ j → j < 201 → mcp N3 3 1 201 1 j = a j := fun j j0 j1 => by
    rw [mcp_eq]; show (if 0 ≤ j ∧ j < 201 then N3 3 j else N3 1 j) = _
    rw [if_pos ⟨j0, j1⟩, fr.1 3 (by omega), f2 3 (by omega)]; exact c3 j j0 j1
  have F : ∀ o, o ≠ 1 → mcp N3 3 1 201 o = N3 o := fun o ho => mcp_ne ho
  generalize mcp N3 3 1 201 = N4 at e1 F
  have e17 : N4 0 17 = Tn a m 7 1 := by rw [F 0 (by omega)]; exact hT.2.2.2.1.2
  rw [e17]
  refine k N4 (h.all e1 (fun j hj => ?_) ?_ ?_ ?_)
  · rw [F 0 (by omega), fr.2 j hj, f2 0 (by omega), c1 0 (by omega)]
  · rw [F 4 (by omega), fr.1 4 (by omega), f2 4 (by omega), c1 4 (by omega)]
  · rw [F 5 (by omega), fr.1 5 (by omega), f2 5 (by omega), c1 5 (by omega)]
  · rw [F 16 (by omega), fr.1 16 (by omega), f2 16 (by omega), c1 16 (by omega)]
/-! clean takes -/
noncomputable def ctN (a : Int → Int) : Nat → Mm → Int
  | 0, _ => 30
  | m + 1, T => if 0 < tRun a (a 30).toNat T (a 36).toNat 7 0 then 30 - (m + 1 : Nat) else ctN a m (tRun a (a 30).toNat T (a 36).toNat)
noncomputable def F_clean (a : Int → Int) : Int := if a 36 = 0 then -4 else ctN a 30 (t0 a)
theorem T0_VT {T : Mm} {n : Nat} {c : Int} (h : VT T n c) : T0 T n := ⟨fun s s0 s1 => by have := h.1 s s0 s1; omega, fun h' h0 h1 => by have := h.2.1 h' h0 h1; omega⟩
theorem cl_c {M0 : Mm} {Q : Int → Mm → Prop} {a : Int → Int} {l : List (Int → Int)} {sn : Option (Int → Int)} {tl : Int} {t : Int → Int} (h : RC M0 a l sn tl t) : ∀ (m f : Nat) (T M : Mm), m ≤ 30 → m < f → (∀ o, o < 124 → M o = M0 o) → BegC M T (a 30).toNat → T0 T (a 30).toNat → (∀ M' : Mm, RC M' a l sn tl t → Q (ctN a m T) M') → p_X7_cleanTakes_L36 gC f 0 (30 - (m : Nat)) M Q := by
  have hV := h.2.1
  have h30 := hV.2.2.2.1
  have h36 := hV.2.2.2.2.2.2.1
  intro m
  induction m with
  | zero =>
    intro f T M _ hf hM hB hT0 k
    obtain ⟨f', rfl⟩ : ∃ f', f = f' + 1 := ⟨f - 1, by omega⟩
    unfold p_X7_cleanTakes_L36
    exact ⟨inR_s (by omega) (by omega), fun _ => k M (h.keep hM), fun h => absurd h (by omega)⟩
  | succ m ih =>
    intro f T M hm hf hM hB hT0 k
    obtain ⟨f', rfl⟩ : ∃ f', f = f' + 1 := ⟨f - 1, by omega⟩
    have hVT := VT_run (n := (a 30).toNat) (T := T) hV hT0 (a 36).toNat (by omega)
    unfold ctN at k
    unfold p_X7_cleanTakes_L36
    refine ⟨inR_s (by omega) (by omega), fun h => absurd h (by omega), fun _ => playTake_c (T := T) hV (by omega) hT0 ((h.keep hM).1) hB (fun M2 hT2 f2 => ?_)⟩
    have hM2 : ∀ o, o < 124 → M2 o = M0 o := fun o ho => by rw [f2 o ho, hM o ho]
    have e : M2 (0 + 124) 13 = tRun a (a 30).toNat T (a 36).toNat 7 0 := hT2.2.2.2.1.1
    have hb := hVT.2.2.1
    rw [e]
    refine ⟨inR_s (by omega) (by omega), fun hle => ?_, fun hpos => ?_⟩
    · rw [if_neg (by omega)] at k
      rw [show 30 - (m + 1 : Nat) + 1 = 30 - ((m : Nat) : Int) by omega]
      exact ih f' _ M2 (by omega) (by omega) hM2 ⟨hT2.1, fun s s0 s1 => (hT2.2.1 s s0 s1).1, fun h' h0 h1 => (hT2.2.2.1 h' h0 h1).1⟩ (T0_VT hVT) k
    · rw [if_pos hpos] at k
      exact k M2 (h.keep hM2)
theorem c_clean {M : Mm} {Q : Int → Mm → Prop} {a : Int → Int} {l : List (Int → Int)} {sn : Option (Int → Int)} {tl : Int} {t : Int → Int} (h : RC M a l sn tl t) (k : ∀ M' : Mm, RC M' a l sn tl t → Q (F_clean a) M') : p_X7_cleanTakes gC 0 M Q := by
  have hS := h.1
  have hV := h.2.1
  have h30 := hV.2.2.2.1
  have h36 := hV.2.2.2.2.2.2.1
  have e36 : M (0 + 1 + 9) 5 = a 36 := hS.2.2.2.2.2.1
  have e30 : M (0 + 1) 5 = (((a 30).toNat : Nat) : Int) := by
    have : M 1 5 = a 30 := hS.2.2.2.2.1.1
    show M 1 5 = _
    rw [this]; omega
  unfold F_clean at k
  unfold p_X7_cleanTakes
  rw [e36, e30]
  refine ⟨inR_s (by omega) (by omega), fun hne => ?_, fun he => by rw [if_pos he] at k; exact k M h⟩
  rw [if_neg hne] at k
  refine begin_c hV hS (by omega) (fun M1 hB f1 => ⟨32, ?_⟩)
  exact cl_c h 30 32 (t0 a) M1 (by omega) (by omega) f1 hB (T0_t0 hV (by omega)) k
theorem cl_m {N0 : Mm} {Q : Int → Mm → Prop} {a : Int → Int} {l : List (Int → Int)} {sn : Option (Int → Int)} {tl : Int} {t : Int → Int} (hV : VR a) (h : RM N0 a l sn tl t) {r : Int} (k : ∀ N' : Mm, RM N' a l sn tl t → Q r N') : ∀ (m f : Nat) (T N : Mm), m ≤ 30 → m + 1 < f → (∀ j : Int, 0 ≤ j → j < 201 → N 3 j = a j) → (∀ o, (o = 4 ∨ o = 5 ∨ o = 16) → N o = N0 o) → (∀ j, (j = 4 ∨ j = 6 ∨ j = 20) → N 0 j = N0 0 j) → BegM N T a (a 30).toNat → T0 T (a 30).toNat → ctN a m T = r → p_X8_cleanTakes_L28 gM f 0 (30 - (m : Nat)) 1 N Q := by
  have h30 := hV.2.2.2.1
  have h36 := hV.2.2.2.2.2.2.1
  have fin : ∀ N : Mm, (∀ j : Int, 0 ≤ j → j < 201 → N 3 j = a j) → (∀ o, (o = 4 ∨ o = 5 ∨ o = 16) → N o = N0 o) → (∀ j, (j = 4 ∨ j = 6 ∨ j = 20) → N 0 j = N0 0 j) → p_X8_cleanTakes_J70 gM 0 r N Q := by
    intro N h3 ho h0
    unfold p_X8_cleanTakes_J70
    refine cpy_m (a := 3) (b := 1) (by decide +kernel) (by decide +kernel) (by decide) ?_
    have F : ∀ o, o ≠ 1 → mcp N 3 1 201 o = N o := fun o ho => mcp_ne ho
    refine k _ (h.all (fun j j0 j1 => ?_) (fun j hj => by rw [F 0 (by omega)]; exact h0 j hj) (by rw [F 4 (by omega)]; exact ho 4 (by omega)) (by rw [F 5 (by omega)]; exact ho 5 (by omega)) (by rw [F 16 (by omega)]; exact ho 16 (by omega)))
    rw [mcp_eq]; show (if 0 ≤ j ∧ j < 201 then N 3 j else N 1 j) = _
    rw [if_pos ⟨j0, j1⟩]; exact h3 j j0 j1
  intro m
  induction m with
  | zero =>
    intro f T N _ hf h3 ho h0 hB hT0 hr
    obtain ⟨f', rfl⟩ : ∃ f', f = f' + 1 := ⟨f - 1, by omega⟩
    unfold ctN at hr
    unfold p_X8_cleanTakes_L28
    refine ⟨inR1, fun z => absurd z (by decide), fun _ => ⟨inR_s (by omega) (by omega), fun _ => ?_, fun h => absurd h (by omega)⟩⟩
    rw [show 30 - ((0 : Nat) : Int) = r by omega]
    exact fin N h3 ho h0
  | succ m ih =>
    intro f T N hm hf h3 ho h0 hB hT0 hr
    obtain ⟨f', rfl⟩ : ∃ f', f = f' + 1 := ⟨f - 1, by omega⟩
    have hVT := VT_run (n := (a 30).toNat) (T := T) hV hT0 (a 36).toNat (by omega)
    have hb := hVT.2.2.1
    unfold ctN at hr
    unfold p_X8_cleanTakes_L28
    refine ⟨inR1, fun z => absurd z (by decide), fun _ => ⟨inR_s (by omega) (by omega), fun h => absurd h (by omega), fun _ => plays_m (T := T) hV (by omega) hT0 hB (fun N2 hT2 fr => ?_)⟩⟩
    obtain ⟨m1, m2, m3, m4, m5⟩ := hT2
    have q3 : ∀ j : Int, 0 ≤ j → j < 201 → N2 3 j = a j := fun j j0 j1 => by rw [fr.1 3 (by omega)]; exact h3 j j0 j1
    have qo : ∀ o, (o = 4 ∨ o = 5 ∨ o = 16) → N2 o = N0 o := fun o hh => by rw [fr.1 o (by omega)]; exact ho o hh
    have q0 : ∀ j, (j = 4 ∨ j = 6 ∨ j = 20) → N2 0 j = N0 0 j := fun j hj => by rw [fr.2 j hj]; exact h0 j hj
    rw [m4.1]
    refine ⟨inR_s (by omega) (by omega), fun hne => ?_, fun he => ?_⟩
    · rw [if_pos (by omega)] at hr
      obtain ⟨f'', rfl⟩ : ∃ f'', f' = f'' + 1 := ⟨f' - 1, by omega⟩
      unfold p_X8_cleanTakes_L28
      refine ⟨inR0, fun _ => ?_, fun z => absurd rfl z⟩
      rw [show 30 - (m + 1 : Nat) + 0 = r by omega]
      exact fin N2 q3 qo q0
    · rw [if_neg (by omega)] at hr
      rw [show 30 - (m + 1 : Nat) + 1 = 30 - ((m : Nat) : Int) by omega]
      exact ih f' _ N2 (by omega) (by omega) q3 qo q0 ⟨m1, fun s s0 s1 => (m2 s s0 s1).1, fun h' h0 h1 => (m3 h' h0 h1).1⟩ (T0_VT hVT) hr
theorem m_clean {N : Mm} {Q : Int → Mm → Prop} {a : Int → Int} {l : List (Int → Int)} {sn : Option (Int → Int)} {tl : Int} {t : Int → Int} (hV : VR a) (h : RM N a l sn tl t) (k : ∀ N' : Mm, RM N' a l sn tl t → Q (F_clean a) N') : p_X8_cleanTakes gM 0 N Q := by
  obtain ⟨g1, g6, g7, g8, g9, g10, g11, g12, g13, g14, g15⟩ := gl_m
  have h30 := hV.2.2.2.1
  have h36 := hV.2.2.2.2.2.2.1
  have e36 : N 1 36 = a 36 := h.1 36 (by omega) (by omega)
  unfold F_clean at k
  unfold p_X8_cleanTakes
  simp only [Nat.zero_add, g1]
  rw [e36]
  refine ⟨by omega, inR_s (by omega) (by omega), fun hne => ?_, fun he => by rw [if_pos he] at k; exact k N h⟩
  rw [if_neg hne] at k
  refine cpy_m (a := 1) (b := 3) (by decide +kernel) (by decide +kernel) (by decide) ⟨33, ?_⟩
  have c1 : ∀ o, o ≠ 3 → mcp N 1 3 201 o = N o := fun o ho => mcp_ne ho
  have c3 : ∀ j : Int, 0 ≤ j → j < 201 → mcp N 1 3 201 3 j = a j := fun j j0 j1 => by
    rw [mcp_eq]; show (if 0 ≤ j ∧ j < 201 then N 1 j else N 3 j) = _
    rw [if_pos ⟨j0, j1⟩]; exact h.1 j j0 j1
  generalize mcp N 1 3 201 = N1 at c1 c3
  refine cl_m hV h k 30 33 (t0 a) N1 (by omega) (by omega) c3 (fun o ho => c1 o (by omega)) (fun j _ => by rw [c1 0 (by omega)]) ⟨fun j j0 j1 _ _ => by rw [c1 1 (by omega)]; exact h.1 j j0 j1, fun s s0 s1 => by rw [c1 1 (by omega)]; exact h.1 _ (by omega) (by omega), fun h' h0 h1 => ?_⟩ (T0_t0 hV (by omega)) rfl
  rw [c1 1 (by omega), h.1 _ (by omega) (by omega)]; exact (if_pos (by omega)).symm
/-! counts -/
noncomputable def F_count (w : Int) (a : Int → Int) (l : List (Int → Int)) (tl : Int) : Int :=
  if w = 0 then a 36 else if w = 1 then a 30 else if w = 2 then a 35 else if w = 3 then a 37 else if w = 4 then a 38 else if w = 5 then a 39 else if w = 6 then a 40 else if w = 7 then Tf a 7 0 else if w = 8 then Tf a 7 1 else if w = 9 then isum (fun j => a (10 + j)) 10 else if w = 10 then (l.length : Int) else if w = 11 then tl else -2
theorem c_count {M : Mm} {Q : Int → Mm → Prop} {a : Int → Int} {l : List (Int → Int)} {sn : Option (Int → Int)} {tl : Int} {t : Int → Int} {w : Int} (hw : inR w) (h : RC M a l sn tl t) (k : ∀ M' : Mm, RC M' a l sn tl t → Q (F_count w a l tl) M') : p_X7_count gC 0 w M Q := by
  have hS := h.1
  obtain ⟨q5, q6, q7, q8, q9, q10⟩ := hS.2.2.2.2.1
  have q36 : M 10 5 = a 36 := hS.2.2.2.2.2.1
  unfold p_X7_count
  refine ⟨hw, fun hz => ?_, fun hz => ?_, fun hz => ?_, fun hz => ?_, fun hz => ?_, fun hz => ?_, fun hz => ?_, fun hz => ?_, fun hz => ?_, fun hz => ?_, fun hz => ?_, fun hz => ?_, fun hz => ?_⟩
  · subst hz; show Q (M 10 5) M; rw [q36]; exact k M h
  · subst hz; show Q (M 1 5) M; rw [q5]; exact k M h
  · subst hz; show Q (M 1 6) M; rw [q6]; exact k M h
  · subst hz; show Q (M 1 7) M; rw [q7]; exact k M h
  · subst hz; show Q (M 1 8) M; rw [q8]; exact k M h
  · subst hz; show Q (M 1 9) M; rw [q9]; exact k M h
  · subst hz; show Q (M 1 10) M; rw [q10]; exact k M h
  · subst hz
    refine rehearseN h (fun M2 h2 hT => ?_)
    show Q (M2 124 13) M2
    rw [hT.2.2.2.1.1]; exact k M2 h2
  · subst hz
    refine rehearseN h (fun M2 h2 hT => ?_)
    show Q (M2 124 14) M2
    rw [hT.2.2.2.1.2]; exact k M2 h2
  · subst hz
    refine sum_c ?_
    have hl : gl gC (0 + 1 + 3 + 1) = 10 := by decide +kernel
    rw [hl, isum_congr (f := M (0 + 1 + 3 + 1)) (g := fun j => a (10 + j)) 10 (fun j j0 j1 => hS.2.1 j j0 j1)]
    exact k M h
  · subst hz; show Q (M 37 1) M; rw [h.2.2.1.1]; exact k M h
  · subst hz; show Q (M 111 1) M; rw [h.2.2.2.2.1.1]; exact k M h
  · have e : F_count w a l tl = -2 := by
      unfold F_count
      rw [if_neg (by omega), if_neg (by omega), if_neg (by omega), if_neg (by omega), if_neg (by omega), if_neg (by omega), if_neg (by omega), if_neg (by omega), if_neg (by omega), if_neg (by omega), if_neg (by omega), if_neg (by omega)]
    rw [e] at k; exact k M h
theorem ac_m {N : Mm} {Q : Int → Mm → Prop} {a : Int → Int} (hN : ∀ k : Int, 0 ≤ k → k < 201 → N 1 k = a k) (k : Q (isum (fun j => a (10 + j)) 10) N) : ∀ (m j : Nat), j ≤ 10 → 10 - j < m → p_X8_allCharges_L4 gM m 0 (isum (fun j => a (10 + j)) j) (j : Int) N Q := by
  obtain ⟨g1, g6, g7, g8, g9, g10, g11, g12, g13, g14, g15⟩ := gl_m
  intro m
  induction m with
  | zero => intro j _ hm; omega
  | succ m ih =>
    intro j hj hm
    unfold p_X8_allCharges_L4
    simp only [Nat.zero_add, g1]
    refine ⟨inR_s (by omega) (by omega), fun hge => ?_, fun hlt => ⟨by omega, by omega, ?_⟩⟩
    · rw [show (10 : Nat) = j by omega] at k; exact k
    · have nx := ih (j + 1) (by omega) (by omega)
      have ee : isum (fun j => a (10 + j)) (j + 1) = isum (fun j => a (10 + j)) j + a (10 + j) := rfl
      rw [ee] at nx
      rw [hN _ (by omega) (by omega)]; exact nx
theorem m_count {N : Mm} {Q : Int → Mm → Prop} {a : Int → Int} {l : List (Int → Int)} {sn : Option (Int → Int)} {tl : Int} {t : Int → Int} {w : Int} (hw : inR w) (hV : VR a) (h : RM N a l sn tl t) (k : ∀ N' : Mm, RM N' a l sn tl t → Q (F_count w a l tl) N') : p_X8_count gM 0 w N Q := by
  obtain ⟨g1, g6, g7, g8, g9, g10, g11, g12, g13, g14, g15⟩ := gl_m
  have hN := h.1
  unfold p_X8_count
  simp only [Nat.zero_add, g1]
  refine ⟨hw, fun hz => ⟨by omega, ?_⟩, fun hz => ⟨by omega, ?_⟩, fun hz => ⟨by omega, ?_⟩, fun hz => ⟨by omega, by omega, ?_⟩, fun hz => ⟨by omega, by omega, ?_⟩, fun hz => ⟨by omega, by omega, ?_⟩, fun hz => ⟨by omega, by omega, ?_⟩, fun hz => ⟨hw, fun _ => ?_, fun h => absurd h (by omega)⟩, fun hz => ⟨hw, fun h => absurd hz h, fun _ => ?_⟩, fun hz => ?_, fun hz => ?_, fun hz => ?_, fun hz => ?_⟩
  · subst hz; rw [hN 36 (by omega) (by omega)]; exact k N h
  · subst hz; rw [hN 30 (by omega) (by omega)]; exact k N h
  · subst hz; rw [hN 35 (by omega) (by omega)]; exact k N h
  · subst hz; rw [hN _ (by omega) (by omega)]; exact k N h
  · subst hz; rw [hN _ (by omega) (by omega)]; exact k N h
  · subst hz; rw [hN _ (by omega) (by omega)]; exact k N h
  · subst hz; rw [hN _ (by omega) (by omega)]; exact k N h
  · subst hz
    unfold p_X8_count_J112 p_X8_wouldMiss
    refine tries_m hV h (fun N1 h1 hT => ⟨inR0, fun _ => ?_, fun z => absurd rfl z⟩)
    rw [hT.2.1.1]; exact k N1 h1
  · subst hz
    unfold p_X8_count_J112 p_X8_wouldMiss
    refine tries_m hV h (fun N1 h1 hT => ⟨inR1, fun z => absurd z (by decide), fun _ => ?_⟩)
    rw [hT.2.1.2]; exact k N1 h1
  · subst hz
    unfold p_X8_allCharges
    exact ⟨12, ac_m hN (k N h) 12 0 (by omega) (by omega)⟩
  · subst hz; rw [h.2.1.1]; exact k N h
  · subst hz; rw [h.2.2.2.1]; exact k N h
  · have e : F_count w a l tl = -2 := by
      unfold F_count
      rw [if_neg (by omega), if_neg (by omega), if_neg (by omega), if_neg (by omega), if_neg (by omega), if_neg (by omega), if_neg (by omega), if_neg (by omega), if_neg (by omega), if_neg (by omega), if_neg (by omega), if_neg (by omega)]
    rw [e] at k; exact k N h
