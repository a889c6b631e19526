/-! PURE: what is told of sounds, cues, hands -/
noncomputable def cntS (a : Int → Int) (s : Int) : Int → Int := fun c => if sd a c = s then 1 else 0
noncomputable def cntC (a : Int → Int) (s : Int) : Int → Int := fun c => if sc a c = s then 1 else 0
noncomputable def plyS (a : Int → Int) (s : Int) : Int → Int := fun c => if sd a c = s then (if Tf a 9 c = 0 then 1 else 0) else 0
noncomputable def F_sound (s w : Int) (a : Int → Int) : Int :=
  if s < 0 ∨ 10 ≤ s then -1 else if w = 0 then a s else if w = 1 then a (10 + s) else if w = 2 then a (20 + s) else if w = 3 then isum (cntS a s) (a 36).toNat else if w = 4 then isum (plyS a s) (a 36).toNat else if w = 5 then max (isum (cntS a s) (a 36).toNat - a (10 + s)) 0 else -2
theorem isum_in {f : Int → Int} : ∀ n : Nat, (∀ c : Int, 0 ≤ c → c < n → 0 ≤ f c ∧ f c ≤ 1) → 0 ≤ isum f n ∧ isum f n ≤ n
  | 0, _ => by unfold isum; omega
  | n + 1, h => by
    have h1 := isum_in n (fun c c0 c1 => h c c0 (by omega))
    have h2 := h n (by omega) (by omega)
    unfold isum
    omega
theorem cntS_in {a : Int → Int} {s c : Int} : 0 ≤ cntS a s c ∧ cntS a s c ≤ 1 := by unfold cntS; split <;> omega
theorem cntC_in {a : Int → Int} {s c : Int} : 0 ≤ cntC a s c ∧ cntC a s c ≤ 1 := by unfold cntC; split <;> omega
theorem plyS_in {a : Int → Int} {s c : Int} : 0 ≤ plyS a s c ∧ plyS a s c ≤ 1 := by
  unfold plyS; split
  · split <;> omega
  · omega
/-- the class counts the places of a row that hold a number -/
theorem times_l {M : Mm} {Q : Int → Mm → Prop} {b r : Nat} {v : Int} {f : Int → Int} {n : Nat} (hn : n ≤ 40) (hl : gl gC (r + 1) = 40) (hb : M b 5 = (n : Int)) (hv : inR v) (hf : ∀ c : Int, 0 ≤ c → c < n → inR (M (r + 1) c) ∧ f c = if M (r + 1) c = v then 1 else 0) (k : Q (isum f n) M) :
    ∀ (m j : Nat), j ≤ n → n - j < m → p_X0_timesIn_L5 gC m b r v (isum f j) (j : Int) M Q := by
  intro m
  induction m with
  | zero => intro j _ hm; omega
  | succ m ih =>
    intro j hj hm
    unfold p_X0_timesIn_L5
    rw [hb]
    refine ⟨inR_s (by omega) (by omega), inR_s (by omega) (by omega), fun hge => ?_, fun hlt => get_c (by omega) (by rw [hl]; omega) ?_⟩
    · rw [show n = j by omega] at k; exact k
    · obtain ⟨h1, h2⟩ := hf j (by omega) hlt
      have nx := ih (j + 1) (by omega) (by omega)
      have e : isum f (j + 1) = isum f j + f j := rfl
      rw [e, h2] at nx
      refine ⟨h1, hv, fun hne => ?_, fun he => ?_⟩
      · rw [if_neg hne, Int.add_zero] at nx; exact nx
      · rw [if_pos he] at nx; exact nx
theorem szS_c {M : Mm} {Q : Int → Mm → Prop} {a : Int → Int} {s : Int} (hV : VR a) (hS : SR M 1 a) (hs : inR s) (k : Q (isum (cntS a s) (a 36).toNat) M) : p_X0_sizeOfSound gC 10 s M Q := by
  have h36 := hV.2.2.2.2.2.2.1
  have e36 : M 10 5 = a 36 := hS.2.2.2.2.2.1
  unfold p_X0_sizeOfSound p_X0_timesIn
  exact ⟨42, times_l (r := 15) (f := cntS a s) (n := (a 36).toNat) (by omega) (by decide +kernel) (by omega) hs (fun c c0 c1 => by
    have e : M 16 c = sd a c := (hS.2.2.2.2.2.2 c c0 (by omega)).2.2.1
    have v := (hV.2.2.2.2.2.2.2.1 c c0 (by omega)).2.2.1
    show inR (M 16 c) ∧ cntS a s c = if M 16 c = s then 1 else 0
    rw [e]
    exact ⟨inR_s (by omega) (by omega), rfl⟩) k 42 0 (by omega) (by omega)⟩
theorem szC_c {M : Mm} {Q : Int → Mm → Prop} {a : Int → Int} {s : Int} (hV : VR a) (hS : SR M 1 a) (hs : inR s) (k : Q (isum (cntC a s) (a 36).toNat) M) : p_X0_sizeOfScene gC 10 s M Q := by
  have h36 := hV.2.2.2.2.2.2.1
  have e36 : M 10 5 = a 36 := hS.2.2.2.2.2.1
  unfold p_X0_sizeOfScene p_X0_timesIn
  exact ⟨42, times_l (r := 13) (f := cntC a s) (n := (a 36).toNat) (by omega) (by decide +kernel) (by omega) hs (fun c c0 c1 => by
    have e : M 14 c = sc a c := (hS.2.2.2.2.2.2 c c0 (by omega)).2.1
    have v := (hV.2.2.2.2.2.2.2.1 c c0 (by omega)).2.1
    show inR (M 14 c) ∧ cntC a s c = if M 14 c = s then 1 else 0
    rw [e]
    exact ⟨inR_s (by omega) (by omega), rfl⟩) k 42 0 (by omega) (by omega)⟩
theorem ply_l {M : Mm} {Q : Int → Mm → Prop} {a : Int → Int} {s : Int} (hV : VR a) (hS : SR M 1 a) (hs : inR s) (hT : TauC M (Tf a) (a 30).toNat (a 36)) (k : Q (isum (plyS a s) (a 36).toNat) M) :
    ∀ (m j : Nat), j ≤ (a 36).toNat → (a 36).toNat - j < m → p_X3_playsOfSound_L5 gC m 124 s 10 (isum (plyS a s) j) (j : Int) M Q := by
  have h36 := hV.2.2.2.2.2.2.1
  have e36 : M 10 5 = a 36 := hS.2.2.2.2.2.1
  have hW := VT_Tf hV
  intro m
  induction m with
  | zero => intro j _ hm; omega
  | succ m ih =>
    intro j hj hm
    unfold p_X3_playsOfSound_L5
    rw [e36]
    refine ⟨inR_s (by omega) (by omega), inR_s (by omega) (by omega), fun hge => ?_, fun hlt => ?_⟩
    · rw [show (a 36).toNat = j by omega] at k; exact k
    · have e : M 16 j = sd a j := (hS.2.2.2.2.2.2 j (by omega) hlt).2.2.1
      have v := (hV.2.2.2.2.2.2.2.1 j (by omega) hlt).2.2.1
      have e9 : M 142 j = Tf a 9 j := (hT.2.2.2.2.1 j (by omega) hlt).2.1
      have v9 := hW.2.2.2.1 j (by omega) hlt
      have nx := ih (j + 1) (by omega) (by omega)
      have ee : isum (plyS a s) (j + 1) = isum (plyS a s) j + plyS a s j := rfl
      rw [ee] at nx
      unfold plyS at nx
      refine get_c (by omega) (by show (j : Int) < ((gl gC 16 : Nat) : Int); rw [gl_c.2.2.2.2.2.2.2.2.2.2.2.2.2.2.1]; omega) ?_
      show inR (M 16 j) ∧ _ ∧ (M 16 j ≠ s → _) ∧ (M 16 j = s → _)
      rw [e]
      refine ⟨inR_s (by omega) (by omega), hs, fun hne => ?_, fun he => ?_⟩
      · rw [if_neg hne, Int.add_zero] at nx; exact nx
      · rw [if_pos he] at nx
        refine get_c (by omega) (by show (j : Int) < ((gl gC 142 : Nat) : Int); rw [gl_c.2.2.2.2.2.2.2.2.1]; omega) ?_
        show inR (M 142 j) ∧ (M 142 j ≠ 0 → _) ∧ (M 142 j = 0 → _)
        rw [e9]
        refine ⟨inR_s (by omega) (by omega), fun hne => ?_, fun h0 => ?_⟩
        · rw [if_neg hne, Int.add_zero] at nx; exact nx
        · rw [if_pos h0] at nx; exact nx
theorem c_sound {M : Mm} {Q : Int → Mm → Prop} {a : Int → Int} {l : List (Int → Int)} {sn : Option (Int → Int)} {tl : Int} {t : Int → Int} {s w : Int} (hs : inR s) (hw : inR w) (h : RC M a l sn tl t) (k : ∀ M' : Mm, RC M' a l sn tl t → Q (F_sound s w a) M') : p_X7_sound gC 0 s w M Q := by
  have hS := h.1
  have hV := h.2.1
  have h36 := hV.2.2.2.2.2.2.1
  unfold F_sound at k
  unfold p_X7_sound
  refine below_c hs ⟨by decide, by decide⟩ (fun s0 s1 => ⟨inR1, fun _ => ⟨hw, fun hz => ?_, fun hz => ?_, fun hz => ?_, fun hz => ?_, fun hz => ?_, fun hz => ?_, fun hz => ?_⟩, fun q => absurd q (by decide)⟩) (fun q => ⟨inR0, fun z => absurd rfl z, fun _ => ?_⟩)
  · rw [if_neg (by omega), if_pos hz] at k
    have e : M 3 s = a s := hS.1 s s0 s1
    unfold p_X5_soundRow
    refine ⟨hw, fun _ _ => ?_, fun q => absurd q (by omega), fun q => absurd hz q.1⟩
    refine get_c s0 (by show s < ((gl gC 3 : Nat) : Int); rw [gl_c.2.2.2.2.2.2.2.2.2.2.2.2.2.2.2.2.1]; omega) ?_
    show Q (M 3 s) M
    rw [e]; exact k M h
  · rw [if_neg (by omega), if_neg (by omega), if_pos hz] at k
    have e : M 5 s = a (10 + s) := hS.2.1 s s0 s1
    unfold p_X5_soundRow
    refine ⟨hw, fun q => absurd q (by omega), fun _ _ => ?_, fun q => absurd hz q.2⟩
    refine get_c s0 (by show s < ((gl gC 5 : Nat) : Int); rw [gl_c.2.2.2.2.2.2.2.2.2.2.2.2.2.2.2.2.2.1]; omega) ?_
    show Q (M 5 s) M
    rw [e]; exact k M h
  · rw [if_neg (by omega), if_neg (by omega), if_neg (by omega), if_pos hz] at k
    have e : M 7 s = a (20 + s) := hS.2.2.1 s s0 s1
    unfold p_X5_soundRow
    refine ⟨hw, fun q => absurd q (by omega), fun q => absurd q (by omega), fun _ _ => ?_⟩
    refine get_c s0 (by show s < ((gl gC 7 : Nat) : Int); rw [gl_c.2.2.2.2.2.2.2.2.2.2.2.2.2.2.2.2.2.2.1]; omega) ?_
    show Q (M 7 s) M
    rw [e]; exact k M h
  · rw [if_neg (by omega), if_neg (by omega), if_neg (by omega), if_neg (by omega), if_pos hz] at k
    exact szS_c hV hS hs (k M h)
  · rw [if_neg (by omega), if_neg (by omega), if_neg (by omega), if_neg (by omega), if_neg (by omega), if_pos hz] at k
    refine rehearseN h (fun M2 h2 hT => ?_)
    unfold p_X3_playsOfSound
    exact ⟨42, ply_l hV h2.1 hs hT (k M2 h2) 42 0 (by omega) (by omega)⟩
  · rw [if_neg (by omega), if_neg (by omega), if_neg (by omega), if_neg (by omega), if_neg (by omega), if_neg (by omega), if_pos hz] at k
    refine szS_c hV hS hs ?_
    have e : M 5 s = a (10 + s) := hS.2.1 s s0 s1
    have hi := isum_in (f := cntS a s) (a 36).toNat (fun c _ _ => cntS_in)
    have hc := hV.2.1 s s0 s1
    refine get_c s0 (by show s < ((gl gC 5 : Nat) : Int); rw [gl_c.2.2.2.2.2.2.2.2.2.2.2.2.2.2.2.2.2.1]; omega) ?_
    show inR (_ - M 5 s) ∧ Q (max (_ - M 5 s) 0) M
    rw [e]
    exact ⟨inR_s (by omega) (by omega), k M h⟩
  · rw [if_neg (by omega), if_neg (by omega), if_neg (by omega), if_neg (by omega), if_neg (by omega), if_neg (by omega), if_neg (by omega)] at k
    exact k M h
  · rw [if_pos q] at k; exact k M h
/-- the reference counts -/
theorem cs_l {N : Mm} {Q : Int → Mm → Prop} {a : Int → Int} {s b : Int} {f : Int → Int} (hV : VR a) (hN : ∀ k : Int, 0 ≤ k → k < 201 → N 1 k = a k) (hs : inR s) (hb : (b = 0 ∧ f = cntS a s) ∨ (b = 1 ∧ f = plyS a s)) (h7 : ∀ j, 0 ≤ j → j < a 36 → N 7 j = Tf a 9 j) (k : Q (isum f (a 36).toNat) N) :
    ∀ (m j : Nat), j ≤ (a 36).toNat → (a 36).toNat - j < m → p_X8_cuesOfSound_L9 gM m 0 s b (isum f j) (j : Int) N Q := by
  obtain ⟨g1, g6, g7, g8, g9, g10, g11, g12, g13, g14, g15⟩ := gl_m
  have h36 := hV.2.2.2.2.2.2.1
  have e36 : N 1 36 = a 36 := hN 36 (by omega) (by omega)
  have hW := VT_Tf hV
  intro m
  induction m with
  | zero => intro j _ hm; omega
  | succ m ih =>
    intro j hj hm
    unfold p_X8_cuesOfSound_L9
    simp only [Nat.zero_add, g1, g7]
    rw [e36]
    refine ⟨by omega, inR_s (by omega) (by omega), inR_s (by omega) (by omega), fun hge => ?_, fun hlt => of_m (by omega) (by omega) ?_⟩
    · rw [show (a 36).toNat = j by omega] at k; exact k
    · have e : N 1 (41 + 4 * (j : Int) + 2) = sd a j := hN _ (by omega) (by omega)
      have v := (hV.2.2.2.2.2.2.2.1 j (by omega) hlt).2.2.1
      have v9 := hW.2.2.2.1 j (by omega) hlt
      have nx := ih (j + 1) (by omega) (by omega)
      have ee : isum f (j + 1) = isum f j + f j := rfl
      rw [ee] at nx
      rw [e]
      refine ⟨inR_s (by omega) (by omega), hs, fun hne => ?_, fun he => ⟨by rcases hb with ⟨z, -⟩ | ⟨z, -⟩ <;> rw [z] <;> exact inR_s (by omega) (by omega), fun hb0 => ?_, fun hb1 => ⟨by omega, by omega, ?_⟩⟩⟩
      · have : f j = 0 := by
          rcases hb with ⟨-, rfl⟩ | ⟨-, rfl⟩
          · unfold cntS; rw [if_neg hne]
          · unfold plyS; rw [if_neg hne]
        rw [this] at nx; exact nx
      · have : f j = 1 := by
          rcases hb with ⟨-, rfl⟩ | ⟨z, -⟩
          · unfold cntS; rw [if_pos he]
          · omega
        rw [this] at nx; exact nx
      · have hf : f = plyS a s := hb.elim (fun z => absurd z.1 hb1) (fun z => z.2)
        rw [h7 j (by omega) hlt]
        refine ⟨inR_s (by omega) (by omega), fun hne => ?_, fun h0 => ?_⟩
        · have : f j = 0 := by rw [hf]; unfold plyS; rw [if_pos he, if_neg hne]
          rw [this] at nx; exact nx
        · have : f j = 1 := by rw [hf]; unfold plyS; rw [if_pos he, if_pos h0]
          rw [this] at nx; exact nx
theorem cs_m {N : Mm} {Q : Int → Mm → Prop} {a : Int → Int} {l : List (Int → Int)} {sn : Option (Int → Int)} {tl : Int} {t : Int → Int} {s b : Int} {f : Int → Int} (hV : VR a) (h : RM N a l sn tl t) (hs : inR s) (hb : (b = 0 ∧ f = cntS a s) ∨ (b = 1 ∧ f = plyS a s)) (k : ∀ N' : Mm, RM N' a l sn tl t → Q (isum f (a 36).toNat) N') : p_X8_cuesOfSound gM 0 s b N Q := by
  have h36 := hV.2.2.2.2.2.2.1
  unfold p_X8_cuesOfSound
  refine tries_m hV h (fun N1 h1 hT => ⟨42, ?_⟩)
  exact cs_l hV h1.1 hs hb (fun j j0 j1 => (hT.2.2 j j0 j1).2.1) (k N1 h1) 42 0 (by omega) (by omega)
theorem m_sound {N : Mm} {Q : Int → Mm → Prop} {a : Int → Int} {l : List (Int → Int)} {sn : Option (Int → Int)} {tl : Int} {t : Int → Int} {s w : Int} (hs : inR s) (hw : inR w) (hV : VR a) (h : RM N a l sn tl t) (k : ∀ N' : Mm, RM N' a l sn tl t → Q (F_sound s w a) N') : p_X8_sound gM 0 s w N Q := by
  have h36 := hV.2.2.2.2.2.2.1
  have l1 : gl gM (0 + 1) = 201 := by decide +kernel
  unfold F_sound at k
  unfold p_X8_sound p_X8_isSound
  rw [l1]
  refine ⟨hs, in_m hs inR0 ⟨by decide, by decide⟩ (fun s0 s1 => ⟨Or.inr rfl, inR1, fun _ => ⟨hw, fun hz => ?_, fun hz => ?_, fun hz => ?_, fun hz => ?_, fun hz => ?_, fun hz => ?_, fun hz => ?_⟩, fun q => absurd q (by decide)⟩) (fun q => ⟨Or.inl rfl, inR0, fun z => absurd rfl z, fun _ => ?_⟩)⟩
  · rw [if_neg (by omega), if_pos hz] at k
    subst hz
    have e : N 1 (10 * 0 + s) = a s := by rw [h.1 _ (by omega) (by omega)]; congr 1; omega
    exact ⟨by omega, by omega, by show Q (N 1 (10 * 0 + s)) N; rw [e]; exact k N h⟩
  · rw [if_neg (by omega), if_neg (by omega), if_pos hz] at k
    subst hz
    have e : N 1 (10 * 1 + s) = a (10 + s) := by rw [h.1 _ (by omega) (by omega)]; congr 1
    exact ⟨by omega, by omega, by show Q (N 1 (10 * 1 + s)) N; rw [e]; exact k N h⟩
  · rw [if_neg (by omega), if_neg (by omega), if_neg (by omega), if_pos hz] at k
    subst hz
    have e : N 1 (10 * 2 + s) = a (20 + s) := by rw [h.1 _ (by omega) (by omega)]; congr 1
    exact ⟨by omega, by omega, by show Q (N 1 (10 * 2 + s)) N; rw [e]; exact k N h⟩
  · rw [if_neg (by omega), if_neg (by omega), if_neg (by omega), if_neg (by omega), if_pos hz] at k
    exact cs_m hV h hs (Or.inl ⟨rfl, rfl⟩) k
  · rw [if_neg (by omega), if_neg (by omega), if_neg (by omega), if_neg (by omega), if_neg (by omega), if_pos hz] at k
    exact cs_m hV h hs (Or.inr ⟨rfl, rfl⟩) k
  · rw [if_neg (by omega), if_neg (by omega), if_neg (by omega), if_neg (by omega), if_neg (by omega), if_neg (by omega), if_pos hz] at k
    unfold p_X8_lacks
    refine cs_m hV h hs (Or.inl ⟨rfl, rfl⟩) (fun N1 h1 => ?_)
    have hi := isum_in (f := cntS a s) (a 36).toNat (fun c _ _ => cntS_in)
    have hc := hV.2.1 s s0 (by omega)
    have e : N1 (0 + 1) (10 + s) = a (10 + s) := h1.1 _ (by omega) (by omega)
    rw [l1, e]
    refine ⟨by omega, by omega, inR_s (by omega) (by omega), fun hge => ?_, fun hlt => ?_⟩
    · have := k N1 h1
      rw [show max (isum (cntS a s) (a 36).toNat - a (10 + s)) 0 = isum (cntS a s) (a 36).toNat - a (10 + s) by omega] at this
      exact this
    · have := k N1 h1
      rw [show max (isum (cntS a s) (a 36).toNat - a (10 + s)) 0 = 0 by omega] at this
      exact this
  · rw [if_neg (by omega), if_neg (by omega), if_neg (by omega), if_neg (by omega), if_neg (by omega), if_neg (by omega), if_neg (by omega)] at k
    exact k N h
  · rw [if_pos (by omega)] at k; exact k N h
/-! cues -/
noncomputable def F_cue (c w : Int) (a : Int → Int) : Int :=
  if c < 0 ∨ a 36 ≤ c then -1 else if w = 0 then sc a c else if w = 1 then tk a c else if w = 2 then sd a c else if w = 3 then la a c else if w = 4 then Tf a 8 c else if w = 5 then Tf a 9 c else if w = 6 then Tf a 10 c else -2
theorem c_cue {M : Mm} {Q : Int → Mm → Prop} {a : Int → Int} {l : List (Int → Int)} {sn : Option (Int → Int)} {tl : Int} {t : Int → Int} {c w : Int} (hc : inR c) (hw : inR w) (h : RC M a l sn tl t) (k : ∀ M' : Mm, RC M' a l sn tl t → Q (F_cue c w a) M') : p_X7_cue gC 0 c w M Q := by
  obtain ⟨g0, g1, g2, g3, g4, g5, g6, g7, g8, g9, g10, g11, g12, g13, g14, g15, g16, g17, g18, g19⟩ := gl_c
  have hS := h.1
  have hV := h.2.1
  have h36 := hV.2.2.2.2.2.2.1
  have e36 : M (0 + 1 + 9) 5 = a 36 := hS.2.2.2.2.2.1
  unfold F_cue at k
  unfold p_X7_cue
  rw [e36]
  refine below_c hc (inR_s (by omega) (by omega)) (fun s0 s1 => ?_) (fun q => ⟨inR0, fun z => absurd rfl z, fun _ => by rw [if_pos q] at k; exact k M h⟩)
  obtain ⟨e1, e2, e3, e4⟩ := hS.2.2.2.2.2.2 c s0 s1
  rw [if_neg (by omega)] at k
  refine ⟨inR1, fun _ => ⟨hw, fun hz => ?_, fun hz => ?_, fun hz => ?_, fun hz => ?_, fun hz => ?_, fun hz => ?_, fun hz => ?_, fun hz => ?_⟩, fun q => absurd q (by decide)⟩
  · rw [if_pos hz] at k
    refine get_c s0 (by show c < ((gl gC 14 : Nat) : Int); rw [g13]; omega) ?_
    show Q (M (1 + 9 + 3 + 1) c) M
    rw [e2]; exact k M h
  · rw [if_neg (by omega), if_pos hz] at k
    refine get_c s0 (by show c < ((gl gC 12 : Nat) : Int); rw [g12]; omega) ?_
    show Q (M (1 + 9 + 1 + 1) c) M
    rw [e1]; exact k M h
  · rw [if_neg (by omega), if_neg (by omega), if_pos hz] at k
    refine get_c s0 (by show c < ((gl gC 16 : Nat) : Int); rw [g14]; omega) ?_
    show Q (M (1 + 9 + 5 + 1) c) M
    rw [e3]; exact k M h
  · rw [if_neg (by omega), if_neg (by omega), if_neg (by omega), if_pos hz] at k
    refine get_c s0 (by show c < ((gl gC 18 : Nat) : Int); rw [g15]; omega) ?_
    show Q (M (1 + 9 + 7 + 1) c) M
    rw [e4]; exact k M h
  · rw [if_neg (by omega), if_neg (by omega), if_neg (by omega), if_neg (by omega), if_pos hz] at k
    refine rehearseN h (fun M2 h2 hT => get_c s0 (by show c < ((gl gC 140 : Nat) : Int); rw [g7]; omega) ?_)
    show Q (M2 140 c) M2
    rw [(hT.2.2.2.2.1 c s0 s1).1]; exact k M2 h2
  · rw [if_neg (by omega), if_neg (by omega), if_neg (by omega), if_neg (by omega), if_neg (by omega), if_pos hz] at k
    refine rehearseN h (fun M2 h2 hT => get_c s0 (by show c < ((gl gC 142 : Nat) : Int); rw [g8]; omega) ?_)
    show Q (M2 142 c) M2
    rw [(hT.2.2.2.2.1 c s0 s1).2.1]; exact k M2 h2
  · rw [if_neg (by omega), if_neg (by omega), if_neg (by omega), if_neg (by omega), if_neg (by omega), if_neg (by omega), if_pos hz] at k
    refine rehearseN h (fun M2 h2 hT => get_c s0 (by show c < ((gl gC 144 : Nat) : Int); rw [g9]; omega) ?_)
    show Q (M2 144 c) M2
    rw [(hT.2.2.2.2.1 c s0 s1).2.2]; exact k M2 h2
  · rw [if_neg (by omega), if_neg (by omega), if_neg (by omega), if_neg (by omega), if_neg (by omega), if_neg (by omega), if_neg (by omega)] at k
    exact k M h
theorem m_cue {N : Mm} {Q : Int → Mm → Prop} {a : Int → Int} {l : List (Int → Int)} {sn : Option (Int → Int)} {tl : Int} {t : Int → Int} {c w : Int} (hc : inR c) (hw : inR w) (hV : VR a) (h : RM N a l sn tl t) (k : ∀ N' : Mm, RM N' a l sn tl t → Q (F_cue c w a) N') : p_X8_cue gM 0 c w N Q := by
  obtain ⟨g1, g6, g7, g8, g9, g10, g11, g12, g13, g14, g15⟩ := gl_m
  have h36 := hV.2.2.2.2.2.2.1
  have e36 : N (0 + 1) 36 = a 36 := h.1 36 (by omega) (by omega)
  unfold F_cue at k
  unfold p_X8_cue p_X8_isCue
  rw [e36, show gl gM (0 + 1) = 201 from g1, show gl gM (0 + 6) = 40 from g6, show gl gM (0 + 7) = 40 from g7, show gl gM (0 + 8) = 40 from g8]
  refine ⟨hc, by omega, inR_s (by omega) (by omega), in_m hc inR0 (inR_s (by omega) (by omega)) (fun s0 s1 => ?_) (fun q => ⟨Or.inl rfl, inR0, fun z => absurd rfl z, fun _ => by rw [if_pos (by omega)] at k; exact k N h⟩)⟩
  rw [if_neg (by omega)] at k
  refine ⟨Or.inr rfl, inR1, fun _ => tries_m hV h (fun N1 h1 hT => ⟨hw, fun hz => ?_, fun hz => ?_, fun hz => ?_, fun hz => ?_, fun hz => ?_, fun hz => ?_, fun hz => ?_, fun hz => ?_⟩), fun q => absurd q (by decide)⟩
  · rw [if_pos hz] at k
    subst hz
    refine of_m (by omega) (by omega) ?_
    rw [h1.1 _ (by omega) (by omega)]; exact k N1 h1
  · rw [if_neg (by omega), if_pos hz] at k
    subst hz
    refine of_m (by omega) (by omega) ?_
    rw [h1.1 _ (by omega) (by omega)]; exact k N1 h1
  · rw [if_neg (by omega), if_neg (by omega), if_pos hz] at k
    subst hz
    refine of_m (by omega) (by omega) ?_
    rw [h1.1 _ (by omega) (by omega)]; exact k N1 h1
  · rw [if_neg (by omega), if_neg (by omega), if_neg (by omega), if_pos hz] at k
    subst hz
    refine of_m (by omega) (by omega) ?_
    rw [h1.1 _ (by omega) (by omega)]; exact k N1 h1
  · rw [if_neg (by omega), if_neg (by omega), if_neg (by omega), if_neg (by omega), if_pos hz] at k
    refine ⟨s0, by omega, ?_⟩
    show Q (N1 6 c) N1
    rw [(hT.2.2 c s0 (by omega)).1]; exact k N1 h1
  · rw [if_neg (by omega), if_neg (by omega), if_neg (by omega), if_neg (by omega), if_neg (by omega), if_pos hz] at k
    refine ⟨s0, by omega, ?_⟩
    show Q (N1 7 c) N1
    rw [(hT.2.2 c s0 (by omega)).2.1]; exact k N1 h1
  · rw [if_neg (by omega), if_neg (by omega), if_neg (by omega), if_neg (by omega), if_neg (by omega), if_neg (by omega), if_pos hz] at k
    refine ⟨s0, by omega, ?_⟩
    show Q (N1 8 c) N1
    rw [(hT.2.2 c s0 (by omega)).2.2.1]; exact k N1 h1
  · rw [if_neg (by omega), if_neg (by omega), if_neg (by omega), if_neg (by omega), if_neg (by omega), if_neg (by omega), if_neg (by omega)] at k
    exact k N1 h1
/-! hands -/
noncomputable def F_hand (c w : Int) (a : Int → Int) : Int :=
  if c < 0 ∨ a 30 ≤ c then -1 else if w = 0 then a (31 + c) else if w = 1 then Tf a 5 c else if w = 2 then Tf a 6 c else if w = 3 then Tf a 4 c else if w = 4 then Tf a 3 c else -2
theorem c_hand {M : Mm} {Q : Int → Mm → Prop} {a : Int → Int} {l : List (Int → Int)} {sn : Option (Int → Int)} {tl : Int} {t : Int → Int} {c w : Int} (hc : inR c) (hw : inR w) (h : RC M a l sn tl t) (k : ∀ M' : Mm, RC M' a l sn tl t → Q (F_hand c w a) M') : p_X7_hand gC 0 c w M Q := by
  obtain ⟨g0, g1, g2, g3, g4, g5, g6, g7, g8, g9, g10, g11, g12, g13, g14, g15, g16, g17, g18, g19⟩ := gl_c
  have hS := h.1
  have hV := h.2.1
  have h30 := hV.2.2.2.1
  have e30 : M (0 + 1) 5 = a 30 := hS.2.2.2.2.1.1
  unfold F_hand at k
  unfold p_X7_hand
  rw [e30]
  refine below_c hc (inR_s (by omega) (by omega)) (fun s0 s1 => ?_) (fun q => ⟨inR0, fun z => absurd rfl z, fun _ => by rw [if_pos q] at k; exact k M h⟩)
  rw [if_neg (by omega)] at k
  refine ⟨inR1, fun _ => rehearseN h (fun M2 h2 hT => ?_), fun q => absurd q (by decide)⟩
  obtain ⟨x1, x2, x3, x4⟩ := hT.2.2.1 c s0 (by omega)
  refine ⟨hw, fun hz => ?_, fun hz => ?_, fun hz => ?_, fun hz => ?_, fun hz => ?_, fun hz => ?_⟩
  · rw [if_pos hz] at k
    refine get_c s0 (by show c < ((gl gC 9 : Nat) : Int); rw [g19]; omega) ?_
    show Q (M2 (1 + 7 + 1) c) M2
    rw [h2.1.2.2.2.1 c s0 s1]; exact k M2 h2
  · rw [if_neg (by omega), if_pos hz] at k
    refine get_c s0 (by show c < ((gl gC 136 : Nat) : Int); rw [g5]; omega) ?_
    show Q (M2 136 c) M2
    rw [x3]; exact k M2 h2
  · rw [if_neg (by omega), if_neg (by omega), if_pos hz] at k
    refine get_c s0 (by show c < ((gl gC 138 : Nat) : Int); rw [g6]; omega) ?_
    show Q (M2 138 c) M2
    rw [x4]; exact k M2 h2
  · rw [if_neg (by omega), if_neg (by omega), if_neg (by omega), if_pos hz] at k
    refine get_c s0 (by show c < ((gl gC 134 : Nat) : Int); rw [g4]; omega) ?_
    show Q (M2 134 c) M2
    rw [x2]; exact k M2 h2
  · rw [if_neg (by omega), if_neg (by omega), if_neg (by omega), if_neg (by omega), if_pos hz] at k
    refine get_c s0 (by show c < ((gl gC 132 : Nat) : Int); rw [g3]; omega) ?_
    show Q (M2 132 c) M2
    rw [x1]; exact k M2 h2
  · rw [if_neg (by omega), if_neg (by omega), if_neg (by omega), if_neg (by omega), if_neg (by omega)] at k
    exact k M2 h2
theorem m_hand {N : Mm} {Q : Int → Mm → Prop} {a : Int → Int} {l : List (Int → Int)} {sn : Option (Int → Int)} {tl : Int} {t : Int → Int} {c w : Int} (hc : inR c) (hw : inR w) (hV : VR a) (h : RM N a l sn tl t) (k : ∀ N' : Mm, RM N' a l sn tl t → Q (F_hand c w a) N') : p_X8_hand gM 0 c w N Q := by
  obtain ⟨g1, g6, g7, g8, g9, g10, g11, g12, g13, g14, g15⟩ := gl_m
  have h30 := hV.2.2.2.1
  have e30 : N (0 + 1) 30 = a 30 := h.1 30 (by omega) (by omega)
  unfold F_hand at k
  unfold p_X8_hand p_X8_isHand
  rw [e30, show gl gM (0 + 1) = 201 from g1, show gl gM (0 + 10) = 4 from g10, show gl gM (0 + 11) = 4 from g11, show gl gM (0 + 12) = 4 from g12, show gl gM (0 + 15) = 4 from g15]
  refine ⟨hc, by omega, inR_s (by omega) (by omega), in_m hc inR0 (inR_s (by omega) (by omega)) (fun s0 s1 => ?_) (fun q => ⟨Or.inl rfl, inR0, fun z => absurd rfl z, fun _ => by rw [if_pos (by omega)] at k; exact k N h⟩)⟩
  rw [if_neg (by omega)] at k
  refine ⟨Or.inr rfl, inR1, fun _ => tries_m hV h (fun N1 h1 hT => ?_), fun q => absurd q (by decide)⟩
  obtain ⟨x1, x2, x3, x4⟩ := hT.1 c s0 (by omega)
  refine ⟨hw, fun hz => ?_, fun hz => ?_, fun hz => ?_, fun hz => ?_, fun hz => ?_, fun hz => ?_⟩
  · rw [if_pos hz] at k
    refine ⟨by omega, by omega, ?_⟩
    show Q (N1 1 (31 + c)) N1
    rw [h1.1 _ (by omega) (by omega)]; exact k N1 h1
  · rw [if_neg (by omega), if_pos hz] at k
    refine ⟨s0, by omega, ?_⟩
    show Q (N1 11 c) N1
    rw [x2]; exact k N1 h1
  · rw [if_neg (by omega), if_neg (by omega), if_pos hz] at k
    refine ⟨s0, by omega, ?_⟩
    show Q (N1 12 c) N1
    rw [x3]; exact k N1 h1
  · rw [if_neg (by omega), if_neg (by omega), if_neg (by omega), if_pos hz] at k
    refine ⟨s0, by omega, ?_⟩
    show Q (N1 10 c) N1
    rw [x1]; exact k N1 h1
  · rw [if_neg (by omega), if_neg (by omega), if_neg (by omega), if_neg (by omega), if_pos hz] at k
    refine ⟨s0, by omega, ?_⟩
    show Q (N1 15 c) N1
    rw [x4]; exact k N1 h1
  · rw [if_neg (by omega), if_neg (by omega), if_neg (by omega), if_neg (by omega), if_neg (by omega)] at k
    exact k N1 h1
