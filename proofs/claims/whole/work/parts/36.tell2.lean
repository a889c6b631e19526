/-! PURE: what is told of scenes, missed cues, other hands, clean takes, counts -/
theorem isum_congr {f g : Int → Int} : ∀ n : Nat, (∀ c : Int, 0 ≤ c → c < n → f c = g c) → isum f n = isum g n
  | 0, _ => rfl
  | n + 1, h => by
    unfold isum
    rw [isum_congr n (fun c c0 c1 => h c c0 (by omega)), h n (by omega) (by omega)]
noncomputable def misF (a : Int → Int) (T : Mm) (s : Int) : Int → Int := fun c => if sc a c = s then (if T 9 c ≤ 0 then 0 else 1) else 0
def lenF (a : Int → Int) (T : Mm) (s : Int) : Int → Int := fun c => if sc a c = s then T 11 c else 0
theorem step_9 {a : Int → Int} {n : Nat} {T : Mm} {c j : Int} : tStep a n T c 9 j = if j = c then whyC a n T c else T 9 j := by
  unfold tStep
  by_cases h : whyC a n T c = 0
  · rw [if_pos h, h]; rfl
  · rw [if_neg h]; rfl
theorem step_11 {a : Int → Int} {n : Nat} {T : Mm} {c j : Int} : tStep a n T c 11 j = if j = c then (if whyC a n T c = 0 then lentI T (sd a c) (sc a c) else 0) else T 11 j := by
  unfold tStep
  by_cases h : whyC a n T c = 0
  · rw [if_pos h, if_pos h]; rfl
  · rw [if_neg h, if_neg h]; rfl
theorem step_12 {a : Int → Int} {n : Nat} {T : Mm} {c s : Int} : tStep a n T c 12 s = T 12 s + (if sc a c = s then (if whyC a n T c ≤ 0 then 0 else 1) else 0) := by
  have hw := whyC_in (a := a) (n := n) (T := T) (c := c)
  unfold tStep
  by_cases h : whyC a n T c = 0
  · rw [if_pos h, h]
    show T 12 s = _
    by_cases hs : sc a c = s
    · rw [if_pos hs]; simp
    · rw [if_neg hs]; omega
  · rw [if_neg h]
    show (if s = sc a c then T 12 (sc a c) + 1 else T 12 s) = _
    by_cases hs : sc a c = s
    · rw [if_pos hs.symm, if_pos hs, if_neg (by omega), hs]
    · rw [if_neg (fun z => hs z.symm), if_neg hs]; omega
theorem step_13 {a : Int → Int} {n : Nat} {T : Mm} {c s : Int} : tStep a n T c 13 s = T 13 s + (if sc a c = s then (if whyC a n T c = 0 then lentI T (sd a c) (sc a c) else 0) else 0) := by
  unfold tStep
  by_cases h : whyC a n T c = 0
  · rw [if_pos h, if_pos h]
    show (if s = sc a c then T 13 (sc a c) + lentI T (sd a c) (sc a c) else T 13 s) = _
    by_cases hs : sc a c = s
    · rw [if_pos hs.symm, if_pos hs, hs]
    · rw [if_neg (fun z => hs z.symm), if_neg hs]; omega
  · rw [if_neg h, if_neg h]
    show T 13 s = _
    by_cases hs : sc a c = s
    · rw [if_pos hs]; omega
    · rw [if_neg hs]; omega
theorem run_sums {a : Int → Int} {n : Nat} {T : Mm} {s : Int} : ∀ c : Nat, tRun a n T c 12 s = isum (misF a (tRun a n T c) s) c ∧ tRun a n T c 13 s = isum (lenF a (tRun a n T c) s) c
  | 0 => ⟨rfl, rfl⟩
  | c + 1 => by
    obtain ⟨i1, i2⟩ := run_sums (a := a) (n := n) (T := T) (s := s) c
    have e : tRun a n T (c + 1) = tStep a n (tRun a n T c) c := rfl
    rw [e]
    have s1 : ∀ f : Int → Int, isum f (c + 1) = isum f c + f c := fun f => rfl
    constructor
    · rw [step_12, i1, s1, isum_congr (f := misF a (tStep a n (tRun a n T c) c) s) (g := misF a (tRun a n T c) s) c (fun j j0 j1 => by unfold misF; rw [step_9, if_neg (show ¬ j = (c : Int) by omega)])]
      congr 1
      show _ = (if sc a c = s then (if tStep a n (tRun a n T c) c 9 c ≤ 0 then 0 else 1) else 0)
      rw [step_9, if_pos (rfl : (c : Int) = c)]
    · rw [step_13, i2, s1, isum_congr (f := lenF a (tStep a n (tRun a n T c) c) s) (g := lenF a (tRun a n T c) s) c (fun j j0 j1 => by unfold lenF; rw [step_11, if_neg (show ¬ j = (c : Int) by omega)])]
      congr 1
      show _ = (if sc a c = s then tStep a n (tRun a n T c) c 11 c else 0)
      rw [step_11, if_pos (rfl : (c : Int) = c)]
noncomputable def fT (a : Int → Int) (s : Int) (n : Int) : Nat → Int
  | 0 => -5
  | m + 1 => if sc a (n - (m + 1 : Nat)) = s then tk a (n - (m + 1 : Nat)) else fT a s n m
noncomputable def gE (a : Int → Int) (s : Int) : Nat → Int
  | 0 => -5
  | n + 1 => if sc a n = s then max (gE a s n) (tk a n + la a n) else gE a s n
noncomputable def F_scene (s w : Int) (a : Int → Int) : Int :=
  if s < 0 ∨ 6 ≤ s then -1 else if w = 0 then isum (cntC a s) (a 36).toNat else if w = 1 then fT a s (a 36) (a 36).toNat else if w = 2 then gE a s (a 36).toNat else if w = 3 then Tf a 12 s else if w = 4 then Tf a 13 s else -2
theorem gE_in {a : Int → Int} {s : Int} (hV : VR a) : ∀ n : Nat, (n : Int) ≤ a 36 → -5 ≤ gE a s n ∧ gE a s n ≤ 1019
  | 0, _ => by unfold gE; omega
  | n + 1, h => by
    have ih := gE_in (s := s) hV n (by omega)
    obtain ⟨⟨t0, t1⟩, -, -, l0, l1⟩ := hV.2.2.2.2.2.2.2.1 n (by omega) (by omega)
    unfold gE
    split <;> omega
theorem ft_c {M : Mm} {Q : Int → Mm → Prop} {a : Int → Int} {s : Int} (hV : VR a) (hS : SR M 1 a) (hs : inR s) : ∀ (m : Nat) (f : Nat), m ≤ (a 36).toNat → m < f → Q (fT a s (a 36) m) M → p_X0_firstTick_L2 gC f 10 s (a 36 - m) M Q := by
  obtain ⟨g0, g1, g2, g3, g4, g5, g6, g7, g8, g9, g10, g11, g12, g13, g14, g15, g16, g17, g18, g19⟩ := gl_c
  have h36 := hV.2.2.2.2.2.2.1
  have e36 : M 10 5 = a 36 := hS.2.2.2.2.2.1
  intro m
  induction m with
  | zero =>
    intro f _ hf k
    obtain ⟨f', rfl⟩ : ∃ f', f = f' + 1 := ⟨f - 1, by omega⟩
    unfold p_X0_firstTick_L2
    rw [e36]
    exact ⟨inR_s (by omega) (by omega), inR_s (by omega) (by omega), fun _ => k, fun h => absurd h (by omega)⟩
  | succ m ih =>
    intro f hm hf k
    obtain ⟨f', rfl⟩ : ∃ f', f = f' + 1 := ⟨f - 1, by omega⟩
    unfold p_X0_firstTick_L2
    rw [e36]
    obtain ⟨e1, e2, e3, e4⟩ := hS.2.2.2.2.2.2 (a 36 - (m + 1 : Nat)) (by omega) (by omega)
    obtain ⟨⟨t0, t1⟩, ⟨s0, s1⟩, -⟩ := hV.2.2.2.2.2.2.2.1 (a 36 - (m + 1 : Nat)) (by omega) (by omega)
    have e1' : M 12 (a 36 - (m + 1 : Nat)) = tk a (a 36 - (m + 1 : Nat)) := e1
    have e2' : M 14 (a 36 - (m + 1 : Nat)) = sc a (a 36 - (m + 1 : Nat)) := e2
    unfold fT at k
    refine ⟨inR_s (by omega) (by omega), inR_s (by omega) (by omega), fun h => absurd h (by omega), fun _ => get_c (by omega) (by show _ < ((gl gC 14 : Nat) : Int); rw [g13]; omega) ?_⟩
    show inR (M 14 _) ∧ _ ∧ (M 14 _ ≠ s → _) ∧ (M 14 _ = s → _)
    rw [e2']
    refine ⟨inR_s (by omega) (by omega), hs, fun hne => ?_, fun he => ?_⟩
    · rw [if_neg hne] at k
      have := ih f' (by omega) (by omega) k
      rw [show a 36 - (m + 1 : Nat) + 1 = a 36 - (m : Nat) by omega]
      exact this
    · rw [if_pos he] at k
      refine get_c (by omega) (by show _ < ((gl gC 12 : Nat) : Int); rw [g12]; omega) ?_
      show Q (M 12 _) M
      rw [e1']; exact k
theorem ge_c {M : Mm} {Q : Int → Mm → Prop} {a : Int → Int} {s : Int} (hV : VR a) (hS : SR M 1 a) (hs : inR s) (k : Q (gE a s (a 36).toNat) M) : ∀ (f j : Nat), j ≤ (a 36).toNat → (a 36).toNat - j < f → p_X0_greatestEnd_L5 gC f 10 s (gE a s j) (j : Int) M Q := by
  obtain ⟨g0, g1, g2, g3, g4, g5, g6, g7, g8, g9, g10, g11, g12, g13, g14, g15, g16, g17, g18, g19⟩ := gl_c
  have h36 := hV.2.2.2.2.2.2.1
  have e36 : M 10 5 = a 36 := hS.2.2.2.2.2.1
  intro f
  induction f with
  | zero => intro j _ hm; omega
  | succ f ih =>
    intro j hj hm
    have hg := gE_in (s := s) hV j (by omega)
    unfold p_X0_greatestEnd_L5
    rw [e36]
    refine ⟨inR_s (by omega) (by omega), inR_s (by omega) (by omega), fun hge => ?_, fun hlt => get_c (by omega) (by show _ < ((gl gC 14 : Nat) : Int); rw [g13]; omega) ?_⟩
    · rw [show (a 36).toNat = j by omega] at k; exact k
    · obtain ⟨e1, e2, e3, e4⟩ := hS.2.2.2.2.2.2 j (by omega) hlt
      obtain ⟨⟨t0, t1⟩, ⟨s0, s1⟩, -, l0, l1⟩ := hV.2.2.2.2.2.2.2.1 j (by omega) hlt
      have e1' : M 12 j = tk a j := e1
      have e2' : M 14 j = sc a j := e2
      have e4' : M 18 j = la a j := e4
      have nx := ih (j + 1) (by omega) (by omega)
      unfold gE at nx
      show inR (M 14 j) ∧ _ ∧ (M 14 j ≠ s → _) ∧ (M 14 j = s → _)
      rw [e2']
      refine ⟨inR_s (by omega) (by omega), hs, fun hne => ?_, fun he => ?_⟩
      · rw [if_neg hne] at nx; exact nx
      · rw [if_pos he] at nx
        unfold p_X0_endOf
        refine get_c (by omega) (by show _ < ((gl gC 12 : Nat) : Int); rw [g12]; omega) (get_c (by omega) (by show _ < ((gl gC 18 : Nat) : Int); rw [g15]; omega) ?_)
        show inR _ ∧ inR (M 12 j + M 18 j) ∧ p_X0_greatestEnd_L5 gC f 10 s (max _ (M 12 j + M 18 j)) _ M Q
        rw [e1', e4']
        exact ⟨inR_s (by omega) (by omega), inR_s (by omega) (by omega), nx⟩
theorem c_scene {M : Mm} {Q : Int → Mm → Prop} {a : Int → Int} {l : List (Int → Int)} {sn : Option (Int → Int)} {tl : Int} {t : Int → Int} {s w : Int} (hs : inR s) (hw : inR w) (h : RC M a l sn tl t) (k : ∀ M' : Mm, RC M' a l sn tl t → Q (F_scene s w a) M') : p_X7_scene gC 0 s w M Q := by
  obtain ⟨g0, g1, g2, g3, g4, g5, g6, g7, g8, g9, g10, g11, g12, g13, g14, g15, g16, g17, g18, g19⟩ := gl_c
  have hS := h.1
  have hV := h.2.1
  have h36 := hV.2.2.2.2.2.2.1
  unfold F_scene at k
  unfold p_X7_scene
  refine below_c hs ⟨by decide, by decide⟩ (fun s0 s1 => ⟨inR1, fun _ => ⟨hw, fun hz => ?_, fun hz => ?_, fun hz => ?_, fun hz => ?_, fun hz => ?_, fun hz => ?_⟩, fun q => absurd q (by decide)⟩) (fun q => ⟨inR0, fun z => absurd rfl z, fun _ => ?_⟩)
  · rw [if_neg (by omega), if_pos hz] at k
    exact szC_c hV hS hs (k M h)
  · rw [if_neg (by omega), if_neg (by omega), if_pos hz] at k
    unfold p_X0_firstTick
    have := ft_c (Q := Q) hV hS hs (a 36).toNat 42 (Nat.le_refl _) (by omega) (k M h)
    rw [show a 36 - ((a 36).toNat : Int) = 0 by omega] at this
    exact ⟨42, this⟩
  · rw [if_neg (by omega), if_neg (by omega), if_neg (by omega), if_pos hz] at k
    unfold p_X0_greatestEnd
    exact ⟨42, ge_c hV hS hs (k M h) 42 0 (by omega) (by omega)⟩
  · rw [if_neg (by omega), if_neg (by omega), if_neg (by omega), if_neg (by omega), if_pos hz] at k
    refine rehearseN h (fun M2 h2 hT => get_c s0 (by show s < ((gl gC 146 : Nat) : Int); rw [g10]; omega) ?_)
    show Q (M2 146 s) M2
    rw [(hT.2.2.2.2.2 s s0 s1).1]; exact k M2 h2
  · rw [if_neg (by omega), if_neg (by omega), if_neg (by omega), if_neg (by omega), if_neg (by omega), if_pos hz] at k
    refine rehearseN h (fun M2 h2 hT => get_c s0 (by show s < ((gl gC 148 : Nat) : Int); rw [g11]; omega) ?_)
    show Q (M2 148 s) M2
    rw [(hT.2.2.2.2.2 s s0 s1).2]; exact k M2 h2
  · rw [if_neg (by omega), if_neg (by omega), if_neg (by omega), if_neg (by omega), if_neg (by omega), if_neg (by omega)] at k
    exact k M h
  · rw [if_pos q] at k; exact k M h
theorem co_m {N : Mm} {Q : Int → Mm → Prop} {a : Int → Int} {s : Int} (hV : VR a) (hN : ∀ k : Int, 0 ≤ k → k < 201 → N 1 k = a k) (hs : inR s) (k : Q (isum (cntC a s) (a 36).toNat) N) :
    ∀ (m j : Nat), j ≤ (a 36).toNat → (a 36).toNat - j < m → p_X8_cuesOf_L4 gM m 0 s (isum (cntC a s) j) (j : Int) N Q := by
  obtain ⟨g1, g6, g7, g8, g9, g10, g11, g12, g13, g14, g15⟩ := gl_m
  have h36 := hV.2.2.2.2.2.2.1
  have e36 : N 1 36 = a 36 := hN 36 (by omega) (by omega)
  intro m
  induction m with
  | zero => intro j _ hm; omega
  | succ m ih =>
    intro j hj hm
    unfold p_X8_cuesOf_L4
    simp only [Nat.zero_add, g1]
    rw [e36]
    refine ⟨by omega, inR_s (by omega) (by omega), inR_s (by omega) (by omega), fun hge => ?_, fun hlt => of_m (by omega) (by omega) ?_⟩
    · rw [show (a 36).toNat = j by omega] at k; exact k
    · have e : N 1 (41 + 4 * (j : Int) + 0) = sc a j := hN _ (by omega) (by omega)
      have v := (hV.2.2.2.2.2.2.2.1 j (by omega) hlt).2.1
      have nx := ih (j + 1) (by omega) (by omega)
      have ee : isum (cntC a s) (j + 1) = isum (cntC a s) j + cntC a s j := rfl
      rw [ee] at nx
      unfold cntC at nx
      rw [e]
      refine ⟨inR_s (by omega) (by omega), hs, fun hne => ?_, fun he => ?_⟩
      · rw [if_neg hne] at nx; exact nx
      · rw [if_pos he] at nx; exact nx
theorem ft_m {N : Mm} {Q : Int → Mm → Prop} {a : Int → Int} {s : Int} (hV : VR a) (hN : ∀ k : Int, 0 ≤ k → k < 201 → N 1 k = a k) (hs : inR s) : ∀ (m : Nat) (f : Nat), m ≤ (a 36).toNat → m < f → Q (fT a s (a 36) m) N → p_X8_firstTick_L2 gM f 0 s (a 36 - m) N Q := by
  obtain ⟨g1, g6, g7, g8, g9, g10, g11, g12, g13, g14, g15⟩ := gl_m
  have h36 := hV.2.2.2.2.2.2.1
  have e36 : N 1 36 = a 36 := hN 36 (by omega) (by omega)
  intro m
  induction m with
  | zero =>
    intro f _ hf k
    obtain ⟨f', rfl⟩ : ∃ f', f = f' + 1 := ⟨f - 1, by omega⟩
    unfold p_X8_firstTick_L2
    simp only [Nat.zero_add, g1]
    rw [e36]
    exact ⟨by omega, inR_s (by omega) (by omega), inR_s (by omega) (by omega), fun _ => k, fun h => absurd h (by omega)⟩
  | succ m ih =>
    intro f hm hf k
    obtain ⟨f', rfl⟩ : ∃ f', f = f' + 1 := ⟨f - 1, by omega⟩
    unfold p_X8_firstTick_L2
    simp only [Nat.zero_add, g1]
    rw [e36]
    obtain ⟨⟨t0, t1⟩, ⟨s0, s1⟩, -⟩ := hV.2.2.2.2.2.2.2.1 (a 36 - (m + 1 : Nat)) (by omega) (by omega)
    have e1 : N 1 (41 + 4 * (a 36 - (m + 1 : Nat)) + 1) = tk a (a 36 - (m + 1 : Nat)) := hN _ (by omega) (by omega)
    have e0 : N 1 (41 + 4 * (a 36 - (m + 1 : Nat)) + 0) = sc a (a 36 - (m + 1 : Nat)) := hN _ (by omega) (by omega)
    unfold fT at k
    refine ⟨by omega, inR_s (by omega) (by omega), inR_s (by omega) (by omega), fun h => absurd h (by omega), fun _ => of_m (by omega) (by omega) ?_⟩
    rw [e0]
    refine ⟨inR_s (by omega) (by omega), hs, fun hne => ?_, fun he => of_m (by omega) (by omega) ?_⟩
    · rw [if_neg hne] at k
      have := ih f' (by omega) (by omega) k
      rw [show a 36 - (m + 1 : Nat) + 1 = a 36 - (m : Nat) by omega]
      exact this
    · rw [if_pos he] at k
      rw [e1]; exact k
theorem ge_m {N : Mm} {Q : Int → Mm → Prop} {a : Int → Int} {s : Int} (hV : VR a) (hN : ∀ k : Int, 0 ≤ k → k < 201 → N 1 k = a k) (hs : inR s) (k : Q (gE a s (a 36).toNat) N) : ∀ (f j : Nat), j ≤ (a 36).toNat → (a 36).toNat - j < f → p_X8_greatestEnd_L5 gM f 0 s (gE a s j) (j : Int) N Q := by
  obtain ⟨g1, g6, g7, g8, g9, g10, g11, g12, g13, g14, g15⟩ := gl_m
  have h36 := hV.2.2.2.2.2.2.1
  have e36 : N 1 36 = a 36 := hN 36 (by omega) (by omega)
  intro f
  induction f with
  | zero => intro j _ hm; omega
  | succ f ih =>
    intro j hj hm
    have hg := gE_in (s := s) hV j (by omega)
    unfold p_X8_greatestEnd_L5
    simp only [Nat.zero_add, g1]
    rw [e36]
    refine ⟨by omega, inR_s (by omega) (by omega), inR_s (by omega) (by omega), fun hge => ?_, fun hlt => of_m (by omega) (by omega) ?_⟩
    · rw [show (a 36).toNat = j by omega] at k; exact k
    · obtain ⟨⟨t0, t1⟩, ⟨s0, s1⟩, -, l0, l1⟩ := hV.2.2.2.2.2.2.2.1 j (by omega) hlt
      have e0 : N 1 (41 + 4 * (j : Int) + 0) = sc a j := hN _ (by omega) (by omega)
      have e1 : N 1 (41 + 4 * (j : Int) + 1) = tk a j := hN _ (by omega) (by omega)
      have e3 : N 1 (41 + 4 * (j : Int) + 3) = la a j := hN _ (by omega) (by omega)
      have nx := ih (j + 1) (by omega) (by omega)
      unfold gE at nx
      rw [e0]
      refine ⟨inR_s (by omega) (by omega), hs, fun hne => ⟨inR_s (by omega) (by omega), fun _ => ?_, fun h => absurd h (by omega)⟩, fun he => of_m (by omega) (by omega) (of_m (by omega) (by omega) ?_)⟩
      · rw [if_neg hne] at nx; exact nx
      · rw [if_pos he] at nx
        rw [e1, e3]
        refine ⟨inR_s (by omega) (by omega), inR_s (by omega) (by omega), fun h => ?_, fun h => ?_⟩
        · rw [show max (gE a s j) (tk a j + la a j) = gE a s j by omega] at nx; exact nx
        · rw [show max (gE a s j) (tk a j + la a j) = tk a j + la a j by omega] at nx; exact nx
theorem mo_m {N : Mm} {Q : Int → Mm → Prop} {a : Int → Int} {s : Int} (hV : VR a) (hN : ∀ k : Int, 0 ≤ k → k < 201 → N 1 k = a k) (hs : inR s) (h7 : ∀ j, 0 ≤ j → j < a 36 → N 7 j = Tf a 9 j) (k : Q (isum (misF a (Tf a) s) (a 36).toNat) N) :
    ∀ (m j : Nat), j ≤ (a 36).toNat → (a 36).toNat - j < m → p_X8_missedOf_L8 gM m 0 s (isum (misF a (Tf a) s) j) (j : Int) N Q := by
  obtain ⟨g1, g6, g7, g8, g9, g10, g11, g12, g13, g14, g15⟩ := gl_m
  have h36 := hV.2.2.2.2.2.2.1
  have e36 : N 1 36 = a 36 := hN 36 (by omega) (by omega)
  have hW := VT_Tf hV
  intro m
  induction m with
  | zero => intro j _ hm; omega
  | succ m ih =>
    intro j hj hm
    unfold p_X8_missedOf_L8
    simp only [Nat.zero_add, g1, g7]
    rw [e36]
    refine ⟨by omega, inR_s (by omega) (by omega), inR_s (by omega) (by omega), fun hge => ?_, fun hlt => of_m (by omega) (by omega) ?_⟩
    · rw [show (a 36).toNat = j by omega] at k; exact k
    · have e : N 1 (41 + 4 * (j : Int) + 0) = sc a j := hN _ (by omega) (by omega)
      have v := (hV.2.2.2.2.2.2.2.1 j (by omega) hlt).2.1
      have v9 := hW.2.2.2.1 j (by omega) hlt
      have nx := ih (j + 1) (by omega) (by omega)
      have ee : isum (misF a (Tf a) s) (j + 1) = isum (misF a (Tf a) s) j + misF a (Tf a) s j := rfl
      rw [ee] at nx
      unfold misF at nx
      rw [e, h7 j (by omega) hlt]
      refine ⟨inR_s (by omega) (by omega), hs, fun hne => ?_, fun he => ⟨by omega, by omega, inR_s (by omega) (by omega), fun h => ?_, fun h => ?_⟩⟩
      · rw [if_neg hne] at nx; exact nx
      · rw [if_pos he, if_pos h] at nx; exact nx
      · rw [if_pos he, if_neg (by omega)] at nx; exact nx
theorem lt_m {N : Mm} {Q : Int → Mm → Prop} {a : Int → Int} {s : Int} (hV : VR a) (hN : ∀ k : Int, 0 ≤ k → k < 201 → N 1 k = a k) (hs : inR s) (h9 : ∀ j, 0 ≤ j → j < a 36 → N 9 j = Tf a 11 j) (k : Q (isum (lenF a (Tf a) s) (a 36).toNat) N) :
    ∀ (m j : Nat), j ≤ (a 36).toNat → (a 36).toNat - j < m → p_X8_lentTo_L8 gM m 0 s (isum (lenF a (Tf a) s) j) (j : Int) N Q := by
  obtain ⟨g1, g6, g7, g8, g9, g10, g11, g12, g13, g14, g15⟩ := gl_m
  have h36 := hV.2.2.2.2.2.2.1
  have e36 : N 1 36 = a 36 := hN 36 (by omega) (by omega)
  intro m
  induction m with
  | zero => intro j _ hm; omega
  | succ m ih =>
    intro j hj hm
    unfold p_X8_lentTo_L8
    simp only [Nat.zero_add, g1, g9]
    rw [e36]
    refine ⟨by omega, inR_s (by omega) (by omega), inR_s (by omega) (by omega), fun hge => ?_, fun hlt => of_m (by omega) (by omega) ?_⟩
    · rw [show (a 36).toNat = j by omega] at k; exact k
    · have e : N 1 (41 + 4 * (j : Int) + 0) = sc a j := hN _ (by omega) (by omega)
      have v := (hV.2.2.2.2.2.2.2.1 j (by omega) hlt).2.1
      have nx := ih (j + 1) (by omega) (by omega)
      have ee : isum (lenF a (Tf a) s) (j + 1) = isum (lenF a (Tf a) s) j + lenF a (Tf a) s j := rfl
      rw [ee] at nx
      unfold lenF at nx
      rw [e, h9 j (by omega) hlt]
      refine ⟨inR_s (by omega) (by omega), hs, fun hne => ?_, fun he => ⟨by omega, by omega, ?_⟩⟩
      · rw [if_neg hne] at nx; exact nx
      · rw [if_pos he] at nx; exact nx
theorem m_scene {N : Mm} {Q : Int → Mm → Prop} {a : Int → Int} {l : List (Int → Int)} {sn : Option (Int → Int)} {tl : Int} {t : Int → Int} {s w : Int} (hs : inR s) (hw : inR w) (hV : VR a) (h : RM N a l sn tl t) (k : ∀ N' : Mm, RM N' a l sn tl t → Q (F_scene s w a) N') : p_X8_scene gM 0 s w N Q := by
  have h36 := hV.2.2.2.2.2.2.1
  have hsum := run_sums (a := a) (n := (a 30).toNat) (T := t0 a) (s := s) (a 36).toNat
  unfold F_scene at k
  unfold p_X8_scene p_X8_isScene
  refine ⟨hs, in_m hs inR0 ⟨by decide, by decide⟩ (fun s0 s1 => ⟨Or.inr rfl, inR1, fun _ => ⟨hw, fun hz => ?_, fun hz => ?_, fun hz => ?_, fun hz => ?_, fun hz => ?_, fun hz => ?_⟩, fun q => absurd q (by decide)⟩) (fun q => ⟨Or.inl rfl, inR0, fun z => absurd rfl z, fun _ => ?_⟩)⟩
  · rw [if_neg (by omega), if_pos hz] at k
    unfold p_X8_cuesOf
    exact ⟨42, co_m hV h.1 hs (k N h) 42 0 (by omega) (by omega)⟩
  · rw [if_neg (by omega), if_neg (by omega), if_pos hz] at k
    unfold p_X8_firstTick
    have := ft_m (Q := Q) hV h.1 hs (a 36).toNat 42 (Nat.le_refl _) (by omega) (k N h)
    rw [show a 36 - ((a 36).toNat : Int) = 0 by omega] at this
    exact ⟨42, this⟩
  · rw [if_neg (by omega), if_neg (by omega), if_neg (by omega), if_pos hz] at k
    unfold p_X8_greatestEnd
    exact ⟨42, ge_m hV h.1 hs (k N h) 42 0 (by omega) (by omega)⟩
  · rw [if_neg (by omega), if_neg (by omega), if_neg (by omega), if_neg (by omega), if_pos hz] at k
    unfold p_X8_missedOf
    refine tries_m hV h (fun N1 h1 hT => ⟨42, ?_⟩)
    exact mo_m hV h1.1 hs (fun j j0 j1 => (hT.2.2 j j0 j1).2.1) (by have := k N1 h1; rw [show Tf a 12 s = isum (misF a (Tf a) s) (a 36).toNat from hsum.1] at this; exact this) 42 0 (by omega) (by omega)
  · rw [if_neg (by omega), if_neg (by omega), if_neg (by omega), if_neg (by omega), if_neg (by omega), if_pos hz] at k
    unfold p_X8_lentTo
    refine tries_m hV h (fun N1 h1 hT => ⟨42, ?_⟩)
    exact lt_m hV h1.1 hs (fun j j0 j1 => (hT.2.2 j j0 j1).2.2.2) (by have := k N1 h1; rw [show Tf a 13 s = isum (lenF a (Tf a) s) (a 36).toNat from hsum.2] at this; exact this) 42 0 (by omega) (by omega)
  · rw [if_neg (by omega), if_neg (by omega), if_neg (by omega), if_neg (by omega), if_neg (by omega), if_neg (by omega)] at k
    exact k N h
  · rw [if_pos (by omega)] at k; exact k N h
