/-! PURE: a take of the class -/
theorem gl_c : gl gC 126 = 10 ∧ gl gC 128 = 10 ∧ gl gC 130 = 10 ∧ gl gC 132 = 4 ∧ gl gC 134 = 4 ∧ gl gC 136 = 4 ∧ gl gC 138 = 4 ∧ gl gC 140 = 40 ∧ gl gC 142 = 40 ∧ gl gC 144 = 40 ∧ gl gC 146 = 6 ∧ gl gC 148 = 6 ∧ gl gC 12 = 40 ∧ gl gC 14 = 40 ∧ gl gC 16 = 40 ∧ gl gC 18 = 40 ∧ gl gC 3 = 10 ∧ gl gC 5 = 10 ∧ gl gC 7 = 10 ∧ gl gC 9 = 4 := by decide +kernel
theorem why_c {M T : Mm} {Q : Int → Mm → Prop} {a : Int → Int} {n : Nat} {c : Int} (hS : SR M 1 a) (hV : VR a) (c0 : 0 ≤ c) (c1 : c < a 36) (hn4 : n ≤ 4) (hT : TauC M T n c) (hW : VT T n c) (k : Q (whyC a n T c) M) : p_X3_reasonToMiss gC 124 c 1 (nearC a n T c) M Q := by
  obtain ⟨g0, g1, g2, g3, g4, g5, g6, g7, g8, g9, g10, g11, g12, g13, g14, g15, g16, g17, g18, g19⟩ := gl_c
  obtain ⟨v1, v2, v3, v4, v5, v6, v7, v8, v9⟩ := hV
  obtain ⟨⟨t0, t1⟩, ⟨s0, s1⟩, ⟨d0, d1⟩, ⟨l0, l1⟩⟩ := v8 c c0 c1
  obtain ⟨e1, e2, e3, e4⟩ := hS.2.2.2.2.2.2 c c0 c1
  obtain ⟨f0, f1, f2⟩ := hT.2.1 (sd a c) d0 (by omega)
  obtain ⟨r1, r2, r3, r4, r5, r6, r7⟩ := hW.1 (sd a c) d0 (by omega)
  have h35 : M 1 6 = a 35 := hS.2.2.2.2.1.2.1
  have hn := near_in (T := T) (sh := a (sd a c)) (tick := tk a c) n
  have hn' : nearC a n T c = nearN T (a (sd a c)) (tk a c) n := rfl
  have e1' : M 12 c = tk a c := e1
  have e2' : M 14 c = sc a c := e2
  have e3' : M 16 c = sd a c := e3
  unfold p_X3_reasonToMiss
  refine get_c c0 (by show c < ((gl gC 16 : Nat) : Int); rw [g14]; omega) ?_
  show p_X4_get gC 125 (M 16 c) M _
  rw [e3']
  refine get_c d0 (by show sd a c < ((gl gC 126 : Nat) : Int); rw [g0]; omega) ?_
  show inR (M 126 (sd a c)) ∧ (0 < M 126 (sd a c) → _) ∧ (M 126 (sd a c) ≤ 0 → _)
  rw [f0]
  unfold whyC at k
  refine ⟨inR_s (by omega) (by omega), fun hpos => ?_, fun hz => by rw [if_pos hz] at k; exact k⟩
  rw [if_neg (by omega)] at k
  refine get_c c0 (by show c < ((gl gC 12 : Nat) : Int); rw [g12]; omega) ?_
  refine get_c d0 (by show sd a c < ((gl gC 130 : Nat) : Int); rw [g2]; omega) ?_
  refine get_c c0 (by show c < ((gl gC 14 : Nat) : Int); rw [g13]; omega) ?_
  show p_X3_isLent gC 124 (sd a c) (M 14 c) M _
  rw [e2']
  refine lent_c (T := T) d0 (by omega) ⟨s0, s1⟩ f1 ⟨r3, r4⟩ ?_
  have J : ∀ y0 : Int, 0 ≤ y0 → y0 ≤ 20 → Q (if tk a c - T 2 (sd a c) < y0 then 2 else if nearC a n T c = -5 then 3 else 0) M → p_X3_reasonToMiss_J78 gC (nearC a n T c) (M 12 c - M 130 (sd a c)) y0 M Q := by
    intro y0 y1 y2 kk
    unfold p_X3_reasonToMiss_J78
    rw [e1', f2]
    refine ⟨inR_s (by omega) (by omega), inR_s (by omega) (by omega), fun h1 => ?_, fun h1 => by rw [if_pos h1] at kk; exact kk⟩
    rw [if_neg (by omega)] at kk
    refine ⟨inR_s (by omega) (by omega), fun h2 => by rw [if_neg h2] at kk; exact kk, fun h2 => by rw [if_pos h2] at kk; exact kk⟩
  have hli := lentI_in (T := T) (s := sd a c) (scn := sc a c)
  refine ⟨inR_s (by omega) (by omega), fun h1 => ?_, fun h1 => ?_⟩
  · rw [if_pos h1] at k; exact J 0 (by omega) (by omega) k
  · rw [if_neg h1] at k
    show p_X3_reasonToMiss_J78 gC (nearC a n T c) (M 12 c - M 130 (sd a c)) (M 1 6) M Q
    rw [h35]
    exact J (a 35) (by omega) (by omega) k
set_option maxHeartbeats 1000000 in
theorem play_j {M T : Mm} {Q : Mm → Prop} {a : Int → Int} {n : Nat} {c p : Int} (hS : SR M 1 a) (hV : VR a) (c0 : 0 ≤ c) (c1 : c < a 36) (hn : n ≤ 4) (p0 : 0 ≤ p) (p1 : p < (n : Int))
    (h12 : M 124 12 = (n : Int)) (h7 : M 124 13 = T 7 0 ∧ M 124 14 = T 7 1) (hs : ∀ s, 0 ≤ s → s < 10 → M 126 s = T 0 s ∧ M 128 s = T 1 s ∧ M 130 s = T 2 s) (hh : ∀ h, 0 ≤ h → h < (n : Int) → M 132 h = T 3 h ∧ M 134 h = T 4 h ∧ M 136 h = T 5 h ∧ M 138 h = T 6 h) (hj : ∀ j, 0 ≤ j → j < c → M 140 j = T 8 j ∧ M 144 j = T 10 j) (hr : ∀ j, 0 ≤ j → j < c + 1 → M 142 j = if j = c then 0 else T 9 j) (h6 : ∀ s, 0 ≤ s → s < 6 → M 146 s = T 12 s ∧ M 148 s = if s = sc a c then T 13 (sc a c) + lentI T (sd a c) (sc a c) else T 13 s)
    (k : ∀ M' : Mm, TauC M' (tPlay a T c p) n (c + 1) → (∀ o, o < 124 → M' o = M o) → Q M') : p_X3_play_J50 gC 124 c 10 p (a (sd a c)) (sc a c) (sd a c) (dist (T 3 p) (a (sd a c))) M Q := by
  obtain ⟨g0, g1, g2, g3, g4, g5, g6, g7, g8, g9, g10, g11, g12, g13, g14, g15, g16, g17, g18, g19⟩ := gl_c
  obtain ⟨v1, v2, v3, v4, v5, v6, v7, v8, v9⟩ := hV
  obtain ⟨⟨t0, t1⟩, ⟨s0, s1⟩, ⟨d0, d1⟩, ⟨l0, l1⟩⟩ := v8 c c0 c1
  obtain ⟨e1, e2, e3, e4⟩ := hS.2.2.2.2.2.2 c c0 c1
  have e1' : M 12 c = tk a c := e1
  have e4' : M 18 c = la a c := e4
  unfold p_X3_play_J50
  refine put_c c0 (by show c < ((gl gC 140 : Nat) : Int); rw [g7]; omega) ?_
  refine put_c c0 (by show c < ((gl gC 144 : Nat) : Int); rw [g9]; omega) ?_
  refine inc_c p0 (by show p < ((gl gC 136 : Nat) : Int); rw [g5]; omega) ?_
  refine inc_c p0 (by show p < ((gl gC 138 : Nat) : Int); rw [g6]; omega) ?_
  refine put_c p0 (by show p < ((gl gC 132 : Nat) : Int); rw [g3]; omega) ?_
  unfold p_X0_endOf
  refine get_c c0 (by show c < ((gl gC 12 : Nat) : Int); rw [g12]; omega) ?_
  refine get_c c0 (by show c < ((gl gC 18 : Nat) : Int); rw [g15]; omega) ?_
  refine put_c p0 (by show p < ((gl gC 134 : Nat) : Int); rw [g4]; omega) ?_
  refine inc_c d0 (by show sd a c < ((gl gC 126 : Nat) : Int); rw [g0]; omega) ?_
  refine put_c d0 (by show sd a c < ((gl gC 128 : Nat) : Int); rw [g1]; omega) ?_
  refine get_c c0 (by show c < ((gl gC 12 : Nat) : Int); rw [g12]; omega) ?_
  refine get_c c0 (by show c < ((gl gC 18 : Nat) : Int); rw [g15]; omega) ?_
  refine put_c d0 (by show sd a c < ((gl gC 130 : Nat) : Int); rw [g2]; omega) ?_
  simp (disch := omega) only [Nat.reduceAdd, mu_ne, mu_eq, e1', e4']
  refine k _ ⟨?_, fun s q0 q1 => ?_, fun h q0 q1 => ?_, ⟨?_, ?_⟩, fun j q0 q1 => ?_, fun s q0 q1 => ?_⟩ (fun o ho => ?_)
  · simp (disch := omega) only [mu_ne]; exact h12
  · have z := hs s q0 q1
    have z' := hs (sd a c) d0 (by omega)
    simp (disch := omega) only [mu_ne, mu_eq]
    refine ⟨?_, ?_, ?_⟩
    · show (if s = sd a c then M 126 (sd a c) + (-1) else M 126 s) = (if s = sd a c then T 0 (sd a c) + (-1) else T 0 s)
      rw [z.1, z'.1]
    · show (if s = sd a c then sc a c else M 128 s) = (if s = sd a c then sc a c else T 1 s)
      rw [z.2.1]
    · show (if s = sd a c then tk a c + la a c else M 130 s) = (if s = sd a c then tk a c + la a c else T 2 s)
      rw [z.2.2]
  · have z := hh h q0 q1
    have z' := hh p p0 p1
    simp (disch := omega) only [mu_ne, mu_eq]
    refine ⟨?_, ?_, ?_, ?_⟩
    · show (if h = p then a (sd a c) else M 132 h) = (if h = p then a (sd a c) else T 3 h)
      rw [z.1]
    · show (if h = p then tk a c + la a c else M 134 h) = (if h = p then tk a c + la a c else T 4 h)
      rw [z.2.1]
    · show (if h = p then M 136 p + 1 else M 136 h) = (if h = p then T 5 p + 1 else T 5 h)
      rw [z.2.2.1, z'.2.2.1]
    · show (if h = p then M 138 p + dist (T 3 p) (a (sd a c)) else M 138 h) = (if h = p then T 6 p + dist (T 3 p) (a (sd a c)) else T 6 h)
      rw [z.2.2.2, z'.2.2.2]
  · simp (disch := omega) only [mu_ne]; exact h7.1
  · simp (disch := omega) only [mu_ne]; exact h7.2
  · simp (disch := omega) only [mu_ne, mu_eq]
    refine ⟨?_, ?_, ?_⟩
    · show (if j = c then p else M 140 j) = (if j = c then p else T 8 j)
      by_cases hjc : j = c
      · rw [if_pos hjc, if_pos hjc]
      · rw [if_neg hjc, if_neg hjc]; exact (hj j q0 (by omega)).1
    · exact hr j q0 q1
    · show (if j = c then dist (T 3 p) (a (sd a c)) else M 144 j) = (if j = c then dist (T 3 p) (a (sd a c)) else T 10 j)
      by_cases hjc : j = c
      · rw [if_pos hjc, if_pos hjc]
      · rw [if_neg hjc, if_neg hjc]; exact (hj j q0 (by omega)).2
  · simp (disch := omega) only [mu_ne]
    exact h6 s q0 q1
  · simp (disch := omega) only [mu_ne]
theorem miss_c {M T : Mm} {Q : Mm → Prop} {a : Int → Int} {n : Nat} {c w : Int} (hS : SR M 1 a) (hV : VR a) (c0 : 0 ≤ c) (c1 : c < a 36) (hn : n ≤ 4)
    (h12 : M 124 12 = (n : Int)) (h7 : M 124 13 = T 7 0 ∧ M 124 14 = T 7 1) (hs : ∀ s, 0 ≤ s → s < 10 → M 126 s = T 0 s ∧ M 128 s = T 1 s ∧ M 130 s = T 2 s) (hh : ∀ h, 0 ≤ h → h < (n : Int) → M 132 h = T 3 h ∧ M 134 h = T 4 h ∧ M 136 h = T 5 h ∧ M 138 h = T 6 h) (hj : ∀ j, 0 ≤ j → j < c → M 140 j = T 8 j ∧ M 144 j = T 10 j) (hr : ∀ j, 0 ≤ j → j < c + 1 → M 142 j = if j = c then w else T 9 j) (h6 : ∀ s, 0 ≤ s → s < 6 → M 146 s = T 12 s ∧ M 148 s = T 13 s)
    (k : ∀ M' : Mm, TauC M' (tMiss a T c w) n (c + 1) → (∀ o, o < 124 → M' o = M o) → Q M') : p_X3_miss gC 124 c 1 M Q := by
  obtain ⟨g0, g1, g2, g3, g4, g5, g6, g7, g8, g9, g10, g11, g12, g13, g14, g15, g16, g17, g18, g19⟩ := gl_c
  obtain ⟨v1, v2, v3, v4, v5, v6, v7, v8, v9⟩ := hV
  obtain ⟨⟨t0, t1⟩, ⟨s0, s1⟩, ⟨d0, d1⟩, ⟨l0, l1⟩⟩ := v8 c c0 c1
  obtain ⟨e1, e2, e3, e4⟩ := hS.2.2.2.2.2.2 c c0 c1
  have e2' : M 14 c = sc a c := e2
  have e3' : M 16 c = sd a c := e3
  have el : M 7 (sd a c) = a (20 + sd a c) := hS.2.2.1 (sd a c) d0 (by omega)
  unfold p_X3_miss
  refine put_c c0 (by show c < ((gl gC 140 : Nat) : Int); rw [g7]; omega) ?_
  refine put_c c0 (by show c < ((gl gC 144 : Nat) : Int); rw [g9]; omega) ?_
  refine get_c c0 (by show c < ((gl gC 14 : Nat) : Int); rw [g13]; omega) ?_
  simp (disch := omega) only [Nat.reduceAdd, mu_ne, e2']
  refine inc_c s0 (by show sc a c < ((gl gC 146 : Nat) : Int); rw [g10]; omega) (fun M1 em1 => ?_)
  refine get_c c0 (by show c < ((gl gC 16 : Nat) : Int); rw [g14]; omega) ?_
  have q16 : M1 (1 + 9 + 5 + 1) c = sd a c := by rw [em1]; simp (disch := omega) only [Nat.reduceAdd, mu_ne]; exact e3'
  rw [q16]
  refine get_c d0 (by show sd a c < ((gl gC 7 : Nat) : Int); rw [g18]; omega) (fun M2 em2 => ?_)
  have q7 : M1 (1 + 5 + 1) (sd a c) = a (20 + sd a c) := by rw [em1]; simp (disch := omega) only [Nat.reduceAdd, mu_ne]; exact el
  rw [q7] at em2
  simp (disch := omega) only [Nat.reduceAdd, mu_ne, mu_eq] at em1
  have f : ∀ o, o ≠ 124 → o ≠ 140 → o ≠ 144 → o ≠ 146 → M2 o = M o := fun o o1 o2 o3 o4 => by
    rw [em2, mu_ne o1, em1, mu_ne o1, mu_ne o4, mu_ne o3, mu_ne o2]
  have f124 : M2 124 = fun j => if j = 14 then M 124 14 + a (20 + sd a c) else if j = 13 then M 124 13 + 1 else M 124 j := by
    rw [em2, em1]; simp (disch := omega) only [mu_ne, mu_eq]
    funext j
    by_cases j14 : j = 14
    · rw [if_pos j14, if_pos j14]; rfl
    · rw [if_neg j14, if_neg j14]
  have f140 : M2 140 = fun j => if j = c then -5 else M 140 j := by
    rw [em2, em1]; simp (disch := omega) only [mu_ne, mu_eq]
  have f144 : M2 144 = fun j => if j = c then -5 else M 144 j := by
    rw [em2, em1]; simp (disch := omega) only [mu_ne, mu_eq]
  have f146 : M2 146 = fun j => if j = sc a c then M 146 (sc a c) + 1 else M 146 j := by
    rw [em2, em1]; simp (disch := omega) only [mu_ne, mu_eq]
  refine k M2 ⟨?_, fun s q0 q1 => ?_, fun h q0 q1 => ?_, ⟨?_, ?_⟩, fun j q0 q1 => ?_, fun s q0 q1 => ?_⟩ (fun o ho => f o (by omega) (by omega) (by omega) (by omega))
  · rw [f124]; exact h12
  · rw [f 126 (by omega) (by omega) (by omega) (by omega), f 128 (by omega) (by omega) (by omega) (by omega), f 130 (by omega) (by omega) (by omega) (by omega)]; exact hs s q0 q1
  · rw [f 132 (by omega) (by omega) (by omega) (by omega), f 134 (by omega) (by omega) (by omega) (by omega), f 136 (by omega) (by omega) (by omega) (by omega), f 138 (by omega) (by omega) (by omega) (by omega)]; exact hh h q0 q1
  · rw [f124]; show M 124 13 + 1 = T 7 0 + 1
    rw [h7.1]
  · rw [f124]; show M 124 14 + a (20 + sd a c) = T 7 1 + a (20 + sd a c)
    rw [h7.2]
  · rw [f140, f144, f 142 (by omega) (by omega) (by omega) (by omega)]
    refine ⟨?_, ?_, ?_⟩
    · show (if j = c then -5 else M 140 j) = (if j = c then -5 else T 8 j)
      by_cases hjc : j = c
      · rw [if_pos hjc, if_pos hjc]
      · rw [if_neg hjc, if_neg hjc]; exact (hj j q0 (by omega)).1
    · exact hr j q0 q1
    · show (if j = c then -5 else M 144 j) = (if j = c then -5 else T 10 j)
      by_cases hjc : j = c
      · rw [if_pos hjc, if_pos hjc]
      · rw [if_neg hjc, if_neg hjc]; exact (hj j q0 (by omega)).2
  · rw [f146, f 148 (by omega) (by omega) (by omega) (by omega)]
    have z := h6 s q0 q1
    have z' := h6 (sc a c) s0 (by omega)
    refine ⟨?_, z.2⟩
    show (if s = sc a c then M 146 (sc a c) + 1 else M 146 s) = (if s = sc a c then T 12 (sc a c) + 1 else T 12 s)
    rw [z.1, z'.1]
