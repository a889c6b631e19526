/-! PURE: a take of the reference -/
def usedM (x : Int) : Int := if x = -1 then -5 else x
def TauM (N : Mm) (T : Mm) (a : Int → Int) (n : Nat) (c : Int) : Prop :=
  (∀ k : Int, 0 ≤ k → k < 201 → (k < 10 ∨ 20 ≤ k) → (k < 31 ∨ 31 + (n : Int) ≤ k) → N 1 k = a k) ∧ (∀ s, 0 ≤ s → s < 10 → N 1 (10 + s) = T 0 s ∧ N 13 s = usedM (T 1 s) ∧ N 14 s = T 2 s) ∧ (∀ h, 0 ≤ h → h < (n : Int) → N 1 (31 + h) = T 3 h ∧ N 10 h = T 4 h ∧ N 11 h = T 5 h ∧ N 12 h = T 6 h) ∧ (N 0 16 = T 7 0 ∧ N 0 17 = T 7 1) ∧ ∀ j, 0 ≤ j → j < c → N 6 j = T 8 j ∧ N 7 j = T 9 j ∧ N 8 j = T 10 j ∧ N 9 j = T 11 j
/-- what a take of the reference leaves as it is -/
def frM (N N' : Mm) : Prop := (∀ o, (o = 2 ∨ o = 3 ∨ o = 4 ∨ o = 5 ∨ o = 16) → N' o = N o) ∧ ∀ j, (j = 4 ∨ j = 6 ∨ j = 20) → N' 0 j = N 0 j
theorem frM.rfl' {N : Mm} : frM N N := ⟨fun _ _ => rfl, fun _ _ => rfl⟩
theorem frM.tr {A B C : Mm} (h : frM A B) (h2 : frM B C) : frM A C := ⟨fun o ho => (h2.1 o ho).trans (h.1 o ho), fun j hj => (h2.2 j hj).trans (h.2 j hj)⟩
theorem gl_m : gl gM 1 = 201 ∧ gl gM 6 = 40 ∧ gl gM 7 = 40 ∧ gl gM 8 = 40 ∧ gl gM 9 = 40 ∧ gl gM 10 = 4 ∧ gl gM 11 = 4 ∧ gl gM 12 = 4 ∧ gl gM 13 = 10 ∧ gl gM 14 = 10 ∧ gl gM 15 = 4 := by decide +kernel
theorem of_m {N : Mm} {Q : Int → Mm → Prop} {c w : Int} (h0 : 0 ≤ 41 + 4 * c + w) (h1 : 41 + 4 * c + w < 201) (k : Q (N 1 (41 + 4 * c + w)) N) : p_X8_of gM 0 c w N Q := by
  unfold p_X8_of
  have l1 : gl gM (0 + 1) = 201 := by decide +kernel
  rw [l1]
  exact ⟨h0, by omega, k⟩
theorem apart_m {N : Mm} {Q : Int → Mm → Prop} {x y : Int} (hx : inR x) (hy : inR y) (k : Q (dist x y) N) : p_X8_apart gM x y N Q := by
  unfold p_X8_apart
  unfold dist at k
  refine ⟨hx, hy, fun h => ?_, fun h => ?_⟩
  · rw [if_neg (by omega)] at k; exact k
  · rw [if_pos h] at k; exact k
theorem for_l {N T : Mm} {Q : Int → Mm → Prop} {sh tick : Int} {n : Nat} (hn : n ≤ 4) (s0 : 0 ≤ sh ∧ sh ≤ 4) (t0 : 0 ≤ tick ∧ tick ≤ 999) (h30 : N 1 30 = (n : Int)) (hT : ∀ h, 0 ≤ h → h < (n : Int) → N 1 (31 + h) = T 3 h ∧ N 10 h = T 4 h ∧ 0 ≤ T 3 h ∧ T 3 h ≤ 4 ∧ 0 ≤ T 4 h ∧ T 4 h ≤ 1019) (k : Q (nearN T sh tick n) N) :
    ∀ (m j : Nat), j ≤ n → n - j < m → p_X8_handFor_L6 gM m 0 sh tick (nearN T sh tick j) (j : Int) N Q := by
  have l1 : gl gM (0 + 1) = 201 := by decide +kernel
  have l10 : gl gM (0 + 10) = 4 := by decide +kernel
  intro m
  induction m with
  | zero => intro j _ hm; omega
  | succ m ih =>
    intro j hj hm
    unfold p_X8_handFor_L6
    rw [l1, l10, show N (0 + 1) 30 = (n : Int) from h30]
    refine ⟨by omega, inR_s (by omega) (by omega), inR_s (by omega) (by omega), fun hge => ?_, fun hlt => ⟨by omega, by omega, ?_⟩⟩
    · rw [show n = j by omega] at k; exact k
    · obtain ⟨e3, e4, r1, r2, r3, r4⟩ := hT j (by omega) hlt
      have hd := dist_in ⟨r1, r2⟩ s0
      have next : ∀ v, nearN T sh tick (j + 1) = v → p_X8_handFor_L6 gM m 0 sh tick v ((j : Int) + 1) N Q := by
        intro v hv
        subst hv
        exact ih (j + 1) (by omega) (by omega)
      have hstep : nearN T sh tick (j + 1) = if dist (T 3 j) sh ≤ tick - T 4 j ∧ (nearN T sh tick j = -5 ∨ dist (T 3 j) sh < dist (T 3 (nearN T sh tick j)) sh) then (j : Int) else nearN T sh tick j := rfl
      show p_X8_apart gM (N 1 (31 + (j : Int))) sh N _
      rw [e3]
      refine apart_m (inR_s (by omega) (by omega)) (inR_s (by omega) (by omega)) ⟨by omega, by omega, ?_⟩
      rw [show N (0 + 10) (j : Int) = T 4 j from e4]
      refine ⟨inR_s (by omega) (by omega), inR_s (by omega) (by omega), fun h1 => ?_, fun h1 => ?_⟩
      · exact next _ (by rw [hstep, if_neg (fun z => by omega)])
      · rcases near_in (T := T) (sh := sh) (tick := tick) j with hz | hz
        · rw [hz]
          refine ⟨inR_s (by omega) (by omega), fun _ => ?_, fun h2 => absurd rfl h2⟩
          exact next _ (by rw [hstep, if_pos ⟨h1, Or.inl hz⟩])
        · refine ⟨inR_s (by omega) (by omega), fun h2 => by omega, fun h2 => ⟨by omega, by omega, ?_⟩⟩
          have q := hT (nearN T sh tick j) hz.1 (by omega)
          have hd2 := dist_in ⟨q.2.2.1, q.2.2.2.1⟩ s0
          show p_X8_apart gM (N 1 (31 + nearN T sh tick j)) sh N _
          rw [q.1]
          refine apart_m (inR_s (by omega) (by omega)) (inR_s (by omega) (by omega)) ⟨inR_s (by omega) (by omega), inR_s (by omega) (by omega), fun h3 => ?_, fun h3 => ?_⟩
          · exact next _ (by rw [hstep, if_neg (fun z => by omega)])
          · exact next _ (by rw [hstep, if_pos ⟨h1, Or.inr h3⟩])
theorem for_m {N T : Mm} {Q : Int → Mm → Prop} {sh tick : Int} {n : Nat} (hn : n ≤ 4) (s0 : 0 ≤ sh ∧ sh ≤ 4) (t0 : 0 ≤ tick ∧ tick ≤ 999) (h30 : N 1 30 = (n : Int)) (hT : ∀ h, 0 ≤ h → h < (n : Int) → N 1 (31 + h) = T 3 h ∧ N 10 h = T 4 h ∧ 0 ≤ T 3 h ∧ T 3 h ≤ 4 ∧ 0 ≤ T 4 h ∧ T 4 h ≤ 1019) (k : Q (nearN T sh tick n) N) : p_X8_handFor gM 0 sh tick N Q := by
  unfold p_X8_handFor
  exact ⟨5, for_l hn s0 t0 h30 hT k 5 0 (by omega) (by omega)⟩
/-- the cue's numbers in the reference's first array -/
theorem TauM.cue {N T : Mm} {a : Int → Int} {n : Nat} {c c2 : Int} (h : TauM N T a n c) (hn : n ≤ 4) (c0 : 0 ≤ c2) (c1 : c2 < 40) : N 1 (41 + 4 * c2 + 0) = sc a c2 ∧ N 1 (41 + 4 * c2 + 1) = tk a c2 ∧ N 1 (41 + 4 * c2 + 2) = sd a c2 ∧ N 1 (41 + 4 * c2 + 3) = la a c2 :=
  ⟨h.1 _ (by omega) (by omega) (by omega) (by omega), h.1 _ (by omega) (by omega) (by omega) (by omega), h.1 _ (by omega) (by omega) (by omega) (by omega), h.1 _ (by omega) (by omega) (by omega) (by omega)⟩
set_option maxHeartbeats 2000000 in
theorem comes_j {N T : Mm} {Q : Mm → Prop} {a : Int → Int} {n : Nat} {c w p : Int} (hV : VR a) (c0 : 0 ≤ c) (c1 : c < a 36) (hn : n ≤ 4) (hT : TauM N T a n c) (hW : VT T n c) (hw : 0 ≤ w ∧ w ≤ 3) (hp : w = 0 → 0 ≤ p ∧ p < (n : Int)) (h6 : N 6 c = -5) (h8 : N 8 c = -5) (h9 : N 9 c = 0)
    (k : ∀ N' : Mm, TauM N' (if w = 0 then tPlay a T c p else tMiss a T c w) a n (c + 1) → frM N N' → Q N') : p_X8_comesTo_J97 gM 0 c (sd a c) (a (sd a c)) p (0 + 7) c w N Q := by
  obtain ⟨g1, g6, g7, g8, g9, g10, g11, g12, g13, g14, g15⟩ := gl_m
  have hV' := hV
  obtain ⟨v1, v2, v3, v4, v5, v6, v7, v8, v9⟩ := hV'
  obtain ⟨⟨t0, t1⟩, ⟨s0, s1⟩, ⟨d0, d1⟩, ⟨l0, l1⟩⟩ := v8 c c0 c1
  obtain ⟨y0, y1, y2, y3⟩ := hT.cue hn c0 (by omega)
  have sh := v1 (sd a c) d0 (by omega)
  obtain ⟨m1, m2, m3, m4, m5⟩ := id hT
  obtain ⟨z0, z1, z2⟩ := m2 (sd a c) d0 (by omega)
  obtain ⟨r1, r2, r3, r4, r5, r6, r7⟩ := hW.1 (sd a c) d0 (by omega)
  have hl : N 1 (20 + sd a c) = a (20 + sd a c) := m1 _ (by omega) (by omega) (by omega) (by omega)
  unfold p_X8_comesTo_J97
  simp only [Nat.zero_add, g1, g6, g7, g8, g13]
  refine ⟨c0, by omega, fun N1 e1 => ⟨c0, by omega, ?_⟩⟩
  have f1 : ∀ o, o ≠ 7 → N1 o = N o := fun o ho => by rw [e1, mu_ne ho]
  have q7 : N1 7 c = w := by rw [e1, mu_eq]; exact if_pos rfl
  rw [q7]
  refine ⟨inR_s (by omega) (by omega), fun hz => ⟨c0, by omega, fun N2 e2 => ⟨?_, ?_, ?_⟩⟩, fun hpos N2 e2 => ⟨by omega, by omega, fun N3 e3 => ?_⟩⟩
  · have := hp (by omega); omega
  · have := hp (by omega); omega
  · have hw0 : w = 0 := by omega
    obtain ⟨p0, p1⟩ := hp hw0
    rw [if_pos hw0] at k
    obtain ⟨x1, x2, x3, x4⟩ := m3 p p0 p1
    obtain ⟨b1, b2, -⟩ := hW.2.1 p p0 p1
    have hd := dist_in ⟨b1, b2⟩ sh
    have ha : N2 1 (31 + p) = T 3 p := by rw [e2, mu_ne (by omega), f1 1 (by omega)]; exact x1
    rw [ha]
    refine apart_m (inR_s (by omega) (by omega)) (inR_s (by omega) (by omega)) ⟨c0, by omega, fun N3 e3 => ⟨d0, by omega, ?_⟩⟩
    have f3 : ∀ o, o ≠ 6 → o ≠ 7 → o ≠ 8 → N3 o = N o := fun o o1 o2 o3 => by rw [e3, mu_ne o3, e2, mu_ne o1, f1 o o2]
    have h13 : N3 13 (sd a c) = usedM (T 1 (sd a c)) := by rw [f3 13 (by omega) (by omega) (by omega)]; exact z1
    -- the rest, whatever is lent
    have fin : p_X8_comesTo_J200 gM 0 c (sd a c) (a (sd a c)) p 9 c (lentI T (sd a c) (sc a c)) N3 Q := by
      unfold p_X8_comesTo_J200
      simp only [Nat.zero_add, g1, g8, g9, g10, g11, g12, g13, g14]
      refine ⟨c0, by omega, fun N4 e4 => ⟨p0, by omega, p0, by omega, fun N5 e5 => ⟨p0, by omega, c0, by omega, p0, by omega, fun N6 e6 => ⟨by omega, by omega, fun N7 e7 => ?_⟩⟩⟩⟩
      have f7 : ∀ o, o ≠ 1 → o ≠ 6 → o ≠ 7 → o ≠ 8 → o ≠ 9 → o ≠ 11 → o ≠ 12 → N7 o = N o := fun o o1 o2 o3 o4 o5 o6 o7 => by
        rw [e7, mu_ne o1, e6, mu_ne o7, e5, mu_ne o6, e4, mu_ne o5, f3 o o2 o3 o4]
      have f71 : N7 1 = fun j => if j = 31 + p then a (sd a c) else N 1 j := by
        rw [e7, mu_eq, e6, mu_ne (by omega), e5, mu_ne (by omega), e4, mu_ne (by omega), f3 1 (by omega) (by omega) (by omega)]
      have q1 : ∀ j, 41 ≤ j → N7 1 j = N 1 j := fun j hj => by rw [f71]; exact if_neg (by omega)
      refine of_m (by omega) (by omega) (of_m (by omega) (by omega) ⟨p0, by omega, fun N8 e8 => of_m (by omega) (by omega) ⟨d0, by omega, fun N9 e9 => ⟨p0, by omega, d0, by omega, fun N10 e10 => ⟨by omega, by omega, by omega, by omega, fun N11 e11 => ?_⟩⟩⟩⟩)
      rw [q1 _ (by omega), q1 _ (by omega), y1, y3] at e8
      have f81 : N8 1 = N7 1 := by rw [e8, mu_ne (by omega)]
      rw [f81, q1 _ (by omega), y0] at e9
      have q10 : N9 10 p = tk a c + la a c := by rw [e9, mu_ne (by omega), e8, mu_eq]; exact if_pos rfl
      rw [q10] at e10
      have f101 : N10 1 = N7 1 := by rw [e10, mu_ne (by omega), e9, mu_ne (by omega), f81]
      have q0 : N10 1 (10 + sd a c) = T 0 (sd a c) := by
        rw [f101, f71]; show (if 10 + sd a c = 31 + p then a (sd a c) else N 1 (10 + sd a c)) = _
        rw [if_neg (by omega)]; exact z0
      rw [q0] at e11
      have F : ∀ o, o ≠ 1 → o ≠ 6 → o ≠ 7 → o ≠ 8 → o ≠ 9 → o ≠ 10 → o ≠ 11 → o ≠ 12 → o ≠ 13 → o ≠ 14 → N11 o = N o := fun o o1 o2 o3 o4 o5 o6 o7 o8 o9 o10 => by
        rw [e11, mu_ne o1, e10, mu_ne o10, e9, mu_ne o9, e8, mu_ne o6, f7 o o1 o2 o3 o4 o5 o7 o8]
      have F1 : N11 1 = fun j => if j = 10 + sd a c then T 0 (sd a c) - 1 else if j = 31 + p then a (sd a c) else N 1 j := by
        rw [e11, mu_eq, f101, f71]
      have F6 : N11 6 = fun j => if j = c then p else N 6 j := by
        rw [e11, mu_ne (by omega), e10, mu_ne (by omega), e9, mu_ne (by omega), e8, mu_ne (by omega), e7, mu_ne (by omega), e6, mu_ne (by omega), e5, mu_ne (by omega), e4, mu_ne (by omega), e3, mu_ne (by omega), e2, mu_eq, f1 6 (by omega)]
      have F7 : N11 7 = fun j => if j = c then w else N 7 j := by
        rw [e11, mu_ne (by omega), e10, mu_ne (by omega), e9, mu_ne (by omega), e8, mu_ne (by omega), e7, mu_ne (by omega), e6, mu_ne (by omega), e5, mu_ne (by omega), e4, mu_ne (by omega), e3, mu_ne (by omega), e2, mu_ne (by omega), e1, mu_eq]
      have F8 : N11 8 = fun j => if j = c then dist (T 3 p) (a (sd a c)) else N 8 j := by
        rw [e11, mu_ne (by omega), e10, mu_ne (by omega), e9, mu_ne (by omega), e8, mu_ne (by omega), e7, mu_ne (by omega), e6, mu_ne (by omega), e5, mu_ne (by omega), e4, mu_ne (by omega), e3, mu_eq, e2, mu_ne (by omega), f1 8 (by omega)]
      have F9 : N11 9 = fun j => if j = c then lentI T (sd a c) (sc a c) else N 9 j := by
        rw [e11, mu_ne (by omega), e10, mu_ne (by omega), e9, mu_ne (by omega), e8, mu_ne (by omega), e7, mu_ne (by omega), e6, mu_ne (by omega), e5, mu_ne (by omega), e4, mu_eq, f3 9 (by omega) (by omega) (by omega)]
      have F10 : N11 10 = fun j => if j = p then tk a c + la a c else N 10 j := by
        rw [e11, mu_ne (by omega), e10, mu_ne (by omega), e9, mu_ne (by omega), e8, mu_eq, f7 10 (by omega) (by omega) (by omega) (by omega) (by omega) (by omega) (by omega)]
      have F11 : N11 11 = fun j => if j = p then N 11 p + 1 else N 11 j := by
        rw [e11, mu_ne (by omega), e10, mu_ne (by omega), e9, mu_ne (by omega), e8, mu_ne (by omega), e7, mu_ne (by omega), e6, mu_ne (by omega), e5, mu_eq, e4, mu_ne (by omega), f3 11 (by omega) (by omega) (by omega)]
      have F12 : N11 12 = fun j => if j = p then N 12 p + dist (T 3 p) (a (sd a c)) else N 12 j := by
        have w8 : N5 8 c = dist (T 3 p) (a (sd a c)) := by rw [e5, mu_ne (by omega), e4, mu_ne (by omega), e3, mu_eq]; exact if_pos rfl
        rw [w8] at e6
        rw [e11, mu_ne (by omega), e10, mu_ne (by omega), e9, mu_ne (by omega), e8, mu_ne (by omega), e7, mu_ne (by omega), e6, mu_eq, e5, mu_ne (by omega), e4, mu_ne (by omega), f3 12 (by omega) (by omega) (by omega)]
      have F13 : N11 13 = fun j => if j = sd a c then sc a c else N 13 j := by
        rw [e11, mu_ne (by omega), e10, mu_ne (by omega), e9, mu_eq, e8, mu_ne (by omega), f7 13 (by omega) (by omega) (by omega) (by omega) (by omega) (by omega) (by omega)]
      have F14 : N11 14 = fun j => if j = sd a c then tk a c + la a c else N 14 j := by
        rw [e11, mu_ne (by omega), e10, mu_eq, e9, mu_ne (by omega), e8, mu_ne (by omega), f7 14 (by omega) (by omega) (by omega) (by omega) (by omega) (by omega) (by omega)]
      clear e1 e2 e3 e4 e5 e6 e7 e8 e9 e10 e11
      refine k N11 ⟨fun j j0 j1 j2 j3 => ?_, fun s s0 s1 => ⟨?_, ?_, ?_⟩, fun h h0 h1 => ⟨?_, ?_, ?_, ?_⟩, ⟨?_, ?_⟩, fun j j0 j1 => ⟨?_, ?_, ?_, ?_⟩⟩ ⟨fun o ho => F o (by omega) (by omega) (by omega) (by omega) (by omega) (by omega) (by omega) (by omega) (by omega) (by omega), fun j hj => by rw [F 0 (by omega) (by omega) (by omega) (by omega) (by omega) (by omega) (by omega) (by omega) (by omega) (by omega)]⟩
      · rw [F1]; show (if j = 10 + sd a c then T 0 (sd a c) - 1 else if j = 31 + p then a (sd a c) else N 1 j) = _
        rw [if_neg (by omega), if_neg (by omega)]; exact m1 j j0 j1 j2 j3
      · rw [F1]; show (if 10 + s = 10 + sd a c then T 0 (sd a c) - 1 else if 10 + s = 31 + p then a (sd a c) else N 1 (10 + s)) = (if s = sd a c then T 0 (sd a c) + (-1) else T 0 s)
        by_cases hs : s = sd a c
        · rw [if_pos (by omega), if_pos hs]; omega
        · rw [if_neg (by omega), if_neg (by omega), if_neg hs]; exact (m2 s s0 s1).1
      · rw [F13]; show (if s = sd a c then sc a c else N 13 s) = usedM (if s = sd a c then sc a c else T 1 s)
        by_cases hs : s = sd a c
        · rw [if_pos hs, if_pos hs]; unfold usedM; rw [if_neg (by omega)]
        · rw [if_neg hs, if_neg hs]; exact (m2 s s0 s1).2.1
      · rw [F14]; show (if s = sd a c then tk a c + la a c else N 14 s) = (if s = sd a c then tk a c + la a c else T 2 s)
        rw [(m2 s s0 s1).2.2]
      · rw [F1]; show (if 31 + h = 10 + sd a c then T 0 (sd a c) - 1 else if 31 + h = 31 + p then a (sd a c) else N 1 (31 + h)) = (if h = p then a (sd a c) else T 3 h)
        rw [if_neg (by omega)]
        by_cases hh : h = p
        · rw [if_pos (by omega), if_pos hh]
        · rw [if_neg (by omega), if_neg hh]; exact (m3 h h0 h1).1
      · rw [F10]; show (if h = p then tk a c + la a c else N 10 h) = (if h = p then tk a c + la a c else T 4 h)
        rw [(m3 h h0 h1).2.1]
      · rw [F11]; show (if h = p then N 11 p + 1 else N 11 h) = (if h = p then T 5 p + 1 else T 5 h)
        rw [(m3 h h0 h1).2.2.1, x3]
      · rw [F12]; show (if h = p then N 12 p + dist (T 3 p) (a (sd a c)) else N 12 h) = (if h = p then T 6 p + dist (T 3 p) (a (sd a c)) else T 6 h)
        rw [(m3 h h0 h1).2.2.2, x4]
      · rw [F 0 (by omega) (by omega) (by omega) (by omega) (by omega) (by omega) (by omega) (by omega) (by omega) (by omega)]; exact m4.1
      · rw [F 0 (by omega) (by omega) (by omega) (by omega) (by omega) (by omega) (by omega) (by omega) (by omega) (by omega)]; exact m4.2
      · rw [F6]; show (if j = c then p else N 6 j) = (if j = c then p else T 8 j)
        by_cases hj : j = c
        · rw [if_pos hj, if_pos hj]
        · rw [if_neg hj, if_neg hj]; exact (m5 j j0 (by omega)).1
      · rw [F7]; show (if j = c then w else N 7 j) = (if j = c then 0 else T 9 j)
        by_cases hj : j = c
        · rw [if_pos hj, if_pos hj, hw0]
        · rw [if_neg hj, if_neg hj]; exact (m5 j j0 (by omega)).2.1
      · rw [F8]; show (if j = c then dist (T 3 p) (a (sd a c)) else N 8 j) = (if j = c then dist (T 3 p) (a (sd a c)) else T 10 j)
        by_cases hj : j = c
        · rw [if_pos hj, if_pos hj]
        · rw [if_neg hj, if_neg hj]; exact (m5 j j0 (by omega)).2.2.1
      · rw [F9]; show (if j = c then lentI T (sd a c) (sc a c) else N 9 j) = (if j = c then lentI T (sd a c) (sc a c) else T 11 j)
        by_cases hj : j = c
        · rw [if_pos hj, if_pos hj]
        · rw [if_neg hj, if_neg hj]; exact (m5 j j0 (by omega)).2.2.2
    have q0' : N3 1 (41 + 4 * c + 0) = sc a c := by rw [f3 1 (by omega) (by omega) (by omega)]; exact y0
    rw [h13]
    unfold usedM
    refine ⟨?_, fun hu => ?_, fun hu => ⟨d0, by omega, of_m (by omega) (by omega) ?_⟩⟩
    · split
      · exact inR_s (by omega) (by omega)
      · exact inR_s (by omega) (by omega)
    · have hT1 : T 1 (sd a c) = -1 := by
        by_cases h : T 1 (sd a c) = -1
        · exact h
        · rw [if_neg h] at hu; omega
      unfold p_X8_comesTo_J199
      have : lentI T (sd a c) (sc a c) = 0 := by unfold lentI; rw [if_pos hT1]
      rw [this] at fin; exact fin
    · have hT1 : ¬ T 1 (sd a c) = -1 := fun h => hu (by rw [if_pos h])
      rw [q0', if_neg hT1]
      refine ⟨inR_s (by omega) (by omega), inR_s (by omega) (by omega), fun he => ?_, fun hne => ?_⟩
      · unfold p_X8_comesTo_J199
        have : lentI T (sd a c) (sc a c) = 0 := by unfold lentI; rw [if_neg hT1, if_pos he]
        rw [this] at fin; exact fin
      · have : lentI T (sd a c) (sc a c) = 1 := by unfold lentI; rw [if_neg hT1, if_neg hne]
        rw [this] at fin; exact fin
  · have hw0 : w ≠ 0 := by omega
    rw [if_neg hw0] at k
    have q20 : N2 1 (20 + sd a c) = a (20 + sd a c) := by rw [e2, mu_ne (by omega), f1 1 (by omega)]; exact hl
    rw [q20] at e3
    have F : ∀ o, o ≠ 0 → o ≠ 7 → N3 o = N o := fun o o1 o2 => by rw [e3, mu_ne o1, e2, mu_ne o1, f1 o o2]
    have F0 : N3 0 = fun j => if j = 17 then N 0 17 + a (20 + sd a c) else if j = 16 then N 0 16 + 1 else N 0 j := by
      rw [e3, mu_eq, e2, mu_eq, f1 0 (by omega)]; rfl
    have F7 : N3 7 = fun j => if j = c then w else N 7 j := by
      rw [e3, mu_ne (by omega), e2, mu_ne (by omega), e1, mu_eq]
    clear e1 e2 e3
    refine k N3 ⟨fun j j0 j1 j2 j3 => ?_, fun s s0 s1 => ?_, fun h h0 h1 => ?_, ⟨?_, ?_⟩, fun j j0 j1 => ⟨?_, ?_, ?_, ?_⟩⟩ ⟨fun o ho => F o (by omega) (by omega), fun j hj => ?_⟩
    · rw [F 1 (by omega) (by omega)]; exact m1 j j0 j1 j2 j3
    · rw [F 1 (by omega) (by omega), F 13 (by omega) (by omega), F 14 (by omega) (by omega)]; exact m2 s s0 s1
    · rw [F 1 (by omega) (by omega), F 10 (by omega) (by omega), F 11 (by omega) (by omega), F 12 (by omega) (by omega)]; exact m3 h h0 h1
    · rw [F0]; show N 0 16 + 1 = T 7 0 + 1
      rw [m4.1]
    · rw [F0]; show N 0 17 + a (20 + sd a c) = T 7 1 + a (20 + sd a c)
      rw [m4.2]
    · rw [F 6 (by omega) (by omega)]; show N 6 j = (if j = c then -5 else T 8 j)
      by_cases hj : j = c
      · rw [if_pos hj, hj]; exact h6
      · rw [if_neg hj]; exact (m5 j j0 (by omega)).1
    · rw [F7]; show (if j = c then w else N 7 j) = (if j = c then w else T 9 j)
      by_cases hj : j = c
      · rw [if_pos hj, if_pos hj]
      · rw [if_neg hj, if_neg hj]; exact (m5 j j0 (by omega)).2.1
    · rw [F 8 (by omega) (by omega)]; show N 8 j = (if j = c then -5 else T 10 j)
      by_cases hj : j = c
      · rw [if_pos hj, hj]; exact h8
      · rw [if_neg hj]; exact (m5 j j0 (by omega)).2.2.1
    · rw [F 9 (by omega) (by omega)]; show N 9 j = (if j = c then 0 else T 11 j)
      by_cases hj : j = c
      · rw [if_pos hj, hj]; exact h9
      · rw [if_neg hj]; exact (m5 j j0 (by omega)).2.2.2
    · rw [F0]; show (if j = 17 then _ else if j = 16 then _ else N 0 j) = _
      rw [if_neg (by omega), if_neg (by omega)]
