/-! PURE: a cue, and a whole take, of the class -/
theorem whyC_near {a : Int → Int} {n : Nat} {T : Mm} {c : Int} (h : whyC a n T c = 0) : 0 ≤ nearC a n T c ∧ nearC a n T c < n := by
  rcases near_in (T := T) (sh := a (sd a c)) (tick := tk a c) n with z | z
  · exfalso
    have z' : nearC a n T c = -5 := z
    unfold whyC at h
    rw [if_pos z'] at h
    generalize (if lentI T (sd a c) (sc a c) = 0 then 0 else a 35) = zz at h
    split at h
    · omega
    · split at h <;> omega
  · exact z
theorem doCue_c {M T : Mm} {Q : Mm → Prop} {a : Int → Int} {n : Nat} {c : Int} (hS : SR M 1 a) (hV : VR a) (c0 : 0 ≤ c) (c1 : c < a 36) (hn : n ≤ 4) (hT : TauC M T n c) (hW : VT T n c) (k : ∀ M' : Mm, TauC M' (tStep a n T c) n (c + 1) → (∀ o, o < 124 → M' o = M o) → Q M') : p_X3_doCue gC 124 c 1 M Q := by
  obtain ⟨g0, g1, g2, g3, g4, g5, g6, g7, g8, g9, g10, g11, g12, g13, g14, g15, g16, g17, g18, g19⟩ := gl_c
  have hV' := hV
  obtain ⟨v1, v2, v3, v4, v5, v6, v7, v8, v9⟩ := hV'
  obtain ⟨⟨t0, t1⟩, ⟨s0, s1⟩, ⟨d0, d1⟩, ⟨l0, l1⟩⟩ := v8 c c0 c1
  obtain ⟨e1, e2, e3, e4⟩ := hS.2.2.2.2.2.2 c c0 c1
  have e1' : M 12 c = tk a c := e1
  have e2' : M 14 c = sc a c := e2
  have e3' : M 16 c = sd a c := e3
  have es : M 3 (sd a c) = a (sd a c) := hS.1 (sd a c) d0 (by omega)
  have sh := v1 (sd a c) d0 (by omega)
  have hw := whyC_in (a := a) (n := n) (T := T) (c := c)
  obtain ⟨h12, hs, hh, h7, hj, h6⟩ := id hT
  unfold p_X3_doCue
  refine get_c c0 (by show c < ((gl gC 16 : Nat) : Int); rw [g14]; omega) ?_
  show p_X4_get gC 2 (M 16 c) M _
  rw [e3']
  refine get_c d0 (by show sd a c < ((gl gC 3 : Nat) : Int); rw [g16]; omega) ?_
  refine get_c c0 (by show c < ((gl gC 12 : Nat) : Int); rw [g12]; omega) ?_
  show p_X3_nearestHand gC 124 (M 3 (sd a c)) (M 12 c) M _
  rw [es, e1']
  refine near_c (T := T) hn sh ⟨t0, t1⟩ h12 (fun h q0 q1 => ?_) ?_
  · obtain ⟨z1, z2, -, -⟩ := hh h q0 q1
    obtain ⟨y1, y2, y3, y4, -⟩ := hW.2.1 h q0 q1
    exact ⟨z1, z2, y1, y2, y3, y4⟩
  refine why_c hS hV c0 c1 hn hT hW (put_c c0 (by show c < ((gl gC 142 : Nat) : Int); rw [g8]; omega) ?_)
  show inR (whyC a n T c) ∧ (whyC a n T c ≠ 0 → p_X3_miss gC 124 c 1 (mu M 142 c (whyC a n T c)) (fun M18 => Q M18)) ∧ (whyC a n T c = 0 → p_X3_play gC 124 c 10 (nearC a n T c) (a (sd a c)) (mu M 142 c (whyC a n T c)) (fun M20 => Q M20))
  have f : ∀ o, o ≠ 142 → mu M 142 c (whyC a n T c) o = M o := fun o ho => mu_ne ho
  have hS2 : SR (mu M 142 c (whyC a n T c)) 1 a := hS.keep (fun o o1 o2 => f o (by omega))
  have hr : ∀ j, 0 ≤ j → j < c + 1 → mu M 142 c (whyC a n T c) 142 j = if j = c then whyC a n T c else T 9 j := fun j j0 j1 => by
    rw [mu_eq]
    show (if j = c then whyC a n T c else M 142 j) = if j = c then whyC a n T c else T 9 j
    by_cases hjc : j = c
    · rw [if_pos hjc, if_pos hjc]
    · rw [if_neg hjc, if_neg hjc]; exact (hj j j0 (by omega)).2.1
  refine ⟨inR_s (by omega) (by omega), fun hne => ?_, fun he => ?_⟩
  · refine miss_c (T := T) (n := n) (w := whyC a n T c) hS2 hV c0 c1 hn (by rw [f 124 (by omega)]; exact h12) (by rw [f 124 (by omega)]; exact h7) (fun s q0 q1 => by rw [f 126 (by omega), f 128 (by omega), f 130 (by omega)]; exact hs s q0 q1) (fun h q0 q1 => by rw [f 132 (by omega), f 134 (by omega), f 136 (by omega), f 138 (by omega)]; exact hh h q0 q1) (fun j q0 q1 => by rw [f 140 (by omega), f 144 (by omega)]; exact ⟨(hj j q0 q1).1, (hj j q0 q1).2.2⟩) hr (fun s q0 q1 => by rw [f 146 (by omega), f 148 (by omega)]; exact h6 s q0 q1) (fun M' hT' f' => ?_)
    refine k M' ?_ (fun o ho => by rw [f' o ho, f o (by omega)])
    unfold tStep; rw [if_neg hne]; exact hT'
  · have hp := whyC_near he
    obtain ⟨z1, z2, z3, z4⟩ := hh (nearC a n T c) hp.1 hp.2
    obtain ⟨y1, y2, -⟩ := hW.2.1 (nearC a n T c) hp.1 hp.2
    obtain ⟨r1, r2, r3, r4, -⟩ := hW.1 (sd a c) d0 (by omega)
    obtain ⟨x1, x2, x3⟩ := hs (sd a c) d0 (by omega)
    have hli := lentI_in (T := T) (s := sd a c) (scn := sc a c)
    rw [he] at f hS2 hr
    rw [he]
    generalize hM2 : mu M 142 c 0 = M2 at f hS2 hr
    have k2 : ∀ M' : Mm, TauC M' (tPlay a T c (nearC a n T c)) n (c + 1) → (∀ o, o < 124 → M' o = M o) → Q M' := fun M' hT' f' => k M' (by unfold tStep; rw [if_pos he]; exact hT') f'
    clear k he hw
    generalize nearC a n T c = p at hp z1 z2 z3 z4 y1 y2 k2 ⊢
    unfold p_X3_play
    refine get_c c0 (by show c < ((gl gC 14 : Nat) : Int); rw [g13]; omega) ?_
    refine get_c c0 (by show c < ((gl gC 16 : Nat) : Int); rw [g14]; omega) ?_
    have q14 : M2 (10 + 3 + 1) c = sc a c := by show M2 14 c = _; rw [f 14 (by omega)]; exact e2'
    have q16 : M2 (10 + 5 + 1) c = sd a c := by show M2 16 c = _; rw [f 16 (by omega)]; exact e3'
    rw [q14, q16]
    refine way_c (x := T 3 p) hp.1 (by omega) (by rw [f 132 (by omega)]; exact z1) ⟨y1, y2⟩ sh ?_
    refine lent_c (T := T) d0 (by omega) ⟨s0, s1⟩ (by rw [f 128 (by omega)]; exact x2) ⟨r3, r4⟩ ?_
    have fin : ∀ M3 : Mm, (∀ o, o ≠ 148 → M3 o = M2 o) → (∀ s, 0 ≤ s → s < 6 → M3 148 s = if s = sc a c then T 13 (sc a c) + lentI T (sd a c) (sc a c) else T 13 s) → p_X3_play_J50 gC 124 c 10 p (a (sd a c)) (sc a c) (sd a c) (dist (T 3 p) (a (sd a c))) M3 (fun M32 => Q M32) := by
      intro M3 f3 h148
      have ff : ∀ o, o ≠ 148 → o ≠ 142 → M3 o = M o := fun o o1 o2 => by rw [f3 o o1, f o o2]
      refine play_j (T := T) (n := n) (hS2.keep (fun o o1 o2 => f3 o (by omega))) hV c0 c1 hn hp.1 hp.2 (by rw [ff 124 (by omega) (by omega)]; exact h12) (by rw [ff 124 (by omega) (by omega)]; exact h7) (fun s q0 q1 => by rw [ff 126 (by omega) (by omega), ff 128 (by omega) (by omega), ff 130 (by omega) (by omega)]; exact hs s q0 q1) (fun h q0 q1 => by rw [ff 132 (by omega) (by omega), ff 134 (by omega) (by omega), ff 136 (by omega) (by omega), ff 138 (by omega) (by omega)]; exact hh h q0 q1) (fun j q0 q1 => by rw [ff 140 (by omega) (by omega), ff 144 (by omega) (by omega)]; exact ⟨(hj j q0 q1).1, (hj j q0 q1).2.2⟩) (fun j q0 q1 => by rw [f3 142 (by omega)]; exact hr j q0 q1) (fun s q0 q1 => by rw [ff 146 (by omega) (by omega)]; exact ⟨(h6 s q0 q1).1, h148 s q0 q1⟩) (fun M' hT' f' => ?_)
      exact k2 M' hT' (fun o ho => by rw [f' o ho, ff o (by omega) (by omega)])
    refine ⟨inR_s (by omega) (by omega), fun hz => ?_, fun hnz => ?_⟩
    · refine fin M2 (fun _ _ => rfl) (fun s q0 q1 => ?_)
      rw [f 148 (by omega), (h6 s q0 q1).2, hz]
      by_cases hsc : s = sc a c
      · rw [if_pos hsc, hsc]; omega
      · rw [if_neg hsc]
    · have h1 : lentI T (sd a c) (sc a c) = 1 := by omega
      refine inc_c s0 (by show sc a c < ((gl gC 148 : Nat) : Int); rw [g11]; omega) (fin _ (fun o ho => mu_ne ho) (fun s q0 q1 => ?_))
      show mu M2 148 (sc a c) (M2 148 (sc a c) + 1) 148 s = _
      rw [mu_eq, f 148 (by omega), (h6 (sc a c) s0 (by omega)).2, h1]
      show (if s = sc a c then T 13 (sc a c) + 1 else M 148 s) = _
      by_cases hsc : s = sc a c
      · rw [if_pos hsc, if_pos hsc]
      · rw [if_neg hsc, if_neg hsc]; exact (h6 s q0 q1).2
/-- a take from the start: what lies before the cues -/
def tBeg (T : Mm) : Mm := fun o k => match o with
  | 0 => T 0 k
  | 1 => -1
  | 3 => T 3 k
  | _ => 0
noncomputable def tRun (a : Int → Int) (n : Nat) (T : Mm) : Nat → Mm
  | 0 => tBeg T
  | c + 1 => tStep a n (tRun a n T c) c
/-- charges and shelves from which a take sets out -/
def T0 (T : Mm) (n : Nat) : Prop := (∀ s, 0 ≤ s → s < 10 → 0 ≤ T 0 s ∧ T 0 s ≤ 30) ∧ ∀ h, 0 ≤ h → h < (n : Int) → 0 ≤ T 3 h ∧ T 3 h ≤ 4
theorem VT_beg {T : Mm} {n : Nat} (h : T0 T n) : VT (tBeg T) n 0 := by
  refine ⟨fun s s0 s1 => ?_, fun h' h0 h1 => ?_, ?_, fun j j0 j1 => by omega, fun s s0 s1 => ?_⟩
  · have := h.1 s s0 s1
    show 0 ≤ T 0 s ∧ T 0 s ≤ 30 ∧ (-1 : Int) ≤ -1 ∧ (-1 : Int) ≤ 5 ∧ (0 : Int) ≤ 0 ∧ (0 : Int) ≤ 1019 ∧ ((-1 : Int) = -1 → (0 : Int) = 0)
    omega
  · have := h.2 h' h0 h1
    show 0 ≤ T 3 h' ∧ T 3 h' ≤ 4 ∧ (0 : Int) ≤ 0 ∧ (0 : Int) ≤ 1019 ∧ (0 : Int) ≤ 0 ∧ (0 : Int) ≤ 0 ∧ (0 : Int) ≤ 0 ∧ (0 : Int) ≤ 4 * 0
    omega
  · show (0 : Int) ≤ 0 ∧ (0 : Int) ≤ 0 ∧ (0 : Int) ≤ 0 ∧ (0 : Int) ≤ 9 * 0
    omega
  · show (0 : Int) ≤ 0 ∧ (0 : Int) ≤ 0 ∧ (0 : Int) ≤ 0 ∧ (0 : Int) ≤ 0
    omega
theorem VT_run {a : Int → Int} {n : Nat} {T : Mm} (hV : VR a) (h : T0 T n) : ∀ c : Nat, (c : Int) ≤ a 36 → VT (tRun a n T c) n c
  | 0, _ => VT_beg h
  | c + 1, hc => by
    have := VT_step (n := n) hV (c := c) (by omega) (by omega) (VT_run hV h c (by omega))
    exact this
theorem runs_c {M T : Mm} {Q : Mm → Prop} {a : Int → Int} {n : Nat} (hV : VR a) (hn : n ≤ 4) (h0 : T0 T n) (hS0 : SR M 1 a) (k : ∀ M' : Mm, TauC M' (tRun a n T (a 36).toNat) n (a 36) → (∀ o, o < 124 → M' o = M o) → Q M') :
    ∀ (m c : Nat) (M1 : Mm), (c : Int) ≤ a 36 → (a 36).toNat - c < m → (∀ o, o < 124 → M1 o = M o) → TauC M1 (tRun a n T c) n c → p_X3_playTake_L68 gC m 124 1 (c : Int) M1 Q := by
  have h36 := hV.2.2.2.2.2.2.1
  intro m
  induction m with
  | zero => intro c M1 hc hm; omega
  | succ m ih =>
    intro c M1 hc hm f hT
    have hS : SR M1 1 a := hS0.keep (fun o o1 o2 => f o (by omega))
    have e : M1 (1 + 9) 5 = a 36 := hS.2.2.2.2.2.1
    unfold p_X3_playTake_L68
    rw [e]
    refine ⟨inR_s (by omega) (by omega), inR_s (by omega) (by omega), fun hge => ?_, fun hlt => ?_⟩
    · have hce : (a 36).toNat = c := by omega
      refine k M1 ?_ f
      rw [hce, show a 36 = (c : Int) by omega]; exact hT
    · refine doCue_c hS hV (by omega) hlt hn hT (VT_run hV h0 c hc) (fun M2 hT2 f2 => ?_)
      exact ih (c + 1) M2 (by omega) (by omega) (fun o ho => by rw [f2 o ho, f o ho]) hT2
/-- where a take begins in the class -/
def BegC (M T : Mm) (n : Nat) : Prop := M 124 12 = (n : Int) ∧ (∀ s, 0 ≤ s → s < 10 → M 126 s = T 0 s) ∧ ∀ h, 0 ≤ h → h < (n : Int) → M 132 h = T 3 h
theorem playTake_c {M T : Mm} {Q : Mm → Prop} {a : Int → Int} {n : Nat} (hV : VR a) (hn : n ≤ 4) (h0 : T0 T n) (hS : SR M 1 a) (hB : BegC M T n) (k : ∀ M' : Mm, TauC M' (tRun a n T (a 36).toNat) n (a 36) → (∀ o, o < 124 → M' o = M o) → Q M') : p_X3_playTake gC 124 1 M Q := by
  obtain ⟨g0, g1, g2, g3, g4, g5, g6, g7, g8, g9, g10, g11, g12, g13, g14, g15, g16, g17, g18, g19⟩ := gl_c
  obtain ⟨b1, b2, b3⟩ := hB
  have h36 := hV.2.2.2.2.2.2.1
  unfold p_X3_playTake
  refine fill_c (fill_c (fill_c (fill_c (fill_c (fill_c (fill_c (fun M1 e1 M2 e2 => ⟨42, ?_⟩)))))))
  simp only [Nat.reduceAdd, g1, g2, g4, g5, g6, g10, g11] at e1
  have f : ∀ o, o ≠ 124 → o ≠ 128 → o ≠ 130 → o ≠ 134 → o ≠ 136 → o ≠ 138 → o ≠ 146 → o ≠ 148 → M2 o = M o := fun o o1 o2 o3 o4 o5 o6 o7 o8 => by
    rw [e2, mu_ne o1, e1, mu_ne o1, mfl_ne o8, mfl_ne o7, mfl_ne o6, mfl_ne o5, mfl_ne o4, mfl_ne o3, mfl_ne o2]
  have f124 : M2 124 = fun j => if j = 14 then 0 else if j = 13 then 0 else M 124 j := by
    rw [e2, e1]; simp (disch := omega) only [mu_eq, mfl_ne]
  refine runs_c hV hn h0 (hS.keep (fun o o1 o2 => f o (by omega) (by omega) (by omega) (by omega) (by omega) (by omega) (by omega) (by omega))) (fun M' hT' f' => k M' hT' (fun o ho => by rw [f' o ho, f o (by omega) (by omega) (by omega) (by omega) (by omega) (by omega) (by omega) (by omega)])) 42 0 M2 (by omega) (by omega) (fun _ _ => rfl) ⟨?_, fun s s0 s1 => ⟨?_, ?_, ?_⟩, fun h h0 h1 => ⟨?_, ?_, ?_, ?_⟩, ⟨?_, ?_⟩, fun j j0 j1 => by omega, fun s s0 s1 => ⟨?_, ?_⟩⟩
  · rw [f124]; exact b1
  · rw [f 126 (by omega) (by omega) (by omega) (by omega) (by omega) (by omega) (by omega) (by omega)]; exact b2 s s0 s1
  · rw [e2, e1]; simp (disch := omega) only [mu_ne, mfl_ne, mfl_eq]
    exact if_pos ⟨s0, by omega⟩
  · rw [e2, e1]; simp (disch := omega) only [mu_ne, mfl_ne, mfl_eq]
    exact if_pos ⟨s0, by omega⟩
  · rw [f 132 (by omega) (by omega) (by omega) (by omega) (by omega) (by omega) (by omega) (by omega)]; exact b3 h h0 h1
  · rw [e2, e1]; simp (disch := omega) only [mu_ne, mfl_ne, mfl_eq]
    exact if_pos ⟨h0, by omega⟩
  · rw [e2, e1]; simp (disch := omega) only [mu_ne, mfl_ne, mfl_eq]
    exact if_pos ⟨h0, by omega⟩
  · rw [e2, e1]; simp (disch := omega) only [mu_ne, mfl_ne, mfl_eq]
    exact if_pos ⟨h0, by omega⟩
  · rw [f124]; rfl
  · rw [f124]; rfl
  · rw [e2, e1]; simp (disch := omega) only [mu_ne, mfl_ne, mfl_eq]
    exact if_pos ⟨s0, by omega⟩
  · rw [e2, e1]; simp (disch := omega) only [mu_ne, mfl_ne, mfl_eq]
    exact if_pos ⟨s0, by omega⟩
