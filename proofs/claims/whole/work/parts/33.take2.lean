/-! PURE: a whole take of the reference; where takes begin; take() -/
theorem there_m {N T : Mm} {Q : Int → Mm → Prop} {a : Int → Int} {n : Nat} {c : Int} (hV : VR a) (c0 : 0 ≤ c) (c1 : c < a 36) (hn : n ≤ 4) (hc : N 1 (41 + 4 * c + 0) = sc a c ∧ N 1 (41 + 4 * c + 1) = tk a c ∧ N 1 (41 + 4 * c + 2) = sd a c ∧ N 1 35 = a 35) (h13 : N 13 (sd a c) = usedM (T 1 (sd a c))) (h14 : N 14 (sd a c) = T 2 (sd a c)) (hW : VT T n c)
    (k1 : tk a c - T 2 (sd a c) < (if lentI T (sd a c) (sc a c) = 0 then 0 else a 35) → Q 0 N) (k0 : ¬ tk a c - T 2 (sd a c) < (if lentI T (sd a c) (sc a c) = 0 then 0 else a 35) → Q 1 N) : p_X8_isThere gM 0 c N Q := by
  obtain ⟨g1, g6, g7, g8, g9, g10, g11, g12, g13, g14, g15⟩ := gl_m
  obtain ⟨v1, v2, v3, v4, v5, v6, v7, v8, v9⟩ := hV
  obtain ⟨⟨t0, t1⟩, ⟨s0, s1⟩, ⟨d0, d1⟩, ⟨l0, l1⟩⟩ := v8 c c0 c1
  obtain ⟨y0, y1, y2, y3⟩ := hc
  obtain ⟨r1, r2, r3, r4, r5, r6, r7⟩ := hW.1 (sd a c) d0 (by omega)
  unfold p_X8_isThere
  simp only [Nat.zero_add, g1, g13, g14]
  refine of_m (by omega) (by omega) ?_
  rw [y2, h13]
  unfold usedM
  by_cases hT1 : T 1 (sd a c) = -1
  · rw [if_pos hT1]
    have hl : lentI T (sd a c) (sc a c) = 0 := by unfold lentI; rw [if_pos hT1]
    rw [hl, if_pos rfl] at k0
    refine ⟨d0, by omega, inR_s (by omega) (by omega), fun h => absurd rfl h, fun _ => k0 ?_⟩
    have := r7 hT1
    omega
  · rw [if_neg hT1]
    refine ⟨d0, by omega, inR_s (by omega) (by omega), fun _ => of_m (by omega) (by omega) ⟨d0, by omega, d0, by omega, of_m (by omega) (by omega) ?_⟩, fun h => by omega⟩
    rw [y0, y1, y3, h14, show N 13 (sd a c) = T 1 (sd a c) by rw [h13]; unfold usedM; exact if_neg hT1]
    have J : ∀ y : Int, 0 ≤ y → y ≤ 20 → (tk a c - T 2 (sd a c) < y → Q 0 N) → (¬ tk a c - T 2 (sd a c) < y → Q 1 N) → p_X8_isThere_J61 gM (tk a c - T 2 (sd a c)) y N Q := by
      intro y yy0 yy1 q0 q1
      unfold p_X8_isThere_J61
      exact ⟨inR_s (by omega) (by omega), inR_s (by omega) (by omega), q0, fun h => q1 (by omega)⟩
    refine ⟨inR_s (by omega) (by omega), inR_s (by omega) (by omega), fun hne => ⟨by omega, ?_⟩, fun he => ?_⟩
    · have hl : lentI T (sd a c) (sc a c) = 1 := by unfold lentI; rw [if_neg hT1, if_neg hne]
      rw [hl, if_neg (by omega)] at k0 k1
      exact J (a 35) (by omega) (by omega) k1 k0
    · have hl : lentI T (sd a c) (sc a c) = 0 := by unfold lentI; rw [if_neg hT1, if_pos he]
      rw [hl, if_pos rfl] at k0 k1
      exact J 0 (by omega) (by omega) k1 k0
theorem comes_m {N T : Mm} {Q : Mm → Prop} {a : Int → Int} {n : Nat} {c : Int} (hV : VR a) (c0 : 0 ≤ c) (c1 : c < a 36) (h30 : a 30 = (n : Int)) (hT : TauM N T a n c) (hW : VT T n c) (k : ∀ N' : Mm, TauM N' (tStep a n T c) a n (c + 1) → frM N N' → Q N') : p_X8_comesTo gM 0 c N Q := by
  obtain ⟨g1, g6, g7, g8, g9, g10, g11, g12, g13, g14, g15⟩ := gl_m
  have hV' := hV
  obtain ⟨v1, v2, v3, v4, v5, v6, v7, v8, v9⟩ := hV'
  have hn : n ≤ 4 := by omega
  obtain ⟨⟨t0, t1⟩, ⟨s0, s1⟩, ⟨d0, d1⟩, ⟨l0, l1⟩⟩ := v8 c c0 c1
  obtain ⟨y0, y1, y2, y3⟩ := hT.cue hn c0 (by omega)
  have sh := v1 (sd a c) d0 (by omega)
  obtain ⟨m1, m2, m3, m4, m5⟩ := id hT
  obtain ⟨z0, z1, z2⟩ := m2 (sd a c) d0 (by omega)
  obtain ⟨r1, r2, r3, r4, r5, r6, r7⟩ := hW.1 (sd a c) d0 (by omega)
  have hsh : N 1 (sd a c) = a (sd a c) := m1 _ (by omega) (by omega) (by omega) (by omega)
  have n30 : N 1 30 = (n : Int) := by rw [m1 30 (by omega) (by omega) (by omega) (by omega)]; exact h30
  have n35 : N 1 35 = a 35 := m1 35 (by omega) (by omega) (by omega) (by omega)
  have hw := whyC_in (a := a) (n := n) (T := T) (c := c)
  have hnear := near_in (T := T) (sh := a (sd a c)) (tick := tk a c) n
  unfold p_X8_comesTo
  simp only [Nat.zero_add, g1, g6, g8, g9]
  refine of_m (by omega) (by omega) ?_
  rw [y2]
  refine ⟨by omega, by omega, of_m (by omega) (by omega) ?_⟩
  rw [y1, show N 1 (0 + sd a c) = a (sd a c) by rw [Int.zero_add]; exact hsh]
  refine for_m (T := T) hn sh ⟨t0, t1⟩ n30 (fun h q0 q1 => ?_) ?_
  · obtain ⟨x1, x2, -, -⟩ := m3 h q0 q1
    obtain ⟨b1, b2, b3, b4, -⟩ := hW.2.1 h q0 q1
    exact ⟨x1, x2, b1, b2, b3, b4⟩
  refine ⟨c0, by omega, fun N1 e1 => ⟨c0, by omega, fun N2 e2 => ⟨c0, by omega, fun N3 e3 => ?_⟩⟩⟩
  have F : ∀ o, o ≠ 6 → o ≠ 8 → o ≠ 9 → N3 o = N o := fun o o1 o2 o3 => by rw [e3, mu_ne o3, e2, mu_ne o2, e1, mu_ne o1]
  have F6 : N3 6 = fun j => if j = c then -5 else N 6 j := by rw [e3, mu_ne (by omega), e2, mu_ne (by omega), e1, mu_eq]
  have F8 : N3 8 = fun j => if j = c then -5 else N 8 j := by rw [e3, mu_ne (by omega), e2, mu_eq, e1, mu_ne (by omega)]
  have F9 : N3 9 = fun j => if j = c then 0 else N 9 j := by rw [e3, mu_eq, e2, mu_ne (by omega), e1, mu_ne (by omega)]
  clear e1 e2 e3
  have hT3 : TauM N3 T a n c := by
    refine ⟨by rw [F 1 (by omega) (by omega) (by omega)]; exact m1, ?_, ?_, ?_, fun j j0 j1 => ?_⟩
    · rw [F 1 (by omega) (by omega) (by omega), F 13 (by omega) (by omega) (by omega), F 14 (by omega) (by omega) (by omega)]; exact m2
    · rw [F 1 (by omega) (by omega) (by omega), F 10 (by omega) (by omega) (by omega), F 11 (by omega) (by omega) (by omega), F 12 (by omega) (by omega) (by omega)]; exact m3
    · rw [F 0 (by omega) (by omega) (by omega)]; exact m4
    · have hj : j ≠ c := by omega
      rw [F6, F8, F9, F 7 (by omega) (by omega) (by omega)]
      show (if j = c then -5 else N 6 j) = _ ∧ _ ∧ (if j = c then -5 else N 8 j) = _ ∧ (if j = c then 0 else N 9 j) = _
      rw [if_neg hj, if_neg hj, if_neg hj]
      exact m5 j j0 j1
  have fr : frM N N3 := ⟨fun o ho => F o (by omega) (by omega) (by omega), fun j _ => by rw [F 0 (by omega) (by omega) (by omega)]⟩
  have jj : whyC a n T c = whyC a n T c → p_X8_comesTo_J97 gM 0 c (sd a c) (a (sd a c)) (nearC a n T c) (0 + 7) c (whyC a n T c) N3 Q := fun _ =>
    comes_j hV c0 c1 hn hT3 hW hw (fun h => whyC_near h) (by rw [F6]; exact if_pos rfl) (by rw [F8]; exact if_pos rfl) (by rw [F9]; exact if_pos rfl) (fun N' hT' f' => k N' hT' (fr.tr f'))
  have jj := jj rfl
  have q0 : N3 1 (10 + sd a c) = T 0 (sd a c) := by rw [F 1 (by omega) (by omega) (by omega)]; exact z0
  rw [q0]
  refine ⟨by omega, by omega, inR_s (by omega) (by omega), fun hne => ?_, fun he => ?_⟩
  · refine there_m (T := T) hV c0 c1 hn (by rw [F 1 (by omega) (by omega) (by omega)]; exact ⟨y0, y1, y2, n35⟩) (by rw [F 13 (by omega) (by omega) (by omega)]; exact z1) (by rw [F 14 (by omega) (by omega) (by omega)]; exact z2) hW (fun hlt => ⟨inR0, fun h => absurd rfl h, fun _ => ?_⟩) (fun hge => ⟨inR1, fun _ => ⟨inR_s (by show -100000000 ≤ nearN T (a (sd a c)) (tk a c) n; omega) (by show nearN T (a (sd a c)) (tk a c) n ≤ _; omega), fun h5 => ?_, fun h5 => ?_⟩, fun h => absurd h (by decide)⟩)
    · have : whyC a n T c = 2 := by unfold whyC; rw [if_neg (by omega), if_pos hlt]
      rw [this] at jj; exact jj
    · have : whyC a n T c = 0 := by unfold whyC; rw [if_neg (by omega), if_neg hge]; exact if_neg h5
      rw [this] at jj; exact jj
    · have : whyC a n T c = 3 := by unfold whyC; rw [if_neg (by omega), if_neg hge]; exact if_pos h5
      rw [this] at jj; exact jj
  · have : whyC a n T c = 1 := by unfold whyC; rw [if_pos (by omega)]
    rw [this] at jj; exact jj
/-- where a take begins in the reference -/
def BegM (N T : Mm) (a : Int → Int) (n : Nat) : Prop := (∀ k : Int, 0 ≤ k → k < 201 → (k < 10 ∨ 20 ≤ k) → (k < 31 ∨ 31 + (n : Int) ≤ k) → N 1 k = a k) ∧ (∀ s, 0 ≤ s → s < 10 → N 1 (10 + s) = T 0 s) ∧ ∀ h, 0 ≤ h → h < (n : Int) → N 1 (31 + h) = T 3 h
theorem pl_run {T : Mm} {Q : Mm → Prop} {a : Int → Int} {n : Nat} (hV : VR a) (h30 : a 30 = (n : Int)) (h0 : T0 T n) {N : Mm} (k : ∀ N' : Mm, TauM N' (tRun a n T (a 36).toNat) a n (a 36) → frM N N' → Q N') :
    ∀ (m c : Nat) (N1 : Mm), (c : Int) ≤ a 36 → (a 36).toNat - c < m → frM N N1 → TauM N1 (tRun a n T c) a n c → p_X8_plays_L75 gM m 0 (c : Int) N1 Q := by
  have h36 := hV.2.2.2.2.2.2.1
  have h4 := hV.2.2.2.1
  have l1 : gl gM (0 + 1) = 201 := by decide +kernel
  intro m
  induction m with
  | zero => intro c N1 hc hm; omega
  | succ m ih =>
    intro c N1 hc hm f hT
    have e : N1 (0 + 1) 36 = a 36 := hT.1 36 (by omega) (by omega) (by omega) (by omega)
    unfold p_X8_plays_L75
    rw [l1, e]
    refine ⟨by omega, inR_s (by omega) (by omega), inR_s (by omega) (by omega), fun hge => ?_, fun hlt => ?_⟩
    · have hce : (a 36).toNat = c := by omega
      refine k N1 ?_ f
      rw [hce, show a 36 = (c : Int) by omega]; exact hT
    · exact comes_m hV (by omega) hlt h30 hT (VT_run hV h0 c hc) (fun N2 hT2 f2 => ih (c + 1) N2 (by omega) (by omega) (f.tr f2) hT2)
theorem pl_snd {Q : Mm → Prop} {N : Mm} (k : ∀ N' : Mm, (∀ o, o ≠ 13 → o ≠ 14 → N' o = N o) → (∀ s, 0 ≤ s → s < 10 → N' 13 s = -5 ∧ N' 14 s = 0) → ∃ m, p_X8_plays_L75 gM m 0 0 N' Q) :
    ∀ (m : Nat) (i : Int) (N1 : Mm), 0 ≤ i → i ≤ 10 → 10 - i < m → (∀ o, o ≠ 13 → o ≠ 14 → N1 o = N o) → (∀ s, 0 ≤ s → s < i → N1 13 s = -5 ∧ N1 14 s = 0) → p_X8_plays_L46 gM m 0 i N1 Q := by
  obtain ⟨g1, g6, g7, g8, g9, g10, g11, g12, g13, g14, g15⟩ := gl_m
  intro m
  induction m with
  | zero => intro i N1 _ _ hm; omega
  | succ m ih =>
    intro i N1 i0 i1 hm f h
    unfold p_X8_plays_L46
    simp only [Nat.zero_add, g13, g14]
    refine ⟨inR_s (by omega) (by omega), fun hge => k N1 f (fun s s0 s1 => h s s0 (by omega)), fun hlt => ⟨i0, by omega, fun N2 e2 => ⟨i0, by omega, fun N3 e3 => ?_⟩⟩⟩
    refine ih (i + 1) N3 (by omega) (by omega) (by omega) (fun o o1 o2 => by rw [e3, mu_ne o2, e2, mu_ne o1, f o o1 o2]) (fun s s0 s1 => ?_)
    have q13 : N3 13 s = if s = i then -5 else N1 13 s := by rw [e3, mu_ne (by omega), e2, mu_eq]
    have q14 : N3 14 s = if s = i then 0 else N1 14 s := by rw [e3, mu_eq, e2, mu_ne (by omega)]
    rw [q13, q14]
    by_cases hs : s = i
    · rw [if_pos hs, if_pos hs]; exact ⟨rfl, rfl⟩
    · rw [if_neg hs, if_neg hs]; exact h s s0 (by omega)
theorem pl_hnd {Q : Mm → Prop} {N : Mm} (k : ∀ N' : Mm, (∀ o, o ≠ 10 → o ≠ 11 → o ≠ 12 → N' o = N o) → (∀ s, 0 ≤ s → s < 4 → N' 10 s = 0 ∧ N' 11 s = 0 ∧ N' 12 s = 0) → ∃ m, p_X8_plays_L46 gM m 0 0 N' Q) :
    ∀ (m : Nat) (i : Int) (N1 : Mm), 0 ≤ i → i ≤ 4 → 4 - i < m → (∀ o, o ≠ 10 → o ≠ 11 → o ≠ 12 → N1 o = N o) → (∀ s, 0 ≤ s → s < i → N1 10 s = 0 ∧ N1 11 s = 0 ∧ N1 12 s = 0) → p_X8_plays_L12 gM m 0 i N1 Q := by
  obtain ⟨g1, g6, g7, g8, g9, g10, g11, g12, g13, g14, g15⟩ := gl_m
  intro m
  induction m with
  | zero => intro i N1 _ _ hm; omega
  | succ m ih =>
    intro i N1 i0 i1 hm f h
    unfold p_X8_plays_L12
    simp only [Nat.zero_add, g10, g11, g12]
    refine ⟨inR_s (by omega) (by omega), fun hge => k N1 f (fun s s0 s1 => h s s0 (by omega)), fun hlt => ⟨i0, by omega, fun N2 e2 => ⟨i0, by omega, fun N3 e3 => ⟨i0, by omega, fun N4 e4 => ?_⟩⟩⟩⟩
    refine ih (i + 1) N4 (by omega) (by omega) (by omega) (fun o o1 o2 o3 => by rw [e4, mu_ne o3, e3, mu_ne o2, e2, mu_ne o1, f o o1 o2 o3]) (fun s s0 s1 => ?_)
    have q10 : N4 10 s = if s = i then 0 else N1 10 s := by rw [e4, mu_ne (by omega), e3, mu_ne (by omega), e2, mu_eq]
    have q11 : N4 11 s = if s = i then 0 else N1 11 s := by rw [e4, mu_ne (by omega), e3, mu_eq, e2, mu_ne (by omega)]
    have q12 : N4 12 s = if s = i then 0 else N1 12 s := by rw [e4, mu_eq, e3, mu_ne (by omega), e2, mu_ne (by omega)]
    rw [q10, q11, q12]
    by_cases hs : s = i
    · rw [if_pos hs, if_pos hs, if_pos hs]; exact ⟨rfl, rfl, rfl⟩
    · rw [if_neg hs, if_neg hs, if_neg hs]; exact h s s0 (by omega)
theorem plays_m {N T : Mm} {Q : Mm → Prop} {a : Int → Int} {n : Nat} (hV : VR a) (h30 : a 30 = (n : Int)) (h0 : T0 T n) (hB : BegM N T a n) (k : ∀ N' : Mm, TauM N' (tRun a n T (a 36).toNat) a n (a 36) → frM N N' → Q N') : p_X8_plays gM 0 N Q := by
  have h36 := hV.2.2.2.2.2.2.1
  have h4 := hV.2.2.2.1
  obtain ⟨b1, b2, b3⟩ := hB
  unfold p_X8_plays
  intro N1 e1 N2 e2
  have F : ∀ o, o ≠ 0 → N2 o = N o := fun o ho => by rw [e2, mu_ne ho, e1, mu_ne ho]
  have F0 : N2 0 = fun j => if j = 17 then 0 else if j = 16 then 0 else N 0 j := by rw [e2, mu_eq, e1, mu_eq]
  clear e1 e2
  refine ⟨5, pl_hnd (fun N3 f3 h3 => ⟨11, pl_snd (fun N4 f4 h4 => ⟨42, ?_⟩) 11 0 N3 (by omega) (by omega) (by omega) (fun _ _ _ => rfl) (fun s s0 s1 => by omega)⟩) 5 0 N2 (by omega) (by omega) (by omega) (fun _ _ _ _ => rfl) (fun s s0 s1 => by omega)⟩
  have G : ∀ o, o ≠ 0 → o ≠ 10 → o ≠ 11 → o ≠ 12 → o ≠ 13 → o ≠ 14 → N4 o = N o := fun o o0 o1 o2 o3 o4 o5 => by rw [f4 o o4 o5, f3 o o1 o2 o3, F o o0]
  have G0 : N4 0 = fun j => if j = 17 then 0 else if j = 16 then 0 else N 0 j := by rw [f4 0 (by omega) (by omega), f3 0 (by omega) (by omega) (by omega), F0]
  have fr : frM N N4 := ⟨fun o ho => G o (by omega) (by omega) (by omega) (by omega) (by omega) (by omega), fun j hj => by
    rw [G0]; show (if j = 17 then 0 else if j = 16 then 0 else N 0 j) = _
    rw [if_neg (by omega), if_neg (by omega)]⟩
  refine pl_run hV h30 h0 k 42 0 N4 (by omega) (by omega) fr ⟨?_, fun s s0 s1 => ⟨?_, ?_, ?_⟩, fun h q0 q1 => ⟨?_, ?_, ?_, ?_⟩, ⟨?_, ?_⟩, fun j j0 j1 => by omega⟩
  · rw [G 1 (by omega) (by omega) (by omega) (by omega) (by omega) (by omega)]; exact b1
  · rw [G 1 (by omega) (by omega) (by omega) (by omega) (by omega) (by omega)]; exact b2 s s0 s1
  · exact (h4 s s0 s1).1
  · exact (h4 s s0 s1).2
  · rw [G 1 (by omega) (by omega) (by omega) (by omega) (by omega) (by omega)]; exact b3 h q0 q1
  · rw [f4 10 (by omega) (by omega)]; exact (h3 h q0 (by omega)).1
  · rw [f4 11 (by omega) (by omega)]; exact (h3 h q0 (by omega)).2.1
  · rw [f4 12 (by omega) (by omega)]; exact (h3 h q0 (by omega)).2.2
  · rw [G0]; rfl
  · rw [G0]; rfl
