/-! PURE: a take, cue by cue: what it comes to (numbers: 0 charges, 1 used in, 2 used till, 3 at, 4 free from, 5 plays, 6 walks, 7 misses and what the ear misses, 8 player, 9 reason, 10 way, 11 lent, 12 misses of a scene, 13 lent to a scene) -/
def dist (x y : Int) : Int := if x < y then y - x else x - y
def nearN (T : Mm) (sh tick : Int) : Nat → Int
  | 0 => -5
  | n + 1 => if dist (T 3 n) sh ≤ tick - T 4 n ∧ (nearN T sh tick n = -5 ∨ dist (T 3 n) sh < dist (T 3 (nearN T sh tick n)) sh) then (n : Int) else nearN T sh tick n
def lentB (T : Mm) (s scn : Int) : Prop := T 1 s ≠ -1 ∧ T 1 s ≠ scn
noncomputable def lentI (T : Mm) (s scn : Int) : Int := if T 1 s = -1 then 0 else if T 1 s = scn then 0 else 1
def nearC (a : Int → Int) (n : Nat) (T : Mm) (c : Int) : Int := nearN T (a (sd a c)) (tk a c) n
noncomputable def whyC (a : Int → Int) (n : Nat) (T : Mm) (c : Int) : Int :=
  if T 0 (sd a c) ≤ 0 then 1 else if tk a c - T 2 (sd a c) < (if lentI T (sd a c) (sc a c) = 0 then 0 else a 35) then 2 else if nearC a n T c = -5 then 3 else 0
/-- the cue is played by hand p -/
noncomputable def tPlay (a : Int → Int) (T : Mm) (c p : Int) : Mm := fun o k => match o with
  | 0 => if k = sd a c then T 0 (sd a c) + (-1) else T 0 k
  | 1 => if k = sd a c then sc a c else T 1 k
  | 2 => if k = sd a c then tk a c + la a c else T 2 k
  | 3 => if k = p then a (sd a c) else T 3 k
  | 4 => if k = p then tk a c + la a c else T 4 k
  | 5 => if k = p then T 5 p + 1 else T 5 k
  | 6 => if k = p then T 6 p + dist (T 3 p) (a (sd a c)) else T 6 k
  | 8 => if k = c then p else T 8 k
  | 9 => if k = c then 0 else T 9 k
  | 10 => if k = c then dist (T 3 p) (a (sd a c)) else T 10 k
  | 11 => if k = c then lentI T (sd a c) (sc a c) else T 11 k
  | 13 => if k = sc a c then T 13 (sc a c) + lentI T (sd a c) (sc a c) else T 13 k
  | o => T o k
/-- the cue is missed for reason w -/
def tMiss (a : Int → Int) (T : Mm) (c w : Int) : Mm := fun o k => match o with
  | 7 => if k = 0 then T 7 0 + 1 else if k = 1 then T 7 1 + a (20 + sd a c) else T 7 k
  | 8 => if k = c then -5 else T 8 k
  | 9 => if k = c then w else T 9 k
  | 10 => if k = c then -5 else T 10 k
  | 11 => if k = c then 0 else T 11 k
  | 12 => if k = sc a c then T 12 (sc a c) + 1 else T 12 k
  | o => T o k
noncomputable def tStep (a : Int → Int) (n : Nat) (T : Mm) (c : Int) : Mm := if whyC a n T c = 0 then tPlay a T c (nearC a n T c) else tMiss a T c (whyC a n T c)
/-- what a take holds stays in its ranges -/
def VT (T : Mm) (n : Nat) (c : Int) : Prop :=
  (∀ s, 0 ≤ s → s < 10 → 0 ≤ T 0 s ∧ T 0 s ≤ 30 ∧ -1 ≤ T 1 s ∧ T 1 s ≤ 5 ∧ 0 ≤ T 2 s ∧ T 2 s ≤ 1019 ∧ (T 1 s = -1 → T 2 s = 0)) ∧
  (∀ h, 0 ≤ h → h < (n : Int) → 0 ≤ T 3 h ∧ T 3 h ≤ 4 ∧ 0 ≤ T 4 h ∧ T 4 h ≤ 1019 ∧ 0 ≤ T 5 h ∧ T 5 h ≤ c ∧ 0 ≤ T 6 h ∧ T 6 h ≤ 4 * c) ∧
  (0 ≤ T 7 0 ∧ T 7 0 ≤ c ∧ 0 ≤ T 7 1 ∧ T 7 1 ≤ 9 * c) ∧ (∀ j, 0 ≤ j → j < c → 0 ≤ T 9 j ∧ T 9 j ≤ 3) ∧ ∀ s, 0 ≤ s → s < 6 → 0 ≤ T 12 s ∧ T 12 s ≤ c ∧ 0 ≤ T 13 s ∧ T 13 s ≤ c
theorem near_in {T : Mm} {sh tick : Int} : ∀ n : Nat, nearN T sh tick n = -5 ∨ (0 ≤ nearN T sh tick n ∧ nearN T sh tick n < n)
  | 0 => Or.inl rfl
  | n + 1 => by
    have ih := near_in (T := T) (sh := sh) (tick := tick) n
    unfold nearN
    split
    · right; omega
    · rcases ih with h | h
      · exact Or.inl h
      · right; omega
theorem dist_in {x y : Int} (hx : 0 ≤ x ∧ x ≤ 4) (hy : 0 ≤ y ∧ y ≤ 4) : 0 ≤ dist x y ∧ dist x y ≤ 4 := by
  unfold dist; split <;> omega
theorem lentI_in {T : Mm} {s scn : Int} : lentI T s scn = 0 ∨ lentI T s scn = 1 := by
  unfold lentI; split
  · exact Or.inl rfl
  · split
    · exact Or.inl rfl
    · exact Or.inr rfl
theorem whyC_in {a : Int → Int} {n : Nat} {T : Mm} {c : Int} : 0 ≤ whyC a n T c ∧ whyC a n T c ≤ 3 := by
  unfold whyC
  generalize (if lentI T (sd a c) (sc a c) = 0 then 0 else a 35) = z
  split
  · omega
  · split
    · omega
    · split <;> omega
theorem VT_step {a : Int → Int} {n : Nat} {T : Mm} {c : Int} (hV : VR a) (c0 : 0 ≤ c) (c1 : c < a 36) (h : VT T n c) : VT (tStep a n T c) n (c + 1) := by
  obtain ⟨v1, v2, v3, v4, v5, v6, v7, v8, v9⟩ := hV
  obtain ⟨⟨t0, t1⟩, ⟨s0, s1⟩, ⟨d0, d1⟩, ⟨l0, l1⟩⟩ := v8 c c0 c1
  obtain ⟨q1, q2, q3, q4, q5⟩ := h
  have sh := v1 (sd a c) d0 (by omega)
  have hl := v3 (sd a c) d0 (by omega)
  have hw := whyC_in (a := a) (n := n) (T := T) (c := c)
  have hli := lentI_in (T := T) (s := sd a c) (scn := sc a c)
  have hn := near_in (T := T) (sh := a (sd a c)) (tick := tk a c) n
  unfold tStep
  by_cases hy : whyC a n T c = 0
  · rw [if_pos hy]
    have hch : ¬ T 0 (sd a c) ≤ 0 := fun z => by
      unfold whyC at hy; rw [if_pos z] at hy; omega
    have hp : 0 ≤ nearC a n T c ∧ nearC a n T c < n := by
      rcases hn with z | z
      · exfalso
        have z' : nearC a n T c = -5 := z
        unfold whyC at hy
        rw [if_neg hch, if_pos z'] at hy
        generalize (if lentI T (sd a c) (sc a c) = 0 then 0 else a 35) = zz at hy
        split at hy <;> omega
      · exact z
    generalize nearC a n T c = p at hp
    have hd := dist_in ⟨(q2 p hp.1 hp.2).1, (q2 p hp.1 hp.2).2.1⟩ sh
    refine ⟨fun s s0 s1 => ?_, fun h h0 h1 => ?_, ?_, fun j j0 j1 => ?_, fun s s0 s1 => ?_⟩
    · have q := q1 s s0 s1
      show 0 ≤ (if s = sd a c then T 0 (sd a c) + (-1) else T 0 s) ∧ (if s = sd a c then T 0 (sd a c) + (-1) else T 0 s) ≤ 30 ∧ -1 ≤ (if s = sd a c then sc a c else T 1 s) ∧ (if s = sd a c then sc a c else T 1 s) ≤ 5 ∧ 0 ≤ (if s = sd a c then tk a c + la a c else T 2 s) ∧ (if s = sd a c then tk a c + la a c else T 2 s) ≤ 1019 ∧ ((if s = sd a c then sc a c else T 1 s) = -1 → (if s = sd a c then tk a c + la a c else T 2 s) = 0)
      by_cases hs : s = sd a c
      · subst hs; simp only [if_true]; omega
      · simp only [if_neg hs]; exact q
    · have q := q2 h h0 h1
      have q' := q2 p hp.1 hp.2
      show 0 ≤ (if h = p then a (sd a c) else T 3 h) ∧ (if h = p then a (sd a c) else T 3 h) ≤ 4 ∧ 0 ≤ (if h = p then tk a c + la a c else T 4 h) ∧ (if h = p then tk a c + la a c else T 4 h) ≤ 1019 ∧ 0 ≤ (if h = p then T 5 p + 1 else T 5 h) ∧ (if h = p then T 5 p + 1 else T 5 h) ≤ c + 1 ∧ 0 ≤ (if h = p then T 6 p + dist (T 3 p) (a (sd a c)) else T 6 h) ∧ (if h = p then T 6 p + dist (T 3 p) (a (sd a c)) else T 6 h) ≤ 4 * (c + 1)
      by_cases hs : h = p
      · subst hs; simp only [if_true]; omega
      · simp only [if_neg hs]; omega
    · show 0 ≤ T 7 0 ∧ T 7 0 ≤ c + 1 ∧ 0 ≤ T 7 1 ∧ T 7 1 ≤ 9 * (c + 1)
      omega
    · show 0 ≤ (if j = c then 0 else T 9 j) ∧ (if j = c then 0 else T 9 j) ≤ 3
      by_cases hj : j = c
      · simp only [if_pos hj]; omega
      · simp only [if_neg hj]; exact q4 j j0 (by omega)
    · have q := q5 s s0 s1
      show 0 ≤ T 12 s ∧ T 12 s ≤ c + 1 ∧ 0 ≤ (if s = sc a c then T 13 (sc a c) + lentI T (sd a c) (sc a c) else T 13 s) ∧ (if s = sc a c then T 13 (sc a c) + lentI T (sd a c) (sc a c) else T 13 s) ≤ c + 1
      by_cases hs : s = sc a c
      · subst hs; simp only [if_true]; omega
      · simp only [if_neg hs]; omega
  · rw [if_neg hy]
    generalize whyC a n T c = w at hw
    refine ⟨fun s s0 s1 => q1 s s0 s1, fun h h0 h1 => ?_, ?_, fun j j0 j1 => ?_, fun s s0 s1 => ?_⟩
    · have q := q2 h h0 h1
      show 0 ≤ T 3 h ∧ T 3 h ≤ 4 ∧ 0 ≤ T 4 h ∧ T 4 h ≤ 1019 ∧ 0 ≤ T 5 h ∧ T 5 h ≤ c + 1 ∧ 0 ≤ T 6 h ∧ T 6 h ≤ 4 * (c + 1)
      omega
    · show 0 ≤ T 7 0 + 1 ∧ T 7 0 + 1 ≤ c + 1 ∧ 0 ≤ T 7 1 + a (20 + sd a c) ∧ T 7 1 + a (20 + sd a c) ≤ 9 * (c + 1)
      omega
    · show 0 ≤ (if j = c then w else T 9 j) ∧ (if j = c then w else T 9 j) ≤ 3
      by_cases hj : j = c
      · simp only [if_pos hj]; omega
      · simp only [if_neg hj]; exact q4 j j0 (by omega)
    · have q := q5 s s0 s1
      show 0 ≤ (if s = sc a c then T 12 (sc a c) + 1 else T 12 s) ∧ (if s = sc a c then T 12 (sc a c) + 1 else T 12 s) ≤ c + 1 ∧ 0 ≤ T 13 s ∧ T 13 s ≤ c + 1
      by_cases hs : s = sc a c
      · subst hs; simp only [if_true]; omega
      · simp only [if_neg hs]; omega
/-! the class's side -/
def TauC (M : Mm) (T : Mm) (n : Nat) (c : Int) : Prop :=
  M 124 12 = (n : Int) ∧ (∀ s, 0 ≤ s → s < 10 → M 126 s = T 0 s ∧ M 128 s = T 1 s ∧ M 130 s = T 2 s) ∧ (∀ h, 0 ≤ h → h < (n : Int) → M 132 h = T 3 h ∧ M 134 h = T 4 h ∧ M 136 h = T 5 h ∧ M 138 h = T 6 h) ∧ (M 124 13 = T 7 0 ∧ M 124 14 = T 7 1) ∧ (∀ j, 0 ≤ j → j < c → M 140 j = T 8 j ∧ M 142 j = T 9 j ∧ M 144 j = T 10 j) ∧ ∀ s, 0 ≤ s → s < 6 → M 146 s = T 12 s ∧ M 148 s = T 13 s
theorem way_c {M : Mm} {Q : Int → Mm → Prop} {sh h x : Int} (h0 : 0 ≤ h) (h4 : h < 4) (hx : M 132 h = x) (x0 : 0 ≤ x ∧ x ≤ 4) (s0 : 0 ≤ sh ∧ sh ≤ 4) (k : Q (dist x sh) M) : p_X3_wayTo gC 124 sh h M Q := by
  have hlen : gl gC (124 + 7 + 1) = 4 := by decide +kernel
  unfold p_X3_wayTo
  refine get_c h0 (by rw [hlen]; omega) ?_
  show inR (sh - M 132 h) ∧ Q (if 0 ≤ sh - M 132 h then sh - M 132 h else 0 - (sh - M 132 h)) M
  rw [hx]
  refine ⟨inR_s (by omega) (by omega), ?_⟩
  have : (if 0 ≤ sh - x then sh - x else 0 - (sh - x)) = dist x sh := by
    unfold dist
    by_cases h1 : 0 ≤ sh - x
    · rw [if_pos h1]; split <;> omega
    · rw [if_neg h1, if_neg (by omega)]; omega
  rw [this]; exact k
theorem near_l {M T : Mm} {Q : Int → Mm → Prop} {sh tick : Int} {n : Nat} (hn : n ≤ 4) (s0 : 0 ≤ sh ∧ sh ≤ 4) (t0 : 0 ≤ tick ∧ tick ≤ 999) (h12 : M 124 12 = (n : Int)) (hT : ∀ h, 0 ≤ h → h < (n : Int) → M 132 h = T 3 h ∧ M 134 h = T 4 h ∧ 0 ≤ T 3 h ∧ T 3 h ≤ 4 ∧ 0 ≤ T 4 h ∧ T 4 h ≤ 1019) (k : Q (nearN T sh tick n) M) :
    ∀ (m j : Nat) (x4 : Int), j ≤ n → n - j < m → ((nearN T sh tick j = -5 ∧ x4 = 5) ∨ (nearN T sh tick j ≠ -5 ∧ x4 = dist (T 3 (nearN T sh tick j)) sh)) → p_X3_nearestHand_L9 gC m 124 sh tick (nearN T sh tick j) x4 (j : Int) M Q := by
  have hlen : gl gC (124 + 9 + 1) = 4 := by decide +kernel
  intro m
  induction m with
  | zero => intro j x4 _ hm; omega
  | succ m ih =>
    intro j x4 hj hm hx
    unfold p_X3_nearestHand_L9
    rw [h12]
    refine ⟨inR_s (by omega) (by omega), inR_s (by omega) (by omega), fun hge => ?_, fun hlt => ?_⟩
    · rw [show n = j by omega] at k; exact k
    · obtain ⟨e3, e4, r1, r2, r3, r4⟩ := hT j (by omega) hlt
      have hd := dist_in ⟨r1, r2⟩ s0
      have hx4 : 0 ≤ x4 ∧ x4 ≤ 5 := by
        rcases hx with ⟨-, z⟩ | ⟨z1, z⟩
        · omega
        · rcases near_in (T := T) (sh := sh) (tick := tick) j with y | y
          · exact absurd y z1
          · have q := hT (nearN T sh tick j) y.1 (by omega)
            have := dist_in ⟨q.2.2.1, q.2.2.2.1⟩ s0
            omega
      have next : ∀ v x, nearN T sh tick (j + 1) = v → ((v = -5 ∧ x = 5) ∨ (v ≠ -5 ∧ x = dist (T 3 v) sh)) → p_X3_nearestHand_L9 gC m 124 sh tick v x ((j : Int) + 1) M Q := by
        intro v x hv hx2
        subst hv
        exact ih (j + 1) x (by omega) (by omega) hx2
      have hstep : nearN T sh tick (j + 1) = if dist (T 3 j) sh ≤ tick - T 4 j ∧ (nearN T sh tick j = -5 ∨ dist (T 3 j) sh < dist (T 3 (nearN T sh tick j)) sh) then (j : Int) else nearN T sh tick j := rfl
      have hcond : (nearN T sh tick j = -5 ∨ dist (T 3 j) sh < dist (T 3 (nearN T sh tick j)) sh) ↔ dist (T 3 j) sh < x4 := by
        rcases hx with ⟨z1, z⟩ | ⟨z1, z⟩
        · rw [z]; constructor
          · intro _; omega
          · intro _; exact Or.inl z1
        · rw [z]; constructor
          · intro y; rcases y with y | y
            · exact absurd y z1
            · exact y
          · intro y; exact Or.inr y
      refine way_c (by omega) (by omega) e3 ⟨r1, r2⟩ s0 ⟨inR_s (by omega) (by omega), inR_s (by omega) (by omega), fun h1 => ?_, fun h1 => get_c (by omega) (by rw [hlen]; omega) ?_⟩
      · exact next _ x4 (by rw [hstep, if_neg (fun z => by rw [hcond] at z; omega)]) hx
      · show inR (tick - M 134 j) ∧ inR _ ∧ (tick - M 134 j < _ → _) ∧ (_ ≤ tick - M 134 j → _)
        rw [e4]
        refine ⟨inR_s (by omega) (by omega), inR_s (by omega) (by omega), fun h2 => ?_, fun h2 => ?_⟩
        · exact next _ x4 (by rw [hstep, if_neg (fun z => by omega)]) hx
        · exact next _ _ (by rw [hstep, if_pos ⟨h2, hcond.mpr h1⟩]) (Or.inr ⟨by omega, rfl⟩)
theorem near_c {M T : Mm} {Q : Int → Mm → Prop} {sh tick : Int} {n : Nat} (hn : n ≤ 4) (s0 : 0 ≤ sh ∧ sh ≤ 4) (t0 : 0 ≤ tick ∧ tick ≤ 999) (h12 : M 124 12 = (n : Int)) (hT : ∀ h, 0 ≤ h → h < (n : Int) → M 132 h = T 3 h ∧ M 134 h = T 4 h ∧ 0 ≤ T 3 h ∧ T 3 h ≤ 4 ∧ 0 ≤ T 4 h ∧ T 4 h ≤ 1019) (k : Q (nearN T sh tick n) M) : p_X3_nearestHand gC 124 sh tick M Q := by
  unfold p_X3_nearestHand
  exact ⟨5, near_l hn s0 t0 h12 hT k 5 0 5 (by omega) (by omega) (Or.inl ⟨rfl, rfl⟩)⟩
theorem lent_c {M T : Mm} {Q : Int → Mm → Prop} {s scn : Int} (s0 : 0 ≤ s) (s1 : s < 10) (c0 : 0 ≤ scn ∧ scn ≤ 5) (e : M 128 s = T 1 s) (r : -1 ≤ T 1 s ∧ T 1 s ≤ 5) (k : Q (lentI T s scn) M) : p_X3_isLent gC 124 s scn M Q := by
  have hlen : gl gC (124 + 3 + 1) = 10 := by decide +kernel
  unfold p_X3_isLent
  refine get_c s0 (by rw [hlen]; omega) ?_
  show inR (M 128 s) ∧ (M 128 s = -1 → _) ∧ (M 128 s ≠ -1 → inR (M 128 s) ∧ _ ∧ (M 128 s = scn → _) ∧ (M 128 s ≠ scn → _))
  rw [e]
  unfold lentI at k
  refine ⟨inR_s (by omega) (by omega), fun h => ?_, fun h => ⟨inR_s (by omega) (by omega), inR_s (by omega) (by omega), fun h2 => ?_, fun h2 => ?_⟩⟩
  · rw [if_pos h] at k; exact k
  · rw [if_neg h, if_pos h2] at k; exact k
  · rw [if_neg h, if_neg h2] at k; exact k
