/-! PURE: a state of the class as a row of 201 numbers (as the reference holds it) -/
def tk (a : Int → Int) (c : Int) : Int := a (41 + 4 * c + 1)
def sc (a : Int → Int) (c : Int) : Int := a (41 + 4 * c + 0)
def sd (a : Int → Int) (c : Int) : Int := a (41 + 4 * c + 2)
def la (a : Int → Int) (c : Int) : Int := a (41 + 4 * c + 3)
def rk (t s d : Int) : Int := (t * 6 + s) * 10 + d
/-- cue c of the list at id b is cue c of the row -/
def CQ (M : Mm) (b : Nat) (a : Int → Int) (c : Int) : Prop := M (b + 1 + 1) c = tk a c ∧ M (b + 3 + 1) c = sc a c ∧ M (b + 5 + 1) c = sd a c ∧ M (b + 7 + 1) c = la a c
def SR (M : Mm) (b : Nat) (a : Int → Int) : Prop :=
  (∀ i, 0 ≤ i → i < 10 → M (b + 1 + 1) i = a i) ∧ (∀ i, 0 ≤ i → i < 10 → M (b + 3 + 1) i = a (10 + i)) ∧ (∀ i, 0 ≤ i → i < 10 → M (b + 5 + 1) i = a (20 + i)) ∧ (∀ i, 0 ≤ i → i < a 30 → M (b + 7 + 1) i = a (31 + i)) ∧
  (M b 5 = a 30 ∧ M b 6 = a 35 ∧ M b 7 = a 37 ∧ M b 8 = a 38 ∧ M b 9 = a 39 ∧ M b 10 = a 40) ∧ M (b + 9) 5 = a 36 ∧ ∀ c, 0 ≤ c → c < a 36 → CQ M (b + 9) a c
def VQ (a : Int → Int) (c : Int) : Prop := (0 ≤ tk a c ∧ tk a c ≤ 999) ∧ (0 ≤ sc a c ∧ sc a c ≤ 5) ∧ (0 ≤ sd a c ∧ sd a c ≤ 9) ∧ 1 ≤ la a c ∧ la a c ≤ 20
def VR (a : Int → Int) : Prop :=
  (∀ i, 0 ≤ i → i < 10 → 0 ≤ a i ∧ a i ≤ 4) ∧ (∀ i, 0 ≤ i → i < 10 → 0 ≤ a (10 + i) ∧ a (10 + i) ≤ 30) ∧ (∀ i, 0 ≤ i → i < 10 → 1 ≤ a (20 + i) ∧ a (20 + i) ≤ 9) ∧ (1 ≤ a 30 ∧ a 30 ≤ 4) ∧ (∀ i, 0 ≤ i → i < a 30 → 0 ≤ a (31 + i) ∧ a (31 + i) ≤ 4) ∧ (0 ≤ a 35 ∧ a 35 ≤ 20) ∧ (0 ≤ a 36 ∧ a 36 ≤ 40) ∧ (∀ c, 0 ≤ c → c < a 36 → VQ a c) ∧ ∀ c, 0 ≤ c → c + 1 < a 36 → rk (tk a c) (sc a c) (sd a c) < rk (tk a (c + 1)) (sc a (c + 1)) (sd a (c + 1))
def EQR (a a' : Int → Int) : Prop := ∀ k, 0 ≤ k → k < 201 → a' k = a k
theorem CQ.eqr {M : Mm} {b : Nat} {a a' : Int → Int} {c : Int} (h : CQ M b a c) (e : EQR a a') (h0 : 0 ≤ c) (h1 : c < 40) : CQ M b a' c := by
  obtain ⟨q1, q2, q3, q4⟩ := h
  refine ⟨q1.trans ?_, q2.trans ?_, q3.trans ?_, q4.trans ?_⟩
  · exact (e _ (by omega) (by omega)).symm
  · exact (e _ (by omega) (by omega)).symm
  · exact (e _ (by omega) (by omega)).symm
  · exact (e _ (by omega) (by omega)).symm
theorem SR.eqr {M : Mm} {b : Nat} {a a' : Int → Int} (h : SR M b a) (v : VR a) (e : EQR a a') : SR M b a' := by
  obtain ⟨h1, h2, h3, h4, ⟨h5, h6, h7, h8, h9, h10⟩, h11, h12⟩ := h
  obtain ⟨-, -, -, v4, -, -, v7, -, -⟩ := v
  have e30 := e 30 (by omega) (by omega)
  have e36 := e 36 (by omega) (by omega)
  refine ⟨fun i i0 i1 => (h1 i i0 i1).trans (e _ (by omega) (by omega)).symm, fun i i0 i1 => (h2 i i0 i1).trans (e _ (by omega) (by omega)).symm, fun i i0 i1 => (h3 i i0 i1).trans (e _ (by omega) (by omega)).symm, fun i i0 i1 => (h4 i i0 (by omega)).trans (e _ (by omega) (by omega)).symm, ⟨by omega, h6.trans (e _ (by omega) (by omega)).symm, h7.trans (e _ (by omega) (by omega)).symm, h8.trans (e _ (by omega) (by omega)).symm, h9.trans (e _ (by omega) (by omega)).symm, h10.trans (e _ (by omega) (by omega)).symm⟩, by omega, fun c c0 c1 => (h12 c c0 (by omega)).eqr e c0 (by omega)⟩
theorem VR.eqr {a a' : Int → Int} (v : VR a) (e : EQR a a') : VR a' := by
  obtain ⟨v1, v2, v3, v4, v5, v6, v7, v8, v9⟩ := v
  have e30 := e 30 (by omega) (by omega)
  have e35 := e 35 (by omega) (by omega)
  have e36 := e 36 (by omega) (by omega)
  have q : ∀ c, 0 ≤ c → c < 40 → tk a' c = tk a c ∧ sc a' c = sc a c ∧ sd a' c = sd a c ∧ la a' c = la a c := fun c c0 c1 => ⟨e _ (by omega) (by omega), e _ (by omega) (by omega), e _ (by omega) (by omega), e _ (by omega) (by omega)⟩
  refine ⟨fun i i0 i1 => by rw [e i (by omega) (by omega)]; exact v1 i i0 i1, fun i i0 i1 => by rw [e (10 + i) (by omega) (by omega)]; exact v2 i i0 i1, fun i i0 i1 => by rw [e (20 + i) (by omega) (by omega)]; exact v3 i i0 i1, by omega, fun i i0 i1 => by rw [e (31 + i) (by omega) (by omega)]; exact v5 i i0 (by omega), by omega, by omega, fun c c0 c1 => ?_, fun c c0 c1 => ?_⟩
  · have h := v8 c c0 (by omega)
    obtain ⟨z1, z2, z3, z4⟩ := q c c0 (by omega)
    unfold VQ at h ⊢
    rw [z1, z2, z3, z4]; exact h
  · have h := v9 c c0 (by omega)
    obtain ⟨z1, z2, z3, z4⟩ := q c c0 (by omega)
    obtain ⟨y1, y2, y3, y4⟩ := q (c + 1) (by omega) (by omega)
    rw [z1, z2, z3, y1, y2, y3]; exact h
theorem SR.keep {M M' : Mm} {b : Nat} {a : Int → Int} (h : SR M b a) (e : ∀ o, b ≤ o → o < b + 18 → M' o = M o) : SR M' b a := by
  unfold SR CQ at h ⊢
  rw [e b (by omega) (by omega), e (b + 1 + 1) (by omega) (by omega), e (b + 3 + 1) (by omega) (by omega), e (b + 5 + 1) (by omega) (by omega), e (b + 7 + 1) (by omega) (by omega), e (b + 9) (by omega) (by omega), e (b + 9 + 1 + 1) (by omega) (by omega), e (b + 9 + 3 + 1) (by omega) (by omega), e (b + 9 + 5 + 1) (by omega) (by omega), e (b + 9 + 7 + 1) (by omega) (by omega)]
  exact h
theorem st_apart {b b2 : Nat} (h : gk gC b = 5) (h2 : gk gC b2 = 5) (hne : b ≠ b2) : b + 18 ≤ b2 ∨ b2 + 18 ≤ b := by
  rcases st_ids h with rfl | rfl | rfl | rfl | rfl | rfl <;> rcases st_ids h2 with rfl | rfl | rfl | rfl | rfl | rfl <;> omega
theorem copyN {r r2 n : Nat} {M : Mm} {Q : Mm → Prop} (h1 : gl gC (r + 1) = n) (h2 : gl gC (r2 + 1) = n) (k : Q (mcp M (r2 + 1) (r + 1) (n : Int))) : p_X4_copyFrom gC r r2 M Q := by
  refine copy_c ?_
  rw [h1, h2, show min (n : Int) (n : Int) = n by omega]
  exact k
set_option maxHeartbeats 1000000 in
theorem st_copy {b b2 : Nat} {M : Mm} {Q : Mm → Prop} {a : Int → Int} (hb : gk gC b = 5) (hb2 : gk gC b2 = 5) (hne : b ≠ b2) (hc : M (b + 9) 0 = 40) (hS : SR M b2 a) (hV : VR a) (k : ∀ M' : Mm, SR M' b a → (∀ o, (o < b ∨ b + 18 ≤ o) → M' o = M o) → M' (b + 9) 0 = 40 → Q M') : p_X5_copyFrom gC b b2 M Q := by
  have hd := st_apart hb hb2 hne
  obtain ⟨-, -, -, -, -, -, -, -, -, -, l1, l2, l3, l4, l5, l6, l7, l8⟩ := st_all hb
  obtain ⟨-, -, -, -, -, -, -, -, -, -, m1, m2, m3, m4, m5, m6, m7, m8⟩ := st_all hb2
  obtain ⟨s1, s2, s3, s4, ⟨s5, s6, s7, s8, s9, s10⟩, s11, s12⟩ := hS
  obtain ⟨-, -, -, v4, -, -, v7, -, -⟩ := hV
  unfold p_X5_copyFrom
  refine copyN l1 m1 (copyN l2 m2 (copyN l3 m3 (copyN l4 m4 ?_)))
  unfold p_X0_copyFrom
  refine copyN l5 m5 (copyN l6 m6 (copyN l7 m7 (copyN l8 m8 ?_)))
  simp (disch := omega) only [mcp_ne, hc, s11]
  refine ⟨inR_s (by omega) (by omega), inR_s (by omega) (by omega), fun M1 e1 M2 e2 M3 e3 M4 e4 M5 e5 M6 e6 M7 e7 => ?_⟩
  rw [show min (a 36) 40 = a 36 by omega] at e1
  have f : ∀ o, (o < b ∨ b + 18 ≤ o) → M7 o = M o := by
    intro o ho
    simp (disch := omega) only [e7, e6, e5, e4, e3, e2, e1, mu_ne, mcp_ne]
  refine k M7 ⟨fun i i0 i1 => ?_, fun i i0 i1 => ?_, fun i i0 i1 => ?_, fun i i0 i1 => ?_, ⟨?_, ?_, ?_, ?_, ?_, ?_⟩, ?_, fun c c0 c1 => ⟨?_, ?_, ?_, ?_⟩⟩ f ?_
  all_goals subst e1 e2 e3 e4 e5 e6 e7
  · simp (disch := omega) only [mu_ne, mcp_ne, mcp_eq]
    rw [if_pos (by omega)]; exact s1 i i0 i1
  · simp (disch := omega) only [mu_ne, mcp_ne, mcp_eq]
    rw [if_pos (by omega)]; exact s2 i i0 i1
  · simp (disch := omega) only [mu_ne, mcp_ne, mcp_eq]
    rw [if_pos (by omega)]; exact s3 i i0 i1
  · simp (disch := omega) only [mu_ne, mcp_ne, mcp_eq]
    rw [if_pos (by omega)]; exact s4 i i0 i1
  · simp (disch := omega) only [mu_ne, mcp_ne, mu_eq, if_pos, if_neg]
    first | exact s5 | simpa using s5
  · simp (disch := omega) only [mu_ne, mcp_ne, mu_eq, if_pos, if_neg]
    first | exact s6 | simpa using s6
  · simp (disch := omega) only [mu_ne, mcp_ne, mu_eq, if_pos, if_neg]
    first | exact s7 | simpa using s7
  · simp (disch := omega) only [mu_ne, mcp_ne, mu_eq, if_pos, if_neg]
    first | exact s8 | simpa using s8
  · simp (disch := omega) only [mu_ne, mcp_ne, mu_eq, if_pos, if_neg]
    first | exact s9 | simpa using s9
  · simp (disch := omega) only [mu_ne, mcp_ne, mu_eq, if_pos, if_neg]
    first | exact s10 | simpa using s10
  · simp (disch := omega) only [mu_ne, mcp_ne, mu_eq]
    rfl
  · simp (disch := omega) only [mu_ne, mcp_ne, mcp_eq]
    rw [if_pos (by omega)]; exact (s12 c c0 c1).1
  · simp (disch := omega) only [mu_ne, mcp_ne, mcp_eq]
    rw [if_pos (by omega)]; exact (s12 c c0 c1).2.1
  · simp (disch := omega) only [mu_ne, mcp_ne, mcp_eq]
    rw [if_pos (by omega)]; exact (s12 c c0 c1).2.2.1
  · simp (disch := omega) only [mu_ne, mcp_ne, mcp_eq]
    rw [if_pos (by omega)]; exact (s12 c c0 c1).2.2.2
  · simp (disch := omega) only [mu_ne, mcp_ne, mu_eq, if_pos, if_neg]
    first | exact hc | simpa using hc
