/-! PURE: takes that are tried (rehearse, tries), take() -/
def t0 (a : Int → Int) : Mm := fun o k => match o with
  | 0 => a (10 + k)
  | 3 => if k < a 30 then a (31 + k) else k
  | _ => 0
theorem T0_t0 {a : Int → Int} {n : Nat} (hV : VR a) (hn : n ≤ 4) : T0 (t0 a) n := by
  obtain ⟨v1, v2, v3, v4, v5, v6, v7, v8, v9⟩ := hV
  refine ⟨fun s s0 s1 => v2 s s0 s1, fun h h0 h1 => ?_⟩
  show 0 ≤ (if h < a 30 then a (31 + h) else h) ∧ (if h < a 30 then a (31 + h) else h) ≤ 4
  by_cases hh : h < a 30
  · rw [if_pos hh]; exact v5 h h0 hh
  · rw [if_neg hh]; omega
/-- what a take now would come to, with n hands -/
noncomputable def Tn (a : Int → Int) (n : Nat) : Mm := tRun a n (t0 a) (a 36).toNat
noncomputable def Tf (a : Int → Int) : Mm := Tn a (a 30).toNat
theorem beg_l {M M0 : Mm} {Q : Mm → Prop} {a : Int → Int} (hV : VR a) (hS0 : SR M0 1 a) (k : ∀ M' : Mm, (∀ o, o ≠ 132 → M' o = M o) → (∀ h, 0 ≤ h → h < 4 → M' 132 h = t0 a 3 h) → Q M') (hM : ∀ o, o < 124 → M o = M0 o) :
    ∀ (m : Nat) (i : Int) (M1 : Mm), 0 ≤ i → i ≤ 4 → 4 - i < m → (∀ o, o ≠ 132 → M1 o = M o) → (∀ h, 0 ≤ h → h < i → M1 132 h = t0 a 3 h) → p_X3_begin_L18 gC m 124 1 i M1 Q := by
  obtain ⟨g0, g1, g2, g3, g4, g5, g6, g7, g8, g9, g10, g11, g12, g13, g14, g15, g16, g17, g18, g19⟩ := gl_c
  have h30 := hV.2.2.2.1
  intro m
  induction m with
  | zero => intro i M1 _ _ hm; omega
  | succ m ih =>
    intro i M1 i0 i4 hm f h
    have hS : SR M1 1 a := hS0.keep (fun o o1 o2 => by rw [f o (by omega), hM o (by omega)])
    have e30 : M1 1 5 = a 30 := hS.2.2.2.2.1.1
    have nx : i < 4 → ∀ v, v = t0 a 3 i → p_X3_begin_L18 gC m 124 1 (i + 1) (mu M1 132 i v) Q := fun hi4 v hv => by
      refine ih (i + 1) _ (by omega) (by omega) (by omega) (fun o ho => by rw [mu_ne ho, f o ho]) (fun h' h0 h1 => ?_)
      rw [mu_eq]; show (if h' = i then v else M1 132 h') = _
      by_cases hh : h' = i
      · rw [if_pos hh, hh, hv]
      · rw [if_neg hh]; exact h h' h0 (by omega)
    unfold p_X3_begin_L18
    rw [e30]
    refine ⟨inR_s (by omega) (by omega), fun hge => k M1 f (fun h' h0 h1 => h h' h0 (by omega)), fun hlt => ⟨inR_s (by omega) (by omega), inR_s (by omega) (by omega), fun h1 => ?_, fun h1 => ?_⟩⟩
    · refine get_c i0 (by show i < ((gl gC 9 : Nat) : Int); rw [g19]; omega) (put_c i0 (by show i < ((gl gC 132 : Nat) : Int); rw [g3]; omega) ?_)
      refine nx hlt (M1 9 i) ?_
      have : M1 9 i = a (31 + i) := hS.2.2.2.1 i i0 h1
      rw [this]; exact (if_pos h1).symm
    · refine put_c i0 (by show i < ((gl gC 132 : Nat) : Int); rw [g3]; omega) (nx hlt i ?_)
      exact (if_neg (by omega)).symm
theorem begin_c {M : Mm} {Q : Mm → Prop} {a : Int → Int} {n : Nat} (hV : VR a) (hS : SR M 1 a) (hn : n ≤ 4) (k : ∀ M' : Mm, BegC M' (t0 a) n → (∀ o, o < 124 → M' o = M o) → Q M') : p_X3_begin gC 124 1 (n : Int) M Q := by
  obtain ⟨g0, g1, g2, g3, g4, g5, g6, g7, g8, g9, g10, g11, g12, g13, g14, g15, g16, g17, g18, g19⟩ := gl_c
  unfold p_X3_begin
  intro M1 e1
  refine copyN (n := 10) (by decide +kernel) (by decide +kernel) ⟨5, ?_⟩
  have f : ∀ o, o ≠ 124 → o ≠ 126 → mcp M1 (1 + 3 + 1) (124 + 1 + 1) 10 o = M o := fun o o1 o2 => by rw [mcp_ne o2, e1, mu_ne o1]
  refine beg_l hV hS (fun M' f' h' => k M' ⟨?_, fun s s0 s1 => ?_, fun h h0 h1 => h' h h0 (by omega)⟩ (fun o ho => by rw [f' o (by omega), f o (by omega) (by omega)])) (fun o ho => f o (by omega) (by omega)) 5 0 _ (by omega) (by omega) (by omega) (fun _ _ => rfl) (fun h h0 h1 => by omega)
  · rw [f' 124 (by omega), mcp_ne (by omega), e1, mu_eq]; rfl
  · rw [f' 126 (by omega)]
    show mcp M1 5 126 10 126 s = a (10 + s)
    rw [mcp_eq]; show (if 0 ≤ s ∧ s < 10 then M1 5 s else M1 126 s) = _
    rw [if_pos ⟨s0, s1⟩, e1, mu_ne (by omega)]
    exact hS.2.1 s s0 s1
theorem RC.keep {M M' : Mm} {a : Int → Int} {l : List (Int → Int)} {sn : Option (Int → Int)} {tl : Int} {t : Int → Int} (h : RC M a l sn tl t) (f : ∀ o, o < 124 → M' o = M o) : RC M' a l sn tl t := by
  obtain ⟨h1, h2, h3, h4, h5, h6⟩ := h
  refine ⟨h1.keep (fun o o1 o2 => f o (by omega)), h2, h3.keep (fun o o1 o2 => f o (by omega)) ⟨?_, ?_⟩, ?_, ?_, by rw [f 115 (by omega)]; exact h6⟩
  · rw [f 10 (by omega)]; exact h3.cap k5_1
  · rw [f 28 (by omega)]; exact h3.cap k5_19
  · cases sn with
    | none => show M' 0 6 = 0; rw [f 0 (by omega)]; exact h4
    | some r =>
      obtain ⟨q1, q2, q3⟩ := h4
      exact ⟨by rw [f 0 (by omega)]; exact q1, q2.keep (fun o o1 o2 => f o (by omega)), q3⟩
  · unfold TxC at h5 ⊢
    rw [f 111 (by omega), f 113 (by omega)]; exact h5
theorem rehearse_c {M : Mm} {Q : Mm → Prop} {a : Int → Int} {l : List (Int → Int)} {sn : Option (Int → Int)} {tl : Int} {t : Int → Int} {n : Nat} (h : RC M a l sn tl t) (hn : n ≤ 4) (k : ∀ M' : Mm, RC M' a l sn tl t → (∀ o, o < 124 → M' o = M o) → TauC M' (Tn a n) n (a 36) → Q M') : p_X7_rehearse gC 0 (n : Int) M Q := by
  have hS := h.1
  have hV := h.2.1
  unfold p_X7_rehearse
  refine begin_c hV hS hn (fun M1 hB f1 => playTake_c hV hn (T0_t0 hV hn) (hS.keep (fun o o1 o2 => f1 o (by omega))) hB (fun M2 hT f2 => ?_))
  have f : ∀ o, o < 124 → M2 o = M o := fun o ho => by rw [f2 o ho, f1 o ho]
  exact k M2 (h.keep f) f hT
theorem rehearseN {M : Mm} {Q : Mm → Prop} {a : Int → Int} {l : List (Int → Int)} {sn : Option (Int → Int)} {tl : Int} {t : Int → Int} (h : RC M a l sn tl t) (k : ∀ M' : Mm, RC M' a l sn tl t → TauC M' (Tf a) (a 30).toNat (a 36) → Q M') : p_X7_rehearse gC 0 (M (0 + 1) 5) M Q := by
  have h30 := h.2.1.2.2.2.1
  have e : M (0 + 1) 5 = (((a 30).toNat : Nat) : Int) := by
    have : M 1 5 = a 30 := h.1.2.2.2.2.1.1
    show M 1 5 = _
    rw [this]; omega
  rw [e]
  exact rehearse_c h (by omega) (fun M' h' _ hT => k M' h' hT)
/-- what the reference knows of a take that it tried -/
def TryM (N T : Mm) (n : Nat) (c : Int) : Prop :=
  (∀ h, 0 ≤ h → h < (n : Int) → N 10 h = T 4 h ∧ N 11 h = T 5 h ∧ N 12 h = T 6 h ∧ N 15 h = T 3 h) ∧ (N 0 16 = T 7 0 ∧ N 0 17 = T 7 1) ∧ ∀ j, 0 ≤ j → j < c → N 6 j = T 8 j ∧ N 7 j = T 9 j ∧ N 8 j = T 10 j ∧ N 9 j = T 11 j
theorem try_l {N : Mm} {Q : Mm → Prop} (k : ∀ N' : Mm, (∀ o, o ≠ 15 → N' o = N o) → (∀ h, 0 ≤ h → h < 4 → N' 15 h = N 1 (31 + h)) → p_X8_copy gM 3 1 N' (fun M7 => Q M7)) :
    ∀ (m : Nat) (i : Int) (N1 : Mm), 0 ≤ i → i ≤ 4 → 4 - i < m → (∀ o, o ≠ 15 → N1 o = N o) → (∀ h, 0 ≤ h → h < i → N1 15 h = N 1 (31 + h)) → p_X8_tries_L17 gM m 0 i N1 Q := by
  obtain ⟨g1, g6, g7, g8, g9, g10, g11, g12, g13, g14, g15⟩ := gl_m
  intro m
  induction m with
  | zero => intro i N1 _ _ hm; omega
  | succ m ih =>
    intro i N1 i0 i4 hm f h
    unfold p_X8_tries_L17
    simp only [Nat.zero_add, g1, g15]
    refine ⟨inR_s (by omega) (by omega), fun hge => k N1 f (fun h' h0 h1 => h h' h0 (by omega)), fun hlt => ⟨by omega, by omega, i0, by omega, fun N2 e => ?_⟩⟩
    refine ih (i + 1) N2 (by omega) (by omega) (by omega) (fun o ho => by rw [e, mu_ne ho, f o ho]) (fun h' h0 h1 => ?_)
    rw [e, mu_eq]; show (if h' = i then N1 1 (31 + i) else N1 15 h') = _
    by_cases hh : h' = i
    · rw [if_pos hh, hh, f 1 (by omega)]
    · rw [if_neg hh]; exact h h' h0 (by omega)
theorem tries_m {N : Mm} {Q : Mm → Prop} {a : Int → Int} {l : List (Int → Int)} {sn : Option (Int → Int)} {tl : Int} {t : Int → Int} (hV : VR a) (h : RM N a l sn tl t) (k : ∀ N' : Mm, RM N' a l sn tl t → TryM N' (Tf a) (a 30).toNat (a 36) → Q N') : p_X8_tries gM 0 N Q := by
  obtain ⟨g1, g6, g7, g8, g9, g10, g11, g12, g13, g14, g15⟩ := gl_m
  have h30 := hV.2.2.2.1
  unfold p_X8_tries
  refine cpy_m (a := 1) (b := 3) (by decide +kernel) (by decide +kernel) (by decide) ?_
  have c1 : ∀ o, o ≠ 3 → mcp N 1 3 201 o = N o := fun o ho => mcp_ne ho
  have c3 : ∀ j : Int, 0 ≤ j → j < 201 → mcp N 1 3 201 3 j = a j := fun j j0 j1 => by
    rw [mcp_eq]; show (if 0 ≤ j ∧ j < 201 then N 1 j else N 3 j) = _
    rw [if_pos ⟨j0, j1⟩]; exact h.1 j j0 j1
  generalize mcp N 1 3 201 = N1 at c1 c3
  refine plays_m (n := (a 30).toNat) (T := t0 a) hV (by omega) (T0_t0 hV (by omega)) ⟨fun j j0 j1 _ _ => by rw [c1 1 (by omega)]; exact h.1 j j0 j1, fun s s0 s1 => by rw [c1 1 (by omega)]; exact h.1 _ (by omega) (by omega), fun h' h0 h1 => ?_⟩ (fun N2 hT fr => ⟨5, ?_⟩)
  · rw [c1 1 (by omega), h.1 _ (by omega) (by omega)]; exact (if_pos (by omega)).symm
  obtain ⟨m1, m2, m3, m4, m5⟩ := hT
  refine try_l (fun N3 f3 h15 => cpy_m (a := 3) (b := 1) (by decide +kernel) (by decide +kernel) (by decide) ?_) 5 0 N2 (by omega) (by omega) (by omega) (fun _ _ => rfl) (fun h' h0 h1 => by omega)
  have e1 : ∀ j : Int, 0 ≤ j → j < 201 → mcp N3 3 1 201 1 j = a j := fun j j0 j1 => by
    rw [mcp_eq]; show (if 0 ≤ j ∧ j < 201 then N3 3 j else N3 1 j) = _
    rw [if_pos ⟨j0, j1⟩, f3 3 (by omega), fr.1 3 (by omega)]; exact c3 j j0 j1
  have F : ∀ o, o ≠ 1 → mcp N3 3 1 201 o = N3 o := fun o ho => mcp_ne ho
  generalize mcp N3 3 1 201 = N4 at e1 F
  have G : ∀ o, o ≠ 1 → o ≠ 15 → N4 o = N2 o := fun o o1 o2 => by rw [F o o1, f3 o o2]
  refine k N4 (h.all e1 (fun j hj => ?_) ?_ ?_ ?_) ⟨fun h' h0 h1 => ?_, ?_, fun j j0 j1 => ?_⟩
  · rw [G 0 (by omega) (by omega), fr.2 j hj, c1 0 (by omega)]
  · rw [G 4 (by omega) (by omega), fr.1 4 (by omega), c1 4 (by omega)]
  · rw [G 5 (by omega) (by omega), fr.1 5 (by omega), c1 5 (by omega)]
  · rw [G 16 (by omega) (by omega), fr.1 16 (by omega), c1 16 (by omega)]
  · obtain ⟨x1, x2, x3, x4⟩ := m3 h' h0 h1
    rw [G 10 (by omega) (by omega), G 11 (by omega) (by omega), G 12 (by omega) (by omega), F 15 (by omega), h15 h' h0 (by omega)]
    exact ⟨x2, x3, x4, x1⟩
  · rw [G 0 (by omega) (by omega)]; exact m4
  · rw [G 6 (by omega) (by omega), G 7 (by omega) (by omega), G 8 (by omega) (by omega), G 9 (by omega) (by omega)]; exact m5 j j0 j1
theorem VT_Tf {a : Int → Int} (hV : VR a) : VT (Tf a) (a 30).toNat (a 36) := by
  have h30 := hV.2.2.2.1
  have h36 := hV.2.2.2.2.2.2.1
  have := VT_run (n := (a 30).toNat) (T := t0 a) hV (T0_t0 hV (by omega)) (a 36).toNat (by omega)
  rw [show (((a 36).toNat : Nat) : Int) = a 36 by omega] at this
  exact this
/-! take() -/
noncomputable def tkn (a : Int → Int) : Int → Int := fun k =>
  if 10 ≤ k ∧ k < 20 then Tf a 0 (k - 10) else if 31 ≤ k ∧ k < 31 + a 30 then Tf a 3 (k - 31) else if k = 37 then a 37 + 1 else if k = 38 then a 38 + (a 36 - Tf a 7 0) else if k = 39 then a 39 + Tf a 7 0 else if k = 40 then a 40 + Tf a 7 1 else a k
theorem tkn_o {a : Int → Int} {k : Int} (h1 : k < 10 ∨ 20 ≤ k) (h2 : k < 31 ∨ 31 + a 30 ≤ k) (h3 : k < 37 ∨ 41 ≤ k) : tkn a k = a k := by
  unfold tkn; rw [if_neg (by omega), if_neg (by omega), if_neg (by omega), if_neg (by omega), if_neg (by omega), if_neg (by omega)]
theorem tkn_c {a : Int → Int} {s : Int} (h0 : 0 ≤ s) (h1 : s < 10) : tkn a (10 + s) = Tf a 0 s := by
  unfold tkn; rw [if_pos (by omega), show 10 + s - 10 = s by omega]
theorem tkn_h {a : Int → Int} {h : Int} (h0 : 0 ≤ h) (h1 : h < a 30) : tkn a (31 + h) = Tf a 3 h := by
  unfold tkn; rw [if_neg (by omega), if_pos (by omega), show 31 + h - 31 = h by omega]
theorem tkn_n {a : Int → Int} (h30 : a 30 ≤ 4) : tkn a 37 = a 37 + 1 ∧ tkn a 38 = a 38 + (a 36 - Tf a 7 0) ∧ tkn a 39 = a 39 + Tf a 7 0 ∧ tkn a 40 = a 40 + Tf a 7 1 := by
  unfold tkn
  refine ⟨?_, ?_, ?_, ?_⟩
  · rw [if_neg (by omega), if_neg (by omega), if_pos rfl]
  · rw [if_neg (by omega), if_neg (by omega), if_neg (by omega), if_pos rfl]
  · rw [if_neg (by omega), if_neg (by omega), if_neg (by omega), if_neg (by omega), if_pos rfl]
  · rw [if_neg (by omega), if_neg (by omega), if_neg (by omega), if_neg (by omega), if_neg (by omega), if_pos rfl]
theorem VR_tkn {a : Int → Int} (hV : VR a) : VR (tkn a) := by
  have hW := VT_Tf hV
  obtain ⟨v1, v2, v3, v4, v5, v6, v7, v8, v9⟩ := hV
  have q : ∀ k, (k < 10 ∨ 20 ≤ k) → (k < 31 ∨ 41 ≤ k ∨ k = 35 ∨ k = 36) → tkn a k = a k := fun k h1 h2 => tkn_o h1 (by omega) (by omega)
  have e30 := q 30 (by omega) (by omega)
  have e36 := q 36 (by omega) (by omega)
  refine ⟨fun i i0 i1 => by rw [q i (by omega) (by omega)]; exact v1 i i0 i1, fun i i0 i1 => ?_, fun i i0 i1 => by rw [q _ (by omega) (by omega)]; exact v3 i i0 i1, by rw [e30]; exact v4, fun i i0 i1 => ?_, by rw [q _ (by omega) (by omega)]; exact v6, by rw [e36]; exact v7, fun c c0 c1 => ?_, fun c c0 c1 => ?_⟩
  · rw [tkn_c i0 i1]
    have := hW.1 i i0 i1
    omega
  · rw [e30] at i1
    rw [tkn_h i0 i1]
    have := hW.2.1 i i0 (by omega)
    omega
  · rw [e36] at c1
    have h := v8 c c0 c1
    unfold VQ tk sc sd la at h ⊢
    rw [q _ (by omega) (by omega), q _ (by omega) (by omega), q _ (by omega) (by omega), q _ (by omega) (by omega)]; exact h
  · rw [e36] at c1
    have h := v9 c c0 c1
    unfold tk sc sd at h ⊢
    rw [q _ (by omega) (by omega), q _ (by omega) (by omega), q _ (by omega) (by omega), q _ (by omega) (by omega), q _ (by omega) (by omega), q _ (by omega) (by omega)]; exact h
def SP_take (a : Int → Int) (l : List (Int → Int)) (K : Int → (Int → Int) → List (Int → Int) → Prop) : Prop := (a 36 = 0 → K (-4) a l) ∧ (a 36 ≠ 0 → K (Tf a 7 0) (tkn a) (push l a))
theorem c_take {M : Mm} {Q : Int → Mm → Prop} {a : Int → Int} {l : List (Int → Int)} {sn : Option (Int → Int)} {tl : Int} {t : Int → Int} (h : RC M a l sn tl t) (k : SP_take a l (fun r a' l' => ∀ M' : Mm, RC M' a' l' sn tl t → Q r M')) : p_X7_take gC 0 M Q := by
  obtain ⟨kN, kA⟩ := k
  have hV := h.2.1
  have h30 := hV.2.2.2.1
  have h36 := hV.2.2.2.2.2.2.1
  have e36 : M (0 + 1 + 9) 5 = a 36 := h.1.2.2.2.2.2.1
  unfold p_X7_take
  rw [e36]
  refine ⟨inR_s (by omega) (by omega), fun hne => RC.rec h (fun M1 h1 f1 => rehearseN h1 (fun M2 h2 hT => ?_)), fun he => kN he M h⟩
  refine copyN (n := 10) (by decide +kernel) (by decide +kernel) (copyN (n := 4) (by decide +kernel) (by decide +kernel) (fun M3 e3 M4 e4 M5 e5 M6 e6 => ?_))
  obtain ⟨b12, bs, bh, b7, bj, b6⟩ := hT
  have hS := h2.1
  have ne124 : (0 : Nat) + 124 ≠ 0 + 1 := by decide
  have g13 : M3 (0 + 124) 13 = Tf a 7 0 := by rw [e3, mu_ne ne124, mcp_ne (by decide), mcp_ne (by decide)]; exact b7.1
  have g14 : M3 (0 + 124) 14 = Tf a 7 1 := by rw [e3, mu_ne ne124, mcp_ne (by decide), mcp_ne (by decide)]; exact b7.2
  have g10 : M3 (0 + 1 + 9) 5 = a 36 := by rw [e3, mu_ne (by decide), mcp_ne (by decide), mcp_ne (by decide)]; exact hS.2.2.2.2.2.1
  rw [g10, g13] at e4
  have k13 : M4 (0 + 124) 13 = Tf a 7 0 := by rw [e4, mu_ne ne124, g13]
  have k14 : M5 (0 + 124) 14 = Tf a 7 1 := by rw [e5, mu_ne ne124, e4, mu_ne ne124, g14]
  rw [k13] at e5
  rw [k14] at e6
  have r13 : M6 (0 + 124) 13 = Tf a 7 0 := by rw [e6, mu_ne ne124, e5, mu_ne ne124, k13]
  rw [r13]
  have F : ∀ o, o ≠ 1 → o ≠ 5 → o ≠ 9 → M6 o = M2 o := fun o o1 o2 o3 => by
    rw [e6, mu_ne (show o ≠ 0 + 1 from o1), e5, mu_ne (show o ≠ 0 + 1 from o1), e4, mu_ne (show o ≠ 0 + 1 from o1), e3, mu_ne (show o ≠ 0 + 1 from o1), mcp_ne (show o ≠ 0 + 1 + 7 + 1 from o3), mcp_ne (show o ≠ 0 + 1 + 3 + 1 from o2)]
  have M21 : mcp (mcp M2 (0 + 124 + 1 + 1) (0 + 1 + 3 + 1) ((10 : Nat) : Int)) (0 + 124 + 7 + 1) (0 + 1 + 7 + 1) ((4 : Nat) : Int) (0 + 1) = M2 1 := by rw [mcp_ne (by decide), mcp_ne (by decide)]
  have F1 : M6 1 = fun j => if j = 10 then M2 1 10 + Tf a 7 1 else if j = 9 then M2 1 9 + Tf a 7 0 else if j = 8 then M2 1 8 + (a 36 - Tf a 7 0) else if j = 7 then M2 1 7 + 1 else M2 1 j := by
    have a3 : M3 1 = fun j => if j = 7 then M2 1 7 + 1 else M2 1 j := by rw [e3]; show mu _ (0 + 1) 7 _ (0 + 1) = _; rw [mu_eq, M21]
    have a4 : M4 1 = fun j => if j = 8 then M2 1 8 + (a 36 - Tf a 7 0) else M3 1 j := by
      rw [e4]; show mu _ (0 + 1) 8 _ (0 + 1) = _; rw [mu_eq]
      have : M3 (0 + 1) 8 = M2 1 8 := by show M3 1 8 = _; rw [a3]; rfl
      rw [this]
    have a5 : M5 1 = fun j => if j = 9 then M2 1 9 + Tf a 7 0 else M4 1 j := by
      rw [e5]; show mu _ (0 + 1) 9 _ (0 + 1) = _; rw [mu_eq]
      have : M4 (0 + 1) 9 = M2 1 9 := by show M4 1 9 = _; rw [a4, a3]; rfl
      rw [this]
    have a6 : M6 1 = fun j => if j = 10 then M2 1 10 + Tf a 7 1 else M5 1 j := by
      rw [e6]; show mu _ (0 + 1) 10 _ (0 + 1) = _; rw [mu_eq]
      have : M5 (0 + 1) 10 = M2 1 10 := by show M5 1 10 = _; rw [a5, a4, a3]; rfl
      rw [this]
    rw [a6, a5, a4, a3]
  have F5 : ∀ s, 0 ≤ s → s < 10 → M6 5 s = Tf a 0 s := fun s s0 s1 => by
    have : M6 5 = mcp M2 126 5 10 5 := by
      rw [e6, mu_ne (by decide), e5, mu_ne (by decide), e4, mu_ne (by decide), e3, mu_ne (by decide), mcp_ne (by decide)]; rfl
    rw [this, mcp_eq]; show (if 0 ≤ s ∧ s < 10 then M2 126 s else M2 5 s) = _
    rw [if_pos ⟨s0, s1⟩]; exact (bs s s0 s1).1
  have F9 : ∀ h, 0 ≤ h → h < a 30 → M6 9 h = Tf a 3 h := fun h h0 h1 => by
    have : M6 9 = mcp (mcp M2 126 5 10) 132 9 4 9 := by
      rw [e6, mu_ne (by decide), e5, mu_ne (by decide), e4, mu_ne (by decide), e3, mu_ne (by decide)]; rfl
    rw [this, mcp_eq]; show (if 0 ≤ h ∧ h < 4 then mcp M2 126 5 10 132 h else mcp M2 126 5 10 9 h) = _
    rw [if_pos ⟨h0, by omega⟩, mcp_ne (by decide)]; exact (bh h h0 (by omega)).1
  clear e3 e4 e5 e6
  obtain ⟨n37, n38, n39, n40⟩ := tkn_n (a := a) h30.2
  refine kA hne M6 (h2.act (SR_up hS (fun c c0 c1 => ⟨tkn_o (by omega) (by omega) (by omega), tkn_o (by omega) (by omega) (by omega), tkn_o (by omega) (by omega) (by omega), tkn_o (by omega) (by omega) (by omega)⟩) (tkn_o (by omega) (by omega) (by omega)) (fun i i0 i1 => ?_) (fun i i0 i1 => ?_) (fun i i0 i1 => ?_) (fun i i0 i1 => ?_) ?_ (fun o o1 o2 => F o (by omega) (by omega) (by omega))) (VR_tkn hV) ?_ (F 0 (by omega) (by omega) (by omega)) (fun o o1 o2 _ => F o (by omega) (by omega) (by omega)) (by rw [F 115 (by omega) (by omega) (by omega)]))
  · rw [F 3 (by omega) (by omega) (by omega), tkn_o (by omega) (by omega) (by omega)]; exact hS.1 i i0 i1
  · rw [F5 i i0 i1, tkn_c i0 i1]
  · rw [F 7 (by omega) (by omega) (by omega), tkn_o (by omega) (by omega) (by omega)]; exact hS.2.2.1 i i0 i1
  · rw [tkn_o (by omega) (by omega) (by omega)] at i1
    rw [F9 i i0 i1, tkn_h i0 i1]
  · have q := hS.2.2.2.2.1
    rw [F1, n37, n38, n39, n40, tkn_o (by omega) (by omega) (by omega), tkn_o (by omega) (by omega) (by omega)]
    refine ⟨q.1, q.2.1, ?_, ?_, ?_, ?_⟩
    · show M2 1 7 + 1 = _; rw [q.2.2.1]
    · show M2 1 8 + _ = _; rw [q.2.2.2.1]
    · show M2 1 9 + _ = _; rw [q.2.2.2.2.1]
    · show M2 1 10 + _ = _; rw [q.2.2.2.2.2]
  · rw [F 10 (by omega) (by omega) (by omega)]; exact h2.2.2.1.cap k5_1
theorem m_take {N : Mm} {Q : Int → Mm → Prop} {a : Int → Int} {l : List (Int → Int)} {sn : Option (Int → Int)} {tl : Int} {t : Int → Int} (hV : VR a) (h : RM N a l sn tl t) (k : SP_take a l (fun r a' l' => ∀ N' : Mm, RM N' a' l' sn tl t → Q r N')) : p_X8_take gM 0 N Q := by
  obtain ⟨kN, kA⟩ := k
  obtain ⟨g1, g6, g7, g8, g9, g10, g11, g12, g13, g14, g15⟩ := gl_m
  have h30 := hV.2.2.2.1
  have h36 := hV.2.2.2.2.2.2.1
  have e36 : N 1 36 = a 36 := h.1 36 (by omega) (by omega)
  unfold p_X8_take
  simp only [Nat.zero_add, g1]
  rw [e36]
  refine ⟨by omega, inR_s (by omega) (by omega), fun hne => rem_m ?_, fun he => kN he N h⟩
  obtain ⟨hR, h2⟩ := h.rem
  generalize mcp N 1 2 201 = N1 at hR h2
  refine plays_m (n := (a 30).toNat) (T := t0 a) hV (by omega) (T0_t0 hV (by omega)) ⟨fun j j0 j1 _ _ => hR.1 j j0 j1, fun s s0 s1 => hR.1 _ (by omega) (by omega), fun h' h0 h1 => ?_⟩ (fun N2 hT fr => ?_)
  · rw [hR.1 _ (by omega) (by omega)]; exact (if_pos (by omega)).symm
  obtain ⟨m1, m2, m3, m4, m5⟩ := hT
  have m1' : ∀ k : Int, 0 ≤ k → k < 201 → (k < 10 ∨ 20 ≤ k) → (k < 31 ∨ 35 ≤ k) → N2 1 k = a k := fun j j0 j1 j2 j3 => m1 j j0 j1 j2 (by omega)
  refine ⟨by omega, by omega, fun N3 e3 => ⟨by omega, by omega, by omega, fun N4 e4 => ⟨by omega, by omega, fun N5 e5 => ⟨by omega, by omega, fun N6 e6 => ?_⟩⟩⟩⟩
  have a3 : N3 1 = fun j => if j = 37 then a 37 + 1 else N2 1 j := by rw [e3, mu_eq, m1' 37 (by omega) (by omega) (by omega) (by omega)]
  have z3 : N3 0 = N2 0 := by rw [e3, mu_ne (by omega)]
  have e16 : N2 0 16 = Tf a 7 0 := m4.1
  have e17 : N2 0 17 = Tf a 7 1 := m4.2
  have x36 : N3 1 36 = a 36 := by rw [a3]; exact m1' 36 (by omega) (by omega) (by omega) (by omega)
  have x38 : N3 1 38 = a 38 := by rw [a3]; exact m1' 38 (by omega) (by omega) (by omega) (by omega)
  rw [x36, x38, z3, e16] at e4
  have a4 : N4 1 = fun j => if j = 38 then a 38 + (a 36 - Tf a 7 0) else N3 1 j := by rw [e4, mu_eq]
  have z4 : N4 0 = N2 0 := by rw [e4, mu_ne (by omega), z3]
  have x39 : N4 1 39 = a 39 := by rw [a4, a3]; exact m1' 39 (by omega) (by omega) (by omega) (by omega)
  rw [x39, z4, e16] at e5
  have a5 : N5 1 = fun j => if j = 39 then a 39 + Tf a 7 0 else N4 1 j := by rw [e5, mu_eq]
  have z5 : N5 0 = N2 0 := by rw [e5, mu_ne (by omega), z4]
  have x40 : N5 1 40 = a 40 := by rw [a5, a4, a3]; exact m1' 40 (by omega) (by omega) (by omega) (by omega)
  rw [x40, z5, e17] at e6
  have a6 : N6 1 = fun j => if j = 40 then a 40 + Tf a 7 1 else N5 1 j := by rw [e6, mu_eq]
  have z6 : N6 0 = N2 0 := by rw [e6, mu_ne (by omega), z5]
  have F : ∀ o, o ≠ 1 → N6 o = N2 o := fun o ho => by rw [e6, mu_ne ho, e5, mu_ne ho, e4, mu_ne ho, e3, mu_ne ho]
  rw [z6, e16]
  obtain ⟨n37, n38, n39, n40⟩ := tkn_n (a := a) h30.2
  have hN6 : ∀ k : Int, 0 ≤ k → k < 201 → N6 1 k = tkn a k := by
    intro j j0 j1
    rw [a6, a5, a4, a3]
    show (if j = 40 then a 40 + Tf a 7 1 else if j = 39 then a 39 + Tf a 7 0 else if j = 38 then a 38 + (a 36 - Tf a 7 0) else if j = 37 then a 37 + 1 else N2 1 j) = _
    by_cases c40 : j = 40
    · rw [if_pos c40, c40, n40]
    · by_cases c39 : j = 39
      · rw [if_neg c40, if_pos c39, c39, n39]
      · by_cases c38 : j = 38
        · rw [if_neg c40, if_neg c39, if_pos c38, c38, n38]
        · by_cases c37 : j = 37
          · rw [if_neg c40, if_neg c39, if_neg c38, if_pos c37, c37, n37]
          · rw [if_neg c40, if_neg c39, if_neg c38, if_neg c37]
            by_cases cc : 10 ≤ j ∧ j < 20
            · have := (m2 (j - 10) (by omega) (by omega)).1
              rw [show 10 + (j - 10) = j by omega] at this
              have t2 := tkn_c (a := a) (s := j - 10) (by omega) (by omega)
              rw [show 10 + (j - 10) = j by omega] at t2
              rw [this, t2]; rfl
            · by_cases ch : 31 ≤ j ∧ j < 31 + a 30
              · have := (m3 (j - 31) (by omega) (by omega)).1
                rw [show 31 + (j - 31) = j by omega] at this
                have t2 := tkn_h (a := a) (h := j - 31) (by omega) (by omega)
                rw [show 31 + (j - 31) = j by omega] at t2
                rw [this, t2]; rfl
              · rw [m1 j j0 j1 (by omega) (by omega), tkn_o (by omega) (by omega) (by omega)]
  have hR6 : RM N6 (tkn a) l sn tl t := hR.all hN6 (fun j hj => by rw [z6, fr.2 j hj]) (by rw [F 4 (by omega), fr.1 4 (by omega)]) (by rw [F 5 (by omega), fr.1 5 (by omega)]) (by rw [F 16 (by omega), fr.1 16 (by omega)])
  exact hR6.act (b := a) (fun j j0 j1 => by rw [F 2 (by omega), fr.1 2 (by omega)]; exact h2 j j0 j1) (fun N' h' => kA hne N' h')
