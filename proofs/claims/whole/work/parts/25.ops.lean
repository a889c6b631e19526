/-! PURE: what the two sides hold (RC: the class, RM: the reference), and the simple acts -/
abbrev Rw1 : Type := Int → Int
def up (a : Int → Int) (i v : Int) : Int → Int := fun k => if k = i then v else a k
theorem up_ne {a : Int → Int} {i v k : Int} (h : k ≠ i) : up a i v k = a k := if_neg h
theorem up_eq {a : Int → Int} {i v : Int} : up a i v i = v := if_pos rfl
def SnC (M : Mm) : Option (Int → Int) → Prop
  | none => M 0 6 = 0
  | some r => M 0 6 = 1 ∧ SR M 19 r ∧ VR r
def SnM (N : Mm) : Option (Int → Int) → Prop
  | none => N 0 6 = 0
  | some r => N 0 6 = 1 ∧ ∀ k : Int, 0 ≤ k → k < 201 → N 5 k = r k
def TxC (M : Mm) (tl : Int) (t : Int → Int) : Prop := M 111 1 = tl ∧ 0 ≤ tl ∧ tl ≤ 60 ∧ ∀ i, 0 ≤ i → i < tl → M 113 i = t i ∧ 0 ≤ t i ∧ t i ≤ 65535
def TxM (N : Mm) (tl : Int) (t : Int → Int) : Prop := N 0 20 = tl ∧ ∀ i, 0 ≤ i → i < tl → N 16 i = t i
def RC (M : Mm) (a : Int → Int) (l : List (Int → Int)) (sn : Option (Int → Int)) (tl : Int) (t : Int → Int) : Prop := SR M 1 a ∧ VR a ∧ HA M l ∧ SnC M sn ∧ TxC M tl t ∧ M 115 0 = 100
def RM (N : Mm) (a : Int → Int) (l : List (Int → Int)) (sn : Option (Int → Int)) (tl : Int) (t : Int → Int) : Prop := (∀ k : Int, 0 ≤ k → k < 201 → N 1 k = a k) ∧ AB N l ∧ SnM N sn ∧ TxM N tl t
theorem inR0 : inR 0 := inR_0
theorem inR1 : inR 1 := ⟨by decide, by decide⟩
theorem k5_1 : gk gC 1 = 5 := by decide +kernel
theorem k5_19 : gk gC 19 = 5 := by decide +kernel
theorem HA.cap {M : Mm} {l : List (Int → Int)} (h : HA M l) {b : Nat} (hb : gk gC b = 5) : M (b + 9) 0 = 40 := h.2.2.2.2.1 b hb
/-- an act of the class has changed the state that is, nothing else -/
theorem RC.act {M M' : Mm} {a a' : Int → Int} {l : List (Int → Int)} {sn : Option (Int → Int)} {tl : Int} {t : Int → Int} (h : RC M a l sn tl t) (hS : SR M' 1 a') (hV : VR a') (hc : M' 10 0 = 40) (e0 : M' 0 = M 0) (e : ∀ o, 19 ≤ o → o < 124 → (o < 115 ∨ 124 ≤ o) → M' o = M o) (e115 : M' 115 0 = M 115 0) : RC M' a' l sn tl t := by
  obtain ⟨h1, h2, h3, h4, h5, h6⟩ := h
  refine ⟨hS, hV, h3.keep (fun o o1 o2 => e o (by omega) (by omega) (by omega)) ⟨hc, ?_⟩, ?_, ?_, e115.trans h6⟩
  · rw [e 28 (by omega) (by omega) (by omega)]; exact h3.cap k5_19
  · cases sn with
    | none => show M' 0 6 = 0; rw [e0]; exact h4
    | some r =>
      obtain ⟨q1, q2, q3⟩ := h4
      exact ⟨by rw [e0]; exact q1, q2.keep (fun o o1 o2 => e o (by omega) (by omega) (by omega)), q3⟩
  · unfold TxC at h5 ⊢
    rw [e 111 (by omega) (by omega) (by omega), e 113 (by omega) (by omega) (by omega)]; exact h5
/-- recording: only the history -/
theorem RC.rec {M : Mm} {Q : Mm → Prop} {a : Int → Int} {l : List (Int → Int)} {sn : Option (Int → Int)} {tl : Int} {t : Int → Int} (h : RC M a l sn tl t) (k : ∀ M' : Mm, RC M' a (push l a) sn tl t → (∀ o, (o < 37 ∨ 111 ≤ o) → M' o = M o) → Q M') : p_X2_record gC 37 1 M Q := by
  obtain ⟨h1, h2, h3, h4, h5, h6⟩ := h
  refine rec_c h3 h1 h2 (fun M' hA f => k M' ⟨h1.keep (fun o o1 o2 => f o (by omega)), h2, hA, ?_, ?_, by rw [f 115 (by omega)]; exact h6⟩ f)
  · cases sn with
    | none => show M' 0 6 = 0; rw [f 0 (by omega)]; exact h4
    | some r =>
      obtain ⟨q1, q2, q3⟩ := h4
      exact ⟨by rw [f 0 (by omega)]; exact q1, q2.keep (fun o o1 o2 => f o (by omega)), q3⟩
  · unfold TxC at h5 ⊢
    rw [f 111 (by omega), f 113 (by omega)]; exact h5
/-! the reference's way to act -/
theorem RM.rem {N : Mm} {a : Int → Int} {l : List (Int → Int)} {sn : Option (Int → Int)} {tl : Int} {t : Int → Int} (h : RM N a l sn tl t) : RM (mcp N 1 2 201) a l sn tl t ∧ ∀ k : Int, 0 ≤ k → k < 201 → mcp N 1 2 201 2 k = a k := by
  have f : ∀ o, o ≠ 2 → mcp N 1 2 201 o = N o := fun o ho => mcp_ne ho
  obtain ⟨h1, h2, h3, h4⟩ := h
  refine ⟨⟨by rw [f 1 (by omega)]; exact h1, h2.keep (by rw [f 0 (by omega)]) (f 4 (by omega)), ?_, ?_⟩, fun k k0 k1 => ?_⟩
  · unfold SnM at h3 ⊢
    rw [f 0 (by omega), f 5 (by omega)]; exact h3
  · unfold TxM at h4 ⊢
    rw [f 0 (by omega), f 16 (by omega)]; exact h4
  · rw [mcp_eq]; show (if 0 ≤ k ∧ k < 201 then N 1 k else N 2 k) = a k
    rw [if_pos ⟨k0, k1⟩]; exact h1 k k0 k1
/-- the rest of the reference, when its first array has changed -/
theorem RM.all {N N' : Mm} {a a' : Int → Int} {l : List (Int → Int)} {sn : Option (Int → Int)} {tl : Int} {t : Int → Int} (h : RM N a l sn tl t) (e1 : ∀ k : Int, 0 ≤ k → k < 201 → N' 1 k = a' k) (e0 : ∀ j, j = 4 ∨ j = 6 ∨ j = 20 → N' 0 j = N 0 j) (e4 : N' 4 = N 4) (e5 : N' 5 = N 5) (e16 : N' 16 = N 16) : RM N' a' l sn tl t := by
  obtain ⟨h1, h2, h3, h4⟩ := h
  refine ⟨e1, h2.keep (e0 4 (Or.inl rfl)) e4, ?_, ?_⟩
  · unfold SnM at h3 ⊢
    rw [e0 6 (Or.inr (Or.inl rfl)), e5]; exact h3
  · unfold TxM at h4 ⊢
    rw [e0 20 (Or.inr (Or.inr rfl)), e16]; exact h4
theorem RM.act {N : Mm} {Q : Int → Mm → Prop} {x : Int} {a b : Int → Int} {l : List (Int → Int)} {sn : Option (Int → Int)} {tl : Int} {t : Int → Int} (h : RM N a l sn tl t) (hb : ∀ k : Int, 0 ≤ k → k < 201 → N 2 k = b k) (k : ∀ N' : Mm, RM N' a (push l b) sn tl t → Q x N') : p_X8_acted gM 0 x N Q := by
  obtain ⟨h1, h2, h3, h4⟩ := h
  refine act_m h2 hb (fun N' hB f f0 => k N' ⟨by rw [f 1 (by omega) (by omega)]; exact h1, hB, ?_, ?_⟩)
  · unfold SnM at h3 ⊢
    rw [f0 6 (by omega), f 5 (by omega) (by omega)]; exact h3
  · unfold TxM at h4 ⊢
    rw [f0 20 (by omega), f 16 (by omega) (by omega)]; exact h4
theorem set_m {N : Mm} {Q : Int → Mm → Prop} {i v : Int} {a : Int → Int} {l : List (Int → Int)} {sn : Option (Int → Int)} {tl : Int} {t : Int → Int} (h : RM N a l sn tl t) (i0 : 0 ≤ i) (i1 : i < 201) (ha : inR (a i)) (hv : inR v) (ke : a i = v → Q (-5) N) (k : ∀ N' : Mm, a i ≠ v → RM N' (up a i v) (push l a) sn tl t → Q (a i) N') : p_X8_sets gM 0 i v N Q := by
  have l1 : gl gM (0 + 1) = 201 := by decide +kernel
  have hi : N 1 i = a i := h.1 i i0 i1
  unfold p_X8_sets
  rw [l1]
  show 0 ≤ i ∧ i < ((201 : Nat) : Int) ∧ inR (N 1 i) ∧ inR v ∧ _ ∧ _
  rw [hi]
  refine ⟨i0, by omega, ha, hv, fun hne => rem_m ⟨i0, by omega, fun N2 e => ?_⟩, ke⟩
  obtain ⟨hR, h2⟩ := h.rem
  have f : ∀ o, o ≠ 1 → N2 o = mcp N 1 2 201 o := fun o ho => by rw [e]; exact mu_ne ho
  have hR2 : RM N2 (up a i v) l sn tl t := by
    refine hR.all (fun k k0 k1 => ?_) (fun j _ => by rw [f 0 (by omega)]) (f 4 (by omega)) (f 5 (by omega)) (f 16 (by omega))
    rw [e]; show mu (mcp N 1 2 201) 1 i v 1 k = _
    rw [mu_eq]; show (if k = i then v else mcp N 1 2 201 1 k) = if k = i then v else a k
    by_cases hk : k = i
    · rw [if_pos hk, if_pos hk]
    · rw [if_neg hk, if_neg hk]; exact hR.1 k k0 k1
  exact hR2.act (b := a) (fun k k0 k1 => by rw [f 2 (by omega)]; exact h2 k k0 k1) (fun N' h' => k N' hne h')
/-! ranges of a row with one number changed -/
theorem cue_up {a : Int → Int} {i v c : Int} (hi : i < 41) (h0 : 0 ≤ c) : tk (up a i v) c = tk a c ∧ sc (up a i v) c = sc a c ∧ sd (up a i v) c = sd a c ∧ la (up a i v) c = la a c :=
  ⟨up_ne (by omega), up_ne (by omega), up_ne (by omega), up_ne (by omega)⟩
theorem VR_up {a : Int → Int} {i v : Int} (h : VR a) (hi : i < 41) (n30 : i ≠ 30) (n36 : i ≠ 36) (r1 : 0 ≤ i → i < 10 → 0 ≤ v ∧ v ≤ 4) (r2 : 10 ≤ i → i < 20 → 0 ≤ v ∧ v ≤ 30) (r3 : 20 ≤ i → i < 30 → 1 ≤ v ∧ v ≤ 9) (r4 : 31 ≤ i → i < 35 → 0 ≤ v ∧ v ≤ 4) (r5 : i = 35 → 0 ≤ v ∧ v ≤ 20) : VR (up a i v) := by
  obtain ⟨v1, v2, v3, v4, v5, v6, v7, v8, v9⟩ := h
  have e30 : up a i v 30 = a 30 := up_ne (by omega)
  have e36 : up a i v 36 = a 36 := up_ne (by omega)
  refine ⟨fun j j0 j1 => ?_, fun j j0 j1 => ?_, fun j j0 j1 => ?_, by rw [e30]; exact v4, fun j j0 j1 => ?_, ?_, by rw [e36]; exact v7, fun c c0 c1 => ?_, fun c c0 c1 => ?_⟩
  · by_cases hj : j = i
    · rw [hj, up_eq]; exact r1 (by omega) (by omega)
    · rw [up_ne hj]; exact v1 j j0 j1
  · by_cases hj : 10 + j = i
    · rw [hj, up_eq]; exact r2 (by omega) (by omega)
    · rw [up_ne hj]; exact v2 j j0 j1
  · by_cases hj : 20 + j = i
    · rw [hj, up_eq]; exact r3 (by omega) (by omega)
    · rw [up_ne hj]; exact v3 j j0 j1
  · rw [e30] at j1
    by_cases hj : 31 + j = i
    · rw [hj, up_eq]; exact r4 (by omega) (by omega)
    · rw [up_ne hj]; exact v5 j j0 j1
  · by_cases hj : 35 = i
    · rw [hj, up_eq]; exact r5 hj.symm
    · rw [up_ne hj]; exact v6
  · rw [e36] at c1
    obtain ⟨z1, z2, z3, z4⟩ := cue_up (a := a) (v := v) hi c0
    unfold VQ; rw [z1, z2, z3, z4]; exact v8 c c0 c1
  · rw [e36] at c1
    obtain ⟨z1, z2, z3, z4⟩ := cue_up (a := a) (v := v) hi c0
    obtain ⟨y1, y2, y3, y4⟩ := cue_up (a := a) (v := v) (c := c + 1) hi (by omega)
    rw [z1, z2, z3, y1, y2, y3]; exact v9 c c0 c1
/-- the class's state with one row's cell changed, as the row with one number changed -/
theorem SR_up {M M' : Mm} {a a' : Int → Int} (h : SR M 1 a) (hc : ∀ c, 0 ≤ c → c < a 36 → tk a' c = tk a c ∧ sc a' c = sc a c ∧ sd a' c = sd a c ∧ la a' c = la a c) (e36 : a' 36 = a 36)
    (q1 : ∀ i, 0 ≤ i → i < 10 → M' 3 i = a' i) (q2 : ∀ i, 0 ≤ i → i < 10 → M' 5 i = a' (10 + i)) (q3 : ∀ i, 0 ≤ i → i < 10 → M' 7 i = a' (20 + i)) (q4 : ∀ i, 0 ≤ i → i < a' 30 → M' 9 i = a' (31 + i)) (q5 : M' 1 5 = a' 30 ∧ M' 1 6 = a' 35 ∧ M' 1 7 = a' 37 ∧ M' 1 8 = a' 38 ∧ M' 1 9 = a' 39 ∧ M' 1 10 = a' 40) (f : ∀ o, 10 ≤ o → o < 19 → M' o = M o) : SR M' 1 a' := by
  obtain ⟨h1, h2, h3, h4, h5, h6, h7⟩ := h
  refine ⟨q1, q2, q3, q4, q5, ?_, fun c c0 c1 => ?_⟩
  · rw [f _ (by omega) (by omega), e36]; exact h6
  · rw [e36] at c1
    obtain ⟨z1, z2, z3, z4⟩ := hc c c0 c1
    have h8 := h7 c c0 c1
    unfold CQ at h8 ⊢
    rw [f _ (by omega) (by omega), f _ (by omega) (by omega), f _ (by omega) (by omega), f _ (by omega) (by omega), z1, z2, z3, z4]
    exact h8
