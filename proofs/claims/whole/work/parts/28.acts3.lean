/-! PURE: undo, keep, restore -/
def SP_undo (l : List (Int → Int)) (K : Int → Option (Int → Int) → List (Int → Int) → Prop) : Prop := (l = [] → K (-5) none l) ∧ ∀ (l' : List (Int → Int)) (b : Int → Int), l = l' ++ [b] → K (l'.length : Int) (some b) l'
theorem l_last {l : List (Int → Int)} (h : (l.length : Int) ≠ 0) : ∃ (l' : List (Int → Int)) (b : Int → Int), l = l' ++ [b] := by
  have hne : l ≠ [] := fun z => h (by rw [z]; rfl)
  exact ⟨l.dropLast, l.getLast hne, (List.dropLast_concat_getLast hne).symm⟩
theorem c_undo {M : Mm} {Q : Int → Mm → Prop} {a : Int → Int} {l : List (Int → Int)} {sn : Option (Int → Int)} {tl : Int} {t : Int → Int} (h : RC M a l sn tl t) (k : SP_undo l (fun r a' l' => ∀ M' : Mm, RC M' (a'.getD a) l' sn tl t → Q r M')) : p_X7_undo gC 0 M Q := by
  obtain ⟨kN, kA⟩ := k
  have hr := h
  obtain ⟨h1, h2, h3, h4, h5, h6⟩ := h
  have g37 : M 37 1 = (l.length : Int) := h3.1
  have hlen := h3.2.1
  unfold p_X7_undo
  show inR (M 37 1) ∧ (M 37 1 ≠ 0 → p_X2_moveLatestTo gC 37 1 M (fun M4 => Q (M4 37 1) M4)) ∧ (M 37 1 = 0 → _)
  rw [g37]
  refine ⟨inR_s (by omega) (by omega), fun hne => ?_, fun he => kN (List.length_eq_zero_iff.mp (by omega)) M hr⟩
  obtain ⟨l', b, rfl⟩ := l_last hne
  refine back_c h3 (fun M' hA hS hV hc f => ?_)
  rw [hA.1]
  refine kA l' b rfl M' ⟨hS, hV, hA, ?_, ?_, by rw [f 115 (by omega) (by omega)]; exact h6⟩
  · cases sn with
    | none => show M' 0 6 = 0; rw [f 0 (by omega) (by omega)]; exact h4
    | some r =>
      obtain ⟨q1, q2, q3⟩ := h4
      exact ⟨by rw [f 0 (by omega) (by omega)]; exact q1, q2.keep (fun o o1 o2 => f o (by omega) (by omega)), q3⟩
  · unfold TxC at h5 ⊢
    rw [f 111 (by omega) (by omega), f 113 (by omega) (by omega)]; exact h5
theorem un_l {N : Mm} {Q : Int → Mm → Prop} {h : Int} (h0 : 0 ≤ h) (h3 : h < 4) (hh : N 0 4 = h) (k : ∀ N' : Mm, (∀ o, o ≠ 1 → N' o = N o) → (∀ j, 0 ≤ j → j < 201 → N' 1 j = N 4 (201 * h + j)) → Q h N') :
    ∀ (n : Nat) (i : Int) (N1 : Mm), 0 ≤ i → i ≤ 201 → 201 - i < n → (∀ o, o ≠ 1 → N1 o = N o) → (∀ j, 0 ≤ j → j < i → N1 1 j = N 4 (201 * h + j)) → p_X8_undo_L22 gM n 0 i N1 Q := by
  intro n
  induction n with
  | zero => intro i N1 i0 i1 hn; omega
  | succ n ih =>
    intro i N1 i0 i1 hn f1 f2
    have l1 : gl gM (0 + 1) = 201 := by decide +kernel
    have l4 : gl gM (0 + 4) = 804 := by decide +kernel
    have e0 : N1 0 4 = h := by rw [f1 0 (by omega)]; exact hh
    unfold p_X8_undo_L22
    rw [l1, l4, e0]
    refine ⟨inR_s (by omega) (by omega), fun hge => k N1 f1 (fun j j0 j1 => f2 j j0 (by omega)), fun hlt => ⟨by omega, by omega, i0, by omega, fun N2 e => ?_⟩⟩
    refine ih (i + 1) N2 (by omega) (by omega) (by omega) (fun o ho => by rw [e]; show mu N1 1 i _ o = _; rw [mu_ne ho, f1 o ho]) (fun j j0 j1 => ?_)
    rw [e]; show mu N1 1 i (N1 4 (201 * h + i)) 1 j = _
    rw [mu_eq]; show (if j = i then _ else _) = _
    by_cases hj : j = i
    · rw [if_pos hj, hj, f1 4 (by omega)]
    · rw [if_neg hj]; exact f2 j j0 (by omega)
theorem m_undo {N : Mm} {Q : Int → Mm → Prop} {a : Int → Int} {l : List (Int → Int)} {sn : Option (Int → Int)} {tl : Int} {t : Int → Int} (h : RM N a l sn tl t) (k : SP_undo l (fun r a' l' => ∀ N' : Mm, RM N' (a'.getD a) l' sn tl t → Q r N')) : p_X8_undo gM 0 N Q := by
  obtain ⟨kN, kA⟩ := k
  have hr := h
  obtain ⟨h1, ⟨b1, b2, b3⟩, h3, t1, t2⟩ := h
  unfold p_X8_undo
  rw [b1]
  refine ⟨inR_s (by omega) (by omega), fun hne N1 e => ?_, fun he => kN (List.length_eq_zero_iff.mp (by omega)) N hr⟩
  obtain ⟨l', b, rfl⟩ := l_last hne
  have hl : (l' ++ [b]).length = l'.length + 1 := by simp
  rw [hl] at b1 b2 e
  have f : ∀ o, o ≠ 0 → N1 o = N o := fun o o1 => by rw [e]; exact mu_ne o1
  have f0 : ∀ j, j ≠ 4 → N1 0 j = N 0 j := fun j hj => by
    rw [e, mu_eq]; show (if j = 4 then _ else N 0 j) = _; rw [if_neg hj]
  have g : N1 0 4 = (l'.length : Int) := by
    rw [e, mu_eq]; show (((l'.length + 1 : Nat) : Int) - 1) = _; omega
  refine ⟨202, un_l (h := (l'.length : Int)) (by omega) (by omega) g (fun N' g1 g2 => ?_) 202 0 N1 (by omega) (by omega) (by omega) (fun _ _ => rfl) (fun j j0 j1 => by omega)⟩
  refine kA l' b rfl N' ⟨fun j j0 j1 => ?_, ⟨by rw [g1 0 (by omega)]; exact g, by omega, fun i r hr2 j j0 j1 => ?_⟩, ?_, ?_, fun i i0 i1 => ?_⟩
  · rw [g2 j j0 j1, f 4 (by omega)]
    exact b3 l'.length b (by simp) j j0 j1
  · rw [g1 4 (by omega), f 4 (by omega)]
    have hi : i < l'.length := (List.getElem?_eq_some_iff.mp hr2).1
    exact b3 i r (by rw [List.getElem?_append_left hi]; exact hr2) j j0 j1
  · unfold SnM at h3 ⊢
    rw [g1 0 (by omega), f0 6 (by omega), g1 5 (by omega), f 5 (by omega)]; exact h3
  · rw [g1 0 (by omega), f0 20 (by omega)]; exact t1
  · rw [g1 16 (by omega), f 16 (by omega)]; exact t2 i i0 i1
theorem c_keep {M : Mm} {Q : Int → Mm → Prop} {a : Int → Int} {l : List (Int → Int)} {sn : Option (Int → Int)} {tl : Int} {t : Int → Int} (h : RC M a l sn tl t) (k : ∀ M' : Mm, RC M' a l (some a) tl t → Q (a 36) M') : p_X7_keep gC 0 M Q := by
  obtain ⟨h1, h2, h3, h4, h5, h6⟩ := h
  unfold p_X7_keep
  refine st_copy (b := 19) (b2 := 1) (a := a) k5_19 k5_1 (by omega) (h3.cap k5_19) h1 h2 (fun M1 s1 f1 c1 M2 e => ?_)
  have f : ∀ o, o ≠ 0 → (o < 19 ∨ 37 ≤ o) → M2 o = M o := fun o o1 o2 => by rw [e, mu_ne o1, f1 o (by omega)]
  have g : ∀ o, o ≠ 0 → M2 o = M1 o := fun o o1 => by rw [e, mu_ne o1]
  have hS : SR M2 1 a := h1.keep (fun o o1 o2 => f o (by omega) (by omega))
  have q : M2 (0 + 1 + 9) 5 = a 36 := hS.2.2.2.2.2.1
  rw [q]
  refine k M2 ⟨hS, h2, h3.keep (fun o o1 o2 => f o (by omega) (by omega)) ⟨?_, ?_⟩, ⟨?_, s1.keep (fun o o1 o2 => g o (by omega)), h2⟩, ?_, by rw [f 115 (by omega) (by omega)]; exact h6⟩
  · rw [f 10 (by omega) (by omega)]; exact h3.cap k5_1
  · rw [g 28 (by omega)]; exact c1
  · rw [e, mu_eq]; rfl
  · unfold TxC at h5 ⊢
    rw [f 111 (by omega) (by omega), f 113 (by omega) (by omega)]; exact h5
theorem m_keep {N : Mm} {Q : Int → Mm → Prop} {a : Int → Int} {l : List (Int → Int)} {sn : Option (Int → Int)} {tl : Int} {t : Int → Int} (h : RM N a l sn tl t) (k : ∀ N' : Mm, RM N' a l (some a) tl t → Q (a 36) N') : p_X8_keep gM 0 N Q := by
  obtain ⟨h1, h2, h3, t1, t2⟩ := h
  have l1 : gl gM (0 + 1) = 201 := by decide +kernel
  unfold p_X8_keep
  refine cpy_m (a := 1) (b := 5) (by decide +kernel) (by decide +kernel) (by decide) (fun N2 e => ?_)
  rw [l1]
  have f : ∀ o, o ≠ 0 → o ≠ 5 → N2 o = N o := fun o o1 o2 => by rw [e, mu_ne o1]; exact mcp_ne o2
  have f0 : ∀ j, j ≠ 6 → N2 0 j = N 0 j := fun j hj => by
    rw [e, mu_eq]; show (if j = 6 then _ else mcp N 1 5 201 0 j) = _; rw [if_neg hj, mcp_ne (by omega)]
  have q : N2 (0 + 1) 36 = a 36 := by rw [f (0 + 1) (by omega) (by omega)]; exact h1 36 (by omega) (by omega)
  rw [q]
  refine ⟨by omega, k N2 ⟨by rw [f 1 (by omega) (by omega)]; exact h1, h2.keep (f0 4 (by omega)) (f 4 (by omega) (by omega)), ⟨?_, fun j j0 j1 => ?_⟩, by rw [f0 20 (by omega)]; exact t1, by rw [f 16 (by omega) (by omega)]; exact t2⟩⟩
  · rw [e, mu_eq]; rfl
  · rw [e, mu_ne (by omega)]; show mcp N 1 5 201 5 j = a j
    rw [mcp_eq]; show (if 0 ≤ j ∧ j < 201 then N 1 j else N 5 j) = a j
    rw [if_pos ⟨j0, j1⟩]; exact h1 j j0 j1
def SP_restore (a : Int → Int) (l : List (Int → Int)) (sn : Option (Int → Int)) (K : Int → (Int → Int) → List (Int → Int) → Prop) : Prop := (sn = none → K (-5) a l) ∧ ∀ r, sn = some r → K (r 36) r (push l a)
theorem c_restore {M : Mm} {Q : Int → Mm → Prop} {a : Int → Int} {l : List (Int → Int)} {sn : Option (Int → Int)} {tl : Int} {t : Int → Int} (h : RC M a l sn tl t) (k : SP_restore a l sn (fun r a' l' => ∀ M' : Mm, RC M' a' l' sn tl t → Q r M')) : p_X7_restore gC 0 M Q := by
  obtain ⟨kN, kA⟩ := k
  have h4 := h.2.2.2.1
  unfold p_X7_restore
  cases sn with
  | none =>
    have h4' : M 0 6 = 0 := h4
    rw [h4']
    exact ⟨inR0, fun z => absurd rfl z, fun _ => kN rfl M h⟩
  | some r =>
    obtain ⟨q1, q2, q3⟩ := h4
    rw [q1]
    refine ⟨inR1, fun _ => RC.rec h (fun M1 h1 f1 => ?_), fun z => absurd z (by decide)⟩
    obtain ⟨g1, g2, g3, ⟨g4, g5, g6⟩, g7, g8⟩ := h1
    refine st_copy (b := 1) (b2 := 19) (a := r) k5_1 k5_19 (by omega) (g3.cap k5_1) g5 g6 (fun M2 s2 f2 c2 => ?_)
    have q : M2 (0 + 1 + 9) 5 = r 36 := s2.2.2.2.2.2.1
    rw [q]
    refine kA r rfl M2 ⟨s2, g6, g3.keep (fun o o1 o2 => f2 o (by omega)) ⟨c2, ?_⟩, ⟨by rw [f2 0 (by omega)]; exact g4, g5.keep (fun o o1 o2 => f2 o (by omega)), g6⟩, ?_, by rw [f2 115 (by omega)]; exact g8⟩
    · rw [f2 28 (by omega)]; exact g3.cap k5_19
    · unfold TxC at g7 ⊢
      rw [f2 111 (by omega), f2 113 (by omega)]; exact g7
theorem m_restore {N : Mm} {Q : Int → Mm → Prop} {a : Int → Int} {l : List (Int → Int)} {sn : Option (Int → Int)} {tl : Int} {t : Int → Int} (h : RM N a l sn tl t) (k : SP_restore a l sn (fun r a' l' => ∀ N' : Mm, RM N' a' l' sn tl t → Q r N')) : p_X8_restore gM 0 N Q := by
  obtain ⟨kN, kA⟩ := k
  have h3 := h.2.2.1
  have l1 : gl gM (0 + 1) = 201 := by decide +kernel
  unfold p_X8_restore
  cases sn with
  | none =>
    have h3' : N 0 6 = 0 := h3
    rw [h3']
    exact ⟨inR0, fun z => absurd rfl z, fun _ => kN rfl N h⟩
  | some r =>
    obtain ⟨q1, q2⟩ := h3
    rw [q1]
    refine ⟨inR1, fun _ => rem_m ?_, fun z => absurd z (by decide)⟩
    obtain ⟨hR, h2⟩ := h.rem
    refine cpy_m (a := 5) (b := 1) (by decide +kernel) (by decide +kernel) (by decide) ?_
    generalize hN1 : mcp N 1 2 201 = N1 at hR h2
    have g5 := hR.2.2.1.2
    have e1 : ∀ j : Int, 0 ≤ j → j < 201 → mcp N1 5 1 201 1 j = r j := fun j j0 j1 => by
      rw [mcp_eq]; show (if 0 ≤ j ∧ j < 201 then N1 5 j else N1 1 j) = r j
      rw [if_pos ⟨j0, j1⟩]; exact g5 j j0 j1
    have f : ∀ o, o ≠ 1 → mcp N1 5 1 201 o = N1 o := fun o ho => mcp_ne ho
    have hR2 := hR.all (N' := mcp N1 5 1 201) (a' := r) e1 (fun j _ => by rw [f 0 (by omega)]) (f 4 (by omega)) (f 5 (by omega)) (f 16 (by omega))
    rw [l1]
    refine ⟨by omega, ?_⟩
    show p_X8_acted gM 0 (mcp N1 5 1 201 1 36) (mcp N1 5 1 201) _
    rw [e1 36 (by omega) (by omega)]
    exact hR2.act (b := a) (fun k k0 k1 => by rw [f 2 (by omega)]; exact h2 k k0 k1) (fun N' h' => kA r rfl N' h')
