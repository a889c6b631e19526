/-! PURE: leaves of the reference -/
theorem in_m {x lo hi : Int} {M : Mm} {Q : Int → Mm → Prop} (hx : inR x) (hlo : inR lo) (hhi : inR hi) (k1 : lo ≤ x → x ≤ hi → Q 1 M) (k0 : (x < lo ∨ hi < x) → Q 0 M) : p_X8_in gM x lo hi M Q := by
  have w : ∀ z, inR z → inL z := fun z h => ⟨by have := h.1; omega, by have := h.2; omega⟩
  unfold p_X8_in
  exact ⟨w _ hx, w _ hlo, fun h => k0 (Or.inl h), fun h => ⟨w _ hx, w _ hhi, fun h2 => k0 (Or.inr h2), fun h2 => k1 h h2⟩⟩
theorem mcp_step {M : Mm} {a b : Nat} {n : Int} (hne : a ≠ b) (h : 0 ≤ n) : mu (mcp M a b n) b n (mcp M a b n a n) = mcp M a b (n + 1) := by
  funext o k
  by_cases h1 : o = b
  · subst h1
    rw [mu_eq, mcp_eq, mcp_eq, mcp_ne hne]
    show (if k = n then M a n else if 0 ≤ k ∧ k < n then M a k else M o k) = if 0 ≤ k ∧ k < n + 1 then M a k else M o k
    by_cases h2 : k = n
    · rw [if_pos h2, if_pos (by omega), h2]
    · rw [if_neg h2]
      by_cases h3 : 0 ≤ k ∧ k < n
      · rw [if_pos h3, if_pos (by omega)]
      · rw [if_neg h3, if_neg (by omega)]
  · rw [mu_ne h1, mcp_ne h1, mcp_ne h1]
theorem mcp_0 {M : Mm} {a b : Nat} : mcp M a b 0 = M := by
  funext o k
  by_cases h1 : o = b
  · subst h1; rw [mcp_eq]; exact if_neg (by omega)
  · rw [mcp_ne h1]
theorem cpy_l {a b : Nat} {M : Mm} {Q : Mm → Prop} (ha : gl gM a = 201) (hb : gl gM b = 201) (hne : a ≠ b) (k : Q (mcp M a b 201)) : ∀ (n : Nat) (i : Int), 0 ≤ i → i ≤ 201 → 201 - i < n → p_X8_copy_L2 gM n a b i (mcp M a b i) Q := by
  intro n
  induction n with
  | zero => intro i h0 h1 hn; omega
  | succ n ih =>
    intro i h0 h1 hn
    unfold p_X8_copy_L2
    rw [ha, hb]
    refine ⟨inR_s (by omega) (by omega), fun h => ?_, fun h => ⟨h0, by omega, h0, by omega, fun M1 e => ?_⟩⟩
    · rw [show i = 201 by omega]; exact k
    · rw [e, mcp_step hne h0]
      exact ih (i + 1) (by omega) (by omega) (by omega)
theorem cpy_m {a b : Nat} {M : Mm} {Q : Mm → Prop} (ha : gl gM a = 201) (hb : gl gM b = 201) (hne : a ≠ b) (k : Q (mcp M a b 201)) : p_X8_copy gM a b M Q := by
  unfold p_X8_copy
  have h := cpy_l ha hb hne k 202 0 (by omega) (by omega) (by omega)
  rw [mcp_0] at h
  exact ⟨_, h⟩
theorem rem_m {M : Mm} {Q : Mm → Prop} (k : Q (mcp M 1 2 201)) : p_X8_remember gM 0 M Q := by
  unfold p_X8_remember
  exact cpy_m (by decide +kernel) (by decide +kernel) (by decide) k
/-- the history of the reference -/
def AB (N : Mm) (l : List (Int → Int)) : Prop := N 0 4 = (l.length : Int) ∧ l.length ≤ 4 ∧ ∀ (i : Nat) (r : Int → Int), l[i]? = some r → ∀ k : Int, 0 ≤ k → k < 201 → N 4 (201 * i + k) = r k
theorem AB.keep {N N' : Mm} {l : List (Int → Int)} (h : AB N l) (e : N' 0 4 = N 0 4) (e4 : N' 4 = N 4) : AB N' l := ⟨e.trans h.1, h.2.1, by rw [e4]; exact h.2.2⟩
theorem act_l {N : Mm} {Q : Int → Mm → Prop} {x h : Int} (h0 : 0 ≤ h) (h3 : h < 4) (hh : N 0 4 = h)
    (k : ∀ N' : Mm, (∀ o, o ≠ 0 → o ≠ 4 → N' o = N o) → (∀ j, j ≠ 4 → N' 0 j = N 0 j) → N' 0 4 = h + 1 → (∀ j, 0 ≤ j → j < 201 → N' 4 (201 * h + j) = N 2 j) → (∀ j, j < 201 * h → N' 4 j = N 4 j) → Q x N') :
    ∀ (n : Nat) (i : Int) (N1 : Mm), 0 ≤ i → i ≤ 201 → 201 - i < n → (∀ o, o ≠ 4 → N1 o = N o) → (∀ j, 0 ≤ j → j < i → N1 4 (201 * h + j) = N 2 j) → (∀ j, j < 201 * h → N1 4 j = N 4 j) → p_X8_acted_L51 gM n 0 x i N1 Q := by
  intro n
  induction n with
  | zero => intro i N1 i0 i1 hn; omega
  | succ n ih =>
    intro i N1 i0 i1 hn f1 f2 f3
    have l2 : gl gM (0 + 2) = 201 := by decide +kernel
    have l4 : gl gM (0 + 4) = 804 := by decide +kernel
    have e0 : N1 0 4 = h := by rw [f1 0 (by omega)]; exact hh
    unfold p_X8_acted_L51
    rw [l2, l4, e0]
    refine ⟨inR_s (by omega) (by omega), fun hge N2 e => ?_, fun hlt => ⟨i0, by omega, by omega, by omega, fun N2 e => ?_⟩⟩
    · have hi : i = 201 := by omega
      refine k N2 (fun o o0 o4 => by rw [e, mu_ne o0, f1 o o4]) (fun j hj => ?_) ?_ (fun j j0 j1 => ?_) (fun j hj => ?_)
      · rw [e, mu_eq]; show (if j = 4 then _ else N1 0 j) = _
        rw [if_neg hj, f1 0 (by omega)]
      · rw [e, mu_eq]; rfl
      · rw [e, mu_ne (by omega)]; exact f2 j j0 (by omega)
      · rw [e, mu_ne (by omega)]; exact f3 j hj
    · refine ih (i + 1) N2 (by omega) (by omega) (by omega) (fun o ho => by rw [e, mu_ne (show o ≠ 0 + 4 from ho), f1 o ho]) (fun j j0 j1 => ?_) (fun j hj => ?_)
      · rw [e]; show (mu N1 4 (201 * h + i) (N1 2 i)) 4 (201 * h + j) = _
        rw [mu_eq]; show (if 201 * h + j = 201 * h + i then _ else _) = _
        by_cases hj : j = i
        · rw [if_pos (by omega), hj, f1 2 (by omega)]
        · rw [if_neg (by omega)]; exact f2 j j0 (by omega)
      · rw [e]; show (mu N1 4 (201 * h + i) (N1 2 i)) 4 j = _
        rw [mu_eq]; show (if j = 201 * h + i then _ else _) = _
        rw [if_neg (by omega)]; exact f3 j hj
theorem act_s {N : Mm} {Q : Int → Mm → Prop} {x : Int} (hh : N 0 4 = 4)
    (k : ∀ N' : Mm, (∀ o, o ≠ 0 → o ≠ 4 → N' o = N o) → (∀ j, j ≠ 4 → N' 0 j = N 0 j) → N' 0 4 = 3 → (∀ j, 0 ≤ j → j < 603 → N' 4 j = N 4 (j + 201)) → ∃ n, p_X8_acted_L51 gM n 0 x 0 N' Q) :
    ∀ (n : Nat) (i : Int) (N1 : Mm), 0 ≤ i → i ≤ 603 → 603 - i < n → (∀ o, o ≠ 4 → N1 o = N o) → (∀ j, 0 ≤ j → j < i → N1 4 j = N 4 (j + 201)) → (∀ j, i ≤ j → N1 4 j = N 4 j) → p_X8_acted_L10 gM n 0 x i N1 Q := by
  intro n
  induction n with
  | zero => intro i N1 i0 i1 hn; omega
  | succ n ih =>
    intro i N1 i0 i1 hn f1 f2 f3
    have l4 : gl gM (0 + 4) = 804 := by decide +kernel
    have e0 : N1 0 4 = 4 := by rw [f1 0 (by omega)]; exact hh
    unfold p_X8_acted_L10
    rw [l4, e0]
    refine ⟨inR_s (by omega) (by omega), fun hge N2 e => ?_, fun hlt => ⟨by omega, by omega, by omega, by omega, fun N2 e => ?_⟩⟩
    · refine k N2 (fun o o0 o4 => by rw [e, mu_ne o0, f1 o o4]) (fun j hj => ?_) ?_ (fun j j0 j1 => ?_)
      · rw [e, mu_eq]; show (if j = 4 then _ else N1 0 j) = _
        rw [if_neg hj, f1 0 (by omega)]
      · rw [e, mu_eq]; rfl
      · rw [e, mu_ne (by omega)]; exact f2 j j0 (by omega)
    · refine ih (i + 1) N2 (by omega) (by omega) (by omega) (fun o ho => by rw [e, mu_ne (show o ≠ 0 + 4 from ho), f1 o ho]) (fun j j0 j1 => ?_) (fun j hj => ?_)
      · rw [e]; show (mu N1 4 i (N1 4 (i + 201))) 4 j = _
        rw [mu_eq]; show (if j = i then _ else _) = _
        by_cases hj : j = i
        · rw [if_pos hj, hj, f3 _ (by omega)]
        · rw [if_neg hj]; exact f2 j j0 (by omega)
      · rw [e]; show (mu N1 4 i (N1 4 (i + 201))) 4 j = _
        rw [mu_eq]; show (if j = i then _ else _) = _
        rw [if_neg (by omega)]; exact f3 j (by omega)
theorem act_m {N : Mm} {Q : Int → Mm → Prop} {x : Int} {l : List (Int → Int)} {a : Int → Int} (h : AB N l) (ha : ∀ k : Int, 0 ≤ k → k < 201 → N 2 k = a k)
    (k : ∀ N' : Mm, AB N' (push l a) → (∀ o, o ≠ 0 → o ≠ 4 → N' o = N o) → (∀ j, j ≠ 4 → N' 0 j = N 0 j) → Q x N') : p_X8_acted gM 0 x N Q := by
  obtain ⟨h1, h2, h3⟩ := h
  unfold p_X8_acted
  rw [h1]
  refine ⟨inR_s (by omega) (by omega), fun hn => ⟨202, ?_⟩, fun hn => ⟨604, ?_⟩⟩
  · refine act_l (h := (l.length : Int)) (by omega) (by omega) h1 (fun N' f1 f2 f3 f4 f5 => ?_) 202 0 N (by omega) (by omega) (by omega) (fun _ _ => rfl) (fun j j0 j1 => by omega) (fun _ _ => rfl)
    refine k N' ?_ f1 f2
    unfold push
    rw [if_neg (by omega)]
    refine ⟨by rw [f3]; simp, by simp; omega, fun i r hr q q0 q1 => ?_⟩
    by_cases hi : i < l.length
    · rw [List.getElem?_append_left hi] at hr
      rw [f5 _ (by omega)]
      exact h3 i r hr q q0 q1
    · have hi2 : i = l.length := by
        have := (List.getElem?_eq_some_iff.mp hr).1
        simp at this; omega
      subst hi2
      simp at hr
      subst hr
      rw [f4 q q0 q1]
      exact ha q q0 q1
  · have hl : l.length = 4 := by omega
    refine act_s (by rw [h1, hl]; rfl) (fun N1 g1 g2 g3 g4 => ⟨202, ?_⟩) 604 0 N (by omega) (by omega) (by omega) (fun _ _ => rfl) (fun j j0 j1 => by omega) (fun _ _ => rfl)
    refine act_l (h := 3) (by omega) (by omega) g3 (fun N' f1 f2 f3 f4 f5 => ?_) 202 0 N1 (by omega) (by omega) (by omega) (fun _ _ => rfl) (fun j j0 j1 => by omega) (fun _ _ => rfl)
    refine k N' ?_ (fun o o0 o4 => by rw [f1 o o0 o4, g1 o o0 o4]) (fun j hj => by rw [f2 j hj, g2 j hj])
    unfold push
    rw [if_pos hl]
    refine ⟨by rw [f3]; simp; omega, by simp; omega, fun i r hr q q0 q1 => ?_⟩
    by_cases hi : i < 3
    · rw [List.getElem?_append_left (by simp; omega)] at hr
      rw [f5 _ (by omega), g4 _ (by omega) (by omega)]
      have hr2 : l[i + 1]? = some r := by rw [← hr]; simp
      have := h3 (i + 1) r hr2 q q0 q1
      rw [← this]
      congr 1
      omega
    · have hi2 : i = 3 := by
        have := (List.getElem?_eq_some_iff.mp hr).1
        simp at this; omega
      subst hi2
      rw [List.getElem?_append_right (by simp; omega)] at hr
      simp [hl] at hr
      subst hr
      have := f4 q q0 q1
      rw [show (201 * ((3 : Nat) : Int) + q) = 201 * 3 + q by omega, this, g1 2 (by omega) (by omega)]
      exact ha q q0 q1
