/-! PURE: the reference reads a cue -/
def TV (t : Int → Int) (tl : Int) : Prop := 0 ≤ tl ∧ tl ≤ 60 ∧ ∀ i, 0 ≤ i → i < tl → 0 ≤ t i ∧ t i ≤ 65535
def frP (N N' : Mm) : Prop := (∀ o, o ≠ 0 → N' o = N o) ∧ ∀ j : Int, j ≠ 21 → j ≠ 22 → N' 0 j = N 0 j
theorem frP.tr {A B C : Mm} (h : frP A B) (h2 : frP B C) : frP A C := ⟨fun o ho => (h2.1 o ho).trans (h.1 o ho), fun j h0 h1 => (h2.2 j h0 h1).trans (h.2 j h0 h1)⟩
theorem frP.rf {A : Mm} : frP A A := ⟨fun _ _ => rfl, fun _ _ _ => rfl⟩
theorem TxM.p {N N' : Mm} {tl : Int} {t : Int → Int} (h : TxM N tl t) (f : frP N N') : TxM N' tl t := by
  unfold TxM at h ⊢
  rw [f.2 20 (by decide) (by decide), f.1 16 (by decide)]; exact h
theorem l16 : gl gM 16 = 60 := by decide +kernel
theorem l17 : gl gM 17 = 60 := by decide +kernel
theorem here_m {N : Mm} {Q : Int → Mm → Prop} {tl p x1 x2 : Int} {t : Int → Int} (ht : TxM N tl t) (tv : TV t tl) (p0 : 0 ≤ p) (p1 : p ≤ tl) (hp : N 0 21 = p) (h1 : 0 ≤ x1 ∧ x1 ≤ 1000) (h2 : 0 ≤ x2 ∧ x2 ≤ 1000) (k0 : ¬ (x1 ≤ chrT t tl p ∧ chrT t tl p ≤ x2) → Q 0 N) (k1 : p < tl → N 16 p = chrT t tl p → x1 ≤ chrT t tl p → chrT t tl p ≤ x2 → Q 1 N) : p_X8_isHere gM 0 x1 x2 N Q := by
  obtain ⟨t1, t2⟩ := ht
  obtain ⟨v1, v2, v3⟩ := tv
  unfold p_X8_isHere
  simp only [Nat.zero_add, l16]
  rw [hp, t1]
  refine ⟨inR_s (by omega) (by omega), inR_s (by omega) (by omega), fun hge => k0 (fun z => ?_), fun hlt => ?_⟩
  · unfold chrT at z
    rw [if_neg (by omega)] at z; omega
  · have e : chrT t tl p = t p := by unfold chrT; rw [if_pos ⟨p0, hlt⟩]
    have e16 := t2 p p0 hlt
    have hv := v3 p p0 hlt
    rw [e] at k0 k1
    rw [e16]
    refine ⟨p0, by omega, inR_s (by omega) (by omega), inR_s (by omega) (by omega), inR_s (by omega) (by omega), in_m (inR_s (by omega) (by omega)) (inR_s (by omega) (by omega)) (inR_s (by omega) (by omega)) (fun z0 z1 => ⟨inR1, fun z => absurd z (by decide), fun _ => k1 hlt e16 z0 z1⟩) (fun q => ⟨inR0, fun _ => k0 (by omega), fun z => absurd rfl z⟩)⟩
theorem takes_m {N : Mm} {Q : Int → Mm → Prop} {tl p x : Int} {t : Int → Int} (ht : TxM N tl t) (tv : TV t tl) (p0 : 0 ≤ p) (p1 : p ≤ tl) (hp : N 0 21 = p) (hx : 0 ≤ x ∧ x ≤ 1000) (k0 : chrT t tl p ≠ x → ∀ N' : Mm, frP N N' → N' 0 21 = p → N' 0 22 = N 0 22 → Q 0 N') (k1 : chrT t tl p = x → p < tl → ∀ N' : Mm, frP N N' → N' 0 21 = p + 1 → N' 0 22 = N 0 22 → Q 1 N') : p_X8_takes gM 0 x N Q := by
  have F : ∀ (v : Int) (N' : Mm), N' = mu N 0 21 v → frP N N' ∧ N' 0 21 = v ∧ N' 0 22 = N 0 22 := fun v N' e => by
    refine ⟨⟨fun o ho => by rw [e, mu_ne ho], fun j j1 j2 => ?_⟩, ?_, ?_⟩
    · rw [e, mu_eq]; exact if_neg j1
    · rw [e, mu_eq]; exact if_pos rfl
    · rw [e, mu_eq]; exact if_neg (by decide)
  unfold p_X8_takes
  refine here_m ht tv p0 p1 hp hx hx (fun hn => ⟨inR0, fun _ N' e => ?_, fun z => absurd rfl z⟩) (fun hlt _ z0 z1 => ⟨inR1, fun z => absurd z (by decide), fun _ N' e => ?_⟩)
  · obtain ⟨f1, f2, f3⟩ := F _ N' e
    exact ⟨Or.inl rfl, k0 (fun z => hn ⟨by omega, by omega⟩) N' f1 (by rw [f2, hp]; omega) f3⟩
  · obtain ⟨f1, f2, f3⟩ := F _ N' e
    exact ⟨Or.inr rfl, k1 (by omega) hlt N' f1 (by rw [f2, hp]) f3⟩
theorem dgt_of {c : Int} (h0 : 48 ≤ c) (h1 : c ≤ 57) : dgt c = c - 48 := if_pos ⟨h0, h1⟩
theorem nm_m {Q : Int → Mm → Prop} {tl most : Int} {t : Int → Int} {N0 : Mm} (ht : TxM N0 tl t) (tv : TV t tl) (hm : -100 ≤ most ∧ most ≤ 999) : ∀ (F : Nat) (x p : Int) (N : Mm), 0 ≤ x → x ≤ 9999 → 0 ≤ p → p ≤ tl → tl - p < F → frP N0 N → N 0 21 = p → N 0 22 = x → (∀ N' : Mm, frP N0 N' → N' 0 21 = (nmL t tl most F x p).2 → N' 0 22 = (nmL t tl most F x p).1 → Q 1 N') → p_X8_readsNumber_L57 gM (F + 1) 0 most N Q := by
  have tv1 := tv.1
  have tv2 := tv.2.1
  intro F
  induction F with
  | zero => intro x p N _ _ _ h1 h2; omega
  | succ F ih =>
    intro x p N x0 x1 p0 p1 hF fr hp hx k
    have h2 : nmL t tl most (F + 1) x p = if 0 < x ∧ dgt (chrT t tl p) ≠ -5 ∧ x * 10 + dgt (chrT t tl p) ≤ most then nmL t tl most F (x * 10 + dgt (chrT t tl p)) (p + 1) else (x, p) := rfl
    have stop : ¬ (0 < x ∧ dgt (chrT t tl p) ≠ -5 ∧ x * 10 + dgt (chrT t tl p) ≤ most) → Q 1 N := fun hn => by
      rw [h2, if_neg hn] at k
      exact k N fr hp hx
    have ht1 := ht.p fr
    unfold p_X8_readsNumber_L57
    simp only [Nat.zero_add, l16]
    rw [hx]
    refine ⟨inR_s (by omega) (by omega), fun h => stop (fun z => by omega), fun hxp => here_m ht1 tv p0 p1 hp (by decide) (by decide) (fun hn => ⟨inR0, fun _ => stop (fun z => z.2.1 ?_), fun z => absurd rfl z⟩) (fun hlt e16 c0 c1 => ⟨inR1, fun z => absurd z (by decide), fun _ => ?_⟩)⟩
    · unfold dgt; rw [if_neg hn]
    · have hd := dgt_of c0 c1
      rw [hp, hx, e16]
      refine ⟨p0, by omega, inR_s (by omega) (by omega), inR_s (by omega) (by omega), fun hgt => stop (fun z => by omega), fun hle => ⟨p0, by omega, fun N2 e2 N3 e3 => ?_⟩⟩
      rw [h2, if_pos ⟨hxp, by omega, by omega⟩] at k
      have g0 : N2 0 21 = p := by rw [e2, mu_eq]; show (if (21 : Int) = 22 then _ else _) = p; rw [if_neg (by decide), hp]
      refine ih _ (p + 1) N3 (by omega) (by omega) (by omega) (by omega) (by omega) (fr.tr ⟨fun o ho => by rw [e3, mu_ne ho, e2, mu_ne ho], fun j j1 j2 => ?_⟩) ?_ ?_ k
      · rw [e3, mu_eq]; show (if j = 21 then _ else N2 0 j) = _
        rw [if_neg j1, e2, mu_eq]; exact if_neg j2
      · rw [e3, mu_eq]; show (if (21 : Int) = 21 then _ else _) = _
        rw [if_pos rfl, g0]
      · rw [e3, mu_eq]; show (if (22 : Int) = 21 then _ else N2 0 22) = _
        rw [if_neg (by decide), e2, mu_eq]
        show (if (22 : Int) = 22 then _ else _) = _
        rw [if_pos rfl]; omega
theorem num_m {N : Mm} {Q : Int → Mm → Prop} {tl least most p : Int} {t : Int → Int} (ht : TxM N tl t) (tv : TV t tl) (p0 : 0 ≤ p) (p1 : p ≤ tl) (hl : 0 ≤ least ∧ least ≤ 1) (hm : 1 ≤ most ∧ most ≤ 999) (hp : N 0 21 = p)
    (kn : num t tl least most p = none → Q 0 N) (ks : ∀ x p', num t tl least most p = some (x, p') → ∀ N' : Mm, frP N N' → N' 0 21 = p' → N' 0 22 = x → Q 1 N') : p_X8_readsNumber gM 0 least most N Q := by
  have tv1 := tv.1
  have tv2 := tv.2.1
  unfold p_X8_readsNumber
  simp only [Nat.zero_add, l16]
  refine here_m ht tv p0 p1 hp (by omega) (by decide) (fun hn => ⟨inR0, fun _ => kn ?_, fun z => absurd rfl z⟩) (fun hlt e16 c0 c1 => ⟨inR1, fun z => absurd z (by decide), fun _ => ?_⟩)
  · unfold num
    have hd := dgt_in (c := chrT t tl p)
    by_cases hc : 48 ≤ chrT t tl p ∧ chrT t tl p ≤ 57
    · have := dgt_of hc.1 hc.2
      rw [if_pos (by omega)]
    · have : dgt (chrT t tl p) = -5 := by unfold dgt; rw [if_neg hc]
      rw [if_pos (Or.inl this)]
  · have hd := dgt_of (show 48 ≤ chrT t tl p by omega) c1
    rw [hp, e16]
    refine ⟨p0, by omega, inR_s (by omega) (by omega), inR_s (by omega) (by omega), fun hle => ⟨p0, by omega, fun N2 e2 N3 e3 => ⟨62, ?_⟩⟩, fun hgt => kn (by unfold num; rw [if_pos (by omega)])⟩
    have g0 : N2 0 21 = p := by rw [e2, mu_eq]; show (if (21 : Int) = 22 then _ else _) = p; rw [if_neg (by decide), hp]
    have h3 : num t tl least most p = some (nmL t tl most 61 (chrT t tl p - 48) (p + 1)) := by unfold num; rw [if_neg (by omega), hd]
    refine nm_m (N0 := N) ht tv (by omega) 61 (chrT t tl p - 48) (p + 1) N3 (by omega) (by omega) (by omega) (by omega) (by omega) ⟨fun o ho => by rw [e3, mu_ne ho, e2, mu_ne ho], fun j j1 j2 => ?_⟩ ?_ ?_ (fun N' f1 f2 f3 => ks _ _ h3 N' f1 f2 f3)
    · rw [e3, mu_eq]; show (if j = 21 then _ else N2 0 j) = _
      rw [if_neg j1, e2, mu_eq]; exact if_neg j2
    · rw [e3, mu_eq]; show (if (21 : Int) = 21 then _ else _) = _
      rw [if_pos rfl, g0]
    · rw [e3, mu_eq]; show (if (22 : Int) = 21 then _ else N2 0 22) = _
      rw [if_neg (by decide), e2, mu_eq]
      show (if (22 : Int) = 22 then _ else _) = _
      rw [if_pos rfl]
