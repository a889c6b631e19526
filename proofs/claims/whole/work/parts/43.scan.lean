/-! PURE: how a text is read: what it says; the class's scanning -/
def chrT (t : Int → Int) (tl p : Int) : Int := if 0 ≤ p ∧ p < tl then t p else -1
def dgt (c : Int) : Int := if 48 ≤ c ∧ c ≤ 57 then c - 48 else -5
def nmL (t : Int → Int) (tl most : Int) : Nat → Int → Int → Int × Int
  | 0, x, p => (x, p)
  | f + 1, x, p => if 0 < x ∧ dgt (chrT t tl p) ≠ -5 ∧ x * 10 + dgt (chrT t tl p) ≤ most then nmL t tl most f (x * 10 + dgt (chrT t tl p)) (p + 1) else (x, p)
def num (t : Int → Int) (tl least most p : Int) : Option (Int × Int) :=
  if dgt (chrT t tl p) = -5 ∨ dgt (chrT t tl p) < least ∨ most < dgt (chrT t tl p) then none else some (nmL t tl most 61 (dgt (chrT t tl p)) (p + 1))
theorem dgt_in {c : Int} : dgt c = -5 ∨ (0 ≤ dgt c ∧ dgt c ≤ 9) := by unfold dgt; split <;> omega
theorem dgt_lt {t : Int → Int} {tl p : Int} (h : dgt (chrT t tl p) ≠ -5) : 0 ≤ p ∧ p < tl := by
  unfold dgt chrT at h
  by_cases hp : 0 ≤ p ∧ p < tl
  · exact hp
  · rw [if_neg hp, if_neg (by omega)] at h; exact absurd rfl h
theorem nm_in {t : Int → Int} {tl most : Int} : ∀ (f : Nat) (x p : Int), 0 ≤ x → x ≤ most → p ≤ tl → x ≤ (nmL t tl most f x p).1 ∧ (nmL t tl most f x p).1 ≤ most ∧ p ≤ (nmL t tl most f x p).2 ∧ (nmL t tl most f x p).2 ≤ tl
  | 0, x, p, h0, h1, h2 => ⟨Int.le_refl _, h1, Int.le_refl _, h2⟩
  | f + 1, x, p, h0, h1, h2 => by
    unfold nmL
    by_cases hc : 0 < x ∧ dgt (chrT t tl p) ≠ -5 ∧ x * 10 + dgt (chrT t tl p) ≤ most
    · rw [if_pos hc]
      have hp := dgt_lt hc.2.1
      have hd := dgt_in (c := chrT t tl p)
      have := nm_in (t := t) (tl := tl) (most := most) f (x * 10 + dgt (chrT t tl p)) (p + 1) (by omega) hc.2.2 (by omega)
      omega
    · rw [if_neg hc]; exact ⟨Int.le_refl _, h1, Int.le_refl _, h2⟩
theorem num_in {t : Int → Int} {tl least most p x p' : Int} (hl : 0 ≤ least) (h : num t tl least most p = some (x, p')) : least ≤ x ∧ x ≤ most ∧ p + 1 ≤ p' ∧ p' ≤ tl ∧ 0 ≤ p := by
  unfold num at h
  by_cases hc : dgt (chrT t tl p) = -5 ∨ dgt (chrT t tl p) < least ∨ most < dgt (chrT t tl p)
  · rw [if_pos hc] at h; cases h
  · rw [if_neg hc] at h
    have hp := dgt_lt (fun z => hc (Or.inl z))
    have := nm_in (t := t) (tl := tl) (most := most) 61 (dgt (chrT t tl p)) (p + 1) (by omega) (by omega) (by omega)
    have e := Option.some.inj h
    rw [e] at this
    have h1 : dgt (chrT t tl p) ≤ x := this.1
    have h2 : x ≤ most := this.2.1
    have h3 : p + 1 ≤ p' := this.2.2.1
    have h4 : p' ≤ tl := this.2.2.2
    omega
/-- one cue of the text: the fault, or the cue and where it ends -/
def pcue (t : Int → Int) (tl p : Int) : Int ⊕ (Cu × Int) :=
  match num t tl 0 5 p with
  | none => .inl p
  | some (s, p1) => if chrT t tl p1 = 64 then
      match num t tl 0 999 (p1 + 1) with
      | none => .inl (p1 + 1)
      | some (k, p2) => if chrT t tl p2 = 115 then
          match num t tl 0 9 (p2 + 1) with
          | none => .inl (p2 + 1)
          | some (d, p3) => if chrT t tl p3 = 42 then
              match num t tl 1 20 (p3 + 1) with
              | none => .inl (p3 + 1)
              | some (w, p4) => .inr ((k, s, d, w), p4)
            else .inr ((k, s, d, 1), p3)
        else .inl p2
    else .inl p1
def frS (M M' : Mm) : Prop := ∀ o, o ≠ 114 → M' o = M o
theorem TxC.s {M M' : Mm} {tl : Int} {t : Int → Int} (h : TxC M tl t) (f : frS M M') : TxC M' tl t := by
  unfold TxC at h ⊢
  rw [f 111 (by omega), f 113 (by omega)]; exact h
theorem chr_in {M : Mm} {tl : Int} {t : Int → Int} (h : TxC M tl t) {p : Int} : -1 ≤ chrT t tl p ∧ chrT t tl p ≤ 65535 := by
  unfold chrT
  by_cases hp : 0 ≤ p ∧ p < tl
  · rw [if_pos hp]; have := (h.2.2.2 p hp.1 hp.2).2; omega
  · rw [if_neg hp]; omega
theorem chr_c {M : Mm} {Q : Int → Mm → Prop} {tl p : Int} {t : Int → Int} (h : TxC M tl t) (hp : inR p) (k : Q (chrT t tl p) M) : p_X6_at gC 111 p M Q := by
  obtain ⟨h1, h2, h3, h4⟩ := h
  have hl : gl gC (111 + 1 + 1) = 60 := by decide +kernel
  unfold chrT at k
  unfold p_X6_at
  rw [h1]
  refine below_c hp (inR_s (by omega) (by omega)) (fun p0 p1 => ⟨inR1, fun z => absurd z (by decide), fun _ => get_c p0 (by rw [hl]; omega) ?_⟩) (fun q => ⟨inR0, fun _ => by rw [if_neg (by omega)] at k; exact k, fun z => absurd rfl z⟩)
  rw [if_pos ⟨p0, p1⟩] at k
  show Q (M 113 p) M
  rw [(h4 p p0 p1).1]; exact k
theorem dgt_c {M : Mm} {Q : Int → Mm → Prop} {tl p : Int} {t : Int → Int} (h : TxC M tl t) (hp : inR p) (k : Q (dgt (chrT t tl p)) M) : p_X1_digitAt gC 111 p M Q := by
  have hc := chr_in h (p := p)
  unfold dgt at k
  unfold p_X1_digitAt
  refine chr_c h hp (within_c (inR_s (by omega) (by omega)) ⟨by decide, by decide⟩ ⟨by decide, by decide⟩ (fun z0 z1 => ⟨inR1, fun z => absurd z (by decide), fun _ => by rw [if_pos ⟨z0, z1⟩] at k; exact k⟩) (fun q => ⟨inR0, fun _ => by rw [if_neg (by omega)] at k; exact k, fun z => absurd rfl z⟩))
theorem nm_c {Q : Int → Mm → Prop} {tl most : Int} {t : Int → Int} {M0 : Mm} (ht : TxC M0 tl t) (hm : most ≤ 999) : ∀ (F : Nat) (x p : Int) (M : Mm), 0 ≤ x → x ≤ 9999 → 0 ≤ p → p ≤ 60 → tl - p < F → frS M0 M → M 114 1 = p → (∀ M' : Mm, frS M0 M' → (∀ j, j ≠ 1 → M' 114 j = M 114 j) → M' 114 1 = (nmL t tl most F x p).2 → Q (nmL t tl most F x p).1 M') → -100 ≤ most → p_X1_readNumber_L53 gC (F + 1) 114 111 most x M Q := by
  intro F
  induction F with
  | zero =>
    intro x p M x0 x1 p0 p1 hF fr hp k hm0
    have ht1 := ht.s fr
    have h2 : nmL t tl most 0 x p = (x, p) := rfl
    rw [h2] at k
    unfold p_X1_readNumber_L53
    rw [hp, ht1.1]
    exact ⟨inR_s (by omega) (by omega), fun _ => k M fr (fun _ _ => rfl) hp, fun _ => ⟨inR_s (by omega) (by omega), inR_s (by have := ht.2.1; omega) (by have := ht.2.2.1; omega), fun _ => k M fr (fun _ _ => rfl) hp, fun h => absurd h (by omega)⟩⟩
  | succ F ih =>
    intro x p M x0 x1 p0 p1 hF fr hp k hm0
    have ht1 := ht.s fr
    have htl := ht.2.1
    have htl2 := ht.2.2.1
    have hd := dgt_in (c := chrT t tl p)
    have h2 : nmL t tl most (F + 1) x p = if 0 < x ∧ dgt (chrT t tl p) ≠ -5 ∧ x * 10 + dgt (chrT t tl p) ≤ most then nmL t tl most F (x * 10 + dgt (chrT t tl p)) (p + 1) else (x, p) := rfl
    have stop : ¬ (0 < x ∧ dgt (chrT t tl p) ≠ -5 ∧ x * 10 + dgt (chrT t tl p) ≤ most) → Q x M := fun hn => by
      rw [h2, if_neg hn] at k
      exact k M fr (fun _ _ => rfl) hp
    unfold p_X1_readNumber_L53
    rw [hp, ht1.1]
    refine ⟨inR_s (by omega) (by omega), fun h => stop (fun z => by omega), fun hx => ⟨inR_s (by omega) (by omega), inR_s (by omega) (by omega), fun h => stop (fun z => by have := dgt_lt z.2.1; omega), fun hlt => dgt_c ht1 (inR_s (by omega) (by omega)) ⟨inR_s (by omega) (by omega), fun h => stop (fun z => z.2.1 h), fun hne => ⟨inR_s (by omega) (by omega), inR_s (by omega) (by omega), fun hle M2 e => ?_, fun h => stop (fun z => by omega)⟩⟩⟩⟩
    rw [h2, if_pos ⟨hx, hne, hle⟩] at k
    have f2 : frS M M2 := fun o ho => by rw [e, mu_ne ho]
    have e2 : ∀ j, M2 114 j = if j = 1 then p + 1 else M 114 j := fun j => by rw [e, mu_eq, hp]
    refine ih _ (p + 1) M2 (by omega) (by omega) (by omega) (by omega) (by omega) (fun o ho => by rw [f2 o ho, fr o ho]) (by rw [e2, if_pos rfl]) (fun M' g1 g2 g3 => k M' g1 (fun j hj => by rw [g2 j hj, e2, if_neg hj]) g3) hm0
theorem num_c {M : Mm} {Q : Int → Mm → Prop} {tl least most p : Int} {t : Int → Int} (ht : TxC M tl t) (p0 : 0 ≤ p) (p1 : p ≤ tl) (hl : 0 ≤ least ∧ least ≤ 1) (hm : 1 ≤ most ∧ most ≤ 999) (hp : M 114 1 = p) (hf : M 114 2 = 0)
    (kn : num t tl least most p = none → ∀ M' : Mm, frS M M' → (∀ j, j ≠ 2 → M' 114 j = M 114 j) → M' 114 2 = 1 → Q 0 M') (ks : ∀ x p', num t tl least most p = some (x, p') → ∀ M' : Mm, frS M M' → (∀ j, j ≠ 1 → M' 114 j = M 114 j) → M' 114 1 = p' → Q x M') : p_X1_readNumber gC 114 111 least most M Q := by
  have htl := ht.2.1
  have htl2 := ht.2.2.1
  have hd := dgt_in (c := chrT t tl p)
  have fault : (dgt (chrT t tl p) = -5 ∨ dgt (chrT t tl p) < least ∨ most < dgt (chrT t tl p)) → ∀ M3 : Mm, M3 = mu M 114 2 1 → Q 0 M3 := fun hc M3 e => by
    refine kn (by unfold num; rw [if_pos hc]) M3 (fun o ho => by rw [e, mu_ne ho]) (fun j hj => ?_) ?_
    · rw [e, mu_eq]; show (if j = 2 then 1 else M 114 j) = _; rw [if_neg hj]
    · rw [e, mu_eq]; rfl
  unfold p_X1_readNumber
  rw [hf, hp]
  refine ⟨inR0, fun _ => dgt_c ht (inR_s (by omega) (by omega)) ⟨inR_s (by omega) (by omega), fun h => fault (Or.inl h), fun hne => ?_⟩, fun z => absurd rfl z⟩
  refine within_c (inR_s (by omega) (by omega)) (inR_s (by omega) (by omega)) (inR_s (by omega) (by omega)) (fun z0 z1 => ⟨inR1, fun _ M2 e => ⟨62, ?_⟩, fun z => absurd z (by decide)⟩) (fun q => ⟨inR0, fun z => absurd rfl z, fun _ => fault (Or.inr q)⟩)
  have f2 : frS M M2 := fun o ho => by rw [e, mu_ne ho]
  have e2 : ∀ j, M2 114 j = if j = 1 then p + 1 else M 114 j := fun j => by rw [e, mu_eq, hp]
  have hlt := dgt_lt hne
  refine nm_c ht (by omega) 61 _ (p + 1) M2 (by omega) (by omega) (by omega) (by omega) (by omega) f2 (by rw [e2, if_pos rfl]) (fun M' g1 g2 g3 => ?_) (by omega)
  exact ks _ _ (by unfold num; rw [if_neg (by omega)]) M' g1 (fun j hj => by rw [g2 j hj, e2, if_neg hj]) g3
theorem num_f {M : Mm} {Q : Int → Mm → Prop} {least most : Int} (hf : M 114 2 = 1) (k : Q 0 M) : p_X1_readNumber gC 114 111 least most M Q := by
  unfold p_X1_readNumber
  rw [hf]
  exact ⟨inR1, fun z => absurd z (by decide), fun _ => k⟩
theorem sgn_f {M : Mm} {Q : Mm → Prop} {x : Int} (hf : M 114 2 = 1) (k : Q M) : p_X1_readSign gC 114 111 x M Q := by
  unfold p_X1_readSign
  rw [hf]
  exact ⟨inR1, fun z => absurd z (by decide), fun _ => k⟩
theorem sgn_c {M : Mm} {Q : Mm → Prop} {tl p x : Int} {t : Int → Int} (ht : TxC M tl t) (p0 : 0 ≤ p) (p1 : p ≤ tl) (hx : inR x) (hp : M 114 1 = p) (hf : M 114 2 = 0)
    (kn : chrT t tl p ≠ x → ∀ M' : Mm, frS M M' → (∀ j, j ≠ 2 → M' 114 j = M 114 j) → M' 114 2 = 1 → Q M') (ks : chrT t tl p = x → ∀ M' : Mm, frS M M' → (∀ j, j ≠ 1 → M' 114 j = M 114 j) → M' 114 1 = p + 1 → Q M') : p_X1_readSign gC 114 111 x M Q := by
  have htl := ht.2.1
  have htl2 := ht.2.2.1
  have hc := chr_in ht (p := p)
  unfold p_X1_readSign
  rw [hf, hp]
  refine ⟨inR0, fun _ => chr_c ht (inR_s (by omega) (by omega)) ⟨inR_s (by omega) (by omega), hx, fun hne M3 e => ?_, fun he M3 e => ?_⟩, fun z => absurd rfl z⟩
  · refine kn hne M3 (fun o ho => by rw [e, mu_ne ho]) (fun j hj => ?_) ?_
    · rw [e, mu_eq]; show (if j = 2 then 1 else M 114 j) = _; rw [if_neg hj]
    · rw [e, mu_eq]; rfl
  · refine ks he M3 (fun o ho => by rw [e, mu_ne ho]) (fun j hj => ?_) ?_
    · rw [e, mu_eq]; show (if j = 1 then _ else M 114 j) = _; rw [if_neg hj]
    · rw [e, mu_eq]; show M 114 1 + 1 = p + 1; rw [hp]
