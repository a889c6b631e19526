/-! PURE: the reference reads a text of cues -/
def frQ (N N' : Mm) : Prop := (∀ o, o ≠ 0 → o ≠ 17 → N' o = N o) ∧ ∀ j : Int, j ≠ 21 → j ≠ 22 → j ≠ 24 → N' 0 j = N 0 j
theorem frQ.tr {A B C : Mm} (h : frQ A B) (h2 : frQ B C) : frQ A C := ⟨fun o ho h17 => (h2.1 o ho h17).trans (h.1 o ho h17), fun j h0 h1 h3 => (h2.2 j h0 h1 h3).trans (h.2 j h0 h1 h3)⟩
def St (N : Mm) (c : Int) (W : Int → Int) (A : Mm) : Prop := frQ N A ∧ A 0 24 = c ∧ A 17 = W
theorem St.p {N A B : Mm} {c : Int} {W : Int → Int} (h : St N c W A) (f : frP A B) : St N c W B := by
  obtain ⟨h1, h2, h3⟩ := h
  refine ⟨h1.tr ⟨fun o ho _ => f.1 o ho, fun j j1 j2 _ => f.2 j j1 j2⟩, ?_, ?_⟩
  · rw [f.2 24 (by decide) (by decide)]; exact h2
  · rw [f.1 17 (by decide)]; exact h3
theorem St.w {N A B : Mm} {c i v : Int} {W : Int → Int} (h : St N c W A) (e : B = mu A 17 i v) : St N c (up W i v) B := by
  obtain ⟨h1, h2, h3⟩ := h
  refine ⟨h1.tr ⟨fun o ho h17 => by rw [e, mu_ne h17], fun j j1 j2 _ => by rw [e, mu_ne (by omega)]⟩, ?_, ?_⟩
  · rw [e, mu_ne (by omega)]; exact h2
  · rw [e, mu_eq, h3]; rfl
theorem TxM.q {N N' : Mm} {tl : Int} {t : Int → Int} (h : TxM N tl t) (f : frQ N N') : TxM N' tl t := by
  unfold TxM at h ⊢
  rw [f.2 20 (by decide) (by decide) (by decide), f.1 16 (by decide) (by decide)]; exact h
def qR (N : Mm) (i : Int) : Cu := (N 17 (4 * i + 1), N 17 (4 * i + 0), N 17 (4 * i + 2), N 17 (4 * i + 3))
def RdL (N : Mm) (P : List Cu) : Prop := N 0 24 = (P.length : Int) ∧ ∀ (i : Nat) (q : Cu), P[i]? = some q → qR N i = q
theorem rc_m {N : Mm} {Q : Int → Mm → Prop} {tl p : Int} {t : Int → Int} {P : List Cu} (ht : TxM N tl t) (tv : TV t tl) (p0 : 0 ≤ p) (p1 : p ≤ tl) (hp : N 0 21 = p) (hP : RdL N P) (hl : P.length ≤ 14)
    (kf : ∀ e, pcue t tl p = .inl e → ∀ N' : Mm, frQ N N' → N' 0 21 = e → Q 0 N')
    (ks : ∀ q p', pcue t tl p = .inr (q, p') → ∀ N' : Mm, frQ N N' → N' 0 21 = p' → RdL N' (P ++ [q]) → Q 1 N') : p_X8_readsCue gM 0 N Q := by
  have tv1 := tv.1
  have tv2 := tv.2.1
  have hc := hP.1
  have S0 : St N (P.length : Int) (N 17) N := ⟨⟨fun _ _ _ => rfl, fun _ _ _ _ => rfl⟩, hc, rfl⟩
  unfold p_X8_readsCue
  simp only [Nat.zero_add, l17]
  rw [hc]
  refine num_m ht tv p0 p1 (by decide) (by decide) hp (fun hn => ⟨inR0, fun z => absurd rfl z, fun _ => kf p (by simp only [pcue, hn]) N S0.1 hp⟩) (fun s q1 hn N1 f1 z1 x1 => ⟨inR1, fun _ => ⟨by omega, by omega, fun N4 e4 => ?_⟩, fun z => absurd z (by decide)⟩)
  have n1 := num_in (by decide) hn
  have S4 := (S0.p f1).w e4
  have z4 : N4 0 21 = q1 := by rw [e4, mu_ne (by decide)]; exact z1
  refine takes_m (ht.q S4.1) tv (by omega) n1.2.2.2.1 z4 (by decide) (fun h5 N5 f5 z5 y5 => ⟨inR0, fun _ => kf q1 (by simp only [pcue, hn, if_neg h5]) N5 (S4.p f5).1 z5, fun z => absurd rfl z⟩) (fun h5 lt5 N5 f5 z5 y5 => ⟨inR1, fun z => absurd z (by decide), fun _ => ?_⟩)
  have S5 := S4.p f5
  refine num_m (ht.q S5.1) tv (by omega) (by omega) (by decide) (by decide) z5 (fun hk => ⟨inR0, fun z => absurd rfl z, fun _ => kf (q1 + 1) (by simp only [pcue, hn, if_pos h5, hk]) N5 S5.1 z5⟩) (fun k q2 hk N7 f7 z7 x7 => ⟨inR1, fun _ => ⟨by omega, by omega, fun N10 e10 => ?_⟩, fun z => absurd z (by decide)⟩)
  have n2 := num_in (by decide) hk
  have S10 := (S5.p f7).w e10
  have z10 : N10 0 21 = q2 := by rw [e10, mu_ne (by decide)]; exact z7
  refine takes_m (ht.q S10.1) tv (by omega) n2.2.2.2.1 z10 (by decide) (fun h11 N11 f11 z11 y11 => ⟨inR0, fun _ => kf q2 (by simp only [pcue, hn, if_pos h5, hk, if_neg h11]) N11 (S10.p f11).1 z11, fun z => absurd rfl z⟩) (fun h11 lt11 N11 f11 z11 y11 => ⟨inR1, fun z => absurd z (by decide), fun _ => ?_⟩)
  have S11 := S10.p f11
  refine num_m (ht.q S11.1) tv (by omega) (by omega) (by decide) (by decide) z11 (fun hd => ⟨inR0, fun z => absurd rfl z, fun _ => kf (q2 + 1) (by simp only [pcue, hn, if_pos h5, hk, if_pos h11, hd]) N11 S11.1 z11⟩) (fun d q3 hd N13 f13 z13 x13 => ⟨inR1, fun _ => ⟨by omega, by omega, fun N16 e16 N17 e17 => ?_⟩, fun z => absurd z (by decide)⟩)
  have n3 := num_in (by decide) hd
  have S16 := (S11.p f13).w e16
  have f17 : frP N16 N17 := ⟨fun o ho => by rw [e17, mu_ne ho], fun j j1 j2 => by rw [e17, mu_eq]; exact if_neg j2⟩
  have S17 := S16.p f17
  have z17 : N17 0 21 = q3 := by rw [e17, mu_eq]; show (if (21 : Int) = 22 then _ else N16 0 21) = _; rw [if_neg (by decide), e16, mu_ne (by decide)]; exact z13
  have x17 : N17 0 22 = 1 := by rw [e17, mu_eq]; exact if_pos rfl
  rw [x1] at S4 S5 S10 S11 S16 S17
  rw [x7] at S10 S11 S16 S17
  rw [x13] at S16 S17
  -- the end
  have fin : ∀ (w p' : Int) (A : Mm), pcue t tl p = .inr ((k, s, d, w), p') → St N (P.length : Int) (up (up (up (N 17) (4 * (P.length : Int) + 0) s) (4 * (P.length : Int) + 1) k) (4 * (P.length : Int) + 2) d) A → A 0 21 = p' → A 0 22 = w → p_X8_readsCue_J123 gM 0 (4 * (P.length : Int)) A Q := fun w p' A he SA hz hw => by
    unfold p_X8_readsCue_J123
    simp only [Nat.zero_add, l17]
    refine ⟨by omega, by omega, fun B eB C eC => ?_⟩
    have SB := SA.w eB
    rw [hw] at SB
    obtain ⟨b1, b2, b3⟩ := SB
    have c17 : C 17 = B 17 := by rw [eC, mu_ne (by decide)]
    refine ks _ p' he C (b1.tr ⟨fun o ho _ => by rw [eC, mu_ne ho], fun j _ _ j3 => by rw [eC, mu_eq]; exact if_neg j3⟩) ?_ ⟨?_, fun i q hi => ?_⟩
    · rw [eC, mu_eq]; show (if (21 : Int) = 24 then _ else B 0 21) = _
      rw [if_neg (by decide), eB, mu_ne (by decide)]; exact hz
    · rw [eC, mu_eq]; show (if (24 : Int) = 24 then B 0 24 + 1 else _) = _
      rw [if_pos rfl, b2, List.length_append]; rfl
    · unfold qR
      rw [c17, b3]
      by_cases hil : i < P.length
      · rw [List.getElem?_append_left hil] at hi
        have := hP.2 i q hi
        unfold qR at this
        simp (disch := omega) only [up_ne]
        exact this
      · have hie : i = P.length := by
          have := (List.getElem?_eq_some_iff.mp hi).1
          simp at this; omega
        rw [hie] at hi ⊢
        have : (k, s, d, w) = q := by simpa using hi
        rw [← this]
        simp (disch := omega) only [up_ne, up_eq]
  refine takes_m (ht.q S17.1) tv (by omega) n3.2.2.2.1 z17 (by decide) (fun h18 N18 f18 z18 y18 => ⟨inR0, fun _ => fin 1 q3 N18 (by simp only [pcue, hn, if_pos h5, hk, if_pos h11, hd, if_neg h18]) (S17.p f18) z18 (by rw [y18, x17]), fun z => absurd rfl z⟩) (fun h18 lt18 N18 f18 z18 y18 => ⟨inR1, fun z => absurd z (by decide), fun _ => ?_⟩)
  have S18 := S17.p f18
  refine num_m (ht.q S18.1) tv (by omega) (by omega) (by decide) (by decide) z18 (fun hw => ⟨inR0, fun z => absurd rfl z, fun _ => kf (q3 + 1) (by simp only [pcue, hn, if_pos h5, hk, if_pos h11, hd, if_pos h18, hw]) N18 S18.1 z18⟩) (fun w q4 hw N23 f23 z23 x23 => ⟨inR1, fun _ => fin w q4 N23 (by simp only [pcue, hn, if_pos h5, hk, if_pos h11, hd, if_pos h18, hw]) (S18.p f23) z23 x23, fun z => absurd z (by decide)⟩)
theorem ft_l {N0 : Mm} {Q : Int → Mm → Prop} {tl : Int} {t : Int → Int} (ht : TxM N0 tl t) (tv : TV t tl) {r : Int ⊕ List Cu}
    (kf : ∀ e, 0 ≤ e → e ≤ tl → r = .inl e → ∀ N' : Mm, frQ N0 N' → Q e N') (ks : ∀ P, r = .inr P → (∀ q ∈ P, vq q) → P.length ≤ 12 → ∀ N' : Mm, frQ N0 N' → RdL N' P → Q (-5) N') :
    ∀ (f : Nat) (p : Int) (P : List Cu) (N : Mm), tl - p < f → 0 ≤ p → p ≤ tl → frQ N0 N → N 0 21 = p → RdL N P → (∀ q ∈ P, vq q) → 5 * (P.length : Int) ≤ p → pall t tl f p P = r → p_X8_fault_L12 gM (f + 1) 0 1 N Q := by
  have tv1 := tv.1
  have tv2 := tv.2.1
  intro f
  induction f with
  | zero => intro p P N h1 h2 h3; omega
  | succ f ih =>
    intro p P N hf p0 p1 fr hp hP hv hl hr
    have htN := ht.q fr
    unfold p_X8_fault_L12
    refine ⟨inR1, fun z => absurd z (by decide), fun _ => rc_m htN tv p0 p1 hp hP (by omega) (fun e he N1 f1 z1 => ⟨inR0, fun z => absurd rfl z, fun _ => ?_⟩) (fun q p' he N1 f1 z1 hP1 => ⟨inR1, fun _ => ?_, fun z => absurd z (by decide)⟩)⟩
    · have := pcue_f p1 he
      rw [z1]
      exact kf e (by omega) (by omega) (by rw [← hr]; simp only [pall, he]) N1 (fr.tr f1)
    · obtain ⟨hq, q1, q2, -⟩ := pcue_in he
      have fr1 := fr.tr f1
      have ht1 := ht.q fr1
      have hvs : ∀ y ∈ P ++ [q], vq y := fun y hy => by
        rcases List.mem_append.mp hy with h | h
        · exact hv y h
        · have : y = q := by simpa using h
          rw [this]; exact hq
      have hl1 : (P ++ [q]).length = P.length + 1 := by simp
      refine takes_m ht1 tv (by omega) q2 z1 (by decide) (fun hne N2 f2 z2 _ => ?_) (fun heq hlt N2 f2 z2 _ => ?_)
      · have fr2 : frQ N0 N2 := fr1.tr ⟨fun o ho _ => f2.1 o ho, fun j j1 j2 _ => f2.2 j j1 j2⟩
        obtain ⟨g, hg⟩ : ∃ g, f + 1 = g + 1 := ⟨f, rfl⟩
        unfold p_X8_fault_L12
        rw [z2, (ht.q fr2).1]
        refine ⟨inR0, fun _ => ⟨inR_s (by omega) (by omega), inR_s (by omega) (by omega), fun hn => ?_, fun hq => ?_⟩, fun z => absurd rfl z⟩
        · exact kf p' (by omega) q2 (by rw [← hr]; simp only [pall, he, if_neg (show ¬ tl ≤ p' by omega), if_neg hne]) N2 fr2
        · refine ks (P ++ [q]) (by rw [← hr]; simp only [pall, he, if_pos (show tl ≤ p' by omega)]) hvs (by omega) N2 fr2 ⟨?_, fun i y hy => ?_⟩
          · rw [f2.2 24 (by decide) (by decide)]; exact hP1.1
          · have := hP1.2 i y hy
            unfold qR at this ⊢
            rw [f2.1 17 (by decide)]; exact this
      · have fr2 : frQ N0 N2 := fr1.tr ⟨fun o ho _ => f2.1 o ho, fun j j1 j2 _ => f2.2 j j1 j2⟩
        refine ih (p' + 1) (P ++ [q]) N2 (by omega) (by omega) (by omega) fr2 z2 ⟨?_, fun i y hy => ?_⟩ hvs (by omega) ?_
        · rw [f2.2 24 (by decide) (by decide)]; exact hP1.1
        · have := hP1.2 i y hy
          unfold qR at this ⊢
          rw [f2.1 17 (by decide)]; exact this
        · rw [← hr]; simp only [pall, he, if_neg (show ¬ tl ≤ p' by omega), if_pos heq]
