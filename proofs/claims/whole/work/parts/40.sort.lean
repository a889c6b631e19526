/-! PURE: lists in their order; the class's sorting -/
def lR (x y : Cu) : Prop := rq x < rq y
def nR (x y : Cu) : Prop := rq x ≠ rq y
/-- two lists in order with the same cues are the same -/
theorem srt_uniq : ∀ (A B : List Cu), A.Pairwise lR → B.Pairwise lR → (∀ q, q ∈ A ↔ q ∈ B) → A = B
  | [], [], _, _, _ => rfl
  | [], y :: B, _, _, h => absurd ((h y).mpr List.mem_cons_self) List.not_mem_nil
  | x :: A, [], _, _, h => absurd ((h x).mp List.mem_cons_self) List.not_mem_nil
  | x :: A, y :: B, hA, hB, h => by
    obtain ⟨a1, a2⟩ := List.pairwise_cons.mp hA
    obtain ⟨b1, b2⟩ := List.pairwise_cons.mp hB
    have hxy : x = y := by
      rcases List.mem_cons.mp ((h x).mp List.mem_cons_self) with e | e
      · exact e
      · rcases List.mem_cons.mp ((h y).mpr List.mem_cons_self) with e2 | e2
        · exact e2.symm
        · have z1 : rq y < rq x := b1 x e
          have z2 : rq x < rq y := a1 y e2
          omega
    subst hxy
    congr 1
    refine srt_uniq A B a2 b2 (fun q => ⟨fun hq => ?_, fun hq => ?_⟩)
    · rcases List.mem_cons.mp ((h q).mp (List.mem_cons_of_mem _ hq)) with e | e
      · have z : rq x < rq q := a1 q hq
        rw [e] at z; omega
      · exact e
    · rcases List.mem_cons.mp ((h q).mpr (List.mem_cons_of_mem _ hq)) with e | e
      · have z : rq x < rq q := b1 q hq
        rw [e] at z; omega
      · exact e
theorem pw_n {L : List Cu} (h : L.Pairwise lR) : L.Pairwise nR := h.imp (fun {x y} (h : rq x < rq y) => (by show rq x ≠ rq y; omega))
/-- neighbours of a list of the class change places -/
theorem CL_swap {M M' : Mm} {b : Nat} {A R : List Cu} {x y : Cu} (h : CL M b (A ++ y :: x :: R)) (fr : frB b M M') (hq : ∀ c, qM M' b c = if c = ((A.length + 1 : Nat) : Int) then qM M b ((A.length : Nat) : Int) else if c = ((A.length : Nat) : Int) then qM M b ((A.length + 1 : Nat) : Int) else qM M b c) : CL M' b (A ++ x :: y :: R) := by
  obtain ⟨h1, h2⟩ := h
  have g0 : (A ++ y :: x :: R)[A.length]? = some y := by rw [List.getElem?_append_right (Nat.le_refl _), Nat.sub_self]; rfl
  have g1 : (A ++ y :: x :: R)[A.length + 1]? = some x := by rw [List.getElem?_append_right (by omega), show A.length + 1 - A.length = 1 by omega]; rfl
  refine ⟨?_, fun i q hi => ?_⟩
  · rw [fr b (by omega) (by omega) (by omega) (by omega), h1]; simp
  · rw [hq]
    by_cases c1 : i = A.length + 1
    · subst c1
      rw [if_pos rfl, h2 _ _ g0]
      rw [List.getElem?_append_right (by omega), show A.length + 1 - A.length = 1 by omega] at hi
      exact Option.some.inj hi
    · by_cases c0 : i = A.length
      · subst c0
        rw [if_neg (by omega), if_pos rfl, h2 _ _ g1]
        rw [List.getElem?_append_right (Nat.le_refl _), Nat.sub_self] at hi
        exact Option.some.inj hi
      · rw [if_neg (by omega), if_neg (by omega)]
        refine h2 i q ?_
        by_cases hl : i < A.length
        · rw [List.getElem?_append_left hl] at hi ⊢; exact hi
        · rw [List.getElem?_append_right (by omega)] at hi ⊢
          obtain ⟨d, hd⟩ : ∃ d, i - A.length = d + 2 := ⟨i - A.length - 2, by omega⟩
          rw [hd] at hi ⊢
          exact hi
theorem ord_c {M : Mm} {Q : Int → Mm → Prop} {b n : Nat} {L : List Cu} {i : Nat} {q : Cu} (hb : cap b n) (hL : CL M b L) (hn : L.length ≤ n) (hi : L[i]? = some q) (k : Q (rq q) M) : p_X0_order gC b (i : Int) M Q := by
  have hlt := (List.getElem?_eq_some_iff.mp hi).1
  have e := hL.2 i q hi
  unfold p_X0_order
  refine get_c (by omega) (by rw [hb.1]; omega) (get_c (by omega) (by rw [hb.2.1]; omega) (get_c (by omega) (by rw [hb.2.2.1]; omega) ?_))
  have : (((M (b + 1 + 1) (i : Int) * 6 + M (b + 3 + 1) (i : Int)) * 10) + M (b + 5 + 1) (i : Int)) = rq q := by rw [← e]; rfl
  rw [this]; exact k
def rgq (L : List Cu) : Prop := ∀ q ∈ L, inR (rq q)
/-- one cue comes to its place among those ahead of it -/
theorem mtp_l {Q : Mm → Prop} {b n : Nat} (hb : cap b n) (x : Cu) (R : List Cu) (M0 : Mm) (hx : inR (rq x)) (A0 : List Cu) (hn : A0.length + 1 + R.length ≤ n) (hn2 : n ≤ 1000) (hr : rgq A0) (k : ∀ (M' : Mm) (S : List Cu), frB b M0 M' → CL M' b (S ++ R) → S.length = A0.length + 1 → S.Pairwise lR → (∀ q, q ∈ S ↔ q = x ∨ q ∈ A0) → Q M') :
    ∀ (f : Nat) (A1 A2 : List Cu) (M : Mm), A1.length < f → A0 = A1 ++ A2 → (A1 ++ A2).Pairwise lR → (∀ q ∈ A1 ++ A2, rq q ≠ rq x) → (∀ q ∈ A2, rq x < rq q) → frB b M0 M → CL M b (A1 ++ x :: A2 ++ R) → p_X0_moveToItsPlace_L2 gC f b (A1.length : Int) M Q := by
  intro f
  induction f with
  | zero => intro A1 A2 M hf; omega
  | succ f ih =>
    intro A1 A2 M hf hA hs hne h2 fr hC
    have hlen : A0.length = A1.length + A2.length := by rw [hA, List.length_append]
    have hle : (A1 ++ x :: A2 ++ R).length ≤ n := by
      rw [List.length_append, List.length_append, List.length_cons]; omega
    -- the end: x stands behind A1
    have fin : (∀ q ∈ A1, rq q < rq x) → Q M := by
      intro h1
      refine k M (A1 ++ x :: A2) fr hC (by rw [List.length_append, List.length_cons]; omega) ?_ (fun q => ?_)
      · rw [List.pairwise_append] at hs ⊢
        refine ⟨hs.1, List.pairwise_cons.mpr ⟨h2, hs.2.1⟩, fun u hu v hv => ?_⟩
        rcases List.mem_cons.mp hv with e | e
        · rw [e]; exact h1 u hu
        · exact hs.2.2 u hu v e
      · rw [hA, List.mem_append, List.mem_cons, List.mem_append]
        constructor
        · rintro (h | h | h)
          · exact Or.inr (Or.inl h)
          · exact Or.inl h
          · exact Or.inr (Or.inr h)
        · rintro (h | h | h)
          · exact Or.inr (Or.inl h)
          · exact Or.inl h
          · exact Or.inr (Or.inr h)
    unfold p_X0_moveToItsPlace_L2
    rcases List.eq_nil_or_concat A1 with rfl | ⟨B, y, rfl⟩
    · refine ⟨inR0, fun _ => fin (fun q hq => absurd hq List.not_mem_nil), fun h => absurd h (by show ¬ (0 : Int) < ((0 : Nat) : Int); omega)⟩
    · rw [List.concat_eq_append] at *
      have hBl : (B ++ [y]).length = B.length + 1 := by simp
      have gx : (B ++ [y] ++ x :: A2 ++ R)[B.length + 1]? = some x := by
        rw [List.append_assoc, List.append_assoc, List.getElem?_append_right (by omega), show B.length + 1 - B.length = 1 by omega]; rfl
      have gy : (B ++ [y] ++ x :: A2 ++ R)[B.length]? = some y := by
        rw [List.append_assoc, List.append_assoc, List.getElem?_append_right (Nat.le_refl _), Nat.sub_self]; rfl
      have hyr : inR (rq y) := hr y (by rw [hA]; simp)
      have hyne : rq y ≠ rq x := hne y (by simp)
      rw [hBl] at hf hlen ⊢
      refine ⟨inR_s (by omega) (by omega), fun h => absurd h (by omega), fun _ => ?_⟩
      refine ord_c hb hC hle gx ?_
      rw [show ((B.length + 1 : Nat) : Int) - 1 = ((B.length : Nat) : Int) by omega]
      refine ord_c hb hC hle gy ⟨hx, hyr, fun hle2 => ?_, fun hlt => swp_c hb (by omega) (by omega) (by omega) (by omega) (fun M2 fr2 hq => ?_)⟩
      · refine fin (fun q hq => ?_)
        rcases List.mem_append.mp hq with h | h
        · have hs2 := hs
          rw [List.append_assoc, List.pairwise_append] at hs2
          have : lR q y := hs2.2.2 q h y (by simp)
          have z : rq q < rq y := this
          omega
        · rw [List.mem_singleton] at h
          rw [h]; omega
      · have hC1 : CL M b (B ++ y :: x :: (A2 ++ R)) := by
          rw [show B ++ y :: x :: (A2 ++ R) = B ++ [y] ++ x :: A2 ++ R by simp]; exact hC
        have hC2 := CL_swap hC1 fr2 hq
        rw [show ((B.length + 1 : Nat) : Int) + -1 = ((B.length : Nat) : Int) by omega]
        refine ih B (y :: A2) M2 (by omega) (by rw [hA]; simp) (by rw [show B ++ y :: A2 = B ++ [y] ++ A2 by simp]; exact hs) (fun q hq => hne q (by rw [show B ++ [y] ++ A2 = B ++ y :: A2 by simp]; exact hq)) (fun q hq => ?_) (fr.tr fr2) (by rw [show B ++ x :: (y :: A2) ++ R = B ++ x :: y :: (A2 ++ R) by simp]; exact hC2)
        rcases List.mem_cons.mp hq with e | e
        · rw [e]; exact hlt
        · exact h2 q e
theorem pio_l {Q : Mm → Prop} {b n : Nat} (hb : cap b n) (L : List Cu) (M0 : Mm) (hn : L.length ≤ n) (hn2 : n ≤ 1000) (hr : rgq L) (k : ∀ (M' : Mm) (S : List Cu), frB b M0 M' → CL M' b S → S.length = L.length → S.Pairwise lR → (∀ q, q ∈ S ↔ q ∈ L) → Q M') :
    ∀ (f : Nat) (S R : List Cu) (M : Mm), R.length < f → S.length + R.length = L.length → S.Pairwise lR → (S ++ R).Pairwise nR → (∀ q, q ∈ S ++ R ↔ q ∈ L) → frB b M0 M → CL M b (S ++ R) → p_X0_putInOrder_L2 gC f b (S.length : Int) M Q := by
  intro f
  induction f with
  | zero => intro S R M hf; omega
  | succ f ih =>
    intro S R M hf hl hS hN hm fr hC
    have e5 : M b 5 = (L.length : Int) := by
      have := hC.1
      rw [List.length_append] at this; omega
    unfold p_X0_putInOrder_L2
    rw [e5]
    refine ⟨inR_s (by omega) (by omega), inR_s (by omega) (by omega), fun hge => ?_, fun hlt => ?_⟩
    · have hR : R = [] := List.length_eq_zero_iff.mp (by omega)
      subst hR
      rw [List.append_nil] at hC hm
      exact k M S fr hC (by simpa using hl) hS hm
    · obtain ⟨x, R', rfl⟩ : ∃ x R', R = x :: R' := by
        cases R with
        | nil => rw [List.length_nil] at hl; omega
        | cons x R' => exact ⟨x, R', rfl⟩
      rw [List.length_cons] at hl hf
      obtain ⟨n1, n2, n3⟩ := List.pairwise_append.mp hN
      obtain ⟨n4, n5⟩ := List.pairwise_cons.mp n2
      unfold p_X0_moveToItsPlace
      refine ⟨S.length + 1, mtp_l (n := n) hb x R' M (hr x ((hm x).mp (by simp))) S (by omega) hn2 (fun q hq => hr q ((hm q).mp (List.mem_append_left _ hq))) (fun M2 S2 fr2 hC2 hl2 hS2 hm2 => ?_) (S.length + 1) S [] M (by omega) (by simp) (by simpa using hS) (fun q hq => ?_) (fun q hq => absurd hq List.not_mem_nil) (fun _ _ _ _ _ => rfl) (by simpa using hC)⟩
      · rw [show (S.length : Int) + 1 = (S2.length : Int) by omega]
        refine ih S2 R' M2 (by omega) (by omega) hS2 ?_ (fun q => ?_) (fr.tr fr2) hC2
        · rw [List.pairwise_append]
          refine ⟨pw_n hS2, n5, fun u hu v hv => ?_⟩
          rcases (hm2 u).mp hu with e | e
          · rw [e]; exact n4 v hv
          · exact n3 u e v (List.mem_cons_of_mem _ hv)
        · rw [← hm q, List.mem_append, List.mem_append, List.mem_cons, hm2 q]
          constructor
          · rintro ((h | h) | h)
            · exact Or.inr (Or.inl h)
            · exact Or.inl h
            · exact Or.inr (Or.inr h)
          · rintro (h | h | h)
            · exact Or.inl (Or.inr h)
            · exact Or.inl (Or.inl h)
            · exact Or.inr h
      · have hq' : q ∈ S := by simpa using hq
        exact n3 q hq' x (by simp)
/-- the class puts its cues in their order -/
theorem pio_c {Q : Mm → Prop} {b n : Nat} {L : List Cu} {M : Mm} (hb : cap b n) (hL : CL M b L) (hn : L.length ≤ n) (hn2 : n ≤ 1000) (hr : rgq L) (hN : L.Pairwise nR) (k : ∀ (M' : Mm) (S : List Cu), frB b M M' → CL M' b S → S.length = L.length → S.Pairwise lR → (∀ q, q ∈ S ↔ q ∈ L) → Q M') : p_X0_putInOrder gC b M Q := by
  unfold p_X0_putInOrder
  cases L with
  | nil =>
    refine ⟨1, ?_⟩
    unfold p_X0_putInOrder_L2
    have e5 : M b 5 = 0 := hL.1
    rw [e5]
    exact ⟨inR1, inR0, fun _ => k M [] (fun _ _ _ _ _ => rfl) hL rfl List.Pairwise.nil (fun q => Iff.rfl), fun h => absurd h (by decide)⟩
  | cons x R =>
    rw [List.length_cons] at hn
    exact ⟨R.length + 1, pio_l hb (x :: R) M (by rw [List.length_cons]; omega) hn2 hr k (R.length + 1) [x] R M (by omega) (by simp; omega) (by simp) hN (fun q => Iff.rfl) (fun _ _ _ _ _ => rfl) hL⟩
