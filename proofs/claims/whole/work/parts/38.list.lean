/-! PURE: cues as lists -/
abbrev Cu : Type := Int × Int × Int × Int
def qM (M : Mm) (b : Nat) (c : Int) : Cu := (M (b + 1 + 1) c, M (b + 3 + 1) c, M (b + 5 + 1) c, M (b + 7 + 1) c)
def qA (a : Int → Int) (c : Int) : Cu := (tk a c, sc a c, sd a c, la a c)
def CL (M : Mm) (b : Nat) (L : List Cu) : Prop := M b 5 = (L.length : Int) ∧ ∀ (i : Nat) (q : Cu), L[i]? = some q → qM M b i = q
def AL (a : Int → Int) (L : List Cu) : Prop := a 36 = (L.length : Int) ∧ ∀ (i : Nat) (q : Cu), L[i]? = some q → qA a i = q
def LA (a : Int → Int) : List Cu := (List.range (a 36).toNat).map (fun i : Nat => qA a (i : Int))
def rq (q : Cu) : Int := rk q.1 q.2.1 q.2.2.1
def vq (q : Cu) : Prop := (0 ≤ q.1 ∧ q.1 ≤ 999) ∧ (0 ≤ q.2.1 ∧ q.2.1 ≤ 5) ∧ (0 ≤ q.2.2.1 ∧ q.2.2.1 ≤ 9) ∧ 1 ≤ q.2.2.2 ∧ q.2.2.2 ≤ 20
def VL (L : List Cu) : Prop := L.length ≤ 40 ∧ (∀ q ∈ L, vq q) ∧ L.Pairwise (fun x y => rq x < rq y)
def SO (a a' : Int → Int) : Prop := ∀ k : Int, 0 ≤ k → k < 41 → k ≠ 36 → a' k = a k
theorem LA_len {a : Int → Int} : (LA a).length = (a 36).toNat := by simp [LA]
theorem LA_get {a : Int → Int} {i : Nat} (h : i < (a 36).toNat) : (LA a)[i]? = some (qA a i) := by simp [LA, h]
theorem LA_inv {a : Int → Int} {i : Nat} {q : Cu} (h : (LA a)[i]? = some q) : i < (a 36).toNat ∧ q = qA a i := by
  have hi : i < (a 36).toNat := by
    have := (List.getElem?_eq_some_iff.mp h).1
    rwa [LA_len] at this
  rw [LA_get hi] at h
  exact ⟨hi, (Option.some.inj h).symm⟩
theorem AL_LA {a : Int → Int} (h : 0 ≤ a 36) : AL a (LA a) := ⟨by rw [LA_len]; omega, fun i q hq => (LA_inv hq).2.symm⟩
theorem AL_eq {a : Int → Int} {L : List Cu} (h : AL a L) : LA a = L := by
  apply List.ext_getElem?
  intro i
  have hl : (a 36).toNat = L.length := by have := h.1; omega
  by_cases hi : i < L.length
  · rw [LA_get (by omega), List.getElem?_eq_getElem hi, h.2 i L[i] (List.getElem?_eq_getElem hi)]
  · rw [List.getElem?_eq_none (by rw [LA_len]; omega), List.getElem?_eq_none (by omega)]
theorem rk_mono {a : Int → Int} (hV : VR a) : ∀ (d i : Nat), (i : Int) + d + 1 < a 36 → rq (qA a i) < rq (qA a ((i + d + 1 : Nat) : Int))
  | 0, i, h => by
    have := hV.2.2.2.2.2.2.2.2 i (by omega) (by omega)
    show rk _ _ _ < rk _ _ _
    rw [show (((i + 0 + 1 : Nat)) : Int) = (i : Int) + 1 by omega]
    exact this
  | d + 1, i, h => by
    have h1 := rk_mono hV d i (by omega)
    have h2 := hV.2.2.2.2.2.2.2.2 ((i + d + 1 : Nat) : Int) (by omega) (by omega)
    have h3 : rq (qA a ((i + d + 1 : Nat) : Int)) < rq (qA a (((i + d + 1 : Nat) : Int) + 1)) := h2
    rw [show (((i + d + 1 : Nat) : Int) + 1) = ((i + (d + 1) + 1 : Nat) : Int) by omega] at h3
    omega
theorem VL_LA {a : Int → Int} (hV : VR a) : VL (LA a) := by
  have h36 := hV.2.2.2.2.2.2.1
  refine ⟨by rw [LA_len]; omega, fun q hq => ?_, ?_⟩
  · obtain ⟨i, hi⟩ := List.getElem?_of_mem hq
    obtain ⟨h1, rfl⟩ := LA_inv hi
    exact hV.2.2.2.2.2.2.2.1 i (by omega) (by omega)
  · rw [List.pairwise_iff_getElem]
    intro i j hi hj hij
    rw [LA_len] at hi hj
    have e1 : (LA a)[i]'(by rw [LA_len]; exact hi) = qA a i := by
      have := LA_get hi; rw [List.getElem?_eq_getElem (by rw [LA_len]; exact hi)] at this; exact Option.some.inj this
    have e2 : (LA a)[j]'(by rw [LA_len]; exact hj) = qA a j := by
      have := LA_get hj; rw [List.getElem?_eq_getElem (by rw [LA_len]; exact hj)] at this; exact Option.some.inj this
    rw [e1, e2]
    have := rk_mono hV (j - i - 1) i (by omega)
    rw [show i + (j - i - 1) + 1 = j by omega] at this
    exact this
/-- a row with other cues is as sound as they are -/
theorem VR_of {a a' : Int → Int} {L : List Cu} (hV : VR a) (hs : SO a a') (hA : AL a' L) (hL : VL L) : VR a' := by
  obtain ⟨v1, v2, v3, v4, v5, v6, v7, v8, v9⟩ := hV
  obtain ⟨l1, l2, l3⟩ := hL
  obtain ⟨a1, a2⟩ := hA
  have e30 := hs 30 (by omega) (by omega) (by omega)
  have q : ∀ c : Int, 0 ≤ c → c < a' 36 → ∃ x, L[c.toNat]? = some x ∧ qA a' c = x := fun c c0 c1 => by
    have hi : c.toNat < L.length := by omega
    refine ⟨L[c.toNat], List.getElem?_eq_getElem hi, ?_⟩
    have := a2 c.toNat _ (List.getElem?_eq_getElem hi)
    rwa [Int.toNat_of_nonneg c0] at this
  refine ⟨fun i i0 i1 => by rw [hs i (by omega) (by omega) (by omega)]; exact v1 i i0 i1, fun i i0 i1 => by rw [hs _ (by omega) (by omega) (by omega)]; exact v2 i i0 i1, fun i i0 i1 => by rw [hs _ (by omega) (by omega) (by omega)]; exact v3 i i0 i1, by rw [e30]; exact v4, fun i i0 i1 => by rw [e30] at i1; rw [hs _ (by omega) (by omega) (by omega)]; exact v5 i i0 i1, by rw [hs 35 (by omega) (by omega) (by omega)]; exact v6, by omega, fun c c0 c1 => ?_, fun c c0 c1 => ?_⟩
  · obtain ⟨x, hx, e⟩ := q c c0 c1
    have := l2 x (List.mem_of_getElem? hx)
    rw [← e] at this
    exact this
  · obtain ⟨x, hx, e⟩ := q c c0 (by omega)
    obtain ⟨y, hy, e2⟩ := q (c + 1) (by omega) c1
    obtain ⟨hx1, hx2⟩ := List.getElem?_eq_some_iff.mp hx
    obtain ⟨hy1, hy2⟩ := List.getElem?_eq_some_iff.mp hy
    have := (List.pairwise_iff_getElem.mp l3) c.toNat (c + 1).toNat hx1 hy1 (by omega)
    rw [hx2, hy2, ← e, ← e2] at this
    exact this
theorem CL_SR {M : Mm} {a : Int → Int} (hS : SR M 1 a) (h : 0 ≤ a 36) : CL M 10 (LA a) := by
  refine ⟨?_, fun i q hq => ?_⟩
  · have : M 10 5 = a 36 := hS.2.2.2.2.2.1
    rw [this, LA_len]; omega
  · obtain ⟨h1, rfl⟩ := LA_inv hq
    obtain ⟨e1, e2, e3, e4⟩ := hS.2.2.2.2.2.2 i (by omega) (by omega)
    show (M (10 + 1 + 1) (i : Int), M (10 + 3 + 1) (i : Int), M (10 + 5 + 1) (i : Int), M (10 + 7 + 1) (i : Int)) = _
    rw [show M (10 + 1 + 1) (i : Int) = tk a i from e1, show M (10 + 3 + 1) (i : Int) = sc a i from e2, show M (10 + 5 + 1) (i : Int) = sd a i from e3, show M (10 + 7 + 1) (i : Int) = la a i from e4]
    rfl
theorem SR_of {M M' : Mm} {a a' : Int → Int} {L : List Cu} (hS : SR M 1 a) (hV : VR a) (hs : SO a a') (hA : AL a' L) (hC : CL M' 10 L) (f : ∀ o, 1 ≤ o → o < 10 → M' o = M o) : SR M' 1 a' := by
  obtain ⟨h1, h2, h3, h4, h5, h6, h7⟩ := hS
  have v4 := hV.2.2.2.1
  have e30 := hs 30 (by omega) (by omega) (by omega)
  refine ⟨fun i i0 i1 => ?_, fun i i0 i1 => ?_, fun i i0 i1 => ?_, fun i i0 i1 => ?_, ?_, ?_, fun c c0 c1 => ?_⟩
  · rw [f _ (by omega) (by omega), hs i (by omega) (by omega) (by omega)]; exact h1 i i0 i1
  · rw [f _ (by omega) (by omega), hs _ (by omega) (by omega) (by omega)]; exact h2 i i0 i1
  · rw [f _ (by omega) (by omega), hs _ (by omega) (by omega) (by omega)]; exact h3 i i0 i1
  · rw [e30] at i1
    rw [f _ (by omega) (by omega), hs _ (by omega) (by omega) (by omega)]; exact h4 i i0 i1
  · rw [f 1 (by omega) (by omega), e30, hs 35 (by omega) (by omega) (by omega), hs 37 (by omega) (by omega) (by omega), hs 38 (by omega) (by omega) (by omega), hs 39 (by omega) (by omega) (by omega), hs 40 (by omega) (by omega) (by omega)]
    exact h5
  · show M' 10 5 = a' 36
    rw [hC.1, hA.1]
  · have hi : c.toNat < L.length := by have := hA.1; omega
    have x1 := hC.2 c.toNat _ (List.getElem?_eq_getElem hi)
    have x2 := hA.2 c.toNat _ (List.getElem?_eq_getElem hi)
    rw [Int.toNat_of_nonneg c0] at x1 x2
    have x3 : qM M' 10 c = qA a' c := x1.trans x2.symm
    unfold qM qA at x3
    obtain ⟨y1, y2⟩ := Prod.mk.inj x3
    obtain ⟨y2, y3⟩ := Prod.mk.inj y2
    obtain ⟨y3, y4⟩ := Prod.mk.inj y3
    exact ⟨y1, y2, y3, y4⟩
/-- the class's cues have become L -/
theorem RC.cues {M M' : Mm} {a : Int → Int} {l : List (Int → Int)} {sn : Option (Int → Int)} {tl : Int} {t : Int → Int} {L : List Cu} (h : RC M a l sn tl t) (hL : VL L) (hC : CL M' 10 L) (hc : M' 10 0 = M 10 0) (f : ∀ o, (o < 10 ∨ 19 ≤ o) → o ≠ 115 → (o < 117 ∨ 124 ≤ o) → M' o = M o) (f115 : M' 115 0 = M 115 0) : ∀ a', SO a a' → AL a' L → RC M' a' l sn tl t := by
  intro a' hs hA
  exact h.act (SR_of h.1 h.2.1 hs hA hC (fun o o1 o2 => f o (by omega) (by omega) (by omega))) (VR_of h.2.1 hs hA hL) (by rw [hc]; exact h.2.2.1.cap k5_1) (f 0 (by omega) (by omega) (by omega)) (fun o o1 o2 o3 => f o (by omega) (by omega) (by omega)) f115
/-! the class's list: swaps, removals -/
def frB (b : Nat) (M M' : Mm) : Prop := ∀ o, o ≠ b + 1 + 1 → o ≠ b + 3 + 1 → o ≠ b + 5 + 1 → o ≠ b + 7 + 1 → M' o = M o
/-- only the list's rows and its size have changed -/
def frZ (b : Nat) (M M' : Mm) : Prop := (∀ o, o ≠ b → o ≠ b + 1 + 1 → o ≠ b + 3 + 1 → o ≠ b + 5 + 1 → o ≠ b + 7 + 1 → M' o = M o) ∧ ∀ j, j ≠ 5 → M' b j = M b j
theorem frB.z {b : Nat} {M M' : Mm} (h : frB b M M') : frZ b M M' := ⟨fun o _ o1 o2 o3 o4 => h o o1 o2 o3 o4, fun j _ => by rw [h b (by omega) (by omega) (by omega) (by omega)]⟩
theorem frZ.tr {b : Nat} {A B C : Mm} (h : frZ b A B) (h2 : frZ b B C) : frZ b A C := ⟨fun o o0 o1 o2 o3 o4 => (h2.1 o o0 o1 o2 o3 o4).trans (h.1 o o0 o1 o2 o3 o4), fun j hj => (h2.2 j hj).trans (h.2 j hj)⟩
theorem frB.size {b : Nat} {M M1 M2 : Mm} {v : Int} (h : frB b M M1) (e : M2 = mu M1 b 5 v) : frZ b M M2 := by
  refine ⟨fun o o0 o1 o2 o3 o4 => by rw [e, mu_ne o0]; exact h o o1 o2 o3 o4, fun j hj => ?_⟩
  rw [e, mu_eq]; show (if j = 5 then v else M1 b j) = _
  rw [if_neg hj, h b (by omega) (by omega) (by omega) (by omega)]
theorem frB.tr {b : Nat} {A B C : Mm} (h : frB b A B) (h2 : frB b B C) : frB b A C := fun o o1 o2 o3 o4 => (h2 o o1 o2 o3 o4).trans (h o o1 o2 o3 o4)
/-- a list of the class with room for n -/
def cap (b n : Nat) : Prop := gl gC (b + 1 + 1) = n ∧ gl gC (b + 3 + 1) = n ∧ gl gC (b + 5 + 1) = n ∧ gl gC (b + 7 + 1) = n
theorem cap10 : cap 10 40 := by unfold cap; decide +kernel
theorem cap115 : cap 115 100 := by unfold cap; decide +kernel
theorem swp_c {M : Mm} {Q : Mm → Prop} {b n : Nat} {i j : Int} (hb : cap b n) (i0 : 0 ≤ i) (i1 : i < n) (j0 : 0 ≤ j) (j1 : j < n) (k : ∀ M' : Mm, frB b M M' → (∀ c, qM M' b c = if c = j then qM M b i else if c = i then qM M b j else qM M b c) → Q M') : p_X0_swap gC b i j M Q := by
  obtain ⟨c1, c2, c3, c4⟩ := hb
  unfold p_X0_swap
  refine swap_c i0 (by rw [c1]; exact i1) j0 (by rw [c1]; exact j1) (swap_c i0 (by rw [c2]; exact i1) j0 (by rw [c2]; exact j1) (swap_c i0 (by rw [c3]; exact i1) j0 (by rw [c3]; exact j1) (swap_c i0 (by rw [c4]; exact i1) j0 (by rw [c4]; exact j1) (k _ (fun o o1 o2 o3 o4 => ?_) (fun c => ?_)))))
  · simp only [mu_ne o1, mu_ne o2, mu_ne o3, mu_ne o4]
  · unfold qM
    simp (disch := omega) only [mu_ne, mu_eq]
    by_cases h1 : c = j
    · simp only [if_pos h1]
    · by_cases h2 : c = i
      · simp only [if_neg h1, if_pos h2]
      · simp only [if_neg h1, if_neg h2]
theorem rmv_l {M : Mm} {Q : Mm → Prop} {b n : Nat} {L : List Cu} {c : Nat} (hb : cap b n) (hL : CL M b L) (hn : L.length ≤ n) (hn2 : n ≤ 1000) (hc : c < L.length) (k : ∀ M' : Mm, frZ b M M' → CL M' b (L.eraseIdx c) → Q M') :
    ∀ (f j : Nat) (M1 : Mm), c + 1 ≤ j → j ≤ L.length → L.length - j < f → frB b M M1 → (∀ i : Nat, i < c → ∀ q, L[i]? = some q → qM M1 b i = q) → (∀ i : Nat, c ≤ i → i + 1 < j → ∀ q, L[i + 1]? = some q → qM M1 b i = q) → (∀ q, L[c]? = some q → qM M1 b ((j - 1 : Nat) : Int) = q) → (∀ i : Nat, j ≤ i → ∀ q, L[i]? = some q → qM M1 b i = q) → p_X0_removeAt_L4 gC f b (j : Int) M1 Q := by
  intro f
  induction f with
  | zero => intro j M1 _ _ hf; omega
  | succ f ih =>
    intro j M1 j0 j1 hf fr h1 h2 h3 h4
    have e5 : M1 b 5 = (L.length : Int) := by rw [fr b (by omega) (by omega) (by omega) (by omega)]; exact hL.1
    unfold p_X0_removeAt_L4
    rw [e5]
    refine ⟨inR_s (by omega) (by omega), inR_s (by omega) (by omega), fun hge M2 e => ?_, fun hlt => swp_c hb (by omega) (by omega) (by omega) (by omega) (fun M2 fr2 hq => ?_)⟩
    · have hq : ∀ i : Int, qM M2 b i = qM M1 b i := fun i => by
        rw [e]; unfold qM
        rw [mu_ne (by omega), mu_ne (by omega), mu_ne (by omega), mu_ne (by omega)]
      refine k M2 (fr.size e) ⟨?_, fun i q hi => ?_⟩
      · rw [e, mu_eq]
        show (L.length : Int) - 1 = _
        rw [List.length_eraseIdx_of_lt hc]; omega
      · rw [hq]
        rw [List.getElem?_eraseIdx] at hi
        by_cases hic : i < c
        · rw [if_pos hic] at hi; exact h1 i hic q hi
        · rw [if_neg hic] at hi
          have hlt := (List.getElem?_eq_some_iff.mp hi).1
          exact h2 i (by omega) (by omega) q hi
    · have ej : ((j : Int) - 1) = ((j - 1 : Nat) : Int) := by omega
      rw [ej] at hq
      refine ih (j + 1) M2 (by omega) (by omega) (by omega) (fr.tr fr2) (fun i hi q hq2 => ?_) (fun i hi hi2 q hq2 => ?_) (fun q hq2 => ?_) (fun i hi q hq2 => ?_)
      · rw [hq, if_neg (by omega), if_neg (by omega)]; exact h1 i hi q hq2
      · rw [hq, if_neg (by omega)]
        by_cases hij : (i : Int) = ((j - 1 : Nat) : Int)
        · rw [if_pos hij]
          have : j = i + 1 := by omega
          exact h4 j (by omega) q (by rw [this]; exact hq2)
        · rw [if_neg hij]; exact h2 i hi (by omega) q hq2
      · rw [show j + 1 - 1 = j by omega, hq, if_pos rfl]; exact h3 q hq2
      · rw [hq, if_neg (by omega), if_neg (by omega)]; exact h4 i (by omega) q hq2
theorem rmv_c {M : Mm} {Q : Mm → Prop} {b n : Nat} {L : List Cu} {c : Nat} (hb : cap b n) (hL : CL M b L) (hn : L.length ≤ n) (hn2 : n ≤ 1000) (hc : c < L.length) (k : ∀ M' : Mm, frZ b M M' → CL M' b (L.eraseIdx c) → Q M') : p_X0_removeAt gC b (c : Int) M Q := by
  unfold p_X0_removeAt
  refine ⟨1002, ?_⟩
  have := rmv_l hb hL hn hn2 hc k 1002 (c + 1) M (by omega) (by omega) (by omega) (fun _ _ _ _ _ => rfl) (fun i _ q hq => hL.2 i q hq) (fun i h1 h2 => by omega) (fun q hq => by rw [show c + 1 - 1 = c by omega]; exact hL.2 c q hq) (fun i _ q hq => hL.2 i q hq)
  exact this
def nsc (s : Int) (q : Cu) : Bool := !(decide (q.2.1 = s))
theorem rms_l {M : Mm} {Q : Mm → Prop} {b n : Nat} {L : List Cu} {s : Int} (hb : cap b n) (hL : CL M b L) (hn : L.length ≤ n) (hn2 : n ≤ 1000) (hs : inR s) (hv : ∀ q ∈ L, inR q.2.1) (k : ∀ M' : Mm, frZ b M M' → CL M' b (L.filter (nsc s)) → Q M') :
    ∀ (f j : Nat) (M1 : Mm), j ≤ L.length → L.length - j < f → frB b M M1 → (∀ (i : Nat) q, ((L.take j).filter (nsc s))[i]? = some q → qM M1 b i = q) → (∀ i : Nat, j ≤ i → ∀ q, L[i]? = some q → qM M1 b i = q) → p_X0_removeScene_L4 gC f b s (((L.take j).filter (nsc s)).length : Int) (j : Int) M1 Q := by
  intro f
  induction f with
  | zero => intro j M1 _ hf; omega
  | succ f ih =>
    intro j M1 j1 hf fr h1 h2
    have e5 : M1 b 5 = (L.length : Int) := by rw [fr b (by omega) (by omega) (by omega) (by omega)]; exact hL.1
    unfold p_X0_removeScene_L4
    rw [e5]
    refine ⟨inR_s (by omega) (by omega), inR_s (by omega) (by omega), fun hge M2 e => ?_, fun hlt => get_c (by omega) (by rw [hb.2.1]; omega) ?_⟩
    · have hj : j = L.length := by omega
      subst hj
      rw [List.take_length] at h1 e
      have hq : ∀ i : Int, qM M2 b i = qM M1 b i := fun i => by
        rw [e]; unfold qM
        rw [mu_ne (by omega), mu_ne (by omega), mu_ne (by omega), mu_ne (by omega)]
      refine k M2 (fr.size e) ⟨?_, fun i q hi => by rw [hq]; exact h1 i q hi⟩
      · rw [e, mu_eq]; rfl
    · have hlt' : j < L.length := by omega
      have hj := h2 j (by omega) _ (List.getElem?_eq_getElem hlt')
      have hsc : M1 (b + 3 + 1) (j : Int) = (L[j]).2.1 := by rw [← hj]; rfl
      have htk : L.take (j + 1) = L.take j ++ [L[j]] := by rw [List.take_succ, List.getElem?_eq_getElem hlt']; rfl
      rw [hsc]
      refine ⟨hv _ (List.getElem_mem hlt'), hs, fun he => ?_, fun hne => ?_⟩
      · have hf : (L.take (j + 1)).filter (nsc s) = (L.take j).filter (nsc s) := by
          rw [htk, List.filter_append]
          simp [nsc, he]
        have := ih (j + 1) M1 (by omega) (by omega) fr (by rw [hf]; exact h1) (fun i hi q hq => h2 i (by omega) q hq)
        rw [hf] at this
        exact this
      · have hf : (L.take (j + 1)).filter (nsc s) = (L.take j).filter (nsc s) ++ [L[j]] := by
          rw [htk, List.filter_append]
          simp [nsc, hne]
        have hle : ((L.take j).filter (nsc s)).length ≤ j := by
          have a1 := List.length_filter_le (nsc s) (L.take j)
          rw [List.length_take] at a1
          omega
        refine swp_c hb (by omega) (by omega) (by omega) (by omega) (fun M2 fr2 hq => ?_)
        have := ih (j + 1) M2 (by omega) (by omega) (fr.tr fr2) (fun i q hi => ?_) (fun i hi q hq2 => ?_)
        · rw [hf, List.length_append] at this
          exact this
        · rw [hf] at hi
          by_cases hip : i < ((L.take j).filter (nsc s)).length
          · rw [List.getElem?_append_left hip] at hi
            rw [hq, if_neg (by omega), if_neg (by omega)]; exact h1 i q hi
          · have hie : i = ((L.take j).filter (nsc s)).length := by
              have := (List.getElem?_eq_some_iff.mp hi).1
              simp at this; omega
            rw [hie] at hi
            simp at hi
            rw [hq, hie]
            by_cases hpj : (((L.take j).filter (nsc s)).length : Int) = (j : Int)
            · rw [if_pos hpj, hpj, hj]; exact hi
            · rw [if_neg hpj, if_pos rfl, hj]; exact hi
        · rw [hq, if_neg (by omega), if_neg (by omega)]; exact h2 i (by omega) q hq2
theorem rms_c {M : Mm} {Q : Mm → Prop} {b n : Nat} {L : List Cu} {s : Int} (hb : cap b n) (hL : CL M b L) (hn : L.length ≤ n) (hn2 : n ≤ 1000) (hs : inR s) (hv : ∀ q ∈ L, inR q.2.1) (k : ∀ M' : Mm, frZ b M M' → CL M' b (L.filter (nsc s)) → Q M') : p_X0_removeScene gC b s M Q := by
  unfold p_X0_removeScene
  exact ⟨1002, rms_l hb hL hn hn2 hs hv k 1002 0 M (by omega) (by omega) (fun _ _ _ _ _ => rfl) (fun i q hq => by simp at hq) (fun i _ q hq => hL.2 i q hq)⟩
