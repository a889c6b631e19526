/-! PURE: send, setHands, texts, undo, keep, restore -/
def SP_send (hd sh : Int) (a : Int → Int) (l : List (Int → Int)) (K : Int → (Int → Int) → List (Int → Int) → Prop) : Prop :=
  ((hd < 0 ∨ a 30 ≤ hd ∨ sh < 0 ∨ 5 ≤ sh) → K (-1) a l) ∧ (0 ≤ hd → hd < a 30 → 0 ≤ sh → sh < 5 → (a (31 + hd) = sh → K (-5) a l) ∧ (a (31 + hd) ≠ sh → K (a (31 + hd)) (up a (31 + hd) sh) (push l a)))
theorem c_send {M : Mm} {Q : Int → Mm → Prop} {a : Int → Int} {l : List (Int → Int)} {sn : Option (Int → Int)} {tl : Int} {t : Int → Int} {hd sh : Int} (hh : inR hd) (hs : inR sh) (h : RC M a l sn tl t) (k : SP_send hd sh a l (fun r a' l' => ∀ M' : Mm, RC M' a' l' sn tl t → Q r M')) : p_X7_send gC 0 hd sh M Q := by
  obtain ⟨kB, kO⟩ := k
  have hS := h.1
  have hV := h.2.1
  have h30 := hV.2.2.2.1
  have g30 : M 1 5 = a 30 := hS.2.2.2.2.1.1
  have hlen : gl gC 9 = 4 := by decide +kernel
  unfold p_X7_send
  show p_X7_isBelow gC hd (M 1 5) M _
  rw [g30]
  refine below_c hh (inR_s (by omega) (by omega)) (fun d0 d1 => ⟨inR1, fun q => absurd q (by decide), fun _ => ?_⟩) (fun q => ⟨inR0, fun _ => kB (by omega) M h, fun z => absurd rfl z⟩)
  refine below_c hs ⟨by decide, by decide⟩ (fun s0 s1 => ⟨inR1, fun _ => ?_, fun q => absurd q (by decide)⟩) (fun q => ⟨inR0, fun z => absurd rfl z, fun _ => kB (by omega) M h⟩)
  obtain ⟨kN, kA⟩ := kO d0 d1 s0 s1
  have hg : M 9 hd = a (31 + hd) := hS.2.2.2.1 hd d0 d1
  have hr := hV.2.2.2.2.1 hd d0 d1
  refine get_c d0 (by show hd < ((gl gC 9 : Nat) : Int); rw [hlen]; omega) ?_
  show inR (M 9 hd) ∧ inR sh ∧ (M 9 hd ≠ sh → p_X2_record gC 37 1 M _) ∧ (M 9 hd = sh → _)
  rw [hg]
  refine ⟨inR_s (by omega) (by omega), hs, fun hne => RC.rec h (fun M1 h1 f1 => put_c d0 (by show hd < ((gl gC 9 : Nat) : Int); rw [hlen]; omega) (kA hne _ ?_)), fun he => kN he M h⟩
  have hS1 := h1.1
  show RC (mu M1 9 hd sh) _ _ _ _ _
  have f : ∀ o, o ≠ 9 → mu M1 9 hd sh o = M1 o := fun o ho => mu_ne ho
  refine h1.act (SR_up hS1 (fun c c0 c1 => cue_up (by omega) c0) (up_ne (by omega)) (fun i i0 i1 => ?_) (fun i i0 i1 => ?_) (fun i i0 i1 => ?_) (fun i i0 i1 => ?_) ?_ (fun o o1 o2 => f o (by omega))) (VR_up hV (by omega) (by omega) (by omega) (fun _ _ => by omega) (fun _ _ => by omega) (fun _ _ => by omega) (fun _ _ => by omega) (fun _ => by omega)) ?_ (f 0 (by omega)) (fun o o1 o2 _ => f o (by omega)) (by rw [f 115 (by omega)])
  · rw [f 3 (by omega), up_ne (by omega)]; exact hS1.1 i i0 i1
  · rw [f 5 (by omega), up_ne (by omega)]; exact hS1.2.1 i i0 i1
  · rw [f 7 (by omega), up_ne (by omega)]; exact hS1.2.2.1 i i0 i1
  · rw [up_ne (by omega)] at i1
    rw [mu_eq]; show (if i = hd then sh else M1 9 i) = if 31 + i = 31 + hd then sh else a (31 + i)
    by_cases hi : i = hd
    · rw [if_pos hi, if_pos (by omega)]
    · rw [if_neg hi, if_neg (by omega)]; exact hS1.2.2.2.1 i i0 i1
  · rw [f 1 (by omega), up_ne (by omega), up_ne (by omega), up_ne (by omega), up_ne (by omega), up_ne (by omega), up_ne (by omega)]
    exact hS1.2.2.2.2.1
  · rw [f 10 (by omega)]; exact h1.2.2.1.cap k5_1
theorem m_send {N : Mm} {Q : Int → Mm → Prop} {a : Int → Int} {l : List (Int → Int)} {sn : Option (Int → Int)} {tl : Int} {t : Int → Int} {hd sh : Int} (hh : inR hd) (hs : inR sh) (hV : VR a) (h : RM N a l sn tl t) (k : SP_send hd sh a l (fun r a' l' => ∀ N' : Mm, RM N' a' l' sn tl t → Q r N')) : p_X8_send gM 0 hd sh N Q := by
  obtain ⟨kB, kO⟩ := k
  have h30 := hV.2.2.2.1
  have l1 : gl gM (0 + 1) = 201 := by decide +kernel
  have g30 : N 1 30 = a 30 := h.1 30 (by omega) (by omega)
  unfold p_X8_send p_X8_isHand
  rw [l1]
  show _ ∧ _ ∧ inR (N 1 30) ∧ p_X8_in gM hd 0 (N 1 30 - 1) N _
  rw [g30]
  refine ⟨hh, by omega, inR_s (by omega) (by omega), in_m hh inR0 (inR_s (by omega) (by omega)) (fun d0 d1 => ⟨Or.inr rfl, inR1, fun q => absurd q (by decide), fun _ => ⟨hs, ?_⟩⟩) (fun q => ⟨Or.inl rfl, inR0, fun _ => kB (by omega) N h, fun z => absurd rfl z⟩)⟩
  refine in_m hs inR0 ⟨by decide, by decide⟩ (fun s0 s1 => ⟨inR1, fun q => absurd q (by decide), fun _ => ?_⟩) (fun q => ⟨inR0, fun _ => kB (by omega) N h, fun z => absurd rfl z⟩)
  obtain ⟨kN, kA⟩ := kO d0 (by omega) s0 (by omega)
  have hr := hV.2.2.2.2.1 hd d0 (by omega)
  exact set_m h (by omega) (by omega) (inR_s (by omega) (by omega)) hs (fun he => kN he N h) (fun N' hne h' => kA hne N' h')
/-- a row with another number of hands -/
def hnd (a : Int → Int) (n : Int) : Int → Int := fun k => if k = 30 then n else if 31 + a 30 ≤ k ∧ k < 31 + n then k - 31 else a k
theorem hnd_ne {a : Int → Int} {n k : Int} (h : k ≠ 30) (h2 : k < 31 + a 30 ∨ 31 + n ≤ k) : hnd a n k = a k := by
  unfold hnd; rw [if_neg h, if_neg (by omega)]
theorem hnd_30 {a : Int → Int} {n : Int} : hnd a n 30 = n := if_pos rfl
theorem hnd_new {a : Int → Int} {n i : Int} (h : a 30 ≤ i) (h0 : 0 ≤ i) (h2 : i < n) : hnd a n (31 + i) = i := by
  unfold hnd; rw [if_neg (by omega), if_pos (by omega)]; omega
theorem VR_hnd {a : Int → Int} {n : Int} (h : VR a) (h0 : 1 ≤ n) (h1 : n ≤ 4) : VR (hnd a n) := by
  obtain ⟨v1, v2, v3, v4, v5, v6, v7, v8, v9⟩ := h
  have q : ∀ k, k ≠ 30 → (k < 31 ∨ 35 ≤ k) → hnd a n k = a k := fun k h2 h3 => hnd_ne h2 (by omega)
  refine ⟨fun i i0 i1 => by rw [q i (by omega) (by omega)]; exact v1 i i0 i1, fun i i0 i1 => by rw [q _ (by omega) (by omega)]; exact v2 i i0 i1, fun i i0 i1 => by rw [q _ (by omega) (by omega)]; exact v3 i i0 i1, by rw [hnd_30]; omega, fun i i0 i1 => ?_, by rw [q _ (by omega) (by omega)]; exact v6, by rw [q _ (by omega) (by omega)]; exact v7, fun c c0 c1 => ?_, fun c c0 c1 => ?_⟩
  · rw [hnd_30] at i1
    by_cases hi : i < a 30
    · rw [hnd_ne (by omega) (by omega)]; exact v5 i i0 hi
    · rw [hnd_new (by omega) i0 i1]; omega
  · rw [q 36 (by omega) (by omega)] at c1
    have h := v8 c c0 c1
    unfold VQ tk sc sd la at h ⊢
    rw [q _ (by omega) (by omega), q _ (by omega) (by omega), q _ (by omega) (by omega), q _ (by omega) (by omega)]; exact h
  · rw [q 36 (by omega) (by omega)] at c1
    have h := v9 c c0 c1
    unfold tk sc sd at h ⊢
    rw [q _ (by omega) (by omega), q _ (by omega) (by omega), q _ (by omega) (by omega), q _ (by omega) (by omega), q _ (by omega) (by omega), q _ (by omega) (by omega)]; exact h
def SP_setHands (n : Int) (a : Int → Int) (l : List (Int → Int)) (K : Int → (Int → Int) → List (Int → Int) → Prop) : Prop :=
  ((n < 1 ∨ 4 < n) → K (-2) a l) ∧ (1 ≤ n → n ≤ 4 → (a 30 = n → K (-5) a l) ∧ (a 30 ≠ n → K (a 30) (hnd a n) (push l a)))
theorem sh_l {M : Mm} {Q : Int → Mm → Prop} {n p : Int} (p0 : 0 ≤ p) (h0 : 1 ≤ n) (h1 : n ≤ 4) (k : ∀ M' : Mm, (∀ o, o ≠ 1 → o ≠ 9 → M' o = M o) → (∀ j, j ≠ 5 → M' 1 j = M 1 j) → M' 1 5 = n → (∀ i, p ≤ i → i < n → M' 9 i = i) → (∀ i, i < p → M' 9 i = M 9 i) → Q p M') :
    ∀ (m : Nat) (i : Int) (M1 : Mm), p ≤ i → i ≤ 4 → 4 - i < m → (∀ o, o ≠ 9 → M1 o = M o) → (∀ j, p ≤ j → j < i → M1 9 j = j) → (∀ j, j < p → M1 9 j = M 9 j) → p_X7_setHands_L41 gC m 0 n p i M1 Q := by
  have hlen : gl gC (0 + 1 + 7 + 1) = 4 := by decide +kernel
  intro m
  induction m with
  | zero => intro i M1 _ _ hm; omega
  | succ m ih =>
    intro i M1 i0 i4 hm f1 f2 f3
    unfold p_X7_setHands_L41
    refine ⟨inR_s (by omega) (by omega), inR_s (by omega) (by omega), fun hge M2 e => ?_, fun hlt => put_c (by omega) (by rw [hlen]; omega) ?_⟩
    · refine k M2 (fun o o1 o9 => by rw [e]; show mu M1 1 5 n o = _; rw [mu_ne o1, f1 o o9]) (fun j hj => ?_) ?_ (fun j j0 j1 => ?_) (fun j hj => ?_)
      · rw [e]; show mu M1 1 5 n 1 j = _; rw [mu_eq]; show (if j = 5 then _ else _) = _; rw [if_neg hj, f1 1 (by omega)]
      · rw [e]; show mu M1 1 5 n 1 5 = _; rw [mu_eq]; rfl
      · rw [e]; show mu M1 1 5 n 9 j = _; rw [mu_ne (by omega)]; exact f2 j j0 (by omega)
      · rw [e]; show mu M1 1 5 n 9 j = _; rw [mu_ne (by omega)]; exact f3 j hj
    · refine ih (i + 1) (mu M1 9 i i) (by omega) (by omega) (by omega) (fun o ho => by rw [mu_ne ho, f1 o ho]) (fun j j0 j1 => ?_) (fun j hj => ?_)
      · rw [mu_eq]; show (if j = i then i else M1 9 j) = j
        by_cases hj : j = i
        · rw [if_pos hj, hj]
        · rw [if_neg hj]; exact f2 j j0 (by omega)
      · rw [mu_eq]; show (if j = i then i else M1 9 j) = _
        rw [if_neg (by omega)]; exact f3 j hj
theorem c_setHands {M : Mm} {Q : Int → Mm → Prop} {a : Int → Int} {l : List (Int → Int)} {sn : Option (Int → Int)} {tl : Int} {t : Int → Int} {n : Int} (hn : inR n) (h : RC M a l sn tl t) (k : SP_setHands n a l (fun r a' l' => ∀ M' : Mm, RC M' a' l' sn tl t → Q r M')) : p_X7_setHands gC 0 n M Q := by
  obtain ⟨kB, kO⟩ := k
  have hS := h.1
  have hV := h.2.1
  have h30 := hV.2.2.2.1
  have g30 : M 1 5 = a 30 := hS.2.2.2.2.1.1
  unfold p_X7_setHands
  refine within_c hn inR1 ⟨by decide, by decide⟩ (fun n0 n1 => ⟨inR1, fun _ => ?_, fun q => absurd q (by decide)⟩) (fun q => ⟨inR0, fun z => absurd rfl z, fun _ => kB q M h⟩)
  obtain ⟨kN, kA⟩ := kO n0 n1
  show inR (M 1 5) ∧ inR n ∧ (M 1 5 ≠ n → p_X2_record gC 37 1 M (fun M6 => ∃ n12, p_X7_setHands_L41 gC n12 0 n (M 1 5) (M 1 5) M6 Q)) ∧ (M 1 5 = n → _)
  rw [g30]
  refine ⟨inR_s (by omega) (by omega), hn, fun hne => RC.rec h (fun M1 h1 f1 => ⟨5, ?_⟩), fun he => kN he M h⟩
  have hS1 := h1.1
  refine sh_l (by omega) n0 n1 (fun M2 g g1 g5 g9 g9o => kA hne M2 ?_) 5 (a 30) M1 (by omega) (by omega) (by omega) (fun _ _ => rfl) (fun j j0 j1 => by omega) (fun _ _ => rfl)
  refine h1.act (SR_up hS1 (fun c c0 c1 => ⟨hnd_ne (by omega) (by omega), hnd_ne (by omega) (by omega), hnd_ne (by omega) (by omega), hnd_ne (by omega) (by omega)⟩) (hnd_ne (by omega) (by omega)) (fun i i0 i1 => ?_) (fun i i0 i1 => ?_) (fun i i0 i1 => ?_) (fun i i0 i1 => ?_) ?_ (fun o o1 o2 => g o (by omega) (by omega))) (VR_hnd hV n0 n1) ?_ (g 0 (by omega) (by omega)) (fun o o1 o2 _ => g o (by omega) (by omega)) (by rw [g 115 (by omega) (by omega)])
  · rw [g 3 (by omega) (by omega), hnd_ne (by omega) (by omega)]; exact hS1.1 i i0 i1
  · rw [g 5 (by omega) (by omega), hnd_ne (by omega) (by omega)]; exact hS1.2.1 i i0 i1
  · rw [g 7 (by omega) (by omega), hnd_ne (by omega) (by omega)]; exact hS1.2.2.1 i i0 i1
  · rw [hnd_30] at i1
    by_cases hi : i < a 30
    · rw [g9o i hi, hnd_ne (by omega) (by omega)]; exact hS1.2.2.2.1 i i0 hi
    · rw [g9 i (by omega) i1, hnd_new (by omega) i0 i1]
  · have q := hS1.2.2.2.2.1
    refine ⟨by rw [g5, hnd_30], ?_, ?_, ?_, ?_, ?_⟩
    · rw [g1 _ (by omega), hnd_ne (by omega) (by omega)]; exact q.2.1
    · rw [g1 _ (by omega), hnd_ne (by omega) (by omega)]; exact q.2.2.1
    · rw [g1 _ (by omega), hnd_ne (by omega) (by omega)]; exact q.2.2.2.1
    · rw [g1 _ (by omega), hnd_ne (by omega) (by omega)]; exact q.2.2.2.2.1
    · rw [g1 _ (by omega), hnd_ne (by omega) (by omega)]; exact q.2.2.2.2.2
  · rw [g 10 (by omega) (by omega)]; exact h1.2.2.1.cap k5_1
/-- the reference's new hands -/
theorem bh_l {N : Mm} {Q : Mm → Prop} {n p : Int} (p0 : 0 ≤ p) (h0 : 1 ≤ n) (h1 : n ≤ 4) (k : ∀ N' : Mm, (∀ o, o ≠ 1 → N' o = N o) → (∀ j, j ≠ 30 → (j < 31 + p ∨ 31 + n ≤ j) → N' 1 j = N 1 j) → N' 1 30 = n → (∀ i, p ≤ i → i < n → N' 1 (31 + i) = i) → Q N') :
    ∀ (m : Nat) (i : Int) (N1 : Mm), p ≤ i → i ≤ 4 → 4 - i < m → (∀ o, o ≠ 1 → N1 o = N o) → (∀ j, p ≤ j → j < i → N1 1 (31 + j) = j) → (∀ j, (j < 31 + p ∨ 31 + n ≤ j) → N1 1 j = N 1 j) → p_X8_becomeHands_L8 gM m 0 n i N1 Q := by
  have hlen : gl gM (0 + 1) = 201 := by decide +kernel
  intro m
  induction m with
  | zero => intro i M1 _ _ hm; omega
  | succ m ih =>
    intro i N1 i0 i4 hm f1 f2 f3
    unfold p_X8_becomeHands_L8
    rw [hlen]
    refine ⟨inR_s (by omega) (by omega), inR_s (by omega) (by omega), fun hge => ⟨by omega, fun N2 e => ?_⟩, fun hlt => ⟨by omega, by omega, fun N2 e => ?_⟩⟩
    · refine k N2 (fun o o1 => by rw [e]; show mu N1 1 30 n o = _; rw [mu_ne o1, f1 o o1]) (fun j hj hj2 => ?_) ?_ (fun j j0 j1 => ?_)
      · rw [e]; show mu N1 1 30 n 1 j = _; rw [mu_eq]; show (if j = 30 then _ else _) = _; rw [if_neg hj]; exact f3 j hj2
      · rw [e]; show mu N1 1 30 n 1 30 = _; rw [mu_eq]; rfl
      · rw [e]; show mu N1 1 30 n 1 _ = _; rw [mu_eq]; show (if 31 + j = 30 then _ else _) = _; rw [if_neg (by omega)]; exact f2 j j0 (by omega)
    · refine ih (i + 1) N2 (by omega) (by omega) (by omega) (fun o ho => by rw [e]; show mu N1 1 (31 + i) i o = _; rw [mu_ne ho, f1 o ho]) (fun j j0 j1 => ?_) (fun j hj => ?_)
      · rw [e]; show mu N1 1 (31 + i) i 1 _ = _; rw [mu_eq]; show (if 31 + j = 31 + i then i else N1 1 (31 + j)) = j
        by_cases hj : j = i
        · rw [if_pos (by omega), hj]
        · rw [if_neg (by omega)]; exact f2 j j0 (by omega)
      · rw [e]; show mu N1 1 (31 + i) i 1 _ = _; rw [mu_eq]; show (if j = 31 + i then i else N1 1 j) = _
        rw [if_neg (by omega)]; exact f3 j hj
theorem bh_m {N : Mm} {Q : Mm → Prop} {n : Int} {a : Int → Int} (ha : ∀ k : Int, 0 ≤ k → k < 201 → N 1 k = a k) (h30 : 1 ≤ a 30 ∧ a 30 ≤ 4) (h0 : 1 ≤ n) (h1 : n ≤ 4) (k : ∀ N' : Mm, (∀ o, o ≠ 1 → N' o = N o) → (∀ k : Int, 0 ≤ k → k < 201 → N' 1 k = hnd a n k) → Q N') : p_X8_becomeHands gM 0 n N Q := by
  have hlen : gl gM (0 + 1) = 201 := by decide +kernel
  have g30 : N 1 30 = a 30 := ha 30 (by omega) (by omega)
  unfold p_X8_becomeHands
  rw [hlen]
  show _ ∧ ∃ m, p_X8_becomeHands_L8 gM m 0 n (N 1 30) N Q
  rw [g30]
  refine ⟨by omega, 5, bh_l (p := a 30) (by omega) h0 h1 (fun N' f f1 f30 f2 => k N' f (fun j j0 j1 => ?_)) 5 (a 30) N (by omega) (by omega) (by omega) (fun _ _ => rfl) (fun j j0 j1 => by omega) (fun _ _ => rfl)⟩
  unfold hnd
  by_cases c1 : j = 30
  · rw [if_pos c1, c1]; exact f30
  · rw [if_neg c1]
    by_cases c2 : 31 + a 30 ≤ j ∧ j < 31 + n
    · rw [if_pos c2]
      have := f2 (j - 31) (by omega) (by omega)
      rw [show 31 + (j - 31) = j by omega] at this
      exact this
    · rw [if_neg c2, f1 j c1 (by omega)]; exact ha j j0 j1
theorem m_setHands {N : Mm} {Q : Int → Mm → Prop} {a : Int → Int} {l : List (Int → Int)} {sn : Option (Int → Int)} {tl : Int} {t : Int → Int} {n : Int} (hn : inR n) (hV : VR a) (h : RM N a l sn tl t) (k : SP_setHands n a l (fun r a' l' => ∀ N' : Mm, RM N' a' l' sn tl t → Q r N')) : p_X8_setHands gM 0 n N Q := by
  obtain ⟨kB, kO⟩ := k
  have h30 := hV.2.2.2.1
  have l1 : gl gM (0 + 1) = 201 := by decide +kernel
  have g30 : N 1 30 = a 30 := h.1 30 (by omega) (by omega)
  unfold p_X8_setHands
  refine ⟨hn, in_m hn inR1 ⟨by decide, by decide⟩ (fun n0 n1 => ⟨inR1, fun _ => ?_, fun q => absurd q (by decide)⟩) (fun q => ⟨inR0, fun z => absurd rfl z, fun _ => kB q N h⟩)⟩
  obtain ⟨kN, kA⟩ := kO n0 n1
  rw [l1]
  show _ ∧ inR (N 1 30) ∧ inR n ∧ (N 1 30 ≠ n → p_X8_remember gM 0 N (fun M4 => p_X8_becomeHands gM 0 n M4 (fun M5 => p_X8_acted gM 0 (N 1 30) M5 (fun r7 M6 => Q r7 M6)))) ∧ (N 1 30 = n → _)
  rw [g30]
  refine ⟨by omega, inR_s (by omega) (by omega), hn, fun hne => rem_m ?_, fun he => kN he N h⟩
  obtain ⟨hR, h2⟩ := h.rem
  refine bh_m hR.1 h30 n0 n1 (fun N2 f f1 => ?_)
  have hR2 := hR.all (N' := N2) (a' := hnd a n) f1 (fun j _ => by rw [f 0 (by omega)]) (f 4 (by omega)) (f 5 (by omega)) (f 16 (by omega))
  exact hR2.act (b := a) (fun k k0 k1 => by rw [f 2 (by omega)]; exact h2 k k0 k1) (fun N' h' => kA hne N' h')
/-! texts -/
def SP_type (x tl : Int) (t : Int → Int) (K : Int → Int → (Int → Int) → Prop) : Prop := (tl = 60 → K (-3) tl t) ∧ (tl < 60 → K (tl + 1) (tl + 1) (up t tl x))
theorem c_type {M : Mm} {Q : Int → Mm → Prop} {a : Int → Int} {l : List (Int → Int)} {sn : Option (Int → Int)} {tl : Int} {t : Int → Int} {x : Int} (x0 : 0 ≤ x) (x1 : x ≤ 65535) (h : RC M a l sn tl t) (k : SP_type x tl t (fun r tl' t' => ∀ M' : Mm, RC M' a l sn tl' t' → Q r M')) : p_X7_type gC 0 x M Q := by
  obtain ⟨kF, kA⟩ := k
  obtain ⟨h1, h2, h3, h4, ⟨t1, t2, t3, t4⟩, h6⟩ := h
  have hlen : gl gC (111 + 1 + 1) = 60 := by decide +kernel
  unfold p_X7_type
  show inR (M 111 1) ∧ (M 111 1 < 60 → p_X6_append gC 111 x M _) ∧ (60 ≤ M 111 1 → _)
  rw [t1]
  refine ⟨inR_s (by omega) (by omega), fun hlt => ?_, fun hge => kF (by omega) M ⟨h1, h2, h3, h4, ⟨t1, t2, t3, t4⟩, h6⟩⟩
  unfold p_X6_append
  rw [t1]
  refine ⟨inR_s (by omega) (by omega), fun hge => absurd hge (by omega), fun _ => put_c t2 (by rw [hlen]; omega) (fun M2 e => ?_)⟩
  have f : ∀ o, o ≠ 111 → o ≠ 113 → M2 o = M o := fun o o1 o2 => by rw [e, mu_ne o1]; exact mu_ne o2
  have g : M2 111 1 = tl + 1 := by
    rw [e, mu_eq]; show mu M 113 tl x 111 1 + 1 = _
    rw [mu_ne (by omega), t1]
  show Q (M2 111 1) M2
  rw [g]
  refine kA hlt M2 ⟨h1.keep (fun o o1 o2 => f o (by omega) (by omega)), h2, h3.keep (fun o o1 o2 => f o (by omega) (by omega)) ⟨?_, ?_⟩, ?_, ⟨g, by omega, by omega, fun i i0 i1 => ?_⟩, by rw [f 115 (by omega) (by omega)]; exact h6⟩
  · rw [f 10 (by omega) (by omega)]; exact h3.cap k5_1
  · rw [f 28 (by omega) (by omega)]; exact h3.cap k5_19
  · cases sn with
    | none => show M2 0 6 = 0; rw [f 0 (by omega) (by omega)]; exact h4
    | some r =>
      obtain ⟨q1, q2, q3⟩ := h4
      exact ⟨by rw [f 0 (by omega) (by omega)]; exact q1, q2.keep (fun o o1 o2 => f o (by omega) (by omega)), q3⟩
  · have e3 : M2 113 i = if i = tl then x else M 113 i := by
      rw [e, mu_ne (by omega)]; show mu M 113 tl x 113 i = _; rw [mu_eq]
    rw [e3]; unfold up
    by_cases hi : i = tl
    · rw [if_pos hi, if_pos hi]; exact ⟨rfl, x0, x1⟩
    · rw [if_neg hi, if_neg hi]; exact t4 i i0 (by omega)
theorem m_type {N : Mm} {Q : Int → Mm → Prop} {a : Int → Int} {l : List (Int → Int)} {sn : Option (Int → Int)} {tl : Int} {t : Int → Int} {x : Int} (t0 : 0 ≤ tl) (t60 : tl ≤ 60) (h : RM N a l sn tl t) (k : SP_type x tl t (fun r tl' t' => ∀ N' : Mm, RM N' a l sn tl' t' → Q r N')) : p_X8_type gM 0 x N Q := by
  obtain ⟨kF, kA⟩ := k
  obtain ⟨h1, h2, h3, t1, t2⟩ := h
  have hlen : gl gM (0 + 16) = 60 := by decide +kernel
  unfold p_X8_type
  rw [hlen, t1]
  refine ⟨inR_s (by omega) (by omega), fun hne => ⟨by omega, by omega, fun N2 e2 N3 e3 => ?_⟩, fun he => kF he N ⟨h1, h2, h3, t1, t2⟩⟩
  have f : ∀ o, o ≠ 0 → o ≠ 16 → N3 o = N o := fun o o1 o2 => by rw [e3, mu_ne o1, e2]; exact mu_ne o2
  have f0 : ∀ j, j ≠ 20 → N3 0 j = N 0 j := fun j hj => by
    rw [e3, mu_eq]; show (if j = 20 then _ else N2 0 j) = _
    rw [if_neg hj, e2, mu_ne (by omega)]
  have g : N3 0 20 = tl + 1 := by
    rw [e3, mu_eq]; show N2 0 20 + 1 = _
    rw [e2, mu_ne (by omega), t1]
  rw [g]
  refine kA (by omega) N3 ⟨by rw [f 1 (by omega) (by omega)]; exact h1, h2.keep (f0 4 (by omega)) (f 4 (by omega) (by omega)), ?_, g, fun i i0 i1 => ?_⟩
  · unfold SnM at h3 ⊢
    rw [f0 6 (by omega), f 5 (by omega) (by omega)]; exact h3
  · have q : N3 16 i = if i = tl then x else N 16 i := by
      rw [e3, mu_ne (by omega), e2]; show mu N 16 tl x 16 i = _; rw [mu_eq]
    rw [q]; unfold up
    by_cases hi : i = tl
    · rw [if_pos hi, if_pos hi]
    · rw [if_neg hi, if_neg hi]; exact t2 i i0 (by omega)
theorem c_clear {M : Mm} {Q : Int → Mm → Prop} {a : Int → Int} {l : List (Int → Int)} {sn : Option (Int → Int)} {tl : Int} {t : Int → Int} (h : RC M a l sn tl t) (k : ∀ M' : Mm, RC M' a l sn 0 t → Q tl M') : p_X7_clearText gC 0 M Q := by
  obtain ⟨h1, h2, h3, h4, ⟨t1, t2, t3, t4⟩, h6⟩ := h
  unfold p_X7_clearText
  intro M2 e
  have f : ∀ o, o ≠ 111 → M2 o = M o := fun o o1 => by rw [e]; exact mu_ne o1
  have g : M2 111 1 = 0 := by rw [e]; show mu M 111 1 0 111 1 = 0; rw [mu_eq]; rfl
  show Q (M 111 1) M2
  rw [t1]
  refine k M2 ⟨h1.keep (fun o o1 o2 => f o (by omega)), h2, h3.keep (fun o o1 o2 => f o (by omega)) ⟨?_, ?_⟩, ?_, ⟨g, by omega, by omega, fun i i0 i1 => by omega⟩, by rw [f 115 (by omega)]; exact h6⟩
  · rw [f 10 (by omega)]; exact h3.cap k5_1
  · rw [f 28 (by omega)]; exact h3.cap k5_19
  · cases sn with
    | none => show M2 0 6 = 0; rw [f 0 (by omega)]; exact h4
    | some r =>
      obtain ⟨q1, q2, q3⟩ := h4
      exact ⟨by rw [f 0 (by omega)]; exact q1, q2.keep (fun o o1 o2 => f o (by omega)), q3⟩
theorem m_clear {N : Mm} {Q : Int → Mm → Prop} {a : Int → Int} {l : List (Int → Int)} {sn : Option (Int → Int)} {tl : Int} {t : Int → Int} (h : RM N a l sn tl t) (k : ∀ N' : Mm, RM N' a l sn 0 t → Q tl N') : p_X8_clearText gM 0 N Q := by
  obtain ⟨h1, h2, h3, t1, t2⟩ := h
  unfold p_X8_clearText
  intro N2 e
  have f : ∀ o, o ≠ 0 → N2 o = N o := fun o o1 => by rw [e]; exact mu_ne o1
  have f0 : ∀ j, j ≠ 20 → N2 0 j = N 0 j := fun j hj => by
    rw [e, mu_eq]; show (if j = 20 then _ else N 0 j) = _; rw [if_neg hj]
  rw [t1]
  refine k N2 ⟨by rw [f 1 (by omega)]; exact h1, h2.keep (f0 4 (by omega)) (f 4 (by omega)), ?_, ?_, fun i i0 i1 => by omega⟩
  · unfold SnM at h3 ⊢
    rw [f0 6 (by omega), f 5 (by omega)]; exact h3
  · rw [e, mu_eq]; rfl
