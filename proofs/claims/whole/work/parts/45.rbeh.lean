/-! PURE: the class reads cues behind its own -/
theorem rq_inj {x y : Cu} (hx : vq x) (hy : vq y) (h : rq x = rq y) : x.1 = y.1 ∧ x.2.1 = y.2.1 ∧ x.2.2.1 = y.2.2.1 := by
  obtain ⟨x1, x2, x3, -⟩ := hx
  obtain ⟨y1, y2, y3, -⟩ := hy
  unfold rq rk at h
  omega
theorem has_c {M : Mm} {Q : Int → Mm → Prop} {b n : Nat} {L : List Cu} {q : Cu} (hb : cap b n) (hL : CL M b L) (hn : L.length ≤ n) (hn2 : n ≤ 1000) (hv : ∀ y ∈ L, vq y) (hq : vq q) (k0 : (∀ y ∈ L, nR y q) → Q 0 M) (k1 : ∀ y, y ∈ L → rq y = rq q → Q 1 M) :
    ∀ (f j : Nat), L.length - j < f → j ≤ L.length → (∀ y ∈ L.take j, nR y q) → p_X0_has_L3 gC f b q.2.1 q.1 q.2.2.1 (j : Int) M Q := by
  intro f
  induction f with
  | zero => intro j hf; omega
  | succ f ih =>
    intro j hf hj hp
    unfold p_X0_has_L3
    rw [hL.1]
    have hqi := vq_in hq
    refine ⟨inR_s (by omega) (by omega), inR_s (by omega) (by omega), fun hge => k0 ?_, fun hlt => ?_⟩
    · rw [List.take_of_length_le (by omega)] at hp; exact hp
    · have hjl : j < L.length := by omega
      have hg := hL.2 j _ (List.getElem?_eq_getElem hjl)
      have hvy := hv _ (List.getElem_mem hjl)
      have hyi := vq_in hvy
      have e1 : M (b + 1 + 1) (j : Int) = (L[j]).1 := by rw [← hg]; rfl
      have e2 : M (b + 3 + 1) (j : Int) = (L[j]).2.1 := by rw [← hg]; rfl
      have e3 : M (b + 5 + 1) (j : Int) = (L[j]).2.2.1 := by rw [← hg]; rfl
      have nx : rq L[j] ≠ rq q → p_X0_has_L3 gC f b q.2.1 q.1 q.2.2.1 ((j : Int) + 1) M Q := fun hne => by
        rw [show (j : Int) + 1 = ((j + 1 : Nat) : Int) by omega]
        refine ih (j + 1) (by omega) (by omega) (fun y hy => ?_)
        rw [List.take_succ, List.getElem?_eq_getElem hjl] at hy
        rcases List.mem_append.mp hy with h | h
        · exact hp y h
        · have : y = L[j] := by simpa using h
          rw [this]; exact hne
      refine get_c (by omega) (by rw [hb.2.1]; omega) ?_
      rw [e2]
      refine ⟨hyi.2.1, hqi.2.1, fun hne => nx (fun e => hne (rq_inj hvy hq e).2.1), fun h2 => get_c (by omega) (by rw [hb.1]; omega) ?_⟩
      rw [e1]
      refine ⟨hyi.1, hqi.1, fun hne => nx (fun e => hne (rq_inj hvy hq e).1), fun h1 => get_c (by omega) (by rw [hb.2.2.1]; omega) ?_⟩
      rw [e3]
      refine ⟨hyi.2.2.1, hqi.2.2.1, fun hne => nx (fun e => hne (rq_inj hvy hq e).2.2), fun h3 => k1 _ (List.getElem_mem hjl) ?_⟩
      unfold rq rk
      rw [h1, h2, h3]
theorem app_c {M : Mm} {Q : Mm → Prop} {b n : Nat} {L : List Cu} {q : Cu} (hb : cap b n) (hL : CL M b L) (h0 : M b 0 = (n : Int)) (hn : L.length < n) (hn2 : n ≤ 1000) (k : ∀ M' : Mm, frZ b M M' → CL M' b (L ++ [q]) → Q M') : p_X0_append gC b q.2.1 q.1 q.2.2.1 q.2.2.2 M Q := by
  have hb' := hb
  obtain ⟨c1, c2, c3, c4⟩ := hb'
  have e5 := hL.1
  unfold p_X0_append
  rw [e5, h0]
  refine ⟨inR_s (by omega) (by omega), inR_s (by omega) (by omega), fun _ => ?_, fun h => absurd h (by omega)⟩
  refine put_c (by omega) (by rw [c2]; omega) ?_
  rw [mu_ne (o' := b) (by omega), e5]
  refine put_c (by omega) (by rw [c1]; omega) ?_
  rw [mu_ne (o' := b) (by omega), mu_ne (o' := b) (by omega), e5]
  refine put_c (by omega) (by rw [c3]; omega) ?_
  rw [mu_ne (o' := b) (by omega), mu_ne (o' := b) (by omega), mu_ne (o' := b) (by omega), e5]
  refine put_c (by omega) (by rw [c4]; omega) ?_
  rw [mu_ne (o' := b) (by omega), mu_ne (o' := b) (by omega), mu_ne (o' := b) (by omega), mu_ne (o' := b) (by omega), e5]
  intro M9 e9
  refine k M9 ⟨fun o o0 o1 o2 o3 o4 => by rw [e9, mu_ne o0, mu_ne o4, mu_ne o3, mu_ne o1, mu_ne o2], fun j hj => ?_⟩ ⟨?_, fun i x hi => ?_⟩
  · rw [e9, mu_eq]
    show (if j = 5 then _ else _) = _
    rw [if_neg hj, mu_ne (by omega), mu_ne (by omega), mu_ne (by omega), mu_ne (by omega)]
  · rw [e9, mu_eq, List.length_append]; rfl
  · have hqq : ∀ c : Int, qM M9 b c = if c = (L.length : Int) then q else qM M b c := fun c => by
      rw [e9]
      unfold qM
      simp (disch := omega) only [mu_ne, mu_eq]
      by_cases hc : c = (L.length : Int)
      · simp only [if_pos hc]
      · simp only [if_neg hc]
    rw [hqq]
    by_cases hil : i < L.length
    · rw [if_neg (by omega)]
      rw [List.getElem?_append_left hil] at hi
      exact hL.2 i x hi
    · have hie : i = L.length := by
        have := (List.getElem?_eq_some_iff.mp hi).1
        simp at this; omega
      rw [hie, if_pos rfl]
      rw [hie] at hi
      simpa using hi
/-- the drafts are D; if none came twice, they are all of W -/
def DR (M : Mm) (D W : List Cu) : Prop := CL M 115 D ∧ M 115 0 = 100 ∧ D.Pairwise nR ∧ (∀ y ∈ D, vq y) ∧ D.length ≤ W.length ∧ inR (M 114 3) ∧ (M 114 3 = 0 → D = W) ∧ (M 114 3 ≠ 0 → ¬ W.Pairwise nR)
def fr14 (M M' : Mm) : Prop := ∀ o, o < 114 → M' o = M o
theorem DR.s {M M' : Mm} {D W : List Cu} (h : DR M D W) (f : frS M M') (e : M' 114 3 = M 114 3) : DR M' D W := by
  obtain ⟨h1, h2, h3⟩ := h
  unfold DR
  rw [e, f 115 (by omega)]
  refine ⟨⟨by rw [f 115 (by omega)]; exact h1.1, fun i q hq => ?_⟩, h2, h3⟩
  have := h1.2 i q hq
  unfold qM at this ⊢
  rw [f _ (by omega), f _ (by omega), f _ (by omega), f _ (by omega)]; exact this
theorem nR_snoc {W : List Cu} {q : Cu} : (W ++ [q]).Pairwise nR ↔ W.Pairwise nR ∧ ∀ y ∈ W, nR y q := by
  rw [List.pairwise_append]
  constructor
  · rintro ⟨h1, -, h3⟩
    exact ⟨h1, fun y hy => h3 y hy q (by simp)⟩
  · rintro ⟨h1, h3⟩
    exact ⟨h1, by simp, fun y hy z hz => by
      have : z = q := by simpa using hz
      rw [this]; exact h3 y hy⟩
theorem add_c {M : Mm} {Q : Mm → Prop} {D W : List Cu} {q : Cu} (h : DR M D W) (hq : vq q) (hW : W.length < 100) (k : ∀ (M' : Mm) (D' : List Cu), fr14 M M' → (∀ j, j ≠ 3 → M' 114 j = M 114 j) → DR M' D' (W ++ [q]) → Q M') : p_X1_addDraft gC 114 q.2.1 q.1 q.2.2.1 q.2.2.2 M Q := by
  obtain ⟨h1, h2, h3, h4, h5, h6, h7, h8⟩ := h
  unfold p_X1_addDraft p_X0_has
  refine ⟨102, has_c cap115 h1 (by omega) (by omega) h4 hq (fun hn => ⟨inR0, fun _ => app_c cap115 h1 h2 (by omega) (by omega) (fun M' fz hC => ?_), fun z => absurd rfl z⟩) (fun y hy e => ⟨inR1, fun z => absurd z (by decide), fun _ M' e' => ?_⟩) 102 0 (by omega) (by omega) (fun y hy => by simp at hy)⟩
  · have e114 : M' 114 = M 114 := fz.1 114 (by omega) (by omega) (by omega) (by omega) (by omega)
    refine k M' (D ++ [q]) (fun o ho => fz.1 o (by omega) (by omega) (by omega) (by omega) (by omega)) (fun j _ => by rw [e114]) ⟨hC, by rw [fz.2 0 (by decide)]; exact h2, nR_snoc.mpr ⟨h3, hn⟩, fun y hy => ?_, by simp; exact h5, by rw [e114]; exact h6, fun z => ?_, fun z hp => ?_⟩
    · rcases List.mem_append.mp hy with e | e
      · exact h4 y e
      · have : y = q := by simpa using e
        rw [this]; exact hq
    · rw [e114] at z; rw [h7 z]
    · rw [e114] at z; exact h8 z (nR_snoc.mp hp).1
  · have f : ∀ o, o ≠ 114 → M' o = M o := fun o ho => by rw [e', mu_ne ho]
    have s3 : ∀ j, M' 114 j = if j = 3 then 1 else M 114 j := fun j => by rw [e', mu_eq]
    have hno : ¬ (W ++ [q]).Pairwise nR := fun hp => by
      obtain ⟨p1, p2⟩ := nR_snoc.mp hp
      by_cases hz : M 114 3 = 0
      · rw [h7 hz] at hy
        exact p2 y hy e
      · exact h8 hz p1
    refine k M' D (fun o ho => f o (by omega)) (fun j hj => by rw [s3, if_neg hj]) ⟨⟨by rw [f 115 (by omega)]; exact h1.1, fun i x hx => ?_⟩, by rw [f 115 (by omega)]; exact h2, h3, h4, by simp; omega, by rw [s3, if_pos rfl]; exact inR1, fun z => ?_, fun _ => hno⟩
    · have := h1.2 i x hx
      unfold qM at this ⊢
      rw [f _ (by omega), f _ (by omega), f _ (by omega), f _ (by omega)]; exact this
    · rw [s3, if_pos rfl] at z; exact absurd z (by decide)
/-- the cues of a text from p on, or its fault -/
def pall (t : Int → Int) (tl : Int) : Nat → Int → List Cu → Int ⊕ List Cu
  | 0, p, _ => .inl p
  | f + 1, p, acc =>
    match pcue t tl p with
    | .inl e => .inl e
    | .inr (q, p') => if tl ≤ p' then .inr (acc ++ [q]) else if chrT t tl p' = 44 then pall t tl f (p' + 1) (acc ++ [q]) else .inl p'
theorem TxC.f14 {M M' : Mm} {tl : Int} {t : Int → Int} (h : TxC M tl t) (f : fr14 M M') : TxC M' tl t := by
  unfold TxC at h ⊢
  rw [f 111 (by omega), f 113 (by omega)]; exact h
theorem fr14.tr {A B C : Mm} (h : fr14 A B) (h2 : fr14 B C) : fr14 A C := fun o ho => (h2 o ho).trans (h o ho)
theorem frS.f14 {A B : Mm} (h : frS A B) : fr14 A B := fun o ho => h o (by omega)
theorem rb_l {Q : Mm → Prop} {L : List Cu} {M0 : Mm} {tl : Int} {t : Int → Int} (ht : TxC M0 tl t) (hL : L.length ≤ 40) {r : Int ⊕ List Cu}
    (kf : ∀ e, r = .inl e → ∀ (M' : Mm) (D W : List Cu), fr14 M0 M' → DR M' D W → W.length ≤ 100 → M' 114 2 = 1 → M' 114 1 = e → p_X1_readBehind_J72 gC 114 M' Q)
    (ks : ∀ P, r = .inr P → ∀ (M' : Mm) (D : List Cu), fr14 M0 M' → DR M' D (L ++ P) → (L ++ P).length ≤ 100 → M' 114 2 = 0 → p_X1_readBehind_J72 gC 114 M' Q) :
    ∀ (f : Nat) (p : Int) (acc D : List Cu) (c : Int) (M : Mm), tl - p < f → 0 ≤ p → p ≤ tl → fr14 M0 M → DR M D (L ++ acc) → 5 * (acc.length : Int) ≤ p → M 114 1 = p → M 114 2 = 0 → 0 ≤ c → c ≤ p + 1 → pall t tl f p acc = r → ∀ K : Mm → Prop, (∀ M6, p_X1_readBehind_L30 gC (f + 1) 114 111 c M6 Q → K M6) → p_X1_readCue gC 114 111 M K := by
  have htl := ht.2.1
  have htl2 := ht.2.2.1
  intro f
  induction f with
  | zero => intro p acc D c M hf p0 p1; omega
  | succ f ih =>
    intro p acc D c M hf p0 p1 fr hD ha hp h2 c0 c1 hr K hK
    have htM := ht.f14 fr
    have hll : (L ++ acc).length = L.length + acc.length := List.length_append
    have out : ∀ (n : Nat) (c : Int) (M' : Mm), 0 ≤ c → c ≤ 100 → M' 114 2 = 1 → p_X1_readBehind_J72 gC 114 M' Q → p_X1_readBehind_L30 gC (n + 1) 114 111 c M' Q := fun n c M' c0 c1 z h => by
      unfold p_X1_readBehind_L30
      rw [z]
      exact ⟨inR_s (by omega) (by omega), fun _ => h, fun _ => ⟨inR1, fun _ => h, fun e => absurd e (by decide)⟩⟩
    refine rcue_c htM p0 p1 hp h2 (fun e he M1 f1 e3 z2 z1 => ?_) (fun q p' he M1 f1 e3 z2 z1 => ?_)
    · have hr' : r = .inl e := by rw [← hr]; simp only [pall, he]
      exact hK _ (out _ _ _ c0 (by omega) z2 (kf e hr' M1 D (L ++ acc) (fr.tr f1.f14) (hD.s f1 e3) (by omega) z2 z1))
    · obtain ⟨hv, q1, q2, -⟩ := pcue_in he
      refine add_c (hD.s f1 e3) hv (by omega) (fun M2 D2 f2 s2 hD2 => ?_)
      have fr2 := (fr.tr f1.f14).tr f2
      have hp2 : M2 114 1 = p' := by rw [s2 1 (by decide)]; exact z1
      have hz2 : M2 114 2 = 0 := by rw [s2 2 (by decide)]; exact z2
      have ht2 := ht.f14 fr2
      rw [List.append_assoc] at hD2
      have hal : (acc ++ [q]).length = acc.length + 1 := by simp
      have hll2 : (L ++ (acc ++ [q])).length = L.length + (acc.length + 1) := by simp
      refine hK M2 ?_
      unfold p_X1_readBehind_L30
      rw [hz2, hp2, ht2.1]
      refine ⟨inR_s (by omega) (by omega), fun hge => ?_, fun hlt => ⟨inR0, fun z => absurd rfl z, fun _ => ⟨inR_s (by omega) (by omega), inR_s (by omega) (by omega), fun hge => ?_, fun hlt2 => ?_⟩⟩⟩
      · have hr' : r = .inr (acc ++ [q]) := by rw [← hr]; simp only [pall, he, if_pos (show tl ≤ p' by omega)]
        exact ks _ hr' M2 D2 fr2 hD2 (by omega) hz2
      · have hr' : r = .inr (acc ++ [q]) := by rw [← hr]; simp only [pall, he, if_pos hge]
        exact ks _ hr' M2 D2 fr2 hD2 (by omega) hz2
      · refine sgn_c ht2 (by omega) q2 ⟨by decide, by decide⟩ hp2 hz2 (fun hne M3 f3 s3 z3 => ?_) (fun heq M3 f3 s3 z3 => ?_)
        · have hr' : r = .inl p' := by rw [← hr]; simp only [pall, he, if_neg (show ¬ tl ≤ p' by omega), if_neg hne]
          exact rcue_f z3 (out _ _ _ (by omega) (by omega) z3 (kf p' hr' M3 D2 _ (fr2.tr f3.f14) (hD2.s f3 (s3 3 (by decide))) (by omega) z3 (by rw [s3 1 (by decide)]; exact hp2)))
        · refine ih (p' + 1) (acc ++ [q]) D2 (c + 1) M3 (by omega) (by omega) (by omega) (fr2.tr f3.f14) (hD2.s f3 (s3 3 (by decide))) (by omega) z3 (by rw [s3 2 (by decide)]; exact hz2) (by omega) (by omega) ?_ _ (fun _ h => h)
          · rw [← hr]; simp only [pall, he, if_neg (show ¬ tl ≤ p' by omega), if_pos heq]
theorem cpl_c {M : Mm} {Q : Mm → Prop} {b b2 n n2 m : Nat} {L : List Cu} (hb : cap b n) (hb2 : cap b2 n2) (hm : min n n2 = m) (hL : CL M b2 L) (hn : L.length ≤ m) (hn2 : n ≤ 1000) (h0 : M b 0 = (n : Int)) (hd : b + 9 ≤ b2 ∨ b2 + 9 ≤ b) (k : ∀ M' : Mm, frZ b M M' → CL M' b L → Q M') : p_X0_copyFrom gC b b2 M Q := by
  obtain ⟨c1, c2, c3, c4⟩ := hb
  obtain ⟨d1, d2, d3, d4⟩ := hb2
  have e5 := hL.1
  unfold p_X0_copyFrom
  refine copy_c (copy_c (copy_c (copy_c ?_)))
  rw [c1, c2, c3, c4, d1, d2, d3, d4, show min (n : Int) (n2 : Int) = (m : Int) by omega]
  rw [mcp_ne (by omega), mcp_ne (by omega), mcp_ne (by omega), mcp_ne (by omega), mcp_ne (by omega), mcp_ne (by omega), mcp_ne (by omega), mcp_ne (by omega), e5, h0]
  refine ⟨inR_s (by omega) (by omega), inR_s (by omega) (by omega), fun M9 e9 => ?_⟩
  rw [show min (L.length : Int) (n : Int) = (L.length : Int) by omega] at e9
  refine k M9 ⟨fun o o0 o1 o2 o3 o4 => by rw [e9, mu_ne o0, mcp_ne o4, mcp_ne o3, mcp_ne o2, mcp_ne o1], fun j hj => ?_⟩ ⟨?_, fun i x hi => ?_⟩
  · rw [e9, mu_eq]
    show (if j = 5 then _ else _) = _
    rw [if_neg hj, mcp_ne (by omega), mcp_ne (by omega), mcp_ne (by omega), mcp_ne (by omega)]
  · rw [e9, mu_eq]; rfl
  · have hil := (List.getElem?_eq_some_iff.mp hi).1
    have := hL.2 i x hi
    rw [← this, e9]
    unfold qM
    simp (disch := omega) only [mu_ne, mcp_ne, mcp_eq]
    simp only [if_pos (show (0 : Int) ≤ (i : Int) ∧ (i : Int) < (m : Int) from ⟨by omega, by omega⟩)]
