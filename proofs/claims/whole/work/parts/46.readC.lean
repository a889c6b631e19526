/-! PURE: readCues, the class -/
theorem RC.keep2 {M M' : Mm} {a : Int → Int} {l : List (Int → Int)} {sn : Option (Int → Int)} {tl : Int} {t : Int → Int} (h : RC M a l sn tl t) (f : fr14 M M') (e : M' 115 0 = 100) : RC M' a l sn tl t := by
  obtain ⟨h1, h2, h3, h4, h5, h6⟩ := h
  refine ⟨h1.keep (fun o o1 o2 => f o (by omega)), h2, h3.keep (fun o o1 o2 => f o (by omega)) ⟨?_, ?_⟩, ?_, h5.f14 f, e⟩
  · rw [f 10 (by omega)]; exact h3.cap k5_1
  · rw [f 28 (by omega)]; exact h3.cap k5_19
  · cases sn with
    | none => show M' 0 6 = 0; rw [f 0 (by omega)]; exact h4
    | some r =>
      obtain ⟨q1, q2, q3⟩ := h4
      exact ⟨by rw [f 0 (by omega)]; exact q1, q2.keep (fun o o1 o2 => f o (by omega)), q3⟩
/-- what the cues are behind a reading -/
def RD (a : Int → Int) (P S : List Cu) : Prop := VL S ∧ ∀ q, q ∈ S ↔ q ∈ LA a ++ P
theorem RD_uniq {a : Int → Int} {P S S' : List Cu} (h : RD a P S) (h' : RD a P S') : S = S' := srt_uniq S S' h.1.2.2 h'.1.2.2 (fun q => (h.2 q).trans (h'.2 q).symm)
theorem CL.s {M M' : Mm} {b : Nat} {L : List Cu} (h : CL M b L) (f0 : M' b 5 = M b 5) (f1 : M' (b + 1 + 1) = M (b + 1 + 1)) (f2 : M' (b + 3 + 1) = M (b + 3 + 1)) (f3 : M' (b + 5 + 1) = M (b + 5 + 1)) (f4 : M' (b + 7 + 1) = M (b + 7 + 1)) : CL M' b L := by
  refine ⟨f0.trans h.1, fun i q hi => ?_⟩
  have := h.2 i q hi
  unfold qM at this ⊢
  rw [f1, f2, f3, f4]; exact this
theorem c_readCues {M : Mm} {Q : Int → Mm → Prop} {a : Int → Int} {l : List (Int → Int)} {sn : Option (Int → Int)} {tl : Int} {t : Int → Int} (h : RC M a l sn tl t)
    (kf : ∀ e, pall t tl 61 0 [] = .inl e → ∀ M' : Mm, RC M' a l sn tl t → Q (-100 - e) M')
    (kt : ∀ P, pall t tl 61 0 [] = .inr P → ¬ (LA a ++ P).Pairwise nR → ∀ M' : Mm, RC M' a l sn tl t → Q (-4) M')
    (km : ∀ P, pall t tl 61 0 [] = .inr P → (LA a ++ P).Pairwise nR → 40 < (LA a ++ P).length → ∀ M' : Mm, RC M' a l sn tl t → Q (-3) M')
    (k : ∀ P, pall t tl 61 0 [] = .inr P → (LA a ++ P).Pairwise nR → (LA a ++ P).length ≤ 40 → ∀ (M' : Mm) (S : List Cu), RD a P S → (∀ a', SO a a' → AL a' S → RC M' a' (push l a) sn tl t) → Q ((LA a ++ P).length : Int) M') : p_X7_readCues gC 0 M Q := by
  have hV := h.2.1
  have ht := h.2.2.2.2.1
  have htl := ht.2.1
  have htl2 := ht.2.2.1
  have h36 := hV.2.2.2.2.2.2.1
  have hVL := VL_LA hV
  have hC := CL_SR h.1 h36.1
  unfold p_X7_readCues
  show p_X1_readBehind gC 114 10 111 M _
  unfold p_X1_readBehind
  refine cpl_c (b := 115) (b2 := 10) (m := 40) cap115 cap10 (by decide) hC (by have := hVL.1; omega) (by omega) h.2.2.2.2.2 (Or.inr (by omega)) (fun M2 fz hC2 M3 e3 M4 e4 M5 e5 => ?_)
  have f5 : ∀ o, o ≠ 114 → M5 o = M2 o := fun o ho => by rw [e5, mu_ne ho, e4, mu_ne ho, e3, mu_ne ho]
  have s1 : M5 114 1 = 0 := by rw [e5, mu_eq, e4, mu_eq, e3, mu_eq]; rfl
  have s2 : M5 114 2 = 0 := by rw [e5, mu_eq, e4, mu_eq, e3, mu_eq]; rfl
  have s3 : M5 114 3 = 0 := by rw [e5, mu_eq, e4, mu_eq, e3, mu_eq]; rfl
  have fr : fr14 M M5 := fun o ho => by rw [f5 o (by omega), fz.1 o (by omega) (by omega) (by omega) (by omega) (by omega)]
  have hD : DR M5 (LA a) (LA a ++ []) := by
    rw [List.append_nil]
    refine ⟨hC2.s ?_ ?_ ?_ ?_ ?_, ?_, pw_n hVL.2.2, hVL.2.1, Nat.le_refl _, by rw [s3]; exact inR0, fun _ => rfl, fun z => absurd s3 z⟩
    · rw [f5 _ (by omega)]
    · rw [f5 _ (by omega)]
    · rw [f5 _ (by omega)]
    · rw [f5 _ (by omega)]
    · rw [f5 _ (by omega)]
    · rw [f5 _ (by omega), fz.2 0 (by decide)]; exact h.2.2.2.2.2
  -- the order of the drafts
  have ord : ∀ (M1 : Mm) (D W : List Cu) (K : Mm → Prop), fr14 M M1 → DR M1 D W → W.length ≤ 100 → (∀ (M' : Mm) (S : List Cu), fr14 M M' → M' 115 0 = 100 → M' 114 = M1 114 → CL M' 115 S → S.length = D.length → S.Pairwise lR → (∀ q, q ∈ S ↔ q ∈ D) → K M') → p_X1_readBehind_J72 gC 114 M1 K := fun M1 D W K f1 hD1 hW hK => by
    obtain ⟨d1, d2, d3, d4, d5, d6, d7, d8⟩ := hD1
    unfold p_X1_readBehind_J72
    refine pio_c cap115 d1 (by omega) (by omega) (fun q hq => vq_rq (d4 q hq)) d3 (fun M' S fb hC' hl hS hm => hK M' S (fun o ho => by rw [fb o (by omega) (by omega) (by omega) (by omega), f1 o ho]) (by rw [fb 115 (by omega) (by omega) (by omega) (by omega)]; exact d2) (fb 114 (by omega) (by omega) (by omega) (by omega)) hC' hl hS hm)
  refine rb_l (h.2.2.2.2.1) hVL.1 (r := pall t tl 61 0 []) (fun e he M1 D W f1 hD1 hW z2 z1 => ?_) (fun P hP M1 D f1 hD1 hW z2 => ?_) 61 0 [] (LA a) 1 M5 (by omega) (by omega) (by omega) fr hD (by simp) s1 s2 (by omega) (by omega) rfl _ (fun M6 h6 => ⟨62, h6⟩)
  · refine ord M1 D W _ f1 hD1 hW (fun M' S g1 g2 g3 g4 g5 g6 g7 => ?_)
    show inR (M' 114 2) ∧ (M' 114 2 = 0 → _) ∧ (M' 114 2 ≠ 0 → Q (-100 - M' 114 1) M')
    rw [g3, z2, z1]
    exact ⟨inR1, fun z => absurd z (by decide), fun _ => kf e he M' (h.keep2 g1 g2)⟩
  · refine ord M1 D _ _ f1 hD1 hW (fun M' S g1 g2 g3 g4 g5 g6 g7 => ?_)
    have hR := h.keep2 g1 g2
    obtain ⟨d1, d2, d3, d4, d5, d6, d7, d8⟩ := hD1
    show inR (M' 114 2) ∧ (M' 114 2 = 0 → inR (M' 114 3) ∧ (M' 114 3 = 0 → inR (M' 115 5) ∧ (M' 115 5 ≤ 40 → p_X2_record gC 37 1 M' _) ∧ (40 < M' 115 5 → Q (-3) M')) ∧ (M' 114 3 ≠ 0 → Q (-4) M')) ∧ (M' 114 2 ≠ 0 → Q (-100 - M' 114 1) M')
    rw [g3, z2, g4.1]
    refine ⟨inR0, fun _ => ⟨d6, fun z => ?_, fun z => kt P hP (d8 z) M' hR⟩, fun z => absurd rfl z⟩
    have hDW := d7 z
    rw [hDW] at g5 g7 d3 d4
    refine ⟨inR_s (by omega) (by omega), fun hle => RC.rec hR (fun M7 h7 f7 => ?_), fun hgt => km P hP d3 (by omega) M' hR⟩
    have hSV : VL S := ⟨by omega, fun q hq => d4 q ((g7 q).mp hq), g6⟩
    have hC7 : CL M7 115 S := g4.s (by rw [f7 _ (by omega)]) (by rw [f7 _ (by omega)]) (by rw [f7 _ (by omega)]) (by rw [f7 _ (by omega)]) (by rw [f7 _ (by omega)])
    have h70 : M7 10 0 = 40 := h7.2.2.1.cap k5_1
    refine cpl_c (b := 10) (b2 := 115) (m := 40) cap10 cap115 (by decide) hC7 (by omega) (by omega) h70 (Or.inl (by omega)) (fun M8 fz8 hC8 => ?_)
    show Q (M8 10 5) M8
    rw [hC8.1, g5]
    obtain ⟨f2, f10⟩ := k10 fz8
    exact k P hP d3 (by omega) M8 S ⟨hSV, g7⟩ (h7.cues hSV hC8 f10 (fun o o1 _ _ => f2 o o1) (by rw [f2 115 (by omega)]))
