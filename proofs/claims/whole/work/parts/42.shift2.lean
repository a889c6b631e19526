/-! PURE: shift -/
theorem mvs_l {Q : Mm → Prop} {L : List Cu} {s d : Int} {M : Mm} (hC0 : CL M 10 L) (hL : VL L) (hs : inR s) (hd : -99 ≤ d ∧ d ≤ 99) (hc : ∀ q ∈ L, cmv s d q) (k : ∀ (M' : Mm) (S : List Cu), frB 10 M M' → CL M' 10 S → S.length = L.length → S.Pairwise lR → (∀ q, q ∈ S ↔ q ∈ L.map (mv s d)) → Q M') :
    ∀ (f j : Nat) (M1 : Mm), j ≤ L.length → L.length - j < f → frB 10 M M1 → CL M1 10 ((L.take j).map (mv s d) ++ L.drop j) → p_X0_moveScene_L2 gC f 10 s d (j : Int) M1 Q := by
  have hL' := hL
  obtain ⟨l1, l2, l3⟩ := hL
  intro f
  induction f with
  | zero => intro j M1 hj hf; omega
  | succ f ih =>
    intro j M1 hj hf fr hC
    have e5 : M1 10 5 = (L.length : Int) := by rw [fr 10 (by omega) (by omega) (by omega) (by omega)]; exact hC0.1
    unfold p_X0_moveScene_L2
    rw [e5]
    refine ⟨inR_s (by omega) (by omega), inR_s (by omega) (by omega), fun hge => ?_, fun hlt => ?_⟩
    · rw [List.take_of_length_le (by omega), List.drop_eq_nil_of_le (by omega), List.append_nil] at hC
      refine pio_c cap10 hC (by rw [List.length_map]; omega) (by omega) (fun q hq => ?_) (map_n hL') (fun M2 S fr2 hC2 hl hS hm => k M2 S (fr.tr fr2) hC2 (by rw [hl, List.length_map]) hS hm)
      obtain ⟨q0, h0, rfl⟩ := List.mem_map.mp hq
      exact vq_rq (mv_vq (l2 q0 h0) (hc q0 h0))
    · have hjl : j < L.length := by omega
      have hlt2 : ((L.take j).map (mv s d)).length = j := by rw [List.length_map, List.length_take]; omega
      have hge : ((L.take j).map (mv s d) ++ L.drop j)[j]? = some L[j] := by
        rw [List.getElem?_append_right (by omega), hlt2, Nat.sub_self, List.drop_eq_getElem_cons hjl]; rfl
      have hq := hC.2 j _ hge
      have hv := l2 _ (List.getElem_mem hjl)
      have e2 : M1 (10 + 3 + 1) (j : Int) = (L[j]).2.1 := by rw [← hq]; rfl
      have e1 : M1 (10 + 1 + 1) (j : Int) = (L[j]).1 := by rw [← hq]; rfl
      have hnx : (L.take (j + 1)).map (mv s d) ++ L.drop (j + 1) = (L.take j).map (mv s d) ++ mv s d L[j] :: L.drop (j + 1) := by
        rw [List.take_succ, List.getElem?_eq_getElem hjl, List.map_append, List.append_assoc]; rfl
      rw [List.drop_eq_getElem_cons hjl] at hC
      refine get_c (by omega) (by rw [cap10.2.1]; omega) ?_
      rw [e2]
      refine ⟨(vq_in hv).2.1, hs, fun hne => ih (j + 1) M1 (by omega) (by omega) fr ?_, fun he => inc_c (by omega) (by rw [cap10.1]; omega) (ih (j + 1) _ (by omega) (by omega) (fun o o1 o2 o3 o4 => by rw [mu_ne o1]; exact fr o o1 o2 o3 o4) ?_)⟩
      · rw [hnx]
        have : mv s d L[j] = L[j] := by unfold mv; rw [if_neg hne]
        rw [this]; exact hC
      · rw [hnx, e1]
        refine ⟨?_, fun i q hi => ?_⟩
        · rw [mu_ne (by omega), hC.1]; simp only [List.length_append, List.length_cons]
        · have hqq : ∀ c : Int, qM (mu M1 (10 + 1 + 1) (j : Int) ((L[j]).1 + d)) 10 c = if c = (j : Int) then ((L[j]).1 + d, (qM M1 10 c).2) else qM M1 10 c := fun c => by
            unfold qM
            simp (disch := omega) only [mu_ne, mu_eq]
            by_cases hcj : c = (j : Int)
            · simp only [if_pos hcj]
            · simp only [if_neg hcj]
          rw [hqq]
          by_cases hij : i = j
          · subst hij
            rw [if_pos rfl, hq]
            rw [List.getElem?_append_right (by omega), hlt2, Nat.sub_self] at hi
            have : mv s d L[i] = q := Option.some.inj hi
            rw [← this]; unfold mv; rw [if_pos he]
          · rw [if_neg (by omega)]
            refine hC.2 i q ?_
            by_cases hil : i < j
            · rw [List.getElem?_append_left (by omega)] at hi ⊢; exact hi
            · rw [List.getElem?_append_right (by omega)] at hi ⊢
              obtain ⟨e, he2⟩ : ∃ e, i - ((L.take j).map (mv s d)).length = e + 1 := ⟨i - ((L.take j).map (mv s d)).length - 1, by omega⟩
              rw [he2, List.getElem?_cons_succ] at hi ⊢
              exact hi
/-- what the cues are behind a shift -/
def SH (a : Int → Int) (s d : Int) (S : List Cu) : Prop := VL S ∧ ∀ q, q ∈ S ↔ q ∈ (LA a).map (mv s d)
theorem SH_uniq {a : Int → Int} {s d : Int} {S S' : List Cu} (h : SH a s d S) (h' : SH a s d S') : S = S' := srt_uniq S S' h.1.2.2 h'.1.2.2 (fun q => (h.2 q).trans (h'.2 q).symm)
theorem c_shift {M : Mm} {Q : Int → Mm → Prop} {a : Int → Int} {l : List (Int → Int)} {sn : Option (Int → Int)} {tl : Int} {t : Int → Int} {s d : Int} (hs : inR s) (hd : inR d) (h : RC M a l sn tl t) (k1 : (s < 0 ∨ 6 ≤ s) → ∀ M' : Mm, RC M' a l sn tl t → Q (-1) M') (k2 : 0 ≤ s → s < 6 → (d < -99 ∨ 99 < d) → ∀ M' : Mm, RC M' a l sn tl t → Q (-2) M') (k4 : 0 ≤ s → s < 6 → -99 ≤ d → d ≤ 99 → (¬ ∀ q ∈ LA a, cmv s d q) → ∀ M' : Mm, RC M' a l sn tl t → Q (-4) M')
    (k5 : 0 ≤ s → s < 6 → -99 ≤ d → d ≤ 99 → (∀ q ∈ LA a, cmv s d q) → (d = 0 ∨ isum (cntC a s) (a 36).toNat = 0) → ∀ M' : Mm, RC M' a l sn tl t → Q (-5) M') (k : 0 ≤ s → s < 6 → -99 ≤ d → d ≤ 99 → (∀ q ∈ LA a, cmv s d q) → d ≠ 0 → isum (cntC a s) (a 36).toNat ≠ 0 → ∀ (M' : Mm) (S : List Cu), SH a s d S → (∀ a', SO a a' → AL a' S → RC M' a' (push l a) sn tl t) → Q (isum (cntC a s) (a 36).toNat) M') : p_X7_shift gC 0 s d M Q := by
  have hV := h.2.1
  have h36 := hV.2.2.2.2.2.2.1
  have hVL := VL_LA hV
  have hC := CL_SR h.1 h36.1
  have hi := isum_in (f := cntC a s) (a 36).toNat (fun c _ _ => cntC_in)
  unfold p_X7_shift
  refine below_c hs ⟨by decide, by decide⟩ (fun s0 s1 => ⟨inR1, fun _ => ?_, fun q => absurd q (by decide)⟩) (fun q => ⟨inR0, fun z => absurd rfl z, fun _ => k1 q M h⟩)
  refine within_c hd ⟨by decide, by decide⟩ ⟨by decide, by decide⟩ (fun d0 d1 => ⟨inR1, fun _ => ?_, fun q => absurd q (by decide)⟩) (fun q => ⟨inR0, fun z => absurd rfl z, fun _ => k2 s0 s1 q M h⟩)
  unfold p_X0_canMove
  refine ⟨42, cm_c hC hVL hs ⟨d0, d1⟩ (fun hall => ⟨inR1, fun _ => ?_, fun q => absurd q (by decide)⟩) (fun hn => ⟨inR0, fun z => absurd rfl z, fun _ => k4 s0 s1 d0 d1 hn M h⟩) 42 0 (by omega) (by have := hVL.1; omega) (fun q hq => by simp at hq)⟩
  refine szC_c hV h.1 hs ⟨hd, fun hz => k5 s0 s1 d0 d1 hall (Or.inl hz) M h, fun hnz => ⟨inR_s (by omega) (by omega), fun hne => RC.rec h (fun M1 h1 f1 => ?_), fun he => k5 s0 s1 d0 d1 hall (Or.inr he) M h⟩⟩
  unfold p_X0_moveScene
  refine ⟨42, mvs_l (CL_SR h1.1 h36.1) hVL hs ⟨d0, d1⟩ hall (fun M2 S fb hC2 hl hS hm => ?_) 42 0 M1 (by omega) (by have := hVL.1; omega) (fun _ _ _ _ _ => rfl) (by simpa using CL_SR h1.1 h36.1)⟩
  have hSV : VL S := ⟨by have := hVL.1; omega, fun q hq => by
    obtain ⟨q0, h0, rfl⟩ := List.mem_map.mp ((hm q).mp hq)
    exact mv_vq (hVL.2.1 q0 h0) (hall q0 h0), hS⟩
  obtain ⟨f2, f10⟩ := k10 fb.z
  exact k s0 s1 d0 d1 hall hnz hne M2 S ⟨hSV, hm⟩ (h1.cues hSV hC2 f10 (fun o o1 _ _ => f2 o o1) (by rw [f2 115 (by omega)]))
theorem fil_len {p : Cu → Bool} : ∀ L : List Cu, (L.filter p).length + (L.filter (fun q => !p q)).length = L.length
  | [] => rfl
  | x :: L => by
    have ih := fil_len (p := p) L
    rw [List.filter_cons, List.filter_cons]
    cases h : p x <;> simp <;> omega
theorem shl_m {N0 : Mm} {Q : Int → Mm → Prop} {a : Int → Int} {l : List (Int → Int)} {sn : Option (Int → Int)} {tl : Int} {t : Int → Int} {s d r : Int} (hV : VR a) (hR : RM N0 a l sn tl t) (h2 : ∀ j : Int, 0 ≤ j → j < 201 → N0 2 j = a j) (s0 : 0 ≤ s ∧ s < 6) (hall : ∀ q ∈ LA a, cmv s d q) (k : ∀ (N' : Mm) (a' : Int → Int) (S : List Cu), SH a s d S → SO a a' → AL a' S → RM N' a' (push l a) sn tl t → Q r N') :
    ∀ (f j : Nat) (N1 : Mm) (S : List Cu), j ≤ (LA a).length → (LA a).length - j < f → frN N0 N1 → AL (N1 1) S → S.Pairwise lR → S.length = ((LA a).filter (nsc s)).length + (((LA a).take j).filter (fun q => !nsc s q)).length → (∀ q, q ∈ S ↔ (q ∈ LA a ∧ q.2.1 ≠ s) ∨ ∃ q0 ∈ (LA a).take j, q0.2.1 = s ∧ q = mv s d q0) → p_X8_shift_L68 gM f 0 s d r (41 + 4 * (j : Int)) N1 Q := by
  obtain ⟨g1, g6, g7, g8, g9, g10, g11, g12, g13, g14, g15⟩ := gl_m
  have l2 : gl gM 2 = 201 := by decide +kernel
  have h36 := hV.2.2.2.2.2.2.1
  have hVL := VL_LA hV
  have hlen : (LA a).length = (a 36).toNat := LA_len
  intro f
  induction f with
  | zero => intro j N1 S hj hf; omega
  | succ f ih =>
    intro j N1 S hj hf fr hA hS hl hm
    have q2 : ∀ j : Int, 0 ≤ j → j < 201 → N1 2 j = a j := fun j j0 j1 => by rw [fr.1 2 (by omega)]; exact h2 j j0 j1
    unfold p_X8_shift_L68
    simp only [Nat.zero_add, l2]
    rw [q2 36 (by omega) (by omega)]
    refine ⟨by omega, inR_s (by omega) (by omega), inR_s (by omega) (by omega), fun hge => ?_, fun hlt => ⟨by omega, by omega, ?_⟩⟩
    · rw [List.take_of_length_le (by omega)] at hm hl
      have hlS : S.length = (LA a).length := by rw [hl]; exact fil_len (LA a)
      obtain ⟨hso, hR2⟩ := hR.cues fr
      refine hR2.act (b := a) q2 (fun N' h' => k N' _ S ⟨⟨by omega, fun q hq => ?_, hS⟩, fun q => ?_⟩ hso hA h')
      · rcases (hm q).mp hq with ⟨h, -⟩ | ⟨q0, h0, -, rfl⟩
        · exact hVL.2.1 q h
        · exact mv_vq (hVL.2.1 q0 h0) (hall q0 h0)
      · rw [hm q, List.mem_map]
        constructor
        · rintro (⟨h, hne⟩ | ⟨q0, h0, -, rfl⟩)
          · exact ⟨q, h, by unfold mv; rw [if_neg hne]⟩
          · exact ⟨q0, h0, rfl⟩
        · rintro ⟨q0, h0, rfl⟩
          by_cases e : q0.2.1 = s
          · exact Or.inr ⟨q0, h0, e, rfl⟩
          · left
            have : mv s d q0 = q0 := by unfold mv; rw [if_neg e]
            rw [this]; exact ⟨h0, e⟩
    · have hjl : j < (LA a).length := by omega
      have hg : (LA a)[j]? = some (LA a)[j] := List.getElem?_eq_getElem hjl
      have hqa : (LA a)[j] = qA a j := (LA_inv hg).2
      have hv := hVL.2.1 _ (List.getElem_mem hjl)
      have htk : (LA a).take (j + 1) = (LA a).take j ++ [(LA a)[j]] := by rw [List.take_succ, hg]; rfl
      have e0 : a (41 + 4 * (j : Int) + 0) = ((LA a)[j]).2.1 := by rw [hqa]; rfl
      have e1 : a (41 + 4 * (j : Int) + 1) = ((LA a)[j]).1 := by rw [hqa]; rfl
      have e2 : a (41 + 4 * (j : Int) + 2) = ((LA a)[j]).2.2.1 := by rw [hqa]; rfl
      have e3 : a (41 + 4 * (j : Int) + 3) = ((LA a)[j]).2.2.2 := by rw [hqa]; rfl
      rw [q2 _ (by omega) (by omega), q2 _ (by omega) (by omega), q2 _ (by omega) (by omega), q2 _ (by omega) (by omega), e0, e1, e2, e3]
      rw [show 41 + 4 * (j : Int) + 4 = 41 + 4 * ((j + 1 : Nat) : Int) by omega]
      refine ⟨(vq_in hv).2.1, inR_s (by omega) (by omega), fun hne => ?_, fun he => ⟨by omega, by omega, by omega, by omega, by omega, by omega, ?_⟩⟩
      · refine ih (j + 1) N1 S (by omega) (by omega) fr hA hS ?_ (fun q => ?_)
        · rw [htk, List.filter_append, List.length_append, hl]
          have : [(LA a)[j]].filter (fun q => !nsc s q) = [] := by simp [nsc, hne]
          rw [this]; simp
        · rw [hm q, htk]
          constructor
          · rintro (h | ⟨q0, h0, e, z⟩)
            · exact Or.inl h
            · exact Or.inr ⟨q0, List.mem_append_left _ h0, e, z⟩
          · rintro (h | ⟨q0, h0, e, z⟩)
            · exact Or.inl h
            · rcases List.mem_append.mp h0 with h0 | h0
              · exact Or.inr ⟨q0, h0, e, z⟩
              · have : q0 = (LA a)[j] := by simpa using h0
                rw [this] at e; exact absurd e hne
      · have hcm := hall _ (List.getElem_mem hjl)
        have hmv : mv s d (LA a)[j] = (((LA a)[j]).1 + d, s, ((LA a)[j]).2.2.1, ((LA a)[j]).2.2.2) := by unfold mv; rw [if_pos he, he]
        have hmq := mv_vq hv hcm
        have hfl : (((LA a).take (j + 1)).filter (fun q => !nsc s q)).length = (((LA a).take j).filter (fun q => !nsc s q)).length + 1 := by
          rw [htk, List.filter_append, List.length_append]
          have : [(LA a)[j]].filter (fun q => !nsc s q) = [(LA a)[j]] := by simp [nsc, he]
          rw [this]; rfl
        have hsub : (((LA a).take (j + 1)).filter (fun q => !nsc s q)).length ≤ ((LA a).filter (fun q => !nsc s q)).length := ((List.take_sublist _ _).filter _).length_le
        have htot := fil_len (p := nsc s) (LA a)
        have hl40 := hVL.1
        have hmem : ∀ q ∈ S, vq q ∧ rq q ≠ rq (mv s d (LA a)[j]) := by
          intro q hq
          rcases (hm q).mp hq with ⟨h, hne⟩ | ⟨q0, h0, e, rfl⟩
          · have hvq := hVL.2.1 q h
            refine ⟨hvq, ?_⟩
            have h0 : mv s d q = q := by unfold mv; rw [if_neg hne]
            have := mv_ne (s := s) (d := d) hvq hv (by
              obtain ⟨-, x2, x3, -⟩ := hvq
              obtain ⟨-, y2, y3, -⟩ := hv
              unfold rq rk
              omega)
            rw [h0] at this; exact this
          · obtain ⟨i, hi⟩ := List.getElem?_of_mem h0
            have hil := (List.getElem?_eq_some_iff.mp hi).1
            rw [List.length_take] at hil
            rw [List.getElem?_take_of_lt (by omega)] at hi
            have hi2 := (List.getElem?_eq_some_iff.mp hi)
            have hvq := hVL.2.1 q0 (List.mem_of_getElem? hi)
            refine ⟨mv_vq hvq (hall q0 (List.mem_of_getElem? hi)), mv_ne hvq hv ?_⟩
            have hp := (List.pairwise_iff_getElem.mp hVL.2.2) i j hi2.1 hjl (by omega)
            rw [hi2.2] at hp
            omega
        refine pin_m (L := S) hA (by omega) (fun q hq => vq_rq (hmem q hq).1) (by have := vq_rq hmq; rw [hmv] at this; exact this) hS (fun q hq => by have := (hmem q hq).2; rw [hmv] at this; exact this) (fun N2 S2 fr2 hA2 hl2 hS2 hm2 => ?_)
        refine ih (j + 1) N2 S2 (by omega) (by omega) (fr.tr fr2) hA2 hS2 (by omega) (fun q => ?_)
        rw [hm2 q, hm q, htk]
        constructor
        · rintro (h | h | ⟨q0, h0, e, z⟩)
          · exact Or.inr ⟨(LA a)[j], List.mem_append_right _ (List.mem_singleton.mpr rfl), he, by rw [hmv]; exact h⟩
          · exact Or.inl h
          · exact Or.inr ⟨q0, List.mem_append_left _ h0, e, z⟩
        · rintro (h | ⟨q0, h0, e, z⟩)
          · exact Or.inr (Or.inl h)
          · rcases List.mem_append.mp h0 with h0 | h0
            · exact Or.inr (Or.inr ⟨q0, h0, e, z⟩)
            · have : q0 = (LA a)[j] := by simpa using h0
              rw [this, hmv] at z; exact Or.inl z
theorem m_shift {N : Mm} {Q : Int → Mm → Prop} {a : Int → Int} {l : List (Int → Int)} {sn : Option (Int → Int)} {tl : Int} {t : Int → Int} {s d : Int} (hs : inR s) (hd : inR d) (hV : VR a) (h : RM N a l sn tl t) (k1 : (s < 0 ∨ 6 ≤ s) → ∀ N' : Mm, RM N' a l sn tl t → Q (-1) N') (k2 : 0 ≤ s → s < 6 → (d < -99 ∨ 99 < d) → ∀ N' : Mm, RM N' a l sn tl t → Q (-2) N') (k4 : 0 ≤ s → s < 6 → -99 ≤ d → d ≤ 99 → (¬ ∀ q ∈ LA a, cmv s d q) → ∀ N' : Mm, RM N' a l sn tl t → Q (-4) N')
    (k5 : 0 ≤ s → s < 6 → -99 ≤ d → d ≤ 99 → (∀ q ∈ LA a, cmv s d q) → (d = 0 ∨ isum (cntC a s) (a 36).toNat = 0) → ∀ N' : Mm, RM N' a l sn tl t → Q (-5) N') (k : 0 ≤ s → s < 6 → -99 ≤ d → d ≤ 99 → (∀ q ∈ LA a, cmv s d q) → d ≠ 0 → isum (cntC a s) (a 36).toNat ≠ 0 → ∀ (N' : Mm) (a' : Int → Int) (S : List Cu), SH a s d S → SO a a' → AL a' S → RM N' a' (push l a) sn tl t → Q (isum (cntC a s) (a 36).toNat) N') : p_X8_shift gM 0 s d N Q := by
  have h36 := hV.2.2.2.2.2.2.1
  have hVL := VL_LA hV
  have hA := AL_of h36 h.1
  have hi := isum_in (f := cntC a s) (a 36).toNat (fun c _ _ => cntC_in)
  unfold p_X8_shift p_X8_isScene
  refine ⟨hs, in_m hs inR0 ⟨by decide, by decide⟩ (fun s0 s1 => ⟨Or.inr rfl, inR1, fun _ => ⟨hd, ?_⟩, fun q => absurd q (by decide)⟩) (fun q => ⟨Or.inl rfl, inR0, fun z => absurd rfl z, fun _ => k1 (by omega) N h⟩)⟩
  refine in_m hd ⟨by decide, by decide⟩ ⟨by decide, by decide⟩ (fun d0 d1 => ⟨inR1, fun _ => ?_, fun q => absurd q (by decide)⟩) (fun q => ⟨inR0, fun z => absurd rfl z, fun _ => k2 s0 (by omega) q N h⟩)
  unfold p_X8_canShift
  refine ⟨42, cm_m hA hVL hs ⟨d0, d1⟩ (fun hall => ⟨inR1, fun _ => ?_, fun q => absurd q (by decide)⟩) (fun hn => ⟨inR0, fun z => absurd rfl z, fun _ => k4 s0 (by omega) d0 d1 hn N h⟩) 42 0 1 (by omega) (by have := hVL.1; omega) (Or.inl ⟨rfl, fun q hq => by simp at hq⟩)⟩
  unfold p_X8_cuesOf
  refine ⟨42, co_m hV h.1 hs ⟨hd, fun hz => k5 s0 (by omega) d0 d1 hall (Or.inl hz) N h, fun hnz => ⟨inR_s (by omega) (by omega), fun hne => rem_m ?_, fun he => k5 s0 (by omega) d0 d1 hall (Or.inr he) N h⟩⟩ 42 0 (by omega) (by omega)⟩
  obtain ⟨hR, h2⟩ := h.rem
  generalize mcp N 1 2 201 = N1 at hR h2
  refine ots_m (AL_of h36 hR.1) (by rw [LA_len]; omega) hs (fun q hq => (vq_in (hVL.2.1 q hq)).2.1) (fun N2 fr hA2 => ⟨42, ?_⟩)
  refine shl_m hV hR h2 ⟨s0, by omega⟩ hall (k s0 (by omega) d0 d1 hall hnz hne) 42 0 N2 _ (by omega) (by have := hVL.1; omega) fr hA2 (hVL.2.2.sublist List.filter_sublist) (by simp) (fun q => ?_)
  rw [List.mem_filter]
  constructor
  · rintro ⟨h1, h3⟩
    exact Or.inl ⟨h1, by simpa [nsc] using h3⟩
  · rintro (⟨h1, h3⟩ | ⟨q0, h0, -⟩)
    · exact ⟨h1, by simpa [nsc] using h3⟩
    · simp at h0
