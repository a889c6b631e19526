/-! PURE: the reference takes cues out; removeCue and cutScene of both -/
/-- the reference's first array has other cues, all else is as it was -/
def frN (N N' : Mm) : Prop := (∀ o, o ≠ 1 → N' o = N o) ∧ ∀ k : Int, k < 41 → k ≠ 36 → N' 1 k = N 1 k
theorem frN.tr {A B C : Mm} (h : frN A B) (h2 : frN B C) : frN A C := ⟨fun o ho => (h2.1 o ho).trans (h.1 o ho), fun k h0 h1 => (h2.2 k h0 h1).trans (h.2 k h0 h1)⟩
theorem qA_eq {x y : Int → Int} {c d : Int} (h0 : x (41 + 4 * c + 0) = y (41 + 4 * d + 0)) (h1 : x (41 + 4 * c + 1) = y (41 + 4 * d + 1)) (h2 : x (41 + 4 * c + 2) = y (41 + 4 * d + 2)) (h3 : x (41 + 4 * c + 3) = y (41 + 4 * d + 3)) : qA x c = qA y d := by
  unfold qA tk sc sd la
  rw [h0, h1, h2, h3]
theorem out_l {N : Mm} {Q : Mm → Prop} {n : Nat} {c : Nat} (hn : n ≤ 39) (hc : c ≤ n) (h36 : N 1 36 = (n : Int)) (k : ∀ N' : Mm, frN N N' → N' 1 36 = N 1 36 → (∀ j, 41 ≤ j → j < 41 + 4 * (c : Int) → N' 1 j = N 1 j) → (∀ j, 41 + 4 * (c : Int) ≤ j → j < 41 + 4 * (n : Int) → N' 1 j = N 1 (j + 4)) → Q N') :
    ∀ (f : Nat) (i : Int) (N1 : Mm), 41 + 4 * (c : Int) ≤ i → i ≤ 41 + 4 * (n : Int) → 41 + 4 * (n : Int) - i < f → (∀ o, o ≠ 1 → N1 o = N o) → (∀ j, j < 41 + 4 * (c : Int) → N1 1 j = N 1 j) → (∀ j, 41 + 4 * (c : Int) ≤ j → j < i → N1 1 j = N 1 (j + 4)) → (∀ j, i ≤ j → N1 1 j = N 1 j) → p_X8_takesOut_L18 gM f 0 i N1 Q := by
  obtain ⟨g1, g6, g7, g8, g9, g10, g11, g12, g13, g14, g15⟩ := gl_m
  intro f
  induction f with
  | zero => intro i N1 i0 i1 hf; omega
  | succ f ih =>
    intro i N1 i0 i1 hf fr h1 h2 h3
    have e36 : N1 1 36 = (n : Int) := by rw [h1 36 (by omega)]; exact h36
    unfold p_X8_takesOut_L18
    simp only [Nat.zero_add, g1]
    rw [e36]
    refine ⟨by omega, inR_s (by omega) (by omega), inR_s (by omega) (by omega), fun hge => ?_, fun hlt => ⟨by omega, by omega, by omega, by omega, fun N2 e => ?_⟩⟩
    · exact k N1 ⟨fr, fun j hj _ => h1 j (by omega)⟩ (h1 36 (by omega)) (fun j j0 j1 => h1 j j1) (fun j j0 j1 => h2 j j0 (by omega))
    · have e2 : ∀ j, N2 1 j = if j = i then N1 1 (i + 4) else N1 1 j := fun j => by rw [e, mu_eq]
      refine ih (i + 1) N2 (by omega) (by omega) (by omega) (fun o ho => by rw [e, mu_ne ho, fr o ho]) (fun j hj => by rw [e2, if_neg (by omega)]; exact h1 j hj) (fun j j0 j1 => ?_) (fun j hj => by rw [e2, if_neg (by omega)]; exact h3 j (by omega))
      rw [e2]
      by_cases hji : j = i
      · rw [if_pos hji, hji, h3 _ (by omega)]
      · rw [if_neg hji]; exact h2 j j0 (by omega)
theorem out_m {N : Mm} {Q : Mm → Prop} {L : List Cu} {c : Nat} (hL : AL (N 1) L) (hn : L.length ≤ 40) (hc : c < L.length) (k : ∀ N' : Mm, frN N N' → AL (N' 1) (L.eraseIdx c) → Q N') : p_X8_takesOut gM 0 (c : Int) N Q := by
  obtain ⟨g1, g6, g7, g8, g9, g10, g11, g12, g13, g14, g15⟩ := gl_m
  obtain ⟨a1, a2⟩ := hL
  unfold p_X8_takesOut
  simp only [Nat.zero_add, g1]
  refine ⟨by omega, by omega, fun N1 e => ⟨162, ?_⟩⟩
  have e1 : ∀ j, N1 1 j = if j = 36 then (L.length : Int) - 1 else N 1 j := fun j => by rw [e, mu_eq, a1]
  refine out_l (N := N1) (n := L.length - 1) (c := c) (by omega) (by omega) (by rw [e1, if_pos rfl]; omega) (fun N2 fr q36 q1 q2 => ?_) 162 (41 + 4 * (c : Int)) N1 (by omega) (by omega) (by omega) (fun _ _ => rfl) (fun _ _ => rfl) (fun j j0 j1 => by omega) (fun _ _ => rfl)
  refine k N2 ⟨fun o ho => by rw [fr.1 o ho, e, mu_ne ho], fun j hj hj2 => by rw [fr.2 j hj hj2, e1, if_neg hj2]⟩ ⟨?_, fun i q hi => ?_⟩
  · rw [q36, e1, if_pos rfl, List.length_eraseIdx_of_lt hc]; omega
  · rw [List.getElem?_eraseIdx] at hi
    by_cases hic : i < c
    · rw [if_pos hic] at hi
      rw [← a2 i q hi]
      have z : ∀ j, 41 ≤ j → j < 41 + 4 * (c : Int) → N2 1 j = N 1 j := fun j j0 j1 => by rw [q1 j j0 j1, e1, if_neg (by omega)]
      exact qA_eq (z _ (by omega) (by omega)) (z _ (by omega) (by omega)) (z _ (by omega) (by omega)) (z _ (by omega) (by omega))
    · rw [if_neg hic] at hi
      have hlt := (List.getElem?_eq_some_iff.mp hi).1
      rw [← a2 (i + 1) q hi]
      have z : ∀ j, 41 + 4 * (c : Int) ≤ j → j < 41 + 4 * ((L.length - 1 : Nat) : Int) → N2 1 j = N 1 (j + 4) := fun j j0 j1 => by rw [q2 j j0 j1, e1, if_neg (by omega)]
      refine qA_eq ?_ ?_ ?_ ?_
      · rw [z _ (by omega) (by omega)]; congr 1
      · rw [z _ (by omega) (by omega)]; congr 1
      · rw [z _ (by omega) (by omega)]; congr 1
      · rw [z _ (by omega) (by omega)]; congr 1
theorem ots_l {N : Mm} {Q : Mm → Prop} {L : List Cu} {s : Int} (hn : L.length ≤ 40) (hs : inR s) (hv : ∀ q ∈ L, inR q.2.1) (k : ∀ N' : Mm, frN N N' → AL (N' 1) (L.filter (nsc s)) → Q N') :
    ∀ (j f : Nat) (N1 : Mm), j ≤ L.length → j < f → frN N N1 → AL (N1 1) (L.take j ++ (L.drop j).filter (nsc s)) → p_X8_takesOutScene_L10 gM f 0 s ((j : Int) - 1) N1 Q := by
  intro j
  induction j with
  | zero =>
    intro f N1 hj hf fr hA
    obtain ⟨f', rfl⟩ : ∃ f', f = f' + 1 := ⟨f - 1, by omega⟩
    unfold p_X8_takesOutScene_L10
    refine ⟨inR_s (by omega) (by omega), fun _ => ?_, fun h => absurd h (by omega)⟩
    exact k N1 fr (by simpa using hA)
  | succ j ih =>
    intro f N1 hj hf fr hA
    obtain ⟨f', rfl⟩ : ∃ f', f = f' + 1 := ⟨f - 1, by omega⟩
    have hjl : j < L.length := by omega
    have htk : L.take (j + 1) = L.take j ++ [L[j]] := by rw [List.take_succ, List.getElem?_eq_getElem hjl]; rfl
    have hdr : L.drop j = L[j] :: L.drop (j + 1) := List.drop_eq_getElem_cons hjl
    have hlen : (L.take j).length = j := by rw [List.length_take]; omega
    have hge : (L.take (j + 1) ++ (L.drop (j + 1)).filter (nsc s))[j]? = some L[j] := by
      rw [htk, List.append_assoc, List.getElem?_append_right (by omega), hlen, Nat.sub_self]; rfl
    have hq := hA.2 j _ hge
    have hsc : N1 1 (41 + 4 * (j : Int) + 0) = (L[j]).2.1 := by rw [← hq]; rfl
    have hlt : (L.take (j + 1) ++ (L.drop (j + 1)).filter (nsc s)).length ≤ 40 := by
      have a1 := List.length_filter_le (nsc s) (L.drop (j + 1))
      rw [List.length_drop] at a1
      rw [List.length_append, List.length_take]; omega
    unfold p_X8_takesOutScene_L10
    rw [show ((j + 1 : Nat) : Int) - 1 = (j : Int) by omega]
    refine ⟨inR_s (by omega) (by omega), fun h => absurd h (by omega), fun _ => of_m (by omega) (by omega) ?_⟩
    rw [hsc]
    refine ⟨hv _ (List.getElem_mem hjl), hs, fun hne => ?_, fun he => ?_⟩
    · have := ih f' N1 (by omega) (by omega) fr (by
        rw [hdr]
        rw [htk, List.append_assoc] at hA
        have : (L[j] :: L.drop (j + 1)).filter (nsc s) = [L[j]] ++ (L.drop (j + 1)).filter (nsc s) := List.filter_cons_of_pos (by simp [nsc, hne])
        rw [this]; exact hA)
      rw [show (j : Int) + -1 = (j : Int) - 1 by omega]; exact this
    · have hjj : j < (L.take (j + 1) ++ (L.drop (j + 1)).filter (nsc s)).length := (List.getElem?_eq_some_iff.mp hge).1
      refine out_m hA hlt hjj (fun N2 fr2 hA2 => ?_)
      have hE : (L.take (j + 1) ++ (L.drop (j + 1)).filter (nsc s)).eraseIdx j = L.take j ++ (L.drop j).filter (nsc s) := by
        rw [htk, List.append_assoc, hdr]
        have : (L[j] :: L.drop (j + 1)).filter (nsc s) = (L.drop (j + 1)).filter (nsc s) := List.filter_cons_of_neg (by simp [nsc, he])
        rw [this, List.eraseIdx_append_of_length_le (by omega), hlen, Nat.sub_self]; rfl
      rw [hE] at hA2
      have := ih f' N2 (by omega) (by omega) (fr.tr fr2) hA2
      rw [show (j : Int) + -1 = (j : Int) - 1 by omega]; exact this
theorem ots_m {N : Mm} {Q : Mm → Prop} {L : List Cu} {s : Int} (hL : AL (N 1) L) (hn : L.length ≤ 40) (hs : inR s) (hv : ∀ q ∈ L, inR q.2.1) (k : ∀ N' : Mm, frN N N' → AL (N' 1) (L.filter (nsc s)) → Q N') : p_X8_takesOutScene gM 0 s N Q := by
  obtain ⟨g1, g6, g7, g8, g9, g10, g11, g12, g13, g14, g15⟩ := gl_m
  unfold p_X8_takesOutScene
  simp only [Nat.zero_add, g1]
  rw [hL.1]
  refine ⟨by omega, 42, ots_l hn hs hv k L.length 42 N (Nat.le_refl _) (by omega) ⟨fun _ _ => rfl, fun _ _ _ => rfl⟩ ?_⟩
  rw [List.take_length, List.drop_length]
  simpa using hL
/-- after the reference has remembered: other cues, and then the act -/
theorem RM.cues {N N' : Mm} {a : Int → Int} {l : List (Int → Int)} {sn : Option (Int → Int)} {tl : Int} {t : Int → Int} (h : RM N a l sn tl t) (f : frN N N') : SO a (N' 1) ∧ RM N' (N' 1) l sn tl t := by
  refine ⟨fun k k0 k1 k2 => ?_, h.all (fun k _ _ => rfl) (fun j _ => by rw [f.1 0 (by omega)]) (f.1 4 (by omega)) (f.1 5 (by omega)) (f.1 16 (by omega))⟩
  rw [f.2 k k1 k2]; exact h.1 k k0 (by omega)
theorem AL_of {a b : Int → Int} (h36 : 0 ≤ a 36 ∧ a 36 ≤ 40) (e : ∀ k : Int, 0 ≤ k → k < 201 → b k = a k) : AL b (LA a) := by
  refine ⟨by rw [e 36 (by omega) (by omega), LA_len]; omega, fun i q hq => ?_⟩
  obtain ⟨h1, rfl⟩ := LA_inv hq
  exact qA_eq (e _ (by omega) (by omega)) (e _ (by omega) (by omega)) (e _ (by omega) (by omega)) (e _ (by omega) (by omega))
theorem vq_in {q : Cu} (h : vq q) : inR q.1 ∧ inR q.2.1 ∧ inR q.2.2.1 ∧ inR q.2.2.2 := by
  obtain ⟨h1, h2, h3, h4⟩ := h
  exact ⟨inR_s (by omega) (by omega), inR_s (by omega) (by omega), inR_s (by omega) (by omega), inR_s (by omega) (by omega)⟩
theorem VL.sub {L L' : List Cu} (h : VL L) (hs : L'.Sublist L) : VL L' := ⟨Nat.le_trans hs.length_le h.1, fun q hq => h.2.1 q (hs.subset hq), h.2.2.sublist hs⟩
theorem k10 {M M' : Mm} (h : frZ 10 M M') : (∀ o, (o < 10 ∨ 19 ≤ o) → M' o = M o) ∧ M' 10 0 = M 10 0 := ⟨fun o ho => h.1 o (by omega) (by omega) (by omega) (by omega) (by omega), h.2 0 (by omega)⟩
theorem c_removeCue {M : Mm} {Q : Int → Mm → Prop} {a : Int → Int} {l : List (Int → Int)} {sn : Option (Int → Int)} {tl : Int} {t : Int → Int} {c : Int} (hc : inR c) (h : RC M a l sn tl t) (k0 : (c < 0 ∨ a 36 ≤ c) → ∀ M' : Mm, RC M' a l sn tl t → Q (-1) M') (k1 : 0 ≤ c → c < a 36 → ∀ M' : Mm, (∀ a', SO a a' → AL a' ((LA a).eraseIdx c.toNat) → RC M' a' (push l a) sn tl t) → Q (a 36 - 1) M') : p_X7_removeCue gC 0 c M Q := by
  have hV := h.2.1
  have h36 := hV.2.2.2.2.2.2.1
  have e36 : M (0 + 1 + 9) 5 = a 36 := h.1.2.2.2.2.2.1
  unfold p_X7_removeCue
  rw [e36]
  refine below_c hc (inR_s (by omega) (by omega)) (fun c0 c1 => ⟨inR1, fun _ => RC.rec h (fun M1 h1 f1 => ?_), fun q => absurd q (by decide)⟩) (fun q => ⟨inR0, fun z => absurd rfl z, fun _ => k0 q M h⟩)
  obtain ⟨m, rfl⟩ : ∃ m : Nat, c = m := ⟨c.toNat, by omega⟩
  have hcl := CL_SR h1.1 h36.1
  refine rmv_c cap10 hcl (by rw [LA_len]; omega) (by omega) (by rw [LA_len]; omega) (fun M2 fz hC => ?_)
  have e5 : M2 (0 + 1 + 9) 5 = a 36 - 1 := by
    have : M2 10 5 = _ := hC.1
    show M2 10 5 = _
    rw [this, List.length_eraseIdx_of_lt (by rw [LA_len]; omega), LA_len]; omega
  rw [e5]
  obtain ⟨f2, f10⟩ := k10 fz
  exact k1 c0 c1 M2 (h1.cues ((VL_LA hV).sub (List.eraseIdx_sublist _ _)) hC f10 (fun o o1 _ _ => f2 o o1) (by rw [f2 115 (by omega)]))
theorem m_removeCue {N : Mm} {Q : Int → Mm → Prop} {a : Int → Int} {l : List (Int → Int)} {sn : Option (Int → Int)} {tl : Int} {t : Int → Int} {c : Int} (hc : inR c) (hV : VR a) (h : RM N a l sn tl t) (k0 : (c < 0 ∨ a 36 ≤ c) → ∀ N' : Mm, RM N' a l sn tl t → Q (-1) N') (k1 : 0 ≤ c → c < a 36 → ∀ (N' : Mm) (a' : Int → Int), SO a a' → AL a' ((LA a).eraseIdx c.toNat) → RM N' a' (push l a) sn tl t → Q (a 36 - 1) N') : p_X8_removeCue gM 0 c N Q := by
  obtain ⟨g1, g6, g7, g8, g9, g10, g11, g12, g13, g14, g15⟩ := gl_m
  have h36 := hV.2.2.2.2.2.2.1
  have e36 : N (0 + 1) 36 = a 36 := h.1 36 (by omega) (by omega)
  unfold p_X8_removeCue p_X8_isCue
  rw [e36, show gl gM (0 + 1) = 201 from g1]
  refine ⟨hc, by omega, inR_s (by omega) (by omega), in_m hc inR0 (inR_s (by omega) (by omega)) (fun c0 c1 => ⟨Or.inr rfl, inR1, fun _ => rem_m ?_, fun q => absurd q (by decide)⟩) (fun q => ⟨Or.inl rfl, inR0, fun z => absurd rfl z, fun _ => k0 (by omega) N h⟩)⟩
  obtain ⟨hR, h2⟩ := h.rem
  generalize mcp N 1 2 201 = N1 at hR h2
  obtain ⟨m, rfl⟩ : ∃ m : Nat, c = m := ⟨c.toNat, by omega⟩
  refine out_m (AL_of h36 hR.1) (by rw [LA_len]; omega) (by rw [LA_len]; omega) (fun N2 fr hA => ⟨by omega, ?_⟩)
  obtain ⟨hso, hR2⟩ := hR.cues fr
  have e5 : N2 (0 + 1) 36 = a 36 - 1 := by
    have : N2 1 36 = _ := hA.1
    show N2 1 36 = _
    rw [this, List.length_eraseIdx_of_lt (by rw [LA_len]; omega), LA_len]; omega
  rw [e5]
  exact hR2.act (b := a) (fun j j0 j1 => by rw [fr.1 2 (by omega)]; exact h2 j j0 j1) (fun N' h' => k1 c0 (by omega) N' _ hso hA h')
/-! cutScene -/
theorem c_cutScene {M : Mm} {Q : Int → Mm → Prop} {a : Int → Int} {l : List (Int → Int)} {sn : Option (Int → Int)} {tl : Int} {t : Int → Int} {s : Int} (hs : inR s) (h : RC M a l sn tl t) (k0 : (s < 0 ∨ 6 ≤ s) → ∀ M' : Mm, RC M' a l sn tl t → Q (-1) M') (kn : 0 ≤ s → s < 6 → isum (cntC a s) (a 36).toNat = 0 → ∀ M' : Mm, RC M' a l sn tl t → Q (-5) M') (k1 : 0 ≤ s → s < 6 → isum (cntC a s) (a 36).toNat ≠ 0 → ∀ M' : Mm, (∀ a', SO a a' → AL a' ((LA a).filter (nsc s)) → RC M' a' (push l a) sn tl t) → Q (isum (cntC a s) (a 36).toNat) M') : p_X7_cutScene gC 0 s M Q := by
  have hV := h.2.1
  have h36 := hV.2.2.2.2.2.2.1
  have hVL := VL_LA hV
  have hi := isum_in (f := cntC a s) (a 36).toNat (fun c _ _ => cntC_in)
  unfold p_X7_cutScene
  refine below_c hs ⟨by decide, by decide⟩ (fun s0 s1 => ⟨inR1, fun _ => szC_c hV h.1 hs ⟨inR_s (by omega) (by omega), fun hne => RC.rec h (fun M1 h1 f1 => ?_), fun he => kn s0 s1 he M h⟩, fun q => absurd q (by decide)⟩) (fun q => ⟨inR0, fun z => absurd rfl z, fun _ => k0 q M h⟩)
  refine rms_c cap10 (CL_SR h1.1 h36.1) (by rw [LA_len]; omega) (by omega) hs (fun q hq => (vq_in (hVL.2.1 q hq)).2.1) (fun M2 fz hC => ?_)
  obtain ⟨f2, f10⟩ := k10 fz
  exact k1 s0 s1 hne M2 (h1.cues (hVL.sub List.filter_sublist) hC f10 (fun o o1 _ _ => f2 o o1) (by rw [f2 115 (by omega)]))
theorem m_cutScene {N : Mm} {Q : Int → Mm → Prop} {a : Int → Int} {l : List (Int → Int)} {sn : Option (Int → Int)} {tl : Int} {t : Int → Int} {s : Int} (hs : inR s) (hV : VR a) (h : RM N a l sn tl t) (k0 : (s < 0 ∨ 6 ≤ s) → ∀ N' : Mm, RM N' a l sn tl t → Q (-1) N') (kn : 0 ≤ s → s < 6 → isum (cntC a s) (a 36).toNat = 0 → ∀ N' : Mm, RM N' a l sn tl t → Q (-5) N') (k1 : 0 ≤ s → s < 6 → isum (cntC a s) (a 36).toNat ≠ 0 → ∀ (N' : Mm) (a' : Int → Int), SO a a' → AL a' ((LA a).filter (nsc s)) → RM N' a' (push l a) sn tl t → Q (isum (cntC a s) (a 36).toNat) N') : p_X8_cutScene gM 0 s N Q := by
  have h36 := hV.2.2.2.2.2.2.1
  have hVL := VL_LA hV
  have hi := isum_in (f := cntC a s) (a 36).toNat (fun c _ _ => cntC_in)
  unfold p_X8_cutScene p_X8_isScene
  refine ⟨hs, in_m hs inR0 ⟨by decide, by decide⟩ (fun s0 s1 => ⟨Or.inr rfl, inR1, fun _ => ?_, fun q => absurd q (by decide)⟩) (fun q => ⟨Or.inl rfl, inR0, fun z => absurd rfl z, fun _ => k0 (by omega) N h⟩)⟩
  unfold p_X8_cuesOf
  refine ⟨42, co_m hV h.1 hs ⟨inR_s (by omega) (by omega), fun hne => rem_m ?_, fun he => kn s0 (by omega) he N h⟩ 42 0 (by omega) (by omega)⟩
  obtain ⟨hR, h2⟩ := h.rem
  generalize mcp N 1 2 201 = N1 at hR h2
  refine ots_m (AL_of h36 hR.1) (by rw [LA_len]; omega) hs (fun q hq => (vq_in (hVL.2.1 q hq)).2.1) (fun N2 fr hA => ?_)
  obtain ⟨hso, hR2⟩ := hR.cues fr
  exact hR2.act (b := a) (fun j j0 j1 => by rw [fr.1 2 (by omega)]; exact h2 j j0 j1) (fun N' h' => k1 s0 (by omega) hne N' _ hso hA h')
