/-! PURE: readCues, the reference -/
def TW (W : List Cu) (q : Cu) (b : Int) : Prop := (b = 0 ∧ ∀ y ∈ W, nR y q) ∨ (b = 1 ∧ ∃ y ∈ W, rq y = rq q)
theorem TW.snoc {W : List Cu} {q y : Cu} (h : TW W q 0) : (rq y ≠ rq q → TW (W ++ [y]) q 0) ∧ (rq y = rq q → TW (W ++ [y]) q 1) := by
  rcases h with ⟨-, h⟩ | ⟨h, -⟩
  · refine ⟨fun hn => Or.inl ⟨rfl, fun z hz => ?_⟩, fun he => Or.inr ⟨rfl, y, by simp, he⟩⟩
    rcases List.mem_append.mp hz with e | e
    · exact h z e
    · have : z = y := by simpa using e
      rw [this]; exact hn
  · exact absurd h (by decide)
theorem TW.more {W Z : List Cu} {q : Cu} {b : Int} (h : TW W q b) (hb : b ≠ 0) : TW (W ++ Z) q 1 := by
  rcases h with ⟨h, -⟩ | ⟨-, y, hy, e⟩
  · exact absurd h hb
  · exact Or.inr ⟨rfl, y, List.mem_append_left _ hy, e⟩
theorem TW.in {W : List Cu} {q : Cu} {b : Int} (h : TW W q b) : b = 0 ∨ b = 1 := by
  rcases h with ⟨h, -⟩ | ⟨h, -⟩
  · exact Or.inl h
  · exact Or.inr h
theorem TW.r {W : List Cu} {q : Cu} {b : Int} (h : TW W q b) : inR b := by
  rcases h.in with e | e
  · rw [e]; exact inR0
  · rw [e]; exact inR1
theorem rr_m {N : Mm} {Q : Int → Mm → Prop} {P : List Cu} {i : Nat} {q : Cu} (hP : RdL N P) (hn : P.length ≤ 12) (hi : P[i]? = some q) (k : Q (rq q) N) : p_X8_rankRead gM 0 (i : Int) N Q := by
  have hlt := (List.getElem?_eq_some_iff.mp hi).1
  have e := hP.2 i q hi
  unfold p_X8_rankRead p_X8_rankOf
  simp only [Nat.zero_add, l17]
  refine ⟨by omega, by omega, by omega, by omega, by omega, by omega, ?_⟩
  have : (((N 17 (4 * (i : Int) + 1) * 6 + N 17 (4 * (i : Int) + 0)) * 10) + N 17 (4 * (i : Int) + 2)) = rq q := by rw [← e]; rfl
  rw [this]; exact k
theorem tk_s {L : List Cu} {j : Nat} (h : j < L.length) : L.take (j + 1) = L.take j ++ [L[j]] := by rw [List.take_succ, List.getElem?_eq_getElem h]; rfl
theorem tw2_l {N : Mm} {Q : Int → Mm → Prop} {L P : List Cu} {i : Nat} {q : Cu} (hP : RdL N P) (hn : P.length ≤ 12) (hr : rgq P) (hi : P[i]? = some q) (k : ∀ b, TW (L ++ P.take i) q b → Q b N) :
    ∀ (f j : Nat) (b : Int), j ≤ i → i - j < f → TW (L ++ P.take j) q b → p_X8_isTwice_L46 gM f 0 (i : Int) b (j : Int) N Q := by
  have hlt := (List.getElem?_eq_some_iff.mp hi).1
  have hq := hr q (List.mem_of_getElem? hi)
  intro f
  induction f with
  | zero => intro j b h1 h2; omega
  | succ f ih =>
    intro j b hj hf hT
    unfold p_X8_isTwice_L46
    refine ⟨inR_s (by omega) (by omega), inR_s (by omega) (by omega), fun hge => ⟨hT.in, k b ?_⟩, fun hl => ?_⟩
    · rw [show i = j by omega]; exact hT
    · have hjl : j < P.length := by omega
      have hs := tk_s hjl
      rw [show (j : Int) + 1 = ((j + 1 : Nat) : Int) by omega]
      refine ⟨hT.r, fun hb => ih (j + 1) 1 (by omega) (by omega) ?_, fun hb => ?_⟩
      · rw [hs, ← List.append_assoc]; exact hT.more hb
      · subst hb
        have hg := List.getElem?_eq_getElem hjl
        refine rr_m hP hn hg (rr_m hP hn hi ⟨hr _ (List.getElem_mem hjl), hq, fun hne => ih (j + 1) 0 (by omega) (by omega) ?_, fun he => ih (j + 1) 1 (by omega) (by omega) ?_⟩)
        · rw [hs, ← List.append_assoc]; exact hT.snoc.1 hne
        · rw [hs, ← List.append_assoc]; exact hT.snoc.2 he
theorem tw_l {N : Mm} {Q : Int → Mm → Prop} {L P : List Cu} {i : Nat} {q : Cu} (hA : AL (N 1) L) (hL : L.length ≤ 40) (hrL : rgq L) (hP : RdL N P) (hn : P.length ≤ 12) (hr : rgq P) (hi : P[i]? = some q) (k : ∀ b, TW (L ++ P.take i) q b → Q b N) :
    ∀ (f j : Nat) (b : Int), j ≤ L.length → L.length - j < f → TW (L.take j) q b → p_X8_isTwice_L4 gM f 0 (i : Int) b (j : Int) N Q := by
  have l1 : gl gM 1 = 201 := by decide +kernel
  have hlt := (List.getElem?_eq_some_iff.mp hi).1
  have hq := hr q (List.mem_of_getElem? hi)
  intro f
  induction f with
  | zero => intro j b h1 h2; omega
  | succ f ih =>
    intro j b hj hf hT
    unfold p_X8_isTwice_L4
    simp only [Nat.zero_add, l1]
    rw [hA.1]
    refine ⟨by decide, inR_s (by omega) (by omega), inR_s (by omega) (by omega), fun hge => ⟨14, ?_⟩, fun hl => ?_⟩
    · rw [List.take_of_length_le (by omega)] at hT
      exact tw2_l hP hn hr hi k 14 0 b (by omega) (by omega) (by simpa using hT)
    · have hjl : j < L.length := by omega
      have hs := tk_s hjl
      rw [show (j : Int) + 1 = ((j + 1 : Nat) : Int) by omega]
      refine ⟨hT.r, fun hb => ih (j + 1) 1 (by omega) (by omega) ?_, fun hb => ?_⟩
      · rw [hs]; exact hT.more hb
      · subst hb
        have hg := List.getElem?_eq_getElem hjl
        refine rankAt_m hA hL hg (rr_m hP hn hi ⟨hrL _ (List.getElem_mem hjl), hq, fun hne => ih (j + 1) 0 (by omega) (by omega) ?_, fun he => ih (j + 1) 1 (by omega) (by omega) ?_⟩)
        · rw [hs]; exact hT.snoc.1 hne
        · rw [hs]; exact hT.snoc.2 he
theorem put_l {N0 : Mm} {Q : Int → Mm → Prop} {a : Int → Int} {l : List (Int → Int)} {sn : Option (Int → Int)} {tl : Int} {t : Int → Int} {P : List Cu} (hV : VR a) (hR : RM N0 a l sn tl t) (h2 : ∀ j : Int, 0 ≤ j → j < 201 → N0 2 j = a j) (hP : RdL N0 P) (hn : P.length ≤ 12) (hv : ∀ q ∈ P, vq q) (hW : (LA a ++ P).Pairwise nR) (h40 : (LA a ++ P).length ≤ 40) (k : ∀ (N' : Mm) (a' : Int → Int) (S : List Cu), RD a P S → SO a a' → AL a' S → RM N' a' (push l a) sn tl t → Q ((LA a ++ P).length : Int) N') :
    ∀ (f j : Nat) (N1 : Mm) (S : List Cu), j ≤ P.length → P.length - j < f → frN N0 N1 → AL (N1 1) S → S.Pairwise lR → S.length = (LA a).length + j → (∀ q, q ∈ S ↔ q ∈ LA a ++ P.take j) → p_X8_readCues_L69 gM f 0 (j : Int) N1 Q := by
  have l1 : gl gM 1 = 201 := by decide +kernel
  have hVL := VL_LA hV
  have hlen : (LA a ++ P).length = (LA a).length + P.length := List.length_append
  intro f
  induction f with
  | zero => intro j N1 S hj hf; omega
  | succ f ih =>
    intro j N1 S hj hf fr hA hS hl hm
    have q2 : ∀ j : Int, 0 ≤ j → j < 201 → N1 2 j = a j := fun j j0 j1 => by rw [fr.1 2 (by omega)]; exact h2 j j0 j1
    have e24 : N1 0 24 = (P.length : Int) := by rw [fr.1 0 (by omega)]; exact hP.1
    unfold p_X8_readCues_L69
    simp only [Nat.zero_add, l1, l17]
    rw [e24]
    refine ⟨inR_s (by omega) (by omega), inR_s (by omega) (by omega), fun hge => ⟨by decide, ?_⟩, fun hlt => ⟨by omega, by omega, by omega, by omega, by omega, by omega, by omega, by omega, ?_⟩⟩
    · rw [List.take_of_length_le (by omega)] at hm
      obtain ⟨hso, hR2⟩ := hR.cues fr
      have e36 : N1 1 36 = ((LA a ++ P).length : Int) := by rw [hA.1]; omega
      rw [e36]
      refine hR2.act (b := a) q2 (fun N' h' => k N' _ S ⟨⟨by omega, fun q hq => ?_, hS⟩, hm⟩ hso hA h')
      rcases List.mem_append.mp ((hm q).mp hq) with h | h
      · exact hVL.2.1 q h
      · exact hv q h
    · have hjl : j < P.length := by omega
      have hg : P[j]? = some P[j] := List.getElem?_eq_getElem hjl
      have hs := tk_s hjl
      have hq := hP.2 j _ hg
      have hvq := hv _ (List.getElem_mem hjl)
      have e0 : N1 17 (4 * (j : Int)) = (P[j]).2.1 := by rw [fr.1 17 (by omega), ← hq]; show _ = N0 17 (4 * (j : Int) + 0); rw [Int.add_zero]
      have e1 : N1 17 (4 * (j : Int) + 1) = (P[j]).1 := by rw [fr.1 17 (by omega), ← hq]; rfl
      have e2 : N1 17 (4 * (j : Int) + 2) = (P[j]).2.2.1 := by rw [fr.1 17 (by omega), ← hq]; rfl
      have e3 : N1 17 (4 * (j : Int) + 3) = (P[j]).2.2.2 := by rw [fr.1 17 (by omega), ← hq]; rfl
      rw [e0, e1, e2, e3, show (j : Int) + 1 = ((j + 1 : Nat) : Int) by omega]
      have hmem : ∀ q ∈ S, vq q ∧ rq q ≠ rq P[j] := fun q hq => by
        have hqm := (hm q).mp hq
        have hp : ((LA a ++ P.take j) ++ [P[j]]).Pairwise nR := by
          rw [List.append_assoc, ← hs]
          exact hW.sublist ((List.Sublist.refl _).append (List.take_sublist _ _))
        refine ⟨?_, (nR_snoc.mp hp).2 q hqm⟩
        rcases List.mem_append.mp hqm with h | h
        · exact hVL.2.1 q h
        · exact hv q (List.mem_of_mem_take h)
      refine pin_m (L := S) hA (by omega) (fun q hq => vq_rq (hmem q hq).1) (vq_rq hvq) hS (fun q hq => (hmem q hq).2) (fun N2 S2 fr2 hA2 hl2 hS2 hm2 => ?_)
      refine ih (j + 1) N2 S2 (by omega) (by omega) (fr.tr fr2) hA2 hS2 (by omega) (fun q => ?_)
      rw [hm2 q, hm q, hs, ← List.append_assoc, List.mem_append (s := LA a ++ P.take j), List.mem_singleton]
      exact Or.comm
theorem m_readCues {N : Mm} {Q : Int → Mm → Prop} {a : Int → Int} {l : List (Int → Int)} {sn : Option (Int → Int)} {tl : Int} {t : Int → Int} (tv : TV t tl) (hV : VR a) (h : RM N a l sn tl t)
    (kf : ∀ e, pall t tl 61 0 [] = .inl e → ∀ N' : Mm, RM N' a l sn tl t → Q (-100 - e) N')
    (kt : ∀ P, pall t tl 61 0 [] = .inr P → ¬ (LA a ++ P).Pairwise nR → ∀ N' : Mm, RM N' a l sn tl t → Q (-4) N')
    (km : ∀ P, pall t tl 61 0 [] = .inr P → (LA a ++ P).Pairwise nR → 40 < (LA a ++ P).length → ∀ N' : Mm, RM N' a l sn tl t → Q (-3) N')
    (k : ∀ P, pall t tl 61 0 [] = .inr P → (LA a ++ P).Pairwise nR → (LA a ++ P).length ≤ 40 → ∀ (N' : Mm) (a' : Int → Int) (S : List Cu), RD a P S → SO a a' → AL a' S → RM N' a' (push l a) sn tl t → Q ((LA a ++ P).length : Int) N') : p_X8_readCues gM 0 N Q := by
  have l1 : gl gM 1 = 201 := by decide +kernel
  have tv1 := tv.1
  have tv2 := tv.2.1
  have h36 := hV.2.2.2.2.2.2.1
  have hVL := VL_LA hV
  unfold p_X8_readCues p_X8_fault
  intro N1 e1 N2 e2
  have f2 : frQ N N2 := ⟨fun o ho _ => by rw [e2, mu_ne ho, e1, mu_ne ho], fun j j1 j2 j3 => by
    rw [e2, mu_eq]; show (if j = 24 then _ else N1 0 j) = _
    rw [if_neg j3, e1, mu_eq]; exact if_neg j1⟩
  have z21 : N2 0 21 = 0 := by
    rw [e2, mu_eq]; show (if (21 : Int) = 24 then _ else N1 0 21) = _
    rw [if_neg (by decide), e1, mu_eq]; exact if_pos rfl
  have z24 : N2 0 24 = 0 := by rw [e2, mu_eq]; exact if_pos rfl
  have keep : ∀ N', frQ N N' → RM N' a l sn tl t := fun N' f => h.all (fun k k0 k1 => by rw [f.1 1 (by decide) (by decide)]; exact h.1 k k0 k1) (fun j hj => f.2 j (by omega) (by omega) (by omega)) (f.1 4 (by decide) (by decide)) (f.1 5 (by decide) (by decide)) (f.1 16 (by decide) (by decide))
  refine ⟨62, ft_l (r := pall t tl 61 0 []) h.2.2.2 tv (fun e e0 e1 he N3 f3 => ?_) (fun P hP hv hn N3 f3 hL3 => ?_) 61 0 [] N2 (by omega) (by omega) (by omega) f2 z21 ⟨z24, fun i q hi => by simp at hi⟩ (fun q hq => by simp at hq) (by simp) rfl⟩
  · exact ⟨inR_s (by omega) (by omega), fun z => by omega, fun _ => kf e he N3 (keep N3 f3)⟩
  · refine ⟨⟨by decide, by decide⟩, fun _ => ⟨14, ?_⟩, fun z => absurd rfl z⟩
    have hR3 := keep N3 f3
    have hA := AL_of h36 hR3.1
    have hlen : (LA a ++ P).length = (LA a).length + P.length := List.length_append
    have hrL : rgq (LA a) := fun q hq => vq_rq (hVL.2.1 q hq)
    have hrP : rgq P := fun q hq => vq_rq (hv q hq)
    have loop : ∀ (f j : Nat), j ≤ P.length → P.length - j < f → (LA a ++ P.take j).Pairwise nR → p_X8_readCues_L18 gM f 0 (j : Int) N3 Q := by
      intro f
      induction f with
      | zero => intro j h1 h2; omega
      | succ f ih =>
        intro j hj hf hp
        have hl40 := hVL.1
        unfold p_X8_readCues_L18
        simp only [Nat.zero_add, l1]
        rw [hA.1, hL3.1]
        refine ⟨inR_s (by omega) (by omega), inR_s (by omega) (by omega), fun hge => ⟨by decide, inR_s (by omega) (by omega), fun hle => rem_m ?_, fun hgt => ?_⟩, fun hlt => ?_⟩
        · rw [List.take_of_length_le (by omega)] at hp
          obtain ⟨hR, h2⟩ := hR3.rem
          have hP4 : RdL (mcp N3 1 2 201) P := by
            refine ⟨by rw [mcp_ne (by decide)]; exact hL3.1, fun i q hi => ?_⟩
            have := hL3.2 i q hi
            unfold qR at this ⊢
            rw [mcp_ne (by decide)]; exact this
          have hA4 : AL (mcp N3 1 2 201 1) (LA a) := by rw [mcp_ne (by decide)]; exact hA
          exact ⟨14, put_l hV hR h2 hP4 hn hv hp (by omega) (k P hP hp (by omega)) 14 0 _ (LA a) (by omega) (by omega) ⟨fun _ _ => rfl, fun _ _ _ => rfl⟩ hA4 hVL.2.2 (by omega) (fun q => by simp)⟩
        · rw [List.take_of_length_le (by omega)] at hp
          exact km P hP hp (by omega) N3 hR3
        · have hjl : j < P.length := by omega
          have hg : P[j]? = some P[j] := List.getElem?_eq_getElem hjl
          have hs := tk_s hjl
          unfold p_X8_isTwice
          refine ⟨42, tw_l hA hl40 hrL hL3 hn hrP hg (fun b hT => ⟨hT.r, fun hb => ?_, fun hb => ?_⟩) 42 0 0 (by omega) (by omega) (Or.inl ⟨rfl, fun y hy => by simp at hy⟩)⟩
          · rw [show (j : Int) + 1 = ((j + 1 : Nat) : Int) by omega]
            refine ih (j + 1) (by omega) (by omega) ?_
            rcases hT with ⟨-, hT⟩ | ⟨e, -⟩
            · rw [hs, ← List.append_assoc]; exact nR_snoc.mpr ⟨hp, hT⟩
            · exact absurd (hb.symm.trans e) (by decide)
          · refine kt P hP (fun hpp => ?_) N3 hR3
            have hp2 : ((LA a ++ P.take j) ++ [P[j]]).Pairwise nR := by
              rw [List.append_assoc, ← hs]
              exact hpp.sublist ((List.Sublist.refl _).append (List.take_sublist _ _))
            rcases hT with ⟨e, -⟩ | ⟨-, y, hy, e⟩
            · exact hb e
            · exact (nR_snoc.mp hp2).2 y hy e
    exact loop 14 0 (by omega) (by omega) (by simpa using pw_n hVL.2.2)
