/-! PURE: the simple acts: what each answers and does, for both sides -/
abbrev St3 : Type := Int × (Int → Int) × List (Int → Int)
def okv (w v : Int) : Prop := (w = 0 ∧ 0 ≤ v ∧ v ≤ 4) ∨ (w = 1 ∧ 0 ≤ v ∧ v ≤ 30) ∨ (w = 2 ∧ 1 ≤ v ∧ v ≤ 9)
/-- setSound -/
def SP_setSound (s w v : Int) (a : Int → Int) (l : List (Int → Int)) (K : Int → (Int → Int) → List (Int → Int) → Prop) : Prop :=
  ((s < 0 ∨ 10 ≤ s) → K (-1) a l) ∧ (0 ≤ s → s < 10 → (¬ okv w v → K (-2) a l) ∧ (okv w v → (a (10 * w + s) = v → K (-5) a l) ∧ (a (10 * w + s) ≠ v → K (a (10 * w + s)) (up a (10 * w + s) v) (push l a))))
theorem sv_c {w v : Int} {M : Mm} {Q : Int → Mm → Prop} (hw : inR w) (hv : inR v) (k1 : okv w v → Q 1 M) (k0 : ¬ okv w v → Q 0 M) : p_X7_isSoundValue gC w v M Q := by
  unfold p_X7_isSoundValue
  refine ⟨hw, fun h => ?_, fun h => ?_, fun h => ?_, fun h => k0 (fun z => by unfold okv at z; omega)⟩
  · exact below_c hv ⟨by decide, by decide⟩ (fun h1 h2 => ⟨Or.inr rfl, k1 (Or.inl ⟨h, h1, by omega⟩)⟩) (fun h1 => ⟨Or.inl rfl, k0 (fun z => by unfold okv at z; omega)⟩)
  · exact within_c hv inR0 ⟨by decide, by decide⟩ (fun h1 h2 => ⟨Or.inr rfl, k1 (Or.inr (Or.inl ⟨h, h1, h2⟩))⟩) (fun h1 => ⟨Or.inl rfl, k0 (fun z => by unfold okv at z; omega)⟩)
  · exact within_c hv inR1 ⟨by decide, by decide⟩ (fun h1 h2 => ⟨Or.inr rfl, k1 (Or.inr (Or.inr ⟨h, h1, h2⟩))⟩) (fun h1 => ⟨Or.inl rfl, k0 (fun z => by unfold okv at z; omega)⟩)
theorem sv_m {w v : Int} {N : Mm} {Q : Int → Mm → Prop} (hw : inR w) (hv : inR v) (k1 : okv w v → Q 1 N) (k0 : ¬ okv w v → Q 0 N) : p_X8_isValue gM w v N Q := by
  unfold p_X8_isValue
  refine ⟨hw, fun h => ⟨hw, fun h2 => ⟨hw, fun h3 => k0 (fun z => by unfold okv at z; omega), fun h3 => ⟨hv, ?_⟩⟩, fun h2 => ⟨hv, ?_⟩⟩, fun h => ⟨hv, ?_⟩⟩
  · exact in_m hv inR1 ⟨by decide, by decide⟩ (fun z1 z2 => ⟨inR1, fun q => absurd q (by decide), fun _ => k1 (Or.inr (Or.inr ⟨h3, z1, z2⟩))⟩) (fun z1 => ⟨inR0, fun _ => k0 (fun z => by unfold okv at z; omega), fun q => absurd rfl q⟩)
  · exact in_m hv inR0 ⟨by decide, by decide⟩ (fun z1 z2 => ⟨Or.inr rfl, k1 (Or.inr (Or.inl ⟨h2, z1, z2⟩))⟩) (fun z1 => ⟨Or.inl rfl, k0 (fun z => by unfold okv at z; omega)⟩)
  · exact in_m hv inR0 ⟨by decide, by decide⟩ (fun z1 z2 => ⟨Or.inr rfl, k1 (Or.inl ⟨h, z1, z2⟩)⟩) (fun z1 => ⟨Or.inl rfl, k0 (fun z => by unfold okv at z; omega)⟩)
theorem VR.num {a : Int → Int} (h : VR a) {i : Int} (i0 : 0 ≤ i) (i1 : i < 30) : 0 ≤ a i ∧ a i ≤ 30 := by
  obtain ⟨v1, v2, v3, -⟩ := h
  by_cases h1 : i < 10
  · have := v1 i i0 h1; omega
  · by_cases h2 : i < 20
    · have := v2 (i - 10) (by omega) (by omega)
      rw [show 10 + (i - 10) = i by omega] at this; omega
    · have := v3 (i - 20) (by omega) (by omega)
      rw [show 20 + (i - 20) = i by omega] at this; omega
theorem c_setSound {M : Mm} {Q : Int → Mm → Prop} {a : Int → Int} {l : List (Int → Int)} {sn : Option (Int → Int)} {tl : Int} {t : Int → Int} {s w v : Int} (hs : inR s) (hw : inR w) (hv : inR v) (h : RC M a l sn tl t) (k : SP_setSound s w v a l (fun r a' l' => ∀ M' : Mm, RC M' a' l' sn tl t → Q r M')) : p_X7_setSound gC 0 s w v M Q := by
  obtain ⟨kU, kS⟩ := k
  unfold p_X7_setSound
  refine below_c hs ⟨by decide, by decide⟩ (fun s0 s1 => ⟨inR1, fun _ => ?_, fun q => absurd q (by decide)⟩) (fun q => ⟨inR0, fun z => absurd rfl z, fun _ => kU q M h⟩)
  obtain ⟨kB, kO⟩ := kS s0 s1
  refine sv_c hw hv (fun ok => ⟨inR1, fun _ => ?_, fun q => absurd q (by decide)⟩) (fun ok => ⟨inR0, fun z => absurd rfl z, fun _ => kB ok M h⟩)
  obtain ⟨kN, kA⟩ := kO ok
  have hS := h.1
  have hV := h.2.1
  have hn := hV.num (i := 10 * w + s) (by unfold okv at ok; omega) (by unfold okv at ok; omega)
  -- the row that is meant
  have key : ∀ (r : Nat), (r = 2 ∧ w = 0 ∨ r = 4 ∧ w = 1 ∨ r = 6 ∧ w = 2) → gk gC r = 4 → p_X4_get gC r s M (fun r10 M9 =>
              inR r10 ∧ inR v ∧ (r10 ≠ v →
                p_X2_record gC (0 + 37) (0 + 1) M9 (fun M13 =>
                  p_X4_put gC r s v M13 (fun M14 =>
                    Q r10 M14))) ∧
              (r10 = v →
                Q (-5) M9)) := by
    intro r hr _
    have hlen : gl gC (r + 1) = 10 := by rcases hr with ⟨rfl, -⟩ | ⟨rfl, -⟩ | ⟨rfl, -⟩ <;> decide +kernel
    have hg : M (r + 1) s = a (10 * w + s) := by
      rcases hr with ⟨rfl, rfl⟩ | ⟨rfl, rfl⟩ | ⟨rfl, rfl⟩
      · rw [show 10 * 0 + s = s by omega]; exact hS.1 s s0 s1
      · rw [show 10 * 1 + s = 10 + s by omega]; exact hS.2.1 s s0 s1
      · rw [show 10 * 2 + s = 20 + s by omega]; exact hS.2.2.1 s s0 s1
    refine get_c s0 (by omega) ?_
    rw [hg]
    refine ⟨inR_s (by omega) (by omega), hv, fun hne => ?_, fun he => kN he M h⟩
    refine RC.rec h (fun M1 h1 f1 => ?_)
    refine put_c s0 (by omega) (kA hne _ ?_)
    have hS1 := h1.1
    have e : ∀ o, o ≠ r + 1 → mu M1 (r + 1) s v o = M1 o := fun o ho => mu_ne ho
    have er : ∀ j, mu M1 (r + 1) s v (r + 1) j = if j = s then v else M1 (r + 1) j := fun j => by rw [mu_eq]
    have hr7 : r + 1 = 3 ∨ r + 1 = 5 ∨ r + 1 = 7 := by omega
    have hV2 : VR (up a (10 * w + s) v) := by
      unfold okv at ok
      exact VR_up hV (by omega) (by omega) (by omega) (fun _ _ => by omega) (fun _ _ => by omega) (fun _ _ => by omega) (fun _ _ => by omega) (fun _ => by omega)
    refine h1.act (SR_up hS1 (fun c c0 c1 => cue_up (by unfold okv at ok; omega) c0) (up_ne (by unfold okv at ok; omega)) (fun i i0 i1 => ?_) (fun i i0 i1 => ?_) (fun i i0 i1 => ?_) (fun i i0 i1 => ?_) ?_ (fun o o1 o2 => e o (by omega))) hV2 ?_ (e 0 (by omega)) (fun o o1 o2 _ => e o (by omega)) (by rw [e 115 (by omega)])
    · have q := hS1.1 i i0 i1
      rcases hr with ⟨rfl, rfl⟩ | ⟨rfl, rfl⟩ | ⟨rfl, rfl⟩
      · show mu M1 (2 + 1) s v (2 + 1) i = _
        rw [er]; unfold up
        by_cases hi : i = s
        · rw [if_pos hi, if_pos (by omega)]
        · rw [if_neg hi, if_neg (by omega)]; exact q
      · rw [e 3 (by omega), up_ne (by omega)]; exact q
      · rw [e 3 (by omega), up_ne (by omega)]; exact q
    · have q := hS1.2.1 i i0 i1
      rcases hr with ⟨rfl, rfl⟩ | ⟨rfl, rfl⟩ | ⟨rfl, rfl⟩
      · rw [e 5 (by omega), up_ne (by omega)]; exact q
      · show mu M1 (4 + 1) s v (4 + 1) i = _
        rw [er]; unfold up
        by_cases hi : i = s
        · rw [if_pos hi, if_pos (by omega)]
        · rw [if_neg hi, if_neg (by omega)]; exact q
      · rw [e 5 (by omega), up_ne (by omega)]; exact q
    · have q := hS1.2.2.1 i i0 i1
      rcases hr with ⟨rfl, rfl⟩ | ⟨rfl, rfl⟩ | ⟨rfl, rfl⟩
      · rw [e 7 (by omega), up_ne (by omega)]; exact q
      · rw [e 7 (by omega), up_ne (by omega)]; exact q
      · show mu M1 (6 + 1) s v (6 + 1) i = _
        rw [er]; unfold up
        by_cases hi : i = s
        · rw [if_pos hi, if_pos (by omega)]
        · rw [if_neg hi, if_neg (by omega)]; exact q
    · rw [up_ne (by unfold okv at ok; omega)] at i1
      rw [e 9 (by omega), up_ne (by unfold okv at ok; omega)]; exact hS1.2.2.2.1 i i0 i1
    · rw [e 1 (by omega)]
      have q := hS1.2.2.2.2.1
      unfold okv at ok
      rw [up_ne (by omega), up_ne (by omega), up_ne (by omega), up_ne (by omega), up_ne (by omega), up_ne (by omega)]
      exact q
    · rw [e 10 (by omega)]; exact h1.2.2.1.cap k5_1
  unfold p_X5_soundRow
  refine ⟨hw, fun hw0 hk => key 2 (Or.inl ⟨rfl, hw0⟩) hk, fun hw1 hk => key 4 (Or.inr (Or.inl ⟨rfl, hw1⟩)) hk, fun hw2 hk => key 6 (Or.inr (Or.inr ⟨rfl, by unfold okv at ok; omega⟩)) hk⟩
theorem m_setSound {N : Mm} {Q : Int → Mm → Prop} {a : Int → Int} {l : List (Int → Int)} {sn : Option (Int → Int)} {tl : Int} {t : Int → Int} {s w v : Int} (hs : inR s) (hw : inR w) (hv : inR v) (hV : VR a) (h : RM N a l sn tl t) (k : SP_setSound s w v a l (fun r a' l' => ∀ N' : Mm, RM N' a' l' sn tl t → Q r N')) : p_X8_setSound gM 0 s w v N Q := by
  obtain ⟨kU, kS⟩ := k
  unfold p_X8_setSound p_X8_isSound
  refine ⟨hs, in_m hs inR0 ⟨by decide, by decide⟩ (fun s0 s1 => ⟨Or.inr rfl, inR1, fun _ => ?_, fun q => absurd q (by decide)⟩) (fun q => ⟨Or.inl rfl, inR0, fun z => absurd rfl z, fun _ => kU (by omega) N h⟩)⟩
  obtain ⟨kB, kO⟩ := kS s0 (by omega)
  refine sv_m hw hv (fun ok => ⟨inR1, fun q => absurd q (by decide), fun _ => ?_⟩) (fun ok => ⟨inR0, fun _ => kB ok N h, fun z => absurd rfl z⟩)
  obtain ⟨kN, kA⟩ := kO ok
  have hn := hV.num (i := 10 * w + s) (by unfold okv at ok; omega) (by unfold okv at ok; omega)
  exact set_m h (by unfold okv at ok; omega) (by unfold okv at ok; omega) (inR_s (by omega) (by omega)) hv (fun he => kN he N h) (fun N' hne h' => kA hne N' h')
/-- setCarrying -/
def SP_setCarrying (v : Int) (a : Int → Int) (l : List (Int → Int)) (K : Int → (Int → Int) → List (Int → Int) → Prop) : Prop :=
  ((v < 0 ∨ 20 < v) → K (-2) a l) ∧ (0 ≤ v → v ≤ 20 → (a 35 = v → K (-5) a l) ∧ (a 35 ≠ v → K (a 35) (up a 35 v) (push l a)))
theorem c_setCarrying {M : Mm} {Q : Int → Mm → Prop} {a : Int → Int} {l : List (Int → Int)} {sn : Option (Int → Int)} {tl : Int} {t : Int → Int} {v : Int} (hv : inR v) (h : RC M a l sn tl t) (k : SP_setCarrying v a l (fun r a' l' => ∀ M' : Mm, RC M' a' l' sn tl t → Q r M')) : p_X7_setCarrying gC 0 v M Q := by
  obtain ⟨kB, kO⟩ := k
  have hS := h.1
  have hV := h.2.1
  have hn := hV.2.2.2.2.2.1
  have hg : M 1 6 = a 35 := hS.2.2.2.2.1.2.1
  unfold p_X7_setCarrying
  refine within_c hv inR0 ⟨by decide, by decide⟩ (fun v0 v1 => ⟨inR1, fun _ => ?_, fun q => absurd q (by decide)⟩) (fun q => ⟨inR0, fun z => absurd rfl z, fun _ => kB q M h⟩)
  obtain ⟨kN, kA⟩ := kO v0 v1
  show inR (M 1 6) ∧ _ ∧ (M 1 6 ≠ v → p_X2_record gC 37 1 M _) ∧ (M 1 6 = v → _)
  rw [hg]
  refine ⟨inR_s (by omega) (by omega), hv, fun hne => RC.rec h (fun M1 h1 f1 M2 e => kA hne M2 ?_), fun he => kN he M h⟩
  have hS1 := h1.1
  have f : ∀ o, o ≠ 1 → M2 o = M1 o := fun o ho => by rw [e]; exact mu_ne ho
  have f1' : ∀ j, M2 1 j = if j = 6 then v else M1 1 j := fun j => by rw [e]; show mu M1 1 6 v 1 j = _; rw [mu_eq]
  refine h1.act (SR_up hS1 (fun c c0 c1 => cue_up (by omega) c0) (up_ne (by omega)) (fun i i0 i1 => ?_) (fun i i0 i1 => ?_) (fun i i0 i1 => ?_) (fun i i0 i1 => ?_) ?_ (fun o o1 o2 => f o (by omega))) (VR_up hV (by omega) (by omega) (by omega) (fun _ _ => by omega) (fun _ _ => by omega) (fun _ _ => by omega) (fun _ _ => by omega) (fun _ => by omega)) ?_ (f 0 (by omega)) (fun o o1 o2 _ => f o (by omega)) (by rw [f 115 (by omega)])
  · rw [f 3 (by omega), up_ne (by omega)]; exact hS1.1 i i0 i1
  · rw [f 5 (by omega), up_ne (by omega)]; exact hS1.2.1 i i0 i1
  · rw [f 7 (by omega), up_ne (by omega)]; exact hS1.2.2.1 i i0 i1
  · rw [up_ne (by omega)] at i1
    rw [f 9 (by omega), up_ne (by have := hV.2.2.2.1; omega)]; exact hS1.2.2.2.1 i i0 i1
  · have q := hS1.2.2.2.2.1
    refine ⟨?_, ?_, ?_, ?_, ?_, ?_⟩
    · rw [f1', if_neg (by omega), up_ne (by omega)]; exact q.1
    · rw [f1', if_pos rfl, up_eq]
    · rw [f1', if_neg (by omega), up_ne (by omega)]; exact q.2.2.1
    · rw [f1', if_neg (by omega), up_ne (by omega)]; exact q.2.2.2.1
    · rw [f1', if_neg (by omega), up_ne (by omega)]; exact q.2.2.2.2.1
    · rw [f1', if_neg (by omega), up_ne (by omega)]; exact q.2.2.2.2.2
  · rw [f 10 (by omega)]; exact h1.2.2.1.cap k5_1
theorem m_setCarrying {N : Mm} {Q : Int → Mm → Prop} {a : Int → Int} {l : List (Int → Int)} {sn : Option (Int → Int)} {tl : Int} {t : Int → Int} {v : Int} (hv : inR v) (hV : VR a) (h : RM N a l sn tl t) (k : SP_setCarrying v a l (fun r a' l' => ∀ N' : Mm, RM N' a' l' sn tl t → Q r N')) : p_X8_setCarrying gM 0 v N Q := by
  obtain ⟨kB, kO⟩ := k
  have hn := hV.2.2.2.2.2.1
  unfold p_X8_setCarrying
  refine ⟨hv, in_m hv inR0 ⟨by decide, by decide⟩ (fun v0 v1 => ⟨inR1, fun q => absurd q (by decide), fun _ => ?_⟩) (fun q => ⟨inR0, fun _ => kB q N h, fun z => absurd rfl z⟩)⟩
  obtain ⟨kN, kA⟩ := kO v0 v1
  exact set_m h (by omega) (by omega) (inR_s (by omega) (by omega)) hv (fun he => kN he N h) (fun N' hne h' => kA hne N' h')
