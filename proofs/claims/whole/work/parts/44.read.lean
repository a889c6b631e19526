/-! PURE: the class reads a text of cues -/
theorem rcue_c {M : Mm} {Q : Mm → Prop} {tl p : Int} {t : Int → Int} (ht : TxC M tl t) (p0 : 0 ≤ p) (p1 : p ≤ tl) (hp : M 114 1 = p) (hf : M 114 2 = 0)
    (kf : ∀ e, pcue t tl p = .inl e → ∀ M' : Mm, frS M M' → M' 114 3 = M 114 3 → M' 114 2 = 1 → M' 114 1 = e → Q M')
    (ks : ∀ q p', pcue t tl p = .inr (q, p') → ∀ M' : Mm, frS M M' → M' 114 3 = M 114 3 → M' 114 2 = 0 → M' 114 1 = p' → p_X1_addDraft gC 114 q.2.1 q.1 q.2.2.1 q.2.2.2 M' Q) : p_X1_readCue gC 114 111 M Q := by
  have htl := ht.2.1
  have htl2 := ht.2.2.1
  have J1 : ∀ (M' : Mm) (s k d w : Int), M' 114 2 = 1 → Q M' → p_X1_readCue_J85 gC 114 s k d w M' Q := fun M' s k d w z h => by
    unfold p_X1_readCue_J85
    rw [z]; exact ⟨inR1, fun _ => h, fun e => absurd e (by decide)⟩
  have J0 : ∀ (M' : Mm) (s k d w : Int), M' 114 2 = 0 → p_X1_addDraft gC 114 s k d w M' Q → p_X1_readCue_J85 gC 114 s k d w M' Q := fun M' s k d w z h => by
    unfold p_X1_readCue_J85
    rw [z]; exact ⟨inR0, fun e => absurd rfl e, fun _ => h⟩
  unfold p_X1_readCue
  have E : ∀ (M' : Mm) (s k d : Int) (R : Prop), M' 114 2 = 1 → Q M' → inR (M' 114 2) ∧ (M' 114 2 ≠ 0 → p_X1_readCue_J85 gC 114 s k d 1 M' Q) ∧ (M' 114 2 = 0 → R) := fun M' s k d R z h => by
    rw [z]; exact ⟨inR1, fun _ => J1 M' s k d 1 z h, fun e => absurd e (by decide)⟩
  refine num_c ht p0 p1 ⟨by decide, by decide⟩ ⟨by decide, by decide⟩ hp hf (fun hn M1 f1 s1 z1 => ?_) (fun s q1 hn M1 f1 s1 z1 => ?_)
  · exact sgn_f z1 (num_f z1 (sgn_f z1 (num_f z1 (E M1 _ _ _ _ z1 (kf p (by simp only [pcue, hn]) M1 f1 (s1 3 (by decide)) z1 (by rw [s1 1 (by decide)]; exact hp))))))
  have n1 := num_in (by decide) hn
  have ht1 := ht.s f1
  refine sgn_c ht1 (by omega) n1.2.2.2.1 ⟨by decide, by decide⟩ z1 (by rw [s1 2 (by decide)]; exact hf) (fun hc M2 f2 s2 z2 => ?_) (fun hc M2 f2 s2 z2 => ?_)
  · exact num_f z2 (sgn_f z2 (num_f z2 (E M2 _ _ _ _ z2 (kf q1 (by simp only [pcue, hn, if_neg hc]) M2 (fun o ho => by rw [f2 o ho, f1 o ho]) (by rw [s2 3 (by decide), s1 3 (by decide)]) z2 (by rw [s2 1 (by decide)]; exact z1)))))
  have hlt2 : q1 < tl := by
    unfold chrT at hc
    by_cases h : 0 ≤ q1 ∧ q1 < tl
    · exact h.2
    · rw [if_neg h] at hc; exact absurd hc (by decide)
  have ht2 := ht1.s f2
  have b2 : M2 114 2 = 0 := by rw [s2 2 (by decide), s1 2 (by decide)]; exact hf
  have c2 : M2 114 3 = M 114 3 := by rw [s2 3 (by decide), s1 3 (by decide)]
  have g2 : frS M M2 := fun o ho => by rw [f2 o ho, f1 o ho]
  refine num_c ht2 (by omega) (by omega) ⟨by decide, by decide⟩ ⟨by decide, by decide⟩ z2 b2 (fun hm M3 f3 s3 z3 => ?_) (fun k q2 hm M3 f3 s3 z3 => ?_)
  · exact sgn_f z3 (num_f z3 (E M3 _ _ _ _ z3 (kf (q1 + 1) (by simp only [pcue, hn, if_pos hc, hm]) M3 (fun o ho => by rw [f3 o ho, g2 o ho]) (by rw [s3 3 (by decide), c2]) z3 (by rw [s3 1 (by decide)]; exact z2))))
  have n2 := num_in (by decide) hm
  have ht3 := ht2.s f3
  have b3 : M3 114 2 = 0 := by rw [s3 2 (by decide)]; exact b2
  have c3 : M3 114 3 = M 114 3 := by rw [s3 3 (by decide), c2]
  have g3 : frS M M3 := fun o ho => by rw [f3 o ho, g2 o ho]
  refine sgn_c ht3 (by omega) n2.2.2.2.1 ⟨by decide, by decide⟩ z3 b3 (fun hc3 M4 f4 s4 z4 => ?_) (fun hc3 M4 f4 s4 z4 => ?_)
  · exact num_f z4 (E M4 _ _ _ _ z4 (kf q2 (by simp only [pcue, hn, if_pos hc, hm, if_neg hc3]) M4 (fun o ho => by rw [f4 o ho, g3 o ho]) (by rw [s4 3 (by decide), c3]) z4 (by rw [s4 1 (by decide)]; exact z3)))
  have hlt4 : q2 < tl := by
    unfold chrT at hc3
    by_cases h : 0 ≤ q2 ∧ q2 < tl
    · exact h.2
    · rw [if_neg h] at hc3; exact absurd hc3 (by decide)
  have ht4 := ht3.s f4
  have b4 : M4 114 2 = 0 := by rw [s4 2 (by decide)]; exact b3
  have c4 : M4 114 3 = M 114 3 := by rw [s4 3 (by decide), c3]
  have g4 : frS M M4 := fun o ho => by rw [f4 o ho, g3 o ho]
  refine num_c ht4 (by omega) (by omega) ⟨by decide, by decide⟩ ⟨by decide, by decide⟩ z4 b4 (fun hd M5 f5 s5 z5 => ?_) (fun d q3 hd M5 f5 s5 z5 => ?_)
  · exact E M5 _ _ _ _ z5 (kf (q2 + 1) (by simp only [pcue, hn, if_pos hc, hm, if_pos hc3, hd]) M5 (fun o ho => by rw [f5 o ho, g4 o ho]) (by rw [s5 3 (by decide), c4]) z5 (by rw [s5 1 (by decide)]; exact z4))
  have n3 := num_in (by decide) hd
  have ht5 := ht4.s f5
  have b5 : M5 114 2 = 0 := by rw [s5 2 (by decide)]; exact b4
  have c5 : M5 114 3 = M 114 3 := by rw [s5 3 (by decide), c4]
  have g5 : frS M M5 := fun o ho => by rw [f5 o ho, g4 o ho]
  rw [b5, z5]
  refine ⟨inR0, fun z => absurd rfl z, fun _ => chr_c ht5 (inR_s (by omega) (by omega)) ⟨by have := chr_in ht5 (p := q3); exact inR_s (by omega) (by omega), fun hne => ?_, fun he M6 e6 => ?_⟩⟩
  · exact J0 M5 _ _ _ _ b5 (ks (k, s, d, 1) q3 (by simp only [pcue, hn, if_pos hc, hm, if_pos hc3, hd, if_neg hne]) M5 g5 c5 b5 z5)
  have hlt6 : q3 < tl := by
    unfold chrT at he
    by_cases h : 0 ≤ q3 ∧ q3 < tl
    · exact h.2
    · rw [if_neg h] at he; exact absurd he (by decide)
  have f6 : frS M5 M6 := fun o ho => by rw [e6, mu_ne ho]
  have s6 : ∀ j, M6 114 j = if j = 1 then q3 + 1 else M5 114 j := fun j => by rw [e6, mu_eq, z5]
  have ht6 := ht5.s f6
  have b6 : M6 114 2 = 0 := by rw [s6]; exact b5
  have c6 : M6 114 3 = M 114 3 := by rw [s6]; exact c5
  have g6 : frS M M6 := fun o ho => by rw [f6 o ho, g5 o ho]
  refine num_c ht6 (by omega) (by omega) ⟨by decide, by decide⟩ ⟨by decide, by decide⟩ (p := q3 + 1) (by rw [s6, if_pos rfl]) b6 (fun hw M7 f7 s7 z7 => ?_) (fun w q4 hw M7 f7 s7 z7 => ?_)
  · exact J1 M7 _ _ _ _ z7 (kf (q3 + 1) (by simp only [pcue, hn, if_pos hc, hm, if_pos hc3, hd, if_pos he, hw]) M7 (fun o ho => by rw [f7 o ho, g6 o ho]) (by rw [s7 3 (by decide), c6]) z7 (by rw [s7 1 (by decide), s6, if_pos rfl]))
  · have b7 : M7 114 2 = 0 := by rw [s7 2 (by decide)]; exact b6
    exact J0 M7 _ _ _ _ b7 (ks (k, s, d, w) q4 (by simp only [pcue, hn, if_pos hc, hm, if_pos hc3, hd, if_pos he, hw]) M7 (fun o ho => by rw [f7 o ho, g6 o ho]) (by rw [s7 3 (by decide), c6]) b7 z7)
theorem rcue_f {M : Mm} {Q : Mm → Prop} (z : M 114 2 = 1) (h : Q M) : p_X1_readCue gC 114 111 M Q := by
  unfold p_X1_readCue
  refine num_f z (sgn_f z (num_f z (sgn_f z (num_f z ?_))))
  rw [z]
  refine ⟨inR1, fun _ => ?_, fun e => absurd e (by decide)⟩
  unfold p_X1_readCue_J85
  rw [z]; exact ⟨inR1, fun _ => h, fun e => absurd e (by decide)⟩
theorem pcue_in {t : Int → Int} {tl p p' : Int} {q : Cu} (h : pcue t tl p = .inr (q, p')) : vq q ∧ p + 5 ≤ p' ∧ p' ≤ tl ∧ 0 ≤ p := by
  have lt : ∀ {c x : Int}, 0 ≤ x → chrT t tl c = x → c < tl := fun {c x} hx hc => by
    unfold chrT at hc
    by_cases h : 0 ≤ c ∧ c < tl
    · exact h.2
    · rw [if_neg h] at hc; omega
  unfold pcue at h
  split at h
  · cases h
  · rename_i s p1 hn
    have n1 := num_in (by decide) hn
    split at h
    · split at h
      · cases h
      · rename_i k p2 hk
        have n2 := num_in (by decide) hk
        split at h
        · split at h
          · cases h
          · rename_i d p3 hd
            have n3 := num_in (by decide) hd
            split at h
            · split at h
              · cases h
              · rename_i w p4 hw
                have n4 := num_in (by decide) hw
                cases h
                exact ⟨⟨⟨n2.1, n2.2.1⟩, ⟨n1.1, n1.2.1⟩, ⟨n3.1, n3.2.1⟩, n4.1, n4.2.1⟩, by omega, by omega, by omega⟩
            · cases h
              exact ⟨⟨⟨n2.1, n2.2.1⟩, ⟨n1.1, n1.2.1⟩, ⟨n3.1, n3.2.1⟩, Int.le_refl 1, (by decide : (1 : Int) ≤ 20)⟩, by omega, by omega, by omega⟩
        · cases h
    · cases h
theorem pcue_f {t : Int → Int} {tl p e : Int} (p1 : p ≤ tl) (h : pcue t tl p = .inl e) : p ≤ e ∧ e ≤ tl := by
  have lt : ∀ {c x : Int}, 0 ≤ x → chrT t tl c = x → c < tl := fun {c x} hx hc => by
    unfold chrT at hc
    by_cases h : 0 ≤ c ∧ c < tl
    · exact h.2
    · rw [if_neg h] at hc; omega
  unfold pcue at h
  split at h
  · cases h; omega
  · rename_i s p1 hn
    have n1 := num_in (by decide) hn
    split at h
    · rename_i hc1
      have l1 := lt (by decide) hc1
      split at h
      · cases h; omega
      · rename_i k p2 hk
        have n2 := num_in (by decide) hk
        split at h
        · rename_i hc2
          have l2 := lt (by decide) hc2
          split at h
          · cases h; omega
          · rename_i d p3 hd
            have n3 := num_in (by decide) hd
            split at h
            · rename_i hc3
              have l3 := lt (by decide) hc3
              split at h
              · cases h; omega
              · cases h
            · cases h
        · cases h; omega
    · cases h; omega
