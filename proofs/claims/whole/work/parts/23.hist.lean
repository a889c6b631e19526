/-! PURE: the history of the class -/
def HA (M : Mm) (l : List (Int → Int)) : Prop :=
  M 37 1 = (l.length : Int) ∧ l.length ≤ 4 ∧ (∀ i : Int, 0 ≤ i → i < 4 → gk gC (M 38 i).toNat = 5 ∧ 39 ≤ (M 38 i).toNat ∧ 0 ≤ M 38 i) ∧ (∀ i j : Int, 0 ≤ i → i < 4 → 0 ≤ j → j < 4 → (M 38 i).toNat = (M 38 j).toNat → i = j) ∧ (∀ b, gk gC b = 5 → M (b + 9) 0 = 40) ∧
  ∀ (i : Nat) (r : Int → Int), l[i]? = some r → SR M (M 38 (i : Int)).toNat r ∧ VR r
def push (l : List (Int → Int)) (a : Int → Int) : List (Int → Int) := (if l.length = 4 then l.tail else l) ++ [a]
theorem HA.keep {M M' : Mm} {l : List (Int → Int)} (h : HA M l) (e : ∀ o, 37 ≤ o → o < 111 → M' o = M o) (ec : M' 10 0 = 40 ∧ M' 28 0 = 40) : HA M' l := by
  obtain ⟨h1, h2, h3, h4, h5, h6⟩ := h
  have e37 := e 37 (by omega) (by omega)
  have e38 := e 38 (by omega) (by omega)
  refine ⟨by rw [e37]; exact h1, h2, by rw [e38]; exact h3, by rw [e38]; exact h4, fun b hb => ?_, fun i r hr => ?_⟩
  · rcases st_ids hb with rfl | rfl | rfl | rfl | rfl | rfl
    · exact ec.1
    · exact ec.2
    all_goals (rw [e _ (by omega) (by omega)]; exact h5 _ hb)
  · have hi : i < l.length := (List.getElem?_eq_some_iff.mp hr).1
    obtain ⟨q1, q2⟩ := h6 i r hr
    obtain ⟨k1, k2, k3⟩ := h3 i (by omega) (by omega)
    rw [e38]
    refine ⟨q1.keep (fun o o1 o2 => e o (by omega) ?_), q2⟩
    rcases st_ids k1 with z | z | z | z | z | z <;> omega
theorem at_c {i : Int} {M : Mm} {Q : Option Nat → Mm → Prop} (h0 : 0 ≤ i) (h1 : i < 4) (hk : gk gC (M 38 i).toNat = 5) (k : Q (some (M 38 i).toNat) M) : p_X2_at gC 37 i M Q := by
  have hl : gl gC (37 + 1) = 4 := by decide +kernel
  unfold p_X2_at
  rw [hl]
  exact ⟨inR_s (by omega) (by omega), fun h => absurd h (by omega), fun _ => ⟨inR_s (by omega) (by omega), fun h => absurd h (by omega), fun _ => ⟨h0, by omega, hk, k⟩⟩⟩
theorem at_n {i : Int} {M : Mm} {Q : Option Nat → Mm → Prop} (h0 : inR i) (h1 : i < 0 ∨ 4 ≤ i) (k : Q none M) : p_X2_at gC 37 i M Q := by
  have hl : gl gC (37 + 1) = 4 := by decide +kernel
  unfold p_X2_at
  rw [hl]
  exact ⟨h0, fun h => k, fun _ => ⟨h0, fun h => k, fun h => absurd h (by omega)⟩⟩
/-- the oldest goes behind the others -/
theorem drop_c {M : Mm} {Q : Mm → Prop} (hk : ∀ i : Int, 0 ≤ i → i < 4 → gk gC (M 38 i).toNat = 5 ∧ 39 ≤ (M 38 i).toNat ∧ 0 ≤ M 38 i)
    (k : ∀ M' : Mm, (∀ o, o ≠ 37 → o ≠ 38 → M' o = M o) → M' 37 1 = M 37 1 - 1 → M' 38 0 = M 38 1 → M' 38 1 = M 38 2 → M' 38 2 = M 38 3 → M' 38 3 = M 38 0 → Q M') : p_X2_dropOldest gC 37 M Q := by
  have hl : gl gC (37 + 1) = 4 := by decide +kernel
  obtain ⟨a0, -, c0⟩ := hk 0 (by omega) (by omega)
  obtain ⟨a1, -, c1⟩ := hk 1 (by omega) (by omega)
  obtain ⟨a2, -, c2⟩ := hk 2 (by omega) (by omega)
  obtain ⟨a3, -, c3⟩ := hk 3 (by omega) (by omega)
  unfold p_X2_dropOldest
  refine ⟨4, ?_⟩
  unfold p_X2_dropOldest_L2
  rw [hl]
  refine ⟨inR_s (by omega) (by omega), fun h => absurd h (by omega), fun _ => ⟨by omega, by omega, a0, by omega, by omega, a1, by omega, by omega, fun M1 e1 => ⟨by omega, by omega, fun M2 e2 => ?_⟩⟩⟩
  have f0 : M2 38 0 = M 38 1 := by
    rw [e2, e1]; simp [mu]; omega
  have f1 : M2 38 1 = M 38 0 := by
    rw [e2, e1]; simp [mu]; omega
  have f2 : M2 38 2 = M 38 2 := by
    rw [e2, e1]; simp [mu]
  have f3 : M2 38 3 = M 38 3 := by
    rw [e2, e1]; simp [mu]
  have fo : ∀ o, o ≠ 38 → M2 o = M o := fun o ho => by rw [e2, e1, mu_ne ho, mu_ne ho]
  clear e1 e2
  unfold p_X2_dropOldest_L2
  rw [hl]
  refine ⟨inR_s (by omega) (by omega), fun h => absurd h (by omega), fun _ => ⟨by omega, by omega, ?_, by omega, by omega, ?_, by omega, by omega, fun M3 e3 => ⟨by omega, by omega, fun M4 e4 => ?_⟩⟩⟩
  · show gk gC (M2 38 1).toNat = 5
    rw [f1]; exact a0
  · show gk gC (M2 38 2).toNat = 5
    rw [f2]; exact a2
  have g0 : M4 38 0 = M 38 1 := by
    rw [e4, e3]; simp [mu]; omega
  have g1 : M4 38 1 = M 38 2 := by
    rw [e4, e3]; simp [mu]; omega
  have g2 : M4 38 2 = M 38 0 := by
    rw [e4, e3]; simp [mu]; omega
  have g3 : M4 38 3 = M 38 3 := by
    rw [e4, e3]; simp [mu]; omega
  have go : ∀ o, o ≠ 38 → M4 o = M o := fun o ho => by rw [e4, e3, mu_ne ho, mu_ne ho, fo o ho]
  clear e3 e4
  unfold p_X2_dropOldest_L2
  rw [hl]
  refine ⟨inR_s (by omega) (by omega), fun h => absurd h (by omega), fun _ => ⟨by omega, by omega, ?_, by omega, by omega, ?_, by omega, by omega, fun M5 e5 => ⟨by omega, by omega, fun M6 e6 => ?_⟩⟩⟩
  · show gk gC (M4 38 2).toNat = 5
    rw [g2]; exact a0
  · show gk gC (M4 38 3).toNat = 5
    rw [g3]; exact a3
  have k0 : M6 38 0 = M 38 1 := by
    rw [e6, e5]; simp [mu]; omega
  have k1 : M6 38 1 = M 38 2 := by
    rw [e6, e5]; simp [mu]; omega
  have k2 : M6 38 2 = M 38 3 := by
    rw [e6, e5]; simp [mu]; omega
  have k3 : M6 38 3 = M 38 0 := by
    rw [e6, e5]; simp [mu]; omega
  have ko : ∀ o, o ≠ 38 → M6 o = M o := fun o ho => by rw [e6, e5, mu_ne ho, mu_ne ho, go o ho]
  clear e5 e6
  unfold p_X2_dropOldest_L2
  rw [hl]
  refine ⟨inR_s (by omega) (by omega), fun _ M7 e7 => ?_, fun h => absurd h (by omega)⟩
  refine k M7 (fun o o1 o2 => by rw [e7, mu_ne o1, ko o o2]) ?_ ?_ ?_ ?_ ?_
  · rw [e7, mu_eq, ko 37 (by omega)]; rfl
  · rw [e7, mu_ne (by omega)]; exact k0
  · rw [e7, mu_ne (by omega)]; exact k1
  · rw [e7, mu_ne (by omega)]; exact k2
  · rw [e7, mu_ne (by omega)]; exact k3
/-- what recording does, where there is room -/
theorem rec_room {M : Mm} {Q : Mm → Prop} {l : List (Int → Int)} {a : Int → Int} (h : HA M l) (hr : l.length < 4) (hS : SR M 1 a) (hV : VR a) (k : ∀ M' : Mm, HA M' (l ++ [a]) → (∀ o, (o < 37 ∨ 111 ≤ o) → M' o = M o) → Q M') : p_X2_record_J16 gC 37 1 M Q := by
  obtain ⟨h1, h2, h3, h4, h5, h6⟩ := h
  obtain ⟨k1, k2, k3⟩ := h3 l.length (by omega) (by omega)
  unfold p_X2_record_J16
  rw [h1]
  refine at_c (by omega) (by omega) k1 ⟨fun z => (by cases z), fun o3 z hk => ?_⟩
  cases z
  have hb : 39 ≤ (M 38 l.length).toNat ∧ (M 38 l.length).toNat + 18 ≤ 111 := by
    rcases st_ids k1 with z | z | z | z | z | z <;> omega
  refine st_copy (a := a) k1 (by decide +kernel) (by omega) (h5 _ k1) hS hV (fun M1 s1 f1 c1 M2 e2 => ?_)
  have f37 : M1 37 = M 37 := f1 37 (by omega)
  have f38 : M1 38 = M 38 := f1 38 (by omega)
  have f2 : ∀ o, o ≠ 37 → M2 o = M1 o := fun o ho => by rw [e2, mu_ne ho]
  have g38 : M2 38 = M 38 := by rw [f2 38 (by omega), f38]
  refine k M2 ⟨?_, by simp; omega, by rw [g38]; exact h3, by rw [g38]; exact h4, fun b hb2 => ?_, fun i r hr2 => ?_⟩ (fun o ho => by rw [f2 o (by omega), f1 o (by omega)])
  · rw [e2, mu_eq, f37]
    show (M 37 1 + 1 : Int) = _
    rw [h1]; simp
  · have hb3 : b + 9 ≠ 37 := by rcases st_ids hb2 with z | z | z | z | z | z <;> omega
    rw [f2 _ hb3]
    by_cases hq : b = (M 38 l.length).toNat
    · rw [hq]; exact c1
    · have hd := st_apart hb2 k1 hq
      rw [f1 _ (by omega)]
      exact h5 b hb2
  · rw [g38]
    by_cases hi : i < l.length
    · rw [List.getElem?_append_left hi] at hr2
      obtain ⟨q1, q2⟩ := h6 i r hr2
      obtain ⟨n1, n2, n3⟩ := h3 i (by omega) (by omega)
      have hne : (M 38 (i : Int)).toNat ≠ (M 38 l.length).toNat := fun z => by
        have := h4 i l.length (by omega) (by omega) (by omega) (by omega) z
        omega
      have hd := st_apart n1 k1 hne
      refine ⟨q1.keep (fun o o1 o2 => ?_), q2⟩
      rw [f2 o (by omega), f1 o (by omega)]
    · have hi2 : i = l.length := by
        have := (List.getElem?_eq_some_iff.mp hr2).1
        simp at this; omega
      subst hi2
      simp at hr2
      subst hr2
      exact ⟨s1.keep (fun o o1 o2 => f2 o (by omega)), hV⟩
theorem rec_c {M : Mm} {Q : Mm → Prop} {l : List (Int → Int)} {a : Int → Int} (h : HA M l) (hS : SR M 1 a) (hV : VR a) (k : ∀ M' : Mm, HA M' (push l a) → (∀ o, (o < 37 ∨ 111 ≤ o) → M' o = M o) → Q M') : p_X2_record gC 37 1 M Q := by
  have hl : gl gC (37 + 1) = 4 := by decide +kernel
  have h' := h
  obtain ⟨h1, h2, h3, h4, h5, h6⟩ := h
  unfold p_X2_record
  rw [hl, h1]
  refine ⟨inR_s (by omega) (by omega), fun hlt => ?_, fun hge => ?_⟩
  · refine rec_room h' (by omega) hS hV ?_
    unfold push at k
    rw [if_neg (by omega)] at k
    exact k
  · have hl4 : l.length = 4 := by omega
    refine drop_c h3 (fun M1 f1 n37 n0 n1 n2 n3 => ?_)
    have hs4 : ∀ i : Int, 0 ≤ i → i < 4 → ∃ j : Int, 0 ≤ j ∧ j < 4 ∧ M1 38 i = M 38 j ∧ (j = i + 1 ∨ (i = 3 ∧ j = 0)) := by
      intro i i0 i1
      have hi : i = 0 ∨ i = 1 ∨ i = 2 ∨ i = 3 := by omega
      rcases hi with rfl | rfl | rfl | rfl
      · exact ⟨1, by omega, by omega, n0, by omega⟩
      · exact ⟨2, by omega, by omega, n1, by omega⟩
      · exact ⟨3, by omega, by omega, n2, by omega⟩
      · exact ⟨0, by omega, by omega, n3, by omega⟩
    have hA : HA M1 l.tail := by
      refine ⟨?_, by simp; omega, fun i i0 i1 => ?_, fun i j i0 i1 j0 j1 z => ?_, fun b hb => ?_, fun i r hr => ?_⟩
      · rw [n37, h1]; simp; omega
      · obtain ⟨j, j0, j1, e, -⟩ := hs4 i i0 i1
        rw [e]; exact h3 j j0 j1
      · obtain ⟨i', a0, a1, e, c⟩ := hs4 i i0 i1
        obtain ⟨j', b0, b1, e', c'⟩ := hs4 j j0 j1
        rw [e, e'] at z
        have := h4 i' j' a0 a1 b0 b1 z
        omega
      · have hb3 : b + 9 ≠ 37 ∧ b + 9 ≠ 38 := by rcases st_ids hb with z | z | z | z | z | z <;> omega
        rw [f1 _ hb3.1 hb3.2]; exact h5 b hb
      · have hr2 : l[i + 1]? = some r := by rw [← hr]; simp
        have hi : i + 1 < l.length := (List.getElem?_eq_some_iff.mp hr2).1
        obtain ⟨q1, q2⟩ := h6 (i + 1) r hr2
        obtain ⟨j, j0, j1, e, c⟩ := hs4 i (by omega) (by omega)
        have hj : j = ((i + 1 : Nat) : Int) := by omega
        rw [e, hj]
        obtain ⟨m1, m2, m3⟩ := h3 ((i + 1 : Nat) : Int) (by omega) (by omega)
        exact ⟨q1.keep (fun o o1 o2 => f1 o (by omega) (by omega)), q2⟩
    refine rec_room hA (by simp; omega) (hS.keep (fun o o1 o2 => f1 o (by omega) (by omega))) hV (fun M2 a2 f2 => ?_)
    unfold push at k
    rw [if_pos hl4] at k
    exact k M2 a2 (fun o ho => by rw [f2 o ho, f1 o (by omega) (by omega)])
/-- the latest state comes back -/
theorem back_c {M : Mm} {Q : Mm → Prop} {l : List (Int → Int)} {a : Int → Int} (h : HA M (l ++ [a])) (k : ∀ M' : Mm, HA M' l → SR M' 1 a → VR a → M' 10 0 = 40 → (∀ o, (o < 1 ∨ 19 ≤ o) → o ≠ 37 → M' o = M o) → Q M') : p_X2_moveLatestTo gC 37 1 M Q := by
  obtain ⟨h1, h2, h3, h4, h5, h6⟩ := h
  have hlen : (l ++ [a]).length = l.length + 1 := by simp
  rw [hlen] at h1 h2
  obtain ⟨q1, q2⟩ := h6 l.length a (by simp)
  obtain ⟨n1, n2, n3⟩ := h3 l.length (by omega) (by omega)
  unfold p_X2_moveLatestTo
  rw [h1, show (((l.length + 1 : Nat) : Int) - 1) = (l.length : Int) by omega]
  refine at_c (by omega) (by omega) n1 ⟨fun z => (by cases z), fun o2 z hk => ?_⟩
  cases z
  refine st_copy (a := a) (by decide +kernel) n1 (by omega) (h5 1 (by decide +kernel)) q1 q2 (fun M1 s1 f1 c1 M2 e2 => ?_)
  have f37 : M1 37 = M 37 := f1 37 (by omega)
  have f2 : ∀ o, o ≠ 37 → M2 o = M1 o := fun o ho => by rw [e2, mu_ne ho]
  have g38 : M2 38 = M 38 := by rw [f2 38 (by omega), f1 38 (by omega)]
  refine k M2 ⟨?_, by omega, by rw [g38]; exact h3, by rw [g38]; exact h4, fun b hb2 => ?_, fun i r hr => ?_⟩ (s1.keep (fun o o1 o2 => f2 o (by omega))) q2 (by rw [f2 _ (by omega)]; exact c1) (fun o o1 o2 => by rw [f2 o o2, f1 o (by omega)])
  · rw [e2, mu_eq, f37]
    show (M 37 1 - 1 : Int) = _
    rw [h1]; omega
  · have hb3 : b + 9 ≠ 37 := by rcases st_ids hb2 with z | z | z | z | z | z <;> omega
    rw [f2 _ hb3]
    by_cases hq : b = 1
    · subst hq; exact c1
    · have hd := st_apart hb2 (by decide +kernel : gk gC 1 = 5) hq
      rw [f1 _ (by omega)]
      exact h5 b hb2
  · have hi : i < l.length := (List.getElem?_eq_some_iff.mp hr).1
    obtain ⟨w1, w2⟩ := h6 i r (by rw [List.getElem?_append_left hi]; exact hr)
    obtain ⟨m1, m2, m3⟩ := h3 i (by omega) (by omega)
    rw [g38]
    exact ⟨w1.keep (fun o o1 o2 => by rw [f2 o (by omega), f1 o (by omega)]), w2⟩
