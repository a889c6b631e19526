/-! the class's world out of its constructors' worlds -/
def gHis : GG := [(2, 0), (10, 4)] ++ gSta ++ gSta ++ gSta ++ gSta
theorem gC_cat : gC = [(7, 0)] ++ gSta ++ gSta ++ gHis ++ gTxt ++ gRdr ++ gReh := by decide +kernel
theorem fv_shift {ad : Nat → Nat} {r : Int → Int} {n o : Nat} : ∀ (l : List (Option Nat)) (k : Nat), fv ad r (n + o) k l = fv (fun x => ad (n + x)) r o k l
  | [], _ => rfl
  | none :: l, k => by simp only [fv, fv_shift l]
  | some d :: l, k => by simp only [fv, fv_shift l, Nat.add_assoc]
theorem gk_r {g1 g2 : GG} {o : Nat} : gk (g1 ++ g2) (g1.length + o) = gk g2 o := by
  simp [gk, List.getD, List.getElem?_append_right]
theorem gl_r {g1 g2 : GG} {o : Nat} : gl (g1 ++ g2) (g1.length + o) = gl g2 o := by
  simp [gl, List.getD, List.getElem?_append_right]
theorem gk_l {g1 g2 : GG} {o : Nat} (h : o < g1.length) : gk (g1 ++ g2) o = gk g1 o := by
  simp [gk, List.getD, List.getElem?_append_left h]
theorem gl_l {g1 g2 : GG} {o : Nat} (h : o < g1.length) : gl (g1 ++ g2) o = gl g1 o := by
  simp [gl, List.getD, List.getElem?_append_left h]
theorem wd_cat {E : EE} {g1 g2 : GG} {ad : Nat → Nat} {M : Mm} (h10 : ∀ o, gk g2 o ≠ 10) : wd E (g1 ++ g2) ad M = wd E g1 ad M ++ wd E g2 (fun x => ad (g1.length + x)) (fun x => M (g1.length + x)) := by
  apply List.ext_getElem?
  intro i
  by_cases h1 : i < g1.length
  · rw [List.getElem?_append_left (by rw [wd_len]; exact h1), wd_get (by rw [List.length_append]; omega), wd_get h1]
    unfold ce
    rw [gk_l h1, gl_l h1]
  · rw [List.getElem?_append_right (by rw [wd_len]; omega), wd_len]
    by_cases h2 : i < (g1 ++ g2).length
    · have h3 : i - g1.length < g2.length := by rw [List.length_append] at h2; omega
      obtain ⟨o, rfl⟩ : ∃ o, i = g1.length + o := ⟨i - g1.length, by omega⟩
      rw [wd_get h2, show g1.length + o - g1.length = o by omega]
      rw [show g1.length + o - g1.length = o by omega] at h3
      rw [wd_get h3]
      unfold ce
      rw [gk_r, gl_r, if_neg (h10 o), if_neg (h10 o), fv_shift]
    · rw [List.getElem?_eq_none (by rw [wd_len]; omega), List.getElem?_eq_none (by rw [wd_len]; rw [List.length_append] at h2; omega)]
