/-! the first row -/
def a00 : Int → Int := MN 10 4 2 2 1
theorem a00_of (k : Int) : a00 k = if 0 ≤ k ∧ k < 10 then k % 5 else if 10 ≤ k ∧ k < 10 + 10 then 5 else if 20 ≤ k ∧ k < 20 + 10 then 1 else if k = 30 then 2 else if 31 ≤ k ∧ k < 31 + 4 then k - 31 else if k = 35 then 2 else 0 := rfl
theorem RM_0 {t : Int → Int} : RM (MN 10 4 2 2) a00 [] none 0 t :=
  ⟨fun _ _ _ => rfl, ⟨rfl, by decide, fun i r h => by simp at h⟩, rfl, rfl, fun i h0 h1 => by omega⟩
theorem VR_0 : VR a00 := by
  refine ⟨fun i i0 i1 => ?_, fun i i0 i1 => ?_, fun i i0 i1 => ?_, ?_, fun i i0 i1 => ?_, ?_, ?_, fun c c0 c1 => ?_, fun c c0 c1 => ?_⟩
  · rw [a00_of]; repeat' split
    all_goals omega
  · rw [a00_of]; repeat' split
    all_goals omega
  · rw [a00_of]; repeat' split
    all_goals omega
  · rw [a00_of]; decide
  · rw [a00_of]; rw [a00_of] at i1; revert i1; simp only [show ¬ ((0 : Int) ≤ 30 ∧ (30 : Int) < 10) by decide, show ¬ ((10 : Int) ≤ 30 ∧ (30 : Int) < 10 + 10) by decide, show ¬ ((20 : Int) ≤ 30 ∧ (30 : Int) < 20 + 10) by decide, if_false, if_true]; intro i1; repeat' split
    all_goals omega
  · rw [a00_of]; decide
  · rw [a00_of]; decide
  · have : a00 36 = 0 := by rw [a00_of]; decide
    omega
  · have : a00 36 = 0 := by rw [a00_of]; decide
    omega
