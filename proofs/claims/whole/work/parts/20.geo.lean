/-! THE SHAPES of the two worlds -/
def gSt : GG := [(5, 0), (4, 0), (9, 10), (4, 0), (9, 10), (4, 0), (9, 10), (4, 0), (9, 4), (0, 0), (4, 0), (9, 40), (4, 0), (9, 40), (4, 0), (9, 40), (4, 0), (9, 40)]
def gC : GG := [(7, 0)] ++ (gSt ++ (gSt ++ ([(2, 0), (10, 4)] ++ (gSt ++ (gSt ++ (gSt ++ (gSt ++ [(6, 0), (4, 0), (9, 60), (1, 0), (0, 0), (4, 0), (9, 100), (4, 0), (9, 100), (4, 0), (9, 100), (4, 0), (9, 100),
  (3, 0), (4, 0), (9, 10), (4, 0), (9, 10), (4, 0), (9, 10), (4, 0), (9, 4), (4, 0), (9, 4), (4, 0), (9, 4), (4, 0), (9, 4), (4, 0), (9, 40), (4, 0), (9, 40), (4, 0), (9, 40), (4, 0), (9, 6), (4, 0), (9, 6)])))))))
def gM : GG := [(8, 0), (9, 201), (9, 201), (9, 201), (9, 804), (9, 201), (9, 40), (9, 40), (9, 40), (9, 40), (9, 4), (9, 4), (9, 4), (9, 10), (9, 10), (9, 4), (9, 60), (9, 60)]
def gwfb (g : GG) : Bool := ((List.range g.length).all fun o => (List.range 25).all fun k => match (sh (gk g o))[k]? with
  | some (some d) => gk g (o + d) == (sk (gk g o)).getD k 99
  | _ => true) && g.all (fun q => decide (q.2 ≤ 1000))
theorem gwf_of {g : GG} (h : gwfb g = true) : gwf g := by
  simp only [gwfb, Bool.and_eq_true, List.all_eq_true, List.mem_range, decide_eq_true_eq] at h
  refine ⟨fun o ho k hk d hd => ?_, fun o => ?_⟩
  · have h1 := h.1 o ho k hk
    rw [hd] at h1
    simpa using h1
  · unfold gl
    by_cases ho : o < g.length
    · have h2 : g.getD o (99, 0) = g[o] := by simp [List.getD, ho]
      rw [h2]
      exact h.2 _ (List.getElem_mem ho)
    · have h2 : g.getD o (99, 0) = (99, 0) := by simp [List.getD, List.getElem?_eq_none (Nat.le_of_not_lt ho)]
      rw [h2]
      exact Nat.zero_le _
theorem gC_wf : gwf gC := gwf_of (by decide +kernel)
theorem gM_wf : gwf gM := gwf_of (by decide +kernel)
/-- what a state's rows are -/
def stl (b : Nat) : Prop := gk gC b = 5 ∧ gk gC (b + 1) = 4 ∧ gk gC (b + 3) = 4 ∧ gk gC (b + 5) = 4 ∧ gk gC (b + 7) = 4 ∧ gk gC (b + 9) = 0 ∧ gk gC (b + 9 + 1) = 4 ∧ gk gC (b + 9 + 3) = 4 ∧ gk gC (b + 9 + 5) = 4 ∧ gk gC (b + 9 + 7) = 4 ∧ gl gC (b + 1 + 1) = 10 ∧ gl gC (b + 3 + 1) = 10 ∧ gl gC (b + 5 + 1) = 10 ∧ gl gC (b + 7 + 1) = 4 ∧ gl gC (b + 9 + 1 + 1) = 40 ∧ gl gC (b + 9 + 3 + 1) = 40 ∧ gl gC (b + 9 + 5 + 1) = 40 ∧ gl gC (b + 9 + 7 + 1) = 40
def stb (b : Nat) : Bool := decide (gk gC b = 5 → b = 1 ∨ b = 19 ∨ b = 39 ∨ b = 57 ∨ b = 75 ∨ b = 93)
theorem stb_all : (List.range 149).all stb = true := by decide +kernel
theorem st_ids {b : Nat} (h : gk gC b = 5) : b = 1 ∨ b = 19 ∨ b = 39 ∨ b = 57 ∨ b = 75 ∨ b = 93 := by
  have hl : b < 149 := gk_lt (g := gC) (by omega)
  have h1 := List.all_eq_true.mp stb_all b (List.mem_range.mpr hl)
  exact (decide_eq_true_eq.mp h1) h
theorem st_all {b : Nat} (h : gk gC b = 5) : stl b := by
  rcases st_ids h with rfl | rfl | rfl | rfl | rfl | rfl <;> (unfold stl; decide +kernel)
