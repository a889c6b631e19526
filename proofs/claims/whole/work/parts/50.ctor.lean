section
/-! CONSTRUCTORS: how worlds grow -/
theorem jn {D : va_G} {cl : List vw_C} {WW w1 : va_W} {q : Nat} {e : va_E} {H H1 : Heap} {A : Nat → Prop} (hP : va_P D cl (WW ++ [(q, e)]) H) (hD : va_D A (WW ++ [(q, e)])) (hk : ∀ x, x < H.size → ¬ (x = q ∨ H.size ≤ x) → H1[x]? = H[x]?) (hF : ∀ x, H.size ≤ x → A x) (hP1 : va_P D cl w1 H1) (hD1 : va_D (fun x => x = q ∨ H.size ≤ x) w1) : va_P D cl (WW ++ w1) H1 ∧ va_D A (WW ++ w1) := by
  have up : ∀ (k : Nat) (x : Nat × va_E), WW[k]? = some x → (WW ++ [(q, e)])[k]? = some x := fun k x h => by
    rw [List.getElem?_append_left (List.getElem?_eq_some_iff.mp h).1]; exact h
  have last : (WW ++ [(q, e)])[WW.length]? = some (q, e) := by simp
  have lt : ∀ (k : Nat) (x : Nat × va_E), WW[k]? = some x → x.1 < H.size ∧ x.1 ≠ q := fun k x h => by
    refine ⟨(hP k x (up k x h)).lt, fun he => ?_⟩
    have := hD.1 k WW.length x (q, e) (up k x h) last he
    have h2 := (List.getElem?_eq_some_iff.mp h).1
    omega
  have hPW : va_P D cl WW H := fun k x hx => hP k x (up k x hx)
  refine ⟨(hPW.kept (fun k x hx => hk x.1 (lt k x hx).1 (by have := lt k x hx; omega))).app hP1, fun i j p r hi hj he => ?_, fun k x hx => ?_⟩
  · by_cases h1 : i < WW.length
    · rw [List.getElem?_append_left h1] at hi
      have l1 := lt i p hi
      by_cases h2 : j < WW.length
      · rw [List.getElem?_append_left h2] at hj
        exact hD.1 i j p r (up i p hi) (up j r hj) he
      · rw [List.getElem?_append_right (by omega)] at hj
        have := hD1.2 _ _ hj
        omega
    · rw [List.getElem?_append_right (by omega)] at hi
      have a1 := hD1.2 _ _ hi
      by_cases h2 : j < WW.length
      · rw [List.getElem?_append_left h2] at hj
        have l2 := lt j r hj
        omega
      · rw [List.getElem?_append_right (by omega)] at hj
        have := hD1.1 _ _ _ _ hi hj he
        omega
  · by_cases h1 : k < WW.length
    · rw [List.getElem?_append_left h1] at hx
      exact hD.2 k x (up k x hx)
    · rw [List.getElem?_append_right (by omega)] at hx
      rcases hD1.2 _ _ hx with h | h
      · rw [h]; exact hD.2 _ _ last
      · exact hF _ h
/-- a new object, as it is before its constructor -/
def blk (ci : Nat) : List Value := (sh ci).map (fun o => match o with | none => .int 0 | some _ => .null)
/-- what a constructor promises: out of the blank object a world of shape gc with the memory Mf -/
def Cn (E : EE) (l : Launch) (y : MethodName) (ws : List Cond) (rm : Room) (ci : Nat) (gc : GG) (Mf : Mm) (avs : List Value) (nc ns : Nat) : Prop := ∀ h sz : Nat, Met l y ws rm (va_Pc (.ref h :: avs) (fun U => U.heap.size = sz ∧ va_P E.1 vwCl [(h, .inr (ci, blk ci))] U.heap ∧ Kn E U ∧ h < sz)) (va_Qv (fun ad : Nat → Nat => ad 0 = h) (fun ad t => va_P E.1 vwCl (wd E gc ad Mf) t.heap ∧ Kn E t ∧ va_D (fun x => x = h ∨ sz ≤ x) (wd E gc ad Mf)) (fun x => x = h ∨ sz ≤ x)) nc ns (fun x => x = h ∨ sz ≤ x)
/-- the class of an int array is one -/
theorem cA_uniq {E : EE} {U : State} {cA : ClassId} (h : va_K E.1 vwCl (tyE E ++ [(cA, .int)]) U) : cA = E.2.1 := by
  have h1 := (h.2 0 (E.2.1, .int) rfl).2
  have h2 := (h.2 2 (cA, .int) rfl).2
  have h3 : U.vm.findClass ("[" ++ FieldType.int.toString) = some E.2.1 := h1
  have h4 : U.vm.findClass ("[" ++ FieldType.int.toString) = some cA := h2
  exact Option.some.inj (h4.symm.trans h3)
end
