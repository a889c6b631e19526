section
/-! CONSTRUCTORS: how worlds grow -/
theorem jn {D : va_G} {cl : List vw_C} {WW w1 : va_W} {q : Nat} {e : va_E} {H H1 : Heap} {A : Nat → Prop} (hP : va_P D cl (WW ++ [(q, e)]) H) (hD : va_D A (WW ++ [(q, e)])) (hk : ∀ x, x < H.size → ¬ (x = q ∨ H.size ≤ x) → H1[x]? = H[x]?) (hF : ∀ x, H.size ≤ x → A x) (hP1 : va_P D cl w1 H1) (hD1 : va_D (fun x => x = q ∨ H.size ≤ x) w1) : va_P D cl (WW ++ w1) H1 ∧ va_D A (WW ++ w1) := by
  have up : ∀ (k : Nat) (x : Nat × va_E), WW[k]? = some x → (WW ++ [(q, e)])[k]? = some x := fun k x h => by
    rw [List.getElem?_append_left (List.getElem?_eq_some_iff.mp h).1]; exact h
  have last : (WW ++ [(q, e)])[WW.length]? = some (q, e) := by simp
  have lt : ∀ (k : Nat) (x : Nat × va_E), WW[k]? = some x → x.1 < H.size ∧ x.1 ≠ q := fun k x h => by
    refine ⟨(hP k x (up k x h)).lt, fun he => ?_⟩
    have := hD.1 k WW.length x (q, e) (up k x h) last he
    have h2 := (List.getElem?_eq_some_iff.mp h).1
    omega
  have hPW : va_P D cl WW H := fun k x hx => hP k x (up k x hx)
  refine ⟨(hPW.kept (fun k x hx => hk x.1 (lt k x hx).1 (by have := lt k x hx; omega))).app hP1, fun i j p r hi hj he => ?_, fun k x hx => ?_⟩
  · by_cases h1 : i < WW.length
    · rw [List.getElem?_append_left h1] at hi
      have l1 := lt i p hi
      by_cases h2 : j < WW.length
      · rw [List.getElem?_append_left h2] at hj
        exact hD.1 i j p r (up i p hi) (up j r hj) he
      · rw [List.getElem?_append_right (by omega)] at hj
        have := hD1.2 _ _ hj
        omega
    · rw [List.getElem?_append_right (by omega)] at hi
      have a1 := hD1.2 _ _ hi
      by_cases h2 : j < WW.length
      · rw [List.getElem?_append_left h2] at hj
        have l2 := lt j r hj
        omega
      · rw [List.getElem?_append_right (by omega)] at hj
        have := hD1.1 _ _ _ _ hi hj he
        omega
  · by_cases h1 : k < WW.length
    · rw [List.getElem?_append_left h1] at hx
      exact hD.2 k x (up k x hx)
    · rw [List.getElem?_append_right (by omega)] at hx
      rcases hD1.2 _ _ hx with h | h
      · rw [h]; exact hD.2 _ _ last
      · exact hF _ h
/-- a new object, as it is before its constructor -/
def blk (ci : Nat) : List Value := (sh ci).map (fun o => match o with | none => .int 0 | some _ => .null)
/-- what a constructor promises: out of the blank object a world of shape gc with the memory Mf -/
def Cn (E : EE) (l : Launch) (y : MethodName) (ws : List Cond) (rm : Room) (ci : Nat) (gc : GG) (Mf : Mm) (avs : List Value) (nc ns : Nat) : Prop := ∀ h sz : Nat, Met l y ws rm (va_Pc (.ref h :: avs) (fun U => U.heap.size = sz ∧ va_P E.1 vwCl [(h, .inr (ci, blk ci))] U.heap ∧ Kn E U ∧ h < sz)) (va_Qv (fun ad : Nat → Nat => ad 0 = h) (fun ad t => va_P E.1 vwCl (wd E gc ad Mf) t.heap ∧ Kn E t ∧ va_D (fun x => x = h ∨ sz ≤ x) (wd E gc ad Mf)) (fun x => x = h ∨ sz ≤ x)) nc ns (fun x => x = h ∨ sz ≤ x)
/-- the class of an int array is one -/
theorem cA_uniq {E : EE} {U : State} {cA : ClassId} (h : va_K E.1 vwCl (tyE E ++ [(cA, .int)]) U) : cA = E.2.1 := by
  have h1 := (h.2 0 (E.2.1, .int) rfl).2
  have h2 := (h.2 2 (cA, .int) rfl).2
  have h3 : U.vm.findClass ("[" ++ FieldType.int.toString) = some E.2.1 := h1
  have h4 : U.vm.findClass ("[" ++ FieldType.int.toString) = some cA := h2
  exact Option.some.inj (h4.symm.trans h3)
theorem k_pre {E : EE} {s : State} {H : Heap} {WW : va_W} {q ci : Nat} {As : List Value} (K : Kn E s) (hP : va_P E.1 vwCl (WW ++ [(q, .inr (ci, blk ci))]) H) : PreS s H (va_Pc (.ref q :: As) (fun U => U.heap.size = H.size ∧ va_P E.1 vwCl [(q, .inr (ci, blk ci))] U.heap ∧ Kn E U ∧ q < H.size)) (.ref q :: As) := by
  have last : (WW ++ [(q, (.inr (ci, blk ci) : va_E))])[WW.length]? = some (q, .inr (ci, blk ci)) := by simp
  refine ⟨fun a U g mk h => ?_, fun U hU hW => ⟨rfl, by rw [hU], ?_, K.warm hW, (hP _ _ last).lt⟩⟩
  · obtain ⟨h0, h1, h2, h3, h4⟩ := h
    exact ⟨h0, h1, h2, h3.calling, h4⟩
  · rw [hU]
    intro k x hx
    have : k = 0 := by
      have := (List.getElem?_eq_some_iff.mp hx).1
      simp at this; omega
    subst this
    cases hx
    exact hP _ _ last
theorem k_ini {E : EE} {p : Program} {l : Launch} {e : Env} {R : Room} {s : State} {m : MethodId} {args : Array Value} {below : List Frame} {meth : Method} {c : Code} {H H0 : Heap} {locs : List Loc} {cells slots : Nat} {Q : State → Prop} {pc : Nat} {ls : Array Slot} {st0 rest : List Value} {A : Nat → Prop} {WW : va_W} {q ci nc ns : Nat} {gc : GG} {Mf : Mm} {a : Array Value} (K : Kn E s) (hP : va_P E.1 vwCl (WW ++ [(q, .inr (ci, blk ci))]) H) (hD : va_D A (WW ++ [(q, .inr (ci, blk ci))])) (hS : va_S A H0 H locs) (hA : ∀ q, H0.size ≤ q → A q)
    (hr : va_Run p l e R s m args below meth c H locs cells slots nc ns (F0 m pc ls st0) rest (va_Qv (fun ad : Nat → Nat => ad 0 = q) (fun ad t => va_P E.1 vwCl (wd E gc ad Mf) t.heap ∧ Kn E t ∧ va_D (fun x => x = q ∨ H.size ≤ x) (wd E gc ad Mf)) (fun x => x = q ∨ H.size ≤ x) a) (fun x => x = q ∨ H.size ≤ x))
    (kk : ∀ (ad : Nat → Nat) (H1 : Heap) (locs1 : List Loc), ad 0 = q → va_P E.1 vwCl (WW ++ wd E gc ad Mf) H1 → va_D A (WW ++ wd E gc ad Mf) → va_S A H0 H1 locs1 → W p l e R s m args below meth c H1 locs1 (cells + nc) (slots + ns) Q (F0 m (pc + 3) ls rest)) : W p l e R s m args below meth c H locs cells slots Q (F0 m pc ls st0) := by
  have last : (WW ++ [(q, (.inr (ci, blk ci) : va_E))])[WW.length]? = some (q, .inr (ci, blk ci)) := by simp
  have hF2 : ∀ x, H.size ≤ x → A x := fun x h => hA x (Nat.le_trans hS.1 h)
  have hF : ∀ x, (x = q ∨ H.size ≤ x) → A x := fun x h => by
    rcases h with h | h
    · rw [h]; exact hD.2 _ _ last
    · exact hF2 x h
  refine va_callv hr hS (fun x _ h => hF x h) hF (fun ad t H1 locs1 ht hvm h0 hB hz hk hS1 => ?_)
  obtain ⟨hP1, -, hD1⟩ := hB
  rw [ht] at hP1
  obtain ⟨j1, j2⟩ := jn hP hD hk hF2 hP1 hD1
  exact kk ad H1 locs1 h0 j1 j2 hS1
theorem one_D {h sz : Nat} {e : va_E} : va_D (fun x => x = h ∨ sz ≤ x) [(h, e)] := by
  refine ⟨fun i j p q hi hj _ => ?_, fun k q hk => ?_⟩
  · have h1 := (List.getElem?_eq_some_iff.mp hi).1
    have h2 := (List.getElem?_eq_some_iff.mp hj).1
    simp at h1 h2; omega
  · have h1 := (List.getElem?_eq_some_iff.mp hk).1
    have : k = 0 := by simp at h1; omega
    subst this
    cases hk; exact Or.inl rfl
end
