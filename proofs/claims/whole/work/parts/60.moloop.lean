section
/-! the reference: its constructor's loops -/
section
variable {p : Program} {l : Launch} {e : Env} {R : Room} {s : State} {m : MethodId} {args : Array Value} {below : List Frame} {meth : Method} {c : Code} {H H0 : Heap} {locs : List Loc} {cells slots : Nat} {Q : State → Prop} {pc : Nat} {ls : Array Slot} {st0 rest : List Value} {A : Nat → Prop} {E : EE} {g : GG} {ad : Nat → Nat} {M : Mm} {cc : ByteArray} {nL : Nat} {Ts : List Cond} {own : String} {o : Nat}
theorem k_iast (X : CallFix p m c cc nL s args Ts own) (K : Kn E s) (hP : va_P E.1 vwCl (wd E g ad M) H) (hD : va_D A (wd E g ad M)) (hS : va_S A H0 H locs) (hg : gwf g) (ho : gk g o = 9) {i v : Int} (h0 : 0 ≤ i) (h1 : i < (gl g o : Int)) (hdg : decode cc pc = .ok (.iastore, 1))
    (kk : ∀ (M1 : Mm) (H1 : Heap) (locs1 : List Loc), M1 = mu M o i v → va_P E.1 vwCl (wd E g ad M1) H1 → va_D A (wd E g ad M1) → va_S A H0 H1 locs1 → W p l e R s m args below meth c H1 locs1 cells slots Q (F0 m (pc + 1) ls rest)) : W p l e R s m args below meth c H locs cells slots Q (F0 m pc ls (cI v :: cI i :: .ref (ad o) :: rest)) := by
  have hz := hg.2 o
  refine va_iast X.1 X.2.1 K.1 hP hD hS o 0 (wd_arr ho) tyE0 (cI_in h0 h1 (hg.2 o)) hdg (fun H1 locs1 hP hD hS => ?_)
  have he : (wd E g ad M).set o (ad o, .inl (E.2.1, gl g o, .inl (upd (fun j : Nat => Int32.ofInt (M o j)) (Int32.ofInt i).toNatClampNeg (Int32.ofInt v)))) = wd E g ad (mu M o i v) := by
    refine wd_set (gk_lt (by omega)) (fun o' h => mu_ne h) ?_
    rw [ce_arr ho, mu_eq, cI_cl h0 (by omega)]
    congr 1
    congr 1
    congr 1
    congr 1
    funext j
    show Int32.ofInt (if (j : Int) = i then v else M o j) = if j = i.toNat then Int32.ofInt v else Int32.ofInt (M o j)
    by_cases hj : (j : Int) = i
    · rw [if_pos hj, if_pos (by omega)]
    · rw [if_neg hj, if_neg (by omega)]
  rw [he] at hP hD
  exact kk _ H1 locs1 rfl hP hD hS
end
def MN (i j y z : Int) : Mm := fun o k => if o = 1 then (if 0 ≤ k ∧ k < i then k % 5 else if 10 ≤ k ∧ k < 10 + i then 5 else if 20 ≤ k ∧ k < 20 + i then 1 else if k = 30 then y else if 31 ≤ k ∧ k < 31 + j then k - 31 else if k = 35 then z else 0) else 0
theorem MN_0 : MN 0 0 0 0 = M00 := by
  funext o k
  unfold MN M00
  by_cases h : o = 1
  · rw [if_pos h]; repeat' split
    all_goals omega
  · rw [if_neg h]
theorem MN_1 {i : Int} (h0 : 0 ≤ i) (h1 : i < 10) : mu (mu (mu (MN i 0 0 0) 1 (0 + i) (i % 5)) 1 (10 + i) 5) 1 (20 + i) 1 = MN (i + 1) 0 0 0 := by
  funext o k
  by_cases h : o = 1
  · subst h
    rw [mu_eq, mu_eq, mu_eq]
    unfold MN
    simp only [if_true]
    repeat' split
    all_goals omega
  · rw [mu_ne h, mu_ne h, mu_ne h]; unfold MN; rw [if_neg h, if_neg h]
theorem MN_2 : mu (MN 10 0 0 0) 1 30 2 = MN 10 0 2 0 := by
  funext o k
  by_cases h : o = 1
  · subst h
    rw [mu_eq]
    unfold MN
    simp only [if_true]
    repeat' split
    all_goals omega
  · rw [mu_ne h]; unfold MN; rw [if_neg h, if_neg h]
theorem MN_3 {j : Int} (h0 : 0 ≤ j) (h1 : j < 4) : mu (MN 10 j 2 0) 1 (31 + j) j = MN 10 (j + 1) 2 0 := by
  funext o k
  by_cases h : o = 1
  · subst h
    rw [mu_eq]
    unfold MN
    simp only [if_true]
    repeat' split
    all_goals omega
  · rw [mu_ne h]; unfold MN; rw [if_neg h, if_neg h]
theorem MN_4 : mu (MN 10 4 2 0) 1 35 2 = MN 10 4 2 2 := by
  funext o k
  by_cases h : o = 1
  · subst h
    rw [mu_eq]
    unfold MN
    simp only [if_true]
    repeat' split
    all_goals omega
  · rw [mu_ne h]; unfold MN; rw [if_neg h, if_neg h]
end
