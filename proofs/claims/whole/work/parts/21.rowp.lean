/-! PURE: rows of the class -/
theorem glC (o : Nat) : ((gl gC o : Nat) : Int) ≤ 1000 := by have := gC_wf.2 o; omega
theorem inR_s {x : Int} (h0 : -100000000 ≤ x) (h1 : x ≤ 100000000) : inR x := ⟨by omega, by omega⟩
theorem get_c {r : Nat} {i : Int} {M : Mm} {Q : Int → Mm → Prop} (h0 : 0 ≤ i) (h1 : i < (gl gC (r + 1) : Int)) (k : Q (M (r + 1) i) M) : p_X4_get gC r i M Q := by
  have h2 := glC (r + 1)
  unfold p_X4_get
  exact ⟨inR_s (by omega) (by omega), fun h => absurd h (by omega), fun _ => ⟨inR_s (by omega) (by omega), fun h => absurd h (by omega), fun _ => ⟨h0, h1, k⟩⟩⟩
theorem put_c {r : Nat} {i v : Int} {M : Mm} {Q : Mm → Prop} (h0 : 0 ≤ i) (h1 : i < (gl gC (r + 1) : Int)) (k : Q (mu M (r + 1) i v)) : p_X4_put gC r i v M Q := by
  have h2 := glC (r + 1)
  unfold p_X4_put
  refine ⟨inR_s (by omega) (by omega), fun h => absurd h (by omega), fun _ => ⟨inR_s (by omega) (by omega), fun h => absurd h (by omega), fun _ => ?_⟩⟩
  first | exact ⟨h0, h1, fun _ e => e ▸ k⟩ | skip
theorem inc_c {r : Nat} {i v : Int} {M : Mm} {Q : Mm → Prop} (h0 : 0 ≤ i) (h1 : i < (gl gC (r + 1) : Int)) (k : Q (mu M (r + 1) i (M (r + 1) i + v))) : p_X4_increase gC r i v M Q := by
  unfold p_X4_increase
  exact get_c h0 h1 (put_c h0 h1 k)
theorem swap_c {r : Nat} {i j : Int} {M : Mm} {Q : Mm → Prop} (h0 : 0 ≤ i) (h1 : i < (gl gC (r + 1) : Int)) (h2 : 0 ≤ j) (h3 : j < (gl gC (r + 1) : Int)) (k : Q (mu (mu M (r + 1) i (M (r + 1) j)) (r + 1) j (M (r + 1) i))) : p_X4_swap gC r i j M Q := by
  unfold p_X4_swap
  exact get_c h0 h1 (get_c h2 h3 (put_c h0 h1 (put_c h2 h3 k)))
/-- all cells of a row set -/
def mfl (M : Mm) (o : Nat) (n v : Int) : Mm := fun o' => if o' = o then (fun k => if 0 ≤ k ∧ k < n then v else M o k) else M o'
theorem mfl_ne {M : Mm} {o o' : Nat} {n v : Int} (h : o' ≠ o) : mfl M o n v o' = M o' := if_neg h
theorem mfl_eq {M : Mm} {o : Nat} {n v : Int} : mfl M o n v o = fun k => if 0 ≤ k ∧ k < n then v else M o k := if_pos rfl
theorem mfl_step {M : Mm} {o : Nat} {n v : Int} (h : 0 ≤ n) : mu (mfl M o n v) o n v = mfl M o (n + 1) v := by
  funext o' k
  by_cases h1 : o' = o
  · subst h1
    rw [mu_eq, mfl_eq, mfl_eq]
    show (if k = n then v else if 0 ≤ k ∧ k < n then v else M o' k) = if 0 ≤ k ∧ k < n + 1 then v else M o' k
    by_cases h2 : k = n
    · rw [if_pos h2, if_pos (by omega)]
    · rw [if_neg h2]
      by_cases h3 : 0 ≤ k ∧ k < n
      · rw [if_pos h3, if_pos (by omega)]
      · rw [if_neg h3, if_neg (by omega)]
  · rw [mu_ne h1, mfl_ne h1, mfl_ne h1]
theorem mfl_0 {M : Mm} {o : Nat} {v : Int} : mfl M o 0 v = M := by
  funext o' k
  by_cases h1 : o' = o
  · subst h1; rw [mfl_eq]; exact if_neg (by omega)
  · rw [mfl_ne h1]
theorem fill_l {r : Nat} {v : Int} {M : Mm} {Q : Mm → Prop} (k : Q (mfl M (r + 1) (gl gC (r + 1) : Int) v)) : ∀ (n : Nat) (i : Int), 0 ≤ i → i ≤ (gl gC (r + 1) : Int) → (gl gC (r + 1) : Int) - i < n → p_X4_fill_L2 gC n r v i (mfl M (r + 1) i v) Q := by
  have h2 := glC (r + 1)
  intro n
  induction n with
  | zero => intro i h0 h1 hn; omega
  | succ n ih =>
    intro i h0 h1 hn
    unfold p_X4_fill_L2
    refine ⟨inR_s (by omega) (by omega), fun h => ?_, fun h => ⟨h0, h, fun _ e => ?_⟩⟩
    · have : i = (gl gC (r + 1) : Int) := by omega
      rw [this]; exact k
    · rw [e, mfl_step h0]
      exact ih (i + 1) (by omega) (by omega) (by omega)
theorem fill_c {r : Nat} {v : Int} {M : Mm} {Q : Mm → Prop} (k : Q (mfl M (r + 1) (gl gC (r + 1) : Int) v)) : p_X4_fill gC r v M Q := by
  unfold p_X4_fill
  have h2 := glC (r + 1)
  have h := fill_l (v := v) k 1001 0 (by omega) (by omega) (by omega)
  rw [mfl_0] at h
  exact ⟨_, h⟩
/-- the sum of the first n numbers -/
def isum (f : Int → Int) : Nat → Int
  | 0 => 0
  | n + 1 => isum f n + f n
theorem sum_l {r : Nat} {M : Mm} {Q : Int → Mm → Prop} (k : Q (isum (M (r + 1)) (gl gC (r + 1))) M) : ∀ (n j : Nat), j ≤ gl gC (r + 1) → gl gC (r + 1) - j < n → p_X4_sum_L4 gC n r (isum (M (r + 1)) j) (j : Int) M Q := by
  have h2 := glC (r + 1)
  intro n
  induction n with
  | zero => intro j h0 hn; omega
  | succ n ih =>
    intro j h1 hn
    unfold p_X4_sum_L4
    refine ⟨inR_s (by omega) (by omega), fun h => ?_, fun h => ⟨by omega, h, ?_⟩⟩
    · have : j = gl gC (r + 1) := by omega
      rw [this]; exact k
    · exact ih (j + 1) (by omega) (by omega)
theorem sum_c {r : Nat} {M : Mm} {Q : Int → Mm → Prop} (k : Q (isum (M (r + 1)) (gl gC (r + 1))) M) : p_X4_sum gC r M Q := by
  unfold p_X4_sum
  exact ⟨_, sum_l k 100000 0 (Nat.zero_le _) (by have := glC (r + 1); omega)⟩
theorem copy_c {r r2 : Nat} {M : Mm} {Q : Mm → Prop} (k : Q (mcp M (r2 + 1) (r + 1) (min (gl gC (r + 1) : Int) (gl gC (r2 + 1) : Int)))) : p_X4_copyFrom gC r r2 M Q := by
  unfold p_X4_copyFrom
  have h1 := glC (r + 1)
  have h2 := glC (r2 + 1)
  first | exact ⟨by omega, by omega, by omega, fun _ e => e ▸ k⟩ | exact ⟨inR_s (by omega) (by omega), inR_s (by omega) (by omega), by omega, by omega, by omega, fun _ e => e ▸ k⟩
theorem below_c {a b : Int} {M : Mm} {Q : Int → Mm → Prop} (ha : inR a) (hb : inR b) (k1 : 0 ≤ a → a < b → Q 1 M) (k0 : (a < 0 ∨ b ≤ a) → Q 0 M) : p_X7_isBelow gC a b M Q := by
  unfold p_X7_isBelow
  exact ⟨ha, fun h => k0 (Or.inl h), fun h => ⟨ha, hb, fun h2 => k0 (Or.inr h2), fun h2 => k1 h h2⟩⟩
theorem within_c {a b c : Int} {M : Mm} {Q : Int → Mm → Prop} (ha : inR a) (hb : inR b) (hc : inR c) (k1 : b ≤ a → a ≤ c → Q 1 M) (k0 : (a < b ∨ c < a) → Q 0 M) : p_X7_isWithin gC a b c M Q := by
  unfold p_X7_isWithin
  exact ⟨ha, hb, fun h => k0 (Or.inl h), fun h => ⟨ha, hc, fun h2 => k0 (Or.inr h2), fun h2 => k1 h h2⟩⟩
