/-! THE PURE MEMORY: numbers by an id (of an object or an array) and a slot; shapes of the classes; the world that holds a memory -/
abbrev Mm : Type := Nat → Int → Int
abbrev GG : Type := List (Nat × Nat)
abbrev EE : Type := va_G × ClassId × ClassId
abbrev cI (x : Int) : Value := .int (Int32.ofInt x)
abbrev cL (x : Int) : Value := .long (Int64.ofInt x)
def inR (x : Int) : Prop := -2147483648 ≤ x ∧ x ≤ 2147483647
def inL (x : Int) : Prop := -9223372036854775808 ≤ x ∧ x ≤ 9223372036854775807
def mu (M : Mm) (o : Nat) (k v : Int) : Mm := fun o' => if o' = o then (fun k' => if k' = k then v else M o k') else M o'
def mcp (M : Mm) (a b : Nat) (n : Int) : Mm := fun o => if o = b then (fun k => if 0 ≤ k ∧ k < n then M a k else M b k) else M o
theorem mu_ne {M : Mm} {o o' : Nat} {k v : Int} (h : o' ≠ o) : mu M o k v o' = M o' := if_neg h
theorem mu_eq {M : Mm} {o : Nat} {k v : Int} : mu M o k v o = fun k' => if k' = k then v else M o k' := if_pos rfl
theorem mcp_ne {M : Mm} {a b o' : Nat} {n : Int} (h : o' ≠ b) : mcp M a b n o' = M o' := if_neg h
theorem mcp_eq {M : Mm} {a b : Nat} {n : Int} : mcp M a b n b = fun k => if 0 ≤ k ∧ k < n then M a k else M b k := if_pos rfl
def gk (g : GG) (o : Nat) : Nat := (g.getD o (99, 0)).1
def gl (g : GG) (o : Nat) : Nat := (g.getD o (99, 0)).2
theorem gk_lt {g : GG} {o : Nat} (h : gk g o < 99) : o < g.length := by
  by_cases hl : o < g.length
  · exact hl
  · have h2 : gk g o = 99 := by simp [gk, List.getD, List.getElem?_eq_none (Nat.le_of_not_lt hl)]
    omega
/-- the fields of each class: an int, or a reference to the object so many ids further on -/
def sh : Nat → List (Option Nat)
  | 0 => [none, some 1, some 3, some 5, some 7, none]
  | 1 => [some 1, none, none, none]
  | 2 => [some 1, none]
  | 3 => [some 1, some 3, some 5, some 7, some 9, some 11, some 13, some 15, some 17, some 19, some 21, some 23, none, none, none]
  | 4 => [some 1]
  | 5 => [some 1, some 3, some 5, some 7, some 9, none, none, none, none, none, none]
  | 6 => [some 1, none]
  | 7 => [some 1, some 19, some 37, some 111, some 114, some 124, none]
  | 8 => [some 1, some 2, some 3, some 4, none, some 5, none, some 6, some 7, some 8, some 9, some 10, some 11, some 12, some 13, some 14, none, none, some 15, some 16, none, none, none, some 17, none]
  | _ => []
/-- of which class they are -/
def sk : Nat → List Nat
  | 0 => [99, 4, 4, 4, 4, 99]
  | 1 => [0, 99, 99, 99]
  | 2 => [10, 99]
  | 3 => [4, 4, 4, 4, 4, 4, 4, 4, 4, 4, 4, 4, 99, 99, 99]
  | 4 => [9]
  | 5 => [4, 4, 4, 4, 0, 99, 99, 99, 99, 99, 99]
  | 6 => [4, 99]
  | 7 => [5, 5, 2, 6, 1, 3, 99]
  | 8 => [9, 9, 9, 9, 99, 9, 99, 9, 9, 9, 9, 9, 9, 9, 9, 9, 99, 99, 9, 9, 99, 99, 99, 9, 99]
  | _ => []
/-- the shape of a world is sound: each reference of each object leads to an object of its class; rows are short -/
def gwf (g : GG) : Prop := (∀ o, o < g.length → ∀ k, k < 25 → ∀ d, (sh (gk g o))[k]? = some (some d) → gk g (o + d) = (sk (gk g o)).getD k 99) ∧ ∀ o, gl g o ≤ 1000
theorem gch {g : GG} (hg : gwf g) {o ci : Nat} (ho : gk g o = ci) (hc : ci < 99) (k : Nat) (hk : k < 25) {d : Nat} (hs : (sh ci)[k]? = some (some d)) {cj : Nat} (hj : (sk ci).getD k 99 = cj) : gk g (o + d) = cj := by
  subst ho
  rw [← hj]
  exact hg.1 o (gk_lt hc) k hk d hs
def fv (ad : Nat → Nat) (r : Int → Int) (o : Nat) : Nat → List (Option Nat) → List Value
  | _, [] => []
  | k, none :: l => cI (r k) :: fv ad r o (k + 1) l
  | k, some d :: l => .ref (ad (o + d)) :: fv ad r o (k + 1) l
def ce (E : EE) (g : GG) (ad : Nat → Nat) (o : Nat) (r : Int → Int) : va_E :=
  if gk g o = 9 then .inl (E.2.1, gl g o, .inl (fun j : Nat => Int32.ofInt (r j)))
  else if gk g o = 10 then .inl (E.2.2, gl g o, .inr (.inr (.inr (.inr (fun j : Nat => some (ad (r j).toNat))))))
  else .inr (gk g o, fv ad r o 0 (sh (gk g o)))
def wd (E : EE) (g : GG) (ad : Nat → Nat) (M : Mm) : va_W := (List.range g.length).map fun o => (ad o, ce E g ad o (M o))
theorem wd_len {E : EE} {g : GG} {ad : Nat → Nat} {M : Mm} : (wd E g ad M).length = g.length := by simp [wd]
theorem wd_get {E : EE} {g : GG} {ad : Nat → Nat} {M : Mm} {o : Nat} (ho : o < g.length) : (wd E g ad M)[o]? = some (ad o, ce E g ad o (M o)) := by
  simp [wd, ho]
theorem wd_inv {E : EE} {g : GG} {ad : Nat → Nat} {M : Mm} {k : Nat} {q : Nat × va_E} (h : (wd E g ad M)[k]? = some q) : k < g.length ∧ q = (ad k, ce E g ad k (M k)) := by
  have hk : k < g.length := by
    have := (List.getElem?_eq_some_iff.mp h).1
    rwa [wd_len] at this
  rw [wd_get hk] at h
  exact ⟨hk, (Option.some.inj h).symm⟩
theorem wd_set {E : EE} {g : GG} {ad : Nat → Nat} {M M' : Mm} {o : Nat} {e : va_E} (ho : o < g.length) (hne : ∀ o', o' ≠ o → M' o' = M o') (he : ce E g ad o (M' o) = e) : (wd E g ad M).set o (ad o, e) = wd E g ad M' := by
  apply List.ext_getElem?
  intro i
  by_cases hi : i < g.length
  · by_cases hio : i = o
    · subst hio
      rw [List.getElem?_set_self (by rw [wd_len]; exact ho), wd_get ho, he]
    · rw [List.getElem?_set_ne (Ne.symm hio), wd_get hi, wd_get hi, hne i hio]
  · rw [List.getElem?_eq_none (by rw [List.length_set, wd_len]; omega), List.getElem?_eq_none (by rw [wd_len]; omega)]
theorem fv_get_i {ad : Nat → Nat} {r : Int → Int} {o : Nat} : ∀ (l : List (Option Nat)) (j k : Nat), l[k]? = some none → (fv ad r o j l)[k]? = some (cI (r (j + k : Nat)))
  | [], j, k, h => by simp at h
  | none :: l, j, 0, h => by simp [fv]
  | some d :: l, j, 0, h => by simp at h
  | none :: l, j, k + 1, h => by
    have h2 := fv_get_i (ad := ad) (r := r) (o := o) l (j + 1) k (by simpa using h)
    simp only [fv, List.getElem?_cons_succ, h2]
    rw [Nat.add_assoc, Nat.add_comm 1 k]
  | some d :: l, j, k + 1, h => by
    have h2 := fv_get_i (ad := ad) (r := r) (o := o) l (j + 1) k (by simpa using h)
    simp only [fv, List.getElem?_cons_succ, h2]
    rw [Nat.add_assoc, Nat.add_comm 1 k]
theorem fv_get_r {ad : Nat → Nat} {r : Int → Int} {o : Nat} : ∀ (l : List (Option Nat)) (j k d : Nat), l[k]? = some (some d) → (fv ad r o j l)[k]? = some (.ref (ad (o + d)))
  | [], j, k, d, h => by simp at h
  | none :: l, j, 0, d, h => by simp at h
  | some d' :: l, j, 0, d, h => by
    simp at h
    simp [fv, h]
  | none :: l, j, k + 1, d, h => by
    have h2 := fv_get_r (ad := ad) (r := r) (o := o) l (j + 1) k d (by simpa using h)
    simp only [fv, List.getElem?_cons_succ, h2]
  | some d' :: l, j, k + 1, d, h => by
    have h2 := fv_get_r (ad := ad) (r := r) (o := o) l (j + 1) k d (by simpa using h)
    simp only [fv, List.getElem?_cons_succ, h2]
theorem fv_same {ad : Nat → Nat} {r r' : Int → Int} {o : Nat} : ∀ (l : List (Option Nat)) (j : Nat), (∀ k : Nat, j ≤ k → r' k = r k) → fv ad r' o j l = fv ad r o j l
  | [], j, h => rfl
  | none :: l, j, h => by simp only [fv]; rw [h j (Nat.le_refl j), fv_same l (j + 1) (fun k hk => h k (by omega))]
  | some d :: l, j, h => by simp only [fv]; rw [fv_same l (j + 1) (fun k hk => h k (by omega))]
theorem fv_set {ad : Nat → Nat} {r : Int → Int} {o : Nat} {v : Int} : ∀ (l : List (Option Nat)) (j k : Nat), l[k]? = some none → (fv ad r o j l).set k (cI v) = fv ad (fun i => if i = ((j + k : Nat) : Int) then v else r i) o j l
  | [], j, k, h => by simp at h
  | none :: l, j, 0, h => by
    simp only [fv, List.set_cons_zero, Nat.add_zero, if_true]
    rw [fv_same (r' := fun i => if i = (j : Int) then v else r i) (r := r) l (j + 1) (fun k hk => if_neg (by omega))]
  | some d :: l, j, 0, h => by simp at h
  | none :: l, j, k + 1, h => by
    have h2 := fv_set (ad := ad) (r := r) (o := o) (v := v) l (j + 1) k (by simpa using h)
    simp only [fv, List.set_cons_succ, h2]
    rw [if_neg (by omega), Nat.add_assoc, Nat.add_comm 1 k]
  | some d :: l, j, k + 1, h => by
    have h2 := fv_set (ad := ad) (r := r) (o := o) (v := v) l (j + 1) k (by simpa using h)
    simp only [fv, List.set_cons_succ, h2]
    rw [Nat.add_assoc, Nat.add_comm 1 k]
theorem fv_len {ad : Nat → Nat} {r : Int → Int} {o : Nat} : ∀ (l : List (Option Nat)) (j : Nat), (fv ad r o j l).length = l.length
  | [], j => rfl
  | none :: l, j => by simp only [fv, List.length_cons, fv_len l (j + 1)]
  | some d :: l, j => by simp only [fv, List.length_cons, fv_len l (j + 1)]
theorem ce_obj {E : EE} {g : GG} {ad : Nat → Nat} {o ci : Nat} {r : Int → Int} (h : gk g o = ci) (hc : ci < 9) : ce E g ad o r = .inr (ci, fv ad r o 0 (sh ci)) := by
  subst h
  rw [ce, if_neg (by omega), if_neg (by omega)]
theorem ce_arr {E : EE} {g : GG} {ad : Nat → Nat} {o : Nat} {r : Int → Int} (h : gk g o = 9) : ce E g ad o r = .inl (E.2.1, gl g o, .inl (fun j : Nat => Int32.ofInt (r j))) := by
  rw [ce, if_pos h]
theorem ce_rar {E : EE} {g : GG} {ad : Nat → Nat} {o : Nat} {r : Int → Int} (h : gk g o = 10) : ce E g ad o r = .inl (E.2.2, gl g o, .inr (.inr (.inr (.inr (fun j : Nat => some (ad (r j).toNat)))))) := by
  rw [ce, if_neg (by omega), if_pos h]
/-! numbers -/
theorem inR_ofInt {x : Int} (h : inR x) : (Int32.ofInt x).toInt = x := by
  obtain ⟨h1, h2⟩ := h
  rw [Int32.toInt_ofInt]
  have hz : Int32.size = 4294967296 := rfl
  exact Int.bmod_eq_of_le (by rw [hz]; omega) (by rw [hz]; omega)
theorem inL_ofInt {x : Int} (h : inL x) : (Int64.ofInt x).toInt = x := by
  obtain ⟨h1, h2⟩ := h
  rw [Int64.toInt_ofInt]
  have hz : Int64.size = 18446744073709551616 := rfl
  exact Int.bmod_eq_of_le (by rw [hz]; omega) (by rw [hz]; omega)
theorem inR_toInt (x : Int32) : inR x.toInt := by
  have h1 := x.le_toInt
  have h2 := x.toInt_lt
  exact ⟨by omega, by omega⟩
theorem cI_lt {x y : Int} (hx : inR x) (hy : inR y) : Int32.ofInt x < Int32.ofInt y ↔ x < y := by
  rw [Int32.lt_iff_toInt_lt, inR_ofInt hx, inR_ofInt hy]
theorem cI_le {x y : Int} (hx : inR x) (hy : inR y) : Int32.ofInt x ≤ Int32.ofInt y ↔ x ≤ y := by
  rw [Int32.le_iff_toInt_le, inR_ofInt hx, inR_ofInt hy]
theorem cI_eq {x y : Int} (hx : inR x) (hy : inR y) : Int32.ofInt x = Int32.ofInt y ↔ x = y := by
  constructor
  · intro h
    have h2 := congrArg Int32.toInt h
    rwa [inR_ofInt hx, inR_ofInt hy] at h2
  · intro h; rw [h]
theorem inR_0 : inR 0 := ⟨by decide, by decide⟩
theorem inR_n {n : Nat} (h : n ≤ 1000) : inR (n : Int) := ⟨by omega, by omega⟩
theorem cI_cl {x : Int} (h0 : 0 ≤ x) (h1 : x ≤ 2147483647) : (Int32.ofInt x).toNatClampNeg = x.toNat := by
  show (Int32.ofInt x).toInt.toNat = x.toNat
  rw [inR_ofInt ⟨by omega, h1⟩]
theorem cI_in {x : Int} {n : Nat} (h0 : 0 ≤ x) (h1 : x < n) (hn : n ≤ 1000) : vp_in (Int32.ofInt x) n := by
  rw [vp_in_iff, inR_ofInt ⟨by omega, by omega⟩]
  exact ⟨h0, h1⟩
theorem cI_i2l {x : Int} (h : inR x) : (Int32.ofInt x).toInt64 = Int64.ofInt x := by
  have h1 : inL x := ⟨by have := h.1; omega, by have := h.2; omega⟩
  apply Int64.toInt_inj.mp
  rw [Int32.toInt_toInt64, inR_ofInt h, inL_ofInt h1]
