/-! worlds put together: their addresses and memories, each its own -/
def gclb (g : GG) : Bool := (List.range g.length).all fun o => (sh (gk g o)).all fun x => match x with | some d => decide (o + d < g.length) | none => true
theorem gcl_of {g : GG} (h : gclb g = true) {o d : Nat} (ho : o < g.length) (hd : some d ∈ sh (gk g o)) : o + d < g.length := by
  have h1 := List.all_eq_true.mp (List.all_eq_true.mp h o (List.mem_range.mpr ho)) _ hd
  exact decide_eq_true_eq.mp h1
theorem fv_ad {ad a2 : Nat → Nat} {r : Int → Int} {o n : Nat} : ∀ (l : List (Option Nat)) (k : Nat), (∀ d, some d ∈ l → ad (n + (o + d)) = a2 (o + d)) → fv ad r (n + o) k l = fv a2 r o k l
  | [], _, _ => rfl
  | none :: l, k, h => by
    simp only [fv]
    rw [fv_ad l (k + 1) (fun d hd => h d (List.mem_cons_of_mem _ hd))]
  | some d :: l, k, h => by
    simp only [fv]
    rw [fv_ad l (k + 1) (fun d hd => h d (List.mem_cons_of_mem _ hd)), Nat.add_assoc, h d List.mem_cons_self]
theorem wd_glue {E : EE} {g1 g2 : GG} {ad a2 : Nat → Nat} {M M2 : Mm} (n : Nat) (hn : g1.length = n) (hc : gclb g2 = true) (ha : ∀ x, x < g2.length → ad (n + x) = a2 x) (hM : ∀ o, o < g2.length → gk g2 o ≠ 10 → M (n + o) = M2 o) (h10 : ∀ o, o < g2.length → gk g2 o = 10 → ∀ j : Nat, (M (n + o) j).toNat = n + (M2 o j).toNat ∧ (M2 o j).toNat < g2.length) : wd E (g1 ++ g2) ad M = wd E g1 ad M ++ wd E g2 a2 M2 := by
  subst hn
  apply List.ext_getElem?
  intro i
  by_cases h1 : i < g1.length
  · rw [List.getElem?_append_left (by rw [wd_len]; exact h1), wd_get (by rw [List.length_append]; omega), wd_get h1]
    unfold ce
    rw [gk_l h1, gl_l h1]
  · rw [List.getElem?_append_right (by rw [wd_len]; omega), wd_len]
    by_cases h2 : i < (g1 ++ g2).length
    · obtain ⟨o, rfl⟩ : ∃ o, i = g1.length + o := ⟨i - g1.length, by omega⟩
      have h3 : o < g2.length := by rw [List.length_append] at h2; omega
      rw [wd_get h2, show g1.length + o - g1.length = o by omega, wd_get h3, ha o h3]
      refine congrArg (fun z => some (a2 o, z)) ?_
      unfold ce
      rw [gk_r, gl_r]
      by_cases k9 : gk g2 o = 9
      · rw [if_pos k9, if_pos k9, hM o h3 (by omega)]
      · rw [if_neg k9, if_neg k9]
        by_cases k10 : gk g2 o = 10
        · rw [if_pos k10, if_pos k10]
          have e : (fun j : Nat => some (ad (M (g1.length + o) j).toNat)) = fun j : Nat => some (a2 (M2 o j).toNat) := funext fun j => by
            rw [(h10 o h3 k10 j).1, ha _ (h10 o h3 k10 j).2]
          rw [e]
        · rw [if_neg k10, if_neg k10, hM o h3 k10, fv_ad _ _ (fun d hd => ha _ (gcl_of hc h3 hd))]
    · rw [List.getElem?_eq_none (by rw [wd_len]; omega), List.getElem?_eq_none (by rw [wd_len]; rw [List.length_append] at h2; omega)]
/-- of a row of references only what lies in it counts -/
theorem P_refs {D : va_G} {cl : List vw_C} {X : va_W} {q n k : Nat} {cA : ClassId} {f f' : Nat → Option Nat} {H : Heap} (h : va_P D cl X H) (hk : X[k]? = some (q, .inl (cA, n, .inr (.inr (.inr (.inr f)))))) (e : ∀ j, j < n → f j = f' j) : va_P D cl (X.set k (q, .inl (cA, n, .inr (.inr (.inr (.inr f')))))) H := by
  have hc : vp_cell cA (n, .inr (.inr (.inr (.inr f)))) = vp_cell cA (n, .inr (.inr (.inr (.inr f')))) := by
    rw [vp_cell_q, vp_cell_q]
    have e2 : (fun j : Fin n => va_rf (f j.val)) = fun j : Fin n => va_rf (f' j.val) := funext fun j => by rw [e j.val j.isLt]
    show ({ cls := cA, slots := Array.ofFn (n := n) fun j : Fin n => va_rf (f j.val), vm := .none } : Cell) = { cls := cA, slots := Array.ofFn (n := n) fun j : Fin n => va_rf (f' j.val), vm := .none }
    rw [e2]
  intro i p hp
  by_cases hi : i = k
  · subst hi
    have hl := (List.getElem?_eq_some_iff.mp hk).1
    rw [List.getElem?_set_self hl] at hp
    cases hp
    have h1 : H[q]? = some (vp_cell cA (n, .inr (.inr (.inr (.inr f))))) := h i _ hk
    show H[q]? = some (vp_cell cA (n, .inr (.inr (.inr (.inr f')))))
    rw [← hc]; exact h1
  · rw [List.getElem?_set_ne (Ne.symm hi)] at hp
    exact h i p hp
theorem gSta_cl : gclb gSta = true := by decide +kernel
theorem gSta_n10 : ∀ o, o < gSta.length → gk gSta o ≠ 10 := by decide +kernel
theorem gHis_cl : gclb gHis = true := by decide +kernel
theorem gTxt_cl : gclb gTxt = true := by decide +kernel
theorem gTxt_n10 : ∀ o, o < gTxt.length → gk gTxt o ≠ 10 := by decide +kernel
theorem gRdr_cl : gclb gRdr = true := by decide +kernel
theorem gRdr_n10 : ∀ o, o < gRdr.length → gk gRdr o ≠ 10 := by decide +kernel
theorem gReh_cl : gclb gReh = true := by decide +kernel
theorem gReh_n10 : ∀ o, o < gReh.length → gk gReh o ≠ 10 := by decide +kernel
theorem gHis_10 : ∀ o, o < gHis.length → gk gHis o = 10 → o = 1 := by decide +kernel
/-- the history's world -/
def rHis : Int → Int := fun j => if 0 ≤ j ∧ j < 4 then 2 + 18 * j else 2
def MHis : Mm := fun o => if o = 1 then rHis else if o < 2 then (fun _ => 0) else if o < 20 then MS 10 4 (o - 2) else if o < 38 then MS 10 4 (o - 20) else if o < 56 then MS 10 4 (o - 38) else MS 10 4 (o - 56)
def adH (h q : Nat) (a0 a1 a2 a3 : Nat → Nat) : Nat → Nat := fun o => if o = 0 then h else if o = 1 then q else if o < 20 then a0 (o - 2) else if o < 38 then a1 (o - 20) else if o < 56 then a2 (o - 38) else a3 (o - 56)
def HW (E : EE) (h q : Nat) (f : Nat → Option Nat) : va_W := [(h, .inr (2, [.ref q, cI 0])), (q, .inl (E.2.2, 4, .inr (.inr (.inr (.inr f)))))]
theorem rHis_of (j : Int) (h0 : 0 ≤ j) (h1 : j < 4) : rHis j = 2 + 18 * j := if_pos ⟨h0, h1⟩
theorem rHis_lt (j : Int) : 0 ≤ rHis j ∧ rHis j < 74 := by
  unfold rHis
  split <;> omega
section
variable {E : EE} {h q : Nat} {a0 a1 a2 a3 : Nat → Nat}
theorem adH_2 (x : Nat) (hx : x < 18) : adH h q a0 a1 a2 a3 (2 + x) = a0 x := by
  unfold adH
  rw [if_neg (by omega), if_neg (by omega), if_pos (by omega), show 2 + x - 2 = x by omega]
theorem adH_20 (x : Nat) (hx : x < 18) : adH h q a0 a1 a2 a3 (20 + x) = a1 x := by
  unfold adH
  rw [if_neg (by omega), if_neg (by omega), if_neg (by omega), if_pos (by omega), show 20 + x - 20 = x by omega]
theorem adH_38 (x : Nat) (hx : x < 18) : adH h q a0 a1 a2 a3 (38 + x) = a2 x := by
  unfold adH
  rw [if_neg (by omega), if_neg (by omega), if_neg (by omega), if_neg (by omega), if_pos (by omega), show 38 + x - 38 = x by omega]
theorem adH_56 (x : Nat) (hx : x < 18) : adH h q a0 a1 a2 a3 (56 + x) = a3 x := by
  unfold adH
  rw [if_neg (by omega), if_neg (by omega), if_neg (by omega), if_neg (by omega), if_neg (by omega), show 56 + x - 56 = x by omega]
theorem MHis_2 (x : Nat) (hx : x < 18) : MHis (2 + x) = MS 10 4 x := by
  unfold MHis
  rw [if_neg (by omega), if_neg (by omega), if_pos (by omega), show 2 + x - 2 = x by omega]
theorem MHis_20 (x : Nat) (hx : x < 18) : MHis (20 + x) = MS 10 4 x := by
  unfold MHis
  rw [if_neg (by omega), if_neg (by omega), if_neg (by omega), if_pos (by omega), show 20 + x - 20 = x by omega]
theorem MHis_38 (x : Nat) (hx : x < 18) : MHis (38 + x) = MS 10 4 x := by
  unfold MHis
  rw [if_neg (by omega), if_neg (by omega), if_neg (by omega), if_neg (by omega), if_pos (by omega), show 38 + x - 38 = x by omega]
theorem MHis_56 (x : Nat) (hx : x < 18) : MHis (56 + x) = MS 10 4 x := by
  unfold MHis
  rw [if_neg (by omega), if_neg (by omega), if_neg (by omega), if_neg (by omega), if_neg (by omega), show 56 + x - 56 = x by omega]
theorem wd_gHis : wd E gHis (adH h q a0 a1 a2 a3) MHis = (((HW E h q (fun j : Nat => some (adH h q a0 a1 a2 a3 (rHis j).toNat)) ++ wd E gSta a0 (MS 10 4)) ++ wd E gSta a1 (MS 10 4)) ++ wd E gSta a2 (MS 10 4)) ++ wd E gSta a3 (MS 10 4) := by
  unfold gHis
  rw [wd_glue (g1 := [(2, 0), (10, 4)] ++ gSta ++ gSta ++ gSta) (g2 := gSta) (ad := adH h q a0 a1 a2 a3) (M := MHis) (a2 := a3) (M2 := MS 10 4) 56 rfl gSta_cl (fun x hx => adH_56 x hx) (fun o ho _ => MHis_56 o ho) (fun o ho k => absurd k (gSta_n10 o ho)),
    wd_glue (g1 := [(2, 0), (10, 4)] ++ gSta ++ gSta) (g2 := gSta) (ad := adH h q a0 a1 a2 a3) (M := MHis) (a2 := a2) (M2 := MS 10 4) 38 rfl gSta_cl (fun x hx => adH_38 x hx) (fun o ho _ => MHis_38 o ho) (fun o ho k => absurd k (gSta_n10 o ho)),
    wd_glue (g1 := [(2, 0), (10, 4)] ++ gSta) (g2 := gSta) (ad := adH h q a0 a1 a2 a3) (M := MHis) (a2 := a1) (M2 := MS 10 4) 20 rfl gSta_cl (fun x hx => adH_20 x hx) (fun o ho _ => MHis_20 o ho) (fun o ho k => absurd k (gSta_n10 o ho)),
    wd_glue (g1 := [(2, 0), (10, 4)]) (g2 := gSta) (ad := adH h q a0 a1 a2 a3) (M := MHis) (a2 := a0) (M2 := MS 10 4) 2 rfl gSta_cl (fun x hx => adH_2 x hx) (fun o ho _ => MHis_2 o ho) (fun o ho k => absurd k (gSta_n10 o ho))]
  rfl
/-- the row of references as the loop leaves it -/
theorem hw_end {f : Nat → Option Nat} {j : Nat} (hj : j < 4) (hf : f = va_up (va_up (va_up (va_up (fun _ => none) 0 (some (a0 0))) 1 (some (a1 0))) 2 (some (a2 0))) 3 (some (a3 0))) : f j = some (adH h q a0 a1 a2 a3 (rHis j).toNat) := by
  subst hf
  match j, hj with
  | 0, _ => rfl
  | 1, _ => rfl
  | 2, _ => rfl
  | 3, _ => rfl
end
/-- the class's world -/
def MC0 : Mm := fun o => if o = 0 then (fun _ => 0) else if o < 19 then MS 10 4 (o - 1) else if o < 37 then MS 10 4 (o - 19) else if o = 38 then (fun j => 37 + rHis j) else if o < 111 then MHis (o - 37) else if o < 114 then M00 (o - 111) else if o < 124 then MRdr (o - 114) else M00 (o - 124)
def adC (h : Nat) (a1 a2 a3 a4 a5 a6 : Nat → Nat) : Nat → Nat := fun o => if o = 0 then h else if o < 19 then a1 (o - 1) else if o < 37 then a2 (o - 19) else if o < 111 then a3 (o - 37) else if o < 114 then a4 (o - 111) else if o < 124 then a5 (o - 114) else a6 (o - 124)
section
variable {E : EE} {h : Nat} {a1 a2 a3 a4 a5 a6 : Nat → Nat}
theorem adC_1 (x : Nat) (hx : x < 18) : adC h a1 a2 a3 a4 a5 a6 (1 + x) = a1 x := by
  unfold adC
  rw [if_neg (by omega), if_pos (by omega), show 1 + x - 1 = x by omega]
theorem adC_19 (x : Nat) (hx : x < 18) : adC h a1 a2 a3 a4 a5 a6 (19 + x) = a2 x := by
  unfold adC
  rw [if_neg (by omega), if_neg (by omega), if_pos (by omega), show 19 + x - 19 = x by omega]
theorem adC_37 (x : Nat) (hx : x < 74) : adC h a1 a2 a3 a4 a5 a6 (37 + x) = a3 x := by
  unfold adC
  rw [if_neg (by omega), if_neg (by omega), if_neg (by omega), if_pos (by omega), show 37 + x - 37 = x by omega]
theorem adC_111 (x : Nat) (hx : x < 3) : adC h a1 a2 a3 a4 a5 a6 (111 + x) = a4 x := by
  unfold adC
  rw [if_neg (by omega), if_neg (by omega), if_neg (by omega), if_neg (by omega), if_pos (by omega), show 111 + x - 111 = x by omega]
theorem adC_114 (x : Nat) (hx : x < 10) : adC h a1 a2 a3 a4 a5 a6 (114 + x) = a5 x := by
  unfold adC
  rw [if_neg (by omega), if_neg (by omega), if_neg (by omega), if_neg (by omega), if_neg (by omega), if_pos (by omega), show 114 + x - 114 = x by omega]
theorem adC_124 (x : Nat) (hx : x < 25) : adC h a1 a2 a3 a4 a5 a6 (124 + x) = a6 x := by
  unfold adC
  rw [if_neg (by omega), if_neg (by omega), if_neg (by omega), if_neg (by omega), if_neg (by omega), if_neg (by omega), show 124 + x - 124 = x by omega]
theorem MC0_1 (x : Nat) (hx : x < 18) : MC0 (1 + x) = MS 10 4 x := by
  unfold MC0
  rw [if_neg (by omega), if_pos (by omega), show 1 + x - 1 = x by omega]
theorem MC0_19 (x : Nat) (hx : x < 18) : MC0 (19 + x) = MS 10 4 x := by
  unfold MC0
  rw [if_neg (by omega), if_neg (by omega), if_pos (by omega), show 19 + x - 19 = x by omega]
theorem MC0_37 (x : Nat) (hx : x < 74) (h1 : x ≠ 1) : MC0 (37 + x) = MHis x := by
  unfold MC0
  rw [if_neg (by omega), if_neg (by omega), if_neg (by omega), if_neg (by omega), if_pos (by omega), show 37 + x - 37 = x by omega]
theorem MC0_111 (x : Nat) (hx : x < 3) : MC0 (111 + x) = M00 x := by
  unfold MC0
  rw [if_neg (by omega), if_neg (by omega), if_neg (by omega), if_neg (by omega), if_neg (by omega), if_pos (by omega), show 111 + x - 111 = x by omega]
theorem MC0_114 (x : Nat) (hx : x < 10) : MC0 (114 + x) = MRdr x := by
  unfold MC0
  rw [if_neg (by omega), if_neg (by omega), if_neg (by omega), if_neg (by omega), if_neg (by omega), if_neg (by omega), if_pos (by omega), show 114 + x - 114 = x by omega]
theorem MC0_124 (x : Nat) (hx : x < 25) : MC0 (124 + x) = M00 x := by
  unfold MC0
  rw [if_neg (by omega), if_neg (by omega), if_neg (by omega), if_neg (by omega), if_neg (by omega), if_neg (by omega), if_neg (by omega), show 124 + x - 124 = x by omega]
theorem MC0_38 (j : Int) : MC0 38 j = 37 + rHis j := rfl
theorem wd_gC : wd E gC (adC h a1 a2 a3 a4 a5 a6) MC0 = ((((([(h, .inr (7, [.ref (a1 0), .ref (a2 0), .ref (a3 0), .ref (a4 0), .ref (a5 0), .ref (a6 0), cI 0]))] ++ wd E gSta a1 (MS 10 4)) ++ wd E gSta a2 (MS 10 4)) ++ wd E gHis a3 MHis) ++ wd E gTxt a4 M00) ++ wd E gRdr a5 MRdr) ++ wd E gReh a6 M00 := by
  rw [gC_cat,
    wd_glue (g1 := [(7, 0)] ++ gSta ++ gSta ++ gHis ++ gTxt ++ gRdr) (g2 := gReh) (ad := adC h a1 a2 a3 a4 a5 a6) (M := MC0) (a2 := a6) (M2 := M00) 124 rfl gReh_cl (fun x hx => adC_124 x hx) (fun o ho _ => MC0_124 o ho) (fun o ho k => absurd k (gReh_n10 o ho)),
    wd_glue (g1 := [(7, 0)] ++ gSta ++ gSta ++ gHis ++ gTxt) (g2 := gRdr) (ad := adC h a1 a2 a3 a4 a5 a6) (M := MC0) (a2 := a5) (M2 := MRdr) 114 rfl gRdr_cl (fun x hx => adC_114 x hx) (fun o ho _ => MC0_114 o ho) (fun o ho k => absurd k (gRdr_n10 o ho)),
    wd_glue (g1 := [(7, 0)] ++ gSta ++ gSta ++ gHis) (g2 := gTxt) (ad := adC h a1 a2 a3 a4 a5 a6) (M := MC0) (a2 := a4) (M2 := M00) 111 rfl gTxt_cl (fun x hx => adC_111 x hx) (fun o ho _ => MC0_111 o ho) (fun o ho k => absurd k (gTxt_n10 o ho)),
    wd_glue (g1 := [(7, 0)] ++ gSta ++ gSta) (g2 := gHis) (ad := adC h a1 a2 a3 a4 a5 a6) (M := MC0) (a2 := a3) (M2 := MHis) 37 rfl gHis_cl (fun x hx => adC_37 x hx) (fun o ho k => MC0_37 o ho (fun z => by subst z; exact k (by decide +kernel))) (fun o ho k j => by
      have := gHis_10 o ho k
      subst this
      have h1 := rHis_lt j
      show (37 + rHis j).toNat = 37 + (rHis j).toNat ∧ (rHis j).toNat < 74
      omega),
    wd_glue (g1 := [(7, 0)] ++ gSta) (g2 := gSta) (ad := adC h a1 a2 a3 a4 a5 a6) (M := MC0) (a2 := a2) (M2 := MS 10 4) 19 rfl gSta_cl (fun x hx => adC_19 x hx) (fun o ho _ => MC0_19 o ho) (fun o ho k => absurd k (gSta_n10 o ho)),
    wd_glue (g1 := [(7, 0)]) (g2 := gSta) (ad := adC h a1 a2 a3 a4 a5 a6) (M := MC0) (a2 := a1) (M2 := MS 10 4) 1 rfl gSta_cl (fun x hx => adC_1 x hx) (fun o ho _ => MC0_1 o ho) (fun o ho k => absurd k (gSta_n10 o ho))]
  rfl
end
/-- what the class holds at first -/
theorem SR_0 : SR MC0 1 a00 := by
  refine ⟨fun i i0 i1 => ?_, fun i i0 i1 => ?_, fun i i0 i1 => ?_, fun i i0 i1 => ?_, ?_, ?_, fun c c0 c1 => ?_⟩
  · show (if 0 ≤ i ∧ i < 10 then i % 5 else 0) = a00 i
    rw [a00_of]; repeat' split
    all_goals omega
  · show (if 0 ≤ i ∧ i < 10 then 5 else 0) = a00 (10 + i)
    rw [a00_of]; repeat' split
    all_goals omega
  · show (if 0 ≤ i ∧ i < 10 then 1 else 0) = a00 (20 + i)
    rw [a00_of]; repeat' split
    all_goals omega
  · have e : a00 30 = 2 := by decide +kernel
    rw [e] at i1
    show (if 0 ≤ i ∧ i < 4 then i else 0) = a00 (31 + i)
    rw [a00_of]; repeat' split
    all_goals omega
  · decide +kernel
  · decide +kernel
  · have e : a00 36 = 0 := by decide +kernel
    omega
theorem HA_0 : HA MC0 [] := by
  have e : ∀ i : Int, 0 ≤ i → i < 4 → MC0 38 i = 39 + 18 * i := fun i i0 i1 => by
    rw [MC0_38, rHis_of i i0 i1]; omega
  refine ⟨by decide +kernel, by decide, fun i i0 i1 => ?_, fun i j i0 i1 j0 j1 z => ?_, fun b hb => ?_, fun i r hr => by simp at hr⟩
  · have hi : i = 0 ∨ i = 1 ∨ i = 2 ∨ i = 3 := by omega
    rcases hi with rfl | rfl | rfl | rfl <;> decide +kernel
  · rw [e i i0 i1, e j j0 j1] at z; omega
  · rcases st_ids hb with rfl | rfl | rfl | rfl | rfl | rfl <;> decide +kernel
theorem RC_0 : RC MC0 a00 [] none 0 (fun _ => 0) :=
  ⟨SR_0, VR_0, HA_0, by show MC0 0 6 = 0; decide +kernel, ⟨by decide +kernel, by decide, by decide, fun i i0 i1 => by omega⟩, by decide +kernel⟩
