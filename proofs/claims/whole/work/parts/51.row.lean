section
/-! Row's constructor -/
theorem dX4_init_0 : decode cX4_init 0 = .ok (.aload_n 0, 1) := by decide +kernel
theorem dX4_init_1 : decode cX4_init 1 = .ok (.invokespecial 1, 3) := by decide +kernel
theorem dX4_init_4 : decode cX4_init 4 = .ok (.aload_n 0, 1) := by decide +kernel
theorem dX4_init_5 : decode cX4_init 5 = .ok (.iload_n 1, 1) := by decide +kernel
theorem dX4_init_6 : decode cX4_init 6 = .ok (.iconst 0, 1) := by decide +kernel
theorem dX4_init_7 : decode cX4_init 7 = .ok (.invokestatic 7, 3) := by decide +kernel
theorem dX4_init_10 : decode cX4_init 10 = .ok (.newarray .int, 2) := by decide +kernel
theorem dX4_init_12 : decode cX4_init 12 = .ok (.putfield 13, 3) := by decide +kernel
theorem dX4_init_15 : decode cX4_init 15 = .ok (.return_, 1) := by decide +kernel
def gRow (n : Nat) : GG := [(4, 0), (9, n)]
def M00 : Mm := fun _ _ => 0
theorem wd_row {E : EE} {n : Nat} {ad : Nat → Nat} : wd E (gRow n) ad M00 = [(ad 0, .inr (4, [.ref (ad 1)])), (ad 1, .inl (E.2.1, n, .inl (fun _ => 0)))] := rfl
set_option maxHeartbeats 4000000 in
set_option maxRecDepth 100000 in
theorem k_X4_init {E : EE} {l : Launch} {n : Nat} (hn : n ≤ 1000) : Cn E l yX4_init wsX4_init ({ frames := 2, cells := 1, slots := n, locals := 40 }) 4 (gRow n) M00 [cI n] 1 n := by
  intro h sz
  refine Met.ofW (cc := cX4_init) (maxL := 2) (ret := none) (by decide) rfl ?_
  intro p e s m args below meth c s₁ B hml hv
  obtain ⟨rfl, hsz, hP, hK, hlt⟩ := hv
  have hx := B.exec
  have hb := B.bytes
  have hr := B.returns
  have hts := atoms_spec (ws := wsX4_init) B.pre
  have hown : s.vm.findClass RX4 = some m.cls := findClass_of_methodNamed B.named
  have hlocks := B.notSynchronized
  have hin : meth.name = "<init>" := (name_of_methodNamed B.named B.method).1
  subst hsz
  have hD : va_D (fun x => x = h ∨ s.heap.size ≤ x) [(h, .inr (4, blk 4))] := by
    refine ⟨fun i j p q hi hj _ => ?_, fun k q hk => ?_⟩
    · have h1 := (List.getElem?_eq_some_iff.mp hi).1
      have h2 := (List.getElem?_eq_some_iff.mp hj).1
      simp at h1 h2; omega
    · have h1 := (List.getElem?_eq_some_iff.mp hk).1
      have : k = 0 := by simp at h1; omega
      subst this
      cases hk; exact Or.inl rfl
  generalize hAe : (fun x => x = h ∨ s.heap.size ≤ x) = A at hD ⊢
  have hA : ∀ q : Nat, s.heap.size ≤ q → A q := fun q h => by rw [← hAe]; exact Or.inr h
  have hS : va_S A s.heap s.heap [] := va_S.rf
  have hl := lv_entry ([.ref h, cI n]) (n := 2) (Nat.le_of_ble_eq_true rfl)
  rw [lg_entry_eq]
  generalize (lg_sl ([.ref h, cI n]) ++ List.replicate (2 - (lg_sl ([.ref h, cI n])).length) Slot.unset).toArray = ls at hl ⊢
  have hl : lv_has ls 2 [(0, .ref h), (1, cI n)] := hl
  refine lv_aload_n hx hb dX4_init_0 rfl (lv_at hl 0 rfl) ?_
  refine W.objInit hx hb hown (hts (.methodLink RX4 1 objectInit) (by decide +kernel)) (hts (.instanceMethod objectInit) (by decide +kernel)) (hts (.code objectInit ⟨#[0xb1]⟩ 1 none) (List.mem_of_getElem? (i := 3) rfl)) rfl (by rw [hml]; exact hl.1) rfl dX4_init_1 (Nat.le_of_ble_eq_true rfl) (Nat.le_of_ble_eq_true rfl) ?_
  refine W.eq (g2 := F0 m 4 ls []) rfl ?_
  refine lv_aload_n hx hb dX4_init_4 rfl (lv_at hl 0 rfl) ?_
  refine lv_iload_n hx hb dX4_init_5 rfl (lv_at hl 1 rfl) ?_
  refine lv_iconst hx hb dX4_init_6 rfl ?_
  have X : CallFix p m c cX4_init 2 s _ wsX4_init RX4 := ⟨hx, hb, hml, hown, hts⟩
  refine r_max X hl (a := (n : Int)) (b := 0) (inR_s (by omega) (by omega)) inR_0 (List.mem_of_getElem? (i := 4) rfl) (List.mem_of_getElem? (i := 5) rfl) (List.mem_of_getElem? (i := 6) rfl) (List.mem_of_getElem? (i := 7) rfl) (Nat.le_of_ble_eq_true rfl) (Nat.le_of_ble_eq_true rfl) ⟨Nat.zero_le _, Nat.zero_le _⟩ dX4_init_7 ?_
  rw [show max (n : Int) 0 = (n : Int) by omega]
  refine va_newa (atype := .int) (N' := n) (a0 := (n, .inl (fun _ => 0))) hx hb (hts (.arrayClass .int) (by decide +kernel)) rfl hK.1 hP hD hS hA (fun cA => rfl) (fun hlt0 => ?_) (by rw [cI_cl (by omega) (by omega)]; omega) (by show n * 4 ≤ 536870912; omega) (Nat.le_refl 1) (by show 0 + n ≤ n; omega) dX4_init_10 (fun q cA H1 hK2 hP hD hS => ?_)
  · have h' : Int32.ofInt (n : Int) < Int32.ofInt 0 := hlt0
    rw [cI_lt (inR_s (by omega) (by omega)) inR_0] at h'; omega
  have hcA := cA_uniq hK2
  subst hcA
  have hP : va_P E.1 vwCl [(h, .inr (4, [.null])), (q, .inl (E.2.1, n, .inl (fun _ => 0)))] H1 := hP
  have hD : va_D A [(h, .inr (4, [.null])), (q, .inl (E.2.1, n, .inl (fun _ => 0)))] := hD
  refine va_putF (D := E.1) (ci := 4) (v := .ref q) (ty := .array .int) (C := RX4) (T := TX4) (N := 1) hx hb hts (by decide +kernel) tyX4 tyX4_ok nmX4 hown hK.1 hP hD hS 0 rfl rfl 0 (by decide) (hts (.fieldLink RX4 13 "LentSounds$Row" "cells" "[I") (by decide +kernel)) (fun _ h9 => h9) rfl hin rfl (by decide +kernel) rfl rfl (Nat.le_of_ble_eq_true rfl) dX4_init_12 (fun H locs hP hD hS => ?_)
  have hP : va_P E.1 vwCl [(h, .inr (4, [.ref q])), (q, .inl (E.2.1, n, .inl (fun _ => 0)))] H := hP
  have hD : va_D A [(h, .inr (4, [.ref q])), (q, .inl (E.2.1, n, .inl (fun _ => 0)))] := hD
  refine W.widen (k := 1) (n := n) (by omega) (by omega) ?_
  exact W.vret hx hb hr (fun t ht hW => ⟨⟨(fun o => if o = 0 then h else q), rfl, rfl, by rw [ht]; exact hP, hK.warm hW, hD⟩, hS.F ht⟩) hS.2.2 dX4_init_15
end
