/-! CALLS over the pure memory -/
theorem nz {r : Int} (h : r = 0 ∨ r = 1) : narrow .boolean (cI r) = cI r := by
  rcases h with rfl | rfl <;> decide +kernel
theorem fz {r : Int} (h : r = 0 ∨ r = 1) : fits .boolean (cI r) = true := by
  rcases h with rfl | rfl <;> decide +kernel
section CALLS
variable {p : Program} {l : Launch} {e : Env} {R : Room} {s : State} {m : MethodId} {args : Array Value} {below : List Frame} {meth : Method} {c : Code} {H H0 : Heap} {locs : List Loc} {cells slots : Nat} {Q : State → Prop}
variable {E : EE} {g : GG} {ad : Nat → Nat} {M : Mm} {cc : ByteArray} {nL : Nat} {Ts : List Cond} {own : String} {pc : Nat} {ls : Array Slot} {rest st0 : List Value} {o ci index n maxL : Nat} {C : String} {T : u_T} {N : Nat} {y : MethodName} {bytes : ByteArray} {ret : Option FieldType} {ws : List Cond} {rm : Room} {As : List Value} {lv : List (Nat × Value)}
theorem Rp.blind {av : List Value} : FrameBlind (va_Pc av (fun U => Rp E g ad M U)) := by
  intro a U gg mk h
  obtain ⟨h1, h2⟩ := h
  exact ⟨h1, h2.1, h2.2.1, Kn.calling h2.2.2⟩
theorem Rw.pre {av : List Value} (K : Kn E s) (w : Rw E g ad M H0 H locs) : PreS s H (va_Pc av (fun U => Rp E g ad M U)) av := ⟨Rp.blind, fun U hU hW => ⟨rfl, w.p hU (K.warm hW)⟩⟩
theorem Rw.preV {av : List Value} (K : Kn E s) (w : Rw E g ad M H0 H locs) (ho : gk g o = ci) (h9 : ci < 9) (hc : vwCl[ci]? = some (C, T, N)) : PreV s H C (ad o) (va_Pc (.ref (ad o) :: av) (fun U => Rp E g ad M U)) av :=
  ⟨Rp.blind, va_recv K.1 w.1 hc (wd_obj ho h9), fun U hU hW => ⟨rfl, w.p hU (K.warm hW)⟩⟩
/-- a call that comes back with a memory: what the caller goes on with -/
theorem Rw.back {M1 : Mm} {t : State} {H1 : Heap} {locs1 : List Loc} (hS : va_S (Rg g ad) H0 H1 locs1) (ht : t.heap = H1) (h : Rp E g ad M1 t) : Rw E g ad M1 H0 H1 locs1 := ⟨by rw [← ht]; exact h.1, wd_D h.2.1, hS⟩
theorem q_i {Qm : Int → Mm → Prop} {a : Array Value} (hr : va_Run p l e R s m args below meth c H locs cells slots 0 0 (F0 m pc ls st0) rest (QI E g ad Qm a) (Rg g ad)) (w : Rw E g ad M H0 H locs)
    (kk : ∀ (r : Int) (M1 : Mm) (H1 : Heap) (locs1 : List Loc), Qm r M1 → Rw E g ad M1 H0 H1 locs1 → W p l e R s m args below meth c H1 locs1 cells slots Q (F0 m (pc + 3) ls (cI r :: rest))) : W p l e R s m args below meth c H locs cells slots Q (F0 m pc ls st0) := by
  refine va_calli hr w.2.2 (fun _ _ h => h) (fun _ h => h) (fun r u t H1 locs1 ht hvm hw hB hz1 hk1 hS => ?_)
  obtain ⟨rfl, hq⟩ := hw
  exact kk u.1 u.2 H1 locs1 hq (Rw.back hS ht hB)
theorem q_v {Qm : Mm → Prop} {a : Array Value} (hr : va_Run p l e R s m args below meth c H locs cells slots 0 0 (F0 m pc ls st0) rest (QV E g ad Qm a) (Rg g ad)) (w : Rw E g ad M H0 H locs)
    (kk : ∀ (M1 : Mm) (H1 : Heap) (locs1 : List Loc), Qm M1 → Rw E g ad M1 H0 H1 locs1 → W p l e R s m args below meth c H1 locs1 cells slots Q (F0 m (pc + 3) ls rest)) : W p l e R s m args below meth c H locs cells slots Q (F0 m pc ls st0) := by
  refine va_callv hr w.2.2 (fun _ _ h => h) (fun _ h => h) (fun u t H1 locs1 ht hvm hw hB hz1 hk1 hS => ?_)
  exact kk u H1 locs1 hw (Rw.back hS ht hB)
theorem q_r {ck : Nat} {Qm : Nat → Mm → Prop} {a : Array Value} (hr : va_Run p l e R s m args below meth c H locs cells slots 0 0 (F0 m pc ls st0) rest (QR E g ad ck Qm a) (Rg g ad)) (w : Rw E g ad M H0 H locs)
    (kk : ∀ (r : Nat) (M1 : Mm) (H1 : Heap) (locs1 : List Loc), Qm r M1 → gk g r = ck → Rw E g ad M1 H0 H1 locs1 → W p l e R s m args below meth c H1 locs1 cells slots Q (F0 m (pc + 3) ls (.ref (ad r) :: rest))) : W p l e R s m args below meth c H locs cells slots Q (F0 m pc ls st0) := by
  refine va_callr hr w.2.2 (fun _ _ h => h) (fun _ h => h) (fun u ra t H1 locs1 ht hvm hw hB hz1 hk1 hS => ?_)
  obtain ⟨rfl, hB⟩ := hB
  exact kk u.1 u.2 H1 locs1 hw.1 hw.2 (Rw.back hS ht hB)
theorem q_o {ck : Nat} {Qm : Option Nat → Mm → Prop} {a : Array Value} (hr : va_Run p l e R s m args below meth c H locs cells slots 0 0 (F0 m pc ls st0) rest (QO E g ad ck Qm a) (Rg g ad)) (w : Rw E g ad M H0 H locs)
    (kn : ∀ (M1 : Mm) (H1 : Heap) (locs1 : List Loc), Qm none M1 → Rw E g ad M1 H0 H1 locs1 → W p l e R s m args below meth c H1 locs1 cells slots Q (F0 m (pc + 3) ls (.null :: rest)))
    (kk : ∀ (r : Nat) (M1 : Mm) (H1 : Heap) (locs1 : List Loc), Qm (some r) M1 → gk g r = ck → Rw E g ad M1 H0 H1 locs1 → W p l e R s m args below meth c H1 locs1 cells slots Q (F0 m (pc + 3) ls (.ref (ad r) :: rest))) : W p l e R s m args below meth c H locs cells slots Q (F0 m pc ls st0) := by
  refine va_callq hr w.2.2 (fun _ _ h => h) (fun _ h => h) (fun r u t H1 locs1 ht hvm hw hB hz1 hk1 hS => ?_)
  obtain ⟨rfl, hq, hc⟩ := hw
  obtain ⟨u1, u2⟩ := u
  cases u1 with
  | none => exact kn u2 H1 locs1 hq (Rw.back hS ht hB)
  | some x => exact kk x u2 H1 locs1 hq (hc x rfl) (Rw.back hS ht hB)
/-- an instance method (invokevirtual) -/
theorem x_V {Qc : Array Value → State → Outcome → State → Prop} (X : CallFix p m c cc nL s args Ts own) (K : Kn E s) (w : Rw E g ad M H0 H locs) (hM : Ct E l y ws rm g ad (.ref (ad o) :: As) M Qc) (cw : CallW R s args own C index y bytes maxL ret ws rm 0 0 n) (ho : gk g o = ci) (h9 : ci < 9) (hc : vwCl[ci]? = some (C, T, N)) (hn : As.length = n) (hl : lv_has ls nL lv) (hst : st0 = As.reverse ++ .ref (ad o) :: rest) (hroom : (rest.map fun v => v.category).sum ≤ 8) (hdg : decode cc pc = .ok (.invokevirtual index, 3)) (hf : cells ≤ R.cells ∧ slots ≤ R.slots) :
    va_Run p l e R s m args below meth c H locs cells slots 0 0 (F0 m pc ls st0) rest (Qc (Value.ref (ad o) :: As).toArray) (Rg g ad) := by
  subst hst
  exact va_runV X hM cw (w.preV K ho h9 hc) rfl hn hl.1 rfl (lv_room hroom) hdg hf
/-- a static method of the same class -/
theorem x_S {Qc : Array Value → State → Outcome → State → Prop} (X : CallFix p m c cc nL s args Ts own) (K : Kn E s) (w : Rw E g ad M H0 H locs) (hM : Ct E l y ws rm g ad As M Qc) (cw : CallB R s args own index y bytes maxL ret ws rm 0 0 n ∧ (Cond.static y).before args s = true) (hn : As.length = n) (hl : lv_has ls nL lv) (hst : st0 = As.reverse ++ rest) (hroom : (rest.map fun v => v.category).sum ≤ 8) (hdg : decode cc pc = .ok (.invokestatic index, 3)) (hf : cells ≤ R.cells ∧ slots ≤ R.slots) :
    va_Run p l e R s m args below meth c H locs cells slots 0 0 (F0 m pc ls st0) rest (Qc As.toArray) (Rg g ad) := by
  subst hst
  exact va_runS X hM cw (w.pre K) rfl hn hl.1 rfl (lv_room hroom) hdg hf
/-- a private static method of a nest mate -/
theorem x_SN {host : String} {Qc : Array Value → State → Outcome → State → Prop} (X : CallFix p m c cc nL s args Ts own) (K : Kn E s) (w : Rw E g ad M H0 H locs) (hM : Ct E l y ws rm g ad As M Qc) (cw : va_CN R s args own index y host bytes maxL ret ws rm 0 0 n ∧ (Cond.static y).before args s = true ∧ True) (hn : As.length = n) (hl : lv_has ls nL lv) (hst : st0 = As.reverse ++ rest) (hroom : (rest.map fun v => v.category).sum ≤ 8) (hdg : decode cc pc = .ok (.invokestatic index, 3)) (hf : cells ≤ R.cells ∧ slots ≤ R.slots) :
    va_Run p l e R s m args below meth c H locs cells slots 0 0 (F0 m pc ls st0) rest (Qc As.toArray) (Rg g ad) := by
  subst hst
  exact va_runSN X hM cw (w.pre K) rfl hn hl.1 rfl (lv_room hroom) hdg hf
/-! Math and System -/
theorem r_max (X : CallFix p m c cc nL s args Ts own) (hl : lv_has ls nL lv) {a b : Int} (ha : inR a) (hb : inR b) (h1 : Cond.methodLink own index Lib.Math.max.name ∈ Ts) (h2 : Cond.static Lib.Math.max.name ∈ Ts) (h3 : Cond.initialized "java/lang/Math" ∈ Ts) (h4 : Cond.code Lib.Math.max.name Lib.Math.max.code 2 (some .int) ∈ Ts) (hfr : 1 ≤ R.frames) (hlo : (rest.map fun v => v.category).sum + 13 ≤ R.locals) (hf : cells ≤ R.cells ∧ slots ≤ R.slots) (hdg : decode cc pc = .ok (.invokestatic index, 3))
    (kk : W p l e R s m args below meth c H locs cells slots Q (F0 m (pc + 3) ls (cI (max a b) :: rest))) : W p l e R s m args below meth c H locs cells slots Q (F0 m pc ls (cI b :: cI a :: rest)) := by
  refine va_mmax X.1 X.2.1 (X.2.2.1.trans hl.1.symm) X.2.2.2.1 (X.2.2.2.2 _ h1) (X.2.2.2.2 _ h2) (X.2.2.2.2 _ h3) (X.2.2.2.2 _ h4) hfr hlo hf.1 hf.2 hdg ?_
  have he : (if Int32.ofInt a < Int32.ofInt b then Int32.ofInt b else Int32.ofInt a) = Int32.ofInt (max a b) := by
    by_cases h : a < b
    · rw [if_pos ((cI_lt ha hb).mpr h), show max a b = b by omega]
    · rw [if_neg (fun q => h ((cI_lt ha hb).mp q)), show max a b = a by omega]
  rw [he]
  exact kk
theorem r_min (X : CallFix p m c cc nL s args Ts own) (hl : lv_has ls nL lv) {a b : Int} (ha : inR a) (hb : inR b) (h1 : Cond.methodLink own index Lib.Math.min.name ∈ Ts) (h2 : Cond.static Lib.Math.min.name ∈ Ts) (h3 : Cond.initialized "java/lang/Math" ∈ Ts) (h4 : Cond.code Lib.Math.min.name Lib.Math.min.code 2 (some .int) ∈ Ts) (hfr : 1 ≤ R.frames) (hlo : (rest.map fun v => v.category).sum + 13 ≤ R.locals) (hf : cells ≤ R.cells ∧ slots ≤ R.slots) (hdg : decode cc pc = .ok (.invokestatic index, 3))
    (kk : W p l e R s m args below meth c H locs cells slots Q (F0 m (pc + 3) ls (cI (min a b) :: rest))) : W p l e R s m args below meth c H locs cells slots Q (F0 m pc ls (cI b :: cI a :: rest)) := by
  refine va_mmin X.1 X.2.1 (X.2.2.1.trans hl.1.symm) X.2.2.2.1 (X.2.2.2.2 _ h1) (X.2.2.2.2 _ h2) (X.2.2.2.2 _ h3) (X.2.2.2.2 _ h4) hfr hlo hf.1 hf.2 hdg ?_
  have he : (if Int32.ofInt b < Int32.ofInt a then Int32.ofInt b else Int32.ofInt a) = Int32.ofInt (min a b) := by
    by_cases h : b < a
    · rw [if_pos ((cI_lt hb ha).mpr h), show min a b = b by omega]
    · rw [if_neg (fun q => h ((cI_lt hb ha).mp q)), show min a b = a by omega]
  rw [he]
  exact kk
theorem r_abs (X : CallFix p m c cc nL s args Ts own) (hl : lv_has ls nL lv) {a : Int} (ha : inR a) (h1 : Cond.methodLink own index Lib.Math.abs.name ∈ Ts) (h2 : Cond.static Lib.Math.abs.name ∈ Ts) (h3 : Cond.initialized "java/lang/Math" ∈ Ts) (h4 : Cond.code Lib.Math.abs.name Lib.Math.abs.code 1 (some .int) ∈ Ts) (hfr : 1 ≤ R.frames) (hlo : (rest.map fun v => v.category).sum + 13 ≤ R.locals) (hf : cells ≤ R.cells ∧ slots ≤ R.slots) (hdg : decode cc pc = .ok (.invokestatic index, 3))
    (kk : W p l e R s m args below meth c H locs cells slots Q (F0 m (pc + 3) ls (cI (if 0 ≤ a then a else 0 - a) :: rest))) : W p l e R s m args below meth c H locs cells slots Q (F0 m pc ls (cI a :: rest)) := by
  refine va_mabs X.1 X.2.1 (X.2.2.1.trans hl.1.symm) X.2.2.2.1 (X.2.2.2.2 _ h1) (X.2.2.2.2 _ h2) (X.2.2.2.2 _ h3) (X.2.2.2.2 _ h4) hfr hlo hf.1 hf.2 hdg ?_
  have he : (if 0 ≤ Int32.ofInt a then Int32.ofInt a else 0 - Int32.ofInt a) = Int32.ofInt (if 0 ≤ a then a else 0 - a) := by
    have hz : (0 : Int32) ≤ Int32.ofInt a ↔ 0 ≤ a := cI_le inR_0 ha
    by_cases h : 0 ≤ a
    · rw [if_pos (hz.mpr h), if_pos h]
    · rw [if_neg (fun q => h (hz.mp q)), if_neg h, Int32.ofInt_sub]
      rfl
  rw [he]
  exact kk
theorem r_acpy (X : CallFix p m c cc nL s args Ts own) (K : Kn E s) (w : Rw E g ad M H0 H locs) (hg : gwf g) (hl : lv_has ls nL lv) {o1 o2 : Nat} (ho1 : gk g o1 = 9) (ho2 : gk g o2 = 9) {k : Int} (hk0 : 0 ≤ k) (hk1 : k ≤ (gl g o1 : Int)) (hk2 : k ≤ (gl g o2 : Int)) (h1 : Cond.methodLink own index arraycopyName ∈ Ts) (h2 : Cond.native arraycopyName ∈ Ts) (h3 : Cond.static arraycopyName ∈ Ts) (h4 : Cond.initialized "java/lang/System" ∈ Ts) (hfr : 1 ≤ R.frames) (hlo : (rest.map fun v => v.category).sum + (nativeFrameWords "java/lang/System" "arraycopy" 5 + 11) ≤ R.locals) (hdg : decode cc pc = .ok (.invokestatic index, 3))
    (kk : ∀ (M1 : Mm) (H1 : Heap) (locs1 : List Loc), M1 = mcp M o1 o2 k → Rw E g ad M1 H0 H1 locs1 → W p l e R s m args below meth c H1 locs1 cells slots Q (F0 m (pc + 3) ls rest)) : W p l e R s m args below meth c H locs cells slots Q (F0 m pc ls (cI k :: cI 0 :: .ref (ad o2) :: cI 0 :: .ref (ad o1) :: rest)) := by
  have hz := hg.2 o1
  have z0 : (Int32.ofInt 0).toNatClampNeg = 0 := by decide +kernel
  have zk : (Int32.ofInt k).toNatClampNeg = k.toNat := cI_cl hk0 (by omega)
  refine va_copyi X.1 X.2.1 (X.2.2.1.trans hl.1.symm) X.2.2.2.1 (X.2.2.2.2 _ h1) (X.2.2.2.2 _ h2) (X.2.2.2.2 _ h3) (X.2.2.2.2 _ h4) K.1 w.1 w.2.1 w.2.2 o1 o2 0 0 (wd_arr ho1) (wd_arr ho2) tyE0 tyE0 rfl (by decide +kernel) (by decide +kernel) (fun h => by
    have h' : Int32.ofInt k < Int32.ofInt 0 := h
    rw [cI_lt ⟨by omega, by omega⟩ inR_0] at h'; omega) (by rw [z0, zk]; omega) (by rw [z0, zk]; omega) (fun i _ => rfl) hfr hlo hdg (fun H1 locs1 hP hD hS => ?_)
  have he : (wd E g ad M).set o2 (ad o2, .inl (E.2.1, gl g o2, .inl (va_cpy (fun j : Nat => Int32.ofInt (M o1 j)) (fun j : Nat => Int32.ofInt (M o2 j)) (Int32.ofInt 0).toNatClampNeg (Int32.ofInt 0).toNatClampNeg (Int32.ofInt k).toNatClampNeg))) = wd E g ad (mcp M o1 o2 k) := by
    refine wd_set (gk_lt (by omega)) (fun o' h => mcp_ne h) ?_
    rw [ce_arr ho2, mcp_eq, z0, zk]
    congr 1
    congr 1
    congr 1
    congr 1
    funext j
    show Int32.ofInt (if 0 ≤ (j : Int) ∧ (j : Int) < k then M o1 j else M o2 j) = if 0 ≤ j ∧ j < 0 + k.toNat then Int32.ofInt (M o1 ((0 + (j - 0) : Nat) : Int)) else Int32.ofInt (M o2 j)
    by_cases hj : (j : Int) < k
    · rw [if_pos ⟨by omega, hj⟩, if_pos ⟨by omega, by omega⟩, Nat.zero_add, Nat.sub_zero]
    · rw [if_neg (by omega), if_neg (by omega)]
  rw [he] at hP hD
  exact kk _ H1 locs1 rfl ⟨hP, hD, hS⟩
end CALLS
