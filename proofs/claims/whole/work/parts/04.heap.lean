/-! ROWS that read and write the memory; ends; calls -/
section HEAP
variable {p : Program} {l : Launch} {e : Env} {R : Room} {s : State} {m : MethodId} {args : Array Value} {below : List Frame} {meth : Method} {c : Code} {H H0 : Heap} {locs : List Loc} {cells slots : Nat} {Q : State → Prop}
variable {E : EE} {g : GG} {ad : Nat → Nat} {M : Mm} {cc : ByteArray} {nL : Nat} {Ts : List Cond} {own : String} {pc : Nat} {ls : Array Slot} {rest : List Value} {o ci index : Nat} {C : String} {T : u_T} {N : Nat}
theorem wd_obj (ho : gk g o = ci) (hc : ci < 9) : (wd E g ad M)[o]? = some (ad o, .inr (ci, fv ad (M o) o 0 (sh ci))) := by
  rw [wd_get (gk_lt (by omega)), ce_obj ho hc]
theorem wd_arr (ho : gk g o = 9) : (wd E g ad M)[o]? = some (ad o, .inl (E.2.1, gl g o, .inl (fun j : Nat => Int32.ofInt (M o j)))) := by
  rw [wd_get (gk_lt (by omega)), ce_arr ho]
theorem wd_rar (ho : gk g o = 10) : (wd E g ad M)[o]? = some (ad o, .inl (E.2.2, gl g o, .inr (.inr (.inr (.inr (fun j : Nat => some (ad (M o j).toNat))))))) := by
  rw [wd_get (gk_lt (by omega)), ce_rar ho]
theorem r_geti (X : CallFix p m c cc nL s args Ts own) (K : Kn E s) (w : Rw E g ad M H0 H locs) (hin : ∀ w ∈ u_ws C T N, w ∈ Ts) (ho : gk g o = ci) (hc : vwCl[ci]? = some (C, T, N)) (h9 : ci < 9) (k : Nat) (hk : k < N) (hs : (sh ci)[k]? = some none) (hT : (T k).1 = C) {kz : Int} (hkz : kz = (k : Int)) (hlink : Cond.fieldLink own index C (T k).2.1 (T k).2.2.1 ∈ Ts) (hdg : decode cc pc = .ok (.getfield index, 3))
    (kk : W p l e R s m args below meth c H locs cells slots Q (F0 m (pc + 3) ls (cI (M o kz) :: rest))) : W p l e R s m args below meth c H locs cells slots Q (F0 m pc ls (.ref (ad o) :: rest)) :=
  va_get (D := E.1) (ci := ci) (v := cI (M o kz)) (C := C) (T := T) (N := N) X.1 X.2.1 X.2.2.2.2 hin X.2.2.2.1 K.1 w.1 o (wd_obj ho h9) hc k hk (X.2.2.2.2 _ hlink) (fun _ q => by rw [← hT]; exact q) (by rw [fv_get_i _ 0 k hs, Nat.zero_add, hkz]) hdg kk
theorem r_getr (X : CallFix p m c cc nL s args Ts own) (K : Kn E s) (w : Rw E g ad M H0 H locs) (hin : ∀ w ∈ u_ws C T N, w ∈ Ts) (ho : gk g o = ci) (hc : vwCl[ci]? = some (C, T, N)) (h9 : ci < 9) (k : Nat) (hk : k < N) {d : Nat} (hs : (sh ci)[k]? = some (some d)) (hT : (T k).1 = C) (hlink : Cond.fieldLink own index C (T k).2.1 (T k).2.2.1 ∈ Ts) (hdg : decode cc pc = .ok (.getfield index, 3))
    (kk : W p l e R s m args below meth c H locs cells slots Q (F0 m (pc + 3) ls (.ref (ad (o + d)) :: rest))) : W p l e R s m args below meth c H locs cells slots Q (F0 m pc ls (.ref (ad o) :: rest)) :=
  va_get (D := E.1) (ci := ci) (v := .ref (ad (o + d))) (C := C) (T := T) (N := N) X.1 X.2.1 X.2.2.2.2 hin X.2.2.2.1 K.1 w.1 o (wd_obj ho h9) hc k hk (X.2.2.2.2 _ hlink) (fun _ q => by rw [← hT]; exact q) (fv_get_r _ 0 k d hs) hdg kk
theorem r_getiN (X : CallFix p m c cc nL s args Ts own) (K : Kn E s) (w : Rw E g ad M H0 H locs) (hin : ∀ w ∈ u_ws C T N, w ∈ Ts) (ho : gk g o = ci) (hc : vwCl[ci]? = some (C, T, N)) (h9 : ci < 9) (k : Nat) (hk : k < N) (hs : (sh ci)[k]? = some none) (hT : (T k).1 = C) {kz : Int} (hkz : kz = (k : Int)) {host : String} (hlink : Cond.fieldLinkNest own index C (T k).2.1 (T k).2.2.1 host ∈ nsF) (hdg : decode cc pc = .ok (.getfield index, 3))
    (kk : W p l e R s m args below meth c H locs cells slots Q (F0 m (pc + 3) ls (cI (M o kz) :: rest))) : W p l e R s m args below meth c H locs cells slots Q (F0 m pc ls (.ref (ad o) :: rest)) :=
  va_getN (D := E.1) (ci := ci) (v := cI (M o kz)) (C := C) (T := T) (N := N) X.1 X.2.1 X.2.2.2.2 hin X.2.2.2.1 K.1 w.1 o (wd_obj ho h9) hc k hk (va_Nw.use rfl (K.2.1 _ hlink)) (fun _ q => by rw [← hT]; exact q) (by rw [fv_get_i _ 0 k hs, Nat.zero_add, hkz]) hdg kk
theorem r_getrN (X : CallFix p m c cc nL s args Ts own) (K : Kn E s) (w : Rw E g ad M H0 H locs) (hin : ∀ w ∈ u_ws C T N, w ∈ Ts) (ho : gk g o = ci) (hc : vwCl[ci]? = some (C, T, N)) (h9 : ci < 9) (k : Nat) (hk : k < N) {d : Nat} (hs : (sh ci)[k]? = some (some d)) (hT : (T k).1 = C) {host : String} (hlink : Cond.fieldLinkNest own index C (T k).2.1 (T k).2.2.1 host ∈ nsF) (hdg : decode cc pc = .ok (.getfield index, 3))
    (kk : W p l e R s m args below meth c H locs cells slots Q (F0 m (pc + 3) ls (.ref (ad (o + d)) :: rest))) : W p l e R s m args below meth c H locs cells slots Q (F0 m pc ls (.ref (ad o) :: rest)) :=
  va_getN (D := E.1) (ci := ci) (v := .ref (ad (o + d))) (C := C) (T := T) (N := N) X.1 X.2.1 X.2.2.2.2 hin X.2.2.2.1 K.1 w.1 o (wd_obj ho h9) hc k hk (va_Nw.use rfl (K.2.1 _ hlink)) (fun _ q => by rw [← hT]; exact q) (fv_get_r _ 0 k d hs) hdg kk
theorem wd_puti {k : Nat} {kz v : Int} (ho : gk g o = ci) (h9 : ci < 9) (hs : (sh ci)[k]? = some none) (hkz : kz = (k : Int)) : (wd E g ad M).set o (ad o, .inr (ci, (fv ad (M o) o 0 (sh ci)).set k (cI v))) = wd E g ad (mu M o kz v) := by
  refine wd_set (gk_lt (by omega)) (fun o' h => mu_ne h) ?_
  rw [ce_obj ho h9, fv_set _ 0 k hs, mu_eq, Nat.zero_add, hkz]
theorem r_puti (X : CallFix p m c cc nL s args Ts own) (K : Kn E s) (w : Rw E g ad M H0 H locs) (hin : ∀ w ∈ u_ws C T N, w ∈ Ts) (ty0 : Nat → FieldType) (hty : ∀ k, k < N → parseFieldDescriptor (T k).2.2.1 = some (ty0 k)) (hnm : ∀ a, a < N → ∀ b, b < N → a ≠ b → (T a).2.1 ≠ (T b).2.1) (ho : gk g o = ci) (hc : vwCl[ci]? = some (C, T, N)) (h9 : ci < 9) (k : Nat) (hk : k < N) (hs : (sh ci)[k]? = some none) (hT : (T k).1 = C) {kz : Int} (hkz : kz = (k : Int)) (hfin : (T k).2.2.2 = false) {ty : FieldType} (hd : parseFieldDescriptor (T k).2.2.1 = some ty) {v : Int} (hn : narrow ty (cI v) = cI v) (hfit : fits ty (cI v) = true) (hlink : Cond.fieldLink own index C (T k).2.1 (T k).2.2.1 ∈ Ts) (hdg : decode cc pc = .ok (.putfield index, 3))
    (kk : ∀ (M1 : Mm) (H1 : Heap) (locs1 : List Loc), M1 = mu M o kz v → Rw E g ad M1 H0 H1 locs1 → W p l e R s m args below meth c H1 locs1 cells slots Q (F0 m (pc + 3) ls rest)) : W p l e R s m args below meth c H locs cells slots Q (F0 m pc ls (cI v :: .ref (ad o) :: rest)) := by
  refine va_put (D := E.1) (ci := ci) (v := cI v) (ty := ty) (C := C) (T := T) (N := N) X.1 X.2.1 X.2.2.2.2 hin ty0 hty hnm X.2.2.2.1 K.1 w.1 w.2.1 w.2.2 o (wd_obj ho h9) hc k hk (X.2.2.2.2 _ hlink) (fun _ q => by rw [← hT]; exact q) hfin hd hn hfit (by rw [fv_len]; exact (List.getElem?_eq_some_iff.mp hs).1) hdg (fun H1 locs1 hP hD hS => ?_)
  rw [wd_puti ho h9 hs hkz] at hP hD
  exact kk _ H1 locs1 rfl ⟨hP, hD, hS⟩
theorem r_putiN (X : CallFix p m c cc nL s args Ts own) (K : Kn E s) (w : Rw E g ad M H0 H locs) (hin : ∀ w ∈ u_ws C T N, w ∈ Ts) (ty0 : Nat → FieldType) (hty : ∀ k, k < N → parseFieldDescriptor (T k).2.2.1 = some (ty0 k)) (hnm : ∀ a, a < N → ∀ b, b < N → a ≠ b → (T a).2.1 ≠ (T b).2.1) (ho : gk g o = ci) (hc : vwCl[ci]? = some (C, T, N)) (h9 : ci < 9) (k : Nat) (hk : k < N) (hs : (sh ci)[k]? = some none) (hT : (T k).1 = C) {kz : Int} (hkz : kz = (k : Int)) (hfin : (T k).2.2.2 = false) {ty : FieldType} (hd : parseFieldDescriptor (T k).2.2.1 = some ty) {v : Int} (hn : narrow ty (cI v) = cI v) (hfit : fits ty (cI v) = true) {host : String} (hlink : Cond.fieldLinkNest own index C (T k).2.1 (T k).2.2.1 host ∈ nsF) (hdg : decode cc pc = .ok (.putfield index, 3))
    (kk : ∀ (M1 : Mm) (H1 : Heap) (locs1 : List Loc), M1 = mu M o kz v → Rw E g ad M1 H0 H1 locs1 → W p l e R s m args below meth c H1 locs1 cells slots Q (F0 m (pc + 3) ls rest)) : W p l e R s m args below meth c H locs cells slots Q (F0 m pc ls (cI v :: .ref (ad o) :: rest)) := by
  refine va_putN (D := E.1) (ci := ci) (v := cI v) (ty := ty) (C := C) (T := T) (N := N) X.1 X.2.1 X.2.2.2.2 hin ty0 hty hnm X.2.2.2.1 K.1 w.1 w.2.1 w.2.2 o (wd_obj ho h9) hc k hk (va_Nw.use rfl (K.2.1 _ hlink)) (fun _ q => by rw [← hT]; exact q) hfin hd hn hfit (by rw [fv_len]; exact (List.getElem?_eq_some_iff.mp hs).1) hdg (fun H1 locs1 hP hD hS => ?_)
  rw [wd_puti ho h9 hs hkz] at hP hD
  exact kk _ H1 locs1 rfl ⟨hP, hD, hS⟩
theorem tyE0 : (tyE E)[0]? = some (E.2.1, .int) := rfl
theorem tyE1 : (tyE E)[1]? = some (E.2.2, .object RX5) := rfl
theorem r_iald (X : CallFix p m c cc nL s args Ts own) (K : Kn E s) (w : Rw E g ad M H0 H locs) (hg : gwf g) (ho : gk g o = 9) {i : Int} (h0 : 0 ≤ i) (h1 : i < (gl g o : Int)) (hdg : decode cc pc = .ok (.iaload, 1))
    (kk : W p l e R s m args below meth c H locs cells slots Q (F0 m (pc + 1) ls (cI (M o i) :: rest))) : W p l e R s m args below meth c H locs cells slots Q (F0 m pc ls (cI i :: .ref (ad o) :: rest)) := by
  have hz := hg.2 o
  refine va_iald X.1 X.2.1 K.1 w.1 o 0 (wd_arr ho) tyE0 (cI_in h0 h1 (hg.2 o)) hdg ?_
  rw [cI_cl h0 (by omega), Int.toNat_of_nonneg h0]
  exact kk
theorem r_iast (X : CallFix p m c cc nL s args Ts own) (K : Kn E s) (w : Rw E g ad M H0 H locs) (hg : gwf g) (ho : gk g o = 9) {i v : Int} (h0 : 0 ≤ i) (h1 : i < (gl g o : Int)) (hdg : decode cc pc = .ok (.iastore, 1))
    (kk : ∀ (M1 : Mm) (H1 : Heap) (locs1 : List Loc), M1 = mu M o i v → Rw E g ad M1 H0 H1 locs1 → W p l e R s m args below meth c H1 locs1 cells slots Q (F0 m (pc + 1) ls rest)) : W p l e R s m args below meth c H locs cells slots Q (F0 m pc ls (cI v :: cI i :: .ref (ad o) :: rest)) := by
  have hz := hg.2 o
  refine va_iast X.1 X.2.1 K.1 w.1 w.2.1 w.2.2 o 0 (wd_arr ho) tyE0 (cI_in h0 h1 (hg.2 o)) hdg (fun H1 locs1 hP hD hS => ?_)
  have he : (wd E g ad M).set o (ad o, .inl (E.2.1, gl g o, .inl (upd (fun j : Nat => Int32.ofInt (M o j)) (Int32.ofInt i).toNatClampNeg (Int32.ofInt v)))) = wd E g ad (mu M o i v) := by
    refine wd_set (gk_lt (by omega)) (fun o' h => mu_ne h) ?_
    rw [ce_arr ho, mu_eq, cI_cl h0 (by omega)]
    congr 1
    congr 1
    congr 1
    congr 1
    funext j
    show Int32.ofInt (if (j : Int) = i then v else M o j) = if j = i.toNat then Int32.ofInt v else Int32.ofInt (M o j)
    by_cases hj : (j : Int) = i
    · rw [if_pos hj, if_pos (by omega)]
    · rw [if_neg hj, if_neg (by omega)]
  rw [he] at hP hD
  exact kk _ H1 locs1 rfl ⟨hP, hD, hS⟩
theorem r_alen (X : CallFix p m c cc nL s args Ts own) (K : Kn E s) (w : Rw E g ad M H0 H locs) (ho : gk g o = 9) (hdg : decode cc pc = .ok (.arraylength, 1))
    (kk : W p l e R s m args below meth c H locs cells slots Q (F0 m (pc + 1) ls (cI (gl g o : Int) :: rest))) : W p l e R s m args below meth c H locs cells slots Q (F0 m pc ls (.ref (ad o) :: rest)) :=
  va_alen X.1 X.2.1 K.1 w.1 o 0 (wd_arr ho) tyE0 rfl hdg kk
theorem r_alenR (X : CallFix p m c cc nL s args Ts own) (K : Kn E s) (w : Rw E g ad M H0 H locs) (ho : gk g o = 10) (hdg : decode cc pc = .ok (.arraylength, 1))
    (kk : W p l e R s m args below meth c H locs cells slots Q (F0 m (pc + 1) ls (cI (gl g o : Int) :: rest))) : W p l e R s m args below meth c H locs cells slots Q (F0 m pc ls (.ref (ad o) :: rest)) :=
  va_alen X.1 X.2.1 K.1 w.1 o 1 (wd_rar ho) tyE1 rfl hdg kk
theorem r_aald (X : CallFix p m c cc nL s args Ts own) (K : Kn E s) (w : Rw E g ad M H0 H locs) (hg : gwf g) (ho : gk g o = 10) {i : Int} (h0 : 0 ≤ i) (h1 : i < (gl g o : Int)) (hdg : decode cc pc = .ok (.aaload, 1))
    (kk : W p l e R s m args below meth c H locs cells slots Q (F0 m (pc + 1) ls (.ref (ad (M o i).toNat) :: rest))) : W p l e R s m args below meth c H locs cells slots Q (F0 m pc ls (cI i :: .ref (ad o) :: rest)) := by
  have hz := hg.2 o
  refine va_aldq X.1 X.2.1 K.1 w.1 o 1 (wd_rar ho) tyE1 (cI_in h0 h1 (hg.2 o)) hdg ?_
  rw [cI_cl h0 (by omega), Int.toNat_of_nonneg h0]
  exact kk
theorem r_aast (X : CallFix p m c cc nL s args Ts own) (K : Kn E s) (w : Rw E g ad M H0 H locs) (hg : gwf g) (ho : gk g o = 10) {v : Nat} (hv : gk g v = 5) {i : Int} (h0 : 0 ≤ i) (h1 : i < (gl g o : Int)) (hdg : decode cc pc = .ok (.aastore, 1))
    (kk : ∀ (M1 : Mm) (H1 : Heap) (locs1 : List Loc), M1 = mu M o i (v : Int) → Rw E g ad M1 H0 H1 locs1 → W p l e R s m args below meth c H1 locs1 cells slots Q (F0 m (pc + 1) ls rest)) : W p l e R s m args below meth c H locs cells slots Q (F0 m pc ls (.ref (ad v) :: cI i :: .ref (ad o) :: rest)) := by
  have hz := hg.2 o
  refine va_astq (r := (RX5, TX5, 11)) X.1 X.2.1 K.1 w.1 w.2.1 w.2.2 o 1 v 5 (wd_rar ho) tyE1 (wd_obj hv (by decide)) rfl (cI_in h0 h1 (hg.2 o)) hdg (fun H1 locs1 hP hD hS => ?_)
  have he : (wd E g ad M).set o (ad o, .inl (E.2.2, gl g o, .inr (.inr (.inr (.inr (va_up (fun j : Nat => some (ad (M o j).toNat)) (Int32.ofInt i).toNatClampNeg (some (ad v)))))))) = wd E g ad (mu M o i (v : Int)) := by
    refine wd_set (gk_lt (by omega)) (fun o' h => mu_ne h) ?_
    rw [ce_rar ho, mu_eq, cI_cl h0 (by omega)]
    congr 1
    congr 1
    congr 1
    congr 1
    congr 1
    congr 1
    congr 1
    funext j
    show some (ad (if (j : Int) = i then (v : Int) else M o j).toNat) = if j = i.toNat then some (ad v) else some (ad (M o j).toNat)
    by_cases hj : (j : Int) = i
    · rw [if_pos hj, if_pos (by omega)]; rfl
    · rw [if_neg hj, if_neg (by omega)]
  rw [he] at hP hD
  exact kk _ H1 locs1 rfl ⟨hP, hD, hS⟩
/-! ends -/
theorem Rw.F {t : State} (w : Rw E g ad M s.heap H locs) (ht : t.heap = H) : va_F (Rg g ad) s t := w.2.2.F ht
theorem r_ireturn {Qm : Int → Mm → Prop} (X : CallFix p m c cc nL s args Ts own) (hr : meth.sig.returnType = some .int) (hlk : meth.locks = false) (K : Kn E s) (w : Rw E g ad M s.heap H locs) {v : Int} (hq : Qm v M) (hdg : decode cc pc = .ok (.ireturn, 1)) : W p l e R s m args below meth c H locs cells slots (MQ below (QI E g ad Qm) args s cells slots (Rg g ad)) (F0 m pc ls [cI v]) :=
  W.iret X.1 X.2.1 hr (fun t ht hW => ⟨⟨_, (v, M), rfl, ⟨rfl, hq⟩, w.p ht (K.warm hW)⟩, w.F ht⟩) w.2.2.2.2 hdg hlk
theorem r_zreturn {Qm : Int → Mm → Prop} (X : CallFix p m c cc nL s args Ts own) (hr : meth.sig.returnType = some .boolean) (hlk : meth.locks = false) (K : Kn E s) (w : Rw E g ad M s.heap H locs) {v : Int} (hn : narrow .boolean (cI v) = cI v) (hq : Qm v M) (hdg : decode cc pc = .ok (.ireturn, 1)) : W p l e R s m args below meth c H locs cells slots (MQ below (QI E g ad Qm) args s cells slots (Rg g ad)) (F0 m pc ls [cI v]) :=
  W.zret X.1 X.2.1 hr hn (fun t ht hW => ⟨⟨_, (v, M), rfl, ⟨rfl, hq⟩, w.p ht (K.warm hW)⟩, w.F ht⟩) w.2.2.2.2 hdg hlk
theorem r_return {Qm : Mm → Prop} (X : CallFix p m c cc nL s args Ts own) (hr : meth.sig.returnType = none) (hlk : meth.locks = false) (K : Kn E s) (w : Rw E g ad M s.heap H locs) (hq : Qm M) (hdg : decode cc pc = .ok (.return_, 1)) : W p l e R s m args below meth c H locs cells slots (MQ below (QV E g ad Qm) args s cells slots (Rg g ad)) (F0 m pc ls []) :=
  W.vret X.1 X.2.1 hr (fun t ht hW => ⟨⟨M, rfl, hq, w.p ht (K.warm hW)⟩, w.F ht⟩) w.2.2.2.2 hdg hlk
theorem r_areturn {ck : Nat} {Qm : Nat → Mm → Prop} {rt : FieldType} (X : CallFix p m c cc nL s args Ts own) (hr : meth.sig.returnType = some rt) (hrt : (∃ n, rt = .object n) ∨ ∃ t, rt = .array t) (hlk : meth.locks = false) (K : Kn E s) (w : Rw E g ad M s.heap H locs) {v : Nat} (hv : gk g v = ck) (hq : Qm v M) (hdg : decode cc pc = .ok (.areturn, 1)) : W p l e R s m args below meth c H locs cells slots (MQ below (QR E g ad ck Qm) args s cells slots (Rg g ad)) (F0 m pc ls [.ref (ad v)]) :=
  W.aret X.1 X.2.1 hr hrt (Or.inr ⟨_, rfl⟩) (fun t ht hW => ⟨⟨(v, M), ad v, rfl, ⟨hq, hv⟩, rfl, w.p ht (K.warm hW)⟩, w.F ht⟩) w.2.2.2.2 hdg hlk
theorem r_areturnO {ck : Nat} {Qm : Option Nat → Mm → Prop} {rt : FieldType} (X : CallFix p m c cc nL s args Ts own) (hr : meth.sig.returnType = some rt) (hrt : (∃ n, rt = .object n) ∨ ∃ t, rt = .array t) (hlk : meth.locks = false) (K : Kn E s) (w : Rw E g ad M s.heap H locs) {v : Nat} (hv : gk g v = ck) (hq : Qm (some v) M) (hdg : decode cc pc = .ok (.areturn, 1)) : W p l e R s m args below meth c H locs cells slots (MQ below (QO E g ad ck Qm) args s cells slots (Rg g ad)) (F0 m pc ls [.ref (ad v)]) :=
  W.aret X.1 X.2.1 hr hrt (Or.inr ⟨_, rfl⟩) (fun t ht hW => ⟨⟨some (ad v), (some v, M), rfl, ⟨rfl, hq, fun x hx => by cases hx; exact hv⟩, w.p ht (K.warm hW)⟩, w.F ht⟩) w.2.2.2.2 hdg hlk
theorem r_areturnN {ck : Nat} {Qm : Option Nat → Mm → Prop} {rt : FieldType} (X : CallFix p m c cc nL s args Ts own) (hr : meth.sig.returnType = some rt) (hrt : (∃ n, rt = .object n) ∨ ∃ t, rt = .array t) (hlk : meth.locks = false) (K : Kn E s) (w : Rw E g ad M s.heap H locs) (hq : Qm none M) (hdg : decode cc pc = .ok (.areturn, 1)) : W p l e R s m args below meth c H locs cells slots (MQ below (QO E g ad ck Qm) args s cells slots (Rg g ad)) (F0 m pc ls [.null]) :=
  W.aret X.1 X.2.1 hr hrt (Or.inl rfl) (fun t ht hW => ⟨⟨none, (none, M), rfl, ⟨rfl, hq, fun x hx => by cases hx⟩, w.p ht (K.warm hW)⟩, w.F ht⟩) w.2.2.2.2 hdg hlk
end HEAP
