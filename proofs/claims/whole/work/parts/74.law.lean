section
/-! THE CLAIM OUT OF ONE WALK OF THE LAW'S BODY. Your part is whole_start (and what it stands on); all else here is the same for every law, but numbers. -/
def R_law : String := "LentSoundsLaw"
def lw_P (b : Addr) (xs : List Int32) (args : Array Value) (s : State) : Prop := args = #[.ref b] ∧ s.IntsAt b xs ∧ xs.length ≤ 2048 ∧ (Jvm.Cond.and given_1 narrow_1).before args s = true
def lw_Q (_ : Array Value) (s : State) (o : Outcome) (t : State) : Prop := o = .returned (some (.int 1)) ∧ Framed s o t [] 600000 7302250
def lw_Z (below : List Frame) (a : Array Value) (s : State) : State → Prop := fun t => ∃ o, t.status = .running ∧ Ended t below o ∧ lw_Q a s o t
/-- the law's own end, with 1 on the stack, nothing written that was there before, its room as the claim has it -/
theorem lw_ret {p : Program} {l : Launch} {e : Env} {s : State} {m : MethodId} {below : List Frame} {meth : Method} {c : Code} {b : Nat} (hx : p.tables.exec = Jvm.exec) (hb : c.code = code) (hr : meth.sig.returnType = ret) (hlocks : meth.locks = false) {pc : Nat} {H : Heap} {ls : Array Slot} (hdg : decode code pc = .ok (.ireturn, 1)) : W p l e room_1 s m #[Value.ref b] below meth c H [] 600000 7302250 (lw_Z below #[Value.ref b] s) (F0 m pc ls [.int 1]) := by
  intro T hT X
  obtain ⟨fs, hret, hrun, hended, hW, hframe⟩ := X.leave (v := some (.int 1)) (hlocks := hlocks) (fun h => by rw [hr] at h; cases h)
  have hmeth' : T.vm.method? m = some meth := X.method'
  refine ⟨T.setFrames fs, ?_, .returned (some (.int 1)), hrun, hended, rfl, ⟨_, rfl⟩, hW, hframe⟩
  jvm_step X.here [X.here.top, hx, hb, hdg, hmeth', hr, ret, narrow_b1]
  (try refine ⟨rfl, ?_⟩); (try refine ⟨rfl, ?_⟩)
  first | (intro acts; rw [hret _ acts rfl rfl rfl]) | rw [hret _ _ rfl rfl rfl]
  exact Steps.refl _
/-- what holds at the law's entry: the machine, the code, the tables' words (any of lw_tbl by 'hts w (by decide +kernel)'), the script of L ints xs at the cell b, what the Statement gives of the start (any of its parts by flat_of_before) -/
def lw_At (p : Program) (s : State) (m : MethodId) (meth : Method) (c : Code) (b L : Nat) (xs : Nat → Int32) : Prop :=
  p.tables.exec = Jvm.exec ∧ c.code = code ∧ meth.sig.returnType = ret ∧ c.maxLocals = 4 ∧ s.vm.findClass R_law = some m.cls ∧ (∀ w ∈ lw_tbl, w.before #[Value.ref b] s = true) ∧ va_X b L xs s s.heap ∧ b < s.heap.size ∧ meth.locks = false ∧ (Jvm.Cond.and given_1 narrow_1).before #[Value.ref b] s = true
/-! the law over the pure memories: rows -/
theorem P_l {D : va_G} {cl : List vw_C} {X Y : va_W} {H : Heap} (h : va_P D cl (X ++ Y) H) : va_P D cl X H := fun k q hk => h k q (by
  rw [List.getElem?_append_left (List.getElem?_eq_some_iff.mp hk).1]; exact hk)
theorem P_r {D : va_G} {cl : List vw_C} {X Y : va_W} {H : Heap} (h : va_P D cl (X ++ Y) H) : va_P D cl Y H := fun k q hk => h (X.length + k) q (by
  rw [List.getElem?_append_right (by omega), show X.length + k - X.length = k by omega]; exact hk)
theorem D_l {A : Nat → Prop} {X Y : va_W} (h : va_D A (X ++ Y)) : va_D A X := by
  have e : ∀ (k : Nat) (q : Nat × va_E), X[k]? = some q → (X ++ Y)[k]? = some q := fun k q hk => by
    rw [List.getElem?_append_left (List.getElem?_eq_some_iff.mp hk).1]; exact hk
  exact ⟨fun i j p q hi hj he => h.1 i j p q (e i p hi) (e j q hj) he, fun k q hk => h.2 k q (e k q hk)⟩
theorem D_r {A : Nat → Prop} {X Y : va_W} (h : va_D A (X ++ Y)) : va_D A Y := by
  have e : ∀ (k : Nat) (q : Nat × va_E), Y[k]? = some q → (X ++ Y)[X.length + k]? = some q := fun k q hk => by
    rw [List.getElem?_append_right (by omega), show X.length + k - X.length = k by omega]; exact hk
  refine ⟨fun i j p q hi hj he => ?_, fun k q hk => h.2 _ q (e k q hk)⟩
  have := h.1 _ _ p q (e i p hi) (e j q hj) he
  omega
theorem D_cross {A : Nat → Prop} {X Y : va_W} (h : va_D A (X ++ Y)) {i j : Nat} {p q : Nat × va_E} (hi : X[i]? = some p) (hj : Y[j]? = some q) : p.1 ≠ q.1 := fun he => by
  have h1 := (List.getElem?_eq_some_iff.mp hi).1
  have h2 := h.1 i (X.length + j) p q (by rw [List.getElem?_append_left h1]; exact hi) (by rw [List.getElem?_append_right (by omega), show X.length + j - X.length = j by omega]; exact hj) he
  omega
/-- apart is a matter of the addresses -/
theorem same_D {A : Nat → Prop} {w w' : va_W} (h : va_D A w) (e : w'.map Prod.fst = w.map Prod.fst) : va_D A w' := by
  have g : ∀ (k : Nat) (q : Nat × va_E), w'[k]? = some q → ∃ q' : Nat × va_E, w[k]? = some q' ∧ q'.1 = q.1 := fun k q hk => by
    have h1 : (w'.map Prod.fst)[k]? = some q.1 := by rw [List.getElem?_map, hk]; rfl
    rw [e, List.getElem?_map] at h1
    cases hw : w[k]? with
    | none => rw [hw] at h1; cases h1
    | some q' => rw [hw] at h1; exact ⟨q', rfl, Option.some.inj h1⟩
  refine ⟨fun i j p q hi hj he => ?_, fun k q hk => ?_⟩
  · obtain ⟨p', h1, h2⟩ := g i p hi
    obtain ⟨q', h3, h4⟩ := g j q hj
    exact h.1 i j p' q' h1 h3 (by rw [h2, h4]; exact he)
  · obtain ⟨q', h1, h2⟩ := g k q hk
    rw [← h2]; exact h.2 k q' h1
theorem wd_fst {E : EE} {g : GG} {ad : Nat → Nat} {M : Mm} : (wd E g ad M).map Prod.fst = (List.range g.length).map ad := by
  unfold wd
  rw [List.map_map]
  rfl
section
variable {p : Program} {l : Launch} {e : Env} {R : Room} {s : State} {m : MethodId} {args : Array Value} {below : List Frame} {meth : Method} {c : Code} {H H0 : Heap} {locs : List Loc} {cells slots : Nat} {Q : State → Prop} {A : Nat → Prop} {E : EE} {ad bd : Nat → Nat} {M N : Mm} {ls : Array Slot} {pc : Nat} {st0 rest : List Value}
theorem jC {Qm : Int → Mm → Prop} {a : Array Value} (hP : va_P E.1 vwCl (wd E gC ad M ++ wd E gM bd N) H) (hD : va_D A (wd E gC ad M ++ wd E gM bd N)) (hS : va_S A H0 H locs) (hr : va_Run p l e R s m args below meth c H locs cells slots 0 0 (F0 m pc ls st0) rest (QI E gC ad Qm a) (Rg gC ad))
    (kk : ∀ (r : Int) (M1 : Mm) (H1 : Heap) (locs1 : List Loc), Qm r M1 → va_P E.1 vwCl (wd E gC ad M1 ++ wd E gM bd N) H1 → va_D A (wd E gC ad M1 ++ wd E gM bd N) → va_S A H0 H1 locs1 → W p l e R s m args below meth c H1 locs1 cells slots Q (F0 m (pc + 3) ls (cI r :: rest))) : W p l e R s m args below meth c H locs cells slots Q (F0 m pc ls st0) := by
  have hPl := P_l hP
  have hPr := P_r hP
  have hDl := D_l hD
  have hRA : ∀ x, Rg gC ad x → A x := fun x h => by
    obtain ⟨o, ho, rfl⟩ := h
    exact hDl.2 o _ (wd_get ho)
  refine va_calli hr hS (fun x _ h => hRA x h) hRA (fun r u t H1 locs1 ht hvm hw hB hz hk hS1 => ?_)
  obtain ⟨rfl, hq⟩ := hw
  have hB1 : va_P E.1 vwCl (wd E gC ad u.2) H1 := by rw [← ht]; exact hB.1
  refine kk u.1 u.2 H1 locs1 hq (hB1.app (hPr.kept fun k q hq2 => hk q.1 (hPr k q hq2).lt fun h => ?_)) (same_D hD ?_) hS1
  · obtain ⟨o, ho, e1⟩ := h
    exact D_cross hD (wd_get ho) hq2 e1
  · simp only [List.map_append, wd_fst]
theorem jM {Qm : Int → Mm → Prop} {a : Array Value} (hP : va_P E.1 vwCl (wd E gC ad M ++ wd E gM bd N) H) (hD : va_D A (wd E gC ad M ++ wd E gM bd N)) (hS : va_S A H0 H locs) (hr : va_Run p l e R s m args below meth c H locs cells slots 0 0 (F0 m pc ls st0) rest (QI E gM bd Qm a) (Rg gM bd))
    (kk : ∀ (r : Int) (N1 : Mm) (H1 : Heap) (locs1 : List Loc), Qm r N1 → va_P E.1 vwCl (wd E gC ad M ++ wd E gM bd N1) H1 → va_D A (wd E gC ad M ++ wd E gM bd N1) → va_S A H0 H1 locs1 → W p l e R s m args below meth c H1 locs1 cells slots Q (F0 m (pc + 3) ls (cI r :: rest))) : W p l e R s m args below meth c H locs cells slots Q (F0 m pc ls st0) := by
  have hPl := P_l hP
  have hPr := P_r hP
  have hDr := D_r hD
  have hRA : ∀ x, Rg gM bd x → A x := fun x h => by
    obtain ⟨o, ho, rfl⟩ := h
    exact hDr.2 o _ (wd_get ho)
  refine va_calli hr hS (fun x _ h => hRA x h) hRA (fun r u t H1 locs1 ht hvm hw hB hz hk hS1 => ?_)
  obtain ⟨rfl, hq⟩ := hw
  have hB1 : va_P E.1 vwCl (wd E gM bd u.2) H1 := by rw [← ht]; exact hB.1
  refine kk u.1 u.2 H1 locs1 hq ((hPl.kept fun k q hq2 => hk q.1 (hPl k q hq2).lt fun h => ?_).app hB1) (same_D hD ?_) hS1
  · obtain ⟨o, ho, e1⟩ := h
    exact D_cross hD hq2 (wd_get ho) e1.symm
  · simp only [List.map_append, wd_fst]
end
abbrev Fr (s : State) : Nat → Prop := fun q => s.heap.size ≤ q
def xv (xs : Nat → Int32) (j : Nat) : Int := (xs j).toInt
theorem xv_in {xs : Nat → Int32} {j : Nat} : inR (xv xs j) := inR_toInt _
theorem xv_v {xs : Nat → Int32} {j : Nat} : Value.int (xs j) = cI (xv xs j) := by
  show Value.int (xs j) = Value.int (Int32.ofInt (xs j).toInt)
  rw [Int32.ofInt_toInt]
abbrev LV (b qa qb i : Nat) : List (Nat × Value) := [(0, .ref b), (1, .ref qa), (2, .ref qb), (3, cI (i : Int))]
theorem cI_in2 {x : Int} {n : Nat} (h0 : 0 ≤ x) (h1 : x < n) (hn : n ≤ 100000) : vp_in (Int32.ofInt x) n := by
  rw [vp_in_iff, inR_ofInt ⟨by omega, by omega⟩]
  exact ⟨h0, h1⟩
theorem ch_ex (x : Int32) : ∃ y : Int, 0 ≤ y ∧ y ≤ 65535 ∧ (x.toUInt32 % 65536).toInt32 = Int32.ofInt y :=
  ⟨((x.toBitVec.toNat % 65536 : Nat) : Int), by omega, by omega, pk_char x⟩
/-- what stands all the while the law runs -/
def LG (p : Program) (s : State) (m : MethodId) (c : Code) (E : EE) (b L : Nat) (xs : Nat → Int32) : Prop := CallFix p m c code 4 s #[Value.ref b] wsL_law RL ∧ Kn E s ∧ va_X b L xs s s.heap ∧ b < s.heap.size ∧ L ≤ 2048
/-- behind a case -/
def LK (p : Program) (l : Launch) (e : Env) (s : State) (m : MethodId) (below : List Frame) (meth : Method) (c : Code) (cells slots : Nat) (Q : State → Prop) (E : EE) (ad bd : Nat → Nat) (b : Nat) (ls : Array Slot) : Prop := ∀ (M N : Mm) (H : Heap) (locs : List Loc), INV M N → va_P E.1 vwCl (wd E gC ad M ++ wd E gM bd N) H → va_D (Fr s) (wd E gC ad M ++ wd E gM bd N) → va_S (Fr s) s.heap H locs → W p l e room_1 s m #[Value.ref b] below meth c H locs cells slots Q (F0 m 654 ls [])
/-- an int of the script -/
theorem s_arg {p : Program} {l : Launch} {e : Env} {s : State} {m : MethodId} {below : List Frame} {meth : Method} {c : Code} {H : Heap} {locs : List Loc} {cells slots : Nat} {Q : State → Prop} {E : EE} {qa qb b L : Nat} {xs : Nat → Int32} {ls : Array Slot} {i k pc : Nat} {rest : List Value} (G : LG p s m c E b L xs) (hS : va_S (Fr s) s.heap H locs) (hl : lv_has ls 4 (LV b qa qb i)) (hk : i + k < L) (d0 : decode code pc = .ok (.aload_n 0, 1)) (d1 : decode code (pc + 1) = .ok (.iload_n 3, 1)) (d2 : decode code (pc + 2) = .ok (.iconst (k : Int), 1)) (d3 : decode code (pc + 3) = .ok (.iadd, 1)) (d4 : decode code (pc + 4) = .ok (.iaload, 1))
    (kk : W p l e room_1 s m #[Value.ref b] below meth c H locs cells slots Q (F0 m (pc + 5) ls (cI (xv xs (i + k)) :: rest))) : W p l e room_1 s m #[Value.ref b] below meth c H locs cells slots Q (F0 m pc ls rest) := by
  obtain ⟨X, -, hX, hbl, hL⟩ := G
  refine lv_aload_n X.1 X.2.1 d0 rfl (lv_at hl 0 rfl) ?_
  refine lv_iload_n X.1 X.2.1 d1 rfl (lv_at hl 3 rfl) ?_
  refine r_iconst X d2 ?_
  refine r_iadd X d3 ?_
  refine va_sld X.1 X.2.1 hX hbl (Nat.not_le.mpr hbl) hS (cI_in2 (x := (i : Int) + (k : Int)) (by omega) (by omega) (by omega)) d4 ?_
  have e1 : (Int32.ofInt ((i : Int) + (k : Int))).toNatClampNeg = i + k := by rw [cI_cl (by omega) (by omega)]; omega
  rw [e1, xv_v]
  exact kk

end
