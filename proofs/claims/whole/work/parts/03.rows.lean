/-! THE ROWS over the pure memory -/
def tyE (E : EE) : List (ClassId × FieldType) := [(E.2.1, .int), (E.2.2, .object RX5)]
/-- the links to private members of nest mates -/
def nsF : List Cond := [.fieldLinkNest "LentSounds$Rehearsal" 102 "LentSounds$CueList" "ticks" "LLentSounds$Row;" "LentSounds", .fieldLinkNest "LentSounds" 190 "LentSounds$CueList" "ticks" "LLentSounds$Row;" "LentSounds", .fieldLinkNest "LentSounds$Rehearsal" 120 "LentSounds$CueList" "scenes" "LLentSounds$Row;" "LentSounds", .fieldLinkNest "LentSounds" 187 "LentSounds$CueList" "scenes" "LLentSounds$Row;" "LentSounds", .fieldLinkNest "LentSounds$Rehearsal" 96 "LentSounds$CueList" "sounds" "LLentSounds$Row;" "LentSounds", .fieldLinkNest "LentSounds" 193 "LentSounds$CueList" "sounds" "LLentSounds$Row;" "LentSounds", .fieldLinkNest "LentSounds" 196 "LentSounds$CueList" "lengths" "LLentSounds$Row;" "LentSounds", .fieldLinkNest "LentSounds$Rehearsal" 87 "LentSounds$CueList" "size" "I" "LentSounds", .fieldLinkNest "LentSounds" 111 "LentSounds$CueList" "size" "I" "LentSounds", .fieldLinkNest "LentSounds$Rehearsal" 99 "LentSounds$State" "soundShelves" "LLentSounds$Row;" "LentSounds", .fieldLinkNest "LentSounds$Rehearsal" 63 "LentSounds$State" "charges" "LLentSounds$Row;" "LentSounds", .fieldLinkNest "LentSounds" 139 "LentSounds$State" "charges" "LLentSounds$Row;" "LentSounds", .fieldLinkNest "LentSounds$Rehearsal" 144 "LentSounds$State" "loudness" "LLentSounds$Row;" "LentSounds", .fieldLinkNest "LentSounds$Rehearsal" 71 "LentSounds$State" "handShelves" "LLentSounds$Row;" "LentSounds", .fieldLinkNest "LentSounds" 84 "LentSounds$State" "handShelves" "LLentSounds$Row;" "LentSounds", .fieldLinkNest "LentSounds$Rehearsal" 83 "LentSounds$State" "cues" "LLentSounds$CueList;" "LentSounds", .fieldLinkNest "LentSounds" 91 "LentSounds$State" "cues" "LLentSounds$CueList;" "LentSounds", .fieldLinkNest "LentSounds$Rehearsal" 70 "LentSounds$State" "hands" "I" "LentSounds", .fieldLinkNest "LentSounds" 80 "LentSounds$State" "hands" "I" "LentSounds", .fieldLinkNest "LentSounds" 88 "LentSounds$State" "carrying" "I" "LentSounds", .fieldLinkNest "LentSounds$Rehearsal" 127 "LentSounds$State" "carrying" "I" "LentSounds", .fieldLinkNest "LentSounds" 147 "LentSounds$State" "takes" "I" "LentSounds", .fieldLinkNest "LentSounds" 150 "LentSounds$State" "playedCues" "I" "LentSounds", .fieldLinkNest "LentSounds" 156 "LentSounds$State" "missedCues" "I" "LentSounds", .fieldLinkNest "LentSounds" 157 "LentSounds$State" "missedByEar" "I" "LentSounds", .fieldLinkNest "LentSounds" 168 "LentSounds$History" "size" "I" "LentSounds", .fieldLinkNest "LentSounds$CueReader" 39 "LentSounds$Text" "length" "I" "LentSounds", .fieldLinkNest "LentSounds" 161 "LentSounds$Text" "length" "I" "LentSounds", .fieldLinkNest "LentSounds" 108 "LentSounds$CueReader" "drafts" "LLentSounds$CueList;" "LentSounds", .fieldLinkNest "LentSounds" 102 "LentSounds$CueReader" "position" "I" "LentSounds", .fieldLinkNest "LentSounds" 99 "LentSounds$CueReader" "faulty" "Z" "LentSounds", .fieldLinkNest "LentSounds" 105 "LentSounds$CueReader" "foundTwice" "Z" "LentSounds", .fieldLinkNest "LentSounds" 142 "LentSounds$Rehearsal" "charges" "LLentSounds$Row;" "LentSounds", .fieldLinkNest "LentSounds" 146 "LentSounds$Rehearsal" "handShelves" "LLentSounds$Row;" "LentSounds", .fieldLinkNest "LentSounds" 214 "LentSounds$Rehearsal" "freeFrom" "LLentSounds$Row;" "LentSounds", .fieldLinkNest "LentSounds" 208 "LentSounds$Rehearsal" "handPlays" "LLentSounds$Row;" "LentSounds", .fieldLinkNest "LentSounds" 211 "LentSounds$Rehearsal" "handWays" "LLentSounds$Row;" "LentSounds", .fieldLinkNest "LentSounds" 199 "LentSounds$Rehearsal" "players" "LLentSounds$Row;" "LentSounds", .fieldLinkNest "LentSounds" 202 "LentSounds$Rehearsal" "reasons" "LLentSounds$Row;" "LentSounds", .fieldLinkNest "LentSounds" 205 "LentSounds$Rehearsal" "ways" "LLentSounds$Row;" "LentSounds", .fieldLinkNest "LentSounds" 223 "LentSounds$Rehearsal" "sceneMisses" "LLentSounds$Row;" "LentSounds", .fieldLinkNest "LentSounds" 226 "LentSounds$Rehearsal" "sceneLoans" "LLentSounds$Row;" "LentSounds", .fieldLinkNest "LentSounds" 153 "LentSounds$Rehearsal" "missedCues" "I" "LentSounds", .fieldLinkNest "LentSounds" 160 "LentSounds$Rehearsal" "missedByEar" "I" "LentSounds"]
def nsM : List Cond := [.methodLinkNest "LentSounds" 28 ⟨"LentSounds$Text", "<init>", "()V"⟩ "LentSounds", .methodLinkNest "LentSounds" 35 ⟨"LentSounds$CueReader", "<init>", "()V"⟩ "LentSounds", .methodLinkNest "LentSounds" 42 ⟨"LentSounds$Rehearsal", "<init>", "()V"⟩ "LentSounds", .methodLinkNest "LentSounds$Text" 28 ⟨"LentSounds", "isBelow", "(II)Z"⟩ "LentSounds", .methodLinkNest "LentSounds$CueReader" 74 ⟨"LentSounds", "isWithin", "(III)Z"⟩ "LentSounds", .methodLinkNest "LentSounds$CueList" 60 ⟨"LentSounds", "isWithin", "(III)Z"⟩ "LentSounds"]
def Kn (E : EE) (U : State) : Prop := va_K E.1 vwCl (tyE E) U ∧ (∀ w ∈ nsF, va_Nw w U) ∧ ∀ w ∈ nsM, va_Nw w U
def isF (w : Cond) : Prop := ∃ a i b n d h, w = .fieldLinkNest a i b n d h
def isM (w : Cond) : Prop := ∃ a i x h, w = .methodLinkNest a i x h
theorem isF_ok : ∀ w ∈ nsF, isF w := by
  intro w hw
  simp only [nsF, List.mem_cons, List.not_mem_nil, or_false] at hw
  rcases hw with rfl | rfl | rfl | rfl | rfl | rfl | rfl | rfl | rfl | rfl | rfl | rfl | rfl | rfl | rfl | rfl | rfl | rfl | rfl | rfl | rfl | rfl | rfl | rfl | rfl | rfl | rfl | rfl | rfl | rfl | rfl | rfl | rfl | rfl | rfl | rfl | rfl | rfl | rfl | rfl | rfl | rfl | rfl | rfl
  all_goals exact ⟨_, _, _, _, _, _, rfl⟩
theorem isM_ok : ∀ w ∈ nsM, isM w := by
  intro w hw
  simp only [nsM, List.mem_cons, List.not_mem_nil, or_false] at hw
  rcases hw with rfl | rfl | rfl | rfl | rfl | rfl
  all_goals exact ⟨_, _, _, _, rfl⟩
theorem Kn.warm {E : EE} {s U : State} (hW : s.WarmedH U.vm) (h : Kn E s) : Kn E U := by
  refine ⟨va_K.moved hW.alike h.1, fun w hw => ?_, fun w hw => ?_⟩
  · obtain ⟨a, i, b, n, d, hh, rfl⟩ := isF_ok w hw
    exact va_Nw.warmF hW (h.2.1 _ hw)
  · obtain ⟨a, i, x, hh, rfl⟩ := isM_ok w hw
    exact va_Nw.warmM hW (h.2.2 _ hw)
theorem Kn.calling {E : EE} {U : State} {g : JFrame} {mk : MethodId} {a : Array Value} (h : Kn E U) : Kn E (U.calling g mk a) := by
  refine ⟨va_K.moved (u := U) (U := U.calling g mk a) (Vm.Alike.refl U.vm) h.1, fun w hw => ?_, fun w hw => ?_⟩
  · obtain ⟨a, i, b, n, d, hh, rfl⟩ := isF_ok w hw
    exact va_Nw.same rfl rfl (h.2.1 _ hw)
  · obtain ⟨a, i, x, hh, rfl⟩ := isM_ok w hw
    exact va_Nw.same rfl rfl (h.2.2 _ hw)
/-- the cells of a world -/
def Rg (g : GG) (ad : Nat → Nat) : Nat → Prop := fun q => ∃ o, o < g.length ∧ ad o = q
def Rp (E : EE) (g : GG) (ad : Nat → Nat) (M : Mm) (U : State) : Prop := va_P E.1 vwCl (wd E g ad M) U.heap ∧ va_D (fun _ => True) (wd E g ad M) ∧ Kn E U
def Rw (E : EE) (g : GG) (ad : Nat → Nat) (M : Mm) (H0 H : Heap) (locs : List Loc) : Prop := va_P E.1 vwCl (wd E g ad M) H ∧ va_D (Rg g ad) (wd E g ad M) ∧ va_S (Rg g ad) H0 H locs
theorem wd_D {E : EE} {g : GG} {ad : Nat → Nat} {M : Mm} {A : Nat → Prop} (h : va_D A (wd E g ad M)) : va_D (Rg g ad) (wd E g ad M) := by
  refine ⟨h.1, fun k q hk => ?_⟩
  obtain ⟨h1, h2⟩ := wd_inv hk
  exact ⟨k, h1, by rw [h2]⟩
theorem wd_DT {E : EE} {g : GG} {ad : Nat → Nat} {M M' : Mm} {A : Nat → Prop} (h : va_D A (wd E g ad M)) : va_D (fun _ => True) (wd E g ad M') := by
  refine ⟨fun i j p q hi hj he => ?_, fun _ _ _ => trivial⟩
  obtain ⟨h1, h2⟩ := wd_inv hi
  obtain ⟨h3, h4⟩ := wd_inv hj
  exact h.1 i j _ _ (wd_get h1) (wd_get h3) (by rw [h2, h4] at he; exact he)
theorem Rp.w {E : EE} {g : GG} {ad : Nat → Nat} {M : Mm} {U : State} (h : Rp E g ad M U) : Rw E g ad M U.heap U.heap [] := ⟨h.1, wd_D h.2.1, va_S.rf⟩
theorem Rw.p {E : EE} {g : GG} {ad : Nat → Nat} {M : Mm} {H0 H : Heap} {locs : List Loc} {U : State} (h : Rw E g ad M H0 H locs) (hH : U.heap = H) (hK : Kn E U) : Rp E g ad M U := ⟨by rw [hH]; exact h.1, wd_DT h.2.1, hK⟩
/-! contracts -/
abbrev QI (E : EE) (g : GG) (ad : Nat → Nat) (Q : Int → Mm → Prop) : Array Value → State → Outcome → State → Prop := va_Qi (fun (r : Int32) (u : Int × Mm) => r = Int32.ofInt u.1 ∧ Q u.1 u.2) (fun u t => Rp E g ad u.2 t) (Rg g ad)
abbrev QV (E : EE) (g : GG) (ad : Nat → Nat) (Q : Mm → Prop) : Array Value → State → Outcome → State → Prop := va_Qv (fun (u : Mm) => Q u) (fun u t => Rp E g ad u t) (Rg g ad)
abbrev QR (E : EE) (g : GG) (ad : Nat → Nat) (ck : Nat) (Q : Nat → Mm → Prop) : Array Value → State → Outcome → State → Prop := va_Qr (fun (u : Nat × Mm) => Q u.1 u.2 ∧ gk g u.1 = ck) (fun u a t => a = ad u.1 ∧ Rp E g ad u.2 t) (Rg g ad)
abbrev QO (E : EE) (g : GG) (ad : Nat → Nat) (ck : Nat) (Q : Option Nat → Mm → Prop) : Array Value → State → Outcome → State → Prop := va_Qq (fun (r : Option Nat) (u : Option Nat × Mm) => r = u.1.map ad ∧ Q u.1 u.2 ∧ ∀ x, u.1 = some x → gk g x = ck) (fun u t => Rp E g ad u.2 t) (Rg g ad)
def Ct (E : EE) (l : Launch) (y : MethodName) (ws : List Cond) (rm : Room) (g : GG) (ad : Nat → Nat) (args : List Value) (M : Mm) (Qc : Array Value → State → Outcome → State → Prop) : Prop := Met l y ws rm (va_Pc args (fun U => Rp E g ad M U)) Qc 0 0 (Rg g ad)
set_option maxHeartbeats 4000000 in
/-- a method's body, from its entry -/
theorem ent {E : EE} {l : Launch} {y : MethodName} {ws ws' : List Cond} {rm : Room} {g : GG} {ad : Nat → Nat} {av : List Value} {M : Mm} {Qc : Array Value → State → Outcome → State → Prop} {cc : ByteArray} {maxL : Nat} {ret : Option FieldType} {own : String}
    (hy : plainName y.cls = true) (ho : y.cls = own) (hw : ws = Cond.code y cc maxL ret :: ws') (hlen : (lg_sl av).length ≤ maxL)
    (body : ∀ (p : Program) (e : Env) (s : State) (m : MethodId) (below : List Frame) (meth : Method) (c : Code) (ls : Array Slot), CallFix p m c cc maxL s av.toArray ws own → meth.sig.returnType = ret → meth.locks = false → Kn E s → Rw E g ad M s.heap s.heap [] → lv_has ls maxL (lv_args 0 av) →
      W p l e (headSpec ws rm).room s m av.toArray below meth c s.heap [] 0 0 (MQ below Qc av.toArray s 0 0 (Rg g ad)) (F0 m 0 ls [])) : Ct E l y ws rm g ad av M Qc := by
  subst ho
  refine Met.ofW (cc := cc) (maxL := maxL) (ret := ret) hy hw ?_
  intro p e s m args below meth c s₁ B hml hv
  obtain ⟨rfl, hv⟩ := hv
  have hl := lv_entry av (n := maxL) hlen
  rw [lg_entry_eq]
  generalize (lg_sl av ++ List.replicate (maxL - (lg_sl av).length) Slot.unset).toArray = ls at hl ⊢
  exact body p e s m below meth c ls ⟨B.exec, B.bytes, hml, findClass_of_methodNamed B.named, atoms_spec (ws := ws) B.pre⟩ B.returns B.notSynchronized hv.2.2 hv.w hl
section ROWS
variable {p : Program} {l : Launch} {e : Env} {R : Room} {s : State} {m : MethodId} {args : Array Value} {below : List Frame} {meth : Method} {c : Code} {H H0 : Heap} {locs : List Loc} {cells slots : Nat} {Q : State → Prop}
variable {E : EE} {g : GG} {ad : Nat → Nat} {M : Mm} {cc : ByteArray} {nL : Nat} {Ts : List Cond} {own : String} {pc : Nat} {ls : Array Slot} {rest : List Value}
theorem r_bipush (X : CallFix p m c cc nL s args Ts own) {n : Int} (hdg : decode cc pc = .ok (.bipush n, 2)) (hv : (Int8.ofInt n).toInt32 = Int32.ofInt n)
    (k : W p l e R s m args below meth c H locs cells slots Q (F0 m (pc + 2) ls (cI n :: rest))) : W p l e R s m args below meth c H locs cells slots Q (F0 m pc ls rest) := lv_bipush X.1 X.2.1 hdg hv k
theorem r_sipush (X : CallFix p m c cc nL s args Ts own) {n : Int} (hdg : decode cc pc = .ok (.sipush n, 3)) (hv : (Int16.ofInt n).toInt32 = Int32.ofInt n)
    (k : W p l e R s m args below meth c H locs cells slots Q (F0 m (pc + 3) ls (cI n :: rest))) : W p l e R s m args below meth c H locs cells slots Q (F0 m pc ls rest) := lv_sipush X.1 X.2.1 hdg hv k
theorem r_iconst (X : CallFix p m c cc nL s args Ts own) {n : Int} (hdg : decode cc pc = .ok (.iconst n, 1))
    (k : W p l e R s m args below meth c H locs cells slots Q (F0 m (pc + 1) ls (cI n :: rest))) : W p l e R s m args below meth c H locs cells slots Q (F0 m pc ls rest) := lv_iconst X.1 X.2.1 hdg rfl k
theorem r_iadd (X : CallFix p m c cc nL s args Ts own) {a b : Int} (hdg : decode cc pc = .ok (.iadd, 1))
    (k : W p l e R s m args below meth c H locs cells slots Q (F0 m (pc + 1) ls (cI (a + b) :: rest))) : W p l e R s m args below meth c H locs cells slots Q (F0 m pc ls (cI b :: cI a :: rest)) := lv_iadd X.1 X.2.1 hdg (by rw [← Int32.ofInt_add]; exact k)
theorem r_isub (X : CallFix p m c cc nL s args Ts own) {a b : Int} (hdg : decode cc pc = .ok (.isub, 1))
    (k : W p l e R s m args below meth c H locs cells slots Q (F0 m (pc + 1) ls (cI (a - b) :: rest))) : W p l e R s m args below meth c H locs cells slots Q (F0 m pc ls (cI b :: cI a :: rest)) := lv_isub X.1 X.2.1 hdg (by rw [← Int32.ofInt_sub]; exact k)
theorem r_imul (X : CallFix p m c cc nL s args Ts own) {a b : Int} (hdg : decode cc pc = .ok (.imul, 1))
    (k : W p l e R s m args below meth c H locs cells slots Q (F0 m (pc + 1) ls (cI (a * b) :: rest))) : W p l e R s m args below meth c H locs cells slots Q (F0 m pc ls (cI b :: cI a :: rest)) := lv_imul X.1 X.2.1 hdg (by rw [← Int32.ofInt_mul]; exact k)
theorem r_ineg (X : CallFix p m c cc nL s args Ts own) {a : Int} (hdg : decode cc pc = .ok (.ineg, 1))
    (k : W p l e R s m args below meth c H locs cells slots Q (F0 m (pc + 1) ls (cI (-a) :: rest))) : W p l e R s m args below meth c H locs cells slots Q (F0 m pc ls (cI a :: rest)) := lv_ineg X.1 X.2.1 hdg (by rw [← Int32.ofInt_neg]; exact k)
theorem r_irem {a b : Int} (ha : 0 ≤ a) (ha2 : inR a) (hb : 0 < b) (hb2 : inR b) : Int32.ofInt a - Int32.ofInt a / Int32.ofInt b * Int32.ofInt b = Int32.ofInt (a % b) := by
  obtain ⟨n, rfl⟩ := Int.eq_ofNat_of_zero_le ha
  obtain ⟨d, rfl⟩ := Int.eq_ofNat_of_zero_le (Int.le_of_lt hb)
  have e1 : ∀ k : Nat, Int32.ofInt (k : Int) = nI k := fun k => rfl
  have h2 := ha2.2
  have h3 := hb2.2
  show nI n - nI n / nI d * nI d = _
  rw [pk_rem (by omega) (by omega) (by omega)]
  show nI (n % d) = _
  rfl
theorem r_iremW (X : CallFix p m c cc nL s args Ts own) {a b : Int} (ha : 0 ≤ a) (ha2 : inR a) (hb : 0 < b) (hb2 : inR b) (hdg : decode cc pc = .ok (.irem, 1))
    (k : W p l e R s m args below meth c H locs cells slots Q (F0 m (pc + 1) ls (cI (a % b) :: rest))) : W p l e R s m args below meth c H locs cells slots Q (F0 m pc ls (cI b :: cI a :: rest)) :=
  lv_irem X.1 X.2.1 hdg (fun h => by
    have h1 : Int32.ofInt b = Int32.ofInt 0 := h
    rw [cI_eq hb2 inR_0] at h1
    omega) (by rw [r_irem ha ha2 hb hb2]; exact k)
theorem r_iinc (X : CallFix p m c cc nL s args Ts own) {i k : Nat} {n x : Int} {lv lv' : List (Nat × Value)} (h : lv_has ls nL lv) (hk : lv[k]? = some (i, cI x)) (hn : i < nL) (hdg : decode cc pc = .ok (.iinc i n, 3)) (hl : (i, cI (x + n)) :: lv.filter (fun q => !(q.1 == i) && !(q.1 + 1 == i && q.2.category == 2)) = lv')
    (kk : ∀ ls' : Array Slot, lv_has ls' nL lv' → W p l e R s m args below meth c H locs cells slots Q (F0 m (pc + 3) ls' rest)) : W p l e R s m args below meth c H locs cells slots Q (F0 m pc ls rest) := lv_iinc X.1 X.2.1 hdg h hk (v := Int32.ofInt (x + n)) (by rw [Int32.ofInt_add]) hn hl kk
/-! branches -/
theorem r_icmp_lt (X : CallFix p m c cc nL s args Ts own) {a b off : Int} {tgt : Nat} (ha : inR a) (hb : inR b) (hdg : decode cc pc = .ok (.if_icmp .lt off, 3)) (ht : (pc : Int) + off = (tgt : Int)) (kt : a < b → W p l e R s m args below meth c H locs cells slots Q (F0 m tgt ls rest)) (kf : b ≤ a → W p l e R s m args below meth c H locs cells slots Q (F0 m (pc + 3) ls rest)) : W p l e R s m args below meth c H locs cells slots Q (F0 m pc ls (cI b :: cI a :: rest)) :=
  lv_icmp_lt X.1 X.2.1 hdg ht (fun h => kt ((cI_lt ha hb).mp h)) (fun h => kf (by rw [cI_lt ha hb] at h; omega))
theorem r_icmp_ge (X : CallFix p m c cc nL s args Ts own) {a b off : Int} {tgt : Nat} (ha : inR a) (hb : inR b) (hdg : decode cc pc = .ok (.if_icmp .ge off, 3)) (ht : (pc : Int) + off = (tgt : Int)) (kt : b ≤ a → W p l e R s m args below meth c H locs cells slots Q (F0 m tgt ls rest)) (kf : a < b → W p l e R s m args below meth c H locs cells slots Q (F0 m (pc + 3) ls rest)) : W p l e R s m args below meth c H locs cells slots Q (F0 m pc ls (cI b :: cI a :: rest)) :=
  lv_icmp_ge X.1 X.2.1 hdg ht (fun h => kt ((cI_le hb ha).mp h)) (fun h => kf (by rw [cI_le hb ha] at h; omega))
theorem r_icmp_gt (X : CallFix p m c cc nL s args Ts own) {a b off : Int} {tgt : Nat} (ha : inR a) (hb : inR b) (hdg : decode cc pc = .ok (.if_icmp .gt off, 3)) (ht : (pc : Int) + off = (tgt : Int)) (kt : b < a → W p l e R s m args below meth c H locs cells slots Q (F0 m tgt ls rest)) (kf : a ≤ b → W p l e R s m args below meth c H locs cells slots Q (F0 m (pc + 3) ls rest)) : W p l e R s m args below meth c H locs cells slots Q (F0 m pc ls (cI b :: cI a :: rest)) :=
  lv_icmp_gt X.1 X.2.1 hdg ht (fun h => kt ((cI_lt hb ha).mp h)) (fun h => kf (by rw [cI_lt hb ha] at h; omega))
theorem r_icmp_le (X : CallFix p m c cc nL s args Ts own) {a b off : Int} {tgt : Nat} (ha : inR a) (hb : inR b) (hdg : decode cc pc = .ok (.if_icmp .le off, 3)) (ht : (pc : Int) + off = (tgt : Int)) (kt : a ≤ b → W p l e R s m args below meth c H locs cells slots Q (F0 m tgt ls rest)) (kf : b < a → W p l e R s m args below meth c H locs cells slots Q (F0 m (pc + 3) ls rest)) : W p l e R s m args below meth c H locs cells slots Q (F0 m pc ls (cI b :: cI a :: rest)) :=
  lv_icmp_le X.1 X.2.1 hdg ht (fun h => kt ((cI_le ha hb).mp h)) (fun h => kf (by rw [cI_le ha hb] at h; omega))
theorem r_icmp_eq (X : CallFix p m c cc nL s args Ts own) {a b off : Int} {tgt : Nat} (ha : inR a) (hb : inR b) (hdg : decode cc pc = .ok (.if_icmp .eq off, 3)) (ht : (pc : Int) + off = (tgt : Int)) (kt : a = b → W p l e R s m args below meth c H locs cells slots Q (F0 m tgt ls rest)) (kf : a ≠ b → W p l e R s m args below meth c H locs cells slots Q (F0 m (pc + 3) ls rest)) : W p l e R s m args below meth c H locs cells slots Q (F0 m pc ls (cI b :: cI a :: rest)) :=
  lv_icmp_eq X.1 X.2.1 hdg ht (fun h => kt ((cI_eq ha hb).mp h)) (fun h => kf (fun q => h ((cI_eq ha hb).mpr q)))
theorem r_icmp_ne (X : CallFix p m c cc nL s args Ts own) {a b off : Int} {tgt : Nat} (ha : inR a) (hb : inR b) (hdg : decode cc pc = .ok (.if_icmp .ne off, 3)) (ht : (pc : Int) + off = (tgt : Int)) (kt : a ≠ b → W p l e R s m args below meth c H locs cells slots Q (F0 m tgt ls rest)) (kf : a = b → W p l e R s m args below meth c H locs cells slots Q (F0 m (pc + 3) ls rest)) : W p l e R s m args below meth c H locs cells slots Q (F0 m pc ls (cI b :: cI a :: rest)) :=
  lv_icmp_ne X.1 X.2.1 hdg ht (fun h => kt (fun q => h ((cI_eq ha hb).mpr q))) (fun h => kf ((cI_eq ha hb).mp h))
theorem r_if_lt (X : CallFix p m c cc nL s args Ts own) {a off : Int} {tgt : Nat} (ha : inR a) (hdg : decode cc pc = .ok (.ifCond .lt off, 3)) (ht : (pc : Int) + off = (tgt : Int)) (kt : a < 0 → W p l e R s m args below meth c H locs cells slots Q (F0 m tgt ls rest)) (kf : 0 ≤ a → W p l e R s m args below meth c H locs cells slots Q (F0 m (pc + 3) ls rest)) : W p l e R s m args below meth c H locs cells slots Q (F0 m pc ls (cI a :: rest)) :=
  lv_if_lt X.1 X.2.1 hdg ht (fun h => kt ((cI_lt ha inR_0).mp h)) (fun h => kf (by have h2 : ¬ Int32.ofInt a < Int32.ofInt 0 := h; rw [cI_lt ha inR_0] at h2; omega))
theorem r_if_ge (X : CallFix p m c cc nL s args Ts own) {a off : Int} {tgt : Nat} (ha : inR a) (hdg : decode cc pc = .ok (.ifCond .ge off, 3)) (ht : (pc : Int) + off = (tgt : Int)) (kt : 0 ≤ a → W p l e R s m args below meth c H locs cells slots Q (F0 m tgt ls rest)) (kf : a < 0 → W p l e R s m args below meth c H locs cells slots Q (F0 m (pc + 3) ls rest)) : W p l e R s m args below meth c H locs cells slots Q (F0 m pc ls (cI a :: rest)) :=
  lv_if_ge X.1 X.2.1 hdg ht (fun h => kt ((cI_le inR_0 ha).mp h)) (fun h => kf (by have h2 : ¬ Int32.ofInt 0 ≤ Int32.ofInt a := h; rw [cI_le inR_0 ha] at h2; omega))
theorem r_if_gt (X : CallFix p m c cc nL s args Ts own) {a off : Int} {tgt : Nat} (ha : inR a) (hdg : decode cc pc = .ok (.ifCond .gt off, 3)) (ht : (pc : Int) + off = (tgt : Int)) (kt : 0 < a → W p l e R s m args below meth c H locs cells slots Q (F0 m tgt ls rest)) (kf : a ≤ 0 → W p l e R s m args below meth c H locs cells slots Q (F0 m (pc + 3) ls rest)) : W p l e R s m args below meth c H locs cells slots Q (F0 m pc ls (cI a :: rest)) :=
  lv_if_gt X.1 X.2.1 hdg ht (fun h => kt ((cI_lt inR_0 ha).mp h)) (fun h => kf (by have h2 : ¬ Int32.ofInt 0 < Int32.ofInt a := h; rw [cI_lt inR_0 ha] at h2; omega))
theorem r_if_le (X : CallFix p m c cc nL s args Ts own) {a off : Int} {tgt : Nat} (ha : inR a) (hdg : decode cc pc = .ok (.ifCond .le off, 3)) (ht : (pc : Int) + off = (tgt : Int)) (kt : a ≤ 0 → W p l e R s m args below meth c H locs cells slots Q (F0 m tgt ls rest)) (kf : 0 < a → W p l e R s m args below meth c H locs cells slots Q (F0 m (pc + 3) ls rest)) : W p l e R s m args below meth c H locs cells slots Q (F0 m pc ls (cI a :: rest)) :=
  lv_if_le X.1 X.2.1 hdg ht (fun h => kt ((cI_le ha inR_0).mp h)) (fun h => kf (by have h2 : ¬ Int32.ofInt a ≤ Int32.ofInt 0 := h; rw [cI_le ha inR_0] at h2; omega))
theorem r_if_eq (X : CallFix p m c cc nL s args Ts own) {a off : Int} {tgt : Nat} (ha : inR a) (hdg : decode cc pc = .ok (.ifCond .eq off, 3)) (ht : (pc : Int) + off = (tgt : Int)) (kt : a = 0 → W p l e R s m args below meth c H locs cells slots Q (F0 m tgt ls rest)) (kf : a ≠ 0 → W p l e R s m args below meth c H locs cells slots Q (F0 m (pc + 3) ls rest)) : W p l e R s m args below meth c H locs cells slots Q (F0 m pc ls (cI a :: rest)) :=
  lv_if_eq X.1 X.2.1 hdg ht (fun h => kt ((cI_eq ha inR_0).mp h)) (fun h => kf (fun q => h ((cI_eq ha inR_0).mpr q)))
theorem r_if_ne (X : CallFix p m c cc nL s args Ts own) {a off : Int} {tgt : Nat} (ha : inR a) (hdg : decode cc pc = .ok (.ifCond .ne off, 3)) (ht : (pc : Int) + off = (tgt : Int)) (kt : a ≠ 0 → W p l e R s m args below meth c H locs cells slots Q (F0 m tgt ls rest)) (kf : a = 0 → W p l e R s m args below meth c H locs cells slots Q (F0 m (pc + 3) ls rest)) : W p l e R s m args below meth c H locs cells slots Q (F0 m pc ls (cI a :: rest)) :=
  lv_if_ne X.1 X.2.1 hdg ht (fun h => kt (fun q => h ((cI_eq ha inR_0).mpr q))) (fun h => kf ((cI_eq ha inR_0).mp h))
theorem r_tabIn (X : CallFix p m c cc nL s args Ts own) {dflt lo hi a : Int} {offs : Array Int} {len : Nat} {off : Int} {tgt : Nat} (ha : inR a) (hdg : decode cc pc = .ok (.tableswitch dflt lo hi offs, len)) (i : Int) (hi1 : a = i) (h1 : ¬ i < lo) (h2 : ¬ hi < i) (ho : offs[(i - lo).toNat]? = some off) (ht : (pc : Int) + off = (tgt : Int))
    (k : W p l e R s m args below meth c H locs cells slots Q (F0 m tgt ls rest)) : W p l e R s m args below meth c H locs cells slots Q (F0 m pc ls (cI a :: rest)) := by
  subst hi1
  exact lv_tableIn X.1 X.2.1 hdg (by rw [inR_ofInt ha]; exact h1) (by rw [inR_ofInt ha]; exact h2) (by rw [inR_ofInt ha]; exact ho) ht k
theorem r_tabOut (X : CallFix p m c cc nL s args Ts own) {dflt lo hi a : Int} {offs : Array Int} {len : Nat} {tgt : Nat} (ha : inR a) (hdg : decode cc pc = .ok (.tableswitch dflt lo hi offs, len)) (h : a < lo ∨ hi < a) (ht : (pc : Int) + dflt = (tgt : Int))
    (k : W p l e R s m args below meth c H locs cells slots Q (F0 m tgt ls rest)) : W p l e R s m args below meth c H locs cells slots Q (F0 m pc ls (cI a :: rest)) :=
  lv_tableOut X.1 X.2.1 hdg (by rw [inR_ofInt ha]; exact h) ht k
theorem r_lookup (X : CallFix p m c cc nL s args Ts own) {dflt a : Int} {ps : Array (Int × Int)} {len : Nat} {off : Int} {tgt : Nat} (ha : inR a) (hdg : decode cc pc = .ok (.lookupswitch dflt ps, len)) (hp : (ps.toList.zip (ps.toList.drop 1)).all (fun (a, next) => a.1 < next.1) = true) (ho : Op.lookupswitch.offset ps.toList dflt a = off) (ht : (pc : Int) + off = (tgt : Int))
    (k : W p l e R s m args below meth c H locs cells slots Q (F0 m tgt ls rest)) : W p l e R s m args below meth c H locs cells slots Q (F0 m pc ls (cI a :: rest)) :=
  lv_lookup X.1 X.2.1 hdg hp (by rw [inR_ofInt ha]; exact ho) ht k
/-! longs -/
theorem r_i2l (X : CallFix p m c cc nL s args Ts own) {a : Int} (ha : inR a) (hdg : decode cc pc = .ok (.i2l, 1)) (k : W p l e R s m args below meth c H locs cells slots Q (F0 m (pc + 1) ls (cL a :: rest))) : W p l e R s m args below meth c H locs cells slots Q (F0 m pc ls (cI a :: rest)) := lv_i2l X.1 X.2.1 hdg (cI_i2l ha) k
theorem r_lconst (X : CallFix p m c cc nL s args Ts own) {n : Fin 2} {v : Int} (hdg : decode cc pc = .ok (.lconst n, 1)) (hv : Int64.ofNat (n : Nat) = Int64.ofInt v) (k : W p l e R s m args below meth c H locs cells slots Q (F0 m (pc + 1) ls (cL v :: rest))) : W p l e R s m args below meth c H locs cells slots Q (F0 m pc ls rest) := lv_lconst X.1 X.2.1 hdg hv k
theorem r_lsub (X : CallFix p m c cc nL s args Ts own) {a b : Int} (hdg : decode cc pc = .ok (.lsub, 1)) (k : W p l e R s m args below meth c H locs cells slots Q (F0 m (pc + 1) ls (cL (a - b) :: rest))) : W p l e R s m args below meth c H locs cells slots Q (F0 m pc ls (cL b :: cL a :: rest)) := lv_lsub X.1 X.2.1 hdg (by rw [← Int64.ofInt_sub]; exact k)
theorem r_ldc2 (X : CallFix p m c cc nL s args Ts own) {index : Nat} {v : Int} (hc : Cond.constantLong own index (Int64.ofInt v) ∈ Ts) (hdg : decode cc pc = .ok (.ldc2_w index, 3)) (k : W p l e R s m args below meth c H locs cells slots Q (F0 m (pc + 3) ls (cL v :: rest))) : W p l e R s m args below meth c H locs cells slots Q (F0 m pc ls rest) := lv_ldc2 X.1 X.2.1 X.2.2.2.1 (X.2.2.2.2 _ hc) hdg k
theorem cL_lt {x y : Int} (hx : inL x) (hy : inL y) : Int64.ofInt x < Int64.ofInt y ↔ x < y := by
  rw [Int64.lt_iff_toInt_lt, inL_ofInt hx, inL_ofInt hy]
theorem cL_eq {x y : Int} (hx : inL x) (hy : inL y) : Int64.ofInt x = Int64.ofInt y ↔ x = y := by
  constructor
  · intro h
    have h2 := congrArg Int64.toInt h
    rwa [inL_ofInt hx, inL_ofInt hy] at h2
  · intro h; rw [h]
theorem r_lcmp (X : CallFix p m c cc nL s args Ts own) {a b : Int} (ha : inL a) (hb : inL b) (hdg : decode cc pc = .ok (.lcmp, 1))
    (k : ∀ r : Int, inR r → (a < b ↔ r < 0) → (b < a ↔ 0 < r) → W p l e R s m args below meth c H locs cells slots Q (F0 m (pc + 1) ls (cI r :: rest))) : W p l e R s m args below meth c H locs cells slots Q (F0 m pc ls (cL b :: cL a :: rest)) := by
  refine W.lcmp X.1 X.2.1 hdg ?_
  unfold lg_cmp
  rcases Int.lt_trichotomy a b with h | h | h
  · rw [if_neg (by show ¬ Int64.ofInt b < Int64.ofInt a; rw [cL_lt hb ha]; omega), if_neg (by rw [cL_eq ha hb]; omega)]
    exact k (-1) ⟨by decide, by decide⟩ (by omega) (by omega)
  · rw [if_neg (by show ¬ Int64.ofInt b < Int64.ofInt a; rw [cL_lt hb ha]; omega), if_pos (by rw [cL_eq ha hb]; omega)]
    exact k 0 ⟨by decide, by decide⟩ (by omega) (by omega)
  · rw [if_pos (by show Int64.ofInt b < Int64.ofInt a; rw [cL_lt hb ha]; omega)]
    exact k 1 ⟨by decide, by decide⟩ (by omega) (by omega)
end ROWS
