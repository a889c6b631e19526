section
/-! a call over a part of what a constructor has made -/
variable {p : Program} {l : Launch} {e : Env} {R : Room} {s : State} {m : MethodId} {args : Array Value} {below : List Frame} {meth : Method} {c : Code} {H H0 : Heap} {locs : List Loc} {cells slots : Nat} {Q : State → Prop} {pc : Nat} {ls : Array Slot} {st0 rest : List Value} {A : Nat → Prop} {E : EE} {g : GG} {ad : Nat → Nat} {M : Mm} {cc : ByteArray} {nL : Nat} {Ts : List Cond} {own : String}
theorem k_call {Q1 : Mm → Prop} {a : Array Value} (hD : va_D A (wd E g ad M)) (hS : va_S A H0 H locs) (hr : va_Run p l e R s m args below meth c H locs cells slots 0 0 (F0 m pc ls st0) rest (QV E g ad Q1 a) (Rg g ad))
    (kk : ∀ (M' : Mm) (H1 : Heap) (locs1 : List Loc), Q1 M' → va_P E.1 vwCl (wd E g ad M') H1 → va_D A (wd E g ad M') → va_S A H0 H1 locs1 → W p l e R s m args below meth c H1 locs1 cells slots Q (F0 m (pc + 3) ls rest)) : W p l e R s m args below meth c H locs cells slots Q (F0 m pc ls st0) := by
  have hRA : ∀ x, Rg g ad x → A x := fun x h => by
    obtain ⟨o, ho, rfl⟩ := h
    exact hD.2 o _ (wd_get ho)
  refine va_callv hr hS (fun x _ h => hRA x h) hRA (fun M' t H1 locs1 ht hvm hq hB hz hk hS1 => ?_)
  refine kk M' H1 locs1 hq (by rw [← ht]; exact hB.1) ⟨hB.2.1.1, fun k q hk => ?_⟩ hS1
  obtain ⟨h1, h2⟩ := wd_inv hk
  rw [h2]
  have h3 : A (ad k) := hD.2 k _ (wd_get (E := E) (ad := ad) (M := M) h1)
  exact h3
theorem k_getr {C : String} {T : u_T} {N ci index o : Nat} (X : CallFix p m c cc nL s args Ts own) (K : Kn E s) (hP : va_P E.1 vwCl (wd E g ad M) H) (hin : ∀ w ∈ u_ws C T N, w ∈ Ts) (ho : gk g o = ci) (hc : vwCl[ci]? = some (C, T, N)) (h9 : ci < 9) (k : Nat) (hk : k < N) {d : Nat} (hs : (sh ci)[k]? = some (some d)) (hT : (T k).1 = C) (hlink : Cond.fieldLink own index C (T k).2.1 (T k).2.2.1 ∈ Ts) (hdg : decode cc pc = .ok (.getfield index, 3))
    (kk : W p l e R s m args below meth c H locs cells slots Q (F0 m (pc + 3) ls (.ref (ad (o + d)) :: rest))) : W p l e R s m args below meth c H locs cells slots Q (F0 m pc ls (.ref (ad o) :: rest)) :=
  va_get (D := E.1) (ci := ci) (v := .ref (ad (o + d))) (C := C) (T := T) (N := N) X.1 X.2.1 X.2.2.2.2 hin X.2.2.2.1 K.1 hP o (wd_obj ho h9) hc k hk (X.2.2.2.2 _ hlink) (fun _ q => by rw [← hT]; exact q) (fv_get_r _ 0 k d hs) hdg kk
theorem k_w (hP : va_P E.1 vwCl (wd E g ad M) H) (hD : va_D A (wd E g ad M)) : Rw E g ad M H H [] := ⟨hP, wd_D hD, va_S.rf⟩
theorem put_g {o : Nat} {x v : Int} {Q1 : Mm → Prop} (hg : gwf g) (h0 : 0 ≤ x) (h1 : x < gl g (o + 1)) (k : Q1 (mu M (o + 1) x v)) : p_X4_put g o x v M Q1 := by
  have := hg.2 (o + 1)
  unfold p_X4_put
  exact ⟨inR_s (by omega) (by omega), fun h => absurd h (by omega), fun _ => ⟨inR_s (by omega) (by omega), fun h => absurd h (by omega), fun _ => ⟨h0, h1, fun M3 e => by rw [e]; exact k⟩⟩⟩
end
