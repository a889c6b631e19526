section
/-! the law's loop -/
set_option maxHeartbeats 4000000 in
set_option maxRecDepth 100000 in
theorem law_loop {p : Program} {l : Launch} {e : Env} {s : State} {m : MethodId} {below : List Frame} {meth : Method} {c : Code} {cells slots : Nat} {E : EE} {ad bd : Nat → Nat} {b L : Nat} {xs : Nat → Int32} (G : LG p s m c E b L xs) (hr : meth.sig.returnType = ret) (hlocks : meth.locks = false) (hf : cells ≤ 600000 ∧ slots ≤ 7302250) :
    ∀ (n i : Nat) (M N : Mm) (H : Heap) (locs : List Loc) (ls : Array Slot), i ≤ L + 4 → L + 4 < i + n → INV M N → lv_has ls 4 (LV b (ad 0) (bd 0) i) → va_P E.1 vwCl (wd E gC ad M ++ wd E gM bd N) H → va_D (Fr s) (wd E gC ad M ++ wd E gM bd N) → va_S (Fr s) s.heap H locs → W p l e room_1 s m #[Value.ref b] below meth c H locs cells slots (lw_Z below #[Value.ref b] s) (F0 m 18 ls []) := by
  intro n
  induction n with
  | zero => intro i M N H locs ls h1 h2; omega
  | succ n ih =>
    intro i M N H locs ls h1 h2 hI hl hP hD hS
    have X := G.1
    have hX := G.2.2.1
    have hbl := G.2.2.2.1
    have hL := G.2.2.2.2
    refine lv_iload_n X.1 X.2.1 dL_law_18 rfl (lv_at hl 3 rfl) ?_
    refine lv_aload_n X.1 X.2.1 dL_law_19 rfl (lv_at hl 0 rfl) ?_
    refine va_slen X.1 X.2.1 hX hbl (Nat.not_le.mpr hbl) hS dL_law_20 ?_
    refine r_iconst X dL_law_21 ?_
    refine r_isub (a := (L : Int)) (b := 4) X dL_law_22 ?_
    refine r_icmp_gt (a := (i : Int)) (b := (L : Int) - 4) (tgt := 660) X (inR_s (by omega) (by omega)) (inR_s (by omega) (by omega)) dL_law_23 (by decide) (fun hgt => ?_) (fun hle => ?_)
    · refine r_iconst X dL_law_660 ?_
      refine va_forget (fun q hq => hS.2.2 q hq) ?_
      refine W.widen (k := 600000) (n := 7302250) hf.1 hf.2 ?_
      exact lw_ret X.1 X.2.1 hr hlocks dL_law_661
    · have hi : i + 4 ≤ L := by omega
      have K : LK p l e s m below meth c cells slots (lw_Z below #[Value.ref b] s) E ad bd b ls := by
        intro M1 N1 H1 locs1 hI hP hD hS
        refine r_iinc (k := 3) (lv' := [(3, cI ((i : Int) + 4)), (0, .ref b), (1, .ref (ad 0)), (2, .ref (bd 0))]) X hl rfl (by decide) dL_law_654 rfl (fun ls hl => ?_)
        refine lv_goto (tgt := 18) X.1 X.2.1 dL_law_657 (by decide) ?_
        have e4 : (i : Int) + 4 = ((i + 4 : Nat) : Int) := by omega
        rw [e4] at hl
        exact ih (i + 4) M1 N1 H1 locs1 ls (by omega) (by omega) hI (lv_sub hl [1, 2, 3, 0] rfl) hP hD hS
      refine lv_aload_n X.1 X.2.1 dL_law_26 rfl (lv_at hl 0 rfl) ?_
      refine lv_iload_n X.1 X.2.1 dL_law_27 rfl (lv_at hl 3 rfl) ?_
      refine va_sld X.1 X.2.1 hX hbl (Nat.not_le.mpr hbl) hS (cI_in2 (x := (i : Int)) (by omega) (by omega) (by omega)) dL_law_28 ?_
      refine r_bipush X dL_law_29 (by decide) ?_
      refine lv_iand X.1 X.2.1 dL_law_31 ?_
      refine lv_topi (fun z _ => ?_)
      have ez : Value.int z = cI z.toInt := by
        show Value.int z = Value.int (Int32.ofInt z.toInt)
        rw [Int32.ofInt_toInt]
      rw [ez]
      generalize hv : z.toInt = v
      have hvR : inR v := by rw [← hv]; exact inR_toInt z
      by_cases hv0 : v < 0 ∨ 21 < v
      · refine r_tabOut (tgt := 654) X hvR dL_law_32 hv0 (by decide) ?_
        exact K M N H locs hI hP hD hS
      by_cases hk0 : v = 0
      · exact r_tabIn (tgt := 136) X hvR dL_law_32 0 hk0 (by decide) (by decide) (by rfl) (by decide) (lc_setSound G hI hl hi hf hP hD hS K)
      by_cases hk1 : v = 1
      · exact r_tabIn (tgt := 179) X hvR dL_law_32 1 hk1 (by decide) (by decide) (by rfl) (by decide) (lc_setHands G hI hl hi hf hP hD hS K)
      by_cases hk2 : v = 2
      · exact r_tabIn (tgt := 202) X hvR dL_law_32 2 hk2 (by decide) (by decide) (by rfl) (by decide) (lc_send G hI hl hi hf hP hD hS K)
      by_cases hk3 : v = 3
      · exact r_tabIn (tgt := 235) X hvR dL_law_32 3 hk3 (by decide) (by decide) (by rfl) (by decide) (lc_setCarrying G hI hl hi hf hP hD hS K)
      by_cases hk4 : v = 4
      · exact r_tabIn (tgt := 258) X hvR dL_law_32 4 hk4 (by decide) (by decide) (by rfl) (by decide) (lc_readCues G hI hl hi hf hP hD hS K)
      by_cases hk5 : v = 5
      · exact r_tabIn (tgt := 271) X hvR dL_law_32 5 hk5 (by decide) (by decide) (by rfl) (by decide) (lc_removeCue G hI hl hi hf hP hD hS K)
      by_cases hk6 : v = 6
      · exact r_tabIn (tgt := 294) X hvR dL_law_32 6 hk6 (by decide) (by decide) (by rfl) (by decide) (lc_shift G hI hl hi hf hP hD hS K)
      by_cases hk7 : v = 7
      · exact r_tabIn (tgt := 327) X hvR dL_law_32 7 hk7 (by decide) (by decide) (by rfl) (by decide) (lc_cutScene G hI hl hi hf hP hD hS K)
      by_cases hk8 : v = 8
      · exact r_tabIn (tgt := 350) X hvR dL_law_32 8 hk8 (by decide) (by decide) (by rfl) (by decide) (lc_take G hI hl hi hf hP hD hS K)
      by_cases hk9 : v = 9
      · exact r_tabIn (tgt := 363) X hvR dL_law_32 9 hk9 (by decide) (by decide) (by rfl) (by decide) (lc_type G hI hl hi hf hP hD hS K)
      by_cases hk10 : v = 10
      · exact r_tabIn (tgt := 388) X hvR dL_law_32 10 hk10 (by decide) (by decide) (by rfl) (by decide) (lc_clearText G hI hl hi hf hP hD hS K)
      by_cases hk11 : v = 11
      · exact r_tabIn (tgt := 401) X hvR dL_law_32 11 hk11 (by decide) (by decide) (by rfl) (by decide) (lc_undo G hI hl hi hf hP hD hS K)
      by_cases hk12 : v = 12
      · exact r_tabIn (tgt := 414) X hvR dL_law_32 12 hk12 (by decide) (by decide) (by rfl) (by decide) (lc_keep G hI hl hi hf hP hD hS K)
      by_cases hk13 : v = 13
      · exact r_tabIn (tgt := 427) X hvR dL_law_32 13 hk13 (by decide) (by decide) (by rfl) (by decide) (lc_restore G hI hl hi hf hP hD hS K)
      by_cases hk14 : v = 14
      · exact r_tabIn (tgt := 440) X hvR dL_law_32 14 hk14 (by decide) (by decide) (by rfl) (by decide) (lc_sound G hI hl hi hf hP hD hS K)
      by_cases hk15 : v = 15
      · exact r_tabIn (tgt := 473) X hvR dL_law_32 15 hk15 (by decide) (by decide) (by rfl) (by decide) (lc_cue G hI hl hi hf hP hD hS K)
      by_cases hk16 : v = 16
      · exact r_tabIn (tgt := 506) X hvR dL_law_32 16 hk16 (by decide) (by decide) (by rfl) (by decide) (lc_hand G hI hl hi hf hP hD hS K)
      by_cases hk17 : v = 17
      · exact r_tabIn (tgt := 539) X hvR dL_law_32 17 hk17 (by decide) (by decide) (by rfl) (by decide) (lc_scene G hI hl hi hf hP hD hS K)
      by_cases hk18 : v = 18
      · exact r_tabIn (tgt := 572) X hvR dL_law_32 18 hk18 (by decide) (by decide) (by rfl) (by decide) (lc_missed G hI hl hi hf hP hD hS K)
      by_cases hk19 : v = 19
      · exact r_tabIn (tgt := 595) X hvR dL_law_32 19 hk19 (by decide) (by decide) (by rfl) (by decide) (lc_ifHands G hI hl hi hf hP hD hS K)
      by_cases hk20 : v = 20
      · exact r_tabIn (tgt := 618) X hvR dL_law_32 20 hk20 (by decide) (by decide) (by rfl) (by decide) (lc_cleanTakes G hI hl hi hf hP hD hS K)
      by_cases hk21 : v = 21
      · exact r_tabIn (tgt := 631) X hvR dL_law_32 21 hk21 (by decide) (by decide) (by rfl) (by decide) (lc_count G hI hl hi hf hP hD hS K)
      omega
end
