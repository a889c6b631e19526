section
/-! the reference: its constructor's loops walked -/
variable {p : Program} {l : Launch} {e : Env} {R : Room} {s : State} {m : MethodId} {args : Array Value} {below : List Frame} {meth : Method} {c : Code} {H0 : Heap} {cells slots : Nat} {Q : State → Prop} {A : Nat → Prop} {E : EE} {ad : Nat → Nat}
set_option maxHeartbeats 4000000 in
set_option maxRecDepth 100000 in
theorem mo_l1 (X : CallFix p m c cX8_init 2 s args wsX8_init RX8) (K : Kn E s) (kk : ∀ (ls : Array Slot) (H : Heap) (locs : List Loc), lv_has ls 2 [(0, .ref (ad 0))] → va_P E.1 vwCl (wd E gM ad (MN 10 0 0 0)) H → va_D A (wd E gM ad (MN 10 0 0 0)) → va_S A H0 H locs → W p l e R s m args below meth c H locs cells slots Q (F0 m 186 ls [])) : ∀ (f i : Nat) (ls : Array Slot) (H : Heap) (locs : List Loc), i ≤ 10 → 10 - i < f → lv_has ls 2 [(1, cI (i : Int)), (0, .ref (ad 0))] → va_P E.1 vwCl (wd E gM ad (MN i 0 0 0)) H → va_D A (wd E gM ad (MN i 0 0 0)) → va_S A H0 H locs → W p l e R s m args below meth c H locs cells slots Q (F0 m 143 ls []) := by
  intro f
  induction f with
  | zero => intro i ls H locs h1 h2; omega
  | succ f ih =>
    intro i ls H locs hi hf hl hP hD hS
    refine lv_iload_n X.1 X.2.1 dX8_init_143 rfl (lv_at hl 0 rfl) ?_
    refine r_bipush X dX8_init_144 (by decide) ?_
    refine r_icmp_ge (tgt := 186) X (inR_s (by omega) (by omega)) (inR_s (by omega) (by omega)) dX8_init_146 (by decide) (fun hge => ?_) (fun hlt => ?_)
    · have : i = 10 := by omega
      subst this
      exact kk ls H locs (lv_sub hl [1] rfl) hP hD hS
    · skip
      refine lv_aload_n X.1 X.2.1 dX8_init_149 rfl (lv_at hl 1 rfl) ?_
      refine k_getr (N := 25) (T := TX8) (o := 0) (ci := 8) X K hP (by decide +kernel) (by decide +kernel) rfl (by decide) 0 (by decide) rfl rfl (by decide +kernel) dX8_init_150 ?_
      refine r_iconst X dX8_init_153 ?_
      refine lv_iload_n X.1 X.2.1 dX8_init_154 rfl (lv_at hl 0 rfl) ?_
      refine r_iadd X dX8_init_155 ?_
      refine lv_iload_n X.1 X.2.1 dX8_init_156 rfl (lv_at hl 0 rfl) ?_
      refine r_iconst X dX8_init_157 ?_
      refine r_iremW X (by omega) (inR_s (by omega) (by omega)) (by decide) (inR_s (by omega) (by omega)) dX8_init_158 ?_
      refine k_iast (o := 1) X K hP hD hS gM_wf (by decide +kernel) (by omega) (by show _ < (201 : Int); omega) dX8_init_159 (fun M2 H locs hM hP hD hS => ?_)
      subst hM
      refine lv_aload_n X.1 X.2.1 dX8_init_160 rfl (lv_at hl 1 rfl) ?_
      refine k_getr (N := 25) (T := TX8) (o := 0) (ci := 8) X K hP (by decide +kernel) (by decide +kernel) rfl (by decide) 0 (by decide) rfl rfl (by decide +kernel) dX8_init_161 ?_
      refine r_bipush X dX8_init_164 (by decide) ?_
      refine lv_iload_n X.1 X.2.1 dX8_init_166 rfl (lv_at hl 0 rfl) ?_
      refine r_iadd X dX8_init_167 ?_
      refine r_iconst X dX8_init_168 ?_
      refine k_iast (o := 1) X K hP hD hS gM_wf (by decide +kernel) (by omega) (by show _ < (201 : Int); omega) dX8_init_169 (fun M2 H locs hM hP hD hS => ?_)
      subst hM
      refine lv_aload_n X.1 X.2.1 dX8_init_170 rfl (lv_at hl 1 rfl) ?_
      refine k_getr (N := 25) (T := TX8) (o := 0) (ci := 8) X K hP (by decide +kernel) (by decide +kernel) rfl (by decide) 0 (by decide) rfl rfl (by decide +kernel) dX8_init_171 ?_
      refine r_bipush X dX8_init_174 (by decide) ?_
      refine lv_iload_n X.1 X.2.1 dX8_init_176 rfl (lv_at hl 0 rfl) ?_
      refine r_iadd X dX8_init_177 ?_
      refine r_iconst X dX8_init_178 ?_
      refine k_iast (o := 1) X K hP hD hS gM_wf (by decide +kernel) (by omega) (by show _ < (201 : Int); omega) dX8_init_179 (fun M2 H locs hM hP hD hS => ?_)
      subst hM
      rw [MN_1 (by omega) (by omega)] at hP hD
      refine r_iinc (lv' := [(1, cI ((i + 1 : Nat) : Int)), (0, .ref (ad 0))]) X hl (k := 0) rfl (by decide) dX8_init_180 rfl (fun ls hl => ?_)
      refine lv_goto (tgt := 143) X.1 X.2.1 dX8_init_183 (by decide) ?_
      exact ih (i + 1) ls H locs (by omega) (by omega) hl hP hD hS
set_option maxHeartbeats 4000000 in
set_option maxRecDepth 100000 in
theorem mo_l2 (X : CallFix p m c cX8_init 2 s args wsX8_init RX8) (K : Kn E s) (kk : ∀ (ls : Array Slot) (H : Heap) (locs : List Loc), lv_has ls 2 [(0, .ref (ad 0))] → va_P E.1 vwCl (wd E gM ad (MN 10 4 2 0)) H → va_D A (wd E gM ad (MN 10 4 2 0)) → va_S A H0 H locs → W p l e R s m args below meth c H locs cells slots Q (F0 m 217 ls [])) : ∀ (f i : Nat) (ls : Array Slot) (H : Heap) (locs : List Loc), i ≤ 4 → 4 - i < f → lv_has ls 2 [(1, cI (i : Int)), (0, .ref (ad 0))] → va_P E.1 vwCl (wd E gM ad (MN 10 i 2 0)) H → va_D A (wd E gM ad (MN 10 i 2 0)) → va_S A H0 H locs → W p l e R s m args below meth c H locs cells slots Q (F0 m 196 ls []) := by
  intro f
  induction f with
  | zero => intro i ls H locs h1 h2; omega
  | succ f ih =>
    intro i ls H locs hi hf hl hP hD hS
    refine lv_iload_n X.1 X.2.1 dX8_init_196 rfl (lv_at hl 0 rfl) ?_
    refine r_iconst X dX8_init_197 ?_
    refine r_icmp_ge (tgt := 217) X (inR_s (by omega) (by omega)) (inR_s (by omega) (by omega)) dX8_init_198 (by decide) (fun hge => ?_) (fun hlt => ?_)
    · have : i = 4 := by omega
      subst this
      exact kk ls H locs (lv_sub hl [1] rfl) hP hD hS
    · skip
      refine lv_aload_n X.1 X.2.1 dX8_init_201 rfl (lv_at hl 1 rfl) ?_
      refine k_getr (N := 25) (T := TX8) (o := 0) (ci := 8) X K hP (by decide +kernel) (by decide +kernel) rfl (by decide) 0 (by decide) rfl rfl (by decide +kernel) dX8_init_202 ?_
      refine r_bipush X dX8_init_205 (by decide) ?_
      refine lv_iload_n X.1 X.2.1 dX8_init_207 rfl (lv_at hl 0 rfl) ?_
      refine r_iadd X dX8_init_208 ?_
      refine lv_iload_n X.1 X.2.1 dX8_init_209 rfl (lv_at hl 0 rfl) ?_
      refine k_iast (o := 1) X K hP hD hS gM_wf (by decide +kernel) (by omega) (by show _ < (201 : Int); omega) dX8_init_210 (fun M2 H locs hM hP hD hS => ?_)
      subst hM
      rw [MN_3 (by omega) (by omega)] at hP hD
      refine r_iinc (lv' := [(1, cI ((i + 1 : Nat) : Int)), (0, .ref (ad 0))]) X hl (k := 0) rfl (by decide) dX8_init_211 rfl (fun ls hl => ?_)
      refine lv_goto (tgt := 196) X.1 X.2.1 dX8_init_214 (by decide) ?_
      exact ih (i + 1) ls H locs (by omega) (by omega) hl hP hD hS
end
