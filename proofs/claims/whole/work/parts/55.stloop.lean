section
/-! State: its constructor's loops -/
set_option maxRecDepth 20000 in
theorem ggX5_init_X4_init : GoodIn wsX5_init wsX4_init := goodIn_r _ [23, 24, 2, 3, 25, 26, 27, 28, 29, 30, 47] (by decide +kernel) (by decide +kernel)
set_option maxRecDepth 20000 in
theorem gX5_init_X4_init : GoodIn wsX5_init (wsX4_init) := ggX5_init_X4_init
set_option maxRecDepth 20000 in
theorem ggX5_init_X0_init : GoodIn wsX5_init wsX0_init := goodIn_r _ [33, 34, 2, 3, 35, 36, 37, 5, 6, 38, 39, 40, 41, 42, 22, 23, 24, 25, 26, 27, 28, 29, 30, 59, 60, 61, 62, 63, 64, 47] (by decide +kernel) (by decide +kernel)
set_option maxRecDepth 20000 in
theorem gX5_init_X0_init : GoodIn wsX5_init (wsX0_init) := ggX5_init_X0_init
set_option maxRecDepth 20000 in
theorem ggX5_init_X4_put : GoodIn wsX5_init wsX4_put := goodIn_r _ [46, 30, 47] (by decide +kernel) (by decide +kernel)
set_option maxRecDepth 20000 in
theorem gX5_init_X4_put : GoodIn wsX5_init (wsV RX5 55 RX4 yX4_put wsX4_put) := goodIn_app (goodIn_of _ (by decide +kernel)) ggX5_init_X4_put
theorem dX5_init_0 : decode cX5_init 0 = .ok (.aload_n 0, 1) := by decide +kernel
theorem dX5_init_1 : decode cX5_init 1 = .ok (.invokespecial 3, 3) := by decide +kernel
theorem dX5_init_4 : decode cX5_init 4 = .ok (.aload_n 0, 1) := by decide +kernel
theorem dX5_init_5 : decode cX5_init 5 = .ok (.new 9, 3) := by decide +kernel
theorem dX5_init_8 : decode cX5_init 8 = .ok (.dup, 1) := by decide +kernel
theorem dX5_init_9 : decode cX5_init 9 = .ok (.bipush 10, 2) := by decide +kernel
theorem dX5_init_11 : decode cX5_init 11 = .ok (.invokespecial 11, 3) := by decide +kernel
theorem dX5_init_14 : decode cX5_init 14 = .ok (.putfield 14, 3) := by decide +kernel
theorem dX5_init_17 : decode cX5_init 17 = .ok (.aload_n 0, 1) := by decide +kernel
theorem dX5_init_18 : decode cX5_init 18 = .ok (.new 9, 3) := by decide +kernel
theorem dX5_init_21 : decode cX5_init 21 = .ok (.dup, 1) := by decide +kernel
theorem dX5_init_22 : decode cX5_init 22 = .ok (.bipush 10, 2) := by decide +kernel
theorem dX5_init_24 : decode cX5_init 24 = .ok (.invokespecial 11, 3) := by decide +kernel
theorem dX5_init_27 : decode cX5_init 27 = .ok (.putfield 20, 3) := by decide +kernel
theorem dX5_init_30 : decode cX5_init 30 = .ok (.aload_n 0, 1) := by decide +kernel
theorem dX5_init_31 : decode cX5_init 31 = .ok (.new 9, 3) := by decide +kernel
theorem dX5_init_34 : decode cX5_init 34 = .ok (.dup, 1) := by decide +kernel
theorem dX5_init_35 : decode cX5_init 35 = .ok (.bipush 10, 2) := by decide +kernel
theorem dX5_init_37 : decode cX5_init 37 = .ok (.invokespecial 11, 3) := by decide +kernel
theorem dX5_init_40 : decode cX5_init 40 = .ok (.putfield 23, 3) := by decide +kernel
theorem dX5_init_43 : decode cX5_init 43 = .ok (.aload_n 0, 1) := by decide +kernel
theorem dX5_init_44 : decode cX5_init 44 = .ok (.new 9, 3) := by decide +kernel
theorem dX5_init_47 : decode cX5_init 47 = .ok (.dup, 1) := by decide +kernel
theorem dX5_init_48 : decode cX5_init 48 = .ok (.iconst 4, 1) := by decide +kernel
theorem dX5_init_49 : decode cX5_init 49 = .ok (.invokespecial 11, 3) := by decide +kernel
theorem dX5_init_52 : decode cX5_init 52 = .ok (.putfield 26, 3) := by decide +kernel
theorem dX5_init_55 : decode cX5_init 55 = .ok (.aload_n 0, 1) := by decide +kernel
theorem dX5_init_56 : decode cX5_init 56 = .ok (.new 29, 3) := by decide +kernel
theorem dX5_init_59 : decode cX5_init 59 = .ok (.dup, 1) := by decide +kernel
theorem dX5_init_60 : decode cX5_init 60 = .ok (.bipush 40, 2) := by decide +kernel
theorem dX5_init_62 : decode cX5_init 62 = .ok (.invokespecial 31, 3) := by decide +kernel
theorem dX5_init_65 : decode cX5_init 65 = .ok (.putfield 32, 3) := by decide +kernel
theorem dX5_init_68 : decode cX5_init 68 = .ok (.aload_n 0, 1) := by decide +kernel
theorem dX5_init_69 : decode cX5_init 69 = .ok (.iconst 2, 1) := by decide +kernel
theorem dX5_init_70 : decode cX5_init 70 = .ok (.putfield 36, 3) := by decide +kernel
theorem dX5_init_73 : decode cX5_init 73 = .ok (.aload_n 0, 1) := by decide +kernel
theorem dX5_init_74 : decode cX5_init 74 = .ok (.iconst 2, 1) := by decide +kernel
theorem dX5_init_75 : decode cX5_init 75 = .ok (.putfield 40, 3) := by decide +kernel
theorem dX5_init_78 : decode cX5_init 78 = .ok (.aload_n 0, 1) := by decide +kernel
theorem dX5_init_79 : decode cX5_init 79 = .ok (.iconst 0, 1) := by decide +kernel
theorem dX5_init_80 : decode cX5_init 80 = .ok (.putfield 43, 3) := by decide +kernel
theorem dX5_init_83 : decode cX5_init 83 = .ok (.aload_n 0, 1) := by decide +kernel
theorem dX5_init_84 : decode cX5_init 84 = .ok (.iconst 0, 1) := by decide +kernel
theorem dX5_init_85 : decode cX5_init 85 = .ok (.putfield 46, 3) := by decide +kernel
theorem dX5_init_88 : decode cX5_init 88 = .ok (.aload_n 0, 1) := by decide +kernel
theorem dX5_init_89 : decode cX5_init 89 = .ok (.iconst 0, 1) := by decide +kernel
theorem dX5_init_90 : decode cX5_init 90 = .ok (.putfield 49, 3) := by decide +kernel
theorem dX5_init_93 : decode cX5_init 93 = .ok (.aload_n 0, 1) := by decide +kernel
theorem dX5_init_94 : decode cX5_init 94 = .ok (.iconst 0, 1) := by decide +kernel
theorem dX5_init_95 : decode cX5_init 95 = .ok (.putfield 52, 3) := by decide +kernel
theorem dX5_init_98 : decode cX5_init 98 = .ok (.iconst 0, 1) := by decide +kernel
theorem dX5_init_99 : decode cX5_init 99 = .ok (.istore_n 1, 1) := by decide +kernel
theorem dX5_init_100 : decode cX5_init 100 = .ok (.iload_n 1, 1) := by decide +kernel
theorem dX5_init_101 : decode cX5_init 101 = .ok (.bipush 10, 2) := by decide +kernel
theorem dX5_init_103 : decode cX5_init 103 = .ok (.if_icmp .ge 38, 3) := by decide +kernel
theorem dX5_init_106 : decode cX5_init 106 = .ok (.aload_n 0, 1) := by decide +kernel
theorem dX5_init_107 : decode cX5_init 107 = .ok (.getfield 14, 3) := by decide +kernel
theorem dX5_init_110 : decode cX5_init 110 = .ok (.iload_n 1, 1) := by decide +kernel
theorem dX5_init_111 : decode cX5_init 111 = .ok (.iload_n 1, 1) := by decide +kernel
theorem dX5_init_112 : decode cX5_init 112 = .ok (.iconst 5, 1) := by decide +kernel
theorem dX5_init_113 : decode cX5_init 113 = .ok (.irem, 1) := by decide +kernel
theorem dX5_init_114 : decode cX5_init 114 = .ok (.invokevirtual 55, 3) := by decide +kernel
theorem dX5_init_117 : decode cX5_init 117 = .ok (.aload_n 0, 1) := by decide +kernel
theorem dX5_init_118 : decode cX5_init 118 = .ok (.getfield 20, 3) := by decide +kernel
theorem dX5_init_121 : decode cX5_init 121 = .ok (.iload_n 1, 1) := by decide +kernel
theorem dX5_init_122 : decode cX5_init 122 = .ok (.iconst 5, 1) := by decide +kernel
theorem dX5_init_123 : decode cX5_init 123 = .ok (.invokevirtual 55, 3) := by decide +kernel
theorem dX5_init_126 : decode cX5_init 126 = .ok (.aload_n 0, 1) := by decide +kernel
theorem dX5_init_127 : decode cX5_init 127 = .ok (.getfield 23, 3) := by decide +kernel
theorem dX5_init_130 : decode cX5_init 130 = .ok (.iload_n 1, 1) := by decide +kernel
theorem dX5_init_131 : decode cX5_init 131 = .ok (.iconst 1, 1) := by decide +kernel
theorem dX5_init_132 : decode cX5_init 132 = .ok (.invokevirtual 55, 3) := by decide +kernel
theorem dX5_init_135 : decode cX5_init 135 = .ok (.iinc 1 1, 3) := by decide +kernel
theorem dX5_init_138 : decode cX5_init 138 = .ok (.goto (-38), 3) := by decide +kernel
theorem dX5_init_141 : decode cX5_init 141 = .ok (.iconst 0, 1) := by decide +kernel
theorem dX5_init_142 : decode cX5_init 142 = .ok (.istore_n 1, 1) := by decide +kernel
theorem dX5_init_143 : decode cX5_init 143 = .ok (.iload_n 1, 1) := by decide +kernel
theorem dX5_init_144 : decode cX5_init 144 = .ok (.iconst 4, 1) := by decide +kernel
theorem dX5_init_145 : decode cX5_init 145 = .ok (.if_icmp .ge 18, 3) := by decide +kernel
theorem dX5_init_148 : decode cX5_init 148 = .ok (.aload_n 0, 1) := by decide +kernel
theorem dX5_init_149 : decode cX5_init 149 = .ok (.getfield 26, 3) := by decide +kernel
theorem dX5_init_152 : decode cX5_init 152 = .ok (.iload_n 1, 1) := by decide +kernel
theorem dX5_init_153 : decode cX5_init 153 = .ok (.iload_n 1, 1) := by decide +kernel
theorem dX5_init_154 : decode cX5_init 154 = .ok (.invokevirtual 55, 3) := by decide +kernel
theorem dX5_init_157 : decode cX5_init 157 = .ok (.iinc 1 1, 3) := by decide +kernel
theorem dX5_init_160 : decode cX5_init 160 = .ok (.goto (-17), 3) := by decide +kernel
theorem dX5_init_163 : decode cX5_init 163 = .ok (.return_, 1) := by decide +kernel
def gSta : GG := [(5, 0), (4, 0), (9, 10), (4, 0), (9, 10), (4, 0), (9, 10), (4, 0), (9, 4), (0, 0), (4, 0), (9, 40), (4, 0), (9, 40), (4, 0), (9, 40), (4, 0), (9, 40)]
theorem gSta_wf : gwf gSta := gwf_of (by decide +kernel)
/-- a new state, i and j steps of its loops done -/
def MS (i j : Int) : Mm := fun o k => if o = 0 then (if k = 5 ∨ k = 6 then 2 else 0) else if o = 2 then (if 0 ≤ k ∧ k < i then k % 5 else 0) else if o = 4 then (if 0 ≤ k ∧ k < i then 5 else 0) else if o = 6 then (if 0 ≤ k ∧ k < i then 1 else 0) else if o = 8 then (if 0 ≤ k ∧ k < j then k else 0) else if o = 9 then (if k = 0 then 40 else 0) else 0
theorem MS_1 {i j : Int} (hi : 0 ≤ i) : mu (mu (mu (MS i j) 2 i (i % 5)) 4 i 5) 6 i 1 = MS (i + 1) j := by
  funext o k
  unfold mu MS
  by_cases h6 : o = 6
  · subst h6
    by_cases hk : k = i
    · simp [hk]; omega
    · simp [hk]
      by_cases h : 0 ≤ k ∧ k < i
      · rw [if_pos h, if_pos (by omega)]
      · rw [if_neg h, if_neg (by omega)]
  · by_cases h4 : o = 4
    · subst h4
      by_cases hk : k = i
      · simp [hk]; omega
      · simp [hk]
        by_cases h : 0 ≤ k ∧ k < i
        · rw [if_pos h, if_pos (by omega)]
        · rw [if_neg h, if_neg (by omega)]
    · by_cases h2 : o = 2
      · subst h2
        by_cases hk : k = i
        · simp [hk]; omega
        · simp [hk]
          by_cases h : 0 ≤ k ∧ k < i
          · rw [if_pos h, if_pos (by omega)]
          · rw [if_neg h, if_neg (by omega)]
      · simp [h6, h4, h2]
theorem MS_2 {i j : Int} (hj : 0 ≤ j) : mu (MS i j) 8 j j = MS i (j + 1) := by
  funext o k
  unfold mu MS
  by_cases h8 : o = 8
  · subst h8
    by_cases hk : k = j
    · simp [hk]; omega
    · simp [hk]
      by_cases h : 0 ≤ k ∧ k < j
      · rw [if_pos h, if_pos (by omega)]
      · rw [if_neg h, if_neg (by omega)]
  · simp [h8]
def rmSta : Room := { frames := 4, cells := 17, slots := 208, locals := 110 }
section
variable {p : Program} {l : Launch} {e : Env} {s : State} {m : MethodId} {args : Array Value} {below : List Frame} {meth : Method} {c : Code} {H0 : Heap} {cells slots : Nat} {Q : State → Prop} {A : Nat → Prop} {E : EE} {ad : Nat → Nat}
set_option maxHeartbeats 4000000 in
set_option maxRecDepth 100000 in
theorem st_l2 (X : CallFix p m c cX5_init 2 s args wsX5_init RX5) (K : Kn E s) (hc : cells ≤ 17) (hs : slots ≤ 208) (kk : ∀ (ls : Array Slot) (H : Heap) (locs : List Loc), va_P E.1 vwCl (wd E gSta ad (MS 10 4)) H → va_D A (wd E gSta ad (MS 10 4)) → va_S A H0 H locs → W p l e (headSpec wsX5_init rmSta).room s m args below meth c H locs cells slots Q (F0 m 163 ls [])) : ∀ (f i : Nat) (ls : Array Slot) (H : Heap) (locs : List Loc), i ≤ 4 → 4 - i < f → lv_has ls 2 [(1, cI (i : Int)), (0, .ref (ad 0))] → va_P E.1 vwCl (wd E gSta ad (MS 10 i)) H → va_D A (wd E gSta ad (MS 10 i)) → va_S A H0 H locs → W p l e (headSpec wsX5_init rmSta).room s m args below meth c H locs cells slots Q (F0 m 143 ls []) := by
  intro f
  induction f with
  | zero => intro i ls H locs h1 h2; omega
  | succ f ih =>
    intro i ls H locs hi hf hl hP hD hS
    refine lv_iload_n X.1 X.2.1 dX5_init_143 rfl (lv_at hl 0 rfl) ?_
    refine r_iconst X dX5_init_144 ?_
    refine r_icmp_ge (tgt := 163) X (inR_s (by omega) (by omega)) (inR_s (by omega) (by omega)) dX5_init_145 (by decide) (fun hge => ?_) (fun hlt => ?_)
    · have : i = 4 := by omega
      subst this
      exact kk ls H locs hP hD hS
    · refine lv_aload_n X.1 X.2.1 dX5_init_148 rfl (lv_at hl 1 rfl) ?_
      refine k_getr (N := 11) (T := TX5) (o := 0) (ci := 5) X K hP (by decide +kernel) (by decide +kernel) rfl (by decide) 3 (by decide) rfl rfl (by decide +kernel) dX5_init_149 ?_
      refine lv_iload_n X.1 X.2.1 dX5_init_152 rfl (lv_at hl 0 rfl) ?_
      refine lv_iload_n X.1 X.2.1 dX5_init_153 rfl (lv_at hl 0 rfl) ?_
      refine k_call hD hS (va_runV (As := [cI (i : Int), cI (i)]) (rest := []) X (c_X4_put gSta_wf (o0 := 7) (x1 := (i : Int)) (x2 := i) (by decide +kernel) (put_g (Q1 := fun M2 => M2 = mu (MS 10 i) 8 i (i)) gSta_wf (by omega) (by show (i : Int) < 4; omega) rfl)) (cwV 2 X.2.2.2.2 gX5_init_X4_put rfl rfl rfl (by decide +kernel) ⟨Nat.le_of_ble_eq_true rfl, Nat.le_of_ble_eq_true rfl⟩) ((k_w hP hD).preV (ci := 4) K (by decide +kernel) (by decide) rfl) rfl rfl hl.1 rfl (lv_room (Nat.le_of_ble_eq_true rfl)) dX5_init_154 ⟨hc, hs⟩) (fun M2 H locs hM hP hD hS => ?_)
      subst hM
      rw [MS_2 (by omega)] at hP hD
      refine r_iinc (lv' := [(1, cI ((i + 1 : Nat) : Int)), (0, .ref (ad 0))]) X hl (k := 0) rfl (by decide) dX5_init_157 rfl (fun ls hl => ?_)
      refine lv_goto (tgt := 143) X.1 X.2.1 dX5_init_160 (by decide) ?_
      exact ih (i + 1) ls H locs (by omega) (by omega) hl hP hD hS
set_option maxHeartbeats 4000000 in
set_option maxRecDepth 100000 in
theorem st_l1 (X : CallFix p m c cX5_init 2 s args wsX5_init RX5) (K : Kn E s) (hc : cells ≤ 17) (hs : slots ≤ 208) (kk : ∀ (ls : Array Slot) (H : Heap) (locs : List Loc), lv_has ls 2 [(0, .ref (ad 0))] → va_P E.1 vwCl (wd E gSta ad (MS 10 0)) H → va_D A (wd E gSta ad (MS 10 0)) → va_S A H0 H locs → W p l e (headSpec wsX5_init rmSta).room s m args below meth c H locs cells slots Q (F0 m 141 ls [])) : ∀ (f i : Nat) (ls : Array Slot) (H : Heap) (locs : List Loc), i ≤ 10 → 10 - i < f → lv_has ls 2 [(1, cI (i : Int)), (0, .ref (ad 0))] → va_P E.1 vwCl (wd E gSta ad (MS i 0)) H → va_D A (wd E gSta ad (MS i 0)) → va_S A H0 H locs → W p l e (headSpec wsX5_init rmSta).room s m args below meth c H locs cells slots Q (F0 m 100 ls []) := by
  intro f
  induction f with
  | zero => intro i ls H locs h1 h2; omega
  | succ f ih =>
    intro i ls H locs hi hf hl hP hD hS
    refine lv_iload_n X.1 X.2.1 dX5_init_100 rfl (lv_at hl 0 rfl) ?_
    refine r_bipush X dX5_init_101 (by decide) ?_
    refine r_icmp_ge (tgt := 141) X (inR_s (by omega) (by omega)) (inR_s (by omega) (by omega)) dX5_init_103 (by decide) (fun hge => ?_) (fun hlt => ?_)
    · have : i = 10 := by omega
      subst this
      exact kk ls H locs (lv_sub hl [1] rfl) hP hD hS
    · refine lv_aload_n X.1 X.2.1 dX5_init_106 rfl (lv_at hl 1 rfl) ?_
      refine k_getr (N := 11) (T := TX5) (o := 0) (ci := 5) X K hP (by decide +kernel) (by decide +kernel) rfl (by decide) 0 (by decide) rfl rfl (by decide +kernel) dX5_init_107 ?_
      refine lv_iload_n X.1 X.2.1 dX5_init_110 rfl (lv_at hl 0 rfl) ?_
      refine lv_iload_n X.1 X.2.1 dX5_init_111 rfl (lv_at hl 0 rfl) ?_
      refine r_iconst X dX5_init_112 ?_
      refine r_iremW X (by omega) (inR_s (by omega) (by omega)) (by decide) (inR_s (by omega) (by omega)) dX5_init_113 ?_
      refine k_call hD hS (va_runV (As := [cI (i : Int), cI ((i : Int) % 5)]) (rest := []) X (c_X4_put gSta_wf (o0 := 1) (x1 := (i : Int)) (x2 := (i : Int) % 5) (by decide +kernel) (put_g (Q1 := fun M2 => M2 = mu (MS i 0) 2 i ((i : Int) % 5)) gSta_wf (by omega) (by show (i : Int) < 10; omega) rfl)) (cwV 2 X.2.2.2.2 gX5_init_X4_put rfl rfl rfl (by decide +kernel) ⟨Nat.le_of_ble_eq_true rfl, Nat.le_of_ble_eq_true rfl⟩) ((k_w hP hD).preV (ci := 4) K (by decide +kernel) (by decide) rfl) rfl rfl hl.1 rfl (lv_room (Nat.le_of_ble_eq_true rfl)) dX5_init_114 ⟨hc, hs⟩) (fun M2 H locs hM hP hD hS => ?_)
      subst hM
      refine lv_aload_n X.1 X.2.1 dX5_init_117 rfl (lv_at hl 1 rfl) ?_
      refine k_getr (N := 11) (T := TX5) (o := 0) (ci := 5) X K hP (by decide +kernel) (by decide +kernel) rfl (by decide) 1 (by decide) rfl rfl (by decide +kernel) dX5_init_118 ?_
      refine lv_iload_n X.1 X.2.1 dX5_init_121 rfl (lv_at hl 0 rfl) ?_
      refine r_iconst X dX5_init_122 ?_
      refine k_call hD hS (va_runV (As := [cI (i : Int), cI (5)]) (rest := []) X (c_X4_put gSta_wf (o0 := 3) (x1 := (i : Int)) (x2 := 5) (by decide +kernel) (put_g (Q1 := fun M2 => M2 = mu (mu (MS i 0) 2 i ((i : Int) % 5)) 4 i (5)) gSta_wf (by omega) (by show (i : Int) < 10; omega) rfl)) (cwV 2 X.2.2.2.2 gX5_init_X4_put rfl rfl rfl (by decide +kernel) ⟨Nat.le_of_ble_eq_true rfl, Nat.le_of_ble_eq_true rfl⟩) ((k_w hP hD).preV (ci := 4) K (by decide +kernel) (by decide) rfl) rfl rfl hl.1 rfl (lv_room (Nat.le_of_ble_eq_true rfl)) dX5_init_123 ⟨hc, hs⟩) (fun M2 H locs hM hP hD hS => ?_)
      subst hM
      refine lv_aload_n X.1 X.2.1 dX5_init_126 rfl (lv_at hl 1 rfl) ?_
      refine k_getr (N := 11) (T := TX5) (o := 0) (ci := 5) X K hP (by decide +kernel) (by decide +kernel) rfl (by decide) 2 (by decide) rfl rfl (by decide +kernel) dX5_init_127 ?_
      refine lv_iload_n X.1 X.2.1 dX5_init_130 rfl (lv_at hl 0 rfl) ?_
      refine r_iconst X dX5_init_131 ?_
      refine k_call hD hS (va_runV (As := [cI (i : Int), cI (1)]) (rest := []) X (c_X4_put gSta_wf (o0 := 5) (x1 := (i : Int)) (x2 := 1) (by decide +kernel) (put_g (Q1 := fun M2 => M2 = mu (mu (mu (MS i 0) 2 i ((i : Int) % 5)) 4 i 5) 6 i (1)) gSta_wf (by omega) (by show (i : Int) < 10; omega) rfl)) (cwV 2 X.2.2.2.2 gX5_init_X4_put rfl rfl rfl (by decide +kernel) ⟨Nat.le_of_ble_eq_true rfl, Nat.le_of_ble_eq_true rfl⟩) ((k_w hP hD).preV (ci := 4) K (by decide +kernel) (by decide) rfl) rfl rfl hl.1 rfl (lv_room (Nat.le_of_ble_eq_true rfl)) dX5_init_132 ⟨hc, hs⟩) (fun M2 H locs hM hP hD hS => ?_)
      subst hM
      rw [MS_1 (by omega)] at hP hD
      refine r_iinc (lv' := [(1, cI ((i + 1 : Nat) : Int)), (0, .ref (ad 0))]) X hl (k := 0) rfl (by decide) dX5_init_135 rfl (fun ls hl => ?_)
      refine lv_goto (tgt := 100) X.1 X.2.1 dX5_init_138 (by decide) ?_
      exact ih (i + 1) ls H locs (by omega) (by omega) hl hP hD hS
end
end
