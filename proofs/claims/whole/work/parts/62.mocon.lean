section
/-! the reference: its constructor -/
set_option maxHeartbeats 4000000 in
set_option maxRecDepth 100000 in
theorem k_X8_init {E : EE} {l : Launch} : Cn E l yX8_init wsX8_init ({ frames := 2, cells := 17, slots := 1924, locals := 60 }) 8 gM (MN 10 4 2 2) [] 17 (1924) := by
  intro h sz
  refine Met.ofW (cc := cX8_init) (maxL := 2) (ret := none) (by decide) rfl ?_
  intro p e s m args below meth c s₁ B hml hv
  obtain ⟨rfl, hsz, hP, hK, hlt⟩ := hv
  have hx := B.exec
  have hb := B.bytes
  have hr := B.returns
  have hts := atoms_spec (ws := wsX8_init) B.pre
  have hown : s.vm.findClass RX8 = some m.cls := findClass_of_methodNamed B.named
  have hlocks := B.notSynchronized
  have hin : meth.name = "<init>" := (name_of_methodNamed B.named B.method).1
  subst hsz
  have hD := one_D (h := h) (sz := s.heap.size) (e := .inr (8, blk 8))
  generalize hAe : (fun x => x = h ∨ s.heap.size ≤ x) = A at hD ⊢
  have hA : ∀ q : Nat, s.heap.size ≤ q → A q := fun q h => by rw [← hAe]; exact Or.inr h
  have hS : va_S A s.heap s.heap [] := va_S.rf
  have hl := lv_entry ([.ref h]) (n := 2) (Nat.le_of_ble_eq_true rfl)
  rw [lg_entry_eq]
  generalize (lg_sl ([.ref h]) ++ List.replicate (2 - (lg_sl ([.ref h])).length) Slot.unset).toArray = ls at hl ⊢
  have hl : lv_has ls 2 [(0, .ref h)] := hl
  have X : CallFix p m c cX8_init 2 s _ wsX8_init RX8 := ⟨hx, hb, hml, hown, hts⟩
  refine lv_aload_n hx hb dX8_init_0 rfl (lv_at hl 0 rfl) ?_
  refine W.objInit hx hb hown (hts (.methodLink RX8 1 objectInit) (by decide +kernel)) (hts (.instanceMethod objectInit) (by decide +kernel)) (hts (.code objectInit ⟨#[0xb1]⟩ 1 none) (by decide +kernel)) rfl (by rw [hml]; exact hl.1) rfl dX8_init_1 (Nat.le_of_ble_eq_true rfl) (Nat.le_of_ble_eq_true rfl) ?_
  refine W.eq (g2 := F0 m 4 ls []) rfl ?_
  refine mo_arr X hin hK hl hP hD hS hA (fun ad H locs h0 hP hD hS => ?_)
  rw [← MN_0] at hP hD
  have hl : lv_has ls 2 [(0, .ref (ad 0))] := by rw [h0]; exact hl
  refine r_iconst X dX8_init_141 ?_
  refine lv_istore_n (lv' := [(1, cI 0), (0, .ref (ad 0))]) hx hb dX8_init_142 rfl hl (by decide) rfl (fun ls hl => ?_)
  refine mo_l1 (ad := ad) X hK (fun ls H locs hl hP hD hS => ?_) 11 0 ls H _ (by omega) (by omega) hl hP hD hS
  refine lv_aload_n hx hb dX8_init_186 rfl (lv_at hl 0 rfl) ?_
  refine k_getr (N := 25) (T := TX8) (o := 0) (ci := 8) X hK hP (by decide +kernel) (by decide +kernel) rfl (by decide) 0 (by decide) rfl rfl (by decide +kernel) dX8_init_187 ?_
  refine r_bipush X dX8_init_190 (by decide) ?_
  refine r_iconst X dX8_init_192 ?_
  refine k_iast (o := 1) X hK hP hD hS gM_wf (by decide +kernel) (by omega) (by show _ < (201 : Int); omega) dX8_init_193 (fun M2 H locs hM hP hD hS => ?_)
  subst hM
  rw [MN_2] at hP hD
  refine r_iconst X dX8_init_194 ?_
  refine lv_istore_n (lv' := [(1, cI 0), (0, .ref (ad 0))]) hx hb dX8_init_195 rfl hl (by decide) rfl (fun ls hl => ?_)
  refine mo_l2 (ad := ad) X hK (fun ls H locs hl hP hD hS => ?_) 5 0 ls H _ (by omega) (by omega) hl hP hD hS
  refine lv_aload_n hx hb dX8_init_217 rfl (lv_at hl 0 rfl) ?_
  refine k_getr (N := 25) (T := TX8) (o := 0) (ci := 8) X hK hP (by decide +kernel) (by decide +kernel) rfl (by decide) 0 (by decide) rfl rfl (by decide +kernel) dX8_init_218 ?_
  refine r_bipush X dX8_init_221 (by decide) ?_
  refine r_iconst X dX8_init_223 ?_
  refine k_iast (o := 1) X hK hP hD hS gM_wf (by decide +kernel) (by omega) (by show _ < (201 : Int); omega) dX8_init_224 (fun M2 H locs hM hP hD hS => ?_)
  subst hM
  rw [MN_4] at hP hD
  exact W.vret hx hb hr (fun t ht hW => ⟨⟨ad, rfl, h0, by rw [ht]; exact hP, hK.warm hW, hD⟩, hS.F ht⟩) hS.2.2 dX8_init_225
end
