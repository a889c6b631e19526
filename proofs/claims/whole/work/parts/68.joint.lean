/-! PURE: both sides at once -/
def INV (M N : Mm) : Prop := ∃ (a : Int → Int) (l : List (Int → Int)) (sn : Option (Int → Int)) (tl : Int) (t : Int → Int), RC M a l sn tl t ∧ RM N a l sn tl t
theorem INV_0 : INV MC0 (MN 10 4 2 2) := ⟨a00, [], none, 0, fun _ => 0, RC_0, RM_0⟩
abbrev JJ (pm : Mm → (Int → Mm → Prop) → Prop) (N : Mm) : Int → Mm → Prop := fun r M' => pm N (fun r' N' => r = r' ∧ INV M' N')
theorem det_setSound {s w v : Int} {a : Int → Int} {l : List (Int → Int)} : ∃ (r : Int) (a' : Int → Int) (l' : List (Int → Int)), ∀ K : Int → (Int → Int) → List (Int → Int) → Prop, K r a' l' → SP_setSound s w v a l K := by
  by_cases h1 : s < 0 ∨ 10 ≤ s
  · exact ⟨-1, a, l, fun K k => ⟨fun _ => k, fun h0 h2 => absurd h1 (by omega)⟩⟩
  · by_cases h2 : okv w v
    · by_cases h3 : a (10 * w + s) = v
      · exact ⟨-5, a, l, fun K k => ⟨fun h => absurd h h1, fun _ _ => ⟨fun h => absurd h2 h, fun _ => ⟨fun _ => k, fun h => absurd h3 h⟩⟩⟩⟩
      · exact ⟨_, _, _, fun K k => ⟨fun h => absurd h h1, fun _ _ => ⟨fun h => absurd h2 h, fun _ => ⟨fun h => absurd h h3, fun _ => k⟩⟩⟩⟩
    · exact ⟨-2, a, l, fun K k => ⟨fun h => absurd h h1, fun _ _ => ⟨fun _ => k, fun h => absurd h h2⟩⟩⟩
theorem det_setCarrying {v : Int} {a : Int → Int} {l : List (Int → Int)} : ∃ (r : Int) (a' : Int → Int) (l' : List (Int → Int)), ∀ K : Int → (Int → Int) → List (Int → Int) → Prop, K r a' l' → SP_setCarrying v a l K := by
  by_cases h1 : v < 0 ∨ 20 < v
  · exact ⟨-2, a, l, fun K k => ⟨fun _ => k, fun h0 h2 => absurd h1 (by omega)⟩⟩
  · by_cases h3 : a 35 = v
    · exact ⟨-5, a, l, fun K k => ⟨fun h => absurd h h1, fun _ _ => ⟨fun _ => k, fun h => absurd h3 h⟩⟩⟩
    · exact ⟨_, _, _, fun K k => ⟨fun h => absurd h h1, fun _ _ => ⟨fun h => absurd h h3, fun _ => k⟩⟩⟩
theorem det_send {hd sh : Int} {a : Int → Int} {l : List (Int → Int)} : ∃ (r : Int) (a' : Int → Int) (l' : List (Int → Int)), ∀ K : Int → (Int → Int) → List (Int → Int) → Prop, K r a' l' → SP_send hd sh a l K := by
  by_cases h1 : hd < 0 ∨ a 30 ≤ hd ∨ sh < 0 ∨ 5 ≤ sh
  · exact ⟨-1, a, l, fun K k => ⟨fun _ => k, fun h0 h2 h3 h4 => absurd h1 (by omega)⟩⟩
  · by_cases h3 : a (31 + hd) = sh
    · exact ⟨-5, a, l, fun K k => ⟨fun h => absurd h h1, fun _ _ _ _ => ⟨fun _ => k, fun h => absurd h3 h⟩⟩⟩
    · exact ⟨_, _, _, fun K k => ⟨fun h => absurd h h1, fun _ _ _ _ => ⟨fun h => absurd h h3, fun _ => k⟩⟩⟩
theorem det_setHands {n : Int} {a : Int → Int} {l : List (Int → Int)} : ∃ (r : Int) (a' : Int → Int) (l' : List (Int → Int)), ∀ K : Int → (Int → Int) → List (Int → Int) → Prop, K r a' l' → SP_setHands n a l K := by
  by_cases h1 : n < 1 ∨ 4 < n
  · exact ⟨-2, a, l, fun K k => ⟨fun _ => k, fun h0 h2 => absurd h1 (by omega)⟩⟩
  · by_cases h3 : a 30 = n
    · exact ⟨-5, a, l, fun K k => ⟨fun h => absurd h h1, fun _ _ => ⟨fun _ => k, fun h => absurd h3 h⟩⟩⟩
    · exact ⟨_, _, _, fun K k => ⟨fun h => absurd h h1, fun _ _ => ⟨fun h => absurd h h3, fun _ => k⟩⟩⟩
theorem det_take {a : Int → Int} {l : List (Int → Int)} : ∃ (r : Int) (a' : Int → Int) (l' : List (Int → Int)), ∀ K : Int → (Int → Int) → List (Int → Int) → Prop, K r a' l' → SP_take a l K := by
  by_cases h1 : a 36 = 0
  · exact ⟨-4, a, l, fun K k => ⟨fun _ => k, fun h => absurd h1 h⟩⟩
  · exact ⟨_, _, _, fun K k => ⟨fun h => absurd h h1, fun _ => k⟩⟩
theorem det_restore {a : Int → Int} {l : List (Int → Int)} {sn : Option (Int → Int)} : ∃ (r : Int) (a' : Int → Int) (l' : List (Int → Int)), ∀ K : Int → (Int → Int) → List (Int → Int) → Prop, K r a' l' → SP_restore a l sn K := by
  cases sn with
  | none => exact ⟨-5, a, l, fun K k => ⟨fun _ => k, fun r h => by cases h⟩⟩
  | some r => exact ⟨r 36, r, push l a, fun K k => ⟨fun h => (by cases h), fun r' h => (by cases h; exact k)⟩⟩
theorem det_type {x tl : Int} {t : Int → Int} (h60 : tl ≤ 60) : ∃ (r tl' : Int) (t' : Int → Int), ∀ K : Int → Int → (Int → Int) → Prop, K r tl' t' → SP_type x tl t K := by
  by_cases h1 : tl = 60
  · exact ⟨-3, tl, t, fun K k => ⟨fun _ => k, fun h => absurd h (by omega)⟩⟩
  · exact ⟨_, _, _, fun K k => ⟨fun h => absurd h h1, fun _ => k⟩⟩
theorem det_undo {l : List (Int → Int)} : ∃ (r : Int) (a' : Option (Int → Int)) (l' : List (Int → Int)), ∀ K : Int → Option (Int → Int) → List (Int → Int) → Prop, K r a' l' → SP_undo l K := by
  by_cases h1 : l = []
  · subst h1
    exact ⟨-5, none, [], fun K k => ⟨fun _ => k, fun l' b h => by simp at h⟩⟩
  · obtain ⟨l', b, hl⟩ := l_last (l := l) (fun z => h1 (List.eq_nil_of_length_eq_zero (by omega)))
    refine ⟨(l'.length : Int), some b, l', fun K k => ⟨fun h => absurd h h1, fun l2 b2 h => ?_⟩⟩
    rw [hl] at h
    obtain ⟨h2, h3⟩ := List.append_inj' h rfl
    cases h3
    rw [← h2]; exact k
section
theorem j_setSound {M N : Mm} (h : INV M N) {s w v : Int} (hs : inR s) (hw : inR w) (hv : inR v) : p_X7_setSound gC 0 s w v M (JJ (p_X8_setSound gM 0 s w v) N) := by
  obtain ⟨a, l, sn, tl, t, h1, h2⟩ := h
  obtain ⟨r, a', l', hK⟩ := det_setSound (s := s) (w := w) (v := v) (a := a) (l := l)
  exact c_setSound hs hw hv h1 (hK _ fun M' h3 => m_setSound hs hw hv h1.2.1 h2 (hK _ fun N' h4 => ⟨rfl, a', l', sn, tl, t, h3, h4⟩))
theorem j_setHands {M N : Mm} (h : INV M N) {n : Int} (hn : inR n) : p_X7_setHands gC 0 n M (JJ (p_X8_setHands gM 0 n) N) := by
  obtain ⟨a, l, sn, tl, t, h1, h2⟩ := h
  obtain ⟨r, a', l', hK⟩ := det_setHands (n := n) (a := a) (l := l)
  exact c_setHands hn h1 (hK _ fun M' h3 => m_setHands hn h1.2.1 h2 (hK _ fun N' h4 => ⟨rfl, a', l', sn, tl, t, h3, h4⟩))
theorem j_send {M N : Mm} (h : INV M N) {c d : Int} (hc : inR c) (hd : inR d) : p_X7_send gC 0 c d M (JJ (p_X8_send gM 0 c d) N) := by
  obtain ⟨a, l, sn, tl, t, h1, h2⟩ := h
  obtain ⟨r, a', l', hK⟩ := det_send (hd := c) (sh := d) (a := a) (l := l)
  exact c_send hc hd h1 (hK _ fun M' h3 => m_send hc hd h1.2.1 h2 (hK _ fun N' h4 => ⟨rfl, a', l', sn, tl, t, h3, h4⟩))
theorem j_setCarrying {M N : Mm} (h : INV M N) {n : Int} (hn : inR n) : p_X7_setCarrying gC 0 n M (JJ (p_X8_setCarrying gM 0 n) N) := by
  obtain ⟨a, l, sn, tl, t, h1, h2⟩ := h
  obtain ⟨r, a', l', hK⟩ := det_setCarrying (v := n) (a := a) (l := l)
  exact c_setCarrying hn h1 (hK _ fun M' h3 => m_setCarrying hn h1.2.1 h2 (hK _ fun N' h4 => ⟨rfl, a', l', sn, tl, t, h3, h4⟩))
theorem j_take {M N : Mm} (h : INV M N) : p_X7_take gC 0 M (JJ (p_X8_take gM 0) N) := by
  obtain ⟨a, l, sn, tl, t, h1, h2⟩ := h
  obtain ⟨r, a', l', hK⟩ := det_take (a := a) (l := l)
  exact c_take h1 (hK _ fun M' h3 => m_take h1.2.1 h2 (hK _ fun N' h4 => ⟨rfl, a', l', sn, tl, t, h3, h4⟩))
theorem j_type {M N : Mm} (h : INV M N) {x : Int} (x0 : 0 ≤ x) (x1 : x ≤ 65535) : p_X7_type gC 0 x M (JJ (p_X8_type gM 0 x) N) := by
  obtain ⟨a, l, sn, tl, t, h1, h2⟩ := h
  obtain ⟨r, tl', t', hK⟩ := det_type (x := x) (t := t) h1.2.2.2.2.1.2.2.1
  exact c_type x0 x1 h1 (hK _ fun M' h3 => m_type h1.2.2.2.2.1.2.1 h1.2.2.2.2.1.2.2.1 h2 (hK _ fun N' h4 => ⟨rfl, a, l, sn, tl', t', h3, h4⟩))
theorem j_clearText {M N : Mm} (h : INV M N) : p_X7_clearText gC 0 M (JJ (p_X8_clearText gM 0) N) := by
  obtain ⟨a, l, sn, tl, t, h1, h2⟩ := h
  exact c_clear h1 fun M' h3 => m_clear h2 fun N' h4 => ⟨rfl, a, l, sn, 0, t, h3, h4⟩
theorem j_undo {M N : Mm} (h : INV M N) : p_X7_undo gC 0 M (JJ (p_X8_undo gM 0) N) := by
  obtain ⟨a, l, sn, tl, t, h1, h2⟩ := h
  obtain ⟨r, a', l', hK⟩ := det_undo (l := l)
  exact c_undo h1 (hK _ fun M' h3 => m_undo h2 (hK _ fun N' h4 => ⟨rfl, a'.getD a, l', sn, tl, t, h3, h4⟩))
theorem j_keep {M N : Mm} (h : INV M N) : p_X7_keep gC 0 M (JJ (p_X8_keep gM 0) N) := by
  obtain ⟨a, l, sn, tl, t, h1, h2⟩ := h
  exact c_keep h1 fun M' h3 => m_keep h2 fun N' h4 => ⟨rfl, a, l, some a, tl, t, h3, h4⟩
theorem j_restore {M N : Mm} (h : INV M N) : p_X7_restore gC 0 M (JJ (p_X8_restore gM 0) N) := by
  obtain ⟨a, l, sn, tl, t, h1, h2⟩ := h
  obtain ⟨r, a', l', hK⟩ := det_restore (a := a) (l := l) (sn := sn)
  exact c_restore h1 (hK _ fun M' h3 => m_restore h2 (hK _ fun N' h4 => ⟨rfl, a', l', sn, tl, t, h3, h4⟩))
theorem j_sound {M N : Mm} (h : INV M N) {s w : Int} (hs : inR s) (hw : inR w) : p_X7_sound gC 0 s w M (JJ (p_X8_sound gM 0 s w) N) := by
  obtain ⟨a, l, sn, tl, t, h1, h2⟩ := h
  exact c_sound hs hw h1 fun M' h3 => m_sound hs hw h1.2.1 h2 fun N' h4 => ⟨rfl, a, l, sn, tl, t, h3, h4⟩
theorem j_cue {M N : Mm} (h : INV M N) {s w : Int} (hs : inR s) (hw : inR w) : p_X7_cue gC 0 s w M (JJ (p_X8_cue gM 0 s w) N) := by
  obtain ⟨a, l, sn, tl, t, h1, h2⟩ := h
  exact c_cue hs hw h1 fun M' h3 => m_cue hs hw h1.2.1 h2 fun N' h4 => ⟨rfl, a, l, sn, tl, t, h3, h4⟩
theorem j_hand {M N : Mm} (h : INV M N) {s w : Int} (hs : inR s) (hw : inR w) : p_X7_hand gC 0 s w M (JJ (p_X8_hand gM 0 s w) N) := by
  obtain ⟨a, l, sn, tl, t, h1, h2⟩ := h
  exact c_hand hs hw h1 fun M' h3 => m_hand hs hw h1.2.1 h2 fun N' h4 => ⟨rfl, a, l, sn, tl, t, h3, h4⟩
theorem j_scene {M N : Mm} (h : INV M N) {s w : Int} (hs : inR s) (hw : inR w) : p_X7_scene gC 0 s w M (JJ (p_X8_scene gM 0 s w) N) := by
  obtain ⟨a, l, sn, tl, t, h1, h2⟩ := h
  exact c_scene hs hw h1 fun M' h3 => m_scene hs hw h1.2.1 h2 fun N' h4 => ⟨rfl, a, l, sn, tl, t, h3, h4⟩
theorem j_missed {M N : Mm} (h : INV M N) {r : Int} (hr : inR r) : p_X7_missed gC 0 r M (JJ (p_X8_missed gM 0 r) N) := by
  obtain ⟨a, l, sn, tl, t, h1, h2⟩ := h
  exact c_missed hr h1 fun M' h3 => m_missed hr h1.2.1 h2 fun N' h4 => ⟨rfl, a, l, sn, tl, t, h3, h4⟩
theorem j_ifHands {M N : Mm} (h : INV M N) {r : Int} (hr : inR r) : p_X7_ifHands gC 0 r M (JJ (p_X8_ifHands gM 0 r) N) := by
  obtain ⟨a, l, sn, tl, t, h1, h2⟩ := h
  exact c_ifHands hr h1 fun M' h3 => m_ifHands hr h1.2.1 h2 fun N' h4 => ⟨rfl, a, l, sn, tl, t, h3, h4⟩
theorem j_cleanTakes {M N : Mm} (h : INV M N) : p_X7_cleanTakes gC 0 M (JJ (p_X8_cleanTakes gM 0) N) := by
  obtain ⟨a, l, sn, tl, t, h1, h2⟩ := h
  exact c_clean h1 fun M' h3 => m_clean h1.2.1 h2 fun N' h4 => ⟨rfl, a, l, sn, tl, t, h3, h4⟩
theorem j_count {M N : Mm} (h : INV M N) {r : Int} (hr : inR r) : p_X7_count gC 0 r M (JJ (p_X8_count gM 0 r) N) := by
  obtain ⟨a, l, sn, tl, t, h1, h2⟩ := h
  exact c_count hr h1 fun M' h3 => m_count hr h1.2.1 h2 fun N' h4 => ⟨rfl, a, l, sn, tl, t, h3, h4⟩
theorem j_removeCue {M N : Mm} (h : INV M N) {c : Int} (hc : inR c) : p_X7_removeCue gC 0 c M (JJ (p_X8_removeCue gM 0 c) N) := by
  obtain ⟨a, l, sn, tl, t, h1, h2⟩ := h
  refine c_removeCue hc h1 (fun z M' h3 => ?_) (fun c0 c1 M' h3 => ?_)
  · exact m_removeCue hc h1.2.1 h2 (fun _ N' h4 => ⟨rfl, a, l, sn, tl, t, h3, h4⟩) (fun c0 c1 => absurd z (by omega))
  · exact m_removeCue hc h1.2.1 h2 (fun z => absurd z (by omega)) (fun _ _ N' a' hs ha h4 => ⟨rfl, a', push l a, sn, tl, t, h3 a' hs ha, h4⟩)
theorem j_cutScene {M N : Mm} (h : INV M N) {s : Int} (hs : inR s) : p_X7_cutScene gC 0 s M (JJ (p_X8_cutScene gM 0 s) N) := by
  obtain ⟨a, l, sn, tl, t, h1, h2⟩ := h
  refine c_cutScene hs h1 (fun z M' h3 => ?_) (fun c0 c1 z M' h3 => ?_) (fun c0 c1 z M' h3 => ?_)
  · exact m_cutScene hs h1.2.1 h2 (fun _ N' h4 => ⟨rfl, a, l, sn, tl, t, h3, h4⟩) (fun c0 c1 => absurd z (by omega)) (fun c0 c1 => absurd z (by omega))
  · exact m_cutScene hs h1.2.1 h2 (fun q => absurd q (by omega)) (fun _ _ _ N' h4 => ⟨rfl, a, l, sn, tl, t, h3, h4⟩) (fun _ _ q => absurd z q)
  · exact m_cutScene hs h1.2.1 h2 (fun q => absurd q (by omega)) (fun _ _ q => absurd q z) (fun _ _ _ N' a' ho ha h4 => ⟨rfl, a', push l a, sn, tl, t, h3 a' ho ha, h4⟩)
theorem j_shift {M N : Mm} (h : INV M N) {s d : Int} (hs : inR s) (hd : inR d) : p_X7_shift gC 0 s d M (JJ (p_X8_shift gM 0 s d) N) := by
  obtain ⟨a, l, sn, tl, t, h1, h2⟩ := h
  refine c_shift hs hd h1 (fun z M' h3 => ?_) (fun s0 s1 z M' h3 => ?_) (fun s0 s1 d0 d1 z M' h3 => ?_) (fun s0 s1 d0 d1 y z M' h3 => ?_) (fun s0 s1 d0 d1 y z1 z2 M' S hS h3 => ?_)
  · exact m_shift hs hd h1.2.1 h2 (fun _ N' h4 => ⟨rfl, a, l, sn, tl, t, h3, h4⟩) (fun s0 s1 => absurd z (by omega)) (fun s0 s1 => absurd z (by omega)) (fun s0 s1 => absurd z (by omega)) (fun s0 s1 => absurd z (by omega))
  · exact m_shift hs hd h1.2.1 h2 (fun q => absurd q (by omega)) (fun _ _ _ N' h4 => ⟨rfl, a, l, sn, tl, t, h3, h4⟩) (fun _ _ d0 d1 => absurd z (by omega)) (fun _ _ d0 d1 => absurd z (by omega)) (fun _ _ d0 d1 => absurd z (by omega))
  · exact m_shift hs hd h1.2.1 h2 (fun q => absurd q (by omega)) (fun _ _ q => absurd q (by omega)) (fun _ _ _ _ _ N' h4 => ⟨rfl, a, l, sn, tl, t, h3, h4⟩) (fun _ _ _ _ q => absurd q z) (fun _ _ _ _ q => absurd q z)
  · refine m_shift hs hd h1.2.1 h2 (fun q => absurd q (by omega)) (fun _ _ q => absurd q (by omega)) (fun _ _ _ _ q => absurd y q) (fun _ _ _ _ _ _ N' h4 => ⟨rfl, a, l, sn, tl, t, h3, h4⟩) (fun _ _ _ _ _ q1 q2 => ?_)
    rcases z with z | z
    · exact absurd z q1
    · exact absurd z q2
  · refine m_shift hs hd h1.2.1 h2 (fun q => absurd q (by omega)) (fun _ _ q => absurd q (by omega)) (fun _ _ _ _ q => absurd y q) (fun _ _ _ _ _ q => ?_) (fun _ _ _ _ _ _ _ N' a' S' hS' ho ha h4 => ?_)
    · rcases q with q | q
      · exact absurd q z1
      · exact absurd q z2
    · have e : S' = S := SH_uniq hS' hS
      subst e
      exact ⟨rfl, a', push l a, sn, tl, t, h3 a' ho ha, h4⟩
theorem j_readCues {M N : Mm} (h : INV M N) : p_X7_readCues gC 0 M (JJ (p_X8_readCues gM 0) N) := by
  obtain ⟨a, l, sn, tl, t, h1, h2⟩ := h
  have tv : TV t tl := ⟨h1.2.2.2.2.1.2.1, h1.2.2.2.2.1.2.2.1, fun i i0 i1 => (h1.2.2.2.2.1.2.2.2 i i0 i1).2⟩
  refine c_readCues h1 (fun e z M' h3 => ?_) (fun P z y M' h3 => ?_) (fun P z y x M' h3 => ?_) (fun P z y x M' S hS h3 => ?_)
  · exact m_readCues tv h1.2.1 h2 (fun e2 q N' h4 => by
      rw [z] at q; cases q
      exact ⟨rfl, a, l, sn, tl, t, h3, h4⟩) (fun P q => (by rw [z] at q; cases q)) (fun P q => (by rw [z] at q; cases q)) (fun P q => (by rw [z] at q; cases q))
  · exact m_readCues tv h1.2.1 h2 (fun e2 q => by rw [z] at q; cases q) (fun P2 q _ N' h4 => ⟨rfl, a, l, sn, tl, t, h3, h4⟩) (fun P2 q y2 => by
      rw [z] at q; cases q
      exact absurd y2 y) (fun P2 q y2 => by
      rw [z] at q; cases q
      exact absurd y2 y)
  · exact m_readCues tv h1.2.1 h2 (fun e2 q => by rw [z] at q; cases q) (fun P2 q y2 => by
      rw [z] at q; cases q
      exact absurd y y2) (fun P2 q _ _ N' h4 => ⟨rfl, a, l, sn, tl, t, h3, h4⟩) (fun P2 q y2 x2 => by
      rw [z] at q; cases q
      exact absurd x (by omega))
  · exact m_readCues tv h1.2.1 h2 (fun e2 q => by rw [z] at q; cases q) (fun P2 q y2 => by
      rw [z] at q; cases q
      exact absurd y y2) (fun P2 q y2 x2 => by
      rw [z] at q; cases q
      exact absurd x (by omega)) (fun P2 q _ _ N' a' S' hS' ho ha h4 => by
      rw [z] at q; cases q
      have e : S' = S := RD_uniq hS' hS
      subst e
      exact ⟨rfl, a', push l a, sn, tl, t, h3 a' ho ha, h4⟩)
end
