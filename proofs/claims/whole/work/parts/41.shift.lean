/-! PURE: the reference puts a cue in; shift of both -/
theorem rankAt_m {N : Mm} {Q : Int → Mm → Prop} {L : List Cu} {i : Nat} {q : Cu} (hL : AL (N 1) L) (hn : L.length ≤ 40) (hi : L[i]? = some q) (k : Q (rq q) N) : p_X8_rankAt gM 0 (i : Int) N Q := by
  have hlt := (List.getElem?_eq_some_iff.mp hi).1
  have e := hL.2 i q hi
  unfold p_X8_rankAt
  refine of_m (by omega) (by omega) (of_m (by omega) (by omega) (of_m (by omega) (by omega) ?_))
  unfold p_X8_rankOf
  have : (((N 1 (41 + 4 * (i : Int) + 1) * 6 + N 1 (41 + 4 * (i : Int) + 0)) * 10) + N 1 (41 + 4 * (i : Int) + 2)) = rq q := by rw [← e]; rfl
  rw [this]; exact k
theorem pin_s {N : Mm} {Q : Mm → Prop} {L : List Cu} {p : Nat} {s t d w : Int} (hL : AL (N 1) L) (hn : L.length ≤ 39) (hp : p ≤ L.length) (k : ∀ N' : Mm, frN N N' → AL (N' 1) (L.take p ++ (t, s, d, w) :: L.drop p) → Q N') :
    ∀ (f : Nat) (i : Int) (N1 : Mm), 40 + 4 * (p : Int) ≤ i → i ≤ 40 + 4 * (L.length : Int) → i - (40 + 4 * (p : Int)) < f → (∀ o, o ≠ 1 → N1 o = N o) → (∀ j, j ≤ i → N1 1 j = N 1 j) → (∀ j, i < j → j ≤ 40 + 4 * (L.length : Int) → N1 1 (j + 4) = N 1 j) → p_X8_putsIn_L52 gM f 0 s t d w (p : Int) i N1 Q := by
  obtain ⟨g1, g6, g7, g8, g9, g10, g11, g12, g13, g14, g15⟩ := gl_m
  obtain ⟨a1, a2⟩ := hL
  intro f
  induction f with
  | zero => intro i N1 i0 i1 hf; omega
  | succ f ih =>
    intro i N1 i0 i1 hf fr h1 h2
    unfold p_X8_putsIn_L52
    simp only [Nat.zero_add, g1]
    refine ⟨inR_s (by omega) (by omega), inR_s (by omega) (by omega), fun hlt => ⟨by omega, by omega, fun M1 e1 => ⟨by omega, by omega, fun M2 e2 => ⟨by omega, by omega, fun M3 e3 => ⟨by omega, by omega, fun M4 e4 => ⟨by omega, by omega, fun M5 e5 => ?_⟩⟩⟩⟩⟩, fun hge => ⟨by omega, by omega, by omega, by omega, fun M2 e => ?_⟩⟩
    · have hi : i = 40 + 4 * (p : Int) := by omega
      have F : ∀ o, o ≠ 1 → M5 o = N o := fun o ho => by rw [e5, mu_ne ho, e4, mu_ne ho, e3, mu_ne ho, e2, mu_ne ho, e1, mu_ne ho, fr o ho]
      have F1 : ∀ j, M5 1 j = if j = 41 + 4 * (p : Int) + 3 then w else if j = 41 + 4 * (p : Int) + 2 then d else if j = 41 + 4 * (p : Int) + 1 then t else if j = 41 + 4 * (p : Int) + 0 then s else if j = 36 then N1 1 36 + 1 else N1 1 j := fun j => by
        rw [e5, mu_eq, e4, mu_eq, e3, mu_eq, e2, mu_eq, e1, mu_eq]
      have e36 : N1 1 36 = (L.length : Int) := by rw [h1 36 (by omega)]; exact a1
      have lo : ∀ j, j < 41 + 4 * (p : Int) → j ≠ 36 → M5 1 j = N 1 j := fun j hj hj2 => by
        rw [F1, if_neg (by omega), if_neg (by omega), if_neg (by omega), if_neg (by omega), if_neg hj2]; exact h1 j (by omega)
      have hi2 : ∀ j, 41 + 4 * (p : Int) ≤ j → j ≤ 40 + 4 * (L.length : Int) → M5 1 (j + 4) = N 1 j := fun j j0 j1 => by
        rw [F1, if_neg (by omega), if_neg (by omega), if_neg (by omega), if_neg (by omega), if_neg (by omega)]; exact h2 j (by omega) j1
      have hlt2 : (L.take p).length = p := by rw [List.length_take]; omega
      refine k M5 ⟨F, fun j j0 j1 => lo j (by omega) j1⟩ ⟨?_, fun m q hm => ?_⟩
      · rw [F1, if_neg (by omega), if_neg (by omega), if_neg (by omega), if_neg (by omega), if_pos rfl, e36, List.length_append, List.length_cons, List.length_take, List.length_drop]
        omega
      · by_cases hm1 : m < p
        · rw [List.getElem?_append_left (by omega), List.getElem?_take_of_lt hm1] at hm
          rw [← a2 m q hm]
          exact qA_eq (lo _ (by omega) (by omega)) (lo _ (by omega) (by omega)) (lo _ (by omega) (by omega)) (lo _ (by omega) (by omega))
        · rw [List.getElem?_append_right (by omega), hlt2] at hm
          by_cases hm2 : m = p
          · subst hm2
            rw [Nat.sub_self] at hm
            have hq : (t, s, d, w) = q := Option.some.inj hm
            rw [← hq]
            unfold qA tk sc sd la
            rw [F1, if_neg (by omega), if_neg (by omega), if_pos rfl, F1, if_neg (by omega), if_neg (by omega), if_neg (by omega), if_pos rfl, F1, if_neg (by omega), if_pos rfl, F1, if_pos rfl]
          · obtain ⟨m', hm'⟩ : ∃ m', m - p = m' + 1 := ⟨m - p - 1, by omega⟩
            rw [hm', List.getElem?_cons_succ, List.getElem?_drop] at hm
            have hml := (List.getElem?_eq_some_iff.mp hm).1
            have hmm : m = (p + m') + 1 := by omega
            rw [← a2 _ q hm, hmm]
            have z : ∀ x : Int, 0 ≤ x → x ≤ 3 → M5 1 (41 + 4 * ((p + m' + 1 : Nat) : Int) + x) = N 1 (41 + 4 * ((p + m' : Nat) : Int) + x) := fun x x0 x1 => by
              have := hi2 (41 + 4 * ((p + m' : Nat) : Int) + x) (by omega) (by omega)
              rw [← this]; congr 1; omega
            exact qA_eq (z 0 (by omega) (by omega)) (z 1 (by omega) (by omega)) (z 2 (by omega) (by omega)) (z 3 (by omega) (by omega))
    · have e2 : ∀ j, M2 1 j = if j = i + 4 then N1 1 i else N1 1 j := fun j => by rw [e, mu_eq]
      refine ih (i + -1) M2 (by omega) (by omega) (by omega) (fun o ho => by rw [e, mu_ne ho, fr o ho]) (fun j hj => by rw [e2, if_neg (by omega)]; exact h1 j (by omega)) (fun j j0 j1 => ?_)
      rw [e2]
      by_cases hji : j = i
      · rw [if_pos (by omega), hji, h1 i (by omega)]
      · rw [if_neg (by omega)]; exact h2 j (by omega) j1
/-- a cue is put in at its place -/
theorem pin_m {N : Mm} {Q : Mm → Prop} {L : List Cu} {s t d w : Int} (hL : AL (N 1) L) (hn : L.length ≤ 39) (hr : rgq L) (hx : inR (rk t s d)) (hS : L.Pairwise lR) (hne : ∀ q ∈ L, rq q ≠ rk t s d) (k : ∀ (N' : Mm) (S : List Cu), frN N N' → AL (N' 1) S → S.length = L.length + 1 → S.Pairwise lR → (∀ q, q ∈ S ↔ q = (t, s, d, w) ∨ q ∈ L) → Q N') : p_X8_putsIn gM 0 s t d w N Q := by
  obtain ⟨g1, g6, g7, g8, g9, g10, g11, g12, g13, g14, g15⟩ := gl_m
  have J : ∀ p : Nat, p ≤ L.length → (∀ q ∈ L.take p, rq q < rk t s d) → (∀ q ∈ L.drop p, rk t s d < rq q) → p_X8_putsIn_J36 gM 0 s t d w (p : Int) N Q := by
    intro p hp h1 h2
    unfold p_X8_putsIn_J36
    simp only [Nat.zero_add, g1]
    rw [hL.1]
    have hsp : L.take p ++ L.drop p = L := List.take_append_drop p L
    refine ⟨by omega, 162, pin_s hL hn hp (fun N' fr hA => k N' _ fr hA ?_ ?_ (fun q => ?_)) 162 _ N (by omega) (by omega) (by omega) (fun _ _ => rfl) (fun _ _ => rfl) (fun j j0 j1 => by omega)⟩
    · rw [List.length_append, List.length_cons, List.length_take, List.length_drop]; omega
    · have hS2 := hS
      rw [← hsp, List.pairwise_append] at hS2
      rw [List.pairwise_append]
      refine ⟨hS2.1, List.pairwise_cons.mpr ⟨h2, hS2.2.1⟩, fun u hu v hv => ?_⟩
      rcases List.mem_cons.mp hv with e | e
      · rw [e]; exact h1 u hu
      · exact hS2.2.2 u hu v e
    · rw [List.mem_append, List.mem_cons]
      constructor
      · rintro (h | h | h)
        · exact Or.inr (List.mem_of_mem_take h)
        · exact Or.inl h
        · exact Or.inr (List.mem_of_mem_drop h)
      · rintro (h | h)
        · exact Or.inr (Or.inl h)
        · rw [← hsp, List.mem_append] at h
          rcases h with h | h
          · exact Or.inl h
          · exact Or.inr (Or.inr h)
  have LL : ∀ (f p : Nat), p ≤ L.length → L.length - p < f → (∀ q ∈ L.take p, rq q < rk t s d) → p_X8_putsIn_L3 gM f 0 s t d w (p : Int) N Q := by
    intro f
    induction f with
    | zero => intro p hp hf; omega
    | succ f ih =>
      intro p hp hf h1
      unfold p_X8_putsIn_L3
      simp only [Nat.zero_add, g1]
      rw [hL.1]
      refine ⟨by omega, inR_s (by omega) (by omega), inR_s (by omega) (by omega), fun hge => ?_, fun hlt => ?_⟩
      · refine J p hp h1 (fun q hq => ?_)
        rw [List.drop_eq_nil_of_le (by omega)] at hq
        exact absurd hq List.not_mem_nil
      · have hpl : p < L.length := by omega
        refine rankAt_m hL (by omega) (List.getElem?_eq_getElem hpl) ?_
        unfold p_X8_rankOf
        have hm := List.getElem_mem hpl
        have hrk : ((t * 6 + s) * 10 + d) = rk t s d := rfl
        rw [hrk]
        refine ⟨hr _ hm, hx, fun hle => J p hp h1 (fun q hq => ?_), fun hlt2 => ?_⟩
        · have h0 := hne _ hm
          rw [List.drop_eq_getElem_cons hpl] at hq
          rcases List.mem_cons.mp hq with e | e
          · rw [e]; omega
          · have hS2 := hS
            rw [← List.take_append_drop p L, List.pairwise_append, List.drop_eq_getElem_cons hpl, List.pairwise_cons] at hS2
            have : rq L[p] < rq q := hS2.2.1.1 q e
            omega
        · refine ih (p + 1) (by omega) (by omega) (fun q hq => ?_)
          rw [List.take_succ, List.getElem?_eq_getElem hpl] at hq
          rcases List.mem_append.mp hq with h | h
          · exact h1 q h
          · have : q = L[p] := by simpa using h
            rw [this]; exact hlt2
  unfold p_X8_putsIn
  exact ⟨L.length + 1, LL (L.length + 1) 0 (by omega) (by omega) (fun q hq => by simp at hq)⟩
/-! shift -/
def mv (s by' : Int) (q : Cu) : Cu := if q.2.1 = s then (q.1 + by', q.2.1, q.2.2.1, q.2.2.2) else q
def cmv (s by' : Int) (q : Cu) : Prop := q.2.1 = s → 0 ≤ q.1 + by' ∧ q.1 + by' ≤ 999
theorem cm_c {M : Mm} {Q : Int → Mm → Prop} {L : List Cu} {s d : Int} (hC : CL M 10 L) (hL : VL L) (hs : inR s) (hd : -99 ≤ d ∧ d ≤ 99) (k1 : (∀ q ∈ L, cmv s d q) → Q 1 M) (k0 : (¬ ∀ q ∈ L, cmv s d q) → Q 0 M) :
    ∀ (f j : Nat), j ≤ L.length → L.length - j < f → (∀ q ∈ L.take j, cmv s d q) → p_X0_canMove_L2 gC f 10 s d (j : Int) M Q := by
  obtain ⟨l1, l2, l3⟩ := hL
  intro f
  induction f with
  | zero => intro j hj hf; omega
  | succ f ih =>
    intro j hj hf h1
    unfold p_X0_canMove_L2
    rw [hC.1]
    refine ⟨inR_s (by omega) (by omega), inR_s (by omega) (by omega), fun hge => k1 (fun q hq => h1 q (by rw [List.take_of_length_le (by omega)]; exact hq)), fun hlt => ?_⟩
    have hjl : j < L.length := by omega
    have hq := hC.2 j _ (List.getElem?_eq_getElem hjl)
    have hv := l2 _ (List.getElem_mem hjl)
    have e2 : M (10 + 3 + 1) (j : Int) = (L[j]).2.1 := by rw [← hq]; rfl
    have e1 : M (10 + 1 + 1) (j : Int) = (L[j]).1 := by rw [← hq]; rfl
    have nx : cmv s d L[j] → p_X0_canMove_L2 gC f 10 s d ((j : Int) + 1) M Q := fun hc => ih (j + 1) (by omega) (by omega) (fun q hq2 => by
      rw [List.take_succ, List.getElem?_eq_getElem hjl] at hq2
      rcases List.mem_append.mp hq2 with h | h
      · exact h1 q h
      · have : q = L[j] := by simpa using h
        rw [this]; exact hc)
    refine get_c (by omega) (by rw [cap10.2.1]; omega) ?_
    rw [e2]
    refine ⟨(vq_in hv).2.1, hs, fun hne => nx (fun z => absurd z hne), fun he => get_c (by omega) (by rw [cap10.1]; omega) ?_⟩
    rw [e1]
    have hr := hv.1
    refine within_c (inR_s (by omega) (by omega)) inR0 ⟨by decide, by decide⟩ (fun z0 z1 => ⟨inR1, fun _ => nx (fun _ => ⟨z0, z1⟩), fun z => absurd z (by decide)⟩) (fun z => ⟨inR0, fun y => absurd rfl y, fun _ => k0 (fun hall => ?_)⟩)
    have := hall _ (List.getElem_mem hjl) he
    omega
theorem cm_m {N : Mm} {Q : Int → Mm → Prop} {L : List Cu} {s d : Int} (hA : AL (N 1) L) (hL : VL L) (hs : inR s) (hd : -99 ≤ d ∧ d ≤ 99) (k1 : (∀ q ∈ L, cmv s d q) → Q 1 N) (k0 : (¬ ∀ q ∈ L, cmv s d q) → Q 0 N) :
    ∀ (f j : Nat) (x : Int), j ≤ L.length → L.length - j < f → ((x = 1 ∧ ∀ q ∈ L.take j, cmv s d q) ∨ (x = 0 ∧ ¬ ∀ q ∈ L, cmv s d q)) → p_X8_canShift_L5 gM f 0 s d x (j : Int) N Q := by
  obtain ⟨g1, g6, g7, g8, g9, g10, g11, g12, g13, g14, g15⟩ := gl_m
  obtain ⟨l1, l2, l3⟩ := hL
  intro f
  induction f with
  | zero => intro j x hj hf; omega
  | succ f ih =>
    intro j x hj hf hx
    unfold p_X8_canShift_L5
    simp only [Nat.zero_add, g1]
    rw [hA.1]
    refine ⟨by omega, inR_s (by omega) (by omega), inR_s (by omega) (by omega), fun hge => ?_, fun hlt => ?_⟩
    · rcases hx with ⟨rfl, h⟩ | ⟨rfl, h⟩
      · exact ⟨Or.inr rfl, k1 (fun q hq => h q (by rw [List.take_of_length_le (by omega)]; exact hq))⟩
      · exact ⟨Or.inl rfl, k0 h⟩
    · have hjl : j < L.length := by omega
      have hq := hA.2 j _ (List.getElem?_eq_getElem hjl)
      have hv := l2 _ (List.getElem_mem hjl)
      have e2 : N 1 (41 + 4 * (j : Int) + 0) = (L[j]).2.1 := by rw [← hq]; rfl
      have e1 : N 1 (41 + 4 * (j : Int) + 1) = (L[j]).1 := by rw [← hq]; rfl
      rcases hx with ⟨rfl, h1⟩ | ⟨rfl, h0⟩
      · have nx : cmv s d L[j] → p_X8_canShift_L5 gM f 0 s d 1 ((j : Int) + 1) N Q := fun hc => ih (j + 1) 1 (by omega) (by omega) (Or.inl ⟨rfl, fun q hq2 => by
          rw [List.take_succ, List.getElem?_eq_getElem hjl] at hq2
          rcases List.mem_append.mp hq2 with h | h
          · exact h1 q h
          · have : q = L[j] := by simpa using h
            rw [this]; exact hc⟩)
        have n0 : ¬ cmv s d L[j] → p_X8_canShift_L5 gM f 0 s d 0 ((j : Int) + 1) N Q := fun hc => ih (j + 1) 0 (by omega) (by omega) (Or.inr ⟨rfl, fun hall => hc (hall _ (List.getElem_mem hjl))⟩)
        refine ⟨inR1, fun z => absurd z (by decide), fun _ => of_m (by omega) (by omega) ?_⟩
        rw [e2]
        refine ⟨(vq_in hv).2.1, hs, fun hne => nx (fun z => absurd z hne), fun he => of_m (by omega) (by omega) ?_⟩
        rw [e1]
        have hr := hv.1
        refine ⟨inR_s (by omega) (by omega), in_m (inR_s (by omega) (by omega)) inR0 ⟨by decide, by decide⟩ (fun z0 z1 => ⟨inR1, fun z => absurd z (by decide), fun _ => nx (fun _ => ⟨z0, z1⟩)⟩) (fun z => ⟨inR0, fun _ => n0 (fun hc => by have := hc he; omega), fun y => absurd rfl y⟩)⟩
      · refine ⟨inR0, fun _ => ih (j + 1) 0 (by omega) (by omega) (Or.inr ⟨rfl, h0⟩), fun z => absurd rfl z⟩
theorem mv_vq {s d : Int} {q : Cu} (h : vq q) (hc : cmv s d q) : vq (mv s d q) := by
  unfold mv
  by_cases e : q.2.1 = s
  · rw [if_pos e]
    obtain ⟨-, h2, h3, h4⟩ := h
    exact ⟨hc e, h2, h3, h4⟩
  · rw [if_neg e]; exact h
theorem vq_rq {q : Cu} (h : vq q) : inR (rq q) := by
  obtain ⟨h1, h2, h3, h4⟩ := h
  unfold rq rk
  exact inR_s (by omega) (by omega)
theorem mv_ne {s d : Int} {x y : Cu} (hx : vq x) (hy : vq y) (h : rq x ≠ rq y) : rq (mv s d x) ≠ rq (mv s d y) := by
  obtain ⟨-, x2, x3, -⟩ := hx
  obtain ⟨-, y2, y3, -⟩ := hy
  unfold rq rk at h ⊢
  unfold mv
  by_cases e1 : x.2.1 = s
  · by_cases e2 : y.2.1 = s
    · rw [if_pos e1, if_pos e2]; show ((x.1 + d) * 6 + x.2.1) * 10 + x.2.2.1 ≠ ((y.1 + d) * 6 + y.2.1) * 10 + y.2.2.1; omega
    · rw [if_pos e1, if_neg e2]; show ((x.1 + d) * 6 + x.2.1) * 10 + x.2.2.1 ≠ (y.1 * 6 + y.2.1) * 10 + y.2.2.1; omega
  · by_cases e2 : y.2.1 = s
    · rw [if_neg e1, if_pos e2]; show (x.1 * 6 + x.2.1) * 10 + x.2.2.1 ≠ ((y.1 + d) * 6 + y.2.1) * 10 + y.2.2.1; omega
    · rw [if_neg e1, if_neg e2]; exact h
theorem map_n {s d : Int} {L : List Cu} (hL : VL L) : (L.map (mv s d)).Pairwise nR := by
  rw [List.pairwise_map]
  have h3 := hL.2.2
  rw [List.pairwise_iff_getElem] at h3 ⊢
  intro i j hi hj hij
  have h : rq L[i] < rq L[j] := h3 i j hi hj hij
  exact mv_ne (hL.2.1 _ (List.getElem_mem hi)) (hL.2.1 _ (List.getElem_mem hj)) (by omega)
