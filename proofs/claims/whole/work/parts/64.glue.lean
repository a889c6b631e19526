/-! the class's world out of its constructors' worlds -/
def gHis : GG := [(2, 0), (10, 4)] ++ gSta ++ gSta ++ gSta ++ gSta
theorem gC_cat : gC = [(7, 0)] ++ gSta ++ gSta ++ gHis ++ gTxt ++ gRdr ++ gReh := by decide +kernel
theorem fv_shift {ad : Nat → Nat} {r : Int → Int} {n o : Nat} : ∀ (l : List (Option Nat)) (k : Nat), fv ad r (n + o) k l = fv (fun x => ad (n + x)) r o k l
  | [], _ => rfl
  | none :: l, k => by simp only [fv, fv_shift l]
  | some d :: l, k => by simp only [fv, fv_shift l, Nat.add_assoc]
theorem gk_r {g1 g2 : GG} {o : Nat} : gk (g1 ++ g2) (g1.length + o) = gk g2 o := by
  simp [gk, List.getD, List.getElem?_append_right]
theorem gl_r {g1 g2 : GG} {o : Nat} : gl (g1 ++ g2) (g1.length + o) = gl g2 o := by
  simp [gl, List.getD, List.getElem?_append_right]
theorem gk_l {g1 g2 : GG} {o : Nat} (h : o < g1.length) : gk (g1 ++ g2) o = gk g1 o := by
  simp [gk, List.getD, List.getElem?_append_left h]
theorem gl_l {g1 g2 : GG} {o : Nat} (h : o < g1.length) : gl (g1 ++ g2) o = gl g1 o := by
  simp [gl, List.getD, List.getElem?_append_left h]
