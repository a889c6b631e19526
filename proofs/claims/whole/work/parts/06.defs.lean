/-! WEAKEST PRECONDITIONS of the methods over the pure memory: written by gen.py out of the bytecode -/
def rmX4_copyFrom : Room := { frames := 1, cells := 0, slots := 0, locals := 48 }
def p_X4_copyFrom (g : GG) (o0 : Nat) (o1 : Nat) (M : Mm) (Q : Mm → Prop) : Prop :=
  0 ≤ (min ((gl g (o0 + 1) : Nat) : Int) ((gl g (o1 + 1) : Nat) : Int)) ∧ (min ((gl g (o0 + 1) : Nat) : Int) ((gl g (o1 + 1) : Nat) : Int)) ≤ ((gl g (o1 + 1) : Nat) : Int) ∧ (min ((gl g (o0 + 1) : Nat) : Int) ((gl g (o1 + 1) : Nat) : Int)) ≤ ((gl g (o0 + 1) : Nat) : Int) ∧ ∀ M5 : Mm, M5 = mcp M (o1 + 1) (o0 + 1) (min ((gl g (o0 + 1) : Nat) : Int) ((gl g (o1 + 1) : Nat) : Int)) →
  Q M5
def rmX0_copyFrom : Room := { frames := 2, cells := 0, slots := 0, locals := 70 }
def p_X0_copyFrom (g : GG) (o0 : Nat) (o1 : Nat) (M : Mm) (Q : Mm → Prop) : Prop :=
  p_X4_copyFrom g (o0 + 1) (o1 + 1) M (fun M3 =>
    p_X4_copyFrom g (o0 + 3) (o1 + 3) M3 (fun M6 =>
      p_X4_copyFrom g (o0 + 5) (o1 + 5) M6 (fun M9 =>
        p_X4_copyFrom g (o0 + 7) (o1 + 7) M9 (fun M12 =>
          inR (M12 o1 5) ∧ inR (M12 o0 0) ∧ 
          ∀ M13 : Mm, M13 = mu M12 o0 5 (min (M12 o1 5) (M12 o0 0)) →
          Q M13))))
def rmX4_get : Room := { frames := 1, cells := 0, slots := 0, locals := 13 }
def p_X4_get (g : GG) (o0 : Nat) (x1 : Int) (M : Mm) (Q : Int → Mm → Prop) : Prop :=
  inR x1 ∧ (x1 < 0 →
    Q 0 M) ∧
  (0 ≤ x1 →
    inR x1 ∧ (((gl g (o0 + 1) : Nat) : Int) ≤ x1 →
      Q 0 M) ∧
    (x1 < ((gl g (o0 + 1) : Nat) : Int) →
      0 ≤ x1 ∧ x1 < ((gl g (o0 + 1) : Nat) : Int) ∧
      Q (M (o0 + 1) x1) M))
def rmX0_endOf : Room := { frames := 2, cells := 0, slots := 0, locals := 34 }
def p_X0_endOf (g : GG) (o0 : Nat) (x1 : Int) (M : Mm) (Q : Int → Mm → Prop) : Prop :=
  p_X4_get g (o0 + 1) x1 M (fun r3 M2 =>
    p_X4_get g (o0 + 7) x1 M2 (fun r6 M5 =>
      Q (r3 + r6) M5))
def rmX0_has : Room := { frames := 2, cells := 0, slots := 0, locals := 34 }
def p_X0_has_L3 (g : GG) : Nat → Nat → Int → Int → Int → Int → Mm → (Int → Mm → Prop) → Prop
  | 0, _, _, _, _, _, _, _ => False
  | n + 1, o0, x1, x2, x3, x4, M, Q =>
    inR x4 ∧ inR (M o0 5) ∧ ((M o0 5) ≤ x4 →
      Q 0 M) ∧
    (x4 < (M o0 5) →
      p_X4_get g (o0 + 3) x4 M (fun r3 M2 =>
        inR r3 ∧ inR x1 ∧ (r3 ≠ x1 →
          p_X0_has_L3 g n o0 x1 x2 x3 (x4 + 1) M2 Q) ∧
        (r3 = x1 →
          p_X4_get g (o0 + 1) x4 M2 (fun r6 M5 =>
            inR r6 ∧ inR x2 ∧ (r6 ≠ x2 →
              p_X0_has_L3 g n o0 x1 x2 x3 (x4 + 1) M5 Q) ∧
            (r6 = x2 →
              p_X4_get g (o0 + 5) x4 M5 (fun r9 M8 =>
                inR r9 ∧ inR x3 ∧ (r9 ≠ x3 →
                  p_X0_has_L3 g n o0 x1 x2 x3 (x4 + 1) M8 Q) ∧
                (r9 = x3 →
                  Q 1 M8)))))))
def p_X0_has (g : GG) (o0 : Nat) (x1 : Int) (x2 : Int) (x3 : Int) (M : Mm) (Q : Int → Mm → Prop) : Prop :=
  ∃ n10, p_X0_has_L3 g n10 o0 x1 x2 x3 0 M Q
def rmX4_put : Room := { frames := 1, cells := 0, slots := 0, locals := 13 }
def p_X4_put (g : GG) (o0 : Nat) (x1 : Int) (x2 : Int) (M : Mm) (Q : Mm → Prop) : Prop :=
  inR x1 ∧ (x1 < 0 →
    Q M) ∧
  (0 ≤ x1 →
    inR x1 ∧ (((gl g (o0 + 1) : Nat) : Int) ≤ x1 →
      Q M) ∧
    (x1 < ((gl g (o0 + 1) : Nat) : Int) →
      0 ≤ x1 ∧ x1 < ((gl g (o0 + 1) : Nat) : Int) ∧ ∀ M3 : Mm, M3 = mu M (o0 + 1) x1 x2 →
      Q M3))
def rmX0_append : Room := { frames := 2, cells := 0, slots := 0, locals := 35 }
def p_X0_append (g : GG) (o0 : Nat) (x1 : Int) (x2 : Int) (x3 : Int) (x4 : Int) (M : Mm) (Q : Mm → Prop) : Prop :=
  inR (M o0 5) ∧ inR (M o0 0) ∧ ((M o0 5) < (M o0 0) →
    p_X4_put g (o0 + 3) (M o0 5) x1 M (fun M2 =>
      p_X4_put g (o0 + 1) (M2 o0 5) x2 M2 (fun M4 =>
        p_X4_put g (o0 + 5) (M4 o0 5) x3 M4 (fun M6 =>
          p_X4_put g (o0 + 7) (M6 o0 5) x4 M6 (fun M8 =>
            ∀ M9 : Mm, M9 = mu M8 o0 5 ((M8 o0 5) + 1) →
            Q M9))))) ∧
  ((M o0 0) ≤ (M o0 5) →
    Q M)
def rmX0_order : Room := { frames := 2, cells := 0, slots := 0, locals := 34 }
def p_X0_order (g : GG) (o0 : Nat) (x1 : Int) (M : Mm) (Q : Int → Mm → Prop) : Prop :=
  p_X4_get g (o0 + 1) x1 M (fun r3 M2 =>
    p_X4_get g (o0 + 3) x1 M2 (fun r6 M5 =>
      p_X4_get g (o0 + 5) x1 M5 (fun r9 M8 =>
        Q ((((r3 * 6) + r6) * 10) + r9) M8)))
def rmX4_swap : Room := { frames := 2, cells := 0, slots := 0, locals := 35 }
def p_X4_swap (g : GG) (o0 : Nat) (x1 : Int) (x2 : Int) (M : Mm) (Q : Mm → Prop) : Prop :=
  p_X4_get g o0 x1 M (fun r2 M1 =>
    p_X4_get g o0 x2 M1 (fun r4 M3 =>
      p_X4_put g o0 x1 r4 M3 (fun M5 =>
        p_X4_put g o0 x2 r2 M5 (fun M6 =>
          Q M6))))
def rmX0_swap : Room := { frames := 3, cells := 0, slots := 0, locals := 58 }
def p_X0_swap (g : GG) (o0 : Nat) (x1 : Int) (x2 : Int) (M : Mm) (Q : Mm → Prop) : Prop :=
  p_X4_swap g (o0 + 1) x1 x2 M (fun M2 =>
    p_X4_swap g (o0 + 3) x1 x2 M2 (fun M4 =>
      p_X4_swap g (o0 + 5) x1 x2 M4 (fun M6 =>
        p_X4_swap g (o0 + 7) x1 x2 M6 (fun M8 =>
          Q M8))))
def rmX0_moveToItsPlace : Room := { frames := 4, cells := 0, slots := 0, locals := 80 }
def p_X0_moveToItsPlace_L2 (g : GG) : Nat → Nat → Int → Mm → (Mm → Prop) → Prop
  | 0, _, _, _, _ => False
  | n + 1, o0, x2, M, Q =>
    inR x2 ∧ (x2 ≤ 0 →
      Q M) ∧
    (0 < x2 →
      p_X0_order g o0 x2 M (fun r2 M1 =>
        p_X0_order g o0 (x2 - 1) M1 (fun r4 M3 =>
          inR r2 ∧ inR r4 ∧ (r4 ≤ r2 →
            Q M3) ∧
          (r2 < r4 →
            p_X0_swap g o0 (x2 - 1) x2 M3 (fun M5 =>
              p_X0_moveToItsPlace_L2 g n o0 (x2 + (-1)) M5 Q)))))
def p_X0_moveToItsPlace (g : GG) (o0 : Nat) (x1 : Int) (M : Mm) (Q : Mm → Prop) : Prop :=
  ∃ n6, p_X0_moveToItsPlace_L2 g n6 o0 x1 M Q
def rmX0_putInOrder : Room := { frames := 5, cells := 0, slots := 0, locals := 102 }
def p_X0_putInOrder_L2 (g : GG) : Nat → Nat → Int → Mm → (Mm → Prop) → Prop
  | 0, _, _, _, _ => False
  | n + 1, o0, x1, M, Q =>
    inR x1 ∧ inR (M o0 5) ∧ ((M o0 5) ≤ x1 →
      Q M) ∧
    (x1 < (M o0 5) →
      p_X0_moveToItsPlace g o0 x1 M (fun M1 =>
        p_X0_putInOrder_L2 g n o0 (x1 + 1) M1 Q))
def p_X0_putInOrder (g : GG) (o0 : Nat) (M : Mm) (Q : Mm → Prop) : Prop :=
  ∃ n2, p_X0_putInOrder_L2 g n2 o0 1 M Q
def rmX0_removeAt : Room := { frames := 4, cells := 0, slots := 0, locals := 80 }
def p_X0_removeAt_L4 (g : GG) : Nat → Nat → Int → Mm → (Mm → Prop) → Prop
  | 0, _, _, _, _ => False
  | n + 1, o0, x2, M, Q =>
    inR x2 ∧ inR (M o0 5) ∧ ((M o0 5) ≤ x2 →
      ∀ M1 : Mm, M1 = mu M o0 5 ((M o0 5) - 1) →
      Q M1) ∧
    (x2 < (M o0 5) →
      p_X0_swap g o0 (x2 - 1) x2 M (fun M2 =>
        p_X0_removeAt_L4 g n o0 (x2 + 1) M2 Q))
def p_X0_removeAt (g : GG) (o0 : Nat) (x1 : Int) (M : Mm) (Q : Mm → Prop) : Prop :=
  ∃ n3, p_X0_removeAt_L4 g n3 o0 (x1 + 1) M Q
def rmX0_removeScene : Room := { frames := 4, cells := 0, slots := 0, locals := 80 }
def p_X0_removeScene_L4 (g : GG) : Nat → Nat → Int → Int → Int → Mm → (Mm → Prop) → Prop
  | 0, _, _, _, _, _, _ => False
  | n + 1, o0, x1, x2, x3, M, Q =>
    inR x3 ∧ inR (M o0 5) ∧ ((M o0 5) ≤ x3 →
      ∀ M1 : Mm, M1 = mu M o0 5 x2 →
      Q M1) ∧
    (x3 < (M o0 5) →
      p_X4_get g (o0 + 3) x3 M (fun r4 M3 =>
        inR r4 ∧ inR x1 ∧ (r4 = x1 →
          p_X0_removeScene_L4 g n o0 x1 x2 (x3 + 1) M3 Q) ∧
        (r4 ≠ x1 →
          p_X0_swap g o0 x2 x3 M3 (fun M5 =>
            p_X0_removeScene_L4 g n o0 x1 (x2 + 1) (x3 + 1) M5 Q))))
def p_X0_removeScene (g : GG) (o0 : Nat) (x1 : Int) (M : Mm) (Q : Mm → Prop) : Prop :=
  ∃ n6, p_X0_removeScene_L4 g n6 o0 x1 0 0 M Q
def rmX7_isWithin : Room := { frames := 1, cells := 0, slots := 0, locals := 13 }
def p_X7_isWithin (g : GG) (x0 : Int) (x1 : Int) (x2 : Int) (M : Mm) (Q : Int → Mm → Prop) : Prop :=
  inR x0 ∧ inR x1 ∧ (x0 < x1 →
    Q 0 M) ∧
  (x1 ≤ x0 →
    inR x0 ∧ inR x2 ∧ (x2 < x0 →
      Q 0 M) ∧
    (x0 ≤ x2 →
      Q 1 M))
def rmX0_canMove : Room := { frames := 2, cells := 0, slots := 0, locals := 35 }
def p_X0_canMove_L2 (g : GG) : Nat → Nat → Int → Int → Int → Mm → (Int → Mm → Prop) → Prop
  | 0, _, _, _, _, _, _ => False
  | n + 1, o0, x1, x2, x3, M, Q =>
    inR x3 ∧ inR (M o0 5) ∧ ((M o0 5) ≤ x3 →
      Q 1 M) ∧
    (x3 < (M o0 5) →
      p_X4_get g (o0 + 3) x3 M (fun r3 M2 =>
        inR r3 ∧ inR x1 ∧ (r3 ≠ x1 →
          p_X0_canMove_L2 g n o0 x1 x2 (x3 + 1) M2 Q) ∧
        (r3 = x1 →
          p_X4_get g (o0 + 1) x3 M2 (fun r6 M5 =>
            p_X7_isWithin g (r6 + x2) 0 999 M5 (fun r8 M7 =>
              inR r8 ∧ (r8 ≠ 0 →
                p_X0_canMove_L2 g n o0 x1 x2 (x3 + 1) M7 Q) ∧
              (r8 = 0 →
                Q 0 M7))))))
def p_X0_canMove (g : GG) (o0 : Nat) (x1 : Int) (x2 : Int) (M : Mm) (Q : Int → Mm → Prop) : Prop :=
  ∃ n9, p_X0_canMove_L2 g n9 o0 x1 x2 0 M Q
def rmX4_increase : Room := { frames := 2, cells := 0, slots := 0, locals := 35 }
def p_X4_increase (g : GG) (o0 : Nat) (x1 : Int) (x2 : Int) (M : Mm) (Q : Mm → Prop) : Prop :=
  p_X4_get g o0 x1 M (fun r2 M1 =>
    p_X4_put g o0 x1 (r2 + x2) M1 (fun M3 =>
      Q M3))
def rmX0_moveScene : Room := { frames := 6, cells := 0, slots := 0, locals := 123 }
def p_X0_moveScene_L2 (g : GG) : Nat → Nat → Int → Int → Int → Mm → (Mm → Prop) → Prop
  | 0, _, _, _, _, _, _ => False
  | n + 1, o0, x1, x2, x3, M, Q =>
    inR x3 ∧ inR (M o0 5) ∧ ((M o0 5) ≤ x3 →
      p_X0_putInOrder g o0 M (fun M1 =>
        Q M1)) ∧
    (x3 < (M o0 5) →
      p_X4_get g (o0 + 3) x3 M (fun r4 M3 =>
        inR r4 ∧ inR x1 ∧ (r4 ≠ x1 →
          p_X0_moveScene_L2 g n o0 x1 x2 (x3 + 1) M3 Q) ∧
        (r4 = x1 →
          p_X4_increase g (o0 + 1) x3 x2 M3 (fun M6 =>
            p_X0_moveScene_L2 g n o0 x1 x2 (x3 + 1) M6 Q))))
def p_X0_moveScene (g : GG) (o0 : Nat) (x1 : Int) (x2 : Int) (M : Mm) (Q : Mm → Prop) : Prop :=
  ∃ n7, p_X0_moveScene_L2 g n7 o0 x1 x2 0 M Q
def rmX0_timesIn : Room := { frames := 2, cells := 0, slots := 0, locals := 34 }
def p_X0_timesIn_L5 (g : GG) : Nat → Nat → Nat → Int → Int → Int → Mm → (Int → Mm → Prop) → Prop
  | 0, _, _, _, _, _, _, _ => False
  | n + 1, o0, o1, x2, x3, x4, M, Q =>
    inR x4 ∧ inR (M o0 5) ∧ ((M o0 5) ≤ x4 →
      Q x3 M) ∧
    (x4 < (M o0 5) →
      p_X4_get g o1 x4 M (fun r2 M1 =>
        inR r2 ∧ inR x2 ∧ (r2 ≠ x2 →
          p_X0_timesIn_L5 g n o0 o1 x2 x3 (x4 + 1) M1 Q) ∧
        (r2 = x2 →
          p_X0_timesIn_L5 g n o0 o1 x2 (x3 + 1) (x4 + 1) M1 Q)))
def p_X0_timesIn (g : GG) (o0 : Nat) (o1 : Nat) (x2 : Int) (M : Mm) (Q : Int → Mm → Prop) : Prop :=
  ∃ n3, p_X0_timesIn_L5 g n3 o0 o1 x2 0 0 M Q
def rmX0_sizeOfScene : Room := { frames := 3, cells := 0, slots := 0, locals := 58 }
def p_X0_sizeOfScene (g : GG) (o0 : Nat) (x1 : Int) (M : Mm) (Q : Int → Mm → Prop) : Prop :=
  p_X0_timesIn g o0 (o0 + 3) x1 M (fun r3 M2 =>
    Q r3 M2)
def rmX0_sizeOfSound : Room := { frames := 3, cells := 0, slots := 0, locals := 58 }
def p_X0_sizeOfSound (g : GG) (o0 : Nat) (x1 : Int) (M : Mm) (Q : Int → Mm → Prop) : Prop :=
  p_X0_timesIn g o0 (o0 + 5) x1 M (fun r3 M2 =>
    Q r3 M2)
def rmX0_firstTick : Room := { frames := 2, cells := 0, slots := 0, locals := 34 }
def p_X0_firstTick_L2 (g : GG) : Nat → Nat → Int → Int → Mm → (Int → Mm → Prop) → Prop
  | 0, _, _, _, _, _ => False
  | n + 1, o0, x1, x2, M, Q =>
    inR x2 ∧ inR (M o0 5) ∧ ((M o0 5) ≤ x2 →
      Q (-5) M) ∧
    (x2 < (M o0 5) →
      p_X4_get g (o0 + 3) x2 M (fun r3 M2 =>
        inR r3 ∧ inR x1 ∧ (r3 ≠ x1 →
          p_X0_firstTick_L2 g n o0 x1 (x2 + 1) M2 Q) ∧
        (r3 = x1 →
          p_X4_get g (o0 + 1) x2 M2 (fun r6 M5 =>
            Q r6 M5))))
def p_X0_firstTick (g : GG) (o0 : Nat) (x1 : Int) (M : Mm) (Q : Int → Mm → Prop) : Prop :=
  ∃ n7, p_X0_firstTick_L2 g n7 o0 x1 0 M Q
def rmX0_greatestEnd : Room := { frames := 3, cells := 0, slots := 0, locals := 55 }
def p_X0_greatestEnd_L5 (g : GG) : Nat → Nat → Int → Int → Int → Mm → (Int → Mm → Prop) → Prop
  | 0, _, _, _, _, _, _ => False
  | n + 1, o0, x1, x2, x3, M, Q =>
    inR x3 ∧ inR (M o0 5) ∧ ((M o0 5) ≤ x3 →
      Q x2 M) ∧
    (x3 < (M o0 5) →
      p_X4_get g (o0 + 3) x3 M (fun r3 M2 =>
        inR r3 ∧ inR x1 ∧ (r3 ≠ x1 →
          p_X0_greatestEnd_L5 g n o0 x1 x2 (x3 + 1) M2 Q) ∧
        (r3 = x1 →
          p_X0_endOf g o0 x3 M2 (fun r5 M4 =>
            inR x2 ∧ inR r5 ∧ 
            p_X0_greatestEnd_L5 g n o0 x1 (max x2 r5) (x3 + 1) M4 Q))))
def p_X0_greatestEnd (g : GG) (o0 : Nat) (x1 : Int) (M : Mm) (Q : Int → Mm → Prop) : Prop :=
  ∃ n6, p_X0_greatestEnd_L5 g n6 o0 x1 (-5) 0 M Q
def rmX7_isBelow : Room := { frames := 1, cells := 0, slots := 0, locals := 13 }
def p_X7_isBelow (g : GG) (x0 : Int) (x1 : Int) (M : Mm) (Q : Int → Mm → Prop) : Prop :=
  inR x0 ∧ (x0 < 0 →
    Q 0 M) ∧
  (0 ≤ x0 →
    inR x0 ∧ inR x1 ∧ (x1 ≤ x0 →
      Q 0 M) ∧
    (x0 < x1 →
      Q 1 M))
def rmX6_at : Room := { frames := 2, cells := 0, slots := 0, locals := 34 }
def p_X6_at (g : GG) (o0 : Nat) (x1 : Int) (M : Mm) (Q : Int → Mm → Prop) : Prop :=
  p_X7_isBelow g x1 (M o0 1) M (fun r2 M1 =>
    inR r2 ∧ (r2 = 0 →
      Q (-1) M1) ∧
    (r2 ≠ 0 →
      p_X4_get g (o0 + 1) x1 M1 (fun r5 M4 =>
        Q r5 M4)))
def rmX1_digitAt : Room := { frames := 3, cells := 0, slots := 0, locals := 55 }
def p_X1_digitAt (g : GG) (o0 : Nat) (x1 : Int) (M : Mm) (Q : Int → Mm → Prop) : Prop :=
  p_X6_at g o0 x1 M (fun r2 M1 =>
    p_X7_isWithin g r2 48 57 M1 (fun r4 M3 =>
      inR r4 ∧ (r4 = 0 →
        Q (-5) M3) ∧
      (r4 ≠ 0 →
        Q (r2 - 48) M3)))
def rmX1_readNumber : Room := { frames := 4, cells := 0, slots := 0, locals := 77 }
def p_X1_readNumber_L53 (g : GG) : Nat → Nat → Nat → Int → Int → Mm → (Int → Mm → Prop) → Prop
  | 0, _, _, _, _, _, _ => False
  | n + 1, o0, o1, x3, x4, M, Q =>
    inR x4 ∧ (x4 ≤ 0 →
      Q x4 M) ∧
    (0 < x4 →
      inR (M o0 1) ∧ inR (M o1 1) ∧ ((M o1 1) ≤ (M o0 1) →
        Q x4 M) ∧
      ((M o0 1) < (M o1 1) →
        p_X1_digitAt g o1 (M o0 1) M (fun r8 M7 =>
          inR r8 ∧ (r8 = (-5) →
            Q x4 M7) ∧
          (r8 ≠ (-5) →
            inR ((x4 * 10) + r8) ∧ inR x3 ∧ (((x4 * 10) + r8) ≤ x3 →
              ∀ M9 : Mm, M9 = mu M7 o0 1 ((M7 o0 1) + 1) →
              p_X1_readNumber_L53 g n o0 o1 x3 ((x4 * 10) + r8) M9 Q) ∧
            (x3 < ((x4 * 10) + r8) →
              Q x4 M7)))))
def p_X1_readNumber (g : GG) (o0 : Nat) (o1 : Nat) (x2 : Int) (x3 : Int) (M : Mm) (Q : Int → Mm → Prop) : Prop :=
  inR (M o0 2) ∧ ((M o0 2) = 0 →
    p_X1_digitAt g o1 (M o0 1) M (fun r2 M1 =>
      inR r2 ∧ (r2 = (-5) →
        ∀ M3 : Mm, M3 = mu M1 o0 2 1 →
        Q 0 M3) ∧
      (r2 ≠ (-5) →
        p_X7_isWithin g r2 x2 x3 M1 (fun r5 M4 =>
          inR r5 ∧ (r5 ≠ 0 →
            ∀ M6 : Mm, M6 = mu M4 o0 1 ((M4 o0 1) + 1) →
            ∃ n10, p_X1_readNumber_L53 g n10 o0 o1 x3 r2 M6 Q) ∧
          (r5 = 0 →
            ∀ M11 : Mm, M11 = mu M4 o0 2 1 →
            Q 0 M11))))) ∧
  ((M o0 2) ≠ 0 →
    Q 0 M)
def rmX1_readSign : Room := { frames := 3, cells := 0, slots := 0, locals := 55 }
def p_X1_readSign (g : GG) (o0 : Nat) (o1 : Nat) (x2 : Int) (M : Mm) (Q : Mm → Prop) : Prop :=
  inR (M o0 2) ∧ ((M o0 2) = 0 →
    p_X6_at g o1 (M o0 1) M (fun r2 M1 =>
      inR r2 ∧ inR x2 ∧ (r2 ≠ x2 →
        ∀ M3 : Mm, M3 = mu M1 o0 2 1 →
        Q M3) ∧
      (r2 = x2 →
        ∀ M4 : Mm, M4 = mu M1 o0 1 ((M1 o0 1) + 1) →
        Q M4))) ∧
  ((M o0 2) ≠ 0 →
    Q M)
def rmX1_addDraft : Room := { frames := 3, cells := 0, slots := 0, locals := 59 }
def p_X1_addDraft (g : GG) (o0 : Nat) (x1 : Int) (x2 : Int) (x3 : Int) (x4 : Int) (M : Mm) (Q : Mm → Prop) : Prop :=
  p_X0_has g (o0 + 1) x1 x2 x3 M (fun r3 M2 =>
    inR r3 ∧ (r3 = 0 →
      p_X0_append g (o0 + 1) x1 x2 x3 x4 M2 (fun M5 =>
        Q M5)) ∧
    (r3 ≠ 0 →
      ∀ M6 : Mm, M6 = mu M2 o0 3 1 →
      Q M6))
def rmX1_readCue : Room := { frames := 5, cells := 0, slots := 0, locals := 102 }
def p_X1_readCue_J85 (g : GG) (o0 : Nat) (x2 : Int) (x3 : Int) (x4 : Int) (x5 : Int) (M : Mm) (Q : Mm → Prop) : Prop :=
  inR (M o0 2) ∧ ((M o0 2) ≠ 0 →
    Q M) ∧
  ((M o0 2) = 0 →
    p_X1_addDraft g o0 x2 x3 x4 x5 M (fun M9 =>
      Q M9))
def p_X1_readCue (g : GG) (o0 : Nat) (o1 : Nat) (M : Mm) (Q : Mm → Prop) : Prop :=
  p_X1_readNumber g o0 o1 0 5 M (fun r2 M1 =>
    p_X1_readSign g o0 o1 64 M1 (fun M3 =>
      p_X1_readNumber g o0 o1 0 999 M3 (fun r5 M4 =>
        p_X1_readSign g o0 o1 115 M4 (fun M6 =>
          p_X1_readNumber g o0 o1 0 9 M6 (fun r8 M7 =>
            inR (M7 o0 2) ∧ ((M7 o0 2) ≠ 0 →
              p_X1_readCue_J85 g o0 r2 r5 r8 1 M7 Q) ∧
            ((M7 o0 2) = 0 →
              p_X6_at g o1 (M7 o0 1) M7 (fun r11 M10 =>
                inR r11 ∧ (r11 ≠ 42 →
                  p_X1_readCue_J85 g o0 r2 r5 r8 1 M10 Q) ∧
                (r11 = 42 →
                  ∀ M12 : Mm, M12 = mu M10 o0 1 ((M10 o0 1) + 1) →
                  p_X1_readNumber g o0 o1 1 20 M12 (fun r14 M13 =>
                    p_X1_readCue_J85 g o0 r2 r5 r8 r14 M13 Q)))))))))
def rmX1_readBehind : Room := { frames := 6, cells := 0, slots := 0, locals := 127 }
def p_X1_readBehind_J72 (g : GG) (o0 : Nat) (M : Mm) (Q : Mm → Prop) : Prop :=
  p_X0_putInOrder g (o0 + 1) M (fun M8 =>
    Q M8)
def p_X1_readBehind_L30 (g : GG) : Nat → Nat → Nat → Int → Mm → (Mm → Prop) → Prop
  | 0, _, _, _, _, _ => False
  | n + 1, o0, o2, x3, M, Q =>
    inR x3 ∧ (60 ≤ x3 →
      p_X1_readBehind_J72 g o0 M Q) ∧
    (x3 < 60 →
      inR (M o0 2) ∧ ((M o0 2) ≠ 0 →
        p_X1_readBehind_J72 g o0 M Q) ∧
      ((M o0 2) = 0 →
        inR (M o0 1) ∧ inR (M o2 1) ∧ ((M o2 1) ≤ (M o0 1) →
          p_X1_readBehind_J72 g o0 M Q) ∧
        ((M o0 1) < (M o2 1) →
          p_X1_readSign g o0 o2 44 M (fun M9 =>
            p_X1_readCue g o0 o2 M9 (fun M10 =>
              p_X1_readBehind_L30 g n o0 o2 (x3 + 1) M10 Q)))))
def p_X1_readBehind (g : GG) (o0 : Nat) (o1 : Nat) (o2 : Nat) (M : Mm) (Q : Mm → Prop) : Prop :=
  p_X0_copyFrom g (o0 + 1) o1 M (fun M2 =>
    ∀ M3 : Mm, M3 = mu M2 o0 1 0 →
    ∀ M4 : Mm, M4 = mu M3 o0 2 0 →
    ∀ M5 : Mm, M5 = mu M4 o0 3 0 →
    p_X1_readCue g o0 o2 M5 (fun M6 =>
      ∃ n11, p_X1_readBehind_L30 g n11 o0 o2 1 M6 Q))
def rmX2_dropOldest : Room := { frames := 1, cells := 0, slots := 0, locals := 13 }
def p_X2_dropOldest_L2 (g : GG) : Nat → Nat → Int → Mm → (Mm → Prop) → Prop
  | 0, _, _, _, _ => False
  | n + 1, o0, x1, M, Q =>
    inR x1 ∧ (((gl g (o0 + 1) : Nat) : Int) ≤ x1 →
      ∀ M2 : Mm, M2 = mu M o0 1 ((M o0 1) - 1) →
      Q M2) ∧
    (x1 < ((gl g (o0 + 1) : Nat) : Int) →
      0 ≤ (x1 - 1) ∧ (x1 - 1) < ((gl g (o0 + 1) : Nat) : Int) ∧ gk g (M (o0 + 1) (x1 - 1)).toNat = 5 ∧
      0 ≤ x1 ∧ x1 < ((gl g (o0 + 1) : Nat) : Int) ∧ gk g (M (o0 + 1) x1).toNat = 5 ∧
      0 ≤ (x1 - 1) ∧ (x1 - 1) < ((gl g (o0 + 1) : Nat) : Int) ∧ ∀ M8 : Mm, M8 = mu M (o0 + 1) (x1 - 1) ((((M (o0 + 1) x1).toNat) : Nat) : Int) →
      0 ≤ x1 ∧ x1 < ((gl g (o0 + 1) : Nat) : Int) ∧ ∀ M10 : Mm, M10 = mu M8 (o0 + 1) x1 ((((M (o0 + 1) (x1 - 1)).toNat) : Nat) : Int) →
      p_X2_dropOldest_L2 g n o0 (x1 + 1) M10 Q)
def p_X2_dropOldest (g : GG) (o0 : Nat) (M : Mm) (Q : Mm → Prop) : Prop :=
  ∃ n11, p_X2_dropOldest_L2 g n11 o0 1 M Q
def rmX2_at : Room := { frames := 1, cells := 0, slots := 0, locals := 13 }
def p_X2_at (g : GG) (o0 : Nat) (x1 : Int) (M : Mm) (Q : Option Nat → Mm → Prop) : Prop :=
  inR x1 ∧ (x1 < 0 →
    Q none M) ∧
  (0 ≤ x1 →
    inR x1 ∧ (((gl g (o0 + 1) : Nat) : Int) ≤ x1 →
      Q none M) ∧
    (x1 < ((gl g (o0 + 1) : Nat) : Int) →
      0 ≤ x1 ∧ x1 < ((gl g (o0 + 1) : Nat) : Int) ∧ gk g (M (o0 + 1) x1).toNat = 5 ∧
      Q (some ((M (o0 + 1) x1).toNat)) M))
def rmX5_copyFrom : Room := { frames := 3, cells := 0, slots := 0, locals := 91 }
def p_X5_copyFrom (g : GG) (o0 : Nat) (o1 : Nat) (M : Mm) (Q : Mm → Prop) : Prop :=
  p_X4_copyFrom g (o0 + 1) (o1 + 1) M (fun M3 =>
    p_X4_copyFrom g (o0 + 3) (o1 + 3) M3 (fun M6 =>
      p_X4_copyFrom g (o0 + 5) (o1 + 5) M6 (fun M9 =>
        p_X4_copyFrom g (o0 + 7) (o1 + 7) M9 (fun M12 =>
          p_X0_copyFrom g (o0 + 9) (o1 + 9) M12 (fun M15 =>
            ∀ M16 : Mm, M16 = mu M15 o0 5 (M15 o1 5) →
            ∀ M17 : Mm, M17 = mu M16 o0 6 (M16 o1 6) →
            ∀ M18 : Mm, M18 = mu M17 o0 7 (M17 o1 7) →
            ∀ M19 : Mm, M19 = mu M18 o0 8 (M18 o1 8) →
            ∀ M20 : Mm, M20 = mu M19 o0 9 (M19 o1 9) →
            ∀ M21 : Mm, M21 = mu M20 o0 10 (M20 o1 10) →
            Q M21)))))
def rmX2_record : Room := { frames := 4, cells := 0, slots := 0, locals := 112 }
def p_X2_record_J16 (g : GG) (o0 : Nat) (o1 : Nat) (M : Mm) (Q : Mm → Prop) : Prop :=
  p_X2_at g o0 (M o0 1) M (fun v_o M2 => (v_o = none →
      Q M2) ∧
    (∀ o3, v_o = some o3 → gk g o3 = 5 →
      p_X5_copyFrom g o3 o1 M2 (fun M5 =>
        ∀ M6 : Mm, M6 = mu M5 o0 1 ((M5 o0 1) + 1) →
        Q M6)))
def p_X2_record (g : GG) (o0 : Nat) (o1 : Nat) (M : Mm) (Q : Mm → Prop) : Prop :=
  inR (M o0 1) ∧ ((M o0 1) < ((gl g (o0 + 1) : Nat) : Int) →
    p_X2_record_J16 g o0 o1 M Q) ∧
  (((gl g (o0 + 1) : Nat) : Int) ≤ (M o0 1) →
    p_X2_dropOldest g o0 M (fun M7 =>
      p_X2_record_J16 g o0 o1 M7 Q))
def rmX2_moveLatestTo : Room := { frames := 4, cells := 0, slots := 0, locals := 112 }
def p_X2_moveLatestTo (g : GG) (o0 : Nat) (o1 : Nat) (M : Mm) (Q : Mm → Prop) : Prop :=
  p_X2_at g o0 ((M o0 1) - 1) M (fun v_o M1 => (v_o = none →
      Q M1) ∧
    (∀ o2, v_o = some o2 → gk g o2 = 5 →
      p_X5_copyFrom g o1 o2 M1 (fun M4 =>
        ∀ M5 : Mm, M5 = mu M4 o0 1 ((M4 o0 1) - 1) →
        Q M5)))
def rmX3_begin : Room := { frames := 2, cells := 0, slots := 0, locals := 70 }
def p_X3_begin_L18 (g : GG) : Nat → Nat → Nat → Int → Mm → (Mm → Prop) → Prop
  | 0, _, _, _, _, _ => False
  | n + 1, o0, o1, x3, M, Q =>
    inR x3 ∧ (4 ≤ x3 →
      Q M) ∧
    (x3 < 4 →
      inR x3 ∧ inR (M o1 5) ∧ (x3 < (M o1 5) →
        p_X4_get g (o1 + 7) x3 M (fun r8 M7 =>
          p_X4_put g (o0 + 7) x3 r8 M7 (fun M9 =>
            p_X3_begin_L18 g n o0 o1 (x3 + 1) M9 Q))) ∧
      ((M o1 5) ≤ x3 →
        p_X4_put g (o0 + 7) x3 x3 M (fun M11 =>
          p_X3_begin_L18 g n o0 o1 (x3 + 1) M11 Q)))
def p_X3_begin (g : GG) (o0 : Nat) (o1 : Nat) (x2 : Int) (M : Mm) (Q : Mm → Prop) : Prop :=
  ∀ M1 : Mm, M1 = mu M o0 12 x2 →
  p_X4_copyFrom g (o0 + 1) (o1 + 3) M1 (fun M4 =>
    ∃ n12, p_X3_begin_L18 g n12 o0 o1 0 M4 Q)
def rmX4_fill : Room := { frames := 1, cells := 0, slots := 0, locals := 13 }
def p_X4_fill_L2 (g : GG) : Nat → Nat → Int → Int → Mm → (Mm → Prop) → Prop
  | 0, _, _, _, _, _ => False
  | n + 1, o0, x1, x2, M, Q =>
    inR x2 ∧ (((gl g (o0 + 1) : Nat) : Int) ≤ x2 →
      Q M) ∧
    (x2 < ((gl g (o0 + 1) : Nat) : Int) →
      0 ≤ x2 ∧ x2 < ((gl g (o0 + 1) : Nat) : Int) ∧ ∀ M3 : Mm, M3 = mu M (o0 + 1) x2 x1 →
      p_X4_fill_L2 g n o0 x1 (x2 + 1) M3 Q)
def p_X4_fill (g : GG) (o0 : Nat) (x1 : Int) (M : Mm) (Q : Mm → Prop) : Prop :=
  ∃ n4, p_X4_fill_L2 g n4 o0 x1 0 M Q
def rmX3_wayTo : Room := { frames := 2, cells := 0, slots := 0, locals := 48 }
def p_X3_wayTo (g : GG) (o0 : Nat) (x1 : Int) (x2 : Int) (M : Mm) (Q : Int → Mm → Prop) : Prop :=
  p_X4_get g (o0 + 7) x2 M (fun r3 M2 =>
    inR (x1 - r3) ∧ 
    Q (if 0 ≤ (x1 - r3) then (x1 - r3) else 0 - (x1 - r3)) M2)
def rmX3_nearestHand : Room := { frames := 3, cells := 0, slots := 0, locals := 70 }
def p_X3_nearestHand_L9 (g : GG) : Nat → Nat → Int → Int → Int → Int → Int → Mm → (Int → Mm → Prop) → Prop
  | 0, _, _, _, _, _, _, _, _ => False
  | n + 1, o0, x1, x2, x3, x4, x5, M, Q =>
    inR x5 ∧ inR (M o0 12) ∧ ((M o0 12) ≤ x5 →
      Q x3 M) ∧
    (x5 < (M o0 12) →
      p_X3_wayTo g o0 x1 x5 M (fun r2 M1 =>
        inR r2 ∧ inR x4 ∧ (x4 ≤ r2 →
          p_X3_nearestHand_L9 g n o0 x1 x2 x3 x4 (x5 + 1) M1 Q) ∧
        (r2 < x4 →
          p_X4_get g (o0 + 9) x5 M1 (fun r5 M4 =>
            inR (x2 - r5) ∧ inR r2 ∧ ((x2 - r5) < r2 →
              p_X3_nearestHand_L9 g n o0 x1 x2 x3 x4 (x5 + 1) M4 Q) ∧
            (r2 ≤ (x2 - r5) →
              p_X3_nearestHand_L9 g n o0 x1 x2 x5 r2 (x5 + 1) M4 Q)))))
def p_X3_nearestHand (g : GG) (o0 : Nat) (x1 : Int) (x2 : Int) (M : Mm) (Q : Int → Mm → Prop) : Prop :=
  ∃ n6, p_X3_nearestHand_L9 g n6 o0 x1 x2 (-5) 5 0 M Q
def rmX3_isLent : Room := { frames := 2, cells := 0, slots := 0, locals := 34 }
def p_X3_isLent (g : GG) (o0 : Nat) (x1 : Int) (x2 : Int) (M : Mm) (Q : Int → Mm → Prop) : Prop :=
  p_X4_get g (o0 + 3) x1 M (fun r3 M2 =>
    inR r3 ∧ (r3 = (-1) →
      Q 0 M2) ∧
    (r3 ≠ (-1) →
      inR r3 ∧ inR x2 ∧ (r3 = x2 →
        Q 0 M2) ∧
      (r3 ≠ x2 →
        Q 1 M2)))
def rmX3_reasonToMiss : Room := { frames := 3, cells := 0, slots := 0, locals := 57 }
def p_X3_reasonToMiss_J78 (g : GG) (x3 : Int) (x5 : Int) (y0 : Int) (M : Mm) (Q : Int → Mm → Prop) : Prop :=
  inR x5 ∧ inR y0 ∧ (y0 ≤ x5 →
    inR x3 ∧ (x3 ≠ (-5) →
      Q 0 M) ∧
    (x3 = (-5) →
      Q 3 M)) ∧
  (x5 < y0 →
    Q 2 M)
def p_X3_reasonToMiss (g : GG) (o0 : Nat) (x1 : Int) (o2 : Nat) (x3 : Int) (M : Mm) (Q : Int → Mm → Prop) : Prop :=
  p_X4_get g ((o2 + 9) + 5) x1 M (fun r4 M3 =>
    p_X4_get g (o0 + 1) r4 M3 (fun r7 M6 =>
      inR r7 ∧ (0 < r7 →
        p_X4_get g ((o2 + 9) + 1) x1 M6 (fun r11 M10 =>
          p_X4_get g (o0 + 5) r4 M10 (fun r14 M13 =>
            p_X4_get g ((o2 + 9) + 3) x1 M13 (fun r18 M17 =>
              p_X3_isLent g o0 r4 r18 M17 (fun r20 M19 =>
                inR r20 ∧ (r20 = 0 →
                  p_X3_reasonToMiss_J78 g x3 (r11 - r14) 0 M19 Q) ∧
                (r20 ≠ 0 →
                  p_X3_reasonToMiss_J78 g x3 (r11 - r14) (M19 o2 6) M19 Q)))))) ∧
      (r7 ≤ 0 →
        Q 1 M6)))
def rmX3_play : Room := { frames := 3, cells := 0, slots := 0, locals := 70 }
def p_X3_play_J50 (g : GG) (o0 : Nat) (x1 : Int) (o2 : Nat) (x3 : Int) (x4 : Int) (x5 : Int) (x6 : Int) (x7 : Int) (M : Mm) (Q : Mm → Prop) : Prop :=
  p_X4_put g (o0 + 15) x1 x3 M (fun M12 =>
    p_X4_put g (o0 + 19) x1 x7 M12 (fun M14 =>
      p_X4_increase g (o0 + 11) x3 1 M14 (fun M16 =>
        p_X4_increase g (o0 + 13) x3 x7 M16 (fun M18 =>
          p_X4_put g (o0 + 7) x3 x4 M18 (fun M20 =>
            p_X0_endOf g o2 x1 M20 (fun r23 M22 =>
              p_X4_put g (o0 + 9) x3 r23 M22 (fun M24 =>
                p_X4_increase g (o0 + 1) x6 (-1) M24 (fun M26 =>
                  p_X4_put g (o0 + 3) x6 x5 M26 (fun M28 =>
                    p_X0_endOf g o2 x1 M28 (fun r31 M30 =>
                      p_X4_put g (o0 + 5) x6 r31 M30 (fun M32 =>
                        Q M32)))))))))))
def p_X3_play (g : GG) (o0 : Nat) (x1 : Int) (o2 : Nat) (x3 : Int) (x4 : Int) (M : Mm) (Q : Mm → Prop) : Prop :=
  p_X4_get g (o2 + 3) x1 M (fun r3 M2 =>
    p_X4_get g (o2 + 5) x1 M2 (fun r6 M5 =>
      p_X3_wayTo g o0 x4 x3 M5 (fun r8 M7 =>
        p_X3_isLent g o0 r6 r3 M7 (fun r10 M9 =>
          inR r10 ∧ (r10 = 0 →
            p_X3_play_J50 g o0 x1 o2 x3 x4 r3 r6 r8 M9 Q) ∧
          (r10 ≠ 0 →
            p_X4_increase g (o0 + 23) r3 1 M9 (fun M34 =>
              p_X3_play_J50 g o0 x1 o2 x3 x4 r3 r6 r8 M34 Q))))))
def rmX3_miss : Room := { frames := 3, cells := 0, slots := 0, locals := 57 }
def p_X3_miss (g : GG) (o0 : Nat) (x1 : Int) (o2 : Nat) (M : Mm) (Q : Mm → Prop) : Prop :=
  p_X4_put g (o0 + 15) x1 (-5) M (fun M2 =>
    p_X4_put g (o0 + 19) x1 (-5) M2 (fun M4 =>
      p_X4_get g ((o2 + 9) + 3) x1 M4 (fun r9 M8 =>
        p_X4_increase g (o0 + 21) r9 1 M8 (fun M10 =>
          ∀ M11 : Mm, M11 = mu M10 o0 13 ((M10 o0 13) + 1) →
          p_X4_get g ((o2 + 9) + 5) x1 M11 (fun r16 M15 =>
            p_X4_get g (o2 + 5) r16 M15 (fun r18 M17 =>
              ∀ M19 : Mm, M19 = mu M17 o0 14 ((M11 o0 14) + r18) →
              Q M19))))))
def rmX3_doCue : Room := { frames := 4, cells := 0, slots := 0, locals := 97 }
def p_X3_doCue (g : GG) (o0 : Nat) (x1 : Int) (o2 : Nat) (M : Mm) (Q : Mm → Prop) : Prop :=
  p_X4_get g ((o2 + 9) + 5) x1 M (fun r5 M4 =>
    p_X4_get g (o2 + 1) r5 M4 (fun r7 M6 =>
      p_X4_get g ((o2 + 9) + 1) x1 M6 (fun r11 M10 =>
        p_X3_nearestHand g o0 r7 r11 M10 (fun r13 M12 =>
          p_X3_reasonToMiss g o0 x1 o2 r13 M12 (fun r15 M14 =>
            p_X4_put g (o0 + 17) x1 r15 M14 (fun M17 =>
              inR r15 ∧ (r15 ≠ 0 →
                p_X3_miss g o0 x1 o2 M17 (fun M18 =>
                  Q M18)) ∧
              (r15 = 0 →
                p_X3_play g o0 x1 (o2 + 9) r13 r7 M17 (fun M20 =>
                  Q M20))))))))
def rmX3_playTake : Room := { frames := 5, cells := 0, slots := 0, locals := 122 }
def p_X3_playTake_L68 (g : GG) : Nat → Nat → Nat → Int → Mm → (Mm → Prop) → Prop
  | 0, _, _, _, _, _ => False
  | n + 1, o0, o1, x2, M, Q =>
    inR x2 ∧ inR (M (o1 + 9) 5) ∧ ((M (o1 + 9) 5) ≤ x2 →
      Q M) ∧
    (x2 < (M (o1 + 9) 5) →
      p_X3_doCue g o0 x2 o1 M (fun M18 =>
        p_X3_playTake_L68 g n o0 o1 (x2 + 1) M18 Q))
def p_X3_playTake (g : GG) (o0 : Nat) (o1 : Nat) (M : Mm) (Q : Mm → Prop) : Prop :=
  p_X4_fill g (o0 + 3) (-1) M (fun M2 =>
    p_X4_fill g (o0 + 5) 0 M2 (fun M4 =>
      p_X4_fill g (o0 + 9) 0 M4 (fun M6 =>
        p_X4_fill g (o0 + 11) 0 M6 (fun M8 =>
          p_X4_fill g (o0 + 13) 0 M8 (fun M10 =>
            p_X4_fill g (o0 + 21) 0 M10 (fun M12 =>
              p_X4_fill g (o0 + 23) 0 M12 (fun M14 =>
                ∀ M15 : Mm, M15 = mu M14 o0 13 0 →
                ∀ M16 : Mm, M16 = mu M15 o0 14 0 →
                ∃ n19, p_X3_playTake_L68 g n19 o0 o1 0 M16 Q)))))))
def rmX3_playsOfSound : Room := { frames := 2, cells := 0, slots := 0, locals := 34 }
def p_X3_playsOfSound_L5 (g : GG) : Nat → Nat → Int → Nat → Int → Int → Mm → (Int → Mm → Prop) → Prop
  | 0, _, _, _, _, _, _, _ => False
  | n + 1, o0, x1, o2, x3, x4, M, Q =>
    inR x4 ∧ inR (M o2 5) ∧ ((M o2 5) ≤ x4 →
      Q x3 M) ∧
    (x4 < (M o2 5) →
      p_X4_get g (o2 + 5) x4 M (fun r3 M2 =>
        inR r3 ∧ inR x1 ∧ (r3 ≠ x1 →
          p_X3_playsOfSound_L5 g n o0 x1 o2 x3 (x4 + 1) M2 Q) ∧
        (r3 = x1 →
          p_X4_get g (o0 + 17) x4 M2 (fun r6 M5 =>
            inR r6 ∧ (r6 ≠ 0 →
              p_X3_playsOfSound_L5 g n o0 x1 o2 x3 (x4 + 1) M5 Q) ∧
            (r6 = 0 →
              p_X3_playsOfSound_L5 g n o0 x1 o2 (x3 + 1) (x4 + 1) M5 Q)))))
def p_X3_playsOfSound (g : GG) (o0 : Nat) (x1 : Int) (o2 : Nat) (M : Mm) (Q : Int → Mm → Prop) : Prop :=
  ∃ n7, p_X3_playsOfSound_L5 g n7 o0 x1 o2 0 0 M Q
def rmX3_missedCue : Room := { frames := 2, cells := 0, slots := 0, locals := 34 }
def p_X3_missedCue_L5 (g : GG) : Nat → Nat → Int → Int → Int → Int → Mm → (Int → Mm → Prop) → Prop
  | 0, _, _, _, _, _, _, _ => False
  | n + 1, o0, x1, x2, x3, x4, M, Q =>
    inR x4 ∧ inR x2 ∧ (x2 ≤ x4 →
      Q (-5) M) ∧
    (x4 < x2 →
      p_X4_get g (o0 + 17) x4 M (fun r3 M2 =>
        inR r3 ∧ (r3 = 0 →
          p_X3_missedCue_L5 g n o0 x1 x2 x3 (x4 + 1) M2 Q) ∧
        (r3 ≠ 0 →
          inR x3 ∧ inR x1 ∧ (x3 ≠ x1 →
            p_X3_missedCue_L5 g n o0 x1 x2 (x3 + 1) (x4 + 1) M2 Q) ∧
          (x3 = x1 →
            Q x4 M2))))
def p_X3_missedCue (g : GG) (o0 : Nat) (x1 : Int) (x2 : Int) (M : Mm) (Q : Int → Mm → Prop) : Prop :=
  ∃ n4, p_X3_missedCue_L5 g n4 o0 x1 x2 0 0 M Q
def rmX4_sum : Room := { frames := 1, cells := 0, slots := 0, locals := 13 }
def p_X4_sum_L4 (g : GG) : Nat → Nat → Int → Int → Mm → (Int → Mm → Prop) → Prop
  | 0, _, _, _, _, _ => False
  | n + 1, o0, x1, x2, M, Q =>
    inR x2 ∧ (((gl g (o0 + 1) : Nat) : Int) ≤ x2 →
      Q x1 M) ∧
    (x2 < ((gl g (o0 + 1) : Nat) : Int) →
      0 ≤ x2 ∧ x2 < ((gl g (o0 + 1) : Nat) : Int) ∧
      p_X4_sum_L4 g n o0 (x1 + (M (o0 + 1) x2)) (x2 + 1) M Q)
def p_X4_sum (g : GG) (o0 : Nat) (M : Mm) (Q : Int → Mm → Prop) : Prop :=
  ∃ n3, p_X4_sum_L4 g n3 o0 0 0 M Q
def rmX5_soundRow : Room := { frames := 1, cells := 0, slots := 0, locals := 13 }
def p_X5_soundRow (g : GG) (o0 : Nat) (x1 : Int) (M : Mm) (Q : Nat → Mm → Prop) : Prop :=
  inR x1 ∧
  (x1 = 0 →
    Q (o0 + 1) M) ∧
  (x1 = 1 →
    Q (o0 + 3) M) ∧
  (x1 ≠ 0 ∧ x1 ≠ 1 →
    Q (o0 + 5) M)
def rmX6_append : Room := { frames := 2, cells := 0, slots := 0, locals := 35 }
def p_X6_append (g : GG) (o0 : Nat) (x1 : Int) (M : Mm) (Q : Mm → Prop) : Prop :=
  inR (M o0 1) ∧ (60 ≤ (M o0 1) →
    Q M) ∧
  ((M o0 1) < 60 →
    p_X4_put g (o0 + 1) (M o0 1) x1 M (fun M2 =>
      ∀ M3 : Mm, M3 = mu M2 o0 1 ((M2 o0 1) + 1) →
      Q M3))
def rmX7_isSoundValue : Room := { frames := 2, cells := 0, slots := 0, locals := 35 }
def p_X7_isSoundValue (g : GG) (x0 : Int) (x1 : Int) (M : Mm) (Q : Int → Mm → Prop) : Prop :=
  inR x0 ∧
  (x0 = 0 →
    p_X7_isBelow g x1 5 M (fun r2 M1 =>
      (r2 = 0 ∨ r2 = 1) ∧ Q r2 M1)) ∧
  (x0 = 1 →
    p_X7_isWithin g x1 0 30 M (fun r4 M3 =>
      (r4 = 0 ∨ r4 = 1) ∧ Q r4 M3)) ∧
  (x0 = 2 →
    p_X7_isWithin g x1 1 9 M (fun r6 M5 =>
      (r6 = 0 ∨ r6 = 1) ∧ Q r6 M5)) ∧
  ((x0 < 0 ∨ 2 < x0) →
    Q 0 M)
def rmX7_setSound : Room := { frames := 5, cells := 0, slots := 0, locals := 134 }
def p_X7_setSound (g : GG) (o0 : Nat) (x1 : Int) (x2 : Int) (x3 : Int) (M : Mm) (Q : Int → Mm → Prop) : Prop :=
  p_X7_isBelow g x1 10 M (fun r2 M1 =>
    inR r2 ∧ (r2 ≠ 0 →
      p_X7_isSoundValue g x2 x3 M1 (fun r4 M3 =>
        inR r4 ∧ (r4 ≠ 0 →
          p_X5_soundRow g (o0 + 1) x2 M3 (fun o7 M6 => gk g o7 = 4 →
            p_X4_get g o7 x1 M6 (fun r10 M9 =>
              inR r10 ∧ inR x3 ∧ (r10 ≠ x3 →
                p_X2_record g (o0 + 37) (o0 + 1) M9 (fun M13 =>
                  p_X4_put g o7 x1 x3 M13 (fun M14 =>
                    Q r10 M14))) ∧
              (r10 = x3 →
                Q (-5) M9)))) ∧
        (r4 = 0 →
          Q (-2) M3))) ∧
    (r2 = 0 →
      Q (-1) M1))
def rmX7_setHands : Room := { frames := 5, cells := 0, slots := 0, locals := 134 }
def p_X7_setHands_L41 (g : GG) : Nat → Nat → Int → Int → Int → Mm → (Int → Mm → Prop) → Prop
  | 0, _, _, _, _, _, _ => False
  | n + 1, o0, x1, x2, x3, M, Q =>
    inR x3 ∧ inR x1 ∧ (x1 ≤ x3 →
      ∀ M8 : Mm, M8 = mu M (o0 + 1) 5 x1 →
      Q x2 M8) ∧
    (x3 < x1 →
      p_X4_put g ((o0 + 1) + 7) x3 x3 M (fun M11 =>
        p_X7_setHands_L41 g n o0 x1 x2 (x3 + 1) M11 Q))
def p_X7_setHands (g : GG) (o0 : Nat) (x1 : Int) (M : Mm) (Q : Int → Mm → Prop) : Prop :=
  p_X7_isWithin g x1 1 4 M (fun r2 M1 =>
    inR r2 ∧ (r2 ≠ 0 →
      inR (M1 (o0 + 1) 5) ∧ inR x1 ∧ ((M1 (o0 + 1) 5) ≠ x1 →
        p_X2_record g (o0 + 37) (o0 + 1) M1 (fun M6 =>
          ∃ n12, p_X7_setHands_L41 g n12 o0 x1 (M1 (o0 + 1) 5) (M1 (o0 + 1) 5) M6 Q)) ∧
      ((M1 (o0 + 1) 5) = x1 →
        Q (-5) M1)) ∧
    (r2 = 0 →
      Q (-2) M1))
def rmX7_send : Room := { frames := 5, cells := 0, slots := 0, locals := 134 }
def p_X7_send (g : GG) (o0 : Nat) (x1 : Int) (x2 : Int) (M : Mm) (Q : Int → Mm → Prop) : Prop :=
  p_X7_isBelow g x1 (M (o0 + 1) 5) M (fun r3 M2 =>
    inR r3 ∧ (r3 = 0 →
      Q (-1) M2) ∧
    (r3 ≠ 0 →
      p_X7_isBelow g x2 5 M2 (fun r5 M4 =>
        inR r5 ∧ (r5 ≠ 0 →
          p_X4_get g ((o0 + 1) + 7) x1 M4 (fun r9 M8 =>
            inR r9 ∧ inR x2 ∧ (r9 ≠ x2 →
              p_X2_record g (o0 + 37) (o0 + 1) M8 (fun M12 =>
                p_X4_put g ((o0 + 1) + 7) x1 x2 M12 (fun M15 =>
                  Q r9 M15))) ∧
            (r9 = x2 →
              Q (-5) M8))) ∧
        (r5 = 0 →
          Q (-1) M4))))
def rmX7_setCarrying : Room := { frames := 5, cells := 0, slots := 0, locals := 134 }
def p_X7_setCarrying (g : GG) (o0 : Nat) (x1 : Int) (M : Mm) (Q : Int → Mm → Prop) : Prop :=
  p_X7_isWithin g x1 0 20 M (fun r2 M1 =>
    inR r2 ∧ (r2 ≠ 0 →
      inR (M1 (o0 + 1) 6) ∧ inR x1 ∧ ((M1 (o0 + 1) 6) ≠ x1 →
        p_X2_record g (o0 + 37) (o0 + 1) M1 (fun M6 =>
          ∀ M8 : Mm, M8 = mu M6 (o0 + 1) 6 x1 →
          Q (M1 (o0 + 1) 6) M8)) ∧
      ((M1 (o0 + 1) 6) = x1 →
        Q (-5) M1)) ∧
    (r2 = 0 →
      Q (-2) M1))
def rmX7_readCues : Room := { frames := 7, cells := 0, slots := 0, locals := 150 }
def p_X7_readCues (g : GG) (o0 : Nat) (M : Mm) (Q : Int → Mm → Prop) : Prop :=
  p_X1_readBehind g (o0 + 114) ((o0 + 1) + 9) (o0 + 111) M (fun M5 =>
    inR (M5 (o0 + 114) 2) ∧ ((M5 (o0 + 114) 2) = 0 →
      inR (M5 (o0 + 114) 3) ∧ ((M5 (o0 + 114) 3) = 0 →
        inR (M5 ((o0 + 114) + 1) 5) ∧ ((M5 ((o0 + 114) + 1) 5) ≤ 40 →
          p_X2_record g (o0 + 37) (o0 + 1) M5 (fun M12 =>
            p_X0_copyFrom g ((o0 + 1) + 9) ((o0 + 114) + 1) M12 (fun M17 =>
              Q (M17 ((o0 + 1) + 9) 5) M17))) ∧
        (40 < (M5 ((o0 + 114) + 1) 5) →
          Q (-3) M5)) ∧
      ((M5 (o0 + 114) 3) ≠ 0 →
        Q (-4) M5)) ∧
    ((M5 (o0 + 114) 2) ≠ 0 →
      Q ((-100) - (M5 (o0 + 114) 1)) M5))
def rmX7_removeCue : Room := { frames := 5, cells := 0, slots := 0, locals := 134 }
def p_X7_removeCue (g : GG) (o0 : Nat) (x1 : Int) (M : Mm) (Q : Int → Mm → Prop) : Prop :=
  p_X7_isBelow g x1 (M ((o0 + 1) + 9) 5) M (fun r4 M3 =>
    inR r4 ∧ (r4 ≠ 0 →
      p_X2_record g (o0 + 37) (o0 + 1) M3 (fun M7 =>
        p_X0_removeAt g ((o0 + 1) + 9) x1 M7 (fun M10 =>
          Q (M10 ((o0 + 1) + 9) 5) M10))) ∧
    (r4 = 0 →
      Q (-1) M3))
def rmX7_shift : Room := { frames := 7, cells := 0, slots := 0, locals := 146 }
def p_X7_shift (g : GG) (o0 : Nat) (x1 : Int) (x2 : Int) (M : Mm) (Q : Int → Mm → Prop) : Prop :=
  p_X7_isBelow g x1 6 M (fun r2 M1 =>
    inR r2 ∧ (r2 ≠ 0 →
      p_X7_isWithin g x2 (-99) 99 M1 (fun r4 M3 =>
        inR r4 ∧ (r4 ≠ 0 →
          p_X0_canMove g ((o0 + 1) + 9) x1 x2 M3 (fun r8 M7 =>
            inR r8 ∧ (r8 ≠ 0 →
              p_X0_sizeOfScene g ((o0 + 1) + 9) x1 M7 (fun r12 M11 =>
                inR x2 ∧ (x2 = 0 →
                  Q (-5) M11) ∧
                (x2 ≠ 0 →
                  inR r12 ∧ (r12 ≠ 0 →
                    p_X2_record g (o0 + 37) (o0 + 1) M11 (fun M15 =>
                      p_X0_moveScene g ((o0 + 1) + 9) x1 x2 M15 (fun M18 =>
                        Q r12 M18))) ∧
                  (r12 = 0 →
                    Q (-5) M11)))) ∧
            (r8 = 0 →
              Q (-4) M7))) ∧
        (r4 = 0 →
          Q (-2) M3))) ∧
    (r2 = 0 →
      Q (-1) M1))
def rmX7_cutScene : Room := { frames := 5, cells := 0, slots := 0, locals := 134 }
def p_X7_cutScene (g : GG) (o0 : Nat) (x1 : Int) (M : Mm) (Q : Int → Mm → Prop) : Prop :=
  p_X7_isBelow g x1 6 M (fun r2 M1 =>
    inR r2 ∧ (r2 ≠ 0 →
      p_X0_sizeOfScene g ((o0 + 1) + 9) x1 M1 (fun r6 M5 =>
        inR r6 ∧ (r6 ≠ 0 →
          p_X2_record g (o0 + 37) (o0 + 1) M5 (fun M9 =>
            p_X0_removeScene g ((o0 + 1) + 9) x1 M9 (fun M12 =>
              Q r6 M12))) ∧
        (r6 = 0 →
          Q (-5) M5))) ∧
    (r2 = 0 →
      Q (-1) M1))
def rmX7_rehearse : Room := { frames := 6, cells := 0, slots := 0, locals := 144 }
def p_X7_rehearse (g : GG) (o0 : Nat) (x1 : Int) (M : Mm) (Q : Mm → Prop) : Prop :=
  p_X3_begin g (o0 + 124) (o0 + 1) x1 M (fun M3 =>
    p_X3_playTake g (o0 + 124) (o0 + 1) M3 (fun M6 =>
      Q M6))
def rmX7_take : Room := { frames := 7, cells := 0, slots := 0, locals := 165 }
def p_X7_take (g : GG) (o0 : Nat) (M : Mm) (Q : Int → Mm → Prop) : Prop :=
  inR (M ((o0 + 1) + 9) 5) ∧ ((M ((o0 + 1) + 9) 5) ≠ 0 →
    p_X2_record g (o0 + 37) (o0 + 1) M (fun M5 =>
      p_X7_rehearse g o0 (M5 (o0 + 1) 5) M5 (fun M7 =>
        p_X4_copyFrom g ((o0 + 1) + 3) ((o0 + 124) + 1) M7 (fun M12 =>
          p_X4_copyFrom g ((o0 + 1) + 7) ((o0 + 124) + 7) M12 (fun M17 =>
            ∀ M19 : Mm, M19 = mu M17 (o0 + 1) 7 ((M17 (o0 + 1) 7) + 1) →
            ∀ M24 : Mm, M24 = mu M19 (o0 + 1) 8 ((M19 (o0 + 1) 8) + ((M19 ((o0 + 1) + 9) 5) - (M19 (o0 + 124) 13))) →
            ∀ M27 : Mm, M27 = mu M24 (o0 + 1) 9 ((M24 (o0 + 1) 9) + (M24 (o0 + 124) 13)) →
            ∀ M30 : Mm, M30 = mu M27 (o0 + 1) 10 ((M27 (o0 + 1) 10) + (M27 (o0 + 124) 14)) →
            Q (M30 (o0 + 124) 13) M30))))) ∧
  ((M ((o0 + 1) + 9) 5) = 0 →
    Q (-4) M)
def rmX7_type : Room := { frames := 3, cells := 0, slots := 0, locals := 56 }
def p_X7_type (g : GG) (o0 : Nat) (x1 : Int) (M : Mm) (Q : Int → Mm → Prop) : Prop :=
  inR (M (o0 + 111) 1) ∧ ((M (o0 + 111) 1) < 60 →
    p_X6_append g (o0 + 111) x1 M (fun M3 =>
      Q (M3 (o0 + 111) 1) M3)) ∧
  (60 ≤ (M (o0 + 111) 1) →
    Q (-3) M)
def rmX7_clearText : Room := { frames := 1, cells := 0, slots := 0, locals := 13 }
def p_X7_clearText (g : GG) (o0 : Nat) (M : Mm) (Q : Int → Mm → Prop) : Prop :=
  ∀ M3 : Mm, M3 = mu M (o0 + 111) 1 0 →
  Q (M (o0 + 111) 1) M3
def rmX7_undo : Room := { frames := 5, cells := 0, slots := 0, locals := 134 }
def p_X7_undo (g : GG) (o0 : Nat) (M : Mm) (Q : Int → Mm → Prop) : Prop :=
  inR (M (o0 + 37) 1) ∧ ((M (o0 + 37) 1) ≠ 0 →
    p_X2_moveLatestTo g (o0 + 37) (o0 + 1) M (fun M4 =>
      Q (M4 (o0 + 37) 1) M4)) ∧
  ((M (o0 + 37) 1) = 0 →
    Q (-5) M)
def rmX7_keep : Room := { frames := 4, cells := 0, slots := 0, locals := 112 }
def p_X7_keep (g : GG) (o0 : Nat) (M : Mm) (Q : Int → Mm → Prop) : Prop :=
  p_X5_copyFrom g (o0 + 19) (o0 + 1) M (fun M3 =>
    ∀ M4 : Mm, M4 = mu M3 o0 6 1 →
    Q (M4 ((o0 + 1) + 9) 5) M4)
def rmX7_restore : Room := { frames := 5, cells := 0, slots := 0, locals := 134 }
def p_X7_restore (g : GG) (o0 : Nat) (M : Mm) (Q : Int → Mm → Prop) : Prop :=
  inR (M o0 6) ∧ ((M o0 6) ≠ 0 →
    p_X2_record g (o0 + 37) (o0 + 1) M (fun M3 =>
      p_X5_copyFrom g (o0 + 1) (o0 + 19) M3 (fun M6 =>
        Q (M6 ((o0 + 1) + 9) 5) M6))) ∧
  ((M o0 6) = 0 →
    Q (-5) M)
def rmX7_sound : Room := { frames := 7, cells := 0, slots := 0, locals := 165 }
def p_X7_sound (g : GG) (o0 : Nat) (x1 : Int) (x2 : Int) (M : Mm) (Q : Int → Mm → Prop) : Prop :=
  p_X7_isBelow g x1 10 M (fun r2 M1 =>
    inR r2 ∧ (r2 ≠ 0 →
      inR x2 ∧
      (x2 = 0 →
        p_X5_soundRow g (o0 + 1) x2 M1 (fun o5 M4 => gk g o5 = 4 →
          p_X4_get g o5 x1 M4 (fun r8 M7 =>
            Q r8 M7))) ∧
      (x2 = 1 →
        p_X5_soundRow g (o0 + 1) x2 M1 (fun o11 M10 => gk g o11 = 4 →
          p_X4_get g o11 x1 M10 (fun r14 M13 =>
            Q r14 M13))) ∧
      (x2 = 2 →
        p_X5_soundRow g (o0 + 1) x2 M1 (fun o17 M16 => gk g o17 = 4 →
          p_X4_get g o17 x1 M16 (fun r20 M19 =>
            Q r20 M19))) ∧
      (x2 = 3 →
        p_X0_sizeOfSound g ((o0 + 1) + 9) x1 M1 (fun r24 M23 =>
          Q r24 M23)) ∧
      (x2 = 4 →
        p_X7_rehearse g o0 (M1 (o0 + 1) 5) M1 (fun M26 =>
          p_X3_playsOfSound g (o0 + 124) x1 ((o0 + 1) + 9) M26 (fun r31 M30 =>
            Q r31 M30))) ∧
      (x2 = 5 →
        p_X0_sizeOfSound g ((o0 + 1) + 9) x1 M1 (fun r35 M34 =>
          p_X4_get g ((o0 + 1) + 3) x1 M34 (fun r39 M38 =>
            inR (r35 - r39) ∧ 
            Q (max (r35 - r39) 0) M38))) ∧
      ((x2 < 0 ∨ 5 < x2) →
        Q (-2) M1)) ∧
    (r2 = 0 →
      Q (-1) M1))
def rmX7_cue : Room := { frames := 7, cells := 0, slots := 0, locals := 165 }
def p_X7_cue (g : GG) (o0 : Nat) (x1 : Int) (x2 : Int) (M : Mm) (Q : Int → Mm → Prop) : Prop :=
  p_X7_isBelow g x1 (M ((o0 + 1) + 9) 5) M (fun r4 M3 =>
    inR r4 ∧ (r4 ≠ 0 →
      inR x2 ∧
      (x2 = 0 →
        p_X4_get g (((o0 + 1) + 9) + 3) x1 M3 (fun r9 M8 =>
          Q r9 M8)) ∧
      (x2 = 1 →
        p_X4_get g (((o0 + 1) + 9) + 1) x1 M3 (fun r14 M13 =>
          Q r14 M13)) ∧
      (x2 = 2 →
        p_X4_get g (((o0 + 1) + 9) + 5) x1 M3 (fun r19 M18 =>
          Q r19 M18)) ∧
      (x2 = 3 →
        p_X4_get g (((o0 + 1) + 9) + 7) x1 M3 (fun r24 M23 =>
          Q r24 M23)) ∧
      (x2 = 4 →
        p_X7_rehearse g o0 (M3 (o0 + 1) 5) M3 (fun M26 =>
          p_X4_get g ((o0 + 124) + 15) x1 M26 (fun r30 M29 =>
            Q r30 M29))) ∧
      (x2 = 5 →
        p_X7_rehearse g o0 (M3 (o0 + 1) 5) M3 (fun M32 =>
          p_X4_get g ((o0 + 124) + 17) x1 M32 (fun r36 M35 =>
            Q r36 M35))) ∧
      (x2 = 6 →
        p_X7_rehearse g o0 (M3 (o0 + 1) 5) M3 (fun M38 =>
          p_X4_get g ((o0 + 124) + 19) x1 M38 (fun r42 M41 =>
            Q r42 M41))) ∧
      ((x2 < 0 ∨ 6 < x2) →
        Q (-2) M3)) ∧
    (r4 = 0 →
      Q (-1) M3))
def rmX7_hand : Room := { frames := 7, cells := 0, slots := 0, locals := 165 }
def p_X7_hand (g : GG) (o0 : Nat) (x1 : Int) (x2 : Int) (M : Mm) (Q : Int → Mm → Prop) : Prop :=
  p_X7_isBelow g x1 (M (o0 + 1) 5) M (fun r3 M2 =>
    inR r3 ∧ (r3 ≠ 0 →
      p_X7_rehearse g o0 (M2 (o0 + 1) 5) M2 (fun M5 =>
        inR x2 ∧
        (x2 = 0 →
          p_X4_get g ((o0 + 1) + 7) x1 M5 (fun r9 M8 =>
            Q r9 M8)) ∧
        (x2 = 1 →
          p_X4_get g ((o0 + 124) + 11) x1 M5 (fun r13 M12 =>
            Q r13 M12)) ∧
        (x2 = 2 →
          p_X4_get g ((o0 + 124) + 13) x1 M5 (fun r17 M16 =>
            Q r17 M16)) ∧
        (x2 = 3 →
          p_X4_get g ((o0 + 124) + 9) x1 M5 (fun r21 M20 =>
            Q r21 M20)) ∧
        (x2 = 4 →
          p_X4_get g ((o0 + 124) + 7) x1 M5 (fun r25 M24 =>
            Q r25 M24)) ∧
        ((x2 < 0 ∨ 4 < x2) →
          Q (-2) M5))) ∧
    (r3 = 0 →
      Q (-1) M2))
def rmX7_scene : Room := { frames := 7, cells := 0, slots := 0, locals := 165 }
def p_X7_scene (g : GG) (o0 : Nat) (x1 : Int) (x2 : Int) (M : Mm) (Q : Int → Mm → Prop) : Prop :=
  p_X7_isBelow g x1 6 M (fun r2 M1 =>
    inR r2 ∧ (r2 ≠ 0 →
      inR x2 ∧
      (x2 = 0 →
        p_X0_sizeOfScene g ((o0 + 1) + 9) x1 M1 (fun r6 M5 =>
          Q r6 M5)) ∧
      (x2 = 1 →
        p_X0_firstTick g ((o0 + 1) + 9) x1 M1 (fun r10 M9 =>
          Q r10 M9)) ∧
      (x2 = 2 →
        p_X0_greatestEnd g ((o0 + 1) + 9) x1 M1 (fun r14 M13 =>
          Q r14 M13)) ∧
      (x2 = 3 →
        p_X7_rehearse g o0 (M1 (o0 + 1) 5) M1 (fun M16 =>
          p_X4_get g ((o0 + 124) + 21) x1 M16 (fun r20 M19 =>
            Q r20 M19))) ∧
      (x2 = 4 →
        p_X7_rehearse g o0 (M1 (o0 + 1) 5) M1 (fun M22 =>
          p_X4_get g ((o0 + 124) + 23) x1 M22 (fun r26 M25 =>
            Q r26 M25))) ∧
      ((x2 < 0 ∨ 4 < x2) →
        Q (-2) M1)) ∧
    (r2 = 0 →
      Q (-1) M1))
def rmX7_missed : Room := { frames := 7, cells := 0, slots := 0, locals := 165 }
def p_X7_missed (g : GG) (o0 : Nat) (x1 : Int) (M : Mm) (Q : Int → Mm → Prop) : Prop :=
  inR x1 ∧ (0 ≤ x1 →
    p_X7_rehearse g o0 (M (o0 + 1) 5) M (fun M2 =>
      p_X3_missedCue g (o0 + 124) x1 (M2 ((o0 + 1) + 9) 5) M2 (fun r7 M6 =>
        Q r7 M6))) ∧
  (x1 < 0 →
    Q (-2) M)
def rmX7_ifHands : Room := { frames := 7, cells := 0, slots := 0, locals := 165 }
def p_X7_ifHands (g : GG) (o0 : Nat) (x1 : Int) (M : Mm) (Q : Int → Mm → Prop) : Prop :=
  p_X7_isWithin g x1 1 4 M (fun r2 M1 =>
    inR r2 ∧ (r2 ≠ 0 →
      p_X7_rehearse g o0 x1 M1 (fun M3 =>
        Q (M3 (o0 + 124) 14) M3)) ∧
    (r2 = 0 →
      Q (-2) M1))
def rmX7_cleanTakes : Room := { frames := 6, cells := 0, slots := 0, locals := 144 }
def p_X7_cleanTakes_L36 (g : GG) : Nat → Nat → Int → Mm → (Int → Mm → Prop) → Prop
  | 0, _, _, _, _ => False
  | n + 1, o0, x1, M, Q =>
    inR x1 ∧ (30 ≤ x1 →
      Q 30 M) ∧
    (x1 < 30 →
      p_X3_playTake g (o0 + 124) (o0 + 1) M (fun M9 =>
        inR (M9 (o0 + 124) 13) ∧ ((M9 (o0 + 124) 13) ≤ 0 →
          p_X7_cleanTakes_L36 g n o0 (x1 + 1) M9 Q) ∧
        (0 < (M9 (o0 + 124) 13) →
          Q x1 M9)))
def p_X7_cleanTakes (g : GG) (o0 : Nat) (M : Mm) (Q : Int → Mm → Prop) : Prop :=
  inR (M ((o0 + 1) + 9) 5) ∧ ((M ((o0 + 1) + 9) 5) ≠ 0 →
    p_X3_begin g (o0 + 124) (o0 + 1) (M (o0 + 1) 5) M (fun M6 =>
      ∃ n11, p_X7_cleanTakes_L36 g n11 o0 0 M6 Q)) ∧
  ((M ((o0 + 1) + 9) 5) = 0 →
    Q (-4) M)
def rmX7_count : Room := { frames := 7, cells := 0, slots := 0, locals := 165 }
def p_X7_count (g : GG) (o0 : Nat) (x1 : Int) (M : Mm) (Q : Int → Mm → Prop) : Prop :=
  inR x1 ∧
  (x1 = 0 →
    Q (M ((o0 + 1) + 9) 5) M) ∧
  (x1 = 1 →
    Q (M (o0 + 1) 5) M) ∧
  (x1 = 2 →
    Q (M (o0 + 1) 6) M) ∧
  (x1 = 3 →
    Q (M (o0 + 1) 7) M) ∧
  (x1 = 4 →
    Q (M (o0 + 1) 8) M) ∧
  (x1 = 5 →
    Q (M (o0 + 1) 9) M) ∧
  (x1 = 6 →
    Q (M (o0 + 1) 10) M) ∧
  (x1 = 7 →
    p_X7_rehearse g o0 (M (o0 + 1) 5) M (fun M10 =>
      Q (M10 (o0 + 124) 13) M10)) ∧
  (x1 = 8 →
    p_X7_rehearse g o0 (M (o0 + 1) 5) M (fun M13 =>
      Q (M13 (o0 + 124) 14) M13)) ∧
  (x1 = 9 →
    p_X4_sum g ((o0 + 1) + 3) M (fun r18 M17 =>
      Q r18 M17)) ∧
  (x1 = 10 →
    Q (M (o0 + 37) 1) M) ∧
  (x1 = 11 →
    Q (M (o0 + 111) 1) M) ∧
  ((x1 < 0 ∨ 11 < x1) →
    Q (-2) M)
def rmX8_in : Room := { frames := 1, cells := 0, slots := 0, locals := 13 }
def p_X8_in (g : GG) (x0 : Int) (x2 : Int) (x4 : Int) (M : Mm) (Q : Int → Mm → Prop) : Prop :=
  inL x0 ∧ inL x2 ∧ (x0 < x2 →
    Q 0 M) ∧
  (x2 ≤ x0 →
    inL x0 ∧ inL x4 ∧ (x4 < x0 →
      Q 0 M) ∧
    (x0 ≤ x4 →
      Q 1 M))
def rmX8_copy : Room := { frames := 1, cells := 0, slots := 0, locals := 13 }
def p_X8_copy_L2 (g : GG) : Nat → Nat → Nat → Int → Mm → (Mm → Prop) → Prop
  | 0, _, _, _, _, _ => False
  | n + 1, o0, o1, x2, M, Q =>
    inR x2 ∧ (201 ≤ x2 →
      Q M) ∧
    (x2 < 201 →
      0 ≤ x2 ∧ x2 < ((gl g o0 : Nat) : Int) ∧
      0 ≤ x2 ∧ x2 < ((gl g o1 : Nat) : Int) ∧ ∀ M1 : Mm, M1 = mu M o1 x2 (M o0 x2) →
      p_X8_copy_L2 g n o0 o1 (x2 + 1) M1 Q)
def p_X8_copy (g : GG) (o0 : Nat) (o1 : Nat) (M : Mm) (Q : Mm → Prop) : Prop :=
  ∃ n2, p_X8_copy_L2 g n2 o0 o1 0 M Q
def rmX8_remember : Room := { frames := 2, cells := 0, slots := 0, locals := 35 }
def p_X8_remember (g : GG) (o0 : Nat) (M : Mm) (Q : Mm → Prop) : Prop :=
  p_X8_copy g (o0 + 1) (o0 + 2) M (fun M3 =>
    Q M3)
def rmX8_acted : Room := { frames := 1, cells := 0, slots := 0, locals := 13 }
def p_X8_acted_L51 (g : GG) : Nat → Nat → Int → Int → Mm → (Int → Mm → Prop) → Prop
  | 0, _, _, _, _, _ => False
  | n + 1, o0, x1, x2, M, Q =>
    inR x2 ∧ (201 ≤ x2 →
      ∀ M1 : Mm, M1 = mu M o0 4 ((M o0 4) + 1) →
      Q x1 M1) ∧
    (x2 < 201 →
      0 ≤ x2 ∧ x2 < ((gl g (o0 + 2) : Nat) : Int) ∧
      0 ≤ ((201 * (M o0 4)) + x2) ∧ ((201 * (M o0 4)) + x2) < ((gl g (o0 + 4) : Nat) : Int) ∧ ∀ M4 : Mm, M4 = mu M (o0 + 4) ((201 * (M o0 4)) + x2) (M (o0 + 2) x2) →
      p_X8_acted_L51 g n o0 x1 (x2 + 1) M4 Q)
def p_X8_acted_L10 (g : GG) : Nat → Nat → Int → Int → Mm → (Int → Mm → Prop) → Prop
  | 0, _, _, _, _, _ => False
  | n + 1, o0, x1, x2, M, Q =>
    inR x2 ∧ (603 ≤ x2 →
      ∀ M6 : Mm, M6 = mu M o0 4 ((M o0 4) - 1) →
      ∃ n7, p_X8_acted_L51 g n7 o0 x1 0 M6 Q) ∧
    (x2 < 603 →
      0 ≤ (x2 + 201) ∧ (x2 + 201) < ((gl g (o0 + 4) : Nat) : Int) ∧
      0 ≤ x2 ∧ x2 < ((gl g (o0 + 4) : Nat) : Int) ∧ ∀ M10 : Mm, M10 = mu M (o0 + 4) x2 (M (o0 + 4) (x2 + 201)) →
      p_X8_acted_L10 g n o0 x1 (x2 + 1) M10 Q)
def p_X8_acted (g : GG) (o0 : Nat) (x1 : Int) (M : Mm) (Q : Int → Mm → Prop) : Prop :=
  inR (M o0 4) ∧ ((M o0 4) ≠ 4 →
    ∃ n5, p_X8_acted_L51 g n5 o0 x1 0 M Q) ∧
  ((M o0 4) = 4 →
    ∃ n11, p_X8_acted_L10 g n11 o0 x1 0 M Q)
def rmX8_of : Room := { frames := 1, cells := 0, slots := 0, locals := 13 }
def p_X8_of (g : GG) (o0 : Nat) (x1 : Int) (x2 : Int) (M : Mm) (Q : Int → Mm → Prop) : Prop :=
  0 ≤ ((41 + (4 * x1)) + x2) ∧ ((41 + (4 * x1)) + x2) < ((gl g (o0 + 1) : Nat) : Int) ∧
  Q (M (o0 + 1) ((41 + (4 * x1)) + x2)) M
def rmX8_isCue : Room := { frames := 2, cells := 0, slots := 0, locals := 38 }
def p_X8_isCue (g : GG) (o0 : Nat) (x1 : Int) (M : Mm) (Q : Int → Mm → Prop) : Prop :=
  inR x1 ∧
  36 < ((gl g (o0 + 1) : Nat) : Int) ∧
  inR (M (o0 + 1) 36) ∧
  p_X8_in g x1 0 ((M (o0 + 1) 36) - 1) M (fun r3 M2 =>
    (r3 = 0 ∨ r3 = 1) ∧ Q r3 M2)
def rmX8_isScene : Room := { frames := 2, cells := 0, slots := 0, locals := 38 }
def p_X8_isScene (g : GG) (x0 : Int) (M : Mm) (Q : Int → Mm → Prop) : Prop :=
  inR x0 ∧
  p_X8_in g x0 0 5 M (fun r2 M1 =>
    (r2 = 0 ∨ r2 = 1) ∧ Q r2 M1)
def rmX8_isSound : Room := { frames := 2, cells := 0, slots := 0, locals := 38 }
def p_X8_isSound (g : GG) (x0 : Int) (M : Mm) (Q : Int → Mm → Prop) : Prop :=
  inR x0 ∧
  p_X8_in g x0 0 9 M (fun r2 M1 =>
    (r2 = 0 ∨ r2 = 1) ∧ Q r2 M1)
def rmX8_rankOf : Room := { frames := 1, cells := 0, slots := 0, locals := 13 }
def p_X8_rankOf (g : GG) (x0 : Int) (x1 : Int) (x2 : Int) (M : Mm) (Q : Int → Mm → Prop) : Prop :=
  Q ((((x0 * 6) + x1) * 10) + x2) M
def rmX8_rankAt : Room := { frames := 2, cells := 0, slots := 0, locals := 35 }
def p_X8_rankAt (g : GG) (o0 : Nat) (x1 : Int) (M : Mm) (Q : Int → Mm → Prop) : Prop :=
  p_X8_of g o0 x1 1 M (fun r2 M1 =>
    p_X8_of g o0 x1 0 M1 (fun r4 M3 =>
      p_X8_of g o0 x1 2 M3 (fun r6 M5 =>
        p_X8_rankOf g r2 r4 r6 M5 (fun r8 M7 =>
          Q r8 M7))))
def rmX8_takesOut : Room := { frames := 1, cells := 0, slots := 0, locals := 13 }
def p_X8_takesOut_L18 (g : GG) : Nat → Nat → Int → Mm → (Mm → Prop) → Prop
  | 0, _, _, _, _ => False
  | n + 1, o0, x2, M, Q =>
    36 < ((gl g (o0 + 1) : Nat) : Int) ∧
    inR x2 ∧ inR (41 + (4 * (M (o0 + 1) 36))) ∧ ((41 + (4 * (M (o0 + 1) 36))) ≤ x2 →
      Q M) ∧
    (x2 < (41 + (4 * (M (o0 + 1) 36))) →
      0 ≤ (x2 + 4) ∧ (x2 + 4) < ((gl g (o0 + 1) : Nat) : Int) ∧
      0 ≤ x2 ∧ x2 < ((gl g (o0 + 1) : Nat) : Int) ∧ ∀ M6 : Mm, M6 = mu M (o0 + 1) x2 (M (o0 + 1) (x2 + 4)) →
      p_X8_takesOut_L18 g n o0 (x2 + 1) M6 Q)
def p_X8_takesOut (g : GG) (o0 : Nat) (x1 : Int) (M : Mm) (Q : Mm → Prop) : Prop :=
  36 < ((gl g (o0 + 1) : Nat) : Int) ∧
  36 < ((gl g (o0 + 1) : Nat) : Int) ∧ ∀ M2 : Mm, M2 = mu M (o0 + 1) 36 ((M (o0 + 1) 36) - 1) →
  ∃ n7, p_X8_takesOut_L18 g n7 o0 (41 + (4 * x1)) M2 Q
def rmX8_putsIn : Room := { frames := 3, cells := 0, slots := 0, locals := 56 }
def p_X8_putsIn_L52 (g : GG) : Nat → Nat → Int → Int → Int → Int → Int → Int → Mm → (Mm → Prop) → Prop
  | 0, _, _, _, _, _, _, _, _, _ => False
  | n + 1, o0, x1, x2, x3, x4, x5, x6, M, Q =>
    inR x6 ∧ inR (41 + (4 * x5)) ∧ (x6 < (41 + (4 * x5)) →
      36 < ((gl g (o0 + 1) : Nat) : Int) ∧
      36 < ((gl g (o0 + 1) : Nat) : Int) ∧ ∀ M4 : Mm, M4 = mu M (o0 + 1) 36 ((M (o0 + 1) 36) + 1) →
      0 ≤ ((41 + (4 * x5)) + 0) ∧ ((41 + (4 * x5)) + 0) < ((gl g (o0 + 1) : Nat) : Int) ∧ ∀ M6 : Mm, M6 = mu M4 (o0 + 1) ((41 + (4 * x5)) + 0) x1 →
      0 ≤ ((41 + (4 * x5)) + 1) ∧ ((41 + (4 * x5)) + 1) < ((gl g (o0 + 1) : Nat) : Int) ∧ ∀ M8 : Mm, M8 = mu M6 (o0 + 1) ((41 + (4 * x5)) + 1) x2 →
      0 ≤ ((41 + (4 * x5)) + 2) ∧ ((41 + (4 * x5)) + 2) < ((gl g (o0 + 1) : Nat) : Int) ∧ ∀ M10 : Mm, M10 = mu M8 (o0 + 1) ((41 + (4 * x5)) + 2) x3 →
      0 ≤ ((41 + (4 * x5)) + 3) ∧ ((41 + (4 * x5)) + 3) < ((gl g (o0 + 1) : Nat) : Int) ∧ ∀ M12 : Mm, M12 = mu M10 (o0 + 1) ((41 + (4 * x5)) + 3) x4 →
      Q M12) ∧
    ((41 + (4 * x5)) ≤ x6 →
      0 ≤ x6 ∧ x6 < ((gl g (o0 + 1) : Nat) : Int) ∧
      0 ≤ (x6 + 4) ∧ (x6 + 4) < ((gl g (o0 + 1) : Nat) : Int) ∧ ∀ M15 : Mm, M15 = mu M (o0 + 1) (x6 + 4) (M (o0 + 1) x6) →
      p_X8_putsIn_L52 g n o0 x1 x2 x3 x4 x5 (x6 + (-1)) M15 Q)
def p_X8_putsIn_J36 (g : GG) (o0 : Nat) (x1 : Int) (x2 : Int) (x3 : Int) (x4 : Int) (x5 : Int) (M : Mm) (Q : Mm → Prop) : Prop :=
  36 < ((gl g (o0 + 1) : Nat) : Int) ∧
  ∃ n16, p_X8_putsIn_L52 g n16 o0 x1 x2 x3 x4 x5 ((41 + (4 * (M (o0 + 1) 36))) - 1) M Q
def p_X8_putsIn_L3 (g : GG) : Nat → Nat → Int → Int → Int → Int → Int → Mm → (Mm → Prop) → Prop
  | 0, _, _, _, _, _, _, _, _ => False
  | n + 1, o0, x1, x2, x3, x4, x5, M, Q =>
    36 < ((gl g (o0 + 1) : Nat) : Int) ∧
    inR x5 ∧ inR (M (o0 + 1) 36) ∧ ((M (o0 + 1) 36) ≤ x5 →
      p_X8_putsIn_J36 g o0 x1 x2 x3 x4 x5 M Q) ∧
    (x5 < (M (o0 + 1) 36) →
      p_X8_rankAt g o0 x5 M (fun r18 M17 =>
        p_X8_rankOf g x2 x1 x3 M17 (fun r20 M19 =>
          inR r18 ∧ inR r20 ∧ (r20 ≤ r18 →
            p_X8_putsIn_J36 g o0 x1 x2 x3 x4 x5 M19 Q) ∧
          (r18 < r20 →
            p_X8_putsIn_L3 g n o0 x1 x2 x3 x4 (x5 + 1) M19 Q))))
def p_X8_putsIn (g : GG) (o0 : Nat) (x1 : Int) (x2 : Int) (x3 : Int) (x4 : Int) (M : Mm) (Q : Mm → Prop) : Prop :=
  ∃ n21, p_X8_putsIn_L3 g n21 o0 x1 x2 x3 x4 0 M Q
def rmX8_cuesOf : Room := { frames := 2, cells := 0, slots := 0, locals := 35 }
def p_X8_cuesOf_L4 (g : GG) : Nat → Nat → Int → Int → Int → Mm → (Int → Mm → Prop) → Prop
  | 0, _, _, _, _, _, _ => False
  | n + 1, o0, x1, x2, x3, M, Q =>
    36 < ((gl g (o0 + 1) : Nat) : Int) ∧
    inR x3 ∧ inR (M (o0 + 1) 36) ∧ ((M (o0 + 1) 36) ≤ x3 →
      Q x2 M) ∧
    (x3 < (M (o0 + 1) 36) →
      p_X8_of g o0 x3 0 M (fun r3 M2 =>
        inR r3 ∧ inR x1 ∧ (r3 ≠ x1 →
          p_X8_cuesOf_L4 g n o0 x1 (x2 + 0) (x3 + 1) M2 Q) ∧
        (r3 = x1 →
          p_X8_cuesOf_L4 g n o0 x1 (x2 + 1) (x3 + 1) M2 Q)))
def p_X8_cuesOf (g : GG) (o0 : Nat) (x1 : Int) (M : Mm) (Q : Int → Mm → Prop) : Prop :=
  ∃ n4, p_X8_cuesOf_L4 g n4 o0 x1 0 0 M Q
def rmX8_apart : Room := { frames := 1, cells := 0, slots := 0, locals := 13 }
def p_X8_apart (g : GG) (x0 : Int) (x1 : Int) (M : Mm) (Q : Int → Mm → Prop) : Prop :=
  inR x0 ∧ inR x1 ∧ (x1 ≤ x0 →
    Q (x0 - x1) M) ∧
  (x0 < x1 →
    Q (x1 - x0) M)
def rmX8_handFor : Room := { frames := 2, cells := 0, slots := 0, locals := 34 }
def p_X8_handFor_L6 (g : GG) : Nat → Nat → Int → Int → Int → Int → Mm → (Int → Mm → Prop) → Prop
  | 0, _, _, _, _, _, _, _ => False
  | n + 1, o0, x1, x2, x3, x4, M, Q =>
    30 < ((gl g (o0 + 1) : Nat) : Int) ∧
    inR x4 ∧ inR (M (o0 + 1) 30) ∧ ((M (o0 + 1) 30) ≤ x4 →
      Q x3 M) ∧
    (x4 < (M (o0 + 1) 30) →
      0 ≤ (31 + x4) ∧ (31 + x4) < ((gl g (o0 + 1) : Nat) : Int) ∧
      p_X8_apart g (M (o0 + 1) (31 + x4)) x1 M (fun r4 M3 =>
        0 ≤ x4 ∧ x4 < ((gl g (o0 + 10) : Nat) : Int) ∧
        inR (x2 - (M3 (o0 + 10) x4)) ∧ inR r4 ∧ ((x2 - (M3 (o0 + 10) x4)) < r4 →
          p_X8_handFor_L6 g n o0 x1 x2 x3 (x4 + 1) M3 Q) ∧
        (r4 ≤ (x2 - (M3 (o0 + 10) x4)) →
          inR x3 ∧ (x3 = (-5) →
            p_X8_handFor_L6 g n o0 x1 x2 x4 (x4 + 1) M3 Q) ∧
          (x3 ≠ (-5) →
            0 ≤ (31 + x3) ∧ (31 + x3) < ((gl g (o0 + 1) : Nat) : Int) ∧
            p_X8_apart g (M3 (o0 + 1) (31 + x3)) x1 M3 (fun r8 M7 =>
              inR r4 ∧ inR r8 ∧ (r8 ≤ r4 →
                p_X8_handFor_L6 g n o0 x1 x2 x3 (x4 + 1) M7 Q) ∧
              (r4 < r8 →
                p_X8_handFor_L6 g n o0 x1 x2 x4 (x4 + 1) M7 Q))))))
def p_X8_handFor (g : GG) (o0 : Nat) (x1 : Int) (x2 : Int) (M : Mm) (Q : Int → Mm → Prop) : Prop :=
  ∃ n9, p_X8_handFor_L6 g n9 o0 x1 x2 (-5) 0 M Q
def rmX8_isThere : Room := { frames := 2, cells := 0, slots := 0, locals := 35 }
def p_X8_isThere_J61 (g : GG) (y0 : Int) (y1 : Int) (M : Mm) (Q : Int → Mm → Prop) : Prop :=
  inR y0 ∧ inR y1 ∧ (y0 < y1 →
    Q 0 M) ∧
  (y1 ≤ y0 →
    Q 1 M)
def p_X8_isThere (g : GG) (o0 : Nat) (x1 : Int) (M : Mm) (Q : Int → Mm → Prop) : Prop :=
  p_X8_of g o0 x1 2 M (fun r2 M1 =>
    0 ≤ r2 ∧ r2 < ((gl g (o0 + 13) : Nat) : Int) ∧
    inR (M1 (o0 + 13) r2) ∧ ((M1 (o0 + 13) r2) ≠ (-5) →
      p_X8_of g o0 x1 1 M1 (fun r5 M4 =>
        0 ≤ r2 ∧ r2 < ((gl g (o0 + 14) : Nat) : Int) ∧
        0 ≤ r2 ∧ r2 < ((gl g (o0 + 13) : Nat) : Int) ∧
        p_X8_of g o0 x1 0 M4 (fun r9 M8 =>
          inR (M4 (o0 + 13) r2) ∧ inR r9 ∧ ((M4 (o0 + 13) r2) ≠ r9 →
            35 < ((gl g (o0 + 1) : Nat) : Int) ∧
            p_X8_isThere_J61 g (r5 - (M4 (o0 + 14) r2)) (M8 (o0 + 1) 35) M8 Q) ∧
          ((M4 (o0 + 13) r2) = r9 →
            p_X8_isThere_J61 g (r5 - (M4 (o0 + 14) r2)) 0 M8 Q)))) ∧
    ((M1 (o0 + 13) r2) = (-5) →
      Q 1 M1))
def rmX8_comesTo : Room := { frames := 3, cells := 0, slots := 0, locals := 59 }
def p_X8_comesTo_J200 (g : GG) (o0 : Nat) (x1 : Int) (x2 : Int) (x3 : Int) (x4 : Int) (z0 : Nat) (y1 : Int) (y2 : Int) (M : Mm) (Q : Mm → Prop) : Prop :=
  0 ≤ y1 ∧ y1 < ((gl g z0 : Nat) : Int) ∧ ∀ M29 : Mm, M29 = mu M z0 y1 y2 →
  0 ≤ x4 ∧ x4 < ((gl g (o0 + 11) : Nat) : Int) ∧
  0 ≤ x4 ∧ x4 < ((gl g (o0 + 11) : Nat) : Int) ∧ ∀ M31 : Mm, M31 = mu M29 (o0 + 11) x4 ((M29 (o0 + 11) x4) + 1) →
  0 ≤ x4 ∧ x4 < ((gl g (o0 + 12) : Nat) : Int) ∧
  0 ≤ x1 ∧ x1 < ((gl g (o0 + 8) : Nat) : Int) ∧
  0 ≤ x4 ∧ x4 < ((gl g (o0 + 12) : Nat) : Int) ∧ ∀ M34 : Mm, M34 = mu M31 (o0 + 12) x4 ((M31 (o0 + 12) x4) + (M31 (o0 + 8) x1)) →
  0 ≤ (31 + x4) ∧ (31 + x4) < ((gl g (o0 + 1) : Nat) : Int) ∧ ∀ M36 : Mm, M36 = mu M34 (o0 + 1) (31 + x4) x3 →
  p_X8_of g o0 x1 1 M36 (fun r39 M38 =>
    p_X8_of g o0 x1 3 M38 (fun r41 M40 =>
      0 ≤ x4 ∧ x4 < ((gl g (o0 + 10) : Nat) : Int) ∧ ∀ M42 : Mm, M42 = mu M40 (o0 + 10) x4 (r39 + r41) →
      p_X8_of g o0 x1 0 M42 (fun r45 M44 =>
        0 ≤ x2 ∧ x2 < ((gl g (o0 + 13) : Nat) : Int) ∧ ∀ M46 : Mm, M46 = mu M44 (o0 + 13) x2 r45 →
        0 ≤ x4 ∧ x4 < ((gl g (o0 + 10) : Nat) : Int) ∧
        0 ≤ x2 ∧ x2 < ((gl g (o0 + 14) : Nat) : Int) ∧ ∀ M49 : Mm, M49 = mu M46 (o0 + 14) x2 (M46 (o0 + 10) x4) →
        0 ≤ (10 + x2) ∧ (10 + x2) < ((gl g (o0 + 1) : Nat) : Int) ∧
        0 ≤ (10 + x2) ∧ (10 + x2) < ((gl g (o0 + 1) : Nat) : Int) ∧ ∀ M51 : Mm, M51 = mu M49 (o0 + 1) (10 + x2) ((M49 (o0 + 1) (10 + x2)) - 1) →
        Q M51)))
def p_X8_comesTo_J199 (g : GG) (o0 : Nat) (x1 : Int) (x2 : Int) (x3 : Int) (x4 : Int) (z0 : Nat) (y1 : Int) (M : Mm) (Q : Mm → Prop) : Prop :=
  p_X8_comesTo_J200 g o0 x1 x2 x3 x4 z0 y1 0 M Q
def p_X8_comesTo_J97 (g : GG) (o0 : Nat) (x1 : Int) (x2 : Int) (x3 : Int) (x4 : Int) (z0 : Nat) (y1 : Int) (y2 : Int) (M : Mm) (Q : Mm → Prop) : Prop :=
  0 ≤ y1 ∧ y1 < ((gl g z0 : Nat) : Int) ∧ ∀ M18 : Mm, M18 = mu M z0 y1 y2 →
  0 ≤ x1 ∧ x1 < ((gl g (o0 + 7) : Nat) : Int) ∧
  inR (M18 (o0 + 7) x1) ∧ ((M18 (o0 + 7) x1) ≤ 0 →
    0 ≤ x1 ∧ x1 < ((gl g (o0 + 6) : Nat) : Int) ∧ ∀ M21 : Mm, M21 = mu M18 (o0 + 6) x1 x4 →
    0 ≤ (31 + x4) ∧ (31 + x4) < ((gl g (o0 + 1) : Nat) : Int) ∧
    p_X8_apart g (M21 (o0 + 1) (31 + x4)) x3 M21 (fun r25 M24 =>
      0 ≤ x1 ∧ x1 < ((gl g (o0 + 8) : Nat) : Int) ∧ ∀ M26 : Mm, M26 = mu M24 (o0 + 8) x1 r25 →
      0 ≤ x2 ∧ x2 < ((gl g (o0 + 13) : Nat) : Int) ∧
      inR (M26 (o0 + 13) x2) ∧ ((M26 (o0 + 13) x2) = (-5) →
        p_X8_comesTo_J199 g o0 x1 x2 x3 x4 (o0 + 9) x1 M26 Q) ∧
      ((M26 (o0 + 13) x2) ≠ (-5) →
        0 ≤ x2 ∧ x2 < ((gl g (o0 + 13) : Nat) : Int) ∧
        p_X8_of g o0 x1 0 M26 (fun r54 M53 =>
          inR (M26 (o0 + 13) x2) ∧ inR r54 ∧ ((M26 (o0 + 13) x2) = r54 →
            p_X8_comesTo_J199 g o0 x1 x2 x3 x4 (o0 + 9) x1 M53 Q) ∧
          ((M26 (o0 + 13) x2) ≠ r54 →
            p_X8_comesTo_J200 g o0 x1 x2 x3 x4 (o0 + 9) x1 1 M53 Q))))) ∧
  (0 < (M18 (o0 + 7) x1) →
    ∀ M55 : Mm, M55 = mu M18 o0 16 ((M18 o0 16) + 1) →
    0 ≤ (20 + x2) ∧ (20 + x2) < ((gl g (o0 + 1) : Nat) : Int) ∧
    ∀ M57 : Mm, M57 = mu M55 o0 17 ((M55 o0 17) + (M55 (o0 + 1) (20 + x2))) →
    Q M57)
def p_X8_comesTo (g : GG) (o0 : Nat) (x1 : Int) (M : Mm) (Q : Mm → Prop) : Prop :=
  p_X8_of g o0 x1 2 M (fun r2 M1 =>
    0 ≤ (0 + r2) ∧ (0 + r2) < ((gl g (o0 + 1) : Nat) : Int) ∧
    p_X8_of g o0 x1 1 M1 (fun r5 M4 =>
      p_X8_handFor g o0 (M1 (o0 + 1) (0 + r2)) r5 M4 (fun r7 M6 =>
        0 ≤ x1 ∧ x1 < ((gl g (o0 + 6) : Nat) : Int) ∧ ∀ M9 : Mm, M9 = mu M6 (o0 + 6) x1 (-5) →
        0 ≤ x1 ∧ x1 < ((gl g (o0 + 8) : Nat) : Int) ∧ ∀ M11 : Mm, M11 = mu M9 (o0 + 8) x1 (-5) →
        0 ≤ x1 ∧ x1 < ((gl g (o0 + 9) : Nat) : Int) ∧ ∀ M13 : Mm, M13 = mu M11 (o0 + 9) x1 0 →
        0 ≤ (10 + r2) ∧ (10 + r2) < ((gl g (o0 + 1) : Nat) : Int) ∧
        inR (M13 (o0 + 1) (10 + r2)) ∧ ((M13 (o0 + 1) (10 + r2)) ≠ 0 →
          p_X8_isThere g o0 x1 M13 (fun r17 M16 =>
            inR r17 ∧ (r17 ≠ 0 →
              inR r7 ∧ (r7 ≠ (-5) →
                p_X8_comesTo_J97 g o0 x1 r2 (M1 (o0 + 1) (0 + r2)) r7 (o0 + 7) x1 0 M16 Q) ∧
              (r7 = (-5) →
                p_X8_comesTo_J97 g o0 x1 r2 (M1 (o0 + 1) (0 + r2)) r7 (o0 + 7) x1 3 M16 Q)) ∧
            (r17 = 0 →
              p_X8_comesTo_J97 g o0 x1 r2 (M1 (o0 + 1) (0 + r2)) r7 (o0 + 7) x1 2 M16 Q))) ∧
        ((M13 (o0 + 1) (10 + r2)) = 0 →
          p_X8_comesTo_J97 g o0 x1 r2 (M1 (o0 + 1) (0 + r2)) r7 (o0 + 7) x1 1 M13 Q))))
def rmX8_plays : Room := { frames := 4, cells := 0, slots := 0, locals := 83 }
def p_X8_plays_L75 (g : GG) : Nat → Nat → Int → Mm → (Mm → Prop) → Prop
  | 0, _, _, _, _ => False
  | n + 1, o0, x1, M, Q =>
    36 < ((gl g (o0 + 1) : Nat) : Int) ∧
    inR x1 ∧ inR (M (o0 + 1) 36) ∧ ((M (o0 + 1) 36) ≤ x1 →
      Q M) ∧
    (x1 < (M (o0 + 1) 36) →
      p_X8_comesTo g o0 x1 M (fun M4 =>
        p_X8_plays_L75 g n o0 (x1 + 1) M4 Q))
def p_X8_plays_L46 (g : GG) : Nat → Nat → Int → Mm → (Mm → Prop) → Prop
  | 0, _, _, _, _ => False
  | n + 1, o0, x1, M, Q =>
    inR x1 ∧ (10 ≤ x1 →
      ∃ n5, p_X8_plays_L75 g n5 o0 0 M Q) ∧
    (x1 < 10 →
      0 ≤ x1 ∧ x1 < ((gl g (o0 + 13) : Nat) : Int) ∧ ∀ M7 : Mm, M7 = mu M (o0 + 13) x1 (-5) →
      0 ≤ x1 ∧ x1 < ((gl g (o0 + 14) : Nat) : Int) ∧ ∀ M9 : Mm, M9 = mu M7 (o0 + 14) x1 0 →
      p_X8_plays_L46 g n o0 (x1 + 1) M9 Q)
def p_X8_plays_L12 (g : GG) : Nat → Nat → Int → Mm → (Mm → Prop) → Prop
  | 0, _, _, _, _ => False
  | n + 1, o0, x1, M, Q =>
    inR x1 ∧ (4 ≤ x1 →
      ∃ n10, p_X8_plays_L46 g n10 o0 0 M Q) ∧
    (x1 < 4 →
      0 ≤ x1 ∧ x1 < ((gl g (o0 + 10) : Nat) : Int) ∧ ∀ M12 : Mm, M12 = mu M (o0 + 10) x1 0 →
      0 ≤ x1 ∧ x1 < ((gl g (o0 + 11) : Nat) : Int) ∧ ∀ M14 : Mm, M14 = mu M12 (o0 + 11) x1 0 →
      0 ≤ x1 ∧ x1 < ((gl g (o0 + 12) : Nat) : Int) ∧ ∀ M16 : Mm, M16 = mu M14 (o0 + 12) x1 0 →
      p_X8_plays_L12 g n o0 (x1 + 1) M16 Q)
def p_X8_plays (g : GG) (o0 : Nat) (M : Mm) (Q : Mm → Prop) : Prop :=
  ∀ M1 : Mm, M1 = mu M o0 16 0 →
  ∀ M2 : Mm, M2 = mu M1 o0 17 0 →
  ∃ n17, p_X8_plays_L12 g n17 o0 0 M2 Q
def rmX8_tries : Room := { frames := 5, cells := 0, slots := 0, locals := 104 }
def p_X8_tries_L17 (g : GG) : Nat → Nat → Int → Mm → (Mm → Prop) → Prop
  | 0, _, _, _, _ => False
  | n + 1, o0, x1, M, Q =>
    inR x1 ∧ (4 ≤ x1 →
      p_X8_copy g (o0 + 3) (o0 + 1) M (fun M7 =>
        Q M7)) ∧
    (x1 < 4 →
      0 ≤ (31 + x1) ∧ (31 + x1) < ((gl g (o0 + 1) : Nat) : Int) ∧
      0 ≤ x1 ∧ x1 < ((gl g (o0 + 15) : Nat) : Int) ∧ ∀ M10 : Mm, M10 = mu M (o0 + 15) x1 (M (o0 + 1) (31 + x1)) →
      p_X8_tries_L17 g n o0 (x1 + 1) M10 Q)
def p_X8_tries (g : GG) (o0 : Nat) (M : Mm) (Q : Mm → Prop) : Prop :=
  p_X8_copy g (o0 + 1) (o0 + 3) M (fun M3 =>
    p_X8_plays g o0 M3 (fun M4 =>
      ∃ n11, p_X8_tries_L17 g n11 o0 0 M4 Q))
def rmX8_isValue : Room := { frames := 2, cells := 0, slots := 0, locals := 38 }
def p_X8_isValue (g : GG) (x0 : Int) (x1 : Int) (M : Mm) (Q : Int → Mm → Prop) : Prop :=
  inR x0 ∧ (x0 ≠ 0 →
    inR x0 ∧ (x0 ≠ 1 →
      inR x0 ∧ (x0 ≠ 2 →
        Q 0 M) ∧
      (x0 = 2 →
        inR x1 ∧
        p_X8_in g x1 1 9 M (fun r2 M1 =>
          inR r2 ∧ (r2 = 0 →
            Q 0 M1) ∧
          (r2 ≠ 0 →
            Q 1 M1)))) ∧
    (x0 = 1 →
      inR x1 ∧
      p_X8_in g x1 0 30 M (fun r4 M3 =>
        (r4 = 0 ∨ r4 = 1) ∧ Q r4 M3))) ∧
  (x0 = 0 →
    inR x1 ∧
    p_X8_in g x1 0 4 M (fun r6 M5 =>
      (r6 = 0 ∨ r6 = 1) ∧ Q r6 M5))
def rmX8_sets : Room := { frames := 3, cells := 0, slots := 0, locals := 55 }
def p_X8_sets (g : GG) (o0 : Nat) (x1 : Int) (x2 : Int) (M : Mm) (Q : Int → Mm → Prop) : Prop :=
  0 ≤ x1 ∧ x1 < ((gl g (o0 + 1) : Nat) : Int) ∧
  inR (M (o0 + 1) x1) ∧ inR x2 ∧ ((M (o0 + 1) x1) ≠ x2 →
    p_X8_remember g o0 M (fun M2 =>
      0 ≤ x1 ∧ x1 < ((gl g (o0 + 1) : Nat) : Int) ∧ ∀ M4 : Mm, M4 = mu M2 (o0 + 1) x1 x2 →
      p_X8_acted g o0 (M (o0 + 1) x1) M4 (fun r6 M5 =>
        Q r6 M5))) ∧
  ((M (o0 + 1) x1) = x2 →
    Q (-5) M)
def rmX8_setSound : Room := { frames := 4, cells := 0, slots := 0, locals := 78 }
def p_X8_setSound (g : GG) (o0 : Nat) (x1 : Int) (x2 : Int) (x3 : Int) (M : Mm) (Q : Int → Mm → Prop) : Prop :=
  p_X8_isSound g x1 M (fun r2 M1 =>
    inR r2 ∧ (r2 ≠ 0 →
      p_X8_isValue g x2 x3 M1 (fun r4 M3 =>
        inR r4 ∧ (r4 = 0 →
          Q (-2) M3) ∧
        (r4 ≠ 0 →
          p_X8_sets g o0 ((10 * x2) + x1) x3 M3 (fun r6 M5 =>
            Q r6 M5)))) ∧
    (r2 = 0 →
      Q (-1) M1))
def rmX8_becomeHands : Room := { frames := 1, cells := 0, slots := 0, locals := 13 }
def p_X8_becomeHands_L8 (g : GG) : Nat → Nat → Int → Int → Mm → (Mm → Prop) → Prop
  | 0, _, _, _, _, _ => False
  | n + 1, o0, x1, x2, M, Q =>
    inR x2 ∧ inR x1 ∧ (x1 ≤ x2 →
      30 < ((gl g (o0 + 1) : Nat) : Int) ∧ ∀ M3 : Mm, M3 = mu M (o0 + 1) 30 x1 →
      Q M3) ∧
    (x2 < x1 →
      0 ≤ (31 + x2) ∧ (31 + x2) < ((gl g (o0 + 1) : Nat) : Int) ∧ ∀ M5 : Mm, M5 = mu M (o0 + 1) (31 + x2) x2 →
      p_X8_becomeHands_L8 g n o0 x1 (x2 + 1) M5 Q)
def p_X8_becomeHands (g : GG) (o0 : Nat) (x1 : Int) (M : Mm) (Q : Mm → Prop) : Prop :=
  30 < ((gl g (o0 + 1) : Nat) : Int) ∧
  ∃ n6, p_X8_becomeHands_L8 g n6 o0 x1 (M (o0 + 1) 30) M Q
def rmX8_setHands : Room := { frames := 3, cells := 0, slots := 0, locals := 55 }
def p_X8_setHands (g : GG) (o0 : Nat) (x1 : Int) (M : Mm) (Q : Int → Mm → Prop) : Prop :=
  inR x1 ∧
  p_X8_in g x1 1 4 M (fun r2 M1 =>
    inR r2 ∧ (r2 ≠ 0 →
      30 < ((gl g (o0 + 1) : Nat) : Int) ∧
      inR (M1 (o0 + 1) 30) ∧ inR x1 ∧ ((M1 (o0 + 1) 30) ≠ x1 →
        p_X8_remember g o0 M1 (fun M4 =>
          p_X8_becomeHands g o0 x1 M4 (fun M5 =>
            p_X8_acted g o0 (M1 (o0 + 1) 30) M5 (fun r7 M6 =>
              Q r7 M6)))) ∧
      ((M1 (o0 + 1) 30) = x1 →
        Q (-5) M1)) ∧
    (r2 = 0 →
      Q (-2) M1))
def rmX8_isHand : Room := { frames := 2, cells := 0, slots := 0, locals := 38 }
def p_X8_isHand (g : GG) (o0 : Nat) (x1 : Int) (M : Mm) (Q : Int → Mm → Prop) : Prop :=
  inR x1 ∧
  30 < ((gl g (o0 + 1) : Nat) : Int) ∧
  inR (M (o0 + 1) 30) ∧
  p_X8_in g x1 0 ((M (o0 + 1) 30) - 1) M (fun r3 M2 =>
    (r3 = 0 ∨ r3 = 1) ∧ Q r3 M2)
def rmX8_send : Room := { frames := 4, cells := 0, slots := 0, locals := 78 }
def p_X8_send (g : GG) (o0 : Nat) (x1 : Int) (x2 : Int) (M : Mm) (Q : Int → Mm → Prop) : Prop :=
  p_X8_isHand g o0 x1 M (fun r2 M1 =>
    inR r2 ∧ (r2 = 0 →
      Q (-1) M1) ∧
    (r2 ≠ 0 →
      inR x2 ∧
      p_X8_in g x2 0 4 M1 (fun r4 M3 =>
        inR r4 ∧ (r4 = 0 →
          Q (-1) M3) ∧
        (r4 ≠ 0 →
          p_X8_sets g o0 (31 + x1) x2 M3 (fun r6 M5 =>
            Q r6 M5)))))
def rmX8_setCarrying : Room := { frames := 4, cells := 0, slots := 0, locals := 78 }
def p_X8_setCarrying (g : GG) (o0 : Nat) (x1 : Int) (M : Mm) (Q : Int → Mm → Prop) : Prop :=
  inR x1 ∧
  p_X8_in g x1 0 20 M (fun r2 M1 =>
    inR r2 ∧ (r2 = 0 →
      Q (-2) M1) ∧
    (r2 ≠ 0 →
      p_X8_sets g o0 35 x1 M1 (fun r4 M3 =>
        Q r4 M3)))
def rmX8_type : Room := { frames := 1, cells := 0, slots := 0, locals := 13 }
def p_X8_type (g : GG) (o0 : Nat) (x1 : Int) (M : Mm) (Q : Int → Mm → Prop) : Prop :=
  inR (M o0 20) ∧ ((M o0 20) ≠ 60 →
    0 ≤ (M o0 20) ∧ (M o0 20) < ((gl g (o0 + 16) : Nat) : Int) ∧ ∀ M2 : Mm, M2 = mu M (o0 + 16) (M o0 20) x1 →
    ∀ M3 : Mm, M3 = mu M2 o0 20 ((M2 o0 20) + 1) →
    Q (M3 o0 20) M3) ∧
  ((M o0 20) = 60 →
    Q (-3) M)
def rmX8_clearText : Room := { frames := 1, cells := 0, slots := 0, locals := 13 }
def p_X8_clearText (g : GG) (o0 : Nat) (M : Mm) (Q : Int → Mm → Prop) : Prop :=
  ∀ M1 : Mm, M1 = mu M o0 20 0 →
  Q (M o0 20) M1
def rmX8_isHere : Room := { frames := 2, cells := 0, slots := 0, locals := 38 }
def p_X8_isHere (g : GG) (o0 : Nat) (x1 : Int) (x2 : Int) (M : Mm) (Q : Int → Mm → Prop) : Prop :=
  inR (M o0 21) ∧ inR (M o0 20) ∧ ((M o0 20) ≤ (M o0 21) →
    Q 0 M) ∧
  ((M o0 21) < (M o0 20) →
    0 ≤ (M o0 21) ∧ (M o0 21) < ((gl g (o0 + 16) : Nat) : Int) ∧
    inR (M (o0 + 16) (M o0 21)) ∧
    inR x1 ∧
    inR x2 ∧
    p_X8_in g (M (o0 + 16) (M o0 21)) x1 x2 M (fun r3 M2 =>
      inR r3 ∧ (r3 = 0 →
        Q 0 M2) ∧
      (r3 ≠ 0 →
        Q 1 M2)))
def rmX8_takes : Room := { frames := 3, cells := 0, slots := 0, locals := 60 }
def p_X8_takes (g : GG) (o0 : Nat) (x1 : Int) (M : Mm) (Q : Int → Mm → Prop) : Prop :=
  p_X8_isHere g o0 x1 x1 M (fun r2 M1 =>
    inR r2 ∧ (r2 = 0 →
      ∀ M3 : Mm, M3 = mu M1 o0 21 ((M1 o0 21) + 0) →
      (r2 = 0 ∨ r2 = 1) ∧ Q r2 M3) ∧
    (r2 ≠ 0 →
      ∀ M4 : Mm, M4 = mu M1 o0 21 ((M1 o0 21) + 1) →
      (r2 = 0 ∨ r2 = 1) ∧ Q r2 M4))
def rmX8_readsNumber : Room := { frames := 3, cells := 0, slots := 0, locals := 60 }
def p_X8_readsNumber_L57 (g : GG) : Nat → Nat → Int → Mm → (Int → Mm → Prop) → Prop
  | 0, _, _, _, _ => False
  | n + 1, o0, x2, M, Q =>
    inR (M o0 22) ∧ ((M o0 22) ≤ 0 →
      Q 1 M) ∧
    (0 < (M o0 22) →
      p_X8_isHere g o0 48 57 M (fun r8 M7 =>
        inR r8 ∧ (r8 = 0 →
          Q 1 M7) ∧
        (r8 ≠ 0 →
          0 ≤ (M7 o0 21) ∧ (M7 o0 21) < ((gl g (o0 + 16) : Nat) : Int) ∧
          inR (((10 * (M7 o0 22)) + (M7 (o0 + 16) (M7 o0 21))) - 48) ∧ inR x2 ∧ (x2 < (((10 * (M7 o0 22)) + (M7 (o0 + 16) (M7 o0 21))) - 48) →
            Q 1 M7) ∧
          ((((10 * (M7 o0 22)) + (M7 (o0 + 16) (M7 o0 21))) - 48) ≤ x2 →
            0 ≤ (M7 o0 21) ∧ (M7 o0 21) < ((gl g (o0 + 16) : Nat) : Int) ∧
            ∀ M11 : Mm, M11 = mu M7 o0 22 (((10 * (M7 o0 22)) + (M7 (o0 + 16) (M7 o0 21))) - 48) →
            ∀ M12 : Mm, M12 = mu M11 o0 21 ((M11 o0 21) + 1) →
            p_X8_readsNumber_L57 g n o0 x2 M12 Q))))
def p_X8_readsNumber (g : GG) (o0 : Nat) (x1 : Int) (x2 : Int) (M : Mm) (Q : Int → Mm → Prop) : Prop :=
  p_X8_isHere g o0 (48 + x1) 57 M (fun r2 M1 =>
    inR r2 ∧ (r2 = 0 →
      Q 0 M1) ∧
    (r2 ≠ 0 →
      0 ≤ (M1 o0 21) ∧ (M1 o0 21) < ((gl g (o0 + 16) : Nat) : Int) ∧
      inR ((M1 (o0 + 16) (M1 o0 21)) - 48) ∧ inR x2 ∧ (((M1 (o0 + 16) (M1 o0 21)) - 48) ≤ x2 →
        0 ≤ (M1 o0 21) ∧ (M1 o0 21) < ((gl g (o0 + 16) : Nat) : Int) ∧
        ∀ M5 : Mm, M5 = mu M1 o0 22 ((M1 (o0 + 16) (M1 o0 21)) - 48) →
        ∀ M6 : Mm, M6 = mu M5 o0 21 ((M5 o0 21) + 1) →
        ∃ n13, p_X8_readsNumber_L57 g n13 o0 x2 M6 Q) ∧
      (x2 < ((M1 (o0 + 16) (M1 o0 21)) - 48) →
        Q 0 M1)))
def rmX8_readsCue : Room := { frames := 4, cells := 0, slots := 0, locals := 82 }
def p_X8_readsCue_J123 (g : GG) (o0 : Nat) (x1 : Int) (M : Mm) (Q : Int → Mm → Prop) : Prop :=
  0 ≤ (x1 + 3) ∧ (x1 + 3) < ((gl g (o0 + 17) : Nat) : Int) ∧ ∀ M21 : Mm, M21 = mu M (o0 + 17) (x1 + 3) (M o0 22) →
  ∀ M22 : Mm, M22 = mu M21 o0 24 ((M21 o0 24) + 1) →
  Q 1 M22
def p_X8_readsCue (g : GG) (o0 : Nat) (M : Mm) (Q : Int → Mm → Prop) : Prop :=
  p_X8_readsNumber g o0 0 5 M (fun r2 M1 =>
    inR r2 ∧ (r2 ≠ 0 →
      0 ≤ ((4 * (M o0 24)) + 0) ∧ ((4 * (M o0 24)) + 0) < ((gl g (o0 + 17) : Nat) : Int) ∧ ∀ M4 : Mm, M4 = mu M1 (o0 + 17) ((4 * (M o0 24)) + 0) (M1 o0 22) →
      p_X8_takes g o0 64 M4 (fun r6 M5 =>
        inR r6 ∧ (r6 = 0 →
          Q 0 M5) ∧
        (r6 ≠ 0 →
          p_X8_readsNumber g o0 0 999 M5 (fun r8 M7 =>
            inR r8 ∧ (r8 ≠ 0 →
              0 ≤ ((4 * (M o0 24)) + 1) ∧ ((4 * (M o0 24)) + 1) < ((gl g (o0 + 17) : Nat) : Int) ∧ ∀ M10 : Mm, M10 = mu M7 (o0 + 17) ((4 * (M o0 24)) + 1) (M7 o0 22) →
              p_X8_takes g o0 115 M10 (fun r12 M11 =>
                inR r12 ∧ (r12 = 0 →
                  Q 0 M11) ∧
                (r12 ≠ 0 →
                  p_X8_readsNumber g o0 0 9 M11 (fun r14 M13 =>
                    inR r14 ∧ (r14 ≠ 0 →
                      0 ≤ ((4 * (M o0 24)) + 2) ∧ ((4 * (M o0 24)) + 2) < ((gl g (o0 + 17) : Nat) : Int) ∧ ∀ M16 : Mm, M16 = mu M13 (o0 + 17) ((4 * (M o0 24)) + 2) (M13 o0 22) →
                      ∀ M17 : Mm, M17 = mu M16 o0 22 1 →
                      p_X8_takes g o0 42 M17 (fun r19 M18 =>
                        inR r19 ∧ (r19 = 0 →
                          p_X8_readsCue_J123 g o0 (4 * (M o0 24)) M18 Q) ∧
                        (r19 ≠ 0 →
                          p_X8_readsNumber g o0 1 20 M18 (fun r24 M23 =>
                            inR r24 ∧ (r24 ≠ 0 →
                              p_X8_readsCue_J123 g o0 (4 * (M o0 24)) M23 Q) ∧
                            (r24 = 0 →
                              Q 0 M23))))) ∧
                    (r14 = 0 →
                      Q 0 M13))))) ∧
            (r8 = 0 →
              Q 0 M7))))) ∧
    (r2 = 0 →
      Q 0 M1))
def rmX8_fault : Room := { frames := 5, cells := 0, slots := 0, locals := 103 }
def p_X8_fault_L12 (g : GG) : Nat → Nat → Int → Mm → (Int → Mm → Prop) → Prop
  | 0, _, _, _, _ => False
  | n + 1, o0, x1, M, Q =>
    inR x1 ∧ (x1 = 0 →
      inR (M o0 21) ∧ inR (M o0 20) ∧ ((M o0 21) ≠ (M o0 20) →
        Q (M o0 21) M) ∧
      ((M o0 21) = (M o0 20) →
        Q (-5) M)) ∧
    (x1 ≠ 0 →
      p_X8_readsCue g o0 M (fun r4 M3 =>
        inR r4 ∧ (r4 ≠ 0 →
          p_X8_takes g o0 44 M3 (fun r6 M5 =>
            p_X8_fault_L12 g n o0 r6 M5 Q)) ∧
        (r4 = 0 →
          Q (M3 o0 21) M3)))
def p_X8_fault (g : GG) (o0 : Nat) (M : Mm) (Q : Int → Mm → Prop) : Prop :=
  ∀ M1 : Mm, M1 = mu M o0 21 0 →
  ∀ M2 : Mm, M2 = mu M1 o0 24 0 →
  ∃ n7, p_X8_fault_L12 g n7 o0 1 M2 Q
def rmX8_rankRead : Room := { frames := 2, cells := 0, slots := 0, locals := 35 }
def p_X8_rankRead (g : GG) (o0 : Nat) (x1 : Int) (M : Mm) (Q : Int → Mm → Prop) : Prop :=
  0 ≤ ((4 * x1) + 1) ∧ ((4 * x1) + 1) < ((gl g (o0 + 17) : Nat) : Int) ∧
  0 ≤ ((4 * x1) + 0) ∧ ((4 * x1) + 0) < ((gl g (o0 + 17) : Nat) : Int) ∧
  0 ≤ ((4 * x1) + 2) ∧ ((4 * x1) + 2) < ((gl g (o0 + 17) : Nat) : Int) ∧
  p_X8_rankOf g (M (o0 + 17) ((4 * x1) + 1)) (M (o0 + 17) ((4 * x1) + 0)) (M (o0 + 17) ((4 * x1) + 2)) M (fun r5 M4 =>
    Q r5 M4)
def rmX8_isTwice : Room := { frames := 3, cells := 0, slots := 0, locals := 56 }
def p_X8_isTwice_L46 (g : GG) : Nat → Nat → Int → Int → Int → Mm → (Int → Mm → Prop) → Prop
  | 0, _, _, _, _, _, _ => False
  | n + 1, o0, x1, x2, x3, M, Q =>
    inR x3 ∧ inR x1 ∧ (x1 ≤ x3 →
      (x2 = 0 ∨ x2 = 1) ∧ Q x2 M) ∧
    (x3 < x1 →
      inR x2 ∧ (x2 ≠ 0 →
        p_X8_isTwice_L46 g n o0 x1 1 (x3 + 1) M Q) ∧
      (x2 = 0 →
        p_X8_rankRead g o0 x3 M (fun r3 M2 =>
          p_X8_rankRead g o0 x1 M2 (fun r5 M4 =>
            inR r3 ∧ inR r5 ∧ (r3 ≠ r5 →
              p_X8_isTwice_L46 g n o0 x1 0 (x3 + 1) M4 Q) ∧
            (r3 = r5 →
              p_X8_isTwice_L46 g n o0 x1 1 (x3 + 1) M4 Q)))))
def p_X8_isTwice_L4 (g : GG) : Nat → Nat → Int → Int → Int → Mm → (Int → Mm → Prop) → Prop
  | 0, _, _, _, _, _, _ => False
  | n + 1, o0, x1, x2, x3, M, Q =>
    36 < ((gl g (o0 + 1) : Nat) : Int) ∧
    inR x3 ∧ inR (M (o0 + 1) 36) ∧ ((M (o0 + 1) 36) ≤ x3 →
      ∃ n6, p_X8_isTwice_L46 g n6 o0 x1 x2 0 M Q) ∧
    (x3 < (M (o0 + 1) 36) →
      inR x2 ∧ (x2 ≠ 0 →
        p_X8_isTwice_L4 g n o0 x1 1 (x3 + 1) M Q) ∧
      (x2 = 0 →
        p_X8_rankAt g o0 x3 M (fun r8 M7 =>
          p_X8_rankRead g o0 x1 M7 (fun r10 M9 =>
            inR r8 ∧ inR r10 ∧ (r8 ≠ r10 →
              p_X8_isTwice_L4 g n o0 x1 0 (x3 + 1) M9 Q) ∧
            (r8 = r10 →
              p_X8_isTwice_L4 g n o0 x1 1 (x3 + 1) M9 Q)))))
def p_X8_isTwice (g : GG) (o0 : Nat) (x1 : Int) (M : Mm) (Q : Int → Mm → Prop) : Prop :=
  ∃ n11, p_X8_isTwice_L4 g n11 o0 x1 0 0 M Q
def rmX8_readCues : Room := { frames := 6, cells := 0, slots := 0, locals := 124 }
def p_X8_readCues_L69 (g : GG) : Nat → Nat → Int → Mm → (Int → Mm → Prop) → Prop
  | 0, _, _, _, _ => False
  | n + 1, o0, x2, M, Q =>
    inR x2 ∧ inR (M o0 24) ∧ ((M o0 24) ≤ x2 →
      36 < ((gl g (o0 + 1) : Nat) : Int) ∧
      p_X8_acted g o0 (M (o0 + 1) 36) M (fun r7 M6 =>
        Q r7 M6)) ∧
    (x2 < (M o0 24) →
      0 ≤ (4 * x2) ∧ (4 * x2) < ((gl g (o0 + 17) : Nat) : Int) ∧
      0 ≤ ((4 * x2) + 1) ∧ ((4 * x2) + 1) < ((gl g (o0 + 17) : Nat) : Int) ∧
      0 ≤ ((4 * x2) + 2) ∧ ((4 * x2) + 2) < ((gl g (o0 + 17) : Nat) : Int) ∧
      0 ≤ ((4 * x2) + 3) ∧ ((4 * x2) + 3) < ((gl g (o0 + 17) : Nat) : Int) ∧
      p_X8_putsIn g o0 (M (o0 + 17) (4 * x2)) (M (o0 + 17) ((4 * x2) + 1)) (M (o0 + 17) ((4 * x2) + 2)) (M (o0 + 17) ((4 * x2) + 3)) M (fun M12 =>
        p_X8_readCues_L69 g n o0 (x2 + 1) M12 Q))
def p_X8_readCues_L18 (g : GG) : Nat → Nat → Int → Mm → (Int → Mm → Prop) → Prop
  | 0, _, _, _, _ => False
  | n + 1, o0, x2, M, Q =>
    inR x2 ∧ inR (M o0 24) ∧ ((M o0 24) ≤ x2 →
      36 < ((gl g (o0 + 1) : Nat) : Int) ∧
      inR ((M (o0 + 1) 36) + (M o0 24)) ∧ (((M (o0 + 1) 36) + (M o0 24)) ≤ 40 →
        p_X8_remember g o0 M (fun M4 =>
          ∃ n13, p_X8_readCues_L69 g n13 o0 0 M4 Q)) ∧
      (40 < ((M (o0 + 1) 36) + (M o0 24)) →
        Q (-3) M)) ∧
    (x2 < (M o0 24) →
      p_X8_isTwice g o0 x2 M (fun r15 M14 =>
        inR r15 ∧ (r15 = 0 →
          p_X8_readCues_L18 g n o0 (x2 + 1) M14 Q) ∧
        (r15 ≠ 0 →
          Q (-4) M14)))
def p_X8_readCues (g : GG) (o0 : Nat) (M : Mm) (Q : Int → Mm → Prop) : Prop :=
  p_X8_fault g o0 M (fun r2 M1 =>
    inR r2 ∧ (r2 = (-5) →
      ∃ n16, p_X8_readCues_L18 g n16 o0 0 M1 Q) ∧
    (r2 ≠ (-5) →
      Q ((-100) - r2) M1))
def rmX8_removeCue : Room := { frames := 3, cells := 0, slots := 0, locals := 59 }
def p_X8_removeCue (g : GG) (o0 : Nat) (x1 : Int) (M : Mm) (Q : Int → Mm → Prop) : Prop :=
  p_X8_isCue g o0 x1 M (fun r2 M1 =>
    inR r2 ∧ (r2 ≠ 0 →
      p_X8_remember g o0 M1 (fun M3 =>
        p_X8_takesOut g o0 x1 M3 (fun M4 =>
          36 < ((gl g (o0 + 1) : Nat) : Int) ∧
          p_X8_acted g o0 (M4 (o0 + 1) 36) M4 (fun r7 M6 =>
            Q r7 M6)))) ∧
    (r2 = 0 →
      Q (-1) M1))
def rmX8_takesOutScene : Room := { frames := 2, cells := 0, slots := 0, locals := 35 }
def p_X8_takesOutScene_L10 (g : GG) : Nat → Nat → Int → Int → Mm → (Mm → Prop) → Prop
  | 0, _, _, _, _, _ => False
  | n + 1, o0, x1, x2, M, Q =>
    inR x2 ∧ (x2 < 0 →
      Q M) ∧
    (0 ≤ x2 →
      p_X8_of g o0 x2 0 M (fun r3 M2 =>
        inR r3 ∧ inR x1 ∧ (r3 ≠ x1 →
          p_X8_takesOutScene_L10 g n o0 x1 (x2 + (-1)) M2 Q) ∧
        (r3 = x1 →
          p_X8_takesOut g o0 x2 M2 (fun M4 =>
            p_X8_takesOutScene_L10 g n o0 x1 (x2 + (-1)) M4 Q))))
def p_X8_takesOutScene (g : GG) (o0 : Nat) (x1 : Int) (M : Mm) (Q : Mm → Prop) : Prop :=
  36 < ((gl g (o0 + 1) : Nat) : Int) ∧
  ∃ n5, p_X8_takesOutScene_L10 g n5 o0 x1 ((M (o0 + 1) 36) - 1) M Q
def rmX8_canShift : Room := { frames := 2, cells := 0, slots := 0, locals := 38 }
def p_X8_canShift_L5 (g : GG) : Nat → Nat → Int → Int → Int → Int → Mm → (Int → Mm → Prop) → Prop
  | 0, _, _, _, _, _, _, _ => False
  | n + 1, o0, x1, x2, x3, x4, M, Q =>
    36 < ((gl g (o0 + 1) : Nat) : Int) ∧
    inR x4 ∧ inR (M (o0 + 1) 36) ∧ ((M (o0 + 1) 36) ≤ x4 →
      (x3 = 0 ∨ x3 = 1) ∧ Q x3 M) ∧
    (x4 < (M (o0 + 1) 36) →
      inR x3 ∧ (x3 = 0 →
        p_X8_canShift_L5 g n o0 x1 x2 0 (x4 + 1) M Q) ∧
      (x3 ≠ 0 →
        p_X8_of g o0 x4 0 M (fun r3 M2 =>
          inR r3 ∧ inR x1 ∧ (r3 ≠ x1 →
            p_X8_canShift_L5 g n o0 x1 x2 1 (x4 + 1) M2 Q) ∧
          (r3 = x1 →
            p_X8_of g o0 x4 1 M2 (fun r5 M4 =>
              inR (r5 + x2) ∧
              p_X8_in g (r5 + x2) 0 999 M4 (fun r7 M6 =>
                inR r7 ∧ (r7 = 0 →
                  p_X8_canShift_L5 g n o0 x1 x2 0 (x4 + 1) M6 Q) ∧
                (r7 ≠ 0 →
                  p_X8_canShift_L5 g n o0 x1 x2 1 (x4 + 1) M6 Q)))))))
def p_X8_canShift (g : GG) (o0 : Nat) (x1 : Int) (x2 : Int) (M : Mm) (Q : Int → Mm → Prop) : Prop :=
  ∃ n8, p_X8_canShift_L5 g n8 o0 x1 x2 1 0 M Q
def rmX8_shift : Room := { frames := 4, cells := 0, slots := 0, locals := 82 }
def p_X8_shift_L68 (g : GG) : Nat → Nat → Int → Int → Int → Int → Mm → (Int → Mm → Prop) → Prop
  | 0, _, _, _, _, _, _, _ => False
  | n + 1, o0, x1, x2, x3, x4, M, Q =>
    36 < ((gl g (o0 + 2) : Nat) : Int) ∧
    inR x4 ∧ inR (41 + (4 * (M (o0 + 2) 36))) ∧ ((41 + (4 * (M (o0 + 2) 36))) ≤ x4 →
      p_X8_acted g o0 x3 M (fun r13 M12 =>
        Q r13 M12)) ∧
    (x4 < (41 + (4 * (M (o0 + 2) 36))) →
      0 ≤ (x4 + 0) ∧ (x4 + 0) < ((gl g (o0 + 2) : Nat) : Int) ∧
      inR (M (o0 + 2) (x4 + 0)) ∧ inR x1 ∧ ((M (o0 + 2) (x4 + 0)) ≠ x1 →
        p_X8_shift_L68 g n o0 x1 x2 x3 (x4 + 4) M Q) ∧
      ((M (o0 + 2) (x4 + 0)) = x1 →
        0 ≤ (x4 + 1) ∧ (x4 + 1) < ((gl g (o0 + 2) : Nat) : Int) ∧
        0 ≤ (x4 + 2) ∧ (x4 + 2) < ((gl g (o0 + 2) : Nat) : Int) ∧
        0 ≤ (x4 + 3) ∧ (x4 + 3) < ((gl g (o0 + 2) : Nat) : Int) ∧
        p_X8_putsIn g o0 x1 ((M (o0 + 2) (x4 + 1)) + x2) (M (o0 + 2) (x4 + 2)) (M (o0 + 2) (x4 + 3)) M (fun M18 =>
          p_X8_shift_L68 g n o0 x1 x2 x3 (x4 + 4) M18 Q)))
def p_X8_shift (g : GG) (o0 : Nat) (x1 : Int) (x2 : Int) (M : Mm) (Q : Int → Mm → Prop) : Prop :=
  p_X8_isScene g x1 M (fun r2 M1 =>
    inR r2 ∧ (r2 ≠ 0 →
      inR x2 ∧
      p_X8_in g x2 (-99) 99 M1 (fun r4 M3 =>
        inR r4 ∧ (r4 ≠ 0 →
          p_X8_canShift g o0 x1 x2 M3 (fun r6 M5 =>
            inR r6 ∧ (r6 ≠ 0 →
              p_X8_cuesOf g o0 x1 M5 (fun r8 M7 =>
                inR x2 ∧ (x2 = 0 →
                  Q (-5) M7) ∧
                (x2 ≠ 0 →
                  inR r8 ∧ (r8 ≠ 0 →
                    p_X8_remember g o0 M7 (fun M9 =>
                      p_X8_takesOutScene g o0 x1 M9 (fun M10 =>
                        ∃ n19, p_X8_shift_L68 g n19 o0 x1 x2 r8 41 M10 Q))) ∧
                  (r8 = 0 →
                    Q (-5) M7)))) ∧
            (r6 = 0 →
              Q (-4) M5))) ∧
        (r4 = 0 →
          Q (-2) M3))) ∧
    (r2 = 0 →
      Q (-1) M1))
def rmX8_cutScene : Room := { frames := 3, cells := 0, slots := 0, locals := 58 }
def p_X8_cutScene (g : GG) (o0 : Nat) (x1 : Int) (M : Mm) (Q : Int → Mm → Prop) : Prop :=
  p_X8_isScene g x1 M (fun r2 M1 =>
    inR r2 ∧ (r2 ≠ 0 →
      p_X8_cuesOf g o0 x1 M1 (fun r4 M3 =>
        inR r4 ∧ (r4 ≠ 0 →
          p_X8_remember g o0 M3 (fun M5 =>
            p_X8_takesOutScene g o0 x1 M5 (fun M6 =>
              p_X8_acted g o0 r4 M6 (fun r8 M7 =>
                Q r8 M7)))) ∧
        (r4 = 0 →
          Q (-5) M3))) ∧
    (r2 = 0 →
      Q (-1) M1))
def rmX8_take : Room := { frames := 5, cells := 0, slots := 0, locals := 104 }
def p_X8_take (g : GG) (o0 : Nat) (M : Mm) (Q : Int → Mm → Prop) : Prop :=
  36 < ((gl g (o0 + 1) : Nat) : Int) ∧
  inR (M (o0 + 1) 36) ∧ ((M (o0 + 1) 36) ≠ 0 →
    p_X8_remember g o0 M (fun M2 =>
      p_X8_plays g o0 M2 (fun M3 =>
        37 < ((gl g (o0 + 1) : Nat) : Int) ∧
        37 < ((gl g (o0 + 1) : Nat) : Int) ∧ ∀ M5 : Mm, M5 = mu M3 (o0 + 1) 37 ((M3 (o0 + 1) 37) + 1) →
        38 < ((gl g (o0 + 1) : Nat) : Int) ∧
        36 < ((gl g (o0 + 1) : Nat) : Int) ∧
        38 < ((gl g (o0 + 1) : Nat) : Int) ∧ ∀ M8 : Mm, M8 = mu M5 (o0 + 1) 38 ((M5 (o0 + 1) 38) + ((M5 (o0 + 1) 36) - (M5 o0 16))) →
        39 < ((gl g (o0 + 1) : Nat) : Int) ∧
        39 < ((gl g (o0 + 1) : Nat) : Int) ∧ ∀ M10 : Mm, M10 = mu M8 (o0 + 1) 39 ((M8 (o0 + 1) 39) + (M8 o0 16)) →
        40 < ((gl g (o0 + 1) : Nat) : Int) ∧
        40 < ((gl g (o0 + 1) : Nat) : Int) ∧ ∀ M12 : Mm, M12 = mu M10 (o0 + 1) 40 ((M10 (o0 + 1) 40) + (M10 o0 17)) →
        p_X8_acted g o0 (M12 o0 16) M12 (fun r14 M13 =>
          Q r14 M13)))) ∧
  ((M (o0 + 1) 36) = 0 →
    Q (-4) M)
def rmX8_undo : Room := { frames := 1, cells := 0, slots := 0, locals := 13 }
def p_X8_undo_L22 (g : GG) : Nat → Nat → Int → Mm → (Int → Mm → Prop) → Prop
  | 0, _, _, _, _ => False
  | n + 1, o0, x1, M, Q =>
    inR x1 ∧ (201 ≤ x1 →
      Q (M o0 4) M) ∧
    (x1 < 201 →
      0 ≤ ((201 * (M o0 4)) + x1) ∧ ((201 * (M o0 4)) + x1) < ((gl g (o0 + 4) : Nat) : Int) ∧
      0 ≤ x1 ∧ x1 < ((gl g (o0 + 1) : Nat) : Int) ∧ ∀ M4 : Mm, M4 = mu M (o0 + 1) x1 (M (o0 + 4) ((201 * (M o0 4)) + x1)) →
      p_X8_undo_L22 g n o0 (x1 + 1) M4 Q)
def p_X8_undo (g : GG) (o0 : Nat) (M : Mm) (Q : Int → Mm → Prop) : Prop :=
  inR (M o0 4) ∧ ((M o0 4) ≠ 0 →
    ∀ M1 : Mm, M1 = mu M o0 4 ((M o0 4) - 1) →
    ∃ n5, p_X8_undo_L22 g n5 o0 0 M1 Q) ∧
  ((M o0 4) = 0 →
    Q (-5) M)
def rmX8_keep : Room := { frames := 2, cells := 0, slots := 0, locals := 35 }
def p_X8_keep (g : GG) (o0 : Nat) (M : Mm) (Q : Int → Mm → Prop) : Prop :=
  p_X8_copy g (o0 + 1) (o0 + 5) M (fun M3 =>
    ∀ M4 : Mm, M4 = mu M3 o0 6 1 →
    36 < ((gl g (o0 + 1) : Nat) : Int) ∧
    Q (M4 (o0 + 1) 36) M4)
def rmX8_restore : Room := { frames := 3, cells := 0, slots := 0, locals := 55 }
def p_X8_restore (g : GG) (o0 : Nat) (M : Mm) (Q : Int → Mm → Prop) : Prop :=
  inR (M o0 6) ∧ ((M o0 6) ≠ 0 →
    p_X8_remember g o0 M (fun M1 =>
      p_X8_copy g (o0 + 5) (o0 + 1) M1 (fun M4 =>
        36 < ((gl g (o0 + 1) : Nat) : Int) ∧
        p_X8_acted g o0 (M4 (o0 + 1) 36) M4 (fun r7 M6 =>
          Q r7 M6)))) ∧
  ((M o0 6) = 0 →
    Q (-5) M)
def rmX8_cuesOfSound : Room := { frames := 6, cells := 0, slots := 0, locals := 125 }
def p_X8_cuesOfSound_L9 (g : GG) : Nat → Nat → Int → Int → Int → Int → Mm → (Int → Mm → Prop) → Prop
  | 0, _, _, _, _, _, _, _ => False
  | n + 1, o0, x1, x2, x3, x4, M, Q =>
    36 < ((gl g (o0 + 1) : Nat) : Int) ∧
    inR x4 ∧ inR (M (o0 + 1) 36) ∧ ((M (o0 + 1) 36) ≤ x4 →
      Q x3 M) ∧
    (x4 < (M (o0 + 1) 36) →
      p_X8_of g o0 x4 2 M (fun r4 M3 =>
        inR r4 ∧ inR x1 ∧ (r4 ≠ x1 →
          p_X8_cuesOfSound_L9 g n o0 x1 x2 (x3 + 0) (x4 + 1) M3 Q) ∧
        (r4 = x1 →
          inR x2 ∧ (x2 = 0 →
            p_X8_cuesOfSound_L9 g n o0 x1 x2 (x3 + 1) (x4 + 1) M3 Q) ∧
          (x2 ≠ 0 →
            0 ≤ x4 ∧ x4 < ((gl g (o0 + 7) : Nat) : Int) ∧
            inR (M3 (o0 + 7) x4) ∧ ((M3 (o0 + 7) x4) ≠ 0 →
              p_X8_cuesOfSound_L9 g n o0 x1 x2 (x3 + 0) (x4 + 1) M3 Q) ∧
            ((M3 (o0 + 7) x4) = 0 →
              p_X8_cuesOfSound_L9 g n o0 x1 x2 (x3 + 1) (x4 + 1) M3 Q)))))
def p_X8_cuesOfSound (g : GG) (o0 : Nat) (x1 : Int) (x2 : Int) (M : Mm) (Q : Int → Mm → Prop) : Prop :=
  p_X8_tries g o0 M (fun M1 =>
    ∃ n6, p_X8_cuesOfSound_L9 g n6 o0 x1 x2 0 0 M1 Q)
def rmX8_lacks : Room := { frames := 7, cells := 0, slots := 0, locals := 149 }
def p_X8_lacks (g : GG) (o0 : Nat) (x1 : Int) (M : Mm) (Q : Int → Mm → Prop) : Prop :=
  p_X8_cuesOfSound g o0 x1 0 M (fun r2 M1 =>
    0 ≤ (10 + x1) ∧ (10 + x1) < ((gl g (o0 + 1) : Nat) : Int) ∧
    inR (r2 - (M1 (o0 + 1) (10 + x1))) ∧ (0 ≤ (r2 - (M1 (o0 + 1) (10 + x1))) →
      Q (r2 - (M1 (o0 + 1) (10 + x1))) M1) ∧
    ((r2 - (M1 (o0 + 1) (10 + x1))) < 0 →
      Q 0 M1))
def rmX8_sound : Room := { frames := 8, cells := 0, slots := 0, locals := 171 }
def p_X8_sound (g : GG) (o0 : Nat) (x1 : Int) (x2 : Int) (M : Mm) (Q : Int → Mm → Prop) : Prop :=
  p_X8_isSound g x1 M (fun r2 M1 =>
    inR r2 ∧ (r2 ≠ 0 →
      inR x2 ∧
      (x2 = 0 →
        0 ≤ ((10 * x2) + x1) ∧ ((10 * x2) + x1) < ((gl g (o0 + 1) : Nat) : Int) ∧
        Q (M1 (o0 + 1) ((10 * x2) + x1)) M1) ∧
      (x2 = 1 →
        0 ≤ ((10 * x2) + x1) ∧ ((10 * x2) + x1) < ((gl g (o0 + 1) : Nat) : Int) ∧
        Q (M1 (o0 + 1) ((10 * x2) + x1)) M1) ∧
      (x2 = 2 →
        0 ≤ ((10 * x2) + x1) ∧ ((10 * x2) + x1) < ((gl g (o0 + 1) : Nat) : Int) ∧
        Q (M1 (o0 + 1) ((10 * x2) + x1)) M1) ∧
      (x2 = 3 →
        p_X8_cuesOfSound g o0 x1 0 M1 (fun r7 M6 =>
          Q r7 M6)) ∧
      (x2 = 4 →
        p_X8_cuesOfSound g o0 x1 1 M1 (fun r9 M8 =>
          Q r9 M8)) ∧
      (x2 = 5 →
        p_X8_lacks g o0 x1 M1 (fun r11 M10 =>
          Q r11 M10)) ∧
      ((x2 < 0 ∨ 5 < x2) →
        Q (-2) M1)) ∧
    (r2 = 0 →
      Q (-1) M1))
def rmX8_cue : Room := { frames := 6, cells := 0, slots := 0, locals := 125 }
def p_X8_cue (g : GG) (o0 : Nat) (x1 : Int) (x2 : Int) (M : Mm) (Q : Int → Mm → Prop) : Prop :=
  p_X8_isCue g o0 x1 M (fun r2 M1 =>
    inR r2 ∧ (r2 ≠ 0 →
      p_X8_tries g o0 M1 (fun M3 =>
        inR x2 ∧
        (x2 = 0 →
          p_X8_of g o0 x1 x2 M3 (fun r5 M4 =>
            Q r5 M4)) ∧
        (x2 = 1 →
          p_X8_of g o0 x1 x2 M3 (fun r7 M6 =>
            Q r7 M6)) ∧
        (x2 = 2 →
          p_X8_of g o0 x1 x2 M3 (fun r9 M8 =>
            Q r9 M8)) ∧
        (x2 = 3 →
          p_X8_of g o0 x1 x2 M3 (fun r11 M10 =>
            Q r11 M10)) ∧
        (x2 = 4 →
          0 ≤ x1 ∧ x1 < ((gl g (o0 + 6) : Nat) : Int) ∧
          Q (M3 (o0 + 6) x1) M3) ∧
        (x2 = 5 →
          0 ≤ x1 ∧ x1 < ((gl g (o0 + 7) : Nat) : Int) ∧
          Q (M3 (o0 + 7) x1) M3) ∧
        (x2 = 6 →
          0 ≤ x1 ∧ x1 < ((gl g (o0 + 8) : Nat) : Int) ∧
          Q (M3 (o0 + 8) x1) M3) ∧
        ((x2 < 0 ∨ 6 < x2) →
          Q (-2) M3))) ∧
    (r2 = 0 →
      Q (-1) M1))
def rmX8_hand : Room := { frames := 6, cells := 0, slots := 0, locals := 125 }
def p_X8_hand (g : GG) (o0 : Nat) (x1 : Int) (x2 : Int) (M : Mm) (Q : Int → Mm → Prop) : Prop :=
  p_X8_isHand g o0 x1 M (fun r2 M1 =>
    inR r2 ∧ (r2 ≠ 0 →
      p_X8_tries g o0 M1 (fun M3 =>
        inR x2 ∧
        (x2 = 0 →
          0 ≤ (31 + x1) ∧ (31 + x1) < ((gl g (o0 + 1) : Nat) : Int) ∧
          Q (M3 (o0 + 1) (31 + x1)) M3) ∧
        (x2 = 1 →
          0 ≤ x1 ∧ x1 < ((gl g (o0 + 11) : Nat) : Int) ∧
          Q (M3 (o0 + 11) x1) M3) ∧
        (x2 = 2 →
          0 ≤ x1 ∧ x1 < ((gl g (o0 + 12) : Nat) : Int) ∧
          Q (M3 (o0 + 12) x1) M3) ∧
        (x2 = 3 →
          0 ≤ x1 ∧ x1 < ((gl g (o0 + 10) : Nat) : Int) ∧
          Q (M3 (o0 + 10) x1) M3) ∧
        (x2 = 4 →
          0 ≤ x1 ∧ x1 < ((gl g (o0 + 15) : Nat) : Int) ∧
          Q (M3 (o0 + 15) x1) M3) ∧
        ((x2 < 0 ∨ 4 < x2) →
          Q (-2) M3))) ∧
    (r2 = 0 →
      Q (-1) M1))
def rmX8_firstTick : Room := { frames := 2, cells := 0, slots := 0, locals := 35 }
def p_X8_firstTick_L2 (g : GG) : Nat → Nat → Int → Int → Mm → (Int → Mm → Prop) → Prop
  | 0, _, _, _, _, _ => False
  | n + 1, o0, x1, x2, M, Q =>
    36 < ((gl g (o0 + 1) : Nat) : Int) ∧
    inR x2 ∧ inR (M (o0 + 1) 36) ∧ ((M (o0 + 1) 36) ≤ x2 →
      Q (-5) M) ∧
    (x2 < (M (o0 + 1) 36) →
      p_X8_of g o0 x2 0 M (fun r3 M2 =>
        inR r3 ∧ inR x1 ∧ (r3 ≠ x1 →
          p_X8_firstTick_L2 g n o0 x1 (x2 + 1) M2 Q) ∧
        (r3 = x1 →
          p_X8_of g o0 x2 1 M2 (fun r5 M4 =>
            Q r5 M4))))
def p_X8_firstTick (g : GG) (o0 : Nat) (x1 : Int) (M : Mm) (Q : Int → Mm → Prop) : Prop :=
  ∃ n6, p_X8_firstTick_L2 g n6 o0 x1 0 M Q
def rmX8_greatestEnd : Room := { frames := 2, cells := 0, slots := 0, locals := 35 }
def p_X8_greatestEnd_L5 (g : GG) : Nat → Nat → Int → Int → Int → Mm → (Int → Mm → Prop) → Prop
  | 0, _, _, _, _, _, _ => False
  | n + 1, o0, x1, x2, x3, M, Q =>
    36 < ((gl g (o0 + 1) : Nat) : Int) ∧
    inR x3 ∧ inR (M (o0 + 1) 36) ∧ ((M (o0 + 1) 36) ≤ x3 →
      Q x2 M) ∧
    (x3 < (M (o0 + 1) 36) →
      p_X8_of g o0 x3 0 M (fun r3 M2 =>
        inR r3 ∧ inR x1 ∧ (r3 ≠ x1 →
          inR x2 ∧ ((-5) ≤ x2 →
            p_X8_greatestEnd_L5 g n o0 x1 x2 (x3 + 1) M2 Q) ∧
          (x2 < (-5) →
            p_X8_greatestEnd_L5 g n o0 x1 (-5) (x3 + 1) M2 Q)) ∧
        (r3 = x1 →
          p_X8_of g o0 x3 1 M2 (fun r5 M4 =>
            p_X8_of g o0 x3 3 M4 (fun r7 M6 =>
              inR (r5 + r7) ∧ inR x2 ∧ ((r5 + r7) ≤ x2 →
                p_X8_greatestEnd_L5 g n o0 x1 x2 (x3 + 1) M6 Q) ∧
              (x2 < (r5 + r7) →
                p_X8_greatestEnd_L5 g n o0 x1 (r5 + r7) (x3 + 1) M6 Q))))))
def p_X8_greatestEnd (g : GG) (o0 : Nat) (x1 : Int) (M : Mm) (Q : Int → Mm → Prop) : Prop :=
  ∃ n8, p_X8_greatestEnd_L5 g n8 o0 x1 (-5) 0 M Q
def rmX8_missedOf : Room := { frames := 6, cells := 0, slots := 0, locals := 125 }
def p_X8_missedOf_L8 (g : GG) : Nat → Nat → Int → Int → Int → Mm → (Int → Mm → Prop) → Prop
  | 0, _, _, _, _, _, _ => False
  | n + 1, o0, x1, x2, x3, M, Q =>
    36 < ((gl g (o0 + 1) : Nat) : Int) ∧
    inR x3 ∧ inR (M (o0 + 1) 36) ∧ ((M (o0 + 1) 36) ≤ x3 →
      Q x2 M) ∧
    (x3 < (M (o0 + 1) 36) →
      p_X8_of g o0 x3 0 M (fun r4 M3 =>
        inR r4 ∧ inR x1 ∧ (r4 ≠ x1 →
          p_X8_missedOf_L8 g n o0 x1 (x2 + 0) (x3 + 1) M3 Q) ∧
        (r4 = x1 →
          0 ≤ x3 ∧ x3 < ((gl g (o0 + 7) : Nat) : Int) ∧
          inR (M3 (o0 + 7) x3) ∧ ((M3 (o0 + 7) x3) ≤ 0 →
            p_X8_missedOf_L8 g n o0 x1 (x2 + 0) (x3 + 1) M3 Q) ∧
          (0 < (M3 (o0 + 7) x3) →
            p_X8_missedOf_L8 g n o0 x1 (x2 + 1) (x3 + 1) M3 Q))))
def p_X8_missedOf (g : GG) (o0 : Nat) (x1 : Int) (M : Mm) (Q : Int → Mm → Prop) : Prop :=
  p_X8_tries g o0 M (fun M1 =>
    ∃ n6, p_X8_missedOf_L8 g n6 o0 x1 0 0 M1 Q)
def rmX8_lentTo : Room := { frames := 6, cells := 0, slots := 0, locals := 125 }
def p_X8_lentTo_L8 (g : GG) : Nat → Nat → Int → Int → Int → Mm → (Int → Mm → Prop) → Prop
  | 0, _, _, _, _, _, _ => False
  | n + 1, o0, x1, x2, x3, M, Q =>
    36 < ((gl g (o0 + 1) : Nat) : Int) ∧
    inR x3 ∧ inR (M (o0 + 1) 36) ∧ ((M (o0 + 1) 36) ≤ x3 →
      Q x2 M) ∧
    (x3 < (M (o0 + 1) 36) →
      p_X8_of g o0 x3 0 M (fun r4 M3 =>
        inR r4 ∧ inR x1 ∧ (r4 ≠ x1 →
          p_X8_lentTo_L8 g n o0 x1 (x2 + 0) (x3 + 1) M3 Q) ∧
        (r4 = x1 →
          0 ≤ x3 ∧ x3 < ((gl g (o0 + 9) : Nat) : Int) ∧
          p_X8_lentTo_L8 g n o0 x1 (x2 + (M3 (o0 + 9) x3)) (x3 + 1) M3 Q)))
def p_X8_lentTo (g : GG) (o0 : Nat) (x1 : Int) (M : Mm) (Q : Int → Mm → Prop) : Prop :=
  p_X8_tries g o0 M (fun M1 =>
    ∃ n6, p_X8_lentTo_L8 g n6 o0 x1 0 0 M1 Q)
def rmX8_scene : Room := { frames := 7, cells := 0, slots := 0, locals := 148 }
def p_X8_scene (g : GG) (o0 : Nat) (x1 : Int) (x2 : Int) (M : Mm) (Q : Int → Mm → Prop) : Prop :=
  p_X8_isScene g x1 M (fun r2 M1 =>
    inR r2 ∧ (r2 ≠ 0 →
      inR x2 ∧
      (x2 = 0 →
        p_X8_cuesOf g o0 x1 M1 (fun r4 M3 =>
          Q r4 M3)) ∧
      (x2 = 1 →
        p_X8_firstTick g o0 x1 M1 (fun r6 M5 =>
          Q r6 M5)) ∧
      (x2 = 2 →
        p_X8_greatestEnd g o0 x1 M1 (fun r8 M7 =>
          Q r8 M7)) ∧
      (x2 = 3 →
        p_X8_missedOf g o0 x1 M1 (fun r10 M9 =>
          Q r10 M9)) ∧
      (x2 = 4 →
        p_X8_lentTo g o0 x1 M1 (fun r12 M11 =>
          Q r12 M11)) ∧
      ((x2 < 0 ∨ 4 < x2) →
        Q (-2) M1)) ∧
    (r2 = 0 →
      Q (-1) M1))
def rmX8_missed : Room := { frames := 6, cells := 0, slots := 0, locals := 125 }
def p_X8_missed_L15 (g : GG) : Nat → Nat → Int → Int → Mm → (Int → Mm → Prop) → Prop
  | 0, _, _, _, _, _ => False
  | n + 1, o0, x2, x3, M, Q =>
    36 < ((gl g (o0 + 1) : Nat) : Int) ∧
    inR x3 ∧ inR (M (o0 + 1) 36) ∧ ((M (o0 + 1) 36) ≤ x3 →
      Q (-5) M) ∧
    (x3 < (M (o0 + 1) 36) →
      0 ≤ x3 ∧ x3 < ((gl g (o0 + 7) : Nat) : Int) ∧
      inR (M (o0 + 7) x3) ∧ ((M (o0 + 7) x3) ≤ 0 →
        p_X8_missed_L15 g n o0 x2 (x3 + 1) M Q) ∧
      (0 < (M (o0 + 7) x3) →
        inR x2 ∧ (x2 ≠ 0 →
          p_X8_missed_L15 g n o0 (x2 + (-1)) (x3 + 1) M Q) ∧
        (x2 = 0 →
          Q x3 M)))
def p_X8_missed (g : GG) (o0 : Nat) (x1 : Int) (M : Mm) (Q : Int → Mm → Prop) : Prop :=
  inR x1 ∧ (0 ≤ x1 →
    p_X8_tries g o0 M (fun M1 =>
      ∃ n4, p_X8_missed_L15 g n4 o0 x1 0 M1 Q)) ∧
  (x1 < 0 →
    Q (-2) M)
def rmX8_ifHands : Room := { frames := 5, cells := 0, slots := 0, locals := 104 }
def p_X8_ifHands (g : GG) (o0 : Nat) (x1 : Int) (M : Mm) (Q : Int → Mm → Prop) : Prop :=
  inR x1 ∧
  p_X8_in g x1 1 4 M (fun r2 M1 =>
    inR r2 ∧ (r2 ≠ 0 →
      p_X8_copy g (o0 + 1) (o0 + 3) M1 (fun M5 =>
        p_X8_becomeHands g o0 x1 M5 (fun M6 =>
          p_X8_plays g o0 M6 (fun M7 =>
            p_X8_copy g (o0 + 3) (o0 + 1) M7 (fun M10 =>
              Q (M10 o0 17) M10))))) ∧
    (r2 = 0 →
      Q (-2) M1))
def rmX8_cleanTakes : Room := { frames := 5, cells := 0, slots := 0, locals := 104 }
def p_X8_cleanTakes_J70 (g : GG) (o0 : Nat) (x1 : Int) (M : Mm) (Q : Int → Mm → Prop) : Prop :=
  p_X8_copy g (o0 + 3) (o0 + 1) M (fun M7 =>
    Q x1 M7)
def p_X8_cleanTakes_L28 (g : GG) : Nat → Nat → Int → Int → Mm → (Int → Mm → Prop) → Prop
  | 0, _, _, _, _, _ => False
  | n + 1, o0, x1, x2, M, Q =>
    inR x2 ∧ (x2 = 0 →
      p_X8_cleanTakes_J70 g o0 x1 M Q) ∧
    (x2 ≠ 0 →
      inR x1 ∧ (30 ≤ x1 →
        p_X8_cleanTakes_J70 g o0 x1 M Q) ∧
      (x1 < 30 →
        p_X8_plays g o0 M (fun M8 =>
          inR (M8 o0 16) ∧ ((M8 o0 16) ≠ 0 →
            p_X8_cleanTakes_L28 g n o0 (x1 + 0) 0 M8 Q) ∧
          ((M8 o0 16) = 0 →
            p_X8_cleanTakes_L28 g n o0 (x1 + 1) 1 M8 Q))))
def p_X8_cleanTakes (g : GG) (o0 : Nat) (M : Mm) (Q : Int → Mm → Prop) : Prop :=
  36 < ((gl g (o0 + 1) : Nat) : Int) ∧
  inR (M (o0 + 1) 36) ∧ ((M (o0 + 1) 36) ≠ 0 →
    p_X8_copy g (o0 + 1) (o0 + 3) M (fun M4 =>
      ∃ n9, p_X8_cleanTakes_L28 g n9 o0 0 1 M4 Q)) ∧
  ((M (o0 + 1) 36) = 0 →
    Q (-4) M)
def rmX8_wouldMiss : Room := { frames := 6, cells := 0, slots := 0, locals := 125 }
def p_X8_wouldMiss (g : GG) (o0 : Nat) (x1 : Int) (M : Mm) (Q : Int → Mm → Prop) : Prop :=
  p_X8_tries g o0 M (fun M1 =>
    inR x1 ∧ (x1 = 0 →
      Q (M1 o0 16) M1) ∧
    (x1 ≠ 0 →
      Q (M1 o0 17) M1))
def rmX8_allCharges : Room := { frames := 1, cells := 0, slots := 0, locals := 13 }
def p_X8_allCharges_L4 (g : GG) : Nat → Nat → Int → Int → Mm → (Int → Mm → Prop) → Prop
  | 0, _, _, _, _, _ => False
  | n + 1, o0, x1, x2, M, Q =>
    inR x2 ∧ (10 ≤ x2 →
      Q x1 M) ∧
    (x2 < 10 →
      0 ≤ (10 + x2) ∧ (10 + x2) < ((gl g (o0 + 1) : Nat) : Int) ∧
      p_X8_allCharges_L4 g n o0 (x1 + (M (o0 + 1) (10 + x2))) (x2 + 1) M Q)
def p_X8_allCharges (g : GG) (o0 : Nat) (M : Mm) (Q : Int → Mm → Prop) : Prop :=
  ∃ n2, p_X8_allCharges_L4 g n2 o0 0 0 M Q
def rmX8_count : Room := { frames := 7, cells := 0, slots := 0, locals := 146 }
def p_X8_count_J112 (g : GG) (z0 : Nat) (y1 : Int) (M : Mm) (Q : Int → Mm → Prop) : Prop :=
  p_X8_wouldMiss g z0 y1 M (fun r9 M8 =>
    Q r9 M8)
def p_X8_count (g : GG) (o0 : Nat) (x1 : Int) (M : Mm) (Q : Int → Mm → Prop) : Prop :=
  inR x1 ∧
  (x1 = 0 →
    36 < ((gl g (o0 + 1) : Nat) : Int) ∧
    Q (M (o0 + 1) 36) M) ∧
  (x1 = 1 →
    30 < ((gl g (o0 + 1) : Nat) : Int) ∧
    Q (M (o0 + 1) 30) M) ∧
  (x1 = 2 →
    35 < ((gl g (o0 + 1) : Nat) : Int) ∧
    Q (M (o0 + 1) 35) M) ∧
  (x1 = 3 →
    0 ≤ ((37 + x1) - 3) ∧ ((37 + x1) - 3) < ((gl g (o0 + 1) : Nat) : Int) ∧
    Q (M (o0 + 1) ((37 + x1) - 3)) M) ∧
  (x1 = 4 →
    0 ≤ ((37 + x1) - 3) ∧ ((37 + x1) - 3) < ((gl g (o0 + 1) : Nat) : Int) ∧
    Q (M (o0 + 1) ((37 + x1) - 3)) M) ∧
  (x1 = 5 →
    0 ≤ ((37 + x1) - 3) ∧ ((37 + x1) - 3) < ((gl g (o0 + 1) : Nat) : Int) ∧
    Q (M (o0 + 1) ((37 + x1) - 3)) M) ∧
  (x1 = 6 →
    0 ≤ ((37 + x1) - 3) ∧ ((37 + x1) - 3) < ((gl g (o0 + 1) : Nat) : Int) ∧
    Q (M (o0 + 1) ((37 + x1) - 3)) M) ∧
  (x1 = 7 →
    inR x1 ∧ (x1 ≠ 8 →
      p_X8_count_J112 g o0 0 M Q) ∧
    (x1 = 8 →
      p_X8_count_J112 g o0 1 M Q)) ∧
  (x1 = 8 →
    inR x1 ∧ (x1 ≠ 8 →
      p_X8_count_J112 g o0 0 M Q) ∧
    (x1 = 8 →
      p_X8_count_J112 g o0 1 M Q)) ∧
  (x1 = 9 →
    p_X8_allCharges g o0 M (fun r11 M10 =>
      Q r11 M10)) ∧
  (x1 = 10 →
    Q (M o0 4) M) ∧
  (x1 = 11 →
    Q (M o0 20) M) ∧
  ((x1 < 0 ∨ 11 < x1) →
    Q (-2) M)
