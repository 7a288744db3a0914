/-! Drawn again and again. -/
def zx_q (n p q : Nat) : Nat := if p = q then (q + 1) % n else q
def zx_dr (fw : Nat → Nat → Nat → Int32) (n R : Nat) (c : Int32) : Nat → Int32 × Int32 × Nat
  | 0 => (c, 0, 0)
  | i + 1 =>
    if fw (zn_draw (zn_next (zx_dr fw n R c i).1) n) (zx_q n (zn_draw (zn_next (zx_dr fw n R c i).1) n) (zn_draw (zn_next (zn_next (zx_dr fw n R c i).1)) n)) (zn_draw (zx_dr fw n R c i).1 R) = -2
    then (zn_next (zn_next (zn_next (zx_dr fw n R c i).1)), (zx_dr fw n R c i).2.1, (zx_dr fw n R c i).2.2 + 1)
    else (zn_next (zn_next (zn_next (zx_dr fw n R c i).1)), (zx_dr fw n R c i).2.1 + fw (zn_draw (zn_next (zx_dr fw n R c i).1) n) (zx_q n (zn_draw (zn_next (zx_dr fw n R c i).1) n) (zn_draw (zn_next (zn_next (zx_dr fw n R c i).1)) n)) (zn_draw (zx_dr fw n R c i).1 R), (zx_dr fw n R c i).2.2)
theorem zx_dr_le (fw : Nat → Nat → Nat → Int32) (n R : Nat) (c : Int32) : ∀ i, (zx_dr fw n R c i).2.2 ≤ i
  | 0 => Nat.le_refl 0
  | i + 1 => by
    have := zx_dr_le fw n R c i
    simp only [zx_dr]; split <;> simp only <;> omega
