/-! learn: comparing parts -/
theorem bI_sw {b : Bool} {s : SS} : (if b = true then some (some (.inl 1), s) else some (some (.inl 0), s) : RE) = some (some (.inl (bI b)), s) := by
  cases b <;> rfl
theorem lt_fr {a b c d q : Nat} (ha : a / b = q) (hc : c / d = q) : (a * d < c * b) = (a % b * d < c % d * b) := by
  have e1 := Nat.div_add_mod a b
  have e2 := Nat.div_add_mod c d
  rw [ha] at e1
  rw [hc] at e2
  have x1 : a * d = b * q * d + a % b * d := by
    rw [← Nat.add_mul, e1]
  have x2 : c * b = b * q * d + c % d * b := by
    have : b * q * d = d * q * b := by
      rw [Nat.mul_comm b q, Nat.mul_assoc, Nat.mul_comm b d, ← Nat.mul_assoc, Nat.mul_comm q d]
    rw [this, ← Nat.add_mul, e2]
  apply propext
  rw [x1, x2]
  omega
theorem lt_q {a b c d : Nat} (hb : 0 < b) (hd : 0 < d) (h : a / b < c / d) : a * d < c * b := by
  have h1 : a < (a / b + 1) * b := by
    have := Nat.div_add_mod a b
    have := Nat.mod_lt a hb
    rw [Nat.add_mul, Nat.one_mul, Nat.mul_comm]
    omega
  have h2 : (a / b + 1) * d ≤ c := Nat.le_trans (Nat.mul_le_mul_right d h) (Nat.div_mul_le_self c d)
  calc a * d < (a / b + 1) * b * d := Nat.mul_lt_mul_of_pos_right h1 hd
    _ = (a / b + 1) * d * b := by rw [Nat.mul_assoc, Nat.mul_comm b d, ← Nat.mul_assoc]
    _ ≤ c * b := Nat.mul_le_mul_right b h2
theorem llt {a b : Nat} (ha : a < 9223372036854775808) (hb : b < 9223372036854775808) : (lg_cmp (lN a) (lN b) < 0) = (a < b) := by
  rw [lg_lt]
  apply propext
  rw [l_lt, lT ha, lT hb]
  exact Int.ofNat_lt
theorem leq {a b : Nat} (ha : a < 9223372036854775808) (hb : b < 9223372036854775808) : (lg_cmp (lN a) (lN b) = 0) = (a = b) := by
  rw [lg_z]
  apply propext
  rw [l_eq, lT ha, lT hb]
  omega
def flB (f : Bool) (x y : Nat) : Bool := if f = true then decide (y < x) else decide (x < y)
theorem c_216l (s : SS) : ∀ (b a c d : Nat) (f : Bool), a < 9223372036854775808 → b < 9223372036854775808 → c < 9223372036854775808 → d < 9223372036854775808 → 0 < b → 0 < d → ev 216 17 [none, none, none, none, none, none, none, none, some (.inr (.inl (lN a))), none, some (.inr (.inl (lN b))), none, some (.inr (.inl (lN c))), none, some (.inr (.inl (lN d))), none, some (.inl (bI f)), none, none] [] s = some (some (.inl (bI (flB f (a * d) (c * b)))), s) := by
  intro b
  induction b using Nat.strongRecOn with
  | _ b ih =>
    intro a c d f ha hb hc hd hb0 hd0
    have qa := Nat.div_le_self a b
    have qc := Nat.div_le_self c d
    have r1 := Nat.mod_lt a hb0
    have r2 := Nat.mod_lt c hd0
    have z0 : (0 : Int64) = lN 0 := rfl
    have nb : ¬ lN b = 0 := by rw [lz hb]; omega
    have nd : ¬ lN d = 0 := by rw [lz hd]; omega
    rw [q_216_at17]
    simp only [if_neg nb, if_neg nd]
    rw [l_mod ha hb, l_mod hc hd, l_div ha hb, l_div hc hd]
    rw [z0]
    simp only [leq (show a / b < 9223372036854775808 by omega) (show c / d < 9223372036854775808 by omega), llt (show a / b < 9223372036854775808 by omega) (show c / d < 9223372036854775808 by omega), leq (show a % b < 9223372036854775808 by omega) (show 0 < 9223372036854775808 by decide), leq (show c % d < 9223372036854775808 by omega) (show 0 < 9223372036854775808 by decide)]
    by_cases e : a / b = c / d
    · rw [if_pos e]
      have lf := lt_fr (a := a) (b := b) (c := c) (d := d) e rfl
      have lb := lt_fr (a := c) (b := d) (c := a) (d := b) e.symm rfl
      have fb : flB f (a * d) (c * b) = flB f (a % b * d) (c % d * b) := by
        unfold flB
        simp only [lf, lb]
      rw [fb]
      have at59 : (a % b = 0 ∨ c % d = 0) → ev 216 59 [none, none, none, none, none, none, none, none, some (.inr (.inl (lN (a % b)))), none, none, none, some (.inr (.inl (lN (c % d)))), none, none, none, some (.inl (bI f)), none, none] [] s = some (some (.inl (bI (flB f (a % b * d) (c % d * b)))), s) := by
        intro h
        rw [q_216_at59, z0]
        simp only [leq (show a % b < 9223372036854775808 by omega) (show 0 < 9223372036854775808 by decide), leq (show c % d < 9223372036854775808 by omega) (show 0 < 9223372036854775808 by decide)]
        rw [ite_bI]
        by_cases g1 : a % b = 0
        · by_cases g2 : c % d = 0
          · cases f <;> simp [flB, g1, g2, bI]
          · have : 0 < c % d * b := Nat.mul_pos (by omega) hb0
            cases f <;> simp [flB, g1, g2, bI, hb0] <;> omega
        · have g2 : c % d = 0 := h.resolve_left g1
          have : 0 < a % b * d := Nat.mul_pos (by omega) hd0
          cases f <;> simp [flB, g1, g2, bI, hd0] <;> omega
      by_cases g1 : a % b = 0
      · rw [if_pos g1, at59 (Or.inl g1)]
      · rw [if_neg g1]
        by_cases g2 : c % d = 0
        · rw [if_pos g2, at59 (Or.inr g2)]
        · rw [if_neg g2, ite_bI]
          have n1 := ih (a % b) r1 b d (c % d) (!f) hb (by omega) hd (by omega) (by omega) (by omega)
          have e2 : flB (!f) (b * (c % d)) (d * (a % b)) = flB f (a % b * d) (c % d * b) := by
            unfold flB
            rw [Nat.mul_comm b, Nat.mul_comm d]
            cases f <;> rfl
          rw [e2] at n1
          cases f
          · exact n1
          · exact n1
    · rw [if_neg e]
      by_cases g : a / b < c / d
      · rw [if_pos g]
        have := lt_q hb0 hd0 g
        cases f
        · rw [if_neg (by decide)]
          simp [flB, this, bI]
        · rw [if_pos (by decide)]
          simp [flB, bI]
          omega
      · rw [if_neg g]
        have := lt_q (a := c) (b := d) (c := a) (d := b) hd0 hb0 (by omega)
        cases f
        · rw [if_pos (by rfl)]
          simp [flB, bI]
          omega
        · rw [if_neg (by decide)]
          simp [flB, this, bI]
theorem c_216 {a b c d : Nat} (ha : a < 9223372036854775808) (hb : b < 9223372036854775808) (hc : c < 9223372036854775808) (hd : d < 9223372036854775808) (hb0 : 0 < b) (hd0 : 0 < d) (s : SS) : ev 216 0 [some (.inr (.inl (lN a))), none, some (.inr (.inl (lN b))), none, some (.inr (.inl (lN c))), none, some (.inr (.inl (lN d))), none, none, none, none, none, none, none, none, none, none, none, none] [] s = some (some (.inl (bI (decide (a * d < c * b)))), s) := by
  rw [q_216]
  exact c_216l s b a c d false ha hb hc hd hb0 hd0
