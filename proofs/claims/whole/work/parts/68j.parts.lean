def sg (x y : Nat) : Int32 := if x < y then -1 else if x = y then 0 else 1
theorem sg_mul {k x y : Nat} (hk : 0 < k) : sg (k * x) (k * y) = sg x y := by
  unfold sg
  have e1 : (k * x < k * y) = (x < y) := propext (Nat.mul_lt_mul_left hk)
  have e2 : (k * x = k * y) = (x = y) := propext ⟨fun h => Nat.eq_of_mul_eq_mul_left hk h, fun h => by rw [h]⟩
  simp only [e1, e2]
theorem c_2 {x y : Nat} (hx : x < 9223372036854775808) (hy : y < 9223372036854775808) (s : SS) : ev 2 0 [some (.inr (.inl (lN x))), none, some (.inr (.inl (lN y))), none] [] s = some (some (.inl (sg x y)), s) := by
  rw [q_2]
  simp only [llt hx hy, leq hx hy]
  unfold sg
  by_cases h1 : x < y
  · simp [h1]
  · by_cases h2 : x = y
    · simp [h2]
    · simp [h1, h2]
theorem sh_sm : ∀ k, k < 32 → (((nI k).toInt64 &&& 63).toBitVec.smod 64) = BitVec.ofNat 64 k := by decide
theorem l_shl {a k : Nat} (hk : k < 32) : lN a <<< ((nI k).toInt64 &&& 63) = lN (a * 2 ^ k) := by
  apply tL_ext
  intro i hi
  show ((lN a).toBitVec <<< (((nI k).toInt64 &&& 63).toBitVec.smod 64)).getLsbD i = _
  rw [sh_sm k hk]
  show ((lN a).toBitVec <<< (BitVec.ofNat 64 k).toNat).getLsbD i = _
  rw [BitVec.toNat_ofNat, Nat.mod_eq_of_lt (by omega), BitVec.getLsbD_shiftLeft, tL_n, Nat.testBit_mul_two_pow]
  have e := tL_n a (i - k)
  unfold tL at e
  rw [e, decide_eq_true hi]
  by_cases h : i < k
  · have h2 : ¬ k ≤ i := by omega
    simp [h, h2]
  · have h2 : k ≤ i := by omega
    have h3 : i - k < 64 := by omega
    simp [h, h2, h3]
def pw (e : Option Nat) (q : Nat) : Int32 := match e with
  | none => -1000
  | some e => nI e - nI q
def shE (e : Option Nat) : Nat := match e with
  | none => 0
  | some e => 2 ^ e
def min31 (x : Int32) : Int32 := if 31 < (if 0 ≤ x then x else 0 - x) then 31 else (if 0 ≤ x then x else 0 - x)
theorem m31 {x : Int32} {D : Nat} (hD : D ≤ 100) (h : x.toInt = D ∨ x.toInt = -(D : Int)) : min31 x = nI (if D ≤ 31 then D else 31) := by
  have t0 : (0 : Int32).toInt = 0 := rfl
  have ab : (if 0 ≤ x then x else 0 - x) = nI D := by
    by_cases hx : (0 : Int32) ≤ x
    · rw [if_pos hx, eq_iff, ti_nI (by omega)]
      rw [le_iff, t0] at hx
      omega
    · rw [if_neg hx, eq_iff, ti_nI (by omega), Int32.toInt_sub, t0]
      rw [le_iff, t0] at hx
      rw [Int.bmod_eq_of_le] <;> omega
  unfold min31
  rw [ab]
  by_cases h2 : D ≤ 31
  · rw [if_pos h2, if_neg (show ¬ (31 : Int32) < nI D from fun z => by
      have := (n_lt (a := 31) (b := D) (by decide) (by omega)).mp z
      omega)]
  · rw [if_neg h2, if_pos (show (31 : Int32) < nI D from nI_lt (a := 31) (by omega) (by omega))]
    rfl
theorem c_134 {e1 e2 : Option Nat} {q1 q2 A1 A2 : Nat} (h1 : ∀ e, e1 = some e → e ≤ 20) (h2 : ∀ e, e2 = some e → e ≤ 20) (hq1 : q1 ≤ 18) (hq2 : q2 ≤ 18) (l1 : 1048576 ≤ A1) (u1 : A1 ≤ 1073741824) (l2 : 1048576 ≤ A2) (u2 : A2 ≤ 1073741824) (s : SS) : ev 134 0 [some (.inl (pw e1 q1)), some (.inr (.inl (lN A1))), none, some (.inl (pw e2 q2)), some (.inr (.inl (lN A2))), none, none] [] s = some (some (.inl (sg (shE e1 * (A2 * 2 ^ q2)) (shE e2 * (A1 * 2 ^ q1)))), s) := by
  have tm : (-1000 : Int32).toInt = -1000 := rfl
  have p1 : 0 < A1 * 2 ^ q1 := Nat.mul_pos (by omega) (Nat.two_pow_pos _)
  have p2 : 0 < A2 * 2 ^ q2 := Nat.mul_pos (by omega) (Nat.two_pow_pos _)
  rcases e1 with _ | e1
  · rw [q_134, if_pos (show pw none q1 = -1000 from rfl), q_0]
    rcases e2 with _ | e2
    · rw [if_neg (show ¬ pw none q1 < pw none q2 from irr (-1000)), if_pos (show pw none q1 = pw none q2 from rfl), cI_s]
      show _ = (some (some (.inl (sg (0 * (A2 * 2 ^ q2)) (0 * (A1 * 2 ^ q1)))), s) : RE)
      rw [Nat.zero_mul, Nat.zero_mul]
      rfl
    · have g2 := h2 e2 rfl
      have : pw none q1 < pw (some e2) q2 := by
        show (-1000 : Int32) < nI e2 - nI q2
        rw [lt_iff, tm, sub_i (by omega) (by omega)]
        omega
      rw [if_pos this, cI_s]
      show _ = (some (some (.inl (sg (0 * (A2 * 2 ^ q2)) (2 ^ e2 * (A1 * 2 ^ q1)))), s) : RE)
      rw [Nat.zero_mul]
      have : 0 < 2 ^ e2 * (A1 * 2 ^ q1) := Nat.mul_pos (Nat.two_pow_pos _) p1
      unfold sg
      rw [if_pos this]
  · have g1 := h1 e1 rfl
    have n1 : (pw (some e1) q1).toInt = (e1 : Int) - q1 := sub_i (by omega) (by omega)
    have ne1 : ¬ pw (some e1) q1 = -1000 := by
      rw [eq_iff, n1, tm]
      omega
    rw [q_134, if_neg ne1]
    rcases e2 with _ | e2
    · rw [if_pos (show pw none q2 = -1000 from rfl), q_0]
      have : ¬ pw (some e1) q1 < pw none q2 := by
        show ¬ pw (some e1) q1 < (-1000 : Int32)
        rw [lt_iff, tm, n1]
        omega
      rw [if_neg this, if_neg (show ¬ pw (some e1) q1 = pw none q2 from ne1), cI_s]
      show _ = (some (some (.inl (sg (2 ^ e1 * (A2 * 2 ^ q2)) (0 * (A1 * 2 ^ q1)))), s) : RE)
      rw [Nat.zero_mul]
      have : 0 < 2 ^ e1 * (A2 * 2 ^ q2) := Nat.mul_pos (Nat.two_pow_pos _) p2
      unfold sg
      rw [if_neg (Nat.not_lt_zero _), if_neg (by omega)]
    · have g2 := h2 e2 rfl
      have n2 : (pw (some e2) q2).toInt = (e2 : Int) - q2 := sub_i (by omega) (by omega)
      have ne2' : ¬ pw (some e2) q2 = -1000 := by
        rw [eq_iff, n2, tm]
        omega
      have nd : (pw (some e1) q1 - pw (some e2) q2).toInt = ((e1 : Int) - q1) - ((e2 : Int) - q2) := by
        rw [Int32.toInt_sub, n1, n2, Int.bmod_eq_of_le] <;> omega
      rw [if_neg ne2']
      have pwm : ∀ {x k : Nat}, 1048576 ≤ x → 31 ≤ k → x * 2 ^ 31 ≤ x * 2 ^ k := fun _ hk => Nat.mul_le_mul_left _ (Nat.pow_le_pow_right (by decide) hk)
      show (if pw (some e1) q1 < pw (some e2) q2 then cI (ev 2 0 [some (.inr (.inl (lN A2))), none, some (.inr (.inl ((lN A1 <<< ((min31 (pw (some e1) q1 - pw (some e2) q2)).toInt64 &&& 63))))), none] [] s) (fun x3 s3 => some (some (.inl x3), s3)) else cI (ev 2 0 [some (.inr (.inl ((lN A2 <<< ((min31 (pw (some e1) q1 - pw (some e2) q2)).toInt64 &&& 63))))), none, some (.inr (.inl (lN A1))), none] [] s) (fun x3 s3 => some (some (.inl x3), s3))) = some (some (.inl (sg (2 ^ e1 * (A2 * 2 ^ q2)) (2 ^ e2 * (A1 * 2 ^ q1)))), s)
      have big : ∀ {x k : Nat}, x ≤ 1073741824 → k ≤ 31 → x * 2 ^ k < 9223372036854775808 := fun {x k} hx hk => Nat.lt_of_le_of_lt (Nat.mul_le_mul hx (Nat.pow_le_pow_right (by decide) hk)) (by decide)
      by_cases hlt : pw (some e1) q1 < pw (some e2) q2
      · have hlt' := hlt
        rw [lt_iff, n1, n2] at hlt'
        obtain ⟨D, hD⟩ : ∃ D : Nat, e1 + q2 + D = e2 + q1 := ⟨e2 + q1 - (e1 + q2), by omega⟩
        have em := m31 (x := pw (some e1) q1 - pw (some e2) q2) (D := D) (by omega) (by rw [nd]; omega)
        rw [if_pos hlt, em, l_shl (by split <;> omega), c_2 (by omega) (big u1 (by split <;> omega)), cI_s]
        have eX : 2 ^ e1 * (A2 * 2 ^ q2) = 2 ^ (e1 + q2) * A2 := by
          rw [Nat.pow_add, Nat.mul_comm A2, Nat.mul_assoc]
        have eY : 2 ^ e2 * (A1 * 2 ^ q1) = 2 ^ (e1 + q2) * (A1 * 2 ^ D) := by
          have : 2 ^ e2 * (A1 * 2 ^ q1) = 2 ^ (e2 + q1) * A1 := by
            rw [Nat.pow_add, Nat.mul_comm A1, Nat.mul_assoc]
          rw [this, ← hD, Nat.pow_add, Nat.mul_comm A1, Nat.mul_assoc]
        rw [eX, eY, sg_mul (Nat.two_pow_pos _)]
        by_cases h31 : D ≤ 31
        · rw [if_pos h31]
        · rw [if_neg h31]
          have a1 : A2 < A1 * 2 ^ 31 := Nat.lt_of_lt_of_le (show A2 < 1048576 * 2 ^ 31 by omega) (Nat.mul_le_mul_right _ l1)
          have a2 : A2 < A1 * 2 ^ D := Nat.lt_of_lt_of_le a1 (pwm l1 (by omega))
          unfold sg
          rw [if_pos a1, if_pos a2]
      · have hlt' := hlt
        rw [lt_iff, n1, n2] at hlt'
        obtain ⟨D, hD⟩ : ∃ D : Nat, e2 + q1 + D = e1 + q2 := ⟨e1 + q2 - (e2 + q1), by omega⟩
        have em := m31 (x := pw (some e1) q1 - pw (some e2) q2) (D := D) (by omega) (by rw [nd]; omega)
        rw [if_neg hlt, em, l_shl (by split <;> omega), c_2 (big u2 (by split <;> omega)) (by omega), cI_s]
        have eY : 2 ^ e2 * (A1 * 2 ^ q1) = 2 ^ (e2 + q1) * A1 := by
          rw [Nat.pow_add, Nat.mul_comm A1, Nat.mul_assoc]
        have eX : 2 ^ e1 * (A2 * 2 ^ q2) = 2 ^ (e2 + q1) * (A2 * 2 ^ D) := by
          have : 2 ^ e1 * (A2 * 2 ^ q2) = 2 ^ (e1 + q2) * A2 := by
            rw [Nat.pow_add, Nat.mul_comm A2, Nat.mul_assoc]
          rw [this, ← hD, Nat.pow_add, Nat.mul_comm A2, Nat.mul_assoc]
        rw [eX, eY, sg_mul (Nat.two_pow_pos _)]
        by_cases h31 : D ≤ 31
        · rw [if_pos h31]
        · rw [if_neg h31]
          have a1 : A1 < A2 * 2 ^ 31 := Nat.lt_of_lt_of_le (show A1 < 1048576 * 2 ^ 31 by omega) (Nat.mul_le_mul_right _ l2)
          have a2 : A1 < A2 * 2 ^ D := Nat.lt_of_lt_of_le a1 (pwm l2 (by omega))
          unfold sg
          rw [if_neg (by omega), if_neg (by omega), if_neg (by omega), if_neg (by omega)]
