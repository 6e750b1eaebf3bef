/-! the class's list of truths -/
theorem smb_lt (p : Nat → Bool) : ∀ n, sm (fun k => if p k = true then 2 ^ k else 0) n < 2 ^ n
  | 0 => Nat.one_pos
  | n + 1 => by
    have := smb_lt p n
    show sm (fun k => if p k = true then 2 ^ k else 0) n + (if p n = true then 2 ^ n else 0) < 2 ^ (n + 1)
    rw [Nat.pow_succ]
    split <;> omega
theorem dlt {i m : Nat} (e : ¬ i = m) : decide (i < m + 1) = decide (i < m) := by
  by_cases h : i < m
  · rw [decide_eq_true h, decide_eq_true (Nat.lt_succ_of_lt h)]
  · rw [decide_eq_false h, decide_eq_false (by omega)]
theorem smb_bit (p : Nat → Bool) (i : Nat) : ∀ n, (sm (fun k => if p k = true then 2 ^ k else 0) n).testBit i = (decide (i < n) && p i)
  | 0 => by
    show (0 : Nat).testBit i = _
    simp
  | n + 1 => by
    have ih := smb_bit p i n
    have hl := smb_lt p n
    show (sm (fun k => if p k = true then 2 ^ k else 0) n + (if p n = true then 2 ^ n else 0)).testBit i = _
    by_cases hp : p n = true
    · rw [if_pos hp, Nat.add_comm]
      rcases Nat.lt_trichotomy i n with h | h | h
      · rw [Nat.testBit_two_pow_add_gt h, ih]
        simp [h, Nat.lt_succ_of_lt h]
      · subst h
        rw [Nat.testBit_two_pow_add_eq, ih]
        simp [hp]
      · have h2 : 2 ^ n + sm (fun k => if p k = true then 2 ^ k else 0) n < 2 ^ i := by
          have : 2 ^ (n + 1) ≤ 2 ^ i := Nat.pow_le_pow_right (by decide) h
          rw [Nat.pow_succ] at this
          omega
        rw [Nat.testBit_lt_two_pow h2]
        have : ¬ i < n + 1 := by omega
        simp [this]
    · rw [if_neg hp, Nat.add_zero, ih]
      by_cases e : i = n
      · subst e
        simp [hp]
      · have : (i < n + 1) = (i < n) := propext (by omega)
        simp [this]
theorem tr_bit (s : SS) (w i : Nat) : (trN s w).testBit i = (decide (i < 28) && soB s i w) := smb_bit (fun k => soB s k w) i 28
theorem tr_lt (s : SS) (w : Nat) : trN s w < 268435456 := smb_lt (fun k => soB s k w) 28
theorem tb_2 {k i : Nat} (hi : i < 32) : tb (nI (2 ^ k)) i = decide (k = i) := by
  rw [tb_n, Nat.testBit_two_pow]
  simp [hi]
/-- so far: the sayings ahead of m are split -/
def soP (s : SS) (m k w : Nat) : Bool := tl s k == 1 || (tl s k == 3 && (decide (k < m) && w.testBit (s3 s k)))
theorem soP_28 (s : SS) (k w : Nat) (hk : k < 28) : soP s 28 k w = soB s k w := by
  unfold soP soB
  rw [decide_eq_true hk]
  rfl
theorem s3_s (s : SS) (m : Nat) : s3 s (m + 1) = s3 s m + (if tl s m = 3 then 1 else 0) := by
  show cn _ m + (if (tl s m == 3) = true then 1 else 0) = _
  unfold s3
  by_cases h : tl s m = 3 <;> simp [h]
theorem s3_lt {s : SS} {i m : Nat} (h : i < m) (h3 : tl s i = 3) : s3 s i < s3 s m := by
  have h1 : s3 s (i + 1) ≤ s3 s m := cn_mono _ h
  rw [s3_s, if_pos h3] at h1
  omega
def TW (s t : SS) (m : Nat) : Prop := t.1 11 0 0 = nI (2 ^ s3 s m) ∧ (∀ w, w < 2 ^ s3 s m → ∀ i, i < 32 → tb (t.1 18 0 w) i = (decide (i < 28) && soP s m i w)) ∧ ∀ i, i < 32 → tb (t.1 11 0 1) i = (decide (i < m) && tl s i == 3)
theorem spl {s t : SS} {m N : Nat} (hm : m < 28) (hN : N ≤ 512) (h0 : t.1 11 0 0 = nI N) : ev 41 0 [some (.inr (.inr (11, 0))), some (.inl (nI m)), none] [] t = some (none, wI (fo (fun w t' => wI t' 18 0 (N + w) (t.1 18 0 w ||| nI (2 ^ m))) N t) 11 0 0 (nI (2 * N))) := by
  rw [q_41]
  have e0 : ∀ n, (fo (fun w t' => wI t' 18 0 (N + w) (t.1 18 0 w ||| nI (2 ^ m))) n t).1 11 0 0 = nI N := fun n => by
    rw [fo_wI, if_neg (by omega)]
    exact h0
  have hl := lpN (P := fun w => ev 41 2 [some (.inr (.inr (11, 0))), some (.inl (nI m)), some (.inl (nI w))] [] (fo (fun w t' => wI t' 18 0 (N + w) (t.1 18 0 w ||| nI (2 ^ m))) w t)) N (fun w hw => by
    show ev 41 2 [some (.inr (.inr (11, 0))), some (.inl (nI m)), some (.inl (nI w))] [] (fo (fun w t' => wI t' 18 0 (N + w) (t.1 18 0 w ||| nI (2 ^ m))) w t) = _
    have e18 : (fo (fun w t' => wI t' 18 0 (N + w) (t.1 18 0 w ||| nI (2 ^ m))) w t).1 18 0 w = t.1 18 0 w := by
      rw [fo_wI, if_neg (by omega)]
    rw [q_41_at2, e0, if_pos (nI_lt hw (by omega)), n_add, if_pos (show nI (N + w) < (1024 : Int32) from nI_lt (show N + w < 1024 by omega) (by decide)), if_pos (ixB_nI (show w < 1024 by omega) (by decide)), if_pos (ixB_nI (show N + w < 1024 by omega) (by decide)), nI_s, cl_nI (show w < 2147483648 by omega), cl_nI (show N + w < 2147483648 by omega), e18, shl1 m (by omega)]
    rfl)
  refine (show ev 41 2 [some (.inr (.inr (11, 0))), some (.inl (nI m)), some (.inl (nI 0))] [] t = _ from hl).trans ?_
  rw [q_41_at2, e0, if_neg (irr _), n_mulL]
def spS (t : SS) (m N : Nat) : SS := wI (fo (fun w t' => wI t' 18 0 (N + w) (t.1 18 0 w ||| nI (2 ^ m))) N t) 11 0 0 (nI (2 * N))
theorem spl_TW {s t : SS} (hS : JS s) {m : Nat} (hm : m < 28) (h3 : tl s m = 3) (h : TW s t m) : TW s (spS (wI t 11 0 1 (t.1 11 0 1 ||| nI (2 ^ m))) m (2 ^ s3 s m)) (m + 1) := by
  have e1 : s3 s (m + 1) = s3 s m + 1 := by rw [s3_s, if_pos h3]
  have ep : 2 ^ s3 s (m + 1) = 2 * 2 ^ s3 s m := by rw [e1, Nat.pow_succ, Nat.mul_comm]
  refine ⟨?_, fun w hw i hi => ?_, fun i hi => ?_⟩
  · unfold spS
    rw [wI_same, ep]
  · unfold spS
    rw [wI_1, if_neg (by omega), fo_wI]
    rw [ep] at hw
    by_cases hlo : w < 2 ^ s3 s m
    · rw [if_neg (by omega), wI_1, if_neg (by omega), h.2.1 w hlo i hi]
      congr 1
      unfold soP
      congr 2
      by_cases e : i = m
      · subst e
        rw [Nat.testBit_lt_two_pow hlo]
        simp
      · rw [dlt e]
    · rw [if_pos ⟨rfl, rfl, by omega, by omega⟩, tb_or, wI_1, if_neg (by omega), h.2.1 (w - 2 ^ s3 s m) (by omega) i hi, tb_2 hi]
      have ew : w = 2 ^ s3 s m + (w - 2 ^ s3 s m) := by omega
      by_cases e : i = m
      · subst e
        unfold soP
        rw [ew, Nat.testBit_two_pow_add_eq, Nat.testBit_lt_two_pow (show w - 2 ^ s3 s i < 2 ^ s3 s i by omega)]
        simp [hm, h3]
      · have e' : ¬ m = i := fun z => e z.symm
        rw [decide_eq_false e', Bool.or_false]
        congr 1
        unfold soP
        congr 1
        rw [dlt e]
        by_cases e3 : tl s i = 3
        · by_cases el : i < m
          · have := s3_lt el e3
            rw [ew, Nat.testBit_two_pow_add_gt this]
            rw [show 2 ^ s3 s m + (w - 2 ^ s3 s m) - 2 ^ s3 s m = w - 2 ^ s3 s m by omega]
          · simp [el]
        · have z3 : (tl s i == 3) = false := beq_false_of_ne e3
          rw [z3, Bool.false_and, Bool.false_and]
  · unfold spS
    rw [wI_1, if_neg (by omega), fo_wI, if_neg (by omega), wI_same, tb_or, h.2.2 i hi, tb_2 hi]
    by_cases e : i = m
    · subst e
      simp [h3]
    · have e' : ¬ m = i := fun z => e z.symm
      rw [dlt e]
      simp [e']
