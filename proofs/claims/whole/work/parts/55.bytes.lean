/-! bytes of longs -/
def tL (x : Int64) (i : Nat) : Bool := x.toBitVec.getLsbD i
theorem tL_and (x y : Int64) (i : Nat) : tL (x &&& y) i = (tL x i && tL y i) := BitVec.getLsbD_and
theorem tL_or (x y : Int64) (i : Nat) : tL (x ||| y) i = (tL x i || tL y i) := BitVec.getLsbD_or
theorem tL_n (a i : Nat) : tL (lN a) i = (decide (i < 64) && a.testBit i) := by
  unfold tL lN
  show (BitVec.ofNat 64 a).getLsbD i = _
  rw [BitVec.getLsbD_ofNat]
theorem tL_ext {x y : Int64} (h : ∀ i, i < 64 → tL x i = tL y i) : x = y := by
  apply Int64.toBitVec_inj.mp
  apply BitVec.eq_of_getLsbD_eq
  exact h
theorem tL_0 (i : Nat) : tL 0 i = false := by
  show (BitVec.ofNat 64 0).getLsbD i = false
  simp
theorem sh255 : ∀ k, k < 8 → (255 : Int64) <<< ((nI k * 8).toInt64 &&& 63) = lN (256 ^ k * 255) := by decide
theorem t255 : ∀ j, j < 8 → Nat.testBit 255 j = true := by decide
theorem t255f {j : Nat} (h : 8 ≤ j) : Nat.testBit 255 j = false := Nat.testBit_lt_two_pow (Nat.lt_of_lt_of_le (show 255 < 2 ^ 8 by decide) (Nat.pow_le_pow_right (by decide) h))
theorem m255 {k b : Nat} (hk : k < 8) (hb : b < 64) : tL ((255 : Int64) <<< ((nI k * 8).toInt64 &&& 63)) b = decide (b / 8 = k) := by
  rw [sh255 k hk, tL_n, decide_eq_true hb, Bool.true_and, show 256 ^ k = 2 ^ (8 * k) by rw [Nat.pow_mul], Nat.testBit_two_pow_mul]
  by_cases h : b / 8 = k
  · rw [decide_eq_true h, decide_eq_true (show 8 * k ≤ b by omega), t255 _ (by omega)]
    rfl
  · rw [decide_eq_false h]
    by_cases h1 : 8 * k ≤ b
    · rw [t255f (by omega), Bool.and_false]
    · rw [decide_eq_false (show ¬ b ≥ 8 * k by omega), Bool.false_and]
theorem dg_lt {d : Nat → Nat} (h : ∀ k, d k < 256) : ∀ n, sm (fun k => d k * 256 ^ k) n < 256 ^ n
  | 0 => Nat.one_pos
  | n + 1 => by
    have h1 := dg_lt h n
    have h2 := h n
    show sm (fun k => d k * 256 ^ k) n + d n * 256 ^ n < 256 ^ (n + 1)
    rw [Nat.pow_succ]
    have : d n * 256 ^ n ≤ 255 * 256 ^ n := Nat.mul_le_mul_right _ (by omega)
    omega
theorem dg_b {d : Nat → Nat} (h : ∀ k, d k < 256) (b : Nat) : ∀ n, (sm (fun k => d k * 256 ^ k) n).testBit b = (decide (b / 8 < n) && (d (b / 8)).testBit (b % 8))
  | 0 => by
    show Nat.testBit 0 b = _
    simp
  | n + 1 => by
    have h1 := dg_lt h n
    show (sm (fun k => d k * 256 ^ k) n + d n * 256 ^ n).testBit b = _
    rw [Nat.add_comm, Nat.mul_comm, show 256 ^ n = 2 ^ (8 * n) by rw [Nat.pow_mul]] 
    rw [show (256 : Nat) ^ n = 2 ^ (8 * n) by rw [Nat.pow_mul]] at h1
    rw [Nat.testBit_two_pow_mul_add _ h1, dg_b h b n]
    by_cases e : b < 8 * n
    · rw [if_pos e, decide_eq_true (show b / 8 < n by omega), decide_eq_true (show b / 8 < n + 1 by omega)]
    · rw [if_neg e]
      by_cases e2 : b / 8 = n
      · rw [decide_eq_true (show b / 8 < n + 1 by omega), e2, show b - 8 * n = b % 8 by omega, Bool.true_and]
      · rw [decide_eq_false (show ¬ b / 8 < n + 1 by omega), Bool.false_and]
        exact Nat.testBit_lt_two_pow (Nat.lt_of_lt_of_le (h n) (Nat.le_trans (show 256 ≤ 2 ^ 8 by decide) (Nat.pow_le_pow_right (by decide) (by omega))))
theorem bk_b {s : SS} (hS : JS s) (v b : Nat) : tL (lN (bkN s v)) b = (decide (b < 64) && (brk s (b / 8) v).testBit (b % 8)) := by
  rw [tL_n]
  unfold bkN
  rw [dg_b (fun k => Nat.lt_of_le_of_lt (brk_le hS k v) (by decide))]
  by_cases h : b < 64
  · rw [decide_eq_true h, decide_eq_true (show b / 8 < 8 by omega), Bool.true_and]
  · rw [decide_eq_false h, Bool.false_and, Bool.false_and]
theorem su8 : ∀ k, k < 8 → (UInt64.mod ((nI k * 8).toInt64.toUInt64 &&& Int64.toUInt64 63) 64).toBitVec = BitVec.ofNat 64 (8 * k) := by decide
theorem c_49 {s : SS} (hS : JS s) {k v : Nat} (hk : k < 8) (hv : v < nW s) (h9 : s.2.1 19 0 v = lN (bkN s v)) : ev 49 0 [some (.inr (.inr (11, 0))), some (.inl (nI k)), some (.inl (nI v))] [] s = some (some (.inl (nI (brk s k v))), s) := by
  have hW := nW_le hS
  have hb := brk_le hS k v
  rw [q_49, if_pos (ixB_nI (show v < 1024 by omega) (by decide)), cl_nI (by omega), h9]
  have : ((((lN (bkN s v)).toUInt64 >>> ((nI k * 8).toInt64.toUInt64 &&& Int64.toUInt64 63)).toInt64) &&& 255).toInt32 = nI (brk s k v) := by
    apply tb_ext
    intro b hb32
    rw [tb_n, decide_eq_true hb32, Bool.true_and]
    have e1 : tb (((((lN (bkN s v)).toUInt64 >>> ((nI k * 8).toInt64.toUInt64 &&& Int64.toUInt64 63)).toInt64) &&& 255).toInt32) b = tL ((((lN (bkN s v)).toUInt64 >>> ((nI k * 8).toInt64.toUInt64 &&& Int64.toUInt64 63)).toInt64) &&& 255) b := by
      show (BitVec.signExtend 32 _).getLsbD b = _
      rw [BitVec.getLsbD_signExtend, decide_eq_true hb32, Bool.true_and, if_pos (by omega)]
      rfl
    rw [e1, tL_and]
    have e2 : tL (((lN (bkN s v)).toUInt64 >>> ((nI k * 8).toInt64.toUInt64 &&& Int64.toUInt64 63)).toInt64) b = tL (lN (bkN s v)) (8 * k + b) := by
      show ((lN (bkN s v)).toBitVec >>> (UInt64.mod ((nI k * 8).toInt64.toUInt64 &&& Int64.toUInt64 63) 64).toBitVec).getLsbD b = _
      rw [su8 k hk]
      show ((lN (bkN s v)).toBitVec >>> (BitVec.ofNat 64 (8 * k)).toNat).getLsbD b = _
      rw [BitVec.toNat_ofNat, Nat.mod_eq_of_lt (by omega), BitVec.getLsbD_ushiftRight]
      rfl
    have e3 : tL 255 b = Nat.testBit 255 b := by
      have := tL_n 255 b
      rw [decide_eq_true (show b < 64 by omega), Bool.true_and] at this
      exact this
    rw [e2, e3, bk_b hS]
    by_cases h8 : b < 8
    · rw [t255 b h8, Bool.and_true, decide_eq_true (show 8 * k + b < 64 by omega), Bool.true_and, show (8 * k + b) / 8 = k by omega, show (8 * k + b) % 8 = b by omega]
    · rw [t255f (by omega), Bool.and_false]
      exact (Nat.testBit_lt_two_pow (Nat.lt_of_le_of_lt hb (Nat.lt_of_lt_of_le (show 16 < 2 ^ 8 by decide) (Nat.pow_le_pow_right (by decide) (by omega))))).symm
  rw [this]
/-- the mask of the hard laws of a set -/
def HM (s : SS) (A : Nat → Bool) (n : Nat) (x : Int64) : Prop := ∀ b, b < 64 → tL x b = (decide (b / 8 < n) && (A (b / 8) && hardB (s.1 42 0 (b / 8))))
theorem HM_hb {s : SS} (hS : JS s) {A : Nat → Bool} {x : Int64} (h : HM s A 8 x) (v : Nat) : (lN (bkN s v) &&& x = 0) = (hbB s A v = false) := by
  apply propext
  constructor
  · intro e
    unfold hbB
    apply anyB_f
    intro k hk
    cases hA : (A k && hardB (s.1 42 0 k)) with
    | false => rfl
    | true =>
      rw [Bool.true_and]
      have hb := brk_le hS k v
      by_cases z : brk s k v = 0
      · rw [z]; rfl
      · exfalso
        obtain ⟨j, hj⟩ := Nat.exists_testBit_of_ne_zero z
        have hj8 : j < 8 := by
          apply Classical.byContradiction
          intro hn
          have := Nat.testBit_lt_two_pow (Nat.lt_of_le_of_lt hb (Nat.lt_of_lt_of_le (show 16 < 2 ^ 8 by decide) (Nat.pow_le_pow_right (by decide) (show 8 ≤ j by omega))))
          rw [this] at hj
          exact absurd hj (by decide)
        have e1 : tL (lN (bkN s v) &&& x) (8 * k + j) = false := by rw [e, tL_0]
        rw [tL_and, bk_b hS, h _ (by omega), show (8 * k + j) / 8 = k by omega, show (8 * k + j) % 8 = j by omega, hj, hA, decide_eq_true hk, decide_eq_true (show 8 * k + j < 64 by omega)] at e1
        exact absurd e1 (by decide)
  · intro e
    apply tL_ext
    intro b hb
    rw [tL_and, bk_b hS, h b hb, tL_0]
    cases hA : (A (b / 8) && hardB (s.1 42 0 (b / 8))) with
    | false => rw [Bool.and_false, Bool.and_false]
    | true =>
      have z : brk s (b / 8) v = 0 := by
        apply Classical.byContradiction
        intro hn
        have : hbB s A v = true := by
          unfold hbB
          apply anyB_t (i := b / 8) (by omega)
          rw [hA, Bool.true_and]
          simp [hn]
        rw [this] at e
        exact absurd e (by decide)
      rw [z, Nat.zero_testBit, Bool.and_false, Bool.false_and]
