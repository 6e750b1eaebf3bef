/-! PURE ROWS over the small machine's meaning -/
def bI (b : Bool) : Int32 := if b = true then 1 else 0
theorem bI_0 (b : Bool) : (bI b = 0) = (b = false) := by cases b <;> decide
theorem bI_t : bI true = 1 := rfl
theorem bI_f : bI false = 0 := rfl
theorem bI_Z (b : Bool) : isZ (bI b) = true := by cases b <;> decide
theorem bI_1 (b : Bool) : bI b &&& 1 = bI b := by cases b <;> decide
theorem ite_bI {α : Type} (b : Bool) (X Y : α) : (if bI b = 0 then X else Y) = if b = true then Y else X := by cases b <;> rfl
theorem cI_s (x : Int32) (s : SS) (k : Int32 → SS → RE) : cI (some (some (.inl x), s)) k = k x s := rfl
theorem cV_s (s : SS) (k : SS → RE) : cV (some (none, s)) k = k s := rfl
theorem cL_s (x : Int64) (s : SS) (k : Int64 → SS → RE) : cL (some (some (.inr (.inl x)), s)) k = k x s := rfl
theorem cI_ite {c : Prop} [Decidable c] (a b : RE) (k : Int32 → SS → RE) : cI (if c then a else b) k = if c then cI a k else cI b k := by split <;> rfl
theorem cV_ite {c : Prop} [Decidable c] (a b : RE) (k : SS → RE) : cV (if c then a else b) k = if c then cV a k else cV b k := by split <;> rfl
theorem cL_ite {c : Prop} [Decidable c] (a b : RE) (k : Int64 → SS → RE) : cL (if c then a else b) k = if c then cL a k else cL b k := by split <;> rfl
theorem wI_1 (s : SS) (k j i : Nat) (v : Int32) (a b c : Nat) : (wI s k j i v).1 a b c = if a = k ∧ b = j ∧ c = i then v else s.1 a b c := rfl
theorem wI_2 (s : SS) (k j i : Nat) (v : Int32) : (wI s k j i v).2 = s.2 := rfl
theorem wL_1 (s : SS) (k j i : Nat) (v : Int64) : (wL s k j i v).1 = s.1 := rfl
theorem wL_2 (s : SS) (k j i : Nat) (v : Int64) (a b c : Nat) : (wL s k j i v).2.1 a b c = if a = k ∧ b = j ∧ c = i then v else s.2.1 a b c := rfl
theorem wL_3 (s : SS) (k j i : Nat) (v : Int64) : (wL s k j i v).2.2 = s.2.2 := rfl
theorem wR_1 (s : SS) (i v : Nat) : (wR s i v).1 = s.1 := rfl
theorem wR_2 (s : SS) (i v : Nat) : (wR s i v).2.1 = s.2.1 := rfl
theorem wR_3 (s : SS) (i v c : Nat) : (wR s i v).2.2 c = if c = i then v else s.2.2 c := rfl
theorem wA_1 (s : SS) (k j : Nat) (f : Nat → Int32) (a b c : Nat) : (wA s k j f).1 a b c = if a = k ∧ b = j then f c else s.1 a b c := rfl
theorem wA_2 (s : SS) (k j : Nat) (f : Nat → Int32) : (wA s k j f).2 = s.2 := rfl
/-! small numbers as ints -/
theorem lt_iff (a b : Int32) : a < b ↔ a.toInt < b.toInt := Int32.lt_iff_toInt_lt
theorem le_iff (a b : Int32) : a ≤ b ↔ a.toInt ≤ b.toInt := Int32.le_iff_toInt_le
theorem eq_iff (a b : Int32) : a = b ↔ a.toInt = b.toInt := Int32.toInt_inj.symm
theorem cl_nI {n : Nat} (h : n < 2147483648) : (nI n).toNatClampNeg = n := nI_clamp h
theorem ti_nI {n : Nat} (h : n < 2147483648) : (nI n).toInt = (n : Int) := nI_toInt h
theorem ixB_iff {x : Int32} {n : Nat} (hn : n < 2147483648) : ixB x n = true ↔ ∃ j, j < n ∧ x = nI j := by
  constructor
  · intro h
    exact vp_in_of (ixB_in h) hn
  · rintro ⟨j, hj, rfl⟩
    unfold ixB
    have h1 : ¬ nI j < 0 := nI_pos (by omega)
    have h2 : ¬ n ≤ (nI j).toNatClampNeg := by rw [cl_nI (by omega)]; omega
    simp [h1, h2]
theorem ixB_nI {j n : Nat} (h : j < n) (hn : n < 2147483648) : ixB (nI j) n = true := (ixB_iff hn).mpr ⟨j, h, rfl⟩
theorem ixB_no {x : Int32} {n : Nat} (hn : n < 2147483648) (h : ¬ ixB x n = true) : x < 0 ∨ nI n ≤ x := by
  rcases pk_ix x hn with h1 | h1 | h1
  · exact Or.inl h1
  · exact Or.inr h1
  · exact absurd ((ixB_iff hn).mpr h1) h
theorem ixB_toInt {x : Int32} {n : Nat} (hn : n < 2147483648) : ixB x n = true ↔ 0 ≤ x.toInt ∧ x.toInt < n := by
  rw [ixB_iff hn]
  constructor
  · rintro ⟨j, hj, rfl⟩
    rw [ti_nI (by omega)]
    omega
  · rintro ⟨h1, h2⟩
    refine ⟨x.toInt.toNat, by omega, ?_⟩
    apply Int32.toInt_inj.mp
    rw [ti_nI (by omega)]
    omega
theorem rg_ix {α : Type} (x : Int32) (n : Nat) (hn : n < 2147483648) (A B : α) : (if x < 0 then A else if x < nI n then B else A) = if ixB x n = true then B else A := by
  by_cases h : ixB x n = true
  · obtain ⟨j, hj, rfl⟩ := (ixB_iff hn).mp h
    rw [if_neg (nI_pos (by omega)), if_pos (nI_lt hj hn), if_pos h]
  · rw [if_neg h]
    rcases ixB_no hn h with h1 | h1
    · rw [if_pos h1]
    · have h2 : ¬ x < nI n := Int32.not_lt.mpr h1
      rw [if_neg h2, ite_self]
theorem ite_ss {α : Type} (c : Prop) [Decidable c] (a : α) : (if c then a else a) = a := ite_self a
/-! loops -/
def fo {σ : Type} (f : Nat → σ → σ) : Nat → σ → σ
  | 0, x => x
  | n + 1, x => f n (fo f n x)
theorem lpF {σ : Type} (P : Nat → σ → RE) (f : Nat → σ → σ) (I : Nat → σ → Prop) (N : Nat) (h : ∀ i x, i < N → I i x → P i x = P (i + 1) (f i x) ∧ I (i + 1) (f i x)) (x : σ) (h0 : I 0 x) : P 0 x = P N (fo f N x) ∧ I N (fo f N x) := by
  have key : ∀ m, m ≤ N → P 0 x = P m (fo f m x) ∧ I m (fo f m x) := by
    intro m
    induction m with
    | zero => exact fun _ => ⟨rfl, h0⟩
    | succ m ih =>
      intro hm
      obtain ⟨h1, h2⟩ := ih (by omega)
      obtain ⟨h3, h4⟩ := h m (fo f m x) (by omega) h2
      exact ⟨h1.trans h3, h4⟩
  exact key N (Nat.le_refl N)
theorem lpS {σ : Type} (P : Nat → σ → RE) (f : Nat → σ → σ) (N : Nat) (h : ∀ i x, i < N → P i x = P (i + 1) (f i x)) (x : σ) : P 0 x = P N (fo f N x) := (lpF P f (fun _ _ => True) N (fun i x hi _ => ⟨h i x hi, trivial⟩) x trivial).1
/-- a loop that may leave early at the first place where c holds -/
theorem lpE {P : Nat → RE} {c : Nat → Bool} {out : Nat → RE} (N : Nat) (h : ∀ i, i < N → P i = if c i = true then out i else P (i + 1)) : (∃ i, i < N ∧ c i = true ∧ (∀ k, k < i → c k = false) ∧ P 0 = out i) ∨ ((∀ k, k < N → c k = false) ∧ P 0 = P N) := by
  have key : ∀ m, m ≤ N → (∃ i, i < m ∧ c i = true ∧ (∀ k, k < i → c k = false) ∧ P 0 = out i) ∨ ((∀ k, k < m → c k = false) ∧ P 0 = P m) := by
    intro m
    induction m with
    | zero => exact fun _ => Or.inr ⟨fun k hk => absurd hk (Nat.not_lt_zero k), rfl⟩
    | succ m ih =>
      intro hm
      rcases ih (by omega) with ⟨i, h1, h2, h3, h4⟩ | ⟨h1, h2⟩
      · exact Or.inl ⟨i, by omega, h2, h3, h4⟩
      · have h3 := h m (by omega)
        cases hc : c m with
        | true =>
          rw [hc, if_pos rfl] at h3
          exact Or.inl ⟨m, by omega, hc, h1, h2.trans h3⟩
        | false =>
          rw [hc] at h3
          refine Or.inr ⟨fun k hk => ?_, h2.trans h3⟩
          by_cases e : k = m
          · rw [e]; exact hc
          · exact h1 k (by omega)
  exact key N (Nat.le_refl N)
theorem nI_s (n : Nat) : nI n + 1 = nI (n + 1) := nI_1 n
theorem nI_ll {a b : Nat} (ha : a < 2147483648) (hb : b < 2147483648) : (nI a < nI b) = (a < b) := propext (nI_ltI ha hb)
theorem nI_ee {a b : Nat} (ha : a < 2147483648) (hb : b < 2147483648) : (nI a = nI b) = (a = b) := propext (nI_eq ha hb)
theorem fo_wI (k j a0 : Nat) (v : Nat → Int32) (s : SS) (a b c : Nat) : ∀ n, (fo (fun i s => wI s k j (a0 + i) (v i)) n s).1 a b c = if a = k ∧ b = j ∧ a0 ≤ c ∧ c < a0 + n then v (c - a0) else s.1 a b c
  | 0 => by
    rw [if_neg (by omega)]
    rfl
  | n + 1 => by
    show (wI (fo (fun i s => wI s k j (a0 + i) (v i)) n s) k j (a0 + n) (v n)).1 a b c = _
    rw [wI_1, fo_wI k j a0 v s a b c n]
    by_cases h1 : a = k ∧ b = j
    · by_cases h2 : c = a0 + n
      · rw [if_pos ⟨h1.1, h1.2, h2⟩, if_pos ⟨h1.1, h1.2, by omega, by omega⟩]
        congr 1
        omega
      · rw [if_neg (fun z => h2 z.2.2)]
        by_cases h3 : a0 ≤ c ∧ c < a0 + n
        · rw [if_pos ⟨h1.1, h1.2, h3⟩, if_pos ⟨h1.1, h1.2, by omega, by omega⟩]
        · rw [if_neg (fun z => h3 z.2.2), if_neg (fun z => h3 ⟨z.2.2.1, by omega⟩)]
    · rw [if_neg (fun z => h1 ⟨z.1, z.2.1⟩), if_neg (fun z => h1 ⟨z.1, z.2.1⟩), if_neg (fun z => h1 ⟨z.1, z.2.1⟩)]
theorem fo_wI2 (k j a0 : Nat) (v : Nat → Int32) (s : SS) : ∀ n, (fo (fun i s => wI s k j (a0 + i) (v i)) n s).2 = s.2
  | 0 => rfl
  | n + 1 => fo_wI2 k j a0 v s n
/-! comparisons of small numbers, for simp with omega -/
theorem n_lt {a b : Nat} (ha : a < 2147483648) (hb : b < 2147483648) : (nI a < nI b) = (a < b) := propext (nI_ltI ha hb)
theorem n_le {a b : Nat} (ha : a < 2147483648) (hb : b < 2147483648) : (nI a ≤ nI b) = (a ≤ b) := propext (nI_leI ha hb)
theorem n_eq {a b : Nat} (ha : a < 2147483648) (hb : b < 2147483648) : (nI a = nI b) = (a = b) := propext (nI_eq ha hb)
theorem lit_nI (n : Nat) : (OfNat.ofNat n : Int32) = nI n := rfl
theorem n_ltL {a n : Nat} (ha : a < 2147483648) (hb : n < 2147483648) : (nI a < (OfNat.ofNat n : Int32)) = (a < OfNat.ofNat n) := n_lt ha hb
theorem L_ltn {a n : Nat} (ha : a < 2147483648) (hb : n < 2147483648) : ((OfNat.ofNat n : Int32) < nI a) = (OfNat.ofNat n < a) := n_lt hb ha
theorem n_leL {a n : Nat} (ha : a < 2147483648) (hb : n < 2147483648) : (nI a ≤ (OfNat.ofNat n : Int32)) = (a ≤ OfNat.ofNat n) := n_le ha hb
theorem L_len {a n : Nat} (ha : a < 2147483648) (hb : n < 2147483648) : ((OfNat.ofNat n : Int32) ≤ nI a) = (OfNat.ofNat n ≤ a) := n_le hb ha
theorem n_eqL {a n : Nat} (ha : a < 2147483648) (hb : n < 2147483648) : (nI a = (OfNat.ofNat n : Int32)) = (a = OfNat.ofNat n) := n_eq ha hb
theorem n_ne {a n : Nat} (ha : a < 2147483648) (hn : 0 < n) (hb : n ≤ 2147483647) : (nI a = -(OfNat.ofNat n : Int32)) = False := by
  apply propext
  refine ⟨fun h => ?_, False.elim⟩
  have h1 := congrArg Int32.toInt h
  have h2 : (-(OfNat.ofNat n : Int32)).toInt = -(n : Int) := by
    rw [lit_nI]
    exact sb_negT (by omega)
  rw [ti_nI ha, h2] at h1
  omega
theorem ng_lt {n m : Nat} (hn : n < 2147483648) (hm : m < 2147483648) (h : 0 < n) : (-(OfNat.ofNat n : Int32) < (OfNat.ofNat m : Int32)) = True := by
  apply propext
  refine ⟨fun _ => trivial, fun _ => ?_⟩
  have h2 : (-(OfNat.ofNat n : Int32)).toInt = -(n : Int) := by
    rw [lit_nI]
    exact sb_negT (by omega)
  rw [lt_iff, h2, lit_nI, ti_nI hm]
  omega
theorem ix_n {j n : Nat} (hj : j < 2147483648) (hn : n < 2147483648) : ixB (nI j) n = decide (j < n) := by
  by_cases h : j < n
  · rw [ixB_nI h hn]
    simp [h]
  · cases hb : ixB (nI j) n with
    | false => simp [h]
    | true =>
      have := ixB_lt hb
      rw [cl_nI hj] at this
      exact absurd this h
theorem n_add (a b : Nat) : nI a + nI b = nI (a + b) := nI_add a b
theorem n_mul (a b : Nat) : nI a * nI b = nI (a * b) := pk_mul a b
theorem n_sub {a b : Nat} (h : b ≤ a) : nI a - nI b = nI (a - b) := pk_sub h
theorem n_add1 (a n : Nat) : nI a + (OfNat.ofNat n : Int32) = nI (a + OfNat.ofNat n) := nI_add a n
theorem n_1add (a n : Nat) : (OfNat.ofNat n : Int32) + nI a = nI (OfNat.ofNat n + a) := nI_add n a
theorem n_mulL (a n : Nat) : (OfNat.ofNat n : Int32) * nI a = nI (OfNat.ofNat n * a) := pk_mul n a
theorem n_subL {a n : Nat} (h : n ≤ a) : nI a - (OfNat.ofNat n : Int32) = nI (a - OfNat.ofNat n) := pk_sub h
theorem irr (x : Int32) : ¬ x < x := by
  rw [lt_iff]
  omega
theorem n_lt0 {a : Nat} (ha : a < 2147483648) : (nI a < 0) = False := by
  apply propext
  exact ⟨fun h => nI_pos ha h, False.elim⟩
