/-! weighing: the costs of worlds by the laws of a set -/
def hbB (s : SS) (A : Nat → Bool) (v : Nat) : Bool := anyB (fun k => (A k && hardB (s.1 42 0 k)) && !(brk s k v == 0)) 8
def scN (s : SS) (A : Nat → Bool) (v : Nat) : Nat := sm (fun k => if (A k && softB (s.1 42 0 k)) = true then wtN s k * brk s k v else 0) 8
/-- the first world of least cost, and that cost -/
def bst (s : SS) (A : Nat → Bool) : Nat → Option (Nat × Nat)
  | 0 => none
  | n + 1 => if hbB s A n = true then bst s A n else match bst s A n with
    | none => some (n, scN s A n)
    | some (w, c) => if scN s A n < c then some (n, scN s A n) else some (w, c)
theorem sm_le {f : Nat → Nat} {B : Nat} : ∀ n, (∀ i, i < n → f i ≤ B) → sm f n ≤ n * B
  | 0, _ => Nat.zero_le _
  | n + 1, h => by
    have h1 := sm_le n (fun i hi => h i (by omega))
    have h2 := h n (by omega)
    show sm f n + f n ≤ (n + 1) * B
    rw [Nat.add_mul, Nat.one_mul]
    omega
theorem brk_le {s : SS} (hS : JS s) (k v : Nat) : brk s k v ≤ 16 := by
  have hX := nX_b hS k
  have hY := nY_b hS k
  unfold brk
  split
  · omega
  · split
    · split
      · split <;> omega
      · split <;> omega
    · refine Nat.le_trans (sm_le (B := 4) _ (fun x _ => ?_)) (by omega)
      refine Nat.le_trans (sm_le (B := 1) _ (fun y _ => ?_)) (by omega)
      split <;> omega
theorem wt_le {s : SS} (hL : JL s) {k : Nat} (hk : k < 8) (h : softB (s.1 42 0 k) = true) : wtN s k ≤ 9 ∧ s.1 43 0 k = nI (wtN s k) ∧ s.1 13 (s.2.2 k) 2 = nI (wtN s k) := by
  rcases LJ_h (hL.2.2 k hk) with ⟨g1, g2⟩ | ⟨g1, kd, np, w, f, g⟩
  · rw [g2] at h
    exact absurd h (by decide)
  · rw [(Hd_n g).2.2.1]
    exact ⟨g.2.2.2.1, g.2.2.2.2.2.2.2.2.2.2.1, g.2.2.2.2.2.2.2.2.2.1⟩
theorem sc_le {s : SS} (hS : JS s) (hL : JL s) (A : Nat → Bool) (v : Nat) : scN s A v ≤ 1152 := by
  refine Nat.le_trans (sm_le (B := 144) 8 (fun k hk => ?_)) (by decide)
  split
  · rename_i h
    rw [Bool.and_eq_true] at h
    have h1 := (wt_le hL hk h.2).1
    have h2 := brk_le hS k v
    exact Nat.le_trans (Nat.mul_le_mul h1 h2) (by decide)
  · omega
theorem bst_some {s : SS} {A : Nat → Bool} : ∀ {n w c : Nat}, bst s A n = some (w, c) → w < n ∧ hbB s A w = false ∧ c = scN s A w
  | 0, _, _, h => by
    exact absurd h (by simp [bst])
  | n + 1, w, c, h => by
    unfold bst at h
    by_cases hb : hbB s A n = true
    · rw [if_pos hb] at h
      obtain ⟨a, b, d⟩ := bst_some h
      exact ⟨by omega, b, d⟩
    · rw [if_neg hb] at h
      have hb' : hbB s A n = false := by
        cases hx : hbB s A n with
        | false => rfl
        | true => exact absurd hx hb
      cases hp : bst s A n with
      | none =>
        rw [hp] at h
        simp only [Option.some.injEq, Prod.mk.injEq] at h
        obtain ⟨rfl, rfl⟩ := h
        exact ⟨by omega, hb', rfl⟩
      | some q =>
        obtain ⟨w0, c0⟩ := q
        rw [hp] at h
        simp only at h
        obtain ⟨a, b, d⟩ := bst_some hp
        by_cases hl : scN s A n < c0
        · rw [if_pos hl] at h
          simp only [Option.some.injEq, Prod.mk.injEq] at h
          obtain ⟨rfl, rfl⟩ := h
          exact ⟨by omega, hb', rfl⟩
        · rw [if_neg hl] at h
          simp only [Option.some.injEq, Prod.mk.injEq] at h
          obtain ⟨rfl, rfl⟩ := h
          exact ⟨by omega, b, d⟩
theorem bst_min {s : SS} {A : Nat → Bool} : ∀ {n v : Nat}, v < n → hbB s A v = false → ∃ w c, bst s A n = some (w, c) ∧ c ≤ scN s A v
  | 0, v, h, _ => absurd h (Nat.not_lt_zero v)
  | n + 1, v, h, hv => by
    unfold bst
    by_cases e : v = n
    · subst e
      rw [hv, if_neg (by decide)]
      cases hp : bst s A v with
      | none => exact ⟨_, _, rfl, Nat.le_refl _⟩
      | some q =>
        obtain ⟨w0, c0⟩ := q
        simp only
        by_cases hl : scN s A v < c0
        · rw [if_pos hl]
          exact ⟨_, _, rfl, Nat.le_refl _⟩
        · rw [if_neg hl]
          exact ⟨_, _, rfl, by omega⟩
    · obtain ⟨w, c, hp, hc⟩ := bst_min (n := n) (show v < n by omega) hv
      rw [hp]
      by_cases hb : hbB s A n = true
      · rw [if_pos hb]
        exact ⟨w, c, rfl, hc⟩
      · rw [if_neg hb]
        simp only
        by_cases hl : scN s A n < c
        · rw [if_pos hl]
          exact ⟨_, _, rfl, by omega⟩
        · rw [if_neg hl]
          exact ⟨_, _, rfl, hc⟩
/-- a world's share, and all -/
def shN (s : SS) (A : Nat → Bool) (v : Nat) : Nat := if hbB s A v = true then 0 else match bst s A (nW s) with
  | none => 0
  | some (_, c) => if 20 < scN s A v - c then 0 else 2 ^ (20 - (scN s A v - c))
def allN (s : SS) (A : Nat → Bool) : Nat := sm (shN s A) (nW s)
