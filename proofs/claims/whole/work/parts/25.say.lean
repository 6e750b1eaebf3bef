/-! sayings -/
theorem bI_ite (c : Prop) [Decidable c] (s : SS) : (if c then some (some (.inl 1), s) else some (some (.inl 0), s) : RE) = some (some (.inl (bI (decide c))), s) := by
  by_cases h : c <;> simp [h, bI]
theorem c_106 (x : Int32) (s : SS) : ev 106 0 [some (.inl x)] [] s = some (some (.inl (bI (ixB x 28))), s) := by
  rw [q_106]
  refine (rg_ix x 28 (by decide) _ _).trans ?_
  cases ixB x 28 <;> rfl
theorem in_ix2 {α : Type} (v : Int32) (n : Nat) (hn : n + 1 < 2147483648) (A B : α) : (if v < 0 then A else if nI n < v then A else B) = if ixB v (n + 1) = true then B else A := by
  rw [← in_ix v n hn]
  by_cases h1 : v < 0 <;> by_cases h2 : nI n < v <;> simp [h1, h2]
theorem c_107 (x : Int32) (s : SS) : ev 107 0 [some (.inl x)] [] s = some (some (.inl (bI (ixB x 4))), s) := by
  rw [q_107]
  refine (in_ix2 x 3 (by decide) _ _).trans ?_
  cases ixB x 4 <;> rfl
theorem c_163 (x : Int32) (s : SS) : ev 163 0 [some (.inl x)] [] s = some (some (.inl (bI (ixB x 28))), s) := by
  rw [q_163, c_144, cI_s, show (27 : Int32) = nI 27 from rfl, in_ix x 27 (by decide), bI_Z]
  rfl
theorem md4 : ∀ k, k < 28 → nI k - nI k / 4 * 4 = nI (k % 4) := by decide
theorem dv4 : ∀ k, k < 16 → nI k / 4 = nI (k / 4) := by decide
theorem ne4 : ¬ (4 : Int32) = 0 := by decide
theorem c_109 {k m : Nat} (hk : k < 28) (hm : m < 2147483648) (s : SS) : ev 109 0 [some (.inl (nI k)), some (.inl (nI m)), none] [] s = some (some (.inl (bI (decide (lsN k < m)))), s) := by
  have e : ev 109 0 [some (.inl (nI k)), some (.inl (nI m)), none] [] s = ev 109 12 [some (.inl (nI k)), some (.inl (nI m)), none] [(.inl (bI (decide (k % 4 < m))))] s := by
    rw [q_109, if_neg ne4, md4 k hk]
    simp only [n_lt (a := k % 4) (b := m) (by omega) hm]
    by_cases h : k % 4 < m <;> simp [h, bI]
  rw [e, q_109_at12, bI_Z]
  unfold lsN
  by_cases h12 : k < 12
  · rw [if_pos (show nI k < (12 : Int32) from nI_lt h12 (by decide)), if_pos h12]
    rfl
  · rw [if_neg (show ¬ nI k < (12 : Int32) from by rw [n_ltL (by omega) (by decide)]; exact h12), if_neg h12, if_neg ne4, show nI k - 12 = nI (k - 12) from pk_sub (show 12 ≤ k by omega), dv4 (k - 12) (by omega), ite_bI]
    simp only [n_lt (a := (k - 12) / 4) (b := m) (by omega) hm]
    have e2 : k % 4 = (k - 12) % 4 := by omega
    rw [e2]
    by_cases h1 : (k - 12) % 4 < m <;> by_cases h2 : (k - 12) / 4 < m
    · have : max ((k - 12) / 4) ((k - 12) % 4) < m := by omega
      simp [h1, h2, this, bI]
    · have : ¬ max ((k - 12) / 4) ((k - 12) % 4) < m := by omega
      simp [h1, h2, this, bI]
    · have : ¬ max ((k - 12) / 4) ((k - 12) % 4) < m := by omega
      simp [h1, h2, this, bI]
    · have : ¬ max ((k - 12) / 4) ((k - 12) % 4) < m := by omega
      simp [h1, h2, this, bI]
theorem ls_max (k : Nat) : lsN k = if k < 12 then k % 4 else max ((k - 12) / 4) ((k - 12) % 4) := rfl
theorem c_164 {k : Nat} (hk : k < 28) (s : SS) : ev 164 0 [some (.inl (nI k)), none, none] [] s = some (some (.inl (nI (lsN k))), s) := by
  rw [q_164, if_neg ne4, if_neg ne4, ls_max]
  by_cases h12 : k < 12
  · have h1 : nI k < (12 : Int32) := nI_lt h12 (by decide)
    rw [if_pos h1, md4 k hk, q_164_at18, if_pos h1, if_pos h12]
    by_cases h : k % 4 = 0
    · rw [h]
      rfl
    · rw [if_pos (show (0 : Int32) < nI (k % 4) from nI_lt (show 0 < k % 4 by omega) (by omega))]
  · have h1 : ¬ nI k < (12 : Int32) := by
      rw [n_ltL (by omega) (by decide)]
      exact h12
    rw [if_neg h1, q_164_at18, if_neg h1, if_neg ne4, if_neg h12, show nI k - 12 = nI (k - 12) from pk_sub (show 12 ≤ k by omega), md4 (k - 12) (by omega), dv4 (k - 12) (by omega)]
    by_cases h : (k - 12) % 4 < (k - 12) / 4
    · rw [if_pos (nI_lt h (by omega)), Nat.max_eq_left (by omega)]
    · rw [if_neg (show ¬ nI ((k - 12) % 4) < nI ((k - 12) / 4) from by rw [n_lt (by omega) (by omega)]; exact h), Nat.max_eq_right (by omega)]
theorem cn_le (p : Nat → Bool) : ∀ n, cn p n ≤ n
  | 0 => Nat.le_refl 0
  | n + 1 => by
    have := cn_le p n
    show cn p n + _ ≤ n + 1
    split <;> omega
theorem cn_cg {p q : Nat → Bool} : ∀ n, (∀ i, i < n → p i = q i) → cn p n = cn q n
  | 0, _ => rfl
  | n + 1, h => by
    show cn p n + _ = cn q n + _
    rw [cn_cg n (fun i hi => h i (by omega)), h n (by omega)]
theorem cn_upd {p q : Nat → Bool} {k : Nat} (h : ∀ i, i ≠ k → q i = p i) : ∀ n, k < n → cn q n + (if p k = true then 1 else 0) = cn p n + (if q k = true then 1 else 0)
  | 0, hk => absurd hk (Nat.not_lt_zero k)
  | n + 1, hk => by
    show cn q n + (if q n = true then 1 else 0) + _ = cn p n + (if p n = true then 1 else 0) + _
    by_cases e : n = k
    · subst e
      rw [cn_cg n (fun i hi => h i (by omega))]
      omega
    · have := cn_upd h n (by omega)
      rw [h n e]
      omega
/-- a count of what is told, class -/
theorem c_113 (a b : Int32) (s : SS) : ev 113 0 [some (.inr (.inr (0, 0))), some (.inl a), some (.inl b), none, none] [] s = some (some (.inl (nI (cn (fun k => !(decide (s.1 9 0 k < a)) && !(decide (b < s.1 9 0 k))) 28))), s) := by
  rw [q_113]
  have h := lpN (P := fun i => ev 113 5 [some (.inr (.inr (0, 0))), some (.inl a), some (.inl b), some (.inl (nI (cn (fun k => !(decide (s.1 9 0 k < a)) && !(decide (b < s.1 9 0 k))) i))), some (.inl (nI i))] [] s) 28 (fun i hi => by
    show ev 113 5 [some (.inr (.inr (0, 0))), some (.inl a), some (.inl b), some (.inl (nI (cn (fun k => !(decide (s.1 9 0 k < a)) && !(decide (b < s.1 9 0 k))) i))), some (.inl (nI i))] [] s = ev 113 5 [some (.inr (.inr (0, 0))), some (.inl a), some (.inl b), some (.inl (nI (cn (fun k => !(decide (s.1 9 0 k < a)) && !(decide (b < s.1 9 0 k))) i + (if (!(decide (s.1 9 0 i < a)) && !(decide (b < s.1 9 0 i))) = true then 1 else 0)))), some (.inl (nI (i + 1)))] [] s
    rw [q_113_at5, if_pos (show nI i < (28 : Int32) from nI_lt hi (by decide)), if_pos (ixB_nI hi (by decide)), if_pos (ixB_nI hi (by decide)), nI_s, nI_s, cl_nI (by omega)]
    by_cases h1 : s.1 9 0 i < a <;> by_cases h2 : b < s.1 9 0 i <;> simp [h1, h2])
  refine (show ev 113 5 [some (.inr (.inr (0, 0))), some (.inl a), some (.inl b), some (.inl (nI 0)), some (.inl (nI 0))] [] s = _ from h).trans ?_
  rw [q_113_at5, if_neg (show ¬ nI 28 < (28 : Int32) from irr (nI 28))]
theorem nI_z (n : Nat) : nI n + 0 = nI n := nI_add n 0
theorem c_166 (a b : Int32) (s : SS) : ev 166 0 [some (.inr (.inr (30, 0))), some (.inl a), some (.inl b), none, none] [] s = some (some (.inl (nI (cn (fun k => !(decide (s.1 37 0 k < a)) && !(decide (b < s.1 37 0 k))) 28))), s) := by
  rw [q_166]
  have h := lpN (P := fun i => ev 166 5 [some (.inr (.inr (30, 0))), some (.inl a), some (.inl b), some (.inl (nI (cn (fun k => !(decide (s.1 37 0 k < a)) && !(decide (b < s.1 37 0 k))) i))), some (.inl (nI i))] [] s) 28 (fun i hi => by
    show ev 166 5 [some (.inr (.inr (30, 0))), some (.inl a), some (.inl b), some (.inl (nI (cn (fun k => !(decide (s.1 37 0 k < a)) && !(decide (b < s.1 37 0 k))) i))), some (.inl (nI i))] [] s = ev 166 5 [some (.inr (.inr (30, 0))), some (.inl a), some (.inl b), some (.inl (nI (cn (fun k => !(decide (s.1 37 0 k < a)) && !(decide (b < s.1 37 0 k))) i + (if (!(decide (s.1 37 0 i < a)) && !(decide (b < s.1 37 0 i))) = true then 1 else 0)))), some (.inl (nI (i + 1)))] [] s
    rw [q_166_at5, if_pos (show nI i < (28 : Int32) from nI_lt hi (by decide)), if_pos (ixB_nI hi (by decide)), c_144, cI_s, nI_s, nI_s, nI_z, cl_nI (by omega), ite_bI]
    by_cases h1 : s.1 37 0 i < a <;> by_cases h2 : b < s.1 37 0 i <;> simp [h1, h2])
  refine (show ev 166 5 [some (.inr (.inr (30, 0))), some (.inl a), some (.inl b), some (.inl (nI 0)), some (.inl (nI 0))] [] s = _ from h).trans ?_
  rw [q_166_at5, if_neg (show ¬ nI 28 < (28 : Int32) from irr (nI 28))]
theorem told3 : ∀ t, t < 4 → (!(decide (nI t < 3)) && !(decide ((3 : Int32) < nI t))) = (t == 3) := by decide
theorem told12 : ∀ t, t < 4 → (!(decide (nI t < 1)) && !(decide ((2 : Int32) < nI t))) = (t == 1 || t == 2) := by decide
def nS (s : SS) : Nat := cn (fun k => tl s k == 3) 28
theorem c_113_3 {s : SS} (h : JS s) : ev 113 0 [some (.inr (.inr (0, 0))), some (.inl 3), some (.inl 3), none, none] [] s = some (some (.inl (nI (nS s))), s) := by
  rw [c_113]
  unfold nS
  rw [cn_cg 28 (q := fun k => tl s k == 3)]
  intro i hi
  obtain ⟨h1, h2, h3, h4⟩ := h.2.1 i hi
  simp only [h1]
  exact told3 _ h3
theorem c_166_3 {s : SS} (h : JS s) : ev 166 0 [some (.inr (.inr (30, 0))), some (.inl 3), some (.inl 3), none, none] [] s = some (some (.inl (nI (nS s))), s) := by
  rw [c_166]
  unfold nS
  rw [cn_cg 28 (q := fun k => tl s k == 3)]
  intro i hi
  obtain ⟨h1, h2, h3, h4⟩ := h.2.1 i hi
  simp only [h2]
  exact told3 _ h3
theorem c_113_12 {s : SS} (h : JS s) : ev 113 0 [some (.inr (.inr (0, 0))), some (.inl 1), some (.inl 2), none, none] [] s = some (some (.inl (nI (cn (fun k => tl s k == 1 || tl s k == 2) 28))), s) := by
  rw [c_113]
  rw [cn_cg 28 (q := fun k => tl s k == 1 || tl s k == 2)]
  intro i hi
  obtain ⟨h1, h2, h3, h4⟩ := h.2.1 i hi
  simp only [h1]
  exact told12 _ h3
theorem c_166_12 {s : SS} (h : JS s) : ev 166 0 [some (.inr (.inr (30, 0))), some (.inl 1), some (.inl 2), none, none] [] s = some (some (.inl (nI (cn (fun k => tl s k == 1 || tl s k == 2) 28))), s) := by
  rw [c_166]
  rw [cn_cg 28 (q := fun k => tl s k == 1 || tl s k == 2)]
  intro i hi
  obtain ⟨h1, h2, h3, h4⟩ := h.2.1 i hi
  simp only [h2]
  exact told12 _ h3
theorem pub_how {s : SS} (h : J s) (k : Int32) : PI 68 169 [some (.inr (.inr (0, 0))), some (.inl k)] [some (.inr (.inr (30, 0))), some (.inl k)] s := by
  by_cases hk : ixB k 28 = true
  · obtain ⟨j, hj, rfl⟩ := (ixB_iff (by decide)).mp hk
    obtain ⟨h1, h2, h3, h4⟩ := h.2.2.2.1.2.1 j hj
    refine PI_0 h (nI (tl s j)) ?_ ?_
    · rw [q_68, c_106, hk, cI_s, ite_bI, if_pos rfl, if_pos rfl, cl_nI (by omega), h1]
    · rw [q_169, c_163, hk, cI_s, ite_bI, if_pos rfl, if_pos rfl, cl_nI (by omega), h2]
  · refine PI_0 h (-1) ?_ ?_
    · rw [q_68, c_106, ix_no hk, cI_s, ite_bI, if_neg (by decide)]
    · rw [q_169, c_163, ix_no hk, cI_s, ite_bI, if_neg (by decide)]
/-! names -/
theorem ls4 {k : Nat} (hk : k < 28) : lsN k < 4 := by
  unfold lsN
  split <;> omega
theorem nm_c {s : SS} {m : Nat} (h : ∀ k, k < 28 → s.1 9 0 k = nI (tl s k) ∧ tl s k < 4) (hm : m ≤ 4) : ((∀ k, k < 28 → tl s k ≠ 0 → lsN k < m) ∧ ev 66 14 [some (.inr (.inr (0, 0))), some (.inl (nI m)), some (.inl 0)] [] s = some (some (.inl (s.1 0 0 7)), wI (wI s 0 0 7 (nI m)) 0 0 8 1)) ∨ ((∃ k, k < 28 ∧ tl s k ≠ 0 ∧ ¬ lsN k < m) ∧ ev 66 14 [some (.inr (.inr (0, 0))), some (.inl (nI m)), some (.inl 0)] [] s = some (some (.inl (-4)), s)) := by
  have hl := lpE (P := fun i => ev 66 14 [some (.inr (.inr (0, 0))), some (.inl (nI m)), some (.inl (nI i))] [] s) (c := fun k => !(decide (tl s k = 0)) && !(decide (lsN k < m))) (out := fun _ => some (some (.inl (-4)), s)) 28 (fun i hi => by
    obtain ⟨h1, h3⟩ := h i hi
    show ev 66 14 [some (.inr (.inr (0, 0))), some (.inl (nI m)), some (.inl (nI i))] [] s = _
    rw [q_66_at14, if_pos (show nI i < (28 : Int32) from nI_lt hi (by decide)), if_pos (ixB_nI hi (by decide)), nI_s, cl_nI (by omega), h1, c_109 hi (by omega), cI_s, ite_bI]
    by_cases e : tl s i = 0
    · rw [if_pos (show nI (tl s i) = 0 from by rw [e]; rfl)]
      simp [e]
    · rw [if_neg (show ¬ nI (tl s i) = 0 from by rw [show (0 : Int32) = nI 0 from rfl, n_eq (by omega) (by omega)]; exact e)]
      by_cases e2 : lsN i < m <;> simp [e, e2])
  rcases hl with ⟨i, hi, hc, -, h1⟩ | ⟨h1, h2⟩
  · simp only [Bool.and_eq_true, Bool.not_eq_true', decide_eq_false_iff_not] at hc
    exact Or.inr ⟨⟨i, hi, hc⟩, h1⟩
  · refine Or.inl ⟨fun k hk h3 => ?_, Eq.trans (show ev 66 14 [some (.inr (.inr (0, 0))), some (.inl (nI m)), some (.inl (nI 0))] [] s = ev 66 14 [some (.inr (.inr (0, 0))), some (.inl (nI m)), some (.inl (nI 28))] [] s from h2) ?_⟩
    · have h4 := h1 k hk
      simp [h3] at h4
      exact h4
    · rw [q_66_at14, if_neg (show ¬ nI 28 < (28 : Int32) from irr (nI 28))]
theorem nmr {s : SS} {m : Nat} (h : ∀ k, k < 28 → s.1 37 0 k = nI (tl s k) ∧ tl s k < 4) (hm : m ≤ 4) : ((∀ k, k < 28 → tl s k ≠ 0 → lsN k < m) ∧ ev 165 13 [some (.inr (.inr (30, 0))), some (.inl (nI m)), some (.inl 0)] [] s = some (some (.inl (s.1 30 0 10)), wI s 30 0 10 (nI m))) ∨ ((∃ k, k < 28 ∧ tl s k ≠ 0 ∧ ¬ lsN k < m) ∧ ev 165 13 [some (.inr (.inr (30, 0))), some (.inl (nI m)), some (.inl 0)] [] s = some (some (.inl (-4)), s)) := by
  have hl := lpE (P := fun i => ev 165 13 [some (.inr (.inr (30, 0))), some (.inl (nI m)), some (.inl (nI i))] [] s) (c := fun k => !(decide (tl s k = 0)) && !(decide (lsN k < m))) (out := fun _ => some (some (.inl (-4)), s)) 28 (fun i hi => by
    obtain ⟨h2, h3⟩ := h i hi
    have hls := ls4 hi
    show ev 165 13 [some (.inr (.inr (30, 0))), some (.inl (nI m)), some (.inl (nI i))] [] s = _
    rw [q_165_at13, if_pos (show nI i < (28 : Int32) from nI_lt hi (by decide)), if_pos (ixB_nI hi (by decide)), nI_s, cl_nI (by omega), h2, c_164 hi, cI_s]
    by_cases e : tl s i = 0
    · rw [if_pos (show nI (tl s i) = 0 from by rw [e]; rfl)]
      simp [e]
    · rw [if_neg (show ¬ nI (tl s i) = 0 from by rw [show (0 : Int32) = nI 0 from rfl, n_eq (by omega) (by omega)]; exact e)]
      have e3 := n_lt (a := lsN i) (b := m) (by omega) (by omega)
      by_cases e2 : lsN i < m <;> simp [e, e2, e3])
  rcases hl with ⟨i, hi, hc, -, h1⟩ | ⟨h1, h2⟩
  · simp only [Bool.and_eq_true, Bool.not_eq_true', decide_eq_false_iff_not] at hc
    exact Or.inr ⟨⟨i, hi, hc⟩, h1⟩
  · refine Or.inl ⟨fun k hk h3 => ?_, Eq.trans (show ev 165 13 [some (.inr (.inr (30, 0))), some (.inl (nI m)), some (.inl (nI 0))] [] s = ev 165 13 [some (.inr (.inr (30, 0))), some (.inl (nI m)), some (.inl (nI 28))] [] s from h2) ?_⟩
    · have h4 := h1 k hk
      simp [h3] at h4
      exact h4
    · rw [q_165_at13, if_neg (show ¬ nI 28 < (28 : Int32) from irr (nI 28))]
theorem JF_of {s t : SS} (h : Ag [12, 31] s t) (e1 : t.1 0 0 9 = s.1 0 0 9) (e2 : t.1 0 0 12 = s.1 0 0 12) (e3 : t.1 30 0 0 = s.1 30 0 0) (e4 : t.1 30 0 2 = s.1 30 0 2) (e5 : t.2.1 = s.2.1) (hJ : JF s) : JF t := JF_ag h e1 e2 e3 e4 (by rw [e5]) (by rw [e5]) (by rw [e5]) (by rw [e5]) hJ
theorem pub_names {s : SS} (h : J s) (n : Int32) : PI 66 165 [some (.inr (.inr (0, 0))), some (.inl n), none] [some (.inr (.inr (30, 0))), some (.inl n), none] s := by
  by_cases h1 : n < 1
  · refine PI_0 h (-1) ?_ ?_
    · rw [q_66, if_pos h1]
    · rw [q_165, c_144]
      simp [h1, cI_s, bI]
  by_cases h2 : 4 < n
  · refine PI_0 h (-1) ?_ ?_
    · rw [q_66, if_neg h1, if_pos h2]
    · rw [q_165, c_144]
      simp [h2, cI_s, bI]
  have hn0 : ¬ n < 0 := by
    intro z
    apply h1
    rw [lt_iff] at z ⊢
    have e0 : (0 : Int32).toInt = 0 := rfl
    have e1 : (1 : Int32).toInt = 1 := rfl
    omega
  obtain ⟨m, hm, rfl, -⟩ := ge0_n hn0
  have hm1 : 1 ≤ m := by
    rw [n_ltL hm (by decide)] at h1
    have : ¬ m < 1 := h1
    omega
  have hm4 : m ≤ 4 := by
    rw [L_ltn hm (by decide)] at h2
    have : ¬ 4 < m := h2
    omega
  have hS := h.2.2.2.1
  have e1 : ev 66 0 [some (.inr (.inr (0, 0))), some (.inl (nI m)), none] [] s = ev 66 14 [some (.inr (.inr (0, 0))), some (.inl (nI m)), some (.inl 0)] [] s := by
    rw [q_66, if_neg h1, if_neg h2]
  have e2 : ∀ t, ev 165 0 [some (.inr (.inr (30, 0))), some (.inl (nI m)), none] [] t = ev 165 13 [some (.inr (.inr (30, 0))), some (.inl (nI m)), some (.inl 0)] [] t := by
    intro t
    rw [q_165, c_144]
    simp [h1, h2, cI_s, bI]
  rcases nm_c (fun k hk => ⟨(hS.2.1 k hk).1, (hS.2.1 k hk).2.2.1⟩) hm4 with ⟨hc, g⟩ | ⟨⟨k, hk, k1, k2⟩, g⟩
  · have e3 : ev 165 0 [some (.inr (.inr (30, 0))), some (.inl (nI m)), none] [] (wI (wI s 0 0 7 (nI m)) 0 0 8 1) = some (some (.inl (s.1 30 0 10)), wI (wI (wI s 0 0 7 (nI m)) 0 0 8 1) 30 0 10 (nI m)) := by
      rw [e2]
      rcases nmr (s := wI (wI s 0 0 7 (nI m)) 0 0 8 1) (fun k hk => ⟨(hS.2.1 k hk).2.1, (hS.2.1 k hk).2.2.1⟩) hm4 with ⟨-, g⟩ | ⟨⟨k, hk, k1, k2⟩, g⟩
      · exact g
      · exact absurd (hc k hk k1) k2
    rw [show s.1 30 0 10 = s.1 0 0 7 from hS.1.2.2.2.trans hS.1.2.2.1.symm] at e3
    refine ⟨_, _, _, e1.trans g, e3, ⟨JR_ag (Ag_tr (Ag_tr (Ag_wI (by decide)) (Ag_wI (by decide))) (Ag_wI (by decide))) h.1, JT_ag (Ag_tr (Ag_tr (Ag_wI (by decide)) (Ag_wI (by decide))) (Ag_wI (by decide))) h.2.1, JF_of (Ag_tr (Ag_tr (Ag_wI (by decide)) (Ag_wI (by decide))) (Ag_wI (by decide))) rfl rfl rfl rfl rfl h.2.2.1, ?_, JL_ag (Ag_tr (Ag_tr (Ag_wI (by decide)) (Ag_wI (by decide))) (Ag_wI (by decide))) h.2.2.2.2.1, Or.inl rfl⟩, fun _ _ => rfl, fun _ _ => rfl⟩
    have en : nN (wI (wI (wI s 0 0 7 (nI m)) 0 0 8 1) 30 0 10 (nI m)) = m := cl_nI hm
    refine ⟨⟨by rw [en]; exact hm1, by rw [en]; exact hm4, by rw [en]; rfl, by rw [en]; rfl⟩, fun k hk => ?_, hS.2.2⟩
    obtain ⟨g1, g2, g3, g4⟩ := hS.2.1 k hk
    exact ⟨g1, g2, g3, fun z => by rw [en]; exact hc k hk z⟩
  · refine PI_0 h (-4) (e1.trans g) ?_
    rw [e2]
    rcases nmr (s := s) (fun k hk => ⟨(hS.2.1 k hk).2.1, (hS.2.1 k hk).2.2.1⟩) hm4 with ⟨hc, g⟩ | ⟨-, g⟩
    · exact absurd (hc k hk k1) k2
    · exact g
/-! tell -/
theorem pub_tell {s : SS} (h : J s) (k v : Int32) : PI 67 168 [some (.inr (.inr (0, 0))), some (.inl k), some (.inl v), none] [some (.inr (.inr (30, 0))), some (.inl k), some (.inl v), none, none] s := by
  have hS := h.2.2.2.1
  by_cases hk : ixB k 28 = true
  · by_cases hv : ixB v 4 = true
    · obtain ⟨j, hj, rfl⟩ := (ixB_iff (by decide)).mp hk
      obtain ⟨w, hw, rfl⟩ := (ixB_iff (by decide)).mp hv
      obtain ⟨g1, g2, g3, g4⟩ := hS.2.1 j hj
      have hls := ls4 hj
      have hN := hS.1.2.1
      have hM : (!(decide (nI w < 0)) && !(decide ((3 : Int32) < nI w))) = true := (in_ix (nI w) 3 (by decide)).trans hv
      by_cases hl : lsN j < nN s
      · by_cases hf : w = 3 ∧ tl s j ≠ 3 ∧ nS s = 10
        · obtain ⟨rfl, f2, f3⟩ := hf
          have f4 : ¬ nI (tl s j) = 3 := by
            rw [n_eqL (by omega) (by decide)]
            exact f2
          refine PI_0 h (-2) ?_ ?_
          · rw [q_67, c_106, hk, cI_s, ite_bI, if_pos rfl, c_107, hv, cI_s, ite_bI, if_pos rfl, hS.1.2.2.1, c_109 hj (by omega), decide_eq_true hl, cI_s, ite_bI, if_pos rfl, q_112, if_pos (show nI 3 = 3 from rfl), if_pos hk, cl_nI (by omega), g1, if_neg f4, c_113_3 hS, cI_s, f3, if_neg (by decide), cI_s, if_neg (by decide)]
          · rw [q_168, q_167, c_163, hk, cI_s, ite_bI, if_pos rfl, c_144, hM, cI_s, ite_bI, if_pos rfl, c_164 hj, cI_s, hS.1.2.2.2, if_pos (nI_lt hl (by omega)), if_pos (show nI 3 = 3 from rfl), if_pos rfl, cl_nI (by omega), g2, if_neg f4, c_166_3 hS, cI_s, f3, if_pos (show nI 10 = 10 from rfl), cI_s, if_pos (by decide)]
        · have e1 : ev 67 0 [some (.inr (.inr (0, 0))), some (.inl (nI j)), some (.inl (nI w)), none] [] s = some (some (.inl (nI (tl s j))), wI (wI s 9 0 j (nI w)) 0 0 8 1) := by
            have e0 : ev 112 0 [some (.inr (.inr (0, 0))), some (.inl (nI j)), some (.inl (nI w))] [] s = some (some (.inl 0), s) := by
              rw [q_112, if_pos hk, cl_nI (by omega), g1]
              by_cases f1 : w = 3
              · subst f1
                rw [if_pos (show nI 3 = 3 from rfl)]
                by_cases f2 : tl s j = 3
                · rw [f2, if_pos (show nI 3 = 3 from rfl)]
                · have f4 : ¬ nI (tl s j) = 3 := by
                    rw [n_eqL (by omega) (by decide)]
                    exact f2
                  have f5 : nS s ≠ 10 := fun z => hf ⟨rfl, f2, z⟩
                  have f6 : nS s ≤ 10 := hS.2.2
                  rw [if_neg f4, c_113_3 hS, cI_s, if_pos (show nI (nS s) < (10 : Int32) from nI_lt (show nS s < 10 by omega) (by decide))]
              · rw [if_neg (show ¬ nI w = 3 from by rw [n_eqL (by omega) (by decide)]; exact f1)]
            rw [q_67, c_106, hk, cI_s, ite_bI, if_pos rfl, c_107, hv, cI_s, ite_bI, if_pos rfl, hS.1.2.2.1, c_109 hj (by omega), decide_eq_true hl, cI_s, ite_bI, if_pos rfl, e0, cI_s, if_pos rfl, if_pos rfl, if_pos rfl, cl_nI (by omega), g1]
          have e2 : ∀ t : SS, (∀ b c, t.1 37 b c = s.1 37 b c) → t.1 30 0 10 = s.1 30 0 10 → ev 168 0 [some (.inr (.inr (30, 0))), some (.inl (nI j)), some (.inl (nI w)), none, none] [] t = some (some (.inl (nI (tl s j))), wI t 37 0 j (nI w)) := by
            intro t q1 q2
            have e0 : ev 167 0 [some (.inr (.inr (30, 0))), some (.inl (nI j)), some (.inl (nI w))] [] t = some (some (.inl 0), t) := by
              rw [q_167, c_163, hk, cI_s, ite_bI, if_pos rfl, c_144, hM, cI_s, ite_bI, if_pos rfl, c_164 hj, cI_s, q2, hS.1.2.2.2, if_pos (nI_lt hl (by omega)), if_pos rfl, cl_nI (by omega), q1, g2]
              by_cases f1 : w = 3
              · subst f1
                rw [if_pos (show nI 3 = 3 from rfl)]
                by_cases f2 : tl s j = 3
                · rw [f2, if_pos (show nI 3 = 3 from rfl)]
                · have f4 : ¬ nI (tl s j) = 3 := by
                    rw [n_eqL (by omega) (by decide)]
                    exact f2
                  have f5 : nS s ≠ 10 := fun z => hf ⟨rfl, f2, z⟩
                  have f6 : nS s ≤ 10 := hS.2.2
                  have f7 : ev 166 0 [some (.inr (.inr (30, 0))), some (.inl 3), some (.inl 3), none, none] [] t = some (some (.inl (nI (nS s))), t) := by
                    rw [c_166]
                    simp only [q1]
                    have z := c_166_3 hS
                    rw [c_166] at z
                    have z2 := congrArg (fun r : RE => r.map (fun y => y.1)) z
                    simp at z2
                    rw [z2]
                  rw [if_neg f4, f7, cI_s, if_neg (show ¬ nI (nS s) = 10 from by rw [n_eqL (by omega) (by decide)]; exact f5)]
              · rw [if_neg (show ¬ nI w = 3 from by rw [n_eqL (by omega) (by decide)]; exact f1)]
            rw [q_168, e0, cI_s, if_neg (by decide), if_pos hk, if_pos hk, cl_nI (by omega), q1, g2]
          refine ⟨_, _, _, e1, e2 _ (fun _ _ => rfl) rfl, ⟨JR_ag (Ag_tr (Ag_tr (Ag_wI (by decide)) (Ag_wI (by decide))) (Ag_wI (by decide))) h.1, JT_ag (Ag_tr (Ag_tr (Ag_wI (by decide)) (Ag_wI (by decide))) (Ag_wI (by decide))) h.2.1, JF_of (Ag_tr (Ag_tr (Ag_wI (by decide)) (Ag_wI (by decide))) (Ag_wI (by decide))) rfl rfl rfl rfl rfl h.2.2.1, ?_, JL_ag (Ag_tr (Ag_tr (Ag_wI (by decide)) (Ag_wI (by decide))) (Ag_wI (by decide))) h.2.2.2.2.1, Or.inl rfl⟩, fun _ _ => rfl, fun _ _ => rfl⟩
          have et : ∀ i, tl (wI (wI (wI s 9 0 j (nI w)) 0 0 8 1) 37 0 j (nI w)) i = if i = j then w else tl s i := by
            intro i
            unfold tl
            by_cases e : i = j
            · simp [wI_1, e, cl_nI (n := w) (by omega)]
            · simp [wI_1, e]
          refine ⟨hS.1, fun i hi => ?_, ?_⟩
          · obtain ⟨p1, p2, p3, p4⟩ := hS.2.1 i hi
            rw [et]
            by_cases e : i = j
            · subst e
              rw [if_pos rfl]
              exact ⟨by simp [wI_1], by simp [wI_1], hw, fun _ => hl⟩
            · rw [if_neg e]
              exact ⟨by simpa [wI_1, e] using p1, by simpa [wI_1, e] using p2, p3, p4⟩
          · simp only [et]
            have hu := cn_upd (p := fun i => tl s i == 3) (q := fun i => (if i = j then w else tl s i) == 3) (k := j) (fun i hi => by simp [hi]) 28 hj
            have hs : nS s ≤ 10 := hS.2.2
            unfold nS at hf hs
            simp only [if_pos rfl] at hu
            by_cases f1 : w = 3
            · by_cases f2 : tl s j = 3
              · simp [f1, f2] at hu ⊢
                omega
              · have f3 : ¬ cn (fun k => tl s k == 3) 28 = 10 := fun z => hf ⟨f1, f2, z⟩
                simp [f1, f2] at hu ⊢
                omega
            · by_cases f2 : tl s j = 3
              · simp [f1, f2] at hu ⊢
                omega
              · simp [f1, f2] at hu ⊢
                omega
      · refine PI_0 h (-1) ?_ ?_
        · rw [q_67, c_106, hk, cI_s, ite_bI, if_pos rfl, c_107, hv, cI_s, ite_bI, if_pos rfl, hS.1.2.2.1, c_109 hj (by omega), decide_eq_false hl, cI_s, ite_bI, if_neg (by decide)]
        · rw [q_168, q_167, c_163, hk, cI_s, ite_bI, if_pos rfl, c_144, hM, cI_s, ite_bI, if_pos rfl, c_164 hj, cI_s, hS.1.2.2.2, if_neg (show ¬ nI (lsN j) < nI (nN s) from by rw [n_lt (by omega) (by omega)]; exact hl), cI_s, if_pos (by decide)]
    · refine PI_0 h (-1) ?_ ?_
      · rw [q_67, c_106, hk, cI_s, ite_bI, if_pos rfl, c_107, ix_no hv, cI_s, ite_bI, if_neg (by decide)]
      · rw [q_168, q_167, c_163, hk, cI_s, ite_bI, if_pos rfl, c_144, show (3 : Int32) = nI 3 from rfl, in_ix v 3 (by decide), ix_no hv, cI_s, ite_bI, if_neg (by decide), cI_s, if_pos (by decide)]
  · refine PI_0 h (-1) ?_ ?_
    · rw [q_67, c_106, ix_no hk, cI_s, ite_bI, if_neg (by decide)]
    · rw [q_168, q_167, c_163, ix_no hk, cI_s, ite_bI, if_neg (by decide), cI_s, if_pos (by decide)]
