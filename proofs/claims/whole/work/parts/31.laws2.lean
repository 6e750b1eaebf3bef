/-! what a held law is -/
def Hd (s : SS) (j k kd np w f : Nat) : Prop := kd < 5 ∧ 1 ≤ np ∧ np ≤ 6 ∧ w ≤ 9 ∧ f ≤ 4 ∧ s.1 13 j 1 = nI kd ∧ s.1 42 0 k = nI kd ∧ s.1 13 j 4 = nI np ∧ s.1 45 0 k = nI np ∧ s.1 13 j 2 = nI w ∧ s.1 43 0 k = nI w ∧ s.1 13 j 3 = nI f ∧ s.1 44 0 k = nI f ∧ (3 ≤ kd → np = 1 ∧ s.1 48 0 (6 * k) = nI 0 ∧ s.1 49 0 (6 * k) = nI 0) ∧ ∀ p, p < np → PJ s j k p
theorem LJ_h {s : SS} {j k : Nat} (h : LJ s j k) : (s.1 13 j 0 = 0 ∧ s.1 42 0 k = -9) ∨ (s.1 13 j 0 = 1 ∧ ∃ kd np w f, Hd s j k kd np w f) := h
theorem Hd_L {s : SS} {j k kd np w f : Nat} (h0 : s.1 13 j 0 = 1) (h : Hd s j k kd np w f) : LJ s j k := Or.inr ⟨h0, kd, np, w, f, h⟩
theorem anyB_t {p : Nat → Bool} : ∀ {n i : Nat}, i < n → p i = true → anyB p n = true
  | 0, i, h, _ => absurd h (Nat.not_lt_zero i)
  | n + 1, i, h, hp => by
    show (anyB p n || p n) = true
    by_cases e : i = n
    · rw [← e, hp, Bool.or_true]
    · rw [anyB_t (show i < n by omega) hp, Bool.true_or]
theorem anyB_f {p : Nat → Bool} : ∀ {n : Nat}, (∀ i, i < n → p i = false) → anyB p n = false
  | 0, _ => rfl
  | n + 1, h => by
    show (anyB p n || p n) = false
    rw [anyB_f (fun i hi => h i (by omega)), h n (by omega)]
    rfl
theorem anyB_cg {p q : Nat → Bool} : ∀ {n : Nat}, (∀ i, i < n → p i = q i) → anyB p n = anyB q n
  | 0, _ => rfl
  | n + 1, h => by
    show (anyB p n || p n) = (anyB q n || q n)
    rw [anyB_cg (fun i hi => h i (by omega)), h n (by omega)]
theorem anyB_x {p : Nat → Bool} : ∀ {n : Nat}, anyB p n = true → ∃ i, i < n ∧ p i = true
  | 0, h => absurd (show false = true from h) (by decide)
  | n + 1, h => by
    have h' : (anyB p n || p n) = true := h
    rw [Bool.or_eq_true] at h'
    rcases h' with h | h
    · obtain ⟨i, h1, h2⟩ := anyB_x h
      exact ⟨i, by omega, h2⟩
    · exact ⟨n, by omega, h⟩
/-- the names of a part -/
def hpN (s : SS) (k v p : Nat) : Bool := pt1 s (6 * k + p) == v || (ptS s (6 * k + p) == 3 && pt2 s (6 * k + p) == v)
theorem hasV_e {s : SS} {k v np : Nat} (h : s.1 45 0 k = nI np) (hn : np ≤ 6) : hasV s k v = anyB (hpN s k v) np := by
  unfold hasV npN
  rw [h, cl_nI (by omega)]
  rfl
theorem m1_nI {v : Nat} (h : v < 2147483648) : ¬ (-1 : Int32) = nI v := fun z => nm1 v h z.symm
theorem PJ_v {s : SS} {j k p v : Nat} (hv : v ≤ 1) (h : PJ s j k p) : hpN s k v p = (decide (s.1 15 j p = nI v) || decide (s.1 16 j p = nI v)) := by
  obtain ⟨d, so, on, tw, h1, h2, h3, h4, h5, h6, h7, h8, h9, h10⟩ := h
  have a1 : pt1 s (6 * k + p) = on := by unfold pt1; rw [h8, cl_nI (by omega)]
  have a2 : pt2 s (6 * k + p) = tw := by unfold pt2; rw [h9, cl_nI (by omega)]
  have a3 : ptS s (6 * k + p) = so := by unfold ptS; rw [h7, cl_nI (by omega)]
  unfold hpN
  rw [a1, a2, a3]
  have e1 : ∀ x, x ≤ 1 → decide (nI x = nI v) = (x == v) := by
    intro x hx
    have := n_eq (a := x) (b := v) (by omega) (by omega)
    by_cases e : x = v
    · simp [e]
    · have e2 : ¬ nI x = nI v := by rw [this]; exact e
      simp [e, e2]
  rcases h10 with ⟨g1, g2, g3, g4⟩ | ⟨g1, g2, g3, g4, g5⟩
  · rw [g3, g4, e1 on h3, e1 tw h4, g1]
    rfl
  · rw [g4, g5, e1 on h3, decide_eq_false (m1_nI (by omega))]
    have : (so == 3) = false := by
      simp
      omega
    rw [this]
    simp
theorem PJ_any {s : SS} {j k p : Nat} (h : PJ s j k p) : hpN s k 0 p = true ∨ hpN s k 1 p = true := by
  obtain ⟨d, so, on, tw, h1, h2, h3, h4, h5, h6, h7, h8, h9, h10⟩ := h
  have a1 : pt1 s (6 * k + p) = on := by unfold pt1; rw [h8, cl_nI (by omega)]
  unfold hpN
  rw [a1]
  rcases (show on = 0 ∨ on = 1 by omega) with rfl | rfl
  · exact Or.inl (by simp)
  · exact Or.inr (by simp)
theorem c_32 {s : SS} {j k kd np w f v : Nat} (hv : v ≤ 1) (h : Hd s j k kd np w f) : ev 32 0 [some (.inr (.inr (13, j))), some (.inl (nI v)), none] [] s = some (some (.inl (bI (hasV s k v))), s) := by
  obtain ⟨h1, h2, h3, h4, h5, h6, h7, h8, h9, h10, h11, h12, h13, h14, h15⟩ := h
  rw [q_32, hasV_e h9 h3]
  have hl := lpE (P := fun i => ev 32 2 [some (.inr (.inr (13, j))), some (.inl (nI v)), some (.inl (nI i))] [] s) (c := hpN s k v) (out := fun _ => some (some (.inl 1), s)) np (fun i hi => by
    show ev 32 2 [some (.inr (.inr (13, j))), some (.inl (nI v)), some (.inl (nI i))] [] s = _
    rw [q_32_at2, h8, if_pos (nI_lt hi (by omega)), if_pos (ixB_nI (by omega) (by decide)), if_pos (ixB_nI (by omega) (by decide)), nI_s, cl_nI (by omega), PJ_v hv (h15 i hi)]
    by_cases a1 : s.1 15 j i = nI v <;> by_cases a2 : s.1 16 j i = nI v <;> simp [a1, a2])
  rcases hl with ⟨i, hi, hc, -, e⟩ | ⟨hc, e⟩
  · rw [anyB_t hi hc]
    exact e
  · rw [anyB_f hc]
    refine Eq.trans (show ev 32 2 [some (.inr (.inr (13, j))), some (.inl (nI v)), some (.inl (nI 0))] [] s = ev 32 2 [some (.inr (.inr (13, j))), some (.inl (nI v)), some (.inl (nI np))] [] s from e) ?_
    rw [q_32_at2, h8, if_neg (irr _)]
    rfl
theorem c_185 {s : SS} {j k kd np w f v : Nat} (hk : k < 8) (hv : v ≤ 1) (h : Hd s j k kd np w f) : ev 185 0 [some (.inr (.inr (30, 0))), some (.inl (nI k)), some (.inl (nI v)), none, none] [] s = some (some (.inl (bI (hasV s k v))), s) := by
  obtain ⟨h1, h2, h3, h4, h5, h6, h7, h8, h9, h10, h11, h12, h13, h14, h15⟩ := h
  rw [q_185, hasV_e h9 h3, n_mulL]
  have hl := lpN (P := fun i => ev 185 8 [some (.inr (.inr (30, 0))), some (.inl (nI k)), some (.inl (nI v)), some (.inl (bI (anyB (hpN s k v) i))), some (.inl (nI (6 * k + i)))] [] s) np (fun i hi => by
    show ev 185 8 [some (.inr (.inr (30, 0))), some (.inl (nI k)), some (.inl (nI v)), some (.inl (bI (anyB (hpN s k v) i))), some (.inl (nI (6 * k + i)))] [] s = ev 185 8 [some (.inr (.inr (30, 0))), some (.inl (nI k)), some (.inl (nI v)), some (.inl (bI (anyB (hpN s k v) i || hpN s k v i))), some (.inl (nI (6 * k + i + 1)))] [] s
    have x6 : ixB (nI (6 * k + i)) 48 = true := ixB_nI (by omega) (by decide)
    obtain ⟨d, so, on, tw, b1, b2, b3, b4, b5, b6, b7, b8, b9, b10⟩ := h15 i hi
    have a1 : pt1 s (6 * k + i) = on := by unfold pt1; rw [b8, cl_nI (by omega)]
    have a2 : pt2 s (6 * k + i) = tw := by unfold pt2; rw [b9, cl_nI (by omega)]
    have a3 : ptS s (6 * k + i) = so := by unfold ptS; rw [b7, cl_nI (by omega)]
    rw [q_185_at8, if_pos (ixB_nI hk (by decide)), cl_nI (by omega), h9, n_mulL, n_add, if_pos (nI_lt (show 6 * k + i < 6 * k + np by omega) (show 6 * k + np < 2147483648 by omega)), if_pos x6, if_pos x6, if_pos x6, nI_s, cl_nI (show 6 * k + i < 2147483648 by omega), b7, b8, b9, ite_bI]
    have c1 : (nI on = nI v) = (on = v) := n_eq (by omega) (by omega)
    have c2 : (nI tw = nI v) = (tw = v) := n_eq (by omega) (by omega)
    have c3 : (nI so = (3 : Int32)) = (so = 3) := n_eq (a := so) (b := 3) (by omega) (by decide)
    unfold hpN
    rw [a1, a2, a3]
    simp only [c1, c2, c3]
    cases anyB (fun p => pt1 s (6 * k + p) == v || (ptS s (6 * k + p) == 3 && pt2 s (6 * k + p) == v)) i
    · by_cases d1 : on = v <;> by_cases d2 : so = 3 <;> by_cases d3 : tw = v <;> simp [d1, d2, d3, bI]
    · simp [bI])
  refine (show ev 185 8 [some (.inr (.inr (30, 0))), some (.inl (nI k)), some (.inl (nI v)), some (.inl (bI (anyB (hpN s k v) 0))), some (.inl (nI (6 * k + 0)))] [] s = _ from hl).trans ?_
  rw [q_185_at8, if_pos (ixB_nI hk (by decide)), cl_nI (by omega), h9, n_mulL, n_add, if_neg (irr _), bI_Z]
  rfl
/-- how many cases a law has -/
def csN (s : SS) (k : Nat) : Nat := if 3 ≤ kdN s k then 1 else nX s k * nY s k
theorem kd_e {s : SS} {j k kd np w f : Nat} (h : Hd s j k kd np w f) : kdN s k = kd := by
  unfold kdN
  rw [h.2.2.2.2.2.2.1, cl_nI (by have := h.1; omega)]
theorem c_34 {s : SS} {j k kd np w f v : Nat} (hv : v ≤ 1) (h : Hd s j k kd np w f) (N : Nat) : ev 34 0 [some (.inr (.inr (13, j))), some (.inl (nI v)), some (.inl (nI N))] [] s = some (some (.inl (nI (if hasV s k v = true then N else 1))), s) := by
  rw [q_34, c_32 hv h, cI_s, ite_bI]
  by_cases e : hasV s k v = true
  · rw [if_pos e, if_pos e]
  · rw [if_neg e, if_neg e]
    rfl
theorem c_33 {s : SS} {j k kd np w f : Nat} (h : Hd s j k kd np w f) : ev 33 0 [some (.inr (.inr (13, j))), some (.inl (nI (nN s)))] [] s = some (some (.inl (nI (csN s k))), s) := by
  rw [q_33, c_31, h.2.2.2.2.2.1, al_k kd h.1, cI_s, ite_bI]
  unfold csN
  rw [kd_e h]
  by_cases e : 3 ≤ kd
  · rw [if_pos e, if_pos (decide_eq_true e)]
    rfl
  · rw [if_neg e, if_neg (by simp [e]), show (0 : Int32) = nI 0 from rfl, show (1 : Int32) = nI 1 from rfl, c_34 (by decide) h, cI_s, c_34 (by decide) h, cI_s, n_mul]
    rfl
theorem has_one {s : SS} {j k kd np w f : Nat} (h : Hd s j k kd np w f) : hasV s k 0 = true ∨ hasV s k 1 = true := by
  obtain ⟨h1, h2, h3, h4, h5, h6, h7, h8, h9, h10, h11, h12, h13, h14, h15⟩ := h
  rw [hasV_e h9 h3, hasV_e h9 h3]
  rcases PJ_any (h15 0 (by omega)) with g | g
  · exact Or.inl (anyB_t (by omega) g)
  · exact Or.inr (anyB_t (by omega) g)
theorem c_186 {s : SS} {j k kd np w f : Nat} (hk : k < 8) (h : Hd s j k kd np w f) (hN : s.1 30 0 10 = nI (nN s)) : ev 186 0 [some (.inr (.inr (30, 0))), some (.inl (nI k))] [] s = some (some (.inl (nI (csN s k))), s) := by
  have h1 := h.1
  rw [q_186, if_pos (ixB_nI hk (by decide)), cl_nI (by omega), h.2.2.2.2.2.2.1]
  unfold csN
  rw [kd_e h]
  by_cases e : 3 ≤ kd
  · rw [if_pos e, if_neg (show ¬ nI kd < (3 : Int32) from by rw [n_ltL (by omega) (by decide)]; show ¬ kd < 3; omega)]
    rfl
  · rw [if_neg e, if_pos (show nI kd < (3 : Int32) from nI_lt (show kd < 3 by omega) (by decide)), show (0 : Int32) = nI 0 from rfl, c_185 hk (by decide) h, cI_s, show nI 0 = (0 : Int32) from rfl, ite_bI, show (1 : Int32) = nI 1 from rfl, c_185 hk (by decide) h, cI_s, ite_bI, hN, n_mul]
    unfold nX nY
    rcases has_one h with g | g
    · rw [g, if_pos rfl, if_pos rfl]
      by_cases g2 : hasV s k 1 = true
      · rw [if_pos g2, if_pos g2]
      · rw [if_neg g2, if_neg g2, Nat.mul_one]
    · rw [g, if_pos rfl, if_pos rfl]
      by_cases g2 : hasV s k 0 = true
      · rw [if_pos g2, if_pos g2]
      · rw [if_neg g2, if_neg g2, Nat.one_mul]
