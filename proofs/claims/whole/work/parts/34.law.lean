/-! law -/
/-- the reference lays down what it read: i parts of law k -/
def cpF (k : Nat) (r : SS) (i : Nat) (t : SS) : SS := fo (fun p t => wI (wI (wI (wI t 46 0 (6 * k + p) (r.1 38 0 p &&& 1)) 47 0 (6 * k + p) (r.1 39 0 p)) 48 0 (6 * k + p) (r.1 40 0 p)) 49 0 (6 * k + p) (r.1 41 0 p)) i t
theorem cpF_lo (k : Nat) (r : SS) (t : SS) {a : Nat} (ha : a < 46 ∨ 49 < a) (b c : Nat) : ∀ i, (cpF k r i t).1 a b c = t.1 a b c
  | 0 => rfl
  | i + 1 => by
    have z1 : a ≠ 46 := by omega
    have z2 : a ≠ 47 := by omega
    have z3 : a ≠ 48 := by omega
    have z4 : a ≠ 49 := by omega
    show (wI (wI (wI (wI (cpF k r i t) 46 0 (6 * k + i) (r.1 38 0 i &&& 1)) 47 0 (6 * k + i) (r.1 39 0 i)) 48 0 (6 * k + i) (r.1 40 0 i)) 49 0 (6 * k + i) (r.1 41 0 i)).1 a b c = _
    rw [wI_1, if_neg (fun z => z4 z.1), wI_1, if_neg (fun z => z3 z.1), wI_1, if_neg (fun z => z2 z.1), wI_1, if_neg (fun z => z1 z.1)]
    exact cpF_lo k r t ha b c i
theorem cpF_2 (k : Nat) (r : SS) (t : SS) : ∀ i, (cpF k r i t).2 = t.2
  | 0 => rfl
  | i + 1 => cpF_2 k r t i
theorem cpF_o (k : Nat) (r : SS) (t : SS) (a b c : Nat) : ∀ i, (∀ p, p < i → c ≠ 6 * k + p) → (cpF k r i t).1 a b c = t.1 a b c
  | 0, _ => rfl
  | i + 1, h => by
    have z := h i (by omega)
    show (wI (wI (wI (wI (cpF k r i t) 46 0 (6 * k + i) (r.1 38 0 i &&& 1)) 47 0 (6 * k + i) (r.1 39 0 i)) 48 0 (6 * k + i) (r.1 40 0 i)) 49 0 (6 * k + i) (r.1 41 0 i)).1 a b c = _
    rw [wI_1, if_neg (fun y => z y.2.2), wI_1, if_neg (fun y => z y.2.2), wI_1, if_neg (fun y => z y.2.2), wI_1, if_neg (fun y => z y.2.2)]
    exact cpF_o k r t a b c i (fun p hp => h p (by omega))
theorem cpF_p (k : Nat) (r : SS) (t : SS) {p : Nat} : ∀ i, p < i → (cpF k r i t).1 46 0 (6 * k + p) = r.1 38 0 p &&& 1 ∧ (cpF k r i t).1 47 0 (6 * k + p) = r.1 39 0 p ∧ (cpF k r i t).1 48 0 (6 * k + p) = r.1 40 0 p ∧ (cpF k r i t).1 49 0 (6 * k + p) = r.1 41 0 p
  | 0, h => absurd h (Nat.not_lt_zero p)
  | i + 1, h => by
    show (wI (wI (wI (wI (cpF k r i t) 46 0 (6 * k + i) (r.1 38 0 i &&& 1)) 47 0 (6 * k + i) (r.1 39 0 i)) 48 0 (6 * k + i) (r.1 40 0 i)) 49 0 (6 * k + i) (r.1 41 0 i)).1 46 0 (6 * k + p) = _ ∧ (wI (wI (wI (wI (cpF k r i t) 46 0 (6 * k + i) (r.1 38 0 i &&& 1)) 47 0 (6 * k + i) (r.1 39 0 i)) 48 0 (6 * k + i) (r.1 40 0 i)) 49 0 (6 * k + i) (r.1 41 0 i)).1 47 0 (6 * k + p) = _ ∧ (wI (wI (wI (wI (cpF k r i t) 46 0 (6 * k + i) (r.1 38 0 i &&& 1)) 47 0 (6 * k + i) (r.1 39 0 i)) 48 0 (6 * k + i) (r.1 40 0 i)) 49 0 (6 * k + i) (r.1 41 0 i)).1 48 0 (6 * k + p) = _ ∧ (wI (wI (wI (wI (cpF k r i t) 46 0 (6 * k + i) (r.1 38 0 i &&& 1)) 47 0 (6 * k + i) (r.1 39 0 i)) 48 0 (6 * k + i) (r.1 40 0 i)) 49 0 (6 * k + i) (r.1 41 0 i)).1 49 0 (6 * k + p) = _
    by_cases e : p = i
    · subst e
      simp [wI_1]
    · have g := cpF_p k r t i (show p < i by omega)
      simpa [wI_1, e] using g
theorem r119 {k m : Nat} {t : SS} (hk : k < 8) (hm : m ≤ 6) (h : t.1 30 0 13 = nI m) : ev 183 119 [some (.inr (.inr (30, 0))), some (.inl (nI k)), none, none, none, some (.inl 0)] [] t = cI (ev 186 0 [some (.inr (.inr (30, 0))), some (.inl (nI k))] [] (cpF k t m t)) (fun x1 s1 => some (some (.inl x1), s1)) := by
  have hl := lpN (P := fun i => ev 183 119 [some (.inr (.inr (30, 0))), some (.inl (nI k)), none, none, none, some (.inl (nI i))] [] (cpF k t i t)) m (fun i hi => by
    show ev 183 119 [some (.inr (.inr (30, 0))), some (.inl (nI k)), none, none, none, some (.inl (nI i))] [] (cpF k t i t) = _
    have x6 : ixB (nI i) 6 = true := ixB_nI (by omega) (by decide)
    have x48 : ixB (nI (6 * k + i)) 48 = true := ixB_nI (by omega) (by decide)
    rw [q_183_at119, cpF_lo k t t (by decide), h, if_pos (nI_lt hi (by omega)), n_mulL, n_add, if_pos x6, if_pos x48, if_pos x6, if_pos x48, if_pos x6, if_pos x48, if_pos x6, if_pos x48, nI_s, cl_nI (show i < 2147483648 by omega), cl_nI (show 6 * k + i < 2147483648 by omega)]
    have e38 : ∀ c, (cpF k t i t).1 38 0 c = t.1 38 0 c := fun c => cpF_lo k t t (by decide) 0 c i
    have e39 : ∀ c, (cpF k t i t).1 39 0 c = t.1 39 0 c := fun c => cpF_lo k t t (by decide) 0 c i
    have e40 : ∀ c, (cpF k t i t).1 40 0 c = t.1 40 0 c := fun c => cpF_lo k t t (by decide) 0 c i
    have e41 : ∀ c, (cpF k t i t).1 41 0 c = t.1 41 0 c := fun c => cpF_lo k t t (by decide) 0 c i
    have f39 : ∀ v, (wI (cpF k t i t) 46 0 (6 * k + i) v).1 39 0 i = t.1 39 0 i := fun v => e39 i
    have f40 : ∀ v w, (wI (wI (cpF k t i t) 46 0 (6 * k + i) v) 47 0 (6 * k + i) w).1 40 0 i = t.1 40 0 i := fun v w => e40 i
    have f41 : ∀ v w x, (wI (wI (wI (cpF k t i t) 46 0 (6 * k + i) v) 47 0 (6 * k + i) w) 48 0 (6 * k + i) x).1 41 0 i = t.1 41 0 i := fun v w x => e41 i
    rw [e38, f39, f40, f41]
    rfl)
  refine (show ev 183 119 [some (.inr (.inr (30, 0))), some (.inl (nI k)), none, none, none, some (.inl (nI 0))] [] t = _ from hl).trans ?_
  rw [q_183_at119, cpF_lo k t t (by decide), h, if_neg (irr _)]
theorem and1 : ∀ d, d ≤ 1 → (nI d &&& 1) = nI d := by decide
/-- the class's count of cases, from the class alone -/
def hC (s : SS) (j np v : Nat) : Bool := anyB (fun p => decide (s.1 15 j p = nI v) || decide (s.1 16 j p = nI v)) np
def csC (s : SS) (j kd np N : Nat) : Nat := if 3 ≤ kd then 1 else (if hC s j np 0 = true then N else 1) * (if hC s j np 1 = true then N else 1)
theorem c_32a {s : SS} {j np : Nat} (hn : np ≤ 6) (h : s.1 13 j 4 = nI np) (v : Nat) : ev 32 0 [some (.inr (.inr (13, j))), some (.inl (nI v)), none] [] s = some (some (.inl (bI (hC s j np v))), s) := by
  rw [q_32]
  unfold hC
  have hl := lpE (P := fun i => ev 32 2 [some (.inr (.inr (13, j))), some (.inl (nI v)), some (.inl (nI i))] [] s) (c := fun p => decide (s.1 15 j p = nI v) || decide (s.1 16 j p = nI v)) (out := fun _ => some (some (.inl 1), s)) np (fun i hi => by
    show ev 32 2 [some (.inr (.inr (13, j))), some (.inl (nI v)), some (.inl (nI i))] [] s = _
    rw [q_32_at2, h, if_pos (nI_lt hi (by omega)), if_pos (ixB_nI (by omega) (by decide)), if_pos (ixB_nI (by omega) (by decide)), nI_s, cl_nI (by omega)]
    by_cases a1 : s.1 15 j i = nI v <;> by_cases a2 : s.1 16 j i = nI v <;> simp [a1, a2])
  rcases hl with ⟨i, hi, hc, -, e⟩ | ⟨hc, e⟩
  · rw [anyB_t hi hc]
    exact e
  · rw [anyB_f hc]
    refine Eq.trans (show ev 32 2 [some (.inr (.inr (13, j))), some (.inl (nI v)), some (.inl (nI 0))] [] s = ev 32 2 [some (.inr (.inr (13, j))), some (.inl (nI v)), some (.inl (nI np))] [] s from e) ?_
    rw [q_32_at2, h, if_neg (irr _)]
    rfl
theorem c_33a {s : SS} {j kd np : Nat} (hk : kd < 5) (hn : np ≤ 6) (h1 : s.1 13 j 1 = nI kd) (h : s.1 13 j 4 = nI np) (N : Nat) : ev 33 0 [some (.inr (.inr (13, j))), some (.inl (nI N))] [] s = some (some (.inl (nI (csC s j kd np N))), s) := by
  have key : ∀ v : Nat, ev 34 0 [some (.inr (.inr (13, j))), some (.inl (nI v)), some (.inl (nI N))] [] s = some (some (.inl (nI (if hC s j np v = true then N else 1))), s) := by
    intro v
    rw [q_34, c_32a hn h, cI_s, ite_bI]
    by_cases e : hC s j np v = true
    · rw [if_pos e, if_pos e]
    · rw [if_neg e, if_neg e]
      rfl
  rw [q_33, c_31, h1, al_k kd hk, cI_s, ite_bI]
  unfold csC
  by_cases e : 3 ≤ kd
  · rw [if_pos e, if_pos (decide_eq_true e)]
    rfl
  · rw [if_neg e, if_neg (by simp [e]), show (0 : Int32) = nI 0 from rfl, show (1 : Int32) = nI 1 from rfl, key, cI_s, key, cI_s, n_mul]
theorem J_s2 {s t : SS} (h : J s) (h1 : ∀ a b c, ¬ (13 ≤ a ∧ a ≤ 17) → ¬ (38 ≤ a ∧ a ≤ 49) → (a = 30 → c < 12) → (a = 0 → c ≠ 8) → t.1 a b c = s.1 a b c) (h2 : t.2.1 = s.2.1) (h8 : t.1 0 0 8 = 1) (hL : JL t) : J t := by
  have x : ∀ a b c, ¬ (13 ≤ a ∧ a ≤ 17) → ¬ (38 ≤ a ∧ a ≤ 49) → a ≠ 30 → a ≠ 0 → t.1 a b c = s.1 a b c := fun a b c ha hb hc hd => h1 a b c ha hb (fun z => absurd z hc) (fun z => absurd z hd)
  have e0 : ∀ c, c ≠ 8 → t.1 0 0 c = s.1 0 0 c := fun c hc => h1 0 0 c (by decide) (by decide) (fun z => absurd z (by decide)) (fun _ => hc)
  have e30 : ∀ c, c < 12 → t.1 30 0 c = s.1 30 0 c := fun c hc => h1 30 0 c (by decide) (by decide) (fun _ => hc) (fun z => absurd z (by decide))
  refine ⟨?_, ?_, ?_, ?_, hL, Or.inl h8⟩
  · unfold JR
    simp only [x 5 _ _ (by decide) (by decide) (by decide) (by decide), x 7 _ _ (by decide) (by decide) (by decide) (by decide), x 32 _ _ (by decide) (by decide) (by decide) (by decide), x 33 _ _ (by decide) (by decide) (by decide) (by decide)]
    exact h.1
  · unfold JT
    simp only [x 6 _ _ (by decide) (by decide) (by decide) (by decide), x 8 _ _ (by decide) (by decide) (by decide) (by decide), x 35 _ _ (by decide) (by decide) (by decide) (by decide), x 36 _ _ (by decide) (by decide) (by decide) (by decide)]
    exact h.2.1
  · unfold JF
    simp only [e0 9 (by decide), e0 12 (by decide), e30 0 (by decide), e30 2 (by decide), x 12 _ _ (by decide) (by decide) (by decide) (by decide), x 31 _ _ (by decide) (by decide) (by decide) (by decide), h2]
    exact h.2.2.1
  · unfold JS tl nN
    simp only [e0 7 (by decide), e30 10 (by decide), x 9 _ _ (by decide) (by decide) (by decide) (by decide), x 37 _ _ (by decide) (by decide) (by decide) (by decide)]
    exact h.2.2.2.1
theorem pub_law {s : SS} (h : J s) (k t kd w : Int32) : PI 70 183 [some (.inr (.inr (0, 0))), some (.inl k), some (.inl t), some (.inl kd), some (.inl w), none] [some (.inr (.inr (30, 0))), some (.inl k), some (.inl t), some (.inl kd), some (.inl w), none] s := by
  have hS := h.2.2.2.1
  have hin : ∀ u : SS, ev 144 0 [some (.inl w), some (.inl 0), some (.inl 9)] [] u = some (some (.inl (bI (ixB w 10))), u) := fun u => by
    rw [c_144, show (9 : Int32) = nI 9 from rfl, in_ix w 9 (by decide)]
  by_cases hk : ixB k 8 = true
  case neg =>
    refine PI_0 h (-1) ?_ ?_
    · rw [q_70, c_114, ix_no hk, cI_s, ite_bI, if_neg (by decide)]
    · rw [q_183, c_179, ix_no hk, cI_s, ite_bI, if_neg (by decide)]
  by_cases ht : ixB t 4 = true
  case neg =>
    refine PI_0 h (-1) ?_ ?_
    · rw [q_70, c_114, hk, cI_s, ite_bI, if_pos rfl, c_9_2, ix_no ht, cI_s, ite_bI, if_neg (by decide)]
    · rw [q_183, c_179, hk, cI_s, ite_bI, if_pos rfl, c_151, ix_no ht, cI_s, ite_bI, if_neg (by decide)]
  by_cases hd : ixB kd 5 = true
  case neg =>
    refine PI_0 h (-1) ?_ ?_
    · rw [q_70, c_114, hk, cI_s, ite_bI, if_pos rfl, c_9_2, ht, cI_s, ite_bI, if_pos rfl, c_115, ix_no hd, cI_s, ite_bI, if_neg (by decide)]
    · rw [q_183, c_179, hk, cI_s, ite_bI, if_pos rfl, c_151, ht, cI_s, ite_bI, if_pos rfl, c_177, ix_no hd, cI_s, ite_bI, if_neg (by decide)]
  by_cases hw : softB kd = true ∧ ixB w 10 = false
  · refine PI_0 h (-1) ?_ ?_
    · rw [q_70, c_114, hk, cI_s, ite_bI, if_pos rfl, c_9_2, ht, cI_s, ite_bI, if_pos rfl, c_115, hd, cI_s, ite_bI, if_pos rfl, c_118, hw.1, cI_s, ite_bI, if_pos rfl, c_116, hw.2, cI_s, ite_bI, if_neg (by decide)]
    · rw [q_183, c_179, hk, cI_s, ite_bI, if_pos rfl, c_151, ht, cI_s, ite_bI, if_pos rfl, c_177, hd, cI_s, ite_bI, if_pos rfl, c_181, hw.1, cI_s, ite_bI, if_pos rfl, hin, hw.2, cI_s, ite_bI, if_neg (by decide)]
  have e44 : ev 70 0 [some (.inr (.inr (0, 0))), some (.inl k), some (.inl t), some (.inl kd), some (.inl w), none] [] s = ev 70 44 [some (.inr (.inr (0, 0))), some (.inl k), some (.inl t), some (.inl kd), some (.inl w), none] [] s := by
    rw [q_70, c_114, hk, cI_s, ite_bI, if_pos rfl, c_9_2, ht, cI_s, ite_bI, if_pos rfl, c_115, hd, cI_s, ite_bI, if_pos rfl, c_118, cI_s, ite_bI, c_116, cI_s, ite_bI]
    cases hs : softB kd with
    | false => rw [if_neg (by decide)]
    | true =>
      have : ixB w 10 = true := by
        cases hb : ixB w 10 with
        | true => rfl
        | false => exact absurd ⟨hs, hb⟩ hw
      rw [if_pos rfl, this, if_pos rfl]
  have e41 : ∀ u : SS, ev 183 0 [some (.inr (.inr (30, 0))), some (.inl k), some (.inl t), some (.inl kd), some (.inl w), none] [] u = ev 183 41 [some (.inr (.inr (30, 0))), some (.inl k), some (.inl t), some (.inl kd), some (.inl w), none] [] u := by
    intro u
    rw [q_183, c_179, hk, cI_s, ite_bI, if_pos rfl, c_151, ht, cI_s, ite_bI, if_pos rfl, c_177, hd, cI_s, ite_bI, if_pos rfl, c_181, cI_s, ite_bI, hin, cI_s, ite_bI]
    cases hs : softB kd with
    | false => rw [if_neg (by decide)]
    | true =>
      have : ixB w 10 = true := by
        cases hb : ixB w 10 with
        | true => rfl
        | false => exact absurd ⟨hs, hb⟩ hw
      rw [if_pos rfl, this, if_pos rfl]
  obtain ⟨i, hi, rfl⟩ := (ixB_iff (by decide)).mp hk
  obtain ⟨q, hq, rfl⟩ := (ixB_iff (by decide)).mp ht
  obtain ⟨d, hdd, rfl⟩ := (ixB_iff (by decide)).mp hd
  rcases h.2.1.1 q hq with ⟨g1, g2⟩ | ⟨n, hn, g1, g2⟩
  · refine PI_f h (f := 1) (by decide) ?_ (fun u ha _ => ?_)
    · rw [e44, q_70_at44, c_10_2, hasT_n hq g1, cI_s, ite_bI, if_neg (by decide), c_100_1, cI_s]
    · have g3 : u.1 35 0 q = -9 := by rw [(ha.1 35 (by decide)).1]; exact g2
      rw [e41, q_183_at41, if_pos ht, cl_nI (by omega), g3, if_pos (by decide), c_145_1, cI_s]
  obtain ⟨a, sC, sR, r1, r2, oc, orr, hF, ha⟩ := rd2 (j := s.2.2 8) h hdd hq hn g1 g2
  have c35 : sC.1 35 0 q = nI n := (oc.1 35 0 q (QC_f (by decide))).trans g2
  by_cases h9 : a = -9
  case neg =>
    refine ⟨-4, sC, sR, ?_, ?_, J_rd h oc orr, off60 oc, fun b c => (orr.1 60 b c (QR_f (by decide))).trans (off60 oc b c)⟩
    · rw [e44, q_70_at44, c_10_2, hasT_y hq hn g1, cI_s, ite_bI, if_pos rfl, r1, cI_s, if_neg h9]
    · rw [e41, q_183_at41, if_pos ht, cl_nI (by omega), c35, if_neg (nI_pos (by omega)), r2, cI_s, if_neg h9]
  subst h9
  obtain ⟨m, hm1, hm6, hal, b1, b2, b3, ⟨fg, hfg, b4, b5⟩, b6⟩ := hF rfl
  obtain ⟨v, hv9, hvw⟩ : ∃ v, v ≤ 9 ∧ (if softB (nI d) = true then w else 0) = nI v := by
    cases hs : softB (nI d) with
    | false => exact ⟨0, by decide, rfl⟩
    | true =>
      have : ixB w 10 = true := by
        cases hb : ixB w 10 with
        | true => rfl
        | false => exact absurd ⟨hs, hb⟩ hw
      obtain ⟨v, hv, rfl⟩ := (ixB_iff (by decide)).mp this
      exact ⟨v, by omega, rfl⟩
  have e2C : sC.2 = s.2 := oc.2
  have hJL := h.2.2.2.2.1
  have hne8 : s.2.2 i ≠ s.2.2 8 := fun z => by
    have := hJL.2.1 i 8 (by omega) (by omega) z
    omega
  have hS2 : JS s := hS
  have c07 : sC.1 0 0 7 = nI (nN s) := (oc.1 0 0 7 (QC_f (by decide))).trans hS.1.2.2.1
  -- the state of the class after it
  obtain ⟨T, hT⟩ : ∃ T, T = wI (wI (wI (wR (wR sC i (s.2.2 8)) 8 (s.2.2 i)) 13 (s.2.2 8) 0 1) 13 (s.2.2 8) 2 (nI v)) 0 0 8 1 := ⟨_, rfl⟩
  have T2 : ∀ x, T.2.2 x = if x = 8 then s.2.2 i else if x = i then s.2.2 8 else s.2.2 x := by
    intro x
    rw [hT]
    show (wR (wR sC i (s.2.2 8)) 8 (s.2.2 i)).2.2 x = _
    rw [wR_3, wR_3, e2C]
  have T21 : T.2.1 = s.2.1 := by
    rw [hT]
    show sC.2.1 = s.2.1
    rw [e2C]
  have T1 : ∀ x y z, T.1 x y z = if x = 0 ∧ y = 0 ∧ z = 8 then 1 else if x = 13 ∧ y = s.2.2 8 ∧ z = 2 then nI v else if x = 13 ∧ y = s.2.2 8 ∧ z = 0 then 1 else sC.1 x y z := by
    intro x y z
    rw [hT]
    rfl
  have eC : ev 70 0 [some (.inr (.inr (0, 0))), some (.inl (nI i)), some (.inl (nI q)), some (.inl (nI d)), some (.inl w), none] [] s = cI (ev 33 0 [some (.inr (.inr (13, s.2.2 8))), some (.inl (nI (nN s)))] [] T) (fun x1 s1 => some (some (.inl x1), s1)) := by
    rw [e44, q_70_at44, c_10_2, hasT_y hq hn g1, cI_s, ite_bI, if_pos rfl, r1, cI_s, if_pos rfl, if_pos hk, if_pos hk, if_pos hk, if_pos hk, cl_nI (by omega), c_118, cI_s, ite_bI, e2C]
    have hx : (wR (wR sC i (s.2.2 8)) 8 (s.2.2 i)).2.2 i = s.2.2 8 := by
      rw [wR_3, wR_3, if_neg (by omega), if_pos rfl]
    have hx2 : (wI (wR (wR sC i (s.2.2 8)) 8 (s.2.2 i)) 13 ((wR (wR sC i (s.2.2 8)) 8 (s.2.2 i)).2.2 i) 0 1).2.2 i = s.2.2 8 := hx
    rw [hx2, hx]
    have key : ∀ x : Int32, x = nI v → ev 70 140 [some (.inr (.inr (0, 0))), some (.inl (nI i)), none, none, none, none] [(.inl 1), (.inr (.inr (0, 0)))] (wI (wI (wR (wR sC i (s.2.2 8)) 8 (s.2.2 i)) 13 (s.2.2 8) 0 1) 13 (s.2.2 8) 2 x) = cI (ev 33 0 [some (.inr (.inr (13, s.2.2 8))), some (.inl (nI (nN s)))] [] T) (fun x1 s1 => some (some (.inl x1), s1)) := by
      intro x ex
      rw [q_70_at140, show isZ 1 = true from rfl, if_pos hk, cl_nI (by omega), ex]
      have y1 : (wI (wI (wI (wR (wR sC i (s.2.2 8)) 8 (s.2.2 i)) 13 (s.2.2 8) 0 1) 13 (s.2.2 8) 2 (nI v)) 0 0 8 1).2.2 i = s.2.2 8 := hx
      have y2 : (wI (wI (wI (wR (wR sC i (s.2.2 8)) 8 (s.2.2 i)) 13 (s.2.2 8) 0 1) 13 (s.2.2 8) 2 (nI v)) 0 0 8 1).1 0 0 7 = nI (nN s) := c07
      rw [y1, y2, ← hT]
      rfl
    cases hs : softB (nI d) with
    | false =>
      rw [hs] at hvw
      rw [if_neg (by decide)]
      exact key 0 hvw
    | true =>
      rw [hs] at hvw
      rw [if_pos rfl]
      exact key w hvw
  -- the reference, from there
  have tr : TR T q n (s.1 8 q) := ⟨by rw [T1, if_neg (by simp), if_neg (by simp), if_neg (by simp)]; exact c35, fun x hx => by
    rw [T1, if_neg (by simp), if_neg (by simp), if_neg (by simp), oc.1 36 0 _ (QC_f (by decide))]
    exact (h.2.1.2 q x hq (by omega)).symm⟩
  obtain ⟨a', sC', R, r1', r2', oc', or', hF', -⟩ := rd (j := s.2.2 8) hdd hq hn (show TC s q n (s.1 8 q) from ⟨g1, fun _ _ => rfl⟩) tr
  have z := r1.symm.trans r1'
  simp only [Option.some.injEq, Prod.mk.injEq, Sum.inl.injEq] at z
  obtain ⟨rfl, rfl⟩ := z
  obtain ⟨m', hm1', hm6', hal', d1, d2, d3, ⟨fg', hfg', d4, d5⟩, d6⟩ := hF' rfl
  have em : m' = m := by
    have := d2.symm.trans b2
    rw [n_eq (by omega) (by omega)] at this
    exact this
  subst em
  have ef : fg' = fg := by
    have := d4.symm.trans b4
    rw [n_eq (by omega) (by omega)] at this
    exact this
  subst ef
  obtain ⟨U, hU⟩ : ∃ U, U = wI (wI (wI (wI R 42 0 i (nI d)) 43 0 i (nI v)) 44 0 i (nI fg')) 45 0 i (nI m') := ⟨_, rfl⟩
  have eR : ev 183 0 [some (.inr (.inr (30, 0))), some (.inl (nI i)), some (.inl (nI q)), some (.inl (nI d)), some (.inl w), none] [] T = cI (ev 186 0 [some (.inr (.inr (30, 0))), some (.inl (nI i))] [] (cpF i U m' U)) (fun x1 s1 => some (some (.inl x1), s1)) := by
    rw [e41, q_183_at41, if_pos ht, cl_nI (by omega), tr.1, if_neg (nI_pos (by omega)), r2', cI_s, if_pos rfl, if_pos hk, cl_nI (by omega), c_181, cI_s, ite_bI]
    have key : ∀ x : Int32, x = nI v → ev 183 95 [some (.inr (.inr (30, 0))), some (.inl (nI i)), none, none, none, none] [(.inl x), (.inl (nI i)), (.inr (.inr (43, 0)))] (wI R 42 0 i (nI d)) = cI (ev 186 0 [some (.inr (.inr (30, 0))), some (.inl (nI i))] [] (cpF i U m' U)) (fun x1 s1 => some (some (.inl x1), s1)) := by
      intro x ex
      rw [q_183_at95, if_pos hk, if_pos hk, if_pos hk, cl_nI (by omega), ex]
      have y1 : (wI (wI R 42 0 i (nI d)) 43 0 i (nI v)).1 30 0 14 = nI fg' := d5
      have y2 : (wI (wI (wI R 42 0 i (nI d)) 43 0 i (nI v)) 44 0 i (nI fg')).1 30 0 13 = nI m' := d3
      rw [y1, y2, ← hU]
      exact r119 hi hm6 (by rw [hU]; exact d3)
    cases hs : softB (nI d) with
    | false =>
      rw [hs] at hvw
      rw [if_neg (by decide)]
      exact key 0 hvw
    | true =>
      rw [hs] at hvw
      rw [if_pos rfl]
      exact key w hvw
  -- cells of the state after both
  obtain ⟨V, hV⟩ : ∃ V, V = cpF i U m' U := ⟨_, rfl⟩
  have V2 : V.2 = T.2 := by
    rw [hV, cpF_2, hU]
    exact or'.2
  have Vlo : ∀ a b c, a < 42 ∨ 49 < a → V.1 a b c = R.1 a b c := by
    intro a b c ha
    rw [hV, cpF_lo i U U (by omega), hU]
    simp only [wI_1]
    rw [if_neg (by omega), if_neg (by omega), if_neg (by omega), if_neg (by omega)]
  have VT : ∀ a b c, a < 30 ∨ 49 < a ∨ (30 < a ∧ a < 38) → V.1 a b c = T.1 a b c := by
    intro a b c ha
    rw [Vlo a b c (by omega), or'.1 a b c (QR_f (by omega))]
  have Vc : ∀ a b c, a < 30 → a ≠ 0 → (a = 13 → b ≠ s.2.2 8) → V.1 a b c = sC.1 a b c := by
    intro a b c h1 h2 h3
    rw [VT a b c (by omega), T1, if_neg (fun z => h2 z.1), if_neg (fun z => h3 z.1 z.2.1), if_neg (fun z => h3 z.1 z.2.1)]
  have V14 : ∀ a b c, a < 30 → a ≠ 0 → a ≠ 13 → V.1 a b c = sC.1 a b c := fun a b c h1 h2 h3 => Vc a b c h1 h2 (fun z => absurd z h3)
  have V13 : ∀ c, c ≠ 0 → c ≠ 2 → V.1 13 (s.2.2 8) c = sC.1 13 (s.2.2 8) c := by
    intro c h1 h2
    rw [VT _ _ _ (by decide), T1, if_neg (by simp), if_neg (fun z => h2 z.2.2), if_neg (fun z => h1 z.2.2)]
  have V42 : ∀ a c, 42 ≤ a → a ≤ 45 → V.1 a 0 c = U.1 a 0 c := fun a c h1 h2 => by rw [hV, cpF_lo i U U (by omega)]
  have hH : Hd V (s.2.2 8) i d m' v fg' := by
    refine ⟨hdd, hm1, hm6, hv9, hfg, ?_, ?_, ?_, ?_, ?_, ?_, ?_, ?_, ?_, ?_⟩
    · rw [V13 1 (by decide) (by decide)]; exact b1
    · rw [V42 42 _ (by decide) (by decide), hU]; simp [wI_1]
    · rw [V13 4 (by decide) (by decide)]; exact b2
    · rw [V42 45 _ (by decide) (by decide), hU]; simp [wI_1]
    · rw [VT _ _ _ (by decide), T1, if_neg (by simp), if_pos ⟨rfl, rfl, rfl⟩]
    · rw [V42 43 _ (by decide) (by decide), hU]; simp [wI_1]
    · rw [V13 3 (by decide) (by decide)]; exact b4
    · rw [V42 44 _ (by decide) (by decide), hU]; simp [wI_1]
    · intro h3
      have hm := hal h3
      obtain ⟨d', so, on, tw, p1, p2, p3, p4, p5, p6, p7, p8, p9, p10, p11⟩ := d6 0 (by omega)
      obtain ⟨o1, o2⟩ := p10 h3
      have cp := cpF_p i U U (p := 0) m' (by omega)
      refine ⟨hm, ?_, ?_⟩
      · have := cp.2.2.1
        rw [← hV, hU] at this
        rw [show 6 * i = 6 * i + 0 from rfl, this]
        rw [o1] at p8
        exact p8
      · have := cp.2.2.2
        rw [← hV, hU] at this
        rw [show 6 * i = 6 * i + 0 from rfl, this]
        rw [o2] at p9
        exact p9
    · intro p hp
      obtain ⟨d', so, on, tw, p1, p2, p3, p4, p5, p6, p7, p8, p9, p10, p11⟩ := d6 p hp
      have cp := cpF_p i U U (p := p) m' hp
      rw [← hV] at cp
      have u38 : U.1 38 0 p = nI d' := by rw [hU]; exact p6
      have u39 : U.1 39 0 p = nI so := by rw [hU]; exact p7
      have u40 : U.1 40 0 p = nI on := by rw [hU]; exact p8
      have u41 : U.1 41 0 p = nI tw := by rw [hU]; exact p9
      rw [u38, and1 d' p1, u39, u40, u41] at cp
      refine ⟨d', so, on, tw, p1, p2, p3, p4, ?_, cp.1, cp.2.1, cp.2.2.1, cp.2.2.2, ?_⟩
      · rw [V14 17 _ _ (by decide) (by decide) (by decide)]; exact p5
      · rw [V14 14 _ _ (by decide) (by decide) (by decide), V14 15 _ _ (by decide) (by decide) (by decide), V14 16 _ _ (by decide) (by decide) (by decide)]
        exact p11
  have V10 : V.1 30 0 10 = nI (nN s) := by
    rw [Vlo 30 0 10 (by decide), or'.1 30 0 10 rfl, T1, if_neg (by decide), if_neg (by simp), if_neg (by simp), oc.1 30 0 10 (QC_f (by decide))]
    exact hS.1.2.2.2
  have VN : nN V = nN s := by
    unfold nN
    rw [V10, cl_nI (by have := hS.1.2.1; omega)]
    rfl
  have ec : nI (csC T (s.2.2 8) d m' (nN s)) = nI (csN V i) := by
    have y1 := c_33 hH
    rw [VN, c_33a hdd hm6 hH.2.2.2.2.2.1 hH.2.2.2.2.2.2.2.1] at y1
    simp only [Option.some.injEq, Prod.mk.injEq, Sum.inl.injEq] at y1
    rw [← y1.1]
    unfold csC hC
    simp only [VT 15 _ _ (by decide), VT 16 _ _ (by decide)]
  have eC2 : ev 70 0 [some (.inr (.inr (0, 0))), some (.inl (nI i)), some (.inl (nI q)), some (.inl (nI d)), some (.inl w), none] [] s = some (some (.inl (nI (csN V i))), T) := by
    rw [eC, c_33a hdd hm6 (by rw [← VT _ _ _ (by decide)]; exact hH.2.2.2.2.2.1) (by rw [← VT _ _ _ (by decide)]; exact hH.2.2.2.2.2.2.2.1), cI_s, ec]
  have eR2 : ev 183 0 [some (.inr (.inr (30, 0))), some (.inl (nI i)), some (.inl (nI q)), some (.inl (nI d)), some (.inl w), none] [] T = some (some (.inl (nI (csN V i))), V) := by
    rw [eR, ← hV, c_186 hi hH (by rw [V10, VN]), cI_s]
  have x60 : ∀ b c, T.1 60 b c = s.1 60 b c := fun b c => by
    rw [T1, if_neg (by simp), if_neg (by simp), if_neg (by simp)]
    exact off60 oc b c
  refine ⟨_, _, _, eC2, eR2, J_s2 h (fun a b c h1 h2 h3 h4 => ?_) (by rw [V2]; exact T21) ?_ ⟨fun x hx => ?_, fun x y hx hy e => ?_, fun k' hk' => ?_⟩, x60, fun b c => by rw [VT 60 _ _ (by decide)]; exact x60 b c⟩
  · have : V.1 a b c = T.1 a b c := by
      rw [Vlo a b c (by omega), or'.1 a b c (by unfold QR; simp; omega)]
    rw [this, T1, if_neg (fun z => h4 z.1 z.2.2), if_neg (fun z => h1 (by omega)), if_neg (fun z => h1 (by omega)), oc.1 a b c (QC_f (by omega))]
  · rw [VT _ _ _ (by decide), T1, if_pos ⟨rfl, rfl, rfl⟩]
  · rw [V2, T2]
    split
    · exact hJL.1 i (by omega)
    · split
      · exact hJL.1 8 (by omega)
      · exact hJL.1 x hx
  · rw [V2, T2, T2] at e
    have inj := hJL.2.1
    by_cases x8 : x = 8
    · by_cases y8 : y = 8
      · omega
      · rw [if_pos x8, if_neg y8] at e
        by_cases yi : y = i
        · rw [if_pos yi] at e
          exact absurd e hne8
        · rw [if_neg yi] at e
          have := inj i y (by omega) hy e
          omega
    · rw [if_neg x8] at e
      by_cases xi : x = i
      · rw [if_pos xi] at e
        by_cases y8 : y = 8
        · rw [if_pos y8] at e
          exact absurd e.symm hne8
        · rw [if_neg y8] at e
          by_cases yi : y = i
          · omega
          · rw [if_neg yi] at e
            have := inj 8 y (by omega) hy e
            omega
      · rw [if_neg xi] at e
        by_cases y8 : y = 8
        · rw [if_pos y8] at e
          have := inj x i hx (by omega) e
          omega
        · rw [if_neg y8] at e
          by_cases yi : y = i
          · rw [if_pos yi] at e
            have := inj x 8 hx (by omega) e
            omega
          · rw [if_neg yi] at e
            exact inj x y hx hy e
  · rw [V2, T2, if_neg (by omega)]
    by_cases e : k' = i
    · subst e
      rw [if_pos rfl]
      refine Hd_L ?_ hH
      rw [VT _ _ _ (by decide), T1, if_neg (by simp), if_neg (by simp), if_pos ⟨rfl, rfl, rfl⟩]
    · rw [if_neg e]
      have hne : s.2.2 k' ≠ s.2.2 8 := fun z => by
        have := hJL.2.1 k' 8 (by omega) (by omega) z
        omega
      have sT : ∀ a b c, 42 ≤ a → a ≤ 49 → R.1 a b c = s.1 a b c := by
        intro a b c h1 h2
        rw [or'.1 a b c (QR_f (by omega)), T1, if_neg (by omega), if_neg (by omega), if_neg (by omega), oc.1 a b c (QC_f (by omega))]
      refine LJ_cg (s := s) (hJL.2.2 k' hk') (fun a c a1 a2 => ?_) (fun a a1 a2 => ?_) (fun a p a1 a2 p6 => ?_)
      · rw [Vc a _ c (by omega) (by omega) (fun _ => hne), oc.1 a _ c (by unfold QC; simp [hne])]
      · rw [V42 a _ a1 a2, hU]
        simp only [wI_1]
        rw [if_neg (by omega), if_neg (by omega), if_neg (by omega), if_neg (by omega)]
        exact sT a 0 k' (by omega) (by omega)
      · rw [hV, cpF_o i U U a 0 _ m' (fun p' hp' => by omega), hU]
        simp only [wI_1]
        rw [if_neg (by omega), if_neg (by omega), if_neg (by omega), if_neg (by omega)]
        exact sT a 0 _ (by omega) (by omega)
