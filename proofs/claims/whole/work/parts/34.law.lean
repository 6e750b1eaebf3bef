/-! law -/
/-- the reference lays down what it read: i parts of law k -/
def cpF (k : Nat) (r : SS) (i : Nat) (t : SS) : SS := fo (fun p t => wI (wI (wI (wI t 46 0 (6 * k + p) (r.1 38 0 p &&& 1)) 47 0 (6 * k + p) (r.1 39 0 p)) 48 0 (6 * k + p) (r.1 40 0 p)) 49 0 (6 * k + p) (r.1 41 0 p)) i t
theorem cpF_lo (k : Nat) (r : SS) (t : SS) {a : Nat} (ha : a < 46 ∨ 49 < a) (b c : Nat) : ∀ i, (cpF k r i t).1 a b c = t.1 a b c
  | 0 => rfl
  | i + 1 => by
    have z1 : a ≠ 46 := by omega
    have z2 : a ≠ 47 := by omega
    have z3 : a ≠ 48 := by omega
    have z4 : a ≠ 49 := by omega
    show (wI (wI (wI (wI (cpF k r i t) 46 0 (6 * k + i) (r.1 38 0 i &&& 1)) 47 0 (6 * k + i) (r.1 39 0 i)) 48 0 (6 * k + i) (r.1 40 0 i)) 49 0 (6 * k + i) (r.1 41 0 i)).1 a b c = _
    rw [wI_1, if_neg (fun z => z4 z.1), wI_1, if_neg (fun z => z3 z.1), wI_1, if_neg (fun z => z2 z.1), wI_1, if_neg (fun z => z1 z.1)]
    exact cpF_lo k r t ha b c i
theorem cpF_2 (k : Nat) (r : SS) (t : SS) : ∀ i, (cpF k r i t).2 = t.2
  | 0 => rfl
  | i + 1 => cpF_2 k r t i
theorem cpF_o (k : Nat) (r : SS) (t : SS) (a b c : Nat) : ∀ i, (∀ p, p < i → c ≠ 6 * k + p) → (cpF k r i t).1 a b c = t.1 a b c
  | 0, _ => rfl
  | i + 1, h => by
    have z := h i (by omega)
    show (wI (wI (wI (wI (cpF k r i t) 46 0 (6 * k + i) (r.1 38 0 i &&& 1)) 47 0 (6 * k + i) (r.1 39 0 i)) 48 0 (6 * k + i) (r.1 40 0 i)) 49 0 (6 * k + i) (r.1 41 0 i)).1 a b c = _
    rw [wI_1, if_neg (fun y => z y.2.2), wI_1, if_neg (fun y => z y.2.2), wI_1, if_neg (fun y => z y.2.2), wI_1, if_neg (fun y => z y.2.2)]
    exact cpF_o k r t a b c i (fun p hp => h p (by omega))
theorem cpF_p (k : Nat) (r : SS) (t : SS) {p : Nat} : ∀ i, p < i → (cpF k r i t).1 46 0 (6 * k + p) = r.1 38 0 p &&& 1 ∧ (cpF k r i t).1 47 0 (6 * k + p) = r.1 39 0 p ∧ (cpF k r i t).1 48 0 (6 * k + p) = r.1 40 0 p ∧ (cpF k r i t).1 49 0 (6 * k + p) = r.1 41 0 p
  | 0, h => absurd h (Nat.not_lt_zero p)
  | i + 1, h => by
    show (wI (wI (wI (wI (cpF k r i t) 46 0 (6 * k + i) (r.1 38 0 i &&& 1)) 47 0 (6 * k + i) (r.1 39 0 i)) 48 0 (6 * k + i) (r.1 40 0 i)) 49 0 (6 * k + i) (r.1 41 0 i)).1 46 0 (6 * k + p) = _ ∧ (wI (wI (wI (wI (cpF k r i t) 46 0 (6 * k + i) (r.1 38 0 i &&& 1)) 47 0 (6 * k + i) (r.1 39 0 i)) 48 0 (6 * k + i) (r.1 40 0 i)) 49 0 (6 * k + i) (r.1 41 0 i)).1 47 0 (6 * k + p) = _ ∧ (wI (wI (wI (wI (cpF k r i t) 46 0 (6 * k + i) (r.1 38 0 i &&& 1)) 47 0 (6 * k + i) (r.1 39 0 i)) 48 0 (6 * k + i) (r.1 40 0 i)) 49 0 (6 * k + i) (r.1 41 0 i)).1 48 0 (6 * k + p) = _ ∧ (wI (wI (wI (wI (cpF k r i t) 46 0 (6 * k + i) (r.1 38 0 i &&& 1)) 47 0 (6 * k + i) (r.1 39 0 i)) 48 0 (6 * k + i) (r.1 40 0 i)) 49 0 (6 * k + i) (r.1 41 0 i)).1 49 0 (6 * k + p) = _
    by_cases e : p = i
    · subst e
      simp [wI_1]
    · have g := cpF_p k r t i (show p < i by omega)
      simpa [wI_1, e] using g
theorem r119 {k m : Nat} {t : SS} (hk : k < 8) (hm : m ≤ 6) (h : t.1 30 0 13 = nI m) : ev 183 119 [some (.inr (.inr (30, 0))), some (.inl (nI k)), none, none, none, some (.inl 0)] [] t = cI (ev 186 0 [some (.inr (.inr (30, 0))), some (.inl (nI k))] [] (cpF k t m t)) (fun x1 s1 => some (some (.inl x1), s1)) := by
  have hl := lpN (P := fun i => ev 183 119 [some (.inr (.inr (30, 0))), some (.inl (nI k)), none, none, none, some (.inl (nI i))] [] (cpF k t i t)) m (fun i hi => by
    show ev 183 119 [some (.inr (.inr (30, 0))), some (.inl (nI k)), none, none, none, some (.inl (nI i))] [] (cpF k t i t) = _
    have x6 : ixB (nI i) 6 = true := ixB_nI (by omega) (by decide)
    have x48 : ixB (nI (6 * k + i)) 48 = true := ixB_nI (by omega) (by decide)
    rw [q_183_at119, cpF_lo k t t (by decide), h, if_pos (nI_lt hi (by omega)), n_mulL, n_add, if_pos x6, if_pos x48, if_pos x6, if_pos x48, if_pos x6, if_pos x48, if_pos x6, if_pos x48, nI_s, cl_nI (show i < 2147483648 by omega), cl_nI (show 6 * k + i < 2147483648 by omega)]
    have e38 : ∀ c, (cpF k t i t).1 38 0 c = t.1 38 0 c := fun c => cpF_lo k t t (by decide) 0 c i
    have e39 : ∀ c, (cpF k t i t).1 39 0 c = t.1 39 0 c := fun c => cpF_lo k t t (by decide) 0 c i
    have e40 : ∀ c, (cpF k t i t).1 40 0 c = t.1 40 0 c := fun c => cpF_lo k t t (by decide) 0 c i
    have e41 : ∀ c, (cpF k t i t).1 41 0 c = t.1 41 0 c := fun c => cpF_lo k t t (by decide) 0 c i
    have f39 : ∀ v, (wI (cpF k t i t) 46 0 (6 * k + i) v).1 39 0 i = t.1 39 0 i := fun v => e39 i
    have f40 : ∀ v w, (wI (wI (cpF k t i t) 46 0 (6 * k + i) v) 47 0 (6 * k + i) w).1 40 0 i = t.1 40 0 i := fun v w => e40 i
    have f41 : ∀ v w x, (wI (wI (wI (cpF k t i t) 46 0 (6 * k + i) v) 47 0 (6 * k + i) w) 48 0 (6 * k + i) x).1 41 0 i = t.1 41 0 i := fun v w x => e41 i
    rw [e38, f39, f40, f41]
    rfl)
  refine (show ev 183 119 [some (.inr (.inr (30, 0))), some (.inl (nI k)), none, none, none, some (.inl (nI 0))] [] t = _ from hl).trans ?_
  rw [q_183_at119, cpF_lo k t t (by decide), h, if_neg (irr _)]
theorem and1 : ∀ d, d ≤ 1 → (nI d &&& 1) = nI d := by decide
theorem pub_law {s : SS} (h : J s) (k t kd w : Int32) : PI 70 183 [some (.inr (.inr (0, 0))), some (.inl k), some (.inl t), some (.inl kd), some (.inl w), none] [some (.inr (.inr (30, 0))), some (.inl k), some (.inl t), some (.inl kd), some (.inl w), none] s := by
  have hS := h.2.2.2.1
  have hin : ∀ u : SS, ev 144 0 [some (.inl w), some (.inl 0), some (.inl 9)] [] u = some (some (.inl (bI (ixB w 10))), u) := fun u => by
    rw [c_144, show (9 : Int32) = nI 9 from rfl, in_ix w 9 (by decide)]
  by_cases hk : ixB k 8 = true
  case neg =>
    refine PI_0 h (-1) ?_ ?_
    · rw [q_70, c_114, ix_no hk, cI_s, ite_bI, if_neg (by decide)]
    · rw [q_183, c_179, ix_no hk, cI_s, ite_bI, if_neg (by decide)]
  by_cases ht : ixB t 4 = true
  case neg =>
    refine PI_0 h (-1) ?_ ?_
    · rw [q_70, c_114, hk, cI_s, ite_bI, if_pos rfl, c_9_2, ix_no ht, cI_s, ite_bI, if_neg (by decide)]
    · rw [q_183, c_179, hk, cI_s, ite_bI, if_pos rfl, c_151, ix_no ht, cI_s, ite_bI, if_neg (by decide)]
  by_cases hd : ixB kd 5 = true
  case neg =>
    refine PI_0 h (-1) ?_ ?_
    · rw [q_70, c_114, hk, cI_s, ite_bI, if_pos rfl, c_9_2, ht, cI_s, ite_bI, if_pos rfl, c_115, ix_no hd, cI_s, ite_bI, if_neg (by decide)]
    · rw [q_183, c_179, hk, cI_s, ite_bI, if_pos rfl, c_151, ht, cI_s, ite_bI, if_pos rfl, c_177, ix_no hd, cI_s, ite_bI, if_neg (by decide)]
  by_cases hw : softB kd = true ∧ ixB w 10 = false
  · refine PI_0 h (-1) ?_ ?_
    · rw [q_70, c_114, hk, cI_s, ite_bI, if_pos rfl, c_9_2, ht, cI_s, ite_bI, if_pos rfl, c_115, hd, cI_s, ite_bI, if_pos rfl, c_118, hw.1, cI_s, ite_bI, if_pos rfl, c_116, hw.2, cI_s, ite_bI, if_neg (by decide)]
    · rw [q_183, c_179, hk, cI_s, ite_bI, if_pos rfl, c_151, ht, cI_s, ite_bI, if_pos rfl, c_177, hd, cI_s, ite_bI, if_pos rfl, c_181, hw.1, cI_s, ite_bI, if_pos rfl, hin, hw.2, cI_s, ite_bI, if_neg (by decide)]
  have e44 : ev 70 0 [some (.inr (.inr (0, 0))), some (.inl k), some (.inl t), some (.inl kd), some (.inl w), none] [] s = ev 70 44 [some (.inr (.inr (0, 0))), some (.inl k), some (.inl t), some (.inl kd), some (.inl w), none] [] s := by
    rw [q_70, c_114, hk, cI_s, ite_bI, if_pos rfl, c_9_2, ht, cI_s, ite_bI, if_pos rfl, c_115, hd, cI_s, ite_bI, if_pos rfl, c_118, cI_s, ite_bI, c_116, cI_s, ite_bI]
    cases hs : softB kd with
    | false => rw [if_neg (by decide)]
    | true =>
      have : ixB w 10 = true := by
        cases hb : ixB w 10 with
        | true => rfl
        | false => exact absurd ⟨hs, hb⟩ hw
      rw [if_pos rfl, this, if_pos rfl]
  have e41 : ∀ u : SS, ev 183 0 [some (.inr (.inr (30, 0))), some (.inl k), some (.inl t), some (.inl kd), some (.inl w), none] [] u = ev 183 41 [some (.inr (.inr (30, 0))), some (.inl k), some (.inl t), some (.inl kd), some (.inl w), none] [] u := by
    intro u
    rw [q_183, c_179, hk, cI_s, ite_bI, if_pos rfl, c_151, ht, cI_s, ite_bI, if_pos rfl, c_177, hd, cI_s, ite_bI, if_pos rfl, c_181, cI_s, ite_bI, hin, cI_s, ite_bI]
    cases hs : softB kd with
    | false => rw [if_neg (by decide)]
    | true =>
      have : ixB w 10 = true := by
        cases hb : ixB w 10 with
        | true => rfl
        | false => exact absurd ⟨hs, hb⟩ hw
      rw [if_pos rfl, this, if_pos rfl]
  obtain ⟨i, hi, rfl⟩ := (ixB_iff (by decide)).mp hk
  obtain ⟨q, hq, rfl⟩ := (ixB_iff (by decide)).mp ht
  obtain ⟨d, hdd, rfl⟩ := (ixB_iff (by decide)).mp hd
  rcases h.2.1.1 q hq with ⟨g1, g2⟩ | ⟨n, hn, g1, g2⟩
  · refine PI_f h (f := 1) (by decide) ?_ (fun u ha _ => ?_)
    · rw [e44, q_70_at44, c_10_2, hasT_n hq g1, cI_s, ite_bI, if_neg (by decide), c_100_1, cI_s]
    · have g3 : u.1 35 0 q = -9 := by rw [(ha.1 35 (by decide)).1]; exact g2
      rw [e41, q_183_at41, if_pos ht, cl_nI (by omega), g3, if_pos (by decide), c_145_1, cI_s]
  obtain ⟨a, sC, sR, r1, r2, oc, orr, hF, ha⟩ := rd2 (j := s.2.2 8) h hdd hq hn g1 g2
  have c35 : sC.1 35 0 q = nI n := (oc.1 35 0 q (QC_f (by decide))).trans g2
  by_cases h9 : a = -9
  case neg =>
    refine ⟨-4, sC, sR, ?_, ?_, J_rd h oc orr, off60 oc, fun b c => (orr.1 60 b c (QR_f (by decide))).trans (off60 oc b c)⟩
    · rw [e44, q_70_at44, c_10_2, hasT_y hq hn g1, cI_s, ite_bI, if_pos rfl, r1, cI_s, if_neg h9]
    · rw [e41, q_183_at41, if_pos ht, cl_nI (by omega), c35, if_neg (nI_pos (by omega)), r2, cI_s, if_neg h9]
  subst h9
  obtain ⟨m, hm1, hm6, hal, b1, b2, b3, ⟨fg, hfg, b4, b5⟩, b6⟩ := hF rfl
  obtain ⟨v, hv9, hvw⟩ : ∃ v, v ≤ 9 ∧ (if softB (nI d) = true then w else 0) = nI v := by
    cases hs : softB (nI d) with
    | false => exact ⟨0, by decide, rfl⟩
    | true =>
      have : ixB w 10 = true := by
        cases hb : ixB w 10 with
        | true => rfl
        | false => exact absurd ⟨hs, hb⟩ hw
      obtain ⟨v, hv, rfl⟩ := (ixB_iff (by decide)).mp this
      exact ⟨v, by omega, rfl⟩
  have e2C : sC.2 = s.2 := oc.2
  have hJL := h.2.2.2.2.1
  have hne8 : s.2.2 i ≠ s.2.2 8 := fun z => by
    have := hJL.2.1 i 8 (by omega) (by omega) z
    omega
  have hS2 : JS s := hS
  have c07 : sC.1 0 0 7 = nI (nN s) := (oc.1 0 0 7 (QC_f (by decide))).trans hS.1.2.2.1
  -- the state of the class after it
  obtain ⟨T, hT⟩ : ∃ T, T = wI (wI (wI (wR (wR sC i (s.2.2 8)) 8 (s.2.2 i)) 13 (s.2.2 8) 0 1) 13 (s.2.2 8) 2 (nI v)) 0 0 8 1 := ⟨_, rfl⟩
  have T2 : ∀ x, T.2.2 x = if x = 8 then s.2.2 i else if x = i then s.2.2 8 else s.2.2 x := by
    intro x
    rw [hT]
    show (wR (wR sC i (s.2.2 8)) 8 (s.2.2 i)).2.2 x = _
    rw [wR_3, wR_3, e2C]
  have T21 : T.2.1 = s.2.1 := by
    rw [hT]
    show sC.2.1 = s.2.1
    rw [e2C]
  have T1 : ∀ x y z, T.1 x y z = if x = 0 ∧ y = 0 ∧ z = 8 then 1 else if x = 13 ∧ y = s.2.2 8 ∧ z = 2 then nI v else if x = 13 ∧ y = s.2.2 8 ∧ z = 0 then 1 else sC.1 x y z := by
    intro x y z
    rw [hT]
    rfl
  have eC : ev 70 0 [some (.inr (.inr (0, 0))), some (.inl (nI i)), some (.inl (nI q)), some (.inl (nI d)), some (.inl w), none] [] s = cI (ev 33 0 [some (.inr (.inr (13, s.2.2 8))), some (.inl (nI (nN s)))] [] T) (fun x1 s1 => some (some (.inl x1), s1)) := by
    rw [e44, q_70_at44, c_10_2, hasT_y hq hn g1, cI_s, ite_bI, if_pos rfl, r1, cI_s, if_pos rfl, if_pos hk, if_pos hk, if_pos hk, if_pos hk, cl_nI (by omega), c_118, cI_s, ite_bI, e2C]
    have hx : (wR (wR sC i (s.2.2 8)) 8 (s.2.2 i)).2.2 i = s.2.2 8 := by
      rw [wR_3, wR_3, if_neg (by omega), if_pos rfl]
    have hx2 : (wI (wR (wR sC i (s.2.2 8)) 8 (s.2.2 i)) 13 ((wR (wR sC i (s.2.2 8)) 8 (s.2.2 i)).2.2 i) 0 1).2.2 i = s.2.2 8 := hx
    rw [hx2, hx]
    have key : ∀ x : Int32, x = nI v → ev 70 140 [some (.inr (.inr (0, 0))), some (.inl (nI i)), none, none, none, none] [(.inl 1), (.inr (.inr (0, 0)))] (wI (wI (wR (wR sC i (s.2.2 8)) 8 (s.2.2 i)) 13 (s.2.2 8) 0 1) 13 (s.2.2 8) 2 x) = cI (ev 33 0 [some (.inr (.inr (13, s.2.2 8))), some (.inl (nI (nN s)))] [] T) (fun x1 s1 => some (some (.inl x1), s1)) := by
      intro x ex
      rw [q_70_at140, show isZ 1 = true from rfl, if_pos hk, cl_nI (by omega), ex]
      have y1 : (wI (wI (wI (wR (wR sC i (s.2.2 8)) 8 (s.2.2 i)) 13 (s.2.2 8) 0 1) 13 (s.2.2 8) 2 (nI v)) 0 0 8 1).2.2 i = s.2.2 8 := hx
      have y2 : (wI (wI (wI (wR (wR sC i (s.2.2 8)) 8 (s.2.2 i)) 13 (s.2.2 8) 0 1) 13 (s.2.2 8) 2 (nI v)) 0 0 8 1).1 0 0 7 = nI (nN s) := c07
      rw [y1, y2, ← hT]
      rfl
    cases hs : softB (nI d) with
    | false =>
      rw [hs] at hvw
      rw [if_neg (by decide)]
      exact key 0 hvw
    | true =>
      rw [hs] at hvw
      rw [if_pos rfl]
      exact key w hvw
  sorry
