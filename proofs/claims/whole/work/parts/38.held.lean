/-! held -/
theorem md2 : ∀ n, n < 41 → nI n - nI n / 2 * 2 = nI (n % 2) := by decide
theorem ne2 : ¬ (2 : Int32) = 0 := by decide
def bdB (f : Nat → Int32) (i : Nat) : Bool := decide (f i < 0) || decide ((if i % 2 = 0 then (10 : Int32) else 1) < f i)
theorem any2 (p : Nat → Bool) : ∀ m, anyB p (2 * m) = anyB (fun i => p (2 * i) || p (2 * i + 1)) m
  | 0 => rfl
  | m + 1 => by
    show anyB p (2 * m + 1 + 1) = (anyB (fun i => p (2 * i) || p (2 * i + 1)) m || (p (2 * m) || p (2 * m + 1)))
    rw [← any2 p m]
    show ((anyB p (2 * m) || p (2 * m)) || p (2 * m + 1)) = _
    rw [Bool.or_assoc]
theorem c_140 {s : SS} {j n : Nat} (hj : j < 6) (hn : n ≤ 40) (h : s.1 5 0 j = nI n) : ev 140 0 [some (.inr (.inr (0, 0))), some (.inl (nI j)), none, none] [] s = if n % 2 = 0 then (if anyB (bdB (s.1 7 j)) n = true then some (some (.inl 3), s) else some (some (.inl 0), s)) else some (some (.inl 5), s) := by
  have sz : ev 11 0 [some (.inr (.inr (1, 0))), some (.inl (nI j))] [] s = some (some (.inl (nI n)), s) := by
    rw [c_11_1, hasR_y hj hn h, if_pos rfl, cl_nI (by omega), h]
  rw [q_140, c_10_1, hasR_y hj hn h, cI_s, ite_bI, if_pos rfl, sz, cI_s, if_neg ne2, md2 n (by omega)]
  have z2 : (nI (n % 2) = 0) = (n % 2 = 0) := z_eq (by omega)
  simp only [z2]
  by_cases e : n % 2 = 0
  · rw [if_pos e, if_pos e]
    have hl := lpE (P := fun i => ev 140 30 [some (.inr (.inr (0, 0))), some (.inl (nI j)), some (.inl (nI i)), none] [] s) (c := bdB (s.1 7 j)) (out := fun _ => some (some (.inl 3), s)) n (fun i hi => by
      show ev 140 30 [some (.inr (.inr (0, 0))), some (.inl (nI j)), some (.inl (nI i)), none] [] s = _
      have step : ∀ t : Int32, ev 140 54 [some (.inr (.inr (0, 0))), some (.inl (nI j)), some (.inl (nI i)), none] [(.inl t)] s = if s.1 7 j i < 0 then some (some (.inl 3), s) else if t < s.1 7 j i then some (some (.inl 3), s) else ev 140 30 [some (.inr (.inr (0, 0))), some (.inl (nI j)), some (.inl (nI (i + 1))), none] [] s := by
        intro t
        rw [q_140_at54, plR_y hj hn h hi, cI_s, plR_y hj hn h hi, cI_s, nI_s]
      rw [q_140_at30, sz, cI_s, if_pos (nI_lt hi (by omega)), if_neg ne2, md2 i (by omega), step, step]
      have z3 : (nI (i % 2) = 0) = (i % 2 = 0) := z_eq (by omega)
      simp only [z3]
      unfold bdB
      by_cases a0 : i % 2 = 0
      · by_cases a1 : s.1 7 j i < 0 <;> by_cases a2 : 10 < s.1 7 j i <;> simp [a0, a1, a2]
      · by_cases a1 : s.1 7 j i < 0 <;> by_cases a2 : 1 < s.1 7 j i <;> simp [a0, a1, a2])
    rcases hl with ⟨i, hi, hc, -, e⟩ | ⟨hc, e⟩
    · rw [anyB_t hi hc, if_pos rfl]
      exact e
    · rw [anyB_f hc, if_neg (by decide)]
      refine Eq.trans (show ev 140 30 [some (.inr (.inr (0, 0))), some (.inl (nI j)), some (.inl (nI 0)), none] [] s = ev 140 30 [some (.inr (.inr (0, 0))), some (.inl (nI j)), some (.inl (nI n)), none] [] s from e) ?_
      rw [q_140_at30, sz, cI_s, if_neg (irr _)]
  · rw [if_neg e, if_neg e]
def alN (f : Nat → Int32) (v : Int32) (m : Nat) : Nat := cn (fun p => decide (f (2 * p) = v)) m
def heN (f : Nat → Int32) (v : Int32) (m : Nat) : Nat := cn (fun p => decide (f (2 * p) = v) && decide (f (2 * p + 1) = 1)) m
theorem one_of {f : Nat → Int32} {p : Nat} (h : bdB f (2 * p + 1) = false) : f (2 * p + 1) = 0 ∨ f (2 * p + 1) = 1 := by
  unfold bdB at h
  rw [if_neg (by omega)] at h
  simp only [Bool.or_eq_false_iff, decide_eq_false_iff_not] at h
  obtain ⟨h1, h2⟩ := h
  rw [lt_iff] at h1 h2
  rw [eq_iff, eq_iff]
  have t0 : (0 : Int32).toInt = 0 := rfl
  have t1 : (1 : Int32).toInt = 1 := rfl
  omega
theorem c_92 {s : SS} {j m : Nat} {v : Int32} (hj : j < 6) (hm : 2 * m ≤ 40) (h : s.1 5 0 j = nI (2 * m)) (hb : anyB (bdB (s.1 7 j)) (2 * m) = false) : ev 92 48 [some (.inr (.inr (0, 0))), some (.inl (nI j)), some (.inl v), none, some (.inl 0), some (.inl 0), some (.inl 0)] [] s = some (some (.inl (nI (heN (s.1 7 j) v m))), wI s 0 0 9 (nI (alN (s.1 7 j) v m))) := by
  have sz : ev 11 0 [some (.inr (.inr (1, 0))), some (.inl (nI j))] [] s = some (some (.inl (nI (2 * m))), s) := by
    rw [c_11_1, hasR_y hj hm h, if_pos rfl, cl_nI (by omega), h]
  have hl := lpN (P := fun p => ev 92 48 [some (.inr (.inr (0, 0))), some (.inl (nI j)), some (.inl v), none, some (.inl (nI (heN (s.1 7 j) v p))), some (.inl (nI (alN (s.1 7 j) v p))), some (.inl (nI (2 * p)))] [] s) m (fun p hp => by
    show ev 92 48 [some (.inr (.inr (0, 0))), some (.inl (nI j)), some (.inl v), none, some (.inl (nI (heN (s.1 7 j) v p))), some (.inl (nI (alN (s.1 7 j) v p))), some (.inl (nI (2 * p)))] [] s = ev 92 48 [some (.inr (.inr (0, 0))), some (.inl (nI j)), some (.inl v), none, some (.inl (nI (heN (s.1 7 j) v p + (if (decide (s.1 7 j (2 * p) = v) && decide (s.1 7 j (2 * p + 1) = 1)) = true then 1 else 0)))), some (.inl (nI (alN (s.1 7 j) v p + (if decide (s.1 7 j (2 * p) = v) = true then 1 else 0)))), some (.inl (nI (2 * p + 2)))] [] s
    have hb2 : bdB (s.1 7 j) (2 * p + 1) = false := by
      cases hx : bdB (s.1 7 j) (2 * p + 1) with
      | false => rfl
      | true =>
        have := anyB_t (n := 2 * m) (show 2 * p + 1 < 2 * m by omega) hx
        rw [hb] at this
        exact absurd this (by decide)
    rw [q_92_at48, sz, cI_s, nI_s, if_pos (nI_lt (show 2 * p + 1 < 2 * m by omega) (by omega)), plR_y hj hm h (by omega), cI_s, plR_y hj hm h (by omega), cI_s, nI_s, show nI (2 * p) + 2 = nI (2 * p + 2) from nI_add (2 * p) 2]
    by_cases a1 : s.1 7 j (2 * p) = v
    · rw [if_pos a1]
      rcases one_of hb2 with g | g
      · rw [g, nI_z]
        simp [a1]
      · rw [g, nI_s]
        simp [a1]
    · rw [if_neg a1]
      simp [a1])
  refine (show ev 92 48 [some (.inr (.inr (0, 0))), some (.inl (nI j)), some (.inl v), none, some (.inl (nI 0)), some (.inl (nI 0)), some (.inl (nI 0))] [] s = _ from hl).trans ?_
  rw [q_92_at48, sz, cI_s, nI_s, if_neg (show ¬ nI (2 * m + 1) < nI (2 * m) from by rw [n_lt (by omega) (by omega)]; omega)]
theorem c_227 {s : SS} {j m : Nat} {v : Int32} (hj : j < 6) (hm : 2 * m ≤ 40) (h : s.1 32 0 j = nI (2 * m)) : ev 227 53 [some (.inr (.inr (30, 0))), some (.inl (nI j)), some (.inl v), none, some (.inl 0), some (.inl 0), some (.inl 1), some (.inl 0)] [] s = if anyB (bdB (fun i => s.1 33 0 (40 * j + i))) (2 * m) = true then some (some (.inl (-3)), fR s 3) else some (some (.inl (nI (heN (fun i => s.1 33 0 (40 * j + i)) v m))), wI s 30 0 2 (nI (alN (fun i => s.1 33 0 (40 * j + i)) v m))) := by
  rw [any2]
  have hl := lpN (P := fun p => ev 227 53 [some (.inr (.inr (30, 0))), some (.inl (nI j)), some (.inl v), none, some (.inl (nI (alN (fun i => s.1 33 0 (40 * j + i)) v p))), some (.inl (nI (heN (fun i => s.1 33 0 (40 * j + i)) v p))), some (.inl (bI (!(anyB (fun i => bdB (fun i => s.1 33 0 (40 * j + i)) (2 * i) || bdB (fun i => s.1 33 0 (40 * j + i)) (2 * i + 1)) p)))), some (.inl (nI (2 * p)))] [] s) m (fun p hp => by
    show ev 227 53 [some (.inr (.inr (30, 0))), some (.inl (nI j)), some (.inl v), none, some (.inl (nI (alN (fun i => s.1 33 0 (40 * j + i)) v p))), some (.inl (nI (heN (fun i => s.1 33 0 (40 * j + i)) v p))), some (.inl (bI (!(anyB (fun i => bdB (fun i => s.1 33 0 (40 * j + i)) (2 * i) || bdB (fun i => s.1 33 0 (40 * j + i)) (2 * i + 1)) p)))), some (.inl (nI (2 * p)))] [] s = ev 227 53 [some (.inr (.inr (30, 0))), some (.inl (nI j)), some (.inl v), none, some (.inl (nI (alN (fun i => s.1 33 0 (40 * j + i)) v p + (if decide (s.1 33 0 (40 * j + 2 * p) = v) = true then 1 else 0)))), some (.inl (nI (heN (fun i => s.1 33 0 (40 * j + i)) v p + (if (decide (s.1 33 0 (40 * j + 2 * p) = v) && decide (s.1 33 0 (40 * j + (2 * p + 1)) = 1)) = true then 1 else 0)))), some (.inl (bI (!(anyB (fun i => bdB (fun i => s.1 33 0 (40 * j + i)) (2 * i) || bdB (fun i => s.1 33 0 (40 * j + i)) (2 * i + 1)) p || (bdB (fun i => s.1 33 0 (40 * j + i)) (2 * p) || bdB (fun i => s.1 33 0 (40 * j + i)) (2 * p + 1)))))), some (.inl (nI (2 * p + 2)))] [] s
    have r0 : ev 154 0 [some (.inr (.inr (30, 0))), some (.inl (nI j)), some (.inl (nI (2 * p)))] [] s = some (some (.inl (s.1 33 0 (40 * j + 2 * p))), s) := c_154 hj (by omega) s
    have r1 : ev 154 0 [some (.inr (.inr (30, 0))), some (.inl (nI j)), some (.inl (nI (2 * p + 1)))] [] s = some (some (.inl (s.1 33 0 (40 * j + (2 * p + 1)))), s) := c_154 hj (by omega) s
    have e2 : nI (2 * p) + 2 = nI (2 * p + 2) := nI_add (2 * p) 2
    have b107 : ∀ (x y : Nat) (t : Int32), ev 227 107 [some (.inr (.inr (30, 0))), some (.inl (nI j)), some (.inl v), none, some (.inl (nI x)), some (.inl (nI y)), none, some (.inl (nI (2 * p)))] [(.inl t)] s = ev 227 53 [some (.inr (.inr (30, 0))), some (.inl (nI j)), some (.inl v), none, some (.inl (nI (x + (if decide (s.1 33 0 (40 * j + 2 * p) = v) = true then 1 else 0)))), some (.inl (nI (y + (if (decide (s.1 33 0 (40 * j + 2 * p) = v) && decide (s.1 33 0 (40 * j + (2 * p + 1)) = 1)) = true then 1 else 0)))), some (.inl t), some (.inl (nI (2 * p + 2)))] [] s := by
      intro x y t
      rw [q_227_at107, r0, cI_s, q_227_at127, r0, cI_s, nI_s (2 * p), r1, cI_s, e2, nI_s, nI_z, nI_s]
      rw [q_227_at127, r0, cI_s, nI_s (2 * p), r1, cI_s, e2, nI_s, nI_z, nI_z]
      by_cases a1 : s.1 33 0 (40 * j + 2 * p) = v <;> by_cases a2 : s.1 33 0 (40 * j + (2 * p + 1)) = 1 <;> simp [a1, a2]
    have bd0 : bdB (fun i => s.1 33 0 (40 * j + i)) (2 * p) = !(!(decide (s.1 33 0 (40 * j + 2 * p) < 0)) && !(decide (10 < s.1 33 0 (40 * j + 2 * p)))) := by
      unfold bdB
      rw [if_pos (by omega)]
      simp
    have bd1 : bdB (fun i => s.1 33 0 (40 * j + i)) (2 * p + 1) = !(!(decide (s.1 33 0 (40 * j + (2 * p + 1)) < 0)) && !(decide (1 < s.1 33 0 (40 * j + (2 * p + 1))))) := by
      unfold bdB
      rw [if_neg (by omega)]
      simp
    rw [q_227_at53, if_pos (ixB_nI hj (by decide)), cl_nI (by omega), h, if_pos (nI_lt (show 2 * p < 2 * m by omega) (by omega)), r0, cI_s, c_144, cI_s, nI_s (2 * p), r1, cI_s, c_144, cI_s, ite_bI, ite_bI, ite_bI, b107, b107, bd0, bd1]
    cases anyB (fun i => bdB (fun i => s.1 33 0 (40 * j + i)) (2 * i) || bdB (fun i => s.1 33 0 (40 * j + i)) (2 * i + 1)) p with
    | true => rfl
    | false =>
      rw [if_pos (show (!false) = true from rfl)]
      cases (!(decide (s.1 33 0 (40 * j + 2 * p) < 0)) && !(decide (10 < s.1 33 0 (40 * j + 2 * p)))) with
      | false => rfl
      | true => cases (!(decide (s.1 33 0 (40 * j + (2 * p + 1)) < 0)) && !(decide (1 < s.1 33 0 (40 * j + (2 * p + 1))))) <;> rfl)
  refine (show ev 227 53 [some (.inr (.inr (30, 0))), some (.inl (nI j)), some (.inl v), none, some (.inl (nI 0)), some (.inl (nI 0)), some (.inl (bI true)), some (.inl (nI 0))] [] s = _ from hl).trans ?_
  rw [q_227_at53, if_pos (ixB_nI hj (by decide)), cl_nI (by omega), h, if_neg (irr _), ite_bI, c_145_3, cI_s, c_146, cI_s]
  cases anyB (fun i => bdB (fun i => s.1 33 0 (40 * j + i)) (2 * i) || bdB (fun i => s.1 33 0 (40 * j + i)) (2 * i + 1)) m <;> rfl
theorem pub_held {s : SS} (h : J s) (r v : Int32) : PI 92 227 [some (.inr (.inr (0, 0))), some (.inl r), some (.inl v), none, none, none, none] [some (.inr (.inr (30, 0))), some (.inl r), some (.inl v), none, none, none, none, none] s := by
  have hin : ∀ t : SS, ev 144 0 [some (.inl v), some (.inl 0), some (.inl 10)] [] t = some (some (.inl (bI (ixB v 11))), t) := fun t => by
    rw [c_144, show (10 : Int32) = nI 10 from rfl, in_ix v 10 (by decide)]
  by_cases hr : ixB r 6 = true
  case neg =>
    refine PI_0 h (-1) ?_ ?_
    · rw [q_92, c_9_1, ix_no hr, cI_s, ite_bI, if_neg (by decide)]
    · rw [q_227, hin, cI_s, ite_bI, ar_b (ix_no hr), cI_s, if_pos (show (-1 : Int32) < 0 by decide), ite_self]
  by_cases hv : ixB v 11 = true
  case neg =>
    refine PI_0 h (-1) ?_ ?_
    · rw [q_92, c_9_1, hr, cI_s, ite_bI, if_pos rfl]
      exact (in_ix2 v 10 (by decide) _ _).trans (by rw [if_neg hv])
    · rw [q_227, hin, ix_no hv, cI_s, ite_bI, if_neg (by decide)]
  obtain ⟨j, hj, rfl⟩ := (ixB_iff (by decide)).mp hr
  have e1 : ev 92 0 [some (.inr (.inr (0, 0))), some (.inl (nI j)), some (.inl v), none, none, none, none] [] s = cI (ev 140 0 [some (.inr (.inr (0, 0))), some (.inl (nI j)), none, none] [] s) (fun x2 s2 => if x2 = 0 then ev 92 48 [some (.inr (.inr (0, 0))), some (.inl (nI j)), some (.inl v), none, some (.inl 0), some (.inl 0), some (.inl 0)] [] s2 else cI (ev 100 0 [some (.inr (.inr (0, 0))), some (.inl x2)] [] s2) (fun x3 s3 => some (some (.inl x3), s3))) := by
    rw [q_92, c_9_1, hr, cI_s, ite_bI, if_pos rfl]
    exact (in_ix2 v 10 (by decide) _ _).trans (by rw [if_pos hv])
  rcases h.1.1 j hj with ⟨g1, g2⟩ | ⟨n, hn, g1, g2⟩
  · refine PI_f h (f := 1) (by decide) ?_ (fun t ha _ => ?_)
    · rw [e1, q_140, c_10_1, hasR_n hj g1, cI_s, ite_bI, if_neg (by decide), cI_s, if_neg (by decide), c_100_1, cI_s]
    · rw [q_227, hin, hv, cI_s, ite_bI, if_pos rfl, ar_m hj (by rw [(ha.1 32 (by decide)).1]; exact g2), cI_s, if_pos (by decide)]
  have eR : ∀ t : SS, t.1 32 0 j = nI n → ev 227 0 [some (.inr (.inr (30, 0))), some (.inl (nI j)), some (.inl v), none, none, none, none, none] [] t = if n % 2 = 0 then ev 227 53 [some (.inr (.inr (30, 0))), some (.inl (nI j)), some (.inl v), none, some (.inl 0), some (.inl 0), some (.inl 1), some (.inl 0)] [] t else some (some (.inl (-3)), fR t 5) := by
    intro t ht
    rw [q_227, hin, hv, cI_s, ite_bI, if_pos rfl, ar_y hj hn ht, cI_s, if_neg (by decide), if_pos hr, if_neg ne2, cl_nI (by omega), ht, md2 n (by omega), c_145_5, cI_s]
    have z2 : (nI (n % 2) = 0) = (n % 2 = 0) := z_eq (by omega)
    simp only [z2]
  rw [c_140 hj hn g1] at e1
  by_cases en : n % 2 = 0
  case neg =>
    refine PI_f h (f := 5) (by decide) ?_ (fun t ha _ => ?_)
    · rw [e1, if_neg en, cI_s, if_neg (by decide), c_100_5, cI_s]
    · rw [eR t (by rw [(ha.1 32 (by decide)).1]; exact g2), if_neg en]
  rw [if_pos en] at e1
  obtain ⟨m, rfl⟩ : ∃ m, n = 2 * m := ⟨n / 2, by omega⟩
  have ef : ∀ i, i < 2 * m → s.1 7 j i = s.1 33 0 (40 * j + i) := fun i hi => h.1.2 j i hj (by omega)
  have eb : anyB (bdB (s.1 7 j)) (2 * m) = anyB (bdB (fun i => s.1 33 0 (40 * j + i))) (2 * m) := anyB_cg (fun i hi => by unfold bdB; rw [ef i hi])
  cases hb : anyB (bdB (fun i => s.1 33 0 (40 * j + i))) (2 * m) with
  | true =>
    rw [eb, hb, if_pos rfl, cI_s, if_neg (by decide), c_100_3, cI_s] at e1
    refine ⟨-3, _, _, e1, ?_, J_f h (show 3 < 6 by decide), fun _ _ => rfl, fun _ _ => rfl⟩
    rw [eR (fC s 3) g2, if_pos en, c_227 (s := fC s 3) hj hn g2, show (fun i => (fC s 3).1 33 0 (40 * j + i)) = fun i => s.1 33 0 (40 * j + i) from rfl, hb, if_pos rfl]
  | false =>
    have ea : alN (s.1 7 j) v m = alN (fun i => s.1 33 0 (40 * j + i)) v m := cn_cg m (fun p hp => by rw [ef (2 * p) (by omega)])
    have eh : heN (s.1 7 j) v m = heN (fun i => s.1 33 0 (40 * j + i)) v m := cn_cg m (fun p hp => by rw [ef (2 * p) (by omega), ef (2 * p + 1) (by omega)])
    rw [eb, hb, if_neg (by decide), cI_s, if_pos rfl, c_92 hj hn g1 (by rw [eb, hb]), ea, eh] at e1
    refine PI_ask h _ _ e1 ?_
    rw [eR _ (show (wI s 0 0 9 _).1 32 0 j = _ from g2), if_pos en, c_227 (s := wI s 0 0 9 _) hj hn g2, show (fun i => (wI s 0 0 9 (nI (alN (fun i => s.1 33 0 (40 * j + i)) v m))).1 33 0 (40 * j + i)) = fun i => s.1 33 0 (40 * j + i) from rfl, hb, if_neg (by decide)]
