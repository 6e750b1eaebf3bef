/-! what a law breaks, reference -/
theorem say_28 {s : SS} {j k kd np w f p x y : Nat} (h : Hd s j k kd np w f) (hp : p < np) (hx : x < 4) (hy : y < 4) : sayN s (6 * k + p) x y < 28 := by
  obtain ⟨d, so, on, tw, b1, b2, b3, b4, b5, b6, b7, b8, b9, b10, a1, a2, a3, a4⟩ := PJ_all (h.2.2.2.2.2.2.2.2.2.2.2.2.2.2 p hp)
  unfold sayN
  rw [a3]
  split <;> split <;> (try split) <;> omega
theorem c_196 {s : SS} (hS : JS s) (hb : BT s) {j k kd np w f p x y v : Nat} (hk : k < 8) (h : Hd s j k kd np w f) (hp : p < np) (hx : x < 4) (hy : y < 4) (hv : v < 2147483648) : ev 196 0 [some (.inr (.inr (30, 0))), some (.inl (nI (6 * k + p))), some (.inl (nI x)), some (.inl (nI y)), some (.inl (nI v)), none, none] [] s = some (some (.inl (bI (holB s (6 * k + p) x y v))), s) := by
  obtain ⟨d, so, on, tw, b1, b2, b3, b4, b5, b6, b7, b8, b9, b10, a1, a2, a3, a4⟩ := PJ_all (h.2.2.2.2.2.2.2.2.2.2.2.2.2.2 p hp)
  have h6 := h.2.2.1
  have x48 : ixB (nI (6 * k + p)) 48 = true := ixB_nI (by omega) (by decide)
  have h28 := say_28 h hp hx hy
  have key : ∀ a b : Nat, a = (if on = 0 then x else y) → b = (if tw = 0 then x else y) → ev 196 30 [some (.inr (.inr (30, 0))), some (.inl (nI (6 * k + p))), none, none, some (.inl (nI v)), some (.inl (nI a)), none] [(.inl (nI b))] s = some (some (.inl (bI (holB s (6 * k + p) x y v))), s) := by
    intro a b ea eb
    have es : (if so = 3 then 12 + 4 * a + b else 4 * so + a) = sayN s (6 * k + p) x y := by
      unfold sayN
      rw [a1, a2, a3, ← ea, ← eb]
    rw [q_196_at30, if_pos x48, cl_nI (by omega), b7, c_191n (by omega), cI_s, es, c_195 hS hb h28 hv, cI_s, if_pos x48, b6]
    unfold holB
    rw [a4]
    rcases (show d = 0 ∨ d = 1 by omega) with rfl | rfl <;> cases soB s (sayN s (6 * k + p) x y) v <;> rfl
  rw [q_196, if_pos x48, if_pos x48, if_pos x48, cl_nI (by omega), b8, b9]
  simp only [z_eq (n := on) (by omega), z_eq (n := tw) (by omega)]
  by_cases e1 : on = 0 <;> by_cases e2 : tw = 0
  · rw [if_pos e1, if_pos e2]
    exact key _ _ (by rw [if_pos e1]) (by rw [if_pos e2])
  · rw [if_pos e1, if_neg e2]
    exact key _ _ (by rw [if_pos e1]) (by rw [if_neg e2])
  · rw [if_neg e1, if_pos e2]
    exact key _ _ (by rw [if_neg e1]) (by rw [if_pos e2])
  · rw [if_neg e1, if_neg e2]
    exact key _ _ (by rw [if_neg e1]) (by rw [if_neg e2])
theorem nN_b {s : SS} (hS : JS s) : nN s ≤ 4 ∧ 1 ≤ nN s := ⟨hS.1.2.1, hS.1.1⟩
theorem nX_b {s : SS} (hS : JS s) (k : Nat) : nX s k ≤ 4 := by
  have := nN_b hS
  unfold nX
  split <;> omega
theorem nY_b {s : SS} (hS : JS s) (k : Nat) : nY s k ≤ 4 := by
  have := nN_b hS
  unfold nY
  split <;> omega
/-- any part that holds, with its early end -/
theorem r_174 {s : SS} (hS : JS s) (hb : BT s) {j k kd np w f x y v n : Nat} {l4 l5 : Int32} (hk : k < 8) (h : Hd s j k kd np w f) (hx : x < 4) (hy : y < 4) (hv : v < 2147483648) : ev 197 174 [some (.inr (.inr (30, 0))), some (.inl (nI k)), some (.inl (nI v)), some (.inl (nI n)), some (.inl l4), some (.inl l5), some (.inl (nI x)), some (.inl (nI y)), some (.inl 0), some (.inl (nI (6 * k)))] [] s = ev 197 214 [some (.inr (.inr (30, 0))), some (.inl (nI k)), some (.inl (nI v)), some (.inl (nI n)), some (.inl l4), some (.inl l5), some (.inl (nI x)), some (.inl (nI y)), some (.inl (bI (anyB (fun p => holB s (6 * k + p) x y v) np))), none] [] s := by
  have h6 := h.2.2.1
  have out1 : ∀ i, i ≤ np → ev 197 174 [some (.inr (.inr (30, 0))), some (.inl (nI k)), some (.inl (nI v)), some (.inl (nI n)), some (.inl l4), some (.inl l5), some (.inl (nI x)), some (.inl (nI y)), some (.inl 1), some (.inl (nI (6 * k + i)))] [] s = ev 197 214 [some (.inr (.inr (30, 0))), some (.inl (nI k)), some (.inl (nI v)), some (.inl (nI n)), some (.inl l4), some (.inl l5), some (.inl (nI x)), some (.inl (nI y)), some (.inl 1), none] [] s := by
    intro i hi
    rw [q_197_at174, if_pos (ixB_nI hk (by decide)), if_neg (show ¬ (1 : Int32) = 0 by decide), ite_self]
  have hl := lpE (P := fun i => ev 197 174 [some (.inr (.inr (30, 0))), some (.inl (nI k)), some (.inl (nI v)), some (.inl (nI n)), some (.inl l4), some (.inl l5), some (.inl (nI x)), some (.inl (nI y)), some (.inl 0), some (.inl (nI (6 * k + i)))] [] s) (c := fun p => holB s (6 * k + p) x y v) (out := fun _ => ev 197 214 [some (.inr (.inr (30, 0))), some (.inl (nI k)), some (.inl (nI v)), some (.inl (nI n)), some (.inl l4), some (.inl l5), some (.inl (nI x)), some (.inl (nI y)), some (.inl 1), none] [] s) np (fun i hi => by
    show ev 197 174 [some (.inr (.inr (30, 0))), some (.inl (nI k)), some (.inl (nI v)), some (.inl (nI n)), some (.inl l4), some (.inl l5), some (.inl (nI x)), some (.inl (nI y)), some (.inl 0), some (.inl (nI (6 * k + i)))] [] s = if holB s (6 * k + i) x y v = true then _ else _
    rw [q_197_at174, if_pos (ixB_nI hk (by decide)), cl_nI (by omega), h.2.2.2.2.2.2.2.2.1, n_mulL, n_add, if_pos (nI_lt (show 6 * k + i < 6 * k + np by omega) (show 6 * k + np < 2147483648 by omega)), if_pos rfl, c_196 hS hb hk h hi hx hy hv, cI_s, nI_s]
    cases holB s (6 * k + i) x y v with
    | true =>
      rw [if_pos rfl]
      exact out1 (i + 1) (by omega)
    | false =>
      rw [if_neg (by decide)]
      rfl)
  rcases hl with ⟨i, hi, hc, -, e⟩ | ⟨hc, e⟩
  · rw [anyB_t hi hc]
    exact e
  · rw [anyB_f hc]
    refine Eq.trans (show ev 197 174 [some (.inr (.inr (30, 0))), some (.inl (nI k)), some (.inl (nI v)), some (.inl (nI n)), some (.inl l4), some (.inl l5), some (.inl (nI x)), some (.inl (nI y)), some (.inl 0), some (.inl (nI (6 * k + 0)))] [] s = ev 197 174 [some (.inr (.inr (30, 0))), some (.inl (nI k)), some (.inl (nI v)), some (.inl (nI n)), some (.inl l4), some (.inl l5), some (.inl (nI x)), some (.inl (nI y)), some (.inl 0), some (.inl (nI (6 * k + np)))] [] s from e) ?_
    rw [q_197_at174, if_pos (ixB_nI hk (by decide)), cl_nI (by omega), h.2.2.2.2.2.2.2.2.1, n_mulL, n_add, if_neg (irr _)]
    rfl
theorem c_197 {s : SS} (hS : JS s) (hL : JL s) (hb : BT s) {k v : Nat} (hk : k < 8) (hv : v < 2147483648) : ev 197 0 [some (.inr (.inr (30, 0))), some (.inl (nI k)), some (.inl (nI v)), none, none, none, none, none, none, none] [] s = some (some (.inl (nI (brk s k v))), s) := by
  have hN := nN_b hS
  have x8 : ixB (nI k) 8 = true := ixB_nI hk (by decide)
  rw [q_197, if_pos x8, if_pos x8, cl_nI (by omega)]
  rcases LJ_h (hL.2.2 k hk) with ⟨g1, g2⟩ | ⟨g1, kd, np, w, f, h⟩
  · rw [g2, if_pos (by decide), if_pos (by decide)]
    unfold brk kdN
    rw [g2]
    rfl
  · have hd := h.1
    have h6 := h.2.2.1
    obtain ⟨e1, e2, e3, e4⟩ := Hd_n h
    rw [h.2.2.2.2.2.2.1]
    unfold brk
    rw [e1, e2, e4]
    have z3 : (nI kd < (3 : Int32)) = (kd < 3) := n_lt (a := kd) (b := 3) (by omega) (by decide)
    have z1 : (nI kd < (1 : Int32)) = (kd < 1) := n_lt (a := kd) (b := 1) (by omega) (by decide)
    simp only [z3, z1]
    by_cases k3 : kd < 3
    · rw [if_pos k3]
      by_cases k0 : kd = 0
      · rw [if_pos (show kd < 1 by omega), if_pos k0]
        rfl
      · rw [if_neg (show ¬ kd < 1 by omega), if_neg k0, if_neg (show ¬ 3 ≤ kd by omega), show (0 : Int32) = nI 0 from rfl, c_185 hk (by decide) h, cI_s, show nI 0 = (0 : Int32) from rfl, ite_bI, hS.1.2.2.2]
        have st : ∀ t : Int32, ev 197 124 [some (.inr (.inr (30, 0))), some (.inl (nI k)), some (.inl (nI v)), some (.inl 0), none, none, none, none, none, none] [(.inl t)] s = ev 197 148 [some (.inr (.inr (30, 0))), some (.inl (nI k)), some (.inl (nI v)), some (.inl 0), some (.inl t), some (.inl (nI (nY s k))), some (.inl 0), none, none, none] [] s := by
          intro t
          rw [q_197_at124, show (1 : Int32) = nI 1 from rfl, c_185 hk (by decide) h, cI_s, ite_bI, hS.1.2.2.2]
          unfold nY
          cases hasV s k 1 <;> rfl
        have st2 : (if hasV s k 0 = true then ev 197 124 [some (.inr (.inr (30, 0))), some (.inl (nI k)), some (.inl (nI v)), some (.inl 0), none, none, none, none, none, none] [(.inl (nI (nN s)))] s else ev 197 124 [some (.inr (.inr (30, 0))), some (.inl (nI k)), some (.inl (nI v)), some (.inl 0), none, none, none, none, none, none] [(.inl 1)] s) = ev 197 148 [some (.inr (.inr (30, 0))), some (.inl (nI k)), some (.inl (nI v)), some (.inl 0), some (.inl (nI (nX s k))), some (.inl (nI (nY s k))), some (.inl 0), none, none, none] [] s := by
          rw [st, st]
          unfold nX
          cases hasV s k 0 <;> rfl
        refine st2.trans ?_
        have hX := nX_b hS k
        have hY := nY_b hS k
        have inner : ∀ x n, x < nX s k → ev 197 158 [some (.inr (.inr (30, 0))), some (.inl (nI k)), some (.inl (nI v)), some (.inl (nI n)), some (.inl (nI (nX s k))), some (.inl (nI (nY s k))), some (.inl (nI x)), some (.inl 0), none, none] [] s = ev 197 148 [some (.inr (.inr (30, 0))), some (.inl (nI k)), some (.inl (nI v)), some (.inl (nI (n + sm (fun y => if anyB (fun p => holB s (6 * k + p) x y v) np = true then 0 else 1) (nY s k)))), some (.inl (nI (nX s k))), some (.inl (nI (nY s k))), some (.inl (nI (x + 1))), none, none, none] [] s := by
          intro x n hx
          have hl := lpN (P := fun y => ev 197 158 [some (.inr (.inr (30, 0))), some (.inl (nI k)), some (.inl (nI v)), some (.inl (nI (n + sm (fun y => if anyB (fun p => holB s (6 * k + p) x y v) np = true then 0 else 1) y))), some (.inl (nI (nX s k))), some (.inl (nI (nY s k))), some (.inl (nI x)), some (.inl (nI y)), none, none] [] s) (nY s k) (fun y hy => by
            show ev 197 158 [some (.inr (.inr (30, 0))), some (.inl (nI k)), some (.inl (nI v)), some (.inl (nI (n + sm (fun y => if anyB (fun p => holB s (6 * k + p) x y v) np = true then 0 else 1) y))), some (.inl (nI (nX s k))), some (.inl (nI (nY s k))), some (.inl (nI x)), some (.inl (nI y)), none, none] [] s = ev 197 158 [some (.inr (.inr (30, 0))), some (.inl (nI k)), some (.inl (nI v)), some (.inl (nI (n + (sm (fun y => if anyB (fun p => holB s (6 * k + p) x y v) np = true then 0 else 1) y + (if anyB (fun p => holB s (6 * k + p) x y v) np = true then 0 else 1))))), some (.inl (nI (nX s k))), some (.inl (nI (nY s k))), some (.inl (nI x)), some (.inl (nI (y + 1))), none, none] [] s
            rw [q_197_at158, if_pos (nI_lt hy (by omega)), n_mulL, r_174 hS hb hk h (by omega) (by omega) hv, q_197_at214, ite_bI, nI_s, nI_s, nI_z]
            cases anyB (fun p => holB s (6 * k + p) x y v) np <;> rfl)
          refine (show ev 197 158 [some (.inr (.inr (30, 0))), some (.inl (nI k)), some (.inl (nI v)), some (.inl (nI (n + 0))), some (.inl (nI (nX s k))), some (.inl (nI (nY s k))), some (.inl (nI x)), some (.inl (nI 0)), none, none] [] s = _ from hl).trans ?_
          rw [q_197_at158, if_neg (irr _), nI_s]
        have hl := lpN (P := fun x => ev 197 148 [some (.inr (.inr (30, 0))), some (.inl (nI k)), some (.inl (nI v)), some (.inl (nI (sm (fun x => sm (fun y => if anyB (fun p => holB s (6 * k + p) x y v) np = true then 0 else 1) (nY s k)) x))), some (.inl (nI (nX s k))), some (.inl (nI (nY s k))), some (.inl (nI x)), none, none, none] [] s) (nX s k) (fun x hx => by
          show ev 197 148 [some (.inr (.inr (30, 0))), some (.inl (nI k)), some (.inl (nI v)), some (.inl (nI (sm (fun x => sm (fun y => if anyB (fun p => holB s (6 * k + p) x y v) np = true then 0 else 1) (nY s k)) x))), some (.inl (nI (nX s k))), some (.inl (nI (nY s k))), some (.inl (nI x)), none, none, none] [] s = _
          rw [q_197_at148, if_pos (nI_lt hx (by omega)), inner x _ hx]
          rfl)
        refine (show ev 197 148 [some (.inr (.inr (30, 0))), some (.inl (nI k)), some (.inl (nI v)), some (.inl (nI 0)), some (.inl (nI (nX s k))), some (.inl (nI (nY s k))), some (.inl (nI 0)), none, none, none] [] s = _ from hl).trans ?_
        rw [q_197_at148, if_neg (irr _)]
    · rw [if_neg k3, if_neg (show ¬ kd = 0 by omega), if_pos (show 3 ≤ kd by omega)]
      have hl := lpN (P := fun i => ev 197 15 [some (.inr (.inr (30, 0))), some (.inl (nI k)), some (.inl (nI v)), some (.inl (nI (cn (fun x => holB s (6 * k) x x v) i))), some (.inl (nI i)), none, none, none, none, none] [] s) (nN s) (fun i hi => by
        show ev 197 15 [some (.inr (.inr (30, 0))), some (.inl (nI k)), some (.inl (nI v)), some (.inl (nI (cn (fun x => holB s (6 * k) x x v) i))), some (.inl (nI i)), none, none, none, none, none] [] s = ev 197 15 [some (.inr (.inr (30, 0))), some (.inl (nI k)), some (.inl (nI v)), some (.inl (nI (cn (fun x => holB s (6 * k) x x v) i + (if holB s (6 * k) i i v = true then 1 else 0)))), some (.inl (nI (i + 1))), none, none, none, none, none] [] s
        have hh : ev 196 0 [some (.inr (.inr (30, 0))), some (.inl (nI (6 * k))), some (.inl (nI i)), some (.inl (nI i)), some (.inl (nI v)), none, none] [] s = some (some (.inl (bI (holB s (6 * k) i i v))), s) := c_196 hS hb hk h (show 0 < np from h.2.1) (by omega) (by omega) hv
        rw [q_197_at15, hS.1.2.2.2, if_pos (nI_lt hi (by omega)), n_mulL, hh, cI_s, ite_bI, nI_s, nI_s, nI_z]
        cases holB s (6 * k) i i v <;> rfl)
      refine (show ev 197 15 [some (.inr (.inr (30, 0))), some (.inl (nI k)), some (.inl (nI v)), some (.inl (nI 0)), some (.inl (nI 0)), none, none, none, none, none] [] s = _ from hl).trans ?_
      have hc := cn_le (fun x => holB s (6 * k) x x v) (nN s)
      have y1 : (nI kd = (3 : Int32)) = (kd = 3) := n_eq (a := kd) (b := 3) (by omega) (by decide)
      have y2 : (nI (cn (fun x => holB s (6 * k) x x v) (nN s)) < nI f) = (cn (fun x => holB s (6 * k) x x v) (nN s) < f) := n_lt (by omega) (by have := h.2.2.2.2.1; omega)
      have y3 : (nI (cn (fun x => holB s (6 * k) x x v) (nN s)) = (1 : Int32)) = (cn (fun x => holB s (6 * k) x x v) (nN s) = 1) := n_eq (b := 1) (by omega) (by decide)
      rw [q_197_at15, hS.1.2.2.2, if_neg (irr _), if_pos x8, if_pos x8, cl_nI (by omega), h.2.2.2.2.2.2.1, h.2.2.2.2.2.2.2.2.2.2.2.2.1]
      simp only [y1, y2, y3]
      by_cases q1 : kd = 3
      · rw [if_pos q1, if_pos q1]
        by_cases q2 : cn (fun x => holB s (6 * k) x x v) (nN s) < f
        · rw [if_pos q2, if_pos q2]; rfl
        · rw [if_neg q2, if_neg q2]; rfl
      · rw [if_neg q1, if_neg q1]
        by_cases q2 : cn (fun x => holB s (6 * k) x x v) (nN s) = 1
        · rw [if_pos q2, if_pos q2]; rfl
        · rw [if_neg q2, if_neg q2]; rfl
