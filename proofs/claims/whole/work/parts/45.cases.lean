/-! the cases of a law, class -/
def swC (s : SS) (k x y : Nat) (dn : Bool) (b p : Nat) : Bool := (ptN s (6 * k + p) == dn) && (sayN s (6 * k + p) x y == b)
theorem c_37 {s : SS} {j k kd np w f x y : Nat} (h : Hd s j k kd np w f) (hx : x < 4) (hy : y < 4) (dn : Bool) : ∃ m, ev 37 0 [some (.inr (.inr (13, j))), some (.inl (bI dn)), some (.inl (nI x)), some (.inl (nI y)), none, none] [] s = some (some (.inl m), s) ∧ ∀ b, b < 32 → tb m b = anyB (swC s k x y dn b) np := by
  have h6 := h.2.2.1
  have hl := lpF (fun i (m : Int32) => ev 37 6 [some (.inr (.inr (13, j))), some (.inl (bI dn)), some (.inl (nI x)), some (.inl (nI y)), some (.inl m), some (.inl (nI i))] [] s) (fun p m => if ptN s (6 * k + p) = dn then m ||| nI (2 ^ sayN s (6 * k + p) x y) else m) (fun i m => ∀ b, b < 32 → tb m b = anyB (swC s k x y dn b) i) np (fun i m hi hm => by
    obtain ⟨d, so, on, tw, b1, b2, b3, b4, b5, b6, b7, b8, b9, b10, a1, a2, a3, a4⟩ := PJ_all (h.2.2.2.2.2.2.2.2.2.2.2.2.2.2 i hi)
    have h28 := say_28 h hi hx hy
    have ec : (nI d = bI dn) = (ptN s (6 * k + i) = dn) := by
      rw [a4]
      rcases (show d = 0 ∨ d = 1 by omega) with rfl | rfl <;> cases dn <;> decide
    constructor
    · show ev 37 6 [some (.inr (.inr (13, j))), some (.inl (bI dn)), some (.inl (nI x)), some (.inl (nI y)), some (.inl m), some (.inl (nI i))] [] s = ev 37 6 [some (.inr (.inr (13, j))), some (.inl (bI dn)), some (.inl (nI x)), some (.inl (nI y)), some (.inl ((if ptN s (6 * k + i) = dn then m ||| nI (2 ^ sayN s (6 * k + i) x y) else m))), some (.inl (nI (i + 1)))] [] s
      rw [q_37_at6, h.2.2.2.2.2.2.2.1, if_pos (nI_lt hi (by omega)), if_pos (ixB_nI (by omega) (by decide)), cl_nI (by omega), b5, c_36 h hi x y, cI_s, nI_s, shl1 _ (by omega)]
      simp only [ec]
      by_cases e : ptN s (6 * k + i) = dn
      · rw [if_pos e, if_pos e]
      · rw [if_neg e, if_neg e]
    · intro b hb
      show _ = (anyB (swC s k x y dn b) i || swC s k x y dn b i)
      by_cases e : ptN s (6 * k + i) = dn
      · simp only [if_pos e]
        rw [tb_or, hm b hb, tb_2 hb]
        congr 1
        unfold swC
        rw [e]
        by_cases z : sayN s (6 * k + i) x y = b <;> simp [z]
      · simp only [if_neg e]
        rw [hm b hb]
        have : swC s k x y dn b i = false := by
          unfold swC
          rw [beq_false_of_ne e, Bool.false_and]
        rw [this, Bool.or_false]) 0 (fun b hb => tb_0 b)
  obtain ⟨p1, p2⟩ := hl
  refine ⟨_, ?_, p2⟩
  rw [q_37]
  refine (show ev 37 6 [some (.inr (.inr (13, j))), some (.inl (bI dn)), some (.inl (nI x)), some (.inl (nI y)), some (.inl 0), some (.inl (nI 0))] [] s = _ from p1).trans ?_
  rw [q_37_at6, h.2.2.2.2.2.2.2.1, if_neg (irr _)]
theorem c_38 {s : SS} (hS : JS s) {j k kd np w f v T : Nat} (h : Hd s j k kd np w f) (h3 : 3 ≤ kd) (hT : T < 2147483648) (ht : ∀ b, b < 28 → T.testBit b = soB s b v) : ev 38 0 [some (.inr (.inr (13, j))), some (.inl (nI T)), some (.inl (nI (nN s))), none, none, none] [] s = some (some (.inl (nI (brk s k v))), s) := by
  have hN := nN_b hS
  have hd := h.1
  have hnp := h.2.1
  obtain ⟨d, so, on, tw, b1, b2, b3, b4, b5, b6, b7, b8, b9, b10, a1, a2, a3, a4⟩ := PJ_all (h.2.2.2.2.2.2.2.2.2.2.2.2.2.2 0 hnp)
  rw [q_38]
  have hl := lpN (P := fun i => ev 38 5 [some (.inr (.inr (13, j))), some (.inl (nI T)), some (.inl (nI (nN s))), some (.inl (nI (cn (fun x => holB s (6 * k) x x v) i))), some (.inl (nI i)), none] [] s) (nN s) (fun i hi => by
    show ev 38 5 [some (.inr (.inr (13, j))), some (.inl (nI T)), some (.inl (nI (nN s))), some (.inl (nI (cn (fun x => holB s (6 * k) x x v) i))), some (.inl (nI i)), none] [] s = ev 38 5 [some (.inr (.inr (13, j))), some (.inl (nI T)), some (.inl (nI (nN s))), some (.inl (nI (cn (fun x => holB s (6 * k) x x v) i + (if holB s (6 * k) i i v = true then 1 else 0)))), some (.inl (nI (i + 1))), none] [] s
    have h28 := say_28 h hnp (show i < 4 by omega) (show i < 4 by omega)
    have es : ev 36 0 [some (.inr (.inr (13, j))), some (.inl 0), some (.inl (nI i)), some (.inl (nI i)), none] [] s = some (some (.inl (nI (sayN s (6 * k + 0) i i))), s) := c_36 h hnp i i
    have st : ∀ t : Bool, ev 38 32 [some (.inr (.inr (13, j))), some (.inl (nI T)), some (.inl (nI (nN s))), some (.inl (nI (cn (fun x => holB s (6 * k) x x v) i))), some (.inl (nI i)), none] [(.inl (bI t))] s = ev 38 5 [some (.inr (.inr (13, j))), some (.inl (nI T)), some (.inl (nI (nN s))), some (.inl (nI (cn (fun x => holB s (6 * k) x x v) i + (if (t != !(d == 0)) = true then 1 else 0)))), some (.inl (nI (i + 1))), none] [] s := by
      intro t
      rw [q_38_at32, if_pos (show ixB (0 : Int32) 6 = true by decide), cl0, b5, nI_s, nI_s]
      rcases (show d = 0 ∨ d = 1 by omega) with rfl | rfl <;> cases t <;> rfl
    rw [q_38_at5, if_pos (nI_lt hi (by omega)), es, cI_s]
    simp only [bit_0 hT (show sayN s (6 * k + 0) i i < 32 by omega)]
    rw [ht _ h28]
    have hh : holB s (6 * k) i i v = (soB s (sayN s (6 * k + 0) i i) v != !(d == 0)) := by
      unfold holB
      rw [show ptN s (6 * k) = !(d == 0) from a4]
      rfl
    rw [hh]
    cases hc : soB s (sayN s (6 * k + 0) i i) v with
    | true =>
      rw [if_neg (by decide)]
      exact st true
    | false =>
      rw [if_pos rfl]
      exact st false)
  refine (show ev 38 5 [some (.inr (.inr (13, j))), some (.inl (nI T)), some (.inl (nI (nN s))), some (.inl (nI 0)), some (.inl (nI 0)), none] [] s = _ from hl).trans ?_
  have hc := cn_le (fun x => holB s (6 * k) x x v) (nN s)
  obtain ⟨e1, e2, e3, e4⟩ := Hd_n h
  have y1 : (nI kd = (3 : Int32)) = (kd = 3) := n_eq (a := kd) (b := 3) (by omega) (by decide)
  have y2 : (nI (cn (fun x => holB s (6 * k) x x v) (nN s)) < nI f) = (cn (fun x => holB s (6 * k) x x v) (nN s) < f) := n_lt (by omega) (by have := h.2.2.2.2.1; omega)
  have y3 : (nI (cn (fun x => holB s (6 * k) x x v) (nN s)) = (1 : Int32)) = (cn (fun x => holB s (6 * k) x x v) (nN s) = 1) := n_eq (b := 1) (by omega) (by decide)
  rw [q_38_at5, if_neg (irr _), h.2.2.2.2.2.1, h.2.2.2.2.2.2.2.2.2.2.2.1]
  simp only [y1, y2, y3]
  unfold brk
  rw [e1, e4, if_neg (show ¬ kd = 0 by omega), if_pos h3]
  by_cases q1 : kd = 3
  · rw [if_pos q1, if_pos q1]
    by_cases q2 : cn (fun x => holB s (6 * k) x x v) (nN s) < f
    · rw [if_pos q2, if_pos q2]; rfl
    · rw [if_neg q2, if_neg q2]; rfl
  · rw [if_neg q1, if_neg q1]
    by_cases q2 : cn (fun x => holB s (6 * k) x x v) (nN s) = 1
    · rw [if_pos q2, if_pos q2]; rfl
    · rw [if_neg q2, if_neg q2]; rfl
