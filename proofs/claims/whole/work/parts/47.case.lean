theorem lN0 (x : Int64) : x + lN 0 = x := by
  show x + 0 = x
  exact Int64.add_zero x
/-- the class's count of one case -/
theorem c_44 {s t : SS} {j k kd np w f x y : Nat} {m1 m2 : Int32} (hS : JS s) (hk : k < 8) (h : Hd s j k kd np w f) (hx : x < 4) (hy : y < 4) (hw : TW s t 28) (e1 : ∀ b, b < 32 → tb m1 b = anyB (swC s k x y false b) np) (e2 : ∀ b, b < 32 → tb m2 b = anyB (swC s k x y true b) np) : ∃ u, ev 44 0 [some (.inr (.inr (11, 0))), some (.inl (nI k)), some (.inl m1), some (.inl m2), none, none, none] [] t = some (none, u) ∧ OffL t u ∧ ∀ v, v < nW s → u.2.1 19 0 v = t.2.1 19 0 v + lN (if anyB (fun p => holB s (6 * k + p) x y v) np = true then 0 else 256 ^ k) := by
  have hW := nW_le hS
  have stay : (∀ v, v < nW s → anyB (fun p => holB s (6 * k + p) x y v) np = true) → ∀ v, v < nW s → t.2.1 19 0 v = t.2.1 19 0 v + lN (if anyB (fun p => holB s (6 * k + p) x y v) np = true then 0 else 256 ^ k) := by
    intro ha v hv
    rw [if_pos (ha v hv), lN0]
  have n28 : ∀ b p, p < np → sayN s (6 * k + p) x y = b → b < 28 := fun b p hp e => e ▸ say_28 h hp hx hy
  rw [q_44, if_pos ix0, cl0, if_pos rfl, if_neg (show ¬ (1 : Int32) = 0 by decide)]
  by_cases a1 : t.1 18 0 0 &&& m1 = 0
  · rw [if_pos a1]
    by_cases a2 : ((t.1 18 0 0 ^^^ (-1)) &&& (t.1 11 0 1 ^^^ (-1))) &&& m2 = 0
    · rw [if_pos a2]
      obtain ⟨u, p1, o, g⟩ := r_44 (m1 := m1) (m2 := m2) hk hW (show t.1 11 0 0 = nI (nW s) from hw.1)
      refine ⟨u, p1, o, fun v hv => ?_⟩
      rw [g v hv]
      have hi := ca_iff h hx hy hw hv e1 e2
      cases hc : anyB (fun p => holB s (6 * k + p) x y v) np with
      | false => rw [if_pos (hi.mpr hc), if_neg (by decide)]
      | true =>
        rw [if_neg (fun z => by rw [hi.mp z] at hc; exact absurd hc (by decide)), if_pos rfl, lN0]
    · rw [if_neg a2]
      refine ⟨t, rfl, OL_rf, stay (fun v hv => ?_)⟩
      obtain ⟨b, hb, h1, h2⟩ := ex_b a2
      rw [tb_and, tb_not hb, tb_not hb, hw.2.2 b hb, TW_so hw (nW_pos s) hb] at h1
      rw [e2 b hb] at h2
      obtain ⟨p, hp, hs⟩ := anyB_x h2
      unfold swC at hs
      simp only [Bool.and_eq_true, beq_iff_eq] at hs
      have b28 := n28 b p hp hs.2
      apply anyB_t hp
      show (soB s (sayN s (6 * k + p) x y) v != ptN s (6 * k + p)) = true
      rw [hs.1, hs.2]
      rw [decide_eq_true b28] at h1
      have : soB s b v = false := by
        unfold soB at h1 ⊢
        cases c1 : (tl s b == 1) <;> cases c3 : (tl s b == 3) <;> simp [c1, c3] at h1 ⊢
      rw [this]
      rfl
  · rw [if_neg a1]
    refine ⟨t, rfl, OL_rf, stay (fun v hv => ?_)⟩
    obtain ⟨b, hb, h1, h2⟩ := ex_b a1
    rw [TW_so hw (nW_pos s) hb] at h1
    rw [e1 b hb] at h2
    obtain ⟨p, hp, hs⟩ := anyB_x h2
    unfold swC at hs
    simp only [Bool.and_eq_true, beq_iff_eq] at hs
    apply anyB_t hp
    show (soB s (sayN s (6 * k + p) x y) v != ptN s (6 * k + p)) = true
    rw [hs.1, hs.2]
    have : soB s b v = true := by
      unfold soB at h1 ⊢
      cases c1 : (tl s b == 1) with
      | true => rfl
      | false =>
        rw [c1] at h1
        simp at h1
    rw [this]
    rfl
