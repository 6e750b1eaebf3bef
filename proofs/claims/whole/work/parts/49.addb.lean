theorem lpX {σ : Type} (P : Nat → σ → RE) (I : Nat → σ → Prop) : ∀ (N : Nat), (∀ i u, i < N → I i u → ∃ u', P i u = P (i + 1) u' ∧ I (i + 1) u') → ∀ u, I 0 u → ∃ u', P 0 u = P N u' ∧ I N u'
  | 0, _, u, h => ⟨u, rfl, h⟩
  | N + 1, hs, u, h => by
    obtain ⟨u', e, hi⟩ := lpX P I N (fun i u hi => hs i u (by omega)) u h
    obtain ⟨u'', e2, hi2⟩ := hs N u' (by omega) hi
    exact ⟨u'', e.trans e2, hi2⟩
theorem TW_L {s t u : SS} {m : Nat} (h : OffL t u) (hw : TW s t m) : TW s u m := by
  unfold TW
  rw [h.1]
  exact hw
def csB (s : SS) (k np x y v : Nat) : Nat := if anyB (fun p => holB s (6 * k + p) x y v) np = true then 0 else 1
theorem csB_p (s : SS) (k np x y v : Nat) : (if anyB (fun p => holB s (6 * k + p) x y v) np = true then 0 else 256 ^ k) = csB s k np x y v * 256 ^ k := by
  unfold csB
  split
  · rw [Nat.zero_mul]
  · rw [Nat.one_mul]
theorem c_42 {s t : SS} {j k kd np w f : Nat} (hS : JS s) (hk : k < 8) (h : Hd s j k kd np w f) (h0 : kd ≠ 0) (hw : TW s t 28) (wk : WK s t) : ∃ u, ev 42 0 [some (.inr (.inr (11, 0))), some (.inl (nI k)), some (.inr (.inr (13, j))), some (.inl (nI (nN s))), none, none] [] t = some (none, u) ∧ OffL t u ∧ ∀ v, v < nW s → u.2.1 19 0 v = t.2.1 19 0 v + lN (brk s k v * 256 ^ k) := by
  have hd := h.1
  have ht := WK_Hd wk h
  rw [q_42, c_31, ht.2.2.2.2.2.1, al_k kd hd, cI_s, ite_bI]
  by_cases h3 : 3 ≤ kd
  · rw [if_pos (decide_eq_true h3)]
    obtain ⟨u, p1, o, g⟩ := c_43 hS hk h h3 hw wk
    refine ⟨u, ?_, o, g⟩
    rw [p1, cV_s]
  · rw [if_neg (by simp [h3])]
    have hX := nX_b hS k
    have hY := nY_b hS k
    have c34 : ∀ u, WK s u → ∀ q, q ≤ 1 → ev 34 0 [some (.inr (.inr (13, j))), some (.inl (nI q)), some (.inl (nI (nN s)))] [] u = some (some (.inl (nI (if hasV s k q = true then nN s else 1))), u) := by
      intro u hu q hq
      rw [c_34 hq (WK_Hd hu h)]
      have : hasV u k q = hasV s k q := by
        have e48 := fun c => hu.1 48 0 c (by decide) (by decide)
        have e47 := fun c => hu.1 47 0 c (by decide) (by decide)
        have e49 := fun c => hu.1 49 0 c (by decide) (by decide)
        have e45 := fun c => hu.1 45 0 c (by decide) (by decide)
        unfold hasV pt1 pt2 ptS npN
        simp only [e45, e47, e48, e49]
      rw [this]
    have sw : ∀ u, WK s u → ∀ x y dn b, swC u k x y dn b = swC s k x y dn b := by
      intro u hu x y dn b
      have e46 := fun c => hu.1 46 0 c (by decide) (by decide)
      have e48 := fun c => hu.1 48 0 c (by decide) (by decide)
      have e47 := fun c => hu.1 47 0 c (by decide) (by decide)
      have e49 := fun c => hu.1 49 0 c (by decide) (by decide)
      funext p
      unfold swC sayN pt1 pt2 ptS ptN
      simp only [e46, e47, e48, e49]
    have inner : ∀ x, x < nX s k → ∀ u, OffL t u → ∃ u', ev 42 32 [some (.inr (.inr (11, 0))), some (.inl (nI k)), some (.inr (.inr (13, j))), some (.inl (nI (nN s))), some (.inl (nI x)), some (.inl 0)] [] u = ev 42 18 [some (.inr (.inr (11, 0))), some (.inl (nI k)), some (.inr (.inr (13, j))), some (.inl (nI (nN s))), some (.inl (nI (x + 1))), none] [] u' ∧ OffL t u' ∧ ∀ v, v < nW s → u'.2.1 19 0 v = u.2.1 19 0 v + lN (sm (fun y => csB s k np x y v) (nY s k) * 256 ^ k) := by
      intro x hx u ou
      have hl := lpX (fun y u' => ev 42 32 [some (.inr (.inr (11, 0))), some (.inl (nI k)), some (.inr (.inr (13, j))), some (.inl (nI (nN s))), some (.inl (nI x)), some (.inl (nI y))] [] u') (fun y u' => OffL t u' ∧ ∀ v, v < nW s → u'.2.1 19 0 v = u.2.1 19 0 v + lN (sm (fun y => csB s k np x y v) y * 256 ^ k)) (nY s k) (fun y u1 hy hu1 => by
        obtain ⟨o1, g1⟩ := hu1
        have w1 : WK s u1 := WK_tr wk (WK_L o1)
        have H1 := WK_Hd w1 h
        obtain ⟨ma, pa, ba⟩ := c_37 H1 (show x < 4 by omega) (show y < 4 by omega) false
        obtain ⟨mb, pb, bb⟩ := c_37 H1 (show x < 4 by omega) (show y < 4 by omega) true
        obtain ⟨u2, p2, o2, g2⟩ := c_44 (m1 := ma) (m2 := mb) hS hk h (show x < 4 by omega) (show y < 4 by omega) (TW_L o1 hw) (fun b hb => by rw [ba b hb, sw u1 w1]) (fun b hb => by rw [bb b hb, sw u1 w1])
        refine ⟨u2, ?_, OL_tr o1 o2, fun v hv => ?_⟩
        · show ev 42 32 [some (.inr (.inr (11, 0))), some (.inl (nI k)), some (.inr (.inr (13, j))), some (.inl (nI (nN s))), some (.inl (nI x)), some (.inl (nI y))] [] u1 = _
          have cy := c34 u1 w1 1 (by decide)
          rw [q_42_at32, show (1 : Int32) = nI 1 from rfl, cy, cI_s, if_pos (nI_lt (show y < (if hasV s k 1 = true then nN s else 1) from hy) (by have : (if hasV s k 1 = true then nN s else 1) ≤ 4 := hY; omega)), show (0 : Int32) = bI false from rfl, pa, cI_s, show nI 1 = bI true from rfl, pb, cI_s, p2, cV_s, show bI true = (1 : Int32) from rfl, nI_s]
        · rw [g2 v hv, g1 v hv, csB_p, Int64.add_assoc, lN_add]
          show _ = u.2.1 19 0 v + lN ((sm (fun y => csB s k np x y v) y + csB s k np x y v) * 256 ^ k)
          rw [Nat.add_mul]) u ⟨ou, fun v hv => by
            show _ = u.2.1 19 0 v + lN (0 * 256 ^ k)
            rw [Nat.zero_mul, lN0]⟩
      obtain ⟨u', e, o', g'⟩ := hl
      refine ⟨u', (show ev 42 32 [some (.inr (.inr (11, 0))), some (.inl (nI k)), some (.inr (.inr (13, j))), some (.inl (nI (nN s))), some (.inl (nI x)), some (.inl (nI 0))] [] u = _ from e).trans ?_, o', g'⟩
      have cy := c34 u' (WK_tr wk (WK_L o')) 1 (by decide)
      rw [q_42_at32, show (1 : Int32) = nI 1 from rfl, cy, cI_s, if_neg (show ¬ nI (nY s k) < nI (if hasV s k 1 = true then nN s else 1) from irr _), show nI 1 = (1 : Int32) from rfl, nI_s]
    have hl := lpX (fun x u => ev 42 18 [some (.inr (.inr (11, 0))), some (.inl (nI k)), some (.inr (.inr (13, j))), some (.inl (nI (nN s))), some (.inl (nI x)), none] [] u) (fun x u => OffL t u ∧ ∀ v, v < nW s → u.2.1 19 0 v = t.2.1 19 0 v + lN (sm (fun x => sm (fun y => csB s k np x y v) (nY s k)) x * 256 ^ k)) (nX s k) (fun x u hx hu => by
      obtain ⟨o1, g1⟩ := hu
      obtain ⟨u', e, o', g'⟩ := inner x hx u o1
      refine ⟨u', ?_, o', fun v hv => ?_⟩
      · show ev 42 18 [some (.inr (.inr (11, 0))), some (.inl (nI k)), some (.inr (.inr (13, j))), some (.inl (nI (nN s))), some (.inl (nI x)), none] [] u = _
        have cx := c34 u (WK_tr wk (WK_L o1)) 0 (by decide)
        rw [q_42_at18, show (0 : Int32) = nI 0 from rfl, cx, cI_s, if_pos (nI_lt (show x < (if hasV s k 0 = true then nN s else 1) from hx) (by have : (if hasV s k 0 = true then nN s else 1) ≤ 4 := hX; omega))]
        exact e
      · rw [g' v hv, g1 v hv, Int64.add_assoc, lN_add]
        show _ = t.2.1 19 0 v + lN ((sm (fun x => sm (fun y => csB s k np x y v) (nY s k)) x + sm (fun y => csB s k np x y v) (nY s k)) * 256 ^ k)
        rw [Nat.add_mul]) t ⟨OL_rf, fun v hv => by
          show _ = t.2.1 19 0 v + lN (0 * 256 ^ k)
          rw [Nat.zero_mul, lN0]⟩
    obtain ⟨u', e, o', g'⟩ := hl
    refine ⟨u', (show ev 42 18 [some (.inr (.inr (11, 0))), some (.inl (nI k)), some (.inr (.inr (13, j))), some (.inl (nI (nN s))), some (.inl (nI 0)), none] [] t = _ from e).trans ?_, o', fun v hv => ?_⟩
    · have cx := c34 u' (WK_tr wk (WK_L o')) 0 (by decide)
      rw [q_42_at18, show (0 : Int32) = nI 0 from rfl, cx, cI_s, if_neg (show ¬ nI (nX s k) < nI (if hasV s k 0 = true then nN s else 1) from irr _)]
    · rw [g' v hv]
      unfold brk
      rw [(Hd_n h).1, (Hd_n h).2.1, if_neg h0, if_neg h3]
      rfl
