/-! alike -/
def chN (n x y : Nat) : Nat := if n = x then y else if n = y then x else n
def wcN (k x y : Nat) : Nat := if k < 12 then 4 * (k / 4) + chN (k % 4) x y else 12 + 4 * chN ((k - 12) / 4) x y + chN ((k - 12) % 4) x y
theorem chN_4 {n x y : Nat} (hn : n < 4) (hx : x < 4) (hy : y < 4) : chN n x y < 4 := by
  unfold chN
  split
  · exact hy
  · split
    · exact hx
    · exact hn
theorem wcN_28 {k x y : Nat} (hk : k < 28) (hx : x < 4) (hy : y < 4) : wcN k x y < 28 := by
  unfold wcN
  have h1 := chN_4 (n := k % 4) (by omega) hx hy
  have h2 := chN_4 (n := (k - 12) % 4) (by omega) hx hy
  split
  · omega
  · have h3 := chN_4 (n := (k - 12) / 4) (by omega) hx hy
    omega
theorem c_111 {n x y : Nat} (hn : n < 4) (hx : x < 4) (hy : y < 4) (s : SS) : ev 111 0 [some (.inl (nI n)), some (.inl (nI x)), some (.inl (nI y))] [] s = some (some (.inl (nI (chN n x y))), s) := by
  rw [q_111]
  have e1 : (nI n = nI x) = (n = x) := n_eq (by omega) (by omega)
  have e2 : (nI n = nI y) = (n = y) := n_eq (by omega) (by omega)
  simp only [e1, e2]
  unfold chN
  by_cases h1 : n = x
  · simp [h1]
  · by_cases h2 : n = y
    · rw [if_neg h1, if_pos h2, if_neg h1, if_pos h2]
    · rw [if_neg h1, if_neg h2, if_neg h1, if_neg h2]
theorem c_213 {n x y : Nat} (hn : n < 4) (hx : x < 4) (hy : y < 4) (s : SS) : ev 213 0 [some (.inl (nI n)), some (.inl (nI x)), some (.inl (nI y))] [] s = some (some (.inl (nI (chN n x y))), s) := by
  rw [q_213]
  have e1 : (nI n = nI x) = (n = x) := n_eq (by omega) (by omega)
  have e2 : (nI n = nI y) = (n = y) := n_eq (by omega) (by omega)
  simp only [e1, e2]
  unfold chN
  by_cases h1 : n = x
  · simp [h1]
  · by_cases h2 : n = y
    · rw [if_neg h1, if_pos h2, if_neg h1, if_pos h2]
    · rw [if_neg h1, if_neg h2, if_neg h1, if_neg h2]
theorem wc2 : ∀ f, f < 4 → ∀ a, a < 4 → ∀ b, b < 4 → nI (12 + 4 * f) + nI a + 4 * (nI b - nI f) = nI (12 + 4 * b + a) := by decide
theorem c_110 {k x y : Nat} (hk : k < 28) (hx : x < 4) (hy : y < 4) (s : SS) : ev 110 0 [some (.inl (nI k)), some (.inl (nI x)), some (.inl (nI y)), none, none, none] [] s = some (some (.inl (nI (wcN k x y))), s) := by
  rw [q_110, if_neg ne4, md4 k hk, c_111 (by omega) hx hy, cI_s, if_neg ne4, n_sub (show k % 4 ≤ k by omega)]
  unfold wcN
  by_cases h : k < 12
  · rw [if_pos (show nI k < (12 : Int32) from nI_lt h (by decide)), if_pos h, n_add]
    rw [show k - k % 4 = 4 * (k / 4) by omega]
  · rw [if_neg (show ¬ nI k < (12 : Int32) from by rw [n_ltL (by omega) (by decide)]; exact h), if_neg h, show nI k - 12 = nI (k - 12) from pk_sub (show 12 ≤ k by omega), dv4 (k - 12) (by omega), c_111 (by omega) hx hy, cI_s]
    rw [show k - k % 4 = 12 + 4 * ((k - 12) / 4) by omega, show k % 4 = (k - 12) % 4 by omega]
    rw [wc2 _ (by omega) _ (chN_4 (by omega) hx hy) _ (chN_4 (by omega) hx hy)]
theorem c_191n {so a b : Nat} (hs : so ≤ 3) (s : SS) : ev 191 0 [some (.inl (nI so)), some (.inl (nI a)), some (.inl (nI b))] [] s = some (some (.inl (nI (if so = 3 then 12 + 4 * a + b else 4 * so + a))), s) := by
  rw [q_191]
  have e1 : (nI so = (3 : Int32)) = (so = 3) := n_eq (a := so) (b := 3) (by omega) (by decide)
  simp only [e1]
  by_cases h : so = 3
  · rw [if_pos h, if_pos h, n_mulL, n_1add, n_add]
  · rw [if_neg h, if_neg h, n_mulL, n_add]
theorem r_214 {k x y : Nat} {al : Bool} (hk : k < 28) (hx : x < 4) (hy : y < 4) (s : SS) : ev 214 35 [some (.inr (.inr (30, 0))), some (.inl (nI x)), some (.inl (nI y)), some (.inl (bI al)), some (.inl (nI k)), none] [] s = ev 214 97 [some (.inr (.inr (30, 0))), some (.inl (nI x)), some (.inl (nI y)), some (.inl (bI al)), some (.inl (nI k)), none] [(.inl (nI (wcN k x y)))] s := by
  rw [q_214_at35, if_pos (show nI k < (28 : Int32) from nI_lt hk (by decide)), if_neg ne4, if_neg ne4, md4 k hk]
  unfold wcN
  by_cases h : k < 12
  · rw [if_pos (show nI k < (12 : Int32) from nI_lt h (by decide)), if_pos h, c_213 (by omega) hx hy, cI_s, dv4 k (by omega), show (0 : Int32) = nI 0 from rfl, c_191n (by omega), cI_s, if_neg (by omega)]
  · rw [if_neg (show ¬ nI k < (12 : Int32) from by rw [n_ltL (by omega) (by decide)]; exact h), if_neg h, show nI k - 12 = nI (k - 12) from pk_sub (show 12 ≤ k by omega), md4 (k - 12) (by omega), dv4 (k - 12) (by omega), c_213 (by omega) hx hy, cI_s, if_neg ne4, c_213 (by omega) hx hy, cI_s, show (3 : Int32) = nI 3 from rfl, c_191n (by omega), cI_s, if_pos rfl, if_neg ne4]
theorem c_108 {s : SS} (hS : JS s) (x : Int32) : ev 108 0 [some (.inr (.inr (0, 0))), some (.inl x)] [] s = some (some (.inl (bI (ixB x (nN s)))), s) := by
  have hN := hS.1.2.1
  rw [q_108, hS.1.2.2.1, rg_ix x (nN s) (by omega)]
  cases ixB x (nN s) <;> rfl
theorem in_N {s : SS} (hS : JS s) (x : Int32) : ev 144 0 [some (.inl x), some (.inl 0), some (.inl (s.1 30 0 10 - 1))] [] s = some (some (.inl (bI (ixB x (nN s)))), s) := by
  have hN := hS.1.2.1
  have hN1 := hS.1.1
  rw [c_144, hS.1.2.2.2, show nI (nN s) - 1 = nI (nN s - 1) from pk_sub hN1, in_ix x (nN s - 1) (by omega)]
  rw [show nN s - 1 + 1 = nN s by omega]
theorem pub_alike {s : SS} (h : J s) (x y : Int32) : PI 83 214 [some (.inr (.inr (0, 0))), some (.inl x), some (.inl y), none] [some (.inr (.inr (30, 0))), some (.inl x), some (.inl y), none, none, none] s := by
  have hS := h.2.2.2.1
  have hN := hS.1.2.1
  by_cases hx : ixB x (nN s) = true
  case neg =>
    refine PI_0 h (-1) ?_ ?_
    · rw [q_83, c_108 hS, ix_no hx, cI_s, ite_bI, if_neg (by decide)]
    · rw [q_214, in_N hS, ix_no hx, cI_s, ite_bI, if_neg (by decide)]
  by_cases hy : ixB y (nN s) = true
  case neg =>
    refine PI_0 h (-1) ?_ ?_
    · rw [q_83, c_108 hS, hx, cI_s, ite_bI, if_pos rfl, c_108 hS, ix_no hy, cI_s, ite_bI, if_neg (by decide)]
    · rw [q_214, in_N hS, hx, cI_s, ite_bI, if_pos rfl, in_N hS, ix_no hy, cI_s, ite_bI, if_neg (by decide)]
  obtain ⟨a, ha, rfl⟩ := (ixB_iff (by omega)).mp hx
  obtain ⟨b, hb, rfl⟩ := (ixB_iff (by omega)).mp hy
  have ha4 : a < 4 := by omega
  have hb4 : b < 4 := by omega
  have key : ∀ k, k < 28 → (decide (nI (tl s k) = nI (tl s (wcN k a b)))) = (tl s k == tl s (wcN k a b)) := by
    intro k hk
    obtain ⟨-, -, g3, -⟩ := hS.2.1 k hk
    obtain ⟨-, -, g4, -⟩ := hS.2.1 _ (wcN_28 hk ha4 hb4)
    have e : (nI (tl s k) = nI (tl s (wcN k a b))) = (tl s k = tl s (wcN k a b)) := n_eq (by omega) (by omega)
    by_cases z : tl s k = tl s (wcN k a b)
    · simp [z]
    · have z2 : ¬ nI (tl s k) = nI (tl s (wcN k a b)) := by rw [e]; exact z
      simp [z, z2]
  have eC : ev 83 0 [some (.inr (.inr (0, 0))), some (.inl (nI a)), some (.inl (nI b)), none] [] s = some (some (.inl (bI (!(anyB (fun k => !(tl s k == tl s (wcN k a b))) 28)))), s) := by
    rw [q_83, c_108 hS, hx, cI_s, ite_bI, if_pos rfl, c_108 hS, hy, cI_s, ite_bI, if_pos rfl]
    have hl := lpE (P := fun i => ev 83 20 [some (.inr (.inr (0, 0))), some (.inl (nI a)), some (.inl (nI b)), some (.inl (nI i))] [] s) (c := fun k => !(tl s k == tl s (wcN k a b))) (out := fun _ => some (some (.inl 0), s)) 28 (fun i hi => by
      show ev 83 20 [some (.inr (.inr (0, 0))), some (.inl (nI a)), some (.inl (nI b)), some (.inl (nI i))] [] s = _
      obtain ⟨g1, -⟩ := hS.2.1 i hi
      obtain ⟨g2, -⟩ := hS.2.1 _ (wcN_28 hi ha4 hb4)
      have w28 := wcN_28 hi ha4 hb4
      rw [q_83_at20, if_pos (show nI i < (28 : Int32) from nI_lt hi (by decide)), if_pos (ixB_nI hi (by decide)), c_110 hi ha4 hb4, cI_s, if_pos (ixB_nI w28 (by decide)), cl_nI (by omega), cl_nI (by omega), g1, g2, nI_s]
      have e := key i hi
      by_cases z : nI (tl s i) = nI (tl s (wcN i a b))
      · rw [if_pos z]
        rw [decide_eq_true z] at e
        rw [← e]
        rfl
      · rw [if_neg z]
        rw [decide_eq_false z] at e
        rw [← e]
        rfl)
    rcases hl with ⟨i, hi, hc, -, e⟩ | ⟨hc, e⟩
    · rw [anyB_t hi hc]
      exact e
    · rw [anyB_f hc]
      refine Eq.trans (show ev 83 20 [some (.inr (.inr (0, 0))), some (.inl (nI a)), some (.inl (nI b)), some (.inl (nI 0))] [] s = ev 83 20 [some (.inr (.inr (0, 0))), some (.inl (nI a)), some (.inl (nI b)), some (.inl (nI 28))] [] s from e) ?_
      rw [q_83_at20, if_neg (show ¬ nI 28 < (28 : Int32) from irr (nI 28))]
      rfl
  have eR : ev 214 0 [some (.inr (.inr (30, 0))), some (.inl (nI a)), some (.inl (nI b)), none, none, none] [] s = some (some (.inl (bI (!(anyB (fun k => !(tl s k == tl s (wcN k a b))) 28)))), s) := by
    rw [q_214, in_N hS, hx, cI_s, ite_bI, if_pos rfl, in_N hS, hy, cI_s, ite_bI, if_pos rfl]
    have hl := lpN (P := fun i => ev 214 35 [some (.inr (.inr (30, 0))), some (.inl (nI a)), some (.inl (nI b)), some (.inl (bI (!(anyB (fun k => !(tl s k == tl s (wcN k a b))) i)))), some (.inl (nI i)), none] [] s) 28 (fun i hi => by
      show ev 214 35 [some (.inr (.inr (30, 0))), some (.inl (nI a)), some (.inl (nI b)), some (.inl (bI (!(anyB (fun k => !(tl s k == tl s (wcN k a b))) i)))), some (.inl (nI i)), none] [] s = ev 214 35 [some (.inr (.inr (30, 0))), some (.inl (nI a)), some (.inl (nI b)), some (.inl (bI (!(anyB (fun k => !(tl s k == tl s (wcN k a b))) i || !(tl s i == tl s (wcN i a b)))))), some (.inl (nI (i + 1))), none] [] s
      obtain ⟨-, g1, -⟩ := hS.2.1 i hi
      obtain ⟨-, g2, -⟩ := hS.2.1 _ (wcN_28 hi ha4 hb4)
      have w28 := wcN_28 hi ha4 hb4
      rw [r_214 hi ha4 hb4, q_214_at97, ite_bI, if_pos (ixB_nI hi (by decide)), if_pos (ixB_nI w28 (by decide)), cl_nI (show i < 2147483648 by omega), cl_nI (show wcN i a b < 2147483648 by omega), g1, g2, nI_s]
      have e := key i hi
      cases anyB (fun k => !(tl s k == tl s (wcN k a b))) i with
      | true => rfl
      | false =>
        by_cases z : nI (tl s i) = nI (tl s (wcN i a b))
        · rw [if_pos (show (!false) = true from rfl), if_pos z]
          rw [decide_eq_true z] at e
          rw [← e]
          rfl
        · rw [if_pos (show (!false) = true from rfl), if_neg z]
          rw [decide_eq_false z] at e
          rw [← e]
          rfl)
    refine (show ev 214 35 [some (.inr (.inr (30, 0))), some (.inl (nI a)), some (.inl (nI b)), some (.inl (bI true)), some (.inl (nI 0)), none] [] s = _ from hl).trans ?_
    rw [q_214_at35, if_neg (show ¬ nI 28 < (28 : Int32) from irr (nI 28)), ite_bI]
    cases anyB (fun k => !(tl s k == tl s (wcN k a b))) 28 <;> rfl
  exact PI_0 h _ eC eR
