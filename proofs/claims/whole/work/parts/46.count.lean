/-! counting breaks, class -/
def OffL (t u : SS) : Prop := u.1 = t.1 ∧ u.2.2 = t.2.2 ∧ ∀ a b c, a ≠ 19 → u.2.1 a b c = t.2.1 a b c
theorem OL_rf {t : SS} : OffL t t := ⟨rfl, rfl, fun _ _ _ _ => rfl⟩
theorem OL_tr {t u v : SS} (h1 : OffL t u) (h2 : OffL u v) : OffL t v := ⟨h2.1.trans h1.1, h2.2.1.trans h1.2.1, fun a b c h => (h2.2.2 a b c h).trans (h1.2.2 a b c h)⟩
theorem OL_w {t : SS} {j i : Nat} {v : Int64} : OffL t (wL t 19 j i v) := ⟨rfl, rfl, fun a b c h => by rw [wL_2, if_neg (fun z => h z.1)]⟩
theorem sh8 : ∀ k, k < 8 → (1 : Int64) <<< ((nI k * 8).toInt64 &&& 63) = lN (256 ^ k) := by decide
theorem and_0 {x y : Int32} : (x &&& y = 0) ↔ ∀ b, b < 32 → (tb x b && tb y b) = false := by
  constructor
  · intro h b hb
    rw [← tb_and, h, tb_0]
  · intro h
    apply tb_ext
    intro b hb
    rw [tb_and, h b hb, tb_0]
theorem and_y {x y : Int32} : (x &&& y = y) ↔ ∀ b, b < 32 → tb y b = true → tb x b = true := by
  constructor
  · intro h b hb hy
    have : tb (x &&& y) b = tb y b := by rw [h]
    rw [tb_and, hy, Bool.and_true] at this
    exact this
  · intro h
    apply tb_ext
    intro b hb
    rw [tb_and]
    cases hy : tb y b with
    | false => rw [Bool.and_false]
    | true => rw [h b hb hy, Bool.and_true]
/-- the loop over worlds that adds to those which a test names -/
theorem r_44 {t : SS} {k N : Nat} {m1 m2 : Int32} (hk : k < 8) (hN : N ≤ 1024) (h0 : t.1 11 0 0 = nI N) : ∃ u, ev 44 47 [some (.inr (.inr (11, 0))), some (.inl (nI k)), some (.inl m1), some (.inl m2), none, none, some (.inl 0)] [] t = some (none, u) ∧ OffL t u ∧ ∀ v, v < N → u.2.1 19 0 v = if t.1 18 0 v &&& m1 = 0 ∧ t.1 18 0 v &&& m2 = m2 then t.2.1 19 0 v + lN (256 ^ k) else t.2.1 19 0 v := by
  have hl := lpF (fun i u => ev 44 47 [some (.inr (.inr (11, 0))), some (.inl (nI k)), some (.inl m1), some (.inl m2), none, none, some (.inl (nI i))] [] u) (fun i u => if t.1 18 0 i &&& m1 = 0 ∧ t.1 18 0 i &&& m2 = m2 then wL u 19 0 i (u.2.1 19 0 i + lN (256 ^ k)) else u) (fun i u => OffL t u ∧ ∀ v, u.2.1 19 0 v = if v < i ∧ (t.1 18 0 v &&& m1 = 0 ∧ t.1 18 0 v &&& m2 = m2) then t.2.1 19 0 v + lN (256 ^ k) else t.2.1 19 0 v) N (fun i u hi h => by
    obtain ⟨o, g⟩ := h
    have x : ixB (nI i) 1024 = true := ixB_nI (by omega) (by decide)
    have gi := g i
    rw [if_neg (fun z => absurd z.1 (Nat.lt_irrefl i))] at gi
    constructor
    · show ev 44 47 [some (.inr (.inr (11, 0))), some (.inl (nI k)), some (.inl m1), some (.inl m2), none, none, some (.inl (nI i))] [] u = ev 44 47 [some (.inr (.inr (11, 0))), some (.inl (nI k)), some (.inl m1), some (.inl m2), none, none, some (.inl (nI (i + 1)))] [] ((if t.1 18 0 i &&& m1 = 0 ∧ t.1 18 0 i &&& m2 = m2 then wL u 19 0 i (u.2.1 19 0 i + lN (256 ^ k)) else u))
      rw [q_44_at47, o.1, h0, if_pos (nI_lt hi (by omega)), if_pos x, if_pos x, if_pos x, if_pos x, cl_nI (by omega), nI_s, sh8 k hk]
      by_cases a1 : t.1 18 0 i &&& m1 = 0
      · by_cases a2 : t.1 18 0 i &&& m2 = m2
        · rw [if_pos a1, if_pos a2, if_pos ⟨a1, a2⟩]
        · rw [if_pos a1, if_neg a2, if_neg (fun z => a2 z.2)]
      · rw [if_neg a1, if_neg (fun z => a1 z.1)]
    · by_cases a : t.1 18 0 i &&& m1 = 0 ∧ t.1 18 0 i &&& m2 = m2
      · simp only [if_pos a]
        refine ⟨OL_tr o OL_w, fun v => ?_⟩
        rw [wL_2]
        by_cases e : v = i
        · subst e
          rw [if_pos ⟨rfl, rfl, rfl⟩, if_pos ⟨Nat.lt_succ_self v, a⟩, gi]
        · rw [if_neg (fun z => e z.2.2), g v]
          by_cases z : v < i ∧ (t.1 18 0 v &&& m1 = 0 ∧ t.1 18 0 v &&& m2 = m2)
          · rw [if_pos z, if_pos ⟨by omega, z.2⟩]
          · rw [if_neg z, if_neg (fun y => z ⟨by omega, y.2⟩)]
      · simp only [if_neg a]
        refine ⟨o, fun v => ?_⟩
        rw [g v]
        by_cases e : v = i
        · subst e
          rw [if_neg (fun z => absurd z.1 (Nat.lt_irrefl v)), if_neg (fun z => a z.2)]
        · by_cases z : v < i ∧ (t.1 18 0 v &&& m1 = 0 ∧ t.1 18 0 v &&& m2 = m2)
          · rw [if_pos z, if_pos ⟨by omega, z.2⟩]
          · rw [if_neg z, if_neg (fun y => z ⟨by omega, y.2⟩)]) t ⟨OL_rf, fun v => by rw [if_neg (fun z => absurd z.1 (Nat.not_lt_zero v))]⟩
  obtain ⟨p1, o, g⟩ := hl
  refine ⟨_, ?_, o, fun v hv => ?_⟩
  · refine (show ev 44 47 [some (.inr (.inr (11, 0))), some (.inl (nI k)), some (.inl m1), some (.inl m2), none, none, some (.inl (nI 0))] [] t = _ from p1).trans ?_
    rw [q_44_at47, o.1, h0, if_neg (irr _)]
  · rw [g v]
    by_cases z : t.1 18 0 v &&& m1 = 0 ∧ t.1 18 0 v &&& m2 = m2
    · rw [if_pos ⟨hv, z⟩, if_pos z]
    · rw [if_neg (fun y => z y.2), if_neg z]
