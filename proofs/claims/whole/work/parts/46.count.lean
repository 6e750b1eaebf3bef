/-! counting breaks, class -/
def OffL (t u : SS) : Prop := u.1 = t.1 ∧ u.2.2 = t.2.2 ∧ ∀ a b c, a ≠ 19 → u.2.1 a b c = t.2.1 a b c
theorem OL_rf {t : SS} : OffL t t := ⟨rfl, rfl, fun _ _ _ _ => rfl⟩
theorem OL_tr {t u v : SS} (h1 : OffL t u) (h2 : OffL u v) : OffL t v := ⟨h2.1.trans h1.1, h2.2.1.trans h1.2.1, fun a b c h => (h2.2.2 a b c h).trans (h1.2.2 a b c h)⟩
theorem OL_w {t : SS} {j i : Nat} {v : Int64} : OffL t (wL t 19 j i v) := ⟨rfl, rfl, fun a b c h => by rw [wL_2, if_neg (fun z => h z.1)]⟩
theorem sh8 : ∀ k, k < 8 → (1 : Int64) <<< ((nI k * 8).toInt64 &&& 63) = lN (256 ^ k) := by decide
theorem and_0 {x y : Int32} : (x &&& y = 0) ↔ ∀ b, b < 32 → (tb x b && tb y b) = false := by
  constructor
  · intro h b hb
    rw [← tb_and, h, tb_0]
  · intro h
    apply tb_ext
    intro b hb
    rw [tb_and, h b hb, tb_0]
theorem and_y {x y : Int32} : (x &&& y = y) ↔ ∀ b, b < 32 → tb y b = true → tb x b = true := by
  constructor
  · intro h b hb hy
    have : tb (x &&& y) b = tb y b := by rw [h]
    rw [tb_and, hy, Bool.and_true] at this
    exact this
  · intro h
    apply tb_ext
    intro b hb
    rw [tb_and]
    cases hy : tb y b with
    | false => rw [Bool.and_false]
    | true => rw [h b hb hy, Bool.and_true]
/-- the loop over worlds that adds to those which a test names -/
theorem r_44 {t : SS} {k N : Nat} {m1 m2 : Int32} (hk : k < 8) (hN : N ≤ 1024) (h0 : t.1 11 0 0 = nI N) : ∃ u, ev 44 47 [some (.inr (.inr (11, 0))), some (.inl (nI k)), some (.inl m1), some (.inl m2), none, none, some (.inl 0)] [] t = some (none, u) ∧ OffL t u ∧ ∀ v, v < N → u.2.1 19 0 v = if t.1 18 0 v &&& m1 = 0 ∧ t.1 18 0 v &&& m2 = m2 then t.2.1 19 0 v + lN (256 ^ k) else t.2.1 19 0 v := by
  have hl := lpF (fun i u => ev 44 47 [some (.inr (.inr (11, 0))), some (.inl (nI k)), some (.inl m1), some (.inl m2), none, none, some (.inl (nI i))] [] u) (fun i u => if t.1 18 0 i &&& m1 = 0 ∧ t.1 18 0 i &&& m2 = m2 then wL u 19 0 i (u.2.1 19 0 i + lN (256 ^ k)) else u) (fun i u => OffL t u ∧ ∀ v, u.2.1 19 0 v = if v < i ∧ (t.1 18 0 v &&& m1 = 0 ∧ t.1 18 0 v &&& m2 = m2) then t.2.1 19 0 v + lN (256 ^ k) else t.2.1 19 0 v) N (fun i u hi h => by
    obtain ⟨o, g⟩ := h
    have x : ixB (nI i) 1024 = true := ixB_nI (by omega) (by decide)
    have gi := g i
    rw [if_neg (fun z => absurd z.1 (Nat.lt_irrefl i))] at gi
    constructor
    · show ev 44 47 [some (.inr (.inr (11, 0))), some (.inl (nI k)), some (.inl m1), some (.inl m2), none, none, some (.inl (nI i))] [] u = ev 44 47 [some (.inr (.inr (11, 0))), some (.inl (nI k)), some (.inl m1), some (.inl m2), none, none, some (.inl (nI (i + 1)))] [] ((if t.1 18 0 i &&& m1 = 0 ∧ t.1 18 0 i &&& m2 = m2 then wL u 19 0 i (u.2.1 19 0 i + lN (256 ^ k)) else u))
      rw [q_44_at47, o.1, h0, if_pos (nI_lt hi (by omega)), if_pos x, if_pos x, if_pos x, if_pos x, cl_nI (by omega), nI_s, sh8 k hk]
      by_cases a1 : t.1 18 0 i &&& m1 = 0
      · by_cases a2 : t.1 18 0 i &&& m2 = m2
        · rw [if_pos a1, if_pos a2, if_pos ⟨a1, a2⟩]
        · rw [if_pos a1, if_neg a2, if_neg (fun z => a2 z.2)]
      · rw [if_neg a1, if_neg (fun z => a1 z.1)]
    · by_cases a : t.1 18 0 i &&& m1 = 0 ∧ t.1 18 0 i &&& m2 = m2
      · simp only [if_pos a]
        refine ⟨OL_tr o OL_w, fun v => ?_⟩
        rw [wL_2]
        by_cases e : v = i
        · subst e
          rw [if_pos ⟨rfl, rfl, rfl⟩, if_pos ⟨Nat.lt_succ_self v, a⟩, gi]
        · rw [if_neg (fun z => e z.2.2), g v]
          by_cases z : v < i ∧ (t.1 18 0 v &&& m1 = 0 ∧ t.1 18 0 v &&& m2 = m2)
          · rw [if_pos z, if_pos ⟨by omega, z.2⟩]
          · rw [if_neg z, if_neg (fun y => z ⟨by omega, y.2⟩)]
      · simp only [if_neg a]
        refine ⟨o, fun v => ?_⟩
        rw [g v]
        by_cases e : v = i
        · subst e
          rw [if_neg (fun z => absurd z.1 (Nat.lt_irrefl v)), if_neg (fun z => a z.2)]
        · by_cases z : v < i ∧ (t.1 18 0 v &&& m1 = 0 ∧ t.1 18 0 v &&& m2 = m2)
          · rw [if_pos z, if_pos ⟨by omega, z.2⟩]
          · rw [if_neg z, if_neg (fun y => z ⟨by omega, y.2⟩)]) t ⟨OL_rf, fun v => by rw [if_neg (fun z => absurd z.1 (Nat.not_lt_zero v))]⟩
  obtain ⟨p1, o, g⟩ := hl
  refine ⟨_, ?_, o, fun v hv => ?_⟩
  · refine (show ev 44 47 [some (.inr (.inr (11, 0))), some (.inl (nI k)), some (.inl m1), some (.inl m2), none, none, some (.inl (nI 0))] [] t = _ from p1).trans ?_
    rw [q_44_at47, o.1, h0, if_neg (irr _)]
  · rw [g v]
    by_cases z : t.1 18 0 v &&& m1 = 0 ∧ t.1 18 0 v &&& m2 = m2
    · rw [if_pos ⟨hv, z⟩, if_pos z]
    · rw [if_neg (fun y => z y.2), if_neg z]
theorem tb_not {x : Int32} {b : Nat} (hb : b < 32) : tb (x ^^^ (-1)) b = !(tb x b) := by
  show (x.toBitVec ^^^ (-1 : Int32).toBitVec).getLsbD b = _
  rw [BitVec.getLsbD_xor]
  have : (-1 : Int32).toBitVec.getLsbD b = true := by
    show (BitVec.allOnes 32).getLsbD b = true
    rw [BitVec.getLsbD_allOnes]
    exact decide_eq_true hb
  rw [this]
  unfold tb
  cases x.toBitVec.getLsbD b <;> rfl
theorem ex_b {x y : Int32} (h : ¬ x &&& y = 0) : ∃ b, b < 32 ∧ tb x b = true ∧ tb y b = true := by
  apply Classical.byContradiction
  intro hn
  apply h
  rw [and_0]
  intro b hb
  cases h1 : tb x b with
  | false => rfl
  | true =>
    cases h2 : tb y b with
    | false => rfl
    | true => exact absurd ⟨b, hb, h1, h2⟩ hn
theorem TW_so {s t : SS} (h : TW s t 28) {v b : Nat} (hv : v < nW s) (hb : b < 32) : tb (t.1 18 0 v) b = (decide (b < 28) && soB s b v) := by
  rw [h.2.1 v hv b hb]
  by_cases e : b < 28
  · rw [soP_28 s b v e]
  · rw [decide_eq_false e, Bool.false_and, Bool.false_and]
theorem ca_iff {s t : SS} {j k kd np w f x y v : Nat} {m1 m2 : Int32} (h : Hd s j k kd np w f) (hx : x < 4) (hy : y < 4) (hw : TW s t 28) (hv : v < nW s) (e1 : ∀ b, b < 32 → tb m1 b = anyB (swC s k x y false b) np) (e2 : ∀ b, b < 32 → tb m2 b = anyB (swC s k x y true b) np) : (t.1 18 0 v &&& m1 = 0 ∧ t.1 18 0 v &&& m2 = m2) ↔ anyB (fun p => holB s (6 * k + p) x y v) np = false := by
  rw [and_0, and_y]
  constructor
  · rintro ⟨h1, h2⟩
    apply anyB_f
    intro p hp
    have h28 := say_28 h hp hx hy
    have b32 : sayN s (6 * k + p) x y < 32 := by omega
    have f1 := h1 _ b32
    have f2 := h2 _ b32
    rw [TW_so hw hv b32, decide_eq_true h28, Bool.true_and] at f1 f2
    show (soB s (sayN s (6 * k + p) x y) v != ptN s (6 * k + p)) = false
    cases hp1 : ptN s (6 * k + p) with
    | false =>
      have : tb m1 (sayN s (6 * k + p) x y) = true := by
        rw [e1 _ b32]
        exact anyB_t hp (by unfold swC; rw [hp1]; simp)
      rw [this, Bool.and_true] at f1
      rw [f1]
      rfl
    | true =>
      have : tb m2 (sayN s (6 * k + p) x y) = true := by
        rw [e2 _ b32]
        exact anyB_t hp (by unfold swC; rw [hp1]; simp)
      rw [f2 this]
      rfl
  · intro ha
    have hol : ∀ p, p < np → (soB s (sayN s (6 * k + p) x y) v != ptN s (6 * k + p)) = false := by
      intro p hp
      cases hc : (soB s (sayN s (6 * k + p) x y) v != ptN s (6 * k + p)) with
      | false => rfl
      | true =>
        have := anyB_t (p := fun p => holB s (6 * k + p) x y v) hp hc
        rw [ha] at this
        exact absurd this (by decide)
    refine ⟨fun b hb => ?_, fun b hb hm => ?_⟩
    · cases hm : tb m1 b with
      | false => rw [Bool.and_false]
      | true =>
        rw [e1 b hb] at hm
        obtain ⟨p, hp, hs⟩ := anyB_x hm
        unfold swC at hs
        simp only [Bool.and_eq_true, beq_iff_eq] at hs
        have z := hol p hp
        rw [hs.1, hs.2] at z
        rw [TW_so hw hv hb]
        cases hc : soB s b v with
        | false => rw [Bool.and_false, Bool.false_and]
        | true =>
          rw [hc] at z
          exact absurd z (by decide)
    · rw [e2 b hb] at hm
      obtain ⟨p, hp, hs⟩ := anyB_x hm
      unfold swC at hs
      simp only [Bool.and_eq_true, beq_iff_eq] at hs
      have z := hol p hp
      have h28 := say_28 h hp hx hy
      rw [hs.1, hs.2] at z
      rw [hs.2] at h28
      rw [TW_so hw hv hb, decide_eq_true h28, Bool.true_and]
      cases hc : soB s b v with
      | true => rfl
      | false =>
        rw [hc] at z
        exact absurd z (by decide)
