/-! weights of the class laid over the reference's -/
def rp (u : SS) : SS := (fun a b x => if a = 43 ∧ b = 0 ∧ x < 8 ∧ u.1 13 (u.2.2 x) 0 = 1 then u.1 13 (u.2.2 x) 2 else u.1 a b x, u.2)
theorem rp_1 {u : SS} {a b x : Nat} (h : a ≠ 43) : (rp u).1 a b x = u.1 a b x := if_neg (fun z => h z.1)
theorem rp_43 {u : SS} {x : Nat} (hx : x < 8) (h : u.1 13 (u.2.2 x) 0 = 1) : (rp u).1 43 0 x = u.1 13 (u.2.2 x) 2 := if_pos ⟨rfl, rfl, hx, h⟩
theorem rp_2 (u : SS) : (rp u).2 = u.2 := rfl
/-- a state of the class while it learns -/
def CI (s : SS) (m : Nat) (u : SS) : Prop := J (rp u) ∧ (∀ a b x, a ≠ 11 → a ≠ 18 → a ≠ 20 → a ≠ 22 → (a = 0 → x ≠ 8) → (a = 13 → x ≠ 2) → u.1 a b x = s.1 a b x) ∧ u.2.2 = s.2.2 ∧ (∀ a b c, a ≠ 11 → a ≠ 19 → a ≠ 21 → u.2.1 a b c = s.2.1 a b c) ∧ ∀ k, k < 8 → ¬ m.testBit k = true → u.1 13 (s.2.2 k) 2 = s.1 13 (s.2.2 k) 2
theorem J_rp {s : SS} (h : J s) : J (rp s) := by
  refine J_wt h (fun a b c ha _ => rp_1 ha) rfl (fun k hk hp => ?_)
  rcases LJ_h (h.2.2.2.2.1.2.2 k hk) with ⟨g1, g2⟩ | ⟨g1, kd, np, w, f, g⟩
  · rw [g1] at hp
    exact absurd hp (by decide)
  · exact ⟨w, g.2.2.2.1, (rp_1 (by decide)).trans g.2.2.2.2.2.2.2.2.2.1, (rp_43 hk hp).trans g.2.2.2.2.2.2.2.2.2.1⟩
theorem CI_0 {s u : SS} {m : Nat} (q : QF s u) (h : J u) : CI s m u := ⟨J_rp h, fun a b x x1 x2 x3 x4 x5 _ => q.1 a b x x1 x2 x3 x4 x5, q.2.1, q.2.2, fun k _ _ => q.1 13 _ _ (by decide) (by decide) (by decide) (by decide) (by decide)⟩
theorem th_pr {s : SS} (hL : JL s) {m : Nat} (hth : thB s m = true) {k : Nat} (hk : k < 8) (hb : m.testBit k = true) : s.1 13 (s.2.2 k) 0 = 1 := by
  rcases LJ_h (hL.2.2 k hk) with ⟨a1, a2⟩ | ⟨a1, _⟩
  · exfalso
    unfold thB at hth
    have hp : prB s k = false := by
      unfold prB
      rw [a2]
      rfl
    have := anyB_t (p := fun k => m.testBit k && !prB s k) hk (by rw [hb, hp]; rfl)
    rw [this] at hth
    exact absurd hth (by decide)
  · exact a1
/-- the class's weights are those of the code -/
def CWt (s : SS) (m c : Nat) (u : SS) : Prop := ∀ k, k < 8 → m.testBit k = true → u.1 13 (s.2.2 k) 2 = nI (wd m c k)
theorem rp_lay {s u : SS} {m c : Nat} (h : J s) (hth : thB s m = true) (ci : CI s m u) (cw : CWt s m c u) (b x : Nat) : (rp u).1 43 b x = (layT m c 8 s).1 43 b x := by
  obtain ⟨hJ, f1, f2, f3, f4⟩ := ci
  rw [lay_1]
  have f13 : ∀ j, u.1 13 j 0 = s.1 13 j 0 := fun j => f1 13 j 0 (by decide) (by decide) (by decide) (by decide) (by decide) (by decide)
  have f43 : ∀ b x, u.1 43 b x = s.1 43 b x := fun b x => f1 43 b x (by decide) (by decide) (by decide) (by decide) (fun z => absurd z (by decide)) (fun z => absurd z (by decide))
  by_cases hc : b = 0 ∧ x < 8 ∧ u.1 13 (u.2.2 x) 0 = 1
  · obtain ⟨rfl, hx, hp⟩ := hc
    rw [rp_43 hx hp, f2]
    by_cases hb : m.testBit x = true
    · rw [if_pos ⟨rfl, rfl, hx, hb⟩]
      exact cw x hx hb
    · rw [if_neg (fun z => hb z.2.2.2), f4 x hx hb]
      rw [f2, f13] at hp
      rcases LJ_h (h.2.2.2.2.1.2.2 x hx) with ⟨g1, g2⟩ | ⟨g1, kd, np, w, f, g⟩
      · rw [g1] at hp
        exact absurd hp (by decide)
      · rw [g.2.2.2.2.2.2.2.2.2.1, g.2.2.2.2.2.2.2.2.2.2.1]
  · have e1 : (rp u).1 43 b x = u.1 43 b x := if_neg (fun z => hc z.2)
    rw [e1, f43, if_neg (fun z => hc ⟨z.2.1, z.2.2.1, by rw [f2, f13]; exact th_pr h.2.2.2.2.1 hth z.2.2.1 z.2.2.2⟩)]
theorem SP_lay {s u : SS} {m c : Nat} (h : J s) (hth : thB s m = true) (ci : CI s m u) (cw : CWt s m c u) : SP (layT m c 8 s) (rp u) := by
  have e43 := rp_lay h hth ci cw
  obtain ⟨hJ, f1, f2, f3, f4⟩ := ci
  refine ⟨⟨fun a ha => ⟨fun b x => ?_, fun b x => ?_⟩, ?_⟩, ?_⟩
  · by_cases e : a = 43
    · subst e
      exact e43 b x
    · rw [rp_1 e, lay_1, if_neg (fun z => e z.1)]
      have : a = 37 ∨ a = 42 ∨ a = 43 ∨ a = 44 ∨ a = 45 ∨ a = 46 ∨ a = 47 ∨ a = 48 ∨ a = 49 := by simpa using ha
      exact f1 a b x (by omega) (by omega) (by omega) (by omega) (fun z => by omega) (fun z => by omega)
  · rw [rp_2, lay_2]
    have : a = 37 ∨ a = 42 ∨ a = 43 ∨ a = 44 ∨ a = 45 ∨ a = 46 ∨ a = 47 ∨ a = 48 ∨ a = 49 := by simpa using ha
    exact f3 a b x (by omega) (by omega) (by omega)
  · rw [rp_2, lay_2]
    exact f2
  · rw [rp_1 (by decide), lay_1, if_neg (fun z => absurd z.1 (by decide))]
    exact f1 30 0 10 (by decide) (by decide) (by decide) (by decide) (by decide) (by decide)
theorem c_135i {s u : SS} {m c : Nat} (ci : CI s m u) (hm : m < 256) (hc : c < 64) : ∃ t, ev 135 0 [some (.inr (.inr (0, 0))), some (.inl (nI m)), some (.inl (nI c)), none, none] [] u = some (none, t) ∧ CI s m t ∧ CWt s m c t := by
  obtain ⟨hJ, f1, f2, f3, f4⟩ := ci
  have inj : ∀ a b, a ≤ 8 → b ≤ 8 → u.2.2 a = u.2.2 b → a = b := hJ.2.2.2.2.1.2.1
  obtain ⟨t, e, g1, g2, g3⟩ := c_135 hm hc u inj
  have e22 : t.2.2 = s.2.2 := by rw [g2]; exact f2
  refine ⟨t, e, ⟨?_, fun a b x x1 x2 x3 x4 x5 x6 => (g1 a b x x6).trans (f1 a b x x1 x2 x3 x4 x5 x6), e22, fun a b x x1 x2 x3 => by rw [g2]; exact f3 a b x x1 x2 x3, fun k hk hb => ?_⟩, fun k hk hb => ?_⟩
  · refine J_wt hJ (fun a b x ha hx => ?_) (by rw [rp_2, rp_2]; exact g2) (fun k hk hp => ?_)
    · rw [rp_1 ha, rp_1 ha]
      exact g1 a b x hx
    · have hp' : u.1 13 (u.2.2 k) 0 = 1 := (rp_1 (by decide)).symm.trans hp
      have hp2 : t.1 13 (t.2.2 k) 0 = 1 := by
        rw [g2, g1 13 _ 0 (by decide)]
        exact hp'
      have e3 := g3 k hk
      rw [rp_43 hk hp2, rp_1 (by decide), rp_2]
      rw [show t.2.2 = u.2.2 by rw [g2], e3]
      by_cases hb : m.testBit k = true
      · have := wd_le m c k
        exact ⟨wd m c k, by omega, if_pos hb, if_pos hb⟩
      · rcases LJ_h (hJ.2.2.2.2.1.2.2 k hk) with ⟨k1, k2⟩ | ⟨k1, kd, np, w, f, g⟩
        · rw [show (rp u).1 13 ((rp u).2.2 k) 0 = 1 from hp] at k1
          exact absurd k1 (by decide)
        · have : u.1 13 (u.2.2 k) 2 = nI w := (rp_1 (by decide)).symm.trans g.2.2.2.2.2.2.2.2.2.1
          exact ⟨w, g.2.2.2.1, (if_neg hb).trans this, (if_neg hb).trans this⟩
  · have := g3 k hk
    rw [f2, if_neg hb, f4 k hk hb] at this
    exact this
  · have := g3 k hk
    rw [f2, if_pos hb] at this
    exact this
theorem oC_rp (t : SS) : t = oC t (rp t) := oC_eq (fun a b c h => (rp_1 (by omega)).symm) (fun _ _ _ _ => rfl) (fun _ _ _ _ => rfl) (fun _ _ _ _ => rfl) rfl
theorem c_126i {s t : SS} {m c : Nat} (h : J s) (hth : thB s m = true) (ci : CI s m t) (cwt : CWt s m c t) : ∃ u, ev 126 0 [some (.inr (.inr (0, 0))), some (.inl 0)] [] t = some (none, u) ∧ CI s m u ∧ CWt s m c u ∧ CW (layT m c 8 s) (aA 0) u ∧ u.1 11 0 0 = nI (nW s) := by
  have spl := SP_lay h hth ci cwt
  obtain ⟨hJ, f1, f2, f3, f4⟩ := ci
  obtain ⟨u', e, q, hJ', hT, h8, cw⟩ := sv0 hJ
  have e2 : ev 126 0 [some (.inr (.inr (0, 0))), some (.inl 0)] [] t = some (none, oC t u') := by
    have := ev_C t (nLk_s (x := .inr (.inr (0, 0))) rfl (nLk_s (x := .inl 0) trivial nLk_e)) e
    rw [← oC_rp] at this
    exact this
  have q13 : ∀ b x, u'.1 13 b x = t.1 13 b x := fun b x => (q.1 13 b x (by decide) (by decide) (by decide) (by decide) (fun z => absurd z (by decide))).trans (rp_1 (by decide))
  have q22 : u'.2.2 = t.2.2 := q.2.1
  have er : rp (oC t u') = u' := by
    refine SS_ext (fun a b x => ?_) (fun a b x => ?_) rfl
    · by_cases hc : a = 43 ∧ b = 0 ∧ x < 8 ∧ u'.1 13 (u'.2.2 x) 0 = 1
      · obtain ⟨rfl, rfl, hx, hp⟩ := hc
        have hp1 : (oC t u').1 13 ((oC t u').2.2 x) 0 = 1 := by
          rw [oC_1 (by decide)]
          exact hp
        rw [rp_43 hx hp1, oC_1 (by decide)]
        show u'.1 13 (u'.2.2 x) 2 = _
        rw [q.1 43 0 x (by decide) (by decide) (by decide) (by decide) (fun z => absurd z (by decide)), q13, q22]
        rw [q13, q22] at hp
        rw [rp_43 hx hp]
      · have hn : ¬ (a = 43 ∧ b = 0 ∧ x < 8 ∧ (oC t u').1 13 ((oC t u').2.2 x) 0 = 1) := fun z => hc ⟨z.1, z.2.1, z.2.2.1, by
          have := z.2.2.2
          rw [oC_1 (by decide)] at this
          exact this⟩
        have e3 : (rp (oC t u')).1 a b x = (oC t u').1 a b x := if_neg hn
        rw [e3]
        by_cases h30 : a < 30
        · rw [oC_1 h30]
        · rw [oC_g1 (by omega), q.1 a b x (by omega) (by omega) (by omega) (by omega) (fun z => by omega)]
          have hn2 : ¬ (a = 43 ∧ b = 0 ∧ x < 8 ∧ t.1 13 (t.2.2 x) 0 = 1) := fun z => hc ⟨z.1, z.2.1, z.2.2.1, by rw [q13, q22]; exact z.2.2.2⟩
          exact (show (rp t).1 a b x = t.1 a b x from if_neg hn2).symm
    · show (oC t u').2.1 a b x = _
      by_cases h30 : a < 30
      · rw [oC_2 h30]
      · rw [oC_g2 (by omega), q.2.2 a b x (by omega) (by omega) (by omega)]
        rfl
  have r : ∀ a b c, a < 30 → (oC t u').1 a b c = u'.1 a b c := fun a b c ha => oC_1 ha b c
  have rl : ∀ a b c, a < 30 → (oC t u').2.1 a b c = u'.2.1 a b c := fun a b c ha => oC_2 ha b c
  have u13 : ∀ b x, (oC t u').1 13 b x = t.1 13 b x := fun b x => (oC_1 (by decide) b x).trans (q13 b x)
  refine ⟨oC t u', e2, ⟨by rw [er]; exact hJ', fun a b x x1 x2 x3 x4 x5 x6 => ?_, q22.trans f2, fun a b x x1 x2 x3 => ?_, fun k hk hb => ?_⟩, fun k hk hb => ?_, ?_, ?_⟩
  · by_cases h30 : a < 30
    · rw [oC_1 h30, q.1 a b x x1 x2 x3 x4 x5, rp_1 (by omega)]
      exact f1 a b x x1 x2 x3 x4 x5 x6
    · rw [oC_g1 (by omega)]
      exact f1 a b x x1 x2 x3 x4 x5 x6
  · by_cases h30 : a < 30
    · rw [oC_2 h30, q.2.2 a b x x1 x2 x3]
      exact f3 a b x x1 x2 x3
    · rw [oC_g2 (by omega)]
      exact f3 a b x x1 x2 x3
  · rw [u13]
    exact f4 k hk hb
  · rw [u13]
    exact cwt k hk hb
  · obtain ⟨c1, c2, c3, c4, c5⟩ := SP_CW spl cw
    refine ⟨fun v hv => ?_, ?_, fun v hv => ?_, ?_, fun k hk => ?_⟩
    · rw [r 20 0 v (by decide)]
      exact c1 v hv
    · unfold CB at c2 ⊢
      rw [r 11 0 7 (by decide), r 11 0 8 (by decide)]
      exact c2
    · rw [rl 21 0 v (by decide)]
      exact c3 v hv
    · rw [rl 11 0 9 (by decide)]
      exact c4
    · rw [r 22 0 k (by decide)]
      exact c5 k hk
  · have e0 : nW u' = nW s := by
      rw [(SP_brk (QF_SP q)).2.2, (SP_brk spl).2.2]
      exact (brk_ag (s := s) (t := layT m c 8 s) ⟨fun a ha => ⟨fun b x => by
        rw [lay_1, if_neg (fun z => by
          rw [z.1] at ha
          exact absurd ha (by decide))], fun b x => by rw [lay_2]⟩, by rw [lay_2]⟩ (by rw [lay_1, if_neg (fun z => absurd z.1 (by decide))])).2.2
    rw [r 11 0 0 (by decide), hT.1, e0]
theorem lay_brk (s : SS) (m c : Nat) : brk (layT m c 8 s) = brk s ∧ soB (layT m c 8 s) = soB s ∧ nW (layT m c 8 s) = nW s := brk_ag (s := s) (t := layT m c 8 s) ⟨fun a ha => ⟨fun b x => by
  rw [lay_1, if_neg (fun z => by
    rw [z.1] at ha
    exact absurd ha (by decide))], fun b x => by rw [lay_2]⟩, by rw [lay_2]⟩ (by rw [lay_1, if_neg (fun z => absurd z.1 (by decide))])
theorem lay_hb (s : SS) (m c : Nat) : hbB (layT m c 8 s) = hbB s := by
  funext A v
  unfold hbB
  rw [(lay_brk s m c).1]
  have : ∀ k, (layT m c 8 s).1 42 0 k = s.1 42 0 k := fun k => by rw [lay_1, if_neg (fun z => absurd z.1 (by decide))]
  simp only [this]
