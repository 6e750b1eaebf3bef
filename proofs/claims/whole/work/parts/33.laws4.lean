theorem J_wt {s t : SS} (h : J s) (h1 : ∀ a b c, a ≠ 43 → (a = 13 → c ≠ 2) → t.1 a b c = s.1 a b c) (h2 : t.2 = s.2) (h3 : ∀ k, k < 8 → s.1 13 (s.2.2 k) 0 = 1 → ∃ w, w ≤ 9 ∧ t.1 13 (s.2.2 k) 2 = nI w ∧ t.1 43 0 k = nI w) : J t := by
  have ag : ∀ {K : List Nat}, (∀ a, a ∈ K → a ≠ 43 ∧ a ≠ 13) → Ag K s t := fun hd => ⟨fun a ha => ⟨fun b c => h1 a b c (hd a ha).1 (fun z => absurd z (hd a ha).2), fun b c => by rw [h2]⟩, by rw [h2]⟩
  have e : ∀ a b c, a ≠ 43 → a ≠ 13 → t.1 a b c = s.1 a b c := fun a b c ha hb => h1 a b c ha (fun z => absurd z hb)
  refine ⟨JR_ag (ag (by decide)) h.1, JT_ag (ag (by decide)) h.2.1, JF_of (ag (by decide)) (e _ _ _ (by decide) (by decide)) (e _ _ _ (by decide) (by decide)) (e _ _ _ (by decide) (by decide)) (e _ _ _ (by decide) (by decide)) (by rw [h2]) h.2.2.1, JS_ag (ag (by decide)) (e _ _ _ (by decide) (by decide)) (e _ _ _ (by decide) (by decide)) h.2.2.2.1, ⟨by rw [h2]; exact h.2.2.2.2.1.1, by rw [h2]; exact h.2.2.2.2.1.2.1, fun k hk => ?_⟩, JB_ag (ag (by decide)) (e _ _ _ (by decide) (by decide)) (e _ _ _ (by decide) (by decide)) h.2.2.2.2.2⟩
  rw [h2]
  have c13 : ∀ c, c ≠ 2 → t.1 13 (s.2.2 k) c = s.1 13 (s.2.2 k) c := fun c hc => h1 13 _ c (by decide) (fun _ => hc)
  rcases LJ_h (h.2.2.2.2.1.2.2 k hk) with ⟨g1, g2⟩ | ⟨g1, kd, np, w, f, a1, a2, a3, a4, a5, a6, a7, a8, a9, a10, a11, a12, a13, a14, a15⟩
  · exact Or.inl ⟨(c13 0 (by decide)).trans g1, (e 42 _ _ (by decide) (by decide)).trans g2⟩
  · obtain ⟨w', b1, b2, b3⟩ := h3 k hk g1
    refine Hd_L ((c13 0 (by decide)).trans g1) (kd := kd) (np := np) (w := w') (f := f) ⟨a1, a2, a3, b1, a5, (c13 1 (by decide)).trans a6, (e 42 _ _ (by decide) (by decide)).trans a7, (c13 4 (by decide)).trans a8, (e 45 _ _ (by decide) (by decide)).trans a9, b2, b3, (c13 3 (by decide)).trans a12, (e 44 _ _ (by decide) (by decide)).trans a13, fun z => ?_, fun p hp => ?_⟩
    · rw [e 48 _ _ (by decide) (by decide), e 49 _ _ (by decide) (by decide)]
      exact a14 z
    · have g := a15 p hp
      unfold PJ at g ⊢
      rw [e 14 _ _ (by decide) (by decide), e 15 _ _ (by decide) (by decide), e 16 _ _ (by decide) (by decide), e 17 _ _ (by decide) (by decide), e 46 _ _ (by decide) (by decide), e 47 _ _ (by decide) (by decide), e 48 _ _ (by decide) (by decide), e 49 _ _ (by decide) (by decide)]
      exact g
theorem pub_weight {s : SS} (h : J s) (k v : Int32) : PI 72 187 [some (.inr (.inr (0, 0))), some (.inl k), some (.inl v), none] [some (.inr (.inr (30, 0))), some (.inl k), some (.inl v), none, none] s := by
  have hin : ∀ t : SS, ev 144 0 [some (.inl v), some (.inl 0), some (.inl 9)] [] t = some (some (.inl (bI (ixB v 10))), t) := fun t => by
    rw [c_144, show (9 : Int32) = nI 9 from rfl, in_ix v 9 (by decide)]
  by_cases hv : ixB v 10 = true
  · by_cases hk : ixB k 8 = true
    · obtain ⟨i, hi, rfl⟩ := (ixB_iff (by decide)).mp hk
      rcases LJ_h (h.2.2.2.2.1.2.2 i hi) with ⟨g1, g2⟩ | ⟨g1, kd, np, w, f, g⟩
      · refine PI_f h (f := 1) (by decide) ?_ (fun t ha _ => ?_)
        · rw [q_72, c_114, hk, cI_s, ite_bI, if_pos rfl, c_116, hv, cI_s, ite_bI, if_pos rfl, if_pos rfl, cl_nI (by omega), g1, if_pos rfl, c_100_1, cI_s]
        · rw [q_187, hin, hv, cI_s, ite_bI, if_pos rfl, al_m hi (by rw [(ha.1 42 (by decide)).1]; exact g2), cI_s, if_pos (by decide)]
      · have g6 := g.2.2.2.2.2.1
        have g7 := g.2.2.2.2.2.2.1
        cases hs : softB (nI kd) with
        | false =>
          refine PI_f h (f := 3) (by decide) ?_ (fun t ha _ => ?_)
          · rw [q_72, c_114, hk, cI_s, ite_bI, if_pos rfl, c_116, hv, cI_s, ite_bI, if_pos rfl, if_pos rfl, cl_nI (by omega), g1, if_neg (by decide), if_pos rfl, g6, c_118, hs, cI_s, ite_bI, if_neg (by decide), c_100_3, cI_s]
          · have g8 : t.1 42 0 i = nI kd := by rw [(ha.1 42 (by decide)).1]; exact g7
            rw [q_187, hin, hv, cI_s, ite_bI, if_pos rfl, al_y hi g.1 g8, cI_s, if_neg (by decide), if_pos hk, cl_nI (by omega), g8, c_181, hs, cI_s, ite_bI, if_neg (by decide), c_145_3, cI_s]
        | true =>
          obtain ⟨u, hu, rfl⟩ := (ixB_iff (by decide)).mp hv
          have e1 : ev 72 0 [some (.inr (.inr (0, 0))), some (.inl (nI i)), some (.inl (nI u)), none] [] s = some (some (.inl (nI w)), wI s 13 (s.2.2 i) 2 (nI u)) := by
            rw [q_72, c_114, hk, cI_s, ite_bI, if_pos rfl, c_116, hv, cI_s, ite_bI, if_pos rfl, if_pos rfl, cl_nI (by omega), g1, if_neg (by decide), if_pos rfl, g6, c_118, hs, cI_s, ite_bI, if_pos rfl, if_pos rfl, if_pos rfl, g.2.2.2.2.2.2.2.2.2.1]
          have g8 : (wI s 13 (s.2.2 i) 2 (nI u)).1 42 0 i = nI kd := g7
          have e2 : ev 187 0 [some (.inr (.inr (30, 0))), some (.inl (nI i)), some (.inl (nI u)), none, none] [] (wI s 13 (s.2.2 i) 2 (nI u)) = some (some (.inl (nI w)), wI (wI s 13 (s.2.2 i) 2 (nI u)) 43 0 i (nI u)) := by
            rw [q_187, hin, hv, cI_s, ite_bI, if_pos rfl, al_y hi g.1 g8, cI_s, if_neg (by decide), if_pos hk, cl_nI (by omega), g8, c_181, hs, cI_s, ite_bI, if_pos rfl, if_pos hk, if_pos hk, show (wI s 13 (s.2.2 i) 2 (nI u)).1 43 0 i = nI w from g.2.2.2.2.2.2.2.2.2.2.1]
          refine ⟨_, _, _, e1, e2, J_wt h (fun a b c ha hc => ?_) rfl (fun k' hk' gk => ?_), fun _ _ => rfl, fun _ _ => rfl⟩
          · rw [wI_1, if_neg (fun z => ha z.1), wI_1, if_neg (fun z => hc z.1 z.2.2)]
          · by_cases e : k' = i
            · subst e
              exact ⟨u, by omega, by simp [wI_1], by simp [wI_1]⟩
            · have hne : s.2.2 k' ≠ s.2.2 i := fun z => e (h.2.2.2.2.1.2.1 k' i (by omega) (by omega) z)
              rcases LJ_h (h.2.2.2.2.1.2.2 k' hk') with ⟨q1, q2⟩ | ⟨q1, kd', np', w', f', q⟩
              · rw [q1] at gk
                exact absurd gk (by decide)
              · exact ⟨w', q.2.2.2.1, by simpa [wI_1, hne] using q.2.2.2.2.2.2.2.2.2.1, by simpa [wI_1, e] using q.2.2.2.2.2.2.2.2.2.2.1⟩
    · refine PI_0 h (-1) ?_ ?_
      · rw [q_72, c_114, ix_no hk, cI_s, ite_bI, if_neg (by decide)]
      · rw [q_187, hin, hv, cI_s, ite_bI, if_pos rfl, al_b (ix_no hk), cI_s, if_pos (by decide)]
  · refine PI_0 h (-1) ?_ ?_
    · rw [q_72, c_114, cI_s, ite_bI, c_116, ix_no hv, cI_s, ite_bI, if_neg (show ¬ false = true by decide), ite_self]
    · rw [q_187, hin, ix_no hv, cI_s, ite_bI, if_neg (by decide)]
/-- a change of the laws: all else stands, the table is stale -/
theorem J_st {s t : SS} (h : J s) (h1 : ∀ a b c, a ≠ 13 → ¬ (42 ≤ a ∧ a ≤ 49) → (a = 0 → c ≠ 8) → t.1 a b c = s.1 a b c) (h2 : t.2.1 = s.2.1) (h8 : t.1 0 0 8 = 1) (hL : JL t) : J t := by
  have e : ∀ a b c, a ≠ 13 → ¬ (42 ≤ a ∧ a ≤ 49) → a ≠ 0 → t.1 a b c = s.1 a b c := fun a b c ha hb hc => h1 a b c ha hb (fun z => absurd z hc)
  have e0 : ∀ c, c ≠ 8 → t.1 0 0 c = s.1 0 0 c := fun c hc => h1 0 0 c (by decide) (by decide) (fun _ => hc)
  have x := fun a b c ha hb hc => e a b c ha hb hc
  refine ⟨?_, ?_, ?_, ?_, hL, Or.inl h8⟩
  · unfold JR
    simp only [x 5 _ _ (by decide) (by decide) (by decide), x 7 _ _ (by decide) (by decide) (by decide), x 32 _ _ (by decide) (by decide) (by decide), x 33 _ _ (by decide) (by decide) (by decide)]
    exact h.1
  · unfold JT
    simp only [x 6 _ _ (by decide) (by decide) (by decide), x 8 _ _ (by decide) (by decide) (by decide), x 35 _ _ (by decide) (by decide) (by decide), x 36 _ _ (by decide) (by decide) (by decide)]
    exact h.2.1
  · unfold JF
    simp only [e0 9 (by decide), e0 12 (by decide), x 30 _ _ (by decide) (by decide) (by decide), x 12 _ _ (by decide) (by decide) (by decide), x 31 _ _ (by decide) (by decide) (by decide), h2]
    exact h.2.2.1
  · unfold JS tl nN
    simp only [e0 7 (by decide), x 30 _ _ (by decide) (by decide) (by decide), x 9 _ _ (by decide) (by decide) (by decide), x 37 _ _ (by decide) (by decide) (by decide)]
    exact h.2.2.2.1
theorem pub_drop {s : SS} (h : J s) (k : Int32) : PI 71 184 [some (.inr (.inr (0, 0))), some (.inl k)] [some (.inr (.inr (30, 0))), some (.inl k), none] s := by
  by_cases hk : ixB k 8 = true
  · obtain ⟨i, hi, rfl⟩ := (ixB_iff (by decide)).mp hk
    rcases LJ_h (h.2.2.2.2.1.2.2 i hi) with ⟨g1, g2⟩ | ⟨g1, kd, np, w, f, g⟩
    · refine PI_f h (f := 1) (by decide) ?_ (fun t ha _ => ?_)
      · rw [q_71, c_114, hk, cI_s, ite_bI, if_pos rfl, if_pos rfl, cl_nI (by omega), g1, if_pos rfl, c_100_1, cI_s]
      · rw [q_184, al_m hi (by rw [(ha.1 42 (by decide)).1]; exact g2), cI_s, if_pos (by decide)]
    · have e1 : ev 71 0 [some (.inr (.inr (0, 0))), some (.inl (nI i))] [] s = some (some (.inl 1), wI (wI s 13 (s.2.2 i) 0 0) 0 0 8 1) := by
        rw [q_71, c_114, hk, cI_s, ite_bI, if_pos rfl, if_pos rfl, cl_nI (by omega), g1, if_neg (by decide), if_pos rfl]
      have e2 : ev 184 0 [some (.inr (.inr (30, 0))), some (.inl (nI i)), none] [] (wI (wI s 13 (s.2.2 i) 0 0) 0 0 8 1) = some (some (.inl 1), wI (wI (wI s 13 (s.2.2 i) 0 0) 0 0 8 1) 42 0 i (-9)) := by
        rw [q_184, al_y (s := wI (wI s 13 (s.2.2 i) 0 0) 0 0 8 1) hi g.1 g.2.2.2.2.2.2.1, cI_s, if_neg (by decide), if_pos hk, cl_nI (by omega)]
      refine ⟨_, _, _, e1, e2, J_st h (fun a b c h1 h2 h3 => ?_) rfl rfl ⟨h.2.2.2.2.1.1, h.2.2.2.2.1.2.1, fun k' hk' => ?_⟩, fun _ _ => rfl, fun _ _ => rfl⟩
      · rw [wI_1, if_neg (fun z => h2 (by rw [z.1]; decide)), wI_1, if_neg (fun z => h3 z.1 z.2.2), wI_1, if_neg (fun z => h1 z.1)]
      · by_cases e : k' = i
        · subst e
          exact Or.inl ⟨by simp [wI_1, wI_2], by simp [wI_1]⟩
        · have hne : s.2.2 k' ≠ s.2.2 i := fun z => e (h.2.2.2.2.1.2.1 k' i (by omega) (by omega) z)
          refine LJ_cg (s := s) (h.2.2.2.2.1.2.2 k' hk') (fun a c a1 a2 => ?_) (fun a a1 a2 => ?_) (fun a p a1 a2 _ => ?_)
          · have z1 : a ≠ 42 := by omega
            have z2 : a ≠ 0 := by omega
            simp [wI_1, wI_2, hne, z1, z2]
          · have z1 : a ≠ 13 := by omega
            have z2 : a ≠ 0 := by omega
            simp [wI_1, e, z1, z2]
          · have z1 : a ≠ 13 := by omega
            have z2 : a ≠ 0 := by omega
            have z3 : a ≠ 42 := by omega
            simp [wI_1, z1, z2, z3]
  · refine PI_0 h (-1) ?_ ?_
    · rw [q_71, c_114, ix_no hk, cI_s, ite_bI, if_neg (by decide)]
    · rw [q_184, al_b (ix_no hk), cI_s, if_pos (by decide)]
/-- is a law of that kind, or of its wider kind -/
def ofN (kd v : Nat) : Bool := if v = 1 then (kd == 1 || kd == 4) else if v = 2 then (kd == 2 || kd == 3) else kd == v
theorem of_t : ∀ kd, kd < 5 → ∀ v, v < 5 → (hardB (nI kd) = (kd == 1 || kd == 4)) ∧ (softB (nI kd) = (kd == 2 || kd == 3)) ∧ (decide (nI kd = nI v) = (kd == v)) := by decide
theorem c_119 {s : SS} {j kd v : Nat} (hk : kd < 5) (hv : v < 5) (h : s.1 13 j 1 = nI kd) : ev 119 0 [some (.inr (.inr (13, j))), some (.inl (nI v))] [] s = some (some (.inl (bI (ofN kd v))), s) := by
  obtain ⟨t1, t2, t3⟩ := of_t kd hk v hv
  rw [q_119, h, c_117, c_118, cI_s, cI_s, bI_Z, bI_Z, t1, t2]
  have e1 : (nI v = (1 : Int32)) = (v = 1) := n_eq (a := v) (b := 1) (by omega) (by decide)
  have e2 : (nI v = (2 : Int32)) = (v = 2) := n_eq (a := v) (b := 2) (by omega) (by decide)
  have e3 : (nI kd = nI v) = (kd = v) := n_eq (by omega) (by omega)
  simp only [e1, e2, e3]
  unfold ofN
  by_cases a1 : v = 1
  · simp [a1]
  · by_cases a2 : v = 2
    · simp [a2]
    · by_cases a3 : kd = v <;> simp [a1, a2, a3, bI]
theorem r_193 {s : SS} {i kd v : Nat} (hi : i < 8) (hk : kd < 5) (hv : v < 5) (hv1 : 1 ≤ v) (h : s.1 42 0 i = nI kd) : ev 193 0 [some (.inr (.inr (30, 0))), some (.inl (nI i)), some (.inl (nI v)), none, none] [] s = ev 193 68 [some (.inr (.inr (30, 0))), some (.inl (nI i)), some (.inl (nI v)), none, none] [(.inl (bI (ofN kd v)))] s := by
  have hin : ev 144 0 [some (.inl (nI v)), some (.inl 1), some (.inl 4)] [] s = some (some (.inl 1), s) := by
    rw [c_144, decide_eq_false (show ¬ nI v < (1 : Int32) from by rw [n_ltL (by omega) (by decide)]; show ¬ v < 1; omega), decide_eq_false (show ¬ (4 : Int32) < nI v from by rw [L_ltn (by omega) (by decide)]; show ¬ 4 < v; omega)]
    rfl
  rw [q_193, hin, cI_s, if_neg (by decide), al_y hi hk h, cI_s, if_neg (by decide), if_pos (ixB_nI hi (by decide)), if_pos (ixB_nI hi (by decide)), cl_nI (by omega), h, q_193_at48, if_pos (ixB_nI hi (by decide)), cl_nI (by omega), h]
  have e1 : (nI v = (1 : Int32)) = (v = 1) := n_eq (a := v) (b := 1) (by omega) (by decide)
  have e2 : (nI v = (2 : Int32)) = (v = 2) := n_eq (a := v) (b := 2) (by omega) (by decide)
  have e3 : (nI kd = nI v) = (kd = v) := n_eq (by omega) (by omega)
  have e4 : (nI kd = (4 : Int32)) = (kd = 4) := n_eq (a := kd) (b := 4) (by omega) (by decide)
  have e5 : (nI kd = (3 : Int32)) = (kd = 3) := n_eq (a := kd) (b := 3) (by omega) (by decide)
  simp only [e1, e2, e3, e4, e5]
  unfold ofN
  by_cases a1 : v = 1
  · subst a1
    by_cases b1 : kd = 1 <;> by_cases b2 : kd = 4 <;> simp [b1, b2, bI]
  · by_cases a2 : v = 2
    · subst a2
      by_cases b1 : kd = 2 <;> by_cases b2 : kd = 3 <;> simp [b1, b2, bI]
    · by_cases a3 : kd = v <;> simp [a1, a2, a3, bI]
theorem pub_mark {s : SS} (h : J s) (k v : Int32) : PI 74 193 [some (.inr (.inr (0, 0))), some (.inl k), some (.inl v)] [some (.inr (.inr (30, 0))), some (.inl k), some (.inl v), none, none] s := by
  have hbad : ∀ t : SS, (ixB v 5 = false ∨ v = 0) → ev 193 0 [some (.inr (.inr (30, 0))), some (.inl k), some (.inl v), none, none] [] t = some (some (.inl (-1)), t) := by
    intro t hv
    have : (!(decide (v < 1)) && !(decide ((4 : Int32) < v))) = false := by
      rcases hv with hv | hv
      · rcases ixB_no (n := 5) (by decide) (by rw [hv]; decide) with g | g
        · have : v < 1 := by
            rw [lt_iff] at g ⊢
            have t0 : (0 : Int32).toInt = 0 := rfl
            have t1 : (1 : Int32).toInt = 1 := rfl
            omega
          simp [this]
        · have : 4 < v := by
            rw [le_iff] at g
            rw [lt_iff]
            have t0 : (nI 5).toInt = 5 := rfl
            have t1 : (4 : Int32).toInt = 4 := rfl
            omega
          simp [this]
      · subst hv
        rfl
    rw [q_193, c_144, this, cI_s, ite_bI, if_neg (by decide)]
  by_cases hv : ixB v 5 = true
  · obtain ⟨u, hu, rfl⟩ := (ixB_iff (by decide)).mp hv
    by_cases hu0 : u = 0
    · subst hu0
      refine PI_0 h (-1) ?_ (hbad _ (Or.inr rfl))
      rw [q_74, c_114, cI_s, ite_bI, c_115, hv, cI_s, ite_bI, if_pos (show true = true from rfl), if_pos (show nI 0 = 0 from rfl), ite_self]
    · have nz : ¬ nI u = 0 := by
        rw [z_eq (by omega)]
        exact hu0
      by_cases hk : ixB k 8 = true
      · obtain ⟨i, hi, rfl⟩ := (ixB_iff (by decide)).mp hk
        rcases LJ_h (h.2.2.2.2.1.2.2 i hi) with ⟨g1, g2⟩ | ⟨g1, kd, np, w, f, g⟩
        · refine PI_f h (f := 1) (by decide) ?_ (fun t ha _ => ?_)
          · rw [q_74, c_114, hk, cI_s, ite_bI, if_pos rfl, c_115, hv, cI_s, ite_bI, if_pos rfl, if_neg nz, if_pos rfl, cl_nI (by omega), g1, if_pos rfl, c_100_1, cI_s]
          · have hin : ev 144 0 [some (.inl (nI u)), some (.inl 1), some (.inl 4)] [] t = some (some (.inl 1), t) := by
              rw [c_144, decide_eq_false (show ¬ nI u < (1 : Int32) from by rw [n_ltL (by omega) (by decide)]; show ¬ u < 1; omega), decide_eq_false (show ¬ (4 : Int32) < nI u from by rw [L_ltn (by omega) (by decide)]; show ¬ 4 < u; omega)]
              rfl
            rw [q_193, hin, cI_s, if_neg (by decide), al_m hi (by rw [(ha.1 42 (by decide)).1]; exact g2), cI_s, if_pos (by decide)]
        · have g6 := g.2.2.2.2.2.1
          have g7 := g.2.2.2.2.2.2.1
          have e1 : ev 74 0 [some (.inr (.inr (0, 0))), some (.inl (nI i)), some (.inl (nI u))] [] s = (if ofN kd u = true then some (some (.inl (nI (mkN s i np w f u))), s) else some (some (.inl (-3)), fC s 3)) := by
            rw [q_74, c_114, hk, cI_s, ite_bI, if_pos rfl, c_115, hv, cI_s, ite_bI, if_pos rfl, if_neg nz, if_pos rfl, cl_nI (by omega), g1, if_neg (by decide), if_pos rfl, c_119 g.1 hu g6, cI_s, ite_bI, if_pos rfl, c_120 hu g, cI_s, c_100_3, cI_s]
          cases ho : ofN kd u with
          | true =>
            rw [ho, if_pos rfl] at e1
            refine PI_0 h _ e1 ?_
            rw [r_193 hi g.1 hu (by omega) g7, ho, q_193_at68, if_neg (by decide), c_192 hi hu g, cI_s]
          | false =>
            rw [ho, if_neg (by decide)] at e1
            refine PI_f h (f := 3) (by decide) e1 (fun t ha _ => ?_)
            rw [r_193 hi g.1 hu (by omega) (by rw [(ha.1 42 (by decide)).1]; exact g7), ho, q_193_at68, if_pos (show bI false = 0 from rfl), c_145_3, cI_s]
      · refine PI_0 h (-1) ?_ ?_
        · rw [q_74, c_114, ix_no hk, cI_s, ite_bI, if_neg (by decide)]
        · have hin : ev 144 0 [some (.inl (nI u)), some (.inl 1), some (.inl 4)] [] s = some (some (.inl 1), s) := by
            rw [c_144, decide_eq_false (show ¬ nI u < (1 : Int32) from by rw [n_ltL (by omega) (by decide)]; show ¬ u < 1; omega), decide_eq_false (show ¬ (4 : Int32) < nI u from by rw [L_ltn (by omega) (by decide)]; show ¬ 4 < u; omega)]
            rfl
          rw [q_193, hin, cI_s, if_neg (by decide), al_b (ix_no hk), cI_s, if_pos (by decide)]
  · refine PI_0 h (-1) ?_ (hbad _ (Or.inl (ix_no hv)))
    rw [q_74, c_114, cI_s, ite_bI, c_115, ix_no hv, cI_s, ite_bI, if_neg (show ¬ false = true by decide), ite_self]
