/-! likeliest, near, cost, broken -/
theorem bst_c {s : SS} (hS : JS s) (hL : JL s) {A : Nat → Bool} {n w c : Nat} (h : bst s A n = some (w, c)) : w < n ∧ c ≤ 1152 := by
  have h1 := bst_some h
  have h2 := sc_le hS hL A w
  rw [← h1.2.2] at h2
  exact ⟨h1.1, h2⟩
theorem c_50 {s u : SS} {A : Nat → Bool} (hS : JS s) (hL : JL s) (b : CB s A (nW s) u) : ev 50 0 [some (.inr (.inr (11, 0)))] [] u = some (some (.inl (bI (!(bst s A (nW s)).isSome))), u) := by
  rw [q_50]
  unfold CB at b
  cases hp : bst s A (nW s) with
  | none =>
    rw [hp] at b
    rw [if_pos b.2]
    rfl
  | some q =>
    obtain ⟨w, c⟩ := q
    rw [hp] at b
    have := bst_c hS hL hp
    rw [if_neg (by rw [b.2, show (1000000 : Int32) = nI 1000000 from rfl, n_eq (by omega) (by decide)]; omega)]
    rfl
theorem pub_likeliest {s : SS} (h : J s) : PI 78 208 [some (.inr (.inr (0, 0)))] [some (.inr (.inr (30, 0)))] s := by
  have hS := h.2.2.2.1
  have hL := h.2.2.2.2.1
  obtain ⟨u, e1, sv⟩ := sv0 h
  have cb := sv.2.2.2.2.2.1
  have e50 := c_50 hS hL cb
  unfold CB at cb
  cases hp : bst s (aA 0) (nW s) with
  | none =>
    rw [hp] at e50 cb
    obtain ⟨v, e2, rs, tb', rw', js, sp⟩ := c_201u sv.2.1 (QF_SP sv.1) TK_rf
    rw [hp] at e2
    refine PS (-9) (u1 := u) (w := u) (v := v) ?_ ?_ sv.2.1 rs (QF_60 sv.1) (QF_60 sv.1)
    · rw [q_78, e1, cV_s, e50, cI_s, ite_bI]
      rfl
    · rw [q_208, e2, cI_s, ite_bI, if_neg (by decide)]
  | some q =>
    obtain ⟨w, c⟩ := q
    rw [hp] at e50 cb
    obtain ⟨v, e2, rs, tb', rw', js, sp⟩ := c_201u sv.2.1 (QF_SP sv.1) (TK_9 (v := nI c))
    rw [hp] at e2
    have rb := rw'.2.1
    unfold RB at rb
    rw [hp] at rb
    refine PS (nI w) (u1 := wI u 0 0 9 (nI c)) (v := wI v 30 0 2 (nI c)) ?_ ?_ (J_ask sv.2.1 (nI c)) (RS_wI rs _ _ _ _) (fun b c => QF_60 sv.1 b c) (fun b c => QF_60 sv.1 b c)
    · rw [q_78, e1, cV_s, e50, cI_s, ite_bI, if_neg (by simp), cb.2, ← cb.1]
      rfl
    · rw [q_208, e2, cI_s, ite_bI, if_pos (by simp), rb.1, rb.2, q_146, cI_s]
/-! near -/
def neB (s : SS) (A : Nat → Bool) (d v : Nat) : Bool := !hbB s A v && (match bst s A (nW s) with
  | none => false
  | some (_, c) => !decide (d < scN s A v - c))
theorem hb_f {b : Bool} (h : ¬ b = true) : b = false := by
  cases b
  · rfl
  · exact absurd rfl h
theorem c_53 {s u : SS} {A : Nat → Bool} (hS : JS s) (hL : JL s) (h0 : u.1 11 0 0 = nI (nW s)) (cw : CW s A u) {d : Nat} (hd : d ≤ 999) : ev 53 0 [some (.inr (.inr (11, 0))), some (.inl (nI d)), none, none] [] u = some (some (.inl (nI (cn (neB s A d) (nW s)))), u) := by
  have hW := nW_le hS
  have hl := lpN (P := fun i => ev 53 4 [some (.inr (.inr (11, 0))), some (.inl (nI d)), some (.inl (nI (cn (neB s A d) i))), some (.inl (nI i))] [] u) (nW s) (fun i hi => by
    show ev 53 4 [some (.inr (.inr (11, 0))), some (.inl (nI d)), some (.inl (nI (cn (neB s A d) i))), some (.inl (nI i))] [] u = ev 53 4 [some (.inr (.inr (11, 0))), some (.inl (nI d)), some (.inl (nI (cn (neB s A d) i + (if neB s A d i = true then 1 else 0)))), some (.inl (nI (i + 1)))] [] u
    have x : ixB (nI i) 1024 = true := ixB_nI (by omega) (by decide)
    have hc := sc_le hS hL A i
    rw [q_53_at4, h0, if_pos (nI_lt hi (by omega)), c_51 hS hL hi (cw.1 i hi), cI_s, ite_bI, if_pos x, cl_nI (by omega), cw.1 i hi, nI_s, nI_s]
    by_cases hb : hbB s A i = true
    · rw [if_pos hb]
      have : neB s A d i = false := by
        unfold neB
        rw [hb]
        rfl
      rw [this]
      rfl
    · rw [if_neg hb]
      obtain ⟨w, c, hp, hle⟩ := bst_min hi (hb_f hb)
      have b := cw.2.1
      unfold CB at b
      rw [hp] at b
      have ec : cC s A i = nI (scN s A i) := if_neg hb
      have en : neB s A d i = !decide (d < scN s A i - c) := by
        unfold neB
        rw [hb_f hb, hp]
        rfl
      rw [ec, b.2, n_sub hle, en]
      by_cases hq : d < scN s A i - c
      · rw [if_pos (nI_lt hq (by omega)), decide_eq_true hq]
        rfl
      · rw [if_neg (by rw [n_lt (by omega) (by omega)]; exact hq), decide_eq_false hq]
        rfl)
  rw [q_53]
  refine (show ev 53 4 [some (.inr (.inr (11, 0))), some (.inl (nI d)), some (.inl (nI 0)), some (.inl (nI 0))] [] u = _ from hl).trans ?_
  rw [q_53_at4, h0, if_neg (irr _)]
theorem c_209l {s v : SS} {A : Nat → Bool} (hS : JS s) (hL : JL s) (h0 : v.1 30 0 28 = nI (nW s)) (rw' : RW s A v) {d : Nat} (hd : d ≤ 999) : ev 209 23 [some (.inr (.inr (30, 0))), some (.inl (nI d)), some (.inl 0), some (.inl (bI (bst s A (nW s)).isSome)), some (.inl 0)] [] v = some (some (.inl (nI (cn (neB s A d) (nW s)))), v) := by
  have hW := nW_le hS
  cases hp : bst s A (nW s) with
  | none =>
    have : cn (neB s A d) (nW s) = 0 := by
      have hz : ∀ n, cn (neB s A d) n = 0 := by
        intro n
        induction n with
        | zero => rfl
        | succ n ih =>
          show cn (neB s A d) n + _ = 0
          have : neB s A d n = false := by
            unfold neB
            rw [hp, Bool.and_false]
          rw [ih, this]
          rfl
      exact hz _
    rw [this, q_209_at23, h0, if_pos (show (0 : Int32) < nI (nW s) from nI_lt (a := 0) (nW_pos s) (by omega)), if_pos (by rfl)]
    rfl
  | some q =>
    obtain ⟨w0, c0⟩ := q
    have hl := lpN (P := fun i => ev 209 23 [some (.inr (.inr (30, 0))), some (.inl (nI d)), some (.inl (nI (cn (neB s A d) i))), some (.inl 1), some (.inl (nI i))] [] v) (nW s) (fun i hi => by
      show ev 209 23 [some (.inr (.inr (30, 0))), some (.inl (nI d)), some (.inl (nI (cn (neB s A d) i))), some (.inl 1), some (.inl (nI i))] [] v = ev 209 23 [some (.inr (.inr (30, 0))), some (.inl (nI d)), some (.inl (nI (cn (neB s A d) i + (if neB s A d i = true then 1 else 0)))), some (.inl 1), some (.inl (nI (i + 1)))] [] v
      have x : ixB (nI i) 1024 = true := ixB_nI (by omega) (by decide)
      have hc := sc_le hS hL A i
      rw [q_209_at23, h0, if_pos (nI_lt hi (by omega)), if_neg (by decide), if_pos x, if_pos x, cl_nI (by omega), rw'.1 i hi, nI_s, nI_s, nI_z]
      by_cases hb : hbB s A i = true
      · have ec : cR s A i = -9 := if_pos hb
        have : neB s A d i = false := by
          unfold neB
          rw [hb]
          rfl
        rw [ec, if_pos (by decide), this]
        rfl
      · obtain ⟨w, c, hp2, hle⟩ := bst_min hi (hb_f hb)
        have b := rw'.2.1
        unfold RB at b
        rw [hp2] at b
        have ec : cR s A i = nI (scN s A i) := if_neg hb
        have en : neB s A d i = !decide (d < scN s A i - c) := by
          unfold neB
          rw [hb_f hb, hp2]
          rfl
        rw [ec, if_neg (nI_pos (by omega)), b.2, n_sub hle, en]
        by_cases hq : d < scN s A i - c
        · rw [if_pos (nI_lt hq (by omega)), decide_eq_true hq]
          rfl
        · rw [if_neg (by rw [n_lt (by omega) (by omega)]; exact hq), decide_eq_false hq]
          rfl)
    refine (show ev 209 23 [some (.inr (.inr (30, 0))), some (.inl (nI d)), some (.inl (nI 0)), some (.inl 1), some (.inl (nI 0))] [] v = _ from hl).trans ?_
    rw [q_209_at23, h0, if_neg (irr _)]
theorem pub_near {s : SS} (h : J s) (p : Int32) : PI 79 209 [some (.inr (.inr (0, 0))), some (.inl p)] [some (.inr (.inr (30, 0))), some (.inl p), none, none, none] s := by
  rcases three p 999 (by decide) with hp | hp | ⟨d, hd, rfl⟩
  · refine PI_0 h (-1) ?_ ?_
    · rw [q_79, if_pos hp]
    · rw [q_209, c_144, cI_s, ite_bI, if_neg (by simp [hp])]
  · refine PI_0 h (-1) ?_ ?_
    · rw [q_79, if_neg (big_nn hp (by decide)), if_pos (show (999 : Int32) < p from hp)]
    · rw [q_209, c_144, cI_s, ite_bI, if_neg (by simp [show (999 : Int32) < p from hp])]
  · have hS := h.2.2.2.1
    have hL := h.2.2.2.2.1
    have n9 : ¬ (999 : Int32) < nI d := fun z => by
      have := (n_lt (a := 999) (b := d) (by decide) (by omega)).mp z
      omega
    obtain ⟨u, e1, sv⟩ := sv0 h
    obtain ⟨v, e2, rs, tb', rw', js, sp⟩ := c_201u sv.2.1 (QF_SP sv.1) TK_rf
    refine PS (nI (cn (neB s (aA 0) d) (nW s))) (u1 := u) (w := u) (v := v) ?_ ?_ sv.2.1 rs (QF_60 sv.1) (QF_60 sv.1)
    · rw [q_79, if_neg (nI_pos (by omega)), if_neg n9, e1, cV_s, c_53 hS hL (by rw [sv.2.2.1.1, (SP_brk (QF_SP sv.1)).2.2]) sv.2.2.2.2 hd, cI_s]
    · rw [q_209, c_144, cI_s, ite_bI, if_pos (by simp [n9, nI_pos (show d < 2147483648 by omega)]), e2, cI_s, c_209l hS hL (by rw [tb'.1.2, (SP_brk sp).2.2]) rw' hd]
