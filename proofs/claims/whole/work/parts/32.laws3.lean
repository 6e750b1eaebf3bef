theorem PJ_all {s : SS} {j k p : Nat} (h : PJ s j k p) : ∃ d so on tw, d ≤ 1 ∧ so ≤ 3 ∧ on ≤ 1 ∧ tw ≤ 1 ∧ s.1 17 j p = nI d ∧ s.1 46 0 (6 * k + p) = nI d ∧ s.1 47 0 (6 * k + p) = nI so ∧ s.1 48 0 (6 * k + p) = nI on ∧ s.1 49 0 (6 * k + p) = nI tw ∧ ((so = 3 ∧ s.1 14 j p = nI 12 ∧ s.1 15 j p = nI on ∧ s.1 16 j p = nI tw) ∨ (so < 3 ∧ tw = 0 ∧ s.1 14 j p = nI (4 * so) ∧ s.1 15 j p = -1 ∧ s.1 16 j p = nI on)) ∧ pt1 s (6 * k + p) = on ∧ pt2 s (6 * k + p) = tw ∧ ptS s (6 * k + p) = so ∧ ptN s (6 * k + p) = !(d == 0) := by
  obtain ⟨d, so, on, tw, h1, h2, h3, h4, h5, h6, h7, h8, h9, h10⟩ := h
  refine ⟨d, so, on, tw, h1, h2, h3, h4, h5, h6, h7, h8, h9, h10, ?_, ?_, ?_, ?_⟩
  · unfold pt1; rw [h8, cl_nI (by omega)]
  · unfold pt2; rw [h9, cl_nI (by omega)]
  · unfold ptS; rw [h7, cl_nI (by omega)]
  · unfold ptN
    rw [h6]
    rcases (show d = 0 ∨ d = 1 by omega) with rfl | rfl <;> rfl
theorem z_eq {n : Nat} (h : n < 2147483648) : (nI n = (0 : Int32)) = (n = 0) := n_eq (a := n) (b := 0) h (by decide)
/-- the saying of a part, class -/
theorem c_36 {s : SS} {j k kd np w f p : Nat} (h : Hd s j k kd np w f) (hp : p < np) (x y : Nat) : ev 36 0 [some (.inr (.inr (13, j))), some (.inl (nI p)), some (.inl (nI x)), some (.inl (nI y)), none] [] s = some (some (.inl (nI (sayN s (6 * k + p) x y))), s) := by
  have h3 := h.2.2.1
  obtain ⟨d, so, on, tw, b1, b2, b3, b4, b5, b6, b7, b8, b9, b10, a1, a2, a3, a4⟩ := PJ_all (h.2.2.2.2.2.2.2.2.2.2.2.2.2.2 p hp)
  have p6 : ixB (nI p) 6 = true := ixB_nI (by omega) (by decide)
  rw [q_36, if_neg (nI_pos (by omega)), h.2.2.2.2.2.2.2.1, if_pos (nI_lt hp (by omega)), if_pos p6, cl_nI (by omega)]
  unfold sayN
  rw [a1, a2, a3]
  rcases b10 with ⟨g1, g2, g3, g4⟩ | ⟨g1, g2, g3, g4, g5⟩
  · have key : ∀ z : Nat, ev 36 28 [some (.inr (.inr (13, j))), some (.inl (nI p)), some (.inl (nI x)), some (.inl (nI y)), none] [(.inl (nI z))] s = some (some (.inl (nI (12 + 4 * (if on = 0 then x else y) + z))), s) := by
      intro z
      rw [q_36_at28, if_pos p6, cl_nI (by omega), g3, if_neg (nm1 on (by omega)), if_pos p6, if_pos p6, g2]
      simp only [z_eq (n := on) (by omega)]
      by_cases e : on = 0
      · rw [if_pos e, if_pos e, n_mulL, n_add, n_add]
      · rw [if_neg e, if_neg e, n_mulL, n_add, n_add]
    rw [g4, if_pos g1]
    simp only [z_eq (n := tw) (by omega)]
    by_cases e : tw = 0
    · rw [if_pos e, if_pos e, key]
    · rw [if_neg e, if_neg e, key]
  · have key : ∀ z : Nat, ev 36 28 [some (.inr (.inr (13, j))), some (.inl (nI p)), some (.inl (nI x)), some (.inl (nI y)), none] [(.inl (nI z))] s = some (some (.inl (nI (4 * so + z))), s) := by
      intro z
      rw [q_36_at28, if_pos p6, cl_nI (by omega), g4, if_pos rfl, if_pos p6, g3, n_add]
    rw [g5, if_neg (show ¬ so = 3 by omega)]
    simp only [z_eq (n := on) (by omega)]
    by_cases e : on = 0
    · rw [if_pos e, if_pos e, key]
    · rw [if_neg e, if_neg e, key]
theorem c_35 {s : SS} {j k kd np w f : Nat} (h : Hd s j k kd np w f) : ev 35 0 [some (.inr (.inr (13, j))), none, none] [] s = some (some (.inl (nI (cn (fun p => ptN s (6 * k + p)) np))), s) := by
  have h3 := h.2.2.1
  rw [q_35]
  have hl := lpN (P := fun i => ev 35 4 [some (.inr (.inr (13, j))), some (.inl (nI (cn (fun p => ptN s (6 * k + p)) i))), some (.inl (nI i))] [] s) np (fun i hi => by
    show ev 35 4 [some (.inr (.inr (13, j))), some (.inl (nI (cn (fun p => ptN s (6 * k + p)) i))), some (.inl (nI i))] [] s = ev 35 4 [some (.inr (.inr (13, j))), some (.inl (nI (cn (fun p => ptN s (6 * k + p)) i + (if ptN s (6 * k + i) = true then 1 else 0)))), some (.inl (nI (i + 1)))] [] s
    obtain ⟨d, so, on, tw, b1, b2, b3, b4, b5, b6, b7, b8, b9, b10, a1, a2, a3, a4⟩ := PJ_all (h.2.2.2.2.2.2.2.2.2.2.2.2.2.2 i hi)
    rw [q_35_at4, h.2.2.2.2.2.2.2.1, if_pos (nI_lt hi (by omega)), if_pos (ixB_nI (by omega) (by decide)), cl_nI (by omega), b5, nI_s, nI_s, a4]
    simp only [z_eq (n := d) (by omega)]
    by_cases e : d = 0 <;> simp [e])
  refine (show ev 35 4 [some (.inr (.inr (13, j))), some (.inl (nI 0)), some (.inl (nI 0))] [] s = _ from hl).trans ?_
  rw [q_35_at4, h.2.2.2.2.2.2.2.1, if_neg (irr _)]
theorem c_190 {s : SS} {j k kd np w f : Nat} (hk : k < 8) (h : Hd s j k kd np w f) : ev 190 0 [some (.inr (.inr (30, 0))), some (.inl (nI k)), none, none] [] s = some (some (.inl (nI (cn (fun p => ptN s (6 * k + p)) np))), s) := by
  have h3 := h.2.2.1
  rw [q_190, n_mulL]
  have hl := lpN (P := fun i => ev 190 7 [some (.inr (.inr (30, 0))), some (.inl (nI k)), some (.inl (nI (cn (fun p => ptN s (6 * k + p)) i))), some (.inl (nI (6 * k + i)))] [] s) np (fun i hi => by
    show ev 190 7 [some (.inr (.inr (30, 0))), some (.inl (nI k)), some (.inl (nI (cn (fun p => ptN s (6 * k + p)) i))), some (.inl (nI (6 * k + i)))] [] s = ev 190 7 [some (.inr (.inr (30, 0))), some (.inl (nI k)), some (.inl (nI (cn (fun p => ptN s (6 * k + p)) i + (if ptN s (6 * k + i) = true then 1 else 0)))), some (.inl (nI (6 * k + i + 1)))] [] s
    obtain ⟨d, so, on, tw, b1, b2, b3, b4, b5, b6, b7, b8, b9, b10, a1, a2, a3, a4⟩ := PJ_all (h.2.2.2.2.2.2.2.2.2.2.2.2.2.2 i hi)
    rw [q_190_at7, if_pos (ixB_nI hk (by decide)), cl_nI (by omega), h.2.2.2.2.2.2.2.2.1, n_mulL, n_add, if_pos (nI_lt (show 6 * k + i < 6 * k + np by omega) (show 6 * k + np < 2147483648 by omega)), if_pos (ixB_nI (show 6 * k + i < 48 by omega) (by decide)), cl_nI (show 6 * k + i < 2147483648 by omega), b6, nI_s, nI_s, nI_z, a4]
    simp only [z_eq (n := d) (by omega)]
    by_cases e : d = 0 <;> simp [e])
  refine (show ev 190 7 [some (.inr (.inr (30, 0))), some (.inl (nI k)), some (.inl (nI 0)), some (.inl (nI (6 * k + 0)))] [] s = _ from hl).trans ?_
  rw [q_190_at7, if_pos (ixB_nI hk (by decide)), cl_nI (by omega), h.2.2.2.2.2.2.2.2.1, n_mulL, n_add, if_neg (irr _)]
/-- the mark of a law, of kind v -/
def mkN (s : SS) (k np w f v : Nat) : Nat := if v = 1 then cn (fun p => ptN s (6 * k + p)) np else if v = 2 then w else if v = 3 then f else if v = 4 then sayN s (6 * k) 0 0 else 0
theorem c_120 {s : SS} {j k kd np w f v : Nat} (hv : v < 5) (h : Hd s j k kd np w f) : ev 120 0 [some (.inr (.inr (13, j))), some (.inl (nI v))] [] s = some (some (.inl (nI (mkN s k np w f v))), s) := by
  rw [q_120, c_35 h, cI_s, h.2.2.2.2.2.2.2.2.2.1, h.2.2.2.2.2.2.2.2.2.2.2.1, show (0 : Int32) = nI 0 from rfl, c_36 h (by have := h.2.1; omega) 0 0, cI_s]
  rcases (show v = 0 ∨ v = 1 ∨ v = 2 ∨ v = 3 ∨ v = 4 by omega) with rfl | rfl | rfl | rfl | rfl <;> rfl
theorem c_192 {s : SS} {j k kd np w f v : Nat} (hk : k < 8) (hv : v < 5) (h : Hd s j k kd np w f) : ev 192 0 [some (.inr (.inr (30, 0))), some (.inl (nI k)), some (.inl (nI v))] [] s = some (some (.inl (nI (mkN s k np w f v))), s) := by
  obtain ⟨d, so, on, tw, b1, b2, b3, b4, b5, b6, b7, b8, b9, b10, a1, a2, a3, a4⟩ := PJ_all (h.2.2.2.2.2.2.2.2.2.2.2.2.2.2 0 (by have := h.2.1; omega))
  have e1 : sayN s (6 * k) 0 0 = if so = 3 then 12 else 4 * so := by
    have a3' : ptS s (6 * k) = so := a3
    unfold sayN
    rw [a3', ite_self, ite_self]
    rfl
  have e2 : ev 191 0 [some (.inl (nI so)), some (.inl 0), some (.inl 0)] [] s = some (some (.inl (nI (if so = 3 then 12 else 4 * so))), s) := by
    rw [q_191]
    rcases (show so = 0 ∨ so = 1 ∨ so = 2 ∨ so = 3 by omega) with rfl | rfl | rfl | rfl <;> rfl
  have b7' : s.1 47 0 (6 * k) = nI so := b7
  rw [q_192, c_190 hk h, cI_s, if_pos (ixB_nI hk (by decide)), if_pos (ixB_nI hk (by decide)), cl_nI (show k < 2147483648 by omega), h.2.2.2.2.2.2.2.2.2.2.1, h.2.2.2.2.2.2.2.2.2.2.2.2.1, n_mulL, if_pos (ixB_nI (show 6 * k < 48 by omega) (by decide)), cl_nI (show 6 * k < 2147483648 by omega), b7', e2, cI_s]
  unfold mkN
  rw [e1]
  rcases (show v = 0 ∨ v = 1 ∨ v = 2 ∨ v = 3 ∨ v = 4 by omega) with rfl | rfl | rfl | rfl | rfl <;> rfl
def tlN (s : SS) (k kd np v : Nat) : Nat := if v = 0 then kd else if v = 1 then np else csN s k
theorem c_121 {s : SS} {j k kd np w f v : Nat} (hS : JS s) (hv : v < 3) (h : Hd s j k kd np w f) : ev 121 0 [some (.inr (.inr (0, 0))), some (.inr (.inr (13, j))), some (.inl (nI v))] [] s = some (some (.inl (nI (tlN s k kd np v))), s) := by
  rw [q_121, hS.1.2.2.1, c_33 h, cI_s, h.2.2.2.2.2.1, h.2.2.2.2.2.2.2.1]
  rcases (show v = 0 ∨ v = 1 ∨ v = 2 by omega) with rfl | rfl | rfl <;> rfl
theorem c_188 {s : SS} {j k kd np w f v : Nat} (hS : JS s) (hk : k < 8) (hv : v < 3) (h : Hd s j k kd np w f) : ev 188 0 [some (.inr (.inr (30, 0))), some (.inl (nI k)), some (.inl (nI v))] [] s = some (some (.inl (nI (tlN s k kd np v))), s) := by
  rw [q_188, if_pos (ixB_nI hk (by decide)), if_pos (ixB_nI hk (by decide)), cl_nI (by omega), c_186 hk h hS.1.2.2.2, cI_s, h.2.2.2.2.2.2.1, h.2.2.2.2.2.2.2.2.1]
  rcases (show v = 0 ∨ v = 1 ∨ v = 2 by omega) with rfl | rfl | rfl <;> rfl
theorem al_b {s : SS} {k : Int32} (h : ixB k 8 = false) : ev 180 0 [some (.inr (.inr (30, 0))), some (.inl k)] [] s = some (some (.inl (-1)), s) := by
  rw [q_180, c_179, h, cI_s, ite_bI, if_neg (by decide)]
theorem al_m {s : SS} {k : Nat} (hk : k < 8) (h : s.1 42 0 k = -9) : ev 180 0 [some (.inr (.inr (30, 0))), some (.inl (nI k))] [] s = some (some (.inl (-3)), fR s 1) := by
  rw [q_180, c_179, ixB_nI hk (by decide), cI_s, ite_bI, if_pos rfl, if_pos rfl, cl_nI (by omega), h, if_pos (by decide), c_145_1, cI_s]
theorem al_y {s : SS} {k kd : Nat} (hk : k < 8) (hd : kd < 5) (h : s.1 42 0 k = nI kd) : ev 180 0 [some (.inr (.inr (30, 0))), some (.inl (nI k))] [] s = some (some (.inl 0), s) := by
  rw [q_180, c_179, ixB_nI hk (by decide), cI_s, ite_bI, if_pos rfl, if_pos rfl, cl_nI (by omega), h, if_neg (nI_pos (by omega))]
/-- the parts of the state that no finding touches -/
theorem Hd_0 {s : SS} {j k kd np w f : Nat} {v : Int32} {c : Nat} (h : Hd s j k kd np w f) : Hd (wI s 0 0 c v) j k kd np w f := h
theorem pub_told {s : SS} (h : J s) (k v : Int32) : PI 73 189 [some (.inr (.inr (0, 0))), some (.inl k), some (.inl v)] [some (.inr (.inr (30, 0))), some (.inl k), some (.inl v), none] s := by
  have hS := h.2.2.2.1
  have hin : ∀ t : SS, ev 144 0 [some (.inl v), some (.inl 0), some (.inl 2)] [] t = some (some (.inl (bI (ixB v 3))), t) := fun t => by
    rw [c_144, show (2 : Int32) = nI 2 from rfl, in_ix v 2 (by decide)]
  by_cases hv : ixB v 3 = true
  · obtain ⟨u, hu, rfl⟩ := (ixB_iff (by decide)).mp hv
    have n1 : ¬ nI u < 0 := nI_pos (by omega)
    have n2 : ¬ 2 < nI u := by
      rw [L_ltn (by omega) (by decide)]
      show ¬ 2 < u
      omega
    by_cases hk : ixB k 8 = true
    · obtain ⟨i, hi, rfl⟩ := (ixB_iff (by decide)).mp hk
      rcases LJ_h (h.2.2.2.2.1.2.2 i hi) with ⟨g1, g2⟩ | ⟨g1, kd, np, w, f, g⟩
      · refine PI_f h (f := 1) (by decide) ?_ (fun t ha _ => ?_)
        · rw [q_73, c_114, hk, cI_s, ite_bI, if_pos rfl, if_neg n1, if_neg n2, if_pos rfl, cl_nI (by omega), g1, if_pos rfl, c_100_1, cI_s]
        · rw [q_189, hin, hv, cI_s, ite_bI, if_pos rfl, al_m hi (by rw [(ha.1 42 (by decide)).1]; exact g2), cI_s, if_pos (by decide)]
      · refine PI_ask h 1 (nI (tlN s i kd np u)) ?_ ?_
        · rw [q_73, c_114, hk, cI_s, ite_bI, if_pos rfl, if_neg n1, if_neg n2, if_pos rfl, cl_nI (by omega), g1, if_neg (by decide), if_pos rfl, c_121 hS hu g, cI_s]
        · rw [q_189, hin, hv, cI_s, ite_bI, if_pos rfl, al_y hi g.1 (show (wI s 0 0 9 (nI (tlN s i kd np u))).1 42 0 i = nI kd from g.2.2.2.2.2.2.1), cI_s, if_neg (by decide), c_188 (s := wI s 0 0 9 (nI (tlN s i kd np u))) (JS_ag (Ag_wI (by decide)) rfl rfl hS) hi hu (Hd_0 g), cI_s, c_146, cI_s]
          rfl
    · refine PI_0 h (-1) ?_ ?_
      · rw [q_73, c_114, ix_no hk, cI_s, ite_bI, if_neg (by decide)]
      · rw [q_189, hin, hv, cI_s, ite_bI, if_pos rfl, al_b (ix_no hk), cI_s, if_pos (by decide)]
  · refine PI_0 h (-1) ?_ ?_
    · rw [q_73, c_114, cI_s, ite_bI]
      have e := in_ix2 v 2 (by decide) (some (some (.inl (-1)), s) : RE)
      by_cases hk : ixB k 8 = true
      · rw [if_pos hk]
        exact (e _).trans (by rw [if_neg hv])
      · rw [if_neg hk]
    · rw [q_189, hin, ix_no hv, cI_s, ite_bI, if_neg (by decide)]
