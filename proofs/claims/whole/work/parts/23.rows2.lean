theorem sub1_lt {n : Nat} (hn : n < 1073741824) (x : Int32) : (nI n - 1 < x) = (nI n ≤ x) := by
  apply propext
  rw [lt_iff, le_iff, show (1 : Int32) = nI 1 from rfl, pk_sub_toInt hn (by decide), ti_nI (by omega)]
  omega
theorem nm1 (n : Nat) (h : n < 2147483648) : ¬ nI n = -1 := by
  rw [n_ne h (by decide) (by decide)]
  exact id
theorem hasR_y {s : SS} {j n : Nat} (hj : j < 6) (hn : n ≤ 40) (h : s.1 5 0 j = nI n) : hasR s (nI j) = true := by
  unfold hasR
  rw [ixB_nI hj (by decide), cl_nI (by omega), h]
  simp [nm1 n (by omega)]
theorem hasR_n {s : SS} {j : Nat} (hj : j < 6) (h : s.1 5 0 j = -1) : hasR s (nI j) = false := by
  unfold hasR
  rw [cl_nI (by omega), h]
  simp
theorem hasT_y {s : SS} {j n : Nat} (hj : j < 4) (hn : n ≤ 40) (h : s.1 6 0 j = nI n) : hasT s (nI j) = true := by
  unfold hasT
  rw [ixB_nI hj (by decide), cl_nI (by omega), h]
  simp [nm1 n (by omega)]
theorem hasT_n {s : SS} {j : Nat} (hj : j < 4) (h : s.1 6 0 j = -1) : hasT s (nI j) = false := by
  unfold hasT
  rw [cl_nI (by omega), h]
  simp
/-- a place that there is -/
theorem hpR_y {s : SS} {j n k : Nat} (hj : j < 6) (hn : n ≤ 40) (hk : k < n) (h : s.1 5 0 j = nI n) : hpR s (nI j) (nI k) 1 = true := by
  unfold hpR
  rw [hasR_y hj hn h, cl_nI (by omega), h]
  have h1 : ¬ nI k < 0 := nI_pos (by omega)
  have h2 : ¬ nI n - 1 < nI k := by
    rw [sub1_lt (by omega), n_le (by omega) (by omega)]
    omega
  have h3 : ¬ (1 : Int32) < 0 := by decide
  simp [h1, h2, h3]
theorem hpR_n {s : SS} {j n : Nat} {i : Int32} (hj : j < 6) (hn : n ≤ 40) (h : s.1 5 0 j = nI n) (hi : i < 0 ∨ nI n ≤ i) : hpR s (nI j) i 1 = false := by
  unfold hpR
  rw [cl_nI (by omega), h]
  rcases hi with h1 | h1
  · simp [h1]
  · have h2 : nI n - 1 < i := by
      rw [sub1_lt (by omega)]
      exact h1
    simp [h2]
theorem hpT_y {s : SS} {j n k : Nat} (hj : j < 4) (hn : n ≤ 40) (hk : k < n) (h : s.1 6 0 j = nI n) : hpT s (nI j) (nI k) 1 = true := by
  unfold hpT
  rw [hasT_y hj hn h, cl_nI (by omega), h]
  have h1 : ¬ nI k < 0 := nI_pos (by omega)
  have h2 : ¬ nI n - 1 < nI k := by
    rw [sub1_lt (by omega), n_le (by omega) (by omega)]
    omega
  have h3 : ¬ (1 : Int32) < 0 := by decide
  simp [h1, h2, h3]
theorem hpT_n {s : SS} {j n : Nat} {i : Int32} (hj : j < 4) (hn : n ≤ 40) (h : s.1 6 0 j = nI n) (hi : i < 0 ∨ nI n ≤ i) : hpT s (nI j) i 1 = false := by
  unfold hpT
  rw [cl_nI (by omega), h]
  rcases hi with h1 | h1
  · simp [h1]
  · have h2 : nI n - 1 < i := by
      rw [sub1_lt (by omega)]
      exact h1
    simp [h2]
theorem in_y {n k : Nat} (hn : n ≤ 40) (hk : k < n) : (!(decide (nI k < 0)) && !(decide (nI n - 1 < nI k))) = true := by
  have h1 : ¬ nI k < 0 := nI_pos (by omega)
  have h2 : ¬ nI n - 1 < nI k := by
    rw [sub1_lt (by omega), n_le (by omega) (by omega)]
    omega
  simp [h1, h2]
theorem in_n {n : Nat} {i : Int32} (hn : n ≤ 40) (hi : i < 0 ∨ nI n ≤ i) : (!(decide (i < 0)) && !(decide (nI n - 1 < i))) = false := by
  rcases hi with h1 | h1
  · simp [h1]
  · have h2 : nI n - 1 < i := by
      rw [sub1_lt (by omega)]
      exact h1
    simp [h2]
/-! the four ways of a place, class: rows -/
theorem ref1_b {s : SS} {r i : Int32} (h : ixB r 6 = false) : ev 102 0 [some (.inr (.inr (0, 0))), some (.inr (.inr (1, 0))), some (.inl r), some (.inl i)] [] s = some (some (.inl (-1)), s) := by
  rw [q_102_1, c_9_1, h, cI_s, ite_bI, if_neg (by decide)]
theorem ref1_m {s : SS} {j : Nat} {i : Int32} (hj : j < 6) (h : s.1 5 0 j = -1) : ev 102 0 [some (.inr (.inr (0, 0))), some (.inr (.inr (1, 0))), some (.inl (nI j)), some (.inl i)] [] s = some (some (.inl (-3)), fC s 1) := by
  rw [q_102_1, c_9_1, ixB_nI hj (by decide), cI_s, ite_bI, if_pos rfl, c_10_1, hasR_n hj h, cI_s, ite_bI, if_neg (by decide), c_100_1, cI_s]
theorem ref1_n {s : SS} {j n : Nat} {i : Int32} (hj : j < 6) (hn : n ≤ 40) (h : s.1 5 0 j = nI n) (hi : i < 0 ∨ nI n ≤ i) : ev 102 0 [some (.inr (.inr (0, 0))), some (.inr (.inr (1, 0))), some (.inl (nI j)), some (.inl i)] [] s = some (some (.inl (-3)), fC s 2) := by
  rw [q_102_1, c_9_1, ixB_nI hj (by decide), cI_s, ite_bI, if_pos rfl, c_10_1, hasR_y hj hn h, cI_s, ite_bI, if_pos rfl, c_12_1, hpR_n hj hn h hi, cI_s, ite_bI, if_neg (by decide), c_100_2, cI_s]
theorem ref1_y {s : SS} {j n k : Nat} (hj : j < 6) (hn : n ≤ 40) (h : s.1 5 0 j = nI n) (hk : k < n) : ev 102 0 [some (.inr (.inr (0, 0))), some (.inr (.inr (1, 0))), some (.inl (nI j)), some (.inl (nI k))] [] s = some (some (.inl 0), s) := by
  rw [q_102_1, c_9_1, ixB_nI hj (by decide), cI_s, ite_bI, if_pos rfl, c_10_1, hasR_y hj hn h, cI_s, ite_bI, if_pos rfl, c_12_1, hpR_y hj hn hk h, cI_s, ite_bI, if_pos rfl]
theorem ref2_b {s : SS} {r i : Int32} (h : ixB r 4 = false) : ev 102 0 [some (.inr (.inr (0, 0))), some (.inr (.inr (2, 0))), some (.inl r), some (.inl i)] [] s = some (some (.inl (-1)), s) := by
  rw [q_102_2, c_9_2, h, cI_s, ite_bI, if_neg (by decide)]
theorem ref2_m {s : SS} {j : Nat} {i : Int32} (hj : j < 4) (h : s.1 6 0 j = -1) : ev 102 0 [some (.inr (.inr (0, 0))), some (.inr (.inr (2, 0))), some (.inl (nI j)), some (.inl i)] [] s = some (some (.inl (-3)), fC s 1) := by
  rw [q_102_2, c_9_2, ixB_nI hj (by decide), cI_s, ite_bI, if_pos rfl, c_10_2, hasT_n hj h, cI_s, ite_bI, if_neg (by decide), c_100_1, cI_s]
theorem ref2_n {s : SS} {j n : Nat} {i : Int32} (hj : j < 4) (hn : n ≤ 40) (h : s.1 6 0 j = nI n) (hi : i < 0 ∨ nI n ≤ i) : ev 102 0 [some (.inr (.inr (0, 0))), some (.inr (.inr (2, 0))), some (.inl (nI j)), some (.inl i)] [] s = some (some (.inl (-3)), fC s 2) := by
  rw [q_102_2, c_9_2, ixB_nI hj (by decide), cI_s, ite_bI, if_pos rfl, c_10_2, hasT_y hj hn h, cI_s, ite_bI, if_pos rfl, c_12_2, hpT_n hj hn h hi, cI_s, ite_bI, if_neg (by decide), c_100_2, cI_s]
theorem ref2_y {s : SS} {j n k : Nat} (hj : j < 4) (hn : n ≤ 40) (h : s.1 6 0 j = nI n) (hk : k < n) : ev 102 0 [some (.inr (.inr (0, 0))), some (.inr (.inr (2, 0))), some (.inl (nI j)), some (.inl (nI k))] [] s = some (some (.inl 0), s) := by
  rw [q_102_2, c_9_2, ixB_nI hj (by decide), cI_s, ite_bI, if_pos rfl, c_10_2, hasT_y hj hn h, cI_s, ite_bI, if_pos rfl, c_12_2, hpT_y hj hn hk h, cI_s, ite_bI, if_pos rfl]
/-! the reference's -/
theorem ar_b {s : SS} {r : Int32} (h : ixB r 6 = false) : ev 152 0 [some (.inr (.inr (30, 0))), some (.inl r)] [] s = some (some (.inl (-1)), s) := by
  rw [q_152, c_150, h, cI_s, ite_bI, if_neg (by decide)]
theorem ar_m {s : SS} {j : Nat} (hj : j < 6) (h : s.1 32 0 j = -9) : ev 152 0 [some (.inr (.inr (30, 0))), some (.inl (nI j))] [] s = some (some (.inl (-3)), fR s 1) := by
  rw [q_152, c_150, ixB_nI hj (by decide), cI_s, ite_bI, if_pos rfl, if_pos rfl, cl_nI (by omega), h, if_pos (by decide), c_145_1, cI_s]
theorem ar_y {s : SS} {j n : Nat} (hj : j < 6) (hn : n ≤ 40) (h : s.1 32 0 j = nI n) : ev 152 0 [some (.inr (.inr (30, 0))), some (.inl (nI j))] [] s = some (some (.inl 0), s) := by
  rw [q_152, c_150, ixB_nI hj (by decide), cI_s, ite_bI, if_pos rfl, if_pos rfl, cl_nI (by omega), h, if_neg (nI_pos (by omega))]
theorem at_b {s : SS} {r : Int32} (h : ixB r 4 = false) : ev 153 0 [some (.inr (.inr (30, 0))), some (.inl r)] [] s = some (some (.inl (-1)), s) := by
  rw [q_153, c_151, h, cI_s, ite_bI, if_neg (by decide)]
theorem at_m {s : SS} {j : Nat} (hj : j < 4) (h : s.1 35 0 j = -9) : ev 153 0 [some (.inr (.inr (30, 0))), some (.inl (nI j))] [] s = some (some (.inl (-3)), fR s 1) := by
  rw [q_153, c_151, ixB_nI hj (by decide), cI_s, ite_bI, if_pos rfl, if_pos rfl, cl_nI (by omega), h, if_pos (by decide), c_145_1, cI_s]
theorem at_y {s : SS} {j n : Nat} (hj : j < 4) (hn : n ≤ 40) (h : s.1 35 0 j = nI n) : ev 153 0 [some (.inr (.inr (30, 0))), some (.inl (nI j))] [] s = some (some (.inl 0), s) := by
  rw [q_153, c_151, ixB_nI hj (by decide), cI_s, ite_bI, if_pos rfl, if_pos rfl, cl_nI (by omega), h, if_neg (nI_pos (by omega))]
theorem ix3 (i : Int32) (n : Nat) (hn : n < 2147483648) : (i < 0 ∨ nI n ≤ i) ∨ ∃ k, k < n ∧ i = nI k := by
  rcases pk_ix i hn with h | h | h
  · exact Or.inl (Or.inl h)
  · exact Or.inl (Or.inr h)
  · exact Or.inr h
/-! at -/
theorem at_r_b {s : SS} {r i : Int32} (h : ixB r 6 = false) : ev 156 0 [some (.inr (.inr (30, 0))), some (.inl r), some (.inl i), none] [] s = some (some (.inl (-1)), s) := by
  rw [q_156, ar_b h, cI_s, if_pos (by decide)]
theorem at_r_m {s : SS} {j : Nat} {i : Int32} (hj : j < 6) (h : s.1 32 0 j = -9) : ev 156 0 [some (.inr (.inr (30, 0))), some (.inl (nI j)), some (.inl i), none] [] s = some (some (.inl (-3)), fR s 1) := by
  rw [q_156, ar_m hj h, cI_s, if_pos (by decide)]
theorem at_r_n {s : SS} {j n : Nat} {i : Int32} (hj : j < 6) (hn : n ≤ 40) (h : s.1 32 0 j = nI n) (hi : i < 0 ∨ nI n ≤ i) : ev 156 0 [some (.inr (.inr (30, 0))), some (.inl (nI j)), some (.inl i), none] [] s = some (some (.inl (-3)), fR s 2) := by
  rw [q_156, ar_y hj hn h, cI_s, if_neg (by decide), if_pos (ixB_nI hj (by decide)), cl_nI (by omega), h, c_144, in_n hn hi, cI_s, ite_bI, if_neg (by decide), c_145_2, cI_s]
theorem at_r_y {s : SS} {j n k : Nat} (hj : j < 6) (hn : n ≤ 40) (h : s.1 32 0 j = nI n) (hk : k < n) : ev 156 0 [some (.inr (.inr (30, 0))), some (.inl (nI j)), some (.inl (nI k)), none] [] s = some (some (.inl 1), wI s 30 0 2 (s.1 33 0 (40 * j + k))) := by
  rw [q_156, ar_y hj hn h, cI_s, if_neg (by decide), if_pos (ixB_nI hj (by decide)), cl_nI (by omega), h, c_144, in_y hn hk, cI_s, ite_bI, if_pos rfl, c_154 hj (by omega), cI_s, c_146, cI_s]
theorem plR_y {s : SS} {j n k : Nat} (hj : j < 6) (hn : n ≤ 40) (h : s.1 5 0 j = nI n) (hk : k < n) : ev 15 0 [some (.inr (.inr (1, 0))), some (.inl (nI j)), some (.inl (nI k))] [] s = some (some (.inl (s.1 7 j k)), s) := by
  rw [q_15_1, c_12_1, hpR_y hj hn hk h, cI_s, ite_bI, if_pos rfl, if_pos (ixB_nI hj (by decide)), if_pos (ixB_nI (by omega) (by decide)), cl_nI (by omega), cl_nI (by omega)]
theorem plT_y {s : SS} {j n k : Nat} (hj : j < 4) (hn : n ≤ 40) (h : s.1 6 0 j = nI n) (hk : k < n) : ev 15 0 [some (.inr (.inr (2, 0))), some (.inl (nI j)), some (.inl (nI k))] [] s = some (some (.inl (s.1 8 j k)), s) := by
  rw [q_15_2, c_12_2, hpT_y hj hn hk h, cI_s, ite_bI, if_pos rfl, if_pos (ixB_nI hj (by decide)), if_pos (ixB_nI (by omega) (by decide)), cl_nI (by omega), cl_nI (by omega)]
theorem pub_at {s : SS} (h : J s) (r i : Int32) : PI 60 156 [some (.inr (.inr (0, 0))), some (.inl r), some (.inl i), none] [some (.inr (.inr (30, 0))), some (.inl r), some (.inl i), none] s := by
  by_cases hr : ixB r 6 = true
  · obtain ⟨j, hj, rfl⟩ := (ixB_iff (by decide)).mp hr
    rcases h.1.1 j hj with ⟨g1, g2⟩ | ⟨n, hn, g1, g2⟩
    · refine PI_f h (f := 1) (by decide) ?_ (fun t ha _ => at_r_m hj (by rw [(ha.1 32 (by decide)).1]; exact g2))
      rw [q_60, ref1_m hj g1, cI_s, if_neg (by decide)]
    · rcases ix3 i n (by omega) with hi | ⟨k, hk, rfl⟩
      · refine PI_f h (f := 2) (by decide) ?_ (fun t ha _ => at_r_n hj hn (by rw [(ha.1 32 (by decide)).1]; exact g2) hi)
        rw [q_60, ref1_n hj hn g1 hi, cI_s, if_neg (by decide)]
      · have e := h.1.2 j k hj (by omega)
        have h1 : ev 60 0 [some (.inr (.inr (0, 0))), some (.inl (nI j)), some (.inl (nI k)), none] [] s = some (some (.inl 1), wI s 0 0 9 (s.1 33 0 (40 * j + k))) := by
          rw [q_60, ref1_y hj hn g1 hk, cI_s, if_pos rfl, plR_y hj hn g1 hk, cI_s, e]
        exact ⟨1, _, _, h1, at_r_y (s := wI s 0 0 9 (s.1 33 0 (40 * j + k))) hj hn g2 hk, J_ask h _, fun _ _ => rfl, fun _ _ => rfl⟩
  · refine PI_0 h (-1) ?_ (at_r_b (ix_no hr))
    rw [q_60, ref1_b (ix_no hr), cI_s, if_neg (by decide)]
theorem pub_lay {s : SS} (h : J s) (r i v : Int32) : PI 59 157 [some (.inr (.inr (0, 0))), some (.inl r), some (.inl i), some (.inl v), none] [some (.inr (.inr (30, 0))), some (.inl r), some (.inl i), some (.inl v), none] s := by
  by_cases hr : ixB r 6 = true
  · obtain ⟨j, hj, rfl⟩ := (ixB_iff (by decide)).mp hr
    rcases h.1.1 j hj with ⟨g1, g2⟩ | ⟨n, hn, g1, g2⟩
    · refine PI_f h (f := 1) (by decide) ?_ (fun t ha _ => ?_)
      · rw [q_59, ref1_m hj g1, cI_s, if_neg (by decide)]
      · rw [q_157, at_r_m hj (by rw [(ha.1 32 (by decide)).1]; exact g2), cI_s, if_pos (by decide)]
    · rcases ix3 i n (by omega) with hi | ⟨k, hk, rfl⟩
      · refine PI_f h (f := 2) (by decide) ?_ (fun t ha _ => ?_)
        · rw [q_59, ref1_n hj hn g1 hi, cI_s, if_neg (by decide)]
        · rw [q_157, at_r_n hj hn (by rw [(ha.1 32 (by decide)).1]; exact g2) hi, cI_s, if_pos (by decide)]
      · have e := h.1.2 j k hj (by omega)
        have h1 : ev 59 0 [some (.inr (.inr (0, 0))), some (.inl (nI j)), some (.inl (nI k)), some (.inl v), none] [] s = some (some (.inl 1), wI (wI s 0 0 9 (s.1 33 0 (40 * j + k))) 7 j k v) := by
          rw [q_59, ref1_y hj hn g1 hk, cI_s, if_pos rfl, plR_y hj hn g1 hk, cI_s, e, q_16_1, c_12_1, hpR_y (s := wI s 0 0 9 _) hj hn hk g1, cI_s, ite_bI, if_pos rfl, if_pos (ixB_nI hj (by decide)), if_pos (ixB_nI (by omega) (by decide)), cl_nI (by omega), cl_nI (by omega), cV_s]
        have h2 : ev 157 0 [some (.inr (.inr (30, 0))), some (.inl (nI j)), some (.inl (nI k)), some (.inl v), none] [] (wI (wI s 0 0 9 (s.1 33 0 (40 * j + k))) 7 j k v) = some (some (.inl 1), wI (wI (wI (wI s 0 0 9 (s.1 33 0 (40 * j + k))) 7 j k v) 30 0 2 (s.1 33 0 (40 * j + k))) 33 0 (40 * j + k) v) := by
          rw [q_157, at_r_y (s := wI (wI s 0 0 9 _) 7 j k v) hj hn g2 hk, cI_s, if_neg (by decide), n_mulL, n_add, if_pos (ixB_nI (by omega) (by decide)), cl_nI (by omega)]
          rfl
        refine ⟨1, _, _, h1, h2, ?_, fun _ _ => rfl, fun _ _ => rfl⟩
        have hA := J_ask h (s.1 33 0 (40 * j + k))
        have hoff : OffK [7, 33] (wI (wI s 0 0 9 (s.1 33 0 (40 * j + k))) 30 0 2 (s.1 33 0 (40 * j + k))) (wI (wI (wI (wI s 0 0 9 (s.1 33 0 (40 * j + k))) 7 j k v) 30 0 2 (s.1 33 0 (40 * j + k))) 33 0 (40 * j + k) v) := by
          refine ⟨fun a b c ha => ?_, rfl⟩
          have a7 : a ≠ 7 := fun z => ha (by simp [z])
          have a33 : a ≠ 33 := fun z => ha (by simp [z])
          simp [wI_1, a7, a33]
        refine J_off hoff (by decide) ⟨hA.1.1, fun q x hq hx => ?_⟩ (JT_ag (Ag_off hoff (by decide)) hA.2.1) hA
        have g := h.1.2 q x hq hx
        by_cases e1 : q = j ∧ x = k
        · obtain ⟨rfl, rfl⟩ := e1
          simp [wI_1]
        · have e2 : ¬ 40 * q + x = 40 * j + k := by omega
          have e3 : ¬ (q = j ∧ x = k) := e1
          simp [wI_1, e2, e3, g]
  · refine PI_0 h (-1) ?_ ?_
    · rw [q_59, ref1_b (ix_no hr), cI_s, if_neg (by decide)]
    · rw [q_157, at_r_b (ix_no hr), cI_s, if_pos (by decide)]
theorem pub_tear {s : SS} (h : J s) (r : Int32) : PI 61 158 [some (.inr (.inr (0, 0))), some (.inl r)] [some (.inr (.inr (30, 0))), some (.inl r), none] s := by
  by_cases hr : ixB r 6 = true
  · obtain ⟨j, hj, rfl⟩ := (ixB_iff (by decide)).mp hr
    rcases h.1.1 j hj with ⟨g1, g2⟩ | ⟨n, hn, g1, g2⟩
    · refine PI_f h (f := 1) (by decide) ?_ (fun t ha _ => ?_)
      · rw [q_61, c_9_1, hr, cI_s, ite_bI, if_pos rfl, c_10_1, hasR_n hj g1, cI_s, ite_bI, if_neg (by decide), c_100_1, cI_s]
      · rw [q_158, ar_m hj (by rw [(ha.1 32 (by decide)).1]; exact g2), cI_s, if_pos (by decide)]
    · have h1 : ev 61 0 [some (.inr (.inr (0, 0))), some (.inl (nI j))] [] s = some (some (.inl 1), wI s 5 0 j (-1)) := by
        rw [q_61, c_9_1, hr, cI_s, ite_bI, if_pos rfl, c_10_1, hasR_y hj hn g1, cI_s, ite_bI, if_pos rfl, q_14_1, c_9_1, hr, cI_s, ite_bI, if_pos rfl, if_pos rfl, cl_nI (by omega), cV_s]
      have h2 : ev 158 0 [some (.inr (.inr (30, 0))), some (.inl (nI j)), none] [] (wI s 5 0 j (-1)) = some (some (.inl 1), wI (wI s 5 0 j (-1)) 32 0 j (-9)) := by
        rw [q_158, ar_y (s := wI s 5 0 j (-1)) hj hn g2, cI_s, if_neg (by decide), if_pos hr, cl_nI (by omega)]
      have hoff : OffK [5, 32] s (wI (wI s 5 0 j (-1)) 32 0 j (-9)) := Off_tr (Off_wI (by decide)) (Off_wI (by decide))
      refine ⟨1, _, _, h1, h2, J_off hoff (by decide) ⟨fun q hq => ?_, h.1.2⟩ (JT_ag (Ag_off hoff (by decide)) h.2.1) h, fun _ _ => rfl, fun _ _ => rfl⟩
      by_cases e : q = j
      · subst e
        exact Or.inl ⟨by simp [wI_1], by simp [wI_1]⟩
      · rcases h.1.1 q hq with g | ⟨n, g1, g2, g3⟩
        · exact Or.inl (by simpa [wI_1, e] using g)
        · exact Or.inr ⟨n, g1, by simpa [wI_1, e] using g2, by simpa [wI_1, e] using g3⟩
  · refine PI_0 h (-1) ?_ ?_
    · rw [q_61, c_9_1, ix_no hr, cI_s, ite_bI, if_neg (by decide)]
    · rw [q_158, ar_b (ix_no hr), cI_s, if_pos (by decide)]
theorem pub_put {s : SS} (h : J s) (r i v : Int32) : PI 65 162 [some (.inr (.inr (0, 0))), some (.inl r), some (.inl i), some (.inl v), none, none] [some (.inr (.inr (30, 0))), some (.inl r), some (.inl i), some (.inl v), none, none] s := by
  by_cases hr : ixB r 4 = true
  · obtain ⟨j, hj, rfl⟩ := (ixB_iff (by decide)).mp hr
    rcases h.2.1.1 j hj with ⟨g1, g2⟩ | ⟨n, hn, g1, g2⟩
    · refine PI_f h (f := 1) (by decide) ?_ (fun t ha _ => ?_)
      · rw [q_65, ref2_m hj g1, cI_s, if_neg (by decide)]
      · rw [q_162, at_m hj (by rw [(ha.1 35 (by decide)).1]; exact g2), cI_s, if_pos (by decide)]
    · rcases ix3 i n (by omega) with hi | ⟨k, hk, rfl⟩
      · refine PI_f h (f := 2) (by decide) ?_ (fun t ha _ => ?_)
        · rw [q_65, ref2_n hj hn g1 hi, cI_s, if_neg (by decide)]
        · have g3 : t.1 35 0 j = nI n := by rw [(ha.1 35 (by decide)).1]; exact g2
          rw [q_162, at_y hj hn g3, cI_s, if_neg (by decide), if_pos hr, cl_nI (by omega), g3, c_144, in_n hn hi, cI_s, ite_bI, if_neg (by decide), c_145_2, cI_s]
      · have e := h.2.1.2 j k hj (by omega)
        have h1 : ev 65 0 [some (.inr (.inr (0, 0))), some (.inl (nI j)), some (.inl (nI k)), some (.inl v), none, none] [] s = some (some (.inl (s.1 36 0 (40 * j + k) + 1000)), wI s 8 j k v.toInt8.toInt32) := by
          rw [q_65, ref2_y hj hn g1 hk, cI_s, if_pos rfl, plT_y hj hn g1 hk, cI_s, e, q_16_2, c_12_2, hpT_y hj hn hk g1, cI_s, ite_bI, if_pos rfl, if_pos hr, if_pos (ixB_nI (by omega) (by decide)), cl_nI (by omega), cl_nI (by omega), cV_s]
        have h2 : ev 162 0 [some (.inr (.inr (30, 0))), some (.inl (nI j)), some (.inl (nI k)), some (.inl v), none, none] [] (wI s 8 j k v.toInt8.toInt32) = some (some (.inl (s.1 36 0 (40 * j + k) + 1000)), wI (wI s 8 j k v.toInt8.toInt32) 36 0 (40 * j + k) v.toInt8.toInt32) := by
          have g3 : (wI s 8 j k v.toInt8.toInt32).1 35 0 j = nI n := g2
          rw [q_162, at_y hj hn g3, cI_s, if_neg (by decide), if_pos hr, cl_nI (by omega), g3, c_144, in_y hn hk, cI_s, ite_bI, if_pos rfl, n_mulL, n_add, if_pos (ixB_nI (by omega) (by decide)), if_pos (ixB_nI (by omega) (by decide)), cl_nI (by omega)]
          rfl
        have hoff : OffK [8, 36] s (wI (wI s 8 j k v.toInt8.toInt32) 36 0 (40 * j + k) v.toInt8.toInt32) := Off_tr (Off_wI (by decide)) (Off_wI (by decide))
        refine ⟨_, _, _, h1, h2, J_off hoff (by decide) (JR_ag (Ag_off hoff (by decide)) h.1) ⟨h.2.1.1, fun q x hq hx => ?_⟩ h, fun _ _ => rfl, fun _ _ => rfl⟩
        have g := h.2.1.2 q x hq hx
        by_cases e1 : q = j ∧ x = k
        · obtain ⟨rfl, rfl⟩ := e1
          simp [wI_1]
        · have e2 : ¬ 40 * q + x = 40 * j + k := by omega
          have e3 : ¬ (q = j ∧ x = k) := e1
          simp [wI_1, e2, e3, g]
  · refine PI_0 h (-1) ?_ ?_
    · rw [q_65, ref2_b (ix_no hr), cI_s, if_neg (by decide)]
    · rw [q_162, at_b (ix_no hr), cI_s, if_pos (by decide)]
