/-! the law: its steps -/
theorem st_216 {s : SS} {L i : Nat} (h : J s) (hL : s.1 60 1 0 = nI L) (hL2 : L < 2147483648) (hi : i + 6 ≤ L) : ∃ t, ev 237 216 [some (.inr (.inr (60, 0))), some (.inr (.inr (0, 0))), some (.inr (.inr (30, 0))), some (.inl (nI i))] [] s = ev 237 18 [some (.inr (.inr (60, 0))), some (.inr (.inr (0, 0))), some (.inr (.inr (30, 0))), some (.inl (nI (i + 6)))] [] t ∧ J t ∧ t.1 60 1 0 = nI L := by
  have x1 : ixB (nI i + 1) L = true := by
    rw [show nI i + 1 = nI (i + 1) from nI_add i 1]
    exact ixB_nI (by omega) hL2
  have x2 : ixB (nI i + 2) L = true := by
    rw [show nI i + 2 = nI (i + 2) from nI_add i 2]
    exact ixB_nI (by omega) hL2
  obtain ⟨a, s1, s2, e1, e2, hJ, k1, k2⟩ := pub_row h (s.1 60 0 (nI i + 1).toNatClampNeg) (s.1 60 0 (nI i + 2).toNatClampNeg)
  refine ⟨s2, ?_, hJ, (k2 1 0).trans hL⟩
  rw [q_237_at216, hL, cl_nI hL2, if_pos x1, if_pos x2, e1, cI_s]
  simp only [k1]
  rw [hL, cl_nI hL2, if_pos x1, if_pos x2, e2, cI_s, if_pos rfl, q_237_at1445, show nI i + 6 = nI (i + 6) from nI_add i 6]
theorem st_249 {s : SS} {L i : Nat} (h : J s) (hL : s.1 60 1 0 = nI L) (hL2 : L < 2147483648) (hi : i + 6 ≤ L) : ∃ t, ev 237 249 [some (.inr (.inr (60, 0))), some (.inr (.inr (0, 0))), some (.inr (.inr (30, 0))), some (.inl (nI i))] [] s = ev 237 18 [some (.inr (.inr (60, 0))), some (.inr (.inr (0, 0))), some (.inr (.inr (30, 0))), some (.inl (nI (i + 6)))] [] t ∧ J t ∧ t.1 60 1 0 = nI L := by
  have x1 : ixB (nI i + 1) L = true := by
    rw [show nI i + 1 = nI (i + 1) from nI_add i 1]
    exact ixB_nI (by omega) hL2
  have x2 : ixB (nI i + 2) L = true := by
    rw [show nI i + 2 = nI (i + 2) from nI_add i 2]
    exact ixB_nI (by omega) hL2
  have x3 : ixB (nI i + 3) L = true := by
    rw [show nI i + 3 = nI (i + 3) from nI_add i 3]
    exact ixB_nI (by omega) hL2
  obtain ⟨a, s1, s2, e1, e2, hJ, k1, k2⟩ := pub_lay h (s.1 60 0 (nI i + 1).toNatClampNeg) (s.1 60 0 (nI i + 2).toNatClampNeg) (s.1 60 0 (nI i + 3).toNatClampNeg)
  refine ⟨s2, ?_, hJ, (k2 1 0).trans hL⟩
  rw [q_237_at249, hL, cl_nI hL2, if_pos x1, if_pos x2, if_pos x3, e1, cI_s]
  simp only [k1]
  rw [hL, cl_nI hL2, if_pos x1, if_pos x2, if_pos x3, e2, cI_s, if_pos rfl, q_237_at1445, show nI i + 6 = nI (i + 6) from nI_add i 6]
theorem st_292 {s : SS} {L i : Nat} (h : J s) (hL : s.1 60 1 0 = nI L) (hL2 : L < 2147483648) (hi : i + 6 ≤ L) : ∃ t, ev 237 292 [some (.inr (.inr (60, 0))), some (.inr (.inr (0, 0))), some (.inr (.inr (30, 0))), some (.inl (nI i))] [] s = ev 237 18 [some (.inr (.inr (60, 0))), some (.inr (.inr (0, 0))), some (.inr (.inr (30, 0))), some (.inl (nI (i + 6)))] [] t ∧ J t ∧ t.1 60 1 0 = nI L := by
  have x1 : ixB (nI i + 1) L = true := by
    rw [show nI i + 1 = nI (i + 1) from nI_add i 1]
    exact ixB_nI (by omega) hL2
  have x2 : ixB (nI i + 2) L = true := by
    rw [show nI i + 2 = nI (i + 2) from nI_add i 2]
    exact ixB_nI (by omega) hL2
  obtain ⟨a, s1, s2, e1, e2, hJ, k1, k2⟩ := pub_at h (s.1 60 0 (nI i + 1).toNatClampNeg) (s.1 60 0 (nI i + 2).toNatClampNeg)
  refine ⟨s2, ?_, hJ, (k2 1 0).trans hL⟩
  rw [q_237_at292, hL, cl_nI hL2, if_pos x1, if_pos x2, e1, cI_s]
  simp only [k1]
  rw [hL, cl_nI hL2, if_pos x1, if_pos x2, e2, cI_s, if_pos rfl, q_237_at1445, show nI i + 6 = nI (i + 6) from nI_add i 6]
theorem st_325 {s : SS} {L i : Nat} (h : J s) (hL : s.1 60 1 0 = nI L) (hL2 : L < 2147483648) (hi : i + 6 ≤ L) : ∃ t, ev 237 325 [some (.inr (.inr (60, 0))), some (.inr (.inr (0, 0))), some (.inr (.inr (30, 0))), some (.inl (nI i))] [] s = ev 237 18 [some (.inr (.inr (60, 0))), some (.inr (.inr (0, 0))), some (.inr (.inr (30, 0))), some (.inl (nI (i + 6)))] [] t ∧ J t ∧ t.1 60 1 0 = nI L := by
  have x1 : ixB (nI i + 1) L = true := by
    rw [show nI i + 1 = nI (i + 1) from nI_add i 1]
    exact ixB_nI (by omega) hL2
  obtain ⟨a, s1, s2, e1, e2, hJ, k1, k2⟩ := pub_tear h (s.1 60 0 (nI i + 1).toNatClampNeg)
  refine ⟨s2, ?_, hJ, (k2 1 0).trans hL⟩
  rw [q_237_at325, hL, cl_nI hL2, if_pos x1, e1, cI_s]
  simp only [k1]
  rw [hL, cl_nI hL2, if_pos x1, e2, cI_s, if_pos rfl, q_237_at1445, show nI i + 6 = nI (i + 6) from nI_add i 6]
theorem st_348 {s : SS} {L i : Nat} (h : J s) (hL : s.1 60 1 0 = nI L) (hL2 : L < 2147483648) (hi : i + 6 ≤ L) : ∃ t, ev 237 348 [some (.inr (.inr (60, 0))), some (.inr (.inr (0, 0))), some (.inr (.inr (30, 0))), some (.inl (nI i))] [] s = ev 237 18 [some (.inr (.inr (60, 0))), some (.inr (.inr (0, 0))), some (.inr (.inr (30, 0))), some (.inl (nI (i + 6)))] [] t ∧ J t ∧ t.1 60 1 0 = nI L := by
  have x1 : ixB (nI i + 1) L = true := by
    rw [show nI i + 1 = nI (i + 1) from nI_add i 1]
    exact ixB_nI (by omega) hL2
  have x2 : ixB (nI i + 2) L = true := by
    rw [show nI i + 2 = nI (i + 2) from nI_add i 2]
    exact ixB_nI (by omega) hL2
  have x3 : ixB (nI i + 3) L = true := by
    rw [show nI i + 3 = nI (i + 3) from nI_add i 3]
    exact ixB_nI (by omega) hL2
  have x4 : ixB (nI i + 4) L = true := by
    rw [show nI i + 4 = nI (i + 4) from nI_add i 4]
    exact ixB_nI (by omega) hL2
  have x5 : ixB (nI i + 5) L = true := by
    rw [show nI i + 5 = nI (i + 5) from nI_add i 5]
    exact ixB_nI (by omega) hL2
  obtain ⟨a, s1, s2, e1, e2, hJ, k1, k2⟩ := pub_copy h (s.1 60 0 (nI i + 1).toNatClampNeg) (s.1 60 0 (nI i + 2).toNatClampNeg) (s.1 60 0 (nI i + 3).toNatClampNeg) (s.1 60 0 (nI i + 4).toNatClampNeg) (s.1 60 0 (nI i + 5).toNatClampNeg)
  refine ⟨s2, ?_, hJ, (k2 1 0).trans hL⟩
  rw [q_237_at348, hL, cl_nI hL2, if_pos x1, if_pos x2, if_pos x3, if_pos x4, if_pos x5, e1, cI_s]
  simp only [k1]
  rw [hL, cl_nI hL2, if_pos x1, if_pos x2, if_pos x3, if_pos x4, if_pos x5, e2, cI_s, if_pos rfl, q_237_at1445, show nI i + 6 = nI (i + 6) from nI_add i 6]
theorem st_411 {s : SS} {L i : Nat} (h : J s) (hL : s.1 60 1 0 = nI L) (hL2 : L < 2147483648) (hi : i + 6 ≤ L) : ∃ t, ev 237 411 [some (.inr (.inr (60, 0))), some (.inr (.inr (0, 0))), some (.inr (.inr (30, 0))), some (.inl (nI i))] [] s = ev 237 18 [some (.inr (.inr (60, 0))), some (.inr (.inr (0, 0))), some (.inr (.inr (30, 0))), some (.inl (nI (i + 6)))] [] t ∧ J t ∧ t.1 60 1 0 = nI L := by
  have x1 : ixB (nI i + 1) L = true := by
    rw [show nI i + 1 = nI (i + 1) from nI_add i 1]
    exact ixB_nI (by omega) hL2
  obtain ⟨a, s1, s2, e1, e2, hJ, k1, k2⟩ := pub_mean h (s.1 60 0 (nI i + 1).toNatClampNeg)
  refine ⟨s2, ?_, hJ, (k2 1 0).trans hL⟩
  rw [q_237_at411, hL, cl_nI hL2, if_pos x1, e1, cI_s]
  simp only [k1]
  rw [hL, cl_nI hL2, if_pos x1, e2, cI_s, if_pos rfl, q_237_at1445, show nI i + 6 = nI (i + 6) from nI_add i 6]
theorem st_434 {s : SS} {L i : Nat} (h : J s) (hL : s.1 60 1 0 = nI L) (hL2 : L < 2147483648) (hi : i + 6 ≤ L) : ∃ t, ev 237 434 [some (.inr (.inr (60, 0))), some (.inr (.inr (0, 0))), some (.inr (.inr (30, 0))), some (.inl (nI i))] [] s = ev 237 18 [some (.inr (.inr (60, 0))), some (.inr (.inr (0, 0))), some (.inr (.inr (30, 0))), some (.inl (nI (i + 6)))] [] t ∧ J t ∧ t.1 60 1 0 = nI L := by
  have x1 : ixB (nI i + 1) L = true := by
    rw [show nI i + 1 = nI (i + 1) from nI_add i 1]
    exact ixB_nI (by omega) hL2
  have x2 : ixB (nI i + 2) L = true := by
    rw [show nI i + 2 = nI (i + 2) from nI_add i 2]
    exact ixB_nI (by omega) hL2
  obtain ⟨a, s1, s2, e1, e2, hJ, k1, k2⟩ := pub_text h (s.1 60 0 (nI i + 1).toNatClampNeg) (s.1 60 0 (nI i + 2).toNatClampNeg)
  refine ⟨s2, ?_, hJ, (k2 1 0).trans hL⟩
  rw [q_237_at434, hL, cl_nI hL2, if_pos x1, if_pos x2, e1, cI_s]
  simp only [k1]
  rw [hL, cl_nI hL2, if_pos x1, if_pos x2, e2, cI_s, if_pos rfl, q_237_at1445, show nI i + 6 = nI (i + 6) from nI_add i 6]
theorem st_467 {s : SS} {L i : Nat} (h : J s) (hL : s.1 60 1 0 = nI L) (hL2 : L < 2147483648) (hi : i + 6 ≤ L) : ∃ t, ev 237 467 [some (.inr (.inr (60, 0))), some (.inr (.inr (0, 0))), some (.inr (.inr (30, 0))), some (.inl (nI i))] [] s = ev 237 18 [some (.inr (.inr (60, 0))), some (.inr (.inr (0, 0))), some (.inr (.inr (30, 0))), some (.inl (nI (i + 6)))] [] t ∧ J t ∧ t.1 60 1 0 = nI L := by
  have x1 : ixB (nI i + 1) L = true := by
    rw [show nI i + 1 = nI (i + 1) from nI_add i 1]
    exact ixB_nI (by omega) hL2
  have x2 : ixB (nI i + 2) L = true := by
    rw [show nI i + 2 = nI (i + 2) from nI_add i 2]
    exact ixB_nI (by omega) hL2
  have x3 : ixB (nI i + 3) L = true := by
    rw [show nI i + 3 = nI (i + 3) from nI_add i 3]
    exact ixB_nI (by omega) hL2
  obtain ⟨a, s1, s2, e1, e2, hJ, k1, k2⟩ := pub_put h (s.1 60 0 (nI i + 1).toNatClampNeg) (s.1 60 0 (nI i + 2).toNatClampNeg) (s.1 60 0 (nI i + 3).toNatClampNeg)
  refine ⟨s2, ?_, hJ, (k2 1 0).trans hL⟩
  rw [q_237_at467, hL, cl_nI hL2, if_pos x1, if_pos x2, if_pos x3, e1, cI_s]
  simp only [k1]
  rw [hL, cl_nI hL2, if_pos x1, if_pos x2, if_pos x3, e2, cI_s, if_pos rfl, q_237_at1445, show nI i + 6 = nI (i + 6) from nI_add i 6]
theorem st_510 {s : SS} {L i : Nat} (h : J s) (hL : s.1 60 1 0 = nI L) (hL2 : L < 2147483648) (hi : i + 6 ≤ L) : ∃ t, ev 237 510 [some (.inr (.inr (60, 0))), some (.inr (.inr (0, 0))), some (.inr (.inr (30, 0))), some (.inl (nI i))] [] s = ev 237 18 [some (.inr (.inr (60, 0))), some (.inr (.inr (0, 0))), some (.inr (.inr (30, 0))), some (.inl (nI (i + 6)))] [] t ∧ J t ∧ t.1 60 1 0 = nI L := by
  have x1 : ixB (nI i + 1) L = true := by
    rw [show nI i + 1 = nI (i + 1) from nI_add i 1]
    exact ixB_nI (by omega) hL2
  obtain ⟨a, s1, s2, e1, e2, hJ, k1, k2⟩ := pub_names h (s.1 60 0 (nI i + 1).toNatClampNeg)
  refine ⟨s2, ?_, hJ, (k2 1 0).trans hL⟩
  rw [q_237_at510, hL, cl_nI hL2, if_pos x1, e1, cI_s]
  simp only [k1]
  rw [hL, cl_nI hL2, if_pos x1, e2, cI_s, if_pos rfl, q_237_at1445, show nI i + 6 = nI (i + 6) from nI_add i 6]
theorem st_533 {s : SS} {L i : Nat} (h : J s) (hL : s.1 60 1 0 = nI L) (hL2 : L < 2147483648) (hi : i + 6 ≤ L) : ∃ t, ev 237 533 [some (.inr (.inr (60, 0))), some (.inr (.inr (0, 0))), some (.inr (.inr (30, 0))), some (.inl (nI i))] [] s = ev 237 18 [some (.inr (.inr (60, 0))), some (.inr (.inr (0, 0))), some (.inr (.inr (30, 0))), some (.inl (nI (i + 6)))] [] t ∧ J t ∧ t.1 60 1 0 = nI L := by
  have x1 : ixB (nI i + 1) L = true := by
    rw [show nI i + 1 = nI (i + 1) from nI_add i 1]
    exact ixB_nI (by omega) hL2
  have x2 : ixB (nI i + 2) L = true := by
    rw [show nI i + 2 = nI (i + 2) from nI_add i 2]
    exact ixB_nI (by omega) hL2
  obtain ⟨a, s1, s2, e1, e2, hJ, k1, k2⟩ := pub_tell h (s.1 60 0 (nI i + 1).toNatClampNeg) (s.1 60 0 (nI i + 2).toNatClampNeg)
  refine ⟨s2, ?_, hJ, (k2 1 0).trans hL⟩
  rw [q_237_at533, hL, cl_nI hL2, if_pos x1, if_pos x2, e1, cI_s]
  simp only [k1]
  rw [hL, cl_nI hL2, if_pos x1, if_pos x2, e2, cI_s, if_pos rfl, q_237_at1445, show nI i + 6 = nI (i + 6) from nI_add i 6]
theorem st_566 {s : SS} {L i : Nat} (h : J s) (hL : s.1 60 1 0 = nI L) (hL2 : L < 2147483648) (hi : i + 6 ≤ L) : ∃ t, ev 237 566 [some (.inr (.inr (60, 0))), some (.inr (.inr (0, 0))), some (.inr (.inr (30, 0))), some (.inl (nI i))] [] s = ev 237 18 [some (.inr (.inr (60, 0))), some (.inr (.inr (0, 0))), some (.inr (.inr (30, 0))), some (.inl (nI (i + 6)))] [] t ∧ J t ∧ t.1 60 1 0 = nI L := by
  have x1 : ixB (nI i + 1) L = true := by
    rw [show nI i + 1 = nI (i + 1) from nI_add i 1]
    exact ixB_nI (by omega) hL2
  obtain ⟨a, s1, s2, e1, e2, hJ, k1, k2⟩ := pub_how h (s.1 60 0 (nI i + 1).toNatClampNeg)
  refine ⟨s2, ?_, hJ, (k2 1 0).trans hL⟩
  rw [q_237_at566, hL, cl_nI hL2, if_pos x1, e1, cI_s]
  simp only [k1]
  rw [hL, cl_nI hL2, if_pos x1, e2, cI_s, if_pos rfl, q_237_at1445, show nI i + 6 = nI (i + 6) from nI_add i 6]
theorem st_589 {s : SS} {L i : Nat} (h : J s) (hL : s.1 60 1 0 = nI L) (hL2 : L < 2147483648) (hi : i + 6 ≤ L) : ∃ t, ev 237 589 [some (.inr (.inr (60, 0))), some (.inr (.inr (0, 0))), some (.inr (.inr (30, 0))), some (.inl (nI i))] [] s = ev 237 18 [some (.inr (.inr (60, 0))), some (.inr (.inr (0, 0))), some (.inr (.inr (30, 0))), some (.inl (nI (i + 6)))] [] t ∧ J t ∧ t.1 60 1 0 = nI L := by
  have x1 : ixB (nI i + 1) L = true := by
    rw [show nI i + 1 = nI (i + 1) from nI_add i 1]
    exact ixB_nI (by omega) hL2
  have x2 : ixB (nI i + 2) L = true := by
    rw [show nI i + 2 = nI (i + 2) from nI_add i 2]
    exact ixB_nI (by omega) hL2
  obtain ⟨a, s1, s2, e1, e2, hJ, k1, k2⟩ := pub_fault h (s.1 60 0 (nI i + 1).toNatClampNeg) (s.1 60 0 (nI i + 2).toNatClampNeg)
  refine ⟨s2, ?_, hJ, (k2 1 0).trans hL⟩
  rw [q_237_at589, hL, cl_nI hL2, if_pos x1, if_pos x2, e1, cI_s]
  simp only [k1]
  rw [hL, cl_nI hL2, if_pos x1, if_pos x2, e2, cI_s, if_pos rfl, q_237_at1445, show nI i + 6 = nI (i + 6) from nI_add i 6]
theorem st_622 {s : SS} {L i : Nat} (h : J s) (hL : s.1 60 1 0 = nI L) (hL2 : L < 2147483648) (hi : i + 6 ≤ L) : ∃ t, ev 237 622 [some (.inr (.inr (60, 0))), some (.inr (.inr (0, 0))), some (.inr (.inr (30, 0))), some (.inl (nI i))] [] s = ev 237 18 [some (.inr (.inr (60, 0))), some (.inr (.inr (0, 0))), some (.inr (.inr (30, 0))), some (.inl (nI (i + 6)))] [] t ∧ J t ∧ t.1 60 1 0 = nI L := by
  have x1 : ixB (nI i + 1) L = true := by
    rw [show nI i + 1 = nI (i + 1) from nI_add i 1]
    exact ixB_nI (by omega) hL2
  have x2 : ixB (nI i + 2) L = true := by
    rw [show nI i + 2 = nI (i + 2) from nI_add i 2]
    exact ixB_nI (by omega) hL2
  have x3 : ixB (nI i + 3) L = true := by
    rw [show nI i + 3 = nI (i + 3) from nI_add i 3]
    exact ixB_nI (by omega) hL2
  have x4 : ixB (nI i + 4) L = true := by
    rw [show nI i + 4 = nI (i + 4) from nI_add i 4]
    exact ixB_nI (by omega) hL2
  obtain ⟨a, s1, s2, e1, e2, hJ, k1, k2⟩ := pub_law h (s.1 60 0 (nI i + 1).toNatClampNeg) (s.1 60 0 (nI i + 2).toNatClampNeg) (s.1 60 0 (nI i + 3).toNatClampNeg) (s.1 60 0 (nI i + 4).toNatClampNeg)
  refine ⟨s2, ?_, hJ, (k2 1 0).trans hL⟩
  rw [q_237_at622, hL, cl_nI hL2, if_pos x1, if_pos x2, if_pos x3, if_pos x4, e1, cI_s]
  simp only [k1]
  rw [hL, cl_nI hL2, if_pos x1, if_pos x2, if_pos x3, if_pos x4, e2, cI_s, if_pos rfl, q_237_at1445, show nI i + 6 = nI (i + 6) from nI_add i 6]
theorem st_675 {s : SS} {L i : Nat} (h : J s) (hL : s.1 60 1 0 = nI L) (hL2 : L < 2147483648) (hi : i + 6 ≤ L) : ∃ t, ev 237 675 [some (.inr (.inr (60, 0))), some (.inr (.inr (0, 0))), some (.inr (.inr (30, 0))), some (.inl (nI i))] [] s = ev 237 18 [some (.inr (.inr (60, 0))), some (.inr (.inr (0, 0))), some (.inr (.inr (30, 0))), some (.inl (nI (i + 6)))] [] t ∧ J t ∧ t.1 60 1 0 = nI L := by
  have x1 : ixB (nI i + 1) L = true := by
    rw [show nI i + 1 = nI (i + 1) from nI_add i 1]
    exact ixB_nI (by omega) hL2
  obtain ⟨a, s1, s2, e1, e2, hJ, k1, k2⟩ := pub_drop h (s.1 60 0 (nI i + 1).toNatClampNeg)
  refine ⟨s2, ?_, hJ, (k2 1 0).trans hL⟩
  rw [q_237_at675, hL, cl_nI hL2, if_pos x1, e1, cI_s]
  simp only [k1]
  rw [hL, cl_nI hL2, if_pos x1, e2, cI_s, if_pos rfl, q_237_at1445, show nI i + 6 = nI (i + 6) from nI_add i 6]
theorem st_698 {s : SS} {L i : Nat} (h : J s) (hL : s.1 60 1 0 = nI L) (hL2 : L < 2147483648) (hi : i + 6 ≤ L) : ∃ t, ev 237 698 [some (.inr (.inr (60, 0))), some (.inr (.inr (0, 0))), some (.inr (.inr (30, 0))), some (.inl (nI i))] [] s = ev 237 18 [some (.inr (.inr (60, 0))), some (.inr (.inr (0, 0))), some (.inr (.inr (30, 0))), some (.inl (nI (i + 6)))] [] t ∧ J t ∧ t.1 60 1 0 = nI L := by
  have x1 : ixB (nI i + 1) L = true := by
    rw [show nI i + 1 = nI (i + 1) from nI_add i 1]
    exact ixB_nI (by omega) hL2
  have x2 : ixB (nI i + 2) L = true := by
    rw [show nI i + 2 = nI (i + 2) from nI_add i 2]
    exact ixB_nI (by omega) hL2
  obtain ⟨a, s1, s2, e1, e2, hJ, k1, k2⟩ := pub_weight h (s.1 60 0 (nI i + 1).toNatClampNeg) (s.1 60 0 (nI i + 2).toNatClampNeg)
  refine ⟨s2, ?_, hJ, (k2 1 0).trans hL⟩
  rw [q_237_at698, hL, cl_nI hL2, if_pos x1, if_pos x2, e1, cI_s]
  simp only [k1]
  rw [hL, cl_nI hL2, if_pos x1, if_pos x2, e2, cI_s, if_pos rfl, q_237_at1445, show nI i + 6 = nI (i + 6) from nI_add i 6]
theorem st_731 {s : SS} {L i : Nat} (h : J s) (hL : s.1 60 1 0 = nI L) (hL2 : L < 2147483648) (hi : i + 6 ≤ L) : ∃ t, ev 237 731 [some (.inr (.inr (60, 0))), some (.inr (.inr (0, 0))), some (.inr (.inr (30, 0))), some (.inl (nI i))] [] s = ev 237 18 [some (.inr (.inr (60, 0))), some (.inr (.inr (0, 0))), some (.inr (.inr (30, 0))), some (.inl (nI (i + 6)))] [] t ∧ J t ∧ t.1 60 1 0 = nI L := by
  have x1 : ixB (nI i + 1) L = true := by
    rw [show nI i + 1 = nI (i + 1) from nI_add i 1]
    exact ixB_nI (by omega) hL2
  have x2 : ixB (nI i + 2) L = true := by
    rw [show nI i + 2 = nI (i + 2) from nI_add i 2]
    exact ixB_nI (by omega) hL2
  obtain ⟨a, s1, s2, e1, e2, hJ, k1, k2⟩ := pub_told h (s.1 60 0 (nI i + 1).toNatClampNeg) (s.1 60 0 (nI i + 2).toNatClampNeg)
  refine ⟨s2, ?_, hJ, (k2 1 0).trans hL⟩
  rw [q_237_at731, hL, cl_nI hL2, if_pos x1, if_pos x2, e1, cI_s]
  simp only [k1]
  rw [hL, cl_nI hL2, if_pos x1, if_pos x2, e2, cI_s, if_pos rfl, q_237_at1445, show nI i + 6 = nI (i + 6) from nI_add i 6]
theorem st_764 {s : SS} {L i : Nat} (h : J s) (hL : s.1 60 1 0 = nI L) (hL2 : L < 2147483648) (hi : i + 6 ≤ L) : ∃ t, ev 237 764 [some (.inr (.inr (60, 0))), some (.inr (.inr (0, 0))), some (.inr (.inr (30, 0))), some (.inl (nI i))] [] s = ev 237 18 [some (.inr (.inr (60, 0))), some (.inr (.inr (0, 0))), some (.inr (.inr (30, 0))), some (.inl (nI (i + 6)))] [] t ∧ J t ∧ t.1 60 1 0 = nI L := by
  have x1 : ixB (nI i + 1) L = true := by
    rw [show nI i + 1 = nI (i + 1) from nI_add i 1]
    exact ixB_nI (by omega) hL2
  have x2 : ixB (nI i + 2) L = true := by
    rw [show nI i + 2 = nI (i + 2) from nI_add i 2]
    exact ixB_nI (by omega) hL2
  obtain ⟨a, s1, s2, e1, e2, hJ, k1, k2⟩ := pub_mark h (s.1 60 0 (nI i + 1).toNatClampNeg) (s.1 60 0 (nI i + 2).toNatClampNeg)
  refine ⟨s2, ?_, hJ, (k2 1 0).trans hL⟩
  rw [q_237_at764, hL, cl_nI hL2, if_pos x1, if_pos x2, e1, cI_s]
  simp only [k1]
  rw [hL, cl_nI hL2, if_pos x1, if_pos x2, e2, cI_s, if_pos rfl, q_237_at1445, show nI i + 6 = nI (i + 6) from nI_add i 6]
theorem st_797 {s : SS} {L i : Nat} (h : J s) (hL : s.1 60 1 0 = nI L) (hL2 : L < 2147483648) (hi : i + 6 ≤ L) : ∃ t, ev 237 797 [some (.inr (.inr (60, 0))), some (.inr (.inr (0, 0))), some (.inr (.inr (30, 0))), some (.inl (nI i))] [] s = ev 237 18 [some (.inr (.inr (60, 0))), some (.inr (.inr (0, 0))), some (.inr (.inr (30, 0))), some (.inl (nI (i + 6)))] [] t ∧ J t ∧ t.1 60 1 0 = nI L := by
  obtain ⟨a, s1, s2, e1, e2, hJ, k1, k2⟩ := pub_worlds h 
  refine ⟨s2, ?_, hJ, (k2 1 0).trans hL⟩
  rw [q_237_at797, e1, cI_s, e2, cI_s, if_pos rfl, q_237_at1445, show nI i + 6 = nI (i + 6) from nI_add i 6]
theorem st_810 {s : SS} {L i : Nat} (h : J s) (hL : s.1 60 1 0 = nI L) (hL2 : L < 2147483648) (hi : i + 6 ≤ L) : ∃ t, ev 237 810 [some (.inr (.inr (60, 0))), some (.inr (.inr (0, 0))), some (.inr (.inr (30, 0))), some (.inl (nI i))] [] s = ev 237 18 [some (.inr (.inr (60, 0))), some (.inr (.inr (0, 0))), some (.inr (.inr (30, 0))), some (.inl (nI (i + 6)))] [] t ∧ J t ∧ t.1 60 1 0 = nI L := by
  have x1 : ixB (nI i + 1) L = true := by
    rw [show nI i + 1 = nI (i + 1) from nI_add i 1]
    exact ixB_nI (by omega) hL2
  obtain ⟨a, s1, s2, e1, e2, hJ, k1, k2⟩ := pub_cost h (s.1 60 0 (nI i + 1).toNatClampNeg)
  refine ⟨s2, ?_, hJ, (k2 1 0).trans hL⟩
  rw [q_237_at810, hL, cl_nI hL2, if_pos x1, e1, cI_s]
  simp only [k1]
  rw [hL, cl_nI hL2, if_pos x1, e2, cI_s, if_pos rfl, q_237_at1445, show nI i + 6 = nI (i + 6) from nI_add i 6]
theorem st_833 {s : SS} {L i : Nat} (h : J s) (hL : s.1 60 1 0 = nI L) (hL2 : L < 2147483648) (hi : i + 6 ≤ L) : ∃ t, ev 237 833 [some (.inr (.inr (60, 0))), some (.inr (.inr (0, 0))), some (.inr (.inr (30, 0))), some (.inl (nI i))] [] s = ev 237 18 [some (.inr (.inr (60, 0))), some (.inr (.inr (0, 0))), some (.inr (.inr (30, 0))), some (.inl (nI (i + 6)))] [] t ∧ J t ∧ t.1 60 1 0 = nI L := by
  have x1 : ixB (nI i + 1) L = true := by
    rw [show nI i + 1 = nI (i + 1) from nI_add i 1]
    exact ixB_nI (by omega) hL2
  have x2 : ixB (nI i + 2) L = true := by
    rw [show nI i + 2 = nI (i + 2) from nI_add i 2]
    exact ixB_nI (by omega) hL2
  obtain ⟨a, s1, s2, e1, e2, hJ, k1, k2⟩ := pub_broken h (s.1 60 0 (nI i + 1).toNatClampNeg) (s.1 60 0 (nI i + 2).toNatClampNeg)
  refine ⟨s2, ?_, hJ, (k2 1 0).trans hL⟩
  rw [q_237_at833, hL, cl_nI hL2, if_pos x1, if_pos x2, e1, cI_s]
  simp only [k1]
  rw [hL, cl_nI hL2, if_pos x1, if_pos x2, e2, cI_s, if_pos rfl, q_237_at1445, show nI i + 6 = nI (i + 6) from nI_add i 6]
theorem st_866 {s : SS} {L i : Nat} (h : J s) (hL : s.1 60 1 0 = nI L) (hL2 : L < 2147483648) (hi : i + 6 ≤ L) : ∃ t, ev 237 866 [some (.inr (.inr (60, 0))), some (.inr (.inr (0, 0))), some (.inr (.inr (30, 0))), some (.inl (nI i))] [] s = ev 237 18 [some (.inr (.inr (60, 0))), some (.inr (.inr (0, 0))), some (.inr (.inr (30, 0))), some (.inl (nI (i + 6)))] [] t ∧ J t ∧ t.1 60 1 0 = nI L := by
  obtain ⟨a, s1, s2, e1, e2, hJ, k1, k2⟩ := pub_likeliest h 
  refine ⟨s2, ?_, hJ, (k2 1 0).trans hL⟩
  rw [q_237_at866, e1, cI_s, e2, cI_s, if_pos rfl, q_237_at1445, show nI i + 6 = nI (i + 6) from nI_add i 6]
theorem st_879 {s : SS} {L i : Nat} (h : J s) (hL : s.1 60 1 0 = nI L) (hL2 : L < 2147483648) (hi : i + 6 ≤ L) : ∃ t, ev 237 879 [some (.inr (.inr (60, 0))), some (.inr (.inr (0, 0))), some (.inr (.inr (30, 0))), some (.inl (nI i))] [] s = ev 237 18 [some (.inr (.inr (60, 0))), some (.inr (.inr (0, 0))), some (.inr (.inr (30, 0))), some (.inl (nI (i + 6)))] [] t ∧ J t ∧ t.1 60 1 0 = nI L := by
  have x1 : ixB (nI i + 1) L = true := by
    rw [show nI i + 1 = nI (i + 1) from nI_add i 1]
    exact ixB_nI (by omega) hL2
  obtain ⟨a, s1, s2, e1, e2, hJ, k1, k2⟩ := pub_near h (s.1 60 0 (nI i + 1).toNatClampNeg)
  refine ⟨s2, ?_, hJ, (k2 1 0).trans hL⟩
  rw [q_237_at879, hL, cl_nI hL2, if_pos x1, e1, cI_s]
  simp only [k1]
  rw [hL, cl_nI hL2, if_pos x1, e2, cI_s, if_pos rfl, q_237_at1445, show nI i + 6 = nI (i + 6) from nI_add i 6]
theorem st_902 {s : SS} {L i : Nat} (h : J s) (hL : s.1 60 1 0 = nI L) (hL2 : L < 2147483648) (hi : i + 6 ≤ L) : ∃ t, ev 237 902 [some (.inr (.inr (60, 0))), some (.inr (.inr (0, 0))), some (.inr (.inr (30, 0))), some (.inl (nI i))] [] s = ev 237 18 [some (.inr (.inr (60, 0))), some (.inr (.inr (0, 0))), some (.inr (.inr (30, 0))), some (.inl (nI (i + 6)))] [] t ∧ J t ∧ t.1 60 1 0 = nI L := by
  have x1 : ixB (nI i + 1) L = true := by
    rw [show nI i + 1 = nI (i + 1) from nI_add i 1]
    exact ixB_nI (by omega) hL2
  obtain ⟨a, s1, s2, e1, e2, hJ, k1, k2⟩ := pub_odds h (s.1 60 0 (nI i + 1).toNatClampNeg)
  refine ⟨s2, ?_, hJ, (k2 1 0).trans hL⟩
  rw [q_237_at902, hL, cl_nI hL2, if_pos x1, e1, cI_s]
  simp only [k1]
  rw [hL, cl_nI hL2, if_pos x1, e2, cI_s, if_pos rfl, q_237_at1445, show nI i + 6 = nI (i + 6) from nI_add i 6]
theorem st_925 {s : SS} {L i : Nat} (h : J s) (hL : s.1 60 1 0 = nI L) (hL2 : L < 2147483648) (hi : i + 6 ≤ L) : ∃ t, ev 237 925 [some (.inr (.inr (60, 0))), some (.inr (.inr (0, 0))), some (.inr (.inr (30, 0))), some (.inl (nI i))] [] s = ev 237 18 [some (.inr (.inr (60, 0))), some (.inr (.inr (0, 0))), some (.inr (.inr (30, 0))), some (.inl (nI (i + 6)))] [] t ∧ J t ∧ t.1 60 1 0 = nI L := by
  have x1 : ixB (nI i + 1) L = true := by
    rw [show nI i + 1 = nI (i + 1) from nI_add i 1]
    exact ixB_nI (by omega) hL2
  have x2 : ixB (nI i + 2) L = true := by
    rw [show nI i + 2 = nI (i + 2) from nI_add i 2]
    exact ixB_nI (by omega) hL2
  obtain ⟨a, s1, s2, e1, e2, hJ, k1, k2⟩ := pub_both h (s.1 60 0 (nI i + 1).toNatClampNeg) (s.1 60 0 (nI i + 2).toNatClampNeg)
  refine ⟨s2, ?_, hJ, (k2 1 0).trans hL⟩
  rw [q_237_at925, hL, cl_nI hL2, if_pos x1, if_pos x2, e1, cI_s]
  simp only [k1]
  rw [hL, cl_nI hL2, if_pos x1, if_pos x2, e2, cI_s, if_pos rfl, q_237_at1445, show nI i + 6 = nI (i + 6) from nI_add i 6]
theorem st_958 {s : SS} {L i : Nat} (h : J s) (hL : s.1 60 1 0 = nI L) (hL2 : L < 2147483648) (hi : i + 6 ≤ L) : ∃ t, ev 237 958 [some (.inr (.inr (60, 0))), some (.inr (.inr (0, 0))), some (.inr (.inr (30, 0))), some (.inl (nI i))] [] s = ev 237 18 [some (.inr (.inr (60, 0))), some (.inr (.inr (0, 0))), some (.inr (.inr (30, 0))), some (.inl (nI (i + 6)))] [] t ∧ J t ∧ t.1 60 1 0 = nI L := by
  have x1 : ixB (nI i + 1) L = true := by
    rw [show nI i + 1 = nI (i + 1) from nI_add i 1]
    exact ixB_nI (by omega) hL2
  have x2 : ixB (nI i + 2) L = true := by
    rw [show nI i + 2 = nI (i + 2) from nI_add i 2]
    exact ixB_nI (by omega) hL2
  obtain ⟨a, s1, s2, e1, e2, hJ, k1, k2⟩ := pub_given h (s.1 60 0 (nI i + 1).toNatClampNeg) (s.1 60 0 (nI i + 2).toNatClampNeg)
  refine ⟨s2, ?_, hJ, (k2 1 0).trans hL⟩
  rw [q_237_at958, hL, cl_nI hL2, if_pos x1, if_pos x2, e1, cI_s]
  simp only [k1]
  rw [hL, cl_nI hL2, if_pos x1, if_pos x2, e2, cI_s, if_pos rfl, q_237_at1445, show nI i + 6 = nI (i + 6) from nI_add i 6]
theorem st_991 {s : SS} {L i : Nat} (h : J s) (hL : s.1 60 1 0 = nI L) (hL2 : L < 2147483648) (hi : i + 6 ≤ L) : ∃ t, ev 237 991 [some (.inr (.inr (60, 0))), some (.inr (.inr (0, 0))), some (.inr (.inr (30, 0))), some (.inl (nI i))] [] s = ev 237 18 [some (.inr (.inr (60, 0))), some (.inr (.inr (0, 0))), some (.inr (.inr (30, 0))), some (.inl (nI (i + 6)))] [] t ∧ J t ∧ t.1 60 1 0 = nI L := by
  have x1 : ixB (nI i + 1) L = true := by
    rw [show nI i + 1 = nI (i + 1) from nI_add i 1]
    exact ixB_nI (by omega) hL2
  have x2 : ixB (nI i + 2) L = true := by
    rw [show nI i + 2 = nI (i + 2) from nI_add i 2]
    exact ixB_nI (by omega) hL2
  obtain ⟨a, s1, s2, e1, e2, hJ, k1, k2⟩ := pub_alike h (s.1 60 0 (nI i + 1).toNatClampNeg) (s.1 60 0 (nI i + 2).toNatClampNeg)
  refine ⟨s2, ?_, hJ, (k2 1 0).trans hL⟩
  rw [q_237_at991, hL, cl_nI hL2, if_pos x1, if_pos x2, e1, cI_s]
  simp only [k1]
  rw [hL, cl_nI hL2, if_pos x1, if_pos x2, e2, cI_s, if_pos rfl, q_237_at1445, show nI i + 6 = nI (i + 6) from nI_add i 6]
theorem st_1024 {s : SS} {L i : Nat} (h : J s) (hL : s.1 60 1 0 = nI L) (hL2 : L < 2147483648) (hi : i + 6 ≤ L) : ∃ t, ev 237 1024 [some (.inr (.inr (60, 0))), some (.inr (.inr (0, 0))), some (.inr (.inr (30, 0))), some (.inl (nI i))] [] s = ev 237 18 [some (.inr (.inr (60, 0))), some (.inr (.inr (0, 0))), some (.inr (.inr (30, 0))), some (.inl (nI (i + 6)))] [] t ∧ J t ∧ t.1 60 1 0 = nI L := by
  have x1 : ixB (nI i + 1) L = true := by
    rw [show nI i + 1 = nI (i + 1) from nI_add i 1]
    exact ixB_nI (by omega) hL2
  have x2 : ixB (nI i + 2) L = true := by
    rw [show nI i + 2 = nI (i + 2) from nI_add i 2]
    exact ixB_nI (by omega) hL2
  have x3 : ixB (nI i + 3) L = true := by
    rw [show nI i + 3 = nI (i + 3) from nI_add i 3]
    exact ixB_nI (by omega) hL2
  obtain ⟨a, s1, s2, e1, e2, hJ, k1, k2⟩ := pub_draw h (s.1 60 0 (nI i + 1).toNatClampNeg) (s.1 60 0 (nI i + 2).toNatClampNeg) (s.1 60 0 (nI i + 3).toNatClampNeg)
  refine ⟨s2, ?_, hJ, (k2 1 0).trans hL⟩
  rw [q_237_at1024, hL, cl_nI hL2, if_pos x1, if_pos x2, if_pos x3, e1, cI_s]
  simp only [k1]
  rw [hL, cl_nI hL2, if_pos x1, if_pos x2, if_pos x3, e2, cI_s, if_pos rfl, q_237_at1445, show nI i + 6 = nI (i + 6) from nI_add i 6]
theorem st_1067 {s : SS} {L i : Nat} (h : J s) (hL : s.1 60 1 0 = nI L) (hL2 : L < 2147483648) (hi : i + 6 ≤ L) : ∃ t, ev 237 1067 [some (.inr (.inr (60, 0))), some (.inr (.inr (0, 0))), some (.inr (.inr (30, 0))), some (.inl (nI i))] [] s = ev 237 18 [some (.inr (.inr (60, 0))), some (.inr (.inr (0, 0))), some (.inr (.inr (30, 0))), some (.inl (nI (i + 6)))] [] t ∧ J t ∧ t.1 60 1 0 = nI L := by
  have x1 : ixB (nI i + 1) L = true := by
    rw [show nI i + 1 = nI (i + 1) from nI_add i 1]
    exact ixB_nI (by omega) hL2
  have x2 : ixB (nI i + 2) L = true := by
    rw [show nI i + 2 = nI (i + 2) from nI_add i 2]
    exact ixB_nI (by omega) hL2
  have x3 : ixB (nI i + 3) L = true := by
    rw [show nI i + 3 = nI (i + 3) from nI_add i 3]
    exact ixB_nI (by omega) hL2
  obtain ⟨a, s1, s2, e1, e2, hJ, k1, k2⟩ := pub_learn h (s.1 60 0 (nI i + 1).toNatClampNeg) (s.1 60 0 (nI i + 2).toNatClampNeg) (s.1 60 0 (nI i + 3).toNatClampNeg)
  refine ⟨s2, ?_, hJ, (k2 1 0).trans hL⟩
  rw [q_237_at1067, hL, cl_nI hL2, if_pos x1, if_pos x2, if_pos x3, e1, cI_s]
  simp only [k1]
  rw [hL, cl_nI hL2, if_pos x1, if_pos x2, if_pos x3, e2, cI_s, if_pos rfl, q_237_at1445, show nI i + 6 = nI (i + 6) from nI_add i 6]
theorem st_1110 {s : SS} {L i : Nat} (h : J s) (hL : s.1 60 1 0 = nI L) (hL2 : L < 2147483648) (hi : i + 6 ≤ L) : ∃ t, ev 237 1110 [some (.inr (.inr (60, 0))), some (.inr (.inr (0, 0))), some (.inr (.inr (30, 0))), some (.inl (nI i))] [] s = ev 237 18 [some (.inr (.inr (60, 0))), some (.inr (.inr (0, 0))), some (.inr (.inr (30, 0))), some (.inl (nI (i + 6)))] [] t ∧ J t ∧ t.1 60 1 0 = nI L := by
  have x1 : ixB (nI i + 1) L = true := by
    rw [show nI i + 1 = nI (i + 1) from nI_add i 1]
    exact ixB_nI (by omega) hL2
  have x2 : ixB (nI i + 2) L = true := by
    rw [show nI i + 2 = nI (i + 2) from nI_add i 2]
    exact ixB_nI (by omega) hL2
  obtain ⟨a, s1, s2, e1, e2, hJ, k1, k2⟩ := pub_pull h (s.1 60 0 (nI i + 1).toNatClampNeg) (s.1 60 0 (nI i + 2).toNatClampNeg)
  refine ⟨s2, ?_, hJ, (k2 1 0).trans hL⟩
  rw [q_237_at1110, hL, cl_nI hL2, if_pos x1, if_pos x2, e1, cI_s]
  simp only [k1]
  rw [hL, cl_nI hL2, if_pos x1, if_pos x2, e2, cI_s, if_pos rfl, q_237_at1445, show nI i + 6 = nI (i + 6) from nI_add i 6]
theorem st_1143 {s : SS} {L i : Nat} (h : J s) (hL : s.1 60 1 0 = nI L) (hL2 : L < 2147483648) (hi : i + 6 ≤ L) : ∃ t, ev 237 1143 [some (.inr (.inr (60, 0))), some (.inr (.inr (0, 0))), some (.inr (.inr (30, 0))), some (.inl (nI i))] [] s = ev 237 18 [some (.inr (.inr (60, 0))), some (.inr (.inr (0, 0))), some (.inr (.inr (30, 0))), some (.inl (nI (i + 6)))] [] t ∧ J t ∧ t.1 60 1 0 = nI L := by
  have x1 : ixB (nI i + 1) L = true := by
    rw [show nI i + 1 = nI (i + 1) from nI_add i 1]
    exact ixB_nI (by omega) hL2
  obtain ⟨a, s1, s2, e1, e2, hJ, k1, k2⟩ := pub_why h (s.1 60 0 (nI i + 1).toNatClampNeg)
  refine ⟨s2, ?_, hJ, (k2 1 0).trans hL⟩
  rw [q_237_at1143, hL, cl_nI hL2, if_pos x1, e1, cI_s]
  simp only [k1]
  rw [hL, cl_nI hL2, if_pos x1, e2, cI_s, if_pos rfl, q_237_at1445, show nI i + 6 = nI (i + 6) from nI_add i 6]
theorem st_1166 {s : SS} {L i : Nat} (h : J s) (hL : s.1 60 1 0 = nI L) (hL2 : L < 2147483648) (hi : i + 6 ≤ L) : ∃ t, ev 237 1166 [some (.inr (.inr (60, 0))), some (.inr (.inr (0, 0))), some (.inr (.inr (30, 0))), some (.inl (nI i))] [] s = ev 237 18 [some (.inr (.inr (60, 0))), some (.inr (.inr (0, 0))), some (.inr (.inr (30, 0))), some (.inl (nI (i + 6)))] [] t ∧ J t ∧ t.1 60 1 0 = nI L := by
  have x1 : ixB (nI i + 1) L = true := by
    rw [show nI i + 1 = nI (i + 1) from nI_add i 1]
    exact ixB_nI (by omega) hL2
  have x2 : ixB (nI i + 2) L = true := by
    rw [show nI i + 2 = nI (i + 2) from nI_add i 2]
    exact ixB_nI (by omega) hL2
  have x3 : ixB (nI i + 3) L = true := by
    rw [show nI i + 3 = nI (i + 3) from nI_add i 3]
    exact ixB_nI (by omega) hL2
  obtain ⟨a, s1, s2, e1, e2, hJ, k1, k2⟩ := pub_otherwise h (s.1 60 0 (nI i + 1).toNatClampNeg) (s.1 60 0 (nI i + 2).toNatClampNeg) (s.1 60 0 (nI i + 3).toNatClampNeg)
  refine ⟨s2, ?_, hJ, (k2 1 0).trans hL⟩
  rw [q_237_at1166, hL, cl_nI hL2, if_pos x1, if_pos x2, if_pos x3, e1, cI_s]
  simp only [k1]
  rw [hL, cl_nI hL2, if_pos x1, if_pos x2, if_pos x3, e2, cI_s, if_pos rfl, q_237_at1445, show nI i + 6 = nI (i + 6) from nI_add i 6]
theorem st_1209 {s : SS} {L i : Nat} (h : J s) (hL : s.1 60 1 0 = nI L) (hL2 : L < 2147483648) (hi : i + 6 ≤ L) : ∃ t, ev 237 1209 [some (.inr (.inr (60, 0))), some (.inr (.inr (0, 0))), some (.inr (.inr (30, 0))), some (.inl (nI i))] [] s = ev 237 18 [some (.inr (.inr (60, 0))), some (.inr (.inr (0, 0))), some (.inr (.inr (30, 0))), some (.inl (nI (i + 6)))] [] t ∧ J t ∧ t.1 60 1 0 = nI L := by
  have x1 : ixB (nI i + 1) L = true := by
    rw [show nI i + 1 = nI (i + 1) from nI_add i 1]
    exact ixB_nI (by omega) hL2
  have x2 : ixB (nI i + 2) L = true := by
    rw [show nI i + 2 = nI (i + 2) from nI_add i 2]
    exact ixB_nI (by omega) hL2
  obtain ⟨a, s1, s2, e1, e2, hJ, k1, k2⟩ := pub_act h (s.1 60 0 (nI i + 1).toNatClampNeg) (s.1 60 0 (nI i + 2).toNatClampNeg)
  refine ⟨s2, ?_, hJ, (k2 1 0).trans hL⟩
  rw [q_237_at1209, hL, cl_nI hL2, if_pos x1, if_pos x2, e1, cI_s]
  simp only [k1]
  rw [hL, cl_nI hL2, if_pos x1, if_pos x2, e2, cI_s, if_pos rfl, q_237_at1445, show nI i + 6 = nI (i + 6) from nI_add i 6]
theorem st_1242 {s : SS} {L i : Nat} (h : J s) (hL : s.1 60 1 0 = nI L) (hL2 : L < 2147483648) (hi : i + 6 ≤ L) : ∃ t, ev 237 1242 [some (.inr (.inr (60, 0))), some (.inr (.inr (0, 0))), some (.inr (.inr (30, 0))), some (.inl (nI i))] [] s = ev 237 18 [some (.inr (.inr (60, 0))), some (.inr (.inr (0, 0))), some (.inr (.inr (30, 0))), some (.inl (nI (i + 6)))] [] t ∧ J t ∧ t.1 60 1 0 = nI L := by
  have x1 : ixB (nI i + 1) L = true := by
    rw [show nI i + 1 = nI (i + 1) from nI_add i 1]
    exact ixB_nI (by omega) hL2
  have x2 : ixB (nI i + 2) L = true := by
    rw [show nI i + 2 = nI (i + 2) from nI_add i 2]
    exact ixB_nI (by omega) hL2
  have x3 : ixB (nI i + 3) L = true := by
    rw [show nI i + 3 = nI (i + 3) from nI_add i 3]
    exact ixB_nI (by omega) hL2
  obtain ⟨a, s1, s2, e1, e2, hJ, k1, k2⟩ := pub_look h (s.1 60 0 (nI i + 1).toNatClampNeg) (s.1 60 0 (nI i + 2).toNatClampNeg) (s.1 60 0 (nI i + 3).toNatClampNeg)
  refine ⟨s2, ?_, hJ, (k2 1 0).trans hL⟩
  rw [q_237_at1242, hL, cl_nI hL2, if_pos x1, if_pos x2, if_pos x3, e1, cI_s]
  simp only [k1]
  rw [hL, cl_nI hL2, if_pos x1, if_pos x2, if_pos x3, e2, cI_s, if_pos rfl, q_237_at1445, show nI i + 6 = nI (i + 6) from nI_add i 6]
theorem st_1285 {s : SS} {L i : Nat} (h : J s) (hL : s.1 60 1 0 = nI L) (hL2 : L < 2147483648) (hi : i + 6 ≤ L) : ∃ t, ev 237 1285 [some (.inr (.inr (60, 0))), some (.inr (.inr (0, 0))), some (.inr (.inr (30, 0))), some (.inl (nI i))] [] s = ev 237 18 [some (.inr (.inr (60, 0))), some (.inr (.inr (0, 0))), some (.inr (.inr (30, 0))), some (.inl (nI (i + 6)))] [] t ∧ J t ∧ t.1 60 1 0 = nI L := by
  obtain ⟨a, s1, s2, e1, e2, hJ, k1, k2⟩ := pub_wrong h 
  refine ⟨s2, ?_, hJ, (k2 1 0).trans hL⟩
  rw [q_237_at1285, e1, cI_s, e2, cI_s, if_pos rfl, q_237_at1445, show nI i + 6 = nI (i + 6) from nI_add i 6]
theorem st_1298 {s : SS} {L i : Nat} (h : J s) (hL : s.1 60 1 0 = nI L) (hL2 : L < 2147483648) (hi : i + 6 ≤ L) : ∃ t, ev 237 1298 [some (.inr (.inr (60, 0))), some (.inr (.inr (0, 0))), some (.inr (.inr (30, 0))), some (.inl (nI i))] [] s = ev 237 18 [some (.inr (.inr (60, 0))), some (.inr (.inr (0, 0))), some (.inr (.inr (30, 0))), some (.inl (nI (i + 6)))] [] t ∧ J t ∧ t.1 60 1 0 = nI L := by
  have x1 : ixB (nI i + 1) L = true := by
    rw [show nI i + 1 = nI (i + 1) from nI_add i 1]
    exact ixB_nI (by omega) hL2
  have x2 : ixB (nI i + 2) L = true := by
    rw [show nI i + 2 = nI (i + 2) from nI_add i 2]
    exact ixB_nI (by omega) hL2
  obtain ⟨a, s1, s2, e1, e2, hJ, k1, k2⟩ := pub_held h (s.1 60 0 (nI i + 1).toNatClampNeg) (s.1 60 0 (nI i + 2).toNatClampNeg)
  refine ⟨s2, ?_, hJ, (k2 1 0).trans hL⟩
  rw [q_237_at1298, hL, cl_nI hL2, if_pos x1, if_pos x2, e1, cI_s]
  simp only [k1]
  rw [hL, cl_nI hL2, if_pos x1, if_pos x2, e2, cI_s, if_pos rfl, q_237_at1445, show nI i + 6 = nI (i + 6) from nI_add i 6]
theorem st_1331 {s : SS} {L i : Nat} (h : J s) (hL : s.1 60 1 0 = nI L) (hL2 : L < 2147483648) (hi : i + 6 ≤ L) : ∃ t, ev 237 1331 [some (.inr (.inr (60, 0))), some (.inr (.inr (0, 0))), some (.inr (.inr (30, 0))), some (.inl (nI i))] [] s = ev 237 18 [some (.inr (.inr (60, 0))), some (.inr (.inr (0, 0))), some (.inr (.inr (30, 0))), some (.inl (nI (i + 6)))] [] t ∧ J t ∧ t.1 60 1 0 = nI L := by
  obtain ⟨a, s1, s2, e1, e2, hJ, k1, k2⟩ := pub_asked h 
  refine ⟨s2, ?_, hJ, (k2 1 0).trans hL⟩
  rw [q_237_at1331, e1, cI_s, e2, cI_s, if_pos rfl, q_237_at1445, show nI i + 6 = nI (i + 6) from nI_add i 6]
theorem st_1344 {s : SS} {L i : Nat} (h : J s) (hL : s.1 60 1 0 = nI L) (hL2 : L < 2147483648) (hi : i + 6 ≤ L) : ∃ t, ev 237 1344 [some (.inr (.inr (60, 0))), some (.inr (.inr (0, 0))), some (.inr (.inr (30, 0))), some (.inl (nI i))] [] s = ev 237 18 [some (.inr (.inr (60, 0))), some (.inr (.inr (0, 0))), some (.inr (.inr (30, 0))), some (.inl (nI (i + 6)))] [] t ∧ J t ∧ t.1 60 1 0 = nI L := by
  obtain ⟨a, s1, s2, e1, e2, hJ, k1, k2⟩ := pub_upper h 
  refine ⟨s2, ?_, hJ, (k2 1 0).trans hL⟩
  rw [q_237_at1344, e1, cL_s, e2, cL_s, if_pos (by rw [lg_z]), q_237_at1445, show nI i + 6 = nI (i + 6) from nI_add i 6]
theorem st_1358 {s : SS} {L i : Nat} (h : J s) (hL : s.1 60 1 0 = nI L) (hL2 : L < 2147483648) (hi : i + 6 ≤ L) : ∃ t, ev 237 1358 [some (.inr (.inr (60, 0))), some (.inr (.inr (0, 0))), some (.inr (.inr (30, 0))), some (.inl (nI i))] [] s = ev 237 18 [some (.inr (.inr (60, 0))), some (.inr (.inr (0, 0))), some (.inr (.inr (30, 0))), some (.inl (nI (i + 6)))] [] t ∧ J t ∧ t.1 60 1 0 = nI L := by
  obtain ⟨a, s1, s2, e1, e2, hJ, k1, k2⟩ := pub_lower h 
  refine ⟨s2, ?_, hJ, (k2 1 0).trans hL⟩
  rw [q_237_at1358, e1, cL_s, e2, cL_s, if_pos (by rw [lg_z]), q_237_at1445, show nI i + 6 = nI (i + 6) from nI_add i 6]
theorem st_1372 {s : SS} {L i : Nat} (h : J s) (hL : s.1 60 1 0 = nI L) (hL2 : L < 2147483648) (hi : i + 6 ≤ L) : ∃ t, ev 237 1372 [some (.inr (.inr (60, 0))), some (.inr (.inr (0, 0))), some (.inr (.inr (30, 0))), some (.inl (nI i))] [] s = ev 237 18 [some (.inr (.inr (60, 0))), some (.inr (.inr (0, 0))), some (.inr (.inr (30, 0))), some (.inl (nI (i + 6)))] [] t ∧ J t ∧ t.1 60 1 0 = nI L := by
  have x1 : ixB (nI i + 1) L = true := by
    rw [show nI i + 1 = nI (i + 1) from nI_add i 1]
    exact ixB_nI (by omega) hL2
  obtain ⟨a, s1, s2, e1, e2, hJ, k1, k2⟩ := pub_count h (s.1 60 0 (nI i + 1).toNatClampNeg)
  refine ⟨s2, ?_, hJ, (k2 1 0).trans hL⟩
  rw [q_237_at1372, hL, cl_nI hL2, if_pos x1, e1, cI_s]
  simp only [k1]
  rw [hL, cl_nI hL2, if_pos x1, e2, cI_s, if_pos rfl, q_237_at1445, show nI i + 6 = nI (i + 6) from nI_add i 6]
theorem st_1395 {s : SS} {L i : Nat} (h : J s) (hL : s.1 60 1 0 = nI L) (hL2 : L < 2147483648) (hi : i + 6 ≤ L) : ∃ t, ev 237 1395 [some (.inr (.inr (60, 0))), some (.inr (.inr (0, 0))), some (.inr (.inr (30, 0))), some (.inl (nI i))] [] s = ev 237 18 [some (.inr (.inr (60, 0))), some (.inr (.inr (0, 0))), some (.inr (.inr (30, 0))), some (.inl (nI (i + 6)))] [] t ∧ J t ∧ t.1 60 1 0 = nI L := by
  obtain ⟨a, s1, s2, e1, e2, hJ, k1, k2⟩ := pub_finding h 
  refine ⟨s2, ?_, hJ, (k2 1 0).trans hL⟩
  rw [q_237_at1395, e1, cI_s, e2, cI_s, if_pos rfl, q_237_at1445, show nI i + 6 = nI (i + 6) from nI_add i 6]
theorem st_1408 {s : SS} {L i : Nat} (h : J s) (hL : s.1 60 1 0 = nI L) (hL2 : L < 2147483648) (hi : i + 6 ≤ L) : ∃ t, ev 237 1408 [some (.inr (.inr (60, 0))), some (.inr (.inr (0, 0))), some (.inr (.inr (30, 0))), some (.inl (nI i))] [] s = ev 237 18 [some (.inr (.inr (60, 0))), some (.inr (.inr (0, 0))), some (.inr (.inr (30, 0))), some (.inl (nI (i + 6)))] [] t ∧ J t ∧ t.1 60 1 0 = nI L := by
  have x1 : ixB (nI i + 1) L = true := by
    rw [show nI i + 1 = nI (i + 1) from nI_add i 1]
    exact ixB_nI (by omega) hL2
  obtain ⟨a, s1, s2, e1, e2, hJ, k1, k2⟩ := pub_findings h (s.1 60 0 (nI i + 1).toNatClampNeg)
  refine ⟨s2, ?_, hJ, (k2 1 0).trans hL⟩
  rw [q_237_at1408, hL, cl_nI hL2, if_pos x1, e1, cI_s]
  simp only [k1]
  rw [hL, cl_nI hL2, if_pos x1, e2, cI_s, if_pos rfl, q_237_at1445, show nI i + 6 = nI (i + 6) from nI_add i 6]
theorem st_1431 {s : SS} {L i : Nat} (h : J s) (hL : s.1 60 1 0 = nI L) (hL2 : L < 2147483648) (hi : i + 6 ≤ L) : ∃ t, ev 237 1431 [some (.inr (.inr (60, 0))), some (.inr (.inr (0, 0))), some (.inr (.inr (30, 0))), some (.inl (nI i))] [] s = ev 237 18 [some (.inr (.inr (60, 0))), some (.inr (.inr (0, 0))), some (.inr (.inr (30, 0))), some (.inl (nI (i + 6)))] [] t ∧ J t ∧ t.1 60 1 0 = nI L := by
  obtain ⟨a, s1, s2, e1, e2, hJ, k1, k2⟩ := pub_digest h 
  refine ⟨s2, ?_, hJ, (k2 1 0).trans hL⟩
  rw [q_237_at1431, e1, cL_s, e2, cL_s, if_pos (by rw [lg_z]), q_237_at1445, show nI i + 6 = nI (i + 6) from nI_add i 6]
theorem st_18 {s : SS} {L i : Nat} (h : J s) (hL : s.1 60 1 0 = nI L) (hL2 : L < 2147483648) (hi : i + 6 ≤ L) : ∃ t, ev 237 18 [some (.inr (.inr (60, 0))), some (.inr (.inr (0, 0))), some (.inr (.inr (30, 0))), some (.inl (nI i))] [] s = ev 237 18 [some (.inr (.inr (60, 0))), some (.inr (.inr (0, 0))), some (.inr (.inr (30, 0))), some (.inl (nI (i + 6)))] [] t ∧ J t ∧ t.1 60 1 0 = nI L := by
  have n6 : (nI L - 6).toInt = (L : Int) - 6 := by
    have e6 : (6 : Int32).toInt = 6 := rfl
    rw [Int32.toInt_sub, ti_nI hL2, e6, Int.bmod_eq_of_le] <;> omega
  have c0 : ¬ (nI L - 6) < nI i := by
    rw [lt_iff, n6, ti_nI (by omega)]
    omega
  rw [q_237_at18, hL, cl_nI hL2, if_neg c0, if_pos (ixB_nI (show i < L by omega) hL2)]
  generalize (s.1 60 0 (nI i).toNatClampNeg &&& 63) = op
  by_cases o0 : op = 0
  · rw [if_pos o0]
    exact st_216 h hL hL2 hi
  rw [if_neg o0]
  by_cases o1 : op = 1
  · rw [if_pos o1]
    exact st_249 h hL hL2 hi
  rw [if_neg o1]
  by_cases o2 : op = 2
  · rw [if_pos o2]
    exact st_292 h hL hL2 hi
  rw [if_neg o2]
  by_cases o3 : op = 3
  · rw [if_pos o3]
    exact st_325 h hL hL2 hi
  rw [if_neg o3]
  by_cases o4 : op = 4
  · rw [if_pos o4]
    exact st_348 h hL hL2 hi
  rw [if_neg o4]
  by_cases o5 : op = 5
  · rw [if_pos o5]
    exact st_411 h hL hL2 hi
  rw [if_neg o5]
  by_cases o6 : op = 6
  · rw [if_pos o6]
    exact st_434 h hL hL2 hi
  rw [if_neg o6]
  by_cases o7 : op = 7
  · rw [if_pos o7]
    exact st_467 h hL hL2 hi
  rw [if_neg o7]
  by_cases o8 : op = 8
  · rw [if_pos o8]
    exact st_510 h hL hL2 hi
  rw [if_neg o8]
  by_cases o9 : op = 9
  · rw [if_pos o9]
    exact st_533 h hL hL2 hi
  rw [if_neg o9]
  by_cases o10 : op = 10
  · rw [if_pos o10]
    exact st_566 h hL hL2 hi
  rw [if_neg o10]
  by_cases o11 : op = 11
  · rw [if_pos o11]
    exact st_589 h hL hL2 hi
  rw [if_neg o11]
  by_cases o12 : op = 12
  · rw [if_pos o12]
    exact st_622 h hL hL2 hi
  rw [if_neg o12]
  by_cases o13 : op = 13
  · rw [if_pos o13]
    exact st_675 h hL hL2 hi
  rw [if_neg o13]
  by_cases o14 : op = 14
  · rw [if_pos o14]
    exact st_698 h hL hL2 hi
  rw [if_neg o14]
  by_cases o15 : op = 15
  · rw [if_pos o15]
    exact st_731 h hL hL2 hi
  rw [if_neg o15]
  by_cases o16 : op = 16
  · rw [if_pos o16]
    exact st_764 h hL hL2 hi
  rw [if_neg o16]
  by_cases o17 : op = 17
  · rw [if_pos o17]
    exact st_797 h hL hL2 hi
  rw [if_neg o17]
  by_cases o18 : op = 18
  · rw [if_pos o18]
    exact st_810 h hL hL2 hi
  rw [if_neg o18]
  by_cases o19 : op = 19
  · rw [if_pos o19]
    exact st_833 h hL hL2 hi
  rw [if_neg o19]
  by_cases o20 : op = 20
  · rw [if_pos o20]
    exact st_866 h hL hL2 hi
  rw [if_neg o20]
  by_cases o21 : op = 21
  · rw [if_pos o21]
    exact st_879 h hL hL2 hi
  rw [if_neg o21]
  by_cases o22 : op = 22
  · rw [if_pos o22]
    exact st_902 h hL hL2 hi
  rw [if_neg o22]
  by_cases o23 : op = 23
  · rw [if_pos o23]
    exact st_925 h hL hL2 hi
  rw [if_neg o23]
  by_cases o24 : op = 24
  · rw [if_pos o24]
    exact st_958 h hL hL2 hi
  rw [if_neg o24]
  by_cases o25 : op = 25
  · rw [if_pos o25]
    exact st_991 h hL hL2 hi
  rw [if_neg o25]
  by_cases o26 : op = 26
  · rw [if_pos o26]
    exact st_1024 h hL hL2 hi
  rw [if_neg o26]
  by_cases o27 : op = 27
  · rw [if_pos o27]
    exact st_1067 h hL hL2 hi
  rw [if_neg o27]
  by_cases o28 : op = 28
  · rw [if_pos o28]
    exact st_1110 h hL hL2 hi
  rw [if_neg o28]
  by_cases o29 : op = 29
  · rw [if_pos o29]
    exact st_1143 h hL hL2 hi
  rw [if_neg o29]
  by_cases o30 : op = 30
  · rw [if_pos o30]
    exact st_1166 h hL hL2 hi
  rw [if_neg o30]
  by_cases o31 : op = 31
  · rw [if_pos o31]
    exact st_1209 h hL hL2 hi
  rw [if_neg o31]
  by_cases o32 : op = 32
  · rw [if_pos o32]
    exact st_1242 h hL hL2 hi
  rw [if_neg o32]
  by_cases o33 : op = 33
  · rw [if_pos o33]
    exact st_1285 h hL hL2 hi
  rw [if_neg o33]
  by_cases o34 : op = 34
  · rw [if_pos o34]
    exact st_1298 h hL hL2 hi
  rw [if_neg o34]
  by_cases o35 : op = 35
  · rw [if_pos o35]
    exact st_1331 h hL hL2 hi
  rw [if_neg o35]
  by_cases o36 : op = 36
  · rw [if_pos o36]
    exact st_1344 h hL hL2 hi
  rw [if_neg o36]
  by_cases o37 : op = 37
  · rw [if_pos o37]
    exact st_1358 h hL hL2 hi
  rw [if_neg o37]
  by_cases o38 : op = 38
  · rw [if_pos o38]
    exact st_1372 h hL hL2 hi
  rw [if_neg o38]
  by_cases o39 : op = 39
  · rw [if_pos o39]
    exact st_1395 h hL hL2 hi
  rw [if_neg o39]
  by_cases o40 : op = 40
  · rw [if_pos o40]
    exact st_1408 h hL hL2 hi
  rw [if_neg o40]
  by_cases o41 : op = 41
  · rw [if_pos o41]
    exact st_1431 h hL hL2 hi
  rw [if_neg o41]
  refine ⟨s, ?_, h, hL⟩
  rw [q_237_at1445, show nI i + 6 = nI (i + 6) from nI_add i 6]
theorem law_run {L : Nat} (hL2 : L < 2147483640) : ∀ (n : Nat) {s : SS} {i : Nat}, L - i ≤ n → i ≤ L → J s → s.1 60 1 0 = nI L → ∃ t, ev 237 18 [some (.inr (.inr (60, 0))), some (.inr (.inr (0, 0))), some (.inr (.inr (30, 0))), some (.inl (nI i))] [] s = some (some (.inl 1), t)
  | n, s, i, hn, hi, h, hL => by
    by_cases hc : i + 6 ≤ L
    · obtain ⟨t, e, hJ, hL'⟩ := st_18 h hL (by omega) hc
      match n, hn with
      | 0, hn => omega
      | n + 1, hn =>
        obtain ⟨t2, e2⟩ := law_run hL2 n (s := t) (i := i + 6) (by omega) hc hJ hL'
        exact ⟨t2, e.trans e2⟩
    · have n6 : (nI L - 6).toInt = (L : Int) - 6 := by
        have e6 : (6 : Int32).toInt = 6 := rfl
        rw [Int32.toInt_sub, ti_nI (by omega), e6, Int.bmod_eq_of_le] <;> omega
      refine ⟨s, ?_⟩
      rw [q_237_at18, hL, if_pos (by
        rw [lt_iff, n6, ti_nI (by omega)]
        omega)]
