/-! fault, and the laws -/
theorem LJ_cg {s t : SS} {j k : Nat} (h : LJ s j k) (hc : ∀ a c, 13 ≤ a → a ≤ 17 → t.1 a j c = s.1 a j c) (hr : ∀ a, 42 ≤ a → a ≤ 45 → t.1 a 0 k = s.1 a 0 k) (hp : ∀ a p, 46 ≤ a → a ≤ 49 → p < 6 → t.1 a 0 (6 * k + p) = s.1 a 0 (6 * k + p)) : LJ t j k := by
  have c13 := fun c => hc 13 c (by decide) (by decide)
  have c14 := fun c => hc 14 c (by decide) (by decide)
  have c15 := fun c => hc 15 c (by decide) (by decide)
  have c16 := fun c => hc 16 c (by decide) (by decide)
  have c17 := fun c => hc 17 c (by decide) (by decide)
  have r42 := hr 42 (by decide) (by decide)
  have r43 := hr 43 (by decide) (by decide)
  have r44 := hr 44 (by decide) (by decide)
  have r45 := hr 45 (by decide) (by decide)
  have p48 : t.1 48 0 (6 * k) = s.1 48 0 (6 * k) := hp 48 0 (by decide) (by decide) (by decide)
  have p49 : t.1 49 0 (6 * k) = s.1 49 0 (6 * k) := hp 49 0 (by decide) (by decide) (by decide)
  unfold LJ at h ⊢
  simp only [c13, r42, r43, r44, r45, p48, p49]
  rcases h with h | ⟨h0, kd, np, w, f, h1, h2, h3, h4, h5, h6, h7, h8, h9, h10, h11, h12, h13, h14, h15⟩
  · exact Or.inl h
  · refine Or.inr ⟨h0, kd, np, w, f, h1, h2, h3, h4, h5, h6, h7, h8, h9, h10, h11, h12, h13, h14, fun p hpp => ?_⟩
    have g := h15 p hpp
    have p6 : p < 6 := by omega
    unfold PJ at g ⊢
    simp only [c14, c15, c16, c17, hp 46 p (by decide) (by decide) p6, hp 47 p (by decide) (by decide) p6, hp 48 p (by decide) (by decide) p6, hp 49 p (by decide) (by decide) p6]
    exact g
theorem Ag_off2 {Q : Nat → Nat → Nat → Bool} {K : List Nat} {s t : SS} (h : OffP Q s t) (hd : ∀ a, a ∈ K → ∀ b c, Q a b c = false) : Ag K s t := ⟨fun a ha => ⟨fun b c => h.1 a b c (hd a ha b c), fun b c => by rw [h.2]⟩, by rw [h.2]⟩
theorem QC_f {j a b c : Nat} (h : a < 13 ∨ 17 < a) : QC j a b c = false := by
  unfold QC
  rcases h with h | h
  · simp; omega
  · simp; omega
theorem QR_f {a b c : Nat} (h : a < 30 ∨ 41 < a ∨ (30 < a ∧ a < 38)) : QR a b c = false := by
  unfold QR
  simp
  omega
theorem Ag_QC {j : Nat} {K : List Nat} {s t : SS} (h : OffP (QC j) s t) (hd : ∀ a, a ∈ K → a < 13 ∨ 17 < a) : Ag K s t := Ag_off2 h (fun a ha _ _ => QC_f (hd a ha))
theorem Ag_QR {K : List Nat} {s t : SS} (h : OffP QR s t) (hd : ∀ a, a ∈ K → a < 30 ∨ 41 < a ∨ (30 < a ∧ a < 38)) : Ag K s t := Ag_off2 h (fun a ha _ _ => QR_f (hd a ha))
/-- the draft was written, and what the reference reads into -/
theorem J_rd {s sC sR : SS} (h : J s) (oc : OffP (QC (s.2.2 8)) s sC) (orr : OffP QR sC sR) : J sR := by
  obtain ⟨h1, h2, h3, h4, h5, h6⟩ := h
  have ag : ∀ {K : List Nat}, (∀ a, a ∈ K → (a < 13 ∨ 17 < a) ∧ (a < 30 ∨ 41 < a ∨ (30 < a ∧ a < 38))) → Ag K s sR := fun hd => Ag_tr (Ag_QC oc (fun a ha => (hd a ha).1)) (Ag_QR orr (fun a ha => (hd a ha).2))
  have c0 : ∀ b c, sR.1 0 b c = s.1 0 b c := fun b c => (orr.1 0 b c (QR_f (by decide))).trans (oc.1 0 b c (QC_f (by decide)))
  have c30 : ∀ c, c < 12 → sR.1 30 0 c = s.1 30 0 c := fun c hc => (orr.1 30 0 c (by unfold QR; simp; omega)).trans (oc.1 30 0 c (QC_f (by decide)))
  have e2 : sR.2 = s.2 := orr.2.trans oc.2
  refine ⟨JR_ag (ag (by decide)) h1, JT_ag (ag (by decide)) h2, ?_, JS_ag (ag (by decide)) (c0 _ _) (c30 10 (by decide)) h4, ⟨?_, ?_, fun k hk => ?_⟩, JB_ag (ag (by decide)) (c0 _ _) (c30 10 (by decide)) h6⟩
  · exact JF_of (ag (by decide)) (c0 _ _) (c0 _ _) (c30 0 (by decide)) (c30 2 (by decide)) (by rw [e2]) h3
  · rw [e2]; exact h5.1
  · rw [e2]; exact h5.2.1
  · rw [e2]
    have hne : s.2.2 k ≠ s.2.2 8 := fun z => by
      have := h5.2.1 k 8 (by omega) (by omega) z
      omega
    refine LJ_cg (h5.2.2 k hk) (fun a c a1 a2 => ?_) (fun a a1 a2 => ?_) (fun a p a1 a2 _ => ?_)
    · rw [orr.1 a _ c (QR_f (by omega)), oc.1 a _ c (by unfold QC; simp [hne])]
    · rw [orr.1 a _ k (QR_f (by omega)), oc.1 a _ k (QC_f (by omega))]
    · rw [orr.1 a _ _ (QR_f (by omega)), oc.1 a _ _ (QC_f (by omega))]
/-- reading in one system and then in the other -/
theorem rd2 {s : SS} {j k q n : Nat} (hJ : J s) (hk : k < 5) (hq : q < 4) (hn : n ≤ 40) (g1 : s.1 6 0 q = nI n) (g2 : s.1 35 0 q = nI n) : ∃ a sC sR, ev 21 0 [some (.inr (.inr (13, j))), some (.inr (.inr (2, 0))), some (.inl (nI q)), some (.inl (nI k)), none, none, none] [] s = some (some (.inl a), sC) ∧ ev 176 0 [some (.inr (.inr (30, 0))), some (.inl (nI q)), some (.inl (nI k)), none, none] [] sC = some (some (.inl a), sR) ∧ OffP (QC j) s sC ∧ OffP QR sC sR ∧ (a = -9 → Fn j k sC sR) ∧ (a = -9 ∨ ∃ i, i ≤ 40 ∧ a = nI i) := by
  have tc : TC s q n (s.1 8 q) := ⟨g1, fun _ _ => rfl⟩
  have tr : TR s q n (s.1 8 q) := ⟨g2, fun i hi => (hJ.2.1.2 q i hq (by omega)).symm⟩
  obtain ⟨a, sC, sR, e1, e2, oc, orr, -, -⟩ := rd (j := j) hk hq hn tc tr
  have tr2 : TR sC q n (s.1 8 q) := ⟨(oc.1 35 0 q (QC_f (by decide))).trans tr.1, fun i hi => (oc.1 36 0 _ (QC_f (by decide))).trans (tr.2 i hi)⟩
  obtain ⟨a', sC', sR', e1', e2', oc', orr', hf, hi⟩ := rd (j := j) (r := sC) hk hq hn tc tr2
  have z := e1.symm.trans e1'
  simp only [Option.some.injEq, Prod.mk.injEq, Sum.inl.injEq] at z
  obtain ⟨rfl, rfl⟩ := z
  exact ⟨a, sC, sR', e1, e2', oc, orr', hf, hi⟩
theorem c_114 (x : Int32) (s : SS) : ev 114 0 [some (.inl x)] [] s = some (some (.inl (bI (ixB x 8))), s) := by
  rw [q_114]
  refine (rg_ix x 8 (by decide) _ _).trans ?_
  cases ixB x 8 <;> rfl
theorem c_115 (x : Int32) (s : SS) : ev 115 0 [some (.inl x)] [] s = some (some (.inl (bI (ixB x 5))), s) := by
  rw [q_115]
  refine (in_ix2 x 4 (by decide) _ _).trans ?_
  cases ixB x 5 <;> rfl
theorem c_116 (x : Int32) (s : SS) : ev 116 0 [some (.inl x)] [] s = some (some (.inl (bI (ixB x 10))), s) := by
  rw [q_116]
  refine (in_ix2 x 9 (by decide) _ _).trans ?_
  cases ixB x 10 <;> rfl
theorem c_177 (x : Int32) (s : SS) : ev 177 0 [some (.inl x)] [] s = some (some (.inl (bI (ixB x 5))), s) := by
  rw [q_177, c_144, cI_s, show (4 : Int32) = nI 4 from rfl, in_ix x 4 (by decide), bI_Z]
  rfl
theorem c_179 (x : Int32) (s : SS) : ev 179 0 [some (.inl x)] [] s = some (some (.inl (bI (ixB x 8))), s) := by
  rw [q_179, c_144, cI_s, show (7 : Int32) = nI 7 from rfl, in_ix x 7 (by decide), bI_Z]
  rfl
def softB (x : Int32) : Bool := decide (x = 2) || decide (x = 3)
def hardB (x : Int32) : Bool := decide (x = 1) || decide (x = 4)
theorem c_117 (x : Int32) (s : SS) : ev 117 0 [some (.inl x)] [] s = some (some (.inl (bI (hardB x))), s) := by
  rw [q_117]
  unfold hardB
  by_cases h1 : x = 1 <;> by_cases h2 : x = 4 <;> simp [h1, h2, bI]
theorem c_118 (x : Int32) (s : SS) : ev 118 0 [some (.inl x)] [] s = some (some (.inl (bI (softB x))), s) := by
  rw [q_118]
  unfold softB
  by_cases h1 : x = 2 <;> by_cases h2 : x = 3 <;> simp [h1, h2, bI]
theorem c_181 (x : Int32) (s : SS) : ev 181 0 [some (.inl x)] [] s = some (some (.inl (bI (softB x))), s) := by
  rw [q_181]
  unfold softB
  by_cases h1 : x = 2 <;> by_cases h2 : x = 3 <;> simp [h1, h2, bI]
theorem c_182 (x : Int32) (s : SS) : ev 182 0 [some (.inl x)] [] s = some (some (.inl (bI (hardB x))), s) := by
  rw [q_182]
  unfold hardB
  by_cases h1 : x = 1 <;> by_cases h2 : x = 4 <;> simp [h1, h2, bI]
theorem off60 {j : Nat} {s t : SS} (h : OffP (QC j) s t) : ∀ b c, t.1 60 b c = s.1 60 b c := fun b c => h.1 60 b c (QC_f (by decide))
theorem pub_fault {s : SS} (h : J s) (t k : Int32) : PI 69 178 [some (.inr (.inr (0, 0))), some (.inl t), some (.inl k)] [some (.inr (.inr (30, 0))), some (.inl t), some (.inl k), none] s := by
  by_cases ht : ixB t 4 = true
  · by_cases hk : ixB k 5 = true
    · obtain ⟨q, hq, rfl⟩ := (ixB_iff (by decide)).mp ht
      obtain ⟨kd, hkd, rfl⟩ := (ixB_iff (by decide)).mp hk
      rcases h.2.1.1 q hq with ⟨g1, g2⟩ | ⟨n, hn, g1, g2⟩
      · refine PI_f h (f := 1) (by decide) ?_ (fun t ha _ => ?_)
        · rw [q_69, c_9_2, ht, cI_s, ite_bI, if_pos rfl, c_115, hk, cI_s, ite_bI, if_pos rfl, c_10_2, hasT_n hq g1, cI_s, ite_bI, if_neg (by decide), c_100_1, cI_s]
        · rw [q_178, c_177, hk, cI_s, ite_bI, if_pos rfl, at_m hq (by rw [(ha.1 35 (by decide)).1]; exact g2), cI_s, if_pos (by decide)]
      · obtain ⟨a, sC, sR, e1, e2, oc, orr, -, -⟩ := rd2 (j := s.2.2 8) h hkd hq hn g1 g2
        refine ⟨a, sC, sR, ?_, ?_, J_rd h oc orr, off60 oc, fun b c => (orr.1 60 b c (QR_f (by decide))).trans (off60 oc b c)⟩
        · rw [q_69, c_9_2, ht, cI_s, ite_bI, if_pos rfl, c_115, hk, cI_s, ite_bI, if_pos rfl, c_10_2, hasT_y hq hn g1, cI_s, ite_bI, if_pos rfl, e1, cI_s]
        · rw [q_178, c_177, hk, cI_s, ite_bI, if_pos rfl, at_y hq hn (show sC.1 35 0 q = nI n from (oc.1 35 0 q (QC_f (by decide))).trans g2), cI_s, if_neg (by decide), e2, cI_s]
    · refine PI_0 h (-1) ?_ ?_
      · rw [q_69, c_9_2, ht, cI_s, ite_bI, if_pos rfl, c_115, ix_no hk, cI_s, ite_bI, if_neg (by decide)]
      · rw [q_178, c_177, ix_no hk, cI_s, ite_bI, if_neg (by decide)]
  · by_cases hk : ixB k 5 = true
    · refine PI_0 h (-1) ?_ ?_
      · rw [q_69, c_9_2, ix_no ht, cI_s, ite_bI, if_neg (by decide)]
      · rw [q_178, c_177, hk, cI_s, ite_bI, if_pos rfl, at_b (ix_no ht), cI_s, if_pos (by decide)]
    · refine PI_0 h (-1) ?_ ?_
      · rw [q_69, c_9_2, ix_no ht, cI_s, ite_bI, if_neg (by decide)]
      · rw [q_178, c_177, ix_no hk, cI_s, ite_bI, if_neg (by decide)]
