/-! rows and texts: the two systems' methods -/
theorem c_8_7 (j : Nat) (v : Int32) (s : SS) : ev 8 0 [some (.inr (.inr (7, j))), some (.inl v), none, none] [] s = some (none, fo (fun i s => wI s 7 j (0 + i) v) 40 s) := by
  rw [q_8_7]
  have h := lpS (fun i s => ev 8 5 [some (.inr (.inr (7, j))), some (.inl v), some (.inl (nI i)), some (.inl (nI 40))] [] s) (fun i s => wI s 7 j (0 + i) v) 40 (fun i x hi => by
    show ev 8 5 _ _ x = _
    rw [q_8_at5_7, if_pos (nI_lt hi (by decide)), if_pos (ixB_nI hi (by decide)), nI_s, cl_nI (by omega), Nat.zero_add]) s
  refine (show ev 8 5 _ _ s = _ from h).trans ?_
  rw [q_8_at5_7, if_neg (irr _)]
theorem c_8_8 (j : Nat) (v : Int32) (s : SS) : ev 8 0 [some (.inr (.inr (8, j))), some (.inl v), none, none] [] s = some (none, fo (fun i s => wI s 8 j (0 + i) v) 40 s) := by
  rw [q_8_8]
  have h := lpS (fun i s => ev 8 5 [some (.inr (.inr (8, j))), some (.inl v), some (.inl (nI i)), some (.inl (nI 40))] [] s) (fun i s => wI s 8 j (0 + i) v) 40 (fun i x hi => by
    show ev 8 5 _ _ x = _
    rw [q_8_at5_8, if_pos (nI_lt hi (by decide)), if_pos (ixB_nI hi (by decide)), nI_s, cl_nI (by omega), Nat.zero_add]) s
  refine (show ev 8 5 _ _ s = _ from h).trans ?_
  rw [q_8_at5_8, if_neg (irr _)]
/-- the reference's range test -/
theorem c_144 (v a b : Int32) (s : SS) : ev 144 0 [some (.inl v), some (.inl a), some (.inl b)] [] s = some (some (.inl (bI (!(decide (v < a)) && !(decide (b < v))))), s) := by
  rw [q_144]
  by_cases h1 : v < a <;> by_cases h2 : b < v <;> simp [h1, h2, bI]
theorem in_ix (v : Int32) (n : Nat) (hn : n + 1 < 2147483648) : (!(decide (v < 0)) && !(decide (nI n < v))) = ixB v (n + 1) := by
  by_cases h : ixB v (n + 1) = true
  · rw [h]
    obtain ⟨j, hj, rfl⟩ := (ixB_iff (by omega)).mp h
    have h1 : ¬ nI j < 0 := nI_pos (by omega)
    have h2 : ¬ nI n < nI j := by
      rw [n_lt (by omega) (by omega)]
      omega
    simp [h1, h2]
  · cases hb : ixB v (n + 1) with
    | true => exact absurd hb h
    | false =>
      rcases ixB_no (by omega) h with h1 | h1
      · simp [h1]
      · have h2 : nI n < v := by
          rw [lt_iff, ti_nI (by omega)]
          rw [le_iff, ti_nI (by omega)] at h1
          omega
        simp [h2]
theorem c_150 (v : Int32) (s : SS) : ev 150 0 [some (.inl v)] [] s = some (some (.inl (bI (ixB v 6))), s) := by
  rw [q_150, c_144, cI_s, show (5 : Int32) = nI 5 from rfl, in_ix v 5 (by decide), bI_Z]
  rfl
theorem c_151 (v : Int32) (s : SS) : ev 151 0 [some (.inl v)] [] s = some (some (.inl (bI (ixB v 4))), s) := by
  rw [q_151, c_144, cI_s, show (3 : Int32) = nI 3 from rfl, in_ix v 3 (by decide), bI_Z]
  rfl
theorem c_146 (v a : Int32) (s : SS) : ev 146 0 [some (.inr (.inr (30, 0))), some (.inl v), some (.inl a)] [] s = some (some (.inl a), wI s 30 0 2 v) := q_146 v a s
theorem c_154 {q i : Nat} (hq : q < 6) (hi : i < 40) (s : SS) : ev 154 0 [some (.inr (.inr (30, 0))), some (.inl (nI q)), some (.inl (nI i))] [] s = some (some (.inl (s.1 33 0 (40 * q + i))), s) := by
  rw [q_154, n_mulL, n_add, if_pos (ixB_nI (by omega) (by decide)), cl_nI (by omega)]
/-! row -/
theorem row_c {j n : Nat} (hj : j < 6) (hn : n ≤ 40) (s : SS) : ev 58 0 [some (.inr (.inr (0, 0))), some (.inl (nI j)), some (.inl (nI n))] [] s = some (some (.inl (nI n)), fo (fun i s => wI s 7 j (0 + i) 0) 40 (wI s 5 0 j (nI n))) := by
  have h1 : ¬ (40 : Int32) < nI n := by
    rw [L_ltn (by omega) (by decide)]
    omega
  have h2 : ¬ nI n < 0 := nI_pos (by omega)
  rw [q_58, q_101_1, c_9_1, ixB_nI hj (by decide), cI_s, ite_bI, if_pos rfl, if_neg h1, if_neg h2, q_13_1, c_9_1, ixB_nI hj (by decide), cI_s, ite_bI, if_pos rfl, if_neg h2, if_neg h1, if_pos rfl, if_pos rfl, cl_nI (by omega), c_8_7, cV_s, cV_s, cI_s]
theorem row_r {j n : Nat} (hj : j < 6) (hn : n ≤ 40) (s : SS) : ev 155 0 [some (.inr (.inr (30, 0))), some (.inl (nI j)), some (.inl (nI n)), none] [] s = some (some (.inl (nI n)), fo (fun i s => wI s 33 0 (40 * j + i) 0) 40 (wI s 32 0 j (nI n))) := by
  have h1 : ¬ (40 : Int32) < nI n := by
    rw [L_ltn (by omega) (by decide)]
    omega
  have h2 : ¬ nI n < 0 := nI_pos (by omega)
  rw [q_155, c_150, ixB_nI hj (by decide), cI_s, ite_bI, if_pos rfl, if_neg h1, if_neg h2, if_pos rfl, cl_nI (by omega)]
  have h := lpS (fun i s => ev 155 34 [some (.inr (.inr (30, 0))), some (.inl (nI j)), some (.inl (nI n)), some (.inl (nI i))] [] s) (fun i s => wI s 33 0 (40 * j + i) 0) 40 (fun i x hi => by
    show ev 155 34 _ _ x = _
    rw [q_155_at34, if_pos (show nI i < (40 : Int32) from nI_lt hi (by decide)), n_mulL, n_add, if_pos (ixB_nI (by omega) (by decide)), nI_s, cl_nI (by omega)]) (wI s 32 0 j (nI n))
  refine (show ev 155 34 _ _ _ = _ from h).trans ?_
  rw [q_155_at34, if_neg (show ¬ nI 40 < (40 : Int32) from irr (nI 40))]
theorem text_c {j n : Nat} (hj : j < 4) (hn : n ≤ 40) (s : SS) : ev 64 0 [some (.inr (.inr (0, 0))), some (.inl (nI j)), some (.inl (nI n))] [] s = some (some (.inl (nI n)), fo (fun i s => wI s 8 j (0 + i) 32) 40 (wI s 6 0 j (nI n))) := by
  have h1 : ¬ (40 : Int32) < nI n := by
    rw [L_ltn (by omega) (by decide)]
    omega
  have h2 : ¬ nI n < 0 := nI_pos (by omega)
  rw [q_64, q_101_2, c_9_2, ixB_nI hj (by decide), cI_s, ite_bI, if_pos rfl, if_neg h1, if_neg h2, q_13_2, c_9_2, ixB_nI hj (by decide), cI_s, ite_bI, if_pos rfl, if_neg h2, if_neg h1, if_pos rfl, if_pos rfl, cl_nI (by omega), c_8_8, cV_s, cV_s, cI_s]
theorem text_r {j n : Nat} (hj : j < 4) (hn : n ≤ 40) (s : SS) : ev 161 0 [some (.inr (.inr (30, 0))), some (.inl (nI j)), some (.inl (nI n)), none] [] s = some (some (.inl (nI n)), fo (fun i s => wI s 36 0 (40 * j + i) 32) 40 (wI s 35 0 j (nI n))) := by
  have h1 : ¬ (40 : Int32) < nI n := by
    rw [L_ltn (by omega) (by decide)]
    omega
  have h2 : ¬ nI n < 0 := nI_pos (by omega)
  rw [q_161, c_151, ixB_nI hj (by decide), cI_s, ite_bI, if_pos rfl, if_neg h1, if_neg h2, if_pos rfl, cl_nI (by omega)]
  have h := lpS (fun i s => ev 161 34 [some (.inr (.inr (30, 0))), some (.inl (nI j)), some (.inl (nI n)), some (.inl (nI i))] [] s) (fun i s => wI s 36 0 (40 * j + i) 32) 40 (fun i x hi => by
    show ev 161 34 _ _ x = _
    rw [q_161_at34, if_pos (show nI i < (40 : Int32) from nI_lt hi (by decide)), n_mulL, n_add, if_pos (ixB_nI (by omega) (by decide)), nI_s, cl_nI (by omega)]) (wI s 35 0 j (nI n))
  refine (show ev 161 34 _ _ _ = _ from h).trans ?_
  rw [q_161_at34, if_neg (show ¬ nI 40 < (40 : Int32) from irr (nI 40))]
/-- one call in both systems: the same answer, the coupling again, the script as it was -/
def PI (cm rm : Nat) (ca ra : LO) (s : SS) : Prop := ∃ (a : Int32) (s1 s2 : SS), ev cm 0 ca [] s = some (some (.inl a), s1) ∧ ev rm 0 ra [] s1 = some (some (.inl a), s2) ∧ J s2 ∧ (∀ b c, s1.1 60 b c = s.1 60 b c) ∧ ∀ b c, s2.1 60 b c = s.1 60 b c
def PL (cm rm : Nat) (ca ra : LO) (s : SS) : Prop := ∃ (a : Int64) (s1 s2 : SS), ev cm 0 ca [] s = some (some (.inr (.inl a)), s1) ∧ ev rm 0 ra [] s1 = some (some (.inr (.inl a)), s2) ∧ J s2 ∧ (∀ b c, s1.1 60 b c = s.1 60 b c) ∧ ∀ b c, s2.1 60 b c = s.1 60 b c
theorem J_f {s : SS} (h : J s) {f : Nat} (hf : f < 6) : J (fR (fC s f) f) := J_ag (s := s) (Ag_tr (Ag_fC (by decide) (by decide)) (Ag_fR (by decide) (by decide))) rfl rfl rfl (JR_ag (Ag_tr (Ag_fC (by decide) (by decide)) (Ag_fR (by decide) (by decide))) h.1) (JT_ag (Ag_tr (Ag_fC (by decide) (by decide)) (Ag_fR (by decide) (by decide))) h.2.1) (JF_f h.2.2.1 hf) h
/-- a finding in both -/
theorem PI_f {cm rm f : Nat} {ca ra : LO} {s : SS} (h : J s) (hf : f < 6) (h1 : ev cm 0 ca [] s = some (some (.inl (-3)), fC s f)) (h2 : ∀ t, Ag [32, 35, 37, 42] s t → t.1 30 0 10 = s.1 30 0 10 → ev rm 0 ra [] t = some (some (.inl (-3)), fR t f)) : PI cm rm ca ra s := ⟨-3, _, _, h1, h2 _ (Ag_fC (by decide) (by decide)) rfl, J_f h hf, fun _ _ => rfl, fun _ _ => rfl⟩
theorem PI_0 {cm rm : Nat} {ca ra : LO} {s : SS} (h : J s) (a : Int32) (h1 : ev cm 0 ca [] s = some (some (.inl a), s)) (h2 : ev rm 0 ra [] s = some (some (.inl a), s)) : PI cm rm ca ra s := ⟨a, s, s, h1, h2, h, fun _ _ => rfl, fun _ _ => rfl⟩
/-- what a call tells by asked() -/
theorem J_ask {s : SS} (h : J s) (v : Int32) : J (wI (wI s 0 0 9 v) 30 0 2 v) := by
  obtain ⟨h1, h2, h3, h4, h5, h6⟩ := h
  refine J_ag (s := s) (Ag_tr (Ag_wI (by decide)) (Ag_wI (by decide))) rfl rfl rfl (JR_ag (Ag_tr (Ag_wI (by decide)) (Ag_wI (by decide))) h1) (JT_ag (Ag_tr (Ag_wI (by decide)) (Ag_wI (by decide))) h2) ?_ ⟨h1, h2, h3, h4, h5, h6⟩
  exact ⟨rfl, h3.2.1, h3.2.2.1, h3.2.2.2.1, h3.2.2.2.2⟩
theorem ix_no {x : Int32} {n : Nat} (h : ¬ ixB x n = true) : ixB x n = false := by
  cases hb : ixB x n with
  | false => rfl
  | true => exact absurd hb h
/-- an int is too small, or too large, or in place -/
theorem three (x : Int32) (n : Nat) (hn : n + 1 < 2147483648) : x < 0 ∨ (nI n < x) ∨ ∃ m, m ≤ n ∧ x = nI m := by
  rcases pk_ix x (n := n + 1) hn with h | h | ⟨m, h1, h2⟩
  · exact Or.inl h
  · refine Or.inr (Or.inl ?_)
    rw [lt_iff, ti_nI (by omega)]
    rw [le_iff, ti_nI hn] at h
    omega
  · exact Or.inr (Or.inr ⟨m, by omega, h2⟩)
theorem neg_lt {x : Int32} (h : x < 0) (n : Nat) (hn : n < 2147483648) : ¬ nI n < x := by
  rw [lt_iff, ti_nI hn]
  rw [lt_iff] at h
  have : (0 : Int32).toInt = 0 := rfl
  omega
theorem big_nn {x : Int32} {n : Nat} (h : nI n < x) (hn : n < 2147483648) : ¬ x < 0 := by
  rw [lt_iff]
  rw [lt_iff, ti_nI hn] at h
  have : (0 : Int32).toInt = 0 := rfl
  omega
/-- t differs from s in the ints of some kinds alone -/
def OffK (K : List Nat) (s t : SS) : Prop := (∀ a b c, a ∉ K → t.1 a b c = s.1 a b c) ∧ t.2 = s.2
theorem Off_rf {K : List Nat} {s : SS} : OffK K s s := ⟨fun _ _ _ _ => rfl, rfl⟩
theorem Off_tr {K : List Nat} {s t u : SS} (h1 : OffK K s t) (h2 : OffK K t u) : OffK K s u := ⟨fun a b c h => (h2.1 a b c h).trans (h1.1 a b c h), h2.2.trans h1.2⟩
theorem Off_wI {K : List Nat} {s : SS} {k j i : Nat} {v : Int32} (h : k ∈ K) : OffK K s (wI s k j i v) := ⟨fun a b c ha => by rw [wI_1, if_neg (show ¬ (a = k ∧ b = j ∧ c = i) from fun z => ha (z.1 ▸ h))], rfl⟩
theorem Off_wA {K : List Nat} {s : SS} {k j : Nat} {f : Nat → Int32} (h : k ∈ K) : OffK K s (wA s k j f) := ⟨fun a b c ha => by rw [wA_1, if_neg (show ¬ (a = k ∧ b = j) from fun z => ha (z.1 ▸ h))], rfl⟩
theorem Off_fo {K : List Nat} {f : Nat → SS → SS} (h : ∀ i s, OffK K s (f i s)) (s : SS) : ∀ n, OffK K s (fo f n s)
  | 0 => Off_rf
  | n + 1 => Off_tr (Off_fo h s n) (h n _)
theorem Ag_off {K K' : List Nat} {s t : SS} (h : OffK K s t) (hd : ∀ a, a ∈ K' → a ∉ K) : Ag K' s t := ⟨fun a ha => ⟨fun b c => h.1 a b c (hd a ha), fun b c => by rw [h.2]⟩, by rw [h.2]⟩
theorem J_off {K : List Nat} {s t : SS} (h : OffK K s t) (hd : ∀ a, a ∈ [0, 9, 11, 12, 13, 14, 15, 16, 17, 18, 19, 30, 31, 37, 42, 43, 44, 45, 46, 47, 48, 49] → a ∉ K) (hR : JR t) (hT : JT t) (hJ : J s) : J t := by
  have e0 : ∀ b c, t.1 0 b c = s.1 0 b c := fun b c => h.1 0 b c (hd 0 (by decide))
  have e30 : ∀ b c, t.1 30 b c = s.1 30 b c := fun b c => h.1 30 b c (hd 30 (by decide))
  refine J_ag (s := s) (Ag_mono (Ag_off h hd) (by decide)) (e0 _ _) (e0 _ _) (e30 _ _) hR hT ?_ hJ
  exact JF_ag (Ag_mono (Ag_off h hd) (by decide)) (e0 _ _) (e0 _ _) (e30 _ _) (e30 _ _) (by rw [h.2]) (by rw [h.2]) (by rw [h.2]) (by rw [h.2]) hJ.2.2.1
/-! row -/
theorem pub_row {s : SS} (h : J s) (r n : Int32) : PI 58 155 [some (.inr (.inr (0, 0))), some (.inl r), some (.inl n)] [some (.inr (.inr (30, 0))), some (.inl r), some (.inl n), none] s := by
  by_cases hr : ixB r 6 = true
  · rcases three n 40 (by decide) with hn | hn | ⟨m, hm, rfl⟩
    · have hn2 : ¬ (40 : Int32) < n := neg_lt hn 40 (by decide)
      refine PI_f h (f := 5) (by decide) ?_ (fun t _ _ => ?_)
      · rw [q_58, q_101_1, c_9_1, hr, cI_s, ite_bI, if_pos rfl, if_neg hn2, if_pos hn, c_100_5, cI_s, cI_s]
      · rw [q_155, c_150, hr, cI_s, ite_bI, if_pos rfl, if_neg hn2, if_pos hn, c_145_5, cI_s]
    · have hn2 : (40 : Int32) < n := hn
      refine PI_0 h (-1) ?_ ?_
      · rw [q_58, q_101_1, c_9_1, hr, cI_s, ite_bI, if_pos rfl, if_pos hn2, cI_s]
      · rw [q_155, c_150, hr, cI_s, ite_bI, if_pos rfl, if_pos hn2]
    · obtain ⟨j, hj, rfl⟩ := (ixB_iff (by decide)).mp hr
      have hoff : OffK [5, 7, 32, 33] s (fo (fun i s => wI s 33 0 (40 * j + i) 0) 40 (wI (fo (fun i s => wI s 7 j (0 + i) 0) 40 (wI s 5 0 j (nI m))) 32 0 j (nI m))) := Off_tr (Off_tr (Off_tr (Off_wI (by decide)) (Off_fo (fun _ _ => Off_wI (by decide)) _ _)) (Off_wI (by decide))) (Off_fo (fun _ _ => Off_wI (by decide)) _ _)
      refine ⟨nI m, _, _, row_c hj hm s, row_r hj hm _, J_off hoff (by decide) ⟨fun q hq => ?_, fun q i hq hi => ?_⟩ (JT_ag (Ag_off hoff (by decide)) h.2.1) h, fun b c => (Off_tr (Off_wI (K := [5, 7]) (by decide)) (Off_fo (fun _ _ => Off_wI (by decide)) _ _)).1 60 b c (by decide), fun b c => hoff.1 60 b c (by decide)⟩
      · by_cases e : q = j
        · subst e
          refine Or.inr ⟨m, hm, ?_, ?_⟩ <;> simp only [fo_wI, wI_1] <;> simp
        · rcases h.1.1 q hq with g | ⟨n, g1, g2, g3⟩
          · exact Or.inl (by simp only [fo_wI, wI_1]; simpa [e] using g)
          · exact Or.inr ⟨n, g1, by simp only [fo_wI, wI_1]; simpa [e] using g2, by simp only [fo_wI, wI_1]; simpa [e] using g3⟩
      · have g := h.1.2 q i hq hi
        by_cases e : q = j
        · subst e
          have : 40 * q + i < 40 * q + 40 := by omega
          simp only [fo_wI, wI_1]
          simp [hi]
        · have e2 : ¬ (40 * j ≤ 40 * q + i ∧ 40 * q + i < 40 * j + 40) := by omega
          simp only [fo_wI, wI_1]
          simp [e, e2, g]
  · have hr' := ix_no hr
    refine PI_0 h (-1) ?_ ?_
    · rw [q_58, q_101_1, c_9_1, hr', cI_s, ite_bI, if_neg (by decide), cI_s]
    · rw [q_155, c_150, hr', cI_s, ite_bI, if_neg (by decide)]
theorem pub_text {s : SS} (h : J s) (r n : Int32) : PI 64 161 [some (.inr (.inr (0, 0))), some (.inl r), some (.inl n)] [some (.inr (.inr (30, 0))), some (.inl r), some (.inl n), none] s := by
  by_cases hr : ixB r 4 = true
  · rcases three n 40 (by decide) with hn | hn | ⟨m, hm, rfl⟩
    · have hn2 : ¬ (40 : Int32) < n := neg_lt hn 40 (by decide)
      refine PI_f h (f := 5) (by decide) ?_ (fun t _ _ => ?_)
      · rw [q_64, q_101_2, c_9_2, hr, cI_s, ite_bI, if_pos rfl, if_neg hn2, if_pos hn, c_100_5, cI_s, cI_s]
      · rw [q_161, c_151, hr, cI_s, ite_bI, if_pos rfl, if_neg hn2, if_pos hn, c_145_5, cI_s]
    · have hn2 : (40 : Int32) < n := hn
      refine PI_0 h (-1) ?_ ?_
      · rw [q_64, q_101_2, c_9_2, hr, cI_s, ite_bI, if_pos rfl, if_pos hn2, cI_s]
      · rw [q_161, c_151, hr, cI_s, ite_bI, if_pos rfl, if_pos hn2]
    · obtain ⟨j, hj, rfl⟩ := (ixB_iff (by decide)).mp hr
      have hoff : OffK [6, 8, 35, 36] s (fo (fun i s => wI s 36 0 (40 * j + i) 32) 40 (wI (fo (fun i s => wI s 8 j (0 + i) 32) 40 (wI s 6 0 j (nI m))) 35 0 j (nI m))) := Off_tr (Off_tr (Off_tr (Off_wI (by decide)) (Off_fo (fun _ _ => Off_wI (by decide)) _ _)) (Off_wI (by decide))) (Off_fo (fun _ _ => Off_wI (by decide)) _ _)
      refine ⟨nI m, _, _, text_c hj hm s, text_r hj hm _, J_off hoff (by decide) (JR_ag (Ag_off hoff (by decide)) h.1) ⟨fun q hq => ?_, fun q i hq hi => ?_⟩ h, fun b c => (Off_tr (Off_wI (K := [6, 8]) (by decide)) (Off_fo (fun _ _ => Off_wI (by decide)) _ _)).1 60 b c (by decide), fun b c => hoff.1 60 b c (by decide)⟩
      · by_cases e : q = j
        · subst e
          refine Or.inr ⟨m, hm, ?_, ?_⟩ <;> simp only [fo_wI, wI_1] <;> simp
        · rcases h.2.1.1 q hq with g | ⟨n, g1, g2, g3⟩
          · exact Or.inl (by simp only [fo_wI, wI_1]; simpa [e] using g)
          · exact Or.inr ⟨n, g1, by simp only [fo_wI, wI_1]; simpa [e] using g2, by simp only [fo_wI, wI_1]; simpa [e] using g3⟩
      · have g := h.2.1.2 q i hq hi
        by_cases e : q = j
        · subst e
          have : 40 * q + i < 40 * q + 40 := by omega
          simp only [fo_wI, wI_1]
          simp [hi]
        · have e2 : ¬ (40 * j ≤ 40 * q + i ∧ 40 * q + i < 40 * j + 40) := by omega
          simp only [fo_wI, wI_1]
          simp [e, e2, g]
  · have hr' := ix_no hr
    refine PI_0 h (-1) ?_ ?_
    · rw [q_64, q_101_2, c_9_2, hr', cI_s, ite_bI, if_neg (by decide), cI_s]
    · rw [q_161, c_151, hr', cI_s, ite_bI, if_neg (by decide)]
