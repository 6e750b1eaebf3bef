theorem PI_ask {cm rm : Nat} {ca ra : LO} {s : SS} (h : J s) (a v : Int32) (h1 : ev cm 0 ca [] s = some (some (.inl a), wI s 0 0 9 v)) (h2 : ev rm 0 ra [] (wI s 0 0 9 v) = some (some (.inl a), wI (wI s 0 0 9 v) 30 0 2 v)) : PI cm rm ca ra s := ⟨a, _, _, h1, h2, J_ask h v, fun _ _ => rfl, fun _ _ => rfl⟩
/-! mean -/
theorem n64_ne {n : Nat} (h0 : 0 < n) (hn : n ≤ 40) : ¬ ((nI n).toInt64 : Int64) = 0 := by
  intro h
  have h1 := congrArg Int64.toInt h
  rw [Int32.toInt_toInt64, ti_nI (by omega)] at h1
  have : (0 : Int64).toInt = 0 := rfl
  omega
def sL (f : Nat → Int32) : Nat → Int64
  | 0 => 0
  | n + 1 => sL f n + (f n).toInt64
theorem c_18_1 {s : SS} {j n : Nat} (hj : j < 6) (hn : n ≤ 40) (h : s.1 5 0 j = nI n) : ev 18 0 [some (.inr (.inr (1, 0))), some (.inl (nI j)), none, none, none] [] s = some (some (.inr (.inl (sL (s.1 7 j) n))), s) := by
  rw [q_18_1]
  have hl := lpS (fun i (x : Unit) => ev 18 5 [some (.inr (.inr (1, 0))), some (.inl (nI j)), some (.inr (.inl (sL (s.1 7 j) i))), none, some (.inl (nI i))] [] s) (fun _ x => x) n (fun i x hi => by
    show ev 18 5 [some (.inr (.inr (1, 0))), some (.inl (nI j)), some (.inr (.inl (sL (s.1 7 j) i))), none, some (.inl (nI i))] [] s = _
    rw [q_18_at5_1, c_11_1, hasR_y hj hn h, if_pos rfl, cl_nI (by omega), h, cI_s, if_pos (nI_lt hi (by omega)), if_pos (ixB_nI hj (by decide)), if_pos (ixB_nI (by omega) (by decide)), nI_s, cl_nI (by omega)]
    rfl) ()
  refine (show ev 18 5 [some (.inr (.inr (1, 0))), some (.inl (nI j)), some (.inr (.inl (sL (s.1 7 j) 0))), none, some (.inl (nI 0))] [] s = _ from hl).trans ?_
  rw [q_18_at5_1, c_11_1, hasR_y hj hn h, if_pos rfl, cl_nI (by omega), h, cI_s, if_neg (irr _)]
theorem c_160 {s : SS} {j n : Nat} (hj : j < 6) (hn : n ≤ 40) (h : s.1 32 0 j = nI n) : ev 160 17 [some (.inr (.inr (30, 0))), some (.inl (nI j)), none, some (.inr (.inl 0)), none, some (.inl 0)] [] s = ev 160 17 [some (.inr (.inr (30, 0))), some (.inl (nI j)), none, some (.inr (.inl (sL (fun i => s.1 33 0 (40 * j + i)) n))), none, some (.inl (nI n))] [] s := by
  have hl := lpS (fun i (x : Unit) => ev 160 17 [some (.inr (.inr (30, 0))), some (.inl (nI j)), none, some (.inr (.inl (sL (fun i => s.1 33 0 (40 * j + i)) i))), none, some (.inl (nI i))] [] s) (fun _ x => x) n (fun i x hi => by
    show ev 160 17 [some (.inr (.inr (30, 0))), some (.inl (nI j)), none, some (.inr (.inl (sL (fun i => s.1 33 0 (40 * j + i)) i))), none, some (.inl (nI i))] [] s = _
    rw [q_160_at17, if_pos (ixB_nI hj (by decide)), cl_nI (by omega), h, if_pos (nI_lt hi (by omega)), c_154 hj (by omega), cI_s, nI_s]
    rfl) ()
  exact hl
theorem sL_cg {f g : Nat → Int32} : ∀ n, (∀ i, i < n → f i = g i) → sL f n = sL g n
  | 0, _ => rfl
  | n + 1, h => by
    show sL f n + _ = sL g n + _
    rw [sL_cg n (fun i hi => h i (by omega)), h n (by omega)]
theorem pub_mean {s : SS} (h : J s) (r : Int32) : PI 63 160 [some (.inr (.inr (0, 0))), some (.inl r), none] [some (.inr (.inr (30, 0))), some (.inl r), none, none, none, none] s := by
  by_cases hr : ixB r 6 = true
  · obtain ⟨j, hj, rfl⟩ := (ixB_iff (by decide)).mp hr
    rcases h.1.1 j hj with ⟨g1, g2⟩ | ⟨n, hn, g1, g2⟩
    · refine PI_f h (f := 1) (by decide) ?_ (fun t ha _ => ?_)
      · rw [q_63, c_9_1, hr, cI_s, ite_bI, if_pos rfl, c_10_1, hasR_n hj g1, cI_s, ite_bI, if_neg (by decide), c_100_1, cI_s]
      · rw [q_160, ar_m hj (by rw [(ha.1 32 (by decide)).1]; exact g2), cI_s, if_pos (by decide)]
    · by_cases h0 : n = 0
      · subst h0
        refine PI_f h (f := 4) (by decide) ?_ (fun t ha _ => ?_)
        · rw [q_63, c_9_1, hr, cI_s, ite_bI, if_pos rfl, c_10_1, hasR_y hj hn g1, cI_s, ite_bI, if_pos rfl, c_11_1, hasR_y hj hn g1, if_pos rfl, cl_nI (by omega), g1, cI_s, if_neg (by decide), c_100_4, cI_s]
        · have g3 : t.1 32 0 j = nI 0 := by rw [(ha.1 32 (by decide)).1]; exact g2
          rw [q_160, ar_y hj hn g3, cI_s, if_neg (by decide), q_160_at17, if_pos hr, cl_nI (by omega), g3, if_neg (by decide), if_pos hr, if_pos (show nI 0 = 0 from rfl), c_145_4, cI_s]
      · have e : sL (s.1 7 j) n = sL (fun i => s.1 33 0 (40 * j + i)) n := sL_cg n (fun i hi => h.1.2 j i hj (by omega))
        have h1 : ev 63 0 [some (.inr (.inr (0, 0))), some (.inl (nI j)), none] [] s = some (some (.inl 1), wI s 0 0 9 ((sL (fun i => s.1 33 0 (40 * j + i)) n / (nI n).toInt64).toInt32)) := by
          rw [q_63, c_9_1, hr, cI_s, ite_bI, if_pos rfl, c_10_1, hasR_y hj hn g1, cI_s, ite_bI, if_pos rfl, c_11_1, hasR_y hj hn g1, if_pos rfl, cl_nI (by omega), g1, cI_s, if_pos (show (0 : Int32) < nI n from nI_lt (show 0 < n by omega) (by omega)), c_18_1 hj hn g1, cL_s, if_neg (n64_ne (by omega) hn), e]
        have g3 : (wI s 0 0 9 ((sL (fun i => s.1 33 0 (40 * j + i)) n / (nI n).toInt64).toInt32)).1 32 0 j = nI n := g2
        refine PI_ask h 1 _ h1 ?_
        have hz : ¬ nI n = 0 := by
          rw [show (0 : Int32) = nI 0 from rfl, n_eq (by omega) (by omega)]
          exact h0
        rw [q_160, ar_y hj hn g3, cI_s, if_neg (by decide), c_160 hj hn g3, q_160_at17, if_pos hr, cl_nI (by omega), g3, if_neg (irr _), if_pos hr, if_neg hz, if_pos hr, if_neg (n64_ne (by omega) hn), c_146, cI_s]
        rfl
  · refine PI_0 h (-1) ?_ ?_
    · rw [q_63, c_9_1, ix_no hr, cI_s, ite_bI, if_neg (by decide)]
    · rw [q_160, ar_b (ix_no hr), cI_s, if_pos (by decide)]
/-! copy -/
theorem l_lt (a b : Int64) : a < b ↔ a.toInt < b.toInt := Int64.lt_iff_toInt_lt
theorem l_le (a b : Int64) : a ≤ b ↔ a.toInt ≤ b.toInt := Int64.le_iff_toInt_le
theorem l_eq (a b : Int64) : a = b ↔ a.toInt = b.toInt := Int64.toInt_inj.symm
theorem lg_gt (a b : Int64) : (0 < lg_cmp a b) = (b < a) := by
  apply propext
  unfold lg_cmp
  by_cases h1 : a > b
  · simp [h1]
  · by_cases h2 : a = b
    · simp [h2]
    · simp [h1, h2]
theorem lg_z (a b : Int64) : (lg_cmp a b = 0) = (a = b) := by
  apply propext
  unfold lg_cmp
  by_cases h1 : a > b
  · have h2 : ¬ a = b := by
      intro h
      rw [h] at h1
      exact absurd ((l_lt _ _).mp h1) (Int.lt_irrefl _)
    simp [h1, h2]
  · by_cases h2 : a = b
    · simp [h2]
    · simp [h1, h2]
theorem lg_lt (a b : Int64) : (lg_cmp a b < 0) = (a < b) := by
  apply propext
  unfold lg_cmp
  by_cases h1 : a > b
  · have h2 : ¬ a < b := by
      have h3 : b < a := h1
      rw [l_lt] at h3
      rw [l_lt]
      omega
    simp [h1, h2]
  · by_cases h2 : a = b
    · simp [h2]
    · have h3 : a < b := by
        have h4 : ¬ b < a := h1
        rw [l_lt] at h4
        rw [l_eq] at h2
        rw [l_lt]
        omega
      simp [h1, h2, h3]
theorem lpN {P : Nat → RE} : ∀ (N : Nat), (∀ i, i < N → P i = P (i + 1)) → P 0 = P N
  | 0, _ => rfl
  | N + 1, h => (lpN N (fun i hi => h i (by omega))).trans (h N (by omega))
theorem ge0 {x : Int32} (h : ¬ x < 0) : 0 ≤ x.toInt := by
  rw [lt_iff] at h
  have : (0 : Int32).toInt = 0 := rfl
  omega
theorem ge0_n {x : Int32} (h : ¬ x < 0) : ∃ a : Nat, a < 2147483648 ∧ x = nI a ∧ x.toInt = a := by
  have h1 := ge0 h
  have h2 := Int32.toInt_lt x
  refine ⟨x.toInt.toNat, by omega, ?_, by omega⟩
  rw [eq_iff, ti_nI (by omega)]
  omega
theorem sub_t {m a : Nat} (hm : m ≤ 40) (ha : a < 2147483648) : (nI m - nI a).toInt = (m : Int) - a := by
  rw [Int32.toInt_sub, ti_nI (by omega), ti_nI ha]
  rw [Int.bmod_eq_of_le] <;> omega
theorem add64_t {a b : Nat} (ha : a < 2147483648) (hb : b < 2147483648) : ((nI a).toInt64 + (nI b).toInt64).toInt = (a : Int) + b := by
  rw [Int64.toInt_add, Int32.toInt_toInt64, Int32.toInt_toInt64, ti_nI ha, ti_nI hb]
  rw [Int.bmod_eq_of_le] <;> omega
theorem cp_lt {m a c : Nat} (hm : m ≤ 40) (ha : a < 2147483648) (hc : c < 2147483648) : (nI m - nI c < nI a) = (m < a + c) := by
  apply propext
  rw [lt_iff, sub_t hm hc, ti_nI ha]
  omega
theorem cp_lg {m a c : Nat} (hm : m ≤ 40) (ha : a < 2147483648) (hc : c < 2147483648) : (0 < lg_cmp ((nI a).toInt64 + (nI c).toInt64) (nI m).toInt64) = (m < a + c) := by
  rw [lg_gt]
  apply propext
  rw [l_lt, add64_t ha hc, Int32.toInt_toInt64, ti_nI (by omega)]
  omega
theorem hpR_g {s : SS} {j n a c : Nat} (hj : j < 6) (hn : n ≤ 40) (h : s.1 5 0 j = nI n) (ha : a < 2147483648) (hc : c < 2147483648) : hpR s (nI j) (nI a) (nI c) = decide (a + c ≤ n) := by
  unfold hpR
  rw [hasR_y hj hn h, cl_nI (by omega), h]
  have h1 : ¬ nI a < 0 := nI_pos ha
  have h2 : ¬ nI c < 0 := nI_pos hc
  have h3 := cp_lt hn ha hc
  by_cases h4 : n < a + c
  · have h5 : ¬ a + c ≤ n := by omega
    simp [h1, h2, h3, h4, h5]
  · have h5 : a + c ≤ n := by omega
    simp [h1, h2, h3, h4, h5]
theorem hpR_ng {s : SS} {r i n : Int32} (hi : i < 0) : hpR s r i n = false := by
  unfold hpR
  simp [hi]
def mvF (s : SS) (q a : Nat) (i : Nat) (t : SS) : SS := fo (fun k s' => wI s' 34 0 (0 + k) (s.1 33 0 (40 * q + (a + k)))) i t
theorem mv_33 (s t : SS) (q a i b c : Nat) : (mvF s q a i t).1 33 b c = t.1 33 b c := by
  unfold mvF
  rw [fo_wI, if_neg (by omega)]
def pvF (s : SS) (q b : Nat) (i : Nat) (t : SS) : SS := fo (fun k s' => wI s' 33 0 (40 * q + b + k) (s.1 34 0 k)) i t
theorem pv_34 (s t : SS) (q a i b c : Nat) : (pvF s q a i t).1 34 b c = t.1 34 b c := by
  unfold pvF
  rw [fo_wI, if_neg (by omega)]
theorem cp_1 {s : SS} {q1 q2 a b c : Nat} (h1 : q1 < 6) (ha : a + c ≤ 40) : ev 159 104 [some (.inr (.inr (30, 0))), some (.inl (nI q1)), some (.inl (nI a)), some (.inl (nI q2)), some (.inl (nI b)), some (.inl (nI c)), some (.inl 0)] [] s = ev 159 136 [some (.inr (.inr (30, 0))), none, none, some (.inl (nI q2)), some (.inl (nI b)), some (.inl (nI c)), some (.inl 0)] [] (mvF s q1 a c s) := by
  have h := lpN (P := fun i => ev 159 104 [some (.inr (.inr (30, 0))), some (.inl (nI q1)), some (.inl (nI a)), some (.inl (nI q2)), some (.inl (nI b)), some (.inl (nI c)), some (.inl (nI i))] [] (mvF s q1 a i s)) c (fun i hi => by
    show ev 159 104 [some (.inr (.inr (30, 0))), some (.inl (nI q1)), some (.inl (nI a)), some (.inl (nI q2)), some (.inl (nI b)), some (.inl (nI c)), some (.inl (nI i))] [] (mvF s q1 a i s) = _
    rw [q_159_at104, if_pos (nI_lt hi (by omega)), n_add, c_154 h1 (by omega), cI_s, if_pos (ixB_nI (by omega) (by decide)), nI_s, cl_nI (by omega), mv_33]
    show _ = ev 159 104 [some (.inr (.inr (30, 0))), some (.inl (nI q1)), some (.inl (nI a)), some (.inl (nI q2)), some (.inl (nI b)), some (.inl (nI c)), some (.inl (nI (i + 1)))] [] (wI (mvF s q1 a i s) 34 0 (0 + i) (s.1 33 0 (40 * q1 + (a + i))))
    rw [Nat.zero_add])
  refine (show ev 159 104 [some (.inr (.inr (30, 0))), some (.inl (nI q1)), some (.inl (nI a)), some (.inl (nI q2)), some (.inl (nI b)), some (.inl (nI c)), some (.inl (nI 0))] [] s = _ from h).trans ?_
  rw [q_159_at104, if_neg (irr _)]
theorem cp_2 {s : SS} {q2 b c : Nat} (h2 : q2 < 6) (hb : b + c ≤ 40) : ev 159 136 [some (.inr (.inr (30, 0))), none, none, some (.inl (nI q2)), some (.inl (nI b)), some (.inl (nI c)), some (.inl 0)] [] s = some (some (.inl 1), pvF s q2 b c s) := by
  have h := lpN (P := fun i => ev 159 136 [some (.inr (.inr (30, 0))), none, none, some (.inl (nI q2)), some (.inl (nI b)), some (.inl (nI c)), some (.inl (nI i))] [] (pvF s q2 b i s)) c (fun i hi => by
    show ev 159 136 [some (.inr (.inr (30, 0))), none, none, some (.inl (nI q2)), some (.inl (nI b)), some (.inl (nI c)), some (.inl (nI i))] [] (pvF s q2 b i s) = _
    rw [q_159_at136, if_pos (nI_lt hi (by omega)), if_pos (ixB_nI (by omega) (by decide)), n_mulL, n_add, n_add, if_pos (ixB_nI (by omega) (by decide)), nI_s, cl_nI (by omega), cl_nI (by omega), pv_34]
    rfl)
  refine (show ev 159 136 [some (.inr (.inr (30, 0))), none, none, some (.inl (nI q2)), some (.inl (nI b)), some (.inl (nI c)), some (.inl (nI 0))] [] s = _ from h).trans ?_
  rw [q_159_at136, if_neg (irr _)]
theorem pub_copy {s : SS} (h : J s) (r i q j n : Int32) : PI 62 159 [some (.inr (.inr (0, 0))), some (.inl r), some (.inl i), some (.inl q), some (.inl j), some (.inl n)] [some (.inr (.inr (30, 0))), some (.inl r), some (.inl i), some (.inl q), some (.inl j), some (.inl n), none] s := by
  by_cases hr : ixB r 6 = true
  · by_cases hq : ixB q 6 = true
    · by_cases hn : n < 0
      · refine PI_f h (f := 5) (by decide) ?_ (fun t ha _ => ?_)
        · rw [q_62, c_9_1, hr, cI_s, ite_bI, if_pos rfl, c_9_1, hq, cI_s, ite_bI, if_pos rfl, if_pos hn, c_100_5, cI_s]
        · rw [q_159, c_150, hr, cI_s, ite_bI, if_pos rfl, c_150, hq, cI_s, ite_bI, if_pos rfl, if_pos hn, c_145_5, cI_s]
      · obtain ⟨q1, hq1, rfl⟩ := (ixB_iff (by decide)).mp hr
        obtain ⟨q2, hq2, rfl⟩ := (ixB_iff (by decide)).mp hq
        rcases h.1.1 q1 hq1 with ⟨g1, g2⟩ | ⟨m1, hm1, g1, g2⟩
        · refine PI_f h (f := 1) (by decide) ?_ (fun t ha _ => ?_)
          · rw [q_62, c_9_1, hr, cI_s, ite_bI, if_pos rfl, c_9_1, hq, cI_s, ite_bI, if_pos rfl, if_neg hn, c_10_1, hasR_n hq1 g1, cI_s, ite_bI, if_neg (by decide), c_100_1, cI_s]
          · have g3 : t.1 32 0 q1 = -9 := by rw [(ha.1 32 (by decide)).1]; exact g2
            rw [q_159, c_150, hr, cI_s, ite_bI, if_pos rfl, c_150, hq, cI_s, ite_bI, if_pos rfl, if_neg hn, if_pos rfl, cl_nI (by omega), g3, if_pos (by decide), c_145_1, cI_s]
        rcases h.1.1 q2 hq2 with ⟨g3, g4⟩ | ⟨m2, hm2, g3, g4⟩
        · refine PI_f h (f := 1) (by decide) ?_ (fun t ha _ => ?_)
          · rw [q_62, c_9_1, hr, cI_s, ite_bI, if_pos rfl, c_9_1, hq, cI_s, ite_bI, if_pos rfl, if_neg hn, c_10_1, hasR_y hq1 hm1 g1, cI_s, ite_bI, if_pos rfl, c_10_1, hasR_n hq2 g3, cI_s, ite_bI, if_neg (by decide), c_100_1, cI_s]
          · have g5 : t.1 32 0 q1 = nI m1 := by rw [(ha.1 32 (by decide)).1]; exact g2
            have g6 : t.1 32 0 q2 = -9 := by rw [(ha.1 32 (by decide)).1]; exact g4
            rw [q_159, c_150, hr, cI_s, ite_bI, if_pos rfl, c_150, hq, cI_s, ite_bI, if_pos rfl, if_neg hn, if_pos rfl, cl_nI (by omega), g5, if_neg (nI_pos (by omega)), if_pos rfl, cl_nI (by omega), g6, if_pos (by decide), c_145_1, cI_s]
        obtain ⟨c, hc, rfl, -⟩ := ge0_n hn
        by_cases hi : i < 0
        · refine PI_f h (f := 2) (by decide) ?_ (fun t ha _ => ?_)
          · rw [q_62, c_9_1, hr, cI_s, ite_bI, if_pos rfl, c_9_1, hq, cI_s, ite_bI, if_pos rfl, if_neg hn, c_10_1, hasR_y hq1 hm1 g1, cI_s, ite_bI, if_pos rfl, c_10_1, hasR_y hq2 hm2 g3, cI_s, ite_bI, if_pos rfl, c_12_1, hpR_ng hi, cI_s, ite_bI, if_neg (by decide), c_100_2, cI_s]
          · have g5 : t.1 32 0 q1 = nI m1 := by rw [(ha.1 32 (by decide)).1]; exact g2
            have g6 : t.1 32 0 q2 = nI m2 := by rw [(ha.1 32 (by decide)).1]; exact g4
            rw [q_159, c_150, hr, cI_s, ite_bI, if_pos rfl, c_150, hq, cI_s, ite_bI, if_pos rfl, if_neg hn, if_pos rfl, cl_nI (by omega), g5, if_neg (nI_pos (by omega)), if_pos rfl, cl_nI (by omega), g6, if_neg (nI_pos (by omega)), if_pos hi, c_145_2, cI_s]
        obtain ⟨a, ha, rfl, -⟩ := ge0_n hi
        by_cases hac : a + c ≤ m1
        · by_cases hj : j < 0
          · refine PI_f h (f := 2) (by decide) ?_ (fun t ha _ => ?_)
            · rw [q_62, c_9_1, hr, cI_s, ite_bI, if_pos rfl, c_9_1, hq, cI_s, ite_bI, if_pos rfl, if_neg hn, c_10_1, hasR_y hq1 hm1 g1, cI_s, ite_bI, if_pos rfl, c_10_1, hasR_y hq2 hm2 g3, cI_s, ite_bI, if_pos rfl, c_12_1, hpR_g hq1 hm1 g1 ha hc, decide_eq_true hac, cI_s, ite_bI, if_pos rfl, c_12_1, hpR_ng hj, cI_s, ite_bI, if_neg (by decide), c_100_2, cI_s]
            · have g5 : t.1 32 0 q1 = nI m1 := by rw [(ha.1 32 (by decide)).1]; exact g2
              have g6 : t.1 32 0 q2 = nI m2 := by rw [(ha.1 32 (by decide)).1]; exact g4
              rw [q_159, c_150, hr, cI_s, ite_bI, if_pos rfl, c_150, hq, cI_s, ite_bI, if_pos rfl, if_neg hn, if_pos rfl, cl_nI (by omega), g5, if_neg (nI_pos (by omega)), if_pos rfl, cl_nI (by omega), g6, if_neg (nI_pos (by omega)), if_neg hi, if_pos hj, c_145_2, cI_s]
          obtain ⟨b, hb, rfl, -⟩ := ge0_n hj
          by_cases hbc : b + c ≤ m2
          · have e1 : ev 62 0 [some (.inr (.inr (0, 0))), some (.inl (nI q1)), some (.inl (nI a)), some (.inl (nI q2)), some (.inl (nI b)), some (.inl (nI c))] [] s = some (some (.inl 1), wA s 7 q2 (va_cpy (s.1 7 q1) (s.1 7 q2) a b c)) := by
              rw [q_62, c_9_1, hr, cI_s, ite_bI, if_pos rfl, c_9_1, hq, cI_s, ite_bI, if_pos rfl, if_neg hn, c_10_1, hasR_y hq1 hm1 g1, cI_s, ite_bI, if_pos rfl, c_10_1, hasR_y hq2 hm2 g3, cI_s, ite_bI, if_pos rfl, c_12_1, hpR_g hq1 hm1 g1 ha hc, decide_eq_true hac, cI_s, ite_bI, if_pos rfl, c_12_1, hpR_g hq2 hm2 g3 hb hc, decide_eq_true hbc, cI_s, ite_bI, if_pos rfl, q_17_1, c_12_1, hpR_g hq1 hm1 g1 ha hc, decide_eq_true hac, cI_s, ite_bI, if_pos rfl, c_12_1, hpR_g hq2 hm2 g3 hb hc, decide_eq_true hbc, cI_s, ite_bI, if_pos rfl, if_pos hr, if_pos hq, cl_nI ha, cl_nI hb, cl_nI hc, cl_nI (n := q1) (by omega), cl_nI (n := q2) (by omega), if_pos ⟨hi, hj, hn, by omega, by omega⟩, cV_s]
            have e2 : ∀ t : SS, t.1 32 0 q1 = nI m1 → t.1 32 0 q2 = nI m2 → ev 159 0 [some (.inr (.inr (30, 0))), some (.inl (nI q1)), some (.inl (nI a)), some (.inl (nI q2)), some (.inl (nI b)), some (.inl (nI c)), none] [] t = some (some (.inl 1), pvF (mvF t q1 a c t) q2 b c (mvF t q1 a c t)) := by
              intro t g5 g6
              have k1 : ¬ 0 < lg_cmp ((nI a).toInt64 + (nI c).toInt64) (nI m1).toInt64 := by
                rw [cp_lg hm1 ha hc]
                omega
              have k2 : ¬ 0 < lg_cmp ((nI b).toInt64 + (nI c).toInt64) (nI m2).toInt64 := by
                rw [cp_lg hm2 hb hc]
                omega
              rw [q_159, c_150, hr, cI_s, ite_bI, if_pos rfl, c_150, hq, cI_s, ite_bI, if_pos rfl, if_neg hn, if_pos rfl, cl_nI (by omega), g5, if_neg (nI_pos (by omega)), if_pos rfl, cl_nI (by omega), g6, if_neg (nI_pos (by omega)), if_neg hi, if_neg hj, if_pos rfl, if_neg k1, if_pos rfl, if_neg k2, cp_1 hq1 (by omega), cp_2 hq2 (by omega)]
            have hoff : ∀ t : SS, OffK [7, 33, 34] t (pvF (mvF t q1 a c t) q2 b c (mvF t q1 a c t)) := fun t => Off_tr (Off_fo (fun _ _ => Off_wI (by decide)) _ _) (Off_fo (fun _ _ => Off_wI (by decide)) _ _)
            have hof2 := Off_tr (Off_wA (K := [7, 33, 34]) (s := s) (k := 7) (j := q2) (f := va_cpy (s.1 7 q1) (s.1 7 q2) a b c) (by decide)) (hoff _)
            refine ⟨1, _, _, e1, e2 _ g2 g4, J_off hof2 (by decide) ⟨fun q hq => ?_, fun q x hq hx => ?_⟩ (JT_ag (Ag_off hof2 (by decide)) h.2.1) h, fun b c => (Off_wA (K := [7]) (by decide)).1 60 b c (by decide), fun b c => hof2.1 60 b c (by decide)⟩
            · rcases h.1.1 q hq with g | ⟨n, g, g'⟩
              · exact Or.inl (by rw [hof2.1 5 _ _ (by decide), hof2.1 32 _ _ (by decide)]; exact g)
              · exact Or.inr ⟨n, g, by rw [hof2.1 5 _ _ (by decide), hof2.1 32 _ _ (by decide)]; exact g'⟩
            · have w1 := h.1.2 q x hq hx
              have w2 : ∀ x, x < 40 → s.1 7 q1 x = s.1 33 0 (40 * q1 + x) := fun x hx => h.1.2 q1 x hq1 hx
              unfold pvF mvF
              simp only [fo_wI, wA_1]
              by_cases e : q = q2 ∧ b ≤ x ∧ x < b + c
              · obtain ⟨rfl, h5, h6⟩ := e
                have w3 := w2 (a + (x - b)) (by omega)
                have e3 : 40 * q + x - (40 * q + b) = x - b := by omega
                have e4 : 40 * q + b ≤ 40 * q + x := by omega
                have e5 : 40 * q + x < 40 * q + b + c := by omega
                have e6 : x - b < c := by omega
                simp [va_cpy, h5, h6, e3, e4, e5, e6, w3]
              · have e4 : ¬ (40 * q2 + b ≤ 40 * q + x ∧ 40 * q + x < 40 * q2 + b + c) := by omega
                by_cases e5 : q = q2
                · subst e5
                  have e6 : ¬ (b ≤ x ∧ x < b + c) := fun z => e ⟨rfl, z⟩
                  simp [va_cpy, e6, e4, w1]
                  intro z1 z2
                  exact absurd ⟨z1, by omega⟩ e6
                · simp [e4, e5, w1]
          · refine PI_f h (f := 2) (by decide) ?_ (fun t ht _ => ?_)
            · rw [q_62, c_9_1, hr, cI_s, ite_bI, if_pos rfl, c_9_1, hq, cI_s, ite_bI, if_pos rfl, if_neg hn, c_10_1, hasR_y hq1 hm1 g1, cI_s, ite_bI, if_pos rfl, c_10_1, hasR_y hq2 hm2 g3, cI_s, ite_bI, if_pos rfl, c_12_1, hpR_g hq1 hm1 g1 ha hc, decide_eq_true hac, cI_s, ite_bI, if_pos rfl, c_12_1, hpR_g hq2 hm2 g3 hb hc, decide_eq_false hbc, cI_s, ite_bI, if_neg (by decide), c_100_2, cI_s]
            · have g5 : t.1 32 0 q1 = nI m1 := by rw [(ht.1 32 (by decide)).1]; exact g2
              have g6 : t.1 32 0 q2 = nI m2 := by rw [(ht.1 32 (by decide)).1]; exact g4
              have k1 : ¬ 0 < lg_cmp ((nI a).toInt64 + (nI c).toInt64) (nI m1).toInt64 := by
                rw [cp_lg hm1 ha hc]
                omega
              have k2 : 0 < lg_cmp ((nI b).toInt64 + (nI c).toInt64) (nI m2).toInt64 := by
                rw [cp_lg hm2 hb hc]
                omega
              rw [q_159, c_150, hr, cI_s, ite_bI, if_pos rfl, c_150, hq, cI_s, ite_bI, if_pos rfl, if_neg hn, if_pos rfl, cl_nI (by omega), g5, if_neg (nI_pos (by omega)), if_pos rfl, cl_nI (by omega), g6, if_neg (nI_pos (by omega)), if_neg hi, if_neg hj, if_pos rfl, if_neg k1, if_pos rfl, if_pos k2, c_145_2, cI_s]
        · refine PI_f h (f := 2) (by decide) ?_ (fun t ht _ => ?_)
          · rw [q_62, c_9_1, hr, cI_s, ite_bI, if_pos rfl, c_9_1, hq, cI_s, ite_bI, if_pos rfl, if_neg hn, c_10_1, hasR_y hq1 hm1 g1, cI_s, ite_bI, if_pos rfl, c_10_1, hasR_y hq2 hm2 g3, cI_s, ite_bI, if_pos rfl, c_12_1, hpR_g hq1 hm1 g1 ha hc, decide_eq_false hac, cI_s, ite_bI, if_neg (by decide), c_100_2, cI_s]
          · have g5 : t.1 32 0 q1 = nI m1 := by rw [(ht.1 32 (by decide)).1]; exact g2
            have g6 : t.1 32 0 q2 = nI m2 := by rw [(ht.1 32 (by decide)).1]; exact g4
            have k1 : 0 < lg_cmp ((nI a).toInt64 + (nI c).toInt64) (nI m1).toInt64 := by
              rw [cp_lg hm1 ha hc]
              omega
            by_cases hj : j < 0
            · rw [q_159, c_150, hr, cI_s, ite_bI, if_pos rfl, c_150, hq, cI_s, ite_bI, if_pos rfl, if_neg hn, if_pos rfl, cl_nI (by omega), g5, if_neg (nI_pos (by omega)), if_pos rfl, cl_nI (by omega), g6, if_neg (nI_pos (by omega)), if_neg hi, if_pos hj, c_145_2, cI_s]
            · rw [q_159, c_150, hr, cI_s, ite_bI, if_pos rfl, c_150, hq, cI_s, ite_bI, if_pos rfl, if_neg hn, if_pos rfl, cl_nI (by omega), g5, if_neg (nI_pos (by omega)), if_pos rfl, cl_nI (by omega), g6, if_neg (nI_pos (by omega)), if_neg hi, if_neg hj, if_pos rfl, if_pos k1, c_145_2, cI_s]
    · refine PI_0 h (-1) ?_ ?_
      · rw [q_62, c_9_1, hr, cI_s, ite_bI, if_pos rfl, c_9_1, ix_no hq, cI_s, ite_bI, if_neg (by decide)]
      · rw [q_159, c_150, hr, cI_s, ite_bI, if_pos rfl, c_150, ix_no hq, cI_s, ite_bI, if_neg (by decide)]
  · refine PI_0 h (-1) ?_ ?_
    · rw [q_62, c_9_1, ix_no hr, cI_s, ite_bI, if_neg (by decide)]
    · rw [q_159, c_150, ix_no hr, cI_s, ite_bI, if_neg (by decide)]
