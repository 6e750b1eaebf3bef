/-! act, look -/
theorem shP_mo {s : SS} {A P Q : Nat → Bool} (h : ∀ v, P v = true → Q v = true) : shP s A P ≤ shP s A Q := by
  unfold shP
  have : ∀ n, sm (fun v => if P v = true then shN s A v else 0) n ≤ sm (fun v => if Q v = true then shN s A v else 0) n := by
    intro n
    induction n with
    | zero => exact Nat.le_refl _
    | succ n ih =>
      show sm _ n + (if P n = true then shN s A n else 0) ≤ sm _ n + (if Q n = true then shN s A n else 0)
      by_cases e : P n = true
      · rw [if_pos e, if_pos (h n e)]
        omega
      · rw [if_neg e]
        omega
  exact this _
theorem fw_0 {f : Nat → Int32} {n : Nat} (h : fwN f n = 0) : ∃ m, 1 ≤ m ∧ n = 2 * m ∧ anyB (woB f) n = false := by
  unfold fwN at h
  by_cases e0 : n = 0
  · rw [if_pos e0] at h
    exact absurd h (by decide)
  · rw [if_neg e0] at h
    by_cases e : n % 2 = 0
    · rw [if_pos e] at h
      refine ⟨n / 2, by omega, by omega, ?_⟩
      cases ha : anyB (woB f) n with
      | false => rfl
      | true =>
        rw [ha] at h
        exact absurd h (by decide)
    · rw [if_neg e] at h
      exact absurd h (by decide)
theorem fw_lt (f : Nat → Int32) (n : Nat) : fwN f n < 6 ∧ (fwN f n = 0 ∨ fwN f n = 3 ∨ fwN f n = 5) := by
  unfold fwN
  split
  · omega
  · split
    · split <;> omega
    · omega
theorem c_138 {s : SS} (h : J s) {j n : Nat} (hj : j < 6) (hn : n ≤ 40) (g : s.1 5 0 j = nI n) : (fwN (s.1 7 j) n ≠ 0 → ev 138 0 [some (.inr (.inr (0, 0))), some (.inl (nI j)), none] [] s = some (some (.inl (nI (fwN (s.1 7 j) n))), s)) ∧ (fwN (s.1 7 j) n = 0 → ∃ u, ev 138 0 [some (.inr (.inr (0, 0))), some (.inl (nI j)), none] [] s = some (some (.inl ((if (bst s (aA 0) (nW s)).isSome = true then 0 else 4))), u) ∧ SV s (aA 0) u) := by
  have hf := fw_lt (s.1 7 j) n
  constructor
  · intro e
    rw [q_138, c_139 hj hn g, cI_s, if_neg (by rw [z_eq (by omega)]; exact e)]
  · intro e
    obtain ⟨u, e1, sv⟩ := sv0 h
    refine ⟨u, ?_, sv⟩
    rw [q_138, c_139 hj hn g, cI_s, if_pos (by rw [e]; rfl), e1, cV_s, c_50 h.2.2.2.1 h.2.2.2.2.1 sv.2.2.2.2.2.1, cI_s, ite_bI]
    cases (bst s (aA 0) (nW s)).isSome <;> rfl
theorem row_e {s : SS} (h : J s) {j n : Nat} (hj : j < 6) (hn : n ≤ 40) : ∀ i, i < n → s.1 7 j i = s.1 33 0 (40 * j + i) := fun i hi => h.1.2 j i hj (by omega)
/-- findings of worths, in both -/
theorem wf_f {cm rm : Nat} {ca ra : LO} {s : SS} (h : J s) {j n : Nat} (hj : j < 6) (hn : n ≤ 40) (g4 : s.1 32 0 j = nI n) (ne : fwN (s.1 7 j) n ≠ 0) (h1 : ev cm 0 ca [] s = some (some (.inl (-3)), fC s (fwN (s.1 7 j) n))) (h2 : ∀ t, (ev 222 0 [some (.inr (.inr (30, 0))), some (.inl (nI j)), none, none] [] t = some (some (.inl (-3)), fR t (fwN (s.1 7 j) n))) → ev rm 0 ra [] t = some (some (.inl (-3)), fR t (fwN (s.1 7 j) n))) : PI cm rm ca ra s := by
  have hf := (fw_lt (s.1 7 j) n).1
  refine PS (-3) (u1 := fC s (fwN (s.1 7 j) n)) (w := fR (fC s (fwN (s.1 7 j) n)) (fwN (s.1 7 j) n)) (v := fR (fC s (fwN (s.1 7 j) n)) (fwN (s.1 7 j) n)) h1 (h2 _ ?_) (J_f h hf) RS_rf (fun _ _ => rfl) (fun _ _ => rfl)
  have e : fwN (fun i => (fC s (fwN (s.1 7 j) n)).1 33 0 (40 * j + i)) n = fwN (s.1 7 j) n := fw_cg (fun i hi => (row_e h hj hn i hi).symm)
  rw [c_222 hj hn (t := fC s (fwN (s.1 7 j) n)) g4, e, if_neg ne]
theorem c_100f (s : SS) {f : Nat} (hf : f = 3 ∨ f = 5) : ev 100 0 [some (.inr (.inr (0, 0))), some (.inl (nI f))] [] s = some (some (.inl (-3)), fC s f) := by
  rcases hf with e | e
  · subst e
    exact c_100_3 s
  · subst e
    exact c_100_5 s
theorem pub_act {s : SS} (h : J s) (p r : Int32) : PI 89 224 [some (.inr (.inr (0, 0))), some (.inl p), some (.inl r), none, none, none, none, none, none] [some (.inr (.inr (30, 0))), some (.inl p), some (.inl r), none, none, none] s := by
  have hS := h.2.2.2.1
  have hL := h.2.2.2.2.1
  by_cases hp : ixB p 28 = true
  · by_cases hr : ixB r 6 = true
    · obtain ⟨k, hk, rfl⟩ := (ixB_iff (by decide)).mp hp
      obtain ⟨j, hj, rfl⟩ := (ixB_iff (by decide)).mp hr
      rcases h.1.1 j hj with ⟨g1, g2⟩ | ⟨n, hn, g1, g2⟩
      · refine PI_f h (f := 1) (by decide) ?_ (fun t ha _ => ?_)
        · rw [q_89, c_106, hp, cI_s, ite_bI, if_pos rfl, c_9_1, hr, cI_s, ite_bI, if_pos rfl, q_138, q_139, c_10_1, hasR_n hj g1, cI_s, ite_bI, if_neg (by decide), cI_s, if_neg (by decide), cI_s, if_neg (by decide), c_100_1, cI_s]
        · have g3 : t.1 32 0 j = -9 := ((ha.1 32 (by decide)).1 0 j).trans g2
          rw [q_224, c_163, hp, cI_s, ite_bI, if_pos rfl, c_150, hr, cI_s, ite_bI, if_pos rfl, q_222, if_pos hr, cl_nI (by omega), g3, if_pos (by decide), c_145_1, cI_s, cI_s, if_pos (by decide)]
      · obtain ⟨k1, k2⟩ := c_138 h hj hn g1
        have hf := fw_lt (s.1 7 j) n
        by_cases ne : fwN (s.1 7 j) n = 0
        · obtain ⟨u, e1, sv⟩ := k2 ne
          obtain ⟨m, hm, rfl, hw⟩ := fw_0 ne
          have sp := QF_SP sv.1
          have u5 : u.1 5 0 j = nI (2 * m) := (sv.1.1 5 0 j (by decide) (by decide) (by decide) (by decide) (fun z => absurd z (by decide))).trans g1
          have u7 : u.1 7 j = s.1 7 j := by
            funext i
            exact sv.1.1 7 j i (by decide) (by decide) (by decide) (by decide) (fun z => absurd z (by decide))
          have R : ∀ t, TK u t → ∃ v, RI s t v ∧ RW s (aA 0) v ∧ v.1 32 0 j = nI (2 * m) ∧ (∀ i, v.1 33 0 (40 * j + i) = s.1 33 0 (40 * j + i)) ∧ ev 224 0 [some (.inr (.inr (30, 0))), some (.inl (nI k)), some (.inl (nI j)), none, none, none] [] t = (if (bst s (aA 0) (nW s)).isSome = true then cL (ev 202 0 [some (.inr (.inr (30, 0))), some (.inl (nI k)), none, none, none] [] v) (fun x6 s6 => cL (ev 223 0 [some (.inr (.inr (30, 0))), some (.inl (nI j)), some (.inr (.inl x6)), none, some (.inr (.inl (((s6.2.1 30 0 34) - x6)))), none, none, none, none, none, none] [] s6) (fun x7 s7 => cI (ev 149 0 [some (.inr (.inr (30, 0))), some (.inr (.inl x7)), none, some (.inr (.inl ((s7.2.1 30 0 34)))), none, some (.inl ((s7.1 30 0 35))), none, none, none, none, none, none] [] s7) (fun x8 s8 => some (some (.inl x8), s8)))) else some (some (.inl (-3)), fR v 4)) := by
            intro t tk
            obtain ⟨v, f1, i1, w1⟩ := c_201i sv.2.1 sp tk
            have t32 : ∀ i, t.1 32 0 i = s.1 32 0 i := fun i => (tk.1 32 0 i (by decide) (fun z => absurd z (by decide))).trans (sv.1.1 32 0 i (by decide) (by decide) (by decide) (by decide) (fun z => absurd z (by decide)))
            have t33 : ∀ i, t.1 33 0 i = s.1 33 0 i := fun i => (tk.1 33 0 i (by decide) (fun z => absurd z (by decide))).trans (sv.1.1 33 0 i (by decide) (by decide) (by decide) (by decide) (fun z => absurd z (by decide)))
            refine ⟨v, i1, w1, ?_, fun i => ?_, ?_⟩
            · rw [i1.1.1 32 0 j (by decide) (by decide) (by decide) (fun z => absurd z (by decide)), t32]
              exact g2
            · rw [i1.1.1 33 0 _ (by decide) (by decide) (by decide) (fun z => absurd z (by decide)), t33]
            · have e : fwN (fun i => t.1 33 0 (40 * j + i)) (2 * m) = 0 := (fw_cg (fun i hi => by rw [t33]; exact (row_e h hj hn i hi).symm)).trans ne
              rw [q_224, c_163, hp, cI_s, ite_bI, if_pos rfl, c_150, hr, cI_s, ite_bI, if_pos rfl, c_222 hj hn (by rw [t32]; exact g2), if_pos e, cI_s, if_neg (by decide), f1, cI_s, ite_bI, c_145_4, cI_s]
          by_cases hs : (bst s (aA 0) (nW s)).isSome = true
          · have h0 : 0 < allN s (aA 0) := all_pos.mpr hs
            have bA0 := all_le hS (A := aA 0)
            have bP := shP_le hS (A := aA 0) (P := fun v => soB s k v)
            generalize hx : lN (shP s (aA 0) (fun v => soB s k v)) = X at *
            generalize hy : lN (allN s (aA 0)) - X = Y
            have bX : bdL X 1073741824 := by rw [← hx]; exact bd_n bP (by decide)
            have bY : bdL Y (1073741824 + 1073741824) := by rw [← hy]; exact bd_sub (bd_n bA0 (by decide)) bX (by decide)
            have hl := bA_lt (s.1 7 j) X Y m (by omega)
            have aw := aL_bd (bd_wv hw (show 2 * bA (s.1 7 j) X Y m + 1 < 2 * m by omega) bX bY (by decide) (by decide)) (by decide)
            have cls : ev 89 0 [some (.inr (.inr (0, 0))), some (.inl (nI k)), some (.inl (nI j)), none, none, none, none, none, none] [] s = some (some (.inl (nI (bA (s.1 7 j) X Y m))), tlC u (wvL (s.1 7 j) X Y (bA (s.1 7 j) X Y m) / lN (Nat.gcd (wvL (s.1 7 j) X Y (bA (s.1 7 j) X Y m)).toInt.natAbs (allN s (aA 0)))) (lN (allN s (aA 0)) / lN (Nat.gcd (wvL (s.1 7 j) X Y (bA (s.1 7 j) X Y m)).toInt.natAbs (allN s (aA 0))))) := by
              rw [q_89, c_106, hp, cI_s, ite_bI, if_pos rfl, c_9_1, hr, cI_s, ite_bI, if_pos rfl, e1, if_pos hs, cI_s, if_pos rfl, shl1 k (by omega), c_56_1 hS sv hk, cL_s, sv.2.2.2.2.2.2.2.1, hx, hy, c_142 hj hm hn u5, cI_s, c_141 hj hn u5 (by rw [u7]; omega), cL_s, sv.2.2.2.2.2.2.2.1, u7, c_104 aw (by omega) h0, cV_s]
              rfl
            obtain ⟨v, i1, w1, v32, v33, er⟩ := R _ (TK_tl (s := u))
            obtain ⟨v2, e2, f2, b2⟩ := c_223 hj hm hn v32 X Y
            have ef : bA (fun i => v.1 33 0 (40 * j + i)) X Y m = bA (s.1 7 j) X Y m := bA_cg (fun i hi => by rw [v33]; exact (row_e h hj hn i hi).symm)
            have ew : wvL (fun i => v.1 33 0 (40 * j + i)) X Y (bA (s.1 7 j) X Y m) = wvL (s.1 7 j) X Y (bA (s.1 7 j) X Y m) := by
              unfold wvL
              simp only [v33]
              rw [row_e h hj hn _ (by omega), row_e h hj hn _ (by omega)]
            rw [ef, ew] at e2
            rw [ef] at b2
            rw [if_pos hs, RI_202 hS i1 w1 hk, cL_s, w1.2.2.2, hx, hy, e2, cL_s, f2.2, w1.2.2.2, b2, c_149 aw (by omega) h0, cI_s] at er
            exact PS _ cls er (J_tl sv.2.1 _ _) (RS_tl (RS_tr i1.1 (F35_RS f2)) _ _) (fun b c => QF_60 sv.1 b c) (fun b c => QF_60 sv.1 b c)
          · rw [if_neg hs] at e1
            obtain ⟨v, i1, w1, v32, v33, er⟩ := R _ (TK_f (f := 4))
            rw [if_neg hs] at er
            refine PS (-3) (u1 := fC u 4) ?_ er (J_f sv.2.1 (f := 4) (by decide)) (RS_fR i1.1 4) (fun b c => QF_60 sv.1 b c) (fun b c => QF_60 sv.1 b c)
            rw [q_89, c_106, hp, cI_s, ite_bI, if_pos rfl, c_9_1, hr, cI_s, ite_bI, if_pos rfl, e1, cI_s, if_neg (by decide), c_100_4, cI_s]
        · refine wf_f h hj hn g2 ne ?_ (fun t ht => ?_)
          · rw [q_89, c_106, hp, cI_s, ite_bI, if_pos rfl, c_9_1, hr, cI_s, ite_bI, if_pos rfl, k1 ne, cI_s, if_neg (by rw [z_eq (by omega)]; exact ne), c_100f s (hf.2.resolve_left ne), cI_s]
          · rw [q_224, c_163, hp, cI_s, ite_bI, if_pos rfl, c_150, hr, cI_s, ite_bI, if_pos rfl, ht, cI_s, if_pos (by decide)]
    · refine PI_0 h (-1) ?_ ?_
      · rw [q_89, c_106, hp, cI_s, ite_bI, if_pos rfl, c_9_1, ix_no hr, cI_s, ite_bI, if_neg (by decide)]
      · rw [q_224, c_163, hp, cI_s, ite_bI, if_pos rfl, c_150, ix_no hr, cI_s, ite_bI, if_neg (by decide)]
  · refine PI_0 h (-1) ?_ ?_
    · rw [q_89, c_106, ix_no hp, cI_s, ite_bI, if_neg (by decide)]
    · rw [q_224, c_163, ix_no hp, cI_s, ite_bI, if_neg (by decide)]
