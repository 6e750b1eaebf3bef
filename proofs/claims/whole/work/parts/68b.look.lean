def gW (f : Nat → Int32) (a b : Int64) (m : Nat) : Int64 := wvL f a b (bA f a b m)
theorem gW_cg {f g : Nat → Int32} {a b : Int64} {m : Nat} (hm : 1 ≤ m) (h : ∀ i, i < 2 * m → f i = g i) : gW f a b m = gW g a b m := by
  have hl := bA_lt g a b m (by omega)
  unfold gW
  rw [bA_cg h]
  unfold wvL
  rw [h _ (by omega), h _ (by omega)]
theorem c_143 {s : SS} {j m : Nat} (hj : j < 6) (hm : 1 ≤ m) (hn : 2 * m ≤ 40) (h : s.1 5 0 j = nI (2 * m)) (a b : Int64) : ev 143 0 [some (.inr (.inr (0, 0))), some (.inl (nI j)), some (.inr (.inl a)), none, some (.inr (.inl b)), none] [] s = some (some (.inr (.inl (gW (s.1 7 j) a b m))), s) := by
  have hl := bA_lt (s.1 7 j) a b m (by omega)
  rw [q_143, c_142 hj hm hn h, cI_s, c_141 hj hn h (by omega), cL_s]
  rfl
theorem i4 (a b c d : Int64) : (a - b) - (c - d) = ((a - c) - b) + d := by
  rw [l_eq]
  simp only [Int64.toInt_sub, Int64.toInt_add, Int.sub_bmod_bmod, Int.bmod_sub_bmod, Int.bmod_add_bmod, Int.add_bmod_bmod]
  congr 1
  omega
theorem bd_gW {f : Nat → Int32} {m : Nat} (hm : 1 ≤ m) {a b : Int64} (h : anyB (woB f) (2 * m) = false) (ha : bdL a 4294967296) (hb : bdL b 4294967296) : bdL (gW f a b m) 850403524608 := by
  have hl := bA_lt f a b m (by omega)
  exact bd_wv h (by omega) ha hb (by decide) (by decide)
theorem bd_le {p : Int64} {K L : Nat} (h : bdL p K) (hk : K ≤ L) : bdL p L := by
  unfold bdL at h ⊢
  omega
theorem c_223g {s t v : SS} {j m : Nat} (hj : j < 6) (hm : 1 ≤ m) (hn : 2 * m ≤ 40) (h : t.1 32 0 j = nI (2 * m)) (hf : ∀ i, i < 2 * m → t.1 33 0 (40 * j + i) = s.1 7 j i) (hv : F35 t v) (a b : Int64) : ∃ u, ev 223 0 [some (.inr (.inr (30, 0))), some (.inl (nI j)), some (.inr (.inl a)), none, some (.inr (.inl b)), none, none, none, none, none, none] [] v = some (some (.inr (.inl (gW (s.1 7 j) a b m))), u) ∧ F35 t u := by
  obtain ⟨u, e, f, -⟩ := c_223 hj hm hn (v := v) ((hv.1 32 0 j (fun z => absurd z (by decide))).trans h) a b
  refine ⟨u, ?_, F35_tr hv f⟩
  rw [e]
  have : gW (fun i => v.1 33 0 (40 * j + i)) a b m = gW (s.1 7 j) a b m := gW_cg hm (fun i hi => (hv.1 33 0 _ (fun z => absurd z (by decide))).trans (hf i hi))
  rw [← this]
  rfl
theorem pub_look {s : SS} (h : J s) (p r o : Int32) : PI 90 225 [some (.inr (.inr (0, 0))), some (.inl p), some (.inl r), some (.inl o), none, none, none, none, none, none, none, none, none, none, none] [some (.inr (.inr (30, 0))), some (.inl p), some (.inl r), some (.inl o), none, none, none, none, none, none, none, none, none] s := by
  have hS := h.2.2.2.1
  have hL := h.2.2.2.2.1
  by_cases hp : ixB p 28 = true
  · by_cases hr : ixB r 6 = true
    · by_cases ho : ixB o 28 = true
      · obtain ⟨k, hk, rfl⟩ := (ixB_iff (by decide)).mp hp
        obtain ⟨j, hj, rfl⟩ := (ixB_iff (by decide)).mp hr
        obtain ⟨y, hy, rfl⟩ := (ixB_iff (by decide)).mp ho
        rcases h.1.1 j hj with ⟨g1, g2⟩ | ⟨n, hn, g1, g2⟩
        · refine PI_f h (f := 1) (by decide) ?_ (fun t ha _ => ?_)
          · rw [q_90, c_106, hp, cI_s, ite_bI, if_pos rfl, c_9_1, hr, cI_s, ite_bI, if_pos rfl, c_106, ho, cI_s, ite_bI, if_pos rfl, q_138, q_139, c_10_1, hasR_n hj g1, cI_s, ite_bI, if_neg (by decide), cI_s, if_neg (by decide), cI_s, if_neg (by decide), c_100_1, cI_s]
          · have g3 : t.1 32 0 j = -9 := ((ha.1 32 (by decide)).1 0 j).trans g2
            rw [q_225, c_163, hp, cI_s, ite_bI, if_pos rfl, c_150, hr, cI_s, ite_bI, if_pos rfl, c_163, ho, cI_s, ite_bI, if_pos rfl, q_222, if_pos hr, cl_nI (by omega), g3, if_pos (by decide), c_145_1, cI_s, cI_s, if_pos (by decide)]
        · obtain ⟨k1, k2⟩ := c_138 h hj hn g1
          have hf := fw_lt (s.1 7 j) n
          by_cases ne : fwN (s.1 7 j) n = 0
          · obtain ⟨u, e1, sv⟩ := k2 ne
            obtain ⟨m, hm, rfl, hw⟩ := fw_0 ne
            have sp := QF_SP sv.1
            have u5 : u.1 5 0 j = nI (2 * m) := (sv.1.1 5 0 j (by decide) (by decide) (by decide) (by decide) (fun z => absurd z (by decide))).trans g1
            have u7 : u.1 7 j = s.1 7 j := by
              funext i
              exact sv.1.1 7 j i (by decide) (by decide) (by decide) (by decide) (fun z => absurd z (by decide))
            have T : ∀ t, TK u t → (∀ i, t.1 32 0 i = s.1 32 0 i) ∧ (∀ i, t.1 33 0 i = s.1 33 0 i) ∧ fwN (fun i => t.1 33 0 (40 * j + i)) (2 * m) = 0 := by
              intro t tk
              have t33 : ∀ i, t.1 33 0 i = s.1 33 0 i := fun i => (tk.1 33 0 i (by decide) (fun z => absurd z (by decide))).trans (sv.1.1 33 0 i (by decide) (by decide) (by decide) (by decide) (fun z => absurd z (by decide)))
              exact ⟨fun i => (tk.1 32 0 i (by decide) (fun z => absurd z (by decide))).trans (sv.1.1 32 0 i (by decide) (by decide) (by decide) (by decide) (fun z => absurd z (by decide))), t33, (fw_cg (fun i hi => by rw [t33]; exact (row_e h hj hn i hi).symm)).trans ne⟩
            by_cases hs : (bst s (aA 0) (nW s)).isSome = true
            · have h0 : 0 < allN s (aA 0) := all_pos.mpr hs
              have b0 := bd_n (all_le hS (A := aA 0)) (by decide)
              have bX := bd_n (shP_le hS (A := aA 0) (P := fun v => soB s k v)) (by decide)
              have bB := bd_n (shP_le hS (A := aA 0) (P := fun v => soB s k v && soB s y v)) (by decide)
              have bO := bd_n (shP_le hS (A := aA 0) (P := fun v => soB s y v)) (by decide)
              have hal := all_le hS (A := aA 0)
              have c1 := c_56_1 hS sv hk
              have c2 := c_56_2 hS sv hk hy
              have c3 := c_56_1 hS sv hy
              generalize hx : lN (shP s (aA 0) (fun v => soB s k v)) = X at *
              generalize hb : lN (shP s (aA 0) (fun v => soB s k v && soB s y v)) = B at *
              generalize hq : lN (shP s (aA 0) (fun v => soB s y v)) = O at *
              generalize hN : lN (allN s (aA 0)) = N at *
              have w1 := bd_gW hm hw (a := B) (b := O - B) (bd_le bB (by decide)) (bd_le (bd_sub bO bB (by decide)) (by decide))
              have w2 := bd_gW hm hw (a := X - B) (b := (N - X) - (O - B)) (bd_le (bd_sub bX bB (by decide)) (by decide)) (bd_le (bd_sub (bd_sub b0 bX (by decide)) (bd_sub bO bB (by decide)) (by decide)) (by decide))
              have w3 := bd_gW hm hw (a := X) (b := N - X) (bd_le bX (by decide)) (bd_le (bd_sub b0 bX (by decide)) (by decide))
              have aw := aL_bd (bd_sub (bd_add w1 w2 (by decide)) w3 (by decide)) (by decide)
              generalize hZ : gW (s.1 7 j) B (O - B) m + gW (s.1 7 j) (X - B) ((N - X) - (O - B)) m - gW (s.1 7 j) X (N - X) m = Z at *
              have a9 := sv.2.2.2.2.2.2.2.1
              rw [hN] at a9
              have e104 := c_104 aw (b := allN s (aA 0)) (by omega) h0 u
              rw [hN] at e104
              have cls : ev 90 0 [some (.inr (.inr (0, 0))), some (.inl (nI k)), some (.inl (nI j)), some (.inl (nI y)), none, none, none, none, none, none, none, none, none, none, none] [] s = some (some (.inl 1), tlC u (Z / lN (Nat.gcd Z.toInt.natAbs (allN s (aA 0)))) (N / lN (Nat.gcd Z.toInt.natAbs (allN s (aA 0))))) := by
                rw [q_90, c_106, hp, cI_s, ite_bI, if_pos rfl, c_9_1, hr, cI_s, ite_bI, if_pos rfl, c_106, ho, cI_s, ite_bI, if_pos rfl, e1, if_pos hs, cI_s, if_pos rfl, shl1 k (by omega), shl1 y (by omega), c1, cL_s, c2, cL_s, c3, cL_s, a9, q_90_at101, c_143 hj hm hn u5, cL_s, c_143 hj hm hn u5, cL_s, c_143 hj hm hn u5, cL_s, u7, hZ, a9, e104, cV_s]
                rfl
              obtain ⟨v, f1, i1, w1'⟩ := c_201i sv.2.1 sp (TK_tl (s := u) (x := Z / lN (Nat.gcd Z.toInt.natAbs (allN s (aA 0)))) (y := N / lN (Nat.gcd Z.toInt.natAbs (allN s (aA 0)))))
              obtain ⟨t32, t33, tf⟩ := T _ (TK_tl (s := u) (x := Z / lN (Nat.gcd Z.toInt.natAbs (allN s (aA 0)))) (y := N / lN (Nat.gcd Z.toInt.natAbs (allN s (aA 0)))))
              have v32 : v.1 32 0 j = nI (2 * m) := by
                rw [i1.1.1 32 0 j (by decide) (by decide) (by decide) (fun z => absurd z (by decide)), t32]
                exact g2
              have v33 : ∀ i, i < 2 * m → v.1 33 0 (40 * j + i) = s.1 7 j i := fun i hi => by
                rw [i1.1.1 33 0 _ (by decide) (by decide) (by decide) (fun z => absurd z (by decide)), t33]
                exact (row_e h hj hn i hi).symm
              have d1 := RI_202 hS i1 w1' hk
              have d2 := c_203 hS hk hy i1.2.2.2.2 i1.2.2.1 i1.2.1.1 w1'.2.2.1
              have d3 := RI_202 hS i1 w1' hy
              rw [hx] at d1
              rw [hb] at d2
              rw [hq] at d3
              have n4 := w1'.2.2.2
              rw [hN] at n4
              obtain ⟨v1, x1, y1⟩ := c_223g hj hm hn v32 v33 (v := v) ⟨fun _ _ _ _ => rfl, rfl⟩ B (O - B)
              obtain ⟨v2, x2, y2⟩ := c_223g hj hm hn v32 v33 y1 (X - B) ((N - X) - (O - B))
              obtain ⟨v3, x3, y3⟩ := c_223g hj hm hn v32 v33 y2 X (N - X)
              have n1 : v1.2.1 30 0 34 = N := by rw [y1.2]; exact n4
              have n2 : v2.2.1 30 0 34 = N := by rw [y2.2]; exact n4
              have n3 : v3.2.1 30 0 34 = N := by rw [y3.2]; exact n4
              have e149 := c_149 aw (b := allN s (aA 0)) (by omega) h0 1 v3
              rw [hN] at e149
              have er : ev 225 0 [some (.inr (.inr (30, 0))), some (.inl (nI k)), some (.inl (nI j)), some (.inl (nI y)), none, none, none, none, none, none, none, none, none] [] (tlC u (Z / lN (Nat.gcd Z.toInt.natAbs (allN s (aA 0)))) (N / lN (Nat.gcd Z.toInt.natAbs (allN s (aA 0))))) = some (some (.inl 1), tlR v3 (Z / lN (Nat.gcd Z.toInt.natAbs (allN s (aA 0)))) (N / lN (Nat.gcd Z.toInt.natAbs (allN s (aA 0))))) := by
                rw [q_225, c_163, hp, cI_s, ite_bI, if_pos rfl, c_150, hr, cI_s, ite_bI, if_pos rfl, c_163, ho, cI_s, ite_bI, if_pos rfl, c_222 hj hn (by rw [t32]; exact g2), if_pos tf, cI_s, if_neg (by decide), f1, hs, cI_s, if_neg (by decide), d1, cL_s, d2, cL_s, d3, cL_s, x1, cL_s, n1, ← i4, x2, cL_s, n2, x3, cL_s, hZ, q_225_at126, n3, e149, cI_s]
                rfl
              exact PS 1 cls er (J_tl sv.2.1 _ _) (RS_tl (RS_tr i1.1 (F35_RS y3)) _ _) (fun b c => QF_60 sv.1 b c) (fun b c => QF_60 sv.1 b c)
            · rw [if_neg hs] at e1
              obtain ⟨v, f1, i1, w1⟩ := c_201i sv.2.1 sp (TK_f (f := 4))
              obtain ⟨t32, t33, tf⟩ := T _ (TK_f (s := u) (f := 4))
              refine PS (-3) (u1 := fC u 4) (v := fR v 4) ?_ ?_ (J_f sv.2.1 (f := 4) (by decide)) (RS_fR i1.1 4) (fun b c => QF_60 sv.1 b c) (fun b c => QF_60 sv.1 b c)
              · rw [q_90, c_106, hp, cI_s, ite_bI, if_pos rfl, c_9_1, hr, cI_s, ite_bI, if_pos rfl, c_106, ho, cI_s, ite_bI, if_pos rfl, e1, cI_s, if_neg (by decide), c_100_4, cI_s]
              · rw [q_225, c_163, hp, cI_s, ite_bI, if_pos rfl, c_150, hr, cI_s, ite_bI, if_pos rfl, c_163, ho, cI_s, ite_bI, if_pos rfl, c_222 hj hn (by rw [t32]; exact g2), if_pos tf, cI_s, if_neg (by decide), f1, hb_f hs, cI_s, if_pos (by rfl), c_145_4, cI_s]
          · refine wf_f h hj hn g2 ne ?_ (fun t ht => ?_)
            · rw [q_90, c_106, hp, cI_s, ite_bI, if_pos rfl, c_9_1, hr, cI_s, ite_bI, if_pos rfl, c_106, ho, cI_s, ite_bI, if_pos rfl, k1 ne, cI_s, if_neg (by rw [z_eq (by omega)]; exact ne), c_100f s (hf.2.resolve_left ne), cI_s]
            · rw [q_225, c_163, hp, cI_s, ite_bI, if_pos rfl, c_150, hr, cI_s, ite_bI, if_pos rfl, c_163, ho, cI_s, ite_bI, if_pos rfl, ht, cI_s, if_pos (by decide)]
      · refine PI_0 h (-1) ?_ ?_
        · rw [q_90, c_106, hp, cI_s, ite_bI, if_pos rfl, c_9_1, hr, cI_s, ite_bI, if_pos rfl, c_106, ix_no ho, cI_s, ite_bI, if_neg (by decide)]
        · rw [q_225, c_163, hp, cI_s, ite_bI, if_pos rfl, c_150, hr, cI_s, ite_bI, if_pos rfl, c_163, ix_no ho, cI_s, ite_bI, if_neg (by decide)]
    · refine PI_0 h (-1) ?_ ?_
      · rw [q_90, c_106, hp, cI_s, ite_bI, if_pos rfl, c_9_1, ix_no hr, cI_s, ite_bI, if_neg (by decide)]
      · rw [q_225, c_163, hp, cI_s, ite_bI, if_pos rfl, c_150, ix_no hr, cI_s, ite_bI, if_neg (by decide)]
  · refine PI_0 h (-1) ?_ ?_
    · rw [q_90, c_106, ix_no hp, cI_s, ite_bI, if_neg (by decide)]
    · rw [q_225, c_163, ix_no hp, cI_s, ite_bI, if_neg (by decide)]
