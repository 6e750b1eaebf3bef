theorem oth_bad (p0 p1 p2 : Int32) (s : SS) (hS : JS s) (h : ¬ (ixB p0 28 = true ∧ ixB p1 4 = true ∧ ixB p2 28 = true ∧ lsN p0.toNatClampNeg < nN s)) : ev 88 0 [some (.inr (.inr (0, 0))), some (.inl p0), some (.inl p1), some (.inl p2)] [] s = some (some (.inl (-1)), s) ∧ ev 221 0 [some (.inr (.inr (30, 0))), some (.inl p0), some (.inl p1), some (.inl p2), none, none, none] [] s = some (some (.inl (-1)), s) := by
  have hN := hS.1.2.1
  by_cases h0 : ixB p0 28 = true
  · obtain ⟨j, hj, rfl⟩ := (ixB_iff (by decide)).mp h0
    by_cases h1 : ixB p1 4 = true
    · obtain ⟨w, hw, rfl⟩ := (ixB_iff (by decide)).mp h1
      have hM : (!(decide (nI w < 0)) && !(decide ((3 : Int32) < nI w))) = true := (in_ix (nI w) 3 (by decide)).trans h1
      by_cases h2 : ixB p2 28 = true
      · have hl : ¬ lsN j < nN s := fun z => h ⟨h0, h1, h2, by rw [cl_nI (by omega)]; exact z⟩
        have hls := ls4 hj
        constructor
        · rw [q_88, c_106, h0, cI_s, ite_bI, if_pos rfl, c_107, h1, cI_s, ite_bI, if_pos rfl, c_106, h2, cI_s, ite_bI, if_pos rfl, hS.1.2.2.1, c_109 hj (by omega), decide_eq_false hl, cI_s, ite_bI, if_neg (by decide)]
        · rw [q_221, c_163, h2, cI_s, ite_bI, if_pos rfl, q_167, c_163, h0, cI_s, ite_bI, if_pos rfl, c_144, hM, cI_s, ite_bI, if_pos rfl, c_164 hj, cI_s, hS.1.2.2.2, if_neg (show ¬ nI (lsN j) < nI (nN s) from by rw [n_lt (by omega) (by omega)]; exact hl), cI_s, if_pos (by decide)]
      · constructor
        · rw [q_88, c_106, h0, cI_s, ite_bI, if_pos rfl, c_107, h1, cI_s, ite_bI, if_pos rfl, c_106, ix_no h2, cI_s, ite_bI, if_neg (by decide)]
        · rw [q_221, c_163, ix_no h2, cI_s, ite_bI, if_neg (by decide)]
    · constructor
      · rw [q_88, c_106, h0, cI_s, ite_bI, if_pos rfl, c_107, ix_no h1, cI_s, ite_bI, if_neg (by decide)]
      · rw [q_221, c_163, cI_s, ite_bI]
        cases ixB p2 28
        · rfl
        · rw [if_pos rfl, q_167, c_163, h0, cI_s, ite_bI, if_pos rfl, c_144, show (3 : Int32) = nI 3 from rfl, in_ix p1 3 (by decide), ix_no h1, cI_s, ite_bI, if_neg (by decide), cI_s, if_pos (by decide)]
  · constructor
    · rw [q_88, c_106, ix_no h0, cI_s, ite_bI, if_neg (by decide)]
    · rw [q_221, c_163, cI_s, ite_bI]
      cases ixB p2 28
      · rfl
      · rw [if_pos rfl, q_167, c_163, ix_no h0, cI_s, ite_bI, if_neg (by decide), cI_s, if_pos (by decide)]
theorem r_221 {s u1 : SS} (hS : JS u1) (hL : JL u1) (sp : SP s u1) {j w y : Nat} (hj : j < 28) (hw : w < 4) (hy : y < 28) (hl : lsN j < nN s) (hf : ¬ (w = 3 ∧ tl s j ≠ 3 ∧ nS s = 10)) : ∃ v, RS (gh u1 j w) v ∧ ev 221 0 [some (.inr (.inr (30, 0))), some (.inl (nI j)), some (.inl (nI w)), some (.inl (nI y)), none, none, none] [] u1 = if 0 < allN (gh s j w) (aA 0) then some (some (.inl 1), wI (oR (wI u1 37 0 j (nI w)) (tlR v (lN (shP (gh s j w) (aA 0) (fun v => soB (gh s j w) y v)) / lN (Nat.gcd (shP (gh s j w) (aA 0) (fun v => soB (gh s j w) y v)) (allN (gh s j w) (aA 0)))) (lN (allN (gh s j w) (aA 0)) / lN (Nat.gcd (shP (gh s j w) (aA 0) (fun v => soB (gh s j w) y v)) (allN (gh s j w) (aA 0)))))) 37 0 j (u1.1 37 0 j)) else some (some (.inl (-3)), wI (oR (wI u1 37 0 j (nI w)) (fR v 4)) 37 0 j (u1.1 37 0 j)) := by
  have x28 : ixB (nI j) 28 = true := ixB_nI hj (by decide)
  obtain ⟨t1, t2, t3⟩ := SP_tl sp
  have hl' : lsN j < nN u1 := by rw [t3]; exact hl
  have hf' : ¬ (w = 3 ∧ tl u1 j ≠ 3 ∧ nS u1 = 10) := by rw [t1, t2]; exact hf
  have jg := JS_gh hS hj hw hl' hf'
  obtain ⟨v, rs, e⟩ := r_210 jg (JL_gh hL j w) hy
  have sg := SP_gh sp j w
  rw [SP_all sg, SP_shP sg] at e
  refine ⟨v, rs, ?_⟩
  have lk : nL_k Pr [some (.inr (.inr (30, 0))), some (.inl (nI y))] := nLk_s (x := .inr (.inr (30, 0))) rfl (nLk_s (x := .inl (nI y)) trivial nLk_e)
  have go : ∀ a t, ev 210 0 [some (.inr (.inr (30, 0))), some (.inl (nI y))] [] (gh u1 j w) = some (some (.inl a), t) → ev 221 0 [some (.inr (.inr (30, 0))), some (.inl (nI j)), some (.inl (nI w)), some (.inl (nI y)), none, none, none] [] u1 = some (some (.inl a), wI (oR (wI u1 37 0 j (nI w)) t) 37 0 j (u1.1 37 0 j)) := by
    intro a t h
    have h2 := ev_R (wI u1 37 0 j (nI w)) (by decide) lk h
    rw [← oR_gh] at h2
    rw [q_221, c_163, ixB_nI hy (by decide), cI_s, ite_bI, if_pos rfl, c_167 hS hj hw hl', if_neg hf', cI_s, if_neg (by decide), if_pos x28, if_pos x28, cl_nI (by omega), h2, cI_s, if_pos x28]
  by_cases h0 : 0 < allN (gh s j w) (aA 0)
  · rw [if_pos h0] at e ⊢
    exact go _ _ e
  · rw [if_neg h0] at e ⊢
    exact go _ _ e
theorem pub_otherwise {s : SS} (h : J s) (p0 p1 p2 : Int32) : PI 88 221 [some (.inr (.inr (0, 0))), some (.inl p0), some (.inl p1), some (.inl p2)] [some (.inr (.inr (30, 0))), some (.inl p0), some (.inl p1), some (.inl p2), none, none, none] s := by
  have hS := h.2.2.2.1
  have hL := h.2.2.2.2.1
  by_cases hb : ixB p0 28 = true ∧ ixB p1 4 = true ∧ ixB p2 28 = true ∧ lsN p0.toNatClampNeg < nN s
  · obtain ⟨h0, h1, h2, hl⟩ := hb
    obtain ⟨j, hj, rfl⟩ := (ixB_iff (by decide)).mp h0
    obtain ⟨w, hw, rfl⟩ := (ixB_iff (by decide)).mp h1
    obtain ⟨y, hy, rfl⟩ := (ixB_iff (by decide)).mp h2
    rw [cl_nI (by omega)] at hl
    have hN := hS.1.2.1
    by_cases hf : w = 3 ∧ tl s j ≠ 3 ∧ nS s = 10
    · refine PI_0 h (-2) ?_ ?_
      · rw [q_88, c_106, h0, cI_s, ite_bI, if_pos rfl, c_107, h1, cI_s, ite_bI, if_pos rfl, c_106, h2, cI_s, ite_bI, if_pos rfl, hS.1.2.2.1, c_109 hj (by omega), decide_eq_true hl, cI_s, ite_bI, if_pos rfl, c_112 hS hj hw, decide_eq_true hf, cI_s, if_neg (by decide)]
      · rw [q_221, c_163, h2, cI_s, ite_bI, if_pos rfl, c_167 hS hj hw hl, if_pos hf, cI_s, if_pos (by decide)]
    · have jg := J_gh h (JS_gh hS hj hw hl hf)
      have gS := jg.2.2.2.1
      obtain ⟨u, e1, q, hJ, cw, c0, c18⟩ := c_127 h hj jg
      have hb := all_le gS (A := aA 0)
      have hn := shP_le gS (A := aA 0) (P := fun v => soB (gh s j w) y v)
      have ha := aL_n (a := shP (gh s j w) (aA 0) (fun v => soB (gh s j w) y v)) (by omega)
      have cls : ev 88 0 [some (.inr (.inr (0, 0))), some (.inl (nI j)), some (.inl (nI w)), some (.inl (nI y))] [] s = ev 103 0 [some (.inr (.inr (0, 0))), some (.inr (.inl (lN (shP (gh s j w) (aA 0) (fun v => soB (gh s j w) y v))))), none, some (.inr (.inl (lN (allN (gh s j w) (aA 0))))), none] [] u := by
        rw [q_88, c_106, h0, cI_s, ite_bI, if_pos rfl, c_107, h1, cI_s, ite_bI, if_pos rfl, c_106, h2, cI_s, ite_bI, if_pos rfl, hS.1.2.2.1, c_109 hj (by omega), decide_eq_true hl, cI_s, ite_bI, if_pos rfl, c_112 hS hj hw, decide_eq_false hf, cI_s, if_pos (by rfl), e1, cV_s, shl1 y (by omega), c_56_g gS cw c0 c18 hy, cL_s, cw.2.2.2.1, c103x ha (by omega)]
      rw [c_103 ha (by omega)] at cls
      by_cases hz : 0 < allN (gh s j w) (aA 0)
      · rw [if_pos hz] at cls
        have tk := TK_tl (s := u) (x := lN (shP (gh s j w) (aA 0) (fun v => soB (gh s j w) y v)) / lN (Nat.gcd (shP (gh s j w) (aA 0) (fun v => soB (gh s j w) y v)) (allN (gh s j w) (aA 0)))) (y := lN (allN (gh s j w) (aA 0)) / lN (Nat.gcd (shP (gh s j w) (aA 0) (fun v => soB (gh s j w) y v)) (allN (gh s j w) (aA 0))))
        obtain ⟨v, rs, e⟩ := r_221 (TK_JS tk hJ.2.2.2.1) (TK_JL tk hJ.2.2.2.2.1) (SP_tr (QF_SP q) (TK_SP tk)) hj hw hy hl hf
        rw [if_pos hz] at e
        exact PS 1 cls e (J_tl hJ _ _) (fin_tl rs _ _) (fun b c => QF_60 q b c) (fun b c => QF_60 q b c)
      · rw [if_neg hz] at cls
        have tk := TK_f (s := u) (f := 4)
        obtain ⟨v, rs, e⟩ := r_221 (TK_JS tk hJ.2.2.2.1) (TK_JL tk hJ.2.2.2.2.1) (SP_tr (QF_SP q) (TK_SP tk)) hj hw hy hl hf
        rw [if_neg hz] at e
        exact PS (-3) cls e (J_f hJ (f := 4) (by decide)) (fin_f rs) (fun b c => QF_60 q b c) (fun b c => QF_60 q b c)
  · obtain ⟨e1, e2⟩ := oth_bad p0 p1 p2 s hS hb
    exact PI_0 h (-1) e1 e2
