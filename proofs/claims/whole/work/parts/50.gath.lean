theorem c_7 (s : SS) : ∃ u, ev 7 0 [some (.inr (.inr (19, 0))), some (.inr (.inl 0)), none, none, none] [] s = some (none, u) ∧ OffL s u ∧ ∀ v, v < 1024 → u.2.1 19 0 v = lN 0 := by
  have hl := lpX (fun i u => ev 7 6 [some (.inr (.inr (19, 0))), some (.inr (.inl 0)), none, some (.inl (nI i)), some (.inl (nI 1024))] [] u) (fun i u => OffL s u ∧ ∀ v, v < i → u.2.1 19 0 v = lN 0) 1024 (fun i u hi hu => by
    refine ⟨wL u 19 0 i 0, ?_, OL_tr hu.1 OL_w, fun v hv => ?_⟩
    · show ev 7 6 [some (.inr (.inr (19, 0))), some (.inr (.inl 0)), none, some (.inl (nI i)), some (.inl (nI 1024))] [] u = _
      rw [q_7_at6, if_pos (nI_lt hi (by decide)), if_pos (ixB_nI hi (by decide)), cl_nI (by omega), nI_s]
    · rw [wL_2]
      by_cases e : v = i
      · rw [if_pos ⟨rfl, rfl, e⟩]
        rfl
      · rw [if_neg (fun z => e z.2.2)]
        exact hu.2 v (by omega)) s ⟨OL_rf, fun v hv => absurd hv (Nat.not_lt_zero v)⟩
  obtain ⟨u, e, o, g⟩ := hl
  refine ⟨u, ?_, o, g⟩
  rw [q_7]
  refine (show ev 7 6 [some (.inr (.inr (19, 0))), some (.inr (.inl 0)), none, some (.inl (nI 0)), some (.inl (nI 1024))] [] s = _ from e).trans ?_
  rw [q_7_at6, if_neg (irr _)]
theorem c_39 {s : SS} (hJ : JS s) (hL : JL s) : ∃ u, ev 39 0 [some (.inr (.inr (11, 0))), some (.inr (.inr (9, 0))), some (.inl (nI (nN s))), some (.inr (.inr (10, 0))), none] [] s = some (none, u) ∧ WK s u ∧ TW s u 28 ∧ ∀ v, v < nW s → u.2.1 19 0 v = lN (bkN s v) := by
  have hW := nW_le hJ
  obtain ⟨t1, e1, o1, w1⟩ := c_40 hJ
  obtain ⟨t2, e2, o2, g2⟩ := c_7 t1
  have k2 : WK s t2 := WK_tr (WK_off o1) (WK_L o2)
  have hl := lpX (fun i u => ev 39 16 [some (.inr (.inr (11, 0))), none, some (.inl (nI (nN s))), some (.inr (.inr (10, 0))), some (.inl (nI i))] [] u) (fun i u => OffL t2 u ∧ ∀ v, v < nW s → u.2.1 19 0 v = lN (sm (fun k => brk s k v * 256 ^ k) i)) 8 (fun i u hi hu => by
    obtain ⟨o, g⟩ := hu
    have ku : WK s u := WK_tr k2 (WK_L o)
    have x8 : ixB (nI i) 8 = true := ixB_nI hi (by decide)
    have e22 : u.2.2 = s.2.2 := ku.2.1
    have tw : TW s u 28 := TW_L (OL_tr o2 o) w1
    have skip : (∀ v, v < nW s → brk s i v = 0) → ∀ v, v < nW s → u.2.1 19 0 v = lN (sm (fun k => brk s k v * 256 ^ k) i + brk s i v * 256 ^ i) := by
      intro hz v hv
      rw [hz v hv, Nat.zero_mul, Nat.add_zero]
      exact g v hv
    rcases LJ_h (hL.2.2 i hi) with ⟨a1, a2⟩ | ⟨a1, kd, np, w, f, h⟩
    · have f1 : u.1 13 (s.2.2 i) 0 = 0 := (ku.1 13 _ _ (by decide) (by decide)).trans a1
      refine ⟨u, ?_, o, skip (fun v _ => ?_)⟩
      · show ev 39 16 [some (.inr (.inr (11, 0))), none, some (.inl (nI (nN s))), some (.inr (.inr (10, 0))), some (.inl (nI i))] [] u = _
        rw [q_39_at16, if_pos (show nI i < (8 : Int32) from nI_lt hi (by decide)), if_pos x8, cl_nI (by omega), e22, f1, if_pos rfl, nI_s]
      · unfold brk kdN
        rw [a2]
        rfl
    · have f1 : u.1 13 (s.2.2 i) 0 = 1 := (ku.1 13 _ _ (by decide) (by decide)).trans a1
      have hu := WK_Hd ku h
      have hd := h.1
      by_cases z0 : kd = 0
      · refine ⟨u, ?_, o, skip (fun v _ => ?_)⟩
        · show ev 39 16 [some (.inr (.inr (11, 0))), none, some (.inl (nI (nN s))), some (.inr (.inr (10, 0))), some (.inl (nI i))] [] u = _
          rw [q_39_at16, if_pos (show nI i < (8 : Int32) from nI_lt hi (by decide)), if_pos x8, cl_nI (by omega), e22, f1, if_neg (by decide), if_pos x8, hu.2.2.2.2.2.1, if_pos (by rw [z0]; rfl), nI_s]
        · unfold brk
          rw [(Hd_n h).1, if_pos z0]
      · obtain ⟨u', p1, o', g'⟩ := c_42 hJ hi h z0 tw ku
        refine ⟨u', ?_, OL_tr o o', fun v hv => ?_⟩
        · show ev 39 16 [some (.inr (.inr (11, 0))), none, some (.inl (nI (nN s))), some (.inr (.inr (10, 0))), some (.inl (nI i))] [] u = _
          rw [q_39_at16, if_pos (show nI i < (8 : Int32) from nI_lt hi (by decide)), if_pos x8, cl_nI (by omega), e22, f1, if_neg (by decide), if_pos x8, hu.2.2.2.2.2.1, if_neg (by rw [z_eq (by omega)]; exact z0), if_pos x8, p1, cV_s, nI_s]
        · rw [g' v hv, g v hv, lN_add]
          rfl) t2 ⟨OL_rf, fun v hv => g2 v (by omega)⟩
  obtain ⟨u, e, o, g⟩ := hl
  refine ⟨u, ?_, WK_tr k2 (WK_L o), TW_L (OL_tr o2 o) w1, g⟩
  rw [q_39, e1, cV_s, e2, cV_s]
  refine (show ev 39 16 [some (.inr (.inr (11, 0))), none, some (.inl (nI (nN s))), some (.inr (.inr (10, 0))), some (.inl (nI 0))] [] t2 = _ from e).trans ?_
  rw [q_39_at16, if_neg (show ¬ nI 8 < (8 : Int32) from irr (nI 8))]
