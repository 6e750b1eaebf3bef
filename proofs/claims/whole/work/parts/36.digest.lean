theorem r_81 {s : SS} (hS : JS s) {j k kd np w f : Nat} (hk : k < 8) (g : Hd s j k kd np w f) (x : Int64) : ev 236 81 [some (.inr (.inr (30, 0))), some (.inl (nI k)), some (.inl 0)] [] (wL s 30 0 36 x) = ev 236 56 [some (.inr (.inr (30, 0))), some (.inl (nI (k + 1))), none] [] (wL s 30 0 36 (mx (mx (mx (mx x (nI (tlN s k kd np 0))) (nI (tlN s k kd np 1))) (nI (tlN s k kd np 2))) (nI (mkN s k np w f kd)))) := by
  have hd := g.1
  have step : ∀ v (y : Int64), v < 3 → ev 188 0 [some (.inr (.inr (30, 0))), some (.inl (nI k)), some (.inl (nI v))] [] (wL s 30 0 36 y) = some (some (.inl (nI (tlN s k kd np v))), wL s 30 0 36 y) := fun v y hv => c_188 (s := wL s 30 0 36 y) hS hk hv g
  have mk : ∀ y : Int64, ev 192 0 [some (.inr (.inr (30, 0))), some (.inl (nI k)), some (.inl (nI kd))] [] (wL s 30 0 36 y) = some (some (.inl (nI (mkN s k np w f kd))), wL s 30 0 36 y) := fun y => c_192 (s := wL s 30 0 36 y) hk hd g
  rw [q_236_at81, if_neg (by decide), show (0 : Int32) = nI 0 from rfl, step 0 _ (by decide), cI_s, c_235, cV_s, nI_s]
  rw [q_236_at81, if_neg (by decide), step 1 _ (by decide), cI_s, c_235, cV_s, nI_s]
  rw [q_236_at81, if_neg (by decide), step 2 _ (by decide), cI_s, c_235, cV_s, nI_s]
  rw [q_236_at81, if_pos (by decide), if_pos (ixB_nI hk (by decide)), cl_nI (by omega), wL_1, g.2.2.2.2.2.2.1, mk, cI_s, c_235, cV_s, nI_s]
theorem c_236 {s : SS} (h : J s) : ev 236 0 [some (.inr (.inr (30, 0))), none, none] [] s = some (some (.inr (.inl (dig s))), wL s 30 0 36 (dig s)) := by
  have hS := h.2.2.2.1
  rw [q_236]
  have l1 := lpS (fun i h => ev 236 9 [some (.inr (.inr (30, 0))), some (.inl (nI i)), none] [] (wL s 30 0 36 h)) (fun i h => mx h (nI (cntN s i))) 7 (fun i x hi => by
    show ev 236 9 [some (.inr (.inr (30, 0))), some (.inl (nI i)), none] [] (wL s 30 0 36 x) = _
    rw [q_236_at9, if_neg (show ¬ 6 < nI i from by rw [L_ltn (by omega) (by decide)]; show ¬ 6 < i; omega), c_231 (s := wL s 30 0 36 x) hS hi, cI_s, c_235, cV_s, nI_s]
    rfl) 17
  refine (show ev 236 9 [some (.inr (.inr (30, 0))), some (.inl (nI 0)), none] [] (wL s 30 0 36 17) = _ from l1).trans ?_
  rw [q_236_at9, if_pos (by decide)]
  have l2 := lpS (fun i h => ev 236 32 [some (.inr (.inr (30, 0))), some (.inl (nI i)), none] [] (wL s 30 0 36 h)) (fun i h => mx h (s.1 37 0 i)) 28 (fun i x hi => by
    show ev 236 32 [some (.inr (.inr (30, 0))), some (.inl (nI i)), none] [] (wL s 30 0 36 x) = _
    rw [q_236_at32, if_pos (show nI i < (28 : Int32) from nI_lt hi (by decide)), if_pos (ixB_nI hi (by decide)), cl_nI (by omega), c_235, cV_s, nI_s]
    rfl) (fo (fun i h => mx h (nI (cntN s i))) 7 17)
  refine (show ev 236 32 [some (.inr (.inr (30, 0))), some (.inl (nI 0)), none] [] (wL s 30 0 36 _) = _ from l2).trans ?_
  rw [q_236_at32, if_neg (show ¬ nI 28 < (28 : Int32) from irr (nI 28))]
  have l3 := lpS (fun i h => ev 236 56 [some (.inr (.inr (30, 0))), some (.inl (nI i)), none] [] (wL s 30 0 36 h)) (fun k h => lawD s k h) 8 (fun i x hi => by
    show ev 236 56 [some (.inr (.inr (30, 0))), some (.inl (nI i)), none] [] (wL s 30 0 36 x) = ev 236 56 [some (.inr (.inr (30, 0))), some (.inl (nI (i + 1))), none] [] (wL s 30 0 36 (lawD s i x))
    rw [q_236_at56, if_pos (show nI i < (8 : Int32) from nI_lt hi (by decide)), if_pos (ixB_nI hi (by decide)), cl_nI (by omega), c_235, cV_s, nI_s]
    unfold lawD
    rw [wL_1]
    rcases LJ_h (h.2.2.2.2.1.2.2 i hi) with ⟨g1, g2⟩ | ⟨g1, kd, np, w, f, g⟩
    · rw [g2, if_pos (by decide), if_pos (by decide)]
    · obtain ⟨e1, e2, e3, e4⟩ := Hd_n g
      have hd := g.1
      rw [g.2.2.2.2.2.2.1, if_neg (nI_pos (by omega)), if_neg (nI_pos (by omega)), e1, e2, e3, e4]
      exact r_81 hS hi g x) (fo (fun i h => mx h (s.1 37 0 i)) 28 (fo (fun i h => mx h (nI (cntN s i))) 7 17))
  refine (show ev 236 56 [some (.inr (.inr (30, 0))), some (.inl (nI 0)), none] [] (wL s 30 0 36 _) = _ from l3).trans ?_
  rw [q_236_at56, if_neg (show ¬ nI 8 < (8 : Int32) from irr (nI 8))]
  have l4 := lpS (fun i h => ev 236 125 [some (.inr (.inr (30, 0))), some (.inl (nI i)), none] [] (wL s 30 0 36 h)) (fun q h => rowD s q h) 6 (fun q x hq => by
    show ev 236 125 [some (.inr (.inr (30, 0))), some (.inl (nI q)), none] [] (wL s 30 0 36 x) = ev 236 125 [some (.inr (.inr (30, 0))), some (.inl (nI (q + 1))), none] [] (wL s 30 0 36 (rowD s q x))
    have xq : ixB (nI q) 6 = true := ixB_nI hq (by decide)
    rw [q_236_at125, if_pos (show nI q < (6 : Int32) from nI_lt hq (by decide)), if_pos xq, if_pos xq, cl_nI (by omega), c_235, cV_s, c_235, cV_s]
    unfold rowD
    rw [wL_1]
    rcases h.1.1 q hq with ⟨g1, g2⟩ | ⟨n, hn, g1, g2⟩
    · rw [g2, if_pos (by decide), if_pos (by decide), q_236_at156, if_pos xq, cl_nI (by omega), wL_1, g2, if_neg (by decide), nI_s]
    · have z : ¬ nI n < 0 := nI_pos (by omega)
      rw [g2, if_neg z, if_neg z, cl_nI (show n < 2147483648 by omega)]
      have hl := lpS (fun i h => ev 236 156 [some (.inr (.inr (30, 0))), some (.inl (nI q)), some (.inl (nI i))] [] (wL s 30 0 36 h)) (fun i h => mx h (s.1 33 0 (40 * q + i))) n (fun i x hi => by
        show ev 236 156 [some (.inr (.inr (30, 0))), some (.inl (nI q)), some (.inl (nI i))] [] (wL s 30 0 36 x) = _
        rw [q_236_at156, if_pos xq, cl_nI (show q < 2147483648 by omega), wL_1, g2, if_pos (nI_lt hi (by omega)), c_154 hq (by omega), cI_s, c_235, cV_s, nI_s]
        rfl) (mx x (nI n))
      refine (show ev 236 156 [some (.inr (.inr (30, 0))), some (.inl (nI q)), some (.inl (nI 0))] [] (wL s 30 0 36 _) = _ from hl).trans ?_
      rw [q_236_at156, if_pos xq, cl_nI (show q < 2147483648 by omega), wL_1, g2, if_neg (irr _), nI_s]) (fo (fun k h => lawD s k h) 8 (fo (fun i h => mx h (s.1 37 0 i)) 28 (fo (fun i h => mx h (nI (cntN s i))) 7 17)))
  refine (show ev 236 125 [some (.inr (.inr (30, 0))), some (.inl (nI 0)), none] [] (wL s 30 0 36 _) = _ from l4).trans ?_
  rw [q_236_at125, if_neg (show ¬ nI 6 < (6 : Int32) from irr (nI 6))]
  have l5 := lpS (fun i h => ev 236 190 [some (.inr (.inr (30, 0))), some (.inl (nI i)), none] [] (wL s 30 0 36 h)) (fun q h => texD s q h) 4 (fun q x hq => by
    show ev 236 190 [some (.inr (.inr (30, 0))), some (.inl (nI q)), none] [] (wL s 30 0 36 x) = ev 236 190 [some (.inr (.inr (30, 0))), some (.inl (nI (q + 1))), none] [] (wL s 30 0 36 (texD s q x))
    have xq : ixB (nI q) 4 = true := ixB_nI hq (by decide)
    rw [q_236_at190, if_pos (show nI q < (4 : Int32) from nI_lt hq (by decide)), if_pos xq, if_pos xq, cl_nI (by omega), c_235, cV_s, c_235, cV_s]
    unfold texD
    rw [wL_1]
    rcases h.2.1.1 q hq with ⟨g1, g2⟩ | ⟨n, hn, g1, g2⟩
    · rw [g2, if_pos (by decide), if_pos (by decide), q_236_at220, if_pos xq, cl_nI (by omega), wL_1, g2, if_neg (by decide), nI_s]
    · have z : ¬ nI n < 0 := nI_pos (by omega)
      rw [g2, if_neg z, if_neg z, cl_nI (show n < 2147483648 by omega)]
      have hl := lpS (fun i h => ev 236 220 [some (.inr (.inr (30, 0))), some (.inl (nI q)), some (.inl (nI i))] [] (wL s 30 0 36 h)) (fun i h => mx h (s.1 36 0 (40 * q + i))) n (fun i x hi => by
        show ev 236 220 [some (.inr (.inr (30, 0))), some (.inl (nI q)), some (.inl (nI i))] [] (wL s 30 0 36 x) = _
        rw [q_236_at220, if_pos xq, cl_nI (show q < 2147483648 by omega), wL_1, g2, if_pos (nI_lt hi (by omega)), n_mulL, n_add, if_pos (ixB_nI (show 40 * q + i < 160 by omega) (by decide)), cl_nI (show 40 * q + i < 2147483648 by omega), c_235, cV_s, nI_s]) (mx x (nI n))
      refine (show ev 236 220 [some (.inr (.inr (30, 0))), some (.inl (nI q)), some (.inl (nI 0))] [] (wL s 30 0 36 _) = _ from hl).trans ?_
      rw [q_236_at220, if_pos xq, cl_nI (show q < 2147483648 by omega), wL_1, g2, if_neg (irr _), nI_s]) (fo (fun q h => rowD s q h) 6 (fo (fun k h => lawD s k h) 8 (fo (fun i h => mx h (s.1 37 0 i)) 28 (fo (fun i h => mx h (nI (cntN s i))) 7 17))))
  refine (show ev 236 190 [some (.inr (.inr (30, 0))), some (.inl (nI 0)), none] [] (wL s 30 0 36 _) = _ from l5).trans ?_
  rw [q_236_at190, if_neg (show ¬ nI 4 < (4 : Int32) from irr (nI 4))]
  rfl
theorem J_36 {s : SS} (h : J s) (v : Int64) : J (wL s 30 0 36 v) := J_ag (s := s) (Ag_wL (by decide)) rfl rfl rfl (JR_ag (Ag_wL (by decide)) h.1) (JT_ag (Ag_wL (by decide)) h.2.1) (JF_ag (s := s) (Ag_wL (by decide)) rfl rfl rfl rfl rfl rfl rfl rfl h.2.2.1) h
theorem pub_digest {s : SS} (h : J s) : PL 99 236 [some (.inr (.inr (0, 0))), none, none, none] [some (.inr (.inr (30, 0))), none, none] s := ⟨dig s, s, _, c_99 h, c_236 h, J_36 h _, fun _ _ => rfl, fun _ _ => rfl⟩
