/-! cost, broken -/
theorem c_125 {s : SS} (hS : JS s) (p : Int32) : ev 125 0 [some (.inr (.inr (0, 0))), some (.inl p)] [] s = some (some (.inl (bI (ixB p (nW s)))), s) := by
  have hW := nW_le hS
  rw [q_125, c_113_3 hS, cI_s, shl1 _ (by have : nS s ≤ 10 := hS.2.2; omega)]
  have e := rg_ix (α := RE) p (nW s) (by omega) (some (some (.inl 0), s)) (some (some (.inl 1), s))
  refine Eq.trans (show _ = (if p < 0 then some (some (.inl 0), s) else if p < nI (nW s) then some (some (.inl 1), s) else some (some (.inl 0), s)) from rfl) (e.trans ?_)
  cases ixB p (nW s) <;> rfl
theorem c_205 {s : SS} (hS : JS s) (p : Int32) : ev 205 0 [some (.inr (.inr (30, 0))), some (.inl p)] [] s = some (some (.inl (bI (ixB p (nW s)))), bitS s) := by
  have hW := nW_le hS
  have h0 := nW_pos s
  have e28 : (bitS s).1 30 0 28 = nI (nW s) := by
    unfold bitS
    rw [wI_same]
  rw [q_205, c_194 hS, cV_s, e28, show nI (nW s) - 1 = nI (nW s - 1) from n_sub (b := 1) h0, c_144, cI_s, bI_Z, cond_true]
  have : (!(decide (p < 0)) && !(decide (nI (nW s - 1) < p))) = ixB p (nW s) := by
    by_cases hp : ixB p (nW s) = true
    · obtain ⟨v, hv, rfl⟩ := (ixB_iff (by omega)).mp hp
      rw [hp, decide_eq_false (nI_pos (by omega)), decide_eq_false (by rw [n_lt (by omega) (by omega)]; omega)]
      rfl
    · rw [ix_no hp]
      rcases ixB_no (by omega) hp with h | h
      · rw [decide_eq_true h]
        rfl
      · have : nI (nW s - 1) < p := by
          rw [lt_iff, ti_nI (by omega)]
          rw [le_iff, ti_nI (by omega)] at h
          omega
        rw [decide_eq_true this]
        simp
  rw [this]
def hdN (s : SS) (v : Nat) : Nat := sm (fun k => if hardB (s.1 42 0 k) = true then brk s k v else 0) 8
theorem SP_hd {s t : SS} (h : SP s t) : hdN t = hdN s := by
  funext v
  unfold hdN
  rw [(SP_brk h).1]
  simp only [(h.1.1 42 (by decide)).1]
theorem c_48 {s : SS} (hS : JS s) (hL : JL s) {v : Nat} (hv : v < nW s) (h9 : s.2.1 19 0 v = lN (bkN s v)) : ev 48 0 [some (.inr (.inr (11, 0))), some (.inl (nI v)), some (.inr (.inr (10, 0))), none, none] [] s = some (some (.inl (nI (hdN s v))), s) := by
  have h := lpN (P := fun i => ev 48 5 [some (.inr (.inr (11, 0))), some (.inl (nI v)), some (.inr (.inr (10, 0))), some (.inl (nI (sm (fun k => if hardB (s.1 42 0 k) = true then brk s k v else 0) i))), some (.inl (nI i))] [] s) 8 (fun i hi => by
    show ev 48 5 [some (.inr (.inr (11, 0))), some (.inl (nI v)), some (.inr (.inr (10, 0))), some (.inl (nI (sm (fun k => if hardB (s.1 42 0 k) = true then brk s k v else 0) i))), some (.inl (nI i))] [] s = ev 48 5 [some (.inr (.inr (11, 0))), some (.inl (nI v)), some (.inr (.inr (10, 0))), some (.inl (nI (sm (fun k => if hardB (s.1 42 0 k) = true then brk s k v else 0) i + (if hardB (s.1 42 0 i) = true then brk s i v else 0)))), some (.inl (nI (i + 1)))] [] s
    have x8 : ixB (nI i) 8 = true := ixB_nI hi (by decide)
    rcases LJ_h (hL.2.2 i hi) with ⟨a1, a2⟩ | ⟨a1, kd, np, w, f, h⟩
    · rw [q_48_at5, if_pos (show nI i < (8 : Int32) from nI_lt hi (by decide)), if_pos x8, cl_nI (by omega), a1, if_pos rfl, nI_s, a2]
      rfl
    · rw [q_48_at5, if_pos (show nI i < (8 : Int32) from nI_lt hi (by decide)), if_pos x8, cl_nI (by omega), a1, if_neg (by decide), if_pos x8, h.2.2.2.2.2.1, c_117, cI_s, ite_bI, nI_s, h.2.2.2.2.2.2.1, c_49 hS hi hv h9, cI_s, n_add]
      cases hardB (nI kd) <;> rfl)
  rw [q_48]
  refine (show ev 48 5 [some (.inr (.inr (11, 0))), some (.inl (nI v)), some (.inr (.inr (10, 0))), some (.inl (nI 0)), some (.inl (nI 0))] [] s = _ from h).trans ?_
  rw [q_48_at5, if_neg (show ¬ nI 8 < (8 : Int32) from irr (nI 8))]
  rfl
theorem c_206l {s : SS} (hS : JS s) (hL : JL s) (hb : BT s) {v : Nat} (hv : v < 1024) : ev 206 17 [some (.inr (.inr (30, 0))), some (.inl (nI v)), some (.inl 0), some (.inl 0), some (.inl 0), none] [] s = some (some (.inl (nI (scN s (aA 0) v))), wI s 30 0 2 (nI (hdN s v))) := by
  have h := lpN (P := fun i => ev 206 17 [some (.inr (.inr (30, 0))), some (.inl (nI v)), some (.inl (nI (sm (fun k => if (aA 0 k && softB (s.1 42 0 k)) = true then wtN s k * brk s k v else 0) i))), some (.inl (nI (sm (fun k => if hardB (s.1 42 0 k) = true then brk s k v else 0) i))), some (.inl (nI i)), none] [] s) 8 (fun i hi => by
    show ev 206 17 [some (.inr (.inr (30, 0))), some (.inl (nI v)), some (.inl (nI (sm (fun k => if (aA 0 k && softB (s.1 42 0 k)) = true then wtN s k * brk s k v else 0) i))), some (.inl (nI (sm (fun k => if hardB (s.1 42 0 k) = true then brk s k v else 0) i))), some (.inl (nI i)), none] [] s = ev 206 17 [some (.inr (.inr (30, 0))), some (.inl (nI v)), some (.inl (nI (sm (fun k => if (aA 0 k && softB (s.1 42 0 k)) = true then wtN s k * brk s k v else 0) i + (if (aA 0 i && softB (s.1 42 0 i)) = true then wtN s i * brk s i v else 0)))), some (.inl (nI (sm (fun k => if hardB (s.1 42 0 k) = true then brk s k v else 0) i + (if hardB (s.1 42 0 i) = true then brk s i v else 0)))), some (.inl (nI (i + 1))), none] [] s
    have x8 : ixB (nI i) 8 = true := ixB_nI hi (by decide)
    have eA : aA 0 i = true := by
      unfold aA
      rw [Nat.zero_testBit]
      rfl
    have st61 : ∀ (p q r : Nat), ev 206 61 [some (.inr (.inr (30, 0))), some (.inl (nI v)), none, some (.inl (nI q)), some (.inl (nI i)), some (.inl (nI (brk s i v)))] [(.inl (nI r)), (.inl (nI p))] s = ev 206 17 [some (.inr (.inr (30, 0))), some (.inl (nI v)), some (.inl (nI (p + r))), some (.inl (nI (q + (if hardB (s.1 42 0 i) = true then brk s i v else 0)))), some (.inl (nI (i + 1))), none] [] s := by
      intro p q r
      rw [q_206_at61, if_pos x8, cl_nI (by omega), c_182, cI_s, ite_bI, n_add, n_add, nI_z, nI_s]
      cases hardB (s.1 42 0 i) <;> rfl
    rw [q_206_at17, if_pos (show nI i < (8 : Int32) from nI_lt hi (by decide)), c_197 hS hL hb hi (by omega), cI_s, if_pos x8, cl_nI (by omega), c_181, cI_s, ite_bI, if_pos x8, eA, Bool.true_and]
    cases hs : softB (s.1 42 0 i) with
    | false =>
      exact st61 _ _ 0
    | true =>
      rw [if_pos rfl, (wt_le hL hi hs).2.1, n_mul]
      exact st61 _ _ _)
  refine (show ev 206 17 [some (.inr (.inr (30, 0))), some (.inl (nI v)), some (.inl (nI 0)), some (.inl (nI 0)), some (.inl (nI 0)), none] [] s = _ from h).trans ?_
  rw [q_206_at17, if_neg (show ¬ nI 8 < (8 : Int32) from irr (nI 8)), q_146, cI_s]
  rfl
theorem pub_cost {s : SS} (h : J s) (p : Int32) : PI 76 206 [some (.inr (.inr (0, 0))), some (.inl p)] [some (.inr (.inr (30, 0))), some (.inl p), none, none, none, none] s := by
  have hS := h.2.2.2.1
  have hL := h.2.2.2.2.1
  have hW := nW_le hS
  by_cases hp : ixB p (nW s) = true
  · obtain ⟨v, hv, rfl⟩ := (ixB_iff (by omega)).mp hp
    obtain ⟨u, e1, sv⟩ := sv0 h
    have sp := QF_SP sv.1
    have hvu : v < nW u := by rw [(SP_brk sp).2.2]; exact hv
    have tk : TK u (wI u 0 0 9 (nI (hdN s v))) := TK_9
    have sp1 := SP_tr sp (TK_SP tk)
    have e48 : ev 48 0 [some (.inr (.inr (11, 0))), some (.inl (nI v)), some (.inr (.inr (10, 0))), none, none] [] u = some (some (.inl (nI (hdN s v))), u) := by
      rw [c_48 sv.2.1.2.2.2.1 sv.2.1.2.2.2.2.1 hvu (sv.2.2.1.2.2 v hvu), SP_hd sp]
    have e47 : ev 47 0 [some (.inr (.inr (11, 0))), some (.inl (nI v)), none, none] [] (wI u 0 0 9 (nI (hdN s v))) = some (some (.inl (nI (scN s (aA 0) v))), wI u 0 0 9 (nI (hdN s v))) := by
      have hb : bkN (wI u 0 0 9 (nI (hdN s v))) = bkN u := (SP_bk (TK_SP tk)).1
      rw [c_47 (s := wI u 0 0 9 (nI (hdN s v))) (A := aA 0) (v := v) (TK_JS tk sv.2.1.2.2.2.1) (TK_JL tk sv.2.1.2.2.2.2.1) (by rw [(SP_brk sp1).2.2]; exact hv) (by rw [hb]; exact sv.2.2.1.2.2 v hvu) (fun k hk => ?_), SP_sc sp1]
      rw [show (wI u 0 0 9 (nI (hdN s v))).1 22 0 k = u.1 22 0 k from rfl, sv.2.2.2.2.2.2.2.2 k hk]
      unfold wA22
      rw [SP_wt sp1, (sp1.1.1 42 (by decide)).1]
    have rs := RS_bit (wI u 0 0 9 (nI (hdN s v)))
    have sp2 := SP_tr sp1 (RS_SP rs)
    have l := c_206l (RS_JS rs (TK_JS tk sv.2.1.2.2.2.1)) (RS_JL rs (TK_JL tk sv.2.1.2.2.2.2.1)) (BT_S _) (v := v) (by omega)
    rw [SP_sc sp2, SP_hd sp2] at l
    have e205 := c_205 (TK_JS tk sv.2.1.2.2.2.1) (nI v)
    rw [(SP_brk sp1).2.2, hp] at e205
    refine PS (nI (scN s (aA 0) v)) (u1 := wI u 0 0 9 (nI (hdN s v))) (v := wI (bitS (wI u 0 0 9 (nI (hdN s v)))) 30 0 2 (nI (hdN s v))) ?_ ?_ (J_ask sv.2.1 (nI (hdN s v))) (RS_wI rs _ _ _ _) (fun b c => QF_60 sv.1 b c) (fun b c => QF_60 sv.1 b c)
    · rw [q_76, c_125 hS, hp, cI_s, ite_bI, if_pos rfl, e1, cV_s, e48, cI_s, e47, cI_s]
    · rw [q_206, e205, cI_s, ite_bI, if_pos rfl, l]
  · refine PS (-1) (u1 := s) (w := s) (v := bitS s) ?_ ?_ h (RS_bit s) (fun _ _ => rfl) (fun _ _ => rfl)
    · rw [q_76, c_125 hS, ix_no hp, cI_s, ite_bI, if_neg (by decide)]
    · rw [q_206, c_205 hS, ix_no hp, cI_s, ite_bI, if_neg (by decide)]
theorem pub_broken {s : SS} (h : J s) (l p : Int32) : PI 77 207 [some (.inr (.inr (0, 0))), some (.inl l), some (.inl p)] [some (.inr (.inr (30, 0))), some (.inl l), some (.inl p)] s := by
  have hS := h.2.2.2.1
  have hL := h.2.2.2.2.1
  have hW := nW_le hS
  by_cases hl : ixB l 8 = true
  · by_cases hp : ixB p (nW s) = true
    · obtain ⟨k, hk, rfl⟩ := (ixB_iff (by decide)).mp hl
      obtain ⟨v, hv, rfl⟩ := (ixB_iff (by omega)).mp hp
      rcases LJ_h (hL.2.2 k hk) with ⟨a1, a2⟩ | ⟨a1, kd, np, w, f, g⟩
      · have e205 := c_205 (TK_JS (TK_f (s := s) (f := 1)) hS) (nI v)
        rw [(SP_brk (TK_SP (TK_f (s := s) (f := 1)))).2.2, hp] at e205
        refine PS (-3) (u1 := fC s 1) (v := fR (bitS (fC s 1)) 1) ?_ ?_ (J_f h (f := 1) (by decide)) (RS_fR (RS_bit _) 1) (fun _ _ => rfl) (fun _ _ => rfl)
        · rw [q_77, c_114, hl, cI_s, ite_bI, if_pos rfl, c_125 hS, hp, cI_s, ite_bI, if_pos rfl, if_pos rfl, cl_nI (by omega), a1, if_pos rfl, c_100_1, cI_s]
        · have e42 : (bitS (fC s 1)).1 42 0 k = -9 := (bitS_o _ (by decide) (fun z => absurd z (by decide))).trans a2
          rw [q_207, c_179, hl, cI_s, ite_bI, if_pos rfl, e205, cI_s, ite_bI, if_pos rfl, if_pos rfl, cl_nI (by omega), e42, if_pos (by decide), c_145_1, cI_s]
      · obtain ⟨u, e1, sv⟩ := sv0 h
        have sp := QF_SP sv.1
        have hvu : v < nW u := by rw [(SP_brk sp).2.2]; exact hv
        have rs := RS_bit u
        have sp2 := SP_tr sp (RS_SP rs)
        have e205 := c_205 sv.2.1.2.2.2.1 (nI v)
        rw [(SP_brk sp).2.2, hp] at e205
        refine PS (nI (brk s k v)) (u1 := u) (w := u) (v := bitS u) ?_ ?_ sv.2.1 rs (QF_60 sv.1) (QF_60 sv.1)
        · rw [q_77, c_114, hl, cI_s, ite_bI, if_pos rfl, c_125 hS, hp, cI_s, ite_bI, if_pos rfl, if_pos rfl, cl_nI (by omega), a1, if_neg (by decide), e1, cV_s, c_49 sv.2.1.2.2.2.1 hk hvu (sv.2.2.1.2.2 v hvu), cI_s, (SP_brk sp).1]
        · have e42 : (bitS u).1 42 0 k = nI kd := by
            rw [(sp2.1.1 42 (by decide)).1]
            exact g.2.2.2.2.2.2.1
          have hkd := g.1
          rw [q_207, c_179, hl, cI_s, ite_bI, if_pos rfl, e205, cI_s, ite_bI, if_pos rfl, if_pos rfl, cl_nI (by omega), e42, if_neg (nI_pos (by omega)), c_197 (RS_JS rs sv.2.1.2.2.2.1) (RS_JL rs sv.2.1.2.2.2.2.1) (BT_S _) hk (by omega), cI_s, (SP_brk sp2).1]
    · refine PS (-1) (u1 := s) (w := s) (v := bitS s) ?_ ?_ h (RS_bit s) (fun _ _ => rfl) (fun _ _ => rfl)
      · rw [q_77, c_114, hl, cI_s, ite_bI, if_pos rfl, c_125 hS, ix_no hp, cI_s, ite_bI, if_neg (by decide)]
      · rw [q_207, c_179, hl, cI_s, ite_bI, if_pos rfl, c_205 hS, ix_no hp, cI_s, ite_bI, if_neg (by decide)]
  · refine PI_0 h (-1) ?_ ?_
    · rw [q_77, c_114, ix_no hl, cI_s, ite_bI, if_neg (by decide)]
    · rw [q_207, c_179, ix_no hl, cI_s, ite_bI, if_neg (by decide)]
