theorem c_85a {s : SS} (h : J s) {m p y : Nat} (hy : y < nW s) (hm1 : 1 ≤ m) (hm : m < 256) (hn : popN m ≤ 3) (hp : p ≤ 2) (X : RE) (hX : (if thB s m = true then (if sfB s m = true then cV (ev 126 0 [some (.inr (.inr (0, 0))), some (.inl 0)] [] s) (fun s4 => cI (ev 50 0 [some (.inr (.inr (11, 0)))] [] s4) (fun x5 s5 => (if x5 = 0 then cI (ev 51 0 [some (.inr (.inr (11, 0))), some (.inl (nI y))] [] s5) (fun x6 s6 => (if x6 = 0 then cI (ev 133 0 [some (.inr (.inr (0, 0))), some (.inl (nI y)), some (.inl (nI m)), some (.inl (nI p)), none, none, none, none, none, none, none, none] [] s6) (fun x7 s7 => cV (ev 135 0 [some (.inr (.inr (0, 0))), some (.inl (nI m)), some (.inl x7), none, none] [] s7) (fun s8 => ev 85 111 [some (.inr (.inr (0, 0))), some (.inl (nI y)), none, none, none, some (.inl x7)] [] s8)) else some (some (.inl (-4)), s6))) else cI (ev 100 0 [some (.inr (.inr (0, 0))), some (.inl 4)] [] s5) (fun x9 s9 => some (some (.inl x9), s9))))) else some (some (.inl (-3)), fC s 3)) else some (some (.inl (-3)), fC s 1)) = X) : ev 85 0 [some (.inr (.inr (0, 0))), some (.inl (nI y)), some (.inl (nI m)), some (.inl (nI p)), none, none] [] s = X := by
  have hS := h.2.2.2.1
  have hW := nW_le hS
  have n1 : ¬ nI m < (1 : Int32) := fun z => by
    have := (n_lt (a := m) (b := 1) (by omega) (by decide)).mp z
    omega
  have n2 : ¬ (255 : Int32) < nI m := fun z => by
    have := (n_lt (a := 255) (b := m) (by decide) (by omega)).mp z
    omega
  have n3 : ¬ (3 : Int32) < nI (popN m) := fun z => by
    have := (n_lt (a := 3) (b := popN m) (by decide) (by omega)).mp z
    omega
  have n4 : ¬ (2 : Int32) < nI p := fun z => by
    have := (n_lt (a := 2) (b := p) (by decide) (by omega)).mp z
    omega
  rw [q_85, c_125 hS, ixB_nI hy (by omega), cI_s, ite_bI, if_pos rfl, if_neg n1, if_neg n2, c_1 hm, cI_s, if_neg n3, if_neg (nI_pos (by omega)), if_neg n4, c_132 h.2.2.2.2.1 hm, cI_s]
  by_cases ht : thB s m = true
  · rw [if_pos ht] at hX
    rw [if_pos ht]
    by_cases hsf : sfB s m = true
    · rw [if_pos hsf] at hX
      rw [if_pos hsf, if_pos rfl]
      exact hX
    · rw [if_neg hsf] at hX
      rw [if_neg hsf, if_neg (by decide), c_100_3, cI_s]
      exact hX
  · rw [if_neg ht] at hX
    rw [if_neg ht, if_neg (by decide), c_100_1, cI_s]
    exact hX
theorem learn_ok {s : SS} (h : J s) {m p y : Nat} (hy : y < nW s) (hm1 : 1 ≤ m) (hm : m < 256) (hn : popN m ≤ 3) (hp : p ≤ 2) : PI 85 218 [some (.inr (.inr (0, 0))), some (.inl (nI y)), some (.inl (nI m)), some (.inl (nI p)), none, none] [some (.inr (.inr (30, 0))), some (.inl (nI y)), some (.inl (nI m)), some (.inl (nI p)), none, none, none, none, none, none, none, none, none, none, none, none, none, none, none, none] s := by
  have hS := h.2.2.2.1
  have hL := h.2.2.2.2.1
  have hW := nW_le hS
  by_cases ht : thB s m = true
  · by_cases hsf : sfB s m = true
    · obtain ⟨u, e1, sv⟩ := sv0 h
      have e50 := c_50 hS hL sv.2.2.2.2.2.1
      by_cases hs : (bst s (aA 0) (nW s)).isSome = true
      · rw [hs] at e50
        have e51 := c_51 hS hL hy (sv.2.2.2.2.1 y hy)
        by_cases hb : hbB s (aA 0) y = true
        · rw [hb] at e51
          obtain ⟨v, rs, -, er⟩ := c_218a (u1 := u) h (UR_q sv.1 TK_rf) sv.2.1.2.2.2.1 hy hm1 hm hn hp
          rw [if_pos ht, if_pos hsf, if_pos hs, if_pos hb] at er
          refine PS (-4) (c_85a h hy hm1 hm hn hp _ ?_) er sv.2.1 rs (QF_60 sv.1) (QF_60 sv.1)
          rw [if_pos ht, if_pos hsf, e1, cV_s, e50, cI_s, if_pos (by rfl), e51, cI_s, if_neg (by decide)]
        · have hb' := hb_f hb
          rw [hb'] at e51
          obtain ⟨u2, ci2, e133⟩ := c_133 h hm hn hp ht hy hb' (CI_0 sv.1 sv.2.1)
          have hp4 : 0 < 4 ^ popN m := Nat.pow_pos (by decide)
          have hk := kb_lt s m p y (4 ^ popN m) hp4
          generalize hK : kb s m p y (4 ^ popN m) = K at *
          have h64 := pw_64 hn
          obtain ⟨t, e135, cit, cwt⟩ := c_135i ci2 hm (show K < 64 by omega)
          obtain ⟨u3, e126, ci3, cw3, cw, -⟩ := c_126i h ht cit cwt
          have alb1 : 1048576 ≤ alE s m K := all_ge (by rw [(lay_brk s m K).2.2]; exact hy) (by rw [lay_hb]; exact hb')
          have alb2 : alE s m K ≤ 1073741824 := all_le (JS_lay hS m K)
          have shb : shE (pwE s m y K) ≤ 1048576 := shE_le (fun x hx => pw_le hx)
          have ha := aL_n (a := shE (pwE s m y K)) (by omega)
          have h21 : u3.2.1 21 0 y = lN (shE (pwE s m y K)) := by
            rw [cw.2.2.1 y (by rw [(lay_brk s m K).2.2]; exact hy), sh_pw]
            rfl
          have h9 : u3.2.1 11 0 9 = lN (alE s m K) := cw.2.2.2.1
          have fig : nI (100 * (K / 16 % 4) + 10 * (K / 4 % 4) + K % 4) = nI (fgF m K 8) := by rw [fg_8 hn hk]
          have cls : ev 85 0 [some (.inr (.inr (0, 0))), some (.inl (nI y)), some (.inl (nI m)), some (.inl (nI p)), none, none] [] s = some (some (.inl (nI (fgF m K 8))), tlC u3 (lN (shE (pwE s m y K)) / lN (Nat.gcd (shE (pwE s m y K)) (alE s m K))) (lN (alE s m K) / lN (Nat.gcd (shE (pwE s m y K)) (alE s m K)))) := by
            refine c_85a h hy hm1 hm hn hp _ ?_
            rw [if_pos ht, if_pos hsf, e1, cV_s, e50, cI_s, if_pos (by rfl), e51, cI_s, if_pos (by rfl), e133, cI_s, e135, cV_s, q_85_at111, e126, cV_s, q_55, if_pos (ixB_nI (show y < 1024 by omega) (by decide)), cl_nI (by omega), h21, cL_s, h9, c_104 ha (by omega) (by omega), cV_s, q_137, n137 K (by omega), fig, cI_s]
            rfl
          have tk := TK_tl (s := u3) (x := lN (shE (pwE s m y K)) / lN (Nat.gcd (shE (pwE s m y K)) (alE s m K))) (y := lN (alE s m K) / lN (Nat.gcd (shE (pwE s m y K)) (alE s m K)))
          have ur := UR_c ci3 tk
          have js1 := TK_JS tk (JS_rp ci3.1.2.2.2.1)
          obtain ⟨v, rs, rj, er⟩ := c_218a h ur js1 hy hm1 hm hn hp
          rw [if_pos ht, if_pos hsf, if_pos hs, if_neg hb] at er
          obtain ⟨v2, rj2, e2⟩ := c_218l h hm hn hp ht hy hb' ur rj
          rw [hK] at e2
          rw [e2, c_372 (t := layT m K 8 v2) (c := K) hm (fun k hk hb => by rw [lay_1, if_pos ⟨rfl, rfl, hk, hb⟩]), c_149 ha (by omega) (by omega), cI_s] at er
          refine PS (nI (fgF m K 8)) cls er (J_tl ci3.1 _ _) (RS_tl ?_ _ _) (fun b c => ?_) (fun b c => ?_)
          · obtain ⟨f1, f2, f3, f4, f5⟩ := rj2
            refine ⟨fun a b x x1 x2 x3 x4 => ?_, ?_, fun a b x x1 x2 => ?_⟩
            · by_cases e : a = 43
              · subst e
                show _ = (rp u3).1 43 b x
                rw [rp_lay h ht ci3 cw3, lay_1, lay_1]
                by_cases z : (43 : Nat) = 43 ∧ b = 0 ∧ x < 8 ∧ m.testBit x = true
                · rw [if_pos z, if_pos z]
                · rw [if_neg z, if_neg z]
                  exact f4 b x (fun w => z ⟨rfl, w⟩)
              · show _ = (rp u3).1 a b x
                rw [lay_n43 e, rp_1 e]
                exact f1 a b x e x1 x2 x3 x4
            · rw [lay_2]
              exact f2
            · rw [lay_2]
              exact f3 a b x x1 x2
          · exact ci3.2.1 60 b c (by decide) (by decide) (by decide) (by decide) (fun z => absurd z (by decide)) (fun z => absurd z (by decide))
          · show (rp u3).1 60 b c = _
            rw [rp_1 (by decide)]
            exact ci3.2.1 60 b c (by decide) (by decide) (by decide) (by decide) (fun z => absurd z (by decide)) (fun z => absurd z (by decide))
      · have hs' := hb_f hs
        rw [hs'] at e50
        have tk := TK_f (s := u) (f := 4)
        obtain ⟨v, rs, -, er⟩ := c_218a h (UR_q sv.1 tk) (TK_JS tk sv.2.1.2.2.2.1) hy hm1 hm hn hp
        rw [if_pos ht, if_pos hsf, if_neg hs] at er
        refine PS (-3) (u1 := fC u 4) (c_85a h hy hm1 hm hn hp _ ?_) er (J_f sv.2.1 (f := 4) (by decide)) (RS_fR rs 4) (fun b c => QF_60 sv.1 b c) (fun b c => QF_60 sv.1 b c)
        rw [if_pos ht, if_pos hsf, e1, cV_s, e50, cI_s, if_neg (by decide), c_100_4, cI_s]
    · have tk := TK_f (s := s) (f := 3)
      obtain ⟨v, rs, -, er⟩ := c_218a h (UR_q QF_rf tk) (TK_JS tk hS) hy hm1 hm hn hp
      rw [if_pos ht, if_neg hsf] at er
      refine PS (-3) (u1 := fC s 3) (c_85a h hy hm1 hm hn hp _ ?_) er (J_f h (f := 3) (by decide)) (RS_fR (RS_bit _) 3) (fun _ _ => rfl) (fun _ _ => rfl)
      rw [if_pos ht, if_neg hsf]
  · have tk := TK_f (s := s) (f := 1)
    obtain ⟨v, rs, -, er⟩ := c_218a h (UR_q QF_rf tk) (TK_JS tk hS) hy hm1 hm hn hp
    rw [if_neg ht] at er
    refine PS (-3) (u1 := fC s 1) (c_85a h hy hm1 hm hn hp _ ?_) er (J_f h (f := 1) (by decide)) (RS_fR (RS_bit _) 1) (fun _ _ => rfl) (fun _ _ => rfl)
    rw [if_neg ht]
theorem pub_learn {s : SS} (h : J s) (p0 p1 p2 : Int32) : PI 85 218 [some (.inr (.inr (0, 0))), some (.inl p0), some (.inl p1), some (.inl p2), none, none] [some (.inr (.inr (30, 0))), some (.inl p0), some (.inl p1), some (.inl p2), none, none, none, none, none, none, none, none, none, none, none, none, none, none, none, none] s := by
  have hS := h.2.2.2.1
  have hW := nW_le hS
  have bad : ev 85 0 [some (.inr (.inr (0, 0))), some (.inl p0), some (.inl p1), some (.inl p2), none, none] [] s = some (some (.inl (-1)), s) → ev 218 0 [some (.inr (.inr (30, 0))), some (.inl p0), some (.inl p1), some (.inl p2), none, none, none, none, none, none, none, none, none, none, none, none, none, none, none, none] [] s = some (some (.inl (-1)), bitS s) → PI 85 218 [some (.inr (.inr (0, 0))), some (.inl p0), some (.inl p1), some (.inl p2), none, none] [some (.inr (.inr (30, 0))), some (.inl p0), some (.inl p1), some (.inl p2), none, none, none, none, none, none, none, none, none, none, none, none, none, none, none, none] s := fun h1 h2 => PS (-1) h1 h2 h (RS_bit s) (fun _ _ => rfl) (fun _ _ => rfl)
  by_cases h0 : ixB p0 (nW s) = true
  · obtain ⟨y, hy, rfl⟩ := (ixB_iff (by omega)).mp h0
    by_cases a1 : p1 < 1
    · refine bad ?_ ?_
      · rw [q_85, c_125 hS, h0, cI_s, ite_bI, if_pos rfl, if_pos a1]
      · rw [q_218, c_205 hS, h0, cI_s, ite_bI, if_pos rfl, c_144, decide_eq_true a1, cI_s, ite_bI, if_neg (by simp)]
    by_cases a2 : (255 : Int32) < p1
    · refine bad ?_ ?_
      · rw [q_85, c_125 hS, h0, cI_s, ite_bI, if_pos rfl, if_neg a1, if_pos a2]
      · rw [q_218, c_205 hS, h0, cI_s, ite_bI, if_pos rfl, c_144, decide_eq_true a2, cI_s, ite_bI, if_neg (by simp)]
    have hm1 : ¬ p1 < 0 := fun z => a1 (by
      rw [lt_iff] at z ⊢
      have : (0 : Int32).toInt = 0 := rfl
      have : (1 : Int32).toInt = 1 := rfl
      omega)
    obtain ⟨m, hm, rfl, -⟩ := ge0_n hm1
    have b1 : 1 ≤ m := by
      apply Classical.byContradiction
      intro z
      exact a1 (nI_lt (b := 1) (by omega) (by decide))
    have b2 : m < 256 := by
      apply Classical.byContradiction
      intro z
      exact a2 (nI_lt (a := 255) (by omega) hm)
    have hp8 := pop_le m
    by_cases a3 : 3 < popN m
    · have n3 : (3 : Int32) < nI (popN m) := nI_lt (a := 3) a3 (by omega)
      refine bad ?_ ?_
      · rw [q_85, c_125 hS, h0, cI_s, ite_bI, if_pos rfl, if_neg a1, if_neg a2, c_1 b2, cI_s, if_pos n3]
      · rw [q_218, c_205 hS, h0, cI_s, ite_bI, if_pos rfl, c_144, decide_eq_false a1, decide_eq_false a2, cI_s, ite_bI, if_pos (show (!false && !false) = true from rfl), c_148 b2, cI_s, if_pos n3]
    have n3 : ¬ (3 : Int32) < nI (popN m) := fun z => a3 ((n_lt (a := 3) (b := popN m) (by decide) (by omega)).mp z)
    by_cases a4 : p2 < 0
    · refine bad ?_ ?_
      · rw [q_85, c_125 hS, h0, cI_s, ite_bI, if_pos rfl, if_neg a1, if_neg a2, c_1 b2, cI_s, if_neg n3, if_pos a4]
      · rw [q_218, c_205 hS, h0, cI_s, ite_bI, if_pos rfl, c_144, decide_eq_false a1, decide_eq_false a2, cI_s, ite_bI, if_pos (show (!false && !false) = true from rfl), c_148 b2, cI_s, if_neg n3, c_144, decide_eq_true a4, cI_s, ite_bI, if_neg (by simp)]
    by_cases a5 : (2 : Int32) < p2
    · refine bad ?_ ?_
      · rw [q_85, c_125 hS, h0, cI_s, ite_bI, if_pos rfl, if_neg a1, if_neg a2, c_1 b2, cI_s, if_neg n3, if_neg a4, if_pos a5]
      · rw [q_218, c_205 hS, h0, cI_s, ite_bI, if_pos rfl, c_144, decide_eq_false a1, decide_eq_false a2, cI_s, ite_bI, if_pos (show (!false && !false) = true from rfl), c_148 b2, cI_s, if_neg n3, c_144, decide_eq_true a5, cI_s, ite_bI, if_neg (by simp)]
    obtain ⟨p, hp, rfl, -⟩ := ge0_n a4
    have b3 : p ≤ 2 := by
      apply Classical.byContradiction
      intro z
      exact a5 (nI_lt (a := 2) (by omega) hp)
    exact learn_ok h hy b1 b2 (by omega) b3
  · refine bad ?_ ?_
    · rw [q_85, c_125 hS, ix_no h0, cI_s, ite_bI, if_neg (by decide)]
    · rw [q_218, c_205 hS, ix_no h0, cI_s, ite_bI, if_neg (by decide)]
