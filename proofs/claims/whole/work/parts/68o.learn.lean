/-! learn -/
def sfB (s : SS) (m : Nat) : Bool := !anyB (fun k => m.testBit k && !softB (s.1 42 0 k)) 8
theorem c_132 {s : SS} (hL : JL s) {m : Nat} (hm : m < 256) : ev 132 0 [some (.inr (.inr (0, 0))), some (.inl (nI m)), none] [] s = some (some (.inl ((if thB s m = true then (if sfB s m = true then 0 else 3) else 1))), s) := by
  rw [q_132, c_124 hL hm, cI_s, ite_bI]
  by_cases ht : thB s m = true
  · rw [if_pos ht, if_pos ht]
    have h := lpE (P := fun i => ev 132 12 [some (.inr (.inr (0, 0))), some (.inl (nI m)), some (.inl (nI i))] [] s) (c := fun k => m.testBit k && !softB (s.1 42 0 k)) (out := fun _ => some (some (.inl 3), s)) 8 (fun i hi => by
      show ev 132 12 [some (.inr (.inr (0, 0))), some (.inl (nI m)), some (.inl (nI i))] [] s = if (m.testBit i && !softB (s.1 42 0 i)) = true then some (some (.inl 3), s) else ev 132 12 [some (.inr (.inr (0, 0))), some (.inl (nI m)), some (.inl (nI (i + 1)))] [] s
      have x8 : ixB (nI i) 8 = true := ixB_nI hi (by decide)
      have z := bit_0 (show m < 2147483648 by omega) (show i < 32 by omega)
      rw [q_132_at12, if_pos (show nI i < (8 : Int32) from nI_lt hi (by decide)), if_pos x8, cl_nI (by omega), nI_s, c_118, cI_s, ite_bI]
      simp only [z]
      cases hb : m.testBit i with
      | false => rfl
      | true =>
        have hp := th_pr hL ht hi hb
        rcases LJ_h (hL.2.2 i hi) with ⟨a1, a2⟩ | ⟨a1, kd, np, w, f, g⟩
        · rw [a1] at hp
          exact absurd hp (by decide)
        · rw [g.2.2.2.2.2.1, g.2.2.2.2.2.2.1]
          cases softB (nI kd) <;> rfl)
    unfold sfB
    rcases h with ⟨i, hi, hc, -, e⟩ | ⟨hc, e⟩
    · rw [anyB_t hi hc]
      exact e
    · rw [anyB_f hc]
      refine Eq.trans (show ev 132 12 [some (.inr (.inr (0, 0))), some (.inl (nI m)), some (.inl (nI 0))] [] s = _ from e) ?_
      rw [q_132_at12, if_neg (show ¬ nI 8 < (8 : Int32) from irr (nI 8))]
      rfl
  · rw [if_neg ht, if_neg ht]
def thF (s : SS) (m i : Nat) : Bool := !anyB (fun k => m.testBit k && !prB s k) i
def sfF (s : SS) (m i : Nat) : Bool := !anyB (fun k => m.testBit k && !softB (s.1 42 0 k)) i
theorem c_218f {s v : SS} {m : Nat} (hm : m < 256) (e42 : ∀ k, v.1 42 0 k = s.1 42 0 k) (y p : Int32) : ev 218 47 [some (.inr (.inr (30, 0))), some (.inl y), some (.inl (nI m)), some (.inl p), some (.inl 1), some (.inl 1), some (.inl 0), none, none, none, none, none, none, none, none, none, none, none, none, none] [] v = ev 218 47 [some (.inr (.inr (30, 0))), some (.inl y), some (.inl (nI m)), some (.inl p), some (.inl (bI (thB s m))), some (.inl (bI (sfB s m))), some (.inl (nI 8)), none, none, none, none, none, none, none, none, none, none, none, none, none] [] v := by
  have h := lpN (P := fun i => ev 218 47 [some (.inr (.inr (30, 0))), some (.inl y), some (.inl (nI m)), some (.inl p), some (.inl (bI (thF s m i))), some (.inl (bI (sfF s m i))), some (.inl (nI i)), none, none, none, none, none, none, none, none, none, none, none, none, none] [] v) 8 (fun i hi => by
    show ev 218 47 [some (.inr (.inr (30, 0))), some (.inl y), some (.inl (nI m)), some (.inl p), some (.inl (bI (thF s m i))), some (.inl (bI (sfF s m i))), some (.inl (nI i)), none, none, none, none, none, none, none, none, none, none, none, none, none] [] v = ev 218 47 [some (.inr (.inr (30, 0))), some (.inl y), some (.inl (nI m)), some (.inl p), some (.inl (bI (thF s m (i + 1)))), some (.inl (bI (sfF s m (i + 1)))), some (.inl (nI (i + 1))), none, none, none, none, none, none, none, none, none, none, none, none, none] [] v
    have x8 : ixB (nI i) 8 = true := ixB_nI hi (by decide)
    have t1 : thF s m (i + 1) = (thF s m i && !(m.testBit i && !prB s i)) := by
      unfold thF
      show (!(anyB _ i || _)) = _
      rw [Bool.not_or]
    have t2 : sfF s m (i + 1) = (sfF s m i && !(m.testBit i && !softB (s.1 42 0 i))) := by
      unfold sfF
      show (!(anyB _ i || _)) = _
      rw [Bool.not_or]
    have at83 : ∀ b : Bool, ev 218 83 [some (.inr (.inr (30, 0))), some (.inl y), some (.inl (nI m)), some (.inl p), none, some (.inl (bI (sfF s m i))), some (.inl (nI i)), none, none, none, none, none, none, none, none, none, none, none, none, none] [(.inl (bI b))] v = ev 218 47 [some (.inr (.inr (30, 0))), some (.inl y), some (.inl (nI m)), some (.inl p), some (.inl (bI b)), some (.inl (bI (sfF s m (i + 1)))), some (.inl (nI (i + 1))), none, none, none, none, none, none, none, none, none, none, none, none, none] [] v := by
      intro b
      rw [q_218_at83, ite_bI, c_147 (by omega) (by omega), cI_s, ite_bI, if_pos x8, cl_nI (by omega), e42, c_181, cI_s, ite_bI, nI_s, t2]
      cases sfF s m i <;> cases m.testBit i <;> cases softB (s.1 42 0 i) <;> rfl
    rw [q_218_at47, if_pos (show nI i < (8 : Int32) from nI_lt hi (by decide)), ite_bI, c_147 (by omega) (by omega), cI_s, ite_bI, if_pos x8, cl_nI (by omega), e42, t1]
    have hpr : prB s i = !decide (s.1 42 0 i < 0) := rfl
    cases hf : thF s m i with
    | false => exact at83 false
    | true =>
      rw [if_pos rfl]
      cases hb : m.testBit i with
      | false => exact at83 true
      | true =>
        rw [if_pos rfl]
        by_cases hz : s.1 42 0 i < 0
        · rw [if_pos hz, hpr, decide_eq_true hz]
          exact at83 false
        · rw [if_neg hz, hpr, decide_eq_false hz]
          exact at83 true)
  exact h
theorem c_218a {s u1 : SS} {m p y : Nat} (h : J s) (ur : UR s u1) (js1 : JS u1) (hy : y < nW s) (hm1 : 1 ≤ m) (hm : m < 256) (hn : popN m ≤ 3) (hp : p ≤ 2) : ∃ v, RS u1 v ∧ RJ s m u1 v ∧ ev 218 0 [some (.inr (.inr (30, 0))), some (.inl (nI y)), some (.inl (nI m)), some (.inl (nI p)), none, none, none, none, none, none, none, none, none, none, none, none, none, none, none, none] [] u1 = (if thB s m = true then (if sfB s m = true then (if (bst s (aA 0) (nW s)).isSome = true then (if hbB s (aA 0) y = true then some (some (.inl (-4)), v) else ev 218 194 [some (.inr (.inr (30, 0))), some (.inl (nI y)), some (.inl (nI m)), some (.inl (nI p)), none, none, some (.inl (nI (popN m))), some (.inl (-9)), some (.inl 0), some (.inr (.inl 0)), none, some (.inr (.inl 1)), none, some (.inl 0), none, none, none, none, none, none] [] v) else some (some (.inl (-3)), fR v 4)) else some (some (.inl (-3)), fR (bitS u1) 3)) else some (some (.inl (-3)), fR (bitS u1) 1)) := by
  have hS := h.2.2.2.1
  have hW := nW_le hS
  have rb := RS_bit u1
  have b1 : ∀ a b x, 30 ≤ a → a < 50 → (a = 30 → x ≤ 10) → (bitS u1).1 a b x = s.1 a b x := fun a b x h1 h2 h3 => (rb.1 a b x (by omega) (by omega) (by omega) h3).trans (ur.1 a b x h1 (by omega))
  have hJ : J (oR s (bitS u1)) := by
    refine J_scr h (fun a b x h1 h2 => ?_) (fun a b x h1 h2 => ?_) rfl
    · by_cases h30 : 30 ≤ a
      · rw [oR_1 h30 (by omega), b1 a b x h30 h1 h2]
      · rw [oR_g1 (by omega)]
    · by_cases h30 : 30 ≤ a
      · rw [oR_2 h30 (by omega), bitS_2, ur.2 a b x h30 (by omega)]
      · rw [oR_g2 (by omega)]
  obtain ⟨v', e, rs, tb', rw'⟩ := c_201 hJ.2.2.2.1 hJ.2.2.2.2.1
  have sp : SP s (oR s (bitS u1)) := by
    refine ⟨⟨fun a ha => ⟨fun b x => ?_, fun b x => ?_⟩, rfl⟩, ?_⟩
    · have : a = 37 ∨ a = 42 ∨ a = 43 ∨ a = 44 ∨ a = 45 ∨ a = 46 ∨ a = 47 ∨ a = 48 ∨ a = 49 := by simpa using ha
      rw [oR_1 (by omega) (by omega), b1 a b x (by omega) (by omega) (fun z => by omega)]
    · have : a = 37 ∨ a = 42 ∨ a = 43 ∨ a = 44 ∨ a = 45 ∨ a = 46 ∨ a = 47 ∨ a = 48 ∨ a = 49 := by simpa using ha
      rw [oR_2 (by omega) (by omega), bitS_2, ur.2 a b x (by omega) (by omega)]
    · rw [oR_1 (by decide) (by decide), b1 30 0 10 (by decide) (by decide) (by decide)]
  have rw2 := SP_RW sp rw'
  rw [SP_bst sp, (SP_brk sp).2.2] at e
  have self : bitS u1 = oR (bitS u1) (oR s (bitS u1)) := oR_eq (fun a b x h1 h2 => (oR_1 h1 h2 b x).symm) (fun _ _ _ _ => rfl) (fun a b x h1 h2 => (oR_2 h1 h2 b x).symm) (fun _ _ _ _ => rfl) rfl
  have e2 : ev 201 0 [some (.inr (.inr (30, 0)))] [] (bitS u1) = some (some (.inl (bI (bst s (aA 0) (nW s)).isSome)), oR (bitS u1) v') := by
    have := ev_R (bitS u1) (by decide) (nLk_s (x := .inr (.inr (30, 0))) rfl nLk_e) e
    rw [← self] at this
    exact this
  have rsv : RS (bitS u1) (oR (bitS u1) v') := by
    refine ⟨fun a b x x1 x2 x3 x4 => ?_, rfl, fun a b x x1 x2 => ?_⟩
    · by_cases hr : 30 ≤ a ∧ a < 60
      · rw [oR_1 hr.1 hr.2, rs.1 a b x x1 x2 x3 x4, oR_1 hr.1 hr.2]
      · rw [oR_g1 (by omega)]
    · by_cases hr : 30 ≤ a ∧ a < 60
      · rw [oR_2 hr.1 hr.2, rs.2.2 a b x x1 x2, oR_2 hr.1 hr.2]
      · rw [oR_g2 (by omega)]
  have rsu := RS_tr rb rsv
  refine ⟨oR (bitS u1) v', rsu, ⟨fun a b x _ x2 x3 x4 x5 => rsu.1 a b x x2 x3 x4 x5, rsu.2.1, rsu.2.2, fun b x _ => ?_, ?_⟩, ?_⟩
  · rw [rsu.1 43 b x (by decide) (by decide) (by decide) (fun z => absurd z (by decide))]
    exact ur.1 43 b x (by decide) (by decide)
  · exact TB_ag (s := v') (fun a b x ha => oR_1 (by omega) (by omega) b x) (oR_1 (by decide) (by decide) 0 10) (oR_1 (by decide) (by decide) 0 28) tb'
  · have enW : nW u1 = nW s := by
      have : tl u1 = tl s := by
        funext k
        unfold tl
        rw [ur.1 37 0 k (by decide) (by decide)]
      unfold nW
      rw [this]
    have m1 : (!(decide (nI m < 1)) && !(decide ((255 : Int32) < nI m))) = true := by
      rw [decide_eq_false (show ¬ nI m < (1 : Int32) from fun z => by
        have := (n_lt (a := m) (b := 1) (by omega) (by decide)).mp z
        omega), decide_eq_false (show ¬ (255 : Int32) < nI m from fun z => by
        have := (n_lt (a := 255) (b := m) (by decide) (by omega)).mp z
        omega)]
      rfl
    have p1 : (!(decide (nI p < 0)) && !(decide ((2 : Int32) < nI p))) = true := by
      rw [decide_eq_false (nI_pos (by omega)), decide_eq_false (show ¬ (2 : Int32) < nI p from fun z => by
        have := (n_lt (a := 2) (b := p) (by decide) (by omega)).mp z
        omega)]
      rfl
    have n3 : ¬ (3 : Int32) < nI (popN m) := fun z => by
      have := (n_lt (a := 3) (b := popN m) (by decide) (by omega)).mp z
      omega
    rw [q_218, c_205 js1, enW, ixB_nI hy (by omega), cI_s, ite_bI, if_pos rfl, c_144, m1, cI_s, ite_bI, if_pos rfl, c_148 hm, cI_s, if_neg n3, c_144, p1, cI_s, ite_bI, if_pos rfl, c_218f (s := s) hm (fun k => b1 42 0 k (by decide) (by decide) (fun z => absurd z (by decide))), q_218_at47, if_neg (show ¬ nI 8 < (8 : Int32) from irr (nI 8)), ite_bI, c_145_1, cI_s]
    by_cases ht : thB s m = true
    · rw [if_pos ht, if_pos ht, ite_bI, c_145_3, cI_s]
      by_cases hsf : sfB s m = true
      · rw [if_pos hsf, if_pos hsf, e2, cI_s, ite_bI, c_145_4, cI_s]
        by_cases hs : (bst s (aA 0) (nW s)).isSome = true
        · have k52 : (oR (bitS u1) v').1 52 0 y = cR s (aA 0) y := (oR_1 (by decide) (by decide) 0 y).trans (rw2.1 y hy)
          rw [if_pos hs, if_pos hs, if_pos (ixB_nI (show y < 1024 by omega) (by decide)), cl_nI (by omega), k52, c_148 hm, cI_s]
          by_cases hb : hbB s (aA 0) y = true
          · rw [if_pos hb, if_pos (show cR s (aA 0) y < 0 by unfold cR; rw [if_pos hb]; decide)]
          · have hc := sc_le hS h.2.2.2.2.1 (aA 0) y
            rw [if_neg hb, if_neg (show ¬ cR s (aA 0) y < 0 by unfold cR; rw [if_neg hb]; exact nI_pos (by omega))]
        · rw [if_neg hs, if_neg hs]
      · rw [if_neg hsf, if_neg hsf]
    · rw [if_neg ht, if_neg ht]
theorem c_372 {t : SS} {m c : Nat} (hm : m < 256) (ht : ∀ k, k < 8 → m.testBit k = true → t.1 43 0 k = nI (wd m c k)) (a b : Int64) : ev 218 372 [some (.inr (.inr (30, 0))), none, some (.inl (nI m)), none, none, none, none, none, none, some (.inr (.inl a)), none, some (.inr (.inl b)), none, some (.inl 0), some (.inl 0), none, none, none, none, none] [] t = cI (ev 149 0 [some (.inr (.inr (30, 0))), some (.inr (.inl a)), none, some (.inr (.inl b)), none, some (.inl (nI (fgF m c 8))), none, none, none, none, none, none] [] t) (fun x s => some (some (.inl x), s)) := by
  have hl := lpN (P := fun i => ev 218 372 [some (.inr (.inr (30, 0))), none, some (.inl (nI m)), none, none, none, none, none, none, some (.inr (.inl a)), none, some (.inr (.inl b)), none, some (.inl (nI (fgF m c i))), some (.inl (nI i)), none, none, none, none, none] [] t) 8 (fun i hi => by
    show ev 218 372 [some (.inr (.inr (30, 0))), none, some (.inl (nI m)), none, none, none, none, none, none, some (.inr (.inl a)), none, some (.inr (.inl b)), none, some (.inl (nI (fgF m c i))), some (.inl (nI i)), none, none, none, none, none] [] t = ev 218 372 [some (.inr (.inr (30, 0))), none, some (.inl (nI m)), none, none, none, none, none, none, some (.inr (.inl a)), none, some (.inr (.inl b)), none, some (.inl (nI (if m.testBit i = true then 10 * fgF m c i + wd m c i else fgF m c i))), some (.inl (nI (i + 1))), none, none, none, none, none] [] t
    rw [q_218_at372, if_pos (show nI i < (8 : Int32) from nI_lt hi (by decide)), c_147 (by omega) (by omega), cI_s, ite_bI, if_pos (ixB_nI hi (by decide)), cl_nI (by omega), nI_s]
    cases hb : m.testBit i with
    | false => rfl
    | true =>
      rw [if_pos rfl, if_pos rfl, ht i hi hb, n_mulL, n_add])
  refine (show ev 218 372 [some (.inr (.inr (30, 0))), none, some (.inl (nI m)), none, none, none, none, none, none, some (.inr (.inl a)), none, some (.inr (.inl b)), none, some (.inl (nI (fgF m c 0))), some (.inl (nI 0)), none, none, none, none, none] [] t = _ from hl).trans ?_
  rw [q_218_at372, if_neg (show ¬ nI 8 < (8 : Int32) from irr (nI 8))]
theorem UR_q {s u u1 : SS} (q : QF s u) (tk : TK u u1) : UR s u1 := ⟨fun a b x h1 h2 => (tk.1 a b x (by omega) (fun z => by omega)).trans (q.1 a b x (by omega) (by omega) (by omega) (by omega) (fun z => by omega)), fun a b x h1 h2 => (tk.2.2 a b x (fun z => by omega)).trans (q.2.2 a b x (by omega) (by omega) (by omega))⟩
theorem UR_c {s u u1 : SS} {m : Nat} (ci : CI s m u) (tk : TK u u1) : UR s u1 := ⟨fun a b x h1 h2 => (tk.1 a b x (by omega) (fun z => by omega)).trans (ci.2.1 a b x (by omega) (by omega) (by omega) (by omega) (fun z => by omega) (fun z => by omega)), fun a b x h1 h2 => (tk.2.2 a b x (fun z => by omega)).trans (ci.2.2.2.1 a b x (by omega) (by omega) (by omega))⟩
theorem JS_rp {u : SS} (h : JS (rp u)) : JS u := JS_ag (s := rp u) ⟨fun a ha => ⟨fun b x => (rp_1 (fun z => by
  rw [z] at ha
  exact absurd ha (by decide))).symm, fun _ _ => rfl⟩, rfl⟩ (rp_1 (by decide)).symm (rp_1 (by decide)).symm h
