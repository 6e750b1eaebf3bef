/-! pull, why: weighing without some laws -/
theorem c_126s {s u : SS} (q : QF s u) (h : J u) {m : Nat} (hm : m < 256) : ∃ u2, ev 126 0 [some (.inr (.inr (0, 0))), some (.inl (nI m))] [] u = some (none, u2) ∧ SV s (aA m) u2 := by
  obtain ⟨u2, e, q2, hJ, hT, h8, cw⟩ := c_126 h hm
  exact ⟨u2, e, QF_tr q q2, hJ, hT, h8, SP_CW (QF_SP q) cw⟩
/-- the reference goes on weighing -/
def RI (s u v : SS) : Prop := RS u v ∧ TB v ∧ JS v ∧ JL v ∧ SP s v
theorem RI_w {s u v : SS} (h : RI s u v) {m : Nat} (hm : m < 256) : ∃ v2, ev 200 0 [some (.inr (.inr (30, 0))), some (.inl (nI (255 - m))), none, none] [] v = some (some (.inl (bI (bst s (aA m) (nW s)).isSome)), v2) ∧ RI s u v2 ∧ RW s (aA m) v2 := by
  obtain ⟨rs, tb', js, jl, sp⟩ := h
  obtain ⟨v2, e, r, b, w⟩ := c_200m js jl tb' hm
  refine ⟨v2, ?_, ⟨RS_tr rs r, b, RS_JS r js, RS_JL r jl, SP_tr sp (RS_SP r)⟩, SP_RW sp w⟩
  rw [e, SP_bst sp, (SP_brk sp).2.2]
theorem c_201i {s u u1 : SS} (hJ : J u) (sp : SP s u) (tk : TK u u1) : ∃ v, ev 201 0 [some (.inr (.inr (30, 0)))] [] u1 = some (some (.inl (bI (bst s (aA 0) (nW s)).isSome)), v) ∧ RI s u1 v ∧ RW s (aA 0) v := by
  obtain ⟨v, e, rs, tb', rw', js, sp2⟩ := c_201u hJ sp tk
  exact ⟨v, e, ⟨rs, tb', js, RS_JL rs (TK_JL tk hJ.2.2.2.2.1), sp2⟩, rw'⟩
theorem RI_202 {s u v : SS} {A : Nat → Bool} (hS : JS s) (h : RI s u v) (w : RW s A v) {k : Nat} (hk : k < 28) : ev 202 0 [some (.inr (.inr (30, 0))), some (.inl (nI k)), none, none, none] [] v = some (some (.inr (.inl (lN (shP s A (fun v => soB s k v))))), v) := c_202 hS hk h.2.2.2.2 h.2.2.1 h.2.1.1 w.2.2.1
theorem aL_d {x y : Nat} (hx : x < 9223372036854775808) (hy : y < 9223372036854775808) : aL (lN x - lN y) (if y ≤ x then x - y else y - x) := by
  by_cases h : y ≤ x
  · rw [if_pos h, lN_sub h]
    exact aL_n (by omega)
  · rw [if_neg h]
    refine ⟨Or.inr ?_, by omega⟩
    rw [← lN_sub (show x ≤ y by omega), Int64.neg_sub]
theorem n255 : ∀ k, k < 8 → (255 &&& (((1 : Int32) <<< (nI k &&& 31)) ^^^ (-1))) = nI (255 - 2 ^ k) := by decide
theorem p256 : ∀ k, k < 8 → 2 ^ k < 256 := by decide
theorem c_180 {s : SS} {k : Nat} (hk : k < 8) : ev 180 0 [some (.inr (.inr (30, 0))), some (.inl (nI k))] [] s = if s.1 42 0 k < 0 then some (some (.inl (-3)), fR s 1) else some (some (.inl 0), s) := by
  rw [q_180, c_179, ixB_nI hk (by decide), cI_s, ite_bI, if_pos rfl, if_pos rfl, cl_nI (by omega), c_145_1, cI_s]
theorem pub_pull {s : SS} (h : J s) (l p : Int32) : PI 86 219 [some (.inr (.inr (0, 0))), some (.inl l), some (.inl p), none, none, none, none, none, none, none, none] [some (.inr (.inr (30, 0))), some (.inl l), some (.inl p), none, none, none, none, none] s := by
  have hS := h.2.2.2.1
  have hL := h.2.2.2.2.1
  by_cases hp : ixB p 28 = true
  · by_cases hl : ixB l 8 = true
    · obtain ⟨k, hk, rfl⟩ := (ixB_iff (by decide)).mp hl
      obtain ⟨y, hy, rfl⟩ := (ixB_iff (by decide)).mp hp
      rcases LJ_h (hL.2.2 k hk) with ⟨a1, a2⟩ | ⟨a1, kd, np, w, f, g⟩
      · refine PI_f h (f := 1) (by decide) ?_ (fun t ha _ => ?_)
        · rw [q_86, c_114, hl, cI_s, ite_bI, if_pos rfl, c_106, hp, cI_s, ite_bI, if_pos rfl, if_pos rfl, cl_nI (by omega), a1, if_pos rfl, c_100_1, cI_s]
        · have e42 : t.1 42 0 k = -9 := ((ha.1 42 (by decide)).1 0 k).trans a2
          rw [q_219, c_163, hp, cI_s, ite_bI, if_pos rfl, c_180 hk, e42, if_pos (by decide), cI_s, if_pos (by decide)]
      · have hm := p256 k hk
        obtain ⟨u1, e1, sv1⟩ := sv0 h
        obtain ⟨u2, e2, sv2⟩ := c_126s sv1.1 sv1.2.1 hm
        have b1 := all_le hS (A := aA 0)
        have b2 := all_le hS (A := aA (2 ^ k))
        have c1 := shP_le hS (A := aA 0) (P := fun v => soB s y v)
        have c2 := shP_le hS (A := aA (2 ^ k)) (P := fun v => soB s y v)
        have n1 : ∀ {x z : Nat}, x ≤ 1073741824 → z ≤ 1073741824 → x * z < 9223372036854775808 := fun hx hz => Nat.lt_of_le_of_lt (Nat.mul_le_mul hx hz) (by decide)
        have z : (0 : Int64).toInt = 0 := rfl
        have pos : ∀ {x : Nat}, x ≤ 1073741824 → (0 < lg_cmp (lN x) 0) = (0 < x) := fun hx => by
          rw [lg_gt]
          apply propext
          rw [l_lt, lT (by omega), z]
          omega
        have cls : ∀ X, (if 0 < allN s (aA 0) then ev 86 94 [some (.inr (.inr (0, 0))), none, none, some (.inr (.inl (lN (shP s (aA 0) (fun v => soB s y v))))), none, some (.inr (.inl (lN (allN s (aA 0))))), none, some (.inr (.inl (lN (shP s (aA (2 ^ k)) (fun v => soB s y v))))), none, some (.inr (.inl (lN (allN s (aA (2 ^ k)))))), none] [] u2 else some (some (.inl (-3)), fC u2 4)) = X → ev 86 0 [some (.inr (.inr (0, 0))), some (.inl (nI k)), some (.inl (nI y)), none, none, none, none, none, none, none, none] [] s = X := by
          intro X hX
          rw [q_86, c_114, hl, cI_s, ite_bI, if_pos rfl, c_106, hp, cI_s, ite_bI, if_pos rfl, if_pos rfl, cl_nI (by omega), a1, if_neg (by decide), e1, cV_s, shl1 y (by omega), c_56_1 hS sv1 hy, cL_s, shl1 k (by omega), e2, cV_s, c_56_1 hS sv2 hy, cL_s, sv1.2.2.2.2.2.2.2.1, sv2.2.2.2.2.2.2.2.1, c_100_4, cI_s]
          simp only [pos b1]
          exact hX
        have rf : ∀ t, TK u2 t → ∃ v1 v2, ev 219 0 [some (.inr (.inr (30, 0))), some (.inl (nI k)), some (.inl (nI y)), none, none, none, none, none] [] t = (if 0 < allN s (aA 0) then (if 0 < allN s (aA (2 ^ k)) then ev 149 0 [some (.inr (.inr (30, 0))), some (.inr (.inl ((lN (shP s (aA 0) (fun v => soB s y v) * allN s (aA (2 ^ k))) - lN (shP s (aA (2 ^ k)) (fun v => soB s y v) * allN s (aA 0)))))), none, some (.inr (.inl (lN (allN s (aA 0) * allN s (aA (2 ^ k)))))), none, some (.inl 1), none, none, none, none, none, none] [] v2 else some (some (.inl (-3)), fR v2 4)) else some (some (.inl (-3)), fR v1 4)) ∧ RS t v1 ∧ RS t v2 := by
          intro t tk
          obtain ⟨v1, f1, i1, w1⟩ := c_201i sv2.2.1 (QF_SP sv2.1) tk
          obtain ⟨v2, f2, i2, w2⟩ := RI_w i1 hm
          refine ⟨v1, v2, ?_, i1.1, i2.1⟩
          have hkd := g.1
          have e42 : t.1 42 0 k = nI kd := by
            rw [((TK_SP tk).1.1 42 (by decide)).1, ((QF_SP sv2.1).1.1 42 (by decide)).1]
            exact g.2.2.2.2.2.2.1
          rw [q_219, c_163, hp, cI_s, ite_bI, if_pos rfl, c_180 hk, e42, if_neg (nI_pos (by omega)), cI_s, if_neg (by decide), f1, cI_s, ite_bI, c_145_4, cI_s, RI_202 hS i1 w1 hy, cL_s, n255 k hk, f2, cI_s, ite_bI, c_145_4, cI_s, RI_202 hS i2 w2 hy, cL_s, w1.2.2.2, w2.2.2.2, lN_mul, lN_mul, lN_mul]
          simp only [all_pos]
          by_cases h2 : (bst s (aA (2 ^ k)) (nW s)).isSome = true
          · rw [if_pos h2, if_pos h2]
            have h2' : 0 < allN s (aA (2 ^ k)) := all_pos.mpr h2
            by_cases h1 : (bst s (aA 0) (nW s)).isSome = true
            · have h1' : 0 < allN s (aA 0) := all_pos.mpr h1
              rw [if_pos h1, if_pos h1, c149x (aL_d (n1 c1 b2) (n1 c2 b1)) (n1 b1 b2) (Nat.mul_pos h1' h2')]
            · rw [if_neg h1, if_neg h1]
          · rw [if_neg h2, if_neg h2]
        have a94 : ev 86 94 [some (.inr (.inr (0, 0))), none, none, some (.inr (.inl (lN (shP s (aA 0) (fun v => soB s y v))))), none, some (.inr (.inl (lN (allN s (aA 0))))), none, some (.inr (.inl (lN (shP s (aA (2 ^ k)) (fun v => soB s y v))))), none, some (.inr (.inl (lN (allN s (aA (2 ^ k)))))), none] [] u2 = (if 0 < allN s (aA (2 ^ k)) then cV (ev 104 0 [some (.inr (.inr (0, 0))), some (.inr (.inl ((lN (shP s (aA 0) (fun v => soB s y v) * allN s (aA (2 ^ k))) - lN (shP s (aA (2 ^ k)) (fun v => soB s y v) * allN s (aA 0)))))), none, some (.inr (.inl (lN (allN s (aA 0) * allN s (aA (2 ^ k)))))), none, none, none] [] u2) (fun t => some (some (.inl 1), t)) else some (some (.inl (-3)), fC u2 4)) := by
          rw [q_86_at94, c_100_4, cI_s, lN_mul, lN_mul, lN_mul]
          simp only [pos b2]
        have fnd : (¬ 0 < allN s (aA 0) ∨ ¬ 0 < allN s (aA (2 ^ k))) → PI 86 219 [some (.inr (.inr (0, 0))), some (.inl (nI k)), some (.inl (nI y)), none, none, none, none, none, none, none, none] [some (.inr (.inr (30, 0))), some (.inl (nI k)), some (.inl (nI y)), none, none, none, none, none] s := by
          intro hn
          obtain ⟨v1, v2, e, r1, r2⟩ := rf _ (TK_f (f := 4))
          have c0 : ev 86 0 [some (.inr (.inr (0, 0))), some (.inl (nI k)), some (.inl (nI y)), none, none, none, none, none, none, none, none] [] s = some (some (.inl (-3)), fC u2 4) := cls _ (by
            by_cases h1 : 0 < allN s (aA 0)
            · rw [if_pos h1, a94, if_neg (hn.resolve_left (fun z => z h1))]
            · rw [if_neg h1])
          by_cases h1 : 0 < allN s (aA 0)
          · rw [if_pos h1, if_neg (hn.resolve_left (fun z => z h1))] at e
            exact PS (-3) c0 e (J_f sv2.2.1 (f := 4) (by decide)) (RS_fR r2 4) (fun b c => QF_60 sv2.1 b c) (fun b c => QF_60 sv2.1 b c)
          · rw [if_neg h1] at e
            exact PS (-3) c0 e (J_f sv2.2.1 (f := 4) (by decide)) (RS_fR r1 4) (fun b c => QF_60 sv2.1 b c) (fun b c => QF_60 sv2.1 b c)
        by_cases h1 : 0 < allN s (aA 0)
        · by_cases h2 : 0 < allN s (aA (2 ^ k))
          · have hq := Nat.mul_pos h1 h2
            have ha := aL_d (n1 c1 b2) (n1 c2 b1)
            have c0 := cls _ (by rw [if_pos h1, a94, if_pos h2, c_104 ha (n1 b1 b2) hq, cV_s])
            obtain ⟨v1, v2, e, r1, r2⟩ := rf _ (TK_tl (s := u2))
            rw [if_pos h1, if_pos h2, c_149 ha (n1 b1 b2) hq] at e
            exact PS 1 c0 e (J_tl sv2.2.1 _ _) (RS_tl r2 _ _) (fun b c => QF_60 sv2.1 b c) (fun b c => QF_60 sv2.1 b c)
          · exact fnd (Or.inr h2)
        · exact fnd (Or.inl h1)
    · refine PI_0 h (-1) ?_ ?_
      · rw [q_86, c_114, ix_no hl, cI_s, ite_bI, if_neg (by decide)]
      · rw [q_219, c_163, hp, cI_s, ite_bI, if_pos rfl, q_180, c_179, ix_no hl, cI_s, ite_bI, if_neg (by decide), cI_s, if_pos (by decide)]
  · refine PI_0 h (-1) ?_ ?_
    · rw [q_86, c_114, cI_s, ite_bI]
      cases ixB l 8
      · rfl
      · rw [if_pos rfl, c_106, ix_no hp, cI_s, ite_bI, if_neg (by decide)]
    · rw [q_219, c_163, ix_no hp, cI_s, ite_bI, if_neg (by decide)]
