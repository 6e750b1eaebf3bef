/-! questions over the table -/
theorem aL_n {a : Nat} (h : a < 9223372036854775808) : aL (lN a) a := ⟨Or.inl rfl, h⟩
theorem c_103 {p : Int64} {a b : Nat} (ha : aL p a) (hb : b < 9223372036854775808) (s : SS) : ev 103 0 [some (.inr (.inr (0, 0))), some (.inr (.inl p)), none, some (.inr (.inl (lN b))), none] [] s = if 0 < b then some (some (.inl 1), tlC s (p / lN (Nat.gcd a b)) (lN b / lN (Nat.gcd a b))) else some (some (.inl (-3)), fC s 4) := by
  have z : (0 : Int64).toInt = 0 := rfl
  rw [q_103]
  by_cases h : 0 < b
  · rw [if_pos (by rw [lg_gt, l_lt, lT hb, z]; omega), if_pos h, c_104 ha hb h, cV_s]
    rfl
  · rw [if_neg (by rw [lg_gt, l_lt, lT hb, z]; omega), if_neg h, c_100_4, cI_s]
theorem PS_sh {cm rm : Nat} {ca ra : LO} {s u : SS} (hJ : J u) (k1 : ∀ b c, u.1 60 b c = s.1 60 b c) {p : Int64} {a b : Nat} (ha : aL p a) (hb : b < 9223372036854775808) (h1 : ev cm 0 ca [] s = ev 103 0 [some (.inr (.inr (0, 0))), some (.inr (.inl p)), none, some (.inr (.inl (lN b))), none] [] u) (h2 : ∀ u1, TK u u1 → ∃ v, RS u1 v ∧ ev rm 0 ra [] u1 = if 0 < b then ev 149 0 [some (.inr (.inr (30, 0))), some (.inr (.inl p)), none, some (.inr (.inl (lN b))), none, some (.inl 1), none, none, none, none, none, none] [] v else some (some (.inl (-3)), fR v 4)) : PI cm rm ca ra s := by
  rw [c_103 ha hb] at h1
  by_cases h : 0 < b
  · rw [if_pos h] at h1
    obtain ⟨v, r, e⟩ := h2 _ TK_tl
    rw [if_pos h, c_149 ha hb h] at e
    exact PS 1 h1 e (J_tl hJ _ _) (RS_tl r _ _) (fun b c => k1 b c) (fun b c => k1 b c)
  · rw [if_neg h] at h1
    obtain ⟨v, r, e⟩ := h2 _ TK_f
    rw [if_neg h] at e
    exact PS (-3) h1 e (J_f hJ (f := 4) (by decide)) (RS_fR r 4) (fun b c => k1 b c) (fun b c => k1 b c)
theorem bi_I (x : RE) (h : ∃ a t, x = some (some (.inl a), t)) : cI x (fun a t => some (some (.inl a), t)) = x := by
  obtain ⟨a, t, rfl⟩ := h
  rfl
theorem tb_p {k b : Nat} (hk : k < 28) : tb (nI (2 ^ k)) b = decide (k = b) := by
  rw [tb_n, Nat.testBit_two_pow]
  by_cases h : k = b
  · subst h
    rw [decide_eq_true (show k < 32 by omega)]
    simp
  · simp [h]
theorem mk_1 {T k : Nat} (hk : k < 28) : (nI T &&& nI (2 ^ k) = nI (2 ^ k)) = (T.testBit k = true) := by
  apply propext
  rw [and_y]
  constructor
  · intro h
    have := h k (by omega) (by rw [tb_p hk]; simp)
    rw [tb_n, decide_eq_true (show k < 32 by omega), Bool.true_and] at this
    exact this
  · intro h b hb hk2
    rw [tb_p hk, decide_eq_true_eq] at hk2
    subst hk2
    rw [tb_n, h, decide_eq_true hb]
    rfl
theorem mk_2 {T k k2 : Nat} (hk : k < 28) (hk2 : k2 < 28) : (nI T &&& (nI (2 ^ k) ||| nI (2 ^ k2)) = (nI (2 ^ k) ||| nI (2 ^ k2))) = ((T.testBit k && T.testBit k2) = true) := by
  apply propext
  rw [and_y]
  constructor
  · intro h
    have h1 := h k (by omega) (by rw [tb_or, tb_p hk]; simp)
    have h2 := h k2 (by omega) (by rw [tb_or, tb_p hk2]; simp)
    rw [tb_n, decide_eq_true (show k < 32 by omega), Bool.true_and] at h1
    rw [tb_n, decide_eq_true (show k2 < 32 by omega), Bool.true_and] at h2
    rw [h1, h2]
    rfl
  · intro h b hb hb2
    rw [Bool.and_eq_true] at h
    rw [tb_or, tb_p hk, tb_p hk2, Bool.or_eq_true, decide_eq_true_eq, decide_eq_true_eq] at hb2
    rw [tb_n, decide_eq_true hb, Bool.true_and]
    rcases hb2 with e | e
    · rw [← e]; exact h.1
    · rw [← e]; exact h.2
theorem Tab_so {s u : SS} (sp : SP s u) (hT : Tab u) {v : Nat} (hv : v < nW s) {k : Nat} (hk : k < 28) : (u.1 18 0 v = nI (trN s v)) ∧ (trN s v).testBit k = soB s k v := by
  refine ⟨?_, ?_⟩
  · have := hT.2.1 v (by rw [(SP_brk sp).2.2]; exact hv)
    rw [(SP_bk sp).2] at this
    exact this
  · rw [tr_bit, decide_eq_true hk, Bool.true_and]
/-- the class's sums of shares after a survey -/
theorem c_56_1 {s u : SS} {A : Nat → Bool} (hS : JS s) (sv : SV s A u) {k : Nat} (hk : k < 28) : ev 56 0 [some (.inr (.inr (11, 0))), some (.inl (nI (2 ^ k))), none, none, none] [] u = some (some (.inr (.inl (lN (shP s A (fun v => soB s k v))))), u) := by
  obtain ⟨q, hJ, hT, h8, cw⟩ := sv
  have sp := QF_SP q
  refine c_56 hS (by rw [hT.1, (SP_brk sp).2.2]) cw.2.2.1 (fun v hv => ?_)
  obtain ⟨e1, e2⟩ := Tab_so sp hT hv hk
  rw [e1, mk_1 hk, e2]
theorem c_56_2 {s u : SS} {A : Nat → Bool} (hS : JS s) (sv : SV s A u) {k k2 : Nat} (hk : k < 28) (hk2 : k2 < 28) : ev 56 0 [some (.inr (.inr (11, 0))), some (.inl ((nI (2 ^ k) ||| nI (2 ^ k2)))), none, none, none] [] u = some (some (.inr (.inl (lN (shP s A (fun v => soB s k v && soB s k2 v))))), u) := by
  obtain ⟨q, hJ, hT, h8, cw⟩ := sv
  have sp := QF_SP q
  refine c_56 hS (by rw [hT.1, (SP_brk sp).2.2]) cw.2.2.1 (fun v hv => ?_)
  obtain ⟨e1, e2⟩ := Tab_so sp hT hv hk
  rw [e1, mk_2 hk hk2, e2, (Tab_so sp hT hv hk2).2]
theorem rI {m : Nat} {l : LO} {s : SS} {a : Int32} {t : SS} (h : ev m 0 l [] s = some (some (.inl a), t)) : cI (ev m 0 l [] s) (fun a t => some (some (.inl a), t)) = ev m 0 l [] s := by
  rw [h]
  rfl
theorem c103x {p : Int64} {a b : Nat} (ha : aL p a) (hb : b < 9223372036854775808) (s : SS) : cI (ev 103 0 [some (.inr (.inr (0, 0))), some (.inr (.inl p)), none, some (.inr (.inl (lN b))), none] [] s) (fun a t => some (some (.inl a), t)) = ev 103 0 [some (.inr (.inr (0, 0))), some (.inr (.inl p)), none, some (.inr (.inl (lN b))), none] [] s := by
  rw [c_103 ha hb]
  split <;> rfl
theorem c149x {p : Int64} {a b : Nat} (ha : aL p a) (hb : b < 9223372036854775808) (h0 : 0 < b) (s : SS) : cI (ev 149 0 [some (.inr (.inr (30, 0))), some (.inr (.inl p)), none, some (.inr (.inl (lN b))), none, some (.inl 1), none, none, none, none, none, none] [] s) (fun a t => some (some (.inl a), t)) = ev 149 0 [some (.inr (.inr (30, 0))), some (.inr (.inl p)), none, some (.inr (.inl (lN b))), none, some (.inl 1), none, none, none, none, none, none] [] s := by
  rw [c_149 ha hb h0]
  rfl
theorem sv0 {s : SS} (h : J s) : ∃ u, ev 126 0 [some (.inr (.inr (0, 0))), some (.inl 0)] [] s = some (none, u) ∧ SV s (aA 0) u := c_126 h (m := 0) (by decide)
theorem pub_odds {s : SS} (h : J s) (p : Int32) : PI 80 210 [some (.inr (.inr (0, 0))), some (.inl p)] [some (.inr (.inr (30, 0))), some (.inl p)] s := by
  by_cases hp : ixB p 28 = true
  · obtain ⟨k, hk, rfl⟩ := (ixB_iff (by decide)).mp hp
    have hS := h.2.2.2.1
    obtain ⟨u, e1, sv⟩ := sv0 h
    have hb := all_le hS (A := aA 0)
    have hn := shP_le hS (A := aA 0) (P := fun v => soB s k v)
    have ha := aL_n (a := shP s (aA 0) (fun v => soB s k v)) (by omega)
    refine PS_sh (u := u) sv.2.1 (QF_60 sv.1) ha (b := allN s (aA 0)) (by omega) ?_ (fun u1 tk => ?_)
    · rw [q_80, c_106, hp, cI_s, ite_bI, if_pos rfl, e1, cV_s, shl1 k (by omega), c_56_1 hS sv hk, cL_s, sv.2.2.2.2.2.2.2.1, c103x ha (by omega)]
    · obtain ⟨v, e2, rs, tb', rw', js, sp⟩ := c_201u sv.2.1 (QF_SP sv.1) tk
      refine ⟨v, rs, ?_⟩
      rw [q_210, c_163, hp, cI_s, ite_bI, if_pos rfl, e2, cI_s, ite_bI]
      simp only [all_pos]
      by_cases hs : (bst s (aA 0) (nW s)).isSome = true
      · have h0 : 0 < allN s (aA 0) := all_pos.mpr hs
        rw [if_pos hs, if_pos hs, c_202 hS hk sp js tb'.1 rw'.2.2.1, cL_s, rw'.2.2.2, c149x ha (by omega) h0]
      · rw [if_neg hs, if_neg hs, c_145_4, cI_s]
  · refine PI_0 h (-1) ?_ ?_
    · rw [q_80, c_106, ix_no hp, cI_s, ite_bI, if_neg (by decide)]
    · rw [q_210, c_163, ix_no hp, cI_s, ite_bI, if_neg (by decide)]
theorem pub_both {s : SS} (h : J s) (p p2 : Int32) : PI 81 211 [some (.inr (.inr (0, 0))), some (.inl p), some (.inl p2)] [some (.inr (.inr (30, 0))), some (.inl p), some (.inl p2)] s := by
  by_cases hp : ixB p 28 = true
  · by_cases hp2 : ixB p2 28 = true
    · obtain ⟨k, hk, rfl⟩ := (ixB_iff (by decide)).mp hp
      obtain ⟨k2, hk2, rfl⟩ := (ixB_iff (by decide)).mp hp2
      have hS := h.2.2.2.1
      obtain ⟨u, e1, sv⟩ := sv0 h
      have hb := all_le hS (A := aA 0)
      have hn := shP_le hS (A := aA 0) (P := fun v => soB s k v && soB s k2 v)
      have ha := aL_n (a := shP s (aA 0) (fun v => soB s k v && soB s k2 v)) (by omega)
      refine PS_sh (u := u) sv.2.1 (QF_60 sv.1) ha (b := allN s (aA 0)) (by omega) ?_ (fun u1 tk => ?_)
      · rw [q_81, c_106, hp, cI_s, ite_bI, if_pos rfl, c_106, hp2, cI_s, ite_bI, if_pos rfl, e1, cV_s, shl1 k (by omega), shl1 k2 (by omega), c_56_2 hS sv hk hk2, cL_s, sv.2.2.2.2.2.2.2.1, c103x ha (by omega)]
      · obtain ⟨v, e2, rs, tb', rw', js, sp⟩ := c_201u sv.2.1 (QF_SP sv.1) tk
        refine ⟨v, rs, ?_⟩
        rw [q_211, c_163, hp, cI_s, ite_bI, if_pos rfl, c_163, hp2, cI_s, ite_bI, if_pos rfl, e2, cI_s, ite_bI]
        simp only [all_pos]
        by_cases hs : (bst s (aA 0) (nW s)).isSome = true
        · have h0 : 0 < allN s (aA 0) := all_pos.mpr hs
          rw [if_pos hs, if_pos hs, c_203 hS hk hk2 sp js tb'.1 rw'.2.2.1, cL_s, rw'.2.2.2, c149x ha (by omega) h0]
        · rw [if_neg hs, if_neg hs, c_145_4, cI_s]
    · refine PI_0 h (-1) ?_ ?_
      · rw [q_81, c_106, hp, cI_s, ite_bI, if_pos rfl, c_106, ix_no hp2, cI_s, ite_bI, if_neg (by decide)]
      · rw [q_211, c_163, hp, cI_s, ite_bI, if_pos rfl, c_163, ix_no hp2, cI_s, ite_bI, if_neg (by decide)]
  · refine PI_0 h (-1) ?_ ?_
    · rw [q_81, c_106, ix_no hp, cI_s, ite_bI, if_neg (by decide)]
    · rw [q_211, c_163, ix_no hp, cI_s, ite_bI, if_neg (by decide)]
theorem pub_given {s : SS} (h : J s) (p p2 : Int32) : PI 82 212 [some (.inr (.inr (0, 0))), some (.inl p), some (.inl p2)] [some (.inr (.inr (30, 0))), some (.inl p), some (.inl p2), none] s := by
  by_cases hp : ixB p 28 = true
  · by_cases hp2 : ixB p2 28 = true
    · obtain ⟨k, hk, rfl⟩ := (ixB_iff (by decide)).mp hp
      obtain ⟨k2, hk2, rfl⟩ := (ixB_iff (by decide)).mp hp2
      have hS := h.2.2.2.1
      obtain ⟨u, e1, sv⟩ := sv0 h
      have hb := shP_le hS (A := aA 0) (P := fun v => soB s k2 v)
      have hn := shP_le hS (A := aA 0) (P := fun v => soB s k v && soB s k2 v)
      have ha := aL_n (a := shP s (aA 0) (fun v => soB s k v && soB s k2 v)) (by omega)
      refine PS_sh (u := u) sv.2.1 (QF_60 sv.1) ha (b := shP s (aA 0) (fun v => soB s k2 v)) (by omega) ?_ (fun u1 tk => ?_)
      · rw [q_82, c_106, hp, cI_s, ite_bI, if_pos rfl, c_106, hp2, cI_s, ite_bI, if_pos rfl, e1, cV_s, shl1 k (by omega), shl1 k2 (by omega), c_56_2 hS sv hk hk2, cL_s, c_56_1 hS sv hk2, cL_s, c103x ha (by omega)]
      · obtain ⟨v, e2, rs, tb', rw', js, sp⟩ := c_201u sv.2.1 (QF_SP sv.1) tk
        refine ⟨v, rs, ?_⟩
        have z : (0 : Int64).toInt = 0 := rfl
        rw [q_212, c_163, hp, cI_s, ite_bI, if_pos rfl, c_163, hp2, cI_s, ite_bI, if_pos rfl, e2, cI_s, ite_bI]
        by_cases hs : (bst s (aA 0) (nW s)).isSome = true
        · rw [if_pos hs, c_202 hS hk2 sp js tb'.1 rw'.2.2.1, cL_s]
          by_cases h0 : 0 < shP s (aA 0) (fun v => soB s k2 v)
          · rw [if_pos (by rw [lg_gt, l_lt, lT (by omega), z]; omega), if_pos h0, q_212_at38, if_neg (by decide), c_203 hS hk hk2 sp js tb'.1 rw'.2.2.1, cL_s, c_202 hS hk2 sp js tb'.1 rw'.2.2.1, cL_s, c149x ha (by omega) h0]
          · rw [if_neg (by rw [lg_gt, l_lt, lT (by omega), z]; omega), if_neg h0, q_212_at38, if_pos rfl, c_145_4, cI_s]
        · have hs' : (bst s (aA 0) (nW s)).isSome = false := by
            cases hx : (bst s (aA 0) (nW s)).isSome with
            | false => rfl
            | true => exact absurd hx hs
          rw [if_neg hs, if_neg (by rw [shP_0 hs']; decide), q_212_at38, if_pos rfl, c_145_4, cI_s]
    · refine PI_0 h (-1) ?_ ?_
      · rw [q_82, c_106, hp, cI_s, ite_bI, if_pos rfl, c_106, ix_no hp2, cI_s, ite_bI, if_neg (by decide)]
      · rw [q_212, c_163, hp, cI_s, ite_bI, if_pos rfl, c_163, ix_no hp2, cI_s, ite_bI, if_neg (by decide)]
  · refine PI_0 h (-1) ?_ ?_
    · rw [q_82, c_106, ix_no hp, cI_s, ite_bI, if_neg (by decide)]
    · rw [q_212, c_163, ix_no hp, cI_s, ite_bI, if_neg (by decide)]
