/-! a saying told otherwise for a while -/
def gh (s : SS) (j w : Nat) : SS := wI (wI (wI s 9 0 j (nI w)) 0 0 8 1) 37 0 j (nI w)
theorem JS_gh {s : SS} (hS : JS s) {j w : Nat} (hj : j < 28) (hw : w < 4) (hl : lsN j < nN s) (hf : ¬ (w = 3 ∧ tl s j ≠ 3 ∧ nS s = 10)) : JS (gh s j w) := by
  have et : ∀ i, tl (gh s j w) i = if i = j then w else tl s i := by
    intro i
    unfold tl gh
    by_cases e : i = j
    · simp [wI_1, e, cl_nI (n := w) (by omega)]
    · simp [wI_1, e]
  refine ⟨hS.1, fun i hi => ?_, ?_⟩
  · obtain ⟨p1, p2, p3, p4⟩ := hS.2.1 i hi
    rw [et]
    by_cases e : i = j
    · subst e
      rw [if_pos rfl]
      exact ⟨by simp [gh, wI_1], by simp [gh, wI_1], hw, fun _ => hl⟩
    · rw [if_neg e]
      exact ⟨by simpa [gh, wI_1, e] using p1, by simpa [gh, wI_1, e] using p2, p3, p4⟩
  · simp only [et]
    have hu := cn_upd (p := fun i => tl s i == 3) (q := fun i => (if i = j then w else tl s i) == 3) (k := j) (fun i hi => by simp [hi]) 28 hj
    have hs : nS s ≤ 10 := hS.2.2
    unfold nS at hf hs
    simp only [if_pos rfl] at hu
    by_cases f1 : w = 3
    · by_cases f2 : tl s j = 3
      · simp [f1, f2] at hu ⊢
        omega
      · have f3 : ¬ cn (fun k => tl s k == 3) 28 = 10 := fun z => hf ⟨f1, f2, z⟩
        simp [f1, f2] at hu ⊢
        omega
    · by_cases f2 : tl s j = 3
      · simp [f1, f2] at hu ⊢
        omega
      · simp [f1, f2] at hu ⊢
        omega
theorem gh_Ag {s : SS} {j w : Nat} {K : List Nat} (h9 : 9 ∉ K) (h0 : 0 ∉ K) (h37 : 37 ∉ K) : Ag K s (gh s j w) := Ag_tr (Ag_tr (Ag_wI h9) (Ag_wI h0)) (Ag_wI h37)
theorem JL_gh {s : SS} (hL : JL s) (j w : Nat) : JL (gh s j w) := JL_ag (gh_Ag (by decide) (by decide) (by decide)) hL
theorem J_gh {s : SS} (h : J s) {j w : Nat} (hS : JS (gh s j w)) : J (gh s j w) := ⟨JR_ag (gh_Ag (by decide) (by decide) (by decide)) h.1, JT_ag (gh_Ag (by decide) (by decide) (by decide)) h.2.1, JF_of (gh_Ag (by decide) (by decide) (by decide)) rfl rfl rfl rfl rfl h.2.2.1, hS, JL_gh h.2.2.2.2.1 j w, Or.inl rfl⟩
theorem gh_1 {s : SS} {j w a b c : Nat} (h9 : a = 9 → ¬ (b = 0 ∧ c = j)) (h0 : a = 0 → c ≠ 8) (h37 : a = 37 → ¬ (b = 0 ∧ c = j)) : (gh s j w).1 a b c = s.1 a b c := by
  unfold gh
  rw [wI_1, if_neg (fun z => h37 z.1 z.2), wI_1, if_neg (fun z => h0 z.1 z.2.2), wI_1, if_neg (fun z => h9 z.1 z.2)]
theorem SP_gh {s t : SS} (h : SP s t) (j w : Nat) : SP (gh s j w) (gh t j w) := by
  refine ⟨⟨fun a ha => ⟨fun b c => ?_, fun b c => (h.1.1 a ha).2 b c⟩, h.1.2⟩, ?_⟩
  · have e := (h.1.1 a ha).1 b c
    have n9 : a ≠ 9 := fun z => by rw [z] at ha; exact absurd ha (by decide)
    have n0 : a ≠ 0 := fun z => by rw [z] at ha; exact absurd ha (by decide)
    by_cases h37 : a = 37 ∧ b = 0 ∧ c = j
    · obtain ⟨rfl, rfl, rfl⟩ := h37
      unfold gh
      rw [wI_same, wI_same]
    · rw [gh_1 (fun z => absurd z n9) (fun z => absurd z n0) (fun z1 z2 => h37 ⟨z1, z2⟩), gh_1 (fun z => absurd z n9) (fun z => absurd z n0) (fun z1 z2 => h37 ⟨z1, z2⟩)]
      exact e
  · exact h.2
theorem SP_shP {s t : SS} (h : SP s t) (A : Nat → Bool) (k : Nat) : shP t A (fun v => soB t k v) = shP s A (fun v => soB s k v) := by
  unfold shP
  rw [SP_sh h, (SP_brk h).2.2, (SP_brk h).2.1]
theorem nLk_e {P : Nat → Bool} : nL_k P [] := fun v hv => absurd hv List.not_mem_nil
theorem nLk_n {P : Nat → Bool} {r : LO} (h : nL_k P r) : nL_k P (none :: r) := fun v hv => by
  rcases List.mem_cons.mp hv with e | e
  · cases e
  · exact h v e
theorem nLk_s {P : Nat → Bool} {x : AV} {r : LO} (hx : nV_k P x) (h : nL_k P r) : nL_k P (some x :: r) := fun v hv => by
  rcases List.mem_cons.mp hv with e | e
  · cases e
    exact hx
  · exact h v e
theorem oC_gh (s : SS) (j w : Nat) : wI (wI s 9 0 j (nI w)) 0 0 8 1 = oC s (gh s j w) := by
  refine oC_eq (fun a b c h => ?_) (fun a b c h => ?_) (fun _ _ _ _ => rfl) (fun _ _ _ _ => rfl) rfl
  · unfold gh
    rw [wI_1 _ 37, if_neg (by omega)]
  · rw [wI_1, if_neg (by omega), wI_1, if_neg (by omega)]
theorem c_127 {s : SS} (h : J s) {j w : Nat} (hj : j < 28) (hg : J (gh s j w)) : ∃ u, ev 127 0 [some (.inr (.inr (0, 0))), some (.inl (nI j)), some (.inl (nI w)), none] [] s = some (none, u) ∧ QF s u ∧ J u ∧ CW (gh s j w) (aA 0) u ∧ u.1 11 0 0 = nI (nW (gh s j w)) ∧ ∀ v, v < nW (gh s j w) → u.1 18 0 v = nI (trN (gh s j w) v) := by
  have x28 : ixB (nI j) 28 = true := ixB_nI hj (by decide)
  obtain ⟨uG, e, q, hJ, hT, h8, cw⟩ := sv0 hg
  have e2 : ev 126 0 [some (.inr (.inr (0, 0))), some (.inl 0)] [] (wI (wI s 9 0 j (nI w)) 0 0 8 1) = some (none, oC s uG) := by
    rw [oC_gh]
    exact ev_C s (nLk_s (x := .inr (.inr (0, 0))) rfl (nLk_s (x := .inl 0) trivial nLk_e)) e
  have sp := QF_SP q
  have qf : QF s (wI (wI (oC s uG) 9 0 j (s.1 9 0 j)) 0 0 8 1) := by
    refine ⟨fun a b c x1 x2 x3 x4 x5 => ?_, ?_, fun a b c x1 x2 x3 => ?_⟩
    · rw [wI_1, if_neg (fun z => x5 z.1 z.2.2), wI_1]
      by_cases h9 : a = 9 ∧ b = 0 ∧ c = j
      · rw [if_pos h9, h9.1, h9.2.1, h9.2.2]
      · rw [if_neg h9]
        by_cases h30 : a < 30
        · rw [oC_1 h30, q.1 a b c x1 x2 x3 x4 x5]
          exact gh_1 (fun z1 z2 => h9 ⟨z1, z2⟩) x5 (fun z => by omega)
        · rw [oC_g1 (by omega)]
    · show uG.2.2 = s.2.2
      exact q.2.1
    · show (oC s uG).2.1 a b c = _
      by_cases h30 : a < 30
      · rw [oC_2 h30, q.2.2 a b c x1 x2 x3]
        rfl
      · rw [oC_g2 (by omega)]
  have r : ∀ a b c, a = 11 ∨ a = 18 ∨ a = 20 ∨ a = 22 → (wI (wI (oC s uG) 9 0 j (s.1 9 0 j)) 0 0 8 1).1 a b c = uG.1 a b c := fun a b c ha => by
    rw [wI_1, if_neg (by omega), wI_1, if_neg (by omega), oC_1 (by omega)]
  have rl : ∀ a b c, a < 30 → (wI (wI (oC s uG) 9 0 j (s.1 9 0 j)) 0 0 8 1).2.1 a b c = uG.2.1 a b c := fun a b c ha => by
    show (oC s uG).2.1 a b c = _
    rw [oC_2 ha]
  refine ⟨wI (wI (oC s uG) 9 0 j (s.1 9 0 j)) 0 0 8 1, ?_, qf, QF_J qf h (Or.inl rfl), ?_, ?_, fun v hv => ?_⟩
  · rw [q_127, if_pos x28, if_pos x28, cl_nI (by omega), e2, cV_s, if_pos x28]
  · obtain ⟨c1, c2, c3, c4, c5⟩ := cw
    refine ⟨fun v hv => ?_, ?_, fun v hv => ?_, ?_, fun k hk => ?_⟩
    · rw [r 20 0 v (by decide)]
      exact c1 v hv
    · unfold CB at c2 ⊢
      rw [r 11 0 7 (by decide), r 11 0 8 (by decide)]
      exact c2
    · rw [rl 21 0 v (by decide)]
      exact c3 v hv
    · rw [rl 11 0 9 (by decide)]
      exact c4
    · rw [r 22 0 k (by decide)]
      exact c5 k hk
  · rw [r 11 0 0 (by decide), hT.1, (SP_brk sp).2.2]
  · rw [r 18 0 v (by decide), hT.2.1 v (by rw [(SP_brk sp).2.2]; exact hv), (SP_bk sp).2]
theorem c_56_g {s u : SS} {A : Nat → Bool} (hS : JS s) (cw : CW s A u) (h0 : u.1 11 0 0 = nI (nW s)) (h18 : ∀ v, v < nW s → u.1 18 0 v = nI (trN s v)) {k : Nat} (hk : k < 28) : ev 56 0 [some (.inr (.inr (11, 0))), some (.inl (nI (2 ^ k))), none, none, none] [] u = some (some (.inr (.inl (lN (shP s A (fun v => soB s k v))))), u) := by
  refine c_56 hS h0 cw.2.2.1 (fun v hv => ?_)
  rw [h18 v hv, mk_1 hk, tr_bit, decide_eq_true hk, Bool.true_and]
/-! the reference told otherwise -/
theorem r_210 {s : SS} (hS : JS s) (hL : JL s) {k : Nat} (hk : k < 28) : ∃ v, RS s v ∧ ev 210 0 [some (.inr (.inr (30, 0))), some (.inl (nI k))] [] s = if 0 < allN s (aA 0) then some (some (.inl 1), tlR v (lN (shP s (aA 0) (fun v => soB s k v)) / lN (Nat.gcd (shP s (aA 0) (fun v => soB s k v)) (allN s (aA 0)))) (lN (allN s (aA 0)) / lN (Nat.gcd (shP s (aA 0) (fun v => soB s k v)) (allN s (aA 0))))) else some (some (.inl (-3)), fR v 4) := by
  have hb := all_le hS (A := aA 0)
  have hn := shP_le hS (A := aA 0) (P := fun v => soB s k v)
  have ha := aL_n (a := shP s (aA 0) (fun v => soB s k v)) (by omega)
  obtain ⟨v, e2, rs, tb', rw'⟩ := c_201 hS hL
  have js := RS_JS rs hS
  have sp := RS_SP rs
  refine ⟨v, rs, ?_⟩
  rw [q_210, c_163, ixB_nI hk (by decide), cI_s, ite_bI, if_pos rfl, e2, cI_s, ite_bI]
  simp only [all_pos]
  by_cases hs : (bst s (aA 0) (nW s)).isSome = true
  · have h0 : 0 < allN s (aA 0) := all_pos.mpr hs
    rw [if_pos hs, if_pos hs, c_202 hS hk sp js tb'.1 rw'.2.2.1, cL_s, rw'.2.2.2, c_149 ha (by omega) h0, cI_s]
    rfl
  · rw [if_neg hs, if_neg hs, c_145_4, cI_s]
theorem oR_gh (u : SS) (j w : Nat) : wI u 37 0 j (nI w) = oR (wI u 37 0 j (nI w)) (gh u j w) := by
  refine oR_eq (fun a b c h1 h2 => ?_) (fun _ _ _ _ => rfl) (fun _ _ _ _ _ => rfl) (fun _ _ _ _ => rfl) rfl
  unfold gh
  rw [wI_1, wI_1]
  split
  · rfl
  · rw [wI_1, if_neg (by omega), wI_1, if_neg (by omega)]
theorem RS_fin {u1 Tu Tg T : SS} {j w : Nat} (h1 : RS Tg T) (e1 : ∀ a b c, 30 ≤ a → a < 60 → ¬ (a = 37 ∧ b = 0 ∧ c = j) → Tg.1 a b c = Tu.1 a b c) (e2 : ∀ a b c, 30 ≤ a → a < 60 → Tg.2.1 a b c = Tu.2.1 a b c) (e3 : ∀ a b c, (a < 30 ∨ 60 ≤ a) → Tu.1 a b c = u1.1 a b c) (e4 : ∀ a b c, (a < 30 ∨ 60 ≤ a) → Tu.2.1 a b c = u1.2.1 a b c) (e5 : Tu.2.2 = u1.2.2) (e6 : Tu.1 37 0 j = u1.1 37 0 j) : RS Tu (wI (oR (wI u1 37 0 j (nI w)) T) 37 0 j (u1.1 37 0 j)) := by
  refine ⟨fun a b c x1 x2 x3 x4 => ?_, ?_, fun a b c x1 x2 => ?_⟩
  · rw [wI_1]
    by_cases h37 : a = 37 ∧ b = 0 ∧ c = j
    · rw [if_pos h37, h37.1, h37.2.1, h37.2.2, e6]
    · rw [if_neg h37]
      by_cases hr : 30 ≤ a ∧ a < 60
      · rw [oR_1 hr.1 hr.2, h1.1 a b c x1 x2 x3 x4]
        exact e1 a b c hr.1 hr.2 h37
      · rw [oR_g1 (by omega), wI_1, if_neg h37]
        exact (e3 a b c (by omega)).symm
  · show (oR (wI u1 37 0 j (nI w)) T).2.2 = _
    rw [oR_3]
    exact e5.symm
  · show (oR (wI u1 37 0 j (nI w)) T).2.1 a b c = _
    by_cases hr : 30 ≤ a ∧ a < 60
    · rw [oR_2 hr.1 hr.2, h1.2.2 a b c x1 x2]
      exact e2 a b c hr.1 hr.2
    · rw [oR_g2 (by omega)]
      exact (e4 a b c (by omega)).symm
theorem fin_tl {u1 v : SS} {j w : Nat} (h : RS (gh u1 j w) v) (x y : Int64) : RS (tlR u1 x y) (wI (oR (wI u1 37 0 j (nI w)) (tlR v x y)) 37 0 j (u1.1 37 0 j)) := by
  refine RS_fin (Tg := tlR (gh u1 j w) x y) (RS_tl h x y) (fun a b c h1 h2 h3 => ?_) (fun _ _ _ _ _ => rfl) (fun _ _ _ _ => rfl) (fun a b c h => ?_) rfl rfl
  · exact gh_1 (fun z => by omega) (fun z => by omega) (fun z1 z2 => h3 ⟨z1, z2⟩)
  · unfold tlR
    rw [wL_2, if_neg (by omega), wL_2, if_neg (by omega)]
theorem fin_f {u1 v : SS} {j w f : Nat} (h : RS (gh u1 j w) v) : RS (fR u1 f) (wI (oR (wI u1 37 0 j (nI w)) (fR v f)) 37 0 j (u1.1 37 0 j)) := by
  refine RS_fin (Tg := fR (gh u1 j w) f) (RS_fR h f) (fun a b c h1 h2 h3 => ?_) (fun _ _ _ _ _ => rfl) (fun a b c h => ?_) (fun _ _ _ _ => rfl) rfl rfl
  · unfold fR
    rw [wI_1, wI_1 (wI u1 30 0 0 (nI f)), gh_1 (a := 31) (fun z => absurd z (by decide)) (fun z => absurd z (by decide)) (fun z => absurd z (by decide))]
    split
    · rfl
    · rw [wI_1, wI_1]
      split
      · rfl
      · exact gh_1 (fun z => by omega) (fun z => by omega) (fun z1 z2 => h3 ⟨z1, z2⟩)
  · unfold fR
    rw [wI_1, if_neg (by omega), wI_1, if_neg (by omega)]
theorem c_112 {s : SS} (hS : JS s) {j w : Nat} (hj : j < 28) (hw : w < 4) : ev 112 0 [some (.inr (.inr (0, 0))), some (.inl (nI j)), some (.inl (nI w))] [] s = some (some (.inl (bI (decide (w = 3 ∧ tl s j ≠ 3 ∧ nS s = 10)))), s) := by
  obtain ⟨g1, g2, g3, g4⟩ := hS.2.1 j hj
  have f6 : nS s ≤ 10 := hS.2.2
  have z3 : (nI (tl s j) = 3) = (tl s j = 3) := n_eq (a := tl s j) (b := 3) (by omega) (by decide)
  have w3 : (nI w = 3) = (w = 3) := n_eq (a := w) (b := 3) (by omega) (by decide)
  have w10 : (nI (nS s) < 10) = (nS s < 10) := n_lt (a := nS s) (b := 10) (by omega) (by decide)
  rw [q_112, if_pos (ixB_nI hj (by decide)), cl_nI (by omega), g1, c_113_3 hS, cI_s]
  simp only [z3, w3, w10]
  by_cases f1 : w = 3
  · by_cases f2 : tl s j = 3
    · simp [f1, f2, bI]
    · by_cases f3 : nS s = 10
      · simp [f1, f2, f3, bI]
      · have : nS s < 10 := by omega
        simp [f1, f2, f3, this, bI]
  · simp [f1, bI]
theorem c_167 {t : SS} (hS : JS t) {j w : Nat} (hj : j < 28) (hw : w < 4) (hl : lsN j < nN t) : ev 167 0 [some (.inr (.inr (30, 0))), some (.inl (nI j)), some (.inl (nI w))] [] t = some (some (.inl ((if w = 3 ∧ tl t j ≠ 3 ∧ nS t = 10 then -2 else 0))), t) := by
  obtain ⟨g1, g2, g3, g4⟩ := hS.2.1 j hj
  have f6 : nS t ≤ 10 := hS.2.2
  have hN := hS.1.2.1
  have hls := ls4 hj
  have hM : (!(decide (nI w < 0)) && !(decide ((3 : Int32) < nI w))) = true := (in_ix (nI w) 3 (by decide)).trans (ixB_nI hw (by decide))
  have z3 : (nI (tl t j) = 3) = (tl t j = 3) := n_eq (a := tl t j) (b := 3) (by omega) (by decide)
  have w3 : (nI w = 3) = (w = 3) := n_eq (a := w) (b := 3) (by omega) (by decide)
  have w10 : (nI (nS t) = 10) = (nS t = 10) := n_eq (a := nS t) (b := 10) (by omega) (by decide)
  rw [q_167, c_163, ixB_nI hj (by decide), cI_s, ite_bI, if_pos rfl, c_144, hM, cI_s, ite_bI, if_pos rfl, c_164 hj, cI_s, hS.1.2.2.2, if_pos (nI_lt hl (by omega)), if_pos rfl, cl_nI (by omega), g2, c_166_3 hS, cI_s]
  simp only [z3, w3, w10]
  by_cases f1 : w = 3
  · by_cases f2 : tl t j = 3
    · simp [f1, f2]
    · by_cases f3 : nS t = 10
      · simp [f1, f2, f3]
      · simp [f1, f2, f3]
  · simp [f1]
theorem SP_tl {s t : SS} (h : SP s t) : tl t = tl s ∧ nS t = nS s ∧ nN t = nN s := by
  have e : tl t = tl s := by
    funext k
    unfold tl
    rw [(h.1.1 37 (by decide)).1]
  refine ⟨e, ?_, ?_⟩
  · unfold nS
    rw [e]
  · unfold nN
    rw [h.2]
