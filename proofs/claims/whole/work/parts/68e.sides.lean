/-! the class's side and the reference's -/
def Pc (k : Nat) : Bool := decide (k < 30)
def Pr (k : Nat) : Bool := decide (30 ≤ k) && decide (k < 60)
theorem Pc_lt {k : Nat} : (Pc k = true) ↔ k < 30 := by
  unfold Pc
  rw [decide_eq_true_eq]
theorem Pr_lt {k : Nat} : (Pr k = true) ↔ (30 ≤ k ∧ k < 60) := by
  unfold Pr
  rw [Bool.and_eq_true, decide_eq_true_eq, decide_eq_true_eq]
theorem kar_c : ∀ k, k < 30 → kar k ≠ 6 ∧ (kar k = 4 → k + 4 < 30) := by decide
theorem kar_r : ∀ k, k < 60 → 30 ≤ k → kar k ≠ 6 ∧ kar k ≠ 4 ∧ kar k ≠ 5 := by decide
theorem rfT_c : ∀ k, k < 30 → ∀ x, x ∈ rfT k → x < 30 := by decide
theorem kcl_r : ∀ k, k < 60 → 30 ≤ k → k ≠ 30 → kcl k = 9 := by decide
theorem CLo_c : CLo Pc true := ⟨fun k h => (kar_c k (Pc_lt.mp h)).1, fun _ => ⟨rfl, rfl⟩, fun k h e => Pc_lt.mpr ((kar_c k (Pc_lt.mp h)).2 e), fun _ _ _ => ⟨rfl, rfl⟩⟩
theorem CLo_r : CLo Pr false := ⟨fun k h => (kar_r k (Pr_lt.mp h).2 (Pr_lt.mp h).1).1, fun h => absurd h (by decide), fun k h e => absurd e (kar_r k (Pr_lt.mp h).2 (Pr_lt.mp h).1).2.1, fun k h e => absurd e (kar_r k (Pr_lt.mp h).2 (Pr_lt.mp h).1).2.2⟩
theorem getD_lt {l : List Nat} {n : Nat} (h : ∀ x, x ∈ l → x < n) (h0 : 0 < n) : ∀ k, l.getD k 0 < n := by
  intro k
  rw [List.getD_eq_getElem?_getD]
  cases e : l[k]? with
  | none => exact h0
  | some x => exact h x (List.mem_of_getElem? e)
theorem nT_c : nT_k Pc (fun _ => true) := by
  intro i pc en _ _
  obtain ⟨ins, len, a, b, d, e, f, pos, cv, lv, sw, ks⟩ := en
  cases ins
  case getfield => exact fun _ kd hk _ => Pc_lt.mpr (getD_lt (rfT_c kd (Pc_lt.mp hk)) (by decide) b)
  case invokestatic => exact Or.inr (Or.inr (Or.inr (Or.inr rfl)))
  case invokevirtual => exact rfl
  all_goals exact trivial
def Mr (i : Nat) : Bool := (decide (144 ≤ i) && decide (i < 237)) || decide (i < 9)
def eOk (en : En) : Bool := match en with
  | (ins, _, a, b, d, _, _, _, _, _, _, _) => match ins with
    | .getfield _ => !(Nat.beq d 2) || (!(Nat.beq a 9) && Pr ((rfT 30).getD b 0))
    | .invokestatic _ => Nat.beq a 999 || (Nat.beq a 993 || (Nat.beq a 994 || (Nat.beq a 996 || Mr a)))
    | .invokevirtual _ => Mr a
    | _ => true
theorem eOk_k {en : En} (h : eOk en = true) : nE_k Pr Mr en := by
  obtain ⟨ins, len, a, b, d, e, f, pos, cv, lv, sw, ks⟩ := en
  cases ins
  case getfield =>
    intro hd kd hk hc
    have h' : (!(Nat.beq d 2) || (!(Nat.beq a 9) && Pr ((rfT 30).getD b 0))) = true := h
    rw [hd] at h'
    have h2 : (!(Nat.beq a 9) && Pr ((rfT 30).getD b 0)) = true := h'
    rw [Bool.and_eq_true] at h2
    by_cases e30 : kd = 30
    · rw [e30]
      exact h2.2
    · have := kcl_r kd (Pr_lt.mp hk).2 (Pr_lt.mp hk).1 e30
      rw [this] at hc
      rw [← hc] at h2
      exact absurd h2.1 (by decide)
  case invokestatic =>
    have h' : (Nat.beq a 999 || (Nat.beq a 993 || (Nat.beq a 994 || (Nat.beq a 996 || Mr a)))) = true := h
    rw [Bool.or_eq_true, Bool.or_eq_true, Bool.or_eq_true, Bool.or_eq_true] at h'
    rcases h' with h | h | h | h | h
    · exact Or.inl (Nat.eq_of_beq_eq_true h)
    · exact Or.inr (Or.inl (Nat.eq_of_beq_eq_true h))
    · exact Or.inr (Or.inr (Or.inl (Nat.eq_of_beq_eq_true h)))
    · exact Or.inr (Or.inr (Or.inr (Or.inl (Nat.eq_of_beq_eq_true h))))
    · exact Or.inr (Or.inr (Or.inr (Or.inr h)))
  case invokevirtual => exact h
  all_goals exact trivial
theorem lkp_mem {en : En} {pc : Nat} : ∀ l : List (Nat × En), lkp l pc = some en → ∃ p, (p, en) ∈ l
  | [], h => by cases h
  | (p, e) :: r, h => by
    unfold lkp at h
    cases hb : Nat.beq p pc with
    | true =>
      rw [hb] at h
      have h' : some e = some en := h
      cases h'
      exact ⟨p, List.mem_cons_self⟩
    | false =>
      rw [hb] at h
      obtain ⟨p', hp⟩ := lkp_mem r h
      exact ⟨p', List.mem_cons_of_mem _ hp⟩
def mOk (i : Nat) : Bool := (mtab i).all (fun q => eOk q.2)
theorem mOk_0 : (List.range 9).all mOk = true := by decide +kernel
theorem mOk_1 : (List.range 93).all (fun i => mOk (144 + i)) = true := by decide +kernel
theorem nT_r : nT_k Pr Mr := by
  intro i pc en hi he
  obtain ⟨p, hp⟩ := lkp_mem _ he
  have hm : mOk i = true := by
    unfold Mr at hi
    rw [Bool.or_eq_true, Bool.and_eq_true, decide_eq_true_eq, decide_eq_true_eq, decide_eq_true_eq] at hi
    rcases hi with ⟨h1, h2⟩ | h
    · have := List.all_eq_true.mp mOk_1 (i - 144) (List.mem_range.mpr (by omega))
      rw [show 144 + (i - 144) = i by omega] at this
      exact this
    · exact List.all_eq_true.mp mOk_0 i (List.mem_range.mpr h)
  exact eOk_k (List.all_eq_true.mp hm (p, en) hp)
/-- the class's part of t over s; the reference's part of t over s -/
def oC (s t : SS) : SS := mg Pc true s t
def oR (s t : SS) : SS := mg Pr false s t
theorem ev_C {i : Nat} {ls : LO} {s t : SS} {a : Option AV} (g : SS) (hl : nL_k Pc ls) (h : ev i 0 ls [] s = some (a, t)) : ev i 0 ls [] (oC g s) = some (a, oC g t) := ev_m CLo_c nT_c rfl hl h
theorem ev_R {i : Nat} {ls : LO} {s t : SS} {a : Option AV} (g : SS) (hi : Mr i = true) (hl : nL_k Pr ls) (h : ev i 0 ls [] s = some (a, t)) : ev i 0 ls [] (oR g s) = some (a, oR g t) := ev_m CLo_r nT_r hi hl h
theorem oC_1 {g s : SS} {a : Nat} (h : a < 30) (b c : Nat) : (oC g s).1 a b c = s.1 a b c := mg_1 (Pc_lt.mpr h) b c
theorem oC_2 {g s : SS} {a : Nat} (h : a < 30) (b c : Nat) : (oC g s).2.1 a b c = s.2.1 a b c := mg_2 (Pc_lt.mpr h) b c
theorem oC_g1 {g s : SS} {a : Nat} (h : 30 ≤ a) (b c : Nat) : (oC g s).1 a b c = g.1 a b c := by
  show (bif Pc a then _ else _) = _
  have : Pc a = false := by
    unfold Pc
    rw [decide_eq_false (by omega)]
  rw [this]
  rfl
theorem oC_g2 {g s : SS} {a : Nat} (h : 30 ≤ a) (b c : Nat) : (oC g s).2.1 a b c = g.2.1 a b c := by
  show (bif Pc a then _ else _) = _
  have : Pc a = false := by
    unfold Pc
    rw [decide_eq_false (by omega)]
  rw [this]
  rfl
theorem oC_3 (g s : SS) : (oC g s).2.2 = s.2.2 := rfl
theorem oR_1 {g s : SS} {a : Nat} (h1 : 30 ≤ a) (h2 : a < 60) (b c : Nat) : (oR g s).1 a b c = s.1 a b c := mg_1 (Pr_lt.mpr ⟨h1, h2⟩) b c
theorem oR_2 {g s : SS} {a : Nat} (h1 : 30 ≤ a) (h2 : a < 60) (b c : Nat) : (oR g s).2.1 a b c = s.2.1 a b c := mg_2 (Pr_lt.mpr ⟨h1, h2⟩) b c
theorem Pr_no {a : Nat} (h : a < 30 ∨ 60 ≤ a) : Pr a = false := by
  unfold Pr
  rcases h with h | h
  · rw [decide_eq_false (show ¬ 30 ≤ a by omega), Bool.false_and]
  · rw [decide_eq_false (show ¬ a < 60 by omega), Bool.and_false]
theorem oR_g1 {g s : SS} {a : Nat} (h : a < 30 ∨ 60 ≤ a) (b c : Nat) : (oR g s).1 a b c = g.1 a b c := by
  show (bif Pr a then _ else _) = _
  rw [Pr_no h]
  rfl
theorem oR_g2 {g s : SS} {a : Nat} (h : a < 30 ∨ 60 ≤ a) (b c : Nat) : (oR g s).2.1 a b c = g.2.1 a b c := by
  show (bif Pr a then _ else _) = _
  rw [Pr_no h]
  rfl
theorem oR_3 (g s : SS) : (oR g s).2.2 = g.2.2 := rfl
theorem SS_ext {s t : SS} (h1 : ∀ a b c, s.1 a b c = t.1 a b c) (h2 : ∀ a b c, s.2.1 a b c = t.2.1 a b c) (h3 : s.2.2 = t.2.2) : s = t := by
  obtain ⟨a, b, c⟩ := s
  obtain ⟨a', b', c'⟩ := t
  have e1 : a = a' := by
    funext x y z
    exact h1 x y z
  have e2 : b = b' := by
    funext x y z
    exact h2 x y z
  have e3 : c = c' := h3
  rw [e1, e2, e3]
theorem oC_eq {g s t : SS} (h1 : ∀ a b c, a < 30 → t.1 a b c = s.1 a b c) (h2 : ∀ a b c, 30 ≤ a → t.1 a b c = g.1 a b c) (h3 : ∀ a b c, a < 30 → t.2.1 a b c = s.2.1 a b c) (h4 : ∀ a b c, 30 ≤ a → t.2.1 a b c = g.2.1 a b c) (h5 : t.2.2 = s.2.2) : t = oC g s := by
  refine SS_ext (fun a b c => ?_) (fun a b c => ?_) h5
  · by_cases h : a < 30
    · rw [oC_1 h]; exact h1 a b c h
    · rw [oC_g1 (by omega)]; exact h2 a b c (by omega)
  · by_cases h : a < 30
    · rw [oC_2 h]; exact h3 a b c h
    · rw [oC_g2 (by omega)]; exact h4 a b c (by omega)
theorem oR_eq {g s t : SS} (h1 : ∀ a b c, 30 ≤ a → a < 60 → t.1 a b c = s.1 a b c) (h2 : ∀ a b c, (a < 30 ∨ 60 ≤ a) → t.1 a b c = g.1 a b c) (h3 : ∀ a b c, 30 ≤ a → a < 60 → t.2.1 a b c = s.2.1 a b c) (h4 : ∀ a b c, (a < 30 ∨ 60 ≤ a) → t.2.1 a b c = g.2.1 a b c) (h5 : t.2.2 = g.2.2) : t = oR g s := by
  refine SS_ext (fun a b c => ?_) (fun a b c => ?_) h5
  · by_cases h : 30 ≤ a ∧ a < 60
    · rw [oR_1 h.1 h.2]; exact h1 a b c h.1 h.2
    · rw [oR_g1 (by omega)]; exact h2 a b c (by omega)
  · by_cases h : 30 ≤ a ∧ a < 60
    · rw [oR_2 h.1 h.2]; exact h3 a b c h.1 h.2
    · rw [oR_g2 (by omega)]; exact h4 a b c (by omega)
