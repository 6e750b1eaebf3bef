/-- t differs from s in the class's table alone -/
def WK (s t : SS) : Prop := (∀ a b c, a ≠ 11 → a ≠ 18 → t.1 a b c = s.1 a b c) ∧ t.2.2 = s.2.2 ∧ ∀ a b c, a ≠ 19 → t.2.1 a b c = s.2.1 a b c
theorem WK_rf {s : SS} : WK s s := ⟨fun _ _ _ _ _ => rfl, rfl, fun _ _ _ _ => rfl⟩
theorem WK_tr {s t u : SS} (h1 : WK s t) (h2 : WK t u) : WK s u := ⟨fun a b c x y => (h2.1 a b c x y).trans (h1.1 a b c x y), h2.2.1.trans h1.2.1, fun a b c x => (h2.2.2 a b c x).trans (h1.2.2 a b c x)⟩
theorem WK_off {s t : SS} (h : OffK [11, 18] s t) : WK s t := ⟨fun a b c x y => h.1 a b c (by simp [x, y]), by rw [h.2], fun a b c _ => by rw [h.2]⟩
theorem WK_L {s t : SS} (h : OffL s t) : WK s t := ⟨fun a b c _ _ => by rw [h.1], h.2.1, h.2.2⟩
theorem WK_Ag {s t : SS} (h : WK s t) {K : List Nat} (hd : ∀ a, a ∈ K → a ≠ 11 ∧ a ≠ 18 ∧ a ≠ 19) : Ag K s t := ⟨fun a ha => ⟨fun b c => h.1 a b c (hd a ha).1 (hd a ha).2.1, fun b c => h.2.2 a b c (hd a ha).2.2⟩, h.2.1⟩
theorem WK_JS {s t : SS} (h : WK s t) (hS : JS s) : JS t := JS_ag (WK_Ag h (by decide)) (h.1 0 0 7 (by decide) (by decide)) (h.1 30 0 10 (by decide) (by decide)) hS
theorem WK_brk {s t : SS} (h : WK s t) : brk t = brk s ∧ soB t = soB s ∧ nW t = nW s := brk_ag (WK_Ag h (by decide)) (h.1 30 0 10 (by decide) (by decide))
theorem WK_Hd {s t : SS} (h : WK s t) {j k kd np w f : Nat} (g : Hd s j k kd np w f) : Hd t j k kd np w f := by
  have e : ∀ a b c, a ≠ 11 → a ≠ 18 → t.1 a b c = s.1 a b c := h.1
  have x13 := fun b c => e 13 b c (by decide) (by decide)
  have x14 := fun b c => e 14 b c (by decide) (by decide)
  have x15 := fun b c => e 15 b c (by decide) (by decide)
  have x16 := fun b c => e 16 b c (by decide) (by decide)
  have x17 := fun b c => e 17 b c (by decide) (by decide)
  have x42 := fun b c => e 42 b c (by decide) (by decide)
  have x43 := fun b c => e 43 b c (by decide) (by decide)
  have x44 := fun b c => e 44 b c (by decide) (by decide)
  have x45 := fun b c => e 45 b c (by decide) (by decide)
  have x46 := fun b c => e 46 b c (by decide) (by decide)
  have x47 := fun b c => e 47 b c (by decide) (by decide)
  have x48 := fun b c => e 48 b c (by decide) (by decide)
  have x49 := fun b c => e 49 b c (by decide) (by decide)
  unfold Hd PJ at g ⊢
  simp only [x13, x14, x15, x16, x17, x42, x43, x44, x45, x46, x47, x48, x49]
  exact g
theorem TW_tr {s t : SS} (h : TW s t 28) {v : Nat} (hv : v < nW s) : t.1 18 0 v = nI (trN s v) := by
  apply tb_ext
  intro b hb
  rw [TW_so h hv hb, tb_n, tr_bit, decide_eq_true hb, Bool.true_and]
theorem brk_1 {s : SS} {j k kd np w f : Nat} (h : Hd s j k kd np w f) (h3 : 3 ≤ kd) (v : Nat) : brk s k v = 0 ∨ brk s k v = 1 := by
  unfold brk
  rw [(Hd_n h).1, if_neg (show ¬ kd = 0 by omega), if_pos h3]
  by_cases a : kd = 3
  · rw [if_pos a]
    split
    · exact Or.inr rfl
    · exact Or.inl rfl
  · rw [if_neg a]
    split
    · exact Or.inl rfl
    · exact Or.inr rfl
theorem WK_nN {s t : SS} (h : WK s t) : nN t = nN s := by
  unfold nN
  rw [h.1 30 0 10 (by decide) (by decide)]
theorem c_43 {s t : SS} {j k kd np w f : Nat} (hS : JS s) (hk : k < 8) (h : Hd s j k kd np w f) (h3 : 3 ≤ kd) (hw : TW s t 28) (wk : WK s t) : ∃ u, ev 43 0 [some (.inr (.inr (11, 0))), some (.inl (nI k)), some (.inr (.inr (13, j))), some (.inl (nI (nN s))), none] [] t = some (none, u) ∧ OffL t u ∧ ∀ v, v < nW s → u.2.1 19 0 v = t.2.1 19 0 v + lN (brk s k v * 256 ^ k) := by
  have hW := nW_le hS
  have h0 : t.1 11 0 0 = nI (nW s) := hw.1
  have hl := lpF (fun i u => ev 43 3 [some (.inr (.inr (11, 0))), some (.inl (nI k)), some (.inr (.inr (13, j))), some (.inl (nI (nN s))), some (.inl (nI i))] [] u) (fun i u => if brk s k i = 0 then u else wL u 19 0 i (u.2.1 19 0 i + lN (256 ^ k))) (fun i u => OffL t u ∧ ∀ v, u.2.1 19 0 v = if v < i then t.2.1 19 0 v + lN (brk s k v * 256 ^ k) else t.2.1 19 0 v) (nW s) (fun i u hi hu => by
    obtain ⟨o, g⟩ := hu
    have x : ixB (nI i) 1024 = true := ixB_nI (by omega) (by decide)
    have wu : WK s u := WK_tr wk (WK_L o)
    have gi := g i
    rw [if_neg (Nat.lt_irrefl i)] at gi
    have tl28 := tr_lt s i
    have ev38 : ev 38 0 [some (.inr (.inr (13, j))), some (.inl (nI (trN s i))), some (.inl (nI (nN s))), none, none, none] [] u = some (some (.inl (nI (brk s k i))), u) := by
      have := c_38 (WK_JS wu hS) (v := i) (T := trN s i) (WK_Hd wu h) h3 (by omega) (fun b hb => by rw [tr_bit, decide_eq_true hb, Bool.true_and, (WK_brk wu).2.1])
      rw [WK_nN wu, (WK_brk wu).1] at this
      exact this
    have step : ev 43 3 [some (.inr (.inr (11, 0))), some (.inl (nI k)), some (.inr (.inr (13, j))), some (.inl (nI (nN s))), some (.inl (nI i))] [] u = ev 43 3 [some (.inr (.inr (11, 0))), some (.inl (nI k)), some (.inr (.inr (13, j))), some (.inl (nI (nN s))), some (.inl (nI (i + 1)))] [] ((if brk s k i = 0 then u else wL u 19 0 i (u.2.1 19 0 i + lN (256 ^ k)))) := by
      rw [q_43_at3, o.1, h0, if_pos (nI_lt hi (by omega)), if_pos x, cl_nI (by omega), TW_tr hw hi, ev38, cI_s, if_pos x, if_pos x, nI_s, sh8 k hk]
      rcases brk_1 h h3 i with e | e
      · rw [e, if_pos (show nI 0 = 0 from rfl), if_pos rfl]
      · rw [e, if_neg (show ¬ nI 1 = 0 by decide), if_neg (by decide)]
    refine ⟨step, ?_⟩
    rcases brk_1 h h3 i with e | e
    · simp only [if_pos e]
      refine ⟨o, fun v => ?_⟩
      rw [g v]
      by_cases ev : v = i
      · subst ev
        rw [if_neg (Nat.lt_irrefl v), if_pos (Nat.lt_succ_self v), e, Nat.zero_mul, lN0]
      · by_cases z : v < i
        · rw [if_pos z, if_pos (by omega)]
        · rw [if_neg z, if_neg (by omega)]
    · have e' : ¬ brk s k i = 0 := by omega
      simp only [if_neg e']
      refine ⟨OL_tr o OL_w, fun v => ?_⟩
      rw [wL_2]
      by_cases ev : v = i
      · subst ev
        rw [if_pos ⟨rfl, rfl, rfl⟩, if_pos (Nat.lt_succ_self v), gi, e, Nat.one_mul]
      · rw [if_neg (fun z => ev z.2.2), g v]
        by_cases z : v < i
        · rw [if_pos z, if_pos (by omega)]
        · rw [if_neg z, if_neg (by omega)]) t ⟨OL_rf, fun v => by rw [if_neg (Nat.not_lt_zero v)]⟩
  obtain ⟨p1, o, g⟩ := hl
  refine ⟨_, ?_, o, fun v hv => by rw [g v, if_pos hv]⟩
  rw [q_43]
  refine (show ev 43 3 [some (.inr (.inr (11, 0))), some (.inl (nI k)), some (.inr (.inr (13, j))), some (.inl (nI (nN s))), some (.inl (nI 0))] [] t = _ from p1).trans ?_
  rw [q_43_at3, o.1, h0, if_neg (irr _)]
