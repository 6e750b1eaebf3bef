/-- the class has weighed by A -/
def CW (s : SS) (A : Nat → Bool) (u : SS) : Prop := (∀ v, v < nW s → u.1 20 0 v = cC s A v) ∧ CB s A (nW s) u ∧ (∀ v, v < nW s → u.2.1 21 0 v = lN (shN s A v)) ∧ u.2.1 11 0 9 = lN (allN s A) ∧ ∀ k, k < 8 → u.1 22 0 k = nI (wA22 s A k)
theorem cC_1 {s : SS} {A : Nat → Bool} (hS : JS s) (hL : JL s) (v : Nat) : (cC s A v = 1000000) = (hbB s A v = true) := by
  apply propext
  have hc := sc_le hS hL A v
  unfold cC
  by_cases hb : hbB s A v = true
  · rw [if_pos hb]
    exact ⟨fun _ => hb, fun _ => rfl⟩
  · rw [if_neg hb, show (1000000 : Int32) = nI 1000000 from rfl, n_eq (by omega) (by decide)]
    exact ⟨fun z => by omega, fun z => absurd z hb⟩
theorem c_51 {s t : SS} {A : Nat → Bool} (hS : JS s) (hL : JL s) {v : Nat} (hv : v < nW s) (h : t.1 20 0 v = cC s A v) : ev 51 0 [some (.inr (.inr (11, 0))), some (.inl (nI v))] [] t = some (some (.inl (bI (hbB s A v))), t) := by
  have hW := nW_le hS
  rw [q_51, if_pos (ixB_nI (show v < 1024 by omega) (by decide)), cl_nI (by omega), h]
  simp only [cC_1 hS hL]
  cases hbB s A v <;> rfl
theorem c_46 {s t : SS} {A : Nat → Bool} (hS : JS s) (hL : JL s) (h0 : t.1 11 0 0 = nI (nW s)) (g0 : ∀ v, v < nW s → t.1 20 0 v = cC s A v) (b0 : CB s A (nW s) t) (h22 : ∀ k, k < 8 → t.1 22 0 k = nI (wA22 s A k)) : ∃ u, ev 46 0 [some (.inr (.inr (11, 0))), none, none] [] t = some (none, u) ∧ CF t u ∧ CW s A u := by
  have hW := nW_le hS
  have hl := lpX (fun i u => ev 46 7 [some (.inr (.inr (11, 0))), some (.inl (nI i)), none] [] u) (fun i u => u.1 = t.1 ∧ CF t u ∧ (∀ v, v < i → u.2.1 21 0 v = lN (shN s A v)) ∧ u.2.1 11 0 9 = lN (sm (shN s A) i)) (nW s) (fun i u hi hu => by
    obtain ⟨e1, o, g, b⟩ := hu
    have x : ixB (nI i) 1024 = true := ixB_nI (by omega) (by decide)
    have ci : u.1 20 0 i = cC s A i := by rw [e1]; exact g0 i hi
    have at37 : ev 46 37 [some (.inr (.inr (11, 0))), some (.inl (nI i)), none] [(.inr (.inl (lN (shN s A i)))), (.inl (nI i)), (.inr (.inr (21, 0)))] u = ev 46 7 [some (.inr (.inr (11, 0))), some (.inl (nI (i + 1))), none] [] (wL (wL u 21 0 i (lN (shN s A i))) 11 0 9 (lN (sm (shN s A) (i + 1)))) := by
      have f : ∀ c, (wL u 21 0 i c).2.1 21 0 i = c := fun c => by rw [wL_2, if_pos ⟨rfl, rfl, rfl⟩]
      have f30 : ∀ c, (wL u 21 0 i c).2.1 11 0 9 = lN (sm (shN s A) i) := fun c => by rw [wL_2, if_neg (by omega)]; exact b
      rw [q_46_at37, if_pos x, if_pos x, cl_nI (by omega), f, f30, lN_add, nI_s]
      rfl
    refine ⟨wL (wL u 21 0 i (lN (shN s A i))) 11 0 9 (lN (sm (shN s A) (i + 1))), ?_, e1, CF_tr o (CF_tr CF_21 CF_9), fun v hv => ?_, rfl⟩
    · show ev 46 7 [some (.inr (.inr (11, 0))), some (.inl (nI i)), none] [] u = _
      rw [q_46_at7, show u.1 11 0 0 = nI (nW s) by rw [e1]; exact h0, if_pos (nI_lt hi (by omega)), q_54, if_pos x, c_51 hS hL hi ci, cI_s, ite_bI, cl_nI (by omega), ci]
      refine Eq.trans ?_ at37
      have hc := sc_le hS hL A i
      by_cases hb : hbB s A i = true
      · have es : shN s A i = 0 := by
          unfold shN
          rw [if_pos hb]
        rw [if_pos hb, es, cI_s, if_pos (by decide)]
        rfl
      · have ec : cC s A i = nI (scN s A i) := if_neg hb
        have hb' : hbB s A i = false := by
          cases hx : hbB s A i with
          | false => rfl
          | true => exact absurd hx hb
        obtain ⟨w, c, hp, hle⟩ := bst_min hi hb'
        have es : shN s A i = if 20 < scN s A i - c then 0 else 2 ^ (20 - (scN s A i - c)) := by
          unfold shN
          rw [if_neg hb, hp]
        have b31 : u.1 11 0 8 = nI c := by
          rw [e1]
          unfold CB at b0
          rw [hp] at b0
          exact b0.2
        rw [ec, if_neg hb, b31, n_sub hle, es]
        by_cases h20 : 20 < scN s A i - c
        · rw [if_pos h20, if_pos (show (20 : Int32) < nI (scN s A i - c) from nI_lt h20 (by omega)), cI_s, if_pos (by decide)]
          rfl
        · rw [if_neg h20, if_neg (show ¬ (20 : Int32) < nI (scN s A i - c) from fun z => h20 ((n_lt (a := 20) (by decide) (by omega)).mp z)), show (20 : Int32) - nI (scN s A i - c) = nI (20 - (scN s A i - c)) from n_sub (a := 20) (b := scN s A i - c) (by omega), cI_s, if_neg (nI_pos (by omega)), sh20 _ (by omega)]
    · have : (wL (wL u 21 0 i (lN (shN s A i))) 11 0 9 (lN (sm (shN s A) (i + 1)))).2.1 21 0 v = if v = i then lN (shN s A i) else u.2.1 21 0 v := by
        rw [wL_2, if_neg (by omega), wL_2]
        by_cases e : v = i
        · rw [if_pos ⟨rfl, rfl, e⟩, if_pos e]
        · rw [if_neg (fun z => e z.2.2), if_neg e]
      rw [this]
      by_cases e : v = i
      · rw [if_pos e, e]
      · rw [if_neg e]
        exact g v (by omega)) (wL t 11 0 9 0) ⟨rfl, CF_9, fun v hv => absurd hv (Nat.not_lt_zero v), rfl⟩
  obtain ⟨u, e, e1, o, g, b⟩ := hl
  have b1 : CB s A (nW s) u := by
    unfold CB at b0 ⊢
    rw [e1]
    exact b0
  refine ⟨u, ?_, o, fun v hv => by rw [e1]; exact g0 v hv, b1, g, b, fun k hk => by rw [e1]; exact h22 k hk⟩
  rw [q_46]
  refine (show ev 46 7 [some (.inr (.inr (11, 0))), some (.inl (nI 0)), none] [] (wL t 11 0 9 0) = _ from e).trans ?_
  rw [q_46_at7, show u.1 11 0 0 = nI (nW s) by rw [e1]; exact h0, if_neg (irr _)]
theorem c_45 {s : SS} (hS : JS s) (hL : JL s) (hT : Tab s) {m : Nat} (hm : m < 256) : ∃ u, ev 45 0 [some (.inr (.inr (11, 0))), some (.inr (.inr (10, 0))), some (.inl (nI m)), none, none, none, none] [] s = some (none, u) ∧ CF s u ∧ CW s (fun k => !m.testBit k) u := by
  obtain ⟨t, x, e, o, hM, h22⟩ := c_45a hS hL hm
  obtain ⟨u, e2, o2, g2, b2, -, w2⟩ := c_45b hS hL hT hM o h22
  have h0 : u.1 11 0 0 = nI (nW s) := (o2.1 11 0 0 (by decide) (by decide) (by decide)).trans hT.1
  obtain ⟨v, e3, o3, c3⟩ := c_46 hS hL h0 g2 b2 w2
  refine ⟨v, ?_, CF_tr o2 o3, c3⟩
  rw [e, e2, e3, cV_s]
/-! surveying -/
def QF (s u : SS) : Prop := (∀ a b c, a ≠ 11 → a ≠ 18 → a ≠ 20 → a ≠ 22 → (a = 0 → c ≠ 8) → u.1 a b c = s.1 a b c) ∧ u.2.2 = s.2.2 ∧ ∀ a b c, a ≠ 11 → a ≠ 19 → a ≠ 21 → u.2.1 a b c = s.2.1 a b c
theorem QF_rf {s : SS} : QF s s := ⟨fun _ _ _ _ _ _ _ _ => rfl, rfl, fun _ _ _ _ _ _ => rfl⟩
theorem QF_tr {s t u : SS} (h1 : QF s t) (h2 : QF t u) : QF s u := ⟨fun a b c x y z w q => (h2.1 a b c x y z w q).trans (h1.1 a b c x y z w q), h2.2.1.trans h1.2.1, fun a b c x y z => (h2.2.2 a b c x y z).trans (h1.2.2 a b c x y z)⟩
theorem QF_CF {s u : SS} (h : CF s u) : QF s u := ⟨fun a b c x _ z w _ => h.1 a b c z w (fun e => absurd e x), h.2.1, fun a b c x _ z => h.2.2 a b c z (fun e => absurd e x)⟩
theorem QF_WK {s u : SS} (h : WK s u) : QF s u := ⟨fun a b c x y _ _ _ => h.1 a b c x y, h.2.1, fun a b c _ y _ => h.2.2 a b c y⟩
theorem QF_8 {s : SS} {v : Int32} : QF s (wI s 0 0 8 v) := ⟨fun a b c _ _ _ _ y => by rw [wI_1, if_neg (fun z => y z.1 z.2.2)], rfl, fun _ _ _ _ _ _ => rfl⟩
theorem QF_Ag {s u : SS} (h : QF s u) {K : List Nat} (hd : ∀ a, a ∈ K → a ≠ 11 ∧ a ≠ 18 ∧ a ≠ 20 ∧ a ≠ 22 ∧ a ≠ 0 ∧ a ≠ 19 ∧ a ≠ 21) : Ag K s u := ⟨fun a ha => ⟨fun b c => h.1 a b c (hd a ha).1 (hd a ha).2.1 (hd a ha).2.2.1 (hd a ha).2.2.2.1 (fun z => absurd z (hd a ha).2.2.2.2.1), fun b c => h.2.2 a b c (hd a ha).1 (hd a ha).2.2.2.2.2.1 (hd a ha).2.2.2.2.2.2⟩, h.2.1⟩
theorem QF_0 {s u : SS} (h : QF s u) {c : Nat} (hc : c ≠ 8) : u.1 0 0 c = s.1 0 0 c := h.1 0 0 c (by decide) (by decide) (by decide) (by decide) (fun _ => hc)
theorem QF_30 {s u : SS} (h : QF s u) (c : Nat) : u.1 30 0 c = s.1 30 0 c := h.1 30 0 c (by decide) (by decide) (by decide) (by decide) (fun z => absurd z (by decide))
theorem QF_SP {s u : SS} (h : QF s u) : SP s u := ⟨QF_Ag h (by decide), QF_30 h 10⟩
theorem QF_J {s u : SS} (h : QF s u) (hJ : J s) (hB : JB u) : J u := ⟨JR_ag (QF_Ag h (by decide)) hJ.1, JT_ag (QF_Ag h (by decide)) hJ.2.1, JF_ag (QF_Ag h (by decide)) (QF_0 h (by decide)) (QF_0 h (by decide)) (QF_30 h _) (QF_30 h _) (h.2.2 0 0 _ (by decide) (by decide) (by decide)) (h.2.2 0 0 _ (by decide) (by decide) (by decide)) (h.2.2 30 0 _ (by decide) (by decide) (by decide)) (h.2.2 30 0 _ (by decide) (by decide) (by decide)) hJ.2.2.1, JS_ag (QF_Ag h (by decide)) (QF_0 h (by decide)) (QF_30 h _) hJ.2.2.2.1, JL_ag (QF_Ag h (by decide)) hJ.2.2.2.2.1, hB⟩
theorem CF_J {s u : SS} (h : CF s u) (hJ : J s) (h8 : s.1 0 0 8 = 0) (hT : Tab s) : J u := QF_J (QF_CF h) hJ (Or.inr ⟨(h.1 0 0 8 (by decide) (by decide) (by decide)).trans h8, CF_Tab h hT⟩)
theorem SP_cC {s t : SS} (h : SP s t) : cC t = cC s := by
  funext A v
  unfold cC
  rw [SP_hb h, SP_sc h]
theorem SP_CW {s t u : SS} {A : Nat → Bool} (h : SP s t) (hw : CW t A u) : CW s A u := by
  have e22 : wA22 t = wA22 s := by
    funext A k
    unfold wA22
    rw [SP_wt h, (h.1.1 42 (by decide)).1]
  unfold CW CB at hw
  rw [(SP_brk h).2.2, SP_cC h, SP_bst h, SP_sh h, SP_all h, e22] at hw
  exact hw
/-- the state after a survey -/
def SV (s : SS) (A : Nat → Bool) (u : SS) : Prop := QF s u ∧ J u ∧ Tab u ∧ u.1 0 0 8 = 0 ∧ CW s A u
theorem c_126 {s : SS} (h : J s) {m : Nat} (hm : m < 256) : ∃ u, ev 126 0 [some (.inr (.inr (0, 0))), some (.inl (nI m))] [] s = some (none, u) ∧ SV s (fun k => !m.testBit k) u := by
  have hS := h.2.2.2.1
  have hL := h.2.2.2.2.1
  rcases h.2.2.2.2.2 with h8 | ⟨h8, hT⟩
  · obtain ⟨t, e1, wk, tw, g⟩ := c_39 hS hL
    have q1 : QF s (wI t 0 0 8 0) := QF_tr (QF_WK wk) QF_8
    have sp := QF_SP q1
    have hT : Tab (wI t 0 0 8 0) := by
      unfold Tab
      rw [(SP_brk sp).2.2, (SP_bk sp).1, (SP_bk sp).2]
      exact ⟨tw.1, fun w hw => TW_tr tw hw, fun w hw => g w hw⟩
    have hJ : J (wI t 0 0 8 0) := QF_J q1 h (Or.inr ⟨rfl, hT⟩)
    obtain ⟨u, e2, cf, cw⟩ := c_45 hJ.2.2.2.1 hJ.2.2.2.2.1 hT hm
    refine ⟨u, ?_, QF_tr q1 (QF_CF cf), CF_J cf hJ rfl hT, CF_Tab cf hT, (cf.1 0 0 8 (by decide) (by decide) (by decide)).trans rfl, SP_CW sp cw⟩
    rw [q_126, h8, if_neg (by decide), hS.1.2.2.1, e1, cV_s, e2, cV_s]
  · obtain ⟨u, e2, cf, cw⟩ := c_45 hS hL hT hm
    refine ⟨u, ?_, QF_CF cf, CF_J cf h h8 hT, CF_Tab cf hT, (cf.1 0 0 8 (by decide) (by decide) (by decide)).trans h8, cw⟩
    rw [q_126, h8, if_pos rfl, e2, cV_s]
