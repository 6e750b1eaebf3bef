/-! weighing, class -/
def CF (s u : SS) : Prop := (∀ a b c, a ≠ 20 → a ≠ 22 → (a = 11 → c ≠ 7 ∧ c ≠ 8) → u.1 a b c = s.1 a b c) ∧ u.2.2 = s.2.2 ∧ ∀ a b c, a ≠ 21 → (a = 11 → c ≠ 9) → u.2.1 a b c = s.2.1 a b c
theorem CF_rf {s : SS} : CF s s := ⟨fun _ _ _ _ _ _ => rfl, rfl, fun _ _ _ _ _ => rfl⟩
theorem CF_tr {s t u : SS} (h1 : CF s t) (h2 : CF t u) : CF s u := ⟨fun a b c x y z => (h2.1 a b c x y z).trans (h1.1 a b c x y z), h2.2.1.trans h1.2.1, fun a b c x y => (h2.2.2 a b c x y).trans (h1.2.2 a b c x y)⟩
theorem CF_20 {s : SS} {j i : Nat} {v : Int32} : CF s (wI s 20 j i v) := ⟨fun a b c x _ _ => by rw [wI_1, if_neg (fun z => x z.1)], rfl, fun _ _ _ _ _ => rfl⟩
theorem CF_22 {s : SS} {j i : Nat} {v : Int32} : CF s (wI s 22 j i v) := ⟨fun a b c _ x _ => by rw [wI_1, if_neg (fun z => x z.1)], rfl, fun _ _ _ _ _ => rfl⟩
theorem CF_7 {s : SS} {v : Int32} : CF s (wI s 11 0 7 v) := ⟨fun a b c _ _ y => by rw [wI_1, if_neg (fun z => (y z.1).1 z.2.2)], rfl, fun _ _ _ _ _ => rfl⟩
theorem CF_8 {s : SS} {v : Int32} : CF s (wI s 11 0 8 v) := ⟨fun a b c _ _ y => by rw [wI_1, if_neg (fun z => (y z.1).2 z.2.2)], rfl, fun _ _ _ _ _ => rfl⟩
theorem CF_21 {s : SS} {j i : Nat} {v : Int64} : CF s (wL s 21 j i v) := ⟨fun _ _ _ _ _ _ => rfl, rfl, fun a b c x _ => by rw [wL_2, if_neg (fun z => x z.1)]⟩
theorem CF_9 {s : SS} {v : Int64} : CF s (wL s 11 0 9 v) := ⟨fun _ _ _ _ _ _ => rfl, rfl, fun a b c _ y => by rw [wL_2, if_neg (fun z => y z.1 z.2.2)]⟩
theorem CF_Ag {s u : SS} (h : CF s u) {K : List Nat} (hd : ∀ a, a ∈ K → a ≠ 20 ∧ a ≠ 22 ∧ a ≠ 11 ∧ a ≠ 21) : Ag K s u := ⟨fun a ha => ⟨fun b c => h.1 a b c (hd a ha).1 (hd a ha).2.1 (fun z => absurd z (hd a ha).2.2.1), fun b c => h.2.2 a b c (hd a ha).2.2.2 (fun z => absurd z (hd a ha).2.2.1)⟩, h.2.1⟩
theorem CF_SP {s u : SS} (h : CF s u) : SP s u := ⟨CF_Ag h (by decide), h.1 30 0 10 (by decide) (by decide) (by decide)⟩
theorem CF_JS {s u : SS} (h : CF s u) (hS : JS s) : JS u := JS_ag (CF_Ag h (by decide)) (h.1 0 0 7 (by decide) (by decide) (by decide)) (h.1 30 0 10 (by decide) (by decide) (by decide)) hS
theorem CF_JL {s u : SS} (h : CF s u) (hL : JL s) : JL u := JL_ag (CF_Ag h (by decide)) hL
theorem SP_bk {s u : SS} (h : SP s u) : bkN u = bkN s ∧ trN u = trN s := by
  constructor
  · funext w
    unfold bkN
    rw [(SP_brk h).1]
  · funext w
    unfold trN
    rw [(SP_brk h).2.1]
theorem CF_Tab {s u : SS} (h : CF s u) (hT : Tab s) : Tab u := by
  have e := SP_bk (CF_SP h)
  unfold Tab
  rw [(SP_brk (CF_SP h)).2.2, e.1, e.2, h.1 11 0 0 (by decide) (by decide) (by decide)]
  refine ⟨hT.1, fun w hw => ?_, fun w hw => ?_⟩
  · rw [h.1 18 0 w (by decide) (by decide) (fun z => absurd z (by decide))]
    exact hT.2.1 w hw
  · rw [h.2.2 19 0 w (by decide) (fun z => absurd z (by decide))]
    exact hT.2.2 w hw
def wA22 (s : SS) (A : Nat → Bool) (k : Nat) : Nat := if (A k && softB (s.1 42 0 k)) = true then wtN s k else 0
theorem c_45a {s : SS} (hS : JS s) (hL : JL s) {m : Nat} (hm : m < 256) : ∃ u x, ev 45 0 [some (.inr (.inr (11, 0))), some (.inr (.inr (10, 0))), some (.inl (nI m)), none, none, none, none] [] s = ev 45 124 [some (.inr (.inr (11, 0))), none, none, some (.inr (.inl x)), none, some (.inl 0), none] [] (wI (wI u 11 0 7 0) 11 0 8 1000000) ∧ OffK [22] s u ∧ HM s (fun k => !m.testBit k) 8 x ∧ ∀ k, k < 8 → u.1 22 0 k = nI (wA22 s (fun k => !m.testBit k) k) := by
  have hl := lpX (σ := SS × Int64) (fun i p => ev 45 5 [some (.inr (.inr (11, 0))), some (.inr (.inr (10, 0))), some (.inl (nI m)), some (.inr (.inl p.2)), none, some (.inl (nI i)), none] [] p.1) (fun i p => OffK [22] s p.1 ∧ HM s (fun k => !m.testBit k) i p.2 ∧ ∀ k, k < i → p.1.1 22 0 k = nI (wA22 s (fun k => !m.testBit k) k)) 8 (fun i p hi hp => by
    obtain ⟨u, x⟩ := p
    obtain ⟨o, hM, g⟩ := hp
    simp only at o hM g
    have x8 : ixB (nI i) 8 = true := ixB_nI hi (by decide)
    have e13 : ∀ b c, u.1 13 b c = s.1 13 b c := fun b c => o.1 13 b c (by decide)
    have e22 : u.2.2 = s.2.2 := by rw [o.2]
    have nx : ∀ v, ∀ k, k < i + 1 → v = nI (wA22 s (fun k => !m.testBit k) i) → (wI u 22 0 i v).1 22 0 k = nI (wA22 s (fun k => !m.testBit k) k) := fun v k hk hv => by
      rw [wI_1]
      by_cases e : k = i
      · rw [if_pos ⟨rfl, rfl, e⟩, hv, e]
      · rw [if_neg (fun z => e z.2.2)]
        exact g k (by omega)
    have hM0 : (!m.testBit i && hardB (s.1 42 0 i)) = false → HM s (fun k => !m.testBit k) (i + 1) x := fun hf b hb => by
      rw [hM b hb]
      by_cases e : b / 8 = i
      · rw [decide_eq_false (show ¬ b / 8 < i by omega), e]
        simp only [hf, Bool.and_false, Bool.false_and]
      · by_cases e2 : b / 8 < i
        · rw [decide_eq_true e2, decide_eq_true (show b / 8 < i + 1 by omega)]
        · rw [decide_eq_false e2, decide_eq_false (show ¬ b / 8 < i + 1 by omega)]
    have hM1 : (!m.testBit i && hardB (s.1 42 0 i)) = true → HM s (fun k => !m.testBit k) (i + 1) (x ||| ((255 : Int64) <<< ((nI i * 8).toInt64 &&& 63))) := fun hf b hb => by
      rw [tL_or, hM b hb, m255 hi hb]
      by_cases e : b / 8 = i
      · rw [decide_eq_true e, decide_eq_true (show b / 8 < i + 1 by omega), e]
        simp only [hf, Bool.or_true, Bool.true_and]
      · rw [decide_eq_false e, Bool.or_false]
        by_cases e2 : b / 8 < i
        · rw [decide_eq_true e2, decide_eq_true (show b / 8 < i + 1 by omega)]
        · rw [decide_eq_false e2, decide_eq_false (show ¬ b / 8 < i + 1 by omega)]
    have off : (!m.testBit i && softB (s.1 42 0 i)) = false → (!m.testBit i && hardB (s.1 42 0 i)) = false → ev 45 36 [some (.inr (.inr (11, 0))), some (.inr (.inr (10, 0))), some (.inl (nI m)), some (.inr (.inl x)), none, some (.inl (nI i)), none] [(.inl 0)] u = ev 45 5 [some (.inr (.inr (11, 0))), some (.inr (.inr (10, 0))), some (.inl (nI m)), some (.inr (.inl x)), none, some (.inl (nI (i + 1))), none] [] (wI u 22 0 i 0) := fun _ _ => by
      rw [q_45_at36, if_pos rfl, q_45_at73, if_pos x8, if_pos rfl, cl_nI (by omega), nI_s]
    have lay0 : (!m.testBit i && softB (s.1 42 0 i)) = false → (!m.testBit i && hardB (s.1 42 0 i)) = false → ev 45 36 [some (.inr (.inr (11, 0))), some (.inr (.inr (10, 0))), some (.inl (nI m)), some (.inr (.inl x)), none, some (.inl (nI i)), none] [(.inl 0)] u = ev 45 5 [some (.inr (.inr (11, 0))), some (.inr (.inr (10, 0))), some (.inl (nI m)), some (.inr (.inl x)), none, some (.inl (nI i)), none] [] u → ∃ p' : SS × Int64, ev 45 5 [some (.inr (.inr (11, 0))), some (.inr (.inr (10, 0))), some (.inl (nI m)), some (.inr (.inl x)), none, some (.inl (nI i)), none] [] u = ev 45 5 [some (.inr (.inr (11, 0))), some (.inr (.inr (10, 0))), some (.inl (nI m)), some (.inr (.inl p'.2)), none, some (.inl (nI (i + 1))), none] [] p'.1 ∧ OffK [22] s p'.1 ∧ HM s (fun k => !m.testBit k) (i + 1) p'.2 ∧ ∀ k, k < i + 1 → p'.1.1 22 0 k = nI (wA22 s (fun k => !m.testBit k) k) := fun h1 h2 h3 => by
      refine ⟨(wI u 22 0 i 0, x), ?_, Off_tr o (Off_wI (by decide)), hM0 h2, fun k hk => nx 0 k hk ?_⟩
      · rw [← h3]
        exact off h1 h2
      · unfold wA22
        simp only [h1]
        rfl
    rcases LJ_h (hL.2.2 i hi) with ⟨a1, a2⟩ | ⟨a1, kd, np, w, f, h⟩
    · refine lay0 (by rw [a2]; simp [softB]) (by rw [a2]; simp [hardB]) ?_
      rw [q_45_at5, if_pos (show nI i < (8 : Int32) from nI_lt hi (by decide)), if_pos x8, cl_nI (by omega), e22, e13, a1, if_pos rfl]
    · have f1 : u.1 13 (s.2.2 i) 0 = 1 := (e13 _ _).trans a1
      cases hb : m.testBit i with
      | true =>
        refine lay0 (by rw [hb]; rfl) (by rw [hb]; rfl) ?_
        rw [q_45_at5, if_pos (show nI i < (8 : Int32) from nI_lt hi (by decide)), if_pos x8, cl_nI (by omega), e22, f1, if_neg (by decide), if_neg (by rw [bit_0 (by omega) (by omega), hb]; decide)]
      | false =>
        have s1 : ev 45 5 [some (.inr (.inr (11, 0))), some (.inr (.inr (10, 0))), some (.inl (nI m)), some (.inr (.inl x)), none, some (.inl (nI i)), none] [] u = ev 45 36 [some (.inr (.inr (11, 0))), some (.inr (.inr (10, 0))), some (.inl (nI m)), some (.inr (.inl x)), none, some (.inl (nI i)), none] [(.inl 1)] u := by
          rw [q_45_at5, if_pos (show nI i < (8 : Int32) from nI_lt hi (by decide)), if_pos x8, cl_nI (by omega), e22, f1, if_neg (by decide), if_pos (by rw [bit_0 (by omega) (by omega)]; exact hb)]
        have k1 : u.1 13 (s.2.2 i) 1 = s.1 42 0 i := by
          rw [e13, h.2.2.2.2.2.1, h.2.2.2.2.2.2.1]
        have wv : wA22 s (fun k => !m.testBit k) i = if softB (s.1 42 0 i) = true then wtN s i else 0 := by
          unfold wA22
          simp only [hb, Bool.not_false, Bool.true_and]
        have s2 : ev 45 36 [some (.inr (.inr (11, 0))), some (.inr (.inr (10, 0))), some (.inl (nI m)), some (.inr (.inl x)), none, some (.inl (nI i)), none] [(.inl 1)] u = ev 45 73 [some (.inr (.inr (11, 0))), some (.inr (.inr (10, 0))), some (.inl (nI m)), some (.inr (.inl x)), none, some (.inl (nI i)), some (.inl 1)] [(.inl (nI (wA22 s (fun k => !m.testBit k) i))), (.inl (nI i)), (.inr (.inr (22, 0)))] u := by
          rw [q_45_at36, if_neg (by decide), if_pos x8, cl_nI (by omega), e22, k1, c_118, cI_s, ite_bI, wv]
          cases hs : softB (s.1 42 0 i) with
          | false => rfl
          | true =>
            rw [if_pos rfl, if_pos x8, e22, e13, (wt_le hL hi hs).2.2]
            rfl
        have k2 : ∀ v, (wI u 22 0 i v).1 13 (s.2.2 i) 1 = s.1 42 0 i := fun v => by
          rw [wI_1, if_neg (by omega)]
          exact k1
        have s3 : ev 45 73 [some (.inr (.inr (11, 0))), some (.inr (.inr (10, 0))), some (.inl (nI m)), some (.inr (.inl x)), none, some (.inl (nI i)), some (.inl 1)] [(.inl (nI (wA22 s (fun k => !m.testBit k) i))), (.inl (nI i)), (.inr (.inr (22, 0)))] u = ev 45 5 [some (.inr (.inr (11, 0))), some (.inr (.inr (10, 0))), some (.inl (nI m)), some (.inr (.inl (if hardB (s.1 42 0 i) = true then (x ||| ((255 : Int64) <<< ((nI i * 8).toInt64 &&& 63))) else x))), none, some (.inl (nI (i + 1))), none] [] (wI u 22 0 i (nI (wA22 s (fun k => !m.testBit k) i))) := by
          rw [q_45_at73, if_pos x8, if_neg (by decide), if_pos x8, cl_nI (by omega), wI_2, e22, k2, c_117, cI_s, ite_bI, nI_s]
          cases hardB (s.1 42 0 i) <;> rfl
        refine ⟨(wI u 22 0 i (nI (wA22 s (fun k => !m.testBit k) i)), if hardB (s.1 42 0 i) = true then (x ||| ((255 : Int64) <<< ((nI i * 8).toInt64 &&& 63))) else x), s1.trans (s2.trans s3), Off_tr o (Off_wI (by decide)), ?_, fun k hk => nx _ k hk rfl⟩
        cases hh : hardB (s.1 42 0 i) with
        | true => exact hM1 (by rw [hb, hh]; rfl)
        | false => exact hM0 (by rw [hb, hh]; rfl)) (s, 0) ⟨Off_rf, fun b hb => by rw [tL_0, decide_eq_false (Nat.not_lt_zero _)]; rfl, fun k hk => absurd hk (Nat.not_lt_zero k)⟩
  obtain ⟨⟨u, x⟩, e, o, hM, g⟩ := hl
  refine ⟨u, x, ?_, o, hM, g⟩
  rw [q_45]
  refine (show ev 45 5 [some (.inr (.inr (11, 0))), some (.inr (.inr (10, 0))), some (.inl (nI m)), some (.inr (.inl 0)), none, some (.inl (nI 0)), none] [] s = _ from e).trans ?_
  show ev 45 5 [some (.inr (.inr (11, 0))), some (.inr (.inr (10, 0))), some (.inl (nI m)), some (.inr (.inl x)), none, some (.inl (nI 8)), none] [] u = _
  rw [q_45_at5, if_neg (show ¬ nI 8 < (8 : Int32) from irr (nI 8))]
