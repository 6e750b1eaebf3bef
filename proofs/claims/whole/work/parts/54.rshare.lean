/-- the reference has weighed by A -/
def RW (s : SS) (A : Nat → Bool) (u : SS) : Prop := (∀ v, v < nW s → u.1 52 0 v = cR s A v) ∧ RB s A (nW s) u ∧ (∀ v, v < nW s → u.2.1 53 0 v = lN (shN s A v)) ∧ u.2.1 30 0 34 = lN (allN s A)
theorem c_200 {s : SS} (hS : JS s) (hL : JL s) (hT : TB s) {l : Nat} (hl : l < 256) : ∃ u, ev 200 0 [some (.inr (.inr (30, 0))), some (.inl (nI l)), none, none] [] s = some (some (.inl (bI (bst s (fun k => l.testBit k) (nW s)).isSome)), u) ∧ RG s u ∧ RW s (fun k => l.testBit k) u := by
  obtain ⟨u0, e0, o0, g0, b0⟩ := c_200a hS hL hT hl
  have hW := nW_le hS
  generalize (fun k => l.testBit k) = A at g0 b0 ⊢
  have hl := lpX (fun i u => ev 200 85 [some (.inr (.inr (30, 0))), none, some (.inl (nI i)), none] [] u) (fun i u => u.1 = u0.1 ∧ RG u0 u ∧ (∀ v, v < i → u.2.1 53 0 v = lN (shN s A v)) ∧ u.2.1 30 0 34 = lN (sm (shN s A) i)) (nW s) (fun i u hi hu => by
    obtain ⟨e1, o, g, b⟩ := hu
    have x : ixB (nI i) 1024 = true := ixB_nI (by omega) (by decide)
    have e28 : u.1 30 0 28 = nI (nW s) := by
      rw [e1]
      exact (o0.1 30 0 28 (by decide) (by decide)).trans hT.1.2
    have ci : u.1 52 0 i = cR s A i := by rw [e1]; exact g0 i hi
    have at135 : ev 200 135 [some (.inr (.inr (30, 0))), none, some (.inl (nI i)), none] [(.inr (.inl (lN (shN s A i)))), (.inl (nI i)), (.inr (.inr (53, 0)))] u = ev 200 85 [some (.inr (.inr (30, 0))), none, some (.inl (nI (i + 1))), none] [] (wL (wL u 53 0 i (lN (shN s A i))) 30 0 34 (lN (sm (shN s A) (i + 1)))) := by
      have f : ∀ c, (wL u 53 0 i c).2.1 53 0 i = c := fun c => by rw [wL_2, if_pos ⟨rfl, rfl, rfl⟩]
      have f30 : ∀ c, (wL u 53 0 i c).2.1 30 0 34 = lN (sm (shN s A) i) := fun c => by rw [wL_2, if_neg (by omega)]; exact b
      rw [q_200_at135, if_pos x, if_pos x, cl_nI (by omega), f, f30, lN_add, nI_s]
      rfl
    refine ⟨wL (wL u 53 0 i (lN (shN s A i))) 30 0 34 (lN (sm (shN s A) (i + 1))), ?_, e1, RG_tr o (RG_tr RG_53 RG_34), fun v hv => ?_, rfl⟩
    · show ev 200 85 [some (.inr (.inr (30, 0))), none, some (.inl (nI i)), none] [] u = _
      rw [q_200_at85, e28, if_pos (nI_lt hi (by omega)), if_pos x, if_pos x, cl_nI (by omega), ci]
      refine Eq.trans ?_ at135
      have hc := sc_le hS hL A i
      by_cases hb : hbB s A i = true
      · have ec : cR s A i = -9 := if_pos hb
        have es : shN s A i = 0 := by
          unfold shN
          rw [if_pos hb]
        rw [ec, es, if_pos (by decide)]
        rfl
      · have ec : cR s A i = nI (scN s A i) := if_neg hb
        have hb' : hbB s A i = false := by
          cases hx : hbB s A i with
          | false => rfl
          | true => exact absurd hx hb
        obtain ⟨w, c, hp, hle⟩ := bst_min hi hb'
        have es : shN s A i = if 20 < scN s A i - c then 0 else 2 ^ (20 - (scN s A i - c)) := by
          unfold shN
          rw [if_neg hb, hp]
        have b31 : u.1 30 0 31 = nI c := by
          rw [e1]
          unfold RB at b0
          rw [hp] at b0
          exact b0.2
        rw [ec, if_neg (nI_pos (by omega)), b31, n_sub hle, es]
        by_cases h20 : 20 < scN s A i - c
        · rw [if_pos h20, if_pos (show (20 : Int32) < nI (scN s A i - c) from nI_lt h20 (by omega))]
          rfl
        · rw [if_neg h20, if_neg (show ¬ (20 : Int32) < nI (scN s A i - c) from fun z => h20 ((n_lt (a := 20) (by decide) (by omega)).mp z)), show (20 : Int32) - nI (scN s A i - c) = nI (20 - (scN s A i - c)) from n_sub (a := 20) (b := scN s A i - c) (by omega), sh20 _ (by omega)]
    · have : (wL (wL u 53 0 i (lN (shN s A i))) 30 0 34 (lN (sm (shN s A) (i + 1)))).2.1 53 0 v = if v = i then lN (shN s A i) else u.2.1 53 0 v := by
        rw [wL_2, if_neg (by omega), wL_2]
        by_cases e : v = i
        · rw [if_pos ⟨rfl, rfl, e⟩, if_pos e]
        · rw [if_neg (fun z => e z.2.2), if_neg e]
      rw [this]
      by_cases e : v = i
      · rw [if_pos e, e]
      · rw [if_neg e]
        exact g v (by omega)) (wL u0 30 0 34 0) ⟨rfl, RG_34, fun v hv => absurd hv (Nat.not_lt_zero v), rfl⟩
  obtain ⟨u, e, e1, o, g, b⟩ := hl
  have b1 : RB s A (nW s) u := by
    unfold RB at b0 ⊢
    rw [e1]
    exact b0
  have e28 : u.1 30 0 28 = nI (nW s) := by
    rw [e1]
    exact (o0.1 30 0 28 (by decide) (by decide)).trans hT.1.2
  refine ⟨u, ?_, RG_tr o0 o, fun v hv => by rw [e1]; exact g0 v hv, b1, g, b⟩
  refine e0.trans ((show ev 200 85 [some (.inr (.inr (30, 0))), none, some (.inl (nI 0)), none] [] (wL u0 30 0 34 0) = _ from e).trans ?_)
  rw [q_200_at85, e28, if_neg (irr _)]
  unfold RB at b1
  cases hp : bst s A (nW s) with
  | none =>
    rw [hp] at b1
    rw [if_pos (by rw [b1]; decide)]
    rfl
  | some q =>
    obtain ⟨w, c⟩ := q
    rw [hp] at b1
    have := (bst_some hp).1
    rw [if_neg (by rw [b1.1]; exact nI_pos (by omega))]
    rfl
