/-! the reference's costs -/
theorem c_199 {s : SS} (hS : JS s) (hL : JL s) (hT : TB s) {l v : Nat} (hl : l < 256) (hv : v < nW s) : ev 199 0 [some (.inr (.inr (30, 0))), some (.inl (nI l)), some (.inl (nI v)), none, none, none] [] s = some (some (.inl (if hbB s (fun k => l.testBit k) v = true then -9 else nI (scN s (fun k => l.testBit k) v))), s) := by
  have hW := nW_le hS
  rw [q_199]
  have h := lpE (P := fun i => ev 199 5 [some (.inr (.inr (30, 0))), some (.inl (nI l)), some (.inl (nI v)), some (.inl (nI (sm (fun k => if (l.testBit k && softB (s.1 42 0 k)) = true then wtN s k * brk s k v else 0) i))), some (.inl (nI i)), none] [] s) (c := fun k => (l.testBit k && hardB (s.1 42 0 k)) && !(brk s k v == 0)) (out := fun _ => some (some (.inl (-9)), s)) 8 (fun i hi => by
    show ev 199 5 [some (.inr (.inr (30, 0))), some (.inl (nI l)), some (.inl (nI v)), some (.inl (nI (sm (fun k => if (l.testBit k && softB (s.1 42 0 k)) = true then wtN s k * brk s k v else 0) i))), some (.inl (nI i)), none] [] s = if ((l.testBit i && hardB (s.1 42 0 i)) && !(brk s i v == 0)) = true then some (some (.inl (-9)), s) else ev 199 5 [some (.inr (.inr (30, 0))), some (.inl (nI l)), some (.inl (nI v)), some (.inl (nI (sm (fun k => if (l.testBit k && softB (s.1 42 0 k)) = true then wtN s k * brk s k v else 0) i + (if (l.testBit i && softB (s.1 42 0 i)) = true then wtN s i * brk s i v else 0)))), some (.inl (nI (i + 1))), none] [] s
    have x8 : ixB (nI i) 8 = true := ixB_nI hi (by decide)
    have hb16 := brk_le hS i v
    have st61 : ∀ b : Nat, ev 199 61 [some (.inr (.inr (30, 0))), some (.inl (nI l)), some (.inl (nI v)), some (.inl (nI (sm (fun k => if (l.testBit k && softB (s.1 42 0 k)) = true then wtN s k * brk s k v else 0) i))), some (.inl (nI i)), some (.inl (nI b))] [] s = ev 199 5 [some (.inr (.inr (30, 0))), some (.inl (nI l)), some (.inl (nI v)), some (.inl (nI (sm (fun k => if (l.testBit k && softB (s.1 42 0 k)) = true then wtN s k * brk s k v else 0) i + (if softB (s.1 42 0 i) = true then wtN s i * b else 0)))), some (.inl (nI (i + 1))), none] [] s := by
      intro b
      rw [q_199_at61, if_pos x8, cl_nI (by omega), c_181, cI_s, ite_bI, if_pos x8, nI_s, nI_z]
      cases hs : softB (s.1 42 0 i) with
      | false => rfl
      | true =>
        rw [if_pos rfl, (wt_le hL hi hs).2.1, n_mul, n_add, Nat.mul_comm]
        rfl
    have st38 : ∀ b : Nat, b ≤ 16 → ev 199 38 [some (.inr (.inr (30, 0))), some (.inl (nI l)), some (.inl (nI v)), some (.inl (nI (sm (fun k => if (l.testBit k && softB (s.1 42 0 k)) = true then wtN s k * brk s k v else 0) i))), some (.inl (nI i)), none] [(.inl (nI b))] s = if (hardB (s.1 42 0 i) && !(b == 0)) = true then some (some (.inl (-9)), s) else ev 199 5 [some (.inr (.inr (30, 0))), some (.inl (nI l)), some (.inl (nI v)), some (.inl (nI (sm (fun k => if (l.testBit k && softB (s.1 42 0 k)) = true then wtN s k * brk s k v else 0) i + (if softB (s.1 42 0 i) = true then wtN s i * b else 0)))), some (.inl (nI (i + 1))), none] [] s := by
      intro b hb
      rw [q_199_at38, if_pos x8, cl_nI (by omega), c_182, cI_s, ite_bI, st61]
      by_cases e : b = 0
      · subst e
        rw [if_neg (show ¬ (0 : Int32) < nI 0 by decide)]
        simp
      · rw [if_pos (show (0 : Int32) < nI b from nI_lt (show 0 < b by omega) (by omega))]
        have e' : (b == 0) = false := beq_false_of_ne e
        rw [e']
        simp
    rw [q_199_at5, if_pos (show nI i < (8 : Int32) from nI_lt hi (by decide)), c_147 (by omega) (by omega), cI_s, ite_bI, n_mulL, n_add, if_pos (ixB_nI (show 1024 * i + v < 8192 by omega) (by decide)), cl_nI (show 1024 * i + v < 2147483648 by omega), hT.2 i v hi hv]
    cases hb : l.testBit i with
    | true =>
      rw [if_pos rfl, st38 _ hb16]
      rfl
    | false =>
      rw [if_neg (by decide), show (0 : Int32) = nI 0 from rfl, st38 0 (by decide)]
      simp)
  unfold hbB scN
  rcases h with ⟨i, hi, hc, -, e⟩ | ⟨hc, e⟩
  · rw [anyB_t hi hc, if_pos rfl]
    exact e
  · rw [anyB_f hc, if_neg (by decide)]
    refine Eq.trans (show ev 199 5 [some (.inr (.inr (30, 0))), some (.inl (nI l)), some (.inl (nI v)), some (.inl (nI 0)), some (.inl (nI 0)), none] [] s = _ from e) ?_
    rw [q_199_at5, if_neg (show ¬ nI 8 < (8 : Int32) from irr (nI 8))]
