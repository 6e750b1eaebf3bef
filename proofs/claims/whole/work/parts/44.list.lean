theorem ix0 : ixB (0 : Int32) 1024 = true := by decide
theorem cl0 : (0 : Int32).toNatClampNeg = 0 := by decide
theorem c_40 {s : SS} (hS : JS s) : ∃ t, ev 40 0 [some (.inr (.inr (11, 0))), some (.inr (.inr (9, 0))), none] [] s = some (none, t) ∧ OffK [11, 18] s t ∧ TW s t 28 := by
  have l1 := lpF (fun i t => ev 40 19 [some (.inr (.inr (11, 0))), some (.inr (.inr (9, 0))), some (.inl (nI i))] [] t) (fun i t => if tl s i = 1 then wI t 18 0 0 (t.1 18 0 0 ||| nI (2 ^ i)) else t) (fun i t => OffK [11, 18] s t ∧ t.1 11 0 0 = 1 ∧ t.1 11 0 1 = 0 ∧ ∀ b, b < 32 → tb (t.1 18 0 0) b = (decide (b < i) && tl s b == 1)) 28 (fun i t hi h => by
    obtain ⟨o, h1, h2, h3⟩ := h
    obtain ⟨g1, -, g3, -⟩ := hS.2.1 i hi
    have e9 : t.1 9 0 i = nI (tl s i) := (o.1 9 0 i (by decide)).trans g1
    have z1 : (nI (tl s i) = (1 : Int32)) = (tl s i = 1) := n_eq (a := tl s i) (b := 1) (by omega) (by decide)
    constructor
    · show ev 40 19 [some (.inr (.inr (11, 0))), some (.inr (.inr (9, 0))), some (.inl (nI i))] [] t = ev 40 19 [some (.inr (.inr (11, 0))), some (.inr (.inr (9, 0))), some (.inl (nI (i + 1)))] [] (if tl s i = 1 then wI t 18 0 0 (t.1 18 0 0 ||| nI (2 ^ i)) else t)
      rw [q_40_at19, if_pos (show nI i < (28 : Int32) from nI_lt hi (by decide)), if_pos (ixB_nI hi (by decide)), if_pos ix0, if_pos ix0, cl_nI (by omega), cl0, e9, nI_s, shl1 i (by omega)]
      simp only [z1]
      by_cases e : tl s i = 1
      · rw [if_pos e, if_pos e]
      · rw [if_neg e, if_neg e]
    · by_cases e : tl s i = 1
      · simp only [if_pos e]
        refine ⟨Off_tr o (Off_wI (by decide)), h1, h2, fun b hb => ?_⟩
        rw [wI_same, tb_or, h3 b hb, tb_2 hb]
        by_cases eb : b = i
        · subst eb
          simp [e]
        · have e' : ¬ i = b := fun z => eb z.symm
          rw [dlt eb]
          simp [e']
      · simp only [if_neg e]
        refine ⟨o, h1, h2, fun b hb => ?_⟩
        rw [h3 b hb]
        by_cases eb : b = i
        · subst eb
          have z3 : (tl s b == 1) = false := beq_false_of_ne e
          rw [z3, Bool.and_false, Bool.and_false]
        · rw [dlt eb]) (wI (wI (wI s 11 0 0 1) 11 0 1 0) 18 0 0 0) ⟨Off_tr (Off_tr (Off_wI (by decide)) (Off_wI (by decide))) (Off_wI (by decide)), rfl, rfl, fun b hb => by
      show tb 0 b = _
      rw [tb_0]
      simp⟩
  obtain ⟨p1, o1, n1, n2, n3⟩ := l1
  obtain ⟨t1, ht1⟩ : ∃ t1, t1 = fo (fun i t => if tl s i = 1 then wI t 18 0 0 (t.1 18 0 0 ||| nI (2 ^ i)) else t) 28 (wI (wI (wI s 11 0 0 1) 11 0 1 0) 18 0 0 0) := ⟨_, rfl⟩
  rw [← ht1] at p1 o1 n1 n2 n3
  have l2 := lpF (fun i t => ev 40 52 [some (.inr (.inr (11, 0))), some (.inr (.inr (9, 0))), some (.inl (nI i))] [] t) (fun m t => if tl s m = 3 then spS (wI t 11 0 1 (t.1 11 0 1 ||| nI (2 ^ m))) m (2 ^ s3 s m) else t) (fun m t => OffK [11, 18] s t ∧ TW s t m) 28 (fun m t hm h => by
    obtain ⟨o, h1⟩ := h
    obtain ⟨g1, -, g3, -⟩ := hS.2.1 m hm
    have e9 : t.1 9 0 m = nI (tl s m) := (o.1 9 0 m (by decide)).trans g1
    have z1 : (nI (tl s m) = (3 : Int32)) = (tl s m = 3) := n_eq (a := tl s m) (b := 3) (by omega) (by decide)
    by_cases e : tl s m = 3
    · have hs : s3 s m ≤ 9 := by
        have := s3_le hS (show m + 1 ≤ 28 by omega)
        rw [s3_s, if_pos e] at this
        omega
      have hN : 2 ^ s3 s m ≤ 512 := Nat.le_trans (Nat.pow_le_pow_right (by decide) hs) (by decide)
      simp only [if_pos e]
      constructor
      · show ev 40 52 [some (.inr (.inr (11, 0))), some (.inr (.inr (9, 0))), some (.inl (nI m))] [] t = ev 40 52 [some (.inr (.inr (11, 0))), some (.inr (.inr (9, 0))), some (.inl (nI (m + 1)))] [] (spS (wI t 11 0 1 (t.1 11 0 1 ||| nI (2 ^ m))) m (2 ^ s3 s m))
        rw [q_40_at52, if_pos (show nI m < (28 : Int32) from nI_lt hm (by decide)), if_pos (ixB_nI hm (by decide)), cl_nI (by omega), e9, if_pos (by rw [z1]; exact e), h1.1, if_pos (show nI (2 ^ s3 s m) < (1024 : Int32) from nI_lt (show 2 ^ s3 s m < 1024 by omega) (by decide)), shl1 m (by omega), spl (s := s) (t := wI t 11 0 1 (t.1 11 0 1 ||| nI (2 ^ m))) hm hN h1.1, cV_s, nI_s]
        rfl
      · refine ⟨Off_tr (Off_tr o (Off_wI (k := 11) (j := 0) (i := 1) (v := t.1 11 0 1 ||| nI (2 ^ m)) (by decide))) ?_, spl_TW hS hm e h1⟩
        unfold spS
        exact Off_tr (Off_fo (fun _ _ => Off_wI (by decide)) _ _) (Off_wI (by decide))
    · simp only [if_neg e]
      have e1 : s3 s (m + 1) = s3 s m := by rw [s3_s, if_neg e, Nat.add_zero]
      constructor
      · show ev 40 52 [some (.inr (.inr (11, 0))), some (.inr (.inr (9, 0))), some (.inl (nI m))] [] t = _
        rw [q_40_at52, if_pos (show nI m < (28 : Int32) from nI_lt hm (by decide)), if_pos (ixB_nI hm (by decide)), cl_nI (by omega), e9, if_neg (by rw [z1]; exact e), nI_s]
      · refine ⟨o, ?_⟩
        unfold TW
        rw [e1]
        refine ⟨h1.1, fun w hw i hi => ?_, fun i hi => ?_⟩
        · rw [h1.2.1 w hw i hi]
          congr 1
          unfold soP
          by_cases eb : i = m
          · subst eb
            have z3 : (tl s i == 3) = false := beq_false_of_ne e
            rw [z3, Bool.false_and, Bool.false_and]
          · rw [dlt eb]
        · rw [h1.2.2 i hi]
          by_cases eb : i = m
          · subst eb
            have z3 : (tl s i == 3) = false := beq_false_of_ne e
            rw [z3, Bool.and_false, Bool.and_false]
          · rw [dlt eb]) t1 ⟨o1, ⟨n1, fun w hw i hi => by
      have w0 : w = 0 := by
        have : w < 1 := hw
        omega
      subst w0
      rw [n3 i hi]
      unfold soP
      simp, fun i hi => by
      rw [n2, tb_0]
      simp⟩⟩
  obtain ⟨p2, o2, q2⟩ := l2
  refine ⟨_, ?_, o2, q2⟩
  rw [q_40, if_pos ix0, cl0]
  refine (show ev 40 19 [some (.inr (.inr (11, 0))), some (.inr (.inr (9, 0))), some (.inl (nI 0))] [] _ = _ from p1).trans ?_
  rw [q_40_at19, if_neg (show ¬ nI 28 < (28 : Int32) from irr (nI 28))]
  refine (show ev 40 52 [some (.inr (.inr (11, 0))), some (.inr (.inr (9, 0))), some (.inl (nI 0))] [] t1 = _ from p2).trans ?_
  rw [q_40_at52, if_neg (show ¬ nI 28 < (28 : Int32) from irr (nI 28))]
