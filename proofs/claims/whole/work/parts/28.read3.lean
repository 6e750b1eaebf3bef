/-- the names of a part of two -/
theorem L3f {j k q n i m d : Nat} {f : Nat → Int32} {s0 r0 sC sR : SS} (hk : k < 5) (hq : q < 4) (hn : n ≤ 40) (hm : m < 6) (hal : 3 ≤ k → m = 0) (hd : d ≤ 1) (tc : TC s0 q n f) (tr : TR r0 q n f) (oc : OffP (QC j) s0 sC) (orr : OffP QR r0 sR) (hi : i < n) (h2 : sR.1 30 0 12 = nI i) (hl : RD j k m sC sR) (d1 : sC.1 17 j m = nI d) (d2 : sR.1 38 0 m = nI d)
    (next : ∀ i' sC' sR', OffP (QC j) s0 sC' → OffP QR r0 sR' → sR'.1 30 0 12 = nI i' → i' ≤ n → RD j k (m + 1) sC' sR' → m + 1 < 6 → k < 3 → RU j s0 r0 (Fn j k) (ev 21 38 [some (.inr (.inr (13, j))), some (.inr (.inr (2, 0))), some (.inl (nI q)), none, some (.inl (nI n)), some (.inl 2), some (.inl (nI i'))] [] sC') (ev 176 43 [some (.inr (.inr (30, 0))), some (.inl (nI q)), none, some (.inl (bI (decide (3 ≤ k)))), some (.inl 1)] [] sR')) :
    RU j s0 r0 (Fn j k) (ev 21 38 [some (.inr (.inr (13, j))), some (.inr (.inr (2, 0))), some (.inl (nI q)), none, some (.inl (nI n)), some (.inl 4), some (.inl (nI (i + 1)))] [] (wI (wI sC 15 j m (-1)) 14 j m 12)) (cI (ev 174 76 [some (.inr (.inr (30, 0))), some (.inl (nI q)), some (.inl (bI (decide (3 ≤ k)))), some (.inl (nI m)), none] [(.inl (nI 3))] sR) (KP q (decide (3 ≤ k)))) := by
  have oc1 : OffP (QC j) s0 (wI (wI sC 15 j m (-1)) 14 j m 12) := OC (OC oc (by decide) (by decide)) (by decide) (by decide)
  have or1 : OffP QR r0 (wI (wI sR 30 0 12 (nI (i + 1))) 39 0 m (nI 3)) := OR (OR3 orr (by decide) (by decide)) (by decide) (by decide)
  rw [r76 hq hn hm (by omega) (TR_off orr tr) hi h2 hl.2.2.1]
  cases hv : isV (decide (3 ≤ k)) (hV f n (i + 1)) with
  | false =>
    rw [c_173_n hq hn (TR_off or1 tr) (by omega) rfl hv, cI_s, if_pos (by decide), cI_s]
    unfold KP
    rw [if_pos rfl]
    by_cases e : i + 1 = n
    · subst e
      rw [CE, if_neg (by decide), if_neg (by decide)]
      exact RU_i (by omega) rfl rfl oc1 (OR or1 (by decide) (by decide))
    · have hi2 : i + 1 < n := by omega
      rw [hV_i hi2] at hv
      rw [CS hq hn (TC_off oc1 tc) hi2, c_22_4, c_27 hm hk (wI (wI sC 15 j m (-1)) 14 j m 12) hl.2.1 hl.1, hv, if_neg (by decide), cI_s, cI_s, if_pos rfl]
      exact RU_i (by omega) rfl rfl oc1 (OR or1 (by decide) (by decide))
  | true =>
    have hi2 : i + 1 < n := by
      by_cases e : i + 1 = n
      · subst e
        rw [hV_n, isV9] at hv
        exact absurd hv (by decide)
      · omega
    obtain ⟨o, ho, hvo, hoal⟩ := isV_o hv
    rw [c_173_y hq hn (TR_off or1 tr) (by omega) rfl ho hvo hoal, cI_s, if_neg (nI_pos (by omega)), if_pos rfl]
    rw [hV_i hi2] at hv hvo
    rw [CS hq hn (TC_off oc1 tc) hi2, c_22_4, c_27 hm hk (wI (wI sC 15 j m (-1)) 14 j m 12) hl.2.1 hl.1, hv, if_pos rfl, cI_s, cI_s, if_neg (by decide), hvo, v_o ho]
    have oc2 : OffP (QC j) s0 (wI (wI (wI sC 15 j m (-1)) 14 j m 12) 15 j m (nI o)) := OC oc1 (by decide) (by decide)
    have or2 : OffP QR r0 (wI (wI (wI (wI sR 30 0 12 (nI (i + 1))) 39 0 m (nI 3)) 30 0 12 (nI (i + 1 + 1))) 40 0 m (nI o)) := OR (OR3 or1 (by decide) (by decide)) (by decide) (by decide)
    cases hw : isV (decide (3 ≤ k)) (hV f n (i + 1 + 1)) with
    | false =>
      rw [c_173_n hq hn (TR_off or2 tr) (by omega) rfl hw, cI_s, r147 (s := wI (wI (wI (wI sR 30 0 12 (nI (i + 1))) 39 0 m (nI 3)) 30 0 12 (nI (i + 1 + 1))) 40 0 m (nI o)) hm hl.2.2.1, if_pos (by decide), cI_s]
      unfold KP
      rw [if_pos rfl]
      by_cases e : i + 1 + 1 = n
      · subst e
        rw [CE, if_neg (by decide), if_neg (by decide)]
        exact RU_i (by omega) rfl rfl oc2 (OR3 (OR or2 (by decide) (by decide)) (by decide) (by decide))
      · have hi3 : i + 1 + 1 < n := by omega
        rw [hV_i hi3] at hw
        rw [CS hq hn (TC_off oc2 tc) hi3, c_22_5, c_28 hm hk (wI (wI (wI sC 15 j m (-1)) 14 j m 12) 15 j m (nI o)) hl.2.1 hl.1, hw, if_neg (by decide), cI_s, cI_s, if_pos rfl]
        exact RU_i (by omega) rfl rfl oc2 (OR3 (OR or2 (by decide) (by decide)) (by decide) (by decide))
    | true =>
      have hi3 : i + 1 + 1 < n := by
        by_cases e : i + 1 + 1 = n
        · subst e
          rw [hV_n, isV9] at hw
          exact absurd hw (by decide)
        · omega
      obtain ⟨o2, ho2, hvo2, hoal2⟩ := isV_o hw
      rw [c_173_y hq hn (TR_off or2 tr) (by omega) rfl ho2 hvo2 hoal2, cI_s, r147 (s := wI (wI (wI (wI (wI sR 30 0 12 (nI (i + 1))) 39 0 m (nI 3)) 30 0 12 (nI (i + 1 + 1))) 40 0 m (nI o)) 30 0 12 (nI (i + 1 + 1 + 1))) hm hl.2.2.1, if_neg (nI_pos (by omega)), cI_s]
      rw [hV_i hi3] at hw hvo2
      rw [CS hq hn (TC_off oc2 tc) hi3, c_22_5, c_28 hm hk (wI (wI (wI sC 15 j m (-1)) 14 j m 12) 15 j m (nI o)) hl.2.1 hl.1, hw, if_pos rfl, cI_s, cI_s, if_neg (by decide), hvo2, v_o ho2]
      show RU _ _ _ _ _ (RAf q (decide (3 ≤ k)) _)
      have oc3 := OC (c := 4) (v := nI (m + 1)) (OC (c := m) (v := nI o2) oc2 (show 13 ≤ 16 by decide) (by decide)) (show 13 ≤ 13 by decide) (by decide)
      have or3 := OR3 (c := 13) (v := nI (m + 1)) (OR (a := 41) (c := m) (v := nI o2) (OR3 (c := 12) (v := nI (i + 1 + 1 + 1)) or2 (by decide) (by decide)) (by decide) (by decide)) (by decide) (by decide)
      have hl2 : RD j k (m + 1) (wI (wI (wI (wI (wI sC 15 j m (-1)) 14 j m 12) 15 j m (nI o)) 16 j m (nI o2)) 13 j 4 (nI (m + 1))) (wI (wI (wI (wI (wI (wI (wI sR 30 0 12 (nI (i + 1))) 39 0 m (nI 3)) 30 0 12 (nI (i + 1 + 1))) 40 0 m (nI o)) 30 0 12 (nI (i + 1 + 1 + 1))) 41 0 m (nI o2)) 30 0 13 (nI (m + 1))) := by
        refine ⟨by simpa [wI_1] using hl.1, wI_same _ _ _ _ _, wI_same _ _ _ _ _, by simpa [wI_1] using hl.2.2.2.1, fun p hp => ?_⟩
        by_cases e : p = m
        · subst e
          refine ⟨d, 3, o, o2, hd, by omega, ho, ho2, ?_, ?_, ?_, ?_, ?_, fun z => ⟨hoal (decide_eq_true z), hoal2 (decide_eq_true z)⟩, Or.inl ⟨rfl, ?_, ?_, ?_⟩⟩
          · simpa [wI_1] using d1
          · simpa [wI_1] using d2
          · simp [wI_1]
          · simp [wI_1]
          · simp [wI_1]
          · simp [wI_1]; rfl
          · simp [wI_1]
          · simp [wI_1]
        · exact PD_off (hl.2.2.2.2 p (by omega)) (fun a h1 h2 => by have : a ≠ 13 := by omega
                                                                    simp [wI_1, e, this]) (fun a h1 h2 => by have : a ≠ 30 := by omega
                                                                                                             simp [wI_1, e, this])
      exact L2 hk hq hn (by omega) (by omega) (fun z => by have := hal z; omega) tc tr oc3 or3 (by omega) rfl hl2 (fun h5 h6 h7 => next _ _ _ oc3 (OR3 or3 (by decide) (by decide)) (wI_same _ _ _ _ _) (by omega) hl2 h5 h6)
/-- the letter of a part -/
theorem L3 {j k q n i m d : Nat} {f : Nat → Int32} {s0 r0 sC sR : SS} (hk : k < 5) (hq : q < 4) (hn : n ≤ 40) (hm : m < 6) (hal : 3 ≤ k → m = 0) (hd : d ≤ 1) (tc : TC s0 q n f) (tr : TR r0 q n f) (oc : OffP (QC j) s0 sC) (orr : OffP QR r0 sR) (hi : i < n) (h2 : sR.1 30 0 12 = nI i) (hl : RD j k m sC sR) (d1 : sC.1 17 j m = nI d) (d2 : sR.1 38 0 m = nI d)
    (next : ∀ i' sC' sR', OffP (QC j) s0 sC' → OffP QR r0 sR' → sR'.1 30 0 12 = nI i' → i' ≤ n → RD j k (m + 1) sC' sR' → m + 1 < 6 → k < 3 → RU j s0 r0 (Fn j k) (ev 21 38 [some (.inr (.inr (13, j))), some (.inr (.inr (2, 0))), some (.inl (nI q)), none, some (.inl (nI n)), some (.inl 2), some (.inl (nI i'))] [] sC') (ev 176 43 [some (.inr (.inr (30, 0))), some (.inl (nI q)), none, some (.inl (bI (decide (3 ≤ k)))), some (.inl 1)] [] sR')) :
    RU j s0 r0 (Fn j k) (cI (ev 26 0 [some (.inr (.inr (13, j))), some (.inl (f i))] [] sC) (fun x2 s2 => if x2 = -1 then some (some (.inl (nI i)), s2) else ev 21 38 [some (.inr (.inr (13, j))), some (.inr (.inr (2, 0))), some (.inl (nI q)), none, some (.inl (nI n)), some (.inl x2), some (.inl (nI (i + 1)))] [] s2)) (cI (ev 174 76 [some (.inr (.inr (30, 0))), some (.inl (nI q)), some (.inl (bI (decide (3 ≤ k)))), some (.inl (nI m)), none] [(.inl (sortI (f i)))] sR) (KP q (decide (3 ≤ k)))) := by
  by_cases e0 : ∃ so, so < 3 ∧ f i = nI (65 + so)
  · obtain ⟨so, hso, e⟩ := e0
    have e1 : ¬ f i < 65 := by
      rw [e, n_ltL (by omega) (by decide)]
      show ¬ 65 + so < 65
      omega
    have e2 : ¬ 67 < f i := by
      rw [e, L_ltn (by omega) (by decide)]
      show ¬ 67 < 65 + so
      omega
    have e3 : sortI (f i) = nI so := by
      rw [e]
      revert so
      intro so hso
      rcases (show so = 0 ∨ so = 1 ∨ so = 2 by omega) with rfl | rfl | rfl <;> intros <;> rfl
    have e4 : 4 * (f i - 65) = nI (4 * so) := by
      rw [e, show (65 : Int32) = nI 65 from rfl, n_sub (by omega), n_mulL]
      congr 1
      show 4 * (65 + so - 65) = 4 * so
      omega
    rw [c_26_s hm sC hl.2.1 e1 e2, cI_s, if_neg (by decide), e3, e4]
    exact L3s hk hq hn hm hal hso hd tc tr oc orr hi h2 hl d1 d2 next
  · have e1 : f i < 65 ∨ 67 < f i := by
      by_cases z1 : f i < 65
      · exact Or.inl z1
      · refine Or.inr ?_
        by_cases z2 : 67 < f i
        · exact z2
        · exfalso
          apply e0
          rw [lt_iff] at z1 z2
          have t1 : (65 : Int32).toInt = 65 := rfl
          have t2 : (67 : Int32).toInt = 67 := rfl
          refine ⟨((f i).toInt - 65).toNat, by omega, ?_⟩
          rw [eq_iff, ti_nI (by omega)]
          omega
    rw [c_26_o hm sC hl.2.1 e1]
    have n65 : ¬ f i = 65 := fun z => e0 ⟨0, by decide, z⟩
    have n66 : ¬ f i = 66 := fun z => e0 ⟨1, by decide, z⟩
    have n67 : ¬ f i = 67 := fun z => e0 ⟨2, by decide, z⟩
    by_cases e2 : f i = 70
    · have e3 : sortI (f i) = nI 3 := by
        rw [e2]
        rfl
      rw [if_pos e2, cI_s, if_neg (by decide), e3]
      exact L3f hk hq hn hm hal hd tc tr oc orr hi h2 hl d1 d2 next
    · have e3 : sortI (f i) = -9 := by
        unfold sortI
        rw [if_neg n65, if_neg n66, if_neg n67, if_neg e2]
      rw [if_neg e2, cI_s, if_pos rfl, e3, q_174_at76, if_pos (by decide), cI_s]
      unfold KP
      rw [if_pos rfl, h2]
      exact RU_i (by omega) rfl rfl (OC (OC oc (by decide) (by decide)) (by decide) (by decide)) orr
/-- the reference's choice of a sort -/
theorem r174 {q n m i : Nat} {f : Nat → Int32} {al : Bool} {s : SS} (hq : q < 4) (hn : n ≤ 40) (hm : m < 6) (h : TR s q n f) (hi : i ≤ n) (h2 : s.1 30 0 12 = nI i) (h3 : s.1 30 0 13 = nI m) : ev 174 0 [some (.inr (.inr (30, 0))), some (.inl (nI q)), some (.inl (bI al)), none, none] [] s = if hV f n i = 33 then ev 174 76 [some (.inr (.inr (30, 0))), some (.inl (nI q)), some (.inl (bI al)), some (.inl (nI m)), none] [(.inl (sortI (hV f n (i + 1))))] (wI (wI s 30 0 12 (nI (i + 1))) 38 0 m 1) else ev 174 76 [some (.inr (.inr (30, 0))), some (.inl (nI q)), some (.inl (bI al)), some (.inl (nI m)), none] [(.inl (sortI (hV f n i)))] (wI s 38 0 m 0) := by
  have key : ∀ (t : SS) (i : Nat), TR t q n f → i ≤ n → t.1 30 0 12 = nI i → cI (ev 170 0 [some (.inr (.inr (30, 0))), some (.inl (nI q))] [] t) (fun x2 s2 => (if x2 = 65 then ev 174 76 [some (.inr (.inr (30, 0))), some (.inl (nI q)), some (.inl (bI al)), some (.inl (nI m)), none] [(.inl 0)] s2 else cI (ev 170 0 [some (.inr (.inr (30, 0))), some (.inl (nI q))] [] s2) (fun x3 s3 => (if x3 = 66 then ev 174 76 [some (.inr (.inr (30, 0))), some (.inl (nI q)), some (.inl (bI al)), some (.inl (nI m)), none] [(.inl 1)] s3 else cI (ev 170 0 [some (.inr (.inr (30, 0))), some (.inl (nI q))] [] s3) (fun x4 s4 => (if x4 = 67 then ev 174 76 [some (.inr (.inr (30, 0))), some (.inl (nI q)), some (.inl (bI al)), some (.inl (nI m)), none] [(.inl 2)] s4 else cI (ev 170 0 [some (.inr (.inr (30, 0))), some (.inl (nI q))] [] s4) (fun x5 s5 => (if x5 = 70 then ev 174 76 [some (.inr (.inr (30, 0))), some (.inl (nI q)), some (.inl (bI al)), some (.inl (nI m)), none] [(.inl 3)] s5 else ev 174 76 [some (.inr (.inr (30, 0))), some (.inl (nI q)), some (.inl (bI al)), some (.inl (nI m)), none] [(.inl (-9))] s5)))))))) = ev 174 76 [some (.inr (.inr (30, 0))), some (.inl (nI q)), some (.inl (bI al)), some (.inl (nI m)), none] [(.inl (sortI (hV f n i)))] t := by
    intro t i g hi g2
    rw [c_170 hq hn g hi g2, cI_s, c_170 hq hn g hi g2, cI_s, c_170 hq hn g hi g2, cI_s, c_170 hq hn g hi g2, cI_s]
    unfold sortI
    by_cases a1 : hV f n i = 65
    · simp [a1]
    · by_cases a2 : hV f n i = 66
      · simp [a2]
      · by_cases a3 : hV f n i = 67
        · simp [a3]
        · by_cases a4 : hV f n i = 70 <;> simp [a1, a2, a3, a4]
  rw [q_174, c_172 hq hn h hi h2, h3]
  by_cases e : hV f n i = 33
  · have hi2 : i < n := by
      by_cases z : i < n
      · exact z
      · unfold hV at e
        rw [if_neg z] at e
        exact absurd e (by decide)
    have o1 : OffP QR s (wI (wI s 30 0 12 (nI (i + 1))) 38 0 m 1) := OR (OR3 OP_rf (by decide) (by decide)) (by decide) (by decide)
    rw [if_pos e, if_pos e, cI_s, if_pos (ixB_nI hm (by decide)), cl_nI (by omega), show ((1 : Int32) &&& 1) = 1 from by decide]
    exact key _ (i + 1) (TR_off o1 h) (by omega) rfl
  · have o1 : OffP QR s (wI s 38 0 m 0) := OR OP_rf (by decide) (by decide)
    rw [if_neg e, if_neg e, cI_s, if_pos (ixB_nI hm (by decide)), cl_nI (by omega), show ((0 : Int32) &&& 1) = 0 from by decide]
    exact key _ i (TR_off o1 h) hi h2
theorem RD_d {j k m : Nat} {sC sR : SS} {v w : Int32} (hl : RD j k m sC sR) : RD j k m (wI sC 17 j m v) (wI sR 38 0 m w) := by
  refine ⟨by simpa [wI_1] using hl.1, by simpa [wI_1] using hl.2.1, hl.2.2.1, by simpa [wI_1] using hl.2.2.2.1, fun p hp => ?_⟩
  have e : p ≠ m := by omega
  exact PD_off (hl.2.2.2.2 p hp) (fun a h1 h2 => by simp [wI_1, e]) (fun a h1 h2 => by simp [wI_1, e])
/-- a part from its start -/
theorem L4 {j k q n i m : Nat} {f : Nat → Int32} {s0 r0 sC sR : SS} (hk : k < 5) (hq : q < 4) (hn : n ≤ 40) (hm : m < 6) (hal : 3 ≤ k → m = 0) (tc : TC s0 q n f) (tr : TR r0 q n f) (oc : OffP (QC j) s0 sC) (orr : OffP QR r0 sR) (hi : i ≤ n) (h2 : sR.1 30 0 12 = nI i) (hl : RD j k m sC sR)
    (next : ∀ i' sC' sR', OffP (QC j) s0 sC' → OffP QR r0 sR' → sR'.1 30 0 12 = nI i' → i' ≤ n → RD j k (m + 1) sC' sR' → m + 1 < 6 → k < 3 → RU j s0 r0 (Fn j k) (ev 21 38 [some (.inr (.inr (13, j))), some (.inr (.inr (2, 0))), some (.inl (nI q)), none, some (.inl (nI n)), some (.inl 2), some (.inl (nI i'))] [] sC') (ev 176 43 [some (.inr (.inr (30, 0))), some (.inl (nI q)), none, some (.inl (bI (decide (3 ≤ k)))), some (.inl 1)] [] sR')) :
    RU j s0 r0 (Fn j k) (ev 21 38 [some (.inr (.inr (13, j))), some (.inr (.inr (2, 0))), some (.inl (nI q)), none, some (.inl (nI n)), some (.inl 2), some (.inl (nI i))] [] sC) (ev 176 43 [some (.inr (.inr (30, 0))), some (.inl (nI q)), none, some (.inl (bI (decide (3 ≤ k)))), some (.inl 1)] [] sR) := by
  rw [r43_1]
  show RU _ _ _ _ _ (cI _ (KP q (decide (3 ≤ k))))
  rw [r174 hq hn hm (TR_off orr tr) hi h2 hl.2.2.1]
  by_cases e : i = n
  · subst e
    rw [CE, if_neg (by decide), if_neg (by decide), hV_n, if_neg (by decide), show sortI (-9) = -9 from rfl, q_174_at76, if_pos (by decide), cI_s]
    unfold KP
    rw [if_pos rfl, show (wI sR 38 0 m 0).1 30 0 12 = nI i from h2]
    exact RU_i hn rfl rfl oc (OR orr (by decide) (by decide))
  · have hi2 : i < n := by omega
    rw [CS hq hn (TC_off oc tc) hi2, c_22_2, hV_i hi2]
    by_cases e1 : f i = 33
    · rw [if_pos e1, e1, c_25_n hm sC hl.2.1, cI_s, cI_s, if_neg (by decide)]
      have oc1 : OffP (QC j) s0 (wI sC 17 j m 1) := OC oc (by decide) (by decide)
      have or1 : OffP QR r0 (wI (wI sR 30 0 12 (nI (i + 1))) 38 0 m 1) := OR (OR3 orr (by decide) (by decide)) (by decide) (by decide)
      have hl1 : RD j k m (wI sC 17 j m 1) (wI (wI sR 30 0 12 (nI (i + 1))) 38 0 m 1) := RD_d (RD_12 hl)
      by_cases e2 : i + 1 = n
      · subst e2
        rw [CE, if_neg (by decide), if_neg (by decide), hV_n, show sortI (-9) = -9 from rfl, q_174_at76, if_pos (by decide), cI_s]
        unfold KP
        rw [if_pos rfl]
        exact RU_i hn rfl rfl oc1 or1
      · have hi3 : i + 1 < n := by omega
        rw [CS hq hn (TC_off oc1 tc) hi3, c_22_3, hV_i hi3]
        have z := L3 hk hq hn hm hal (show 1 ≤ 1 by decide) tc tr oc1 or1 hi3 rfl hl1 (wI_same _ _ _ _ _) (wI_same _ _ _ _ _) next
        rw [show (fun x2 s2 => if x2 = -1 then some (some (.inl (nI (i + 1))), s2) else ev 21 38 [some (.inr (.inr (13, j))), some (.inr (.inr (2, 0))), some (.inl (nI q)), none, some (.inl (nI n)), some (.inl x2), some (.inl (nI (i + 1 + 1)))] [] s2 : Int32 → SS → RE) = fun x2 s2 => (fun x1 s1 => cI (some (some (.inl x1), s1)) (fun x2 s2 => if x2 = -1 then some (some (.inl (nI (i + 1))), s2) else ev 21 38 [some (.inr (.inr (13, j))), some (.inr (.inr (2, 0))), some (.inl (nI q)), none, some (.inl (nI n)), some (.inl x2), some (.inl (nI (i + 1 + 1)))] [] s2)) x2 s2 from rfl] at z
        have e9 : ∀ (r : RE) (K : Int32 → SS → RE), cI (cI r (fun x1 s1 => some (some (.inl x1), s1))) K = cI r K := by
          intro r K
          rcases r with _ | ⟨_ | (x | x), s⟩ <;> rfl
        rw [e9]
        exact z
    · rw [if_neg e1, c_25_y hm sC hl.2.1 e1]
      have e9 : ∀ (r : RE) (K : Int32 → SS → RE), cI (cI r (fun x1 s1 => some (some (.inl x1), s1))) K = cI r K := by
        intro r K
        rcases r with _ | ⟨_ | (x | x), s⟩ <;> rfl
      rw [e9, e9]
      exact L3 hk hq hn hm hal (show 0 ≤ 1 by decide) tc tr (OC oc (by decide) (by decide)) (OR orr (by decide) (by decide)) hi2 h2 (RD_d hl) (wI_same _ _ _ _ _) (wI_same _ _ _ _ _) next
/-- parts -/
theorem L5 {j k q n : Nat} {f : Nat → Int32} {s0 r0 : SS} (hk : k < 5) (hq : q < 4) (hn : n ≤ 40) (tc : TC s0 q n f) (tr : TR r0 q n f) : ∀ (d m i : Nat) (sC sR : SS), m + d = 5 → (3 ≤ k → m = 0) → OffP (QC j) s0 sC → OffP QR r0 sR → sR.1 30 0 12 = nI i → i ≤ n → RD j k m sC sR → RU j s0 r0 (Fn j k) (ev 21 38 [some (.inr (.inr (13, j))), some (.inr (.inr (2, 0))), some (.inl (nI q)), none, some (.inl (nI n)), some (.inl 2), some (.inl (nI i))] [] sC) (ev 176 43 [some (.inr (.inr (30, 0))), some (.inl (nI q)), none, some (.inl (bI (decide (3 ≤ k)))), some (.inl 1)] [] sR)
  | 0, m, i, sC, sR, hd, hal, oc, orr, h2, hi, hl => L4 hk hq hn (by omega) hal tc tr oc orr hi h2 hl (fun i' sC' sR' _ _ _ _ _ h6 _ => absurd h6 (by omega))
  | d + 1, m, i, sC, sR, hd, hal, oc, orr, h2, hi, hl => L4 hk hq hn (by omega) hal tc tr oc orr hi h2 hl (fun i' sC' sR' a1 a2 a3 a4 a5 _ a7 => L5 hk hq hn tc tr d (m + 1) i' sC' sR' (by omega) (fun z => absurd z (by omega)) a1 a2 a3 a4 a5)
