/-! one part -/
theorem PD_off {j k p : Nat} {sC sC' sR sR' : SS} (h : PD j k sC sR p) (hc : ∀ a, 14 ≤ a → a ≤ 17 → sC'.1 a j p = sC.1 a j p) (hr : ∀ a, 38 ≤ a → a ≤ 41 → sR'.1 a 0 p = sR.1 a 0 p) : PD j k sC' sR' p := by
  have e1 := hc 14 (by decide) (by decide)
  have e2 := hc 15 (by decide) (by decide)
  have e3 := hc 16 (by decide) (by decide)
  have e4 := hc 17 (by decide) (by decide)
  have e5 := hr 38 (by decide) (by decide)
  have e6 := hr 39 (by decide) (by decide)
  have e7 := hr 40 (by decide) (by decide)
  have e8 := hr 41 (by decide) (by decide)
  unfold PD
  rw [e1, e2, e3, e4, e5, e6, e7, e8]
  exact h
theorem c_22_5 {j : Nat} {v : Int32} {s : SS} : ev 22 0 [some (.inr (.inr (13, j))), some (.inl 5), some (.inl v)] [] s = cI (ev 28 0 [some (.inr (.inr (13, j))), some (.inl v)] [] s) (fun x1 s1 => some (some (.inl x1), s1)) := by
  rw [q_22, if_neg (by decide), if_neg (by decide), if_neg (by decide), if_neg (by decide), if_neg (by decide), if_pos rfl]
theorem c_22_4 {j : Nat} {v : Int32} {s : SS} : ev 22 0 [some (.inr (.inr (13, j))), some (.inl 4), some (.inl v)] [] s = cI (ev 27 0 [some (.inr (.inr (13, j))), some (.inl v)] [] s) (fun x1 s1 => some (some (.inl x1), s1)) := by
  rw [q_22, if_neg (by decide), if_neg (by decide), if_neg (by decide), if_neg (by decide), if_pos rfl]
theorem c_22_3 {j : Nat} {v : Int32} {s : SS} : ev 22 0 [some (.inr (.inr (13, j))), some (.inl 3), some (.inl v)] [] s = cI (ev 26 0 [some (.inr (.inr (13, j))), some (.inl v)] [] s) (fun x1 s1 => some (some (.inl x1), s1)) := by
  rw [q_22, if_neg (by decide), if_neg (by decide), if_neg (by decide), if_pos rfl]
theorem c_22_2 {j : Nat} {v : Int32} {s : SS} : ev 22 0 [some (.inr (.inr (13, j))), some (.inl 2), some (.inl v)] [] s = cI (ev 25 0 [some (.inr (.inr (13, j))), some (.inl v)] [] s) (fun x1 s1 => some (some (.inl x1), s1)) := by
  rw [q_22, if_neg (by decide), if_neg (by decide), if_pos rfl]
theorem v_o {o : Nat} (ho : o ≤ 1) : nI (120 + o) - 120 = nI o := by
  rw [show (120 : Int32) = nI 120 from rfl, n_sub (by omega)]
  congr 1
  omega
theorem isV9 (al : Bool) : isV al (-9) = false := by cases al <;> decide
def sortI (v : Int32) : Int32 := if v = 65 then 0 else if v = 66 then 1 else if v = 67 then 2 else if v = 70 then 3 else -9
noncomputable def KP (q : Nat) (al : Bool) (x2 : Int32) (s2 : SS) : RE := if x2 = 0 then some (some (.inl (s2.1 30 0 12)), s2) else RAf q al s2
/-- the reference's end of a part -/
theorem r147 {m : Nat} {v : Int32} {s : SS} (hm : m < 6) (h3 : s.1 30 0 13 = nI m) : ev 174 147 [some (.inr (.inr (30, 0))), none, none, some (.inl (nI m)), none] [(.inl v), (.inl (nI m)), (.inr (.inr (41, 0)))] s = if v < 0 then some (some (.inl 0), wI (wI s 41 0 m v) 30 0 13 (nI (m + 1))) else some (some (.inl 1), wI (wI s 41 0 m v) 30 0 13 (nI (m + 1))) := by
  have e : (wI s 41 0 m v).1 30 0 13 = nI m := h3
  have e2 : (wI (wI s 41 0 m v) 30 0 13 (nI (m + 1))).1 41 0 m = v := (wI_same s 41 0 m v)
  rw [q_174_at147, if_pos (ixB_nI hm (by decide)), if_pos (ixB_nI hm (by decide)), cl_nI (by omega), e, nI_s, e2]
theorem r76 {q n m i : Nat} {f : Nat → Int32} {al : Bool} {so : Nat} {s : SS} (hq : q < 4) (hn : n ≤ 40) (hm : m < 6) (hso : so ≤ 3) (h : TR s q n f) (hi : i < n) (h2 : s.1 30 0 12 = nI i) (h3 : s.1 30 0 13 = nI m) : ev 174 76 [some (.inr (.inr (30, 0))), some (.inl (nI q)), some (.inl (bI al)), some (.inl (nI m)), none] [(.inl (nI so))] s = cI (ev 173 0 [some (.inr (.inr (30, 0))), some (.inl (nI q)), some (.inl (bI al))] [] (wI (wI s 30 0 12 (nI (i + 1))) 39 0 m (nI so))) (fun x1 s1 => if x1 < 0 then some (some (.inl 0), wI s1 40 0 m x1) else if so = 3 then cI (ev 173 0 [some (.inr (.inr (30, 0))), some (.inl (nI q)), some (.inl (bI al))] [] (wI s1 40 0 m x1)) (fun x2 s2 => ev 174 147 [some (.inr (.inr (30, 0))), none, none, some (.inl (nI m)), none] [(.inl x2), (.inl (nI m)), (.inr (.inr (41, 0)))] s2) else ev 174 147 [some (.inr (.inr (30, 0))), none, none, some (.inl (nI m)), none] [(.inl 0), (.inl (nI m)), (.inr (.inr (41, 0)))] (wI s1 40 0 m x1)) := by
  rw [q_174_at76, if_neg (nI_pos (by omega)), if_pos (ixB_nI hm (by decide)), h2, nI_s]
  congr 1
  · rw [cl_nI (by omega)]
  · funext x1 s1
    rw [if_pos (ixB_nI hm (by decide)), if_pos (ixB_nI hm (by decide)), cl_nI (by omega), wI_same]
    have e : (nI so = (3 : Int32)) = (so = 3) := n_eq (a := so) (b := 3) (by omega) (by decide)
    simp only [e]
theorem OC {j : Nat} {s0 s : SS} {a c : Nat} {v : Int32} (h : OffP (QC j) s0 s) (h1 : 13 ≤ a) (h2 : a ≤ 17) : OffP (QC j) s0 (wI s a j c v) := OP_wI h (by simp [QC, h1, h2])
theorem OR {r0 s : SS} {a c : Nat} {v : Int32} (h : OffP QR r0 s) (h1 : 38 ≤ a) (h2 : a ≤ 41) : OffP QR r0 (wI s a 0 c v) := OP_wI h (by simp [QR, h1, h2])
theorem OR3 {r0 s : SS} {c : Nat} {v : Int32} (h : OffP QR r0 s) (h1 : 12 ≤ c) (h2 : c ≤ 14) : OffP QR r0 (wI s 30 0 c v) := OP_wI h (by simp [QR, h1, h2])
/-- the last name of a part, simple sort -/
theorem L3s {j k q n i m d so : Nat} {f : Nat → Int32} {s0 r0 sC sR : SS} (hk : k < 5) (hq : q < 4) (hn : n ≤ 40) (hm : m < 6) (hal : 3 ≤ k → m = 0) (hso : so < 3) (hd : d ≤ 1) (tc : TC s0 q n f) (tr : TR r0 q n f) (oc : OffP (QC j) s0 sC) (orr : OffP QR r0 sR) (hi : i < n) (h2 : sR.1 30 0 12 = nI i) (hl : RD j k m sC sR) (d1 : sC.1 17 j m = nI d) (d2 : sR.1 38 0 m = nI d)
    (next : ∀ i' sC' sR', OffP (QC j) s0 sC' → OffP QR r0 sR' → sR'.1 30 0 12 = nI i' → i' ≤ n → RD j k (m + 1) sC' sR' → m + 1 < 6 → k < 3 → RU j s0 r0 (Fn j k) (ev 21 38 [some (.inr (.inr (13, j))), some (.inr (.inr (2, 0))), some (.inl (nI q)), none, some (.inl (nI n)), some (.inl 2), some (.inl (nI i'))] [] sC') (ev 176 43 [some (.inr (.inr (30, 0))), some (.inl (nI q)), none, some (.inl (bI (decide (3 ≤ k)))), some (.inl 1)] [] sR')) :
    RU j s0 r0 (Fn j k) (ev 21 38 [some (.inr (.inr (13, j))), some (.inr (.inr (2, 0))), some (.inl (nI q)), none, some (.inl (nI n)), some (.inl 5), some (.inl (nI (i + 1)))] [] (wI (wI sC 15 j m (-1)) 14 j m (nI (4 * so)))) (cI (ev 174 76 [some (.inr (.inr (30, 0))), some (.inl (nI q)), some (.inl (bI (decide (3 ≤ k)))), some (.inl (nI m)), none] [(.inl (nI so))] sR) (KP q (decide (3 ≤ k)))) := by
  have oc1 : OffP (QC j) s0 (wI (wI sC 15 j m (-1)) 14 j m (nI (4 * so))) := OC (OC oc (by decide) (by decide)) (by decide) (by decide)
  have or1 : OffP QR r0 (wI (wI sR 30 0 12 (nI (i + 1))) 39 0 m (nI so)) := OR (OR3 orr (by decide) (by decide)) (by decide) (by decide)
  rw [r76 hq hn hm (by omega) (TR_off orr tr) hi h2 hl.2.2.1]
  cases hv : isV (decide (3 ≤ k)) (hV f n (i + 1)) with
  | false =>
    rw [c_173_n hq hn (TR_off or1 tr) (by omega) rfl hv, cI_s, if_pos (by decide), cI_s]
    unfold KP
    rw [if_pos rfl]
    by_cases e : i + 1 = n
    · subst e
      rw [CE, if_neg (by decide), if_neg (by decide)]
      exact RU_i (by omega) rfl rfl oc1 (OR or1 (by decide) (by decide))
    · have hi2 : i + 1 < n := by omega
      rw [hV_i hi2] at hv
      rw [CS hq hn (TC_off oc1 tc) hi2, c_22_5, c_28 hm hk (wI (wI sC 15 j m (-1)) 14 j m (nI (4 * so))) hl.2.1 hl.1, hv, if_neg (by decide), cI_s, cI_s, if_pos rfl]
      exact RU_i (by omega) rfl rfl oc1 (OR or1 (by decide) (by decide))
  | true =>
    have hi2 : i + 1 < n := by
      by_cases e : i + 1 = n
      · subst e
        rw [hV_n, isV9] at hv
        exact absurd hv (by decide)
      · omega
    obtain ⟨o, ho, hvo, hoal⟩ := isV_o hv
    rw [c_173_y hq hn (TR_off or1 tr) (by omega) rfl ho hvo hoal, cI_s, if_neg (nI_pos (by omega)), if_neg (by omega), r147 (s := wI (wI (wI (wI sR 30 0 12 (nI (i + 1))) 39 0 m (nI so)) 30 0 12 (nI (i + 1 + 1))) 40 0 m (nI o)) hm hl.2.2.1, if_neg (by decide), cI_s]
    rw [hV_i hi2] at hv hvo
    rw [CS hq hn (TC_off oc1 tc) hi2, c_22_5, c_28 hm hk (wI (wI sC 15 j m (-1)) 14 j m (nI (4 * so))) hl.2.1 hl.1, hv, if_pos rfl, cI_s, cI_s, if_neg (by decide), hvo, v_o ho]
    show RU _ _ _ _ _ (RAf q (decide (3 ≤ k)) _)
    have oc2 := OC (c := 4) (v := nI (m + 1)) (OC (c := m) (v := nI o) oc1 (show 13 ≤ 16 by decide) (by decide)) (show 13 ≤ 13 by decide) (by decide)
    have or2 := OR3 (c := 13) (v := nI (m + 1)) (OR (a := 41) (c := m) (v := 0) (OR (a := 40) (c := m) (v := nI o) (OR3 (c := 12) (v := nI (i + 1 + 1)) or1 (by decide) (by decide)) (by decide) (by decide)) (by decide) (by decide)) (by decide) (by decide)
    have hl2 : RD j k (m + 1) (wI (wI (wI (wI sC 15 j m (-1)) 14 j m (nI (4 * so))) 16 j m (nI o)) 13 j 4 (nI (m + 1))) (wI (wI (wI (wI (wI (wI sR 30 0 12 (nI (i + 1))) 39 0 m (nI so)) 30 0 12 (nI (i + 1 + 1))) 40 0 m (nI o)) 41 0 m 0) 30 0 13 (nI (m + 1))) := by
      refine ⟨by simpa [wI_1] using hl.1, wI_same _ _ _ _ _, wI_same _ _ _ _ _, by simpa [wI_1] using hl.2.2.2.1, fun p hp => ?_⟩
      by_cases e : p = m
      · subst e
        refine ⟨d, so, o, 0, hd, by omega, ho, by decide, ?_, ?_, ?_, ?_, ?_, fun z => ⟨hoal (decide_eq_true z), rfl⟩, Or.inr ⟨hso, rfl, ?_, ?_, ?_⟩⟩
        · simpa [wI_1] using d1
        · simpa [wI_1] using d2
        · simp [wI_1]
        · simp [wI_1]
        · simp [wI_1]; rfl
        · simp [wI_1]
        · simp [wI_1]
        · simp [wI_1]
      · exact PD_off (hl.2.2.2.2 p (by omega)) (fun a h1 h2 => by have : a ≠ 13 := by omega
                                                                  simp [wI_1, e, this]) (fun a h1 h2 => by have : a ≠ 30 := by omega
                                                                                                           simp [wI_1, e, this])
    exact L2 hk hq hn (by omega) (by omega) (fun z => by have := hal z; omega) tc tr oc2 or2 (by omega) rfl hl2 (fun h5 h6 h7 => next _ _ _ oc2 (OR3 or2 (by decide) (by decide)) (wI_same _ _ _ _ _) (by omega) hl2 h5 h6)
