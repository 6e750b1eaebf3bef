/-- the head of a law, and what is ahead of it -/
noncomputable def KH (q k : Nat) (s1 : SS) : RE := cI (ev 175 0 [some (.inr (.inr (30, 0))), some (.inl (nI q)), some (.inl (nI k))] [] s1) (fun x2 s2 => if x2 = 0 then some (some (.inl (s2.1 30 0 12)), s2) else ev 176 43 [some (.inr (.inr (30, 0))), some (.inl (nI q)), none, some (.inl (bI (decide (3 ≤ k)))), some (.inl 1)] [] s2)
theorem c_22_0 {j : Nat} {v : Int32} {s : SS} : ev 22 0 [some (.inr (.inr (13, j))), some (.inl 0), some (.inl v)] [] s = if v = 32 then some (some (.inl 0), s) else cI (ev 23 0 [some (.inr (.inr (13, j))), some (.inl v)] [] s) (fun x1 s1 => some (some (.inl x1), s1)) := by
  rw [q_22, if_pos rfl]
theorem c_22_1 {j : Nat} {v : Int32} {s : SS} : ev 22 0 [some (.inr (.inr (13, j))), some (.inl 1), some (.inl v)] [] s = cI (ev 24 0 [some (.inr (.inr (13, j))), some (.inl v)] [] s) (fun x1 s1 => some (some (.inl x1), s1)) := by
  rw [q_22, if_neg (by decide), if_pos rfl]
theorem cI_id (r : RE) (K : Int32 → SS → RE) : cI (cI r (fun x1 s1 => some (some (.inl x1), s1))) K = cI r K := by
  rcases r with _ | ⟨_ | (x | x), s⟩ <;> rfl
def R0 (j k : Nat) (sC sR : SS) : Prop := sC.1 13 j 1 = nI k ∧ sC.1 13 j 4 = nI 0 ∧ sR.1 30 0 13 = nI 0 ∧ sC.1 13 j 3 = nI 0
theorem R0_D {j k g : Nat} {sC sR : SS} (h : R0 j k sC sR) (hg : g ≤ 4) : RD j k 0 (wI sC 13 j 3 (nI g)) (wI sR 30 0 14 (nI g)) := ⟨by simpa [wI_1] using h.1, by simpa [wI_1] using h.2.1, h.2.2.1, ⟨g, hg, wI_same _ _ _ _ _, wI_same _ _ _ _ _⟩, fun p hp => absurd hp (Nat.not_lt_zero p)⟩
theorem R0_0 {j k : Nat} {sC sR : SS} (h : R0 j k sC sR) : RD j k 0 sC (wI sR 30 0 14 0) := ⟨h.1, h.2.1, h.2.2.1, ⟨0, by decide, h.2.2.2, wI_same _ _ _ _ _⟩, fun p hp => absurd hp (Nat.not_lt_zero p)⟩
theorem fig_o {v : Int32} (h1 : ¬ v < 49) (h2 : ¬ 52 < v) : ∃ g, 1 ≤ g ∧ g ≤ 4 ∧ v - 48 = nI g := by
  rw [lt_iff] at h1 h2
  have t1 : (49 : Int32).toInt = 49 := rfl
  have t2 : (52 : Int32).toInt = 52 := rfl
  have e : v = nI v.toInt.toNat := by
    rw [eq_iff, ti_nI (by omega)]
    omega
  refine ⟨v.toInt.toNat - 48, by omega, by omega, ?_⟩
  rw [e, show (48 : Int32) = nI 48 from rfl, n_sub (by omega), ti_nI (by omega)]
  rfl
theorem L6 {j k q n i : Nat} {f : Nat → Int32} {s0 r0 sC sR : SS} (hk : k < 5) (hq : q < 4) (hn : n ≤ 40) (tc : TC s0 q n f) (tr : TR r0 q n f) (oc : OffP (QC j) s0 sC) (orr : OffP QR r0 sR) (hi : i ≤ n) (h2 : sR.1 30 0 12 = nI i) (hl : R0 j k sC sR) (hv : ¬ hV f n i = 32) : RU j s0 r0 (Fn j k) (ev 21 38 [some (.inr (.inr (13, j))), some (.inr (.inr (2, 0))), some (.inl (nI q)), none, some (.inl (nI n)), some (.inl 0), some (.inl (nI i))] [] sC) (KH q k sR) := by
  have or0 : OffP QR r0 (wI sR 30 0 14 0) := OR3 orr (by decide) (by decide)
  have h20 : (wI sR 30 0 14 0).1 30 0 12 = nI i := h2
  unfold KH
  rw [q_175]
  by_cases k4 : k = 4
  · subst k4
    rw [if_pos (show nI 4 = 4 from rfl), c_172 hq hn (TR_off or0 tr) hi h20]
    by_cases e : i = n
    · subst e
      rw [hV_n, if_neg (by decide), cI_s, show isZ 0 = true from rfl, CE, if_neg (by decide), if_neg (by decide)]
      show RU _ _ _ _ _ (cI (some (some (.inl 0), wI sR 30 0 14 0)) _)
      rw [cI_s, if_pos rfl, h20]
      exact RU_i hn rfl rfl oc or0
    · have hi2 : i < n := by omega
      rw [hV_i hi2] at hv ⊢
      rw [CS hq hn (TC_off oc tc) hi2, c_22_0, if_neg hv, cI_id, q_23, hl.1, if_neg (by decide), if_pos (show nI 4 = 4 from rfl)]
      by_cases e1 : f i = 49
      · rw [if_pos e1, if_pos e1, cI_s, cI_s, if_neg (by decide)]
        show RU _ _ _ _ _ (cI (some (some (.inl 1), wI (wI sR 30 0 14 0) 30 0 12 (nI (i + 1)))) _)
        rw [cI_s, if_neg (by decide)]
        exact L5 hk hq hn tc tr 5 0 (i + 1) _ _ rfl (fun _ => rfl) oc (OR3 or0 (by decide) (by decide)) rfl (by omega) (RD_12 (R0_0 hl))
      · rw [if_neg e1, if_neg e1, cI_s, cI_s, if_pos rfl]
        show RU _ _ _ _ _ (cI (some (some (.inl 0), wI sR 30 0 14 0)) _)
        rw [cI_s, if_pos rfl, h20]
        exact RU_i (by omega) rfl rfl oc or0
  have n4 : ¬ nI k = 4 := by
    rw [n_eqL (by omega) (by decide)]
    exact k4
  rw [if_neg n4]
  by_cases k3 : k = 3
  · subst k3
    rw [if_pos (show nI 3 = 3 from rfl), c_172 hq hn (TR_off or0 tr) hi h20]
    by_cases e : i = n
    · subst e
      rw [hV_n, if_neg (by decide), cI_s, if_pos rfl, CE, if_neg (by decide), if_neg (by decide), cI_s, if_pos rfl, h20]
      exact RU_i hn rfl rfl oc or0
    · have hi2 : i < n := by omega
      rw [hV_i hi2] at hv ⊢
      rw [CS hq hn (TC_off oc tc) hi2, c_22_0, if_neg hv, cI_id, q_23, hl.1, if_pos (show nI 3 = 3 from rfl)]
      by_cases e1 : f i = 35
      · rw [if_pos e1, if_pos e1, cI_s, cI_s, if_neg (by decide), if_neg (by decide)]
        have or1 : OffP QR r0 (wI (wI sR 30 0 14 0) 30 0 12 (nI (i + 1))) := OR3 or0 (by decide) (by decide)
        rw [c_170 hq hn (TR_off or1 tr) (by omega) (wI_same _ _ _ _ _), cI_s, c_144, cI_s, c_170 hq hn (TR_off or1 tr) (by omega) (wI_same _ _ _ _ _), cI_s, ite_bI]
        by_cases e2 : i + 1 = n
        · subst e2
          rw [hV_n, if_neg (by decide), cI_s, if_pos rfl, CE, if_neg (by decide), if_neg (by decide)]
          exact RU_i hn rfl rfl oc or1
        · have hi3 : i + 1 < n := by omega
          rw [hV_i hi3, CS hq hn (TC_off oc tc) hi3, c_22_1, cI_id, q_24]
          by_cases a1 : f (i + 1) < 49
          · rw [if_pos a1, if_neg (by simp [a1]), cI_s, cI_s, if_pos rfl, if_pos rfl]
            exact RU_i (by omega) rfl rfl oc or1
          · by_cases a2 : 52 < f (i + 1)
            · rw [if_neg a1, if_pos a2, if_neg (by simp [a2]), cI_s, cI_s, if_pos rfl, if_pos rfl]
              exact RU_i (by omega) rfl rfl oc or1
            · obtain ⟨g, hg1, hg2, hg3⟩ := fig_o a1 a2
              rw [if_neg a1, if_neg a2, if_pos (by simp [a1, a2]), cI_s, cI_s, if_neg (by decide), if_neg (by decide), hg3]
              have e5 : (wI (wI (wI sR 30 0 14 0) 30 0 12 (nI (i + 1))) 30 0 14 (nI g)).1 30 0 12 + 1 = nI (i + 1 + 1) := nI_s (i + 1)
              rw [e5]
              refine L5 hk hq hn tc tr 5 0 (i + 1 + 1) _ _ rfl (fun _ => rfl) (OC oc (by decide) (by decide)) (OR3 (OR3 or1 (by decide) (by decide)) (by decide) (by decide)) rfl (by omega) ?_
              exact RD_12 (R0_D (sR := wI (wI sR 30 0 14 0) 30 0 12 (nI (i + 1))) hl hg2)
      · rw [if_neg e1, if_neg e1, cI_s, cI_s, if_pos rfl, if_pos rfl, cI_s, if_pos rfl, h20]
        exact RU_i (by omega) rfl rfl oc or0
  have n3 : ¬ nI k = 3 := by
    rw [n_eqL (by omega) (by decide)]
    exact k3
  rw [if_neg n3, cI_s, if_neg (by decide)]
  have e5 : ev 21 38 [some (.inr (.inr (13, j))), some (.inr (.inr (2, 0))), some (.inl (nI q)), none, some (.inl (nI n)), some (.inl 0), some (.inl (nI i))] [] sC = ev 21 38 [some (.inr (.inr (13, j))), some (.inr (.inr (2, 0))), some (.inl (nI q)), none, some (.inl (nI n)), some (.inl 2), some (.inl (nI i))] [] sC := by
    by_cases e : i = n
    · subst e
      rw [CE, CE, if_neg (by decide), if_neg (by decide), if_neg (by decide), if_neg (by decide)]
    · have hi2 : i < n := by omega
      rw [hV_i hi2] at hv
      rw [CS hq hn (TC_off oc tc) hi2, CS hq hn (TC_off oc tc) hi2, c_22_0, if_neg hv, q_23, hl.1, if_neg n3, if_neg n4, cI_id, cI_id, c_22_2, cI_id]
  rw [e5]
  exact L5 hk hq hn tc tr 5 0 i _ _ rfl (fun _ => rfl) oc or0 h20 hi (R0_0 hl)
theorem L7 {j k q n : Nat} {f : Nat → Int32} {s0 r0 sC : SS} (hk : k < 5) (hq : q < 4) (hn : n ≤ 40) (tc : TC s0 q n f) (tr : TR r0 q n f) (oc : OffP (QC j) s0 sC) : ∀ (d i : Nat) (sR : SS), i + d = n → OffP QR r0 sR → sR.1 30 0 12 = nI i → R0 j k sC sR → RU j s0 r0 (Fn j k) (ev 21 38 [some (.inr (.inr (13, j))), some (.inr (.inr (2, 0))), some (.inl (nI q)), none, some (.inl (nI n)), some (.inl 0), some (.inl (nI i))] [] sC) (cV (ev 171 0 [some (.inr (.inr (30, 0))), some (.inl (nI q))] [] sR) (KH q k))
  | 0, i, sR, hd, orr, h2, hl => by
    have e : i = n := by omega
    subst e
    rw [c_171 hq hn (TR_off orr tr) (Nat.le_refl _) h2, hV_n, if_neg (by decide), cV_s]
    exact L6 hk hq hn tc tr oc orr (Nat.le_refl _) h2 hl (by rw [hV_n]; decide)
  | d + 1, i, sR, hd, orr, h2, hl => by
    have hi : i < n := by omega
    rw [c_171 hq hn (TR_off orr tr) (by omega) h2]
    by_cases e : hV f n i = 32
    · rw [if_pos e]
      rw [hV_i hi] at e
      rw [CS hq hn (TC_off oc tc) hi, c_22_0, if_pos e, cI_s, if_neg (by decide)]
      exact L7 hk hq hn tc tr oc d (i + 1) _ (by omega) (OR3 orr (by decide) (by decide)) rfl hl
    · rw [if_neg e, cV_s]
      exact L6 hk hq hn tc tr oc orr (by omega) h2 hl e
theorem rd {j k q n : Nat} {f : Nat → Int32} {s r : SS} (hk : k < 5) (hq : q < 4) (hn : n ≤ 40) (tc : TC s q n f) (tr : TR r q n f) : RU j s r (Fn j k) (ev 21 0 [some (.inr (.inr (13, j))), some (.inr (.inr (2, 0))), some (.inl (nI q)), some (.inl (nI k)), none, none, none] [] s) (ev 176 0 [some (.inr (.inr (30, 0))), some (.inl (nI q)), some (.inl (nI k)), none, none] [] r) := by
  have oc : OffP (QC j) s (wI (wI (wI (wI (wI s 13 j 0 0) 13 j 1 (nI k)) 13 j 2 0) 13 j 3 0) 13 j 4 0) := OC (OC (OC (OC (OC OP_rf (by decide) (by decide)) (by decide) (by decide)) (by decide) (by decide)) (by decide) (by decide)) (by decide) (by decide)
  have orr : OffP QR r (wI (wI r 30 0 12 0) 30 0 13 0) := OR3 (OR3 OP_rf (by decide) (by decide)) (by decide) (by decide)
  have tc2 := TC_off oc tc
  rw [q_21, c_11_2, hasT_y hq hn tc2.1, if_pos rfl, cl_nI (by omega), tc2.1, cI_s]
  have e : ev 176 0 [some (.inr (.inr (30, 0))), some (.inl (nI q)), some (.inl (nI k)), none, none] [] r = cV (ev 171 0 [some (.inr (.inr (30, 0))), some (.inl (nI q))] [] (wI (wI r 30 0 12 0) 30 0 13 0)) (KH q k) := by
    rw [q_176]
    have e0 : (nI k < (3 : Int32)) = (k < 3) := n_lt (a := k) (b := 3) (by omega) (by decide)
    simp only [e0]
    by_cases h : k < 3
    · have h3 : decide (3 ≤ k) = false := decide_eq_false (by omega)
      rw [if_pos h, q_176_at10]
      unfold KH
      rw [h3]
      rfl
    · have h3 : decide (3 ≤ k) = true := decide_eq_true (by omega)
      rw [if_neg h, q_176_at10]
      unfold KH
      rw [h3]
      rfl
  rw [e]
  refine L7 hk hq hn tc tr oc n 0 _ (by omega) orr rfl ⟨?_, ?_, ?_, ?_⟩
  · simp [wI_1]
  · simp [wI_1]; rfl
  · rfl
  · simp [wI_1]; rfl
