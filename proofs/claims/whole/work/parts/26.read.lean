/-! reading a law -/
def OffP (Q : Nat → Nat → Nat → Bool) (s t : SS) : Prop := (∀ a b c, Q a b c = false → t.1 a b c = s.1 a b c) ∧ t.2 = s.2
theorem OP_rf {Q : Nat → Nat → Nat → Bool} {s : SS} : OffP Q s s := ⟨fun _ _ _ _ => rfl, rfl⟩
theorem OP_tr {Q : Nat → Nat → Nat → Bool} {s t u : SS} (h1 : OffP Q s t) (h2 : OffP Q t u) : OffP Q s u := ⟨fun a b c h => (h2.1 a b c h).trans (h1.1 a b c h), h2.2.trans h1.2⟩
theorem OP_wI {Q : Nat → Nat → Nat → Bool} {s t : SS} {k j i : Nat} {v : Int32} (h : OffP Q s t) (hq : Q k j i = true) : OffP Q s (wI t k j i v) := ⟨fun a b c ha => by
  rw [wI_1, if_neg]
  · exact h.1 a b c ha
  · rintro ⟨rfl, rfl, rfl⟩
    rw [hq] at ha
    exact absurd ha (by decide), h.2⟩
def QC (j a b _c : Nat) : Bool := (13 ≤ a && a ≤ 17) && b == j
def QR (a _b c : Nat) : Bool := (38 ≤ a && a ≤ 41) || (a == 30 && (12 ≤ c && c ≤ 14))
theorem wI_id (s : SS) (k j i : Nat) : wI s k j i (s.1 k j i) = s := by
  refine Prod.ext ?_ rfl
  funext a b c
  rw [wI_1]
  by_cases h : a = k ∧ b = j ∧ c = i
  · rw [if_pos h, h.1, h.2.1, h.2.2]
  · rw [if_neg h]
theorem wI_same (s : SS) (k j i : Nat) (v : Int32) : (wI s k j i v).1 k j i = v := by
  rw [wI_1, if_pos ⟨rfl, rfl, rfl⟩]
/-- what stands at a place of the text, or nothing -/
def hV (f : Nat → Int32) (n i : Nat) : Int32 := if i < n then f i else -9
/-- the text of the class, the text of the reference -/
def TC (s : SS) (q n : Nat) (f : Nat → Int32) : Prop := s.1 6 0 q = nI n ∧ ∀ i, i < n → s.1 8 q i = f i
def TR (s : SS) (q n : Nat) (f : Nat → Int32) : Prop := s.1 35 0 q = nI n ∧ ∀ i, i < n → s.1 36 0 (40 * q + i) = f i
theorem TC_off {s t : SS} {j q n : Nat} {f : Nat → Int32} (h : OffP (QC j) s t) (g : TC s q n f) : TC t q n f := ⟨(h.1 6 0 q rfl).trans g.1, fun i hi => (h.1 8 q i rfl).trans (g.2 i hi)⟩
theorem TR_off {s t : SS} {q n : Nat} {f : Nat → Int32} (h : OffP QR s t) (g : TR s q n f) : TR t q n f := ⟨(h.1 35 0 q rfl).trans g.1, fun i hi => (h.1 36 0 (40 * q + i) rfl).trans (g.2 i hi)⟩
theorem CS {s : SS} {j q n i : Nat} {f : Nat → Int32} {x : Int32} (hq : q < 4) (hn : n ≤ 40) (h : TC s q n f) (hi : i < n) : ev 21 38 [some (.inr (.inr (13, j))), some (.inr (.inr (2, 0))), some (.inl (nI q)), none, some (.inl (nI n)), some (.inl x), some (.inl (nI i))] [] s = cI (ev 22 0 [some (.inr (.inr (13, j))), some (.inl x), some (.inl (f i))] [] s) (fun x2 s2 => if x2 = -1 then some (some (.inl (nI i)), s2) else ev 21 38 [some (.inr (.inr (13, j))), some (.inr (.inr (2, 0))), some (.inl (nI q)), none, some (.inl (nI n)), some (.inl x2), some (.inl (nI (i + 1)))] [] s2) := by
  rw [q_21_at38, if_pos (nI_lt hi (by omega)), plT_y hq hn h.1 hi, cI_s, h.2 i hi, nI_s]
theorem CE {s : SS} {j q n : Nat} {x : Int32} : ev 21 38 [some (.inr (.inr (13, j))), some (.inr (.inr (2, 0))), some (.inl (nI q)), none, some (.inl (nI n)), some (.inl x), some (.inl (nI n))] [] s = if x = 6 then some (some (.inl (-9)), s) else if x = 7 then some (some (.inl (-9)), s) else some (some (.inl (nI n)), s) := by
  rw [q_21_at38, if_neg (irr _)]
theorem c_31 (j : Nat) (s : SS) : ev 31 0 [some (.inr (.inr (13, j)))] [] s = some (some (.inl (bI (decide (s.1 13 j 1 = 3) || decide (s.1 13 j 1 = 4)))), s) := by
  rw [q_31]
  by_cases h1 : s.1 13 j 1 = 3 <;> by_cases h2 : s.1 13 j 1 = 4 <;> simp [h1, h2, bI]
theorem al_k : ∀ k, k < 5 → (decide (nI k = 3) || decide (nI k = 4)) = decide (3 ≤ k) := by decide
def isV (al : Bool) (v : Int32) : Bool := decide (v = 120) || (decide (v = 121) && !al)
theorem c_30 {j k : Nat} (hk : k < 5) (v : Int32) (s : SS) (h : s.1 13 j 1 = nI k) : ev 30 0 [some (.inr (.inr (13, j))), some (.inl v)] [] s = some (some (.inl (bI (isV (decide (3 ≤ k)) v))), s) := by
  rw [q_30, c_31, h, al_k k hk, cI_s, ite_bI]
  unfold isV
  by_cases h1 : v = 120 <;> by_cases h2 : v = 121 <;> by_cases h3 : 3 ≤ k <;> simp [h1, h2, h3, bI]
theorem c_25_n {j m : Nat} (hm : m < 6) (s : SS) (h : s.1 13 j 4 = nI m) : ev 25 0 [some (.inr (.inr (13, j))), some (.inl 33)] [] s = some (some (.inl 3), wI s 17 j m 1) := by
  have h2 : (wI s 17 j m 1).1 13 j 4 = nI m := h
  rw [q_25, h, if_pos (show nI m < (6 : Int32) from nI_lt hm (by decide)), if_pos rfl, q_25_at30, if_pos (ixB_nI hm (by decide)), cl_nI (by omega), show ((1 : Int32) &&& 1) = 1 from by decide, h2, if_pos (ixB_nI hm (by decide)), cl_nI (by omega), wI_same, if_neg (by decide)]
theorem c_25_y {j m : Nat} {v : Int32} (hm : m < 6) (s : SS) (h : s.1 13 j 4 = nI m) (hv : ¬ v = 33) : ev 25 0 [some (.inr (.inr (13, j))), some (.inl v)] [] s = cI (ev 26 0 [some (.inr (.inr (13, j))), some (.inl v)] [] (wI s 17 j m 0)) (fun x1 s1 => some (some (.inl x1), s1)) := by
  have h2 : (wI s 17 j m 0).1 13 j 4 = nI m := h
  rw [q_25, h, if_pos (show nI m < (6 : Int32) from nI_lt hm (by decide)), if_neg hv, q_25_at30, if_pos (ixB_nI hm (by decide)), cl_nI (by omega), show ((0 : Int32) &&& 1) = 0 from by decide, h2, if_pos (ixB_nI hm (by decide)), cl_nI (by omega), wI_same, if_pos rfl]
theorem c_26_s {j m : Nat} {v : Int32} (hm : m < 6) (s : SS) (h : s.1 13 j 4 = nI m) (h1 : ¬ v < 65) (h2 : ¬ 67 < v) : ev 26 0 [some (.inr (.inr (13, j))), some (.inl v)] [] s = some (some (.inl 5), wI (wI s 15 j m (-1)) 14 j m (4 * (v - 65))) := by
  have h3 : (wI s 15 j m (-1)).1 13 j 4 = nI m := h
  rw [q_26, h, if_pos (show nI m < (6 : Int32) from nI_lt hm (by decide)), if_pos (ixB_nI hm (by decide)), cl_nI (by omega), if_neg h1, if_neg h2, h3, if_pos (ixB_nI hm (by decide)), cl_nI (by omega)]
theorem c_26_o {j m : Nat} {v : Int32} (hm : m < 6) (s : SS) (h : s.1 13 j 4 = nI m) (h1 : v < 65 ∨ 67 < v) : ev 26 0 [some (.inr (.inr (13, j))), some (.inl v)] [] s = if v = 70 then some (some (.inl 4), wI (wI s 15 j m (-1)) 14 j m 12) else some (some (.inl (-1)), wI (wI s 15 j m (-1)) 14 j m 12) := by
  have h3 : (wI s 15 j m (-1)).1 13 j 4 = nI m := h
  rw [q_26, h, if_pos (show nI m < (6 : Int32) from nI_lt hm (by decide)), if_pos (ixB_nI hm (by decide)), cl_nI (by omega)]
  by_cases h2 : v < 65
  · rw [if_pos h2, q_26_at50, h3, if_pos (ixB_nI hm (by decide)), cl_nI (by omega)]
  · have h4 : 67 < v := h1.resolve_left h2
    rw [if_neg h2, if_pos h4, q_26_at50, h3, if_pos (ixB_nI hm (by decide)), cl_nI (by omega)]
theorem c_27 {j m k : Nat} {v : Int32} (hm : m < 6) (hk : k < 5) (s : SS) (h : s.1 13 j 4 = nI m) (h1 : s.1 13 j 1 = nI k) : ev 27 0 [some (.inr (.inr (13, j))), some (.inl v)] [] s = if isV (decide (3 ≤ k)) v = true then some (some (.inl 5), wI s 15 j m (v - 120)) else some (some (.inl (-1)), s) := by
  rw [q_27, h, if_pos (show nI m < (6 : Int32) from nI_lt hm (by decide)), c_30 hk v s h1, cI_s, ite_bI, h, if_pos (ixB_nI hm (by decide)), cl_nI (by omega)]
theorem c_28 {j m k : Nat} {v : Int32} (hm : m < 6) (hk : k < 5) (s : SS) (h : s.1 13 j 4 = nI m) (h1 : s.1 13 j 1 = nI k) : ev 28 0 [some (.inr (.inr (13, j))), some (.inl v)] [] s = if isV (decide (3 ≤ k)) v = true then some (some (.inl 6), wI (wI s 16 j m (v - 120)) 13 j 4 (nI (m + 1))) else some (some (.inl (-1)), s) := by
  have h3 : (wI s 16 j m (v - 120)).1 13 j 4 = nI m := h
  rw [q_28, h, if_pos (show nI m < (6 : Int32) from nI_lt hm (by decide)), c_30 hk v s h1, cI_s, ite_bI, h, if_pos (ixB_nI hm (by decide)), cl_nI (by omega), h3, nI_s]
theorem c_29 {j m k : Nat} {v : Int32} (hm : m ≤ 6) (hk : k < 5) (s : SS) (h : s.1 13 j 4 = nI m) (h1 : s.1 13 j 1 = nI k) : ev 29 0 [some (.inr (.inr (13, j))), some (.inl v), none] [] s = if v = 32 then some (some (.inl 7), s) else if v = 124 ∧ k < 3 ∧ m < 6 then some (some (.inl 2), s) else some (some (.inl (-1)), s) := by
  rw [q_29, c_31, h1, al_k k hk, cI_s, ite_bI, h]
  have e := n_lt (a := m) (b := 6) (by omega) (by decide)
  have e' : (nI m < (6 : Int32)) = (m < 6) := e
  simp only [e']
  by_cases a1 : v = 32
  · simp [a1]
  · by_cases a2 : v = 124 <;> by_cases a3 : 3 ≤ k <;> by_cases a4 : m < 6
    all_goals
      have a5 : (k < 3) = ¬ (3 ≤ k) := by simp
      simp [a2, a3, a4, a5, q_29_at30]
    all_goals
      intro z
      exact absurd z a1
/-! the reference's steps -/
theorem c_170 {s : SS} {q n i : Nat} {f : Nat → Int32} (hq : q < 4) (hn : n ≤ 40) (h : TR s q n f) (hi : i ≤ n) (h2 : s.1 30 0 12 = nI i) : ev 170 0 [some (.inr (.inr (30, 0))), some (.inl (nI q))] [] s = some (some (.inl (hV f n i)), s) := by
  rw [q_170, if_pos (ixB_nI hq (by decide)), h2, cl_nI (by omega), h.1]
  unfold hV
  by_cases e : i < n
  · rw [if_pos (nI_lt e (by omega)), n_mulL, n_add, if_pos (ixB_nI (by omega) (by decide)), cl_nI (by omega), if_pos e, h.2 i e]
  · rw [if_neg (show ¬ nI i < nI n from by rw [n_lt (by omega) (by omega)]; exact e), if_neg e]
theorem c_172 {s : SS} {q n i : Nat} {f : Nat → Int32} {v : Int32} (hq : q < 4) (hn : n ≤ 40) (h : TR s q n f) (hi : i ≤ n) (h2 : s.1 30 0 12 = nI i) : ev 172 0 [some (.inr (.inr (30, 0))), some (.inl (nI q)), some (.inl v), none] [] s = if hV f n i = v then some (some (.inl 1), wI s 30 0 12 (nI (i + 1))) else some (some (.inl 0), s) := by
  rw [q_172, c_170 hq hn h hi h2, cI_s]
  by_cases e : hV f n i = v
  · rw [if_pos e, if_pos e, q_172_at14, if_neg (by decide), h2, nI_s]
    rfl
  · rw [if_neg e, if_neg e, q_172_at14, if_pos rfl, h2, nI_z, ← h2, wI_id]
    rfl
theorem c_173 {s : SS} {q n i : Nat} {f : Nat → Int32} {al : Bool} (hq : q < 4) (hn : n ≤ 40) (h : TR s q n f) (hi : i ≤ n) (h2 : s.1 30 0 12 = nI i) : ev 173 0 [some (.inr (.inr (30, 0))), some (.inl (nI q)), some (.inl (bI al))] [] s = if hV f n i = 120 then some (some (.inl 0), wI s 30 0 12 (nI (i + 1))) else if hV f n i = 121 ∧ al = false then some (some (.inl 1), wI s 30 0 12 (nI (i + 1))) else some (some (.inl (-9)), s) := by
  rw [q_173, c_172 hq hn h hi h2]
  by_cases e : hV f n i = 120
  · rw [if_pos e, if_pos e, cI_s, if_neg (by decide)]
  · rw [if_neg e, if_neg e, cI_s, if_pos rfl, ite_bI, c_172 hq hn h hi h2]
    by_cases e2 : hV f n i = 121
    · cases al
      · rw [if_neg (by decide), if_pos e2, cI_s, if_neg (by decide), if_pos ⟨e2, rfl⟩]
      · simp
    · cases al
      · rw [if_neg (by decide), if_neg e2, cI_s, if_pos rfl, if_neg (fun z => e2 z.1)]
      · simp
/-- a run of both: the same answer, and what else is so -/
def RU (j : Nat) (s0 r0 : SS) (Fin : SS → SS → Prop) (cl rf : RE) : Prop := ∃ a sC sR, cl = some (some (.inl a), sC) ∧ rf = some (some (.inl a), sR) ∧ OffP (QC j) s0 sC ∧ OffP QR r0 sR ∧ (a = -9 → Fin sC sR) ∧ (a = -9 ∨ ∃ i, i ≤ 40 ∧ a = nI i)
theorem RU_i {j i : Nat} {s0 r0 sC sR : SS} {Fin : SS → SS → Prop} {cl rf : RE} (hi : i ≤ 40) (h1 : cl = some (some (.inl (nI i)), sC)) (h2 : rf = some (some (.inl (nI i)), sR)) (h3 : OffP (QC j) s0 sC) (h4 : OffP QR r0 sR) : RU j s0 r0 Fin cl rf := ⟨nI i, sC, sR, h1, h2, h3, h4, fun z => by
  exfalso
  have := n_ne (a := i) (n := 9) (by omega) (by decide) (by decide)
  rw [show (-9 : Int32) = -(OfNat.ofNat 9 : Int32) from rfl, this] at z
  exact z, Or.inr ⟨i, hi, rfl⟩⟩
theorem RU_9 {j : Nat} {s0 r0 sC sR : SS} {Fin : SS → SS → Prop} {cl rf : RE} (h1 : cl = some (some (.inl (-9)), sC)) (h2 : rf = some (some (.inl (-9)), sR)) (h3 : OffP (QC j) s0 sC) (h4 : OffP QR r0 sR) (h5 : Fin sC sR) : RU j s0 r0 Fin cl rf := ⟨-9, sC, sR, h1, h2, h3, h4, fun _ => h5, Or.inl rfl⟩
theorem isV_o {al : Bool} {v : Int32} (h : isV al v = true) : ∃ o, o ≤ 1 ∧ v = nI (120 + o) ∧ (al = true → o = 0) := by
  unfold isV at h
  simp only [Bool.or_eq_true, Bool.and_eq_true, decide_eq_true_eq, Bool.not_eq_true'] at h
  rcases h with h | ⟨h, h2⟩
  · exact ⟨0, by decide, h, fun _ => rfl⟩
  · exact ⟨1, by decide, h, fun z => by rw [h2] at z; exact absurd z (by decide)⟩
theorem c_173_y {s : SS} {q n i o : Nat} {f : Nat → Int32} {al : Bool} (hq : q < 4) (hn : n ≤ 40) (h : TR s q n f) (hi : i ≤ n) (h2 : s.1 30 0 12 = nI i) (ho : o ≤ 1) (hv : hV f n i = nI (120 + o)) (ha : al = true → o = 0) : ev 173 0 [some (.inr (.inr (30, 0))), some (.inl (nI q)), some (.inl (bI al))] [] s = some (some (.inl (nI o)), wI s 30 0 12 (nI (i + 1))) := by
  rw [c_173 hq hn h hi h2, hv]
  by_cases e : o = 0
  · subst e
    rfl
  · have e1 : o = 1 := by omega
    subst e1
    cases al
    · rfl
    · exact absurd (ha rfl) (by decide)
theorem c_173_n {s : SS} {q n i : Nat} {f : Nat → Int32} {al : Bool} (hq : q < 4) (hn : n ≤ 40) (h : TR s q n f) (hi : i ≤ n) (h2 : s.1 30 0 12 = nI i) (hv : isV al (hV f n i) = false) : ev 173 0 [some (.inr (.inr (30, 0))), some (.inl (nI q)), some (.inl (bI al))] [] s = some (some (.inl (-9)), s) := by
  unfold isV at hv
  simp only [Bool.or_eq_false_iff, Bool.and_eq_false_iff, decide_eq_false_iff_not, Bool.not_eq_false'] at hv
  rw [c_173 hq hn h hi h2, if_neg hv.1, if_neg]
  rintro ⟨z1, z2⟩
  rcases hv.2 with g | g
  · exact g z1
  · rw [z2] at g
    exact absurd g (by decide)
/-- a part as it was read, in both -/
def PD (j k : Nat) (sC sR : SS) (p : Nat) : Prop := ∃ d so on tw, d ≤ 1 ∧ so ≤ 3 ∧ on ≤ 1 ∧ tw ≤ 1 ∧ sC.1 17 j p = nI d ∧ sR.1 38 0 p = nI d ∧ sR.1 39 0 p = nI so ∧ sR.1 40 0 p = nI on ∧ sR.1 41 0 p = nI tw ∧ (3 ≤ k → on = 0 ∧ tw = 0) ∧ ((so = 3 ∧ sC.1 14 j p = nI 12 ∧ sC.1 15 j p = nI on ∧ sC.1 16 j p = nI tw) ∨ (so < 3 ∧ tw = 0 ∧ sC.1 14 j p = nI (4 * so) ∧ sC.1 15 j p = -1 ∧ sC.1 16 j p = nI on))
def RD (j k m : Nat) (sC sR : SS) : Prop := sC.1 13 j 1 = nI k ∧ sC.1 13 j 4 = nI m ∧ sR.1 30 0 13 = nI m ∧ (∃ g, g ≤ 4 ∧ sC.1 13 j 3 = nI g ∧ sR.1 30 0 14 = nI g) ∧ ∀ p, p < m → PD j k sC sR p
def Fn (j k : Nat) (sC sR : SS) : Prop := ∃ m, 1 ≤ m ∧ m ≤ 6 ∧ (3 ≤ k → m = 1) ∧ RD j k m sC sR
theorem RD_12 {j k m : Nat} {sC sR : SS} {v : Int32} (h : RD j k m sC sR) : RD j k m sC (wI sR 30 0 12 v) := h
/-- the end of the reading -/
def KT (q : Nat) (s1 : SS) : RE := if ixB (nI q) 4 = true then (if s1.1 30 0 12 = s1.1 35 0 (nI q).toNatClampNeg then some (some (.inl (-9)), s1) else some (some (.inl (s1.1 30 0 12)), s1)) else none
theorem KT_e {q n i : Nat} {s : SS} {f : Nat → Int32} (hq : q < 4) (hn : n ≤ 40) (h : TR s q n f) (hi : i ≤ n) (h2 : s.1 30 0 12 = nI i) : KT q s = if i = n then some (some (.inl (-9)), s) else some (some (.inl (nI i)), s) := by
  unfold KT
  rw [if_pos (ixB_nI hq (by decide)), cl_nI (by omega), h.1, h2]
  have e := n_eq (a := i) (b := n) (by omega) (by omega)
  by_cases e2 : i = n
  · subst e2
    simp
  · have e3 : ¬ nI i = nI n := by
      rw [e]
      exact e2
    rw [if_neg e3, if_neg e2]
theorem c_171 {q n i : Nat} {s : SS} {f : Nat → Int32} (hq : q < 4) (hn : n ≤ 40) (h : TR s q n f) (hi : i ≤ n) (h2 : s.1 30 0 12 = nI i) : ev 171 0 [some (.inr (.inr (30, 0))), some (.inl (nI q))] [] s = if hV f n i = 32 then ev 171 0 [some (.inr (.inr (30, 0))), some (.inl (nI q))] [] (wI s 30 0 12 (nI (i + 1))) else some (none, s) := by
  rw [q_171, c_170 hq hn h hi h2, cI_s, h2, nI_s]
theorem hV_n (f : Nat → Int32) (n : Nat) : hV f n n = -9 := by
  unfold hV
  rw [if_neg (Nat.lt_irrefl n)]
theorem hV_i {f : Nat → Int32} {n i : Nat} (h : i < n) : hV f n i = f i := by
  unfold hV
  rw [if_pos h]
theorem c_22_7 {j : Nat} {v : Int32} {s : SS} : ev 22 0 [some (.inr (.inr (13, j))), some (.inl 7), some (.inl v)] [] s = if v = 32 then some (some (.inl 7), s) else some (some (.inl (-1)), s) := by
  rw [q_22, if_neg (by decide), if_neg (by decide), if_neg (by decide), if_neg (by decide), if_neg (by decide), if_neg (by decide), if_neg (by decide), if_pos rfl]
theorem Q12 : QR 30 0 12 = true := rfl
theorem L1 {j k q n : Nat} {f : Nat → Int32} {s0 r0 sC : SS} (hq : q < 4) (hn : n ≤ 40) (tc : TC s0 q n f) (tr : TR r0 q n f) (oc : OffP (QC j) s0 sC) : ∀ (d i : Nat) (sR : SS), i + d = n → sR.1 30 0 12 = nI i → OffP QR r0 sR → Fn j k sC sR → RU j s0 r0 (Fn j k) (ev 21 38 [some (.inr (.inr (13, j))), some (.inr (.inr (2, 0))), some (.inl (nI q)), none, some (.inl (nI n)), some (.inl 7), some (.inl (nI i))] [] sC) (cV (ev 171 0 [some (.inr (.inr (30, 0))), some (.inl (nI q))] [] sR) (KT q))
  | 0, i, sR, hd, h2, orr, hf => by
    have e : i = n := by omega
    subst e
    refine RU_9 (sC := sC) (sR := sR) ?_ ?_ oc orr hf
    · rw [CE, if_neg (by decide), if_pos rfl]
    · rw [c_171 hq hn (TR_off orr tr) (Nat.le_refl _) h2, hV_n, if_neg (by decide), cV_s, KT_e hq hn (TR_off orr tr) (Nat.le_refl _) h2, if_pos rfl]
  | d + 1, i, sR, hd, h2, orr, hf => by
    have hi : i < n := by omega
    rw [CS hq hn (TC_off oc tc) hi, c_22_7, c_171 hq hn (TR_off orr tr) (by omega) h2, hV_i hi]
    by_cases e : f i = 32
    · rw [if_pos e, if_pos e, cI_s, if_neg (by decide)]
      exact L1 hq hn tc tr oc d (i + 1) _ (by omega) (wI_same _ _ _ _ _) (OP_wI orr Q12) hf
    · rw [if_neg e, if_neg e, cI_s, if_pos rfl, cV_s, KT_e hq hn (TR_off orr tr) (by omega) h2, if_neg (by omega)]
      exact RU_i (by omega) rfl rfl oc orr
/-- after a part -/
noncomputable def RAf (q : Nat) (al : Bool) (s2 : SS) : RE := if bI al = 0 then (if s2.1 30 0 13 < 6 then cI (ev 172 0 [some (.inr (.inr (30, 0))), some (.inl (nI q)), some (.inl 124), none] [] s2) (fun x3 s3 => if x3 = 0 then ev 176 43 [some (.inr (.inr (30, 0))), some (.inl (nI q)), none, some (.inl (bI al)), some (.inl 0)] [] s3 else ev 176 43 [some (.inr (.inr (30, 0))), some (.inl (nI q)), none, some (.inl (bI al)), some (.inl 1)] [] s3) else ev 176 43 [some (.inr (.inr (30, 0))), some (.inl (nI q)), none, some (.inl (bI al)), some (.inl 0)] [] s2) else ev 176 43 [some (.inr (.inr (30, 0))), some (.inl (nI q)), none, some (.inl (bI al)), some (.inl 0)] [] s2
theorem r43_0 (q : Nat) (al : Bool) (s : SS) : ev 176 43 [some (.inr (.inr (30, 0))), some (.inl (nI q)), none, some (.inl (bI al)), some (.inl 0)] [] s = cV (ev 171 0 [some (.inr (.inr (30, 0))), some (.inl (nI q))] [] s) (KT q) := by
  rw [q_176_at43, if_pos rfl]
  rfl
theorem r43_1 (q : Nat) (al : Bool) (s : SS) : ev 176 43 [some (.inr (.inr (30, 0))), some (.inl (nI q)), none, some (.inl (bI al)), some (.inl 1)] [] s = cI (ev 174 0 [some (.inr (.inr (30, 0))), some (.inl (nI q)), some (.inl (bI al)), none, none] [] s) (fun x2 s2 => if x2 = 0 then some (some (.inl (s2.1 30 0 12)), s2) else RAf q al s2) := by
  rw [q_176_at43, if_neg (by decide)]
  rfl
theorem RAf_e {q n i m : Nat} {al : Bool} {s : SS} {f : Nat → Int32} (hq : q < 4) (hn : n ≤ 40) (hm : m ≤ 6) (h : TR s q n f) (hi : i ≤ n) (h2 : s.1 30 0 12 = nI i) (h3 : s.1 30 0 13 = nI m) : RAf q al s = if hV f n i = 124 ∧ al = false ∧ m < 6 then ev 176 43 [some (.inr (.inr (30, 0))), some (.inl (nI q)), none, some (.inl (bI al)), some (.inl 1)] [] (wI s 30 0 12 (nI (i + 1))) else cV (ev 171 0 [some (.inr (.inr (30, 0))), some (.inl (nI q))] [] s) (KT q) := by
  unfold RAf
  rw [ite_bI, h3, c_172 hq hn h hi h2, r43_0]
  have e := n_lt (a := m) (b := 6) (by omega) (by decide)
  have e' : (nI m < (6 : Int32)) = (m < 6) := e
  simp only [e']
  cases al
  · by_cases e1 : m < 6 <;> by_cases e2 : hV f n i = 124
    · simp [e1, e2, cI_s]
    · have e3 : ¬ (hV f n i = 124 ∧ false = false ∧ m < 6) := fun z => e2 z.1
      rw [if_neg (by decide), if_pos e1, if_neg e2, if_neg e3, cI_s, if_pos rfl, r43_0]
    · simp [e1]
    · simp [e1]
  · simp
theorem c_22_6 {j : Nat} {v : Int32} {s : SS} : ev 22 0 [some (.inr (.inr (13, j))), some (.inl 6), some (.inl v)] [] s = cI (ev 29 0 [some (.inr (.inr (13, j))), some (.inl v), none] [] s) (fun x1 s1 => some (some (.inl x1), s1)) := by
  rw [q_22, if_neg (by decide), if_neg (by decide), if_neg (by decide), if_neg (by decide), if_neg (by decide), if_neg (by decide), if_pos rfl]
/-- from behind a part on, if the next part goes well -/
theorem L2 {j k q n i m : Nat} {f : Nat → Int32} {s0 r0 sC sR : SS} (hk : k < 5) (hq : q < 4) (hn : n ≤ 40) (hm : 1 ≤ m) (hm6 : m ≤ 6) (hal : 3 ≤ k → m = 1) (tc : TC s0 q n f) (tr : TR r0 q n f) (oc : OffP (QC j) s0 sC) (orr : OffP QR r0 sR) (hi : i ≤ n) (h2 : sR.1 30 0 12 = nI i) (hl : RD j k m sC sR) (next : m < 6 → k < 3 → i < n → RU j s0 r0 (Fn j k) (ev 21 38 [some (.inr (.inr (13, j))), some (.inr (.inr (2, 0))), some (.inl (nI q)), none, some (.inl (nI n)), some (.inl 2), some (.inl (nI (i + 1)))] [] sC) (ev 176 43 [some (.inr (.inr (30, 0))), some (.inl (nI q)), none, some (.inl (bI (decide (3 ≤ k)))), some (.inl 1)] [] (wI sR 30 0 12 (nI (i + 1))))) : RU j s0 r0 (Fn j k) (ev 21 38 [some (.inr (.inr (13, j))), some (.inr (.inr (2, 0))), some (.inl (nI q)), none, some (.inl (nI n)), some (.inl 6), some (.inl (nI i))] [] sC) (RAf q (decide (3 ≤ k)) sR) := by
  have hF : Fn j k sC sR := ⟨m, hm, hm6, hal, hl⟩
  rw [RAf_e hq hn hm6 (TR_off orr tr) hi h2 hl.2.2.1]
  by_cases e : i = n
  · subst e
    rw [hV_n, if_neg (fun z => absurd z.1 (by decide)), CE, if_pos rfl, c_171 hq hn (TR_off orr tr) (Nat.le_refl _) h2, hV_n, if_neg (by decide), cV_s, KT_e hq hn (TR_off orr tr) (Nat.le_refl _) h2, if_pos rfl]
    exact RU_9 rfl rfl oc orr hF
  · have hi2 : i < n := by omega
    rw [CS hq hn (TC_off oc tc) hi2, c_22_6, c_29 hm6 hk sC hl.2.1 hl.1, hV_i hi2]
    by_cases e1 : f i = 32
    · rw [if_pos e1, cI_s, cI_s, if_neg (by decide), e1, if_neg (fun z => absurd z.1 (by decide)), c_171 hq hn (TR_off orr tr) hi h2, hV_i hi2, if_pos e1]
      exact L1 hq hn tc tr oc (n - (i + 1)) (i + 1) _ (by omega) (wI_same _ _ _ _ _) (OP_wI orr Q12) hF
    · rw [if_neg e1]
      by_cases e2 : f i = 124 ∧ k < 3 ∧ m < 6
      · rw [if_pos e2, cI_s, cI_s, if_neg (by decide), if_pos ⟨e2.1, decide_eq_false (by omega), e2.2.2⟩]
        exact next e2.2.2 e2.2.1 hi2
      · have e3 : ¬ (f i = 124 ∧ decide (3 ≤ k) = false ∧ m < 6) := fun z => e2 ⟨z.1, by have := of_decide_eq_false z.2.1; omega, z.2.2⟩
        rw [if_neg e2, cI_s, cI_s, if_pos rfl, if_neg e3, c_171 hq hn (TR_off orr tr) hi h2, hV_i hi2, if_neg e1, cV_s, KT_e hq hn (TR_off orr tr) hi h2, if_neg e]
        exact RU_i (by omega) rfl rfl oc orr
