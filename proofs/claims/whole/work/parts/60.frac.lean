/-! fractions told -/
theorem lT {n : Nat} (h : n < 9223372036854775808) : (lN n).toInt = (n : Int) := lg_ofNat_toInt (by omega)
theorem l_div {a b : Nat} (ha : a < 9223372036854775808) (hb : b < 9223372036854775808) : lN a / lN b = lN (a / b) := by
  rw [l_eq, Int64.toInt_div, lT ha, lT hb, lT (Nat.lt_of_le_of_lt (Nat.div_le_self _ _) ha), ← Int.ofNat_tdiv]
  have h := Nat.div_le_self a b
  have h2 : (0 : Int) ≤ ((a / b : Nat) : Int) := Int.natCast_nonneg _
  have h3 : ((a / b : Nat) : Int) ≤ (a : Int) := Int.ofNat_le.mpr h
  rw [Int.bmod_eq_of_le] <;> omega
theorem l_mod {a b : Nat} (ha : a < 9223372036854775808) (hb : b < 9223372036854775808) : lN a - lN a / lN b * lN b = lN (a % b) := by
  rw [l_div ha hb, lN_mul, lN_sub (Nat.div_mul_le_self a b)]
  congr 1
  have := Nat.div_add_mod a b
  rw [Nat.mul_comm] at this
  omega
theorem lz {b : Nat} (hb : b < 9223372036854775808) : (lN b = 0) = (b = 0) := by
  apply propext
  rw [l_eq, lT hb]
  have : (0 : Int64).toInt = 0 := rfl
  omega
theorem gc_b : ∀ (k : Nat) {a b i : Nat}, b < 2 ^ k → i + 2 * k < 200 → a < 9223372036854775808 → b < 9223372036854775808 → ∀ s : SS, ev 105 9 [none, none, none, none, some (.inr (.inl (lN a))), none, some (.inr (.inl (lN b))), none, some (.inl (nI i)), none, none] [] s = some (some (.inr (.inl (lN (Nat.gcd a b)))), s)
  | 0, a, b, i, hb, hi, ha, hb2, s => by
    have : b = 0 := by omega
    subst this
    rw [q_105_at9, if_pos (show nI i < (200 : Int32) from nI_lt (b := 200) (by omega) (by decide)), if_pos (by rw [lg_z, lz (by omega)]), Nat.gcd_zero_right]
  | k + 1, a, b, i, hb, hi, ha, hb2, s => by
    have st : ∀ {a b i : Nat}, i < 200 → a < 9223372036854775808 → b < 9223372036854775808 → b ≠ 0 → ev 105 9 [none, none, none, none, some (.inr (.inl (lN a))), none, some (.inr (.inl (lN b))), none, some (.inl (nI i)), none, none] [] s = ev 105 9 [none, none, none, none, some (.inr (.inl (lN b))), none, some (.inr (.inl (lN (a % b)))), none, some (.inl (nI (i + 1))), none, none] [] s := by
      intro a b i hi ha hb h0
      rw [q_105_at9, if_pos (show nI i < (200 : Int32) from nI_lt (b := 200) (by omega) (by decide)), if_neg (by rw [lg_z, lz hb]; exact h0), if_neg (by rw [lz hb]; exact h0), l_mod ha hb, nI_s]
    by_cases h0 : b = 0
    · subst h0
      rw [q_105_at9, if_pos (show nI i < (200 : Int32) from nI_lt (b := 200) (by omega) (by decide)), if_pos (by rw [lg_z, lz (by omega)]), Nat.gcd_zero_right]
    · have hr : a % b < b := Nat.mod_lt _ (by omega)
      rw [st (by omega) ha hb2 h0, Nat.gcd_comm a b, Nat.gcd_rec b a]
      by_cases h1 : a % b = 0
      · rw [h1, q_105_at9, if_pos (show nI (i + 1) < (200 : Int32) from nI_lt (b := 200) (by omega) (by decide)), if_pos (by rw [lg_z, lz (by omega)]), Nat.gcd_zero_left]
      · have hq : b % (a % b) < a % b := Nat.mod_lt _ (by omega)
        have hs : b % (a % b) + a % b ≤ b := by
          have e := Nat.div_add_mod b (a % b)
          have : 1 ≤ b / (a % b) := (Nat.one_le_div_iff (by omega)).mpr (by omega)
          have : a % b * 1 ≤ a % b * (b / (a % b)) := Nat.mul_le_mul_left _ this
          omega
        rw [st (by omega) hb2 (by omega) h1, gc_b k (show b % (a % b) < 2 ^ k by rw [Nat.pow_succ] at hb; omega) (by omega) (by omega) (by omega) s, Nat.gcd_comm (a % b), ← Nat.gcd_rec (a % b) b]
theorem c_105 {a b : Nat} (ha : a < 9223372036854775808) (hb : b < 9223372036854775808) (s : SS) : ev 105 0 [some (.inr (.inl (lN a))), none, some (.inr (.inl (lN b))), none, none, none, none, none, none, none, none] [] s = some (some (.inr (.inl (lN (Nat.gcd a b)))), s) := by
  rw [q_105]
  exact gc_b 63 (i := 0) (by omega) (by decide) ha hb s
theorem c_149a (p q : Int64) (r : Int32) (s : SS) : ∀ (b a : Nat), a < 9223372036854775808 → b < 9223372036854775808 → Nat.gcd a b ≠ 0 → ev 149 17 [some (.inr (.inr (30, 0))), some (.inr (.inl p)), none, some (.inr (.inl q)), none, some (.inl r), some (.inr (.inl (lN a))), none, some (.inr (.inl (lN b))), none, none, none] [] s = some (some (.inl r), wL (wL s 30 0 3 (p / lN (Nat.gcd a b))) 30 0 4 (q / lN (Nat.gcd a b))) := by
  intro b
  induction b using Nat.strongRecOn with
  | _ b ih =>
    intro a ha hb h0
    by_cases hz : b = 0
    · subst hz
      rw [Nat.gcd_zero_right] at h0 ⊢
      rw [q_149_at17, if_pos (by rw [lg_z, lz (by omega)]), if_neg (by rw [lz ha]; exact h0), if_neg (by rw [lz ha]; exact h0)]
    · have hr : a % b < b := Nat.mod_lt _ (by omega)
      have e : Nat.gcd b (a % b) = Nat.gcd a b := by
        rw [Nat.gcd_comm b, ← Nat.gcd_rec b a, Nat.gcd_comm]
      rw [q_149_at17, if_neg (by rw [lg_z, lz hb]; exact hz), if_neg (by rw [lz hb]; exact hz), l_mod ha hb, ih (a % b) hr b hb (by omega) (by rw [e]; exact h0), e]
/-- a fraction of p to q > 0, p of size a -/
def aL (p : Int64) (a : Nat) : Prop := (p = lN a ∨ p = -lN a) ∧ a < 9223372036854775808
theorem aL_abs {p : Int64} {a : Nat} (h : aL p a) : (if 0 < p then p else -p) = lN a ∧ ((lg_cmp p 0 < 0) = (p < 0)) ∧ (p < 0 → -p = lN a) ∧ (¬ p < 0 → p = lN a) := by
  obtain ⟨h1, h2⟩ := h
  have z : (0 : Int64).toInt = 0 := rfl
  have n : (-lN a).toInt = -(a : Int) := by
    rw [Int64.toInt_neg, lT h2, Int.bmod_eq_of_le] <;> omega
  have nn : - -lN a = lN a := by
    rw [Int64.neg_neg]
  have z0 : a = 0 → -lN a = lN a := by
    intro e
    subst e
    rfl
  refine ⟨?_, lg_lt p 0, ?_, ?_⟩
  · rcases h1 with e | e
    · subst e
      by_cases h : 0 < lN a
      · rw [if_pos h]
      · rw [if_neg h]
        rw [l_lt, lT h2, z] at h
        exact z0 (by omega)
    · subst e
      by_cases h : 0 < -lN a
      · rw [l_lt, n, z] at h
        omega
      · rw [if_neg h, nn]
  · intro h
    rcases h1 with e | e
    · subst e
      rw [l_lt, lT h2, z] at h
      omega
    · rw [e, nn]
  · intro h
    rcases h1 with e | e
    · exact e
    · subst e
      rw [l_lt, n, z] at h
      exact z0 (by omega)
theorem c_104 {p : Int64} {a b : Nat} (ha : aL p a) (hb : b < 9223372036854775808) (h0 : 0 < b) (s : SS) : ev 104 0 [some (.inr (.inr (0, 0))), some (.inr (.inl p)), none, some (.inr (.inl (lN b))), none, none, none] [] s = some (none, wL (wL s 0 0 10 (p / lN (Nat.gcd a b))) 0 0 11 (lN b / lN (Nat.gcd a b))) := by
  have hg : 0 < Nat.gcd a b := Nat.gcd_pos_of_pos_right _ h0
  have hl : Nat.gcd a b ≤ b := Nat.gcd_le_right _ h0
  have z : (0 : Int64).toInt = 0 := rfl
  rw [q_104, (aL_abs ha).1, c_105 ha.2 hb, cL_s, if_pos (by rw [lg_gt, l_lt, lT (by omega), z]; omega), if_neg (by rw [lz (by omega)]; omega), if_neg (by rw [lz (by omega)]; omega)]
theorem c_149 {p : Int64} {a b : Nat} (ha : aL p a) (hb : b < 9223372036854775808) (h0 : 0 < b) (r : Int32) (s : SS) : ev 149 0 [some (.inr (.inr (30, 0))), some (.inr (.inl p)), none, some (.inr (.inl (lN b))), none, some (.inl r), none, none, none, none, none, none] [] s = some (some (.inl r), wL (wL s 30 0 3 (p / lN (Nat.gcd a b))) 30 0 4 (lN b / lN (Nat.gcd a b))) := by
  have hg : 0 < Nat.gcd a b := Nat.gcd_pos_of_pos_right _ h0
  obtain ⟨-, h2, h3, h4⟩ := aL_abs ha
  have f := c_149a p (lN b) r s b a ha.2 hb (by omega)
  rw [q_149]
  simp only [h2]
  by_cases h : p < 0
  · rw [if_pos h, h3 h]
    exact f
  · rw [if_neg h]
    have e := h4 h
    rw [e] at f ⊢
    exact f
def tlC (s : SS) (x y : Int64) : SS := wL (wL s 0 0 10 x) 0 0 11 y
def tlR (s : SS) (x y : Int64) : SS := wL (wL s 30 0 3 x) 30 0 4 y
theorem J_tl {s : SS} (h : J s) (x y : Int64) : J (tlR (tlC s x y) x y) := by
  have ag : ∀ {K : List Nat}, 0 ∉ K → 30 ∉ K → Ag K s (tlR (tlC s x y) x y) := fun h0 h1 => Ag_tr (Ag_tr (Ag_wL h0) (Ag_wL h0)) (Ag_tr (Ag_wL h1) (Ag_wL h1))
  refine J_ag (s := s) (ag (by decide) (by decide)) rfl rfl rfl (JR_ag (ag (by decide) (by decide)) h.1) (JT_ag (ag (by decide) (by decide)) h.2.1) ?_ h
  exact ⟨h.2.2.1.1, h.2.2.1.2.1, rfl, rfl, h.2.2.1.2.2.2.2⟩
theorem RS_tl {s u : SS} (h : RS s u) (x y : Int64) : RS (tlR s x y) (tlR u x y) := RS_wL (RS_wL h _ _ _ _) _ _ _ _
theorem PS {cm rm : Nat} {ca ra : LO} {s u1 w v : SS} (a : Int32) (h1 : ev cm 0 ca [] s = some (some (.inl a), u1)) (h2 : ev rm 0 ra [] u1 = some (some (.inl a), v)) (hj : J w) (rs : RS w v) (k1 : ∀ b c, u1.1 60 b c = s.1 60 b c) (k2 : ∀ b c, w.1 60 b c = s.1 60 b c) : PI cm rm ca ra s := ⟨a, u1, v, h1, h2, RS_J rs hj, k1, fun b c => (RS_60 rs b c).trans (k2 b c)⟩
/-- what the class tells, aside -/
def TK (s u : SS) : Prop := (∀ a b c, a ≠ 12 → (a = 0 → c ≠ 9 ∧ c ≠ 12) → u.1 a b c = s.1 a b c) ∧ u.2.2 = s.2.2 ∧ ∀ a b c, (a = 0 → c ≠ 10 ∧ c ≠ 11) → u.2.1 a b c = s.2.1 a b c
theorem TK_rf {s : SS} : TK s s := ⟨fun _ _ _ _ _ => rfl, rfl, fun _ _ _ _ => rfl⟩
theorem TK_9 {s : SS} {v : Int32} : TK s (wI s 0 0 9 v) := ⟨fun a b c _ y => by rw [wI_1, if_neg (fun z => (y z.1).1 z.2.2)], rfl, fun _ _ _ _ => rfl⟩
theorem TK_f {s : SS} {f : Nat} : TK s (fC s f) := ⟨fun a b c x y => by
  unfold fC
  rw [wI_1, if_neg (fun z => x z.1), wI_1, if_neg (fun z => (y z.1).2 z.2.2)], rfl, fun _ _ _ _ => rfl⟩
theorem TK_tl {s : SS} {x y : Int64} : TK s (tlC s x y) := ⟨fun _ _ _ _ _ => rfl, rfl, fun a b c h => by
  unfold tlC
  rw [wL_2, if_neg (fun z => (h z.1).2 z.2.2), wL_2, if_neg (fun z => (h z.1).1 z.2.2)]⟩
theorem TK_tr {s t u : SS} (h1 : TK s t) (h2 : TK t u) : TK s u := ⟨fun a b c x y => (h2.1 a b c x y).trans (h1.1 a b c x y), h2.2.1.trans h1.2.1, fun a b c x => (h2.2.2 a b c x).trans (h1.2.2 a b c x)⟩
theorem TK_Ag {s u : SS} (h : TK s u) {K : List Nat} (hd : ∀ a, a ∈ K → a ≠ 0 ∧ a ≠ 12) : Ag K s u := ⟨fun a ha => ⟨fun b c => h.1 a b c (hd a ha).2 (fun z => absurd z (hd a ha).1), fun b c => h.2.2 a b c (fun z => absurd z (hd a ha).1)⟩, h.2.1⟩
theorem TK_SP {s u : SS} (h : TK s u) : SP s u := ⟨TK_Ag h (by decide), h.1 30 0 10 (by decide) (by decide)⟩
theorem TK_JS {s u : SS} (h : TK s u) (hS : JS s) : JS u := JS_ag (TK_Ag h (by decide)) (h.1 0 0 7 (by decide) (by decide)) (h.1 30 0 10 (by decide) (by decide)) hS
theorem TK_JL {s u : SS} (h : TK s u) (hL : JL s) : JL u := JL_ag (TK_Ag h (by decide)) hL
theorem TK_60 {s u : SS} (h : TK s u) (b c : Nat) : u.1 60 b c = s.1 60 b c := h.1 60 b c (by decide) (fun z => absurd z (by decide))
theorem QF_60 {s u : SS} (h : QF s u) (b c : Nat) : u.1 60 b c = s.1 60 b c := h.1 60 b c (by decide) (by decide) (by decide) (by decide) (fun z => absurd z (by decide))
/-- the reference weighs after the class has surveyed and told -/
theorem c_201u {s u u1 : SS} (hJ : J u) (sp : SP s u) (tc : TK u u1) : ∃ v, ev 201 0 [some (.inr (.inr (30, 0)))] [] u1 = some (some (.inl (bI (bst s (aA 0) (nW s)).isSome)), v) ∧ RS u1 v ∧ TB v ∧ RW s (aA 0) v ∧ JS v ∧ SP s v := by
  have sp1 := SP_tr sp (TK_SP tc)
  obtain ⟨v, e, r, b, w⟩ := c_201 (TK_JS tc hJ.2.2.2.1) (TK_JL tc hJ.2.2.2.2.1)
  refine ⟨v, ?_, r, b, SP_RW sp1 w, RS_JS r (TK_JS tc hJ.2.2.2.1), SP_tr sp1 (RS_SP r)⟩
  rw [e, SP_bst sp1, (SP_brk sp1).2.2]
