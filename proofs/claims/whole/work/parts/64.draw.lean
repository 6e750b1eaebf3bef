/-! draw -/
def fst1 (p : Nat → Bool) : Nat → Nat
  | 0 => 0
  | n + 1 => if anyB p n = true then fst1 p n else n
theorem fst1_sp {p : Nat → Bool} : ∀ {n : Nat}, anyB p n = true → fst1 p n < n ∧ p (fst1 p n) = true ∧ ∀ k, k < fst1 p n → p k = false
  | 0, h => absurd (show false = true from h) (by decide)
  | n + 1, h => by
    unfold fst1
    by_cases e : anyB p n = true
    · rw [if_pos e]
      obtain ⟨a, b, c⟩ := fst1_sp e
      exact ⟨by omega, b, c⟩
    · rw [if_neg e]
      have h2 : (anyB p n || p n) = true := h
      rw [hb_f e, Bool.false_or] at h2
      refine ⟨by omega, h2, fun k hk => ?_⟩
      cases hx : p k with
      | false => rfl
      | true => exact absurd (anyB_t hk hx) e
def lcg (x : Int32) : Int32 := (x * 1103515245) + 12345
def f15 (x : Int32) : Int32 := ((x.toUInt32 >>> ((16 : Int32).toUInt32 &&& Int32.toUInt32 31)).toInt32) &&& 32767
theorem f15_r (x : Int32) : (x >>> ((16 : Int32) &&& 31)) &&& 32767 = f15 x := by
  apply tb_ext
  intro i hi
  unfold f15
  rw [tb_and, tb_and]
  have e3 : tb (32767 : Int32) i = Nat.testBit 32767 i := by
    have := tb_n 32767 i
    rw [decide_eq_true hi, Bool.true_and] at this
    exact this
  rw [e3]
  by_cases h : i < 15
  · have e1 : tb (x >>> ((16 : Int32) &&& 31)) i = x.toBitVec.getLsbD (16 + i) := by
      show (x.toBitVec.sshiftRight' (((16 : Int32) &&& 31).toBitVec.smod 32)).getLsbD i = _
      rw [show ((16 : Int32) &&& 31).toBitVec.smod 32 = BitVec.ofNat 32 16 by decide]
      show (x.toBitVec.sshiftRight (BitVec.ofNat 32 16).toNat).getLsbD i = _
      rw [BitVec.toNat_ofNat, Nat.mod_eq_of_lt (by decide), BitVec.getLsbD_sshiftRight]
      have h1 : ¬ 32 ≤ i := by omega
      have h2 : 16 + i < 32 := by omega
      simp [h1, h2]
    have e2 : tb (x.toUInt32 >>> ((16 : Int32).toUInt32 &&& Int32.toUInt32 31)).toInt32 i = x.toBitVec.getLsbD (16 + i) := by
      show (x.toBitVec >>> (UInt32.mod ((16 : Int32).toUInt32 &&& Int32.toUInt32 31) 32).toBitVec).getLsbD i = _
      rw [show (UInt32.mod ((16 : Int32).toUInt32 &&& Int32.toUInt32 31) 32).toBitVec = BitVec.ofNat 32 16 by decide]
      show (x.toBitVec >>> (BitVec.ofNat 32 16).toNat).getLsbD i = _
      rw [BitVec.toNat_ofNat, Nat.mod_eq_of_lt (by decide), BitVec.getLsbD_ushiftRight]
    rw [e1, e2]
  · have : Nat.testBit 32767 i = false := Nat.testBit_lt_two_pow (Nat.lt_of_lt_of_le (show 32767 < 2 ^ 15 by decide) (Nat.pow_le_pow_right (by decide) (by omega)))
    rw [this, Bool.and_false, Bool.and_false]
theorem f15_n (x : Int32) : ∃ a, a < 32768 ∧ f15 x = nI a := by
  have key : ∀ z : Int32, ∃ a, a < 32768 ∧ z &&& 32767 = nI a := by
    intro z
    have hz : z = nI z.toBitVec.toNat := by
      apply tb_ext
      intro i hi
      rw [tb_n, decide_eq_true hi, Bool.true_and]
      rfl
    have hl : z.toBitVec.toNat < 4294967296 := z.toBitVec.isLt
    refine ⟨z.toBitVec.toNat &&& 32767, Nat.lt_of_le_of_lt Nat.and_le_right (by decide), ?_⟩
    have := n_and z.toBitVec.toNat 32767 hl (by decide)
    rw [← hz] at this
    exact this
  exact key _
def f15N (x : Int32) : Nat := (f15 x).toNatClampNeg
theorem f15_e (x : Int32) : f15N x < 32768 ∧ f15 x = nI (f15N x) := by
  obtain ⟨a, ha, e⟩ := f15_n x
  unfold f15N
  rw [e, cl_nI (by omega)]
  exact ⟨ha, rfl⟩
theorem nI_64 {a : Nat} (h : a < 2147483648) : (nI a).toInt64 = lN a := by
  rw [l_eq, Int32.toInt_toInt64, ti_nI h, lT (by omega)]
theorem sh30 {a : Nat} (h : a < 9223372036854775808) : lN a >>> ((30 : Int32).toInt64 &&& 63) = lN (a / 1073741824) := by
  apply tL_ext
  intro i hi
  show ((lN a).toBitVec.sshiftRight' (((30 : Int32).toInt64 &&& 63).toBitVec.smod 64)).getLsbD i = _
  rw [show ((30 : Int32).toInt64 &&& 63).toBitVec.smod 64 = BitVec.ofNat 64 30 by decide]
  show ((lN a).toBitVec.sshiftRight (BitVec.ofNat 64 30).toNat).getLsbD i = _
  rw [BitVec.toNat_ofNat, Nat.mod_eq_of_lt (by decide), BitVec.getLsbD_sshiftRight, tL_n, show 1073741824 = 2 ^ 30 by decide, Nat.testBit_div_two_pow]
  have hm : (lN a).toBitVec.msb = false := by
    rw [BitVec.msb_eq_getLsbD_last]
    have := tL_n a 63
    unfold tL at this
    show (lN a).toBitVec.getLsbD 63 = false
    rw [this, Nat.testBit_lt_two_pow (by omega)]
    rfl
  have e := tL_n a (30 + i)
  unfold tL at e
  rw [hm, e]
  by_cases h1 : 30 + i < 64
  · have h2 : ¬ 64 ≤ i := by omega
    simp [h2, hi, Nat.add_comm]
    intro _
    omega
  · have : a.testBit (i + 30) = false := Nat.testBit_lt_two_pow (Nat.lt_of_lt_of_le h (Nat.le_trans (show 9223372036854775808 ≤ 2 ^ 63 by decide) (Nat.pow_le_pow_right (by decide) (by omega))))
    simp [h1, this]
/-- the place asked for by a number, and the world there -/
def plN (s : SS) (A : Nat → Bool) (x : Int32) : Nat := ((f15N (lcg x) * 32768 + f15N (lcg (lcg x))) * allN s A) / 1073741824
def wdN (s : SS) (A : Nat → Bool) (x : Int32) : Nat := fst1 (fun i => decide (plN s A x < sm (shN s A) (i + 1))) (nW s)
theorem pl_lt {s : SS} {A : Nat → Bool} (h : 0 < allN s A) (x : Int32) : plN s A x < allN s A := by
  have h1 := (f15_e (lcg x)).1
  have h2 := (f15_e (lcg (lcg x))).1
  unfold plN
  rw [Nat.div_lt_iff_lt_mul (by decide)]
  calc (f15N (lcg x) * 32768 + f15N (lcg (lcg x))) * allN s A < 1073741824 * allN s A := Nat.mul_lt_mul_of_pos_right (by omega) h
    _ = allN s A * 1073741824 := Nat.mul_comm _ _
theorem wd_sp {s : SS} {A : Nat → Bool} (h : 0 < allN s A) (x : Int32) : wdN s A x < nW s ∧ plN s A x < sm (shN s A) (wdN s A x + 1) ∧ ∀ k, k < wdN s A x → ¬ plN s A x < sm (shN s A) (k + 1) := by
  have hp := pl_lt h x
  have h0 := nW_pos s
  have ha : anyB (fun i => decide (plN s A x < sm (shN s A) (i + 1))) (nW s) = true := anyB_t (i := nW s - 1) (by omega) (by
    rw [show nW s - 1 + 1 = nW s by omega]
    exact decide_eq_true hp)
  obtain ⟨a, b, c⟩ := fst1_sp ha
  exact ⟨a, of_decide_eq_true b, fun k hk => of_decide_eq_false (c k hk)⟩
theorem sm_mo {f : Nat → Nat} : ∀ {n m : Nat}, n ≤ m → sm f n ≤ sm f m
  | n, 0, h => by
    have : n = 0 := by omega
    subst this
    exact Nat.le_refl _
  | n, m + 1, h => by
    by_cases e : n = m + 1
    · rw [e]
      exact Nat.le_refl _
    · have := sm_mo (f := f) (n := n) (m := m) (by omega)
      show sm f n ≤ sm f m + f m
      omega
theorem c_57 {s u : SS} {A : Nat → Bool} (hS : JS s) (h0 : u.1 11 0 0 = nI (nW s)) (h21 : ∀ v, v < nW s → u.2.1 21 0 v = lN (shN s A v)) (ha : 0 < allN s A) (x : Int32) : ev 57 0 [some (.inr (.inr (11, 0))), some (.inr (.inl (lN (plN s A x)))), none, none, none, none] [] u = some (some (.inl (nI (wdN s A x))), u) := by
  have hW := nW_le hS
  obtain ⟨w1, w2, w3⟩ := wd_sp ha x
  have hp := pl_lt ha x
  have hal := all_le hS (A := A)
  have st : ∀ i, i < nW s → ev 57 5 [some (.inr (.inr (11, 0))), some (.inr (.inl (lN (plN s A x)))), none, some (.inr (.inl (lN (sm (shN s A) i)))), none, some (.inl (nI i))] [] u = if plN s A x < sm (shN s A) (i + 1) then some (some (.inl (nI i)), u) else ev 57 5 [some (.inr (.inr (11, 0))), some (.inr (.inl (lN (plN s A x)))), none, some (.inr (.inl (lN (sm (shN s A) (i + 1))))), none, some (.inl (nI (i + 1)))] [] u := by
    intro i hi
    have x1 : ixB (nI i) 1024 = true := ixB_nI (by omega) (by decide)
    have hm : sm (shN s A) (i + 1) ≤ allN s A := sm_mo (by omega)
    rw [q_57_at5, h0, if_pos (nI_lt hi (by omega)), if_pos x1, cl_nI (by omega), h21 i hi, lN_add, nI_s]
    have z : (0 < lg_cmp (lN (sm (shN s A) i + shN s A i)) (lN (plN s A x))) = (plN s A x < sm (shN s A) (i + 1)) := by
      rw [lg_gt]
      apply propext
      rw [l_lt, lT (by omega), lT (show sm (shN s A) i + shN s A i < 9223372036854775808 from Nat.lt_of_le_of_lt hm (by omega))]
      exact Int.ofNat_lt
    simp only [z]
    rfl
  have hl := lpN (P := fun i => ev 57 5 [some (.inr (.inr (11, 0))), some (.inr (.inl (lN (plN s A x)))), none, some (.inr (.inl (lN (sm (shN s A) i)))), none, some (.inl (nI i))] [] u) (wdN s A x) (fun i hi => by
    show ev 57 5 [some (.inr (.inr (11, 0))), some (.inr (.inl (lN (plN s A x)))), none, some (.inr (.inl (lN (sm (shN s A) i)))), none, some (.inl (nI i))] [] u = _
    rw [st i (by omega), if_neg (w3 i hi)])
  rw [q_57]
  refine (show ev 57 5 [some (.inr (.inr (11, 0))), some (.inr (.inl (lN (plN s A x)))), none, some (.inr (.inl (lN 0))), none, some (.inl (nI 0))] [] u = _ from hl).trans ?_
  show ev 57 5 [some (.inr (.inr (11, 0))), some (.inr (.inl (lN (plN s A x)))), none, some (.inr (.inl (lN (sm (shN s A) (wdN s A x))))), none, some (.inl (nI (wdN s A x)))] [] u = _
  rw [st _ w1, if_pos w2]
/-- drawing on -/
def drN (s : SS) (A : Nat → Bool) (k : Nat) (p : Int32) : Nat → Int32 × Nat × Nat
  | 0 => (p, 0, 0)
  | n + 1 => (lcg (lcg (drN s A k p n).1), (drN s A k p n).2.1 + (if soB s k (wdN s A (drN s A k p n).1) = true then 1 else 0), wdN s A (drN s A k p n).1)
theorem pl_c {s : SS} {A : Nat → Bool} (hS : JS s) (x : Int32) : ((((f15 (lcg x)).toInt64 * 32768) + (f15 (lcg (lcg x))).toInt64) * lN (allN s A)) >>> ((30 : Int32).toInt64 &&& 63) = lN (plN s A x) ∧ (((32768 * (f15 (lcg x)).toInt64) + (f15 (lcg (lcg x))).toInt64) * lN (allN s A)) >>> ((30 : Int32).toInt64 &&& 63) = lN (plN s A x) := by
  obtain ⟨h1, e1⟩ := f15_e (lcg x)
  obtain ⟨h2, e2⟩ := f15_e (lcg (lcg x))
  have hal := all_le hS (A := A)
  have hb : (f15N (lcg x) * 32768 + f15N (lcg (lcg x))) * allN s A < 9223372036854775808 := Nat.lt_of_le_of_lt (Nat.mul_le_mul (show f15N (lcg x) * 32768 + f15N (lcg (lcg x)) ≤ 1073741824 by omega) hal) (by decide)
  have e3 : (f15 (lcg x)).toInt64 * 32768 = lN (f15N (lcg x) * 32768) := by
    rw [e1, nI_64 (by omega)]
    exact lN_mul _ 32768
  have e4 : 32768 * (f15 (lcg x)).toInt64 = lN (f15N (lcg x) * 32768) := by
    rw [e1, nI_64 (by omega), Nat.mul_comm]
    exact lN_mul 32768 _
  have e5 : (f15 (lcg (lcg x))).toInt64 = lN (f15N (lcg (lcg x))) := by
    rw [e2, nI_64 (by omega)]
  rw [e3, e4, e5, lN_add, lN_mul, sh30 hb]
  exact ⟨rfl, rfl⟩
theorem c_52 {s u : SS} (sp : SP s u) (hS : JS s) (hT : Tab u) {v k : Nat} (hv : v < nW s) (hk : k < 28) : ev 52 0 [some (.inr (.inr (11, 0))), some (.inl (nI v)), some (.inl (nI k))] [] u = some (some (.inl (bI (soB s k v))), u) := by
  have hW := nW_le hS
  obtain ⟨e1, e2⟩ := Tab_so sp hT hv hk
  have ht := tr_lt s v
  rw [q_52, if_pos (ixB_nI (show v < 1024 by omega) (by decide)), cl_nI (by omega), e1]
  have z := bit_0 (a := trN s v) (k := k) (by omega) (by omega)
  rw [e2] at z
  simp only [z]
  cases soB s k v <;> rfl
theorem c_84l {s u : SS} {A : Nat → Bool} (hS : JS s) (sv : SV s A u) (ha : 0 < allN s A) {k n : Nat} (hk : k < 28) (hn : n ≤ 200) (p : Int32) : ev 84 54 [some (.inr (.inr (0, 0))), none, some (.inl (nI n)), some (.inl (nI k)), some (.inl 0), some (.inl 0), some (.inl p), some (.inl 0), none, none, none] [] u = some (some (.inl (nI (drN s A k p n).2.1)), wI u 0 0 9 (nI (drN s A k p n).2.2)) := by
  obtain ⟨q, hJ, hT, h8, cw⟩ := sv
  have sp := QF_SP q
  have h0 : u.1 11 0 0 = nI (nW s) := by rw [hT.1, (SP_brk sp).2.2]
  have hl := lpN (P := fun i => ev 84 54 [some (.inr (.inr (0, 0))), none, some (.inl (nI n)), some (.inl (nI k)), some (.inl (nI (drN s A k p i).2.1)), some (.inl (nI (drN s A k p i).2.2)), some (.inl ((drN s A k p i).1)), some (.inl (nI i)), none, none, none] [] u) n (fun i hi => by
    show ev 84 54 [some (.inr (.inr (0, 0))), none, some (.inl (nI n)), some (.inl (nI k)), some (.inl (nI (drN s A k p i).2.1)), some (.inl (nI (drN s A k p i).2.2)), some (.inl ((drN s A k p i).1)), some (.inl (nI i)), none, none, none] [] u = ev 84 54 [some (.inr (.inr (0, 0))), none, some (.inl (nI n)), some (.inl (nI k)), some (.inl (nI ((drN s A k p i).2.1 + (if soB s k (wdN s A (drN s A k p i).1) = true then 1 else 0)))), some (.inl (nI (wdN s A (drN s A k p i).1))), some (.inl (lcg (lcg (drN s A k p i).1))), some (.inl (nI (i + 1))), none, none, none] [] u
    generalize drN s A k p i = D
    rw [q_84_at54, if_pos (nI_lt hi (by omega)), q_130, cI_s, q_130, cI_s, q_131, cI_s, q_131, cI_s, cw.2.2.2.1]
    have e := (pl_c (A := A) hS D.1).1
    have e57 : ∀ y, y = lN (plN s A D.1) → ev 57 0 [some (.inr (.inr (11, 0))), some (.inr (.inl y)), none, none, none, none] [] u = some (some (.inl (nI (wdN s A D.1))), u) := fun y hy => by rw [hy]; exact c_57 hS h0 cw.2.2.1 ha D.1
    erw [e57 _ e]
    rw [cI_s, c_52 sp hS hT (wd_sp ha D.1).1 hk, cI_s, ite_bI, nI_s, nI_s]
    cases soB s k (wdN s A D.1) <;> rfl)
  refine (show ev 84 54 [some (.inr (.inr (0, 0))), none, some (.inl (nI n)), some (.inl (nI k)), some (.inl (nI 0)), some (.inl (nI 0)), some (.inl p), some (.inl (nI 0)), none, none, none] [] u = _ from hl).trans ?_
  rw [q_84_at54, if_neg (irr _)]
theorem c_215l {s v : SS} {A : Nat → Bool} (hS : JS s) (sp : SP s v) (js : JS v) (hB : BT v) (rw' : RW s A v) (ha : 0 < allN s A) {k n : Nat} (hk : k < 28) (hn : n ≤ 200) (p : Int32) : ev 215 45 [some (.inr (.inr (30, 0))), none, some (.inl (nI n)), some (.inl (nI k)), some (.inl p), some (.inl 0), some (.inl 0), some (.inl 0), none, none, none, none, none, none] [] v = some (some (.inl (nI (drN s A k p n).2.1)), wI v 30 0 2 (nI (drN s A k p n).2.2)) := by
  have hW := nW_le hS
  have hal := all_le hS (A := A)
  have inner : ∀ (x y : Int32) (c i : Nat), ev 215 129 [some (.inr (.inr (30, 0))), none, some (.inl (nI n)), some (.inl (nI k)), some (.inl y), some (.inl (nI c)), some (.inl 0), some (.inl (nI i)), none, none, some (.inr (.inl (lN (plN s A x)))), none, some (.inr (.inl (lN (shN s A 0)))), none] [] v = ev 215 45 [some (.inr (.inr (30, 0))), none, some (.inl (nI n)), some (.inl (nI k)), some (.inl y), some (.inl (nI (c + (if soB s k (wdN s A x) = true then 1 else 0)))), some (.inl (nI (wdN s A x))), some (.inl (nI (i + 1))), none, none, none, none, none, none] [] v := by
    intro x y c i
    obtain ⟨w1, w2, w3⟩ := wd_sp ha x
    have hp := pl_lt ha x
    have z : ∀ j, j < nW s → (0 < lg_cmp (lN (sm (shN s A) (j + 1))) (lN (plN s A x))) = (plN s A x < sm (shN s A) (j + 1)) := by
      intro j hj
      have hm : sm (shN s A) (j + 1) ≤ allN s A := sm_mo (by omega)
      rw [lg_gt]
      apply propext
      rw [l_lt, lT (by omega), lT (by omega)]
      exact Int.ofNat_lt
    have hl := lpN (P := fun j => ev 215 129 [some (.inr (.inr (30, 0))), none, some (.inl (nI n)), some (.inl (nI k)), some (.inl y), some (.inl (nI c)), some (.inl (nI j)), some (.inl (nI i)), none, none, some (.inr (.inl (lN (plN s A x)))), none, some (.inr (.inl (lN (sm (shN s A) (j + 1))))), none] [] v) (wdN s A x) (fun j hj => by
      show ev 215 129 [some (.inr (.inr (30, 0))), none, some (.inl (nI n)), some (.inl (nI k)), some (.inl y), some (.inl (nI c)), some (.inl (nI j)), some (.inl (nI i)), none, none, some (.inr (.inl (lN (plN s A x)))), none, some (.inr (.inl (lN (sm (shN s A) (j + 1))))), none] [] v = ev 215 129 [some (.inr (.inr (30, 0))), none, some (.inl (nI n)), some (.inl (nI k)), some (.inl y), some (.inl (nI c)), some (.inl (nI (j + 1))), some (.inl (nI i)), none, none, some (.inr (.inl (lN (plN s A x)))), none, some (.inr (.inl (lN (sm (shN s A) (j + 1) + shN s A (j + 1))))), none] [] v
      rw [q_215_at129, if_neg (by rw [z j (by omega)]; exact w3 j hj), nI_s, if_pos (ixB_nI (show j + 1 < 1024 by omega) (by decide)), cl_nI (by omega), rw'.2.2.1 (j + 1) (by omega), lN_add])
    refine Eq.trans (show _ = ev 215 129 [some (.inr (.inr (30, 0))), none, some (.inl (nI n)), some (.inl (nI k)), some (.inl y), some (.inl (nI c)), some (.inl (nI 0)), some (.inl (nI i)), none, none, some (.inr (.inl (lN (plN s A x)))), none, some (.inr (.inl (lN (sm (shN s A) (0 + 1))))), none] [] v by
      rw [show sm (shN s A) (0 + 1) = shN s A 0 from Nat.zero_add _]
      rfl) (hl.trans ?_)
    show ev 215 129 [some (.inr (.inr (30, 0))), none, some (.inl (nI n)), some (.inl (nI k)), some (.inl y), some (.inl (nI c)), some (.inl (nI (wdN s A x))), some (.inl (nI i)), none, none, some (.inr (.inl (lN (plN s A x)))), none, some (.inr (.inl (lN (sm (shN s A) (wdN s A x + 1))))), none] [] v = _
    rw [q_215_at129, if_pos (by rw [z _ w1]; exact w2), c_195 js hB hk (by omega), cI_s, ite_bI, (SP_brk sp).2.1, nI_s, nI_s, nI_z]
    cases soB s k (wdN s A x) <;> rfl
  have hl := lpN (P := fun i => ev 215 45 [some (.inr (.inr (30, 0))), none, some (.inl (nI n)), some (.inl (nI k)), some (.inl ((drN s A k p i).1)), some (.inl (nI (drN s A k p i).2.1)), some (.inl (nI (drN s A k p i).2.2)), some (.inl (nI i)), none, none, none, none, none, none] [] v) n (fun i hi => by
    show ev 215 45 [some (.inr (.inr (30, 0))), none, some (.inl (nI n)), some (.inl (nI k)), some (.inl ((drN s A k p i).1)), some (.inl (nI (drN s A k p i).2.1)), some (.inl (nI (drN s A k p i).2.2)), some (.inl (nI i)), none, none, none, none, none, none] [] v = ev 215 45 [some (.inr (.inr (30, 0))), none, some (.inl (nI n)), some (.inl (nI k)), some (.inl (lcg (lcg (drN s A k p i).1))), some (.inl (nI ((drN s A k p i).2.1 + (if soB s k (wdN s A (drN s A k p i).1) = true then 1 else 0)))), some (.inl (nI (wdN s A (drN s A k p i).1))), some (.inl (nI (i + 1))), none, none, none, none, none, none] [] v
    generalize drN s A k p i = D
    rw [q_215_at45, if_pos (nI_lt hi (by omega)), if_pos (by decide), f15_r, f15_r, show ((0 : Int32).toNatClampNeg) = 0 from rfl, rw'.2.2.1 0 (nW_pos s), rw'.2.2.2]
    have e := (pl_c (A := A) hS D.1).2
    have i2 : ∀ y : Int64, y = lN (plN s A D.1) → ev 215 129 [some (.inr (.inr (30, 0))), none, some (.inl (nI n)), some (.inl (nI k)), some (.inl (lcg (lcg D.1))), some (.inl (nI D.2.1)), some (.inl 0), some (.inl (nI i)), none, none, some (.inr (.inl y)), none, some (.inr (.inl (lN (shN s A 0)))), none] [] v = ev 215 45 [some (.inr (.inr (30, 0))), none, some (.inl (nI n)), some (.inl (nI k)), some (.inl (lcg (lcg D.1))), some (.inl (nI (D.2.1 + (if soB s k (wdN s A D.1) = true then 1 else 0)))), some (.inl (nI (wdN s A D.1))), some (.inl (nI (i + 1))), none, none, none, none, none, none] [] v := fun y hy => by rw [hy]; exact inner D.1 _ _ _
    exact i2 _ e)
  refine (show ev 215 45 [some (.inr (.inr (30, 0))), none, some (.inl (nI n)), some (.inl (nI k)), some (.inl p), some (.inl (nI 0)), some (.inl (nI 0)), some (.inl (nI 0)), none, none, none, none, none, none] [] v = _ from hl).trans ?_
  rw [q_215_at45, if_neg (irr _), q_146, cI_s]
theorem pub_draw {s : SS} (h : J s) (p n l : Int32) : PI 84 215 [some (.inr (.inr (0, 0))), some (.inl p), some (.inl n), some (.inl l), none, none, none, none, none, none, none] [some (.inr (.inr (30, 0))), some (.inl p), some (.inl n), some (.inl l), none, none, none, none, none, none, none, none, none, none] s := by
  have hS := h.2.2.2.1
  have hL := h.2.2.2.2.1
  have bad : (n < 1 ∨ (200 : Int32) < n) → PI 84 215 [some (.inr (.inr (0, 0))), some (.inl p), some (.inl n), some (.inl l), none, none, none, none, none, none, none] [some (.inr (.inr (30, 0))), some (.inl p), some (.inl n), some (.inl l), none, none, none, none, none, none, none, none, none, none] s := by
    intro hn
    refine PI_0 h (-1) ?_ ?_
    · rw [q_84]
      by_cases h1 : n < 1
      · rw [if_pos h1]
      · rw [if_neg h1, if_pos (hn.resolve_left h1)]
    · rw [q_215, c_144, cI_s, ite_bI, if_neg (by
        rcases hn with h1 | h1
        · simp [h1]
        · simp [h1])]
  by_cases h1 : n < 1
  · exact bad (Or.inl h1)
  by_cases h2 : (200 : Int32) < n
  · exact bad (Or.inr h2)
  have h1' : 0 < n.toInt := by
    rw [lt_iff] at h1
    have : (1 : Int32).toInt = 1 := rfl
    omega
  have h2' : n.toInt ≤ 200 := by
    rw [lt_iff] at h2
    have : (200 : Int32).toInt = 200 := rfl
    omega
  obtain ⟨m, hm1, rfl, hm2⟩ := ge0_n (x := n) (by
    rw [lt_iff]
    have : (0 : Int32).toInt = 0 := rfl
    omega)
  have hok : bI (!(decide (nI m < 1)) && !(decide ((200 : Int32) < nI m))) = 1 := by
    rw [decide_eq_false h1, decide_eq_false h2]
    rfl
  by_cases hl : ixB l 28 = true
  · obtain ⟨k, hk, rfl⟩ := (ixB_iff (by decide)).mp hl
    obtain ⟨u, e1, sv⟩ := sv0 h
    have e50 := c_50 hS hL sv.2.2.2.2.2.1
    by_cases hs : (bst s (aA 0) (nW s)).isSome = true
    · have ha : 0 < allN s (aA 0) := all_pos.mpr hs
      rw [hs] at e50
      obtain ⟨v, e2, rs, tb', rw', js, sp⟩ := c_201u sv.2.1 (QF_SP sv.1) (TK_9 (v := nI (drN s (aA 0) k p m).2.2))
      rw [hs] at e2
      refine PS (nI (drN s (aA 0) k p m).2.1) (u1 := wI u 0 0 9 (nI (drN s (aA 0) k p m).2.2)) (v := wI v 30 0 2 (nI (drN s (aA 0) k p m).2.2)) ?_ ?_ (J_ask sv.2.1 _) (RS_wI rs _ _ _ _) (fun b c => QF_60 sv.1 b c) (fun b c => QF_60 sv.1 b c)
      · rw [q_84, if_neg h1, if_neg h2, c_106, hl, cI_s, ite_bI, if_pos rfl, e1, cV_s, e50, cI_s, if_pos (by rfl), c_84l hS sv ha hk (by omega)]
      · rw [q_215, c_144, hok, cI_s, if_neg (by decide), c_163, hl, cI_s, ite_bI, if_pos rfl, e2, cI_s, if_neg (by decide), c_215l hS sp js tb'.1 rw' ha hk (by omega)]
    · have hs' := hb_f hs
      rw [hs'] at e50
      obtain ⟨v, e2, rs, tb', rw', js, sp⟩ := c_201u sv.2.1 (QF_SP sv.1) (TK_f (f := 4))
      rw [hs'] at e2
      refine PS (-3) (u1 := fC u 4) (v := fR v 4) ?_ ?_ (J_f sv.2.1 (f := 4) (by decide)) (RS_fR rs 4) (fun b c => QF_60 sv.1 b c) (fun b c => QF_60 sv.1 b c)
      · rw [q_84, if_neg h1, if_neg h2, c_106, hl, cI_s, ite_bI, if_pos rfl, e1, cV_s, e50, cI_s, if_neg (by decide), c_100_4, cI_s]
      · rw [q_215, c_144, hok, cI_s, if_neg (by decide), c_163, hl, cI_s, ite_bI, if_pos rfl, e2, cI_s, if_pos (by rfl), c_145_4, cI_s]
  · refine PI_0 h (-1) ?_ ?_
    · rw [q_84, if_neg h1, if_neg h2, c_106, ix_no hl, cI_s, ite_bI, if_neg (by decide)]
    · rw [q_215, c_144, hok, cI_s, if_neg (by decide), c_163, ix_no hl, cI_s, ite_bI, if_neg (by decide)]
