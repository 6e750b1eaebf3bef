/-! bits -/
def tb (x : Int32) (i : Nat) : Bool := x.toBitVec.getLsbD i
theorem tb_and (x y : Int32) (i : Nat) : tb (x &&& y) i = (tb x i && tb y i) := BitVec.getLsbD_and
theorem tb_or (x y : Int32) (i : Nat) : tb (x ||| y) i = (tb x i || tb y i) := BitVec.getLsbD_or
theorem tb_n (a i : Nat) : tb (nI a) i = (decide (i < 32) && a.testBit i) := by
  unfold tb nI
  show (BitVec.ofNat 32 a).getLsbD i = _
  rw [BitVec.getLsbD_ofNat]
theorem tb_ext {x y : Int32} (h : ∀ i, i < 32 → tb x i = tb y i) : x = y := by
  apply Int32.toBitVec_inj.mp
  apply BitVec.eq_of_getLsbD_eq
  exact h
theorem tb_0 (i : Nat) : tb 0 i = false := by
  show (BitVec.ofNat 32 0).getLsbD i = false
  simp
theorem n_and (a b : Nat) (ha : a < 4294967296) (hb : b < 4294967296) : nI a &&& nI b = nI (a &&& b) := by
  apply tb_ext
  intro i hi
  rw [tb_and, tb_n, tb_n, tb_n, Nat.testBit_and]
  simp [hi]
theorem n_or (a b : Nat) : nI a ||| nI b = nI (a ||| b) := by
  apply tb_ext
  intro i hi
  rw [tb_or, tb_n, tb_n, tb_n, Nat.testBit_or]
  simp [hi]
theorem sh31 : ∀ k, k < 32 → (nI k &&& 31) = nI k := by decide
theorem shl1 : ∀ k, k < 31 → (1 : Int32) <<< (nI k &&& 31) = nI (2 ^ k) := by decide
theorem shr_bv : ∀ k, k < 32 → (nI k).toBitVec.smod 32 = BitVec.ofNat 32 k := by decide
theorem shr_n {a k : Nat} (ha : a < 2147483648) (hk : k < 32) : nI a >>> (nI k &&& 31) = nI (a / 2 ^ k) := by
  rw [sh31 k hk]
  apply tb_ext
  intro i hi
  rw [tb_n]
  show ((nI a).toBitVec.sshiftRight' ((nI k).toBitVec.smod 32)).getLsbD i = _
  rw [shr_bv k hk]
  show ((nI a).toBitVec.sshiftRight (BitVec.ofNat 32 k).toNat).getLsbD i = _
  rw [BitVec.toNat_ofNat, Nat.mod_eq_of_lt (by omega), BitVec.getLsbD_sshiftRight, Nat.testBit_div_two_pow]
  have hm : (nI a).toBitVec.msb = false := by
    rw [BitVec.msb_eq_getLsbD_last]
    have := tb_n a 31
    unfold tb at this
    show (nI a).toBitVec.getLsbD 31 = false
    rw [this, Nat.testBit_lt_two_pow (by omega)]
    rfl
  have e := tb_n a (k + i)
  unfold tb at e
  rw [hm, e]
  by_cases h : k + i < 32
  · have h2 : ¬ 32 ≤ i := by omega
    simp [h, h2, hi, Nat.add_comm]
  · have : a.testBit (i + k) = false := Nat.testBit_lt_two_pow (Nat.lt_of_lt_of_le ha (Nat.le_trans (show 2147483648 ≤ 2 ^ 31 by decide) (Nat.pow_le_pow_right (by decide) (by omega))))
    simp [h, this]
theorem bit_n {a k : Nat} (ha : a < 2147483648) (hk : k < 32) : (nI a >>> (nI k &&& 31)) &&& 1 = nI (a / 2 ^ k % 2) := by
  rw [shr_n ha hk, show (1 : Int32) = nI 1 from rfl, n_and _ _ (Nat.lt_of_le_of_lt (Nat.div_le_self _ _) (by omega)) (by decide), Nat.and_one_is_mod]
theorem tbit (a k : Nat) : a.testBit k = decide (a / 2 ^ k % 2 = 1) := Nat.testBit_eq_decide_div_mod_eq
theorem bit_1 {a k : Nat} (ha : a < 2147483648) (hk : k < 32) : ((nI a >>> (nI k &&& 31)) &&& 1 = 1) = (a.testBit k = true) := by
  rw [bit_n ha hk, show (1 : Int32) = nI 1 from rfl, n_eq (by omega) (by decide), tbit]
  simp
theorem bit_0 {a k : Nat} (ha : a < 2147483648) (hk : k < 32) : ((nI a >>> (nI k &&& 31)) &&& 1 = 0) = (a.testBit k = false) := by
  rw [bit_n ha hk, show (0 : Int32) = nI 0 from rfl, n_eq (by omega) (by decide), tbit]
  apply propext
  simp
theorem c_147 {a k : Nat} (ha : a < 2147483648) (hk : k < 32) (s : SS) : ev 147 0 [some (.inl (nI a)), some (.inl (nI k))] [] s = some (some (.inl (bI (a.testBit k))), s) := by
  rw [q_147]
  simp only [bit_1 ha hk]
  cases a.testBit k <;> rfl
/-! the reference's bits -/
theorem cn_mono (p : Nat → Bool) : ∀ {n m : Nat}, n ≤ m → cn p n ≤ cn p m
  | n, 0, h => by
    have : n = 0 := by omega
    subst this
    exact Nat.le_refl _
  | n, m + 1, h => by
    by_cases e : n = m + 1
    · rw [e]
      exact Nat.le_refl _
    · have := cn_mono p (n := n) (m := m) (by omega)
      show cn p n ≤ cn p m + _
      omega
def s3 (s : SS) (k : Nat) : Nat := cn (fun i => tl s i == 3) k
theorem s3_le {s : SS} (h : JS s) {k : Nat} (hk : k ≤ 28) : s3 s k ≤ 10 := Nat.le_trans (cn_mono _ hk) h.2.2
theorem nW_le {s : SS} (h : JS s) : nW s ≤ 1024 := by
  unfold nW
  exact Nat.le_trans (Nat.pow_le_pow_right (by decide) h.2.2) (by decide)
theorem nW_pos (s : SS) : 0 < nW s := Nat.two_pow_pos _
def bitF (s : SS) (i : Nat) (t : SS) : SS := fo (fun k t => wI t 50 0 (0 + k) (if tl s k = 3 then nI (s3 s k) else -9)) i t
def bitS (s : SS) : SS := wI (bitF s 28 s) 30 0 28 (nI (nW s))
theorem bitF_o (s t : SS) {a : Nat} (ha : a ≠ 50) (b c i : Nat) : (bitF s i t).1 a b c = t.1 a b c := by
  unfold bitF
  rw [fo_wI, if_neg (fun z => ha z.1)]
theorem bitF_2 (s t : SS) (i : Nat) : (bitF s i t).2 = t.2 := by
  unfold bitF
  rw [fo_wI2]
theorem c_194 {s : SS} (h : JS s) : ev 194 0 [some (.inr (.inr (30, 0))), none, none] [] s = some (none, bitS s) := by
  rw [q_194]
  have hl := lpN (P := fun i => ev 194 4 [some (.inr (.inr (30, 0))), some (.inl (nI (s3 s i))), some (.inl (nI i))] [] (bitF s i s)) 28 (fun i hi => by
    show ev 194 4 [some (.inr (.inr (30, 0))), some (.inl (nI (s3 s i))), some (.inl (nI i))] [] (bitF s i s) = ev 194 4 [some (.inr (.inr (30, 0))), some (.inl (nI (s3 s i + (if (tl s i == 3) = true then 1 else 0)))), some (.inl (nI (i + 1)))] [] (wI (bitF s i s) 50 0 (0 + i) (if tl s i = 3 then nI (s3 s i) else -9))
    obtain ⟨-, g2, g3, -⟩ := h.2.1 i hi
    have x28 : ixB (nI i) 28 = true := ixB_nI hi (by decide)
    have e37 : (bitF s i s).1 37 0 i = nI (tl s i) := (bitF_o s s (by decide) 0 i i).trans g2
    have e37' : ∀ v, (wI (bitF s i s) 50 0 i v).1 37 0 i = nI (tl s i) := fun v => e37
    have z3 : (nI (tl s i) = (3 : Int32)) = (tl s i = 3) := n_eq (a := tl s i) (b := 3) (by omega) (by decide)
    rw [q_194_at4, if_pos (show nI i < (28 : Int32) from nI_lt hi (by decide)), if_pos x28, cl_nI (by omega), e37, q_194_at31, q_194_at31, if_pos x28, if_pos x28, if_pos x28, if_pos x28, cl_nI (by omega), e37', e37', nI_s, nI_s, nI_z, Nat.zero_add]
    simp only [z3]
    by_cases e : tl s i = 3 <;> simp [e])
  refine (show ev 194 4 [some (.inr (.inr (30, 0))), some (.inl (nI (s3 s 0))), some (.inl (nI 0))] [] (bitF s 0 s) = _ from hl).trans ?_
  rw [q_194_at4, if_neg (show ¬ nI 28 < (28 : Int32) from irr (nI 28)), shl1 _ (by have := s3_le h (Nat.le_refl 28); omega)]
  rfl
/-- the reference knows its bits -/
def BT (s : SS) : Prop := (∀ k, k < 28 → tl s k = 3 → s.1 50 0 k = nI (s3 s k)) ∧ s.1 30 0 28 = nI (nW s)
theorem BT_S (s : SS) : BT (bitS s) := by
  have et : tl (bitS s) = tl s := by
    funext k
    unfold tl
    unfold bitS
    rw [wI_1, if_neg (by omega), bitF_o s s (by decide)]
  have e3 : s3 (bitS s) = s3 s := by
    funext k
    unfold s3
    rw [et]
  refine ⟨fun k hk h3 => ?_, ?_⟩
  · rw [et] at h3
    rw [e3]
    unfold bitS bitF
    rw [wI_1, if_neg (by omega), fo_wI, if_pos ⟨rfl, rfl, by omega, by omega⟩, Nat.sub_zero, if_pos h3]
  · have e : nW (bitS s) = nW s := by
      unfold nW
      rw [et]
    rw [e]
    unfold bitS
    rw [wI_same]
theorem c_195 {s : SS} (h : JS s) (hb : BT s) {k w : Nat} (hk : k < 28) (hw : w < 2147483648) : ev 195 0 [some (.inr (.inr (30, 0))), some (.inl (nI k)), some (.inl (nI w))] [] s = some (some (.inl (bI (soB s k w))), s) := by
  obtain ⟨-, g2, g3, -⟩ := h.2.1 k hk
  have x28 : ixB (nI k) 28 = true := ixB_nI hk (by decide)
  have z3 : (nI (tl s k) = (3 : Int32)) = (tl s k = 3) := n_eq (a := tl s k) (b := 3) (by omega) (by decide)
  have z1 : (nI (tl s k) = (1 : Int32)) = (tl s k = 1) := n_eq (a := tl s k) (b := 1) (by omega) (by decide)
  rw [q_195, if_pos x28, if_pos x28, if_pos x28, cl_nI (by omega), g2]
  simp only [z1, z3]
  unfold soB
  by_cases e1 : tl s k = 1
  · simp [e1, bI]
  · by_cases e3 : tl s k = 3
    · have hs := s3_le h (show k ≤ 28 by omega)
      rw [if_neg e1, if_pos e3, hb.1 k hk e3, c_147 hw (by omega), cI_s, ite_bI]
      have e4 : s3 s k = cn (fun i => tl s i == 3) k := rfl
      rw [e4, e3]
      cases w.testBit (cn (fun i => tl s i == 3) k) <;> rfl
    · rw [if_neg e1, if_neg e3]
      simp [e1, e3, bI]
theorem bitS_o (s : SS) {a b c : Nat} (h : a ≠ 50) (h2 : a = 30 → c ≠ 28) : (bitS s).1 a b c = s.1 a b c := by
  unfold bitS
  rw [wI_1, if_neg (fun z => h2 z.1 z.2.2), bitF_o s s h]
theorem bitS_2 (s : SS) : (bitS s).2 = s.2 := by
  unfold bitS
  rw [wI_2, bitF_2]
theorem bitS_ag (s : SS) {K : List Nat} (h : ∀ a, a ∈ K → a ≠ 50 ∧ a ≠ 30) : Ag K s (bitS s) := ⟨fun a ha => ⟨fun b c => bitS_o s (h a ha).1 (fun z => absurd z (h a ha).2), fun b c => by rw [bitS_2]⟩, by rw [bitS_2]⟩
/-- what the reference sets aside does not matter -/
theorem J_scr {s t : SS} (h : J s) (h1 : ∀ a b c, a < 50 → (a = 30 → c ≤ 10) → t.1 a b c = s.1 a b c) (h2 : ∀ a b c, a < 50 → (a = 30 → c ≤ 10) → t.2.1 a b c = s.2.1 a b c) (h3 : t.2.2 = s.2.2) : J t := by
  have ag : ∀ {K : List Nat}, (∀ a, a ∈ K → a < 50 ∧ a ≠ 30) → Ag K s t := fun hd => ⟨fun a ha => ⟨fun b c => h1 a b c (hd a ha).1 (fun z => absurd z (hd a ha).2), fun b c => h2 a b c (hd a ha).1 (fun z => absurd z (hd a ha).2)⟩, h3⟩
  exact J_ag (s := s) (ag (by decide)) (h1 _ _ _ (by decide) (by decide)) (h1 _ _ _ (by decide) (by decide)) (h1 _ _ _ (by decide) (by decide)) (JR_ag (ag (by decide)) h.1) (JT_ag (ag (by decide)) h.2.1) (JF_ag (ag (by decide)) (h1 _ _ _ (by decide) (by decide)) (h1 _ _ _ (by decide) (by decide)) (h1 _ _ _ (by decide) (by decide)) (h1 _ _ _ (by decide) (by decide)) (h2 _ _ _ (by decide) (by decide)) (h2 _ _ _ (by decide) (by decide)) (h2 _ _ _ (by decide) (by decide)) (h2 _ _ _ (by decide) (by decide)) h.2.2.1) h
theorem J_bit {s : SS} (h : J s) : J (bitS s) := J_scr h (fun a b c h1 h2 => bitS_o s (by omega) (fun z => by have := h2 z; omega)) (fun a b c _ _ => by rw [bitS_2]) (by rw [bitS_2])
theorem pub_worlds {s : SS} (h : J s) : PI 75 204 [some (.inr (.inr (0, 0)))] [some (.inr (.inr (30, 0)))] s := by
  have hS := h.2.2.2.1
  refine ⟨nI (nW s), s, bitS s, ?_, ?_, J_bit h, fun _ _ => rfl, fun b c => bitS_o s (by decide) (fun z => absurd z (by decide))⟩
  · rw [q_75, c_113_3 hS, cI_s, shl1 _ (by have : nS s ≤ 10 := hS.2.2; omega)]
    rfl
  · rw [q_204, c_194 hS, cV_s]
    unfold bitS
    rw [wI_same]
