/-! weights laid by a code -/
def tbm (m : Nat) (k : Nat) : Bool := m.testBit k
def ixN (m k : Nat) : Nat := popN m - cn (tbm m) (k + 1)
def dgN (c j : Nat) : Nat := c / 4 ^ j % 4
def wd (m c k : Nat) : Nat := dgN c (ixN m k)
theorem wd_le (m c k : Nat) : wd m c k ≤ 3 := by
  unfold wd dgN
  have := Nat.mod_lt (c / 4 ^ ixN m k) (show 0 < 4 by decide)
  omega
theorem pop_cn (m : Nat) : popN m = cn (tbm m) 8 := rfl
theorem cn_pop {m i : Nat} (hi : i ≤ 8) : cn (tbm m) i ≤ popN m := cn_mono (tbm m) hi
def l4I (r : Nat) : Int32 := match r with
  | 0 => -1
  | r + 1 => nI r
theorem and3 (a : Nat) (h : a < 4294967296) : nI a &&& 3 = nI (a % 4) := by
  have e := n_and a 3 h (by decide)
  rw [show a &&& 3 = a % 4 from Nat.and_two_pow_sub_one_eq_mod a 2] at e
  exact e
theorem c_135l {m c : Nat} (hm : m < 256) (hc : c < 64) : ∀ (r : Nat) (u : SS), r ≤ 8 → (∀ a b, a ≤ 8 → b ≤ 8 → u.2.2 a = u.2.2 b → a = b) → ∃ t, ev 135 6 [some (.inr (.inr (0, 0))), some (.inl (nI m)), none, some (.inl (nI (c / 4 ^ (popN m - cn (tbm m) r)))), some (.inl (l4I r))] [] u = some (none, t) ∧ (∀ a b x, (a = 13 → x ≠ 2) → t.1 a b x = u.1 a b x) ∧ t.2 = u.2 ∧ ∀ k, k < 8 → t.1 13 (u.2.2 k) 2 = if k < r ∧ m.testBit k = true then nI (wd m c k) else u.1 13 (u.2.2 k) 2
  | 0, u, _, _ => ⟨u, by rw [q_135_at6, if_pos (show l4I 0 < 0 by decide)], fun _ _ _ _ => rfl, rfl, fun k _ => by rw [if_neg (fun z => absurd z.1 (Nat.not_lt_zero k))]⟩
  | r + 1, u, hr, inj => by
    have x8 : ixB (nI r) 8 = true := ixB_nI (by omega) (by decide)
    have e1 : nI r + (-1) = l4I r := by
      cases r with
      | zero => rfl
      | succ n =>
        show nI (n + 1) + (-1) = nI n
        rw [← nI_s, Int32.add_assoc]
        show nI n + 0 = nI n
        exact nI_z n
    have hcl : c / 4 ^ (popN m - cn (tbm m) (r + 1)) ≤ c := Nat.div_le_self _ _
    have hp := cn_pop (m := m) hr
    have hs : cn (tbm m) (r + 1) = cn (tbm m) r + (if tbm m r = true then 1 else 0) := rfl
    have hbit : ((nI m >>> (nI r &&& 31)) &&& 1 = 0) = (m.testBit r = false) := bit_0 (by omega) (by omega)
    have go : ev 135 6 [some (.inr (.inr (0, 0))), some (.inl (nI m)), none, some (.inl (nI (c / 4 ^ (popN m - cn (tbm m) (r + 1))))), some (.inl (l4I (r + 1)))] [] u = (if m.testBit r = false then ev 135 6 [some (.inr (.inr (0, 0))), some (.inl (nI m)), none, some (.inl (nI (c / 4 ^ (popN m - cn (tbm m) (r + 1))))), some (.inl (l4I r))] [] u else ev 135 6 [some (.inr (.inr (0, 0))), some (.inl (nI m)), none, some (.inl ((nI (c / 4 ^ (popN m - cn (tbm m) (r + 1))) >>> ((2 : Int32) &&& 31)))), some (.inl (l4I r))] [] (wI u 13 (u.2.2 r) 2 (nI (c / 4 ^ (popN m - cn (tbm m) (r + 1)) % 4)))) := by
      show ev 135 6 [some (.inr (.inr (0, 0))), some (.inl (nI m)), none, some (.inl (nI (c / 4 ^ (popN m - cn (tbm m) (r + 1))))), some (.inl (nI r))] [] u = _
      rw [q_135_at6, if_neg (nI_pos (by omega)), if_pos x8, cl_nI (by omega), e1, and3 _ (by omega)]
      simp only [hbit]
    cases hb : m.testBit r with
    | false =>
      have hb' : tbm m r = false := hb
      rw [hb', if_neg (by decide), Nat.add_zero] at hs
      obtain ⟨t, e, f1, f2, f3⟩ := c_135l hm hc r u (by omega) inj
      refine ⟨t, ?_, f1, f2, fun k hk => ?_⟩
      · rw [go, if_pos hb, hs]
        exact e
      · rw [f3 k hk]
        by_cases g : k < r ∧ m.testBit k = true
        · rw [if_pos g, if_pos ⟨by omega, g.2⟩]
        · rw [if_neg g, if_neg (fun z => by
            by_cases e : k = r
            · rw [e, hb] at z
              exact absurd z.2 (by decide)
            · exact g ⟨by omega, z.2⟩)]
    | true =>
      have hb' : tbm m r = true := hb
      rw [hb', if_pos rfl] at hs
      obtain ⟨t, e, f1, f2, f3⟩ := c_135l hm hc r (wI u 13 (u.2.2 r) 2 (nI (c / 4 ^ (popN m - cn (tbm m) (r + 1)) % 4))) (by omega) inj
      refine ⟨t, ?_, fun a b x hx => ?_, f2, fun k hk => ?_⟩
      · have e4 : nI (c / 4 ^ (popN m - cn (tbm m) (r + 1))) >>> ((2 : Int32) &&& 31) = nI (c / 4 ^ (popN m - cn (tbm m) r)) := by
          have := shr_n (a := c / 4 ^ (popN m - cn (tbm m) (r + 1))) (k := 2) (by omega) (by decide)
          rw [Nat.div_div_eq_div_mul, show 4 ^ (popN m - cn (tbm m) (r + 1)) * 2 ^ 2 = 4 ^ (popN m - cn (tbm m) (r + 1) + 1) from (Nat.pow_succ 4 _).symm, show popN m - cn (tbm m) (r + 1) + 1 = popN m - cn (tbm m) r by omega] at this
          exact this
        rw [go, if_neg (by rw [hb]; decide), e4]
        exact e
      · rw [f1 a b x hx, wI_1, if_neg (fun z => hx z.1 z.2.2)]
      · have f3' : t.1 13 (u.2.2 k) 2 = if k < r ∧ m.testBit k = true then nI (wd m c k) else (wI u 13 (u.2.2 r) 2 (nI (c / 4 ^ (popN m - cn (tbm m) (r + 1)) % 4))).1 13 (u.2.2 k) 2 := f3 k hk
        rw [f3']
        by_cases e : k = r
        · subst e
          rw [if_neg (fun z => absurd z.1 (Nat.lt_irrefl k)), if_pos ⟨by omega, hb⟩, wI_same]
          rfl
        · have hne : ¬ u.2.2 k = u.2.2 r := fun z => e (inj k r (by omega) (by omega) z)
          rw [wI_1, if_neg (show ¬ (13 = 13 ∧ u.2.2 k = u.2.2 r ∧ 2 = 2) from fun z => hne z.2.1)]
          by_cases g : k < r ∧ m.testBit k = true
          · rw [if_pos g, if_pos ⟨by omega, g.2⟩]
          · rw [if_neg g, if_neg (fun z => g ⟨by omega, z.2⟩)]
theorem c_135 {m c : Nat} (hm : m < 256) (hc : c < 64) (u : SS) (inj : ∀ a b, a ≤ 8 → b ≤ 8 → u.2.2 a = u.2.2 b → a = b) : ∃ t, ev 135 0 [some (.inr (.inr (0, 0))), some (.inl (nI m)), some (.inl (nI c)), none, none] [] u = some (none, t) ∧ (∀ a b x, (a = 13 → x ≠ 2) → t.1 a b x = u.1 a b x) ∧ t.2 = u.2 ∧ ∀ k, k < 8 → t.1 13 (u.2.2 k) 2 = if m.testBit k = true then nI (wd m c k) else u.1 13 (u.2.2 k) 2 := by
  obtain ⟨t, e, f1, f2, f3⟩ := c_135l hm hc 8 u (Nat.le_refl 8) inj
  refine ⟨t, ?_, f1, f2, fun k hk => ?_⟩
  · rw [q_135]
    have : c / 4 ^ (popN m - cn (tbm m) 8) = c := by
      rw [← pop_cn, Nat.sub_self, Nat.pow_zero, Nat.div_one]
    rw [this] at e
    exact e
  · rw [f3 k hk]
    by_cases g : m.testBit k = true
    · rw [if_pos ⟨hk, g⟩, if_pos g]
    · rw [if_neg (fun z => g z.2), if_neg g]
/-! the reference's -/
def layT (m c : Nat) (n : Nat) (t : SS) : SS := fo (fun k t => if m.testBit k = true then wI t 43 0 k (nI (wd m c k)) else t) n t
theorem lay_1 (m c : Nat) (t : SS) (a b x : Nat) : ∀ n, (layT m c n t).1 a b x = if a = 43 ∧ b = 0 ∧ x < n ∧ m.testBit x = true then nI (wd m c x) else t.1 a b x
  | 0 => by
    rw [if_neg (fun z => absurd z.2.2.1 (Nat.not_lt_zero x))]
    rfl
  | n + 1 => by
    show (if m.testBit n = true then wI (layT m c n t) 43 0 n (nI (wd m c n)) else layT m c n t).1 a b x = _
    have ih := lay_1 m c t a b x n
    by_cases hb : m.testBit n = true
    · rw [if_pos hb, wI_1]
      by_cases e : a = 43 ∧ b = 0 ∧ x = n
      · rw [if_pos e, if_pos ⟨e.1, e.2.1, by omega, by rw [e.2.2]; exact hb⟩, e.2.2]
      · rw [if_neg e, ih]
        by_cases g : a = 43 ∧ b = 0 ∧ x < n ∧ m.testBit x = true
        · rw [if_pos g, if_pos ⟨g.1, g.2.1, by omega, g.2.2.2⟩]
        · rw [if_neg g, if_neg (fun z => by
            by_cases ex : x = n
            · exact e ⟨z.1, z.2.1, ex⟩
            · exact g ⟨z.1, z.2.1, by omega, z.2.2.2⟩)]
    · rw [if_neg hb, ih]
      by_cases g : a = 43 ∧ b = 0 ∧ x < n ∧ m.testBit x = true
      · rw [if_pos g, if_pos ⟨g.1, g.2.1, by omega, g.2.2.2⟩]
      · rw [if_neg g, if_neg (fun z => by
          by_cases ex : x = n
          · rw [ex] at z
            exact hb z.2.2.2
          · exact g ⟨z.1, z.2.1, by omega, z.2.2.2⟩)]
theorem lay_2 (m c : Nat) (t : SS) : ∀ n, (layT m c n t).2 = t.2
  | 0 => rfl
  | n + 1 => by
    show (if m.testBit n = true then wI (layT m c n t) 43 0 n (nI (wd m c n)) else layT m c n t).2 = _
    split
    · exact lay_2 m c t n
    · exact lay_2 m c t n
def sW (m c : Nat) (n : Nat) : Nat := sm (fun k => if m.testBit k = true then wd m c k else 0) n
theorem c_217 {m c : Nat} (hm : m < 256) (hc : c < 64) (t : SS) : ev 217 0 [some (.inr (.inr (30, 0))), some (.inl (nI m)), some (.inl (nI c)), some (.inl (nI (popN m))), none, none, none] [] t = some (some (.inl (nI (sW m c 8))), layT m c 8 t) := by
  have hl := lpN (P := fun i => ev 217 9 [some (.inr (.inr (30, 0))), some (.inl (nI m)), some (.inl (nI c)), none, some (.inl (nI (sW m c i))), some (.inl (nI (popN m - cn (tbm m) i))), some (.inl (nI i))] [] (layT m c i t)) 8 (fun i hi => by
    show ev 217 9 [some (.inr (.inr (30, 0))), some (.inl (nI m)), some (.inl (nI c)), none, some (.inl (nI (sW m c i))), some (.inl (nI (popN m - cn (tbm m) i))), some (.inl (nI i))] [] (layT m c i t) = ev 217 9 [some (.inr (.inr (30, 0))), some (.inl (nI m)), some (.inl (nI c)), none, some (.inl (nI (sW m c i + (if m.testBit i = true then wd m c i else 0)))), some (.inl (nI (popN m - (cn (tbm m) i + (if tbm m i = true then 1 else 0))))), some (.inl (nI (i + 1)))] [] ((if m.testBit i = true then wI (layT m c i t) 43 0 i (nI (wd m c i)) else layT m c i t))
    have x8 : ixB (nI i) 8 = true := ixB_nI hi (by decide)
    have hp := cn_pop (m := m) (show i + 1 ≤ 8 by omega)
    have hp8 := pop_le m
    have hs : cn (tbm m) (i + 1) = cn (tbm m) i + (if tbm m i = true then 1 else 0) := rfl
    rw [q_217_at9, if_pos (show nI i < (8 : Int32) from nI_lt hi (by decide)), c_147 (by omega) (by omega), cI_s, ite_bI, if_pos x8, if_pos x8, cl_nI (by omega), nI_s]
    cases hb : m.testBit i with
    | false =>
      have hb' : tbm m i = false := hb
      rw [hb']
      rfl
    | true =>
      have hb' : tbm m i = true := hb
      rw [hb', if_pos rfl] at hs
      have e1 : nI (popN m - cn (tbm m) i) + (-1) = nI (popN m - (cn (tbm m) i + 1)) := by
        rw [show popN m - cn (tbm m) i = (popN m - (cn (tbm m) i + 1)) + 1 by omega, ← nI_s, Int32.add_assoc]
        exact nI_z _
      have ei : ixN m i = popN m - (cn (tbm m) i + 1) := by
        unfold ixN
        rw [hs]
      have e2 : (nI c >>> ((2 * nI (popN m - (cn (tbm m) i + 1))) &&& 31)) &&& 3 = nI (wd m c i) := by
        have hle : c / 2 ^ (2 * (popN m - (cn (tbm m) i + 1))) ≤ c := Nat.div_le_self _ _
        rw [n_mulL, shr_n (by omega) (by omega), and3 _ (by omega), Nat.pow_mul]
        unfold wd dgN
        rw [ei]
      rw [if_pos rfl, e1, e2, wI_same, n_add, hb']
      rfl)
  rw [q_217]
  refine (show ev 217 9 [some (.inr (.inr (30, 0))), some (.inl (nI m)), some (.inl (nI c)), none, some (.inl (nI 0)), some (.inl (nI (popN m - cn (tbm m) 0))), some (.inl (nI 0))] [] t = _ from hl).trans ?_
  rw [q_217_at9, if_neg (show ¬ nI 8 < (8 : Int32) from irr (nI 8))]
theorem sW_i (m c : Nat) : ∀ i, i ≤ 8 → sW m c i + sm (dgN c) (popN m - cn (tbm m) i) = sm (dgN c) (popN m)
  | 0, _ => by
    show 0 + sm (dgN c) (popN m - 0) = _
    rw [Nat.zero_add, Nat.sub_zero]
  | i + 1, hi => by
    have ih := sW_i m c i (by omega)
    have hp := cn_pop (m := m) hi
    have hs : cn (tbm m) (i + 1) = cn (tbm m) i + (if tbm m i = true then 1 else 0) := rfl
    show sW m c i + (if m.testBit i = true then wd m c i else 0) + sm (dgN c) (popN m - cn (tbm m) (i + 1)) = _
    cases hb : m.testBit i with
    | false =>
      have hb' : tbm m i = false := hb
      rw [hb', if_neg (by decide), Nat.add_zero] at hs
      rw [if_neg (by decide), hs, Nat.add_zero]
      exact ih
    | true =>
      have hb' : tbm m i = true := hb
      rw [hb', if_pos rfl] at hs
      have e : popN m - cn (tbm m) i = (popN m - cn (tbm m) (i + 1)) + 1 := by omega
      rw [e] at ih
      have ih' : sW m c i + (sm (dgN c) (popN m - cn (tbm m) (i + 1)) + dgN c (popN m - cn (tbm m) (i + 1))) = sm (dgN c) (popN m) := ih
      rw [if_pos rfl]
      show sW m c i + dgN c (popN m - cn (tbm m) (i + 1)) + _ = _
      omega
def sC (c : Nat) : Nat := c % 4 + c / 4 % 4 + c / 16 % 4
theorem dg_3 {n c : Nat} (hn : n ≤ 3) (hc : c < 4 ^ n) : sm (dgN c) n = sC c ∧ sm (fun j => dgN c j * 10 ^ j) n = 100 * (c / 16 % 4) + 10 * (c / 4 % 4) + c % 4 := by
  have d0 : dgN c 0 = c % 4 := by
    unfold dgN
    rw [Nat.pow_zero, Nat.div_one]
  have d1 : dgN c 1 = c / 4 % 4 := rfl
  have d2 : dgN c 2 = c / 16 % 4 := rfl
  unfold sC
  match n, hn, hc with
  | 0, _, hc =>
    have : c = 0 := by
      have : c < 1 := hc
      omega
    subst this
    exact ⟨rfl, rfl⟩
  | 1, _, hc =>
    have : c < 4 := hc
    constructor
    · show 0 + dgN c 0 = _
      rw [d0]
      omega
    · show 0 + dgN c 0 * 10 ^ 0 = _
      rw [d0]
      omega
  | 2, _, hc =>
    have : c < 16 := hc
    constructor
    · show 0 + dgN c 0 + dgN c 1 = _
      rw [d0, d1]
      omega
    · show 0 + dgN c 0 * 10 ^ 0 + dgN c 1 * 10 ^ 1 = _
      rw [d0, d1]
      omega
  | 3, _, hc =>
    have : c < 64 := hc
    constructor
    · show 0 + dgN c 0 + dgN c 1 + dgN c 2 = _
      rw [d0, d1, d2]
      omega
    · show 0 + dgN c 0 * 10 ^ 0 + dgN c 1 * 10 ^ 1 + dgN c 2 * 10 ^ 2 = _
      rw [d0, d1, d2]
      omega
theorem sW_8 {m c : Nat} (hn : popN m ≤ 3) (hc : c < 4 ^ popN m) : sW m c 8 = sC c := by
  have h := sW_i m c 8 (Nat.le_refl 8)
  rw [← pop_cn, Nat.sub_self] at h
  rw [← (dg_3 hn hc).1, ← h]
  rfl
theorem sC_le {c : Nat} : sC c ≤ 9 := by
  unfold sC
  omega
set_option maxRecDepth 100000 in
theorem n136 : ∀ c, c < 64 → (((nI c &&& 3) + ((nI c >>> ((2 : Int32) &&& 31)) &&& 3)) + ((nI c >>> ((4 : Int32) &&& 31)) &&& 3)) = nI (sC c) := by decide
set_option maxRecDepth 100000 in
theorem n137 : ∀ c, c < 64 → (((100 * ((nI c >>> ((4 : Int32) &&& 31)) &&& 3)) + (10 * ((nI c >>> ((2 : Int32) &&& 31)) &&& 3))) + (nI c &&& 3)) = nI (100 * (c / 16 % 4) + 10 * (c / 4 % 4) + c % 4) := by decide
theorem c_136 {c : Nat} (hc : c < 64) (s : SS) : ev 136 0 [some (.inl (nI c))] [] s = some (some (.inl (nI (sC c))), s) := by
  rw [q_136, n136 c hc]
def fgF (m c : Nat) : Nat → Nat
  | 0 => 0
  | k + 1 => if m.testBit k = true then 10 * fgF m c k + wd m c k else fgF m c k
theorem fg_i (m c : Nat) : ∀ i, i ≤ 8 → fgF m c i * 10 ^ (popN m - cn (tbm m) i) + sm (fun j => dgN c j * 10 ^ j) (popN m - cn (tbm m) i) = sm (fun j => dgN c j * 10 ^ j) (popN m)
  | 0, _ => by
    show 0 * _ + sm (fun j => dgN c j * 10 ^ j) (popN m - 0) = _
    rw [Nat.zero_mul, Nat.zero_add, Nat.sub_zero]
  | i + 1, hi => by
    have ih := fg_i m c i (by omega)
    have hp := cn_pop (m := m) hi
    have hs : cn (tbm m) (i + 1) = cn (tbm m) i + (if tbm m i = true then 1 else 0) := rfl
    show (if m.testBit i = true then 10 * fgF m c i + wd m c i else fgF m c i) * _ + _ = _
    cases hb : m.testBit i with
    | false =>
      have hb' : tbm m i = false := hb
      rw [hb', if_neg (by decide), Nat.add_zero] at hs
      rw [if_neg (by decide), hs]
      exact ih
    | true =>
      have hb' : tbm m i = true := hb
      rw [hb', if_pos rfl] at hs
      have e : popN m - cn (tbm m) i = (popN m - cn (tbm m) (i + 1)) + 1 := by omega
      rw [e] at ih
      have ih' : fgF m c i * 10 ^ (popN m - cn (tbm m) (i + 1) + 1) + (sm (fun j => dgN c j * 10 ^ j) (popN m - cn (tbm m) (i + 1)) + dgN c (popN m - cn (tbm m) (i + 1)) * 10 ^ (popN m - cn (tbm m) (i + 1))) = sm (fun j => dgN c j * 10 ^ j) (popN m) := ih
      rw [if_pos rfl]
      show (10 * fgF m c i + dgN c (popN m - cn (tbm m) (i + 1))) * 10 ^ (popN m - cn (tbm m) (i + 1)) + _ = _
      rw [← ih', Nat.pow_succ, Nat.add_mul, Nat.mul_comm 10, Nat.mul_assoc, Nat.mul_comm 10]
      omega
theorem fg_8 {m c : Nat} (hn : popN m ≤ 3) (hc : c < 4 ^ popN m) : fgF m c 8 = 100 * (c / 16 % 4) + 10 * (c / 4 % 4) + c % 4 := by
  have h := fg_i m c 8 (Nat.le_refl 8)
  rw [← pop_cn, Nat.sub_self, Nat.pow_zero, Nat.mul_one] at h
  rw [← (dg_3 hn hc).2, ← h]
  rfl
