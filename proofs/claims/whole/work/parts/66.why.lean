/-! why -/
theorem lpXE {σ : Type} (P : Nat → σ → RE) (I : σ → Prop) (c : Nat → Bool) (out : Nat → σ → RE) : ∀ (N : Nat), (∀ i u, i < N → I u → ∃ u', I u' ∧ P i u = if c i = true then out i u' else P (i + 1) u') → ∀ u, I u → ∃ u', I u' ∧ P 0 u = if anyB c N = true then out (fst1 c N) u' else P N u'
  | 0, _, u, hu => ⟨u, hu, rfl⟩
  | N + 1, h, u, hu => by
    obtain ⟨u', hu', e⟩ := lpXE P I c out N (fun i u hi => h i u (by omega)) u hu
    unfold fst1
    by_cases ha : anyB c N = true
    · refine ⟨u', hu', ?_⟩
      rw [if_pos ha] at e
      rw [if_pos ha, if_pos (show anyB c (N + 1) = true by
        show (anyB c N || c N) = true
        rw [ha]
        rfl)]
      exact e
    · rw [if_neg ha] at e
      obtain ⟨u2, hu2, e2⟩ := h N u' (by omega) hu'
      refine ⟨u2, hu2, ?_⟩
      rw [if_neg ha, e, e2]
      have : anyB c (N + 1) = c N := by
        show (anyB c N || c N) = c N
        rw [hb_f ha, Bool.false_or]
      rw [this]
def bitC (p0 : Int32) : Int32 := (fun i5 : Int32 => i5 &&& 63) ((fun i4 : Int32 => i4 + (i4.toUInt32 >>> ((16 : Int32).toUInt32 &&& Int32.toUInt32 31)).toInt32) ((fun i3 : Int32 => i3 + (i3.toUInt32 >>> ((8 : Int32).toUInt32 &&& Int32.toUInt32 31)).toInt32) ((fun i2 : Int32 => (i2 + (i2.toUInt32 >>> ((4 : Int32).toUInt32 &&& Int32.toUInt32 31)).toInt32) &&& 252645135) ((fun i1 : Int32 => (i1 &&& 858993459) + ((i1.toUInt32 >>> ((2 : Int32).toUInt32 &&& Int32.toUInt32 31)).toInt32 &&& 858993459)) (p0 - ((p0.toUInt32 >>> ((1 : Int32).toUInt32 &&& Int32.toUInt32 31)).toInt32 &&& 1431655765))))))
def popN (m : Nat) : Nat := cn (fun k => m.testBit k) 8
set_option maxRecDepth 100000 in
theorem bitC_n : ∀ m, m < 256 → bitC (nI m) = nI (popN m) := by decide
theorem c_1 {m : Nat} (hm : m < 256) (s : SS) : ev 1 0 [some (.inl (nI m))] [] s = some (some (.inl (nI (popN m))), s) := by
  rw [← bitC_n m hm]
  exact q_1 (nI m) s
theorem c_148 {m : Nat} (hm : m < 256) (s : SS) : ev 148 0 [some (.inl (nI m)), none, none] [] s = some (some (.inl (nI (popN m))), s) := by
  have h := lpN (P := fun i => ev 148 4 [some (.inl (nI m)), some (.inl (nI (cn (fun k => m.testBit k) i))), some (.inl (nI i))] [] s) 8 (fun i hi => by
    show ev 148 4 [some (.inl (nI m)), some (.inl (nI (cn (fun k => m.testBit k) i))), some (.inl (nI i))] [] s = ev 148 4 [some (.inl (nI m)), some (.inl (nI (cn (fun k => m.testBit k) i + (if m.testBit i = true then 1 else 0)))), some (.inl (nI (i + 1)))] [] s
    have e : (if m.testBit i = true then 1 else 0) = m / 2 ^ i % 2 := by
      rw [tbit]
      by_cases h : m / 2 ^ i % 2 = 1
      · rw [decide_eq_true h, if_pos rfl, h]
      · rw [decide_eq_false h, if_neg (by decide)]
        omega
    rw [q_148_at4, if_pos (show nI i < (8 : Int32) from nI_lt hi (by decide)), bit_n (by omega) (by omega), n_add, nI_s, e])
  rw [q_148]
  refine (show ev 148 4 [some (.inl (nI m)), some (.inl (nI 0)), some (.inl (nI 0))] [] s = _ from h).trans ?_
  rw [q_148_at4, if_neg (show ¬ nI 8 < (8 : Int32) from irr (nI 8))]
  rfl
/-- a law is there -/
def prB (s : SS) (k : Nat) : Bool := !decide (s.1 42 0 k < 0)
def thB (s : SS) (m : Nat) : Bool := !anyB (fun k => m.testBit k && !prB s k) 8
theorem SP_pr {s t : SS} (h : SP s t) : prB t = prB s := by
  funext k
  unfold prB
  rw [(h.1.1 42 (by decide)).1]
theorem pr_1 {s : SS} (hL : JL s) {k : Nat} (hk : k < 8) : (s.1 13 (s.2.2 k) 0 = 0) = (prB s k = false) := by
  apply propext
  unfold prB
  rcases LJ_h (hL.2.2 k hk) with ⟨a1, a2⟩ | ⟨a1, kd, np, w, f, g⟩
  · rw [a1, a2]
    simp
  · have := g.1
    rw [a1, g.2.2.2.2.2.2.1, decide_eq_false (nI_pos (by omega))]
    simp
theorem c_124 {s : SS} (hL : JL s) {m : Nat} (hm : m < 256) : ev 124 0 [some (.inr (.inr (0, 0))), some (.inl (nI m)), none] [] s = some (some (.inl (bI (thB s m))), s) := by
  have h := lpE (P := fun i => ev 124 2 [some (.inr (.inr (0, 0))), some (.inl (nI m)), some (.inl (nI i))] [] s) (c := fun k => m.testBit k && !prB s k) (out := fun _ => some (some (.inl 0), s)) 8 (fun i hi => by
    show ev 124 2 [some (.inr (.inr (0, 0))), some (.inl (nI m)), some (.inl (nI i))] [] s = if (m.testBit i && !prB s i) = true then some (some (.inl 0), s) else ev 124 2 [some (.inr (.inr (0, 0))), some (.inl (nI m)), some (.inl (nI (i + 1)))] [] s
    have x8 : ixB (nI i) 8 = true := ixB_nI hi (by decide)
    rw [q_124_at2, if_pos (show nI i < (8 : Int32) from nI_lt hi (by decide)), if_pos x8, cl_nI (by omega), nI_s]
    simp only [pr_1 hL hi, bit_0 (show m < 2147483648 by omega) (show i < 32 by omega)]
    cases m.testBit i <;> cases prB s i <;> rfl)
  unfold thB
  rw [q_124]
  rcases h with ⟨i, hi, hc, -, e⟩ | ⟨hc, e⟩
  · rw [anyB_t hi hc]
    exact e
  · rw [anyB_f hc]
    refine Eq.trans (show ev 124 2 [some (.inr (.inr (0, 0))), some (.inl (nI m)), some (.inl (nI 0))] [] s = _ from e) ?_
    rw [q_124_at2, if_neg (show ¬ nI 8 < (8 : Int32) from irr (nI 8))]
    rfl
/-- without the laws of m the saying is unlikely -/
def ulB (s : SS) (k m : Nat) : Bool := !decide (allN s (aA m) < 2 * shP s (aA m) (fun v => soB s k v))
theorem ul_c {s : SS} (hS : JS s) (k m : Nat) : (0 < lg_cmp (2 * lN (shP s (aA m) (fun v => soB s k v))) (lN (allN s (aA m)))) = (ulB s k m = false) := by
  have b1 := all_le hS (A := aA m)
  have c1 := shP_le hS (A := aA m) (P := fun v => soB s k v)
  have e : 2 * lN (shP s (aA m) (fun v => soB s k v)) = lN (2 * shP s (aA m) (fun v => soB s k v)) := lN_mul 2 _
  apply propext
  unfold ulB
  rw [e, lg_gt, l_lt, lT (by omega), lT (by omega)]
  by_cases h : allN s (aA m) < 2 * shP s (aA m) (fun v => soB s k v)
  · rw [decide_eq_true h]
    simp
    omega
  · rw [decide_eq_false h]
    simp
    omega
theorem c_129 {s u : SS} (hS : JS s) (q : QF s u) (h : J u) {k m : Nat} (hk : k < 28) (hm : m < 256) : ∃ u2, ev 129 0 [some (.inr (.inr (0, 0))), some (.inl (nI m)), some (.inl (nI k))] [] u = some (some (.inl (bI (ulB s k m))), u2) ∧ QF s u2 ∧ J u2 := by
  obtain ⟨u2, e, sv⟩ := c_126s q h hm
  refine ⟨u2, ?_, sv.1, sv.2.1⟩
  rw [q_129, e, cV_s, shl1 k (by omega), c_56_1 hS sv hk, cL_s, sv.2.2.2.2.2.2.2.1]
  simp only [ul_c hS]
  cases ulB s k m <;> rfl
def whB (s : SS) (k z m : Nat) : Bool := popN m == z && (thB s m && ulB s k m)
theorem pop_le (m : Nat) : popN m ≤ 8 := by
  unfold popN
  have : ∀ n, cn (fun k => m.testBit k) n ≤ n := by
    intro n
    induction n with
    | zero => exact Nat.le_refl _
    | succ n ih =>
      show cn (fun k => m.testBit k) n + _ ≤ n + 1
      split <;> omega
  exact this 8
theorem c_87l {s u : SS} (hS : JS s) (q : QF s u) (h : J u) {k : Nat} (hk : k < 28) : ∃ u2, (QF s u2 ∧ J u2) ∧ ev 87 32 [some (.inr (.inr (0, 0))), some (.inl (nI k)), some (.inl 0), none] [] u = if anyB (fun z => anyB (whB s k z) 256) 9 = true then some (some (.inl (nI (fst1 (whB s k (fst1 (fun z => anyB (whB s k z) 256) 9)) 256))), u2) else some (some (.inl (-9)), u2) := by
  have inner : ∀ z, z < 9 → ∀ u, (QF s u ∧ J u) → ∃ u2, (QF s u2 ∧ J u2) ∧ ev 87 40 [some (.inr (.inr (0, 0))), some (.inl (nI k)), some (.inl (nI z)), some (.inl 0)] [] u = if anyB (whB s k z) 256 = true then some (some (.inl (nI (fst1 (whB s k z) 256))), u2) else ev 87 32 [some (.inr (.inr (0, 0))), some (.inl (nI k)), some (.inl (nI (z + 1))), none] [] u2 := by
    intro z hz u hu
    obtain ⟨u2, h2, e⟩ := lpXE (fun i u => ev 87 40 [some (.inr (.inr (0, 0))), some (.inl (nI k)), some (.inl (nI z)), some (.inl (nI i))] [] u) (fun u => QF s u ∧ J u) (whB s k z) (fun i u => some (some (.inl (nI i)), u)) 256 (fun m u hm hu => by
      have g : ¬ (255 : Int32) < nI m := fun z => by
        have := (n_lt (a := 255) (b := m) (by decide) (by omega)).mp z
        omega
      have hth : thB u m = thB s m := by
        unfold thB
        rw [SP_pr (QF_SP hu.1)]
      have hp8 := pop_le m
      by_cases hp : popN m = z
      · have go : ev 87 40 [some (.inr (.inr (0, 0))), some (.inl (nI k)), some (.inl (nI z)), some (.inl (nI m))] [] u = (if thB s m = true then cI (ev 129 0 [some (.inr (.inr (0, 0))), some (.inl (nI m)), some (.inl (nI k))] [] u) (fun x3 s3 => (if x3 = 0 then ev 87 40 [some (.inr (.inr (0, 0))), some (.inl (nI k)), some (.inl (nI z)), some (.inl ((nI m + 1)))] [] s3 else some (some (.inl (nI m)), s3))) else ev 87 40 [some (.inr (.inr (0, 0))), some (.inl (nI k)), some (.inl (nI z)), some (.inl (nI (m + 1)))] [] u) := by
          rw [q_87_at40, if_neg g, c_1 hm, cI_s, if_pos (by rw [hp]), c_124 hu.2.2.2.2.2.1 hm, cI_s, ite_bI, hth, nI_s]
        by_cases ht : thB s m = true
        · obtain ⟨u3, e3, h3⟩ := c_129 hS hu.1 hu.2 hk hm
          refine ⟨u3, h3, ?_⟩
          show ev 87 40 [some (.inr (.inr (0, 0))), some (.inl (nI k)), some (.inl (nI z)), some (.inl (nI m))] [] u = _
          rw [go, if_pos ht, e3, cI_s, ite_bI, nI_s]
          unfold whB
          rw [hp, ht]
          simp
        · refine ⟨u, hu, ?_⟩
          show ev 87 40 [some (.inr (.inr (0, 0))), some (.inl (nI k)), some (.inl (nI z)), some (.inl (nI m))] [] u = _
          rw [go, if_neg ht, if_neg]
          unfold whB
          rw [hb_f ht]
          simp
      · refine ⟨u, hu, ?_⟩
        show ev 87 40 [some (.inr (.inr (0, 0))), some (.inl (nI k)), some (.inl (nI z)), some (.inl (nI m))] [] u = _
        have e : whB s k z m = false := by
          unfold whB
          rw [beq_false_of_ne hp]
          rfl
        rw [q_87_at40, if_neg g, c_1 hm, cI_s, if_neg (by rw [n_eq (by omega) (by omega)]; exact hp), e, if_neg (by decide), nI_s]) u hu
    refine ⟨u2, h2, (show ev 87 40 [some (.inr (.inr (0, 0))), some (.inl (nI k)), some (.inl (nI z)), some (.inl (nI 0))] [] u = _ from e).trans ?_⟩
    have x : ev 87 40 [some (.inr (.inr (0, 0))), some (.inl (nI k)), some (.inl (nI z)), some (.inl (nI 256))] [] u2 = ev 87 32 [some (.inr (.inr (0, 0))), some (.inl (nI k)), some (.inl (nI (z + 1))), none] [] u2 := by
      rw [q_87_at40, if_pos (by decide), nI_s]
    rw [x]
  obtain ⟨u2, h2, e⟩ := lpXE (fun z u => ev 87 32 [some (.inr (.inr (0, 0))), some (.inl (nI k)), some (.inl (nI z)), none] [] u) (fun u => QF s u ∧ J u) (fun z => anyB (whB s k z) 256) (fun z u => some (some (.inl (nI (fst1 (whB s k z) 256))), u)) 9 (fun z u hz hu => by
    obtain ⟨u2, h2, e⟩ := inner z hz u hu
    refine ⟨u2, h2, ?_⟩
    show ev 87 32 [some (.inr (.inr (0, 0))), some (.inl (nI k)), some (.inl (nI z)), none] [] u = _
    rw [q_87_at32, if_neg (fun y => by
      have := (n_lt (a := 8) (b := z) (by decide) (by omega)).mp y
      omega)]
    exact e) u ⟨q, h⟩
  refine ⟨u2, h2, (show ev 87 32 [some (.inr (.inr (0, 0))), some (.inl (nI k)), some (.inl (nI 0)), none] [] u = _ from e).trans ?_⟩
  have x : ev 87 32 [some (.inr (.inr (0, 0))), some (.inl (nI k)), some (.inl (nI 9)), none] [] u2 = some (some (.inl (-9)), u2) := by
    rw [q_87_at32, if_pos (by decide)]
  rw [x]
def PM (s : SS) (i : Nat) (x : Int32) : Prop := ∀ b, b < 32 → tb x b = (decide (b < i) && prB s b)
theorem pm_or {s : SS} {x : Int32} {i : Nat} (hi : i < 8) (h : PM s i x) : PM s (i + 1) (if prB s i = true then (x ||| ((1 : Int32) <<< (nI i &&& 31))) else (x ||| 0)) := by
  intro b hb
  cases hp : prB s i with
  | true =>
    rw [if_pos rfl, tb_or, h b hb, shl1 i (by omega), tb_p (by omega)]
    by_cases e : i = b
    · subst e
      rw [hp]
      simp
    · by_cases e2 : b < i
      · rw [decide_eq_true e2, decide_eq_true (show b < i + 1 by omega), decide_eq_false e, Bool.or_false]
      · rw [decide_eq_false e2, decide_eq_false (show ¬ b < i + 1 by omega), decide_eq_false e]
        rfl
  | false =>
    rw [if_neg (by decide), tb_or, tb_0, Bool.or_false, h b hb]
    by_cases e : i = b
    · subst e
      rw [hp]
      simp
    · by_cases e2 : b < i
      · rw [decide_eq_true e2, decide_eq_true (show b < i + 1 by omega)]
      · rw [decide_eq_false e2, decide_eq_false (show ¬ b < i + 1 by omega)]
theorem tb_hi {m b : Nat} (hm : m < 256) (hb : 8 ≤ b) : m.testBit b = false := Nat.testBit_lt_two_pow (Nat.lt_of_lt_of_le (show m < 2 ^ 8 by omega) (Nat.pow_le_pow_right (by decide) hb))
theorem pm_th {s : SS} {x : Int32} (h : PM s 8 x) {m : Nat} (hm : m < 256) : (nI m &&& (x ^^^ (-1)) = 0) = (thB s m = true) := by
  apply propext
  rw [and_0]
  unfold thB
  constructor
  · intro e
    rw [Bool.not_eq_true']
    apply anyB_f
    intro k hk
    have := e k (by omega)
    rw [tb_not (by omega), h k (by omega), tb_n, decide_eq_true hk, decide_eq_true (show k < 32 by omega), Bool.true_and, Bool.true_and] at this
    exact this
  · intro e b hb
    rw [Bool.not_eq_true'] at e
    rw [tb_not hb, h b hb, tb_n, decide_eq_true hb, Bool.true_and]
    by_cases h8 : b < 8
    · rw [decide_eq_true h8, Bool.true_and]
      cases hx : (m.testBit b && !prB s b) with
      | false => rfl
      | true =>
        have := anyB_t (p := fun k => m.testBit k && !prB s k) h8 hx
        rw [this] at e
        exact absurd e (by decide)
    · rw [tb_hi hm (by omega), Bool.false_and]
theorem n255m {m : Nat} (hm : m < 256) : 255 &&& (nI m ^^^ (-1)) = nI (255 - m) := by
  apply tb_ext
  intro b hb
  have e3 : tb (255 : Int32) b = Nat.testBit 255 b := by
    have := tb_n 255 b
    rw [decide_eq_true hb, Bool.true_and] at this
    exact this
  rw [tb_and, tb_not hb, tb_n, tb_n, e3, decide_eq_true hb, Bool.true_and, Bool.true_and]
  by_cases h8 : b < 8
  · rw [m255_t m hm b h8, t255 b h8, Bool.true_and]
  · rw [t255f (by omega), Bool.false_and, tb_hi (m := 255 - m) (by omega) (by omega)]
theorem c_220l {s u v : SS} (hS : JS s) (hi : RI s u v) {x : Int32} (hx : PM s 8 x) {k : Nat} (hk : k < 28) : ∃ v2, RI s u v2 ∧ ev 220 59 [some (.inr (.inr (30, 0))), some (.inl (nI k)), some (.inl x), some (.inl 0), none] [] v = if anyB (fun z => anyB (whB s k z) 256) 9 = true then some (some (.inl (nI (fst1 (whB s k (fst1 (fun z => anyB (whB s k z) 256) 9)) 256))), v2) else some (some (.inl (-9)), v2) := by
  have inner : ∀ z, z < 9 → ∀ v, RI s u v → ∃ v2, RI s u v2 ∧ ev 220 68 [some (.inr (.inr (30, 0))), some (.inl (nI k)), some (.inl x), some (.inl (nI z)), some (.inl 0)] [] v = if anyB (whB s k z) 256 = true then some (some (.inl (nI (fst1 (whB s k z) 256))), v2) else ev 220 59 [some (.inr (.inr (30, 0))), some (.inl (nI k)), some (.inl x), some (.inl (nI (z + 1))), none] [] v2 := by
    intro z hz v hv
    obtain ⟨u2, h2, e⟩ := lpXE (fun i v => ev 220 68 [some (.inr (.inr (30, 0))), some (.inl (nI k)), some (.inl x), some (.inl (nI z)), some (.inl (nI i))] [] v) (fun v => RI s u v) (whB s k z) (fun i v => some (some (.inl (nI i)), v)) 256 (fun m v hm hv => by
      have g : ¬ (255 : Int32) < nI m := fun z => by
        have := (n_lt (a := 255) (b := m) (by decide) (by omega)).mp z
        omega
      have hp8 := pop_le m
      by_cases hp : popN m = z
      · by_cases ht : thB s m = true
        · obtain ⟨v3, e3, h3, w3⟩ := RI_w hv hm
          refine ⟨v3, h3, ?_⟩
          show ev 220 68 [some (.inr (.inr (30, 0))), some (.inl (nI k)), some (.inl x), some (.inl (nI z)), some (.inl (nI m))] [] v = _
          have hw : whB s k z m = ulB s k m := by
            unfold whB
            rw [hp, ht]
            simp
          rw [q_220_at68, if_neg g, c_148 hm, cI_s, if_pos (by rw [hp]), if_pos (by rw [pm_th hx hm]; exact ht), n255m hm, e3, cI_s, ite_bI, RI_202 hS h3 w3 hk, cL_s, w3.2.2.2, hw, nI_s]
          simp only [ul_c hS]
          by_cases hs : (bst s (aA m) (nW s)).isSome = true
          · rw [if_pos hs]
            cases ulB s k m <;> rfl
          · rw [if_neg hs]
            have : ulB s k m = true := by
              unfold ulB
              rw [shP_0 (hb_f hs)]
              simp
            rw [this]
            rfl
        · refine ⟨v, hv, ?_⟩
          show ev 220 68 [some (.inr (.inr (30, 0))), some (.inl (nI k)), some (.inl x), some (.inl (nI z)), some (.inl (nI m))] [] v = _
          rw [q_220_at68, if_neg g, c_148 hm, cI_s, if_pos (by rw [hp]), if_neg (by rw [pm_th hx hm]; exact ht), nI_s, if_neg]
          unfold whB
          rw [hb_f ht]
          simp
      · refine ⟨v, hv, ?_⟩
        show ev 220 68 [some (.inr (.inr (30, 0))), some (.inl (nI k)), some (.inl x), some (.inl (nI z)), some (.inl (nI m))] [] v = _
        have e : whB s k z m = false := by
          unfold whB
          rw [beq_false_of_ne hp]
          rfl
        rw [q_220_at68, if_neg g, c_148 hm, cI_s, if_neg (by rw [n_eq (by omega) (by omega)]; exact hp), e, if_neg (by decide), nI_s]) v hv
    refine ⟨u2, h2, (show ev 220 68 [some (.inr (.inr (30, 0))), some (.inl (nI k)), some (.inl x), some (.inl (nI z)), some (.inl (nI 0))] [] v = _ from e).trans ?_⟩
    have x : ev 220 68 [some (.inr (.inr (30, 0))), some (.inl (nI k)), some (.inl x), some (.inl (nI z)), some (.inl (nI 256))] [] u2 = ev 220 59 [some (.inr (.inr (30, 0))), some (.inl (nI k)), some (.inl x), some (.inl (nI (z + 1))), none] [] u2 := by
      rw [q_220_at68, if_pos (by decide), nI_s]
    rw [x]
  obtain ⟨u2, h2, e⟩ := lpXE (fun z v => ev 220 59 [some (.inr (.inr (30, 0))), some (.inl (nI k)), some (.inl x), some (.inl (nI z)), none] [] v) (fun v => RI s u v) (fun z => anyB (whB s k z) 256) (fun z u => some (some (.inl (nI (fst1 (whB s k z) 256))), u)) 9 (fun z u hz hu => by
    obtain ⟨u2, h2, e⟩ := inner z hz u hu
    refine ⟨u2, h2, ?_⟩
    show ev 220 59 [some (.inr (.inr (30, 0))), some (.inl (nI k)), some (.inl x), some (.inl (nI z)), none] [] u = _
    rw [q_220_at59, if_neg (fun y => by
      have := (n_lt (a := 8) (b := z) (by decide) (by omega)).mp y
      omega)]
    exact e) v hi
  refine ⟨u2, h2, (show ev 220 59 [some (.inr (.inr (30, 0))), some (.inl (nI k)), some (.inl x), some (.inl (nI 0)), none] [] v = _ from e).trans ?_⟩
  have x : ev 220 59 [some (.inr (.inr (30, 0))), some (.inl (nI k)), some (.inl x), some (.inl (nI 9)), none] [] u2 = some (some (.inl (-9)), u2) := by
    rw [q_220_at59, if_pos (by decide)]
  rw [x]
theorem c_220p {s v : SS} (sp : SP s v) (k : Int32) : ∃ x, PM s 8 x ∧ ev 220 26 [some (.inr (.inr (30, 0))), some (.inl k), some (.inl 0), some (.inl 0), none] [] v = ev 220 59 [some (.inr (.inr (30, 0))), some (.inl k), some (.inl x), some (.inl 0), none] [] v := by
  have hl := lpX (σ := Int32) (fun i x => ev 220 26 [some (.inr (.inr (30, 0))), some (.inl k), some (.inl x), some (.inl (nI i)), none] [] v) (fun i x => PM s i x) 8 (fun i x hi hx => by
    refine ⟨_, ?_, pm_or hi hx⟩
    show ev 220 26 [some (.inr (.inr (30, 0))), some (.inl k), some (.inl x), some (.inl (nI i)), none] [] v = _
    rw [q_220_at26, if_pos (show nI i < (8 : Int32) from nI_lt hi (by decide)), if_pos (ixB_nI hi (by decide)), cl_nI (by omega), nI_s, (sp.1.1 42 (by decide)).1]
    unfold prB
    by_cases hz : s.1 42 0 i < 0
    · rw [if_pos hz, decide_eq_true hz]
      rfl
    · rw [if_neg hz, decide_eq_false hz]
      rfl) 0 (fun b hb => by rw [tb_0, decide_eq_false (Nat.not_lt_zero b)]; rfl)
  obtain ⟨x, e, hx⟩ := hl
  refine ⟨x, hx, (show ev 220 26 [some (.inr (.inr (30, 0))), some (.inl k), some (.inl 0), some (.inl (nI 0)), none] [] v = _ from e).trans ?_⟩
  rw [q_220_at26, if_neg (show ¬ nI 8 < (8 : Int32) from irr (nI 8))]
theorem pub_why {s : SS} (h : J s) (p : Int32) : PI 87 220 [some (.inr (.inr (0, 0))), some (.inl p), none, none] [some (.inr (.inr (30, 0))), some (.inl p), none, none, none] s := by
  have hS := h.2.2.2.1
  have hL := h.2.2.2.2.1
  by_cases hp : ixB p 28 = true
  · obtain ⟨k, hk, rfl⟩ := (ixB_iff (by decide)).mp hp
    obtain ⟨u, e1, sv⟩ := sv0 h
    have e50 := c_50 hS hL sv.2.2.2.2.2.1
    by_cases hs : (bst s (aA 0) (nW s)).isSome = true
    · rw [hs] at e50
      obtain ⟨u2, ⟨q2, j2⟩, e2⟩ := c_87l hS sv.1 sv.2.1 hk
      obtain ⟨v, f1, i1, w1⟩ := c_201i j2 (QF_SP q2) TK_rf
      rw [hs] at f1
      obtain ⟨x, hx, f2⟩ := c_220p i1.2.2.2.2 (nI k)
      obtain ⟨v2, i2, f3⟩ := c_220l hS i1 hx hk
      have c0 : ev 87 0 [some (.inr (.inr (0, 0))), some (.inl (nI k)), none, none] [] s = ev 87 32 [some (.inr (.inr (0, 0))), some (.inl (nI k)), some (.inl 0), none] [] u := by
        rw [q_87, c_106, hp, cI_s, ite_bI, if_pos rfl, e1, cV_s, e50, cI_s, if_pos (by rfl)]
      have r0 : ev 220 0 [some (.inr (.inr (30, 0))), some (.inl (nI k)), none, none, none] [] u2 = ev 220 59 [some (.inr (.inr (30, 0))), some (.inl (nI k)), some (.inl x), some (.inl 0), none] [] v := by
        rw [q_220, c_163, hp, cI_s, ite_bI, if_pos rfl, f1, cI_s, if_neg (by decide), f2]
      rw [e2] at c0
      rw [f3] at r0
      by_cases ha : anyB (fun z => anyB (whB s k z) 256) 9 = true
      · rw [if_pos ha] at c0 r0
        exact PS _ c0 r0 j2 i2.1 (QF_60 q2) (QF_60 q2)
      · rw [if_neg ha] at c0 r0
        exact PS _ c0 r0 j2 i2.1 (QF_60 q2) (QF_60 q2)
    · have hs' := hb_f hs
      rw [hs'] at e50
      obtain ⟨v, e2, i1, w1⟩ := c_201i sv.2.1 (QF_SP sv.1) (TK_f (f := 4))
      rw [hs'] at e2
      refine PS (-3) (u1 := fC u 4) (v := fR v 4) ?_ ?_ (J_f sv.2.1 (f := 4) (by decide)) (RS_fR i1.1 4) (fun b c => QF_60 sv.1 b c) (fun b c => QF_60 sv.1 b c)
      · rw [q_87, c_106, hp, cI_s, ite_bI, if_pos rfl, e1, cV_s, e50, cI_s, if_neg (by decide), c_100_4, cI_s]
      · rw [q_220, c_163, hp, cI_s, ite_bI, if_pos rfl, e2, cI_s, if_pos (by rfl), c_145_4, cI_s]
  · refine PI_0 h (-1) ?_ ?_
    · rw [q_87, c_106, ix_no hp, cI_s, ite_bI, if_neg (by decide)]
    · rw [q_220, c_163, ix_no hp, cI_s, ite_bI, if_neg (by decide)]
