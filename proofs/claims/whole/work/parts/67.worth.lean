/-! acts and looks -/
def woB (f : Nat → Int32) (i : Nat) : Bool := decide (f i < -99) || decide ((99 : Int32) < f i)
def fwN (f : Nat → Int32) (n : Nat) : Nat := if n = 0 then 5 else if n % 2 = 0 then (if anyB (woB f) n = true then 3 else 0) else 5
theorem fw_cg {f g : Nat → Int32} {n : Nat} (h : ∀ i, i < n → f i = g i) : fwN f n = fwN g n := by
  unfold fwN
  rw [anyB_cg (p := woB f) (q := woB g) (fun i hi => by unfold woB; rw [h i hi])]
theorem c_139 {s : SS} {j n : Nat} (hj : j < 6) (hn : n ≤ 40) (h : s.1 5 0 j = nI n) : ev 139 0 [some (.inr (.inr (0, 0))), some (.inl (nI j)), none, none] [] s = some (some (.inl (nI (fwN (s.1 7 j) n))), s) := by
  have sz : ev 11 0 [some (.inr (.inr (1, 0))), some (.inl (nI j))] [] s = some (some (.inl (nI n)), s) := by
    rw [c_11_1, hasR_y hj hn h, if_pos rfl, cl_nI (by omega), h]
  rw [q_139, c_10_1, hasR_y hj hn h, cI_s, ite_bI, if_pos rfl, sz, cI_s, sz, cI_s, if_neg ne2, md2 n (by omega)]
  have z2 : (nI (n % 2) = 0) = (n % 2 = 0) := z_eq (by omega)
  have z0 : (nI n = 0) = (n = 0) := z_eq (by omega)
  simp only [z2, z0]
  unfold fwN
  by_cases e0 : n = 0
  · rw [if_pos e0, if_pos e0]
    rfl
  · rw [if_neg e0, if_neg e0]
    by_cases e : n % 2 = 0
    · rw [if_pos e, if_pos e]
      have hl := lpE (P := fun i => ev 139 41 [some (.inr (.inr (0, 0))), some (.inl (nI j)), some (.inl (nI i)), none] [] s) (c := woB (s.1 7 j)) (out := fun _ => some (some (.inl 3), s)) n (fun i hi => by
        show ev 139 41 [some (.inr (.inr (0, 0))), some (.inl (nI j)), some (.inl (nI i)), none] [] s = _
        rw [q_139_at41, sz, cI_s, if_pos (nI_lt hi (by omega)), plR_y hj hn h hi, cI_s, nI_s]
        unfold woB
        by_cases a1 : s.1 7 j i < -99 <;> by_cases a2 : 99 < s.1 7 j i <;> simp [a1, a2])
      rcases hl with ⟨i, hi, hc, -, e⟩ | ⟨hc, e⟩
      · rw [anyB_t hi hc, if_pos rfl]
        exact e
      · rw [anyB_f hc, if_neg (by decide)]
        refine Eq.trans (show ev 139 41 [some (.inr (.inr (0, 0))), some (.inl (nI j)), some (.inl (nI 0)), none] [] s = ev 139 41 [some (.inr (.inr (0, 0))), some (.inl (nI j)), some (.inl (nI n)), none] [] s from e) ?_
        rw [q_139_at41, sz, cI_s, if_neg (irr _)]
        rfl
    · rw [if_neg e, if_neg e]
      rfl
theorem c_222 {t : SS} {j n : Nat} (hj : j < 6) (hn : n ≤ 40) (h : t.1 32 0 j = nI n) : ev 222 0 [some (.inr (.inr (30, 0))), some (.inl (nI j)), none, none] [] t = if fwN (fun i => t.1 33 0 (40 * j + i)) n = 0 then some (some (.inl 0), t) else some (some (.inl (-3)), fR t (fwN (fun i => t.1 33 0 (40 * j + i)) n)) := by
  have x6 : ixB (nI j) 6 = true := ixB_nI hj (by decide)
  rw [q_222, if_pos x6, cl_nI (by omega), h, if_neg (nI_pos (by omega)), if_pos x6, if_pos x6, if_neg ne2, md2 n (by omega), c_145_5, cI_s]
  have z2 : (nI (n % 2) = 0) = (n % 2 = 0) := z_eq (by omega)
  have z0 : (nI n = 0) = (n = 0) := z_eq (by omega)
  simp only [z2, z0]
  unfold fwN
  by_cases e0 : n = 0
  · rw [if_pos e0, if_pos e0]
    rfl
  · rw [if_neg e0, if_neg e0]
    by_cases e : n % 2 = 0
    · rw [if_pos e, if_pos e]
      generalize hf : (fun i => t.1 33 0 (40 * j + i)) = f
      have hf' : ∀ i, t.1 33 0 (40 * j + i) = f i := fun i => by rw [← hf]
      have hl := lpN (P := fun i => ev 222 45 [some (.inr (.inr (30, 0))), some (.inl (nI j)), some (.inl (bI (!anyB (woB f) i))), some (.inl (nI i))] [] t) n (fun i hi => by
        show ev 222 45 [some (.inr (.inr (30, 0))), some (.inl (nI j)), some (.inl (bI (!anyB (woB f) i))), some (.inl (nI i))] [] t = ev 222 45 [some (.inr (.inr (30, 0))), some (.inl (nI j)), some (.inl (bI (!(anyB (woB f) i || woB f i)))), some (.inl (nI (i + 1)))] [] t
        rw [q_222_at45, if_pos x6, cl_nI (by omega), h, if_pos (nI_lt hi (by omega)), ite_bI, nI_s]
        cases ha : anyB (woB f) i with
        | true => rfl
        | false =>
          rw [if_pos (show (!false) = true from rfl), c_154 hj (by omega), cI_s, hf', c_144, cI_s, ite_bI, Bool.false_or]
          have : (!(decide (f i < -99)) && !(decide ((99 : Int32) < f i))) = !(woB f i) := by
            unfold woB
            rw [Bool.not_or]
          rw [this]
          cases woB f i <;> rfl)
      refine Eq.trans (show ev 222 45 [some (.inr (.inr (30, 0))), some (.inl (nI j)), some (.inl (bI (!anyB (woB f) 0))), some (.inl (nI 0))] [] t = _ from hl) ?_
      rw [q_222_at45, if_pos x6, cl_nI (by omega), h, if_neg (irr _), ite_bI, c_145_3, cI_s]
      cases anyB (woB f) n <;> rfl
    · rw [if_neg e, if_neg e]
      rfl
/-! the worth of an act -/
def wvL (f : Nat → Int32) (a b : Int64) (i : Nat) : Int64 := (f (2 * i)).toInt64 * a + (f (2 * i + 1)).toInt64 * b
def bA (f : Nat → Int32) (a b : Int64) : Nat → Nat
  | 0 => 0
  | n + 1 => if n ≠ 0 ∧ wvL f a b (bA f a b n) < wvL f a b n then n else bA f a b n
theorem bA_lt (f : Nat → Int32) (a b : Int64) : ∀ n, 0 < n → bA f a b n < n
  | 0, h => absurd h (Nat.lt_irrefl 0)
  | n + 1, _ => by
    unfold bA
    split
    · omega
    · by_cases e : n = 0
      · subst e
        exact Nat.one_pos
      · have := bA_lt f a b n (by omega)
        omega
theorem bA_cg {f g : Nat → Int32} {a b : Int64} : ∀ {n : Nat}, (∀ i, i < 2 * n → f i = g i) → bA f a b n = bA g a b n
  | 0, _ => rfl
  | n + 1, h => by
    have ih := bA_cg (f := f) (g := g) (a := a) (b := b) (n := n) (fun i hi => h i (by omega))
    unfold bA
    by_cases e : n = 0
    · rw [if_neg (fun z => z.1 e), if_neg (fun z => z.1 e), ih]
    · have hl := bA_lt g a b n (by omega)
      have e1 : wvL f a b n = wvL g a b n := by
        unfold wvL
        rw [h _ (by omega), h _ (by omega)]
      have e2 : wvL f a b (bA g a b n) = wvL g a b (bA g a b n) := by
        unfold wvL
        rw [h _ (by omega), h _ (by omega)]
      rw [ih, e1, e2]
theorem dv2 : ∀ n, n < 41 → nI n / 2 = nI (n / 2) := by decide
theorem c_141 {s : SS} {j n i : Nat} (hj : j < 6) (hn : n ≤ 40) (h : s.1 5 0 j = nI n) (hi : 2 * i + 1 < n) (a b : Int64) : ev 141 0 [some (.inr (.inr (0, 0))), some (.inl (nI j)), some (.inl (nI i)), some (.inr (.inl a)), none, some (.inr (.inl b)), none] [] s = some (some (.inr (.inl (wvL (s.1 7 j) a b i))), s) := by
  rw [q_141, n_mulL, plR_y hj hn h (by omega), cI_s, nI_s, plR_y hj hn h hi, cI_s]
  rfl
theorem c_142 {s : SS} {j m : Nat} (hj : j < 6) (hm : 1 ≤ m) (hn : 2 * m ≤ 40) (h : s.1 5 0 j = nI (2 * m)) (a b : Int64) : ev 142 0 [some (.inr (.inr (0, 0))), some (.inl (nI j)), some (.inr (.inl a)), none, some (.inr (.inl b)), none, none, none] [] s = some (some (.inl (nI (bA (s.1 7 j) a b m))), s) := by
  have sz : ev 11 0 [some (.inr (.inr (1, 0))), some (.inl (nI j))] [] s = some (some (.inl (nI (2 * m))), s) := by
    rw [c_11_1, hasR_y hj hn h, if_pos rfl, cl_nI (by omega), h]
  have hl := lpN (P := fun i => ev 142 6 [some (.inr (.inr (0, 0))), some (.inl (nI j)), some (.inr (.inl a)), none, some (.inr (.inl b)), none, some (.inl (nI (bA (s.1 7 j) a b (i + 1)))), some (.inl (nI (i + 1)))] [] s) (m - 1) (fun i hi => by
    show ev 142 6 [some (.inr (.inr (0, 0))), some (.inl (nI j)), some (.inr (.inl a)), none, some (.inr (.inl b)), none, some (.inl (nI (bA (s.1 7 j) a b (i + 1)))), some (.inl (nI (i + 1)))] [] s = ev 142 6 [some (.inr (.inr (0, 0))), some (.inl (nI j)), some (.inr (.inl a)), none, some (.inr (.inl b)), none, some (.inl (nI (if i + 1 ≠ 0 ∧ wvL (s.1 7 j) a b (bA (s.1 7 j) a b (i + 1)) < wvL (s.1 7 j) a b (i + 1) then i + 1 else bA (s.1 7 j) a b (i + 1)))), some (.inl (nI (i + 1 + 1)))] [] s
    have hb := bA_lt (s.1 7 j) a b (i + 1) (by omega)
    rw [q_142_at6, sz, cI_s, if_neg ne2, dv2 _ (by omega), if_pos (nI_lt (show i + 1 < 2 * m / 2 by omega) (by omega)), c_141 hj hn h (by omega), cL_s, c_141 hj hn h (by omega), cL_s, nI_s]
    simp only [lg_gt]
    by_cases e : wvL (s.1 7 j) a b (bA (s.1 7 j) a b (i + 1)) < wvL (s.1 7 j) a b (i + 1)
    · rw [if_pos e, if_pos ⟨by omega, e⟩]
    · rw [if_neg e, if_neg (fun z => e z.2)])
  rw [q_142]
  refine (show ev 142 6 [some (.inr (.inr (0, 0))), some (.inl (nI j)), some (.inr (.inl a)), none, some (.inr (.inl b)), none, some (.inl (nI (bA (s.1 7 j) a b (0 + 1)))), some (.inl (nI (0 + 1)))] [] s = _ from hl).trans ?_
  show ev 142 6 [some (.inr (.inr (0, 0))), some (.inl (nI j)), some (.inr (.inl a)), none, some (.inr (.inl b)), none, some (.inl (nI (bA (s.1 7 j) a b (m - 1 + 1)))), some (.inl (nI (m - 1 + 1)))] [] s = _
  rw [q_142_at6, sz, cI_s, if_neg ne2, dv2 _ (by omega), if_neg (by rw [n_lt (by omega) (by omega)]; omega), show m - 1 + 1 = m by omega]
def F35 (v u : SS) : Prop := (∀ a b c, (a = 30 → c ≠ 35) → u.1 a b c = v.1 a b c) ∧ u.2 = v.2
theorem F35_w {v : SS} {x : Int32} : F35 v (wI v 30 0 35 x) := ⟨fun a b c h => by rw [wI_1, if_neg (fun z => h z.1 z.2.2)], rfl⟩
theorem F35_tr {s t u : SS} (h1 : F35 s t) (h2 : F35 t u) : F35 s u := ⟨fun a b c h => (h2.1 a b c h).trans (h1.1 a b c h), h2.2.trans h1.2⟩
theorem F35_RS {s u : SS} (h : F35 s u) : RS s u := ⟨fun a b c _ _ _ w => h.1 a b c (fun e => by have := w e; omega), by rw [h.2], fun a b c _ _ => by rw [h.2]⟩
theorem c_223 {v : SS} {j m : Nat} (hj : j < 6) (hm : 1 ≤ m) (hn : 2 * m ≤ 40) (h : v.1 32 0 j = nI (2 * m)) (a b : Int64) : ∃ u, ev 223 0 [some (.inr (.inr (30, 0))), some (.inl (nI j)), some (.inr (.inl a)), none, some (.inr (.inl b)), none, none, none, none, none, none] [] v = some (some (.inr (.inl (wvL (fun i => v.1 33 0 (40 * j + i)) a b (bA (fun i => v.1 33 0 (40 * j + i)) a b m)))), u) ∧ F35 v u ∧ u.1 30 0 35 = nI (bA (fun i => v.1 33 0 (40 * j + i)) a b m) := by
  have x6 : ixB (nI j) 6 = true := ixB_nI hj (by decide)
  generalize hf : (fun i => v.1 33 0 (40 * j + i)) = f
  have hf' : ∀ i, v.1 33 0 (40 * j + i) = f i := fun i => by rw [← hf]
  have hl := lpX (σ := SS × Int64) (fun i p => ev 223 12 [some (.inr (.inr (30, 0))), some (.inl (nI j)), some (.inr (.inl a)), none, some (.inr (.inl b)), none, some (.inr (.inl p.2)), none, some (.inl (nI (2 * i))), none, none] [] p.1) (fun i p => F35 v p.1 ∧ (i = 0 → p.1.1 30 0 35 = -9) ∧ (i ≠ 0 → p.1.1 30 0 35 = nI (bA f a b i) ∧ p.2 = wvL f a b (bA f a b i))) m (fun i p hi hp => by
    obtain ⟨u, x⟩ := p
    obtain ⟨o, g0, g1⟩ := hp
    simp only at o g0 g1
    have e32 : u.1 32 0 j = nI (2 * m) := (o.1 32 0 j (fun z => absurd z (by decide))).trans h
    have e33 : ∀ i, u.1 33 0 (40 * j + i) = f i := fun i => (o.1 33 0 _ (fun z => absurd z (by decide))).trans (hf' i)
    have ew : (a * (f (2 * i)).toInt64) + (b * (f (2 * i + 1)).toInt64) = wvL f a b i := by
      unfold wvL
      rw [Int64.mul_comm a, Int64.mul_comm b]
    have go : ev 223 12 [some (.inr (.inr (30, 0))), some (.inl (nI j)), some (.inr (.inl a)), none, some (.inr (.inl b)), none, some (.inr (.inl x)), none, some (.inl (nI (2 * i))), none, none] [] u = (if u.1 30 0 35 < 0 then ev 223 12 [some (.inr (.inr (30, 0))), some (.inl (nI j)), some (.inr (.inl a)), none, some (.inr (.inl b)), none, some (.inr (.inl (wvL f a b i))), none, some (.inl (nI (2 * (i + 1)))), none, none] [] (wI u 30 0 35 (nI i)) else (if x < wvL f a b i then ev 223 12 [some (.inr (.inr (30, 0))), some (.inl (nI j)), some (.inr (.inl a)), none, some (.inr (.inl b)), none, some (.inr (.inl (wvL f a b i))), none, some (.inl (nI (2 * (i + 1)))), none, none] [] (wI u 30 0 35 (nI i)) else ev 223 12 [some (.inr (.inr (30, 0))), some (.inl (nI j)), some (.inr (.inl a)), none, some (.inr (.inl b)), none, some (.inr (.inl x)), none, some (.inl (nI (2 * (i + 1)))), none, none] [] u)) := by
      rw [q_223_at12, if_pos x6, cl_nI (by omega), e32, if_pos (nI_lt (show 2 * i < 2 * m by omega) (by omega)), c_154 hj (by omega), cI_s, nI_s, c_154 hj (by omega), cI_s, if_neg ne2, dv2 _ (by omega), show 2 * i / 2 = i by omega, e33, e33, ew, show nI (2 * i) + 2 = nI (2 * (i + 1)) from nI_add (2 * i) 2]
      simp only [lg_gt]
    by_cases e : i = 0
    · refine ⟨(wI u 30 0 35 (nI i), wvL f a b i), ?_, F35_tr o F35_w, fun z => absurd z (by omega), fun _ => ?_⟩
      · show ev 223 12 [some (.inr (.inr (30, 0))), some (.inl (nI j)), some (.inr (.inl a)), none, some (.inr (.inl b)), none, some (.inr (.inl x)), none, some (.inl (nI (2 * i))), none, none] [] u = _
        rw [go, if_pos (by rw [g0 e]; decide)]
      · have : bA f a b (i + 1) = i := by
          unfold bA
          rw [if_neg (fun z => z.1 e), e]
          rfl
        rw [this]
        exact ⟨rfl, rfl⟩
    · obtain ⟨k1, k2⟩ := g1 e
      have hb := bA_lt f a b i (by omega)
      by_cases q : wvL f a b (bA f a b i) < wvL f a b i
      · refine ⟨(wI u 30 0 35 (nI i), wvL f a b i), ?_, F35_tr o F35_w, fun z => absurd z (by omega), fun _ => ?_⟩
        · show ev 223 12 [some (.inr (.inr (30, 0))), some (.inl (nI j)), some (.inr (.inl a)), none, some (.inr (.inl b)), none, some (.inr (.inl x)), none, some (.inl (nI (2 * i))), none, none] [] u = _
          rw [go, if_neg (by rw [k1]; exact nI_pos (by omega)), if_pos (by rw [k2]; exact q)]
        · have : bA f a b (i + 1) = i := by
            show (if i ≠ 0 ∧ wvL f a b (bA f a b i) < wvL f a b i then i else bA f a b i) = i
            rw [if_pos ⟨e, q⟩]
          rw [this]
          exact ⟨rfl, rfl⟩
      · refine ⟨(u, x), ?_, o, fun z => absurd z (by omega), fun _ => ?_⟩
        · show ev 223 12 [some (.inr (.inr (30, 0))), some (.inl (nI j)), some (.inr (.inl a)), none, some (.inr (.inl b)), none, some (.inr (.inl x)), none, some (.inl (nI (2 * i))), none, none] [] u = _
          rw [go, if_neg (by rw [k1]; exact nI_pos (by omega)), if_neg (by rw [k2]; exact q)]
        · have : bA f a b (i + 1) = bA f a b i := by
            show (if i ≠ 0 ∧ wvL f a b (bA f a b i) < wvL f a b i then i else bA f a b i) = bA f a b i
            rw [if_neg (fun z => q z.2)]
          rw [this]
          exact ⟨k1, k2⟩) (wI v 30 0 35 (-9), 0) ⟨F35_w, fun _ => rfl, fun z => absurd rfl z⟩
  obtain ⟨⟨u, x⟩, e, o, -, g1⟩ := hl
  obtain ⟨k1, k2⟩ := g1 (by omega)
  refine ⟨u, ?_, o, k1⟩
  have e32 : u.1 32 0 j = nI (2 * m) := (o.1 32 0 j (fun z => absurd z (by decide))).trans h
  rw [q_223]
  refine (show ev 223 12 [some (.inr (.inr (30, 0))), some (.inl (nI j)), some (.inr (.inl a)), none, some (.inr (.inl b)), none, some (.inr (.inl 0)), none, some (.inl (nI (2 * 0))), none, none] [] (wI v 30 0 35 (-9)) = _ from e).trans ?_
  show ev 223 12 [some (.inr (.inr (30, 0))), some (.inl (nI j)), some (.inr (.inl a)), none, some (.inr (.inl b)), none, some (.inr (.inl x)), none, some (.inl (nI (2 * m))), none, none] [] u = _
  rw [q_223_at12, if_pos x6, cl_nI (by omega), e32, if_neg (irr _), show x = _ from k2]
/-! sizes of longs -/
def bdL (p : Int64) (K : Nat) : Prop := -(K : Int) ≤ p.toInt ∧ p.toInt ≤ (K : Int)
theorem bd_n {a K : Nat} (h : a ≤ K) (hK : K < 9223372036854775808) : bdL (lN a) K := by
  unfold bdL
  rw [lT (by omega)]
  omega
theorem bd_add {p q : Int64} {K L : Nat} (hp : bdL p K) (hq : bdL q L) (h : K + L < 9223372036854775808) : bdL (p + q) (K + L) := by
  unfold bdL at hp hq ⊢
  rw [Int64.toInt_add, Int.bmod_eq_of_le (by omega) (by omega)]
  omega
theorem bd_sub {p q : Int64} {K L : Nat} (hp : bdL p K) (hq : bdL q L) (h : K + L < 9223372036854775808) : bdL (p - q) (K + L) := by
  unfold bdL at hp hq ⊢
  rw [Int64.toInt_sub, Int.bmod_eq_of_le (by omega) (by omega)]
  omega
theorem bd_32 {x : Int32} {p : Int64} {L : Nat} (h1 : ¬ x < -99) (h2 : ¬ (99 : Int32) < x) (hp : bdL p L) (h : 99 * L < 9223372036854775808) : bdL (x.toInt64 * p) (99 * L) := by
  unfold bdL at hp ⊢
  rw [lt_iff] at h1 h2
  have t1 : (-99 : Int32).toInt = -99 := rfl
  have t2 : (99 : Int32).toInt = 99 := rfl
  rw [t1] at h1
  rw [t2] at h2
  have a1 : x.toInt * p.toInt ≤ 99 * L ∧ -(99 * L : Int) ≤ x.toInt * p.toInt := by
    have hx : x.toInt.natAbs ≤ 99 := by omega
    have hq : p.toInt.natAbs ≤ L := by omega
    have hm : (x.toInt * p.toInt).natAbs ≤ 99 * L := by
      rw [Int.natAbs_mul]
      exact Nat.mul_le_mul hx hq
    omega
  rw [Int64.toInt_mul, Int32.toInt_toInt64, Int.bmod_eq_of_le (by omega) (by omega)]
  omega
theorem wo_f {f : Nat → Int32} {n i : Nat} (h : anyB (woB f) n = false) (hi : i < n) : ¬ f i < -99 ∧ ¬ (99 : Int32) < f i := by
  cases hx : woB f i with
  | true =>
    have := anyB_t hi hx
    rw [h] at this
    exact absurd this (by decide)
  | false =>
    unfold woB at hx
    rw [Bool.or_eq_false_iff] at hx
    exact ⟨of_decide_eq_false hx.1, of_decide_eq_false hx.2⟩
theorem bd_wv {f : Nat → Int32} {n i : Nat} {a b : Int64} {K L : Nat} (h : anyB (woB f) n = false) (hi : 2 * i + 1 < n) (ha : bdL a K) (hb : bdL b L) (hK : K ≤ 4294967296) (hL : L ≤ 4294967296) : bdL (wvL f a b i) (99 * K + 99 * L) := by
  have h1 := wo_f h (show 2 * i < n by omega)
  have h2 := wo_f h hi
  exact bd_add (bd_32 h1.1 h1.2 ha (by omega)) (bd_32 h2.1 h2.2 hb (by omega)) (by omega)
theorem aL_bd {p : Int64} {K : Nat} (h : bdL p K) (hK : K < 9223372036854775808) : aL p p.toInt.natAbs := by
  unfold bdL at h
  refine ⟨?_, by omega⟩
  have hn : (-lN p.toInt.natAbs).toInt = -(p.toInt.natAbs : Int) := by
    rw [Int64.toInt_neg, lT (by omega), Int.bmod_eq_of_le] <;> omega
  by_cases e : 0 ≤ p.toInt
  · left
    rw [l_eq, lT (by omega)]
    omega
  · right
    rw [l_eq, hn]
    omega
