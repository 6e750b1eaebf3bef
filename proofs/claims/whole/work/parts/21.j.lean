/-! the shelves: rows (kind 1: places 7, sizes 5) and texts (kind 2: places 8, sizes 6) -/
theorem c_9_1 (r : Int32) (s : SS) : ev 9 0 [some (.inr (.inr (1, 0))), some (.inl r)] [] s = some (some (.inl (bI (ixB r 6))), s) := by
  rw [q_9_1, rg_ix r 6 (by decide)]
  cases ixB r 6 <;> rfl
theorem c_9_2 (r : Int32) (s : SS) : ev 9 0 [some (.inr (.inr (2, 0))), some (.inl r)] [] s = some (some (.inl (bI (ixB r 4))), s) := by
  rw [q_9_2, rg_ix r 4 (by decide)]
  cases ixB r 4 <;> rfl
def hasR (s : SS) (r : Int32) : Bool := ixB r 6 && !(decide (s.1 5 0 r.toNatClampNeg = -1))
def hasT (s : SS) (r : Int32) : Bool := ixB r 4 && !(decide (s.1 6 0 r.toNatClampNeg = -1))
theorem c_10_1 (r : Int32) (s : SS) : ev 10 0 [some (.inr (.inr (1, 0))), some (.inl r)] [] s = some (some (.inl (bI (hasR s r))), s) := by
  rw [q_10_1, c_9_1, cI_s, ite_bI]
  unfold hasR
  by_cases h : ixB r 6 = true
  · rw [if_pos h, if_pos h, h]
    by_cases h2 : s.1 5 0 r.toNatClampNeg = -1 <;> simp [h2, bI]
  · rw [if_neg h]
    simp [h, bI]
theorem c_10_2 (r : Int32) (s : SS) : ev 10 0 [some (.inr (.inr (2, 0))), some (.inl r)] [] s = some (some (.inl (bI (hasT s r))), s) := by
  rw [q_10_2, c_9_2, cI_s, ite_bI]
  unfold hasT
  by_cases h : ixB r 4 = true
  · rw [if_pos h, if_pos h, h]
    by_cases h2 : s.1 6 0 r.toNatClampNeg = -1 <;> simp [h2, bI]
  · rw [if_neg h]
    simp [h, bI]
theorem hasR_ix {s : SS} {r : Int32} (h : hasR s r = true) : ixB r 6 = true := by
  unfold hasR at h
  simp only [Bool.and_eq_true] at h
  exact h.1
theorem hasT_ix {s : SS} {r : Int32} (h : hasT s r = true) : ixB r 4 = true := by
  unfold hasT at h
  simp only [Bool.and_eq_true] at h
  exact h.1
theorem c_11_1 (r : Int32) (s : SS) : ev 11 0 [some (.inr (.inr (1, 0))), some (.inl r)] [] s = some (some (.inl (if hasR s r = true then s.1 5 0 r.toNatClampNeg else 0)), s) := by
  rw [q_11_1, c_10_1, cI_s, ite_bI]
  by_cases h : hasR s r = true
  · simp [h, hasR_ix h]
  · simp [h]
theorem c_11_2 (r : Int32) (s : SS) : ev 11 0 [some (.inr (.inr (2, 0))), some (.inl r)] [] s = some (some (.inl (if hasT s r = true then s.1 6 0 r.toNatClampNeg else 0)), s) := by
  rw [q_11_2, c_10_2, cI_s, ite_bI]
  by_cases h : hasT s r = true
  · simp [h, hasT_ix h]
  · simp [h]
def hpR (s : SS) (r i n : Int32) : Bool := hasR s r && (!(decide (i < 0)) && (!(decide (n < 0)) && !(decide (s.1 5 0 r.toNatClampNeg - n < i))))
def hpT (s : SS) (r i n : Int32) : Bool := hasT s r && (!(decide (i < 0)) && (!(decide (n < 0)) && !(decide (s.1 6 0 r.toNatClampNeg - n < i))))
theorem c_12_1 (r i n : Int32) (s : SS) : ev 12 0 [some (.inr (.inr (1, 0))), some (.inl r), some (.inl i), some (.inl n)] [] s = some (some (.inl (bI (hpR s r i n))), s) := by
  rw [q_12_1, c_10_1, cI_s, ite_bI]
  unfold hpR
  by_cases h : hasR s r = true
  · by_cases h1 : i < 0 <;> by_cases h2 : n < 0 <;> by_cases h3 : s.1 5 0 r.toNatClampNeg - n < i <;> simp [h, hasR_ix h, h1, h2, h3, bI]
  · simp [h, bI]
theorem c_12_2 (r i n : Int32) (s : SS) : ev 12 0 [some (.inr (.inr (2, 0))), some (.inl r), some (.inl i), some (.inl n)] [] s = some (some (.inl (bI (hpT s r i n))), s) := by
  rw [q_12_2, c_10_2, cI_s, ite_bI]
  unfold hpT
  by_cases h : hasT s r = true
  · by_cases h1 : i < 0 <;> by_cases h2 : n < 0 <;> by_cases h3 : s.1 6 0 r.toNatClampNeg - n < i <;> simp [h, hasT_ix h, h1, h2, h3, bI]
  · simp [h, bI]
/-! THE COUPLING of the two systems, in parts -/
def JR (s : SS) : Prop := (∀ q, q < 6 → (s.1 5 0 q = -1 ∧ s.1 32 0 q = -9) ∨ ∃ n, n ≤ 40 ∧ s.1 5 0 q = nI n ∧ s.1 32 0 q = nI n) ∧ ∀ q i, q < 6 → i < 40 → s.1 7 q i = s.1 33 0 (40 * q + i)
def JT (s : SS) : Prop := (∀ q, q < 4 → (s.1 6 0 q = -1 ∧ s.1 35 0 q = -9) ∨ ∃ n, n ≤ 40 ∧ s.1 6 0 q = nI n ∧ s.1 35 0 q = nI n) ∧ ∀ q i, q < 4 → i < 40 → s.1 8 q i = s.1 36 0 (40 * q + i)
def JF (s : SS) : Prop := s.1 0 0 9 = s.1 30 0 2 ∧ s.1 0 0 12 = s.1 30 0 0 ∧ s.2.1 0 0 10 = s.2.1 30 0 3 ∧ s.2.1 0 0 11 = s.2.1 30 0 4 ∧ ∀ f, f < 6 → s.1 12 0 f = s.1 31 0 f
def fC (s : SS) (f : Nat) : SS := wI (wI s 0 0 12 (nI f)) 12 0 f (s.1 12 0 f + 1)
def fR (s : SS) (f : Nat) : SS := wI (wI s 30 0 0 (nI f)) 31 0 f (s.1 31 0 f + 1)
theorem c_100_1 (s : SS) : ev 100 0 [some (.inr (.inr (0, 0))), some (.inl 1)] [] s = some (some (.inl (-3)), fC s 1) := (q_100 1 s).trans rfl
theorem c_100_2 (s : SS) : ev 100 0 [some (.inr (.inr (0, 0))), some (.inl 2)] [] s = some (some (.inl (-3)), fC s 2) := (q_100 2 s).trans rfl
theorem c_100_3 (s : SS) : ev 100 0 [some (.inr (.inr (0, 0))), some (.inl 3)] [] s = some (some (.inl (-3)), fC s 3) := (q_100 3 s).trans rfl
theorem c_100_4 (s : SS) : ev 100 0 [some (.inr (.inr (0, 0))), some (.inl 4)] [] s = some (some (.inl (-3)), fC s 4) := (q_100 4 s).trans rfl
theorem c_100_5 (s : SS) : ev 100 0 [some (.inr (.inr (0, 0))), some (.inl 5)] [] s = some (some (.inl (-3)), fC s 5) := (q_100 5 s).trans rfl
theorem c_145_1 (s : SS) : ev 145 0 [some (.inr (.inr (30, 0))), some (.inl 1)] [] s = some (some (.inl (-3)), fR s 1) := (q_145 1 s).trans rfl
theorem c_145_2 (s : SS) : ev 145 0 [some (.inr (.inr (30, 0))), some (.inl 2)] [] s = some (some (.inl (-3)), fR s 2) := (q_145 2 s).trans rfl
theorem c_145_3 (s : SS) : ev 145 0 [some (.inr (.inr (30, 0))), some (.inl 3)] [] s = some (some (.inl (-3)), fR s 3) := (q_145 3 s).trans rfl
theorem c_145_4 (s : SS) : ev 145 0 [some (.inr (.inr (30, 0))), some (.inl 4)] [] s = some (some (.inl (-3)), fR s 4) := (q_145 4 s).trans rfl
theorem c_145_5 (s : SS) : ev 145 0 [some (.inr (.inr (30, 0))), some (.inl 5)] [] s = some (some (.inl (-3)), fR s 5) := (q_145 5 s).trans rfl
theorem JF_f {s : SS} (h : JF s) {f : Nat} (hf : f < 6) : JF (fR (fC s f) f) := by
  obtain ⟨h1, h2, h3, h4, h5⟩ := h
  refine ⟨h1, rfl, h3, h4, fun g hg => ?_⟩
  by_cases e : g = f
  · subst e
    simp [fR, fC, wI_1, h5 g hg]
  · simp [fR, fC, wI_1, e, h5 g hg]
def cn (p : Nat → Bool) : Nat → Nat
  | 0 => 0
  | n + 1 => cn p n + (if p n = true then 1 else 0)
/-- how a saying is told, as a number; the greater of its names -/
def tl (s : SS) (k : Nat) : Nat := (s.1 37 0 k).toNatClampNeg
def lsN (k : Nat) : Nat := if k < 12 then k % 4 else max ((k - 12) / 4) ((k - 12) % 4)
def nN (s : SS) : Nat := (s.1 30 0 10).toNatClampNeg
def JS (s : SS) : Prop := (1 ≤ nN s ∧ nN s ≤ 4 ∧ s.1 0 0 7 = nI (nN s) ∧ s.1 30 0 10 = nI (nN s)) ∧ (∀ k, k < 28 → s.1 9 0 k = nI (tl s k) ∧ s.1 37 0 k = nI (tl s k) ∧ tl s k < 4 ∧ (tl s k ≠ 0 → lsN k < nN s)) ∧ cn (fun k => tl s k == 3) 28 ≤ 10
/-- a part of a law, in both systems: not, sort, its names -/
def PJ (s : SS) (j k p : Nat) : Prop := ∃ d so on tw, d ≤ 1 ∧ so ≤ 3 ∧ on ≤ 1 ∧ tw ≤ 1 ∧ s.1 17 j p = nI d ∧ s.1 46 0 (6 * k + p) = nI d ∧ s.1 47 0 (6 * k + p) = nI so ∧ s.1 48 0 (6 * k + p) = nI on ∧ s.1 49 0 (6 * k + p) = nI tw ∧ ((so = 3 ∧ s.1 14 j p = nI 12 ∧ s.1 15 j p = nI on ∧ s.1 16 j p = nI tw) ∨ (so < 3 ∧ tw = 0 ∧ s.1 14 j p = nI (4 * so) ∧ s.1 15 j p = -1 ∧ s.1 16 j p = nI on))
def LJ (s : SS) (j k : Nat) : Prop := (s.1 13 j 0 = 0 ∧ s.1 42 0 k = -9) ∨ (s.1 13 j 0 = 1 ∧ ∃ kd np w f, kd < 5 ∧ 1 ≤ np ∧ np ≤ 6 ∧ w ≤ 9 ∧ f ≤ 4 ∧ s.1 13 j 1 = nI kd ∧ s.1 42 0 k = nI kd ∧ s.1 13 j 4 = nI np ∧ s.1 45 0 k = nI np ∧ s.1 13 j 2 = nI w ∧ s.1 43 0 k = nI w ∧ s.1 13 j 3 = nI f ∧ s.1 44 0 k = nI f ∧ (3 ≤ kd → np = 1 ∧ s.1 48 0 (6 * k) = nI 0 ∧ s.1 49 0 (6 * k) = nI 0) ∧ ∀ p, p < np → PJ s j k p)
def JL (s : SS) : Prop := (∀ k, k ≤ 8 → s.2.2 k < 9) ∧ (∀ a b, a ≤ 8 → b ≤ 8 → s.2.2 a = s.2.2 b → a = b) ∧ ∀ k, k < 8 → LJ s (s.2.2 k) k
/-- s and t agree on the kinds of a list -/
def Ag (K : List Nat) (s t : SS) : Prop := (∀ a, a ∈ K → (∀ b c, t.1 a b c = s.1 a b c) ∧ ∀ b c, t.2.1 a b c = s.2.1 a b c) ∧ t.2.2 = s.2.2
theorem Ag_rf {K : List Nat} {s : SS} : Ag K s s := ⟨fun _ _ => ⟨fun _ _ => rfl, fun _ _ => rfl⟩, rfl⟩
theorem Ag_tr {K : List Nat} {s t u : SS} (h1 : Ag K s t) (h2 : Ag K t u) : Ag K s u := ⟨fun a ha => ⟨fun b c => ((h2.1 a ha).1 b c).trans ((h1.1 a ha).1 b c), fun b c => ((h2.1 a ha).2 b c).trans ((h1.1 a ha).2 b c)⟩, h2.2.trans h1.2⟩
theorem Ag_sy {K : List Nat} {s t : SS} (h : Ag K s t) : Ag K t s := ⟨fun a ha => ⟨fun b c => ((h.1 a ha).1 b c).symm, fun b c => ((h.1 a ha).2 b c).symm⟩, h.2.symm⟩
theorem Ag_wI {K : List Nat} {s : SS} {k j i : Nat} {v : Int32} (h : k ∉ K) : Ag K s (wI s k j i v) := ⟨fun a ha => ⟨fun b c => by rw [wI_1, if_neg (show ¬ (a = k ∧ b = j ∧ c = i) from fun z => h (z.1 ▸ ha))], fun _ _ => rfl⟩, rfl⟩
theorem Ag_wL {K : List Nat} {s : SS} {k j i : Nat} {v : Int64} (h : k ∉ K) : Ag K s (wL s k j i v) := ⟨fun a ha => ⟨fun _ _ => rfl, fun b c => by rw [wL_2, if_neg (show ¬ (a = k ∧ b = j ∧ c = i) from fun z => h (z.1 ▸ ha))]⟩, rfl⟩
theorem Ag_wA {K : List Nat} {s : SS} {k j : Nat} {f : Nat → Int32} (h : k ∉ K) : Ag K s (wA s k j f) := ⟨fun a ha => ⟨fun b c => by rw [wA_1, if_neg (show ¬ (a = k ∧ b = j) from fun z => h (z.1 ▸ ha))], fun _ _ => rfl⟩, rfl⟩
theorem Ag_fo {K : List Nat} {f : Nat → SS → SS} (h : ∀ i s, Ag K s (f i s)) (s : SS) : ∀ n, Ag K s (fo f n s)
  | 0 => Ag_rf
  | n + 1 => Ag_tr (Ag_fo h s n) (h n _)
theorem Ag_fC {K : List Nat} {s : SS} {f : Nat} (h0 : 0 ∉ K) (h1 : 12 ∉ K) : Ag K s (fC s f) := Ag_tr (Ag_wI h0) (Ag_wI h1)
theorem Ag_fR {K : List Nat} {s : SS} {f : Nat} (h0 : 30 ∉ K) (h1 : 31 ∉ K) : Ag K s (fR s f) := Ag_tr (Ag_wI h0) (Ag_wI h1)
/-! worlds: what is so, what a law breaks -/
def soB (s : SS) (k w : Nat) : Bool := tl s k == 1 || (tl s k == 3 && w.testBit (cn (fun i => tl s i == 3) k))
def nW (s : SS) : Nat := 2 ^ cn (fun i => tl s i == 3) 28
def kdN (s : SS) (k : Nat) : Nat := (s.1 42 0 k).toNatClampNeg
def npN (s : SS) (k : Nat) : Nat := (s.1 45 0 k).toNatClampNeg
def wtN (s : SS) (k : Nat) : Nat := (s.1 43 0 k).toNatClampNeg
def fgN (s : SS) (k : Nat) : Nat := (s.1 44 0 k).toNatClampNeg
def ptN (s : SS) (i : Nat) : Bool := !(decide (s.1 46 0 i = 0))
def ptS (s : SS) (i : Nat) : Nat := (s.1 47 0 i).toNatClampNeg
def pt1 (s : SS) (i : Nat) : Nat := (s.1 48 0 i).toNatClampNeg
def pt2 (s : SS) (i : Nat) : Nat := (s.1 49 0 i).toNatClampNeg
def sayN (s : SS) (i x y : Nat) : Nat := if ptS s i = 3 then 12 + 4 * (if pt1 s i = 0 then x else y) + (if pt2 s i = 0 then x else y) else 4 * ptS s i + (if pt1 s i = 0 then x else y)
def holB (s : SS) (i x y w : Nat) : Bool := soB s (sayN s i x y) w != ptN s i
def anyB (p : Nat → Bool) : Nat → Bool
  | 0 => false
  | n + 1 => anyB p n || p n
def hasV (s : SS) (k v : Nat) : Bool := anyB (fun p => pt1 s (6 * k + p) == v || (ptS s (6 * k + p) == 3 && pt2 s (6 * k + p) == v)) (npN s k)
def sm (f : Nat → Nat) : Nat → Nat
  | 0 => 0
  | n + 1 => sm f n + f n
def nX (s : SS) (k : Nat) : Nat := if hasV s k 0 = true then nN s else 1
def nY (s : SS) (k : Nat) : Nat := if hasV s k 1 = true then nN s else 1
def brk (s : SS) (k w : Nat) : Nat := if kdN s k = 0 then 0 else if 3 ≤ kdN s k then (if kdN s k = 3 then (if cn (fun x => holB s (6 * k) x x w) (nN s) < fgN s k then 1 else 0) else (if cn (fun x => holB s (6 * k) x x w) (nN s) = 1 then 0 else 1)) else sm (fun x => sm (fun y => if anyB (fun p => holB s (6 * k + p) x y w) (npN s k) = true then 0 else 1) (nY s k)) (nX s k)
def trN (s : SS) (w : Nat) : Nat := sm (fun k => if soB s k w = true then 2 ^ k else 0) 28
def bkN (s : SS) (w : Nat) : Nat := sm (fun k => brk s k w * 256 ^ k) 8
/-- the table of worlds is that of the sayings, names and laws -/
def Tab (s : SS) : Prop := s.1 11 0 0 = nI (nW s) ∧ (∀ w, w < nW s → s.1 18 0 w = nI (trN s w)) ∧ ∀ w, w < nW s → s.2.1 19 0 w = lN (bkN s w)
def JB (s : SS) : Prop := s.1 0 0 8 = 1 ∨ (s.1 0 0 8 = 0 ∧ Tab s)
def J (s : SS) : Prop := JR s ∧ JT s ∧ JF s ∧ JS s ∧ JL s ∧ JB s
theorem JR_ag {s t : SS} (h : Ag [5, 7, 32, 33] s t) (hJ : JR s) : JR t := by
  have e := fun a ha => (h.1 a ha).1
  have e1 := e 5 (by decide)
  have e2 := e 7 (by decide)
  have e3 := e 32 (by decide)
  have e4 := e 33 (by decide)
  unfold JR
  simp only [e1, e2, e3, e4]
  exact hJ
theorem JT_ag {s t : SS} (h : Ag [6, 8, 35, 36] s t) (hJ : JT s) : JT t := by
  have e := fun a ha => (h.1 a ha).1
  have e1 := e 6 (by decide)
  have e2 := e 8 (by decide)
  have e3 := e 35 (by decide)
  have e4 := e 36 (by decide)
  unfold JT
  simp only [e1, e2, e3, e4]
  exact hJ
theorem JF_ag {s t : SS} (h : Ag [12, 31] s t) (e1 : t.1 0 0 9 = s.1 0 0 9) (e2 : t.1 0 0 12 = s.1 0 0 12) (e3 : t.1 30 0 0 = s.1 30 0 0) (e4 : t.1 30 0 2 = s.1 30 0 2) (e5 : t.2.1 0 0 10 = s.2.1 0 0 10) (e6 : t.2.1 0 0 11 = s.2.1 0 0 11) (e7 : t.2.1 30 0 3 = s.2.1 30 0 3) (e8 : t.2.1 30 0 4 = s.2.1 30 0 4) (hJ : JF s) : JF t := by
  have f1 := (h.1 12 (by decide)).1
  have f2 := (h.1 31 (by decide)).1
  unfold JF
  rw [e1, e2, e3, e4, e5, e6, e7, e8]
  simp only [f1, f2]
  exact hJ
theorem tl_ag {s t : SS} (h : Ag [37] s t) (k : Nat) : tl t k = tl s k := by
  unfold tl
  rw [(h.1 37 (by decide)).1]
theorem JS_ag {s t : SS} (h : Ag [9, 37] s t) (e7 : t.1 0 0 7 = s.1 0 0 7) (e10 : t.1 30 0 10 = s.1 30 0 10) (hJ : JS s) : JS t := by
  have f1 := (h.1 9 (by decide)).1
  have f2 := (h.1 37 (by decide)).1
  unfold JS tl nN
  simp only [e7, e10, f1, f2]
  exact hJ
theorem Ag_mono {K K' : List Nat} {s t : SS} (h : Ag K s t) (hk : ∀ a, a ∈ K' → a ∈ K) : Ag K' s t := ⟨fun a ha => h.1 a (hk a ha), h.2⟩
theorem brk_ag {s t : SS} (h : Ag [37, 42, 44, 45, 46, 47, 48, 49] s t) (e10 : t.1 30 0 10 = s.1 30 0 10) : brk t = brk s ∧ soB t = soB s ∧ nW t = nW s := by
  have f0 := (h.1 37 (by decide)).1
  have f1 := (h.1 42 (by decide)).1
  have f2 := (h.1 44 (by decide)).1
  have f3 := (h.1 45 (by decide)).1
  have f4 := (h.1 46 (by decide)).1
  have f5 := (h.1 47 (by decide)).1
  have f6 := (h.1 48 (by decide)).1
  have f7 := (h.1 49 (by decide)).1
  have e1 : tl t = tl s := by funext k; unfold tl; rw [f0]
  have e2 : soB t = soB s := by funext k w; unfold soB; rw [e1]
  have e3 : nN t = nN s := by unfold nN; rw [e10]
  have e4 : kdN t = kdN s := by funext k; unfold kdN; rw [f1]
  have e5 : fgN t = fgN s := by funext k; unfold fgN; rw [f2]
  have e6 : npN t = npN s := by funext k; unfold npN; rw [f3]
  have e7 : ptN t = ptN s := by funext k; unfold ptN; rw [f4]
  have e8 : ptS t = ptS s := by funext k; unfold ptS; rw [f5]
  have e9 : pt1 t = pt1 s := by funext k; unfold pt1; rw [f6]
  have ea : pt2 t = pt2 s := by funext k; unfold pt2; rw [f7]
  have eb : sayN t = sayN s := by funext i x y; unfold sayN; rw [e8, e9, ea]
  have ec : holB t = holB s := by funext i x y w; unfold holB; rw [e2, eb, e7]
  have ed : hasV t = hasV s := by funext k v; unfold hasV; rw [e8, e9, ea, e6]
  have ee : nX t = nX s := by funext k; unfold nX; rw [ed, e3]
  have ef : nY t = nY s := by funext k; unfold nY; rw [ed, e3]
  refine ⟨?_, e2, by unfold nW; rw [e1]⟩
  funext k w
  unfold brk
  rw [e4, ec, e3, e5, e6, ee, ef]
theorem JB_ag {s t : SS} (h : Ag [11, 18, 19, 37, 42, 44, 45, 46, 47, 48, 49] s t) (e8 : t.1 0 0 8 = s.1 0 0 8) (e10 : t.1 30 0 10 = s.1 30 0 10) (hJ : JB s) : JB t := by
  obtain ⟨b1, b2, b3⟩ := brk_ag (Ag_mono h (by decide)) e10
  have f1 := (h.1 11 (by decide)).1
  have f2 := (h.1 18 (by decide)).1
  have f3 := (h.1 19 (by decide)).2
  unfold JB Tab trN bkN
  rw [e8, b1, b2, b3]
  simp only [f1, f2, f3]
  exact hJ
theorem JL_ag {s t : SS} (h : Ag [13, 14, 15, 16, 17, 42, 43, 44, 45, 46, 47, 48, 49] s t) (hJ : JL s) : JL t := by
  have e := fun a ha => (h.1 a ha).1
  have e1 := e 13 (by decide)
  have e2 := e 14 (by decide)
  have e3 := e 15 (by decide)
  have e4 := e 16 (by decide)
  have e5 := e 17 (by decide)
  have e6 := e 42 (by decide)
  have e7 := e 43 (by decide)
  have e8 := e 44 (by decide)
  have e9 := e 45 (by decide)
  have e10 := e 46 (by decide)
  have e11 := e 47 (by decide)
  have e12 := e 48 (by decide)
  have e13 := e 49 (by decide)
  unfold JL LJ PJ
  simp only [e1, e2, e3, e4, e5, e6, e7, e8, e9, e10, e11, e12, e13, h.2]
  exact hJ
/-- a state that differs in what the calls told alone -/
theorem J_ag {s t : SS} (h : Ag [9, 11, 13, 14, 15, 16, 17, 18, 19, 37, 42, 43, 44, 45, 46, 47, 48, 49] s t) (e7 : t.1 0 0 7 = s.1 0 0 7) (e8 : t.1 0 0 8 = s.1 0 0 8) (e10 : t.1 30 0 10 = s.1 30 0 10) (hR : JR t) (hT : JT t) (hF : JF t) (hJ : J s) : J t := ⟨hR, hT, hF, JS_ag (Ag_mono h (by decide)) e7 e10 hJ.2.2.2.1, JL_ag (Ag_mono h (by decide)) hJ.2.2.2.2.1, JB_ag (Ag_mono h (by decide)) e8 e10 hJ.2.2.2.2.2⟩
