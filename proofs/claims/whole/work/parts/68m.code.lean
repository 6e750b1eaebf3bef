/-! the class's best code -/
def pwO (s : SS) (A : Nat → Bool) (v : Nat) : Option Nat := if hbB s A v = true then none else match bst s A (nW s) with
  | none => none
  | some (_, c) => if 20 < scN s A v - c then none else some (20 - (scN s A v - c))
theorem sh_pw (s : SS) (A : Nat → Bool) (v : Nat) : shN s A v = shE (pwO s A v) := by
  unfold shN pwO
  by_cases hb : hbB s A v = true
  · rw [if_pos hb, if_pos hb]
    rfl
  · rw [if_neg hb, if_neg hb]
    cases hp : bst s A (nW s) with
    | none => rfl
    | some q =>
      obtain ⟨w, c⟩ := q
      simp only
      by_cases h : 20 < scN s A v - c
      · rw [if_pos h, if_pos h]
        rfl
      · rw [if_neg h, if_neg h]
        rfl
theorem pw_le {s : SS} {A : Nat → Bool} {v e : Nat} (h : pwO s A v = some e) : e ≤ 20 := by
  unfold pwO at h
  split at h
  · cases h
  · split at h
    · cases h
    · split at h
      · cases h
      · cases h
        omega
theorem SP_pw {s t : SS} (h : SP s t) : pwO t = pwO s := by
  funext A v
  unfold pwO
  rw [SP_hb h, SP_sc h, (SP_brk h).2.2, SP_bst h A]
def pvI (e : Option Nat) : Int32 := match e with
  | none => -1000
  | some e => nI e
theorem c_54 {s u : SS} {A : Nat → Bool} (hS : JS s) (hL : JL s) (cw : CW s A u) {v : Nat} (hv : v < nW s) : ev 54 0 [some (.inr (.inr (11, 0))), some (.inl (nI v)), none] [] u = some (some (.inl (pvI (pwO s A v))), u) := by
  have hW := nW_le hS
  have x : ixB (nI v) 1024 = true := ixB_nI (by omega) (by decide)
  have ci := cw.1 v hv
  have hc := sc_le hS hL A v
  rw [q_54, if_pos x, c_51 hS hL hv ci, cI_s, ite_bI, cl_nI (by omega), ci]
  unfold pwO
  by_cases hb : hbB s A v = true
  · rw [if_pos hb, if_pos hb]
    rfl
  · obtain ⟨w, c, hp, hle⟩ := bst_min hv (hb_f hb)
    have b31 : u.1 11 0 8 = nI c := by
      have b := cw.2.1
      unfold CB at b
      rw [hp] at b
      exact b.2
    have ec : cC s A v = nI (scN s A v) := if_neg hb
    rw [if_neg hb, if_neg hb, ec, b31, n_sub hle, hp]
    simp only
    by_cases h20 : 20 < scN s A v - c
    · rw [if_pos h20, if_pos (show (20 : Int32) < nI (scN s A v - c) from nI_lt h20 (by omega))]
      rfl
    · rw [if_neg h20, if_neg (show ¬ (20 : Int32) < nI (scN s A v - c) from fun z => h20 ((n_lt (a := 20) (by decide) (by omega)).mp z)), show (20 : Int32) - nI (scN s A v - c) = nI (20 - (scN s A v - c)) from n_sub (a := 20) (b := scN s A v - c) (by omega)]
      rfl
theorem sm_ge {f : Nat → Nat} {n i : Nat} (hi : i < n) : f i ≤ sm f n := by
  have h1 : sm f (i + 1) ≤ sm f n := sm_mo (by omega)
  have h2 : f i ≤ sm f (i + 1) := by
    show f i ≤ sm f i + f i
    omega
  omega
theorem all_ge {s : SS} {A : Nat → Bool} {v : Nat} (hv : v < nW s) (hb : hbB s A v = false) : 1048576 ≤ allN s A := by
  obtain ⟨w, c, hp, -⟩ := bst_min hv hb
  obtain ⟨h1, h2, h3⟩ := bst_some hp
  have : shN s A w = 1048576 := by
    unfold shN
    rw [h2, hp]
    simp [h3]
  rw [← this]
  exact sm_ge h1
theorem JS_lay {s : SS} (hS : JS s) (m c : Nat) : JS (layT m c 8 s) := JS_ag (s := s) ⟨fun a ha => ⟨fun b x => by
  rw [lay_1, if_neg (fun z => by
    rw [z.1] at ha
    exact absurd ha (by decide))], fun b x => by rw [lay_2]⟩, by rw [lay_2]⟩ (by rw [lay_1, if_neg (fun z => absurd z.1 (by decide))]) (by rw [lay_1, if_neg (fun z => absurd z.1 (by decide))]) hS
def pwE (s : SS) (m v c : Nat) : Option Nat := pwO (layT m c 8 s) (aA 0) v
def alE (s : SS) (m c : Nat) : Nat := allN (layT m c 8 s) (aA 0)
def xE (s : SS) (m p v i b : Nat) : Nat := shE (pwE s m v i) * (alE s m b * 2 ^ (p * sC b))
def bet (s : SS) (m p v i b : Nat) : Bool := decide (xE s m p v b i < xE s m p v i b) || (decide (xE s m p v i b = xE s m p v b i) && decide (sC i < sC b))
def kb (s : SS) (m p v : Nat) : Nat → Nat
  | 0 => 0
  | i + 1 => if i ≠ 0 ∧ bet s m p v i (kb s m p v i) = true then i else kb s m p v i
theorem kb_lt (s : SS) (m p v : Nat) : ∀ i, 0 < i → kb s m p v i < i
  | 0, h => absurd h (Nat.lt_irrefl 0)
  | i + 1, _ => by
    unfold kb
    split
    · omega
    · by_cases e : i = 0
      · subst e
        exact Nat.one_pos
      · have := kb_lt s m p v i (by omega)
        omega
theorem sg_gt (x y : Nat) : ((0 : Int32) < sg x y) = (y < x) := by
  apply propext
  unfold sg
  by_cases h1 : x < y
  · rw [if_pos h1]
    exact ⟨fun z => absurd z (by decide), fun z => by omega⟩
  · rw [if_neg h1]
    by_cases h2 : x = y
    · rw [if_pos h2]
      exact ⟨fun z => absurd z (by decide), fun z => by omega⟩
    · rw [if_neg h2]
      exact ⟨fun _ => by omega, fun _ => by decide⟩
theorem sg_z (x y : Nat) : (sg x y = 0) = (x = y) := by
  apply propext
  unfold sg
  by_cases h1 : x < y
  · rw [if_pos h1]
    exact ⟨fun z => absurd z (by decide), fun z => by omega⟩
  · rw [if_neg h1]
    by_cases h2 : x = y
    · rw [if_pos h2]
      exact ⟨fun _ => h2, fun _ => rfl⟩
    · rw [if_neg h2]
      exact ⟨fun z => absurd z (by decide), fun z => absurd z h2⟩
def bP (s : SS) (m p v i : Nat) : Int32 := if i = 0 then 0 else pw (pwE s m v (kb s m p v i)) (p * sC (kb s m p v i))
def bAl (s : SS) (m p v i : Nat) : Int64 := if i = 0 then 0 else lN (alE s m (kb s m p v i))
theorem pw_64 {n : Nat} (hn : n ≤ 3) : 4 ^ n ≤ 64 := Nat.le_trans (Nat.pow_le_pow_right (by decide) hn) (by decide)
theorem sh2n : ∀ n, n < 4 → (1 : Int32) <<< ((2 * nI n) &&& 31) = nI (4 ^ n) := by decide
theorem c_133 {s u0 : SS} {m p v : Nat} (h : J s) (hm : m < 256) (hn : popN m ≤ 3) (hp : p ≤ 2) (hth : thB s m = true) (hv : v < nW s) (hb : hbB s (aA 0) v = false) (ci0 : CI s m u0) : ∃ u, CI s m u ∧ ev 133 0 [some (.inr (.inr (0, 0))), some (.inl (nI v)), some (.inl (nI m)), some (.inl (nI p)), none, none, none, none, none, none, none, none] [] u0 = some (some (.inl (nI (kb s m p v (4 ^ popN m)))), u) := by
  have hS := h.2.2.2.1
  have h64 := pw_64 hn
  have alb : ∀ c, 1048576 ≤ alE s m c ∧ alE s m c ≤ 1073741824 := fun c => ⟨all_ge (by rw [(lay_brk s m c).2.2]; exact hv) (by rw [lay_hb]; exact hb), all_le (JS_lay hS m c)⟩
  have pq : ∀ c, p * sC c ≤ 18 := fun c => Nat.le_trans (Nat.mul_le_mul hp sC_le) (by decide)
  have hl := lpX (fun i u => ev 133 22 [some (.inr (.inr (0, 0))), some (.inl (nI v)), some (.inl (nI m)), some (.inl (nI p)), some (.inl (nI (kb s m p v i))), some (.inl (bP s m p v i)), some (.inr (.inl (bAl s m p v i))), none, some (.inl (nI (4 ^ popN m))), some (.inl (nI i)), none, none] [] u) (fun _ u => CI s m u) (4 ^ popN m) (fun i u hi ci => by
    have hi64 : i < 64 := by omega
    obtain ⟨t, e1, ci1, cw1⟩ := c_135i ci hm hi64
    obtain ⟨u2, e2, ci2, cw2, cw, -⟩ := c_126i h hth ci1 cw1
    have spl := SP_lay h hth ci2 cw2
    have jr := ci2.1
    have e54 : ev 54 0 [some (.inr (.inr (11, 0))), some (.inl (nI v)), none] [] u2 = some (some (.inl (pvI (pwE s m v i))), u2) := by
      have := c_54 jr.2.2.2.1 jr.2.2.2.2.1 (SP_CW (SP_sy spl) cw) (v := v) (by rw [(SP_brk spl).2.2, (lay_brk s m i).2.2]; exact hv)
      rw [SP_pw spl] at this
      exact this
    have e9 : u2.2.1 11 0 9 = lN (alE s m i) := cw.2.2.2.1
    have s1 : ev 133 22 [some (.inr (.inr (0, 0))), some (.inl (nI v)), some (.inl (nI m)), some (.inl (nI p)), some (.inl (nI (kb s m p v i))), some (.inl (bP s m p v i)), some (.inr (.inl (bAl s m p v i))), none, some (.inl (nI (4 ^ popN m))), some (.inl (nI i)), none, none] [] u = ev 133 71 [some (.inr (.inr (0, 0))), some (.inl (nI v)), some (.inl (nI m)), some (.inl (nI p)), some (.inl (nI (kb s m p v i))), some (.inl (bP s m p v i)), some (.inr (.inl (bAl s m p v i))), none, some (.inl (nI (4 ^ popN m))), some (.inl (nI i)), some (.inl (pw (pwE s m v i) (p * sC i))), none] [] u2 := by
      rw [q_133_at22, if_pos (nI_lt hi (by omega)), e1, cV_s, e2, cV_s, e54, cI_s, c_136 hi64, cI_s, n_mul]
      cases he : pwE s m v i with
      | none =>
        rw [if_pos (by rfl)]
        rfl
      | some e =>
        have := pw_le he
        rw [if_neg (show ¬ pvI (some e) = -1000 from fun z => by
          have := (n_ne (a := e) (n := 1000) (by omega) (by decide) (by decide)).mp z
          exact this)]
        rfl
    have kbs : kb s m p v (i + 1) = if i ≠ 0 ∧ bet s m p v i (kb s m p v i) = true then i else kb s m p v i := rfl
    have upd : kb s m p v (i + 1) = i → ev 133 22 [some (.inr (.inr (0, 0))), some (.inl (nI v)), some (.inl (nI m)), some (.inl (nI p)), some (.inl (nI i)), some (.inl (pw (pwE s m v i) (p * sC i))), some (.inr (.inl (lN (alE s m i)))), none, some (.inl (nI (4 ^ popN m))), some (.inl (nI (i + 1))), none, none] [] u2 = ev 133 22 [some (.inr (.inr (0, 0))), some (.inl (nI v)), some (.inl (nI m)), some (.inl (nI p)), some (.inl (nI (kb s m p v (i + 1)))), some (.inl (bP s m p v (i + 1))), some (.inr (.inl (bAl s m p v (i + 1)))), none, some (.inl (nI (4 ^ popN m))), some (.inl (nI (i + 1))), none, none] [] u2 := fun he => by
      unfold bP bAl
      rw [if_neg (Nat.succ_ne_zero i), if_neg (Nat.succ_ne_zero i), he]
    have kee : i ≠ 0 → kb s m p v (i + 1) = kb s m p v i → ev 133 22 [some (.inr (.inr (0, 0))), some (.inl (nI v)), some (.inl (nI m)), some (.inl (nI p)), some (.inl (nI (kb s m p v i))), some (.inl (bP s m p v i)), some (.inr (.inl (bAl s m p v i))), none, some (.inl (nI (4 ^ popN m))), some (.inl (nI (i + 1))), none, none] [] u2 = ev 133 22 [some (.inr (.inr (0, 0))), some (.inl (nI v)), some (.inl (nI m)), some (.inl (nI p)), some (.inl (nI (kb s m p v (i + 1)))), some (.inl (bP s m p v (i + 1))), some (.inr (.inl (bAl s m p v (i + 1)))), none, some (.inl (nI (4 ^ popN m))), some (.inl (nI (i + 1))), none, none] [] u2 := fun h0 he => by
      unfold bP bAl
      rw [if_neg (Nat.succ_ne_zero i), if_neg (Nat.succ_ne_zero i), if_neg h0, if_neg h0, he]
    refine ⟨u2, ?_, ci2⟩
    show ev 133 22 [some (.inr (.inr (0, 0))), some (.inl (nI v)), some (.inl (nI m)), some (.inl (nI p)), some (.inl (nI (kb s m p v i))), some (.inl (bP s m p v i)), some (.inr (.inl (bAl s m p v i))), none, some (.inl (nI (4 ^ popN m))), some (.inl (nI i)), none, none] [] u = _
    rw [s1, q_133_at71]
    by_cases h0 : i = 0
    · rw [if_pos (show nI i = 0 by rw [h0]; rfl), q_133_at96, if_pos (by decide), e9, nI_s]
      exact upd (by rw [kbs, if_neg (fun z => z.1 h0), h0]; rfl)
    · have hk := kb_lt s m p v i (by omega)
      have b1 := alb i
      have b2 := alb (kb s m p v i)
      have ebp : bP s m p v i = pw (pwE s m v (kb s m p v i)) (p * sC (kb s m p v i)) := if_neg h0
      have eba : bAl s m p v i = lN (alE s m (kb s m p v i)) := if_neg h0
      have e134 : ev 134 0 [some (.inl (pw (pwE s m v i) (p * sC i))), some (.inr (.inl (lN (alE s m i)))), none, some (.inl (bP s m p v i)), some (.inr (.inl (bAl s m p v i))), none, none] [] u2 = some (some (.inl (sg (xE s m p v i (kb s m p v i)) (xE s m p v (kb s m p v i) i))), u2) := by
        rw [ebp, eba]
        exact c_134 (fun e he => pw_le he) (fun e he => pw_le he) (pq _) (pq _) b1.1 b1.2 b2.1 b2.2 u2
      rw [if_neg (show ¬ nI i = 0 by rw [z_eq (by omega)]; exact h0), e9, e134, cI_s, q_133_at96, e9, nI_s, c_136 hi64, cI_s, c_136 (by omega), cI_s, e9]
      simp only [sg_gt, sg_z]
      have sc1 := @sC_le i
      have sc2 := @sC_le (kb s m p v i)
      by_cases c1 : xE s m p v (kb s m p v i) i < xE s m p v i (kb s m p v i)
      · rw [if_pos c1]
        exact upd (by rw [kbs, if_pos ⟨h0, by unfold bet; rw [decide_eq_true c1]; rfl⟩])
      · rw [if_neg c1]
        by_cases c2 : xE s m p v i (kb s m p v i) = xE s m p v (kb s m p v i) i
        · rw [if_pos c2]
          by_cases c3 : sC i < sC (kb s m p v i)
          · rw [if_pos (nI_lt c3 (by omega))]
            exact upd (by rw [kbs, if_pos ⟨h0, by unfold bet; rw [decide_eq_true c2, decide_eq_true c3, decide_eq_false c1]; rfl⟩])
          · rw [if_neg (by rw [n_lt (by omega) (by omega)]; exact c3)]
            exact kee h0 (by rw [kbs, if_neg (fun z => by
              have := z.2
              unfold bet at this
              rw [decide_eq_false c1, decide_eq_false c3, Bool.and_false] at this
              exact absurd this (by decide))])
        · rw [if_neg c2]
          exact kee h0 (by rw [kbs, if_neg (fun z => by
            have := z.2
            unfold bet at this
            rw [decide_eq_false c1, decide_eq_false c2, Bool.false_and] at this
            exact absurd this (by decide))])) u0 ci0
  obtain ⟨u, e, ci⟩ := hl
  refine ⟨u, ci, ?_⟩
  rw [q_133, c_1 hm, cI_s, sh2n _ (by omega)]
  refine (show ev 133 22 [some (.inr (.inr (0, 0))), some (.inl (nI v)), some (.inl (nI m)), some (.inl (nI p)), some (.inl (nI (kb s m p v 0))), some (.inl (bP s m p v 0)), some (.inr (.inl (bAl s m p v 0))), none, some (.inl (nI (4 ^ popN m))), some (.inl (nI 0)), none, none] [] u0 = _ from e).trans ?_
  show ev 133 22 [some (.inr (.inr (0, 0))), some (.inl (nI v)), some (.inl (nI m)), some (.inl (nI p)), some (.inl (nI (kb s m p v (4 ^ popN m)))), some (.inl (bP s m p v (4 ^ popN m))), some (.inr (.inl (bAl s m p v (4 ^ popN m)))), none, some (.inl (nI (4 ^ popN m))), some (.inl (nI (4 ^ popN m))), none, none] [] u = _
  rw [q_133_at22, if_neg (irr _)]
