/-! wrong -/
abbrev OB : Type := Option (Nat × Nat)
def lC (b : OB) : Int32 := match b with
  | none => 1000000
  | some (_, c) => nI c
def flN (b0 b1 : OB) : Nat := match b1 with
  | none => 0
  | some (_, c1) => match b0 with
    | none => 1000
    | some (_, c0) => c0 - c1
def cok (b : OB) : Prop := ∀ w c, b = some (w, c) → c ≤ 1152
theorem sub_i {a b : Nat} (ha : a < 1073741824) (hb : b < 1073741824) : (nI a - nI b).toInt = (a : Int) - b := by
  rw [Int32.toInt_sub, ti_nI (by omega), ti_nI (by omega), Int.bmod_eq_of_le] <;> omega
theorem CB_l {s u : SS} {A : Nat → Bool} (h : CB s A (nW s) u) : u.1 11 0 8 = lC (bst s A (nW s)) := by
  unfold CB at h
  cases hp : bst s A (nW s) with
  | none =>
    rw [hp] at h
    exact h.2
  | some q =>
    rw [hp] at h
    exact h.2
theorem fl_le {b0 b1 : OB} (h0 : cok b0) : flN b0 b1 ≤ 1152 := by
  unfold flN
  rcases b1 with _ | ⟨w1, c1⟩
  · exact Nat.zero_le _
  · rcases b0 with _ | ⟨w0, c0⟩
    · show (1000 : Nat) ≤ 1152
      decide
    · have := h0 w0 c0 rfl
      show c0 - c1 ≤ 1152
      omega
def flI (b0 b1 : OB) : Int32 := match b0 with
  | none => (match b1 with
    | none => (1000000 : Int32) - 1000000
    | some _ => 1000)
  | some (_, c0) => nI c0 - lC b1
theorem c_128 {b0 b1 : OB} (h0 : cok b0) (h1 : cok b1) (s : SS) : ev 128 0 [some (.inl (lC b0)), some (.inl (lC b1))] [] s = some (some (.inl (flI b0 b1)), s) := by
  rw [q_128]
  rcases b0 with _ | ⟨w0, c0⟩
  · rw [if_pos (show lC none = 1000000 from rfl)]
    rcases b1 with _ | ⟨w1, c1⟩
    · rw [if_pos (show lC none = 1000000 from rfl)]
      rfl
    · have := h1 w1 c1 rfl
      rw [if_neg (show ¬ lC (some (w1, c1)) = (1000000 : Int32) from fun z => by
        have := (n_eq (a := c1) (b := 1000000) (by omega) (by decide)).mp z
        omega)]
      rfl
  · have := h0 w0 c0 rfl
    rw [if_neg (show ¬ lC (some (w0, c0)) = (1000000 : Int32) from fun z => by
      have := (n_eq (a := c0) (b := 1000000) (by omega) (by decide)).mp z
      omega)]
    rfl
theorem flI_lt {b0 b1 : OB} (h0 : cok b0) (h1 : cok b1) {l : Nat} (hl : l ≤ 1152) : (nI l < flI b0 b1) = (l < flN b0 b1) ∧ (l < flN b0 b1 → flI b0 b1 = nI (flN b0 b1)) := by
  rcases b0 with _ | ⟨w0, c0⟩
  · rcases b1 with _ | ⟨w1, c1⟩
    · refine ⟨?_, fun z => absurd z (Nat.not_lt_zero l)⟩
      show (nI l < (1000000 : Int32) - 1000000) = (l < 0)
      apply propext
      rw [show (1000000 : Int32) - 1000000 = nI 0 from rfl, n_lt (by omega) (by decide)]
    · refine ⟨?_, fun _ => rfl⟩
      show (nI l < (1000 : Int32)) = (l < 1000)
      exact n_lt (b := 1000) (by omega) (by decide)
  · have g0 := h0 w0 c0 rfl
    rcases b1 with _ | ⟨w1, c1⟩
    · refine ⟨?_, fun z => absurd z (Nat.not_lt_zero l)⟩
      show (nI l < nI c0 - nI 1000000) = (l < 0)
      apply propext
      rw [lt_iff, sub_i (by omega) (by decide), ti_nI (by omega)]
      omega
    · have g1 := h1 w1 c1 rfl
      have e : (nI l < nI c0 - nI c1) = (l < c0 - c1) := by
        apply propext
        rw [lt_iff, sub_i (by omega) (by omega), ti_nI (by omega)]
        omega
      refine ⟨e, fun z => ?_⟩
      show nI c0 - nI c1 = nI (c0 - c1)
      have z' : l < c0 - c1 := z
      exact n_sub (by omega)
def nwB (s : SS) (i : Nat) : OB := bst (gh s i (3 - tl s i)) (aA 0) (nW (gh s i (3 - tl s i)))
def wrN (s : SS) : Nat → Option Nat × Nat
  | 0 => (none, 0)
  | i + 1 => if (tl s i = 1 ∨ tl s i = 2) ∧ (wrN s i).2 < flN (bst s (aA 0) (nW s)) (nwB s i) then (some i, flN (bst s (aA 0) (nW s)) (nwB s i)) else wrN s i
def oI (o : Option Nat) : Int32 := match o with
  | none => -9
  | some k => nI k
theorem cok_b {s : SS} (hS : JS s) (hL : JL s) {A : Nat → Bool} {n : Nat} : cok (bst s A n) := fun _ _ h => (bst_c hS hL h).2
theorem gh_w {s : SS} (h : J s) {i : Nat} (hi : i < 28) (ht : tl s i = 1 ∨ tl s i = 2) : JS (gh s i (3 - tl s i)) := JS_gh h.2.2.2.1 hi (by omega) ((h.2.2.2.1.2.1 i hi).2.2.2 (by omega)) (fun z => by omega)
theorem wr_le {s : SS} (h : J s) : ∀ i, i ≤ 28 → (wrN s i).2 ≤ 1152 ∧ ∀ k, (wrN s i).1 = some k → k < i
  | 0, _ => ⟨Nat.zero_le _, fun k z => by cases z⟩
  | i + 1, hi => by
    obtain ⟨a, b⟩ := wr_le h i (by omega)
    unfold wrN
    split
    · rename_i hc
      refine ⟨fl_le (cok_b h.2.2.2.1 h.2.2.2.2.1), fun k z => ?_⟩
      have z' : some i = some k := z
      cases z'
      omega
    · exact ⟨a, fun k z => by have := b k z; omega⟩
theorem c_91l {s u0 : SS} (h : J s) (q0 : QF s u0) (j0 : J u0) : ∃ u, QF s u ∧ J u ∧ ev 91 21 [some (.inr (.inr (0, 0))), some (.inl (lC (bst s (aA 0) (nW s)))), some (.inl (-9)), some (.inl 0), some (.inl 0), none] [] u0 = (match (wrN s 28).1 with
    | none => some (some (.inl (-9)), u)
    | some k => some (some (.inl (nI k)), wI u 0 0 9 (nI (wrN s 28).2))) := by
  have hS := h.2.2.2.1
  have hL := h.2.2.2.2.1
  have hl := lpX (fun i u => ev 91 21 [some (.inr (.inr (0, 0))), some (.inl (lC (bst s (aA 0) (nW s)))), some (.inl (oI (wrN s i).1)), some (.inl (nI (wrN s i).2)), some (.inl (nI i)), none] [] u) (fun _ u => QF s u ∧ J u) 28 (fun i u hi hu => by
    obtain ⟨q, hJ⟩ := hu
    have sp := QF_SP q
    have x28 : ixB (nI i) 28 = true := ixB_nI hi (by decide)
    obtain ⟨g1, g2, g3, g4⟩ := hJ.2.2.2.1.2.1 i hi
    rw [(SP_tl sp).1] at g1 g3
    have w1 := (wr_le h i (by omega)).1
    have z1 : (nI (tl s i) = 1) = (tl s i = 1) := n_eq (a := tl s i) (b := 1) (by omega) (by decide)
    have z2 : (nI (tl s i) = 2) = (tl s i = 2) := n_eq (a := tl s i) (b := 2) (by omega) (by decide)
    by_cases ht : tl s i = 1 ∨ tl s i = 2
    · have jg : J (gh u i (3 - tl s i)) := by
        have := gh_w hJ hi (by rw [(SP_tl sp).1]; exact ht)
        rw [(SP_tl sp).1] at this
        exact J_gh hJ this
      obtain ⟨u2, e, q2, j2, cw, -, -⟩ := c_127 hJ hi jg
      have sg := SP_gh sp i (3 - tl s i)
      have l8 := CB_l (SP_CW sg cw).2.1
      have gS := gh_w h hi ht
      have gL := JL_gh hL i (3 - tl s i)
      have f := flI_lt (cok_b hS hL (A := aA 0) (n := nW s)) (cok_b gS gL (A := aA 0) (n := nW (gh s i (3 - tl s i)))) w1
      have at69 : ev 91 69 [some (.inr (.inr (0, 0))), some (.inl (lC (bst s (aA 0) (nW s)))), some (.inl (oI (wrN s i).1)), some (.inl (nI (wrN s i).2)), some (.inl (nI i)), none] [(.inl (nI (3 - tl s i))), (.inl (nI i)), (.inr (.inr (0, 0)))] u = ev 91 21 [some (.inr (.inr (0, 0))), some (.inl (lC (bst s (aA 0) (nW s)))), some (.inl (oI (wrN s (i + 1)).1)), some (.inl (nI (wrN s (i + 1)).2)), some (.inl (nI (i + 1))), none] [] u2 := by
        rw [q_91_at69, e, cV_s, l8, c_128 (cok_b hS hL) (cok_b gS gL), cI_s, nI_s]
        show _ = ev 91 21 [some (.inr (.inr (0, 0))), some (.inl (lC (bst s (aA 0) (nW s)))), some (.inl (oI (if (tl s i = 1 ∨ tl s i = 2) ∧ (wrN s i).2 < flN (bst s (aA 0) (nW s)) (nwB s i) then (some i, flN (bst s (aA 0) (nW s)) (nwB s i)) else wrN s i).1)), some (.inl (nI (if (tl s i = 1 ∨ tl s i = 2) ∧ (wrN s i).2 < flN (bst s (aA 0) (nW s)) (nwB s i) then (some i, flN (bst s (aA 0) (nW s)) (nwB s i)) else wrN s i).2)), some (.inl (nI (i + 1))), none] [] u2
        by_cases hc : (wrN s i).2 < flN (bst s (aA 0) (nW s)) (nwB s i)
        · rw [if_pos (f.1.mpr hc), if_pos ⟨ht, hc⟩, f.2 hc]
          rfl
        · rw [if_neg (fun z => hc (f.1.mp z)), if_neg (fun z => hc z.2)]
      refine ⟨u2, ?_, QF_tr q q2, j2⟩
      show ev 91 21 [some (.inr (.inr (0, 0))), some (.inl (lC (bst s (aA 0) (nW s)))), some (.inl (oI (wrN s i).1)), some (.inl (nI (wrN s i).2)), some (.inl (nI i)), none] [] u = _
      rw [← at69, q_91_at21, if_pos (show nI i < (28 : Int32) from nI_lt hi (by decide)), if_pos x28, if_pos x28, cl_nI (by omega), g1]
      simp only [z1, z2]
      rcases ht with t1 | t1
      · rw [if_pos t1, q_91_at50, if_pos x28, cl_nI (by omega), g1, if_pos (by rw [t1]; rfl), t1]
        rfl
      · rw [if_neg (by omega), if_pos t1, q_91_at50, if_pos x28, cl_nI (by omega), g1, if_neg (by rw [z1]; omega), t1]
        rfl
    · refine ⟨u, ?_, q, hJ⟩
      show ev 91 21 [some (.inr (.inr (0, 0))), some (.inl (lC (bst s (aA 0) (nW s)))), some (.inl (oI (wrN s i).1)), some (.inl (nI (wrN s i).2)), some (.inl (nI i)), none] [] u = ev 91 21 [some (.inr (.inr (0, 0))), some (.inl (lC (bst s (aA 0) (nW s)))), some (.inl (oI (if (tl s i = 1 ∨ tl s i = 2) ∧ (wrN s i).2 < flN (bst s (aA 0) (nW s)) (nwB s i) then (some i, flN (bst s (aA 0) (nW s)) (nwB s i)) else wrN s i).1)), some (.inl (nI (if (tl s i = 1 ∨ tl s i = 2) ∧ (wrN s i).2 < flN (bst s (aA 0) (nW s)) (nwB s i) then (some i, flN (bst s (aA 0) (nW s)) (nwB s i)) else wrN s i).2)), some (.inl (nI (i + 1))), none] [] u
      rw [if_neg (fun z => ht z.1), q_91_at21, if_pos (show nI i < (28 : Int32) from nI_lt hi (by decide)), if_pos x28, if_pos x28, cl_nI (by omega), g1, nI_s]
      simp only [z1, z2]
      rw [if_neg (fun z => ht (Or.inl z)), if_neg (fun z => ht (Or.inr z))]) u0 ⟨q0, j0⟩
  obtain ⟨u, e, q, hJ⟩ := hl
  refine ⟨u, q, hJ, (show ev 91 21 [some (.inr (.inr (0, 0))), some (.inl (lC (bst s (aA 0) (nW s)))), some (.inl (oI (wrN s 0).1)), some (.inl (nI (wrN s 0).2)), some (.inl (nI 0)), none] [] u0 = _ from e).trans ?_⟩
  show ev 91 21 [some (.inr (.inr (0, 0))), some (.inl (lC (bst s (aA 0) (nW s)))), some (.inl (oI (wrN s 28).1)), some (.inl (nI (wrN s 28).2)), some (.inl (nI 28)), none] [] u = _
  have hk := (wr_le h 28 (by decide)).2
  rw [q_91_at21, if_neg (show ¬ nI 28 < (28 : Int32) from irr (nI 28))]
  cases hw : (wrN s 28).1 with
  | none =>
    rw [if_pos (by rfl)]
    rfl
  | some k =>
    have := hk k hw
    rw [if_neg (show ¬ oI (some k) = -9 from fun z => by
      have := (n_ne (a := k) (n := 9) (by omega) (by decide) (by decide)).mp z
      exact this)]
    rfl
theorem c_226l {s u1 v0 : SS} (h : J s) (sp1 : SP s u1) (hS1 : JS u1) (hL1 : JL u1) (rs0 : RS u1 v0) (l2 : Int32) (hl2 : ∀ w c, bst s (aA 0) (nW s) = some (w, c) → l2 = nI c) : ∃ v, RS u1 v ∧ ev 226 27 [some (.inr (.inr (30, 0))), some (.inl (bI (bst s (aA 0) (nW s)).isSome)), some (.inl l2), some (.inl (-9)), some (.inl 0), some (.inl 0), none, none] [] v0 = (match (wrN s 28).1 with
    | none => some (some (.inl (-9)), v)
    | some k => some (some (.inl (nI k)), wI v 30 0 2 (nI (wrN s 28).2))) := by
  have hS := h.2.2.2.1
  have hL := h.2.2.2.2.1
  have hl := lpX (fun i v => ev 226 27 [some (.inr (.inr (30, 0))), some (.inl (bI (bst s (aA 0) (nW s)).isSome)), some (.inl l2), some (.inl (oI (wrN s i).1)), some (.inl (nI (wrN s i).2)), some (.inl (nI i)), none, none] [] v) (fun _ v => RS u1 v) 28 (fun i v hi rs => by
    have sp := SP_tr sp1 (RS_SP rs)
    have js := RS_JS rs hS1
    have jl := RS_JL rs hL1
    have x28 : ixB (nI i) 28 = true := ixB_nI hi (by decide)
    obtain ⟨g1, g2, g3, g4⟩ := js.2.1 i hi
    rw [(SP_tl sp).1] at g2 g3 g4
    have w1 := (wr_le h i (by omega)).1
    by_cases ht : tl s i = 1 ∨ tl s i = 2
    · have t3 : 3 - nI (tl s i) = nI (3 - tl s i) := n_sub (a := 3) (b := tl s i) (by omega)
      have t4 : 3 - nI (3 - tl s i) = nI (tl s i) := by
        have := n_sub (a := 3) (b := 3 - tl s i) (by omega)
        rw [show 3 - (3 - tl s i) = tl s i by omega] at this
        exact this
      have gS' : JS (gh v i (3 - tl s i)) := JS_gh js hi (by omega) (by rw [(SP_tl sp).2.2]; have := g4 (by omega); rw [(SP_tl sp).2.2] at this; exact this) (fun z => by omega)
      have sg := SP_gh sp i (3 - tl s i)
      obtain ⟨v', e, r', tb', rw'⟩ := c_201 gS' (JL_gh jl i (3 - tl s i))
      have rw2 := SP_RW sg rw'
      rw [SP_bst sg, (SP_brk sg).2.2] at e
      have e2 := ev_R (wI v 37 0 i (nI (3 - tl s i))) (by decide) (nLk_s (x := .inr (.inr (30, 0))) rfl nLk_e) e
      rw [← oR_gh] at e2
      have gS := gh_w h hi ht
      have gL := JL_gh hL i (3 - tl s i)
      have f := flI_lt (cok_b hS hL (A := aA 0) (n := nW s)) (cok_b gS gL (A := aA 0) (n := nW (gh s i (3 - tl s i)))) w1
      have e31 : (oR (wI v 37 0 i (nI (3 - tl s i))) v').1 30 0 31 = v'.1 30 0 31 := oR_1 (by decide) (by decide) 0 31
      have e37 : (oR (wI v 37 0 i (nI (3 - tl s i))) v').1 37 0 i = nI (3 - tl s i) := by
        rw [oR_1 (by decide) (by decide), r'.1 37 0 i (by decide) (by decide) (by decide) (fun z => absurd z (by decide))]
        unfold gh
        rw [wI_same]
      have rsf : RS v (wI (oR (wI v 37 0 i (nI (3 - tl s i))) v') 37 0 i (nI (tl s i))) := by
        have := RS_fin (u1 := v) (Tu := v) (Tg := gh v i (3 - tl s i)) (T := v') (j := i) (w := 3 - tl s i) r' (fun a b c h1 h2 h3 => gh_1 (fun z => by omega) (fun z => by omega) (fun z1 z2 => h3 ⟨z1, z2⟩)) (fun _ _ _ _ _ => rfl) (fun _ _ _ _ => rfl) (fun _ _ _ _ => rfl) rfl rfl
        rw [g2] at this
        exact this
      have at96 : ∀ t : Int32, ((nI (wrN s i).2 < t) = ((wrN s i).2 < flN (bst s (aA 0) (nW s)) (nwB s i))) → ((wrN s i).2 < flN (bst s (aA 0) (nW s)) (nwB s i) → t = nI (flN (bst s (aA 0) (nW s)) (nwB s i))) → ev 226 96 [some (.inr (.inr (30, 0))), some (.inl (bI (bst s (aA 0) (nW s)).isSome)), some (.inl l2), some (.inl (oI (wrN s i).1)), some (.inl (nI (wrN s i).2)), some (.inl (nI i)), none, none] [(.inl t)] (oR (wI v 37 0 i (nI (3 - tl s i))) v') = ev 226 27 [some (.inr (.inr (30, 0))), some (.inl (bI (bst s (aA 0) (nW s)).isSome)), some (.inl l2), some (.inl (oI (wrN s (i + 1)).1)), some (.inl (nI (wrN s (i + 1)).2)), some (.inl (nI (i + 1))), none, none] [] (wI (oR (wI v 37 0 i (nI (3 - tl s i))) v') 37 0 i (nI (tl s i))) := by
        intro t h1 h2
        rw [q_226_at96, if_pos x28, if_pos x28, cl_nI (by omega), e37, t4, nI_s]
        show _ = ev 226 27 [some (.inr (.inr (30, 0))), some (.inl (bI (bst s (aA 0) (nW s)).isSome)), some (.inl l2), some (.inl (oI (if (tl s i = 1 ∨ tl s i = 2) ∧ (wrN s i).2 < flN (bst s (aA 0) (nW s)) (nwB s i) then (some i, flN (bst s (aA 0) (nW s)) (nwB s i)) else wrN s i).1)), some (.inl (nI (if (tl s i = 1 ∨ tl s i = 2) ∧ (wrN s i).2 < flN (bst s (aA 0) (nW s)) (nwB s i) then (some i, flN (bst s (aA 0) (nW s)) (nwB s i)) else wrN s i).2)), some (.inl (nI (i + 1))), none, none] [] (wI (oR (wI v 37 0 i (nI (3 - tl s i))) v') 37 0 i (nI (tl s i)))
        by_cases hc : (wrN s i).2 < flN (bst s (aA 0) (nW s)) (nwB s i)
        · rw [if_pos (h1.mpr hc), if_pos ⟨ht, hc⟩, h2 hc]
          rfl
        · rw [if_neg (fun z => hc (h1.mp z)), if_neg (fun z => hc z.2)]
      refine ⟨wI (oR (wI v 37 0 i (nI (3 - tl s i))) v') 37 0 i (nI (tl s i)), ?_, RS_tr rs rsf⟩
      show ev 226 27 [some (.inr (.inr (30, 0))), some (.inl (bI (bst s (aA 0) (nW s)).isSome)), some (.inl l2), some (.inl (oI (wrN s i).1)), some (.inl (nI (wrN s i).2)), some (.inl (nI i)), none, none] [] v = _
      rw [q_226_at27, if_pos (show nI i < (28 : Int32) from nI_lt hi (by decide)), if_pos x28, cl_nI (by omega), g2, c_144, told12 _ g3, cI_s, ite_bI, if_pos (show (tl s i == 1 || tl s i == 2) = true by
        rcases ht with z | z <;> rw [z] <;> rfl), if_pos x28, if_pos x28, g2, t3, e2, cI_s, ite_bI, ite_bI, e31]
      have rb := rw2.2.1
      unfold RB at rb
      have hnw : nwB s i = bst (gh s i (3 - tl s i)) (aA 0) (nW (gh s i (3 - tl s i))) := rfl
      cases hp : bst (gh s i (3 - tl s i)) (aA 0) (nW (gh s i (3 - tl s i))) with
      | none =>
        rw [if_neg (by simp)]
        refine at96 0 ?_ ?_
        · rw [hnw, hp]
          exact n_lt (b := 0) (by omega) (by decide)
        · rw [hnw, hp]
          exact fun z => absurd z (Nat.not_lt_zero _)
      | some p =>
        obtain ⟨w', c'⟩ := p
        rw [hp] at rb
        rw [if_pos (by simp), rb.2]
        have hfl : flI (bst s (aA 0) (nW s)) (some (w', c')) = (if (bst s (aA 0) (nW s)).isSome = true then l2 - nI c' else 1000) := by
          cases hq : bst s (aA 0) (nW s) with
          | none => rfl
          | some p0 =>
            obtain ⟨w0, c0⟩ := p0
            rw [hl2 w0 c0 hq]
            rfl
        rw [hp] at f
        by_cases hs : (bst s (aA 0) (nW s)).isSome = true
        · rw [if_pos hs] at hfl ⊢
          refine at96 _ ?_ ?_
          · rw [← hfl, hnw, hp]
            exact f.1
          · rw [← hfl, hnw, hp]
            exact f.2
        · rw [if_neg hs] at hfl ⊢
          refine at96 _ ?_ ?_
          · rw [← hfl, hnw, hp]
            exact f.1
          · rw [← hfl, hnw, hp]
            exact f.2
    · refine ⟨v, ?_, rs⟩
      show ev 226 27 [some (.inr (.inr (30, 0))), some (.inl (bI (bst s (aA 0) (nW s)).isSome)), some (.inl l2), some (.inl (oI (wrN s i).1)), some (.inl (nI (wrN s i).2)), some (.inl (nI i)), none, none] [] v = ev 226 27 [some (.inr (.inr (30, 0))), some (.inl (bI (bst s (aA 0) (nW s)).isSome)), some (.inl l2), some (.inl (oI (if (tl s i = 1 ∨ tl s i = 2) ∧ (wrN s i).2 < flN (bst s (aA 0) (nW s)) (nwB s i) then (some i, flN (bst s (aA 0) (nW s)) (nwB s i)) else wrN s i).1)), some (.inl (nI (if (tl s i = 1 ∨ tl s i = 2) ∧ (wrN s i).2 < flN (bst s (aA 0) (nW s)) (nwB s i) then (some i, flN (bst s (aA 0) (nW s)) (nwB s i)) else wrN s i).2)), some (.inl (nI (i + 1))), none, none] [] v
      have hb : (tl s i == 1 || tl s i == 2) = false := by
        have a1 : ¬ tl s i = 1 := fun z => ht (Or.inl z)
        have a2 : ¬ tl s i = 2 := fun z => ht (Or.inr z)
        rw [beq_false_of_ne a1, beq_false_of_ne a2]
        rfl
      rw [if_neg (fun z => ht z.1), q_226_at27, if_pos (show nI i < (28 : Int32) from nI_lt hi (by decide)), if_pos x28, cl_nI (by omega), g2, c_144, told12 _ g3, cI_s, ite_bI, hb, if_neg (by decide), nI_s]) v0 rs0
  obtain ⟨v, e, rs⟩ := hl
  refine ⟨v, rs, (show ev 226 27 [some (.inr (.inr (30, 0))), some (.inl (bI (bst s (aA 0) (nW s)).isSome)), some (.inl l2), some (.inl (oI (wrN s 0).1)), some (.inl (nI (wrN s 0).2)), some (.inl (nI 0)), none, none] [] v0 = _ from e).trans ?_⟩
  show ev 226 27 [some (.inr (.inr (30, 0))), some (.inl (bI (bst s (aA 0) (nW s)).isSome)), some (.inl l2), some (.inl (oI (wrN s 28).1)), some (.inl (nI (wrN s 28).2)), some (.inl (nI 28)), none, none] [] v = _
  have hk := (wr_le h 28 (by decide)).2
  rw [q_226_at27, if_neg (show ¬ nI 28 < (28 : Int32) from irr (nI 28))]
  cases hw : (wrN s 28).1 with
  | none =>
    rw [if_pos (by decide)]
  | some k =>
    have := hk k hw
    rw [if_neg (show ¬ oI (some k) < 0 from nI_pos (by omega)), q_146, cI_s]
    rfl
theorem pub_wrong {s : SS} (h : J s) : PI 91 226 [some (.inr (.inr (0, 0))), none, none, none, none, none] [some (.inr (.inr (30, 0))), none, none, none, none, none, none, none] s := by
  have hS := h.2.2.2.1
  have hL := h.2.2.2.2.1
  obtain ⟨u0, e1, sv⟩ := sv0 h
  obtain ⟨u, q, hJ, e2⟩ := c_91l h sv.1 sv.2.1
  have cls : ev 91 0 [some (.inr (.inr (0, 0))), none, none, none, none, none] [] s = ev 91 21 [some (.inr (.inr (0, 0))), some (.inl (lC (bst s (aA 0) (nW s)))), some (.inl (-9)), some (.inl 0), some (.inl 0), none] [] u0 := by
    rw [q_91, e1, cV_s, CB_l sv.2.2.2.2.2.1]
  rw [e2] at cls
  have R : ∀ u1, TK u u1 → ∃ v, RS u1 v ∧ ev 226 0 [some (.inr (.inr (30, 0))), none, none, none, none, none, none, none] [] u1 = (match (wrN s 28).1 with
      | none => some (some (.inl (-9)), v)
      | some k => some (some (.inl (nI k)), wI v 30 0 2 (nI (wrN s 28).2))) := by
    intro u1 tk
    have sp1 := SP_tr (QF_SP q) (TK_SP tk)
    obtain ⟨v, f1, i1, w1⟩ := c_201i hJ (QF_SP q) tk
    have rb := w1.2.1
    unfold RB at rb
    cases hp : bst s (aA 0) (nW s) with
    | none =>
      obtain ⟨v2, rs2, e3⟩ := c_226l h sp1 (TK_JS tk hJ.2.2.2.1) (TK_JL tk hJ.2.2.2.2.1) i1.1 0 (fun w c z => by rw [hp] at z; cases z)
      refine ⟨v2, rs2, ?_⟩
      rw [hp] at f1 e3
      rw [q_226, f1, cI_s, if_pos (by rfl), e3]
    | some p =>
      obtain ⟨w0, c0⟩ := p
      rw [hp] at rb
      obtain ⟨v2, rs2, e3⟩ := c_226l h sp1 (TK_JS tk hJ.2.2.2.1) (TK_JL tk hJ.2.2.2.2.1) i1.1 (nI c0) (fun w c z => by rw [hp] at z; cases z; rfl)
      refine ⟨v2, rs2, ?_⟩
      rw [hp] at f1 e3
      rw [q_226, f1, cI_s, if_neg (show ¬ bI (some (w0, c0)).isSome = 0 from fun z => absurd z (by simp [bI])), rb.2, e3]
  cases hw : (wrN s 28).1 with
  | none =>
    rw [hw] at cls
    obtain ⟨v, rs, e3⟩ := R u TK_rf
    rw [hw] at e3
    exact PS (-9) cls e3 hJ rs (QF_60 q) (QF_60 q)
  | some k =>
    rw [hw] at cls
    obtain ⟨v, rs, e3⟩ := R _ (TK_9 (v := nI (wrN s 28).2))
    rw [hw] at e3
    exact PS (nI k) cls e3 (J_ask hJ _) (RS_wI rs _ _ _ _) (fun b c => QF_60 q b c) (fun b c => QF_60 q b c)
