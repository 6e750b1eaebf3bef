/-! the same names, sayings and laws: the same weighing -/
def SP (s t : SS) : Prop := Ag [37, 42, 43, 44, 45, 46, 47, 48, 49] s t ∧ t.1 30 0 10 = s.1 30 0 10
theorem SP_tr {s t u : SS} (h1 : SP s t) (h2 : SP t u) : SP s u := ⟨Ag_tr h1.1 h2.1, h2.2.trans h1.2⟩
theorem SP_brk {s t : SS} (h : SP s t) : brk t = brk s ∧ soB t = soB s ∧ nW t = nW s := brk_ag (Ag_mono h.1 (by decide)) h.2
theorem SP_wt {s t : SS} (h : SP s t) : wtN t = wtN s := by
  funext k
  unfold wtN
  rw [(h.1.1 43 (by decide)).1]
theorem SP_hb {s t : SS} (h : SP s t) : hbB t = hbB s := by
  funext A v
  unfold hbB
  rw [(SP_brk h).1]
  simp only [(h.1.1 42 (by decide)).1]
theorem SP_sc {s t : SS} (h : SP s t) : scN t = scN s := by
  funext A v
  unfold scN
  rw [(SP_brk h).1, SP_wt h]
  simp only [(h.1.1 42 (by decide)).1]
theorem SP_bst {s t : SS} (h : SP s t) (A : Nat → Bool) : ∀ n, bst t A n = bst s A n
  | 0 => rfl
  | n + 1 => by
    unfold bst
    rw [SP_bst h A n, SP_hb h, SP_sc h]
theorem SP_sh {s t : SS} (h : SP s t) : shN t = shN s := by
  funext A v
  unfold shN
  rw [SP_hb h, SP_sc h, (SP_brk h).2.2, SP_bst h A]
theorem SP_all {s t : SS} (h : SP s t) : allN t = allN s := by
  funext A
  unfold allN
  rw [SP_sh h, (SP_brk h).2.2]
/-! what the reference's weighing sets -/
def RG (s u : SS) : Prop := (∀ a b c, a ≠ 52 → (a = 30 → c ≠ 30 ∧ c ≠ 31) → u.1 a b c = s.1 a b c) ∧ u.2.2 = s.2.2 ∧ ∀ a b c, a ≠ 53 → (a = 30 → c ≠ 34) → u.2.1 a b c = s.2.1 a b c
theorem RG_rf {s : SS} : RG s s := ⟨fun _ _ _ _ _ => rfl, rfl, fun _ _ _ _ _ => rfl⟩
theorem RG_tr {s t u : SS} (h1 : RG s t) (h2 : RG t u) : RG s u := ⟨fun a b c x y => (h2.1 a b c x y).trans (h1.1 a b c x y), h2.2.1.trans h1.2.1, fun a b c x y => (h2.2.2 a b c x y).trans (h1.2.2 a b c x y)⟩
theorem RG_52 {s : SS} {j i : Nat} {v : Int32} : RG s (wI s 52 j i v) := ⟨fun a b c x _ => by rw [wI_1, if_neg (fun z => x z.1)], rfl, fun _ _ _ _ _ => rfl⟩
theorem RG_30 {s : SS} {v : Int32} : RG s (wI s 30 0 30 v) := ⟨fun a b c _ y => by rw [wI_1, if_neg (fun z => (y z.1).1 z.2.2)], rfl, fun _ _ _ _ _ => rfl⟩
theorem RG_31 {s : SS} {v : Int32} : RG s (wI s 30 0 31 v) := ⟨fun a b c _ y => by rw [wI_1, if_neg (fun z => (y z.1).2 z.2.2)], rfl, fun _ _ _ _ _ => rfl⟩
theorem RG_53 {s : SS} {j i : Nat} {v : Int64} : RG s (wL s 53 j i v) := ⟨fun _ _ _ _ _ => rfl, rfl, fun a b c x _ => by rw [wL_2, if_neg (fun z => x z.1)]⟩
theorem RG_34 {s : SS} {v : Int64} : RG s (wL s 30 0 34 v) := ⟨fun _ _ _ _ _ => rfl, rfl, fun a b c _ y => by rw [wL_2, if_neg (fun z => y z.1 z.2.2)]⟩
theorem RG_Ag {s u : SS} (h : RG s u) {K : List Nat} (hd : ∀ a, a ∈ K → a ≠ 52 ∧ a ≠ 53 ∧ a ≠ 30) : Ag K s u := ⟨fun a ha => ⟨fun b c => h.1 a b c (hd a ha).1 (fun z => absurd z (hd a ha).2.2), fun b c => h.2.2 a b c (hd a ha).2.1 (fun z => absurd z (hd a ha).2.2)⟩, h.2.1⟩
theorem RG_SP {s u : SS} (h : RG s u) : SP s u := ⟨RG_Ag h (by decide), h.1 30 0 10 (by decide) (by decide)⟩
theorem RG_JS {s u : SS} (h : RG s u) (hS : JS s) : JS u := JS_ag (RG_Ag h (by decide)) (h.1 0 0 7 (by decide) (by decide)) (h.1 30 0 10 (by decide) (by decide)) hS
theorem RG_JL {s u : SS} (h : RG s u) (hL : JL s) : JL u := JL_ag (RG_Ag h (by decide)) hL
theorem RG_TB {s u : SS} (h : RG s u) (hT : TB s) : TB u := by
  refine ⟨BT_ag (RG_Ag h (by decide)) (h.1 30 0 28 (by decide) (by decide)) hT.1, fun k w hk hw => ?_⟩
  rw [(SP_brk (RG_SP h)).2.2] at hw
  rw [(SP_brk (RG_SP h)).1, h.1 51 _ _ (by decide) (fun z => absurd z (by decide))]
  exact hT.2 k w hk hw
def cR (s : SS) (A : Nat → Bool) (v : Nat) : Int32 := if hbB s A v = true then -9 else nI (scN s A v)
def RB (s : SS) (A : Nat → Bool) (i : Nat) (u : SS) : Prop := match bst s A i with
  | none => u.1 30 0 30 = -9
  | some (w, c) => u.1 30 0 30 = nI w ∧ u.1 30 0 31 = nI c
theorem c_200a {s : SS} (hS : JS s) (hL : JL s) (hT : TB s) {l : Nat} (hl : l < 256) : ∃ u, ev 200 0 [some (.inr (.inr (30, 0))), some (.inl (nI l)), none, none] [] s = ev 200 85 [some (.inr (.inr (30, 0))), none, some (.inl 0), none] [] (wL u 30 0 34 0) ∧ RG s u ∧ (∀ v, v < nW s → u.1 52 0 v = cR s (fun k => l.testBit k) v) ∧ RB s (fun k => l.testBit k) (nW s) u := by
  have hW := nW_le hS
  generalize hA : (fun k => l.testBit k) = A
  have hl := lpX (fun i u => ev 200 8 [some (.inr (.inr (30, 0))), some (.inl (nI l)), some (.inl (nI i)), none] [] u) (fun i u => RG s u ∧ (∀ v, v < i → u.1 52 0 v = cR s A v) ∧ RB s A i u) (nW s) (fun i u hi hu => by
    obtain ⟨o, g, b⟩ := hu
    have x : ixB (nI i) 1024 = true := ixB_nI (by omega) (by decide)
    have e28 : u.1 30 0 28 = nI (nW s) := (o.1 30 0 28 (by decide) (by decide)).trans hT.1.2
    have e9 : ev 199 0 [some (.inr (.inr (30, 0))), some (.inl (nI l)), some (.inl (nI i)), none, none, none] [] u = some (some (.inl (cR s A i)), u) := by
      have := c_199 (RG_JS o hS) (RG_JL o hL) (RG_TB o hT) hl (v := i) (by rw [(SP_brk (RG_SP o)).2.2]; exact hi)
      rw [hA, SP_hb (RG_SP o), SP_sc (RG_SP o)] at this
      exact this
    have nx : ∀ t : SS, t.1 52 0 i = cR s A i → (∀ v, v ≠ i → t.1 52 0 v = u.1 52 0 v) → ∀ v, v < i + 1 → t.1 52 0 v = cR s A v := fun t h1 h2 v hv => by
      by_cases e : v = i
      · rw [e]; exact h1
      · rw [h2 v e]; exact g v (by omega)
    have hc := sc_le hS hL A i
    have f : ∀ c, (wI u 52 0 i c).1 52 0 i = c := fun c => wI_same ..
    have f30 : ∀ c n, (wI u 52 0 i c).1 30 0 n = u.1 30 0 n := fun c n => by rw [wI_1, if_neg (by omega)]
    have go : ev 200 8 [some (.inr (.inr (30, 0))), some (.inl (nI l)), some (.inl (nI i)), none] [] u = (if cR s A i < 0 then ev 200 8 [some (.inr (.inr (30, 0))), some (.inl (nI l)), some (.inl (nI (i + 1))), none] [] (wI u 52 0 i (cR s A i)) else if u.1 30 0 30 < 0 then ev 200 8 [some (.inr (.inr (30, 0))), some (.inl (nI l)), some (.inl (nI (i + 1))), none] [] (wI (wI (wI u 52 0 i (cR s A i)) 30 0 30 (nI i)) 30 0 31 (cR s A i)) else if cR s A i < u.1 30 0 31 then ev 200 8 [some (.inr (.inr (30, 0))), some (.inl (nI l)), some (.inl (nI (i + 1))), none] [] (wI (wI (wI u 52 0 i (cR s A i)) 30 0 30 (nI i)) 30 0 31 (cR s A i)) else ev 200 8 [some (.inr (.inr (30, 0))), some (.inl (nI l)), some (.inl (nI (i + 1))), none] [] (wI u 52 0 i (cR s A i))) := by
      rw [q_200_at8, e28, if_pos (nI_lt hi (by omega)), e9, cI_s]
      simp only [if_pos x]
      have f2 : ∀ c w, (wI (wI u 52 0 i c) 30 0 30 w).1 52 0 i = c := fun c w => by rw [wI_1, if_neg (by omega)]; exact f c
      rw [cl_nI (by omega), f, f30, f30, f2, nI_s]
    have A1 : ∀ t : SS, RG (wI u 52 0 i (cR s A i)) t → t.1 52 = (wI u 52 0 i (cR s A i)).1 52 → ∀ v, v < i + 1 → t.1 52 0 v = cR s A v := fun t _ h => nx t (by rw [h]; exact f _) (fun v hv => by rw [h, wI_1, if_neg (fun z => hv z.2.2)])
    by_cases hb : hbB s A i = true
    · have ec : cR s A i = -9 := if_pos hb
      rw [ec] at go A1
      rw [if_pos (by decide)] at go
      refine ⟨_, go, RG_tr o RG_52, A1 _ RG_rf rfl, ?_⟩
      unfold RB bst
      rw [if_pos hb]
      unfold RB at b
      rw [f30, f30]
      exact b
    · have ec : cR s A i = nI (scN s A i) := if_neg hb
      rw [ec] at go A1
      rw [if_neg (nI_pos (by omega))] at go
      have upd : RB s A (i + 1) (wI (wI (wI u 52 0 i (nI (scN s A i))) 30 0 30 (nI i)) 30 0 31 (nI (scN s A i))) ∨ True := Or.inr trivial
      have k30 : (wI (wI (wI u 52 0 i (nI (scN s A i))) 30 0 30 (nI i)) 30 0 31 (nI (scN s A i))).1 30 0 30 = nI i := rfl
      have k31 : (wI (wI (wI u 52 0 i (nI (scN s A i))) 30 0 30 (nI i)) 30 0 31 (nI (scN s A i))).1 30 0 31 = nI (scN s A i) := rfl
      unfold RB at b
      cases hp : bst s A i with
      | none =>
        rw [hp] at b
        simp only at b
        rw [if_pos (by rw [b]; decide)] at go
        refine ⟨_, go, RG_tr o (RG_tr RG_52 (RG_tr RG_30 RG_31)), A1 _ (RG_tr RG_30 RG_31) rfl, ?_⟩
        unfold RB bst
        rw [if_neg hb, hp]
        exact ⟨k30, k31⟩
      | some q =>
        obtain ⟨w0, c0⟩ := q
        rw [hp] at b
        simp only at b
        have hw := (bst_some hp).1
        have h0 := sc_le hS hL A w0
        rw [← (bst_some hp).2.2] at h0
        rw [if_neg (by rw [b.1]; exact nI_pos (by omega)), b.2] at go
        by_cases hl : scN s A i < c0
        · rw [if_pos (nI_lt hl (by omega))] at go
          refine ⟨_, go, RG_tr o (RG_tr RG_52 (RG_tr RG_30 RG_31)), A1 _ (RG_tr RG_30 RG_31) rfl, ?_⟩
          unfold RB bst
          rw [if_neg hb, hp]
          simp only [if_pos hl]
          exact ⟨k30, k31⟩
        · rw [if_neg (by rw [n_lt (by omega) (by omega)]; exact hl)] at go
          refine ⟨_, go, RG_tr o RG_52, A1 _ RG_rf rfl, ?_⟩
          unfold RB bst
          rw [if_neg hb, hp]
          simp only [if_neg hl]
          rw [f30, f30]
          exact b) (wI s 30 0 30 (-9)) ⟨RG_30, fun v hv => absurd hv (Nat.not_lt_zero v), rfl⟩
  obtain ⟨u, e, o, g, b⟩ := hl
  refine ⟨u, ?_, o, g, b⟩
  have e28 : u.1 30 0 28 = nI (nW s) := (o.1 30 0 28 (by decide) (by decide)).trans hT.1.2
  rw [q_200]
  refine (show ev 200 8 [some (.inr (.inr (30, 0))), some (.inl (nI l)), some (.inl (nI 0)), none] [] (wI s 30 0 30 (-9)) = _ from e).trans ?_
  rw [q_200_at8, e28, if_neg (irr _)]
theorem sh20 : ∀ k, k < 21 → (1 : Int64) <<< ((nI k).toInt64 &&& 63) = lN (2 ^ k) := by decide
