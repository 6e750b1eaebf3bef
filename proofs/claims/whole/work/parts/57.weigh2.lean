theorem c_47 {s : SS} (hS : JS s) {A : Nat → Bool} {v : Nat} (hL : JL s) (hv : v < nW s) (h9 : s.2.1 19 0 v = lN (bkN s v)) (h22 : ∀ k, k < 8 → s.1 22 0 k = nI (wA22 s A k)) : ev 47 0 [some (.inr (.inr (11, 0))), some (.inl (nI v)), none, none] [] s = some (some (.inl (nI (scN s A v))), s) := by
  have h := lpN (P := fun i => ev 47 4 [some (.inr (.inr (11, 0))), some (.inl (nI v)), some (.inl (nI (sm (fun k => if (A k && softB (s.1 42 0 k)) = true then wtN s k * brk s k v else 0) i))), some (.inl (nI i))] [] s) 8 (fun i hi => by
    show ev 47 4 [some (.inr (.inr (11, 0))), some (.inl (nI v)), some (.inl (nI (sm (fun k => if (A k && softB (s.1 42 0 k)) = true then wtN s k * brk s k v else 0) i))), some (.inl (nI i))] [] s = ev 47 4 [some (.inr (.inr (11, 0))), some (.inl (nI v)), some (.inl (nI (sm (fun k => if (A k && softB (s.1 42 0 k)) = true then wtN s k * brk s k v else 0) i + (if (A i && softB (s.1 42 0 i)) = true then wtN s i * brk s i v else 0)))), some (.inl (nI (i + 1)))] [] s
    have x8 : ixB (nI i) 8 = true := ixB_nI hi (by decide)
    have hw : wA22 s A i ≤ 9 := by
      unfold wA22
      split
      · rename_i z
        rw [Bool.and_eq_true] at z
        exact (wt_le hL hi z.2).1
      · omega
    rw [q_47_at4, if_pos (show nI i < (8 : Int32) from nI_lt hi (by decide)), if_pos x8, cl_nI (by omega), h22 i hi, if_pos x8, nI_s, c_49 hS hi hv h9, cI_s, n_mul, n_add]
    have e2 : (if (A i && softB (s.1 42 0 i)) = true then wtN s i * brk s i v else 0) = wA22 s A i * brk s i v := by
      unfold wA22
      split
      · rfl
      · rw [Nat.zero_mul]
    rw [e2]
    by_cases z : wA22 s A i = 0
    · rw [if_pos (by rw [z]; rfl), z, Nat.zero_mul]
      rfl
    · rw [if_neg (by rw [z_eq (by omega)]; exact z)])
  rw [q_47]
  refine (show ev 47 4 [some (.inr (.inr (11, 0))), some (.inl (nI v)), some (.inl (nI 0)), some (.inl (nI 0))] [] s = _ from h).trans ?_
  rw [q_47_at4, if_neg (show ¬ nI 8 < (8 : Int32) from irr (nI 8))]
  rfl
def cC (s : SS) (A : Nat → Bool) (v : Nat) : Int32 := if hbB s A v = true then 1000000 else nI (scN s A v)
def CB (s : SS) (A : Nat → Bool) (i : Nat) (u : SS) : Prop := match bst s A i with
  | none => u.1 11 0 7 = 0 ∧ u.1 11 0 8 = 1000000
  | some (w, c) => u.1 11 0 7 = nI w ∧ u.1 11 0 8 = nI c
theorem c_45b {s t : SS} {A : Nat → Bool} (hS : JS s) (hL : JL s) (hT : Tab s) {x : Int64} (hM : HM s A 8 x) (o0 : OffK [22] s t) (h22 : ∀ k, k < 8 → t.1 22 0 k = nI (wA22 s A k)) : ∃ u, ev 45 124 [some (.inr (.inr (11, 0))), none, none, some (.inr (.inl x)), none, some (.inl 0), none] [] (wI (wI t 11 0 7 0) 11 0 8 1000000) = cV (ev 46 0 [some (.inr (.inr (11, 0))), none, none] [] u) (fun s2 => some (none, s2)) ∧ CF s u ∧ (∀ v, v < nW s → u.1 20 0 v = cC s A v) ∧ CB s A (nW s) u ∧ u.2 = s.2 ∧ ∀ k, k < 8 → u.1 22 0 k = nI (wA22 s A k) := by
  have hW := nW_le hS
  have cf0 : CF s t := ⟨fun a b c _ y _ => o0.1 a b c (by simp; omega), by rw [o0.2], fun a b c _ _ => by rw [o0.2]⟩
  have hl := lpX (fun i u => ev 45 124 [some (.inr (.inr (11, 0))), none, none, some (.inr (.inl x)), none, some (.inl (nI i)), none] [] u) (fun i u => CF s u ∧ (∀ v, v < i → u.1 20 0 v = cC s A v) ∧ CB s A i u ∧ (∀ k, k < 8 → u.1 22 0 k = nI (wA22 s A k)) ∧ u.2 = s.2) (nW s) (fun i u hi hu => by
    obtain ⟨o, g, b, h2, h3⟩ := hu
    have x1 : ixB (nI i) 1024 = true := ixB_nI (by omega) (by decide)
    have e0 : u.1 11 0 0 = nI (nW s) := (o.1 11 0 0 (by decide) (by decide) (by decide)).trans hT.1
    have sp := CF_SP o
    have hc := sc_le hS hL A i
    have e47 : ev 47 0 [some (.inr (.inr (11, 0))), some (.inl (nI i)), none, none] [] u = some (some (.inl (nI (scN s A i))), u) := by
      have := c_47 (CF_JS o hS) (A := A) (v := i) (CF_JL o hL) (by rw [(SP_brk sp).2.2]; exact hi) ((CF_Tab o hT).2.2 i (by rw [(SP_brk sp).2.2]; exact hi)) (fun k hk => by
        rw [h2 k hk]
        unfold wA22
        rw [SP_wt sp, (sp.1.1 42 (by decide)).1])
      rw [SP_sc sp] at this
      exact this
    have e19 : u.2.1 19 0 i = lN (bkN s i) := by
      rw [h3]
      exact hT.2.2 i hi
    have f : ∀ c, (wI u 20 0 i c).1 20 0 i = c := fun c => wI_same ..
    have f2 : ∀ c w, (wI (wI u 20 0 i c) 11 0 7 w).1 20 0 i = c := fun c w => by rw [wI_1, if_neg (by omega)]; exact f c
    have f11 : ∀ c n, (wI u 20 0 i c).1 11 0 n = u.1 11 0 n := fun c n => by rw [wI_1, if_neg (by omega)]
    have s1 : ev 45 124 [some (.inr (.inr (11, 0))), none, none, some (.inr (.inl x)), none, some (.inl (nI i)), none] [] u = ev 45 164 [some (.inr (.inr (11, 0))), none, none, some (.inr (.inl x)), none, some (.inl (nI i)), none] [(.inl (cC s A i)), (.inl (nI i)), (.inr (.inr (20, 0)))] u := by
      rw [q_45_at124, e0, if_pos (nI_lt hi (by omega)), if_pos x1, cl_nI (by omega), e19]
      have z := (lg_z (lN (bkN s i) &&& x) 0).trans (HM_hb hS hM i)
      unfold cC
      cases hb : hbB s A i with
      | true =>
        rw [if_neg (by rw [z, hb]; decide)]
        rfl
      | false =>
        rw [if_pos (by rw [z]; exact hb), e47, cI_s]
        rfl
    have go : ev 45 124 [some (.inr (.inr (11, 0))), none, none, some (.inr (.inl x)), none, some (.inl (nI i)), none] [] u = (if cC s A i < u.1 11 0 8 then ev 45 124 [some (.inr (.inr (11, 0))), none, none, some (.inr (.inl x)), none, some (.inl (nI (i + 1))), none] [] (wI (wI (wI u 20 0 i (cC s A i)) 11 0 7 (nI i)) 11 0 8 (cC s A i)) else ev 45 124 [some (.inr (.inr (11, 0))), none, none, some (.inr (.inl x)), none, some (.inl (nI (i + 1))), none] [] (wI u 20 0 i (cC s A i))) := by
      rw [s1, q_45_at164]
      simp only [if_pos x1]
      rw [cl_nI (by omega), f, f11, f2, nI_s]
    have A1 : ∀ t : SS, t.1 20 = (wI u 20 0 i (cC s A i)).1 20 → ∀ v, v < i + 1 → t.1 20 0 v = cC s A v := fun t h v hv => by
      rw [h, wI_1]
      by_cases e : v = i
      · rw [if_pos ⟨rfl, rfl, e⟩, e]
      · rw [if_neg (fun z => e z.2.2)]
        exact g v (by omega)
    by_cases hb : hbB s A i = true
    · have ec : cC s A i = 1000000 := if_pos hb
      have hn : ¬ (1000000 : Int32) < u.1 11 0 8 := by
        unfold CB at b
        cases hp : bst s A i with
        | none =>
          rw [hp] at b
          rw [b.2]
          decide
        | some q =>
          obtain ⟨w0, c0⟩ := q
          rw [hp] at b
          have h0 := sc_le hS hL A w0
          rw [← (bst_some hp).2.2] at h0
          rw [b.2, show (1000000 : Int32) = nI 1000000 from rfl, n_lt (by decide) (by omega)]
          omega
      rw [if_neg (by rw [ec]; exact hn)] at go
      refine ⟨_, go, CF_tr o CF_20, A1 _ rfl, ?_, h2, h3⟩
      unfold CB bst
      rw [if_pos hb]
      unfold CB at b
      rw [f11, f11]
      exact b
    · have ec : cC s A i = nI (scN s A i) := if_neg hb
      unfold CB at b
      have k7 : ∀ c, (wI (wI (wI u 20 0 i c) 11 0 7 (nI i)) 11 0 8 (nI (scN s A i))).1 11 0 7 = nI i := fun _ => rfl
      have k8 : ∀ c, (wI (wI (wI u 20 0 i c) 11 0 7 (nI i)) 11 0 8 (nI (scN s A i))).1 11 0 8 = nI (scN s A i) := fun _ => rfl
      cases hp : bst s A i with
      | none =>
        rw [hp] at b
        simp only at b
        rw [if_pos (by rw [ec, b.2]; exact nI_lt (b := 1000000) (by omega) (by decide))] at go
        refine ⟨_, go, CF_tr o (CF_tr CF_20 (CF_tr CF_7 CF_8)), A1 _ rfl, ?_, h2, h3⟩
        unfold CB bst
        rw [if_neg hb, hp, ec]
        exact ⟨k7 _, k8 _⟩
      | some q =>
        obtain ⟨w0, c0⟩ := q
        rw [hp] at b
        simp only at b
        have hw := (bst_some hp).1
        have h0 := sc_le hS hL A w0
        rw [← (bst_some hp).2.2] at h0
        by_cases hl : scN s A i < c0
        · rw [if_pos (by rw [ec, b.2]; exact nI_lt hl (by omega))] at go
          refine ⟨_, go, CF_tr o (CF_tr CF_20 (CF_tr CF_7 CF_8)), A1 _ rfl, ?_, h2, h3⟩
          unfold CB bst
          rw [if_neg hb, hp, ec]
          simp only [if_pos hl]
          exact ⟨k7 _, k8 _⟩
        · rw [if_neg (by rw [ec, b.2, n_lt (by omega) (by omega)]; exact hl)] at go
          refine ⟨_, go, CF_tr o CF_20, A1 _ rfl, ?_, h2, h3⟩
          unfold CB bst
          rw [if_neg hb, hp]
          simp only [if_neg hl]
          rw [f11, f11]
          exact b) (wI (wI t 11 0 7 0) 11 0 8 1000000) ⟨CF_tr cf0 (CF_tr CF_7 CF_8), fun v hv => absurd hv (Nat.not_lt_zero v), ⟨rfl, rfl⟩, h22, o0.2⟩
  obtain ⟨u, e, o, g, b, h2, h3⟩ := hl
  refine ⟨u, ?_, o, g, b, h3, h2⟩
  have e0 : u.1 11 0 0 = nI (nW s) := (o.1 11 0 0 (by decide) (by decide) (by decide)).trans hT.1
  refine (show ev 45 124 [some (.inr (.inr (11, 0))), none, none, some (.inr (.inl x)), none, some (.inl (nI 0)), none] [] (wI (wI t 11 0 7 0) 11 0 8 1000000) = _ from e).trans ?_
  rw [q_45_at124, e0, if_neg (irr _)]
