/-! the reference's whole weighing, and its frame -/
def RS (s u : SS) : Prop := (∀ a b c, a ≠ 50 → a ≠ 51 → a ≠ 52 → (a = 30 → c ≤ 10) → u.1 a b c = s.1 a b c) ∧ u.2.2 = s.2.2 ∧ ∀ a b c, a ≠ 53 → (a = 30 → c ≤ 10) → u.2.1 a b c = s.2.1 a b c
theorem RS_rf {s : SS} : RS s s := ⟨fun _ _ _ _ _ _ _ => rfl, rfl, fun _ _ _ _ _ => rfl⟩
theorem RS_tr {s t u : SS} (h1 : RS s t) (h2 : RS t u) : RS s u := ⟨fun a b c x y z w => (h2.1 a b c x y z w).trans (h1.1 a b c x y z w), h2.2.1.trans h1.2.1, fun a b c x y => (h2.2.2 a b c x y).trans (h1.2.2 a b c x y)⟩
theorem RS_RG {s u : SS} (h : RG s u) : RS s u := ⟨fun a b c _ _ z w => h.1 a b c z (fun e => by have := w e; omega), h.2.1, fun a b c x y => h.2.2 a b c x (fun e => by have := y e; omega)⟩
theorem RS_bit (s : SS) : RS s (bitS s) := ⟨fun a b c x _ _ w => bitS_o s x (fun e => by have := w e; omega), by rw [bitS_2], fun a b c _ _ => by rw [bitS_2]⟩
theorem RS_tab (s : SS) : RS s (tabT s 8) := RS_tr (RS_bit s) ⟨fun a b c _ y _ _ => (tabT_off s 8).1 a b c (by simp [y]), by rw [(tabT_off s 8).2], fun a b c _ _ => by rw [(tabT_off s 8).2]⟩
theorem RS_J {s u : SS} (h : RS s u) (hJ : J s) : J u := J_scr hJ (fun a b c x y => h.1 a b c (by omega) (by omega) (by omega) y) (fun a b c x y => h.2.2 a b c (by omega) y) h.2.1
theorem RS_60 {s u : SS} (h : RS s u) (b c : Nat) : u.1 60 b c = s.1 60 b c := h.1 60 b c (by decide) (by decide) (by decide) (fun z => absurd z (by decide))
theorem RS_Ag {s u : SS} (h : RS s u) {K : List Nat} (hd : ∀ a, a ∈ K → a < 50 ∧ a ≠ 30) : Ag K s u := ⟨fun a ha => ⟨fun b c => h.1 a b c (by have := hd a ha; omega) (by have := hd a ha; omega) (by have := hd a ha; omega) (fun z => absurd z (hd a ha).2), fun b c => h.2.2 a b c (by have := hd a ha; omega) (fun z => absurd z (hd a ha).2)⟩, h.2.1⟩
theorem RS_30 {s u : SS} (h : RS s u) {c : Nat} (hc : c ≤ 10) : u.1 30 0 c = s.1 30 0 c := h.1 30 0 c (by decide) (by decide) (by decide) (fun _ => hc)
theorem RS_SP {s u : SS} (h : RS s u) : SP s u := ⟨RS_Ag h (by decide), RS_30 h (by decide)⟩
theorem RS_JS {s u : SS} (h : RS s u) (hS : JS s) : JS u := JS_ag (RS_Ag h (by decide)) (h.1 0 0 7 (by decide) (by decide) (by decide) (by decide)) (RS_30 h (by decide)) hS
theorem RS_JL {s u : SS} (h : RS s u) (hL : JL s) : JL u := JL_ag (RS_Ag h (by decide)) hL
theorem RS_wI {s u : SS} (h : RS s u) (k j i : Nat) (v : Int32) : RS (wI s k j i v) (wI u k j i v) := ⟨fun a b c x y z w => by
  rw [wI_1, wI_1]
  split
  · rfl
  · exact h.1 a b c x y z w, h.2.1, h.2.2⟩
theorem RS_wL {s u : SS} (h : RS s u) (k j i : Nat) (v : Int64) : RS (wL s k j i v) (wL u k j i v) := ⟨h.1, h.2.1, fun a b c x y => by
  rw [wL_2, wL_2]
  split
  · rfl
  · exact h.2.2 a b c x y⟩
theorem RS_fR {s u : SS} (h : RS s u) (f : Nat) : RS (fR s f) (fR u f) := by
  unfold fR
  rw [h.1 31 0 f (by decide) (by decide) (by decide) (fun z => absurd z (by decide))]
  exact RS_wI (RS_wI h _ _ _ _) _ _ _ _
/-- laws of a set alone matter -/
theorem hb_cg {s : SS} {A B : Nat → Bool} (h : ∀ k, k < 8 → A k = B k) : hbB s A = hbB s B := by
  funext v
  unfold hbB
  exact anyB_cg (fun k hk => by rw [h k hk])
theorem sm_cg {f g : Nat → Nat} : ∀ {n : Nat}, (∀ i, i < n → f i = g i) → sm f n = sm g n
  | 0, _ => rfl
  | n + 1, h => by
    show sm f n + f n = sm g n + g n
    rw [sm_cg (fun i hi => h i (by omega)), h n (by omega)]
theorem sc_cg {s : SS} {A B : Nat → Bool} (h : ∀ k, k < 8 → A k = B k) : scN s A = scN s B := by
  funext v
  unfold scN
  exact sm_cg (fun k hk => by rw [h k hk])
theorem bst_cg {s : SS} {A B : Nat → Bool} (h : ∀ k, k < 8 → A k = B k) : ∀ n, bst s A n = bst s B n
  | 0 => rfl
  | n + 1 => by
    unfold bst
    rw [bst_cg h n, hb_cg h, sc_cg h]
theorem sh_cg {s : SS} {A B : Nat → Bool} (h : ∀ k, k < 8 → A k = B k) : shN s A = shN s B := by
  funext v
  unfold shN
  rw [hb_cg h, sc_cg h, bst_cg h]
theorem all_cg {s : SS} {A B : Nat → Bool} (h : ∀ k, k < 8 → A k = B k) : allN s A = allN s B := by
  unfold allN
  rw [sh_cg h]
theorem RW_cg {s u : SS} {A B : Nat → Bool} (h : ∀ k, k < 8 → A k = B k) (hw : RW s A u) : RW s B u := by
  unfold RW cR RB at hw ⊢
  rw [hb_cg h, sc_cg h, bst_cg h, sh_cg h, all_cg h] at hw
  exact hw
theorem CW_cg {s u : SS} {A B : Nat → Bool} (h : ∀ k, k < 8 → A k = B k) (hw : CW s A u) : CW s B u := by
  unfold CW cC CB at hw ⊢
  rw [hb_cg h, sc_cg h, bst_cg h, sh_cg h, all_cg h] at hw
  refine ⟨hw.1, hw.2.1, hw.2.2.1, hw.2.2.2.1, fun k hk => ?_⟩
  rw [hw.2.2.2.2 k hk]
  unfold wA22
  rw [h k hk]
theorem SP_RW {s t u : SS} {A : Nat → Bool} (h : SP s t) (hw : RW t A u) : RW s A u := by
  unfold RW cR RB at hw ⊢
  rw [(SP_brk h).2.2, SP_hb h, SP_sc h, SP_bst h, SP_sh h, SP_all h] at hw
  exact hw
theorem SP_sy {s t : SS} (h : SP s t) : SP t s := ⟨Ag_sy h.1, h.2.symm⟩
/-- laws but those of m -/
def aA (m : Nat) (k : Nat) : Bool := !m.testBit k
theorem m255_t (m : Nat) (hm : m < 256) (k : Nat) (hk : k < 8) : (255 - m).testBit k = !m.testBit k := by
  have := Nat.testBit_two_pow_sub_succ (n := 8) hm k
  rw [show 2 ^ 8 - (m + 1) = 255 - m by omega, decide_eq_true hk, Bool.true_and] at this
  exact this
/-- the reference's state after a weighing -/
def RV (s : SS) (m : Nat) (u : SS) : Prop := RS s u ∧ TB u ∧ RW s (aA m) u
theorem c_200m {s : SS} (hS : JS s) (hL : JL s) (hT : TB s) {m : Nat} (hm : m < 256) : ∃ u, ev 200 0 [some (.inr (.inr (30, 0))), some (.inl (nI (255 - m))), none, none] [] s = some (some (.inl (bI (bst s (aA m) (nW s)).isSome)), u) ∧ RV s m u := by
  obtain ⟨u, e, rf, rw'⟩ := c_200 hS hL hT (l := 255 - m) (by omega)
  refine ⟨u, ?_, RS_RG rf, RG_TB rf hT, RW_cg (m255_t m hm) rw'⟩
  rw [e, bst_cg (m255_t m hm)]
  rfl
theorem c_201 {s : SS} (hS : JS s) (hL : JL s) : ∃ u, ev 201 0 [some (.inr (.inr (30, 0)))] [] s = some (some (.inl (bI (bst s (aA 0) (nW s)).isSome)), u) ∧ RV s 0 u := by
  have r1 := RS_tab s
  obtain ⟨u, e, h1, h2, h3⟩ := c_200m (RS_JS r1 hS) (RS_JL r1 hL) (TB_tab hS) (m := 0) (by decide)
  refine ⟨u, ?_, RS_tr r1 h1, h2, SP_RW (RS_SP r1) h3⟩
  rw [q_201, c_198 hS hL, cV_s]
  have e' : ev 200 0 [some (.inr (.inr (30, 0))), some (.inl 255), none, none] [] (tabT s 8) = _ := e
  rw [e', cI_s, bI_Z, SP_bst (RS_SP r1), (SP_brk (RS_SP r1)).2.2]
  rfl
/-- any share at all: a world that is not barred -/
theorem sm_pos {f : Nat → Nat} {n i : Nat} (hi : i < n) (h : 0 < f i) : 0 < sm f n := by
  induction n with
  | zero => exact absurd hi (Nat.not_lt_zero i)
  | succ n ih =>
    show 0 < sm f n + f n
    by_cases e : i = n
    · subst e
      omega
    · have := ih (by omega)
      omega
theorem sm_0 {f : Nat → Nat} : ∀ {n : Nat}, (∀ i, i < n → f i = 0) → sm f n = 0
  | 0, _ => rfl
  | n + 1, h => by
    show sm f n + f n = 0
    rw [sm_0 (fun i hi => h i (by omega)), h n (by omega)]
theorem all_pos {s : SS} {A : Nat → Bool} : (0 < allN s A) = ((bst s A (nW s)).isSome = true) := by
  apply propext
  cases hp : bst s A (nW s) with
  | none =>
    have : allN s A = 0 := sm_0 (fun v hv => by
      unfold shN
      rw [hp]
      split <;> rfl)
    rw [this]
    simp
  | some q =>
    obtain ⟨w, c⟩ := q
    obtain ⟨h1, h2, h3⟩ := bst_some hp
    refine ⟨fun _ => rfl, fun _ => sm_pos h1 ?_⟩
    unfold shN
    rw [h2, hp]
    simp [h3]
theorem sh_le {s : SS} {A : Nat → Bool} (v : Nat) : shN s A v ≤ 1048576 := by
  unfold shN
  split
  · omega
  · split
    · omega
    · split
      · omega
      · exact Nat.le_trans (Nat.pow_le_pow_right (by decide) (Nat.sub_le 20 _)) (by decide)
def shP (s : SS) (A : Nat → Bool) (P : Nat → Bool) : Nat := sm (fun v => if P v = true then shN s A v else 0) (nW s)
theorem shP_le {s : SS} (hS : JS s) {A P : Nat → Bool} : shP s A P ≤ 1073741824 := by
  have hW := nW_le hS
  refine Nat.le_trans (sm_le (B := 1048576) _ (fun v _ => ?_)) (Nat.le_trans (Nat.mul_le_mul_right _ hW) (by decide))
  split
  · exact sh_le v
  · omega
theorem all_le {s : SS} (hS : JS s) {A : Nat → Bool} : allN s A ≤ 1073741824 := Nat.le_trans (sm_le (B := 1048576) _ (fun v _ => sh_le v)) (Nat.le_trans (Nat.mul_le_mul_right _ (nW_le hS)) (by decide))
theorem shP_0 {s : SS} {A P : Nat → Bool} (h : (bst s A (nW s)).isSome = false) : shP s A P = 0 := sm_0 (fun v hv => by
  have : shN s A v = 0 := by
    unfold shN
    cases hp : bst s A (nW s) with
    | none => split <;> rfl
    | some q =>
      rw [hp] at h
      exact absurd h (by simp)
  rw [this, ite_self])
theorem c_56 {s u : SS} {A P : Nat → Bool} {y : Int32} (hS : JS s) (h0 : u.1 11 0 0 = nI (nW s)) (h21 : ∀ v, v < nW s → u.2.1 21 0 v = lN (shN s A v)) (hP : ∀ v, v < nW s → (u.1 18 0 v &&& y = y) = (P v = true)) : ev 56 0 [some (.inr (.inr (11, 0))), some (.inl y), none, none, none] [] u = some (some (.inr (.inl (lN (shP s A P)))), u) := by
  have hW := nW_le hS
  have h := lpN (P := fun i => ev 56 5 [some (.inr (.inr (11, 0))), some (.inl y), some (.inr (.inl (lN (sm (fun v => if P v = true then shN s A v else 0) i)))), none, some (.inl (nI i))] [] u) (nW s) (fun i hi => by
    show ev 56 5 [some (.inr (.inr (11, 0))), some (.inl y), some (.inr (.inl (lN (sm (fun v => if P v = true then shN s A v else 0) i)))), none, some (.inl (nI i))] [] u = ev 56 5 [some (.inr (.inr (11, 0))), some (.inl y), some (.inr (.inl (lN (sm (fun v => if P v = true then shN s A v else 0) i + (if P i = true then shN s A i else 0))))), none, some (.inl (nI (i + 1)))] [] u
    have x : ixB (nI i) 1024 = true := ixB_nI (by omega) (by decide)
    rw [q_56_at5, h0, if_pos (nI_lt hi (by omega)), if_pos x, if_pos x, cl_nI (by omega), h21 i hi, lN_add, nI_s]
    by_cases e : P i = true
    · rw [if_pos ((hP i hi).mpr e), if_pos e]
    · rw [if_neg (by rw [hP i hi]; exact e), if_neg e]
      rfl)
  rw [q_56]
  refine (show ev 56 5 [some (.inr (.inr (11, 0))), some (.inl y), some (.inr (.inl (lN 0))), none, some (.inl (nI 0))] [] u = _ from h).trans ?_
  rw [q_56_at5, h0, if_neg (irr _)]
  rfl
theorem c_202 {s u : SS} {A : Nat → Bool} {k : Nat} (hS : JS s) (hk : k < 28) (sp : SP s u) (hU : JS u) (hB : BT u) (h53 : ∀ v, v < nW s → u.2.1 53 0 v = lN (shN s A v)) : ev 202 0 [some (.inr (.inr (30, 0))), some (.inl (nI k)), none, none, none] [] u = some (some (.inr (.inl (lN (shP s A (fun v => soB s k v))))), u) := by
  have hW := nW_le hS
  have h0 : u.1 30 0 28 = nI (nW s) := by rw [hB.2, (SP_brk sp).2.2]
  have h := lpN (P := fun i => ev 202 5 [some (.inr (.inr (30, 0))), some (.inl (nI k)), some (.inr (.inl (lN (sm (fun v => if soB s k v = true then shN s A v else 0) i)))), none, some (.inl (nI i))] [] u) (nW s) (fun i hi => by
    show ev 202 5 [some (.inr (.inr (30, 0))), some (.inl (nI k)), some (.inr (.inl (lN (sm (fun v => if soB s k v = true then shN s A v else 0) i)))), none, some (.inl (nI i))] [] u = ev 202 5 [some (.inr (.inr (30, 0))), some (.inl (nI k)), some (.inr (.inl (lN (sm (fun v => if soB s k v = true then shN s A v else 0) i + (if soB s k i = true then shN s A i else 0))))), none, some (.inl (nI (i + 1)))] [] u
    have x : ixB (nI i) 1024 = true := ixB_nI (by omega) (by decide)
    rw [q_202_at5, h0, if_pos (nI_lt hi (by omega)), c_195 hU hB hk (by omega), cI_s, ite_bI, (SP_brk sp).2.1, if_pos x, cl_nI (by omega), h53 i hi, lN_add, nI_s]
    cases soB s k i
    · show ev 202 5 [some (.inr (.inr (30, 0))), some (.inl (nI k)), some (.inr (.inl (lN (sm (fun v => if soB s k v = true then shN s A v else 0) i) + lN 0))), none, some (.inl (nI (i + 1)))] [] u = _
      rw [lN_add]
      rfl
    · rfl)
  rw [q_202]
  refine (show ev 202 5 [some (.inr (.inr (30, 0))), some (.inl (nI k)), some (.inr (.inl (lN 0))), none, some (.inl (nI 0))] [] u = _ from h).trans ?_
  rw [q_202_at5, h0, if_neg (irr _)]
  rfl
theorem c_203 {s u : SS} {A : Nat → Bool} {k k2 : Nat} (hS : JS s) (hk : k < 28) (hk2 : k2 < 28) (sp : SP s u) (hU : JS u) (hB : BT u) (h53 : ∀ v, v < nW s → u.2.1 53 0 v = lN (shN s A v)) : ev 203 0 [some (.inr (.inr (30, 0))), some (.inl (nI k)), some (.inl (nI k2)), none, none, none] [] u = some (some (.inr (.inl (lN (shP s A (fun v => soB s k v && soB s k2 v))))), u) := by
  have hW := nW_le hS
  have h0 : u.1 30 0 28 = nI (nW s) := by rw [hB.2, (SP_brk sp).2.2]
  have h := lpN (P := fun i => ev 203 5 [some (.inr (.inr (30, 0))), some (.inl (nI k)), some (.inl (nI k2)), some (.inr (.inl (lN (sm (fun v => if (soB s k v && soB s k2 v) = true then shN s A v else 0) i)))), none, some (.inl (nI i))] [] u) (nW s) (fun i hi => by
    show ev 203 5 [some (.inr (.inr (30, 0))), some (.inl (nI k)), some (.inl (nI k2)), some (.inr (.inl (lN (sm (fun v => if (soB s k v && soB s k2 v) = true then shN s A v else 0) i)))), none, some (.inl (nI i))] [] u = ev 203 5 [some (.inr (.inr (30, 0))), some (.inl (nI k)), some (.inl (nI k2)), some (.inr (.inl (lN (sm (fun v => if (soB s k v && soB s k2 v) = true then shN s A v else 0) i + (if (soB s k i && soB s k2 i) = true then shN s A i else 0))))), none, some (.inl (nI (i + 1)))] [] u
    have x : ixB (nI i) 1024 = true := ixB_nI (by omega) (by decide)
    have e0 : lN (sm (fun v => if (soB s k v && soB s k2 v) = true then shN s A v else 0) i) + 0 = lN (sm (fun v => if (soB s k v && soB s k2 v) = true then shN s A v else 0) i + 0) := lN_add _ 0
    rw [q_203_at5, h0, if_pos (nI_lt hi (by omega)), c_195 hU hB hk (by omega), cI_s, ite_bI, (SP_brk sp).2.1, c_195 hU hB hk2 (by omega), cI_s, ite_bI, (SP_brk sp).2.1, if_pos x, cl_nI (by omega), h53 i hi, lN_add, nI_s, e0]
    cases soB s k i <;> cases soB s k2 i <;> rfl)
  rw [q_203]
  refine (show ev 203 5 [some (.inr (.inr (30, 0))), some (.inl (nI k)), some (.inl (nI k2)), some (.inr (.inl (lN 0))), none, some (.inl (nI 0))] [] u = _ from h).trans ?_
  rw [q_203_at5, h0, if_neg (irr _)]
  rfl
