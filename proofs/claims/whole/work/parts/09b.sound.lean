theorem callx_inv {C : RF} {a nb rc mx : Nat} {as rest : List AV} {s : SS} {F : List AV → SS → RE} {v : Option AV × SS} (h : callx C a nb rc mx as rest s F = some v) : cats rest ≤ 8 ∧ (entA as).length ≤ mx ∧ as.length = nb ∧ ∃ r s1, C a 0 (entL as mx) [] s = some (r, s1) ∧ F (r.toList ++ rest) s1 = some v ∧ okS r.toList := by
  unfold callx at h
  obtain ⟨h1, h2⟩ := bif_inv h
  simp only [Bool.and_eq_true] at h1
  refine ⟨Nat.le_of_ble_eq_true h1.1, Nat.le_of_ble_eq_true h1.2.1, Nat.eq_of_beq_eq_true h1.2.2, ?_⟩
  split at h2
  · obtain ⟨s1, g1, g2⟩ := cV_inv h2
    exact ⟨none, s1, g1, g2, fun _ hv => by cases hv⟩
  · obtain ⟨x, s1, g1, g2⟩ := cI_inv h2
    exact ⟨some (.inl x), s1, g1, g2, okI (fun _ hv => by cases hv)⟩
  · obtain ⟨x, s1, g1, g2⟩ := cL_inv h2
    exact ⟨some (.inr (.inl x)), s1, g1, g2, okLg (fun _ hv => by cases hv)⟩
theorem copyx_inv {st : List AV} {s : SS} {F : List AV → SS → RE} {v : Option AV × SS} (h : copyx st s F = some v) : ∃ n dp kd j sp kd0 j0 r, st = .inl n :: .inl dp :: .inr (.inr (kd, j)) :: .inl sp :: .inr (.inr (kd0, j0)) :: r ∧ kar kd = 1 ∧ kar kd0 = 1 ∧ cats r ≤ 8 ∧ (¬ sp < 0 ∧ ¬ dp < 0 ∧ ¬ n < 0 ∧ sp.toNatClampNeg + n.toNatClampNeg ≤ kln kd0 ∧ dp.toNatClampNeg + n.toNatClampNeg ≤ kln kd) ∧ F r (wA s kd j (va_cpy (s.1 kd0 j0) (s.1 kd j) sp.toNatClampNeg dp.toNatClampNeg n.toNatClampNeg)) = some v := by
  unfold copyx at h
  split at h
  · obtain ⟨h1, h2⟩ := bif_inv h
    simp only [Bool.and_eq_true] at h1
    split at h2
    · rename_i q
      exact ⟨_, _, _, _, _, _, _, _, rfl, Nat.eq_of_beq_eq_true h1.1, Nat.eq_of_beq_eq_true h1.2.1, Nat.le_of_ble_eq_true h1.2.2, q, h2⟩
    · cases h2
  · cases h
theorem recvx_inv {as : List AV} {f : Nat} (h : recvx as f = true) : ∃ kd j r, as = .inr (.inr (kd, j)) :: r ∧ kcl kd = f := by
  unfold recvx at h
  split at h
  · exact ⟨_, _, _, rfl, Nat.eq_of_beq_eq_true h⟩
  · cases h
def rtd (r : Option AV) (d : Nat) : Prop := match r with
  | some (.inl x) => d = 0 ∨ (d = 3 ∧ isZ x = true)
  | some (.inr (.inl _)) => d = 1
  | some (.inr (.inr _)) => False
  | none => d = 2
theorem retx_inv {st : List AV} {d : Nat} {s : SS} {r : Option AV} {s' : SS} (h : retx st d s = some (r, s')) : s' = s ∧ st = r.toList ∧ rtd r d := by
  unfold retx at h
  split at h
  · rename_i x
    cases hb : Nat.beq d 0 with
    | true =>
      rw [hb] at h
      cases h
      exact ⟨rfl, rfl, Or.inl (Nat.eq_of_beq_eq_true hb)⟩
    | false =>
      rw [hb] at h
      obtain ⟨h1, h2⟩ := bif_inv h
      obtain ⟨h3, h4⟩ := bif_inv h2
      cases h4
      exact ⟨rfl, rfl, Or.inr ⟨Nat.eq_of_beq_eq_true h1, h3⟩⟩
  · obtain ⟨h1, h2⟩ := bif_inv h
    cases h2
    exact ⟨rfl, rfl, Nat.eq_of_beq_eq_true h1⟩
  · obtain ⟨h1, h2⟩ := bif_inv h
    cases h2
    exact ⟨rfl, rfl, Nat.eq_of_beq_eq_true h1⟩
  · cases h
theorem dupx_inv {st : List AV} {F : List AV → RE} {v : Option AV × SS} (h : dupx st F = some v) : ∃ x r, st = x :: r ∧ cat x = 1 ∧ F (x :: x :: r) = some v := by
  unfold dupx at h
  split at h
  · exact ⟨_, _, rfl, rfl, h⟩
  · exact ⟨_, _, rfl, rfl, h⟩
  · cases h
theorem popx_inv {st : List AV} {F : List AV → RE} {v : Option AV × SS} (h : popx st F = some v) : ∃ x r, st = x :: r ∧ cat x = 1 ∧ F r = some v := by
  unfold popx at h
  split at h
  · exact ⟨_, _, rfl, rfl, h⟩
  · exact ⟨_, _, rfl, rfl, h⟩
  · cases h
theorem dup2x_inv {st : List AV} {F : List AV → RE} {v : Option AV × SS} (h : dup2x st F = some v) : (∃ x y r, st = x :: y :: r ∧ cat x = 1 ∧ cat y = 1 ∧ F (x :: y :: x :: y :: r) = some v) ∨ ∃ x r, st = x :: r ∧ cat x = 2 ∧ F (x :: x :: r) = some v := by
  unfold dup2x at h
  split at h
  · exact Or.inl ⟨_, _, _, rfl, rfl, rfl, h⟩
  · exact Or.inl ⟨_, _, _, rfl, rfl, rfl, h⟩
  · exact Or.inr ⟨_, _, rfl, rfl, h⟩
  · cases h
theorem fvv_own_I {s : SS} {kd j b : Nat} {x : Int32} (hf : fldT (kcl kd) b = 0 ∨ fldT (kcl kd) b = 3) : ∀ q, q < NF (kcl kd) → fvv (wI s kd j b x) kd j q = if q = b then .inl x else fvv s kd j q := by
  intro q _
  by_cases h : q = b
  · subst h
    rw [if_pos rfl]
    unfold fvv
    rcases hf with hf | hf <;> rw [hf] <;> show Sum.inl (if kd = kd ∧ j = j ∧ q = q then x else s.1 kd j q) = _ <;> rw [if_pos ⟨rfl, rfl, rfl⟩]
  · rw [if_neg h, fvv_wI (fun z => h z.2.2)]
theorem fvv_own_L {s : SS} {kd j b : Nat} {x : Int64} (hf : fldT (kcl kd) b = 1) : ∀ q, q < NF (kcl kd) → fvv (wL s kd j b x) kd j q = if q = b then .inr (.inl x) else fvv s kd j q := by
  intro q _
  by_cases h : q = b
  · subst h
    rw [if_pos rfl]
    unfold fvv
    rw [hf]
    show Sum.inr (Sum.inl (if kd = kd ∧ j = j ∧ q = q then x else s.2.1 kd j q)) = _
    rw [if_pos ⟨rfl, rfl, rfl⟩]
  · rw [if_neg h, fvv_wL (fun z => h z.2.2)]
theorem fvv_own_R {s : SS} {j jv : Nat} : ∀ q, q < NF (kcl 0) → fvv (wR s 8 jv) 0 j q = if q = 6 then .inr (.inr (13, jv)) else fvv s 0 j q := by
  intro q _
  by_cases h : q = 6
  · subst h
    rfl
  · rw [if_neg h]
    unfold fvv
    split
    · rfl
    · rw [rfa_wR (fun z => h z.2.1)]
    · rfl
theorem gval_fvv {s : SS} {d kd j k : Nat} (h : d = fldT (kcl kd) k) : gval s d kd j k = fvv s kd j k := by
  subst h
  rfl
theorem gval_ok {xs : Nat → Int32} {L : Nat} {s : SS} (hR : okR xs L s) {kd j k : Nat} (h : kcl kd < 5) (hk : k < NF (kcl kd)) (hj : j < kct kd) : okv (fvv s kd j k) := by
  unfold fvv
  split
  · trivial
  · rename_i hf
    exact rfa_ok hR h hk hf hj
  · trivial
theorem isZ_fit {x : Int32} (h : isZ x = true) : fits .boolean (.int x) = true := by
  unfold isZ at h
  simp only [Bool.or_eq_true, decide_eq_true_eq] at h
  rcases h with rfl | rfl <;> decide +kernel
theorem take_drop_rev (st : List AV) (b : Nat) : (st.take b).reverse.reverse ++ st.drop b = st := by
  rw [List.reverse_reverse, List.take_append_drop]
theorem okS_take {st : List AV} (h : okS st) (b : Nat) : okS (st.take b).reverse := fun v hv => h v (List.mem_of_mem_take (List.mem_reverse.mp hv))
theorem okS_drop {st : List AV} (h : okS st) (b : Nat) : okS (st.drop b) := fun v hv => h v (List.mem_of_mem_drop hv)
theorem okS_app {a b : List AV} (h1 : okS a) (h2 : okS b) : okS (a ++ b) := fun v hv => (List.mem_append.mp hv).elim (h1 v) (h2 v)
theorem swB_in {pc a : Nat} {lo hi : Int} {offs : Array Int} {sw : List (Int32 × Nat)} (h : swB pc lo hi offs sw = true) (x : Int32) : (∃ off, ¬ x.toInt < lo ∧ ¬ hi < x.toInt ∧ offs[(x.toInt - lo).toNat]? = some off ∧ (pc : Int) + off = (swT a x sw : Int)) ∨ ((x.toInt < lo ∨ hi < x.toInt) ∧ swT a x sw = a) := by
  unfold swB at h
  simp only [Bool.and_eq_true, decide_eq_true_eq] at h
  obtain ⟨h1, h2⟩ := h
  rcases swT_in a x sw with g | ⟨g1, g2⟩
  · refine Or.inl ?_
    have hk : x.toInt ∈ sw.map (fun q => q.1.toInt) := List.mem_map.mpr ⟨_, g, rfl⟩
    rw [h1] at hk
    obtain ⟨k, hk1, hk2⟩ := List.mem_map.mp hk
    have hk1' := List.mem_range.mp hk1
    have h3 := List.all_eq_true.mp h2 _ g
    have h3' := decide_eq_true_iff.mp h3
    cases ho : offs[(x.toInt - lo).toNat]? with
    | none => rw [ho] at h3'; cases h3'
    | some off =>
      rw [ho] at h3'
      exact ⟨off, by omega, by omega, rfl, Option.some.inj h3'⟩
  · refine Or.inr ⟨?_, g1⟩
    by_cases q1 : x.toInt < lo
    · exact Or.inl q1
    · by_cases q2 : hi < x.toInt
      · exact Or.inr q2
      · exfalso
        have hk : x.toInt ∈ (List.range (hi - lo + 1).toNat).map (fun (k : Nat) => lo + (k : Int)) := List.mem_map.mpr ⟨(x.toInt - lo).toNat, List.mem_range.mpr (by omega), by omega⟩
        rw [← h1] at hk
        obtain ⟨q, hq1, hq2⟩ := List.mem_map.mp hk
        exact g2 q hq1 (Int32.toInt_inj.mp hq2)
set_option maxHeartbeats 4000000 in
set_option maxRecDepth 20000 in
theorem opx_sound {ad : Nat × Nat → Nat} {C : Cls} {D : va_G} {xs : Nat → Int32} {L n : Nat} (hMs : ∀ a, a < 237 → (a < 3 ∨ 6 < a) → okM a = true) (ih : Sound ad C D xs L n) {i pc : Nat} {en : En} (hok : okB i pc en = true) {lo : LO} {st : List AV} {s : SS} {r : Option AV} {s' : SS} (h : opx (run n) (run n) i pc en lo st s = some (r, s')) (p : Program) (l : Launch) (e : Env) (R : Room) (s0 : State) (m : MethodId) (args : Array Value) (below : List Frame) (meth : Method) (c : Code) (H : Heap) (locs : List Loc) (cells slots : Nat) (Q : State → Prop) (ls : Array Slot) (A : Nat → Prop) (H0 : Heap) (F : Fr i p R s0 m args c cells slots) (B : Bg ad C D xs L A s0 H0) (hL : LRep ad ls (mX i) lo) (hO : okS st) (hH : Hp ad C D xs L s H) (hS : va_S A H0 H locs) (hret : ∀ (pc' : Nat) (ls' : Array Slot) (H' : Heap) (locs' : List Loc), RetK i pc' r → Hp ad C D xs L s' H' → va_S A H0 H' locs' → W p l e R s0 m args below meth c H' locs' cells slots Q (F0 m pc' ls' (r.toList.map (rv ad)))) : W p l e R s0 m args below meth c H locs cells slots Q (F0 m pc ls (st.map (rv ad))) := by
  have hx := F.1
  have hb := F.2.1
  have hml := F.2.2.1
  have hown := F.2.2.2.1
  have hts := F.2.2.2.2.1
  have go : ∀ {pc : Nat} {lo : LO} {st : List AV} {s : SS} {H : Heap} {locs : List Loc} {ls : Array Slot}, run n i pc lo st s = some (r, s') → LRep ad ls (mX i) lo → okS st → Hp ad C D xs L s H → va_S A H0 H locs → W p l e R s0 m args below meth c H locs cells slots Q (F0 m pc ls (st.map (rv ad))) := fun h1 h2 h3 h4 h5 => ih i _ _ _ _ r s' h1 p l e R s0 m args below meth c _ _ cells slots Q _ A H0 F B h2 h3 h4 h5 hret
  obtain ⟨ins, len, a, b, d, ee, f, pos, cv, lv, sw, ks⟩ := en
  unfold okB at hok
  obtain ⟨hdg, hok⟩ := Bool.and_eq_true_iff.mp hok
  have hdg := of_decide_eq_true hdg
  cases ins with
  | iconst k =>
    obtain ⟨e1, rfl⟩ := of_decide_eq_true hok
    exact lv_iconst hx hb hdg e1 (go h hL (okI hO) hH hS)
  | bipush k =>
    obtain ⟨e1, rfl⟩ := of_decide_eq_true hok
    exact lv_bipush hx hb hdg e1 (go h hL (okI hO) hH hS)
  | sipush k =>
    obtain ⟨e1, rfl⟩ := of_decide_eq_true hok
    exact lv_sipush hx hb hdg e1 (go h hL (okI hO) hH hS)
  | ldc k =>
    obtain ⟨e1, rfl⟩ := of_decide_eq_true hok
    exact lv_ldc hx hb hown (hts _ (List.mem_of_getElem? e1)) hdg (go h hL (okI hO) hH hS)
  | ldc_w k =>
    obtain ⟨e1, rfl⟩ := of_decide_eq_true hok
    exact lv_ldcw hx hb hown (hts _ (List.mem_of_getElem? e1)) hdg (go h hL (okI hO) hH hS)
  | lconst k =>
    obtain ⟨e1, rfl⟩ := of_decide_eq_true hok
    exact lv_lconst hx hb hdg e1 (go h hL (okLg hO) hH hS)
  | ldc2_w k =>
    obtain ⟨e1, rfl⟩ := of_decide_eq_true hok
    exact lv_ldc2 hx hb hown (hts _ (List.mem_of_getElem? e1)) hdg (go h hL (okLg hO) hH hS)
  | iload k =>
    have e1 : len = 2 := of_decide_eq_true hok
    subst e1
    obtain ⟨w, h1, h2, h3⟩ := ldx_inv (k := k) (t := 0) (ls := lo) (F := fun w => run n i (pc + 2) lo (w :: st) s) h
    obtain ⟨g1, g2⟩ := LRep_load hL h1
    match w, h2, h3, g1, g2 with
    | .inl x, _, h3, g1, g2 => exact lv_iload hx hb hdg g1 (go h3 hL (okI hO) hH hS)
    | .inr (.inl x), h2, _, _, _ => cases h2
    | .inr (.inr x), h2, _, _, _ => cases h2
  | iload_n k =>
    have e1 : len = 1 := of_decide_eq_true hok
    subst e1
    obtain ⟨w, h1, h2, h3⟩ := ldx_inv (k := k.val) (t := 0) (ls := lo) (F := fun w => run n i (pc + 1) lo (w :: st) s) h
    obtain ⟨g1, g2⟩ := LRep_load hL h1
    match w, h2, h3, g1, g2 with
    | .inl x, _, h3, g1, g2 => exact lv_iload_n hx hb hdg rfl g1 (go h3 hL (okI hO) hH hS)
    | .inr (.inl x), h2, _, _, _ => cases h2
    | .inr (.inr x), h2, _, _, _ => cases h2
  | lload k =>
    have e1 : len = 2 := of_decide_eq_true hok
    subst e1
    obtain ⟨w, h1, h2, h3⟩ := ldx_inv (k := k) (t := 1) (ls := lo) (F := fun w => run n i (pc + 2) lo (w :: st) s) h
    obtain ⟨g1, g2⟩ := LRep_load hL h1
    match w, h2, h3, g1, g2 with
    | .inl x, h2, _, _, _ => cases h2
    | .inr (.inl x), _, h3, g1, g2 => exact lv_lload hx hb hdg g1 (go h3 hL (okLg hO) hH hS)
    | .inr (.inr x), h2, _, _, _ => cases h2
  | lload_n k =>
    have e1 : len = 1 := of_decide_eq_true hok
    subst e1
    obtain ⟨w, h1, h2, h3⟩ := ldx_inv (k := k.val) (t := 1) (ls := lo) (F := fun w => run n i (pc + 1) lo (w :: st) s) h
    obtain ⟨g1, g2⟩ := LRep_load hL h1
    match w, h2, h3, g1, g2 with
    | .inl x, h2, _, _, _ => cases h2
    | .inr (.inl x), _, h3, g1, g2 => exact lv_lload_n hx hb hdg rfl g1 (go h3 hL (okLg hO) hH hS)
    | .inr (.inr x), h2, _, _, _ => cases h2
  | aload k =>
    have e1 : len = 2 := of_decide_eq_true hok
    subst e1
    obtain ⟨w, h1, h2, h3⟩ := ldx_inv (k := k) (t := 2) (ls := lo) (F := fun w => run n i (pc + 2) lo (w :: st) s) h
    obtain ⟨g1, g2⟩ := LRep_load hL h1
    match w, h2, h3, g1, g2 with
    | .inl x, h2, _, _, _ => cases h2
    | .inr (.inl x), h2, _, _, _ => cases h2
    | .inr (.inr x), _, h3, g1, g2 => exact lv_aload hx hb hdg g1 (go h3 hL (okS_cons.mpr ⟨g2, hO⟩) hH hS)
  | aload_n k =>
    have e1 : len = 1 := of_decide_eq_true hok
    subst e1
    obtain ⟨w, h1, h2, h3⟩ := ldx_inv (k := k.val) (t := 2) (ls := lo) (F := fun w => run n i (pc + 1) lo (w :: st) s) h
    obtain ⟨g1, g2⟩ := LRep_load hL h1
    match w, h2, h3, g1, g2 with
    | .inl x, h2, _, _, _ => cases h2
    | .inr (.inl x), h2, _, _, _ => cases h2
    | .inr (.inr x), _, h3, g1, g2 => exact lv_aload_n hx hb hdg rfl g1 (go h3 hL (okS_cons.mpr ⟨g2, hO⟩) hH hS)
  | istore k =>
    obtain ⟨e1, rfl⟩ := of_decide_eq_true hok
    obtain ⟨x, rr, hst, hz⟩ := op1i_inv h
    clear h
    subst hst
    have h := hz
    clear hz
    rw [frc_eq] at h
    exact lv_istore hx hb hdg (LRep_has hL) e1 rfl (fun ls' hl' => go h (LRep_st1 (v := .inl x) hL trivial hl') (okT hO) hH hS)
  | istore_n k =>
    obtain ⟨e1, rfl⟩ := of_decide_eq_true hok
    obtain ⟨x, rr, hst, hz⟩ := op1i_inv h
    clear h
    subst hst
    have h := hz
    clear hz
    rw [frc_eq] at h
    exact lv_istore_n hx hb hdg rfl (LRep_has hL) e1 rfl (fun ls' hl' => go h (LRep_st1 (v := .inl x) hL trivial hl') (okT hO) hH hS)
  | lstore k =>
    obtain ⟨e1, rfl⟩ := of_decide_eq_true hok
    obtain ⟨x, rr, hst, hz⟩ := op1l_inv h
    clear h
    subst hst
    have h := hz
    clear hz
    rw [frc_eq] at h
    exact lv_lstore hx hb hdg (LRep_has hL) e1 rfl (fun ls' hl' => go h (LRep_st2 (v := .inr (.inl x)) hL trivial hl') (okT hO) hH hS)
  | lstore_n k =>
    obtain ⟨e1, rfl⟩ := of_decide_eq_true hok
    obtain ⟨x, rr, hst, hz⟩ := op1l_inv h
    clear h
    subst hst
    have h := hz
    clear hz
    rw [frc_eq] at h
    exact lv_lstore_n hx hb hdg rfl (LRep_has hL) e1 rfl (fun ls' hl' => go h (LRep_st2 (v := .inr (.inl x)) hL trivial hl') (okT hO) hH hS)
  | astore k =>
    obtain ⟨e1, rfl⟩ := of_decide_eq_true hok
    obtain ⟨kd, j, rr, hst, hz⟩ := op1r_inv h
    clear h
    subst hst
    have h := hz
    clear hz
    rw [frc_eq] at h
    exact lv_astore hx hb hdg (LRep_has hL) e1 rfl (fun ls' hl' => go h (LRep_st1 (v := .inr (.inr (kd, j))) hL (okH hO) hl') (okT hO) hH hS)
  | astore_n k =>
    obtain ⟨e1, rfl⟩ := of_decide_eq_true hok
    obtain ⟨kd, j, rr, hst, hz⟩ := op1r_inv h
    clear h
    subst hst
    have h := hz
    clear hz
    rw [frc_eq] at h
    exact lv_astore_n hx hb hdg rfl (LRep_has hL) e1 rfl (fun ls' hl' => go h (LRep_st1 (v := .inr (.inr (kd, j))) hL (okH hO) hl') (okT hO) hH hS)
  | iinc k z =>
    obtain ⟨e1, e2, rfl⟩ := of_decide_eq_true hok
    obtain ⟨w, h1, h2, h3⟩ := ldx_inv (k := k) (t := 0) (ls := lo) (F := fun v => match v with
      | .inl x => frc (st1 lo k (.inl (x + cv))) (fun l => run n i (pc + 3) l st s)
      | _ => none) h
    match w, h1, h2, h3 with
    | .inl x, h1, _, h3 =>
      have hm : lo[k]? = some (some (.inl x)) := by
        rw [List.getD_eq_getElem?_getD] at h1
        cases hk : lo[k]? with
        | none => rw [hk] at h1; cases h1
        | some w => rw [hk] at h1; rw [show w = some (.inl x) from h1]
      have h3 : frc (st1 lo k (.inl (x + cv))) (fun l => run n i (pc + 3) l st s) = some (r, s') := h3
      rw [frc_eq] at h3
      obtain ⟨q, hq⟩ := List.getElem?_of_mem (toL_mem (ad := ad) hm)
      exact lv_iinc (k := q) (x := x) (v := x + cv) hx hb hdg (LRep_has hL) hq (by rw [e1]) e2 rfl (fun ls' hl' => go h3 (LRep_st1 (v := .inl (x + cv)) hL trivial hl') hO hH hS)
    | .inr (.inl x), _, h2, _ => cases h2
    | .inr (.inr x), _, h2, _ => cases h2
  | iadd =>
    have e1 : len = 1 := of_decide_eq_true hok
    subst e1
    obtain ⟨x, y, rr, hst, hz⟩ := op2i_inv h
    clear h
    subst hst
    have h := hz
    clear hz
    exact lv_iadd hx hb hdg (go h hL (okI (okT (okT hO))) hH hS)
  | isub =>
    have e1 : len = 1 := of_decide_eq_true hok
    subst e1
    obtain ⟨x, y, rr, hst, hz⟩ := op2i_inv h
    clear h
    subst hst
    have h := hz
    clear hz
    exact lv_isub hx hb hdg (go h hL (okI (okT (okT hO))) hH hS)
  | imul =>
    have e1 : len = 1 := of_decide_eq_true hok
    subst e1
    obtain ⟨x, y, rr, hst, hz⟩ := op2i_inv h
    clear h
    subst hst
    have h := hz
    clear hz
    exact lv_imul hx hb hdg (go h hL (okI (okT (okT hO))) hH hS)
  | iand =>
    have e1 : len = 1 := of_decide_eq_true hok
    subst e1
    obtain ⟨x, y, rr, hst, hz⟩ := op2i_inv h
    clear h
    subst hst
    have h := hz
    clear hz
    exact lv_iand hx hb hdg (go h hL (okI (okT (okT hO))) hH hS)
  | ior =>
    have e1 : len = 1 := of_decide_eq_true hok
    subst e1
    obtain ⟨x, y, rr, hst, hz⟩ := op2i_inv h
    clear h
    subst hst
    have h := hz
    clear hz
    exact lv_ior hx hb hdg (go h hL (okI (okT (okT hO))) hH hS)
  | ixor =>
    have e1 : len = 1 := of_decide_eq_true hok
    subst e1
    obtain ⟨x, y, rr, hst, hz⟩ := op2i_inv h
    clear h
    subst hst
    have h := hz
    clear hz
    exact lv_ixor hx hb hdg (go h hL (okI (okT (okT hO))) hH hS)
  | idiv =>
    have e1 : len = 1 := of_decide_eq_true hok
    subst e1
    obtain ⟨x, y, rr, hst, hz⟩ := op2i_inv h
    clear h
    subst hst
    have h := hz
    clear hz
    split at h
    · cases h
    · rename_i hne
      exact lv_idiv hx hb hdg hne (go h hL (okI (okT (okT hO))) hH hS)
  | irem =>
    have e1 : len = 1 := of_decide_eq_true hok
    subst e1
    obtain ⟨x, y, rr, hst, hz⟩ := op2i_inv h
    clear h
    subst hst
    have h := hz
    clear hz
    split at h
    · cases h
    · rename_i hne
      exact lv_irem hx hb hdg hne (go h hL (okI (okT (okT hO))) hH hS)
  | ineg =>
    have e1 : len = 1 := of_decide_eq_true hok
    subst e1
    obtain ⟨x, rr, hst, hz⟩ := op1i_inv h
    clear h
    subst hst
    have h := hz
    clear hz
    exact lv_ineg hx hb hdg (go h hL (okI (okT hO)) hH hS)
  | ishl =>
    have e1 : len = 1 := of_decide_eq_true hok
    subst e1
    obtain ⟨x, y, rr, hst, hz⟩ := op2i_inv h
    clear h
    subst hst
    have h := hz
    clear hz
    exact lv_ishl hx hb hdg (go h hL (okI (okT (okT hO))) hH hS)
  | ishr =>
    have e1 : len = 1 := of_decide_eq_true hok
    subst e1
    obtain ⟨x, y, rr, hst, hz⟩ := op2i_inv h
    clear h
    subst hst
    have h := hz
    clear hz
    exact lv_ishr hx hb hdg (go h hL (okI (okT (okT hO))) hH hS)
  | iushr =>
    have e1 : len = 1 := of_decide_eq_true hok
    subst e1
    obtain ⟨x, y, rr, hst, hz⟩ := op2i_inv h
    clear h
    subst hst
    have h := hz
    clear hz
    exact lv_iushr hx hb hdg rfl (go h hL (okI (okT (okT hO))) hH hS)
  | ladd =>
    have e1 : len = 1 := of_decide_eq_true hok
    subst e1
    obtain ⟨x, y, rr, hst, hz⟩ := op2l_inv h
    clear h
    subst hst
    have h := hz
    clear hz
    exact lv_ladd hx hb hdg (go h hL (okLg (okT (okT hO))) hH hS)
  | lsub =>
    have e1 : len = 1 := of_decide_eq_true hok
    subst e1
    obtain ⟨x, y, rr, hst, hz⟩ := op2l_inv h
    clear h
    subst hst
    have h := hz
    clear hz
    exact lv_lsub hx hb hdg (go h hL (okLg (okT (okT hO))) hH hS)
  | lmul =>
    have e1 : len = 1 := of_decide_eq_true hok
    subst e1
    obtain ⟨x, y, rr, hst, hz⟩ := op2l_inv h
    clear h
    subst hst
    have h := hz
    clear hz
    exact lv_lmul hx hb hdg (go h hL (okLg (okT (okT hO))) hH hS)
  | land =>
    have e1 : len = 1 := of_decide_eq_true hok
    subst e1
    obtain ⟨x, y, rr, hst, hz⟩ := op2l_inv h
    clear h
    subst hst
    have h := hz
    clear hz
    exact lv_land hx hb hdg (go h hL (okLg (okT (okT hO))) hH hS)
  | lor =>
    have e1 : len = 1 := of_decide_eq_true hok
    subst e1
    obtain ⟨x, y, rr, hst, hz⟩ := op2l_inv h
    clear h
    subst hst
    have h := hz
    clear hz
    exact lv_lor hx hb hdg (go h hL (okLg (okT (okT hO))) hH hS)
  | ldiv =>
    have e1 : len = 1 := of_decide_eq_true hok
    subst e1
    obtain ⟨x, y, rr, hst, hz⟩ := op2l_inv h
    clear h
    subst hst
    have h := hz
    clear hz
    split at h
    · cases h
    · rename_i hne
      exact lv_ldiv hx hb hdg hne (go h hL (okLg (okT (okT hO))) hH hS)
  | lrem =>
    have e1 : len = 1 := of_decide_eq_true hok
    subst e1
    obtain ⟨x, y, rr, hst, hz⟩ := op2l_inv h
    clear h
    subst hst
    have h := hz
    clear hz
    split at h
    · cases h
    · rename_i hne
      exact lv_lrem hx hb hdg hne (go h hL (okLg (okT (okT hO))) hH hS)
  | lneg =>
    have e1 : len = 1 := of_decide_eq_true hok
    subst e1
    obtain ⟨x, rr, hst, hz⟩ := op1l_inv h
    clear h
    subst hst
    have h := hz
    clear hz
    exact lv_lneg hx hb hdg (go h hL (okLg (okT hO)) hH hS)
  | lcmp =>
    have e1 : len = 1 := of_decide_eq_true hok
    subst e1
    obtain ⟨x, y, rr, hst, hz⟩ := op2l_inv h
    clear h
    subst hst
    have h := hz
    clear hz
    exact W.lcmp hx hb hdg (go h hL (okI (okT (okT hO))) hH hS)
  | lshl =>
    have e1 : len = 1 := of_decide_eq_true hok
    subst e1
    obtain ⟨x, y, rr, hst, hz⟩ := opli_inv h
    clear h
    subst hst
    have h := hz
    clear hz
    exact lv_lshl hx hb hdg rfl (go h hL (okLg (okT (okT hO))) hH hS)
  | lshr =>
    have e1 : len = 1 := of_decide_eq_true hok
    subst e1
    obtain ⟨x, y, rr, hst, hz⟩ := opli_inv h
    clear h
    subst hst
    have h := hz
    clear hz
    exact lv_lshr hx hb hdg rfl (go h hL (okLg (okT (okT hO))) hH hS)
  | lushr =>
    have e1 : len = 1 := of_decide_eq_true hok
    subst e1
    obtain ⟨x, y, rr, hst, hz⟩ := opli_inv h
    clear h
    subst hst
    have h := hz
    clear hz
    exact lv_lushr hx hb hdg rfl (go h hL (okLg (okT (okT hO))) hH hS)
  | i2l =>
    have e1 : len = 1 := of_decide_eq_true hok
    subst e1
    obtain ⟨x, rr, hst, hz⟩ := op1i_inv h
    clear h
    subst hst
    have h := hz
    clear hz
    exact lv_i2l hx hb hdg rfl (go h hL (okLg (okT hO)) hH hS)
  | l2i =>
    have e1 : len = 1 := of_decide_eq_true hok
    subst e1
    obtain ⟨x, rr, hst, hz⟩ := op1l_inv h
    clear h
    subst hst
    have h := hz
    clear hz
    exact lv_l2i hx hb hdg rfl (go h hL (okI (okT hO)) hH hS)
  | i2b =>
    have e1 : len = 1 := of_decide_eq_true hok
    subst e1
    obtain ⟨x, rr, hst, hz⟩ := op1i_inv h
    clear h
    subst hst
    have h := hz
    clear hz
    exact lv_i2b hx hb hdg rfl (go h hL (okI (okT hO)) hH hS)
  | dup =>
    have e1 : len = 1 := of_decide_eq_true hok
    subst e1
    obtain ⟨x, rr, rfl, hc, h⟩ := dupx_inv (F := fun r => run n i (pc + 1) lo r s) h
    exact lv_dup hx hb hdg (by rw [rv_cat]; exact hc) (go h hL (okS_cons.mpr ⟨okH hO, hO⟩) hH hS)
  | dup2 =>
    have e1 : len = 1 := of_decide_eq_true hok
    subst e1
    rcases dup2x_inv (F := fun r => run n i (pc + 1) lo r s) h with ⟨x, y, rr, rfl, hc, hc2, h⟩ | ⟨x, rr, rfl, hc, h⟩
    · exact lv_dup2_11 hx hb hdg (by rw [rv_cat]; exact hc) (by rw [rv_cat]; exact hc2) (go h hL (okS_cons.mpr ⟨okH hO, okS_cons.mpr ⟨okH (okT hO), hO⟩⟩) hH hS)
    · exact lv_dup2_2 hx hb hdg (by rw [rv_cat]; exact hc) (go h hL (okS_cons.mpr ⟨okH hO, hO⟩) hH hS)
  | pop =>
    have e1 : len = 1 := of_decide_eq_true hok
    subst e1
    obtain ⟨x, rr, rfl, hc, h⟩ := popx_inv (F := fun r => run n i (pc + 1) lo r s) h
    exact lv_pop hx hb hdg (by rw [rv_cat]; exact hc) (go h hL (okT hO) hH hS)
  | goto off =>
    obtain ⟨e1, rfl⟩ := of_decide_eq_true hok
    exact lv_goto hx hb hdg e1 (go h hL hO hH hS)
  | ifCond q off =>
    obtain ⟨e1, rfl⟩ := of_decide_eq_true hok
    obtain ⟨x, rr, hst, hz⟩ := op1i_inv h
    clear h
    subst hst
    have h := hz
    clear hz
    cases q with
    | eq => exact lv_if_eq hx hb hdg e1 (fun z => go ((if_pos z).symm.trans h) hL (okT hO) hH hS) (fun z => go ((if_neg z).symm.trans h) hL (okT hO) hH hS)
    | ne => exact lv_if_ne hx hb hdg e1 (fun z => go ((if_neg z).symm.trans h) hL (okT hO) hH hS) (fun z => go ((if_pos z).symm.trans h) hL (okT hO) hH hS)
    | lt => exact lv_if_lt hx hb hdg e1 (fun z => go ((if_pos z).symm.trans h) hL (okT hO) hH hS) (fun z => go ((if_neg z).symm.trans h) hL (okT hO) hH hS)
    | ge => exact lv_if_ge hx hb hdg e1 (fun z => go ((if_neg (Int32.not_lt.mpr z)).symm.trans h) hL (okT hO) hH hS) (fun z => go ((if_pos (Int32.not_le.mp z)).symm.trans h) hL (okT hO) hH hS)
    | gt => exact lv_if_gt hx hb hdg e1 (fun z => go ((if_pos z).symm.trans h) hL (okT hO) hH hS) (fun z => go ((if_neg z).symm.trans h) hL (okT hO) hH hS)
    | le => exact lv_if_le hx hb hdg e1 (fun z => go ((if_neg (Int32.not_lt.mpr z)).symm.trans h) hL (okT hO) hH hS) (fun z => go ((if_pos (Int32.not_le.mp z)).symm.trans h) hL (okT hO) hH hS)
  | if_icmp q off =>
    obtain ⟨e1, rfl⟩ := of_decide_eq_true hok
    obtain ⟨x, y, rr, hst, hz⟩ := op2i_inv h
    clear h
    subst hst
    have h := hz
    clear hz
    cases q with
    | eq => exact lv_icmp_eq hx hb hdg e1 (fun z => go ((if_pos z).symm.trans h) hL (okT (okT hO)) hH hS) (fun z => go ((if_neg z).symm.trans h) hL (okT (okT hO)) hH hS)
    | ne => exact lv_icmp_ne hx hb hdg e1 (fun z => go ((if_neg z).symm.trans h) hL (okT (okT hO)) hH hS) (fun z => go ((if_pos z).symm.trans h) hL (okT (okT hO)) hH hS)
    | lt => exact lv_icmp_lt hx hb hdg e1 (fun z => go ((if_pos z).symm.trans h) hL (okT (okT hO)) hH hS) (fun z => go ((if_neg z).symm.trans h) hL (okT (okT hO)) hH hS)
    | ge => exact lv_icmp_ge hx hb hdg e1 (fun z => go ((if_neg (Int32.not_lt.mpr z)).symm.trans h) hL (okT (okT hO)) hH hS) (fun z => go ((if_pos (Int32.not_le.mp z)).symm.trans h) hL (okT (okT hO)) hH hS)
    | gt => exact lv_icmp_gt hx hb hdg e1 (fun z => go ((if_pos z).symm.trans h) hL (okT (okT hO)) hH hS) (fun z => go ((if_neg z).symm.trans h) hL (okT (okT hO)) hH hS)
    | le => exact lv_icmp_le hx hb hdg e1 (fun z => go ((if_neg (Int32.not_lt.mpr z)).symm.trans h) hL (okT (okT hO)) hH hS) (fun z => go ((if_pos (Int32.not_le.mp z)).symm.trans h) hL (okT (okT hO)) hH hS)
  | tableswitch dflt low hi offs =>
    simp only [Bool.and_eq_true, decide_eq_true_eq] at hok
    obtain ⟨x, rr, hst, hz⟩ := op1i_inv h
    clear h
    subst hst
    have h := hz
    clear hz
    rw [swl_eq] at h
    rcases swB_in (a := a) hok.2 x with ⟨off, g1, g2, g3, g4⟩ | ⟨g1, g2⟩
    · exact lv_tableIn hx hb hdg g1 g2 g3 g4 (go h hL (okT hO) hH hS)
    · rw [g2] at h
      exact lv_tableOut hx hb hdg g1 hok.1 (go h hL (okT hO) hH hS)
  | lookupswitch dflt ps =>
    simp only [Bool.and_eq_true, decide_eq_true_eq] at hok
    obtain ⟨x, rr, hst, hz⟩ := op1i_inv h
    clear h
    subst hst
    have h := hz
    clear hz
    rw [swl_eq] at h
    obtain ⟨⟨g1, g2⟩, g3⟩ := hok
    exact lv_lookup hx hb hdg g3 rfl (by rw [g2]; exact lk_off g1 x sw) (go h hL (okT hO) hH hS)
  | getfield ix =>
    simp only [Bool.and_eq_true, decide_eq_true_eq] at hok
    obtain ⟨⟨g1, g2, g3, rfl⟩, g5⟩ := hok
    obtain ⟨kd, j, rr, hst, hz⟩ := op1r_inv h
    clear h
    subst hst
    have h := hz
    clear hz
    obtain ⟨h1, h2⟩ := getx_inv h
    rw [gval_fvv (by rw [h1]; exact g3)] at h2
    exact sg_get F B hH g1 g2 g5 h1 (okH hO) hdg (go h2 hL (okS_cons.mpr ⟨gval_ok hH.2 (by rw [h1]; exact g1) (by rw [h1]; exact g2) (okH hO), okT hO⟩) hH hS)
  | putfield ix =>
    simp only [Bool.and_eq_true, decide_eq_true_eq] at hok
    obtain ⟨⟨g1, g2, g3, rfl, g5, g6⟩, g7⟩ := hok
    obtain ⟨rr, kd, j, h1, hh⟩ := putx_inv (F := fun r s1 => run n i (pc + 3) lo r s1) h
    have hkd := (kcl_lt (kd := kd) (by rw [h1]; exact g1)).1
    rcases hh with ⟨x, rfl, h2, h3⟩ | ⟨x, rfl, h2, h3⟩ | ⟨jv, rfl, rfl, rfl, h2, h3⟩
    · refine sg_put (w := .inl x) F B hH hS g1 g2 g7 h1 (okH (okT hO)) g5 ?_ ?_ (fvv_own_I ?_) (fun q _ hq => cellE_wI hq) (okR_wI hH.2 hkd) hdg (fun H1 locs1 k1 k2 => go h3 hL (okT (okT hO)) k1 k2)
      · rw [g6]
        rcases h2 with h2 | ⟨h2, hz⟩
        · rw [h2]; rfl
        · rw [h2]; exact isZ_nar hz
      · rw [g6]
        rcases h2 with h2 | ⟨h2, hz⟩
        · rw [h2]; rfl
        · rw [h2]; exact isZ_fit hz
      · rw [h1, ← g3]
        rcases h2 with h2 | ⟨h2, -⟩
        · exact Or.inl h2
        · exact Or.inr h2
    · refine sg_put (w := .inr (.inl x)) F B hH hS g1 g2 g7 h1 (okH (okT hO)) g5 ?_ ?_ (fvv_own_L ?_) (fun q _ hq => cellE_wL hq) hH.2 hdg (fun H1 locs1 k1 k2 => go h3 hL (okT (okT hO)) k1 k2)
      · rw [g6, h2]; rfl
      · rw [g6, h2]; rfl
      · rw [h1, ← g3, h2]
    · have hj0 : j = 0 := by
        have h9 : j < kct 0 := okH (okT hO)
        have : kct 0 = 1 := rfl
        omega
      subst hj0
      refine sg_put (w := .inr (.inr (13, jv))) F B hH hS g1 g2 g7 h1 (okH (okT hO)) g5 ?_ ?_ fvv_own_R (fun q hqd hq => cellE_wR (fun _ h0 => hq ?_) (fun h8 => absurd h8 (by omega)) hqd) (okR_wR hH.2 (okH hO)) hdg (fun H1 locs1 k1 k2 => go h3 hL (okT (okT hO)) k1 k2)
      · rw [g6, h2]; rfl
      · rw [g6, h2]; rfl
      · obtain ⟨kq, jq⟩ := q
        have h0' : kq = 0 := h0
        subst h0'
        have h9 : jq < kct 0 := (mem_dom.mp hqd).2
        have : kct 0 = 1 := rfl
        have : jq = 0 := by omega
        subst this
        rfl
  | iaload =>
    have e1 : len = 1 := of_decide_eq_true hok
    subst e1
    obtain ⟨x, kd, j, rr, hst, hz⟩ := opix_inv h
    clear h
    subst hst
    have h := hz
    clear hz
    have h : (bif Nat.beq (kar kd) 6 then (if ixB x (s.1 60 1 0).toNatClampNeg = true then run n i (pc + 1) lo (.inl (s.1 kd j x.toNatClampNeg) :: rr) s else none) else bif Nat.beq (kar kd) 1 then (if ixB x (kln kd) = true then run n i (pc + 1) lo (.inl (s.1 kd j x.toNatClampNeg) :: rr) s else none) else none) = some (r, s') := h
    cases h6 : Nat.beq (kar kd) 6 with
    | true =>
      rw [h6] at h
      obtain ⟨g1, g2⟩ := ixf_inv h
      exact sg_ald6 F B hH hS (Nat.eq_of_beq_eq_true h6) (okH (okT hO)) g1 hdg (go g2 hL (okI (okT (okT hO))) hH hS)
    | false =>
      rw [h6] at h
      obtain ⟨g0, h⟩ := bif_inv h
      obtain ⟨g1, g2⟩ := ixf_inv h
      exact sg_ald1 F B hH (Nat.eq_of_beq_eq_true g0) (okH (okT hO)) g1 hdg (go g2 hL (okI (okT (okT hO))) hH hS)
  | laload =>
    have e1 : len = 1 := of_decide_eq_true hok
    subst e1
    obtain ⟨x, kd, j, rr, hst, hz⟩ := opix_inv h
    clear h
    subst hst
    have h := hz
    clear hz
    obtain ⟨g0, h⟩ := bif_inv (c := Nat.beq (kar kd) 2) h
    obtain ⟨g1, g2⟩ := ixf_inv h
    exact sg_ald2 F B hH (Nat.eq_of_beq_eq_true g0) (okH (okT hO)) g1 hdg (go g2 hL (okLg (okT (okT hO))) hH hS)
  | baload =>
    have e1 : len = 1 := of_decide_eq_true hok
    subst e1
    obtain ⟨x, kd, j, rr, hst, hz⟩ := opix_inv h
    clear h
    subst hst
    have h := hz
    clear hz
    obtain ⟨g0, h⟩ := bif_inv (c := Nat.beq (kar kd) 3) h
    obtain ⟨g1, g2⟩ := ixf_inv h
    exact sg_ald3 F B hH (Nat.eq_of_beq_eq_true g0) (okH (okT hO)) g1 hdg (go g2 hL (okI (okT (okT hO))) hH hS)
  | aaload =>
    have e1 : len = 1 := of_decide_eq_true hok
    subst e1
    obtain ⟨x, kd, j, rr, hst, hz⟩ := opix_inv h
    clear h
    subst hst
    have h := hz
    clear hz
    have h : (bif Nat.beq (kar kd) 4 then (if ixB x (kln kd) = true then run n i (pc + 1) lo (.inr (.inr (kd + 4, x.toNatClampNeg)) :: rr) s else none) else bif Nat.beq (kar kd) 5 then (if ixB x (kln kd) = true then run n i (pc + 1) lo (.inr (.inr (13, s.2.2 x.toNatClampNeg)) :: rr) s else none) else none) = some (r, s') := h
    cases h6 : Nat.beq (kar kd) 4 with
    | true =>
      rw [h6] at h
      obtain ⟨g1, g2⟩ := ixf_inv h
      have h4 := Nat.eq_of_beq_eq_true h6
      exact sg_ald4 F B hH h4 (okH (okT hO)) g1 hdg (go g2 hL (okS_cons.mpr ⟨by show x.toNatClampNeg < kct (kd + 4); rw [kar_4 h4]; exact ixB_lt g1, okT (okT hO)⟩) hH hS)
    | false =>
      rw [h6] at h
      obtain ⟨g0, h⟩ := bif_inv h
      obtain ⟨g1, g2⟩ := ixf_inv h
      have h5 := Nat.eq_of_beq_eq_true g0
      exact sg_ald5 F B hH h5 (okH (okT hO)) g1 hdg (go g2 hL (okS_cons.mpr ⟨hH.2.1 _ (by have := ixB_lt g1; have := (kar_5 h5).2; omega), okT (okT hO)⟩) hH hS)
  | iastore =>
    have e1 : len = 1 := of_decide_eq_true hok
    subst e1
    have h : astx s 1 st (fun rr s1 => run n i (pc + 1) lo rr s1) = some (r, s') := h
    unfold astx at h
    split at h
    · obtain ⟨g0, h⟩ := bif_inv h
      obtain ⟨g1, g2⟩ := ixf_inv h
      exact sg_ast1 F B hH hS (Nat.eq_of_beq_eq_true g0) (okH (okT (okT hO))) g1 hdg (fun H1 locs1 k1 k2 => go g2 hL (okT (okT (okT hO))) k1 k2)
    · obtain ⟨g0, -⟩ := bif_inv h
      cases g0
    · obtain ⟨g0, -⟩ := bif_inv h
      cases g0
    · cases h
  | bastore =>
    have e1 : len = 1 := of_decide_eq_true hok
    subst e1
    have h : astx s 3 st (fun rr s1 => run n i (pc + 1) lo rr s1) = some (r, s') := h
    unfold astx at h
    split at h
    · obtain ⟨g0, h⟩ := bif_inv h
      obtain ⟨g1, g2⟩ := ixf_inv h
      exact sg_ast3 F B hH hS (Nat.eq_of_beq_eq_true g0) (okH (okT (okT hO))) g1 hdg (fun H1 locs1 k1 k2 => go g2 hL (okT (okT (okT hO))) k1 k2)
    · obtain ⟨g0, -⟩ := bif_inv h
      cases g0
    · obtain ⟨g0, -⟩ := bif_inv h
      cases g0
    · cases h
  | lastore =>
    have e1 : len = 1 := of_decide_eq_true hok
    subst e1
    have h : astx s 2 st (fun rr s1 => run n i (pc + 1) lo rr s1) = some (r, s') := h
    unfold astx at h
    split at h
    · cases h
    · obtain ⟨g0, h⟩ := bif_inv h
      obtain ⟨g1, g2⟩ := ixf_inv h
      simp only [Bool.and_eq_true] at g0
      exact sg_ast2 F B hH hS (Nat.eq_of_beq_eq_true g0.2) (okH (okT (okT hO))) g1 hdg (fun H1 locs1 k1 k2 => go g2 hL (okT (okT (okT hO))) k1 k2)
    · obtain ⟨g0, -⟩ := bif_inv h
      cases g0
    · cases h
  | aastore =>
    have e1 : len = 1 := of_decide_eq_true hok
    subst e1
    have h : astx s 4 st (fun rr s1 => run n i (pc + 1) lo rr s1) = some (r, s') := h
    unfold astx at h
    split at h
    · cases h
    · obtain ⟨g0, -⟩ := bif_inv h
      cases g0
    · obtain ⟨g0, h⟩ := bif_inv h
      obtain ⟨g1, g2⟩ := ixf_inv h
      simp only [Bool.and_eq_true] at g0
      have e13 := Nat.eq_of_beq_eq_true g0.2.2
      subst e13
      exact sg_ast5 F B hH hS (Nat.eq_of_beq_eq_true g0.2.1) (okH (okT (okT hO))) (okH hO) g1 hdg (fun H1 locs1 k1 k2 => go g2 hL (okT (okT (okT hO))) k1 k2)
    · cases h
  | arraylength =>
    have e1 : len = 1 := of_decide_eq_true hok
    subst e1
    obtain ⟨kd, j, rr, hst, hz⟩ := op1r_inv h
    clear h
    subst hst
    have h := hz
    clear hz
    have h : (bif Nat.beq (kar kd) 6 then run n i (pc + 1) lo (.inl (s.1 60 1 0) :: rr) s else bif Nat.ble 1 (kar kd) then run n i (pc + 1) lo (.inl (nI (kln kd)) :: rr) s else none) = some (r, s') := h
    cases h6 : Nat.beq (kar kd) 6 with
    | true =>
      rw [h6] at h
      have e6 := kar_6 (Nat.eq_of_beq_eq_true h6)
      subst e6
      have ej : j = 0 := by
        have h9 : j < kct 60 := okH hO
        have : kct 60 = 1 := rfl
        omega
      subst ej
      refine va_slen hx hb B.2.2.2.1 B.2.2.2.2.1 B.2.2.2.2.2 hS hdg ?_
      rw [← hH.2.2.2.1]
      exact go h hL (okI (okT hO)) hH hS
    | false =>
      rw [h6] at h
      obtain ⟨g0, h⟩ := bif_inv h
      have g0' := Nat.le_of_ble_eq_true g0
      exact sg_aln F B hH (by omega) (fun z => by rw [z] at h6; cases h6) (okH hO) hdg (go h hL (okI (okT hO)) hH hS)
  | invokestatic ix =>
    cases h9 : Nat.beq a 999 with
    | true =>
      have ea := Nat.eq_of_beq_eq_true h9
      subst ea
      have hok : decide (wsL_law[pos]? = some (.methodLink (mO i) ix arraycopyName) ∧ 1 ≤ mF i ∧ 26 ≤ mL i ∧ len = 3) = true := hok
      obtain ⟨g1, g2, g3, rfl⟩ := decide_eq_true_iff.mp hok
      obtain ⟨z, dp, kd, j, sp, kd0, j0, rr, rfl, k1, k2, k3, ⟨k4, k5, k6, k7, k8⟩, h⟩ := copyx_inv (F := fun rr s1 => run n i (pc + 3) lo rr s1) h
      exact sg_cpy F B hH hS hL.1 k1 (okH (okT (okT hO))) k2 (okH (okT (okT (okT (okT hO))))) k3 k4 k5 k6 k7 k8 g1 ⟨g2, g3⟩ hdg (fun H1 locs1 q1 q2 => go h hL (okT (okT (okT (okT (okT hO))))) q1 q2)
    | false =>
    cases h93 : Nat.beq a 993 with
    | true =>
      simp only [h9, h93, cond_false, cond_true, maB, decide_eq_true_eq] at hok
      obtain ⟨g1, g2, g3, rfl⟩ := hok
      have h : (bif Nat.beq a 999 then copyx st s (fun rr s1 => run n i (pc + 3) lo rr s1) else bif Nat.beq a 993 then op1i st (fun x rr => bif Nat.ble (cats rr) 8 then run n i (pc + 3) lo (.inl (if 0 ≤ x then x else 0 - x) :: rr) s else none) else _) = some (r, s') := h
      rw [h9, h93] at h
      obtain ⟨x, rr, hst, hz⟩ := op1i_inv h
      clear h
      subst hst
      obtain ⟨k1, k2⟩ := bif_inv hz
      have k1' := Nat.le_of_ble_eq_true k1
      exact va_mabs hx hb (hml.trans hL.1.symm) hown (hts _ (List.mem_of_getElem? g1)) (hts _ (List.mem_of_getElem? (i := 833) rfl)) (hts _ (List.mem_of_getElem? (i := 41) rfl)) (hts _ (List.mem_of_getElem? (i := 834) rfl)) (Nat.le_trans g2 F.2.2.2.2.2.2.1) (by rw [cats_rv]; have := F.2.2.2.2.2.2.2.1; omega) F.2.2.2.2.2.2.2.2.1 F.2.2.2.2.2.2.2.2.2 hdg (go k2 hL (okI (okT hO)) hH hS)
    | false =>
    cases h94 : Nat.beq a 994 with
    | true =>
      simp only [h9, h93, h94, cond_false, cond_true, maB, decide_eq_true_eq] at hok
      obtain ⟨g1, g2, g3, rfl⟩ := hok
      have h : (bif Nat.beq a 999 then copyx st s (fun rr s1 => run n i (pc + 3) lo rr s1) else bif Nat.beq a 993 then op1i st (fun x rr => bif Nat.ble (cats rr) 8 then run n i (pc + 3) lo (.inl (if 0 ≤ x then x else 0 - x) :: rr) s else none) else bif Nat.beq a 994 then op1l st (fun x rr => bif Nat.ble (cats rr) 8 then run n i (pc + 3) lo (.inr (.inl (if 0 < x then x else -x)) :: rr) s else none) else _) = some (r, s') := h
      rw [h9, h93, h94] at h
      obtain ⟨x, rr, hst, hz⟩ := op1l_inv h
      clear h
      subst hst
      obtain ⟨k1, k2⟩ := bif_inv hz
      have k1' := Nat.le_of_ble_eq_true k1
      exact va_mabs_long hx hb (hml.trans hL.1.symm) hown (hts _ (List.mem_of_getElem? g1)) (hts _ (List.mem_of_getElem? (i := 712) rfl)) (hts _ (List.mem_of_getElem? (i := 41) rfl)) (hts _ (List.mem_of_getElem? (i := 713) rfl)) (Nat.le_trans g2 F.2.2.2.2.2.2.1) (by rw [cats_rv]; have := F.2.2.2.2.2.2.2.1; omega) F.2.2.2.2.2.2.2.2.1 F.2.2.2.2.2.2.2.2.2 hdg (go k2 hL (okLg (okT hO)) hH hS)
    | false =>
    cases h96 : Nat.beq a 996 with
    | true =>
      simp only [h9, h93, h94, h96, cond_false, cond_true, maB, decide_eq_true_eq] at hok
      obtain ⟨g1, g2, g3, rfl⟩ := hok
      have h : (bif Nat.beq a 999 then copyx st s (fun rr s1 => run n i (pc + 3) lo rr s1) else bif Nat.beq a 993 then op1i st (fun x rr => bif Nat.ble (cats rr) 8 then run n i (pc + 3) lo (.inl (if 0 ≤ x then x else 0 - x) :: rr) s else none) else bif Nat.beq a 994 then op1l st (fun x rr => bif Nat.ble (cats rr) 8 then run n i (pc + 3) lo (.inr (.inl (if 0 < x then x else -x)) :: rr) s else none) else bif Nat.beq a 996 then op2i st (fun x y rr => bif Nat.ble (cats rr) 8 then run n i (pc + 3) lo (.inl (if y < x then y else x) :: rr) s else none) else _) = some (r, s') := h
      rw [h9, h93, h94, h96] at h
      obtain ⟨x, y, rr, hst, hz⟩ := op2i_inv h
      clear h
      subst hst
      obtain ⟨k1, k2⟩ := bif_inv hz
      have k1' := Nat.le_of_ble_eq_true k1
      exact va_mmin hx hb (hml.trans hL.1.symm) hown (hts _ (List.mem_of_getElem? g1)) (hts _ (List.mem_of_getElem? (i := 836) rfl)) (hts _ (List.mem_of_getElem? (i := 41) rfl)) (hts _ (List.mem_of_getElem? (i := 837) rfl)) (Nat.le_trans g2 F.2.2.2.2.2.2.1) (by rw [cats_rv]; have := F.2.2.2.2.2.2.2.1; omega) F.2.2.2.2.2.2.2.2.1 F.2.2.2.2.2.2.2.2.2 hdg (go k2 hL (okI (okT (okT hO))) hH hS)
    | false =>
      simp only [h9, h93, h94, h96, cond_false, Bool.and_eq_true, decide_eq_true_eq] at hok
      obtain ⟨hc, rfl⟩ := hok
      have h : (bif Nat.beq a 999 then copyx st s (fun rr s1 => run n i (pc + 3) lo rr s1) else bif Nat.beq a 993 then op1i st (fun x rr => bif Nat.ble (cats rr) 8 then run n i (pc + 3) lo (.inl (if 0 ≤ x then x else 0 - x) :: rr) s else none) else bif Nat.beq a 994 then op1l st (fun x rr => bif Nat.ble (cats rr) 8 then run n i (pc + 3) lo (.inr (.inl (if 0 < x then x else -x)) :: rr) s else none) else bif Nat.beq a 996 then op2i st (fun x y rr => bif Nat.ble (cats rr) 8 then run n i (pc + 3) lo (.inl (if y < x then y else x) :: rr) s else none) else callx (run n) a b d ee (st.take b).reverse (st.drop b) s (fun rr s1 => run n i (pc + 3) lo rr s1)) = some (r, s') := h
      rw [h9, h93, h94, h96] at h
      obtain ⟨k1, k2, k0, rr, s1, k3, k4, k5⟩ := callx_inv (F := fun rr s1 => run n i (pc + 3) lo rr s1) h
      have ha : a < 237 ∧ (a < 3 ∨ 6 < a) := by
        unfold caB at hc
        simp only [Bool.and_eq_true, decide_eq_true_eq] at hc
        exact hc.1.1
      rw [← take_drop_rev st b]
      exact sg_callS ih F B hH hS hL.1 (hMs a ha.1 ha.2) hc k0 (okS_take hO b) k2 k1 k3 hdg (fun H1 locs1 q1 q2 => go k4 hL (okS_app k5 (okS_drop hO b)) q1 q2)
  | invokevirtual ix =>
    simp only [Bool.and_eq_true, decide_eq_true_eq] at hok
    obtain ⟨hc, rfl⟩ := hok
    obtain ⟨hr, h⟩ := bif_inv (c := recvx (st.take b).reverse f) h
    obtain ⟨k1, k2, k0, rr, s1, k3, k4, k5⟩ := callx_inv (F := fun rr s1 => run n i (pc + 3) lo rr s1) h
    obtain ⟨kd, j, as, has, hk⟩ := recvx_inv hr
    have ha : a < 237 ∧ (a < 3 ∨ 6 < a) := by
      unfold caB at hc
      simp only [Bool.and_eq_true, decide_eq_true_eq] at hc
      exact hc.1.1
    have hst : st = as.reverse ++ .inr (.inr (kd, j)) :: st.drop b := by
      have := take_drop_rev st b
      rw [has] at this
      rw [List.reverse_cons, List.append_assoc] at this
      exact this.symm
    have hoa := okS_take hO b
    rw [has] at k2 k3 hoa
    have hbl : as.length + 1 = b := by
      rw [has] at k0
      exact k0
    rw [hst]
    exact sg_callV ih F B hH hS hL.1 (hMs a ha.1 ha.2) hc hbl hk hoa k2 k1 k3 hdg (fun H1 locs1 q1 q2 => go k4 hL (okS_app k5 (okS_drop hO b)) q1 q2)
  | ireturn =>
    obtain ⟨rfl, hd⟩ := of_decide_eq_true hok
    obtain ⟨rfl, rfl, hr⟩ := retx_inv (st := st) (d := d) (s := s) h
    clear h
    refine hret pc ls H locs ?_ hH hS
    match r, hr with
    | some (.inl x), hr =>
      have hr : d = 0 ∨ (d = 3 ∧ isZ x = true) := hr
      refine ⟨hdg, ?_⟩
      rcases hd with ⟨d0, hd⟩ | ⟨d3, hd⟩
      · exact Or.inl hd
      · rcases hr with hr | ⟨-, hz⟩
        · rw [d3] at hr; cases hr
        · exact Or.inr ⟨hd, hz⟩
    | some (.inr (.inl x)), hr => rcases hd with ⟨d0, -⟩ | ⟨d3, -⟩ <;> (have hr : d = 1 := hr; omega)
    | some (.inr (.inr x)), hr => exact hr.elim
    | none, hr => rcases hd with ⟨d0, -⟩ | ⟨d3, -⟩ <;> (have hr : d = 2 := hr; omega)
  | lreturn =>
    obtain ⟨rfl, d1, hd⟩ := of_decide_eq_true hok
    obtain ⟨rfl, rfl, hr⟩ := retx_inv (st := st) (d := d) (s := s) h
    clear h
    refine hret pc ls H locs ?_ hH hS
    match r, hr with
    | some (.inl x), hr =>
      have hr : d = 0 ∨ (d = 3 ∧ isZ x = true) := hr
      rcases hr with hr | ⟨hr, -⟩ <;> omega
    | some (.inr (.inl x)), hr => exact ⟨hdg, hd⟩
    | some (.inr (.inr x)), hr => exact hr.elim
    | none, hr => have hr : d = 2 := hr; omega
  | return_ =>
    obtain ⟨rfl, d1, hd⟩ := of_decide_eq_true hok
    obtain ⟨rfl, rfl, hr⟩ := retx_inv (st := st) (d := d) (s := s) h
    clear h
    refine hret pc ls H locs ?_ hH hS
    match r, hr with
    | some (.inl x), hr =>
      have hr : d = 0 ∨ (d = 3 ∧ isZ x = true) := hr
      rcases hr with hr | ⟨hr, -⟩ <;> omega
    | some (.inr (.inl x)), hr => have hr : d = 1 := hr; omega
    | some (.inr (.inr x)), hr => exact hr.elim
    | none, hr => exact ⟨hdg, hd⟩
  | _ => cases h
theorem sound {ad : Nat × Nat → Nat} {C : Cls} {D : va_G} {xs : Nat → Int32} {L : Nat} (hMs : ∀ a, a < 237 → (a < 3 ∨ 6 < a) → okM a = true) (hTf : ∀ i pc en, lkp (mtab i) pc = some en → okB i pc en = true) : ∀ n, Sound ad C D xs L n
  | 0 => fun i pc lo st s r s' h => by cases h
  | n + 1 => by
    intro i pc lo st s r s' h p l e R s0 m args below meth c H locs cells slots Q ls A H0 F B hL hO hH hS hret
    have h : body (run n) (run n) i pc lo st s = some (r, s') := h
    unfold body at h
    split at h
    · cases h
    · rename_i en hen
      have hok := hTf i pc en hen
      split at h
      · exact opx_sound hMs (sound hMs hTf n) hok h p l e R s0 m args below meth c H locs cells slots Q ls A H0 F B hL hO hH hS hret
      · rw [frc_eq] at h
        exact opx_sound hMs (sound hMs hTf n) hok h p l e R s0 m args below meth c H locs cells slots Q ls A H0 F B (LRep_kil hL _) hO hH hS hret
