def wsM (a : Nat) : List Cond := .code (mY a) (mC a) (mX a) (mR a) :: wsL_law
def rmM (a : Nat) : Room := { frames := mF a, cells := 0, slots := 0, locals := mL a }
def PcG (ad : Nat × Nat → Nat) (C : Cls) (D : va_G) (xs : Nat → Int32) (L : Nat) (as : List AV) (s : SS) : Array Value → State → Prop := fun v U => v = (as.map (rv ad)).toArray ∧ Hp ad C D xs L s U.heap ∧ va_K D vwCl (tyG C) U ∧ NN U ∧ va_X (ad (60, 0)) L xs U U.heap
def QcG (ad : Nat × Nat → Nat) (C : Cls) (D : va_G) (xs : Nat → Int32) (L : Nat) (r : Option AV) (s1 : SS) : Array Value → State → Outcome → State → Prop := fun _ st oc t => oc = .returned (r.map (rv ad)) ∧ Hp ad C D xs L s1 t.heap ∧ va_F (A0 ad) st t
theorem wsL_good : wsL_law.all goodWord = true := by decide +kernel
theorem good_wsM {a : Nat} (h : wsL_law[(mP a).1]? = some (.code (mY a) (mC a) (mX a) (mR a))) : GoodIn wsL_law (wsM a) := by
  intro w hw
  have hm : w ∈ wsL_law := by
    rcases List.mem_cons.mp hw with e | e
    · rw [e]; exact List.mem_of_getElem? h
    · exact e
  exact ⟨hm, good_of_word (List.all_eq_true.mp wsL_good w hm)⟩
theorem nest_form : ∀ w ∈ nestW, (∃ a i b n d h, w = Cond.fieldLinkNest a i b n d h) ∨ ∃ a i x h, w = Cond.methodLinkNest a i x h := by
  intro w hw
  unfold nestW at hw
  repeat (rcases List.mem_cons.mp hw with rfl | hw; first | exact Or.inl ⟨_, _, _, _, _, _, rfl⟩ | exact Or.inr ⟨_, _, _, _, rfl⟩)
  cases hw
theorem NN_warm {s U : State} (hW : s.WarmedH U.vm) (h : NN s) : NN U := by
  intro w hw
  have hz := h w hw
  rcases nest_form w hw with ⟨a, i, b, n, d, q, rfl⟩ | ⟨a, i, x, q, rfl⟩
  · exact va_Nw.warmF hW hz
  · exact va_Nw.warmM hW hz
theorem NN_same {s U : State} (hv : s.vm = U.vm) (h : NN s) : NN U := by
  intro w hw
  have hz := h w hw
  rcases nest_form w hw with ⟨a, i, b, n, d, q, rfl⟩ | ⟨a, i, x, q, rfl⟩
  · exact va_Nw.same rfl hv hz
  · exact va_Nw.same rfl hv hz
theorem PcG_blind (ad : Nat × Nat → Nat) (C : Cls) (D : va_G) (xs : Nat → Int32) (L : Nat) (as : List AV) (s : SS) : FrameBlind (PcG ad C D xs L as s) := by
  intro a U g mk q
  obtain ⟨q0, q1, q2, q3, q4⟩ := q
  exact ⟨q0, q1, va_K.moved (u := U) (U := U.calling g mk a) (Vm.Alike.refl U.vm) q2, NN_same (s := U) (U := U.calling g mk a) rfl q3, va_X.moved (u := U) (U := U.calling g mk a) (Vm.Alike.refl U.vm) q4⟩
theorem okM_spec {a : Nat} (h : okM a = true) : wsL_law[(mP a).1]? = some (.code (mY a) (mC a) (mX a) (mR a)) ∧ wsL_law[(mP a).2.1]? = some (.initialized (mY a).cls) ∧ (mY a).cls ≠ "java/lang/invoke/MethodHandle" ∧ (mY a).cls ≠ "java/lang/invoke/VarHandle" ∧ (parseMethodDescriptor (mY a).desc).map (fun d => d.parameters.length) = some (mN a) ∧ plainName (mY a).cls = true ∧ (mY a).cls = mO a ∧ ((mP a).2.2.2 = 9999 → wsL_law[(mP a).2.2.1]? = some (.static (mY a))) ∧ ((mP a).2.2.2 ≠ 9999 → wsL_law[(mP a).2.2.1]? = some (.instanceMethod (mY a)) ∧ wsL_law[(mP a).2.2.2]? = some (.selects (mY a).cls (mY a) (mY a))) := by
  unfold okM at h
  simp only [Bool.and_eq_true, decide_eq_true_eq] at h
  obtain ⟨h1, h2, h3, h4, h5, h6, h7, h8⟩ := h
  refine ⟨h1, h2, h3, h4, h5, h6, h7, fun q => ?_, fun q => ?_⟩
  · have e : Nat.beq (mP a).2.2.2 9999 = true := by rw [q]; rfl
    rw [e] at h8
    exact of_decide_eq_true h8
  · have e : Nat.beq (mP a).2.2.2 9999 = false := by
      cases z : Nat.beq (mP a).2.2.2 9999 with
      | false => rfl
      | true => exact absurd (Nat.eq_of_beq_eq_true z) q
    rw [e] at h8
    simp only [cond_false, Bool.and_eq_true, decide_eq_true_eq] at h8
    exact h8
section SNC
variable {p : Program} {l : Launch} {e : Env} {R : Room} {s0 : State} {m : MethodId} {args : Array Value} {below : List Frame} {meth : Method} {c : Code} {H : Heap} {locs : List Loc} {cells slots : Nat} {Q : State → Prop}
variable {pc i : Nat} {ls : Array Slot} {ad : Nat × Nat → Nat} {C : Cls} {D : va_G} {xs : Nat → Int32} {L : Nat} {A : Nat → Prop} {H0 : Heap} {s s1 : SS}
theorem isZ_nar {x : Int32} (h : isZ x = true) : narrow .boolean (.int x) = .int x := by
  unfold isZ at h
  simp only [Bool.or_eq_true, decide_eq_true_eq] at h
  rcases h with rfl | rfl <;> decide +kernel
theorem met_of {n : Nat} (l : Launch) (ih : Sound ad C D xs L n) (hA : AdK ad) {a : Nat} (hM : okM a = true) {as : List AV} {r : Option AV} (h : run n a 0 (entL as (mX a)) [] s = some (r, s1)) (ho : okS as) (hlen : (entA as).length ≤ mX a) : Met l (mY a) (wsM a) (rmM a) (PcG ad C D xs L as s) (QcG ad C D xs L r s1) 0 0 (A0 ad) := by
  obtain ⟨m1, m2, m3, m4, m5, m6, m7, m8, m9⟩ := okM_spec hM
  refine Met.ofW (cc := mC a) (maxL := mX a) (ret := mR a) m6 rfl ?_
  intro p e s0 m args below meth c s₁ B hml hv
  obtain ⟨rfl, hH, hK, hN, hX⟩ := hv
  have hx := B.exec
  have hb := B.bytes
  have hr := B.returns
  have hts := atoms_spec (ws := wsM a) B.pre
  have hown : s0.vm.findClass (mO a) = some m.cls := by rw [← m7]; exact findClass_of_methodNamed B.named
  have hlocks := B.notSynchronized
  have hbl : ad (60, 0) < s0.heap.size := by
    obtain ⟨scr, h1, -⟩ := hX
    exact (Array.getElem?_eq_some_iff.mp h1).1
  have hbA : ¬ A0 ad (ad (60, 0)) := by
    rintro ⟨q, hq1, hq2⟩
    exact hA.2 q hq1 hq2.symm
  rw [lg_entry_eq]
  refine ih a 0 (entL as (mX a)) [] s r s1 h p l e _ s0 m _ below meth c s0.heap [] 0 0 _ _ (A0 ad) s0.heap ⟨hx, hb, hml, hown, fun w hw => hts w (List.mem_cons_of_mem _ hw), hN, Nat.le_refl _, Nat.le_refl _, Nat.zero_le _, Nat.zero_le _⟩ ⟨hA, hK, fun q hq => ⟨q, hq, rfl⟩, hX, hbl, hbA⟩ (LRep_entry ad ho hlen) (fun _ hv => by cases hv) hH va_S.rf ?_
  intro pc' ls' H' locs' hret hH' hS'
  match r, hret with
  | some (.inl x), hret =>
    obtain ⟨hd, hty⟩ := hret
    rcases hty with h1 | ⟨h1, hz⟩
    · exact W.iret (v := x) hx hb (hr.trans h1) (fun t ht hW => ⟨rfl, by rw [ht]; exact hH', hS'.F ht⟩) hS'.2.2 hd
    · exact W.zret (v := x) hx hb (hr.trans h1) (isZ_nar hz) (fun t ht hW => ⟨rfl, by rw [ht]; exact hH', hS'.F ht⟩) hS'.2.2 hd
  | some (.inr (.inl x)), hret =>
    obtain ⟨hd, hty⟩ := hret
    exact W.lret (v := x) hx hb (hr.trans hty) (fun t ht hW => ⟨rfl, by rw [ht]; exact hH', hS'.F ht⟩) hS'.2.2 hd
  | some (.inr (.inr x)), hret => exact hret.elim
  | none, hret =>
    obtain ⟨hd, hty⟩ := hret
    exact W.vret hx hb (hr.trans hty) (fun t ht hW => ⟨rfl, by rw [ht]; exact hH', hS'.F ht⟩) hS'.2.2 hd
theorem callG {st0 rest : List Value} {av : Array Value} {r : Option AV} (B : Bg ad C D xs L A s0 H0) (hr : va_Run p l e R s0 m args below meth c H locs cells slots 0 0 (F0 m pc ls st0) rest (QcG ad C D xs L r s1 av) (A0 ad)) (hS : va_S A H0 H locs)
    (kk : ∀ (H1 : Heap) (locs1 : List Loc), Hp ad C D xs L s1 H1 → va_S A H0 H1 locs1 → W p l e R s0 m args below meth c H1 locs1 cells slots Q (F0 m (pc + 3) ls ((r.map (rv ad)).toList ++ rest))) : W p l e R s0 m args below meth c H locs cells slots Q (F0 m pc ls st0) := by
  have hA : ∀ q, A0 ad q → A q := fun q hq => by
    obtain ⟨a, h1, h2⟩ := hq
    rw [h2]
    exact B.2.2.1 a h1
  intro T hT X
  obtain ⟨v, st₀, t, T', Lc, h0, X', hL, e1, e2, ⟨hv, hp, hz, hk⟩, st⟩ := hr T hT X
  cases hv
  rw [h0] at hz hk
  obtain ⟨t2, a1, b1⟩ := kk T'.heap (locs ++ Lc) (by rw [e1]; exact hp)
    ⟨Nat.le_trans hS.1 (by rw [e1]; exact hz), fun q h1 h2 => by rw [e1, hk q (Nat.lt_of_lt_of_le h1 hS.1) (fun z => h2 (hA q z))]; exact hS.2.1 q h1 h2, fun q hq => by
      rcases List.mem_append.mp hq with h | h
      · exact hS.2.2 q h
      · exact hA _ (hL q h)⟩ T' rfl X'
  exact ⟨t2, st t2 a1, b1⟩
theorem cats_rv (ad : Nat × Nat → Nat) : ∀ st : List AV, ((st.map (rv ad)).map fun v => v.category).sum = cats st
  | [] => rfl
  | v :: r => by
    rw [List.map_cons, List.map_cons, List.sum_cons, cats_rv ad r, rv_cat]
    rfl
theorem pre_at (B : Bg ad C D xs L A s0 H0) (hN : NN s0) (hH : Hp ad C D xs L s H) (hS : va_S A H0 H locs) {as : List AV} : ∀ U : State, U.heap = H → s0.WarmedH U.vm → PcG ad C D xs L as s (as.map (rv ad)).toArray U := by
  intro U hU hW
  refine ⟨rfl, by rw [hU]; exact hH, va_K.moved hW.alike B.2.1, NN_warm hW hN, ?_⟩
  rw [hU]
  exact va_X.moved hW.alike (B.2.2.2.1.kept (hS.2.1 _ B.2.2.2.2.1 B.2.2.2.2.2))
theorem sg_callS {n ix a b ee f pos : Nat} {as rest : List AV} {r : Option AV} (ih : Sound ad C D xs L n) (F : Fr i p R s0 m args c cells slots) (B : Bg ad C D xs L A s0 H0) (hH : Hp ad C D xs L s H) (hS : va_S A H0 H locs) (hls : ls.size = mX i) (hM : okM a = true) (hc : caB i ix a b ee f pos false = true) (hn : as.length = b) (ho : okS as) (hlen : (entA as).length ≤ ee) (hcr : cats rest ≤ 8) (h : run n a 0 (entL as ee) [] s = some (r, s1)) (hdg : decode (mC i) pc = .ok (.invokestatic ix, 3))
    (kk : ∀ (H1 : Heap) (locs1 : List Loc), Hp ad C D xs L s1 H1 → va_S A H0 H1 locs1 → W p l e R s0 m args below meth c H1 locs1 cells slots Q (F0 m (pc + 3) ls ((r.toList ++ rest).map (rv ad)))) : W p l e R s0 m args below meth c H locs cells slots Q (F0 m pc ls ((as.reverse ++ rest).map (rv ad))) := by
  unfold caB at hc
  simp only [Bool.and_eq_true, decide_eq_true_eq, cond_false] at hc
  obtain ⟨⟨c1, rfl, c3, c4⟩, c5, c6, c7⟩ := hc
  obtain ⟨m1, m2, m3, m4, m5, m6, m7, m8, m9⟩ := okM_spec hM
  obtain ⟨hx, hb, hml, hown, hts, hN, hF1, hF2, hcl, hsl⟩ := F
  have hG := good_wsM m1
  have hMet := met_of l ih B.1 hM h ho hlen
  have hini := hts _ (List.mem_of_getElem? m2)
  have hsta := hts _ (List.mem_of_getElem? (m8 c7))
  have hR : (rmM a).frames + 1 ≤ R.frames ∧ 8 + (mX a + 11) + (rmM a).locals ≤ R.locals := ⟨Nat.le_trans c3 hF1, Nat.le_trans c4 hF2⟩
  have hst : (as.reverse ++ rest).map (rv ad) = (as.map (rv ad)).reverse ++ rest.map (rv ad) := by rw [List.map_append, List.map_reverse]
  have hrr : ∀ H1 locs1, Hp ad C D xs L s1 H1 → va_S A H0 H1 locs1 → W p l e R s0 m args below meth c H1 locs1 cells slots Q (F0 m (pc + 3) ls ((r.map (rv ad)).toList ++ rest.map (rv ad))) := by
    intro H1 locs1 g1 g2
    have := kk H1 locs1 g1 g2
    rw [List.map_append] at this
    cases r <;> exact this
  rw [hst]
  rcases lkM_inv c5 with ⟨-, hl'⟩ | hl'
  · exact callG B (va_runSN (As := as.map (rv ad)) (rest := rest.map (rv ad)) ⟨hx, hb, hml, hown, hts⟩ hMet ⟨va_cnB (mN a) hts hG rfl rfl rfl (hN _ (List.mem_of_getElem? hl')) hini ⟨m3, m4, m5⟩ hR, hsta, trivial⟩ ⟨PcG_blind ad C D xs L as s, pre_at B hN hH hS⟩ rfl (by rw [List.length_map]; omega) hls rfl (lv_room (by rw [cats_rv]; exact hcr)) hdg ⟨hcl, hsl⟩) hS hrr
  · exact callG B (va_runS (As := as.map (rv ad)) (rest := rest.map (rv ad)) ⟨hx, hb, hml, hown, hts⟩ hMet ⟨callB_of (mN a) hts hG rfl rfl rfl hini (hts _ (List.mem_of_getElem? hl')) ⟨m3, m4, m5⟩ hR, hsta⟩ ⟨PcG_blind ad C D xs L as s, pre_at B hN hH hS⟩ rfl (by rw [List.length_map]; omega) hls rfl (lv_room (by rw [cats_rv]; exact hcr)) hdg ⟨hcl, hsl⟩) hS hrr
theorem sg_callV {n ix a b ee f pos kd j : Nat} {as rest : List AV} {r : Option AV} (ih : Sound ad C D xs L n) (F : Fr i p R s0 m args c cells slots) (B : Bg ad C D xs L A s0 H0) (hH : Hp ad C D xs L s H) (hS : va_S A H0 H locs) (hls : ls.size = mX i) (hM : okM a = true) (hc : caB i ix a b ee f pos true = true) (hn : as.length + 1 = b) (hk : kcl kd = f) (ho : okS (.inr (.inr (kd, j)) :: as)) (hlen : (entA (.inr (.inr (kd, j)) :: as)).length ≤ ee) (hcr : cats rest ≤ 8) (h : run n a 0 (entL (.inr (.inr (kd, j)) :: as) ee) [] s = some (r, s1)) (hdg : decode (mC i) pc = .ok (.invokevirtual ix, 3))
    (kk : ∀ (H1 : Heap) (locs1 : List Loc), Hp ad C D xs L s1 H1 → va_S A H0 H1 locs1 → W p l e R s0 m args below meth c H1 locs1 cells slots Q (F0 m (pc + 3) ls ((r.toList ++ rest).map (rv ad)))) : W p l e R s0 m args below meth c H locs cells slots Q (F0 m pc ls ((as.reverse ++ .inr (.inr (kd, j)) :: rest).map (rv ad))) := by
  unfold caB at hc
  simp only [Bool.and_eq_true, decide_eq_true_eq, cond_true] at hc
  obtain ⟨⟨c1, rfl, c3, c4⟩, c5, c6, c7, c8, c9, c10⟩ := hc
  obtain ⟨m1, m2, m3, m4, m5, m6, m7, m8, m9⟩ := okM_spec hM
  obtain ⟨hx, hb, hml, hown, hts, hN, hF1, hF2, hcl, hsl⟩ := F
  subst hk
  have hG := good_wsM m1
  have hMet := met_of l ih B.1 hM h ho hlen
  have hini := hts _ (List.mem_of_getElem? m2)
  have hins := hts _ (List.mem_of_getElem? (m9 c9).1)
  have hsel := hts _ (List.mem_of_getElem? (m9 c9).2)
  have hR : (rmM a).frames + 1 ≤ R.frames ∧ 8 + (mX a + 11) + (rmM a).locals ≤ R.locals := ⟨Nat.le_trans c3 hF1, Nat.le_trans c4 hF2⟩
  have hst : (as.reverse ++ .inr (.inr (kd, j)) :: rest).map (rv ad) = (as.map (rv ad)).reverse ++ .ref (ad (kd, j)) :: rest.map (rv ad) := by
    rw [List.map_append, List.map_reverse]
    rfl
  have hrr : ∀ H1 locs1, Hp ad C D xs L s1 H1 → va_S A H0 H1 locs1 → W p l e R s0 m args below meth c H1 locs1 cells slots Q (F0 m (pc + 3) ls ((r.map (rv ad)).toList ++ rest.map (rv ad))) := by
    intro H1 locs1 g1 g2
    have := kk H1 locs1 g1 g2
    rw [List.map_append] at this
    cases r <;> exact this
  rw [hst]
  have hl' : wsL_law[pos]? = some (.methodLink (mO i) ix (mY a)) := by
    rcases lkM_inv c5 with ⟨g, -⟩ | g
    · exact absurd g (by omega)
    · exact g
  obtain ⟨q, hq, he⟩ := wsG_at ad C s (a := (kd, j)) (mem_dom.mpr ⟨(kcl_lt c7).1, okH ho⟩)
  rw [cell_obj ad C s c7] at he
  rw [c8] at hsel
  exact callG B (va_runV (As := as.map (rv ad)) (rest := rest.map (rv ad)) (b := ad (kd, j)) (C := RR (kcl kd)) ⟨hx, hb, hml, hown, hts⟩ hMet ⟨callB_of (mN a) hts hG rfl rfl rfl hini (hts _ (List.mem_of_getElem? hl')) ⟨m3, m4, m5⟩ hR, hins, hsel⟩ ⟨PcG_blind ad C D xs L (.inr (.inr (kd, j)) :: as) s, va_recv B.2.1 hH.1 (clT c7) he, pre_at (as := .inr (.inr (kd, j)) :: as) B hN hH hS⟩ rfl (by rw [List.length_map]; omega) hls rfl (lv_room (by rw [cats_rv]; exact hcr)) hdg ⟨hcl, hsl⟩) hS hrr
end SNC
