def RetK (i pc : Nat) (r : Option AV) : Prop := match r with
  | some (.inl x) => decode (mC i) pc = .ok (.ireturn, 1) ∧ (mR i = some .int ∨ (mR i = some .boolean ∧ isZ x = true))
  | some (.inr (.inl _)) => decode (mC i) pc = .ok (.lreturn, 1) ∧ mR i = some .long
  | some (.inr (.inr _)) => False
  | none => decode (mC i) pc = .ok (.return_, 1) ∧ mR i = none
def Fr (i : Nat) (p : Program) (R : Room) (s0 : State) (m : MethodId) (args : Array Value) (c : Code) (cells slots : Nat) : Prop := p.tables.exec = Jvm.exec ∧ c.code = mC i ∧ c.maxLocals = mX i ∧ s0.vm.findClass (mO i) = some m.cls ∧ (∀ w ∈ wsL_law, w.before args s0 = true) ∧ NN s0 ∧ mF i ≤ R.frames ∧ mL i ≤ R.locals ∧ cells ≤ R.cells ∧ slots ≤ R.slots
def Bg (ad : Nat × Nat → Nat) (C : Cls) (D : va_G) (xs : Nat → Int32) (L : Nat) (A : Nat → Prop) (s0 : State) (H0 : Heap) : Prop := AdK ad ∧ va_K D vwCl (tyG C) s0 ∧ (∀ a, a ∈ dom → A (ad a)) ∧ va_X (ad (60, 0)) L xs s0 H0 ∧ ad (60, 0) < H0.size ∧ ¬ A (ad (60, 0))
def Sound (ad : Nat × Nat → Nat) (C : Cls) (D : va_G) (xs : Nat → Int32) (L : Nat) (n : Nat) : Prop := ∀ (i pc : Nat) (lo : LO) (st : List AV) (s : SS) (r : Option AV) (s' : SS), run n i pc lo st s = some (r, s') → ∀ (p : Program) (l : Launch) (e : Env) (R : Room) (s0 : State) (m : MethodId) (args : Array Value) (below : List Frame) (meth : Method) (c : Code) (H : Heap) (locs : List Loc) (cells slots : Nat) (Q : State → Prop) (ls : Array Slot) (A : Nat → Prop) (H0 : Heap), Fr i p R s0 m args c cells slots → Bg ad C D xs L A s0 H0 → LRep ad ls (mX i) lo → okS st → Hp ad C D xs L s H → va_S A H0 H locs → (∀ (pc' : Nat) (ls' : Array Slot) (H' : Heap) (locs' : List Loc), RetK i pc' r → Hp ad C D xs L s' H' → va_S A H0 H' locs' → W p l e R s0 m args below meth c H' locs' cells slots Q (F0 m pc' ls' (r.toList.map (rv ad)))) → W p l e R s0 m args below meth c H locs cells slots Q (F0 m pc ls (st.map (rv ad)))
section SND
variable {p : Program} {l : Launch} {e : Env} {R : Room} {s0 : State} {m : MethodId} {args : Array Value} {below : List Frame} {meth : Method} {c : Code} {H : Heap} {locs : List Loc} {cells slots : Nat} {Q : State → Prop}
variable {pc i : Nat} {ls : Array Slot} {ad : Nat × Nat → Nat} {C : Cls} {D : va_G} {xs : Nat → Int32} {L : Nat} {A : Nat → Prop} {H0 : Heap} {s s1 : SS}
/-- a field is read -/
theorem sg_get {ix a b pos kd j : Nat} {rest : List Value} (F : Fr i p R s0 m args c cells slots) (B : Bg ad C D xs L A s0 H0) (hH : Hp ad C D xs L s H) (ha : a < 5) (hb5 : b < NF a) (hl : lkF i ix a b pos = true) (hk : kcl kd = a) (hj : j < kct kd) (hdg : decode (mC i) pc = .ok (.getfield ix, 3)) (kk : W p l e R s0 m args below meth c H locs cells slots Q (F0 m (pc + 3) ls (rv ad (fvv s kd j b) :: rest))) : W p l e R s0 m args below meth c H locs cells slots Q (F0 m pc ls (.ref (ad (kd, j)) :: rest)) := by
  subst hk
  obtain ⟨hx, hb, hml, hown, hts, hN, -⟩ := F
  obtain ⟨q, hq, he⟩ := wsG_at ad C s (a := (kd, j)) (mem_dom.mpr ⟨(kcl_lt ha).1, hj⟩)
  rw [cell_obj ad C s ha] at he
  rcases lkF_inv hl with hl' | hl'
  · exact va_getN hx hb hts (inT ha) hown B.2.1 hH.1 q he (clT ha) b hb5 (va_Nw.use rfl (hN _ (List.mem_of_getElem? hl'))) (fun _ h9 => h9) (range_map_at _ hb5) hdg kk
  · exact va_get hx hb hts (inT ha) hown B.2.1 hH.1 q he (clT ha) b hb5 (hts _ (List.mem_of_getElem? hl')) (fun _ h9 => h9) (range_map_at _ hb5) hdg kk
/-- a field is written -/
theorem sg_put {ix a b pos kd j : Nat} {rest : List Value} {w : AV} (F : Fr i p R s0 m args c cells slots) (B : Bg ad C D xs L A s0 H0) (hH : Hp ad C D xs L s H) (hS : va_S A H0 H locs) (ha : a < 5) (hb5 : b < NF a) (hl : lkF i ix a b pos = true) (hk : kcl kd = a) (hj : j < kct kd) (hfin : (TT a b).2.2.2 = false) (hn : narrow (tyT a b) (rv ad w) = rv ad w) (hfit : fits (tyT a b) (rv ad w) = true) (hw : ∀ q, q < NF (kcl kd) → fvv s1 kd j q = if q = b then w else fvv s kd j q) (ho : ∀ b, b ∈ dom → b ≠ (kd, j) → cellE ad C s1 b = cellE ad C s b) (hR : okR xs L s1) (hdg : decode (mC i) pc = .ok (.putfield ix, 3)) (kk : ∀ (H1 : Heap) (locs1 : List Loc), Hp ad C D xs L s1 H1 → va_S A H0 H1 locs1 → W p l e R s0 m args below meth c H1 locs1 cells slots Q (F0 m (pc + 3) ls rest)) : W p l e R s0 m args below meth c H locs cells slots Q (F0 m pc ls (rv ad w :: .ref (ad (kd, j)) :: rest)) := by
  subst hk
  obtain ⟨hx, hb, hml, hown, hts, hN, -⟩ := F
  obtain ⟨q, hq, he⟩ := wsG_at ad C s (a := (kd, j)) (mem_dom.mpr ⟨(kcl_lt ha).1, hj⟩)
  rw [cell_obj ad C s ha] at he
  have hset := wsG_set hq (cell_set ad C ha hw) ho
  have hD : va_D A (wsG ad C s) := wsG_D B.1 B.2.2.1
  rcases lkF_inv hl with hl' | hl'
  · refine va_putN hx hb hts (inT ha) (tyT (kcl kd)) (tyT_ok ha) (nmT ha) hown B.2.1 hH.1 hD hS q he (clT ha) b hb5 (va_Nw.use rfl (hN _ (List.mem_of_getElem? hl'))) (fun _ h9 => h9) hfin (tyT_ok ha b hb5) hn hfit (by rw [List.length_map, List.length_range]; exact hb5) hdg (fun H1 locs1 h1 h2 h3 => kk H1 locs1 ⟨?_, hR⟩ h3)
    rw [hset] at h1
    exact h1
  · refine va_put hx hb hts (inT ha) (tyT (kcl kd)) (tyT_ok ha) (nmT ha) hown B.2.1 hH.1 hD hS q he (clT ha) b hb5 (hts _ (List.mem_of_getElem? hl')) (fun _ h9 => h9) hfin (tyT_ok ha b hb5) hn hfit (by rw [List.length_map, List.length_range]; exact hb5) hdg (fun H1 locs1 h1 h2 h3 => kk H1 locs1 ⟨?_, hR⟩ h3)
    rw [hset] at h1
    exact h1
/-- arrays are read -/
theorem sg_ald1 {kd j : Nat} {x : Int32} {rest : List Value} (F : Fr i p R s0 m args c cells slots) (B : Bg ad C D xs L A s0 H0) (hH : Hp ad C D xs L s H) (hk : kar kd = 1) (hj : j < kct kd) (hi : ixB x (kln kd) = true) (hdg : decode (mC i) pc = .ok (.iaload, 1)) (kk : W p l e R s0 m args below meth c H locs cells slots Q (F0 m (pc + 1) ls (.int (s.1 kd j x.toNatClampNeg) :: rest))) : W p l e R s0 m args below meth c H locs cells slots Q (F0 m pc ls (.int x :: .ref (ad (kd, j)) :: rest)) := by
  obtain ⟨q, hq, he⟩ := wsG_at ad C s (a := (kd, j)) (mem_dom.mpr ⟨kar_lt (kd := kd) (by omega) (by omega), hj⟩)
  rw [cell_1 ad C s hk] at he
  exact va_iald F.1 F.2.1 B.2.1 hH.1 q 0 he rfl (ixB_in hi) hdg kk
theorem sg_ald6 {kd j : Nat} {x : Int32} {rest : List Value} (F : Fr i p R s0 m args c cells slots) (B : Bg ad C D xs L A s0 H0) (hH : Hp ad C D xs L s H) (hS : va_S A H0 H locs) (hk : kar kd = 6) (hj : j < kct kd) (hi : ixB x (s.1 60 1 0).toNatClampNeg = true) (hdg : decode (mC i) pc = .ok (.iaload, 1)) (kk : W p l e R s0 m args below meth c H locs cells slots Q (F0 m (pc + 1) ls (.int (s.1 kd j x.toNatClampNeg) :: rest))) : W p l e R s0 m args below meth c H locs cells slots Q (F0 m pc ls (.int x :: .ref (ad (kd, j)) :: rest)) := by
  have e := kar_6 hk
  subst e
  have ej : j = 0 := by
    have : kct 60 = 1 := rfl
    omega
  subst ej
  rw [hH.2.2.1] at kk
  rw [hH.2.2.2.2] at hi
  exact va_sld F.1 F.2.1 B.2.2.2.1 B.2.2.2.2.1 B.2.2.2.2.2 hS (ixB_in hi) hdg kk
theorem sg_ald2 {kd j : Nat} {x : Int32} {rest : List Value} (F : Fr i p R s0 m args c cells slots) (B : Bg ad C D xs L A s0 H0) (hH : Hp ad C D xs L s H) (hk : kar kd = 2) (hj : j < kct kd) (hi : ixB x (kln kd) = true) (hdg : decode (mC i) pc = .ok (.laload, 1)) (kk : W p l e R s0 m args below meth c H locs cells slots Q (F0 m (pc + 1) ls (.long (s.2.1 kd j x.toNatClampNeg) :: rest))) : W p l e R s0 m args below meth c H locs cells slots Q (F0 m pc ls (.int x :: .ref (ad (kd, j)) :: rest)) := by
  obtain ⟨q, hq, he⟩ := wsG_at ad C s (a := (kd, j)) (mem_dom.mpr ⟨kar_lt (kd := kd) (by omega) (by omega), hj⟩)
  rw [cell_2 ad C s hk] at he
  exact va_lald F.1 F.2.1 B.2.1 hH.1 q 1 he rfl (ixB_in hi) hdg kk
theorem sg_ald3 {kd j : Nat} {x : Int32} {rest : List Value} (F : Fr i p R s0 m args c cells slots) (B : Bg ad C D xs L A s0 H0) (hH : Hp ad C D xs L s H) (hk : kar kd = 3) (hj : j < kct kd) (hi : ixB x (kln kd) = true) (hdg : decode (mC i) pc = .ok (.baload, 1)) (kk : W p l e R s0 m args below meth c H locs cells slots Q (F0 m (pc + 1) ls (.int (s.1 kd j x.toNatClampNeg) :: rest))) : W p l e R s0 m args below meth c H locs cells slots Q (F0 m pc ls (.int x :: .ref (ad (kd, j)) :: rest)) := by
  obtain ⟨q, hq, he⟩ := wsG_at ad C s (a := (kd, j)) (mem_dom.mpr ⟨kar_lt (kd := kd) (by omega) (by omega), hj⟩)
  rw [cell_3 ad C s hk] at he
  exact va_zald F.1 F.2.1 B.2.1 hH.1 q 2 he rfl (ixB_in hi) hdg kk
theorem sg_ald4 {kd j : Nat} {x : Int32} {rest : List Value} (F : Fr i p R s0 m args c cells slots) (B : Bg ad C D xs L A s0 H0) (hH : Hp ad C D xs L s H) (hk : kar kd = 4) (hj : j < kct kd) (hi : ixB x (kln kd) = true) (hdg : decode (mC i) pc = .ok (.aaload, 1)) (kk : W p l e R s0 m args below meth c H locs cells slots Q (F0 m (pc + 1) ls (.ref (ad (kd + 4, x.toNatClampNeg)) :: rest))) : W p l e R s0 m args below meth c H locs cells slots Q (F0 m pc ls (.int x :: .ref (ad (kd, j)) :: rest)) := by
  obtain ⟨q, hq, he⟩ := wsG_at ad C s (a := (kd, j)) (mem_dom.mpr ⟨kar_lt (kd := kd) (by omega) (by omega), hj⟩)
  rw [cell_4 ad C s hk] at he
  have hlt := ixB_lt hi
  have ht : (tyG C)[3]? = some (C.2.2.2.1, .array .int) := rfl
  refine W.aald (v := .ref (ad (kd + 4, x.toNatClampNeg))) (ty := .array .int) F.1 F.2.1 (hH.1 q _ he) ((B.2.1.2 3 _ ht).1 (kln kd) (fun j => va_rf (if j < kln kd then some (ad (kd + 4, j)) else none))) rfl (fun q => by cases q) (by show ¬ (x < 0 ∨ (arrV _ _ _).slots.size ≤ _); rw [arrV_size]; exact ixB_in hi) ?_ rfl rfl hdg kk
  show (arrV _ _ _).slots[_]? = _
  rw [arrV_read _ _ hlt]
  show some (va_rf (if x.toNatClampNeg < kln kd then some (ad (kd + 4, x.toNatClampNeg)) else none)) = _
  rw [if_pos hlt]
  rfl
theorem sg_ald5 {kd j : Nat} {x : Int32} {rest : List Value} (F : Fr i p R s0 m args c cells slots) (B : Bg ad C D xs L A s0 H0) (hH : Hp ad C D xs L s H) (hk : kar kd = 5) (hj : j < kct kd) (hi : ixB x (kln kd) = true) (hdg : decode (mC i) pc = .ok (.aaload, 1)) (kk : W p l e R s0 m args below meth c H locs cells slots Q (F0 m (pc + 1) ls (.ref (ad (13, s.2.2 x.toNatClampNeg)) :: rest))) : W p l e R s0 m args below meth c H locs cells slots Q (F0 m pc ls (.int x :: .ref (ad (kd, j)) :: rest)) := by
  obtain ⟨q, hq, he⟩ := wsG_at ad C s (a := (kd, j)) (mem_dom.mpr ⟨kar_lt (kd := kd) (by omega) (by omega), hj⟩)
  rw [cell_5 ad C s hk] at he
  have hlt := ixB_lt hi
  refine va_aldq F.1 F.2.1 B.2.1 hH.1 q 4 he rfl (ixB_in hi) hdg ?_
  rw [if_pos hlt]
  exact kk
/-- arrays are written -/
theorem okR_wI {kd j k : Nat} {x : Int32} (h : okR xs L s) (hk : kd < 60) : okR xs L (wI s kd j k x) := by
  obtain ⟨h1, h2, h3, h4⟩ := h
  have e : ∀ b c, (wI s kd j k x).1 60 b c = s.1 60 b c := fun b c => by
    show (if 60 = kd ∧ b = j ∧ c = k then x else s.1 60 b c) = _
    rw [if_neg (fun z => by omega)]
  exact ⟨h1, fun c => by rw [e]; exact h2 c, by rw [e]; exact h3, by rw [e]; exact h4⟩
theorem okR_wA {kd j : Nat} {f : Nat → Int32} (h : okR xs L s) (hk : kd < 60) : okR xs L (wA s kd j f) := by
  obtain ⟨h1, h2, h3, h4⟩ := h
  have e : ∀ b c, (wA s kd j f).1 60 b c = s.1 60 b c := fun b c => by
    show (if 60 = kd ∧ b = j then f c else s.1 60 b c) = _
    rw [if_neg (fun z => by omega)]
  exact ⟨h1, fun c => by rw [e]; exact h2 c, by rw [e]; exact h3, by rw [e]; exact h4⟩
theorem okR_wR {k v : Nat} (h : okR xs L s) (hv : v < 9) : okR xs L (wR s k v) := by
  obtain ⟨h1, h2⟩ := h
  refine ⟨fun i hi => ?_, h2⟩
  show (if i = k then v else s.2.2 i) < 9
  split
  · exact hv
  · exact h1 i hi
theorem sg_ast1 {kd j : Nat} {x v : Int32} {rest : List Value} (F : Fr i p R s0 m args c cells slots) (B : Bg ad C D xs L A s0 H0) (hH : Hp ad C D xs L s H) (hS : va_S A H0 H locs) (hk : kar kd = 1) (hj : j < kct kd) (hi : ixB x (kln kd) = true) (hdg : decode (mC i) pc = .ok (.iastore, 1)) (kk : ∀ (H1 : Heap) (locs1 : List Loc), Hp ad C D xs L (wI s kd j x.toNatClampNeg v) H1 → va_S A H0 H1 locs1 → W p l e R s0 m args below meth c H1 locs1 cells slots Q (F0 m (pc + 1) ls rest)) : W p l e R s0 m args below meth c H locs cells slots Q (F0 m pc ls (.int v :: .int x :: .ref (ad (kd, j)) :: rest)) := by
  have hd := kar_lt (kd := kd) (by omega) (by omega)
  obtain ⟨q, hq, he⟩ := wsG_at ad C s (a := (kd, j)) (mem_dom.mpr ⟨hd, hj⟩)
  rw [cell_1 ad C s hk] at he
  have hD : va_D A (wsG ad C s) := wsG_D B.1 B.2.2.1
  refine va_iast F.1 F.2.1 B.2.1 hH.1 hD hS q 0 he rfl (ixB_in hi) hdg (fun H1 locs1 h1 h2 h3 => kk H1 locs1 ⟨?_, okR_wI hH.2 hd⟩ h3)
  rw [wsG_set hq (s' := wI s kd j x.toNatClampNeg v) (by
    rw [cell_1 ad C _ hk]
    congr 4
    funext z
    show (if kd = kd ∧ j = j ∧ z = x.toNatClampNeg then v else s.1 kd j z) = if z = x.toNatClampNeg then v else s.1 kd j z
    simp) (fun b _ hb => cellE_wI hb)] at h1
  exact h1
theorem sg_ast3 {kd j : Nat} {x v : Int32} {rest : List Value} (F : Fr i p R s0 m args c cells slots) (B : Bg ad C D xs L A s0 H0) (hH : Hp ad C D xs L s H) (hS : va_S A H0 H locs) (hk : kar kd = 3) (hj : j < kct kd) (hi : ixB x (kln kd) = true) (hdg : decode (mC i) pc = .ok (.bastore, 1)) (kk : ∀ (H1 : Heap) (locs1 : List Loc), Hp ad C D xs L (wI s kd j x.toNatClampNeg (v &&& 1)) H1 → va_S A H0 H1 locs1 → W p l e R s0 m args below meth c H1 locs1 cells slots Q (F0 m (pc + 1) ls rest)) : W p l e R s0 m args below meth c H locs cells slots Q (F0 m pc ls (.int v :: .int x :: .ref (ad (kd, j)) :: rest)) := by
  have hd := kar_lt (kd := kd) (by omega) (by omega)
  obtain ⟨q, hq, he⟩ := wsG_at ad C s (a := (kd, j)) (mem_dom.mpr ⟨hd, hj⟩)
  rw [cell_3 ad C s hk] at he
  have hD : va_D A (wsG ad C s) := wsG_D B.1 B.2.2.1
  refine va_zast F.1 F.2.1 B.2.1 hH.1 hD hS q 2 he rfl (ixB_in hi) hdg (fun H1 locs1 h1 h2 h3 => kk H1 locs1 ⟨?_, okR_wI hH.2 hd⟩ h3)
  rw [wsG_set hq (s' := wI s kd j x.toNatClampNeg (v &&& 1)) (by
    rw [cell_3 ad C _ hk]
    congr 4
    funext z
    show (if kd = kd ∧ j = j ∧ z = x.toNatClampNeg then v &&& 1 else s.1 kd j z) = if z = x.toNatClampNeg then vp_nar .boolean v else s.1 kd j z
    simp [vp_nar, narrow]) (fun b _ hb => cellE_wI hb)] at h1
  exact h1
theorem sg_ast2 {kd j : Nat} {x : Int32} {v : Int64} {rest : List Value} (F : Fr i p R s0 m args c cells slots) (B : Bg ad C D xs L A s0 H0) (hH : Hp ad C D xs L s H) (hS : va_S A H0 H locs) (hk : kar kd = 2) (hj : j < kct kd) (hi : ixB x (kln kd) = true) (hdg : decode (mC i) pc = .ok (.lastore, 1)) (kk : ∀ (H1 : Heap) (locs1 : List Loc), Hp ad C D xs L (wL s kd j x.toNatClampNeg v) H1 → va_S A H0 H1 locs1 → W p l e R s0 m args below meth c H1 locs1 cells slots Q (F0 m (pc + 1) ls rest)) : W p l e R s0 m args below meth c H locs cells slots Q (F0 m pc ls (.long v :: .int x :: .ref (ad (kd, j)) :: rest)) := by
  have hd := kar_lt (kd := kd) (by omega) (by omega)
  obtain ⟨q, hq, he⟩ := wsG_at ad C s (a := (kd, j)) (mem_dom.mpr ⟨hd, hj⟩)
  rw [cell_2 ad C s hk] at he
  have hD : va_D A (wsG ad C s) := wsG_D B.1 B.2.2.1
  refine va_last F.1 F.2.1 B.2.1 hH.1 hD hS q 1 he rfl (ixB_in hi) hdg (fun H1 locs1 h1 h2 h3 => kk H1 locs1 ⟨?_, hH.2⟩ h3)
  rw [wsG_set hq (s' := wL s kd j x.toNatClampNeg v) (by
    rw [cell_2 ad C _ hk]
    congr 5
    funext z
    show (if kd = kd ∧ j = j ∧ z = x.toNatClampNeg then v else s.2.1 kd j z) = if z = x.toNatClampNeg then v else s.2.1 kd j z
    simp) (fun b _ hb => cellE_wL hb)] at h1
  exact h1
theorem sg_ast5 {kd j jv : Nat} {x : Int32} {rest : List Value} (F : Fr i p R s0 m args c cells slots) (B : Bg ad C D xs L A s0 H0) (hH : Hp ad C D xs L s H) (hS : va_S A H0 H locs) (hk : kar kd = 5) (hj : j < kct kd) (hjv : jv < 9) (hi : ixB x (kln kd) = true) (hdg : decode (mC i) pc = .ok (.aastore, 1)) (kk : ∀ (H1 : Heap) (locs1 : List Loc), Hp ad C D xs L (wR s x.toNatClampNeg jv) H1 → va_S A H0 H1 locs1 → W p l e R s0 m args below meth c H1 locs1 cells slots Q (F0 m (pc + 1) ls rest)) : W p l e R s0 m args below meth c H locs cells slots Q (F0 m pc ls (.ref (ad (13, jv)) :: .int x :: .ref (ad (kd, j)) :: rest)) := by
  have hd := kar_lt (kd := kd) (by omega) (by omega)
  obtain ⟨q, hq, he⟩ := wsG_at ad C s (a := (kd, j)) (mem_dom.mpr ⟨hd, hj⟩)
  rw [cell_5 ad C s hk] at he
  obtain ⟨q2, hq2, he2⟩ := wsG_at ad C s (a := (13, jv)) (mem_dom.mpr ⟨show 13 < 60 by decide, hjv⟩)
  rw [cell_obj ad C s (kd := 13) (by decide)] at he2
  have hD : va_D A (wsG ad C s) := wsG_D B.1 B.2.2.1
  obtain ⟨e10, e8⟩ := kar_5 hk
  have hlt := ixB_lt hi
  refine va_astq F.1 F.2.1 B.2.1 hH.1 hD hS q 4 q2 0 (r := (RX0, TX0, 9)) he rfl he2 rfl (ixB_in hi) hdg (fun H1 locs1 h1 h2 h3 => kk H1 locs1 ⟨?_, okR_wR hH.2 hjv⟩ h3)
  rw [wsG_set hq (s' := wR s x.toNatClampNeg jv) (by
    rw [cell_5 ad C _ hk]
    congr 7
    funext z
    show (if z < kln kd then some (ad (13, if z = x.toNatClampNeg then jv else s.2.2 z)) else none) = if z = x.toNatClampNeg then some (ad (13, jv)) else if z < kln kd then some (ad (13, s.2.2 z)) else none
    by_cases hz : z = x.toNatClampNeg
    · rw [if_pos hz, if_pos hz, if_pos (by rw [hz]; exact hlt)]
    · rw [if_neg hz, if_neg hz]) (fun b hbd hb => cellE_wR (fun h8 => by rw [e8] at hlt; omega) (fun _ h5 => hb (by
        obtain ⟨kb, jb⟩ := b
        have h10 := (kar_5 h5).1
        have h10' : kb = 10 := h10
        subst h10'
        have h1 := (mem_dom.mp hbd).2
        have hc : kct 10 = 1 := rfl
        rw [e10] at hj ⊢
        have : jb = 0 := by
          have h1' : jb < kct 10 := h1
          omega
        have : j = 0 := by omega
        subst_vars
        rfl)) hbd)] at h1
  exact h1
/-- the lengths -/
theorem sg_aln {kd j : Nat} {rest : List Value} (F : Fr i p R s0 m args c cells slots) (B : Bg ad C D xs L A s0 H0) (hH : Hp ad C D xs L s H) (hk : kar kd ≠ 0) (hk6 : kar kd ≠ 6) (hj : j < kct kd) (hdg : decode (mC i) pc = .ok (.arraylength, 1)) (kk : W p l e R s0 m args below meth c H locs cells slots Q (F0 m (pc + 1) ls (.int (nI (kln kd)) :: rest))) : W p l e R s0 m args below meth c H locs cells slots Q (F0 m pc ls (.ref (ad (kd, j)) :: rest)) := by
  have hd := kar_lt (kd := kd) hk hk6
  obtain ⟨q, hq, he⟩ := wsG_at ad C s (a := (kd, j)) (mem_dom.mpr ⟨hd, hj⟩)
  have h6 : kar kd < 6 := by
    have key : ∀ k, k < 60 → kar k < 6 := by decide +kernel
    exact key kd hd
  rcases (show kar kd = 1 ∨ kar kd = 2 ∨ kar kd = 3 ∨ kar kd = 4 ∨ kar kd = 5 by omega) with h | h | h | h | h
  · rw [cell_1 ad C s h] at he
    exact va_alen F.1 F.2.1 B.2.1 hH.1 q 0 he (ty := .int) rfl rfl hdg kk
  · rw [cell_2 ad C s h] at he
    exact va_alen F.1 F.2.1 B.2.1 hH.1 q 1 he (ty := .long) rfl rfl hdg kk
  · rw [cell_3 ad C s h] at he
    exact va_alen F.1 F.2.1 B.2.1 hH.1 q 2 he (ty := .boolean) rfl rfl hdg kk
  · rw [cell_4 ad C s h] at he
    exact va_alen F.1 F.2.1 B.2.1 hH.1 q 3 he (ty := .array .int) rfl rfl hdg kk
  · rw [cell_5 ad C s h] at he
    exact va_alen F.1 F.2.1 B.2.1 hH.1 q 4 he (ty := .object RX0) rfl rfl hdg kk
/-- arraycopy -/
theorem sg_cpy {ix pos kd j kd0 j0 : Nat} {sp dp n : Int32} {rest : List AV} (F : Fr i p R s0 m args c cells slots) (B : Bg ad C D xs L A s0 H0) (hH : Hp ad C D xs L s H) (hS : va_S A H0 H locs) (hls : ls.size = mX i) (hk : kar kd = 1) (hj : j < kct kd) (hk0 : kar kd0 = 1) (hj0 : j0 < kct kd0) (hc : cats rest ≤ 8) (h1 : ¬ sp < 0) (h2 : ¬ dp < 0) (h3 : ¬ n < 0) (h4 : sp.toNatClampNeg + n.toNatClampNeg ≤ kln kd0) (h5 : dp.toNatClampNeg + n.toNatClampNeg ≤ kln kd) (hl : wsL_law[pos]? = some (.methodLink (mO i) ix arraycopyName)) (hf : 1 ≤ mF i ∧ 26 ≤ mL i) (hdg : decode (mC i) pc = .ok (.invokestatic ix, 3)) (kk : ∀ (H1 : Heap) (locs1 : List Loc), Hp ad C D xs L (wA s kd j (va_cpy (s.1 kd0 j0) (s.1 kd j) sp.toNatClampNeg dp.toNatClampNeg n.toNatClampNeg)) H1 → va_S A H0 H1 locs1 → W p l e R s0 m args below meth c H1 locs1 cells slots Q (F0 m (pc + 3) ls (rest.map (rv ad)))) : W p l e R s0 m args below meth c H locs cells slots Q (F0 m pc ls (.int n :: .int dp :: .ref (ad (kd, j)) :: .int sp :: .ref (ad (kd0, j0)) :: rest.map (rv ad))) := by
  have hd := kar_lt (kd := kd) (by omega) (by omega)
  have hd0 := kar_lt (kd := kd0) (by omega) (by omega)
  obtain ⟨q, hq, he⟩ := wsG_at ad C s (a := (kd, j)) (mem_dom.mpr ⟨hd, hj⟩)
  obtain ⟨q2, hq2, he2⟩ := wsG_at ad C s (a := (kd0, j0)) (mem_dom.mpr ⟨hd0, hj0⟩)
  rw [cell_1 ad C s hk] at he
  rw [cell_1 ad C s hk0] at he2
  have hD : va_D A (wsG ad C s) := wsG_D B.1 B.2.2.1
  obtain ⟨hx, hb, hml, hown, hts, hN, hF1, hF2, -⟩ := F
  have hcs : ∀ st : List AV, ((st.map (rv ad)).map fun v => v.category).sum = cats st := by
    intro st
    induction st with
    | nil => rfl
    | cons v r ih =>
      rw [List.map_cons, List.map_cons, List.sum_cons, ih, rv_cat]
      rfl
  refine va_copyi hx hb (hml.trans hls.symm) hown (hts _ (List.mem_of_getElem? hl)) (hts _ (List.mem_of_getElem? (i := 215) rfl)) (hts _ (List.mem_of_getElem? (i := 216) rfl)) (hts _ (List.mem_of_getElem? (i := 217) rfl)) B.2.1 hH.1 hD hS q2 q 0 0 (ty := .int) he2 he rfl rfl rfl h1 h2 h3 h4 h5 (fun _ _ => rfl) (by omega) (by rw [hcs]; have h7 : nativeFrameWords "java/lang/System" "arraycopy" 5 = 7 := (by decide +kernel); rw [h7]; omega) hdg (fun H1 locs1 g1 g2 g3 => kk H1 locs1 ⟨?_, okR_wA hH.2 hd⟩ g3)
  rw [wsG_set hq (s' := wA s kd j (va_cpy (s.1 kd0 j0) (s.1 kd j) sp.toNatClampNeg dp.toNatClampNeg n.toNatClampNeg)) (by
    rw [cell_1 ad C _ hk]
    congr 4
    funext z
    show (if kd = kd ∧ j = j then va_cpy (s.1 kd0 j0) (s.1 kd j) sp.toNatClampNeg dp.toNatClampNeg n.toNatClampNeg z else s.1 kd j z) = _
    rw [if_pos ⟨rfl, rfl⟩]) (fun b _ hb => cellE_wA hb)] at g1
  exact g1
end SND
