/-! THE TABLE'S CHECK -/
def lkM (i ix a pos : Nat) : Bool := if 10000 ≤ pos then decide (nestW[pos - 10000]? = some (.methodLinkNest (mO i) ix (mY a) RX3)) else decide (wsL_law[pos]? = some (.methodLink (mO i) ix (mY a)))
def lkF (i ix a b pos : Nat) : Bool := if 10000 ≤ pos then decide (nestW[pos - 10000]? = some (.fieldLinkNest (mO i) ix (TT a b).1 (TT a b).2.1 (TT a b).2.2.1 RX3)) else decide (wsL_law[pos]? = some (.fieldLink (mO i) ix (TT a b).1 (TT a b).2.1 (TT a b).2.2.1))
def okM (a : Nat) : Bool := decide (wsL_law[(mP a).1]? = some (.code (mY a) (mC a) (mX a) (mR a))) && (decide (wsL_law[(mP a).2.1]? = some (.initialized (mY a).cls)) && (decide ((mY a).cls ≠ "java/lang/invoke/MethodHandle") && (decide ((mY a).cls ≠ "java/lang/invoke/VarHandle") && (decide ((parseMethodDescriptor (mY a).desc).map (fun d => d.parameters.length) = some (mN a)) && (plainName (mY a).cls && (decide ((mY a).cls = mO a) && (bif Nat.beq (mP a).2.2.2 9999 then decide (wsL_law[(mP a).2.2.1]? = some (.static (mY a))) else (decide (wsL_law[(mP a).2.2.1]? = some (.instanceMethod (mY a))) && decide (wsL_law[(mP a).2.2.2]? = some (.selects (mY a).cls (mY a) (mY a)))))))))))
def caB (i ix a b e f pos : Nat) (vir : Bool) : Bool := decide ((a < 237 ∧ (a < 3 ∨ 6 < a)) ∧ e = mX a ∧ mF a + 1 ≤ mF i ∧ 8 + (mX a + 11) + mL a ≤ mL i) && (lkM i ix a pos && (bif vir then decide (b = mN a + 1 ∧ f < 5 ∧ (mY a).cls = RR f ∧ (mP a).2.2.2 ≠ 9999 ∧ pos < 10000) else decide (b = mN a ∧ (mP a).2.2.2 = 9999)))
def maB (i ix pos len : Nat) (y : MethodName) : Bool := decide (wsL_law[pos]? = some (.methodLink (mO i) ix y) ∧ 1 ≤ mF i ∧ 21 ≤ mL i ∧ len = 3)
def swB (pc : Nat) (lo hi : Int) (offs : Array Int) (sw : List (Int32 × Nat)) : Bool := decide (sw.map (fun q => q.1.toInt) = (List.range (hi - lo + 1).toNat).map (fun (k : Nat) => lo + (k : Int))) && sw.all (fun q => decide ((offs[(q.1.toInt - lo).toNat]?).map (fun o => (pc : Int) + o) = some (q.2 : Int)))
def okB (i pc : Nat) (en : En) : Bool := match en with
  | (ins, len, a, b, d, e, f, pos, cv, lv, sw, _) => decide (decode (mC i) pc = .ok (ins, len)) && (match ins with
    | .iconst n => decide (Int32.ofInt n = cv ∧ len = 1)
    | .bipush n => decide ((Int8.ofInt n).toInt32 = cv ∧ len = 2)
    | .sipush n => decide ((Int16.ofInt n).toInt32 = cv ∧ len = 3)
    | .ldc ix => decide (wsL_law[pos]? = some (.constant (mO i) ix cv) ∧ len = 2)
    | .ldc_w ix => decide (wsL_law[pos]? = some (.constant (mO i) ix cv) ∧ len = 3)
    | .lconst n => decide (Int64.ofNat (n : Nat) = lv ∧ len = 1)
    | .ldc2_w ix => decide (wsL_law[pos]? = some (.constantLong (mO i) ix lv) ∧ len = 3)
    | .iload _ => decide (len = 2)
    | .lload _ => decide (len = 2)
    | .aload _ => decide (len = 2)
    | .istore k => decide (k < mX i ∧ len = 2)
    | .istore_n k => decide (k.val < mX i ∧ len = 1)
    | .astore k => decide (k < mX i ∧ len = 2)
    | .astore_n k => decide (k.val < mX i ∧ len = 1)
    | .lstore k => decide (k + 1 < mX i ∧ len = 2)
    | .lstore_n k => decide (k.val + 1 < mX i ∧ len = 1)
    | .iinc k n => decide (Int32.ofInt n = cv ∧ k < mX i ∧ len = 3)
    | .goto off => decide ((pc : Int) + off = (a : Int) ∧ len = 3)
    | .ifCond _ off => decide ((pc : Int) + off = (a : Int) ∧ len = 3)
    | .if_icmp _ off => decide ((pc : Int) + off = (a : Int) ∧ len = 3)
    | .tableswitch dflt lo hi offs => decide ((pc : Int) + dflt = (a : Int)) && swB pc lo hi offs sw
    | .lookupswitch dflt ps => decide ((pc : Int) + dflt = (a : Int) ∧ ps.toList = sw.map (fun q => (q.1.toInt, (q.2 : Int) - (pc : Int)))) && (ps.toList.zip (ps.toList.drop 1)).all (fun (a, next) => a.1 < next.1)
    | .getfield ix => decide (a < 5 ∧ b < NF a ∧ d = fldT a b ∧ len = 3) && lkF i ix a b pos
    | .putfield ix => decide (a < 5 ∧ b < NF a ∧ d = fldT a b ∧ len = 3 ∧ (TT a b).2.2.2 = false ∧ tyT a b = (match d with
      | 0 => .int
      | 1 => .long
      | 2 => .object RX0
      | _ => .boolean)) && lkF i ix a b pos
    | .invokestatic ix => bif Nat.beq a 999 then decide (wsL_law[pos]? = some (.methodLink (mO i) ix arraycopyName) ∧ 1 ≤ mF i ∧ 26 ≤ mL i ∧ len = 3) else bif Nat.beq a 993 then maB i ix pos len Lib.Math.abs.name else bif Nat.beq a 994 then maB i ix pos len Lib.MathLoose.abs_long.x else bif Nat.beq a 996 then maB i ix pos len Lib.Math.min.name else caB i ix a b e f pos false && decide (len = 3)
    | .invokevirtual ix => caB i ix a b e f pos true && decide (len = 3)
    | .ireturn => decide (len = 1 ∧ ((d = 0 ∧ mR i = some .int) ∨ (d = 3 ∧ mR i = some .boolean)))
    | .lreturn => decide (len = 1 ∧ d = 1 ∧ mR i = some .long)
    | .return_ => decide (len = 1 ∧ d = 2 ∧ mR i = none)
    | _ => decide (len = 1))
/-! inversions of the small machine's steps -/
theorem op1i_inv {st : List AV} {F : Int32 → List AV → RE} {v : Option AV × SS} (h : op1i st F = some v) : ∃ x r, st = .inl x :: r ∧ F x r = some v := by
  unfold op1i at h
  split at h
  · exact ⟨_, _, rfl, h⟩
  · cases h
theorem op2i_inv {st : List AV} {F : Int32 → Int32 → List AV → RE} {v : Option AV × SS} (h : op2i st F = some v) : ∃ x y r, st = .inl y :: .inl x :: r ∧ F x y r = some v := by
  unfold op2i at h
  split at h
  · exact ⟨_, _, _, rfl, h⟩
  · cases h
theorem op1l_inv {st : List AV} {F : Int64 → List AV → RE} {v : Option AV × SS} (h : op1l st F = some v) : ∃ x r, st = .inr (.inl x) :: r ∧ F x r = some v := by
  unfold op1l at h
  split at h
  · exact ⟨_, _, rfl, h⟩
  · cases h
theorem op2l_inv {st : List AV} {F : Int64 → Int64 → List AV → RE} {v : Option AV × SS} (h : op2l st F = some v) : ∃ x y r, st = .inr (.inl y) :: .inr (.inl x) :: r ∧ F x y r = some v := by
  unfold op2l at h
  split at h
  · exact ⟨_, _, _, rfl, h⟩
  · cases h
theorem opli_inv {st : List AV} {F : Int64 → Int32 → List AV → RE} {v : Option AV × SS} (h : opli st F = some v) : ∃ x y r, st = .inl y :: .inr (.inl x) :: r ∧ F x y r = some v := by
  unfold opli at h
  split at h
  · exact ⟨_, _, _, rfl, h⟩
  · cases h
theorem op1r_inv {st : List AV} {F : Nat → Nat → List AV → RE} {v : Option AV × SS} (h : op1r st F = some v) : ∃ kd j r, st = .inr (.inr (kd, j)) :: r ∧ F kd j r = some v := by
  unfold op1r at h
  split at h
  · exact ⟨_, _, _, rfl, h⟩
  · cases h
theorem opix_inv {st : List AV} {F : Int32 → Nat → Nat → List AV → RE} {v : Option AV × SS} (h : opix st F = some v) : ∃ x kd j r, st = .inl x :: .inr (.inr (kd, j)) :: r ∧ F x kd j r = some v := by
  unfold opix at h
  split at h
  · exact ⟨_, _, _, _, rfl, h⟩
  · cases h
theorem bif_inv {c : Bool} {F : RE} {v : Option AV × SS} (h : (bif c then F else none) = some v) : c = true ∧ F = some v := by
  cases c
  · cases h
  · exact ⟨rfl, h⟩
theorem ixf_inv {c : Bool} {F : RE} {v : Option AV × SS} (h : (if c = true then F else none) = some v) : c = true ∧ F = some v := by
  cases c
  · cases h
  · exact ⟨rfl, h⟩
def tcd (w : AV) : Nat := match w with
  | .inl _ => 0
  | .inr (.inl _) => 1
  | .inr (.inr _) => 2
theorem ldx_inv {ls : LO} {k t : Nat} {F : AV → RE} {v : Option AV × SS} (h : ldx ls k t F = some v) : ∃ w, ls.getD k none = some w ∧ tcd w = t ∧ F w = some v := by
  unfold ldx at h
  split at h
  · rename_i x hx
    obtain ⟨h1, h2⟩ := bif_inv h
    exact ⟨_, hx, (Nat.eq_of_beq_eq_true h1).symm, h2⟩
  · rename_i x hx
    obtain ⟨h1, h2⟩ := bif_inv h
    exact ⟨_, hx, (Nat.eq_of_beq_eq_true h1).symm, h2⟩
  · rename_i x hx
    obtain ⟨h1, h2⟩ := bif_inv h
    exact ⟨_, hx, (Nat.eq_of_beq_eq_true h1).symm, h2⟩
  · cases h
def gval (s : SS) (d kd j k : Nat) : AV := match d with
  | 1 => .inr (.inl (s.2.1 kd j k))
  | 2 => .inr (.inr (rfa s kd j k))
  | _ => .inl (s.1 kd j k)
theorem getx_inv {s : SS} {d ci k kd j : Nat} {F : AV → RE} {v : Option AV × SS} (h : getx s d ci k kd j F = some v) : kcl kd = ci ∧ F (gval s d kd j k) = some v := by
  unfold getx at h
  obtain ⟨h1, h2⟩ := bif_inv h
  refine ⟨Nat.eq_of_beq_eq_true h1, ?_⟩
  split at h2
  · exact h2
  · exact h2
  · exact h2
  · rename_i n0 n1 n2
    unfold gval
    split
    · exact absurd rfl n1
    · exact absurd rfl n2
    · exact h2
theorem putx_inv {s : SS} {d ci k : Nat} {st : List AV} {F : List AV → SS → RE} {v : Option AV × SS} (h : putx s d ci k st F = some v) : ∃ r kd j, kcl kd = ci ∧ ((∃ x, st = .inl x :: .inr (.inr (kd, j)) :: r ∧ (d = 0 ∨ (d = 3 ∧ isZ x = true)) ∧ F r (wI s kd j k x) = some v) ∨ (∃ x, st = .inr (.inl x) :: .inr (.inr (kd, j)) :: r ∧ d = 1 ∧ F r (wL s kd j k x) = some v) ∨ ∃ jv, st = .inr (.inr (13, jv)) :: .inr (.inr (kd, j)) :: r ∧ kd = 0 ∧ k = 6 ∧ d = 2 ∧ F r (wR s 8 jv) = some v) := by
  unfold putx at h
  split at h
  · obtain ⟨h1, h2⟩ := bif_inv h
    refine ⟨_, _, _, Nat.eq_of_beq_eq_true h1, Or.inl ⟨_, rfl, ?_⟩⟩
    split at h2
    · exact ⟨Or.inl rfl, h2⟩
    · obtain ⟨h3, h4⟩ := bif_inv h2
      exact ⟨Or.inr ⟨rfl, h3⟩, h4⟩
    · cases h2
  · obtain ⟨h1, h2⟩ := bif_inv h
    simp only [Bool.and_eq_true] at h1
    exact ⟨_, _, _, Nat.eq_of_beq_eq_true h1.1, Or.inr (Or.inl ⟨_, rfl, Nat.eq_of_beq_eq_true h1.2, h2⟩)⟩
  · obtain ⟨h1, h2⟩ := bif_inv h
    simp only [Bool.and_eq_true] at h1
    obtain ⟨g1, g2, g3, g4, g5⟩ := h1
    have e := Nat.eq_of_beq_eq_true g4
    subst e
    exact ⟨_, _, _, Nat.eq_of_beq_eq_true g1, Or.inr (Or.inr ⟨_, rfl, Nat.eq_of_beq_eq_true g2, Nat.eq_of_beq_eq_true g3, Nat.eq_of_beq_eq_true g5, h2⟩)⟩
  · cases h
def swT (d : Nat) (x : Int32) (l : List (Int32 × Nat)) : Nat := match l with
  | [] => d
  | (v, t) :: r => if x = v then t else swT d x r
theorem swl_eq (F : Nat → RE) (d : Nat) (x : Int32) : ∀ l : List (Int32 × Nat), swl F d x l = F (swT d x l)
  | [] => rfl
  | (v, t) :: r => by
    unfold swl swT
    by_cases h : x = v
    · rw [if_pos h, if_pos h]
    · rw [if_neg h, if_neg h]
      exact swl_eq F d x r
theorem swT_in (d : Nat) (x : Int32) : ∀ l : List (Int32 × Nat), ((x, swT d x l) ∈ l) ∨ (swT d x l = d ∧ ∀ q ∈ l, q.1 ≠ x)
  | [] => Or.inr ⟨rfl, fun _ h => by cases h⟩
  | (v, t) :: r => by
    unfold swT
    by_cases h : x = v
    · rw [if_pos h, h]
      exact Or.inl List.mem_cons_self
    · rw [if_neg h]
      rcases swT_in d x r with g | ⟨g1, g2⟩
      · exact Or.inl (List.mem_cons_of_mem _ g)
      · refine Or.inr ⟨g1, fun q hq => ?_⟩
        rcases List.mem_cons.mp hq with e | e
        · rw [e]; exact fun z => h z.symm
        · exact g2 q e
theorem lk_off {pc a : Nat} {dflt : Int} (hd : (pc : Int) + dflt = (a : Int)) (x : Int32) : ∀ sw : List (Int32 × Nat), (pc : Int) + Op.lookupswitch.offset (sw.map (fun q => (q.1.toInt, (q.2 : Int) - (pc : Int)))) dflt x.toInt = (swT a x sw : Int)
  | [] => hd
  | (v, t) :: r => by
    unfold swT
    by_cases h : x = v
    · rw [if_pos h, List.map_cons, Op.lookupswitch.offset_cons, if_pos (by rw [h])]
      show (pc : Int) + ((t : Int) - (pc : Int)) = (t : Int)
      omega
    · rw [if_neg h, List.map_cons, lv_osw h rfl]
      exact lk_off hd x r
/-! tables of kinds -/
theorem getD_big {α : Type} {l : List α} {k : Nat} {d : α} (h : l.length ≤ k) : l.getD k d = d := by
  rw [List.getD_eq_getElem?_getD, List.getElem?_eq_none h]
  rfl
theorem kcl_lt {kd : Nat} (h : kcl kd < 5) : kd < 60 ∧ kar kd = 0 := by
  by_cases q : kd < 61
  · have key : ∀ k, k < 61 → kcl k < 5 → k < 60 ∧ kar k = 0 := by decide +kernel
    exact key kd q h
  · exfalso
    have e : kcl kd = 9 := getD_big (by show 61 ≤ kd; omega)
    omega
theorem kar_lt {kd : Nat} (h : kar kd ≠ 0) (h6 : kar kd ≠ 6) : kd < 60 := by
  by_cases q : kd < 61
  · have key : ∀ k, k < 61 → kar k ≠ 0 → kar k ≠ 6 → k < 60 := by decide +kernel
    exact key kd q h h6
  · exfalso
    exact h (getD_big (by show 61 ≤ kd; omega))
theorem kar_6 {kd : Nat} (h : kar kd = 6) : kd = 60 := by
  by_cases q : kd < 61
  · have key : ∀ k, k < 61 → kar k = 6 → k = 60 := by decide +kernel
    exact key kd q h
  · exfalso
    have e : kar kd = 0 := getD_big (by show 61 ≤ kd; omega)
    omega
theorem kar_4 {kd : Nat} (h : kar kd = 4) : kct (kd + 4) = kln kd := by
  have hk : kd < 60 := kar_lt (by omega) (by omega)
  have key : ∀ k, k < 60 → kar k = 4 → kct (k + 4) = kln k := by decide +kernel
  exact key kd hk h
theorem kar_5 {kd : Nat} (h : kar kd = 5) : kd = 10 ∧ kln kd = 8 := by
  have hk : kd < 60 := kar_lt (by omega) (by omega)
  have key : ∀ k, k < 60 → kar k = 5 → k = 10 ∧ kln k = 8 := by decide +kernel
  exact key kd hk h
theorem kct_1 {kd : Nat} (h : kcl kd < 5) {k : Nat} (hk : k < NF (kcl kd)) (hf : fldT (kcl kd) k = 2) (h0 : ¬ (kd = 0 ∧ k = 6)) : kct ((rfT kd).getD k 0) = kct kd := by
  have hd := (kcl_lt h).1
  have key : ∀ q, q < 60 → ∀ k, k < 37 → (kcl q < 5 ∧ k < NF (kcl q) ∧ fldT (kcl q) k = 2 ∧ ¬ (q = 0 ∧ k = 6)) → kct ((rfT q).getD k 0) = kct q := by decide +kernel
  have h37 : NF (kcl kd) ≤ 37 := by
    have : ∀ c, c < 5 → NF c ≤ 37 := by decide +kernel
    exact this _ h
  exact key kd hd k (by omega) ⟨h, hk, hf, h0⟩
theorem rfa_ok {xs : Nat → Int32} {L : Nat} {s : SS} (hR : okR xs L s) {kd j k : Nat} (h : kcl kd < 5) (hk : k < NF (kcl kd)) (hf : fldT (kcl kd) k = 2) (hj : j < kct kd) : okv (.inr (.inr (rfa s kd j k))) := by
  unfold rfa
  by_cases h0 : kd = 0 ∧ k = 6
  · obtain ⟨rfl, rfl⟩ := h0
    exact hR.1 8 (Nat.le_refl 8)
  · have e : (Nat.beq kd 0 && Nat.beq k 6) = false := by
      cases q : (Nat.beq kd 0 && Nat.beq k 6) with
      | false => rfl
      | true =>
        simp only [Bool.and_eq_true] at q
        exact absurd ⟨Nat.eq_of_beq_eq_true q.1, Nat.eq_of_beq_eq_true q.2⟩ h0
    rw [e]
    show j < kct ((rfT kd).getD k 0)
    rw [kct_1 h hk hf h0]
    exact hj
theorem ixB_in {x : Int32} {n : Nat} (h : ixB x n = true) : vp_in x n := by
  unfold ixB at h
  simp only [Bool.not_eq_true', Bool.or_eq_false_iff, decide_eq_false_iff_not] at h
  exact fun q => q.elim h.1 h.2
theorem ixB_lt {x : Int32} {n : Nat} (h : ixB x n = true) : x.toNatClampNeg < n := Nat.not_le.mp fun q => ixB_in h (Or.inr q)
theorem okI {x : Int32} {st : List AV} (h : okS st) : okS (.inl x :: st) := okS_cons.mpr ⟨trivial, h⟩
theorem okLg {x : Int64} {st : List AV} (h : okS st) : okS (.inr (.inl x) :: st) := okS_cons.mpr ⟨trivial, h⟩
theorem okT {v : AV} {st : List AV} (h : okS (v :: st)) : okS st := (okS_cons.mp h).2
theorem okH {v : AV} {st : List AV} (h : okS (v :: st)) : okv v := (okS_cons.mp h).1
theorem cell_obj (ad : Nat × Nat → Nat) (C : Cls) (s : SS) {kd j : Nat} (h : kcl kd < 5) : cellE ad C s (kd, j) = .inr (kcl kd, (List.range (NF (kcl kd))).map (fun k => rv ad (fvv s kd j k))) := by
  unfold cellE
  rw [show kar (kd, j).1 = 0 from (kcl_lt h).2]
  rfl
theorem cell_1 (ad : Nat × Nat → Nat) (C : Cls) (s : SS) {kd j : Nat} (h : kar kd = 1) : cellE ad C s (kd, j) = .inl (C.1, kln kd, .inl (s.1 kd j)) := by
  unfold cellE
  rw [show kar (kd, j).1 = _ from h]
  rfl
theorem cell_2 (ad : Nat × Nat → Nat) (C : Cls) (s : SS) {kd j : Nat} (h : kar kd = 2) : cellE ad C s (kd, j) = .inl (C.2.1, kln kd, .inr (.inl (s.2.1 kd j))) := by
  unfold cellE
  rw [show kar (kd, j).1 = _ from h]
  rfl
theorem cell_3 (ad : Nat × Nat → Nat) (C : Cls) (s : SS) {kd j : Nat} (h : kar kd = 3) : cellE ad C s (kd, j) = .inl (C.2.2.1, kln kd, .inl (s.1 kd j)) := by
  unfold cellE
  rw [show kar (kd, j).1 = _ from h]
  rfl
theorem cell_4 (ad : Nat × Nat → Nat) (C : Cls) (s : SS) {kd j : Nat} (h : kar kd = 4) : cellE ad C s (kd, j) = .inl (C.2.2.2.1, kln kd, .inr (.inr (.inr (.inr (fun i => if i < kln kd then some (ad (kd + 4, i)) else none))))) := by
  unfold cellE
  rw [show kar (kd, j).1 = _ from h]
  rfl
theorem cell_5 (ad : Nat × Nat → Nat) (C : Cls) (s : SS) {kd j : Nat} (h : kar kd = 5) : cellE ad C s (kd, j) = .inl (C.2.2.2.2, kln kd, .inr (.inr (.inr (.inr (fun i => if i < kln kd then some (ad (13, s.2.2 i)) else none))))) := by
  unfold cellE
  rw [show kar (kd, j).1 = _ from h]
  rfl
theorem cell_set (ad : Nat × Nat → Nat) (C : Cls) {s s1 : SS} {kd j k : Nat} {w : AV} (h : kcl kd < 5) (hw : ∀ q, q < NF (kcl kd) → fvv s1 kd j q = if q = k then w else fvv s kd j q) : cellE ad C s1 (kd, j) = .inr (kcl kd, ((List.range (NF (kcl kd))).map (fun q => rv ad (fvv s kd j q))).set k (rv ad w)) := by
  rw [cell_obj ad C s1 h, range_map_set]
  congr 2
  apply List.map_congr_left
  intro q hq
  rw [hw q (List.mem_range.mp hq)]
  split <;> rfl
theorem lkF_inv {i ix a b pos : Nat} (h : lkF i ix a b pos = true) : (nestW[pos - 10000]? = some (.fieldLinkNest (mO i) ix (TT a b).1 (TT a b).2.1 (TT a b).2.2.1 RX3)) ∨ (wsL_law[pos]? = some (.fieldLink (mO i) ix (TT a b).1 (TT a b).2.1 (TT a b).2.2.1)) := by
  unfold lkF at h
  split at h
  · exact Or.inl (decide_eq_true_iff.mp h)
  · exact Or.inr (decide_eq_true_iff.mp h)
theorem lkM_inv {i ix a pos : Nat} (h : lkM i ix a pos = true) : (10000 ≤ pos ∧ nestW[pos - 10000]? = some (.methodLinkNest (mO i) ix (mY a) RX3)) ∨ (wsL_law[pos]? = some (.methodLink (mO i) ix (mY a))) := by
  unfold lkM at h
  split at h
  · rename_i q
    exact Or.inl ⟨q, decide_eq_true_iff.mp h⟩
  · exact Or.inr (decide_eq_true_iff.mp h)
