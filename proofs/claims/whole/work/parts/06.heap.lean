/-! WHAT THE SMALL MACHINE'S STATES ARE ON THE HEAP -/
def fldT (ci k : Nat) : Nat := ([[3, 0, 0, 0, 0, 2, 2, 2, 2], [2, 2], [0, 0, 2, 2, 2, 2, 2, 0, 0, 1], [2, 2, 2, 2, 2, 2, 2, 0, 3, 0, 1, 1, 0], [0, 2, 0, 1, 1, 2, 2, 2, 2, 2, 0, 2, 0, 0, 0, 2, 2, 2, 2, 2, 2, 2, 2, 2, 2, 2, 2, 2, 0, 2, 0, 0, 2, 2, 1, 0, 1]].getD ci []).getD k 0
def TT (ci : Nat) : u_T := match ci with
  | 0 => TX0
  | 1 => TX1
  | 2 => TX2
  | 3 => TX3
  | _ => TX4
def RR (ci : Nat) : String := match ci with
  | 0 => RX0
  | 1 => RX1
  | 2 => RX2
  | 3 => RX3
  | _ => RX4
def NF (ci : Nat) : Nat := match ci with
  | 0 => 9
  | 1 => 2
  | 2 => 10
  | 3 => 13
  | _ => 37
def tyT (ci : Nat) : Nat → FieldType := match ci with
  | 0 => tyX0
  | 1 => tyX1
  | 2 => tyX2
  | 3 => tyX3
  | _ => tyX4
theorem clT {ci : Nat} (h : ci < 5) : vwCl[ci]? = some (RR ci, TT ci, NF ci) := by
  rcases (show ci = 0 ∨ ci = 1 ∨ ci = 2 ∨ ci = 3 ∨ ci = 4 by omega) with rfl | rfl | rfl | rfl | rfl <;> rfl
theorem inT {ci : Nat} (h : ci < 5) : ∀ w ∈ u_ws (RR ci) (TT ci) (NF ci), w ∈ wsL_law := by
  rcases (show ci = 0 ∨ ci = 1 ∨ ci = 2 ∨ ci = 3 ∨ ci = 4 by omega) with rfl | rfl | rfl | rfl | rfl
  · exact inlX0
  · exact inlX1
  · exact inlX2
  · exact inlX3
  · exact inlX4
theorem nmT {ci : Nat} (h : ci < 5) : ∀ a, a < NF ci → ∀ b, b < NF ci → a ≠ b → (TT ci a).2.1 ≠ (TT ci b).2.1 := by
  rcases (show ci = 0 ∨ ci = 1 ∨ ci = 2 ∨ ci = 3 ∨ ci = 4 by omega) with rfl | rfl | rfl | rfl | rfl
  · exact nmX0
  · exact nmX1
  · exact nmX2
  · exact nmX3
  · exact nmX4
theorem tyT_ok {ci : Nat} (h : ci < 5) : ∀ k, k < NF ci → parseFieldDescriptor (TT ci k).2.2.1 = some (tyT ci k) := by
  rcases (show ci = 0 ∨ ci = 1 ∨ ci = 2 ∨ ci = 3 ∨ ci = 4 by omega) with rfl | rfl | rfl | rfl | rfl
  · exact tyX0_ok
  · exact tyX1_ok
  · exact tyX2_ok
  · exact tyX3_ok
  · exact tyX4_ok
def rv (ad : Nat × Nat → Nat) (v : AV) : Value := match v with
  | .inl x => .int x
  | .inr (.inl x) => .long x
  | .inr (.inr a) => .ref (ad a)
def okv (v : AV) : Prop := match v with
  | .inr (.inr (kd, j)) => j < kct kd
  | _ => True
def okS (st : List AV) : Prop := ∀ v ∈ st, okv v
def fvv (s : SS) (kd j k : Nat) : AV := match fldT (kcl kd) k with
  | 1 => .inr (.inl (s.2.1 kd j k))
  | 2 => .inr (.inr (rfa s kd j k))
  | _ => .inl (s.1 kd j k)
abbrev Cls : Type := ClassId × ClassId × ClassId × ClassId × ClassId
def cellE (ad : Nat × Nat → Nat) (C : Cls) (s : SS) (a : Nat × Nat) : va_E := match kar a.1 with
  | 0 => .inr (kcl a.1, (List.range (NF (kcl a.1))).map (fun k => rv ad (fvv s a.1 a.2 k)))
  | 1 => .inl (C.1, kln a.1, .inl (s.1 a.1 a.2))
  | 2 => .inl (C.2.1, kln a.1, .inr (.inl (s.2.1 a.1 a.2)))
  | 3 => .inl (C.2.2.1, kln a.1, .inl (s.1 a.1 a.2))
  | 4 => .inl (C.2.2.2.1, kln a.1, .inr (.inr (.inr (.inr (fun i => if i < kln a.1 then some (ad (a.1 + 4, i)) else none)))))
  | _ => .inl (C.2.2.2.2, kln a.1, .inr (.inr (.inr (.inr (fun i => if i < kln a.1 then some (ad (13, s.2.2 i)) else none)))))
def dom : List (Nat × Nat) := (List.range 60).flatMap (fun k => (List.range (kct k)).map (fun j => (k, j)))
def wsG (ad : Nat × Nat → Nat) (C : Cls) (s : SS) : va_W := dom.map (fun a => (ad a, cellE ad C s a))
def tyG (C : Cls) : List (ClassId × FieldType) := [(C.1, .int), (C.2.1, .long), (C.2.2.1, .boolean), (C.2.2.2.1, .array .int), (C.2.2.2.2, .object RX0)]
def okR (xs : Nat → Int32) (L : Nat) (s : SS) : Prop := (∀ i, i ≤ 8 → s.2.2 i < 9) ∧ (∀ c, s.1 60 0 c = xs c) ∧ s.1 60 1 0 = Int32.ofNat L ∧ (s.1 60 1 0).toNatClampNeg = L
def Hp (ad : Nat × Nat → Nat) (C : Cls) (D : va_G) (xs : Nat → Int32) (L : Nat) (s : SS) (H : Heap) : Prop := va_P D vwCl (wsG ad C s) H ∧ okR xs L s
def AdK (ad : Nat × Nat → Nat) : Prop := (∀ a b, a ∈ dom → b ∈ dom → ad a = ad b → a = b) ∧ ∀ a, a ∈ dom → ad a ≠ ad (60, 0)
def A0 (ad : Nat × Nat → Nat) (q : Nat) : Prop := ∃ a, a ∈ dom ∧ q = ad a
def NN (U : State) : Prop := ∀ w ∈ nestW, va_Nw w U
theorem mem_dom {a : Nat × Nat} : a ∈ dom ↔ a.1 < 60 ∧ a.2 < kct a.1 := by
  obtain ⟨k, j⟩ := a
  simp only [dom, List.mem_flatMap, List.mem_range, List.mem_map, Prod.mk.injEq]
  constructor
  · rintro ⟨k', h1, j', h2, rfl, rfl⟩
    exact ⟨h1, h2⟩
  · rintro ⟨h1, h2⟩
    exact ⟨k, h1, j, h2, rfl, rfl⟩
theorem dom_nd : dom.Nodup := by decide +kernel
theorem dom_one {i j : Nat} {a : Nat × Nat} (h1 : dom[i]? = some a) (h2 : dom[j]? = some a) : i = j := by
  obtain ⟨l1, e1⟩ := List.getElem?_eq_some_iff.mp h1
  obtain ⟨l2, e2⟩ := List.getElem?_eq_some_iff.mp h2
  have hp := List.pairwise_iff_getElem.mp dom_nd
  rcases Nat.lt_trichotomy i j with h | h | h
  · exact absurd (e1.trans e2.symm) (hp i j l1 l2 h)
  · exact h
  · exact absurd (e2.trans e1.symm) (hp j i l2 l1 h)
theorem wsG_at (ad : Nat × Nat → Nat) (C : Cls) (s : SS) {a : Nat × Nat} (h : a ∈ dom) : ∃ q : Nat, dom[q]? = some a ∧ (wsG ad C s)[q]? = some (ad a, cellE ad C s a) := by
  obtain ⟨q, hq⟩ := List.getElem?_of_mem h
  exact ⟨q, hq, by rw [wsG, List.getElem?_map, hq]; rfl⟩
theorem wsG_set {ad : Nat × Nat → Nat} {C : Cls} {s s' : SS} {a : Nat × Nat} {q : Nat} (hq : dom[q]? = some a) {e : va_E} (he : cellE ad C s' a = e) (ho : ∀ b, b ∈ dom → b ≠ a → cellE ad C s' b = cellE ad C s b) : (wsG ad C s).set q (ad a, e) = wsG ad C s' := by
  have hl : q < dom.length := (List.getElem?_eq_some_iff.mp hq).1
  apply List.ext_getElem?
  intro k
  rw [List.getElem?_set]
  by_cases hk : q = k
  · subst hk
    rw [if_pos rfl, if_pos (by rw [wsG, List.length_map]; exact hl), wsG, List.getElem?_map, hq, ← he]
    rfl
  · rw [if_neg hk, wsG, wsG, List.getElem?_map, List.getElem?_map]
    cases hb : dom[k]? with
    | none => rfl
    | some b =>
      have hne : b ≠ a := fun e => hk (dom_one hq (by rw [hb, e]))
      show some (ad b, cellE ad C s b) = some (ad b, cellE ad C s' b)
      rw [ho b (List.mem_of_getElem? hb) hne]
theorem wsG_D {ad : Nat × Nat → Nat} {C : Cls} {s : SS} {A : Nat → Prop} (h : AdK ad) (hA : ∀ a, a ∈ dom → A (ad a)) : va_D A (wsG ad C s) := by
  have key : ∀ (k : Nat) (q : Nat × va_E), (wsG ad C s)[k]? = some q → ∃ a, dom[k]? = some a ∧ q.1 = ad a := by
    intro k q hk
    rw [wsG, List.getElem?_map] at hk
    cases hb : dom[k]? with
    | none => rw [hb] at hk; cases hk
    | some b => rw [hb] at hk; cases hk; exact ⟨b, rfl, rfl⟩
  refine ⟨fun i j x y hi hj hxy => ?_, fun k q hk => ?_⟩
  · obtain ⟨a, h1, h2⟩ := key i x hi
    obtain ⟨b, h3, h4⟩ := key j y hj
    have e := h.1 a b (List.mem_of_getElem? h1) (List.mem_of_getElem? h3) (by rw [← h2, ← h4, hxy])
    subst e
    exact dom_one h1 h3
  · obtain ⟨a, h1, h2⟩ := key k q hk
    rw [h2]
    exact hA a (List.mem_of_getElem? h1)
/-! what changes a cell -/
theorem fvv_wI {s : SS} {kd j i : Nat} {v : Int32} {kd' j' k : Nat} (h : ¬ (kd' = kd ∧ j' = j ∧ k = i)) : fvv (wI s kd j i v) kd' j' k = fvv s kd' j' k := by
  unfold fvv
  split
  · rfl
  · rfl
  · show Sum.inl (if kd' = kd ∧ j' = j ∧ k = i then v else s.1 kd' j' k) = _
    rw [if_neg h]
theorem fvv_wL {s : SS} {kd j i : Nat} {v : Int64} {kd' j' k : Nat} (h : ¬ (kd' = kd ∧ j' = j ∧ k = i)) : fvv (wL s kd j i v) kd' j' k = fvv s kd' j' k := by
  unfold fvv
  split
  · show Sum.inr (Sum.inl (if kd' = kd ∧ j' = j ∧ k = i then v else s.2.1 kd' j' k)) = _
    rw [if_neg h]
  · rfl
  · rfl
theorem cellE_wI {ad : Nat × Nat → Nat} {C : Cls} {s : SS} {kd j i : Nat} {v : Int32} {b : Nat × Nat} (h : b ≠ (kd, j)) : cellE ad C (wI s kd j i v) b = cellE ad C s b := by
  obtain ⟨kb, jb⟩ := b
  have h' : ∀ c, ¬ (kb = kd ∧ jb = j ∧ c = i) := fun c q => h (by rw [q.1, q.2.1])
  have e1 : (wI s kd j i v).1 kb jb = s.1 kb jb := by
    funext c
    show (if kb = kd ∧ jb = j ∧ c = i then v else s.1 kb jb c) = _
    rw [if_neg (h' c)]
  have e2 : (fun k => rv ad (fvv (wI s kd j i v) kb jb k)) = fun k => rv ad (fvv s kb jb k) := by
    funext k
    rw [fvv_wI (h' k)]
  unfold cellE
  simp only [e1, e2]
  rfl
theorem cellE_wL {ad : Nat × Nat → Nat} {C : Cls} {s : SS} {kd j i : Nat} {v : Int64} {b : Nat × Nat} (h : b ≠ (kd, j)) : cellE ad C (wL s kd j i v) b = cellE ad C s b := by
  obtain ⟨kb, jb⟩ := b
  have h' : ∀ c, ¬ (kb = kd ∧ jb = j ∧ c = i) := fun c q => h (by rw [q.1, q.2.1])
  have e1 : (wL s kd j i v).2.1 kb jb = s.2.1 kb jb := by
    funext c
    show (if kb = kd ∧ jb = j ∧ c = i then v else s.2.1 kb jb c) = _
    rw [if_neg (h' c)]
  have e2 : (fun k => rv ad (fvv (wL s kd j i v) kb jb k)) = fun k => rv ad (fvv s kb jb k) := by
    funext k
    rw [fvv_wL (h' k)]
  unfold cellE
  simp only [e1, e2]
  rfl
theorem cellE_wA {ad : Nat × Nat → Nat} {C : Cls} {s : SS} {kd j : Nat} {f : Nat → Int32} {b : Nat × Nat} (h : b ≠ (kd, j)) : cellE ad C (wA s kd j f) b = cellE ad C s b := by
  obtain ⟨kb, jb⟩ := b
  have h' : ¬ (kb = kd ∧ jb = j) := fun q => h (by rw [q.1, q.2])
  have e1 : (wA s kd j f).1 kb jb = s.1 kb jb := by
    funext c
    show (if kb = kd ∧ jb = j then f c else s.1 kb jb c) = _
    rw [if_neg h']
  have e2 : (fun k => rv ad (fvv (wA s kd j f) kb jb k)) = fun k => rv ad (fvv s kb jb k) := by
    funext k
    unfold fvv
    split
    · rfl
    · rfl
    · rw [e1]
  unfold cellE
  simp only [e1, e2]
  rfl
theorem rfa_wR {s : SS} {i v kd j k : Nat} (h : ¬ (kd = 0 ∧ k = 6 ∧ i = 8)) : rfa (wR s i v) kd j k = rfa s kd j k := by
  unfold rfa
  cases h1 : Nat.beq kd 0 with
  | false => rfl
  | true =>
    cases h2 : Nat.beq k 6 with
    | false => rfl
    | true =>
      show (13, (if 8 = i then v else s.2.2 8)) = (13, s.2.2 8)
      rw [if_neg (fun e => h ⟨Nat.eq_of_beq_eq_true h1, Nat.eq_of_beq_eq_true h2, e.symm⟩)]
theorem cellE_wR {ad : Nat × Nat → Nat} {C : Cls} {s : SS} {i v : Nat} {b : Nat × Nat} (h0 : i = 8 → b.1 ≠ 0) (h1 : i < 8 → kar b.1 ≠ 5) (hb : b ∈ dom) : cellE ad C (wR s i v) b = cellE ad C s b := by
  obtain ⟨kb, jb⟩ := b
  have hk : kar kb < 6 := by
    have hd := (mem_dom.mp hb).1
    have : ∀ k, k < 60 → kar k < 6 := by decide +kernel
    exact this kb hd
  have h5 : kar kb = 5 → kln kb = 8 := by
    have hd := (mem_dom.mp hb).1
    have : ∀ k, k < 60 → kar k = 5 → kln k = 8 := by decide +kernel
    exact this kb hd
  have e2 : (fun k => rv ad (fvv (wR s i v) kb jb k)) = fun k => rv ad (fvv s kb jb k) := by
    funext k
    unfold fvv
    split
    · rfl
    · rw [rfa_wR (fun q => h0 q.2.2 q.1)]
    · rfl
  unfold cellE
  simp only [e2]
  split
  · rfl
  · rfl
  · rfl
  · rfl
  · rfl
  · rename_i x1 x2 x3 x4 x5
    have hk5 : kar kb = 5 := by
      have a1 : kar kb ≠ 0 := x1
      have a2 : kar kb ≠ 1 := x2
      have a3 : kar kb ≠ 2 := x3
      have a4 : kar kb ≠ 3 := x4
      have a5 : kar kb ≠ 4 := x5
      omega
    have hn : ¬ i < 8 := fun q => h1 q hk5
    have e3 : (fun c => if c < kln kb then some (ad (13, (wR s i v).2.2 c)) else none) = fun c => if c < kln kb then some (ad (13, s.2.2 c)) else none := by
      funext c
      rw [h5 hk5]
      by_cases q : c < 8
      · rw [if_pos q, if_pos q]
        show some (ad (13, if c = i then v else s.2.2 c)) = _
        rw [if_neg (by omega)]
      · rw [if_neg q, if_neg q]
    rw [e3]
theorem range_map_set {α : Type} (f : Nat → α) (n k : Nat) (v : α) : ((List.range n).map f).set k v = (List.range n).map (fun i => if i = k then v else f i) := by
  apply List.ext_getElem?
  intro i
  rw [List.getElem?_set, List.getElem?_map, List.getElem?_map, List.length_map, List.length_range]
  by_cases hk : k = i
  · subst hk
    rw [if_pos rfl]
    by_cases h : k < n
    · rw [if_pos h, List.getElem?_range h]
      simp
    · rw [if_neg h, List.getElem?_eq_none (by rw [List.length_range]; omega)]
      rfl
  · rw [if_neg hk]
    by_cases h : i < n
    · rw [List.getElem?_range h]
      have : ¬ i = k := fun e => hk e.symm
      simp [this]
    · rw [List.getElem?_eq_none (by rw [List.length_range]; omega)]
      rfl
theorem range_map_at {α : Type} (f : Nat → α) {n k : Nat} (h : k < n) : ((List.range n).map f)[k]? = some (f k) := by
  rw [List.getElem?_map, List.getElem?_range h]
  rfl
/-! the slots of a frame -/
def LRep (ad : Nat × Nat → Nat) (ls : Array Slot) (n : Nat) (lo : LO) : Prop := ls.size = n ∧ lv_wf ls ∧ lo.length = n ∧ ∀ (k : Nat) (v : AV), lo[k]? = some (some v) → ls[k]? = some (.val (rv ad v)) ∧ okv v
def toLF (ad : Nat × Nat → Nat) (lo : LO) (k : Nat) : Option (Nat × Value) := match lo[k]? with
  | some (some v) => some (k, rv ad v)
  | _ => none
def toL (ad : Nat × Nat → Nat) (lo : LO) : List (Nat × Value) := (List.range lo.length).filterMap (toLF ad lo)
theorem toL_mem {ad : Nat × Nat → Nat} {lo : LO} {k : Nat} {v : AV} (h : lo[k]? = some (some v)) : (k, rv ad v) ∈ toL ad lo := by
  refine List.mem_filterMap.mpr ⟨k, List.mem_range.mpr (List.getElem?_eq_some_iff.mp h).1, ?_⟩
  unfold toLF
  rw [h]
theorem LRep_has {ad : Nat × Nat → Nat} {ls : Array Slot} {n : Nat} {lo : LO} (h : LRep ad ls n lo) : lv_has ls n (toL ad lo) := by
  refine ⟨h.1, h.2.1, fun q hq => ?_⟩
  obtain ⟨k, -, hk⟩ := List.mem_filterMap.mp hq
  unfold toLF at hk
  split at hk
  · rename_i v hv
    cases hk
    exact (h.2.2.2 k v hv).1
  · cases hk
theorem LRep_load {ad : Nat × Nat → Nat} {ls : Array Slot} {n : Nat} {lo : LO} (h : LRep ad ls n lo) {k : Nat} {v : AV} (hv : lo.getD k none = some v) : ls[k]? = some (.val (rv ad v)) ∧ okv v := by
  refine h.2.2.2 k v ?_
  rw [List.getD_eq_getElem?_getD] at hv
  cases hk : lo[k]? with
  | none => rw [hk] at hv; cases hv
  | some w => rw [hk] at hv; rw [show w = some v from hv]
theorem clr_len (lo : LO) (k : Nat) : (clr lo k).length = lo.length := by
  cases k with
  | zero => rfl
  | succ i =>
    show (bif isLg (lo.getD i none) then lo.set i none else lo).length = lo.length
    cases isLg (lo.getD i none)
    · rfl
    · exact List.length_set
theorem clr_at {lo : LO} {k q : Nat} {v : AV} (h : (clr lo k)[q]? = some (some v)) : lo[q]? = some (some v) ∧ ¬ (q + 1 = k ∧ cat v = 2) := by
  cases k with
  | zero => exact ⟨h, fun e => by omega⟩
  | succ i =>
    have h : (bif isLg (lo.getD i none) then lo.set i none else lo)[q]? = some (some v) := h
    cases hb : isLg (lo.getD i none) with
    | false =>
      rw [hb] at h
      refine ⟨h, fun e => ?_⟩
      have hi : q = i := by omega
      subst hi
      have h' : lo[q]? = some (some v) := h
      rw [List.getD_eq_getElem?_getD, h'] at hb
      obtain ⟨-, hc⟩ := e
      match v, hc, hb with
      | .inl x, hc, _ => cases hc
      | .inr (.inl x), _, hb => cases hb
      | .inr (.inr x), hc, _ => cases hc
    | true =>
      rw [hb] at h
      have h' : (lo.set i none)[q]? = some (some v) := h
      rw [List.getElem?_set] at h'
      by_cases hq : i = q
      · rw [if_pos hq] at h'
        split at h' <;> cases h'
      · rw [if_neg hq] at h'
        exact ⟨h', fun e => hq (by omega)⟩
theorem rv_cat (ad : Nat × Nat → Nat) (v : AV) : (rv ad v).category = cat v := by
  match v with
  | .inl x => rfl
  | .inr (.inl x) => rfl
  | .inr (.inr x) => rfl
theorem LRep_st1 {ad : Nat × Nat → Nat} {ls ls' : Array Slot} {n k : Nat} {lo : LO} {v : AV} (h : LRep ad ls n lo) (ho : okv v) (h' : lv_has ls' n ((k, rv ad v) :: (toL ad lo).filter (fun q => !(q.1 == k) && !(q.1 + 1 == k && q.2.category == 2)))) : LRep ad ls' n (st1 lo k v) := by
  refine ⟨h'.1, h'.2.1, by rw [st1, List.length_set, clr_len]; exact h.2.2.1, fun q w hq => ?_⟩
  unfold st1 at hq
  rw [List.getElem?_set] at hq
  by_cases e : k = q
  · subst e
    rw [if_pos rfl] at hq
    split at hq
    · cases hq
      exact ⟨h'.2.2 (k, rv ad v) List.mem_cons_self, ho⟩
    · cases hq
  · rw [if_neg e] at hq
    obtain ⟨h1, h2⟩ := clr_at hq
    refine ⟨h'.2.2 (q, rv ad w) (List.mem_cons_of_mem _ (List.mem_filter.mpr ⟨toL_mem h1, ?_⟩)), (h.2.2.2 q w h1).2⟩
    have e' : ¬ q = k := fun z => e z.symm
    simp only [rv_cat, Bool.and_eq_true, Bool.not_eq_true', beq_eq_false_iff_ne, ne_eq, Bool.and_eq_false_iff]
    refine ⟨e', ?_⟩
    by_cases z : q + 1 = k
    · exact Or.inr (fun y => h2 ⟨z, y⟩)
    · exact Or.inl z
theorem LRep_st2 {ad : Nat × Nat → Nat} {ls ls' : Array Slot} {n k : Nat} {lo : LO} {v : AV} (h : LRep ad ls n lo) (ho : okv v) (h' : lv_has ls' n ((k, rv ad v) :: (toL ad lo).filter (fun q => !(q.1 == k) && (!(q.1 == k + 1) && !(q.1 + 1 == k && q.2.category == 2))))) : LRep ad ls' n (st2 lo k v) := by
  refine ⟨h'.1, h'.2.1, by rw [st2, List.length_set, List.length_set, clr_len]; exact h.2.2.1, fun q w hq => ?_⟩
  unfold st2 at hq
  rw [List.getElem?_set] at hq
  by_cases e0 : k + 1 = q
  · rw [if_pos e0] at hq
    split at hq <;> cases hq
  · rw [if_neg e0, List.getElem?_set] at hq
    by_cases e : k = q
    · subst e
      rw [if_pos rfl] at hq
      split at hq
      · cases hq
        exact ⟨h'.2.2 (k, rv ad v) List.mem_cons_self, ho⟩
      · cases hq
    · rw [if_neg e] at hq
      obtain ⟨h1, h2⟩ := clr_at hq
      refine ⟨h'.2.2 (q, rv ad w) (List.mem_cons_of_mem _ (List.mem_filter.mpr ⟨toL_mem h1, ?_⟩)), (h.2.2.2 q w h1).2⟩
      have e' : ¬ q = k := fun z => e z.symm
      have e0' : ¬ q = k + 1 := fun z => e0 z.symm
      simp only [rv_cat, Bool.and_eq_true, Bool.not_eq_true', beq_eq_false_iff_ne, ne_eq, Bool.and_eq_false_iff]
      refine ⟨e', e0', ?_⟩
      by_cases z : q + 1 = k
      · exact Or.inr (fun y => h2 ⟨z, y⟩)
      · exact Or.inl z
theorem LRep_kil {ad : Nat × Nat → Nat} {ls : Array Slot} {n : Nat} {lo : LO} (h : LRep ad ls n lo) (ks : List Nat) : LRep ad ls n (kil ks lo) := ⟨h.1, h.2.1, (kil_len ks lo).trans h.2.2.1, fun k v hk => h.2.2.2 k v (kil_at ks lo k hk)⟩
theorem okS_cons {v : AV} {st : List AV} : okS (v :: st) ↔ okv v ∧ okS st := by
  unfold okS
  exact List.forall_mem_cons
/-! the slots with which a method begins -/
theorem entA_args (ad : Nat × Nat → Nat) : ∀ (as : List AV) (i : Nat) (k : Nat) (v : AV), (entA as)[k]? = some (some v) → (i + k, rv ad v) ∈ lv_args i (as.map (rv ad)) ∧ v ∈ as
  | [], i, k, v, h => by simp [entA] at h
  | .inl x :: r, i, k, v, h => by
    cases k with
    | zero =>
      have h' : some (some (Sum.inl x)) = some (some v) := h
      cases h'
      exact ⟨List.mem_cons_self, List.mem_cons_self⟩
    | succ k =>
      obtain ⟨h1, h2⟩ := entA_args ad r (i + 1) k v h
      refine ⟨List.mem_cons_of_mem _ ?_, List.mem_cons_of_mem _ h2⟩
      rw [show i + (k + 1) = i + 1 + k by omega]
      exact h1
  | .inr (.inl x) :: r, i, k, v, h => by
    match k, h with
    | 0, h =>
      have h' : some (some (Sum.inr (Sum.inl x))) = some (some v) := h
      cases h'
      exact ⟨List.mem_cons_self, List.mem_cons_self⟩
    | 1, h =>
      have h' : some (none : Option AV) = some (some v) := h
      cases h'
    | k + 2, h =>
      obtain ⟨h1, h2⟩ := entA_args ad r (i + 2) k v h
      refine ⟨List.mem_cons_of_mem _ ?_, List.mem_cons_of_mem _ h2⟩
      rw [show i + (k + 2) = i + 2 + k by omega]
      exact h1
  | .inr (.inr x) :: r, i, k, v, h => by
    cases k with
    | zero =>
      have h' : some (some (Sum.inr (Sum.inr x))) = some (some v) := h
      cases h'
      exact ⟨List.mem_cons_self, List.mem_cons_self⟩
    | succ k =>
      obtain ⟨h1, h2⟩ := entA_args ad r (i + 1) k v h
      refine ⟨List.mem_cons_of_mem _ ?_, List.mem_cons_of_mem _ h2⟩
      rw [show i + (k + 1) = i + 1 + k by omega]
      exact h1
theorem entA_len (ad : Nat × Nat → Nat) : ∀ as : List AV, (lg_sl (as.map (rv ad))).length = (entA as).length
  | [] => rfl
  | .inl x :: r => by
    show ([Slot.val (Value.int x)] ++ lg_sl (r.map (rv ad))).length = (entA r).length + 1
    rw [List.length_append, entA_len ad r]
    simp
    omega
  | .inr (.inl x) :: r => by
    show ([Slot.val (Value.long x), Slot.second] ++ lg_sl (r.map (rv ad))).length = (entA r).length + 1 + 1
    rw [List.length_append, entA_len ad r]
    simp
    omega
  | .inr (.inr x) :: r => by
    show ([Slot.val (Value.ref (ad x))] ++ lg_sl (r.map (rv ad))).length = (entA r).length + 1
    rw [List.length_append, entA_len ad r]
    simp
    omega
theorem padL_len : ∀ (n : Nat) (lo : LO), lo.length ≤ n → (padL n lo).length = n
  | 0, lo, h => by unfold padL; omega
  | n + 1, [], _ => by
    show (none :: padL n []).length = n + 1
    rw [List.length_cons, padL_len n [] (Nat.zero_le _)]
  | n + 1, a :: r, h => by
    show (a :: padL n r).length = n + 1
    rw [List.length_cons, padL_len n r (by simpa using h)]
theorem padL_at : ∀ (n : Nat) (lo : LO) (k : Nat) (v : AV), (padL n lo)[k]? = some (some v) → lo[k]? = some (some v)
  | 0, _, _, _, h => h
  | n + 1, [], k, v, h => by
    cases k with
    | zero => cases h
    | succ k => exact absurd (padL_at n [] k v h) (by simp)
  | n + 1, a :: r, k, v, h => by
    cases k with
    | zero => exact h
    | succ k => exact padL_at n r k v h
theorem LRep_entry (ad : Nat × Nat → Nat) {as : List AV} {n : Nat} (ho : okS as) (hn : (entA as).length ≤ n) : LRep ad ((lg_sl (as.map (rv ad)) ++ List.replicate (n - (lg_sl (as.map (rv ad))).length) Slot.unset).toArray) n (entL as n) := by
  have h := lv_entry (as.map (rv ad)) (n := n) (by rw [entA_len]; exact hn)
  refine ⟨h.1, h.2.1, padL_len n _ hn, fun k v hk => ?_⟩
  have h1 := padL_at n _ k v hk
  obtain ⟨h2, h3⟩ := entA_args ad as 0 k v h1
  rw [Nat.zero_add] at h2
  exact ⟨h.2.2 _ h2, ho v h3⟩
