theorem upd_if {n i : Nat} {x : Int32} (hi : i < 2147483648) : upd (fun j => if j < i then x else 0) (nI i).toNatClampNeg x = fun j => if j < i + 1 then x else 0 := by
  funext j
  unfold upd
  rw [cl_nI hi]
  by_cases e : j = i
  · rw [if_pos e, if_pos (by omega)]
  · rw [if_neg e]
    show (if j < i then x else 0) = _
    by_cases h : j < i
    · rw [if_pos h, if_pos (by omega)]
    · rw [if_neg h, if_neg (by omega)]
theorem fill_lp {p : Program} {l : Launch} {e : Env} {R : Room} {s : State} {m : MethodId} {args : Array Value} {below : List Frame} {meth : Method} {c : Code} {Q : State → Prop} {D : va_G} {C : Cls} {A : Nat → Prop} {H0 : Heap} {n h0 : Nat} {x : Int32} (hx : p.tables.exec = Jvm.exec) (hb : c.code = cJ7_fill_53178) (hK : va_K D vwCl (tyG C) s) (hn : n < 2147483648) (kk : ∀ (H : Heap) (locs : List Loc) (ls : Array Slot), va_P D vwCl [(h0, .inl (C.1, n, .inl (fun j => if j < n then x else 0)))] H → va_D A [(h0, .inl (C.1, n, .inl (fun j => if j < n then x else 0)))] → va_S A H0 H locs → W p l e R s m args below meth c H locs 0 0 Q (F0 m 20 ls [])) : ∀ (k i : Nat), i + k = n → ∀ (H : Heap) (locs : List Loc) (ls : Array Slot), va_P D vwCl [(h0, .inl (C.1, n, .inl (fun j => if j < i then x else 0)))] H → va_D A [(h0, .inl (C.1, n, .inl (fun j => if j < i then x else 0)))] → va_S A H0 H locs → lv_has ls 4 [(3, .int (nI n)), (2, .int (nI i)), (0, .ref h0), (1, .int x)] → W p l e R s m args below meth c H locs 0 0 Q (F0 m 5 ls [])
  | 0, i, hi, H, locs, ls, hP, hD, hS, hl => by
    have e : i = n := by omega
    subst e
    refine lv_iload_n hx hb dJ7_fill_53178_5 rfl (lv_at hl 1 rfl) ?_
    refine lv_iload_n hx hb dJ7_fill_53178_6 rfl (lv_at hl 0 rfl) ?_
    refine lv_icmp_ge hx hb dJ7_fill_53178_7 (tgt := 20) (by decide) (fun _ => ?_) (fun h => absurd (Int32.le_refl _) h)
    exact kk H locs ls hP hD hS
  | k + 1, i, hi, H, locs, ls, hP, hD, hS, hl => by
    refine lv_iload_n hx hb dJ7_fill_53178_5 rfl (lv_at hl 1 rfl) ?_
    refine lv_iload_n hx hb dJ7_fill_53178_6 rfl (lv_at hl 0 rfl) ?_
    refine lv_icmp_ge hx hb dJ7_fill_53178_7 (tgt := 20) (by decide) (fun h => absurd (show nI i < nI n from nI_lt (by omega) hn) (Int32.not_lt.mpr h)) (fun _ => ?_)
    refine lv_aload_n hx hb dJ7_fill_53178_10 rfl (lv_at hl 2 rfl) ?_
    refine lv_iload_n hx hb dJ7_fill_53178_11 rfl (lv_at hl 1 rfl) ?_
    refine lv_iload_n hx hb dJ7_fill_53178_12 rfl (lv_at hl 3 rfl) ?_
    refine va_iast hx hb hK hP hD hS 0 0 rfl rfl (ixB_in (ixB_nI (show i < n by omega) hn)) dJ7_fill_53178_13 (fun H locs hP hD hS => ?_)
    have hP : va_P D vwCl [(h0, .inl (C.1, n, .inl (upd (fun j => if j < i then x else 0) (nI i).toNatClampNeg x)))] H := hP
    have hD : va_D A [(h0, .inl (C.1, n, .inl (upd (fun j => if j < i then x else 0) (nI i).toNatClampNeg x)))] := hD
    rw [upd_if (n := n) (by omega)] at hP hD
    refine lv_iinc (k := 1) (v := nI (i + 1)) (lv' := [(2, .int (nI (i + 1))), (3, .int (nI n)), (0, .ref h0), (1, .int x)]) hx hb dJ7_fill_53178_14 hl rfl (nI_s i) (by decide) rfl (fun ls hl => ?_)
    refine lv_goto hx hb dJ7_fill_53178_17 (tgt := 5) (by decide) ?_
    exact fill_lp hx hb hK hn kk k (i + 1) (by omega) H locs ls hP hD hS (lv_sub hl [1, 0, 2, 3] rfl)
set_option maxHeartbeats 4000000 in
set_option maxRecDepth 100000 in
theorem k_fill (l : Launch) (D : va_G) (C : Cls) (n : Nat) (hn : n < 2147483648) (x : Int32) (h0 sz : Nat) : Met l yJ7_fill_53178 wsJ7_fill_53178 ({ frames := 0, cells := 0, slots := 0, locals := 0 }) (va_Pc [.ref h0, .int x] (fun U => U.heap.size = sz ∧ va_P D vwCl [(h0, .inl (C.1, n, .inl (fun _ => 0)))] U.heap ∧ KK D C U ∧ va_D (fun _ => True) [(h0, .inl (C.1, n, .inl (fun _ => 0)))])) (va_Qv (fun _ : Unit => True) (fun _ t => va_P D vwCl [(h0, .inl (C.1, n, .inl (fun j => if j < n then x else 0)))] t.heap ∧ va_D (va_A [(h0, .inl (C.1, n, .inl (fun _ => 0)))] sz) [(h0, .inl (C.1, n, .inl (fun j => if j < n then x else 0)))]) (va_A [(h0, .inl (C.1, n, .inl (fun _ => 0)))] sz)) 0 0 (va_A [(h0, .inl (C.1, n, .inl (fun _ => 0)))] sz) := by
  refine Met.ofW (cc := cJ7_fill_53178) (maxL := 4) (ret := none) (by decide) rfl ?_
  intro p e s m args below meth c s₁ B hml hv
  obtain ⟨rfl, hsz, hP, hK, hD0⟩ := hv
  have hx := B.exec
  have hb := B.bytes
  have hr := B.returns
  have hlocks := B.notSynchronized
  subst hsz
  have hD := hD0.self (sz := s.heap.size)
  generalize hAe : va_A [(h0, .inl (C.1, n, .inl (fun _ => 0)))] s.heap.size = A at hD ⊢
  have hS : va_S A s.heap s.heap [] := va_S.rf
  have hP : va_P D vwCl [(h0, .inl (C.1, n, .inl (fun _ => 0)))] s.heap := hP
  have hl := lv_entry ([.ref h0, .int x]) (n := 4) (Nat.le_of_ble_eq_true rfl)
  rw [lg_entry_eq]
  generalize (lg_sl ([.ref h0, .int x]) ++ List.replicate (4 - (lg_sl ([.ref h0, .int x])).length) Slot.unset).toArray = ls at hl ⊢
  have hl : lv_has ls 4 [(0, .ref h0), (1, .int x)] := hl
  refine lv_iconst (v := 0) hx hb dJ7_fill_53178_0 (by decide) ?_
  refine lv_istore_n (lv' := [(2, .int 0), (0, .ref h0), (1, .int x)]) hx hb dJ7_fill_53178_1 rfl hl (by decide) rfl (fun ls hl => ?_)
  refine lv_aload_n hx hb dJ7_fill_53178_2 rfl (lv_at hl 1 rfl) ?_
  refine va_alen (v := nI n) hx hb hK.1 hP 0 0 rfl rfl rfl dJ7_fill_53178_3 ?_
  refine lv_istore_n (lv' := [(3, .int (nI n)), (2, .int 0), (0, .ref h0), (1, .int x)]) hx hb dJ7_fill_53178_4 rfl hl (by decide) rfl (fun ls hl => ?_)
  have hf0 : (fun j => if j < 0 then x else (0 : Int32)) = fun _ => 0 := by
    funext j
    rw [if_neg (Nat.not_lt_zero j)]
  have hP2 : va_P D vwCl [(h0, .inl (C.1, n, .inl (fun j => if j < 0 then x else 0)))] s.heap := by rw [hf0]; exact hP
  have hD2 : va_D A [(h0, .inl (C.1, n, .inl (fun j => if j < 0 then x else 0)))] := by rw [hf0]; exact hD
  refine fill_lp (H0 := s.heap) (A := A) hx hb hK.1 hn (fun H locs ls hP hD hS => ?_) n 0 (Nat.zero_add n) s.heap [] ls hP2 hD2 hS hl
  exact W.vret hx hb hr (fun t ht hW => ⟨⟨(), rfl, trivial, by rw [ht]; exact hP, hD⟩, hS.F ht⟩) hS.2.2 dJ7_fill_53178_20
