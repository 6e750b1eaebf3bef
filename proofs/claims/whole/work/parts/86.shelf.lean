set_option maxHeartbeats 4000000 in
set_option maxRecDepth 100000 in
theorem k_Shelf6 (l : Launch) (D : va_G) (C : Cls) (h0 sz : Nat) : Met l yX1_init wsX1_init ({ frames := 1, cells := 8, slots := 252, locals := 23 }) (va_Pc [.ref h0, .int 6] (fun U => U.heap.size = sz ∧ va_P D vwCl [(h0, .inr (1, [.null, .null]))] U.heap ∧ KK D C U ∧ va_D (fun _ => True) [(h0, .inr (1, [.null, .null]))])) (va_Qv (fun _ : Unit => True) (fun _ t => ∃ (q14 q23 : Nat) (r : Nat → Nat), va_P D vwCl [(h0, .inr (1, [.ref q14, .ref q23])), (q14, .inl (C.2.2.2.1, 6, .inr (.inr (.inr (.inr (fun i => if i < 6 then some (r i) else none)))))), (r 0, .inl (C.1, 40, .inl (fun _ => 0))), (r 1, .inl (C.1, 40, .inl (fun _ => 0))), (r 2, .inl (C.1, 40, .inl (fun _ => 0))), (r 3, .inl (C.1, 40, .inl (fun _ => 0))), (r 4, .inl (C.1, 40, .inl (fun _ => 0))), (r 5, .inl (C.1, 40, .inl (fun _ => 0))), (q23, .inl (C.1, 6, .inl (fun j => if j < 6 then -1 else 0)))] t.heap ∧ va_D (va_A [(h0, .inr (1, [.null, .null]))] sz) [(h0, .inr (1, [.ref q14, .ref q23])), (q14, .inl (C.2.2.2.1, 6, .inr (.inr (.inr (.inr (fun i => if i < 6 then some (r i) else none)))))), (r 0, .inl (C.1, 40, .inl (fun _ => 0))), (r 1, .inl (C.1, 40, .inl (fun _ => 0))), (r 2, .inl (C.1, 40, .inl (fun _ => 0))), (r 3, .inl (C.1, 40, .inl (fun _ => 0))), (r 4, .inl (C.1, 40, .inl (fun _ => 0))), (r 5, .inl (C.1, 40, .inl (fun _ => 0))), (q23, .inl (C.1, 6, .inl (fun j => if j < 6 then -1 else 0)))]) (va_A [(h0, .inr (1, [.null, .null]))] sz)) 8 252 (va_A [(h0, .inr (1, [.null, .null]))] sz) := by
  refine Met.ofW (cc := cX1_init) (maxL := 3) (ret := none) (by decide) rfl ?_
  intro p e s m args below meth c s₁ B hml hv
  obtain ⟨rfl, hsz, hP, hK, hD0⟩ := hv
  have hx := B.exec
  have hb := B.bytes
  have hr := B.returns
  have hts := atoms_spec (ws := wsX1_init) B.pre
  have hown : s.vm.findClass RX1 = some m.cls := findClass_of_methodNamed B.named
  have hlocks := B.notSynchronized
  have hin : meth.name = "<init>" := (name_of_methodNamed B.named B.method).1
  subst hsz
  have hD := hD0.self (sz := s.heap.size)
  generalize hAe : va_A [(h0, .inr (1, [.null, .null]))] s.heap.size = A at hD ⊢
  have hA : ∀ q : Nat, s.heap.size ≤ q → A q := fun q h => by rw [← hAe]; exact Or.inr h
  have hS : va_S A s.heap s.heap [] := va_S.rf
  have hP : va_P D vwCl [(h0, .inr (1, [.null, .null]))] s.heap := hP
  have hl := lv_entry ([.ref h0, .int 6]) (n := 3) (Nat.le_of_ble_eq_true rfl)
  rw [lg_entry_eq]
  generalize (lg_sl ([.ref h0, .int 6]) ++ List.replicate (3 - (lg_sl ([.ref h0, .int 6])).length) Slot.unset).toArray = ls at hl ⊢
  have hl : lv_has ls 3 [(0, .ref h0), (1, .int 6)] := hl
  refine lv_aload_n hx hb dX1_init_0 rfl (lv_at hl 0 rfl) ?_
  refine W.objInit hx hb hown (hts (.methodLink RX1 3 objectInit) (by decide +kernel)) (hts (.instanceMethod objectInit) (by decide +kernel)) (hts _ (List.mem_of_getElem? (i := 3) rfl)) rfl (by rw [hml]; exact hl.1) rfl dX1_init_1 (Nat.le_of_ble_eq_true rfl) (Nat.le_of_ble_eq_true rfl) ?_
  refine W.eq (g2 := F0 m 4 ls []) rfl ?_
  refine lv_iload_n hx hb dX1_init_4 rfl (lv_at hl 1 rfl) ?_
  refine lv_iconst (v := 0) hx hb dX1_init_5 (by decide) ?_
  refine va_mmax hx hb (by rw [hml]; exact hl.1.symm) hown (hts (.methodLink RX1 9 Lib.Math.max.name) (by decide +kernel)) (hts (.static Lib.Math.max.name) (by decide +kernel)) (hts (.initialized "java/lang/Math") (by decide +kernel)) (hts _ (List.mem_of_getElem? (i := 7) rfl)) (Nat.le_of_ble_eq_true rfl) (Nat.le_of_ble_eq_true rfl) (Nat.zero_le _) (Nat.zero_le _) dX1_init_6 ?_
  rw [show (if (6 : Int32) < 0 then (0 : Int32) else 6) = 6 from by decide]
  refine lv_istore_n (lv' := [(2, .int 6), (0, .ref h0), (1, .int 6)]) hx hb dX1_init_9 rfl hl (by decide) rfl (fun ls hl => ?_)
  refine lv_aload_n hx hb dX1_init_10 rfl (lv_at hl 1 rfl) ?_
  refine lv_iload_n hx hb dX1_init_11 rfl (lv_at hl 0 rfl) ?_
  refine lv_bipush (v := 40) hx hb dX1_init_12 (by decide) ?_
  refine vn_m (N' := 6) (K' := 40) hx hb hown (hts (.classLink RX1 15 "[[I") (by decide +kernel)) hK.2.2.2 (hts (.arrayClass .int) (by decide +kernel)) hK.1 hP hD hS hA (by decide) (by decide) (by decide) (by decide) (by decide) (by decide) (by decide) (show 0 + (1 + 6) ≤ 8 by decide) (show 0 + (6 + 6 * 40) ≤ 252 by decide) dX1_init_14 (fun q14 r H hP hD hS => ?_)
  have hP : va_P D vwCl [(h0, .inr (1, [.null, .null])), (q14, .inl (C.2.2.2.1, 6, .inr (.inr (.inr (.inr (fun i => if i < 6 then some (r i) else none)))))), (r 0, .inl (C.1, 40, .inl (fun _ => 0))), (r 1, .inl (C.1, 40, .inl (fun _ => 0))), (r 2, .inl (C.1, 40, .inl (fun _ => 0))), (r 3, .inl (C.1, 40, .inl (fun _ => 0))), (r 4, .inl (C.1, 40, .inl (fun _ => 0))), (r 5, .inl (C.1, 40, .inl (fun _ => 0)))] H := hP
  have hD : va_D A [(h0, .inr (1, [.null, .null])), (q14, .inl (C.2.2.2.1, 6, .inr (.inr (.inr (.inr (fun i => if i < 6 then some (r i) else none)))))), (r 0, .inl (C.1, 40, .inl (fun _ => 0))), (r 1, .inl (C.1, 40, .inl (fun _ => 0))), (r 2, .inl (C.1, 40, .inl (fun _ => 0))), (r 3, .inl (C.1, 40, .inl (fun _ => 0))), (r 4, .inl (C.1, 40, .inl (fun _ => 0))), (r 5, .inl (C.1, 40, .inl (fun _ => 0)))] := hD
  refine W.widen (k := 7) (n := 246) (by omega) (by omega) ?_
  refine va_putF (D := D) (ci := 1) (v := .ref q14) (ty := .array (.array .int)) (C := RX1) (T := TX1) (N := 2) hx hb hts inw_X1_init_1 tyX1 tyX1_ok nmX1 hown hK.1 hP hD hS 0 rfl rfl 0 (by decide) (hts (.fieldLink RX1 17 "WeightedLaws$Shelf" "places" "[[I") (by decide +kernel)) (fun _ h9 => h9) rfl hin rfl (by decide +kernel) rfl rfl (Nat.le_of_ble_eq_true rfl) dX1_init_18 (fun H locs hP hD hS => ?_)
  have hP : va_P D vwCl [(h0, .inr (1, [.ref q14, .null])), (q14, .inl (C.2.2.2.1, 6, .inr (.inr (.inr (.inr (fun i => if i < 6 then some (r i) else none)))))), (r 0, .inl (C.1, 40, .inl (fun _ => 0))), (r 1, .inl (C.1, 40, .inl (fun _ => 0))), (r 2, .inl (C.1, 40, .inl (fun _ => 0))), (r 3, .inl (C.1, 40, .inl (fun _ => 0))), (r 4, .inl (C.1, 40, .inl (fun _ => 0))), (r 5, .inl (C.1, 40, .inl (fun _ => 0)))] H := hP
  have hD : va_D A [(h0, .inr (1, [.ref q14, .null])), (q14, .inl (C.2.2.2.1, 6, .inr (.inr (.inr (.inr (fun i => if i < 6 then some (r i) else none)))))), (r 0, .inl (C.1, 40, .inl (fun _ => 0))), (r 1, .inl (C.1, 40, .inl (fun _ => 0))), (r 2, .inl (C.1, 40, .inl (fun _ => 0))), (r 3, .inl (C.1, 40, .inl (fun _ => 0))), (r 4, .inl (C.1, 40, .inl (fun _ => 0))), (r 5, .inl (C.1, 40, .inl (fun _ => 0)))] := hD
  refine lv_aload_n hx hb dX1_init_21 rfl (lv_at hl 1 rfl) ?_
  refine lv_iload_n hx hb dX1_init_22 rfl (lv_at hl 0 rfl) ?_
  refine vn_i (N' := 6) hx hb (hts (.arrayClass .int) (by decide +kernel)) hK.1 hP hD hS hA (by decide) (by decide) (by decide) (show 7 + 1 ≤ 8 by decide) (show 246 + 6 ≤ 252 by decide) dX1_init_23 (fun q23 H hP hD hS => ?_)
  have hP : va_P D vwCl [(h0, .inr (1, [.ref q14, .null])), (q14, .inl (C.2.2.2.1, 6, .inr (.inr (.inr (.inr (fun i => if i < 6 then some (r i) else none)))))), (r 0, .inl (C.1, 40, .inl (fun _ => 0))), (r 1, .inl (C.1, 40, .inl (fun _ => 0))), (r 2, .inl (C.1, 40, .inl (fun _ => 0))), (r 3, .inl (C.1, 40, .inl (fun _ => 0))), (r 4, .inl (C.1, 40, .inl (fun _ => 0))), (r 5, .inl (C.1, 40, .inl (fun _ => 0))), (q23, .inl (C.1, 6, .inl (fun _ => 0)))] H := hP
  have hD : va_D A [(h0, .inr (1, [.ref q14, .null])), (q14, .inl (C.2.2.2.1, 6, .inr (.inr (.inr (.inr (fun i => if i < 6 then some (r i) else none)))))), (r 0, .inl (C.1, 40, .inl (fun _ => 0))), (r 1, .inl (C.1, 40, .inl (fun _ => 0))), (r 2, .inl (C.1, 40, .inl (fun _ => 0))), (r 3, .inl (C.1, 40, .inl (fun _ => 0))), (r 4, .inl (C.1, 40, .inl (fun _ => 0))), (r 5, .inl (C.1, 40, .inl (fun _ => 0))), (q23, .inl (C.1, 6, .inl (fun _ => 0)))] := hD
  refine W.widen (k := 8) (n := 252) (by omega) (by omega) ?_
  refine va_putF (D := D) (ci := 1) (v := .ref q23) (ty := .array .int) (C := RX1) (T := TX1) (N := 2) hx hb hts inw_X1_init_1 tyX1 tyX1_ok nmX1 hown hK.1 hP hD hS 0 rfl rfl 1 (by decide) (hts (.fieldLink RX1 22 "WeightedLaws$Shelf" "sizes" "[I") (by decide +kernel)) (fun _ h9 => h9) rfl hin rfl (by decide +kernel) rfl rfl (Nat.le_of_ble_eq_true rfl) dX1_init_25 (fun H locs hP hD hS => ?_)
  have hP : va_P D vwCl [(h0, .inr (1, [.ref q14, .ref q23])), (q14, .inl (C.2.2.2.1, 6, .inr (.inr (.inr (.inr (fun i => if i < 6 then some (r i) else none)))))), (r 0, .inl (C.1, 40, .inl (fun _ => 0))), (r 1, .inl (C.1, 40, .inl (fun _ => 0))), (r 2, .inl (C.1, 40, .inl (fun _ => 0))), (r 3, .inl (C.1, 40, .inl (fun _ => 0))), (r 4, .inl (C.1, 40, .inl (fun _ => 0))), (r 5, .inl (C.1, 40, .inl (fun _ => 0))), (q23, .inl (C.1, 6, .inl (fun _ => 0)))] H := hP
  have hD : va_D A [(h0, .inr (1, [.ref q14, .ref q23])), (q14, .inl (C.2.2.2.1, 6, .inr (.inr (.inr (.inr (fun i => if i < 6 then some (r i) else none)))))), (r 0, .inl (C.1, 40, .inl (fun _ => 0))), (r 1, .inl (C.1, 40, .inl (fun _ => 0))), (r 2, .inl (C.1, 40, .inl (fun _ => 0))), (r 3, .inl (C.1, 40, .inl (fun _ => 0))), (r 4, .inl (C.1, 40, .inl (fun _ => 0))), (r 5, .inl (C.1, 40, .inl (fun _ => 0))), (q23, .inl (C.1, 6, .inl (fun _ => 0)))] := hD
  refine lv_aload_n hx hb dX1_init_28 rfl (lv_at hl 1 rfl) ?_
  refine va_get (ci := 1) (C := RX1) (T := TX1) (N := 2) hx hb hts inw_X1_init_1 hown hK.1 hP 0 rfl rfl 1 (by decide) (hts (.fieldLink RX1 22 "WeightedLaws$Shelf" "sizes" "[I") (by decide +kernel)) (fun _ h9 => h9) rfl dX1_init_29 ?_
  refine lv_iconst (v := -1) hx hb dX1_init_32 (by decide) ?_
  have hPc := hP.sub (ws' := [(q23, .inl (C.1, 6, .inl (fun _ => 0)))]) [8] rfl
  have hDc := hD.sub (ws' := [(q23, .inl (C.1, 6, .inl (fun _ => 0)))]) [8] (by decide) rfl
  have hFc := va_free (wc := [(q23, .inl (C.1, 6, .inl (fun _ => 0)))]) hD hS hA [8] rfl
  refine va_callv (va_runS (As := [.ref q23, .int (-1)]) (rest := []) ⟨hx, hb, hml, hown, hts⟩ (k_fill l D C 6 (by decide) (-1) q23 H.size) (va_cwS 2 hts gX1_init_J7_fill_53178 rfl rfl rfl (by decide +kernel) ⟨(Nat.le_of_ble_eq_true rfl), (Nat.le_of_ble_eq_true rfl)⟩) ⟨fun a U g mk q => by obtain ⟨q0, q1, qP, qK, qD⟩ := q; exact ⟨q0, q1, qP, KK_bl qK, qD⟩, fun U hU hW => ⟨rfl, by rw [hU], by rw [hU]; exact hPc, KK_wm hW hK, hDc.weaken (fun _ _ _ _ => trivial)⟩⟩ rfl rfl hl.1 rfl (lv_room (Nat.le_of_ble_eq_true rfl)) dX1_init_33 ⟨(show 8 + 0 ≤ 8 by decide), (show 252 + 0 ≤ 252 by decide)⟩) hS (fun q _ h => hFc q h) hFc (fun u t H1 locs ht hvm h5 hB hz1 hk1 hS => ?_)
  obtain ⟨hP1, hD1⟩ := hB
  rw [ht] at hP1
  obtain ⟨hP, hD⟩ := va_join (wr := [(h0, .inr (1, [.ref q14, .ref q23])), (q14, .inl (C.2.2.2.1, 6, .inr (.inr (.inr (.inr (fun i => if i < 6 then some (r i) else none)))))), (r 0, .inl (C.1, 40, .inl (fun _ => 0))), (r 1, .inl (C.1, 40, .inl (fun _ => 0))), (r 2, .inl (C.1, 40, .inl (fun _ => 0))), (r 3, .inl (C.1, 40, .inl (fun _ => 0))), (r 4, .inl (C.1, 40, .inl (fun _ => 0))), (r 5, .inl (C.1, 40, .inl (fun _ => 0)))]) (w1 := [(q23, .inl (C.1, 6, .inl (fun j => if j < 6 then -1 else 0)))]) hP hD [8] [0, 1, 2, 3, 4, 5, 6, 7] rfl rfl (by decide) (by decide) hk1 hFc hP1 hD1
  generalize H1 = H at hP hS ⊢
  have hP : va_P D vwCl [(h0, .inr (1, [.ref q14, .ref q23])), (q14, .inl (C.2.2.2.1, 6, .inr (.inr (.inr (.inr (fun i => if i < 6 then some (r i) else none)))))), (r 0, .inl (C.1, 40, .inl (fun _ => 0))), (r 1, .inl (C.1, 40, .inl (fun _ => 0))), (r 2, .inl (C.1, 40, .inl (fun _ => 0))), (r 3, .inl (C.1, 40, .inl (fun _ => 0))), (r 4, .inl (C.1, 40, .inl (fun _ => 0))), (r 5, .inl (C.1, 40, .inl (fun _ => 0))), (q23, .inl (C.1, 6, .inl (fun j => if j < 6 then -1 else 0)))] H := hP
  have hD : va_D A [(h0, .inr (1, [.ref q14, .ref q23])), (q14, .inl (C.2.2.2.1, 6, .inr (.inr (.inr (.inr (fun i => if i < 6 then some (r i) else none)))))), (r 0, .inl (C.1, 40, .inl (fun _ => 0))), (r 1, .inl (C.1, 40, .inl (fun _ => 0))), (r 2, .inl (C.1, 40, .inl (fun _ => 0))), (r 3, .inl (C.1, 40, .inl (fun _ => 0))), (r 4, .inl (C.1, 40, .inl (fun _ => 0))), (r 5, .inl (C.1, 40, .inl (fun _ => 0))), (q23, .inl (C.1, 6, .inl (fun j => if j < 6 then -1 else 0)))] := hD
  refine W.widen (k := 8) (n := 252) (by omega) (by omega) ?_
  exact W.vret hx hb hr (fun t ht hW => ⟨⟨(), rfl, trivial, q14, q23, r, by rw [ht]; exact hP, hD⟩, hS.F ht⟩) hS.2.2 dX1_init_36
set_option maxHeartbeats 4000000 in
set_option maxRecDepth 100000 in
theorem k_Shelf4 (l : Launch) (D : va_G) (C : Cls) (h0 sz : Nat) : Met l yX1_init wsX1_init ({ frames := 1, cells := 6, slots := 168, locals := 23 }) (va_Pc [.ref h0, .int 4] (fun U => U.heap.size = sz ∧ va_P D vwCl [(h0, .inr (1, [.null, .null]))] U.heap ∧ KK D C U ∧ va_D (fun _ => True) [(h0, .inr (1, [.null, .null]))])) (va_Qv (fun _ : Unit => True) (fun _ t => ∃ (q14 q23 : Nat) (r : Nat → Nat), va_P D vwCl [(h0, .inr (1, [.ref q14, .ref q23])), (q14, .inl (C.2.2.2.1, 4, .inr (.inr (.inr (.inr (fun i => if i < 4 then some (r i) else none)))))), (r 0, .inl (C.1, 40, .inl (fun _ => 0))), (r 1, .inl (C.1, 40, .inl (fun _ => 0))), (r 2, .inl (C.1, 40, .inl (fun _ => 0))), (r 3, .inl (C.1, 40, .inl (fun _ => 0))), (q23, .inl (C.1, 4, .inl (fun j => if j < 4 then -1 else 0)))] t.heap ∧ va_D (va_A [(h0, .inr (1, [.null, .null]))] sz) [(h0, .inr (1, [.ref q14, .ref q23])), (q14, .inl (C.2.2.2.1, 4, .inr (.inr (.inr (.inr (fun i => if i < 4 then some (r i) else none)))))), (r 0, .inl (C.1, 40, .inl (fun _ => 0))), (r 1, .inl (C.1, 40, .inl (fun _ => 0))), (r 2, .inl (C.1, 40, .inl (fun _ => 0))), (r 3, .inl (C.1, 40, .inl (fun _ => 0))), (q23, .inl (C.1, 4, .inl (fun j => if j < 4 then -1 else 0)))]) (va_A [(h0, .inr (1, [.null, .null]))] sz)) 6 168 (va_A [(h0, .inr (1, [.null, .null]))] sz) := by
  refine Met.ofW (cc := cX1_init) (maxL := 3) (ret := none) (by decide) rfl ?_
  intro p e s m args below meth c s₁ B hml hv
  obtain ⟨rfl, hsz, hP, hK, hD0⟩ := hv
  have hx := B.exec
  have hb := B.bytes
  have hr := B.returns
  have hts := atoms_spec (ws := wsX1_init) B.pre
  have hown : s.vm.findClass RX1 = some m.cls := findClass_of_methodNamed B.named
  have hlocks := B.notSynchronized
  have hin : meth.name = "<init>" := (name_of_methodNamed B.named B.method).1
  subst hsz
  have hD := hD0.self (sz := s.heap.size)
  generalize hAe : va_A [(h0, .inr (1, [.null, .null]))] s.heap.size = A at hD ⊢
  have hA : ∀ q : Nat, s.heap.size ≤ q → A q := fun q h => by rw [← hAe]; exact Or.inr h
  have hS : va_S A s.heap s.heap [] := va_S.rf
  have hP : va_P D vwCl [(h0, .inr (1, [.null, .null]))] s.heap := hP
  have hl := lv_entry ([.ref h0, .int 4]) (n := 3) (Nat.le_of_ble_eq_true rfl)
  rw [lg_entry_eq]
  generalize (lg_sl ([.ref h0, .int 4]) ++ List.replicate (3 - (lg_sl ([.ref h0, .int 4])).length) Slot.unset).toArray = ls at hl ⊢
  have hl : lv_has ls 3 [(0, .ref h0), (1, .int 4)] := hl
  refine lv_aload_n hx hb dX1_init_0 rfl (lv_at hl 0 rfl) ?_
  refine W.objInit hx hb hown (hts (.methodLink RX1 3 objectInit) (by decide +kernel)) (hts (.instanceMethod objectInit) (by decide +kernel)) (hts _ (List.mem_of_getElem? (i := 3) rfl)) rfl (by rw [hml]; exact hl.1) rfl dX1_init_1 (Nat.le_of_ble_eq_true rfl) (Nat.le_of_ble_eq_true rfl) ?_
  refine W.eq (g2 := F0 m 4 ls []) rfl ?_
  refine lv_iload_n hx hb dX1_init_4 rfl (lv_at hl 1 rfl) ?_
  refine lv_iconst (v := 0) hx hb dX1_init_5 (by decide) ?_
  refine va_mmax hx hb (by rw [hml]; exact hl.1.symm) hown (hts (.methodLink RX1 9 Lib.Math.max.name) (by decide +kernel)) (hts (.static Lib.Math.max.name) (by decide +kernel)) (hts (.initialized "java/lang/Math") (by decide +kernel)) (hts _ (List.mem_of_getElem? (i := 7) rfl)) (Nat.le_of_ble_eq_true rfl) (Nat.le_of_ble_eq_true rfl) (Nat.zero_le _) (Nat.zero_le _) dX1_init_6 ?_
  rw [show (if (4 : Int32) < 0 then (0 : Int32) else 4) = 4 from by decide]
  refine lv_istore_n (lv' := [(2, .int 4), (0, .ref h0), (1, .int 4)]) hx hb dX1_init_9 rfl hl (by decide) rfl (fun ls hl => ?_)
  refine lv_aload_n hx hb dX1_init_10 rfl (lv_at hl 1 rfl) ?_
  refine lv_iload_n hx hb dX1_init_11 rfl (lv_at hl 0 rfl) ?_
  refine lv_bipush (v := 40) hx hb dX1_init_12 (by decide) ?_
  refine vn_m (N' := 4) (K' := 40) hx hb hown (hts (.classLink RX1 15 "[[I") (by decide +kernel)) hK.2.2.2 (hts (.arrayClass .int) (by decide +kernel)) hK.1 hP hD hS hA (by decide) (by decide) (by decide) (by decide) (by decide) (by decide) (by decide) (show 0 + (1 + 4) ≤ 6 by decide) (show 0 + (4 + 4 * 40) ≤ 168 by decide) dX1_init_14 (fun q14 r H hP hD hS => ?_)
  have hP : va_P D vwCl [(h0, .inr (1, [.null, .null])), (q14, .inl (C.2.2.2.1, 4, .inr (.inr (.inr (.inr (fun i => if i < 4 then some (r i) else none)))))), (r 0, .inl (C.1, 40, .inl (fun _ => 0))), (r 1, .inl (C.1, 40, .inl (fun _ => 0))), (r 2, .inl (C.1, 40, .inl (fun _ => 0))), (r 3, .inl (C.1, 40, .inl (fun _ => 0)))] H := hP
  have hD : va_D A [(h0, .inr (1, [.null, .null])), (q14, .inl (C.2.2.2.1, 4, .inr (.inr (.inr (.inr (fun i => if i < 4 then some (r i) else none)))))), (r 0, .inl (C.1, 40, .inl (fun _ => 0))), (r 1, .inl (C.1, 40, .inl (fun _ => 0))), (r 2, .inl (C.1, 40, .inl (fun _ => 0))), (r 3, .inl (C.1, 40, .inl (fun _ => 0)))] := hD
  refine W.widen (k := 5) (n := 164) (by omega) (by omega) ?_
  refine va_putF (D := D) (ci := 1) (v := .ref q14) (ty := .array (.array .int)) (C := RX1) (T := TX1) (N := 2) hx hb hts inw_X1_init_1 tyX1 tyX1_ok nmX1 hown hK.1 hP hD hS 0 rfl rfl 0 (by decide) (hts (.fieldLink RX1 17 "WeightedLaws$Shelf" "places" "[[I") (by decide +kernel)) (fun _ h9 => h9) rfl hin rfl (by decide +kernel) rfl rfl (Nat.le_of_ble_eq_true rfl) dX1_init_18 (fun H locs hP hD hS => ?_)
  have hP : va_P D vwCl [(h0, .inr (1, [.ref q14, .null])), (q14, .inl (C.2.2.2.1, 4, .inr (.inr (.inr (.inr (fun i => if i < 4 then some (r i) else none)))))), (r 0, .inl (C.1, 40, .inl (fun _ => 0))), (r 1, .inl (C.1, 40, .inl (fun _ => 0))), (r 2, .inl (C.1, 40, .inl (fun _ => 0))), (r 3, .inl (C.1, 40, .inl (fun _ => 0)))] H := hP
  have hD : va_D A [(h0, .inr (1, [.ref q14, .null])), (q14, .inl (C.2.2.2.1, 4, .inr (.inr (.inr (.inr (fun i => if i < 4 then some (r i) else none)))))), (r 0, .inl (C.1, 40, .inl (fun _ => 0))), (r 1, .inl (C.1, 40, .inl (fun _ => 0))), (r 2, .inl (C.1, 40, .inl (fun _ => 0))), (r 3, .inl (C.1, 40, .inl (fun _ => 0)))] := hD
  refine lv_aload_n hx hb dX1_init_21 rfl (lv_at hl 1 rfl) ?_
  refine lv_iload_n hx hb dX1_init_22 rfl (lv_at hl 0 rfl) ?_
  refine vn_i (N' := 4) hx hb (hts (.arrayClass .int) (by decide +kernel)) hK.1 hP hD hS hA (by decide) (by decide) (by decide) (show 5 + 1 ≤ 6 by decide) (show 164 + 4 ≤ 168 by decide) dX1_init_23 (fun q23 H hP hD hS => ?_)
  have hP : va_P D vwCl [(h0, .inr (1, [.ref q14, .null])), (q14, .inl (C.2.2.2.1, 4, .inr (.inr (.inr (.inr (fun i => if i < 4 then some (r i) else none)))))), (r 0, .inl (C.1, 40, .inl (fun _ => 0))), (r 1, .inl (C.1, 40, .inl (fun _ => 0))), (r 2, .inl (C.1, 40, .inl (fun _ => 0))), (r 3, .inl (C.1, 40, .inl (fun _ => 0))), (q23, .inl (C.1, 4, .inl (fun _ => 0)))] H := hP
  have hD : va_D A [(h0, .inr (1, [.ref q14, .null])), (q14, .inl (C.2.2.2.1, 4, .inr (.inr (.inr (.inr (fun i => if i < 4 then some (r i) else none)))))), (r 0, .inl (C.1, 40, .inl (fun _ => 0))), (r 1, .inl (C.1, 40, .inl (fun _ => 0))), (r 2, .inl (C.1, 40, .inl (fun _ => 0))), (r 3, .inl (C.1, 40, .inl (fun _ => 0))), (q23, .inl (C.1, 4, .inl (fun _ => 0)))] := hD
  refine W.widen (k := 6) (n := 168) (by omega) (by omega) ?_
  refine va_putF (D := D) (ci := 1) (v := .ref q23) (ty := .array .int) (C := RX1) (T := TX1) (N := 2) hx hb hts inw_X1_init_1 tyX1 tyX1_ok nmX1 hown hK.1 hP hD hS 0 rfl rfl 1 (by decide) (hts (.fieldLink RX1 22 "WeightedLaws$Shelf" "sizes" "[I") (by decide +kernel)) (fun _ h9 => h9) rfl hin rfl (by decide +kernel) rfl rfl (Nat.le_of_ble_eq_true rfl) dX1_init_25 (fun H locs hP hD hS => ?_)
  have hP : va_P D vwCl [(h0, .inr (1, [.ref q14, .ref q23])), (q14, .inl (C.2.2.2.1, 4, .inr (.inr (.inr (.inr (fun i => if i < 4 then some (r i) else none)))))), (r 0, .inl (C.1, 40, .inl (fun _ => 0))), (r 1, .inl (C.1, 40, .inl (fun _ => 0))), (r 2, .inl (C.1, 40, .inl (fun _ => 0))), (r 3, .inl (C.1, 40, .inl (fun _ => 0))), (q23, .inl (C.1, 4, .inl (fun _ => 0)))] H := hP
  have hD : va_D A [(h0, .inr (1, [.ref q14, .ref q23])), (q14, .inl (C.2.2.2.1, 4, .inr (.inr (.inr (.inr (fun i => if i < 4 then some (r i) else none)))))), (r 0, .inl (C.1, 40, .inl (fun _ => 0))), (r 1, .inl (C.1, 40, .inl (fun _ => 0))), (r 2, .inl (C.1, 40, .inl (fun _ => 0))), (r 3, .inl (C.1, 40, .inl (fun _ => 0))), (q23, .inl (C.1, 4, .inl (fun _ => 0)))] := hD
  refine lv_aload_n hx hb dX1_init_28 rfl (lv_at hl 1 rfl) ?_
  refine va_get (ci := 1) (C := RX1) (T := TX1) (N := 2) hx hb hts inw_X1_init_1 hown hK.1 hP 0 rfl rfl 1 (by decide) (hts (.fieldLink RX1 22 "WeightedLaws$Shelf" "sizes" "[I") (by decide +kernel)) (fun _ h9 => h9) rfl dX1_init_29 ?_
  refine lv_iconst (v := -1) hx hb dX1_init_32 (by decide) ?_
  have hPc := hP.sub (ws' := [(q23, .inl (C.1, 4, .inl (fun _ => 0)))]) [6] rfl
  have hDc := hD.sub (ws' := [(q23, .inl (C.1, 4, .inl (fun _ => 0)))]) [6] (by decide) rfl
  have hFc := va_free (wc := [(q23, .inl (C.1, 4, .inl (fun _ => 0)))]) hD hS hA [6] rfl
  refine va_callv (va_runS (As := [.ref q23, .int (-1)]) (rest := []) ⟨hx, hb, hml, hown, hts⟩ (k_fill l D C 4 (by decide) (-1) q23 H.size) (va_cwS 2 hts gX1_init_J7_fill_53178 rfl rfl rfl (by decide +kernel) ⟨(Nat.le_of_ble_eq_true rfl), (Nat.le_of_ble_eq_true rfl)⟩) ⟨fun a U g mk q => by obtain ⟨q0, q1, qP, qK, qD⟩ := q; exact ⟨q0, q1, qP, KK_bl qK, qD⟩, fun U hU hW => ⟨rfl, by rw [hU], by rw [hU]; exact hPc, KK_wm hW hK, hDc.weaken (fun _ _ _ _ => trivial)⟩⟩ rfl rfl hl.1 rfl (lv_room (Nat.le_of_ble_eq_true rfl)) dX1_init_33 ⟨(show 6 + 0 ≤ 6 by decide), (show 168 + 0 ≤ 168 by decide)⟩) hS (fun q _ h => hFc q h) hFc (fun u t H1 locs ht hvm h5 hB hz1 hk1 hS => ?_)
  obtain ⟨hP1, hD1⟩ := hB
  rw [ht] at hP1
  obtain ⟨hP, hD⟩ := va_join (wr := [(h0, .inr (1, [.ref q14, .ref q23])), (q14, .inl (C.2.2.2.1, 4, .inr (.inr (.inr (.inr (fun i => if i < 4 then some (r i) else none)))))), (r 0, .inl (C.1, 40, .inl (fun _ => 0))), (r 1, .inl (C.1, 40, .inl (fun _ => 0))), (r 2, .inl (C.1, 40, .inl (fun _ => 0))), (r 3, .inl (C.1, 40, .inl (fun _ => 0)))]) (w1 := [(q23, .inl (C.1, 4, .inl (fun j => if j < 4 then -1 else 0)))]) hP hD [6] [0, 1, 2, 3, 4, 5] rfl rfl (by decide) (by decide) hk1 hFc hP1 hD1
  generalize H1 = H at hP hS ⊢
  have hP : va_P D vwCl [(h0, .inr (1, [.ref q14, .ref q23])), (q14, .inl (C.2.2.2.1, 4, .inr (.inr (.inr (.inr (fun i => if i < 4 then some (r i) else none)))))), (r 0, .inl (C.1, 40, .inl (fun _ => 0))), (r 1, .inl (C.1, 40, .inl (fun _ => 0))), (r 2, .inl (C.1, 40, .inl (fun _ => 0))), (r 3, .inl (C.1, 40, .inl (fun _ => 0))), (q23, .inl (C.1, 4, .inl (fun j => if j < 4 then -1 else 0)))] H := hP
  have hD : va_D A [(h0, .inr (1, [.ref q14, .ref q23])), (q14, .inl (C.2.2.2.1, 4, .inr (.inr (.inr (.inr (fun i => if i < 4 then some (r i) else none)))))), (r 0, .inl (C.1, 40, .inl (fun _ => 0))), (r 1, .inl (C.1, 40, .inl (fun _ => 0))), (r 2, .inl (C.1, 40, .inl (fun _ => 0))), (r 3, .inl (C.1, 40, .inl (fun _ => 0))), (q23, .inl (C.1, 4, .inl (fun j => if j < 4 then -1 else 0)))] := hD
  refine W.widen (k := 6) (n := 168) (by omega) (by omega) ?_
  exact W.vret hx hb hr (fun t ht hW => ⟨⟨(), rfl, trivial, q14, q23, r, by rw [ht]; exact hP, hD⟩, hS.F ht⟩) hS.2.2 dX1_init_36
