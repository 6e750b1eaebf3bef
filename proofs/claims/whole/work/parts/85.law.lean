set_option maxHeartbeats 4000000 in
set_option maxRecDepth 100000 in
theorem k_Law (l : Launch) (D : va_G) (C : Cls) (h0 sz : Nat) : Met l yX0_init wsX0_init ({ frames := 1, cells := 4, slots := 24, locals := 12 }) (va_Pc [.ref h0] (fun U => U.heap.size = sz ∧ va_P D vwCl [(h0, .inr (0, [.int 0, .int 0, .int 0, .int 0, .int 0, .null, .null, .null, .null]))] U.heap ∧ KK D C U ∧ va_D (fun _ => True) [(h0, .inr (0, [.int 0, .int 0, .int 0, .int 0, .int 0, .null, .null, .null, .null]))])) (va_Qv (fun _ : Unit => True) (fun _ t => ∃ (q32 q40 q48 q56 : Nat), va_P D vwCl [(h0, .inr (0, [.int 0, .int 0, .int 0, .int 0, .int 0, .ref q32, .ref q40, .ref q48, .ref q56])), (q32, .inl (C.1, 6, .inl (fun _ => 0))), (q40, .inl (C.1, 6, .inl (fun _ => 0))), (q48, .inl (C.1, 6, .inl (fun _ => 0))), (q56, .inl (C.2.2.1, 6, .inl (fun _ => 0)))] t.heap ∧ va_D (va_A [(h0, .inr (0, [.int 0, .int 0, .int 0, .int 0, .int 0, .null, .null, .null, .null]))] sz) [(h0, .inr (0, [.int 0, .int 0, .int 0, .int 0, .int 0, .ref q32, .ref q40, .ref q48, .ref q56])), (q32, .inl (C.1, 6, .inl (fun _ => 0))), (q40, .inl (C.1, 6, .inl (fun _ => 0))), (q48, .inl (C.1, 6, .inl (fun _ => 0))), (q56, .inl (C.2.2.1, 6, .inl (fun _ => 0)))]) (va_A [(h0, .inr (0, [.int 0, .int 0, .int 0, .int 0, .int 0, .null, .null, .null, .null]))] sz)) 4 24 (va_A [(h0, .inr (0, [.int 0, .int 0, .int 0, .int 0, .int 0, .null, .null, .null, .null]))] sz) := by
  refine Met.ofW (cc := cX0_init) (maxL := 1) (ret := none) (by decide) rfl ?_
  intro p e s m args below meth c s₁ B hml hv
  obtain ⟨rfl, hsz, hP, hK, hD0⟩ := hv
  have hx := B.exec
  have hb := B.bytes
  have hr := B.returns
  have hts := atoms_spec (ws := wsX0_init) B.pre
  have hown : s.vm.findClass RX0 = some m.cls := findClass_of_methodNamed B.named
  have hlocks := B.notSynchronized
  have hin : meth.name = "<init>" := (name_of_methodNamed B.named B.method).1
  subst hsz
  have hD := hD0.self (sz := s.heap.size)
  generalize hAe : va_A [(h0, .inr (0, [.int 0, .int 0, .int 0, .int 0, .int 0, .null, .null, .null, .null]))] s.heap.size = A at hD ⊢
  have hA : ∀ q : Nat, s.heap.size ≤ q → A q := fun q h => by rw [← hAe]; exact Or.inr h
  have hS : va_S A s.heap s.heap [] := va_S.rf
  have hP : va_P D vwCl [(h0, .inr (0, [.int 0, .int 0, .int 0, .int 0, .int 0, .null, .null, .null, .null]))] s.heap := hP
  have hl := lv_entry ([.ref h0]) (n := 1) (Nat.le_of_ble_eq_true rfl)
  rw [lg_entry_eq]
  generalize (lg_sl ([.ref h0]) ++ List.replicate (1 - (lg_sl ([.ref h0])).length) Slot.unset).toArray = ls at hl ⊢
  have hl : lv_has ls 1 [(0, .ref h0)] := hl
  refine lv_aload_n hx hb dX0_init_0 rfl (lv_at hl 0 rfl) ?_
  refine W.objInit hx hb hown (hts (.methodLink RX0 3 objectInit) (by decide +kernel)) (hts (.instanceMethod objectInit) (by decide +kernel)) (hts _ (List.mem_of_getElem? (i := 3) rfl)) rfl (by rw [hml]; exact hl.1) rfl dX0_init_1 (Nat.le_of_ble_eq_true rfl) (Nat.le_of_ble_eq_true rfl) ?_
  refine W.eq (g2 := F0 m 4 ls []) rfl ?_
  refine lv_aload_n hx hb dX0_init_4 rfl (lv_at hl 0 rfl) ?_
  refine lv_iconst (v := 0) hx hb dX0_init_5 (by decide) ?_
  refine va_put (D := D) (ci := 0) (v := .int 0) (ty := .boolean) (C := RX0) (T := TX0) (N := 9) hx hb hts inw_X0_init_0 tyX0 tyX0_ok nmX0 hown hK.1 hP hD hS 0 rfl rfl 0 (by decide) (hts (.fieldLink RX0 9 "WeightedLaws$Law" "there" "Z") (by decide +kernel)) (fun _ h9 => h9) rfl (by decide +kernel) (by decide +kernel) (by decide +kernel) (Nat.le_of_ble_eq_true rfl) dX0_init_6 (fun H locs hP hD hS => ?_)
  have hP : va_P D vwCl [(h0, .inr (0, [.int 0, .int 0, .int 0, .int 0, .int 0, .null, .null, .null, .null]))] H := hP
  have hD : va_D A [(h0, .inr (0, [.int 0, .int 0, .int 0, .int 0, .int 0, .null, .null, .null, .null]))] := hD
  refine lv_aload_n hx hb dX0_init_9 rfl (lv_at hl 0 rfl) ?_
  refine lv_iconst (v := 0) hx hb dX0_init_10 (by decide) ?_
  refine va_put (D := D) (ci := 0) (v := .int 0) (ty := .int) (C := RX0) (T := TX0) (N := 9) hx hb hts inw_X0_init_0 tyX0 tyX0_ok nmX0 hown hK.1 hP hD hS 0 rfl rfl 1 (by decide) (hts (.fieldLink RX0 15 "WeightedLaws$Law" "kind" "I") (by decide +kernel)) (fun _ h9 => h9) rfl (by decide +kernel) rfl rfl (Nat.le_of_ble_eq_true rfl) dX0_init_11 (fun H locs hP hD hS => ?_)
  have hP : va_P D vwCl [(h0, .inr (0, [.int 0, .int 0, .int 0, .int 0, .int 0, .null, .null, .null, .null]))] H := hP
  have hD : va_D A [(h0, .inr (0, [.int 0, .int 0, .int 0, .int 0, .int 0, .null, .null, .null, .null]))] := hD
  refine lv_aload_n hx hb dX0_init_14 rfl (lv_at hl 0 rfl) ?_
  refine lv_iconst (v := 0) hx hb dX0_init_15 (by decide) ?_
  refine va_put (D := D) (ci := 0) (v := .int 0) (ty := .int) (C := RX0) (T := TX0) (N := 9) hx hb hts inw_X0_init_0 tyX0 tyX0_ok nmX0 hown hK.1 hP hD hS 0 rfl rfl 2 (by decide) (hts (.fieldLink RX0 19 "WeightedLaws$Law" "weight" "I") (by decide +kernel)) (fun _ h9 => h9) rfl (by decide +kernel) rfl rfl (Nat.le_of_ble_eq_true rfl) dX0_init_16 (fun H locs hP hD hS => ?_)
  have hP : va_P D vwCl [(h0, .inr (0, [.int 0, .int 0, .int 0, .int 0, .int 0, .null, .null, .null, .null]))] H := hP
  have hD : va_D A [(h0, .inr (0, [.int 0, .int 0, .int 0, .int 0, .int 0, .null, .null, .null, .null]))] := hD
  refine lv_aload_n hx hb dX0_init_19 rfl (lv_at hl 0 rfl) ?_
  refine lv_iconst (v := 0) hx hb dX0_init_20 (by decide) ?_
  refine va_put (D := D) (ci := 0) (v := .int 0) (ty := .int) (C := RX0) (T := TX0) (N := 9) hx hb hts inw_X0_init_0 tyX0 tyX0_ok nmX0 hown hK.1 hP hD hS 0 rfl rfl 3 (by decide) (hts (.fieldLink RX0 22 "WeightedLaws$Law" "least" "I") (by decide +kernel)) (fun _ h9 => h9) rfl (by decide +kernel) rfl rfl (Nat.le_of_ble_eq_true rfl) dX0_init_21 (fun H locs hP hD hS => ?_)
  have hP : va_P D vwCl [(h0, .inr (0, [.int 0, .int 0, .int 0, .int 0, .int 0, .null, .null, .null, .null]))] H := hP
  have hD : va_D A [(h0, .inr (0, [.int 0, .int 0, .int 0, .int 0, .int 0, .null, .null, .null, .null]))] := hD
  refine lv_aload_n hx hb dX0_init_24 rfl (lv_at hl 0 rfl) ?_
  refine lv_iconst (v := 0) hx hb dX0_init_25 (by decide) ?_
  refine va_put (D := D) (ci := 0) (v := .int 0) (ty := .int) (C := RX0) (T := TX0) (N := 9) hx hb hts inw_X0_init_0 tyX0 tyX0_ok nmX0 hown hK.1 hP hD hS 0 rfl rfl 4 (by decide) (hts (.fieldLink RX0 25 "WeightedLaws$Law" "parts" "I") (by decide +kernel)) (fun _ h9 => h9) rfl (by decide +kernel) rfl rfl (Nat.le_of_ble_eq_true rfl) dX0_init_26 (fun H locs hP hD hS => ?_)
  have hP : va_P D vwCl [(h0, .inr (0, [.int 0, .int 0, .int 0, .int 0, .int 0, .null, .null, .null, .null]))] H := hP
  have hD : va_D A [(h0, .inr (0, [.int 0, .int 0, .int 0, .int 0, .int 0, .null, .null, .null, .null]))] := hD
  refine lv_aload_n hx hb dX0_init_29 rfl (lv_at hl 0 rfl) ?_
  refine lv_bipush (v := 6) hx hb dX0_init_30 (by decide) ?_
  refine vn_i (N' := 6) hx hb (hts (.arrayClass .int) (by decide +kernel)) hK.1 hP hD hS hA (by decide) (by decide) (by decide) (show 0 + 1 ≤ 4 by decide) (show 0 + 6 ≤ 24 by decide) dX0_init_32 (fun q32 H hP hD hS => ?_)
  have hP : va_P D vwCl [(h0, .inr (0, [.int 0, .int 0, .int 0, .int 0, .int 0, .null, .null, .null, .null])), (q32, .inl (C.1, 6, .inl (fun _ => 0)))] H := hP
  have hD : va_D A [(h0, .inr (0, [.int 0, .int 0, .int 0, .int 0, .int 0, .null, .null, .null, .null])), (q32, .inl (C.1, 6, .inl (fun _ => 0)))] := hD
  refine W.widen (k := 1) (n := 6) (by omega) (by omega) ?_
  refine va_putF (D := D) (ci := 0) (v := .ref q32) (ty := .array .int) (C := RX0) (T := TX0) (N := 9) hx hb hts inw_X0_init_0 tyX0 tyX0_ok nmX0 hown hK.1 hP hD hS 0 rfl rfl 5 (by decide) (hts (.fieldLink RX0 28 "WeightedLaws$Law" "bases" "[I") (by decide +kernel)) (fun _ h9 => h9) rfl hin rfl (by decide +kernel) rfl rfl (Nat.le_of_ble_eq_true rfl) dX0_init_34 (fun H locs hP hD hS => ?_)
  have hP : va_P D vwCl [(h0, .inr (0, [.int 0, .int 0, .int 0, .int 0, .int 0, .ref q32, .null, .null, .null])), (q32, .inl (C.1, 6, .inl (fun _ => 0)))] H := hP
  have hD : va_D A [(h0, .inr (0, [.int 0, .int 0, .int 0, .int 0, .int 0, .ref q32, .null, .null, .null])), (q32, .inl (C.1, 6, .inl (fun _ => 0)))] := hD
  refine lv_aload_n hx hb dX0_init_37 rfl (lv_at hl 0 rfl) ?_
  refine lv_bipush (v := 6) hx hb dX0_init_38 (by decide) ?_
  refine vn_i (N' := 6) hx hb (hts (.arrayClass .int) (by decide +kernel)) hK.1 hP hD hS hA (by decide) (by decide) (by decide) (show 1 + 1 ≤ 4 by decide) (show 6 + 6 ≤ 24 by decide) dX0_init_40 (fun q40 H hP hD hS => ?_)
  have hP : va_P D vwCl [(h0, .inr (0, [.int 0, .int 0, .int 0, .int 0, .int 0, .ref q32, .null, .null, .null])), (q32, .inl (C.1, 6, .inl (fun _ => 0))), (q40, .inl (C.1, 6, .inl (fun _ => 0)))] H := hP
  have hD : va_D A [(h0, .inr (0, [.int 0, .int 0, .int 0, .int 0, .int 0, .ref q32, .null, .null, .null])), (q32, .inl (C.1, 6, .inl (fun _ => 0))), (q40, .inl (C.1, 6, .inl (fun _ => 0)))] := hD
  refine W.widen (k := 2) (n := 12) (by omega) (by omega) ?_
  refine va_putF (D := D) (ci := 0) (v := .ref q40) (ty := .array .int) (C := RX0) (T := TX0) (N := 9) hx hb hts inw_X0_init_0 tyX0 tyX0_ok nmX0 hown hK.1 hP hD hS 0 rfl rfl 6 (by decide) (hts (.fieldLink RX0 32 "WeightedLaws$Law" "firsts" "[I") (by decide +kernel)) (fun _ h9 => h9) rfl hin rfl (by decide +kernel) rfl rfl (Nat.le_of_ble_eq_true rfl) dX0_init_42 (fun H locs hP hD hS => ?_)
  have hP : va_P D vwCl [(h0, .inr (0, [.int 0, .int 0, .int 0, .int 0, .int 0, .ref q32, .ref q40, .null, .null])), (q32, .inl (C.1, 6, .inl (fun _ => 0))), (q40, .inl (C.1, 6, .inl (fun _ => 0)))] H := hP
  have hD : va_D A [(h0, .inr (0, [.int 0, .int 0, .int 0, .int 0, .int 0, .ref q32, .ref q40, .null, .null])), (q32, .inl (C.1, 6, .inl (fun _ => 0))), (q40, .inl (C.1, 6, .inl (fun _ => 0)))] := hD
  refine lv_aload_n hx hb dX0_init_45 rfl (lv_at hl 0 rfl) ?_
  refine lv_bipush (v := 6) hx hb dX0_init_46 (by decide) ?_
  refine vn_i (N' := 6) hx hb (hts (.arrayClass .int) (by decide +kernel)) hK.1 hP hD hS hA (by decide) (by decide) (by decide) (show 2 + 1 ≤ 4 by decide) (show 12 + 6 ≤ 24 by decide) dX0_init_48 (fun q48 H hP hD hS => ?_)
  have hP : va_P D vwCl [(h0, .inr (0, [.int 0, .int 0, .int 0, .int 0, .int 0, .ref q32, .ref q40, .null, .null])), (q32, .inl (C.1, 6, .inl (fun _ => 0))), (q40, .inl (C.1, 6, .inl (fun _ => 0))), (q48, .inl (C.1, 6, .inl (fun _ => 0)))] H := hP
  have hD : va_D A [(h0, .inr (0, [.int 0, .int 0, .int 0, .int 0, .int 0, .ref q32, .ref q40, .null, .null])), (q32, .inl (C.1, 6, .inl (fun _ => 0))), (q40, .inl (C.1, 6, .inl (fun _ => 0))), (q48, .inl (C.1, 6, .inl (fun _ => 0)))] := hD
  refine W.widen (k := 3) (n := 18) (by omega) (by omega) ?_
  refine va_putF (D := D) (ci := 0) (v := .ref q48) (ty := .array .int) (C := RX0) (T := TX0) (N := 9) hx hb hts inw_X0_init_0 tyX0 tyX0_ok nmX0 hown hK.1 hP hD hS 0 rfl rfl 7 (by decide) (hts (.fieldLink RX0 35 "WeightedLaws$Law" "lasts" "[I") (by decide +kernel)) (fun _ h9 => h9) rfl hin rfl (by decide +kernel) rfl rfl (Nat.le_of_ble_eq_true rfl) dX0_init_50 (fun H locs hP hD hS => ?_)
  have hP : va_P D vwCl [(h0, .inr (0, [.int 0, .int 0, .int 0, .int 0, .int 0, .ref q32, .ref q40, .ref q48, .null])), (q32, .inl (C.1, 6, .inl (fun _ => 0))), (q40, .inl (C.1, 6, .inl (fun _ => 0))), (q48, .inl (C.1, 6, .inl (fun _ => 0)))] H := hP
  have hD : va_D A [(h0, .inr (0, [.int 0, .int 0, .int 0, .int 0, .int 0, .ref q32, .ref q40, .ref q48, .null])), (q32, .inl (C.1, 6, .inl (fun _ => 0))), (q40, .inl (C.1, 6, .inl (fun _ => 0))), (q48, .inl (C.1, 6, .inl (fun _ => 0)))] := hD
  refine lv_aload_n hx hb dX0_init_53 rfl (lv_at hl 0 rfl) ?_
  refine lv_bipush (v := 6) hx hb dX0_init_54 (by decide) ?_
  refine vn_b (N' := 6) hx hb (hts (.arrayClass .boolean) (by decide +kernel)) hK.1 hP hD hS hA (by decide) (by decide) (by decide) (show 3 + 1 ≤ 4 by decide) (show 18 + 6 ≤ 24 by decide) dX0_init_56 (fun q56 H hP hD hS => ?_)
  have hP : va_P D vwCl [(h0, .inr (0, [.int 0, .int 0, .int 0, .int 0, .int 0, .ref q32, .ref q40, .ref q48, .null])), (q32, .inl (C.1, 6, .inl (fun _ => 0))), (q40, .inl (C.1, 6, .inl (fun _ => 0))), (q48, .inl (C.1, 6, .inl (fun _ => 0))), (q56, .inl (C.2.2.1, 6, .inl (fun _ => 0)))] H := hP
  have hD : va_D A [(h0, .inr (0, [.int 0, .int 0, .int 0, .int 0, .int 0, .ref q32, .ref q40, .ref q48, .null])), (q32, .inl (C.1, 6, .inl (fun _ => 0))), (q40, .inl (C.1, 6, .inl (fun _ => 0))), (q48, .inl (C.1, 6, .inl (fun _ => 0))), (q56, .inl (C.2.2.1, 6, .inl (fun _ => 0)))] := hD
  refine W.widen (k := 4) (n := 24) (by omega) (by omega) ?_
  refine va_putF (D := D) (ci := 0) (v := .ref q56) (ty := .array .boolean) (C := RX0) (T := TX0) (N := 9) hx hb hts inw_X0_init_0 tyX0 tyX0_ok nmX0 hown hK.1 hP hD hS 0 rfl rfl 8 (by decide) (hts (.fieldLink RX0 38 "WeightedLaws$Law" "denied" "[Z") (by decide +kernel)) (fun _ h9 => h9) rfl hin rfl (by decide +kernel) rfl rfl (Nat.le_of_ble_eq_true rfl) dX0_init_58 (fun H locs hP hD hS => ?_)
  have hP : va_P D vwCl [(h0, .inr (0, [.int 0, .int 0, .int 0, .int 0, .int 0, .ref q32, .ref q40, .ref q48, .ref q56])), (q32, .inl (C.1, 6, .inl (fun _ => 0))), (q40, .inl (C.1, 6, .inl (fun _ => 0))), (q48, .inl (C.1, 6, .inl (fun _ => 0))), (q56, .inl (C.2.2.1, 6, .inl (fun _ => 0)))] H := hP
  have hD : va_D A [(h0, .inr (0, [.int 0, .int 0, .int 0, .int 0, .int 0, .ref q32, .ref q40, .ref q48, .ref q56])), (q32, .inl (C.1, 6, .inl (fun _ => 0))), (q40, .inl (C.1, 6, .inl (fun _ => 0))), (q48, .inl (C.1, 6, .inl (fun _ => 0))), (q56, .inl (C.2.2.1, 6, .inl (fun _ => 0)))] := hD
  exact W.vret hx hb hr (fun t ht hW => ⟨⟨(), rfl, trivial, q32, q40, q48, q56, by rw [ht]; exact hP, hD⟩, hS.F ht⟩) hS.2.2 dX0_init_61
set_option maxHeartbeats 4000000 in
set_option maxRecDepth 100000 in
theorem k_Worlds (l : Launch) (D : va_G) (C : Cls) (h0 sz : Nat) : Met l yX2_init wsX2_init ({ frames := 1, cells := 5, slots := 4104, locals := 12 }) (va_Pc [.ref h0] (fun U => U.heap.size = sz ∧ va_P D vwCl [(h0, .inr (2, [.int 0, .int 0, .null, .null, .null, .null, .null, .int 0, .int 0, .long 0]))] U.heap ∧ KK D C U ∧ va_D (fun _ => True) [(h0, .inr (2, [.int 0, .int 0, .null, .null, .null, .null, .null, .int 0, .int 0, .long 0]))])) (va_Qv (fun _ : Unit => True) (fun _ t => ∃ (q18 q27 q36 q45 q53 : Nat), va_P D vwCl [(h0, .inr (2, [.int 1, .int 0, .ref q18, .ref q27, .ref q36, .ref q45, .ref q53, .int 0, .int 0, .long 0])), (q18, .inl (C.1, 1024, .inl (fun _ => 0))), (q27, .inl (C.2.1, 1024, .inr (.inl (fun _ => 0)))), (q36, .inl (C.1, 1024, .inl (fun _ => 0))), (q45, .inl (C.2.1, 1024, .inr (.inl (fun _ => 0)))), (q53, .inl (C.1, 8, .inl (fun _ => 0)))] t.heap ∧ va_D (va_A [(h0, .inr (2, [.int 0, .int 0, .null, .null, .null, .null, .null, .int 0, .int 0, .long 0]))] sz) [(h0, .inr (2, [.int 1, .int 0, .ref q18, .ref q27, .ref q36, .ref q45, .ref q53, .int 0, .int 0, .long 0])), (q18, .inl (C.1, 1024, .inl (fun _ => 0))), (q27, .inl (C.2.1, 1024, .inr (.inl (fun _ => 0)))), (q36, .inl (C.1, 1024, .inl (fun _ => 0))), (q45, .inl (C.2.1, 1024, .inr (.inl (fun _ => 0)))), (q53, .inl (C.1, 8, .inl (fun _ => 0)))]) (va_A [(h0, .inr (2, [.int 0, .int 0, .null, .null, .null, .null, .null, .int 0, .int 0, .long 0]))] sz)) 5 4104 (va_A [(h0, .inr (2, [.int 0, .int 0, .null, .null, .null, .null, .null, .int 0, .int 0, .long 0]))] sz) := by
  refine Met.ofW (cc := cX2_init) (maxL := 1) (ret := none) (by decide) rfl ?_
  intro p e s m args below meth c s₁ B hml hv
  obtain ⟨rfl, hsz, hP, hK, hD0⟩ := hv
  have hx := B.exec
  have hb := B.bytes
  have hr := B.returns
  have hts := atoms_spec (ws := wsX2_init) B.pre
  have hown : s.vm.findClass RX2 = some m.cls := findClass_of_methodNamed B.named
  have hlocks := B.notSynchronized
  have hin : meth.name = "<init>" := (name_of_methodNamed B.named B.method).1
  subst hsz
  have hD := hD0.self (sz := s.heap.size)
  generalize hAe : va_A [(h0, .inr (2, [.int 0, .int 0, .null, .null, .null, .null, .null, .int 0, .int 0, .long 0]))] s.heap.size = A at hD ⊢
  have hA : ∀ q : Nat, s.heap.size ≤ q → A q := fun q h => by rw [← hAe]; exact Or.inr h
  have hS : va_S A s.heap s.heap [] := va_S.rf
  have hP : va_P D vwCl [(h0, .inr (2, [.int 0, .int 0, .null, .null, .null, .null, .null, .int 0, .int 0, .long 0]))] s.heap := hP
  have hl := lv_entry ([.ref h0]) (n := 1) (Nat.le_of_ble_eq_true rfl)
  rw [lg_entry_eq]
  generalize (lg_sl ([.ref h0]) ++ List.replicate (1 - (lg_sl ([.ref h0])).length) Slot.unset).toArray = ls at hl ⊢
  have hl : lv_has ls 1 [(0, .ref h0)] := hl
  refine lv_aload_n hx hb dX2_init_0 rfl (lv_at hl 0 rfl) ?_
  refine W.objInit hx hb hown (hts (.methodLink RX2 3 objectInit) (by decide +kernel)) (hts (.instanceMethod objectInit) (by decide +kernel)) (hts _ (List.mem_of_getElem? (i := 3) rfl)) rfl (by rw [hml]; exact hl.1) rfl dX2_init_1 (Nat.le_of_ble_eq_true rfl) (Nat.le_of_ble_eq_true rfl) ?_
  refine W.eq (g2 := F0 m 4 ls []) rfl ?_
  refine lv_aload_n hx hb dX2_init_4 rfl (lv_at hl 0 rfl) ?_
  refine lv_iconst (v := 1) hx hb dX2_init_5 (by decide) ?_
  refine va_put (D := D) (ci := 2) (v := .int 1) (ty := .int) (C := RX2) (T := TX2) (N := 10) hx hb hts inw_X2_init_2 tyX2 tyX2_ok nmX2 hown hK.1 hP hD hS 0 rfl rfl 0 (by decide) (hts (.fieldLink RX2 9 "WeightedLaws$Worlds" "number" "I") (by decide +kernel)) (fun _ h9 => h9) rfl (by decide +kernel) rfl rfl (Nat.le_of_ble_eq_true rfl) dX2_init_6 (fun H locs hP hD hS => ?_)
  have hP : va_P D vwCl [(h0, .inr (2, [.int 1, .int 0, .null, .null, .null, .null, .null, .int 0, .int 0, .long 0]))] H := hP
  have hD : va_D A [(h0, .inr (2, [.int 1, .int 0, .null, .null, .null, .null, .null, .int 0, .int 0, .long 0]))] := hD
  refine lv_aload_n hx hb dX2_init_9 rfl (lv_at hl 0 rfl) ?_
  refine lv_iconst (v := 0) hx hb dX2_init_10 (by decide) ?_
  refine va_put (D := D) (ci := 2) (v := .int 0) (ty := .int) (C := RX2) (T := TX2) (N := 10) hx hb hts inw_X2_init_2 tyX2 tyX2_ok nmX2 hown hK.1 hP hD hS 0 rfl rfl 1 (by decide) (hts (.fieldLink RX2 15 "WeightedLaws$Worlds" "open" "I") (by decide +kernel)) (fun _ h9 => h9) rfl (by decide +kernel) rfl rfl (Nat.le_of_ble_eq_true rfl) dX2_init_11 (fun H locs hP hD hS => ?_)
  have hP : va_P D vwCl [(h0, .inr (2, [.int 1, .int 0, .null, .null, .null, .null, .null, .int 0, .int 0, .long 0]))] H := hP
  have hD : va_D A [(h0, .inr (2, [.int 1, .int 0, .null, .null, .null, .null, .null, .int 0, .int 0, .long 0]))] := hD
  refine lv_aload_n hx hb dX2_init_14 rfl (lv_at hl 0 rfl) ?_
  refine lv_sipush (v := 1024) hx hb dX2_init_15 (by decide) ?_
  refine vn_i (N' := 1024) hx hb (hts (.arrayClass .int) (by decide +kernel)) hK.1 hP hD hS hA (by decide) (by decide) (by decide) (show 0 + 1 ≤ 5 by decide) (show 0 + 1024 ≤ 4104 by decide) dX2_init_18 (fun q18 H hP hD hS => ?_)
  have hP : va_P D vwCl [(h0, .inr (2, [.int 1, .int 0, .null, .null, .null, .null, .null, .int 0, .int 0, .long 0])), (q18, .inl (C.1, 1024, .inl (fun _ => 0)))] H := hP
  have hD : va_D A [(h0, .inr (2, [.int 1, .int 0, .null, .null, .null, .null, .null, .int 0, .int 0, .long 0])), (q18, .inl (C.1, 1024, .inl (fun _ => 0)))] := hD
  refine W.widen (k := 1) (n := 1024) (by omega) (by omega) ?_
  refine va_putF (D := D) (ci := 2) (v := .ref q18) (ty := .array .int) (C := RX2) (T := TX2) (N := 10) hx hb hts inw_X2_init_2 tyX2 tyX2_ok nmX2 hown hK.1 hP hD hS 0 rfl rfl 2 (by decide) (hts (.fieldLink RX2 18 "WeightedLaws$Worlds" "truths" "[I") (by decide +kernel)) (fun _ h9 => h9) rfl hin rfl (by decide +kernel) rfl rfl (Nat.le_of_ble_eq_true rfl) dX2_init_20 (fun H locs hP hD hS => ?_)
  have hP : va_P D vwCl [(h0, .inr (2, [.int 1, .int 0, .ref q18, .null, .null, .null, .null, .int 0, .int 0, .long 0])), (q18, .inl (C.1, 1024, .inl (fun _ => 0)))] H := hP
  have hD : va_D A [(h0, .inr (2, [.int 1, .int 0, .ref q18, .null, .null, .null, .null, .int 0, .int 0, .long 0])), (q18, .inl (C.1, 1024, .inl (fun _ => 0)))] := hD
  refine lv_aload_n hx hb dX2_init_23 rfl (lv_at hl 0 rfl) ?_
  refine lv_sipush (v := 1024) hx hb dX2_init_24 (by decide) ?_
  refine vn_l (N' := 1024) hx hb (hts (.arrayClass .long) (by decide +kernel)) hK.1 hP hD hS hA (by decide) (by decide) (by decide) (show 1 + 1 ≤ 5 by decide) (show 1024 + 1024 ≤ 4104 by decide) dX2_init_27 (fun q27 H hP hD hS => ?_)
  have hP : va_P D vwCl [(h0, .inr (2, [.int 1, .int 0, .ref q18, .null, .null, .null, .null, .int 0, .int 0, .long 0])), (q18, .inl (C.1, 1024, .inl (fun _ => 0))), (q27, .inl (C.2.1, 1024, .inr (.inl (fun _ => 0))))] H := hP
  have hD : va_D A [(h0, .inr (2, [.int 1, .int 0, .ref q18, .null, .null, .null, .null, .int 0, .int 0, .long 0])), (q18, .inl (C.1, 1024, .inl (fun _ => 0))), (q27, .inl (C.2.1, 1024, .inr (.inl (fun _ => 0))))] := hD
  refine W.widen (k := 2) (n := 2048) (by omega) (by omega) ?_
  refine va_putF (D := D) (ci := 2) (v := .ref q27) (ty := .array .long) (C := RX2) (T := TX2) (N := 10) hx hb hts inw_X2_init_2 tyX2 tyX2_ok nmX2 hown hK.1 hP hD hS 0 rfl rfl 3 (by decide) (hts (.fieldLink RX2 22 "WeightedLaws$Worlds" "breaks" "[J") (by decide +kernel)) (fun _ h9 => h9) rfl hin rfl (by decide +kernel) rfl rfl (Nat.le_of_ble_eq_true rfl) dX2_init_29 (fun H locs hP hD hS => ?_)
  have hP : va_P D vwCl [(h0, .inr (2, [.int 1, .int 0, .ref q18, .ref q27, .null, .null, .null, .int 0, .int 0, .long 0])), (q18, .inl (C.1, 1024, .inl (fun _ => 0))), (q27, .inl (C.2.1, 1024, .inr (.inl (fun _ => 0))))] H := hP
  have hD : va_D A [(h0, .inr (2, [.int 1, .int 0, .ref q18, .ref q27, .null, .null, .null, .int 0, .int 0, .long 0])), (q18, .inl (C.1, 1024, .inl (fun _ => 0))), (q27, .inl (C.2.1, 1024, .inr (.inl (fun _ => 0))))] := hD
  refine lv_aload_n hx hb dX2_init_32 rfl (lv_at hl 0 rfl) ?_
  refine lv_sipush (v := 1024) hx hb dX2_init_33 (by decide) ?_
  refine vn_i (N' := 1024) hx hb (hts (.arrayClass .int) (by decide +kernel)) hK.1 hP hD hS hA (by decide) (by decide) (by decide) (show 2 + 1 ≤ 5 by decide) (show 2048 + 1024 ≤ 4104 by decide) dX2_init_36 (fun q36 H hP hD hS => ?_)
  have hP : va_P D vwCl [(h0, .inr (2, [.int 1, .int 0, .ref q18, .ref q27, .null, .null, .null, .int 0, .int 0, .long 0])), (q18, .inl (C.1, 1024, .inl (fun _ => 0))), (q27, .inl (C.2.1, 1024, .inr (.inl (fun _ => 0)))), (q36, .inl (C.1, 1024, .inl (fun _ => 0)))] H := hP
  have hD : va_D A [(h0, .inr (2, [.int 1, .int 0, .ref q18, .ref q27, .null, .null, .null, .int 0, .int 0, .long 0])), (q18, .inl (C.1, 1024, .inl (fun _ => 0))), (q27, .inl (C.2.1, 1024, .inr (.inl (fun _ => 0)))), (q36, .inl (C.1, 1024, .inl (fun _ => 0)))] := hD
  refine W.widen (k := 3) (n := 3072) (by omega) (by omega) ?_
  refine va_putF (D := D) (ci := 2) (v := .ref q36) (ty := .array .int) (C := RX2) (T := TX2) (N := 10) hx hb hts inw_X2_init_2 tyX2 tyX2_ok nmX2 hown hK.1 hP hD hS 0 rfl rfl 4 (by decide) (hts (.fieldLink RX2 26 "WeightedLaws$Worlds" "costs" "[I") (by decide +kernel)) (fun _ h9 => h9) rfl hin rfl (by decide +kernel) rfl rfl (Nat.le_of_ble_eq_true rfl) dX2_init_38 (fun H locs hP hD hS => ?_)
  have hP : va_P D vwCl [(h0, .inr (2, [.int 1, .int 0, .ref q18, .ref q27, .ref q36, .null, .null, .int 0, .int 0, .long 0])), (q18, .inl (C.1, 1024, .inl (fun _ => 0))), (q27, .inl (C.2.1, 1024, .inr (.inl (fun _ => 0)))), (q36, .inl (C.1, 1024, .inl (fun _ => 0)))] H := hP
  have hD : va_D A [(h0, .inr (2, [.int 1, .int 0, .ref q18, .ref q27, .ref q36, .null, .null, .int 0, .int 0, .long 0])), (q18, .inl (C.1, 1024, .inl (fun _ => 0))), (q27, .inl (C.2.1, 1024, .inr (.inl (fun _ => 0)))), (q36, .inl (C.1, 1024, .inl (fun _ => 0)))] := hD
  refine lv_aload_n hx hb dX2_init_41 rfl (lv_at hl 0 rfl) ?_
  refine lv_sipush (v := 1024) hx hb dX2_init_42 (by decide) ?_
  refine vn_l (N' := 1024) hx hb (hts (.arrayClass .long) (by decide +kernel)) hK.1 hP hD hS hA (by decide) (by decide) (by decide) (show 3 + 1 ≤ 5 by decide) (show 3072 + 1024 ≤ 4104 by decide) dX2_init_45 (fun q45 H hP hD hS => ?_)
  have hP : va_P D vwCl [(h0, .inr (2, [.int 1, .int 0, .ref q18, .ref q27, .ref q36, .null, .null, .int 0, .int 0, .long 0])), (q18, .inl (C.1, 1024, .inl (fun _ => 0))), (q27, .inl (C.2.1, 1024, .inr (.inl (fun _ => 0)))), (q36, .inl (C.1, 1024, .inl (fun _ => 0))), (q45, .inl (C.2.1, 1024, .inr (.inl (fun _ => 0))))] H := hP
  have hD : va_D A [(h0, .inr (2, [.int 1, .int 0, .ref q18, .ref q27, .ref q36, .null, .null, .int 0, .int 0, .long 0])), (q18, .inl (C.1, 1024, .inl (fun _ => 0))), (q27, .inl (C.2.1, 1024, .inr (.inl (fun _ => 0)))), (q36, .inl (C.1, 1024, .inl (fun _ => 0))), (q45, .inl (C.2.1, 1024, .inr (.inl (fun _ => 0))))] := hD
  refine W.widen (k := 4) (n := 4096) (by omega) (by omega) ?_
  refine va_putF (D := D) (ci := 2) (v := .ref q45) (ty := .array .long) (C := RX2) (T := TX2) (N := 10) hx hb hts inw_X2_init_2 tyX2 tyX2_ok nmX2 hown hK.1 hP hD hS 0 rfl rfl 5 (by decide) (hts (.fieldLink RX2 29 "WeightedLaws$Worlds" "shares" "[J") (by decide +kernel)) (fun _ h9 => h9) rfl hin rfl (by decide +kernel) rfl rfl (Nat.le_of_ble_eq_true rfl) dX2_init_47 (fun H locs hP hD hS => ?_)
  have hP : va_P D vwCl [(h0, .inr (2, [.int 1, .int 0, .ref q18, .ref q27, .ref q36, .ref q45, .null, .int 0, .int 0, .long 0])), (q18, .inl (C.1, 1024, .inl (fun _ => 0))), (q27, .inl (C.2.1, 1024, .inr (.inl (fun _ => 0)))), (q36, .inl (C.1, 1024, .inl (fun _ => 0))), (q45, .inl (C.2.1, 1024, .inr (.inl (fun _ => 0))))] H := hP
  have hD : va_D A [(h0, .inr (2, [.int 1, .int 0, .ref q18, .ref q27, .ref q36, .ref q45, .null, .int 0, .int 0, .long 0])), (q18, .inl (C.1, 1024, .inl (fun _ => 0))), (q27, .inl (C.2.1, 1024, .inr (.inl (fun _ => 0)))), (q36, .inl (C.1, 1024, .inl (fun _ => 0))), (q45, .inl (C.2.1, 1024, .inr (.inl (fun _ => 0))))] := hD
  refine lv_aload_n hx hb dX2_init_50 rfl (lv_at hl 0 rfl) ?_
  refine lv_bipush (v := 8) hx hb dX2_init_51 (by decide) ?_
  refine vn_i (N' := 8) hx hb (hts (.arrayClass .int) (by decide +kernel)) hK.1 hP hD hS hA (by decide) (by decide) (by decide) (show 4 + 1 ≤ 5 by decide) (show 4096 + 8 ≤ 4104 by decide) dX2_init_53 (fun q53 H hP hD hS => ?_)
  have hP : va_P D vwCl [(h0, .inr (2, [.int 1, .int 0, .ref q18, .ref q27, .ref q36, .ref q45, .null, .int 0, .int 0, .long 0])), (q18, .inl (C.1, 1024, .inl (fun _ => 0))), (q27, .inl (C.2.1, 1024, .inr (.inl (fun _ => 0)))), (q36, .inl (C.1, 1024, .inl (fun _ => 0))), (q45, .inl (C.2.1, 1024, .inr (.inl (fun _ => 0)))), (q53, .inl (C.1, 8, .inl (fun _ => 0)))] H := hP
  have hD : va_D A [(h0, .inr (2, [.int 1, .int 0, .ref q18, .ref q27, .ref q36, .ref q45, .null, .int 0, .int 0, .long 0])), (q18, .inl (C.1, 1024, .inl (fun _ => 0))), (q27, .inl (C.2.1, 1024, .inr (.inl (fun _ => 0)))), (q36, .inl (C.1, 1024, .inl (fun _ => 0))), (q45, .inl (C.2.1, 1024, .inr (.inl (fun _ => 0)))), (q53, .inl (C.1, 8, .inl (fun _ => 0)))] := hD
  refine W.widen (k := 5) (n := 4104) (by omega) (by omega) ?_
  refine va_putF (D := D) (ci := 2) (v := .ref q53) (ty := .array .int) (C := RX2) (T := TX2) (N := 10) hx hb hts inw_X2_init_2 tyX2 tyX2_ok nmX2 hown hK.1 hP hD hS 0 rfl rfl 6 (by decide) (hts (.fieldLink RX2 32 "WeightedLaws$Worlds" "weights" "[I") (by decide +kernel)) (fun _ h9 => h9) rfl hin rfl (by decide +kernel) rfl rfl (Nat.le_of_ble_eq_true rfl) dX2_init_55 (fun H locs hP hD hS => ?_)
  have hP : va_P D vwCl [(h0, .inr (2, [.int 1, .int 0, .ref q18, .ref q27, .ref q36, .ref q45, .ref q53, .int 0, .int 0, .long 0])), (q18, .inl (C.1, 1024, .inl (fun _ => 0))), (q27, .inl (C.2.1, 1024, .inr (.inl (fun _ => 0)))), (q36, .inl (C.1, 1024, .inl (fun _ => 0))), (q45, .inl (C.2.1, 1024, .inr (.inl (fun _ => 0)))), (q53, .inl (C.1, 8, .inl (fun _ => 0)))] H := hP
  have hD : va_D A [(h0, .inr (2, [.int 1, .int 0, .ref q18, .ref q27, .ref q36, .ref q45, .ref q53, .int 0, .int 0, .long 0])), (q18, .inl (C.1, 1024, .inl (fun _ => 0))), (q27, .inl (C.2.1, 1024, .inr (.inl (fun _ => 0)))), (q36, .inl (C.1, 1024, .inl (fun _ => 0))), (q45, .inl (C.2.1, 1024, .inr (.inl (fun _ => 0)))), (q53, .inl (C.1, 8, .inl (fun _ => 0)))] := hD
  refine lv_aload_n hx hb dX2_init_58 rfl (lv_at hl 0 rfl) ?_
  refine lv_iconst (v := 0) hx hb dX2_init_59 (by decide) ?_
  refine va_put (D := D) (ci := 2) (v := .int 0) (ty := .int) (C := RX2) (T := TX2) (N := 10) hx hb hts inw_X2_init_2 tyX2 tyX2_ok nmX2 hown hK.1 hP hD hS 0 rfl rfl 7 (by decide) (hts (.fieldLink RX2 35 "WeightedLaws$Worlds" "best" "I") (by decide +kernel)) (fun _ h9 => h9) rfl (by decide +kernel) rfl rfl (Nat.le_of_ble_eq_true rfl) dX2_init_60 (fun H locs hP hD hS => ?_)
  have hP : va_P D vwCl [(h0, .inr (2, [.int 1, .int 0, .ref q18, .ref q27, .ref q36, .ref q45, .ref q53, .int 0, .int 0, .long 0])), (q18, .inl (C.1, 1024, .inl (fun _ => 0))), (q27, .inl (C.2.1, 1024, .inr (.inl (fun _ => 0)))), (q36, .inl (C.1, 1024, .inl (fun _ => 0))), (q45, .inl (C.2.1, 1024, .inr (.inl (fun _ => 0)))), (q53, .inl (C.1, 8, .inl (fun _ => 0)))] H := hP
  have hD : va_D A [(h0, .inr (2, [.int 1, .int 0, .ref q18, .ref q27, .ref q36, .ref q45, .ref q53, .int 0, .int 0, .long 0])), (q18, .inl (C.1, 1024, .inl (fun _ => 0))), (q27, .inl (C.2.1, 1024, .inr (.inl (fun _ => 0)))), (q36, .inl (C.1, 1024, .inl (fun _ => 0))), (q45, .inl (C.2.1, 1024, .inr (.inl (fun _ => 0)))), (q53, .inl (C.1, 8, .inl (fun _ => 0)))] := hD
  refine lv_aload_n hx hb dX2_init_63 rfl (lv_at hl 0 rfl) ?_
  refine lv_iconst (v := 0) hx hb dX2_init_64 (by decide) ?_
  refine va_put (D := D) (ci := 2) (v := .int 0) (ty := .int) (C := RX2) (T := TX2) (N := 10) hx hb hts inw_X2_init_2 tyX2 tyX2_ok nmX2 hown hK.1 hP hD hS 0 rfl rfl 8 (by decide) (hts (.fieldLink RX2 38 "WeightedLaws$Worlds" "leastCost" "I") (by decide +kernel)) (fun _ h9 => h9) rfl (by decide +kernel) rfl rfl (Nat.le_of_ble_eq_true rfl) dX2_init_65 (fun H locs hP hD hS => ?_)
  have hP : va_P D vwCl [(h0, .inr (2, [.int 1, .int 0, .ref q18, .ref q27, .ref q36, .ref q45, .ref q53, .int 0, .int 0, .long 0])), (q18, .inl (C.1, 1024, .inl (fun _ => 0))), (q27, .inl (C.2.1, 1024, .inr (.inl (fun _ => 0)))), (q36, .inl (C.1, 1024, .inl (fun _ => 0))), (q45, .inl (C.2.1, 1024, .inr (.inl (fun _ => 0)))), (q53, .inl (C.1, 8, .inl (fun _ => 0)))] H := hP
  have hD : va_D A [(h0, .inr (2, [.int 1, .int 0, .ref q18, .ref q27, .ref q36, .ref q45, .ref q53, .int 0, .int 0, .long 0])), (q18, .inl (C.1, 1024, .inl (fun _ => 0))), (q27, .inl (C.2.1, 1024, .inr (.inl (fun _ => 0)))), (q36, .inl (C.1, 1024, .inl (fun _ => 0))), (q45, .inl (C.2.1, 1024, .inr (.inl (fun _ => 0)))), (q53, .inl (C.1, 8, .inl (fun _ => 0)))] := hD
  refine lv_aload_n hx hb dX2_init_68 rfl (lv_at hl 0 rfl) ?_
  refine lv_lconst (v := 0) hx hb dX2_init_69 (by decide) ?_
  refine va_put (D := D) (ci := 2) (v := .long 0) (ty := .long) (C := RX2) (T := TX2) (N := 10) hx hb hts inw_X2_init_2 tyX2 tyX2_ok nmX2 hown hK.1 hP hD hS 0 rfl rfl 9 (by decide) (hts (.fieldLink RX2 41 "WeightedLaws$Worlds" "allShares" "J") (by decide +kernel)) (fun _ h9 => h9) rfl (by decide +kernel) rfl rfl (Nat.le_of_ble_eq_true rfl) dX2_init_70 (fun H locs hP hD hS => ?_)
  have hP : va_P D vwCl [(h0, .inr (2, [.int 1, .int 0, .ref q18, .ref q27, .ref q36, .ref q45, .ref q53, .int 0, .int 0, .long 0])), (q18, .inl (C.1, 1024, .inl (fun _ => 0))), (q27, .inl (C.2.1, 1024, .inr (.inl (fun _ => 0)))), (q36, .inl (C.1, 1024, .inl (fun _ => 0))), (q45, .inl (C.2.1, 1024, .inr (.inl (fun _ => 0)))), (q53, .inl (C.1, 8, .inl (fun _ => 0)))] H := hP
  have hD : va_D A [(h0, .inr (2, [.int 1, .int 0, .ref q18, .ref q27, .ref q36, .ref q45, .ref q53, .int 0, .int 0, .long 0])), (q18, .inl (C.1, 1024, .inl (fun _ => 0))), (q27, .inl (C.2.1, 1024, .inr (.inl (fun _ => 0)))), (q36, .inl (C.1, 1024, .inl (fun _ => 0))), (q45, .inl (C.2.1, 1024, .inr (.inl (fun _ => 0)))), (q53, .inl (C.1, 8, .inl (fun _ => 0)))] := hD
  exact W.vret hx hb hr (fun t ht hW => ⟨⟨(), rfl, trivial, q18, q27, q36, q45, q53, by rw [ht]; exact hP, hD⟩, hS.F ht⟩) hS.2.2 dX2_init_73
