def KK (D : va_G) (C : Cls) (U : State) : Prop := va_K D vwCl (tyG C) U ∧ NN U ∧ va_AO RX0 U ∧ va_AOA .int U
theorem KK_bl {D : va_G} {C : Cls} {U : State} {g : _} {mk : _} {a : _} (h : KK D C U) : KK D C (U.calling g mk a) := ⟨va_K.moved (u := U) (U := U.calling g mk a) (Vm.Alike.refl U.vm) h.1, NN_same (s := U) (U := U.calling g mk a) rfl h.2.1, va_AO.moved (u := U) (U := U.calling g mk a) (Vm.Alike.refl U.vm) h.2.2.1, va_AOA.moved (u := U) (U := U.calling g mk a) (Vm.Alike.refl U.vm) h.2.2.2⟩
theorem KK_wm {D : va_G} {C : Cls} {s U : State} (hW : s.WarmedH U.vm) (h : KK D C s) : KK D C U := ⟨va_K.moved hW.alike h.1, NN_warm hW h.2.1, va_AO.moved hW.alike h.2.2.1, va_AOA.moved hW.alike h.2.2.2⟩
section VNW
variable {p : Program} {l : Launch} {e : Env} {R : Room} {s : State} {m : MethodId} {args : Array Value} {below : List Frame} {meth : Method} {c : Code} {H : Heap} {locs : List Loc} {cells slots : Nat} {Q : State → Prop}
variable {cc : ByteArray} {pc : Nat} {ls : Array Slot} {rest : List Value} {D : va_G} {A : Nat → Prop} {ws : va_W} {H0 : Heap} {C : Cls}
theorem vn_i (hexec : p.tables.exec = Jvm.exec) (hb : c.code = cc) (harr : (Cond.arrayClass .int).before args s = true) (hK : va_K D vwCl (tyG C) s) (hP : va_P D vwCl ws H) (hD : va_D A ws) (hS : va_S A H0 H locs) (hA : ∀ q, H0.size ≤ q → A q) {n : Int32} {N' : Nat} (hn : ¬ n < 0) (hN : n.toNatClampNeg = N') (hbytes : N' * componentBytes .int ≤ 536870912) (hcells : cells + 1 ≤ R.cells) (hslots : slots + N' ≤ R.slots) (hdg : decode cc pc = .ok (.newarray .int, 2))
    (kk : ∀ (q : Nat) (H1 : Heap), va_P D vwCl (ws ++ [(q, .inl (C.1, N', .inl (fun _ => 0)))]) H1 → va_D A (ws ++ [(q, .inl (C.1, N', .inl (fun _ => 0)))]) → va_S A H0 H1 locs → W p l e R s m args below meth c H1 locs (cells + 1) (slots + N') Q (F0 m (pc + 2) ls (.ref q :: rest))) : W p l e R s m args below meth c H locs cells slots Q (F0 m pc ls (.int n :: rest)) := by
  refine va_newa (atype := .int) (ty := .int) (a0 := (N', .inl (fun _ => 0))) hexec hb harr rfl hK hP hD hS hA (fun cA => rfl) hn hN hbytes hcells hslots hdg (fun q cA H1 hK1 hP1 hD1 hS1 => ?_)
  have e1 : s.vm.findClass ("[" ++ FieldType.toString .int) = some C.1 := (hK.2 0 _ rfl).2
  have e2 : s.vm.findClass ("[" ++ FieldType.toString .int) = some cA := (hK1.2 5 _ rfl).2
  have e3 : C.1 = cA := Option.some.inj (e1.symm.trans e2)
  rw [← e3] at hP1 hD1
  exact kk q H1 hP1 hD1 hS1
theorem vn_l (hexec : p.tables.exec = Jvm.exec) (hb : c.code = cc) (harr : (Cond.arrayClass .long).before args s = true) (hK : va_K D vwCl (tyG C) s) (hP : va_P D vwCl ws H) (hD : va_D A ws) (hS : va_S A H0 H locs) (hA : ∀ q, H0.size ≤ q → A q) {n : Int32} {N' : Nat} (hn : ¬ n < 0) (hN : n.toNatClampNeg = N') (hbytes : N' * componentBytes .long ≤ 536870912) (hcells : cells + 1 ≤ R.cells) (hslots : slots + N' ≤ R.slots) (hdg : decode cc pc = .ok (.newarray .long, 2))
    (kk : ∀ (q : Nat) (H1 : Heap), va_P D vwCl (ws ++ [(q, .inl (C.2.1, N', .inr (.inl (fun _ => 0))))]) H1 → va_D A (ws ++ [(q, .inl (C.2.1, N', .inr (.inl (fun _ => 0))))]) → va_S A H0 H1 locs → W p l e R s m args below meth c H1 locs (cells + 1) (slots + N') Q (F0 m (pc + 2) ls (.ref q :: rest))) : W p l e R s m args below meth c H locs cells slots Q (F0 m pc ls (.int n :: rest)) := by
  refine va_newa (atype := .long) (ty := .long) (a0 := (N', .inr (.inl (fun _ => 0)))) hexec hb harr rfl hK hP hD hS hA (fun cA => rfl) hn hN hbytes hcells hslots hdg (fun q cA H1 hK1 hP1 hD1 hS1 => ?_)
  have e1 : s.vm.findClass ("[" ++ FieldType.toString .long) = some C.2.1 := (hK.2 1 _ rfl).2
  have e2 : s.vm.findClass ("[" ++ FieldType.toString .long) = some cA := (hK1.2 5 _ rfl).2
  have e3 : C.2.1 = cA := Option.some.inj (e1.symm.trans e2)
  rw [← e3] at hP1 hD1
  exact kk q H1 hP1 hD1 hS1
theorem vn_b (hexec : p.tables.exec = Jvm.exec) (hb : c.code = cc) (harr : (Cond.arrayClass .boolean).before args s = true) (hK : va_K D vwCl (tyG C) s) (hP : va_P D vwCl ws H) (hD : va_D A ws) (hS : va_S A H0 H locs) (hA : ∀ q, H0.size ≤ q → A q) {n : Int32} {N' : Nat} (hn : ¬ n < 0) (hN : n.toNatClampNeg = N') (hbytes : N' * componentBytes .boolean ≤ 536870912) (hcells : cells + 1 ≤ R.cells) (hslots : slots + N' ≤ R.slots) (hdg : decode cc pc = .ok (.newarray .boolean, 2))
    (kk : ∀ (q : Nat) (H1 : Heap), va_P D vwCl (ws ++ [(q, .inl (C.2.2.1, N', .inl (fun _ => 0)))]) H1 → va_D A (ws ++ [(q, .inl (C.2.2.1, N', .inl (fun _ => 0)))]) → va_S A H0 H1 locs → W p l e R s m args below meth c H1 locs (cells + 1) (slots + N') Q (F0 m (pc + 2) ls (.ref q :: rest))) : W p l e R s m args below meth c H locs cells slots Q (F0 m pc ls (.int n :: rest)) := by
  refine va_newa (atype := .boolean) (ty := .boolean) (a0 := (N', .inl (fun _ => 0))) hexec hb harr rfl hK hP hD hS hA (fun cA => rfl) hn hN hbytes hcells hslots hdg (fun q cA H1 hK1 hP1 hD1 hS1 => ?_)
  have e1 : s.vm.findClass ("[" ++ FieldType.toString .boolean) = some C.2.2.1 := (hK.2 2 _ rfl).2
  have e2 : s.vm.findClass ("[" ++ FieldType.toString .boolean) = some cA := (hK1.2 5 _ rfl).2
  have e3 : C.2.2.1 = cA := Option.some.inj (e1.symm.trans e2)
  rw [← e3] at hP1 hD1
  exact kk q H1 hP1 hD1 hS1
theorem vn_q (hexec : p.tables.exec = Jvm.exec) (hb : c.code = cc) {own : String} {index : Nat} (hown : s.vm.findClass own = some m.cls) (hclink : (Cond.classLink own index RX0).before args s = true) (hover : va_AO RX0 s) (hK : va_K D vwCl (tyG C) s) (hP : va_P D vwCl ws H) (hD : va_D A ws) (hS : va_S A H0 H locs) (hA : ∀ q, H0.size ≤ q → A q)
    {n : Int32} {N' : Nat} (hn : ¬ n < 0) (hN : n.toNatClampNeg = N') (hbytes : N' * 4 ≤ 536870912) (hcells : cells + 1 ≤ R.cells) (hslots : slots + N' ≤ R.slots) (hdg : decode cc pc = .ok (.anewarray index, 3))
    (kk : ∀ (q : Nat) (H1 : Heap), va_P D vwCl (ws ++ [(q, .inl (C.2.2.2.2, N', .inr (.inr (.inr (.inr (fun _ => none))))))]) H1 → va_D A (ws ++ [(q, .inl (C.2.2.2.2, N', .inr (.inr (.inr (.inr (fun _ => none))))))]) → va_S A H0 H1 locs → W p l e R s m args below meth c H1 locs (cells + 1) (slots + N') Q (F0 m (pc + 3) ls (.ref q :: rest))) : W p l e R s m args below meth c H locs cells slots Q (F0 m pc ls (.int n :: rest)) := by
  refine va_newq hexec hb hown hclink hover hK hP hD hS hA hn hN hbytes hcells hslots hdg (fun q cA H1 hK1 hP1 hD1 hS1 => ?_)
  obtain ⟨_, _, _, _, _, e1⟩ := (hK.2 4 _ rfl).2
  obtain ⟨_, _, _, _, _, e2⟩ := (hK1.2 5 _ rfl).2
  have e3 : C.2.2.2.2 = cA := Option.some.inj (e1.symm.trans e2)
  rw [← e3] at hP1 hD1
  exact kk q H1 hP1 hD1 hS1
theorem vn_m {X : va_W} (hexec : p.tables.exec = Jvm.exec) (hb : c.code = cc) {own : String} {index : Nat} (hown : s.vm.findClass own = some m.cls) (hclink : (Cond.classLink own index "[[I").before args s = true) (hover : va_AOA .int s) (harr : (Cond.arrayClass .int).before args s = true) (hK : va_K D vwCl (tyG C) s) (hP : va_P D vwCl X H) (hD : va_D A X) (hS : va_S A H0 H locs) (hA : ∀ q, H0.size ≤ q → A q)
    {n k : Int32} {N' K' : Nat} (hn : ¬ n < 0) (hk : ¬ k < 0) (hN : n.toNatClampNeg = N') (hM : k.toNatClampNeg = K') (hb1 : N' * 4 ≤ 536870912) (hb2 : K' * componentBytes .int ≤ 536870912) (hb3 : K' ≤ 536870912) (hcells : cells + (1 + N') ≤ R.cells) (hslots : slots + (N' + N' * K') ≤ R.slots) (hdg : decode cc pc = .ok (.multianewarray index 2, 4))
    (kk : ∀ (q : Nat) (r : Nat → Nat) (H1 : Heap), va_P D vwCl ((X ++ [(q, .inl (C.2.2.2.1, N', .inr (.inr (.inr (.inr (fun i => if i < N' then some (r i) else none))))))]) ++ (List.range N').map (fun i => (r i, .inl (C.1, K', .inl (fun _ => 0))))) H1 → va_D A ((X ++ [(q, .inl (C.2.2.2.1, N', .inr (.inr (.inr (.inr (fun i => if i < N' then some (r i) else none))))))]) ++ (List.range N').map (fun i => (r i, .inl (C.1, K', .inl (fun _ => 0))))) → va_S A H0 H1 locs → W p l e R s m args below meth c H1 locs (cells + 1 + N') (slots + N' + N' * K') Q (F0 m (pc + 4) ls (.ref q :: rest))) : W p l e R s m args below meth c H locs cells slots Q (F0 m pc ls (.int k :: .int n :: rest)) := by
  have ec : "[" ++ (FieldType.array .int).toString = "[[I" := by decide
  have hclink : (Cond.classLink own index ("[" ++ (FieldType.array .int).toString)).before args s = true := by rw [ec]; exact hclink
  have c1 : s.vm.findClass (FieldType.array .int).toString = some C.1 := (hK.2 0 _ rfl).2
  have e1 : s.vm.findClass ("[" ++ FieldType.toString (.array .int)) = some C.2.2.2.1 := (hK.2 3 _ rfl).2
  refine va_mna (X := X) (L := []) (f := fun _ => .inl (C.1, K', .inl (fun _ => 0))) (z := (K', .inl (fun _ => 0))) hexec hb hown hclink hover harr c1 hK (by simpa [va_pl] using hP) (by simpa [va_pl] using hD) hS hA hn hk hN hM hb1 hb2 hb3 (by decide) (by decide) hcells hslots (fun c => ?_) hdg (fun q r cA H1 hr1 hr2 hK1 hP1 hD1 hS1 => ?_)
  · show _ = arrV c K' (fun _ => .int 0)
    exact arrV_new ..
  · have e2 : s.vm.findClass ("[" ++ FieldType.toString (.array .int)) = some cA := (hK1.2 5 _ rfl).2
    have e3 : C.2.2.2.1 = cA := Option.some.inj (e1.symm.trans e2)
    have e4 : va_pl ([] ++ (List.range N').map r) (vr_up (fun _ => .inl (C.1, K', .inl (fun _ => 0))) ((List.range N').map r) (.inl (C.1, (K', .inl (fun _ => 0))))) = (List.range N').map (fun i => (r i, .inl (C.1, K', .inl (fun _ => 0)))) := by
      unfold va_pl
      rw [List.nil_append, List.map_map]
      apply List.map_congr_left
      intro i hi
      show (r i, vr_up _ _ _ (r i)) = _
      rw [vr_up_in (List.mem_map.mpr ⟨i, hi, rfl⟩)]
    rw [e4, ← e3] at hP1 hD1
    exact kk q r H1 hP1 hD1 hS1
end VNW
