/-- t differs from s in the class's table alone -/
def WK (s t : SS) : Prop := (∀ a b c, a ≠ 11 → a ≠ 18 → t.1 a b c = s.1 a b c) ∧ t.2.2 = s.2.2 ∧ ∀ a b c, a ≠ 19 → t.2.1 a b c = s.2.1 a b c
theorem WK_rf {s : SS} : WK s s := ⟨fun _ _ _ _ _ => rfl, rfl, fun _ _ _ _ => rfl⟩
theorem WK_tr {s t u : SS} (h1 : WK s t) (h2 : WK t u) : WK s u := ⟨fun a b c x y => (h2.1 a b c x y).trans (h1.1 a b c x y), h2.2.1.trans h1.2.1, fun a b c x => (h2.2.2 a b c x).trans (h1.2.2 a b c x)⟩
theorem WK_off {s t : SS} (h : OffK [11, 18] s t) : WK s t := ⟨fun a b c x y => h.1 a b c (by simp [x, y]), by rw [h.2], fun a b c _ => by rw [h.2]⟩
theorem WK_L {s t : SS} (h : OffL s t) : WK s t := ⟨fun a b c _ _ => by rw [h.1], h.2.1, h.2.2⟩
theorem WK_Ag {s t : SS} (h : WK s t) {K : List Nat} (hd : ∀ a, a ∈ K → a ≠ 11 ∧ a ≠ 18 ∧ a ≠ 19) : Ag K s t := ⟨fun a ha => ⟨fun b c => h.1 a b c (hd a ha).1 (hd a ha).2.1, fun b c => h.2.2 a b c (hd a ha).2.2⟩, h.2.1⟩
theorem WK_JS {s t : SS} (h : WK s t) (hS : JS s) : JS t := JS_ag (WK_Ag h (by decide)) (h.1 0 0 7 (by decide) (by decide)) (h.1 30 0 10 (by decide) (by decide)) hS
theorem WK_brk {s t : SS} (h : WK s t) : brk t = brk s ∧ soB t = soB s ∧ nW t = nW s := brk_ag (WK_Ag h (by decide)) (h.1 30 0 10 (by decide) (by decide))
theorem WK_Hd {s t : SS} (h : WK s t) {j k kd np w f : Nat} (g : Hd s j k kd np w f) : Hd t j k kd np w f := by
  have e : ∀ a b c, a ≠ 11 → a ≠ 18 → t.1 a b c = s.1 a b c := h.1
  have x13 := fun b c => e 13 b c (by decide) (by decide)
  have x14 := fun b c => e 14 b c (by decide) (by decide)
  have x15 := fun b c => e 15 b c (by decide) (by decide)
  have x16 := fun b c => e 16 b c (by decide) (by decide)
  have x17 := fun b c => e 17 b c (by decide) (by decide)
  have x42 := fun b c => e 42 b c (by decide) (by decide)
  have x43 := fun b c => e 43 b c (by decide) (by decide)
  have x44 := fun b c => e 44 b c (by decide) (by decide)
  have x45 := fun b c => e 45 b c (by decide) (by decide)
  have x46 := fun b c => e 46 b c (by decide) (by decide)
  have x47 := fun b c => e 47 b c (by decide) (by decide)
  have x48 := fun b c => e 48 b c (by decide) (by decide)
  have x49 := fun b c => e 49 b c (by decide) (by decide)
  unfold Hd PJ at g ⊢
  simp only [x13, x14, x15, x16, x17, x42, x43, x44, x45, x46, x47, x48, x49]
  exact g
