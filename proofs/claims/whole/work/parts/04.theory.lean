def lkp (l : List (Nat × En)) (pc : Nat) : Option En := match l with
  | [] => none
  | (p, e) :: r => bif Nat.beq p pc then some e else lkp r pc
def mtab (i : Nat) : List (Nat × En) := (kAll.getD (i / 16) []).getD (i % 16) []
def enK (en : En) : List Nat := en.2.2.2.2.2.2.2.2.2.2.2
def body (nx cal : RF) (i pc : Nat) (ls : LO) (st : List AV) (s : SS) : RE := match lkp (mtab i) pc with
  | none => none
  | some en => match enK en with
    | [] => opx nx cal i pc en ls st s
    | k :: r => frc (kil (k :: r) ls) (fun l => opx nx cal i pc en l st s)
def run : Nat → RF
  | 0 => fun _ _ _ _ _ => none
  | n + 1 => fun i pc ls st s => body (run n) (run n) i pc ls st s
theorem frc_eq (k : LO → RE) : ∀ ls : LO, frc ls k = k ls
  | [] => rfl
  | a :: r => frc_eq (fun q => k (a :: q)) r
/-! monotone and continuous, helper by helper -/
theorem frc_c {ls : LO} {F : LO → RE} {f : Nat → LO → RE} {v : Option AV × SS} (hF : ∀ a v, F a = some v → ∃ n, f n a = some v) (h : frc ls F = some v) : ∃ n, frc ls (f n) = some v := by
  rw [frc_eq] at h
  obtain ⟨n, hn⟩ := hF _ _ h
  exact ⟨n, by rw [frc_eq]; exact hn⟩
theorem ldx_c {ls : LO} {k t : Nat} {F : AV → RE} {f : Nat → AV → RE} {v : Option AV × SS} (hF : ∀ a v, F a = some v → ∃ n, f n a = some v) (h : ldx ls k t F = some v) : ∃ n, ldx ls k t (f n) = some v := by
  unfold ldx at h ⊢
  split at h
  · cases hb : Nat.beq t 0 <;> rw [hb] at h <;> simp only [cond_true, cond_false] at h ⊢
    · cases h
    · exact hF _ _ h
  · cases hb : Nat.beq t 1 <;> rw [hb] at h <;> simp only [cond_true, cond_false] at h ⊢
    · cases h
    · exact hF _ _ h
  · cases hb : Nat.beq t 2 <;> rw [hb] at h <;> simp only [cond_true, cond_false] at h ⊢
    · cases h
    · exact hF _ _ h
  · cases h
theorem op1i_c {st : List AV} {F : Int32 → List AV → RE} {f : Nat → Int32 → List AV → RE} {v : Option AV × SS} (hF : ∀ x r v, F x r = some v → ∃ n, f n x r = some v) (h : op1i st F = some v) : ∃ n, op1i st (f n) = some v := by
  unfold op1i at h ⊢
  split at h
  · exact hF _ _ _ h
  · cases h
theorem op2i_c {st : List AV} {F : Int32 → Int32 → List AV → RE} {f : Nat → Int32 → Int32 → List AV → RE} {v : Option AV × SS} (hF : ∀ x y r v, F x y r = some v → ∃ n, f n x y r = some v) (h : op2i st F = some v) : ∃ n, op2i st (f n) = some v := by
  unfold op2i at h ⊢
  split at h
  · exact hF _ _ _ _ h
  · cases h
theorem op1l_c {st : List AV} {F : Int64 → List AV → RE} {f : Nat → Int64 → List AV → RE} {v : Option AV × SS} (hF : ∀ x r v, F x r = some v → ∃ n, f n x r = some v) (h : op1l st F = some v) : ∃ n, op1l st (f n) = some v := by
  unfold op1l at h ⊢
  split at h
  · exact hF _ _ _ h
  · cases h
theorem op2l_c {st : List AV} {F : Int64 → Int64 → List AV → RE} {f : Nat → Int64 → Int64 → List AV → RE} {v : Option AV × SS} (hF : ∀ x y r v, F x y r = some v → ∃ n, f n x y r = some v) (h : op2l st F = some v) : ∃ n, op2l st (f n) = some v := by
  unfold op2l at h ⊢
  split at h
  · exact hF _ _ _ _ h
  · cases h
theorem opli_c {st : List AV} {F : Int64 → Int32 → List AV → RE} {f : Nat → Int64 → Int32 → List AV → RE} {v : Option AV × SS} (hF : ∀ x y r v, F x y r = some v → ∃ n, f n x y r = some v) (h : opli st F = some v) : ∃ n, opli st (f n) = some v := by
  unfold opli at h ⊢
  split at h
  · exact hF _ _ _ _ h
  · cases h
theorem op1r_c {st : List AV} {F : Nat → Nat → List AV → RE} {f : Nat → Nat → Nat → List AV → RE} {v : Option AV × SS} (hF : ∀ x y r v, F x y r = some v → ∃ n, f n x y r = some v) (h : op1r st F = some v) : ∃ n, op1r st (f n) = some v := by
  unfold op1r at h ⊢
  split at h
  · exact hF _ _ _ _ h
  · cases h
theorem opix_c {st : List AV} {F : Int32 → Nat → Nat → List AV → RE} {f : Nat → Int32 → Nat → Nat → List AV → RE} {v : Option AV × SS} (hF : ∀ x k j r v, F x k j r = some v → ∃ n, f n x k j r = some v) (h : opix st F = some v) : ∃ n, opix st (f n) = some v := by
  unfold opix at h ⊢
  split at h
  · exact hF _ _ _ _ _ h
  · cases h
theorem swl_c {F : Nat → RE} {f : Nat → Nat → RE} {d : Nat} {x : Int32} {v : Option AV × SS} (hF : ∀ t v, F t = some v → ∃ n, f n t = some v) : ∀ (l : List (Int32 × Nat)), swl F d x l = some v → ∃ n, swl (f n) d x l = some v
  | [], h => hF _ _ h
  | (w, t) :: r, h => by
    unfold swl at h ⊢
    by_cases q : x = w
    · rw [if_pos q] at h
      simp only [if_pos q]
      exact hF _ _ h
    · rw [if_neg q] at h
      simp only [if_neg q]
      exact swl_c hF r h
theorem getx_c {s : SS} {d ci k kd j : Nat} {F : AV → RE} {f : Nat → AV → RE} {v : Option AV × SS} (hF : ∀ a v, F a = some v → ∃ n, f n a = some v) (h : getx s d ci k kd j F = some v) : ∃ n, getx s d ci k kd j (f n) = some v := by
  unfold getx at h ⊢
  cases hb : Nat.beq (kcl kd) ci <;> rw [hb] at h <;> simp only [cond_true, cond_false] at h ⊢
  · cases h
  · split at h <;> exact hF _ _ h
theorem putx_c {s : SS} {d ci k : Nat} {st : List AV} {F : List AV → SS → RE} {f : Nat → List AV → SS → RE} {v : Option AV × SS} (hF : ∀ r s v, F r s = some v → ∃ n, f n r s = some v) (h : putx s d ci k st F = some v) : ∃ n, putx s d ci k st (f n) = some v := by
  unfold putx at h ⊢
  split at h
  · rename_i x kd j r
    cases hb : Nat.beq (kcl kd) ci <;> rw [hb] at h <;> simp only [cond_true, cond_false] at h ⊢
    · cases h
    · split at h
      · exact hF _ _ _ h
      · cases hz : isZ x <;> rw [hz] at h <;> simp only [cond_true, cond_false] at h ⊢
        · cases h
        · exact hF _ _ _ h
      · cases h
  · rename_i x kd j r
    cases hb : (Nat.beq (kcl kd) ci && Nat.beq d 1) <;> rw [hb] at h <;> simp only [cond_true, cond_false] at h ⊢
    · cases h
    · exact hF _ _ _ h
  · rename_i kv jv kd j r
    cases hb : (Nat.beq (kcl kd) ci && (Nat.beq kd 0 && (Nat.beq k 6 && (Nat.beq kv 13 && Nat.beq d 2)))) <;> rw [hb] at h <;> simp only [cond_true, cond_false] at h ⊢
    · cases h
    · exact hF _ _ _ h
  · cases h
theorem ixc {c : Bool} {F : RE} {f : Nat → RE} {v : Option AV × SS} (hF : F = some v → ∃ n, f n = some v) (h : (if c = true then F else none) = some v) : ∃ n, (if c = true then f n else none) = some v := by
  cases c
  · cases h
  · exact hF h
theorem bfc {c : Bool} {F : RE} {f : Nat → RE} {v : Option AV × SS} (hF : F = some v → ∃ n, f n = some v) (h : (bif c then F else none) = some v) : ∃ n, (bif c then f n else none) = some v := by
  cases c
  · cases h
  · exact hF h
theorem bf2 {c : Bool} {F G : RE} {f g : Nat → RE} {v : Option AV × SS} (hF : F = some v → ∃ n, f n = some v) (hG : G = some v → ∃ n, g n = some v) (h : (bif c then F else G) = some v) : ∃ n, (bif c then f n else g n) = some v := by
  cases c
  · exact hG h
  · exact hF h
theorem if2 {c : Prop} [Decidable c] {F G : RE} {f g : Nat → RE} {v : Option AV × SS} (hF : F = some v → ∃ n, f n = some v) (hG : G = some v → ∃ n, g n = some v) (h : (if c then F else G) = some v) : ∃ n, (if c then f n else g n) = some v := by
  by_cases q : c
  · simp only [if_pos q] at h ⊢
    exact hF h
  · simp only [if_neg q] at h ⊢
    exact hG h
theorem nnc {f : Nat → RE} {v : Option AV × SS} (h : (none : RE) = some v) : ∃ n, f n = some v := by cases h
theorem aldx_c {s : SS} {t : Nat} {x : Int32} {kd j : Nat} {F : AV → RE} {f : Nat → AV → RE} {v : Option AV × SS} (hF : ∀ a v, F a = some v → ∃ n, f n a = some v) (h : aldx s t x kd j F = some v) : ∃ n, aldx s t x kd j (f n) = some v := by
  unfold aldx at h ⊢
  split at h
  · exact bf2 (ixc (hF _ _)) (bfc (ixc (hF _ _))) h
  · exact bfc (ixc (hF _ _)) h
  · exact bfc (ixc (hF _ _)) h
  · exact bf2 (ixc (hF _ _)) (bfc (ixc (hF _ _))) h
theorem astx_c {s : SS} {t : Nat} {st : List AV} {F : List AV → SS → RE} {f : Nat → List AV → SS → RE} {v : Option AV × SS} (hF : ∀ r s v, F r s = some v → ∃ n, f n r s = some v) (h : astx s t st F = some v) : ∃ n, astx s t st (f n) = some v := by
  unfold astx at h ⊢
  split at h
  · split at h
    · exact bfc (ixc (hF _ _ _)) h
    · exact bfc (ixc (hF _ _ _)) h
    · cases h
  · exact bfc (ixc (hF _ _ _)) h
  · exact bfc (ixc (hF _ _ _)) h
  · cases h
theorem alnx_c {s : SS} {kd : Nat} {F : Int32 → RE} {f : Nat → Int32 → RE} {v : Option AV × SS} (hF : ∀ a v, F a = some v → ∃ n, f n a = some v) (h : alnx s kd F = some v) : ∃ n, alnx s kd (f n) = some v := by
  unfold alnx at h ⊢
  exact bf2 (hF _ _) (bfc (hF _ _)) h
theorem dupx_c {st : List AV} {F : List AV → RE} {f : Nat → List AV → RE} {v : Option AV × SS} (hF : ∀ a v, F a = some v → ∃ n, f n a = some v) (h : dupx st F = some v) : ∃ n, dupx st (f n) = some v := by
  unfold dupx at h ⊢
  split at h
  · exact hF _ _ h
  · exact hF _ _ h
  · cases h
theorem popx_c {st : List AV} {F : List AV → RE} {f : Nat → List AV → RE} {v : Option AV × SS} (hF : ∀ a v, F a = some v → ∃ n, f n a = some v) (h : popx st F = some v) : ∃ n, popx st (f n) = some v := by
  unfold popx at h ⊢
  split at h
  · exact hF _ _ h
  · exact hF _ _ h
  · cases h
theorem dup2x_c {st : List AV} {F : List AV → RE} {f : Nat → List AV → RE} {v : Option AV × SS} (hF : ∀ a v, F a = some v → ∃ n, f n a = some v) (h : dup2x st F = some v) : ∃ n, dup2x st (f n) = some v := by
  unfold dup2x at h ⊢
  split at h
  · exact hF _ _ h
  · exact hF _ _ h
  · exact hF _ _ h
  · cases h
theorem copyx_c {st : List AV} {s : SS} {F : List AV → SS → RE} {f : Nat → List AV → SS → RE} {v : Option AV × SS} (hF : ∀ r s v, F r s = some v → ∃ n, f n r s = some v) (h : copyx st s F = some v) : ∃ n, copyx st s (f n) = some v := by
  unfold copyx at h ⊢
  split at h
  · exact bfc (if2 (hF _ _ _) nnc) h
  · cases h
def Mo (f : Nat → RF) : Prop := ∀ n m i pc ls st s v, n ≤ m → f n i pc ls st s = some v → f m i pc ls st s = some v
theorem cV_inv {r : RE} {k : SS → RE} {v : Option AV × SS} (h : cV r k = some v) : ∃ s, r = some (none, s) ∧ k s = some v := by
  unfold cV at h
  split at h
  · exact ⟨_, rfl, h⟩
  · cases h
theorem cI_inv {r : RE} {k : Int32 → SS → RE} {v : Option AV × SS} (h : cI r k = some v) : ∃ x s, r = some (some (.inl x), s) ∧ k x s = some v := by
  unfold cI at h
  split at h
  · exact ⟨_, _, rfl, h⟩
  · cases h
theorem cL_inv {r : RE} {k : Int64 → SS → RE} {v : Option AV × SS} (h : cL r k = some v) : ∃ x s, r = some (some (.inr (.inl x)), s) ∧ k x s = some v := by
  unfold cL at h
  split at h
  · exact ⟨_, _, rfl, h⟩
  · cases h
theorem callx_c {C : RF} {c : Nat → RF} {a nb rc mx : Nat} {as rest : List AV} {s : SS} {F : List AV → SS → RE} {f : Nat → List AV → SS → RE} {v : Option AV × SS} (hC : ∀ i pc ls st s v, C i pc ls st s = some v → ∃ n, c n i pc ls st s = some v) (mc : Mo c) (hF : ∀ r s v, F r s = some v → ∃ n, f n r s = some v) (mf : ∀ n m r s v, n ≤ m → f n r s = some v → f m r s = some v) (h : callx C a nb rc mx as rest s F = some v) : ∃ n, callx (c n) a nb rc mx as rest s (f n) = some v := by
  unfold callx at h ⊢
  refine bfc (fun h => ?_) h
  split at h
  · obtain ⟨s1, h1, h2⟩ := cV_inv h
    obtain ⟨n1, g1⟩ := hC _ _ _ _ _ _ h1
    obtain ⟨n2, g2⟩ := hF _ _ _ h2
    refine ⟨max n1 n2, ?_⟩
    show cV (c (max n1 n2) _ _ _ _ _) _ = _
    rw [mc _ _ _ _ _ _ _ _ (Nat.le_max_left n1 n2) g1]
    exact mf _ _ _ _ _ (Nat.le_max_right n1 n2) g2
  · obtain ⟨x, s1, h1, h2⟩ := cI_inv h
    obtain ⟨n1, g1⟩ := hC _ _ _ _ _ _ h1
    obtain ⟨n2, g2⟩ := hF _ _ _ h2
    refine ⟨max n1 n2, ?_⟩
    show cI (c (max n1 n2) _ _ _ _ _) _ = _
    rw [mc _ _ _ _ _ _ _ _ (Nat.le_max_left n1 n2) g1]
    exact mf _ _ _ _ _ (Nat.le_max_right n1 n2) g2
  · obtain ⟨x, s1, h1, h2⟩ := cL_inv h
    obtain ⟨n1, g1⟩ := hC _ _ _ _ _ _ h1
    obtain ⟨n2, g2⟩ := hF _ _ _ h2
    refine ⟨max n1 n2, ?_⟩
    show cL (c (max n1 n2) _ _ _ _ _) _ = _
    rw [mc _ _ _ _ _ _ _ _ (Nat.le_max_left n1 n2) g1]
    exact mf _ _ _ _ _ (Nat.le_max_right n1 n2) g2
set_option maxHeartbeats 2000000 in
theorem opx_c {N C : RF} {f c : Nat → RF} (hf : ∀ i pc ls st s v, N i pc ls st s = some v → ∃ n, f n i pc ls st s = some v) (hc : ∀ i pc ls st s v, C i pc ls st s = some v → ∃ n, c n i pc ls st s = some v) (mf : Mo f) (mc : Mo c) {i pc : Nat} {en : En} {ls : LO} {st : List AV} {s : SS} {v : Option AV × SS} (h : opx N C i pc en ls st s = some v) : ∃ n, opx (f n) (c n) i pc en ls st s = some v := by
  obtain ⟨ins, len, a, b, d, e, g, pos, cv, lv, sw, ks⟩ := en
  cases ins with
  | iconst => exact hf _ _ _ _ _ _ h
  | bipush => exact hf _ _ _ _ _ _ h
  | sipush => exact hf _ _ _ _ _ _ h
  | ldc => exact hf _ _ _ _ _ _ h
  | ldc_w => exact hf _ _ _ _ _ _ h
  | lconst => exact hf _ _ _ _ _ _ h
  | ldc2_w => exact hf _ _ _ _ _ _ h
  | iload k => exact ldx_c (ls := ls) (k := k) (t := 0) (F := fun w => N i (pc + len) ls (w :: st) s) (f := fun n w => f n i (pc + len) ls (w :: st) s) (fun _ _ h => hf _ _ _ _ _ _ h) h
  | iload_n k => exact ldx_c (ls := ls) (k := k.val) (t := 0) (F := fun w => N i (pc + len) ls (w :: st) s) (f := fun n w => f n i (pc + len) ls (w :: st) s) (fun _ _ h => hf _ _ _ _ _ _ h) h
  | lload k => exact ldx_c (ls := ls) (k := k) (t := 1) (F := fun w => N i (pc + len) ls (w :: st) s) (f := fun n w => f n i (pc + len) ls (w :: st) s) (fun _ _ h => hf _ _ _ _ _ _ h) h
  | lload_n k => exact ldx_c (ls := ls) (k := k.val) (t := 1) (F := fun w => N i (pc + len) ls (w :: st) s) (f := fun n w => f n i (pc + len) ls (w :: st) s) (fun _ _ h => hf _ _ _ _ _ _ h) h
  | aload k => exact ldx_c (ls := ls) (k := k) (t := 2) (F := fun w => N i (pc + len) ls (w :: st) s) (f := fun n w => f n i (pc + len) ls (w :: st) s) (fun _ _ h => hf _ _ _ _ _ _ h) h
  | aload_n k => exact ldx_c (ls := ls) (k := k.val) (t := 2) (F := fun w => N i (pc + len) ls (w :: st) s) (f := fun n w => f n i (pc + len) ls (w :: st) s) (fun _ _ h => hf _ _ _ _ _ _ h) h
  | istore => exact op1i_c (fun _ _ _ h => frc_c (fun _ _ h => hf _ _ _ _ _ _ h) h) h
  | istore_n => exact op1i_c (fun _ _ _ h => frc_c (fun _ _ h => hf _ _ _ _ _ _ h) h) h
  | lstore => exact op1l_c (fun _ _ _ h => frc_c (fun _ _ h => hf _ _ _ _ _ _ h) h) h
  | lstore_n => exact op1l_c (fun _ _ _ h => frc_c (fun _ _ h => hf _ _ _ _ _ _ h) h) h
  | astore => exact op1r_c (fun _ _ _ _ h => frc_c (fun _ _ h => hf _ _ _ _ _ _ h) h) h
  | astore_n => exact op1r_c (fun _ _ _ _ h => frc_c (fun _ _ h => hf _ _ _ _ _ _ h) h) h
  | iinc k _ =>
    refine ldx_c (ls := ls) (k := k) (t := 0) (F := fun v => match v with
      | .inl x => frc (st1 ls k (.inl (x + cv))) (fun l => N i (pc + len) l st s)
      | _ => none) (f := fun n v => match v with
      | .inl x => frc (st1 ls k (.inl (x + cv))) (fun l => f n i (pc + len) l st s)
      | _ => none) (fun w v h => ?_) h
    match w, h with
    | .inl x, h => exact frc_c (fun _ _ h => hf _ _ _ _ _ _ h) h
    | .inr (.inl x), h => cases h
    | .inr (.inr x), h => cases h
  | iadd => exact op2i_c (fun _ _ _ _ h => hf _ _ _ _ _ _ h) h
  | isub => exact op2i_c (fun _ _ _ _ h => hf _ _ _ _ _ _ h) h
  | imul => exact op2i_c (fun _ _ _ _ h => hf _ _ _ _ _ _ h) h
  | iand => exact op2i_c (fun _ _ _ _ h => hf _ _ _ _ _ _ h) h
  | ior => exact op2i_c (fun _ _ _ _ h => hf _ _ _ _ _ _ h) h
  | ixor => exact op2i_c (fun _ _ _ _ h => hf _ _ _ _ _ _ h) h
  | idiv => exact op2i_c (fun _ _ _ _ h => if2 nnc (hf _ _ _ _ _ _) h) h
  | irem => exact op2i_c (fun _ _ _ _ h => if2 nnc (hf _ _ _ _ _ _) h) h
  | ineg => exact op1i_c (fun _ _ _ h => hf _ _ _ _ _ _ h) h
  | ishl => exact op2i_c (fun _ _ _ _ h => hf _ _ _ _ _ _ h) h
  | ishr => exact op2i_c (fun _ _ _ _ h => hf _ _ _ _ _ _ h) h
  | iushr => exact op2i_c (fun _ _ _ _ h => hf _ _ _ _ _ _ h) h
  | ladd => exact op2l_c (fun _ _ _ _ h => hf _ _ _ _ _ _ h) h
  | lsub => exact op2l_c (fun _ _ _ _ h => hf _ _ _ _ _ _ h) h
  | lmul => exact op2l_c (fun _ _ _ _ h => hf _ _ _ _ _ _ h) h
  | land => exact op2l_c (fun _ _ _ _ h => hf _ _ _ _ _ _ h) h
  | lor => exact op2l_c (fun _ _ _ _ h => hf _ _ _ _ _ _ h) h
  | ldiv => exact op2l_c (fun _ _ _ _ h => if2 nnc (hf _ _ _ _ _ _) h) h
  | lrem => exact op2l_c (fun _ _ _ _ h => if2 nnc (hf _ _ _ _ _ _) h) h
  | lneg => exact op1l_c (fun _ _ _ h => hf _ _ _ _ _ _ h) h
  | lcmp => exact op2l_c (fun _ _ _ _ h => hf _ _ _ _ _ _ h) h
  | lshl => exact opli_c (fun _ _ _ _ h => hf _ _ _ _ _ _ h) h
  | lshr => exact opli_c (fun _ _ _ _ h => hf _ _ _ _ _ _ h) h
  | lushr => exact opli_c (fun _ _ _ _ h => hf _ _ _ _ _ _ h) h
  | i2l => exact op1i_c (fun _ _ _ h => hf _ _ _ _ _ _ h) h
  | l2i => exact op1l_c (fun _ _ _ h => hf _ _ _ _ _ _ h) h
  | i2b => exact op1i_c (fun _ _ _ h => hf _ _ _ _ _ _ h) h
  | dup => exact dupx_c (st := st) (F := fun r => N i (pc + len) ls r s) (f := fun n r => f n i (pc + len) ls r s) (fun _ _ h => hf _ _ _ _ _ _ h) h
  | dup2 => exact dup2x_c (st := st) (F := fun r => N i (pc + len) ls r s) (f := fun n r => f n i (pc + len) ls r s) (fun _ _ h => hf _ _ _ _ _ _ h) h
  | pop => exact popx_c (st := st) (F := fun r => N i (pc + len) ls r s) (f := fun n r => f n i (pc + len) ls r s) (fun _ _ h => hf _ _ _ _ _ _ h) h
  | goto => exact hf _ _ _ _ _ _ h
  | ifCond q _ => cases q <;> exact op1i_c (fun _ _ _ h => if2 (hf _ _ _ _ _ _) (hf _ _ _ _ _ _) h) h
  | if_icmp q _ => cases q <;> exact op2i_c (fun _ _ _ _ h => if2 (hf _ _ _ _ _ _) (hf _ _ _ _ _ _) h) h
  | tableswitch => exact op1i_c (fun _ _ _ h => swl_c (fun _ _ h => hf _ _ _ _ _ _ h) _ h) h
  | lookupswitch => exact op1i_c (fun _ _ _ h => swl_c (fun _ _ h => hf _ _ _ _ _ _ h) _ h) h
  | getfield => exact op1r_c (fun _ _ _ _ h => getx_c (fun _ _ h => hf _ _ _ _ _ _ h) h) h
  | putfield => exact putx_c (fun _ _ _ h => hf _ _ _ _ _ _ h) h
  | iaload => exact opix_c (fun _ _ _ _ _ h => aldx_c (fun _ _ h => hf _ _ _ _ _ _ h) h) h
  | laload => exact opix_c (fun _ _ _ _ _ h => aldx_c (fun _ _ h => hf _ _ _ _ _ _ h) h) h
  | baload => exact opix_c (fun _ _ _ _ _ h => aldx_c (fun _ _ h => hf _ _ _ _ _ _ h) h) h
  | aaload => exact opix_c (fun _ _ _ _ _ h => aldx_c (fun _ _ h => hf _ _ _ _ _ _ h) h) h
  | iastore => exact astx_c (s := s) (t := 1) (st := st) (F := fun r s1 => N i (pc + len) ls r s1) (f := fun n r s1 => f n i (pc + len) ls r s1) (fun _ _ _ h => hf _ _ _ _ _ _ h) h
  | lastore => exact astx_c (s := s) (t := 2) (st := st) (F := fun r s1 => N i (pc + len) ls r s1) (f := fun n r s1 => f n i (pc + len) ls r s1) (fun _ _ _ h => hf _ _ _ _ _ _ h) h
  | bastore => exact astx_c (s := s) (t := 3) (st := st) (F := fun r s1 => N i (pc + len) ls r s1) (f := fun n r s1 => f n i (pc + len) ls r s1) (fun _ _ _ h => hf _ _ _ _ _ _ h) h
  | aastore => exact astx_c (s := s) (t := 4) (st := st) (F := fun r s1 => N i (pc + len) ls r s1) (f := fun n r s1 => f n i (pc + len) ls r s1) (fun _ _ _ h => hf _ _ _ _ _ _ h) h
  | arraylength => exact op1r_c (fun _ _ _ _ h => alnx_c (fun _ _ h => hf _ _ _ _ _ _ h) h) h
  | invokestatic => exact bf2 (copyx_c (fun _ _ _ h => hf _ _ _ _ _ _ h)) (bf2 (op1i_c (fun _ _ _ h => bfc (hf _ _ _ _ _ _) h)) (bf2 (op1l_c (fun _ _ _ h => bfc (hf _ _ _ _ _ _) h)) (bf2 (op2i_c (fun _ _ _ _ h => bfc (hf _ _ _ _ _ _) h)) (callx_c hc mc (fun _ _ _ h => hf _ _ _ _ _ _ h) (fun _ _ _ _ _ hn h => mf _ _ _ _ _ _ _ _ hn h))))) h
  | invokevirtual => exact bfc (callx_c hc mc (fun _ _ _ h => hf _ _ _ _ _ _ h) (fun _ _ _ _ _ hn h => mf _ _ _ _ _ _ _ _ hn h)) h
  | ireturn => exact ⟨0, h⟩
  | lreturn => exact ⟨0, h⟩
  | return_ => exact ⟨0, h⟩
  | _ => cases h
theorem body_c {N C : RF} {f c : Nat → RF} (hf : ∀ i pc ls st s v, N i pc ls st s = some v → ∃ n, f n i pc ls st s = some v) (hc : ∀ i pc ls st s v, C i pc ls st s = some v → ∃ n, c n i pc ls st s = some v) (mf : Mo f) (mc : Mo c) {i pc : Nat} {ls : LO} {st : List AV} {s : SS} {v : Option AV × SS} (h : body N C i pc ls st s = some v) : ∃ n, body (f n) (c n) i pc ls st s = some v := by
  unfold body at h ⊢
  split at h
  · cases h
  · split at h
    · exact opx_c hf hc mf mc h
    · exact frc_c (fun _ _ h => opx_c hf hc mf mc h) h
theorem Mo_k (f : RF) : Mo (fun _ => f) := fun _ _ _ _ _ _ _ _ _ h => h
theorem body_mono {N C N' C' : RF} (hf : ∀ i pc ls st s v, N i pc ls st s = some v → N' i pc ls st s = some v) (hc : ∀ i pc ls st s v, C i pc ls st s = some v → C' i pc ls st s = some v) {i pc : Nat} {ls : LO} {st : List AV} {s : SS} {v : Option AV × SS} (h : body N C i pc ls st s = some v) : body N' C' i pc ls st s = some v :=
  (body_c (f := fun _ => N') (c := fun _ => C') (fun i pc ls st s v h => ⟨0, hf i pc ls st s v h⟩) (fun i pc ls st s v h => ⟨0, hc i pc ls st s v h⟩) (Mo_k _) (Mo_k _) h).choose_spec
theorem run_s : ∀ n i pc ls st s v, run n i pc ls st s = some v → run (n + 1) i pc ls st s = some v
  | 0, _, _, _, _, _, _, h => by cases h
  | n + 1, _, _, _, _, _, _, h => body_mono (run_s n) (run_s n) h
theorem run_mo : Mo run := by
  intro n m i pc ls st s v hnm h
  induction m with
  | zero => rw [Nat.le_zero.mp hnm] at h; exact h
  | succ m ih =>
    by_cases q : n = m + 1
    · subst q; exact h
    · exact run_s _ _ _ _ _ _ _ (ih (by omega))
noncomputable def ev : RF := fun i pc ls st s => Classical.epsilon (fun o : RE => (∃ n v, run n i pc ls st s = some v ∧ o = some v) ∨ ((∀ n, run n i pc ls st s = none) ∧ o = none))
theorem ev_sp (i pc : Nat) (ls : LO) (st : List AV) (s : SS) : (∃ n v, run n i pc ls st s = some v ∧ ev i pc ls st s = some v) ∨ ((∀ n, run n i pc ls st s = none) ∧ ev i pc ls st s = none) := by
  apply Classical.epsilon_spec (p := fun o : RE => (∃ n v, run n i pc ls st s = some v ∧ o = some v) ∨ ((∀ n, run n i pc ls st s = none) ∧ o = none))
  by_cases h : ∃ n v, run n i pc ls st s = some v
  · obtain ⟨n, v, h⟩ := h
    exact ⟨some v, Or.inl ⟨n, v, h, rfl⟩⟩
  · refine ⟨none, Or.inr ⟨fun n => ?_, rfl⟩⟩
    cases hr : run n i pc ls st s with
    | none => rfl
    | some v => exact absurd ⟨n, v, hr⟩ h
theorem ev_of {n i pc : Nat} {ls : LO} {st : List AV} {s : SS} {v : Option AV × SS} (h : run n i pc ls st s = some v) : ev i pc ls st s = some v := by
  rcases ev_sp i pc ls st s with ⟨m, w, h1, h2⟩ | ⟨h1, -⟩
  · have a := run_mo _ _ _ _ _ _ _ _ (Nat.le_max_left n m) h
    have b := run_mo _ _ _ _ _ _ _ _ (Nat.le_max_right n m) h1
    rw [a] at b
    rw [h2, b]
  · rw [h1 n] at h
    cases h
theorem ev_run {i pc : Nat} {ls : LO} {st : List AV} {s : SS} {v : Option AV × SS} (h : ev i pc ls st s = some v) : ∃ n, run n i pc ls st s = some v := by
  rcases ev_sp i pc ls st s with ⟨m, w, h1, h2⟩ | ⟨-, h2⟩
  · rw [h2] at h
    exact ⟨m, by rw [h1, h]⟩
  · rw [h2] at h
    cases h
theorem ev_fix (i pc : Nat) (ls : LO) (st : List AV) (s : SS) : ev i pc ls st s = body ev ev i pc ls st s := by
  cases h : ev i pc ls st s with
  | some v =>
    obtain ⟨n, hn⟩ := ev_run h
    cases n with
    | zero => cases hn
    | succ n => exact (body_mono (fun _ _ _ _ _ _ h => ev_of h) (fun _ _ _ _ _ _ h => ev_of h) hn).symm
  | none =>
    cases hb : body ev ev i pc ls st s with
    | none => rfl
    | some v =>
      obtain ⟨n, hn⟩ := body_c (fun _ _ _ _ _ _ h => ev_run h) (fun _ _ _ _ _ _ h => ev_run h) run_mo run_mo hb
      have : ev i pc ls st s = some v := ev_of (n := n + 1) hn
      rw [h] at this
      cases this
theorem kil_len : ∀ (ks : List Nat) (ls : LO), (kil ks ls).length = ls.length
  | [], ls => by
    unfold kil
    rfl
  | _ :: _, [] => rfl
  | k :: m, a :: r => by
    show (_ :: kil m r).length = _
    rw [List.length_cons, kil_len m r, List.length_cons]
theorem kil_at {v : AV} : ∀ (ks : List Nat) (ls : LO) (q : Nat), (kil ks ls)[q]? = some (some v) → ls[q]? = some (some v)
  | [], ls, q, h => by
    unfold kil at h
    exact h
  | _ :: _, [], q, h => h
  | k :: m, a :: r, q, h => by
    cases q with
    | zero =>
      cases k with
      | zero => cases h
      | succ k => exact h
    | succ q => exact kil_at m r q h
theorem kil_kil : ∀ (ks : List Nat) (ls : LO), kil ks (kil ks ls) = kil ks ls
  | [], ls => by
    unfold kil
    rfl
  | _ :: _, [] => rfl
  | k :: m, a :: r => by
    show _ :: kil m (kil m r) = _ :: kil m r
    rw [kil_kil m r]
    congr 1
    cases k with
    | zero => rfl
    | succ k => rfl
def kilA (i pc : Nat) (ls : LO) : LO := match lkp (mtab i) pc with
  | none => ls
  | some en => kil (enK en) ls
theorem ev_kil (i pc : Nat) (ls : LO) (st : List AV) (s : SS) : ev i pc (kilA i pc ls) st s = ev i pc ls st s := by
  rw [ev_fix, ev_fix i pc ls]
  unfold body kilA
  cases lkp (mtab i) pc with
  | none => rfl
  | some en =>
    cases h : enK en with
    | nil => simp only [h]; unfold kil; rfl
    | cons k r => simp only [h, frc_eq, kil_kil]
/-- many steps at once, up to the stops -/
noncomputable def goS (stops : List Nat) : Nat → RF
  | 0 => ev
  | n + 1 => fun i pc ls st s => bif stops.contains pc then ev i pc (kilA i pc ls) st s else body (goS stops n) ev i pc ls st s
theorem goS_ev (stops : List Nat) : ∀ n, goS stops n = ev
  | 0 => rfl
  | n + 1 => by
    funext i pc ls st s
    unfold goS
    rw [goS_ev stops n]
    cases stops.contains pc
    · exact (ev_fix i pc ls st s).symm
    · exact ev_kil i pc ls st s
theorem ev_go (stops : List Nat) (n i pc : Nat) (ls : LO) (st : List AV) (s : SS) : ev i pc ls st s = body (goS stops n) ev i pc ls st s := by
  rw [goS_ev]
  exact ev_fix i pc ls st s
