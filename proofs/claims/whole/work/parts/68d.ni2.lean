theorem copyx_m {P : Nat → Bool} {q : Bool} {g s : SS} {st : List AV} {F F' : List AV → SS → RE} (hs : nS_k P st) (h : ∀ r t, nS_k P r → F' r (mg P q g t) = mr P q g (F r t)) : copyx st (mg P q g s) F' = mr P q g (copyx st s F) := by
  rcases st with _ | ⟨a, _ | ⟨b, _ | ⟨c, _ | ⟨d, _ | ⟨e, r⟩⟩⟩⟩⟩
  · rfl
  · rcases a with x | x | x <;> rfl
  · rcases a with x | x | x <;> rcases b with y | y | y <;> rfl
  · rcases a with x | x | x <;> rcases b with y | y | y <;> rcases c with z | z | z <;> rfl
  · rcases a with x | x | x <;> rcases b with y | y | y <;> rcases c with z | z | z <;> rcases d with w | w | w <;> rfl
  · rcases a with x | x | x <;> rcases b with y | y | y <;> rcases c with z | z | ⟨kd, j⟩ <;> rcases d with w | w | w <;> rcases e with v | v | ⟨k0, j0⟩ <;> first | rfl | skip
    have hk : P kd = true := nSk_h (nSk_t (nSk_t hs))
    have h0 : P k0 = true := nSk_h (nSk_t (nSk_t (nSk_t (nSk_t hs))))
    have hr := nSk_t (nSk_t (nSk_t (nSk_t (nSk_t hs))))
    unfold copyx
    refine bif_x (fun _ => ?_)
    have e1 : (mg P q g s).1 k0 j0 = s.1 k0 j0 := by
      funext i
      exact mg_1 h0 _ _
    have e2 : (mg P q g s).1 kd j = s.1 kd j := by
      funext i
      exact mg_1 hk _ _
    rw [e1, e2, mg_wA hk]
    exact if_m (h _ _ hr) rfl
theorem cV_m {P : Nat → Bool} {q : Bool} {g : SS} {r r' : RE} {F F' : SS → RE} (hr : r' = mr P q g r) (h : ∀ t, F' (mg P q g t) = mr P q g (F t)) : cV r' F' = mr P q g (cV r F) := by
  rw [hr]
  rcases r with _ | ⟨_ | (x | x | x), t⟩
  · rfl
  · exact h t
  · rfl
  · rfl
  · rfl
theorem cI_m {P : Nat → Bool} {q : Bool} {g : SS} {r r' : RE} {F F' : Int32 → SS → RE} (hr : r' = mr P q g r) (h : ∀ x t, F' x (mg P q g t) = mr P q g (F x t)) : cI r' F' = mr P q g (cI r F) := by
  rw [hr]
  rcases r with _ | ⟨_ | (x | x | x), t⟩
  · rfl
  · rfl
  · exact h x t
  · rfl
  · rfl
theorem cL_m {P : Nat → Bool} {q : Bool} {g : SS} {r r' : RE} {F F' : Int64 → SS → RE} (hr : r' = mr P q g r) (h : ∀ x t, F' x (mg P q g t) = mr P q g (F x t)) : cL r' F' = mr P q g (cL r F) := by
  rw [hr]
  rcases r with _ | ⟨_ | (x | x | x), t⟩
  · rfl
  · rfl
  · rfl
  · exact h x t
  · rfl
def NIr (P M : Nat → Bool) (q : Bool) (g : SS) (f : RF) : Prop := ∀ i pc ls st s, M i = true → nL_k P ls → nS_k P st → f i pc ls st (mg P q g s) = mr P q g (f i pc ls st s)
theorem callx_m {P M : Nat → Bool} {q : Bool} {g s : SS} {C : RF} {a nb rc mx : Nat} {as rest : List AV} {F F' : List AV → SS → RE} (hC : NIr P M q g C) (ha : M a = true) (hs : nS_k P as) (hr : nS_k P rest) (h : ∀ r t, nS_k P r → F' r (mg P q g t) = mr P q g (F r t)) : callx C a nb rc mx as rest (mg P q g s) F' = mr P q g (callx C a nb rc mx as rest s F) := by
  unfold callx
  refine bif_x (fun _ => ?_)
  have hc := hC a 0 (entL as mx) [] s ha (nLk_ent hs mx) (fun v hv => absurd hv List.not_mem_nil)
  match rc with
  | 0 => exact cV_m hc (fun t => h _ _ hr)
  | 1 => exact cI_m hc (fun x t => h _ _ (nSk_c trivial hr))
  | (n + 2) => exact cL_m hc (fun x t => h _ _ (nSk_c trivial hr))
theorem retx_m {P : Nat → Bool} {q : Bool} {g s : SS} {st : List AV} {d : Nat} : retx st d (mg P q g s) = mr P q g (retx st d s) := by
  rcases st with _ | ⟨a, _ | ⟨b, r⟩⟩
  · unfold retx
    exact bif_x (fun _ => rfl)
  · rcases a with x | x | x
    · unfold retx
      refine bif_m rfl (bif_x (fun _ => bif_x (fun _ => rfl)))
    · unfold retx
      exact bif_x (fun _ => rfl)
    · rfl
  · rcases a with x | x | x <;> rfl
theorem take_k {P : Nat → Bool} {st : List AV} (h : nS_k P st) (b : Nat) : nS_k P (st.take b).reverse := fun v hv => h v (List.mem_of_mem_take (List.mem_reverse.mp hv))
theorem drop_k {P : Nat → Bool} {st : List AV} (h : nS_k P st) (b : Nat) : nS_k P (st.drop b) := fun v hv => h v (List.mem_of_mem_drop hv)
set_option maxHeartbeats 2000000 in
theorem opx_m {P M : Nat → Bool} {q : Bool} {g s : SS} {N C : RF} (cl : CLo P q) (hN : NIr P M q g N) (hC : NIr P M q g C) {i pc : Nat} {en : En} {ls : LO} {st : List AV} (hi : M i = true) (he : nE_k P M en) (hl : nL_k P ls) (hs : nS_k P st) : opx N C i pc en ls st (mg P q g s) = mr P q g (opx N C i pc en ls st s) := by
  obtain ⟨ins, len, a, b, d, e, f, pos, cv, lv, sw, ks⟩ := en
  have ki : ∀ {x : Int32} {r : List AV}, nS_k P r → nS_k P (.inl x :: r) := fun h => nSk_c trivial h
  have kl : ∀ {x : Int64} {r : List AV}, nS_k P r → nS_k P (.inr (.inl x) :: r) := fun h => nSk_c trivial h
  have n0 : ∀ {pc : Nat} {ls : LO} {st : List AV} {s : SS}, nL_k P ls → nS_k P st → N i pc ls st (mg P q g s) = mr P q g (N i pc ls st s) := fun hl hs => hN _ _ _ _ _ hi hl hs
  have fr : ∀ {l : LO} {F F' : LO → RE}, nL_k P l → (nL_k P l → F' l = mr P q g (F l)) → frc l F' = mr P q g (frc l F) := fun h1 h2 => by
    rw [frc_eq, frc_eq]
    exact h2 h1
  cases ins with
  | iconst => exact n0 hl (ki hs)
  | bipush => exact n0 hl (ki hs)
  | sipush => exact n0 hl (ki hs)
  | ldc => exact n0 hl (ki hs)
  | ldc_w => exact n0 hl (ki hs)
  | lconst => exact n0 hl (kl hs)
  | ldc2_w => exact n0 hl (kl hs)
  | iload k => exact ldx_m (F := fun w => N i (pc + len) ls (w :: st) s) (F' := fun w => N i (pc + len) ls (w :: st) (mg P q g s)) hl (fun v hv => n0 hl (nSk_c hv hs))
  | iload_n k => exact ldx_m (F := fun w => N i (pc + len) ls (w :: st) s) (F' := fun w => N i (pc + len) ls (w :: st) (mg P q g s)) hl (fun v hv => n0 hl (nSk_c hv hs))
  | lload k => exact ldx_m (F := fun w => N i (pc + len) ls (w :: st) s) (F' := fun w => N i (pc + len) ls (w :: st) (mg P q g s)) hl (fun v hv => n0 hl (nSk_c hv hs))
  | lload_n k => exact ldx_m (F := fun w => N i (pc + len) ls (w :: st) s) (F' := fun w => N i (pc + len) ls (w :: st) (mg P q g s)) hl (fun v hv => n0 hl (nSk_c hv hs))
  | aload k => exact ldx_m (F := fun w => N i (pc + len) ls (w :: st) s) (F' := fun w => N i (pc + len) ls (w :: st) (mg P q g s)) hl (fun v hv => n0 hl (nSk_c hv hs))
  | aload_n k => exact ldx_m (F := fun w => N i (pc + len) ls (w :: st) s) (F' := fun w => N i (pc + len) ls (w :: st) (mg P q g s)) hl (fun v hv => n0 hl (nSk_c hv hs))
  | istore k => exact op1i_m hs (fun x r hr => fr (nLk_1 hl k (v := .inl x) trivial) (fun h => n0 h hr))
  | istore_n k => exact op1i_m hs (fun x r hr => fr (nLk_1 hl k.val (v := .inl x) trivial) (fun h => n0 h hr))
  | lstore k => exact op1l_m hs (fun x r hr => fr (nLk_2 hl k (v := .inr (.inl x)) trivial) (fun h => n0 h hr))
  | lstore_n k => exact op1l_m hs (fun x r hr => fr (nLk_2 hl k.val (v := .inr (.inl x)) trivial) (fun h => n0 h hr))
  | astore k => exact op1r_m hs (fun kd j r hk hr => fr (nLk_1 hl k (v := .inr (.inr (kd, j))) hk) (fun h => n0 h hr))
  | astore_n k => exact op1r_m hs (fun kd j r hk hr => fr (nLk_1 hl k.val (v := .inr (.inr (kd, j))) hk) (fun h => n0 h hr))
  | iinc k _ =>
    refine ldx_m (F := fun v => match v with
      | .inl x => frc (st1 ls k (.inl (x + cv))) (fun l => N i (pc + len) l st s)
      | _ => none) (F' := fun v => match v with
      | .inl x => frc (st1 ls k (.inl (x + cv))) (fun l => N i (pc + len) l st (mg P q g s))
      | _ => none) hl (fun v _ => ?_)
    rcases v with x | x | x
    · exact fr (nLk_1 hl k (v := .inl (x + cv)) trivial) (fun h => n0 h hs)
    · rfl
    · rfl
  | iadd => exact op2i_m hs (fun x y r hr => n0 hl (ki hr))
  | isub => exact op2i_m hs (fun x y r hr => n0 hl (ki hr))
  | imul => exact op2i_m hs (fun x y r hr => n0 hl (ki hr))
  | iand => exact op2i_m hs (fun x y r hr => n0 hl (ki hr))
  | ior => exact op2i_m hs (fun x y r hr => n0 hl (ki hr))
  | ixor => exact op2i_m hs (fun x y r hr => n0 hl (ki hr))
  | idiv => exact op2i_m hs (fun x y r hr => if_m rfl (n0 hl (ki hr)))
  | irem => exact op2i_m hs (fun x y r hr => if_m rfl (n0 hl (ki hr)))
  | ineg => exact op1i_m hs (fun x r hr => n0 hl (ki hr))
  | ishl => exact op2i_m hs (fun x y r hr => n0 hl (ki hr))
  | ishr => exact op2i_m hs (fun x y r hr => n0 hl (ki hr))
  | iushr => exact op2i_m hs (fun x y r hr => n0 hl (ki hr))
  | ladd => exact op2l_m hs (fun x y r hr => n0 hl (kl hr))
  | lsub => exact op2l_m hs (fun x y r hr => n0 hl (kl hr))
  | lmul => exact op2l_m hs (fun x y r hr => n0 hl (kl hr))
  | land => exact op2l_m hs (fun x y r hr => n0 hl (kl hr))
  | lor => exact op2l_m hs (fun x y r hr => n0 hl (kl hr))
  | ldiv => exact op2l_m hs (fun x y r hr => if_m rfl (n0 hl (kl hr)))
  | lrem => exact op2l_m hs (fun x y r hr => if_m rfl (n0 hl (kl hr)))
  | lneg => exact op1l_m hs (fun x r hr => n0 hl (kl hr))
  | lcmp => exact op2l_m hs (fun x y r hr => n0 hl (ki hr))
  | lshl => exact opli_m hs (fun x y r hr => n0 hl (kl hr))
  | lshr => exact opli_m hs (fun x y r hr => n0 hl (kl hr))
  | lushr => exact opli_m hs (fun x y r hr => n0 hl (kl hr))
  | i2l => exact op1i_m hs (fun x r hr => n0 hl (kl hr))
  | l2i => exact op1l_m hs (fun x r hr => n0 hl (ki hr))
  | i2b => exact op1i_m hs (fun x r hr => n0 hl (ki hr))
  | dup => exact dupx_m hs (fun r hr => n0 hl hr)
  | dup2 => exact dup2x_m hs (fun r hr => n0 hl hr)
  | pop => exact popx_m hs (fun r hr => n0 hl hr)
  | goto => exact n0 hl hs
  | ifCond c _ => cases c <;> exact op1i_m hs (fun x r hr => if_m (n0 hl hr) (n0 hl hr))
  | if_icmp c _ => cases c <;> exact op2i_m hs (fun x y r hr => if_m (n0 hl hr) (n0 hl hr))
  | tableswitch => exact op1i_m hs (fun x r hr => swl_m (fun t => n0 hl hr) sw)
  | lookupswitch => exact op1i_m hs (fun x r hr => swl_m (fun t => n0 hl hr) sw)
  | getfield => exact op1r_m hs (fun kd j r hk hr => getx_m cl hk he (fun v hv => n0 hl (nSk_c hv hr)))
  | putfield => exact putx_m cl hs (fun r t hr => n0 hl hr)
  | iaload => exact opix_m hs (fun x kd j r hk hr => aldx_m cl hk (fun v hv => n0 hl (nSk_c hv hr)))
  | laload => exact opix_m hs (fun x kd j r hk hr => aldx_m cl hk (fun v hv => n0 hl (nSk_c hv hr)))
  | baload => exact opix_m hs (fun x kd j r hk hr => aldx_m cl hk (fun v hv => n0 hl (nSk_c hv hr)))
  | aaload => exact opix_m hs (fun x kd j r hk hr => aldx_m cl hk (fun v hv => n0 hl (nSk_c hv hr)))
  | iastore => exact astx_m (s := s) (t := 1) (st := st) (F := fun r s1 => N i (pc + len) ls r s1) (F' := fun r s1 => N i (pc + len) ls r s1) cl hs (fun r t hr => n0 hl hr)
  | lastore => exact astx_m (s := s) (t := 2) (st := st) (F := fun r s1 => N i (pc + len) ls r s1) (F' := fun r s1 => N i (pc + len) ls r s1) cl hs (fun r t hr => n0 hl hr)
  | bastore => exact astx_m (s := s) (t := 3) (st := st) (F := fun r s1 => N i (pc + len) ls r s1) (F' := fun r s1 => N i (pc + len) ls r s1) cl hs (fun r t hr => n0 hl hr)
  | aastore => exact astx_m (s := s) (t := 4) (st := st) (F := fun r s1 => N i (pc + len) ls r s1) (F' := fun r s1 => N i (pc + len) ls r s1) cl hs (fun r t hr => n0 hl hr)
  | arraylength => exact op1r_m hs (fun kd j r hk hr => alnx_m cl hk (fun x => n0 hl (ki hr)))
  | invokestatic =>
    have he' : a = 999 ∨ a = 993 ∨ a = 994 ∨ a = 996 ∨ M a = true := he
    have cp := copyx_m (s := s) (F := fun r s1 => N i (pc + len) ls r s1) (F' := fun r s1 => N i (pc + len) ls r s1) hs (fun r t hr => n0 hl hr)
    rcases he' with h | h | h | h | h
    · subst h
      exact cp
    · subst h
      exact op1i_m hs (fun x r hr => bif_x (fun _ => n0 hl (ki hr)))
    · subst h
      exact op1l_m hs (fun x r hr => bif_x (fun _ => n0 hl (kl hr)))
    · subst h
      exact op2i_m hs (fun x y r hr => bif_x (fun _ => n0 hl (ki hr)))
    · exact bif_m cp (bif_m (op1i_m hs (fun x r hr => bif_x (fun _ => n0 hl (ki hr)))) (bif_m (op1l_m hs (fun x r hr => bif_x (fun _ => n0 hl (kl hr)))) (bif_m (op2i_m hs (fun x y r hr => bif_x (fun _ => n0 hl (ki hr)))) (callx_m hC h (take_k hs b) (drop_k hs b) (fun r t hr => n0 hl hr)))))
  | invokevirtual => exact bif_x (fun _ => callx_m hC he (take_k hs b) (drop_k hs b) (fun r t hr => n0 hl hr))
  | ireturn => exact retx_m
  | lreturn => exact retx_m
  | return_ => exact retx_m
  | _ => rfl
/-- all a set of methods reaches -/
def nT_k (P M : Nat → Bool) : Prop := ∀ i pc en, M i = true → lkp (mtab i) pc = some en → nE_k P M en
theorem run_m {P M : Nat → Bool} {q : Bool} {g : SS} (cl : CLo P q) (ht : nT_k P M) : ∀ n, NIr P M q g (run n)
  | 0 => fun _ _ _ _ _ _ _ _ => rfl
  | n + 1 => fun i pc ls st s hi hl hs => by
    show body (run n) (run n) i pc ls st (mg P q g s) = mr P q g (body (run n) (run n) i pc ls st s)
    unfold body
    cases h : lkp (mtab i) pc with
    | none => rfl
    | some en =>
      have he := ht i pc en hi h
      simp only
      cases hk : enK en with
      | nil => exact opx_m cl (run_m cl ht n) (run_m cl ht n) hi he hl hs
      | cons k r =>
        show frc (kil (k :: r) ls) _ = mr P q g (frc (kil (k :: r) ls) _)
        rw [frc_eq, frc_eq]
        exact opx_m cl (run_m cl ht n) (run_m cl ht n) hi he (nLk_kil hl _) hs
theorem ev_m {P M : Nat → Bool} {q : Bool} {g : SS} (cl : CLo P q) (ht : nT_k P M) {i : Nat} {ls : LO} {s t : SS} {a : Option AV} (hi : M i = true) (hl : nL_k P ls) (h : ev i 0 ls [] s = some (a, t)) : ev i 0 ls [] (mg P q g s) = some (a, mg P q g t) := by
  obtain ⟨n, hn⟩ := ev_run h
  have := run_m (g := g) cl ht n i 0 ls [] s hi hl (fun v hv => absurd hv List.not_mem_nil)
  rw [hn] at this
  exact ev_of this
