/-! what a method can't reach it neither sees nor changes -/
def mg (P : Nat → Bool) (q : Bool) (g s : SS) : SS := (fun a b c => bif P a then s.1 a b c else g.1 a b c, fun a b c => bif P a then s.2.1 a b c else g.2.1 a b c, bif q then s.2.2 else g.2.2)
def mr (P : Nat → Bool) (q : Bool) (g : SS) (r : RE) : RE := match r with
  | none => none
  | some (a, t) => some (a, mg P q g t)
def nV_k (P : Nat → Bool) (v : AV) : Prop := match v with
  | .inr (.inr (k, _)) => P k = true
  | _ => True
def nS_k (P : Nat → Bool) (st : List AV) : Prop := ∀ v, v ∈ st → nV_k P v
def nL_k (P : Nat → Bool) (ls : LO) : Prop := ∀ v, some v ∈ ls → nV_k P v
def CLo (P : Nat → Bool) (q : Bool) : Prop := (∀ kd, P kd = true → kar kd ≠ 6) ∧ (P 0 = true → q = true ∧ P 13 = true) ∧ (∀ kd, P kd = true → kar kd = 4 → P (kd + 4) = true) ∧ ∀ kd, P kd = true → kar kd = 5 → q = true ∧ P 13 = true
def nE_k (P M : Nat → Bool) (en : En) : Prop := match en with
  | (ins, _, a, b, d, _, _, _, _, _, _, _) => match ins with
    | .getfield _ => d = 2 → ∀ kd, P kd = true → kcl kd = a → P ((rfT kd).getD b 0) = true
    | .invokestatic _ => a = 999 ∨ a = 993 ∨ a = 994 ∨ a = 996 ∨ M a = true
    | .invokevirtual _ => M a = true
    | _ => True
theorem nSk_t {P : Nat → Bool} {v : AV} {r : List AV} (h : nS_k P (v :: r)) : nS_k P r := fun w hw => h w (List.mem_cons_of_mem _ hw)
theorem nSk_c {P : Nat → Bool} {v : AV} {r : List AV} (hv : nV_k P v) (h : nS_k P r) : nS_k P (v :: r) := fun w hw => by
  rcases List.mem_cons.mp hw with e | e
  · rw [e]; exact hv
  · exact h w e
theorem nSk_h {P : Nat → Bool} {v : AV} {r : List AV} (h : nS_k P (v :: r)) : nV_k P v := h v List.mem_cons_self
theorem mg_1 {P : Nat → Bool} {q : Bool} {g s : SS} {a : Nat} (h : P a = true) (b c : Nat) : (mg P q g s).1 a b c = s.1 a b c := by
  show (bif P a then _ else _) = _
  rw [h]
  rfl
theorem mg_2 {P : Nat → Bool} {q : Bool} {g s : SS} {a : Nat} (h : P a = true) (b c : Nat) : (mg P q g s).2.1 a b c = s.2.1 a b c := by
  show (bif P a then _ else _) = _
  rw [h]
  rfl
theorem mg_3 {P : Nat → Bool} {q : Bool} {g s : SS} (h : q = true) : (mg P q g s).2.2 = s.2.2 := by
  show (bif q then _ else _) = _
  rw [h]
  rfl
theorem mg_wI {P : Nat → Bool} {q : Bool} {g s : SS} {k : Nat} (h : P k = true) (j i : Nat) (v : Int32) : wI (mg P q g s) k j i v = mg P q g (wI s k j i v) := by
  unfold wI mg
  congr 1
  funext a b c
  by_cases e : a = k ∧ b = j ∧ c = i
  · simp only [if_pos e]
    rw [e.1, h]
    rfl
  · simp only [if_neg e]
theorem mg_wL {P : Nat → Bool} {q : Bool} {g s : SS} {k : Nat} (h : P k = true) (j i : Nat) (v : Int64) : wL (mg P q g s) k j i v = mg P q g (wL s k j i v) := by
  unfold wL mg
  congr 2
  funext a b c
  by_cases e : a = k ∧ b = j ∧ c = i
  · simp only [if_pos e]
    rw [e.1, h]
    rfl
  · simp only [if_neg e]
theorem mg_wA {P : Nat → Bool} {q : Bool} {g s : SS} {k : Nat} (h : P k = true) (j : Nat) (f : Nat → Int32) : wA (mg P q g s) k j f = mg P q g (wA s k j f) := by
  unfold wA mg
  congr 1
  funext a b c
  by_cases e : a = k ∧ b = j
  · simp only [if_pos e]
    rw [e.1, h]
    rfl
  · simp only [if_neg e]
theorem mg_wR {P : Nat → Bool} {q : Bool} {g s : SS} (h : q = true) (i v : Nat) : wR (mg P q g s) i v = mg P q g (wR s i v) := by
  unfold wR mg
  congr 2
  rw [h]
  rfl
/-! slots -/
theorem mem_set {l : LO} {i : Nat} {a b : Option AV} (h : a ∈ l.set i b) : a ∈ l ∨ a = b := List.mem_or_eq_of_mem_set h
theorem nLk_clr {P : Nat → Bool} {ls : LO} (h : nL_k P ls) (k : Nat) : nL_k P (clr ls k) := by
  unfold clr
  split
  · exact h
  · cases isLg (ls.getD _ none)
    · exact h
    · intro v hv
      rcases mem_set hv with e | e
      · exact h v e
      · cases e
theorem nLk_set {P : Nat → Bool} {ls : LO} (h : nL_k P ls) (k : Nat) {v : AV} (hv : nV_k P v) : nL_k P (ls.set k (some v)) := by
  intro w hw
  rcases mem_set hw with e | e
  · exact h w e
  · cases e
    exact hv
theorem nLk_sn {P : Nat → Bool} {ls : LO} (h : nL_k P ls) (k : Nat) : nL_k P (ls.set k none) := by
  intro w hw
  rcases mem_set hw with e | e
  · exact h w e
  · cases e
theorem nLk_1 {P : Nat → Bool} {ls : LO} (h : nL_k P ls) (k : Nat) {v : AV} (hv : nV_k P v) : nL_k P (st1 ls k v) := nLk_set (nLk_clr h k) k hv
theorem nLk_2 {P : Nat → Bool} {ls : LO} (h : nL_k P ls) (k : Nat) {v : AV} (hv : nV_k P v) : nL_k P (st2 ls k v) := nLk_sn (nLk_set (nLk_clr h k) k hv) (k + 1)
theorem mem_kil {v : AV} : ∀ (ks : List Nat) (ls : LO), some v ∈ kil ks ls → some v ∈ ls
  | [], ls, h => by
    cases ls <;> exact h
  | k :: m, [], h => by
    cases h
  | 0 :: m, a :: r, h => by
    have h' : some v ∈ none :: kil m r := h
    rcases List.mem_cons.mp h' with e | e
    · cases e
    · exact List.mem_cons_of_mem _ (mem_kil m r e)
  | (k + 1) :: m, a :: r, h => by
    have h' : some v ∈ a :: kil m r := h
    rcases List.mem_cons.mp h' with e | e
    · rw [e]
      exact List.mem_cons_self
    · exact List.mem_cons_of_mem _ (mem_kil m r e)
theorem nLk_kil {P : Nat → Bool} {ls : LO} (h : nL_k P ls) (ks : List Nat) : nL_k P (kil ks ls) := fun v hv => h v (mem_kil ks ls hv)
theorem mem_entA {v : AV} : ∀ (as : List AV), some v ∈ entA as → v ∈ as
  | [], h => by cases h
  | .inl x :: r, h => by
    have h' : some v ∈ some (.inl x) :: entA r := h
    rcases List.mem_cons.mp h' with e | e
    · cases e
      exact List.mem_cons_self
    · exact List.mem_cons_of_mem _ (mem_entA r e)
  | .inr (.inl x) :: r, h => by
    have h' : some v ∈ some (.inr (.inl x)) :: none :: entA r := h
    rcases List.mem_cons.mp h' with e | e
    · cases e
      exact List.mem_cons_self
    · rcases List.mem_cons.mp e with e | e
      · cases e
      · exact List.mem_cons_of_mem _ (mem_entA r e)
  | .inr (.inr a) :: r, h => by
    have h' : some v ∈ some (.inr (.inr a)) :: entA r := h
    rcases List.mem_cons.mp h' with e | e
    · cases e
      exact List.mem_cons_self
    · exact List.mem_cons_of_mem _ (mem_entA r e)
theorem mem_padL {v : AV} : ∀ (n : Nat) (ls : LO), some v ∈ padL n ls → some v ∈ ls
  | 0, ls, h => h
  | m + 1, [], h => by
    have h' : some v ∈ none :: padL m [] := h
    rcases List.mem_cons.mp h' with e | e
    · cases e
    · exact absurd (mem_padL m [] e) List.not_mem_nil
  | m + 1, a :: r, h => by
    have h' : some v ∈ a :: padL m r := h
    rcases List.mem_cons.mp h' with e | e
    · rw [e]
      exact List.mem_cons_self
    · exact List.mem_cons_of_mem _ (mem_padL m r e)
theorem nLk_ent {P : Nat → Bool} {as : List AV} (h : nS_k P as) (n : Nat) : nL_k P (entL as n) := fun v hv => h v (mem_entA as (mem_padL n _ hv))
theorem mem_getD {v : AV} : ∀ (ls : LO) (k : Nat), ls.getD k none = some v → some v ∈ ls
  | [], k, h => by
    cases k <;> cases h
  | a :: r, 0, h => by
    have h' : a = some v := h
    rw [← h']
    exact List.mem_cons_self
  | a :: r, k + 1, h => List.mem_cons_of_mem _ (mem_getD r k h)
/-! helper by helper -/
theorem ldx_m {P : Nat → Bool} {q : Bool} {g : SS} {ls : LO} {k t : Nat} {F F' : AV → RE} (hl : nL_k P ls) (h : ∀ v, nV_k P v → F' v = mr P q g (F v)) : ldx ls k t F' = mr P q g (ldx ls k t F) := by
  unfold ldx
  cases e : ls.getD k none with
  | none => rfl
  | some v =>
    have hv := hl v (mem_getD ls k e)
    rcases v with x | x | x
    · cases Nat.beq t 0
      · rfl
      · exact h _ hv
    · cases Nat.beq t 1
      · rfl
      · exact h _ hv
    · cases Nat.beq t 2
      · rfl
      · exact h _ hv
theorem op1i_m {P : Nat → Bool} {q : Bool} {g : SS} {st : List AV} {F F' : Int32 → List AV → RE} (hs : nS_k P st) (h : ∀ x r, nS_k P r → F' x r = mr P q g (F x r)) : op1i st F' = mr P q g (op1i st F) := by
  rcases st with _ | ⟨a, r⟩
  · rfl
  · rcases a with x | x | x
    · exact h _ _ (nSk_t hs)
    · rfl
    · rfl
theorem op1l_m {P : Nat → Bool} {q : Bool} {g : SS} {st : List AV} {F F' : Int64 → List AV → RE} (hs : nS_k P st) (h : ∀ x r, nS_k P r → F' x r = mr P q g (F x r)) : op1l st F' = mr P q g (op1l st F) := by
  rcases st with _ | ⟨a, r⟩
  · rfl
  · rcases a with x | x | x
    · rfl
    · exact h _ _ (nSk_t hs)
    · rfl
theorem op1r_m {P : Nat → Bool} {q : Bool} {g : SS} {st : List AV} {F F' : Nat → Nat → List AV → RE} (hs : nS_k P st) (h : ∀ k j r, P k = true → nS_k P r → F' k j r = mr P q g (F k j r)) : op1r st F' = mr P q g (op1r st F) := by
  rcases st with _ | ⟨a, r⟩
  · rfl
  · rcases a with x | x | ⟨k, j⟩
    · rfl
    · rfl
    · exact h _ _ _ (nSk_h hs) (nSk_t hs)
theorem op2i_m {P : Nat → Bool} {q : Bool} {g : SS} {st : List AV} {F F' : Int32 → Int32 → List AV → RE} (hs : nS_k P st) (h : ∀ x y r, nS_k P r → F' x y r = mr P q g (F x y r)) : op2i st F' = mr P q g (op2i st F) := by
  rcases st with _ | ⟨a, _ | ⟨b, r⟩⟩
  · rfl
  · rcases a with x | x | x <;> rfl
  · rcases a with x | x | x <;> rcases b with y | y | y <;> first | rfl | exact h _ _ _ (nSk_t (nSk_t hs))
theorem op2l_m {P : Nat → Bool} {q : Bool} {g : SS} {st : List AV} {F F' : Int64 → Int64 → List AV → RE} (hs : nS_k P st) (h : ∀ x y r, nS_k P r → F' x y r = mr P q g (F x y r)) : op2l st F' = mr P q g (op2l st F) := by
  rcases st with _ | ⟨a, _ | ⟨b, r⟩⟩
  · rfl
  · rcases a with x | x | x <;> rfl
  · rcases a with x | x | x <;> rcases b with y | y | y <;> first | rfl | exact h _ _ _ (nSk_t (nSk_t hs))
theorem opli_m {P : Nat → Bool} {q : Bool} {g : SS} {st : List AV} {F F' : Int64 → Int32 → List AV → RE} (hs : nS_k P st) (h : ∀ x y r, nS_k P r → F' x y r = mr P q g (F x y r)) : opli st F' = mr P q g (opli st F) := by
  rcases st with _ | ⟨a, _ | ⟨b, r⟩⟩
  · rfl
  · rcases a with x | x | x <;> rfl
  · rcases a with x | x | x <;> rcases b with y | y | y <;> first | rfl | exact h _ _ _ (nSk_t (nSk_t hs))
theorem opix_m {P : Nat → Bool} {q : Bool} {g : SS} {st : List AV} {F F' : Int32 → Nat → Nat → List AV → RE} (hs : nS_k P st) (h : ∀ x k j r, P k = true → nS_k P r → F' x k j r = mr P q g (F x k j r)) : opix st F' = mr P q g (opix st F) := by
  rcases st with _ | ⟨a, _ | ⟨b, r⟩⟩
  · rfl
  · rcases a with x | x | x <;> rfl
  · rcases a with x | x | x <;> rcases b with y | y | ⟨k, j⟩ <;> first | rfl | exact h _ _ _ _ (nSk_h (nSk_t hs)) (nSk_t (nSk_t hs))
theorem swl_m {P : Nat → Bool} {q : Bool} {g : SS} {F F' : Nat → RE} {d : Nat} {x : Int32} (h : ∀ t, F' t = mr P q g (F t)) : ∀ l : List (Int32 × Nat), swl F' d x l = mr P q g (swl F d x l)
  | [] => h d
  | (w, t) :: r => by
    unfold swl
    by_cases e : x = w
    · rw [if_pos e, if_pos e]
      exact h t
    · rw [if_neg e, if_neg e]
      exact swl_m h r
theorem bif_m {P : Nat → Bool} {q : Bool} {g : SS} {c : Bool} {F F' G G' : RE} (h1 : F' = mr P q g F) (h2 : G' = mr P q g G) : (bif c then F' else G') = mr P q g (bif c then F else G) := by
  cases c
  · exact h2
  · exact h1
theorem bif_x {P : Nat → Bool} {q : Bool} {g : SS} {c : Bool} {F F' : RE} (h1 : c = true → F' = mr P q g F) : (bif c then F' else none) = mr P q g (bif c then F else none) := by
  cases c
  · rfl
  · exact h1 rfl
theorem if_m {P : Nat → Bool} {q : Bool} {g : SS} {c : Prop} [Decidable c] {F F' G G' : RE} (h1 : F' = mr P q g F) (h2 : G' = mr P q g G) : (if c then F' else G') = mr P q g (if c then F else G) := by
  split
  · exact h1
  · exact h2
theorem getx_m {P : Nat → Bool} {q : Bool} {g s : SS} {d ci k kd j : Nat} {F F' : AV → RE} (cl : CLo P q) (hk : P kd = true) (he : d = 2 → ∀ kd, P kd = true → kcl kd = ci → P ((rfT kd).getD k 0) = true) (h : ∀ v, nV_k P v → F' v = mr P q g (F v)) : getx (mg P q g s) d ci k kd j F' = mr P q g (getx s d ci k kd j F) := by
  unfold getx
  refine bif_x (fun hc => ?_)
  have hc' : kcl kd = ci := Nat.eq_of_beq_eq_true hc
  match d, he with
  | 0, _ =>
    show F' (.inl ((mg P q g s).1 kd j k)) = _
    rw [mg_1 hk]
    exact h _ trivial
  | 1, _ =>
    show F' (.inr (.inl ((mg P q g s).2.1 kd j k))) = _
    rw [mg_2 hk]
    exact h _ trivial
  | 2, he =>
    show F' (.inr (.inr (rfa (mg P q g s) kd j k))) = mr P q g (F (.inr (.inr (rfa s kd j k))))
    have e : rfa (mg P q g s) kd j k = rfa s kd j k ∧ P (rfa s kd j k).1 = true := by
      unfold rfa
      cases hb : Nat.beq kd 0 && Nat.beq k 6 with
      | true =>
        rw [Bool.and_eq_true] at hb
        have e0 : kd = 0 := Nat.eq_of_beq_eq_true hb.1
        rw [e0] at hk
        exact ⟨by rw [mg_3 (cl.2.1 hk).1], (cl.2.1 hk).2⟩
      | false => exact ⟨rfl, he rfl kd hk hc'⟩
    rw [e.1]
    exact h _ e.2
  | (d + 3), _ =>
    show F' (.inl ((mg P q g s).1 kd j k)) = _
    rw [mg_1 hk]
    exact h _ trivial
theorem putx_m {P : Nat → Bool} {q : Bool} {g s : SS} {d ci k : Nat} {st : List AV} {F F' : List AV → SS → RE} (cl : CLo P q) (hs : nS_k P st) (h : ∀ r t, nS_k P r → F' r (mg P q g t) = mr P q g (F r t)) : putx (mg P q g s) d ci k st F' = mr P q g (putx s d ci k st F) := by
  rcases st with _ | ⟨a, _ | ⟨b, r⟩⟩
  · rfl
  · rcases a with x | x | ⟨kv, jv⟩ <;> rfl
  · rcases b with y | y | ⟨kd, j⟩
    · rcases a with x | x | ⟨kv, jv⟩ <;> rfl
    · rcases a with x | x | ⟨kv, jv⟩ <;> rfl
    · have hk : P kd = true := nSk_h (nSk_t hs)
      have hr := nSk_t (nSk_t hs)
      rcases a with x | x | ⟨kv, jv⟩
      · unfold putx
        refine bif_x (fun _ => ?_)
        match d with
        | 0 =>
          show F' r (wI (mg P q g s) kd j k x) = _
          rw [mg_wI hk]
          exact h _ _ hr
        | 1 => rfl
        | 2 => rfl
        | 3 =>
          show (bif isZ x then F' r (wI (mg P q g s) kd j k x) else none) = _
          rw [mg_wI hk]
          exact bif_x (fun _ => h _ _ hr)
        | (d + 4) => rfl
      · unfold putx
        refine bif_x (fun _ => ?_)
        show F' r (wL (mg P q g s) kd j k x) = _
        rw [mg_wL hk]
        exact h _ _ hr
      · unfold putx
        refine bif_x (fun hc => ?_)
        rw [Bool.and_eq_true, Bool.and_eq_true] at hc
        have e0 : kd = 0 := Nat.eq_of_beq_eq_true hc.2.1
        rw [e0] at hk
        show F' r (wR (mg P q g s) 8 jv) = _
        rw [mg_wR (cl.2.1 hk).1]
        exact h _ _ hr
theorem aldx_m {P : Nat → Bool} {q : Bool} {g s : SS} {t : Nat} {x : Int32} {kd j : Nat} {F F' : AV → RE} (cl : CLo P q) (hk : P kd = true) (h : ∀ v, nV_k P v → F' v = mr P q g (F v)) : aldx (mg P q g s) t x kd j F' = mr P q g (aldx s t x kd j F) := by
  have h6 : Nat.beq (kar kd) 6 = false := by
    cases e : Nat.beq (kar kd) 6 with
    | false => rfl
    | true => exact absurd (Nat.eq_of_beq_eq_true e) (cl.1 kd hk)
  have i1 : ∀ c : Bool, (if c = true then F' (.inl ((mg P q g s).1 kd j x.toNatClampNeg)) else none) = mr P q g (if c = true then F (.inl (s.1 kd j x.toNatClampNeg)) else none) := fun c => by
    rw [mg_1 hk]
    exact if_m (h _ trivial) rfl
  unfold aldx
  match t with
  | 0 =>
    show (bif Nat.beq (kar kd) 4 then _ else bif Nat.beq (kar kd) 5 then _ else none) = mr P q g (bif Nat.beq (kar kd) 4 then _ else bif Nat.beq (kar kd) 5 then _ else none)
    cases e4 : Nat.beq (kar kd) 4 with
    | true => exact if_m (h _ (cl.2.2.1 kd hk (Nat.eq_of_beq_eq_true e4))) rfl
    | false =>
      refine bif_x (fun e5 => ?_)
      have c5 := cl.2.2.2 kd hk (Nat.eq_of_beq_eq_true e5)
      rw [mg_3 c5.1]
      exact if_m (h _ c5.2) rfl
  | 1 =>
    show (bif Nat.beq (kar kd) 6 then _ else bif Nat.beq (kar kd) 1 then _ else none) = mr P q g (bif Nat.beq (kar kd) 6 then _ else bif Nat.beq (kar kd) 1 then _ else none)
    rw [h6]
    exact bif_x (fun _ => i1 _)
  | 2 =>
    refine bif_x (fun _ => ?_)
    rw [mg_2 hk]
    exact if_m (h _ trivial) rfl
  | 3 => exact bif_x (fun _ => i1 _)
  | (t + 4) =>
    show (bif Nat.beq (kar kd) 4 then _ else bif Nat.beq (kar kd) 5 then _ else none) = mr P q g (bif Nat.beq (kar kd) 4 then _ else bif Nat.beq (kar kd) 5 then _ else none)
    cases e4 : Nat.beq (kar kd) 4 with
    | true => exact if_m (h _ (cl.2.2.1 kd hk (Nat.eq_of_beq_eq_true e4))) rfl
    | false =>
      refine bif_x (fun e5 => ?_)
      have c5 := cl.2.2.2 kd hk (Nat.eq_of_beq_eq_true e5)
      rw [mg_3 c5.1]
      exact if_m (h _ c5.2) rfl
theorem astx_m {P : Nat → Bool} {q : Bool} {g s : SS} {t : Nat} {st : List AV} {F F' : List AV → SS → RE} (cl : CLo P q) (hs : nS_k P st) (h : ∀ r t, nS_k P r → F' r (mg P q g t) = mr P q g (F r t)) : astx (mg P q g s) t st F' = mr P q g (astx s t st F) := by
  rcases st with _ | ⟨a, _ | ⟨b, _ | ⟨c, r⟩⟩⟩
  · rfl
  · rcases a with x | x | ⟨kv, jv⟩ <;> rfl
  · rcases a with x | x | ⟨kv, jv⟩ <;> rcases b with y | y | ⟨kb, jb⟩ <;> rfl
  · rcases b with y | y | ⟨kb, jb⟩
    · rcases c with z | z | ⟨kd, j⟩
      · rcases a with x | x | ⟨kv, jv⟩ <;> rfl
      · rcases a with x | x | ⟨kv, jv⟩ <;> rfl
      · have hk : P kd = true := nSk_h (nSk_t (nSk_t hs))
        have hr := nSk_t (nSk_t (nSk_t hs))
        rcases a with x | x | ⟨kv, jv⟩
        · unfold astx
          match t with
          | 0 => rfl
          | 1 =>
            refine bif_x (fun _ => ?_)
            rw [mg_wI hk]
            exact if_m (h _ _ hr) rfl
          | 2 => rfl
          | 3 =>
            refine bif_x (fun _ => ?_)
            rw [mg_wI hk]
            exact if_m (h _ _ hr) rfl
          | (t + 4) => rfl
        · unfold astx
          refine bif_x (fun _ => ?_)
          rw [mg_wL hk]
          exact if_m (h _ _ hr) rfl
        · unfold astx
          refine bif_x (fun hc => ?_)
          rw [Bool.and_eq_true, Bool.and_eq_true] at hc
          rw [mg_wR (cl.2.2.2 kd hk (Nat.eq_of_beq_eq_true hc.2.1)).1]
          exact if_m (h _ _ hr) rfl
    · rcases a with x | x | ⟨kv, jv⟩ <;> rfl
    · rcases a with x | x | ⟨kv, jv⟩ <;> rfl
theorem alnx_m {P : Nat → Bool} {q : Bool} {g s : SS} {kd : Nat} {F F' : Int32 → RE} (cl : CLo P q) (hk : P kd = true) (h : ∀ x, F' x = mr P q g (F x)) : alnx (mg P q g s) kd F' = mr P q g (alnx s kd F) := by
  have h6 : Nat.beq (kar kd) 6 = false := by
    cases e : Nat.beq (kar kd) 6 with
    | false => rfl
    | true => exact absurd (Nat.eq_of_beq_eq_true e) (cl.1 kd hk)
  unfold alnx
  rw [h6]
  exact bif_x (fun _ => h _)
theorem dupx_m {P : Nat → Bool} {q : Bool} {g : SS} {st : List AV} {F F' : List AV → RE} (hs : nS_k P st) (h : ∀ r, nS_k P r → F' r = mr P q g (F r)) : dupx st F' = mr P q g (dupx st F) := by
  rcases st with _ | ⟨a, r⟩
  · rfl
  · rcases a with x | x | x
    · exact h _ (nSk_c trivial hs)
    · rfl
    · exact h _ (nSk_c (nSk_h hs) hs)
theorem popx_m {P : Nat → Bool} {q : Bool} {g : SS} {st : List AV} {F F' : List AV → RE} (hs : nS_k P st) (h : ∀ r, nS_k P r → F' r = mr P q g (F r)) : popx st F' = mr P q g (popx st F) := by
  rcases st with _ | ⟨a, r⟩
  · rfl
  · rcases a with x | x | x
    · exact h _ (nSk_t hs)
    · rfl
    · exact h _ (nSk_t hs)
theorem dup2x_m {P : Nat → Bool} {q : Bool} {g : SS} {st : List AV} {F F' : List AV → RE} (hs : nS_k P st) (h : ∀ r, nS_k P r → F' r = mr P q g (F r)) : dup2x st F' = mr P q g (dup2x st F) := by
  rcases st with _ | ⟨a, _ | ⟨b, r⟩⟩
  · rfl
  · rcases a with x | x | x
    · rfl
    · exact h _ (nSk_c trivial hs)
    · rfl
  · rcases a with x | x | x
    · rcases b with y | y | y
      · exact h _ (nSk_c trivial (nSk_c trivial hs))
      · rfl
      · exact h _ (nSk_c trivial (nSk_c (nSk_h (nSk_t hs)) hs))
    · exact h _ (nSk_c trivial hs)
    · rfl
