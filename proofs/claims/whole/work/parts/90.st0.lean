def cS : Nat → Int32 := (upd (upd (upd (upd (upd (upd (fun _ => 0) 0 (-9)) 1 (-9)) 2 (-9)) 3 (-9)) 4 (-9)) 5 (-9))
def cT : Nat → Int32 := (upd (upd (upd (upd (fun _ => 0) 0 (-9)) 1 (-9)) 2 (-9)) 3 (-9))
def cK : Nat → Int32 := (upd (upd (upd (upd (upd (upd (upd (upd (fun _ => 0) 0 (-9)) 1 (-9)) 2 (-9)) 3 (-9)) 4 (-9)) 5 (-9)) 6 (-9)) 7 (-9))
def i00 (c : Nat) : Int32 := match c with
  | 7 => 3
  | 8 => 1
  | _ => 0
def i11 (c : Nat) : Int32 := match c with
  | 0 => 1
  | _ => 0
def i30 (c : Nat) : Int32 := match c with
  | 10 => 3
  | _ => 0
def l00 (c : Nat) : Int64 := match c with
  | 11 => 1
  | _ => 0
def l30 (c : Nat) : Int64 := match c with
  | 4 => 1
  | _ => 0
def st0 (xs : Nat → Int32) (L : Nat) : SS := (fun k j c => match k with
  | 0 => i00 c
  | 5 => if c < 6 then -1 else 0
  | 6 => if c < 4 then -1 else 0
  | 11 => i11 c
  | 30 => i30 c
  | 32 => cS c
  | 35 => cT c
  | 42 => cK c
  | 60 => (match j with
    | 0 => xs c
    | _ => Int32.ofNat L)
  | _ => 0, fun k _ c => match k with
  | 0 => l00 c
  | 30 => l30 c
  | _ => 0, fun i => i)
theorem cS_9 : ∀ q, q < 6 → cS q = -9 := by decide
theorem cT_9 : ∀ q, q < 4 → cT q = -9 := by decide
theorem cK_9 : ∀ q, q < 8 → cK q = -9 := by decide
theorem cn_f {n : Nat} {p : Nat → Bool} (h : ∀ i, p i = false) : cn p n = 0 := by
  induction n with
  | zero => rfl
  | succ n ih =>
    show cn p n + _ = 0
    rw [ih, h n]
    rfl
theorem J_st0 (xs : Nat → Int32) (L : Nat) : J (st0 xs L) := by
  refine ⟨⟨fun q hq => Or.inl ⟨?_, cS_9 q hq⟩, fun q i _ _ => rfl⟩, ⟨fun q hq => Or.inl ⟨?_, cT_9 q hq⟩, fun q i _ _ => rfl⟩, ⟨rfl, rfl, rfl, rfl, fun f _ => rfl⟩, ⟨⟨by show 1 ≤ (3 : Int32).toNatClampNeg; decide, by show (3 : Int32).toNatClampNeg ≤ 4; decide, by show (3 : Int32) = nI (3 : Int32).toNatClampNeg; decide, by show (3 : Int32) = nI (3 : Int32).toNatClampNeg; decide⟩, fun k hk => ⟨by rfl, by rfl, by show (0 : Nat) < 4; decide, fun z => absurd rfl z⟩, ?_⟩, ⟨fun k hk => by show k < 9; omega, fun a b _ _ h => h, fun k hk => Or.inl ⟨rfl, cK_9 k hk⟩⟩, Or.inl rfl⟩
  · show (if q < 6 then (-1 : Int32) else 0) = -1
    rw [if_pos hq]
  · show (if q < 4 then (-1 : Int32) else 0) = -1
    rw [if_pos hq]
  · rw [cn_f (fun i => by rfl)]
    decide
def offX : List Nat := [0, 1, 2, 3, 4, 5, 6, 7, 7, 7, 8, 9, 10, 11, 20, 29, 38, 47, 56, 57, 58, 59, 60, 61, 61, 61, 61, 61, 61, 61, 61, 62, 63, 64, 65, 66, 67, 68, 69, 70, 71, 72, 73, 74, 75, 76, 77, 78, 79, 80, 81, 82, 83, 84, 85, 85, 85, 85, 85, 85]
def adF (b : Nat) (X : List Nat) (r7 r8 : Nat → Nat) (a : Nat × Nat) : Nat := bif Nat.beq a.1 60 then b else bif Nat.beq a.1 7 then r7 a.2 else bif Nat.beq a.1 8 then r8 a.2 else X.getD (offX.getD a.1 0 + a.2) 0
theorem nest_in : ∀ w ∈ nestW, w ∈ lw_tbl := by decide +kernel
theorem nest_on : ∀ w ∈ nestW, w.onTables = true := by
  intro w hw
  rcases nest_form w hw with ⟨a, i, b, n, d, q, rfl⟩ | ⟨a, i, x, q, rfl⟩ <;> rfl
theorem ao_in : Cond.arrayOver (.object RX0) ∈ lw_tbl := by decide +kernel
theorem aoa_in : Cond.arrayOver (.array .int) ∈ lw_tbl := by decide +kernel

