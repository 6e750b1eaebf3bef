/-! the reference learns -/
def RJ (s : SS) (m : Nat) (u1 v : SS) : Prop := (∀ a b x, a ≠ 43 → a ≠ 50 → a ≠ 51 → a ≠ 52 → (a = 30 → x ≤ 10) → v.1 a b x = u1.1 a b x) ∧ v.2.2 = u1.2.2 ∧ (∀ a b x, a ≠ 53 → (a = 30 → x ≤ 10) → v.2.1 a b x = u1.2.1 a b x) ∧ (∀ b x, ¬ (b = 0 ∧ x < 8 ∧ m.testBit x = true) → v.1 43 b x = s.1 43 b x) ∧ TB v
theorem TB_ag {s t : SS} (h : ∀ a b x, a = 37 ∨ a = 42 ∨ a = 44 ∨ a = 45 ∨ a = 46 ∨ a = 47 ∨ a = 48 ∨ a = 49 ∨ a = 50 ∨ a = 51 → t.1 a b x = s.1 a b x) (e10 : t.1 30 0 10 = s.1 30 0 10) (e28 : t.1 30 0 28 = s.1 30 0 28) (hT : TB s) : TB t := by
  let s' : SS := (s.1, t.2)
  have a1 : ∀ {K : List Nat}, (∀ a, a ∈ K → a = 37 ∨ a = 42 ∨ a = 44 ∨ a = 45 ∨ a = 46 ∨ a = 47 ∨ a = 48 ∨ a = 49 ∨ a = 50 ∨ a = 51) → Ag K s' t := fun hd => ⟨fun a ha => ⟨fun b x => h a b x (hd a ha), fun _ _ => rfl⟩, rfl⟩
  have t' : TB s' := hT
  have b := brk_ag (s := s') (t := t) (a1 (by decide)) e10
  refine ⟨BT_ag (s := s') (a1 (by decide)) e28 t'.1, fun k w hk hw => ?_⟩
  rw [b.2.2] at hw
  rw [b.1, h 51 _ _ (by decide)]
  exact t'.2 k w hk hw
/-- the reference's cells at the class's end are those of s -/
def UR (s u1 : SS) : Prop := (∀ a b x, 30 ≤ a → a < 60 → u1.1 a b x = s.1 a b x) ∧ ∀ a b x, 30 ≤ a → a < 60 → u1.2.1 a b x = s.2.1 a b x
theorem lay_n43 {m c : Nat} {t : SS} {a b x : Nat} (h : a ≠ 43) : (layT m c 8 t).1 a b x = t.1 a b x := by
  rw [lay_1, if_neg (fun z => h z.1)]
theorem lw_r {s u1 v : SS} {m c y : Nat} (h : J s) (hm : m < 256) (hc : c < 4 ^ popN m) (hn : popN m ≤ 3) (hth : thB s m = true) (hy : y < nW s) (hb : hbB s (aA 0) y = false) (ur : UR s u1) (rj : RJ s m u1 v) : ∃ v2, ev 200 0 [some (.inr (.inr (30, 0))), some (.inl 255), none, none] [] (layT m c 8 v) = some (some (.inl 1), v2) ∧ RJ s m u1 v2 ∧ v2.2.1 53 0 y = lN (shE (pwE s m y c)) ∧ v2.2.1 30 0 34 = lN (alE s m c) ∧ ∀ b x, v2.1 43 b x = (layT m c 8 s).1 43 b x := by
  obtain ⟨f1, f2, f3, f4, f5⟩ := rj
  have hc64 : c < 64 := Nat.lt_of_lt_of_le hc (pw_64 hn)
  obtain ⟨t, -, ci, cwt⟩ := c_135i (CI_0 QF_rf h (m := m)) hm hc64
  have e43 := rp_lay h hth ci cwt
  have spl := SP_lay h hth ci cwt
  have cj := ci.1
  have c1 := ci.2.1
  have c3 := ci.2.2.2.1
  have v43 : ∀ b x, (layT m c 8 v).1 43 b x = (layT m c 8 s).1 43 b x := fun b x => by
    rw [lay_1, lay_1]
    by_cases z : (43 : Nat) = 43 ∧ b = 0 ∧ x < 8 ∧ m.testBit x = true
    · rw [if_pos z, if_pos z]
    · rw [if_neg z, if_neg z]
      exact f4 b x (fun w => z ⟨rfl, w⟩)
  have t1 : ∀ a b x, 30 ≤ a → a < 60 → t.1 a b x = s.1 a b x := fun a b x h1 h2 => c1 a b x (by omega) (by omega) (by omega) (by omega) (fun z => by omega) (fun z => by omega)
  have t2 : ∀ a b x, 30 ≤ a → a < 60 → t.2.1 a b x = s.2.1 a b x := fun a b x h1 h2 => c3 a b x (by omega) (by omega) (by omega)
  have hJ : J (oR t (layT m c 8 v)) := by
    refine J_scr cj (fun a b x h1 h2 => ?_) (fun a b x h1 h2 => ?_) rfl
    · by_cases h30 : 30 ≤ a
      · rw [oR_1 h30 (by omega)]
        by_cases e : a = 43
        · subst e
          rw [v43, e43]
        · rw [lay_n43 e, rp_1 e, f1 a b x e (by omega) (by omega) (by omega) h2, ur.1 a b x h30 (by omega), t1 a b x h30 (by omega)]
      · rw [oR_g1 (by omega), rp_1 (by omega)]
    · by_cases h30 : 30 ≤ a
      · rw [oR_2 h30 (by omega), lay_2, f3 a b x (by omega) h2, ur.2 a b x h30 (by omega)]
        exact (t2 a b x h30 (by omega)).symm
      · rw [oR_g2 (by omega)]
        rfl
  have tb0 : TB (layT m c 8 v) := TB_ag (s := v) (fun a b x ha => lay_n43 (by omega)) (lay_n43 (by decide)) (lay_n43 (by decide)) f5
  have tbg : TB (oR t (layT m c 8 v)) := TB_ag (s := layT m c 8 v) (fun a b x ha => oR_1 (by omega) (by omega) b x) (oR_1 (by decide) (by decide) 0 10) (oR_1 (by decide) (by decide) 0 28) tb0
  have spg : SP (layT m c 8 s) (oR t (layT m c 8 v)) := by
    refine SP_tr spl ⟨⟨fun a ha => ⟨fun b x => ?_, fun b x => ?_⟩, rfl⟩, ?_⟩
    · have : a = 37 ∨ a = 42 ∨ a = 43 ∨ a = 44 ∨ a = 45 ∨ a = 46 ∨ a = 47 ∨ a = 48 ∨ a = 49 := by simpa using ha
      rw [oR_1 (by omega) (by omega)]
      by_cases e : a = 43
      · subst e
        rw [v43, e43]
      · rw [lay_n43 e, rp_1 e, f1 a b x e (by omega) (by omega) (by omega) (fun z => by omega), ur.1 a b x (by omega) (by omega), t1 a b x (by omega) (by omega)]
    · have : a = 37 ∨ a = 42 ∨ a = 43 ∨ a = 44 ∨ a = 45 ∨ a = 46 ∨ a = 47 ∨ a = 48 ∨ a = 49 := by simpa using ha
      rw [oR_2 (by omega) (by omega), lay_2, f3 a b x (by omega) (fun z => by omega), ur.2 a b x (by omega) (by omega)]
      exact (t2 a b x (by omega) (by omega)).symm
    · rw [oR_1 (by decide) (by decide), lay_n43 (by decide), rp_1 (by decide), f1 30 0 10 (by decide) (by decide) (by decide) (by decide) (by decide), ur.1 30 0 10 (by decide) (by decide), t1 30 0 10 (by decide) (by decide)]
  obtain ⟨ug, e, rs, tbu, rwg⟩ := c_200m hJ.2.2.2.1 hJ.2.2.2.2.1 tbg (m := 0) (by decide)
  have rw2 := SP_RW spg rwg
  have hsome : (bst (oR t (layT m c 8 v)) (aA 0) (nW (oR t (layT m c 8 v)))).isSome = true := by
    rw [SP_bst spg, (SP_brk spg).2.2]
    obtain ⟨w, cc, hp, -⟩ := bst_min (s := layT m c 8 s) (A := aA 0) (n := nW (layT m c 8 s)) (v := y) (by rw [(lay_brk s m c).2.2]; exact hy) (by rw [lay_hb]; exact hb)
    rw [hp]
    rfl
  have self : layT m c 8 v = oR (layT m c 8 v) (oR t (layT m c 8 v)) := oR_eq (fun a b x h1 h2 => (oR_1 h1 h2 b x).symm) (fun _ _ _ _ => rfl) (fun a b x h1 h2 => (oR_2 h1 h2 b x).symm) (fun _ _ _ _ => rfl) rfl
  have e2 : ev 200 0 [some (.inr (.inr (30, 0))), some (.inl 255), none, none] [] (layT m c 8 v) = some (some (.inl 1), oR (layT m c 8 v) ug) := by
    have e' : ev 200 0 [some (.inr (.inr (30, 0))), some (.inl 255), none, none] [] (oR t (layT m c 8 v)) = some (some (.inl 1), ug) := by
      rw [hsome] at e
      exact e
    have := ev_R (layT m c 8 v) (by decide) (nLk_s (x := .inr (.inr (30, 0))) rfl (nLk_s (x := .inl 255) trivial (nLk_n (nLk_n nLk_e)))) e'
    rw [← self] at this
    exact this
  refine ⟨oR (layT m c 8 v) ug, e2, ⟨fun a b x x1 x2 x3 x4 x5 => ?_, ?_, fun a b x x1 x2 => ?_, fun b x hx => ?_, ?_⟩, ?_, ?_, fun b x => ?_⟩
  · by_cases hr : 30 ≤ a ∧ a < 60
    · rw [oR_1 hr.1 hr.2, rs.1 a b x x2 x3 x4 x5, oR_1 hr.1 hr.2, lay_n43 x1]
      exact f1 a b x x1 x2 x3 x4 x5
    · rw [oR_g1 (by omega), lay_n43 x1]
      exact f1 a b x x1 x2 x3 x4 x5
  · rw [oR_3, lay_2]
    exact f2
  · by_cases hr : 30 ≤ a ∧ a < 60
    · rw [oR_2 hr.1 hr.2, rs.2.2 a b x x1 x2, oR_2 hr.1 hr.2, lay_2]
      exact f3 a b x x1 x2
    · rw [oR_g2 (by omega), lay_2]
      exact f3 a b x x1 x2
  · rw [oR_1 (by decide) (by decide), rs.1 43 b x (by decide) (by decide) (by decide) (fun z => absurd z (by decide)), oR_1 (by decide) (by decide), lay_1, if_neg (fun z => hx z.2)]
    exact f4 b x hx
  · exact TB_ag (s := ug) (fun a b x ha => oR_1 (by omega) (by omega) b x) (oR_1 (by decide) (by decide) 0 10) (oR_1 (by decide) (by decide) 0 28) tbu
  · rw [oR_2 (by decide) (by decide), rw2.2.2.1 y (by rw [(lay_brk s m c).2.2]; exact hy), sh_pw]
    rfl
  · rw [oR_2 (by decide) (by decide), rw2.2.2.2]
    rfl
  · rw [oR_1 (by decide) (by decide), rs.1 43 b x (by decide) (by decide) (by decide) (fun z => absurd z (by decide)), oR_1 (by decide) (by decide), v43]
def b7 (s : SS) (m p v i : Nat) : Int32 := if i = 0 then -9 else nI (kb s m p v i)
def b8 (s : SS) (m p v i : Nat) : Int32 := if i = 0 then 0 else nI (sC (kb s m p v i))
def b9 (s : SS) (m p v i : Nat) : Int64 := if i = 0 then 0 else lN (shE (pwE s m v (kb s m p v i)))
def b11 (s : SS) (m p v i : Nat) : Int64 := if i = 0 then 1 else lN (alE s m (kb s m p v i))
theorem shE_le {e : Option Nat} (h : ∀ x, e = some x → x ≤ 20) : shE e ≤ 1048576 := by
  rcases e with _ | x
  · exact Nat.zero_le _
  · exact Nat.le_trans (Nat.pow_le_pow_right (by decide) (h x rfl)) (by decide)
theorem c_218l {s u1 v0 : SS} {m p y : Nat} (h : J s) (hm : m < 256) (hn : popN m ≤ 3) (hp : p ≤ 2) (hth : thB s m = true) (hy : y < nW s) (hb : hbB s (aA 0) y = false) (ur : UR s u1) (rj0 : RJ s m u1 v0) : ∃ v, RJ s m u1 v ∧ ev 218 194 [some (.inr (.inr (30, 0))), some (.inl (nI y)), some (.inl (nI m)), some (.inl (nI p)), none, none, some (.inl (nI (popN m))), some (.inl (-9)), some (.inl 0), some (.inr (.inl 0)), none, some (.inr (.inl 1)), none, some (.inl 0), none, none, none, none, none, none] [] v0 = ev 218 372 [some (.inr (.inr (30, 0))), none, some (.inl (nI m)), none, none, none, none, none, none, some (.inr (.inl (lN (shE (pwE s m y (kb s m p y (4 ^ popN m))))))), none, some (.inr (.inl (lN (alE s m (kb s m p y (4 ^ popN m)))))), none, some (.inl 0), some (.inl 0), none, none, none, none, none] [] (layT m (kb s m p y (4 ^ popN m)) 8 v) := by
  have hS := h.2.2.2.1
  have hW := nW_le hS
  have h64 := pw_64 hn
  have xy : ixB (nI y) 1024 = true := ixB_nI (by omega) (by decide)
  have alb : ∀ c, 1048576 ≤ alE s m c ∧ alE s m c ≤ 1073741824 := fun c => ⟨all_ge (by rw [(lay_brk s m c).2.2]; exact hy) (by rw [lay_hb]; exact hb), all_le (JS_lay hS m c)⟩
  have pq : ∀ c, p * sC c ≤ 18 := fun c => Nat.le_trans (Nat.mul_le_mul hp sC_le) (by decide)
  have she : ∀ c, shE (pwE s m y c) ≤ 1048576 := fun c => shE_le (fun x hx => pw_le hx)
  have alq : ∀ c, alE s m c * 2 ^ (p * sC c) < 9223372036854775808 ∧ 0 < alE s m c * 2 ^ (p * sC c) := fun c => ⟨Nat.lt_of_le_of_lt (Nat.mul_le_mul (alb c).2 (Nat.pow_le_pow_right (by decide) (pq c))) (by decide), Nat.mul_pos (by have := (alb c).1; omega) (Nat.two_pow_pos _)⟩
  have hl := lpX (fun i v => ev 218 194 [some (.inr (.inr (30, 0))), some (.inl (nI y)), some (.inl (nI m)), some (.inl (nI p)), none, none, some (.inl (nI (popN m))), some (.inl (b7 s m p y i)), some (.inl (b8 s m p y i)), some (.inr (.inl (b9 s m p y i))), none, some (.inr (.inl (b11 s m p y i))), none, some (.inl (nI i)), none, none, none, none, none, none] [] v) (fun _ v => RJ s m u1 v) (4 ^ popN m) (fun i v hi rj => by
    have hi64 : i < 64 := by omega
    obtain ⟨v2, e2, rj2, k53, k34, -⟩ := lw_r h hm hi hn hth hy hb ur rj
    have e1 := c_217 hm hi64 v
    rw [sW_8 hn hi] at e1
    have kbs : kb s m p y (i + 1) = if i ≠ 0 ∧ bet s m p y i (kb s m p y i) = true then i else kb s m p y i := rfl
    have sc1 := @sC_le i
    have shi : lN (alE s m i) <<< ((nI p * nI (sC i)).toInt64 &&& 63) = lN (alE s m i * 2 ^ (p * sC i)) := by
      have := pq i
      rw [n_mul, l_shl (by omega)]
    have at328 : kb s m p y (i + 1) = i → ev 218 328 [some (.inr (.inr (30, 0))), some (.inl (nI y)), some (.inl (nI m)), some (.inl (nI p)), none, none, some (.inl (nI (popN m))), none, none, none, none, none, none, some (.inl (nI i)), some (.inl (nI (sC i))), none, none, none, none, none] [] v2 = ev 218 194 [some (.inr (.inr (30, 0))), some (.inl (nI y)), some (.inl (nI m)), some (.inl (nI p)), none, none, some (.inl (nI (popN m))), some (.inl (b7 s m p y (i + 1))), some (.inl (b8 s m p y (i + 1))), some (.inr (.inl (b9 s m p y (i + 1)))), none, some (.inr (.inl (b11 s m p y (i + 1)))), none, some (.inl (nI (i + 1))), none, none, none, none, none, none] [] v2 := fun he => by
      rw [q_218_at328, if_pos xy, cl_nI (by omega), k53, k34, nI_s]
      unfold b7 b8 b9 b11
      rw [if_neg (Nat.succ_ne_zero i), if_neg (Nat.succ_ne_zero i), if_neg (Nat.succ_ne_zero i), if_neg (Nat.succ_ne_zero i), he]
    have kee : i ≠ 0 → kb s m p y (i + 1) = kb s m p y i → ev 218 194 [some (.inr (.inr (30, 0))), some (.inl (nI y)), some (.inl (nI m)), some (.inl (nI p)), none, none, some (.inl (nI (popN m))), some (.inl (b7 s m p y i)), some (.inl (b8 s m p y i)), some (.inr (.inl (b9 s m p y i))), none, some (.inr (.inl (b11 s m p y i))), none, some (.inl (nI (i + 1))), none, none, none, none, none, none] [] v2 = ev 218 194 [some (.inr (.inr (30, 0))), some (.inl (nI y)), some (.inl (nI m)), some (.inl (nI p)), none, none, some (.inl (nI (popN m))), some (.inl (b7 s m p y (i + 1))), some (.inl (b8 s m p y (i + 1))), some (.inr (.inl (b9 s m p y (i + 1)))), none, some (.inr (.inl (b11 s m p y (i + 1)))), none, some (.inl (nI (i + 1))), none, none, none, none, none, none] [] v2 := fun h0 he => by
      unfold b7 b8 b9 b11
      rw [if_neg (Nat.succ_ne_zero i), if_neg (Nat.succ_ne_zero i), if_neg (Nat.succ_ne_zero i), if_neg (Nat.succ_ne_zero i), if_neg h0, if_neg h0, if_neg h0, if_neg h0, he]
    refine ⟨v2, ?_, rj2⟩
    show ev 218 194 [some (.inr (.inr (30, 0))), some (.inl (nI y)), some (.inl (nI m)), some (.inl (nI p)), none, none, some (.inl (nI (popN m))), some (.inl (b7 s m p y i)), some (.inl (b8 s m p y i)), some (.inr (.inl (b9 s m p y i))), none, some (.inr (.inl (b11 s m p y i))), none, some (.inl (nI i)), none, none, none, none, none, none] [] v = _
    rw [q_218_at194, sh2n _ (by omega), if_pos (nI_lt hi (by omega)), e1, cI_s, e2, cI_s, if_pos xy, cl_nI (by omega), k53, k34, shi]
    by_cases h0 : i = 0
    · rw [if_pos (show b7 s m p y i < 0 by unfold b7; rw [if_pos h0]; decide), q_218_at269, if_neg (by decide), q_218_at304, if_neg (by decide), if_neg (by decide)]
      exact at328 (by rw [kbs, if_neg (fun z => z.1 h0), h0]; rfl)
    · have hk := kb_lt s m p y i (by omega)
      have e7 : b7 s m p y i = nI (kb s m p y i) := if_neg h0
      have e8 : b8 s m p y i = nI (sC (kb s m p y i)) := if_neg h0
      have e9 : b9 s m p y i = lN (shE (pwE s m y (kb s m p y i))) := if_neg h0
      have e11 : b11 s m p y i = lN (alE s m (kb s m p y i)) := if_neg h0
      have shb : lN (alE s m (kb s m p y i)) <<< ((nI p * nI (sC (kb s m p y i))).toInt64 &&& 63) = lN (alE s m (kb s m p y i) * 2 ^ (p * sC (kb s m p y i))) := by
        have := pq (kb s m p y i)
        rw [n_mul, l_shl (by omega)]
      have q1 := she i
      have q2 := she (kb s m p y i)
      have r1 := alq i
      have r2 := alq (kb s m p y i)
      have l1 : ev 216 0 [some (.inr (.inl (b9 s m p y i))), none, some (.inr (.inl ((b11 s m p y i <<< ((nI p * b8 s m p y i).toInt64 &&& 63))))), none, some (.inr (.inl (lN (shE (pwE s m y i))))), none, some (.inr (.inl (lN (alE s m i * 2 ^ (p * sC i))))), none, none, none, none, none, none, none, none, none, none, none, none] [] v2 = some (some (.inl (bI (decide (xE s m p y (kb s m p y i) i < xE s m p y i (kb s m p y i))))), v2) := by
        rw [e8, e9, e11, shb]
        exact c_216 (by omega) r2.1 (by omega) r1.1 r2.2 r1.2 v2
      have l2 : ev 216 0 [some (.inr (.inl (lN (shE (pwE s m y i))))), none, some (.inr (.inl (lN (alE s m i * 2 ^ (p * sC i))))), none, some (.inr (.inl (b9 s m p y i))), none, some (.inr (.inl ((b11 s m p y i <<< ((nI p * b8 s m p y i).toInt64 &&& 63))))), none, none, none, none, none, none, none, none, none, none, none, none] [] v2 = some (some (.inl (bI (decide (xE s m p y i (kb s m p y i) < xE s m p y (kb s m p y i) i)))), v2) := by
        rw [e8, e9, e11, shb]
        exact c_216 (by omega) r1.1 (by omega) r2.1 r1.2 r2.2 v2
      have sc2 := @sC_le (kb s m p y i)
      rw [if_neg (show ¬ b7 s m p y i < 0 by rw [e7]; exact nI_pos (by omega)), l1, cI_s, ite_bI]
      by_cases c1 : xE s m p y (kb s m p y i) i < xE s m p y i (kb s m p y i)
      · rw [decide_eq_true c1, if_pos rfl, q_218_at269, if_neg (by decide), q_218_at304, if_neg (by decide), if_neg (by decide)]
        exact at328 (by rw [kbs, if_pos ⟨h0, by unfold bet; rw [decide_eq_true c1]; rfl⟩])
      · rw [decide_eq_false c1, if_neg (by decide), q_218_at269, if_pos rfl, if_pos xy, cl_nI (by omega), k53, l2, cI_s, ite_bI]
        by_cases c2 : xE s m p y i (kb s m p y i) = xE s m p y (kb s m p y i) i
        · rw [decide_eq_false (show ¬ xE s m p y i (kb s m p y i) < xE s m p y (kb s m p y i) i by omega), if_neg (by decide), q_218_at304, if_neg (by decide), if_pos rfl, if_neg (by decide)]
          by_cases c3 : sC i < sC (kb s m p y i)
          · rw [if_pos (show nI (sC i) < b8 s m p y i by rw [e8]; exact nI_lt c3 (by omega))]
            exact at328 (by rw [kbs, if_pos ⟨h0, by unfold bet; rw [decide_eq_true c2, decide_eq_true c3, decide_eq_false c1]; rfl⟩])
          · rw [if_neg (show ¬ nI (sC i) < b8 s m p y i by rw [e8, n_lt (by omega) (by omega)]; exact c3), nI_s]
            exact kee h0 (by rw [kbs, if_neg (fun z => by
              have := z.2
              unfold bet at this
              rw [decide_eq_false c1, decide_eq_false c3, Bool.and_false] at this
              exact absurd this (by decide))])
        · rw [decide_eq_true (show xE s m p y i (kb s m p y i) < xE s m p y (kb s m p y i) i by omega), if_pos rfl, q_218_at304, if_neg (by decide), if_pos rfl, if_pos rfl, nI_s]
          exact kee h0 (by rw [kbs, if_neg (fun z => by
            have := z.2
            unfold bet at this
            rw [decide_eq_false c1, decide_eq_false c2, Bool.false_and] at this
            exact absurd this (by decide))])) v0 rj0
  obtain ⟨v, e, rj⟩ := hl
  refine ⟨v, rj, ?_⟩
  refine (show ev 218 194 [some (.inr (.inr (30, 0))), some (.inl (nI y)), some (.inl (nI m)), some (.inl (nI p)), none, none, some (.inl (nI (popN m))), some (.inl (b7 s m p y 0)), some (.inl (b8 s m p y 0)), some (.inr (.inl (b9 s m p y 0))), none, some (.inr (.inl (b11 s m p y 0))), none, some (.inl (nI 0)), none, none, none, none, none, none] [] v0 = _ from e).trans ?_
  have hp4 : 0 < 4 ^ popN m := Nat.pow_pos (by decide)
  have hk := kb_lt s m p y (4 ^ popN m) hp4
  have hne : 4 ^ popN m ≠ 0 := by omega
  have e7 : b7 s m p y (4 ^ popN m) = nI (kb s m p y (4 ^ popN m)) := if_neg hne
  have e9 : b9 s m p y (4 ^ popN m) = lN (shE (pwE s m y (kb s m p y (4 ^ popN m)))) := if_neg hne
  have e11 : b11 s m p y (4 ^ popN m) = lN (alE s m (kb s m p y (4 ^ popN m))) := if_neg hne
  show ev 218 194 [some (.inr (.inr (30, 0))), some (.inl (nI y)), some (.inl (nI m)), some (.inl (nI p)), none, none, some (.inl (nI (popN m))), some (.inl (b7 s m p y (4 ^ popN m))), some (.inl (b8 s m p y (4 ^ popN m))), some (.inr (.inl (b9 s m p y (4 ^ popN m)))), none, some (.inr (.inl (b11 s m p y (4 ^ popN m)))), none, some (.inl (nI (4 ^ popN m))), none, none, none, none, none, none] [] v = _
  rw [q_218_at194, sh2n _ (by omega), if_neg (irr _), e7, e9, e11, c_217 hm (by omega) v, cI_s]
