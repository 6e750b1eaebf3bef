/-! the reference's table -/
theorem BT_ag {s t : SS} (h : Ag [37, 50] s t) (e28 : t.1 30 0 28 = s.1 30 0 28) (hb : BT s) : BT t := by
  have f1 := (h.1 37 (by decide)).1
  have f2 := (h.1 50 (by decide)).1
  have et : tl t = tl s := by
    funext k
    unfold tl
    rw [f1]
  have e3 : s3 t = s3 s := by
    funext k
    unfold s3
    rw [et]
  have en : nW t = nW s := by
    unfold nW
    rw [et]
  unfold BT
  rw [et, e3, en, e28]
  simp only [f2]
  exact hb
theorem brk_bit (s : SS) : brk (bitS s) = brk s ∧ soB (bitS s) = soB s ∧ nW (bitS s) = nW s := brk_ag (bitS_ag s (by decide)) (bitS_o s (by decide) (by decide))
def rowT (s : SS) (k n : Nat) (t : SS) : SS := fo (fun w t => wI t 51 0 (1024 * k + w) (nI (brk s k w))) n t
def tabT (s : SS) (n : Nat) : SS := fo (fun k t => rowT s k (nW s) t) n (bitS s)
theorem rowT_off (s t : SS) (k n : Nat) : OffK [51] t (rowT s k n t) := Off_fo (fun _ _ => Off_wI (by decide)) _ _
theorem tabT_off (s : SS) (n : Nat) : OffK [51] (bitS s) (tabT s n) := Off_fo (fun _ _ => rowT_off s _ _ _) _ _
theorem c_197t {s t : SS} (hS0 : JS s) (hL0 : JL s) (ho : OffK [51] (bitS s) t) {k v : Nat} (hk : k < 8) (hv : v < 2147483648) : ev 197 0 [some (.inr (.inr (30, 0))), some (.inl (nI k)), some (.inl (nI v)), none, none, none, none, none, none, none] [] t = some (some (.inl (nI (brk s k v))), t) := by
  have hS1 : JS (bitS s) := JS_ag (bitS_ag s (by decide)) (bitS_o s (by decide) (by decide)) (bitS_o s (by decide) (by decide)) hS0
  have hL1 : JL (bitS s) := JL_ag (bitS_ag s (by decide)) hL0
  have e30 : ∀ c, t.1 30 0 c = (bitS s).1 30 0 c := fun c => ho.1 30 0 c (by decide)
  have e0 : ∀ c, t.1 0 0 c = (bitS s).1 0 0 c := fun c => ho.1 0 0 c (by decide)
  have hS : JS t := JS_ag (Ag_off ho (by decide)) (e0 _) (e30 _) hS1
  have hL : JL t := JL_ag (Ag_off ho (by decide)) hL1
  have hb : BT t := BT_ag (Ag_off ho (by decide)) (e30 _) (BT_S s)
  rw [c_197 hS hL hb hk hv, (brk_ag (Ag_off ho (by decide)) (e30 _)).1, (brk_bit s).1]
theorem c_198 {s : SS} (hS : JS s) (hL : JL s) : ev 198 0 [some (.inr (.inr (30, 0))), none, none] [] s = some (none, tabT s 8) := by
  have hW := nW_le hS
  rw [q_198, c_194 hS, cV_s]
  have row : ∀ k, k < 8 → ∀ t, OffK [51] (bitS s) t → ev 198 14 [some (.inr (.inr (30, 0))), some (.inl (nI k)), some (.inl 0)] [] t = ev 198 6 [some (.inr (.inr (30, 0))), some (.inl (nI (k + 1))), none] [] (rowT s k (nW s) t) := by
    intro k hk t ho
    have e28 : ∀ n, (rowT s k n t).1 30 0 28 = nI (nW s) := fun n => ((rowT_off s t k n).1 30 0 28 (by decide)).trans ((ho.1 30 0 28 (by decide)).trans (by unfold bitS; rw [wI_same]))
    have hl := lpN (P := fun w => ev 198 14 [some (.inr (.inr (30, 0))), some (.inl (nI k)), some (.inl (nI w))] [] (rowT s k w t)) (nW s) (fun w hw => by
      show ev 198 14 [some (.inr (.inr (30, 0))), some (.inl (nI k)), some (.inl (nI w))] [] (rowT s k w t) = ev 198 14 [some (.inr (.inr (30, 0))), some (.inl (nI k)), some (.inl (nI (w + 1)))] [] (wI (rowT s k w t) 51 0 (1024 * k + w) (nI (brk s k w)))
      rw [q_198_at14, e28, if_pos (nI_lt hw (by omega)), c_197t hS hL (Off_tr ho (rowT_off s t k w)) hk (by omega), cI_s, n_mulL, n_add, if_pos (ixB_nI (show 1024 * k + w < 8192 by omega) (by decide)), cl_nI (show 1024 * k + w < 2147483648 by omega), nI_s])
    refine (show ev 198 14 [some (.inr (.inr (30, 0))), some (.inl (nI k)), some (.inl (nI 0))] [] (rowT s k 0 t) = _ from hl).trans ?_
    rw [q_198_at14, e28, if_neg (irr _), nI_s]
  have hl := lpN (P := fun k => ev 198 6 [some (.inr (.inr (30, 0))), some (.inl (nI k)), none] [] (tabT s k)) 8 (fun k hk => by
    show ev 198 6 [some (.inr (.inr (30, 0))), some (.inl (nI k)), none] [] (tabT s k) = ev 198 6 [some (.inr (.inr (30, 0))), some (.inl (nI (k + 1))), none] [] (rowT s k (nW s) (tabT s k))
    rw [q_198_at6, if_pos (show nI k < (8 : Int32) from nI_lt hk (by decide))]
    exact row k hk _ (tabT_off s k))
  refine (show ev 198 6 [some (.inr (.inr (30, 0))), some (.inl (nI 0)), none] [] (tabT s 0) = _ from hl).trans ?_
  rw [q_198_at6, if_neg (show ¬ nI 8 < (8 : Int32) from irr (nI 8))]
theorem tab_51 {s : SS} (h : JS s) {k w : Nat} (hw : w < nW s) : ∀ n, k < n → (tabT s n).1 51 0 (1024 * k + w) = nI (brk s k w)
  | 0, hk => absurd hk (Nat.not_lt_zero k)
  | n + 1, hk => by
    have hW := nW_le h
    show (rowT s n (nW s) (tabT s n)).1 51 0 (1024 * k + w) = _
    unfold rowT
    rw [fo_wI]
    by_cases e : k = n
    · subst e
      rw [if_pos ⟨rfl, rfl, by omega, by omega⟩]
      rw [show 1024 * k + w - 1024 * k = w by omega]
    · rw [if_neg (by omega)]
      exact tab_51 h hw n (by omega)
/-- a state where the reference has set its table -/
def TB (s : SS) : Prop := BT s ∧ ∀ k w, k < 8 → w < nW s → s.1 51 0 (1024 * k + w) = nI (brk s k w)
theorem J_tab {s : SS} (h : J s) : J (tabT s 8) := J_scr (J_bit h) (fun a b c h1 _ => (tabT_off s 8).1 a b c (by simp; omega)) (fun a b c _ _ => by rw [(tabT_off s 8).2]) (by rw [(tabT_off s 8).2])
theorem tab_brk (s : SS) : brk (tabT s 8) = brk s ∧ soB (tabT s 8) = soB s ∧ nW (tabT s 8) = nW s := by
  have h1 := brk_ag (Ag_off (tabT_off s 8) (K' := [37, 42, 44, 45, 46, 47, 48, 49]) (by decide)) ((tabT_off s 8).1 30 0 10 (by decide))
  have h2 := brk_bit s
  exact ⟨h1.1.trans h2.1, h1.2.1.trans h2.2.1, h1.2.2.trans h2.2.2⟩
theorem TB_tab {s : SS} (hS : JS s) : TB (tabT s 8) := by
  refine ⟨BT_ag (Ag_off (tabT_off s 8) (by decide)) ((tabT_off s 8).1 30 0 28 (by decide)) (BT_S s), fun k w hk hw => ?_⟩
  rw [(tab_brk s).2.2] at hw
  rw [(tab_brk s).1]
  exact tab_51 hS hw 8 hk
theorem tab_60 (s : SS) (b c : Nat) : (tabT s 8).1 60 b c = s.1 60 b c := ((tabT_off s 8).1 60 b c (by decide)).trans (bitS_o s (by decide) (fun z => absurd z (by decide)))
