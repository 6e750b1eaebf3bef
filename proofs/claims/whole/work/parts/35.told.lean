/-! what is told -/
theorem pub_asked {s : SS} (h : J s) : PI 93 228 [some (.inr (.inr (0, 0)))] [some (.inr (.inr (30, 0)))] s := PI_0 h _ (q_93 s) (by rw [h.2.2.1.1]; exact q_228 s)
theorem pub_finding {s : SS} (h : J s) : PI 97 233 [some (.inr (.inr (0, 0)))] [some (.inr (.inr (30, 0)))] s := PI_0 h _ (q_97 s) (by rw [h.2.2.1.2.1]; exact q_233 s)
theorem pub_upper {s : SS} (h : J s) : PL 94 229 [some (.inr (.inr (0, 0)))] [some (.inr (.inr (30, 0)))] s := ⟨_, s, s, q_94 s, by rw [h.2.2.1.2.2.1]; exact q_229 s, h, fun _ _ => rfl, fun _ _ => rfl⟩
theorem pub_lower {s : SS} (h : J s) : PL 95 230 [some (.inr (.inr (0, 0)))] [some (.inr (.inr (30, 0)))] s := ⟨_, s, s, q_95 s, by rw [h.2.2.1.2.2.2.1]; exact q_230 s, h, fun _ _ => rfl, fun _ _ => rfl⟩
theorem pub_findings {s : SS} (h : J s) (f : Int32) : PI 98 234 [some (.inr (.inr (0, 0))), some (.inl f)] [some (.inr (.inr (30, 0))), some (.inl f)] s := by
  by_cases h1 : f < 1
  · refine PI_0 h (-1) ?_ ?_
    · rw [q_98, if_pos h1]
    · rw [q_234, c_144]
      simp [h1, cI_s, bI]
  by_cases h2 : 5 < f
  · refine PI_0 h (-1) ?_ ?_
    · rw [q_98, if_neg h1, if_pos h2]
    · rw [q_234, c_144]
      simp [h2, cI_s, bI]
  have hf : ixB f 6 = true := by
    rw [ixB_toInt (by decide)]
    rw [lt_iff] at h1 h2
    have t1 : (1 : Int32).toInt = 1 := rfl
    have t2 : (5 : Int32).toInt = 5 := rfl
    omega
  obtain ⟨i, hi, rfl⟩ := (ixB_iff (by decide)).mp hf
  refine PI_0 h (s.1 31 0 i) ?_ ?_
  · rw [q_98, if_neg h1, if_neg h2, if_pos hf, cl_nI (by omega), h.2.2.1.2.2.2.2 i hi]
  · rw [q_234, c_144, decide_eq_false h1, decide_eq_false h2, cI_s, if_neg (by decide), if_pos hf, cl_nI (by omega)]
/-! counts -/
theorem LJ_42 {s : SS} (h : J s) {k : Nat} (hk : k < 8) : (s.1 13 (s.2.2 k) 0 = 0 ∧ s.1 42 0 k < 0 ∧ s.1 42 0 k = -9) ∨ (s.1 13 (s.2.2 k) 0 = 1 ∧ ¬ s.1 42 0 k < 0 ∧ s.1 13 (s.2.2 k) 1 = s.1 42 0 k) := by
  rcases LJ_h (h.2.2.2.2.1.2.2 k hk) with ⟨g1, g2⟩ | ⟨g1, kd, np, w, f, g⟩
  · exact Or.inl ⟨g1, by rw [g2]; decide, g2⟩
  · have g7 := g.2.2.2.2.2.2.1
    have h1 := g.1
    exact Or.inr ⟨g1, by rw [g7]; exact nI_pos (by omega), by rw [g.2.2.2.2.2.1, g7]⟩
theorem c_122_0 {s : SS} (h : J s) : ev 122 0 [some (.inr (.inr (0, 0))), some (.inl 0), none, none] [] s = some (some (.inl (nI (cn (fun k => !(decide (s.1 42 0 k < 0))) 8))), s) := by
  rw [q_122]
  have hl := lpN (P := fun i => ev 122 4 [some (.inr (.inr (0, 0))), some (.inl 0), some (.inl (nI (cn (fun k => !(decide (s.1 42 0 k < 0))) i))), some (.inl (nI i))] [] s) 8 (fun i hi => by
    show ev 122 4 [some (.inr (.inr (0, 0))), some (.inl 0), some (.inl (nI (cn (fun k => !(decide (s.1 42 0 k < 0))) i))), some (.inl (nI i))] [] s = ev 122 4 [some (.inr (.inr (0, 0))), some (.inl 0), some (.inl (nI (cn (fun k => !(decide (s.1 42 0 k < 0))) i + (if (!(decide (s.1 42 0 i < 0))) = true then 1 else 0)))), some (.inl (nI (i + 1)))] [] s
    rw [q_122_at4, if_pos (show nI i < (8 : Int32) from nI_lt hi (by decide)), if_pos (ixB_nI hi (by decide)), cl_nI (by omega), nI_s, nI_s, if_pos rfl]
    rcases LJ_42 h hi with ⟨g1, g2, -⟩ | ⟨g1, g2, -⟩
    · rw [g1, if_pos rfl]
      simp [g2]
    · rw [g1, if_neg (by decide)]
      simp [g2])
  refine (show ev 122 4 [some (.inr (.inr (0, 0))), some (.inl 0), some (.inl (nI 0)), some (.inl (nI 0))] [] s = _ from hl).trans ?_
  rw [q_122_at4, if_neg (show ¬ nI 8 < (8 : Int32) from irr (nI 8))]
theorem c_122_1 {s : SS} (h : J s) : ev 122 0 [some (.inr (.inr (0, 0))), some (.inl 1), none, none] [] s = some (some (.inl (nI (cn (fun k => hardB (s.1 42 0 k)) 8))), s) := by
  rw [q_122]
  have hl := lpN (P := fun i => ev 122 4 [some (.inr (.inr (0, 0))), some (.inl 1), some (.inl (nI (cn (fun k => hardB (s.1 42 0 k)) i))), some (.inl (nI i))] [] s) 8 (fun i hi => by
    show ev 122 4 [some (.inr (.inr (0, 0))), some (.inl 1), some (.inl (nI (cn (fun k => hardB (s.1 42 0 k)) i))), some (.inl (nI i))] [] s = ev 122 4 [some (.inr (.inr (0, 0))), some (.inl 1), some (.inl (nI (cn (fun k => hardB (s.1 42 0 k)) i + (if hardB (s.1 42 0 i) = true then 1 else 0)))), some (.inl (nI (i + 1)))] [] s
    rw [q_122_at4, if_pos (show nI i < (8 : Int32) from nI_lt hi (by decide)), if_pos (ixB_nI hi (by decide)), cl_nI (by omega), nI_s, nI_s, if_neg (show ¬ (1 : Int32) = 0 by decide), if_pos (ixB_nI hi (by decide)), c_117, cI_s, ite_bI]
    rcases LJ_42 h hi with ⟨g1, g2, g3⟩ | ⟨g1, g2, g3⟩
    · rw [g1, if_pos rfl, g3]
      rfl
    · rw [g1, if_neg (by decide), g3]
      cases hardB (s.1 42 0 i) <;> rfl)
  refine (show ev 122 4 [some (.inr (.inr (0, 0))), some (.inl 1), some (.inl (nI 0)), some (.inl (nI 0))] [] s = _ from hl).trans ?_
  rw [q_122_at4, if_neg (show ¬ nI 8 < (8 : Int32) from irr (nI 8))]
theorem c_19_1 {s : SS} (h : J s) : ev 19 0 [some (.inr (.inr (1, 0))), none, none] [] s = some (some (.inl (nI (cn (fun k => !(decide (s.1 32 0 k < 0))) 6))), s) := by
  rw [q_19_1]
  have hl := lpN (P := fun i => ev 19 4 [some (.inr (.inr (1, 0))), some (.inl (nI (cn (fun k => !(decide (s.1 32 0 k < 0))) i))), some (.inl (nI i))] [] s) 6 (fun i hi => by
    show ev 19 4 [some (.inr (.inr (1, 0))), some (.inl (nI (cn (fun k => !(decide (s.1 32 0 k < 0))) i))), some (.inl (nI i))] [] s = ev 19 4 [some (.inr (.inr (1, 0))), some (.inl (nI (cn (fun k => !(decide (s.1 32 0 k < 0))) i + (if (!(decide (s.1 32 0 i < 0))) = true then 1 else 0)))), some (.inl (nI (i + 1)))] [] s
    rw [q_19_at4_1, if_pos (nI_lt hi (by decide)), if_pos (ixB_nI hi (by decide)), cl_nI (by omega), nI_s, nI_s]
    rcases h.1.1 i hi with ⟨g1, g2⟩ | ⟨n, hn, g1, g2⟩
    · rw [g1, g2, if_pos rfl]
      rfl
    · have z : ¬ nI n < 0 := nI_pos (by omega)
      rw [g1, g2, if_neg (nm1 n (by omega))]
      simp [z])
  refine (show ev 19 4 [some (.inr (.inr (1, 0))), some (.inl (nI 0)), some (.inl (nI 0))] [] s = _ from hl).trans ?_
  rw [q_19_at4_1, if_neg (irr _)]
theorem c_19_2 {s : SS} (h : J s) : ev 19 0 [some (.inr (.inr (2, 0))), none, none] [] s = some (some (.inl (nI (cn (fun k => !(decide (s.1 35 0 k < 0))) 4))), s) := by
  rw [q_19_2]
  have hl := lpN (P := fun i => ev 19 4 [some (.inr (.inr (2, 0))), some (.inl (nI (cn (fun k => !(decide (s.1 35 0 k < 0))) i))), some (.inl (nI i))] [] s) 4 (fun i hi => by
    show ev 19 4 [some (.inr (.inr (2, 0))), some (.inl (nI (cn (fun k => !(decide (s.1 35 0 k < 0))) i))), some (.inl (nI i))] [] s = ev 19 4 [some (.inr (.inr (2, 0))), some (.inl (nI (cn (fun k => !(decide (s.1 35 0 k < 0))) i + (if (!(decide (s.1 35 0 i < 0))) = true then 1 else 0)))), some (.inl (nI (i + 1)))] [] s
    rw [q_19_at4_2, if_pos (nI_lt hi (by decide)), if_pos (ixB_nI hi (by decide)), cl_nI (by omega), nI_s, nI_s]
    rcases h.2.1.1 i hi with ⟨g1, g2⟩ | ⟨n, hn, g1, g2⟩
    · rw [g1, g2, if_pos rfl]
      rfl
    · have z : ¬ nI n < 0 := nI_pos (by omega)
      rw [g1, g2, if_neg (nm1 n (by omega))]
      simp [z])
  refine (show ev 19 4 [some (.inr (.inr (2, 0))), some (.inl (nI 0)), some (.inl (nI 0))] [] s = _ from hl).trans ?_
  rw [q_19_at4_2, if_neg (irr _)]
theorem r_61 (s : SS) : ev 231 61 [some (.inr (.inr (30, 0))), none, some (.inl 0), some (.inl 0)] [] s = some (some (.inl (nI (cn (fun k => !(decide (s.1 42 0 k < 0))) 8))), s) := by
  have hl := lpN (P := fun i => ev 231 61 [some (.inr (.inr (30, 0))), none, some (.inl (nI (cn (fun k => !(decide (s.1 42 0 k < 0))) i))), some (.inl (nI i))] [] s) 8 (fun i hi => by
    show ev 231 61 [some (.inr (.inr (30, 0))), none, some (.inl (nI (cn (fun k => !(decide (s.1 42 0 k < 0))) i))), some (.inl (nI i))] [] s = ev 231 61 [some (.inr (.inr (30, 0))), none, some (.inl (nI (cn (fun k => !(decide (s.1 42 0 k < 0))) i + (if (!(decide (s.1 42 0 i < 0))) = true then 1 else 0)))), some (.inl (nI (i + 1)))] [] s
    rw [q_231_at61, if_pos (show nI i < (8 : Int32) from nI_lt hi (by decide)), if_pos (ixB_nI hi (by decide)), cl_nI (by omega), nI_s, nI_s, nI_z]
    by_cases z : s.1 42 0 i < 0 <;> simp [z])
  refine (show ev 231 61 [some (.inr (.inr (30, 0))), none, some (.inl (nI 0)), some (.inl (nI 0))] [] s = _ from hl).trans ?_
  rw [q_231_at61, if_neg (show ¬ nI 8 < (8 : Int32) from irr (nI 8))]
theorem r_94 (s : SS) : ev 231 94 [some (.inr (.inr (30, 0))), none, some (.inl 0), some (.inl 0)] [] s = some (some (.inl (nI (cn (fun k => hardB (s.1 42 0 k)) 8))), s) := by
  have hl := lpN (P := fun i => ev 231 94 [some (.inr (.inr (30, 0))), none, some (.inl (nI (cn (fun k => hardB (s.1 42 0 k)) i))), some (.inl (nI i))] [] s) 8 (fun i hi => by
    show ev 231 94 [some (.inr (.inr (30, 0))), none, some (.inl (nI (cn (fun k => hardB (s.1 42 0 k)) i))), some (.inl (nI i))] [] s = ev 231 94 [some (.inr (.inr (30, 0))), none, some (.inl (nI (cn (fun k => hardB (s.1 42 0 k)) i + (if hardB (s.1 42 0 i) = true then 1 else 0)))), some (.inl (nI (i + 1)))] [] s
    rw [q_231_at94, if_pos (show nI i < (8 : Int32) from nI_lt hi (by decide)), if_pos (ixB_nI hi (by decide)), cl_nI (by omega), c_182, cI_s, nI_s, nI_s, nI_z, ite_bI]
    cases hardB (s.1 42 0 i) <;> rfl)
  refine (show ev 231 94 [some (.inr (.inr (30, 0))), none, some (.inl (nI 0)), some (.inl (nI 0))] [] s = _ from hl).trans ?_
  rw [q_231_at94, if_neg (show ¬ nI 8 < (8 : Int32) from irr (nI 8))]
theorem r_130 (s : SS) : ev 231 130 [some (.inr (.inr (30, 0))), none, some (.inl 0), some (.inl 0)] [] s = some (some (.inl (nI (cn (fun k => !(decide (s.1 32 0 k < 0))) 6))), s) := by
  have hl := lpN (P := fun i => ev 231 130 [some (.inr (.inr (30, 0))), none, some (.inl (nI (cn (fun k => !(decide (s.1 32 0 k < 0))) i))), some (.inl (nI i))] [] s) 6 (fun i hi => by
    show ev 231 130 [some (.inr (.inr (30, 0))), none, some (.inl (nI (cn (fun k => !(decide (s.1 32 0 k < 0))) i))), some (.inl (nI i))] [] s = ev 231 130 [some (.inr (.inr (30, 0))), none, some (.inl (nI (cn (fun k => !(decide (s.1 32 0 k < 0))) i + (if (!(decide (s.1 32 0 i < 0))) = true then 1 else 0)))), some (.inl (nI (i + 1)))] [] s
    rw [q_231_at130, if_pos (show nI i < (6 : Int32) from nI_lt hi (by decide)), if_pos (ixB_nI hi (by decide)), cl_nI (by omega), nI_s, nI_s, nI_z]
    by_cases z : s.1 32 0 i < 0 <;> simp [z])
  refine (show ev 231 130 [some (.inr (.inr (30, 0))), none, some (.inl (nI 0)), some (.inl (nI 0))] [] s = _ from hl).trans ?_
  rw [q_231_at130, if_neg (show ¬ nI 6 < (6 : Int32) from irr (nI 6))]
theorem r_163 (s : SS) : ev 231 163 [some (.inr (.inr (30, 0))), none, some (.inl 0), some (.inl 0)] [] s = some (some (.inl (nI (cn (fun k => !(decide (s.1 35 0 k < 0))) 4))), s) := by
  have hl := lpN (P := fun i => ev 231 163 [some (.inr (.inr (30, 0))), none, some (.inl (nI (cn (fun k => !(decide (s.1 35 0 k < 0))) i))), some (.inl (nI i))] [] s) 4 (fun i hi => by
    show ev 231 163 [some (.inr (.inr (30, 0))), none, some (.inl (nI (cn (fun k => !(decide (s.1 35 0 k < 0))) i))), some (.inl (nI i))] [] s = ev 231 163 [some (.inr (.inr (30, 0))), none, some (.inl (nI (cn (fun k => !(decide (s.1 35 0 k < 0))) i + (if (!(decide (s.1 35 0 i < 0))) = true then 1 else 0)))), some (.inl (nI (i + 1)))] [] s
    rw [q_231_at163, if_pos (show nI i < (4 : Int32) from nI_lt hi (by decide)), if_pos (ixB_nI hi (by decide)), cl_nI (by omega), nI_s, nI_s, nI_z]
    by_cases z : s.1 35 0 i < 0 <;> simp [z])
  refine (show ev 231 163 [some (.inr (.inr (30, 0))), none, some (.inl (nI 0)), some (.inl (nI 0))] [] s = _ from hl).trans ?_
  rw [q_231_at163, if_neg (show ¬ nI 4 < (4 : Int32) from irr (nI 4))]
def cntN (s : SS) (i : Nat) : Nat := if i = 0 then nN s else if i = 1 then nS s else if i = 2 then cn (fun k => tl s k == 1 || tl s k == 2) 28 else if i = 3 then cn (fun k => !(decide (s.1 42 0 k < 0))) 8 else if i = 4 then cn (fun k => hardB (s.1 42 0 k)) 8 else if i = 5 then cn (fun k => !(decide (s.1 32 0 k < 0))) 6 else cn (fun k => !(decide (s.1 35 0 k < 0))) 4
theorem c_96 {s : SS} (h : J s) {i : Nat} (hi : i < 7) : ev 96 0 [some (.inr (.inr (0, 0))), some (.inl (nI i))] [] s = some (some (.inl (nI (cntN s i))), s) := by
  rw [q_96, c_113_3 h.2.2.2.1, cI_s, c_113_12 h.2.2.2.1, cI_s, c_122_0 h, cI_s, c_122_1 h, cI_s, c_19_1 h, cI_s, c_19_2 h, cI_s, h.2.2.2.1.1.2.2.1]
  rcases (show i = 0 ∨ i = 1 ∨ i = 2 ∨ i = 3 ∨ i = 4 ∨ i = 5 ∨ i = 6 by omega) with rfl | rfl | rfl | rfl | rfl | rfl | rfl <;> rfl
theorem c_231 {s : SS} (h : JS s) {i : Nat} (hi : i < 7) : ev 231 0 [some (.inr (.inr (30, 0))), some (.inl (nI i)), none, none] [] s = some (some (.inl (nI (cntN s i))), s) := by
  rw [q_231, c_166_3 h, cI_s, c_166_12 h, cI_s, r_61, r_94, r_130, r_163, h.1.2.2.2]
  rcases (show i = 0 ∨ i = 1 ∨ i = 2 ∨ i = 3 ∨ i = 4 ∨ i = 5 ∨ i = 6 by omega) with rfl | rfl | rfl | rfl | rfl | rfl | rfl <;> rfl
theorem pub_count {s : SS} (h : J s) (v : Int32) : PI 96 232 [some (.inr (.inr (0, 0))), some (.inl v)] [some (.inr (.inr (30, 0))), some (.inl v)] s := by
  have hin : ev 144 0 [some (.inl v), some (.inl 0), some (.inl 6)] [] s = some (some (.inl (bI (ixB v 7))), s) := by
    rw [c_144, show (6 : Int32) = nI 6 from rfl, in_ix v 6 (by decide)]
  by_cases hv : ixB v 7 = true
  · obtain ⟨i, hi, rfl⟩ := (ixB_iff (by decide)).mp hv
    refine PI_0 h _ (c_96 h hi) ?_
    rw [q_232, hin, hv, cI_s, ite_bI, if_pos rfl, c_231 h.2.2.2.1 hi, cI_s]
  · have ne : ∀ i, i < 7 → ¬ v = nI i := fun i hi z => hv ((ixB_iff (by decide)).mpr ⟨i, hi, z⟩)
    refine PI_0 h (-1) ?_ ?_
    · rw [q_96, if_neg (show ¬ v = 0 from ne 0 (by decide)), if_neg (show ¬ v = 1 from ne 1 (by decide)), if_neg (show ¬ v = 2 from ne 2 (by decide)), if_neg (show ¬ v = 3 from ne 3 (by decide)), if_neg (show ¬ v = 4 from ne 4 (by decide)), if_neg (show ¬ v = 5 from ne 5 (by decide)), if_neg (show ¬ v = 6 from ne 6 (by decide))]
    · rw [q_232, hin, ix_no hv, cI_s, ite_bI, if_neg (by decide)]
/-! digest -/
def mx (h : Int64) (v : Int32) : Int64 := 31 * h + v.toInt64
theorem wL_wL (s : SS) (k j i : Nat) (v w : Int64) : wL (wL s k j i v) k j i w = wL s k j i w := by
  refine Prod.ext rfl (Prod.ext ?_ rfl)
  funext a b c
  rw [wL_2, wL_2, wL_2]
  by_cases h : a = k ∧ b = j ∧ c = i
  · rw [if_pos h, if_pos h]
  · rw [if_neg h, if_neg h, if_neg h]
theorem c_235 (s : SS) (h : Int64) (v : Int32) : ev 235 0 [some (.inr (.inr (30, 0))), some (.inl v)] [] (wL s 30 0 36 h) = some (none, wL s 30 0 36 (mx h v)) := by
  rw [q_235, wL_wL]
  rfl
def lawD (s : SS) (k : Nat) (h : Int64) : Int64 := if s.1 42 0 k < 0 then mx h (-1) else mx (mx (mx (mx h (nI (tlN s k (kdN s k) (npN s k) 0))) (nI (tlN s k (kdN s k) (npN s k) 1))) (nI (tlN s k (kdN s k) (npN s k) 2))) (nI (mkN s k (npN s k) (wtN s k) (fgN s k) (kdN s k)))
def rowD (s : SS) (q : Nat) (h : Int64) : Int64 := if s.1 32 0 q < 0 then mx h (-1) else fo (fun i h => mx h (s.1 33 0 (40 * q + i))) (s.1 32 0 q).toNatClampNeg (mx h (s.1 32 0 q))
def texD (s : SS) (q : Nat) (h : Int64) : Int64 := if s.1 35 0 q < 0 then mx h (-1) else fo (fun i h => mx h (s.1 36 0 (40 * q + i))) (s.1 35 0 q).toNatClampNeg (mx h (s.1 35 0 q))
def dig (s : SS) : Int64 := fo (fun q h => texD s q h) 4 (fo (fun q h => rowD s q h) 6 (fo (fun k h => lawD s k h) 8 (fo (fun k h => mx h (s.1 37 0 k)) 28 (fo (fun i h => mx h (nI (cntN s i))) 7 17))))
theorem Hd_n {s : SS} {j k kd np w f : Nat} (g : Hd s j k kd np w f) : kdN s k = kd ∧ npN s k = np ∧ wtN s k = w ∧ fgN s k = f := by
  obtain ⟨a1, a2, a3, a4, a5, a6, a7, a8, a9, a10, a11, a12, a13, a14, a15⟩ := g
  unfold kdN npN wtN fgN
  rw [a7, a9, a11, a13, cl_nI (by omega), cl_nI (by omega), cl_nI (by omega), cl_nI (by omega)]
  exact ⟨rfl, rfl, rfl, rfl⟩
theorem m1_mx (h : Int64) : 31 * h - 1 = mx h (-1) := by
  unfold mx
  rw [Int64.sub_eq_add_neg]
  rfl
theorem c_123 {s : SS} (h : J s) {k : Nat} (hk : k < 8) (x : Int64) : ev 123 0 [some (.inr (.inr (0, 0))), some (.inr (.inl x)), none, some (.inr (.inr (13, s.2.2 k))), none, none, none] [] s = some (some (.inr (.inl (lawD s k x))), s) := by
  have hS := h.2.2.2.1
  rw [q_123]
  unfold lawD
  rcases LJ_h (h.2.2.2.2.1.2.2 k hk) with ⟨g1, g2⟩ | ⟨g1, kd, np, w, f, g⟩
  · rw [g1, if_pos rfl, g2, if_pos (by decide), m1_mx]
  · obtain ⟨e1, e2, e3, e4⟩ := Hd_n g
    have hd := g.1
    rw [g1, if_neg (by decide), g.2.2.2.2.2.2.1, if_neg (nI_pos (by omega)), e1, e2, e3, e4]
    rw [q_123_at21, if_neg (by decide), show (0 : Int32) = nI 0 from rfl, c_121 hS (by decide) g, cI_s, nI_s]
    rw [q_123_at21, if_neg (by decide), c_121 hS (by decide) g, cI_s, nI_s]
    rw [q_123_at21, if_neg (by decide), c_121 hS (by decide) g, cI_s, nI_s]
    rw [q_123_at21, if_pos (by decide), g.2.2.2.2.2.1, c_120 hd g, cI_s]
    rfl
theorem c_20_1 {s : SS} (h : J s) (x : Int64) : ev 20 0 [some (.inr (.inr (1, 0))), some (.inr (.inl x)), none, none, none, none, none] [] s = some (some (.inr (.inl (fo (fun q h => rowD s q h) 6 x))), s) := by
  rw [q_20_1]
  have hl := lpS (fun q h => ev 20 5 [some (.inr (.inr (1, 0))), none, none, some (.inr (.inl h)), none, some (.inl (nI q)), none] [] s) (fun q h => rowD s q h) 6 (fun q x hq => by
    show ev 20 5 [some (.inr (.inr (1, 0))), none, none, some (.inr (.inl x)), none, some (.inl (nI q)), none] [] s = ev 20 5 [some (.inr (.inr (1, 0))), none, none, some (.inr (.inl (rowD s q x))), none, some (.inl (nI (q + 1))), none] [] s
    have xq : ixB (nI q) 6 = true := ixB_nI hq (by decide)
    rw [q_20_at5_1, if_pos (nI_lt hq (by decide)), if_pos xq, cl_nI (by omega)]
    unfold rowD
    rcases h.1.1 q hq with ⟨g1, g2⟩ | ⟨n, hn, g1, g2⟩
    · rw [g1, g2, if_pos (by decide), q_20_at33_1, if_pos xq, cl_nI (by omega), g1, if_neg (by decide), nI_s]
      rfl
    · have z : ¬ nI n < 0 := nI_pos (by omega)
      rw [g1, g2, if_neg z, cl_nI (show n < 2147483648 by omega)]
      have hl := lpS (fun i h => ev 20 33 [some (.inr (.inr (1, 0))), none, none, some (.inr (.inl h)), none, some (.inl (nI q)), some (.inl (nI i))] [] s) (fun i h => mx h (s.1 33 0 (40 * q + i))) n (fun i x hi => by
        show ev 20 33 [some (.inr (.inr (1, 0))), none, none, some (.inr (.inl x)), none, some (.inl (nI q)), some (.inl (nI i))] [] s = _
        rw [q_20_at33_1, if_pos xq, if_pos xq, cl_nI (show q < 2147483648 by omega), g1, if_pos (nI_lt hi (by omega)), if_pos (ixB_nI (by omega) (by decide)), cl_nI (show i < 2147483648 by omega), nI_s, h.1.2 q i hq (by omega)]
        rfl) (31 * x + (nI n).toInt64)
      refine (show ev 20 33 [some (.inr (.inr (1, 0))), none, none, some (.inr (.inl (31 * x + (nI n).toInt64))), none, some (.inl (nI q)), some (.inl (nI 0))] [] s = _ from hl).trans ?_
      rw [q_20_at33_1, if_pos xq, cl_nI (show q < 2147483648 by omega), g1, if_neg (irr _), nI_s]
      rfl) x
  refine (show ev 20 5 [some (.inr (.inr (1, 0))), none, none, some (.inr (.inl x)), none, some (.inl (nI 0)), none] [] s = _ from hl).trans ?_
  rw [q_20_at5_1, if_neg (irr _)]
theorem c_20_2 {s : SS} (h : J s) (x : Int64) : ev 20 0 [some (.inr (.inr (2, 0))), some (.inr (.inl x)), none, none, none, none, none] [] s = some (some (.inr (.inl (fo (fun q h => texD s q h) 4 x))), s) := by
  rw [q_20_2]
  have hl := lpS (fun q h => ev 20 5 [some (.inr (.inr (2, 0))), none, none, some (.inr (.inl h)), none, some (.inl (nI q)), none] [] s) (fun q h => texD s q h) 4 (fun q x hq => by
    show ev 20 5 [some (.inr (.inr (2, 0))), none, none, some (.inr (.inl x)), none, some (.inl (nI q)), none] [] s = ev 20 5 [some (.inr (.inr (2, 0))), none, none, some (.inr (.inl (texD s q x))), none, some (.inl (nI (q + 1))), none] [] s
    have xq : ixB (nI q) 4 = true := ixB_nI hq (by decide)
    rw [q_20_at5_2, if_pos (nI_lt hq (by decide)), if_pos xq, cl_nI (by omega)]
    unfold texD
    rcases h.2.1.1 q hq with ⟨g1, g2⟩ | ⟨n, hn, g1, g2⟩
    · rw [g1, g2, if_pos (by decide), q_20_at33_2, if_pos xq, cl_nI (by omega), g1, if_neg (by decide), nI_s]
      rfl
    · have z : ¬ nI n < 0 := nI_pos (by omega)
      rw [g1, g2, if_neg z, cl_nI (show n < 2147483648 by omega)]
      have hl := lpS (fun i h => ev 20 33 [some (.inr (.inr (2, 0))), none, none, some (.inr (.inl h)), none, some (.inl (nI q)), some (.inl (nI i))] [] s) (fun i h => mx h (s.1 36 0 (40 * q + i))) n (fun i x hi => by
        show ev 20 33 [some (.inr (.inr (2, 0))), none, none, some (.inr (.inl x)), none, some (.inl (nI q)), some (.inl (nI i))] [] s = _
        rw [q_20_at33_2, if_pos xq, if_pos xq, cl_nI (show q < 2147483648 by omega), g1, if_pos (nI_lt hi (by omega)), if_pos (ixB_nI (by omega) (by decide)), cl_nI (show i < 2147483648 by omega), nI_s, h.2.1.2 q i hq (by omega)]
        rfl) (31 * x + (nI n).toInt64)
      refine (show ev 20 33 [some (.inr (.inr (2, 0))), none, none, some (.inr (.inl (31 * x + (nI n).toInt64))), none, some (.inl (nI q)), some (.inl (nI 0))] [] s = _ from hl).trans ?_
      rw [q_20_at33_2, if_pos xq, cl_nI (show q < 2147483648 by omega), g1, if_neg (irr _), nI_s]
      rfl) x
  refine (show ev 20 5 [some (.inr (.inr (2, 0))), none, none, some (.inr (.inl x)), none, some (.inl (nI 0)), none] [] s = _ from hl).trans ?_
  rw [q_20_at5_2, if_neg (irr _)]
theorem c_99 {s : SS} (h : J s) : ev 99 0 [some (.inr (.inr (0, 0))), none, none, none] [] s = some (some (.inr (.inl (dig s))), s) := by
  rw [q_99]
  have l1 := lpS (fun i h => ev 99 6 [some (.inr (.inr (0, 0))), some (.inr (.inl h)), none, some (.inl (nI i))] [] s) (fun i h => mx h (nI (cntN s i))) 7 (fun i x hi => by
    show ev 99 6 [some (.inr (.inr (0, 0))), some (.inr (.inl x)), none, some (.inl (nI i))] [] s = _
    rw [q_99_at6, if_neg (show ¬ 6 < nI i from by rw [L_ltn (by omega) (by decide)]; show ¬ 6 < i; omega), c_96 h hi, cI_s, nI_s]
    rfl) 17
  refine (show ev 99 6 [some (.inr (.inr (0, 0))), some (.inr (.inl 17)), none, some (.inl (nI 0))] [] s = _ from l1).trans ?_
  rw [q_99_at6, if_pos (by decide)]
  have l2 := lpS (fun i h => ev 99 33 [some (.inr (.inr (0, 0))), some (.inr (.inl h)), none, some (.inl (nI i))] [] s) (fun i h => mx h (s.1 37 0 i)) 28 (fun i x hi => by
    show ev 99 33 [some (.inr (.inr (0, 0))), some (.inr (.inl x)), none, some (.inl (nI i))] [] s = _
    obtain ⟨g1, g2, -⟩ := h.2.2.2.1.2.1 i hi
    rw [q_99_at33, if_pos (show nI i < (28 : Int32) from nI_lt hi (by decide)), if_pos (ixB_nI hi (by decide)), cl_nI (by omega), nI_s, g1, ← g2]
    rfl) (fo (fun i h => mx h (nI (cntN s i))) 7 17)
  refine (show ev 99 33 [some (.inr (.inr (0, 0))), some (.inr (.inl _)), none, some (.inl (nI 0))] [] s = _ from l2).trans ?_
  rw [q_99_at33, if_neg (show ¬ nI 28 < (28 : Int32) from irr (nI 28))]
  have l3 := lpS (fun i h => ev 99 61 [some (.inr (.inr (0, 0))), some (.inr (.inl h)), none, some (.inl (nI i))] [] s) (fun k h => lawD s k h) 8 (fun i x hi => by
    show ev 99 61 [some (.inr (.inr (0, 0))), some (.inr (.inl x)), none, some (.inl (nI i))] [] s = _
    rw [q_99_at61, if_pos (show nI i < (8 : Int32) from nI_lt hi (by decide)), if_pos (ixB_nI hi (by decide)), cl_nI (by omega), nI_s, c_123 h hi, cL_s]) (fo (fun i h => mx h (s.1 37 0 i)) 28 (fo (fun i h => mx h (nI (cntN s i))) 7 17))
  refine (show ev 99 61 [some (.inr (.inr (0, 0))), some (.inr (.inl _)), none, some (.inl (nI 0))] [] s = _ from l3).trans ?_
  rw [q_99_at61, if_neg (show ¬ nI 8 < (8 : Int32) from irr (nI 8)), c_20_1 h, cL_s, c_20_2 h, cL_s]
  rfl
