section MEET
variable {s : Sg}
def metX (s : Sg) (v i nm : Nat) (u j : Int32) : Sg := up3 (up3 (up3 (up3 s 40 v i u) 41 v i j) 0 0 3 (nI (nm + 1))) 3 0 2 1
def metM (s : Sg) (nm : Nat) (v i u j : Int32) : Sg := up3 (up3 (up3 (up3 (up3 (up3 s 56 0 nm v) 57 0 nm i) 58 0 nm u) 59 0 nm j) 10 0 2 (nI (nm + 1))) 10 0 19 0
theorem BK.l52 {np n nm : Nat} {K : Nat → List Cl} {o : Nat → Nat} (B : BK s np n nm K o) {v : Nat} (hv : v < n) : s 52 0 v = nI (lgs s v) := by
  obtain ⟨l, sp, st, sa, g, -, -, -, -, r1, r2, r3⟩ := (B.2.2.1.2.2.2 v hv).1
  unfold lgs
  rw [r2, nI_clamp (by omega)]; exact r3
theorem q_meet (R : Rel s) (a1 a2 a3 a4 : Int32) : Bo (f_X9_meet a1 a2 a3 a4) (f_X10_meet a1 a2 a3 a4) s := by
  obtain ⟨c, np, n, nm, K, o, B, hc, R7, R8, R9, hP⟩ := id R
  obtain ⟨B1, B2, B3, B4, B5, B6⟩ := id B
  have hn := B3.1
  have hnm := B5.1
  rcases ix_cases a1 (n := n) (by omega) with z | ⟨v, hv, rfl⟩
  · refine bo_eq (r := 0) R ?_ ?_
    · unfold f_X9_meet; rw [hvX_no B3.2.1 z]; rfl
    · unfold f_X10_meet; rw [hvM_no B3.2.2.1 z]; rfl
  rcases ix_cases a3 (n := n) (by omega) with z | ⟨u, hu, rfl⟩
  · refine bo_eq (r := 0) R ?_ ?_
    · unfold f_X9_meet; simp only [hvX_yes (s := s) B3.2.1 hv hn, hvX_no (s := s) B3.2.1 z, Option.bind_some, if_neg n10, if_true]
    · unfold f_X10_meet; simp only [hvM_yes (s := s) B3.2.2.1 hv hn, hvM_no (s := s) B3.2.2.1 z, Option.bind_some, if_neg n10, if_true]
  by_cases hvu : v = u
  · have e : nI v = nI u := by rw [hvu]
    refine bo_eq (r := 0) R ?_ ?_
    · unfold f_X9_meet; simp only [hvX_yes (s := s) B3.2.1 hv hn, hvX_yes (s := s) B3.2.1 hu hn, Option.bind_some, if_neg n10, if_pos e]
    · unfold f_X10_meet; simp only [hvM_yes (s := s) B3.2.2.1 hv hn, hvM_yes (s := s) B3.2.2.1 hu hn, Option.bind_some, if_neg n10, if_pos e]
  have e : ¬ nI v = nI u := by rw [nI_eq (by omega) (by omega)]; exact hvu
  obtain ⟨hlv, hlv2⟩ := B.lg6 hv
  obtain ⟨hlu, hlu2⟩ := B.lg6 hu
  have h52v := B.l52 hv
  have h52u := B.l52 hu
  have gv := gi_nI (j := v) (n := 10) (by omega) (by decide)
  have gu := gi_nI (j := u) (n := 10) (by omega) (by decide)
  have cv : (nI v).toNatClampNeg = v := nI_clamp (by omega)
  have cu : (nI u).toNatClampNeg = u := nI_clamp (by omega)
  -- the class refuses: 20 are there
  have key : (∃ i j, i < lgs s v ∧ 1 ≤ j ∧ j ≤ lgs s u ∧ a2 = nI i ∧ a4 = nI j) ∨ (f_X9_meet (nI v) a2 (nI u) a4 s = some (0, s) ∧ f_X10_meet (nI v) a2 (nI u) a4 s = some (0, s)) := by
    have hX : ∀ (hh : f_X8_leavesFrom v a2 s = some (0, s) ∨ f_X8_leavesFrom v a2 s = some (1, s) ∧ f_X8_comesTo u a4 s = some (0, s)), f_X9_meet (nI v) a2 (nI u) a4 s = some (0, s) := by
      intro hh
      unfold f_X9_meet
      by_cases q : nI nm < 20
      · rcases hh with h1 | ⟨h1, h2⟩
        · simp only [hvX_yes (s := s) B3.2.1 hv hn, hvX_yes (s := s) B3.2.1 hu hn, Option.bind_some, if_neg n10, if_neg e, B5.2.1, if_pos q, chk, gv, gu, if_true, cv, h1]
        · simp only [hvX_yes (s := s) B3.2.1 hv hn, hvX_yes (s := s) B3.2.1 hu hn, Option.bind_some, if_neg n10, if_neg e, B5.2.1, if_pos q, chk, gv, gu, if_true, cv, h1, cu, h2]
      · simp only [hvX_yes (s := s) B3.2.1 hv hn, hvX_yes (s := s) B3.2.1 hu hn, Option.bind_some, if_neg n10, if_neg e, B5.2.1, if_neg q]
    rcases ix_cases a2 (n := lgs s v) (by omega) with z | ⟨i, hi, rfl⟩
    · right
      refine ⟨hX (Or.inl ?_), ?_⟩
      · unfold f_X8_leavesFrom
        by_cases q : a2 < 0
        · rw [if_pos q]
        · rw [if_neg q, hlv2, if_pos (z.resolve_left q)]
      · unfold f_X10_meet
        by_cases q : a2 < 0
        · simp only [hvM_yes (s := s) B3.2.2.1 hv hn, hvM_yes (s := s) B3.2.2.1 hu hn, Option.bind_some, if_neg n10, if_neg e, if_pos q]
        · simp only [hvM_yes (s := s) B3.2.2.1 hv hn, hvM_yes (s := s) B3.2.2.1 hu hn, Option.bind_some, if_neg n10, if_neg e, if_neg q, chk, gv, if_true, cv, h52v, if_pos (z.resolve_left q)]
    · have i0 : ¬ nI i < 0 := nI_pos (by omega)
      have i1 : ¬ nI (lgs s v) ≤ nI i := nI_ge hi (by omega)
      have hlf : f_X8_leavesFrom v (nI i) s = some (1, s) := by
        unfold f_X8_leavesFrom
        rw [if_neg i0, hlv2, if_neg i1]
      by_cases z1 : a4 < 1
      · right
        refine ⟨hX (Or.inr ⟨hlf, ?_⟩), ?_⟩
        · unfold f_X8_comesTo; rw [if_pos z1]
        · unfold f_X10_meet; simp only [hvM_yes (s := s) B3.2.2.1 hv hn, hvM_yes (s := s) B3.2.2.1 hu hn, Option.bind_some, if_neg n10, if_neg e, if_neg i0, chk, gv, if_true, cv, h52v, if_neg i1, if_pos z1]
      by_cases z2 : nI (lgs s u) < a4
      · right
        refine ⟨hX (Or.inr ⟨hlf, ?_⟩), ?_⟩
        · unfold f_X8_comesTo; rw [if_neg z1, hlu2, if_pos z2]
        · unfold f_X10_meet; simp only [hvM_yes (s := s) B3.2.2.1 hv hn, hvM_yes (s := s) B3.2.2.1 hu hn, Option.bind_some, if_neg n10, if_neg e, if_neg i0, chk, gv, gu, if_true, cv, cu, h52v, if_neg i1, if_neg z1, h52u, if_pos z2]
      · left
        have hle : 1 ≤ lgs s u := by
          obtain ⟨j, j1, j2, rfl⟩ := i_lt (n := 1) (by omega) z1
          rw [nI_ltI (by omega) (by omega)] at z2
          omega
        obtain ⟨j, j1, j2, rfl⟩ := rng (lo := 1) (hi := lgs s u) (by omega) z1 z2 hle
        exact ⟨i, j, hi, j1, j2, rfl, rfl⟩
  by_cases kk : f_X9_meet (nI v) a2 (nI u) a4 s = some (0, s) ∧ f_X10_meet (nI v) a2 (nI u) a4 s = some (0, s)
  · exact bo_eq R kk.1 kk.2
  obtain ⟨i, j, hi, hj1, hj2, rfl, rfl⟩ := key.resolve_right kk
  have i0 : ¬ nI i < 0 := nI_pos (by omega)
  have i1 : ¬ nI (lgs s v) ≤ nI i := nI_ge hi (by omega)
  have j0 : ¬ nI j < 1 := by rw [L_1, nI_ltI (by omega) (by omega)]; omega
  have j1 : ¬ nI (lgs s u) < nI j := nI_nlt hj2 (by omega)
  have hlf : f_X8_leavesFrom v (nI i) s = some (1, s) := by
    unfold f_X8_leavesFrom
    rw [if_neg i0, hlv2, if_neg i1]
  have hct : f_X8_comesTo u (nI j) s = some (1, s) := by
    unfold f_X8_comesTo
    rw [if_neg j0, hlu2, if_neg j1]
  by_cases hn20 : nm = 20
  · have q1 : ¬ nI nm < 20 := by rw [show (20 : Int32) = nI 20 from rfl, nI_ltI (by omega) (by omega)]; omega
    have q2 : nI nm = 20 := by rw [hn20]; rfl
    refine bo_eq (r := 0) R ?_ ?_
    · unfold f_X9_meet; simp only [hvX_yes (s := s) B3.2.1 hv hn, hvX_yes (s := s) B3.2.1 hu hn, Option.bind_some, if_neg n10, if_neg e, B5.2.1, if_neg q1]
    · unfold f_X10_meet; simp only [hvM_yes (s := s) B3.2.2.1 hv hn, hvM_yes (s := s) B3.2.2.1 hu hn, Option.bind_some, if_neg n10, if_neg e, if_neg i0, chk, gv, gu, if_true, cv, cu, h52v, if_neg i1, if_neg j0, h52u, if_neg j1, B5.2.2.1, if_pos q2]
  have q1 : nI nm < 20 := by rw [show (20 : Int32) = nI 20 from rfl, nI_ltI (by omega) (by omega)]; omega
  have q2 : ¬ nI nm = 20 := by rw [show (20 : Int32) = nI 20 from rfl, nI_eq (by omega) (by omega)]; exact hn20
  obtain ⟨pv, pv1, pv2, pv3⟩ := (B3.2.2.2 v hv).2.1 i (by omega)
  obtain ⟨pu, pu1, pu2, pu3⟩ := (B3.2.2.2 u hu).2.1 j hj2
  have gi7 := gi_nI (j := i) (n := 7) (by omega) (by decide)
  have gi6 := gi_nI (j := i) (n := 6) (by omega) (by decide)
  have gj7 := gi_nI (j := j) (n := 7) (by omega) (by decide)
  have ci : (nI i).toNatClampNeg = i := nI_clamp (by omega)
  have cj : (nI j).toNatClampNeg = j := nI_clamp (by omega)
  have e7v : (7 : Int32) * nI v + nI i = nI (7 * v + i) := by rw [L_7, pk_mul, nI_add]
  have e7u : (7 : Int32) * nI u + nI j = nI (7 * u + j) := by rw [L_7, pk_mul, nI_add]
  have g7v := gi_nI (j := 7 * v + i) (n := 70) (by omega) (by decide)
  have g7u := gi_nI (j := 7 * u + j) (n := 70) (by omega) (by decide)
  have c7v : (nI (7 * v + i)).toNatClampNeg = 7 * v + i := nI_clamp (by omega)
  have c7u : (nI (7 * u + j)).toNatClampNeg = 7 * u + j := nI_clamp (by omega)
  by_cases hport : ¬ nI pv = nI pu
  · refine bo_eq (r := 0) R ?_ ?_
    · unfold f_X9_meet; simp only [hvX_yes (s := s) B3.2.1 hv hn, hvX_yes (s := s) B3.2.1 hu hn, Option.bind_some, if_neg n10, if_neg e, B5.2.1, if_pos q1, chk, gv, gu, if_true, cv, cu, hlf, hct, gi7, gj7, ci, cj, pv2, pu2, if_neg hport]
    · unfold f_X10_meet; simp only [hvM_yes (s := s) B3.2.2.1 hv hn, hvM_yes (s := s) B3.2.2.1 hu hn, Option.bind_some, if_neg n10, if_neg e, if_neg i0, chk, gv, gu, if_true, cv, cu, h52v, if_neg i1, if_neg j0, h52u, if_neg j1, B5.2.2.1, if_neg q2, e7v, e7u, g7v, g7u, c7v, c7u, pv3, pu3, if_neg hport]
  replace hport := Classical.not_not.mp hport
  -- is there a meeting at i?
  have hmt := e_mt B.cm (by rw [B.nv]; exact hv) (show i < lg (cfg s K) v from hi)
  have hmv : mt (cfg s K) v i = cfgM s v i := rfl
  rw [hmv] at hmt
  by_cases hm : ¬ s 40 v i = -1
  · unfold cfgM at hmt
    rw [if_neg hm] at hmt
    obtain ⟨k, k1, k2, -⟩ := hmt
    refine bo_eq (r := 0) R ?_ ?_
    · unfold f_X9_meet; simp only [hvX_yes (s := s) B3.2.1 hv hn, hvX_yes (s := s) B3.2.1 hu hn, Option.bind_some, if_neg n10, if_neg e, B5.2.1, if_pos q1, chk, gv, gu, if_true, cv, cu, hlf, hct, gi7, gj7, gi6, ci, cj, pv2, pu2, if_pos hport, if_neg hm]
    · unfold f_X10_meet; simp only [hvM_yes (s := s) B3.2.2.1 hv hn, hvM_yes (s := s) B3.2.2.1 hu hn, Option.bind_some, if_neg n10, if_neg e, if_neg i0, chk, gv, gu, if_true, cv, cu, h52v, if_neg i1, if_neg j0, h52u, if_neg j1, B5.2.2.1, if_neg q2, e7v, e7u, g7v, g7u, c7v, c7u, pv3, pu3, if_pos hport, k2, if_neg (nIm1 (show k < 2 ^ 31 by omega))]
  replace hm := Classical.not_not.mp hm
  unfold cfgM at hmt
  rw [if_pos hm] at hmt
  have hmt' : f_X10_meeting (nI v) (nI i) s = some (-1, s) := hmt
  have hX : f_X9_meet (nI v) (nI i) (nI u) (nI j) s = some (1, metX s v i nm (nI u) (nI j)) := by
    unfold f_X9_meet bdS metX
    simp only [hvX_yes (s := s) B3.2.1 hv hn, hvX_yes (s := s) B3.2.1 hu hn, Option.bind_some, if_neg n10, if_neg e, B5.2.1, if_pos q1, chk, gv, gu, if_true, cv, cu, hlf, hct, gi7, gj7, gi6, ci, cj, pv2, pu2, if_pos hport, if_pos hm, up_k (show ¬ (0 : Nat) = 40 by decide), up_k (show ¬ (0 : Nat) = 41 by decide), nI_1]
  have A1 : Ag [40, 41, 0, 3] (metX s v i nm (nI u) (nI j)) s := by
    unfold metX
    repeat refine Ag.up ?_ (by decide)
    exact Ag.rfl
  have hmtX : f_X10_meeting (nI v) (nI i) (metX s v i nm (nI u) (nI j)) = some (-1, metX s v i nm (nI u) (nI j)) := by
    have hno : ∀ a, a < nm → ¬ (metX s v i nm (nI u) (nI j) 56 0 a = nI v ∧ metX s v i nm (nI u) (nI j) 57 0 a = nI i) := by
      intro a ha hh
      rw [A1 56 (by decide), A1 57 (by decide)] at hh
      obtain ⟨u', j', d1, d2, d3, -, -, d4, d5⟩ := (B5.2.2.2.2.1 a ha).at B3.1 (fun w hw => (B.lg6 hw).1) hv hi hh.1 hh.2
      rw [hm] at d4
      exact nIm1 (by omega) d4.symm
    have h2 : metX s v i nm (nI u) (nI j) 10 0 2 = nI nm := by rw [A1 10 (by decide)]; exact B5.2.2.1
    unfold f_X10_meeting
    have loop : ∀ (d k f : Nat), k + d = nm → d < f → f_X10_meeting_L2 f (nI v) (nI i) (nI k) (metX s v i nm (nI u) (nI j)) = some (-1, metX s v i nm (nI u) (nI j)) := by
      intro d
      induction d with
      | zero =>
        intro k f h1 h3
        obtain ⟨f, rfl⟩ : ∃ m, f = m + 1 := ⟨f - 1, by omega⟩
        show f_X10_meeting_B2 _ _ _ _ _ = _
        unfold f_X10_meeting_B2
        rw [h2, if_pos (nI_le (by omega) (by omega))]
      | succ d ih =>
        intro k f h1 h3
        obtain ⟨f, rfl⟩ : ∃ m, f = m + 1 := ⟨f - 1, by omega⟩
        have hk := hno k (by omega)
        have hi' := ih (k + 1) f (by omega) (by omega)
        show f_X10_meeting_B2 _ _ _ _ _ = _
        unfold f_X10_meeting_B2
        rw [h2, if_neg (nI_ge (by omega) (by omega)), nI_clamp (show k < 2 ^ 31 by omega), nI_1, hi']
        simp only [chk, gi_nI (show k < 20 by omega) (by decide), if_true]
        by_cases g1 : metX s v i nm (nI u) (nI j) 56 0 k = nI v
        · rw [if_pos g1, if_neg (fun g2 => hk ⟨g1, g2⟩)]
        · rw [if_neg g1]
    exact loop nm 0 FU (by omega) (by unfold FU; omega)
  have hM : f_X10_meet (nI v) (nI i) (nI u) (nI j) (metX s v i nm (nI u) (nI j)) = some (1, metM (metX s v i nm (nI u) (nI j)) nm (nI v) (nI i) (nI u) (nI j)) := by
    unfold f_X10_meet bdS metM
    simp only [hvM_yes (s := metX s v i nm (nI u) (nI j)) (by rw [A1 10 (by decide)]; exact B3.2.2.1) hv hn, hvM_yes (s := metX s v i nm (nI u) (nI j)) (by rw [A1 10 (by decide)]; exact B3.2.2.1) hu hn, Option.bind_some, if_neg n10, if_neg e, if_neg i0, chk, gv, gu, if_true, cv, cu, A1 52 (by decide), h52v, if_neg i1, if_neg j0, h52u, if_neg j1, up_k (show ¬ (10 : Nat) = 56 by decide), up_k (show ¬ (10 : Nat) = 57 by decide), up_k (show ¬ (10 : Nat) = 58 by decide), up_k (show ¬ (10 : Nat) = 59 by decide), A1 10 (by decide), B5.2.2.1, if_neg q2, e7v, e7u, g7v, g7u, c7v, c7u, A1 55 (by decide), pv3, pu3, if_pos hport, hmtX, gi_nI (show nm < 20 by omega) (by decide), nI_clamp (show nm < 2 ^ 31 by omega), nI_1]
  refine ⟨_, hX, _, hM, rfl, ?_⟩
  dsimp only
  have A : Ag [40, 41, 0, 3, 56, 57, 58, 59, 10] (metM (metX s v i nm (nI u) (nI j)) nm (nI v) (nI i) (nI u) (nI j)) s := by
    unfold metM metX
    repeat refine Ag.up ?_ (by decide)
    exact Ag.rfl
  have w : ∀ j', ¬ j' = 2 → ¬ j' = 19 → metM (metX s v i nm (nI u) (nI j)) nm (nI v) (nI i) (nI u) (nI j) 10 0 j' = s 10 0 j' := by
    intro j' hj hj'
    unfold metM
    simp only [up_j hj, up_j hj', up_k (show ¬ (10 : Nat) = 56 by decide), up_k (show ¬ (10 : Nat) = 57 by decide), up_k (show ¬ (10 : Nat) = 58 by decide), up_k (show ¬ (10 : Nat) = 59 by decide), A1 10 (by decide)]
  have f19 : metM (metX s v i nm (nI u) (nI j)) nm (nI v) (nI i) (nI u) (nI j) 10 0 19 = 0 := by unfold metM; rw [up_s]
  have f2 : metM (metX s v i nm (nI u) (nI j)) nm (nI v) (nI i) (nI u) (nI j) 10 0 2 = nI (nm + 1) := by unfold metM; rw [up_j (by decide), up_s]
  have f3 : metM (metX s v i nm (nI u) (nI j)) nm (nI v) (nI i) (nI u) (nI j) 3 0 2 = 1 := by unfold metM metX; simp only [up_k (show ¬ (3 : Nat) = 56 by decide), up_k (show ¬ (3 : Nat) = 57 by decide), up_k (show ¬ (3 : Nat) = 58 by decide), up_k (show ¬ (3 : Nat) = 59 by decide), up_k (show ¬ (3 : Nat) = 10 by decide), up_s]
  have f0 : ∀ k, metM (metX s v i nm (nI u) (nI j)) nm (nI v) (nI i) (nI u) (nI j) 0 0 k = if k = 3 then nI (nm + 1) else s 0 0 k := by intro k; unfold metM metX; simp only [up_k (show ¬ (0 : Nat) = 56 by decide), up_k (show ¬ (0 : Nat) = 57 by decide), up_k (show ¬ (0 : Nat) = 58 by decide), up_k (show ¬ (0 : Nat) = 59 by decide), up_k (show ¬ (0 : Nat) = 10 by decide), up_k (show ¬ (0 : Nat) = 3 by decide), up_k (show ¬ (0 : Nat) = 40 by decide), up_k (show ¬ (0 : Nat) = 41 by decide), up_at]
  have f40 : ∀ a b, metM (metX s v i nm (nI u) (nI j)) nm (nI v) (nI i) (nI u) (nI j) 40 a b = if a = v ∧ b = i then nI u else s 40 a b := by intro a b; unfold metM metX; simp only [up_k (show ¬ (40 : Nat) = 56 by decide), up_k (show ¬ (40 : Nat) = 57 by decide), up_k (show ¬ (40 : Nat) = 58 by decide), up_k (show ¬ (40 : Nat) = 59 by decide), up_k (show ¬ (40 : Nat) = 10 by decide), up_k (show ¬ (40 : Nat) = 3 by decide), up_k (show ¬ (40 : Nat) = 0 by decide), up_k (show ¬ (40 : Nat) = 41 by decide), up_at2]
  have f41 : ∀ a b, metM (metX s v i nm (nI u) (nI j)) nm (nI v) (nI i) (nI u) (nI j) 41 a b = if a = v ∧ b = i then nI j else s 41 a b := by intro a b; unfold metM metX; simp only [up_k (show ¬ (41 : Nat) = 56 by decide), up_k (show ¬ (41 : Nat) = 57 by decide), up_k (show ¬ (41 : Nat) = 58 by decide), up_k (show ¬ (41 : Nat) = 59 by decide), up_k (show ¬ (41 : Nat) = 10 by decide), up_k (show ¬ (41 : Nat) = 3 by decide), up_k (show ¬ (41 : Nat) = 0 by decide), up_k (show ¬ (41 : Nat) = 40 by decide), up_at2]
  have f56 : ∀ k, metM (metX s v i nm (nI u) (nI j)) nm (nI v) (nI i) (nI u) (nI j) 56 0 k = if k = nm then nI v else s 56 0 k := by intro k; unfold metM metX; simp only [up_k (show ¬ (56 : Nat) = 40 by decide), up_k (show ¬ (56 : Nat) = 57 by decide), up_k (show ¬ (56 : Nat) = 58 by decide), up_k (show ¬ (56 : Nat) = 59 by decide), up_k (show ¬ (56 : Nat) = 10 by decide), up_k (show ¬ (56 : Nat) = 3 by decide), up_k (show ¬ (56 : Nat) = 0 by decide), up_k (show ¬ (56 : Nat) = 41 by decide), up_at]
  have f57 : ∀ k, metM (metX s v i nm (nI u) (nI j)) nm (nI v) (nI i) (nI u) (nI j) 57 0 k = if k = nm then nI i else s 57 0 k := by intro k; unfold metM metX; simp only [up_k (show ¬ (57 : Nat) = 40 by decide), up_k (show ¬ (57 : Nat) = 56 by decide), up_k (show ¬ (57 : Nat) = 58 by decide), up_k (show ¬ (57 : Nat) = 59 by decide), up_k (show ¬ (57 : Nat) = 10 by decide), up_k (show ¬ (57 : Nat) = 3 by decide), up_k (show ¬ (57 : Nat) = 0 by decide), up_k (show ¬ (57 : Nat) = 41 by decide), up_at]
  have f58 : ∀ k, metM (metX s v i nm (nI u) (nI j)) nm (nI v) (nI i) (nI u) (nI j) 58 0 k = if k = nm then nI u else s 58 0 k := by intro k; unfold metM metX; simp only [up_k (show ¬ (58 : Nat) = 40 by decide), up_k (show ¬ (58 : Nat) = 57 by decide), up_k (show ¬ (58 : Nat) = 56 by decide), up_k (show ¬ (58 : Nat) = 59 by decide), up_k (show ¬ (58 : Nat) = 10 by decide), up_k (show ¬ (58 : Nat) = 3 by decide), up_k (show ¬ (58 : Nat) = 0 by decide), up_k (show ¬ (58 : Nat) = 41 by decide), up_at]
  have f59 : ∀ k, metM (metX s v i nm (nI u) (nI j)) nm (nI v) (nI i) (nI u) (nI j) 59 0 k = if k = nm then nI j else s 59 0 k := by intro k; unfold metM metX; simp only [up_k (show ¬ (59 : Nat) = 40 by decide), up_k (show ¬ (59 : Nat) = 57 by decide), up_k (show ¬ (59 : Nat) = 58 by decide), up_k (show ¬ (59 : Nat) = 56 by decide), up_k (show ¬ (59 : Nat) = 10 by decide), up_k (show ¬ (59 : Nat) = 3 by decide), up_k (show ¬ (59 : Nat) = 0 by decide), up_k (show ¬ (59 : Nat) = 41 by decide), up_at]
  generalize metM (metX s v i nm (nI u) (nI j)) nm (nI v) (nI i) (nI u) (nI j) = t at A w f19 f2 f3 f0 f40 f41 f56 f57 f58 f59 ⊢
  have hgl : ∀ x, lgs t x = lgs s x := fun x => by unfold lgs; rw [A 8 (by decide)]
  -- no elder meeting is at (v, i)
  have hold : ∀ k, k < nm → ¬ (s 56 0 k = nI v ∧ s 57 0 k = nI i) := by
    intro a ha hh
    obtain ⟨u', j', d1, d2, d3, -, -, d4, d5⟩ := (B5.2.2.2.2.1 a ha).at B3.1 (fun w hw => (B.lg6 hw).1) hv hi hh.1 hh.2
    rw [hm] at d4
    exact nIm1 (by omega) d4.symm
  refine ⟨cfg t K, np, n, nm + 1, K, o, ⟨P1_of (fun k hk => A k (by revert k; decide)) (w 0 (by decide) (by decide)) B1, P2_of (fun k hk => A k (by revert k; decide)) B2, ⟨hn, by rw [f0, if_neg (by decide)]; exact B3.2.1, by rw [w 1 (by decide) (by decide)]; exact B3.2.2.1, fun x hx => ?_⟩, fun x y hx hy h => ?_, ⟨by omega, by rw [f0, if_pos rfl], f2, fun a b ha hb h1 h2 => ?_, fun k hk => ?_, fun x y hx hy h => ?_⟩, P6_of (by rw [f0, if_neg (by decide)]) (fun k hk => A k (by revert k; decide)) B6⟩, rfl, P7_of (fun k hk => A k (by revert k; decide)) (w 21 (by decide) (by decide)) R7, P8_of (fun k hk => A k (by revert k; decide)) (by rw [A 4 (by decide)]) (w 55 (by decide) (by decide)) R8, P9_of (A 5 (by decide)) (w 22 (by decide) (by decide)) (w 23 (by decide) (by decide)) R9, PF.no f19 f3⟩
  · have H := B3.2.2.2 x hx
    unfold Vv Vp Vl lgs at H ⊢
    rw [A 8 (by decide), A 48 (by decide), A 49 (by decide), A 50 (by decide), A 51 (by decide), A 43 (by decide), A 52 (by decide), A 36 (by decide), A 55 (by decide), A 37 (by decide), A 53 (by decide), A 39 (by decide), A 54 (by decide), A 38 (by decide), A 16 (by decide), A 42 (by decide)]
    exact H
  · rw [hgl] at h
    rw [A 39 (by decide), f40, if_neg]
    · exact B4 x y hx hy h
    · rintro ⟨rfl, rfl⟩
      omega
  · rw [f56, f56] at h1
    rw [f57, f57] at h2
    by_cases ea : a = nm
    · by_cases eb : b = nm
      · omega
      · rw [if_pos ea, if_neg eb] at h1 h2
        exact absurd ⟨h1.symm, h2.symm⟩ (hold b (by omega))
    · by_cases eb : b = nm
      · rw [if_neg ea, if_pos eb] at h1 h2
        exact absurd ⟨h1, h2⟩ (hold a (by omega))
      · rw [if_neg ea, if_neg eb] at h1 h2
        exact B5.2.2.2.1 a b (by omega) (by omega) h1 h2
  · by_cases ek : k = nm
    · refine ⟨v, i, u, j, hv, by rw [hgl]; exact hi, hu, hj1, by rw [hgl]; exact hj2, ?_⟩
      rw [f56, f57, f58, f59, f40, f41, if_pos ek, if_pos ek, if_pos ek, if_pos ek, if_pos ⟨rfl, rfl⟩, if_pos ⟨rfl, rfl⟩]
      exact ⟨rfl, rfl, rfl, rfl, rfl, rfl⟩
    · obtain ⟨v', i', u', j', y1, y2, y3, y4, y5, y6, y7, y8⟩ := B5.2.2.2.2.1 k (by omega)
      refine ⟨v', i', u', j', y1, by rw [hgl]; exact y2, y3, y4, by rw [hgl]; exact y5, ?_⟩
      have hne : ¬ (v' = v ∧ i' = i) := by
        rintro ⟨rfl, rfl⟩
        exact hold k (by omega) ⟨y6, y7⟩
      rw [f56, f57, f58, f59, f40, f41, if_neg ek, if_neg ek, if_neg ek, if_neg ek, if_neg hne, if_neg hne]
      exact ⟨y6, y7, y8⟩
  · rw [hgl] at hy
    rw [f40] at h
    by_cases exy : x = v ∧ y = i
    · obtain ⟨rfl, rfl⟩ := exy
      exact ⟨nm, by omega, by rw [f56, if_pos rfl], by rw [f57, if_pos rfl]⟩
    · rw [if_neg exy] at h
      obtain ⟨k, k1, k2, k3⟩ := B5.2.2.2.2.2 x y hx hy h
      exact ⟨k, by omega, by rw [f56, if_neg (by omega)]; exact k2, by rw [f57, if_neg (by omega)]; exact k3⟩
end MEET
