section QRY2
variable {s : Sg} {c : Cf}
theorem x_updA (R : RelC s c) : Ok (f_X3_bringUpToDate s) (fun s' => RelC s' c ∧ RX s' c ∧ Ag (3 :: xK) s' s) := by
  obtain ⟨q, a1, a2⟩ := x_upd R
  obtain ⟨q', b1, b2⟩ := e_upToDate R.cx R.pf.2.2
  have : q = q' := Option.some.inj (a1.symm.trans b1)
  subst this
  exact ⟨q, a1, a2.1, a2.2, b2.1⟩
theorem m_runsA (R : RelC s c) : Ok (f_X10_runs s) (fun s' => RelC s' c ∧ (∀ u, u < nv c → MSv s' (Tr c) u) ∧ Ag (10 :: rK) s' s) := by
  obtain ⟨q, a1, a2⟩ := m_runs R
  obtain ⟨q', b1, b2⟩ := e_runs R.cm R.pf.2.1 R.pf.1
  have : q = q' := Option.some.inj (a1.symm.trans b1)
  subst this
  exact ⟨q, a1, a2.1, a2.2, b2.1⟩
def sw (c : Cf) (l v : Nat) : Nat → Int64
  | 0 => 0
  | i + 1 => sw c l v i + (if Tr c 1 v (i + 1) = -1 then 0 else (Tr c (5 + l) v (i + 1)).toInt64)
def ow (c : Cf) (pn : Nat → Int32) (l : Nat) : Nat → Int64
  | 0 => 0
  | v + 1 => ow c pn l v + sw c l v (lg c v) * (pn (ln c v)).toInt64
theorem x_sop {l v : Nat} (H : Cok c) (X : RX s c) (hl : l < 4) (hv : v < nv c) : ∀ (d i n : Nat), i + d = lg c v → d < n → f_X6_sharesOverPlaces_L5 n v (nI (lg c v)) (nI (1 + l)) (sw c l v i) (nI (i + 1)) s = some (sw c l v (lg c v), s) := by
  have hlg := (H.2.1 v hv).1
  intro d
  induction d with
  | zero =>
    intro i n h1 h2
    obtain ⟨n, rfl⟩ : ∃ m, n = m + 1 := ⟨n - 1, by omega⟩
    show f_X6_sharesOverPlaces_B5 _ _ _ _ _ _ _ = _
    unfold f_X6_sharesOverPlaces_B5
    rw [if_pos (nI_lt (by omega) (by omega)), show i = lg c v by omega]
  | succ d ih =>
    intro i n h1 h2
    obtain ⟨n, rfl⟩ : ∃ m, n = m + 1 := ⟨n - 1, by omega⟩
    show f_X6_sharesOverPlaces_B5 _ _ _ _ _ _ _ = _
    unfold f_X6_sharesOverPlaces_B5
    rw [if_neg (nI_nlt (by omega) (by omega)), chk, if_pos (gi_nI (by omega) (by decide)), nI_clamp (show i + 1 < 2 ^ 31 by omega), ((X v hv).1 (i + 1) (by omega)).1]
    have e := ih (i + 1) n (by omega) (by omega)
    by_cases z : Tr c 1 v (i + 1) = -1
    · rw [if_pos z, nI_1]
      have e3 : sw c l v (i + 1) = sw c l v i := by
        show sw c l v i + _ = _
        rw [if_pos z, Int64.add_zero]
      rw [e3] at e
      exact e
    · rw [if_neg z]
      obtain ⟨t, -, -, t1, t2, -⟩ := tr_c H hv z
      have y := (X v hv).2 (i + 1) (1 + l) (by omega) t2 (by omega)
      have e1 : nI (i + 1) * 5 + nI (1 + l) = nI (5 * (i + 1) + (1 + l)) := by rw [L_5, pk_mul, nI_add, Nat.mul_comm]
      have hs : f_X6_shareAt v (nI (i + 1)) (nI (1 + l)) s = some (Tr c (5 + l) v (i + 1), s) := by
        unfold f_X6_shareAt
        rw [e1, chk, if_pos (gi_nI (by omega) (by decide)), nI_clamp (by omega), y, show 4 + (1 + l) = 5 + l by omega]
      rw [hs, nI_1]
      have e3 : sw c l v (i + 1) = sw c l v i + (Tr c (5 + l) v (i + 1)).toInt64 := by
        show sw c l v i + _ = _
        rw [if_neg z]
      rw [e3] at e
      exact e
theorem x_ow {l : Nat} {pn : Nat → Int32} (HX : CX s c) (X : RX s c) (hl : l < 4) (hp : ∀ q, q < 4 → ∃ o, o < 5 ∧ s 12 0 q = nI o ∧ s 2 o 1 = pn q) : ∀ (d v n : Nat), v + d = nv c → d < n → f_X9_owed_L27 n (nI l) (ow c pn l v) (nI v) s = some (ow c pn l (nv c), s) := by
  have hv10 := HX.1.1
  intro d
  induction d with
  | zero =>
    intro v n h1 h2
    obtain ⟨n, rfl⟩ : ∃ m, n = m + 1 := ⟨n - 1, by omega⟩
    show f_X9_owed_B27 _ _ _ _ _ = _
    unfold f_X9_owed_B27
    rw [HX.2.1, if_pos (nI_le (by omega) (by omega)), show v = nv c by omega]
  | succ d ih =>
    intro v n h1 h2
    obtain ⟨n, rfl⟩ : ∃ m, n = m + 1 := ⟨n - 1, by omega⟩
    have hv : v < nv c := by omega
    have hlg := (HX.1.2.1 v hv).1
    have hln := (HX.1.2.1 v hv).2.1
    obtain ⟨v1, -, -, v4⟩ := (HX.2.2.1 v hv).1
    obtain ⟨o, o1, o2, o3⟩ := hp (ln c v) hln
    have hsp : f_X6_sharesOverPlaces v (s 8 v 4) (1 + nI l) s = some (sw c l v (lg c v), s) := by
      unfold f_X6_sharesOverPlaces bdL
      rw [v4, L_1, nI_add]
      exact x_sop HX.1 X hl hv (lg c v) 0 FU (by omega) (by unfold FU; omega)
    show f_X9_owed_B27 _ _ _ _ _ = _
    unfold f_X9_owed_B27
    rw [HX.2.1, if_neg (nI_ge (by omega) (by omega)), nI_clamp (show v < 2 ^ 31 by omega), hsp]
    simp only [Option.bind_some, chk, gi_nI (show v < 10 by omega) (by decide), if_true, v1, gi_nI hln (by decide), nI_clamp (show ln c v < 2 ^ 31 by omega), o2, nI_clamp (show o < 2 ^ 31 by omega), decide_eq_true o1, bdL, o3, nI_1]
    exact ih (v + 1) n (by omega) (by omega)
theorem m_ow2 (k22 : Int32 → Int64 → Int32 → Sg → Option (Int64 × Sg)) {l v : Nat} {pn : Nat → Int32} (HM : CM s c) (M : ∀ u, u < nv c → MSv s (Tr c) u) (hl : l < 4) (hp : ∀ q, q < 4 → s 63 0 q = pn q) (hv : v < nv c) (base : Int64) : ∀ (d i n : Nat), i + d = lg c v → d < n → f_X10_owed_L34 k22 n (nI l) (base + sw c l v i * (pn (ln c v)).toInt64) (nI v) (nI (i + 1)) s = k22 (nI l) (base + sw c l v (lg c v) * (pn (ln c v)).toInt64) (nI (v + 1)) s := by
  have hv10 := HM.1.1
  have hlg := (HM.1.2.1 v hv).1
  have hln := (HM.1.2.1 v hv).2.1
  obtain ⟨v1, v2, -⟩ := (HM.2.2.1 v hv).1
  intro d
  induction d with
  | zero =>
    intro i n h1 h2
    obtain ⟨n, rfl⟩ : ∃ m, n = m + 1 := ⟨n - 1, by omega⟩
    show f_X10_owed_B34 _ _ _ _ _ _ _ = _
    unfold f_X10_owed_B34
    rw [chk, if_pos (gi_nI (by omega) (by decide)), nI_clamp (by omega), v1, if_pos (nI_lt (by omega) (by omega)), show i = lg c v by omega, nI_1]
  | succ d ih =>
    intro i n h1 h2
    obtain ⟨n, rfl⟩ : ∃ m, n = m + 1 := ⟨n - 1, by omega⟩
    obtain ⟨y1, -, -, -, y5⟩ := (M v hv).2.2.2.2 (i + 1) (by omega)
    have e := ih (i + 1) n (by omega) (by omega)
    show f_X10_owed_B34 _ _ _ _ _ _ _ = _
    unfold f_X10_owed_B34
    rw [chk, if_pos (gi_nI (by omega) (by decide)), nI_clamp (show v < 2 ^ 31 by omega), v1, if_neg (nI_nlt (by omega) (by omega))]
    have e1 : (7 : Int32) * nI v + nI (i + 1) = nI (7 * v + (i + 1)) := by rw [L_7, pk_mul, nI_add]
    have e2 : (4 : Int32) * nI (7 * v + (i + 1)) + nI l = nI (4 * (7 * v + (i + 1)) + l) := by rw [L_4, pk_mul, nI_add]
    simp only [bdI, bdL, e1, e2, chk, gi_nI (show 7 * v + (i + 1) < 70 by omega) (by decide), gi_nI (show 4 * (7 * v + (i + 1)) + l < 280 by omega) (by decide), gi_nI (show v < 10 by omega) (by decide), if_true, nI_clamp (show 7 * v + (i + 1) < 2 ^ 31 by omega), nI_clamp (show 4 * (7 * v + (i + 1)) + l < 2 ^ 31 by omega), nI_clamp (show v < 2 ^ 31 by omega), y1, v2, gi_nI (show ln c v < 5 by omega) (by decide), nI_clamp (show ln c v < 2 ^ 31 by omega), hp _ hln, nI_1, y5 l hl]
    by_cases z : Tr c 1 v (i + 1) = -1
    · rw [if_pos z]
      have e3 : sw c l v (i + 1) = sw c l v i := by
        show sw c l v i + _ = _
        rw [if_pos z, Int64.add_zero]
      rw [e3] at e
      exact e
    · rw [if_neg z]
      have e3 : sw c l v (i + 1) = sw c l v i + (Tr c (5 + l) v (i + 1)).toInt64 := by
        show sw c l v i + _ = _
        rw [if_neg z]
      rw [e3, Int64.add_mul, ← Int64.add_assoc] at e
      exact e
theorem m_ow {l : Nat} {pn : Nat → Int32} (HM : CM s c) (M : ∀ u, u < nv c → MSv s (Tr c) u) (hl : l < 4) (hp : ∀ q, q < 4 → s 63 0 q = pn q) : ∀ (d v n : Nat), v + d = nv c → d < n → f_X10_owed_L22 n (nI l) (ow c pn l v) (nI v) s = some (ow c pn l (nv c), s) := by
  have hv10 := HM.1.1
  intro d
  induction d with
  | zero =>
    intro v n h1 h2
    obtain ⟨n, rfl⟩ : ∃ m, n = m + 1 := ⟨n - 1, by omega⟩
    show f_X10_owed_B22 _ _ _ _ _ = _
    unfold f_X10_owed_B22
    rw [HM.2.1, if_pos (nI_le (by omega) (by omega)), show v = nv c by omega]
  | succ d ih =>
    intro v n h1 h2
    obtain ⟨n, rfl⟩ : ∃ m, n = m + 1 := ⟨n - 1, by omega⟩
    have hv : v < nv c := by omega
    have hlg := (HM.1.2.1 v hv).1
    show f_X10_owed_B22 _ _ _ _ _ = _
    unfold f_X10_owed_B22
    rw [HM.2.1, if_neg (nI_ge (by omega) (by omega))]
    have e := m_ow2 (f_X10_owed_L22 n) HM M hl hp hv (ow c pn l v) (lg c v) 0 FU (by omega) (by unfold FU; omega)
    rw [show sw c l v 0 = 0 from rfl, Int64.zero_mul, Int64.add_zero] at e
    exact e.trans (ih (v + 1) n (by omega) (by omega))
theorem q_owed (R : Rel s) (a : Int32) : Bo (f_X9_owed a) (f_X10_owed a) s := by
  obtain ⟨c, RC⟩ := id R
  obtain ⟨np, n, nm, K, o, B, hc, R7, R8, R9, hP⟩ := id RC
  rcases ix_cases a (n := 4) (by omega) with h | ⟨l, hl, rfl⟩
  · refine bo_eq (r := -1) R ?_ ?_
    · unfold f_X9_owed; rw [isL_no h]; rfl
    · unfold f_X10_owed
      by_cases z : a < 0
      · rw [if_pos z]
      · rw [if_neg z, if_neg]
        rw [L_4]
        exact Int32.not_lt.mpr (h.resolve_left z)
  · have hv10 := RC.cx.1.1
    obtain ⟨b1, -, -, b4⟩ := B.2.2.2.2.2
    have h1 : Ok (f_X9_owed (nI l) s) (fun w => w.1 = ow c (fun q => s 63 0 q) l (nv c) ∧ RelC w.2 c ∧ w.2 63 = s 63) := by
      unfold f_X9_owed
      refine ok_call (isL_yes hl) (ok_neg n10 (ok_bind (x_updA RC) ?_))
      rintro s' ⟨R', X', A'⟩
      refine ok_L ?_
      refine ⟨_, x_ow (pn := fun q => s 63 0 q) R'.cx X' hl (fun q hq => ⟨o q, b1 q (by omega), ?_, ?_⟩) (nv c) 0 FU (by omega) (by unfold FU; omega), rfl, R', A' 63 (by decide)⟩
      · rw [A' 12 (by decide)]; exact (b4 q hq).1
      · rw [A' 2 (by decide)]; exact (b4 q hq).2.2.2.1
    obtain ⟨q, x1, x2, x3, x4⟩ := h1
    refine ⟨q, x1, ?_⟩
    unfold f_X10_owed
    refine ok_neg (nI_pos (by omega)) (ok_pos (by rw [L_4]; exact nI_lt hl (by omega)) (ok_bind (m_runsA x3) ?_))
    rintro s' ⟨R', M', A'⟩
    refine ok_L ?_
    refine ⟨_, m_ow (pn := fun q => s 63 0 q) R'.cm M' hl (fun z hz => ?_) (nv c) 0 FU (by omega) (by unfold FU; omega), x2, c, R'⟩
    rw [A' 63 (by decide), x4]
theorem q_look (R : Rel s) (a1 a2 : Int32) : Bo (f_X9_look a1 a2) (f_X10_look a1 a2) s := by
  obtain ⟨c, RC⟩ := id R
  obtain ⟨np, n, nm, K, o, B, hc, -⟩ := id RC
  have hn := B.2.2.1.1
  rcases ix_cases a1 (n := n) (by omega) with h | ⟨v, hv, rfl⟩
  · refine bo_eq (r := -1) R ?_ ?_
    · unfold f_X9_look; rw [hvX_no B.2.2.1.2.1 h]; rfl
    · unfold f_X10_look; rw [hvM_no B.2.2.1.2.2.1 h]; rfl
  · obtain ⟨⟨l, sp, st, sa, g, ⟨l1, l2, l3⟩, ⟨q1, q2, q3⟩, ⟨t1, t2, t3⟩, ⟨s1, s2, s3, s4⟩, r1, r2, r3⟩, hp, -⟩ := B.2.2.1.2.2.2 v hv
    have hg : lgs s v = g := by unfold lgs; rw [r2, nI_clamp (by omega)]
    have g10 := gi_nI (j := v) (n := 10) (by omega) (by decide)
    have cv : (nI v).toNatClampNeg = v := nI_clamp (by omega)
    have cg : (nI g).toNatClampNeg = g := nI_clamp (by omega)
    obtain ⟨pe, pe1, pe2, pe3⟩ := hp g (by omega)
    have e7 : (7 : Int32) * nI v + nI g = nI (7 * v + g) := by rw [L_7, pk_mul, nI_add]
    have fin : Bo (f_X9_look (nI v) a2) (f_X10_look (nI v) a2) s := by
      by_cases z0 : a2 = 0
      · refine bo_eq (r := nI l) R ?_ ?_
        · unfold f_X9_look; rw [hvX_yes B.2.2.1.2.1 hv hn, Option.bind_some]; simp only [chk, g10, if_true, if_neg n10, if_pos z0, cv, l2]
        · unfold f_X10_look; rw [hvM_yes B.2.2.1.2.2.1 hv hn, Option.bind_some]; simp only [chk, g10, if_true, if_neg n10, if_pos z0, cv, l3]
      by_cases z1 : a2 = 1
      · refine bo_eq (r := nI sp) R ?_ ?_
        · unfold f_X9_look; rw [hvX_yes B.2.2.1.2.1 hv hn, Option.bind_some]; simp only [chk, g10, if_true, if_neg n10, if_neg z0, if_pos z1, cv, q2]
        · unfold f_X10_look; rw [hvM_yes B.2.2.1.2.2.1 hv hn, Option.bind_some]; simp only [chk, g10, if_true, if_neg n10, if_neg z0, if_pos z1, cv, q3]
      by_cases z2 : a2 = 2
      · refine bo_eq (r := nI st) R ?_ ?_
        · unfold f_X9_look; rw [hvX_yes B.2.2.1.2.1 hv hn, Option.bind_some]; simp only [chk, g10, if_true, if_neg n10, if_neg z0, if_neg z1, if_pos z2, cv, t2]
        · unfold f_X10_look; rw [hvM_yes B.2.2.1.2.2.1 hv hn, Option.bind_some]; simp only [chk, g10, if_true, if_neg n10, if_neg z0, if_neg z1, if_pos z2, cv, t3]
      by_cases z3 : a2 = 3
      · refine bo_eq (r := nI sa) R ?_ ?_
        · unfold f_X9_look; rw [hvX_yes B.2.2.1.2.1 hv hn, Option.bind_some]; simp only [chk, g10, if_true, if_neg n10, if_neg z0, if_neg z1, if_neg z2, if_pos z3, cv, s2]
        · unfold f_X10_look; rw [hvM_yes B.2.2.1.2.2.1 hv hn, Option.bind_some]; simp only [chk, g10, if_true, if_neg n10, if_neg z0, if_neg z1, if_neg z2, if_pos z3, cv, s3]
      by_cases z4 : a2 = 4
      · refine bo_eq (r := nI g) R ?_ ?_
        · unfold f_X9_look; rw [hvX_yes B.2.2.1.2.1 hv hn, Option.bind_some]; simp only [chk, g10, if_true, if_neg n10, if_neg z0, if_neg z1, if_neg z2, if_neg z3, if_pos z4, cv, r2]
        · unfold f_X10_look; rw [hvM_yes B.2.2.1.2.2.1 hv hn, Option.bind_some]; simp only [chk, g10, if_true, if_neg n10, if_neg z0, if_neg z1, if_neg z2, if_neg z3, if_pos z4, cv, r3]
      by_cases z5 : a2 = 5
      · refine bo_eq (r := nI pe) R ?_ ?_
        · unfold f_X9_look f_X8_endPort; rw [hvX_yes B.2.2.1.2.1 hv hn, Option.bind_some]; simp only [chk, g10, if_true, if_neg n10, if_neg z0, if_neg z1, if_neg z2, if_neg z3, if_neg z4, if_pos z5, cv, r2, gi_nI (show g < 7 by omega) (by decide), cg, pe2, Option.bind_some]
        · unfold f_X10_look; rw [hvM_yes B.2.2.1.2.2.1 hv hn, Option.bind_some]; simp only [chk, g10, if_true, if_neg n10, if_neg z0, if_neg z1, if_neg z2, if_neg z3, if_neg z4, if_pos z5, cv, r3, e7, gi_nI (show 7 * v + g < 70 by omega) (by decide), nI_clamp (show 7 * v + g < 2 ^ 31 by omega), pe3]
      by_cases z6 : a2 < 10
      · refine bo_eq (r := -1) R ?_ ?_
        · unfold f_X9_look; rw [hvX_yes B.2.2.1.2.1 hv hn, Option.bind_some]; simp only [chk, g10, if_true, if_neg n10, if_neg z0, if_neg z1, if_neg z2, if_neg z3, if_neg z4, if_neg z5, if_pos z6]
        · unfold f_X10_look; rw [hvM_yes B.2.2.1.2.2.1 hv hn, Option.bind_some]; simp only [chk, g10, if_true, if_neg n10, if_neg z0, if_neg z1, if_neg z2, if_neg z3, if_neg z4, if_neg z5, if_pos z6]
      have z7 : ¬ a2 < 0 := by
        rw [Int32.lt_iff_toInt_lt] at z6 ⊢
        have e1 : (0 : Int32).toInt = 0 := rfl
        have e2 : (10 : Int32).toInt = 10 := rfl
        omega
      obtain ⟨j, j1, rfl⟩ := nI_of z7
      have j2 : 10 ≤ j := by
        rw [L_10, nI_ltI (by omega) (by omega)] at z6
        omega
      have e10 : nI j - 10 = nI (j - 10) := by rw [L_10, pk_sub j2]
      by_cases hj : j - 10 ≤ g
      · obtain ⟨pi, pi1, pi2, pi3⟩ := hp (j - 10) (by omega)
        refine bo_eq (r := nI pi) R ?_ ?_
        · unfold f_X9_look; rw [hvX_yes B.2.2.1.2.1 hv hn, Option.bind_some]
          have hh : f_X8_hasPlace v (nI (j - 10)) s = some (1, s) := by
            unfold f_X8_hasPlace
            rw [r2, if_neg (nI_pos (by omega)), if_neg (nI_nlt hj (by omega))]
          simp only [chk, g10, if_true, if_neg n10, if_neg z0, if_neg z1, if_neg z2, if_neg z3, if_neg z4, if_neg z5, if_neg z6, cv, e10, hh, Option.bind_some, gi_nI (show j - 10 < 7 by omega) (by decide), nI_clamp (show j - 10 < 2 ^ 31 by omega), pi2]
        · unfold f_X10_look; rw [hvM_yes B.2.2.1.2.2.1 hv hn, Option.bind_some]
          have e11 : (7 : Int32) * nI v + nI j - 10 = nI (7 * v + (j - 10)) := by
            rw [L_7, pk_mul, nI_add, L_10, pk_sub (by omega)]
            congr 1
            omega
          have e12 : ¬ (10 : Int32) + nI g < nI j := by
            rw [L_10, nI_add, nI_ltI (by omega) (by omega)]
            omega
          simp only [chk, g10, if_true, if_neg n10, if_neg z0, if_neg z1, if_neg z2, if_neg z3, if_neg z4, if_neg z5, if_neg z6, cv, r3, if_neg e12, e11, gi_nI (show 7 * v + (j - 10) < 70 by omega) (by decide), nI_clamp (show 7 * v + (j - 10) < 2 ^ 31 by omega), pi3]
      · refine bo_eq (r := -1) R ?_ ?_
        · unfold f_X9_look; rw [hvX_yes B.2.2.1.2.1 hv hn, Option.bind_some]
          have hh : f_X8_hasPlace v (nI (j - 10)) s = some (0, s) := by
            unfold f_X8_hasPlace
            rw [r2, if_neg (nI_pos (by omega)), if_pos (nI_lt (by omega) (by omega))]
          simp only [chk, g10, if_true, if_neg n10, if_neg z0, if_neg z1, if_neg z2, if_neg z3, if_neg z4, if_neg z5, if_neg z6, cv, e10, hh, Option.bind_some]
        · unfold f_X10_look; rw [hvM_yes B.2.2.1.2.2.1 hv hn, Option.bind_some]
          have e12 : (10 : Int32) + nI g < nI j := by
            rw [L_10, nI_add, nI_ltI (by omega) (by omega)]
            omega
          simp only [chk, g10, if_true, if_neg n10, if_neg z0, if_neg z1, if_neg z2, if_neg z3, if_neg z4, if_neg z5, if_neg z6, cv, r3, if_pos e12]
    exact fin
theorem q_ride (R : Rel s) (a1 a2 : Int32) : Bo (f_X9_ride a1 a2) (f_X10_ride a1 a2) s := by
  obtain ⟨c, np, n, nm, K, o, B, hc, R7, ⟨m, m1, m2, m3, m4⟩, -⟩ := id R
  rcases ix_cases a1 (n := m) (by omega) with h | ⟨k, hk, rfl⟩
  · refine bo_eq (r := -1) R ?_ ?_
    · unfold f_X9_ride
      by_cases z : a1 < 0
      · rw [if_pos z]
      · rw [if_neg z, m2, if_pos (h.resolve_left z)]
    · unfold f_X10_ride
      by_cases z : a1 < 0
      · rw [if_pos z]
      · rw [if_neg z, m3, if_neg (Int32.not_lt.mpr (h.resolve_left z))]
  · obtain ⟨k1, k2, k3⟩ := m4 k hk
    have hX : f_X9_ride (nI k) a2 s = if a2 < 0 then some (-1, s) else if a2 < 3 then chk (gi (nI k * 3 + a2) 30) (some (s 29 0 (nI k * 3 + a2).toNatClampNeg, s)) else some (-1, s) := by
      unfold f_X9_ride
      rw [if_neg (nI_pos (by omega)), m2, if_neg (nI_ge hk (by omega))]
    have hM : f_X10_ride (nI k) a2 s = if a2 = 0 then some (s 86 0 k, s) else if a2 = 1 then some (s 87 0 k, s) else if a2 = 2 then some (s 88 0 k, s) else some (-1, s) := by
      unfold f_X10_ride
      rw [if_neg (nI_pos (by omega)), m3, if_pos (nI_lt hk (by omega)), chk, if_pos (gi_nI (by omega) (by decide)), chk, if_pos (gi_nI (by omega) (by decide)), chk, if_pos (gi_nI (by omega) (by decide)), nI_clamp (by omega)]
    rcases ix_cases a2 (n := 3) (by omega) with h | ⟨q, hq, rfl⟩
    · refine bo_eq (r := -1) R ?_ ?_
      · rw [hX]
        by_cases z : a2 < 0
        · rw [if_pos z]
        · rw [if_neg z, if_neg (by rw [L_3]; exact Int32.not_lt.mpr (h.resolve_left z))]
      · rw [hM, if_neg, if_neg, if_neg]
        · rintro rfl; revert h; decide
        · rintro rfl; revert h; decide
        · rintro rfl; revert h; decide
    · have e1 : nI k * 3 + nI q = nI (3 * k + q) := by rw [L_3, pk_mul, nI_add, Nat.mul_comm]
      refine bo_eq (r := s 29 0 (3 * k + q)) R ?_ ?_
      · rw [hX, if_neg (nI_pos (by omega)), if_pos (by rw [L_3]; exact nI_lt hq (by omega)), e1, chk, if_pos (gi_nI (by omega) (by decide)), nI_clamp (by omega)]
      · rw [hM]
        rcases (show q = 0 ∨ q = 1 ∨ q = 2 by omega) with rfl | rfl | rfl
        · rw [if_pos (show nI 0 = 0 from rfl), ← k1]; rfl
        · rw [if_neg (by decide), if_pos (show nI 1 = 1 from rfl), ← k2]
        · rw [if_neg (by decide), if_neg (by decide), if_pos (show nI 2 = 2 from rfl), ← k3]
theorem q_count (R : Rel s) (a : Int32) : Bo (f_X9_count a) (f_X10_count a) s := by
  obtain ⟨c, np, n, nm, K, o, B, hc, ⟨tn, u1, u2, u3, u4⟩, -⟩ := id R
  obtain ⟨B1, B2, B3, B4, B5, B6⟩ := B
  by_cases z0 : a = 0
  · refine bo_eq (r := nI np) R ?_ ?_
    · unfold f_X9_count; rw [if_pos z0, B1.2.1]
    · unfold f_X10_count; rw [if_pos z0, B1.2.2.1]
  by_cases z1 : a = 1
  · refine bo_eq (r := nI n) R ?_ ?_
    · unfold f_X9_count; rw [if_neg z0, if_pos z1, B3.2.1]
    · unfold f_X10_count; rw [if_neg z0, if_pos z1, B3.2.2.1]
  by_cases z2 : a = 2
  · refine bo_eq (r := nI nm) R ?_ ?_
    · unfold f_X9_count; rw [if_neg z0, if_neg z1, if_pos z2, B5.2.1]
    · unfold f_X10_count; rw [if_neg z0, if_neg z1, if_pos z2, B5.2.2.1]
  by_cases z3 : a = 3
  · refine bo_eq (r := nI tn) R ?_ ?_
    · unfold f_X9_count; rw [if_neg z0, if_neg z1, if_neg z2, if_pos z3, u2]
    · unfold f_X10_count; rw [if_neg z0, if_neg z1, if_neg z2, if_pos z3, u3]
  have hn := B1.1
  have h99 : ∃ r, f_X9_count_B99 a s = some (r, s) ∧ f_X10_count_B74 a s = some (r, s) := by
    unfold f_X9_count_B99 f_X10_count_B74 f_X1_has
    by_cases y : a < 100
    · exact ⟨-1, by rw [if_pos y], by rw [if_pos y]⟩
    · have y0 : ¬ a < 0 := by
        rw [Int32.lt_iff_toInt_lt] at y ⊢
        have e1 : (0 : Int32).toInt = 0 := rfl
        have e2 : (100 : Int32).toInt = 100 := rfl
        omega
      obtain ⟨j, j1, rfl⟩ := nI_of y0
      have j2 : 100 ≤ j := by
        rw [L_100, nI_ltI (by omega) (by omega)] at y
        omega
      have e1 : nI j - 100 = nI (j - 100) := by rw [L_100, pk_sub j2]
      have e2 : nI (j - 100) / 12 = nI ((j - 100) / 12) := by rw [L_12, pk_div (by omega) (by omega) (by omega)]
      have e3 : (100 : Int32) + 12 * nI np = nI (100 + 12 * np) := by rw [L_12, pk_mul, L_100, nI_add]
      rw [if_neg y, if_neg y, e1, e2, B1.2.1, B1.2.2.1, e3, if_neg (nI_pos (by omega))]
      by_cases q : j < 100 + 12 * np
      · have q1 : (j - 100) / 12 < np := by omega
        have q2 := (B2 (j - 100) (by omega)).1
        refine ⟨s 17 0 (j - 100) + 1000, ?_, ?_⟩
        · rw [if_neg (nI_ge q1 (by omega))]
          show chk (gi (nI (j - 100)) 144) (some (s 17 0 (nI (j - 100)).toNatClampNeg + 1000, s)) = _
          rw [chk, if_pos (gi_nI (by omega) (by decide)), nI_clamp (by omega)]
        · rw [if_neg (nI_ge q (by omega)), chk, if_pos (gi_nI (by omega) (by decide)), nI_clamp (by omega), q2]
      · have q1 : np ≤ (j - 100) / 12 := by omega
        refine ⟨-1, ?_, ?_⟩
        · rw [if_pos (nI_le q1 (by omega))]; rfl
        · rw [if_pos (nI_le (by omega) (by omega))]
  obtain ⟨r, r1, r2⟩ := h99
  by_cases z4 : a < 10
  · refine bo_eq (r := r) R ?_ ?_
    · unfold f_X9_count; rw [if_neg z0, if_neg z1, if_neg z2, if_neg z3, if_pos z4]; exact r1
    · unfold f_X10_count; rw [if_neg z0, if_neg z1, if_neg z2, if_neg z3, if_pos z4]; exact r2
  have z7 : ¬ a < 0 := by
    rw [Int32.lt_iff_toInt_lt] at z4 ⊢
    have e1 : (0 : Int32).toInt = 0 := rfl
    have e2 : (10 : Int32).toInt = 10 := rfl
    omega
  obtain ⟨j, j1, rfl⟩ := nI_of z7
  have j2 : 10 ≤ j := by
    rw [L_10, nI_ltI (by omega) (by omega)] at z4
    omega
  have e10 : nI j - 10 = nI (j - 10) := by rw [L_10, pk_sub j2]
  by_cases z5 : j < 14
  · obtain ⟨w1, -, -, w4, -⟩ := B6.2.2.2 (j - 10) (by omega)
    have w5 := B6.1 (j - 10) (by omega)
    refine bo_eq (r := s 63 0 (j - 10)) R ?_ ?_
    · unfold f_X9_count
      rw [if_neg z0, if_neg z1, if_neg z2, if_neg z3, if_neg z4, e10, isL_yes (by omega), Option.bind_some]
      simp only [if_neg n10, chk, gi_nI (show j - 10 < 4 by omega) (by decide), if_true, nI_clamp (show j - 10 < 2 ^ 31 by omega), w1, nI_clamp (show o (j - 10) < 2 ^ 31 by omega), decide_eq_true w5, w4]
    · unfold f_X10_count
      rw [if_neg z0, if_neg z1, if_neg z2, if_neg z3, if_neg z4, if_neg (by rw [show (14 : Int32) = nI 14 from rfl, nI_leI (by omega) (by omega)]; omega), e10, chk, if_pos (gi_nI (by omega) (by decide)), nI_clamp (by omega)]
  · refine bo_eq (r := r) R ?_ ?_
    · unfold f_X9_count
      rw [if_neg z0, if_neg z1, if_neg z2, if_neg z3, if_neg z4, e10, isL_no (Or.inr (nI_le (by omega) (by omega)))]
      exact r1
    · unfold f_X10_count
      rw [if_neg z0, if_neg z1, if_neg z2, if_neg z3, if_neg z4, if_pos (by rw [show (14 : Int32) = nI 14 from rfl, nI_leI (by omega) (by omega)]; omega)]
      exact r2
end QRY2
