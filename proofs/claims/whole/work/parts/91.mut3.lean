/-! wind, voyage, broken -/
section MUT3
variable {s : Sg}
theorem dc_sw {x y : UInt64} {o : Ordering} (h : FP.dcmp x y = some o) : FP.dcmp y x = some o.swap := by
  have := FP.Core.dcmp_swap x y
  rw [show FP.Core.dcmp x y = some o from h] at this
  exact this
theorem q_wind (R : Rel s) (a1 a2 : Int32) {x : UInt64} (hx : FP.Core.val64 x ≠ .nan) : Bo (f_X9_wind a1 a2 x) (f_X10_wind a1 a2 x) s := by
  obtain ⟨c, np, n, nm, K, o, B, hc, R7, R8, R9, hP⟩ := id R
  obtain ⟨B1, B2, B3, B4, B5, B6⟩ := id B
  have hn := B1.1
  rcases ix_cases a1 (n := np) (by omega) with z | ⟨p, hp, rfl⟩
  · refine bo_eq (r := 0) R ?_ ?_
    · unfold f_X9_wind f_X1_has
      by_cases q : a1 < 0
      · rw [if_pos q]; rfl
      · rw [if_neg q, B1.2.1, if_pos (z.resolve_left q)]; rfl
    · unfold f_X10_wind
      by_cases q : a1 < 0
      · rw [if_pos q]
      · rw [if_neg q, B1.2.2.1, if_pos (z.resolve_left q)]
  have hh : f_X1_has (nI p) s = some (1, s) := by
    unfold f_X1_has
    rw [if_neg (nI_pos (by omega)), B1.2.1, if_neg (nI_ge hp (by omega))]
  have e0 : ¬ nI p < 0 := nI_pos (by omega)
  have e1 : ¬ nI np ≤ nI p := nI_ge hp (by omega)
  rcases ix_cases a2 (n := 12) (by omega) with z | ⟨m, hm, rfl⟩
  · refine bo_eq (r := 0) R ?_ ?_
    · unfold f_X9_wind
      by_cases q : a2 < 0
      · simp only [hh, Option.bind_some, if_neg n10, if_pos q]
      · have q2 : ¬ a2 < 12 := by rw [L_12]; exact Int32.not_lt.mpr (z.resolve_left q)
        simp only [hh, Option.bind_some, if_neg n10, if_neg q, if_neg q2]
    · unfold f_X10_wind
      by_cases q : a2 < 0
      · simp only [if_neg e0, B1.2.2.1, if_neg e1, if_pos q]
      · have q2 : ¬ a2 ≤ 11 := by
          have := z.resolve_left q
          rw [Int32.le_iff_toInt_le, nI_toInt (by omega)] at this
          rw [Int32.le_iff_toInt_le, show (11 : Int32).toInt = 11 from rfl]
          omega
        simp only [if_neg e0, B1.2.2.1, if_neg e1, if_neg q, if_neg q2]
  have m0 : ¬ nI m < 0 := nI_pos (by omega)
  have m1 : nI m < 12 := by rw [L_12, nI_ltI (by omega) (by omega)]; exact hm
  have m2 : nI m ≤ 11 := by rw [L_11, nI_leI (by omega) (by omega)]; omega
  have hself : Op.cmpValue (FP.dcmp x x) .l = 0 := by rw [show FP.dcmp x x = some .eq from FP.Core.dcmp_self hx]; rfl
  have hX : f_X9_wind (nI p) (nI m) x s = f_X9_wind_B37 (nI p) (nI m) x s := by
    unfold f_X9_wind
    simp only [hh, Option.bind_some, if_neg n10, if_neg m0, if_pos m1, if_pos hself]
  have i1 : nI p * 12 + nI m = nI (12 * p + m) := by rw [L_12, pk_mul, nI_add, Nat.mul_comm]
  have i2 : (12 : Int32) * nI p + nI m = nI (12 * p + m) := by rw [L_12, pk_mul, nI_add]
  have g144 := gi_nI (j := 12 * p + m) (n := 144) (by omega) (by decide)
  have c144 : (nI (12 * p + m)).toNatClampNeg = 12 * p + m := nI_clamp (by omega)
  have no : ∀ q : CmpOp, Op.cmpValue (some .lt) q = -1 := fun q => rfl
  have nl : (-1 : Int32) < 0 := by decide
  rcases wd_x hx with h | ⟨o1, h1, h2, h⟩
  · refine bo_eq (r := 0) R ?_ ?_
    · rw [hX]; unfold f_X9_wind_B37; rw [h, if_pos (by decide)]
    · unfold f_X10_wind; rw [h]; simp only [if_neg e0, B1.2.2.1, if_neg e1, if_neg m0, if_pos m2]; rw [if_pos (by decide)]
  have k1 : ∀ q : CmpOp, ¬ Op.cmpValue (some o1) q < 0 := by
    intro q
    cases o1 with
    | lt => exact absurd rfl h2
    | eq => show ¬ (0 : Int32) < 0; decide
    | gt => show ¬ (1 : Int32) < 0; decide
  rcases h with ⟨o2, h3, h4⟩ | ⟨h3, w, w1, w2, h5⟩
  · have k2 : ∀ q : CmpOp, ¬ Op.cmpValue (some o2) q < 0 := by
      intro q
      cases o2 with
      | lt => exact absurd rfl h4
      | eq => show ¬ (0 : Int32) < 0; decide
      | gt => show ¬ (1 : Int32) < 0; decide
    refine bo_eq (r := 0) R ?_ ?_
    · rw [hX]; unfold f_X9_wind_B37; rw [h1, if_neg (k1 _), h3, if_neg (k2 _)]
    · unfold f_X10_wind; rw [h1, h3]; simp only [if_neg e0, B1.2.2.1, if_neg e1, if_neg m0, if_pos m2, if_neg (k1 _), if_neg (k2 _)]
  have hX2 : f_X9_wind (nI p) (nI m) x s = some (1, up3 (up3 s 17 0 (12 * p + m) w) 3 0 2 1) := by
    have hr : f_X9_roundedDown x s = some (w, s) := by
      unfold f_X9_roundedDown
      show (if Op.cmpValue (FP.dcmp (FP.i2d (FP.d2i x)) x) .l ≤ 0 then some (FP.d2i x, s) else some (FP.d2i x - 1, s)) = _
      rcases h5 with ⟨o3, y1, y2, y3⟩ | ⟨y1, y3⟩
      · rw [y1, if_pos, y3]
        cases o3 with
        | lt => show (-1 : Int32) ≤ 0; decide
        | eq => show (0 : Int32) ≤ 0; decide
        | gt => exact absurd rfl y2
      · rw [y1, if_neg, y3]
        show ¬ (1 : Int32) ≤ 0
        decide
    rw [hX]
    unfold f_X9_wind_B37
    rw [h1, if_neg (k1 _), h3, if_pos (by decide), hr]
    simp only [Option.bind_some, i1, chk, g144, if_true, c144, bdS]
  have hM2 : ∀ t : Sg, t 10 0 0 = nI np → f_X10_wind (nI p) (nI m) x t = some (1, up3 (up3 t 47 0 (12 * p + m) w) 10 0 19 0) := by
    intro t ht
    have h60 : f_X10_wind_B60 (nI p) (nI m) w t = some (1, up3 (up3 t 47 0 (12 * p + m) w) 10 0 19 0) := by
      unfold f_X10_wind_B60 bdS
      simp only [i2, chk, g144, if_true, c144]
    unfold f_X10_wind
    rw [h1, h3]
    simp only [if_neg e0, ht, if_neg e1, if_neg m0, if_pos m2, if_neg (k1 _)]
    rw [if_pos (by decide)]
    show (if 0 ≤ Op.cmpValue (FP.dcmp x (FP.i2d (FP.d2i x))) .g then f_X10_wind_B60 (nI p) (nI m) (FP.d2i x) t else f_X10_wind_B60 (nI p) (nI m) (FP.d2i x - 1) t) = _
    rcases h5 with ⟨o3, y1, y2, y3⟩ | ⟨y1, y3⟩
    · rw [dc_sw y1, if_pos, ← y3]
      · exact h60
      · cases o3 with
        | lt => show (0 : Int32) ≤ 1; decide
        | eq => show (0 : Int32) ≤ 0; decide
        | gt => exact absurd rfl y2
    · rw [dc_sw y1, if_neg, ← y3]
      · exact h60
      · show ¬ (0 : Int32) ≤ -1
        decide
  refine ⟨_, hX2, _, hM2 _ (by dsimp only; rw [up_k (by decide), up_k (by decide)]; exact B1.2.2.1), rfl, ?_⟩
  dsimp only
  have A : Ag [17, 3, 47, 10] (up3 (up3 (up3 (up3 s 17 0 (12 * p + m) w) 3 0 2 1) 47 0 (12 * p + m) w) 10 0 19 0) s := by
    repeat refine Ag.up ?_ (by decide)
    exact Ag.rfl
  have v : ∀ j, ¬ j = 19 → (up3 (up3 (up3 (up3 s 17 0 (12 * p + m) w) 3 0 2 1) 47 0 (12 * p + m) w) 10 0 19 0) 10 0 j = s 10 0 j := by
    intro j hj
    simp only [up_j hj, up_k (show ¬ (10 : Nat) = 47 by decide), up_k (show ¬ (10 : Nat) = 3 by decide), up_k (show ¬ (10 : Nat) = 17 by decide)]
  have f1 : (up3 (up3 (up3 (up3 s 17 0 (12 * p + m) w) 3 0 2 1) 47 0 (12 * p + m) w) 10 0 19 0) 10 0 19 = 0 := up_s
  have f2 : (up3 (up3 (up3 (up3 s 17 0 (12 * p + m) w) 3 0 2 1) 47 0 (12 * p + m) w) 10 0 19 0) 3 0 2 = 1 := by simp only [up_k (show ¬ (3 : Nat) = 10 by decide), up_k (show ¬ (3 : Nat) = 47 by decide), up_s]
  have f17 : ∀ k, (up3 (up3 (up3 (up3 s 17 0 (12 * p + m) w) 3 0 2 1) 47 0 (12 * p + m) w) 10 0 19 0) 17 0 k = if k = 12 * p + m then w else s 17 0 k := by intro k; simp only [up_k (show ¬ (17 : Nat) = 10 by decide), up_k (show ¬ (17 : Nat) = 47 by decide), up_k (show ¬ (17 : Nat) = 3 by decide), up_at]
  have f47 : ∀ k, (up3 (up3 (up3 (up3 s 17 0 (12 * p + m) w) 3 0 2 1) 47 0 (12 * p + m) w) 10 0 19 0) 47 0 k = if k = 12 * p + m then w else s 47 0 k := by intro k; simp only [up_k (show ¬ (47 : Nat) = 10 by decide), up_k (show ¬ (47 : Nat) = 3 by decide), up_k (show ¬ (47 : Nat) = 17 by decide), up_at]
  generalize up3 (up3 (up3 (up3 s 17 0 (12 * p + m) w) 3 0 2 1) 47 0 (12 * p + m) w) 10 0 19 0 = t at A v f1 f2 f17 f47 ⊢
  refine ⟨cfg t K, np, n, nm, K, o, ⟨P1_of (fun k hk => A k (by revert k; decide)) (v 0 (by decide)) B1, fun k hk => ?_, P3_of (fun k hk => A k (by revert k; decide)) (v 1 (by decide)) B3, P4_of (fun k hk => A k (by revert k; decide)) B4, P5_of (fun k hk => A k (by revert k; decide)) (v 2 (by decide)) B5, P6_of (by rw [A 0 (by decide)]) (fun k hk => A k (by revert k; decide)) B6⟩, rfl, P7_of (fun k hk => A k (by revert k; decide)) (v 21 (by decide)) R7, P8_of (fun k hk => A k (by revert k; decide)) (by rw [A 4 (by decide)]) (v 55 (by decide)) R8, P9_of (A 5 (by decide)) (v 22 (by decide)) (v 23 (by decide)) R9, PF.no f1 f2⟩
  rw [f17, f47]
  by_cases q : k = 12 * p + m
  · simp only [if_pos q]; exact ⟨trivial, w1, w2⟩
  · simp only [if_neg q]; exact B2 k hk
theorem n64_i (k : Int32) : FP.Core.val64 (FP.dmul (FP.i2d k) 4593671619917905920) ≠ .nan ∧ n64 (FP.dmul (FP.i2d k) 4593671619917905920) = true := by
  have hf : FP.Core.DFin 4593671619917905920 := (FP.Core.fin_bits _).mpr (by decide)
  have h1 : FP.Core.dIsNaN (FP.Core.dmul (FP.Core.i2d k) 4593671619917905920) = false := FP.Core.dmul_out (FP.Core.i2d_fin k) hf
  have h2 := (FP.Core.notNaN_iff _).mp h1
  refine ⟨h2, ?_⟩
  have h3 := (FP.Core.ne_nan _).mp h2
  unfold n64
  refine decide_eq_true ?_
  rw [UInt64.le_iff_toNat_le, UInt64.toNat_and]
  have e1 : (0x7fffffffffffffff : UInt64).toNat = 2 ^ 63 - 1 := by decide
  have e2 : (0x7ff0000000000000 : UInt64).toNat = 9218868437227405312 := by decide
  rw [e1, e2, Nat.and_two_pow_sub_one_eq_mod]
  exact h3
def begX (s : Sg) (n : Nat) (a1 a2 a3 a4 a5 : Int32) : Sg := up3 (up3 (up3 (up3 (up3 (up3 (up3 s 8 n 0 a1) 8 n 1 a3) 8 n 2 a4) 8 n 3 a5) 8 n 4 0) 36 n 0 a2) 43 n 0 a5
def voyX (s : Sg) (n : Nat) (a1 a2 a3 a4 a5 : Int32) : Sg := up3 (up3 (begX s n a1 a2 a3 a4 a5) 0 0 2 (nI (n + 1))) 3 0 2 1
def voyM (s : Sg) (n : Nat) (a1 a2 a3 a4 a5 : Int32) : Sg := up3 (up3 (up3 (up3 (up3 (up3 (up3 (up3 s 48 0 n a1) 49 0 n a3) 50 0 n a4) 51 0 n a5) 52 0 n 0) 55 0 (7 * n) a2) 10 0 1 (nI (n + 1))) 10 0 19 0
theorem q_voyage (R : Rel s) (a1 a2 a3 a4 a5 : Int32) : Bo (f_X9_voyage a1 a2 a3 a4 a5) (f_X10_voyage a1 a2 a3 a4 a5) s := by
  obtain ⟨c, np, n, nm, K, o, B, hc, R7, R8, R9, hP⟩ := id R
  obtain ⟨B1, B2, B3, B4, B5, B6⟩ := id B
  have hn := B3.1
  rcases ix_cases a1 (n := 4) (by omega) with z | ⟨l, hl, rfl⟩
  · refine bo_eq (r := -1) R ?_ ?_
    · unfold f_X9_voyage; simp only [isL_no (s := s) z, Option.bind_some, if_true]
    · unfold f_X10_voyage
      by_cases q : a1 < 0
      · rw [if_pos q]
      · rw [if_neg q, L_4, if_pos (z.resolve_left q)]
  have l0 : ¬ nI l < 0 := nI_pos (by omega)
  have l4 : ¬ (4 : Int32) ≤ nI l := by rw [L_4]; exact nI_ge hl (by omega)
  rcases ix_cases a2 (n := 8) (by omega) with z | ⟨p, hp, rfl⟩
  · refine bo_eq (r := -1) R ?_ ?_
    · unfold f_X9_voyage; simp only [isL_yes (s := s) hl, (ip_no (s := s) z).1, Option.bind_some, if_true, if_neg n10]
    · unfold f_X10_voyage; simp only [if_neg l0, if_neg l4, (ip_no (s := s) z).2, Option.bind_some, if_true]
  by_cases z1 : a3 < 1
  · refine bo_eq (r := -1) R ?_ ?_
    · unfold f_X9_voyage; simp only [isL_yes (s := s) hl, (ip_yes (s := s) hp).1, Option.bind_some, if_neg n10, if_pos z1]
    · unfold f_X10_voyage; simp only [if_neg l0, if_neg l4, (ip_yes (s := s) hp).2, Option.bind_some, if_neg n10, if_pos z1]
  by_cases z2 : 30 < a3
  · have z2' : ¬ a3 ≤ 30 := Int32.not_le.mpr z2
    refine bo_eq (r := -1) R ?_ ?_
    · unfold f_X9_voyage; simp only [isL_yes (s := s) hl, (ip_yes (s := s) hp).1, Option.bind_some, if_neg n10, if_neg z1, if_neg z2']
    · unfold f_X10_voyage; simp only [if_neg l0, if_neg l4, (ip_yes (s := s) hp).2, Option.bind_some, if_neg n10, if_neg z1, if_pos z2]
  have z2' : a3 ≤ 30 := Int32.not_lt.mp z2
  by_cases z3 : a4 < 1
  · refine bo_eq (r := -1) R ?_ ?_
    · unfold f_X9_voyage; simp only [isL_yes (s := s) hl, (ip_yes (s := s) hp).1, Option.bind_some, if_neg n10, if_neg z1, if_pos z2', if_pos z3]
    · unfold f_X10_voyage; simp only [if_neg l0, if_neg l4, (ip_yes (s := s) hp).2, Option.bind_some, if_neg n10, if_neg z1, if_neg z2, if_pos z3]
  by_cases z4 : 48 < a4
  · refine bo_eq (r := -1) R ?_ ?_
    · unfold f_X9_voyage; simp only [isL_yes (s := s) hl, (ip_yes (s := s) hp).1, Option.bind_some, if_neg n10, if_neg z1, if_pos z2', if_neg z3, if_pos z4]
    · unfold f_X10_voyage; simp only [if_neg l0, if_neg l4, (ip_yes (s := s) hp).2, Option.bind_some, if_neg n10, if_neg z1, if_neg z2, if_neg z3, if_pos z4]
  by_cases z5 : a5 < 0
  · refine bo_eq (r := -1) R ?_ ?_
    · unfold f_X9_voyage; simp only [isL_yes (s := s) hl, (ip_yes (s := s) hp).1, Option.bind_some, if_neg n10, if_neg z1, if_pos z2', if_neg z3, if_neg z4, if_pos z5]
    · unfold f_X10_voyage; simp only [if_neg l0, if_neg l4, (ip_yes (s := s) hp).2, Option.bind_some, if_neg n10, if_neg z1, if_neg z2, if_neg z3, if_neg z4, if_pos z5]
  by_cases z6 : 5000 < a5
  · have z6' : ¬ a5 ≤ 5000 := Int32.not_le.mpr z6
    refine bo_eq (r := -1) R ?_ ?_
    · unfold f_X9_voyage; simp only [isL_yes (s := s) hl, (ip_yes (s := s) hp).1, Option.bind_some, if_neg n10, if_neg z1, if_pos z2', if_neg z3, if_neg z4, if_neg z5, if_neg z6']
    · unfold f_X10_voyage; simp only [if_neg l0, if_neg l4, (ip_yes (s := s) hp).2, Option.bind_some, if_neg n10, if_neg z1, if_neg z2, if_neg z3, if_neg z4, if_neg z5, if_pos z6]
  have z6' : a5 ≤ 5000 := Int32.not_lt.mp z6
  by_cases hn2 : n = 10
  · have c1 : ¬ nI n < 10 := by rw [L_10, nI_ltI (by omega) (by omega)]; omega
    have c2 : nI n = 10 := by rw [hn2]; rfl
    refine bo_eq (r := -1) R ?_ ?_
    · unfold f_X9_voyage; simp only [isL_yes (s := s) hl, (ip_yes (s := s) hp).1, Option.bind_some, if_neg n10, if_neg z1, if_pos z2', if_neg z3, if_neg z4, if_neg z5, if_pos z6', B3.2.1, if_neg c1]
    · unfold f_X10_voyage; simp only [if_neg l0, if_neg l4, (ip_yes (s := s) hp).2, Option.bind_some, if_neg n10, if_neg z1, if_neg z2, if_neg z3, if_neg z4, if_neg z5, if_neg z6, B3.2.2.1, if_pos c2]
  have c1 : nI n < 10 := by rw [L_10, nI_ltI (by omega) (by omega)]; omega
  have c2 : ¬ nI n = 10 := by rw [L_10, nI_eq (by omega) (by omega)]; exact hn2
  obtain ⟨sp, sp1, sp2, rfl⟩ := rng (lo := 1) (hi := 30) (by omega) z1 z2 (by omega)
  obtain ⟨st, st1, st2, rfl⟩ := rng (lo := 1) (hi := 48) (by omega) z3 z4 (by omega)
  obtain ⟨sa, -, sa2, rfl⟩ := rng (lo := 0) (hi := 5000) (by omega) z5 z6 (by omega)
  have hb : f_X8_begin n (nI l) (nI p) (nI sp) (nI st) (nI sa) s = some (begX s n (nI l) (nI p) (nI sp) (nI st) (nI sa)) := by
    unfold f_X8_begin bdS begX
    simp only [chk, show gi 0 7 = true from rfl, if_true, show (0 : Int32).toNatClampNeg = 0 from rfl]
  have hX : f_X9_voyage (nI l) (nI p) (nI sp) (nI st) (nI sa) s = some (nI n, voyX s n (nI l) (nI p) (nI sp) (nI st) (nI sa)) := by
    unfold f_X9_voyage bdI bdS voyX
    simp only [isL_yes (s := s) hl, (ip_yes (s := s) hp).1, Option.bind_some, if_neg n10, if_neg z1, if_pos z2', if_neg z3, if_neg z4, if_neg z5, if_pos z6', B3.2.1, if_pos c1, chk, gi_nI (show n < 10 by omega) (by decide), if_true, nI_clamp (show n < 2 ^ 31 by omega), hb, nI_1]
  have h10 : voyX s n (nI l) (nI p) (nI sp) (nI st) (nI sa) 10 = s 10 := by unfold voyX begX; simp only [up_k (show ¬ (10 : Nat) = 8 by decide), up_k (show ¬ (10 : Nat) = 36 by decide), up_k (show ¬ (10 : Nat) = 43 by decide), up_k (show ¬ (10 : Nat) = 0 by decide), up_k (show ¬ (10 : Nat) = 3 by decide)]
  have hM : f_X10_voyage (nI l) (nI p) (nI sp) (nI st) (nI sa) (voyX s n (nI l) (nI p) (nI sp) (nI st) (nI sa)) = some (nI n, voyM (voyX s n (nI l) (nI p) (nI sp) (nI st) (nI sa)) n (nI l) (nI p) (nI sp) (nI st) (nI sa)) := by
    have e7 : (7 : Int32) * nI n = nI (7 * n) := by rw [L_7, pk_mul]
    unfold f_X10_voyage bdS voyM
    simp only [if_neg l0, if_neg l4, (ip_yes (s := voyX s n (nI l) (nI p) (nI sp) (nI st) (nI sa)) hp).2, Option.bind_some, if_neg n10, if_neg z1, if_neg z2, if_neg z3, if_neg z4, if_neg z5, if_neg z6, up_k (show ¬ (10 : Nat) = 48 by decide), up_k (show ¬ (10 : Nat) = 49 by decide), up_k (show ¬ (10 : Nat) = 50 by decide), up_k (show ¬ (10 : Nat) = 51 by decide), up_k (show ¬ (10 : Nat) = 52 by decide), up_k (show ¬ (10 : Nat) = 55 by decide), h10, B3.2.2.1, if_neg c2, chk, gi_nI (show n < 10 by omega) (by decide), if_true, nI_clamp (show n < 2 ^ 31 by omega), e7, gi_nI (show 7 * n < 70 by omega) (by decide), nI_clamp (show 7 * n < 2 ^ 31 by omega), nI_1, up_s, up_j (show ¬ (1 : Nat) = 19 by decide), nI_pred]
  refine ⟨_, hX, _, hM, rfl, ?_⟩
  dsimp only
  have A : Ag [8, 36, 43, 0, 3, 48, 49, 50, 51, 52, 55, 10] (voyM (voyX s n (nI l) (nI p) (nI sp) (nI st) (nI sa)) n (nI l) (nI p) (nI sp) (nI st) (nI sa)) s := by
    unfold voyM voyX begX
    repeat refine Ag.up ?_ (by decide)
    exact Ag.rfl
  have v : ∀ j, ¬ j = 1 → ¬ j = 19 → voyM (voyX s n (nI l) (nI p) (nI sp) (nI st) (nI sa)) n (nI l) (nI p) (nI sp) (nI st) (nI sa) 10 0 j = s 10 0 j := by
    intro j hj hj2
    unfold voyM
    simp only [up_j hj, up_j hj2, up_k (show ¬ (10 : Nat) = 48 by decide), up_k (show ¬ (10 : Nat) = 49 by decide), up_k (show ¬ (10 : Nat) = 50 by decide), up_k (show ¬ (10 : Nat) = 51 by decide), up_k (show ¬ (10 : Nat) = 52 by decide), up_k (show ¬ (10 : Nat) = 55 by decide), h10]
  have f1 : voyM (voyX s n (nI l) (nI p) (nI sp) (nI st) (nI sa)) n (nI l) (nI p) (nI sp) (nI st) (nI sa) 10 0 1 = nI (n + 1) := by unfold voyM; rw [up_j (by decide), up_s]
  have f19 : voyM (voyX s n (nI l) (nI p) (nI sp) (nI st) (nI sa)) n (nI l) (nI p) (nI sp) (nI st) (nI sa) 10 0 19 = 0 := by unfold voyM; rw [up_s]
  have f3 : voyM (voyX s n (nI l) (nI p) (nI sp) (nI st) (nI sa)) n (nI l) (nI p) (nI sp) (nI st) (nI sa) 3 0 2 = 1 := by unfold voyM voyX; simp [up3]
  have f02 : voyM (voyX s n (nI l) (nI p) (nI sp) (nI st) (nI sa)) n (nI l) (nI p) (nI sp) (nI st) (nI sa) 0 0 2 = nI (n + 1) := by unfold voyM voyX; simp [up3]
  have f0 : ∀ j, ¬ j = 2 → voyM (voyX s n (nI l) (nI p) (nI sp) (nI st) (nI sa)) n (nI l) (nI p) (nI sp) (nI st) (nI sa) 0 0 j = s 0 0 j := by intro j hj; unfold voyM voyX begX; simp [up3, hj]
  have f8o : ∀ u, ¬ u = n → voyM (voyX s n (nI l) (nI p) (nI sp) (nI st) (nI sa)) n (nI l) (nI p) (nI sp) (nI st) (nI sa) 8 u = s 8 u := by intro u hu; funext j; unfold voyM voyX begX; simp [up3, hu]
  have f36o : ∀ u, ¬ u = n → voyM (voyX s n (nI l) (nI p) (nI sp) (nI st) (nI sa)) n (nI l) (nI p) (nI sp) (nI st) (nI sa) 36 u = s 36 u := by intro u hu; funext j; unfold voyM voyX begX; simp [up3, hu]
  have f43o : ∀ u, ¬ u = n → voyM (voyX s n (nI l) (nI p) (nI sp) (nI st) (nI sa)) n (nI l) (nI p) (nI sp) (nI st) (nI sa) 43 u = s 43 u := by intro u hu; funext j; unfold voyM voyX begX; simp [up3, hu]
  have f8 : voyM (voyX s n (nI l) (nI p) (nI sp) (nI st) (nI sa)) n (nI l) (nI p) (nI sp) (nI st) (nI sa) 8 n 0 = nI l ∧ voyM (voyX s n (nI l) (nI p) (nI sp) (nI st) (nI sa)) n (nI l) (nI p) (nI sp) (nI st) (nI sa) 8 n 1 = nI sp ∧ voyM (voyX s n (nI l) (nI p) (nI sp) (nI st) (nI sa)) n (nI l) (nI p) (nI sp) (nI st) (nI sa) 8 n 2 = nI st ∧ voyM (voyX s n (nI l) (nI p) (nI sp) (nI st) (nI sa)) n (nI l) (nI p) (nI sp) (nI st) (nI sa) 8 n 3 = nI sa ∧ voyM (voyX s n (nI l) (nI p) (nI sp) (nI st) (nI sa)) n (nI l) (nI p) (nI sp) (nI st) (nI sa) 8 n 4 = 0 := by unfold voyM voyX begX; simp [up3]
  have f36 : voyM (voyX s n (nI l) (nI p) (nI sp) (nI st) (nI sa)) n (nI l) (nI p) (nI sp) (nI st) (nI sa) 36 n 0 = nI p ∧ voyM (voyX s n (nI l) (nI p) (nI sp) (nI st) (nI sa)) n (nI l) (nI p) (nI sp) (nI st) (nI sa) 43 n 0 = nI sa := by unfold voyM voyX begX; simp [up3]
  have f48 : ∀ u, voyM (voyX s n (nI l) (nI p) (nI sp) (nI st) (nI sa)) n (nI l) (nI p) (nI sp) (nI st) (nI sa) 48 0 u = (if u = n then nI l else s 48 0 u) ∧ voyM (voyX s n (nI l) (nI p) (nI sp) (nI st) (nI sa)) n (nI l) (nI p) (nI sp) (nI st) (nI sa) 49 0 u = (if u = n then nI sp else s 49 0 u) ∧ voyM (voyX s n (nI l) (nI p) (nI sp) (nI st) (nI sa)) n (nI l) (nI p) (nI sp) (nI st) (nI sa) 50 0 u = (if u = n then nI st else s 50 0 u) ∧ voyM (voyX s n (nI l) (nI p) (nI sp) (nI st) (nI sa)) n (nI l) (nI p) (nI sp) (nI st) (nI sa) 51 0 u = (if u = n then nI sa else s 51 0 u) ∧ voyM (voyX s n (nI l) (nI p) (nI sp) (nI st) (nI sa)) n (nI l) (nI p) (nI sp) (nI st) (nI sa) 52 0 u = (if u = n then 0 else s 52 0 u) := by intro u; unfold voyM voyX begX; simp [up3]
  have f55 : ∀ k, voyM (voyX s n (nI l) (nI p) (nI sp) (nI st) (nI sa)) n (nI l) (nI p) (nI sp) (nI st) (nI sa) 55 0 k = if k = 7 * n then nI p else s 55 0 k := by intro k; unfold voyM voyX begX; simp [up3]
  generalize voyM (voyX s n (nI l) (nI p) (nI sp) (nI st) (nI sa)) n (nI l) (nI p) (nI sp) (nI st) (nI sa) = t at A v f1 f19 f3 f02 f0 f8o f36o f43o f8 f36 f48 f55 ⊢
  have hg0 : lgs t n = 0 := by unfold lgs; rw [f8.2.2.2.2]; rfl
  have hgo : ∀ u, ¬ u = n → lgs t u = lgs s u := fun u hu => by unfold lgs; rw [f8o u hu]
  refine ⟨cfg t K, np, n + 1, nm, K, o, ⟨P1_of (fun k hk => A k (by revert k; decide)) (v 0 (by decide) (by decide)) B1, P2_of (fun k hk => A k (by revert k; decide)) B2, ⟨by omega, f02, f1, fun u hu => ?_⟩, fun u i hu hi h => ?_, ⟨B5.1, by rw [f0 3 (by decide)]; exact B5.2.1, by rw [v 2 (by decide) (by decide)]; exact B5.2.2.1, by rw [A 56 (by decide), A 57 (by decide)]; exact B5.2.2.2.1, fun k hk => ?_, fun u i hu hi h => ?_⟩, P6_of (f0 5 (by decide)) (fun k hk => A k (by revert k; decide)) B6⟩, rfl, P7_of (fun k hk => A k (by revert k; decide)) (v 21 (by decide) (by decide)) R7, P8_of (fun k hk => A k (by revert k; decide)) (by rw [A 4 (by decide)]) (v 55 (by decide) (by decide)) R8, P9_of (A 5 (by decide)) (v 22 (by decide) (by decide)) (v 23 (by decide) (by decide)) R9, PF.no f19 f3⟩
  · obtain ⟨g1, g2, g3, g4, g5⟩ := f48 u
    by_cases e : u = n
    · subst e
      simp only [if_true] at g1 g2 g3 g4 g5
      refine ⟨⟨l, sp, st, sa, 0, ⟨hl, f8.1, g1⟩, ⟨⟨sp1, sp2⟩, f8.2.1, g2⟩, ⟨⟨st1, st2⟩, f8.2.2.1, g3⟩, ⟨sa2, f8.2.2.2.1, g4, f36.2⟩, ⟨by omega, f8.2.2.2.2, g5⟩⟩, fun i hi => ?_, fun i hi => ?_⟩
      · rw [hg0] at hi
        have : i = 0 := by omega
        subst this
        exact ⟨p, hp, f36.1, by rw [f55, if_pos (by omega)]⟩
      · rw [hg0] at hi
        omega
    · simp only [if_neg e] at g1 g2 g3 g4 g5
      have hu' : u < n := by omega
      obtain ⟨x1, x2, x3⟩ := B3.2.2.2 u hu'
      have hlg := (B.lg6 hu').1
      refine ⟨?_, fun i hi => ?_, fun i hi => ?_⟩
      · unfold Vv
        rw [f8o u e, g1, g2, g3, g4, g5, f43o u e]
        exact x1
      · rw [hgo u e] at hi
        unfold Vp
        rw [f36o u e, f55, if_neg (by omega)]
        exact x2 i hi
      · rw [hgo u e] at hi
        unfold Vl
        rw [A 37 (by decide), A 53 (by decide), A 39 (by decide), A 54 (by decide), A 38 (by decide), A 16 (by decide), f8o u e, A 42 (by decide), f43o u e]
        exact x3 i hi
  · rw [A 39 (by decide), A 40 (by decide)]
    by_cases e : u = n
    · exact B4 u i hu hi (Or.inl (by omega))
    · rw [hgo u e] at h
      refine B4 u i hu hi ?_
      rcases h with h | h
      · exact Or.inl (by omega)
      · exact Or.inr h
  · obtain ⟨v', i', u', j', y1, y2, y3, y4, y5, y6⟩ := B5.2.2.2.2.1 k hk
    refine ⟨v', i', u', j', by omega, by rw [hgo v' (by omega)]; exact y2, by omega, y4, by rw [hgo u' (by omega)]; exact y5, ?_⟩
    rw [A 56 (by decide), A 57 (by decide), A 58 (by decide), A 59 (by decide), A 40 (by decide), A 41 (by decide)]
    exact y6
  · by_cases e : u = n
    · subst e
      rw [hg0] at hi
      omega
    · rw [hgo u e] at hi
      rw [A 40 (by decide)] at h
      rw [A 56 (by decide), A 57 (by decide)]
      exact B5.2.2.2.2.2 u i (by omega) hi h
theorem q_broken (R : Rel s) (a1 a2 a3 : Int32) : Bo (f_X9_broken a1 a2 a3) (f_X10_broken a1 a2 a3) s := by
  obtain ⟨c, np, n, nm, K, o, B, hc, R7, R8, R9, hP⟩ := id R
  obtain ⟨B1, B2, B3, B4, B5, B6⟩ := id B
  have hn := B3.1
  rcases ix_cases a1 (n := n) (by omega) with z | ⟨v, hv, rfl⟩
  · refine bo_eq (r := 0) R ?_ ?_
    · unfold f_X9_broken; rw [hvX_no B3.2.1 z]; rfl
    · unfold f_X10_broken; rw [hvM_no B3.2.2.1 z]; rfl
  obtain ⟨hlg, hlg2⟩ := B.lg6 hv
  have h52 : s 52 0 v = nI (lgs s v) := by
    obtain ⟨l, sp, st, sa, g, -, -, -, -, r1, r2, r3⟩ := (B3.2.2.2 v hv).1
    unfold lgs
    rw [r2, nI_clamp (by omega)]; exact r3
  have g10 := gi_nI (j := v) (n := 10) (by omega) (by decide)
  have cv : (nI v).toNatClampNeg = v := nI_clamp (by omega)
  rcases ix_cases a2 (n := lgs s v) (by omega) with z | ⟨i, hi, rfl⟩
  · refine bo_eq (r := 0) R ?_ ?_
    · unfold f_X9_broken f_X8_leavesFrom
      by_cases q : a2 < 0
      · simp only [hvX_yes (s := s) B3.2.1 hv hn, Option.bind_some, if_neg n10, chk, g10, if_true, if_pos q]
      · simp only [hvX_yes (s := s) B3.2.1 hv hn, Option.bind_some, if_neg n10, chk, g10, if_true, if_neg q, cv, hlg2, if_pos (z.resolve_left q)]
    · unfold f_X10_broken
      by_cases q : a2 < 0
      · simp only [hvM_yes (s := s) B3.2.2.1 hv hn, Option.bind_some, if_neg n10, if_pos q]
      · simp only [hvM_yes (s := s) B3.2.2.1 hv hn, Option.bind_some, if_neg n10, if_neg q, chk, g10, if_true, cv, h52, if_pos (z.resolve_left q)]
  have i0 : ¬ nI i < 0 := nI_pos (by omega)
  have i1 : ¬ nI (lgs s v) ≤ nI i := nI_ge hi (by omega)
  by_cases z1 : a3 < 0
  · refine bo_eq (r := 0) R ?_ ?_
    · unfold f_X9_broken f_X8_leavesFrom; simp only [hvX_yes (s := s) B3.2.1 hv hn, Option.bind_some, if_neg n10, chk, g10, if_true, if_neg i0, cv, hlg2, if_neg i1, if_pos z1]
    · unfold f_X10_broken; simp only [hvM_yes (s := s) B3.2.2.1 hv hn, Option.bind_some, if_neg n10, if_neg i0, chk, g10, if_true, cv, h52, if_neg i1, if_pos z1]
  by_cases z2 : 500 < a3
  · have z2' : ¬ a3 ≤ 500 := Int32.not_le.mpr z2
    refine bo_eq (r := 0) R ?_ ?_
    · unfold f_X9_broken f_X8_leavesFrom; simp only [hvX_yes (s := s) B3.2.1 hv hn, Option.bind_some, if_neg n10, chk, g10, if_true, if_neg i0, cv, hlg2, if_neg i1, if_neg z1, if_neg z2']
    · unfold f_X10_broken; simp only [hvM_yes (s := s) B3.2.2.1 hv hn, Option.bind_some, if_neg n10, if_neg i0, chk, g10, if_true, cv, h52, if_neg i1, if_neg z1, if_neg z2']
  have z2' : a3 ≤ 500 := Int32.not_lt.mp z2
  obtain ⟨b, -, b2, rfl⟩ := rng (lo := 0) (hi := 500) (by omega) z1 z2 (by omega)
  have hX : f_X9_broken (nI v) (nI i) (nI b) s = some (1, up3 (up3 s 39 v i (nI b)) 3 0 2 1) := by
    unfold f_X9_broken f_X8_leavesFrom bdS
    simp only [hvX_yes (s := s) B3.2.1 hv hn, Option.bind_some, if_neg n10, chk, g10, if_true, if_neg i0, cv, hlg2, if_neg i1, if_neg z1, if_pos z2', gi_nI (show i < 6 by omega) (by decide), nI_clamp (show i < 2 ^ 31 by omega)]
  have hM : ∀ t : Sg, t 10 0 1 = nI n → t 52 0 v = nI (lgs s v) → f_X10_broken (nI v) (nI i) (nI b) t = some (1, up3 (up3 t 54 0 (6 * v + i) (nI b)) 10 0 19 0) := by
    intro t t1 t2
    have e6 : (6 : Int32) * nI v + nI i = nI (6 * v + i) := by rw [L_6, pk_mul, nI_add]
    unfold f_X10_broken bdS
    simp only [hvM_yes (s := t) t1 hv hn, Option.bind_some, if_neg n10, if_neg i0, chk, g10, if_true, cv, t2, if_neg i1, if_neg z1, if_pos z2', e6, gi_nI (show 6 * v + i < 60 by omega) (by decide), nI_clamp (show 6 * v + i < 2 ^ 31 by omega)]
  refine ⟨_, hX, _, hM _ (by simp only [up_k (show ¬ (10 : Nat) = 3 by decide), up_k (show ¬ (10 : Nat) = 39 by decide)]; exact B3.2.2.1) (by simp only [up_k (show ¬ (52 : Nat) = 3 by decide), up_k (show ¬ (52 : Nat) = 39 by decide)]; exact h52), rfl, ?_⟩
  dsimp only
  have A : Ag [39, 3, 54, 10] (up3 (up3 (up3 (up3 s 39 v i (nI b)) 3 0 2 1) 54 0 (6 * v + i) (nI b)) 10 0 19 0) s := by
    repeat refine Ag.up ?_ (by decide)
    exact Ag.rfl
  have w : ∀ j, ¬ j = 19 → (up3 (up3 (up3 (up3 s 39 v i (nI b)) 3 0 2 1) 54 0 (6 * v + i) (nI b)) 10 0 19 0) 10 0 j = s 10 0 j := by
    intro j hj
    simp only [up_j hj, up_k (show ¬ (10 : Nat) = 54 by decide), up_k (show ¬ (10 : Nat) = 3 by decide), up_k (show ¬ (10 : Nat) = 39 by decide)]
  have f19 : (up3 (up3 (up3 (up3 s 39 v i (nI b)) 3 0 2 1) 54 0 (6 * v + i) (nI b)) 10 0 19 0) 10 0 19 = 0 := up_s
  have f3 : (up3 (up3 (up3 (up3 s 39 v i (nI b)) 3 0 2 1) 54 0 (6 * v + i) (nI b)) 10 0 19 0) 3 0 2 = 1 := by simp only [up_k (show ¬ (3 : Nat) = 10 by decide), up_k (show ¬ (3 : Nat) = 54 by decide), up_s]
  have f39 : ∀ u j, (up3 (up3 (up3 (up3 s 39 v i (nI b)) 3 0 2 1) 54 0 (6 * v + i) (nI b)) 10 0 19 0) 39 u j = if u = v ∧ j = i then nI b else s 39 u j := by intro u j; simp only [up_k (show ¬ (39 : Nat) = 10 by decide), up_k (show ¬ (39 : Nat) = 54 by decide), up_k (show ¬ (39 : Nat) = 3 by decide), up_at2]
  have f54 : ∀ k, (up3 (up3 (up3 (up3 s 39 v i (nI b)) 3 0 2 1) 54 0 (6 * v + i) (nI b)) 10 0 19 0) 54 0 k = if k = 6 * v + i then nI b else s 54 0 k := by intro k; simp only [up_k (show ¬ (54 : Nat) = 10 by decide), up_k (show ¬ (54 : Nat) = 3 by decide), up_k (show ¬ (54 : Nat) = 39 by decide), up_at]
  generalize up3 (up3 (up3 (up3 s 39 v i (nI b)) 3 0 2 1) 54 0 (6 * v + i) (nI b)) 10 0 19 0 = t at A w f19 f3 f39 f54 ⊢
  have hgl : ∀ u, lgs t u = lgs s u := fun u => by unfold lgs; rw [A 8 (by decide)]
  refine ⟨cfg t K, np, n, nm, K, o, ⟨P1_of (fun k hk => A k (by revert k; decide)) (w 0 (by decide)) B1, P2_of (fun k hk => A k (by revert k; decide)) B2, ⟨hn, by rw [A 0 (by decide)]; exact B3.2.1, by rw [w 1 (by decide)]; exact B3.2.2.1, fun u hu => ?_⟩, fun u j hu hj h => ?_, P5_of (fun k hk => A k (by revert k; decide)) (w 2 (by decide)) B5, P6_of (by rw [A 0 (by decide)]) (fun k hk => A k (by revert k; decide)) B6⟩, rfl, P7_of (fun k hk => A k (by revert k; decide)) (w 21 (by decide)) R7, P8_of (fun k hk => A k (by revert k; decide)) (by rw [A 4 (by decide)]) (w 55 (by decide)) R8, P9_of (A 5 (by decide)) (w 22 (by decide)) (w 23 (by decide)) R9, PF.no f19 f3⟩
  · obtain ⟨x1, x2, x3⟩ := B3.2.2.2 u hu
    have hlu := (B.lg6 hu).1
    refine ⟨?_, fun j hj => ?_, fun j hj => ?_⟩
    · unfold Vv
      rw [A 8 (by decide), A 48 (by decide), A 49 (by decide), A 50 (by decide), A 51 (by decide), A 43 (by decide), A 52 (by decide)]
      exact x1
    · rw [hgl] at hj
      unfold Vp
      rw [A 36 (by decide), A 55 (by decide)]
      exact x2 j hj
    · rw [hgl] at hj
      obtain ⟨p, b', y1, y2, y3, y4, y5⟩ := x3 j hj
      unfold Vl
      rw [f39, f54, A 37 (by decide), A 53 (by decide), A 38 (by decide), A 16 (by decide), A 8 (by decide), A 42 (by decide), A 43 (by decide)]
      by_cases e : u = v ∧ j = i
      · rw [if_pos e, if_pos (by omega)]
        exact ⟨p, b, y1, b2, y3, ⟨rfl, rfl⟩, y5⟩
      · rw [if_neg e, if_neg (by omega)]
        exact ⟨p, b', y1, y2, y3, y4, y5⟩
  · rw [hgl] at h
    rw [f39, A 40 (by decide), if_neg]
    · exact B4 u j hu hj h
    · rintro ⟨rfl, rfl⟩
      omega
end MUT3
