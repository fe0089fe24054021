/-! passage, wind -/
section MUT2
variable {s : Sg}
theorem i_lt {x : Int32} {n : Nat} (hn : n < 2 ^ 31) (h : ¬ x < nI n) : ∃ j, n ≤ j ∧ j < 2 ^ 31 ∧ x = nI j := by
  have h0 : ¬ x < 0 := by
    rw [Int32.lt_iff_toInt_lt, nI_toInt hn] at h
    rw [Int32.lt_iff_toInt_lt, show (0 : Int32).toInt = 0 from rfl]
    omega
  obtain ⟨j, j1, rfl⟩ := nI_of h0
  rw [nI_ltI j1 hn] at h
  exact ⟨j, by omega, j1, rfl⟩
theorem rng {x : Int32} {lo hi : Nat} (hh : hi < 2 ^ 31) (h1 : ¬ x < nI lo) (h2 : ¬ nI hi < x) (hl : lo ≤ hi) : ∃ j, lo ≤ j ∧ j ≤ hi ∧ x = nI j := by
  obtain ⟨j, j1, j2, rfl⟩ := i_lt (by omega) h1
  rw [nI_ltI hh j2] at h2
  exact ⟨j, j1, by omega, rfl⟩
theorem cfg_pass {s' : Sg} {K : Nat → List Cl} {np n : Nat} (H3 : P3 s np n) (h12 : np ≤ 12) (h : ∀ k, k ∈ [0, 8, 17, 36, 37, 38, 39, 40, 41, 42, 43] → s' k = s k) (h16 : ∀ p, ¬ p = np → s' 16 0 p = s 16 0 p) : cfg s' K = cfg s K := by
  have e1 : cfgD s' = cfgD s := by
    funext k v i
    unfold cfgD
    rw [h 0 (by decide), h 8 (by decide), h 17 (by decide), h 37 (by decide), h 38 (by decide), h 39 (by decide), h 42 (by decide), h 43 (by decide)]
    have e : (if v < (s 0 0 2).toNatClampNeg ∧ i < (s 8 v 4).toNatClampNeg then lhX s' v (s 37 v i).toNatClampNeg (k - 30) else 0) = (if v < (s 0 0 2).toNatClampNeg ∧ i < (s 8 v 4).toNatClampNeg then lhX s v (s 37 v i).toNatClampNeg (k - 30) else 0) := by
      by_cases g : v < (s 0 0 2).toNatClampNeg ∧ i < (s 8 v 4).toNatClampNeg
      · rw [if_pos g, if_pos g]
        obtain ⟨g1, g2⟩ := g
        rw [H3.2.1, nI_clamp (by have := H3.1; omega)] at g1
        obtain ⟨p, b, p1, -, ⟨p2, -⟩, -⟩ := (H3.2.2.2 v g1).2.2 i g2
        unfold lhX
        rw [p2, nI_clamp (by omega), h 8 (by decide), h 17 (by decide), h16 p (by omega)]
      · rw [if_neg g, if_neg g]
    rw [e]
  have e2 : cfgM s' = cfgM s := by
    funext v i
    unfold cfgM
    rw [h 40 (by decide), h 41 (by decide)]
  unfold cfg
  rw [e1, e2, h 0 (by decide), h 8 (by decide), h 36 (by decide), h 37 (by decide)]
def pasX (s : Sg) (np : Nat) (a b m : Int32) : Sg := up3 (up3 (up3 (up3 s 14 0 np a) 15 0 np b) 16 0 np m) 1 0 4 (nI (np + 1))
def pasM (s : Sg) (np : Nat) (a b m : Int32) : Sg := up3 (up3 (up3 (up3 s 44 0 np a) 45 0 np b) 46 0 np m) 10 0 0 (nI (np + 1))
theorem x_add {np : Nat} {a b m : Int32} (h : s 1 0 4 = nI np) (hn : np < 12) : f_X1_add a b m s = some (nI np, pasX s np a b m) := by
  unfold f_X1_add bdI bdS pasX
  rw [h]
  simp only [chk, gi_nI hn (by decide), if_true, nI_clamp (show np < 2 ^ 31 by omega), nI_1]
theorem q_passage (R : Rel s) (a1 a2 a3 : Int32) : Bo (f_X9_passage a1 a2 a3) (f_X10_passage a1 a2 a3) s := by
  obtain ⟨c, np, n, nm, K, o, B, hc, R7, R8, R9, hP⟩ := id R
  obtain ⟨B1, B2, B3, B4, B5, B6⟩ := id B
  have hn := B1.1
  rcases ix_cases a1 (n := 8) (by omega) with z | ⟨a, ha, rfl⟩
  · refine bo_eq (r := -1) R ?_ ?_
    · unfold f_X9_passage f_X9_areTwoPorts; simp only [(ip_no (s := s) z).1, Option.bind_some, if_true]
    · unfold f_X10_passage; simp only [(ip_no (s := s) z).2, Option.bind_some, if_true]
  rcases ix_cases a2 (n := 8) (by omega) with z | ⟨b, hb, rfl⟩
  · refine bo_eq (r := -1) R ?_ ?_
    · unfold f_X9_passage f_X9_areTwoPorts; simp only [(ip_yes (s := s) ha).1, (ip_no (s := s) z).1, Option.bind_some, if_true, if_neg n10]
    · unfold f_X10_passage; simp only [(ip_yes (s := s) ha).2, (ip_no (s := s) z).2, Option.bind_some, if_true, if_neg n10]
  by_cases hab : a = b
  · have e : nI a = nI b := by rw [hab]
    refine bo_eq (r := -1) R ?_ ?_
    · unfold f_X9_passage f_X9_areTwoPorts; simp only [(ip_yes (s := s) ha).1, (ip_yes (s := s) hb).1, Option.bind_some, if_true, if_neg n10, if_pos e]
    · unfold f_X10_passage; simp only [(ip_yes (s := s) ha).2, (ip_yes (s := s) hb).2, Option.bind_some, if_neg n10, if_pos e]
  have e : ¬ nI a = nI b := by rw [nI_eq (by omega) (by omega)]; exact hab
  by_cases z1 : a3 < 1
  · refine bo_eq (r := -1) R ?_ ?_
    · unfold f_X9_passage; simp only [two_yes (s := s) ha hb hab, Option.bind_some, if_neg n10, if_pos z1]
    · unfold f_X10_passage; simp only [(ip_yes (s := s) ha).2, (ip_yes (s := s) hb).2, Option.bind_some, if_neg n10, if_neg e, if_pos z1]
  by_cases z2 : 9999 < a3
  · refine bo_eq (r := -1) R ?_ ?_
    · unfold f_X9_passage; simp only [two_yes (s := s) ha hb hab, Option.bind_some, if_neg n10, if_neg z1, if_pos z2]
    · unfold f_X10_passage; simp only [(ip_yes (s := s) ha).2, (ip_yes (s := s) hb).2, Option.bind_some, if_neg n10, if_neg e, if_neg z1, if_pos z2]
  obtain ⟨m, m1, m2, rfl⟩ := rng (lo := 1) (hi := 9999) (by omega) z1 z2 (by omega)
  by_cases hn2 : np = 12
  · have c1 : ¬ nI np < 12 := by rw [L_12, nI_ltI (by omega) (by omega)]; omega
    have c2 : nI np = 12 := by rw [hn2]; rfl
    refine bo_eq (r := -1) R ?_ ?_
    · unfold f_X9_passage; simp only [two_yes (s := s) ha hb hab, Option.bind_some, if_neg n10, if_neg z1, if_neg z2, B1.2.1, if_neg c1]
    · unfold f_X10_passage; simp only [(ip_yes (s := s) ha).2, (ip_yes (s := s) hb).2, Option.bind_some, if_neg n10, if_neg e, if_neg z1, if_neg z2, B1.2.2.1, if_pos c2]
  have c1 : nI np < 12 := by rw [L_12, nI_ltI (by omega) (by omega)]; omega
  have c2 : ¬ nI np = 12 := by rw [L_12, nI_eq (by omega) (by omega)]; exact hn2
  have hX : f_X9_passage (nI a) (nI b) (nI m) s = some (nI np, pasX s np (nI a) (nI b) (nI m)) := by
    unfold f_X9_passage
    simp only [two_yes (s := s) ha hb hab, Option.bind_some, if_neg n10, if_neg z1, if_neg z2, B1.2.1, if_pos c1, x_add (s := s) (a := nI a) (b := nI b) (m := nI m) B1.2.1 (by omega)]
  have h10 : pasX s np (nI a) (nI b) (nI m) 10 = s 10 := by unfold pasX; simp only [up_k (show ¬ (10 : Nat) = 14 by decide), up_k (show ¬ (10 : Nat) = 15 by decide), up_k (show ¬ (10 : Nat) = 16 by decide), up_k (show ¬ (10 : Nat) = 1 by decide)]
  have hM : f_X10_passage (nI a) (nI b) (nI m) (pasX s np (nI a) (nI b) (nI m)) = some (nI np, pasM (pasX s np (nI a) (nI b) (nI m)) np (nI a) (nI b) (nI m)) := by
    unfold f_X10_passage bdS pasM
    simp only [(ip_yes (s := pasX s np (nI a) (nI b) (nI m)) ha).2, (ip_yes (s := pasX s np (nI a) (nI b) (nI m)) hb).2, Option.bind_some, if_neg n10, if_neg e, if_neg z1, if_neg z2, up_k (show ¬ (10 : Nat) = 44 by decide), up_k (show ¬ (10 : Nat) = 45 by decide), up_k (show ¬ (10 : Nat) = 46 by decide), h10, B1.2.2.1, if_neg c2, chk, gi_nI (show np < 12 by omega) (by decide), if_true, nI_clamp (show np < 2 ^ 31 by omega), nI_1, up_s, nI_pred]
  refine ⟨_, hX, _, hM, rfl, ?_⟩
  dsimp only
  have A : Ag [14, 15, 16, 1, 44, 45, 46, 10] (pasM (pasX s np (nI a) (nI b) (nI m)) np (nI a) (nI b) (nI m)) s := by
    unfold pasM pasX
    repeat refine Ag.up ?_ (by decide)
    exact Ag.rfl
  have w : ∀ j, ¬ j = 0 → pasM (pasX s np (nI a) (nI b) (nI m)) np (nI a) (nI b) (nI m) 10 0 j = s 10 0 j := by
    intro j hj
    unfold pasM
    simp only [up_j hj, up_k (show ¬ (10 : Nat) = 44 by decide), up_k (show ¬ (10 : Nat) = 45 by decide), up_k (show ¬ (10 : Nat) = 46 by decide), h10]
  have f0 : pasM (pasX s np (nI a) (nI b) (nI m)) np (nI a) (nI b) (nI m) 10 0 0 = nI (np + 1) := by unfold pasM; rw [up_s]
  have f1 : pasM (pasX s np (nI a) (nI b) (nI m)) np (nI a) (nI b) (nI m) 1 0 4 = nI (np + 1) := by unfold pasM pasX; simp [up3]
  have f14 : ∀ p, pasM (pasX s np (nI a) (nI b) (nI m)) np (nI a) (nI b) (nI m) 14 0 p = if p = np then nI a else s 14 0 p := by intro p; unfold pasM pasX; simp [up3]
  have f15 : ∀ p, pasM (pasX s np (nI a) (nI b) (nI m)) np (nI a) (nI b) (nI m) 15 0 p = if p = np then nI b else s 15 0 p := by intro p; unfold pasM pasX; simp [up3]
  have f16 : ∀ p, pasM (pasX s np (nI a) (nI b) (nI m)) np (nI a) (nI b) (nI m) 16 0 p = if p = np then nI m else s 16 0 p := by intro p; unfold pasM pasX; simp [up3]
  have f44 : ∀ p, pasM (pasX s np (nI a) (nI b) (nI m)) np (nI a) (nI b) (nI m) 44 0 p = if p = np then nI a else s 44 0 p := by intro p; unfold pasM pasX; simp [up3]
  have f45 : ∀ p, pasM (pasX s np (nI a) (nI b) (nI m)) np (nI a) (nI b) (nI m) 45 0 p = if p = np then nI b else s 45 0 p := by intro p; unfold pasM pasX; simp [up3]
  have f46 : ∀ p, pasM (pasX s np (nI a) (nI b) (nI m)) np (nI a) (nI b) (nI m) 46 0 p = if p = np then nI m else s 46 0 p := by intro p; unfold pasM pasX; simp [up3]
  generalize pasM (pasX s np (nI a) (nI b) (nI m)) np (nI a) (nI b) (nI m) = t at A w f0 f1 f14 f15 f16 f44 f45 f46 ⊢
  have hcf : cfg t K = cfg s K := cfg_pass B3 hn (fun k hk => A k (by revert k; decide)) (fun p hp => by rw [f16, if_neg hp])
  refine ⟨c, np + 1, n, nm, K, o, ⟨⟨by omega, f1, f0, fun p hp => ?_⟩, P2_of (fun k hk => A k (by revert k; decide)) B2, ⟨B3.1, by rw [A 0 (by decide)]; exact B3.2.1, by rw [w 1 (by decide)]; exact B3.2.2.1, fun v hv => ?_⟩, P4_of (fun k hk => A k (by revert k; decide)) B4, P5_of (fun k hk => A k (by revert k; decide)) (w 2 (by decide)) B5, P6_of (by rw [A 0 (by decide)]) (fun k hk => A k (by revert k; decide)) B6⟩, by rw [hcf]; exact hc, P7_of (fun k hk => A k (by revert k; decide)) (w 21 (by decide)) R7, P8_of (fun k hk => A k (by revert k; decide)) (by rw [A 4 (by decide)]) (w 55 (by decide)) R8, P9_of (A 5 (by decide)) (w 22 (by decide)) (w 23 (by decide)) R9, ⟨by rw [w 19 (by decide)]; exact hP.1, ?_, ?_⟩⟩
  · rw [f14, f15, f16, f44, f45, f46]
    by_cases q : p = np
    · simp only [if_pos q]
      exact ⟨a, b, m, ha, hb, ⟨m1, m2⟩, ⟨rfl, rfl⟩, ⟨rfl, rfl⟩, rfl, rfl⟩
    · simp only [if_neg q]
      exact B1.2.2.2 p (by omega)
  · obtain ⟨x1, x2, x3⟩ := B3.2.2.2 v hv
    refine ⟨?_, fun i hi => ?_, fun i hi => ?_⟩
    · unfold Vv
      rw [A 8 (by decide), A 48 (by decide), A 49 (by decide), A 50 (by decide), A 51 (by decide), A 43 (by decide), A 52 (by decide)]
      exact x1
    · unfold Vp
      rw [A 36 (by decide), A 55 (by decide)]
      exact x2 i (by unfold lgs at hi ⊢; rw [A 8 (by decide)] at hi; exact hi)
    · obtain ⟨p, b', y1, y2⟩ := x3 i (by unfold lgs at hi ⊢; rw [A 8 (by decide)] at hi; exact hi)
      refine ⟨p, b', by omega, ?_⟩
      rw [A 37 (by decide), A 53 (by decide), A 39 (by decide), A 54 (by decide), A 38 (by decide), f16, if_neg (by omega), A 8 (by decide), A 42 (by decide), A 43 (by decide)]
      exact y2
  · rw [w 19 (by decide)]
    exact fun q u hu => MSv_k (fun k hk => A k (by revert k; decide)) (hP.2.1 q u hu)
  · rw [A 3 (by decide)]
    exact fun q => RX_of (fun k hk => A k (by revert k; decide)) (hP.2.2 q)
/-! winds: doubles -/
theorem zv_50 : FP.Core.zval FP.Core.b64 (FP.Core.val64 13855605728582041600) = -(((50 : Nat) : Int) * (FP.Core.one64 : Int)) := by decide +kernel
theorem zv_51 : FP.Core.zval FP.Core.b64 (FP.Core.val64 4632374429215621120) = ((51 : Nat) : Int) * (FP.Core.one64 : Int) := by decide +kernel
theorem nn_50 : FP.Core.val64 13855605728582041600 ≠ .nan := by decide +kernel
theorem nn_51 : FP.Core.val64 4632374429215621120 ≠ .nan := by decide +kernel
theorem wd_x {x : UInt64} (hx : FP.Core.val64 x ≠ .nan) : FP.dcmp x 13855605728582041600 = some .lt ∨ (∃ o, FP.dcmp x 13855605728582041600 = some o ∧ ¬ o = .lt ∧ ((∃ o', FP.dcmp x 4632374429215621120 = some o' ∧ ¬ o' = .lt) ∨ (FP.dcmp x 4632374429215621120 = some .lt ∧ ∃ w : Int32, -50 ≤ w.toInt ∧ w.toInt ≤ 50 ∧ ((∃ o2, FP.dcmp (FP.i2d (FP.d2i x)) x = some o2 ∧ ¬ o2 = .gt ∧ w = FP.d2i x) ∨ (FP.dcmp (FP.i2d (FP.d2i x)) x = some .gt ∧ w = FP.d2i x - 1))))) := by
  have hP := FP.Core.one64_pos
  have e1 : FP.dcmp x 13855605728582041600 = some (compare (FP.Core.zval FP.Core.b64 (FP.Core.val64 x)) (-(((50 : Nat) : Int) * (FP.Core.one64 : Int)))) := by rw [← zv_50]; exact FP.Core.dcmp_zval hx nn_50
  have e2 : FP.dcmp x 4632374429215621120 = some (compare (FP.Core.zval FP.Core.b64 (FP.Core.val64 x)) (((51 : Nat) : Int) * (FP.Core.one64 : Int))) := by rw [← zv_51]; exact FP.Core.dcmp_zval hx nn_51
  have w1 := FP.Core.i2d_int (FP.d2i x)
  have e3 : FP.dcmp (FP.i2d (FP.d2i x)) x = some (compare ((FP.d2i x).toInt * (FP.Core.one64 : Int)) (FP.Core.zval FP.Core.b64 (FP.Core.val64 x))) := by
    rw [← FP.Core.DInt_zval w1]
    exact FP.Core.dcmp_zval (FP.Core.DInt_ne_nan w1) hx
  have hv : (FP.d2i x).toInt = _ := FP.Core.d2i_val hx
  have hz : FP.Core.zval FP.Core.b64 (FP.Core.val64 x) = FP.Core.signed (FP.Core.sgn (FP.Core.val64 x)) (FP.Core.zmag FP.Core.b64 (FP.Core.val64 x)) := rfl
  rw [e1, e2, e3]
  generalize hZ : FP.Core.zval FP.Core.b64 (FP.Core.val64 x) = Z at *
  generalize hPP : FP.Core.one64 = P at *
  by_cases q1 : Z < -(((50 : Nat) : Int) * (P : Int))
  · left
    rw [(FP.Core.compare_lt_iff _ _).mpr q1]
  · right
    refine ⟨_, rfl, fun h => q1 ((FP.Core.compare_lt_iff _ _).mp h), ?_⟩
    by_cases q2 : Z < ((51 : Nat) : Int) * (P : Int)
    · right
      refine ⟨by rw [(FP.Core.compare_lt_iff _ _).mpr q2], ?_⟩
      by_cases q3 : 0 ≤ Z
      · obtain ⟨i, c1, c2, c3, c4⟩ := FP.Core.cut_pos (k := 51) hP (by rw [← hz]; exact q3) (by rw [← hz]; exact q2)
        rw [c1] at hv
        have hv' : (FP.d2i x).toInt = (i : Int) := by omega
        refine ⟨FP.d2i x, by omega, by omega, Or.inl ⟨_, rfl, fun h => ?_, rfl⟩⟩
        rw [hv'] at h
        have := (FP.Core.compare_gt_iff _ _).mp h
        rw [← hz] at c3
        omega
      · have h51 : ((51 : Nat) : Int) * (P : Int) = ((50 : Nat) : Int) * (P : Int) + P := by omega
        obtain ⟨i, c1, c2, c3, c4⟩ := FP.Core.cut_neg (k := 51) hP (by rw [← hz]; omega) (by rw [← hz]; omega)
        rw [c1] at hv
        have hv' : (FP.d2i x).toInt = -(i : Int) := by omega
        rw [← hz] at c3 c4
        rw [hv']
        by_cases q4 : Z < -(i : Int) * (P : Int)
        · have hi : i < 50 := by
            have q1' : -(((50 : Nat) : Int) * (P : Int)) ≤ Z := Int.not_lt.mp q1
            have h5 : (i : Int) * (P : Int) < ((50 : Nat) : Int) * (P : Int) := by
              rw [Int.neg_mul] at q4
              omega
            have h6 := Int.lt_of_mul_lt_mul_right h5 (Int.natCast_nonneg P)
            omega
          have hw : (FP.d2i x - 1).toInt = -(i : Int) - 1 := by
            rw [Int32.toInt_sub, hv', show (1 : Int32).toInt = 1 from rfl]
            exact Int.bmod_eq_of_le (by omega) (by omega)
          exact ⟨FP.d2i x - 1, by omega, by omega, Or.inr ⟨by rw [(FP.Core.compare_gt_iff _ _).mpr q4], rfl⟩⟩
        · refine ⟨FP.d2i x, by omega, by omega, Or.inl ⟨_, rfl, fun h => q4 ((FP.Core.compare_gt_iff _ _).mp h), rfl⟩⟩
    · left
      exact ⟨_, rfl, fun h => q2 ((FP.Core.compare_lt_iff _ _).mp h)⟩
end MUT2
