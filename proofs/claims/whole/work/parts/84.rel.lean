/-! the relation between the class's state and the reference's -/
def lhX (s : Sg) (v p m : Nat) : Int32 := (100 * s 16 0 p + s 8 v 1 * (100 + s 17 0 (12 * p + m)) - 1) / (s 8 v 1 * (100 + s 17 0 (12 * p + m)))
def cfgD (s : Sg) (k v i : Nat) : Int32 := if k = 0 then s 38 v i else if k = 1 then s 39 v i else if k = 2 then s 42 v i else if k = 3 then s 43 v i else if k = 4 then s 8 v 2 else if k = 5 then s 8 v 3 else if k < 30 then s 17 0 (12 * (s 37 v i).toNatClampNeg + (k - 10)) else if v < (s 0 0 2).toNatClampNeg ∧ i < (s 8 v 4).toNatClampNeg then lhX s v (s 37 v i).toNatClampNeg (k - 30) else 0
def cfgM (s : Sg) (v i : Nat) : Option (Nat × Nat) := if s 40 v i = -1 then none else some ((s 40 v i).toNatClampNeg, (s 41 v i).toNatClampNeg)
def cfg (s : Sg) (K : Nat → List Cl) : Cf := ((s 0 0 2).toNatClampNeg, fun v => (s 8 v 4).toNatClampNeg, fun v => (s 8 v 0).toNatClampNeg, fun v i => (s 37 v i).toNatClampNeg, fun v i => (s 36 v i).toNatClampNeg, cfgD s, cfgM s, K)
theorem cfg_wd {s : Sg} {K : Nat → List Cl} {m v i : Nat} (hm : m < 12) : wd (cfg s K) m v i = s 17 0 (12 * (s 37 v i).toNatClampNeg + m) := by
  show cfgD s (10 + m) v i = _
  unfold cfgD
  rw [if_neg (by omega), if_neg (by omega), if_neg (by omega), if_neg (by omega), if_neg (by omega), if_neg (by omega), if_pos (by omega), show 10 + m - 10 = m by omega]
theorem cfg_lh {s : Sg} {K : Nat → List Cl} {m v i : Nat} (hv : v < nv (cfg s K)) (hi : i < (s 8 v 4).toNatClampNeg) : lh (cfg s K) m v i = lhX s v (s 37 v i).toNatClampNeg m := by
  show cfgD s (30 + m) v i = _
  unfold cfgD
  rw [if_neg (by omega), if_neg (by omega), if_neg (by omega), if_neg (by omega), if_neg (by omega), if_neg (by omega), if_neg (by omega), if_pos ⟨hv, hi⟩, show 30 + m - 30 = m by omega]
def lgs (s : Sg) (v : Nat) : Nat := (s 8 v 4).toNatClampNeg
def P1 (s : Sg) (np : Nat) : Prop := np ≤ 12 ∧ s 1 0 4 = nI np ∧ s 10 0 0 = nI np ∧ ∀ p, p < np → ∃ a b m, a < 8 ∧ b < 8 ∧ (1 ≤ m ∧ m ≤ 9999) ∧ (s 14 0 p = nI a ∧ s 44 0 p = nI a) ∧ (s 15 0 p = nI b ∧ s 45 0 p = nI b) ∧ s 16 0 p = nI m ∧ s 46 0 p = nI m
def P2 (s : Sg) : Prop := ∀ k, k < 144 → s 17 0 k = s 47 0 k ∧ -50 ≤ (s 17 0 k).toInt ∧ (s 17 0 k).toInt ≤ 50
def Vv (s : Sg) (v : Nat) : Prop := ∃ l sp st sa g, (l < 4 ∧ s 8 v 0 = nI l ∧ s 48 0 v = nI l) ∧ ((1 ≤ sp ∧ sp ≤ 30) ∧ s 8 v 1 = nI sp ∧ s 49 0 v = nI sp) ∧ ((1 ≤ st ∧ st ≤ 48) ∧ s 8 v 2 = nI st ∧ s 50 0 v = nI st) ∧ (sa ≤ 5000 ∧ s 8 v 3 = nI sa ∧ s 51 0 v = nI sa ∧ s 43 v 0 = nI sa) ∧ (g ≤ 6 ∧ s 8 v 4 = nI g ∧ s 52 0 v = nI g)
def Vp (s : Sg) (v i : Nat) : Prop := ∃ p, p < 8 ∧ s 36 v i = nI p ∧ s 55 0 (7 * v + i) = nI p
def Vl (s : Sg) (np v i : Nat) : Prop := ∃ p b, p < np ∧ b ≤ 500 ∧ (s 37 v i = nI p ∧ s 53 0 (6 * v + i) = nI p) ∧ (s 39 v i = nI b ∧ s 54 0 (6 * v + i) = nI b) ∧ s 38 v i = (s 16 0 p + s 8 v 1 - 1) / s 8 v 1 ∧ s 42 v (i + 1) = s 43 v i + s 38 v i ∧ s 43 v (i + 1) = s 42 v (i + 1) + s 8 v 2
def P3 (s : Sg) (np n : Nat) : Prop := n ≤ 10 ∧ s 0 0 2 = nI n ∧ s 10 0 1 = nI n ∧ ∀ v, v < n → Vv s v ∧ (∀ i, i ≤ lgs s v → Vp s v i) ∧ ∀ i, i < lgs s v → Vl s np v i
def P4 (s : Sg) (n : Nat) : Prop := ∀ v i, v < 10 → i < 6 → (n ≤ v ∨ lgs s v ≤ i) → s 39 v i = 0 ∧ s 40 v i = -1
def Mk (s : Sg) (n k : Nat) : Prop := ∃ v i u j, v < n ∧ i < lgs s v ∧ u < n ∧ 1 ≤ j ∧ j ≤ lgs s u ∧ s 56 0 k = nI v ∧ s 57 0 k = nI i ∧ s 58 0 k = nI u ∧ s 59 0 k = nI j ∧ s 40 v i = nI u ∧ s 41 v i = nI j
def P5 (s : Sg) (n nm : Nat) : Prop := nm ≤ 20 ∧ s 0 0 3 = nI nm ∧ s 10 0 2 = nI nm ∧ (∀ a b, a < nm → b < nm → s 56 0 a = s 56 0 b → s 57 0 a = s 57 0 b → a = b) ∧ (∀ k, k < nm → Mk s n k) ∧ ∀ v i, v < n → i < lgs s v → ¬ s 40 v i = -1 → ∃ k, k < nm ∧ s 56 0 k = nI v ∧ s 57 0 k = nI i
def P6 (s : Sg) (K : Nat → List Cl) (o : Nat → Nat) : Prop := (∀ l, l < 5 → o l < 5) ∧ (∀ a b, a < 5 → b < 5 → o a = o b → a = b) ∧ s 0 0 5 = nI (o 4) ∧ ∀ l, l < 4 → s 12 0 l = nI (o l) ∧ CXc s (o l) (K l) ∧ CMc s l (K l) ∧ s 2 (o l) 1 = s 63 0 l ∧ (K l).length ≤ 12 ∧ ∀ q ∈ K l, clok q
def P7 (s : Sg) : Prop := ∃ n, n ≤ 200 ∧ s 7 0 1 = nI n ∧ s 10 0 21 = nI n ∧ ∀ k, k < n → ∃ b, b < 256 ∧ s 35 0 k = nI b ∧ s 60 0 k &&& 255 = nI b
def P8 (s : Sg) : Prop := ∃ n, n ≤ 8 ∧ s 4 0 6 = nI n ∧ s 10 0 55 = nI n ∧ ∀ k, k < n → s 29 0 (3 * k) = s 86 0 k ∧ s 29 0 (3 * k + 1) = s 87 0 k ∧ s 29 0 (3 * k + 2) = s 88 0 k
def P9 (s : Sg) : Prop := s 5 0 7 = s 10 0 22 ∧ s 5 0 8 = s 10 0 23
def PF (s : Sg) (c : Cf) : Prop := (s 10 0 19 = 0 ∨ s 10 0 19 = 1) ∧ (s 10 0 19 = 1 → ∀ u, u < nv c → MSv s (Tr c) u) ∧ (s 3 0 2 = 0 → RX s c)
def BK (s : Sg) (np n nm : Nat) (K : Nat → List Cl) (o : Nat → Nat) : Prop := P1 s np ∧ P2 s ∧ P3 s np n ∧ P4 s n ∧ P5 s n nm ∧ P6 s K o
def RelC (s : Sg) (c : Cf) : Prop := ∃ np n nm K o, BK s np n nm K o ∧ c = cfg s K ∧ P7 s ∧ P8 s ∧ P9 s ∧ PF s c
def Rel (s : Sg) : Prop := ∃ c, RelC s c
/-! numbers -/
theorem w100 {w : Int32} (h1 : -50 ≤ w.toInt) (h2 : w.toInt ≤ 50) : ∃ k, 50 ≤ k ∧ k ≤ 150 ∧ 100 + w = nI k := by
  have e : (100 + w).toInt = 100 + w.toInt := by
    rw [Int32.toInt_add, show (100 : Int32).toInt = 100 from rfl]
    exact Int.bmod_eq_of_le (by omega) (by omega)
  obtain ⟨k, k1, k2⟩ := nI_toI (x := 100 + w) (n := 150) (by omega) (by omega)
  refine ⟨k, ?_, k1, k2⟩
  rw [k2, nI_toInt (by omega)] at e
  omega
theorem up_nI {a d : Nat} (ha : 1 ≤ a) (ha2 : a ≤ 1000000) (hd : 1 ≤ d) (hd2 : d ≤ 10000) : (nI a + nI d - 1) / nI d = nI ((a + d - 1) / d) ∧ 1 ≤ (a + d - 1) / d := by
  rw [nI_add, L_1, pk_sub (by omega), pk_div (by omega) (by omega) (by omega)]
  exact ⟨rfl, Nat.div_pos (by omega) (by omega)⟩
theorem th_b {m sp : Nat} (h1 : 1 ≤ m ∧ m ≤ 9999) (h2 : 1 ≤ sp ∧ sp ≤ 30) : ∃ t, 1 ≤ t ∧ t ≤ 9999 ∧ (nI m + nI sp - 1) / nI sp = nI t := by
  obtain ⟨e1, e2⟩ := up_nI (a := m) (d := sp) h1.1 (by omega) h2.1 (by omega)
  refine ⟨_, e2, ?_, e1⟩
  refine Nat.div_le_of_le_mul ?_
  have : sp * 9999 = (sp - 1) * 9999 + 9999 := by
    rw [show sp = (sp - 1) + 1 by omega]; omega
  omega
theorem lh_b {m sp : Nat} {w : Int32} (h1 : 1 ≤ m ∧ m ≤ 9999) (h2 : 1 ≤ sp ∧ sp ≤ 30) (hw1 : -50 ≤ w.toInt) (hw2 : w.toInt ≤ 50) : ∃ d t, 0 < d ∧ d ≤ 4500 ∧ nI sp * (100 + w) = nI d ∧ 1 ≤ t ∧ t ≤ 20000 ∧ (100 * nI m + nI sp * (100 + w) - 1) / (nI sp * (100 + w)) = nI t := by
  obtain ⟨k, k1, k2, k3⟩ := w100 hw1 hw2
  have hd1 : 50 ≤ sp * k := Nat.le_trans k1 (Nat.le_mul_of_pos_left k (by omega))
  have hd2 : sp * k ≤ 30 * 150 := Nat.mul_le_mul h2.2 k2
  have hm1 : 100 * m ≤ 999900 := by omega
  rw [k3, pk_mul, show (100 : Int32) = nI 100 from rfl, pk_mul]
  obtain ⟨e1, e2⟩ := up_nI (a := 100 * m) (d := sp * k) (by omega) (by omega) (by omega) (by omega)
  refine ⟨sp * k, _, by omega, by omega, rfl, e2, ?_, e1⟩
  refine Nat.div_le_of_le_mul ?_
  generalize sp * k = d at hd1 hd2 ⊢
  omega
theorem BK.nv {s : Sg} {np n nm : Nat} {K : Nat → List Cl} {o : Nat → Nat} (B : BK s np n nm K o) : nv (cfg s K) = n := by
  show (s 0 0 2).toNatClampNeg = n
  rw [B.2.2.1.2.1, nI_clamp (by have := B.2.2.1.1; omega)]
theorem Mk.at {s : Sg} {n k v i : Nat} (h : Mk s n k) (hn : n ≤ 10) (hg : ∀ v, v < n → lgs s v ≤ 6) (hv : v < n) (hi : i < lgs s v) (h1 : s 56 0 k = nI v) (h2 : s 57 0 k = nI i) : ∃ u j, u < n ∧ 1 ≤ j ∧ j ≤ lgs s u ∧ s 58 0 k = nI u ∧ s 59 0 k = nI j ∧ s 40 v i = nI u ∧ s 41 v i = nI j := by
  obtain ⟨v', i', u, j, a1, a2, a3, a4, a5, a6, a7, a8, a9, a10, a11⟩ := h
  have g1 := hg v hv
  have g2 := hg v' a1
  rw [a6, nI_eq (by omega) (by omega)] at h1
  rw [a7, nI_eq (by omega) (by omega)] at h2
  subst h1; subst h2
  exact ⟨u, j, a3, a4, a5, a8, a9, a10, a11⟩
theorem BK.lg6 {s : Sg} {np n nm : Nat} {K : Nat → List Cl} {o : Nat → Nat} (B : BK s np n nm K o) {v : Nat} (hv : v < n) : lgs s v ≤ 6 ∧ s 8 v 4 = nI (lgs s v) := by
  obtain ⟨l, sp, st, sa, g, -, -, -, -, a1, a2, a3⟩ := (B.2.2.1.2.2.2 v hv).1
  unfold lgs
  rw [a2, nI_clamp (by omega)]
  exact ⟨a1, rfl⟩
/-- what a leg's numbers are -/
theorem BK.leg {s : Sg} {np n nm : Nat} {K : Nat → List Cl} {o : Nat → Nat} (B : BK s np n nm K o) {v i : Nat} (hv : v < n) (hi : i < lgs s v) : ∃ p sp m, p < np ∧ np ≤ 12 ∧ s 37 v i = nI p ∧ (s 37 v i).toNatClampNeg = p ∧ s 8 v 1 = nI sp ∧ s 49 0 v = nI sp ∧ (1 ≤ sp ∧ sp ≤ 30) ∧ (1 ≤ m ∧ m ≤ 9999) ∧ s 16 0 p = nI m ∧ s 46 0 p = nI m := by
  obtain ⟨B1, -, B3, -⟩ := B
  obtain ⟨l, sp, st, sa, g, -, ⟨q1, q2, q3⟩, -⟩ := (B3.2.2.2 v hv).1
  obtain ⟨p, b, h1, h2, ⟨h3, h3'⟩, -⟩ := (B3.2.2.2 v hv).2.2 i hi
  obtain ⟨a, b', m, -, -, m1, -, -, m2, m3⟩ := B1.2.2.2 p h1
  have := B1.1
  exact ⟨p, sp, m, h1, B1.1, h3, by rw [h3, nI_clamp (by omega)], q2, q3, q1, m1, m2, m3⟩
theorem BK.cok {s : Sg} {np n nm : Nat} {K : Nat → List Cl} {o : Nat → Nat} (B : BK s np n nm K o) : Cok (cfg s K) := by
  have B' := B
  obtain ⟨B1, B2, B3, B4, B5, B6⟩ := B'
  refine ⟨by rw [B.nv]; exact B3.1, fun v hv => ?_, fun l hl => ⟨(B6.2.2.2 l hl).2.2.2.2.1, (B6.2.2.2 l hl).2.2.2.2.2⟩⟩
  rw [B.nv] at hv
  obtain ⟨⟨l, sp, st, sa, g, ⟨l1, l2, l3⟩, -, ⟨t1, t2, t3⟩, ⟨s1, s2, s3, s4⟩, -⟩, hp, hl⟩ := B3.2.2.2 v hv
  obtain ⟨g1, g2⟩ := B.lg6 hv
  refine ⟨g1, ?_, ?_, ?_, ?_, fun i hi => ?_, fun i hi => ?_⟩
  · show (s 8 v 0).toNatClampNeg < 4
    rw [l2, nI_clamp (by omega)]; exact l1
  · show 1 ≤ (s 8 v 2).toInt ∧ (s 8 v 2).toInt ≤ 48
    rw [t2, nI_toInt (by omega)]; omega
  · show 0 ≤ (s 8 v 3).toInt ∧ (s 8 v 3).toInt ≤ 5000
    rw [s2, nI_toInt (by omega)]; omega
  · show s 43 v 0 = s 8 v 3
    rw [s2, s4]
  · obtain ⟨p, p1, p2, -⟩ := hp i hi
    show (s 36 v i).toNatClampNeg < 8
    rw [p2, nI_clamp (by omega)]; exact p1
  · obtain ⟨p, sp', m, a1, a0, a2, a3, a4, a5, a6, a7, a8, a9⟩ := B.leg hv hi
    obtain ⟨p', b, z1, b2, ⟨c1, -⟩, ⟨c2, -⟩, c3, c4, c5⟩ := hl i hi
    have ep : p' = p := by
      rw [a2] at c1
      exact ((nI_eq (by omega) (by omega)).mp c1).symm
    subst ep
    refine ⟨?_, c4, c5, ?_, ?_, fun m' hm => ⟨?_, ?_⟩, fun u j hm => ?_⟩
    · show (s 37 v i).toNatClampNeg < 12
      rw [a3]; omega
    · show 1 ≤ (s 38 v i).toInt ∧ (s 38 v i).toInt ≤ 9999
      obtain ⟨t, t1, t2, t3⟩ := th_b a7 a6
      rw [c3, a8, a4, t3, nI_toInt (by omega)]; omega
    · show 0 ≤ (s 39 v i).toInt ∧ (s 39 v i).toInt ≤ 500
      rw [c2, nI_toInt (by omega)]; omega
    · rw [cfg_wd hm, a3]
      exact (B2 _ (by omega)).2
    · obtain ⟨-, w1, w2⟩ := B2 (12 * p' + m') (by omega)
      obtain ⟨d, t, -, -, -, t1, t2, t3⟩ := lh_b a7 a6 w1 w2
      rw [cfg_lh (by rw [B.nv]; exact hv) hi, a3]
      unfold lhX
      rw [a8, a4, t3, nI_toInt (by omega)]; omega
    · have hm' : cfgM s v i = some (u, j) := hm
      unfold cfgM at hm'
      by_cases z : s 40 v i = -1
      · rw [if_pos z] at hm'; exact absurd hm' (by simp)
      · rw [if_neg z] at hm'
        obtain ⟨k, k1, k2, k3⟩ := B5.2.2.2.2.2 v i hv hi z
        obtain ⟨u', j', d1, d2, d3, -, -, d4, d5⟩ := (B5.2.2.2.2.1 k k1).at B3.1 (fun w hw => (B.lg6 hw).1) hv hi k2 k3
        have g3 := (B.lg6 d1).1
        have hn := B3.1
        rw [d4, d5, nI_clamp (by omega), nI_clamp (by omega)] at hm'
        have e := Option.some.inj hm'
        have e1 : u' = u := congrArg Prod.fst e
        have e2 : j' = j := congrArg Prod.snd e
        subst e1; subst e2
        rw [B.nv]
        exact ⟨d1, d2, d3⟩
theorem BK.cx {s : Sg} {np n nm : Nat} {K : Nat → List Cl} {o : Nat → Nat} (B : BK s np n nm K o) : CX s (cfg s K) := by
  have B' := B
  obtain ⟨B1, B2, B3, B4, B5, B6⟩ := B'
  refine ⟨B.cok, by rw [B.nv]; exact B3.2.1, fun v hv => ?_, fun l hl => ⟨o l, B6.1 l (by omega), (B6.2.2.2 l hl).1, (B6.2.2.2 l hl).2.1⟩⟩
  rw [B.nv] at hv
  obtain ⟨⟨l, sp, st, sa, g, ⟨l1, l2, l3⟩, -, ⟨t1, t2, t3⟩, ⟨s1, s2, s3, s4⟩, -⟩, hp, hl⟩ := B3.2.2.2 v hv
  obtain ⟨g1, g2⟩ := B.lg6 hv
  refine ⟨⟨?_, rfl, rfl, g2⟩, fun i hi => ?_, fun i hi => ⟨?_, rfl⟩⟩
  · show s 8 v 0 = nI (s 8 v 0).toNatClampNeg
    rw [l2, nI_clamp (by omega)]
  · obtain ⟨p, sp', m, a1, a0, a2, a3, a4, a5, a6, a7, a8, a9⟩ := B.leg hv hi
    refine ⟨?_, rfl, rfl, ?_, rfl, fun m' hm => ?_⟩
    · show s 37 v i = nI (s 37 v i).toNatClampNeg
      rw [a3]; exact a2
    · show CXo s v i (cfgM s v i)
      unfold cfgM
      by_cases z : s 40 v i = -1
      · rw [if_pos z]; exact z
      · rw [if_neg z]
        obtain ⟨k, k1, k2, k3⟩ := B5.2.2.2.2.2 v i hv hi z
        obtain ⟨u', j', d1, d2, d3, -, -, d4, d5⟩ := (B5.2.2.2.2.1 k k1).at B3.1 (fun w hw => (B.lg6 hw).1) hv hi k2 k3
        have g3 := (B.lg6 d1).1
        have hn := B3.1
        show s 40 v i = nI (s 40 v i).toNatClampNeg ∧ s 41 v i = nI (s 41 v i).toNatClampNeg
        rw [d4, d5, nI_clamp (by omega), nI_clamp (by omega)]
        exact ⟨rfl, rfl⟩
    · obtain ⟨-, w1, w2⟩ := B2 (12 * p + m') (by omega)
      obtain ⟨d, t, d1, d2, d3, -⟩ := lh_b a7 a6 w1 w2
      rw [cfg_wd hm, cfg_lh (by rw [B.nv]; exact hv) hi]
      show s 17 0 (12 * (s 37 v i).toNatClampNeg + m') = _ ∧ 0 < s 8 v 1 * (100 + s 17 0 (12 * (s 37 v i).toNatClampNeg + m')) ∧ _
      refine ⟨rfl, ?_, rfl⟩
      rw [a3, a4, d3]
      exact nI_lt (a := 0) (by omega) (by omega)
  · obtain ⟨p, p1, p2, -⟩ := hp i hi
    show s 36 v i = nI (s 36 v i).toNatClampNeg
    rw [p2, nI_clamp (by omega)]
theorem BK.cm {s : Sg} {np n nm : Nat} {K : Nat → List Cl} {o : Nat → Nat} (B : BK s np n nm K o) : CM s (cfg s K) := by
  have B' := B
  obtain ⟨B1, B2, B3, B4, B5, B6⟩ := B'
  refine ⟨B.cok, by rw [B.nv]; exact B3.2.2.1, fun v hv => ?_, ⟨nm, B5.2.2.1, B5.1, B5.2.2.2.1, fun v i hv hi => ?_⟩, fun l hl => (B6.2.2.2 l hl).2.2.1⟩
  · rw [B.nv] at hv
    obtain ⟨⟨l, sp, st, sa, g, ⟨l1, l2, l3⟩, ⟨q1, q2, q3⟩, ⟨t1, t2, t3⟩, ⟨s1, s2, s3, s4⟩, r1, r2, r3⟩, hp, hl⟩ := B3.2.2.2 v hv
    obtain ⟨g1, g2⟩ := B.lg6 hv
    refine ⟨⟨?_, ?_, ?_, ?_, ?_⟩, fun i hi => ?_, fun i hi => ?_⟩
    · show s 52 0 v = nI (s 8 v 4).toNatClampNeg
      rw [r2, nI_clamp (by omega)]; exact r3
    · show s 48 0 v = nI (s 8 v 0).toNatClampNeg
      rw [l2, nI_clamp (by omega)]; exact l3
    · show s 50 0 v = s 8 v 2
      rw [t2, t3]
    · show s 51 0 v = s 8 v 3
      rw [s2, s3]
    · rw [q3]; exact nI_ne0 (by omega) (by omega)
    · obtain ⟨p, sp', m, a1, a0, a2, a3, a4, a5, a6, a7, a8, a9⟩ := B.leg hv hi
      obtain ⟨p', b, z1, b2, ⟨c1, c1'⟩, ⟨c2, c2'⟩, c3, c4, c5⟩ := hl i hi
      have ep : p' = p := by
        rw [a2] at c1
        exact ((nI_eq (by omega) (by omega)).mp c1).symm
      subst ep
      refine ⟨?_, ?_, ?_, fun m' hm => ?_⟩
      · show s 53 0 (6 * v + i) = nI (s 37 v i).toNatClampNeg
        rw [a3]; exact c1'
      · show s 54 0 (6 * v + i) = s 39 v i
        rw [c2, c2']
      · show (s 46 0 (s 37 v i).toNatClampNeg + s 49 0 v - 1) / s 49 0 v = s 38 v i
        rw [a3, a9, a5, c3, a8, a4]
      · obtain ⟨w0, w1, w2⟩ := B2 (12 * p' + m') (by omega)
        obtain ⟨d, t, d1, d2, d3, -⟩ := lh_b a7 a6 w1 w2
        rw [cfg_wd hm, cfg_lh (by rw [B.nv]; exact hv) hi]
        show s 47 0 (12 * (s 37 v i).toNatClampNeg + m') = _ ∧ ¬ s 49 0 v * (100 + s 17 0 (12 * (s 37 v i).toNatClampNeg + m')) = 0 ∧ (100 * s 46 0 (s 37 v i).toNatClampNeg + s 49 0 v * (100 + s 17 0 (12 * (s 37 v i).toNatClampNeg + m')) - 1) / (s 49 0 v * (100 + s 17 0 (12 * (s 37 v i).toNatClampNeg + m'))) = _
        rw [a3]
        unfold lhX
        rw [a5, a4, a9, a8]
        refine ⟨w0.symm, ?_, rfl⟩
        rw [d3]
        exact nI_ne0 (by omega) (by omega)
    · obtain ⟨p, p1, p2, p3⟩ := hp i hi
      show s 55 0 (7 * v + i) = nI (s 36 v i).toNatClampNeg
      rw [p2, nI_clamp (by omega)]; exact p3
  · rw [B.nv] at hv
    have hi' : i < lgs s v := hi
    show CMo s nm v i (cfgM s v i)
    unfold cfgM
    by_cases z : s 40 v i = -1
    · rw [if_pos z]
      intro k hk hkk
      obtain ⟨u', j', d1, d2, d3, -, -, d4, d5⟩ := (B5.2.2.2.2.1 k hk).at B3.1 (fun w hw => (B.lg6 hw).1) hv hi' hkk.1 hkk.2
      have hn := B3.1
      rw [z] at d4
      exact nIm1 (by omega) d4.symm
    · rw [if_neg z]
      obtain ⟨k, k1, k2, k3⟩ := B5.2.2.2.2.2 v i hv hi' z
      obtain ⟨u', j', d1, d2, d3, e1, e2, d4, d5⟩ := (B5.2.2.2.2.1 k k1).at B3.1 (fun w hw => (B.lg6 hw).1) hv hi' k2 k3
      have g3 := (B.lg6 d1).1
      have hn := B3.1
      refine ⟨k, k1, k2, k3, ?_, ?_⟩
      · rw [d4, nI_clamp (by omega)]; exact e1
      · rw [d5, nI_clamp (by omega)]; exact e2
