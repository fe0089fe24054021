/-! letters: the net of a configuration, laid out in the class and in the reference -/
def oX (x : Int32) : Option Nat := if x = -1 then none else some x.toNatClampNeg
theorem oX_nI {t : Nat} (h : t < 2 ^ 31) : oX (nI t) = some t := by
  unfold oX
  rw [if_neg (nIm1 h), nI_clamp h]
theorem oX_m1 : oX (-1) = none := if_pos rfl
def xB (x : Int32) : Prop := x = -1 ∨ ∃ t, x = nI t ∧ t ≤ 100000
theorem oX_b {x : Int32} (h : xB x) : oI (oX x) = x ∧ bdO (oX x) := by
  rcases h with e | ⟨t, e, ht⟩
  · subst e
    rw [oX_m1]
    exact ⟨rfl, fun m h => absurd h (by simp)⟩
  · subst e
    rw [oX_nI (by omega)]
    exact ⟨rfl, fun m h => by rw [← Option.some.inj h]; exact ht⟩
def nt (c : Cf) (tr : Int32) : Nt := (nv c, fun v => lg c v, fun v i => pt c v i, fun v i => if tr = 0 then oX (dL c v i) else oX (Tr c 2 v i), fun v i => if tr = 0 then oX (dC c v i) else oX (Tr c 1 v i))
theorem nt_L0 {c : Cf} {v i : Nat} : nL (nt c 0) v i = oX (dL c v i) := rfl
theorem nt_C0 {c : Cf} {v i : Nat} : nC (nt c 0) v i = oX (dC c v i) := rfl
theorem nt_L1 {c : Cf} {v i : Nat} : nL (nt c 1) v i = oX (Tr c 2 v i) := rfl
theorem nt_C1 {c : Cf} {v i : Nat} : nC (nt c 1) v i = oX (Tr c 1 v i) := rfl
theorem nt_b {c : Cf} (H : Cok c) {v : Nat} (hv : v < nv c) : (∀ i, i ≤ lg c v → xB (dL c v i)) ∧ (∀ i, i < lg c v → xB (dC c v (i + 1))) ∧ (∀ i, xB (Tr c 1 v i) ∧ xB (Tr c 2 v i)) := by
  have hlg := (H.2.1 v hv).1
  refine ⟨fun i hi => ?_, fun i hi => ?_, fun i => ?_⟩
  · obtain ⟨y, y1, y2⟩ := cok_dL H hv hi
    exact Or.inr ⟨y, y2, by omega⟩
  · obtain ⟨y, y1, y2⟩ := cok_dC H hv hi
    exact Or.inr ⟨y, y2, by omega⟩
  · obtain ⟨a, b⟩ := (YA_run H 20001 (Nat.le_refl _) v hv).2.2.2.2.2.1 i
    refine ⟨?_, ?_⟩
    · rcases a with e | ⟨t, e, ht, -⟩
      · exact Or.inl e
      · exact Or.inr ⟨t, e, by omega⟩
    · rcases b with e | ⟨t, e, ht, -⟩
      · exact Or.inl e
      · exact Or.inr ⟨t, e, by omega⟩
theorem due_mono {c : Cf} (H : Cok c) {v : Nat} (hv : v < nv c) : ∀ (d i : Nat), i + d < lg c v → ∃ y z, dL c v i = nI y ∧ dC c v (i + d + 1) = nI z ∧ y ≤ z ∧ z ≤ 100000 := by
  have hlg := (H.2.1 v hv).1
  intro d
  induction d with
  | zero =>
    intro i hi
    obtain ⟨y, y1, y2⟩ := cok_dL H hv (show i ≤ lg c v by omega)
    obtain ⟨t, -, t1, t2⟩ := cok_th H hv (show i < lg c v by omega)
    obtain ⟨-, e1, -⟩ := (H.2.1 v hv).2.2.2.2.2.2 i (by omega)
    exact ⟨y, y + t, y2, by rw [Nat.add_zero, e1, y2, t2, nI_add], by omega, by omega⟩
  | succ d ih =>
    intro i hi
    obtain ⟨y, z, h1, h2, h3, h4⟩ := ih i (by omega)
    obtain ⟨t, -, t1, t2⟩ := cok_th H hv (show i + d + 1 < lg c v by omega)
    obtain ⟨s, -, s1, s2⟩ := cok_sy H hv
    obtain ⟨-, -, e2, -⟩ := (H.2.1 v hv).2.2.2.2.2.2 (i + d) (by omega)
    obtain ⟨-, e1, -⟩ := (H.2.1 v hv).2.2.2.2.2.2 (i + d + 1) (by omega)
    obtain ⟨w, w1, w2⟩ := cok_dC H hv (show i + d + 1 < lg c v by omega)
    have e : dC c v (i + (d + 1) + 1) = nI (z + s + t) := by
      rw [show i + (d + 1) + 1 = i + d + 1 + 1 by omega, e1, e2, h2, s2, t2, nI_add, nI_add]
    refine ⟨y, z + s + t, h1, e, by omega, ?_⟩
    rw [show i + (d + 1) + 1 = i + d + 1 + 1 by omega, w2, nI_eq (by omega) (by omega)] at e
    omega
theorem nt_ok {c : Cf} (H : Cok c) (tr : Int32) : Nok (nt c tr) := by
  refine ⟨H.1, fun v hv => (H.2.1 v hv).1, fun v i hv hi => (H.2.1 v hv).2.2.2.2.2.1 i hi, fun v i j g cc hr => ?_⟩
  obtain ⟨hv, hij, hj, r1, r2⟩ := hr
  have hv' : v < nv c := hv
  have hj' : j ≤ lg c v := hj
  by_cases z : tr = 0
  · replace r1 : oX (dL c v i) = some g := by
      have : nL (nt c tr) v i = oX (dL c v i) := if_pos z
      rw [← this]; exact r1
    replace r2 : oX (dC c v j) = some cc := by
      have : nC (nt c tr) v j = oX (dC c v j) := if_pos z
      rw [← this]; exact r2
    obtain ⟨y, w, h1, h2, h3, h4⟩ := due_mono H hv' (j - i - 1) i (by omega)
    rw [show i + (j - i - 1) + 1 = j by omega] at h2
    rw [h1, oX_nI (by omega)] at r1
    rw [h2, oX_nI (by omega)] at r2
    have := Option.some.inj r1
    have := Option.some.inj r2
    omega
  · replace r1 : oX (Tr c 2 v i) = some g := by
      have : nL (nt c tr) v i = oX (Tr c 2 v i) := if_neg z
      rw [← this]; exact r1
    replace r2 : oX (Tr c 1 v j) = some cc := by
      have : nC (nt c tr) v j = oX (Tr c 1 v j) := if_neg z
      rw [← this]; exact r2
    have Y := (YA_run H 20001 (Nat.le_refl _) v hv').2.2.2.2.2.1
    have Y1 := (Y j).1
    have Y2 := (Y i).2
    change Tr c 1 v j = -1 ∨ ∃ t, Tr c 1 v j = nI t ∧ _ at Y1
    change Tr c 2 v i = -1 ∨ ∃ t, Tr c 2 v i = nI t ∧ t ≤ 20001 ∧ ∀ j t', i < j → t' ≤ 20000 → Tr c 1 v j = nI t' → t ≤ t' at Y2
    rcases Y1 with e | ⟨t1, e1, b1, -⟩
    · rw [e, oX_m1] at r2; exact absurd r2 (by simp)
    · rcases Y2 with e | ⟨t2, e2, b2, b3⟩
      · rw [e, oX_m1] at r1; exact absurd r1 (by simp)
      · have b4 := b3 j t1 hij
        rw [e1, oX_nI (by omega)] at r2
        rw [e2, oX_nI (by omega)] at r1
        have := Option.some.inj r1
        have := Option.some.inj r2
        by_cases q : t1 ≤ 20000
        · have := b4 q e1
          omega
        · omega
/-- the reference: leaving() and coming() speak of the net -/
theorem e_NB {c : Cf} {s : Sg} {tr : Int32} (H : CM s c) (hM : ¬ tr = 0 → ∀ u, u < nv c → MSv s (Tr c) u) (h52 : s 10 0 52 = tr) : NB s (nt c tr) := by
  intro s' hs
  have K := nt_ok H.1 tr
  have H' : CM s' c := CM_congr (fun k hk => hs.1 k (by revert k; decide)) (hs.2 1 (by decide)) (hs.2 2 (by decide)) H
  have h52' : s' 10 0 52 = tr := by rw [hs.2 52 (by decide)]; exact h52
  have hv10 := H.1.1
  refine ⟨K, H'.2.1, fun v hv => ?_⟩
  have hv' : v < nv c := hv
  obtain ⟨b1, b2, b3⟩ := nt_b H.1 hv'
  have hlg := (H.1.2.1 v hv').1
  refine ⟨(H'.2.2.1 v hv').1.1, (H'.2.2.1 v hv').2.2, fun i hi => ?_, fun j hj => ?_⟩
  · have hi' : i < lg c v := hi
    by_cases z : tr = 0
    · have e : nL (nt c tr) v i = oX (dL c v i) := if_pos z
      rw [e]
      obtain ⟨o1, o2⟩ := oX_b (b1 i (by omega))
      refine ⟨?_, o2⟩
      unfold f_X10_leaving
      rw [h52', if_pos z, o1, nI_clamp (show v < 2 ^ 31 by omega), (H'.2.2.1 v hv').1.1, if_neg (nI_ge hi' (by omega)), chk, if_pos (gi_nI (by omega) (by decide)), e_dL H' hv' (by omega)]
      rfl
    · have e : nL (nt c tr) v i = oX (Tr c 2 v i) := if_neg z
      rw [e]
      obtain ⟨o1, o2⟩ := oX_b (b3 i).2
      refine ⟨?_, o2⟩
      unfold f_X10_leaving
      have hm := ((hM z v hv').2.2.2.2 i (by omega)).2.1
      rw [h52', if_neg z, o1, L_7, pk_mul, nI_add, chk, if_pos (gi_nI (by omega) (by decide)), nI_clamp (by omega), hs.1 76 (by decide), hm]
  · have hj' : j < lg c v := hj
    by_cases z : tr = 0
    · have e : nC (nt c tr) v (j + 1) = oX (dC c v (j + 1)) := if_pos z
      rw [e]
      obtain ⟨o1, o2⟩ := oX_b (b2 j hj')
      refine ⟨?_, o2⟩
      unfold f_X10_coming
      rw [h52', if_pos z, o1, e_dC H' hv' hj']
      rfl
    · have e : nC (nt c tr) v (j + 1) = oX (Tr c 1 v (j + 1)) := if_neg z
      rw [e]
      obtain ⟨o1, o2⟩ := oX_b (b3 (j + 1)).1
      refine ⟨?_, o2⟩
      unfold f_X10_coming
      have hm := ((hM z v hv').2.2.2.2 (j + 1) (by omega)).1
      rw [h52', if_neg z, o1, L_7, pk_mul, nI_add, chk, if_pos (gi_nI (by omega) (by decide)), nI_clamp (by omega), hs.1 75 (by decide), hm]
theorem e_ctX {c : Cf} {s : Sg} {v i : Nat} (H : CX s c) (hv : v < nv c) (hi : i ≤ 7) : f_X8_comesTo v (nI i) s = some (bI (decide (1 ≤ i ∧ i ≤ lg c v)), s) := by
  have hlg := (H.1.2.1 v hv).1
  unfold f_X8_comesTo
  rw [(H.2.2.1 v hv).1.2.2.2]
  by_cases g : i = 0
  · subst g
    rw [if_pos (by decide), decide_eq_false (by omega)]; rfl
  · rw [if_neg (by rw [L_1, nI_ltI (by omega) (by omega)]; omega)]
    by_cases g2 : i ≤ lg c v
    · rw [if_neg (nI_nlt g2 (by omega)), decide_eq_true (by omega)]; rfl
    · rw [if_pos (nI_lt (by omega) (by omega)), decide_eq_false (by omega)]; rfl
/-- row v as it is laid out, up to place n -/
def LX (s : Sg) (c : Cf) (tr : Int32) (v n : Nat) : Prop := ∀ i, i < n → s 25 0 (7 * v + i) = oI (cX (nt c tr) v i) ∧ s 26 0 (7 * v + i) = oI (lX (nt c tr) v i)

theorem e_lay42 {c : Cf} {s0 : Sg} {v : Nat} (H : CX s0 c) (hv : v < nv c)  : ∀ (d i n : Nat) (s : Sg), i + d = lg c v + 1 → d < n → Ag [25, 26] s s0 → (∀ u, u < v → LX s c 0 u (lg c u + 1)) → LX s c 0 v i → Ok (f_X4_layOutRow_42_L3 n (nI v) v v v (nI i) s) (fun s' => Ag [25, 26] s' s0 ∧ ∀ u, u < v + 1 → LX s' c 0 u (lg c u + 1)) := by
  have hlg := (H.1.2.1 v hv).1
  have hv10 := H.1.1
  obtain ⟨x1, x2, x3⟩ := nt_b H.1 hv
  intro d
  induction d with
  | zero =>
    intro i n s h1 h2 h3 h4 h5
    obtain ⟨n, rfl⟩ : ∃ m, n = m + 1 := ⟨n - 1, by omega⟩
    have H' : CX s c := CX_congr (fun k hk => h3 k (by revert k; decide)) (by rw [h3 0 (by decide)]) H
    show Ok (f_X4_layOutRow_42_B3 _ _ _ _ _ _ _) _
    unfold f_X4_layOutRow_42_B3
    rw [(H'.2.2.1 v hv).1.2.2.2]
    refine ok_pos (nI_lt (by omega) (by omega)) (ok_some ⟨h3, fun u hu => ?_⟩)
    by_cases e : u = v
    · subst e
      rw [show lg c u + 1 = i by omega]
      exact h5
    · exact h4 u (by omega)
  | succ d ih =>
    intro i n s h1 h2 h3 h4 h5
    obtain ⟨n, rfl⟩ : ∃ m, n = m + 1 := ⟨n - 1, by omega⟩
    have H' : ∀ s1, Ag [25, 26] s1 s0 → CX s1 c := fun s1 g => CX_congr (fun k hk => g k (by revert k; decide)) (by rw [g 0 (by decide)]) H
    have hi : i ≤ lg c v := by omega
    have e1 : nI v * 7 + nI i = nI (7 * v + i) := by rw [L_7, pk_mul, nI_add, Nat.mul_comm]
    have fin : Ok (f_X4_layOutRow_42_B40 (f_X4_layOutRow_42_L3 n) (nI v) v v v (nI i) (nI (7 * v + i)) (oI (cX (nt c 0) v i)) s) (fun s' => Ag [25, 26] s' s0 ∧ ∀ u, u < v + 1 → LX s' c 0 u (lg c u + 1)) := by
      unfold f_X4_layOutRow_42_B40
      refine ok_gi _ rfl (by omega) (ok_S ?_)
      rw [nI_clamp (show 7 * v + i < 2 ^ 31 by omega)]
      have a1 : Ag [25, 26] (up3 s 25 0 (7 * v + i) (oI (cX (nt c 0) v i))) s0 := h3.up (by decide)
      have next : ∀ s2, s2 = up3 (up3 s 25 0 (7 * v + i) (oI (cX (nt c 0) v i))) 26 0 (7 * v + i) (oI (lX (nt c 0) v i)) → Ok (f_X4_layOutRow_42_L3 n (nI v) v v v (nI i + 1) s2) (fun s' => Ag [25, 26] s' s0 ∧ ∀ u, u < v + 1 → LX s' c 0 u (lg c u + 1)) := by
        intro s2 e
        subst e
        rw [nI_1]
        refine ih (i + 1) n _ (by omega) (by omega) (a1.up (by decide)) (fun u hu z hz => ?_) (fun z hz => ?_)
        · have := (H.1.2.1 u (by omega)).1
          obtain ⟨y1, y2⟩ := h4 u hu z hz
          rw [up_k (show ¬ (25 : Nat) = 26 by decide), up_j (by omega), up_j (by omega), up_k (show ¬ (26 : Nat) = 25 by decide)]
          exact ⟨y1, y2⟩
        · by_cases e : z = i
          · subst e
            rw [up_k (show ¬ (25 : Nat) = 26 by decide), up_s, up_s]
            exact ⟨rfl, rfl⟩
          · obtain ⟨y1, y2⟩ := h5 z (by omega)
            rw [up_k (show ¬ (25 : Nat) = 26 by decide), up_j (by omega), up_j (by omega), up_k (show ¬ (26 : Nat) = 25 by decide)]
            exact ⟨y1, y2⟩
      refine ok_call (e_lvX (H' _ a1) hv (by omega)) ?_
      dsimp only
      rw [e1]
      by_cases g : i < lg c v
      · have el : lX (nt c 0) v i = oX (dL c v i) := (if_pos g).trans nt_L0
        have eo := (oX_b (x1 i (by omega))).1
        refine ok_neg (by rw [decide_eq_true g]; decide) (ok_gi i rfl (by omega) (ok_gi _ rfl (by omega) (ok_S (next _ ?_))))
        rw [nI_clamp (show i < 2 ^ 31 by omega), nI_clamp (show 7 * v + i < 2 ^ 31 by omega), el, eo]
        have e43 : up3 s 25 0 (7 * v + i) (oI (cX (nt c 0) v i)) 43 = s0 43 := a1 _ (by decide)
        rw [e43, ((H.2.2.1 v hv).2.2 i hi).2]
      · have el : lX (nt c 0) v i = none := if_neg g
        refine ok_pos (by rw [decide_eq_false g]; decide) (ok_gi _ rfl (by omega) (ok_S (next _ ?_)))
        rw [nI_clamp (show 7 * v + i < 2 ^ 31 by omega), el]
        rfl
    show Ok (f_X4_layOutRow_42_B3 _ _ _ _ _ _ _) _
    unfold f_X4_layOutRow_42_B3
    rw [((H' s h3).2.2.1 v hv).1.2.2.2]
    refine ok_neg (nI_nlt (by omega) (by omega)) (ok_call (e_ctX (H' s h3) hv (by omega)) ?_)
    dsimp only
    rw [e1]
    by_cases g : 1 ≤ i
    · have ec : cX (nt c 0) v i = oX (dC c v i) := (if_neg (by omega)).trans nt_C0
      have eo := (oX_b (show xB (dC c v i) from (by have := x2 (i - 1) (by omega); rw [show i - 1 + 1 = i by omega] at this; exact this))).1
      refine ok_neg (by rw [decide_eq_true ⟨g, hi⟩]; decide) (ok_gi i rfl (by omega) ?_)
      rw [nI_clamp (show i < 2 ^ 31 by omega)]
      rw [ec, eo] at fin
      have e43 : s 42 = s0 42 := h3 _ (by decide)
      rw [e43, show s0 42 v i = dC c v i from (by have := ((H.2.2.1 v hv).2.1 (i - 1) (by omega)).2.2.2.2.1; rw [show i - 1 + 1 = i by omega] at this; exact this)]
      exact fin
    · have ec : cX (nt c 0) v i = none := if_pos (by omega)
      refine ok_pos (by rw [decide_eq_false (by omega)]; decide) ?_
      rw [ec] at fin
      exact fin

theorem e_lay30 {c : Cf} {s0 : Sg} {v : Nat} (H : CX s0 c) (hv : v < nv c) (hR : RX s0 c) : ∀ (d i n : Nat) (s : Sg), i + d = lg c v + 1 → d < n → Ag [25, 26] s s0 → (∀ u, u < v → LX s c 1 u (lg c u + 1)) → LX s c 1 v i → Ok (f_X4_layOutRow_30_L3 n (nI v) v v v (nI i) s) (fun s' => Ag [25, 26] s' s0 ∧ ∀ u, u < v + 1 → LX s' c 1 u (lg c u + 1)) := by
  have hlg := (H.1.2.1 v hv).1
  have hv10 := H.1.1
  obtain ⟨x1, x2, x3⟩ := nt_b H.1 hv
  intro d
  induction d with
  | zero =>
    intro i n s h1 h2 h3 h4 h5
    obtain ⟨n, rfl⟩ : ∃ m, n = m + 1 := ⟨n - 1, by omega⟩
    have H' : CX s c := CX_congr (fun k hk => h3 k (by revert k; decide)) (by rw [h3 0 (by decide)]) H
    show Ok (f_X4_layOutRow_30_B3 _ _ _ _ _ _ _) _
    unfold f_X4_layOutRow_30_B3
    rw [(H'.2.2.1 v hv).1.2.2.2]
    refine ok_pos (nI_lt (by omega) (by omega)) (ok_some ⟨h3, fun u hu => ?_⟩)
    by_cases e : u = v
    · subst e
      rw [show lg c u + 1 = i by omega]
      exact h5
    · exact h4 u (by omega)
  | succ d ih =>
    intro i n s h1 h2 h3 h4 h5
    obtain ⟨n, rfl⟩ : ∃ m, n = m + 1 := ⟨n - 1, by omega⟩
    have H' : ∀ s1, Ag [25, 26] s1 s0 → CX s1 c := fun s1 g => CX_congr (fun k hk => g k (by revert k; decide)) (by rw [g 0 (by decide)]) H
    have hi : i ≤ lg c v := by omega
    have e1 : nI v * 7 + nI i = nI (7 * v + i) := by rw [L_7, pk_mul, nI_add, Nat.mul_comm]
    have fin : Ok (f_X4_layOutRow_30_B40 (f_X4_layOutRow_30_L3 n) (nI v) v v v (nI i) (nI (7 * v + i)) (oI (cX (nt c 1) v i)) s) (fun s' => Ag [25, 26] s' s0 ∧ ∀ u, u < v + 1 → LX s' c 1 u (lg c u + 1)) := by
      unfold f_X4_layOutRow_30_B40
      refine ok_gi _ rfl (by omega) (ok_S ?_)
      rw [nI_clamp (show 7 * v + i < 2 ^ 31 by omega)]
      have a1 : Ag [25, 26] (up3 s 25 0 (7 * v + i) (oI (cX (nt c 1) v i))) s0 := h3.up (by decide)
      have next : ∀ s2, s2 = up3 (up3 s 25 0 (7 * v + i) (oI (cX (nt c 1) v i))) 26 0 (7 * v + i) (oI (lX (nt c 1) v i)) → Ok (f_X4_layOutRow_30_L3 n (nI v) v v v (nI i + 1) s2) (fun s' => Ag [25, 26] s' s0 ∧ ∀ u, u < v + 1 → LX s' c 1 u (lg c u + 1)) := by
        intro s2 e
        subst e
        rw [nI_1]
        refine ih (i + 1) n _ (by omega) (by omega) (a1.up (by decide)) (fun u hu z hz => ?_) (fun z hz => ?_)
        · have := (H.1.2.1 u (by omega)).1
          obtain ⟨y1, y2⟩ := h4 u hu z hz
          rw [up_k (show ¬ (25 : Nat) = 26 by decide), up_j (by omega), up_j (by omega), up_k (show ¬ (26 : Nat) = 25 by decide)]
          exact ⟨y1, y2⟩
        · by_cases e : z = i
          · subst e
            rw [up_k (show ¬ (25 : Nat) = 26 by decide), up_s, up_s]
            exact ⟨rfl, rfl⟩
          · obtain ⟨y1, y2⟩ := h5 z (by omega)
            rw [up_k (show ¬ (25 : Nat) = 26 by decide), up_j (by omega), up_j (by omega), up_k (show ¬ (26 : Nat) = 25 by decide)]
            exact ⟨y1, y2⟩
      refine ok_call (e_lvX (H' _ a1) hv (by omega)) ?_
      dsimp only
      rw [e1]
      by_cases g : i < lg c v
      · have el : lX (nt c 1) v i = oX (Tr c 2 v i) := (if_pos g).trans nt_L1
        have eo := (oX_b ((x3 i).2)).1
        refine ok_neg (by rw [decide_eq_true g]; decide) (ok_gi i rfl (by omega) (ok_gi _ rfl (by omega) (ok_S (next _ ?_))))
        rw [nI_clamp (show i < 2 ^ 31 by omega), nI_clamp (show 7 * v + i < 2 ^ 31 by omega), el, eo]
        have e43 : up3 s 25 0 (7 * v + i) (oI (cX (nt c 1) v i)) 31 = s0 31 := a1 _ (by decide)
        rw [e43, ((hR v hv).1 i (by omega)).2.1]
      · have el : lX (nt c 1) v i = none := if_neg g
        refine ok_pos (by rw [decide_eq_false g]; decide) (ok_gi _ rfl (by omega) (ok_S (next _ ?_)))
        rw [nI_clamp (show 7 * v + i < 2 ^ 31 by omega), el]
        rfl
    show Ok (f_X4_layOutRow_30_B3 _ _ _ _ _ _ _) _
    unfold f_X4_layOutRow_30_B3
    rw [((H' s h3).2.2.1 v hv).1.2.2.2]
    refine ok_neg (nI_nlt (by omega) (by omega)) (ok_call (e_ctX (H' s h3) hv (by omega)) ?_)
    dsimp only
    rw [e1]
    by_cases g : 1 ≤ i
    · have ec : cX (nt c 1) v i = oX (Tr c 1 v i) := (if_neg (by omega)).trans nt_C1
      have eo := (oX_b ((x3 i).1)).1
      refine ok_neg (by rw [decide_eq_true ⟨g, hi⟩]; decide) (ok_gi i rfl (by omega) ?_)
      rw [nI_clamp (show i < 2 ^ 31 by omega)]
      rw [ec, eo] at fin
      have e43 : s 30 = s0 30 := h3 _ (by decide)
      rw [e43, ((hR v hv).1 i (by omega)).1]
      exact fin
    · have ec : cX (nt c 1) v i = none := if_pos (by omega)
      refine ok_pos (by rw [decide_eq_false (by omega)]; decide) ?_
      rw [ec] at fin
      exact fin

theorem e_layL {c : Cf} {s0 : Sg} {tr : Int32} (H : CX s0 c) (htr : tr = 0 ∨ tr = 1) (hR : tr = 1 → RX s0 c) : ∀ (d v n : Nat) (s : Sg), v + d = nv c → d < n → Ag [25, 26] s s0 → (∀ u, u < v → LX s c tr u (lg c u + 1)) → Ok (f_X4_layOut_L3 n tr (nI v) s) (fun s' => Ag [25, 26] s' s0 ∧ ∀ u, u < nv c → LX s' c tr u (lg c u + 1)) := by
  have hv10 := H.1.1
  intro d
  induction d with
  | zero =>
    intro v n s h1 h2 h3 h4
    obtain ⟨n, rfl⟩ : ∃ m, n = m + 1 := ⟨n - 1, by omega⟩
    show Ok (f_X4_layOut_B3 _ _ _ _) _
    unfold f_X4_layOut_B3
    rw [h3 0 (by decide), H.2.1]
    exact ok_pos (nI_le (by omega) (by omega)) (ok_some ⟨h3, fun u hu => h4 u (by omega)⟩)
  | succ d ih =>
    intro v n s h1 h2 h3 h4
    obtain ⟨n, rfl⟩ : ∃ m, n = m + 1 := ⟨n - 1, by omega⟩
    have H' : CX s c := CX_congr (fun k hk => h3 k (by revert k; decide)) (by rw [h3 0 (by decide)]) H
    have hlg := (H.1.2.1 v (by omega)).1
    have go : ∀ q, (Ag [25, 26] q s ∧ ∀ u, u < v + 1 → LX q c tr u (lg c u + 1)) → Ok (f_X4_layOut_L3 n tr (nI v + 1) q) (fun s' => Ag [25, 26] s' s0 ∧ ∀ u, u < nv c → LX s' c tr u (lg c u + 1)) := by
      rintro q ⟨q1, q2⟩
      rw [nI_1]
      exact ih (v + 1) n q (by omega) (by omega) (q1.trans h3 _ (fun k hk => ⟨hk, hk⟩)) q2
    show Ok (f_X4_layOut_B3 _ _ _ _) _
    unfold f_X4_layOut_B3
    rw [h3 0 (by decide), H.2.1]
    refine ok_neg (nI_ge (by omega) (by omega)) (ok_gi v rfl (by omega) ?_)
    rw [nI_clamp (show v < 2 ^ 31 by omega)]
    rcases htr with e | e
    · subst e
      refine ok_pos rfl (ok_gi v rfl (by omega) (ok_gi v rfl (by omega) (ok_gi v rfl (by omega) (ok_bind ?_ go))))
      exact e_lay42 H' (by omega) (lg c v + 1) 0 FU s (by omega) (by unfold FU; omega) Ag.rfl h4 (fun z hz => absurd hz (Nat.not_lt_zero _))
    · subst e
      have hR' : RX s c := by
        have := hR rfl
        unfold RX at this ⊢
        rw [h3 30 (by decide), h3 31 (by decide), h3 32 (by decide), h3 33 (by decide)]
        exact this
      refine ok_neg (by decide) (ok_gi v rfl (by omega) (ok_bind ?_ go))
      exact e_lay30 H' (by omega) hR' (lg c v + 1) 0 FU s (by omega) (by unfold FU; omega) Ag.rfl h4 (fun z hz => absurd hz (Nat.not_lt_zero _))
theorem e_layOut {c : Cf} {s : Sg} {tr : Int32} (H : CX s c) (htr : tr = 0 ∨ tr = 1) (hR : tr = 1 → RX s c) : Ok (f_X4_layOut tr s) (fun s' => Ag [25, 26] s' s ∧ NX s' (nt c tr)) := by
  have hv10 := H.1.1
  unfold f_X4_layOut
  refine Ok.mono (e_layL H htr hR (nv c) 0 FU s (by omega) (by unfold FU; omega) Ag.rfl (fun u hu => absurd hu (Nat.not_lt_zero _))) ?_
  rintro s' ⟨h1, h2⟩
  have H' : CX s' c := CX_congr (fun k hk => h1 k (by revert k; decide)) (by rw [h1 0 (by decide)]) H
  refine ⟨h1, nt_ok H.1 tr, H'.2.1, fun v hv => ⟨(H'.2.2.1 v hv).1.2.2.2, fun i hi => ?_⟩⟩
  have hv' : v < nv c := hv
  have hi' : i ≤ lg c v := hi
  obtain ⟨b1, b2, b3⟩ := nt_b H.1 hv'
  refine ⟨((H'.2.2.1 v hv).2.2 i hi).1, (h2 v hv i (by omega)).1, (h2 v hv i (by omega)).2, ?_, ?_⟩
  · unfold cX
    by_cases e : i = 0
    · rw [if_pos e]; exact fun m h => absurd h (by simp)
    · rw [if_neg e]
      by_cases z : tr = 0
      · have e2 : nC (nt c tr) v i = oX (dC c v i) := if_pos z
        rw [e2]
        have := b2 (i - 1) (by omega)
        rw [show i - 1 + 1 = i by omega] at this
        exact (oX_b this).2
      · have e2 : nC (nt c tr) v i = oX (Tr c 1 v i) := if_neg z
        rw [e2]
        exact (oX_b (b3 i).1).2
  · unfold lX
    by_cases e : i < nG (nt c tr) v
    · rw [if_pos e]
      by_cases z : tr = 0
      · have e2 : nL (nt c tr) v i = oX (dL c v i) := if_pos z
        rw [e2]
        exact (oX_b (b1 i hi')).2
      · have e2 : nL (nt c tr) v i = oX (Tr c 2 v i) := if_neg z
        rw [e2]
        exact (oX_b (b3 i).2).2
    · rw [if_neg e]; exact fun m h => absurd h (by simp)
