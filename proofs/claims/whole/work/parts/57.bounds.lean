/-! bounds of the run -/
theorem nI_toI {x : Int32} {n : Nat} (h0 : 0 ≤ x.toInt) (h : x.toInt ≤ n) : ∃ j : Nat, j ≤ n ∧ x = nI j := by
  obtain ⟨j, j1, j2⟩ := nI_of (x := x) (fun q => by have := Int32.lt_iff_toInt_lt.mp q; rw [show (0 : Int32).toInt = 0 from rfl] at this; omega)
  refine ⟨j, ?_, j2⟩
  rw [j2, nI_toInt j1] at h
  omega
theorem nI_toI1 {x : Int32} {n : Nat} (h0 : 1 ≤ x.toInt) (h : x.toInt ≤ n) : ∃ j : Nat, 1 ≤ j ∧ j ≤ n ∧ x = nI j := by
  obtain ⟨j, j1, j2⟩ := nI_toI (x := x) (by omega) h
  refine ⟨j, ?_, j1, j2⟩
  rcases Nat.eq_zero_or_pos j with q | q
  · subst q; rw [j2] at h0; exact absurd h0 (by decide)
  · exact q
theorem cok_sy {c : Cf} (H : Cok c) {v : Nat} (hv : v < nv c) : ∃ y, 1 ≤ y ∧ y ≤ 48 ∧ sy c v = nI y := nI_toI1 (H.2.1 v hv).2.2.1.1 (H.2.1 v hv).2.2.1.2
theorem cok_th {c : Cf} (H : Cok c) {v i : Nat} (hv : v < nv c) (hi : i < lg c v) : ∃ y, 1 ≤ y ∧ y ≤ 9999 ∧ th c v i = nI y := nI_toI1 ((H.2.1 v hv).2.2.2.2.2.2 i hi).2.2.2.1.1 ((H.2.1 v hv).2.2.2.2.2.2 i hi).2.2.2.1.2
theorem cok_bk {c : Cf} (H : Cok c) {v i : Nat} (hv : v < nv c) (hi : i < lg c v) : ∃ y, y ≤ 500 ∧ bk c v i = nI y := nI_toI ((H.2.1 v hv).2.2.2.2.2.2 i hi).2.2.2.2.1.1 ((H.2.1 v hv).2.2.2.2.2.2 i hi).2.2.2.2.1.2
theorem cok_lh {c : Cf} (H : Cok c) {v i m : Nat} (hv : v < nv c) (hi : i < lg c v) (hm : m < 12) : ∃ y, 1 ≤ y ∧ y ≤ 20000 ∧ lh c m v i = nI y := nI_toI1 (((H.2.1 v hv).2.2.2.2.2.2 i hi).2.2.2.2.2.1 m hm).2.1 (((H.2.1 v hv).2.2.2.2.2.2 i hi).2.2.2.2.2.1 m hm).2.2
theorem cok_sa {c : Cf} (H : Cok c) {v : Nat} (hv : v < nv c) : ∃ y, y ≤ 5000 ∧ sa c v = nI y := nI_toI (H.2.1 v hv).2.2.2.1.1 (H.2.1 v hv).2.2.2.1.2
theorem cok_dL {c : Cf} (H : Cok c) {v : Nat} (hv : v < nv c) : ∀ {i : Nat}, i ≤ lg c v → ∃ y, y ≤ 5000 + 10047 * i ∧ dL c v i = nI y := by
  intro i
  induction i with
  | zero =>
    intro _
    obtain ⟨y, y1, y2⟩ := cok_sa H hv
    exact ⟨y, by omega, by rw [(H.2.1 v hv).2.2.2.2.1]; exact y2⟩
  | succ i ih =>
    intro hi
    obtain ⟨y, y1, y2⟩ := ih (by omega)
    obtain ⟨t, -, t1, t2⟩ := cok_th H hv (show i < lg c v by omega)
    obtain ⟨s, -, s1, s2⟩ := cok_sy H hv
    obtain ⟨-, e1, e2, -⟩ := (H.2.1 v hv).2.2.2.2.2.2 i (by omega)
    exact ⟨y + t + s, by omega, by rw [e2, e1, y2, t2, s2, nI_add, nI_add]⟩
theorem cok_dC {c : Cf} (H : Cok c) {v i : Nat} (hv : v < nv c) (hi : i < lg c v) : ∃ y, y ≤ 15000 + 10047 * i ∧ dC c v (i + 1) = nI y := by
  obtain ⟨y, y1, y2⟩ := cok_dL H hv (show i ≤ lg c v by omega)
  obtain ⟨t, -, t1, t2⟩ := cok_th H hv hi
  obtain ⟨-, e1, -⟩ := (H.2.1 v hv).2.2.2.2.2.2 i hi
  exact ⟨y + t, by omega, by rw [e1, y2, t2, nI_add]⟩
theorem more_pos {h t x : Nat} (hh : h ≤ 20000) (ht : t ≤ h) (hx : x < h - t) : nI h - nI t - nI x = nI (h - t - x) ∧ 0 < nI h - nI t - nI x := by
  have e : nI h - nI t - nI x = nI (h - t - x) := by rw [pk_sub ht, pk_sub (by omega)]
  exact ⟨e, by rw [e]; exact nI_lt (a := 0) (by omega) (by omega)⟩
theorem neg_sub' {a b : Nat} (h : a ≤ b) : nI a - nI b = -nI (b - a) := by
  rw [← pk_sub h, Int32.neg_sub]
theorem more_neg {h t x : Nat} (hh : h ≤ 20000) (ht : t ≤ h) (hx : h - t ≤ x) (hx2 : x ≤ 9999) : ¬ 0 < nI h - nI t - nI x ∧ -(nI h - nI t - nI x) = nI (x - (h - t)) := by
  have e : nI h - nI t - nI x = -nI (x - (h - t)) := by rw [pk_sub ht, neg_sub' hx]
  refine ⟨?_, by rw [e, Int32.neg_neg]⟩
  intro q
  have q := Int32.lt_iff_toInt_lt.mp q
  rw [pk_sub ht, pk_sub_toInt (by omega) (by omega), show (0 : Int32).toInt = 0 from rfl] at q
  omega
/-- all are numbers up to B -/
def UB (F : Nat → Int32) (B : Nat) : Prop := ∀ k, k < 5 → ∃ x, F k = nI x ∧ x ≤ B
theorem UB.up {F : Nat → Int32} {B j x : Nat} (h : UB F B) (hx : x ≤ B) : UB (upd F j (nI x)) B := by
  intro k hk
  unfold upd
  by_cases q : k = j
  · rw [if_pos q]; exact ⟨x, rfl, hx⟩
  · rw [if_neg q]; exact h k hk
theorem UB.mono {F : Nat → Int32} {B C : Nat} (h : UB F B) (hb : B ≤ C) : UB F C := fun k hk => by
  obtain ⟨x, h1, h2⟩ := h k hk
  exact ⟨x, h1, by omega⟩
theorem mn_nI {a b : Nat} (ha : a < 2 ^ 31) (hb : b < 2 ^ 31) : mn (nI a) (nI b) = nI (min a b) := by
  unfold mn
  by_cases q : b < a
  · rw [if_pos (nI_lt q ha), Nat.min_eq_right (by omega)]
  · rw [if_neg (nI_nlt (by omega) hb), Nat.min_eq_left (by omega)]
theorem UB_tk {S : (Nat → Int32) × Int32} {B y k : Nat} (hB : B < 2 ^ 31) (hy : y < 2 ^ 31) (h : UB S.1 B) (h2 : S.2 = nI y) (hk : k < 5) : UB (tk S k).1 B ∧ ∃ z, z ≤ y ∧ (tk S k).2 = nI z := by
  obtain ⟨x, x1, x2⟩ := h k hk
  unfold tk
  rw [x1, h2, mn_nI (by omega) hy, pk_sub (by omega), pk_sub (by omega)]
  exact ⟨h.up (by omega), y - min x y, by omega, rfl⟩
theorem UB_mk {F : Nat → Int32} {B y own : Nat} (hB : B < 2 ^ 31) (hy : y < 2 ^ 31) (h : UB F B) (ho : own < 4) : UB (mkup F (nI y) own) B := by
  unfold mkup
  obtain ⟨a1, z1, a2, a3⟩ := UB_tk (S := (F, nI y)) (k := 0) hB hy h rfl (by omega)
  obtain ⟨b1, z2, b2, b3⟩ := UB_tk (k := 1 + own) hB (by omega) a1 a3 (by omega)
  obtain ⟨c1, z3, c2, c3⟩ := UB_tk (k := 1) hB (by omega) b1 b3 (by omega)
  obtain ⟨d1, z4, d2, d3⟩ := UB_tk (k := 2) hB (by omega) c1 c3 (by omega)
  obtain ⟨e1, z5, e2, e3⟩ := UB_tk (k := 3) hB (by omega) d1 d3 (by omega)
  obtain ⟨f1, z6, f2, f3⟩ := UB_tk (k := 4) hB (by omega) e1 e3 (by omega)
  exact f1
theorem UB_shF {S0 : Nat → Int32} {B wn h t x : Nat} {ml : Option Nat} {exc : Bool} {own : Nat} (hB : B ≤ 700000) (h0 : UB S0 B) (hw : wn ≤ 20000) (hh : h ≤ 20000) (ht : t ≤ h) (hx : x ≤ 9999) (hml : ∀ q, ml = some q → q < 4) (ho : own < 4) : UB (shF S0 (nI wn) (nI h - nI t - nI x) ml exc own) (B + 100000) := by
  have h1 : UB (wS S0 (nI wn) ml) (B + 20000) := by
    cases ml with
    | none => exact h0.mono (by omega)
    | some q =>
      have hq := hml q rfl
      obtain ⟨z, z1, z2⟩ := h0 (1 + q) (by omega)
      unfold wS
      dsimp only
      rw [z1, nI_add]
      exact (h0.mono (by omega)).up (by omega)
  unfold shF mS
  generalize hS : wS S0 (nI wn) ml = S1 at h1 ⊢
  rcases Nat.lt_or_ge x (h - t) with q | q
  · obtain ⟨e1, e2⟩ := more_pos hh ht q
    rw [if_pos e2, e1]
    cases exc with
    | true =>
      obtain ⟨z, z1, z2⟩ := h1 0 (by omega)
      rw [if_pos rfl, z1, nI_add]
      exact (h1.mono (by omega)).up (by omega)
    | false =>
      obtain ⟨z, z1, z2⟩ := h1 (1 + own) (by omega)
      rw [if_neg (by decide), z1, nI_add]
      exact (h1.mono (by omega)).up (by omega)
  · obtain ⟨e1, e2⟩ := more_neg hh ht q hx
    rw [if_neg e1, e2]
    exact (UB_mk (by omega) (by omega) h1 ho).mono (by omega)
theorem UB_nn {F : Nat → Int32} {B : Nat} (h : UB F B) (hB : B < 2 ^ 31) {k : Nat} (hk : k < 5) : ¬ F k < 0 := by
  obtain ⟨x, h1, h2⟩ := h k hk
  rw [h1]
  exact nI_pos (by omega)
theorem mlin_lt {c : Cf} (H : Cok c) {v p : Nat} (hv : v < nv c) (hp : p < lg c v) : ∀ q, mlin c v p = some q → q < 4 := by
  intro q hq
  unfold mlin at hq
  cases hm : mt c v p with
  | none => rw [hm] at hq; cases hq
  | some w =>
    obtain ⟨u, j⟩ := w
    rw [hm] at hq
    cases hq
    exact (H.2.1 u (((H.2.1 v hv).2.2.2.2.2.2 p hp).2.2.2.2.2.2 u j hm).1).2.1
/-! arY, dpY change one voyage -/
theorem arY_o {c : Cf} {h v u k : Nat} {Y : Sg} (hu : ¬ u = v) : arY c h v Y k u = Y k u := by
  unfold arY
  split
  · funext i
    simp only [up3]
    simp [hu]
  · rfl
theorem dpY_o {c : Cf} {h v u k : Nat} {Y : Sg} (hu : ¬ u = v) : dpY c h v Y k u = Y k u := by
  unfold dpY
  split
  · funext i
    simp only [up3]
    simp [hu]
  · rfl
theorem YV_of {c : Cf} {h : Nat} {Y Y' : Sg} {u : Nat} (e : ∀ k, Y' k u = Y k u) (H : YV c h Y u) : YV c h Y' u := by
  unfold YV pl at H ⊢
  simp only [e]
  exact H
theorem YV_ar {c : Cf} {h v : Nat} {Y : Sg} (H : Cok c) (hv : v < nv c) (hh : h ≤ 20000) (hY : YV c h Y v) : YV c h (arY c h v Y) v ∧ ((arY c h v Y) 0 v 2 = 1 → ¬ (arY c h v Y) 0 v 3 = nI h) := by
  by_cases hc : Y 0 v 2 = 1 ∧ Y 0 v 3 = nI h
  rotate_left
  · rw [show arY c h v Y = Y from if_neg hc]
    exact ⟨hY, fun h1 h2 => hc ⟨h1, h2⟩⟩
  obtain ⟨y1, y2, y3, y4, y5, y6, y7⟩ := hY
  obtain ⟨p1, -, ⟨t, t1, t2⟩, w, w1, w2⟩ := y5 hc.1
  have hlg := (H.2.1 v hv).1
  have hln := (H.2.1 v hv).2.1
  generalize hp : pl Y v = p at *
  have hS : UB (shs c h v Y) (100000 * p + 100000) := by
    rw [shs_eq (t := t) (by rw [hp]; exact t1) (by omega), hp, t1, w1]
    obtain ⟨x, -, x2, x3⟩ := cok_th H hv p1
    rw [x3]
    exact UB_shF (by omega) (fun k hk => y7 k p hk (by omega)) w2 hh t2 x2 (mlin_lt H hv p1) hln
  generalize hSS : shs c h v Y = S at hS
  have e : arY c h v Y = up3 (up3 (up3 (up3 (up3 (up3 (up3 (up3 (up3 Y 4 v (p + 1) (S 0)) 5 v (p + 1) (S 1)) 6 v (p + 1) (S 2)) 7 v (p + 1) (S 3)) 8 v (p + 1) (S 4)) 1 v (p + 1) (nI h)) 0 v 0 (nI (p + 1))) 0 v 2 0) 0 v 1 (if p + 1 < lg c v ∧ nI h + sy c v < dL c v (p + 1) then dL c v (p + 1) else nI h + sy c v) := by
    unfold arY
    rw [if_pos hc, hSS, hp]
  have epl : pl (arY c h v Y) v = p + 1 := by
    unfold pl
    rw [e, up_j (by omega), up_j (by omega), up_s, nI_clamp (by omega)]
  refine ⟨⟨?_, ?_, ?_, ?_, ?_, ?_, ?_⟩, ?_⟩
  · rw [epl, e, up_j (by omega), up_j (by omega), up_s]
  · rw [epl]; omega
  · left; rw [e, up_j (by omega), up_s]
  · rw [e, up_s]
    obtain ⟨s, -, s2, s3⟩ := cok_sy H hv
    by_cases g : p + 1 < lg c v ∧ nI h + sy c v < dL c v (p + 1)
    · rw [if_pos g]
      obtain ⟨d, d1, d2⟩ := cok_dL H hv (show p + 1 ≤ lg c v by omega)
      exact ⟨d, d2, Nat.le_trans d1 (by clear g e hSS hS epl; omega)⟩
    · rw [if_neg g, s3, nI_add]
      exact ⟨h + s, rfl, by omega⟩
  · intro q
    rw [e, up_j (by omega), up_s] at q
    exact absurd q (by decide)
  · have e1 : ∀ i, arY c h v Y 1 v i = if i = p + 1 then nI h else Y 1 v i := fun i => by rw [e]; simp [up_k, up_at]
    have e2 : ∀ i, arY c h v Y 2 v i = Y 2 v i := fun i => by rw [e]; simp [up_k]
    intro i
    rw [epl, e1, e2]
    refine ⟨?_, ?_⟩
    · by_cases g : i = p + 1
      · rw [if_pos g]; exact Or.inr ⟨h, rfl, Nat.le_refl _, by omega, by omega⟩
      · rw [if_neg g]
        rcases (y6 i).1 with q | ⟨t, q1, q2, q3, q4⟩
        · exact Or.inl q
        · exact Or.inr ⟨t, q1, q2, q3, by omega⟩
    · rcases (y6 i).2 with q | ⟨t, q1, q2, q3⟩
      · exact Or.inl q
      · refine Or.inr ⟨t, q1, q2, fun j t' hj ht' ht2 => ?_⟩
        rw [e1] at ht2
        by_cases g : j = p + 1
        · rw [if_pos g, nI_eq (by omega) (by omega)] at ht2
          omega
        · rw [if_neg g] at ht2
          exact q3 j t' hj ht' ht2
  · intro k i hk hi
    rw [epl] at hi
    have e2 : arY c h v Y (4 + k) v i = if i = p + 1 then S k else Y (4 + k) v i := by
      rw [e]
      rcases (show k = 0 ∨ k = 1 ∨ k = 2 ∨ k = 3 ∨ k = 4 by omega) with rfl | rfl | rfl | rfl | rfl <;> simp [up_k, up_at]
    rw [e2]
    by_cases g : i = p + 1
    · rw [if_pos g, g]
      obtain ⟨x, x1, x2⟩ := hS k hk
      exact ⟨x, x1, by omega⟩
    · rw [if_neg g]
      exact y7 k i hk (by omega)
  · intro q
    rw [e, up_j (by omega), up_s] at q
    exact absurd q (by decide)
theorem YV_dp {c : Cf} {h v : Nat} {Y : Sg} (H : Cok c) (hv : v < nv c) (hh : h ≤ 20000) (hY : YV c h Y v) (hn : Y 0 v 2 = 1 → ¬ Y 0 v 3 = nI h) : YV c h (dpY c h v Y) v ∧ ((dpY c h v Y) 0 v 2 = 1 → ¬ (dpY c h v Y) 0 v 3 = nI h) := by
  by_cases hc : Y 0 v 2 = 0 ∧ pl Y v < lg c v ∧ Y 0 v 1 ≤ nI h ∧ wai c h v Y = false
  rotate_left
  · rw [show dpY c h v Y = Y from if_neg hc]
    exact ⟨hY, hn⟩
  obtain ⟨y1, y2, y3, ⟨r, r1, r2⟩, y5, y6, y7⟩ := hY
  obtain ⟨c1, c2, c3, c4⟩ := hc
  have hlg := (H.2.1 v hv).1
  rw [r1] at c3
  have hrh : r ≤ h := by rw [nI_leI (by omega) (by omega)] at c3; exact c3
  obtain ⟨b, b1, b2⟩ := cok_bk H hv c2
  obtain ⟨q, q1, q2, q3⟩ := cok_lh H hv c2 (mon_lt h)
  have e : dpY c h v Y = up3 (up3 (up3 (up3 Y 2 v (pl Y v) (nI h)) 3 v (pl Y v) (nI (h - r))) 0 v 2 1) 0 v 3 (nI (h + q + b)) := by
    unfold dpY
    rw [if_pos ⟨c1, c2, by rw [r1]; exact c3, c4⟩, r1, b2, q3, pk_sub hrh, nI_add, nI_add]
  have epl : pl (dpY c h v Y) v = pl Y v := by
    unfold pl
    rw [e, up_j (by omega), up_j (by omega), up_k (by decide), up_k (by decide)]
  refine ⟨⟨?_, ?_, ?_, ?_, ?_, ?_, ?_⟩, ?_⟩
  · rw [epl, e, up_j (by omega), up_j (by omega), up_k (by decide), up_k (by decide)]; exact y1
  · rw [epl]; exact y2
  · right; rw [e, up_j (by omega), up_s]
  · rw [e, up_j (by omega), up_j (by omega), up_k (by decide), up_k (by decide)]; exact ⟨r, r1, r2⟩
  · intro _
    rw [epl, e]
    refine ⟨c2, ⟨h + q + b, up_s, by omega, by omega⟩, ⟨h, ?_, Nat.le_refl _⟩, h - r, ?_, by omega⟩
    · rw [up_k (by decide), up_k (by decide), up_k (by decide), up_s]
    · rw [up_k (by decide), up_k (by decide), up_s]
  · have e1 : ∀ i, dpY c h v Y 1 v i = Y 1 v i := fun i => by rw [e]; simp [up_k]
    have e2 : ∀ i, dpY c h v Y 2 v i = if i = pl Y v then nI h else Y 2 v i := fun i => by rw [e]; simp [up_k, up_at]
    intro i
    rw [epl, e1, e2]
    refine ⟨(y6 i).1, ?_⟩
    by_cases g : i = pl Y v
    · rw [if_pos g]
      refine Or.inr ⟨h, rfl, Nat.le_refl _, fun j t' hj ht' ht2 => ?_⟩
      rw [e1] at ht2
      rcases (y6 j).1 with z | ⟨t, z1, z2, z3, z4⟩
      · rw [z] at ht2
        exact absurd ht2.symm (nIm1 (by omega))
      · omega
    · rw [if_neg g]
      rcases (y6 i).2 with q | ⟨t, q1, q2, q3⟩
      · exact Or.inl q
      · refine Or.inr ⟨t, q1, q2, fun j t' hj ht' ht2 => ?_⟩
        rw [e1] at ht2
        exact q3 j t' hj ht' ht2
  · intro k i hk hi
    rw [epl] at hi
    rw [e, up_k (by omega), up_k (by omega), up_k (by omega), up_k (by omega)]
    exact y7 k i hk hi
  · intro _ g
    rw [e, up_s] at g
    rw [nI_eq (by omega) (by omega)] at g
    omega
