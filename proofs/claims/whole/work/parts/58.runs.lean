/-! the reference: runs() is the run of the configuration -/
def rK : List Nat := [73, 74, 75, 76, 77, 78, 79, 80, 81, 82, 83]
theorem CM_r {c : Cf} {s s' : Sg} (h : Ag rK s' s) (H : CM s c) : CM s' c := CM_congr (fun k hk => h k (by revert k; decide)) (by rw [h 10 (by decide)]) (by rw [h 10 (by decide)]) H
theorem Ag.r {l : List Nat} {a b c : Sg} (h : Ag l a b) (h' : Ag rK b c) (hl : ∀ k, k ∈ l → k ∈ rK) : Ag rK a c := (h.sub hl).trans h' _ (fun k hk => ⟨hk, hk⟩)
theorem MSv_of {s Y Y' : Sg} {u : Nat} (e : ∀ k, Y' k u = Y k u) (H : MSv s Y u) : MSv s Y' u := by
  unfold MSv at H ⊢
  simp only [e]
  exact H
theorem e_arr (k142 k293 : Int32 → Int32 → Sg → Option Sg) {c : Cf} {s Y : Sg} {h v : Nat} {P : Sg → Prop} (H : CM s c) (hM : ∀ u, u < nv c → MSv s Y u) (hY : ∀ u, u < nv c → YV c h Y u) (hv : v < nv c) (hh : h ≤ 20000) (hK : ∀ s', Ag rK s' s → (∀ u, u < nv c → MSv s' (arY c h v Y) u) → Ok (k142 (nI h) (nI (v + 1)) s') P) : Ok (f_X10_runs_B142 k142 k293 (nI h) (nI v) s) P := by
  have hv10 := H.1.1
  have hlg := (H.1.2.1 v hv).1
  have hln := (H.1.2.1 v hv).2.1
  obtain ⟨m1, m2, m3, m4, m5⟩ := hM v hv
  obtain ⟨y1, y2, y3, y4, y5, y6, y7⟩ := hY v hv
  unfold f_X10_runs_B142
  rw [H.2.1]
  refine ok_neg (nI_ge hv (by omega)) (ok_gi v rfl (by omega) ?_)
  rw [nI_clamp (show v < 2 ^ 31 by omega), m3]
  rcases y3 with g | g
  · refine ok_pos g ?_
    rw [nI_1]
    have e : arY c h v Y = Y := if_neg (fun q => by rw [g] at q; exact absurd q.1 (by decide))
    rw [e] at hK
    exact hK s Ag.rfl hM
  refine ok_neg (by rw [g]; decide) (ok_gi v rfl (by omega) ?_)
  rw [m4 g]
  refine ok_ite (fun g2 => ?_) (fun g2 => ?_)
  rotate_left
  · rw [nI_1]
    have e : arY c h v Y = Y := if_neg (fun q => g2 q.2)
    rw [e] at hK
    exact hK s Ag.rfl hM
  obtain ⟨p1, -, ⟨t, t1, t2⟩, w, w1, w2⟩ := y5 g
  have hsh := shs_eq (c := c) (h := h) (v := v) (t := t) (Y := Y) t1 (by omega)
  have hSb : UB (shs c h v Y) (100000 * pl Y v + 100000) := by
    rw [hsh, t1, w1]
    obtain ⟨x, -, x2, x3⟩ := cok_th H.1 hv p1
    rw [x3]
    exact UB_shF (by omega) (fun k hk => y7 k (pl Y v) hk (by omega)) w2 hh t2 x2 (mlin_lt H.1 hv p1) hln
  have ea : arY c h v Y = up3 (up3 (up3 (up3 (up3 (up3 (up3 (up3 (up3 Y 4 v (pl Y v + 1) (shs c h v Y 0)) 5 v (pl Y v + 1) (shs c h v Y 1)) 6 v (pl Y v + 1) (shs c h v Y 2)) 7 v (pl Y v + 1) (shs c h v Y 3)) 8 v (pl Y v + 1) (shs c h v Y 4)) 1 v (pl Y v + 1) (nI h)) 0 v 0 (nI (pl Y v + 1))) 0 v 2 0) 0 v 1 (if pl Y v + 1 < lg c v ∧ nI h + sy c v < dL c v (pl Y v + 1) then dL c v (pl Y v + 1) else nI h + sy c v) := if_pos ⟨g, g2⟩
  generalize hp : pl Y v = p at *
  refine ok_gi v rfl (by omega) (ok_S (ok_gi v rfl (by omega) (ok_gi v rfl (by omega) (ok_S (ok_gi v rfl (by omega) (ok_I ?_))))))
  rw [show vp_nar .boolean 0 = 0 from rfl, up_k (show ¬ (80 : Nat) = 83 by decide), m1, y1, nI_1, up_s, L_7, pk_mul, nI_add]
  refine ok_gi _ rfl (by omega) (ok_S ?_)
  rw [nI_clamp (show 7 * v + (p + 1) < 2 ^ 31 by omega)]
  generalize hs11 : up3 (up3 (up3 s 83 0 v 0) 80 0 v (nI (p + 1))) 75 0 (7 * v + (p + 1)) (nI h) = s11
  have ag11 : Ag [75, 80, 83] s11 s := by
    rw [← hs11]
    exact ((Ag.rfl.up (by decide)).up (by decide)).up (by decide)
  have H11 : CM s11 c := CM_r (Ag.r ag11 Ag.rfl (by decide)) H
  have hm5 := m5 p (by omega)
  refine ok_bind (e_sharesAt (S0 := fun k => Y (4 + k) v p) (w := nI w) H11 hv p1 hh (by rw [ag11 76 (by decide), hm5.2.1]; exact t1) (by omega) (by rw [ag11 77 (by decide), hm5.2.2.1]; exact w1) ⟨by rw [ag11 78 (by decide)]; exact hm5.2.2.2.1, fun l hl => by rw [ag11 79 (by decide), hm5.2.2.2.2 l hl]; show Y (5 + l) v p = Y (4 + (1 + l)) v p; rw [show 4 + (1 + l) = 5 + l by omega]⟩ (fun _ k hk => ?_)) (fun q hq => ?_)
  · rw [← w1, ← t1, ← hsh]
    exact UB_nn hSb (by omega) hk
  obtain ⟨q1, q2, q3⟩ := hq
  rw [← w1, ← t1, ← hsh] at q1
  have agq : Ag rK q s := Ag.r q3 (Ag.r ag11 Ag.rfl (by decide)) (by decide)
  have Hq : CM q c := CM_r agq H
  -- the end: the new ready hour
  have fin : ∀ rd : Int32, (if p + 1 < lg c v ∧ nI h + sy c v < dL c v (p + 1) then dL c v (p + 1) else nI h + sy c v) = rd → Ok (k142 (nI h) (nI v + 1) (up3 q 81 0 v rd)) P := by
    intro rd hrd
    rw [nI_1]
    refine hK _ (agq.up (by decide)) (fun u hu => ?_)
    have hu10 : u < 10 := by omega
    obtain ⟨n1, n2, n3, n4, n5⟩ := hM u hu
    by_cases huv : u = v
    · subst huv
      rw [ea, hrd]
      refine ⟨?_, ?_, ?_, ?_, fun i hi => ⟨?_, ?_, ?_, ?_, fun l hl => ?_⟩⟩
      · rw [up_k (by decide), q3 80 (by decide), ← hs11, up_k (by decide), up_s, up_j (by decide), up_j (by decide), up_s]
      · rw [up_s, up_s]
      · rw [up_k (by decide), q3 83 (by decide), ← hs11, up_k (by decide), up_k (by decide), up_s, up_j (by decide), up_s]
      · intro z
        rw [up_j (by decide), up_s] at z
        exact absurd z (by decide)
      · rw [up_k (by decide), q3 75 (by decide), ← hs11, up_at, up_k (show ¬ (75 : Nat) = 80 by decide), up_k (show ¬ (75 : Nat) = 83 by decide), (n5 i hi).1]
        by_cases z : i = p + 1
        · rw [if_pos (by omega)]; simp [up_k, up_at, z]
        · rw [if_neg (by omega)]; simp [up_k, up_at, z]
      · rw [up_k (by decide), q3 76 (by decide), ag11 76 (by decide), (n5 i hi).2.1]
        simp [up_k]
      · rw [up_k (by decide), q3 77 (by decide), ag11 77 (by decide), (n5 i hi).2.2.1]
        simp [up_k]
      · rw [up_k (by decide)]
        by_cases z : i = p + 1
        · rw [z, show 7 * u + (p + 1) = 7 * u + p + 1 by omega, q1.1]
          simp [up_k, up_at]
        · rw [q2.1 _ (by omega), ag11 78 (by decide), (n5 i hi).2.2.2.1]
          simp [up_k, up_at, z]
      · rw [up_k (by decide)]
        by_cases z : i = p + 1
        · rw [z, show 7 * u + (p + 1) = 7 * u + p + 1 by omega, q1.2 l hl]
          rcases (show l = 0 ∨ l = 1 ∨ l = 2 ∨ l = 3 by omega) with rfl | rfl | rfl | rfl <;> simp [up_k, up_at]
        · rw [q2.2 _ (by omega), ag11 79 (by decide), (n5 i hi).2.2.2.2 l hl]
          rcases (show l = 0 ∨ l = 1 ∨ l = 2 ∨ l = 3 by omega) with rfl | rfl | rfl | rfl <;> simp [up_k, up_at, z]
    · refine MSv_of (fun k => arY_o huv) ?_
      refine ⟨?_, ?_, ?_, ?_, fun i hi => ⟨?_, ?_, ?_, ?_, fun l hl => ?_⟩⟩
      · rw [up_k (by decide), q3 80 (by decide), ← hs11, up_k (by decide), up_j huv, up_k (by decide)]; exact n1
      · rw [up_j huv, q3 81 (by decide), ag11 81 (by decide)]; exact n2
      · rw [up_k (by decide), q3 83 (by decide), ← hs11, up_k (by decide), up_k (by decide), up_j huv]; exact n3
      · rw [up_k (by decide), q3 82 (by decide), ag11 82 (by decide)]; exact n4
      · rw [up_k (by decide), q3 75 (by decide), ← hs11, up_j (by omega), up_k (by decide), up_k (by decide)]; exact (n5 i hi).1
      · rw [up_k (by decide), q3 76 (by decide), ag11 76 (by decide)]; exact (n5 i hi).2.1
      · rw [up_k (by decide), q3 77 (by decide), ag11 77 (by decide)]; exact (n5 i hi).2.2.1
      · rw [up_k (by decide), q2.1 _ (by omega), ag11 78 (by decide)]; exact (n5 i hi).2.2.2.1
      · rw [up_k (by decide), q2.2 _ (by omega), ag11 79 (by decide)]; exact (n5 i hi).2.2.2.2 l hl
  have q52 : q 52 0 v = nI (lg c v) := (Hq.2.2.1 v hv).1.1
  have q50 : q 50 0 v = sy c v := (Hq.2.2.1 v hv).1.2.2.1
  have end1 : Ok (f_X10_runs_B276 k142 k293 (nI h) (nI v) (nI v) q) P ↔ Ok (k142 (nI h) (nI v + 1) (up3 q 81 0 v (nI h + sy c v))) P := by
    unfold f_X10_runs_B276
    rw [chk, if_pos (gi_nI (by omega) (by decide)), chk, if_pos (gi_nI (by omega) (by decide)), nI_clamp (show v < 2 ^ 31 by omega), q50]
    exact Iff.rfl
  refine ok_gi v rfl (by omega) ?_
  rw [q52]
  refine ok_ite (fun g3 => ?_) (fun g3 => ?_)
  · rw [nI_leI (by omega) (by omega)] at g3
    unfold f_X10_runs_B238
    rw [L_1, pk_sub (by omega), show p + 1 - 1 = p by omega]
    refine ok_call (e_dL Hq hv (by omega)) (ok_gi v rfl (by omega) ?_)
    rw [nI_clamp (show v < 2 ^ 31 by omega)]
    refine ok_pos (show q 52 0 v ≤ nI (p + 1) by rw [q52]; exact nI_le (by omega) (by omega)) (end1.mpr (fin _ (if_neg (by omega))))
  · rw [nI_leI (by omega) (by omega)] at g3
    unfold f_X10_runs_B238
    refine ok_call (e_dL Hq hv (by omega)) (ok_gi v rfl (by omega) ?_)
    rw [nI_clamp (show v < 2 ^ 31 by omega)]
    refine ok_neg (show ¬ q 52 0 v ≤ nI (p + 1) by rw [q52]; exact nI_ge (by omega) (by omega)) (ok_gi v rfl (by omega) ?_)
    refine ok_ite (fun g4 => ?_) (fun g4 => ?_) <;> dsimp only at g4 <;> rw [q50] at g4
    · exact end1.mpr (fin _ (if_neg (fun z => absurd z.2 (Int32.not_lt.mpr g4))))
    · exact ok_gi v rfl (by omega) (ok_S (fin _ (if_pos ⟨by omega, Int32.not_le.mp g4⟩)))
theorem e_dep (k293 : Int32 → Int32 → Sg → Option Sg) (k133 : Int32 → Sg → Option Sg) {c : Cf} {s Y : Sg} {h v : Nat} {P : Sg → Prop} (H : CM s c) (hM : ∀ u, u < nv c → MSv s Y u) (hY : ∀ u, u < nv c → YV c h Y u) (hv : v < nv c) (hh : h ≤ 20000) (hK : ∀ s', Ag rK s' s → (∀ u, u < nv c → MSv s' (dpY c h v Y) u) → Ok (k293 (nI h) (nI (v + 1)) s') P) : Ok (f_X10_runs_B293 k293 k133 (nI h) (nI v) s) P := by
  have hv10 := H.1.1
  have hlg := (H.1.2.1 v hv).1
  obtain ⟨m1, m2, m3, m4, m5⟩ := hM v hv
  obtain ⟨y1, y2, y3, ⟨r, r1, r2⟩, y5, y6, y7⟩ := hY v hv
  have stay : ∀ s', Ag [73, 74] s' s → dpY c h v Y = Y → Ok (k293 (nI h) (nI v + 1) s') P := by
    intro s' hag e
    rw [nI_1]
    rw [e] at hK
    refine hK s' (hag.r Ag.rfl (by decide)) (fun u hu => ?_)
    unfold MSv
    rw [hag 80 (by decide), hag 81 (by decide), hag 83 (by decide), hag 82 (by decide), hag 75 (by decide), hag 76 (by decide), hag 77 (by decide), hag 78 (by decide), hag 79 (by decide)]
    exact hM u hu
  unfold f_X10_runs_B293
  rw [H.2.1]
  refine ok_neg (nI_ge hv (by omega)) (ok_gi v rfl (by omega) ?_)
  rw [nI_clamp (show v < 2 ^ 31 by omega), m3]
  refine ok_ite (fun g => ?_) (fun g => ?_)
  rotate_left
  · exact stay s Ag.rfl (if_neg (fun q => g q.1))
  refine ok_gi v rfl (by omega) (ok_gi v rfl (by omega) ?_)
  rw [(H.2.2.1 v hv).1.1, m1, y1]
  refine ok_ite (fun g2 => ?_) (fun g2 => ?_)
  · rw [nI_leI (by omega) (by omega)] at g2
    exact stay s Ag.rfl (if_neg (fun q => by omega))
  rw [nI_leI (by omega) (by omega)] at g2
  refine ok_gi v rfl (by omega) ?_
  rw [m2]
  refine ok_ite (fun g3 => ?_) (fun g3 => ?_)
  · exact stay s Ag.rfl (if_neg (fun q => absurd q.2.2.1 (Int32.not_le.mpr g3)))
  refine ok_bind (e_waits H hv hM hY hh (by omega)) (fun q hq => ?_)
  rw [hq.1]
  refine ok_ite (fun g4 => ?_) (fun g4 => ?_)
  rotate_left
  · exact stay q.2 hq.2 (if_neg (fun z => g4 (by rw [z.2.2.2]; rfl)))
  have ed : dpY c h v Y = up3 (up3 (up3 (up3 Y 2 v (pl Y v) (nI h)) 3 v (pl Y v) (nI h - Y 0 v 1)) 0 v 2 1) 0 v 3 (nI h + lh c (mon h) v (pl Y v) + bk c v (pl Y v)) := if_pos ⟨g, by omega, Int32.not_lt.mp g3, (bI0 _).mp g4⟩
  have Hq : CM q.2 c := CM_r (hq.2.r Ag.rfl (by decide)) H
  refine ok_call (e_sails (p := pl Y v) (rd := Y 0 v 1) Hq hv (by omega) hh (by rw [hq.2 80 (by decide), m1]; exact y1) (by rw [hq.2 81 (by decide)]; exact m2)) ?_
  rw [nI_1]
  generalize hp : pl Y v = p at *
  refine hK _ (((((hq.2.r Ag.rfl (by decide)).up (by decide)).up (by decide)).up (by decide)).up (by decide)) (fun u hu => ?_)
  have hu10 : u < 10 := by omega
  obtain ⟨n1, n2, n3, n4, n5⟩ := hM u hu
  by_cases huv : u = v
  · subst huv
    rw [ed]
    refine ⟨?_, ?_, ?_, ?_, fun i hi => ⟨?_, ?_, ?_, ?_, fun l hl => ?_⟩⟩
    · rw [up_k (by decide), up_k (by decide), up_k (by decide), up_k (by decide), hq.2 80 (by decide), n1]; simp [up_k, up_at]
    · rw [up_k (by decide), up_k (by decide), up_k (by decide), up_k (by decide), hq.2 81 (by decide), n2]; simp [up_k, up_at]
    · rw [up_k (by decide), up_s, up_j (by decide), up_s]
    · intro _; rw [up_s, up_s]
    · rw [up_k (by decide), up_k (by decide), up_k (by decide), up_k (by decide), hq.2 75 (by decide), (n5 i hi).1]; simp [up_k]
    · rw [up_k (by decide), up_k (by decide), up_k (by decide), up_at, hq.2 76 (by decide), (n5 i hi).2.1]
      by_cases z : i = p
      · rw [if_pos (by omega)]; simp [up_k, up_at, z]
      · rw [if_neg (by omega)]; simp [up_k, up_at, z]
    · rw [up_k (by decide), up_k (by decide), up_at, up_k (by decide), hq.2 77 (by decide), (n5 i hi).2.2.1]
      by_cases z : i = p
      · rw [if_pos (by omega)]; simp [up_k, up_at, z]
      · rw [if_neg (by omega)]; simp [up_k, up_at, z]
    · rw [up_k (by decide), up_k (by decide), up_k (by decide), up_k (by decide), hq.2 78 (by decide), (n5 i hi).2.2.2.1]; simp [up_k]
    · rw [up_k (by decide), up_k (by decide), up_k (by decide), up_k (by decide), hq.2 79 (by decide), (n5 i hi).2.2.2.2 l hl]
      rcases (show l = 0 ∨ l = 1 ∨ l = 2 ∨ l = 3 by omega) with rfl | rfl | rfl | rfl <;> simp [up_k]
  · refine MSv_of (fun k => dpY_o huv) ?_
    refine ⟨?_, ?_, ?_, ?_, fun i hi => ⟨?_, ?_, ?_, ?_, fun l hl => ?_⟩⟩
    · rw [up_k (by decide), up_k (by decide), up_k (by decide), up_k (by decide), hq.2 80 (by decide)]; exact n1
    · rw [up_k (by decide), up_k (by decide), up_k (by decide), up_k (by decide), hq.2 81 (by decide)]; exact n2
    · rw [up_k (by decide), up_j huv, up_k (by decide), up_k (by decide), hq.2 83 (by decide)]; exact n3
    · rw [up_j huv, up_k (by decide), up_k (by decide), up_k (by decide), hq.2 82 (by decide)]; exact n4
    · rw [up_k (by decide), up_k (by decide), up_k (by decide), up_k (by decide), hq.2 75 (by decide)]; exact (n5 i hi).1
    · rw [up_k (by decide), up_k (by decide), up_k (by decide), up_j (by omega), hq.2 76 (by decide)]; exact (n5 i hi).2.1
    · rw [up_k (by decide), up_k (by decide), up_j (by omega), up_k (by decide), hq.2 77 (by decide)]; exact (n5 i hi).2.2.1
    · rw [up_k (by decide), up_k (by decide), up_k (by decide), up_k (by decide), hq.2 78 (by decide)]; exact (n5 i hi).2.2.2.1
    · rw [up_k (by decide), up_k (by decide), up_k (by decide), up_k (by decide), hq.2 79 (by decide)]; exact (n5 i hi).2.2.2.2 l hl
