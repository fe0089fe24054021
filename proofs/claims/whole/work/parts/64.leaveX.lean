/-! the class: leavePort(), waitHours() of the course, isAwaiting() -/
theorem e_leaveX {c : Cf} {s : Sg} {h v p : Nat} {rd : Int32} {S0 : Nat → Int32} (H : CX s c) (hv : v < nv c) (hp : p < lg c v) (hh : h ≤ 20000) (h5 : s 6 v 5 = nI p) (h7 : s 6 v 7 = rd) (hF : HF s v S0) : Ok (f_X3_leavePort (nI v) (nI h) s) (fun s' => Ag [6, 31, 32, 34] s' s ∧ Ro 6 v s' s ∧ Ro 31 v s' s ∧ Ro 32 v s' s ∧ Ro 34 v s' s ∧ s' 6 v 5 = nI p ∧ s' 6 v 6 = 1 ∧ s' 6 v 8 = nI h + lh c (mon h) v p + bk c v p ∧ (∀ i, s' 31 v i = if i = p then nI h else s 31 v i) ∧ (∀ i, s' 32 v i = if i = p then nI h - rd else s 32 v i) ∧ HF s' v (wS S0 (nI h - rd) (mlin c v p))) := by
  have hv10 := H.1.1
  have hlg := (H.1.2.1 v hv).1
  have hp12 := ((H.1.2.1 v hv).2.2.2.2.2.2 p hp).1
  obtain ⟨l1, l2, l3, l4, l5, l6⟩ := (H.2.2.1 v hv).2.1 p hp
  obtain ⟨w1, w2, w3⟩ := l6 (mon h) (mon_lt h)
  unfold f_X3_leavePort
  refine ok_gi v rfl (by omega) (ok_gi v rfl (by omega) ?_)
  rw [nI_clamp (show v < 2 ^ 31 by omega), h5]
  refine ok_I (ok_gi p rfl (by omega) ?_)
  rw [nI_clamp (show p < 2 ^ 31 by omega), l1]
  refine ok_I (ok_call (e_wiX H hv hp (by omega)) (ok_I (ok_gi _ rfl (by omega) ?_)))
  dsimp only
  rw [nI_clamp (show pg c v p < 2 ^ 31 by omega)]
  have hup : f_X9_hoursFor (100 * s 16 0 (pg c v p)) (s 8 v 1 * (100 + wd c (mon h) v p)) s = some (lh c (mon h) v p, s) := by
    unfold f_X9_hoursFor
    have hne : ¬ s 8 v 1 * (100 + wd c (mon h) v p) = 0 := fun e => by rw [e] at w2; exact absurd w2 (by decide)
    rw [if_neg (Int32.not_le.mpr w2), chk, if_pos (decide_eq_true hne), w3]
  refine ok_call hup (ok_gi p rfl (by omega) ?_)
  dsimp only
  rw [l3]
  -- putToSea
  generalize hs6 : up3 (up3 (up3 (up3 s 31 v p (nI h)) 32 v p (nI h - rd)) 6 v 6 1) 6 v 8 (nI h + (lh c (mon h) v p + bk c v p)) = s6
  have hpts : f_X6_putToSea v (nI h) (lh c (mon h) v p + bk c v p) s = some s6 := by
    unfold f_X6_putToSea
    rw [h5, chk, if_pos (gi_nI (by omega) (by decide)), nI_clamp (show p < 2 ^ 31 by omega)]
    dsimp only [bdS]
    rw [up_k (show ¬ (6 : Nat) = 31 by decide), h5, chk, if_pos (gi_nI (by omega) (by decide)), nI_clamp (show p < 2 ^ 31 by omega), h7, hs6]
  refine ok_call hpts (ok_gi p rfl (by omega) ?_)
  have ag6 : Ag [6, 31, 32] s6 s := by
    rw [← hs6]
    exact (((Ag.rfl.up (by decide)).up (by decide)).up (by decide)).up (by decide)
  have post : ∀ s' : Sg, Ag [34] s' s6 → Ro 34 v s' s6 → HF s' v (wS S0 (nI h - rd) (mlin c v p)) → (Ag [6, 31, 32, 34] s' s ∧ Ro 6 v s' s ∧ Ro 31 v s' s ∧ Ro 32 v s' s ∧ Ro 34 v s' s ∧ s' 6 v 5 = nI p ∧ s' 6 v 6 = 1 ∧ s' 6 v 8 = nI h + lh c (mon h) v p + bk c v p ∧ (∀ i, s' 31 v i = if i = p then nI h else s 31 v i) ∧ (∀ i, s' 32 v i = if i = p then nI h - rd else s 32 v i) ∧ HF s' v (wS S0 (nI h - rd) (mlin c v p))) := by
    intro s' a b d
    refine ⟨(a.sub (m := [6, 31, 32, 34]) (by decide)).trans (ag6.sub (m := [6, 31, 32, 34]) (by decide)) _ (fun k hk => ⟨hk, hk⟩), ?_, ?_, ?_, ?_, ?_, ?_, ?_, fun i => ?_, fun i => ?_, d⟩
    · refine (Ro.of (a 6 (by decide))).trans ?_
      rw [← hs6]; exact Ro.up (Ro.up (Ro.up (Ro.up Ro.rfl)))
    · refine (Ro.of (a 31 (by decide))).trans ?_
      rw [← hs6]; exact Ro.up (Ro.up (Ro.up (Ro.up Ro.rfl)))
    · refine (Ro.of (a 32 (by decide))).trans ?_
      rw [← hs6]; exact Ro.up (Ro.up (Ro.up (Ro.up Ro.rfl)))
    · exact b.trans (Ro.of (ag6 34 (by decide)))
    · rw [a 6 (by decide), ← hs6, up_j (by decide), up_j (by decide), up_k (by decide), up_k (by decide)]; exact h5
    · rw [a 6 (by decide), ← hs6, up_j (by decide), up_s]
    · rw [a 6 (by decide), ← hs6, up_s, Int32.add_assoc]
    · rw [a 31 (by decide), ← hs6, up_k (by decide), up_k (by decide), up_k (by decide), up_at]
    · rw [a 32 (by decide), ← hs6, up_k (by decide), up_k (by decide), up_at, up_k (by decide)]
  have hF6 : HF s6 v S0 := fun k hk => by rw [ag6 34 (by decide)]; exact hF k hk
  rw [ag6 40 (by decide)]
  unfold mlin at post ⊢
  unfold CXo at l4
  cases hm : mt c v p with
  | none =>
    rw [hm] at l4 post
    dsimp only at l4
    rw [l4]
    exact ok_I (ok_pos rfl (ok_some (post s6 Ag.rfl Ro.rfl hF6)))
  | some q =>
    obtain ⟨u, j⟩ := q
    rw [hm] at l4 post
    dsimp only at l4
    obtain ⟨hu, -, -⟩ := ((H.1.2.1 v hv).2.2.2.2.2.2 p hp).2.2.2.2.2.2 u j hm
    have hlu := (H.1.2.1 u hu).2.1
    rw [l4.1]
    refine ok_I (ok_neg (nIm1 (by omega)) (ok_gi u rfl (by omega) ?_))
    rw [nI_clamp (show u < 2 ^ 31 by omega), ag6 8 (by decide), (H.2.2.1 u hu).1.1, L_1, nI_add]
    refine ok_gi _ rfl (by omega) (ok_gi p rfl (by omega) (ok_gi _ rfl (by omega) (ok_S (ok_some ?_))))
    rw [nI_clamp (show 1 + ln c u < 2 ^ 31 by omega), hF6 _ (show 1 + ln c u < 5 by omega)]
    have e32 : s6 32 v p = nI h - rd := by rw [← hs6, up_k (by decide), up_k (by decide), up_s]
    rw [e32]
    exact post _ (Ag.rfl.up (by decide)) (Ro.up Ro.rfl) (show HF _ v (upd S0 (1 + ln c u) (S0 (1 + ln c u) + (nI h - rd))) from hF6.up)
/-- the facts of an hour later in the month -/
theorem mon_add {h d : Nat} (hd : d < 720 - h % 720) : mon (h + d) = mon h := by
  unfold mon
  have : (h + d) / 720 = h / 720 := by omega
  rw [this]
theorem fW_shf {c : Cf} {Y : Sg} {h v u j d : Nat} (hd : d < 720 - h % 720) : fW c Y (h + d) v u j = shf d (fW c Y h v u j) := by
  funext k
  unfold fW shf
  rw [mon_add hd]
  match k with
  | 0 =>
    rw [if_pos (Or.inl rfl)]
    show nI (h + d) - dC c u j = nI h - dC c u j + nI d
    rw [← nI_add, Int32.sub_eq_add_neg, Int32.sub_eq_add_neg, Int32.add_assoc, Int32.add_assoc, Int32.add_comm (nI d)]
  | 1 =>
    rw [if_pos (Or.inr rfl)]
    show nI (h + d) - Y 0 v 1 = nI h - Y 0 v 1 + nI d
    rw [← nI_add, Int32.sub_eq_add_neg, Int32.sub_eq_add_neg, Int32.add_assoc, Int32.add_assoc, Int32.add_comm (nI d)]
  | 2 => rw [if_neg (by omega)]; rfl
  | 3 => rw [if_neg (by omega)]; rfl
  | k + 4 => rw [if_neg (by omega)]; rfl
theorem fW_xb {c : Cf} {Y : Sg} {h v u j r : Nat} (H : Cok c) (hu : u < nv c) (hj1 : 1 ≤ j) (hj2 : j ≤ lg c u) (hh : h ≤ 20000) (hr : Y 0 v 1 = nI r) (hrh : r ≤ h) : xb (fW c Y h v u j) := by
  intro k hk
  have hlu := (H.2.1 u hu).1
  rcases (show k = 0 ∨ k = 1 by omega) with rfl | rfl
  · show -1000000 ≤ (nI h - dC c u j).toInt ∧ (nI h - dC c u j).toInt ≤ 1000000
    obtain ⟨j', rfl⟩ : ∃ j', j = j' + 1 := ⟨j - 1, by omega⟩
    obtain ⟨y, y1, y2⟩ := cok_dC H hu (show j' < lg c u by omega)
    rw [y2, pk_sub_toInt (by omega) (by omega)]
    omega
  · show -1000000 ≤ (nI h - Y 0 v 1).toInt ∧ (nI h - Y 0 v 1).toInt ≤ 1000000
    rw [hr, pk_sub_toInt (by omega) (by omega)]
    omega
theorem e_waitCX {c : Cf} {s Y : Sg} {h v p u j r : Nat} (H : CX s c) (hv : v < nv c) (hp : p < lg c v) (hh : h ≤ 20000) (h5 : s 6 v 5 = nI p) (h7 : s 6 v 7 = nI r) (hrh : r ≤ h) (hY : Y 0 v 1 = nI r) (hpl : pl Y v = p) (hm : mt c v p = some (u, j)) : ∃ m, Ok (f_X3_waitHours (nI v) (nI h) s) (fun q => q.1 = nI m ∧ Ag [24] q.2 s) ∧ m ≤ 720 - h % 720 ∧ (m = 0 → waC (fW c Y h v u j) (ct c (ln c v)) = false) ∧ ∀ d, d < m → waC (fW c Y (h + d) v u j) (ct c (ln c v)) = true := by
  have hv10 := H.1.1
  have hlg := (H.1.2.1 v hv).1
  have hln := (H.1.2.1 v hv).2.1
  obtain ⟨l1, l2, l3, l4, -⟩ := (H.2.2.1 v hv).2.1 p hp
  obtain ⟨hu, hj1, hj2⟩ := ((H.1.2.1 v hv).2.2.2.2.2.2 p hp).2.2.2.2.2.2 u j hm
  have hlu := (H.1.2.1 u hu).1
  obtain ⟨o, o1, o2, o3⟩ := H.2.2.2 _ hln
  rw [hm] at l4
  obtain ⟨l4, l5⟩ := l4
  -- the facts are laid out
  generalize hsx : up3 (up3 (up3 (up3 (up3 s 24 0 0 (nI h - dC c u j)) 24 0 1 (nI h - nI r)) 24 0 2 (wd c (mon h) v p)) 24 0 3 (bk c v p)) 24 0 4 (nI (mon h)) = sx
  have agx : Ag [24] sx s := by
    rw [← hsx]
    exact ((((Ag.rfl.up (by decide)).up (by decide)).up (by decide)).up (by decide)).up (by decide)
  have hxf : XF sx (fW c Y h v u j) := by
    have := XF5 s (nI h - dC c u j) (nI h - nI r) (wd c (mon h) v p) (bk c v p) (nI (mon h))
    rw [hsx] at this
    intro k hk
    rw [this k hk]
    unfold fW
    rw [hY, hpl]
    rcases (show k = 0 ∨ k = 1 ∨ k = 2 ∨ k = 3 ∨ k = 4 by omega) with rfl | rfl | rfl | rfl | rfl <;> rfl
  have ht : fW c Y h v u j 1 = nI (h - r) := by
    show nI h - Y 0 v 1 = _
    rw [hY, pk_sub hrh]
  obtain ⟨m, m1, m2, m3, m4⟩ := e_waitX (s := sx) (o := o) (r := ct c (ln c v)) (x := fW c Y h v u j) ⟨by rw [agx 2 (by decide)]; exact o3.1, CXq_congr ⟨by rw [agx 21 (by decide)], by rw [agx 22 (by decide)], by rw [agx 23 (by decide)]⟩ ⟨by rw [agx 18 (by decide)], by rw [agx 19 (by decide)], by rw [agx 20 (by decide)]⟩ o3.2⟩ (H.1.2.2 _ hln).1 (H.1.2.2 _ hln).2 hxf (fW_xb H.1 hu hj1 hj2 hh hY hrh) hh ht (by omega)
  refine ⟨m, ?_, m2, m3, fun d hd => by rw [fW_shf (by omega)]; exact m4 d hd⟩
  unfold f_X3_waitHours
  refine ok_gi v rfl (by omega) (ok_gi v rfl (by omega) ?_)
  rw [nI_clamp (show v < 2 ^ 31 by omega), h5]
  refine ok_I (ok_gi p rfl (by omega) ?_)
  rw [nI_clamp (show p < 2 ^ 31 by omega), l4, l5]
  refine ok_gi u rfl (by omega) (ok_gi p rfl (by omega) (ok_gi j rfl (by omega) (ok_gi 0 rfl (by omega) (ok_S (ok_gi 1 rfl (by omega) (ok_S (ok_gi p rfl (by omega) ?_)))))))
  obtain ⟨j', rfl⟩ : ∃ j', j = j' + 1 := ⟨j - 1, by omega⟩
  rw [nI_clamp (show u < 2 ^ 31 by omega), nI_clamp (show j' + 1 < 2 ^ 31 by omega), tn_0, tn_1, ((H.2.2.1 u hu).2.1 j' (by omega)).2.2.2.2.1, up_k (show ¬ (6 : Nat) = 24 by decide), h7]
  have ag1 : Ag [24] (up3 (up3 s 24 0 0 (nI h - dC c u (j' + 1))) 24 0 1 (nI h - nI r)) s := (Ag.rfl.up (by decide)).up (by decide)
  rw [ag1 37 (by decide), l1]
  refine ok_call (e_wiX (CX_r (ag1.x Ag.rfl (by decide)) H) hv hp (by omega)) (ok_gi 2 rfl (by omega) (ok_S (ok_gi p rfl (by omega) (ok_gi 3 rfl (by omega) (ok_S ?_)))))
  dsimp only
  have ag2 := Ag.up (k := 24) (i := 0) (j := 2) (x := wd c (mon h) v p) ag1 (by decide)
  rw [tn_2, tn_3, ag2 39 (by decide), l3]
  refine ok_call (e_monX _ (by omega)) (ok_gi 4 rfl (by omega) (ok_S ?_))
  dsimp only
  rw [tn_4, hsx, agx 8 (by decide), agx 12 (by decide), (H.2.2.1 v hv).1.1]
  refine ok_gi _ rfl (by omega) ?_
  rw [nI_clamp (show ln c v < 2 ^ 31 by omega), o2, nI_clamp (show o < 2 ^ 31 by omega)]
  exact ok_d o1 (ok_call m1 (ok_some ⟨rfl, agx⟩))
theorem e_awX {c : Cf} {s Y : Sg} {v p : Nat} (H : CX s c) (hv : v < nv c) (hp : p < lg c v) (hc : ∀ u i, u < nv c → i < 7 → s 30 u i = Y 1 u i) : f_X3_isAwaiting v (nI p) s = some (bI (match mt c v p with
    | none => false
    | some (u, j) => decide (Y 1 u j = -1)), s) := by
  have hv10 := H.1.1
  have hlg := (H.1.2.1 v hv).1
  obtain ⟨l1, l2, l3, l4, -⟩ := (H.2.2.1 v hv).2.1 p hp
  unfold f_X3_isAwaiting
  rw [chk, if_pos (gi_nI (by omega) (by decide)), nI_clamp (show p < 2 ^ 31 by omega)]
  dsimp only [bdI]
  unfold CXo at l4
  cases hm : mt c v p with
  | none =>
    rw [hm] at l4
    dsimp only at l4 ⊢
    rw [l4, if_pos rfl]; rfl
  | some q =>
    obtain ⟨u, j⟩ := q
    rw [hm] at l4
    dsimp only at l4 ⊢
    obtain ⟨hu, hj1, hj2⟩ := ((H.1.2.1 v hv).2.2.2.2.2.2 p hp).2.2.2.2.2.2 u j hm
    have hlu := (H.1.2.1 u hu).1
    rw [l4.1, l4.2, if_neg (nIm1 (by omega)), chk, if_pos (gi_nI (by omega) (by decide)), chk, if_pos (gi_nI (by omega) (by decide)), chk, if_pos (gi_nI (by omega) (by decide)), nI_clamp (show u < 2 ^ 31 by omega), nI_clamp (show j < 2 ^ 31 by omega), hc u j hu (by omega)]
    by_cases g : Y 1 u j = -1
    · rw [if_pos g, decide_eq_true g]; rfl
    · rw [if_neg g, decide_eq_false g]; rfl
