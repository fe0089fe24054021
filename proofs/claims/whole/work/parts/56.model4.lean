/-! the reference: sharesAt(), sails() -/
theorem shs_eq {c : Cf} {h v t : Nat} {Y : Sg} (ht : Y 2 v (pl Y v) = nI t) (ht2 : t ≤ 20000) : shs c h v Y = shF (fun k => Y (4 + k) v (pl Y v)) (Y 3 v (pl Y v)) (nI h - Y 2 v (pl Y v) - th c v (pl Y v)) (mlin c v (pl Y v)) (exC (fXp c h v (pl Y v) t (Y 3 v (pl Y v))) (ct c (ln c v))) (ln c v) := by
  have e : fX c Y h v = fXp c h v (pl Y v) t (Y 3 v (pl Y v)) := by
    funext k
    unfold fX fXp
    rw [ht, nI_clamp (by omega)]
    rfl
  unfold shs
  rw [e]
theorem e_shC {s : Sg} {x : Nat} {F : Nat → Int32} {v i h : Int32} {P : Sg → Prop} (k126 : Int32 → Int32 → Int32 → Int32 → Int32 → Sg → Option Sg) (hx : x + 1 < 70) (hF : SH s x F) (h78 : s 78 0 (x + 1) = F 0) (hK : ∀ s', SH s' x F → SH s' (x + 1) F → SO s' s (x + 1) → Ag [79] s' s → ∀ n, Ok (f_X10_sharesAt_L33 k126 (n + 1) v i h (nI x) (nI (x + 1)) 4 s') P) : ∀ (d l n : Nat) (s1 : Sg), l + d = 4 → d < n → SH s1 x F → s1 78 0 (x + 1) = F 0 → (∀ m, m < l → s1 79 0 (4 * (x + 1) + m) = F (1 + m)) → SO s1 s (x + 1) → Ag [79] s1 s → Ok (f_X10_sharesAt_L33 k126 n v i h (nI x) (nI (x + 1)) (nI l) s1) P := by
  intro d
  induction d with
  | zero =>
    intro l n s1 h1 h2 h3 h4 h5 h6 h7
    obtain ⟨n, rfl⟩ : ∃ m, n = m + 1 := ⟨n - 1, by omega⟩
    have : l = 4 := by omega
    subst this
    exact hK s1 h3 ⟨h4, h5⟩ h6 h7 n
  | succ d ih =>
    intro l n s1 h1 h2 h3 h4 h5 h6 h7
    obtain ⟨n, rfl⟩ : ∃ m, n = m + 1 := ⟨n - 1, by omega⟩
    show Ok (f_X10_sharesAt_B33 _ _ _ _ _ _ _ _ _) _
    unfold f_X10_sharesAt_B33
    refine ok_neg (by rw [L_4]; exact nI_ge (by omega) (by omega)) ?_
    rw [L_4, pk_mul, nI_add, pk_mul, nI_add]
    refine ok_gi _ rfl (by omega) (ok_gi _ rfl (by omega) (ok_S ?_))
    rw [nI_clamp (show 4 * (x + 1) + l < 2 ^ 31 by omega), nI_clamp (show 4 * x + l < 2 ^ 31 by omega), h3.2 l (by omega), nI_1]
    refine ih (l + 1) n _ (by omega) (by omega) ⟨by rw [up_k (by decide)]; exact h3.1, fun m hm => by rw [up_j (by omega)]; exact h3.2 m hm⟩ (by rw [up_k (by decide)]; exact h4) (fun m hm => ?_) ((SO.up79 (by omega)).trans h6) (h7.up (by decide))
    by_cases e : m = l
    · subst e; rw [up_s]
    · rw [up_j (by omega)]; exact h5 m (by omega)
theorem e_sharesAt {c : Cf} {s : Sg} {h v p t : Nat} {w : Int32} {S0 : Nat → Int32} (H : CM s c) (hv : v < nv c) (hp : p < lg c v) (hh : h ≤ 20000) (ht : s 76 0 (7 * v + p) = nI t) (ht2 : t ≤ 20000) (hw : s 77 0 (7 * v + p) = w) (hF : SH s (7 * v + p) S0) (hnn : 0 < nI h - nI t - th c v p → ∀ k, k < 5 → ¬ shF S0 w (nI h - nI t - th c v p) (mlin c v p) (exC (fXp c h v p t w) (ct c (ln c v))) (ln c v) k < 0) : Ok (f_X10_sharesAt (nI v) (nI (p + 1)) (nI h) s) (fun s' => SH s' (7 * v + p + 1) (shF S0 w (nI h - nI t - th c v p) (mlin c v p) (exC (fXp c h v p t w) (ct c (ln c v))) (ln c v)) ∧ SO s' s (7 * v + p + 1) ∧ Ag [73, 74, 78, 79] s' s) := by
  have hv10 := H.1.1
  have hlg := (H.1.2.1 v hv).1
  have hln := (H.1.2.1 v hv).2.1
  have hmc : ∀ {s1 : Sg}, Ag [73, 74, 78, 79] s1 s → CM s1 c := fun {s1} hag => CM_congr (fun k hk => hag k (by revert k; decide)) (by rw [hag 10 (by decide)]) (by rw [hag 10 (by decide)]) H
  have agt : ∀ {a b : Sg} {l1 : List Nat}, Ag l1 a b → Ag [73, 74, 78, 79] b s → (∀ k, k ∈ l1 → k ∈ [73, 74, 78, 79]) → Ag [73, 74, 78, 79] a s := fun h1 h2 h3 => (h1.sub h3).trans h2 _ (fun k hk => ⟨hk, hk⟩)
  -- behind the waited hours: S1
  have main : ∀ (S1 : Nat → Int32) (s1 : Sg), (shF S0 w (nI h - nI t - th c v p) (mlin c v p) (exC (fXp c h v p t w) (ct c (ln c v))) (ln c v) = (if 0 < nI h - nI t - th c v p then (if exC (fXp c h v p t w) (ct c (ln c v)) then upd S1 0 (S1 0 + (nI h - nI t - th c v p)) else upd S1 (1 + ln c v) (S1 (1 + ln c v) + (nI h - nI t - th c v p))) else mkup S1 (-(nI h - nI t - th c v p)) (ln c v))) → SH s1 (7 * v + p + 1) S1 → SO s1 s (7 * v + p + 1) → Ag [73, 74, 78, 79] s1 s → Ok (f_X10_sharesAt_B126 (nI v) (nI (p + 1)) (nI h) (nI (7 * v + p)) (nI (7 * v + p + 1)) s1) (fun s' => SH s' (7 * v + p + 1) (shF S0 w (nI h - nI t - th c v p) (mlin c v p) (exC (fXp c h v p t w) (ct c (ln c v))) (ln c v)) ∧ SO s' s (7 * v + p + 1) ∧ Ag [73, 74, 78, 79] s' s) := by
    intro S1 s1 hsh hS1 hO1 hA1
    generalize hmr : nI h - nI t - th c v p = more at hsh hnn ⊢
    generalize hR : shF S0 w more (mlin c v p) (exC (fXp c h v p t w) (ct c (ln c v))) (ln c v) = RR at hsh hnn ⊢
    unfold f_X10_sharesAt_B126
    refine ok_gi _ rfl (by omega) ?_
    rw [nI_clamp (show 7 * v + p < 2 ^ 31 by omega), hA1 76 (by decide), ht, L_1, pk_sub (by omega), show p + 1 - 1 = p by omega]
    refine ok_call (e_tH (hmc hA1) hv hp) (ok_I ?_)
    dsimp only
    rw [hmr]
    have h48 : ∀ {s2 : Sg}, Ag [73, 74, 78, 79] s2 s → s2 48 0 v = nI (ln c v) := fun {s2} hag => by rw [hag 48 (by decide)]; exact (H.2.2.1 v hv).1.2.1
    refine ok_ite (fun g => ?_) (fun g => ?_)
    · rw [if_neg (Int32.not_lt.mpr g)] at hsh
      refine (e_mk (more := more) (by omega) (by omega) (h48 hA1) hln hS1).mono fun s' hs' => ⟨?_, hs'.2.1.trans hO1, agt hs'.2.2 hA1 (by decide)⟩
      have e : (if 0 ≤ more then 0 else -more) = -more := by
        by_cases q : 0 ≤ more
        · have : more = 0 := Int32.le_antisymm g q
          rw [if_pos q, this]; decide
        · rw [if_neg q]
      rw [e] at hs'
      rw [hsh]
      exact hs'.1
    · have hpos : 0 < more := Int32.not_le.mp g
      rw [if_pos hpos] at hsh
      have fin : ∀ (S2 : Nat → Int32) (s2 : Sg), RR = S2 → SH s2 (7 * v + p + 1) S2 → SO s2 s (7 * v + p + 1) → Ag [73, 74, 78, 79] s2 s → Ok (f_X10_sharesAt_B216 (nI v) (nI (7 * v + p + 1)) more s2) (fun s' => SH s' (7 * v + p + 1) RR ∧ SO s' s (7 * v + p + 1) ∧ Ag [73, 74, 78, 79] s' s) := by
        intro S2 s2 e2 hS2 hO2 hA2
        refine (e_mk (more := more) (by omega) (by omega) (h48 hA2) hln hS2).mono fun s' hs' => ⟨?_, hs'.2.1.trans hO2, agt hs'.2.2 hA2 (by decide)⟩
        rw [if_pos (Int32.le_of_lt hpos), mkup0 hln (by rw [← e2]; exact hnn hpos)] at hs'
        rw [e2]
        exact hs'.1
      refine ok_bind (e_isEx (w := w) (t := t) (hmc hA1) hv hp hh (by rw [hA1 76 (by decide)]; exact ht) ht2 (by rw [hA1 77 (by decide)]; exact hw)) (fun q hq => ?_)
      have hAq : Ag [73, 74, 78, 79] q.2 s := agt hq.2 hA1 (by decide)
      have hSq : SH q.2 (7 * v + p + 1) S1 := hS1.of (hq.2 78 (by decide)) (hq.2 79 (by decide))
      have hOq : SO q.2 s (7 * v + p + 1) := (SO.of (hq.2 78 (by decide)) (hq.2 79 (by decide))).trans hO1
      rw [hq.1]
      refine ok_ite (fun g2 => ?_) (fun g2 => ?_)
      · rw [(bI0 _).mp g2] at hsh
        refine ok_gi v rfl (by omega) (ok_gi v rfl (by omega) ?_)
        rw [nI_clamp (show v < 2 ^ 31 by omega), h48 hAq, L_4, pk_mul, nI_add]
        refine ok_gi _ rfl (by omega) (ok_gi _ rfl (by omega) (ok_S ?_))
        rw [nI_clamp (show 4 * (7 * v + p + 1) + ln c v < 2 ^ 31 by omega), hSq.2 _ hln]
        exact fin _ _ hsh (hSq.up79 hln) ((SO.up79 hln).trans hOq) (hAq.up (by decide))
      · have e : exC (fXp c h v p t w) (ct c (ln c v)) = true := by
          cases hh2 : exC (fXp c h v p t w) (ct c (ln c v))
          · rw [hh2] at g2; exact absurd rfl g2
          · rfl
        rw [e] at hsh
        refine ok_gi _ rfl (by omega) (ok_gi _ rfl (by omega) (ok_S ?_))
        rw [nI_clamp (show 7 * v + p + 1 < 2 ^ 31 by omega), hSq.1]
        exact fin _ _ hsh hSq.up78 (SO.up78.trans hOq) (hAq.up (by decide))
  unfold f_X10_sharesAt
  rw [L_7, pk_mul, nI_add, L_1, pk_sub (by omega), show 7 * v + (p + 1) - 1 = 7 * v + p by omega]
  refine ok_I ?_
  rw [nI_add]
  refine ok_I (ok_gi _ rfl (by omega) (ok_gi _ rfl (by omega) (ok_S ?_)))
  rw [nI_clamp (show 7 * v + p + 1 < 2 ^ 31 by omega), nI_clamp (show 7 * v + p < 2 ^ 31 by omega), hF.1]
  have hF1 : SH (up3 s 78 0 (7 * v + p + 1) (S0 0)) (7 * v + p) S0 := ⟨by rw [up_j (by omega)]; exact hF.1, fun l hl => by rw [up_k (by decide)]; exact hF.2 l hl⟩
  refine e_shC (x := 7 * v + p) (F := S0) f_X10_sharesAt_B126 (by omega) hF1 up_s (fun s' hs1 hs2 ho ha n => ?_) 4 0 FU _ (by omega) (by unfold FU; omega) hF1 up_s (fun m hm => absurd hm (Nat.not_lt_zero m)) SO.rfl Ag.rfl
  have hA' : Ag [73, 74, 78, 79] s' s := agt ha (Ag.rfl.up (by decide)) (by decide)
  have hO' : SO s' s (7 * v + p + 1) := ho.trans SO.up78
  show Ok (f_X10_sharesAt_B33 _ _ _ _ _ _ _ _ _) _
  unfold f_X10_sharesAt_B33
  refine ok_pos (by decide) ?_
  rw [L_1, pk_sub (by omega), show p + 1 - 1 = p by omega]
  have hmt := e_mt (hmc hA') hv hp
  cases hm : mt c v p with
  | none =>
    rw [hm] at hmt
    refine ok_call hmt (ok_pos rfl ?_)
    refine main S0 s' ?_ hs2 hO' hA'
    unfold shF mlin
    rw [hm]
    unfold mS wS
    rfl
  | some q =>
    obtain ⟨u, j⟩ := q
    rw [hm] at hmt
    obtain ⟨k, k1, k2, k3, k4⟩ := hmt
    obtain ⟨hu, -, -⟩ := ((H.1.2.1 v hv).2.2.2.2.2.2 p hp).2.2.2.2.2.2 u j hm
    have hlu := (H.1.2.1 u hu).2.1
    refine ok_call k2 (ok_neg (nIm1 (by omega)) (ok_gi k rfl (by omega) ?_))
    dsimp only
    rw [nI_clamp (show k < 2 ^ 31 by omega), k3]
    refine ok_gi u rfl (by omega) ?_
    rw [nI_clamp (show u < 2 ^ 31 by omega), hA' 48 (by decide), (H.2.2.1 u hu).1.2.1, L_4, pk_mul, nI_add]
    refine ok_I (ok_gi _ rfl (by omega) (ok_gi _ rfl (by omega) (ok_gi _ rfl (by omega) (ok_S ?_))))
    rw [nI_clamp (show 4 * (7 * v + p + 1) + ln c u < 2 ^ 31 by omega), nI_clamp (show 7 * v + p < 2 ^ 31 by omega), hs2.2 _ hlu, hA' 77 (by decide), hw]
    refine main (upd S0 (1 + ln c u) (S0 (1 + ln c u) + w)) _ ?_ (hs2.up79 hlu) ((SO.up79 hlu).trans hO') (hA'.up (by decide))
    unfold shF mlin
    rw [hm]
    unfold mS wS
    rfl
/-! sails() -/
theorem e_sails {c : Cf} {s : Sg} {h v p : Nat} {rd : Int32} (H : CM s c) (hv : v < nv c) (hp : p < lg c v) (hh : h ≤ 20000) (h80 : s 80 0 v = nI p) (h81 : s 81 0 v = rd) : f_X10_sails (nI v) (nI h) s = some (up3 (up3 (up3 (up3 s 76 0 (7 * v + p) (nI h)) 77 0 (7 * v + p) (nI h - rd)) 83 0 v 1) 82 0 v (nI h + lh c (mon h) v p + bk c v p)) := by
  have hv10 := H.1.1
  have hlg := (H.1.2.1 v hv).1
  have hp12 := ((H.1.2.1 v hv).2.2.2.2.2.2 p hp).1
  obtain ⟨l1, l2, l3, l4⟩ := (H.2.2.1 v hv).2.1 p hp
  obtain ⟨w1, w2, w3⟩ := l4 (mon h) (mon_lt h)
  suffices hs : Ok (f_X10_sails (nI v) (nI h) s) (fun s' => s' = up3 (up3 (up3 (up3 s 76 0 (7 * v + p) (nI h)) 77 0 (7 * v + p) (nI h - rd)) 83 0 v 1) 82 0 v (nI h + lh c (mon h) v p + bk c v p)) by
    obtain ⟨q, h1, h2⟩ := hs
    rw [h1, h2]
  unfold f_X10_sails
  refine ok_gi v rfl (by omega) ?_
  rw [nI_clamp (show v < 2 ^ 31 by omega), h80, L_7, pk_mul, nI_add]
  refine ok_I (ok_gi _ rfl (by omega) (ok_S (ok_gi v rfl (by omega) (ok_gi _ rfl (by omega) (ok_S (ok_gi v rfl (by omega) (ok_S (ok_gi v rfl (by omega) (ok_gi v rfl (by omega) ?_)))))))))
  rw [nI_clamp (show 7 * v + p < 2 ^ 31 by omega), up_k (show ¬ (81 : Nat) = 76 by decide), h81, show vp_nar .boolean 1 = 1 from rfl]
  generalize hs3 : up3 (up3 (up3 s 76 0 (7 * v + p) (nI h)) 77 0 (7 * v + p) (nI h - rd)) 83 0 v 1 = s3
  have ag : Ag [76, 77, 83] s3 s := by
    rw [← hs3]
    exact ((Ag.rfl.up (by decide)).up (by decide)).up (by decide)
  have Hs : CM s3 c := CM_congr (fun k hk => ag k (by revert k; decide)) (by rw [ag 10 (by decide)]) (by rw [ag 10 (by decide)]) H
  rw [ag 80 (by decide), h80, ag 49 (by decide)]
  refine ok_call (e_wi Hs hv hp (by omega)) (ok_I (ok_gi v rfl (by omega) ?_))
  dsimp only
  rw [ag 80 (by decide), h80, ag 53 (by decide), ag 46 (by decide), L_6, pk_mul, nI_add]
  refine ok_gi _ rfl (by omega) ?_
  rw [nI_clamp (show 6 * v + p < 2 ^ 31 by omega), l1]
  refine ok_gi _ rfl (by omega) ?_
  rw [nI_clamp (show pg c v p < 2 ^ 31 by omega)]
  have hup : f_X10_up (100 * s 46 0 (pg c v p)) (s 49 0 v * (100 + wd c (mon h) v p)) s3 = some (lh c (mon h) v p, s3) := by
    unfold f_X10_up
    rw [chk, if_pos (decide_eq_true w2), w3]
  refine ok_call hup ?_
  refine ok_gi v rfl (by omega) ?_
  dsimp only
  rw [ag 80 (by decide), h80, ag 54 (by decide), nI_add]
  refine ok_gi _ rfl (by omega) (ok_gi v rfl (by omega) (ok_S (ok_some ?_)))
  rw [nI_clamp (show 6 * v + p < 2 ^ 31 by omega), l2]
