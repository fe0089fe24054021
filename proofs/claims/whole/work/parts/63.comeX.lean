/-! the class: comeIn() -/
def HF (s : Sg) (v : Nat) (F : Nat → Int32) : Prop := ∀ k, k < 5 → s 34 v k = F k
theorem HF.up {s : Sg} {v k : Nat} {F : Nat → Int32} {x : Int32} (h : HF s v F) : HF (up3 s 34 v k x) v (upd F k x) := fun j hj => by
  unfold upd
  rw [up_at]
  by_cases e : j = k
  · rw [if_pos e, if_pos e]
  · rw [if_neg e, if_neg e]; exact h j hj
/-- of kind k only row v changes -/
def Ro (k v : Nat) (a b : Sg) : Prop := ∀ u, ¬ u = v → a k u = b k u
theorem Ro.rfl {k v : Nat} {a : Sg} : Ro k v a a := fun _ _ => Eq.refl _
theorem Ro.trans {k v : Nat} {a b c : Sg} (h : Ro k v a b) (h' : Ro k v b c) : Ro k v a c := fun u hu => (h u hu).trans (h' u hu)
theorem Ro.up {k v i j : Nat} {a b : Sg} {x : Int32} (h : Ro k v a b) : Ro k v (up3 a i v j x) b := fun u hu => by
  by_cases e : k = i
  · subst e; rw [up_i hu]; exact h u hu
  · rw [up_k e]; exact h u hu
theorem Ro.of {k v : Nat} {a b : Sg} (e : a k = b k) : Ro k v a b := fun u _ => by rw [e]
theorem e_takeX {s : Sg} {v k : Nat} {F : Nat → Int32} {less : Int32} {P : Int32 × Sg → Prop} (hk : k < 5) (hF : HF s v F) (hK : ∀ s', HF s' v (tk (F, less) k).1 → Ag [34] s' s → Ro 34 v s' s → P ((tk (F, less) k).2, s')) : Ok (f_X6_takeFrom v (nI k) less s) P := by
  unfold f_X6_takeFrom
  refine ok_gi k rfl hk (ok_I (ok_gi k rfl hk (ok_gi k rfl hk (ok_S (ok_some ?_)))))
  rw [nI_clamp (show k < 2 ^ 31 by omega), hF k hk]
  exact hK _ hF.up (Ag.rfl.up (by decide)) Ro.rfl.up
theorem agt34 {a b c : Sg} (h : Ag [34] a b) (h' : Ag [34] b c) : Ag [34] a c := h.trans h' _ (fun k hk => ⟨hk, hk⟩)
theorem e_makeUpX {s : Sg} {v own : Nat} {F : Nat → Int32} {less : Int32} (ho : own < 4) (hF : HF s v F) : Ok (f_X6_makeUp v less (nI own) s) (fun s' => HF s' v (mkup F less own) ∧ Ag [34] s' s ∧ Ro 34 v s' s) := by
  have stp : ∀ (l n : Nat) (s1 : Sg) (S : (Nat → Int32) × Int32) (P : Sg → Prop), l < 4 → HF s1 v S.1 → (∀ s', HF s' v (tk S (1 + l)).1 → Ag [34] s' s1 → Ro 34 v s' s1 → Ok (f_X6_makeUp_L19 n v (tk S (1 + l)).2 (nI (l + 1)) s') P) → Ok (f_X6_makeUp_L19 (n + 1) v S.2 (nI l) s1) P := by
    intro l n s1 S P hl hS hK
    show Ok (f_X6_makeUp_B19 _ _ _ _ _) _
    unfold f_X6_makeUp_B19
    refine ok_neg (by rw [L_4]; exact nI_ge (by omega) (by omega)) ?_
    rw [L_1, nI_add]
    refine ok_bind (e_takeX (F := S.1) (less := S.2) (P := fun q => ∃ s', q = ((tk S (1 + l)).2, s') ∧ HF s' v (tk S (1 + l)).1 ∧ Ag [34] s' s1 ∧ Ro 34 v s' s1) (by omega) hS (fun s' a b c => ⟨s', rfl, a, b, c⟩)) (fun q hq => ?_)
    obtain ⟨s', rfl, a, b, c⟩ := hq
    rw [nI_add]
    exact hK s' a b c
  unfold f_X6_makeUp
  refine ok_bind (e_takeX (k := 0) (less := less) (P := fun q => ∃ s', q = ((tk (F, less) 0).2, s') ∧ HF s' v (tk (F, less) 0).1 ∧ Ag [34] s' s ∧ Ro 34 v s' s) (by omega) hF (fun s' a b c => ⟨s', rfl, a, b, c⟩)) (fun q hq => ?_)
  obtain ⟨s1, rfl, a1, b1, c1⟩ := hq
  rw [L_1, nI_add]
  refine ok_bind (e_takeX (k := 1 + own) (F := (tk (F, less) 0).1) (less := (tk (F, less) 0).2) (P := fun q => ∃ s', q = ((tk (tk (F, less) 0) (1 + own)).2, s') ∧ HF s' v (tk (tk (F, less) 0) (1 + own)).1 ∧ Ag [34] s' s1 ∧ Ro 34 v s' s1) (by omega) a1 (fun s' a b c => ⟨s', rfl, a, b, c⟩)) (fun q hq => ?_)
  obtain ⟨s2, rfl, a2, b2, c2⟩ := hq
  obtain ⟨m, hm⟩ := FUs 5 (by decide)
  rw [hm]
  refine stp 0 _ s2 (tk (tk (F, less) 0) (1 + own)) _ (by decide) a2 (fun s3 a3 b3 c3 => ?_)
  refine stp 1 _ s3 _ _ (by decide) a3 (fun s4 a4 b4 c4 => ?_)
  refine stp 2 _ s4 _ _ (by decide) a4 (fun s5 a5 b5 c5 => ?_)
  refine stp 3 _ s5 _ _ (by decide) a5 (fun s6 a6 b6 c6 => ?_)
  show Ok (f_X6_makeUp_B19 _ _ _ _ _) _
  unfold f_X6_makeUp_B19
  exact ok_pos (by decide) (ok_some ⟨a6, agt34 b6 (agt34 b5 (agt34 b4 (agt34 b3 (agt34 b2 b1)))), c6.trans (c5.trans (c4.trans (c3.trans (c2.trans c1))))⟩)
/-- shares written down at place i -/
theorem e_wrL {s0 : Sg} {v i : Nat} (hi : i < 7) : ∀ (d k n : Nat) (s : Sg), k + d = 5 → d < n → Ag [33] s s0 → Ro 33 v s s0 → (∀ m, m < k → s 33 v (5 * i + m) = s0 34 v m) → (∀ j, (j < 5 * i ∨ 5 * i + 5 ≤ j) → s 33 v j = s0 33 v j) → Ok (f_X6_writeDownShares_L2 n v (nI i) (nI k) s) (fun s' => Ag [33] s' s0 ∧ Ro 33 v s' s0 ∧ (∀ m, m < 5 → s' 33 v (5 * i + m) = s0 34 v m) ∧ ∀ j, (j < 5 * i ∨ 5 * i + 5 ≤ j) → s' 33 v j = s0 33 v j) := by
  intro d
  induction d with
  | zero =>
    intro k n s h1 h2 h3 h4 h5 h6
    obtain ⟨n, rfl⟩ : ∃ m, n = m + 1 := ⟨n - 1, by omega⟩
    have : k = 5 := by omega
    subst this
    show Ok (f_X6_writeDownShares_B2 _ _ _ _ _) _
    unfold f_X6_writeDownShares_B2
    exact ok_pos (by decide) (ok_some ⟨h3, h4, h5, h6⟩)
  | succ d ih =>
    intro k n s h1 h2 h3 h4 h5 h6
    obtain ⟨n, rfl⟩ : ∃ m, n = m + 1 := ⟨n - 1, by omega⟩
    show Ok (f_X6_writeDownShares_B2 _ _ _ _ _) _
    unfold f_X6_writeDownShares_B2
    refine ok_neg (by rw [L_5]; exact nI_ge (by omega) (by omega)) (ok_gi k rfl (by omega) ?_)
    rw [L_5, pk_mul, nI_add]
    refine ok_gi _ rfl (by omega) (ok_S ?_)
    rw [nI_clamp (show i * 5 + k < 2 ^ 31 by omega), nI_clamp (show k < 2 ^ 31 by omega), nI_1, h3 34 (by decide), show i * 5 + k = 5 * i + k by omega]
    refine ih (k + 1) n _ (by omega) (by omega) (h3.up (by decide)) h4.up (fun m hm => ?_) (fun j hj => by rw [up_j (by omega)]; exact h6 j hj)
    by_cases e : m = k
    · subst e; rw [up_s]
    · rw [up_j (by omega)]; exact h5 m (by omega)
theorem e_wrX {s : Sg} {v i : Nat} (hi : i < 7) : Ok (f_X6_writeDownShares v (nI i) s) (fun s' => Ag [33] s' s ∧ Ro 33 v s' s ∧ (∀ m, m < 5 → s' 33 v (5 * i + m) = s 34 v m) ∧ ∀ j, (j < 5 * i ∨ 5 * i + 5 ≤ j) → s' 33 v j = s 33 v j) := by
  unfold f_X6_writeDownShares
  exact e_wrL hi 5 0 FU s (by omega) (by unfold FU; omega) Ag.rfl Ro.rfl (fun m hm => absurd hm (Nat.not_lt_zero m)) (fun _ _ => rfl)
/-- a condition of the class's world that the run keeps -/
def xK : List Nat := [6, 24, 30, 31, 32, 33, 34]
theorem CX_r {c : Cf} {s s' : Sg} (h : Ag xK s' s) (H : CX s c) : CX s' c := CX_congr (fun k hk => h k (by revert k; decide)) (by rw [h 0 (by decide)]) H
theorem Ag.x {l : List Nat} {a b c : Sg} (h : Ag l a b) (h' : Ag xK b c) (hl : ∀ k, k ∈ l → k ∈ xK) : Ag xK a c := (h.sub hl).trans h' _ (fun k hk => ⟨hk, hk⟩)
theorem e_isExX {c : Cf} {s : Sg} {h v p t : Nat} {w : Int32} (H : CX s c) (hv : v < nv c) (hp : p < lg c v) (hh : h ≤ 20000) (h5 : s 6 v 5 = nI p) (ht : s 31 v p = nI t) (ht2 : t ≤ 20000) (hw : s 32 v p = w) : Ok (f_X3_isExcused (nI v) (nI h) s) (fun q => q.1 = bI (exC (fXp c h v p t w) (ct c (ln c v))) ∧ Ag [24] q.2 s) := by
  have hv10 := H.1.1
  have hlg := (H.1.2.1 v hv).1
  have hln := (H.1.2.1 v hv).2.1
  obtain ⟨l1, l2, l3, -⟩ := (H.2.2.1 v hv).2.1 p hp
  obtain ⟨o, o1, o2, o3⟩ := H.2.2.2 _ hln
  unfold f_X3_isExcused
  refine ok_gi v rfl (by omega) (ok_gi v rfl (by omega) ?_)
  rw [nI_clamp (show v < 2 ^ 31 by omega), h5]
  refine ok_I ?_
  rw [nI_1]
  refine (ok_call (e_lateX H hv hp) (ok_gi 0 rfl (by omega) (ok_S (ok_gi p rfl (by omega) (ok_gi 1 rfl (by omega) (ok_S (ok_gi p rfl (by omega) (ok_gi p rfl (by omega) ?_))))))))
  dsimp only
  rw [nI_clamp (show p < 2 ^ 31 by omega), tn_0, tn_1, up_k (show ¬ (32 : Nat) = 24 by decide), hw]
  generalize hx0 : (if 0 < nI h - dC c v (p + 1) then nI h - dC c v (p + 1) else 0) = x0
  have ag1 : Ag [24] (up3 (up3 s 24 0 0 x0) 24 0 1 w) s := (Ag.rfl.up (by decide)).up (by decide)
  have hcx : ∀ {s1 : Sg}, Ag [24] s1 s → CX s1 c := fun {s1} a => CX_r (a.x Ag.rfl (by decide)) H
  rw [ag1 37 (by decide), ag1 31 (by decide), l1, ht]
  refine ok_call (e_wiX (hcx ag1) hv hp (by omega)) (ok_gi 2 rfl (by omega) (ok_S (ok_gi p rfl (by omega) (ok_gi 3 rfl (by omega) (ok_S ?_)))))
  dsimp only
  have ag2 := Ag.up (k := 24) (i := 0) (j := 2) (x := wd c (mon t) v p) ag1 (by decide)
  rw [tn_2, tn_3, ag2 39 (by decide), l3]
  refine ok_call (e_monX _ (by omega)) (ok_gi 4 rfl (by omega) (ok_S ?_))
  dsimp only
  have ag4 := Ag.up (k := 24) (i := 0) (j := 4) (x := nI (mon h)) (Ag.up (k := 24) (i := 0) (j := 3) (x := bk c v p) ag2 (by decide)) (by decide)
  rw [tn_4, ag4 8 (by decide), ag4 12 (by decide), (H.2.2.1 v hv).1.1]
  refine ok_gi _ rfl (by omega) ?_
  rw [nI_clamp (show ln c v < 2 ^ 31 by omega), o2, nI_clamp (show o < 2 ^ 31 by omega)]
  refine ok_d o1 (ok_call (e_excX (x := fXp c h v p t w) (r := ct c (ln c v)) ?_ (H.1.2.2 _ hln).1 (H.1.2.2 _ hln).2 ?_) ?_)
  · exact ⟨by rw [ag4 2 (by decide)]; exact o3.1, CXq_congr ⟨by rw [ag4 21 (by decide)], by rw [ag4 22 (by decide)], by rw [ag4 23 (by decide)]⟩ ⟨by rw [ag4 18 (by decide)], by rw [ag4 19 (by decide)], by rw [ag4 20 (by decide)]⟩ o3.2⟩
  · have := XF5 s x0 w (wd c (mon t) v p) (bk c v p) (nI (mon h))
    intro k hk
    rw [this k hk]
    subst hx0
    rcases (show k = 0 ∨ k = 1 ∨ k = 2 ∨ k = 3 ∨ k = 4 by omega) with rfl | rfl | rfl | rfl | rfl <;> rfl
  · exact ok_chk (b01_bI _) (ok_some ⟨rfl, ag4⟩)
/-- what comeIn() does, by the shares S1 held as it comes -/
theorem e_comeX {c : Cf} {s : Sg} {h v p t : Nat} {w : Int32} {S1 : Nat → Int32} (H : CX s c) (hv : v < nv c) (hp : p < lg c v) (hh : h ≤ 20000) (h5 : s 6 v 5 = nI p) (ht : s 31 v p = nI t) (ht2 : t ≤ 20000) (hw : s 32 v p = w) (hF : HF s v S1) : Ok (f_X3_comeIn (nI v) (nI h) s) (fun s' => Ag [6, 24, 30, 33, 34] s' s ∧ Ro 6 v s' s ∧ Ro 30 v s' s ∧ Ro 33 v s' s ∧ Ro 34 v s' s ∧ s' 6 v 5 = nI (p + 1) ∧ s' 6 v 6 = 0 ∧ (s' 6 v 7 = if p + 1 < lg c v then (if nI h + sy c v < dL c v (p + 1) then dL c v (p + 1) else nI h + sy c v) else 1000000) ∧ s' 6 v 8 = s' 6 v 7 ∧ (∀ i, s' 30 v i = if i = p + 1 then nI h else s 30 v i) ∧ HF s' v (mS S1 (nI h - nI t - th c v p) (exC (fXp c h v p t w) (ct c (ln c v))) (ln c v)) ∧ (∀ k, k < 5 → s' 33 v (5 * (p + 1) + k) = mS S1 (nI h - nI t - th c v p) (exC (fXp c h v p t w) (ct c (ln c v))) (ln c v) k) ∧ ∀ j, (j < 5 * (p + 1) ∨ 5 * (p + 1) + 5 ≤ j) → s' 33 v j = s 33 v j) := by
  have hv10 := H.1.1
  have hlg := (H.1.2.1 v hv).1
  have hln := (H.1.2.1 v hv).2.1
  obtain ⟨l1, l2, l3, -⟩ := (H.2.2.1 v hv).2.1 p hp
  generalize hm : nI h - nI t - th c v p = more
  generalize hex : exC (fXp c h v p t w) (ct c (ln c v)) = exc
  -- the end: place, coming, shares, ready
  have fin : ∀ (s1 : Sg) (S : Nat → Int32), mS S1 more exc (ln c v) = S → Ag [24, 34] s1 s → Ro 34 v s1 s → HF s1 v S → Ok (f_X3_comeIn_B101 (nI h) v v (nI p) s1) (fun s' => Ag [6, 24, 30, 33, 34] s' s ∧ Ro 6 v s' s ∧ Ro 30 v s' s ∧ Ro 33 v s' s ∧ Ro 34 v s' s ∧ s' 6 v 5 = nI (p + 1) ∧ s' 6 v 6 = 0 ∧ (s' 6 v 7 = if p + 1 < lg c v then (if nI h + sy c v < dL c v (p + 1) then dL c v (p + 1) else nI h + sy c v) else 1000000) ∧ s' 6 v 8 = s' 6 v 7 ∧ (∀ i, s' 30 v i = if i = p + 1 then nI h else s 30 v i) ∧ HF s' v (mS S1 more exc (ln c v)) ∧ (∀ k, k < 5 → s' 33 v (5 * (p + 1) + k) = mS S1 more exc (ln c v) k) ∧ ∀ j, (j < 5 * (p + 1) ∨ 5 * (p + 1) + 5 ≤ j) → s' 33 v j = s 33 v j) := by
    intro s1 S hS ag1 ro1 hF1
    unfold f_X3_comeIn_B101
    rw [nI_1]
    refine ok_I (ok_S (ok_gi _ rfl (by omega) (ok_S ?_)))
    rw [nI_clamp (show p + 1 < 2 ^ 31 by omega)]
    refine ok_bind (e_wrX (by omega)) (fun q hq => ?_)
    obtain ⟨q1, q2, q3, q4⟩ := hq
    have agq : Ag [6, 24, 30, 33, 34] q s := by
      refine (q1.sub (m := [6, 24, 30, 33, 34]) (by decide)).trans (Ag.up (Ag.up (ag1.sub (by decide)) (by decide)) (by decide)) _ (fun k hk => ⟨hk, hk⟩)
    have Hq : CX q c := CX_r (agq.x Ag.rfl (by decide)) H
    have lie : ∀ (rd : Int32), (rd = if p + 1 < lg c v then (if nI h + sy c v < dL c v (p + 1) then dL c v (p + 1) else nI h + sy c v) else 1000000) → Ok (f_X3_comeIn_B169 v rd q) (fun s' => Ag [6, 24, 30, 33, 34] s' s ∧ Ro 6 v s' s ∧ Ro 30 v s' s ∧ Ro 33 v s' s ∧ Ro 34 v s' s ∧ s' 6 v 5 = nI (p + 1) ∧ s' 6 v 6 = 0 ∧ (s' 6 v 7 = if p + 1 < lg c v then (if nI h + sy c v < dL c v (p + 1) then dL c v (p + 1) else nI h + sy c v) else 1000000) ∧ s' 6 v 8 = s' 6 v 7 ∧ (∀ i, s' 30 v i = if i = p + 1 then nI h else s 30 v i) ∧ HF s' v (mS S1 more exc (ln c v)) ∧ (∀ k, k < 5 → s' 33 v (5 * (p + 1) + k) = mS S1 more exc (ln c v) k) ∧ ∀ j, (j < 5 * (p + 1) ∨ 5 * (p + 1) + 5 ≤ j) → s' 33 v j = s 33 v j) := by
      intro rd hrd
      unfold f_X3_comeIn_B169 f_X6_lieInPort
      refine ok_bind (Q := fun z => z = up3 (up3 (up3 q 6 v 6 0) 6 v 7 rd) 6 v 8 rd) (ok_S (ok_S (ok_S (ok_some rfl)))) (fun z hz => ok_some ?_)
      subst hz
      refine ⟨Ag.up (Ag.up (Ag.up agq (by decide)) (by decide)) (by decide), ?_, ?_, ?_, ?_, ?_, ?_, ?_, ?_, fun i => ?_, fun k hk => ?_, fun k hk => ?_, fun j hj => ?_⟩
      · exact Ro.up (Ro.up (Ro.up (Ro.trans (Ro.of (q1 6 (by decide))) (Ro.up (Ro.up (Ro.of (ag1 6 (by decide))))))))
      · exact Ro.up (Ro.up (Ro.up (Ro.trans (Ro.of (q1 30 (by decide))) (Ro.up (Ro.up (Ro.of (ag1 30 (by decide))))))))
      · exact Ro.up (Ro.up (Ro.up (Ro.trans q2 (Ro.up (Ro.up (Ro.of (ag1 33 (by decide))))))))
      · exact Ro.up (Ro.up (Ro.up (Ro.trans (Ro.of (q1 34 (by decide))) (Ro.up (Ro.up ro1)))))
      · rw [up_j (by decide), up_j (by decide), up_j (by decide), q1 6 (by decide), up_k (by decide), up_s]
      · rw [up_j (by decide), up_j (by decide), up_s]
      · rw [up_j (by decide), up_s]; exact hrd
      · rw [up_s, up_j (by decide), up_s]
      · rw [up_k (by decide), up_k (by decide), up_k (by decide), q1 30 (by decide), up_at, up_k (by decide), ag1 30 (by decide)]
      · rw [up_k (by decide), up_k (by decide), up_k (by decide), q1 34 (by decide), up_k (by decide), up_k (by decide), hS]; exact hF1 k hk
      · rw [up_k (by decide), up_k (by decide), up_k (by decide), q3 k hk, up_k (by decide), up_k (by decide), hS]; exact hF1 k hk
      · rw [up_k (by decide), up_k (by decide), up_k (by decide), q4 j hj, up_k (by decide), up_k (by decide), ag1 33 (by decide)]
    refine ok_call (e_lvX Hq hv (show p + 1 ≤ 7 by omega)) ?_
    dsimp only
    by_cases g : p + 1 < lg c v
    · rw [decide_eq_true g]
      refine ok_neg (by decide) (ok_gi _ rfl (by omega) ?_)
      have e8 := (Hq.2.2.1 v hv).1.2.1
      have e43 := ((Hq.2.2.1 v hv).2.2 (p + 1) (by omega)).2
      exact lie _ (by rw [if_pos g, ← e8, ← e43])
    · rw [decide_eq_false g]
      exact ok_pos rfl (lie _ (by rw [if_neg g]))
  unfold f_X3_comeIn
  refine ok_gi v rfl (by omega) (ok_gi v rfl (by omega) ?_)
  rw [nI_clamp (show v < 2 ^ 31 by omega), h5]
  refine ok_I (ok_gi p rfl (by omega) (ok_gi p rfl (by omega) ?_))
  rw [nI_clamp (show p < 2 ^ 31 by omega), ht, l2, hm]
  refine ok_I (ok_ite (fun g => ?_) (fun g => ?_))
  · rw [(H.2.2.1 v hv).1.1]
    refine ok_bind (e_makeUpX hln hF) (fun q hq => ?_)
    exact fin q _ (if_neg (Int32.not_lt.mpr g)) (hq.2.1.sub (by decide)) hq.2.2 hq.1
  · have hpos : 0 < more := Int32.not_le.mp g
    refine ok_bind (e_isExX H hv hp hh h5 ht ht2 hw) (fun q hq => ?_)
    rw [hq.1, hex]
    have h8 : q.2 8 v 0 = nI (ln c v) := by rw [hq.2 8 (by decide)]; exact (H.2.2.1 v hv).1.1
    have hFq : HF q.2 v S1 := fun k hk => by rw [hq.2 34 (by decide)]; exact hF k hk
    cases exc with
    | false =>
      refine ok_pos rfl ?_
      unfold f_X3_comeIn_B79
      rw [h8, L_1, nI_add]
      refine ok_gi _ rfl (by omega) (ok_gi _ rfl (by omega) (ok_S ?_))
      rw [nI_clamp (show 1 + ln c v < 2 ^ 31 by omega), hFq _ (show 1 + ln c v < 5 by omega)]
      exact fin _ (upd S1 (1 + ln c v) (S1 (1 + ln c v) + more)) (by unfold mS; rw [if_pos hpos]; rfl) (Ag.up (hq.2.sub (by decide)) (by decide)) (Ro.up (Ro.of (hq.2 34 (by decide)))) hFq.up
    | true =>
      refine ok_neg (by decide) ?_
      unfold f_X3_comeIn_B79
      refine ok_gi 0 rfl (by omega) (ok_gi 0 rfl (by omega) (ok_S ?_))
      rw [tn_0, hFq 0 (by decide)]
      exact fin _ (upd S1 0 (S1 0 + more)) (by unfold mS; rw [if_pos hpos]; rfl) (Ag.up (hq.2.sub (by decide)) (by decide)) (Ro.up (Ro.of (hq.2 34 (by decide)))) hFq.up
