/-! the reference: isExcused(), sharesAt(), sails() -/
def fXp (c : Cf) (h v p t : Nat) (w : Int32) : Nat → Int32 := fun k => match k with
  | 0 => if 0 < nI h - dC c v (p + 1) then nI h - dC c v (p + 1) else 0
  | 1 => w
  | 2 => wd c (mon t) v p
  | 3 => bk c v p
  | _ => nI (mon h)
theorem e_isEx {c : Cf} {s : Sg} {h v p t : Nat} {w : Int32} (H : CM s c) (hv : v < nv c) (hp : p < lg c v) (hh : h ≤ 20000) (ht : s 76 0 (7 * v + p) = nI t) (ht2 : t ≤ 20000) (hw : s 77 0 (7 * v + p) = w) : Ok (f_X10_isExcused (nI v) (nI (p + 1)) (nI h) s) (fun q => q.1 = bI (exC (fXp c h v p t w) (ct c (ln c v))) ∧ Ag [73, 74] q.2 s) := by
  have hv10 := H.1.1
  have hlg := (H.1.2.1 v hv).1
  have hln := (H.1.2.1 v hv).2.1
  have hmy : ∀ {s1 : Sg}, Ag [73] s1 s → CM s1 c := fun {s1} hag => CM_congr (fun k hk => hag k (by revert k; decide)) (by rw [hag 10 (by decide)]) (by rw [hag 10 (by decide)]) H
  have main : ∀ x0 : Int32, (if 0 < nI h - dC c v (p + 1) then nI h - dC c v (p + 1) else 0) = x0 → Ok (f_X10_isExcused_B36 (nI v) (nI (p + 1)) (nI h) (nI (7 * v + p)) 0 x0 s) (fun q => q.1 = bI (exC (fXp c h v p t w) (ct c (ln c v))) ∧ Ag [73, 74] q.2 s) := by
    intro x0 hx0
    unfold f_X10_isExcused_B36
    refine ok_gi 0 rfl (by omega) (ok_S (ok_gi _ rfl (by omega) (ok_gi 1 rfl (by omega) (ok_S (ok_gi _ rfl (by omega) ?_)))))
    rw [tn_0, tn_1, nI_clamp (show 7 * v + p < 2 ^ 31 by omega), up_k (show ¬ (77 : Nat) = 73 by decide), hw]
    have ag1 : Ag [73] (up3 (up3 s 73 0 0 x0) 73 0 1 w) s := (Ag.rfl.up (by decide)).up (by decide)
    rw [ag1 76 (by decide), ht, L_1, pk_sub (by omega), show p + 1 - 1 = p by omega]
    refine ok_call (e_wi (hmy ag1) hv hp (by omega)) ?_
    have ag2 := Ag.up (k := 73) (i := 0) (j := 2) (x := wd c (mon t) v p) ag1 (by decide)
    refine ok_gi 2 rfl (by omega) (ok_S ?_)
    dsimp only
    rw [tn_2, L_6, pk_mul, nI_add, pk_sub (by omega), show 6 * v + (p + 1) - 1 = 6 * v + p by omega]
    refine ok_gi _ rfl (by omega) (ok_gi 3 rfl (by omega) (ok_S ?_))
    rw [tn_3, nI_clamp (show 6 * v + p < 2 ^ 31 by omega), ag2 54 (by decide), ((H.2.2.1 v hv).2.1 _ hp).2.1]
    refine ok_call (e_mon _ (by omega)) ?_
    have ag4 := Ag.up (k := 73) (i := 0) (j := 4) (x := nI (mon h)) (Ag.up (k := 73) (i := 0) (j := 3) (x := bk c v p) ag2 (by decide)) (by decide)
    refine ok_gi 4 rfl (by omega) (ok_S (ok_gi v rfl (by omega) (ok_I (ok_I ?_))))
    dsimp only
    rw [tn_4, nI_clamp (show v < 2 ^ 31 by omega), ag4 48 (by decide), (H.2.2.1 v hv).1.2.1, L_12, pk_mul]
    refine (e_exL (c := c) (x := fXp c h v p t w) hln (ct c (ln c v)) 0 FU _ (by omega) (hmy ag4) ?_ (CMq_congr ⟨ag4 68 (by decide), ag4 69 (by decide), ag4 70 (by decide), ag4 71 (by decide)⟩ ⟨ag4 64 (by decide), ag4 65 (by decide), ag4 66 (by decide), ag4 67 (by decide)⟩ (H.2.2.2.2 _ hln).2) (H.1.2.2 _ hln).2 (by have := (H.1.2.2 _ hln).1; unfold FU; omega)).mono fun q hq => ⟨hq.1, hq.2.trans ag4 _ (fun k hk => by simp only [List.mem_cons, List.not_mem_nil, not_or, or_false] at hk ⊢; exact ⟨hk.2, hk.1⟩)⟩
    have := XV5 s x0 w (wd c (mon t) v p) (bk c v p) (nI (mon h))
    intro k hk
    rw [this k hk]
    subst hx0
    rcases (show k = 0 ∨ k = 1 ∨ k = 2 ∨ k = 3 ∨ k = 4 by omega) with rfl | rfl | rfl | rfl | rfl <;> rfl
  unfold f_X10_isExcused
  rw [L_7, pk_mul, nI_add, L_1, pk_sub (by omega), show 7 * v + (p + 1) - 1 = 7 * v + p by omega]
  refine ok_I (ok_call (e_dC H hv hp) (ok_I (ok_ite (fun g => ?_) (fun g => ?_))))
  · exact main 0 (if_neg (Int32.not_lt.mpr g))
  · exact main _ (if_pos (Int32.not_le.mp g))
/-! shares at one place: 78 0 x nobody's, 79 0 (4 x + l) a line's -/
def SH (s : Sg) (x : Nat) (F : Nat → Int32) : Prop := s 78 0 x = F 0 ∧ ∀ l, l < 4 → s 79 0 (4 * x + l) = F (1 + l)
def SO (s' s : Sg) (x : Nat) : Prop := (∀ j, ¬ j = x → s' 78 0 j = s 78 0 j) ∧ ∀ j, (j < 4 * x ∨ 4 * x + 4 ≤ j) → s' 79 0 j = s 79 0 j
theorem SO.rfl {s : Sg} {x : Nat} : SO s s x := ⟨fun _ _ => Eq.refl _, fun _ _ => Eq.refl _⟩
theorem SO.trans {a b c : Sg} {x : Nat} (h : SO a b x) (h' : SO b c x) : SO a c x := ⟨fun j hj => (h.1 j hj).trans (h'.1 j hj), fun j hj => (h.2 j hj).trans (h'.2 j hj)⟩
theorem SO.up78 {s : Sg} {x : Nat} {y : Int32} : SO (up3 s 78 0 x y) s x := ⟨fun j hj => up_j hj, fun j _ => by rw [up_k (by decide)]⟩
theorem SO.up79 {s : Sg} {x l : Nat} {y : Int32} (hl : l < 4) : SO (up3 s 79 0 (4 * x + l) y) s x := ⟨fun j _ => by rw [up_k (by decide)], fun j hj => up_j (by omega)⟩
theorem SO.of {a b : Sg} {x : Nat} (h : a 78 = b 78) (h' : a 79 = b 79) : SO a b x := ⟨fun j _ => by rw [h], fun j _ => by rw [h']⟩
theorem SH.up78 {s : Sg} {x : Nat} {F : Nat → Int32} {y : Int32} (h : SH s x F) : SH (up3 s 78 0 x y) x (upd F 0 y) := ⟨up_s, fun l hl => by rw [up_k (by decide), h.2 l hl]; unfold upd; rw [if_neg (by omega)]⟩
theorem SH.up79 {s : Sg} {x l : Nat} {F : Nat → Int32} {y : Int32} (h : SH s x F) (hl : l < 4) : SH (up3 s 79 0 (4 * x + l) y) x (upd F (1 + l) y) := by
  refine ⟨by rw [up_k (by decide), h.1]; unfold upd; rw [if_neg (by omega)], fun m hm => ?_⟩
  by_cases e : m = l
  · subst e; rw [up_s]; unfold upd; rw [if_pos rfl]
  · rw [up_j (by omega), h.2 m hm]; unfold upd; rw [if_neg (by omega)]
theorem SH.of {a b : Sg} {x : Nat} {F : Nat → Int32} (h : a 78 = b 78) (h' : a 79 = b 79) (hs : SH b x F) : SH a x F := ⟨by rw [h]; exact hs.1, fun l hl => by rw [h']; exact hs.2 l hl⟩
/-- one line's hours are taken -/
theorem e_tk (K : Int32 → Int32 → Int32 → Int32 → Sg → Option Sg) {s : Sg} {x l : Nat} {F : Nat → Int32} {v a10 less as0 as1 : Int32} {P : Sg → Prop} (hx : x < 70) (hl : l < 4) (hF : SH s x F) (h0 : as0 + as1 = nI (4 * x + l)) (hK : ∀ s', SH s' x (tk (F, less) (1 + l)).1 → SO s' s x → Ag [79] s' s → Ok (K v (nI x) (tk (F, less) (1 + l)).2 (a10 + 1) s') P) : Ok (f_X10_sharesAt_B310 K v (nI x) less a10 as0 as1 s) P := by
  have fin : ∀ g : Int32, mn (F (1 + l)) less = g → Ok (f_X10_sharesAt_B337 K v (nI x) less a10 (nI (4 * x + l)) g s) P := by
    intro g hg
    unfold f_X10_sharesAt_B337
    refine ok_gi _ rfl (by omega) (ok_gi _ rfl (by omega) (ok_S (ok_I ?_)))
    rw [nI_clamp (show 4 * x + l < 2 ^ 31 by omega), hF.2 l hl]
    unfold tk at hK
    rw [hg] at hK
    exact hK _ (hF.up79 hl) (SO.up79 hl) (Ag.rfl.up (by decide))
  unfold f_X10_sharesAt_B310
  rw [h0]
  refine ok_I (ok_gi _ rfl (by omega) ?_)
  rw [nI_clamp (show 4 * x + l < 2 ^ 31 by omega), hF.2 l hl]
  refine ok_ite (fun g => ?_) (fun g => ?_)
  · refine ok_gi _ rfl (by omega) ?_
    exact fin _ (if_neg (Int32.not_lt.mpr g))
  · exact fin _ (if_pos (Int32.not_le.mp g))
theorem e_tks {s : Sg} {x v own : Nat} {F : Nat → Int32} {less : Int32} (hx : x < 70) (hv : v < 10) (hown : s 48 0 v = nI own) (ho : own < 4) (hF : SH s x F) : Ok (f_X10_sharesAt_L283 FU (nI v) (nI x) less (-1) s) (fun s' => SH s' x (tk (tk (tk (tk (tk (F, less) (1 + own)) 1) 2) 3) 4).1 ∧ SO s' s x ∧ Ag [79] s' s) := by
  obtain ⟨m, hm⟩ := FUs 6 (by decide)
  rw [hm]
  show Ok (f_X10_sharesAt_B283 _ _ _ _ _ _) _
  unfold f_X10_sharesAt_B283
  refine ok_neg (by decide) (ok_pos rfl (ok_gi v rfl hv ?_))
  rw [nI_clamp (show v < 2 ^ 31 by omega), hown]
  refine e_tk _ hx ho hF (by rw [L_4, pk_mul, nI_add]) (fun s1 h1 o1 a1 => ?_)
  rw [show (-1 : Int32) + 1 = nI 0 from rfl]
  have stp : ∀ (l : Nat) (n : Nat) (s1 : Sg) (S : (Nat → Int32) × Int32) (P : Sg → Prop), l < 4 → SH s1 x S.1 → (∀ s', SH s' x (tk S (1 + l)).1 → SO s' s1 x → Ag [79] s' s1 → Ok (f_X10_sharesAt_L283 n (nI v) (nI x) (tk S (1 + l)).2 (nI (l + 1)) s') P) → Ok (f_X10_sharesAt_L283 (n + 1) (nI v) (nI x) S.2 (nI l) s1) P := by
    intro l n s1 S P hl hS hK
    show Ok (f_X10_sharesAt_B283 _ _ _ _ _ _) _
    unfold f_X10_sharesAt_B283
    refine ok_neg (by rw [L_4]; exact nI_ge (by omega) (by omega)) (ok_neg (nIm1 (by omega)) ?_)
    refine e_tk _ hx hl hS (by rw [L_4, pk_mul, nI_add]) (fun s' h1 o1 a1 => ?_)
    rw [nI_1]
    exact hK s' h1 o1 a1
  refine stp 0 _ s1 (tk (F, less) (1 + own)) _ (by decide) h1 (fun s2 h2 o2 a2 => ?_)
  refine stp 1 _ s2 _ _ (by decide) h2 (fun s3 h3 o3 a3 => ?_)
  refine stp 2 _ s3 _ _ (by decide) h3 (fun s4 h4 o4 a4 => ?_)
  refine stp 3 _ s4 _ _ (by decide) h4 (fun s5 h5 o5 a5 => ?_)
  show Ok (f_X10_sharesAt_B283 _ _ _ _ _ _) _
  unfold f_X10_sharesAt_B283
  refine ok_pos (by decide) (ok_some ⟨h5, o5.trans (o4.trans (o3.trans (o2.trans o1))), ?_⟩)
  have tr : ∀ {a b c : Sg}, Ag [79] a b → Ag [79] b c → Ag [79] a c := fun h h' => h.trans h' _ (fun k hk => ⟨hk, hk⟩)
  exact tr a5 (tr a4 (tr a3 (tr a2 a1)))
/-- behind the sum of the more hours: what is made up -/
theorem e_mk {s : Sg} {x v own : Nat} {F : Nat → Int32} {more : Int32} (hx : x < 70) (hv : v < 10) (hown : s 48 0 v = nI own) (ho : own < 4) (hF : SH s x F) : Ok (f_X10_sharesAt_B216 (nI v) (nI x) more s) (fun s' => SH s' x (mkup F (if 0 ≤ more then 0 else -more) own) ∧ SO s' s x ∧ Ag [78, 79] s' s) := by
  have main : ∀ less : Int32, Ok (f_X10_sharesAt_B228 (nI v) (nI x) less s) (fun s' => SH s' x (mkup F less own) ∧ SO s' s x ∧ Ag [78, 79] s' s) := by
    intro less
    have fin : ∀ g : Int32, mn (F 0) less = g → Ok (f_X10_sharesAt_B254 (nI v) (nI x) less g s) (fun s' => SH s' x (mkup F less own) ∧ SO s' s x ∧ Ag [78, 79] s' s) := by
      intro g hg
      unfold f_X10_sharesAt_B254
      refine ok_gi _ rfl (by omega) (ok_gi _ rfl (by omega) (ok_S (ok_I ?_)))
      rw [nI_clamp (show x < 2 ^ 31 by omega), hF.1]
      refine (e_tks (F := upd F 0 (F 0 - g)) (less := less - g) hx hv (by rw [up_k (by decide)]; exact hown) ho hF.up78).mono fun s' h => ⟨?_, h.2.1.trans SO.up78, ?_⟩
      · have e : tk (F, less) 0 = (upd F 0 (F 0 - g), less - g) := by unfold tk; rw [hg]
        unfold mkup
        rw [e]
        exact h.1
      · exact h.2.2.trans (Ag.rfl.up (k := 78) (l := [78]) (by decide)) _ (fun k hk => by simp only [List.mem_cons, List.not_mem_nil, not_or, or_false] at hk ⊢; exact ⟨hk.2, hk.1⟩)
    unfold f_X10_sharesAt_B228
    refine ok_gi _ rfl (by omega) ?_
    rw [nI_clamp (show x < 2 ^ 31 by omega), hF.1]
    refine ok_ite (fun g => ?_) (fun g => ?_)
    · refine ok_gi _ rfl (by omega) ?_
      exact fin _ (if_neg (Int32.not_lt.mpr g))
    · exact fin _ (if_pos (Int32.not_le.mp g))
  unfold f_X10_sharesAt_B216
  refine ok_ite (fun g => ?_) (fun g => ?_)
  · rw [if_pos g]; exact main 0
  · rw [if_neg g]; exact main _
/-- nothing is taken of what isn't below 0 -/
theorem tk0 {F : Nat → Int32} {k : Nat} (h : ¬ F k < 0) : tk (F, 0) k = (F, 0) := by
  have e : mn (F k) 0 = 0 := by
    unfold mn
    by_cases g : 0 < F k
    · rw [if_pos g]
    · rw [if_neg g]
      exact Int32.le_antisymm (Int32.not_lt.mp g) (Int32.not_lt.mp h)
  unfold tk
  rw [e]
  simp only [Int32.sub_zero]
  congr 1
  funext j
  unfold upd
  by_cases q : j = k
  · rw [if_pos q, q]
  · rw [if_neg q]
theorem mkup0 {F : Nat → Int32} {own : Nat} (ho : own < 4) (h : ∀ k, k < 5 → ¬ F k < 0) : mkup F 0 own = F := by
  unfold mkup
  rw [tk0 (h 0 (by omega)), tk0 (h (1 + own) (by omega)), tk0 (h 1 (by omega)), tk0 (h 2 (by omega)), tk0 (h 3 (by omega)), tk0 (h 4 (by omega))]
