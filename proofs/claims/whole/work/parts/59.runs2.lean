/-! the loops of runs() -/
def YA (c : Cf) (h : Nat) (Y : Sg) : Prop := ∀ u, u < nv c → YV c h Y u
def YN (c : Cf) (h n : Nat) (Y : Sg) : Prop := ∀ u, u < n → Y 0 u 2 = 1 → ¬ Y 0 u 3 = nI h
theorem YA_ars {c : Cf} {h : Nat} {Y : Sg} (H : Cok c) (hh : h ≤ 20000) (hY : YA c h Y) : ∀ v, v ≤ nv c → YA c h (fol (arY c h) v Y) ∧ YN c h v (fol (arY c h) v Y) := by
  intro v
  induction v with
  | zero => intro _; exact ⟨hY, fun u hu => absurd hu (Nat.not_lt_zero u)⟩
  | succ v ih =>
    intro hv
    obtain ⟨a1, a2⟩ := ih (by omega)
    have hvv := YV_ar H (show v < nv c by omega) hh (a1 v (by omega))
    refine ⟨fun u hu => ?_, fun u hu => ?_⟩
    · show YV c h (arY c h v (fol (arY c h) v Y)) u
      by_cases e : u = v
      · subst e; exact hvv.1
      · exact YV_of (fun k => arY_o e) (a1 u hu)
    · show (arY c h v (fol (arY c h) v Y)) 0 u 2 = 1 → ¬ (arY c h v (fol (arY c h) v Y)) 0 u 3 = nI h
      by_cases e : u = v
      · subst e; exact hvv.2
      · rw [arY_o e]; exact a2 u (by omega)
theorem YA_dps {c : Cf} {h : Nat} {Y : Sg} (H : Cok c) (hh : h ≤ 20000) (hY : YA c h Y) (hN : YN c h (nv c) Y) : ∀ v, v ≤ nv c → YA c h (fol (dpY c h) v Y) ∧ YN c h (nv c) (fol (dpY c h) v Y) := by
  intro v
  induction v with
  | zero => intro _; exact ⟨hY, hN⟩
  | succ v ih =>
    intro hv
    obtain ⟨a1, a2⟩ := ih (by omega)
    have hvv := YV_dp H (show v < nv c by omega) hh (a1 v (by omega)) (a2 v (by omega))
    refine ⟨fun u hu => ?_, fun u hu => ?_⟩
    · show YV c h (dpY c h v (fol (dpY c h) v Y)) u
      by_cases e : u = v
      · subst e; exact hvv.1
      · exact YV_of (fun k => dpY_o e) (a1 u hu)
    · show (dpY c h v (fol (dpY c h) v Y)) 0 u 2 = 1 → ¬ (dpY c h v (fol (dpY c h) v Y)) 0 u 3 = nI h
      by_cases e : u = v
      · subst e; exact hvv.2
      · rw [dpY_o e]; exact a2 u (by omega)
theorem YA_next {c : Cf} {h : Nat} {Y : Sg} (hh : h ≤ 20000) (hY : YA c h Y) (hN : YN c h (nv c) Y) : YA c (h + 1) Y := by
  intro u hu
  obtain ⟨y1, y2, y3, y4, y5, y6, y7⟩ := hY u hu
  refine ⟨y1, y2, y3, y4, fun q => ?_, fun i => ?_, y7⟩
  · obtain ⟨p1, ⟨a, a1, a2, a3⟩, ⟨t, t1, t2⟩, w⟩ := y5 q
    have hn := hN u hu q
    refine ⟨p1, ⟨a, a1, ?_, a3⟩, ⟨t, t1, by omega⟩, w⟩
    rw [a1, nI_eq (by omega) (by omega)] at hn
    omega
  · refine ⟨?_, ?_⟩
    · rcases (y6 i).1 with q | ⟨t, t1, t2, t3⟩
      · exact Or.inl q
      · exact Or.inr ⟨t, t1, by omega, t3⟩
    · rcases (y6 i).2 with q | ⟨t, t1, t2, t3⟩
      · exact Or.inl q
      · exact Or.inr ⟨t, t1, by omega, t3⟩
theorem YA_hr {c : Cf} {h : Nat} {Y : Sg} (H : Cok c) (hh : h ≤ 20000) (hY : YA c h Y) : YA c (h + 1) (hrY c h Y) := by
  obtain ⟨a1, a2⟩ := YA_ars H hh hY (nv c) (Nat.le_refl _)
  obtain ⟨b1, b2⟩ := YA_dps H hh a1 a2 (nv c) (Nat.le_refl _)
  exact YA_next hh b1 b2
theorem YA_0 {c : Cf} (H : Cok c) : YA c 0 (Y0 c) := by
  intro u hu
  obtain ⟨y, y1, y2⟩ := cok_sa H hu
  have e0 : pl (Y0 c) u = 0 := by unfold pl; exact tn_0
  refine ⟨by rw [e0]; rfl, by rw [e0]; omega, Or.inl rfl, ⟨y, y2, by omega⟩, fun q => absurd (show (0 : Int32) = 1 from q) (by decide), fun i => ⟨Or.inl rfl, Or.inl rfl⟩, fun k i hk hi => ?_⟩
  refine ⟨0, ?_, by omega⟩
  show (if 4 + k = 0 then _ else if 4 + k = 1 ∨ 4 + k = 2 then (-1 : Int32) else 0) = nI 0
  rw [if_neg (by omega), if_neg (by omega)]
  rfl
theorem YA_run {c : Cf} (H : Cok c) : ∀ h, h ≤ 20001 → YA c h (runY c h) := by
  intro h
  induction h with
  | zero => intro _; exact YA_0 H
  | succ h ih => intro hh; exact YA_hr H (by omega) (ih (by omega))
theorem e_arrs (k293 : Int32 → Int32 → Sg → Option Sg) {c : Cf} {s0 Y : Sg} {h : Nat} {P : Sg → Prop} (H : CM s0 c) (hY : YA c h Y) (hh : h ≤ 20000) (hK : ∀ s', Ag rK s' s0 → (∀ u, u < nv c → MSv s' (fol (arY c h) (nv c) Y) u) → Ok (k293 (nI h) 0 s') P) : ∀ (d v n : Nat) (s : Sg), v + d = nv c → d < n → Ag rK s s0 → (∀ u, u < nv c → MSv s (fol (arY c h) v Y) u) → Ok (f_X10_runs_L142 k293 n (nI h) (nI v) s) P := by
  intro d
  induction d with
  | zero =>
    intro v n s h1 h2 h3 h4
    obtain ⟨n, rfl⟩ : ∃ m, n = m + 1 := ⟨n - 1, by omega⟩
    have hv10 := H.1.1
    show Ok (f_X10_runs_B142 _ _ _ _ _) _
    unfold f_X10_runs_B142
    rw [(CM_r h3 H).2.1]
    have : v = nv c := by omega
    subst this
    exact ok_pos (Int32.le_refl _) (hK s h3 h4)
  | succ d ih =>
    intro v n s h1 h2 h3 h4
    obtain ⟨n, rfl⟩ : ∃ m, n = m + 1 := ⟨n - 1, by omega⟩
    show Ok (f_X10_runs_B142 _ _ _ _ _) _
    refine e_arr _ _ (CM_r h3 H) h4 (YA_ars H.1 hh hY v (by omega)).1 (by omega) hh (fun s' hag hm => ?_)
    exact ih (v + 1) n s' (by omega) (by omega) (hag.r h3 (fun _ h => h)) hm
theorem e_deps (k133 : Int32 → Sg → Option Sg) {c : Cf} {s0 Y : Sg} {h : Nat} {P : Sg → Prop} (H : CM s0 c) (hY : YA c h Y) (hN : YN c h (nv c) Y) (hh : h ≤ 20000) (hK : ∀ s', Ag rK s' s0 → (∀ u, u < nv c → MSv s' (fol (dpY c h) (nv c) Y) u) → Ok (k133 (nI (h + 1)) s') P) : ∀ (d v n : Nat) (s : Sg), v + d = nv c → d < n → Ag rK s s0 → (∀ u, u < nv c → MSv s (fol (dpY c h) v Y) u) → Ok (f_X10_runs_L293 k133 n (nI h) (nI v) s) P := by
  intro d
  induction d with
  | zero =>
    intro v n s h1 h2 h3 h4
    obtain ⟨n, rfl⟩ : ∃ m, n = m + 1 := ⟨n - 1, by omega⟩
    have hv10 := H.1.1
    show Ok (f_X10_runs_B293 _ _ _ _ _) _
    unfold f_X10_runs_B293
    rw [(CM_r h3 H).2.1, nI_1]
    have : v = nv c := by omega
    subst this
    exact ok_pos (Int32.le_refl _) (hK s h3 h4)
  | succ d ih =>
    intro v n s h1 h2 h3 h4
    obtain ⟨n, rfl⟩ : ∃ m, n = m + 1 := ⟨n - 1, by omega⟩
    show Ok (f_X10_runs_B293 _ _ _ _ _) _
    refine e_dep _ _ (CM_r h3 H) h4 (YA_dps H.1 hh hY hN v (by omega)).1 (by omega) hh (fun s' hag hm => ?_)
    exact ih (v + 1) n s' (by omega) (by omega) (hag.r h3 (fun _ h => h)) hm
theorem e_hours {c : Cf} {s0 : Sg} (H : CM s0 c) : ∀ (d h n : Nat) (s : Sg), h + d = 20001 → d < n → Ag rK s s0 → (∀ u, u < nv c → MSv s (runY c h) u) → Ok (f_X10_runs_L133 n (nI h) s) (fun s' => Ag rK s' s0 ∧ ∀ u, u < nv c → MSv s' (Tr c) u) := by
  intro d
  induction d with
  | zero =>
    intro h n s h1 h2 h3 h4
    obtain ⟨n, rfl⟩ : ∃ m, n = m + 1 := ⟨n - 1, by omega⟩
    have : h = 20001 := by omega
    subst this
    show Ok (f_X10_runs_B133 _ _ _) _
    unfold f_X10_runs_B133
    exact ok_pos (by decide) (ok_some ⟨h3, h4⟩)
  | succ d ih =>
    intro h n s h1 h2 h3 h4
    obtain ⟨n, rfl⟩ : ∃ m, n = m + 1 := ⟨n - 1, by omega⟩
    have hY := YA_run H.1 h (by omega)
    obtain ⟨a1, a2⟩ := YA_ars H.1 (show h ≤ 20000 by omega) hY (nv c) (Nat.le_refl _)
    have hv10 := H.1.1
    show Ok (f_X10_runs_B133 _ _ _) _
    unfold f_X10_runs_B133
    refine ok_neg (by rw [L_20000]; exact nI_nlt (by omega) (by omega)) ?_
    refine e_arrs _ H hY (by omega) (fun s1 g1 g2 => ?_) (nv c) 0 FU s (by omega) (by unfold FU; omega) h3 h4
    refine e_deps _ H a1 a2 (by omega) (fun s2 g3 g4 => ?_) (nv c) 0 FU s1 (by omega) (by unfold FU; omega) g1 g2
    exact ih (h + 1) n s2 (by omega) (by omega) g3 g4
/-! the start of runs() -/
def in79 (s' s : Sg) (x n : Nat) : Prop := (∀ l, l < n → s' 79 0 (4 * x + l) = 0) ∧ ∀ j, (j < 4 * x ∨ 4 * x + 4 ≤ j) → s' 79 0 j = s 79 0 j
theorem e_i95 (k51 : Int32 → Int32 → Sg → Option Sg) {s0 : Sg} {v i x : Nat} {P : Sg → Prop} (hx : x < 70) (hK : ∀ s', Ag [79] s' s0 → in79 s' s0 x 4 → Ok (k51 (nI v) (nI (i + 1)) s') P) : ∀ (d l n : Nat) (s : Sg), l + d = 4 → d < n → Ag [79] s s0 → in79 s s0 x l → Ok (f_X10_runs_L95 k51 n (nI v) (nI i) (nI x) (nI l) s) P := by
  intro d
  induction d with
  | zero =>
    intro l n s h1 h2 h3 h4
    obtain ⟨n, rfl⟩ : ∃ m, n = m + 1 := ⟨n - 1, by omega⟩
    have : l = 4 := by omega
    subst this
    show Ok (f_X10_runs_B95 _ _ _ _ _ _ _) _
    unfold f_X10_runs_B95
    refine ok_pos (by decide) ?_
    rw [nI_1]
    exact hK s h3 h4
  | succ d ih =>
    intro l n s h1 h2 h3 h4
    obtain ⟨n, rfl⟩ : ∃ m, n = m + 1 := ⟨n - 1, by omega⟩
    show Ok (f_X10_runs_B95 _ _ _ _ _ _ _) _
    unfold f_X10_runs_B95
    refine ok_neg (by rw [L_4]; exact nI_ge (by omega) (by omega)) ?_
    rw [L_4, pk_mul, nI_add]
    refine ok_gi _ rfl (by omega) (ok_S ?_)
    rw [nI_clamp (show 4 * x + l < 2 ^ 31 by omega), nI_1]
    refine ih (l + 1) n _ (by omega) (by omega) (h3.up (by decide)) ⟨fun m hm => ?_, fun j hj => by rw [up_j (by omega)]; exact h4.2 j hj⟩
    by_cases e : m = l
    · rw [e, up_s]
    · rw [up_j (by omega)]; exact h4.1 m (by omega)
/-- the rows of voyage v are at their start up to place i -/
def inR (s : Sg) (v n : Nat) : Prop := ∀ i, i < n → s 75 0 (7 * v + i) = -1 ∧ s 76 0 (7 * v + i) = -1 ∧ s 77 0 (7 * v + i) = 0 ∧ s 78 0 (7 * v + i) = 0 ∧ ∀ l, l < 4 → s 79 0 (4 * (7 * v + i) + l) = 0
theorem e_i51 (k15 : Int32 → Sg → Option Sg) {s0 : Sg} {v : Nat} {P : Sg → Prop} (hv : v < 10) (hK : ∀ s', Ag [75, 76, 77, 78, 79] s' s0 → inR s' v 7 → (∀ u, u < 10 → ¬ u = v → inR s0 u 7 → inR s' u 7) → Ok (k15 (nI (v + 1)) s') P) : ∀ (d i n : Nat) (s : Sg), i + d = 7 → d < n → Ag [75, 76, 77, 78, 79] s s0 → inR s v i → (∀ u, u < 10 → ¬ u = v → inR s0 u 7 → inR s u 7) → Ok (f_X10_runs_L51 k15 n (nI v) (nI i) s) P := by
  intro d
  induction d with
  | zero =>
    intro i n s h1 h2 h3 h4 h5
    obtain ⟨n, rfl⟩ : ∃ m, n = m + 1 := ⟨n - 1, by omega⟩
    have : i = 7 := by omega
    subst this
    show Ok (f_X10_runs_B51 _ _ _ _ _) _
    unfold f_X10_runs_B51
    refine ok_pos (by decide) ?_
    rw [nI_1]
    exact hK s h3 h4 h5
  | succ d ih =>
    intro i n s h1 h2 h3 h4 h5
    obtain ⟨n, rfl⟩ : ∃ m, n = m + 1 := ⟨n - 1, by omega⟩
    show Ok (f_X10_runs_B51 _ _ _ _ _) _
    unfold f_X10_runs_B51
    refine ok_neg (by rw [L_7]; exact nI_ge (by omega) (by omega)) ?_
    rw [L_7, pk_mul, nI_add]
    refine ok_I (ok_gi _ rfl (by omega) (ok_S (ok_gi _ rfl (by omega) (ok_S (ok_gi _ rfl (by omega) (ok_S (ok_gi _ rfl (by omega) (ok_S ?_))))))))
    rw [nI_clamp (show 7 * v + i < 2 ^ 31 by omega)]
    generalize hs9 : up3 (up3 (up3 (up3 s 75 0 (7 * v + i) (-1)) 76 0 (7 * v + i) (-1)) 77 0 (7 * v + i) 0) 78 0 (7 * v + i) 0 = s9
    have a9 : Ag [75, 76, 77, 78] s9 s := by
      rw [← hs9]
      exact (((Ag.rfl.up (by decide)).up (by decide)).up (by decide)).up (by decide)
    refine e_i95 _ (x := 7 * v + i) (s0 := s9) (by omega) (fun s' g1 g2 => ?_) 4 0 FU s9 (by omega) (by unfold FU; omega) Ag.rfl ⟨fun l hl => absurd hl (Nat.not_lt_zero l), fun _ _ => rfl⟩
    have e75 : ∀ j, s' 75 0 j = if j = 7 * v + i then -1 else s 75 0 j := fun j => by rw [g1 75 (by decide), ← hs9, up_k (by decide), up_k (by decide), up_k (by decide), up_at]
    have e76 : ∀ j, s' 76 0 j = if j = 7 * v + i then -1 else s 76 0 j := fun j => by rw [g1 76 (by decide), ← hs9, up_k (by decide), up_k (by decide), up_at, up_k (by decide)]
    have e77 : ∀ j, s' 77 0 j = if j = 7 * v + i then 0 else s 77 0 j := fun j => by rw [g1 77 (by decide), ← hs9, up_k (by decide), up_at, up_k (by decide), up_k (by decide)]
    have e78 : ∀ j, s' 78 0 j = if j = 7 * v + i then 0 else s 78 0 j := fun j => by rw [g1 78 (by decide), ← hs9, up_at, up_k (by decide), up_k (by decide), up_k (by decide)]
    have e79 : ∀ j, (j < 4 * (7 * v + i) ∨ 4 * (7 * v + i) + 4 ≤ j) → s' 79 0 j = s 79 0 j := fun j hj => by rw [g2.2 j hj, a9 79 (by decide)]
    have keep : ∀ u q, ¬ (7 * u + q = 7 * v + i) → (s 75 0 (7 * u + q) = -1 ∧ s 76 0 (7 * u + q) = -1 ∧ s 77 0 (7 * u + q) = 0 ∧ s 78 0 (7 * u + q) = 0 ∧ ∀ l, l < 4 → s 79 0 (4 * (7 * u + q) + l) = 0) → (s' 75 0 (7 * u + q) = -1 ∧ s' 76 0 (7 * u + q) = -1 ∧ s' 77 0 (7 * u + q) = 0 ∧ s' 78 0 (7 * u + q) = 0 ∧ ∀ l, l < 4 → s' 79 0 (4 * (7 * u + q) + l) = 0) := by
      intro u q hne hh
      rw [e75, e76, e77, e78, if_neg hne, if_neg hne, if_neg hne, if_neg hne]
      exact ⟨hh.1, hh.2.1, hh.2.2.1, hh.2.2.2.1, fun l hl => by rw [e79 _ (by omega)]; exact hh.2.2.2.2 l hl⟩
    refine ih (i + 1) n s' (by omega) (by omega) ((g1.sub (by decide)).trans ((a9.sub (by decide)).trans h3 [75, 76, 77, 78, 79] (fun k hk => ⟨hk, hk⟩)) _ (fun k hk => ⟨hk, hk⟩)) (fun q hq => ?_) (fun u hu huv hs0 q hq => ?_)
    · by_cases e : q = i
      · rw [e, e75, e76, e77, e78, if_pos rfl, if_pos rfl, if_pos rfl, if_pos rfl]
        exact ⟨rfl, rfl, rfl, rfl, g2.1⟩
      · exact keep v q (by omega) (h4 q (by omega))
    · exact keep u q (by omega) (h5 u hu huv hs0 q hq)
def inS (s : Sg) (c : Cf) (n : Nat) : Prop := ∀ u, u < n → s 80 0 u = 0 ∧ s 81 0 u = sa c u ∧ s 83 0 u = 0 ∧ inR s u 7
theorem e_i15 (k133 : Int32 → Sg → Option Sg) {c : Cf} {s0 : Sg} {P : Sg → Prop} (H : CM s0 c) (hK : ∀ s', Ag rK s' s0 → inS s' c (nv c) → Ok (k133 0 s') P) : ∀ (d v n : Nat) (s : Sg), v + d = nv c → d < n → Ag rK s s0 → inS s c v → Ok (f_X10_runs_L15 k133 n (nI v) s) P := by
  intro d
  induction d with
  | zero =>
    intro v n s h1 h2 h3 h4
    obtain ⟨n, rfl⟩ : ∃ m, n = m + 1 := ⟨n - 1, by omega⟩
    have hv10 := H.1.1
    show Ok (f_X10_runs_B15 _ _ _ _) _
    unfold f_X10_runs_B15
    rw [(CM_r h3 H).2.1]
    have : v = nv c := by omega
    subst this
    exact ok_pos (Int32.le_refl _) (hK s h3 h4)
  | succ d ih =>
    intro v n s h1 h2 h3 h4
    obtain ⟨n, rfl⟩ : ∃ m, n = m + 1 := ⟨n - 1, by omega⟩
    have hv10 := H.1.1
    have Hs := CM_r h3 H
    show Ok (f_X10_runs_B15 _ _ _ _) _
    unfold f_X10_runs_B15
    rw [Hs.2.1]
    refine ok_neg (nI_ge (by omega) (by omega)) (ok_gi v rfl (by omega) (ok_S (ok_gi v rfl (by omega) (ok_gi v rfl (by omega) (ok_S (ok_gi v rfl (by omega) (ok_S ?_)))))))
    rw [nI_clamp (show v < 2 ^ 31 by omega), up_k (show ¬ (51 : Nat) = 80 by decide), (Hs.2.2.1 v (by omega)).1.2.2.2.1, show vp_nar .boolean 0 = 0 from rfl]
    generalize hs7 : up3 (up3 (up3 s 80 0 v 0) 81 0 v (sa c v)) 83 0 v 0 = s7
    have a7 : Ag [80, 81, 83] s7 s := by
      rw [← hs7]
      exact ((Ag.rfl.up (by decide)).up (by decide)).up (by decide)
    refine e_i51 _ (v := v) (s0 := s7) (by omega) (fun s' g1 g2 g3 => ?_) 7 0 FU s7 (by omega) (by unfold FU; omega) Ag.rfl (fun i hi => absurd hi (Nat.not_lt_zero i)) (fun u _ _ h => h)
    refine ih (v + 1) n s' (by omega) (by omega) (g1.r (a7.r h3 (by decide)) (by decide)) (fun u hu => ?_)
    rw [g1 80 (by decide), g1 81 (by decide), g1 83 (by decide)]
    by_cases e : u = v
    · subst e
      refine ⟨?_, ?_, ?_, g2⟩
      · rw [← hs7, up_k (by decide), up_k (by decide), up_s]
      · rw [← hs7, up_k (by decide), up_s]
      · rw [← hs7, up_s]
    · obtain ⟨b1, b2, b3, b4⟩ := h4 u (by omega)
      refine ⟨?_, ?_, ?_, g3 u (by omega) e ?_⟩
      · rw [← hs7, up_k (by decide), up_k (by decide), up_j e]; exact b1
      · rw [← hs7, up_k (by decide), up_j e, up_k (by decide)]; exact b2
      · rw [← hs7, up_j e, up_k (by decide), up_k (by decide)]; exact b3
      · intro i hi
        rw [a7 75 (by decide), a7 76 (by decide), a7 77 (by decide), a7 78 (by decide), a7 79 (by decide)]
        exact b4 i hi
theorem inS_MS {c : Cf} {s : Sg} (h : inS s c (nv c)) : ∀ u, u < nv c → MSv s (Y0 c) u := by
  intro u hu
  obtain ⟨b1, b2, b3, b4⟩ := h u hu
  refine ⟨b1, b2, b3, fun q => absurd (show (0 : Int32) = 1 from q) (by decide), fun i hi => ?_⟩
  obtain ⟨c1, c2, c3, c4, c5⟩ := b4 i hi
  refine ⟨c1, c2, c3, c4, fun l hl => ?_⟩
  rw [c5 l hl]
  show (0 : Int32) = (if 5 + l = 0 then _ else if 5 + l = 1 ∨ 5 + l = 2 then (-1 : Int32) else 0)
  rw [if_neg (by omega), if_neg (by omega)]
/-- runs(): the reference's arrays hold the truth -/
theorem e_runs {c : Cf} {s : Sg} (H : CM s c) (hr : s 10 0 19 = 1 → ∀ u, u < nv c → MSv s (Tr c) u) (h01 : s 10 0 19 = 0 ∨ s 10 0 19 = 1) : Ok (f_X10_runs s) (fun s' => Ag (10 :: rK) s' s ∧ (∀ j, ¬ j = 19 → s' 10 0 j = s 10 0 j) ∧ s' 10 0 19 = 1 ∧ ∀ u, u < nv c → MSv s' (Tr c) u) := by
  unfold f_X10_runs
  rcases h01 with g | g
  · refine ok_pos g (ok_S ?_)
    have a1 : Ag [10] (up3 s 10 0 19 1) s := Ag.rfl.up (by decide)
    have H1 : CM (up3 s 10 0 19 1) c := CM_congr (fun k hk => a1 k (by revert k; decide)) (up_j (by decide)) (up_j (by decide)) H
    have hv10 := H.1.1
    refine e_i15 _ H1 (fun s' g1 g2 => ?_) (nv c) 0 FU _ (by omega) (by unfold FU; omega) Ag.rfl (fun u hu => absurd hu (Nat.not_lt_zero u))
    refine (e_hours H1 20001 0 FU s' (by omega) (by unfold FU; omega) g1 (inS_MS g2)).mono fun q hq => ⟨?_, fun j hj => ?_, ?_, hq.2⟩
    · exact (hq.1.sub (m := 10 :: rK) (by decide)).trans (a1.sub (m := 10 :: rK) (by decide)) _ (fun k hk => ⟨hk, hk⟩)
    · rw [hq.1 10 (by decide), up_j hj]
    · rw [hq.1 10 (by decide), up_s]
  · refine ok_neg (by rw [g]; decide) (ok_some ⟨Ag.rfl, fun _ _ => rfl, g, hr g⟩)
