/-! the class's course: bringUpToDate() gives the truth -/
theorem e_pass1 (k50 : Int32 → Int32 → Sg → Option Sg) {c : Cf} {s0 Y : Sg} {h : Nat} {P : Sg → Prop} (H : CX s0 c) (hY : YA c h Y) (hh : h ≤ 20000) (hK : ∀ s', Ag xK s' s0 → (∀ u, u < nv c → XSv c h s' (fol (arY c h) (nv c) Y) u) → Ok (k50 (nI h) 0 s') P) : ∀ (d v n : Nat) (s : Sg), v + d = nv c → d < n → Ag xK s s0 → (∀ u, u < nv c → XSv c h s (fol (arY c h) v Y) u) → Ok (f_X3_passHour_L2 k50 n (nI h) (nI v) s) P := by
  intro d
  induction d with
  | zero =>
    intro v n s h1 h2 h3 h4
    obtain ⟨n, rfl⟩ : ∃ m, n = m + 1 := ⟨n - 1, by omega⟩
    show Ok (f_X3_passHour_B2 _ _ _ _ _) _
    unfold f_X3_passHour_B2
    rw [(CX_r h3 H).2.1]
    have : v = nv c := by omega
    subst this
    exact ok_pos (Int32.le_refl _) (hK s h3 h4)
  | succ d ih =>
    intro v n s h1 h2 h3 h4
    obtain ⟨n, rfl⟩ : ∃ m, n = m + 1 := ⟨n - 1, by omega⟩
    show Ok (f_X3_passHour_B2 _ _ _ _ _) _
    refine e_arX _ _ (CX_r h3 H) h4 (YA_ars H.1 hh hY v (by omega)).1 (by omega) hh (fun s' hag hm => ?_)
    exact ih (v + 1) n s' (by omega) (by omega) (hag.x h3 (fun _ h => h)) hm
theorem e_pass2 {c : Cf} {s0 Y : Sg} {h : Nat} (H : CX s0 c) (hY : YA c h Y) (hN : YN c h (nv c) Y) (hh : h ≤ 20000) : ∀ (d v n : Nat) (s : Sg), v + d = nv c → d < n → Ag xK s s0 → (∀ u, u < nv c → XSv c (if u < v then h + 1 else h) s (fol (dpY c h) v Y) u) → (∀ u, u < v → SXv c (h + 1) (fol (dpY c h) v Y) u) → Ok (f_X3_passHour_L50 n (nI h) (nI v) s) (fun s' => Ag xK s' s0 ∧ (∀ u, u < nv c → XSv c (h + 1) s' (fol (dpY c h) (nv c) Y) u) ∧ ∀ u, u < nv c → SXv c (h + 1) (fol (dpY c h) (nv c) Y) u) := by
  intro d
  induction d with
  | zero =>
    intro v n s h1 h2 h3 h4 h5
    obtain ⟨n, rfl⟩ : ∃ m, n = m + 1 := ⟨n - 1, by omega⟩
    show Ok (f_X3_passHour_B50 _ _ _ _) _
    unfold f_X3_passHour_B50
    rw [(CX_r h3 H).2.1]
    have : v = nv c := by omega
    subst this
    exact ok_pos (Int32.le_refl _) (ok_some ⟨h3, fun u hu => by have := h4 u hu; rw [if_pos hu] at this; exact this, h5⟩)
  | succ d ih =>
    intro v n s h1 h2 h3 h4 h5
    obtain ⟨n, rfl⟩ : ∃ m, n = m + 1 := ⟨n - 1, by omega⟩
    show Ok (f_X3_passHour_B50 _ _ _ _) _
    refine e_dpX _ (CX_r h3 H) h4 h5 (YA_dps H.1 hh hY hN v (by omega)).1 (by omega) hh (fun s' hag hm hs => ?_)
    exact ih (v + 1) n s' (by omega) (by omega) (hag.x h3 (fun _ h => h)) hm hs
theorem e_passX {c : Cf} {s Y : Sg} {h : Nat} (H : CX s c) (hY : YA c h Y) (hh : h ≤ 20000) (hM : ∀ u, u < nv c → XSv c h s Y u) : Ok (f_X3_passHour (nI h) s) (fun s' => Ag xK s' s ∧ (∀ u, u < nv c → XSv c (h + 1) s' (hrY c h Y) u) ∧ ∀ u, u < nv c → SXv c (h + 1) (hrY c h Y) u) := by
  have hv10 := H.1.1
  obtain ⟨a1, a2⟩ := YA_ars H.1 hh hY (nv c) (Nat.le_refl _)
  unfold f_X3_passHour
  refine e_pass1 _ H hY hh (fun s' g1 g2 => ?_) (nv c) 0 FU s (by omega) (by unfold FU; omega) Ag.rfl hM
  exact e_pass2 H a1 a2 hh (nv c) 0 FU s' (by omega) (by unfold FU; omega) g1 (fun u hu => by rw [if_neg (Nat.not_lt_zero u)]; exact g2 u hu) (fun u hu => absurd hu (Nat.not_lt_zero u))
theorem e_nextL {s : Sg} {N : Nat} (hN : N ≤ 10) (x : Nat → Nat) (hx : ∀ v, v < N → s 6 v 8 = nI (x v) ∧ x v ≤ 1000000) : ∀ (d v n H : Nat), v + d = N → d < n → H ≤ 1000000 → (∀ u, u < v → H ≤ x u) → ∃ H', f_X3_nextHour_L5 n (nI N) (nI H) (nI v) s = some (nI H', s) ∧ H' ≤ H ∧ (∀ u, u < N → H' ≤ x u) ∧ (∀ g, g ≤ H → (∀ u, u < N → g ≤ x u) → g ≤ H') := by
  intro d
  induction d with
  | zero =>
    intro v n H h1 h2 h3 h4
    obtain ⟨n, rfl⟩ : ∃ m, n = m + 1 := ⟨n - 1, by omega⟩
    have : v = N := by omega
    subst this
    refine ⟨H, ?_, Nat.le_refl _, h4, fun g hg _ => hg⟩
    show f_X3_nextHour_B5 _ _ _ _ _ = _
    unfold f_X3_nextHour_B5
    rw [if_pos (Int32.le_refl _)]
  | succ d ih =>
    intro v n H h1 h2 h3 h4
    obtain ⟨n, rfl⟩ : ∃ m, n = m + 1 := ⟨n - 1, by omega⟩
    obtain ⟨x1, x2⟩ := hx v (by omega)
    obtain ⟨H', a1, a2, a3, a4⟩ := ih (v + 1) n (min (x v) H) (by omega) (by omega) (by omega) (fun u hu => by
      by_cases e : u = v
      · subst e; omega
      · have := h4 u (by omega); omega)
    refine ⟨H', ?_, by omega, a3, fun g hg hu => a4 g (by have := hu v (by omega); omega) hu⟩
    show f_X3_nextHour_B5 _ _ _ _ _ = _
    unfold f_X3_nextHour_B5
    rw [if_neg (nI_ge (by omega) (by omega)), chk, if_pos (gi_nI (by omega) (by decide)), nI_clamp (show v < 2 ^ 31 by omega), x1, nI_1]
    have emn : (if nI (x v) < nI H then nI (x v) else nI H) = nI (min (x v) H) := by
      by_cases z : x v < H
      · rw [if_pos (nI_lt z (by omega)), Nat.min_eq_left (by omega)]
      · rw [if_neg (nI_nlt (by omega) (by omega)), Nat.min_eq_right (by omega)]
    rw [emn]
    exact a1
/-- the next hour in which something can happen -/
theorem e_nextX {c : Cf} {s Y : Sg} {g : Nat} (H : CX s c) (hY : YA c g Y) (hM : ∀ u, u < nv c → XSv c g s Y u) (hg : g ≤ 20001) : ∃ h, f_X3_nextHour (nI (nv c)) s = some (nI h, s) ∧ g ≤ h ∧ h ≤ 1000000 ∧ ∀ u, u < nv c → ∃ x, s 6 u 8 = nI x ∧ h ≤ x ∧ x ≤ 1000000 := by
  have hv10 := H.1.1
  have ex : ∀ u, ∃ x, u < nv c → s 6 u 8 = nI x ∧ g ≤ x ∧ x ≤ 1000000 := fun u => by
    by_cases hu : u < nv c
    · obtain ⟨x, h1⟩ := XS_next (hY u hu) (hM u hu) hg
      exact ⟨x, fun _ => h1⟩
    · exact ⟨0, fun h => absurd h hu⟩
  let x : Nat → Nat := fun u => (ex u).choose
  have hx : ∀ u, u < nv c → s 6 u 8 = nI (x u) ∧ g ≤ x u ∧ x u ≤ 1000000 := fun u hu => (ex u).choose_spec hu
  obtain ⟨h, a1, a2, a3, a4⟩ := e_nextL hv10 x (fun v hv => ⟨(hx v hv).1, (hx v hv).2.2⟩) (nv c) 0 FU 1000000 (by omega) (by unfold FU; omega) (Nat.le_refl _) (fun u hu => absurd hu (Nat.not_lt_zero u))
  exact ⟨h, a1, a4 g (by omega) (fun u hu => (hx u hu).2.1), a2, fun u hu => ⟨x u, (hx u hu).1, a3 u hu, (hx u hu).2.2⟩⟩
theorem fol_id {f : Nat → Sg → Sg} {Y : Sg} : ∀ {n : Nat}, (∀ v, v < n → f v Y = Y) → fol f n Y = Y := by
  intro n
  induction n with
  | zero => intro _; rfl
  | succ n ih =>
    intro h
    show f n (fol f n Y) = Y
    rw [ih (fun v hv => h v (by omega))]
    exact h n (by omega)
/-- an hour in which nothing happens -/
theorem hr_skip {c : Cf} {s Y : Sg} {g h : Nat} (hYs : ∀ u, u < nv c → YV c g Y u) (hM : ∀ u, u < nv c → XSv c g s Y u) (hS : ∀ u, u < nv c → SXv c g Y u) (hg : g ≤ h) (hh : h ≤ 20000) (hx : ∀ u, u < nv c → ∃ x, s 6 u 8 = nI x ∧ h < x ∧ x ≤ 1000000) : hrY c h Y = Y := by
  unfold hrY
  have e1 : fol (arY c h) (nv c) Y = Y := by
    refine fol_id (fun v hv => if_neg (fun q => ?_))
    obtain ⟨x, x1, x2, x3⟩ := hx v hv
    obtain ⟨-, -, -, m4, -⟩ := hM v hv
    rw [← (m4 q.1).1, x1, nI_eq (by omega) (by omega)] at q
    omega
  rw [e1]
  refine fol_id (fun v hv => if_neg (fun q => ?_))
  obtain ⟨x, x1, x2, x3⟩ := hx v hv
  obtain ⟨-, -, -, -, m5, -⟩ := hM v hv
  obtain ⟨q1, q2, q3, q4⟩ := q
  obtain ⟨r, x', r1, r2, r3, r4, r5, r6⟩ := (m5 q1).2.1 q2
  rw [x1, nI_eq (by omega) (by omega)] at r3
  subst r3
  rw [r1, nI_leI (by omega) (by omega)] at q3
  rcases r6 with ⟨z1, z2⟩ | ⟨z1, z2, u, j, z3, z4⟩
  · omega
  · obtain ⟨u', j', w1, w2⟩ := hS v hv q1 q2 r r1 r4 z1
    rw [z3] at w1
    cases w1
    have : wai c h v Y = true := by
      unfold wai
      rw [z3]
      dsimp only
      rw [decide_eq_true w2, z4 h hg x2]
      rfl
    rw [this] at q4
    exact absurd q4 (by decide)
theorem run_skip {c : Cf} {s Y : Sg} {g : Nat} (hM : ∀ u, u < nv c → XSv c g s Y u) (hYs : ∀ u, u < nv c → YV c g Y u) (hS : ∀ u, u < nv c → SXv c g Y u) (hr : runY c g = Y) : ∀ (d H : Nat), g + d = H → H ≤ 20001 → (∀ u, u < nv c → ∃ x, s 6 u 8 = nI x ∧ H ≤ x ∧ x ≤ 1000000) → runY c H = Y := by
  intro d
  induction d with
  | zero => intro H h1 _ _; have : H = g := by omega
            subst this; exact hr
  | succ d ih =>
    intro H h1 h2 h3
    obtain ⟨H, rfl⟩ : ∃ m, H = m + 1 := ⟨H - 1, by omega⟩
    show hrY c H (runY c H) = Y
    rw [ih H (by omega) (by omega) (fun u hu => by obtain ⟨x, a, b, d⟩ := h3 u hu; exact ⟨x, a, by omega, d⟩)]
    exact hr_skip hYs hM hS (by omega) (by omega) (fun u hu => by obtain ⟨x, a, b, d⟩ := h3 u hu; exact ⟨x, a, by omega, d⟩)
/-- what the class's rows say of the truth -/
def RX (s : Sg) (c : Cf) : Prop := ∀ v, v < nv c → (∀ i, i < 7 → s 30 v i = Tr c 1 v i ∧ s 31 v i = Tr c 2 v i ∧ (¬ Tr c 2 v i = -1 → s 32 v i = Tr c 3 v i)) ∧ ∀ i k, 1 ≤ i → i ≤ pl (Tr c) v → k < 5 → s 33 v (5 * i + k) = Tr c (4 + k) v i
theorem XS_RX {c : Cf} {g : Nat} {s : Sg} (hM : ∀ u, u < nv c → XSv c g s (Tr c) u) : RX s c := fun v hv => ⟨(hM v hv).2.2.1, (hM v hv).2.2.2.2.2⟩
theorem e_loopX {c : Cf} {s0 : Sg} (H0 : CX s0 c) : ∀ (n g h t : Nat) (s : Sg), 20001 - g < n → g ≤ 20001 → t ≤ g → g ≤ h → h ≤ 1000000 → Ag xK s s0 → (∀ u, u < nv c → XSv c g s (runY c g) u) → (∀ u, u < nv c → SXv c g (runY c g) u) → (∀ u, u < nv c → ∃ x, s 6 u 8 = nI x ∧ h ≤ x ∧ x ≤ 1000000) → Ok (f_X3_bringUpToDate_L50 n (nI h) (nI t) s) (fun s' => Ag (3 :: xK) s' s0 ∧ Ro 3 0 s' s0 ∧ (∀ j, ¬ j = 2 → s' 3 0 j = s0 3 0 j) ∧ s' 3 0 2 = 0 ∧ RX s' c) := by
  intro n
  induction n with
  | zero => intro g h t s h1; omega
  | succ n ih =>
    intro g h t s h1 h2 h3 h4 h5 h6 h7 h8 h9
    have H := CX_r h6 H0
    have hYg := YA_run H0.1 g h2
    have fin : RX s c → Ok (some (up3 s 3 0 2 0)) (fun s' => Ag (3 :: xK) s' s0 ∧ Ro 3 0 s' s0 ∧ (∀ j, ¬ j = 2 → s' 3 0 j = s0 3 0 j) ∧ s' 3 0 2 = 0 ∧ RX s' c) := by
      intro hr
      refine ok_some ⟨(h6.sub (m := 3 :: xK) (by decide)).up (by decide), Ro.up (Ro.of (h6 3 (by decide))), fun j hj => by rw [up_j hj, h6 3 (by decide)], up_s, ?_⟩
      unfold RX
      rw [up_k (by decide), up_k (by decide), up_k (by decide), up_k (by decide)]
      exact hr
    show Ok (f_X3_bringUpToDate_B50 _ _ _ _) _
    unfold f_X3_bringUpToDate_B50
    by_cases ht : 20000 < t
    · refine ok_pos (by rw [L_20000]; exact nI_lt ht (by omega)) (fin ?_)
      have : g = 20001 := by omega
      subst this
      exact XS_RX h7
    refine ok_neg (by rw [L_20000]; exact nI_nlt (by omega) (by omega)) ?_
    by_cases hh : 20000 < h
    · refine ok_pos (by rw [L_20000]; exact nI_lt hh (by omega)) (fin ?_)
      have e : runY c 20001 = runY c g := run_skip h7 hYg h8 rfl (20001 - g) 20001 (by omega) (Nat.le_refl _) (fun u hu => by obtain ⟨x, a, b, d⟩ := h9 u hu; exact ⟨x, a, by omega, d⟩)
      rw [← e] at h7
      exact XS_RX (g := g) h7
    refine ok_neg (by rw [L_20000]; exact nI_nlt (by omega) (by omega)) ?_
    have e : runY c h = runY c g := run_skip h7 hYg h8 rfl (h - g) h (by omega) (by omega) h9
    have hYh := YA_run H0.1 h (by omega)
    have hMh : ∀ u, u < nv c → XSv c h s (runY c h) u := fun u hu => by
      rw [e]
      refine XSv_mono (h7 u hu) h4 (fun x hx1 hx2 => ?_)
      obtain ⟨x', a, b, d⟩ := h9 u hu
      rw [a, nI_eq (by omega) (by omega)] at hx1
      omega
    refine ok_bind (e_passX H hYh (by omega) hMh) (fun q hq => ?_)
    obtain ⟨q1, q2, q3⟩ := hq
    have q1' : Ag xK q s0 := q1.x h6 (fun _ h => h)
    have Hq := CX_r q1' H0
    obtain ⟨h', n1, n2, n3, n4⟩ := e_nextX (Y := runY c (h + 1)) Hq (YA_run H0.1 (h + 1) (by omega)) q2 (by omega)
    rw [Hq.2.1]
    refine ok_call n1 ?_
    dsimp only
    rw [nI_1]
    exact ih (h + 1) h' (t + 1) q (by omega) (by omega) (by omega) n2 n3 q1' q2 q3 n4
theorem e_fillL30 {s0 : Sg} {v : Nat} {x : Int32} : ∀ (d i n : Nat) (s : Sg), i + d = 7 → d < n → Ag [30] s s0 → Ro 30 v s s0 → (∀ j, j < i → s 30 v j = x) → Ok (f_J7_fill_30_L5 n v x (nI i) 7 s) (fun s' => Ag [30] s' s0 ∧ Ro 30 v s' s0 ∧ ∀ j, j < 7 → s' 30 v j = x) := by
  intro d
  induction d with
  | zero =>
    intro i n s h1 h2 h3 h4 h5
    obtain ⟨n, rfl⟩ : ∃ m, n = m + 1 := ⟨n - 1, by omega⟩
    have : i = 7 := by omega
    subst this
    show Ok (f_J7_fill_30_B5 _ _ _ _ _ _) _
    unfold f_J7_fill_30_B5
    exact ok_pos (Int32.le_refl _) (ok_some ⟨h3, h4, h5⟩)
  | succ d ih =>
    intro i n s h1 h2 h3 h4 h5
    obtain ⟨n, rfl⟩ : ∃ m, n = m + 1 := ⟨n - 1, by omega⟩
    show Ok (f_J7_fill_30_B5 _ _ _ _ _ _) _
    unfold f_J7_fill_30_B5
    refine ok_neg (by rw [L_7]; exact nI_ge (by omega) (by omega)) (ok_gi i rfl (by omega) (ok_S ?_))
    rw [nI_clamp (show i < 2 ^ 31 by omega), nI_1]
    refine ih (i + 1) n _ (by omega) (by omega) (h3.up (by decide)) h4.up (fun j hj => ?_)
    by_cases e : j = i
    · subst e; rw [up_s]
    · rw [up_j e]; exact h5 j (by omega)
theorem e_fill30 (s : Sg) (v : Nat) (x : Int32) : Ok (f_J7_fill_30 v x s) (fun s' => Ag [30] s' s ∧ Ro 30 v s' s ∧ ∀ j, j < 7 → s' 30 v j = x) := by
  unfold f_J7_fill_30
  exact e_fillL30 7 0 FU s (by omega) (by unfold FU; omega) Ag.rfl Ro.rfl (fun j hj => absurd hj (Nat.not_lt_zero j))
theorem e_fillL31 {s0 : Sg} {v : Nat} {x : Int32} : ∀ (d i n : Nat) (s : Sg), i + d = 7 → d < n → Ag [31] s s0 → Ro 31 v s s0 → (∀ j, j < i → s 31 v j = x) → Ok (f_J7_fill_31_L5 n v x (nI i) 7 s) (fun s' => Ag [31] s' s0 ∧ Ro 31 v s' s0 ∧ ∀ j, j < 7 → s' 31 v j = x) := by
  intro d
  induction d with
  | zero =>
    intro i n s h1 h2 h3 h4 h5
    obtain ⟨n, rfl⟩ : ∃ m, n = m + 1 := ⟨n - 1, by omega⟩
    have : i = 7 := by omega
    subst this
    show Ok (f_J7_fill_31_B5 _ _ _ _ _ _) _
    unfold f_J7_fill_31_B5
    exact ok_pos (Int32.le_refl _) (ok_some ⟨h3, h4, h5⟩)
  | succ d ih =>
    intro i n s h1 h2 h3 h4 h5
    obtain ⟨n, rfl⟩ : ∃ m, n = m + 1 := ⟨n - 1, by omega⟩
    show Ok (f_J7_fill_31_B5 _ _ _ _ _ _) _
    unfold f_J7_fill_31_B5
    refine ok_neg (by rw [L_7]; exact nI_ge (by omega) (by omega)) (ok_gi i rfl (by omega) (ok_S ?_))
    rw [nI_clamp (show i < 2 ^ 31 by omega), nI_1]
    refine ih (i + 1) n _ (by omega) (by omega) (h3.up (by decide)) h4.up (fun j hj => ?_)
    by_cases e : j = i
    · subst e; rw [up_s]
    · rw [up_j e]; exact h5 j (by omega)
theorem e_fill31 (s : Sg) (v : Nat) (x : Int32) : Ok (f_J7_fill_31 v x s) (fun s' => Ag [31] s' s ∧ Ro 31 v s' s ∧ ∀ j, j < 7 → s' 31 v j = x) := by
  unfold f_J7_fill_31
  exact e_fillL31 7 0 FU s (by omega) (by unfold FU; omega) Ag.rfl Ro.rfl (fun j hj => absurd hj (Nat.not_lt_zero j))
theorem e_fillL34 {s0 : Sg} {v : Nat} {x : Int32} : ∀ (d i n : Nat) (s : Sg), i + d = 5 → d < n → Ag [34] s s0 → Ro 34 v s s0 → (∀ j, j < i → s 34 v j = x) → Ok (f_J7_fill_34_L5 n v x (nI i) 5 s) (fun s' => Ag [34] s' s0 ∧ Ro 34 v s' s0 ∧ ∀ j, j < 5 → s' 34 v j = x) := by
  intro d
  induction d with
  | zero =>
    intro i n s h1 h2 h3 h4 h5
    obtain ⟨n, rfl⟩ : ∃ m, n = m + 1 := ⟨n - 1, by omega⟩
    have : i = 5 := by omega
    subst this
    show Ok (f_J7_fill_34_B5 _ _ _ _ _ _) _
    unfold f_J7_fill_34_B5
    exact ok_pos (Int32.le_refl _) (ok_some ⟨h3, h4, h5⟩)
  | succ d ih =>
    intro i n s h1 h2 h3 h4 h5
    obtain ⟨n, rfl⟩ : ∃ m, n = m + 1 := ⟨n - 1, by omega⟩
    show Ok (f_J7_fill_34_B5 _ _ _ _ _ _) _
    unfold f_J7_fill_34_B5
    refine ok_neg (by rw [L_5]; exact nI_ge (by omega) (by omega)) (ok_gi i rfl (by omega) (ok_S ?_))
    rw [nI_clamp (show i < 2 ^ 31 by omega), nI_1]
    refine ih (i + 1) n _ (by omega) (by omega) (h3.up (by decide)) h4.up (fun j hj => ?_)
    by_cases e : j = i
    · subst e; rw [up_s]
    · rw [up_j e]; exact h5 j (by omega)
theorem e_fill34 (s : Sg) (v : Nat) (x : Int32) : Ok (f_J7_fill_34 v x s) (fun s' => Ag [34] s' s ∧ Ro 34 v s' s ∧ ∀ j, j < 5 → s' 34 v j = x) := by
  unfold f_J7_fill_34
  exact e_fillL34 5 0 FU s (by omega) (by unfold FU; omega) Ag.rfl Ro.rfl (fun j hj => absurd hj (Nat.not_lt_zero j))
theorem e_beginX {c : Cf} {s : Sg} {v : Nat} (H : CX s c) (hv : v < nv c) : Ok (f_X6_begin v v s) (fun s' => Ag xK s' s ∧ (∀ u, ¬ u = v → ∀ k, k ∈ xR → s' k u = s k u) ∧ XSv c 0 s' (Y0 c) v) := by
  unfold f_X6_begin
  refine ok_bind (e_fill30 s v (-1)) (fun q1 hq1 => ok_bind (e_fill31 q1 v (-1)) (fun q2 hq2 => ok_bind (e_fill34 q2 v 0) (fun q3 hq3 => ok_S ?_)))
  obtain ⟨a1, a2, a3⟩ := hq1
  obtain ⟨b1, b2, b3⟩ := hq2
  obtain ⟨d1, d2, d3⟩ := hq3
  have ag3 : Ag xK q3 s := d1.x (b1.x (a1.x Ag.rfl (by decide)) (by decide)) (by decide)
  have ag4 : Ag xK (up3 q3 6 v 5 0) s := ag3.up (by decide)
  have H4 := CX_r ag4 H
  refine ok_call (e_lvX (i := 0) H4 hv (by omega)) ?_
  dsimp only
  have hlg := (H.1.2.1 v hv).1
  have e0 : pl (Y0 c) v = 0 := by unfold pl; exact tn_0
  have main : ∀ rd : Int32, ((0 < lg c v ∧ rd = sa c v) ∨ (¬ 0 < lg c v ∧ rd = 1000000)) → Ok (f_X6_begin_B47 v rd (up3 q3 6 v 5 0)) (fun s' => Ag xK s' s ∧ (∀ u, ¬ u = v → ∀ k, k ∈ xR → s' k u = s k u) ∧ XSv c 0 s' (Y0 c) v) := by
    intro rd hrd
    unfold f_X6_begin_B47 f_X6_lieInPort
    refine ok_bind (Q := fun z => z = up3 (up3 (up3 (up3 q3 6 v 5 0) 6 v 6 0) 6 v 7 rd) 6 v 8 rd) (ok_S (ok_S (ok_S (ok_some rfl)))) (fun z hz => ok_some ?_)
    subst hz
    have e6 : ∀ k, ¬ k = 6 → (up3 (up3 (up3 (up3 q3 6 v 5 0) 6 v 6 0) 6 v 7 rd) 6 v 8 rd) k = q3 k := fun k hk => by rw [up_k hk, up_k hk, up_k hk, up_k hk]
    refine ⟨((ag4.up (by decide)).up (by decide)).up (by decide), fun u hu k hk => ?_, ?_⟩
    · have : k = 6 ∨ k = 30 ∨ k = 31 ∨ k = 32 ∨ k = 33 ∨ k = 34 := by simpa [xR] using hk
      rcases this with rfl | rfl | rfl | rfl | rfl | rfl
      · rw [up_i hu, up_i hu, up_i hu, up_i hu, d1 6 (by decide), b1 6 (by decide), a1 6 (by decide)]
      · rw [e6 30 (by decide), d1 30 (by decide), b1 30 (by decide), a2 u hu]
      · rw [e6 31 (by decide), d1 31 (by decide), b2 u hu, a1 31 (by decide)]
      · rw [e6 32 (by decide), d1 32 (by decide), b1 32 (by decide), a1 32 (by decide)]
      · rw [e6 33 (by decide), d1 33 (by decide), b1 33 (by decide), a1 33 (by decide)]
      · rw [e6 34 (by decide), d2 u hu, b1 34 (by decide), a1 34 (by decide)]
    · refine ⟨?_, ?_, fun i hi => ⟨?_, ?_, fun z => absurd rfl z⟩, fun z => absurd (show (0 : Int32) = 1 from z) (by decide), fun _ => ⟨fun k hk => ?_, fun hl => ?_, fun hl => ?_⟩, fun i k h1 h2 => by rw [e0] at h2; omega⟩
      · rw [up_j (by decide), up_j (by decide), up_j (by decide), up_s]; rfl
      · rw [up_j (by decide), up_j (by decide), up_s]; rfl
      · rw [e6 30 (by decide), d1 30 (by decide), b1 30 (by decide), a3 i hi]; rfl
      · rw [e6 31 (by decide), d1 31 (by decide), b3 i hi]; rfl
      · rw [e6 34 (by decide), d3 k hk]
        show (0 : Int32) = (if 4 + k = 0 then _ else if 4 + k = 1 ∨ 4 + k = 2 then (-1 : Int32) else 0)
        rw [if_neg (by omega), if_neg (by omega)]
      · rw [e0] at hl
        rcases hrd with ⟨_, r1⟩ | ⟨r0, _⟩
        · obtain ⟨y, y1, y2⟩ := cok_sa H.1 hv
          exact ⟨y, y, y2, by rw [up_j (by decide), up_s, r1]; exact y2, by rw [up_s, r1]; exact y2, by omega, by omega, Or.inl ⟨Nat.zero_le _, rfl⟩⟩
        · exact absurd hl r0
      · rw [e0] at hl
        rcases hrd with ⟨r0, _⟩ | ⟨_, r1⟩
        · exact absurd r0 hl
        · exact ⟨by rw [up_j (by decide), up_s, r1], by rw [up_s, r1]⟩
  by_cases g : 0 < lg c v
  · rw [decide_eq_true g]
    refine ok_neg (by decide) ?_
    exact main _ (Or.inl ⟨g, (H4.2.2.1 v hv).1.2.2.1⟩)
  · rw [decide_eq_false g]
    exact ok_pos rfl (main _ (Or.inr ⟨g, rfl⟩))
theorem e_begins (k50 : Int32 → Int32 → Sg → Option Sg) {c : Cf} {s0 : Sg} {P : Sg → Prop} (H0 : CX s0 c) (hK : ∀ s' h, Ag xK s' s0 → (∀ u, u < nv c → XSv c 0 s' (Y0 c) u) → h ≤ 1000000 → (∀ u, u < nv c → ∃ x, s' 6 u 8 = nI x ∧ h ≤ x ∧ x ≤ 1000000) → Ok (k50 (nI h) 0 s') P) : ∀ (d v n : Nat) (s : Sg), v + d = nv c → d < n → Ag xK s s0 → (∀ u, u < v → XSv c 0 s (Y0 c) u) → Ok (f_X3_bringUpToDate_L10 k50 n (nI v) s) P := by
  intro d
  induction d with
  | zero =>
    intro v n s h1 h2 h3 h4
    obtain ⟨n, rfl⟩ : ∃ m, n = m + 1 := ⟨n - 1, by omega⟩
    have H := CX_r h3 H0
    have : v = nv c := by omega
    subst this
    obtain ⟨h, n1, n2, n3, n4⟩ := e_nextX (Y := Y0 c) H (YA_0 H0.1) h4 (by omega)
    show Ok (f_X3_bringUpToDate_B10 _ _ _ _) _
    unfold f_X3_bringUpToDate_B10
    rw [H.2.1]
    exact ok_pos (Int32.le_refl _) (ok_call n1 (hK s h h3 h4 n3 n4))
  | succ d ih =>
    intro v n s h1 h2 h3 h4
    obtain ⟨n, rfl⟩ : ∃ m, n = m + 1 := ⟨n - 1, by omega⟩
    have H := CX_r h3 H0
    have hv10 := H0.1.1
    show Ok (f_X3_bringUpToDate_B10 _ _ _ _) _
    unfold f_X3_bringUpToDate_B10
    rw [H.2.1]
    refine ok_neg (nI_ge (by omega) (by omega)) (ok_gi v rfl (by omega) (ok_gi v rfl (by omega) ?_))
    rw [nI_clamp (show v < 2 ^ 31 by omega), nI_1]
    refine ok_bind (e_beginX H (by omega)) (fun q hq => ?_)
    obtain ⟨q1, q2, q3⟩ := hq
    refine ih (v + 1) n q (by omega) (by omega) (q1.x h3 (fun _ h => h)) (fun u hu => ?_)
    by_cases e : u = v
    · subst e; exact q3
    · exact XSv_of (q2 u e) (fun _ => rfl) (h4 u (by omega))
/-- bringUpToDate(): the class's rows hold the truth -/
theorem e_upToDate {c : Cf} {s : Sg} (H : CX s c) (hr : s 3 0 2 = 0 → RX s c) : Ok (f_X3_bringUpToDate s) (fun s' => Ag (3 :: xK) s' s ∧ (∀ j, ¬ j = 2 → s' 3 0 j = s 3 0 j) ∧ s' 3 0 2 = 0 ∧ RX s' c) := by
  have hv10 := H.1.1
  unfold f_X3_bringUpToDate
  refine ok_ite (fun g => ok_some ⟨Ag.rfl, fun _ _ => rfl, g, hr g⟩) (fun _ => ?_)
  refine e_begins _ H (fun s' h g1 g2 g3 g4 => ?_) (nv c) 0 FU s (by omega) (by unfold FU; omega) Ag.rfl (fun u hu => absurd hu (Nat.not_lt_zero u))
  refine (e_loopX H FU 0 h 0 s' (by unfold FU; omega) (by omega) (Nat.le_refl _) (Nat.zero_le _) g3 g1 g2 (fun u hu _ _ r _ _ hr0 => absurd hr0 (Nat.not_lt_zero r)) g4).mono fun q hq => ⟨hq.1, hq.2.2.1, hq.2.2.2.1, hq.2.2.2.2⟩
