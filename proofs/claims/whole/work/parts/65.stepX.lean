/-! the class's course: its state, an hour of it -/
def PX (c : Cf) (g : Nat) (s Y : Sg) (v : Nat) : Prop := ∃ r x, Y 0 v 1 = nI r ∧ s 6 v 7 = nI r ∧ s 6 v 8 = nI x ∧ r ≤ 200000 ∧ x ≤ 300000 ∧ ((g ≤ r ∧ x = r) ∨ (r < g ∧ g ≤ x ∧ ∃ u j, mt c v (pl Y v) = some (u, j) ∧ ∀ h', g ≤ h' → h' < x → waC (fW c Y h' v u j) (ct c (ln c v)) = true))
def XSv (c : Cf) (g : Nat) (s Y : Sg) (v : Nat) : Prop := s 6 v 5 = Y 0 v 0 ∧ s 6 v 6 = Y 0 v 2 ∧ (∀ i, i < 7 → s 30 v i = Y 1 v i ∧ s 31 v i = Y 2 v i ∧ (¬ Y 2 v i = -1 → s 32 v i = Y 3 v i)) ∧ (Y 0 v 2 = 1 → s 6 v 8 = Y 0 v 3 ∧ HF s v (wS (fun k => Y (4 + k) v (pl Y v)) (Y 3 v (pl Y v)) (mlin c v (pl Y v)))) ∧ (Y 0 v 2 = 0 → HF s v (fun k => Y (4 + k) v (pl Y v)) ∧ (pl Y v < lg c v → PX c g s Y v) ∧ (¬ pl Y v < lg c v → s 6 v 7 = 1000000 ∧ s 6 v 8 = 1000000)) ∧ ∀ i k, 1 ≤ i → i ≤ pl Y v → k < 5 → s 33 v (5 * i + k) = Y (4 + k) v i
def SXv (c : Cf) (g : Nat) (Y : Sg) (v : Nat) : Prop := Y 0 v 2 = 0 → pl Y v < lg c v → ∀ r, Y 0 v 1 = nI r → r ≤ 200000 → r < g → ∃ u j, mt c v (pl Y v) = some (u, j) ∧ Y 1 u j = -1
def xR : List Nat := [6, 30, 31, 32, 33, 34]
theorem XSv_of {c : Cf} {g : Nat} {s s' Y Y' : Sg} {u : Nat} (e : ∀ k, k ∈ xR → s' k u = s k u) (e2 : ∀ k, Y' k u = Y k u) (H : XSv c g s Y u) : XSv c g s' Y' u := by
  have epl : pl Y' u = pl Y u := by unfold pl; rw [e2]
  have eW : ∀ h' uu j, fW c Y' h' u uu j = fW c Y h' u uu j := fun h' uu j => by unfold fW; rw [epl, e2]
  unfold XSv PX HF at H ⊢
  rw [epl]
  simp only [e 6 (by decide), e 30 (by decide), e 31 (by decide), e 32 (by decide), e 33 (by decide), e 34 (by decide), e2, eW]
  exact H
theorem XSv_mono {c : Cf} {g H : Nat} {s Y : Sg} {v : Nat} (h : XSv c g s Y v) (hg : g ≤ H) (hn : ∀ x, s 6 v 8 = nI x → x ≤ 1000000 → H ≤ x) : XSv c H s Y v := by
  obtain ⟨a1, a2, a3, a4, a5, a6⟩ := h
  refine ⟨a1, a2, a3, a4, fun q => ?_, a6⟩
  obtain ⟨b1, b2, b3⟩ := a5 q
  refine ⟨b1, fun hl => ?_, b3⟩
  obtain ⟨r, x, c1, c2, c3, c4, c5, c6⟩ := b2 hl
  have hx := hn x c3 (by omega)
  refine ⟨r, x, c1, c2, c3, c4, c5, ?_⟩
  rcases c6 with ⟨d1, d2⟩ | ⟨d1, d2, u, j, d3, d4⟩
  · exact Or.inl ⟨by omega, d2⟩
  · exact Or.inr ⟨by omega, hx, u, j, d3, fun h' e1 e2 => d4 h' (by omega) e2⟩
/-- the hour in which it comes or is asked next -/
theorem XS_next {c : Cf} {g : Nat} {s Y : Sg} {v : Nat} (hY : YV c g Y v) (h : XSv c g s Y v) (hg : g ≤ 20001) : ∃ x, s 6 v 8 = nI x ∧ g ≤ x ∧ x ≤ 1000000 := by
  obtain ⟨y1, y2, y3, y4, y5, y6, y7⟩ := hY
  obtain ⟨a1, a2, a3, a4, a5, a6⟩ := h
  rcases y3 with q | q
  · by_cases hl : pl Y v < lg c v
    · obtain ⟨r, x, c1, c2, c3, c4, c5, c6⟩ := (a5 q).2.1 hl
      refine ⟨x, c3, ?_, by omega⟩
      rcases c6 with ⟨d1, d2⟩ | ⟨d1, d2, -⟩ <;> omega
    · exact ⟨1000000, ((a5 q).2.2 hl).2, by omega, Nat.le_refl _⟩
  · obtain ⟨-, ⟨a, b1, b2, b3⟩, -⟩ := y5 q
    exact ⟨a, by rw [(a4 q).1]; exact b1, b2, by omega⟩
theorem e_arX (k2 k50 : Int32 → Int32 → Sg → Option Sg) {c : Cf} {s Y : Sg} {h v : Nat} {P : Sg → Prop} (H : CX s c) (hM : ∀ u, u < nv c → XSv c h s Y u) (hY : ∀ u, u < nv c → YV c h Y u) (hv : v < nv c) (hh : h ≤ 20000) (hK : ∀ s', Ag xK s' s → (∀ u, u < nv c → XSv c h s' (arY c h v Y) u) → Ok (k2 (nI h) (nI (v + 1)) s') P) : Ok (f_X3_passHour_B2 k2 k50 (nI h) (nI v) s) P := by
  have hv10 := H.1.1
  have hlg := (H.1.2.1 v hv).1
  have hln := (H.1.2.1 v hv).2.1
  have hXv := hM v hv
  obtain ⟨m1, m2, m3, m4, m5, m6⟩ := hM v hv
  obtain ⟨y1, y2, y3, y4, y5, y6, y7⟩ := hY v hv
  unfold f_X3_passHour_B2
  rw [H.2.1]
  refine ok_neg (nI_ge hv (by omega)) (ok_gi v rfl (by omega) ?_)
  rw [nI_clamp (show v < 2 ^ 31 by omega), m2, nI_1]
  rcases y3 with g | g
  · have e : arY c h v Y = Y := if_neg (fun q => by rw [g] at q; exact absurd q.1 (by decide))
    rw [e] at hK
    exact ok_pos g (hK s Ag.rfl hM)
  refine ok_neg (by rw [g]; decide) (ok_gi v rfl (by omega) ?_)
  obtain ⟨p1, ⟨a, a1, a2, a3⟩, ⟨t, t1, t2⟩, w, w1, w2⟩ := y5 g
  obtain ⟨n1, n2⟩ := m4 g
  rw [n1, a1]
  by_cases ha : h < a
  · have e : arY c h v Y = Y := if_neg (fun q => by rw [a1, nI_eq (by omega) (by omega)] at q; omega)
    rw [e] at hK
    exact ok_pos (nI_lt ha (by omega)) (hK s Ag.rfl hM)
  have hah : a = h := by omega
  subst hah
  refine ok_neg (nI_nlt (by omega) (by omega)) ?_
  have ea : arY c a v Y = up3 (up3 (up3 (up3 (up3 (up3 (up3 (up3 (up3 Y 4 v (pl Y v + 1) (shs c a v Y 0)) 5 v (pl Y v + 1) (shs c a v Y 1)) 6 v (pl Y v + 1) (shs c a v Y 2)) 7 v (pl Y v + 1) (shs c a v Y 3)) 8 v (pl Y v + 1) (shs c a v Y 4)) 1 v (pl Y v + 1) (nI a)) 0 v 0 (nI (pl Y v + 1))) 0 v 2 0) 0 v 1 (if pl Y v + 1 < lg c v ∧ nI a + sy c v < dL c v (pl Y v + 1) then dL c v (pl Y v + 1) else nI a + sy c v) := if_pos ⟨g, a1⟩
  have hsh := shs_eq (c := c) (h := a) (v := v) (t := t) (Y := Y) t1 (by omega)
  unfold shF at hsh
  generalize hp : pl Y v = p at *
  have h31 : s 31 v p = nI t := by rw [(m3 p (by omega)).2.1]; exact t1
  have h32 : s 32 v p = Y 3 v p := (m3 p (by omega)).2.2 (by rw [t1]; exact nIm1 (by omega))
  refine ok_bind (e_comeX (w := Y 3 v p) (S1 := wS (fun k => Y (4 + k) v p) (Y 3 v p) (mlin c v p)) H hv p1 hh (by rw [m1]; exact y1) h31 (by omega) h32 n2) (fun q hq => ?_)
  rw [← t1, ← hsh] at hq
  obtain ⟨q1, q2, q3, q4, q5, q6, q7, q8, q9, q10, q11, q12, q13⟩ := hq
  refine hK q (q1.x Ag.rfl (by decide)) (fun u hu => ?_)
  by_cases huv : u = v
  rotate_left
  · refine XSv_of (fun k hk => ?_) (fun k => arY_o huv) (hM u hu)
    have : k = 6 ∨ k = 30 ∨ k = 31 ∨ k = 32 ∨ k = 33 ∨ k = 34 := by simpa [xR] using hk
    rcases this with rfl | rfl | rfl | rfl | rfl | rfl
    · exact q2 u huv
    · exact q3 u huv
    · rw [q1 31 (by decide)]
    · rw [q1 32 (by decide)]
    · exact q4 u huv
    · exact q5 u huv
  subst huv
  have epl : pl (arY c a u Y) u = p + 1 := by
    unfold pl
    rw [ea, up_j (by omega), up_j (by omega), up_s, nI_clamp (by omega)]
  have e4 : ∀ k i, k < 5 → arY c a u Y (4 + k) u i = if i = p + 1 then shs c a u Y k else Y (4 + k) u i := by
    intro k i hk
    rw [ea]
    rcases (show k = 0 ∨ k = 1 ∨ k = 2 ∨ k = 3 ∨ k = 4 by omega) with rfl | rfl | rfl | rfl | rfl <;> simp [up_k, up_at]
  have e1 : ∀ i, arY c a u Y 1 u i = if i = p + 1 then nI a else Y 1 u i := fun i => by rw [ea]; simp [up_k, up_at]
  have e23 : ∀ i, arY c a u Y 2 u i = Y 2 u i ∧ arY c a u Y 3 u i = Y 3 u i := fun i => by rw [ea]; simp [up_k]
  have e00 : arY c a u Y 0 u 0 = nI (p + 1) := by rw [ea]; simp [up_at]
  have e02 : arY c a u Y 0 u 2 = 0 := by rw [ea]; simp [up_at]
  have e01 : arY c a u Y 0 u 1 = if p + 1 < lg c u ∧ nI a + sy c u < dL c u (p + 1) then dL c u (p + 1) else nI a + sy c u := by rw [ea, up_s]
  refine ⟨by rw [q6, e00], by rw [q7, e02], fun i hi => ⟨?_, ?_, fun hn => ?_⟩, fun z => absurd z (by rw [e02]; decide), fun _ => ⟨fun k hk => ?_, fun hl => ?_, fun hl => ?_⟩, fun i k hi1 hi2 hk => ?_⟩
  · rw [q10 i, e1 i, (m3 i hi).1]
  · rw [q1 31 (by decide), (e23 i).1]; exact (m3 i hi).2.1
  · rw [q1 32 (by decide), (e23 i).2]; rw [(e23 i).1] at hn; exact (m3 i hi).2.2 hn
  · rw [epl]
    show q 34 u k = arY c a u Y (4 + k) u (p + 1)
    rw [q11 k hk, e4 k _ hk, if_pos rfl]
  · rw [epl] at hl
    rw [if_pos hl] at q8
    obtain ⟨st, s1, s2, s3⟩ := cok_sy H.1 hv
    obtain ⟨d, d1, d2⟩ := cok_dL H.1 hv (show p + 1 ≤ lg c u by omega)
    have d3 : d ≤ 200000 := Nat.le_trans d1 (Nat.le_trans (Nat.add_le_add_left (Nat.mul_le_mul_left _ (show p + 1 ≤ 6 by omega)) _) (by decide))
    clear d1
    have hrd : ∃ r, a + 1 ≤ r ∧ r ≤ 200000 ∧ (if nI a + sy c u < dL c u (p + 1) then dL c u (p + 1) else nI a + sy c u) = nI r := by
      rw [s3, d2, nI_add]
      by_cases z : a + st < d
      · exact ⟨d, by omega, by omega, if_pos (nI_lt z (by omega))⟩
      · exact ⟨a + st, by omega, by omega, if_neg (nI_nlt (by omega) (by omega))⟩
    obtain ⟨r, r1, r2, r3⟩ := hrd
    refine ⟨r, r, ?_, by rw [q8, r3], by rw [q9, q8, r3], r2, by omega, Or.inl ⟨by omega, rfl⟩⟩
    rw [e01, ← r3]
    by_cases z : nI a + sy c u < dL c u (p + 1)
    · rw [if_pos ⟨hl, z⟩, if_pos z]
    · rw [if_neg (fun zz => z zz.2), if_neg z]
  · rw [epl] at hl
    rw [if_neg hl] at q8
    exact ⟨q8, by rw [q9, q8]⟩
  · rw [epl] at hi2
    rw [e4 k i hk]
    by_cases z : i = p + 1
    · rw [if_pos z, z]; exact q12 k hk
    · rw [if_neg z, q13 _ (by omega)]; exact m6 i k hi1 (by omega) hk
theorem dpY_1 {c : Cf} {h v : Nat} {Y : Sg} : dpY c h v Y 1 = Y 1 := by
  unfold dpY
  split
  · rw [up_k (by decide), up_k (by decide), up_k (by decide), up_k (by decide)]
  · rfl
theorem SXv_dp {c : Cf} {g h v u : Nat} {Y : Sg} (hu : ¬ u = v) (hS : SXv c g Y u) : SXv c g (dpY c h v Y) u := by
  unfold SXv pl at hS ⊢
  rw [dpY_1, dpY_o hu]
  exact hS
theorem e_dpX (k50 : Int32 → Int32 → Sg → Option Sg) {c : Cf} {s Y : Sg} {h v : Nat} {P : Sg → Prop} (H : CX s c) (hA : ∀ u, u < nv c → XSv c (if u < v then h + 1 else h) s Y u) (hB : ∀ u, u < v → SXv c (h + 1) Y u) (hY : ∀ u, u < nv c → YV c h Y u) (hv : v < nv c) (hh : h ≤ 20000) (hK : ∀ s', Ag xK s' s → (∀ u, u < nv c → XSv c (if u < v + 1 then h + 1 else h) s' (dpY c h v Y) u) → (∀ u, u < v + 1 → SXv c (h + 1) (dpY c h v Y) u) → Ok (k50 (nI h) (nI (v + 1)) s') P) : Ok (f_X3_passHour_B50 k50 (nI h) (nI v) s) P := by
  have hv10 := H.1.1
  have hlg := (H.1.2.1 v hv).1
  have hXv := hA v hv
  rw [if_neg (Nat.lt_irrefl v)] at hXv
  obtain ⟨m1, m2, m3, m4, m5, m6⟩ := hXv
  obtain ⟨y1, y2, y3, y4, y5, y6, y7⟩ := hY v hv
  -- to go on: the voyage's own new state is all that is wanting
  have goOn : ∀ s' : Sg, Ag xK s' s → (∀ u, ¬ u = v → ∀ k, k ∈ xR → s' k u = s k u) → XSv c (h + 1) s' (dpY c h v Y) v → SXv c (h + 1) (dpY c h v Y) v → Ok (k50 (nI h) (nI v + 1) s') P := by
    intro s' g1 g2 g3 g4
    rw [nI_1]
    refine hK s' g1 (fun u hu => ?_) (fun u hu => ?_)
    · by_cases e : u = v
      · subst e; rw [if_pos (by omega)]; exact g3
      · have := XSv_of (g2 u e) (fun k => dpY_o e) (hA u hu) (Y' := dpY c h v Y)
        by_cases z : u < v
        · rw [if_pos z] at this; rw [if_pos (by omega)]; exact this
        · rw [if_neg z] at this; rw [if_neg (by omega)]; exact this
    · by_cases e : u = v
      · subst e; exact g4
      · exact SXv_dp e (hB u (by omega))
  unfold f_X3_passHour_B50
  rw [H.2.1]
  refine ok_neg (nI_ge hv (by omega)) (ok_gi v rfl (by omega) ?_)
  rw [nI_clamp (show v < 2 ^ 31 by omega), m2]
  rcases y3 with g | g
  rotate_left
  · have e : dpY c h v Y = Y := if_neg (fun q => by rw [g] at q; exact absurd q.1 (by decide))
    refine ok_neg (by rw [g]; decide) (goOn s Ag.rfl (fun _ _ _ _ => rfl) ?_ ?_)
    · rw [e]; exact ⟨m1, m2, m3, m4, fun z => absurd z (by rw [g]; decide), m6⟩
    · rw [e]; exact fun z => absurd z (by rw [g]; decide)
  refine ok_pos g (ok_gi v rfl (by omega) ?_)
  obtain ⟨n1, n2, n3⟩ := m5 g
  by_cases hl : pl Y v < lg c v
  rotate_left
  · have e : dpY c h v Y = Y := if_neg (fun q => hl q.2.1)
    obtain ⟨o1, o2⟩ := n3 hl
    rw [o1]
    refine ok_pos (by rw [L_1000000]; exact nI_lt (by omega) (by omega)) (goOn s Ag.rfl (fun _ _ _ _ => rfl) ?_ ?_)
    · rw [e]; exact ⟨m1, m2, m3, m4, fun _ => ⟨n1, fun z => absurd z hl, fun _ => ⟨o1, o2⟩⟩, m6⟩
    · rw [e]; exact fun _ z => absurd z hl
  obtain ⟨r, x, r1, r2, r3, r4, r5, r6⟩ := n2 hl
  rw [r2]
  by_cases hr : h < r
  · have e : dpY c h v Y = Y := if_neg (fun q => by rw [r1, nI_leI (by omega) (by omega)] at q; omega)
    have hxr : x = r := by rcases r6 with ⟨_, z⟩ | ⟨z, _⟩ <;> omega
    refine ok_pos (nI_lt hr (by omega)) (goOn s Ag.rfl (fun _ _ _ _ => rfl) ?_ ?_)
    · rw [e]; exact ⟨m1, m2, m3, m4, fun _ => ⟨n1, fun _ => ⟨r, x, r1, r2, r3, r4, r5, Or.inl ⟨by omega, hxr⟩⟩, fun z => absurd hl z⟩, m6⟩
    · rw [e]
      intro _ _ r' h1 h2 h3
      rw [r1, nI_eq (by omega) (by omega)] at h1
      omega
  refine ok_neg (nI_nlt (by omega) (by omega)) ?_
  -- it is asked
  have ready : Y 0 v 1 ≤ nI h := by rw [r1]; exact nI_le (by omega) (by omega)
  have come : ∀ u i, u < nv c → i < 7 → s 30 u i = Y 1 u i := fun u i hu hi => ((hA u hu).2.2.1 i hi).1
  have h5 : s 6 v 5 = nI (pl Y v) := by rw [m1]; exact y1
  -- it leaves
  have leave : wai c h v Y = false → ∀ s1, Ag [24] s1 s → Ok (Option.bind (Option.bind (f_X3_leavePort (nI v) (nI h) s1) fun q1 => some q1) fun q3 => k50 (nI h) (nI v + 1) q3) P := by
    intro hw s1 ag1
    have ed : dpY c h v Y = up3 (up3 (up3 (up3 Y 2 v (pl Y v) (nI h)) 3 v (pl Y v) (nI h - Y 0 v 1)) 0 v 2 1) 0 v 3 (nI h + lh c (mon h) v (pl Y v) + bk c v (pl Y v)) := if_pos ⟨g, hl, ready, hw⟩
    have H1 : CX s1 c := CX_r (ag1.x Ag.rfl (by decide)) H
    refine ok_bind (ok_bind (e_leaveX (S0 := fun k => Y (4 + k) v (pl Y v)) (rd := Y 0 v 1) H1 hv hl hh (by rw [ag1 6 (by decide)]; exact h5) (by rw [ag1 6 (by decide), r2, r1]) (fun k hk => by rw [ag1 34 (by decide)]; exact n1 k hk)) (fun q hq => ok_some hq)) (fun q hq => ?_)
    obtain ⟨q1, q2, q3, q4, q5, q6, q7, q8, q9, q10, q11⟩ := hq
    have epl : pl (dpY c h v Y) v = pl Y v := by
      unfold pl
      rw [ed, up_j (by omega), up_j (by omega), up_k (by decide), up_k (by decide)]
    have e1 : ∀ i, dpY c h v Y 1 v i = Y 1 v i := fun i => by rw [dpY_1]
    have e2 : ∀ i, dpY c h v Y 2 v i = if i = pl Y v then nI h else Y 2 v i := fun i => by rw [ed]; simp [up_k, up_at]
    have e3 : ∀ i, dpY c h v Y 3 v i = if i = pl Y v then nI h - Y 0 v 1 else Y 3 v i := fun i => by rw [ed]; simp [up_k, up_at]
    have e4 : ∀ k i, dpY c h v Y (4 + k) v i = Y (4 + k) v i := fun k i => by rw [ed, up_k (by omega), up_k (by omega), up_k (by omega), up_k (by omega)]
    have e00 : dpY c h v Y 0 v 0 = Y 0 v 0 := by rw [ed]; simp [up_k, up_at]
    have e02 : dpY c h v Y 0 v 2 = 1 := by rw [ed]; simp [up_at]
    have e03 : dpY c h v Y 0 v 3 = nI h + lh c (mon h) v (pl Y v) + bk c v (pl Y v) := by rw [ed, up_s]
    refine goOn q (q1.x (ag1.x Ag.rfl (by decide)) (by decide)) (fun u hu k hk => ?_) ?_ ?_
    · have : k = 6 ∨ k = 30 ∨ k = 31 ∨ k = 32 ∨ k = 33 ∨ k = 34 := by simpa [xR] using hk
      rcases this with rfl | rfl | rfl | rfl | rfl | rfl
      · rw [q2 u hu, ag1 6 (by decide)]
      · rw [q1 30 (by decide), ag1 30 (by decide)]
      · rw [q3 u hu, ag1 31 (by decide)]
      · rw [q4 u hu, ag1 32 (by decide)]
      · rw [q1 33 (by decide), ag1 33 (by decide)]
      · rw [q5 u hu, ag1 34 (by decide)]
    · refine ⟨by rw [q6, e00]; exact y1.symm, by rw [q7, e02], fun i hi => ⟨?_, ?_, fun hn => ?_⟩, fun _ => ⟨by rw [q8, e03], ?_⟩, fun z => absurd z (by rw [e02]; decide), fun i k hi1 hi2 hk => ?_⟩
      · rw [q1 30 (by decide), ag1 30 (by decide), e1 i]; exact (m3 i hi).1
      · rw [q9 i, e2 i, ag1 31 (by decide), (m3 i hi).2.1]
      · rw [q10 i, e3 i, ag1 32 (by decide)]
        rw [e2 i] at hn
        by_cases z : i = pl Y v
        · rw [if_pos z, if_pos z]
        · rw [if_neg z] at hn; rw [if_neg z, if_neg z]; exact (m3 i hi).2.2 hn
      · intro k hk
        rw [epl]
        have e5 : (fun k => dpY c h v Y (4 + k) v (pl Y v)) = fun k => Y (4 + k) v (pl Y v) := funext fun k => e4 k _
        rw [e5, e3, if_pos rfl]
        exact q11 k hk
      · rw [epl] at hi2
        rw [q1 33 (by decide), ag1 33 (by decide), e4]; exact m6 i k hi1 hi2 hk
    · exact fun z => absurd z (by rw [e02]; decide)
  unfold f_X3_askOne
  refine (show Ok (Option.bind _ _) P from ?_)
  rw [chk, if_pos (gi_nI (show v < 10 by omega) (by decide)), chk, if_pos (gi_nI (show v < 10 by omega) (by decide)), nI_clamp (show v < 2 ^ 31 by omega), h5, e_awX H hv hl come]
  cases hm : mt c v (pl Y v) with
  | none =>
    have hw : wai c h v Y = false := by unfold wai; rw [hm]
    exact leave hw s Ag.rfl
  | some q =>
    obtain ⟨u, j⟩ := q
    have ewai : wai c h v Y = (decide (Y 1 u j = -1) && waC (fW c Y h v u j) (ct c (ln c v))) := by unfold wai; rw [hm]
    by_cases hy : Y 1 u j = -1
    rotate_left
    · have hw : wai c h v Y = false := by rw [ewai, decide_eq_false hy]; rfl
      simp only [decide_eq_false hy]
      exact leave hw s Ag.rfl
    simp only [decide_eq_true hy, Option.bind_some, show ¬ bI true = 0 by decide, if_false]
    rw [decide_eq_true hy, Bool.true_and] at ewai
    rw [r3]
    by_cases hx : h < x
    · -- it waits on
      rw [if_neg (nI_ge hx (by omega)), Option.bind_some]
      rcases r6 with ⟨z1, z2⟩ | ⟨z1, z2, u', j', z3, z4⟩
      · omega
      rw [hm] at z3
      cases z3
      have hw : wai c h v Y = true := by rw [ewai]; exact z4 h (Nat.le_refl h) hx
      have e : dpY c h v Y = Y := if_neg (fun q => by rw [hw] at q; exact absurd q.2.2.2 (by decide))
      refine goOn s Ag.rfl (fun _ _ _ _ => rfl) ?_ ?_
      · rw [e]; exact ⟨m1, m2, m3, m4, fun _ => ⟨n1, fun _ => ⟨r, x, r1, r2, r3, r4, r5, Or.inr ⟨by omega, by omega, u, j, hm, fun h' b1 b2 => z4 h' (by omega) b2⟩⟩, fun z => absurd hl z⟩, m6⟩
      · rw [e]; exact fun _ _ _ _ _ _ => ⟨u, j, hm, hy⟩
    · rw [if_pos (nI_le (by omega) (by omega))]
      unfold f_X3_askOne_B40
      rw [if_neg (show ¬ bI true = 0 by decide)]
      obtain ⟨m, ⟨qq, hq0, hq1, hq2⟩, k2, k3, k4⟩ := e_waitCX (Y := Y) H hv hl hh h5 r2 (by omega) r1 rfl hm
      rw [hq0, Option.bind_some, hq1]
      unfold f_X3_askOne_B56
      by_cases hm0 : m = 0
      · rw [if_pos (by rw [hm0]; decide)]
        exact leave (by rw [ewai]; exact k3 hm0) qq.2 hq2
      · rw [if_neg (by rw [L_0]; exact nI_ge (by omega) (by omega))]
        have hw : wai c h v Y = true := by rw [ewai]; exact k4 0 (by omega)
        have e : dpY c h v Y = Y := if_neg (fun q => by rw [hw] at q; exact absurd q.2.2.2 (by decide))
        have hm720 : m ≤ 720 := by omega
        show Ok (k50 (nI h) (nI v + 1) (up3 qq.2 6 v 8 (nI h + nI m))) P
        have eo : ∀ k, ¬ k = 6 → ¬ k = 24 → (up3 qq.2 6 v 8 (nI h + nI m)) k = s k := fun k h1 h2 => by rw [up_k h1, hq2 k (by simpa using h2)]
        have e6 : ∀ i, ¬ i = 8 → (up3 qq.2 6 v 8 (nI h + nI m)) 6 v i = s 6 v i := fun i hi => by rw [up_j hi, hq2 6 (by decide)]
        refine goOn _ ((hq2.x Ag.rfl (by decide)).up (by decide)) (fun w hw k hk => ?_) ?_ ?_
        · by_cases z : k = 6
          · subst z; rw [up_i hw, hq2 6 (by decide)]
          · rw [eo k z (by intro z2; subst z2; revert hk; decide)]
        · rw [e]
          refine ⟨by rw [e6 5 (by decide)]; exact m1, by rw [e6 6 (by decide)]; exact m2, fun i hi => by rw [eo 30 (by decide) (by decide), eo 31 (by decide) (by decide), eo 32 (by decide) (by decide)]; exact m3 i hi, fun z => absurd z (by rw [g]; decide), fun _ => ⟨fun k hk => by rw [eo 34 (by decide) (by decide)]; exact n1 k hk, fun _ => ⟨r, h + m, r1, by rw [e6 7 (by decide)]; exact r2, by rw [up_s, nI_add], r4, by omega, Or.inr ⟨by omega, by omega, u, j, hm, fun h' b1 b2 => ?_⟩⟩, fun z => absurd hl z⟩, fun i k hi1 hi2 hk => by rw [eo 33 (by decide) (by decide)]; exact m6 i k hi1 hi2 hk⟩
          have := k4 (h' - h) (by omega)
          rw [show h + (h' - h) = h' by omega] at this
          exact this
        · rw [e]; exact fun _ _ _ _ _ _ => ⟨u, j, hm, hy⟩
