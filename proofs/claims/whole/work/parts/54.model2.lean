/-! the reference: waits(), isExcused(), sharesAt(), sails() -/
theorem CMq_at {σ : Sg} {l : Nat} : ∀ {x : List Cl} {q0 : Nat}, CMq σ l q0 x → ∀ (r : List Cl) (d : Nat), x.drop d = r → CMq σ l (q0 + d) r := by
  intro x
  induction x with
  | nil => intro q0 _ r d hd; rw [List.drop_nil] at hd; subst hd; trivial
  | cons a t ih =>
    intro q0 h r d hd
    cases d with
    | zero => rw [List.drop_zero] at hd; subst hd; exact h
    | succ d =>
      rw [List.drop_succ_cons] at hd
      have := ih h.2 r d hd
      rw [show q0 + (d + 1) = q0 + 1 + d by omega]
      exact this
/-- the loop over the clauses: W -/
theorem e_waL {c : Cf} {x : Nat → Int32} {l : Nat} (hl : l < 4) : ∀ (r : List Cl) (q n : Nat) (s : Sg), q + r.length = (ct c l).length → CM s c → XV s x → CMq s l q r → (∀ z ∈ r, clok z) → r.length < n → Ok (f_X10_waits_L159 n (nI l) (nI (12 * l + q)) s) (fun w => w.1 = bI (waC x r) ∧ Ag [74] w.2 s) := by
  intro r
  induction r with
  | nil =>
    intro q n s h1 H hx hq hok hn
    obtain ⟨n, rfl⟩ : ∃ m, n = m + 1 := ⟨n - 1, by omega⟩
    simp only [List.length_nil] at h1
    have hlen := (H.1.2.2 l hl).1
    show Ok (f_X10_waits_B159 _ _ _ _) _
    unfold f_X10_waits_B159
    refine ok_gi l rfl (by omega) ?_
    rw [nI_clamp (by omega), (H.2.2.2.2 l hl).1]
    refine ok_pos (by rw [L_12, pk_mul, nI_add]; exact nI_le (by omega) (by omega)) (ok_some ⟨rfl, Ag.rfl⟩)
  | cons z r ih =>
    intro q n s h1 H hx hq hok hn
    obtain ⟨n, rfl⟩ : ∃ m, n = m + 1 := ⟨n - 1, by omega⟩
    simp only [List.length_cons] at h1 hn
    have hlen := (H.1.2.2 l hl).1
    obtain ⟨⟨q1, q2, a, q3, q4, q5, q6⟩, q7⟩ := hq
    have hz := hok z (List.mem_cons_self)
    have next : ∀ s', Ag [74] s' s → Ok (f_X10_waits_L159 n (nI l) (nI (12 * l + q) + 1) s') (fun w => w.1 = bI (waC x r) ∧ Ag [74] w.2 s) := by
      intro s' hag
      rw [nI_1, show 12 * l + q + 1 = 12 * l + (q + 1) by omega]
      refine (ih (q + 1) n s' (by omega) (CM_congr (fun k hk => hag k (by revert k; decide)) (by rw [hag 10 (by decide)]) (by rw [hag 10 (by decide)]) H) (fun k hk => by rw [hag 73 (by decide)]; exact hx k hk) (CMq_congr ⟨hag 68 (by decide), hag 69 (by decide), hag 70 (by decide), hag 71 (by decide)⟩ ⟨hag 64 (by decide), hag 65 (by decide), hag 66 (by decide), hag 67 (by decide)⟩ q7) (fun y hy => hok y (List.mem_cons_of_mem _ hy)) (by omega)).mono fun w hw => ⟨hw.1, hw.2.trans hag _ (fun k hk => ⟨hk, hk⟩)⟩
    have ew : waC x (z :: r) = ((decide (z.1 = 87) && decide (x 1 < z.2.1) && hol x z.2.2) || waC x r) := by simp [waC]
    show Ok (f_X10_waits_B159 _ _ _ _) _
    unfold f_X10_waits_B159
    refine ok_gi l rfl (by omega) ?_
    rw [nI_clamp (show l < 2 ^ 31 by omega), (H.2.2.2.2 l hl).1]
    refine ok_neg (by rw [L_12, pk_mul, nI_add]; exact nI_ge (by omega) (by omega)) ?_
    refine ok_gi _ rfl (by omega) ?_
    rw [nI_clamp (show 12 * l + q < 2 ^ 31 by omega), q1, q2, q3, q4]
    refine ok_ite (fun g => ?_) (fun g => ?_)
    · refine ok_gi _ rfl (by omega) (ok_gi 1 rfl (by omega) ?_)
      rw [show s 73 0 (1 : Int32).toNatClampNeg = x 1 from hx 1 (by decide)]
      refine ok_ite (fun g2 => ?_) (fun g2 => ?_)
      · have e : waC x (z :: r) = waC x r := by rw [ew, decide_eq_false (Int32.not_lt.mpr g2)]; simp
        rw [e]
        exact next s Ag.rfl
      · refine ok_gi _ rfl (by omega) (ok_gi _ rfl (by omega) ?_)
        refine ok_bind (e_holds (x := x) (by omega) (hz.1 (Or.inl g)) q6 hx q5) (fun w hw => ?_)
        rw [hw.1]
        refine ok_ite (fun g3 => ?_) (fun g3 => ?_)
        · have e : waC x (z :: r) = waC x r := by rw [ew, (bI0 _).mp g3]; simp
          rw [e]
          exact next w.2 hw.2
        · have e : hol x z.2.2 = true := by
            cases hh : hol x z.2.2
            · rw [hh] at g3; exact absurd rfl g3
            · rfl
          rw [ew, e, decide_eq_true g, decide_eq_true (Int32.not_le.mp g2)]
          exact ok_some ⟨rfl, hw.2⟩
    · have e : waC x (z :: r) = waC x r := by rw [ew, decide_eq_false g]; simp
      rw [e]
      exact next s Ag.rfl
/-- the loop over the clauses: X -/
theorem e_exL {c : Cf} {x : Nat → Int32} {l : Nat} (hl : l < 4) : ∀ (r : List Cl) (q n : Nat) (s : Sg), q + r.length = (ct c l).length → CM s c → XV s x → CMq s l q r → (∀ z ∈ r, clok z) → r.length < n → Ok (f_X10_isExcused_L115 n (nI l) (nI (12 * l + q)) s) (fun w => w.1 = bI (exC x r) ∧ Ag [74] w.2 s) := by
  intro r
  induction r with
  | nil =>
    intro q n s h1 H hx hq hok hn
    obtain ⟨n, rfl⟩ : ∃ m, n = m + 1 := ⟨n - 1, by omega⟩
    simp only [List.length_nil] at h1
    have hlen := (H.1.2.2 l hl).1
    show Ok (f_X10_isExcused_B115 _ _ _ _) _
    unfold f_X10_isExcused_B115
    refine ok_gi l rfl (by omega) ?_
    rw [nI_clamp (by omega), (H.2.2.2.2 l hl).1]
    refine ok_pos (by rw [L_12, pk_mul, nI_add]; exact nI_le (by omega) (by omega)) (ok_some ⟨rfl, Ag.rfl⟩)
  | cons z r ih =>
    intro q n s h1 H hx hq hok hn
    obtain ⟨n, rfl⟩ : ∃ m, n = m + 1 := ⟨n - 1, by omega⟩
    simp only [List.length_cons] at h1 hn
    have hlen := (H.1.2.2 l hl).1
    obtain ⟨⟨q1, q2, a, q3, q4, q5, q6⟩, q7⟩ := hq
    have hz := hok z (List.mem_cons_self)
    have next : ∀ s', Ag [74] s' s → Ok (f_X10_isExcused_L115 n (nI l) (nI (12 * l + q) + 1) s') (fun w => w.1 = bI (exC x r) ∧ Ag [74] w.2 s) := by
      intro s' hag
      rw [nI_1, show 12 * l + q + 1 = 12 * l + (q + 1) by omega]
      refine (ih (q + 1) n s' (by omega) (CM_congr (fun k hk => hag k (by revert k; decide)) (by rw [hag 10 (by decide)]) (by rw [hag 10 (by decide)]) H) (fun k hk => by rw [hag 73 (by decide)]; exact hx k hk) (CMq_congr ⟨hag 68 (by decide), hag 69 (by decide), hag 70 (by decide), hag 71 (by decide)⟩ ⟨hag 64 (by decide), hag 65 (by decide), hag 66 (by decide), hag 67 (by decide)⟩ q7) (fun y hy => hok y (List.mem_cons_of_mem _ hy)) (by omega)).mono fun w hw => ⟨hw.1, hw.2.trans hag _ (fun k hk => ⟨hk, hk⟩)⟩
    have ew : exC x (z :: r) = ((decide (z.1 = 88) && hol x z.2.2) || exC x r) := by simp [exC]
    show Ok (f_X10_isExcused_B115 _ _ _ _) _
    unfold f_X10_isExcused_B115
    refine ok_gi l rfl (by omega) ?_
    rw [nI_clamp (show l < 2 ^ 31 by omega), (H.2.2.2.2 l hl).1]
    refine ok_neg (by rw [L_12, pk_mul, nI_add]; exact nI_ge (by omega) (by omega)) ?_
    refine ok_gi _ rfl (by omega) ?_
    rw [nI_clamp (show 12 * l + q < 2 ^ 31 by omega), q1, q3, q4]
    refine ok_ite (fun g => ?_) (fun g => ?_)
    · refine ok_gi _ rfl (by omega) (ok_gi _ rfl (by omega) ?_)
      refine ok_bind (e_holds (x := x) (by omega) (hz.1 (Or.inr g)) q6 hx q5) (fun w hw => ?_)
      rw [hw.1]
      refine ok_ite (fun g3 => ?_) (fun g3 => ?_)
      · have e : exC x (z :: r) = exC x r := by rw [ew, (bI0 _).mp g3]; simp
        rw [e]
        exact next w.2 hw.2
      · have e : hol x z.2.2 = true := by
          cases hh : hol x z.2.2
          · rw [hh] at g3; exact absurd rfl g3
          · rfl
        rw [ew, e, decide_eq_true g]
        exact ok_some ⟨rfl, hw.2⟩
    · have e : exC x (z :: r) = exC x r := by rw [ew, decide_eq_false g]; simp
      rw [e]
      exact next s Ag.rfl
/-! the state of the run, in the reference's arrays -/
def MSv (σ Y : Sg) (v : Nat) : Prop := σ 80 0 v = Y 0 v 0 ∧ σ 81 0 v = Y 0 v 1 ∧ σ 83 0 v = Y 0 v 2 ∧ (Y 0 v 2 = 1 → σ 82 0 v = Y 0 v 3) ∧ ∀ i, i < 7 → σ 75 0 (7 * v + i) = Y 1 v i ∧ σ 76 0 (7 * v + i) = Y 2 v i ∧ σ 77 0 (7 * v + i) = Y 3 v i ∧ σ 78 0 (7 * v + i) = Y 4 v i ∧ ∀ l, l < 4 → σ 79 0 (4 * (7 * v + i) + l) = Y (5 + l) v i
/-- bounds of the run at hour h -/
def YV (c : Cf) (h : Nat) (Y : Sg) (v : Nat) : Prop := Y 0 v 0 = nI (pl Y v) ∧ pl Y v ≤ lg c v ∧ (Y 0 v 2 = 0 ∨ Y 0 v 2 = 1) ∧ (∃ r, Y 0 v 1 = nI r ∧ r ≤ 200000) ∧ (Y 0 v 2 = 1 → pl Y v < lg c v ∧ (∃ a, Y 0 v 3 = nI a ∧ h ≤ a ∧ a ≤ 100000) ∧ (∃ t, Y 2 v (pl Y v) = nI t ∧ t ≤ h) ∧ ∃ w, Y 3 v (pl Y v) = nI w ∧ w ≤ 20000) ∧ (∀ i, (Y 1 v i = -1 ∨ ∃ t, Y 1 v i = nI t ∧ t ≤ h ∧ 1 ≤ i ∧ i ≤ pl Y v) ∧ (Y 2 v i = -1 ∨ ∃ t, Y 2 v i = nI t ∧ t ≤ h ∧ ∀ j t', i < j → t' ≤ 20000 → Y 1 v j = nI t' → t ≤ t')) ∧ ∀ k i, k < 5 → i ≤ pl Y v → ∃ x, Y (4 + k) v i = nI x ∧ x ≤ 100000 * i
theorem nIm1 {t : Nat} (h : t < 2 ^ 31) : ¬ nI t = -1 := by
  intro e
  have := congrArg Int32.toInt e
  rw [nI_toInt h] at this
  have h2 : (-1 : Int32).toInt = -1 := by decide
  omega
theorem tn_0 : (0 : Int32).toNatClampNeg = 0 := by decide
theorem tn_1 : (1 : Int32).toNatClampNeg = 1 := by decide
theorem tn_2 : (2 : Int32).toNatClampNeg = 2 := by decide
theorem tn_3 : (3 : Int32).toNatClampNeg = 3 := by decide
theorem tn_4 : (4 : Int32).toNatClampNeg = 4 := by decide
theorem XV5 (σ : Sg) (a b c d e : Int32) : XV (up3 (up3 (up3 (up3 (up3 σ 73 0 0 a) 73 0 1 b) 73 0 2 c) 73 0 3 d) 73 0 4 e) (fun k => match k with
    | 0 => a
    | 1 => b
    | 2 => c
    | 3 => d
    | _ => e) := by
  intro k hk
  rcases (show k = 0 ∨ k = 1 ∨ k = 2 ∨ k = 3 ∨ k = 4 by omega) with rfl | rfl | rfl | rfl | rfl <;> simp [up_at]
theorem e_waits {c : Cf} {σ Y : Sg} {h v : Nat} (H : CM σ c) (hv : v < nv c) (hM : ∀ u, u < nv c → MSv σ Y u) (hY : ∀ u, u < nv c → YV c h Y u) (hh : h ≤ 20000) (hp : pl Y v < lg c v) : Ok (f_X10_waits (nI v) (nI h) σ) (fun w => w.1 = bI (wai c h v Y) ∧ Ag [73, 74] w.2 σ) := by
  have hv10 := H.1.1
  have hlg := (H.1.2.1 v hv).1
  have hln := (H.1.2.1 v hv).2.1
  obtain ⟨m1, m2, -, -, -⟩ := hM v hv
  obtain ⟨y1, -, -, -, -, -, -⟩ := hY v hv
  have hmt := e_mt H hv hp
  have hc := ((H.1.2.1 v hv).2.2.2.2.2.2 (pl Y v) hp).2.2.2.2.2.2
  unfold f_X10_waits wai
  refine ok_gi v rfl (by omega) ?_
  rw [nI_clamp (by omega), m1, y1]
  cases hm : mt c v (pl Y v) with
  | none =>
    rw [hm] at hmt
    dsimp only at hmt ⊢
    refine ok_call hmt ?_
    exact ok_pos rfl (ok_some ⟨rfl, Ag.rfl⟩)
  | some q =>
    obtain ⟨u, j⟩ := q
    rw [hm] at hmt
    dsimp only at hmt ⊢
    obtain ⟨k, k1, k2, k3, k4⟩ := hmt
    obtain ⟨hu, hj1, hj2⟩ := hc u j hm
    have hlu := (H.1.2.1 u hu).1
    refine ok_call k2 ?_
    refine ok_neg (nIm1 (by omega)) (ok_gi k rfl (by omega) (ok_I ?_))
    dsimp only
    rw [nI_clamp (show k < 2 ^ 31 by omega), k3, k4, L_7, pk_mul, nI_add]
    refine ok_gi k rfl (by omega) (ok_gi _ rfl (by omega) (ok_I ?_))
    rw [nI_clamp (show 7 * u + j < 2 ^ 31 by omega), ((hM u hu).2.2.2.2 j (by omega)).1]
    have main : ∀ b : Bool, waC (fW c Y h v u j) (ct c (ln c v)) = b → Ok (f_X10_waits_B60 (nI v) (nI h) (nI k) (nI u) σ) (fun w => w.1 = bI b ∧ Ag [73, 74] w.2 σ) := by
      intro b hb
      obtain ⟨j', rfl⟩ : ∃ j', j = j' + 1 := ⟨j - 1, by omega⟩
      unfold f_X10_waits_B60
      refine ok_gi k rfl (by omega) ?_
      rw [nI_clamp (show k < 2 ^ 31 by omega), k4]
      refine ok_call (e_dC H hu (by omega)) ?_
      refine ok_gi 0 rfl (by omega) (ok_S (ok_gi v rfl (by omega) (ok_gi 1 rfl (by omega) (ok_S (ok_gi v rfl (by omega) ?_)))))
      have hmy : ∀ {s : Sg}, Ag [73] s σ → CM s c := fun {s} hag => CM_congr (fun k hk => hag k (by revert k; decide)) (by rw [hag 10 (by decide)]) (by rw [hag 10 (by decide)]) H
      have ag1 : Ag [73] (up3 (up3 σ 73 0 (0 : Int32).toNatClampNeg (nI h - dC c u (j' + 1))) 73 0 (1 : Int32).toNatClampNeg (nI h - (up3 σ 73 0 (0 : Int32).toNatClampNeg (nI h - dC c u (j' + 1))) 81 0 (nI v).toNatClampNeg)) σ := (Ag.rfl.up (by decide)).up (by decide)
      rw [nI_clamp (show v < 2 ^ 31 by omega)] at ag1 ⊢
      rw [ag1 80 (by decide), m1, y1]
      refine ok_call (e_wi (hmy ag1) hv hp (by omega)) ?_
      refine ok_gi 2 rfl (by omega) (ok_S (ok_gi v rfl (by omega) ?_))
      have ag2 := Ag.up (k := 73) (i := 0) (j := (2 : Int32).toNatClampNeg) (x := wd c (mon h) v (pl Y v)) ag1 (by decide)
      dsimp only
      rw [ag2 80 (by decide), m1, y1, L_6, pk_mul, nI_add]
      refine ok_gi _ rfl (by omega) (ok_gi 3 rfl (by omega) (ok_S ?_))
      rw [nI_clamp (show 6 * v + pl Y v < 2 ^ 31 by omega), ag2 54 (by decide), ((H.2.2.1 v hv).2.1 _ hp).2.1]
      refine ok_call (e_mon _ (by omega)) ?_
      refine ok_gi 4 rfl (by omega) (ok_S (ok_gi v rfl (by omega) (ok_I (ok_I ?_))))
      have ag4 := Ag.up (k := 73) (i := 0) (j := (4 : Int32).toNatClampNeg) (x := nI (mon h)) (Ag.up (k := 73) (i := 0) (j := (3 : Int32).toNatClampNeg) (x := bk c v (pl Y v)) ag2 (by decide)) (by decide)
      dsimp only
      rw [ag4 48 (by decide), (H.2.2.1 v hv).1.2.1, L_12, pk_mul]
      refine (e_waL (c := c) (x := fW c Y h v u (j' + 1)) hln (ct c (ln c v)) 0 FU _ (by omega) (hmy ag4) ?_ (CMq_congr ⟨ag4 68 (by decide), ag4 69 (by decide), ag4 70 (by decide), ag4 71 (by decide)⟩ ⟨ag4 64 (by decide), ag4 65 (by decide), ag4 66 (by decide), ag4 67 (by decide)⟩ (H.2.2.2.2 _ hln).2) (H.1.2.2 _ hln).2 (by have := (H.1.2.2 _ hln).1; unfold FU; omega)).mono fun w hw => ⟨by rw [hw.1, hb], hw.2.trans ag4 _ (fun k hk => by simp only [List.mem_cons, List.not_mem_nil, not_or, or_false] at hk ⊢; exact ⟨hk.2, hk.1⟩)⟩
      intro k hk
      rw [up_k (show ¬ (81 : Nat) = 73 by decide), m2, tn_0, tn_1, tn_2, tn_3, tn_4]
      exact XV5 σ _ _ _ _ _ k hk
    obtain ⟨-, -, -, -, -, y6, -⟩ := hY u hu
    rcases (y6 j).1 with q | ⟨t, q1, q2, -⟩
    · refine ok_pos q ?_
      rw [decide_eq_true q]
      exact main _ rfl
    · rw [q1, decide_eq_false (nIm1 (by omega))]
      refine ok_neg (nIm1 (by omega)) (ok_neg (nI_nlt (by omega) (by omega)) (ok_some ⟨rfl, Ag.rfl⟩))
