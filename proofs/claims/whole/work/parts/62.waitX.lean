/-! the class: waitHours() -/
/-- clause q lets it wait for so many hours at the least -/
theorem e_steady {x : Nat → Int32} {o q e h t : Nat} {s : Sg} {z : Cl} (hq : q < 12) (hb0 : (q = 0 ∧ e = 0) ∨ (0 < q ∧ s 20 o (q - 1) = nI e)) (hz : s 19 o q = z.2.1 ∧ s 20 o q = nI (e + z.2.2.length) ∧ e + z.2.2.length ≤ 200 ∧ CXk s o e z.2.2) (hd : dps z.2.2 0 = some 1) (hx : XF s x) (hb : xb x) (hh : h ≤ 20000) (ht : x 1 = nI t) (ht2 : t ≤ 20000) (hlt : x 1 < z.2.1) : ∃ m, 1 ≤ m ∧ m ≤ 720 - h % 720 ∧ f_X2_steadyHours o (nI q) (nI h) s = some (nI m, s) ∧ ∀ d, d < m → nI (t + d) < z.2.1 ∧ hol (shf d x) z.2.2 = hol x z.2.2 := by
  obtain ⟨z1, z2, z3, z4⟩ := hz
  obtain ⟨L, L1, L2⟩ : ∃ L, L < 2 ^ 31 ∧ z.2.1 = nI L := nI_of (fun c => by
    have h1 := Int32.lt_iff_toInt_lt.mp c
    have h2 := Int32.lt_iff_toInt_lt.mp hlt
    rw [ht, nI_toInt (by omega)] at h2
    rw [show (0 : Int32).toInt = 0 from rfl] at h1
    omega)
  have htL : t < L := by rw [ht, L2, nI_ltI (by omega) L1] at hlt; exact hlt
  have hm : h % 720 < 720 := Nat.mod_lt _ (by decide)
  have e1 : (if 720 - (nI h - nI h / 720 * 720) < z.2.1 - x 1 then 720 - (nI h - nI h / 720 * 720) else z.2.1 - x 1) = nI (min (720 - h % 720) (L - t)) := by
    rw [L_720, pk_rem (by omega) (by decide) (by decide), pk_sub (by omega), L2, ht, pk_sub (by omega)]
    by_cases g : 720 - h % 720 < L - t
    · rw [if_pos (nI_lt g (by omega)), Nat.min_eq_left (by omega)]
    · rw [if_neg (nI_nlt (by omega) (by omega)), Nat.min_eq_right (by omega)]
  obtain ⟨m, m1, m2, m3, m4⟩ := e_stL hq z2 z3 hx hb z.2.2 e FU (min (720 - h % 720) (L - t)) (fun it hit => dps_all hd it hit) z4 rfl (by unfold FU; omega) (by omega) (by omega)
  refine ⟨m, m1, by omega, ?_, fun d hdm => ⟨?_, ?_⟩⟩
  · unfold f_X2_steadyHours
    rw [chk, if_pos (gi_nI hq (by decide)), nI_clamp (show q < 2 ^ 31 by omega), chk, if_pos (show gi 1 5 = true by decide), z1, show s 24 0 (1 : Int32).toNatClampNeg = x 1 from hx 1 (by decide), e1]
    show Option.bind (f_X2_beginOf o (nI q) s) _ = _
    rw [e_begX hb0 hq]
    exact m4
  · rw [L2]
    exact nI_lt (by omega) (by omega)
  · unfold hol
    rw [evs_shf hdm (by omega) hb hd m3]
theorem e_waitXL {x : Nat → Int32} {o h t : Nat} {s : Sg} {N : Nat} (hN : s 2 o 0 = nI N) (hN2 : N ≤ 12) (hx : XF s x) (hb : xb x) (hh : h ≤ 20000) (ht : x 1 = nI t) (ht2 : t ≤ 20000) : ∀ (r : List Cl) (q e n : Nat), q + r.length = N → CXq s o q e r → ((q = 0 ∧ e = 0) ∨ (0 < q ∧ s 20 o (q - 1) = nI e)) → (∀ z ∈ r, clok z) → r.length < n → ∃ m, f_X2_waitHours_L2 n o (nI h) (nI q) s = some (nI m, s) ∧ m ≤ 720 - h % 720 ∧ (m = 0 → waC x r = false) ∧ ∀ d, d < m → waC (shf d x) r = true := by
  intro r
  induction r with
  | nil =>
    intro q e n h1 h2 h3 h4 h5
    obtain ⟨n, rfl⟩ : ∃ m, n = m + 1 := ⟨n - 1, by omega⟩
    simp only [List.length_nil] at h1
    refine ⟨0, ?_, Nat.zero_le _, fun _ => rfl, fun d hd => absurd hd (Nat.not_lt_zero d)⟩
    show f_X2_waitHours_B2 _ _ _ _ _ = _
    unfold f_X2_waitHours_B2
    rw [hN, if_pos (nI_le (by omega) (by omega))]
    rfl
  | cons z r ih =>
    intro q e n h1 h2 h3 h4 h5
    obtain ⟨n, rfl⟩ : ∃ m, n = m + 1 := ⟨n - 1, by omega⟩
    simp only [List.length_cons] at h1 h5
    obtain ⟨⟨q1, q2, q3, q4, q5⟩, q6⟩ := h2
    have hz := h4 z List.mem_cons_self
    obtain ⟨m, a1, a2, a3, a4⟩ := ih (q + 1) _ n (by omega) q6 (Or.inr ⟨by omega, by rw [show q + 1 - 1 = q by omega]; exact q3⟩) (fun y hy => h4 y (List.mem_cons_of_mem _ hy)) (by omega)
    have ew : ∀ y : Nat → Int32, waC y (z :: r) = ((decide (z.1 = 87) && decide (y 1 < z.2.1) && hol y z.2.2) || waC y r) := by intro y; simp [waC]
    have skip : waC x (z :: r) = waC x r → f_X2_waitHours_B2 (f_X2_waitHours_L2 n) o (nI h) (nI q) s = f_X2_waitHours_L2 n o (nI h) (nI q + 1) s → ∃ m, f_X2_waitHours_B2 (f_X2_waitHours_L2 n) o (nI h) (nI q) s = some (nI m, s) ∧ m ≤ 720 - h % 720 ∧ (m = 0 → waC x (z :: r) = false) ∧ ∀ d, d < m → waC (shf d x) (z :: r) = true := by
      intro g1 g2
      rw [g2, nI_1]
      exact ⟨m, a1, a2, fun c => by rw [g1]; exact a3 c, fun d hd => by rw [ew, a4 d hd]; simp⟩
    show ∃ m, f_X2_waitHours_B2 _ _ _ _ _ = _ ∧ _
    have hg := gi_nI (show q < 12 by omega) (show 12 < 2 ^ 31 by decide)
    have ex1 : s 24 0 (1 : Int32).toNatClampNeg = x 1 := hx 1 (by decide)
    have body : f_X2_waitHours_B2 (f_X2_waitHours_L2 n) o (nI h) (nI q) s = (if z.1 = 87 then (if z.2.1 ≤ x 1 then f_X2_waitHours_L2 n o (nI h) (nI q + 1) s else Option.bind (f_X2_holds o (nI q) s) fun q4 => if q4.1 = 0 then f_X2_waitHours_L2 n o (nI h) (nI q + 1) q4.2 else Option.bind (f_X2_steadyHours o (nI q) (nI h) q4.2) fun q5 => some (q5.1, q5.2)) else f_X2_waitHours_L2 n o (nI h) (nI q + 1) s) := by
      unfold f_X2_waitHours_B2
      rw [hN, if_neg (nI_ge (by omega) (by omega)), nI_clamp (show q < 2 ^ 31 by omega), q1, q2, ex1]
      simp only [chk, hg, show gi 1 5 = true by decide, if_true]
    by_cases g : z.1 = 87
    · rw [if_pos g] at body
      by_cases g2 : z.2.1 ≤ x 1
      · rw [if_pos g2] at body
        exact skip (by rw [ew, decide_eq_false (Int32.not_lt.mpr g2)]; simp) body
      · rw [if_neg g2, e_holdsX (x := x) h3 (by omega) q3 q4 (hz.1 (Or.inl g)) q5 hx] at body
        cases hh2 : hol x z.2.2 with
        | false =>
          rw [hh2] at body
          exact skip (by rw [ew, hh2]; simp) body
        | true =>
          rw [hh2] at body
          obtain ⟨k, k1, k2, k3, k4⟩ := e_steady (z := z) (by omega) h3 ⟨q2, q3, q4, q5⟩ (hz.1 (Or.inl g)) hx hb hh ht ht2 (Int32.not_le.mp g2)
          refine ⟨k, ?_, k2, fun c => by omega, fun d hd => ?_⟩
          · rw [body, Option.bind_some]
            dsimp only
            rw [if_neg (show ¬ bI true = 0 by decide), k3]
            rfl
          · have e1 : shf d x 1 = nI (t + d) := by
              unfold shf
              rw [if_pos (Or.inr rfl), ht, nI_add]
            rw [ew, (k4 d hd).2, hh2, e1, decide_eq_true (k4 d hd).1, decide_eq_true g]
            rfl
    · rw [if_neg g] at body
      exact skip (by rw [ew, decide_eq_false g]; simp) body
theorem e_waitX {x : Nat → Int32} {o h t : Nat} {s : Sg} {r : List Cl} (hc : CXc s o r) (hl : r.length ≤ 12) (hok : ∀ z ∈ r, clok z) (hx : XF s x) (hb : xb x) (hh : h ≤ 20000) (ht : x 1 = nI t) (ht2 : t ≤ 20000) : ∃ m, f_X2_waitHours o (nI h) s = some (nI m, s) ∧ m ≤ 720 - h % 720 ∧ (m = 0 → waC x r = false) ∧ ∀ d, d < m → waC (shf d x) r = true := by
  unfold f_X2_waitHours
  exact e_waitXL hc.1 hl hx hb hh ht ht2 r 0 0 FU (by omega) hc.2 (Or.inl ⟨rfl, rfl⟩) hok (by unfold FU; omega)
/-! small methods of the class -/
theorem e_monX (σ : Sg) {h : Nat} (hh : h < 2 ^ 31) : f_X9_monthOf (nI h) σ = some (nI (mon h), σ) := e_mon σ hh
section X1
variable {σ : Sg} {c : Cf} {v i : Nat}
theorem e_wiX (H : CX σ c) (hv : v < nv c) (hi : i < lg c v) {h : Nat} (hh : h < 2 ^ 31) : f_X1_windIn (nI (pg c v i)) (nI h) σ = some (wd c (mon h) v i, σ) := by
  have hp := ((H.1.2.1 v hv).2.2.2.2.2.2 i hi).1
  have hm := mon_lt h
  obtain ⟨-, -, -, -, -, l6⟩ := (H.2.2.1 v hv).2.1 i hi
  unfold f_X1_windIn
  rw [e_monX σ hh]
  show chk (gi (nI (pg c v i) * 12 + nI (mon h)) 144) _ = _
  rw [L_12, pk_mul, nI_add, chk, if_pos (gi_nI (by omega) (by decide))]
  dsimp only
  rw [nI_clamp (by omega), Nat.mul_comm, (l6 (mon h) hm).1]
theorem e_lvX (H : CX σ c) (hv : v < nv c) (hi : i ≤ 7) : f_X8_leavesFrom v (nI i) σ = some (bI (decide (i < lg c v)), σ) := by
  have hlg := (H.1.2.1 v hv).1
  unfold f_X8_leavesFrom
  rw [if_neg (nI_pos (by omega)), (H.2.2.1 v hv).1.2.2.2]
  by_cases g : i < lg c v
  · rw [if_neg (nI_ge g (by omega)), decide_eq_true g]; rfl
  · rw [if_pos (nI_le (by omega) (by omega)), decide_eq_false g]; rfl
theorem e_lateX (H : CX σ c) (hv : v < nv c) (hi : i < lg c v) {h : Int32} : f_X8_lateAt v (nI (i + 1)) h σ = some (if 0 < h - dC c v (i + 1) then h - dC c v (i + 1) else 0, σ) := by
  have hlg := (H.1.2.1 v hv).1
  unfold f_X8_lateAt
  rw [chk, if_pos (gi_nI (by omega) (by decide)), nI_clamp (by omega), ((H.2.2.1 v hv).2.1 i hi).2.2.2.2.1]
end X1
theorem XF5 (σ : Sg) (a b c d e : Int32) : XF (up3 (up3 (up3 (up3 (up3 σ 24 0 0 a) 24 0 1 b) 24 0 2 c) 24 0 3 d) 24 0 4 e) (fun k => match k with
    | 0 => a
    | 1 => b
    | 2 => c
    | 3 => d
    | _ => e) := by
  intro k hk
  rcases (show k = 0 ∨ k = 1 ∨ k = 2 ∨ k = 3 ∨ k = 4 by omega) with rfl | rfl | rfl | rfl | rfl <;> simp [up_at]
