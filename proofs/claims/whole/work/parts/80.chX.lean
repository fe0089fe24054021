/-! letters, class: chooseRides() -/
section CHX
variable {N : Nt} {b H : Nat}
theorem e_fA {s : Sg} {f : Nat → Option Nat} {v i left : Nat} (HN : NX s N) (hb : b < 8) (hH : H ≤ 1000000) (hl : left ≤ 10) (hR : RR s left f) (hbd : ∀ q, q < 8 → bdO (f q)) (hv : v < nN N) : ∀ (d j n : Nat), j + d = nG N v + 1 → d < n → i < j → (∀ j' c, i < j' → j' < j → cX N v j' = some c → ¬ Gd N b H f v j' c) → ∃ w, f_X4_findAshore_L5 n v (nI v) (nI left) (nI b) (nI H) (nI j) s = some (w, s) ∧ ((w = -1 ∧ ∀ j' c, i < j' → j' ≤ nG N v → cX N v j' = some c → ¬ Gd N b H f v j' c) ∨ ∃ j0 c, w = nI j0 ∧ i < j0 ∧ j0 ≤ nG N v ∧ cX N v j0 = some c ∧ Gd N b H f v j0 c ∧ ∀ j' c, i < j' → j' < j0 → cX N v j' = some c → ¬ Gd N b H f v j' c) := by
  obtain ⟨K, B2, B3⟩ := id HN
  have hv10 := K.1
  have hG := K.2.1 v hv
  intro d
  induction d with
  | zero =>
    intro j n h1 h2 h3 h4
    obtain ⟨n, rfl⟩ : ∃ m, n = m + 1 := ⟨n - 1, by omega⟩
    refine ⟨-1, ?_, Or.inl ⟨rfl, fun j' c a1 a2 => h4 j' c a1 (by omega)⟩⟩
    show f_X4_findAshore_B5 _ _ _ _ _ _ _ _ = _
    unfold f_X4_findAshore_B5
    rw [(B3 v hv).1, if_pos (nI_lt (by omega) (by omega))]
  | succ d ih =>
    intro j n h1 h2 h3 h4
    obtain ⟨n, rfl⟩ : ∃ m, n = m + 1 := ⟨n - 1, by omega⟩
    have hj : j ≤ nG N v := by omega
    have hpj := K.2.2.1 v j hv hj
    obtain ⟨C1, C2, C3, C4, C5⟩ := (B3 v hv).2 j hj
    obtain ⟨w, w1, w2⟩ := e_goesOn (o := cX N v j) hl hpj hb hH C4 (hbd _ hpj) hR
    have e1 : nI v * 7 + nI j = nI (7 * v + j) := by rw [L_7, pk_mul, nI_add, Nat.mul_comm]
    have hB : f_X4_findAshore_L5 (n + 1) v (nI v) (nI left) (nI b) (nI H) (nI j) s = if w = 0 then f_X4_findAshore_L5 n v (nI v) (nI left) (nI b) (nI H) (nI (j + 1)) s else some (nI j, s) := by
      show f_X4_findAshore_B5 _ _ _ _ _ _ _ _ = _
      unfold f_X4_findAshore_B5
      rw [(B3 v hv).1, if_neg (nI_nlt (by omega) (by omega)), e1]
      simp only [chk, gi_nI (show j < 7 by omega) (by decide), gi_nI (show 7 * v + j < 70 by omega) (by decide), if_true, nI_clamp (show j < 2 ^ 31 by omega), nI_clamp (show 7 * v + j < 2 ^ 31 by omega), C1, C2, w1, Option.bind_some, nI_1]
    rw [hB]
    rcases w2 with ⟨z1, c, z2, z3⟩ | ⟨z1, z2⟩
    · rw [if_neg (by rw [z1]; decide)]
      exact ⟨nI j, rfl, Or.inr ⟨j, c, rfl, h3, hj, z2, z3, h4⟩⟩
    · rw [if_pos z1]
      refine ih (j + 1) n (by omega) (by omega) (by omega) ?_
      intro j' c a1 a2 a3
      by_cases e : j' = j
      · subst e; exact z2 c a3
      · exact h4 j' c a1 (by omega) a3
def noted (s : Sg) (k v i j : Nat) : Sg := up3 (up3 (up3 s 29 0 (3 * k) (nI v)) 29 0 (3 * k + 1) (nI i)) 29 0 (3 * k + 2) (nI j)
theorem e_note {s : Sg} {k v i j : Nat} (hk : k < 10) (h : s 4 0 6 = nI k) : f_X4_noteRide (nI v) (nI i) (nI j) s = some (noted s k v i j) := by
  have e0 : nI k * 3 = nI (3 * k) := by rw [L_3, pk_mul, Nat.mul_comm]
  have e1 : nI (3 * k) + 1 = nI (3 * k + 1) := nI_1 _
  have e2 : nI (3 * k) + 2 = nI (3 * k + 2) := by rw [L_2, nI_add]
  unfold f_X4_noteRide bdS noted
  simp only [chk, up_k (show ¬ (4 : Nat) = 29 by decide), h, e0, e1, e2, gi_nI (show 3 * k < 30 by omega) (by decide), gi_nI (show 3 * k + 1 < 30 by omega) (by decide), gi_nI (show 3 * k + 2 < 30 by omega) (by decide), if_true, nI_clamp (show 3 * k < 2 ^ 31 by omega), nI_clamp (show 3 * k + 1 < 2 ^ 31 by omega), nI_clamp (show 3 * k + 2 < 2 ^ 31 by omega)]
end CHX
