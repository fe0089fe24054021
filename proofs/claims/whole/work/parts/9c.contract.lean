/-! contract() of both -/
theorem CMk_sh {r t : Sg} {a b : Nat} : ∀ {L : List It} {k : Nat}, (∀ j, j < k + L.length → t 68 0 (a + j) = r 68 0 (b + j) ∧ t 69 0 (a + j) = r 69 0 (b + j) ∧ t 70 0 (a + j) = r 70 0 (b + j) ∧ t 71 0 (a + j) = r 71 0 (b + j)) → CMk r (b + k) L → CMk t (a + k) L := by
  intro L
  induction L with
  | nil => intro k _ _; trivial
  | cons x q ih =>
    intro k h H
    obtain ⟨h1, h2, h3, h4⟩ := h k (by rw [List.length_cons]; omega)
    refine ⟨?_, ?_⟩
    · rw [h1, h2, h3, h4]; exact H.1
    · have := ih (k := k + 1) (fun j hj => h j (by rw [List.length_cons]; omega)) (by rw [← Nat.add_assoc]; exact H.2)
      rw [← Nat.add_assoc] at this
      exact this
theorem CMq_sh {r t : Sg} {l m : Nat} (h1 : ∀ q, q < 12 → t 64 0 (12 * l + q) = r 64 0 (12 * m + q) ∧ t 65 0 (12 * l + q) = r 65 0 (12 * m + q) ∧ t 66 0 (12 * l + q) = r 66 0 (12 * m + q) ∧ t 67 0 (12 * l + q) = r 67 0 (12 * m + q)) (h2 : ∀ j, j < 200 → t 68 0 (200 * l + j) = r 68 0 (200 * m + j) ∧ t 69 0 (200 * l + j) = r 69 0 (200 * m + j) ∧ t 70 0 (200 * l + j) = r 70 0 (200 * m + j) ∧ t 71 0 (200 * l + j) = r 71 0 (200 * m + j)) : ∀ {Ks : List Cl} {q : Nat}, q + Ks.length ≤ 12 → CMq r m q Ks → CMq t l q Ks := by
  intro Ks
  induction Ks with
  | nil => intro q _ _; trivial
  | cons x y ih =>
    intro q hq H
    rw [List.length_cons] at hq
    obtain ⟨e1, e2, e3, e4⟩ := h1 q (by omega)
    obtain ⟨⟨a1, a2, a, a3, a4, a5, a6⟩, a7⟩ := H
    refine ⟨⟨by rw [e1]; exact a1, by rw [e2]; exact a2, a, by rw [e3]; exact a3, by rw [e4]; exact a4, a5, CMk_sh (fun j hj => h2 j (by omega)) a6⟩, ih (by omega) a7⟩
/-- rows copied from src to dst, k of them so far, in four kinds -/
def Cp (A B C D dst src : Nat) (t0 t : Sg) (k : Nat) : Prop := Ag [A, B, C, D] t t0 ∧ ∀ j, (t A 0 j = if dst ≤ j ∧ j < dst + k then t0 A 0 (src + (j - dst)) else t0 A 0 j) ∧ (t B 0 j = if dst ≤ j ∧ j < dst + k then t0 B 0 (src + (j - dst)) else t0 B 0 j) ∧ (t C 0 j = if dst ≤ j ∧ j < dst + k then t0 C 0 (src + (j - dst)) else t0 C 0 j) ∧ (t D 0 j = if dst ≤ j ∧ j < dst + k then t0 D 0 (src + (j - dst)) else t0 D 0 j)
theorem Cp.rfl {A B C D dst src : Nat} {t : Sg} : Cp A B C D dst src t t 0 := ⟨Ag.rfl, fun j => ⟨by rw [if_neg (by omega)], by rw [if_neg (by omega)], by rw [if_neg (by omega)], by rw [if_neg (by omega)]⟩⟩
theorem cp_row {t0 t : Sg} {A dst src k : Nat} (hs : dst + k < src) (h : ∀ j, t A 0 j = if dst ≤ j ∧ j < dst + k then t0 A 0 (src + (j - dst)) else t0 A 0 j) (j : Nat) : upd (t A 0) (dst + k) (t A 0 (src + k)) j = if dst ≤ j ∧ j < dst + (k + 1) then t0 A 0 (src + (j - dst)) else t0 A 0 j := by
  unfold upd
  by_cases e : j = dst + k
  · rw [if_pos e, if_pos (by omega), h, if_neg (by omega), show j - dst = k by omega]
  · rw [if_neg e, h]
    by_cases q : dst ≤ j ∧ j < dst + k
    · rw [if_pos q, if_pos (by omega)]
    · rw [if_neg q, if_neg (by omega)]
section CONTRACT
variable {s : Sg}
theorem m_cp90 (k194 : Int32 → Int32 → Sg → Option (Int32 × Sg)) {t0 : Sg} {l : Nat} {P : Int32 × Sg → Prop} (hl : l < 4) (hK : ∀ t, Cp 64 65 66 67 (12 * l) 48 t0 t 12 → Ok (k194 (nI l) 0 t) P) : ∀ (d k f : Nat) (t : Sg), k + d = 12 → d < f → Cp 64 65 66 67 (12 * l) 48 t0 t k → Ok (f_X10_contract_L90 k194 f (nI l) (nI k) t) P := by
  intro d
  induction d with
  | zero =>
    intro k f t h1 h2 H
    obtain ⟨f, rfl⟩ : ∃ m, f = m + 1 := ⟨f - 1, by omega⟩
    have : k = 12 := by omega
    subst this
    show Ok (f_X10_contract_B90 _ _ _ _ _) _
    unfold f_X10_contract_B90
    exact ok_pos (by decide) (hK t H)
  | succ d ih =>
    intro k f t h1 h2 H
    obtain ⟨f, rfl⟩ : ∃ m, f = m + 1 := ⟨f - 1, by omega⟩
    have e1 : (48 : Int32) + nI k = nI (48 + k) := by rw [L_48, nI_add]
    have e2 : (12 : Int32) * nI l + nI k = nI (12 * l + k) := by rw [L_12, pk_mul, nI_add]
    have c1 : (nI (48 + k)).toNatClampNeg = 48 + k := nI_clamp (by omega)
    have c2 : (nI (12 * l + k)).toNatClampNeg = 12 * l + k := nI_clamp (by omega)
    show Ok (f_X10_contract_B90 _ _ _ _ _) _
    unfold f_X10_contract_B90
    refine ok_neg (by rw [L_12, nI_leI (by omega) (by omega)]; omega) ?_
    rw [e1, e2, c1, c2]
    refine ok_gi _ rfl (by omega) (ok_gi _ rfl (by omega) (ok_S (ok_gi _ rfl (by omega) (ok_gi _ rfl (by omega) (ok_S (ok_gi _ rfl (by omega) (ok_gi _ rfl (by omega) (ok_S (ok_gi _ rfl (by omega) (ok_gi _ rfl (by omega) (ok_S ?_)))))))))))
    rw [nI_1]
    refine ih (k + 1) f _ (by omega) (by omega) ⟨?_, fun j => ⟨?_, ?_, ?_, ?_⟩⟩
    · repeat refine Ag.up ?_ (by decide)
      exact H.1
    · simp only [up_k (show ¬ (64 : Nat) = 65 by decide), up_k (show ¬ (64 : Nat) = 66 by decide), up_k (show ¬ (64 : Nat) = 67 by decide), up_row]; exact cp_row (by omega) (fun j => (H.2 j).1) j
    · simp only [up_k (show ¬ (65 : Nat) = 64 by decide), up_k (show ¬ (65 : Nat) = 66 by decide), up_k (show ¬ (65 : Nat) = 67 by decide), up_row]; exact cp_row (by omega) (fun j => (H.2 j).2.1) j
    · simp only [up_k (show ¬ (66 : Nat) = 64 by decide), up_k (show ¬ (66 : Nat) = 65 by decide), up_k (show ¬ (66 : Nat) = 67 by decide), up_row]; exact cp_row (by omega) (fun j => (H.2 j).2.2.1) j
    · simp only [up_k (show ¬ (67 : Nat) = 64 by decide), up_k (show ¬ (67 : Nat) = 65 by decide), up_k (show ¬ (67 : Nat) = 66 by decide), up_row]; exact cp_row (by omega) (fun j => (H.2 j).2.2.2) j
theorem m_cp194 {t0 : Sg} {l : Nat} {P : Int32 × Sg → Prop} (hl : l < 4) (hK : ∀ t, Cp 68 69 70 71 (200 * l) 800 t0 t 200 → P (t 61 0 l, up3 t 10 0 19 0)) : ∀ (d k f : Nat) (t : Sg), k + d = 200 → d < f → Cp 68 69 70 71 (200 * l) 800 t0 t k → Ok (f_X10_contract_L194 f (nI l) (nI k) t) P := by
  intro d
  induction d with
  | zero =>
    intro k f t h1 h2 H
    obtain ⟨f, rfl⟩ : ∃ m, f = m + 1 := ⟨f - 1, by omega⟩
    have : k = 200 := by omega
    subst this
    show Ok (f_X10_contract_B194 _ _ _ _) _
    unfold f_X10_contract_B194
    refine ok_pos (by decide) (ok_S (ok_gi l rfl (by omega) (ok_some ?_)))
    rw [nI_clamp (by omega), up_k (by decide)]
    exact hK t H
  | succ d ih =>
    intro k f t h1 h2 H
    obtain ⟨f, rfl⟩ : ∃ m, f = m + 1 := ⟨f - 1, by omega⟩
    have e1 : (800 : Int32) + nI k = nI (800 + k) := by rw [show (800 : Int32) = nI 800 from rfl, nI_add]
    have e2 : (200 : Int32) * nI l + nI k = nI (200 * l + k) := by rw [L_200, pk_mul, nI_add]
    have c1 : (nI (800 + k)).toNatClampNeg = 800 + k := nI_clamp (by omega)
    have c2 : (nI (200 * l + k)).toNatClampNeg = 200 * l + k := nI_clamp (by omega)
    show Ok (f_X10_contract_B194 _ _ _ _) _
    unfold f_X10_contract_B194
    refine ok_neg (by rw [L_200, nI_leI (by omega) (by omega)]; omega) ?_
    rw [e1, e2, c1, c2]
    refine ok_gi _ rfl (by omega) (ok_gi _ rfl (by omega) (ok_S (ok_gi _ rfl (by omega) (ok_gi _ rfl (by omega) (ok_S (ok_gi _ rfl (by omega) (ok_gi _ rfl (by omega) (ok_S (ok_gi _ rfl (by omega) (ok_gi _ rfl (by omega) (ok_S ?_)))))))))))
    rw [nI_1]
    refine ih (k + 1) f _ (by omega) (by omega) ⟨?_, fun j => ⟨?_, ?_, ?_, ?_⟩⟩
    · repeat refine Ag.up ?_ (by decide)
      exact H.1
    · simp only [up_k (show ¬ (68 : Nat) = 69 by decide), up_k (show ¬ (68 : Nat) = 70 by decide), up_k (show ¬ (68 : Nat) = 71 by decide), up_row]; exact cp_row (by omega) (fun j => (H.2 j).1) j
    · simp only [up_k (show ¬ (69 : Nat) = 68 by decide), up_k (show ¬ (69 : Nat) = 70 by decide), up_k (show ¬ (69 : Nat) = 71 by decide), up_row]; exact cp_row (by omega) (fun j => (H.2 j).2.1) j
    · simp only [up_k (show ¬ (70 : Nat) = 68 by decide), up_k (show ¬ (70 : Nat) = 69 by decide), up_k (show ¬ (70 : Nat) = 71 by decide), up_row]; exact cp_row (by omega) (fun j => (H.2 j).2.2.1) j
    · simp only [up_k (show ¬ (71 : Nat) = 68 by decide), up_k (show ¬ (71 : Nat) = 69 by decide), up_k (show ¬ (71 : Nat) = 70 by decide), up_row]; exact cp_row (by omega) (fun j => (H.2 j).2.2.2) j
/-- the reference at the beginning of a text -/
def mI (t : Sg) (n : Nat) : Sg := up3 (up3 (up3 (up3 (up3 (up3 (up3 t 10 0 22 0) 10 0 23 (-1)) 10 0 37 0) 10 0 38 (nI n)) 61 0 4 0) 62 0 4 0) 63 0 4 0
def Mtx (t : Sg) (n : Nat) : Option (Int32 × Sg) := if nI n = 0 then some (1, mI t n) else f_X10_readsText_L39 FU 1 (mI t n)
theorem m_text {t : Sg} {n : Nat} : f_X10_readsText (nI n) (up3 (up3 t 10 0 22 0) 10 0 23 (-1)) = Mtx t n := by
  unfold f_X10_readsText Mtx mI bdS
  simp only [show gi 4 5 = true from rfl, chk, if_true, show (4 : Int32).toNatClampNeg = 4 from rfl]
theorem mI_rc {t : Sg} {n : Nat} : RC n t (mI t n) 0 [] := by
  have A : Ag [10, 61, 62, 63, 64, 65, 66, 67, 68, 69, 70, 71, 72] (mI t n) t := by
    unfold mI
    repeat refine Ag.up ?_ (by decide)
    exact Ag.rfl
  refine ⟨⟨⟨A, fun j hj => ?_, fun j hj => ?_, fun j hj => ?_, fun j hj => ?_⟩, ⟨?_, ?_⟩, ?_, ?_, ?_, trivial, trivial⟩, ?_, ?_, by show 0 ≤ 0; omega, by omega⟩
  · have a : ∀ x, x ∈ [22, 23, 36, 37, 38, 39, 40] → ¬ j = x := fun x hx e => hj (by rw [e]; exact hx)
    unfold mI
    simp only [up_k (show ¬ (10 : Nat) = 61 by decide), up_k (show ¬ (10 : Nat) = 62 by decide), up_k (show ¬ (10 : Nat) = 63 by decide), up_j (a 22 (by decide)), up_j (a 23 (by decide)), up_j (a 37 (by decide)), up_j (a 38 (by decide))]
  · unfold mI; simp only [up_k (show ¬ (68 : Nat) = 10 by decide), up_k (show ¬ (68 : Nat) = 61 by decide), up_k (show ¬ (68 : Nat) = 62 by decide), up_k (show ¬ (68 : Nat) = 63 by decide), up_k (show ¬ (69 : Nat) = 10 by decide), up_k (show ¬ (69 : Nat) = 61 by decide), up_k (show ¬ (69 : Nat) = 62 by decide), up_k (show ¬ (69 : Nat) = 63 by decide), up_k (show ¬ (70 : Nat) = 10 by decide), up_k (show ¬ (70 : Nat) = 61 by decide), up_k (show ¬ (70 : Nat) = 62 by decide), up_k (show ¬ (70 : Nat) = 63 by decide), up_k (show ¬ (71 : Nat) = 10 by decide), up_k (show ¬ (71 : Nat) = 61 by decide), up_k (show ¬ (71 : Nat) = 62 by decide), up_k (show ¬ (71 : Nat) = 63 by decide), and_self]
  · unfold mI; simp only [up_k (show ¬ (64 : Nat) = 10 by decide), up_k (show ¬ (64 : Nat) = 61 by decide), up_k (show ¬ (64 : Nat) = 62 by decide), up_k (show ¬ (64 : Nat) = 63 by decide), up_k (show ¬ (65 : Nat) = 10 by decide), up_k (show ¬ (65 : Nat) = 61 by decide), up_k (show ¬ (65 : Nat) = 62 by decide), up_k (show ¬ (65 : Nat) = 63 by decide), up_k (show ¬ (66 : Nat) = 10 by decide), up_k (show ¬ (66 : Nat) = 61 by decide), up_k (show ¬ (66 : Nat) = 62 by decide), up_k (show ¬ (66 : Nat) = 63 by decide), up_k (show ¬ (67 : Nat) = 10 by decide), up_k (show ¬ (67 : Nat) = 61 by decide), up_k (show ¬ (67 : Nat) = 62 by decide), up_k (show ¬ (67 : Nat) = 63 by decide), and_self]
  · unfold mI
    have : ¬ j = 4 := by omega
    simp only [up_k (show ¬ (61 : Nat) = 10 by decide), up_k (show ¬ (61 : Nat) = 62 by decide), up_k (show ¬ (61 : Nat) = 63 by decide), up_k (show ¬ (63 : Nat) = 10 by decide), up_k (show ¬ (63 : Nat) = 61 by decide), up_k (show ¬ (63 : Nat) = 62 by decide), up_j this, and_self]
  · unfold mI; simp only [up_k (show ¬ (10 : Nat) = 61 by decide), up_k (show ¬ (10 : Nat) = 62 by decide), up_k (show ¬ (10 : Nat) = 63 by decide), up_j (show ¬ (22 : Nat) = 38 by decide), up_j (show ¬ (22 : Nat) = 37 by decide), up_j (show ¬ (22 : Nat) = 23 by decide), up_s]
  · unfold mI; simp only [up_k (show ¬ (10 : Nat) = 61 by decide), up_k (show ¬ (10 : Nat) = 62 by decide), up_k (show ¬ (10 : Nat) = 63 by decide), up_j (show ¬ (23 : Nat) = 38 by decide), up_j (show ¬ (23 : Nat) = 37 by decide), up_s]
  · unfold mI; simp only [up_k (show ¬ (62 : Nat) = 63 by decide), up_s]; rfl
  · unfold mI; simp only [up_k (show ¬ (61 : Nat) = 62 by decide), up_k (show ¬ (61 : Nat) = 63 by decide), up_s]; rfl
  · unfold mI; simp only [up_s]; rfl
  · unfold mI; simp only [up_k (show ¬ (10 : Nat) = 61 by decide), up_k (show ¬ (10 : Nat) = 62 by decide), up_k (show ¬ (10 : Nat) = 63 by decide), up_j (show ¬ (37 : Nat) = 38 by decide), up_s]; rfl
  · unfold mI; simp only [up_k (show ¬ (10 : Nat) = 61 by decide), up_k (show ¬ (10 : Nat) = 62 by decide), up_k (show ¬ (10 : Nat) = 63 by decide), up_s]
/-- the class reads; the reference from any state with the same tape -/
theorem x_read {g : Nat → Nat} {n o : Nat} (TX : TXX s g n) (ho : o < 5) : ∃ q, f_X5_read (nI n) o s = some q ∧ ∀ t, TXM t g n → TxG n o s t (Mtx t n) q := by
  have hn := TX.1
  -- the class at the beginning of the text
  have ini : ∃ sI, XC n o s sI 0 [] ∧ f_X5_read (nI n) o s = if nI n ≤ 0 then f_X5_read_L59 FU 0 0 sI else f_X5_read_L59 FU 1 0 sI := by
    have c200 : ¬ (200 : Int32) < nI n := by rw [L_200, nI_ltI (by omega) (by omega)]; omega
    refine ⟨up3 (up3 (up3 (up3 (up3 (up3 (up3 (up3 (up3 s 5 0 0 1) 5 0 1 (nI n)) 5 0 2 0) 5 0 3 (nI (o + 1))) 2 o 0 0) 2 o 1 0) 2 o 5 0) 5 0 7 0) 5 0 8 (-1), ?_, ?_⟩
    · refine ⟨⟨?_, fun u hu => ?_⟩, ⟨?_, up_s⟩, ?_, ?_, ?_, ?_, ?_, ?_, ?_, trivial, trivial, by show 0 ≤ 0; omega, by omega⟩
      · repeat refine Ag.up ?_ (by decide)
        exact Ag.rfl
      · simp only [up_k (show ¬ (2 : Nat) = 5 by decide), up_i hu, up_k (show ¬ (18 : Nat) = 5 by decide), up_k (show ¬ (18 : Nat) = 2 by decide), up_k (show ¬ (19 : Nat) = 5 by decide), up_k (show ¬ (19 : Nat) = 2 by decide), up_k (show ¬ (20 : Nat) = 5 by decide), up_k (show ¬ (20 : Nat) = 2 by decide), up_k (show ¬ (21 : Nat) = 5 by decide), up_k (show ¬ (21 : Nat) = 2 by decide), up_k (show ¬ (22 : Nat) = 5 by decide), up_k (show ¬ (22 : Nat) = 2 by decide), up_k (show ¬ (23 : Nat) = 5 by decide), up_k (show ¬ (23 : Nat) = 2 by decide), and_self]
      · rw [up_j (by decide), up_s]
      · simp only [up_j (show ¬ (0 : Nat) = 8 by decide), up_j (show ¬ (0 : Nat) = 7 by decide), up_j (show ¬ (0 : Nat) = 3 by decide), up_j (show ¬ (0 : Nat) = 2 by decide), up_j (show ¬ (0 : Nat) = 1 by decide), up_k (show ¬ (5 : Nat) = 2 by decide), up_s]
      · simp only [up_j (show ¬ (1 : Nat) = 8 by decide), up_j (show ¬ (1 : Nat) = 7 by decide), up_j (show ¬ (1 : Nat) = 3 by decide), up_j (show ¬ (1 : Nat) = 2 by decide), up_k (show ¬ (5 : Nat) = 2 by decide), up_s]
      · simp only [up_j (show ¬ (3 : Nat) = 8 by decide), up_j (show ¬ (3 : Nat) = 7 by decide), up_k (show ¬ (5 : Nat) = 2 by decide), up_s]
      · simp only [up_j (show ¬ (2 : Nat) = 8 by decide), up_j (show ¬ (2 : Nat) = 7 by decide), up_j (show ¬ (2 : Nat) = 3 by decide), up_k (show ¬ (5 : Nat) = 2 by decide), up_s]; rfl
      · simp only [up_k (show ¬ (2 : Nat) = 5 by decide), up_s]; rfl
      · simp only [up_k (show ¬ (2 : Nat) = 5 by decide), up_j (show ¬ (0 : Nat) = 5 by decide), up_j (show ¬ (0 : Nat) = 1 by decide), up_s]; rfl
      · simp only [up_k (show ¬ (2 : Nat) = 5 by decide), up_j (show ¬ (1 : Nat) = 5 by decide), up_s]; rfl
    · have ii : decide (¬ nI (o + 1) = 0 ∧ o < 5) = true := decide_eq_true ⟨nI_ne0 (by omega) (by omega), ho⟩
      unfold f_X5_read f_X2_empty bdS
      simp only [if_neg c200, up_s, chk, if_true, nI_clamp (show o + 1 < 2 ^ 31 by omega), Nat.add_sub_cancel, Option.bind_some, up_j (show ¬ (1 : Nat) = 8 by decide), up_j (show ¬ (1 : Nat) = 7 by decide), up_j (show ¬ (1 : Nat) = 3 by decide), up_j (show ¬ (1 : Nat) = 2 by decide), up_k (show ¬ (5 : Nat) = 2 by decide), ii]
  obtain ⟨sI, HX, e⟩ := ini
  by_cases hz : n = 0
  · subst hz
    have e1 : f_X5_read_L59 FU 0 0 sI = some (1, sI) := by
      have e2 : ∀ N, N = 999999 + 1 → f_X5_read_L59 N 0 0 sI = some (1, sI) := by
        intro N hN
        subst hN
        show f_X5_read_B59 _ _ _ _ = _
        unfold f_X5_read_B59
        rw [if_neg (by decide), if_pos rfl]
      exact e2 FU rfl
    refine ⟨(1, sI), by rw [e, if_pos (by decide), e1], fun t T => Or.inr ⟨rfl, 0, [], HX, by show 0 ≤ 12; omega, fun y hy => absurd hy (by simp), ?_⟩⟩
    unfold Mtx
    exact ok_pos rfl (ok_some ⟨rfl, mI_rc.1⟩)
  · have hp : ¬ nI n ≤ 0 := nI_nle (by omega) (by omega)
    have h0 : ¬ nI n = 0 := nI_ne0 (by omega) (by omega)
    have run : ∀ t, TXM t g n → Ok (f_X5_read_L59 FU 1 0 sI) (TxG n o s t (Mtx t n)) := by
      intro t T
      have := s_text TX T ho 13 0 [] sI (mI t n) FU FU (by rfl) (by decide) (by decide) HX mI_rc (fun y hy => absurd hy (by simp)) (by show 0 ≤ 12; omega)
      unfold Mtx
      rw [if_neg h0]
      exact this
    -- one run of the class, whatever the reference's state
    have T0 : ∃ t : Sg, TXM t g n := ⟨fun _ _ k => nI (g k), hn, fun k hk => ⟨(TX.2 k hk).1, by
      have hg := (TX.2 k hk).1
      have := pk_andN (n := g k) (by omega) (m := 255) 8 (by decide)
      rw [this, Nat.mod_eq_of_lt (by omega)]⟩⟩
    obtain ⟨tt, Tt⟩ := T0
    obtain ⟨q, q1, -⟩ := run tt Tt
    refine ⟨q, by rw [e, if_neg hp]; exact q1, fun t T => ?_⟩
    obtain ⟨q', y1, y2⟩ := run t T
    have : q = q' := Option.some.inj (q1.symm.trans y1)
    subst this
    exact y2
end CONTRACT
