/-! the class: excuses(), waitHours() -/
theorem dps_all : ∀ {r : List It} {k k' : Nat}, dps r k = some k' → ∀ it ∈ r, it.1 = 33 ∨ it.1 = 38 ∨ it.1 = 124 ∨ ((it.1 = 60 ∨ it.1 = 61 ∨ it.1 = 62) ∧ it.2.1.toNatClampNeg < 5 ∧ ¬ it.2.1 < 0 ∧ -10000 < it.2.2.toInt ∧ it.2.2.toInt < 10000) := by
  intro r
  induction r with
  | nil => intro k k' _ it h; exact absurd h List.not_mem_nil
  | cons i r ih =>
    intro k k' h it hm
    obtain ⟨d, g1, g2⟩ := Option.bind_eq_some_iff.mp (show (dp1 i k).bind (dps r) = some k' from h)
    rcases List.mem_cons.mp hm with rfl | hm
    · unfold dp1 at g1
      by_cases c1 : it.1 = 33
      · exact Or.inl c1
      · rw [if_neg c1] at g1
        by_cases c2 : it.1 = 38 ∨ it.1 = 124
        · rcases c2 with c2 | c2
          · exact Or.inr (Or.inl c2)
          · exact Or.inr (Or.inr (Or.inl c2))
        · rw [if_neg c2] at g1
          split at g1
          · rename_i hc
            exact Or.inr (Or.inr (Or.inr ⟨hc.1, hc.2.1, hc.2.2.1, hc.2.2.2.2⟩))
          · cases g1
    · exact ih g2 it hm
theorem e_excXL {x : Nat → Int32} {o : Nat} {s : Sg} {N : Nat} (hN : s 2 o 0 = nI N) (hN2 : N ≤ 12) (hx : XF s x) : ∀ (r : List Cl) (q e n : Nat), q + r.length = N → CXq s o q e r → ((q = 0 ∧ e = 0) ∨ (0 < q ∧ s 20 o (q - 1) = nI e)) → (∀ z ∈ r, clok z) → r.length < n → f_X2_excuses_L2 n o (nI q) s = some (bI (exC x r), s) := by
  intro r
  induction r with
  | nil =>
    intro q e n h1 h2 h3 h4 h5
    obtain ⟨n, rfl⟩ : ∃ m, n = m + 1 := ⟨n - 1, by omega⟩
    simp only [List.length_nil] at h1
    show f_X2_excuses_B2 _ _ _ _ = _
    unfold f_X2_excuses_B2
    rw [hN, if_pos (nI_le (by omega) (by omega))]
    rfl
  | cons z r ih =>
    intro q e n h1 h2 h3 h4 h5
    obtain ⟨n, rfl⟩ : ∃ m, n = m + 1 := ⟨n - 1, by omega⟩
    simp only [List.length_cons] at h1 h5
    obtain ⟨⟨q1, q2, q3, q4, q5⟩, q6⟩ := h2
    have hz := h4 z List.mem_cons_self
    have nx : f_X2_excuses_L2 n o (nI q + 1) s = some (bI (exC x r), s) := by
      rw [nI_1]
      exact ih (q + 1) _ n (by omega) q6 (Or.inr ⟨by omega, by rw [show q + 1 - 1 = q by omega]; exact q3⟩) (fun y hy => h4 y (List.mem_cons_of_mem _ hy)) (by omega)
    have ew : exC x (z :: r) = ((decide (z.1 = 88) && hol x z.2.2) || exC x r) := by simp [exC]
    show f_X2_excuses_B2 _ _ _ _ = _
    unfold f_X2_excuses_B2
    rw [hN, if_neg (nI_ge (by omega) (by omega)), chk, if_pos (gi_nI (by omega) (by decide)), nI_clamp (show q < 2 ^ 31 by omega), q1, ew]
    by_cases g : z.1 = 88
    · rw [if_pos g, e_holdsX (x := x) h3 (by omega) q3 q4 (hz.1 (Or.inr g)) q5 hx, decide_eq_true g]
      show (if bI (hol x z.2.2) = 0 then _ else _) = _
      cases hh : hol x z.2.2 with
      | false => rw [if_pos (show bI false = 0 from rfl)]; exact nx
      | true => rw [if_neg (show ¬ bI true = 0 by decide)]; rfl
    · rw [if_neg g, decide_eq_false g]
      exact nx
theorem e_excX {x : Nat → Int32} {o : Nat} {s : Sg} {r : List Cl} (h : CXc s o r) (hl : r.length ≤ 12) (hok : ∀ z ∈ r, clok z) (hx : XF s x) : f_X2_excuses o s = some (bI (exC x r), s) := by
  unfold f_X2_excuses
  exact e_excXL h.1 hl hx r 0 0 FU (by omega) h.2 (Or.inl ⟨rfl, rfl⟩) hok (by unfold FU; omega)
/-! hours in which no comparison can turn -/
def shf (d : Nat) (x : Nat → Int32) : Nat → Int32 := fun k => if k = 0 ∨ k = 1 then x k + nI d else x k
def okI (x : Nat → Int32) (m : Nat) (it : It) : Prop := (it.1 = 60 ∨ it.1 = 61 ∨ it.1 = 62) → (it.2.1 = 0 ∨ it.2.1 = 1) → 0 ≤ it.2.2.toInt - (x it.2.1.toNatClampNeg).toInt → (m : Int) ≤ max 1 (it.2.2.toInt - (x it.2.1.toNatClampNeg).toInt)
def xb (x : Nat → Int32) : Prop := ∀ k, k < 2 → -1000000 ≤ (x k).toInt ∧ (x k).toInt ≤ 1000000
theorem bmod32 {z : Int} (h1 : -2147483648 ≤ z) (h2 : z < 2147483648) : z.bmod (2 ^ 32) = z := by
  rw [Int.bmod_def]
  split <;> omega
theorem addI {a b : Int32} (h1 : -2147483648 ≤ a.toInt + b.toInt) (h2 : a.toInt + b.toInt < 2147483648) : (a + b).toInt = a.toInt + b.toInt := by
  rw [Int32.toInt_add]; exact bmod32 h1 h2
theorem subI {a b : Int32} (h1 : -2147483648 ≤ a.toInt - b.toInt) (h2 : a.toInt - b.toInt < 2147483648) : (a - b).toInt = a.toInt - b.toInt := by
  rw [Int32.toInt_sub]; exact bmod32 h1 h2
theorem cmp_shf {x : Nat → Int32} {it : It} {m d : Nat} (hd : d < m) (hm : m ≤ 30000) (hx : xb x) (ho : okI x m it) (hc : (it.1 = 60 ∨ it.1 = 61 ∨ it.1 = 62) ∧ it.2.1.toNatClampNeg < 5 ∧ ¬ it.2.1 < 0 ∧ -10000 < it.2.2.toInt ∧ it.2.2.toInt < 10000) : cmpI it (shf d x) = cmpI it x := by
  obtain ⟨c1, c2, c3, c4, c5⟩ := hc
  by_cases hf : it.2.1 = 0 ∨ it.2.1 = 1
  rotate_left
  · have e : shf d x it.2.1.toNatClampNeg = x it.2.1.toNatClampNeg := by
      unfold shf
      rw [if_neg]
      rintro (q | q)
      · obtain ⟨j, j1, j2⟩ := nI_of c3
        rw [j2, nI_clamp j1] at q
        exact hf (Or.inl (by rw [j2, q]; rfl))
      · obtain ⟨j, j1, j2⟩ := nI_of c3
        rw [j2, nI_clamp j1] at q
        exact hf (Or.inr (by rw [j2, q]; rfl))
    unfold cmpI
    rw [e]
  have hk : it.2.1.toNatClampNeg = 0 ∨ it.2.1.toNatClampNeg = 1 := by
    rcases hf with q | q
    · left; rw [q]; decide
    · right; rw [q]; decide
  have hb := hx it.2.1.toNatClampNeg (by omega)
  have ho := ho c1 hf
  have e : shf d x it.2.1.toNatClampNeg = x it.2.1.toNatClampNeg + nI d := by
    unfold shf
    rw [if_pos hk]
  unfold cmpI
  rw [e]
  have ea : (x it.2.1.toNatClampNeg + nI d).toInt = (x it.2.1.toNatClampNeg).toInt + d := by
    rw [addI (by rw [nI_toInt (by omega)]; omega) (by rw [nI_toInt (by omega)]; omega), nI_toInt (by omega)]
  generalize x it.2.1.toNatClampNeg = y at *
  by_cases hz : d = 0
  · have : y + nI d = y := Int32.toInt_inj.mp (by rw [ea, hz]; simp)
    rw [this]
  have key : (it.2.2.toInt - y.toInt < 0) ∨ (d : Int) < it.2.2.toInt - y.toInt := by
    rcases Int.lt_or_le (it.2.2.toInt - y.toInt) 0 with q | q
    · exact Or.inl q
    · right
      have := ho q
      omega
  have k1 : decide (y + nI d < it.2.2) = decide (y < it.2.2) := by
    rw [decide_eq_decide, Int32.lt_iff_toInt_lt, Int32.lt_iff_toInt_lt, ea]
    omega
  have k2 : decide (it.2.2 < y + nI d) = decide (it.2.2 < y) := by
    rw [decide_eq_decide, Int32.lt_iff_toInt_lt, Int32.lt_iff_toInt_lt, ea]
    omega
  have k3 : decide (y + nI d = it.2.2) = decide (y = it.2.2) := by
    rw [decide_eq_decide, ← Int32.toInt_inj, ← Int32.toInt_inj, ea]
    omega
  rw [k1, k2, k3]
theorem evs_shf {x : Nat → Int32} {m d : Nat} (hd : d < m) (hm : m ≤ 30000) (hx : xb x) : ∀ {r : List It} {k k' : Nat} {st : List Bool}, dps r k = some k' → (∀ it ∈ r, okI x m it) → evs (shf d x) r st = evs x r st := by
  intro r
  induction r with
  | nil => intro k k' st _ _; rfl
  | cons i r ih =>
    intro k k' st h ho
    obtain ⟨q, g1, g2⟩ := Option.bind_eq_some_iff.mp (show (dp1 i k).bind (dps r) = some k' from h)
    have e : ev1 (shf d x) i st = ev1 x i st := by
      rcases dps_all h i List.mem_cons_self with c | c | c | c
      · unfold ev1; rw [if_pos c, if_pos c]
      · unfold ev1; simp [c]
      · unfold ev1; simp [c]
      · unfold ev1; rw [cmp_shf hd hm hx (ho i List.mem_cons_self) c]
    show evs (shf d x) r (ev1 (shf d x) i st) = evs x r (ev1 x i st)
    rw [e]
    exact ih g2 (fun it hit => ho it (List.mem_cons_of_mem _ hit))
theorem okI_mono {x : Nat → Int32} {m m' : Nat} {it : It} (h : okI x m it) (hm : m' ≤ m) : okI x m' it := fun a b c => by have := h a b c; omega
theorem e_stL {x : Nat → Int32} {o q en : Nat} {s : Sg} (hq : q < 12) (hen : s 20 o q = nI en) (hen2 : en ≤ 200) (hx : XF s x) (hb : xb x) : ∀ (r : List It) (k n m : Nat), (∀ it ∈ r, it.1 = 33 ∨ it.1 = 38 ∨ it.1 = 124 ∨ ((it.1 = 60 ∨ it.1 = 61 ∨ it.1 = 62) ∧ it.2.1.toNatClampNeg < 5 ∧ ¬ it.2.1 < 0 ∧ -10000 < it.2.2.toInt ∧ it.2.2.toInt < 10000)) → CXk s o k r → k + r.length = en → r.length < n → 1 ≤ m → m ≤ 30000 → ∃ m', 1 ≤ m' ∧ m' ≤ m ∧ (∀ it ∈ r, okI x m' it) ∧ f_X2_steadyHours_L31 n o (nI q) (nI m) (nI k) s = some (nI m', s) := by
  intro r
  induction r with
  | nil =>
    intro k n m h1 h2 h3 h4 h5 h6
    obtain ⟨n, rfl⟩ : ∃ m, n = m + 1 := ⟨n - 1, by omega⟩
    simp only [List.length_nil] at h3
    refine ⟨m, h5, Nat.le_refl _, fun it h => absurd h List.not_mem_nil, ?_⟩
    show f_X2_steadyHours_B31 _ _ _ _ _ _ = _
    unfold f_X2_steadyHours_B31
    rw [chk, if_pos (gi_nI hq (by decide)), nI_clamp (show q < 2 ^ 31 by omega), hen, if_pos (nI_le (by omega) (by omega))]
  | cons it r ih =>
    intro k n m h1 h2 h3 h4 h5 h6
    obtain ⟨n, rfl⟩ : ∃ m, n = m + 1 := ⟨n - 1, by omega⟩
    simp only [List.length_cons] at h3 h4
    have tail : ∀ mm, 1 ≤ mm → mm ≤ m → okI x mm it → ∃ m', 1 ≤ m' ∧ m' ≤ m ∧ (∀ z ∈ it :: r, okI x m' z) ∧ f_X2_steadyHours_L31 n o (nI q) (nI mm) (nI k + 1) s = some (nI m', s) := by
      intro mm g1 g2 g3
      rw [nI_1]
      obtain ⟨m', a1, a2, a3, a4⟩ := ih (k + 1) n mm (fun z hz => h1 z (List.mem_cons_of_mem _ hz)) h2.2 (by omega) (by omega) g1 (by omega)
      refine ⟨m', a1, by omega, fun z hz => ?_, a4⟩
      rcases List.mem_cons.mp hz with rfl | hz
      · exact okI_mono g3 a2
      · exact a3 z hz
    have gk := gi_nI (show k < 200 by omega) (show 200 < 2 ^ 31 by decide)
    have step : ∀ res, f_X2_steadyHours_B31 (f_X2_steadyHours_L31 n) o (nI q) (nI m) (nI k) s = res ↔ (Option.bind (f_X2_isComparison it.1 s) fun q3 => if q3.1 = 0 then f_X2_steadyHours_L31 n o (nI q) (nI m) (nI k + 1) q3.2 else if q3.2 22 o k = 0 then f_X2_steadyHours_B76 (f_X2_steadyHours_L31 n) o (nI q) (nI m) (nI k) q3.2 else if q3.2 22 o k = 1 then f_X2_steadyHours_B76 (f_X2_steadyHours_L31 n) o (nI q) (nI m) (nI k) q3.2 else f_X2_steadyHours_L31 n o (nI q) (nI m) (nI k + 1) q3.2) = res := by
      intro res
      unfold f_X2_steadyHours_B31
      rw [chk, if_pos (gi_nI hq (by decide)), nI_clamp (show q < 2 ^ 31 by omega), hen, if_neg (nI_ge (by omega) (by omega)), chk, if_pos gk, nI_clamp (show k < 2 ^ 31 by omega), h2.1.1]
      simp only [chk, gk, if_true]
    show ∃ m', 1 ≤ m' ∧ m' ≤ m ∧ (∀ z ∈ it :: r, okI x m' z) ∧ f_X2_steadyHours_B31 (f_X2_steadyHours_L31 n) o (nI q) (nI m) (nI k) s = some (nI m', s)
    simp only [step]
    rcases h1 it List.mem_cons_self with c | c | c | c
    · have e : f_X2_isComparison it.1 s = some (0, s) := by rw [c]; rfl
      simp only [e, Option.bind_some, if_true]
      exact tail m h5 (Nat.le_refl _) (fun z => absurd z (by rw [c]; decide))
    · have e : f_X2_isComparison it.1 s = some (0, s) := by rw [c]; rfl
      simp only [e, Option.bind_some, if_true]
      exact tail m h5 (Nat.le_refl _) (fun z => absurd z (by rw [c]; decide))
    · have e : f_X2_isComparison it.1 s = some (0, s) := by rw [c]; rfl
      simp only [e, Option.bind_some, if_true]
      exact tail m h5 (Nat.le_refl _) (fun z => absurd z (by rw [c]; decide))
    · have e : f_X2_isComparison it.1 s = some (1, s) := by
        rcases c.1 with z | z | z <;> rw [z] <;> rfl
      have main : (it.2.1 = 0 ∨ it.2.1 = 1) → ∃ m', 1 ≤ m' ∧ m' ≤ m ∧ (∀ z ∈ it :: r, okI x m' z) ∧ f_X2_steadyHours_B76 (f_X2_steadyHours_L31 n) o (nI q) (nI m) (nI k) s = some (nI m', s) := by
        intro hf
        have hk : it.2.1.toNatClampNeg < 2 := by
          rcases hf with z | z <;> rw [z] <;> decide
        have hg : gi it.2.1 5 = true := by
          unfold gi
          simp [c.2.2.1, c.2.1]
        have hbk := hb _ hk
        have hxk := hx it.2.1.toNatClampNeg (by omega)
        have e2 : ∀ res, f_X2_steadyHours_B76 (f_X2_steadyHours_L31 n) o (nI q) (nI m) (nI k) s = res ↔ (if it.2.2 - x it.2.1.toNatClampNeg < 0 then f_X2_steadyHours_L31 n o (nI q) (nI m) (nI k + 1) s else f_X2_steadyHours_L31 n o (nI q) (if (if 1 < it.2.2 - x it.2.1.toNatClampNeg then it.2.2 - x it.2.1.toNatClampNeg else 1) < nI m then (if 1 < it.2.2 - x it.2.1.toNatClampNeg then it.2.2 - x it.2.1.toNatClampNeg else 1) else nI m) (nI k + 1) s) = res := by
          intro res
          unfold f_X2_steadyHours_B76
          rw [nI_clamp (show k < 2 ^ 31 by omega), h2.1.2.1, h2.1.2.2, hxk]
          simp only [chk, gk, hg, if_true, bdI]
        simp only [e2]
        have hsub : (it.2.2 - x it.2.1.toNatClampNeg).toInt = it.2.2.toInt - (x it.2.1.toNatClampNeg).toInt := subI (by omega) (by omega)
        generalize hy : it.2.2 - x it.2.1.toNatClampNeg = y at *
        by_cases g : y < 0
        · simp only [g, if_true]
          refine tail m h5 (Nat.le_refl _) (fun _ _ z => ?_)
          have := Int32.lt_iff_toInt_lt.mp g
          rw [show (0 : Int32).toInt = 0 from rfl] at this
          omega
        · simp only [g, if_false]
          obtain ⟨a, a1, a2⟩ := nI_of g
          have ha : (a : Int) = it.2.2.toInt - (x it.2.1.toNatClampNeg).toInt := by rw [← hsub, a2, nI_toInt a1]
          have emx : (if 1 < y then y else 1) = nI (max 1 a) := by
            rw [a2, L_1]
            by_cases z : 1 < a
            · rw [if_pos (nI_lt z a1), Nat.max_eq_right (by omega)]
            · rw [if_neg (nI_nlt (by omega) (by omega)), Nat.max_eq_left (by omega)]
          have emn : (if nI (max 1 a) < nI m then nI (max 1 a) else nI m) = nI (min (max 1 a) m) := by
            by_cases z : max 1 a < m
            · rw [if_pos (nI_lt z (by omega)), Nat.min_eq_left (by omega)]
            · rw [if_neg (nI_nlt (by omega) (by omega)), Nat.min_eq_right (by omega)]
          rw [emx, emn]
          exact tail (min (max 1 a) m) (by omega) (by omega) (fun _ _ _ => by omega)
      simp only [e, Option.bind_some, show ¬ ((1 : Int32) = 0) by decide, if_false, h2.1.2.1]
      by_cases f0 : it.2.1 = 0
      · simp only [f0, if_true]
        exact main (Or.inl f0)
      · simp only [f0, if_false]
        by_cases f1 : it.2.1 = 1
        · simp only [f1, if_true]
          exact main (Or.inr f1)
        · simp only [f1, if_false]
          exact tail m h5 (Nat.le_refl _) (fun _ z => absurd z (by rintro (z | z) <;> contradiction))
