/-! the class's contracts: a stack of truths in the bits of one int -/
def BS (x : Int32) (st : List Bool) : Prop := ∀ j, j < 32 → x.toBitVec.getLsbD j = st.getD j false
theorem bit1 : ∀ j, j < 32 → (1 : Int32).toBitVec.getLsbD j = decide (j = 0) := by decide
theorem bitm2 : ∀ j, j < 32 → (-2 : Int32).toBitVec.getLsbD j = !decide (j = 0) := by decide
theorem bit0 : ∀ j, j < 32 → (0 : Int32).toBitVec.getLsbD j = false := by decide
theorem bit_bI (b : Bool) {j : Nat} (hj : j < 32) : (bI b).toBitVec.getLsbD j = (b && decide (j = 0)) := by
  cases b
  · exact bit0 j hj
  · rw [show bI true = 1 from rfl, bit1 j hj]; simp
theorem i32_ext {x y : Int32} (h : ∀ j, j < 32 → x.toBitVec.getLsbD j = y.toBitVec.getLsbD j) : x = y := Int32.toBitVec_inj.mp (BitVec.eq_of_getLsbD_eq h)
theorem bit_and (x y : Int32) (j : Nat) : (x &&& y).toBitVec.getLsbD j = (x.toBitVec.getLsbD j && y.toBitVec.getLsbD j) := by rw [Int32.toBitVec_and, BitVec.getLsbD_and]
theorem bit_or (x y : Int32) (j : Nat) : (x ||| y).toBitVec.getLsbD j = (x.toBitVec.getLsbD j || y.toBitVec.getLsbD j) := by rw [Int32.toBitVec_or, BitVec.getLsbD_or]
theorem bit_xor (x y : Int32) (j : Nat) : (x ^^^ y).toBitVec.getLsbD j = (x.toBitVec.getLsbD j ^^ y.toBitVec.getLsbD j) := by rw [Int32.toBitVec_xor, BitVec.getLsbD_xor]
theorem bit_ush (x : Int32) (j : Nat) : (ushr x 1).toBitVec.getLsbD j = x.toBitVec.getLsbD (j + 1) := by
  have e := pk_ushr x 1 1 (by decide)
  show (ushr x 1).toBitVec.toNat.testBit j = x.toBitVec.toNat.testBit (j + 1)
  rw [show (ushr x 1).toBitVec.toNat = x.toBitVec.toNat / 2 ^ 1 from e, Nat.testBit_div_two_pow, Nat.add_comm]
theorem bit_shl (x : Int32) {j : Nat} (hj : j < 32) : (x <<< (1 &&& 31 : Int32)).toBitVec.getLsbD j = (decide (0 < j) && x.toBitVec.getLsbD (j - 1)) := by
  have e := pk_shl x (1 &&& 31) 1 (by decide)
  show (x <<< (1 &&& 31 : Int32)).toBitVec.toNat.testBit j = (decide (0 < j) && x.toBitVec.toNat.testBit (j - 1))
  rw [e, Nat.testBit_mod_two_pow, Nat.testBit_mul_two_pow]
  simp [hj, Nat.one_le_iff_ne_zero, Nat.pos_iff_ne_zero]
theorem BS_0 : BS 0 [] := fun j hj => by rw [bit0 j hj]; rfl
theorem BS_top {x : Int32} {st : List Bool} (h : BS x st) : x &&& 1 = bI (st.headD false) := by
  apply i32_ext
  intro j hj
  rw [bit_and, bit1 j hj, bit_bI _ hj, h j hj]
  cases j with
  | zero => cases st <;> simp
  | succ j => simp
theorem BS_not {x : Int32} {b : Bool} {st : List Bool} (h : BS x (b :: st)) : BS (x ^^^ 1) ((!b) :: st) := by
  intro j hj
  rw [bit_xor, bit1 j hj, h j hj]
  cases j with
  | zero => simp
  | succ j => simp
theorem BS_and {x : Int32} {a b : Bool} {st : List Bool} (hl : st.length ≤ 29) (h : BS x (b :: a :: st)) : BS (ushr x 1 &&& ((x &&& 1) ||| -2)) ((a && b) :: st) := by
  intro j hj
  have e : x.toBitVec.getLsbD (j + 1) = (a :: st).getD j false := by
    rcases Nat.lt_or_ge (j + 1) 32 with q | q
    · rw [h (j + 1) q]; simp
    · rw [BitVec.getLsbD_of_ge _ _ q]
      symm
      rw [List.getD_eq_getElem?_getD, List.getElem?_eq_none (by simp; omega)]; rfl
  rw [bit_and, bit_ush, bit_or, bit_and, bitm2 j hj, bit1 j hj, h j hj, e]
  cases j with
  | zero => simp
  | succ j => simp
theorem BS_or {x : Int32} {a b : Bool} {st : List Bool} (hl : st.length ≤ 29) (h : BS x (b :: a :: st)) : BS (ushr x 1 ||| (x &&& 1)) ((a || b) :: st) := by
  intro j hj
  have e : x.toBitVec.getLsbD (j + 1) = (a :: st).getD j false := by
    rcases Nat.lt_or_ge (j + 1) 32 with q | q
    · rw [h (j + 1) q]; simp
    · rw [BitVec.getLsbD_of_ge _ _ q]
      symm
      rw [List.getD_eq_getElem?_getD, List.getElem?_eq_none (by simp; omega)]; rfl
  rw [bit_or, bit_ush, bit_and, bit1 j hj, h j hj, e]
  cases j with
  | zero => simp
  | succ j => simp
theorem BS_push {x : Int32} {b : Bool} {st : List Bool} (h : BS x st) : BS ((x <<< (1 &&& 31 : Int32)) ||| bI b) (b :: st) := by
  intro j hj
  rw [bit_or, bit_shl x hj, bit_bI b hj]
  cases j with
  | zero => simp
  | succ j => rw [show j + 1 - 1 = j from rfl, h j (by omega)]; simp
/-! the class's arrays as a configuration -/
def CXk (σ : Sg) (o : Nat) : Nat → List It → Prop
  | _, [] => True
  | b, it :: r => (σ 21 o b = it.1 ∧ σ 22 o b = it.2.1 ∧ σ 23 o b = it.2.2) ∧ CXk σ o (b + 1) r
def CXq (σ : Sg) (o : Nat) : Nat → Nat → List Cl → Prop
  | _, _, [] => True
  | q, e, x :: r => (σ 18 o q = x.1 ∧ σ 19 o q = x.2.1 ∧ σ 20 o q = nI (e + x.2.2.length) ∧ e + x.2.2.length ≤ 200 ∧ CXk σ o e x.2.2) ∧ CXq σ o (q + 1) (e + x.2.2.length) r
def CXc (σ : Sg) (o : Nat) (x : List Cl) : Prop := σ 2 o 0 = nI x.length ∧ CXq σ o 0 0 x
def CXv (σ : Sg) (c : Cf) (v : Nat) : Prop := σ 8 v 0 = nI (ln c v) ∧ σ 8 v 2 = sy c v ∧ σ 8 v 3 = sa c v ∧ σ 8 v 4 = nI (lg c v)
def CXo (σ : Sg) (v i : Nat) (o : Option (Nat × Nat)) : Prop := match o with
  | none => σ 40 v i = -1
  | some (u, j) => σ 40 v i = nI u ∧ σ 41 v i = nI j
def CXl (σ : Sg) (c : Cf) (v i : Nat) : Prop := σ 37 v i = nI (pg c v i) ∧ σ 38 v i = th c v i ∧ σ 39 v i = bk c v i ∧ CXo σ v i (mt c v i) ∧ σ 42 v (i + 1) = dC c v (i + 1) ∧ ∀ m, m < 12 → σ 17 0 (12 * pg c v i + m) = wd c m v i ∧ 0 < σ 8 v 1 * (100 + wd c m v i) ∧ (100 * σ 16 0 (pg c v i) + σ 8 v 1 * (100 + wd c m v i) - 1) / (σ 8 v 1 * (100 + wd c m v i)) = lh c m v i
def CX (σ : Sg) (c : Cf) : Prop := Cok c ∧ σ 0 0 2 = nI (nv c) ∧ (∀ v, v < nv c → CXv σ c v ∧ (∀ i, i < lg c v → CXl σ c v i) ∧ ∀ i, i ≤ lg c v → σ 36 v i = nI (pt c v i) ∧ σ 43 v i = dL c v i) ∧ ∀ l, l < 4 → ∃ o, o < 5 ∧ σ 12 0 l = nI o ∧ CXc σ o (ct c l)
theorem CXk_congr {σ σ' : Sg} {o : Nat} (h : σ' 21 o = σ 21 o ∧ σ' 22 o = σ 22 o ∧ σ' 23 o = σ 23 o) : ∀ {l : List It} {b : Nat}, CXk σ o b l → CXk σ' o b l := by
  intro l
  induction l with
  | nil => intro b _; trivial
  | cons i r ih =>
    intro b hb
    refine ⟨?_, ih hb.2⟩
    rw [h.1, h.2.1, h.2.2]
    exact hb.1
theorem CXq_congr {σ σ' : Sg} {o : Nat} (h : σ' 21 o = σ 21 o ∧ σ' 22 o = σ 22 o ∧ σ' 23 o = σ 23 o) (h2 : σ' 18 o = σ 18 o ∧ σ' 19 o = σ 19 o ∧ σ' 20 o = σ 20 o) : ∀ {x : List Cl} {q e : Nat}, CXq σ o q e x → CXq σ' o q e x := by
  intro x
  induction x with
  | nil => intro q e _; trivial
  | cons i r ih =>
    intro q e hb
    obtain ⟨⟨h3, h4, h5, h6, h7⟩, h9⟩ := hb
    exact ⟨⟨by rw [h2.1]; exact h3, by rw [h2.2.1]; exact h4, by rw [h2.2.2]; exact h5, h6, CXk_congr h h7⟩, ih h9⟩
def CXr : List Nat := [2, 8, 12, 16, 17, 18, 19, 20, 21, 22, 23, 36, 37, 38, 39, 40, 41, 42, 43]
theorem CX_congr {σ σ' : Sg} {c : Cf} (e : ∀ k, k ∈ CXr → σ' k = σ k) (h1 : σ' 0 0 2 = σ 0 0 2) (H : CX σ c) : CX σ' c := by
  obtain ⟨a1, a2, a3, a4⟩ := H
  refine ⟨a1, by rw [h1]; exact a2, fun v hv => ?_, fun l hl => ?_⟩
  · obtain ⟨b1, b2, b3⟩ := a3 v hv
    refine ⟨?_, fun i hi => ?_, fun i hi => ?_⟩
    · unfold CXv
      rw [e 8 (by decide)]
      exact b1
    · have := b2 i hi
      unfold CXl CXo at this ⊢
      rw [e 37 (by decide), e 38 (by decide), e 39 (by decide), e 40 (by decide), e 41 (by decide), e 42 (by decide), e 17 (by decide), e 16 (by decide), e 8 (by decide)]
      exact this
    · rw [e 36 (by decide), e 43 (by decide)]
      exact b3 i hi
  · obtain ⟨o, o1, o2, o3, o4⟩ := a4 l hl
    exact ⟨o, o1, by rw [e 12 (by decide)]; exact o2, by rw [e 2 (by decide)]; exact o3, CXq_congr ⟨by rw [e 21 (by decide)], by rw [e 22 (by decide)], by rw [e 23 (by decide)]⟩ ⟨by rw [e 18 (by decide)], by rw [e 19 (by decide)], by rw [e 20 (by decide)]⟩ o4⟩
/-- the facts row of the class -/
def XF (s : Sg) (x : Nat → Int32) : Prop := ∀ k, k < 5 → s 24 0 k = x k
section HX
variable {x : Nat → Int32} {o q : Nat} {P : Int32 × Sg → Prop} {s : Sg}
theorem e_cmpX {it : It} {k : Nat} (hk : k < 200) (h : s 21 o k = it.1 ∧ s 22 o k = it.2.1 ∧ s 23 o k = it.2.2) : f_X2_compares o (nI k) (x it.2.1.toNatClampNeg) s = some (bI (cmpI it x), s) := by
  unfold f_X2_compares cmpI
  rw [nI_clamp (show k < 2 ^ 31 by omega), h.1, h.2.2]
  have g := gi_nI hk (show 200 < 2 ^ 31 by decide)
  rw [chk, if_pos g]
  by_cases h1 : it.1 = 60
  · rw [if_pos h1, if_pos h1, chk, if_pos g]
    by_cases h2 : it.2.2 ≤ x it.2.1.toNatClampNeg
    · rw [if_pos h2, decide_eq_false (Int32.not_lt.mpr h2)]; rfl
    · rw [if_neg h2, decide_eq_true (Int32.not_le.mp h2)]; rfl
  · rw [if_neg h1, if_neg h1, chk, if_pos g]
    by_cases h2 : it.1 = 62
    · rw [if_pos h2, if_pos h2, chk, if_pos g]
      by_cases h3 : x it.2.1.toNatClampNeg ≤ it.2.2
      · rw [if_pos h3, decide_eq_false (Int32.not_lt.mpr h3)]; rfl
      · rw [if_neg h3, decide_eq_true (Int32.not_le.mp h3)]; rfl
    · rw [if_neg h2, if_neg h2, chk, if_pos g]
      by_cases h3 : x it.2.1.toNatClampNeg = it.2.2
      · rw [if_pos h3, decide_eq_true h3]; rfl
      · rw [if_neg h3, decide_eq_false h3]; rfl
theorem e_holdsXL (hq : q < 12) {en : Nat} (hen : s 20 o q = nI en) (hen2 : en ≤ 200) (hx : XF s x) : ∀ (r : List It) (st : List Bool) (y : Int32) (k n : Nat), dps r st.length = some 1 → st.length ≤ 31 → CXk s o k r → BS y st → k + r.length = en → r.length < n → f_X2_holds_L9 n o (nI q) y (nI k) s = some (bI ((evs x r st).headD false), s) := by
  intro r
  induction r with
  | nil =>
    intro st y k n h1 h2 h3 h4 h5 h6
    obtain ⟨n, rfl⟩ : ∃ m, n = m + 1 := ⟨n - 1, by omega⟩
    simp only [List.length_nil] at h5
    show f_X2_holds_B9 _ _ _ _ _ _ = _
    unfold f_X2_holds_B9
    rw [chk, if_pos (gi_nI hq (by decide)), nI_clamp (show q < 2 ^ 31 by omega), hen, if_pos (nI_le (by omega) (by omega)), BS_top h4]
    show _ = some (bI (st.headD false), s)
    cases st.headD false
    · rw [if_neg (by decide)]; rfl
    · rw [if_pos (by decide)]; rfl
  | cons it r ih =>
    intro st y k n h1 h2 h3 h4 h5 h6
    obtain ⟨n, rfl⟩ : ∃ m, n = m + 1 := ⟨n - 1, by omega⟩
    obtain ⟨d, g1, g2⟩ := Option.bind_eq_some_iff.mp (show (dp1 it st.length).bind (dps r) = some 1 from h1)
    simp only [List.length_cons] at h5 h6
    have hlen : (ev1 x it st).length = d := dp1_len g1
    have next : ∀ y', BS y' (ev1 x it st) → f_X2_holds_L9 n o (nI q) y' (nI k + 1) s = some (bI ((evs x r (ev1 x it st)).headD false), s) := fun y' hy' => by
      rw [nI_1]
      exact ih _ y' (k + 1) n (by rw [hlen]; exact g2) (by rw [hlen]; exact dp1_le g1 h2) h3.2 hy' (by omega) (by omega)
    show f_X2_holds_B9 _ _ _ _ _ _ = some (bI ((evs x r (ev1 x it st)).headD false), s)
    unfold f_X2_holds_B9
    rw [chk, if_pos (gi_nI hq (by decide)), nI_clamp (show q < 2 ^ 31 by omega), hen, if_neg (nI_ge (by omega) (by omega))]
    dsimp only [bdI]
    rw [chk, if_pos (gi_nI (show k < 200 by omega) (by decide)), nI_clamp (show k < 2 ^ 31 by omega), h3.1.1]
    unfold dp1 at g1
    unfold ev1 at next ⊢
    by_cases c1 : it.1 = 33
    · rw [if_pos c1] at g1 next ⊢
      rw [if_pos c1]
      match st, g1, next, h4 with
      | [], g1, _, _ => simp at g1
      | b :: t, g1, next, h4 => exact next _ (BS_not h4)
    · rw [if_neg c1] at g1 next ⊢
      rw [if_neg c1]
      by_cases c2 : it.1 = 38
      · rw [if_pos (Or.inl c2)] at g1
        rw [if_pos c2] at next ⊢
        rw [if_pos c2]
        match st, g1, next, h4, h2 with
        | [], g1, _, _, _ => simp at g1
        | [_], g1, _, _, _ => simp at g1
        | b :: a :: t, g1, next, h4, h2 => exact next _ (BS_and (by simp at h2; omega) h4)
      · rw [if_neg c2] at next ⊢
        rw [if_neg c2]
        by_cases c3 : it.1 = 124
        · rw [if_pos (Or.inr c3)] at g1
          rw [if_pos c3] at next ⊢
          rw [if_pos c3]
          match st, g1, next, h4, h2 with
          | [], g1, _, _, _ => simp at g1
          | [_], g1, _, _, _ => simp at g1
          | b :: a :: t, g1, next, h4, h2 => exact next _ (BS_or (by simp at h2; omega) h4)
        · rw [if_neg (by rintro (z | z) <;> contradiction)] at g1
          rw [if_neg c3] at next ⊢
          rw [if_neg c3]
          by_cases hcond : (it.1 = 60 ∨ it.1 = 61 ∨ it.1 = 62) ∧ it.2.1.toNatClampNeg < 5 ∧ ¬ it.2.1 < 0 ∧ st.length < 31 ∧ -10000 < it.2.2.toInt ∧ it.2.2.toInt < 10000
          rotate_left
          · rw [if_neg hcond] at g1; cases g1
          obtain ⟨-, e2, e3, -⟩ := hcond
          rw [h3.1.2.1, chk, if_pos (gi_nI (show k < 200 by omega) (by decide))]
          have hg : gi it.2.1 5 = true := by
            unfold gi
            simp [e3, e2]
          rw [chk, if_pos hg, hx _ e2, e_cmpX (x := x) (by omega) h3.1]
          show (if bI (cmpI it x) = 0 then _ else _) = _
          have hp := BS_push (b := cmpI it x) h4
          have nx := next _ hp
          cases hb : cmpI it x with
          | false => rw [hb] at nx; rw [if_pos (show bI false = 0 from rfl)]; exact nx
          | true => rw [hb] at nx; rw [if_neg (show ¬ bI true = 0 by decide)]; exact nx
theorem e_begX {e : Nat} (h : (q = 0 ∧ e = 0) ∨ (0 < q ∧ s 20 o (q - 1) = nI e)) (hq : q < 12) : f_X2_beginOf o (nI q) s = some (nI e, s) := by
  unfold f_X2_beginOf
  rcases h with ⟨rfl, rfl⟩ | ⟨h1, h2⟩
  · rw [if_pos (by decide)]; rfl
  · rw [if_neg (by rw [L_0]; exact nI_ge h1 (by omega)), L_1, pk_sub (by omega), chk, if_pos (gi_nI (by omega) (by decide)), nI_clamp (by omega), h2]
theorem e_holdsX {e : Nat} {r : List It} (hb : (q = 0 ∧ e = 0) ∨ (0 < q ∧ s 20 o (q - 1) = nI e)) (hq : q < 12) (hen : s 20 o q = nI (e + r.length)) (hl : e + r.length ≤ 200) (hd : dps r 0 = some 1) (hk : CXk s o e r) (hx : XF s x) : f_X2_holds o (nI q) s = some (bI (hol x r), s) := by
  unfold f_X2_holds
  rw [e_begX hb hq]
  exact e_holdsXL hq hen hl hx r [] 0 e FU hd (by simp) hk BS_0 rfl (by unfold FU; omega)
end HX
