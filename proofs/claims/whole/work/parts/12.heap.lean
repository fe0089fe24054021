/-! fields, arrays, returns, calls -/
section HRULES
variable {ρ : Type} {X : Cx} {g : GT} {own : String} {cc : ByteArray} {nL fr lo : Nat} {Qz : ρ → State → Prop} {σ : Sg} {pc : Nat} {lv : List (Nat × Value)} {st : List Value} {o oa ob : Option ρ}
def FL (own : String) (index k j : Nat) : Prop := ∃ (C : String) (T : u_T), vwCl[k]? = some (C, T, nf k) ∧ j < nf k ∧ (∀ w ∈ u_ws C T (nf k), w ∈ gtb) ∧ Cond.fieldLink own index (T j).1 (T j).2.1 (T j).2.2.1 ∈ gtb
def FP (own : String) (index k j : Nat) (ty : FieldType) : Prop := ∃ (C : String) (T : u_T) (ty0 : Nat → FieldType), vwCl[k]? = some (C, T, nf k) ∧ j < nf k ∧ (∀ w ∈ u_ws C T (nf k), w ∈ gtb) ∧ Cond.fieldLink own index (T j).1 (T j).2.1 (T j).2.2.1 ∈ gtb ∧ (∀ k', k' < nf k → parseFieldDescriptor (T k').2.2.1 = some (ty0 k')) ∧ (∀ a, a < nf k → ∀ b, b < nf k → a ≠ b → (T a).2.1 ≠ (T b).2.1) ∧ (T j).2.2.2 = false ∧ parseFieldDescriptor (T j).2.2.1 = some ty
theorem im_get (hF : Fx X g own cc nL fr lo) {index k j i : Nat} {v : Value} (fl : FL own index k j) (hk : k < 11) (hi : i < cnt k) (hv : fvA g k i j (σ k i j) = v) (d : decode cc pc = .ok (.getfield index, 3)) (kk : Im X g nL Qz σ (pc + 3) lv (v :: st) o) : Im X g nL Qz σ pc lv (.ref (g.2.1 k i) :: st) o := by
  obtain ⟨p, l, e, R, s, m, args, below, meth, c, A, cells, slots⟩ := X
  obtain ⟨⟨hx, hb, hml, hown, hts⟩, hR, hI, hA, hK, hN⟩ := hF
  intro r hr H locs ls hP hS hl
  obtain ⟨C, T, h1, h2, h3, h4⟩ := fl
  obtain ⟨n, hn, -⟩ := ws_at g σ hi
  rw [GE_obj g i _ hk] at hn
  exact va_get (D := g.1) hx hb hts h3 hown hK hP n hn h1 j h2 (hts _ h4) (fun _ h => h) (v := v) (by rw [List.getElem?_map, List.getElem?_range h2]; exact congrArg some hv) d (kk r hr H locs ls hP hS hl)
theorem fl_set {N j : Nat} (F : Nat → Int32 → Value) (r : Nat → Int32) (x : Int32) : ((List.range N).map (fun q => F q (r q))).set j (F j x) = (List.range N).map (fun q => F q (upd r j x q)) := by
  apply List.ext_getElem?
  intro q
  rw [List.getElem?_set, List.getElem?_map, List.getElem?_map]
  by_cases hq : j = q
  · subst hq
    rw [if_pos rfl]
    by_cases hl : j < N
    · rw [if_pos (by simpa using hl), List.getElem?_range hl]
      simp [upd]
    · rw [if_neg (by simpa using hl), List.getElem?_eq_none (by simpa using hl)]
      rfl
  · rw [if_neg hq]
    by_cases hl : q < N
    · rw [List.getElem?_range hl]
      simp [upd, Ne.symm hq]
    · rw [List.getElem?_eq_none (by simpa using hl)]
      rfl
theorem im_put (hF : Fx X g own cc nL fr lo) {index k j i : Nat} {ty : FieldType} {v : Value} (x : Int32) (fp : FP own index k j ty) (hk : k < 11) (hi : i < cnt k) (hv : fvA g k i j x = v) (hn : narrow ty v = v) (hfit : fits ty v = true) (d : decode cc pc = .ok (.putfield index, 3)) (kk : Im X g nL Qz (up3 σ k i j x) (pc + 3) lv st o) : Im X g nL Qz σ pc lv (v :: .ref (g.2.1 k i) :: st) o := by
  obtain ⟨p, l, e, R, s, m, args, below, meth, c, A, cells, slots⟩ := X
  obtain ⟨⟨hx, hb, hml, hown, hts⟩, hR, hI, hA, hK, hN⟩ := hF
  intro r hr H locs ls hP hS hl
  obtain ⟨C, T, ty0, h1, h2, h3, h4, h5, h6, h7, h8⟩ := fp
  obtain ⟨n, hq, hq2⟩ := ws_at g σ hi
  rw [GE_obj g i _ hk] at hq
  refine va_put (D := g.1) hx hb hts h3 ty0 h5 h6 hown hK hP (ws_D hI hA σ) hS n hq h1 j h2 (hts _ h4) (fun _ h => h) h7 h8 hn hfit (by simpa using h2) d (fun H1 locs1 hP1 hD1 hS1 => kk r hr H1 locs1 ls ?_ hS1 hl)
  rw [up3_row, ← ws_set g σ hq2, GE_obj g i _ hk, ← fl_set (fun q => fvA g k i q), hv]
  exact hP1
theorem im_iald (hF : Fx X g own cc nL fr lo) {k i n : Nat} {x : Int32} (ha : 14 ≤ k ∧ aT k = 0 ∧ aL k = n) (hi : i < cnt k) (d : decode cc pc = .ok (.iaload, 1)) (kk : gi x n = true → Im X g nL Qz σ (pc + 1) lv (.int (σ k i x.toNatClampNeg) :: st) o) : Im X g nL Qz σ pc lv (.int x :: .ref (g.2.1 k i) :: st) (chk (gi x n) o) := by
  refine im_chk (fun hg => ?_)
  have kk := kk hg
  obtain ⟨p, l, e, R, s, m, args, below, meth, c, A, cells, slots⟩ := X
  obtain ⟨⟨hx, hb, hml, hown, hts⟩, hR, hI, hA, hK, hN⟩ := hF
  intro r hr H locs ls hP hS hl
  obtain ⟨q, hq, -⟩ := ws_at g σ hi
  rw [GE_arr g i _ ha.1, ha.2.1, ha.2.2] at hq
  exact va_iald (D := g.1) hx hb hK hP q 0 hq rfl (gi_in hg) d (kk r hr H locs ls hP hS hl)
theorem im_bald (hF : Fx X g own cc nL fr lo) {k i n : Nat} {x : Int32} (ha : 14 ≤ k ∧ aT k = 1 ∧ aL k = n) (hi : i < cnt k) (d : decode cc pc = .ok (.baload, 1)) (kk : gi x n = true → Im X g nL Qz σ (pc + 1) lv (.int (σ k i x.toNatClampNeg) :: st) o) : Im X g nL Qz σ pc lv (.int x :: .ref (g.2.1 k i) :: st) (chk (gi x n) o) := by
  refine im_chk (fun hg => ?_)
  have kk := kk hg
  obtain ⟨p, l, e, R, s, m, args, below, meth, c, A, cells, slots⟩ := X
  obtain ⟨⟨hx, hb, hml, hown, hts⟩, hR, hI, hA, hK, hN⟩ := hF
  intro r hr H locs ls hP hS hl
  obtain ⟨q, hq, -⟩ := ws_at g σ hi
  rw [GE_arr g i _ ha.1, ha.2.1, ha.2.2] at hq
  exact va_bald (D := g.1) hx hb hK hP q 1 hq rfl (gi_in hg) d (kk r hr H locs ls hP hS hl)
theorem im_zald (hF : Fx X g own cc nL fr lo) {k i n : Nat} {x : Int32} (ha : 14 ≤ k ∧ aT k = 2 ∧ aL k = n) (hi : i < cnt k) (d : decode cc pc = .ok (.baload, 1)) (kk : gi x n = true → Im X g nL Qz σ (pc + 1) lv (.int (σ k i x.toNatClampNeg) :: st) o) : Im X g nL Qz σ pc lv (.int x :: .ref (g.2.1 k i) :: st) (chk (gi x n) o) := by
  refine im_chk (fun hg => ?_)
  have kk := kk hg
  obtain ⟨p, l, e, R, s, m, args, below, meth, c, A, cells, slots⟩ := X
  obtain ⟨⟨hx, hb, hml, hown, hts⟩, hR, hI, hA, hK, hN⟩ := hF
  intro r hr H locs ls hP hS hl
  obtain ⟨q, hq, -⟩ := ws_at g σ hi
  rw [GE_arr g i _ ha.1, ha.2.1, ha.2.2] at hq
  exact va_zald (D := g.1) hx hb hK hP q 2 hq rfl (gi_in hg) d (kk r hr H locs ls hP hS hl)
theorem im_iast (hF : Fx X g own cc nL fr lo) {k i n : Nat} {x v : Int32} (ha : 14 ≤ k ∧ aT k = 0 ∧ aL k = n) (hi : i < cnt k) (d : decode cc pc = .ok (.iastore, 1)) (kk : gi x n = true → Im X g nL Qz (up3 σ k i x.toNatClampNeg v) (pc + 1) lv st o) : Im X g nL Qz σ pc lv (.int v :: .int x :: .ref (g.2.1 k i) :: st) (chk (gi x n) o) := by
  refine im_chk (fun hg => ?_)
  have kk := kk hg
  obtain ⟨p, l, e, R, s, m, args, below, meth, c, A, cells, slots⟩ := X
  obtain ⟨⟨hx, hb, hml, hown, hts⟩, hR, hI, hA, hK, hN⟩ := hF
  intro r hr H locs ls hP hS hl
  obtain ⟨q, hq, hq2⟩ := ws_at g σ hi
  rw [GE_arr g i _ ha.1, ha.2.1, ha.2.2] at hq
  refine va_iast (D := g.1) hx hb hK hP (ws_D hI hA σ) hS q 0 hq rfl (gi_in hg) d (fun H1 locs1 hP1 hD1 hS1 => kk r hr H1 locs1 ls ?_ hS1 hl)
  rw [up3_row, ← ws_set g σ hq2, GE_arr g i _ ha.1, ha.2.1, ha.2.2]
  exact hP1
theorem im_bast (hF : Fx X g own cc nL fr lo) {k i n : Nat} {x v : Int32} (ha : 14 ≤ k ∧ aT k = 1 ∧ aL k = n) (hi : i < cnt k) (d : decode cc pc = .ok (.bastore, 1)) (kk : gi x n = true → Im X g nL Qz (up3 σ k i x.toNatClampNeg (vp_nar .byte v)) (pc + 1) lv st o) : Im X g nL Qz σ pc lv (.int v :: .int x :: .ref (g.2.1 k i) :: st) (chk (gi x n) o) := by
  refine im_chk (fun hg => ?_)
  have kk := kk hg
  obtain ⟨p, l, e, R, s, m, args, below, meth, c, A, cells, slots⟩ := X
  obtain ⟨⟨hx, hb, hml, hown, hts⟩, hR, hI, hA, hK, hN⟩ := hF
  intro r hr H locs ls hP hS hl
  obtain ⟨q, hq, hq2⟩ := ws_at g σ hi
  rw [GE_arr g i _ ha.1, ha.2.1, ha.2.2] at hq
  refine va_bast (D := g.1) hx hb hK hP (ws_D hI hA σ) hS q 1 hq rfl (gi_in hg) d (fun H1 locs1 hP1 hD1 hS1 => kk r hr H1 locs1 ls ?_ hS1 hl)
  rw [up3_row, ← ws_set g σ hq2, GE_arr g i _ ha.1, ha.2.1, ha.2.2]
  exact hP1
theorem im_zast (hF : Fx X g own cc nL fr lo) {k i n : Nat} {x v : Int32} (ha : 14 ≤ k ∧ aT k = 2 ∧ aL k = n) (hi : i < cnt k) (d : decode cc pc = .ok (.bastore, 1)) (kk : gi x n = true → Im X g nL Qz (up3 σ k i x.toNatClampNeg (vp_nar .boolean v)) (pc + 1) lv st o) : Im X g nL Qz σ pc lv (.int v :: .int x :: .ref (g.2.1 k i) :: st) (chk (gi x n) o) := by
  refine im_chk (fun hg => ?_)
  have kk := kk hg
  obtain ⟨p, l, e, R, s, m, args, below, meth, c, A, cells, slots⟩ := X
  obtain ⟨⟨hx, hb, hml, hown, hts⟩, hR, hI, hA, hK, hN⟩ := hF
  intro r hr H locs ls hP hS hl
  obtain ⟨q, hq, hq2⟩ := ws_at g σ hi
  rw [GE_arr g i _ ha.1, ha.2.1, ha.2.2] at hq
  refine va_zast (D := g.1) hx hb hK hP (ws_D hI hA σ) hS q 2 hq rfl (gi_in hg) d (fun H1 locs1 hP1 hD1 hS1 => kk r hr H1 locs1 ls ?_ hS1 hl)
  rw [up3_row, ← ws_set g σ hq2, GE_arr g i _ ha.1, ha.2.1, ha.2.2]
  exact hP1
theorem im_alen (hF : Fx X g own cc nL fr lo) {k i n t : Nat} {v : Int32} (ha : 14 ≤ k ∧ aT k = t ∧ aL k = n) (ht : t < 3) (hi : i < cnt k) (hv : Int32.ofNat n = v) (d : decode cc pc = .ok (.arraylength, 1)) (kk : Im X g nL Qz σ (pc + 1) lv (.int v :: st) o) : Im X g nL Qz σ pc lv (.ref (g.2.1 k i) :: st) o := by
  obtain ⟨p, l, e, R, s, m, args, below, meth, c, A, cells, slots⟩ := X
  obtain ⟨⟨hx, hb, hml, hown, hts⟩, hR, hI, hA, hK, hN⟩ := hF
  intro r hr H locs ls hP hS hl
  obtain ⟨q, hq, -⟩ := ws_at g σ hi
  rw [GE_arr g i _ ha.1, ha.2.1, ha.2.2] at hq
  rcases (show t = 0 ∨ t = 1 ∨ t = 2 by omega) with rfl | rfl | rfl
  · exact va_alen (D := g.1) hx hb hK hP q 0 hq rfl hv d (kk r hr H locs ls hP hS hl)
  · exact va_alen (D := g.1) hx hb hK hP q 1 hq rfl hv d (kk r hr H locs ls hP hS hl)
  · exact va_alen (D := g.1) hx hb hK hP q 2 hq rfl hv d (kk r hr H locs ls hP hS hl)
theorem im_aald11 (hF : Fx X g own cc nL fr lo) {x : Int32} (d : decode cc pc = .ok (.aaload, 1)) (kk : gi x 10 = true → Im X g nL Qz σ (pc + 1) lv (.ref (g.2.1 8 x.toNatClampNeg) :: st) o) : Im X g nL Qz σ pc lv (.int x :: .ref (g.2.1 11 0) :: st) (chk (gi x 10) o) := by
  refine im_chk (fun hg => ?_)
  have kk := kk hg
  obtain ⟨p, l, e, R, s, m, args, below, meth, c, A, cells, slots⟩ := X
  obtain ⟨⟨hx, hb, hml, hown, hts⟩, hR, hI, hA, hK, hN⟩ := hF
  intro r hr H locs ls hP hS hl
  obtain ⟨q, hq, -⟩ := ws_at g σ (k := 11) (i := 0) (by decide)
  exact va_aldq (D := g.1) (f := fun j => some (g.2.1 8 j)) (n := 10) hx hb hK hP q 3 hq rfl (gi_in hg) d (kk r hr H locs ls hP hS hl)
theorem im_aald13 (hF : Fx X g own cc nL fr lo) {x : Int32} (d : decode cc pc = .ok (.aaload, 1)) (kk : gi x 10 = true → Im X g nL Qz σ (pc + 1) lv (.ref (g.2.1 6 x.toNatClampNeg) :: st) o) : Im X g nL Qz σ pc lv (.int x :: .ref (g.2.1 13 0) :: st) (chk (gi x 10) o) := by
  refine im_chk (fun hg => ?_)
  have kk := kk hg
  obtain ⟨p, l, e, R, s, m, args, below, meth, c, A, cells, slots⟩ := X
  obtain ⟨⟨hx, hb, hml, hown, hts⟩, hR, hI, hA, hK, hN⟩ := hF
  intro r hr H locs ls hP hS hl
  obtain ⟨q, hq, -⟩ := ws_at g σ (k := 13) (i := 0) (by decide)
  exact va_aldq (D := g.1) (f := fun j => some (g.2.1 6 j)) (n := 10) hx hb hK hP q 4 hq rfl (gi_in hg) d (kk r hr H locs ls hP hS hl)
theorem im_aald12 (hF : Fx X g own cc nL fr lo) {x : Int32} (d : decode cc pc = .ok (.aaload, 1)) (kk : gi x 4 = true → Im X g nL Qz σ (pc + 1) lv (.ref (g.2.1 2 (σ 12 0 x.toNatClampNeg).toNatClampNeg) :: st) o) : Im X g nL Qz σ pc lv (.int x :: .ref (g.2.1 12 0) :: st) (chk (gi x 4) o) := by
  refine im_chk (fun hg => ?_)
  have kk := kk hg
  obtain ⟨p, l, e, R, s, m, args, below, meth, c, A, cells, slots⟩ := X
  obtain ⟨⟨hx, hb, hml, hown, hts⟩, hR, hI, hA, hK, hN⟩ := hF
  intro r hr H locs ls hP hS hl
  obtain ⟨q, hq, -⟩ := ws_at g σ (k := 12) (i := 0) (by decide)
  exact va_aldq (D := g.1) (f := fun j => some (g.2.1 2 (σ 12 0 j).toNatClampNeg)) (n := 4) hx hb hK hP q 5 hq rfl (gi_in hg) d (kk r hr H locs ls hP hS hl)
theorem im_aast12 (hF : Fx X g own cc nL fr lo) {x : Int32} {i : Nat} (hi : i < 5) (d : decode cc pc = .ok (.aastore, 1)) (kk : gi x 4 = true → Im X g nL Qz (up3 σ 12 0 x.toNatClampNeg (nI i)) (pc + 1) lv st o) : Im X g nL Qz σ pc lv (.ref (g.2.1 2 i) :: .int x :: .ref (g.2.1 12 0) :: st) (chk (gi x 4) o) := by
  refine im_chk (fun hg => ?_)
  have kk := kk hg
  obtain ⟨p, l, e, R, s, m, args, below, meth, c, A, cells, slots⟩ := X
  obtain ⟨⟨hx, hb, hml, hown, hts⟩, hR, hI, hA, hK, hN⟩ := hF
  intro r hr H locs ls hP hS hl
  obtain ⟨q, hq, hq2⟩ := ws_at g σ (k := 12) (i := 0) (by decide)
  obtain ⟨q', hq', -⟩ := ws_at g σ (k := 2) (i := i) hi
  rw [GE_obj g i _ (by decide)] at hq'
  refine va_astq (D := g.1) (f := fun j => some (g.2.1 2 (σ 12 0 j).toNatClampNeg)) (n := 4) hx hb hK hP (ws_D hI hA σ) hS q 5 q' 2 hq rfl hq' (r := (RX2, TX2, 9)) rfl (gi_in hg) d (fun H1 locs1 hP1 hD1 hS1 => kk r hr H1 locs1 ls ?_ hS1 hl)
  rw [up3_row, ← ws_set g σ hq2]
  have e : GE g 12 0 (upd (σ 12 0) x.toNatClampNeg (nI i)) = .inl (g.2.2 5, 4, .inr (.inr (.inr (.inr (va_up (fun j => some (g.2.1 2 (σ 12 0 j).toNatClampNeg)) x.toNatClampNeg (some (g.2.1 2 i))))))) := by
    show (.inl (g.2.2 5, 4, .inr (.inr (.inr (.inr (fun j => some (g.2.1 2 (upd (σ 12 0) x.toNatClampNeg (nI i) j).toNatClampNeg)))))) : va_E) = _
    congr 7
    funext j
    unfold upd va_up
    by_cases hj : j = x.toNatClampNeg
    · rw [if_pos hj, if_pos hj, nI_clamp (by omega)]
    · rw [if_neg hj, if_neg hj]
  rw [e]
  exact hP1
theorem im_ifnull (hF : Fx X g own cc nL fr lo) {b : Nat} {P : Prop} [Decidable P] {off : Int} (tgt : Nat) (d : decode cc pc = .ok (.ifnull off, 3)) (ht : (pc : Int) + off = (tgt : Int)) (kt : P → Im X g nL Qz σ tgt lv st oa) (kf : ¬ P → Im X g nL Qz σ (pc + 3) lv st ob) : Im X g nL Qz σ pc lv ((if P then .null else .ref b) :: st) (if P then oa else ob) := by
  by_cases h : P
  · rw [if_pos h, if_pos h]
    have kt := kt h
    obtain ⟨p, l, e, R, s, m, args, below, meth, c, A, cells, slots⟩ := X
    obtain ⟨⟨hx, hb, hml, hown, hts⟩, hR, hI, hA, hK, hN⟩ := hF
    intro r hr H locs ls hP hS hl
    exact lv_ifnullN hx hb d ht (kt r hr H locs ls hP hS hl)
  · rw [if_neg h, if_neg h]
    have kf := kf h
    obtain ⟨p, l, e, R, s, m, args, below, meth, c, A, cells, slots⟩ := X
    obtain ⟨⟨hx, hb, hml, hown, hts⟩, hR, hI, hA, hK, hN⟩ := hF
    intro r hr H locs ls hP hS hl
    exact lv_ifnull hx hb d (kf r hr H locs ls hP hS hl)
theorem im_ldc (hF : Fx X g own cc nL fr lo) {index : Nat} {v : Int32} (hc : Cond.constant own index v ∈ gtb) (d : decode cc pc = .ok (.ldc index, 2)) (k : Im X g nL Qz σ (pc + 2) lv (.int v :: st) o) : Im X g nL Qz σ pc lv st o := by
  obtain ⟨p, l, e, R, s, m, args, below, meth, c, A, cells, slots⟩ := X
  obtain ⟨⟨hx, hb, hml, hown, hts⟩, hR, hI, hA, hK, hN⟩ := hF
  intro r hr H locs ls hP hS hl
  exact lv_ldc hx hb hown (hts _ hc) d (k r hr H locs ls hP hS hl)
theorem im_ldcw (hF : Fx X g own cc nL fr lo) {index : Nat} {v : Int32} (hc : Cond.constant own index v ∈ gtb) (d : decode cc pc = .ok (.ldc_w index, 3)) (k : Im X g nL Qz σ (pc + 3) lv (.int v :: st) o) : Im X g nL Qz σ pc lv st o := by
  obtain ⟨p, l, e, R, s, m, args, below, meth, c, A, cells, slots⟩ := X
  obtain ⟨⟨hx, hb, hml, hown, hts⟩, hR, hI, hA, hK, hN⟩ := hF
  intro r hr H locs ls hP hS hl
  exact lv_ldcw hx hb hown (hts _ hc) d (k r hr H locs ls hP hS hl)
theorem im_ldc2 (hF : Fx X g own cc nL fr lo) {index : Nat} {v : Int64} (hc : Cond.constantLong own index v ∈ gtb) (d : decode cc pc = .ok (.ldc2_w index, 3)) (k : Im X g nL Qz σ (pc + 3) lv (.long v :: st) o) : Im X g nL Qz σ pc lv st o := by
  obtain ⟨p, l, e, R, s, m, args, below, meth, c, A, cells, slots⟩ := X
  obtain ⟨⟨hx, hb, hml, hown, hts⟩, hR, hI, hA, hK, hN⟩ := hF
  intro r hr H locs ls hP hS hl
  exact lv_ldc2 hx hb hown (hts _ hc) d (k r hr H locs ls hP hS hl)
theorem im_ldc2d (hF : Fx X g own cc nL fr lo) {index : Nat} {v : UInt64} (hc : Cond.constantDouble own index v ∈ gtb) (d : decode cc pc = .ok (.ldc2_w index, 3)) (k : Im X g nL Qz σ (pc + 3) lv (.double v :: st) o) : Im X g nL Qz σ pc lv st o := by
  obtain ⟨p, l, e, R, s, m, args, below, meth, c, A, cells, slots⟩ := X
  obtain ⟨⟨hx, hb, hml, hown, hts⟩, hR, hI, hA, hK, hN⟩ := hF
  intro r hr H locs ls hP hS hl
  exact lv_ldc2d hx hb hown (hts _ hc) d (k r hr H locs ls hP hS hl)
theorem im_tableIn (hF : Fx X g own cc nL fr lo) {dflt a b : Int} {offs : Array Int} {len : Nat} {x : Int32} {off : Int} (tgt : Nat) (d : decode cc pc = .ok (.tableswitch dflt a b offs, len)) (h1 : ¬ x.toInt < a) (h2 : ¬ b < x.toInt) (ho : offs[(x.toInt - a).toNat]? = some off) (ht : (pc : Int) + off = (tgt : Int)) (k : Im X g nL Qz σ tgt lv st o) : Im X g nL Qz σ pc lv (.int x :: st) o := by
  obtain ⟨p, l, e, R, s, m, args, below, meth, c, A, cells, slots⟩ := X
  obtain ⟨⟨hx, hb, hml, hown, hts⟩, hR, hI, hA, hK, hN⟩ := hF
  intro r hr H locs ls hP hS hl
  exact lv_tableIn hx hb d h1 h2 ho ht (k r hr H locs ls hP hS hl)
theorem im_tableOut (hF : Fx X g own cc nL fr lo) {dflt a b : Int} {offs : Array Int} {len : Nat} {x : Int32} (tgt : Nat) (d : decode cc pc = .ok (.tableswitch dflt a b offs, len)) (h : x.toInt < a ∨ b < x.toInt) (ht : (pc : Int) + dflt = (tgt : Int)) (k : Im X g nL Qz σ tgt lv st o) : Im X g nL Qz σ pc lv (.int x :: st) o := by
  obtain ⟨p, l, e, R, s, m, args, below, meth, c, A, cells, slots⟩ := X
  obtain ⟨⟨hx, hb, hml, hown, hts⟩, hR, hI, hA, hK, hN⟩ := hF
  intro r hr H locs ls hP hS hl
  exact lv_tableOut hx hb d h ht (k r hr H locs ls hP hS hl)
theorem im_lookup (hF : Fx X g own cc nL fr lo) {dflt : Int} {ps : Array (Int × Int)} {len : Nat} {x : Int32} {off : Int} (tgt : Nat) (d : decode cc pc = .ok (.lookupswitch dflt ps, len)) (hp : (ps.toList.zip (ps.toList.drop 1)).all (fun (a, next) => a.1 < next.1) = true) (ho : Op.lookupswitch.offset ps.toList dflt x.toInt = off) (ht : (pc : Int) + off = (tgt : Int)) (k : Im X g nL Qz σ tgt lv st o) : Im X g nL Qz σ pc lv (.int x :: st) o := by
  obtain ⟨p, l, e, R, s, m, args, below, meth, c, A, cells, slots⟩ := X
  obtain ⟨⟨hx, hb, hml, hown, hts⟩, hR, hI, hA, hK, hN⟩ := hF
  intro r hr H locs ls hP hS hl
  exact lv_lookup hx hb d hp ho ht (k r hr H locs ls hP hS hl)
/-! returns -/
def Qm (X : Cx) (g : GT) (emb : ρ → Option Value × Sg) : ρ → State → Prop := match X with
  | (_, _, _, _, s, _, args, below, _, _, _, _, _) => fun r => MQ below (fun _ st oc t => oc = .returned (emb r).1 ∧ va_P g.1 vwCl (ws g (emb r).2) t.heap ∧ va_F (GA g) st t) args s 0 0 (GA g)
def FM (X : Cx) (g : GT) (ret : Option FieldType) : Prop := match X with
  | (_, _, _, _, _, _, _, _, meth, _, A, cells, slots) => meth.sig.returnType = ret ∧ meth.locks = false ∧ A = GA g ∧ cells = 0 ∧ slots = 0
def embI (q : Int32 × Sg) : Option Value × Sg := (some (.int q.1), q.2)
def embL (q : Int64 × Sg) : Option Value × Sg := (some (.long q.1), q.2)
def embV (q : Sg) : Option Value × Sg := (none, q)
theorem im_iret (hF : Fx X g own cc nL fr lo) (hM : FM X g (some .int)) {v : Int32} (d : decode cc pc = .ok (.ireturn, 1)) : Im X g nL (Qm X g embI) σ pc lv [.int v] (some (v, σ)) := by
  obtain ⟨p, l, e, R, s, m, args, below, meth, c, A, cells, slots⟩ := X
  obtain ⟨⟨hx, hb, hml, hown, hts⟩, hR, hI, hA, hK, hN⟩ := hF
  obtain ⟨hret, hlocks, rfl, rfl, rfl⟩ := hM
  intro r hr H locs ls hP hS hl
  cases hr
  show W p l e R s m args below meth c H locs 0 0 (MQ below (fun _ st oc t => oc = .returned (embI (v, σ)).1 ∧ va_P g.1 vwCl (ws g (embI (v, σ)).2) t.heap ∧ va_F (GA g) st t) args s 0 0 (GA g)) (F0 m pc ls [.int v])
  exact W.iret hx hb hret (fun t ht hW => ⟨rfl, by rw [ht]; exact hP, hS.F ht⟩) hS.2.2 d hlocks
theorem im_zret (hF : Fx X g own cc nL fr lo) (hM : FM X g (some .boolean)) {v : Int32} (hv : v = 0 ∨ v = 1) (d : decode cc pc = .ok (.ireturn, 1)) : Im X g nL (Qm X g embI) σ pc lv [.int v] (some (v, σ)) := by
  obtain ⟨p, l, e, R, s, m, args, below, meth, c, A, cells, slots⟩ := X
  obtain ⟨⟨hx, hb, hml, hown, hts⟩, hR, hI, hA, hK, hN⟩ := hF
  obtain ⟨hret, hlocks, rfl, rfl, rfl⟩ := hM
  intro r hr H locs ls hP hS hl
  cases hr
  show W p l e R s m args below meth c H locs 0 0 (MQ below (fun _ st oc t => oc = .returned (embI (v, σ)).1 ∧ va_P g.1 vwCl (ws g (embI (v, σ)).2) t.heap ∧ va_F (GA g) st t) args s 0 0 (GA g)) (F0 m pc ls [.int v])
  exact W.zret hx hb hret (by rcases hv with rfl | rfl <;> rfl) (fun t ht hW => ⟨rfl, by rw [ht]; exact hP, hS.F ht⟩) hS.2.2 d hlocks
theorem im_lret (hF : Fx X g own cc nL fr lo) (hM : FM X g (some .long)) {v : Int64} (d : decode cc pc = .ok (.lreturn, 1)) : Im X g nL (Qm X g embL) σ pc lv [.long v] (some (v, σ)) := by
  obtain ⟨p, l, e, R, s, m, args, below, meth, c, A, cells, slots⟩ := X
  obtain ⟨⟨hx, hb, hml, hown, hts⟩, hR, hI, hA, hK, hN⟩ := hF
  obtain ⟨hret, hlocks, rfl, rfl, rfl⟩ := hM
  intro r hr H locs ls hP hS hl
  cases hr
  show W p l e R s m args below meth c H locs 0 0 (MQ below (fun _ st oc t => oc = .returned (embL (v, σ)).1 ∧ va_P g.1 vwCl (ws g (embL (v, σ)).2) t.heap ∧ va_F (GA g) st t) args s 0 0 (GA g)) (F0 m pc ls [.long v])
  exact W.lret hx hb hret (fun t ht hW => ⟨rfl, by rw [ht]; exact hP, hS.F ht⟩) hS.2.2 d hlocks
theorem im_vret (hF : Fx X g own cc nL fr lo) (hM : FM X g none) (d : decode cc pc = .ok (.return_, 1)) : Im X g nL (Qm X g embV) σ pc lv [] (some σ) := by
  obtain ⟨p, l, e, R, s, m, args, below, meth, c, A, cells, slots⟩ := X
  obtain ⟨⟨hx, hb, hml, hown, hts⟩, hR, hI, hA, hK, hN⟩ := hF
  obtain ⟨hret, hlocks, rfl, rfl, rfl⟩ := hM
  intro r hr H locs ls hP hS hl
  cases hr
  show W p l e R s m args below meth c H locs 0 0 (MQ below (fun _ st oc t => oc = .returned (embV σ).1 ∧ va_P g.1 vwCl (ws g (embV σ).2) t.heap ∧ va_F (GA g) st t) args s 0 0 (GA g)) (F0 m pc ls [])
  exact W.vret hx hb hret (fun t ht hW => ⟨rfl, by rw [ht]; exact hP, hS.F ht⟩) hS.2.2 d hlocks
/-! contracts and calls -/
def Ct (l : Launch) (y : MethodName) (cc : ByteArray) (maxL : Nat) (ret : Option FieldType) (fr lo : Nat) (g : GT) (av : List Value) (σ : Sg) (q : Option Value × Sg) : Prop :=
  Met l y (.code y cc maxL ret :: gtb) { frames := fr, cells := 0, slots := 0, locals := lo } (va_Pc av (GW g σ)) (fun _ st oc t => oc = .returned q.1 ∧ va_P g.1 vwCl (ws g q.2) t.heap ∧ va_F (GA g) st t) 0 0 (GA g)
theorem ct_of {emb : ρ → Option Value × Sg} {l : Launch} {y : MethodName} {maxL : Nat} {ret : Option FieldType} {av : List Value} (hy : plainName y.cls = true) (hI : GI g) (hlen : (lg_sl av).length ≤ maxL) (body : ∀ X : Cx, Fx X g y.cls cc maxL fr lo → FM X g ret → Im X g maxL (Qm X g emb) σ 0 (lv_args 0 av) [] o) (r : ρ) (ho : o = some r) : Ct l y cc maxL ret fr lo g av σ (emb r) := by
  refine Met.ofW (cc := cc) (maxL := maxL) (ret := ret) hy rfl ?_
  intro p e s m args below meth c s₁ B hml hv
  obtain ⟨rfl, hP, hK, hN⟩ := hv
  have hts := atoms_spec (ws := Cond.code y cc maxL ret :: gtb) B.pre
  have hown : s.vm.findClass y.cls = some m.cls := findClass_of_methodNamed B.named
  have hl := lv_entry av (n := maxL) hlen
  rw [lg_entry_eq]
  exact body (p, l, e, (headSpec (Cond.code y cc maxL ret :: gtb) { frames := fr, cells := 0, slots := 0, locals := lo }).room, s, m, av.toArray, below, meth, c, GA g, 0, 0) ⟨⟨B.exec, B.bytes, hml, hown, fun w hw => hts w (List.mem_cons_of_mem _ hw)⟩, ⟨Nat.le_refl _, Nat.le_refl _, Nat.le_refl _, Nat.le_refl _⟩, hI, fun _ h => h, hK, hN⟩ ⟨B.returns, B.notSynchronized, rfl, rfl, rfl⟩ r ho s.heap [] _ hP va_S.rf hl
def MY (y : MethodName) (cc : ByteArray) (maxL : Nat) (ret : Option FieldType) (n : Nat) : Prop := Cond.initialized y.cls ∈ gtb ∧ Cond.code y cc maxL ret ∈ gtb ∧ y.cls ≠ "java/lang/invoke/MethodHandle" ∧ y.cls ≠ "java/lang/invoke/VarHandle" ∧ (parseMethodDescriptor y.desc).map (fun d => d.parameters.length) = some n
def MV (y : MethodName) : Prop := Cond.instanceMethod y ∈ gtb ∧ Cond.selects y.cls y y ∈ gtb
theorem gw_blind {av : List Value} : FrameBlind (va_Pc av (GW g σ)) := fun a U gg mk q => ⟨q.1, q.2.1, va_K.moved (u := U) (U := U.calling gg mk a) (Vm.Alike.refl U.vm) q.2.2.1, NW.same (s := U) (U := U.calling gg mk a) rfl q.2.2.2⟩
theorem gd_code {y : MethodName} {cc' : ByteArray} {maxL : Nat} {ret : Option FieldType} (h : Cond.code y cc' maxL ret ∈ gtb) : GoodIn gtb (Cond.code y cc' maxL ret :: gtb) := fun w hw => (List.mem_cons.mp hw).elim (fun e => by rw [e]; exact tbl_good _ h) (fun q => tbl_good w q)
theorem im_callV {ρ' : Type} {emb' : ρ' → Option Value × Sg} {f : Option ρ'} {ko : ρ' → Option ρ} (hF : Fx X g own cc nL fr lo) {y : MethodName} {cc' : ByteArray} {maxL' : Nat} {ret' : Option FieldType} {n fr' lo' index k i : Nat} {As rest : List Value} (my : MY y cc' maxL' ret' n) (mv : MV y) (ml : Cond.methodLink own index y ∈ gtb)
    (hC : ∀ (l : Launch) (r' : ρ'), f = some r' → Ct l y cc' maxL' ret' fr' lo' g (.ref (g.2.1 k i) :: As) σ (emb' r')) (hR : fr' + 1 ≤ fr ∧ 8 + (maxL' + 11) + lo' ≤ lo) (hk : k < 11) (hi : i < cnt k) (hcl : ∃ q : vw_C, vwCl[k]? = some q ∧ q.1 = y.cls) (hn : As.length = n) (hst : st = As.reverse ++ .ref (g.2.1 k i) :: rest) (hw : (rest.map fun v => v.category).sum ≤ 8) (d : decode cc pc = .ok (.invokevirtual index, 3))
    (kk : ∀ r' : ρ', Im X g nL Qz (emb' r').2 (pc + 3) lv ((emb' r').1.toList ++ rest) (ko r')) : Im X g nL Qz σ pc lv st (f.bind ko) := by
  obtain ⟨p, l, e, R, s, m, args, below, meth, c, A, cells, slots⟩ := X
  obtain ⟨⟨hx, hb, hml, hown, hts⟩, hRm, hI, hA, hK, hN⟩ := hF
  intro r hr H locs ls hP hS hl
  obtain ⟨r', hf, hk2⟩ := Option.bind_eq_some_iff.mp hr
  obtain ⟨z, hz1, hz2⟩ := hcl
  obtain ⟨q, hq, -⟩ := ws_at g σ hi
  rw [GE_obj g i _ hk] at hq
  have hrecv := va_recv (D := g.1) hK hP hz1 hq
  rw [hz2] at hrecv
  have cb : CallB R s args own index y cc' maxL' ret' (Cond.code y cc' maxL' ret' :: gtb) { frames := fr', cells := 0, slots := 0, locals := lo' } 0 0 n := callB_of n hts (gd_code my.2.1) rfl rfl rfl (hts _ my.1) (hts _ ml) my.2.2 ⟨Nat.le_trans hR.1 hRm.1, Nat.le_trans hR.2 hRm.2.1⟩
  have run := va_runV (locs := locs) (As := As) (rest := rest) (g := F0 m pc ls st) (p := p) (e := e) (below := below) (meth := meth) (cells := cells) (slots := slots) ⟨hx, hb, hml, hown, hts⟩ (hC l r' hf) (C := y.cls) ⟨cb, hts _ mv.1, hts _ mv.2⟩ ⟨gw_blind, hrecv, fun U hU hW => ⟨rfl, by rw [hU]; exact hP, va_K.moved hW.alike hK, hN.warm hW⟩⟩ rfl hn hl.1 hst (lv_room hw) d ⟨hRm.2.2.1, hRm.2.2.2⟩
  intro T hT XX
  obtain ⟨v, st₀, t, T', L, h0, X', hL, e1, e2, ⟨hv, hW, hz, hkp⟩, stp⟩ := run T hT XX
  cases hv
  rw [h0] at hz hkp
  obtain ⟨t2, a1, b1⟩ := kk r' r hk2 T'.heap (locs ++ L) ls (by rw [e1]; exact hW)
    ⟨Nat.le_trans hS.1 (by rw [e1]; exact hz), fun q h1 h2 => by rw [e1, hkp q (Nat.lt_of_lt_of_le h1 hS.1) (fun z => h2 (hA q z))]; exact hS.2.1 q h1 h2, fun q hq => by
      rcases List.mem_append.mp hq with h | h
      · exact hS.2.2 q h
      · exact hA _ (hL q h)⟩ hl T' rfl X'
  exact ⟨t2, stp t2 a1, b1⟩
theorem im_callS {ρ' : Type} {emb' : ρ' → Option Value × Sg} {f : Option ρ'} {ko : ρ' → Option ρ} (hF : Fx X g own cc nL fr lo) {y : MethodName} {cc' : ByteArray} {maxL' : Nat} {ret' : Option FieldType} {n fr' lo' index : Nat} {As rest : List Value} (my : MY y cc' maxL' ret' n) (ms : Cond.static y ∈ gtb) (ml : Cond.methodLink own index y ∈ gtb)
    (hC : ∀ (l : Launch) (r' : ρ'), f = some r' → Ct l y cc' maxL' ret' fr' lo' g As σ (emb' r')) (hR : fr' + 1 ≤ fr ∧ 8 + (maxL' + 11) + lo' ≤ lo) (hn : As.length = n) (hst : st = As.reverse ++ rest) (hw : (rest.map fun v => v.category).sum ≤ 8) (d : decode cc pc = .ok (.invokestatic index, 3))
    (kk : ∀ r' : ρ', Im X g nL Qz (emb' r').2 (pc + 3) lv ((emb' r').1.toList ++ rest) (ko r')) : Im X g nL Qz σ pc lv st (f.bind ko) := by
  obtain ⟨p, l, e, R, s, m, args, below, meth, c, A, cells, slots⟩ := X
  obtain ⟨⟨hx, hb, hml, hown, hts⟩, hRm, hI, hA, hK, hN⟩ := hF
  intro r hr H locs ls hP hS hl
  obtain ⟨r', hf, hk2⟩ := Option.bind_eq_some_iff.mp hr
  have cb : CallB R s args own index y cc' maxL' ret' (Cond.code y cc' maxL' ret' :: gtb) { frames := fr', cells := 0, slots := 0, locals := lo' } 0 0 n := callB_of n hts (gd_code my.2.1) rfl rfl rfl (hts _ my.1) (hts _ ml) my.2.2 ⟨Nat.le_trans hR.1 hRm.1, Nat.le_trans hR.2 hRm.2.1⟩
  have run := va_runS (locs := locs) (As := As) (rest := rest) (g := F0 m pc ls st) (p := p) (e := e) (below := below) (meth := meth) (cells := cells) (slots := slots) ⟨hx, hb, hml, hown, hts⟩ (hC l r' hf) ⟨cb, hts _ ms⟩ ⟨gw_blind, fun U hU hW => ⟨rfl, by rw [hU]; exact hP, va_K.moved hW.alike hK, hN.warm hW⟩⟩ rfl hn hl.1 hst (lv_room hw) d ⟨hRm.2.2.1, hRm.2.2.2⟩
  intro T hT XX
  obtain ⟨v, st₀, t, T', L, h0, X', hL, e1, e2, ⟨hv, hW, hz, hkp⟩, stp⟩ := run T hT XX
  cases hv
  rw [h0] at hz hkp
  obtain ⟨t2, a1, b1⟩ := kk r' r hk2 T'.heap (locs ++ L) ls (by rw [e1]; exact hW)
    ⟨Nat.le_trans hS.1 (by rw [e1]; exact hz), fun q h1 h2 => by rw [e1, hkp q (Nat.lt_of_lt_of_le h1 hS.1) (fun z => h2 (hA q z))]; exact hS.2.1 q h1 h2, fun q hq => by
      rcases List.mem_append.mp hq with h | h
      · exact hS.2.2 q h
      · exact hA _ (hL q h)⟩ hl T' rfl X'
  exact ⟨t2, stp t2 a1, b1⟩
theorem im_callN {ρ' : Type} {emb' : ρ' → Option Value × Sg} {f : Option ρ'} {ko : ρ' → Option ρ} (hF : Fx X g own cc nL fr lo) {y : MethodName} {cc' : ByteArray} {maxL' : Nat} {ret' : Option FieldType} {n fr' lo' index : Nat} {host : String} {As rest : List Value} (my : MY y cc' maxL' ret' n) (ms : Cond.static y ∈ gtb) (ml : (own, index, y, host) ∈ nests)
    (hC : ∀ (l : Launch) (r' : ρ'), f = some r' → Ct l y cc' maxL' ret' fr' lo' g As σ (emb' r')) (hR : fr' + 1 ≤ fr ∧ 8 + (maxL' + 11) + lo' ≤ lo) (hn : As.length = n) (hst : st = As.reverse ++ rest) (hw : (rest.map fun v => v.category).sum ≤ 8) (d : decode cc pc = .ok (.invokestatic index, 3))
    (kk : ∀ r' : ρ', Im X g nL Qz (emb' r').2 (pc + 3) lv ((emb' r').1.toList ++ rest) (ko r')) : Im X g nL Qz σ pc lv st (f.bind ko) := by
  obtain ⟨p, l, e, R, s, m, args, below, meth, c, A, cells, slots⟩ := X
  obtain ⟨⟨hx, hb, hml, hown, hts⟩, hRm, hI, hA, hK, hN⟩ := hF
  intro r hr H locs ls hP hS hl
  obtain ⟨r', hf, hk2⟩ := Option.bind_eq_some_iff.mp hr
  have cb : va_CN R s args own index y host cc' maxL' ret' (Cond.code y cc' maxL' ret' :: gtb) { frames := fr', cells := 0, slots := 0, locals := lo' } 0 0 n := va_cnB n hts (gd_code my.2.1) rfl rfl rfl (hN _ ml) (hts _ my.1) my.2.2 ⟨Nat.le_trans hR.1 hRm.1, Nat.le_trans hR.2 hRm.2.1⟩
  have run := va_runSN (locs := locs) (As := As) (rest := rest) (g := F0 m pc ls st) (p := p) (e := e) (below := below) (meth := meth) (cells := cells) (slots := slots) ⟨hx, hb, hml, hown, hts⟩ (hC l r' hf) ⟨cb, hts _ ms, trivial⟩ ⟨gw_blind, fun U hU hW => ⟨rfl, by rw [hU]; exact hP, va_K.moved hW.alike hK, hN.warm hW⟩⟩ rfl hn hl.1 hst (lv_room hw) d ⟨hRm.2.2.1, hRm.2.2.2⟩
  intro T hT XX
  obtain ⟨v, st₀, t, T', L, h0, X', hL, e1, e2, ⟨hv, hW, hz, hkp⟩, stp⟩ := run T hT XX
  cases hv
  rw [h0] at hz hkp
  obtain ⟨t2, a1, b1⟩ := kk r' r hk2 T'.heap (locs ++ L) ls (by rw [e1]; exact hW)
    ⟨Nat.le_trans hS.1 (by rw [e1]; exact hz), fun q h1 h2 => by rw [e1, hkp q (Nat.lt_of_lt_of_le h1 hS.1) (fun z => h2 (hA q z))]; exact hS.2.1 q h1 h2, fun q hq => by
      rcases List.mem_append.mp hq with h | h
      · exact hS.2.2 q h
      · exact hA _ (hL q h)⟩ hl T' rfl X'
  exact ⟨t2, stp t2 a1, b1⟩
theorem im_mmin (hF : Fx X g own cc nL fr lo) {index : Nat} {x y : Int32} (hl1 : Cond.methodLink own index Lib.Math.min.name ∈ gtb) (hfr : 1 ≤ fr) (hlo : 21 ≤ lo) (hw : (st.map fun v => v.category).sum ≤ 8) (h2 : Cond.static Lib.Math.min.name ∈ gtb ∧ Cond.initialized "java/lang/Math" ∈ gtb ∧ Cond.code Lib.Math.min.name Lib.Math.min.code 2 (some .int) ∈ gtb) (d : decode cc pc = .ok (.invokestatic index, 3)) (k : Im X g nL Qz σ (pc + 3) lv (.int (if y < x then y else x) :: st) o) : Im X g nL Qz σ pc lv (.int y :: .int x :: st) o := by
  obtain ⟨p, l, e, R, s, m, args, below, meth, c, A, cells, slots⟩ := X
  obtain ⟨⟨hx, hb, hml, hown, hts⟩, hR, hI, hA, hK, hN⟩ := hF
  intro r hr H locs ls hP hS hl
  exact va_mmin hx hb (hml.trans hl.1.symm) hown (hts _ hl1) (hts _ h2.1) (hts _ h2.2.1) (hts _ h2.2.2) (by omega) (by omega) hR.2.2.1 hR.2.2.2 d (k r hr H locs ls hP hS hl)
theorem im_mmax (hF : Fx X g own cc nL fr lo) {index : Nat} {x y : Int32} (hl1 : Cond.methodLink own index Lib.Math.max.name ∈ gtb) (hfr : 1 ≤ fr) (hlo : 21 ≤ lo) (hw : (st.map fun v => v.category).sum ≤ 8) (h2 : Cond.static Lib.Math.max.name ∈ gtb ∧ Cond.initialized "java/lang/Math" ∈ gtb ∧ Cond.code Lib.Math.max.name Lib.Math.max.code 2 (some .int) ∈ gtb) (d : decode cc pc = .ok (.invokestatic index, 3)) (k : Im X g nL Qz σ (pc + 3) lv (.int (if x < y then y else x) :: st) o) : Im X g nL Qz σ pc lv (.int y :: .int x :: st) o := by
  obtain ⟨p, l, e, R, s, m, args, below, meth, c, A, cells, slots⟩ := X
  obtain ⟨⟨hx, hb, hml, hown, hts⟩, hR, hI, hA, hK, hN⟩ := hF
  intro r hr H locs ls hP hS hl
  exact va_mmax hx hb (hml.trans hl.1.symm) hown (hts _ hl1) (hts _ h2.1) (hts _ h2.2.1) (hts _ h2.2.2) (by omega) (by omega) hR.2.2.1 hR.2.2.2 d (k r hr H locs ls hP hS hl)
end HRULES
