/-! the start: from the law's entry to the world behind the constructors -/
theorem in_lw (n : Nat) {w : Cond} (h : tables_1[n]? = some w) : w ∈ lw_tbl := List.mem_append_right _ (List.mem_of_getElem? h)
def tyL : List FieldType := [.int, .byte, .boolean, .object "OceanMail$Voyage", .object "OceanMail$Sailing", .object "OceanMail$Contract"]
theorem aoS {s : State} {args : Array Value} (hts : ∀ w ∈ lw_tbl, w.before args s = true) : AOs s := ⟨va_AO.of (hts _ (in_lw 57 (w := Cond.arrayOver (.object "OceanMail$Voyage")) (by decide +kernel))), va_AO.of (hts _ (in_lw 258 (w := Cond.arrayOver (.object "OceanMail$Sailing")) (by decide +kernel))), va_AO.of (hts _ (in_lw 133 (w := Cond.arrayOver (.object "OceanMail$Contract")) (by decide +kernel)))⟩
theorem nwS {s : State} {args : Array Value} (hts : ∀ w ∈ lw_tbl, w.before args s = true) : NW s := by
  intro q hq
  simp only [nests, List.mem_cons, List.not_mem_nil, or_false] at hq
  rcases hq with rfl | rfl | rfl | rfl | rfl
  · exact va_Nw.of rfl (hts _ (in_lw 431 (by decide +kernel)))
  · exact va_Nw.of rfl (hts _ (in_lw 512 (by decide +kernel)))
  · exact va_Nw.of rfl (hts _ (in_lw 583 (by decide +kernel)))
  · exact va_Nw.of rfl (hts _ (in_lw 586 (by decide +kernel)))
  · exact va_Nw.of rfl (hts _ (in_lw 646 (by decide +kernel)))
theorem clS {s : State} {args : Array Value} (hts : ∀ w ∈ gtb, w.before args s = true) : ∃ D : va_G, ∀ (c : Nat) (q : vw_C), vwCl[c]? = some q → u_Kn s q.1 q.2.1 q.2.2 (D.1 c) (D.2 c) := by
  have h : ∀ c : Nat, ∃ x : ClassId × (Nat → Nat), ∀ q : vw_C, vwCl[c]? = some q → u_Kn s q.1 q.2.1 q.2.2 x.1 x.2 := by
    intro c
    match c with
    | 0 =>
      obtain ⟨cC, iS, h⟩ := u_known hts inG0 (hts _ wc_24)
      exact ⟨(cC, iS), fun q hq => by cases hq; exact h⟩
    | 1 =>
      obtain ⟨cC, iS, h⟩ := u_known hts inG1 (hts _ wc_30)
      exact ⟨(cC, iS), fun q hq => by cases hq; exact h⟩
    | 2 =>
      obtain ⟨cC, iS, h⟩ := u_known hts inG2 (hts _ wc_134)
      exact ⟨(cC, iS), fun q hq => by cases hq; exact h⟩
    | 3 =>
      obtain ⟨cC, iS, h⟩ := u_known hts inG3 (hts _ wc_252)
      exact ⟨(cC, iS), fun q hq => by cases hq; exact h⟩
    | 4 =>
      obtain ⟨cC, iS, h⟩ := u_known hts inG4 (hts _ wc_319)
      exact ⟨(cC, iS), fun q hq => by cases hq; exact h⟩
    | 5 =>
      obtain ⟨cC, iS, h⟩ := u_known hts inG5 (hts _ wc_216)
      exact ⟨(cC, iS), fun q hq => by cases hq; exact h⟩
    | 6 =>
      obtain ⟨cC, iS, h⟩ := u_known hts inG6 (hts _ wc_259)
      exact ⟨(cC, iS), fun q hq => by cases hq; exact h⟩
    | 7 =>
      obtain ⟨cC, iS, h⟩ := u_known hts inG7 (hts _ wc_201)
      exact ⟨(cC, iS), fun q hq => by cases hq; exact h⟩
    | 8 =>
      obtain ⟨cC, iS, h⟩ := u_known hts inG8 (hts _ wc_58)
      exact ⟨(cC, iS), fun q hq => by cases hq; exact h⟩
    | 9 =>
      obtain ⟨cC, iS, h⟩ := u_known hts inG9 (hts _ wc_16)
      exact ⟨(cC, iS), fun q hq => by cases hq; exact h⟩
    | 10 =>
      obtain ⟨cC, iS, h⟩ := u_known hts inG10 (hts _ wc_750)
      exact ⟨(cC, iS), fun q hq => by cases hq; exact h⟩
    | n + 11 => exact ⟨((0 : Nat), fun _ => 0), fun q hq => by cases hq⟩
  exact ⟨(fun c => (Classical.choose (h c)).1, fun c => (Classical.choose (h c)).2), fun c q hq => Classical.choose_spec (h c) q hq⟩
theorem arS {s : State} {args : Array Value} (hts : ∀ w ∈ gtb, w.before args s = true) (hO : AOs s) : ∃ cA : Nat → ClassId, ∀ (t : Nat) (ty : FieldType), tyL[t]? = some ty → ArrOfT s (cA t) ty ∧ va_RA s (cA t) ty := by
  have h : ∀ t : Nat, ∃ x : ClassId, ∀ ty : FieldType, tyL[t]? = some ty → ArrOfT s x ty ∧ va_RA s x ty := by
    intro t
    match t with
    | 0 =>
      obtain ⟨cA, kA, comp, h1, h2, h3⟩ := Cond.arrayClass_spec (hts _ wc_55)
      exact ⟨cA, fun ty hq => by cases hq; exact ⟨fun n z => ⟨fun k h => (by cases h), kA, h2, comp, h3⟩, h1⟩⟩
    | 1 =>
      obtain ⟨cA, kA, comp, h1, h2, h3⟩ := Cond.arrayClass_spec (hts _ wc_933)
      exact ⟨cA, fun ty hq => by cases hq; exact ⟨fun n z => ⟨fun k h => (by cases h), kA, h2, comp, h3⟩, h1⟩⟩
    | 2 =>
      obtain ⟨cA, kA, comp, h1, h2, h3⟩ := Cond.arrayClass_spec (hts _ wc_934)
      exact ⟨cA, fun ty hq => by cases hq; exact ⟨fun n z => ⟨fun k h => (by cases h), kA, h2, comp, h3⟩, h1⟩⟩
    | 3 =>
      obtain ⟨comp, cA, kA, h1, -, h3, h4, h5⟩ := Cond.arrayOver_spec hO.1
      exact ⟨cA, fun ty hq => by cases hq; exact ⟨fun n z => ⟨fun k h => (by cases h), kA, h3, comp, h4⟩, kA, comp, h3, h4, h1, h5⟩⟩
    | 4 =>
      obtain ⟨comp, cA, kA, h1, -, h3, h4, h5⟩ := Cond.arrayOver_spec hO.2.1
      exact ⟨cA, fun ty hq => by cases hq; exact ⟨fun n z => ⟨fun k h => (by cases h), kA, h3, comp, h4⟩, kA, comp, h3, h4, h1, h5⟩⟩
    | 5 =>
      obtain ⟨comp, cA, kA, h1, -, h3, h4, h5⟩ := Cond.arrayOver_spec hO.2.2
      exact ⟨cA, fun ty hq => by cases hq; exact ⟨fun n z => ⟨fun k h => (by cases h), kA, h3, comp, h4⟩, kA, comp, h3, h4, h1, h5⟩⟩
    | n + 6 => exact ⟨(0 : Nat), fun ty hq => by cases hq⟩
  exact ⟨fun t => Classical.choose (h t), fun t ty hq => Classical.choose_spec (h t) ty hq⟩
theorem tyS {s : State} {D : va_G} {cA : Nat → ClassId} {b : Nat} (hD : ∀ (c : Nat) (q : vw_C), vwCl[c]? = some q → u_Kn s q.1 q.2.1 q.2.2 (D.1 c) (D.2 c)) (hA : ∀ (t : Nat) (ty : FieldType), tyL[t]? = some ty → ArrOfT s (cA t) ty ∧ va_RA s (cA t) ty) : va_K D vwCl (tys (g0 D cA b)) s := by
  refine ⟨hD, fun k q hq => ?_⟩
  match k with
  | 0 => cases hq; exact hA 0 _ rfl
  | 1 => cases hq; exact hA 1 _ rfl
  | 2 => cases hq; exact hA 2 _ rfl
  | 3 => cases hq; exact hA 3 _ rfl
  | 4 => cases hq; exact hA 4 _ rfl
  | 5 => cases hq; exact hA 5 _ rfl
  | n + 6 => cases hq
