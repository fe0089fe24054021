/-! letters, class: reckonLatest() -/
theorem oI_le {o : Option Nat} {c : Nat} (ho : bdO o) (hc : c ≤ 1000000) : oI o ≤ nI c ↔ ¬ geO o (c + 1) := by
  cases o with
  | none =>
    refine ⟨fun _ => ?_, fun _ => ?_⟩
    · rintro ⟨m, h, -⟩; exact absurd h (by simp)
    · show (-1 : Int32) ≤ nI c
      rw [Int32.le_iff_toInt_le, nI_toInt (by omega)]
      have h2 : (-1 : Int32).toInt = -1 := by decide
      omega
  | some m =>
    have := ho m rfl
    show nI m ≤ nI c ↔ _
    rw [nI_leI (by omega) (by omega)]
    refine ⟨fun h => ?_, fun h => ?_⟩
    · rintro ⟨m', h1, h2⟩
      have := Option.some.inj h1
      omega
    · exact Nat.le_of_not_lt (fun q => h ⟨m, rfl, q⟩)
theorem oI_leO {o o' : Option Nat} (ho : bdO o) (ho' : bdO o') : oI o ≤ oI o' ↔ ∀ x, o = some x → geO o' x := by
  cases o with
  | none =>
    refine ⟨fun _ x h => absurd h (by simp), fun _ => ?_⟩
    cases o' with
    | none => exact Int32.le_refl _
    | some m =>
      have := ho' m rfl
      show (-1 : Int32) ≤ nI m
      rw [Int32.le_iff_toInt_le, nI_toInt (by omega)]
      have h2 : (-1 : Int32).toInt = -1 := by decide
      omega
  | some x =>
    have hx := ho x rfl
    have e := oI_lt (o := o') (g := x) ho' (by omega)
    show nI x ≤ oI o' ↔ _
    rw [← Int32.not_lt, e, Classical.not_not]
    exact ⟨fun h y hy => by rw [← Option.some.inj hy]; exact h, fun h => h x rfl⟩
section LATX
variable {N : Nt} {b H : Nat}
/-- row r of the latest hours -/
def RowR (N : Nt) (b H r : Nat) (f : Nat → Option Nat) : Prop := (∀ q, q < 8 → ∀ m, f q = some m → m ≤ 100000 ∧ ∃ c, c ≤ H ∧ Re N r q m b c) ∧ ∀ q t c, q < 8 → c ≤ H → Re N r q t b c → geO (f q) t
def RR (s : Sg) (r : Nat) (f : Nat → Option Nat) : Prop := ∀ q, q < 8 → s 28 0 (8 * r + q) = oI (f q)
theorem RowR.bd {r : Nat} {f : Nat → Option Nat} (h : RowR N b H r f) {q : Nat} (hq : q < 8) : bdO (f q) := fun m hm => (h.1 q hq m hm).1
theorem e_goesOn {s : Sg} {r q : Nat} {g : Nat → Option Nat} {o : Option Nat} (hr : r ≤ 10) (hq : q < 8) (hb : b < 8) (hH : H ≤ 1000000) (ho : bdO o) (hg : bdO (g q)) (hR : RR s r g) : ∃ w, f_X4_goesOnInTime (nI r) (nI q) (oI o) (nI b) (nI H) s = some (w, s) ∧ ((w = 1 ∧ ∃ c, o = some c ∧ ((q = b ∧ c ≤ H) ∨ geO (g q) (c + 1))) ∨ (w = 0 ∧ ∀ c, o = some c → ¬ ((q = b ∧ c ≤ H) ∨ geO (g q) (c + 1)))) := by
  unfold f_X4_goesOnInTime
  cases o with
  | none => exact ⟨0, if_pos rfl, Or.inr ⟨rfl, fun c h => absurd h (by simp)⟩⟩
  | some c =>
    have hc := ho c rfl
    have hB : f_X4_goesOnInTime_B19 (nI r) (nI q) (nI c) s = some (if oI (g q) ≤ nI c then 0 else 1, s) := by
      unfold f_X4_goesOnInTime_B19 f_X4_latestFrom
      have e1 : nI r * 8 + nI q = nI (8 * r + q) := by rw [L_8, pk_mul, nI_add, Nat.mul_comm]
      rw [e1]
      simp only [chk, gi_nI (show 8 * r + q < 88 by omega) (by decide), if_true, nI_clamp (show 8 * r + q < 2 ^ 31 by omega), hR q hq, Option.bind_some]
      by_cases z : oI (g q) ≤ nI c
      · simp only [if_pos z]
      · simp only [if_neg z]
    have hle := oI_le (c := c) hg (by omega)
    show ∃ w, (if nI c = -1 then _ else _) = _ ∧ _
    rw [if_neg (nIm1 (by omega))]
    by_cases q1 : q = b
    · rw [if_pos (by rw [q1])]
      by_cases q2 : c ≤ H
      · refine ⟨1, ?_, Or.inl ⟨rfl, c, rfl, Or.inl ⟨q1, q2⟩⟩⟩
        show (if nI c ≤ nI H then _ else _) = _
        rw [if_pos (by rw [nI_leI (by omega) (by omega)]; exact q2)]
      · by_cases z : oI (g q) ≤ nI c
        · refine ⟨0, ?_, Or.inr ⟨rfl, ?_⟩⟩
          · show (if nI c ≤ nI H then _ else _) = _
            rw [if_neg (by rw [nI_leI (by omega) (by omega)]; exact q2)]
            show f_X4_goesOnInTime_B19 (nI r) (nI q) (nI c) s = _
            rw [hB, if_pos z]
          · rintro c' e (h | h)
            · have := Option.some.inj e; omega
            · have := Option.some.inj e
              subst this
              exact hle.mp z h
        · refine ⟨1, ?_, Or.inl ⟨rfl, c, rfl, Or.inr (Classical.not_not.mp (fun h => z (hle.mpr h)))⟩⟩
          show (if nI c ≤ nI H then _ else _) = _
          rw [if_neg (by rw [nI_leI (by omega) (by omega)]; exact q2)]
          show f_X4_goesOnInTime_B19 (nI r) (nI q) (nI c) s = _
          rw [hB, if_neg z]
    · rw [if_neg (by rw [nI_eq (by omega) (by omega)]; exact q1)]
      by_cases z : oI (g q) ≤ nI c
      · refine ⟨0, ?_, Or.inr ⟨rfl, ?_⟩⟩
        · show f_X4_goesOnInTime_B19 (nI r) (nI q) (nI c) s = _
          rw [hB, if_pos z]
        · rintro c' e (h | h)
          · exact q1 h.1
          · have := Option.some.inj e
            subst this
            exact hle.mp z h
      · refine ⟨1, ?_, Or.inl ⟨rfl, c, rfl, Or.inr (Classical.not_not.mp (fun h => z (hle.mpr h)))⟩⟩
        show f_X4_goesOnInTime_B19 (nI r) (nI q) (nI c) s = _
        rw [hB, if_neg z]
def Db (v0 k v i _j : Nat) : Prop := v < v0 ∨ v = v0 ∧ k ≤ i
/-- row r under way, over row r - 1 = g -/
def GI' (N : Nt) (b H r : Nat) (g f : Nat → Option Nat) (D : Nat → Nat → Nat → Prop) : Prop := (∀ q, q < 8 → ∀ m, f q = some m → m ≤ 100000 ∧ ∃ c, c ≤ H ∧ Re N (r + 1) q m b c) ∧ (∀ q t, q < 8 → geO (g q) t → geO (f q) t) ∧ ∀ v i j x c, D v i j → Rd N v i j x c → Gd N b H g v j c → geO (f (nP N v i)) x
/-- the state: row r + 1 is f, the other rows and kinds are as they were -/
def GT' (s0 : Sg) (r : Nat) (f : Nat → Option Nat) (s : Sg) : Prop := Ag [28] s s0 ∧ RR s (r + 1) f ∧ ∀ j, (j < 8 * (r + 1) ∨ 8 * (r + 1) + 8 ≤ j) → s 28 0 j = s0 28 0 j
def AR (N : Nt) (b H : Nat) (g : Nat → Option Nat) (v k : Nat) (ar : Int32) : Prop := (ar = 0 ∧ ∀ j c, k ≤ j → j ≤ nG N v → cX N v j = some c → ¬ Gd N b H g v j c) ∨ (ar = 1 ∧ ∃ j c, k ≤ j ∧ j ≤ nG N v ∧ cX N v j = some c ∧ Gd N b H g v j c)
theorem m1I (k : Nat) : nI (k + 1) + (-1) = nI k := by
  rw [← nI_1, Int32.add_assoc]
  exact Int32.add_zero _
theorem GT'.rr {s0 s : Sg} {r r' : Nat} {f g : Nat → Option Nat} (h : GT' s0 r f s) (h' : RR s0 r' g) (hr : r' ≤ r) : RR s r' g := fun q hq => by
  rw [h.2.2 _ (Or.inl (by omega))]
  exact h' q hq
theorem e_G79 (k12 : Nat → Int32 → Int32 → Int32 → Int32 → Int32 → Int32 → Int32 → Sg → Option (Int32 × Sg)) {s0 s : Sg} {f g : Nat → Option Nat} {P : Int32 × Sg → Prop} {v i r : Nat} {ar la : Int32} (HN : NX s0 N) (hb : b < 8) (hH : H ≤ 1000000) (hr : r < 10) (hv : v < nN N) (hi : i ≤ nG N v) (hg : RowR N b H r g) (hg0 : RR s0 r g) (hT : GT' s0 r f s) (hA : AR N b H g v (i + 1) ar) (hK : ∀ ar', AR N b H g v i ar' → Ok (k12 v (nI v) (nI (r + 1)) (nI b) (nI H) ar' la (nI i + (-1)) s) P) : Ok (f_X4_goBack_B79 k12 v (nI v) (nI (r + 1)) (nI b) (nI H) ar la (nI i) (nI (7 * v + i)) s) P := by
  obtain ⟨K, B2, B3⟩ := HN.of (hT.1.sub (by decide))
  have hv10 := K.1
  have hG := K.2.1 v hv
  have hpi := K.2.2.1 v i hv hi
  obtain ⟨C1, C2, C3, C4, C5⟩ := (B3 v hv).2 i hi
  unfold f_X4_goBack_B79
  refine ok_gi i rfl (by omega) (ok_gi _ rfl (by omega) ?_)
  rw [nI_clamp (by omega), nI_clamp (by omega), C1, C2]
  have e1 : nI (r + 1) - 1 = nI r := by rw [← nI_1, Int32.add_sub_cancel]
  rw [e1]
  obtain ⟨w, w1, w2⟩ := e_goesOn (o := cX N v i) (by omega) hpi hb hH C4 (hg.bd hpi) (hT.rr hg0 (Nat.le_refl _))
  refine ok_call w1 ?_
  dsimp only
  rcases w2 with ⟨z1, c, z2, z3⟩ | ⟨z1, z2⟩
  · refine ok_neg (by rw [z1]; decide) (hK 1 (Or.inr ⟨rfl, i, c, Nat.le_refl _, hi, z2, z3⟩))
  · refine ok_pos z1 (hK ar ?_)
    rcases hA with ⟨a1, a2⟩ | ⟨a1, j, c, a2, a3⟩
    · refine Or.inl ⟨a1, fun j c h1 h2 h3 => ?_⟩
      by_cases e : j = i
      · subst e; exact z2 c h3
      · exact a2 j c (by omega) h2 h3
    · exact Or.inr ⟨a1, j, c, by omega, a3⟩
end LATX
