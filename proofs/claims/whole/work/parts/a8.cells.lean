/-! addresses of the cells behind the constructors; written by mkstart.py -/
def ofL : List Nat := [1, 2, 99, 137, 200, 136, 139, 134, 8, 0, 206, 7, 98, 138, 3, 4, 5, 6, 100, 101, 102, 103, 104, 105, 199, 201, 202, 203, 204, 205, 140, 141, 142, 143, 144, 135, 9, 10, 11, 12, 13, 14, 15, 16, 207, 208, 209, 210, 211, 212, 213, 214, 215, 216, 217, 218, 219, 220, 221, 222, 223, 224, 225, 226, 227, 228, 229, 230, 231, 232, 233, 234, 235, 236, 237, 238, 239, 240, 241, 242, 243, 244, 245, 246, 247, 248, 249, 250, 251]
def stL : List Nat := [0, 0, 7, 0, 0, 0, 6, 0, 9, 0, 0, 0, 0, 0, 0, 0, 0, 0, 7, 7, 7, 7, 7, 7, 0, 0, 0, 0, 0, 0, 6, 6, 6, 6, 6, 0, 9, 9, 9, 9, 9, 9, 9, 9, 0, 0, 0, 0, 0, 0, 0, 0, 0, 0, 0, 0, 0, 0, 0, 0, 0, 0, 0, 0, 0, 0, 0, 0, 0, 0, 0, 0, 0, 0, 0, 0, 0, 0, 0, 0, 0, 0, 0, 0, 0, 0, 0, 0, 0]
def off (k i : Nat) : Nat := ofL.getD k 0 + stL.getD k 0 * i
def invL : List (Nat × Nat) := [(9, 0), (0, 0), (1, 0), (14, 0), (15, 0), (16, 0), (17, 0), (11, 0), (8, 0), (36, 0), (37, 0), (38, 0), (39, 0), (40, 0), (41, 0), (42, 0), (43, 0), (8, 1), (36, 1), (37, 1), (38, 1), (39, 1), (40, 1), (41, 1), (42, 1), (43, 1), (8, 2), (36, 2), (37, 2), (38, 2), (39, 2), (40, 2), (41, 2), (42, 2), (43, 2), (8, 3), (36, 3), (37, 3), (38, 3), (39, 3), (40, 3), (41, 3), (42, 3), (43, 3), (8, 4), (36, 4), (37, 4), (38, 4), (39, 4), (40, 4), (41, 4), (42, 4), (43, 4), (8, 5), (36, 5), (37, 5), (38, 5), (39, 5), (40, 5), (41, 5), (42, 5), (43, 5), (8, 6), (36, 6), (37, 6), (38, 6), (39, 6), (40, 6), (41, 6), (42, 6), (43, 6), (8, 7), (36, 7), (37, 7), (38, 7), (39, 7), (40, 7), (41, 7), (42, 7), (43, 7), (8, 8), (36, 8), (37, 8), (38, 8), (39, 8), (40, 8), (41, 8), (42, 8), (43, 8), (8, 9), (36, 9), (37, 9), (38, 9), (39, 9), (40, 9), (41, 9), (42, 9), (43, 9), (12, 0), (2, 0), (18, 0), (19, 0), (20, 0), (21, 0), (22, 0), (23, 0), (2, 1), (18, 1), (19, 1), (20, 1), (21, 1), (22, 1), (23, 1), (2, 2), (18, 2), (19, 2), (20, 2), (21, 2), (22, 2), (23, 2), (2, 3), (18, 3), (19, 3), (20, 3), (21, 3), (22, 3), (23, 3), (2, 4), (18, 4), (19, 4), (20, 4), (21, 4), (22, 4), (23, 4), (7, 0), (35, 0), (5, 0), (3, 0), (13, 0), (6, 0), (30, 0), (31, 0), (32, 0), (33, 0), (34, 0), (6, 1), (30, 1), (31, 1), (32, 1), (33, 1), (34, 1), (6, 2), (30, 2), (31, 2), (32, 2), (33, 2), (34, 2), (6, 3), (30, 3), (31, 3), (32, 3), (33, 3), (34, 3), (6, 4), (30, 4), (31, 4), (32, 4), (33, 4), (34, 4), (6, 5), (30, 5), (31, 5), (32, 5), (33, 5), (34, 5), (6, 6), (30, 6), (31, 6), (32, 6), (33, 6), (34, 6), (6, 7), (30, 7), (31, 7), (32, 7), (33, 7), (34, 7), (6, 8), (30, 8), (31, 8), (32, 8), (33, 8), (34, 8), (6, 9), (30, 9), (31, 9), (32, 9), (33, 9), (34, 9), (24, 0), (4, 0), (25, 0), (26, 0), (27, 0), (28, 0), (29, 0), (10, 0), (44, 0), (45, 0), (46, 0), (47, 0), (48, 0), (49, 0), (50, 0), (51, 0), (52, 0), (53, 0), (54, 0), (55, 0), (56, 0), (57, 0), (58, 0), (59, 0), (60, 0), (61, 0), (62, 0), (63, 0), (64, 0), (65, 0), (66, 0), (67, 0), (68, 0), (69, 0), (70, 0), (71, 0), (72, 0), (73, 0), (74, 0), (75, 0), (76, 0), (77, 0), (78, 0), (79, 0), (80, 0), (81, 0), (82, 0), (83, 0), (84, 0), (85, 0), (86, 0), (87, 0), (88, 0)]
theorem inv_off : ∀ c ∈ allc, invL[off c.1 c.2]? = some c := by decide +kernel
def g0 (D : va_G) (cA : Nat → ClassId) (b : Nat) : GT := (D, fun k i => b + off k i, cA)
theorem gi_0 (D : va_G) (cA : Nat → ClassId) (b : Nat) : GI (g0 D cA b) := by
  intro c d hc hd h
  have h : b + off c.1 c.2 = b + off d.1 d.2 := h
  have e : off c.1 c.2 = off d.1 d.2 := by omega
  have h1 := inv_off c hc
  rw [e, inv_off d hd] at h1
  exact (Option.some.inj h1).symm
theorem arrV_ext (cA : ClassId) (n : Nat) {f f' : Nat → Value} (h : ∀ j, j < n → f j = f' j) : arrV cA n f = arrV cA n f' := by
  unfold arrV
  rw [show (fun j : Fin n => f j.val) = (fun j : Fin n => f' j.val) from funext fun j => h j.val j.isLt]
theorem at_i {D : va_G} {q n : Nat} {cA : ClassId} {f f' : Nat → Int32} {H : Heap} (h : va_at D vwCl (q, .inl (cA, n, .inl f)) H) (e : ∀ j, j < n → f j = f' j) : va_at D vwCl (q, .inl (cA, n, .inl f')) H := by
  show H[q]? = some (vp_cell _ _)
  rw [vp_cell_i, ← arrV_ext cA n (f := fun j => .int (f j)) (fun j hj => by rw [e j hj])]
  exact h
theorem at_q {D : va_G} {q n : Nat} {cA : ClassId} {f f' : Nat → Option Nat} {H : Heap} (h : va_at D vwCl (q, .inl (cA, n, rfs f)) H) (e : ∀ j, j < n → f j = f' j) : va_at D vwCl (q, .inl (cA, n, rfs f')) H := by
  show H[q]? = some (vp_cell _ _)
  rw [vp_cell_q, ← arrV_ext cA n (f := fun j => va_rf (f j)) (fun j hj => by rw [e j hj])]
  exact h
def AllL (P : Nat × Nat → Prop) : List (Nat × Nat) → Prop
  | [] => True
  | c :: t => P c ∧ AllL P t
theorem AllL.mem {P : Nat × Nat → Prop} : ∀ {l : List (Nat × Nat)}, AllL P l → ∀ c ∈ l, P c := by
  intro l
  induction l with
  | nil => intro _ c hc; cases hc
  | cons x t ih =>
    intro h c hc
    rcases List.mem_cons.mp hc with rfl | hc
    · exact h.1
    · exact ih h.2 c hc
def Lall (g : GT) (b : Nat) : va_W := bk9 g b ++ bk10 g (b + 206)
theorem of_0 (i : Nat) : off 0 i = 1 + 0 * i := rfl
theorem of_1 (i : Nat) : off 1 i = 2 + 0 * i := rfl
theorem of_2 (i : Nat) : off 2 i = 99 + 7 * i := rfl
theorem of_3 (i : Nat) : off 3 i = 137 + 0 * i := rfl
theorem of_4 (i : Nat) : off 4 i = 200 + 0 * i := rfl
theorem of_5 (i : Nat) : off 5 i = 136 + 0 * i := rfl
theorem of_6 (i : Nat) : off 6 i = 139 + 6 * i := rfl
theorem of_7 (i : Nat) : off 7 i = 134 + 0 * i := rfl
theorem of_8 (i : Nat) : off 8 i = 8 + 9 * i := rfl
theorem of_9 (i : Nat) : off 9 i = 0 + 0 * i := rfl
theorem of_10 (i : Nat) : off 10 i = 206 + 0 * i := rfl
theorem of_11 (i : Nat) : off 11 i = 7 + 0 * i := rfl
theorem of_12 (i : Nat) : off 12 i = 98 + 0 * i := rfl
theorem of_13 (i : Nat) : off 13 i = 138 + 0 * i := rfl
theorem of_14 (i : Nat) : off 14 i = 3 + 0 * i := rfl
theorem of_15 (i : Nat) : off 15 i = 4 + 0 * i := rfl
theorem of_16 (i : Nat) : off 16 i = 5 + 0 * i := rfl
theorem of_17 (i : Nat) : off 17 i = 6 + 0 * i := rfl
theorem of_18 (i : Nat) : off 18 i = 100 + 7 * i := rfl
theorem of_19 (i : Nat) : off 19 i = 101 + 7 * i := rfl
theorem of_20 (i : Nat) : off 20 i = 102 + 7 * i := rfl
theorem of_21 (i : Nat) : off 21 i = 103 + 7 * i := rfl
theorem of_22 (i : Nat) : off 22 i = 104 + 7 * i := rfl
theorem of_23 (i : Nat) : off 23 i = 105 + 7 * i := rfl
theorem of_24 (i : Nat) : off 24 i = 199 + 0 * i := rfl
theorem of_25 (i : Nat) : off 25 i = 201 + 0 * i := rfl
theorem of_26 (i : Nat) : off 26 i = 202 + 0 * i := rfl
theorem of_27 (i : Nat) : off 27 i = 203 + 0 * i := rfl
theorem of_28 (i : Nat) : off 28 i = 204 + 0 * i := rfl
theorem of_29 (i : Nat) : off 29 i = 205 + 0 * i := rfl
theorem of_30 (i : Nat) : off 30 i = 140 + 6 * i := rfl
theorem of_31 (i : Nat) : off 31 i = 141 + 6 * i := rfl
theorem of_32 (i : Nat) : off 32 i = 142 + 6 * i := rfl
theorem of_33 (i : Nat) : off 33 i = 143 + 6 * i := rfl
theorem of_34 (i : Nat) : off 34 i = 144 + 6 * i := rfl
theorem of_35 (i : Nat) : off 35 i = 135 + 0 * i := rfl
theorem of_36 (i : Nat) : off 36 i = 9 + 9 * i := rfl
theorem of_37 (i : Nat) : off 37 i = 10 + 9 * i := rfl
theorem of_38 (i : Nat) : off 38 i = 11 + 9 * i := rfl
theorem of_39 (i : Nat) : off 39 i = 12 + 9 * i := rfl
theorem of_40 (i : Nat) : off 40 i = 13 + 9 * i := rfl
theorem of_41 (i : Nat) : off 41 i = 14 + 9 * i := rfl
theorem of_42 (i : Nat) : off 42 i = 15 + 9 * i := rfl
theorem of_43 (i : Nat) : off 43 i = 16 + 9 * i := rfl
theorem of_44 (i : Nat) : off 44 i = 207 + 0 * i := rfl
theorem of_45 (i : Nat) : off 45 i = 208 + 0 * i := rfl
theorem of_46 (i : Nat) : off 46 i = 209 + 0 * i := rfl
theorem of_47 (i : Nat) : off 47 i = 210 + 0 * i := rfl
theorem of_48 (i : Nat) : off 48 i = 211 + 0 * i := rfl
theorem of_49 (i : Nat) : off 49 i = 212 + 0 * i := rfl
theorem of_50 (i : Nat) : off 50 i = 213 + 0 * i := rfl
theorem of_51 (i : Nat) : off 51 i = 214 + 0 * i := rfl
theorem of_52 (i : Nat) : off 52 i = 215 + 0 * i := rfl
theorem of_53 (i : Nat) : off 53 i = 216 + 0 * i := rfl
theorem of_54 (i : Nat) : off 54 i = 217 + 0 * i := rfl
theorem of_55 (i : Nat) : off 55 i = 218 + 0 * i := rfl
theorem of_56 (i : Nat) : off 56 i = 219 + 0 * i := rfl
theorem of_57 (i : Nat) : off 57 i = 220 + 0 * i := rfl
theorem of_58 (i : Nat) : off 58 i = 221 + 0 * i := rfl
theorem of_59 (i : Nat) : off 59 i = 222 + 0 * i := rfl
theorem of_60 (i : Nat) : off 60 i = 223 + 0 * i := rfl
theorem of_61 (i : Nat) : off 61 i = 224 + 0 * i := rfl
theorem of_62 (i : Nat) : off 62 i = 225 + 0 * i := rfl
theorem of_63 (i : Nat) : off 63 i = 226 + 0 * i := rfl
theorem of_64 (i : Nat) : off 64 i = 227 + 0 * i := rfl
theorem of_65 (i : Nat) : off 65 i = 228 + 0 * i := rfl
theorem of_66 (i : Nat) : off 66 i = 229 + 0 * i := rfl
theorem of_67 (i : Nat) : off 67 i = 230 + 0 * i := rfl
theorem of_68 (i : Nat) : off 68 i = 231 + 0 * i := rfl
theorem of_69 (i : Nat) : off 69 i = 232 + 0 * i := rfl
theorem of_70 (i : Nat) : off 70 i = 233 + 0 * i := rfl
theorem of_71 (i : Nat) : off 71 i = 234 + 0 * i := rfl
theorem of_72 (i : Nat) : off 72 i = 235 + 0 * i := rfl
theorem of_73 (i : Nat) : off 73 i = 236 + 0 * i := rfl
theorem of_74 (i : Nat) : off 74 i = 237 + 0 * i := rfl
theorem of_75 (i : Nat) : off 75 i = 238 + 0 * i := rfl
theorem of_76 (i : Nat) : off 76 i = 239 + 0 * i := rfl
theorem of_77 (i : Nat) : off 77 i = 240 + 0 * i := rfl
theorem of_78 (i : Nat) : off 78 i = 241 + 0 * i := rfl
theorem of_79 (i : Nat) : off 79 i = 242 + 0 * i := rfl
theorem of_80 (i : Nat) : off 80 i = 243 + 0 * i := rfl
theorem of_81 (i : Nat) : off 81 i = 244 + 0 * i := rfl
theorem of_82 (i : Nat) : off 82 i = 245 + 0 * i := rfl
theorem of_83 (i : Nat) : off 83 i = 246 + 0 * i := rfl
theorem of_84 (i : Nat) : off 84 i = 247 + 0 * i := rfl
theorem of_85 (i : Nat) : off 85 i = 248 + 0 * i := rfl
theorem of_86 (i : Nat) : off 86 i = 249 + 0 * i := rfl
theorem of_87 (i : Nat) : off 87 i = 250 + 0 * i := rfl
theorem of_88 (i : Nat) : off 88 i = 251 + 0 * i := rfl
def Pc (D : va_G) (cA : Nat → ClassId) (b : Nat) (H : Heap) (k i : Nat) : Prop := va_at D vwCl (b + off k i, GE (g0 D cA b) k i (s00 k i)) H
theorem s00_z {k : Nat} (i : Nat) (h : 14 ≤ k) (h4 : ¬ k = 40) : s00 k i = fun _ => 0 := by
  funext j
  unfold s00
  rw [if_neg h4, if_neg (by omega), if_neg (by omega), if_neg (by omega), if_neg (by omega), if_neg (by omega)]
theorem pc_a {D : va_G} {cA : Nat → ClassId} {b : Nat} {H : Heap} {k i q t N : Nat} (hk : 14 ≤ k) (h4 : ¬ k = 40) (ht : aT k = t) (hN : aL k = N) (e : b + off k i = q) (h : va_at D vwCl (q, .inl (cA t, N, .inl (fun _ => 0))) H) : Pc D cA b H k i := by
  unfold Pc
  rw [GE_arr _ _ _ hk, s00_z i hk h4, ht, hN, e]
  exact h
theorem P_cons {D : va_G} {x : Nat × va_E} {L : va_W} {H : Heap} (h : va_P D vwCl (x :: L) H) : va_at D vwCl x H ∧ va_P D vwCl L H := ⟨h 0 x rfl, fun k q hk => h (k + 1) q hk⟩
theorem P_app {D : va_G} {A L : va_W} {H : Heap} (h : va_P D vwCl (A ++ L) H) : va_P D vwCl A H ∧ va_P D vwCl L H := by
  refine ⟨fun k q hk => ?_, fun k q hk => ?_⟩
  · obtain ⟨n, hn⟩ := List.getElem?_of_mem (List.mem_append_left L (List.mem_of_getElem? hk))
    exact h n q hn
  · obtain ⟨n, hn⟩ := List.getElem?_of_mem (List.mem_append_right A (List.mem_of_getElem? hk))
    exact h n q hn
theorem P_rpt {D : va_G} {bk : Nat → va_W} {z c : Nat} {H : Heap} : ∀ {n : Nat}, va_P D vwCl (rpt bk z c n) H → ∀ i, i < n → va_P D vwCl (bk (z + c * i)) H := by
  intro n
  induction n with
  | zero => intro _ i hi; exact absurd hi (Nat.not_lt_zero i)
  | succ n ih =>
    intro h i hi
    have h2 := P_app (A := rpt bk z c n) h
    by_cases e : i = n
    · rw [e]; exact h2.2
    · exact ih h2.1 i (by omega)
def AllN (P : Nat → Prop) : List Nat → Prop
  | [] => True
  | c :: t => P c ∧ AllN P t
theorem AllN.mem {P : Nat → Prop} : ∀ {l : List Nat}, AllN P l → ∀ c ∈ l, P c := by
  intro l
  induction l with
  | nil => intro _ c hc; cases hc
  | cons x t ih =>
    intro h c hc
    rcases List.mem_cons.mp hc with rfl | hc
    · exact h.1
    · exact ih h.2 c hc
theorem one1 {P : Nat → Prop} (h : P 0) : ∀ i, i < 1 → P i := fun i hi => by
  have e : i = 0 := by omega
  subst e
  exact h
theorem blk_1 {D : va_G} {cA : Nat → ClassId} {b z i : Nat} {H : Heap} (hz : b + off 1 i = z) (hP : va_P D vwCl (bk1 (g0 D cA b) z) H) : Pc D cA b H 1 i ∧ Pc D cA b H 14 i ∧ Pc D cA b H 15 i ∧ Pc D cA b H 16 i ∧ Pc D cA b H 17 i := by
  rw [of_1] at hz
  have e14 : b + off 14 i = z + 1 := by rw [of_14]; omega
  have e15 : b + off 15 i = z + 2 := by rw [of_15]; omega
  have e16 : b + off 16 i = z + 3 := by rw [of_16]; omega
  have e17 : b + off 17 i = z + 4 := by rw [of_17]; omega
  refine ⟨?_, ?_, ?_, ?_, ?_⟩
  · show va_at D vwCl (b + off 1 i, GE (g0 D cA b) 1 i (s00 1 i)) H
    rw [show GE (g0 D cA b) 1 i (s00 1 i) = .inr (1, [.ref (b + off 14 i), .ref (b + off 15 i), .ref (b + off 16 i), .ref (b + off 17 i), .int 0]) from rfl, of_1, hz, e14, e15, e16, e17]
    exact hP 0 _ rfl
  · exact pc_a (by decide) (by decide) rfl rfl e14 (hP 1 _ rfl)
  · exact pc_a (by decide) (by decide) rfl rfl e15 (hP 2 _ rfl)
  · exact pc_a (by decide) (by decide) rfl rfl e16 (hP 3 _ rfl)
  · exact pc_a (by decide) (by decide) rfl rfl e17 (hP 4 _ rfl)
theorem blk_2 {D : va_G} {cA : Nat → ClassId} {b z i : Nat} {H : Heap} (hz : b + off 2 i = z) (hP : va_P D vwCl (bk2 (g0 D cA b) z) H) : Pc D cA b H 2 i ∧ Pc D cA b H 18 i ∧ Pc D cA b H 19 i ∧ Pc D cA b H 20 i ∧ Pc D cA b H 21 i ∧ Pc D cA b H 22 i ∧ Pc D cA b H 23 i := by
  rw [of_2] at hz
  have e18 : b + off 18 i = z + 1 := by rw [of_18]; omega
  have e19 : b + off 19 i = z + 2 := by rw [of_19]; omega
  have e20 : b + off 20 i = z + 3 := by rw [of_20]; omega
  have e21 : b + off 21 i = z + 4 := by rw [of_21]; omega
  have e22 : b + off 22 i = z + 5 := by rw [of_22]; omega
  have e23 : b + off 23 i = z + 6 := by rw [of_23]; omega
  refine ⟨?_, ?_, ?_, ?_, ?_, ?_, ?_⟩
  · show va_at D vwCl (b + off 2 i, GE (g0 D cA b) 2 i (s00 2 i)) H
    rw [show GE (g0 D cA b) 2 i (s00 2 i) = .inr (2, [.int 0, .int 0, .ref (b + off 18 i), .ref (b + off 19 i), .ref (b + off 20 i), .int 0, .ref (b + off 21 i), .ref (b + off 22 i), .ref (b + off 23 i)]) from rfl, of_2, hz, e18, e19, e20, e21, e22, e23]
    exact hP 0 _ rfl
  · exact pc_a (by decide) (by decide) rfl rfl e18 (hP 1 _ rfl)
  · exact pc_a (by decide) (by decide) rfl rfl e19 (hP 2 _ rfl)
  · exact pc_a (by decide) (by decide) rfl rfl e20 (hP 3 _ rfl)
  · exact pc_a (by decide) (by decide) rfl rfl e21 (hP 4 _ rfl)
  · exact pc_a (by decide) (by decide) rfl rfl e22 (hP 5 _ rfl)
  · exact pc_a (by decide) (by decide) rfl rfl e23 (hP 6 _ rfl)
theorem blk_4 {D : va_G} {cA : Nat → ClassId} {b z i : Nat} {H : Heap} (hz : b + off 4 i = z) (hP : va_P D vwCl (bk4 (g0 D cA b) z) H) : Pc D cA b H 4 i ∧ Pc D cA b H 25 i ∧ Pc D cA b H 26 i ∧ Pc D cA b H 27 i ∧ Pc D cA b H 28 i ∧ Pc D cA b H 29 i := by
  rw [of_4] at hz
  have e25 : b + off 25 i = z + 1 := by rw [of_25]; omega
  have e26 : b + off 26 i = z + 2 := by rw [of_26]; omega
  have e27 : b + off 27 i = z + 3 := by rw [of_27]; omega
  have e28 : b + off 28 i = z + 4 := by rw [of_28]; omega
  have e29 : b + off 29 i = z + 5 := by rw [of_29]; omega
  refine ⟨?_, ?_, ?_, ?_, ?_, ?_⟩
  · show va_at D vwCl (b + off 4 i, GE (g0 D cA b) 4 i (s00 4 i)) H
    rw [show GE (g0 D cA b) 4 i (s00 4 i) = .inr (4, [.ref (b + off 25 i), .ref (b + off 26 i), .ref (b + off 27 i), .ref (b + off 28 i), .int 0, .ref (b + off 29 i), .int 0]) from rfl, of_4, hz, e25, e26, e27, e28, e29]
    exact hP 0 _ rfl
  · exact pc_a (by decide) (by decide) rfl rfl e25 (hP 1 _ rfl)
  · exact pc_a (by decide) (by decide) rfl rfl e26 (hP 2 _ rfl)
  · exact pc_a (by decide) (by decide) rfl rfl e27 (hP 3 _ rfl)
  · exact pc_a (by decide) (by decide) rfl rfl e28 (hP 4 _ rfl)
  · exact pc_a (by decide) (by decide) rfl rfl e29 (hP 5 _ rfl)
theorem blk_5 {D : va_G} {cA : Nat → ClassId} {b z i : Nat} {H : Heap} (hz : b + off 5 i = z) (hP : va_P D vwCl (bk5 (g0 D cA b) z) H) : Pc D cA b H 5 i := by
  rw [of_5] at hz
  · show va_at D vwCl (b + off 5 i, GE (g0 D cA b) 5 i (s00 5 i)) H
    rw [show GE (g0 D cA b) 5 i (s00 5 i) = .inr (5, [.null, .int 0, .int 0, .null, .int 0, .int 0, .int 0, .int 0, .int (-1)]) from rfl, of_5, hz]
    exact hP 0 _ rfl
theorem blk_6 {D : va_G} {cA : Nat → ClassId} {b z i : Nat} {H : Heap} (hz : b + off 6 i = z) (hP : va_P D vwCl (bk6 (g0 D cA b) z) H) : Pc D cA b H 6 i ∧ Pc D cA b H 30 i ∧ Pc D cA b H 31 i ∧ Pc D cA b H 32 i ∧ Pc D cA b H 33 i ∧ Pc D cA b H 34 i := by
  rw [of_6] at hz
  have e30 : b + off 30 i = z + 1 := by rw [of_30]; omega
  have e31 : b + off 31 i = z + 2 := by rw [of_31]; omega
  have e32 : b + off 32 i = z + 3 := by rw [of_32]; omega
  have e33 : b + off 33 i = z + 4 := by rw [of_33]; omega
  have e34 : b + off 34 i = z + 5 := by rw [of_34]; omega
  refine ⟨?_, ?_, ?_, ?_, ?_, ?_⟩
  · show va_at D vwCl (b + off 6 i, GE (g0 D cA b) 6 i (s00 6 i)) H
    rw [show GE (g0 D cA b) 6 i (s00 6 i) = .inr (6, [.ref (b + off 30 i), .ref (b + off 31 i), .ref (b + off 32 i), .ref (b + off 33 i), .ref (b + off 34 i), .int 0, .int 0, .int 0, .int 0]) from rfl, of_6, hz, e30, e31, e32, e33, e34]
    exact hP 0 _ rfl
  · exact pc_a (by decide) (by decide) rfl rfl e30 (hP 1 _ rfl)
  · exact pc_a (by decide) (by decide) rfl rfl e31 (hP 2 _ rfl)
  · exact pc_a (by decide) (by decide) rfl rfl e32 (hP 3 _ rfl)
  · exact pc_a (by decide) (by decide) rfl rfl e33 (hP 4 _ rfl)
  · exact pc_a (by decide) (by decide) rfl rfl e34 (hP 5 _ rfl)
theorem blk_7 {D : va_G} {cA : Nat → ClassId} {b z i : Nat} {H : Heap} (hz : b + off 7 i = z) (hP : va_P D vwCl (bk7 (g0 D cA b) z) H) : Pc D cA b H 7 i ∧ Pc D cA b H 35 i := by
  rw [of_7] at hz
  have e35 : b + off 35 i = z + 1 := by rw [of_35]; omega
  refine ⟨?_, ?_⟩
  · show va_at D vwCl (b + off 7 i, GE (g0 D cA b) 7 i (s00 7 i)) H
    rw [show GE (g0 D cA b) 7 i (s00 7 i) = .inr (7, [.ref (b + off 35 i), .int 0]) from rfl, of_7, hz, e35]
    exact hP 0 _ rfl
  · exact pc_a (by decide) (by decide) rfl rfl e35 (hP 1 _ rfl)
theorem blk_8 {D : va_G} {cA : Nat → ClassId} {b z i : Nat} {H : Heap} (hz : b + off 8 i = z) (hP : va_P D vwCl (bk8 (g0 D cA b) z) H) : Pc D cA b H 8 i ∧ Pc D cA b H 36 i ∧ Pc D cA b H 37 i ∧ Pc D cA b H 38 i ∧ Pc D cA b H 39 i ∧ Pc D cA b H 40 i ∧ Pc D cA b H 41 i ∧ Pc D cA b H 42 i ∧ Pc D cA b H 43 i := by
  rw [of_8] at hz
  have e36 : b + off 36 i = z + 1 := by rw [of_36]; omega
  have e37 : b + off 37 i = z + 2 := by rw [of_37]; omega
  have e38 : b + off 38 i = z + 3 := by rw [of_38]; omega
  have e39 : b + off 39 i = z + 4 := by rw [of_39]; omega
  have e40 : b + off 40 i = z + 5 := by rw [of_40]; omega
  have e41 : b + off 41 i = z + 6 := by rw [of_41]; omega
  have e42 : b + off 42 i = z + 7 := by rw [of_42]; omega
  have e43 : b + off 43 i = z + 8 := by rw [of_43]; omega
  refine ⟨?_, ?_, ?_, ?_, ?_, ?_, ?_, ?_, ?_⟩
  · show va_at D vwCl (b + off 8 i, GE (g0 D cA b) 8 i (s00 8 i)) H
    rw [show GE (g0 D cA b) 8 i (s00 8 i) = .inr (8, [.int 0, .int 0, .int 0, .int 0, .int 0, .ref (b + off 36 i), .ref (b + off 37 i), .ref (b + off 38 i), .ref (b + off 39 i), .ref (b + off 40 i), .ref (b + off 41 i), .ref (b + off 42 i), .ref (b + off 43 i)]) from rfl, of_8, hz, e36, e37, e38, e39, e40, e41, e42, e43]
    exact hP 0 _ rfl
  · exact pc_a (by decide) (by decide) rfl rfl e36 (hP 1 _ rfl)
  · exact pc_a (by decide) (by decide) rfl rfl e37 (hP 2 _ rfl)
  · exact pc_a (by decide) (by decide) rfl rfl e38 (hP 3 _ rfl)
  · exact pc_a (by decide) (by decide) rfl rfl e39 (hP 4 _ rfl)
  · show va_at D vwCl (b + off 40 i, GE (g0 D cA b) 40 i (s00 40 i)) H
    rw [e40]
    exact at_i (hP 5 _ rfl) (fun j hj => if_pos hj)
  · exact pc_a (by decide) (by decide) rfl rfl e41 (hP 6 _ rfl)
  · exact pc_a (by decide) (by decide) rfl rfl e42 (hP 7 _ rfl)
  · exact pc_a (by decide) (by decide) rfl rfl e43 (hP 8 _ rfl)
theorem blk_10 {D : va_G} {cA : Nat → ClassId} {b z i : Nat} {H : Heap} (hz : b + off 10 i = z) (hP : va_P D vwCl (bk10 (g0 D cA b) z) H) : Pc D cA b H 10 i ∧ Pc D cA b H 44 i ∧ Pc D cA b H 45 i ∧ Pc D cA b H 46 i ∧ Pc D cA b H 47 i ∧ Pc D cA b H 48 i ∧ Pc D cA b H 49 i ∧ Pc D cA b H 50 i ∧ Pc D cA b H 51 i ∧ Pc D cA b H 52 i ∧ Pc D cA b H 53 i ∧ Pc D cA b H 54 i ∧ Pc D cA b H 55 i ∧ Pc D cA b H 56 i ∧ Pc D cA b H 57 i ∧ Pc D cA b H 58 i ∧ Pc D cA b H 59 i ∧ Pc D cA b H 60 i ∧ Pc D cA b H 61 i ∧ Pc D cA b H 62 i ∧ Pc D cA b H 63 i ∧ Pc D cA b H 64 i ∧ Pc D cA b H 65 i ∧ Pc D cA b H 66 i ∧ Pc D cA b H 67 i ∧ Pc D cA b H 68 i ∧ Pc D cA b H 69 i ∧ Pc D cA b H 70 i ∧ Pc D cA b H 71 i ∧ Pc D cA b H 72 i ∧ Pc D cA b H 73 i ∧ Pc D cA b H 74 i ∧ Pc D cA b H 75 i ∧ Pc D cA b H 76 i ∧ Pc D cA b H 77 i ∧ Pc D cA b H 78 i ∧ Pc D cA b H 79 i ∧ Pc D cA b H 80 i ∧ Pc D cA b H 81 i ∧ Pc D cA b H 82 i ∧ Pc D cA b H 83 i ∧ Pc D cA b H 84 i ∧ Pc D cA b H 85 i ∧ Pc D cA b H 86 i ∧ Pc D cA b H 87 i ∧ Pc D cA b H 88 i := by
  rw [of_10] at hz
  have e44 : b + off 44 i = z + 1 := by rw [of_44]; omega
  have e45 : b + off 45 i = z + 2 := by rw [of_45]; omega
  have e46 : b + off 46 i = z + 3 := by rw [of_46]; omega
  have e47 : b + off 47 i = z + 4 := by rw [of_47]; omega
  have e48 : b + off 48 i = z + 5 := by rw [of_48]; omega
  have e49 : b + off 49 i = z + 6 := by rw [of_49]; omega
  have e50 : b + off 50 i = z + 7 := by rw [of_50]; omega
  have e51 : b + off 51 i = z + 8 := by rw [of_51]; omega
  have e52 : b + off 52 i = z + 9 := by rw [of_52]; omega
  have e53 : b + off 53 i = z + 10 := by rw [of_53]; omega
  have e54 : b + off 54 i = z + 11 := by rw [of_54]; omega
  have e55 : b + off 55 i = z + 12 := by rw [of_55]; omega
  have e56 : b + off 56 i = z + 13 := by rw [of_56]; omega
  have e57 : b + off 57 i = z + 14 := by rw [of_57]; omega
  have e58 : b + off 58 i = z + 15 := by rw [of_58]; omega
  have e59 : b + off 59 i = z + 16 := by rw [of_59]; omega
  have e60 : b + off 60 i = z + 17 := by rw [of_60]; omega
  have e61 : b + off 61 i = z + 18 := by rw [of_61]; omega
  have e62 : b + off 62 i = z + 19 := by rw [of_62]; omega
  have e63 : b + off 63 i = z + 20 := by rw [of_63]; omega
  have e64 : b + off 64 i = z + 21 := by rw [of_64]; omega
  have e65 : b + off 65 i = z + 22 := by rw [of_65]; omega
  have e66 : b + off 66 i = z + 23 := by rw [of_66]; omega
  have e67 : b + off 67 i = z + 24 := by rw [of_67]; omega
  have e68 : b + off 68 i = z + 25 := by rw [of_68]; omega
  have e69 : b + off 69 i = z + 26 := by rw [of_69]; omega
  have e70 : b + off 70 i = z + 27 := by rw [of_70]; omega
  have e71 : b + off 71 i = z + 28 := by rw [of_71]; omega
  have e72 : b + off 72 i = z + 29 := by rw [of_72]; omega
  have e73 : b + off 73 i = z + 30 := by rw [of_73]; omega
  have e74 : b + off 74 i = z + 31 := by rw [of_74]; omega
  have e75 : b + off 75 i = z + 32 := by rw [of_75]; omega
  have e76 : b + off 76 i = z + 33 := by rw [of_76]; omega
  have e77 : b + off 77 i = z + 34 := by rw [of_77]; omega
  have e78 : b + off 78 i = z + 35 := by rw [of_78]; omega
  have e79 : b + off 79 i = z + 36 := by rw [of_79]; omega
  have e80 : b + off 80 i = z + 37 := by rw [of_80]; omega
  have e81 : b + off 81 i = z + 38 := by rw [of_81]; omega
  have e82 : b + off 82 i = z + 39 := by rw [of_82]; omega
  have e83 : b + off 83 i = z + 40 := by rw [of_83]; omega
  have e84 : b + off 84 i = z + 41 := by rw [of_84]; omega
  have e85 : b + off 85 i = z + 42 := by rw [of_85]; omega
  have e86 : b + off 86 i = z + 43 := by rw [of_86]; omega
  have e87 : b + off 87 i = z + 44 := by rw [of_87]; omega
  have e88 : b + off 88 i = z + 45 := by rw [of_88]; omega
  refine ⟨?_, ?_, ?_, ?_, ?_, ?_, ?_, ?_, ?_, ?_, ?_, ?_, ?_, ?_, ?_, ?_, ?_, ?_, ?_, ?_, ?_, ?_, ?_, ?_, ?_, ?_, ?_, ?_, ?_, ?_, ?_, ?_, ?_, ?_, ?_, ?_, ?_, ?_, ?_, ?_, ?_, ?_, ?_, ?_, ?_, ?_⟩
  · show va_at D vwCl (b + off 10 i, GE (g0 D cA b) 10 i (s00 10 i)) H
    rw [show GE (g0 D cA b) 10 i (s00 10 i) = .inr (10, [.int 0, .int 0, .int 0, .ref (b + off 44 i), .ref (b + off 45 i), .ref (b + off 46 i), .ref (b + off 47 i), .ref (b + off 48 i), .ref (b + off 49 i), .ref (b + off 50 i), .ref (b + off 51 i), .ref (b + off 52 i), .ref (b + off 53 i), .ref (b + off 54 i), .ref (b + off 55 i), .ref (b + off 56 i), .ref (b + off 57 i), .ref (b + off 58 i), .ref (b + off 59 i), .int 0, .ref (b + off 60 i), .int 0, .int 0, .int (-1), .ref (b + off 61 i), .ref (b + off 62 i), .ref (b + off 63 i), .ref (b + off 64 i), .ref (b + off 65 i), .ref (b + off 66 i), .ref (b + off 67 i), .ref (b + off 68 i), .ref (b + off 69 i), .ref (b + off 70 i), .ref (b + off 71 i), .ref (b + off 72 i), .int 0, .int 0, .int 0, .int 0, .int 0, .ref (b + off 73 i), .ref (b + off 74 i), .ref (b + off 75 i), .ref (b + off 76 i), .ref (b + off 77 i), .ref (b + off 78 i), .ref (b + off 79 i), .ref (b + off 80 i), .ref (b + off 81 i), .ref (b + off 82 i), .ref (b + off 83 i), .int 0, .ref (b + off 84 i), .ref (b + off 85 i), .int 0, .ref (b + off 86 i), .ref (b + off 87 i), .ref (b + off 88 i)]) from rfl, of_10, hz, e44, e45, e46, e47, e48, e49, e50, e51, e52, e53, e54, e55, e56, e57, e58, e59, e60, e61, e62, e63, e64, e65, e66, e67, e68, e69, e70, e71, e72, e73, e74, e75, e76, e77, e78, e79, e80, e81, e82, e83, e84, e85, e86, e87, e88]
    exact hP 0 _ rfl
  · exact pc_a (by decide) (by decide) rfl rfl e44 (hP 1 _ rfl)
  · exact pc_a (by decide) (by decide) rfl rfl e45 (hP 2 _ rfl)
  · exact pc_a (by decide) (by decide) rfl rfl e46 (hP 3 _ rfl)
  · exact pc_a (by decide) (by decide) rfl rfl e47 (hP 4 _ rfl)
  · exact pc_a (by decide) (by decide) rfl rfl e48 (hP 5 _ rfl)
  · exact pc_a (by decide) (by decide) rfl rfl e49 (hP 6 _ rfl)
  · exact pc_a (by decide) (by decide) rfl rfl e50 (hP 7 _ rfl)
  · exact pc_a (by decide) (by decide) rfl rfl e51 (hP 8 _ rfl)
  · exact pc_a (by decide) (by decide) rfl rfl e52 (hP 9 _ rfl)
  · exact pc_a (by decide) (by decide) rfl rfl e53 (hP 10 _ rfl)
  · exact pc_a (by decide) (by decide) rfl rfl e54 (hP 11 _ rfl)
  · exact pc_a (by decide) (by decide) rfl rfl e55 (hP 12 _ rfl)
  · exact pc_a (by decide) (by decide) rfl rfl e56 (hP 13 _ rfl)
  · exact pc_a (by decide) (by decide) rfl rfl e57 (hP 14 _ rfl)
  · exact pc_a (by decide) (by decide) rfl rfl e58 (hP 15 _ rfl)
  · exact pc_a (by decide) (by decide) rfl rfl e59 (hP 16 _ rfl)
  · exact pc_a (by decide) (by decide) rfl rfl e60 (hP 17 _ rfl)
  · exact pc_a (by decide) (by decide) rfl rfl e61 (hP 18 _ rfl)
  · exact pc_a (by decide) (by decide) rfl rfl e62 (hP 19 _ rfl)
  · exact pc_a (by decide) (by decide) rfl rfl e63 (hP 20 _ rfl)
  · exact pc_a (by decide) (by decide) rfl rfl e64 (hP 21 _ rfl)
  · exact pc_a (by decide) (by decide) rfl rfl e65 (hP 22 _ rfl)
  · exact pc_a (by decide) (by decide) rfl rfl e66 (hP 23 _ rfl)
  · exact pc_a (by decide) (by decide) rfl rfl e67 (hP 24 _ rfl)
  · exact pc_a (by decide) (by decide) rfl rfl e68 (hP 25 _ rfl)
  · exact pc_a (by decide) (by decide) rfl rfl e69 (hP 26 _ rfl)
  · exact pc_a (by decide) (by decide) rfl rfl e70 (hP 27 _ rfl)
  · exact pc_a (by decide) (by decide) rfl rfl e71 (hP 28 _ rfl)
  · exact pc_a (by decide) (by decide) rfl rfl e72 (hP 29 _ rfl)
  · exact pc_a (by decide) (by decide) rfl rfl e73 (hP 30 _ rfl)
  · exact pc_a (by decide) (by decide) rfl rfl e74 (hP 31 _ rfl)
  · exact pc_a (by decide) (by decide) rfl rfl e75 (hP 32 _ rfl)
  · exact pc_a (by decide) (by decide) rfl rfl e76 (hP 33 _ rfl)
  · exact pc_a (by decide) (by decide) rfl rfl e77 (hP 34 _ rfl)
  · exact pc_a (by decide) (by decide) rfl rfl e78 (hP 35 _ rfl)
  · exact pc_a (by decide) (by decide) rfl rfl e79 (hP 36 _ rfl)
  · exact pc_a (by decide) (by decide) rfl rfl e80 (hP 37 _ rfl)
  · exact pc_a (by decide) (by decide) rfl rfl e81 (hP 38 _ rfl)
  · exact pc_a (by decide) (by decide) rfl rfl e82 (hP 39 _ rfl)
  · exact pc_a (by decide) (by decide) rfl rfl e83 (hP 40 _ rfl)
  · exact pc_a (by decide) (by decide) rfl rfl e84 (hP 41 _ rfl)
  · exact pc_a (by decide) (by decide) rfl rfl e85 (hP 42 _ rfl)
  · exact pc_a (by decide) (by decide) rfl rfl e86 (hP 43 _ rfl)
  · exact pc_a (by decide) (by decide) rfl rfl e87 (hP 44 _ rfl)
  · exact pc_a (by decide) (by decide) rfl rfl e88 (hP 45 _ rfl)
theorem ws_00 {D : va_G} {cA : Nat → ClassId} {b : Nat} {H : Heap} (hP : va_P D vwCl (Lall (g0 D cA b) b) H) : va_P D vwCl (ws (g0 D cA b) s00) H := by
  obtain ⟨h9, h10⟩ := P_app hP
  obtain ⟨p9, h9⟩ := P_cons h9
  obtain ⟨h0, h9⟩ := P_app h9
  obtain ⟨h7, h9⟩ := P_app h9
  obtain ⟨h5, h9⟩ := P_app h9
  obtain ⟨h3, h4⟩ := P_app h9
  obtain ⟨p3, h3⟩ := P_cons h3
  obtain ⟨p13, h3⟩ := P_cons h3
  obtain ⟨h6, h24⟩ := P_app h3
  obtain ⟨p0, h0⟩ := P_cons h0
  obtain ⟨h1, h0⟩ := P_app h0
  obtain ⟨p11, h0⟩ := P_cons h0
  obtain ⟨h8, h0⟩ := P_app h0
  obtain ⟨p12, h0⟩ := P_cons h0
  obtain ⟨h2, h2s⟩ := P_app h0
  have b10 := blk_10 (i := 0) (b := b) (z := b + 206) (by rw [of_10]) h10
  have b7 := blk_7 (i := 0) (b := b) (z := b + 134) (by rw [of_7]) h7
  have b5 := blk_5 (i := 0) (b := b) (z := b + 136) (by rw [of_5]) h5
  have b4 := blk_4 (i := 0) (b := b) (z := b + 200) (by rw [of_4]) h4
  have b1 := blk_1 (i := 0) (b := b) (z := b + 1 + 1) (by rw [of_1]) h1
  have b8 := fun i hi => blk_8 (i := i) (b := b) (by rw [of_8]; omega) (P_rpt h8 i hi)
  have b6 := fun i hi => blk_6 (i := i) (b := b) (by rw [of_6]; omega) (P_rpt h6 i hi)
  have b2 : ∀ i, i < 5 → _ := fun i hi => blk_2 (D := D) (cA := cA) (H := H) (i := i) (b := b) (z := b + 99 + 7 * i) (by rw [of_2]; omega) (by
    by_cases e : i = 4
    · subst e
      exact h2s
    · exact P_rpt h2 i (by omega))
  have q24 : Pc D cA b H 24 0 := pc_a (by decide) (by decide) rfl rfl (by rw [of_24]) (h24 0 _ rfl)
  have q9 : Pc D cA b H 9 0 := by
    show va_at D vwCl (b + off 9 0, GE (g0 D cA b) 9 0 (s00 9 0)) H
    rw [show GE (g0 D cA b) 9 0 (s00 9 0) = .inr (9, [.ref (b + off 0 0), .ref (b + off 7 0), .ref (b + off 5 0), .ref (b + off 3 0), .ref (b + off 4 0)]) from rfl, of_9, of_0, of_7, of_5, of_3, of_4]
    exact p9
  have q3 : Pc D cA b H 3 0 := by
    show va_at D vwCl (b + off 3 0, GE (g0 D cA b) 3 0 (s00 3 0)) H
    rw [show GE (g0 D cA b) 3 0 (s00 3 0) = .inr (3, [.ref (b + off 13 0), .ref (b + off 24 0), .int 1]) from rfl, of_3, of_13, of_24]
    exact p3
  have q0 : Pc D cA b H 0 0 := by
    show va_at D vwCl (b + off 0 0, GE (g0 D cA b) 0 0 (s00 0 0)) H
    rw [show GE (g0 D cA b) 0 0 (s00 0 0) = .inr (0, [.ref (b + off 1 0), .ref (b + off 11 0), .int 0, .int 0, .ref (b + off 12 0), .ref (b + off 2 4)]) from rfl, of_0, of_1, of_11, of_12, of_2]
    exact p0
  have q11 : Pc D cA b H 11 0 := by
    show va_at D vwCl (b + off 11 0, .inl (cA 3, 10, rfs (fun j => some (b + off 8 j)))) H
    rw [of_11]
    exact at_q p11 (fun j hj => (if_pos hj).trans (congrArg some (by rw [of_8]; omega)))
  have q13 : Pc D cA b H 13 0 := by
    show va_at D vwCl (b + off 13 0, .inl (cA 4, 10, rfs (fun j => some (b + off 6 j)))) H
    rw [of_13]
    exact at_q p13 (fun j hj => (if_pos hj).trans (congrArg some (by rw [of_6]; omega)))
  have q12 : Pc D cA b H 12 0 := by
    show va_at D vwCl (b + off 12 0, .inl (cA 5, 4, rfs (fun j => some (b + off 2 (nI j).toNatClampNeg)))) H
    rw [of_12]
    exact at_q p12 (fun j hj => (if_pos hj).trans (congrArg some (by rw [of_2, nI_clamp (by omega)]; omega)))
  have all : AllN (fun k => ∀ i, i < cnt k → Pc D cA b H k i) [0, 1, 2, 3, 4, 5, 6, 7, 8, 9, 10, 11, 12, 13, 14, 15, 16, 17, 18, 19, 20, 21, 22, 23, 24, 25, 26, 27, 28, 29, 30, 31, 32, 33, 34, 35, 36, 37, 38, 39, 40, 41, 42, 43, 44, 45, 46, 47, 48, 49, 50, 51, 52, 53, 54, 55, 56, 57, 58, 59, 60, 61, 62, 63, 64, 65, 66, 67, 68, 69, 70, 71, 72, 73, 74, 75, 76, 77, 78, 79, 80, 81, 82, 83, 84, 85, 86, 87, 88] := ⟨one1 q0,
    one1 b1.1,
    fun i hi => (b2 i hi).1,
    one1 q3,
    one1 b4.1,
    one1 b5,
    fun i hi => (b6 i hi).1,
    one1 b7.1,
    fun i hi => (b8 i hi).1,
    one1 q9,
    one1 b10.1,
    one1 q11,
    one1 q12,
    one1 q13,
    one1 b1.2.1,
    one1 b1.2.2.1,
    one1 b1.2.2.2.1,
    one1 b1.2.2.2.2,
    fun i hi => (b2 i hi).2.1,
    fun i hi => (b2 i hi).2.2.1,
    fun i hi => (b2 i hi).2.2.2.1,
    fun i hi => (b2 i hi).2.2.2.2.1,
    fun i hi => (b2 i hi).2.2.2.2.2.1,
    fun i hi => (b2 i hi).2.2.2.2.2.2,
    one1 q24,
    one1 b4.2.1,
    one1 b4.2.2.1,
    one1 b4.2.2.2.1,
    one1 b4.2.2.2.2.1,
    one1 b4.2.2.2.2.2,
    fun i hi => (b6 i hi).2.1,
    fun i hi => (b6 i hi).2.2.1,
    fun i hi => (b6 i hi).2.2.2.1,
    fun i hi => (b6 i hi).2.2.2.2.1,
    fun i hi => (b6 i hi).2.2.2.2.2,
    one1 b7.2,
    fun i hi => (b8 i hi).2.1,
    fun i hi => (b8 i hi).2.2.1,
    fun i hi => (b8 i hi).2.2.2.1,
    fun i hi => (b8 i hi).2.2.2.2.1,
    fun i hi => (b8 i hi).2.2.2.2.2.1,
    fun i hi => (b8 i hi).2.2.2.2.2.2.1,
    fun i hi => (b8 i hi).2.2.2.2.2.2.2.1,
    fun i hi => (b8 i hi).2.2.2.2.2.2.2.2,
    one1 b10.2.1,
    one1 b10.2.2.1,
    one1 b10.2.2.2.1,
    one1 b10.2.2.2.2.1,
    one1 b10.2.2.2.2.2.1,
    one1 b10.2.2.2.2.2.2.1,
    one1 b10.2.2.2.2.2.2.2.1,
    one1 b10.2.2.2.2.2.2.2.2.1,
    one1 b10.2.2.2.2.2.2.2.2.2.1,
    one1 b10.2.2.2.2.2.2.2.2.2.2.1,
    one1 b10.2.2.2.2.2.2.2.2.2.2.2.1,
    one1 b10.2.2.2.2.2.2.2.2.2.2.2.2.1,
    one1 b10.2.2.2.2.2.2.2.2.2.2.2.2.2.1,
    one1 b10.2.2.2.2.2.2.2.2.2.2.2.2.2.2.1,
    one1 b10.2.2.2.2.2.2.2.2.2.2.2.2.2.2.2.1,
    one1 b10.2.2.2.2.2.2.2.2.2.2.2.2.2.2.2.2.1,
    one1 b10.2.2.2.2.2.2.2.2.2.2.2.2.2.2.2.2.2.1,
    one1 b10.2.2.2.2.2.2.2.2.2.2.2.2.2.2.2.2.2.2.1,
    one1 b10.2.2.2.2.2.2.2.2.2.2.2.2.2.2.2.2.2.2.2.1,
    one1 b10.2.2.2.2.2.2.2.2.2.2.2.2.2.2.2.2.2.2.2.2.1,
    one1 b10.2.2.2.2.2.2.2.2.2.2.2.2.2.2.2.2.2.2.2.2.2.1,
    one1 b10.2.2.2.2.2.2.2.2.2.2.2.2.2.2.2.2.2.2.2.2.2.2.1,
    one1 b10.2.2.2.2.2.2.2.2.2.2.2.2.2.2.2.2.2.2.2.2.2.2.2.1,
    one1 b10.2.2.2.2.2.2.2.2.2.2.2.2.2.2.2.2.2.2.2.2.2.2.2.2.1,
    one1 b10.2.2.2.2.2.2.2.2.2.2.2.2.2.2.2.2.2.2.2.2.2.2.2.2.2.1,
    one1 b10.2.2.2.2.2.2.2.2.2.2.2.2.2.2.2.2.2.2.2.2.2.2.2.2.2.2.1,
    one1 b10.2.2.2.2.2.2.2.2.2.2.2.2.2.2.2.2.2.2.2.2.2.2.2.2.2.2.2.1,
    one1 b10.2.2.2.2.2.2.2.2.2.2.2.2.2.2.2.2.2.2.2.2.2.2.2.2.2.2.2.2.1,
    one1 b10.2.2.2.2.2.2.2.2.2.2.2.2.2.2.2.2.2.2.2.2.2.2.2.2.2.2.2.2.2.1,
    one1 b10.2.2.2.2.2.2.2.2.2.2.2.2.2.2.2.2.2.2.2.2.2.2.2.2.2.2.2.2.2.2.1,
    one1 b10.2.2.2.2.2.2.2.2.2.2.2.2.2.2.2.2.2.2.2.2.2.2.2.2.2.2.2.2.2.2.2.1,
    one1 b10.2.2.2.2.2.2.2.2.2.2.2.2.2.2.2.2.2.2.2.2.2.2.2.2.2.2.2.2.2.2.2.2.1,
    one1 b10.2.2.2.2.2.2.2.2.2.2.2.2.2.2.2.2.2.2.2.2.2.2.2.2.2.2.2.2.2.2.2.2.2.1,
    one1 b10.2.2.2.2.2.2.2.2.2.2.2.2.2.2.2.2.2.2.2.2.2.2.2.2.2.2.2.2.2.2.2.2.2.2.1,
    one1 b10.2.2.2.2.2.2.2.2.2.2.2.2.2.2.2.2.2.2.2.2.2.2.2.2.2.2.2.2.2.2.2.2.2.2.2.1,
    one1 b10.2.2.2.2.2.2.2.2.2.2.2.2.2.2.2.2.2.2.2.2.2.2.2.2.2.2.2.2.2.2.2.2.2.2.2.2.1,
    one1 b10.2.2.2.2.2.2.2.2.2.2.2.2.2.2.2.2.2.2.2.2.2.2.2.2.2.2.2.2.2.2.2.2.2.2.2.2.2.1,
    one1 b10.2.2.2.2.2.2.2.2.2.2.2.2.2.2.2.2.2.2.2.2.2.2.2.2.2.2.2.2.2.2.2.2.2.2.2.2.2.2.1,
    one1 b10.2.2.2.2.2.2.2.2.2.2.2.2.2.2.2.2.2.2.2.2.2.2.2.2.2.2.2.2.2.2.2.2.2.2.2.2.2.2.2.1,
    one1 b10.2.2.2.2.2.2.2.2.2.2.2.2.2.2.2.2.2.2.2.2.2.2.2.2.2.2.2.2.2.2.2.2.2.2.2.2.2.2.2.2.1,
    one1 b10.2.2.2.2.2.2.2.2.2.2.2.2.2.2.2.2.2.2.2.2.2.2.2.2.2.2.2.2.2.2.2.2.2.2.2.2.2.2.2.2.2.1,
    one1 b10.2.2.2.2.2.2.2.2.2.2.2.2.2.2.2.2.2.2.2.2.2.2.2.2.2.2.2.2.2.2.2.2.2.2.2.2.2.2.2.2.2.2.1,
    one1 b10.2.2.2.2.2.2.2.2.2.2.2.2.2.2.2.2.2.2.2.2.2.2.2.2.2.2.2.2.2.2.2.2.2.2.2.2.2.2.2.2.2.2.2.1,
    one1 b10.2.2.2.2.2.2.2.2.2.2.2.2.2.2.2.2.2.2.2.2.2.2.2.2.2.2.2.2.2.2.2.2.2.2.2.2.2.2.2.2.2.2.2.2.1,
    one1 b10.2.2.2.2.2.2.2.2.2.2.2.2.2.2.2.2.2.2.2.2.2.2.2.2.2.2.2.2.2.2.2.2.2.2.2.2.2.2.2.2.2.2.2.2.2, trivial⟩
  have e89 : List.range 89 = [0, 1, 2, 3, 4, 5, 6, 7, 8, 9, 10, 11, 12, 13, 14, 15, 16, 17, 18, 19, 20, 21, 22, 23, 24, 25, 26, 27, 28, 29, 30, 31, 32, 33, 34, 35, 36, 37, 38, 39, 40, 41, 42, 43, 44, 45, 46, 47, 48, 49, 50, 51, 52, 53, 54, 55, 56, 57, 58, 59, 60, 61, 62, 63, 64, 65, 66, 67, 68, 69, 70, 71, 72, 73, 74, 75, 76, 77, 78, 79, 80, 81, 82, 83, 84, 85, 86, 87, 88] := by decide +kernel
  intro n q hn
  unfold ws at hn
  rw [List.getElem?_map] at hn
  cases hc : allc[n]? with
  | none => rw [hc] at hn; cases hn
  | some c =>
    rw [hc] at hn
    cases hn
    have hi := allc_lt (k := c.1) (i := c.2) (List.mem_of_getElem? hc)
    have hk : c.1 < 89 := Nat.lt_of_not_le fun q => by rw [cnt_out q] at hi; omega
    exact all.mem c.1 (by rw [← e89]; exact List.mem_range.mpr hk) c.2 hi
