/-! addresses of the cells behind the constructors; written by mkstart.py -/
def ofL : List Nat := [1, 2, 99, 137, 200, 136, 139, 134, 8, 0, 206, 7, 98, 138, 3, 4, 5, 6, 100, 101, 102, 103, 104, 105, 199, 201, 202, 203, 204, 205, 140, 141, 142, 143, 144, 135, 9, 10, 11, 12, 13, 14, 15, 16, 207, 208, 209, 210, 211, 212, 213, 214, 215, 216, 217, 218, 219, 220, 221, 222, 223, 224, 225, 226, 227, 228, 229, 230, 231, 232, 233, 234, 235, 236, 237, 238, 239, 240, 241, 242, 243, 244, 245, 246, 247, 248, 249, 250, 251]
def stL : List Nat := [0, 0, 7, 0, 0, 0, 6, 0, 9, 0, 0, 0, 0, 0, 0, 0, 0, 0, 7, 7, 7, 7, 7, 7, 0, 0, 0, 0, 0, 0, 6, 6, 6, 6, 6, 0, 9, 9, 9, 9, 9, 9, 9, 9, 0, 0, 0, 0, 0, 0, 0, 0, 0, 0, 0, 0, 0, 0, 0, 0, 0, 0, 0, 0, 0, 0, 0, 0, 0, 0, 0, 0, 0, 0, 0, 0, 0, 0, 0, 0, 0, 0, 0, 0, 0, 0, 0, 0, 0]
def off (k i : Nat) : Nat := ofL.getD k 0 + stL.getD k 0 * i
def invL : List (Nat × Nat) := [(9, 0), (0, 0), (1, 0), (14, 0), (15, 0), (16, 0), (17, 0), (11, 0), (8, 0), (36, 0), (37, 0), (38, 0), (39, 0), (40, 0), (41, 0), (42, 0), (43, 0), (8, 1), (36, 1), (37, 1), (38, 1), (39, 1), (40, 1), (41, 1), (42, 1), (43, 1), (8, 2), (36, 2), (37, 2), (38, 2), (39, 2), (40, 2), (41, 2), (42, 2), (43, 2), (8, 3), (36, 3), (37, 3), (38, 3), (39, 3), (40, 3), (41, 3), (42, 3), (43, 3), (8, 4), (36, 4), (37, 4), (38, 4), (39, 4), (40, 4), (41, 4), (42, 4), (43, 4), (8, 5), (36, 5), (37, 5), (38, 5), (39, 5), (40, 5), (41, 5), (42, 5), (43, 5), (8, 6), (36, 6), (37, 6), (38, 6), (39, 6), (40, 6), (41, 6), (42, 6), (43, 6), (8, 7), (36, 7), (37, 7), (38, 7), (39, 7), (40, 7), (41, 7), (42, 7), (43, 7), (8, 8), (36, 8), (37, 8), (38, 8), (39, 8), (40, 8), (41, 8), (42, 8), (43, 8), (8, 9), (36, 9), (37, 9), (38, 9), (39, 9), (40, 9), (41, 9), (42, 9), (43, 9), (12, 0), (2, 0), (18, 0), (19, 0), (20, 0), (21, 0), (22, 0), (23, 0), (2, 1), (18, 1), (19, 1), (20, 1), (21, 1), (22, 1), (23, 1), (2, 2), (18, 2), (19, 2), (20, 2), (21, 2), (22, 2), (23, 2), (2, 3), (18, 3), (19, 3), (20, 3), (21, 3), (22, 3), (23, 3), (2, 4), (18, 4), (19, 4), (20, 4), (21, 4), (22, 4), (23, 4), (7, 0), (35, 0), (5, 0), (3, 0), (13, 0), (6, 0), (30, 0), (31, 0), (32, 0), (33, 0), (34, 0), (6, 1), (30, 1), (31, 1), (32, 1), (33, 1), (34, 1), (6, 2), (30, 2), (31, 2), (32, 2), (33, 2), (34, 2), (6, 3), (30, 3), (31, 3), (32, 3), (33, 3), (34, 3), (6, 4), (30, 4), (31, 4), (32, 4), (33, 4), (34, 4), (6, 5), (30, 5), (31, 5), (32, 5), (33, 5), (34, 5), (6, 6), (30, 6), (31, 6), (32, 6), (33, 6), (34, 6), (6, 7), (30, 7), (31, 7), (32, 7), (33, 7), (34, 7), (6, 8), (30, 8), (31, 8), (32, 8), (33, 8), (34, 8), (6, 9), (30, 9), (31, 9), (32, 9), (33, 9), (34, 9), (24, 0), (4, 0), (25, 0), (26, 0), (27, 0), (28, 0), (29, 0), (10, 0), (44, 0), (45, 0), (46, 0), (47, 0), (48, 0), (49, 0), (50, 0), (51, 0), (52, 0), (53, 0), (54, 0), (55, 0), (56, 0), (57, 0), (58, 0), (59, 0), (60, 0), (61, 0), (62, 0), (63, 0), (64, 0), (65, 0), (66, 0), (67, 0), (68, 0), (69, 0), (70, 0), (71, 0), (72, 0), (73, 0), (74, 0), (75, 0), (76, 0), (77, 0), (78, 0), (79, 0), (80, 0), (81, 0), (82, 0), (83, 0), (84, 0), (85, 0), (86, 0), (87, 0), (88, 0)]
theorem inv_off : ∀ c ∈ allc, invL[off c.1 c.2]? = some c := by decide +kernel
def g0 (D : va_G) (cA : Nat → ClassId) (b : Nat) : GT := (D, fun k i => b + off k i, cA)
theorem gi_0 (D : va_G) (cA : Nat → ClassId) (b : Nat) : GI (g0 D cA b) := by
  intro c d hc hd h
  have h : b + off c.1 c.2 = b + off d.1 d.2 := h
  have e : off c.1 c.2 = off d.1 d.2 := by omega
  have h1 := inv_off c hc
  rw [e, inv_off d hd] at h1
  exact (Option.some.inj h1).symm
theorem arrV_ext (cA : ClassId) (n : Nat) {f f' : Nat → Value} (h : ∀ j, j < n → f j = f' j) : arrV cA n f = arrV cA n f' := by
  unfold arrV
  rw [show (fun j : Fin n => f j.val) = (fun j : Fin n => f' j.val) from funext fun j => h j.val j.isLt]
theorem at_i {D : va_G} {q n : Nat} {cA : ClassId} {f f' : Nat → Int32} {H : Heap} (h : va_at D vwCl (q, .inl (cA, n, .inl f)) H) (e : ∀ j, j < n → f j = f' j) : va_at D vwCl (q, .inl (cA, n, .inl f')) H := by
  show H[q]? = some (vp_cell _ _)
  rw [vp_cell_i, ← arrV_ext cA n (f := fun j => .int (f j)) (fun j hj => by rw [e j hj])]
  exact h
theorem at_q {D : va_G} {q n : Nat} {cA : ClassId} {f f' : Nat → Option Nat} {H : Heap} (h : va_at D vwCl (q, .inl (cA, n, rfs f)) H) (e : ∀ j, j < n → f j = f' j) : va_at D vwCl (q, .inl (cA, n, rfs f')) H := by
  show H[q]? = some (vp_cell _ _)
  rw [vp_cell_q, ← arrV_ext cA n (f := fun j => va_rf (f j)) (fun j hj => by rw [e j hj])]
  exact h
def AllL (P : Nat × Nat → Prop) : List (Nat × Nat) → Prop
  | [] => True
  | c :: t => P c ∧ AllL P t
theorem AllL.mem {P : Nat × Nat → Prop} : ∀ {l : List (Nat × Nat)}, AllL P l → ∀ c ∈ l, P c := by
  intro l
  induction l with
  | nil => intro _ c hc; cases hc
  | cons x t ih =>
    intro h c hc
    rcases List.mem_cons.mp hc with rfl | hc
    · exact h.1
    · exact ih h.2 c hc
def Lall (g : GT) (b : Nat) : va_W := bk9 g b ++ bk10 g (b + 206)
theorem al_0 {D : va_G} {cA : Nat → ClassId} {b : Nat} {H : Heap} (hP : va_P D vwCl (Lall (g0 D cA b) b) H) : AllL (fun c => va_at D vwCl (b + off c.1 c.2, GE (g0 D cA b) c.1 c.2 (s00 c.1 c.2)) H) [(0, 0), (1, 0), (2, 0), (2, 1), (2, 2), (2, 3), (2, 4), (3, 0), (4, 0), (5, 0), (6, 0), (6, 1), (6, 2), (6, 3), (6, 4), (6, 5), (6, 6), (6, 7), (6, 8), (6, 9), (7, 0)] :=
  ⟨hP 1 (b + 1, GE (g0 D cA b) 0 0 (s00 0 0)) rfl,
   hP 2 (b + 2, GE (g0 D cA b) 1 0 (s00 1 0)) rfl,
   hP 99 (b + 99, GE (g0 D cA b) 2 0 (s00 2 0)) rfl,
   hP 106 (b + 106, GE (g0 D cA b) 2 1 (s00 2 1)) rfl,
   hP 113 (b + 113, GE (g0 D cA b) 2 2 (s00 2 2)) rfl,
   hP 120 (b + 120, GE (g0 D cA b) 2 3 (s00 2 3)) rfl,
   hP 127 (b + 127, GE (g0 D cA b) 2 4 (s00 2 4)) rfl,
   hP 137 (b + 137, GE (g0 D cA b) 3 0 (s00 3 0)) rfl,
   hP 200 (b + 200, GE (g0 D cA b) 4 0 (s00 4 0)) rfl,
   hP 136 (b + 136, GE (g0 D cA b) 5 0 (s00 5 0)) rfl,
   hP 139 (b + 139, GE (g0 D cA b) 6 0 (s00 6 0)) rfl,
   hP 145 (b + 145, GE (g0 D cA b) 6 1 (s00 6 1)) rfl,
   hP 151 (b + 151, GE (g0 D cA b) 6 2 (s00 6 2)) rfl,
   hP 157 (b + 157, GE (g0 D cA b) 6 3 (s00 6 3)) rfl,
   hP 163 (b + 163, GE (g0 D cA b) 6 4 (s00 6 4)) rfl,
   hP 169 (b + 169, GE (g0 D cA b) 6 5 (s00 6 5)) rfl,
   hP 175 (b + 175, GE (g0 D cA b) 6 6 (s00 6 6)) rfl,
   hP 181 (b + 181, GE (g0 D cA b) 6 7 (s00 6 7)) rfl,
   hP 187 (b + 187, GE (g0 D cA b) 6 8 (s00 6 8)) rfl,
   hP 193 (b + 193, GE (g0 D cA b) 6 9 (s00 6 9)) rfl,
   hP 134 (b + 134, GE (g0 D cA b) 7 0 (s00 7 0)) rfl, trivial⟩
theorem al_1 {D : va_G} {cA : Nat → ClassId} {b : Nat} {H : Heap} (hP : va_P D vwCl (Lall (g0 D cA b) b) H) : AllL (fun c => va_at D vwCl (b + off c.1 c.2, GE (g0 D cA b) c.1 c.2 (s00 c.1 c.2)) H) [(8, 0), (8, 1), (8, 2), (8, 3), (8, 4), (8, 5), (8, 6), (8, 7), (8, 8), (8, 9), (9, 0), (10, 0), (11, 0), (12, 0), (13, 0), (14, 0), (15, 0), (16, 0), (17, 0), (18, 0), (18, 1)] :=
  ⟨hP 8 (b + 8, GE (g0 D cA b) 8 0 (s00 8 0)) rfl,
   hP 17 (b + 17, GE (g0 D cA b) 8 1 (s00 8 1)) rfl,
   hP 26 (b + 26, GE (g0 D cA b) 8 2 (s00 8 2)) rfl,
   hP 35 (b + 35, GE (g0 D cA b) 8 3 (s00 8 3)) rfl,
   hP 44 (b + 44, GE (g0 D cA b) 8 4 (s00 8 4)) rfl,
   hP 53 (b + 53, GE (g0 D cA b) 8 5 (s00 8 5)) rfl,
   hP 62 (b + 62, GE (g0 D cA b) 8 6 (s00 8 6)) rfl,
   hP 71 (b + 71, GE (g0 D cA b) 8 7 (s00 8 7)) rfl,
   hP 80 (b + 80, GE (g0 D cA b) 8 8 (s00 8 8)) rfl,
   hP 89 (b + 89, GE (g0 D cA b) 8 9 (s00 8 9)) rfl,
   hP 0 (b + 0, GE (g0 D cA b) 9 0 (s00 9 0)) rfl,
   hP 206 (b + 206, GE (g0 D cA b) 10 0 (s00 10 0)) rfl,
   at_q (hP 7 (b + 7, .inl (cA 3, 10, rfs (sf (b + 1 + 7) 9 10))) rfl) (fun j hj => (if_pos hj).trans (congrArg some (show b + 1 + 7 + 9 * j = b + (8 + 9 * j) by omega))),
   at_q (hP 98 (b + 98, .inl (cA 5, 4, rfs (sf (b + 1 + 98) 7 4))) rfl) (fun j hj => (if_pos hj).trans (congrArg some (by show b + 1 + 98 + 7 * j = b + (99 + 7 * (nI j).toNatClampNeg); rw [nI_clamp (by omega)]; omega))),
   at_q (hP 138 (b + 138, .inl (cA 4, 10, rfs (sf (b + 137 + 2) 6 10))) rfl) (fun j hj => (if_pos hj).trans (congrArg some (show b + 137 + 2 + 6 * j = b + (139 + 6 * j) by omega))),
   hP 3 (b + 3, GE (g0 D cA b) 14 0 (s00 14 0)) rfl,
   hP 4 (b + 4, GE (g0 D cA b) 15 0 (s00 15 0)) rfl,
   hP 5 (b + 5, GE (g0 D cA b) 16 0 (s00 16 0)) rfl,
   hP 6 (b + 6, GE (g0 D cA b) 17 0 (s00 17 0)) rfl,
   hP 100 (b + 100, GE (g0 D cA b) 18 0 (s00 18 0)) rfl,
   hP 107 (b + 107, GE (g0 D cA b) 18 1 (s00 18 1)) rfl, trivial⟩
theorem al_2 {D : va_G} {cA : Nat → ClassId} {b : Nat} {H : Heap} (hP : va_P D vwCl (Lall (g0 D cA b) b) H) : AllL (fun c => va_at D vwCl (b + off c.1 c.2, GE (g0 D cA b) c.1 c.2 (s00 c.1 c.2)) H) [(18, 2), (18, 3), (18, 4), (19, 0), (19, 1), (19, 2), (19, 3), (19, 4), (20, 0), (20, 1), (20, 2), (20, 3), (20, 4), (21, 0), (21, 1), (21, 2), (21, 3), (21, 4), (22, 0), (22, 1), (22, 2)] :=
  ⟨hP 114 (b + 114, GE (g0 D cA b) 18 2 (s00 18 2)) rfl,
   hP 121 (b + 121, GE (g0 D cA b) 18 3 (s00 18 3)) rfl,
   hP 128 (b + 128, GE (g0 D cA b) 18 4 (s00 18 4)) rfl,
   hP 101 (b + 101, GE (g0 D cA b) 19 0 (s00 19 0)) rfl,
   hP 108 (b + 108, GE (g0 D cA b) 19 1 (s00 19 1)) rfl,
   hP 115 (b + 115, GE (g0 D cA b) 19 2 (s00 19 2)) rfl,
   hP 122 (b + 122, GE (g0 D cA b) 19 3 (s00 19 3)) rfl,
   hP 129 (b + 129, GE (g0 D cA b) 19 4 (s00 19 4)) rfl,
   hP 102 (b + 102, GE (g0 D cA b) 20 0 (s00 20 0)) rfl,
   hP 109 (b + 109, GE (g0 D cA b) 20 1 (s00 20 1)) rfl,
   hP 116 (b + 116, GE (g0 D cA b) 20 2 (s00 20 2)) rfl,
   hP 123 (b + 123, GE (g0 D cA b) 20 3 (s00 20 3)) rfl,
   hP 130 (b + 130, GE (g0 D cA b) 20 4 (s00 20 4)) rfl,
   hP 103 (b + 103, GE (g0 D cA b) 21 0 (s00 21 0)) rfl,
   hP 110 (b + 110, GE (g0 D cA b) 21 1 (s00 21 1)) rfl,
   hP 117 (b + 117, GE (g0 D cA b) 21 2 (s00 21 2)) rfl,
   hP 124 (b + 124, GE (g0 D cA b) 21 3 (s00 21 3)) rfl,
   hP 131 (b + 131, GE (g0 D cA b) 21 4 (s00 21 4)) rfl,
   hP 104 (b + 104, GE (g0 D cA b) 22 0 (s00 22 0)) rfl,
   hP 111 (b + 111, GE (g0 D cA b) 22 1 (s00 22 1)) rfl,
   hP 118 (b + 118, GE (g0 D cA b) 22 2 (s00 22 2)) rfl, trivial⟩
theorem al_3 {D : va_G} {cA : Nat → ClassId} {b : Nat} {H : Heap} (hP : va_P D vwCl (Lall (g0 D cA b) b) H) : AllL (fun c => va_at D vwCl (b + off c.1 c.2, GE (g0 D cA b) c.1 c.2 (s00 c.1 c.2)) H) [(22, 3), (22, 4), (23, 0), (23, 1), (23, 2), (23, 3), (23, 4), (24, 0), (25, 0), (26, 0), (27, 0), (28, 0), (29, 0), (30, 0), (30, 1), (30, 2), (30, 3), (30, 4), (30, 5), (30, 6), (30, 7)] :=
  ⟨hP 125 (b + 125, GE (g0 D cA b) 22 3 (s00 22 3)) rfl,
   hP 132 (b + 132, GE (g0 D cA b) 22 4 (s00 22 4)) rfl,
   hP 105 (b + 105, GE (g0 D cA b) 23 0 (s00 23 0)) rfl,
   hP 112 (b + 112, GE (g0 D cA b) 23 1 (s00 23 1)) rfl,
   hP 119 (b + 119, GE (g0 D cA b) 23 2 (s00 23 2)) rfl,
   hP 126 (b + 126, GE (g0 D cA b) 23 3 (s00 23 3)) rfl,
   hP 133 (b + 133, GE (g0 D cA b) 23 4 (s00 23 4)) rfl,
   hP 199 (b + 199, GE (g0 D cA b) 24 0 (s00 24 0)) rfl,
   hP 201 (b + 201, GE (g0 D cA b) 25 0 (s00 25 0)) rfl,
   hP 202 (b + 202, GE (g0 D cA b) 26 0 (s00 26 0)) rfl,
   hP 203 (b + 203, GE (g0 D cA b) 27 0 (s00 27 0)) rfl,
   hP 204 (b + 204, GE (g0 D cA b) 28 0 (s00 28 0)) rfl,
   hP 205 (b + 205, GE (g0 D cA b) 29 0 (s00 29 0)) rfl,
   hP 140 (b + 140, GE (g0 D cA b) 30 0 (s00 30 0)) rfl,
   hP 146 (b + 146, GE (g0 D cA b) 30 1 (s00 30 1)) rfl,
   hP 152 (b + 152, GE (g0 D cA b) 30 2 (s00 30 2)) rfl,
   hP 158 (b + 158, GE (g0 D cA b) 30 3 (s00 30 3)) rfl,
   hP 164 (b + 164, GE (g0 D cA b) 30 4 (s00 30 4)) rfl,
   hP 170 (b + 170, GE (g0 D cA b) 30 5 (s00 30 5)) rfl,
   hP 176 (b + 176, GE (g0 D cA b) 30 6 (s00 30 6)) rfl,
   hP 182 (b + 182, GE (g0 D cA b) 30 7 (s00 30 7)) rfl, trivial⟩
theorem al_4 {D : va_G} {cA : Nat → ClassId} {b : Nat} {H : Heap} (hP : va_P D vwCl (Lall (g0 D cA b) b) H) : AllL (fun c => va_at D vwCl (b + off c.1 c.2, GE (g0 D cA b) c.1 c.2 (s00 c.1 c.2)) H) [(30, 8), (30, 9), (31, 0), (31, 1), (31, 2), (31, 3), (31, 4), (31, 5), (31, 6), (31, 7), (31, 8), (31, 9), (32, 0), (32, 1), (32, 2), (32, 3), (32, 4), (32, 5), (32, 6), (32, 7), (32, 8)] :=
  ⟨hP 188 (b + 188, GE (g0 D cA b) 30 8 (s00 30 8)) rfl,
   hP 194 (b + 194, GE (g0 D cA b) 30 9 (s00 30 9)) rfl,
   hP 141 (b + 141, GE (g0 D cA b) 31 0 (s00 31 0)) rfl,
   hP 147 (b + 147, GE (g0 D cA b) 31 1 (s00 31 1)) rfl,
   hP 153 (b + 153, GE (g0 D cA b) 31 2 (s00 31 2)) rfl,
   hP 159 (b + 159, GE (g0 D cA b) 31 3 (s00 31 3)) rfl,
   hP 165 (b + 165, GE (g0 D cA b) 31 4 (s00 31 4)) rfl,
   hP 171 (b + 171, GE (g0 D cA b) 31 5 (s00 31 5)) rfl,
   hP 177 (b + 177, GE (g0 D cA b) 31 6 (s00 31 6)) rfl,
   hP 183 (b + 183, GE (g0 D cA b) 31 7 (s00 31 7)) rfl,
   hP 189 (b + 189, GE (g0 D cA b) 31 8 (s00 31 8)) rfl,
   hP 195 (b + 195, GE (g0 D cA b) 31 9 (s00 31 9)) rfl,
   hP 142 (b + 142, GE (g0 D cA b) 32 0 (s00 32 0)) rfl,
   hP 148 (b + 148, GE (g0 D cA b) 32 1 (s00 32 1)) rfl,
   hP 154 (b + 154, GE (g0 D cA b) 32 2 (s00 32 2)) rfl,
   hP 160 (b + 160, GE (g0 D cA b) 32 3 (s00 32 3)) rfl,
   hP 166 (b + 166, GE (g0 D cA b) 32 4 (s00 32 4)) rfl,
   hP 172 (b + 172, GE (g0 D cA b) 32 5 (s00 32 5)) rfl,
   hP 178 (b + 178, GE (g0 D cA b) 32 6 (s00 32 6)) rfl,
   hP 184 (b + 184, GE (g0 D cA b) 32 7 (s00 32 7)) rfl,
   hP 190 (b + 190, GE (g0 D cA b) 32 8 (s00 32 8)) rfl, trivial⟩
theorem al_5 {D : va_G} {cA : Nat → ClassId} {b : Nat} {H : Heap} (hP : va_P D vwCl (Lall (g0 D cA b) b) H) : AllL (fun c => va_at D vwCl (b + off c.1 c.2, GE (g0 D cA b) c.1 c.2 (s00 c.1 c.2)) H) [(32, 9), (33, 0), (33, 1), (33, 2), (33, 3), (33, 4), (33, 5), (33, 6), (33, 7), (33, 8), (33, 9), (34, 0), (34, 1), (34, 2), (34, 3), (34, 4), (34, 5), (34, 6), (34, 7), (34, 8), (34, 9)] :=
  ⟨hP 196 (b + 196, GE (g0 D cA b) 32 9 (s00 32 9)) rfl,
   hP 143 (b + 143, GE (g0 D cA b) 33 0 (s00 33 0)) rfl,
   hP 149 (b + 149, GE (g0 D cA b) 33 1 (s00 33 1)) rfl,
   hP 155 (b + 155, GE (g0 D cA b) 33 2 (s00 33 2)) rfl,
   hP 161 (b + 161, GE (g0 D cA b) 33 3 (s00 33 3)) rfl,
   hP 167 (b + 167, GE (g0 D cA b) 33 4 (s00 33 4)) rfl,
   hP 173 (b + 173, GE (g0 D cA b) 33 5 (s00 33 5)) rfl,
   hP 179 (b + 179, GE (g0 D cA b) 33 6 (s00 33 6)) rfl,
   hP 185 (b + 185, GE (g0 D cA b) 33 7 (s00 33 7)) rfl,
   hP 191 (b + 191, GE (g0 D cA b) 33 8 (s00 33 8)) rfl,
   hP 197 (b + 197, GE (g0 D cA b) 33 9 (s00 33 9)) rfl,
   hP 144 (b + 144, GE (g0 D cA b) 34 0 (s00 34 0)) rfl,
   hP 150 (b + 150, GE (g0 D cA b) 34 1 (s00 34 1)) rfl,
   hP 156 (b + 156, GE (g0 D cA b) 34 2 (s00 34 2)) rfl,
   hP 162 (b + 162, GE (g0 D cA b) 34 3 (s00 34 3)) rfl,
   hP 168 (b + 168, GE (g0 D cA b) 34 4 (s00 34 4)) rfl,
   hP 174 (b + 174, GE (g0 D cA b) 34 5 (s00 34 5)) rfl,
   hP 180 (b + 180, GE (g0 D cA b) 34 6 (s00 34 6)) rfl,
   hP 186 (b + 186, GE (g0 D cA b) 34 7 (s00 34 7)) rfl,
   hP 192 (b + 192, GE (g0 D cA b) 34 8 (s00 34 8)) rfl,
   hP 198 (b + 198, GE (g0 D cA b) 34 9 (s00 34 9)) rfl, trivial⟩
theorem al_6 {D : va_G} {cA : Nat → ClassId} {b : Nat} {H : Heap} (hP : va_P D vwCl (Lall (g0 D cA b) b) H) : AllL (fun c => va_at D vwCl (b + off c.1 c.2, GE (g0 D cA b) c.1 c.2 (s00 c.1 c.2)) H) [(35, 0), (36, 0), (36, 1), (36, 2), (36, 3), (36, 4), (36, 5), (36, 6), (36, 7), (36, 8), (36, 9), (37, 0), (37, 1), (37, 2), (37, 3), (37, 4), (37, 5), (37, 6), (37, 7), (37, 8), (37, 9)] :=
  ⟨hP 135 (b + 135, GE (g0 D cA b) 35 0 (s00 35 0)) rfl,
   hP 9 (b + 9, GE (g0 D cA b) 36 0 (s00 36 0)) rfl,
   hP 18 (b + 18, GE (g0 D cA b) 36 1 (s00 36 1)) rfl,
   hP 27 (b + 27, GE (g0 D cA b) 36 2 (s00 36 2)) rfl,
   hP 36 (b + 36, GE (g0 D cA b) 36 3 (s00 36 3)) rfl,
   hP 45 (b + 45, GE (g0 D cA b) 36 4 (s00 36 4)) rfl,
   hP 54 (b + 54, GE (g0 D cA b) 36 5 (s00 36 5)) rfl,
   hP 63 (b + 63, GE (g0 D cA b) 36 6 (s00 36 6)) rfl,
   hP 72 (b + 72, GE (g0 D cA b) 36 7 (s00 36 7)) rfl,
   hP 81 (b + 81, GE (g0 D cA b) 36 8 (s00 36 8)) rfl,
   hP 90 (b + 90, GE (g0 D cA b) 36 9 (s00 36 9)) rfl,
   hP 10 (b + 10, GE (g0 D cA b) 37 0 (s00 37 0)) rfl,
   hP 19 (b + 19, GE (g0 D cA b) 37 1 (s00 37 1)) rfl,
   hP 28 (b + 28, GE (g0 D cA b) 37 2 (s00 37 2)) rfl,
   hP 37 (b + 37, GE (g0 D cA b) 37 3 (s00 37 3)) rfl,
   hP 46 (b + 46, GE (g0 D cA b) 37 4 (s00 37 4)) rfl,
   hP 55 (b + 55, GE (g0 D cA b) 37 5 (s00 37 5)) rfl,
   hP 64 (b + 64, GE (g0 D cA b) 37 6 (s00 37 6)) rfl,
   hP 73 (b + 73, GE (g0 D cA b) 37 7 (s00 37 7)) rfl,
   hP 82 (b + 82, GE (g0 D cA b) 37 8 (s00 37 8)) rfl,
   hP 91 (b + 91, GE (g0 D cA b) 37 9 (s00 37 9)) rfl, trivial⟩
theorem al_7 {D : va_G} {cA : Nat → ClassId} {b : Nat} {H : Heap} (hP : va_P D vwCl (Lall (g0 D cA b) b) H) : AllL (fun c => va_at D vwCl (b + off c.1 c.2, GE (g0 D cA b) c.1 c.2 (s00 c.1 c.2)) H) [(38, 0), (38, 1), (38, 2), (38, 3), (38, 4), (38, 5), (38, 6), (38, 7), (38, 8), (38, 9), (39, 0), (39, 1), (39, 2), (39, 3), (39, 4), (39, 5), (39, 6), (39, 7), (39, 8), (39, 9), (40, 0)] :=
  ⟨hP 11 (b + 11, GE (g0 D cA b) 38 0 (s00 38 0)) rfl,
   hP 20 (b + 20, GE (g0 D cA b) 38 1 (s00 38 1)) rfl,
   hP 29 (b + 29, GE (g0 D cA b) 38 2 (s00 38 2)) rfl,
   hP 38 (b + 38, GE (g0 D cA b) 38 3 (s00 38 3)) rfl,
   hP 47 (b + 47, GE (g0 D cA b) 38 4 (s00 38 4)) rfl,
   hP 56 (b + 56, GE (g0 D cA b) 38 5 (s00 38 5)) rfl,
   hP 65 (b + 65, GE (g0 D cA b) 38 6 (s00 38 6)) rfl,
   hP 74 (b + 74, GE (g0 D cA b) 38 7 (s00 38 7)) rfl,
   hP 83 (b + 83, GE (g0 D cA b) 38 8 (s00 38 8)) rfl,
   hP 92 (b + 92, GE (g0 D cA b) 38 9 (s00 38 9)) rfl,
   hP 12 (b + 12, GE (g0 D cA b) 39 0 (s00 39 0)) rfl,
   hP 21 (b + 21, GE (g0 D cA b) 39 1 (s00 39 1)) rfl,
   hP 30 (b + 30, GE (g0 D cA b) 39 2 (s00 39 2)) rfl,
   hP 39 (b + 39, GE (g0 D cA b) 39 3 (s00 39 3)) rfl,
   hP 48 (b + 48, GE (g0 D cA b) 39 4 (s00 39 4)) rfl,
   hP 57 (b + 57, GE (g0 D cA b) 39 5 (s00 39 5)) rfl,
   hP 66 (b + 66, GE (g0 D cA b) 39 6 (s00 39 6)) rfl,
   hP 75 (b + 75, GE (g0 D cA b) 39 7 (s00 39 7)) rfl,
   hP 84 (b + 84, GE (g0 D cA b) 39 8 (s00 39 8)) rfl,
   hP 93 (b + 93, GE (g0 D cA b) 39 9 (s00 39 9)) rfl,
   at_i (hP 13 (b + 13, .inl (cA 0, 6, .inl (fvI (-1) (fun _ => 0) 6))) rfl) (fun j hj => if_pos hj), trivial⟩
theorem al_8 {D : va_G} {cA : Nat → ClassId} {b : Nat} {H : Heap} (hP : va_P D vwCl (Lall (g0 D cA b) b) H) : AllL (fun c => va_at D vwCl (b + off c.1 c.2, GE (g0 D cA b) c.1 c.2 (s00 c.1 c.2)) H) [(40, 1), (40, 2), (40, 3), (40, 4), (40, 5), (40, 6), (40, 7), (40, 8), (40, 9), (41, 0), (41, 1), (41, 2), (41, 3), (41, 4), (41, 5), (41, 6), (41, 7), (41, 8), (41, 9), (42, 0), (42, 1)] :=
  ⟨at_i (hP 22 (b + 22, .inl (cA 0, 6, .inl (fvI (-1) (fun _ => 0) 6))) rfl) (fun j hj => if_pos hj),
   at_i (hP 31 (b + 31, .inl (cA 0, 6, .inl (fvI (-1) (fun _ => 0) 6))) rfl) (fun j hj => if_pos hj),
   at_i (hP 40 (b + 40, .inl (cA 0, 6, .inl (fvI (-1) (fun _ => 0) 6))) rfl) (fun j hj => if_pos hj),
   at_i (hP 49 (b + 49, .inl (cA 0, 6, .inl (fvI (-1) (fun _ => 0) 6))) rfl) (fun j hj => if_pos hj),
   at_i (hP 58 (b + 58, .inl (cA 0, 6, .inl (fvI (-1) (fun _ => 0) 6))) rfl) (fun j hj => if_pos hj),
   at_i (hP 67 (b + 67, .inl (cA 0, 6, .inl (fvI (-1) (fun _ => 0) 6))) rfl) (fun j hj => if_pos hj),
   at_i (hP 76 (b + 76, .inl (cA 0, 6, .inl (fvI (-1) (fun _ => 0) 6))) rfl) (fun j hj => if_pos hj),
   at_i (hP 85 (b + 85, .inl (cA 0, 6, .inl (fvI (-1) (fun _ => 0) 6))) rfl) (fun j hj => if_pos hj),
   at_i (hP 94 (b + 94, .inl (cA 0, 6, .inl (fvI (-1) (fun _ => 0) 6))) rfl) (fun j hj => if_pos hj),
   hP 14 (b + 14, GE (g0 D cA b) 41 0 (s00 41 0)) rfl,
   hP 23 (b + 23, GE (g0 D cA b) 41 1 (s00 41 1)) rfl,
   hP 32 (b + 32, GE (g0 D cA b) 41 2 (s00 41 2)) rfl,
   hP 41 (b + 41, GE (g0 D cA b) 41 3 (s00 41 3)) rfl,
   hP 50 (b + 50, GE (g0 D cA b) 41 4 (s00 41 4)) rfl,
   hP 59 (b + 59, GE (g0 D cA b) 41 5 (s00 41 5)) rfl,
   hP 68 (b + 68, GE (g0 D cA b) 41 6 (s00 41 6)) rfl,
   hP 77 (b + 77, GE (g0 D cA b) 41 7 (s00 41 7)) rfl,
   hP 86 (b + 86, GE (g0 D cA b) 41 8 (s00 41 8)) rfl,
   hP 95 (b + 95, GE (g0 D cA b) 41 9 (s00 41 9)) rfl,
   hP 15 (b + 15, GE (g0 D cA b) 42 0 (s00 42 0)) rfl,
   hP 24 (b + 24, GE (g0 D cA b) 42 1 (s00 42 1)) rfl, trivial⟩
theorem al_9 {D : va_G} {cA : Nat → ClassId} {b : Nat} {H : Heap} (hP : va_P D vwCl (Lall (g0 D cA b) b) H) : AllL (fun c => va_at D vwCl (b + off c.1 c.2, GE (g0 D cA b) c.1 c.2 (s00 c.1 c.2)) H) [(42, 2), (42, 3), (42, 4), (42, 5), (42, 6), (42, 7), (42, 8), (42, 9), (43, 0), (43, 1), (43, 2), (43, 3), (43, 4), (43, 5), (43, 6), (43, 7), (43, 8), (43, 9), (44, 0), (45, 0), (46, 0)] :=
  ⟨hP 33 (b + 33, GE (g0 D cA b) 42 2 (s00 42 2)) rfl,
   hP 42 (b + 42, GE (g0 D cA b) 42 3 (s00 42 3)) rfl,
   hP 51 (b + 51, GE (g0 D cA b) 42 4 (s00 42 4)) rfl,
   hP 60 (b + 60, GE (g0 D cA b) 42 5 (s00 42 5)) rfl,
   hP 69 (b + 69, GE (g0 D cA b) 42 6 (s00 42 6)) rfl,
   hP 78 (b + 78, GE (g0 D cA b) 42 7 (s00 42 7)) rfl,
   hP 87 (b + 87, GE (g0 D cA b) 42 8 (s00 42 8)) rfl,
   hP 96 (b + 96, GE (g0 D cA b) 42 9 (s00 42 9)) rfl,
   hP 16 (b + 16, GE (g0 D cA b) 43 0 (s00 43 0)) rfl,
   hP 25 (b + 25, GE (g0 D cA b) 43 1 (s00 43 1)) rfl,
   hP 34 (b + 34, GE (g0 D cA b) 43 2 (s00 43 2)) rfl,
   hP 43 (b + 43, GE (g0 D cA b) 43 3 (s00 43 3)) rfl,
   hP 52 (b + 52, GE (g0 D cA b) 43 4 (s00 43 4)) rfl,
   hP 61 (b + 61, GE (g0 D cA b) 43 5 (s00 43 5)) rfl,
   hP 70 (b + 70, GE (g0 D cA b) 43 6 (s00 43 6)) rfl,
   hP 79 (b + 79, GE (g0 D cA b) 43 7 (s00 43 7)) rfl,
   hP 88 (b + 88, GE (g0 D cA b) 43 8 (s00 43 8)) rfl,
   hP 97 (b + 97, GE (g0 D cA b) 43 9 (s00 43 9)) rfl,
   hP 207 (b + 207, GE (g0 D cA b) 44 0 (s00 44 0)) rfl,
   hP 208 (b + 208, GE (g0 D cA b) 45 0 (s00 45 0)) rfl,
   hP 209 (b + 209, GE (g0 D cA b) 46 0 (s00 46 0)) rfl, trivial⟩
theorem al_10 {D : va_G} {cA : Nat → ClassId} {b : Nat} {H : Heap} (hP : va_P D vwCl (Lall (g0 D cA b) b) H) : AllL (fun c => va_at D vwCl (b + off c.1 c.2, GE (g0 D cA b) c.1 c.2 (s00 c.1 c.2)) H) [(47, 0), (48, 0), (49, 0), (50, 0), (51, 0), (52, 0), (53, 0), (54, 0), (55, 0), (56, 0), (57, 0), (58, 0), (59, 0), (60, 0), (61, 0), (62, 0), (63, 0), (64, 0), (65, 0), (66, 0), (67, 0)] :=
  ⟨hP 210 (b + 210, GE (g0 D cA b) 47 0 (s00 47 0)) rfl,
   hP 211 (b + 211, GE (g0 D cA b) 48 0 (s00 48 0)) rfl,
   hP 212 (b + 212, GE (g0 D cA b) 49 0 (s00 49 0)) rfl,
   hP 213 (b + 213, GE (g0 D cA b) 50 0 (s00 50 0)) rfl,
   hP 214 (b + 214, GE (g0 D cA b) 51 0 (s00 51 0)) rfl,
   hP 215 (b + 215, GE (g0 D cA b) 52 0 (s00 52 0)) rfl,
   hP 216 (b + 216, GE (g0 D cA b) 53 0 (s00 53 0)) rfl,
   hP 217 (b + 217, GE (g0 D cA b) 54 0 (s00 54 0)) rfl,
   hP 218 (b + 218, GE (g0 D cA b) 55 0 (s00 55 0)) rfl,
   hP 219 (b + 219, GE (g0 D cA b) 56 0 (s00 56 0)) rfl,
   hP 220 (b + 220, GE (g0 D cA b) 57 0 (s00 57 0)) rfl,
   hP 221 (b + 221, GE (g0 D cA b) 58 0 (s00 58 0)) rfl,
   hP 222 (b + 222, GE (g0 D cA b) 59 0 (s00 59 0)) rfl,
   hP 223 (b + 223, GE (g0 D cA b) 60 0 (s00 60 0)) rfl,
   hP 224 (b + 224, GE (g0 D cA b) 61 0 (s00 61 0)) rfl,
   hP 225 (b + 225, GE (g0 D cA b) 62 0 (s00 62 0)) rfl,
   hP 226 (b + 226, GE (g0 D cA b) 63 0 (s00 63 0)) rfl,
   hP 227 (b + 227, GE (g0 D cA b) 64 0 (s00 64 0)) rfl,
   hP 228 (b + 228, GE (g0 D cA b) 65 0 (s00 65 0)) rfl,
   hP 229 (b + 229, GE (g0 D cA b) 66 0 (s00 66 0)) rfl,
   hP 230 (b + 230, GE (g0 D cA b) 67 0 (s00 67 0)) rfl, trivial⟩
theorem al_11 {D : va_G} {cA : Nat → ClassId} {b : Nat} {H : Heap} (hP : va_P D vwCl (Lall (g0 D cA b) b) H) : AllL (fun c => va_at D vwCl (b + off c.1 c.2, GE (g0 D cA b) c.1 c.2 (s00 c.1 c.2)) H) [(68, 0), (69, 0), (70, 0), (71, 0), (72, 0), (73, 0), (74, 0), (75, 0), (76, 0), (77, 0), (78, 0), (79, 0), (80, 0), (81, 0), (82, 0), (83, 0), (84, 0), (85, 0), (86, 0), (87, 0), (88, 0)] :=
  ⟨hP 231 (b + 231, GE (g0 D cA b) 68 0 (s00 68 0)) rfl,
   hP 232 (b + 232, GE (g0 D cA b) 69 0 (s00 69 0)) rfl,
   hP 233 (b + 233, GE (g0 D cA b) 70 0 (s00 70 0)) rfl,
   hP 234 (b + 234, GE (g0 D cA b) 71 0 (s00 71 0)) rfl,
   hP 235 (b + 235, GE (g0 D cA b) 72 0 (s00 72 0)) rfl,
   hP 236 (b + 236, GE (g0 D cA b) 73 0 (s00 73 0)) rfl,
   hP 237 (b + 237, GE (g0 D cA b) 74 0 (s00 74 0)) rfl,
   hP 238 (b + 238, GE (g0 D cA b) 75 0 (s00 75 0)) rfl,
   hP 239 (b + 239, GE (g0 D cA b) 76 0 (s00 76 0)) rfl,
   hP 240 (b + 240, GE (g0 D cA b) 77 0 (s00 77 0)) rfl,
   hP 241 (b + 241, GE (g0 D cA b) 78 0 (s00 78 0)) rfl,
   hP 242 (b + 242, GE (g0 D cA b) 79 0 (s00 79 0)) rfl,
   hP 243 (b + 243, GE (g0 D cA b) 80 0 (s00 80 0)) rfl,
   hP 244 (b + 244, GE (g0 D cA b) 81 0 (s00 81 0)) rfl,
   hP 245 (b + 245, GE (g0 D cA b) 82 0 (s00 82 0)) rfl,
   hP 246 (b + 246, GE (g0 D cA b) 83 0 (s00 83 0)) rfl,
   hP 247 (b + 247, GE (g0 D cA b) 84 0 (s00 84 0)) rfl,
   hP 248 (b + 248, GE (g0 D cA b) 85 0 (s00 85 0)) rfl,
   hP 249 (b + 249, GE (g0 D cA b) 86 0 (s00 86 0)) rfl,
   hP 250 (b + 250, GE (g0 D cA b) 87 0 (s00 87 0)) rfl,
   hP 251 (b + 251, GE (g0 D cA b) 88 0 (s00 88 0)) rfl, trivial⟩
theorem allc_eq : allc = [(0, 0), (1, 0), (2, 0), (2, 1), (2, 2), (2, 3), (2, 4), (3, 0), (4, 0), (5, 0), (6, 0), (6, 1), (6, 2), (6, 3), (6, 4), (6, 5), (6, 6), (6, 7), (6, 8), (6, 9), (7, 0)] ++ ([(8, 0), (8, 1), (8, 2), (8, 3), (8, 4), (8, 5), (8, 6), (8, 7), (8, 8), (8, 9), (9, 0), (10, 0), (11, 0), (12, 0), (13, 0), (14, 0), (15, 0), (16, 0), (17, 0), (18, 0), (18, 1)] ++ ([(18, 2), (18, 3), (18, 4), (19, 0), (19, 1), (19, 2), (19, 3), (19, 4), (20, 0), (20, 1), (20, 2), (20, 3), (20, 4), (21, 0), (21, 1), (21, 2), (21, 3), (21, 4), (22, 0), (22, 1), (22, 2)] ++ ([(22, 3), (22, 4), (23, 0), (23, 1), (23, 2), (23, 3), (23, 4), (24, 0), (25, 0), (26, 0), (27, 0), (28, 0), (29, 0), (30, 0), (30, 1), (30, 2), (30, 3), (30, 4), (30, 5), (30, 6), (30, 7)] ++ ([(30, 8), (30, 9), (31, 0), (31, 1), (31, 2), (31, 3), (31, 4), (31, 5), (31, 6), (31, 7), (31, 8), (31, 9), (32, 0), (32, 1), (32, 2), (32, 3), (32, 4), (32, 5), (32, 6), (32, 7), (32, 8)] ++ ([(32, 9), (33, 0), (33, 1), (33, 2), (33, 3), (33, 4), (33, 5), (33, 6), (33, 7), (33, 8), (33, 9), (34, 0), (34, 1), (34, 2), (34, 3), (34, 4), (34, 5), (34, 6), (34, 7), (34, 8), (34, 9)] ++ ([(35, 0), (36, 0), (36, 1), (36, 2), (36, 3), (36, 4), (36, 5), (36, 6), (36, 7), (36, 8), (36, 9), (37, 0), (37, 1), (37, 2), (37, 3), (37, 4), (37, 5), (37, 6), (37, 7), (37, 8), (37, 9)] ++ ([(38, 0), (38, 1), (38, 2), (38, 3), (38, 4), (38, 5), (38, 6), (38, 7), (38, 8), (38, 9), (39, 0), (39, 1), (39, 2), (39, 3), (39, 4), (39, 5), (39, 6), (39, 7), (39, 8), (39, 9), (40, 0)] ++ ([(40, 1), (40, 2), (40, 3), (40, 4), (40, 5), (40, 6), (40, 7), (40, 8), (40, 9), (41, 0), (41, 1), (41, 2), (41, 3), (41, 4), (41, 5), (41, 6), (41, 7), (41, 8), (41, 9), (42, 0), (42, 1)] ++ ([(42, 2), (42, 3), (42, 4), (42, 5), (42, 6), (42, 7), (42, 8), (42, 9), (43, 0), (43, 1), (43, 2), (43, 3), (43, 4), (43, 5), (43, 6), (43, 7), (43, 8), (43, 9), (44, 0), (45, 0), (46, 0)] ++ ([(47, 0), (48, 0), (49, 0), (50, 0), (51, 0), (52, 0), (53, 0), (54, 0), (55, 0), (56, 0), (57, 0), (58, 0), (59, 0), (60, 0), (61, 0), (62, 0), (63, 0), (64, 0), (65, 0), (66, 0), (67, 0)] ++ ([(68, 0), (69, 0), (70, 0), (71, 0), (72, 0), (73, 0), (74, 0), (75, 0), (76, 0), (77, 0), (78, 0), (79, 0), (80, 0), (81, 0), (82, 0), (83, 0), (84, 0), (85, 0), (86, 0), (87, 0), (88, 0)]))))))))))) := by decide +kernel
theorem ws_00 {D : va_G} {cA : Nat → ClassId} {b : Nat} {H : Heap} (hP : va_P D vwCl (Lall (g0 D cA b) b) H) : va_P D vwCl (ws (g0 D cA b) s00) H := by
  intro n q hn
  unfold ws at hn
  rw [List.getElem?_map] at hn
  cases hc : allc[n]? with
  | none => rw [hc] at hn; cases hn
  | some c =>
    rw [hc] at hn
    cases hn
    have hm : c ∈ allc := List.mem_of_getElem? hc
    rw [allc_eq] at hm
    simp only [List.mem_append, or_assoc] at hm
    rcases hm with h | h | h | h | h | h | h | h | h | h | h | h
    · exact (al_0 hP).mem c h
    · exact (al_1 hP).mem c h
    · exact (al_2 hP).mem c h
    · exact (al_3 hP).mem c h
    · exact (al_4 hP).mem c h
    · exact (al_5 hP).mem c h
    · exact (al_6 hP).mem c h
    · exact (al_7 hP).mem c h
    · exact (al_8 hP).mem c h
    · exact (al_9 hP).mem c h
    · exact (al_10 hP).mem c h
    · exact (al_11 hP).mem c h
