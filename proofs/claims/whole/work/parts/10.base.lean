/-! The one world of class and reference: kinds, cells, what each holds as a function of the state. Written by wip/gen/mkbase.py. -/
abbrev Sg : Type := Nat → Nat → Nat → Int32
abbrev GT : Type := va_G × (Nat → Nat → Nat) × (Nat → ClassId)
def row3 (σ : Sg) (k i : Nat) (f : Nat → Int32) : Sg := fun a b => if a = k ∧ b = i then f else σ a b
def up3 (σ : Sg) (k i j : Nat) (x : Int32) : Sg := fun a b c => if a = k ∧ b = i ∧ c = j then x else σ a b c
theorem up3_row (σ : Sg) (k i j : Nat) (x : Int32) : up3 σ k i j x = row3 σ k i (upd (σ k i) j x) := by
  funext a b c
  unfold up3 row3 upd
  by_cases h : a = k ∧ b = i
  · obtain ⟨rfl, rfl⟩ := h
    simp
  · rw [if_neg h, if_neg (fun q => h ⟨q.1, q.2.1⟩)]
def cntL : List Nat := [1, 1, 5, 1, 1, 1, 10, 1, 10, 1, 1, 1, 1, 1, 1, 1, 1, 1, 5, 5, 5, 5, 5, 5, 1, 1, 1, 1, 1, 1, 10, 10, 10, 10, 10, 1, 10, 10, 10, 10, 10, 10, 10, 10, 1, 1, 1, 1, 1, 1, 1, 1, 1, 1, 1, 1, 1, 1, 1, 1, 1, 1, 1, 1, 1, 1, 1, 1, 1, 1, 1, 1, 1, 1, 1, 1, 1, 1, 1, 1, 1, 1, 1, 1, 1, 1, 1, 1, 1]
def nfL : List Nat := [6, 5, 9, 3, 7, 9, 9, 2, 13, 5, 59]
def aLL : List Nat := [0, 0, 0, 0, 0, 0, 0, 0, 0, 0, 0, 0, 0, 0, 12, 12, 12, 144, 12, 12, 12, 200, 200, 200, 5, 70, 70, 8, 88, 30, 7, 7, 7, 35, 5, 200, 7, 6, 6, 6, 6, 6, 7, 7, 12, 12, 12, 144, 10, 10, 10, 10, 10, 60, 60, 70, 20, 20, 20, 20, 200, 5, 5, 5, 60, 60, 60, 60, 1000, 1000, 1000, 1000, 200, 5, 200, 70, 70, 70, 70, 280, 10, 10, 10, 10, 8, 8, 8, 8, 8]
def aTL : List Nat := [0, 0, 0, 0, 0, 0, 0, 0, 0, 0, 0, 0, 0, 0, 0, 0, 0, 0, 0, 0, 0, 0, 0, 0, 0, 0, 0, 0, 0, 0, 0, 0, 0, 0, 0, 0, 0, 0, 0, 0, 0, 0, 0, 0, 0, 0, 0, 0, 0, 0, 0, 0, 0, 0, 0, 0, 0, 0, 0, 0, 1, 0, 0, 0, 0, 0, 0, 0, 0, 0, 0, 0, 0, 0, 2, 0, 0, 0, 0, 0, 0, 0, 0, 2, 0, 0, 0, 0, 0]
def cnt (k : Nat) : Nat := cntL.getD k 0
def nf (k : Nat) : Nat := nfL.getD k 0
def aL (k : Nat) : Nat := aLL.getD k 0
def aT (k : Nat) : Nat := aTL.getD k 0
def fv0 (g : GT) (i j : Nat) (x : Int32) : Value := match j with
  | 0 => .ref (g.2.1 1 0)
  | 1 => .ref (g.2.1 11 i)
  | 4 => .ref (g.2.1 12 i)
  | 5 => .ref (g.2.1 2 x.toNatClampNeg)
  | _ => .int x
def fv1 (g : GT) (i j : Nat) (x : Int32) : Value := match j with
  | 0 => .ref (g.2.1 14 i)
  | 1 => .ref (g.2.1 15 i)
  | 2 => .ref (g.2.1 16 i)
  | 3 => .ref (g.2.1 17 i)
  | _ => .int x
def fv2 (g : GT) (i j : Nat) (x : Int32) : Value := match j with
  | 2 => .ref (g.2.1 18 i)
  | 3 => .ref (g.2.1 19 i)
  | 4 => .ref (g.2.1 20 i)
  | 6 => .ref (g.2.1 21 i)
  | 7 => .ref (g.2.1 22 i)
  | 8 => .ref (g.2.1 23 i)
  | _ => .int x
def fv3 (g : GT) (i j : Nat) (x : Int32) : Value := match j with
  | 0 => .ref (g.2.1 13 i)
  | 1 => .ref (g.2.1 24 i)
  | _ => .int x
def fv4 (g : GT) (i j : Nat) (x : Int32) : Value := match j with
  | 0 => .ref (g.2.1 25 i)
  | 1 => .ref (g.2.1 26 i)
  | 2 => .ref (g.2.1 27 i)
  | 3 => .ref (g.2.1 28 i)
  | 5 => .ref (g.2.1 29 i)
  | _ => .int x
def fv5 (g : GT) (i j : Nat) (x : Int32) : Value := match j with
  | 0 => if x = 0 then .null else .ref (g.2.1 35 0)
  | 3 => if x = 0 then .null else .ref (g.2.1 2 (x.toNatClampNeg - 1))
  | _ => .int x
def fv6 (g : GT) (i j : Nat) (x : Int32) : Value := match j with
  | 0 => .ref (g.2.1 30 i)
  | 1 => .ref (g.2.1 31 i)
  | 2 => .ref (g.2.1 32 i)
  | 3 => .ref (g.2.1 33 i)
  | 4 => .ref (g.2.1 34 i)
  | _ => .int x
def fv7 (g : GT) (i j : Nat) (x : Int32) : Value := match j with
  | 0 => .ref (g.2.1 35 i)
  | _ => .int x
def fv8 (g : GT) (i j : Nat) (x : Int32) : Value := match j with
  | 5 => .ref (g.2.1 36 i)
  | 6 => .ref (g.2.1 37 i)
  | 7 => .ref (g.2.1 38 i)
  | 8 => .ref (g.2.1 39 i)
  | 9 => .ref (g.2.1 40 i)
  | 10 => .ref (g.2.1 41 i)
  | 11 => .ref (g.2.1 42 i)
  | 12 => .ref (g.2.1 43 i)
  | _ => .int x
def fv9 (g : GT) (i j : Nat) (x : Int32) : Value := match j with
  | 0 => .ref (g.2.1 0 0)
  | 1 => .ref (g.2.1 7 0)
  | 2 => .ref (g.2.1 5 0)
  | 3 => .ref (g.2.1 3 0)
  | 4 => .ref (g.2.1 4 0)
  | _ => .int x
def fv10 (g : GT) (i j : Nat) (x : Int32) : Value := match j with
  | 3 => .ref (g.2.1 44 i)
  | 4 => .ref (g.2.1 45 i)
  | 5 => .ref (g.2.1 46 i)
  | 6 => .ref (g.2.1 47 i)
  | 7 => .ref (g.2.1 48 i)
  | 8 => .ref (g.2.1 49 i)
  | 9 => .ref (g.2.1 50 i)
  | 10 => .ref (g.2.1 51 i)
  | 11 => .ref (g.2.1 52 i)
  | 12 => .ref (g.2.1 53 i)
  | 13 => .ref (g.2.1 54 i)
  | 14 => .ref (g.2.1 55 i)
  | 15 => .ref (g.2.1 56 i)
  | 16 => .ref (g.2.1 57 i)
  | 17 => .ref (g.2.1 58 i)
  | 18 => .ref (g.2.1 59 i)
  | 20 => .ref (g.2.1 60 i)
  | 24 => .ref (g.2.1 61 i)
  | 25 => .ref (g.2.1 62 i)
  | 26 => .ref (g.2.1 63 i)
  | 27 => .ref (g.2.1 64 i)
  | 28 => .ref (g.2.1 65 i)
  | 29 => .ref (g.2.1 66 i)
  | 30 => .ref (g.2.1 67 i)
  | 31 => .ref (g.2.1 68 i)
  | 32 => .ref (g.2.1 69 i)
  | 33 => .ref (g.2.1 70 i)
  | 34 => .ref (g.2.1 71 i)
  | 35 => .ref (g.2.1 72 i)
  | 41 => .ref (g.2.1 73 i)
  | 42 => .ref (g.2.1 74 i)
  | 43 => .ref (g.2.1 75 i)
  | 44 => .ref (g.2.1 76 i)
  | 45 => .ref (g.2.1 77 i)
  | 46 => .ref (g.2.1 78 i)
  | 47 => .ref (g.2.1 79 i)
  | 48 => .ref (g.2.1 80 i)
  | 49 => .ref (g.2.1 81 i)
  | 50 => .ref (g.2.1 82 i)
  | 51 => .ref (g.2.1 83 i)
  | 53 => .ref (g.2.1 84 i)
  | 54 => .ref (g.2.1 85 i)
  | 56 => .ref (g.2.1 86 i)
  | 57 => .ref (g.2.1 87 i)
  | 58 => .ref (g.2.1 88 i)
  | _ => .int x
def fvA (g : GT) (k i j : Nat) (x : Int32) : Value := match k with
  | 0 => fv0 g i j x
  | 1 => fv1 g i j x
  | 2 => fv2 g i j x
  | 3 => fv3 g i j x
  | 4 => fv4 g i j x
  | 5 => fv5 g i j x
  | 6 => fv6 g i j x
  | 7 => fv7 g i j x
  | 8 => fv8 g i j x
  | 9 => fv9 g i j x
  | _ => fv10 g i j x
def refA (f : Nat → Option Nat) : vp_A := (0, .inr (.inr (.inr (.inr f))))
def GE (g : GT) (k i : Nat) (r : Nat → Int32) : va_E :=
  if k < 11 then .inr (k, (List.range (nf k)).map (fun j => fvA g k i j (r j)))
  else if k = 11 then .inl (g.2.2 3, 10, .inr (.inr (.inr (.inr (fun j => some (g.2.1 8 j))))))
  else if k = 12 then .inl (g.2.2 5, 4, .inr (.inr (.inr (.inr (fun j => some (g.2.1 2 (r j).toNatClampNeg))))))
  else if k = 13 then .inl (g.2.2 4, 10, .inr (.inr (.inr (.inr (fun j => some (g.2.1 6 j))))))
  else .inl (g.2.2 (aT k), aL k, .inl r)
theorem GE_obj (g : GT) {k : Nat} (i : Nat) (r : Nat → Int32) (h : k < 11) : GE g k i r = .inr (k, (List.range (nf k)).map (fun j => fvA g k i j (r j))) := if_pos h
theorem GE_arr (g : GT) {k : Nat} (i : Nat) (r : Nat → Int32) (h : 14 ≤ k) : GE g k i r = .inl (g.2.2 (aT k), aL k, .inl r) := by
  unfold GE
  rw [if_neg (by omega), if_neg (by omega), if_neg (by omega), if_neg (by omega)]
def allc : List (Nat × Nat) := (List.range 89).flatMap (fun k => (List.range (cnt k)).map (fun i => (k, i)))
theorem allc_nd : allc.Nodup := by decide +kernel
theorem cnt_out {k : Nat} (h : 89 ≤ k) : cnt k = 0 := by
  unfold cnt
  rw [List.getD_eq_getElem?_getD, List.getElem?_eq_none (by simpa [cntL] using h)]
  rfl
theorem allc_mem {k i : Nat} (h : i < cnt k) : (k, i) ∈ allc := by
  have hk : k < 89 := Nat.lt_of_not_le fun q => by rw [cnt_out q] at h; omega
  exact List.mem_flatMap.mpr ⟨k, List.mem_range.mpr hk, List.mem_map.mpr ⟨i, List.mem_range.mpr h, rfl⟩⟩
theorem allc_lt {k i : Nat} (h : (k, i) ∈ allc) : i < cnt k := by
  obtain ⟨k', -, h⟩ := List.mem_flatMap.mp h
  obtain ⟨i', h1, h2⟩ := List.mem_map.mp h
  cases h2
  exact List.mem_range.mp h1
def tys (g : GT) : List (ClassId × FieldType) := [(g.2.2 0, .int), (g.2.2 1, .byte), (g.2.2 2, .boolean), (g.2.2 3, .object "OceanMail$Voyage"), (g.2.2 4, .object "OceanMail$Sailing"), (g.2.2 5, .object "OceanMail$Contract")]
def ws (g : GT) (σ : Sg) : va_W := allc.map (fun c => (g.2.1 c.1 c.2, GE g c.1 c.2 (σ c.1 c.2)))
def GI (g : GT) : Prop := ∀ c d : Nat × Nat, c ∈ allc → d ∈ allc → g.2.1 c.1 c.2 = g.2.1 d.1 d.2 → c = d
def GA (g : GT) : Nat → Prop := fun q => ∃ c : Nat × Nat, c ∈ allc ∧ q = g.2.1 c.1 c.2
def nests : List (String × Nat × MethodName × String) := [("OceanMail$Voyage", 58, ⟨"OceanMail", "hoursFor", "(II)I"⟩, "OceanMail"), ("OceanMail$Reader", 98, ⟨"OceanMail$Contract", "isComparison", "(I)Z"⟩, "OceanMail"), ("OceanMail$Chart", 28, ⟨"OceanMail", "monthOf", "(I)I"⟩, "OceanMail"), ("OceanMail$Course", 140, ⟨"OceanMail", "monthOf", "(I)I"⟩, "OceanMail"), ("OceanMail$Course", 182, ⟨"OceanMail", "hoursFor", "(II)I"⟩, "OceanMail")]
def NW (U : State) : Prop := ∀ q ∈ nests, va_Nw (.methodLinkNest q.1 q.2.1 q.2.2.1 q.2.2.2) U
theorem NW.warm {s U : State} (hW : s.WarmedH U.vm) (h : NW s) : NW U := fun q hq => va_Nw.warmM hW (h q hq)
theorem NW.same {s U : State} (e : s.vm = U.vm) (h : NW s) : NW U := fun q hq => va_Nw.same rfl e (h q hq)
def GW (g : GT) (σ : Sg) (U : State) : Prop := va_P g.1 vwCl (ws g σ) U.heap ∧ va_K g.1 vwCl (tys g) U ∧ NW U
theorem ws_at (g : GT) (σ : Sg) {k i : Nat} (h : i < cnt k) : ∃ n : Nat, (ws g σ)[n]? = some (g.2.1 k i, GE g k i (σ k i)) ∧ allc[n]? = some (k, i) := by
  obtain ⟨n, hn⟩ := List.getElem?_of_mem (allc_mem h)
  exact ⟨n, by unfold ws; rw [List.getElem?_map, hn]; rfl, hn⟩
theorem nd_pos {α : Type} : ∀ {l : List α}, l.Nodup → ∀ {a b : Nat} {x : α}, l[a]? = some x → l[b]? = some x → a = b := by
  intro l
  induction l with
  | nil => intro _ a b x h; simp at h
  | cons y t ih =>
    intro hn a b x h1 h2
    rw [List.nodup_cons] at hn
    cases a with
    | zero =>
      cases b with
      | zero => rfl
      | succ b =>
        simp at h1 h2
        subst h1
        exact absurd (List.mem_of_getElem? h2) hn.1
    | succ a =>
      cases b with
      | zero =>
        simp at h1 h2
        subst h2
        exact absurd (List.mem_of_getElem? h1) hn.1
      | succ b =>
        simp at h1 h2
        rw [ih hn.2 h1 h2]
theorem ws_set (g : GT) (σ : Sg) {k i n : Nat} (hn : allc[n]? = some (k, i)) (f : Nat → Int32) : (ws g σ).set n (g.2.1 k i, GE g k i f) = ws g (row3 σ k i f) := by
  unfold ws
  apply List.ext_getElem?
  intro j
  rw [List.getElem?_set, List.getElem?_map, List.getElem?_map]
  by_cases hj : n = j
  · subst hj
    have hl : n < allc.length := (List.getElem?_eq_some_iff.mp hn).1
    rw [if_pos rfl, if_pos (by rw [List.length_map]; exact hl), hn]
    simp [row3]
  · rw [if_neg hj]
    cases hc : allc[j]? with
    | none => rfl
    | some c =>
      have hne : ¬ (c.1 = k ∧ c.2 = i) := by
        rintro ⟨h1, h2⟩
        apply hj
        refine nd_pos allc_nd hn ?_
        rw [hc, ← h1, ← h2]
      show some (_, GE g c.1 c.2 (σ c.1 c.2)) = some (_, GE g c.1 c.2 (row3 σ k i f c.1 c.2))
      rw [show row3 σ k i f c.1 c.2 = σ c.1 c.2 from if_neg hne]
theorem ws_D {g : GT} {A : Nat → Prop} (hI : GI g) (hA : ∀ q, GA g q → A q) (σ : Sg) : va_D A (ws g σ) := by
  have key : ∀ (n : Nat) (p : Nat × va_E), (ws g σ)[n]? = some p → ∃ c, allc[n]? = some c ∧ p.1 = g.2.1 c.1 c.2 := by
    intro n p h
    unfold ws at h
    rw [List.getElem?_map] at h
    cases hc : allc[n]? with
    | none => rw [hc] at h; cases h
    | some c => rw [hc] at h; cases h; exact ⟨c, rfl, rfl⟩
  refine ⟨fun i j p q h1 h2 e => ?_, fun n p h => ?_⟩
  · obtain ⟨c, c1, c2⟩ := key i p h1
    obtain ⟨d, d1, d2⟩ := key j q h2
    have hcd : c = d := hI c d (List.mem_of_getElem? c1) (List.mem_of_getElem? d1) (by rw [← c2, ← d2]; exact e)
    subst hcd
    exact nd_pos allc_nd c1 d1
  · obtain ⟨c, c1, c2⟩ := key n p h
    exact hA _ ⟨c, List.mem_of_getElem? c1, c2⟩
def gtb : List Cond := lw_tbl.filter goodWord
theorem tbl_good : GoodIn gtb gtb := fun w hw => ⟨hw, good_of_word (List.mem_filter.mp hw).2⟩
theorem gtb_in : ∀ w ∈ gtb, w ∈ lw_tbl := fun w hw => (List.mem_filter.mp hw).1
theorem in_tbl (n : Nat) {w : Cond} (h : tables_1[n]? = some w) (hg : goodWord w = true) : w ∈ gtb := List.mem_filter.mpr ⟨List.mem_append_right _ (List.mem_of_getElem? h), hg⟩
theorem in_prv (n : Nat) {w : Cond} (h : (k2_sels lw_privs)[n]? = some w) (hg : goodWord w = true) : w ∈ gtb := List.mem_filter.mpr ⟨List.mem_append_left _ (List.mem_of_getElem? h), hg⟩
def gi (x : Int32) (n : Nat) : Bool := decide (¬ x < 0) && decide (x.toNatClampNeg < n)
def chk {ρ : Type} (b : Bool) (o : Option ρ) : Option ρ := if b = true then o else none
theorem chk_some {ρ : Type} {b : Bool} {o : Option ρ} {r : ρ} (h : chk b o = some r) : b = true ∧ o = some r := by
  unfold chk at h
  by_cases hb : b = true
  · rw [if_pos hb] at h; exact ⟨hb, h⟩
  · rw [if_neg hb] at h; cases h
theorem gi_in {x : Int32} {n : Nat} (h : gi x n = true) : vp_in x n := by
  unfold gi at h
  simp only [Bool.and_eq_true, decide_eq_true_eq] at h
  rintro (q | q)
  · exact h.1 q
  · omega
theorem gi_lt {x : Int32} {n : Nat} (h : gi x n = true) : x.toNatClampNeg < n := by
  unfold gi at h
  simp only [Bool.and_eq_true, decide_eq_true_eq] at h
  exact h.2
