/-! The judgement Im: a machine configuration carries out the computation o; a rule an instruction. -/
abbrev Cx : Type := Program × Launch × Env × Room × State × MethodId × Array Value × List Frame × Method × Code × (Nat → Prop) × Nat × Nat
def Fx (X : Cx) (g : GT) (own : String) (cc : ByteArray) (nL fr lo : Nat) : Prop := match X with
  | (p, _, _, R, s, m, args, _, _, c, A, cells, slots) => (p.tables.exec = Jvm.exec ∧ c.code = cc ∧ c.maxLocals = nL ∧ s.vm.findClass own = some m.cls ∧ ∀ w ∈ gtb, w.before args s = true) ∧ (fr ≤ R.frames ∧ lo ≤ R.locals ∧ cells ≤ R.cells ∧ slots ≤ R.slots) ∧ GI g ∧ (∀ q, GA g q → A q) ∧ va_K g.1 vwCl (tys g) s ∧ NW s
def Im {ρ : Type} (X : Cx) (g : GT) (nL : Nat) (Qz : ρ → State → Prop) (σ : Sg) (pc : Nat) (lv : List (Nat × Value)) (st : List Value) (o : Option ρ) : Prop := match X with
  | (p, l, e, R, s, m, args, below, meth, c, A, cells, slots) => ∀ r : ρ, o = some r → ∀ (H : Heap) (locs : List Loc) (ls : Array Slot), va_P g.1 vwCl (ws g σ) H → va_S A s.heap H locs → lv_has ls nL lv → W p l e R s m args below meth c H locs cells slots (Qz r) (F0 m pc ls st)
section RULES
variable {ρ : Type} {X : Cx} {g : GT} {own : String} {cc : ByteArray} {nL fr lo : Nat} {Qz : ρ → State → Prop} {σ : Sg} {pc : Nat} {lv : List (Nat × Value)} {st : List Value} {o oa ob : Option ρ}
theorem im_none : Im X g nL Qz σ pc lv st (none : Option ρ) := by
  obtain ⟨p, l, e, R, s, m, args, below, meth, c, A, cells, slots⟩ := X
  intro r hr
  cases hr
theorem im_chk {b : Bool} (k : b = true → Im X g nL Qz σ pc lv st o) : Im X g nL Qz σ pc lv st (chk b o) := by
  obtain ⟨p, l, e, R, s, m, args, below, meth, c, A, cells, slots⟩ := X
  intro r hr
  obtain ⟨hb, ho⟩ := chk_some hr
  exact k hb r ho
theorem im_ite {P : Prop} [Decidable P] (kt : P → Im X g nL Qz σ pc lv st oa) (kf : ¬ P → Im X g nL Qz σ pc lv st ob) : Im X g nL Qz σ pc lv st (if P then oa else ob) := by
  by_cases h : P
  · rw [if_pos h]; exact kt h
  · rw [if_neg h]; exact kf h
theorem im_sub {lv' : List (Nat × Value)} (ks : List Nat) (hl : lv_pick lv ks = lv') (k : Im X g nL Qz σ pc lv' st o) : Im X g nL Qz σ pc lv st o := by
  obtain ⟨p, l, e, R, s, m, args, below, meth, c, A, cells, slots⟩ := X
  intro r hr H locs ls hP hS h
  exact k r hr H locs ls hP hS (lv_sub h ks hl)
theorem im_iconst (hF : Fx X g own cc nL fr lo) {n : Int} {v : Int32} (d : decode cc pc = .ok (.iconst n, 1)) (hv : Int32.ofInt n = v) (k : Im X g nL Qz σ (pc + 1) lv (.int v :: st) o) : Im X g nL Qz σ pc lv (st) o := by
  obtain ⟨p, l, e, R, s, m, args, below, meth, c, A, cells, slots⟩ := X
  obtain ⟨⟨hx, hb, hml, hown, hts⟩, hR, hI, hA, hK, hN⟩ := hF
  intro r hr H locs ls hP hS hl
  exact lv_iconst hx hb d hv (k r hr H locs ls hP hS hl)
theorem im_bipush (hF : Fx X g own cc nL fr lo) {n : Int} {v : Int32} (d : decode cc pc = .ok (.bipush n, 2)) (hv : (Int8.ofInt n).toInt32 = v) (k : Im X g nL Qz σ (pc + 2) lv (.int v :: st) o) : Im X g nL Qz σ pc lv (st) o := by
  obtain ⟨p, l, e, R, s, m, args, below, meth, c, A, cells, slots⟩ := X
  obtain ⟨⟨hx, hb, hml, hown, hts⟩, hR, hI, hA, hK, hN⟩ := hF
  intro r hr H locs ls hP hS hl
  exact lv_bipush hx hb d hv (k r hr H locs ls hP hS hl)
theorem im_sipush (hF : Fx X g own cc nL fr lo) {n : Int} {v : Int32} (d : decode cc pc = .ok (.sipush n, 3)) (hv : (Int16.ofInt n).toInt32 = v) (k : Im X g nL Qz σ (pc + 3) lv (.int v :: st) o) : Im X g nL Qz σ pc lv (st) o := by
  obtain ⟨p, l, e, R, s, m, args, below, meth, c, A, cells, slots⟩ := X
  obtain ⟨⟨hx, hb, hml, hown, hts⟩, hR, hI, hA, hK, hN⟩ := hF
  intro r hr H locs ls hP hS hl
  exact lv_sipush hx hb d hv (k r hr H locs ls hP hS hl)
theorem im_lconst (hF : Fx X g own cc nL fr lo) {n : Fin 2} {v : Int64} (d : decode cc pc = .ok (.lconst n, 1)) (hv : Int64.ofNat (n : Nat) = v) (k : Im X g nL Qz σ (pc + 1) lv (.long v :: st) o) : Im X g nL Qz σ pc lv (st) o := by
  obtain ⟨p, l, e, R, s, m, args, below, meth, c, A, cells, slots⟩ := X
  obtain ⟨⟨hx, hb, hml, hown, hts⟩, hR, hI, hA, hK, hN⟩ := hF
  intro r hr H locs ls hP hS hl
  exact lv_lconst hx hb d hv (k r hr H locs ls hP hS hl)
theorem im_dconst0 (hF : Fx X g own cc nL fr lo)  (d : decode cc pc = .ok (.dconst 0, 1))  (k : Im X g nL Qz σ (pc + 1) lv (.double FP.dconst0 :: st) o) : Im X g nL Qz σ pc lv (st) o := by
  obtain ⟨p, l, e, R, s, m, args, below, meth, c, A, cells, slots⟩ := X
  obtain ⟨⟨hx, hb, hml, hown, hts⟩, hR, hI, hA, hK, hN⟩ := hF
  intro r hr H locs ls hP hS hl
  exact lv_dconst0 hx hb d  (k r hr H locs ls hP hS hl)
theorem im_iload_n (hF : Fx X g own cc nL fr lo) {kf : Fin 4} {x : Int32} (d : decode cc pc = .ok (.iload_n kf, 1)) (q : Nat) (hq : lv[q]? = some ((kf : Nat), .int x)) (k : Im X g nL Qz σ (pc + 1) lv (.int x :: st) o) : Im X g nL Qz σ pc lv (st) o := by
  obtain ⟨p, l, e, R, s, m, args, below, meth, c, A, cells, slots⟩ := X
  obtain ⟨⟨hx, hb, hml, hown, hts⟩, hR, hI, hA, hK, hN⟩ := hF
  intro r hr H locs ls hP hS hl
  exact lv_iload_n hx hb d rfl (lv_at hl q hq) (k r hr H locs ls hP hS hl)
theorem im_iload (hF : Fx X g own cc nL fr lo) {i : Nat} {x : Int32} (d : decode cc pc = .ok (.iload i, 2)) (q : Nat) (hq : lv[q]? = some (i, .int x)) (k : Im X g nL Qz σ (pc + 2) lv (.int x :: st) o) : Im X g nL Qz σ pc lv (st) o := by
  obtain ⟨p, l, e, R, s, m, args, below, meth, c, A, cells, slots⟩ := X
  obtain ⟨⟨hx, hb, hml, hown, hts⟩, hR, hI, hA, hK, hN⟩ := hF
  intro r hr H locs ls hP hS hl
  exact lv_iload hx hb d (lv_at hl q hq) (k r hr H locs ls hP hS hl)
theorem im_lload_n (hF : Fx X g own cc nL fr lo) {kf : Fin 4} {x : Int64} (d : decode cc pc = .ok (.lload_n kf, 1)) (q : Nat) (hq : lv[q]? = some ((kf : Nat), .long x)) (k : Im X g nL Qz σ (pc + 1) lv (.long x :: st) o) : Im X g nL Qz σ pc lv (st) o := by
  obtain ⟨p, l, e, R, s, m, args, below, meth, c, A, cells, slots⟩ := X
  obtain ⟨⟨hx, hb, hml, hown, hts⟩, hR, hI, hA, hK, hN⟩ := hF
  intro r hr H locs ls hP hS hl
  exact lv_lload_n hx hb d rfl (lv_at hl q hq) (k r hr H locs ls hP hS hl)
theorem im_lload (hF : Fx X g own cc nL fr lo) {i : Nat} {x : Int64} (d : decode cc pc = .ok (.lload i, 2)) (q : Nat) (hq : lv[q]? = some (i, .long x)) (k : Im X g nL Qz σ (pc + 2) lv (.long x :: st) o) : Im X g nL Qz σ pc lv (st) o := by
  obtain ⟨p, l, e, R, s, m, args, below, meth, c, A, cells, slots⟩ := X
  obtain ⟨⟨hx, hb, hml, hown, hts⟩, hR, hI, hA, hK, hN⟩ := hF
  intro r hr H locs ls hP hS hl
  exact lv_lload hx hb d (lv_at hl q hq) (k r hr H locs ls hP hS hl)
theorem im_dload_n (hF : Fx X g own cc nL fr lo) {kf : Fin 4} {x : UInt64} (d : decode cc pc = .ok (.dload_n kf, 1)) (q : Nat) (hq : lv[q]? = some ((kf : Nat), .double x)) (k : Im X g nL Qz σ (pc + 1) lv (.double x :: st) o) : Im X g nL Qz σ pc lv (st) o := by
  obtain ⟨p, l, e, R, s, m, args, below, meth, c, A, cells, slots⟩ := X
  obtain ⟨⟨hx, hb, hml, hown, hts⟩, hR, hI, hA, hK, hN⟩ := hF
  intro r hr H locs ls hP hS hl
  exact lv_dload_n hx hb d rfl (lv_at hl q hq) (k r hr H locs ls hP hS hl)
theorem im_dload (hF : Fx X g own cc nL fr lo) {i : Nat} {x : UInt64} (d : decode cc pc = .ok (.dload i, 2)) (q : Nat) (hq : lv[q]? = some (i, .double x)) (k : Im X g nL Qz σ (pc + 2) lv (.double x :: st) o) : Im X g nL Qz σ pc lv (st) o := by
  obtain ⟨p, l, e, R, s, m, args, below, meth, c, A, cells, slots⟩ := X
  obtain ⟨⟨hx, hb, hml, hown, hts⟩, hR, hI, hA, hK, hN⟩ := hF
  intro r hr H locs ls hP hS hl
  exact lv_dload hx hb d (lv_at hl q hq) (k r hr H locs ls hP hS hl)
theorem im_aload_n (hF : Fx X g own cc nL fr lo) {kf : Fin 4} {x : Nat} (d : decode cc pc = .ok (.aload_n kf, 1)) (q : Nat) (hq : lv[q]? = some ((kf : Nat), .ref x)) (k : Im X g nL Qz σ (pc + 1) lv (.ref x :: st) o) : Im X g nL Qz σ pc lv (st) o := by
  obtain ⟨p, l, e, R, s, m, args, below, meth, c, A, cells, slots⟩ := X
  obtain ⟨⟨hx, hb, hml, hown, hts⟩, hR, hI, hA, hK, hN⟩ := hF
  intro r hr H locs ls hP hS hl
  exact lv_aload_n hx hb d rfl (lv_at hl q hq) (k r hr H locs ls hP hS hl)
theorem im_aload (hF : Fx X g own cc nL fr lo) {i : Nat} {x : Nat} (d : decode cc pc = .ok (.aload i, 2)) (q : Nat) (hq : lv[q]? = some (i, .ref x)) (k : Im X g nL Qz σ (pc + 2) lv (.ref x :: st) o) : Im X g nL Qz σ pc lv (st) o := by
  obtain ⟨p, l, e, R, s, m, args, below, meth, c, A, cells, slots⟩ := X
  obtain ⟨⟨hx, hb, hml, hown, hts⟩, hR, hI, hA, hK, hN⟩ := hF
  intro r hr H locs ls hP hS hl
  exact lv_aload hx hb d (lv_at hl q hq) (k r hr H locs ls hP hS hl)
theorem im_istore_n (hF : Fx X g own cc nL fr lo) {kf : Fin 4} {i : Nat} {x : Int32} {lv' : List (Nat × Value)} (d : decode cc pc = .ok (.istore_n kf, 1)) (hi : (kf : Nat) = i) (hn : i < nL) (hl : (i, Value.int x) :: lv.filter (fun q => !(q.1 == i) && !(q.1 + 1 == i && q.2.category == 2)) = lv') (k : Im X g nL Qz σ (pc + 1) lv' st o) : Im X g nL Qz σ pc lv (.int x :: st) o := by
  obtain ⟨p, l, e, R, s, m, args, below, meth, c, A, cells, slots⟩ := X
  obtain ⟨⟨hx, hb, hml, hown, hts⟩, hR, hI, hA, hK, hN⟩ := hF
  intro r hr H locs ls hP hS h9
  exact lv_istore_n hx hb d hi h9 hn hl (fun ls hl => k r hr H locs ls hP hS hl)
theorem im_istore (hF : Fx X g own cc nL fr lo) {i : Nat} {x : Int32} {lv' : List (Nat × Value)} (d : decode cc pc = .ok (.istore i, 2)) (hn : i < nL) (hl : (i, Value.int x) :: lv.filter (fun q => !(q.1 == i) && !(q.1 + 1 == i && q.2.category == 2)) = lv') (k : Im X g nL Qz σ (pc + 2) lv' st o) : Im X g nL Qz σ pc lv (.int x :: st) o := by
  obtain ⟨p, l, e, R, s, m, args, below, meth, c, A, cells, slots⟩ := X
  obtain ⟨⟨hx, hb, hml, hown, hts⟩, hR, hI, hA, hK, hN⟩ := hF
  intro r hr H locs ls hP hS h9
  exact lv_istore hx hb d h9 hn hl (fun ls hl => k r hr H locs ls hP hS hl)
theorem im_astore_n (hF : Fx X g own cc nL fr lo) {kf : Fin 4} {i : Nat} {x : Nat} {lv' : List (Nat × Value)} (d : decode cc pc = .ok (.astore_n kf, 1)) (hi : (kf : Nat) = i) (hn : i < nL) (hl : (i, Value.ref x) :: lv.filter (fun q => !(q.1 == i) && !(q.1 + 1 == i && q.2.category == 2)) = lv') (k : Im X g nL Qz σ (pc + 1) lv' st o) : Im X g nL Qz σ pc lv (.ref x :: st) o := by
  obtain ⟨p, l, e, R, s, m, args, below, meth, c, A, cells, slots⟩ := X
  obtain ⟨⟨hx, hb, hml, hown, hts⟩, hR, hI, hA, hK, hN⟩ := hF
  intro r hr H locs ls hP hS h9
  exact lv_astore_n hx hb d hi h9 hn hl (fun ls hl => k r hr H locs ls hP hS hl)
theorem im_astore (hF : Fx X g own cc nL fr lo) {i : Nat} {x : Nat} {lv' : List (Nat × Value)} (d : decode cc pc = .ok (.astore i, 2)) (hn : i < nL) (hl : (i, Value.ref x) :: lv.filter (fun q => !(q.1 == i) && !(q.1 + 1 == i && q.2.category == 2)) = lv') (k : Im X g nL Qz σ (pc + 2) lv' st o) : Im X g nL Qz σ pc lv (.ref x :: st) o := by
  obtain ⟨p, l, e, R, s, m, args, below, meth, c, A, cells, slots⟩ := X
  obtain ⟨⟨hx, hb, hml, hown, hts⟩, hR, hI, hA, hK, hN⟩ := hF
  intro r hr H locs ls hP hS h9
  exact lv_astore hx hb d h9 hn hl (fun ls hl => k r hr H locs ls hP hS hl)
theorem im_lstore_n (hF : Fx X g own cc nL fr lo) {kf : Fin 4} {i : Nat} {x : Int64} {lv' : List (Nat × Value)} (d : decode cc pc = .ok (.lstore_n kf, 1)) (hi : (kf : Nat) = i) (hn : i + 1 < nL) (hl : (i, Value.long x) :: lv.filter (fun q => !(q.1 == i) && (!(q.1 == i + 1) && !(q.1 + 1 == i && q.2.category == 2))) = lv') (k : Im X g nL Qz σ (pc + 1) lv' st o) : Im X g nL Qz σ pc lv (.long x :: st) o := by
  obtain ⟨p, l, e, R, s, m, args, below, meth, c, A, cells, slots⟩ := X
  obtain ⟨⟨hx, hb, hml, hown, hts⟩, hR, hI, hA, hK, hN⟩ := hF
  intro r hr H locs ls hP hS h9
  exact lv_lstore_n hx hb d hi h9 hn hl (fun ls hl => k r hr H locs ls hP hS hl)
theorem im_lstore (hF : Fx X g own cc nL fr lo) {i : Nat} {x : Int64} {lv' : List (Nat × Value)} (d : decode cc pc = .ok (.lstore i, 2)) (hn : i + 1 < nL) (hl : (i, Value.long x) :: lv.filter (fun q => !(q.1 == i) && (!(q.1 == i + 1) && !(q.1 + 1 == i && q.2.category == 2))) = lv') (k : Im X g nL Qz σ (pc + 2) lv' st o) : Im X g nL Qz σ pc lv (.long x :: st) o := by
  obtain ⟨p, l, e, R, s, m, args, below, meth, c, A, cells, slots⟩ := X
  obtain ⟨⟨hx, hb, hml, hown, hts⟩, hR, hI, hA, hK, hN⟩ := hF
  intro r hr H locs ls hP hS h9
  exact lv_lstore hx hb d h9 hn hl (fun ls hl => k r hr H locs ls hP hS hl)
theorem im_dstore (hF : Fx X g own cc nL fr lo) {i : Nat} {x : UInt64} {lv' : List (Nat × Value)} (d : decode cc pc = .ok (.dstore i, 2)) (hn : i + 1 < nL) (hl : (i, Value.double x) :: lv.filter (fun q => !(q.1 == i) && (!(q.1 == i + 1) && !(q.1 + 1 == i && q.2.category == 2))) = lv') (k : Im X g nL Qz σ (pc + 2) lv' st o) : Im X g nL Qz σ pc lv (.double x :: st) o := by
  obtain ⟨p, l, e, R, s, m, args, below, meth, c, A, cells, slots⟩ := X
  obtain ⟨⟨hx, hb, hml, hown, hts⟩, hR, hI, hA, hK, hN⟩ := hF
  intro r hr H locs ls hP hS h9
  exact lv_dstore hx hb d h9 hn hl (fun ls hl => k r hr H locs ls hP hS hl)
theorem im_iinc (hF : Fx X g own cc nL fr lo) {i : Nat} {n : Int} {x v : Int32} {lv' : List (Nat × Value)} (d : decode cc pc = .ok (.iinc i n, 3)) (q : Nat) (hq : lv[q]? = some (i, .int x)) (hv : x + Int32.ofInt n = v) (hn : i < nL) (hl : (i, Value.int v) :: lv.filter (fun q => !(q.1 == i) && !(q.1 + 1 == i && q.2.category == 2)) = lv') (k : Im X g nL Qz σ (pc + 3) lv' st o) : Im X g nL Qz σ pc lv st o := by
  obtain ⟨p, l, e, R, s, m, args, below, meth, c, A, cells, slots⟩ := X
  obtain ⟨⟨hx, hb, hml, hown, hts⟩, hR, hI, hA, hK, hN⟩ := hF
  intro r hr H locs ls hP hS h9
  exact lv_iinc hx hb d h9 hq hv hn hl (fun ls hl => k r hr H locs ls hP hS hl)
theorem im_iadd (hF : Fx X g own cc nL fr lo) {a b : Int32} (d : decode cc pc = .ok (.iadd, 1))  (k : Im X g nL Qz σ (pc + 1) lv (.int (a + b) :: st) o) : Im X g nL Qz σ pc lv (.int b :: .int a :: st) o := by
  obtain ⟨p, l, e, R, s, m, args, below, meth, c, A, cells, slots⟩ := X
  obtain ⟨⟨hx, hb, hml, hown, hts⟩, hR, hI, hA, hK, hN⟩ := hF
  intro r hr H locs ls hP hS hl
  exact lv_iadd hx hb d  (k r hr H locs ls hP hS hl)
theorem im_isub (hF : Fx X g own cc nL fr lo) {a b : Int32} (d : decode cc pc = .ok (.isub, 1))  (k : Im X g nL Qz σ (pc + 1) lv (.int (a - b) :: st) o) : Im X g nL Qz σ pc lv (.int b :: .int a :: st) o := by
  obtain ⟨p, l, e, R, s, m, args, below, meth, c, A, cells, slots⟩ := X
  obtain ⟨⟨hx, hb, hml, hown, hts⟩, hR, hI, hA, hK, hN⟩ := hF
  intro r hr H locs ls hP hS hl
  exact lv_isub hx hb d  (k r hr H locs ls hP hS hl)
theorem im_imul (hF : Fx X g own cc nL fr lo) {a b : Int32} (d : decode cc pc = .ok (.imul, 1))  (k : Im X g nL Qz σ (pc + 1) lv (.int (a * b) :: st) o) : Im X g nL Qz σ pc lv (.int b :: .int a :: st) o := by
  obtain ⟨p, l, e, R, s, m, args, below, meth, c, A, cells, slots⟩ := X
  obtain ⟨⟨hx, hb, hml, hown, hts⟩, hR, hI, hA, hK, hN⟩ := hF
  intro r hr H locs ls hP hS hl
  exact lv_imul hx hb d  (k r hr H locs ls hP hS hl)
theorem im_iand (hF : Fx X g own cc nL fr lo) {a b : Int32} (d : decode cc pc = .ok (.iand, 1))  (k : Im X g nL Qz σ (pc + 1) lv (.int (a &&& b) :: st) o) : Im X g nL Qz σ pc lv (.int b :: .int a :: st) o := by
  obtain ⟨p, l, e, R, s, m, args, below, meth, c, A, cells, slots⟩ := X
  obtain ⟨⟨hx, hb, hml, hown, hts⟩, hR, hI, hA, hK, hN⟩ := hF
  intro r hr H locs ls hP hS hl
  exact lv_iand hx hb d  (k r hr H locs ls hP hS hl)
theorem im_ior (hF : Fx X g own cc nL fr lo) {a b : Int32} (d : decode cc pc = .ok (.ior, 1))  (k : Im X g nL Qz σ (pc + 1) lv (.int (a ||| b) :: st) o) : Im X g nL Qz σ pc lv (.int b :: .int a :: st) o := by
  obtain ⟨p, l, e, R, s, m, args, below, meth, c, A, cells, slots⟩ := X
  obtain ⟨⟨hx, hb, hml, hown, hts⟩, hR, hI, hA, hK, hN⟩ := hF
  intro r hr H locs ls hP hS hl
  exact lv_ior hx hb d  (k r hr H locs ls hP hS hl)
theorem im_ixor (hF : Fx X g own cc nL fr lo) {a b : Int32} (d : decode cc pc = .ok (.ixor, 1))  (k : Im X g nL Qz σ (pc + 1) lv (.int (a ^^^ b) :: st) o) : Im X g nL Qz σ pc lv (.int b :: .int a :: st) o := by
  obtain ⟨p, l, e, R, s, m, args, below, meth, c, A, cells, slots⟩ := X
  obtain ⟨⟨hx, hb, hml, hown, hts⟩, hR, hI, hA, hK, hN⟩ := hF
  intro r hr H locs ls hP hS hl
  exact lv_ixor hx hb d  (k r hr H locs ls hP hS hl)
theorem im_ishl (hF : Fx X g own cc nL fr lo) {a b : Int32} (d : decode cc pc = .ok (.ishl, 1))  (k : Im X g nL Qz σ (pc + 1) lv (.int (a <<< (b &&& 31)) :: st) o) : Im X g nL Qz σ pc lv (.int b :: .int a :: st) o := by
  obtain ⟨p, l, e, R, s, m, args, below, meth, c, A, cells, slots⟩ := X
  obtain ⟨⟨hx, hb, hml, hown, hts⟩, hR, hI, hA, hK, hN⟩ := hF
  intro r hr H locs ls hP hS hl
  exact lv_ishl hx hb d  (k r hr H locs ls hP hS hl)
theorem im_ishr (hF : Fx X g own cc nL fr lo) {a b : Int32} (d : decode cc pc = .ok (.ishr, 1))  (k : Im X g nL Qz σ (pc + 1) lv (.int (a >>> (b &&& 31)) :: st) o) : Im X g nL Qz σ pc lv (.int b :: .int a :: st) o := by
  obtain ⟨p, l, e, R, s, m, args, below, meth, c, A, cells, slots⟩ := X
  obtain ⟨⟨hx, hb, hml, hown, hts⟩, hR, hI, hA, hK, hN⟩ := hF
  intro r hr H locs ls hP hS hl
  exact lv_ishr hx hb d  (k r hr H locs ls hP hS hl)
theorem im_iushr (hF : Fx X g own cc nL fr lo) {a b : Int32} (d : decode cc pc = .ok (.iushr, 1))  (k : Im X g nL Qz σ (pc + 1) lv (.int ((a.toUInt32 >>> (b.toUInt32 &&& Int32.toUInt32 31)).toInt32) :: st) o) : Im X g nL Qz σ pc lv (.int b :: .int a :: st) o := by
  obtain ⟨p, l, e, R, s, m, args, below, meth, c, A, cells, slots⟩ := X
  obtain ⟨⟨hx, hb, hml, hown, hts⟩, hR, hI, hA, hK, hN⟩ := hF
  intro r hr H locs ls hP hS hl
  exact lv_iushr hx hb d rfl (k r hr H locs ls hP hS hl)
theorem im_ineg (hF : Fx X g own cc nL fr lo) {a : Int32} (d : decode cc pc = .ok (.ineg, 1))  (k : Im X g nL Qz σ (pc + 1) lv (.int (-a) :: st) o) : Im X g nL Qz σ pc lv (.int a :: st) o := by
  obtain ⟨p, l, e, R, s, m, args, below, meth, c, A, cells, slots⟩ := X
  obtain ⟨⟨hx, hb, hml, hown, hts⟩, hR, hI, hA, hK, hN⟩ := hF
  intro r hr H locs ls hP hS hl
  exact lv_ineg hx hb d  (k r hr H locs ls hP hS hl)
theorem im_idiv (hF : Fx X g own cc nL fr lo) {a b : Int32} (d : decode cc pc = .ok (.idiv, 1)) (hne : ¬ b = 0) (k : Im X g nL Qz σ (pc + 1) lv (.int (a / b) :: st) o) : Im X g nL Qz σ pc lv (.int b :: .int a :: st) o := by
  obtain ⟨p, l, e, R, s, m, args, below, meth, c, A, cells, slots⟩ := X
  obtain ⟨⟨hx, hb, hml, hown, hts⟩, hR, hI, hA, hK, hN⟩ := hF
  intro r hr H locs ls hP hS hl
  exact lv_idiv hx hb d hne (k r hr H locs ls hP hS hl)
theorem im_irem (hF : Fx X g own cc nL fr lo) {a b : Int32} (d : decode cc pc = .ok (.irem, 1)) (hne : ¬ b = 0) (k : Im X g nL Qz σ (pc + 1) lv (.int (a - a / b * b) :: st) o) : Im X g nL Qz σ pc lv (.int b :: .int a :: st) o := by
  obtain ⟨p, l, e, R, s, m, args, below, meth, c, A, cells, slots⟩ := X
  obtain ⟨⟨hx, hb, hml, hown, hts⟩, hR, hI, hA, hK, hN⟩ := hF
  intro r hr H locs ls hP hS hl
  exact lv_irem hx hb d hne (k r hr H locs ls hP hS hl)
theorem im_i2b (hF : Fx X g own cc nL fr lo) {a : Int32} (d : decode cc pc = .ok (.i2b, 1))  (k : Im X g nL Qz σ (pc + 1) lv (.int (a.toInt8.toInt32) :: st) o) : Im X g nL Qz σ pc lv (.int a :: st) o := by
  obtain ⟨p, l, e, R, s, m, args, below, meth, c, A, cells, slots⟩ := X
  obtain ⟨⟨hx, hb, hml, hown, hts⟩, hR, hI, hA, hK, hN⟩ := hF
  intro r hr H locs ls hP hS hl
  exact lv_i2b hx hb d rfl (k r hr H locs ls hP hS hl)
theorem im_i2l (hF : Fx X g own cc nL fr lo) {a : Int32} (d : decode cc pc = .ok (.i2l, 1))  (k : Im X g nL Qz σ (pc + 1) lv (.long (a.toInt64) :: st) o) : Im X g nL Qz σ pc lv (.int a :: st) o := by
  obtain ⟨p, l, e, R, s, m, args, below, meth, c, A, cells, slots⟩ := X
  obtain ⟨⟨hx, hb, hml, hown, hts⟩, hR, hI, hA, hK, hN⟩ := hF
  intro r hr H locs ls hP hS hl
  exact lv_i2l hx hb d rfl (k r hr H locs ls hP hS hl)
theorem im_i2d (hF : Fx X g own cc nL fr lo) {a : Int32} (d : decode cc pc = .ok (.i2d, 1))  (k : Im X g nL Qz σ (pc + 1) lv (.double (FP.i2d a) :: st) o) : Im X g nL Qz σ pc lv (.int a :: st) o := by
  obtain ⟨p, l, e, R, s, m, args, below, meth, c, A, cells, slots⟩ := X
  obtain ⟨⟨hx, hb, hml, hown, hts⟩, hR, hI, hA, hK, hN⟩ := hF
  intro r hr H locs ls hP hS hl
  exact lv_i2d hx hb d  (k r hr H locs ls hP hS hl)
theorem im_d2i (hF : Fx X g own cc nL fr lo) {a : UInt64} (d : decode cc pc = .ok (.d2i, 1))  (k : Im X g nL Qz σ (pc + 1) lv (.int (FP.d2i a) :: st) o) : Im X g nL Qz σ pc lv (.double a :: st) o := by
  obtain ⟨p, l, e, R, s, m, args, below, meth, c, A, cells, slots⟩ := X
  obtain ⟨⟨hx, hb, hml, hown, hts⟩, hR, hI, hA, hK, hN⟩ := hF
  intro r hr H locs ls hP hS hl
  exact lv_d2i hx hb d  (k r hr H locs ls hP hS hl)
theorem im_dmul (hF : Fx X g own cc nL fr lo) {a b : UInt64} (d : decode cc pc = .ok (.dmul, 1)) (hne : vf_n64 (FP.dmul a b)) (k : Im X g nL Qz σ (pc + 1) lv (.double (FP.dmul a b) :: st) o) : Im X g nL Qz σ pc lv (.double b :: .double a :: st) o := by
  obtain ⟨p, l, e, R, s, m, args, below, meth, c, A, cells, slots⟩ := X
  obtain ⟨⟨hx, hb, hml, hown, hts⟩, hR, hI, hA, hK, hN⟩ := hF
  intro r hr H locs ls hP hS hl
  exact lv_dmul hx hb d hne (k r hr H locs ls hP hS hl)
theorem im_dcmp (hF : Fx X g own cc nL fr lo) {a b : UInt64} {op : CmpOp} (d : decode cc pc = .ok (.dcmp op, 1))  (k : Im X g nL Qz σ (pc + 1) lv (.int (Op.cmpValue (FP.dcmp a b) op) :: st) o) : Im X g nL Qz σ pc lv (.double b :: .double a :: st) o := by
  obtain ⟨p, l, e, R, s, m, args, below, meth, c, A, cells, slots⟩ := X
  obtain ⟨⟨hx, hb, hml, hown, hts⟩, hR, hI, hA, hK, hN⟩ := hF
  intro r hr H locs ls hP hS hl
  exact lv_dcmp hx hb d  (k r hr H locs ls hP hS hl)
theorem im_ladd (hF : Fx X g own cc nL fr lo) {a b : Int64} (d : decode cc pc = .ok (.ladd, 1))  (k : Im X g nL Qz σ (pc + 1) lv (.long (a + b) :: st) o) : Im X g nL Qz σ pc lv (.long b :: .long a :: st) o := by
  obtain ⟨p, l, e, R, s, m, args, below, meth, c, A, cells, slots⟩ := X
  obtain ⟨⟨hx, hb, hml, hown, hts⟩, hR, hI, hA, hK, hN⟩ := hF
  intro r hr H locs ls hP hS hl
  exact lv_ladd hx hb d  (k r hr H locs ls hP hS hl)
theorem im_lmul (hF : Fx X g own cc nL fr lo) {a b : Int64} (d : decode cc pc = .ok (.lmul, 1))  (k : Im X g nL Qz σ (pc + 1) lv (.long (a * b) :: st) o) : Im X g nL Qz σ pc lv (.long b :: .long a :: st) o := by
  obtain ⟨p, l, e, R, s, m, args, below, meth, c, A, cells, slots⟩ := X
  obtain ⟨⟨hx, hb, hml, hown, hts⟩, hR, hI, hA, hK, hN⟩ := hF
  intro r hr H locs ls hP hS hl
  exact lv_lmul hx hb d  (k r hr H locs ls hP hS hl)
theorem im_lcmp (hF : Fx X g own cc nL fr lo) {a b : Int64} (d : decode cc pc = .ok (.lcmp, 1))  (k : Im X g nL Qz σ (pc + 1) lv (.int (lg_cmp a b) :: st) o) : Im X g nL Qz σ pc lv (.long b :: .long a :: st) o := by
  obtain ⟨p, l, e, R, s, m, args, below, meth, c, A, cells, slots⟩ := X
  obtain ⟨⟨hx, hb, hml, hown, hts⟩, hR, hI, hA, hK, hN⟩ := hF
  intro r hr H locs ls hP hS hl
  exact W.lcmp hx hb d  (k r hr H locs ls hP hS hl)
theorem im_dup (hF : Fx X g own cc nL fr lo) {v : Value} (d : decode cc pc = .ok (.dup, 1)) (hc : v.category = 1) (k : Im X g nL Qz σ (pc + 1) lv (v :: v :: st) o) : Im X g nL Qz σ pc lv (v :: st) o := by
  obtain ⟨p, l, e, R, s, m, args, below, meth, c, A, cells, slots⟩ := X
  obtain ⟨⟨hx, hb, hml, hown, hts⟩, hR, hI, hA, hK, hN⟩ := hF
  intro r hr H locs ls hP hS hl
  exact lv_dup hx hb d hc (k r hr H locs ls hP hS hl)
theorem im_pop (hF : Fx X g own cc nL fr lo) {v : Value} (d : decode cc pc = .ok (.pop, 1)) (hc : v.category = 1) (k : Im X g nL Qz σ (pc + 1) lv (st) o) : Im X g nL Qz σ pc lv (v :: st) o := by
  obtain ⟨p, l, e, R, s, m, args, below, meth, c, A, cells, slots⟩ := X
  obtain ⟨⟨hx, hb, hml, hown, hts⟩, hR, hI, hA, hK, hN⟩ := hF
  intro r hr H locs ls hP hS hl
  exact lv_pop hx hb d hc (k r hr H locs ls hP hS hl)
theorem im_dup2 (hF : Fx X g own cc nL fr lo) {v w : Value} (d : decode cc pc = .ok (.dup2, 1)) (hc : v.category = 1) (hd : w.category = 1) (k : Im X g nL Qz σ (pc + 1) lv (v :: w :: v :: w :: st) o) : Im X g nL Qz σ pc lv (v :: w :: st) o := by
  obtain ⟨p, l, e, R, s, m, args, below, meth, c, A, cells, slots⟩ := X
  obtain ⟨⟨hx, hb, hml, hown, hts⟩, hR, hI, hA, hK, hN⟩ := hF
  intro r hr H locs ls hP hS hl
  exact lv_dup2_11 hx hb d hc hd (k r hr H locs ls hP hS hl)
theorem im_if_eq (hF : Fx X g own cc nL fr lo) {x : Int32} {off : Int} (tgt : Nat) (d : decode cc pc = .ok (.ifCond .eq off, 3)) (ht : (pc : Int) + off = (tgt : Int)) (kt : x = 0 → Im X g nL Qz σ tgt lv st oa) (kf : ¬ x = 0 → Im X g nL Qz σ (pc + 3) lv st ob) : Im X g nL Qz σ pc lv (.int x :: st) (if x = 0 then oa else ob) := by
  obtain ⟨p, l, e, R, s, m, args, below, meth, c, A, cells, slots⟩ := X
  obtain ⟨⟨hx, hb, hml, hown, hts⟩, hR, hI, hA, hK, hN⟩ := hF
  intro r hr H locs ls hP hS hl
  exact lv_if_eq hx hb d ht (fun h => kt h r (by rw [if_pos h] at hr; exact hr) H locs ls hP hS hl) (fun h => kf h r (by rw [if_neg h] at hr; exact hr) H locs ls hP hS hl)
theorem im_icmp_eq (hF : Fx X g own cc nL fr lo) {x y : Int32} {off : Int} (tgt : Nat) (d : decode cc pc = .ok (.if_icmp .eq off, 3)) (ht : (pc : Int) + off = (tgt : Int)) (kt : x = y → Im X g nL Qz σ tgt lv st oa) (kf : ¬ x = y → Im X g nL Qz σ (pc + 3) lv st ob) : Im X g nL Qz σ pc lv (.int y :: .int x :: st) (if x = y then oa else ob) := by
  obtain ⟨p, l, e, R, s, m, args, below, meth, c, A, cells, slots⟩ := X
  obtain ⟨⟨hx, hb, hml, hown, hts⟩, hR, hI, hA, hK, hN⟩ := hF
  intro r hr H locs ls hP hS hl
  exact lv_icmp_eq hx hb d ht (fun h => kt h r (by rw [if_pos h] at hr; exact hr) H locs ls hP hS hl) (fun h => kf h r (by rw [if_neg h] at hr; exact hr) H locs ls hP hS hl)
theorem im_if_ne (hF : Fx X g own cc nL fr lo) {x : Int32} {off : Int} (tgt : Nat) (d : decode cc pc = .ok (.ifCond .ne off, 3)) (ht : (pc : Int) + off = (tgt : Int)) (kf : x = 0 → Im X g nL Qz σ (pc + 3) lv st oa) (kt : ¬ x = 0 → Im X g nL Qz σ tgt lv st ob) : Im X g nL Qz σ pc lv (.int x :: st) (if x = 0 then oa else ob) := by
  obtain ⟨p, l, e, R, s, m, args, below, meth, c, A, cells, slots⟩ := X
  obtain ⟨⟨hx, hb, hml, hown, hts⟩, hR, hI, hA, hK, hN⟩ := hF
  intro r hr H locs ls hP hS hl
  exact lv_if_ne hx hb d ht (fun h => kt h r (by rw [if_neg h] at hr; exact hr) H locs ls hP hS hl) (fun h => kf h r (by rw [if_pos h] at hr; exact hr) H locs ls hP hS hl)
theorem im_icmp_ne (hF : Fx X g own cc nL fr lo) {x y : Int32} {off : Int} (tgt : Nat) (d : decode cc pc = .ok (.if_icmp .ne off, 3)) (ht : (pc : Int) + off = (tgt : Int)) (kf : x = y → Im X g nL Qz σ (pc + 3) lv st oa) (kt : ¬ x = y → Im X g nL Qz σ tgt lv st ob) : Im X g nL Qz σ pc lv (.int y :: .int x :: st) (if x = y then oa else ob) := by
  obtain ⟨p, l, e, R, s, m, args, below, meth, c, A, cells, slots⟩ := X
  obtain ⟨⟨hx, hb, hml, hown, hts⟩, hR, hI, hA, hK, hN⟩ := hF
  intro r hr H locs ls hP hS hl
  exact lv_icmp_ne hx hb d ht (fun h => kt h r (by rw [if_neg h] at hr; exact hr) H locs ls hP hS hl) (fun h => kf h r (by rw [if_pos h] at hr; exact hr) H locs ls hP hS hl)
theorem im_if_lt (hF : Fx X g own cc nL fr lo) {x : Int32} {off : Int} (tgt : Nat) (d : decode cc pc = .ok (.ifCond .lt off, 3)) (ht : (pc : Int) + off = (tgt : Int)) (kt : x < 0 → Im X g nL Qz σ tgt lv st oa) (kf : ¬ x < 0 → Im X g nL Qz σ (pc + 3) lv st ob) : Im X g nL Qz σ pc lv (.int x :: st) (if x < 0 then oa else ob) := by
  obtain ⟨p, l, e, R, s, m, args, below, meth, c, A, cells, slots⟩ := X
  obtain ⟨⟨hx, hb, hml, hown, hts⟩, hR, hI, hA, hK, hN⟩ := hF
  intro r hr H locs ls hP hS hl
  exact lv_if_lt hx hb d ht (fun h => kt h r (by rw [if_pos h] at hr; exact hr) H locs ls hP hS hl) (fun h => kf h r (by rw [if_neg h] at hr; exact hr) H locs ls hP hS hl)
theorem im_icmp_lt (hF : Fx X g own cc nL fr lo) {x y : Int32} {off : Int} (tgt : Nat) (d : decode cc pc = .ok (.if_icmp .lt off, 3)) (ht : (pc : Int) + off = (tgt : Int)) (kt : x < y → Im X g nL Qz σ tgt lv st oa) (kf : ¬ x < y → Im X g nL Qz σ (pc + 3) lv st ob) : Im X g nL Qz σ pc lv (.int y :: .int x :: st) (if x < y then oa else ob) := by
  obtain ⟨p, l, e, R, s, m, args, below, meth, c, A, cells, slots⟩ := X
  obtain ⟨⟨hx, hb, hml, hown, hts⟩, hR, hI, hA, hK, hN⟩ := hF
  intro r hr H locs ls hP hS hl
  exact lv_icmp_lt hx hb d ht (fun h => kt h r (by rw [if_pos h] at hr; exact hr) H locs ls hP hS hl) (fun h => kf h r (by rw [if_neg h] at hr; exact hr) H locs ls hP hS hl)
theorem im_if_ge (hF : Fx X g own cc nL fr lo) {x : Int32} {off : Int} (tgt : Nat) (d : decode cc pc = .ok (.ifCond .ge off, 3)) (ht : (pc : Int) + off = (tgt : Int)) (kt : 0 ≤ x → Im X g nL Qz σ tgt lv st oa) (kf : ¬ 0 ≤ x → Im X g nL Qz σ (pc + 3) lv st ob) : Im X g nL Qz σ pc lv (.int x :: st) (if 0 ≤ x then oa else ob) := by
  obtain ⟨p, l, e, R, s, m, args, below, meth, c, A, cells, slots⟩ := X
  obtain ⟨⟨hx, hb, hml, hown, hts⟩, hR, hI, hA, hK, hN⟩ := hF
  intro r hr H locs ls hP hS hl
  exact lv_if_ge hx hb d ht (fun h => kt h r (by rw [if_pos h] at hr; exact hr) H locs ls hP hS hl) (fun h => kf h r (by rw [if_neg h] at hr; exact hr) H locs ls hP hS hl)
theorem im_icmp_ge (hF : Fx X g own cc nL fr lo) {x y : Int32} {off : Int} (tgt : Nat) (d : decode cc pc = .ok (.if_icmp .ge off, 3)) (ht : (pc : Int) + off = (tgt : Int)) (kt : y ≤ x → Im X g nL Qz σ tgt lv st oa) (kf : ¬ y ≤ x → Im X g nL Qz σ (pc + 3) lv st ob) : Im X g nL Qz σ pc lv (.int y :: .int x :: st) (if y ≤ x then oa else ob) := by
  obtain ⟨p, l, e, R, s, m, args, below, meth, c, A, cells, slots⟩ := X
  obtain ⟨⟨hx, hb, hml, hown, hts⟩, hR, hI, hA, hK, hN⟩ := hF
  intro r hr H locs ls hP hS hl
  exact lv_icmp_ge hx hb d ht (fun h => kt h r (by rw [if_pos h] at hr; exact hr) H locs ls hP hS hl) (fun h => kf h r (by rw [if_neg h] at hr; exact hr) H locs ls hP hS hl)
theorem im_if_gt (hF : Fx X g own cc nL fr lo) {x : Int32} {off : Int} (tgt : Nat) (d : decode cc pc = .ok (.ifCond .gt off, 3)) (ht : (pc : Int) + off = (tgt : Int)) (kt : 0 < x → Im X g nL Qz σ tgt lv st oa) (kf : ¬ 0 < x → Im X g nL Qz σ (pc + 3) lv st ob) : Im X g nL Qz σ pc lv (.int x :: st) (if 0 < x then oa else ob) := by
  obtain ⟨p, l, e, R, s, m, args, below, meth, c, A, cells, slots⟩ := X
  obtain ⟨⟨hx, hb, hml, hown, hts⟩, hR, hI, hA, hK, hN⟩ := hF
  intro r hr H locs ls hP hS hl
  exact lv_if_gt hx hb d ht (fun h => kt h r (by rw [if_pos h] at hr; exact hr) H locs ls hP hS hl) (fun h => kf h r (by rw [if_neg h] at hr; exact hr) H locs ls hP hS hl)
theorem im_icmp_gt (hF : Fx X g own cc nL fr lo) {x y : Int32} {off : Int} (tgt : Nat) (d : decode cc pc = .ok (.if_icmp .gt off, 3)) (ht : (pc : Int) + off = (tgt : Int)) (kt : y < x → Im X g nL Qz σ tgt lv st oa) (kf : ¬ y < x → Im X g nL Qz σ (pc + 3) lv st ob) : Im X g nL Qz σ pc lv (.int y :: .int x :: st) (if y < x then oa else ob) := by
  obtain ⟨p, l, e, R, s, m, args, below, meth, c, A, cells, slots⟩ := X
  obtain ⟨⟨hx, hb, hml, hown, hts⟩, hR, hI, hA, hK, hN⟩ := hF
  intro r hr H locs ls hP hS hl
  exact lv_icmp_gt hx hb d ht (fun h => kt h r (by rw [if_pos h] at hr; exact hr) H locs ls hP hS hl) (fun h => kf h r (by rw [if_neg h] at hr; exact hr) H locs ls hP hS hl)
theorem im_if_le (hF : Fx X g own cc nL fr lo) {x : Int32} {off : Int} (tgt : Nat) (d : decode cc pc = .ok (.ifCond .le off, 3)) (ht : (pc : Int) + off = (tgt : Int)) (kt : x ≤ 0 → Im X g nL Qz σ tgt lv st oa) (kf : ¬ x ≤ 0 → Im X g nL Qz σ (pc + 3) lv st ob) : Im X g nL Qz σ pc lv (.int x :: st) (if x ≤ 0 then oa else ob) := by
  obtain ⟨p, l, e, R, s, m, args, below, meth, c, A, cells, slots⟩ := X
  obtain ⟨⟨hx, hb, hml, hown, hts⟩, hR, hI, hA, hK, hN⟩ := hF
  intro r hr H locs ls hP hS hl
  exact lv_if_le hx hb d ht (fun h => kt h r (by rw [if_pos h] at hr; exact hr) H locs ls hP hS hl) (fun h => kf h r (by rw [if_neg h] at hr; exact hr) H locs ls hP hS hl)
theorem im_icmp_le (hF : Fx X g own cc nL fr lo) {x y : Int32} {off : Int} (tgt : Nat) (d : decode cc pc = .ok (.if_icmp .le off, 3)) (ht : (pc : Int) + off = (tgt : Int)) (kt : x ≤ y → Im X g nL Qz σ tgt lv st oa) (kf : ¬ x ≤ y → Im X g nL Qz σ (pc + 3) lv st ob) : Im X g nL Qz σ pc lv (.int y :: .int x :: st) (if x ≤ y then oa else ob) := by
  obtain ⟨p, l, e, R, s, m, args, below, meth, c, A, cells, slots⟩ := X
  obtain ⟨⟨hx, hb, hml, hown, hts⟩, hR, hI, hA, hK, hN⟩ := hF
  intro r hr H locs ls hP hS hl
  exact lv_icmp_le hx hb d ht (fun h => kt h r (by rw [if_pos h] at hr; exact hr) H locs ls hP hS hl) (fun h => kf h r (by rw [if_neg h] at hr; exact hr) H locs ls hP hS hl)
theorem im_goto (hF : Fx X g own cc nL fr lo) {off : Int} (tgt : Nat) (d : decode cc pc = .ok (.goto off, 3)) (ht : (pc : Int) + off = (tgt : Int)) (k : Im X g nL Qz σ tgt lv st o) : Im X g nL Qz σ pc lv st o := by
  obtain ⟨p, l, e, R, s, m, args, below, meth, c, A, cells, slots⟩ := X
  obtain ⟨⟨hx, hb, hml, hown, hts⟩, hR, hI, hA, hK, hN⟩ := hF
  intro r hr H locs ls hP hS hl
  exact lv_goto hx hb d ht (k r hr H locs ls hP hS hl)
end RULES
