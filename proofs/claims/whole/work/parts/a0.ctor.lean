/-! constructors: a growing list of cells -/
def AOs (U : State) : Prop := va_AO "OceanMail$Voyage" U ∧ va_AO "OceanMail$Sailing" U ∧ va_AO "OceanMail$Contract" U
theorem AOs.moved {u U : State} (hvm : u.vm.Alike U.vm) (h : AOs u) : AOs U := ⟨va_AO.moved hvm h.1, va_AO.moved hvm h.2.1, va_AO.moved hvm h.2.2⟩
def Fy (X : Cx) (g : GT) (B : Nat) (own : String) (cc : ByteArray) (nL fr lo nc ns : Nat) : Prop := match X with
  | (p, _, _, R, s, m, args, _, _, c, A, _, _) => (p.tables.exec = Jvm.exec ∧ c.code = cc ∧ c.maxLocals = nL ∧ s.vm.findClass own = some m.cls ∧ ∀ w ∈ gtb, w.before args s = true) ∧ (fr ≤ R.frames ∧ lo ≤ R.locals ∧ nc ≤ R.cells ∧ ns ≤ R.slots) ∧ A = (fun q => B ≤ q) ∧ B ≤ s.heap.size ∧ va_K g.1 vwCl (tys g) s ∧ NW s ∧ AOs s
def Jm (X : Cx) (g : GT) (nL : Nat) (Q : State → Prop) (z κ ς : Nat) (w V : va_W) (pc : Nat) (lv : List (Nat × Value)) (st : List Value) : Prop := match X with
  | (p, l, e, R, s, m, args, below, meth, c, A, _, _) => ∀ (H : Heap) (locs : List Loc) (ls : Array Slot), va_P g.1 vwCl (w ++ V) H → va_D A (w ++ V) → va_S A s.heap H locs → H.size = z → lv_has ls nL lv → W p l e R s m args below meth c H locs κ ς Q (F0 m pc ls st)
theorem ap_at {w V : va_W} {j : Nat} {x : Nat × va_E} (h : V[j]? = some x) : (w ++ V)[w.length + j]? = some x := by
  rw [List.getElem?_append_right (by omega), show w.length + j - w.length = j by omega]
  exact h
theorem ap_set (w V : va_W) (j : Nat) (x : Nat × va_E) : (w ++ V).set (w.length + j) x = w ++ V.set j x := by
  rw [List.set_append_right _ _ (by omega), show w.length + j - w.length = j by omega]
theorem pushPD {D : va_G} {A : Nat → Prop} {W : va_W} {H H1 : Heap} {z : Nat} {e : va_E} (hP : va_P D vwCl W H) (hD : va_D A W) (hz : H.size = z) (ho : ∀ q, q < z → H1[q]? = H[q]?) (he : va_at D vwCl (z, e) H1) (hA : A z) : va_P D vwCl (W ++ [(z, e)]) H1 ∧ va_D A (W ++ [(z, e)]) := by
  refine ⟨(hP.kept (fun k x hx => ho x.1 (by rw [← hz]; exact (hP k x hx).lt))).app (fun k x hx => ?_), hD.push hP hz.symm hA⟩
  have h1 : k < 1 := (List.getElem?_eq_some_iff.mp hx).1
  rw [show k = 0 by omega] at hx
  cases hx
  exact he
section JR
variable {X : Cx} {g : GT} {B : Nat} {own : String} {cc : ByteArray} {nL fr lo nc ns : Nat} {Q : State → Prop} {z z' κ κ' ς ς' : Nat} {w V V' : va_W} {pc : Nat} {lv : List (Nat × Value)} {st : List Value}
theorem jm_iconst (hF : Fy X g B own cc nL fr lo nc ns) {n : Int} {v : Int32} (d : decode cc pc = .ok (.iconst n, 1)) (hv : Int32.ofInt n = v) (k : Jm X g nL Q z κ ς w V (pc + 1) lv (.int v :: st)) : Jm X g nL Q z κ ς w V pc lv st := by
  obtain ⟨p, l, e, R, s, m, args, below, meth, c, A, _, _⟩ := X
  obtain ⟨⟨hx, hb, hml, hown, hts⟩, -⟩ := hF
  intro H locs ls hP hD hS hz hl
  exact lv_iconst hx hb d hv (k H locs ls hP hD hS hz hl)
theorem jm_bipush (hF : Fy X g B own cc nL fr lo nc ns) {n : Int} {v : Int32} (d : decode cc pc = .ok (.bipush n, 2)) (hv : (Int8.ofInt n).toInt32 = v) (k : Jm X g nL Q z κ ς w V (pc + 2) lv (.int v :: st)) : Jm X g nL Q z κ ς w V pc lv st := by
  obtain ⟨p, l, e, R, s, m, args, below, meth, c, A, _, _⟩ := X
  obtain ⟨⟨hx, hb, hml, hown, hts⟩, -⟩ := hF
  intro H locs ls hP hD hS hz hl
  exact lv_bipush hx hb d hv (k H locs ls hP hD hS hz hl)
theorem jm_sipush (hF : Fy X g B own cc nL fr lo nc ns) {n : Int} {v : Int32} (d : decode cc pc = .ok (.sipush n, 3)) (hv : (Int16.ofInt n).toInt32 = v) (k : Jm X g nL Q z κ ς w V (pc + 3) lv (.int v :: st)) : Jm X g nL Q z κ ς w V pc lv st := by
  obtain ⟨p, l, e, R, s, m, args, below, meth, c, A, _, _⟩ := X
  obtain ⟨⟨hx, hb, hml, hown, hts⟩, -⟩ := hF
  intro H locs ls hP hD hS hz hl
  exact lv_sipush hx hb d hv (k H locs ls hP hD hS hz hl)
theorem jm_aload_n (hF : Fy X g B own cc nL fr lo nc ns) {kf : Fin 4} {x : Nat} (d : decode cc pc = .ok (.aload_n kf, 1)) (q : Nat) (hq : lv[q]? = some ((kf : Nat), .ref x)) (k : Jm X g nL Q z κ ς w V (pc + 1) lv (.ref x :: st)) : Jm X g nL Q z κ ς w V pc lv st := by
  obtain ⟨p, l, e, R, s, m, args, below, meth, c, A, _, _⟩ := X
  obtain ⟨⟨hx, hb, hml, hown, hts⟩, -⟩ := hF
  intro H locs ls hP hD hS hz hl
  exact lv_aload_n hx hb d rfl (lv_at hl q hq) (k H locs ls hP hD hS hz hl)
theorem jm_iload_n (hF : Fy X g B own cc nL fr lo nc ns) {kf : Fin 4} {x : Int32} (d : decode cc pc = .ok (.iload_n kf, 1)) (q : Nat) (hq : lv[q]? = some ((kf : Nat), .int x)) (k : Jm X g nL Q z κ ς w V (pc + 1) lv (.int x :: st)) : Jm X g nL Q z κ ς w V pc lv st := by
  obtain ⟨p, l, e, R, s, m, args, below, meth, c, A, _, _⟩ := X
  obtain ⟨⟨hx, hb, hml, hown, hts⟩, -⟩ := hF
  intro H locs ls hP hD hS hz hl
  exact lv_iload_n hx hb d rfl (lv_at hl q hq) (k H locs ls hP hD hS hz hl)
theorem jm_istore_n (hF : Fy X g B own cc nL fr lo nc ns) {kf : Fin 4} {i : Nat} {x : Int32} {lv' : List (Nat × Value)} (d : decode cc pc = .ok (.istore_n kf, 1)) (hi : (kf : Nat) = i) (hn : i < nL) (hl : (i, Value.int x) :: lv.filter (fun q => !(q.1 == i) && !(q.1 + 1 == i && q.2.category == 2)) = lv') (k : Jm X g nL Q z κ ς w V (pc + 1) lv' st) : Jm X g nL Q z κ ς w V pc lv (.int x :: st) := by
  obtain ⟨p, l, e, R, s, m, args, below, meth, c, A, _, _⟩ := X
  obtain ⟨⟨hx, hb, hml, hown, hts⟩, -⟩ := hF
  intro H locs ls hP hD hS hz h9
  exact lv_istore_n hx hb d hi h9 hn hl (fun ls hl => k H locs ls hP hD hS hz hl)
theorem jm_astore_n (hF : Fy X g B own cc nL fr lo nc ns) {kf : Fin 4} {i : Nat} {x : Nat} {lv' : List (Nat × Value)} (d : decode cc pc = .ok (.astore_n kf, 1)) (hi : (kf : Nat) = i) (hn : i < nL) (hl : (i, Value.ref x) :: lv.filter (fun q => !(q.1 == i) && !(q.1 + 1 == i && q.2.category == 2)) = lv') (k : Jm X g nL Q z κ ς w V (pc + 1) lv' st) : Jm X g nL Q z κ ς w V pc lv (.ref x :: st) := by
  obtain ⟨p, l, e, R, s, m, args, below, meth, c, A, _, _⟩ := X
  obtain ⟨⟨hx, hb, hml, hown, hts⟩, -⟩ := hF
  intro H locs ls hP hD hS hz h9
  exact lv_astore_n hx hb d hi h9 hn hl (fun ls hl => k H locs ls hP hD hS hz hl)
theorem jm_iinc (hF : Fy X g B own cc nL fr lo nc ns) {i : Nat} {n : Int} {x v : Int32} {lv' : List (Nat × Value)} (d : decode cc pc = .ok (.iinc i n, 3)) (q : Nat) (hq : lv[q]? = some (i, .int x)) (hv : x + Int32.ofInt n = v) (hn : i < nL) (hl : (i, Value.int v) :: lv.filter (fun q => !(q.1 == i) && !(q.1 + 1 == i && q.2.category == 2)) = lv') (k : Jm X g nL Q z κ ς w V (pc + 3) lv' st) : Jm X g nL Q z κ ς w V pc lv st := by
  obtain ⟨p, l, e, R, s, m, args, below, meth, c, A, _, _⟩ := X
  obtain ⟨⟨hx, hb, hml, hown, hts⟩, -⟩ := hF
  intro H locs ls hP hD hS hz h9
  exact lv_iinc hx hb d h9 hq hv hn hl (fun ls hl => k H locs ls hP hD hS hz hl)
theorem jm_icmp_ge (hF : Fy X g B own cc nL fr lo nc ns) {x y : Int32} {off : Int} (tgt : Nat) (d : decode cc pc = .ok (.if_icmp .ge off, 3)) (ht : (pc : Int) + off = (tgt : Int)) (kt : y ≤ x → Jm X g nL Q z κ ς w V tgt lv st) (kf : ¬ y ≤ x → Jm X g nL Q z κ ς w V (pc + 3) lv st) : Jm X g nL Q z κ ς w V pc lv (.int y :: .int x :: st) := by
  obtain ⟨p, l, e, R, s, m, args, below, meth, c, A, _, _⟩ := X
  obtain ⟨⟨hx, hb, hml, hown, hts⟩, -⟩ := hF
  intro H locs ls hP hD hS hz hl
  exact lv_icmp_ge hx hb d ht (fun h => kt h H locs ls hP hD hS hz hl) (fun h => kf h H locs ls hP hD hS hz hl)
theorem jm_goto (hF : Fy X g B own cc nL fr lo nc ns) {off : Int} (tgt : Nat) (d : decode cc pc = .ok (.goto off, 3)) (ht : (pc : Int) + off = (tgt : Int)) (k : Jm X g nL Q z κ ς w V tgt lv st) : Jm X g nL Q z κ ς w V pc lv st := by
  obtain ⟨p, l, e, R, s, m, args, below, meth, c, A, _, _⟩ := X
  obtain ⟨⟨hx, hb, hml, hown, hts⟩, -⟩ := hF
  intro H locs ls hP hD hS hz hl
  exact lv_goto hx hb d ht (k H locs ls hP hD hS hz hl)
theorem jm_obj (hF : Fy X g B own cc nL fr lo nc ns) {index x : Nat} (hl1 : Cond.methodLink own index Lib.objectInit ∈ gtb) (h2 : Cond.instanceMethod Lib.objectInit ∈ gtb ∧ Cond.code Lib.objectInit ⟨#[0xb1]⟩ 1 none ∈ gtb) (hfr : 1 ≤ fr) (hlo : 12 ≤ lo) (d : decode cc pc = .ok (.invokespecial index, 3)) (k : Jm X g nL Q z κ ς w V (pc + 3) lv []) : Jm X g nL Q z κ ς w V pc lv [.ref x] := by
  obtain ⟨p, l, e, R, s, m, args, below, meth, c, A, _, _⟩ := X
  obtain ⟨⟨hx, hb, hml, hown, hts⟩, hR, -⟩ := hF
  intro H locs ls hP hD hS hz hl
  exact W.objInit hx hb hown (hts _ hl1) (hts _ h2.1) (hts _ h2.2) rfl (by rw [hml]; exact hl.1) rfl d (Nat.le_trans hfr hR.1) (Nat.le_trans (Nat.le_trans (Nat.le_of_eq rfl) hlo) hR.2.1) (k H locs ls hP hD hS hz hl)
theorem jm_newa (hF : Fy X g B own cc nL fr lo nc ns) {atype : ArrayType} {t N : Nat} {n : Int32} (ha : Cond.arrayClass (newarray.typeOf atype) ∈ gtb) (ht : (tys g)[t]? = some (g.2.2 t, newarray.typeOf atype)) (hdv : defaultValue (newarray.typeOf atype) = .int 0) (hn : ¬ n < 0) (hN : n.toNatClampNeg = N) (hby : N * componentBytes (newarray.typeOf atype) ≤ 536870912) (hz' : z + 1 = z') (hκ : κ + 1 = κ') (hς : ς + N = ς') (hnc : κ' ≤ nc) (hns : ς' ≤ ns) (hV : V ++ [(z, .inl (g.2.2 t, N, .inl (fun _ => 0)))] = V') (d : decode cc pc = .ok (.newarray atype, 2)) (k : Jm X g nL Q z' κ' ς' w V' (pc + 2) lv (.ref z :: st)) : Jm X g nL Q z κ ς w V pc lv (.int n :: st) := by
  obtain ⟨p, l, e, R, s, m, args, below, meth, c, A, _, _⟩ := X
  obtain ⟨⟨hx, hb, hml, hown, hts⟩, hR, hA, hB, hK, hN2, hO⟩ := hF
  subst hz' hκ hς hV
  intro H locs ls hP hD hS hz hl
  refine va_newaK hx hb (hts _ ha) rfl d rfl hn hN hby (Nat.le_trans hnc hR.2.2.1) (Nat.le_trans hns hR.2.2.2) hz (fun H1 cA e1 z1 o1 hAr hNm => ?_)
  have hc : cA = g.2.2 t := Option.some.inj (hNm.symm.trans (by have h := (hK.2 t _ ht).2; cases atype <;> exact h))
  subst hc
  have hAz : A z := by rw [hA]; rw [← hz]; exact Nat.le_trans hB hS.1
  obtain ⟨hP1, hD1⟩ := pushPD (e := .inl (g.2.2 t, N, .inl (fun _ => 0))) hP hD hz o1 (by show H1[z]? = some (vp_cell _ _); rw [e1, hdv]; rfl) hAz
  rw [List.append_assoc] at hP1 hD1
  exact k H1 locs ls hP1 hD1 ⟨Nat.le_trans hS.1 (by omega), fun x h1 h2 => (o1 x (by rw [← hz]; exact Nat.lt_of_lt_of_le h1 hS.1)).trans (hS.2.1 x h1 h2), hS.2.2⟩ z1 hl
theorem jm_newq (hF : Fy X g B own cc nL fr lo nc ns) {C : String} {index t N : Nat} {n : Int32} (hcl : Cond.classLink own index C ∈ gtb) (hov : ∀ U : State, AOs U → va_AO C U) (ht : (tys g)[t]? = some (g.2.2 t, .object C)) (hn : ¬ n < 0) (hN : n.toNatClampNeg = N) (hby : N * 4 ≤ 536870912) (hz' : z + 1 = z') (hκ : κ + 1 = κ') (hς : ς + N = ς') (hnc : κ' ≤ nc) (hns : ς' ≤ ns) (hV : V ++ [(z, .inl (g.2.2 t, N, .inr (.inr (.inr (.inr (fun _ => none))))))] = V') (d : decode cc pc = .ok (.anewarray index, 3)) (k : Jm X g nL Q z' κ' ς' w V' (pc + 3) lv (.ref z :: st)) : Jm X g nL Q z κ ς w V pc lv (.int n :: st) := by
  obtain ⟨p, l, e, R, s, m, args, below, meth, c, A, _, _⟩ := X
  obtain ⟨⟨hx, hb, hml, hown, hts⟩, hR, hA, hB, hK, hN2, hO⟩ := hF
  subst hz' hκ hς hV
  intro H locs ls hP hD hS hz hl
  subst hN
  refine W.anew hx hb hown (hts _ hcl) (va_AO.use (hov _ hO)) rfl d rfl hn hby (Nat.le_trans hnc hR.2.2.1) (Nat.le_trans hns hR.2.2.2) (fun cA kA comp f1 f2 f3 f4 => ?_)
  have hc : cA = g.2.2 t := by
    obtain ⟨kA', comp', -, -, -, h4⟩ := (hK.2 t _ ht).2
    exact Option.some.inj (f1.symm.trans h4)
  subst hc
  generalize hH1 : H.push ({ cls := g.2.2 t, slots := Array.replicate n.toNatClampNeg .null, vm := .none } : Cell) = H1
  have z1 : H1.size = z + 1 := by rw [← hH1, Array.size_push, hz]
  have e1 : H1[z]? = some (arrV (g.2.2 t) n.toNatClampNeg (fun _ => .null)) := by rw [← hH1, ← hz, Array.getElem?_push_size, ← arrV_new]
  have o1 : ∀ q : Nat, q < z → H1[q]? = H[q]? := fun q hq => by rw [← hH1, Array.getElem?_push, if_neg (by omega)]
  have hAz : A z := by rw [hA]; rw [← hz]; exact Nat.le_trans hB hS.1
  obtain ⟨hP1, hD1⟩ := pushPD (e := .inl (g.2.2 t, n.toNatClampNeg, .inr (.inr (.inr (.inr (fun _ => none)))))) hP hD hz o1 (by show H1[z]? = some (vp_cell _ _); rw [vp_cell_q]; exact e1) hAz
  rw [List.append_assoc] at hP1 hD1
  show W p l e R s m args below meth c H1 locs (κ + 1) (ς + n.toNatClampNeg) Q (F0 m (pc + 3) ls (.ref H.size :: st))
  rw [hz]
  exact k H1 locs ls hP1 hD1 ⟨Nat.le_trans hS.1 (by omega), fun x h1 h2 => (o1 x (by rw [← hz]; exact Nat.lt_of_lt_of_le h1 hS.1)).trans (hS.2.1 x h1 h2), hS.2.2⟩ z1 hl
def NI (X : Cx) : Prop := match X with
  | (_, _, _, _, _, _, _, _, meth, _, _, _, _) => meth.name = "<init>"
def FC (own : String) (index k j : Nat) (ty : FieldType) : Prop := ∃ (C : String) (T : u_T) (ty0 : Nat → FieldType), vwCl[k]? = some (C, T, nf k) ∧ j < nf k ∧ (∀ w ∈ u_ws C T (nf k), w ∈ gtb) ∧ Cond.fieldLink own index (T j).1 (T j).2.1 (T j).2.2.1 ∈ gtb ∧ (∀ k', k' < nf k → parseFieldDescriptor (T k').2.2.1 = some (ty0 k')) ∧ (∀ a, a < nf k → ∀ b, b < nf k → a ≠ b → (T a).2.1 ≠ (T b).2.1) ∧ ((T j).2.2.2 = false ∨ (T j).2.2.2 = true ∧ (T j).1 = own) ∧ parseFieldDescriptor (T j).2.2.1 = some ty
theorem jm_put (hF : Fy X g B own cc nL fr lo nc ns) (hN : NI X) {index k j a : Nat} {ty : FieldType} {v : Value} {fs : List Value} (q0 : Nat) (fp : FC own index k j ty) (he : V[q0]? = some (a, .inr (k, fs))) (hlen : fs.length = nf k) (hn : narrow ty v = v) (hfit : fits ty v = true) (hV : V.set q0 (a, .inr (k, fs.set j v)) = V') (d : decode cc pc = .ok (.putfield index, 3)) (kk : Jm X g nL Q z κ ς w V' (pc + 3) lv st) : Jm X g nL Q z κ ς w V pc lv (v :: .ref a :: st) := by
  obtain ⟨p, l, e, R, s, m, args, below, meth, c, A, _, _⟩ := X
  obtain ⟨⟨hx, hb, hml, hown, hts⟩, hR, hA, hB, hK, hN2, hO⟩ := hF
  subst hV
  obtain ⟨C, T, ty0, h1, h2, h3, h4, h5, h6, h7, h8⟩ := fp
  intro H locs ls hP hD hS hz hl
  have fin : ∀ (H1 : Heap) (locs1 : List Loc), H1.size = H.size → va_P g.1 vwCl ((w ++ V).set (w.length + q0) (a, .inr (k, fs.set j v))) H1 → va_D A ((w ++ V).set (w.length + q0) (a, .inr (k, fs.set j v))) → va_S A s.heap H1 locs1 → W p l e R s m args below meth c H1 locs1 κ ς Q (F0 m (pc + 3) ls st) := by
    intro H1 locs1 hz1 hP1 hD1 hS1
    rw [ap_set] at hP1 hD1
    exact kk H1 locs1 ls hP1 hD1 hS1 (hz1.trans hz) hl
  have hap := va_apart (own := own) hts h3 ty0 h5 h6 hK h1
  obtain ⟨r, hr1, cell, q1, q2, q3, q4⟩ := hP (w.length + q0) _ (ap_at he)
  have hr : r = (C, T, nf k) := Option.some.inj (hr1.symm.trans h1)
  subst hr
  obtain ⟨hSl, hfc, kC, hkC, hkind⟩ := hK.1 k _ h1
  obtain ⟨cf, kf, fi, f, hi, hsl⟩ := hSl j h2
  have hlay := hts _ (h3 _ (u_in_lay h2))
  have hst := (u_facts hfc hkC (u_lays hts h3 h2) hi).1
  rcases h7 with h7 | ⟨h7, hdecl⟩
  · unfold u_lay at hlay
    rw [if_neg (by rw [h7]; decide)] at hlay
    have h6' := u_store hfc hkC hkind hlay hi h8 hn hfit
    refine W.putK hx hb (f := f) ⟨hown, hts _ h4, ⟨_, _, _, hi⟩, hst⟩ (by rw [q2]; exact h6') q1 q3 (by rw [hsl]; exact k2_hasslot (q4 j h2)) rfl rfl d fun H' e1 e2 e3 => ?_
    rw [hsl] at e1 ⊢
    exact fin H' _ e2 (hP.set hD (ap_at he) ⟨_, h1, t_OB.to (V := updV (vp_V fs) j v) ⟨_, e1, q2, q3, t_set q4 hap h2 v⟩ (fun i _ => vp_updV_set (by rw [hlen]; exact h2) v i)⟩ e3) (hD.set (ap_at he)) (hS.put e2 e3 (hD.2 _ _ (ap_at he)))
  · unfold u_lay at hlay
    rw [if_pos h7] at hlay
    have hcf : m.cls = cf := by
      obtain ⟨_, _, c', _, _, _, -, -, hf', -, -, -, hown2, -⟩ := Cond.laysFinal_spec hlay
      have e1 : c' = cf := by have := hi.symm.trans hf'; simp at this; exact this.1.symm
      rw [hdecl] at hown2
      rw [← e1]; exact Option.some.inj (hown.symm.trans hown2)
    have h6' := u_fits hfc hkC hkind (Or.inr hlay) hi h8 hn hfit
    refine W.putFinK hx hb hown (hts _ h4) hi hst hcf hN (by rw [q2]; exact h6') q1 q3 (by rw [hsl]; exact k2_hasslot (q4 j h2)) rfl rfl d fun H' e1 e2 e3 => ?_
    rw [hsl] at e1 ⊢
    exact fin H' _ e2 (hP.set hD (ap_at he) ⟨_, h1, t_OB.to (V := updV (vp_V fs) j v) ⟨_, e1, q2, q3, t_set q4 hap h2 v⟩ (fun i _ => vp_updV_set (by rw [hlen]; exact h2) v i)⟩ e3) (hD.set (ap_at he)) (hS.put e2 e3 (hD.2 _ _ (ap_at he)))
theorem jm_get (hF : Fy X g B own cc nL fr lo nc ns) {index k j a : Nat} {v : Value} {fs : List Value} (q0 : Nat) (fl : FL own index k j) (he : V[q0]? = some (a, .inr (k, fs))) (hv : fs[j]? = some v) (d : decode cc pc = .ok (.getfield index, 3)) (kk : Jm X g nL Q z κ ς w V (pc + 3) lv (v :: st)) : Jm X g nL Q z κ ς w V pc lv (.ref a :: st) := by
  obtain ⟨p, l, e, R, s, m, args, below, meth, c, A, _, _⟩ := X
  obtain ⟨⟨hx, hb, hml, hown, hts⟩, hR, hA, hB, hK, hN2, hO⟩ := hF
  obtain ⟨C, T, h1, h2, h3, h4⟩ := fl
  intro H locs ls hP hD hS hz hl
  exact va_get (D := g.1) hx hb hts h3 hown hK hP (w.length + q0) (ap_at he) h1 j h2 (hts _ h4) (fun _ h => h) hv d (kk H locs ls hP hD hS hz hl)
theorem jm_ast (hF : Fy X g B own cc nL fr lo nc ns) {a v ci n : Nat} {t : Nat} {r : vw_C} {vs : List Value} {f : Nat → Option Nat} {i : Int32} (q0 : Nat) (ha : V[q0]? = some (a, .inl (g.2.2 t, n, .inr (.inr (.inr (.inr f)))))) (ht : (tys g)[t]? = some (g.2.2 t, .object r.1)) (hv : (v, (.inr (ci, vs) : va_E)) ∈ V) (hc : vwCl[ci]? = some r) (hi : vp_in i n) (hV : V.set q0 (a, .inl (g.2.2 t, n, .inr (.inr (.inr (.inr (va_up f i.toNatClampNeg (some v))))))) = V') (d : decode cc pc = .ok (.aastore, 1)) (kk : Jm X g nL Q z κ ς w V' (pc + 1) lv st) : Jm X g nL Q z κ ς w V pc lv (.ref v :: .int i :: .ref a :: st) := by
  obtain ⟨p, l, e, R, s, m, args, below, meth, c, A, _, _⟩ := X
  obtain ⟨⟨hx, hb, hml, hown, hts⟩, hR, hA, hB, hK, hN2, hO⟩ := hF
  subst hV
  intro H locs ls hP hD hS hz hl
  obtain ⟨qk, hqk⟩ := List.getElem?_of_mem (List.mem_append_right w hv)
  have hlt : i.toNatClampNeg < n := Nat.not_le.mp fun q => hi (Or.inr q)
  have h0 : ¬ i < 0 := fun q => hi (Or.inl q)
  obtain ⟨r', hr', cellV, g1, g2, g3, -⟩ := hP qk _ hqk
  have hcls := (hK.1 ci r hc).2
  obtain ⟨kA, comp, k1, k2, k3, -⟩ := (hK.2 t _ ht).2
  have hcomp : comp = g.1.1 ci := Option.some.inj (k3.symm.trans hcls.1)
  subst hcomp
  obtain ⟨kC, hkC, -⟩ := hcls.2
  refine W.aast hx hb (hP _ _ (ap_at ha)) (fun q h => by cases h) (fun h => by cases h) k1 k2 rfl hkC ⟨h0, by show _ < (arrV _ _ _).slots.size; rw [arrV_size]; exact hlt⟩ g1 (fun q h => by rw [g3] at h; cases h) (by rw [g2]; exact hkC) (by rw [g2]; exact va_assign hcls) rfl rfl d fun H1 e1 z1 oq => ?_
  have hat : va_at g.1 vwCl (a, .inl (g.2.2 t, n, .inr (.inr (.inr (.inr (va_up f i.toNatClampNeg (some v))))))) H1 := by
    show H1[a]? = some (vp_cell _ _)
    rw [e1]
    rw [vp_cell_q, vp_cell_q, arrV_store]
    congr 2
    funext q
    by_cases hq : q = i.toNatClampNeg
    · subst hq
      simp [updV, va_up, va_rf]
    · simp [updV, va_up, hq]
  have hP1 := hP.set hD (ap_at ha) hat oq
  have hD1 := hD.set (e := .inl (g.2.2 t, n, .inr (.inr (.inr (.inr (va_up f i.toNatClampNeg (some v))))))) (ap_at ha)
  rw [ap_set] at hP1 hD1
  exact kk H1 _ ls hP1 hD1 (hS.put z1 oq (hD.2 _ _ (ap_at ha))) (z1.trans hz) hl
theorem jm_iast (hF : Fy X g B own cc nL fr lo nc ns) {a n : Nat} {f : Nat → Int32} {i v : Int32} (q0 : Nat) (ha : V[q0]? = some (a, .inl (g.2.2 0, n, .inl f))) (hi : vp_in i n) (hV : V.set q0 (a, .inl (g.2.2 0, n, .inl (upd f i.toNatClampNeg v))) = V') (d : decode cc pc = .ok (.iastore, 1)) (kk : Jm X g nL Q z κ ς w V' (pc + 1) lv st) : Jm X g nL Q z κ ς w V pc lv (.int v :: .int i :: .ref a :: st) := by
  obtain ⟨p, l, e, R, s, m, args, below, meth, c, A, _, _⟩ := X
  obtain ⟨⟨hx, hb, hml, hown, hts⟩, hR, hA, hB, hK, hN2, hO⟩ := hF
  subst hV
  intro H locs ls hP hD hS hz hl
  have hlt : i.toNatClampNeg < n := Nat.not_le.mp fun q => hi (Or.inr q)
  refine W.iast hx hb (hP _ _ (ap_at ha)) ((hK.2 0 _ rfl).1 n (fun j => .int (f j))) (fun h => by cases h) (by show ¬ (i < 0 ∨ (arrV _ _ _).slots.size ≤ _); rw [arrV_size]; exact hi) rfl rfl d fun H1 e1 z1 oq => ?_
  have hat : va_at g.1 vwCl (a, .inl (g.2.2 0, n, .inl (upd f i.toNatClampNeg v))) H1 := by
    show H1[a]? = some (vp_cell _ _)
    rw [e1]
    rw [vp_cell_i, vp_cell_i, arrV_store]
    congr 2
    funext q
    by_cases hq : q = i.toNatClampNeg
    · subst hq
      simp [updV, upd]
    · simp [updV, upd, hq]
  have hP1 := hP.set hD (ap_at ha) hat oq
  have hD1 := hD.set (e := .inl (g.2.2 0, n, .inl (upd f i.toNatClampNeg v))) (ap_at ha)
  rw [ap_set] at hP1 hD1
  exact kk H1 _ ls hP1 hD1 (hS.put z1 oq (hD.2 _ _ (ap_at ha))) (z1.trans hz) hl
theorem jm_alen (hF : Fy X g B own cc nL fr lo nc ns) {a n : Nat} {f : Nat → Int32} {v : Int32} (q0 : Nat) (ha : V[q0]? = some (a, .inl (g.2.2 0, n, .inl f))) (hv : Int32.ofNat n = v) (d : decode cc pc = .ok (.arraylength, 1)) (kk : Jm X g nL Q z κ ς w V (pc + 1) lv (.int v :: st)) : Jm X g nL Q z κ ς w V pc lv (.ref a :: st) := by
  obtain ⟨p, l, e, R, s, m, args, below, meth, c, A, _, _⟩ := X
  obtain ⟨⟨hx, hb, hml, hown, hts⟩, hR, hA, hB, hK, hN2, hO⟩ := hF
  intro H locs ls hP hD hS hz hl
  exact va_alen (D := g.1) hx hb hK hP (w.length + q0) 0 (ap_at ha) rfl hv d (kk H locs ls hP hD hS hz hl)
end JR
