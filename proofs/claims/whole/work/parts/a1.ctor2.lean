/-! constructors: contracts, calls, returns -/
def CnQ (g : GT) (B : Nat) (w V : va_W) (z : Nat) : Array Value → State → Outcome → State → Prop := fun _ st oc t => oc = .returned none ∧ va_P g.1 vwCl (w ++ V) t.heap ∧ va_D (fun q => B ≤ q) (w ++ V) ∧ t.heap.size = z ∧ va_F (fun q => B ≤ q) st t
def CnP (g : GT) (B : Nat) (w V : va_W) (z : Nat) (U : State) : Prop := B ≤ U.heap.size ∧ va_P g.1 vwCl (w ++ V) U.heap ∧ va_D (fun q => B ≤ q) (w ++ V) ∧ U.heap.size = z ∧ va_K g.1 vwCl (tys g) U ∧ NW U ∧ AOs U
def Cn (l : Launch) (y : MethodName) (cc : ByteArray) (maxL fr lo nc ns : Nat) (g : GT) (av : List Value) (B : Nat) (w V0 V1 : va_W) (z0 z1 : Nat) : Prop :=
  Met l y (.code y cc maxL none :: gtb) { frames := fr, cells := nc, slots := ns, locals := lo } (va_Pc av (CnP g B w V0 z0)) (CnQ g B w V1 z1) nc ns (fun q => B ≤ q)
def Qn (X : Cx) (g : GT) (B nc ns : Nat) (w V : va_W) (z : Nat) : State → Prop := match X with
  | (_, _, _, _, s, _, args, below, _, _, _, _, _) => MQ below (CnQ g B w V z) args s nc ns (fun q => B ≤ q)
def FN (X : Cx) (y : MethodName) : Prop := match X with
  | (_, _, _, _, _, _, _, _, meth, _, _, _, _) => meth.sig.returnType = none ∧ meth.locks = false ∧ meth.name = y.name
theorem FN.ni {X : Cx} {y : MethodName} (h : FN X y) (hy : y.name = "<init>") : NI X := by
  obtain ⟨p, l, e, R, s, m, args, below, meth, c, A, _, _⟩ := X
  exact h.2.2.trans hy
theorem cn_of {l : Launch} {y : MethodName} {cc : ByteArray} {maxL fr lo nc ns : Nat} {g : GT} {av : List Value} {B : Nat} {w V0 V1 : va_W} {z0 z1 : Nat} (hy : plainName y.cls = true) (hlen : (lg_sl av).length ≤ maxL) (body : ∀ X : Cx, Fy X g B y.cls cc maxL fr lo nc ns → FN X y → Jm X g maxL (Qn X g B nc ns w V1 z1) z0 0 0 w V0 0 (lv_args 0 av) []) : Cn l y cc maxL fr lo nc ns g av B w V0 V1 z0 z1 := by
  refine Met.ofW (cc := cc) (maxL := maxL) (ret := none) hy rfl ?_
  intro p e s m args below meth c s₁ B' hml hv
  obtain ⟨rfl, hB, hP, hD, hz, hK, hN, hO⟩ := hv
  have hts := atoms_spec (ws := Cond.code y cc maxL none :: gtb) B'.pre
  have hown : s.vm.findClass y.cls = some m.cls := findClass_of_methodNamed B'.named
  have hl := lv_entry av (n := maxL) hlen
  rw [lg_entry_eq]
  exact body (p, l, e, (headSpec (Cond.code y cc maxL none :: gtb) { frames := fr, cells := nc, slots := ns, locals := lo }).room, s, m, av.toArray, below, meth, c, (fun q => B ≤ q), 0, 0) ⟨⟨B'.exec, B'.bytes, hml, hown, fun w hw => hts w (List.mem_cons_of_mem _ hw)⟩, ⟨Nat.le_refl _, Nat.le_refl _, Nat.le_refl _, Nat.le_refl _⟩, rfl, hB, hK, hN, hO⟩ ⟨B'.returns, B'.notSynchronized, (name_of_methodNamed B'.named B'.method).1⟩ s.heap [] _ hP hD va_S.rf hz hl
theorem cnp_blind {g : GT} {B : Nat} {w V : va_W} {z : Nat} {av : List Value} : FrameBlind (va_Pc av (CnP g B w V z)) := fun a U gg mk q => ⟨q.1, q.2.1, q.2.2.1, q.2.2.2.1, q.2.2.2.2.1, va_K.moved (u := U) (U := U.calling gg mk a) (Vm.Alike.refl U.vm) q.2.2.2.2.2.1, NW.same (s := U) (U := U.calling gg mk a) rfl q.2.2.2.2.2.2.1, AOs.moved (u := U) (U := U.calling gg mk a) (Vm.Alike.refl U.vm) q.2.2.2.2.2.2.2⟩
section JC
variable {X : Cx} {g : GT} {B : Nat} {own : String} {cc : ByteArray} {nL fr lo nc ns : Nat} {Q : State → Prop} {z z' κ κ' ς ς' : Nat} {w V V' : va_W} {pc : Nat} {lv : List (Nat × Value)} {st : List Value}
theorem jm_vret (hF : Fy X g B own cc nL fr lo nc ns) {y : MethodName} (hM : FN X y) (d : decode cc pc = .ok (.return_, 1)) : Jm X g nL (Qn X g B κ ς w V z) z κ ς w V pc lv [] := by
  obtain ⟨p, l, e, R, s, m, args, below, meth, c, A, _, _⟩ := X
  obtain ⟨⟨hx, hb, hml, hown, hts⟩, hR, rfl, hB, hK, hN2, hO⟩ := hF
  obtain ⟨hret, hlocks, -⟩ := hM
  intro H locs ls hP hD hS hz hl
  show W p l e R s m args below meth c H locs κ ς (MQ below (CnQ g B w V z) args s κ ς (fun q => B ≤ q)) (F0 m pc ls [])
  exact W.vret hx hb hret (fun t ht hW => ⟨rfl, by rw [ht]; exact hP, hD, by rw [ht]; exact hz, hS.F ht⟩) hS.2.2 d hlocks
def Kq (U : State) (g : GT) (C : String) (ci : Nat) (fs : List Value) : Prop := ∃ (T : u_T) (ty : Nat → FieldType), vwCl[ci]? = some (C, T, nf ci) ∧ (∀ w ∈ u_ws C T (nf ci), w ∈ gtb) ∧ (∀ k, k < nf ci → parseFieldDescriptor (T k).2.2.1 = some (ty k)) ∧ ∀ j, j < nf ci → defaultValue (ty j) = vp_V fs j
theorem jm_new (hF : Fy X g B own cc nL fr lo nc ns) {C : String} {index ci : Nat} {fs : List Value} (T : u_T) (ty : Nat → FieldType) (hc : vwCl[ci]? = some (C, T, nf ci)) (hin : ∀ w ∈ u_ws C T (nf ci), w ∈ gtb) (hty : ∀ k, k < nf ci → parseFieldDescriptor (T k).2.2.1 = some (ty k)) (hfs : ∀ j, j < nf ci → defaultValue (ty j) = vp_V fs j) (hcl : Cond.classLink own index C ∈ gtb) (hins : Cond.instantiable C (nf ci) ∈ gtb) (hini : Cond.initialized C ∈ gtb) (hz' : z + 1 = z') (hκ : κ + 1 = κ') (hς : ς + nf ci = ς') (hnc : κ' ≤ nc) (hns : ς' ≤ ns) (hV : V ++ [(z, .inr (ci, fs))] = V') (d : decode cc pc = .ok (.new index, 3)) (k : Jm X g nL Q z' κ' ς' w V' (pc + 3) lv (.ref z :: st)) : Jm X g nL Q z κ ς w V pc lv st := by
  obtain ⟨p, l, e, R, s, m, args, below, meth, c, A, _, _⟩ := X
  obtain ⟨⟨hx, hb, hml, hown, hts⟩, hR, hA, hB, hK, hN2, hO⟩ := hF
  subst hz' hκ hς hV
  intro H locs ls hP hD hS hz hl
  have hKn := hK.1 ci _ hc
  refine W.newcK hx hb hown (hts _ hcl) (hts _ hins) (hts _ hini) rfl d (Nat.le_trans hnc hR.2.2.1) (Nat.le_trans hns hR.2.2.2) hKn.2.1 hz fun H1 kC hkC e1 z1 o1 => ?_
  have hAz : A z := by rw [hA]; rw [← hz]; exact Nat.le_trans hB hS.1
  obtain ⟨hP1, hD1⟩ := pushPD (e := .inr (ci, fs)) hP hD hz o1 ⟨_, hc, (u_born ty hts hin hKn hkC e1 hty).to hfs⟩ hAz
  rw [List.append_assoc] at hP1 hD1
  exact k H1 locs ls hP1 hD1 ⟨Nat.le_trans hS.1 (by omega), fun x h1 h2 => (o1 x (by rw [← hz]; exact Nat.lt_of_lt_of_le h1 hS.1)).trans (hS.2.1 x h1 h2), hS.2.2⟩ z1 hl
theorem jm_dup (hF : Fy X g B own cc nL fr lo nc ns) {v : Value} (d : decode cc pc = .ok (.dup, 1)) (hc : v.category = 1) (k : Jm X g nL Q z κ ς w V (pc + 1) lv (v :: v :: st)) : Jm X g nL Q z κ ς w V pc lv (v :: st) := by
  obtain ⟨p, l, e, R, s, m, args, below, meth, c, A, _, _⟩ := X
  obtain ⟨⟨hx, hb, hml, hown, hts⟩, -⟩ := hF
  intro H locs ls hP hD hS hz hl
  exact lv_dup hx hb d hc (k H locs ls hP hD hS hz hl)
theorem jm_init (hF : Fy X g B own cc nL fr lo nc ns) {y : MethodName} {cc' : ByteArray} {maxL' fr' lo' nc' ns' index a : Nat} {e0 : va_E} {V1 : va_W} (my : MY y cc' maxL' none 0) (hyn : y.name = "<init>") (hi : Cond.instanceMethod y ∈ gtb) (ml : Cond.methodLink own index y ∈ gtb)
    (hC : ∀ (l : Launch) (w0 : va_W), Cn l y cc' maxL' fr' lo' nc' ns' g [.ref a] B w0 [(a, e0)] V1 z z') (hR : fr' + 1 ≤ fr ∧ 8 + (maxL' + 11) + lo' ≤ lo) (hκ : κ + nc' = κ') (hς : ς + ns' = ς') (hnc : κ' ≤ nc) (hns : ς' ≤ ns) {V0 : va_W} (hV0 : V0 ++ [(a, e0)] = V) (hV : V0 ++ V1 = V') (hw : (st.map fun v => v.category).sum ≤ 8) (d : decode cc pc = .ok (.invokespecial index, 3))
    (k : Jm X g nL Q z' κ' ς' w V' (pc + 3) lv st) : Jm X g nL Q z κ ς w V pc lv (.ref a :: st) := by
  obtain ⟨p, l, e, R, s, m, args, below, meth, c, A, _, _⟩ := X
  obtain ⟨⟨hx, hb, hml, hown, hts⟩, hRm, rfl, hB, hK, hN2, hO⟩ := hF
  subst hκ hς hV hV0
  intro H locs ls hP hD hS hz hl
  rw [← List.append_assoc] at hP hD
  have cb : CallB R s args own index y cc' maxL' none (Cond.code y cc' maxL' none :: gtb) { frames := fr', cells := nc', slots := ns', locals := lo' } nc' ns' 0 := callB_of 0 hts (gd_code my.2.1) rfl rfl rfl (hts _ my.1) (hts _ ml) my.2.2 ⟨Nat.le_trans hR.1 hRm.1, Nat.le_trans hR.2 hRm.2.1⟩
  have run := va_runI (Pc := va_Pc [.ref a] (CnP g B (w ++ V0) [(a, e0)] z)) (Qc := CnQ g B (w ++ V0) V1 z') (locs := locs) (As := []) (rest := st) (g := F0 m pc ls (.ref a :: st)) (p := p) (e := e) (below := below) (meth := meth) (cells := κ) (slots := ς) ⟨hx, hb, hml, hown, hts⟩ (hC l (w ++ V0)) ⟨cb, hyn, hts _ hi⟩ ⟨cnp_blind, fun U hU hW => ⟨rfl, by rw [hU]; exact Nat.le_trans hB hS.1, by rw [hU]; exact hP, hD, by rw [hU]; exact hz, va_K.moved hW.alike hK, hN2.warm hW, hO.moved hW.alike⟩⟩ rfl rfl hl.1 rfl (lv_room hw) d ⟨Nat.le_trans hnc hRm.2.2.1, Nat.le_trans hns hRm.2.2.2⟩
  intro T hT XX
  obtain ⟨v, st₀, t, T', L, h0, X', hL, e1, e2, ⟨hv, hP1, hD1, hz1, hzz, hkp⟩, stp⟩ := run T hT XX
  cases hv
  rw [h0] at hzz hkp
  rw [List.append_assoc] at hP1 hD1
  obtain ⟨t2, a1, b1⟩ := k T'.heap (locs ++ L) ls (by rw [e1]; exact hP1) hD1
    ⟨Nat.le_trans hS.1 (by rw [e1]; exact hzz), fun q h1 h2 => by rw [e1, hkp q (Nat.lt_of_lt_of_le h1 hS.1) h2]; exact hS.2.1 q h1 h2, fun q hq => by
      rcases List.mem_append.mp hq with h | h
      · exact hS.2.2 q h
      · exact hL q h⟩ (by rw [e1]; exact hz1) hl T' rfl X'
  exact ⟨t2, stp t2 a1, b1⟩
theorem jm_callS (hF : Fy X g B own cc nL fr lo nc ns) {y : MethodName} {cc' : ByteArray} {maxL' fr' lo' index n : Nat} {As : List Value} {wl V0 V1 : va_W} (my : MY y cc' maxL' none n) (ms : Cond.static y ∈ gtb) (ml : Cond.methodLink own index y ∈ gtb)
    (hC : ∀ (l : Launch) (w0 : va_W), Cn l y cc' maxL' fr' lo' 0 0 g As B w0 V0 V1 z z) (hR : fr' + 1 ≤ fr ∧ 8 + (maxL' + 11) + lo' ≤ lo) (hnc : κ ≤ nc) (hns : ς ≤ ns) (hV0 : wl ++ V0 = V) (hV : wl ++ V1 = V') {st0 : List Value} (hst : st0 = As.reverse ++ st) (hn : As.length = n) (hw : (st.map fun v => v.category).sum ≤ 8) (d : decode cc pc = .ok (.invokestatic index, 3))
    (k : Jm X g nL Q z κ ς w V' (pc + 3) lv st) : Jm X g nL Q z κ ς w V pc lv st0 := by
  obtain ⟨p, l, e, R, s, m, args, below, meth, c, A, _, _⟩ := X
  obtain ⟨⟨hx, hb, hml, hown, hts⟩, hRm, rfl, hB, hK, hN2, hO⟩ := hF
  subst hV hV0
  intro H locs ls hP hD hS hz hl
  rw [← List.append_assoc] at hP hD
  have cb : CallB R s args own index y cc' maxL' none (Cond.code y cc' maxL' none :: gtb) { frames := fr', cells := 0, slots := 0, locals := lo' } 0 0 n := callB_of n hts (gd_code my.2.1) rfl rfl rfl (hts _ my.1) (hts _ ml) my.2.2 ⟨Nat.le_trans hR.1 hRm.1, Nat.le_trans hR.2 hRm.2.1⟩
  have run := va_runS (Pc := va_Pc As (CnP g B (w ++ wl) V0 z)) (Qc := CnQ g B (w ++ wl) V1 z) (locs := locs) (As := As) (rest := st) (g := F0 m pc ls st0) (p := p) (e := e) (below := below) (meth := meth) (cells := κ) (slots := ς) ⟨hx, hb, hml, hown, hts⟩ (hC l (w ++ wl)) ⟨cb, hts _ ms⟩ ⟨cnp_blind, fun U hU hW => ⟨rfl, by rw [hU]; exact Nat.le_trans hB hS.1, by rw [hU]; exact hP, hD, by rw [hU]; exact hz, va_K.moved hW.alike hK, hN2.warm hW, hO.moved hW.alike⟩⟩ rfl hn hl.1 hst (lv_room hw) d ⟨Nat.le_trans hnc hRm.2.2.1, Nat.le_trans hns hRm.2.2.2⟩
  intro T hT XX
  obtain ⟨v, st₀, t, T', L, h0, X', hL, e1, e2, ⟨hv, hP1, hD1, hz1, hzz, hkp⟩, stp⟩ := run T hT XX
  cases hv
  rw [h0] at hzz hkp
  rw [List.append_assoc] at hP1 hD1
  obtain ⟨t2, a1, b1⟩ := k T'.heap (locs ++ L) ls (by rw [e1]; exact hP1) hD1
    ⟨Nat.le_trans hS.1 (by rw [e1]; exact hzz), fun q h1 h2 => by rw [e1, hkp q (Nat.lt_of_lt_of_le h1 hS.1) h2]; exact hS.2.1 q h1 h2, fun q hq => by
      rcases List.mem_append.mp hq with h | h
      · exact hS.2.2 q h
      · exact hL q h⟩ (by rw [e1]; exact hz1) hl T' rfl X'
  exact ⟨t2, stp t2 a1, b1⟩
end JC
