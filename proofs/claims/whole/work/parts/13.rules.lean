/-! binders of the pure functions, small words, calls by the kind of answer, array copies, the script -/
def FU : Nat := 1000000
abbrev tn (x : Int32) : Nat := x.toNatClampNeg
abbrev ushr (a b : Int32) : Int32 := (a.toUInt32 >>> (b.toUInt32 &&& Int32.toUInt32 31)).toInt32
def bdS {ρ : Type} (e : Sg) (b : Sg → Option ρ) : Option ρ := b e
def bdI {ρ : Type} (e : Int32) (b : Int32 → Option ρ) : Option ρ := b e
def bdL {ρ : Type} (e : Int64) (b : Int64 → Option ρ) : Option ρ := b e
def b01 (x : Int32) : Bool := decide (x = 0) || decide (x = 1)
theorem b01_or {x : Int32} (h : b01 x = true) : x = 0 ∨ x = 1 := by
  unfold b01 at h
  simpa using h
theorem b01_n {x : Int32} (h : b01 x = true) : narrow .boolean (.int x) = .int x := by rcases b01_or h with rfl | rfl <;> rfl
theorem b01_f {x : Int32} (h : b01 x = true) : fits .boolean (.int x) = true := by rcases b01_or h with rfl | rfl <;> rfl
def n64 (r : UInt64) : Bool := decide (r &&& 0x7fffffffffffffff ≤ 0x7ff0000000000000)
theorem n64_of {r : UInt64} (h : n64 r = true) : vf_n64 r := by
  unfold n64 at h
  exact of_decide_eq_true (p := r &&& 0x7fffffffffffffff ≤ 0x7ff0000000000000) h
def cpok (sp dp n : Int32) (len : Nat) : Bool := decide (¬ sp < 0 ∧ ¬ dp < 0 ∧ ¬ n < 0 ∧ tn sp + tn n ≤ len ∧ tn dp + tn n ≤ len)
def SX (X : Cx) (b L : Nat) (xs : Nat → Int32) : Prop := match X with
  | (_, _, _, _, s, _, _, _, _, _, A, _, _) => va_X b L xs s s.heap ∧ b < s.heap.size ∧ ¬ A b
theorem spare_fv {g : GT} {i : Nat} (h : i < 5) : fvA g 0 0 5 (nI i) = .ref (g.2.1 2 i) := by
  show Value.ref (g.2.1 2 (nI i).toNatClampNeg) = _
  rw [nI_clamp (by omega)]
theorem into_fv {g : GT} {i : Nat} (h : i < 5) : fvA g 5 0 3 (nI (i + 1)) = .ref (g.2.1 2 i) := by
  show (if nI (i + 1) = 0 then Value.null else .ref (g.2.1 2 ((nI (i + 1)).toNatClampNeg - 1))) = _
  rw [if_neg (nI_ne0 (by omega) (by omega)), nI_clamp (by omega)]
  rfl
section R4
variable {ρ : Type} {X : Cx} {g : GT} {own : String} {cc : ByteArray} {nL fr lo : Nat} {Qz : ρ → State → Prop} {σ : Sg} {pc : Nat} {lv : List (Nat × Value)} {st : List Value} {o oa ob : Option ρ}
theorem im_bdS {e : Sg} {b : Sg → Option ρ} (k : ∀ s1 : Sg, Im X g nL Qz s1 pc lv st (b s1)) : Im X g nL Qz e pc lv st (bdS e b) := k e
theorem im_bdI {e : Int32} {b : Int32 → Option ρ} (k : ∀ x : Int32, Im X g nL Qz σ pc lv (.int x :: st) (b x)) : Im X g nL Qz σ pc lv (.int e :: st) (bdI e b) := k e
theorem im_bdL {e : Int64} {b : Int64 → Option ρ} (k : ∀ x : Int64, Im X g nL Qz σ pc lv (.long x :: st) (b x)) : Im X g nL Qz σ pc lv (.long e :: st) (bdL e b) := k e
theorem im_acopy (hF : Fx X g own cc nL fr lo) {index k i n : Nat} {sp dp m0 : Int32} (hl1 : Cond.methodLink own index arraycopyName ∈ gtb) (hfr : 1 ≤ fr) (hlo : 119 ≤ lo) (hw : (st.map fun v => v.category).sum ≤ 8) (h2 : Cond.native arraycopyName ∈ gtb ∧ Cond.static arraycopyName ∈ gtb ∧ Cond.initialized "java/lang/System" ∈ gtb) (ha : 14 ≤ k ∧ aT k = 0 ∧ aL k = n) (hi : i < cnt k) (d : decode cc pc = .ok (.invokestatic index, 3)) (kk : cpok sp dp m0 n = true → Im X g nL Qz (row3 σ k i (va_cpy (σ k i) (σ k i) (tn sp) (tn dp) (tn m0))) (pc + 3) lv st o) : Im X g nL Qz σ pc lv (.int m0 :: .int dp :: .ref (g.2.1 k i) :: .int sp :: .ref (g.2.1 k i) :: st) (chk (cpok sp dp m0 n) o) := by
  refine im_chk (fun hg => ?_)
  have kk := kk hg
  obtain ⟨c1, c2, c3, c4, c5⟩ := of_decide_eq_true hg
  obtain ⟨p, l, e, R, s, m, args, below, meth, c, A, cells, slots⟩ := X
  obtain ⟨⟨hx, hb, hml, hown, hts⟩, hR, hI, hA, hK, hN⟩ := hF
  intro r hr H locs ls hP hS hl
  obtain ⟨q, hq, hq2⟩ := ws_at g σ hi
  rw [GE_arr g i _ ha.1, ha.2.1, ha.2.2] at hq
  have hnw : nativeFrameWords "java/lang/System" "arraycopy" 5 ≤ 100 := by decide
  refine va_copyi (D := g.1) hx hb (hml.trans hl.1.symm) hown (hts _ hl1) (hts _ h2.1) (hts _ h2.2.1) (hts _ h2.2.2) hK hP (ws_D hI hA σ) hS q q 0 0 hq hq rfl rfl rfl c1 c2 c3 c4 c5 (fun _ _ => rfl) (by omega) (by omega) d (fun H1 locs1 hP1 hD1 hS1 => kk r hr H1 locs1 ls ?_ hS1 hl)
  rw [← ws_set g σ hq2, GE_arr g i _ ha.1, ha.2.1, ha.2.2]
  exact hP1
theorem im_sld (hF : Fx X g own cc nL fr lo) {b L : Nat} {xs : Nat → Int32} (hX : SX X b L xs) {x : Int32} (d : decode cc pc = .ok (.iaload, 1)) (kk : gi x L = true → Im X g nL Qz σ (pc + 1) lv (.int (xs (tn x)) :: st) o) : Im X g nL Qz σ pc lv (.int x :: .ref b :: st) (chk (gi x L) o) := by
  refine im_chk (fun hg => ?_)
  have kk := kk hg
  obtain ⟨p, l, e, R, s, m, args, below, meth, c, A, cells, slots⟩ := X
  obtain ⟨⟨hx, hb, hml, hown, hts⟩, hR, hI, hA, hK, hN⟩ := hF
  obtain ⟨h1, h2, h3⟩ := hX
  intro r hr H locs ls hP hS hl
  exact va_sld hx hb h1 h2 h3 hS (gi_in hg) d (kk r hr H locs ls hP hS hl)
theorem im_slen (hF : Fx X g own cc nL fr lo) {b L : Nat} {xs : Nat → Int32} (hX : SX X b L xs) (d : decode cc pc = .ok (.arraylength, 1)) (kk : Im X g nL Qz σ (pc + 1) lv (.int (Int32.ofNat L) :: st) o) : Im X g nL Qz σ pc lv (.ref b :: st) o := by
  obtain ⟨p, l, e, R, s, m, args, below, meth, c, A, cells, slots⟩ := X
  obtain ⟨⟨hx, hb, hml, hown, hts⟩, hR, hI, hA, hK, hN⟩ := hF
  obtain ⟨h1, h2, h3⟩ := hX
  intro r hr H locs ls hP hS hl
  exact va_slen hx hb h1 h2 h3 hS d (kk r hr H locs ls hP hS hl)
theorem im_callVI {f : Option (Int32 × Sg)} {ko : (Int32 × Sg) → Option ρ} (hF : Fx X g own cc nL fr lo) {y : MethodName} {cc' : ByteArray} {maxL' : Nat} {ret' : Option FieldType} {n fr' lo' index k i : Nat} {As rest : List Value} (my : MY y cc' maxL' ret' n) (mv : MV y) (ml : Cond.methodLink own index y ∈ gtb) (hC : ∀ (l : Launch) (r' : (Int32 × Sg)), f = some r' → Ct l y cc' maxL' ret' fr' lo' g (.ref (g.2.1 k i) :: As) σ (embI r')) (hR : fr' + 1 ≤ fr ∧ 8 + (maxL' + 11) + lo' ≤ lo) (hk : k < 11) (hi : i < cnt k) (hcl : ∃ q : vw_C, vwCl[k]? = some q ∧ q.1 = y.cls) (hn : As.length = n) (hst : st = As.reverse ++ .ref (g.2.1 k i) :: rest) (hw : (rest.map fun v => v.category).sum ≤ 8) (d : decode cc pc = .ok (.invokevirtual index, 3)) (kk : ∀ q : (Int32 × Sg), Im X g nL Qz q.2 (pc + 3) lv (.int q.1 :: rest) (ko q)) : Im X g nL Qz σ pc lv st (Option.bind f ko) := im_callV (emb' := embI) hF my mv ml hC hR hk hi hcl hn hst hw d kk
theorem im_callSI {f : Option (Int32 × Sg)} {ko : (Int32 × Sg) → Option ρ} (hF : Fx X g own cc nL fr lo) {y : MethodName} {cc' : ByteArray} {maxL' : Nat} {ret' : Option FieldType} {n fr' lo' index : Nat} {As rest : List Value} (my : MY y cc' maxL' ret' n) (ms : Cond.static y ∈ gtb) (ml : Cond.methodLink own index y ∈ gtb) (hC : ∀ (l : Launch) (r' : (Int32 × Sg)), f = some r' → Ct l y cc' maxL' ret' fr' lo' g As σ (embI r')) (hR : fr' + 1 ≤ fr ∧ 8 + (maxL' + 11) + lo' ≤ lo) (hn : As.length = n) (hst : st = As.reverse ++ rest) (hw : (rest.map fun v => v.category).sum ≤ 8) (d : decode cc pc = .ok (.invokestatic index, 3)) (kk : ∀ q : (Int32 × Sg), Im X g nL Qz q.2 (pc + 3) lv (.int q.1 :: rest) (ko q)) : Im X g nL Qz σ pc lv st (Option.bind f ko) := im_callS (emb' := embI) hF my ms ml hC hR hn hst hw d kk
theorem im_callNI {f : Option (Int32 × Sg)} {ko : (Int32 × Sg) → Option ρ} (hF : Fx X g own cc nL fr lo) {y : MethodName} {cc' : ByteArray} {maxL' : Nat} {ret' : Option FieldType} {n fr' lo' index : Nat} {As rest : List Value} (my : MY y cc' maxL' ret' n) (ms : Cond.static y ∈ gtb) {host : String} (ml : (own, index, y, host) ∈ nests) (hC : ∀ (l : Launch) (r' : (Int32 × Sg)), f = some r' → Ct l y cc' maxL' ret' fr' lo' g As σ (embI r')) (hR : fr' + 1 ≤ fr ∧ 8 + (maxL' + 11) + lo' ≤ lo) (hn : As.length = n) (hst : st = As.reverse ++ rest) (hw : (rest.map fun v => v.category).sum ≤ 8) (d : decode cc pc = .ok (.invokestatic index, 3)) (kk : ∀ q : (Int32 × Sg), Im X g nL Qz q.2 (pc + 3) lv (.int q.1 :: rest) (ko q)) : Im X g nL Qz σ pc lv st (Option.bind f ko) := im_callN (emb' := embI) hF my ms ml hC hR hn hst hw d kk
theorem im_callVL {f : Option (Int64 × Sg)} {ko : (Int64 × Sg) → Option ρ} (hF : Fx X g own cc nL fr lo) {y : MethodName} {cc' : ByteArray} {maxL' : Nat} {ret' : Option FieldType} {n fr' lo' index k i : Nat} {As rest : List Value} (my : MY y cc' maxL' ret' n) (mv : MV y) (ml : Cond.methodLink own index y ∈ gtb) (hC : ∀ (l : Launch) (r' : (Int64 × Sg)), f = some r' → Ct l y cc' maxL' ret' fr' lo' g (.ref (g.2.1 k i) :: As) σ (embL r')) (hR : fr' + 1 ≤ fr ∧ 8 + (maxL' + 11) + lo' ≤ lo) (hk : k < 11) (hi : i < cnt k) (hcl : ∃ q : vw_C, vwCl[k]? = some q ∧ q.1 = y.cls) (hn : As.length = n) (hst : st = As.reverse ++ .ref (g.2.1 k i) :: rest) (hw : (rest.map fun v => v.category).sum ≤ 8) (d : decode cc pc = .ok (.invokevirtual index, 3)) (kk : ∀ q : (Int64 × Sg), Im X g nL Qz q.2 (pc + 3) lv (.long q.1 :: rest) (ko q)) : Im X g nL Qz σ pc lv st (Option.bind f ko) := im_callV (emb' := embL) hF my mv ml hC hR hk hi hcl hn hst hw d kk
theorem im_callSL {f : Option (Int64 × Sg)} {ko : (Int64 × Sg) → Option ρ} (hF : Fx X g own cc nL fr lo) {y : MethodName} {cc' : ByteArray} {maxL' : Nat} {ret' : Option FieldType} {n fr' lo' index : Nat} {As rest : List Value} (my : MY y cc' maxL' ret' n) (ms : Cond.static y ∈ gtb) (ml : Cond.methodLink own index y ∈ gtb) (hC : ∀ (l : Launch) (r' : (Int64 × Sg)), f = some r' → Ct l y cc' maxL' ret' fr' lo' g As σ (embL r')) (hR : fr' + 1 ≤ fr ∧ 8 + (maxL' + 11) + lo' ≤ lo) (hn : As.length = n) (hst : st = As.reverse ++ rest) (hw : (rest.map fun v => v.category).sum ≤ 8) (d : decode cc pc = .ok (.invokestatic index, 3)) (kk : ∀ q : (Int64 × Sg), Im X g nL Qz q.2 (pc + 3) lv (.long q.1 :: rest) (ko q)) : Im X g nL Qz σ pc lv st (Option.bind f ko) := im_callS (emb' := embL) hF my ms ml hC hR hn hst hw d kk
theorem im_callNL {f : Option (Int64 × Sg)} {ko : (Int64 × Sg) → Option ρ} (hF : Fx X g own cc nL fr lo) {y : MethodName} {cc' : ByteArray} {maxL' : Nat} {ret' : Option FieldType} {n fr' lo' index : Nat} {As rest : List Value} (my : MY y cc' maxL' ret' n) (ms : Cond.static y ∈ gtb) {host : String} (ml : (own, index, y, host) ∈ nests) (hC : ∀ (l : Launch) (r' : (Int64 × Sg)), f = some r' → Ct l y cc' maxL' ret' fr' lo' g As σ (embL r')) (hR : fr' + 1 ≤ fr ∧ 8 + (maxL' + 11) + lo' ≤ lo) (hn : As.length = n) (hst : st = As.reverse ++ rest) (hw : (rest.map fun v => v.category).sum ≤ 8) (d : decode cc pc = .ok (.invokestatic index, 3)) (kk : ∀ q : (Int64 × Sg), Im X g nL Qz q.2 (pc + 3) lv (.long q.1 :: rest) (ko q)) : Im X g nL Qz σ pc lv st (Option.bind f ko) := im_callN (emb' := embL) hF my ms ml hC hR hn hst hw d kk
theorem im_callVV {f : Option Sg} {ko : Sg → Option ρ} (hF : Fx X g own cc nL fr lo) {y : MethodName} {cc' : ByteArray} {maxL' : Nat} {ret' : Option FieldType} {n fr' lo' index k i : Nat} {As rest : List Value} (my : MY y cc' maxL' ret' n) (mv : MV y) (ml : Cond.methodLink own index y ∈ gtb) (hC : ∀ (l : Launch) (r' : Sg), f = some r' → Ct l y cc' maxL' ret' fr' lo' g (.ref (g.2.1 k i) :: As) σ (embV r')) (hR : fr' + 1 ≤ fr ∧ 8 + (maxL' + 11) + lo' ≤ lo) (hk : k < 11) (hi : i < cnt k) (hcl : ∃ q : vw_C, vwCl[k]? = some q ∧ q.1 = y.cls) (hn : As.length = n) (hst : st = As.reverse ++ .ref (g.2.1 k i) :: rest) (hw : (rest.map fun v => v.category).sum ≤ 8) (d : decode cc pc = .ok (.invokevirtual index, 3)) (kk : ∀ q : Sg, Im X g nL Qz q (pc + 3) lv rest (ko q)) : Im X g nL Qz σ pc lv st (Option.bind f ko) := im_callV (emb' := embV) hF my mv ml hC hR hk hi hcl hn hst hw d kk
theorem im_callSV {f : Option Sg} {ko : Sg → Option ρ} (hF : Fx X g own cc nL fr lo) {y : MethodName} {cc' : ByteArray} {maxL' : Nat} {ret' : Option FieldType} {n fr' lo' index : Nat} {As rest : List Value} (my : MY y cc' maxL' ret' n) (ms : Cond.static y ∈ gtb) (ml : Cond.methodLink own index y ∈ gtb) (hC : ∀ (l : Launch) (r' : Sg), f = some r' → Ct l y cc' maxL' ret' fr' lo' g As σ (embV r')) (hR : fr' + 1 ≤ fr ∧ 8 + (maxL' + 11) + lo' ≤ lo) (hn : As.length = n) (hst : st = As.reverse ++ rest) (hw : (rest.map fun v => v.category).sum ≤ 8) (d : decode cc pc = .ok (.invokestatic index, 3)) (kk : ∀ q : Sg, Im X g nL Qz q (pc + 3) lv rest (ko q)) : Im X g nL Qz σ pc lv st (Option.bind f ko) := im_callS (emb' := embV) hF my ms ml hC hR hn hst hw d kk
theorem im_callNV {f : Option Sg} {ko : Sg → Option ρ} (hF : Fx X g own cc nL fr lo) {y : MethodName} {cc' : ByteArray} {maxL' : Nat} {ret' : Option FieldType} {n fr' lo' index : Nat} {As rest : List Value} (my : MY y cc' maxL' ret' n) (ms : Cond.static y ∈ gtb) {host : String} (ml : (own, index, y, host) ∈ nests) (hC : ∀ (l : Launch) (r' : Sg), f = some r' → Ct l y cc' maxL' ret' fr' lo' g As σ (embV r')) (hR : fr' + 1 ≤ fr ∧ 8 + (maxL' + 11) + lo' ≤ lo) (hn : As.length = n) (hst : st = As.reverse ++ rest) (hw : (rest.map fun v => v.category).sum ≤ 8) (d : decode cc pc = .ok (.invokestatic index, 3)) (kk : ∀ q : Sg, Im X g nL Qz q (pc + 3) lv rest (ko q)) : Im X g nL Qz σ pc lv st (Option.bind f ko) := im_callN (emb' := embV) hF my ms ml hC hR hn hst hw d kk
end R4
