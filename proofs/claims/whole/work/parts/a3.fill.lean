/-! a new array into a field; Arrays.fill over a cell of the list -/
section JF
variable {X : Cx} {g : GT} {B : Nat} {own : String} {cc : ByteArray} {nL fr lo nc ns : Nat} {Q : State → Prop} {z z' κ κ' ς ς' : Nat} {w V V' : va_W} {pc : Nat} {lv : List (Nat × Value)} {st : List Value}
theorem jm_fld (hF : Fy X g B own cc nL fr lo nc ns) (hN : NI X) {atype : ArrayType} {t N index k j a : Nat} {ty : FieldType} {n : Int32} {fs : List Value} {U : va_W} (fp : FC own index k j ty) (ha : Cond.arrayClass (newarray.typeOf atype) ∈ gtb) (ht : (tys g)[t]? = some (g.2.2 t, newarray.typeOf atype)) (hdv : defaultValue (newarray.typeOf atype) = .int 0) (hn : ¬ n < 0) (hNN : n.toNatClampNeg = N) (hby : N * componentBytes (newarray.typeOf atype) ≤ 536870912) (hz' : z + 1 = z') (hκ : κ + 1 = κ') (hς : ς + N = ς') (hnc : κ' ≤ nc) (hns : ς' ≤ ns) (hnw : narrow ty (.ref z) = .ref z) (hfit : fits ty (.ref z) = true) (hlen : fs.length = nf k) (d1 : decode cc pc = .ok (.newarray atype, 2)) (d2 : decode cc (pc + 2) = .ok (.putfield index, 3)) (kk : Jm X g nL Q z' κ' ς' w ((a, .inr (k, fs.set j (.ref z))) :: (U ++ [(z, .inl (g.2.2 t, N, .inl (fun _ => 0)))])) (pc + 5) lv st) : Jm X g nL Q z κ ς w ((a, .inr (k, fs)) :: U) pc lv (.int n :: .ref a :: st) :=
  jm_newa hF ha ht hdv hn hNN hby hz' hκ hς hnc hns rfl d1 (jm_put hF hN 0 fp rfl hlen hnw hfit rfl d2 kk)
theorem jm_sub {lv' : List (Nat × Value)} (ks : List Nat) (hl : lv_pick lv ks = lv') (k : Jm X g nL Q z κ ς w V pc lv' st) : Jm X g nL Q z κ ς w V pc lv st := by
  obtain ⟨p, l, e, R, s, m, args, below, meth, c, A, _, _⟩ := X
  intro H locs ls hP hD hS hz h
  exact k H locs ls hP hD hS hz (lv_sub h ks hl)
end JF
def fvI (v : Int32) (f : Nat → Int32) (n : Nat) : Nat → Int32 := fun j => if j < n then v else f j
theorem fvI_0 (v : Int32) (f : Nat → Int32) : fvI v f 0 = f := by
  funext j
  exact if_neg (Nat.not_lt_zero j)
theorem fvI_succ (v : Int32) (f : Nat → Int32) (i : Nat) : upd (fvI v f i) i v = fvI v f (i + 1) := by
  funext j
  unfold upd fvI
  by_cases h : j = i
  · rw [if_pos h, if_pos (by omega)]
  · rw [if_neg h]
    by_cases h2 : j < i
    · rw [if_pos h2, if_pos (by omega)]
    · rw [if_neg h2, if_neg (by omega)]
theorem n_fill (l : Launch) (g : GT) (B b n : Nat) (f : Nat → Int32) (v : Int32) (hn : n < 2 ^ 31) (w U : va_W) (z : Nat) : Cn l yJ7_fill_53178 cJ7_fill_53178 4 0 0 0 0 g [.ref b, .int v] B w ((b, .inl (g.2.2 0, n, .inl f)) :: U) ((b, .inl (g.2.2 0, n, .inl (fvI v f n))) :: U) z z := by
  refine cn_of (by decide) (Nat.le_of_ble_eq_true rfl) (fun X hF hM => ?_)
  have loop : ∀ q i : Nat, i + q = n → Jm X g 4 (Qn X g B 0 0 w ((b, .inl (g.2.2 0, n, .inl (fvI v f n))) :: U) z) z 0 0 w ((b, .inl (g.2.2 0, n, .inl (fvI v f i))) :: U) 5 [(2, .int (nI i)), (3, .int (nI n)), (0, .ref b), (1, .int v)] [] := by
    intro q
    induction q with
    | zero =>
      intro i hi
      have hi : i = n := by omega
      subst hi
      refine jm_iload_n hF dJ7_fill_53178_5 0 rfl ?_
      refine jm_iload_n hF dJ7_fill_53178_6 1 rfl ?_
      refine jm_icmp_ge hF 20 dJ7_fill_53178_7 (by decide) (fun _ => ?_) (fun h => absurd (nI_le (Nat.le_refl _) hn) h)
      exact jm_vret hF hM dJ7_fill_53178_20
    | succ q ih =>
      intro i hi
      refine jm_iload_n hF dJ7_fill_53178_5 0 rfl ?_
      refine jm_iload_n hF dJ7_fill_53178_6 1 rfl ?_
      refine jm_icmp_ge hF 20 dJ7_fill_53178_7 (by decide) (fun h => absurd h (nI_ge (by omega) hn)) (fun _ => ?_)
      refine jm_aload_n hF dJ7_fill_53178_10 2 rfl ?_
      refine jm_iload_n hF dJ7_fill_53178_11 0 rfl ?_
      refine jm_iload_n hF dJ7_fill_53178_12 3 rfl ?_
      refine jm_iast hF (V' := (b, .inl (g.2.2 0, n, .inl (fvI v f (i + 1)))) :: U) 0 rfl (nI_in (by omega) hn) ?_ dJ7_fill_53178_13 ?_
      · rw [nI_clamp (by omega), ← fvI_succ]
        rfl
      refine jm_iinc hF (v := nI (i + 1)) (lv' := [(2, .int (nI (i + 1))), (3, .int (nI n)), (0, .ref b), (1, .int v)]) dJ7_fill_53178_14 0 rfl (by rw [nI_succ]; rfl) (by decide) rfl ?_
      refine jm_goto hF 5 dJ7_fill_53178_17 (by decide) ?_
      exact ih (i + 1) (by omega)
  refine jm_iconst hF (v := 0) dJ7_fill_53178_0 (by decide) ?_
  refine jm_istore_n hF (i := 2) (lv' := [(2, .int 0), (0, .ref b), (1, .int v)]) dJ7_fill_53178_1 rfl (by decide) rfl ?_
  refine jm_aload_n hF dJ7_fill_53178_2 1 rfl ?_
  refine jm_alen hF (v := nI n) 0 rfl rfl dJ7_fill_53178_3 ?_
  refine jm_istore_n hF (i := 3) (lv' := [(3, .int (nI n)), (2, .int 0), (0, .ref b), (1, .int v)]) dJ7_fill_53178_4 rfl (by decide) rfl ?_
  refine jm_sub (lv' := [(2, .int 0), (3, .int (nI n)), (0, .ref b), (1, .int v)]) [1, 0, 2, 3] rfl ?_
  have h0 := loop n 0 (by omega)
  rw [fvI_0, nI_0] at h0
  exact h0
