/-! new, dup, <init> at one go; blocks in a row -/
def MkB (own : String) (i1 i2 ci : Nat) (fs : List Value) (y : MethodName) (cc' : ByteArray) (maxL' : Nat) : Prop := ∃ (C : String) (T : u_T) (ty : Nat → FieldType), vwCl[ci]? = some (C, T, nf ci) ∧ (∀ w ∈ u_ws C T (nf ci), w ∈ gtb) ∧ (∀ k, k < nf ci → parseFieldDescriptor (T k).2.2.1 = some (ty k)) ∧ (∀ j, j < nf ci → defaultValue (ty j) = vp_V fs j) ∧ Cond.classLink own i1 C ∈ gtb ∧ Cond.instantiable C (nf ci) ∈ gtb ∧ Cond.initialized C ∈ gtb ∧ MY y cc' maxL' none 0 ∧ y.name = "<init>" ∧ Cond.instanceMethod y ∈ gtb ∧ Cond.methodLink own i2 y ∈ gtb
theorem mk_0 : MkB "OceanMail" 7 9 0 bl0 yX0_init cX0_init 2 := ⟨RX0, TX0, tyX0, rfl, inG0, tyX0_ok, df_0, wc_23, wc_24, wc_2, mi_0, rfl, wc_26, wc_25⟩
theorem mk_1 : MkB "OceanMail$Books" 9 11 1 bl1 yX1_init cX1_init 1 := ⟨RX1, TX1, tyX1, rfl, inG1, tyX1_ok, df_1, wc_29, wc_30, wc_3, mi_1, rfl, wc_32, wc_31⟩
theorem mk_2 : MkB "OceanMail$Books" 32 38 2 bl2 yX2_init cX2_init 1 := ⟨RX2, TX2, tyX2, rfl, inG2, tyX2_ok, df_2, wc_132, wc_134, wc_6, mi_2, rfl, wc_136, wc_135⟩
theorem mk_3 : MkB "OceanMail" 30 32 3 bl3 yX3_init cX3_init 2 := ⟨RX3, TX3, tyX3, rfl, inG3, tyX3_ok, df_3, wc_251, wc_252, wc_9, mi_3, rfl, wc_254, wc_253⟩
theorem mk_4 : MkB "OceanMail" 37 39 4 bl4 yX4_init cX4_init 1 := ⟨RX4, TX4, tyX4, rfl, inG4, tyX4_ok, df_4, wc_318, wc_319, wc_11, mi_4, rfl, wc_321, wc_320⟩
theorem mk_5 : MkB "OceanMail" 23 25 5 bl5 yX5_init cX5_init 1 := ⟨RX5, TX5, tyX5, rfl, inG5, tyX5_ok, df_5, wc_215, wc_216, wc_8, mi_5, rfl, wc_218, wc_217⟩
theorem mk_6 : MkB "OceanMail$Course" 9 17 6 bl6 yX6_init cX6_init 1 := ⟨RX6, TX6, tyX6, rfl, inG6, tyX6_ok, df_6, wc_257, wc_259, wc_10, mi_6, rfl, wc_261, wc_260⟩
theorem mk_7 : MkB "OceanMail" 16 18 7 bl7 yX7_init cX7_init 1 := ⟨RX7, TX7, tyX7, rfl, inG7, tyX7_ok, df_7, wc_200, wc_201, wc_7, mi_7, rfl, wc_203, wc_202⟩
theorem mk_8 : MkB "OceanMail$Books" 18 24 8 bl8 yX8_init cX8_init 1 := ⟨RX8, TX8, tyX8, rfl, inG8, tyX8_ok, df_8, wc_56, wc_58, wc_4, mi_8, rfl, wc_60, wc_59⟩
theorem mk_9 : MkB "OceanMailLaw" 7 9 9 bl9 yX9_init cX9_init 1 := ⟨RX9, TX9, tyX9, rfl, inG9, tyX9_ok, df_9, wc_15, wc_16, wc_1, mi_9, rfl, wc_18, wc_17⟩
theorem mk_10 : MkB "OceanMailLaw" 10 12 10 bl10 yX10_init cX10_init 1 := ⟨RX10, TX10, tyX10, rfl, inG10, tyX10_ok, df_10, wc_749, wc_750, wc_12, mi_10, rfl, wc_752, wc_751⟩
section JK
variable {X : Cx} {g : GT} {B : Nat} {own : String} {cc : ByteArray} {nL fr lo nc ns : Nat} {Q : State → Prop} {z z' κ κ' ς ς' : Nat} {w V V' : va_W} {pc : Nat} {lv : List (Nat × Value)} {st : List Value}
theorem jm_mk (hF : Fy X g B own cc nL fr lo nc ns) {y : MethodName} {cc' : ByteArray} {maxL' fr' lo' nc' ns' i1 i2 ci m : Nat} {fs : List Value} {V1 : va_W} (b : MkB own i1 i2 ci fs y cc' maxL') (hC : ∀ (l : Launch) (w0 : va_W), Cn l y cc' maxL' fr' lo' nc' ns' g [.ref z] B w0 [(z, .inr (ci, fs))] V1 (z + 1) (z + m)) (hR : fr' + 1 ≤ fr ∧ 8 + (maxL' + 11) + lo' ≤ lo) (hz' : z + m = z') (hκ : κ + 1 + nc' = κ') (hς : ς + nf ci + ns' = ς') (hnc : κ' ≤ nc) (hns : ς' ≤ ns) (hV : V ++ V1 = V') (hw : ((Value.ref z :: st).map fun v => v.category).sum ≤ 8) (d1 : decode cc pc = .ok (.new i1, 3)) (d2 : decode cc (pc + 3) = .ok (.dup, 1)) (d3 : decode cc (pc + 4) = .ok (.invokespecial i2, 3)) (k : Jm X g nL Q z' κ' ς' w V' (pc + 7) lv (.ref z :: st)) : Jm X g nL Q z κ ς w V pc lv st := by
  obtain ⟨C, T, ty, h1, h2, h3, h4, h5, h6, h7, h8, h9, h10, h11⟩ := b
  subst hz'
  refine jm_new hF T ty h1 h2 h3 h4 h5 h6 h7 rfl rfl rfl (by omega) (by omega) rfl d1 ?_
  refine jm_dup hF d2 rfl ?_
  exact jm_init hF h8 h9 h10 h11 hC hR hκ hς hnc hns rfl hV hw d3 k
end JK
def rpt (bk : Nat → va_W) (b c : Nat) : Nat → va_W
  | 0 => []
  | n + 1 => rpt bk b c n ++ bk (b + c * n)
def sf (b c n : Nat) : Nat → Option Nat := fun j => if j < n then some (b + c * j) else none
theorem sf_0 (b c : Nat) : sf b c 0 = fun _ => none := by
  funext j
  exact if_neg (Nat.not_lt_zero j)
theorem sf_succ (b c i : Nat) : va_up (sf b c i) i (some (b + c * i)) = sf b c (i + 1) := by
  funext j
  unfold va_up sf
  by_cases h : j = i
  · rw [if_pos h, if_pos (by omega), h]
  · rw [if_neg h]
    by_cases h2 : j < i
    · rw [if_pos h2, if_pos (by omega)]
    · rw [if_neg h2, if_neg (by omega)]
abbrev rfs (f : Nat → Option Nat) : (Nat → Int32) ⊕ (Nat → Int64) ⊕ (Nat → UInt32) ⊕ (Nat → UInt64) ⊕ (Nat → Option Nat) := .inr (.inr (.inr (.inr f)))
def bk3 (g : GT) (a : Nat) : va_W := (a, .inr (3, [.ref (a + 1), .ref (a + 62), .int 1])) :: (a + 1, .inl (g.2.2 4, 10, rfs (sf (a + 2) 6 10))) :: (rpt (bk6 g) (a + 2) 6 10 ++ [(a + 62, .inl (g.2.2 0, 5, .inl (fun _ => 0)))])
theorem n_X3 (l : Launch) (g : GT) (B a : Nat) (w : va_W) : Cn l yX3_init cX3_init 2 2 32 62 715 g [.ref a] B w [(a, .inr (3, bl3))] (bk3 g a) (a + 1) (a + 63) := by
  refine cn_of (by decide) (Nat.le_of_ble_eq_true rfl) (fun X hF hM => ?_)
  have hN := hM.ni rfl
  unfold bl3
  have loop : ∀ q i : Nat, i + q = 10 → Jm X g 2 (Qn X g B 62 715 w (bk3 g a) (a + 63)) (a + 2 + 6 * i) (1 + 6 * i) (10 + 70 * i) w ((a, .inr (3, [.ref (a + 1), .null, .int 0])) :: (a + 1, .inl (g.2.2 4, 10, rfs (sf (a + 2) 6 i))) :: rpt (bk6 g) (a + 2) 6 i) 15 [(1, .int (nI i)), (0, .ref a)] [] := by
    intro q
    induction q with
    | zero =>
      intro i hi
      have hi : i = 10 := by omega
      subst hi
      refine jm_iload_n hF dX3_init_15 0 rfl ?_
      refine jm_bipush hF (v := nI 10) dX3_init_16 (by decide) ?_
      refine jm_icmp_ge hF 40 dX3_init_18 (by decide) (fun _ => ?_) (fun h => absurd (nI_le (Nat.le_refl _) (by decide)) h)
      refine jm_aload_n hF dX3_init_40 1 rfl ?_
      refine jm_iconst hF (v := (5 : Int32)) dX3_init_41 (by decide) ?_
      refine jm_fld hF hN (atype := .int) (t := 0) (N := 5) (z' := a + 63) (κ' := 62) (ς' := 715) fc_3_18 wc_55 rfl rfl (by decide) (by decide) (by decide) rfl rfl rfl (by decide) (by decide) rfl rfl rfl dX3_init_42 dX3_init_44 ?_
      refine jm_aload_n hF dX3_init_47 1 rfl ?_
      refine jm_iconst hF (v := (1 : Int32)) dX3_init_48 (by decide) ?_
      refine jm_put hF hN (V' := bk3 g a) 0 fc_3_22 rfl rfl rfl rfl rfl dX3_init_49 ?_
      exact jm_vret hF hM dX3_init_52
    | succ q ih =>
      intro i hi
      refine jm_iload_n hF dX3_init_15 0 rfl ?_
      refine jm_bipush hF (v := nI 10) dX3_init_16 (by decide) ?_
      refine jm_icmp_ge hF 40 dX3_init_18 (by decide) (fun h => absurd h (nI_ge (by omega) (by decide))) (fun _ => ?_)
      refine jm_aload_n hF dX3_init_21 1 rfl ?_
      refine jm_get hF 0 fg_3_11 rfl rfl dX3_init_22 ?_
      refine jm_iload_n hF dX3_init_25 0 rfl ?_
      refine jm_mk hF (z' := a + 2 + 6 * (i + 1)) (κ' := 1 + 6 * (i + 1)) (ς' := 10 + 70 * (i + 1)) mk_6 (fun l w0 => n_X6 l g B _ w0) ⟨by decide, by decide⟩ (by omega) (by omega) (by show _ + 9 + 61 = _; omega) (by omega) (by omega) rfl (Nat.le_of_ble_eq_true rfl) dX3_init_26 dX3_init_29 dX3_init_30 ?_
      refine jm_ast hF (t := 4) (r := (RX6, TX6, 9)) (V' := (a, .inr (3, [.ref (a + 1), .null, .int 0])) :: (a + 1, .inl (g.2.2 4, 10, rfs (sf (a + 2) 6 (i + 1)))) :: rpt (bk6 g) (a + 2) 6 (i + 1)) 1 rfl rfl (List.mem_cons_of_mem _ (List.mem_cons_of_mem _ (List.mem_append_right _ List.mem_cons_self))) rfl (nI_in (by omega) (by decide)) ?_ dX3_init_33 ?_
      · rw [nI_clamp (by omega), sf_succ]
        rfl
      refine jm_iinc hF (v := nI (i + 1)) (lv' := [(1, .int (nI (i + 1))), (0, .ref a)]) dX3_init_34 0 rfl (by rw [nI_succ]; rfl) (by decide) rfl ?_
      refine jm_goto hF 15 dX3_init_37 (by decide) ?_
      exact ih (i + 1) (by omega)
  refine jm_aload_n hF dX3_init_0 0 rfl ?_
  refine jm_obj hF wc_256 ob_w (by decide) (by decide) dX3_init_1 ?_
  refine jm_aload_n hF dX3_init_4 0 rfl ?_
  refine jm_bipush hF (v := (10 : Int32)) dX3_init_5 (by decide) ?_
  refine jm_newq hF (C := "OceanMail$Sailing") (t := 4) (N := 10) (z' := a + 2) (κ' := 1) (ς' := 10) wc_257 (fun U h => h.2.1) rfl (by decide) (by decide) (by decide) rfl rfl rfl (by decide) (by decide) rfl dX3_init_7 ?_
  refine jm_put hF hN (V' := (a, .inr (3, [.ref (a + 1), .null, .int 0])) :: (a + 1, .inl (g.2.2 4, 10, rfs (sf (a + 2) 6 0))) :: rpt (bk6 g) (a + 2) 6 0) 0 fc_3_11 rfl rfl rfl rfl (by rw [sf_0]; rfl) dX3_init_10 ?_
  refine jm_iconst hF (v := nI 0) dX3_init_13 (by decide) ?_
  refine jm_istore_n hF (i := 1) (lv' := [(1, .int (nI 0)), (0, .ref a)]) dX3_init_14 rfl (by decide) rfl ?_
  exact loop 10 0 (by omega)
