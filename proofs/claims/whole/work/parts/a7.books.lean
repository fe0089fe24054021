/-! constructors of Books and OceanMail -/
def vb1 (g : GT) (a i : Nat) : va_W := (a, .inr (0, [.ref (a + 1), .ref (a + 6), .int 0, .int 0, .null, .null])) :: (bk1 g (a + 1) ++ ((a + 6, .inl (g.2.2 3, 10, rfs (sf (a + 7) 9 i))) :: rpt (bk8 g) (a + 7) 9 i))
def vb2 (g : GT) (a i : Nat) : va_W := (a, .inr (0, [.ref (a + 1), .ref (a + 6), .int 0, .int 0, .ref (a + 97), .null])) :: (bk1 g (a + 1) ++ ((a + 6, .inl (g.2.2 3, 10, rfs (sf (a + 7) 9 10))) :: (rpt (bk8 g) (a + 7) 9 10 ++ ((a + 97, .inl (g.2.2 5, 4, rfs (sf (a + 98) 7 i))) :: rpt (bk2 g) (a + 98) 7 i))))
def bk0 (g : GT) (a : Nat) : va_W := (a, .inr (0, [.ref (a + 1), .ref (a + 6), .int 0, .int 0, .ref (a + 97), .ref (a + 126)])) :: (bk1 g (a + 1) ++ ((a + 6, .inl (g.2.2 3, 10, rfs (sf (a + 7) 9 10))) :: (rpt (bk8 g) (a + 7) 9 10 ++ ((a + 97, .inl (g.2.2 5, 4, rfs (sf (a + 98) 7 4))) :: (rpt (bk2 g) (a + 98) 7 4 ++ bk2 g (a + 126))))))
theorem n_X0 (l : Launch) (g : GT) (B a : Nat) (w : va_W) : Cn l yX0_init cX0_init 2 2 43 132 4064 g [.ref a] B w [(a, .inr (0, bl0))] (bk0 g a) (a + 1) (a + 133) := by
  refine cn_of (by decide) (Nat.le_of_ble_eq_true rfl) (fun X hF hM => ?_)
  have hN := hM.ni rfl
  unfold bl0
  have loop2 : ∀ q i : Nat, i + q = 4 → Jm X g 2 (Qn X g B 132 4064 w (bk0 g a) (a + 133)) (a + 98 + 7 * i) (97 + 7 * i) (839 + 645 * i) w (vb2 g a i) 71 [(1, .int (nI i)), (0, .ref a)] [] := by
    intro q
    induction q with
    | zero =>
      intro i hi
      have hi : i = 4 := by omega
      subst hi
      refine jm_iload_n hF dX0_init_71 0 rfl ?_
      refine jm_iconst hF (v := nI 4) dX0_init_72 (by decide) ?_
      refine jm_icmp_ge hF 95 dX0_init_73 (by decide) (fun _ => ?_) (fun h => absurd (nI_le (Nat.le_refl _) (by decide)) h)
      refine jm_aload_n hF dX0_init_95 1 rfl ?_
      refine jm_mk hF (z' := a + 133) (κ' := 132) (ς' := 4064) mk_2 (fun l w0 => n_X2 l g B _ w0) ⟨by decide, by decide⟩ rfl rfl rfl (by decide) (by decide) rfl (Nat.le_of_ble_eq_true rfl) dX0_init_96 dX0_init_99 dX0_init_100 ?_
      refine jm_put hF hN (V' := bk0 g a) 0 fc_0_39 rfl rfl rfl rfl ?_ dX0_init_103 ?_
      · unfold vb2 bk0
        simp only [List.cons_append, List.append_assoc, List.set_cons_zero, List.set_cons_succ]
      exact jm_vret hF hM dX0_init_106
    | succ q ih =>
      intro i hi
      refine jm_iload_n hF dX0_init_71 0 rfl ?_
      refine jm_iconst hF (v := nI 4) dX0_init_72 (by decide) ?_
      refine jm_icmp_ge hF 95 dX0_init_73 (by decide) (fun h => absurd h (nI_ge (by omega) (by decide))) (fun _ => ?_)
      refine jm_aload_n hF dX0_init_76 1 rfl ?_
      refine jm_get hF 0 fg_0_34 rfl rfl dX0_init_77 ?_
      refine jm_iload_n hF dX0_init_80 0 rfl ?_
      refine jm_mk hF (z' := a + 98 + 7 * (i + 1)) (κ' := 97 + 7 * (i + 1)) (ς' := 839 + 645 * (i + 1)) mk_2 (fun l w0 => n_X2 l g B _ w0) ⟨by decide, by decide⟩ (by omega) (by omega) (by show _ + 9 + 636 = _; omega) (by omega) (by omega) rfl (Nat.le_of_ble_eq_true rfl) dX0_init_81 dX0_init_84 dX0_init_85 ?_
      refine jm_ast hF (t := 5) (r := (RX2, TX2, 9)) (V' := vb2 g a (i + 1)) 97 rfl rfl (List.mem_append_right _ List.mem_cons_self) rfl (nI_in (by omega) (by decide)) ?_ dX0_init_88 ?_
      · rw [nI_clamp (by omega), sf_succ]
        rfl
      refine jm_iinc hF (v := nI (i + 1)) (lv' := [(1, .int (nI (i + 1))), (0, .ref a)]) dX0_init_89 0 rfl (by rw [nI_succ]; rfl) (by decide) rfl ?_
      refine jm_goto hF 71 dX0_init_92 (by decide) ?_
      exact ih (i + 1) (by omega)
  have loop1 : ∀ q i : Nat, i + q = 10 → Jm X g 2 (Qn X g B 132 4064 w (bk0 g a) (a + 133)) (a + 7 + 9 * i) (6 + 9 * i) (195 + 64 * i) w (vb1 g a i) 26 [(1, .int (nI i)), (0, .ref a)] [] := by
    intro q
    induction q with
    | zero =>
      intro i hi
      have hi : i = 10 := by omega
      subst hi
      refine jm_iload_n hF dX0_init_26 0 rfl ?_
      refine jm_bipush hF (v := nI 10) dX0_init_27 (by decide) ?_
      refine jm_icmp_ge hF 51 dX0_init_29 (by decide) (fun _ => ?_) (fun h => absurd (nI_le (Nat.le_refl _) (by decide)) h)
      refine jm_aload_n hF dX0_init_51 1 rfl ?_
      refine jm_iconst hF (v := 0) dX0_init_52 (by decide) ?_
      refine jm_put hF hN (V' := vb1 g a 10) 0 fc_0_25 rfl rfl rfl rfl rfl dX0_init_53 ?_
      refine jm_aload_n hF dX0_init_56 1 rfl ?_
      refine jm_iconst hF (v := 0) dX0_init_57 (by decide) ?_
      refine jm_put hF hN (V' := vb1 g a 10) 0 fc_0_29 rfl rfl rfl rfl rfl dX0_init_58 ?_
      refine jm_aload_n hF dX0_init_61 1 rfl ?_
      refine jm_iconst hF (v := (4 : Int32)) dX0_init_62 (by decide) ?_
      refine jm_newq hF (C := "OceanMail$Contract") (t := 5) (N := 4) (z' := a + 98) (κ' := 97) (ς' := 839) wc_132 (fun U h => h.2.2) rfl (by decide) (by decide) (by decide) rfl rfl rfl (by decide) (by decide) rfl dX0_init_63 ?_
      refine jm_put hF hN (V' := vb2 g a 0) 0 fc_0_34 rfl rfl rfl rfl ?_ dX0_init_66 ?_
      · unfold vb1 vb2
        rw [sf_0]
        rfl
      refine jm_iconst hF (v := nI 0) dX0_init_69 (by decide) ?_
      refine jm_istore_n hF (i := 1) (lv' := [(1, .int (nI 0)), (0, .ref a)]) dX0_init_70 rfl (by decide) rfl ?_
      exact loop2 4 0 (by omega)
    | succ q ih =>
      intro i hi
      refine jm_iload_n hF dX0_init_26 0 rfl ?_
      refine jm_bipush hF (v := nI 10) dX0_init_27 (by decide) ?_
      refine jm_icmp_ge hF 51 dX0_init_29 (by decide) (fun h => absurd h (nI_ge (by omega) (by decide))) (fun _ => ?_)
      refine jm_aload_n hF dX0_init_32 1 rfl ?_
      refine jm_get hF 0 fg_0_20 rfl rfl dX0_init_33 ?_
      refine jm_iload_n hF dX0_init_36 0 rfl ?_
      refine jm_mk hF (z' := a + 7 + 9 * (i + 1)) (κ' := 6 + 9 * (i + 1)) (ς' := 195 + 64 * (i + 1)) mk_8 (fun l w0 => n_X8 l g B _ w0) ⟨by decide, by decide⟩ (by omega) (by omega) (by show _ + 13 + 51 = _; omega) (by omega) (by omega) rfl (Nat.le_of_ble_eq_true rfl) dX0_init_37 dX0_init_40 dX0_init_41 ?_
      refine jm_ast hF (t := 3) (r := (RX8, TX8, 13)) (V' := vb1 g a (i + 1)) 6 rfl rfl (List.mem_append_right _ List.mem_cons_self) rfl (nI_in (by omega) (by decide)) ?_ dX0_init_44 ?_
      · rw [nI_clamp (by omega), sf_succ]
        rfl
      refine jm_iinc hF (v := nI (i + 1)) (lv' := [(1, .int (nI (i + 1))), (0, .ref a)]) dX0_init_45 0 rfl (by rw [nI_succ]; rfl) (by decide) rfl ?_
      refine jm_goto hF 26 dX0_init_48 (by decide) ?_
      exact ih (i + 1) (by omega)
  refine jm_aload_n hF dX0_init_0 0 rfl ?_
  refine jm_obj hF wc_28 ob_w (by decide) (by decide) dX0_init_1 ?_
  refine jm_aload_n hF dX0_init_4 0 rfl ?_
  refine jm_mk hF (z' := a + 6) (κ' := 5) (ς' := 185) mk_1 (fun l w0 => n_X1 l g B _ w0) ⟨by decide, by decide⟩ rfl rfl rfl (by decide) (by decide) rfl (Nat.le_of_ble_eq_true rfl) dX0_init_5 dX0_init_8 dX0_init_9 ?_
  refine jm_put hF hN (V' := (a, .inr (0, [.ref (a + 1), .null, .int 0, .int 0, .null, .null])) :: bk1 g (a + 1)) 0 fc_0_12 rfl rfl rfl rfl rfl dX0_init_12 ?_
  refine jm_aload_n hF dX0_init_15 0 rfl ?_
  refine jm_bipush hF (v := (10 : Int32)) dX0_init_16 (by decide) ?_
  refine jm_newq hF (C := "OceanMail$Voyage") (t := 3) (N := 10) (z' := a + 7) (κ' := 6) (ς' := 195) wc_56 (fun U h => h.1) rfl (by decide) (by decide) (by decide) rfl rfl rfl (by decide) (by decide) rfl dX0_init_18 ?_
  refine jm_put hF hN (V' := vb1 g a 0) 0 fc_0_20 rfl rfl rfl rfl (by unfold vb1; rw [sf_0]; rfl) dX0_init_21 ?_
  refine jm_iconst hF (v := nI 0) dX0_init_24 (by decide) ?_
  refine jm_istore_n hF (i := 1) (lv' := [(1, .int (nI 0)), (0, .ref a)]) dX0_init_25 rfl (by decide) rfl ?_
  exact loop1 10 0 (by omega)
def bk9 (g : GT) (a : Nat) : va_W := (a, .inr (9, [.ref (a + 1), .ref (a + 134), .ref (a + 136), .ref (a + 137), .ref (a + 200)])) :: (bk0 g (a + 1) ++ (bk7 g (a + 134) ++ (bk5 g (a + 136) ++ (bk3 g (a + 137) ++ bk4 g (a + 200)))))
theorem n_X9 (l : Launch) (g : GT) (B a : Nat) (w : va_W) : Cn l yX9_init cX9_init 1 3 64 205 5272 g [.ref a] B w [(a, .inr (9, bl9))] (bk9 g a) (a + 1) (a + 206) := by
  refine cn_of (by decide) (Nat.le_of_ble_eq_true rfl) (fun X hF hM => ?_)
  have hN := hM.ni rfl
  unfold bl9 bk9
  refine jm_aload_n hF dX9_init_0 0 rfl ?_
  refine jm_obj hF wc_20 ob_w (by decide) (by decide) dX9_init_1 ?_
  refine jm_aload_n hF dX9_init_4 0 rfl ?_
  refine jm_mk hF (V' := (a, .inr (9, [.null, .null, .null, .null, .null])) :: (bk0 g (a + 1))) (z' := a + 134) (κ' := 133) (ς' := 4070) mk_0 (fun l w0 => n_X0 l g B _ w0) ⟨by decide, by decide⟩ rfl rfl rfl (by decide) (by decide) (by simp only [List.cons_append, List.nil_append, List.append_assoc]) (Nat.le_of_ble_eq_true rfl) dX9_init_5 dX9_init_8 dX9_init_9 ?_
  refine jm_put hF hN (V' := (a, .inr (9, [.ref (a + 1), .null, .null, .null, .null])) :: (bk0 g (a + 1))) 0 fc_9_10 rfl rfl rfl rfl rfl dX9_init_12 ?_
  refine jm_aload_n hF dX9_init_15 0 rfl ?_
  refine jm_mk hF (V' := (a, .inr (9, [.ref (a + 1), .null, .null, .null, .null])) :: (bk0 g (a + 1) ++ (bk7 g (a + 134)))) (z' := a + 136) (κ' := 135) (ς' := 4272) mk_7 (fun l w0 => n_X7 l g B _ w0) ⟨by decide, by decide⟩ rfl rfl rfl (by decide) (by decide) (by simp only [List.cons_append, List.nil_append, List.append_assoc]) (Nat.le_of_ble_eq_true rfl) dX9_init_16 dX9_init_19 dX9_init_20 ?_
  refine jm_put hF hN (V' := (a, .inr (9, [.ref (a + 1), .ref (a + 134), .null, .null, .null])) :: (bk0 g (a + 1) ++ (bk7 g (a + 134)))) 0 fc_9_19 rfl rfl rfl rfl rfl dX9_init_23 ?_
  refine jm_aload_n hF dX9_init_26 0 rfl ?_
  refine jm_mk hF (V' := (a, .inr (9, [.ref (a + 1), .ref (a + 134), .null, .null, .null])) :: (bk0 g (a + 1) ++ (bk7 g (a + 134) ++ (bk5 g (a + 136))))) (z' := a + 137) (κ' := 136) (ς' := 4281) mk_5 (fun l w0 => n_X5 l g B _ w0) ⟨by decide, by decide⟩ rfl rfl rfl (by decide) (by decide) (by simp only [List.cons_append, List.nil_append, List.append_assoc]) (Nat.le_of_ble_eq_true rfl) dX9_init_27 dX9_init_30 dX9_init_31 ?_
  refine jm_put hF hN (V' := (a, .inr (9, [.ref (a + 1), .ref (a + 134), .ref (a + 136), .null, .null])) :: (bk0 g (a + 1) ++ (bk7 g (a + 134) ++ (bk5 g (a + 136))))) 0 fc_9_26 rfl rfl rfl rfl rfl dX9_init_34 ?_
  refine jm_aload_n hF dX9_init_37 0 rfl ?_
  refine jm_mk hF (V' := (a, .inr (9, [.ref (a + 1), .ref (a + 134), .ref (a + 136), .null, .null])) :: (bk0 g (a + 1) ++ (bk7 g (a + 134) ++ (bk5 g (a + 136) ++ (bk3 g (a + 137)))))) (z' := a + 200) (κ' := 199) (ς' := 4999) mk_3 (fun l w0 => n_X3 l g B _ w0) ⟨by decide, by decide⟩ rfl rfl rfl (by decide) (by decide) (by simp only [List.cons_append, List.nil_append, List.append_assoc]) (Nat.le_of_ble_eq_true rfl) dX9_init_38 dX9_init_41 dX9_init_42 ?_
  refine jm_put hF hN (V' := (a, .inr (9, [.ref (a + 1), .ref (a + 134), .ref (a + 136), .ref (a + 137), .null])) :: (bk0 g (a + 1) ++ (bk7 g (a + 134) ++ (bk5 g (a + 136) ++ (bk3 g (a + 137)))))) 0 fc_9_33 rfl rfl rfl rfl rfl dX9_init_45 ?_
  refine jm_aload_n hF dX9_init_48 0 rfl ?_
  refine jm_mk hF (V' := (a, .inr (9, [.ref (a + 1), .ref (a + 134), .ref (a + 136), .ref (a + 137), .null])) :: (bk0 g (a + 1) ++ (bk7 g (a + 134) ++ (bk5 g (a + 136) ++ (bk3 g (a + 137) ++ (bk4 g (a + 200))))))) (z' := a + 206) (κ' := 205) (ς' := 5272) mk_4 (fun l w0 => n_X4 l g B _ w0) ⟨by decide, by decide⟩ rfl rfl rfl (by decide) (by decide) (by simp only [List.cons_append, List.nil_append, List.append_assoc]) (Nat.le_of_ble_eq_true rfl) dX9_init_49 dX9_init_52 dX9_init_53 ?_
  refine jm_put hF hN (V' := (a, .inr (9, [.ref (a + 1), .ref (a + 134), .ref (a + 136), .ref (a + 137), .ref (a + 200)])) :: (bk0 g (a + 1) ++ (bk7 g (a + 134) ++ (bk5 g (a + 136) ++ (bk3 g (a + 137) ++ (bk4 g (a + 200))))))) 0 fc_9_40 rfl rfl rfl rfl rfl dX9_init_56 ?_
  exact jm_vret hF hM dX9_init_59
