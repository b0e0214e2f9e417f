/-! THE REFERENCE: crosses -/
theorem fl_X3_crosses_28 : Cond.fieldLink RX3 28 "NoiseLampsModel" "ends" "[I" ∈ wsX3_crosses := by decide +kernel
set_option maxHeartbeats 4000000 in
set_option maxRecDepth 100000 in
theorem c_X3_crosses (l : Launch) (D : va_G) (cy : ClassId) (M : Nat → Nat) (μ : Nat → Int → Int) (w ax ay bx b2 : Int) (hI : invM μ) (hw : 0 ≤ w ∧ w < 8) (hax : -5000 ≤ ax ∧ ax ≤ 5000) (hay : -5000 ≤ ay ∧ ay ≤ 5000) (hbx : -5000 ≤ bx ∧ bx ≤ 5000) (hb2 : -5000 ≤ b2 ∧ b2 ≤ 5000) : MetR l yX3_crosses wsX3_crosses ({ frames := 1, cells := 0, slots := 0, locals := 33 } : Room) D cy (wM cy M μ) ([.ref (M 100), .int (iI w), .int (iI ax), .int (iI ay), .int (iI bx), .int (iI b2)] : List Value) (bI (mCr μ w ax ay bx b2)) := by
  refine met_R (cc := cX3_crosses) (maxL := 16) (ret := (some .boolean)) (by decide) rfl (Nat.le_of_ble_eq_true rfl) ?_
  intro p e s m below meth c hx hb hr hml hts hown hlocks hP hK ls hl
  have hown : s.vm.findClass RX3 = some m.cls := hown
  have hl : lv_has ls 16 [(0, .ref (M 100)), (1, .int (iI w)), (2, .int (iI ax)), (3, .int (iI ay)), (4, .int (iI bx)), (5, .int (iI b2))] := hl
  obtain ⟨hM0, hM4, hM8, hM11, hM14, hB1, hB2, hB3, hB5, hB6, hB7, hB9, hB10, hB12, hB13, hB15, hB16⟩ := id hI
  have hw0 := hB9 (4 * w)
  have hw1 := hB9 (4 * w + 1)
  have hw2 := hB9 (4 * w + 2)
  have hw3 := hB9 (4 * w + 3)
  refine lv_aload_n hx hb dX3_crosses_0 rfl (lv_at hl 0 rfl) ?_
  refine va_get (D := D) (ci := 3) (v := .ref (M 9)) (C := RX3) (T := TX3) (N := 17) hx hb hts (fun _ h => List.mem_cons_of_mem _ (List.mem_append_right _ h)) hown hK hP 0 rfl rfl 9 (by decide) (hts _ fl_X3_crosses_28) (fun _ h9 => h9) rfl dX3_crosses_1 ?_
  refine lv_iconst (v := iI 4) hx hb dX3_crosses_4 rfl ?_
  refine lv_iload_n hx hb dX3_crosses_5 rfl (lv_at hl 1 rfl) ?_
  refine r_imul hx hb dX3_crosses_6 ?_
  refine r_iald hx hb hK hP 7 0 rfl rfl (Nat.le_of_ble_eq_true rfl) (by omega) dX3_crosses_7 ?_
  have hv1 := hB9 (4 * w)
  refine lv_istore (lv' := [(6, .int (iI (μ 9 (4 * w)))), (0, .ref (M 100)), (1, .int (iI w)), (2, .int (iI ax)), (3, .int (iI ay)), (4, .int (iI bx)), (5, .int (iI b2))]) hx hb dX3_crosses_8 hl (by decide) rfl (fun ls hl => ?_)
  refine lv_aload_n hx hb dX3_crosses_10 rfl (lv_at hl 1 rfl) ?_
  refine va_get (D := D) (ci := 3) (v := .ref (M 9)) (C := RX3) (T := TX3) (N := 17) hx hb hts (fun _ h => List.mem_cons_of_mem _ (List.mem_append_right _ h)) hown hK hP 0 rfl rfl 9 (by decide) (hts _ fl_X3_crosses_28) (fun _ h9 => h9) rfl dX3_crosses_11 ?_
  refine lv_iconst (v := iI 4) hx hb dX3_crosses_14 rfl ?_
  refine lv_iload_n hx hb dX3_crosses_15 rfl (lv_at hl 2 rfl) ?_
  refine r_imul hx hb dX3_crosses_16 ?_
  refine lv_iconst (v := iI 1) hx hb dX3_crosses_17 rfl ?_
  refine r_iadd hx hb dX3_crosses_18 ?_
  refine r_iald hx hb hK hP 7 0 rfl rfl (Nat.le_of_ble_eq_true rfl) (by omega) dX3_crosses_19 ?_
  have hv2 := hB9 ((4 * w) + 1)
  refine lv_istore (lv' := [(7, .int (iI (μ 9 ((4 * w) + 1)))), (6, .int (iI (μ 9 (4 * w)))), (0, .ref (M 100)), (1, .int (iI w)), (2, .int (iI ax)), (3, .int (iI ay)), (4, .int (iI bx)), (5, .int (iI b2))]) hx hb dX3_crosses_20 hl (by decide) rfl (fun ls hl => ?_)
  refine lv_aload_n hx hb dX3_crosses_22 rfl (lv_at hl 2 rfl) ?_
  refine va_get (D := D) (ci := 3) (v := .ref (M 9)) (C := RX3) (T := TX3) (N := 17) hx hb hts (fun _ h => List.mem_cons_of_mem _ (List.mem_append_right _ h)) hown hK hP 0 rfl rfl 9 (by decide) (hts _ fl_X3_crosses_28) (fun _ h9 => h9) rfl dX3_crosses_23 ?_
  refine lv_iconst (v := iI 4) hx hb dX3_crosses_26 rfl ?_
  refine lv_iload_n hx hb dX3_crosses_27 rfl (lv_at hl 3 rfl) ?_
  refine r_imul hx hb dX3_crosses_28 ?_
  refine lv_iconst (v := iI 2) hx hb dX3_crosses_29 rfl ?_
  refine r_iadd hx hb dX3_crosses_30 ?_
  refine r_iald hx hb hK hP 7 0 rfl rfl (Nat.le_of_ble_eq_true rfl) (by omega) dX3_crosses_31 ?_
  have hv3 := hB9 ((4 * w) + 2)
  refine lv_istore (lv' := [(8, .int (iI (μ 9 ((4 * w) + 2)))), (7, .int (iI (μ 9 ((4 * w) + 1)))), (6, .int (iI (μ 9 (4 * w)))), (0, .ref (M 100)), (1, .int (iI w)), (2, .int (iI ax)), (3, .int (iI ay)), (4, .int (iI bx)), (5, .int (iI b2))]) hx hb dX3_crosses_32 hl (by decide) rfl (fun ls hl => ?_)
  refine lv_aload_n hx hb dX3_crosses_34 rfl (lv_at hl 3 rfl) ?_
  refine va_get (D := D) (ci := 3) (v := .ref (M 9)) (C := RX3) (T := TX3) (N := 17) hx hb hts (fun _ h => List.mem_cons_of_mem _ (List.mem_append_right _ h)) hown hK hP 0 rfl rfl 9 (by decide) (hts _ fl_X3_crosses_28) (fun _ h9 => h9) rfl dX3_crosses_35 ?_
  refine lv_iconst (v := iI 4) hx hb dX3_crosses_38 rfl ?_
  refine lv_iload_n hx hb dX3_crosses_39 rfl (lv_at hl 4 rfl) ?_
  refine r_imul hx hb dX3_crosses_40 ?_
  refine lv_iconst (v := iI 3) hx hb dX3_crosses_41 rfl ?_
  refine r_iadd hx hb dX3_crosses_42 ?_
  refine r_iald hx hb hK hP 7 0 rfl rfl (Nat.le_of_ble_eq_true rfl) (by omega) dX3_crosses_43 ?_
  have hv4 := hB9 ((4 * w) + 3)
  refine lv_istore (lv' := [(9, .int (iI (μ 9 ((4 * w) + 3)))), (8, .int (iI (μ 9 ((4 * w) + 2)))), (7, .int (iI (μ 9 ((4 * w) + 1)))), (6, .int (iI (μ 9 (4 * w)))), (0, .ref (M 100)), (1, .int (iI w)), (2, .int (iI ax)), (3, .int (iI ay)), (4, .int (iI bx)), (5, .int (iI b2))]) hx hb dX3_crosses_44 hl (by decide) rfl (fun ls hl => ?_)
  refine lv_iload hx hb dX3_crosses_46 (lv_at hl 3 rfl) ?_
  refine r_i2l hx hb dX3_crosses_48 (by omega) ?_
  refine lv_iload hx hb dX3_crosses_49 (lv_at hl 2 rfl) ?_
  refine r_i2l hx hb dX3_crosses_51 (by omega) ?_
  refine lv_iload hx hb dX3_crosses_52 (lv_at hl 1 rfl) ?_
  refine r_i2l hx hb dX3_crosses_54 (by omega) ?_
  refine lv_iload hx hb dX3_crosses_55 (lv_at hl 0 rfl) ?_
  refine r_i2l hx hb dX3_crosses_57 (by omega) ?_
  refine lv_iload_n hx hb dX3_crosses_58 rfl (lv_at hl 6 rfl) ?_
  refine r_i2l hx hb dX3_crosses_59 (by omega) ?_
  refine lv_iload_n hx hb dX3_crosses_60 rfl (lv_at hl 7 rfl) ?_
  refine r_i2l hx hb dX3_crosses_61 (by omega) ?_
  refine r_calli (va_runS (As := [.long (jI (μ 9 (4 * w))), .long (jI (μ 9 ((4 * w) + 1))), .long (jI (μ 9 ((4 * w) + 2))), .long (jI (μ 9 ((4 * w) + 3))), .long (jI ax), .long (jI ay)]) (rest := []) ⟨hx, hb, hml, hown, hts⟩ (c_X3_side l  (μ 9 (4 * w)) (μ 9 ((4 * w) + 1)) (μ 9 ((4 * w) + 2)) (μ 9 ((4 * w) + 3)) ax ay (by omega) (by omega) (by omega) (by omega) (by omega) (by omega)) (va_cwS 6 hts gX3_crosses_X3_side rfl rfl rfl (by decide +kernel) ⟨Nat.le_of_ble_eq_true rfl, Nat.le_of_ble_eq_true rfl⟩) ps_T rfl rfl hl.1 rfl (lv_room (Nat.le_of_ble_eq_true rfl)) dX3_crosses_62 ⟨Nat.le_of_ble_eq_true rfl, Nat.le_of_ble_eq_true rfl⟩) ?_
  refine lv_istore (lv' := [(10, .int (iI (sgZ (tuZ (μ 9 (4 * w)) (μ 9 ((4 * w) + 1)) (μ 9 ((4 * w) + 2)) (μ 9 ((4 * w) + 3)) ax ay)))), (9, .int (iI (μ 9 ((4 * w) + 3)))), (8, .int (iI (μ 9 ((4 * w) + 2)))), (7, .int (iI (μ 9 ((4 * w) + 1)))), (6, .int (iI (μ 9 (4 * w)))), (0, .ref (M 100)), (1, .int (iI w)), (2, .int (iI ax)), (3, .int (iI ay)), (4, .int (iI bx)), (5, .int (iI b2))]) hx hb dX3_crosses_65 hl (by decide) rfl (fun ls hl => ?_)
  refine lv_iload hx hb dX3_crosses_67 (lv_at hl 4 rfl) ?_
  refine r_i2l hx hb dX3_crosses_69 (by omega) ?_
  refine lv_iload hx hb dX3_crosses_70 (lv_at hl 3 rfl) ?_
  refine r_i2l hx hb dX3_crosses_72 (by omega) ?_
  refine lv_iload hx hb dX3_crosses_73 (lv_at hl 2 rfl) ?_
  refine r_i2l hx hb dX3_crosses_75 (by omega) ?_
  refine lv_iload hx hb dX3_crosses_76 (lv_at hl 1 rfl) ?_
  refine r_i2l hx hb dX3_crosses_78 (by omega) ?_
  refine lv_iload hx hb dX3_crosses_79 (lv_at hl 9 rfl) ?_
  refine r_i2l hx hb dX3_crosses_81 (by omega) ?_
  refine lv_iload hx hb dX3_crosses_82 (lv_at hl 10 rfl) ?_
  refine r_i2l hx hb dX3_crosses_84 (by omega) ?_
  refine r_calli (va_runS (As := [.long (jI (μ 9 (4 * w))), .long (jI (μ 9 ((4 * w) + 1))), .long (jI (μ 9 ((4 * w) + 2))), .long (jI (μ 9 ((4 * w) + 3))), .long (jI bx), .long (jI b2)]) (rest := []) ⟨hx, hb, hml, hown, hts⟩ (c_X3_side l  (μ 9 (4 * w)) (μ 9 ((4 * w) + 1)) (μ 9 ((4 * w) + 2)) (μ 9 ((4 * w) + 3)) bx b2 (by omega) (by omega) (by omega) (by omega) (by omega) (by omega)) (va_cwS 6 hts gX3_crosses_X3_side rfl rfl rfl (by decide +kernel) ⟨Nat.le_of_ble_eq_true rfl, Nat.le_of_ble_eq_true rfl⟩) ps_T rfl rfl hl.1 rfl (lv_room (Nat.le_of_ble_eq_true rfl)) dX3_crosses_85 ⟨Nat.le_of_ble_eq_true rfl, Nat.le_of_ble_eq_true rfl⟩) ?_
  refine lv_istore (lv' := [(11, .int (iI (sgZ (tuZ (μ 9 (4 * w)) (μ 9 ((4 * w) + 1)) (μ 9 ((4 * w) + 2)) (μ 9 ((4 * w) + 3)) bx b2)))), (10, .int (iI (sgZ (tuZ (μ 9 (4 * w)) (μ 9 ((4 * w) + 1)) (μ 9 ((4 * w) + 2)) (μ 9 ((4 * w) + 3)) ax ay)))), (9, .int (iI (μ 9 ((4 * w) + 3)))), (8, .int (iI (μ 9 ((4 * w) + 2)))), (7, .int (iI (μ 9 ((4 * w) + 1)))), (6, .int (iI (μ 9 (4 * w)))), (0, .ref (M 100)), (1, .int (iI w)), (2, .int (iI ax)), (3, .int (iI ay)), (4, .int (iI bx)), (5, .int (iI b2))]) hx hb dX3_crosses_88 hl (by decide) rfl (fun ls hl => ?_)
  refine lv_iload_n hx hb dX3_crosses_90 rfl (lv_at hl 8 rfl) ?_
  refine r_i2l hx hb dX3_crosses_91 (by omega) ?_
  refine lv_iload_n hx hb dX3_crosses_92 rfl (lv_at hl 9 rfl) ?_
  refine r_i2l hx hb dX3_crosses_93 (by omega) ?_
  refine lv_iload hx hb dX3_crosses_94 (lv_at hl 10 rfl) ?_
  refine r_i2l hx hb dX3_crosses_96 (by omega) ?_
  refine lv_iload hx hb dX3_crosses_97 (lv_at hl 11 rfl) ?_
  refine r_i2l hx hb dX3_crosses_99 (by omega) ?_
  refine lv_iload hx hb dX3_crosses_100 (lv_at hl 5 rfl) ?_
  refine r_i2l hx hb dX3_crosses_102 (by omega) ?_
  refine lv_iload hx hb dX3_crosses_103 (lv_at hl 4 rfl) ?_
  refine r_i2l hx hb dX3_crosses_105 (by omega) ?_
  refine r_calli (va_runS (As := [.long (jI ax), .long (jI ay), .long (jI bx), .long (jI b2), .long (jI (μ 9 (4 * w))), .long (jI (μ 9 ((4 * w) + 1)))]) (rest := []) ⟨hx, hb, hml, hown, hts⟩ (c_X3_side l  ax ay bx b2 (μ 9 (4 * w)) (μ 9 ((4 * w) + 1)) (by omega) (by omega) (by omega) (by omega) (by omega) (by omega)) (va_cwS 6 hts gX3_crosses_X3_side rfl rfl rfl (by decide +kernel) ⟨Nat.le_of_ble_eq_true rfl, Nat.le_of_ble_eq_true rfl⟩) ps_T rfl rfl hl.1 rfl (lv_room (Nat.le_of_ble_eq_true rfl)) dX3_crosses_106 ⟨Nat.le_of_ble_eq_true rfl, Nat.le_of_ble_eq_true rfl⟩) ?_
  refine lv_istore (lv' := [(12, .int (iI (sgZ (tuZ ax ay bx b2 (μ 9 (4 * w)) (μ 9 ((4 * w) + 1)))))), (11, .int (iI (sgZ (tuZ (μ 9 (4 * w)) (μ 9 ((4 * w) + 1)) (μ 9 ((4 * w) + 2)) (μ 9 ((4 * w) + 3)) bx b2)))), (10, .int (iI (sgZ (tuZ (μ 9 (4 * w)) (μ 9 ((4 * w) + 1)) (μ 9 ((4 * w) + 2)) (μ 9 ((4 * w) + 3)) ax ay)))), (9, .int (iI (μ 9 ((4 * w) + 3)))), (8, .int (iI (μ 9 ((4 * w) + 2)))), (7, .int (iI (μ 9 ((4 * w) + 1)))), (6, .int (iI (μ 9 (4 * w)))), (0, .ref (M 100)), (1, .int (iI w)), (2, .int (iI ax)), (3, .int (iI ay)), (4, .int (iI bx)), (5, .int (iI b2))]) hx hb dX3_crosses_109 hl (by decide) rfl (fun ls hl => ?_)
  refine lv_iload_n hx hb dX3_crosses_111 rfl (lv_at hl 9 rfl) ?_
  refine r_i2l hx hb dX3_crosses_112 (by omega) ?_
  refine lv_iload_n hx hb dX3_crosses_113 rfl (lv_at hl 10 rfl) ?_
  refine r_i2l hx hb dX3_crosses_114 (by omega) ?_
  refine lv_iload hx hb dX3_crosses_115 (lv_at hl 11 rfl) ?_
  refine r_i2l hx hb dX3_crosses_117 (by omega) ?_
  refine lv_iload hx hb dX3_crosses_118 (lv_at hl 12 rfl) ?_
  refine r_i2l hx hb dX3_crosses_120 (by omega) ?_
  refine lv_iload hx hb dX3_crosses_121 (lv_at hl 4 rfl) ?_
  refine r_i2l hx hb dX3_crosses_123 (by omega) ?_
  refine lv_iload hx hb dX3_crosses_124 (lv_at hl 3 rfl) ?_
  refine r_i2l hx hb dX3_crosses_126 (by omega) ?_
  refine r_calli (va_runS (As := [.long (jI ax), .long (jI ay), .long (jI bx), .long (jI b2), .long (jI (μ 9 ((4 * w) + 2))), .long (jI (μ 9 ((4 * w) + 3)))]) (rest := []) ⟨hx, hb, hml, hown, hts⟩ (c_X3_side l  ax ay bx b2 (μ 9 ((4 * w) + 2)) (μ 9 ((4 * w) + 3)) (by omega) (by omega) (by omega) (by omega) (by omega) (by omega)) (va_cwS 6 hts gX3_crosses_X3_side rfl rfl rfl (by decide +kernel) ⟨Nat.le_of_ble_eq_true rfl, Nat.le_of_ble_eq_true rfl⟩) ps_T rfl rfl hl.1 rfl (lv_room (Nat.le_of_ble_eq_true rfl)) dX3_crosses_127 ⟨Nat.le_of_ble_eq_true rfl, Nat.le_of_ble_eq_true rfl⟩) ?_
  refine lv_istore (lv' := [(13, .int (iI (sgZ (tuZ ax ay bx b2 (μ 9 ((4 * w) + 2)) (μ 9 ((4 * w) + 3)))))), (12, .int (iI (sgZ (tuZ ax ay bx b2 (μ 9 (4 * w)) (μ 9 ((4 * w) + 1)))))), (11, .int (iI (sgZ (tuZ (μ 9 (4 * w)) (μ 9 ((4 * w) + 1)) (μ 9 ((4 * w) + 2)) (μ 9 ((4 * w) + 3)) bx b2)))), (10, .int (iI (sgZ (tuZ (μ 9 (4 * w)) (μ 9 ((4 * w) + 1)) (μ 9 ((4 * w) + 2)) (μ 9 ((4 * w) + 3)) ax ay)))), (9, .int (iI (μ 9 ((4 * w) + 3)))), (8, .int (iI (μ 9 ((4 * w) + 2)))), (7, .int (iI (μ 9 ((4 * w) + 1)))), (6, .int (iI (μ 9 (4 * w)))), (0, .ref (M 100)), (1, .int (iI w)), (2, .int (iI ax)), (3, .int (iI ay)), (4, .int (iI bx)), (5, .int (iI b2))]) hx hb dX3_crosses_130 hl (by decide) rfl (fun ls hl => ?_)
  have jn174_5 : ∀ (ap : Int) (ls : Array Slot), (ap = bI (ax ≠ bx ∨ ay ≠ b2)) → (¬ ((ax ≠ bx ∨ ay ≠ b2) ∧ opP (tuZ (μ 9 (4 * w)) (μ 9 (4 * w + 1)) (μ 9 (4 * w + 2)) (μ 9 (4 * w + 3)) ax ay) (tuZ (μ 9 (4 * w)) (μ 9 (4 * w + 1)) (μ 9 (4 * w + 2)) (μ 9 (4 * w + 3)) bx b2) ∧ opP (tuZ ax ay bx b2 (μ 9 (4 * w)) (μ 9 (4 * w + 1))) (tuZ ax ay bx b2 (μ 9 (4 * w + 2)) (μ 9 (4 * w + 3))))) → lv_has ls 16 [(14, .int (iI ap)), (13, .int (iI (sgZ (tuZ ax ay bx b2 (μ 9 ((4 * w) + 2)) (μ 9 ((4 * w) + 3)))))), (12, .int (iI (sgZ (tuZ ax ay bx b2 (μ 9 (4 * w)) (μ 9 ((4 * w) + 1)))))), (11, .int (iI (sgZ (tuZ (μ 9 (4 * w)) (μ 9 ((4 * w) + 1)) (μ 9 ((4 * w) + 2)) (μ 9 ((4 * w) + 3)) bx b2)))), (10, .int (iI (sgZ (tuZ (μ 9 (4 * w)) (μ 9 ((4 * w) + 1)) (μ 9 ((4 * w) + 2)) (μ 9 ((4 * w) + 3)) ax ay)))), (9, .int (iI (μ 9 ((4 * w) + 3)))), (8, .int (iI (μ 9 ((4 * w) + 2)))), (7, .int (iI (μ 9 ((4 * w) + 1)))), (6, .int (iI (μ 9 (4 * w)))), (0, .ref (M 100)), (1, .int (iI w)), (2, .int (iI ax)), (3, .int (iI ay)), (4, .int (iI bx)), (5, .int (iI b2))] → W p l e ({ frames := 1, cells := 0, slots := 0, locals := 33 } : Room) s m ([.ref (M 100), .int (iI w), .int (iI ax), .int (iI ay), .int (iI bx), .int (iI b2)] : List Value).toArray below meth c s.heap [] 0 0 (MQ below (vp_Si (fun r => r = iI (bI (mCr μ w ax ay bx b2)))) ([.ref (M 100), .int (iI w), .int (iI ax), .int (iI ay), .int (iI bx), .int (iI b2)] : List Value).toArray s 0 0 (fun _ => False)) (F0 m 174 ls []) := by
    intro ap ls hap hnc hl
    have jn225_6 : ∀ (oz : Int) (ls : Array Slot), (oz = bI (onP ax ay bx b2 (μ 9 (4 * w)) (μ 9 (4 * w + 1)) (μ 9 (4 * w + 2)) (μ 9 (4 * w + 3)))) → lv_has ls 16 [(15, .int (iI oz)), (14, .int (iI ap)), (13, .int (iI (sgZ (tuZ ax ay bx b2 (μ 9 ((4 * w) + 2)) (μ 9 ((4 * w) + 3)))))), (12, .int (iI (sgZ (tuZ ax ay bx b2 (μ 9 (4 * w)) (μ 9 ((4 * w) + 1)))))), (11, .int (iI (sgZ (tuZ (μ 9 (4 * w)) (μ 9 ((4 * w) + 1)) (μ 9 ((4 * w) + 2)) (μ 9 ((4 * w) + 3)) bx b2)))), (10, .int (iI (sgZ (tuZ (μ 9 (4 * w)) (μ 9 ((4 * w) + 1)) (μ 9 ((4 * w) + 2)) (μ 9 ((4 * w) + 3)) ax ay)))), (9, .int (iI (μ 9 ((4 * w) + 3)))), (8, .int (iI (μ 9 ((4 * w) + 2)))), (7, .int (iI (μ 9 ((4 * w) + 1)))), (6, .int (iI (μ 9 (4 * w)))), (0, .ref (M 100)), (1, .int (iI w)), (2, .int (iI ax)), (3, .int (iI ay)), (4, .int (iI bx)), (5, .int (iI b2))] → W p l e ({ frames := 1, cells := 0, slots := 0, locals := 33 } : Room) s m ([.ref (M 100), .int (iI w), .int (iI ax), .int (iI ay), .int (iI bx), .int (iI b2)] : List Value).toArray below meth c s.heap [] 0 0 (MQ below (vp_Si (fun r => r = iI (bI (mCr μ w ax ay bx b2)))) ([.ref (M 100), .int (iI w), .int (iI ax), .int (iI ay), .int (iI bx), .int (iI b2)] : List Value).toArray s 0 0 (fun _ => False)) (F0 m 225 ls []) := by
      intro oz ls hoz hl
      refine lv_iload hx hb dX3_crosses_225 (lv_at hl 0 rfl) ?_
      refine r_if_ne (tgt := 277) hx hb dX3_crosses_227 (by decide) (bI_i32 hoz) (fun h7 => ?_) (fun h7 => ?_)
      · -- 227 to 277
        refine lv_iconst (v := iI 1) hx hb dX3_crosses_277 rfl ?_
        refine lv_goto (tgt := 282) hx hb dX3_crosses_278 (by decide) ?_
        exact r_retZ hx hb hr hlocks dX3_crosses_282 (zn_of (by omega)) (by first | exact (bI_t (Or.inr (Or.inl (bI_ne hoz (by assumption))))).symm | exact (bI_t (Or.inr (Or.inr ⟨bI_ne hap (by assumption), Or.inl ⟨sg0 (by assumption), by assumption⟩⟩))).symm | exact (bI_t (Or.inr (Or.inr ⟨bI_ne hap (by assumption), Or.inr ⟨sg0 (by assumption), by assumption⟩⟩))).symm | exact (bI_f (fun z => z.elim hnc (fun z => z.elim (bI_z hoz (by assumption)) (fun z => by first | exact absurd z.1 (bI_z hap (by assumption)) | exact z.2.elim (fun y => by first | exact absurd (sg1 y.1) (by assumption) | exact absurd y.2 (by assumption)) (fun y => by first | exact absurd (sg1 y.1) (by assumption) | exact absurd y.2 (by assumption)))))).symm)
      · -- 227 to 230
        refine lv_iload hx hb dX3_crosses_230 (lv_at hl 1 rfl) ?_
        refine r_if_eq (tgt := 281) hx hb dX3_crosses_232 (by decide) (bI_i32 hap) (fun h8 => ?_) (fun h8 => ?_)
        · -- 232 to 281
          refine lv_iconst (v := iI 0) hx hb dX3_crosses_281 rfl ?_
          exact r_retZ hx hb hr hlocks dX3_crosses_282 (zn_of (by omega)) (by first | exact (bI_t (Or.inr (Or.inl (bI_ne hoz (by assumption))))).symm | exact (bI_t (Or.inr (Or.inr ⟨bI_ne hap (by assumption), Or.inl ⟨sg0 (by assumption), by assumption⟩⟩))).symm | exact (bI_t (Or.inr (Or.inr ⟨bI_ne hap (by assumption), Or.inr ⟨sg0 (by assumption), by assumption⟩⟩))).symm | exact (bI_f (fun z => z.elim hnc (fun z => z.elim (bI_z hoz (by assumption)) (fun z => by first | exact absurd z.1 (bI_z hap (by assumption)) | exact z.2.elim (fun y => by first | exact absurd (sg1 y.1) (by assumption) | exact absurd y.2 (by assumption)) (fun y => by first | exact absurd (sg1 y.1) (by assumption) | exact absurd y.2 (by assumption)))))).symm)
        · -- 232 to 235
          refine lv_iload hx hb dX3_crosses_235 (lv_at hl 3 rfl) ?_
          refine r_if_ne (tgt := 256) hx hb dX3_crosses_237 (by decide) (sg_i32 _) (fun h9 => ?_) (fun h9 => ?_)
          · -- 237 to 256
            refine lv_iload hx hb dX3_crosses_256 (lv_at hl 2 rfl) ?_
            refine r_if_ne (tgt := 281) hx hb dX3_crosses_258 (by decide) (sg_i32 _) (fun h10 => ?_) (fun h10 => ?_)
            · -- 258 to 281
              refine lv_iconst (v := iI 0) hx hb dX3_crosses_281 rfl ?_
              exact r_retZ hx hb hr hlocks dX3_crosses_282 (zn_of (by omega)) (by first | exact (bI_t (Or.inr (Or.inl (bI_ne hoz (by assumption))))).symm | exact (bI_t (Or.inr (Or.inr ⟨bI_ne hap (by assumption), Or.inl ⟨sg0 (by assumption), by assumption⟩⟩))).symm | exact (bI_t (Or.inr (Or.inr ⟨bI_ne hap (by assumption), Or.inr ⟨sg0 (by assumption), by assumption⟩⟩))).symm | exact (bI_f (fun z => z.elim hnc (fun z => z.elim (bI_z hoz (by assumption)) (fun z => by first | exact absurd z.1 (bI_z hap (by assumption)) | exact z.2.elim (fun y => by first | exact absurd (sg1 y.1) (by assumption) | exact absurd y.2 (by assumption)) (fun y => by first | exact absurd (sg1 y.1) (by assumption) | exact absurd y.2 (by assumption)))))).symm)
            · -- 258 to 261
              refine lv_iload_n hx hb dX3_crosses_261 rfl (lv_at hl 12 rfl) ?_
              refine lv_iload_n hx hb dX3_crosses_262 rfl (lv_at hl 13 rfl) ?_
              refine lv_iload hx hb dX3_crosses_263 (lv_at hl 14 rfl) ?_
              refine lv_iload hx hb dX3_crosses_265 (lv_at hl 15 rfl) ?_
              refine lv_iload hx hb dX3_crosses_267 (lv_at hl 7 rfl) ?_
              refine lv_iload hx hb dX3_crosses_269 (lv_at hl 6 rfl) ?_
              refine r_calli (va_runS (As := [.int (iI ax), .int (iI ay), .int (iI bx), .int (iI b2), .int (iI (μ 9 ((4 * w) + 2))), .int (iI (μ 9 ((4 * w) + 3)))]) (rest := []) ⟨hx, hb, hml, hown, hts⟩ (c_X3_isBetween l  ax ay bx b2 (μ 9 ((4 * w) + 2)) (μ 9 ((4 * w) + 3)) (i5 hax) (i5 hay) (i5 hbx) (i5 hb2) (i5 hw2) (i5 hw3)) (va_cwS 6 hts gX3_crosses_X3_isBetween rfl rfl rfl (by decide +kernel) ⟨Nat.le_of_ble_eq_true rfl, Nat.le_of_ble_eq_true rfl⟩) ps_T rfl rfl hl.1 rfl (lv_room (Nat.le_of_ble_eq_true rfl)) dX3_crosses_271 ⟨Nat.le_of_ble_eq_true rfl, Nat.le_of_ble_eq_true rfl⟩) ?_
              refine r_ifB_eq (tgt := 281) hx hb dX3_crosses_274 (by decide) (fun h11 => ?_) (fun h11 => ?_)
              · -- 274 to 281
                refine lv_iconst (v := iI 0) hx hb dX3_crosses_281 rfl ?_
                exact r_retZ hx hb hr hlocks dX3_crosses_282 (zn_of (by omega)) (by first | exact (bI_t (Or.inr (Or.inl (bI_ne hoz (by assumption))))).symm | exact (bI_t (Or.inr (Or.inr ⟨bI_ne hap (by assumption), Or.inl ⟨sg0 (by assumption), by assumption⟩⟩))).symm | exact (bI_t (Or.inr (Or.inr ⟨bI_ne hap (by assumption), Or.inr ⟨sg0 (by assumption), by assumption⟩⟩))).symm | exact (bI_f (fun z => z.elim hnc (fun z => z.elim (bI_z hoz (by assumption)) (fun z => by first | exact absurd z.1 (bI_z hap (by assumption)) | exact z.2.elim (fun y => by first | exact absurd (sg1 y.1) (by assumption) | exact absurd y.2 (by assumption)) (fun y => by first | exact absurd (sg1 y.1) (by assumption) | exact absurd y.2 (by assumption)))))).symm)
              · -- 274 to 277
                refine lv_iconst (v := iI 1) hx hb dX3_crosses_277 rfl ?_
                refine lv_goto (tgt := 282) hx hb dX3_crosses_278 (by decide) ?_
                exact r_retZ hx hb hr hlocks dX3_crosses_282 (zn_of (by omega)) (by first | exact (bI_t (Or.inr (Or.inl (bI_ne hoz (by assumption))))).symm | exact (bI_t (Or.inr (Or.inr ⟨bI_ne hap (by assumption), Or.inl ⟨sg0 (by assumption), by assumption⟩⟩))).symm | exact (bI_t (Or.inr (Or.inr ⟨bI_ne hap (by assumption), Or.inr ⟨sg0 (by assumption), by assumption⟩⟩))).symm | exact (bI_f (fun z => z.elim hnc (fun z => z.elim (bI_z hoz (by assumption)) (fun z => by first | exact absurd z.1 (bI_z hap (by assumption)) | exact z.2.elim (fun y => by first | exact absurd (sg1 y.1) (by assumption) | exact absurd y.2 (by assumption)) (fun y => by first | exact absurd (sg1 y.1) (by assumption) | exact absurd y.2 (by assumption)))))).symm)
          · -- 237 to 240
            refine lv_iload_n hx hb dX3_crosses_240 rfl (lv_at hl 12 rfl) ?_
            refine lv_iload_n hx hb dX3_crosses_241 rfl (lv_at hl 13 rfl) ?_
            refine lv_iload hx hb dX3_crosses_242 (lv_at hl 14 rfl) ?_
            refine lv_iload hx hb dX3_crosses_244 (lv_at hl 15 rfl) ?_
            refine lv_iload hx hb dX3_crosses_246 (lv_at hl 9 rfl) ?_
            refine lv_iload hx hb dX3_crosses_248 (lv_at hl 8 rfl) ?_
            refine r_calli (va_runS (As := [.int (iI ax), .int (iI ay), .int (iI bx), .int (iI b2), .int (iI (μ 9 (4 * w))), .int (iI (μ 9 ((4 * w) + 1)))]) (rest := []) ⟨hx, hb, hml, hown, hts⟩ (c_X3_isBetween l  ax ay bx b2 (μ 9 (4 * w)) (μ 9 ((4 * w) + 1)) (i5 hax) (i5 hay) (i5 hbx) (i5 hb2) (i5 hw0) (i5 hw1)) (va_cwS 6 hts gX3_crosses_X3_isBetween rfl rfl rfl (by decide +kernel) ⟨Nat.le_of_ble_eq_true rfl, Nat.le_of_ble_eq_true rfl⟩) ps_T rfl rfl hl.1 rfl (lv_room (Nat.le_of_ble_eq_true rfl)) dX3_crosses_250 ⟨Nat.le_of_ble_eq_true rfl, Nat.le_of_ble_eq_true rfl⟩) ?_
            refine r_ifB_ne (tgt := 277) hx hb dX3_crosses_253 (by decide) (fun h12 => ?_) (fun h12 => ?_)
            · -- 253 to 277
              refine lv_iconst (v := iI 1) hx hb dX3_crosses_277 rfl ?_
              refine lv_goto (tgt := 282) hx hb dX3_crosses_278 (by decide) ?_
              exact r_retZ hx hb hr hlocks dX3_crosses_282 (zn_of (by omega)) (by first | exact (bI_t (Or.inr (Or.inl (bI_ne hoz (by assumption))))).symm | exact (bI_t (Or.inr (Or.inr ⟨bI_ne hap (by assumption), Or.inl ⟨sg0 (by assumption), by assumption⟩⟩))).symm | exact (bI_t (Or.inr (Or.inr ⟨bI_ne hap (by assumption), Or.inr ⟨sg0 (by assumption), by assumption⟩⟩))).symm | exact (bI_f (fun z => z.elim hnc (fun z => z.elim (bI_z hoz (by assumption)) (fun z => by first | exact absurd z.1 (bI_z hap (by assumption)) | exact z.2.elim (fun y => by first | exact absurd (sg1 y.1) (by assumption) | exact absurd y.2 (by assumption)) (fun y => by first | exact absurd (sg1 y.1) (by assumption) | exact absurd y.2 (by assumption)))))).symm)
            · -- 253 to 256
              refine lv_iload hx hb dX3_crosses_256 (lv_at hl 2 rfl) ?_
              refine r_if_ne (tgt := 281) hx hb dX3_crosses_258 (by decide) (sg_i32 _) (fun h13 => ?_) (fun h13 => ?_)
              · -- 258 to 281
                refine lv_iconst (v := iI 0) hx hb dX3_crosses_281 rfl ?_
                exact r_retZ hx hb hr hlocks dX3_crosses_282 (zn_of (by omega)) (by first | exact (bI_t (Or.inr (Or.inl (bI_ne hoz (by assumption))))).symm | exact (bI_t (Or.inr (Or.inr ⟨bI_ne hap (by assumption), Or.inl ⟨sg0 (by assumption), by assumption⟩⟩))).symm | exact (bI_t (Or.inr (Or.inr ⟨bI_ne hap (by assumption), Or.inr ⟨sg0 (by assumption), by assumption⟩⟩))).symm | exact (bI_f (fun z => z.elim hnc (fun z => z.elim (bI_z hoz (by assumption)) (fun z => by first | exact absurd z.1 (bI_z hap (by assumption)) | exact z.2.elim (fun y => by first | exact absurd (sg1 y.1) (by assumption) | exact absurd y.2 (by assumption)) (fun y => by first | exact absurd (sg1 y.1) (by assumption) | exact absurd y.2 (by assumption)))))).symm)
              · -- 258 to 261
                refine lv_iload_n hx hb dX3_crosses_261 rfl (lv_at hl 12 rfl) ?_
                refine lv_iload_n hx hb dX3_crosses_262 rfl (lv_at hl 13 rfl) ?_
                refine lv_iload hx hb dX3_crosses_263 (lv_at hl 14 rfl) ?_
                refine lv_iload hx hb dX3_crosses_265 (lv_at hl 15 rfl) ?_
                refine lv_iload hx hb dX3_crosses_267 (lv_at hl 7 rfl) ?_
                refine lv_iload hx hb dX3_crosses_269 (lv_at hl 6 rfl) ?_
                refine r_calli (va_runS (As := [.int (iI ax), .int (iI ay), .int (iI bx), .int (iI b2), .int (iI (μ 9 ((4 * w) + 2))), .int (iI (μ 9 ((4 * w) + 3)))]) (rest := []) ⟨hx, hb, hml, hown, hts⟩ (c_X3_isBetween l  ax ay bx b2 (μ 9 ((4 * w) + 2)) (μ 9 ((4 * w) + 3)) (i5 hax) (i5 hay) (i5 hbx) (i5 hb2) (i5 hw2) (i5 hw3)) (va_cwS 6 hts gX3_crosses_X3_isBetween rfl rfl rfl (by decide +kernel) ⟨Nat.le_of_ble_eq_true rfl, Nat.le_of_ble_eq_true rfl⟩) ps_T rfl rfl hl.1 rfl (lv_room (Nat.le_of_ble_eq_true rfl)) dX3_crosses_271 ⟨Nat.le_of_ble_eq_true rfl, Nat.le_of_ble_eq_true rfl⟩) ?_
                refine r_ifB_eq (tgt := 281) hx hb dX3_crosses_274 (by decide) (fun h14 => ?_) (fun h14 => ?_)
                · -- 274 to 281
                  refine lv_iconst (v := iI 0) hx hb dX3_crosses_281 rfl ?_
                  exact r_retZ hx hb hr hlocks dX3_crosses_282 (zn_of (by omega)) (by first | exact (bI_t (Or.inr (Or.inl (bI_ne hoz (by assumption))))).symm | exact (bI_t (Or.inr (Or.inr ⟨bI_ne hap (by assumption), Or.inl ⟨sg0 (by assumption), by assumption⟩⟩))).symm | exact (bI_t (Or.inr (Or.inr ⟨bI_ne hap (by assumption), Or.inr ⟨sg0 (by assumption), by assumption⟩⟩))).symm | exact (bI_f (fun z => z.elim hnc (fun z => z.elim (bI_z hoz (by assumption)) (fun z => by first | exact absurd z.1 (bI_z hap (by assumption)) | exact z.2.elim (fun y => by first | exact absurd (sg1 y.1) (by assumption) | exact absurd y.2 (by assumption)) (fun y => by first | exact absurd (sg1 y.1) (by assumption) | exact absurd y.2 (by assumption)))))).symm)
                · -- 274 to 277
                  refine lv_iconst (v := iI 1) hx hb dX3_crosses_277 rfl ?_
                  refine lv_goto (tgt := 282) hx hb dX3_crosses_278 (by decide) ?_
                  exact r_retZ hx hb hr hlocks dX3_crosses_282 (zn_of (by omega)) (by first | exact (bI_t (Or.inr (Or.inl (bI_ne hoz (by assumption))))).symm | exact (bI_t (Or.inr (Or.inr ⟨bI_ne hap (by assumption), Or.inl ⟨sg0 (by assumption), by assumption⟩⟩))).symm | exact (bI_t (Or.inr (Or.inr ⟨bI_ne hap (by assumption), Or.inr ⟨sg0 (by assumption), by assumption⟩⟩))).symm | exact (bI_f (fun z => z.elim hnc (fun z => z.elim (bI_z hoz (by assumption)) (fun z => by first | exact absurd z.1 (bI_z hap (by assumption)) | exact z.2.elim (fun y => by first | exact absurd (sg1 y.1) (by assumption) | exact absurd y.2 (by assumption)) (fun y => by first | exact absurd (sg1 y.1) (by assumption) | exact absurd y.2 (by assumption)))))).symm)
    refine lv_iload hx hb dX3_crosses_174 (lv_at hl 4 rfl) ?_
    refine r_if_ne (tgt := 195) hx hb dX3_crosses_176 (by decide) (sg_i32 _) (fun h15 => ?_) (fun h15 => ?_)
    · -- 176 to 195
      refine lv_iload hx hb dX3_crosses_195 (lv_at hl 3 rfl) ?_
      refine r_if_ne (tgt := 222) hx hb dX3_crosses_197 (by decide) (sg_i32 _) (fun h16 => ?_) (fun h16 => ?_)
      · -- 197 to 222
        refine lv_iconst (v := iI 0) hx hb dX3_crosses_222 rfl ?_
        refine lv_istore (lv' := [(15, .int (iI 0)), (14, .int (iI ap)), (13, .int (iI (sgZ (tuZ ax ay bx b2 (μ 9 ((4 * w) + 2)) (μ 9 ((4 * w) + 3)))))), (12, .int (iI (sgZ (tuZ ax ay bx b2 (μ 9 (4 * w)) (μ 9 ((4 * w) + 1)))))), (11, .int (iI (sgZ (tuZ (μ 9 (4 * w)) (μ 9 ((4 * w) + 1)) (μ 9 ((4 * w) + 2)) (μ 9 ((4 * w) + 3)) bx b2)))), (10, .int (iI (sgZ (tuZ (μ 9 (4 * w)) (μ 9 ((4 * w) + 1)) (μ 9 ((4 * w) + 2)) (μ 9 ((4 * w) + 3)) ax ay)))), (9, .int (iI (μ 9 ((4 * w) + 3)))), (8, .int (iI (μ 9 ((4 * w) + 2)))), (7, .int (iI (μ 9 ((4 * w) + 1)))), (6, .int (iI (μ 9 (4 * w)))), (0, .ref (M 100)), (1, .int (iI w)), (2, .int (iI ax)), (3, .int (iI ay)), (4, .int (iI bx)), (5, .int (iI b2))]) hx hb dX3_crosses_223 hl (by decide) rfl (fun ls hl => ?_)
        exact jn225_6 0 ls (by first | exact (bI_t (Or.inl ⟨sg0 (by assumption), by assumption⟩)).symm | exact (bI_t (Or.inr ⟨sg0 (by assumption), by assumption⟩)).symm | exact (bI_f (fun z => z.elim (fun y => by first | exact absurd (sg1 y.1) (by assumption) | exact absurd y.2 (by assumption)) (fun y => by first | exact absurd (sg1 y.1) (by assumption) | exact absurd y.2 (by assumption)))).symm) (lv_sub hl [0, 1, 2, 3, 4, 5, 6, 7, 8, 9, 10, 11, 12, 13, 14, 15] rfl)
      · -- 197 to 200
        refine lv_iload hx hb dX3_crosses_200 (lv_at hl 8 rfl) ?_
        refine lv_iload hx hb dX3_crosses_202 (lv_at hl 7 rfl) ?_
        refine lv_iload hx hb dX3_crosses_204 (lv_at hl 6 rfl) ?_
        refine lv_iload hx hb dX3_crosses_206 (lv_at hl 5 rfl) ?_
        refine lv_iload hx hb dX3_crosses_208 (lv_at hl 13 rfl) ?_
        refine lv_iload hx hb dX3_crosses_210 (lv_at hl 14 rfl) ?_
        refine r_calli (va_runS (As := [.int (iI (μ 9 (4 * w))), .int (iI (μ 9 ((4 * w) + 1))), .int (iI (μ 9 ((4 * w) + 2))), .int (iI (μ 9 ((4 * w) + 3))), .int (iI bx), .int (iI b2)]) (rest := []) ⟨hx, hb, hml, hown, hts⟩ (c_X3_isBetween l  (μ 9 (4 * w)) (μ 9 ((4 * w) + 1)) (μ 9 ((4 * w) + 2)) (μ 9 ((4 * w) + 3)) bx b2 (i5 hw0) (i5 hw1) (i5 hw2) (i5 hw3) (i5 hbx) (i5 hb2)) (va_cwS 6 hts gX3_crosses_X3_isBetween rfl rfl rfl (by decide +kernel) ⟨Nat.le_of_ble_eq_true rfl, Nat.le_of_ble_eq_true rfl⟩) ps_T rfl rfl hl.1 rfl (lv_room (Nat.le_of_ble_eq_true rfl)) dX3_crosses_212 ⟨Nat.le_of_ble_eq_true rfl, Nat.le_of_ble_eq_true rfl⟩) ?_
        refine r_ifB_eq (tgt := 222) hx hb dX3_crosses_215 (by decide) (fun h17 => ?_) (fun h17 => ?_)
        · -- 215 to 222
          refine lv_iconst (v := iI 0) hx hb dX3_crosses_222 rfl ?_
          refine lv_istore (lv' := [(15, .int (iI 0)), (14, .int (iI ap)), (13, .int (iI (sgZ (tuZ ax ay bx b2 (μ 9 ((4 * w) + 2)) (μ 9 ((4 * w) + 3)))))), (12, .int (iI (sgZ (tuZ ax ay bx b2 (μ 9 (4 * w)) (μ 9 ((4 * w) + 1)))))), (11, .int (iI (sgZ (tuZ (μ 9 (4 * w)) (μ 9 ((4 * w) + 1)) (μ 9 ((4 * w) + 2)) (μ 9 ((4 * w) + 3)) bx b2)))), (10, .int (iI (sgZ (tuZ (μ 9 (4 * w)) (μ 9 ((4 * w) + 1)) (μ 9 ((4 * w) + 2)) (μ 9 ((4 * w) + 3)) ax ay)))), (9, .int (iI (μ 9 ((4 * w) + 3)))), (8, .int (iI (μ 9 ((4 * w) + 2)))), (7, .int (iI (μ 9 ((4 * w) + 1)))), (6, .int (iI (μ 9 (4 * w)))), (0, .ref (M 100)), (1, .int (iI w)), (2, .int (iI ax)), (3, .int (iI ay)), (4, .int (iI bx)), (5, .int (iI b2))]) hx hb dX3_crosses_223 hl (by decide) rfl (fun ls hl => ?_)
          exact jn225_6 0 ls (by first | exact (bI_t (Or.inl ⟨sg0 (by assumption), by assumption⟩)).symm | exact (bI_t (Or.inr ⟨sg0 (by assumption), by assumption⟩)).symm | exact (bI_f (fun z => z.elim (fun y => by first | exact absurd (sg1 y.1) (by assumption) | exact absurd y.2 (by assumption)) (fun y => by first | exact absurd (sg1 y.1) (by assumption) | exact absurd y.2 (by assumption)))).symm) (lv_sub hl [0, 1, 2, 3, 4, 5, 6, 7, 8, 9, 10, 11, 12, 13, 14, 15] rfl)
        · -- 215 to 218
          refine lv_iconst (v := iI 1) hx hb dX3_crosses_218 rfl ?_
          refine lv_goto (tgt := 223) hx hb dX3_crosses_219 (by decide) ?_
          refine lv_istore (lv' := [(15, .int (iI 1)), (14, .int (iI ap)), (13, .int (iI (sgZ (tuZ ax ay bx b2 (μ 9 ((4 * w) + 2)) (μ 9 ((4 * w) + 3)))))), (12, .int (iI (sgZ (tuZ ax ay bx b2 (μ 9 (4 * w)) (μ 9 ((4 * w) + 1)))))), (11, .int (iI (sgZ (tuZ (μ 9 (4 * w)) (μ 9 ((4 * w) + 1)) (μ 9 ((4 * w) + 2)) (μ 9 ((4 * w) + 3)) bx b2)))), (10, .int (iI (sgZ (tuZ (μ 9 (4 * w)) (μ 9 ((4 * w) + 1)) (μ 9 ((4 * w) + 2)) (μ 9 ((4 * w) + 3)) ax ay)))), (9, .int (iI (μ 9 ((4 * w) + 3)))), (8, .int (iI (μ 9 ((4 * w) + 2)))), (7, .int (iI (μ 9 ((4 * w) + 1)))), (6, .int (iI (μ 9 (4 * w)))), (0, .ref (M 100)), (1, .int (iI w)), (2, .int (iI ax)), (3, .int (iI ay)), (4, .int (iI bx)), (5, .int (iI b2))]) hx hb dX3_crosses_223 hl (by decide) rfl (fun ls hl => ?_)
          exact jn225_6 1 ls (by first | exact (bI_t (Or.inl ⟨sg0 (by assumption), by assumption⟩)).symm | exact (bI_t (Or.inr ⟨sg0 (by assumption), by assumption⟩)).symm | exact (bI_f (fun z => z.elim (fun y => by first | exact absurd (sg1 y.1) (by assumption) | exact absurd y.2 (by assumption)) (fun y => by first | exact absurd (sg1 y.1) (by assumption) | exact absurd y.2 (by assumption)))).symm) (lv_sub hl [0, 1, 2, 3, 4, 5, 6, 7, 8, 9, 10, 11, 12, 13, 14, 15] rfl)
    · -- 176 to 179
      refine lv_iload hx hb dX3_crosses_179 (lv_at hl 8 rfl) ?_
      refine lv_iload hx hb dX3_crosses_181 (lv_at hl 7 rfl) ?_
      refine lv_iload hx hb dX3_crosses_183 (lv_at hl 6 rfl) ?_
      refine lv_iload hx hb dX3_crosses_185 (lv_at hl 5 rfl) ?_
      refine lv_iload_n hx hb dX3_crosses_187 rfl (lv_at hl 11 rfl) ?_
      refine lv_iload_n hx hb dX3_crosses_188 rfl (lv_at hl 12 rfl) ?_
      refine r_calli (va_runS (As := [.int (iI (μ 9 (4 * w))), .int (iI (μ 9 ((4 * w) + 1))), .int (iI (μ 9 ((4 * w) + 2))), .int (iI (μ 9 ((4 * w) + 3))), .int (iI ax), .int (iI ay)]) (rest := []) ⟨hx, hb, hml, hown, hts⟩ (c_X3_isBetween l  (μ 9 (4 * w)) (μ 9 ((4 * w) + 1)) (μ 9 ((4 * w) + 2)) (μ 9 ((4 * w) + 3)) ax ay (i5 hw0) (i5 hw1) (i5 hw2) (i5 hw3) (i5 hax) (i5 hay)) (va_cwS 6 hts gX3_crosses_X3_isBetween rfl rfl rfl (by decide +kernel) ⟨Nat.le_of_ble_eq_true rfl, Nat.le_of_ble_eq_true rfl⟩) ps_T rfl rfl hl.1 rfl (lv_room (Nat.le_of_ble_eq_true rfl)) dX3_crosses_189 ⟨Nat.le_of_ble_eq_true rfl, Nat.le_of_ble_eq_true rfl⟩) ?_
      refine r_ifB_ne (tgt := 218) hx hb dX3_crosses_192 (by decide) (fun h18 => ?_) (fun h18 => ?_)
      · -- 192 to 218
        refine lv_iconst (v := iI 1) hx hb dX3_crosses_218 rfl ?_
        refine lv_goto (tgt := 223) hx hb dX3_crosses_219 (by decide) ?_
        refine lv_istore (lv' := [(15, .int (iI 1)), (14, .int (iI ap)), (13, .int (iI (sgZ (tuZ ax ay bx b2 (μ 9 ((4 * w) + 2)) (μ 9 ((4 * w) + 3)))))), (12, .int (iI (sgZ (tuZ ax ay bx b2 (μ 9 (4 * w)) (μ 9 ((4 * w) + 1)))))), (11, .int (iI (sgZ (tuZ (μ 9 (4 * w)) (μ 9 ((4 * w) + 1)) (μ 9 ((4 * w) + 2)) (μ 9 ((4 * w) + 3)) bx b2)))), (10, .int (iI (sgZ (tuZ (μ 9 (4 * w)) (μ 9 ((4 * w) + 1)) (μ 9 ((4 * w) + 2)) (μ 9 ((4 * w) + 3)) ax ay)))), (9, .int (iI (μ 9 ((4 * w) + 3)))), (8, .int (iI (μ 9 ((4 * w) + 2)))), (7, .int (iI (μ 9 ((4 * w) + 1)))), (6, .int (iI (μ 9 (4 * w)))), (0, .ref (M 100)), (1, .int (iI w)), (2, .int (iI ax)), (3, .int (iI ay)), (4, .int (iI bx)), (5, .int (iI b2))]) hx hb dX3_crosses_223 hl (by decide) rfl (fun ls hl => ?_)
        exact jn225_6 1 ls (by first | exact (bI_t (Or.inl ⟨sg0 (by assumption), by assumption⟩)).symm | exact (bI_t (Or.inr ⟨sg0 (by assumption), by assumption⟩)).symm | exact (bI_f (fun z => z.elim (fun y => by first | exact absurd (sg1 y.1) (by assumption) | exact absurd y.2 (by assumption)) (fun y => by first | exact absurd (sg1 y.1) (by assumption) | exact absurd y.2 (by assumption)))).symm) (lv_sub hl [0, 1, 2, 3, 4, 5, 6, 7, 8, 9, 10, 11, 12, 13, 14, 15] rfl)
      · -- 192 to 195
        refine lv_iload hx hb dX3_crosses_195 (lv_at hl 3 rfl) ?_
        refine r_if_ne (tgt := 222) hx hb dX3_crosses_197 (by decide) (sg_i32 _) (fun h19 => ?_) (fun h19 => ?_)
        · -- 197 to 222
          refine lv_iconst (v := iI 0) hx hb dX3_crosses_222 rfl ?_
          refine lv_istore (lv' := [(15, .int (iI 0)), (14, .int (iI ap)), (13, .int (iI (sgZ (tuZ ax ay bx b2 (μ 9 ((4 * w) + 2)) (μ 9 ((4 * w) + 3)))))), (12, .int (iI (sgZ (tuZ ax ay bx b2 (μ 9 (4 * w)) (μ 9 ((4 * w) + 1)))))), (11, .int (iI (sgZ (tuZ (μ 9 (4 * w)) (μ 9 ((4 * w) + 1)) (μ 9 ((4 * w) + 2)) (μ 9 ((4 * w) + 3)) bx b2)))), (10, .int (iI (sgZ (tuZ (μ 9 (4 * w)) (μ 9 ((4 * w) + 1)) (μ 9 ((4 * w) + 2)) (μ 9 ((4 * w) + 3)) ax ay)))), (9, .int (iI (μ 9 ((4 * w) + 3)))), (8, .int (iI (μ 9 ((4 * w) + 2)))), (7, .int (iI (μ 9 ((4 * w) + 1)))), (6, .int (iI (μ 9 (4 * w)))), (0, .ref (M 100)), (1, .int (iI w)), (2, .int (iI ax)), (3, .int (iI ay)), (4, .int (iI bx)), (5, .int (iI b2))]) hx hb dX3_crosses_223 hl (by decide) rfl (fun ls hl => ?_)
          exact jn225_6 0 ls (by first | exact (bI_t (Or.inl ⟨sg0 (by assumption), by assumption⟩)).symm | exact (bI_t (Or.inr ⟨sg0 (by assumption), by assumption⟩)).symm | exact (bI_f (fun z => z.elim (fun y => by first | exact absurd (sg1 y.1) (by assumption) | exact absurd y.2 (by assumption)) (fun y => by first | exact absurd (sg1 y.1) (by assumption) | exact absurd y.2 (by assumption)))).symm) (lv_sub hl [0, 1, 2, 3, 4, 5, 6, 7, 8, 9, 10, 11, 12, 13, 14, 15] rfl)
        · -- 197 to 200
          refine lv_iload hx hb dX3_crosses_200 (lv_at hl 8 rfl) ?_
          refine lv_iload hx hb dX3_crosses_202 (lv_at hl 7 rfl) ?_
          refine lv_iload hx hb dX3_crosses_204 (lv_at hl 6 rfl) ?_
          refine lv_iload hx hb dX3_crosses_206 (lv_at hl 5 rfl) ?_
          refine lv_iload hx hb dX3_crosses_208 (lv_at hl 13 rfl) ?_
          refine lv_iload hx hb dX3_crosses_210 (lv_at hl 14 rfl) ?_
          refine r_calli (va_runS (As := [.int (iI (μ 9 (4 * w))), .int (iI (μ 9 ((4 * w) + 1))), .int (iI (μ 9 ((4 * w) + 2))), .int (iI (μ 9 ((4 * w) + 3))), .int (iI bx), .int (iI b2)]) (rest := []) ⟨hx, hb, hml, hown, hts⟩ (c_X3_isBetween l  (μ 9 (4 * w)) (μ 9 ((4 * w) + 1)) (μ 9 ((4 * w) + 2)) (μ 9 ((4 * w) + 3)) bx b2 (i5 hw0) (i5 hw1) (i5 hw2) (i5 hw3) (i5 hbx) (i5 hb2)) (va_cwS 6 hts gX3_crosses_X3_isBetween rfl rfl rfl (by decide +kernel) ⟨Nat.le_of_ble_eq_true rfl, Nat.le_of_ble_eq_true rfl⟩) ps_T rfl rfl hl.1 rfl (lv_room (Nat.le_of_ble_eq_true rfl)) dX3_crosses_212 ⟨Nat.le_of_ble_eq_true rfl, Nat.le_of_ble_eq_true rfl⟩) ?_
          refine r_ifB_eq (tgt := 222) hx hb dX3_crosses_215 (by decide) (fun h20 => ?_) (fun h20 => ?_)
          · -- 215 to 222
            refine lv_iconst (v := iI 0) hx hb dX3_crosses_222 rfl ?_
            refine lv_istore (lv' := [(15, .int (iI 0)), (14, .int (iI ap)), (13, .int (iI (sgZ (tuZ ax ay bx b2 (μ 9 ((4 * w) + 2)) (μ 9 ((4 * w) + 3)))))), (12, .int (iI (sgZ (tuZ ax ay bx b2 (μ 9 (4 * w)) (μ 9 ((4 * w) + 1)))))), (11, .int (iI (sgZ (tuZ (μ 9 (4 * w)) (μ 9 ((4 * w) + 1)) (μ 9 ((4 * w) + 2)) (μ 9 ((4 * w) + 3)) bx b2)))), (10, .int (iI (sgZ (tuZ (μ 9 (4 * w)) (μ 9 ((4 * w) + 1)) (μ 9 ((4 * w) + 2)) (μ 9 ((4 * w) + 3)) ax ay)))), (9, .int (iI (μ 9 ((4 * w) + 3)))), (8, .int (iI (μ 9 ((4 * w) + 2)))), (7, .int (iI (μ 9 ((4 * w) + 1)))), (6, .int (iI (μ 9 (4 * w)))), (0, .ref (M 100)), (1, .int (iI w)), (2, .int (iI ax)), (3, .int (iI ay)), (4, .int (iI bx)), (5, .int (iI b2))]) hx hb dX3_crosses_223 hl (by decide) rfl (fun ls hl => ?_)
            exact jn225_6 0 ls (by first | exact (bI_t (Or.inl ⟨sg0 (by assumption), by assumption⟩)).symm | exact (bI_t (Or.inr ⟨sg0 (by assumption), by assumption⟩)).symm | exact (bI_f (fun z => z.elim (fun y => by first | exact absurd (sg1 y.1) (by assumption) | exact absurd y.2 (by assumption)) (fun y => by first | exact absurd (sg1 y.1) (by assumption) | exact absurd y.2 (by assumption)))).symm) (lv_sub hl [0, 1, 2, 3, 4, 5, 6, 7, 8, 9, 10, 11, 12, 13, 14, 15] rfl)
          · -- 215 to 218
            refine lv_iconst (v := iI 1) hx hb dX3_crosses_218 rfl ?_
            refine lv_goto (tgt := 223) hx hb dX3_crosses_219 (by decide) ?_
            refine lv_istore (lv' := [(15, .int (iI 1)), (14, .int (iI ap)), (13, .int (iI (sgZ (tuZ ax ay bx b2 (μ 9 ((4 * w) + 2)) (μ 9 ((4 * w) + 3)))))), (12, .int (iI (sgZ (tuZ ax ay bx b2 (μ 9 (4 * w)) (μ 9 ((4 * w) + 1)))))), (11, .int (iI (sgZ (tuZ (μ 9 (4 * w)) (μ 9 ((4 * w) + 1)) (μ 9 ((4 * w) + 2)) (μ 9 ((4 * w) + 3)) bx b2)))), (10, .int (iI (sgZ (tuZ (μ 9 (4 * w)) (μ 9 ((4 * w) + 1)) (μ 9 ((4 * w) + 2)) (μ 9 ((4 * w) + 3)) ax ay)))), (9, .int (iI (μ 9 ((4 * w) + 3)))), (8, .int (iI (μ 9 ((4 * w) + 2)))), (7, .int (iI (μ 9 ((4 * w) + 1)))), (6, .int (iI (μ 9 (4 * w)))), (0, .ref (M 100)), (1, .int (iI w)), (2, .int (iI ax)), (3, .int (iI ay)), (4, .int (iI bx)), (5, .int (iI b2))]) hx hb dX3_crosses_223 hl (by decide) rfl (fun ls hl => ?_)
            exact jn225_6 1 ls (by first | exact (bI_t (Or.inl ⟨sg0 (by assumption), by assumption⟩)).symm | exact (bI_t (Or.inr ⟨sg0 (by assumption), by assumption⟩)).symm | exact (bI_f (fun z => z.elim (fun y => by first | exact absurd (sg1 y.1) (by assumption) | exact absurd y.2 (by assumption)) (fun y => by first | exact absurd (sg1 y.1) (by assumption) | exact absurd y.2 (by assumption)))).symm) (lv_sub hl [0, 1, 2, 3, 4, 5, 6, 7, 8, 9, 10, 11, 12, 13, 14, 15] rfl)
  refine lv_iload_n hx hb dX3_crosses_132 rfl (lv_at hl 10 rfl) ?_
  refine lv_iload hx hb dX3_crosses_133 (lv_at hl 12 rfl) ?_
  refine r_icmp_ne (tgt := 144) hx hb dX3_crosses_135 (by decide) (by omega) (by omega) (fun h21 => ?_) (fun h21 => ?_)
  · -- 135 to 144
    refine lv_iconst (v := iI 1) hx hb dX3_crosses_144 rfl ?_
    refine lv_goto (tgt := 149) hx hb dX3_crosses_145 (by decide) ?_
    refine lv_istore (lv' := [(14, .int (iI 1)), (13, .int (iI (sgZ (tuZ ax ay bx b2 (μ 9 ((4 * w) + 2)) (μ 9 ((4 * w) + 3)))))), (12, .int (iI (sgZ (tuZ ax ay bx b2 (μ 9 (4 * w)) (μ 9 ((4 * w) + 1)))))), (11, .int (iI (sgZ (tuZ (μ 9 (4 * w)) (μ 9 ((4 * w) + 1)) (μ 9 ((4 * w) + 2)) (μ 9 ((4 * w) + 3)) bx b2)))), (10, .int (iI (sgZ (tuZ (μ 9 (4 * w)) (μ 9 ((4 * w) + 1)) (μ 9 ((4 * w) + 2)) (μ 9 ((4 * w) + 3)) ax ay)))), (9, .int (iI (μ 9 ((4 * w) + 3)))), (8, .int (iI (μ 9 ((4 * w) + 2)))), (7, .int (iI (μ 9 ((4 * w) + 1)))), (6, .int (iI (μ 9 (4 * w)))), (0, .ref (M 100)), (1, .int (iI w)), (2, .int (iI ax)), (3, .int (iI ay)), (4, .int (iI bx)), (5, .int (iI b2))]) hx hb dX3_crosses_149 hl (by decide) rfl (fun ls hl => ?_)
    refine lv_iload hx hb dX3_crosses_151 (lv_at hl 0 rfl) ?_
    refine r_if_eq (tgt := 174) hx hb dX3_crosses_153 (by decide) (by omega) (fun h => absurd h (by decide)) (fun _ => ?_)
    refine lv_iload hx hb dX3_crosses_156 (lv_at hl 4 rfl) ?_
    refine lv_iload hx hb dX3_crosses_158 (lv_at hl 3 rfl) ?_
    refine r_imul hx hb dX3_crosses_160 ?_
    refine r_if_ge (tgt := 174) hx hb dX3_crosses_161 (by decide) (sgm_i32 _ _) (fun h22 => ?_) (fun h22 => ?_)
    · -- 161 to 174
      exact jn174_5 1 ls (by first | exact (bI_t (by omega)).symm | exact (bI_f (by omega)).symm) (by first | exact (fun z => absurd z.2.1 (nop_of (by assumption))) | exact (fun z => absurd z.2.2 (nop_of (by assumption))) | exact (fun z => absurd z.1 (by omega))) (lv_sub hl [0, 1, 2, 3, 4, 5, 6, 7, 8, 9, 10, 11, 12, 13, 14] rfl)
    · -- 161 to 164
      refine lv_iload hx hb dX3_crosses_164 (lv_at hl 2 rfl) ?_
      refine lv_iload hx hb dX3_crosses_166 (lv_at hl 1 rfl) ?_
      refine r_imul hx hb dX3_crosses_168 ?_
      refine r_if_ge (tgt := 174) hx hb dX3_crosses_169 (by decide) (sgm_i32 _ _) (fun h23 => ?_) (fun h23 => ?_)
      · -- 169 to 174
        exact jn174_5 1 ls (by first | exact (bI_t (by omega)).symm | exact (bI_f (by omega)).symm) (by first | exact (fun z => absurd z.2.1 (nop_of (by assumption))) | exact (fun z => absurd z.2.2 (nop_of (by assumption))) | exact (fun z => absurd z.1 (by omega))) (lv_sub hl [0, 1, 2, 3, 4, 5, 6, 7, 8, 9, 10, 11, 12, 13, 14] rfl)
      · -- 169 to 172
        refine lv_iconst (v := iI 1) hx hb dX3_crosses_172 rfl ?_
        exact r_retZ hx hb hr hlocks dX3_crosses_173 (zn_of (by omega)) (bI_t (Or.inl ⟨by omega, op_of (by assumption), op_of (by assumption)⟩)).symm
  · -- 135 to 138
    refine lv_iload_n hx hb dX3_crosses_138 rfl (lv_at hl 11 rfl) ?_
    refine lv_iload hx hb dX3_crosses_139 (lv_at hl 13 rfl) ?_
    refine r_icmp_eq (tgt := 148) hx hb dX3_crosses_141 (by decide) (by omega) (by omega) (fun h24 => ?_) (fun h24 => ?_)
    · -- 141 to 148
      refine lv_iconst (v := iI 0) hx hb dX3_crosses_148 rfl ?_
      refine lv_istore (lv' := [(14, .int (iI 0)), (13, .int (iI (sgZ (tuZ ax ay bx b2 (μ 9 ((4 * w) + 2)) (μ 9 ((4 * w) + 3)))))), (12, .int (iI (sgZ (tuZ ax ay bx b2 (μ 9 (4 * w)) (μ 9 ((4 * w) + 1)))))), (11, .int (iI (sgZ (tuZ (μ 9 (4 * w)) (μ 9 ((4 * w) + 1)) (μ 9 ((4 * w) + 2)) (μ 9 ((4 * w) + 3)) bx b2)))), (10, .int (iI (sgZ (tuZ (μ 9 (4 * w)) (μ 9 ((4 * w) + 1)) (μ 9 ((4 * w) + 2)) (μ 9 ((4 * w) + 3)) ax ay)))), (9, .int (iI (μ 9 ((4 * w) + 3)))), (8, .int (iI (μ 9 ((4 * w) + 2)))), (7, .int (iI (μ 9 ((4 * w) + 1)))), (6, .int (iI (μ 9 (4 * w)))), (0, .ref (M 100)), (1, .int (iI w)), (2, .int (iI ax)), (3, .int (iI ay)), (4, .int (iI bx)), (5, .int (iI b2))]) hx hb dX3_crosses_149 hl (by decide) rfl (fun ls hl => ?_)
      refine lv_iload hx hb dX3_crosses_151 (lv_at hl 0 rfl) ?_
      refine r_if_eq (tgt := 174) hx hb dX3_crosses_153 (by decide) (by omega) (fun _ => ?_) (fun h => absurd h (by decide))
      exact jn174_5 0 ls (by first | exact (bI_t (by omega)).symm | exact (bI_f (by omega)).symm) (by first | exact (fun z => absurd z.2.1 (nop_of (by assumption))) | exact (fun z => absurd z.2.2 (nop_of (by assumption))) | exact (fun z => absurd z.1 (by omega))) (lv_sub hl [0, 1, 2, 3, 4, 5, 6, 7, 8, 9, 10, 11, 12, 13, 14] rfl)
    · -- 141 to 144
      refine lv_iconst (v := iI 1) hx hb dX3_crosses_144 rfl ?_
      refine lv_goto (tgt := 149) hx hb dX3_crosses_145 (by decide) ?_
      refine lv_istore (lv' := [(14, .int (iI 1)), (13, .int (iI (sgZ (tuZ ax ay bx b2 (μ 9 ((4 * w) + 2)) (μ 9 ((4 * w) + 3)))))), (12, .int (iI (sgZ (tuZ ax ay bx b2 (μ 9 (4 * w)) (μ 9 ((4 * w) + 1)))))), (11, .int (iI (sgZ (tuZ (μ 9 (4 * w)) (μ 9 ((4 * w) + 1)) (μ 9 ((4 * w) + 2)) (μ 9 ((4 * w) + 3)) bx b2)))), (10, .int (iI (sgZ (tuZ (μ 9 (4 * w)) (μ 9 ((4 * w) + 1)) (μ 9 ((4 * w) + 2)) (μ 9 ((4 * w) + 3)) ax ay)))), (9, .int (iI (μ 9 ((4 * w) + 3)))), (8, .int (iI (μ 9 ((4 * w) + 2)))), (7, .int (iI (μ 9 ((4 * w) + 1)))), (6, .int (iI (μ 9 (4 * w)))), (0, .ref (M 100)), (1, .int (iI w)), (2, .int (iI ax)), (3, .int (iI ay)), (4, .int (iI bx)), (5, .int (iI b2))]) hx hb dX3_crosses_149 hl (by decide) rfl (fun ls hl => ?_)
      refine lv_iload hx hb dX3_crosses_151 (lv_at hl 0 rfl) ?_
      refine r_if_eq (tgt := 174) hx hb dX3_crosses_153 (by decide) (by omega) (fun h => absurd h (by decide)) (fun _ => ?_)
      refine lv_iload hx hb dX3_crosses_156 (lv_at hl 4 rfl) ?_
      refine lv_iload hx hb dX3_crosses_158 (lv_at hl 3 rfl) ?_
      refine r_imul hx hb dX3_crosses_160 ?_
      refine r_if_ge (tgt := 174) hx hb dX3_crosses_161 (by decide) (sgm_i32 _ _) (fun h25 => ?_) (fun h25 => ?_)
      · -- 161 to 174
        exact jn174_5 1 ls (by first | exact (bI_t (by omega)).symm | exact (bI_f (by omega)).symm) (by first | exact (fun z => absurd z.2.1 (nop_of (by assumption))) | exact (fun z => absurd z.2.2 (nop_of (by assumption))) | exact (fun z => absurd z.1 (by omega))) (lv_sub hl [0, 1, 2, 3, 4, 5, 6, 7, 8, 9, 10, 11, 12, 13, 14] rfl)
      · -- 161 to 164
        refine lv_iload hx hb dX3_crosses_164 (lv_at hl 2 rfl) ?_
        refine lv_iload hx hb dX3_crosses_166 (lv_at hl 1 rfl) ?_
        refine r_imul hx hb dX3_crosses_168 ?_
        refine r_if_ge (tgt := 174) hx hb dX3_crosses_169 (by decide) (sgm_i32 _ _) (fun h26 => ?_) (fun h26 => ?_)
        · -- 169 to 174
          exact jn174_5 1 ls (by first | exact (bI_t (by omega)).symm | exact (bI_f (by omega)).symm) (by first | exact (fun z => absurd z.2.1 (nop_of (by assumption))) | exact (fun z => absurd z.2.2 (nop_of (by assumption))) | exact (fun z => absurd z.1 (by omega))) (lv_sub hl [0, 1, 2, 3, 4, 5, 6, 7, 8, 9, 10, 11, 12, 13, 14] rfl)
        · -- 169 to 172
          refine lv_iconst (v := iI 1) hx hb dX3_crosses_172 rfl ?_
          exact r_retZ hx hb hr hlocks dX3_crosses_173 (zn_of (by omega)) (bI_t (Or.inl ⟨by omega, op_of (by assumption), op_of (by assumption)⟩)).symm
