/-! NOISE: the methods that change cells -/
theorem fl_X1_changeFall_57 : Cond.fieldLink RX1 57 "NoiseLamps$Noise" "fall" "I" ∈ wsX1_changeFall := by decide +kernel
set_option maxHeartbeats 4000000 in
set_option maxRecDepth 100000 in
theorem c_X1_changeFall (l : Launch) (D : va_G) (cy : ClassId) (A : Nat → Nat) (σ : Nat → Int → Int) (sz : Nat) (a : Int) (hI : invN σ) (ha : 0 ≤ a ∧ a ≤ 60) : MetM l yX1_changeFall wsX1_changeFall ({ frames := 0, cells := 0, slots := 0, locals := 0 } : Room) D cy (wN cy A σ) ([.ref (A 100), .int (iI a)] : List Value) sz (fun _ : Unit => (σ 14 0)) (fun _ : Unit => True) (fun _ : Unit => wN cy A (su σ 14 (fun _ => a))) := by
  refine met_M (cc := cX1_changeFall) (maxL := 3) (ret := (some .int)) (by decide) rfl (Nat.le_of_ble_eq_true rfl) ?_
  intro p e s m below meth c AA hAA hx hb hr hml hts hown hlocks hP hK hD hA ls hl
  have hS : va_S AA s.heap s.heap [] := va_S.rf
  have hown : s.vm.findClass RX1 = some m.cls := hown
  have hl : lv_has ls 3 [(0, .ref (A 100)), (1, .int (iI a))] := hl
  obtain ⟨hN0, hN4, hN8, hN14, hB1, hB2, hB3, hB5, hB6, hB7, hB9, hB10, hB11, hB12, hB13, hB15, hB16, hB17⟩ := id hI
  refine lv_aload_n hx hb dX1_changeFall_0 rfl (lv_at hl 0 rfl) ?_
  refine va_get (D := D) (ci := 1) (v := .int (iI (σ 14 0))) (C := RX1) (T := TX1) (N := 19) hx hb hts (fun _ h => List.mem_cons_of_mem _ (List.mem_append_right _ h)) hown hK hP 0 rfl rfl 14 (by decide) (hts _ fl_X1_changeFall_57) (fun _ h9 => h9) rfl dX1_changeFall_1 ?_
  refine lv_istore_n (lv' := [(2, .int (iI (σ 14 0))), (0, .ref (A 100)), (1, .int (iI a))]) hx hb dX1_changeFall_4 rfl hl (by decide) rfl (fun ls hl => ?_)
  refine lv_aload_n hx hb dX1_changeFall_5 rfl (lv_at hl 1 rfl) ?_
  refine lv_iload_n hx hb dX1_changeFall_6 rfl (lv_at hl 2 rfl) ?_
  refine va_put (D := D) (ci := 1) (v := .int (iI a)) (ty := .int) (C := RX1) (T := TX1) (N := 19) hx hb hts (fun _ h => List.mem_cons_of_mem _ (List.mem_append_right _ h)) tyX1 tyX1_ok nmX1 hown hK hP hD hS 0 rfl rfl 14 (by decide) (hts _ fl_X1_changeFall_57) (fun _ h9 => h9) rfl (by decide +kernel) rfl rfl (Nat.le_of_ble_eq_true rfl) dX1_changeFall_7 (fun H locs hP hD hS => ?_)
  have hP : va_P D vwCl (wN cy A (su σ 14 (fun _ => a))) H := hP
  have hD : va_D AA (wN cy A (su σ 14 (fun _ => a))) := hD
  refine lv_iload_n hx hb dX1_changeFall_10 rfl (lv_at hl 0 rfl) ?_
  exact r_retM () hx hb hr hlocks hS dX1_changeFall_11 rfl trivial hP
theorem fl_X1_changeMalus_45 : Cond.fieldLink RX1 45 "NoiseLamps$Noise" "malus" "[I" ∈ wsX1_changeMalus := by decide +kernel
set_option maxHeartbeats 4000000 in
set_option maxRecDepth 100000 in
theorem c_X1_changeMalus (l : Launch) (D : va_G) (cy : ClassId) (A : Nat → Nat) (σ : Nat → Int → Int) (sz : Nat) (a b : Int) (hI : invN σ) (ha : 0 ≤ a ∧ a < 3) (hb2 : 0 ≤ b ∧ b ≤ 200) : MetM l yX1_changeMalus wsX1_changeMalus ({ frames := 0, cells := 0, slots := 0, locals := 0 } : Room) D cy (wN cy A σ) ([.ref (A 100), .int (iI a), .int (iI b)] : List Value) sz (fun _ : Unit => (σ 15 a)) (fun _ : Unit => True) (fun _ : Unit => wN cy A (su σ 15 (up (σ 15) a b))) := by
  refine met_M (cc := cX1_changeMalus) (maxL := 4) (ret := (some .int)) (by decide) rfl (Nat.le_of_ble_eq_true rfl) ?_
  intro p e s m below meth c AA hAA hx hb hr hml hts hown hlocks hP hK hD hA ls hl
  have hS : va_S AA s.heap s.heap [] := va_S.rf
  have hown : s.vm.findClass RX1 = some m.cls := hown
  have hl : lv_has ls 4 [(0, .ref (A 100)), (1, .int (iI a)), (2, .int (iI b))] := hl
  obtain ⟨hN0, hN4, hN8, hN14, hB1, hB2, hB3, hB5, hB6, hB7, hB9, hB10, hB11, hB12, hB13, hB15, hB16, hB17⟩ := id hI
  refine lv_aload_n hx hb dX1_changeMalus_0 rfl (lv_at hl 0 rfl) ?_
  refine va_get (D := D) (ci := 1) (v := .ref (A 15)) (C := RX1) (T := TX1) (N := 19) hx hb hts (fun _ h => List.mem_cons_of_mem _ (List.mem_append_right _ h)) hown hK hP 0 rfl rfl 15 (by decide) (hts _ fl_X1_changeMalus_45) (fun _ h9 => h9) rfl dX1_changeMalus_1 ?_
  refine lv_iload_n hx hb dX1_changeMalus_4 rfl (lv_at hl 1 rfl) ?_
  refine r_iald hx hb hK hP 12 0 rfl rfl (Nat.le_of_ble_eq_true rfl) (by omega) dX1_changeMalus_5 ?_
  have hv1 := hB15 a
  refine lv_istore_n (lv' := [(3, .int (iI (σ 15 a))), (0, .ref (A 100)), (1, .int (iI a)), (2, .int (iI b))]) hx hb dX1_changeMalus_6 rfl hl (by decide) rfl (fun ls hl => ?_)
  refine lv_aload_n hx hb dX1_changeMalus_7 rfl (lv_at hl 1 rfl) ?_
  refine va_get (D := D) (ci := 1) (v := .ref (A 15)) (C := RX1) (T := TX1) (N := 19) hx hb hts (fun _ h => List.mem_cons_of_mem _ (List.mem_append_right _ h)) hown hK hP 0 rfl rfl 15 (by decide) (hts _ fl_X1_changeMalus_45) (fun _ h9 => h9) rfl dX1_changeMalus_8 ?_
  refine lv_iload_n hx hb dX1_changeMalus_11 rfl (lv_at hl 2 rfl) ?_
  refine lv_iload_n hx hb dX1_changeMalus_12 rfl (lv_at hl 3 rfl) ?_
  refine r_iast hx hb hK hP hD hS 12 0 rfl rfl (Nat.le_of_ble_eq_true rfl) (by omega) dX1_changeMalus_13 (fun H locs hP hD hS => ?_)
  have hP : va_P D vwCl (wN cy A (su σ 15 (up (σ 15) a b))) H := hP
  have hD : va_D AA (wN cy A (su σ 15 (up (σ 15) a b))) := hD
  refine lv_iload_n hx hb dX1_changeMalus_14 rfl (lv_at hl 0 rfl) ?_
  exact r_retM () hx hb hr hlocks hS dX1_changeMalus_15 rfl trivial hP
theorem fl_X1_changeCut_42 : Cond.fieldLink RX1 42 "NoiseLamps$Noise" "wallCut" "[I" ∈ wsX1_changeCut := by decide +kernel
set_option maxHeartbeats 4000000 in
set_option maxRecDepth 100000 in
theorem c_X1_changeCut (l : Launch) (D : va_G) (cy : ClassId) (A : Nat → Nat) (σ : Nat → Int → Int) (sz : Nat) (a b : Int) (hI : invN σ) (ha : 0 ≤ a ∧ a < 8) (hb2 : 0 ≤ b ∧ b ≤ 300) : MetM l yX1_changeCut wsX1_changeCut ({ frames := 0, cells := 0, slots := 0, locals := 0 } : Room) D cy (wN cy A σ) ([.ref (A 100), .int (iI a), .int (iI b)] : List Value) sz (fun _ : Unit => (σ 13 a)) (fun _ : Unit => True) (fun _ : Unit => wN cy A (su σ 13 (up (σ 13) a b))) := by
  refine met_M (cc := cX1_changeCut) (maxL := 4) (ret := (some .int)) (by decide) rfl (Nat.le_of_ble_eq_true rfl) ?_
  intro p e s m below meth c AA hAA hx hb hr hml hts hown hlocks hP hK hD hA ls hl
  have hS : va_S AA s.heap s.heap [] := va_S.rf
  have hown : s.vm.findClass RX1 = some m.cls := hown
  have hl : lv_has ls 4 [(0, .ref (A 100)), (1, .int (iI a)), (2, .int (iI b))] := hl
  obtain ⟨hN0, hN4, hN8, hN14, hB1, hB2, hB3, hB5, hB6, hB7, hB9, hB10, hB11, hB12, hB13, hB15, hB16, hB17⟩ := id hI
  refine lv_aload_n hx hb dX1_changeCut_0 rfl (lv_at hl 0 rfl) ?_
  refine va_get (D := D) (ci := 1) (v := .ref (A 13)) (C := RX1) (T := TX1) (N := 19) hx hb hts (fun _ h => List.mem_cons_of_mem _ (List.mem_append_right _ h)) hown hK hP 0 rfl rfl 13 (by decide) (hts _ fl_X1_changeCut_42) (fun _ h9 => h9) rfl dX1_changeCut_1 ?_
  refine lv_iload_n hx hb dX1_changeCut_4 rfl (lv_at hl 1 rfl) ?_
  refine r_iald hx hb hK hP 11 0 rfl rfl (Nat.le_of_ble_eq_true rfl) (by omega) dX1_changeCut_5 ?_
  have hv1 := hB13 a
  refine lv_istore_n (lv' := [(3, .int (iI (σ 13 a))), (0, .ref (A 100)), (1, .int (iI a)), (2, .int (iI b))]) hx hb dX1_changeCut_6 rfl hl (by decide) rfl (fun ls hl => ?_)
  refine lv_aload_n hx hb dX1_changeCut_7 rfl (lv_at hl 1 rfl) ?_
  refine va_get (D := D) (ci := 1) (v := .ref (A 13)) (C := RX1) (T := TX1) (N := 19) hx hb hts (fun _ h => List.mem_cons_of_mem _ (List.mem_append_right _ h)) hown hK hP 0 rfl rfl 13 (by decide) (hts _ fl_X1_changeCut_42) (fun _ h9 => h9) rfl dX1_changeCut_8 ?_
  refine lv_iload_n hx hb dX1_changeCut_11 rfl (lv_at hl 2 rfl) ?_
  refine lv_iload_n hx hb dX1_changeCut_12 rfl (lv_at hl 3 rfl) ?_
  refine r_iast hx hb hK hP hD hS 11 0 rfl rfl (Nat.le_of_ble_eq_true rfl) (by omega) dX1_changeCut_13 (fun H locs hP hD hS => ?_)
  have hP : va_P D vwCl (wN cy A (su σ 13 (up (σ 13) a b))) H := hP
  have hD : va_D AA (wN cy A (su σ 13 (up (σ 13) a b))) := hD
  refine lv_iload_n hx hb dX1_changeCut_14 rfl (lv_at hl 0 rfl) ?_
  exact r_retM () hx hb hr hlocks hS dX1_changeCut_15 rfl trivial hP
theorem fl_X1_noteIfBetween_51 : Cond.fieldLink RX1 51 "NoiseLamps$Noise" "wallsBetween" "[I" ∈ wsX1_noteIfBetween := by decide +kernel
set_option maxHeartbeats 4000000 in
set_option maxRecDepth 100000 in
theorem c_X1_noteIfBetween (l : Launch) (D : va_G) (cy : ClassId) (A : Nat → Nat) (σ : Nat → Int → Int) (sz : Nat) (w p0 h0 : Int) (hI : invN σ) (hw : 0 ≤ w ∧ w < 8) (hp : 0 ≤ p0 ∧ p0 < 12) (hh : 0 ≤ h0 ∧ h0 < 20) : MetV l yX1_noteIfBetween wsX1_noteIfBetween ({ frames := 3, cells := 0, slots := 0, locals := 75 } : Room) D cy (wN cy A σ) ([.ref (A 100), .int (iI w), .int (iI p0), .int (iI h0)] : List Value) sz (fun _ : Unit => True) (fun _ : Unit => wN cy A (su σ 17 (nNoteF σ w p0 h0))) := by
  refine met_V (cc := cX1_noteIfBetween) (maxL := 4) (ret := none) (by decide) rfl (Nat.le_of_ble_eq_true rfl) ?_
  intro p e s m below meth c AA hAA hx hb hr hml hts hown hin hlocks hP hK hD hA ls hl
  have hS : va_S AA s.heap s.heap [] := va_S.rf
  have hown : s.vm.findClass RX1 = some m.cls := hown
  have hl : lv_has ls 4 [(0, .ref (A 100)), (1, .int (iI w)), (2, .int (iI p0)), (3, .int (iI h0))] := hl
  obtain ⟨hN0, hN4, hN8, hN14, hB1, hB2, hB3, hB5, hB6, hB7, hB9, hB10, hB11, hB12, hB13, hB15, hB16, hB17⟩ := id hI
  refine lv_aload_n hx hb dX1_noteIfBetween_0 rfl (lv_at hl 0 rfl) ?_
  refine lv_iload_n hx hb dX1_noteIfBetween_1 rfl (lv_at hl 1 rfl) ?_
  refine lv_iload_n hx hb dX1_noteIfBetween_2 rfl (lv_at hl 2 rfl) ?_
  refine lv_iload_n hx hb dX1_noteIfBetween_3 rfl (lv_at hl 3 rfl) ?_
  refine r_calli (va_runV (As := [.int (iI w), .int (iI p0), .int (iI h0)]) (rest := []) ⟨hx, hb, hml, hown, hts⟩ (c_X1_isBetween l D cy A σ w p0 h0 hI (by omega) (by omega) (by omega)) (cwV 3 hts gX1_noteIfBetween_X1_isBetween rfl rfl rfl (by decide +kernel) ⟨Nat.le_of_ble_eq_true rfl, Nat.le_of_ble_eq_true rfl⟩) (pv_ro (C := RX1) (T := TX1) (N := 19) (ci := 1) (q0 := 0) hP hK rfl rfl) rfl rfl hl.1 rfl (lv_room (Nat.le_of_ble_eq_true rfl)) dX1_noteIfBetween_4 ⟨Nat.le_of_ble_eq_true rfl, Nat.le_of_ble_eq_true rfl⟩) ?_
  refine r_ifB_eq (tgt := 26) hx hb dX1_noteIfBetween_7 (by decide) (fun h1 => ?_) (fun h1 => ?_)
  · -- 7 to 26
    exact r_retV () hx hb hr hlocks hS dX1_noteIfBetween_26 trivial (by unfold nNoteF; first | (rw [if_pos (by assumption)]; exact hP) | (rw [if_neg (by assumption)]; exact hP))
  · -- 7 to 10
    refine lv_aload_n hx hb dX1_noteIfBetween_10 rfl (lv_at hl 0 rfl) ?_
    refine va_get (D := D) (ci := 1) (v := .ref (A 17)) (C := RX1) (T := TX1) (N := 19) hx hb hts (fun _ h => List.mem_cons_of_mem _ (List.mem_append_right _ h)) hown hK hP 0 rfl rfl 17 (by decide) (hts _ fl_X1_noteIfBetween_51) (fun _ h9 => h9) rfl dX1_noteIfBetween_11 ?_
    refine lv_iload_n hx hb dX1_noteIfBetween_14 rfl (lv_at hl 2 rfl) ?_
    refine lv_iload_n hx hb dX1_noteIfBetween_15 rfl (lv_at hl 3 rfl) ?_
    refine r_calli (va_runS (As := [.int (iI p0), .int (iI h0)]) (rest := [.ref (A 17)]) ⟨hx, hb, hml, hown, hts⟩ (c_X1_pairOf l  p0 h0 ) (va_cwS 2 hts gX1_noteIfBetween_X1_pairOf rfl rfl rfl (by decide +kernel) ⟨Nat.le_of_ble_eq_true rfl, Nat.le_of_ble_eq_true rfl⟩) ps_T rfl rfl hl.1 rfl (lv_room (Nat.le_of_ble_eq_true rfl)) dX1_noteIfBetween_16 ⟨Nat.le_of_ble_eq_true rfl, Nat.le_of_ble_eq_true rfl⟩) ?_
    refine lv_dup2_11 hx hb dX1_noteIfBetween_19 rfl rfl ?_
    refine r_iald hx hb hK hP 14 0 rfl rfl (Nat.le_of_ble_eq_true rfl) (by omega) dX1_noteIfBetween_20 ?_
    have hv2 := hB17 (p0 * 20 + h0)
    refine lv_iconst (v := iI 1) hx hb dX1_noteIfBetween_21 rfl ?_
    refine lv_iload_n hx hb dX1_noteIfBetween_22 rfl (lv_at hl 1 rfl) ?_
    refine r_shl hx hb dX1_noteIfBetween_23 (by omega) ?_
    refine r_bitor hx hb dX1_noteIfBetween_24 (by omega) (by omega) ?_
    refine r_iast hx hb hK hP hD hS 14 0 rfl rfl (Nat.le_of_ble_eq_true rfl) (by omega) dX1_noteIfBetween_25 (fun H locs hP hD hS => ?_)
    have hP : va_P D vwCl (wN cy A (su σ 17 (up (σ 17) (p0 * 20 + h0) (orZ (σ 17 (p0 * 20 + h0)) w)))) H := hP
    have hD : va_D AA (wN cy A (su σ 17 (up (σ 17) (p0 * 20 + h0) (orZ (σ 17 (p0 * 20 + h0)) w)))) := hD
    exact r_retV () hx hb hr hlocks hS dX1_noteIfBetween_26 trivial (by unfold nNoteF; first | (rw [if_pos (by assumption)]; exact hP) | (rw [if_neg (by assumption)]; exact hP))
theorem fl_X1_measurePair_11 : Cond.fieldLink RX1 11 "NoiseLamps$Noise" "pieceX" "[I" ∈ wsX1_measurePair := by decide +kernel
theorem fl_X1_measurePair_21 : Cond.fieldLink RX1 21 "NoiseLamps$Noise" "houseX" "[I" ∈ wsX1_measurePair := by decide +kernel
theorem fl_X1_measurePair_15 : Cond.fieldLink RX1 15 "NoiseLamps$Noise" "pieceY" "[I" ∈ wsX1_measurePair := by decide +kernel
theorem fl_X1_measurePair_24 : Cond.fieldLink RX1 24 "NoiseLamps$Noise" "houseY" "[I" ∈ wsX1_measurePair := by decide +kernel
theorem fl_X1_measurePair_48 : Cond.fieldLink RX1 48 "NoiseLamps$Noise" "doublings" "[I" ∈ wsX1_measurePair := by decide +kernel
theorem fl_X1_measurePair_67 : Cond.fieldLink RX1 67 "NoiseLamps$Noise" "walls" "I" ∈ wsX1_measurePair := by decide +kernel
set_option maxHeartbeats 4000000 in
set_option maxRecDepth 100000 in
theorem c_X1_measurePair (l : Launch) (D : va_G) (cy : ClassId) (A : Nat → Nat) (σ : Nat → Int → Int) (sz : Nat) (p0 h0 : Int) (hI : invN σ) (hp : 0 ≤ p0 ∧ p0 < 12) (hh : 0 ≤ h0 ∧ h0 < 20) : MetV l yX1_measurePair wsX1_measurePair ({ frames := 4, cells := 0, slots := 0, locals := 98 } : Room) D cy (wN cy A σ) ([.ref (A 100), .int (iI p0), .int (iI h0)] : List Value) sz (fun _ : Unit => True) (fun _ : Unit => wN cy A (su (su σ 16 (up (σ 16) (p0 * 20 + h0) (nDbl (d2Z σ p0 h0)))) 17 (up (σ 17) (p0 * 20 + h0) (nMsk σ p0 h0 (σ 17 (p0 * 20 + h0)))))) := by
  refine met_V (cc := cX1_measurePair) (maxL := 6) (ret := none) (by decide) rfl (Nat.le_of_ble_eq_true rfl) ?_
  intro p e s m below meth c AA hAA hx hb hr hml hts hown hin hlocks hP hK hD hA ls hl
  have hS : va_S AA s.heap s.heap [] := va_S.rf
  have hown : s.vm.findClass RX1 = some m.cls := hown
  have hl : lv_has ls 6 [(0, .ref (A 100)), (1, .int (iI p0)), (2, .int (iI h0))] := hl
  obtain ⟨hN0, hN4, hN8, hN14, hB1, hB2, hB3, hB5, hB6, hB7, hB9, hB10, hB11, hB12, hB13, hB15, hB16, hB17⟩ := id hI
  have hd2 := d2Z_bd hI p0 h0
  unfold d2Z at hd2
  refine lv_aload_n hx hb dX1_measurePair_0 rfl (lv_at hl 0 rfl) ?_
  refine va_get (D := D) (ci := 1) (v := .ref (A 1)) (C := RX1) (T := TX1) (N := 19) hx hb hts (fun _ h => List.mem_cons_of_mem _ (List.mem_append_right _ h)) hown hK hP 0 rfl rfl 1 (by decide) (hts _ fl_X1_measurePair_11) (fun _ h9 => h9) rfl dX1_measurePair_1 ?_
  refine lv_iload_n hx hb dX1_measurePair_4 rfl (lv_at hl 1 rfl) ?_
  refine r_iald hx hb hK hP 1 0 rfl rfl (Nat.le_of_ble_eq_true rfl) (by omega) dX1_measurePair_5 ?_
  have hv1 := hB1 p0
  refine lv_aload_n hx hb dX1_measurePair_6 rfl (lv_at hl 0 rfl) ?_
  refine va_get (D := D) (ci := 1) (v := .ref (A 5)) (C := RX1) (T := TX1) (N := 19) hx hb hts (fun _ h => List.mem_cons_of_mem _ (List.mem_append_right _ h)) hown hK hP 0 rfl rfl 5 (by decide) (hts _ fl_X1_measurePair_21) (fun _ h9 => h9) rfl dX1_measurePair_7 ?_
  refine lv_iload_n hx hb dX1_measurePair_10 rfl (lv_at hl 2 rfl) ?_
  refine r_iald hx hb hK hP 4 0 rfl rfl (Nat.le_of_ble_eq_true rfl) (by omega) dX1_measurePair_11 ?_
  have hv2 := hB5 h0
  refine r_isub hx hb dX1_measurePair_12 ?_
  refine lv_istore_n (lv' := [(3, .int (iI ((σ 1 p0) - (σ 5 h0)))), (0, .ref (A 100)), (1, .int (iI p0)), (2, .int (iI h0))]) hx hb dX1_measurePair_13 rfl hl (by decide) rfl (fun ls hl => ?_)
  refine lv_aload_n hx hb dX1_measurePair_14 rfl (lv_at hl 1 rfl) ?_
  refine va_get (D := D) (ci := 1) (v := .ref (A 2)) (C := RX1) (T := TX1) (N := 19) hx hb hts (fun _ h => List.mem_cons_of_mem _ (List.mem_append_right _ h)) hown hK hP 0 rfl rfl 2 (by decide) (hts _ fl_X1_measurePair_15) (fun _ h9 => h9) rfl dX1_measurePair_15 ?_
  refine lv_iload_n hx hb dX1_measurePair_18 rfl (lv_at hl 2 rfl) ?_
  refine r_iald hx hb hK hP 2 0 rfl rfl (Nat.le_of_ble_eq_true rfl) (by omega) dX1_measurePair_19 ?_
  have hv3 := hB2 p0
  refine lv_aload_n hx hb dX1_measurePair_20 rfl (lv_at hl 1 rfl) ?_
  refine va_get (D := D) (ci := 1) (v := .ref (A 6)) (C := RX1) (T := TX1) (N := 19) hx hb hts (fun _ h => List.mem_cons_of_mem _ (List.mem_append_right _ h)) hown hK hP 0 rfl rfl 6 (by decide) (hts _ fl_X1_measurePair_24) (fun _ h9 => h9) rfl dX1_measurePair_21 ?_
  refine lv_iload_n hx hb dX1_measurePair_24 rfl (lv_at hl 3 rfl) ?_
  refine r_iald hx hb hK hP 5 0 rfl rfl (Nat.le_of_ble_eq_true rfl) (by omega) dX1_measurePair_25 ?_
  have hv4 := hB6 h0
  refine r_isub hx hb dX1_measurePair_26 ?_
  refine lv_istore (lv' := [(4, .int (iI ((σ 2 p0) - (σ 6 h0)))), (3, .int (iI ((σ 1 p0) - (σ 5 h0)))), (0, .ref (A 100)), (1, .int (iI p0)), (2, .int (iI h0))]) hx hb dX1_measurePair_27 hl (by decide) rfl (fun ls hl => ?_)
  refine lv_aload_n hx hb dX1_measurePair_29 rfl (lv_at hl 2 rfl) ?_
  refine va_get (D := D) (ci := 1) (v := .ref (A 16)) (C := RX1) (T := TX1) (N := 19) hx hb hts (fun _ h => List.mem_cons_of_mem _ (List.mem_append_right _ h)) hown hK hP 0 rfl rfl 16 (by decide) (hts _ fl_X1_measurePair_48) (fun _ h9 => h9) rfl dX1_measurePair_30 ?_
  refine lv_iload_n hx hb dX1_measurePair_33 rfl (lv_at hl 3 rfl) ?_
  refine lv_iload_n hx hb dX1_measurePair_34 rfl (lv_at hl 4 rfl) ?_
  refine r_calli (va_runS (As := [.int (iI p0), .int (iI h0)]) (rest := [.ref (A 16)]) ⟨hx, hb, hml, hown, hts⟩ (c_X1_pairOf l  p0 h0 ) (va_cwS 2 hts gX1_measurePair_X1_pairOf rfl rfl rfl (by decide +kernel) ⟨Nat.le_of_ble_eq_true rfl, Nat.le_of_ble_eq_true rfl⟩) ps_T rfl rfl hl.1 rfl (lv_room (Nat.le_of_ble_eq_true rfl)) dX1_measurePair_35 ⟨Nat.le_of_ble_eq_true rfl, Nat.le_of_ble_eq_true rfl⟩) ?_
  refine lv_iload_n hx hb dX1_measurePair_38 rfl (lv_at hl 1 rfl) ?_
  refine lv_iload_n hx hb dX1_measurePair_39 rfl (lv_at hl 1 rfl) ?_
  refine r_imul hx hb dX1_measurePair_40 ?_
  refine lv_iload hx hb dX1_measurePair_41 (lv_at hl 0 rfl) ?_
  refine lv_iload hx hb dX1_measurePair_43 (lv_at hl 0 rfl) ?_
  refine r_imul hx hb dX1_measurePair_45 ?_
  refine r_iadd hx hb dX1_measurePair_46 ?_
  refine r_calli (va_runS (As := [.int (iI ((((σ 1 p0) - (σ 5 h0)) * ((σ 1 p0) - (σ 5 h0))) + (((σ 2 p0) - (σ 6 h0)) * ((σ 2 p0) - (σ 6 h0)))))]) (rest := [.int (iI (p0 * 20 + h0)), .ref (A 16)]) ⟨hx, hb, hml, hown, hts⟩ (c_X1_doublingsOf l  ((((σ 1 p0) - (σ 5 h0)) * ((σ 1 p0) - (σ 5 h0))) + (((σ 2 p0) - (σ 6 h0)) * ((σ 2 p0) - (σ 6 h0)))) (by omega)) (va_cwS 1 hts gX1_measurePair_X1_doublingsOf rfl rfl rfl (by decide +kernel) ⟨Nat.le_of_ble_eq_true rfl, Nat.le_of_ble_eq_true rfl⟩) ps_T rfl rfl hl.1 rfl (lv_room (Nat.le_of_ble_eq_true rfl)) dX1_measurePair_47 ⟨Nat.le_of_ble_eq_true rfl, Nat.le_of_ble_eq_true rfl⟩) ?_
  refine r_iast hx hb hK hP hD hS 13 0 rfl rfl (Nat.le_of_ble_eq_true rfl) (by omega) dX1_measurePair_50 (fun H locs hP hD hS => ?_)
  have hP : va_P D vwCl (wN cy A (su σ 16 (up (σ 16) (p0 * 20 + h0) (nDbl ((((σ 1 p0) - (σ 5 h0)) * ((σ 1 p0) - (σ 5 h0))) + (((σ 2 p0) - (σ 6 h0)) * ((σ 2 p0) - (σ 6 h0)))))))) H := hP
  have hD : va_D AA (wN cy A (su σ 16 (up (σ 16) (p0 * 20 + h0) (nDbl ((((σ 1 p0) - (σ 5 h0)) * ((σ 1 p0) - (σ 5 h0))) + (((σ 2 p0) - (σ 6 h0)) * ((σ 2 p0) - (σ 6 h0)))))))) := hD
  refine lv_iconst (v := iI 0) hx hb dX1_measurePair_51 rfl ?_
  refine lv_istore (lv' := [(5, .int (iI 0)), (4, .int (iI ((σ 2 p0) - (σ 6 h0)))), (3, .int (iI ((σ 1 p0) - (σ 5 h0)))), (0, .ref (A 100)), (1, .int (iI p0)), (2, .int (iI h0))]) hx hb dX1_measurePair_52 hl (by decide) rfl (fun ls hl => ?_)
  have lp54_5 : ∀ (nlp54_5 : Nat) (i : Int) (g : (Int → Int)) (H : Heap) (locs : List Loc) (ls : Array Slot), (0 ≤ i ∧ i ≤ σ 8 0) → (g = up (σ 17) (p0 * 20 + h0) (fo (nMskF σ p0 h0) (σ 17 (p0 * 20 + h0)) i)) → (∀ k, 0 ≤ g k ∧ g k < 256) → va_P D vwCl (wN cy A (su (su σ 16 (up (σ 16) (p0 * 20 + h0) (nDbl ((((σ 1 p0) - (σ 5 h0)) * ((σ 1 p0) - (σ 5 h0))) + (((σ 2 p0) - (σ 6 h0)) * ((σ 2 p0) - (σ 6 h0))))))) 17 g)) H → va_D AA (wN cy A (su (su σ 16 (up (σ 16) (p0 * 20 + h0) (nDbl ((((σ 1 p0) - (σ 5 h0)) * ((σ 1 p0) - (σ 5 h0))) + (((σ 2 p0) - (σ 6 h0)) * ((σ 2 p0) - (σ 6 h0))))))) 17 g)) → va_S AA s.heap H locs → (σ 8 0 - i < (nlp54_5 : Int)) → lv_has ls 6 [(5, .int (iI i)), (4, .int (iI ((σ 2 p0) - (σ 6 h0)))), (3, .int (iI ((σ 1 p0) - (σ 5 h0)))), (0, .ref (A 100)), (1, .int (iI p0)), (2, .int (iI h0))] → W p l e ({ frames := 4, cells := 0, slots := 0, locals := 98 } : Room) s m ([.ref (A 100), .int (iI p0), .int (iI h0)] : List Value).toArray below meth c H locs 0 0 (MQ below (va_Qv (fun _ : Unit => True) (fun (u : Unit) tz => va_P D vwCl ((fun _ : Unit => wN cy A (su (su σ 16 (up (σ 16) (p0 * 20 + h0) (nDbl (d2Z σ p0 h0)))) 17 (up (σ 17) (p0 * 20 + h0) (nMsk σ p0 h0 (σ 17 (p0 * 20 + h0)))))) u) tz.heap) AA) ([.ref (A 100), .int (iI p0), .int (iI h0)] : List Value).toArray s 0 0 AA) (F0 m 54 ls []) := by
    intro nlp54_5
    induction nlp54_5 with
    | zero => intro i g H locs ls hi hg hgb hP hD hS hn hl; exact absurd hn (by omega)
    | succ nlp54_5 ihlp54_5 =>
      intro i g H locs ls hi hg hgb hP hD hS hn hl
      refine lv_iload hx hb dX1_measurePair_54 (lv_at hl 0 rfl) ?_
      refine lv_aload_n hx hb dX1_measurePair_56 rfl (lv_at hl 3 rfl) ?_
      refine va_get (D := D) (ci := 1) (v := .int (iI (σ 8 0))) (C := RX1) (T := TX1) (N := 19) hx hb hts (fun _ h => List.mem_cons_of_mem _ (List.mem_append_right _ h)) hown hK hP 0 rfl rfl 8 (by decide) (hts _ fl_X1_measurePair_67) (fun _ h9 => h9) rfl dX1_measurePair_57 ?_
      refine r_icmp_ge (tgt := 77) hx hb dX1_measurePair_60 (by decide) (by omega) (by omega) (fun h6 => ?_) (fun h6 => ?_)
      · -- 60 to 77
        exact r_retV () hx hb hr hlocks hS dX1_measurePair_77 trivial (by have e : g = up (σ 17) (p0 * 20 + h0) (nMsk σ p0 h0 (σ 17 (p0 * 20 + h0))) := (by rw [hg, show i = σ 8 0 from by omega]; rfl); rw [e] at hP; exact hP)
      · -- 60 to 63
        refine lv_aload_n hx hb dX1_measurePair_63 rfl (lv_at hl 3 rfl) ?_
        refine lv_iload hx hb dX1_measurePair_64 (lv_at hl 0 rfl) ?_
        refine lv_iload_n hx hb dX1_measurePair_66 rfl (lv_at hl 4 rfl) ?_
        refine lv_iload_n hx hb dX1_measurePair_67 rfl (lv_at hl 5 rfl) ?_
        refine r_callV (w1 := ([] : va_W)) (w2 := ([] : va_W)) (va_runV (As := [.int (iI i), .int (iI p0), .int (iI h0)]) (rest := []) ⟨hx, hb, hml, hown, hts⟩ (c_X1_noteIfBetween l D cy A (su (su σ 16 (up (σ 16) (p0 * 20 + h0) (nDbl ((((σ 1 p0) - (σ 5 h0)) * ((σ 1 p0) - (σ 5 h0))) + (((σ 2 p0) - (σ 6 h0)) * ((σ 2 p0) - (σ 6 h0))))))) 17 g) (H.size) i p0 h0 (inv_17 (inv_16 hI (up_bd hB16 (nDbl_bd _))) hgb) (by omega) (by omega) (by omega)) (cwV 3 hts gX1_measurePair_X1_noteIfBetween rfl rfl rfl (by decide +kernel) ⟨Nat.le_of_ble_eq_true rfl, Nat.le_of_ble_eq_true rfl⟩) (pv_rw (C := RX1) (T := TX1) (N := 19) (ci := 1) (q0 := 0) hP hK hD rfl rfl) rfl rfl hl.1 rfl (lv_room (Nat.le_of_ble_eq_true rfl)) dX1_measurePair_68 ⟨Nat.le_of_ble_eq_true rfl, Nat.le_of_ble_eq_true rfl⟩) hP hD hS hA (fun _ => rfl) (fun u7 H locs hp8 hP hD hS => ?_)
        have hP : va_P D vwCl (wN cy A (su (su (su σ 16 (up (σ 16) (p0 * 20 + h0) (nDbl ((((σ 1 p0) - (σ 5 h0)) * ((σ 1 p0) - (σ 5 h0))) + (((σ 2 p0) - (σ 6 h0)) * ((σ 2 p0) - (σ 6 h0))))))) 17 g) 17 (nNoteF (su (su σ 16 (up (σ 16) (p0 * 20 + h0) (nDbl ((((σ 1 p0) - (σ 5 h0)) * ((σ 1 p0) - (σ 5 h0))) + (((σ 2 p0) - (σ 6 h0)) * ((σ 2 p0) - (σ 6 h0))))))) 17 g) i p0 h0))) H := hP
        have hD : va_D AA (wN cy A (su (su (su σ 16 (up (σ 16) (p0 * 20 + h0) (nDbl ((((σ 1 p0) - (σ 5 h0)) * ((σ 1 p0) - (σ 5 h0))) + (((σ 2 p0) - (σ 6 h0)) * ((σ 2 p0) - (σ 6 h0))))))) 17 g) 17 (nNoteF (su (su σ 16 (up (σ 16) (p0 * 20 + h0) (nDbl ((((σ 1 p0) - (σ 5 h0)) * ((σ 1 p0) - (σ 5 h0))) + (((σ 2 p0) - (σ 6 h0)) * ((σ 2 p0) - (σ 6 h0))))))) 17 g) i p0 h0))) := hD
        refine r_iinc (a := i) (b := (i + 1)) (lv2 := [(5, .int (iI (i + 1))), (4, .int (iI ((σ 2 p0) - (σ 6 h0)))), (3, .int (iI ((σ 1 p0) - (σ 5 h0)))), (0, .ref (A 100)), (1, .int (iI p0)), (2, .int (iI h0))]) hx hb dX1_measurePair_71 hl (k := 0) rfl (by omega) (by decide) rfl (fun ls hl => ?_)
        refine lv_goto (tgt := 54) hx hb dX1_measurePair_74 (by decide) ?_
        exact ihlp54_5 (i + 1) (nNoteF (su (su σ 16 (up (σ 16) (p0 * 20 + h0) (nDbl ((((σ 1 p0) - (σ 5 h0)) * ((σ 1 p0) - (σ 5 h0))) + (((σ 2 p0) - (σ 6 h0)) * ((σ 2 p0) - (σ 6 h0))))))) 17 g) i p0 h0) _ _ ls (by omega) (by rw [hg, fo_s _ _ (by omega)]; exact note_step σ _ _ i p0 h0) (note_bd (inv_17 (inv_16 hI (up_bd hB16 (nDbl_bd _))) hgb) (by omega) p0 h0) hP hD hS (by omega) (lv_sub hl [0, 1, 2, 3, 4, 5] rfl)
  exact lp54_5 _ 0 (σ 17) _ _ ls (by omega) (up_id _ _).symm hB17 hP hD hS (lt_tn _) (lv_sub hl [0, 1, 2, 3, 4, 5] rfl)
theorem fl_X1_houseOfRank_64 : Cond.fieldLink RX1 64 "NoiseLamps$Noise" "houses" "I" ∈ wsX1_houseOfRank := by decide +kernel
theorem fl_X1_houseOfRank_54 : Cond.fieldLink RX1 54 "NoiseLamps$Noise" "allDayLevels" "[I" ∈ wsX1_houseOfRank := by decide +kernel
set_option maxHeartbeats 4000000 in
set_option maxRecDepth 100000 in
theorem c_X1_houseOfRank (l : Launch) (D : va_G) (cy : ClassId) (A : Nat → Nat) (σ : Nat → Int → Int) (sz : Nat) (b : Int) (hI : invN σ) (hb2 : I32 b) (hd : ∀ k, I32 (σ 18 k)) : MetM l yX1_houseOfRank wsX1_houseOfRank ({ frames := 4, cells := 0, slots := 0, locals := 97 } : Room) D cy (wN cy A σ) ([.ref (A 100), .int (iI b)] : List Value) sz (fun u : (Int → Int) => (nRank σ b)) (fun u : (Int → Int) => ∀ k, I32 (u k)) (fun u : (Int → Int) => wN cy A (su σ 18 u)) := by
  refine met_M (cc := cX1_houseOfRank) (maxL := 3) (ret := (some .int)) (by decide) rfl (Nat.le_of_ble_eq_true rfl) ?_
  intro p e s m below meth c AA hAA hx hb hr hml hts hown hlocks hP hK hD hA ls hl
  have hS : va_S AA s.heap s.heap [] := va_S.rf
  have hown : s.vm.findClass RX1 = some m.cls := hown
  have hl : lv_has ls 3 [(0, .ref (A 100)), (1, .int (iI b))] := hl
  obtain ⟨hN0, hN4, hN8, hN14, hB1, hB2, hB3, hB5, hB6, hB7, hB9, hB10, hB11, hB12, hB13, hB15, hB16, hB17⟩ := id hI
  refine lv_iconst (v := iI 0) hx hb dX1_houseOfRank_0 rfl ?_
  refine lv_istore_n (lv' := [(2, .int (iI 0)), (0, .ref (A 100)), (1, .int (iI b))]) hx hb dX1_houseOfRank_1 rfl hl (by decide) rfl (fun ls hl => ?_)
  have lp2_1 : ∀ (nlp2_1 : Nat) (i : Int) (g : (Int → Int)) (H : Heap) (locs : List Loc) (ls : Array Slot), (0 ≤ i ∧ i ≤ σ 4 0) → (∀ k, 0 ≤ k → k < i → g k = nDay σ k) → (∀ k, I32 (g k)) → va_P D vwCl (wN cy A (su σ 18 g)) H → va_D AA (wN cy A (su σ 18 g)) → va_S AA s.heap H locs → (σ 4 0 - i < (nlp2_1 : Int)) → lv_has ls 3 [(2, .int (iI i)), (0, .ref (A 100)), (1, .int (iI b))] → W p l e ({ frames := 4, cells := 0, slots := 0, locals := 97 } : Room) s m ([.ref (A 100), .int (iI b)] : List Value).toArray below meth c H locs 0 0 (MQ below (va_Qi (fun r (u : (Int → Int)) => r = iI ((fun u : (Int → Int) => (nRank σ b)) u) ∧ (fun u : (Int → Int) => ∀ k, I32 (u k)) u) (fun (u : (Int → Int)) tz => va_P D vwCl ((fun u : (Int → Int) => wN cy A (su σ 18 u)) u) tz.heap) AA) ([.ref (A 100), .int (iI b)] : List Value).toArray s 0 0 AA) (F0 m 2 ls []) := by
    intro nlp2_1
    induction nlp2_1 with
    | zero => intro i g H locs ls hi hg hgb hP hD hS hn hl; exact absurd hn (by omega)
    | succ nlp2_1 ihlp2_1 =>
      intro i g H locs ls hi hg hgb hP hD hS hn hl
      refine lv_iload_n hx hb dX1_houseOfRank_2 rfl (lv_at hl 0 rfl) ?_
      refine lv_aload_n hx hb dX1_houseOfRank_3 rfl (lv_at hl 1 rfl) ?_
      refine va_get (D := D) (ci := 1) (v := .int (iI (σ 4 0))) (C := RX1) (T := TX1) (N := 19) hx hb hts (fun _ h => List.mem_cons_of_mem _ (List.mem_append_right _ h)) hown hK hP 0 rfl rfl 4 (by decide) (hts _ fl_X1_houseOfRank_64) (fun _ h9 => h9) rfl dX1_houseOfRank_4 ?_
      refine r_icmp_ge (tgt := 27) hx hb dX1_houseOfRank_7 (by decide) (by omega) (by omega) (fun h2 => ?_) (fun h2 => ?_)
      · -- 7 to 27
        refine lv_iconst (v := iI 0) hx hb dX1_houseOfRank_27 rfl ?_
        refine lv_istore_n (lv' := [(2, .int (iI 0)), (0, .ref (A 100)), (1, .int (iI b))]) hx hb dX1_houseOfRank_28 rfl hl (by decide) rfl (fun ls hl => ?_)
        have lp29_3 : ∀ (nlp29_3 : Nat) (j : Int) (ls : Array Slot), (0 ≤ j ∧ j ≤ σ 4 0) → (nRank σ b = ft (fun h => decide (nAhead (nDay σ) (σ 4 0) h = b)) (fun h => h) (-1) j (σ 4 0)) → (σ 4 0 - j < (nlp29_3 : Int)) → lv_has ls 3 [(2, .int (iI j)), (0, .ref (A 100)), (1, .int (iI b))] → W p l e ({ frames := 4, cells := 0, slots := 0, locals := 97 } : Room) s m ([.ref (A 100), .int (iI b)] : List Value).toArray below meth c H locs 0 0 (MQ below (va_Qi (fun r (u : (Int → Int)) => r = iI ((fun u : (Int → Int) => (nRank σ b)) u) ∧ (fun u : (Int → Int) => ∀ k, I32 (u k)) u) (fun (u : (Int → Int)) tz => va_P D vwCl ((fun u : (Int → Int) => wN cy A (su σ 18 u)) u) tz.heap) AA) ([.ref (A 100), .int (iI b)] : List Value).toArray s 0 0 AA) (F0 m 29 ls []) := by
          intro nlp29_3
          induction nlp29_3 with
          | zero => intro j ls hj hr1 hn hl; exact absurd hn (by omega)
          | succ nlp29_3 ihlp29_3 =>
            intro j ls hj hr1 hn hl
            refine lv_iload_n hx hb dX1_houseOfRank_29 rfl (lv_at hl 0 rfl) ?_
            refine lv_aload_n hx hb dX1_houseOfRank_30 rfl (lv_at hl 1 rfl) ?_
            refine va_get (D := D) (ci := 1) (v := .int (iI (σ 4 0))) (C := RX1) (T := TX1) (N := 19) hx hb hts (fun _ h => List.mem_cons_of_mem _ (List.mem_append_right _ h)) hown hK hP 0 rfl rfl 4 (by decide) (hts _ fl_X1_houseOfRank_64) (fun _ h9 => h9) rfl dX1_houseOfRank_31 ?_
            refine r_icmp_ge (tgt := 54) hx hb dX1_houseOfRank_34 (by decide) (by omega) (by omega) (fun h4 => ?_) (fun h4 => ?_)
            · -- 34 to 54
              refine lv_iconst (v := iI (-1)) hx hb dX1_houseOfRank_54 rfl ?_
              exact r_retM g hx hb hr hlocks hS dX1_houseOfRank_55 (by rw [hr1, ft_end _ _ _ (by omega)]) hgb hP
            · -- 34 to 37
              refine lv_aload_n hx hb dX1_houseOfRank_37 rfl (lv_at hl 1 rfl) ?_
              refine lv_iload_n hx hb dX1_houseOfRank_38 rfl (lv_at hl 0 rfl) ?_
              refine r_calli (va_runV (As := [.int (iI j)]) (rest := []) ⟨hx, hb, hml, hown, hts⟩ (c_X1_housesAhead l D cy A (su σ 18 g) j hI (by omega) hgb) (cwV 1 hts gX1_houseOfRank_X1_housesAhead rfl rfl rfl (by decide +kernel) ⟨Nat.le_of_ble_eq_true rfl, Nat.le_of_ble_eq_true rfl⟩) (pv_ro (C := RX1) (T := TX1) (N := 19) (ci := 1) (q0 := 0) hP hK rfl rfl) rfl rfl hl.1 rfl (lv_room (Nat.le_of_ble_eq_true rfl)) dX1_houseOfRank_39 ⟨Nat.le_of_ble_eq_true rfl, Nat.le_of_ble_eq_true rfl⟩) ?_
              refine W.eq (g2 := F0 m 42 ls [.int (iI (nAhead (g) (σ 4 0) j))]) rfl ?_
              have hf5 : nAhead g (σ 4 0) j = nAhead (nDay σ) (σ 4 0) j := nAhead_congr (by omega) (fun k h0 h1 => hg k h0 (by omega))
              have hab6 := nAhead_bd (nDay σ) (σ 4 0) j (by omega)
              refine lv_iload_n hx hb dX1_houseOfRank_42 rfl (lv_at hl 2 rfl) ?_
              refine r_icmp_ne (tgt := 48) hx hb dX1_houseOfRank_43 (by decide) (by omega) (by omega) (fun h7 => ?_) (fun h7 => ?_)
              · -- 43 to 48
                refine r_iinc (a := j) (b := (j + 1)) (lv2 := [(2, .int (iI (j + 1))), (0, .ref (A 100)), (1, .int (iI b))]) hx hb dX1_houseOfRank_48 hl (k := 0) rfl (by omega) (by decide) rfl (fun ls hl => ?_)
                refine lv_goto (tgt := 29) hx hb dX1_houseOfRank_51 (by decide) ?_
                exact ihlp29_3 (j + 1) ls (by omega) (by rw [hr1, ft_miss _ _ _ (by omega) (decide_eq_false (by omega))]) (by omega) (lv_sub hl [0, 1, 2] rfl)
              · -- 43 to 46
                refine lv_iload_n hx hb dX1_houseOfRank_46 rfl (lv_at hl 0 rfl) ?_
                exact r_retM g hx hb hr hlocks hS dX1_houseOfRank_47 (by rw [hr1, ft_hit _ _ _ (by omega) (decide_eq_true (by omega))]) hgb hP
        exact lp29_3 _ 0 ls (by omega) rfl (lt_tn _) (lv_sub hl [0, 1, 2] rfl)
      · -- 7 to 10
        refine lv_aload_n hx hb dX1_houseOfRank_10 rfl (lv_at hl 1 rfl) ?_
        refine va_get (D := D) (ci := 1) (v := .ref (A 18)) (C := RX1) (T := TX1) (N := 19) hx hb hts (fun _ h => List.mem_cons_of_mem _ (List.mem_append_right _ h)) hown hK hP 0 rfl rfl 18 (by decide) (hts _ fl_X1_houseOfRank_54) (fun _ h9 => h9) rfl dX1_houseOfRank_11 ?_
        refine lv_iload_n hx hb dX1_houseOfRank_14 rfl (lv_at hl 0 rfl) ?_
        refine lv_aload_n hx hb dX1_houseOfRank_15 rfl (lv_at hl 1 rfl) ?_
        refine lv_iload_n hx hb dX1_houseOfRank_16 rfl (lv_at hl 0 rfl) ?_
        refine r_calli (va_runV (As := [.int (iI i)]) (rest := [.int (iI i), .ref (A 18)]) ⟨hx, hb, hml, hown, hts⟩ (c_X1_allDayLevel l D cy A (su σ 18 g) i hI (by omega)) (cwV 1 hts gX1_houseOfRank_X1_allDayLevel rfl rfl rfl (by decide +kernel) ⟨Nat.le_of_ble_eq_true rfl, Nat.le_of_ble_eq_true rfl⟩) (pv_ro (C := RX1) (T := TX1) (N := 19) (ci := 1) (q0 := 0) hP hK rfl rfl) rfl rfl hl.1 rfl (lv_room (Nat.le_of_ble_eq_true rfl)) dX1_houseOfRank_17 ⟨Nat.le_of_ble_eq_true rfl, Nat.le_of_ble_eq_true rfl⟩) ?_
        have hf8 := nDay_bd hI i
        refine r_iast hx hb hK hP hD hS 15 0 rfl rfl (Nat.le_of_ble_eq_true rfl) (by omega) dX1_houseOfRank_20 (fun H locs hP hD hS => ?_)
        have hP : va_P D vwCl (wN cy A (su (su σ 18 g) 18 (up g i (nDay (su σ 18 g) i)))) H := hP
        have hD : va_D AA (wN cy A (su (su σ 18 g) 18 (up g i (nDay (su σ 18 g) i)))) := hD
        refine r_iinc (a := i) (b := (i + 1)) (lv2 := [(2, .int (iI (i + 1))), (0, .ref (A 100)), (1, .int (iI b))]) hx hb dX1_houseOfRank_21 hl (k := 0) rfl (by omega) (by decide) rfl (fun ls hl => ?_)
        refine lv_goto (tgt := 2) hx hb dX1_houseOfRank_24 (by decide) ?_
        exact ihlp2_1 (i + 1) (up g i (nDay (su σ 18 g) i)) _ _ ls (by omega) (ex_step hg rfl) (up_bd hgb (by have q := nDay_bd hI i; have q2 : nDay (su σ 18 g) i = nDay σ i := rfl; omega)) hP hD hS (by omega) (lv_sub hl [0, 1, 2] rfl)
  exact lp2_1 _ 0 (σ 18) s.heap [] ls (by omega) (fun k h0 h1 => absurd h1 (by omega)) hd hP hD hS (lt_tn _) (lv_sub hl [0, 1, 2] rfl)
theorem fl_X1_leastCut_42 : Cond.fieldLink RX1 42 "NoiseLamps$Noise" "wallCut" "[I" ∈ wsX1_leastCut := by decide +kernel
set_option maxHeartbeats 4000000 in
set_option maxRecDepth 100000 in
theorem c_X1_leastCut (l : Launch) (D : va_G) (cy : ClassId) (A : Nat → Nat) (σ : Nat → Int → Int) (sz : Nat) (w b : Int) (hI : invN σ) (hw : 0 ≤ w ∧ w < 8) (hb2 : I32 b) : MetM l yX1_leastCut wsX1_leastCut ({ frames := 5, cells := 0, slots := 0, locals := 119 } : Room) D cy (wN cy A σ) ([.ref (A 100), .int (iI w), .int (iI b)] : List Value) sz (fun _ : Unit => (nLeast σ w b)) (fun _ : Unit => True) (fun _ : Unit => wN cy A σ) := by
  refine met_M (cc := cX1_leastCut) (maxL := 6) (ret := (some .int)) (by decide) rfl (Nat.le_of_ble_eq_true rfl) ?_
  intro p e s m below meth c AA hAA hx hb hr hml hts hown hlocks hP hK hD hA ls hl
  have hS : va_S AA s.heap s.heap [] := va_S.rf
  have hown : s.vm.findClass RX1 = some m.cls := hown
  have hl : lv_has ls 6 [(0, .ref (A 100)), (1, .int (iI w)), (2, .int (iI b))] := hl
  obtain ⟨hN0, hN4, hN8, hN14, hB1, hB2, hB3, hB5, hB6, hB7, hB9, hB10, hB11, hB12, hB13, hB15, hB16, hB17⟩ := id hI
  have hv0 := hB13 w
  refine lv_aload_n hx hb dX1_leastCut_0 rfl (lv_at hl 0 rfl) ?_
  refine va_get (D := D) (ci := 1) (v := .ref (A 13)) (C := RX1) (T := TX1) (N := 19) hx hb hts (fun _ h => List.mem_cons_of_mem _ (List.mem_append_right _ h)) hown hK hP 0 rfl rfl 13 (by decide) (hts _ fl_X1_leastCut_42) (fun _ h9 => h9) rfl dX1_leastCut_1 ?_
  refine lv_iload_n hx hb dX1_leastCut_4 rfl (lv_at hl 1 rfl) ?_
  refine r_iald hx hb hK hP 11 0 rfl rfl (Nat.le_of_ble_eq_true rfl) (by omega) dX1_leastCut_5 ?_
  have hv1 := hB13 w
  refine lv_istore_n (lv' := [(3, .int (iI (σ 13 w))), (0, .ref (A 100)), (1, .int (iI w)), (2, .int (iI b))]) hx hb dX1_leastCut_6 rfl hl (by decide) rfl (fun ls hl => ?_)
  refine lv_iconst (v := iI (-1)) hx hb dX1_leastCut_7 rfl ?_
  refine lv_istore (lv' := [(4, .int (iI (-1))), (3, .int (iI (σ 13 w))), (0, .ref (A 100)), (1, .int (iI w)), (2, .int (iI b))]) hx hb dX1_leastCut_8 hl (by decide) rfl (fun ls hl => ?_)
  refine lv_iconst (v := iI 0) hx hb dX1_leastCut_10 rfl ?_
  refine lv_istore (lv' := [(5, .int (iI 0)), (4, .int (iI (-1))), (3, .int (iI (σ 13 w))), (0, .ref (A 100)), (1, .int (iI w)), (2, .int (iI b))]) hx hb dX1_leastCut_11 hl (by decide) rfl (fun ls hl => ?_)
  have lp13_2 : ∀ (nlp13_2 : Nat) (i : Int) (f : Int) (g : (Int → Int)) (H : Heap) (locs : List Loc) (ls : Array Slot), (0 ≤ i ∧ i ≤ 305 ∧ i % 5 = 0) → (∀ k, k ≠ w → g k = σ 13 k) → (∀ k, 0 ≤ g k ∧ g k ≤ 300) → ((f = -1 ∧ nLeast σ w b = ft (fun j => decide (nNone (su σ 13 (up (σ 13) w (5 * j))) b ≠ 0)) (fun j => 5 * j) (-1) (i / 5) 61) ∨ (0 ≤ f ∧ f ≤ 300 ∧ nLeast σ w b = f)) → va_P D vwCl (wN cy A (su σ 13 g)) H → va_D AA (wN cy A (su σ 13 g)) → va_S AA s.heap H locs → (305 - i < (nlp13_2 : Int)) → lv_has ls 6 [(5, .int (iI i)), (4, .int (iI f)), (3, .int (iI (σ 13 w))), (0, .ref (A 100)), (1, .int (iI w)), (2, .int (iI b))] → W p l e ({ frames := 5, cells := 0, slots := 0, locals := 119 } : Room) s m ([.ref (A 100), .int (iI w), .int (iI b)] : List Value).toArray below meth c H locs 0 0 (MQ below (va_Qi (fun r (u : Unit) => r = iI ((fun _ : Unit => (nLeast σ w b)) u) ∧ (fun _ : Unit => True) u) (fun (u : Unit) tz => va_P D vwCl ((fun _ : Unit => wN cy A σ) u) tz.heap) AA) ([.ref (A 100), .int (iI w), .int (iI b)] : List Value).toArray s 0 0 AA) (F0 m 13 ls []) := by
    intro nlp13_2
    induction nlp13_2 with
    | zero => intro i f g H locs ls hi hg hgb hf hP hD hS hn hl; exact absurd hn (by omega)
    | succ nlp13_2 ihlp13_2 =>
      intro i f g H locs ls hi hg hgb hf hP hD hS hn hl
      refine lv_iload hx hb dX1_leastCut_13 (lv_at hl 0 rfl) ?_
      refine lv_sipush (v := iI 300) hx hb dX1_leastCut_15 (by decide +kernel) ?_
      refine r_icmp_gt (tgt := 53) hx hb dX1_leastCut_18 (by decide) (by omega) (by omega) (fun h3 => ?_) (fun h3 => ?_)
      · -- 18 to 53
        refine lv_aload_n hx hb dX1_leastCut_53 rfl (lv_at hl 3 rfl) ?_
        refine va_get (D := D) (ci := 1) (v := .ref (A 13)) (C := RX1) (T := TX1) (N := 19) hx hb hts (fun _ h => List.mem_cons_of_mem _ (List.mem_append_right _ h)) hown hK hP 0 rfl rfl 13 (by decide) (hts _ fl_X1_leastCut_42) (fun _ h9 => h9) rfl dX1_leastCut_54 ?_
        refine lv_iload_n hx hb dX1_leastCut_57 rfl (lv_at hl 4 rfl) ?_
        refine lv_iload_n hx hb dX1_leastCut_58 rfl (lv_at hl 2 rfl) ?_
        refine r_iast hx hb hK hP hD hS 11 0 rfl rfl (Nat.le_of_ble_eq_true rfl) (by omega) dX1_leastCut_59 (fun H locs hP hD hS => ?_)
        have hP : va_P D vwCl (wN cy A (su (su σ 13 g) 13 (up g w (σ 13 w)))) H := hP
        have hD : va_D AA (wN cy A (su (su σ 13 g) 13 (up g w (σ 13 w)))) := hD
        refine lv_iload hx hb dX1_leastCut_60 (lv_at hl 1 rfl) ?_
        exact r_retM () hx hb hr hlocks hS dX1_leastCut_62 (hf.elim (fun q => by rw [q.2, q.1, ft_end _ _ _ (by omega)]) (fun q => q.2.2.symm)) trivial (by rw [su_su, up_back hg, su_id] at hP; exact hP)
      · -- 18 to 21
        refine lv_iload hx hb dX1_leastCut_21 (lv_at hl 1 rfl) ?_
        refine lv_iconst (v := iI (-1)) hx hb dX1_leastCut_23 rfl ?_
        refine r_icmp_ne (tgt := 53) hx hb dX1_leastCut_24 (by decide) (by omega) (by omega) (fun h4 => ?_) (fun h4 => ?_)
        · -- 24 to 53
          refine lv_aload_n hx hb dX1_leastCut_53 rfl (lv_at hl 3 rfl) ?_
          refine va_get (D := D) (ci := 1) (v := .ref (A 13)) (C := RX1) (T := TX1) (N := 19) hx hb hts (fun _ h => List.mem_cons_of_mem _ (List.mem_append_right _ h)) hown hK hP 0 rfl rfl 13 (by decide) (hts _ fl_X1_leastCut_42) (fun _ h9 => h9) rfl dX1_leastCut_54 ?_
          refine lv_iload_n hx hb dX1_leastCut_57 rfl (lv_at hl 4 rfl) ?_
          refine lv_iload_n hx hb dX1_leastCut_58 rfl (lv_at hl 2 rfl) ?_
          refine r_iast hx hb hK hP hD hS 11 0 rfl rfl (Nat.le_of_ble_eq_true rfl) (by omega) dX1_leastCut_59 (fun H locs hP hD hS => ?_)
          have hP : va_P D vwCl (wN cy A (su (su σ 13 g) 13 (up g w (σ 13 w)))) H := hP
          have hD : va_D AA (wN cy A (su (su σ 13 g) 13 (up g w (σ 13 w)))) := hD
          refine lv_iload hx hb dX1_leastCut_60 (lv_at hl 1 rfl) ?_
          exact r_retM () hx hb hr hlocks hS dX1_leastCut_62 (hf.elim (fun q => by rw [q.2, q.1, ft_end _ _ _ (by omega)]) (fun q => q.2.2.symm)) trivial (by rw [su_su, up_back hg, su_id] at hP; exact hP)
        · -- 24 to 27
          refine lv_aload_n hx hb dX1_leastCut_27 rfl (lv_at hl 3 rfl) ?_
          refine va_get (D := D) (ci := 1) (v := .ref (A 13)) (C := RX1) (T := TX1) (N := 19) hx hb hts (fun _ h => List.mem_cons_of_mem _ (List.mem_append_right _ h)) hown hK hP 0 rfl rfl 13 (by decide) (hts _ fl_X1_leastCut_42) (fun _ h9 => h9) rfl dX1_leastCut_28 ?_
          refine lv_iload_n hx hb dX1_leastCut_31 rfl (lv_at hl 4 rfl) ?_
          refine lv_iload hx hb dX1_leastCut_32 (lv_at hl 0 rfl) ?_
          refine r_iast hx hb hK hP hD hS 11 0 rfl rfl (Nat.le_of_ble_eq_true rfl) (by omega) dX1_leastCut_34 (fun H locs hP hD hS => ?_)
          have hP : va_P D vwCl (wN cy A (su (su σ 13 g) 13 (up g w i))) H := hP
          have hD : va_D AA (wN cy A (su (su σ 13 g) 13 (up g w i))) := hD
          refine lv_aload_n hx hb dX1_leastCut_35 rfl (lv_at hl 3 rfl) ?_
          refine lv_iload_n hx hb dX1_leastCut_36 rfl (lv_at hl 5 rfl) ?_
          refine r_calli (va_runV (As := [.int (iI b)]) (rest := []) ⟨hx, hb, hml, hown, hts⟩ (c_X1_noneAbove l D cy A (su (su σ 13 g) 13 (up g w i)) b (inv_13 (inv_13 hI hgb) (up_bd hgb (by omega))) (by omega)) (cwV 1 hts gX1_leastCut_X1_noneAbove rfl rfl rfl (by decide +kernel) ⟨Nat.le_of_ble_eq_true rfl, Nat.le_of_ble_eq_true rfl⟩) (pv_ro (C := RX1) (T := TX1) (N := 19) (ci := 1) (q0 := 0) hP hK rfl rfl) rfl rfl hl.1 rfl (lv_room (Nat.le_of_ble_eq_true rfl)) dX1_leastCut_37 ⟨Nat.le_of_ble_eq_true rfl, Nat.le_of_ble_eq_true rfl⟩) ?_
          have hf5 := nNone_01 (su (su σ 13 g) 13 (up g w i)) b
          have hNe := nNone_13 σ hg i b
          refine r_if_eq (tgt := 47) hx hb dX1_leastCut_40 (by decide) (by omega) (fun h7 => ?_) (fun h7 => ?_)
          · -- 40 to 47
            refine r_iinc (a := i) (b := (i + 5)) (lv2 := [(5, .int (iI (i + 5))), (4, .int (iI f)), (3, .int (iI (σ 13 w))), (0, .ref (A 100)), (1, .int (iI w)), (2, .int (iI b))]) hx hb dX1_leastCut_47 hl (k := 0) rfl (by omega) (by decide) rfl (fun ls hl => ?_)
            refine lv_goto (tgt := 13) hx hb dX1_leastCut_50 (by decide) ?_
            exact ihlp13_2 (i + 5) f (up g w i) _ _ ls (by omega) (fun k hk => by rw [up_n _ _ hk]; exact hg k hk) (up_bd hgb (by omega)) (by first | exact least_a hNe hi (by omega) hf (by omega) (by omega) | exact least_b hNe hi (by omega) hf (by omega) (by omega)) hP hD hS (by omega) (lv_sub hl [0, 1, 2, 3, 4, 5] rfl)
          · -- 40 to 43
            refine lv_iload hx hb dX1_leastCut_43 (lv_at hl 0 rfl) ?_
            refine lv_istore (lv' := [(4, .int (iI i)), (5, .int (iI i)), (3, .int (iI (σ 13 w))), (0, .ref (A 100)), (1, .int (iI w)), (2, .int (iI b))]) hx hb dX1_leastCut_45 hl (by decide) rfl (fun ls hl => ?_)
            refine r_iinc (a := i) (b := (i + 5)) (lv2 := [(5, .int (iI (i + 5))), (4, .int (iI i)), (3, .int (iI (σ 13 w))), (0, .ref (A 100)), (1, .int (iI w)), (2, .int (iI b))]) hx hb dX1_leastCut_47 hl (k := 1) rfl (by omega) (by decide) rfl (fun ls hl => ?_)
            refine lv_goto (tgt := 13) hx hb dX1_leastCut_50 (by decide) ?_
            exact ihlp13_2 (i + 5) i (up g w i) _ _ ls (by omega) (fun k hk => by rw [up_n _ _ hk]; exact hg k hk) (up_bd hgb (by omega)) (by first | exact least_a hNe hi (by omega) hf (by omega) (by omega) | exact least_b hNe hi (by omega) hf (by omega) (by omega)) hP hD hS (by omega) (lv_sub hl [0, 1, 2, 3, 4, 5] rfl)
  exact lp13_2 _ 0 (-1) (σ 13) s.heap [] ls (by omega) (fun _ _ => rfl) hB13 (Or.inl ⟨rfl, rfl⟩) hP hD hS (lt_tn _) (lv_sub hl [0, 1, 2, 3, 4, 5] rfl)
theorem fl_X1_addPiece_61 : Cond.fieldLink RX1 61 "NoiseLamps$Noise" "pieces" "I" ∈ wsX1_addPiece := by decide +kernel
theorem fl_X1_addPiece_11 : Cond.fieldLink RX1 11 "NoiseLamps$Noise" "pieceX" "[I" ∈ wsX1_addPiece := by decide +kernel
theorem fl_X1_addPiece_15 : Cond.fieldLink RX1 15 "NoiseLamps$Noise" "pieceY" "[I" ∈ wsX1_addPiece := by decide +kernel
theorem fl_X1_addPiece_18 : Cond.fieldLink RX1 18 "NoiseLamps$Noise" "pieceLevel" "[I" ∈ wsX1_addPiece := by decide +kernel
theorem fl_X1_addPiece_64 : Cond.fieldLink RX1 64 "NoiseLamps$Noise" "houses" "I" ∈ wsX1_addPiece := by decide +kernel
set_option maxHeartbeats 4000000 in
set_option maxRecDepth 100000 in
theorem c_X1_addPiece (l : Launch) (D : va_G) (cy : ClassId) (A : Nat → Nat) (σ : Nat → Int → Int) (sz : Nat) (x y a b t : Int) (hI : invN σ) (hx1 : -5000 ≤ x ∧ x ≤ 5000) (hy1 : -5000 ≤ y ∧ y ≤ 5000) (ha : 0 ≤ a ∧ a ≤ 1200) (hb2 : 0 ≤ b ∧ b ≤ 1200) (ht : 0 ≤ t ∧ t ≤ 1200) : MetM l yX1_addPiece wsX1_addPiece ({ frames := 5, cells := 0, slots := 0, locals := 123 } : Room) D cy (wN cy A σ) ([.ref (A 100), .int (iI x), .int (iI y), .int (iI a), .int (iI b), .int (iI t)] : List Value) sz (fun _ : Unit => (if 12 ≤ σ 0 0 then -1 else σ 0 0)) (fun _ : Unit => True) (fun _ : Unit => wN cy A (nAddP σ x y a b t)) := by
  refine met_M (cc := cX1_addPiece) (maxL := 8) (ret := (some .int)) (by decide) rfl (Nat.le_of_ble_eq_true rfl) ?_
  intro p e s m below meth c AA hAA hx hb hr hml hts hown hlocks hP hK hD hA ls hl
  have hS : va_S AA s.heap s.heap [] := va_S.rf
  have hown : s.vm.findClass RX1 = some m.cls := hown
  have hl : lv_has ls 8 [(0, .ref (A 100)), (1, .int (iI x)), (2, .int (iI y)), (3, .int (iI a)), (4, .int (iI b)), (5, .int (iI t))] := hl
  obtain ⟨hN0, hN4, hN8, hN14, hB1, hB2, hB3, hB5, hB6, hB7, hB9, hB10, hB11, hB12, hB13, hB15, hB16, hB17⟩ := id hI
  refine lv_aload_n hx hb dX1_addPiece_0 rfl (lv_at hl 0 rfl) ?_
  refine va_get (D := D) (ci := 1) (v := .int (iI (σ 0 0))) (C := RX1) (T := TX1) (N := 19) hx hb hts (fun _ h => List.mem_cons_of_mem _ (List.mem_append_right _ h)) hown hK hP 0 rfl rfl 0 (by decide) (hts _ fl_X1_addPiece_61) (fun _ h9 => h9) rfl dX1_addPiece_1 ?_
  refine lv_bipush (v := iI 12) hx hb dX1_addPiece_4 (by decide +kernel) ?_
  refine r_icmp_lt (tgt := 11) hx hb dX1_addPiece_6 (by decide) (by omega) (by omega) (fun h1 => ?_) (fun h1 => ?_)
  · -- 6 to 11
    refine lv_aload_n hx hb dX1_addPiece_11 rfl (lv_at hl 0 rfl) ?_
    refine va_get (D := D) (ci := 1) (v := .int (iI (σ 0 0))) (C := RX1) (T := TX1) (N := 19) hx hb hts (fun _ h => List.mem_cons_of_mem _ (List.mem_append_right _ h)) hown hK hP 0 rfl rfl 0 (by decide) (hts _ fl_X1_addPiece_61) (fun _ h9 => h9) rfl dX1_addPiece_12 ?_
    refine lv_istore (lv' := [(6, .int (iI (σ 0 0))), (0, .ref (A 100)), (1, .int (iI x)), (2, .int (iI y)), (3, .int (iI a)), (4, .int (iI b)), (5, .int (iI t))]) hx hb dX1_addPiece_15 hl (by decide) rfl (fun ls hl => ?_)
    refine lv_aload_n hx hb dX1_addPiece_17 rfl (lv_at hl 1 rfl) ?_
    refine lv_dup hx hb dX1_addPiece_18 rfl ?_
    refine va_get (D := D) (ci := 1) (v := .int (iI (σ 0 0))) (C := RX1) (T := TX1) (N := 19) hx hb hts (fun _ h => List.mem_cons_of_mem _ (List.mem_append_right _ h)) hown hK hP 0 rfl rfl 0 (by decide) (hts _ fl_X1_addPiece_61) (fun _ h9 => h9) rfl dX1_addPiece_19 ?_
    refine lv_iconst (v := iI 1) hx hb dX1_addPiece_22 rfl ?_
    refine r_iadd hx hb dX1_addPiece_23 ?_
    refine va_put (D := D) (ci := 1) (v := .int (iI ((σ 0 0) + 1))) (ty := .int) (C := RX1) (T := TX1) (N := 19) hx hb hts (fun _ h => List.mem_cons_of_mem _ (List.mem_append_right _ h)) tyX1 tyX1_ok nmX1 hown hK hP hD hS 0 rfl rfl 0 (by decide) (hts _ fl_X1_addPiece_61) (fun _ h9 => h9) rfl (by decide +kernel) rfl rfl (Nat.le_of_ble_eq_true rfl) dX1_addPiece_24 (fun H locs hP hD hS => ?_)
    have hP : va_P D vwCl (wN cy A (su σ 0 (fun _ => ((σ 0 0) + 1)))) H := hP
    have hD : va_D AA (wN cy A (su σ 0 (fun _ => ((σ 0 0) + 1)))) := hD
    refine lv_aload_n hx hb dX1_addPiece_27 rfl (lv_at hl 1 rfl) ?_
    refine va_get (D := D) (ci := 1) (v := .ref (A 1)) (C := RX1) (T := TX1) (N := 19) hx hb hts (fun _ h => List.mem_cons_of_mem _ (List.mem_append_right _ h)) hown hK hP 0 rfl rfl 1 (by decide) (hts _ fl_X1_addPiece_11) (fun _ h9 => h9) rfl dX1_addPiece_28 ?_
    refine lv_iload hx hb dX1_addPiece_31 (lv_at hl 0 rfl) ?_
    refine lv_iload_n hx hb dX1_addPiece_33 rfl (lv_at hl 2 rfl) ?_
    refine r_iast hx hb hK hP hD hS 1 0 rfl rfl (Nat.le_of_ble_eq_true rfl) (by omega) dX1_addPiece_34 (fun H locs hP hD hS => ?_)
    have hP : va_P D vwCl (wN cy A (su (su σ 0 (fun _ => ((σ 0 0) + 1))) 1 (up (σ 1) (σ 0 0) x))) H := hP
    have hD : va_D AA (wN cy A (su (su σ 0 (fun _ => ((σ 0 0) + 1))) 1 (up (σ 1) (σ 0 0) x))) := hD
    refine lv_aload_n hx hb dX1_addPiece_35 rfl (lv_at hl 1 rfl) ?_
    refine va_get (D := D) (ci := 1) (v := .ref (A 2)) (C := RX1) (T := TX1) (N := 19) hx hb hts (fun _ h => List.mem_cons_of_mem _ (List.mem_append_right _ h)) hown hK hP 0 rfl rfl 2 (by decide) (hts _ fl_X1_addPiece_15) (fun _ h9 => h9) rfl dX1_addPiece_36 ?_
    refine lv_iload hx hb dX1_addPiece_39 (lv_at hl 0 rfl) ?_
    refine lv_iload_n hx hb dX1_addPiece_41 rfl (lv_at hl 3 rfl) ?_
    refine r_iast hx hb hK hP hD hS 2 0 rfl rfl (Nat.le_of_ble_eq_true rfl) (by omega) dX1_addPiece_42 (fun H locs hP hD hS => ?_)
    have hP : va_P D vwCl (wN cy A (su (su (su σ 0 (fun _ => ((σ 0 0) + 1))) 1 (up (σ 1) (σ 0 0) x)) 2 (up (σ 2) (σ 0 0) y))) H := hP
    have hD : va_D AA (wN cy A (su (su (su σ 0 (fun _ => ((σ 0 0) + 1))) 1 (up (σ 1) (σ 0 0) x)) 2 (up (σ 2) (σ 0 0) y))) := hD
    refine lv_aload_n hx hb dX1_addPiece_43 rfl (lv_at hl 1 rfl) ?_
    refine va_get (D := D) (ci := 1) (v := .ref (A 3)) (C := RX1) (T := TX1) (N := 19) hx hb hts (fun _ h => List.mem_cons_of_mem _ (List.mem_append_right _ h)) hown hK hP 0 rfl rfl 3 (by decide) (hts _ fl_X1_addPiece_18) (fun _ h9 => h9) rfl dX1_addPiece_44 ?_
    refine lv_iload hx hb dX1_addPiece_47 (lv_at hl 0 rfl) ?_
    refine lv_iconst (v := iI 3) hx hb dX1_addPiece_49 rfl ?_
    refine r_imul hx hb dX1_addPiece_50 ?_
    refine lv_iload_n hx hb dX1_addPiece_51 rfl (lv_at hl 4 rfl) ?_
    refine r_iast hx hb hK hP hD hS 3 0 rfl rfl (Nat.le_of_ble_eq_true rfl) (by omega) dX1_addPiece_52 (fun H locs hP hD hS => ?_)
    have hP : va_P D vwCl (wN cy A (su (su (su (su σ 0 (fun _ => ((σ 0 0) + 1))) 1 (up (σ 1) (σ 0 0) x)) 2 (up (σ 2) (σ 0 0) y)) 3 (up (σ 3) ((σ 0 0) * 3) a))) H := hP
    have hD : va_D AA (wN cy A (su (su (su (su σ 0 (fun _ => ((σ 0 0) + 1))) 1 (up (σ 1) (σ 0 0) x)) 2 (up (σ 2) (σ 0 0) y)) 3 (up (σ 3) ((σ 0 0) * 3) a))) := hD
    refine lv_aload_n hx hb dX1_addPiece_53 rfl (lv_at hl 1 rfl) ?_
    refine va_get (D := D) (ci := 1) (v := .ref (A 3)) (C := RX1) (T := TX1) (N := 19) hx hb hts (fun _ h => List.mem_cons_of_mem _ (List.mem_append_right _ h)) hown hK hP 0 rfl rfl 3 (by decide) (hts _ fl_X1_addPiece_18) (fun _ h9 => h9) rfl dX1_addPiece_54 ?_
    refine lv_iload hx hb dX1_addPiece_57 (lv_at hl 0 rfl) ?_
    refine lv_iconst (v := iI 3) hx hb dX1_addPiece_59 rfl ?_
    refine r_imul hx hb dX1_addPiece_60 ?_
    refine lv_iconst (v := iI 1) hx hb dX1_addPiece_61 rfl ?_
    refine r_iadd hx hb dX1_addPiece_62 ?_
    refine lv_iload hx hb dX1_addPiece_63 (lv_at hl 5 rfl) ?_
    refine r_iast hx hb hK hP hD hS 3 0 rfl rfl (Nat.le_of_ble_eq_true rfl) (by omega) dX1_addPiece_65 (fun H locs hP hD hS => ?_)
    have hP : va_P D vwCl (wN cy A (su (su (su (su (su σ 0 (fun _ => ((σ 0 0) + 1))) 1 (up (σ 1) (σ 0 0) x)) 2 (up (σ 2) (σ 0 0) y)) 3 (up (σ 3) ((σ 0 0) * 3) a)) 3 (up (up (σ 3) ((σ 0 0) * 3) a) (((σ 0 0) * 3) + 1) b))) H := hP
    have hD : va_D AA (wN cy A (su (su (su (su (su σ 0 (fun _ => ((σ 0 0) + 1))) 1 (up (σ 1) (σ 0 0) x)) 2 (up (σ 2) (σ 0 0) y)) 3 (up (σ 3) ((σ 0 0) * 3) a)) 3 (up (up (σ 3) ((σ 0 0) * 3) a) (((σ 0 0) * 3) + 1) b))) := hD
    refine lv_aload_n hx hb dX1_addPiece_66 rfl (lv_at hl 1 rfl) ?_
    refine va_get (D := D) (ci := 1) (v := .ref (A 3)) (C := RX1) (T := TX1) (N := 19) hx hb hts (fun _ h => List.mem_cons_of_mem _ (List.mem_append_right _ h)) hown hK hP 0 rfl rfl 3 (by decide) (hts _ fl_X1_addPiece_18) (fun _ h9 => h9) rfl dX1_addPiece_67 ?_
    refine lv_iload hx hb dX1_addPiece_70 (lv_at hl 0 rfl) ?_
    refine lv_iconst (v := iI 3) hx hb dX1_addPiece_72 rfl ?_
    refine r_imul hx hb dX1_addPiece_73 ?_
    refine lv_iconst (v := iI 2) hx hb dX1_addPiece_74 rfl ?_
    refine r_iadd hx hb dX1_addPiece_75 ?_
    refine lv_iload hx hb dX1_addPiece_76 (lv_at hl 6 rfl) ?_
    refine r_iast hx hb hK hP hD hS 3 0 rfl rfl (Nat.le_of_ble_eq_true rfl) (by omega) dX1_addPiece_78 (fun H locs hP hD hS => ?_)
    have hP : va_P D vwCl (wN cy A (su (su (su (su (su (su σ 0 (fun _ => ((σ 0 0) + 1))) 1 (up (σ 1) (σ 0 0) x)) 2 (up (σ 2) (σ 0 0) y)) 3 (up (σ 3) ((σ 0 0) * 3) a)) 3 (up (up (σ 3) ((σ 0 0) * 3) a) (((σ 0 0) * 3) + 1) b)) 3 (up (up (up (σ 3) ((σ 0 0) * 3) a) (((σ 0 0) * 3) + 1) b) (((σ 0 0) * 3) + 2) t))) H := hP
    have hD : va_D AA (wN cy A (su (su (su (su (su (su σ 0 (fun _ => ((σ 0 0) + 1))) 1 (up (σ 1) (σ 0 0) x)) 2 (up (σ 2) (σ 0 0) y)) 3 (up (σ 3) ((σ 0 0) * 3) a)) 3 (up (up (σ 3) ((σ 0 0) * 3) a) (((σ 0 0) * 3) + 1) b)) 3 (up (up (up (σ 3) ((σ 0 0) * 3) a) (((σ 0 0) * 3) + 1) b) (((σ 0 0) * 3) + 2) t))) := hD
    refine lv_iconst (v := iI 0) hx hb dX1_addPiece_79 rfl ?_
    refine lv_istore (lv' := [(7, .int (iI 0)), (6, .int (iI (σ 0 0))), (0, .ref (A 100)), (1, .int (iI x)), (2, .int (iI y)), (3, .int (iI a)), (4, .int (iI b)), (5, .int (iI t))]) hx hb dX1_addPiece_80 hl (by decide) rfl (fun ls hl => ?_)
    have hIp := inv_3 (inv_2 (inv_1 (inv_0 (g := fun _ => σ 0 0 + 1) hI (by omega)) (up_bd (i := σ 0 0) hB1 hx1)) (up_bd (i := σ 0 0) hB2 hy1)) (up_bd (i := σ 0 0 * 3 + 2) (up_bd (i := σ 0 0 * 3 + 1) (up_bd (i := σ 0 0 * 3) hB3 ha) hb2) ht)
    have lp82_2 : ∀ (nlp82_2 : Nat) (i : Int) (d : (Int → Int)) (g : (Int → Int)) (H : Heap) (locs : List Loc) (ls : Array Slot), (0 ≤ i ∧ i ≤ σ 4 0) → (d = fo (fun d h => nMeaD (nPutP σ x y a b t) (σ 0 0) h d) (σ 16) i) → (g = fo (fun m h => nMeaB (nPutP σ x y a b t) (σ 0 0) h m) (σ 17) i) → (∀ k, 0 ≤ d k ∧ d k ≤ 10) → (∀ k, 0 ≤ g k ∧ g k < 256) → va_P D vwCl (wN cy A (su (su (su (su (su (su (su (su σ 0 (fun _ => ((σ 0 0) + 1))) 1 (up (σ 1) (σ 0 0) x)) 2 (up (σ 2) (σ 0 0) y)) 3 (up (σ 3) ((σ 0 0) * 3) a)) 3 (up (up (σ 3) ((σ 0 0) * 3) a) (((σ 0 0) * 3) + 1) b)) 3 (up (up (up (σ 3) ((σ 0 0) * 3) a) (((σ 0 0) * 3) + 1) b) (((σ 0 0) * 3) + 2) t)) 16 d) 17 g)) H → va_D AA (wN cy A (su (su (su (su (su (su (su (su σ 0 (fun _ => ((σ 0 0) + 1))) 1 (up (σ 1) (σ 0 0) x)) 2 (up (σ 2) (σ 0 0) y)) 3 (up (σ 3) ((σ 0 0) * 3) a)) 3 (up (up (σ 3) ((σ 0 0) * 3) a) (((σ 0 0) * 3) + 1) b)) 3 (up (up (up (σ 3) ((σ 0 0) * 3) a) (((σ 0 0) * 3) + 1) b) (((σ 0 0) * 3) + 2) t)) 16 d) 17 g)) → va_S AA s.heap H locs → (σ 4 0 - i < (nlp82_2 : Int)) → lv_has ls 8 [(7, .int (iI i)), (6, .int (iI (σ 0 0))), (0, .ref (A 100)), (1, .int (iI x)), (2, .int (iI y)), (3, .int (iI a)), (4, .int (iI b)), (5, .int (iI t))] → W p l e ({ frames := 5, cells := 0, slots := 0, locals := 123 } : Room) s m ([.ref (A 100), .int (iI x), .int (iI y), .int (iI a), .int (iI b), .int (iI t)] : List Value).toArray below meth c H locs 0 0 (MQ below (va_Qi (fun r (u : Unit) => r = iI ((fun _ : Unit => (if 12 ≤ σ 0 0 then -1 else σ 0 0)) u) ∧ (fun _ : Unit => True) u) (fun (u : Unit) tz => va_P D vwCl ((fun _ : Unit => wN cy A (nAddP σ x y a b t)) u) tz.heap) AA) ([.ref (A 100), .int (iI x), .int (iI y), .int (iI a), .int (iI b), .int (iI t)] : List Value).toArray s 0 0 AA) (F0 m 82 ls []) := by
      intro nlp82_2
      induction nlp82_2 with
      | zero => intro i d g H locs ls hi hd1 hg hdb hgb hP hD hS hn hl; exact absurd hn (by omega)
      | succ nlp82_2 ihlp82_2 =>
        intro i d g H locs ls hi hd1 hg hdb hgb hP hD hS hn hl
        refine lv_iload hx hb dX1_addPiece_82 (lv_at hl 0 rfl) ?_
        refine lv_aload_n hx hb dX1_addPiece_84 rfl (lv_at hl 2 rfl) ?_
        refine va_get (D := D) (ci := 1) (v := .int (iI (σ 4 0))) (C := RX1) (T := TX1) (N := 19) hx hb hts (fun _ h => List.mem_cons_of_mem _ (List.mem_append_right _ h)) hown hK hP 0 rfl rfl 4 (by decide) (hts _ fl_X1_addPiece_64) (fun _ h9 => h9) rfl dX1_addPiece_85 ?_
        refine r_icmp_ge (tgt := 105) hx hb dX1_addPiece_88 (by decide) (by omega) (by omega) (fun h3 => ?_) (fun h3 => ?_)
        · -- 88 to 105
          refine lv_iload hx hb dX1_addPiece_105 (lv_at hl 1 rfl) ?_
          exact r_retM () hx hb hr hlocks hS dX1_addPiece_107 (by rw [if_neg (by omega)]) trivial (by unfold nAddP; rw [if_neg (by omega), show σ 4 0 = i from by omega, ← hd1, ← hg]; exact hP)
        · -- 88 to 91
          refine lv_aload_n hx hb dX1_addPiece_91 rfl (lv_at hl 2 rfl) ?_
          refine lv_iload hx hb dX1_addPiece_92 (lv_at hl 1 rfl) ?_
          refine lv_iload hx hb dX1_addPiece_94 (lv_at hl 0 rfl) ?_
          refine r_callV (w1 := ([] : va_W)) (w2 := ([] : va_W)) (va_runV (As := [.int (iI (σ 0 0)), .int (iI i)]) (rest := []) ⟨hx, hb, hml, hown, hts⟩ (c_X1_measurePair l D cy A (su (su (su (su (su (su (su (su σ 0 (fun _ => ((σ 0 0) + 1))) 1 (up (σ 1) (σ 0 0) x)) 2 (up (σ 2) (σ 0 0) y)) 3 (up (σ 3) ((σ 0 0) * 3) a)) 3 (up (up (σ 3) ((σ 0 0) * 3) a) (((σ 0 0) * 3) + 1) b)) 3 (up (up (up (σ 3) ((σ 0 0) * 3) a) (((σ 0 0) * 3) + 1) b) (((σ 0 0) * 3) + 2) t)) 16 d) 17 g) (H.size) (σ 0 0) i (inv_17 (inv_16 hIp hdb) hgb) (by omega) (by omega)) (cwV 2 hts gX1_addPiece_X1_measurePair rfl rfl rfl (by decide +kernel) ⟨Nat.le_of_ble_eq_true rfl, Nat.le_of_ble_eq_true rfl⟩) (pv_rw (C := RX1) (T := TX1) (N := 19) (ci := 1) (q0 := 0) hP hK hD rfl rfl) rfl rfl hl.1 rfl (lv_room (Nat.le_of_ble_eq_true rfl)) dX1_addPiece_96 ⟨Nat.le_of_ble_eq_true rfl, Nat.le_of_ble_eq_true rfl⟩) hP hD hS hA (fun _ => rfl) (fun u4 H locs hp5 hP hD hS => ?_)
          have hP : va_P D vwCl (wN cy A (su (su (su (su (su (su (su (su (su (su σ 0 (fun _ => ((σ 0 0) + 1))) 1 (up (σ 1) (σ 0 0) x)) 2 (up (σ 2) (σ 0 0) y)) 3 (up (σ 3) ((σ 0 0) * 3) a)) 3 (up (up (σ 3) ((σ 0 0) * 3) a) (((σ 0 0) * 3) + 1) b)) 3 (up (up (up (σ 3) ((σ 0 0) * 3) a) (((σ 0 0) * 3) + 1) b) (((σ 0 0) * 3) + 2) t)) 16 d) 17 g) 16 (up ((su (su (su (su (su (su (su (su σ 0 (fun _ => ((σ 0 0) + 1))) 1 (up (σ 1) (σ 0 0) x)) 2 (up (σ 2) (σ 0 0) y)) 3 (up (σ 3) ((σ 0 0) * 3) a)) 3 (up (up (σ 3) ((σ 0 0) * 3) a) (((σ 0 0) * 3) + 1) b)) 3 (up (up (up (σ 3) ((σ 0 0) * 3) a) (((σ 0 0) * 3) + 1) b) (((σ 0 0) * 3) + 2) t)) 16 d) 17 g) 16) ((σ 0 0) * 20 + i) (nDbl (d2Z (su (su (su (su (su (su (su (su σ 0 (fun _ => ((σ 0 0) + 1))) 1 (up (σ 1) (σ 0 0) x)) 2 (up (σ 2) (σ 0 0) y)) 3 (up (σ 3) ((σ 0 0) * 3) a)) 3 (up (up (σ 3) ((σ 0 0) * 3) a) (((σ 0 0) * 3) + 1) b)) 3 (up (up (up (σ 3) ((σ 0 0) * 3) a) (((σ 0 0) * 3) + 1) b) (((σ 0 0) * 3) + 2) t)) 16 d) 17 g) (σ 0 0) i)))) 17 (up ((su (su (su (su (su (su (su (su σ 0 (fun _ => ((σ 0 0) + 1))) 1 (up (σ 1) (σ 0 0) x)) 2 (up (σ 2) (σ 0 0) y)) 3 (up (σ 3) ((σ 0 0) * 3) a)) 3 (up (up (σ 3) ((σ 0 0) * 3) a) (((σ 0 0) * 3) + 1) b)) 3 (up (up (up (σ 3) ((σ 0 0) * 3) a) (((σ 0 0) * 3) + 1) b) (((σ 0 0) * 3) + 2) t)) 16 d) 17 g) 17) ((σ 0 0) * 20 + i) (nMsk (su (su (su (su (su (su (su (su σ 0 (fun _ => ((σ 0 0) + 1))) 1 (up (σ 1) (σ 0 0) x)) 2 (up (σ 2) (σ 0 0) y)) 3 (up (σ 3) ((σ 0 0) * 3) a)) 3 (up (up (σ 3) ((σ 0 0) * 3) a) (((σ 0 0) * 3) + 1) b)) 3 (up (up (up (σ 3) ((σ 0 0) * 3) a) (((σ 0 0) * 3) + 1) b) (((σ 0 0) * 3) + 2) t)) 16 d) 17 g) (σ 0 0) i ((su (su (su (su (su (su (su (su σ 0 (fun _ => ((σ 0 0) + 1))) 1 (up (σ 1) (σ 0 0) x)) 2 (up (σ 2) (σ 0 0) y)) 3 (up (σ 3) ((σ 0 0) * 3) a)) 3 (up (up (σ 3) ((σ 0 0) * 3) a) (((σ 0 0) * 3) + 1) b)) 3 (up (up (up (σ 3) ((σ 0 0) * 3) a) (((σ 0 0) * 3) + 1) b) (((σ 0 0) * 3) + 2) t)) 16 d) 17 g) 17 ((σ 0 0) * 20 + i)))))) H := hP
          have hD : va_D AA (wN cy A (su (su (su (su (su (su (su (su (su (su σ 0 (fun _ => ((σ 0 0) + 1))) 1 (up (σ 1) (σ 0 0) x)) 2 (up (σ 2) (σ 0 0) y)) 3 (up (σ 3) ((σ 0 0) * 3) a)) 3 (up (up (σ 3) ((σ 0 0) * 3) a) (((σ 0 0) * 3) + 1) b)) 3 (up (up (up (σ 3) ((σ 0 0) * 3) a) (((σ 0 0) * 3) + 1) b) (((σ 0 0) * 3) + 2) t)) 16 d) 17 g) 16 (up ((su (su (su (su (su (su (su (su σ 0 (fun _ => ((σ 0 0) + 1))) 1 (up (σ 1) (σ 0 0) x)) 2 (up (σ 2) (σ 0 0) y)) 3 (up (σ 3) ((σ 0 0) * 3) a)) 3 (up (up (σ 3) ((σ 0 0) * 3) a) (((σ 0 0) * 3) + 1) b)) 3 (up (up (up (σ 3) ((σ 0 0) * 3) a) (((σ 0 0) * 3) + 1) b) (((σ 0 0) * 3) + 2) t)) 16 d) 17 g) 16) ((σ 0 0) * 20 + i) (nDbl (d2Z (su (su (su (su (su (su (su (su σ 0 (fun _ => ((σ 0 0) + 1))) 1 (up (σ 1) (σ 0 0) x)) 2 (up (σ 2) (σ 0 0) y)) 3 (up (σ 3) ((σ 0 0) * 3) a)) 3 (up (up (σ 3) ((σ 0 0) * 3) a) (((σ 0 0) * 3) + 1) b)) 3 (up (up (up (σ 3) ((σ 0 0) * 3) a) (((σ 0 0) * 3) + 1) b) (((σ 0 0) * 3) + 2) t)) 16 d) 17 g) (σ 0 0) i)))) 17 (up ((su (su (su (su (su (su (su (su σ 0 (fun _ => ((σ 0 0) + 1))) 1 (up (σ 1) (σ 0 0) x)) 2 (up (σ 2) (σ 0 0) y)) 3 (up (σ 3) ((σ 0 0) * 3) a)) 3 (up (up (σ 3) ((σ 0 0) * 3) a) (((σ 0 0) * 3) + 1) b)) 3 (up (up (up (σ 3) ((σ 0 0) * 3) a) (((σ 0 0) * 3) + 1) b) (((σ 0 0) * 3) + 2) t)) 16 d) 17 g) 17) ((σ 0 0) * 20 + i) (nMsk (su (su (su (su (su (su (su (su σ 0 (fun _ => ((σ 0 0) + 1))) 1 (up (σ 1) (σ 0 0) x)) 2 (up (σ 2) (σ 0 0) y)) 3 (up (σ 3) ((σ 0 0) * 3) a)) 3 (up (up (σ 3) ((σ 0 0) * 3) a) (((σ 0 0) * 3) + 1) b)) 3 (up (up (up (σ 3) ((σ 0 0) * 3) a) (((σ 0 0) * 3) + 1) b) (((σ 0 0) * 3) + 2) t)) 16 d) 17 g) (σ 0 0) i ((su (su (su (su (su (su (su (su σ 0 (fun _ => ((σ 0 0) + 1))) 1 (up (σ 1) (σ 0 0) x)) 2 (up (σ 2) (σ 0 0) y)) 3 (up (σ 3) ((σ 0 0) * 3) a)) 3 (up (up (σ 3) ((σ 0 0) * 3) a) (((σ 0 0) * 3) + 1) b)) 3 (up (up (up (σ 3) ((σ 0 0) * 3) a) (((σ 0 0) * 3) + 1) b) (((σ 0 0) * 3) + 2) t)) 16 d) 17 g) 17 ((σ 0 0) * 20 + i)))))) := hD
          refine r_iinc (a := i) (b := (i + 1)) (lv2 := [(7, .int (iI (i + 1))), (6, .int (iI (σ 0 0))), (0, .ref (A 100)), (1, .int (iI x)), (2, .int (iI y)), (3, .int (iI a)), (4, .int (iI b)), (5, .int (iI t))]) hx hb dX1_addPiece_99 hl (k := 0) rfl (by omega) (by decide) rfl (fun ls hl => ?_)
          refine lv_goto (tgt := 82) hx hb dX1_addPiece_102 (by decide) ?_
          exact ihlp82_2 (i + 1) (up ((su (su (su (su (su (su (su (su σ 0 (fun _ => ((σ 0 0) + 1))) 1 (up (σ 1) (σ 0 0) x)) 2 (up (σ 2) (σ 0 0) y)) 3 (up (σ 3) ((σ 0 0) * 3) a)) 3 (up (up (σ 3) ((σ 0 0) * 3) a) (((σ 0 0) * 3) + 1) b)) 3 (up (up (up (σ 3) ((σ 0 0) * 3) a) (((σ 0 0) * 3) + 1) b) (((σ 0 0) * 3) + 2) t)) 16 d) 17 g) 16) ((σ 0 0) * 20 + i) (nDbl (d2Z (su (su (su (su (su (su (su (su σ 0 (fun _ => ((σ 0 0) + 1))) 1 (up (σ 1) (σ 0 0) x)) 2 (up (σ 2) (σ 0 0) y)) 3 (up (σ 3) ((σ 0 0) * 3) a)) 3 (up (up (σ 3) ((σ 0 0) * 3) a) (((σ 0 0) * 3) + 1) b)) 3 (up (up (up (σ 3) ((σ 0 0) * 3) a) (((σ 0 0) * 3) + 1) b) (((σ 0 0) * 3) + 2) t)) 16 d) 17 g) (σ 0 0) i))) (up ((su (su (su (su (su (su (su (su σ 0 (fun _ => ((σ 0 0) + 1))) 1 (up (σ 1) (σ 0 0) x)) 2 (up (σ 2) (σ 0 0) y)) 3 (up (σ 3) ((σ 0 0) * 3) a)) 3 (up (up (σ 3) ((σ 0 0) * 3) a) (((σ 0 0) * 3) + 1) b)) 3 (up (up (up (σ 3) ((σ 0 0) * 3) a) (((σ 0 0) * 3) + 1) b) (((σ 0 0) * 3) + 2) t)) 16 d) 17 g) 17) ((σ 0 0) * 20 + i) (nMsk (su (su (su (su (su (su (su (su σ 0 (fun _ => ((σ 0 0) + 1))) 1 (up (σ 1) (σ 0 0) x)) 2 (up (σ 2) (σ 0 0) y)) 3 (up (σ 3) ((σ 0 0) * 3) a)) 3 (up (up (σ 3) ((σ 0 0) * 3) a) (((σ 0 0) * 3) + 1) b)) 3 (up (up (up (σ 3) ((σ 0 0) * 3) a) (((σ 0 0) * 3) + 1) b) (((σ 0 0) * 3) + 2) t)) 16 d) 17 g) (σ 0 0) i ((su (su (su (su (su (su (su (su σ 0 (fun _ => ((σ 0 0) + 1))) 1 (up (σ 1) (σ 0 0) x)) 2 (up (σ 2) (σ 0 0) y)) 3 (up (σ 3) ((σ 0 0) * 3) a)) 3 (up (up (σ 3) ((σ 0 0) * 3) a) (((σ 0 0) * 3) + 1) b)) 3 (up (up (up (σ 3) ((σ 0 0) * 3) a) (((σ 0 0) * 3) + 1) b) (((σ 0 0) * 3) + 2) t)) 16 d) 17 g) 17 ((σ 0 0) * 20 + i)))) _ _ ls (by omega) (by rw [fo_s _ _ (by omega), ← hd1]; rfl) (by rw [fo_s _ _ (by omega), ← hg]; rfl) (up_bd hdb (nDbl_bd _)) (up_bl hgb (nMsk_bd (inv_17 (inv_16 hIp hdb) hgb) _ _ (hgb _))) hP hD hS (by omega) (lv_sub hl [0, 1, 2, 3, 4, 5, 6, 7] rfl)
    exact lp82_2 _ 0 (σ 16) (σ 17) _ _ ls (by omega) rfl rfl hB16 hB17 hP hD hS (lt_tn _) (lv_sub hl [0, 1, 2, 3, 4, 5, 6, 7] rfl)
  · -- 6 to 9
    refine lv_iconst (v := iI (-1)) hx hb dX1_addPiece_9 rfl ?_
    exact r_retM () hx hb hr hlocks hS dX1_addPiece_10 (by rw [if_pos (by omega)]) trivial (by unfold nAddP; rw [if_pos (by omega)]; exact hP)
theorem fl_X1_addHouse_64 : Cond.fieldLink RX1 64 "NoiseLamps$Noise" "houses" "I" ∈ wsX1_addHouse := by decide +kernel
theorem fl_X1_addHouse_21 : Cond.fieldLink RX1 21 "NoiseLamps$Noise" "houseX" "[I" ∈ wsX1_addHouse := by decide +kernel
theorem fl_X1_addHouse_24 : Cond.fieldLink RX1 24 "NoiseLamps$Noise" "houseY" "[I" ∈ wsX1_addHouse := by decide +kernel
theorem fl_X1_addHouse_27 : Cond.fieldLink RX1 27 "NoiseLamps$Noise" "housePeople" "[I" ∈ wsX1_addHouse := by decide +kernel
theorem fl_X1_addHouse_61 : Cond.fieldLink RX1 61 "NoiseLamps$Noise" "pieces" "I" ∈ wsX1_addHouse := by decide +kernel
set_option maxHeartbeats 4000000 in
set_option maxRecDepth 100000 in
theorem c_X1_addHouse (l : Launch) (D : va_G) (cy : ClassId) (A : Nat → Nat) (σ : Nat → Int → Int) (sz : Nat) (x y n : Int) (hI : invN σ) (hx1 : -5000 ≤ x ∧ x ≤ 5000) (hy1 : -5000 ≤ y ∧ y ≤ 5000) (hn1 : 0 ≤ n ∧ n ≤ 1000) : MetM l yX1_addHouse wsX1_addHouse ({ frames := 5, cells := 0, slots := 0, locals := 123 } : Room) D cy (wN cy A σ) ([.ref (A 100), .int (iI x), .int (iI y), .int (iI n)] : List Value) sz (fun _ : Unit => (if 20 ≤ σ 4 0 then -1 else σ 4 0)) (fun _ : Unit => True) (fun _ : Unit => wN cy A (nAddH σ x y n)) := by
  refine met_M (cc := cX1_addHouse) (maxL := 6) (ret := (some .int)) (by decide) rfl (Nat.le_of_ble_eq_true rfl) ?_
  intro p e s m below meth c AA hAA hx hb hr hml hts hown hlocks hP hK hD hA ls hl
  have hS : va_S AA s.heap s.heap [] := va_S.rf
  have hown : s.vm.findClass RX1 = some m.cls := hown
  have hl : lv_has ls 6 [(0, .ref (A 100)), (1, .int (iI x)), (2, .int (iI y)), (3, .int (iI n))] := hl
  obtain ⟨hN0, hN4, hN8, hN14, hB1, hB2, hB3, hB5, hB6, hB7, hB9, hB10, hB11, hB12, hB13, hB15, hB16, hB17⟩ := id hI
  refine lv_aload_n hx hb dX1_addHouse_0 rfl (lv_at hl 0 rfl) ?_
  refine va_get (D := D) (ci := 1) (v := .int (iI (σ 4 0))) (C := RX1) (T := TX1) (N := 19) hx hb hts (fun _ h => List.mem_cons_of_mem _ (List.mem_append_right _ h)) hown hK hP 0 rfl rfl 4 (by decide) (hts _ fl_X1_addHouse_64) (fun _ h9 => h9) rfl dX1_addHouse_1 ?_
  refine lv_bipush (v := iI 20) hx hb dX1_addHouse_4 (by decide +kernel) ?_
  refine r_icmp_lt (tgt := 11) hx hb dX1_addHouse_6 (by decide) (by omega) (by omega) (fun h1 => ?_) (fun h1 => ?_)
  · -- 6 to 11
    refine lv_aload_n hx hb dX1_addHouse_11 rfl (lv_at hl 0 rfl) ?_
    refine va_get (D := D) (ci := 1) (v := .int (iI (σ 4 0))) (C := RX1) (T := TX1) (N := 19) hx hb hts (fun _ h => List.mem_cons_of_mem _ (List.mem_append_right _ h)) hown hK hP 0 rfl rfl 4 (by decide) (hts _ fl_X1_addHouse_64) (fun _ h9 => h9) rfl dX1_addHouse_12 ?_
    refine lv_istore (lv' := [(4, .int (iI (σ 4 0))), (0, .ref (A 100)), (1, .int (iI x)), (2, .int (iI y)), (3, .int (iI n))]) hx hb dX1_addHouse_15 hl (by decide) rfl (fun ls hl => ?_)
    refine lv_aload_n hx hb dX1_addHouse_17 rfl (lv_at hl 1 rfl) ?_
    refine lv_dup hx hb dX1_addHouse_18 rfl ?_
    refine va_get (D := D) (ci := 1) (v := .int (iI (σ 4 0))) (C := RX1) (T := TX1) (N := 19) hx hb hts (fun _ h => List.mem_cons_of_mem _ (List.mem_append_right _ h)) hown hK hP 0 rfl rfl 4 (by decide) (hts _ fl_X1_addHouse_64) (fun _ h9 => h9) rfl dX1_addHouse_19 ?_
    refine lv_iconst (v := iI 1) hx hb dX1_addHouse_22 rfl ?_
    refine r_iadd hx hb dX1_addHouse_23 ?_
    refine va_put (D := D) (ci := 1) (v := .int (iI ((σ 4 0) + 1))) (ty := .int) (C := RX1) (T := TX1) (N := 19) hx hb hts (fun _ h => List.mem_cons_of_mem _ (List.mem_append_right _ h)) tyX1 tyX1_ok nmX1 hown hK hP hD hS 0 rfl rfl 4 (by decide) (hts _ fl_X1_addHouse_64) (fun _ h9 => h9) rfl (by decide +kernel) rfl rfl (Nat.le_of_ble_eq_true rfl) dX1_addHouse_24 (fun H locs hP hD hS => ?_)
    have hP : va_P D vwCl (wN cy A (su σ 4 (fun _ => ((σ 4 0) + 1)))) H := hP
    have hD : va_D AA (wN cy A (su σ 4 (fun _ => ((σ 4 0) + 1)))) := hD
    refine lv_aload_n hx hb dX1_addHouse_27 rfl (lv_at hl 1 rfl) ?_
    refine va_get (D := D) (ci := 1) (v := .ref (A 5)) (C := RX1) (T := TX1) (N := 19) hx hb hts (fun _ h => List.mem_cons_of_mem _ (List.mem_append_right _ h)) hown hK hP 0 rfl rfl 5 (by decide) (hts _ fl_X1_addHouse_21) (fun _ h9 => h9) rfl dX1_addHouse_28 ?_
    refine lv_iload hx hb dX1_addHouse_31 (lv_at hl 0 rfl) ?_
    refine lv_iload_n hx hb dX1_addHouse_33 rfl (lv_at hl 2 rfl) ?_
    refine r_iast hx hb hK hP hD hS 4 0 rfl rfl (Nat.le_of_ble_eq_true rfl) (by omega) dX1_addHouse_34 (fun H locs hP hD hS => ?_)
    have hP : va_P D vwCl (wN cy A (su (su σ 4 (fun _ => ((σ 4 0) + 1))) 5 (up (σ 5) (σ 4 0) x))) H := hP
    have hD : va_D AA (wN cy A (su (su σ 4 (fun _ => ((σ 4 0) + 1))) 5 (up (σ 5) (σ 4 0) x))) := hD
    refine lv_aload_n hx hb dX1_addHouse_35 rfl (lv_at hl 1 rfl) ?_
    refine va_get (D := D) (ci := 1) (v := .ref (A 6)) (C := RX1) (T := TX1) (N := 19) hx hb hts (fun _ h => List.mem_cons_of_mem _ (List.mem_append_right _ h)) hown hK hP 0 rfl rfl 6 (by decide) (hts _ fl_X1_addHouse_24) (fun _ h9 => h9) rfl dX1_addHouse_36 ?_
    refine lv_iload hx hb dX1_addHouse_39 (lv_at hl 0 rfl) ?_
    refine lv_iload_n hx hb dX1_addHouse_41 rfl (lv_at hl 3 rfl) ?_
    refine r_iast hx hb hK hP hD hS 5 0 rfl rfl (Nat.le_of_ble_eq_true rfl) (by omega) dX1_addHouse_42 (fun H locs hP hD hS => ?_)
    have hP : va_P D vwCl (wN cy A (su (su (su σ 4 (fun _ => ((σ 4 0) + 1))) 5 (up (σ 5) (σ 4 0) x)) 6 (up (σ 6) (σ 4 0) y))) H := hP
    have hD : va_D AA (wN cy A (su (su (su σ 4 (fun _ => ((σ 4 0) + 1))) 5 (up (σ 5) (σ 4 0) x)) 6 (up (σ 6) (σ 4 0) y))) := hD
    refine lv_aload_n hx hb dX1_addHouse_43 rfl (lv_at hl 1 rfl) ?_
    refine va_get (D := D) (ci := 1) (v := .ref (A 7)) (C := RX1) (T := TX1) (N := 19) hx hb hts (fun _ h => List.mem_cons_of_mem _ (List.mem_append_right _ h)) hown hK hP 0 rfl rfl 7 (by decide) (hts _ fl_X1_addHouse_27) (fun _ h9 => h9) rfl dX1_addHouse_44 ?_
    refine lv_iload hx hb dX1_addHouse_47 (lv_at hl 0 rfl) ?_
    refine lv_iload_n hx hb dX1_addHouse_49 rfl (lv_at hl 4 rfl) ?_
    refine r_iast hx hb hK hP hD hS 6 0 rfl rfl (Nat.le_of_ble_eq_true rfl) (by omega) dX1_addHouse_50 (fun H locs hP hD hS => ?_)
    have hP : va_P D vwCl (wN cy A (su (su (su (su σ 4 (fun _ => ((σ 4 0) + 1))) 5 (up (σ 5) (σ 4 0) x)) 6 (up (σ 6) (σ 4 0) y)) 7 (up (σ 7) (σ 4 0) n))) H := hP
    have hD : va_D AA (wN cy A (su (su (su (su σ 4 (fun _ => ((σ 4 0) + 1))) 5 (up (σ 5) (σ 4 0) x)) 6 (up (σ 6) (σ 4 0) y)) 7 (up (σ 7) (σ 4 0) n))) := hD
    refine lv_iconst (v := iI 0) hx hb dX1_addHouse_51 rfl ?_
    refine lv_istore (lv' := [(5, .int (iI 0)), (4, .int (iI (σ 4 0))), (0, .ref (A 100)), (1, .int (iI x)), (2, .int (iI y)), (3, .int (iI n))]) hx hb dX1_addHouse_52 hl (by decide) rfl (fun ls hl => ?_)
    have hIp := inv_7 (inv_6 (inv_5 (inv_4 (g := fun _ => σ 4 0 + 1) hI (by omega)) (up_bd (i := σ 4 0) hB5 hx1)) (up_bd (i := σ 4 0) hB6 hy1)) (up_bd (i := σ 4 0) hB7 hn1)
    have lp54_2 : ∀ (nlp54_2 : Nat) (i : Int) (d : (Int → Int)) (g : (Int → Int)) (H : Heap) (locs : List Loc) (ls : Array Slot), (0 ≤ i ∧ i ≤ σ 0 0) → (d = fo (fun d p => nMeaD (nPutH σ x y n) p (σ 4 0) d) (σ 16) i) → (g = fo (fun m p => nMeaB (nPutH σ x y n) p (σ 4 0) m) (σ 17) i) → (∀ k, 0 ≤ d k ∧ d k ≤ 10) → (∀ k, 0 ≤ g k ∧ g k < 256) → va_P D vwCl (wN cy A (su (su (su (su (su (su σ 4 (fun _ => ((σ 4 0) + 1))) 5 (up (σ 5) (σ 4 0) x)) 6 (up (σ 6) (σ 4 0) y)) 7 (up (σ 7) (σ 4 0) n)) 16 d) 17 g)) H → va_D AA (wN cy A (su (su (su (su (su (su σ 4 (fun _ => ((σ 4 0) + 1))) 5 (up (σ 5) (σ 4 0) x)) 6 (up (σ 6) (σ 4 0) y)) 7 (up (σ 7) (σ 4 0) n)) 16 d) 17 g)) → va_S AA s.heap H locs → (σ 0 0 - i < (nlp54_2 : Int)) → lv_has ls 6 [(5, .int (iI i)), (4, .int (iI (σ 4 0))), (0, .ref (A 100)), (1, .int (iI x)), (2, .int (iI y)), (3, .int (iI n))] → W p l e ({ frames := 5, cells := 0, slots := 0, locals := 123 } : Room) s m ([.ref (A 100), .int (iI x), .int (iI y), .int (iI n)] : List Value).toArray below meth c H locs 0 0 (MQ below (va_Qi (fun r (u : Unit) => r = iI ((fun _ : Unit => (if 20 ≤ σ 4 0 then -1 else σ 4 0)) u) ∧ (fun _ : Unit => True) u) (fun (u : Unit) tz => va_P D vwCl ((fun _ : Unit => wN cy A (nAddH σ x y n)) u) tz.heap) AA) ([.ref (A 100), .int (iI x), .int (iI y), .int (iI n)] : List Value).toArray s 0 0 AA) (F0 m 54 ls []) := by
      intro nlp54_2
      induction nlp54_2 with
      | zero => intro i d g H locs ls hi hd1 hg hdb hgb hP hD hS hn hl; exact absurd hn (by omega)
      | succ nlp54_2 ihlp54_2 =>
        intro i d g H locs ls hi hd1 hg hdb hgb hP hD hS hn hl
        refine lv_iload hx hb dX1_addHouse_54 (lv_at hl 0 rfl) ?_
        refine lv_aload_n hx hb dX1_addHouse_56 rfl (lv_at hl 2 rfl) ?_
        refine va_get (D := D) (ci := 1) (v := .int (iI (σ 0 0))) (C := RX1) (T := TX1) (N := 19) hx hb hts (fun _ h => List.mem_cons_of_mem _ (List.mem_append_right _ h)) hown hK hP 0 rfl rfl 0 (by decide) (hts _ fl_X1_addHouse_61) (fun _ h9 => h9) rfl dX1_addHouse_57 ?_
        refine r_icmp_ge (tgt := 77) hx hb dX1_addHouse_60 (by decide) (by omega) (by omega) (fun h3 => ?_) (fun h3 => ?_)
        · -- 60 to 77
          refine lv_iload hx hb dX1_addHouse_77 (lv_at hl 1 rfl) ?_
          exact r_retM () hx hb hr hlocks hS dX1_addHouse_79 (by rw [if_neg (by omega)]) trivial (by unfold nAddH; rw [if_neg (by omega), show σ 0 0 = i from by omega, ← hd1, ← hg]; exact hP)
        · -- 60 to 63
          refine lv_aload_n hx hb dX1_addHouse_63 rfl (lv_at hl 2 rfl) ?_
          refine lv_iload hx hb dX1_addHouse_64 (lv_at hl 0 rfl) ?_
          refine lv_iload hx hb dX1_addHouse_66 (lv_at hl 1 rfl) ?_
          refine r_callV (w1 := ([] : va_W)) (w2 := ([] : va_W)) (va_runV (As := [.int (iI i), .int (iI (σ 4 0))]) (rest := []) ⟨hx, hb, hml, hown, hts⟩ (c_X1_measurePair l D cy A (su (su (su (su (su (su σ 4 (fun _ => ((σ 4 0) + 1))) 5 (up (σ 5) (σ 4 0) x)) 6 (up (σ 6) (σ 4 0) y)) 7 (up (σ 7) (σ 4 0) n)) 16 d) 17 g) (H.size) i (σ 4 0) (inv_17 (inv_16 hIp hdb) hgb) (by omega) (by omega)) (cwV 2 hts gX1_addHouse_X1_measurePair rfl rfl rfl (by decide +kernel) ⟨Nat.le_of_ble_eq_true rfl, Nat.le_of_ble_eq_true rfl⟩) (pv_rw (C := RX1) (T := TX1) (N := 19) (ci := 1) (q0 := 0) hP hK hD rfl rfl) rfl rfl hl.1 rfl (lv_room (Nat.le_of_ble_eq_true rfl)) dX1_addHouse_68 ⟨Nat.le_of_ble_eq_true rfl, Nat.le_of_ble_eq_true rfl⟩) hP hD hS hA (fun _ => rfl) (fun u4 H locs hp5 hP hD hS => ?_)
          have hP : va_P D vwCl (wN cy A (su (su (su (su (su (su (su (su σ 4 (fun _ => ((σ 4 0) + 1))) 5 (up (σ 5) (σ 4 0) x)) 6 (up (σ 6) (σ 4 0) y)) 7 (up (σ 7) (σ 4 0) n)) 16 d) 17 g) 16 (up ((su (su (su (su (su (su σ 4 (fun _ => ((σ 4 0) + 1))) 5 (up (σ 5) (σ 4 0) x)) 6 (up (σ 6) (σ 4 0) y)) 7 (up (σ 7) (σ 4 0) n)) 16 d) 17 g) 16) (i * 20 + (σ 4 0)) (nDbl (d2Z (su (su (su (su (su (su σ 4 (fun _ => ((σ 4 0) + 1))) 5 (up (σ 5) (σ 4 0) x)) 6 (up (σ 6) (σ 4 0) y)) 7 (up (σ 7) (σ 4 0) n)) 16 d) 17 g) i (σ 4 0))))) 17 (up ((su (su (su (su (su (su σ 4 (fun _ => ((σ 4 0) + 1))) 5 (up (σ 5) (σ 4 0) x)) 6 (up (σ 6) (σ 4 0) y)) 7 (up (σ 7) (σ 4 0) n)) 16 d) 17 g) 17) (i * 20 + (σ 4 0)) (nMsk (su (su (su (su (su (su σ 4 (fun _ => ((σ 4 0) + 1))) 5 (up (σ 5) (σ 4 0) x)) 6 (up (σ 6) (σ 4 0) y)) 7 (up (σ 7) (σ 4 0) n)) 16 d) 17 g) i (σ 4 0) ((su (su (su (su (su (su σ 4 (fun _ => ((σ 4 0) + 1))) 5 (up (σ 5) (σ 4 0) x)) 6 (up (σ 6) (σ 4 0) y)) 7 (up (σ 7) (σ 4 0) n)) 16 d) 17 g) 17 (i * 20 + (σ 4 0))))))) H := hP
          have hD : va_D AA (wN cy A (su (su (su (su (su (su (su (su σ 4 (fun _ => ((σ 4 0) + 1))) 5 (up (σ 5) (σ 4 0) x)) 6 (up (σ 6) (σ 4 0) y)) 7 (up (σ 7) (σ 4 0) n)) 16 d) 17 g) 16 (up ((su (su (su (su (su (su σ 4 (fun _ => ((σ 4 0) + 1))) 5 (up (σ 5) (σ 4 0) x)) 6 (up (σ 6) (σ 4 0) y)) 7 (up (σ 7) (σ 4 0) n)) 16 d) 17 g) 16) (i * 20 + (σ 4 0)) (nDbl (d2Z (su (su (su (su (su (su σ 4 (fun _ => ((σ 4 0) + 1))) 5 (up (σ 5) (σ 4 0) x)) 6 (up (σ 6) (σ 4 0) y)) 7 (up (σ 7) (σ 4 0) n)) 16 d) 17 g) i (σ 4 0))))) 17 (up ((su (su (su (su (su (su σ 4 (fun _ => ((σ 4 0) + 1))) 5 (up (σ 5) (σ 4 0) x)) 6 (up (σ 6) (σ 4 0) y)) 7 (up (σ 7) (σ 4 0) n)) 16 d) 17 g) 17) (i * 20 + (σ 4 0)) (nMsk (su (su (su (su (su (su σ 4 (fun _ => ((σ 4 0) + 1))) 5 (up (σ 5) (σ 4 0) x)) 6 (up (σ 6) (σ 4 0) y)) 7 (up (σ 7) (σ 4 0) n)) 16 d) 17 g) i (σ 4 0) ((su (su (su (su (su (su σ 4 (fun _ => ((σ 4 0) + 1))) 5 (up (σ 5) (σ 4 0) x)) 6 (up (σ 6) (σ 4 0) y)) 7 (up (σ 7) (σ 4 0) n)) 16 d) 17 g) 17 (i * 20 + (σ 4 0))))))) := hD
          refine r_iinc (a := i) (b := (i + 1)) (lv2 := [(5, .int (iI (i + 1))), (4, .int (iI (σ 4 0))), (0, .ref (A 100)), (1, .int (iI x)), (2, .int (iI y)), (3, .int (iI n))]) hx hb dX1_addHouse_71 hl (k := 0) rfl (by omega) (by decide) rfl (fun ls hl => ?_)
          refine lv_goto (tgt := 54) hx hb dX1_addHouse_74 (by decide) ?_
          exact ihlp54_2 (i + 1) (up ((su (su (su (su (su (su σ 4 (fun _ => ((σ 4 0) + 1))) 5 (up (σ 5) (σ 4 0) x)) 6 (up (σ 6) (σ 4 0) y)) 7 (up (σ 7) (σ 4 0) n)) 16 d) 17 g) 16) (i * 20 + (σ 4 0)) (nDbl (d2Z (su (su (su (su (su (su σ 4 (fun _ => ((σ 4 0) + 1))) 5 (up (σ 5) (σ 4 0) x)) 6 (up (σ 6) (σ 4 0) y)) 7 (up (σ 7) (σ 4 0) n)) 16 d) 17 g) i (σ 4 0)))) (up ((su (su (su (su (su (su σ 4 (fun _ => ((σ 4 0) + 1))) 5 (up (σ 5) (σ 4 0) x)) 6 (up (σ 6) (σ 4 0) y)) 7 (up (σ 7) (σ 4 0) n)) 16 d) 17 g) 17) (i * 20 + (σ 4 0)) (nMsk (su (su (su (su (su (su σ 4 (fun _ => ((σ 4 0) + 1))) 5 (up (σ 5) (σ 4 0) x)) 6 (up (σ 6) (σ 4 0) y)) 7 (up (σ 7) (σ 4 0) n)) 16 d) 17 g) i (σ 4 0) ((su (su (su (su (su (su σ 4 (fun _ => ((σ 4 0) + 1))) 5 (up (σ 5) (σ 4 0) x)) 6 (up (σ 6) (σ 4 0) y)) 7 (up (σ 7) (σ 4 0) n)) 16 d) 17 g) 17 (i * 20 + (σ 4 0))))) _ _ ls (by omega) (by rw [fo_s _ _ (by omega), ← hd1]; rfl) (by rw [fo_s _ _ (by omega), ← hg]; rfl) (up_bd hdb (nDbl_bd _)) (up_bl hgb (nMsk_bd (inv_17 (inv_16 hIp hdb) hgb) _ _ (hgb _))) hP hD hS (by omega) (lv_sub hl [0, 1, 2, 3, 4, 5] rfl)
    exact lp54_2 _ 0 (σ 16) (σ 17) _ _ ls (by omega) rfl rfl hB16 hB17 hP hD hS (lt_tn _) (lv_sub hl [0, 1, 2, 3, 4, 5] rfl)
  · -- 6 to 9
    refine lv_iconst (v := iI (-1)) hx hb dX1_addHouse_9 rfl ?_
    exact r_retM () hx hb hr hlocks hS dX1_addHouse_10 (by rw [if_pos (by omega)]) trivial (by unfold nAddH; rw [if_pos (by omega)]; exact hP)
theorem fl_X1_addWall_67 : Cond.fieldLink RX1 67 "NoiseLamps$Noise" "walls" "I" ∈ wsX1_addWall := by decide +kernel
theorem fl_X1_addWall_30 : Cond.fieldLink RX1 30 "NoiseLamps$Noise" "wallX0" "[I" ∈ wsX1_addWall := by decide +kernel
theorem fl_X1_addWall_33 : Cond.fieldLink RX1 33 "NoiseLamps$Noise" "wallY0" "[I" ∈ wsX1_addWall := by decide +kernel
theorem fl_X1_addWall_36 : Cond.fieldLink RX1 36 "NoiseLamps$Noise" "wallX1" "[I" ∈ wsX1_addWall := by decide +kernel
theorem fl_X1_addWall_39 : Cond.fieldLink RX1 39 "NoiseLamps$Noise" "wallY1" "[I" ∈ wsX1_addWall := by decide +kernel
theorem fl_X1_addWall_42 : Cond.fieldLink RX1 42 "NoiseLamps$Noise" "wallCut" "[I" ∈ wsX1_addWall := by decide +kernel
theorem fl_X1_addWall_61 : Cond.fieldLink RX1 61 "NoiseLamps$Noise" "pieces" "I" ∈ wsX1_addWall := by decide +kernel
theorem fl_X1_addWall_64 : Cond.fieldLink RX1 64 "NoiseLamps$Noise" "houses" "I" ∈ wsX1_addWall := by decide +kernel
set_option maxHeartbeats 4000000 in
set_option maxRecDepth 100000 in
theorem c_X1_addWall (l : Launch) (D : va_G) (cy : ClassId) (A : Nat → Nat) (σ : Nat → Int → Int) (sz : Nat) (x y z w v : Int) (hI : invN σ) (hx1 : -5000 ≤ x ∧ x ≤ 5000) (hy1 : -5000 ≤ y ∧ y ≤ 5000) (hz1 : -5000 ≤ z ∧ z ≤ 5000) (hw1 : -5000 ≤ w ∧ w ≤ 5000) (hv1 : 0 ≤ v ∧ v ≤ 300) : MetM l yX1_addWall wsX1_addWall ({ frames := 4, cells := 0, slots := 0, locals := 98 } : Room) D cy (wN cy A σ) ([.ref (A 100), .int (iI x), .int (iI y), .int (iI z), .int (iI w), .int (iI v)] : List Value) sz (fun _ : Unit => (if 8 ≤ σ 8 0 then -1 else σ 8 0)) (fun _ : Unit => True) (fun _ : Unit => wN cy A (nAddW σ x y z w v)) := by
  refine met_M (cc := cX1_addWall) (maxL := 9) (ret := (some .int)) (by decide) rfl (Nat.le_of_ble_eq_true rfl) ?_
  intro p e s m below meth c AA hAA hx hb hr hml hts hown hlocks hP hK hD hA ls hl
  have hS : va_S AA s.heap s.heap [] := va_S.rf
  have hown : s.vm.findClass RX1 = some m.cls := hown
  have hl : lv_has ls 9 [(0, .ref (A 100)), (1, .int (iI x)), (2, .int (iI y)), (3, .int (iI z)), (4, .int (iI w)), (5, .int (iI v))] := hl
  obtain ⟨hN0, hN4, hN8, hN14, hB1, hB2, hB3, hB5, hB6, hB7, hB9, hB10, hB11, hB12, hB13, hB15, hB16, hB17⟩ := id hI
  refine lv_aload_n hx hb dX1_addWall_0 rfl (lv_at hl 0 rfl) ?_
  refine va_get (D := D) (ci := 1) (v := .int (iI (σ 8 0))) (C := RX1) (T := TX1) (N := 19) hx hb hts (fun _ h => List.mem_cons_of_mem _ (List.mem_append_right _ h)) hown hK hP 0 rfl rfl 8 (by decide) (hts _ fl_X1_addWall_67) (fun _ h9 => h9) rfl dX1_addWall_1 ?_
  refine lv_bipush (v := iI 8) hx hb dX1_addWall_4 (by decide +kernel) ?_
  refine r_icmp_lt (tgt := 11) hx hb dX1_addWall_6 (by decide) (by omega) (by omega) (fun h1 => ?_) (fun h1 => ?_)
  · -- 6 to 11
    refine lv_aload_n hx hb dX1_addWall_11 rfl (lv_at hl 0 rfl) ?_
    refine va_get (D := D) (ci := 1) (v := .int (iI (σ 8 0))) (C := RX1) (T := TX1) (N := 19) hx hb hts (fun _ h => List.mem_cons_of_mem _ (List.mem_append_right _ h)) hown hK hP 0 rfl rfl 8 (by decide) (hts _ fl_X1_addWall_67) (fun _ h9 => h9) rfl dX1_addWall_12 ?_
    refine lv_istore (lv' := [(6, .int (iI (σ 8 0))), (0, .ref (A 100)), (1, .int (iI x)), (2, .int (iI y)), (3, .int (iI z)), (4, .int (iI w)), (5, .int (iI v))]) hx hb dX1_addWall_15 hl (by decide) rfl (fun ls hl => ?_)
    refine lv_aload_n hx hb dX1_addWall_17 rfl (lv_at hl 1 rfl) ?_
    refine lv_dup hx hb dX1_addWall_18 rfl ?_
    refine va_get (D := D) (ci := 1) (v := .int (iI (σ 8 0))) (C := RX1) (T := TX1) (N := 19) hx hb hts (fun _ h => List.mem_cons_of_mem _ (List.mem_append_right _ h)) hown hK hP 0 rfl rfl 8 (by decide) (hts _ fl_X1_addWall_67) (fun _ h9 => h9) rfl dX1_addWall_19 ?_
    refine lv_iconst (v := iI 1) hx hb dX1_addWall_22 rfl ?_
    refine r_iadd hx hb dX1_addWall_23 ?_
    refine va_put (D := D) (ci := 1) (v := .int (iI ((σ 8 0) + 1))) (ty := .int) (C := RX1) (T := TX1) (N := 19) hx hb hts (fun _ h => List.mem_cons_of_mem _ (List.mem_append_right _ h)) tyX1 tyX1_ok nmX1 hown hK hP hD hS 0 rfl rfl 8 (by decide) (hts _ fl_X1_addWall_67) (fun _ h9 => h9) rfl (by decide +kernel) rfl rfl (Nat.le_of_ble_eq_true rfl) dX1_addWall_24 (fun H locs hP hD hS => ?_)
    have hP : va_P D vwCl (wN cy A (su σ 8 (fun _ => ((σ 8 0) + 1)))) H := hP
    have hD : va_D AA (wN cy A (su σ 8 (fun _ => ((σ 8 0) + 1)))) := hD
    refine lv_aload_n hx hb dX1_addWall_27 rfl (lv_at hl 1 rfl) ?_
    refine va_get (D := D) (ci := 1) (v := .ref (A 9)) (C := RX1) (T := TX1) (N := 19) hx hb hts (fun _ h => List.mem_cons_of_mem _ (List.mem_append_right _ h)) hown hK hP 0 rfl rfl 9 (by decide) (hts _ fl_X1_addWall_30) (fun _ h9 => h9) rfl dX1_addWall_28 ?_
    refine lv_iload hx hb dX1_addWall_31 (lv_at hl 0 rfl) ?_
    refine lv_iload_n hx hb dX1_addWall_33 rfl (lv_at hl 2 rfl) ?_
    refine r_iast hx hb hK hP hD hS 7 0 rfl rfl (Nat.le_of_ble_eq_true rfl) (by omega) dX1_addWall_34 (fun H locs hP hD hS => ?_)
    have hP : va_P D vwCl (wN cy A (su (su σ 8 (fun _ => ((σ 8 0) + 1))) 9 (up (σ 9) (σ 8 0) x))) H := hP
    have hD : va_D AA (wN cy A (su (su σ 8 (fun _ => ((σ 8 0) + 1))) 9 (up (σ 9) (σ 8 0) x))) := hD
    refine lv_aload_n hx hb dX1_addWall_35 rfl (lv_at hl 1 rfl) ?_
    refine va_get (D := D) (ci := 1) (v := .ref (A 10)) (C := RX1) (T := TX1) (N := 19) hx hb hts (fun _ h => List.mem_cons_of_mem _ (List.mem_append_right _ h)) hown hK hP 0 rfl rfl 10 (by decide) (hts _ fl_X1_addWall_33) (fun _ h9 => h9) rfl dX1_addWall_36 ?_
    refine lv_iload hx hb dX1_addWall_39 (lv_at hl 0 rfl) ?_
    refine lv_iload_n hx hb dX1_addWall_41 rfl (lv_at hl 3 rfl) ?_
    refine r_iast hx hb hK hP hD hS 8 0 rfl rfl (Nat.le_of_ble_eq_true rfl) (by omega) dX1_addWall_42 (fun H locs hP hD hS => ?_)
    have hP : va_P D vwCl (wN cy A (su (su (su σ 8 (fun _ => ((σ 8 0) + 1))) 9 (up (σ 9) (σ 8 0) x)) 10 (up (σ 10) (σ 8 0) y))) H := hP
    have hD : va_D AA (wN cy A (su (su (su σ 8 (fun _ => ((σ 8 0) + 1))) 9 (up (σ 9) (σ 8 0) x)) 10 (up (σ 10) (σ 8 0) y))) := hD
    refine lv_aload_n hx hb dX1_addWall_43 rfl (lv_at hl 1 rfl) ?_
    refine va_get (D := D) (ci := 1) (v := .ref (A 11)) (C := RX1) (T := TX1) (N := 19) hx hb hts (fun _ h => List.mem_cons_of_mem _ (List.mem_append_right _ h)) hown hK hP 0 rfl rfl 11 (by decide) (hts _ fl_X1_addWall_36) (fun _ h9 => h9) rfl dX1_addWall_44 ?_
    refine lv_iload hx hb dX1_addWall_47 (lv_at hl 0 rfl) ?_
    refine lv_iload_n hx hb dX1_addWall_49 rfl (lv_at hl 4 rfl) ?_
    refine r_iast hx hb hK hP hD hS 9 0 rfl rfl (Nat.le_of_ble_eq_true rfl) (by omega) dX1_addWall_50 (fun H locs hP hD hS => ?_)
    have hP : va_P D vwCl (wN cy A (su (su (su (su σ 8 (fun _ => ((σ 8 0) + 1))) 9 (up (σ 9) (σ 8 0) x)) 10 (up (σ 10) (σ 8 0) y)) 11 (up (σ 11) (σ 8 0) z))) H := hP
    have hD : va_D AA (wN cy A (su (su (su (su σ 8 (fun _ => ((σ 8 0) + 1))) 9 (up (σ 9) (σ 8 0) x)) 10 (up (σ 10) (σ 8 0) y)) 11 (up (σ 11) (σ 8 0) z))) := hD
    refine lv_aload_n hx hb dX1_addWall_51 rfl (lv_at hl 1 rfl) ?_
    refine va_get (D := D) (ci := 1) (v := .ref (A 12)) (C := RX1) (T := TX1) (N := 19) hx hb hts (fun _ h => List.mem_cons_of_mem _ (List.mem_append_right _ h)) hown hK hP 0 rfl rfl 12 (by decide) (hts _ fl_X1_addWall_39) (fun _ h9 => h9) rfl dX1_addWall_52 ?_
    refine lv_iload hx hb dX1_addWall_55 (lv_at hl 0 rfl) ?_
    refine lv_iload hx hb dX1_addWall_57 (lv_at hl 5 rfl) ?_
    refine r_iast hx hb hK hP hD hS 10 0 rfl rfl (Nat.le_of_ble_eq_true rfl) (by omega) dX1_addWall_59 (fun H locs hP hD hS => ?_)
    have hP : va_P D vwCl (wN cy A (su (su (su (su (su σ 8 (fun _ => ((σ 8 0) + 1))) 9 (up (σ 9) (σ 8 0) x)) 10 (up (σ 10) (σ 8 0) y)) 11 (up (σ 11) (σ 8 0) z)) 12 (up (σ 12) (σ 8 0) w))) H := hP
    have hD : va_D AA (wN cy A (su (su (su (su (su σ 8 (fun _ => ((σ 8 0) + 1))) 9 (up (σ 9) (σ 8 0) x)) 10 (up (σ 10) (σ 8 0) y)) 11 (up (σ 11) (σ 8 0) z)) 12 (up (σ 12) (σ 8 0) w))) := hD
    refine lv_aload_n hx hb dX1_addWall_60 rfl (lv_at hl 1 rfl) ?_
    refine va_get (D := D) (ci := 1) (v := .ref (A 13)) (C := RX1) (T := TX1) (N := 19) hx hb hts (fun _ h => List.mem_cons_of_mem _ (List.mem_append_right _ h)) hown hK hP 0 rfl rfl 13 (by decide) (hts _ fl_X1_addWall_42) (fun _ h9 => h9) rfl dX1_addWall_61 ?_
    refine lv_iload hx hb dX1_addWall_64 (lv_at hl 0 rfl) ?_
    refine lv_iload hx hb dX1_addWall_66 (lv_at hl 6 rfl) ?_
    refine r_iast hx hb hK hP hD hS 11 0 rfl rfl (Nat.le_of_ble_eq_true rfl) (by omega) dX1_addWall_68 (fun H locs hP hD hS => ?_)
    have hP : va_P D vwCl (wN cy A (su (su (su (su (su (su σ 8 (fun _ => ((σ 8 0) + 1))) 9 (up (σ 9) (σ 8 0) x)) 10 (up (σ 10) (σ 8 0) y)) 11 (up (σ 11) (σ 8 0) z)) 12 (up (σ 12) (σ 8 0) w)) 13 (up (σ 13) (σ 8 0) v))) H := hP
    have hD : va_D AA (wN cy A (su (su (su (su (su (su σ 8 (fun _ => ((σ 8 0) + 1))) 9 (up (σ 9) (σ 8 0) x)) 10 (up (σ 10) (σ 8 0) y)) 11 (up (σ 11) (σ 8 0) z)) 12 (up (σ 12) (σ 8 0) w)) 13 (up (σ 13) (σ 8 0) v))) := hD
    refine lv_iconst (v := iI 0) hx hb dX1_addWall_69 rfl ?_
    refine lv_istore (lv' := [(7, .int (iI 0)), (6, .int (iI (σ 8 0))), (0, .ref (A 100)), (1, .int (iI x)), (2, .int (iI y)), (3, .int (iI z)), (4, .int (iI w)), (5, .int (iI v))]) hx hb dX1_addWall_70 hl (by decide) rfl (fun ls hl => ?_)
    have hIp := inv_13 (inv_12 (inv_11 (inv_10 (inv_9 (inv_8 (g := fun _ => σ 8 0 + 1) hI (by omega)) (up_bd (i := σ 8 0) hB9 hx1)) (up_bd (i := σ 8 0) hB10 hy1)) (up_bd (i := σ 8 0) hB11 hz1)) (up_bd (i := σ 8 0) hB12 hw1)) (up_bd (i := σ 8 0) hB13 hv1)
    have lp72_2 : ∀ (nlp72_2 : Nat) (i : Int) (g : (Int → Int)) (H : Heap) (locs : List Loc) (ls : Array Slot), (0 ≤ i ∧ i ≤ σ 0 0) → (g = fo (fun m p => nRowS (nPutW σ x y z w v) (σ 8 0) p (σ 4 0) m) (σ 17) i) → (∀ k, 0 ≤ g k ∧ g k < 256) → va_P D vwCl (wN cy A (su (su (su (su (su (su (su σ 8 (fun _ => ((σ 8 0) + 1))) 9 (up (σ 9) (σ 8 0) x)) 10 (up (σ 10) (σ 8 0) y)) 11 (up (σ 11) (σ 8 0) z)) 12 (up (σ 12) (σ 8 0) w)) 13 (up (σ 13) (σ 8 0) v)) 17 g)) H → va_D AA (wN cy A (su (su (su (su (su (su (su σ 8 (fun _ => ((σ 8 0) + 1))) 9 (up (σ 9) (σ 8 0) x)) 10 (up (σ 10) (σ 8 0) y)) 11 (up (σ 11) (σ 8 0) z)) 12 (up (σ 12) (σ 8 0) w)) 13 (up (σ 13) (σ 8 0) v)) 17 g)) → va_S AA s.heap H locs → (σ 0 0 - i < (nlp72_2 : Int)) → lv_has ls 9 [(7, .int (iI i)), (6, .int (iI (σ 8 0))), (0, .ref (A 100)), (1, .int (iI x)), (2, .int (iI y)), (3, .int (iI z)), (4, .int (iI w)), (5, .int (iI v))] → W p l e ({ frames := 4, cells := 0, slots := 0, locals := 98 } : Room) s m ([.ref (A 100), .int (iI x), .int (iI y), .int (iI z), .int (iI w), .int (iI v)] : List Value).toArray below meth c H locs 0 0 (MQ below (va_Qi (fun r (u : Unit) => r = iI ((fun _ : Unit => (if 8 ≤ σ 8 0 then -1 else σ 8 0)) u) ∧ (fun _ : Unit => True) u) (fun (u : Unit) tz => va_P D vwCl ((fun _ : Unit => wN cy A (nAddW σ x y z w v)) u) tz.heap) AA) ([.ref (A 100), .int (iI x), .int (iI y), .int (iI z), .int (iI w), .int (iI v)] : List Value).toArray s 0 0 AA) (F0 m 72 ls []) := by
      intro nlp72_2
      induction nlp72_2 with
      | zero => intro i g H locs ls hi hg hgb hP hD hS hn hl; exact absurd hn (by omega)
      | succ nlp72_2 ihlp72_2 =>
        intro i g H locs ls hi hg hgb hP hD hS hn hl
        refine lv_iload hx hb dX1_addWall_72 (lv_at hl 0 rfl) ?_
        refine lv_aload_n hx hb dX1_addWall_74 rfl (lv_at hl 2 rfl) ?_
        refine va_get (D := D) (ci := 1) (v := .int (iI (σ 0 0))) (C := RX1) (T := TX1) (N := 19) hx hb hts (fun _ h => List.mem_cons_of_mem _ (List.mem_append_right _ h)) hown hK hP 0 rfl rfl 0 (by decide) (hts _ fl_X1_addWall_61) (fun _ h9 => h9) rfl dX1_addWall_75 ?_
        refine r_icmp_ge (tgt := 115) hx hb dX1_addWall_78 (by decide) (by omega) (by omega) (fun h3 => ?_) (fun h3 => ?_)
        · -- 78 to 115
          refine lv_iload hx hb dX1_addWall_115 (lv_at hl 1 rfl) ?_
          exact r_retM () hx hb hr hlocks hS dX1_addWall_117 (by rw [if_neg (by omega)]) trivial (by unfold nAddW; rw [if_neg (by omega), show σ 0 0 = i from by omega, ← hg]; exact hP)
        · -- 78 to 81
          refine lv_iconst (v := iI 0) hx hb dX1_addWall_81 rfl ?_
          refine lv_istore (lv' := [(8, .int (iI 0)), (7, .int (iI i)), (6, .int (iI (σ 8 0))), (0, .ref (A 100)), (1, .int (iI x)), (2, .int (iI y)), (3, .int (iI z)), (4, .int (iI w)), (5, .int (iI v))]) hx hb dX1_addWall_82 hl (by decide) rfl (fun ls hl => ?_)
          have lp84_4 : ∀ (nlp84_4 : Nat) (j : Int) (q : (Int → Int)) (H : Heap) (locs : List Loc) (ls : Array Slot), (0 ≤ j ∧ j ≤ σ 4 0) → (q = fo (fun m h => nNoteS (nPutW σ x y z w v) (σ 8 0) i h m) g j) → (∀ k, 0 ≤ q k ∧ q k < 256) → va_P D vwCl (wN cy A (su (su (su (su (su (su (su (su σ 8 (fun _ => ((σ 8 0) + 1))) 9 (up (σ 9) (σ 8 0) x)) 10 (up (σ 10) (σ 8 0) y)) 11 (up (σ 11) (σ 8 0) z)) 12 (up (σ 12) (σ 8 0) w)) 13 (up (σ 13) (σ 8 0) v)) 17 g) 17 q)) H → va_D AA (wN cy A (su (su (su (su (su (su (su (su σ 8 (fun _ => ((σ 8 0) + 1))) 9 (up (σ 9) (σ 8 0) x)) 10 (up (σ 10) (σ 8 0) y)) 11 (up (σ 11) (σ 8 0) z)) 12 (up (σ 12) (σ 8 0) w)) 13 (up (σ 13) (σ 8 0) v)) 17 g) 17 q)) → va_S AA s.heap H locs → (σ 4 0 - j < (nlp84_4 : Int)) → lv_has ls 9 [(8, .int (iI j)), (7, .int (iI i)), (6, .int (iI (σ 8 0))), (0, .ref (A 100)), (1, .int (iI x)), (2, .int (iI y)), (3, .int (iI z)), (4, .int (iI w)), (5, .int (iI v))] → W p l e ({ frames := 4, cells := 0, slots := 0, locals := 98 } : Room) s m ([.ref (A 100), .int (iI x), .int (iI y), .int (iI z), .int (iI w), .int (iI v)] : List Value).toArray below meth c H locs 0 0 (MQ below (va_Qi (fun r (u : Unit) => r = iI ((fun _ : Unit => (if 8 ≤ σ 8 0 then -1 else σ 8 0)) u) ∧ (fun _ : Unit => True) u) (fun (u : Unit) tz => va_P D vwCl ((fun _ : Unit => wN cy A (nAddW σ x y z w v)) u) tz.heap) AA) ([.ref (A 100), .int (iI x), .int (iI y), .int (iI z), .int (iI w), .int (iI v)] : List Value).toArray s 0 0 AA) (F0 m 84 ls []) := by
            intro nlp84_4
            induction nlp84_4 with
            | zero => intro j q H locs ls hj hq hqb hP hD hS hn hl; exact absurd hn (by omega)
            | succ nlp84_4 ihlp84_4 =>
              intro j q H locs ls hj hq hqb hP hD hS hn hl
              refine lv_iload hx hb dX1_addWall_84 (lv_at hl 0 rfl) ?_
              refine lv_aload_n hx hb dX1_addWall_86 rfl (lv_at hl 3 rfl) ?_
              refine va_get (D := D) (ci := 1) (v := .int (iI (σ 4 0))) (C := RX1) (T := TX1) (N := 19) hx hb hts (fun _ h => List.mem_cons_of_mem _ (List.mem_append_right _ h)) hown hK hP 0 rfl rfl 4 (by decide) (hts _ fl_X1_addWall_64) (fun _ h9 => h9) rfl dX1_addWall_87 ?_
              refine r_icmp_ge (tgt := 109) hx hb dX1_addWall_90 (by decide) (by omega) (by omega) (fun h5 => ?_) (fun h5 => ?_)
              · -- 90 to 109
                refine r_iinc (a := i) (b := (i + 1)) (lv2 := [(7, .int (iI (i + 1))), (8, .int (iI j)), (6, .int (iI (σ 8 0))), (0, .ref (A 100)), (1, .int (iI x)), (2, .int (iI y)), (3, .int (iI z)), (4, .int (iI w)), (5, .int (iI v))]) hx hb dX1_addWall_109 hl (k := 1) rfl (by omega) (by decide) rfl (fun ls hl => ?_)
                refine lv_goto (tgt := 72) hx hb dX1_addWall_112 (by decide) ?_
                exact ihlp72_2 (i + 1) q _ _ ls (by omega) (by rw [fo_s _ _ (by omega), ← hg, hq, show j = σ 4 0 from by omega]; rfl) hqb hP hD hS (by omega) (lv_sub hl [0, 2, 3, 4, 5, 6, 7, 8] rfl)
              · -- 90 to 93
                refine lv_aload_n hx hb dX1_addWall_93 rfl (lv_at hl 3 rfl) ?_
                refine lv_iload hx hb dX1_addWall_94 (lv_at hl 2 rfl) ?_
                refine lv_iload hx hb dX1_addWall_96 (lv_at hl 1 rfl) ?_
                refine lv_iload hx hb dX1_addWall_98 (lv_at hl 0 rfl) ?_
                refine r_callV (w1 := ([] : va_W)) (w2 := ([] : va_W)) (va_runV (As := [.int (iI (σ 8 0)), .int (iI i), .int (iI j)]) (rest := []) ⟨hx, hb, hml, hown, hts⟩ (c_X1_noteIfBetween l D cy A (su (su (su (su (su (su (su (su σ 8 (fun _ => ((σ 8 0) + 1))) 9 (up (σ 9) (σ 8 0) x)) 10 (up (σ 10) (σ 8 0) y)) 11 (up (σ 11) (σ 8 0) z)) 12 (up (σ 12) (σ 8 0) w)) 13 (up (σ 13) (σ 8 0) v)) 17 g) 17 q) (H.size) (σ 8 0) i j (inv_17 (inv_17 hIp hgb) hqb) (by omega) (by omega) (by omega)) (cwV 3 hts gX1_addWall_X1_noteIfBetween rfl rfl rfl (by decide +kernel) ⟨Nat.le_of_ble_eq_true rfl, Nat.le_of_ble_eq_true rfl⟩) (pv_rw (C := RX1) (T := TX1) (N := 19) (ci := 1) (q0 := 0) hP hK hD rfl rfl) rfl rfl hl.1 rfl (lv_room (Nat.le_of_ble_eq_true rfl)) dX1_addWall_100 ⟨Nat.le_of_ble_eq_true rfl, Nat.le_of_ble_eq_true rfl⟩) hP hD hS hA (fun _ => rfl) (fun u6 H locs hp7 hP hD hS => ?_)
                have hP : va_P D vwCl (wN cy A (su (su (su (su (su (su (su (su (su σ 8 (fun _ => ((σ 8 0) + 1))) 9 (up (σ 9) (σ 8 0) x)) 10 (up (σ 10) (σ 8 0) y)) 11 (up (σ 11) (σ 8 0) z)) 12 (up (σ 12) (σ 8 0) w)) 13 (up (σ 13) (σ 8 0) v)) 17 g) 17 q) 17 (nNoteF (su (su (su (su (su (su (su (su σ 8 (fun _ => ((σ 8 0) + 1))) 9 (up (σ 9) (σ 8 0) x)) 10 (up (σ 10) (σ 8 0) y)) 11 (up (σ 11) (σ 8 0) z)) 12 (up (σ 12) (σ 8 0) w)) 13 (up (σ 13) (σ 8 0) v)) 17 g) 17 q) (σ 8 0) i j))) H := hP
                have hD : va_D AA (wN cy A (su (su (su (su (su (su (su (su (su σ 8 (fun _ => ((σ 8 0) + 1))) 9 (up (σ 9) (σ 8 0) x)) 10 (up (σ 10) (σ 8 0) y)) 11 (up (σ 11) (σ 8 0) z)) 12 (up (σ 12) (σ 8 0) w)) 13 (up (σ 13) (σ 8 0) v)) 17 g) 17 q) 17 (nNoteF (su (su (su (su (su (su (su (su σ 8 (fun _ => ((σ 8 0) + 1))) 9 (up (σ 9) (σ 8 0) x)) 10 (up (σ 10) (σ 8 0) y)) 11 (up (σ 11) (σ 8 0) z)) 12 (up (σ 12) (σ 8 0) w)) 13 (up (σ 13) (σ 8 0) v)) 17 g) 17 q) (σ 8 0) i j))) := hD
                refine r_iinc (a := j) (b := (j + 1)) (lv2 := [(8, .int (iI (j + 1))), (7, .int (iI i)), (6, .int (iI (σ 8 0))), (0, .ref (A 100)), (1, .int (iI x)), (2, .int (iI y)), (3, .int (iI z)), (4, .int (iI w)), (5, .int (iI v))]) hx hb dX1_addWall_103 hl (k := 0) rfl (by omega) (by decide) rfl (fun ls hl => ?_)
                refine lv_goto (tgt := 84) hx hb dX1_addWall_106 (by decide) ?_
                exact ihlp84_4 (j + 1) (nNoteF (su (su (su (su (su (su (su (su σ 8 (fun _ => ((σ 8 0) + 1))) 9 (up (σ 9) (σ 8 0) x)) 10 (up (σ 10) (σ 8 0) y)) 11 (up (σ 11) (σ 8 0) z)) 12 (up (σ 12) (σ 8 0) w)) 13 (up (σ 13) (σ 8 0) v)) 17 g) 17 q) (σ 8 0) i j) _ _ ls (by omega) (by rw [fo_s _ _ (by omega), ← hq]; rfl) (note_bd (inv_17 (inv_17 hIp hgb) hqb) (by omega) _ _) hP hD hS (by omega) (lv_sub hl [0, 1, 2, 3, 4, 5, 6, 7, 8] rfl)
          exact lp84_4 _ 0 g _ _ ls (by omega) rfl hgb hP hD hS (lt_tn _) (lv_sub hl [0, 1, 2, 3, 4, 5, 6, 7, 8] rfl)
    exact lp72_2 _ 0 (σ 17) _ _ ls (by omega) rfl hB17 hP hD hS (lt_tn _) (lv_sub hl [0, 1, 2, 3, 4, 5, 6, 7] rfl)
  · -- 6 to 9
    refine lv_iconst (v := iI (-1)) hx hb dX1_addWall_9 rfl ?_
    exact r_retM () hx hb hr hlocks hS dX1_addWall_10 (by rw [if_pos (by omega)]) trivial (by unfold nAddW; rw [if_pos (by omega)]; exact hP)
