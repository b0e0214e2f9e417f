/-! THE REFERENCE: lamps, and what changes -/
theorem fl_X3_lightAt_41 : Cond.fieldLink RX3 41 "NoiseLampsModel" "lights" "[I" ∈ wsX3_lightAt := by decide +kernel
set_option maxHeartbeats 4000000 in
set_option maxRecDepth 100000 in
theorem c_X3_lightAt (l : Launch) (D : va_G) (cy : ClassId) (M : Nat → Nat) (μ : Nat → Int → Int) (a : Int) (hI : invM μ) (ha : 0 ≤ a ∧ a ≤ 2147483647) : MetR l yX3_lightAt wsX3_lightAt ({ frames := 0, cells := 0, slots := 0, locals := 0 } : Room) D cy (wM cy M μ) ([.ref (M 100), .int (iI a)] : List Value) (lFrom (vL μ) a) := by
  refine met_R (cc := cX3_lightAt) (maxL := 4) (ret := (some .int)) (by decide) rfl (Nat.le_of_ble_eq_true rfl) ?_
  intro p e s m below meth c hx hb hr hml hts hown hlocks hP hK ls hl
  have hown : s.vm.findClass RX3 = some m.cls := hown
  have hl : lv_has ls 4 [(0, .ref (M 100)), (1, .int (iI a))] := hl
  obtain ⟨hM0, hM4, hM8, hM11, hM14, hB1, hB2, hB3, hB5, hB6, hB7, hB9, hB10, hB12, hB13, hB15, hB16⟩ := id hI
  refine lv_iload_n hx hb dX3_lightAt_0 rfl (lv_at hl 1 rfl) ?_
  refine lv_sipush (v := iI 300) hx hb dX3_lightAt_1 (by decide +kernel) ?_
  refine r_icmp_le (tgt := 9) hx hb dX3_lightAt_4 (by decide) (by omega) (by omega) (fun h1 => ?_) (fun h1 => ?_)
  · -- 4 to 9
    refine lv_iload_n hx hb dX3_lightAt_9 rfl (lv_at hl 1 rfl) ?_
    refine lv_bipush (v := iI 10) hx hb dX3_lightAt_10 (by decide +kernel) ?_
    refine r_idiv hx hb dX3_lightAt_12 (by omega) (by omega) ?_
    refine lv_istore_n (lv' := [(2, .int (iI (a / 10))), (0, .ref (M 100)), (1, .int (iI a))]) hx hb dX3_lightAt_13 rfl hl (by decide) rfl (fun ls hl => ?_)
    refine lv_iload_n hx hb dX3_lightAt_14 rfl (lv_at hl 2 rfl) ?_
    refine lv_bipush (v := iI 10) hx hb dX3_lightAt_15 (by decide +kernel) ?_
    refine r_irem hx hb dX3_lightAt_17 (by omega) (by omega) ?_
    refine lv_istore_n (lv' := [(3, .int (iI (a % 10))), (2, .int (iI (a / 10))), (0, .ref (M 100)), (1, .int (iI a))]) hx hb dX3_lightAt_18 rfl hl (by decide) rfl (fun ls hl => ?_)
    refine lv_iload_n hx hb dX3_lightAt_19 rfl (lv_at hl 0 rfl) ?_
    refine r_if_ne (tgt := 32) hx hb dX3_lightAt_20 (by decide) (by omega) (fun h2 => ?_) (fun h2 => ?_)
    · -- 20 to 32
      refine lv_aload_n hx hb dX3_lightAt_32 rfl (lv_at hl 2 rfl) ?_
      refine va_get (D := D) (ci := 3) (v := .ref (M 13)) (C := RX3) (T := TX3) (N := 17) hx hb hts (fun _ h => List.mem_cons_of_mem _ (List.mem_append_right _ h)) hown hK hP 0 rfl rfl 13 (by decide) (hts _ fl_X3_lightAt_41) (fun _ h9 => h9) rfl dX3_lightAt_33 ?_
      refine lv_iload_n hx hb dX3_lightAt_36 rfl (lv_at hl 1 rfl) ?_
      refine r_iald hx hb hK hP 10 0 rfl rfl (Nat.le_of_ble_eq_true rfl) (by omega) dX3_lightAt_37 ?_
      have hv3 := hB13 (a / 10)
      refine lv_bipush (v := iI 10) hx hb dX3_lightAt_38 (by decide +kernel) ?_
      refine lv_iload_n hx hb dX3_lightAt_40 rfl (lv_at hl 0 rfl) ?_
      refine r_isub hx hb dX3_lightAt_41 ?_
      have hm0 := mul_bd (a := (μ 13 (a / 10))) (b := (10 - (a % 10))) (A := 100000) (B := 10) (by omega) (by omega)
      refine r_imul hx hb dX3_lightAt_42 ?_
      refine lv_aload_n hx hb dX3_lightAt_43 rfl (lv_at hl 2 rfl) ?_
      refine va_get (D := D) (ci := 3) (v := .ref (M 13)) (C := RX3) (T := TX3) (N := 17) hx hb hts (fun _ h => List.mem_cons_of_mem _ (List.mem_append_right _ h)) hown hK hP 0 rfl rfl 13 (by decide) (hts _ fl_X3_lightAt_41) (fun _ h9 => h9) rfl dX3_lightAt_44 ?_
      refine lv_iload_n hx hb dX3_lightAt_47 rfl (lv_at hl 1 rfl) ?_
      refine lv_iconst (v := iI 1) hx hb dX3_lightAt_48 rfl ?_
      refine r_iadd hx hb dX3_lightAt_49 ?_
      refine r_iald hx hb hK hP 10 0 rfl rfl (Nat.le_of_ble_eq_true rfl) (by omega) dX3_lightAt_50 ?_
      have hv5 := hB13 ((a / 10) + 1)
      refine lv_iload_n hx hb dX3_lightAt_51 rfl (lv_at hl 0 rfl) ?_
      have hm1 := mul_bd (a := (μ 13 ((a / 10) + 1))) (b := (a % 10)) (A := 100000) (B := 10) (by omega) (by omega)
      refine r_imul hx hb dX3_lightAt_52 ?_
      refine r_iadd hx hb dX3_lightAt_53 ?_
      refine lv_bipush (v := iI 10) hx hb dX3_lightAt_54 (by decide +kernel) ?_
      refine r_idiv hx hb dX3_lightAt_56 (by omega) (by omega) ?_
      exact r_ret hx hb hr hlocks dX3_lightAt_57 (by unfold lFrom; rw [if_neg (by omega)]; first | (rw [if_pos (by omega)]; rfl) | (rw [if_neg (by omega)]; rfl))
    · -- 20 to 23
      refine lv_aload_n hx hb dX3_lightAt_23 rfl (lv_at hl 2 rfl) ?_
      refine va_get (D := D) (ci := 3) (v := .ref (M 13)) (C := RX3) (T := TX3) (N := 17) hx hb hts (fun _ h => List.mem_cons_of_mem _ (List.mem_append_right _ h)) hown hK hP 0 rfl rfl 13 (by decide) (hts _ fl_X3_lightAt_41) (fun _ h9 => h9) rfl dX3_lightAt_24 ?_
      refine lv_iload_n hx hb dX3_lightAt_27 rfl (lv_at hl 1 rfl) ?_
      refine r_iald hx hb hK hP 10 0 rfl rfl (Nat.le_of_ble_eq_true rfl) (by omega) dX3_lightAt_28 ?_
      have hv7 := hB13 (a / 10)
      refine lv_goto (tgt := 57) hx hb dX3_lightAt_29 (by decide) ?_
      exact r_ret hx hb hr hlocks dX3_lightAt_57 (by unfold lFrom; rw [if_neg (by omega)]; first | (rw [if_pos (by omega)]; rfl) | (rw [if_neg (by omega)]; rfl))
  · -- 4 to 7
    refine lv_iconst (v := iI 0) hx hb dX3_lightAt_7 rfl ?_
    exact r_ret hx hb hr hlocks dX3_lightAt_8 (by unfold lFrom; rw [if_pos (by omega)])
theorem fl_X3_sumAt_112 : Cond.fieldLink RX3 112 "NoiseLampsModel" "length" "I" ∈ wsX3_sumAt := by decide +kernel
set_option maxHeartbeats 4000000 in
set_option maxRecDepth 100000 in
theorem c_X3_sumAt (l : Launch) (D : va_G) (cy : ClassId) (M : Nat → Nat) (μ : Nat → Int → Int) (pl sp : Int) (hI : invM μ) (hp1 : 0 ≤ pl ∧ pl ≤ 5000) (hs1 : 10 ≤ sp ∧ sp ≤ 600) : MetR l yX3_sumAt wsX3_sumAt ({ frames := 1, cells := 0, slots := 0, locals := 23 } : Room) D cy (wM cy M μ) ([.ref (M 100), .int (iI pl), .int (iI sp)] : List Value) (lAt (vL μ) pl sp) := by
  refine met_R (cc := cX3_sumAt) (maxL := 5) (ret := (some .int)) (by decide) rfl (Nat.le_of_ble_eq_true rfl) ?_
  intro p e s m below meth c hx hb hr hml hts hown hlocks hP hK ls hl
  have hown : s.vm.findClass RX3 = some m.cls := hown
  have hl : lv_has ls 5 [(0, .ref (M 100)), (1, .int (iI pl)), (2, .int (iI sp))] := hl
  obtain ⟨hM0, hM4, hM8, hM11, hM14, hB1, hB2, hB3, hB5, hB6, hB7, hB9, hB10, hB12, hB13, hB15, hB16⟩ := id hI
  refine lv_iconst (v := iI 0) hx hb dX3_sumAt_0 rfl ?_
  refine lv_istore_n (lv' := [(3, .int (iI 0)), (0, .ref (M 100)), (1, .int (iI pl)), (2, .int (iI sp))]) hx hb dX3_sumAt_1 rfl hl (by decide) rfl (fun ls hl => ?_)
  refine lv_iconst (v := iI 0) hx hb dX3_sumAt_2 rfl ?_
  refine lv_istore (lv' := [(4, .int (iI 0)), (3, .int (iI 0)), (0, .ref (M 100)), (1, .int (iI pl)), (2, .int (iI sp))]) hx hb dX3_sumAt_3 hl (by decide) rfl (fun ls hl => ?_)
  have lp5_1 : ∀ (nlp5_1 : Nat) (q : Int) (g : Int) (ls : Array Slot), (0 ≤ q ∧ q ≤ μ 14 0 + 600) → (lAt (vL μ) pl sp = g + lSum (lAtF (vL μ) pl) sp (μ 14 0) q) → (μ 14 0 + 600 - q < (nlp5_1 : Int)) → lv_has ls 5 [(4, .int (iI q)), (3, .int (iI g)), (0, .ref (M 100)), (1, .int (iI pl)), (2, .int (iI sp))] → W p l e ({ frames := 1, cells := 0, slots := 0, locals := 23 } : Room) s m ([.ref (M 100), .int (iI pl), .int (iI sp)] : List Value).toArray below meth c s.heap [] 0 0 (MQ below (vp_Si (fun r => r = iI (lAt (vL μ) pl sp))) ([.ref (M 100), .int (iI pl), .int (iI sp)] : List Value).toArray s 0 0 (fun _ => False)) (F0 m 5 ls []) := by
    intro nlp5_1
    induction nlp5_1 with
    | zero => intro q g ls hq1 hg hn hl; exact absurd hn (by omega)
    | succ nlp5_1 ihlp5_1 =>
      intro q g ls hq1 hg hn hl
      refine lv_iload hx hb dX3_sumAt_5 (lv_at hl 0 rfl) ?_
      refine lv_aload_n hx hb dX3_sumAt_7 rfl (lv_at hl 2 rfl) ?_
      refine va_get (D := D) (ci := 3) (v := .int (iI (μ 14 0))) (C := RX3) (T := TX3) (N := 17) hx hb hts (fun _ h => List.mem_cons_of_mem _ (List.mem_append_right _ h)) hown hK hP 0 rfl rfl 14 (by decide) (hts _ fl_X3_sumAt_112) (fun _ h9 => h9) rfl dX3_sumAt_8 ?_
      refine r_icmp_gt (tgt := 47) hx hb dX3_sumAt_11 (by decide) (by omega) (by omega) (fun h2 => ?_) (fun h2 => ?_)
      · -- 11 to 47
        refine lv_iload_n hx hb dX3_sumAt_47 rfl (lv_at hl 1 rfl) ?_
        exact r_ret hx hb hr hlocks dX3_sumAt_48 (by rw [hg, ls_end _ (by omega), Int.add_zero])
      · -- 11 to 14
        refine lv_iload_n hx hb dX3_sumAt_14 rfl (lv_at hl 1 rfl) ?_
        refine lv_aload_n hx hb dX3_sumAt_15 rfl (lv_at hl 2 rfl) ?_
        refine lv_iload hx hb dX3_sumAt_16 (lv_at hl 0 rfl) ?_
        refine lv_iload_n hx hb dX3_sumAt_18 rfl (lv_at hl 3 rfl) ?_
        refine r_icmp_ge (tgt := 29) hx hb dX3_sumAt_19 (by decide) (by omega) (by omega) (fun h3 => ?_) (fun h3 => ?_)
        · -- 19 to 29
          refine lv_iload hx hb dX3_sumAt_29 (lv_at hl 0 rfl) ?_
          refine lv_iload_n hx hb dX3_sumAt_31 rfl (lv_at hl 3 rfl) ?_
          refine r_isub hx hb dX3_sumAt_32 ?_
          refine r_calli (va_runV (As := [.int (iI (q - pl))]) (rest := [.int (iI g)]) ⟨hx, hb, hml, hown, hts⟩ (c_X3_lightAt l D cy M μ (q - pl) hI (by omega)) (cwV 1 hts gX3_sumAt_X3_lightAt rfl rfl rfl (by decide +kernel) ⟨Nat.le_of_ble_eq_true rfl, Nat.le_of_ble_eq_true rfl⟩) (pv_ro (C := RX3) (T := TX3) (N := 17) (ci := 3) (q0 := 0) hP hK rfl rfl) rfl rfl hl.1 rfl (lv_room (Nat.le_of_ble_eq_true rfl)) dX3_sumAt_33 ⟨Nat.le_of_ble_eq_true rfl, Nat.le_of_ble_eq_true rfl⟩) ?_
          have hf4 := lFrom_bd (τ := vL μ) hB13 (d := (q - pl)) (by omega)
          refine r_iadd hx hb dX3_sumAt_36 ?_
          refine lv_istore_n (lv' := [(3, .int (iI (g + (lFrom (vL μ) (q - pl))))), (4, .int (iI q)), (0, .ref (M 100)), (1, .int (iI pl)), (2, .int (iI sp))]) hx hb dX3_sumAt_37 rfl hl (by decide) rfl (fun ls hl => ?_)
          refine lv_iload hx hb dX3_sumAt_38 (lv_at hl 1 rfl) ?_
          refine lv_iload_n hx hb dX3_sumAt_40 rfl (lv_at hl 4 rfl) ?_
          refine r_iadd hx hb dX3_sumAt_41 ?_
          refine lv_istore (lv' := [(4, .int (iI (q + sp))), (3, .int (iI (g + (lFrom (vL μ) (q - pl))))), (0, .ref (M 100)), (1, .int (iI pl)), (2, .int (iI sp))]) hx hb dX3_sumAt_42 hl (by decide) rfl (fun ls hl => ?_)
          refine lv_goto (tgt := 5) hx hb dX3_sumAt_44 (by decide) ?_
          exact ihlp5_1 (q + sp) (g + (lFrom (vL μ) (q - pl))) ls (by omega) (by rw [hg, ls_step _ (by omega) (by omega), ← Int.add_assoc]; unfold lAtF; first | rw [show abZ (pl - q) = q - pl from by have hab := abZ_s (pl - q); omega] | rw [show abZ (pl - q) = pl - q from by have hab := abZ_s (pl - q); omega]) (by omega) (lv_sub hl [0, 1, 2, 3, 4] rfl)
        · -- 19 to 22
          refine lv_iload_n hx hb dX3_sumAt_22 rfl (lv_at hl 3 rfl) ?_
          refine lv_iload hx hb dX3_sumAt_23 (lv_at hl 0 rfl) ?_
          refine r_isub hx hb dX3_sumAt_25 ?_
          refine lv_goto (tgt := 33) hx hb dX3_sumAt_26 (by decide) ?_
          refine r_calli (va_runV (As := [.int (iI (pl - q))]) (rest := [.int (iI g)]) ⟨hx, hb, hml, hown, hts⟩ (c_X3_lightAt l D cy M μ (pl - q) hI (by omega)) (cwV 1 hts gX3_sumAt_X3_lightAt rfl rfl rfl (by decide +kernel) ⟨Nat.le_of_ble_eq_true rfl, Nat.le_of_ble_eq_true rfl⟩) (pv_ro (C := RX3) (T := TX3) (N := 17) (ci := 3) (q0 := 0) hP hK rfl rfl) rfl rfl hl.1 rfl (lv_room (Nat.le_of_ble_eq_true rfl)) dX3_sumAt_33 ⟨Nat.le_of_ble_eq_true rfl, Nat.le_of_ble_eq_true rfl⟩) ?_
          have hf5 := lFrom_bd (τ := vL μ) hB13 (d := (pl - q)) (by omega)
          refine r_iadd hx hb dX3_sumAt_36 ?_
          refine lv_istore_n (lv' := [(3, .int (iI (g + (lFrom (vL μ) (pl - q))))), (4, .int (iI q)), (0, .ref (M 100)), (1, .int (iI pl)), (2, .int (iI sp))]) hx hb dX3_sumAt_37 rfl hl (by decide) rfl (fun ls hl => ?_)
          refine lv_iload hx hb dX3_sumAt_38 (lv_at hl 1 rfl) ?_
          refine lv_iload_n hx hb dX3_sumAt_40 rfl (lv_at hl 4 rfl) ?_
          refine r_iadd hx hb dX3_sumAt_41 ?_
          refine lv_istore (lv' := [(4, .int (iI (q + sp))), (3, .int (iI (g + (lFrom (vL μ) (pl - q))))), (0, .ref (M 100)), (1, .int (iI pl)), (2, .int (iI sp))]) hx hb dX3_sumAt_42 hl (by decide) rfl (fun ls hl => ?_)
          refine lv_goto (tgt := 5) hx hb dX3_sumAt_44 (by decide) ?_
          exact ihlp5_1 (q + sp) (g + (lFrom (vL μ) (pl - q))) ls (by omega) (by rw [hg, ls_step _ (by omega) (by omega), ← Int.add_assoc]; unfold lAtF; first | rw [show abZ (pl - q) = q - pl from by have hab := abZ_s (pl - q); omega] | rw [show abZ (pl - q) = pl - q from by have hab := abZ_s (pl - q); omega]) (by omega) (lv_sub hl [0, 1, 2, 3, 4] rfl)
  exact lp5_1 _ 0 0 ls (by omega) (by rw [Int.zero_add]; exact (lAt_all (vL μ) hp1.1 hs1).symm) (lt_tn _) (lv_sub hl [0, 1, 2, 3, 4] rfl)
theorem fl_X3_meanOf_112 : Cond.fieldLink RX3 112 "NoiseLampsModel" "length" "I" ∈ wsX3_meanOf := by decide +kernel
set_option maxHeartbeats 4000000 in
set_option maxRecDepth 100000 in
theorem c_X3_meanOf (l : Launch) (D : va_G) (cy : ClassId) (M : Nat → Nat) (μ : Nat → Int → Int) (sp pc0 : Int) (hI : invM μ) (hs1 : 10 ≤ sp ∧ sp ≤ 600) (hp1 : 0 ≤ pc0 ∧ pc0 ≤ 100) : MetR l yX3_meanOf wsX3_meanOf ({ frames := 2, cells := 0, slots := 0, locals := 47 } : Room) D cy (wM cy M μ) ([.ref (M 100), .int (iI sp), .int (iI pc0)] : List Value) (rMean (vL μ) sp pc0) := by
  refine met_R (cc := cX3_meanOf) (maxL := 6) (ret := (some .int)) (by decide) rfl (Nat.le_of_ble_eq_true rfl) ?_
  intro p e s m below meth c hx hb hr hml hts hown hlocks hP hK ls hl
  have hown : s.vm.findClass RX3 = some m.cls := hown
  have hl : lv_has ls 6 [(0, .ref (M 100)), (1, .int (iI sp)), (2, .int (iI pc0))] := hl
  obtain ⟨hM0, hM4, hM8, hM11, hM14, hB1, hB2, hB3, hB5, hB6, hB7, hB9, hB10, hB12, hB13, hB15, hB16⟩ := id hI
  refine lv_lconst (v := jI 0) hx hb dX3_meanOf_0 (by decide +kernel) ?_
  refine lv_lstore_n (lv' := [(3, .long (jI 0)), (0, .ref (M 100)), (1, .int (iI sp)), (2, .int (iI pc0))]) hx hb dX3_meanOf_1 rfl hl (by decide) rfl (fun ls hl => ?_)
  refine lv_iconst (v := iI 0) hx hb dX3_meanOf_2 rfl ?_
  refine lv_istore (lv' := [(5, .int (iI 0)), (3, .long (jI 0)), (0, .ref (M 100)), (1, .int (iI sp)), (2, .int (iI pc0))]) hx hb dX3_meanOf_3 hl (by decide) rfl (fun ls hl => ?_)
  have lp5_1 : ∀ (nlp5_1 : Nat) (i : Int) (g : Int) (ls : Array Slot), (0 ≤ i ∧ i ≤ μ 14 0 + 10 ∧ i % 10 = 0) → (g = fo (lMeanF (su (vL μ) 2 (lG (vL μ) sp)) pc0) 0 (i / 10)) → (0 ≤ g ∧ g ≤ 7000000 * (i / 10)) → (μ 14 0 + 10 - i < (nlp5_1 : Int)) → lv_has ls 6 [(5, .int (iI i)), (3, .long (jI g)), (0, .ref (M 100)), (1, .int (iI sp)), (2, .int (iI pc0))] → W p l e ({ frames := 2, cells := 0, slots := 0, locals := 47 } : Room) s m ([.ref (M 100), .int (iI sp), .int (iI pc0)] : List Value).toArray below meth c s.heap [] 0 0 (MQ below (vp_Si (fun r => r = iI (rMean (vL μ) sp pc0))) ([.ref (M 100), .int (iI sp), .int (iI pc0)] : List Value).toArray s 0 0 (fun _ => False)) (F0 m 5 ls []) := by
    intro nlp5_1
    induction nlp5_1 with
    | zero => intro i g ls hi hg hgb hn hl; exact absurd hn (by omega)
    | succ nlp5_1 ihlp5_1 =>
      intro i g ls hi hg hgb hn hl
      refine lv_iload hx hb dX3_meanOf_5 (lv_at hl 0 rfl) ?_
      refine lv_aload_n hx hb dX3_meanOf_7 rfl (lv_at hl 2 rfl) ?_
      refine va_get (D := D) (ci := 3) (v := .int (iI (μ 14 0))) (C := RX3) (T := TX3) (N := 17) hx hb hts (fun _ h => List.mem_cons_of_mem _ (List.mem_append_right _ h)) hown hK hP 0 rfl rfl 14 (by decide) (hts _ fl_X3_meanOf_112) (fun _ h9 => h9) rfl dX3_meanOf_8 ?_
      refine r_icmp_gt (tgt := 38) hx hb dX3_meanOf_11 (by decide) (by omega) (by omega) (fun h2 => ?_) (fun h2 => ?_)
      · -- 11 to 38
        refine lv_lload_n hx hb dX3_meanOf_38 rfl (lv_at hl 1 rfl) ?_
        refine lv_aload_n hx hb dX3_meanOf_39 rfl (lv_at hl 2 rfl) ?_
        refine va_get (D := D) (ci := 3) (v := .int (iI (μ 14 0))) (C := RX3) (T := TX3) (N := 17) hx hb hts (fun _ h => List.mem_cons_of_mem _ (List.mem_append_right _ h)) hown hK hP 0 rfl rfl 14 (by decide) (hts _ fl_X3_meanOf_112) (fun _ h9 => h9) rfl dX3_meanOf_40 ?_
        refine lv_bipush (v := iI 10) hx hb dX3_meanOf_43 (by decide +kernel) ?_
        refine r_idiv hx hb dX3_meanOf_45 (by omega) (by omega) ?_
        refine lv_iconst (v := iI 1) hx hb dX3_meanOf_46 rfl ?_
        refine r_iadd hx hb dX3_meanOf_47 ?_
        refine r_i2l hx hb dX3_meanOf_48 (by omega) ?_
        refine r_ldiv hx hb dX3_meanOf_49 (by omega) (by omega) ?_
        refine r_l2i hx hb dX3_meanOf_50 ?_
        exact r_ret hx hb hr hlocks dX3_meanOf_51 (by rw [hg, show i / 10 = μ 14 0 / 10 + 1 from by omega]; rfl)
      · -- 11 to 14
        refine lv_lload_n hx hb dX3_meanOf_14 rfl (lv_at hl 1 rfl) ?_
        refine lv_aload_n hx hb dX3_meanOf_15 rfl (lv_at hl 2 rfl) ?_
        refine lv_iload hx hb dX3_meanOf_16 (lv_at hl 0 rfl) ?_
        refine lv_iload_n hx hb dX3_meanOf_18 rfl (lv_at hl 3 rfl) ?_
        refine r_calli (va_runV (As := [.int (iI i), .int (iI sp)]) (rest := [.long (jI g)]) ⟨hx, hb, hml, hown, hts⟩ (c_X3_sumAt l D cy M μ i sp hI (by omega) (by omega)) (cwV 2 hts gX3_meanOf_X3_sumAt rfl rfl rfl (by decide +kernel) ⟨Nat.le_of_ble_eq_true rfl, Nat.le_of_ble_eq_true rfl⟩) (pv_ro (C := RX3) (T := TX3) (N := 17) (ci := 3) (q0 := 0) hP hK rfl rfl) rfl rfl hl.1 rfl (lv_room (Nat.le_of_ble_eq_true rfl)) dX3_meanOf_19 ⟨Nat.le_of_ble_eq_true rfl, Nat.le_of_ble_eq_true rfl⟩) ?_
        have hf3 := lAt_bd (invL_vL hI) (pl := i) (sp := sp) (by omega) (by omega)
        refine r_i2l hx hb dX3_meanOf_22 (by omega) ?_
        refine lv_iload_n hx hb dX3_meanOf_23 rfl (lv_at hl 4 rfl) ?_
        refine r_i2l hx hb dX3_meanOf_24 (by omega) ?_
        have hm0 := mul_bd (a := (lAt (vL μ) i sp)) (b := pc0) (A := 7000000) (B := 100) (by omega) (by omega)
        refine r_lmul hx hb dX3_meanOf_25 ?_
        refine lv_ldc2 (v := jI 100) hx hb hown (by rw [show jI 100 = 100 from by decide +kernel]; exact hts (.constantLong RX3 121 (100)) (by decide +kernel)) dX3_meanOf_26 ?_
        refine r_ldiv hx hb dX3_meanOf_29 (by omega) (by omega) ?_
        refine r_ladd hx hb dX3_meanOf_30 ?_
        refine lv_lstore_n (lv' := [(3, .long (jI (g + (((lAt (vL μ) i sp) * pc0) / 100)))), (5, .int (iI i)), (0, .ref (M 100)), (1, .int (iI sp)), (2, .int (iI pc0))]) hx hb dX3_meanOf_31 rfl hl (by decide) rfl (fun ls hl => ?_)
        refine r_iinc (a := i) (b := (i + 10)) (lv2 := [(5, .int (iI (i + 10))), (3, .long (jI (g + (((lAt (vL μ) i sp) * pc0) / 100)))), (0, .ref (M 100)), (1, .int (iI sp)), (2, .int (iI pc0))]) hx hb dX3_meanOf_32 hl (k := 1) rfl (by omega) (by decide) rfl (fun ls hl => ?_)
        refine lv_goto (tgt := 5) hx hb dX3_meanOf_35 (by decide) ?_
        exact ihlp5_1 (i + 10) (g + (((lAt (vL μ) i sp) * pc0) / 100)) ls (by omega) (by rw [show (i + 10) / 10 = i / 10 + 1 from by omega, fo_s _ _ (by omega), ← hg]; show _ = g + lAt (vL μ) (i / 10 * 10) sp * pc0 / 100; rw [show i / 10 * 10 = i from by omega]) (by rw [show (i + 10) / 10 = i / 10 + 1 from by omega]; omega) (by omega) (lv_sub hl [0, 1, 2, 3, 4] rfl)
  exact lp5_1 _ 0 0 ls (by omega) rfl (by omega) (lt_tn _) (lv_sub hl [0, 1, 2, 3, 4] rfl)
theorem fl_X3_leastOf_112 : Cond.fieldLink RX3 112 "NoiseLampsModel" "length" "I" ∈ wsX3_leastOf := by decide +kernel
set_option maxHeartbeats 4000000 in
set_option maxRecDepth 100000 in
theorem c_X3_leastOf (l : Launch) (D : va_G) (cy : ClassId) (M : Nat → Nat) (μ : Nat → Int → Int) (sp : Int) (hI : invM μ) (hs1 : 10 ≤ sp ∧ sp ≤ 600) : MetR l yX3_leastOf wsX3_leastOf ({ frames := 2, cells := 0, slots := 0, locals := 47 } : Room) D cy (wM cy M μ) ([.ref (M 100), .int (iI sp)] : List Value) (rLst (vL μ) sp) := by
  refine met_R (cc := cX3_leastOf) (maxL := 5) (ret := (some .int)) (by decide) rfl (Nat.le_of_ble_eq_true rfl) ?_
  intro p e s m below meth c hx hb hr hml hts hown hlocks hP hK ls hl
  have hown : s.vm.findClass RX3 = some m.cls := hown
  have hl : lv_has ls 5 [(0, .ref (M 100)), (1, .int (iI sp))] := hl
  obtain ⟨hM0, hM4, hM8, hM11, hM14, hB1, hB2, hB3, hB5, hB6, hB7, hB9, hB10, hB12, hB13, hB15, hB16⟩ := id hI
  refine lv_aload_n hx hb dX3_leastOf_0 rfl (lv_at hl 0 rfl) ?_
  refine lv_iconst (v := iI 0) hx hb dX3_leastOf_1 rfl ?_
  refine lv_iload_n hx hb dX3_leastOf_2 rfl (lv_at hl 1 rfl) ?_
  refine r_calli (va_runV (As := [.int (iI 0), .int (iI sp)]) (rest := []) ⟨hx, hb, hml, hown, hts⟩ (c_X3_sumAt l D cy M μ 0 sp hI (by omega) (by omega)) (cwV 2 hts gX3_leastOf_X3_sumAt rfl rfl rfl (by decide +kernel) ⟨Nat.le_of_ble_eq_true rfl, Nat.le_of_ble_eq_true rfl⟩) (pv_ro (C := RX3) (T := TX3) (N := 17) (ci := 3) (q0 := 0) hP hK rfl rfl) rfl rfl hl.1 rfl (lv_room (Nat.le_of_ble_eq_true rfl)) dX3_leastOf_3 ⟨Nat.le_of_ble_eq_true rfl, Nat.le_of_ble_eq_true rfl⟩) ?_
  have hf1 := lAt_bd (invL_vL hI) (pl := 0) (sp := sp) (by omega) (by omega)
  refine lv_istore_n (lv' := [(2, .int (iI (lAt (vL μ) 0 sp))), (0, .ref (M 100)), (1, .int (iI sp))]) hx hb dX3_leastOf_6 rfl hl (by decide) rfl (fun ls hl => ?_)
  refine lv_bipush (v := iI 10) hx hb dX3_leastOf_7 (by decide +kernel) ?_
  refine lv_istore_n (lv' := [(3, .int (iI 10)), (2, .int (iI (lAt (vL μ) 0 sp))), (0, .ref (M 100)), (1, .int (iI sp))]) hx hb dX3_leastOf_9 rfl hl (by decide) rfl (fun ls hl => ?_)
  have lp10_2 : ∀ (nlp10_2 : Nat) (i : Int) (g : Int) (ls : Array Slot), (10 ≤ i ∧ i ≤ μ 14 0 + 10 ∧ i % 10 = 0) → (g = fo (lLstF (su (vL μ) 2 (lG (vL μ) sp))) (lG (vL μ) sp 0) (i / 10 - 1)) → (0 ≤ g ∧ g ≤ 7000000) → (μ 14 0 + 10 - i < (nlp10_2 : Int)) → lv_has ls 5 [(3, .int (iI i)), (2, .int (iI g)), (0, .ref (M 100)), (1, .int (iI sp))] → W p l e ({ frames := 2, cells := 0, slots := 0, locals := 47 } : Room) s m ([.ref (M 100), .int (iI sp)] : List Value).toArray below meth c s.heap [] 0 0 (MQ below (vp_Si (fun r => r = iI (rLst (vL μ) sp))) ([.ref (M 100), .int (iI sp)] : List Value).toArray s 0 0 (fun _ => False)) (F0 m 10 ls []) := by
    intro nlp10_2
    induction nlp10_2 with
    | zero => intro i g ls hi hg hgb hn hl; exact absurd hn (by omega)
    | succ nlp10_2 ihlp10_2 =>
      intro i g ls hi hg hgb hn hl
      refine lv_iload_n hx hb dX3_leastOf_10 rfl (lv_at hl 0 rfl) ?_
      refine lv_aload_n hx hb dX3_leastOf_11 rfl (lv_at hl 2 rfl) ?_
      refine va_get (D := D) (ci := 3) (v := .int (iI (μ 14 0))) (C := RX3) (T := TX3) (N := 17) hx hb hts (fun _ h => List.mem_cons_of_mem _ (List.mem_append_right _ h)) hown hK hP 0 rfl rfl 14 (by decide) (hts _ fl_X3_leastOf_112) (fun _ h9 => h9) rfl dX3_leastOf_12 ?_
      refine r_icmp_gt (tgt := 45) hx hb dX3_leastOf_15 (by decide) (by omega) (by omega) (fun h3 => ?_) (fun h3 => ?_)
      · -- 15 to 45
        refine lv_iload_n hx hb dX3_leastOf_45 rfl (lv_at hl 1 rfl) ?_
        exact r_ret hx hb hr hlocks dX3_leastOf_46 (by rw [hg, show i / 10 - 1 = μ 14 0 / 10 from by omega]; rfl)
      · -- 15 to 18
        refine lv_aload_n hx hb dX3_leastOf_18 rfl (lv_at hl 2 rfl) ?_
        refine lv_iload_n hx hb dX3_leastOf_19 rfl (lv_at hl 0 rfl) ?_
        refine lv_iload_n hx hb dX3_leastOf_20 rfl (lv_at hl 3 rfl) ?_
        refine r_calli (va_runV (As := [.int (iI i), .int (iI sp)]) (rest := []) ⟨hx, hb, hml, hown, hts⟩ (c_X3_sumAt l D cy M μ i sp hI (by omega) (by omega)) (cwV 2 hts gX3_leastOf_X3_sumAt rfl rfl rfl (by decide +kernel) ⟨Nat.le_of_ble_eq_true rfl, Nat.le_of_ble_eq_true rfl⟩) (pv_ro (C := RX3) (T := TX3) (N := 17) (ci := 3) (q0 := 0) hP hK rfl rfl) rfl rfl hl.1 rfl (lv_room (Nat.le_of_ble_eq_true rfl)) dX3_leastOf_21 ⟨Nat.le_of_ble_eq_true rfl, Nat.le_of_ble_eq_true rfl⟩) ?_
        have hf4 := lAt_bd (invL_vL hI) (pl := i) (sp := sp) (by omega) (by omega)
        refine lv_istore (lv' := [(4, .int (iI (lAt (vL μ) i sp))), (3, .int (iI i)), (2, .int (iI g)), (0, .ref (M 100)), (1, .int (iI sp))]) hx hb dX3_leastOf_24 hl (by decide) rfl (fun ls hl => ?_)
        refine lv_iload hx hb dX3_leastOf_26 (lv_at hl 0 rfl) ?_
        refine lv_iload_n hx hb dX3_leastOf_28 rfl (lv_at hl 2 rfl) ?_
        refine r_icmp_ge (tgt := 37) hx hb dX3_leastOf_29 (by decide) (by omega) (by omega) (fun h5 => ?_) (fun h5 => ?_)
        · -- 29 to 37
          refine lv_iload_n hx hb dX3_leastOf_37 rfl (lv_at hl 2 rfl) ?_
          refine lv_istore_n (lv' := [(2, .int (iI g)), (4, .int (iI (lAt (vL μ) i sp))), (3, .int (iI i)), (0, .ref (M 100)), (1, .int (iI sp))]) hx hb dX3_leastOf_38 rfl hl (by decide) rfl (fun ls hl => ?_)
          refine r_iinc (a := i) (b := (i + 10)) (lv2 := [(3, .int (iI (i + 10))), (2, .int (iI g)), (4, .int (iI (lAt (vL μ) i sp))), (0, .ref (M 100)), (1, .int (iI sp))]) hx hb dX3_leastOf_39 hl (k := 2) rfl (by omega) (by decide) rfl (fun ls hl => ?_)
          refine lv_goto (tgt := 10) hx hb dX3_leastOf_42 (by decide) ?_
          exact ihlp10_2 (i + 10) g ls (by omega) (by rw [show (i + 10) / 10 - 1 = (i / 10 - 1) + 1 from by omega, fo_s _ _ (by omega), ← hg]; show _ = mnZ g (lAt (vL μ) ((1 + (i / 10 - 1)) * 10) sp); rw [show (1 + (i / 10 - 1)) * 10 = i from by omega]; have hx0 := mnZ_s g (lAt (vL μ) i sp); omega) (by omega) (by omega) (lv_sub hl [0, 1, 3, 4] rfl)
        · -- 29 to 32
          refine lv_iload hx hb dX3_leastOf_32 (lv_at hl 0 rfl) ?_
          refine lv_goto (tgt := 38) hx hb dX3_leastOf_34 (by decide) ?_
          refine lv_istore_n (lv' := [(2, .int (iI (lAt (vL μ) i sp))), (4, .int (iI (lAt (vL μ) i sp))), (3, .int (iI i)), (0, .ref (M 100)), (1, .int (iI sp))]) hx hb dX3_leastOf_38 rfl hl (by decide) rfl (fun ls hl => ?_)
          refine r_iinc (a := i) (b := (i + 10)) (lv2 := [(3, .int (iI (i + 10))), (2, .int (iI (lAt (vL μ) i sp))), (4, .int (iI (lAt (vL μ) i sp))), (0, .ref (M 100)), (1, .int (iI sp))]) hx hb dX3_leastOf_39 hl (k := 2) rfl (by omega) (by decide) rfl (fun ls hl => ?_)
          refine lv_goto (tgt := 10) hx hb dX3_leastOf_42 (by decide) ?_
          exact ihlp10_2 (i + 10) (lAt (vL μ) i sp) ls (by omega) (by rw [show (i + 10) / 10 - 1 = (i / 10 - 1) + 1 from by omega, fo_s _ _ (by omega), ← hg]; show _ = mnZ g (lAt (vL μ) ((1 + (i / 10 - 1)) * 10) sp); rw [show (1 + (i / 10 - 1)) * 10 = i from by omega]; have hx0 := mnZ_s g (lAt (vL μ) i sp); omega) (by omega) (by omega) (lv_sub hl [0, 1, 3, 4] rfl)
  exact lp10_2 _ 10 (lAt (vL μ) 0 sp) ls (by omega) rfl (by omega) (lt_tn _) (lv_sub hl [0, 1, 2, 3] rfl)
set_option maxHeartbeats 4000000 in
set_option maxRecDepth 100000 in
theorem c_X3_evenness (l : Launch) (D : va_G) (cy : ClassId) (M : Nat → Nat) (μ : Nat → Int → Int) (sp : Int) (hI : invM μ) (hs1 : 10 ≤ sp ∧ sp ≤ 600) : MetR l yX3_evenness wsX3_evenness ({ frames := 3, cells := 0, slots := 0, locals := 72 } : Room) D cy (wM cy M μ) ([.ref (M 100), .int (iI sp)] : List Value) (rEven (vL μ) sp) := by
  refine met_R (cc := cX3_evenness) (maxL := 3) (ret := (some .int)) (by decide) rfl (Nat.le_of_ble_eq_true rfl) ?_
  intro p e s m below meth c hx hb hr hml hts hown hlocks hP hK ls hl
  have hown : s.vm.findClass RX3 = some m.cls := hown
  have hl : lv_has ls 3 [(0, .ref (M 100)), (1, .int (iI sp))] := hl
  obtain ⟨hM0, hM4, hM8, hM11, hM14, hB1, hB2, hB3, hB5, hB6, hB7, hB9, hB10, hB12, hB13, hB15, hB16⟩ := id hI
  refine lv_aload_n hx hb dX3_evenness_0 rfl (lv_at hl 0 rfl) ?_
  refine lv_iload_n hx hb dX3_evenness_1 rfl (lv_at hl 1 rfl) ?_
  refine lv_bipush (v := iI 100) hx hb dX3_evenness_2 (by decide +kernel) ?_
  refine r_calli (va_runV (As := [.int (iI sp), .int (iI 100)]) (rest := []) ⟨hx, hb, hml, hown, hts⟩ (c_X3_meanOf l D cy M μ sp 100 hI (by omega) (by omega)) (cwV 2 hts gX3_evenness_X3_meanOf rfl rfl rfl (by decide +kernel) ⟨Nat.le_of_ble_eq_true rfl, Nat.le_of_ble_eq_true rfl⟩) (pv_ro (C := RX3) (T := TX3) (N := 17) (ci := 3) (q0 := 0) hP hK rfl rfl) rfl rfl hl.1 rfl (lv_room (Nat.le_of_ble_eq_true rfl)) dX3_evenness_4 ⟨Nat.le_of_ble_eq_true rfl, Nat.le_of_ble_eq_true rfl⟩) ?_
  have hf1 := lMean_bd (τ := su (vL μ) 2 (lG (vL μ) sp)) (invL_2 (invL_vL hI) (fun k => lG_bd (invL_vL hI) (by omega) k)) (pc := 100) (by omega)
  have hf2c : rMean (vL μ) sp 100 = lMean (su (vL μ) 2 (lG (vL μ) sp)) 100 := rfl
  refine lv_istore_n (lv' := [(2, .int (iI (rMean (vL μ) sp 100))), (0, .ref (M 100)), (1, .int (iI sp))]) hx hb dX3_evenness_7 rfl hl (by decide) rfl (fun ls hl => ?_)
  refine lv_iload_n hx hb dX3_evenness_8 rfl (lv_at hl 0 rfl) ?_
  refine r_if_ne (tgt := 16) hx hb dX3_evenness_9 (by decide) (by omega) (fun h3 => ?_) (fun h3 => ?_)
  · -- 9 to 16
    refine lv_ldc2 (v := jI 1000) hx hb hown (by rw [show jI 1000 = 1000 from by decide +kernel]; exact hts (.constantLong RX3 126 (1000)) (by decide +kernel)) dX3_evenness_16 ?_
    refine lv_aload_n hx hb dX3_evenness_19 rfl (lv_at hl 1 rfl) ?_
    refine lv_iload_n hx hb dX3_evenness_20 rfl (lv_at hl 2 rfl) ?_
    refine r_calli (va_runV (As := [.int (iI sp)]) (rest := [.long (jI 1000)]) ⟨hx, hb, hml, hown, hts⟩ (c_X3_leastOf l D cy M μ sp hI (by omega)) (cwV 1 hts gX3_evenness_X3_leastOf rfl rfl rfl (by decide +kernel) ⟨Nat.le_of_ble_eq_true rfl, Nat.le_of_ble_eq_true rfl⟩) (pv_ro (C := RX3) (T := TX3) (N := 17) (ci := 3) (q0 := 0) hP hK rfl rfl) rfl rfl hl.1 rfl (lv_room (Nat.le_of_ble_eq_true rfl)) dX3_evenness_21 ⟨Nat.le_of_ble_eq_true rfl, Nat.le_of_ble_eq_true rfl⟩) ?_
    have hf4 := lLst_bd (τ := su (vL μ) 2 (lG (vL μ) sp)) (invL_2 (invL_vL hI) (fun k => lG_bd (invL_vL hI) (by omega) k))
    have hf5c : rLst (vL μ) sp = lLst (su (vL μ) 2 (lG (vL μ) sp)) := rfl
    refine r_i2l hx hb dX3_evenness_24 (by omega) ?_
    refine r_lmul hx hb dX3_evenness_25 ?_
    refine lv_iload_n hx hb dX3_evenness_26 rfl (lv_at hl 0 rfl) ?_
    refine r_i2l hx hb dX3_evenness_27 (by omega) ?_
    refine r_ldiv hx hb dX3_evenness_28 (by omega) (by omega) ?_
    refine r_l2i hx hb dX3_evenness_29 ?_
    exact r_ret hx hb hr hlocks dX3_evenness_30 (by show _ = lEven (su (vL μ) 2 (lG (vL μ) sp)); unfold lEven; first | (rw [if_pos (by omega)]) | (rw [if_neg (by omega), Int.mul_comm (lLst _) 1000]; rfl))
  · -- 9 to 12
    refine lv_iconst (v := iI 0) hx hb dX3_evenness_12 rfl ?_
    refine lv_goto (tgt := 30) hx hb dX3_evenness_13 (by decide) ?_
    exact r_ret hx hb hr hlocks dX3_evenness_30 (by show _ = lEven (su (vL μ) 2 (lG (vL μ) sp)); unfold lEven; first | (rw [if_pos (by omega)]) | (rw [if_neg (by omega), Int.mul_comm (lLst _) 1000]; rfl))
theorem fl_X3_poles_112 : Cond.fieldLink RX3 112 "NoiseLampsModel" "length" "I" ∈ wsX3_poles := by decide +kernel
set_option maxHeartbeats 4000000 in
set_option maxRecDepth 100000 in
theorem c_X3_poles (l : Launch) (D : va_G) (cy : ClassId) (M : Nat → Nat) (μ : Nat → Int → Int) (sp : Int) (hI : invM μ) (hs1 : 10 ≤ sp ∧ sp ≤ 600) : MetR l yX3_poles wsX3_poles ({ frames := 0, cells := 0, slots := 0, locals := 0 } : Room) D cy (wM cy M μ) ([.ref (M 100), .int (iI sp)] : List Value) (μ 14 0 / sp + 1) := by
  refine met_R (cc := cX3_poles) (maxL := 2) (ret := (some .int)) (by decide) rfl (Nat.le_of_ble_eq_true rfl) ?_
  intro p e s m below meth c hx hb hr hml hts hown hlocks hP hK ls hl
  have hown : s.vm.findClass RX3 = some m.cls := hown
  have hl : lv_has ls 2 [(0, .ref (M 100)), (1, .int (iI sp))] := hl
  obtain ⟨hM0, hM4, hM8, hM11, hM14, hB1, hB2, hB3, hB5, hB6, hB7, hB9, hB10, hB12, hB13, hB15, hB16⟩ := id hI
  have hpo := pol_bd hM14 hs1.1
  refine lv_aload_n hx hb dX3_poles_0 rfl (lv_at hl 0 rfl) ?_
  refine va_get (D := D) (ci := 3) (v := .int (iI (μ 14 0))) (C := RX3) (T := TX3) (N := 17) hx hb hts (fun _ h => List.mem_cons_of_mem _ (List.mem_append_right _ h)) hown hK hP 0 rfl rfl 14 (by decide) (hts _ fl_X3_poles_112) (fun _ h9 => h9) rfl dX3_poles_1 ?_
  refine lv_iload_n hx hb dX3_poles_4 rfl (lv_at hl 1 rfl) ?_
  refine r_idiv hx hb dX3_poles_5 (by omega) (by omega) ?_
  refine lv_iconst (v := iI 1) hx hb dX3_poles_6 rfl ?_
  refine r_iadd hx hb dX3_poles_7 ?_
  exact r_ret hx hb hr hlocks dX3_poles_8 rfl
set_option maxHeartbeats 4000000 in
set_option maxRecDepth 100000 in
theorem c_X3_spacing (l : Launch) (D : va_G) (cy : ClassId) (M : Nat → Nat) (μ : Nat → Int → Int) (a b : Int) (hI : invM μ) (ha : I32 a) (hb0 : I32 b) : MetR l yX3_spacing wsX3_spacing ({ frames := 4, cells := 0, slots := 0, locals := 94 } : Room) D cy (wM cy M μ) ([.ref (M 100), .int (iI a), .int (iI b)] : List Value) (lWide (vL μ) a b) := by
  refine met_R (cc := cX3_spacing) (maxL := 4) (ret := (some .int)) (by decide) rfl (Nat.le_of_ble_eq_true rfl) ?_
  intro p e s m below meth c hx hb hr hml hts hown hlocks hP hK ls hl
  have hown : s.vm.findClass RX3 = some m.cls := hown
  have hl : lv_has ls 4 [(0, .ref (M 100)), (1, .int (iI a)), (2, .int (iI b))] := hl
  obtain ⟨hM0, hM4, hM8, hM11, hM14, hB1, hB2, hB3, hB5, hB6, hB7, hB9, hB10, hB12, hB13, hB15, hB16⟩ := id hI
  refine lv_sipush (v := iI 600) hx hb dX3_spacing_0 (by decide +kernel) ?_
  refine lv_istore_n (lv' := [(3, .int (iI 600)), (0, .ref (M 100)), (1, .int (iI a)), (2, .int (iI b))]) hx hb dX3_spacing_3 rfl hl (by decide) rfl (fun ls hl => ?_)
  have lp4_1 : ∀ (nlp4_1 : Nat) (i : Int) (ls : Array Slot), (0 ≤ i ∧ i ≤ 600 ∧ i % 10 = 0) → (lWide (vL μ) a b = ft (fun j => decide (a ≤ rMean (vL μ) (600 - 10 * j) 100 ∧ b ≤ rEven (vL μ) (600 - 10 * j))) (fun j => 600 - 10 * j) (-1) ((600 - i) / 10) 60) → (i < (nlp4_1 : Int)) → lv_has ls 4 [(3, .int (iI i)), (0, .ref (M 100)), (1, .int (iI a)), (2, .int (iI b))] → W p l e ({ frames := 4, cells := 0, slots := 0, locals := 94 } : Room) s m ([.ref (M 100), .int (iI a), .int (iI b)] : List Value).toArray below meth c s.heap [] 0 0 (MQ below (vp_Si (fun r => r = iI (lWide (vL μ) a b))) ([.ref (M 100), .int (iI a), .int (iI b)] : List Value).toArray s 0 0 (fun _ => False)) (F0 m 4 ls []) := by
    intro nlp4_1
    induction nlp4_1 with
    | zero => intro i ls hi hr1 hn hl; exact absurd hn (by omega)
    | succ nlp4_1 ihlp4_1 =>
      intro i ls hi hr1 hn hl
      refine lv_iload_n hx hb dX3_spacing_4 rfl (lv_at hl 0 rfl) ?_
      refine r_if_le (tgt := 36) hx hb dX3_spacing_5 (by decide) (by omega) (fun h2 => ?_) (fun h2 => ?_)
      · -- 5 to 36
        refine lv_iconst (v := iI (-1)) hx hb dX3_spacing_36 rfl ?_
        exact r_ret hx hb hr hlocks dX3_spacing_37 (by rw [hr1, ft_end _ _ _ (by omega)])
      · -- 5 to 8
        refine lv_aload_n hx hb dX3_spacing_8 rfl (lv_at hl 1 rfl) ?_
        refine lv_iload_n hx hb dX3_spacing_9 rfl (lv_at hl 0 rfl) ?_
        refine lv_bipush (v := iI 100) hx hb dX3_spacing_10 (by decide +kernel) ?_
        refine r_calli (va_runV (As := [.int (iI i), .int (iI 100)]) (rest := []) ⟨hx, hb, hml, hown, hts⟩ (c_X3_meanOf l D cy M μ i 100 hI (by omega) (by omega)) (cwV 2 hts gX3_spacing_X3_meanOf rfl rfl rfl (by decide +kernel) ⟨Nat.le_of_ble_eq_true rfl, Nat.le_of_ble_eq_true rfl⟩) (pv_ro (C := RX3) (T := TX3) (N := 17) (ci := 3) (q0 := 0) hP hK rfl rfl) rfl rfl hl.1 rfl (lv_room (Nat.le_of_ble_eq_true rfl)) dX3_spacing_12 ⟨Nat.le_of_ble_eq_true rfl, Nat.le_of_ble_eq_true rfl⟩) ?_
        have hf3 := lMean_bd (τ := su (vL μ) 2 (lG (vL μ) i)) (invL_2 (invL_vL hI) (fun k => lG_bd (invL_vL hI) (by omega) k)) (pc := 100) (by omega)
        have hf4c : rMean (vL μ) i 100 = lMean (su (vL μ) 2 (lG (vL μ) i)) 100 := rfl
        refine lv_iload_n hx hb dX3_spacing_15 rfl (lv_at hl 2 rfl) ?_
        refine r_icmp_lt (tgt := 30) hx hb dX3_spacing_16 (by decide) (by omega) (by omega) (fun h5 => ?_) (fun h5 => ?_)
        · -- 16 to 30
          refine r_iinc (a := i) (b := (i + (-10))) (lv2 := [(3, .int (iI (i + (-10)))), (0, .ref (M 100)), (1, .int (iI a)), (2, .int (iI b))]) hx hb dX3_spacing_30 hl (k := 0) rfl (by omega) (by decide) rfl (fun ls hl => ?_)
          refine lv_goto (tgt := 4) hx hb dX3_spacing_33 (by decide) ?_
          exact ihlp4_1 (i + (-10)) ls (by omega) (by rw [hr1, ft_miss _ _ _ (by omega) (decide_eq_false (by rw [show 600 - 10 * ((600 - i) / 10) = i from by omega]; omega)), show (600 - (i + (-10))) / 10 = (600 - i) / 10 + 1 from by omega]) (by omega) (lv_sub hl [0, 1, 2, 3] rfl)
        · -- 16 to 19
          refine lv_aload_n hx hb dX3_spacing_19 rfl (lv_at hl 1 rfl) ?_
          refine lv_iload_n hx hb dX3_spacing_20 rfl (lv_at hl 0 rfl) ?_
          refine r_calli (va_runV (As := [.int (iI i)]) (rest := []) ⟨hx, hb, hml, hown, hts⟩ (c_X3_evenness l D cy M μ i hI (by omega)) (cwV 1 hts gX3_spacing_X3_evenness rfl rfl rfl (by decide +kernel) ⟨Nat.le_of_ble_eq_true rfl, Nat.le_of_ble_eq_true rfl⟩) (pv_ro (C := RX3) (T := TX3) (N := 17) (ci := 3) (q0 := 0) hP hK rfl rfl) rfl rfl hl.1 rfl (lv_room (Nat.le_of_ble_eq_true rfl)) dX3_spacing_21 ⟨Nat.le_of_ble_eq_true rfl, Nat.le_of_ble_eq_true rfl⟩) ?_
          have hf6 := lEven_bd (τ := su (vL μ) 2 (lG (vL μ) i)) (invL_2 (invL_vL hI) (fun k => lG_bd (invL_vL hI) (by omega) k))
          have hf7c : rEven (vL μ) i = lEven (su (vL μ) 2 (lG (vL μ) i)) := rfl
          refine lv_iload_n hx hb dX3_spacing_24 rfl (lv_at hl 3 rfl) ?_
          refine r_icmp_lt (tgt := 30) hx hb dX3_spacing_25 (by decide) (by omega) (by omega) (fun h8 => ?_) (fun h8 => ?_)
          · -- 25 to 30
            refine r_iinc (a := i) (b := (i + (-10))) (lv2 := [(3, .int (iI (i + (-10)))), (0, .ref (M 100)), (1, .int (iI a)), (2, .int (iI b))]) hx hb dX3_spacing_30 hl (k := 0) rfl (by omega) (by decide) rfl (fun ls hl => ?_)
            refine lv_goto (tgt := 4) hx hb dX3_spacing_33 (by decide) ?_
            exact ihlp4_1 (i + (-10)) ls (by omega) (by rw [hr1, ft_miss _ _ _ (by omega) (decide_eq_false (by rw [show 600 - 10 * ((600 - i) / 10) = i from by omega]; omega)), show (600 - (i + (-10))) / 10 = (600 - i) / 10 + 1 from by omega]) (by omega) (lv_sub hl [0, 1, 2, 3] rfl)
          · -- 25 to 28
            refine lv_iload_n hx hb dX3_spacing_28 rfl (lv_at hl 0 rfl) ?_
            exact r_ret hx hb hr hlocks dX3_spacing_29 (by rw [hr1, ft_hit _ _ _ (by omega) (decide_eq_true (by rw [show 600 - 10 * ((600 - i) / 10) = i from by omega]; omega))]; omega)
  exact lp4_1 _ 600 ls (by omega) rfl (lt_tn _) (lv_sub hl [0, 1, 2, 3] rfl)
theorem fl_X3_dark_44 : Cond.fieldLink RX3 44 "NoiseLampsModel" "dims" "[I" ∈ wsX3_dark := by decide +kernel
set_option maxHeartbeats 4000000 in
set_option maxRecDepth 100000 in
theorem c_X3_dark (l : Launch) (D : va_G) (cy : ClassId) (M : Nat → Nat) (μ : Nat → Int → Int) (sp a : Int) (hI : invM μ) (hs0 : I32 sp) (ha : I32 a) : MetR l yX3_dark wsX3_dark ({ frames := 3, cells := 0, slots := 0, locals := 72 } : Room) D cy (wM cy M μ) ([.ref (M 100), .int (iI sp), .int (iI a)] : List Value) (if 10 ≤ sp ∧ sp ≤ 600 then lDark (vL μ) sp a else -1) := by
  refine met_R (cc := cX3_dark) (maxL := 5) (ret := (some .int)) (by decide) rfl (Nat.le_of_ble_eq_true rfl) ?_
  intro p e s m below meth c hx hb hr hml hts hown hlocks hP hK ls hl
  have hown : s.vm.findClass RX3 = some m.cls := hown
  have hl : lv_has ls 5 [(0, .ref (M 100)), (1, .int (iI sp)), (2, .int (iI a))] := hl
  obtain ⟨hM0, hM4, hM8, hM11, hM14, hB1, hB2, hB3, hB5, hB6, hB7, hB9, hB10, hB12, hB13, hB15, hB16⟩ := id hI
  refine lv_iload_n hx hb dX3_dark_0 rfl (lv_at hl 1 rfl) ?_
  refine r_calli (va_runS (As := [.int (iI sp)]) (rest := []) ⟨hx, hb, hml, hown, hts⟩ (c_X3_isSpacing l  sp (by omega)) (va_cwS 1 hts gX3_dark_X3_isSpacing rfl rfl rfl (by decide +kernel) ⟨Nat.le_of_ble_eq_true rfl, Nat.le_of_ble_eq_true rfl⟩) ps_T rfl rfl hl.1 rfl (lv_room (Nat.le_of_ble_eq_true rfl)) dX3_dark_1 ⟨Nat.le_of_ble_eq_true rfl, Nat.le_of_ble_eq_true rfl⟩) ?_
  refine r_ifB_ne (tgt := 9) hx hb dX3_dark_4 (by decide) (fun h1 => ?_) (fun h1 => ?_)
  · -- 4 to 9
    refine lv_iconst (v := iI 0) hx hb dX3_dark_9 rfl ?_
    refine lv_istore_n (lv' := [(3, .int (iI 0)), (0, .ref (M 100)), (1, .int (iI sp)), (2, .int (iI a))]) hx hb dX3_dark_10 rfl hl (by decide) rfl (fun ls hl => ?_)
    refine lv_iconst (v := iI 0) hx hb dX3_dark_11 rfl ?_
    refine lv_istore (lv' := [(4, .int (iI 0)), (3, .int (iI 0)), (0, .ref (M 100)), (1, .int (iI sp)), (2, .int (iI a))]) hx hb dX3_dark_12 hl (by decide) rfl (fun ls hl => ?_)
    have lp14_2 : ∀ (nlp14_2 : Nat) (i : Int) (g : Int) (ls : Array Slot), (0 ≤ i ∧ i ≤ 24) → (g = fo (lDarkF (vL μ) sp a) 0 i) → (24 - i < (nlp14_2 : Int)) → lv_has ls 5 [(4, .int (iI i)), (3, .int (iI g)), (0, .ref (M 100)), (1, .int (iI sp)), (2, .int (iI a))] → W p l e ({ frames := 3, cells := 0, slots := 0, locals := 72 } : Room) s m ([.ref (M 100), .int (iI sp), .int (iI a)] : List Value).toArray below meth c s.heap [] 0 0 (MQ below (vp_Si (fun r => r = iI (if 10 ≤ sp ∧ sp ≤ 600 then lDark (vL μ) sp a else -1))) ([.ref (M 100), .int (iI sp), .int (iI a)] : List Value).toArray s 0 0 (fun _ => False)) (F0 m 14 ls []) := by
      intro nlp14_2
      induction nlp14_2 with
      | zero => intro i g ls hi hg hn hl; exact absurd hn (by omega)
      | succ nlp14_2 ihlp14_2 =>
        intro i g ls hi hg hn hl
        refine lv_iload hx hb dX3_dark_14 (lv_at hl 0 rfl) ?_
        refine lv_bipush (v := iI 24) hx hb dX3_dark_16 (by decide +kernel) ?_
        refine r_icmp_ge (tgt := 51) hx hb dX3_dark_18 (by decide) (by omega) (by omega) (fun h3 => ?_) (fun h3 => ?_)
        · -- 18 to 51
          refine lv_iload_n hx hb dX3_dark_51 rfl (lv_at hl 1 rfl) ?_
          exact r_ret hx hb hr hlocks dX3_dark_52 (by rw [if_pos (by omega), hg, show i = 24 from by omega]; rfl)
        · -- 18 to 21
          refine lv_iload_n hx hb dX3_dark_21 rfl (lv_at hl 1 rfl) ?_
          refine lv_aload_n hx hb dX3_dark_22 rfl (lv_at hl 2 rfl) ?_
          refine lv_iload_n hx hb dX3_dark_23 rfl (lv_at hl 3 rfl) ?_
          refine lv_aload_n hx hb dX3_dark_24 rfl (lv_at hl 2 rfl) ?_
          refine va_get (D := D) (ci := 3) (v := .ref (M 15)) (C := RX3) (T := TX3) (N := 17) hx hb hts (fun _ h => List.mem_cons_of_mem _ (List.mem_append_right _ h)) hown hK hP 0 rfl rfl 15 (by decide) (hts _ fl_X3_dark_44) (fun _ h9 => h9) rfl dX3_dark_25 ?_
          refine lv_iload hx hb dX3_dark_28 (lv_at hl 0 rfl) ?_
          refine r_iald hx hb hK hP 11 0 rfl rfl (Nat.le_of_ble_eq_true rfl) (by omega) dX3_dark_30 ?_
          have hv4 := hB15 i
          refine r_calli (va_runV (As := [.int (iI sp), .int (iI (μ 15 i))]) (rest := [.int (iI g)]) ⟨hx, hb, hml, hown, hts⟩ (c_X3_meanOf l D cy M μ sp (μ 15 i) hI (by omega) (by omega)) (cwV 2 hts gX3_dark_X3_meanOf rfl rfl rfl (by decide +kernel) ⟨Nat.le_of_ble_eq_true rfl, Nat.le_of_ble_eq_true rfl⟩) (pv_ro (C := RX3) (T := TX3) (N := 17) (ci := 3) (q0 := 0) hP hK rfl rfl) rfl rfl hl.1 rfl (lv_room (Nat.le_of_ble_eq_true rfl)) dX3_dark_31 ⟨Nat.le_of_ble_eq_true rfl, Nat.le_of_ble_eq_true rfl⟩) ?_
          have hf5 := lMean_bd (τ := su (vL μ) 2 (lG (vL μ) sp)) (invL_2 (invL_vL hI) (fun k => lG_bd (invL_vL hI) (by omega) k)) (pc := (μ 15 i)) (by omega)
          have hf6c : rMean (vL μ) sp (μ 15 i) = lMean (su (vL μ) 2 (lG (vL μ) sp)) (μ 15 i) := rfl
          refine lv_iload_n hx hb dX3_dark_34 rfl (lv_at hl 4 rfl) ?_
          refine r_icmp_ge (tgt := 42) hx hb dX3_dark_35 (by decide) (by omega) (by omega) (fun h7 => ?_) (fun h7 => ?_)
          · -- 35 to 42
            refine lv_iconst (v := iI 0) hx hb dX3_dark_42 rfl ?_
            refine r_iadd hx hb dX3_dark_43 ?_
            refine lv_istore_n (lv' := [(3, .int (iI (g + 0))), (4, .int (iI i)), (0, .ref (M 100)), (1, .int (iI sp)), (2, .int (iI a))]) hx hb dX3_dark_44 rfl hl (by decide) rfl (fun ls hl => ?_)
            refine r_iinc (a := i) (b := (i + 1)) (lv2 := [(4, .int (iI (i + 1))), (3, .int (iI (g + 0))), (0, .ref (M 100)), (1, .int (iI sp)), (2, .int (iI a))]) hx hb dX3_dark_45 hl (k := 1) rfl (by omega) (by decide) rfl (fun ls hl => ?_)
            refine lv_goto (tgt := 14) hx hb dX3_dark_48 (by decide) ?_
            exact ihlp14_2 (i + 1) (g + 0) ls (by omega) (by rw [fo_s _ _ (by omega), ← hg]; show _ = if rMean (vL μ) sp (μ 15 i) < a then g + 1 else g; first | rw [if_pos (by omega)] | (rw [if_neg (by omega)]; omega)) (by omega) (lv_sub hl [0, 1, 2, 3, 4] rfl)
          · -- 35 to 38
            refine lv_iconst (v := iI 1) hx hb dX3_dark_38 rfl ?_
            refine lv_goto (tgt := 43) hx hb dX3_dark_39 (by decide) ?_
            refine r_iadd hx hb dX3_dark_43 ?_
            refine lv_istore_n (lv' := [(3, .int (iI (g + 1))), (4, .int (iI i)), (0, .ref (M 100)), (1, .int (iI sp)), (2, .int (iI a))]) hx hb dX3_dark_44 rfl hl (by decide) rfl (fun ls hl => ?_)
            refine r_iinc (a := i) (b := (i + 1)) (lv2 := [(4, .int (iI (i + 1))), (3, .int (iI (g + 1))), (0, .ref (M 100)), (1, .int (iI sp)), (2, .int (iI a))]) hx hb dX3_dark_45 hl (k := 1) rfl (by omega) (by decide) rfl (fun ls hl => ?_)
            refine lv_goto (tgt := 14) hx hb dX3_dark_48 (by decide) ?_
            exact ihlp14_2 (i + 1) (g + 1) ls (by omega) (by rw [fo_s _ _ (by omega), ← hg]; show _ = if rMean (vL μ) sp (μ 15 i) < a then g + 1 else g; first | rw [if_pos (by omega)] | (rw [if_neg (by omega)]; omega)) (by omega) (lv_sub hl [0, 1, 2, 3, 4] rfl)
    exact lp14_2 _ 0 0 ls (by omega) rfl (lt_tn _) (lv_sub hl [0, 1, 2, 3, 4] rfl)
  · -- 4 to 7
    refine lv_iconst (v := iI (-1)) hx hb dX3_dark_7 rfl ?_
    exact r_ret hx hb hr hlocks dX3_dark_8 (by rw [if_neg (by omega)])
set_option maxHeartbeats 4000000 in
set_option maxRecDepth 100000 in
theorem c_X3_dropOf (l : Launch) (D : va_G) (cy : ClassId) (M : Nat → Nat) (μ : Nat → Int → Int) (sp cu re : Int) (hI : invM μ) (hs1 : 10 ≤ sp ∧ sp ≤ 600) (hc1 : 0 ≤ cu ∧ cu ≤ 20000) (hr1 : 0 ≤ re ∧ re ≤ 10000) : MetRl l yX3_dropOf wsX3_dropOf ({ frames := 1, cells := 0, slots := 0, locals := 21 } : Room) D cy (wM cy M μ) ([.ref (M 100), .int (iI sp), .int (iI cu), .int (iI re)] : List Value) (lMv (vL μ) sp cu re) := by
  refine met_R (cc := cX3_dropOf) (maxL := 7) (ret := (some .long)) (by decide) rfl (Nat.le_of_ble_eq_true rfl) ?_
  intro p e s m below meth c hx hb hr hml hts hown hlocks hP hK ls hl
  have hown : s.vm.findClass RX3 = some m.cls := hown
  have hl : lv_has ls 7 [(0, .ref (M 100)), (1, .int (iI sp)), (2, .int (iI cu)), (3, .int (iI re))] := hl
  obtain ⟨hM0, hM4, hM8, hM11, hM14, hB1, hB2, hB3, hB5, hB6, hB7, hB9, hB10, hB12, hB13, hB15, hB16⟩ := id hI
  have hpo := pol_bd hM14 hs1.1
  refine lv_lconst (v := jI 0) hx hb dX3_dropOf_0 (by decide +kernel) ?_
  refine lv_lstore (lv' := [(4, .long (jI 0)), (0, .ref (M 100)), (1, .int (iI sp)), (2, .int (iI cu)), (3, .int (iI re))]) hx hb dX3_dropOf_1 hl (by decide) rfl (fun ls hl => ?_)
  refine lv_aload_n hx hb dX3_dropOf_3 rfl (lv_at hl 1 rfl) ?_
  refine lv_iload_n hx hb dX3_dropOf_4 rfl (lv_at hl 2 rfl) ?_
  refine r_calli (va_runV (As := [.int (iI sp)]) (rest := []) ⟨hx, hb, hml, hown, hts⟩ (c_X3_poles l D cy M μ sp hI (by omega)) (cwV 1 hts gX3_dropOf_X3_poles rfl rfl rfl (by decide +kernel) ⟨Nat.le_of_ble_eq_true rfl, Nat.le_of_ble_eq_true rfl⟩) (pv_ro (C := RX3) (T := TX3) (N := 17) (ci := 3) (q0 := 0) hP hK rfl rfl) rfl rfl hl.1 rfl (lv_room (Nat.le_of_ble_eq_true rfl)) dX3_dropOf_5 ⟨Nat.le_of_ble_eq_true rfl, Nat.le_of_ble_eq_true rfl⟩) ?_
  have hf1 := pol_bd (sp := sp) hM14 (by omega)
  refine lv_iconst (v := iI 1) hx hb dX3_dropOf_8 rfl ?_
  refine r_isub hx hb dX3_dropOf_9 ?_
  refine lv_istore (lv' := [(6, .int (iI ((μ 14 0 / sp + 1) - 1))), (4, .long (jI 0)), (0, .ref (M 100)), (1, .int (iI sp)), (2, .int (iI cu)), (3, .int (iI re))]) hx hb dX3_dropOf_10 hl (by decide) rfl (fun ls hl => ?_)
  have lp12_2 : ∀ (nlp12_2 : Nat) (i : Int) (g : Int) (ls : Array Slot), (0 ≤ i ∧ i ≤ μ 14 0 / sp) → (g = drS (μ 14 0 / sp) cu re sp i) → (0 ≤ g ∧ g ≤ (μ 14 0 / sp - i) * 60000000000000) → (i < (nlp12_2 : Int)) → lv_has ls 7 [(6, .int (iI i)), (4, .long (jI g)), (0, .ref (M 100)), (1, .int (iI sp)), (2, .int (iI cu)), (3, .int (iI re))] → W p l e ({ frames := 1, cells := 0, slots := 0, locals := 21 } : Room) s m ([.ref (M 100), .int (iI sp), .int (iI cu), .int (iI re)] : List Value).toArray below meth c s.heap [] 0 0 (MQ below (vp_Sl (fun r => r = jI (lMv (vL μ) sp cu re))) ([.ref (M 100), .int (iI sp), .int (iI cu), .int (iI re)] : List Value).toArray s 0 0 (fun _ => False)) (F0 m 12 ls []) := by
    intro nlp12_2
    induction nlp12_2 with
    | zero => intro i g ls hi hg hgb hn hl; exact absurd hn (by omega)
    | succ nlp12_2 ihlp12_2 =>
      intro i g ls hi hg hgb hn hl
      refine lv_iload hx hb dX3_dropOf_12 (lv_at hl 0 rfl) ?_
      refine r_if_le (tgt := 40) hx hb dX3_dropOf_14 (by decide) (by omega) (fun h3 => ?_) (fun h3 => ?_)
      · -- 14 to 40
        refine lv_lload hx hb dX3_dropOf_40 (lv_at hl 1 rfl) ?_
        refine lv_ldc2 (v := jI 1000000) hx hb hown (by rw [show jI 1000000 = 1000000 from by decide +kernel]; exact hts (.constantLong RX3 137 (1000000)) (by decide +kernel)) dX3_dropOf_42 ?_
        refine r_ldiv hx hb dX3_dropOf_45 (by omega) (by omega) ?_
        exact r_retL hx hb hr hlocks dX3_dropOf_46 (by rw [hg, show i = 0 from by omega]; exact drS_e _ _ _ _)
      · -- 14 to 17
        refine lv_lload hx hb dX3_dropOf_17 (lv_at hl 1 rfl) ?_
        refine lv_iload_n hx hb dX3_dropOf_19 rfl (lv_at hl 4 rfl) ?_
        refine r_i2l hx hb dX3_dropOf_20 (by omega) ?_
        refine lv_iload hx hb dX3_dropOf_21 (lv_at hl 0 rfl) ?_
        refine r_i2l hx hb dX3_dropOf_23 (by omega) ?_
        have hm0 := mul_bd (a := cu) (b := i) (A := 20000) (B := 500) (by omega) (by omega)
        refine r_lmul hx hb dX3_dropOf_24 ?_
        refine lv_iload_n hx hb dX3_dropOf_25 rfl (lv_at hl 5 rfl) ?_
        refine r_i2l hx hb dX3_dropOf_26 (by omega) ?_
        have hm1 := mul_bd (a := (cu * i)) (b := re) (A := 10000000) (B := 10000) (by omega) (by omega)
        refine r_lmul hx hb dX3_dropOf_27 ?_
        refine lv_iload_n hx hb dX3_dropOf_28 rfl (lv_at hl 3 rfl) ?_
        refine r_i2l hx hb dX3_dropOf_29 (by omega) ?_
        have hm2 := mul_bd (a := ((cu * i) * re)) (b := sp) (A := 100000000000) (B := 600) (by omega) (by omega)
        refine r_lmul hx hb dX3_dropOf_30 ?_
        refine r_ladd hx hb dX3_dropOf_31 ?_
        refine lv_lstore (lv' := [(4, .long (jI (g + (((cu * i) * re) * sp)))), (6, .int (iI i)), (0, .ref (M 100)), (1, .int (iI sp)), (2, .int (iI cu)), (3, .int (iI re))]) hx hb dX3_dropOf_32 hl (by decide) rfl (fun ls hl => ?_)
        refine r_iinc (a := i) (b := (i + (-1))) (lv2 := [(6, .int (iI (i + (-1)))), (4, .long (jI (g + (((cu * i) * re) * sp)))), (0, .ref (M 100)), (1, .int (iI sp)), (2, .int (iI cu)), (3, .int (iI re))]) hx hb dX3_dropOf_34 hl (k := 1) rfl (by omega) (by decide) rfl (fun ls hl => ?_)
        refine lv_goto (tgt := 12) hx hb dX3_dropOf_37 (by decide) ?_
        exact ihlp12_2 (i + (-1)) (g + (((cu * i) * re) * sp)) ls (by omega) (by rw [hg]; exact drS_s _ _ _ _ _) (by omega) (by omega) (lv_sub hl [0, 1, 2, 3, 4, 5] rfl)
  exact lp12_2 _ ((μ 14 0 / sp + 1) - 1) 0 ls (by omega) (drS_0 _ _ _ _) (by omega) (lt_tn _) (lv_sub hl [0, 1, 2, 3, 4, 5] rfl)
set_option maxHeartbeats 4000000 in
set_option maxRecDepth 100000 in
theorem c_X3_drop (l : Launch) (D : va_G) (cy : ClassId) (M : Nat → Nat) (μ : Nat → Int → Int) (sp cu re : Int) (hI : invM μ) (hs0 : I32 sp) (hc0 : I32 cu) (hr0 : I32 re) : MetR l yX3_drop wsX3_drop ({ frames := 2, cells := 0, slots := 0, locals := 47 } : Room) D cy (wM cy M μ) ([.ref (M 100), .int (iI sp), .int (iI cu), .int (iI re)] : List Value) (if (10 ≤ sp ∧ sp ≤ 600) ∧ (0 ≤ cu ∧ cu ≤ 20000) ∧ (0 ≤ re ∧ re ≤ 10000) then lMv (vL μ) sp cu re else -1) := by
  refine met_R (cc := cX3_drop) (maxL := 4) (ret := (some .int)) (by decide) rfl (Nat.le_of_ble_eq_true rfl) ?_
  intro p e s m below meth c hx hb hr hml hts hown hlocks hP hK ls hl
  have hown : s.vm.findClass RX3 = some m.cls := hown
  have hl : lv_has ls 4 [(0, .ref (M 100)), (1, .int (iI sp)), (2, .int (iI cu)), (3, .int (iI re))] := hl
  obtain ⟨hM0, hM4, hM8, hM11, hM14, hB1, hB2, hB3, hB5, hB6, hB7, hB9, hB10, hB12, hB13, hB15, hB16⟩ := id hI
  refine lv_iload_n hx hb dX3_drop_0 rfl (lv_at hl 1 rfl) ?_
  refine r_calli (va_runS (As := [.int (iI sp)]) (rest := []) ⟨hx, hb, hml, hown, hts⟩ (c_X3_isSpacing l  sp (by omega)) (va_cwS 1 hts gX3_drop_X3_isSpacing rfl rfl rfl (by decide +kernel) ⟨Nat.le_of_ble_eq_true rfl, Nat.le_of_ble_eq_true rfl⟩) ps_T rfl rfl hl.1 rfl (lv_room (Nat.le_of_ble_eq_true rfl)) dX3_drop_1 ⟨Nat.le_of_ble_eq_true rfl, Nat.le_of_ble_eq_true rfl⟩) ?_
  refine r_ifB_eq (tgt := 26) hx hb dX3_drop_4 (by decide) (fun h1 => ?_) (fun h1 => ?_)
  · -- 4 to 26
    refine lv_iconst (v := iI (-1)) hx hb dX3_drop_26 rfl ?_
    exact r_ret hx hb hr hlocks dX3_drop_27 (by first | rw [if_pos (by omega)] | rw [if_neg (by omega)])
  · -- 4 to 7
    refine lv_iload_n hx hb dX3_drop_7 rfl (lv_at hl 2 rfl) ?_
    refine lv_iload_n hx hb dX3_drop_8 rfl (lv_at hl 3 rfl) ?_
    refine r_calli (va_runS (As := [.int (iI cu), .int (iI re)]) (rest := []) ⟨hx, hb, hml, hown, hts⟩ (c_X3_isWire l  cu re (by omega) (by omega)) (va_cwS 2 hts gX3_drop_X3_isWire rfl rfl rfl (by decide +kernel) ⟨Nat.le_of_ble_eq_true rfl, Nat.le_of_ble_eq_true rfl⟩) ps_T rfl rfl hl.1 rfl (lv_room (Nat.le_of_ble_eq_true rfl)) dX3_drop_9 ⟨Nat.le_of_ble_eq_true rfl, Nat.le_of_ble_eq_true rfl⟩) ?_
    refine r_ifB_eq (tgt := 26) hx hb dX3_drop_12 (by decide) (fun h2 => ?_) (fun h2 => ?_)
    · -- 12 to 26
      refine lv_iconst (v := iI (-1)) hx hb dX3_drop_26 rfl ?_
      exact r_ret hx hb hr hlocks dX3_drop_27 (by first | rw [if_pos (by omega)] | rw [if_neg (by omega)])
    · -- 12 to 15
      refine lv_aload_n hx hb dX3_drop_15 rfl (lv_at hl 0 rfl) ?_
      refine lv_iload_n hx hb dX3_drop_16 rfl (lv_at hl 1 rfl) ?_
      refine lv_iload_n hx hb dX3_drop_17 rfl (lv_at hl 2 rfl) ?_
      refine lv_iload_n hx hb dX3_drop_18 rfl (lv_at hl 3 rfl) ?_
      refine r_calll (va_runV (As := [.int (iI sp), .int (iI cu), .int (iI re)]) (rest := []) ⟨hx, hb, hml, hown, hts⟩ (c_X3_dropOf l D cy M μ sp cu re hI (by omega) (by omega) (by omega)) (cwV 3 hts gX3_drop_X3_dropOf rfl rfl rfl (by decide +kernel) ⟨Nat.le_of_ble_eq_true rfl, Nat.le_of_ble_eq_true rfl⟩) (pv_ro (C := RX3) (T := TX3) (N := 17) (ci := 3) (q0 := 0) hP hK rfl rfl) rfl rfl hl.1 rfl (lv_room (Nat.le_of_ble_eq_true rfl)) dX3_drop_19 ⟨Nat.le_of_ble_eq_true rfl, Nat.le_of_ble_eq_true rfl⟩) ?_
      have hf3 := lMv_bd (invL_vL hI) (sp := sp) (cu := cu) (re := re) (by omega) (by omega) (by omega)
      refine r_l2i hx hb dX3_drop_22 ?_
      refine lv_goto (tgt := 27) hx hb dX3_drop_23 (by decide) ?_
      exact r_ret hx hb hr hlocks dX3_drop_27 (by first | rw [if_pos (by omega)] | rw [if_neg (by omega)])
set_option maxHeartbeats 4000000 in
set_option maxRecDepth 100000 in
theorem c_X3_wired (l : Launch) (D : va_G) (cy : ClassId) (M : Nat → Nat) (μ : Nat → Int → Int) (cu re mo : Int) (hI : invM μ) (hc0 : I32 cu) (hr0 : I32 re) (hm0 : I32 mo) : MetR l yX3_wired wsX3_wired ({ frames := 2, cells := 0, slots := 0, locals := 47 } : Room) D cy (wM cy M μ) ([.ref (M 100), .int (iI cu), .int (iI re), .int (iI mo)] : List Value) (if (0 ≤ cu ∧ cu ≤ 20000) ∧ (0 ≤ re ∧ re ≤ 10000) then lWired (vL μ) cu re mo else -1) := by
  refine met_R (cc := cX3_wired) (maxL := 5) (ret := (some .int)) (by decide) rfl (Nat.le_of_ble_eq_true rfl) ?_
  intro p e s m below meth c hx hb hr hml hts hown hlocks hP hK ls hl
  have hown : s.vm.findClass RX3 = some m.cls := hown
  have hl : lv_has ls 5 [(0, .ref (M 100)), (1, .int (iI cu)), (2, .int (iI re)), (3, .int (iI mo))] := hl
  obtain ⟨hM0, hM4, hM8, hM11, hM14, hB1, hB2, hB3, hB5, hB6, hB7, hB9, hB10, hB12, hB13, hB15, hB16⟩ := id hI
  refine lv_sipush (v := iI 600) hx hb dX3_wired_0 (by decide +kernel) ?_
  refine lv_istore (lv' := [(4, .int (iI 600)), (0, .ref (M 100)), (1, .int (iI cu)), (2, .int (iI re)), (3, .int (iI mo))]) hx hb dX3_wired_3 hl (by decide) rfl (fun ls hl => ?_)
  have lp5_1 : ∀ (nlp5_1 : Nat) (i : Int) (ls : Array Slot), (0 ≤ i ∧ i ≤ 600 ∧ i % 10 = 0) → (lWired (vL μ) cu re mo = ft (fun j => decide (lMv (vL μ) (600 - 10 * j) cu re ≤ mo)) (fun j => 600 - 10 * j) (-1) ((600 - i) / 10) 60) → (i = 600 ∨ ((0 ≤ cu ∧ cu ≤ 20000) ∧ (0 ≤ re ∧ re ≤ 10000))) → (i < (nlp5_1 : Int)) → lv_has ls 5 [(4, .int (iI i)), (0, .ref (M 100)), (1, .int (iI cu)), (2, .int (iI re)), (3, .int (iI mo))] → W p l e ({ frames := 2, cells := 0, slots := 0, locals := 47 } : Room) s m ([.ref (M 100), .int (iI cu), .int (iI re), .int (iI mo)] : List Value).toArray below meth c s.heap [] 0 0 (MQ below (vp_Si (fun r => r = iI (if (0 ≤ cu ∧ cu ≤ 20000) ∧ (0 ≤ re ∧ re ≤ 10000) then lWired (vL μ) cu re mo else -1))) ([.ref (M 100), .int (iI cu), .int (iI re), .int (iI mo)] : List Value).toArray s 0 0 (fun _ => False)) (F0 m 5 ls []) := by
    intro nlp5_1
    induction nlp5_1 with
    | zero => intro i ls hi hg hok hn hl; exact absurd hn (by omega)
    | succ nlp5_1 ihlp5_1 =>
      intro i ls hi hg hok hn hl
      refine lv_iload hx hb dX3_wired_5 (lv_at hl 0 rfl) ?_
      refine r_if_le (tgt := 41) hx hb dX3_wired_7 (by decide) (by omega) (fun h2 => ?_) (fun h2 => ?_)
      · -- 7 to 41
        refine lv_iconst (v := iI (-1)) hx hb dX3_wired_41 rfl ?_
        exact r_ret hx hb hr hlocks dX3_wired_42 (by first | (rw [if_neg (by omega)]) | (rw [if_pos (by omega), hg, ft_end _ _ _ (by omega)]))
      · -- 7 to 10
        refine lv_iload_n hx hb dX3_wired_10 rfl (lv_at hl 2 rfl) ?_
        refine lv_iload_n hx hb dX3_wired_11 rfl (lv_at hl 3 rfl) ?_
        refine r_calli (va_runS (As := [.int (iI cu), .int (iI re)]) (rest := []) ⟨hx, hb, hml, hown, hts⟩ (c_X3_isWire l  cu re (by omega) (by omega)) (va_cwS 2 hts gX3_wired_X3_isWire rfl rfl rfl (by decide +kernel) ⟨Nat.le_of_ble_eq_true rfl, Nat.le_of_ble_eq_true rfl⟩) ps_T rfl rfl hl.1 rfl (lv_room (Nat.le_of_ble_eq_true rfl)) dX3_wired_12 ⟨Nat.le_of_ble_eq_true rfl, Nat.le_of_ble_eq_true rfl⟩) ?_
        refine r_ifB_eq (tgt := 41) hx hb dX3_wired_15 (by decide) (fun h3 => ?_) (fun h3 => ?_)
        · -- 15 to 41
          refine lv_iconst (v := iI (-1)) hx hb dX3_wired_41 rfl ?_
          exact r_ret hx hb hr hlocks dX3_wired_42 (by first | (rw [if_neg (by omega)]) | (rw [if_pos (by omega), hg, ft_end _ _ _ (by omega)]))
        · -- 15 to 18
          refine lv_aload_n hx hb dX3_wired_18 rfl (lv_at hl 1 rfl) ?_
          refine lv_iload hx hb dX3_wired_19 (lv_at hl 0 rfl) ?_
          refine lv_iload_n hx hb dX3_wired_21 rfl (lv_at hl 2 rfl) ?_
          refine lv_iload_n hx hb dX3_wired_22 rfl (lv_at hl 3 rfl) ?_
          refine r_calll (va_runV (As := [.int (iI i), .int (iI cu), .int (iI re)]) (rest := []) ⟨hx, hb, hml, hown, hts⟩ (c_X3_dropOf l D cy M μ i cu re hI (by omega) (by omega) (by omega)) (cwV 3 hts gX3_wired_X3_dropOf rfl rfl rfl (by decide +kernel) ⟨Nat.le_of_ble_eq_true rfl, Nat.le_of_ble_eq_true rfl⟩) (pv_ro (C := RX3) (T := TX3) (N := 17) (ci := 3) (q0 := 0) hP hK rfl rfl) rfl rfl hl.1 rfl (lv_room (Nat.le_of_ble_eq_true rfl)) dX3_wired_23 ⟨Nat.le_of_ble_eq_true rfl, Nat.le_of_ble_eq_true rfl⟩) ?_
          have hf4 := lMv_bd (invL_vL hI) (sp := i) (cu := cu) (re := re) (by omega) (by omega) (by omega)
          refine lv_iload_n hx hb dX3_wired_26 rfl (lv_at hl 4 rfl) ?_
          refine r_i2l hx hb dX3_wired_27 (by omega) ?_
          refine r_lcmp hx hb dX3_wired_28 (by omega) (by omega) ?_
          refine r_if_gt (tgt := 35) hx hb dX3_wired_29 (by decide) (cmp_i32 _ _) (fun h5 => ?_) (fun h5 => ?_)
          · -- 29 to 35
            replace h5 := cmp_gt h5
            refine r_iinc (a := i) (b := (i + (-10))) (lv2 := [(4, .int (iI (i + (-10)))), (0, .ref (M 100)), (1, .int (iI cu)), (2, .int (iI re)), (3, .int (iI mo))]) hx hb dX3_wired_35 hl (k := 0) rfl (by omega) (by decide) rfl (fun ls hl => ?_)
            refine lv_goto (tgt := 5) hx hb dX3_wired_38 (by decide) ?_
            exact ihlp5_1 (i + (-10)) ls (by omega) (by rw [hg, ft_miss _ _ _ (by omega) (decide_eq_false (by rw [show 600 - 10 * ((600 - i) / 10) = i from by omega]; omega)), show (600 - (i + (-10))) / 10 = (600 - i) / 10 + 1 from by omega]) (by omega) (by omega) (lv_sub hl [0, 1, 2, 3, 4] rfl)
          · -- 29 to 32
            replace h5 := cmp_le h5
            refine lv_iload hx hb dX3_wired_32 (lv_at hl 0 rfl) ?_
            exact r_ret hx hb hr hlocks dX3_wired_34 (by rw [if_pos (by omega), hg, ft_hit _ _ _ (by omega) (decide_eq_true (by rw [show 600 - 10 * ((600 - i) / 10) = i from by omega]; omega))]; omega)
  exact lp5_1 _ 600 ls (by omega) rfl (by omega) (lt_tn _) (lv_sub hl [0, 1, 2, 3, 4] rfl)
set_option maxHeartbeats 4000000 in
set_option maxRecDepth 100000 in
theorem c_X3_shines (l : Launch) (D : va_G) (cy : ClassId) (M : Nat → Nat) (μ : Nat → Int → Int) (a : Int) (hI : invM μ) (ha : I32 a) : MetR l yX3_shines wsX3_shines ({ frames := 1, cells := 0, slots := 0, locals := 23 } : Room) D cy (wM cy M μ) ([.ref (M 100), .int (iI a)] : List Value) (if a < 0 then -1 else lFrom (vL μ) a) := by
  refine met_R (cc := cX3_shines) (maxL := 2) (ret := (some .int)) (by decide) rfl (Nat.le_of_ble_eq_true rfl) ?_
  intro p e s m below meth c hx hb hr hml hts hown hlocks hP hK ls hl
  have hown : s.vm.findClass RX3 = some m.cls := hown
  have hl : lv_has ls 2 [(0, .ref (M 100)), (1, .int (iI a))] := hl
  obtain ⟨hM0, hM4, hM8, hM11, hM14, hB1, hB2, hB3, hB5, hB6, hB7, hB9, hB10, hB12, hB13, hB15, hB16⟩ := id hI
  refine lv_iload_n hx hb dX3_shines_0 rfl (lv_at hl 1 rfl) ?_
  refine r_if_ge (tgt := 8) hx hb dX3_shines_1 (by decide) (by omega) (fun h1 => ?_) (fun h1 => ?_)
  · -- 1 to 8
    refine lv_aload_n hx hb dX3_shines_8 rfl (lv_at hl 0 rfl) ?_
    refine lv_iload_n hx hb dX3_shines_9 rfl (lv_at hl 1 rfl) ?_
    refine r_calli (va_runV (As := [.int (iI a)]) (rest := []) ⟨hx, hb, hml, hown, hts⟩ (c_X3_lightAt l D cy M μ a hI (by omega)) (cwV 1 hts gX3_shines_X3_lightAt rfl rfl rfl (by decide +kernel) ⟨Nat.le_of_ble_eq_true rfl, Nat.le_of_ble_eq_true rfl⟩) (pv_ro (C := RX3) (T := TX3) (N := 17) (ci := 3) (q0 := 0) hP hK rfl rfl) rfl rfl hl.1 rfl (lv_room (Nat.le_of_ble_eq_true rfl)) dX3_shines_10 ⟨Nat.le_of_ble_eq_true rfl, Nat.le_of_ble_eq_true rfl⟩) ?_
    have hf2 := lFrom_bd (τ := vL μ) hB13 (d := a) (by omega)
    exact r_ret hx hb hr hlocks dX3_shines_13 (by first | rw [if_pos (by omega)] | rw [if_neg (by omega)])
  · -- 1 to 4
    refine lv_iconst (v := iI (-1)) hx hb dX3_shines_4 rfl ?_
    refine lv_goto (tgt := 13) hx hb dX3_shines_5 (by decide) ?_
    exact r_ret hx hb hr hlocks dX3_shines_13 (by first | rw [if_pos (by omega)] | rw [if_neg (by omega)])
set_option maxHeartbeats 4000000 in
set_option maxRecDepth 100000 in
theorem c_X3_row (l : Launch) (D : va_G) (cy : ClassId) (M : Nat → Nat) (μ : Nat → Int → Int) (sp a : Int) (hI : invM μ) (hs0 : I32 sp) (ha : I32 a) : MetR l yX3_row wsX3_row ({ frames := 4, cells := 0, slots := 0, locals := 94 } : Room) D cy (wM cy M μ) ([.ref (M 100), .int (iI sp), .int (iI a)] : List Value) (if (10 ≤ sp ∧ sp ≤ 600) ∧ (0 ≤ a ∧ a ≤ 3) then (if a = 0 then rLst (vL μ) sp else if a = 1 then rMean (vL μ) sp 100 else if a = 2 then rEven (vL μ) sp else μ 14 0 / sp + 1) else -1) := by
  refine met_R (cc := cX3_row) (maxL := 3) (ret := (some .int)) (by decide) rfl (Nat.le_of_ble_eq_true rfl) ?_
  intro p e s m below meth c hx hb hr hml hts hown hlocks hP hK ls hl
  have hown : s.vm.findClass RX3 = some m.cls := hown
  have hl : lv_has ls 3 [(0, .ref (M 100)), (1, .int (iI sp)), (2, .int (iI a))] := hl
  obtain ⟨hM0, hM4, hM8, hM11, hM14, hB1, hB2, hB3, hB5, hB6, hB7, hB9, hB10, hB12, hB13, hB15, hB16⟩ := id hI
  refine lv_iload_n hx hb dX3_row_0 rfl (lv_at hl 1 rfl) ?_
  refine r_calli (va_runS (As := [.int (iI sp)]) (rest := []) ⟨hx, hb, hml, hown, hts⟩ (c_X3_isSpacing l  sp (by omega)) (va_cwS 1 hts gX3_row_X3_isSpacing rfl rfl rfl (by decide +kernel) ⟨Nat.le_of_ble_eq_true rfl, Nat.le_of_ble_eq_true rfl⟩) ps_T rfl rfl hl.1 rfl (lv_room (Nat.le_of_ble_eq_true rfl)) dX3_row_1 ⟨Nat.le_of_ble_eq_true rfl, Nat.le_of_ble_eq_true rfl⟩) ?_
  refine r_ifB_eq (tgt := 16) hx hb dX3_row_4 (by decide) (fun h1 => ?_) (fun h1 => ?_)
  · -- 4 to 16
    refine lv_iconst (v := iI (-1)) hx hb dX3_row_16 rfl ?_
    exact r_ret hx hb hr hlocks dX3_row_17 (by first | rw [if_pos (by omega), if_pos (by omega)] | rw [if_pos (by omega), if_neg (by omega), if_pos (by omega)] | rw [if_pos (by omega), if_neg (by omega), if_neg (by omega), if_pos (by omega)] | rw [if_pos (by omega), if_neg (by omega), if_neg (by omega), if_neg (by omega)] | rw [if_neg (by omega)])
  · -- 4 to 7
    refine lv_iload_n hx hb dX3_row_7 rfl (lv_at hl 2 rfl) ?_
    refine lv_iconst (v := iI 0) hx hb dX3_row_8 rfl ?_
    refine lv_iconst (v := iI 3) hx hb dX3_row_9 rfl ?_
    refine r_calli (va_runS (As := [.int (iI a), .int (iI 0), .int (iI 3)]) (rest := []) ⟨hx, hb, hml, hown, hts⟩ (c_X3_within l  a 0 3 (by omega) (by omega) (by omega)) (va_cwS 3 hts gX3_row_X3_within rfl rfl rfl (by decide +kernel) ⟨Nat.le_of_ble_eq_true rfl, Nat.le_of_ble_eq_true rfl⟩) ps_T rfl rfl hl.1 rfl (lv_room (Nat.le_of_ble_eq_true rfl)) dX3_row_10 ⟨Nat.le_of_ble_eq_true rfl, Nat.le_of_ble_eq_true rfl⟩) ?_
    refine r_ifB_ne (tgt := 18) hx hb dX3_row_13 (by decide) (fun h2 => ?_) (fun h2 => ?_)
    · -- 13 to 18
      refine lv_iload_n hx hb dX3_row_18 rfl (lv_at hl 2 rfl) ?_
      refine r_if_ne (tgt := 30) hx hb dX3_row_19 (by decide) (by omega) (fun h3 => ?_) (fun h3 => ?_)
      · -- 19 to 30
        refine lv_iload_n hx hb dX3_row_30 rfl (lv_at hl 2 rfl) ?_
        refine lv_iconst (v := iI 1) hx hb dX3_row_31 rfl ?_
        refine r_icmp_ne (tgt := 45) hx hb dX3_row_32 (by decide) (by omega) (by omega) (fun h4 => ?_) (fun h4 => ?_)
        · -- 32 to 45
          refine lv_iload_n hx hb dX3_row_45 rfl (lv_at hl 2 rfl) ?_
          refine lv_iconst (v := iI 2) hx hb dX3_row_46 rfl ?_
          refine r_icmp_ne (tgt := 58) hx hb dX3_row_47 (by decide) (by omega) (by omega) (fun h5 => ?_) (fun h5 => ?_)
          · -- 47 to 58
            refine lv_aload_n hx hb dX3_row_58 rfl (lv_at hl 0 rfl) ?_
            refine lv_iload_n hx hb dX3_row_59 rfl (lv_at hl 1 rfl) ?_
            refine r_calli (va_runV (As := [.int (iI sp)]) (rest := []) ⟨hx, hb, hml, hown, hts⟩ (c_X3_poles l D cy M μ sp hI (by omega)) (cwV 1 hts gX3_row_X3_poles rfl rfl rfl (by decide +kernel) ⟨Nat.le_of_ble_eq_true rfl, Nat.le_of_ble_eq_true rfl⟩) (pv_ro (C := RX3) (T := TX3) (N := 17) (ci := 3) (q0 := 0) hP hK rfl rfl) rfl rfl hl.1 rfl (lv_room (Nat.le_of_ble_eq_true rfl)) dX3_row_60 ⟨Nat.le_of_ble_eq_true rfl, Nat.le_of_ble_eq_true rfl⟩) ?_
            have hf6 := pol_bd (sp := sp) hM14 (by omega)
            exact r_ret hx hb hr hlocks dX3_row_63 (by first | rw [if_pos (by omega), if_pos (by omega)] | rw [if_pos (by omega), if_neg (by omega), if_pos (by omega)] | rw [if_pos (by omega), if_neg (by omega), if_neg (by omega), if_pos (by omega)] | rw [if_pos (by omega), if_neg (by omega), if_neg (by omega), if_neg (by omega)] | rw [if_neg (by omega)])
          · -- 47 to 50
            refine lv_aload_n hx hb dX3_row_50 rfl (lv_at hl 0 rfl) ?_
            refine lv_iload_n hx hb dX3_row_51 rfl (lv_at hl 1 rfl) ?_
            refine r_calli (va_runV (As := [.int (iI sp)]) (rest := []) ⟨hx, hb, hml, hown, hts⟩ (c_X3_evenness l D cy M μ sp hI (by omega)) (cwV 1 hts gX3_row_X3_evenness rfl rfl rfl (by decide +kernel) ⟨Nat.le_of_ble_eq_true rfl, Nat.le_of_ble_eq_true rfl⟩) (pv_ro (C := RX3) (T := TX3) (N := 17) (ci := 3) (q0 := 0) hP hK rfl rfl) rfl rfl hl.1 rfl (lv_room (Nat.le_of_ble_eq_true rfl)) dX3_row_52 ⟨Nat.le_of_ble_eq_true rfl, Nat.le_of_ble_eq_true rfl⟩) ?_
            have hf7 := lEven_bd (τ := su (vL μ) 2 (lG (vL μ) sp)) (invL_2 (invL_vL hI) (fun k => lG_bd (invL_vL hI) (by omega) k))
            have hf8c : rEven (vL μ) sp = lEven (su (vL μ) 2 (lG (vL μ) sp)) := rfl
            refine lv_goto (tgt := 63) hx hb dX3_row_55 (by decide) ?_
            exact r_ret hx hb hr hlocks dX3_row_63 (by first | rw [if_pos (by omega), if_pos (by omega)] | rw [if_pos (by omega), if_neg (by omega), if_pos (by omega)] | rw [if_pos (by omega), if_neg (by omega), if_neg (by omega), if_pos (by omega)] | rw [if_pos (by omega), if_neg (by omega), if_neg (by omega), if_neg (by omega)] | rw [if_neg (by omega)])
        · -- 32 to 35
          refine lv_aload_n hx hb dX3_row_35 rfl (lv_at hl 0 rfl) ?_
          refine lv_iload_n hx hb dX3_row_36 rfl (lv_at hl 1 rfl) ?_
          refine lv_bipush (v := iI 100) hx hb dX3_row_37 (by decide +kernel) ?_
          refine r_calli (va_runV (As := [.int (iI sp), .int (iI 100)]) (rest := []) ⟨hx, hb, hml, hown, hts⟩ (c_X3_meanOf l D cy M μ sp 100 hI (by omega) (by omega)) (cwV 2 hts gX3_row_X3_meanOf rfl rfl rfl (by decide +kernel) ⟨Nat.le_of_ble_eq_true rfl, Nat.le_of_ble_eq_true rfl⟩) (pv_ro (C := RX3) (T := TX3) (N := 17) (ci := 3) (q0 := 0) hP hK rfl rfl) rfl rfl hl.1 rfl (lv_room (Nat.le_of_ble_eq_true rfl)) dX3_row_39 ⟨Nat.le_of_ble_eq_true rfl, Nat.le_of_ble_eq_true rfl⟩) ?_
          have hf9 := lMean_bd (τ := su (vL μ) 2 (lG (vL μ) sp)) (invL_2 (invL_vL hI) (fun k => lG_bd (invL_vL hI) (by omega) k)) (pc := 100) (by omega)
          have hf10c : rMean (vL μ) sp 100 = lMean (su (vL μ) 2 (lG (vL μ) sp)) 100 := rfl
          refine lv_goto (tgt := 63) hx hb dX3_row_42 (by decide) ?_
          exact r_ret hx hb hr hlocks dX3_row_63 (by first | rw [if_pos (by omega), if_pos (by omega)] | rw [if_pos (by omega), if_neg (by omega), if_pos (by omega)] | rw [if_pos (by omega), if_neg (by omega), if_neg (by omega), if_pos (by omega)] | rw [if_pos (by omega), if_neg (by omega), if_neg (by omega), if_neg (by omega)] | rw [if_neg (by omega)])
      · -- 19 to 22
        refine lv_aload_n hx hb dX3_row_22 rfl (lv_at hl 0 rfl) ?_
        refine lv_iload_n hx hb dX3_row_23 rfl (lv_at hl 1 rfl) ?_
        refine r_calli (va_runV (As := [.int (iI sp)]) (rest := []) ⟨hx, hb, hml, hown, hts⟩ (c_X3_leastOf l D cy M μ sp hI (by omega)) (cwV 1 hts gX3_row_X3_leastOf rfl rfl rfl (by decide +kernel) ⟨Nat.le_of_ble_eq_true rfl, Nat.le_of_ble_eq_true rfl⟩) (pv_ro (C := RX3) (T := TX3) (N := 17) (ci := 3) (q0 := 0) hP hK rfl rfl) rfl rfl hl.1 rfl (lv_room (Nat.le_of_ble_eq_true rfl)) dX3_row_24 ⟨Nat.le_of_ble_eq_true rfl, Nat.le_of_ble_eq_true rfl⟩) ?_
        have hf11 := lLst_bd (τ := su (vL μ) 2 (lG (vL μ) sp)) (invL_2 (invL_vL hI) (fun k => lG_bd (invL_vL hI) (by omega) k))
        have hf12c : rLst (vL μ) sp = lLst (su (vL μ) 2 (lG (vL μ) sp)) := rfl
        refine lv_goto (tgt := 63) hx hb dX3_row_27 (by decide) ?_
        exact r_ret hx hb hr hlocks dX3_row_63 (by first | rw [if_pos (by omega), if_pos (by omega)] | rw [if_pos (by omega), if_neg (by omega), if_pos (by omega)] | rw [if_pos (by omega), if_neg (by omega), if_neg (by omega), if_pos (by omega)] | rw [if_pos (by omega), if_neg (by omega), if_neg (by omega), if_neg (by omega)] | rw [if_neg (by omega)])
    · -- 13 to 16
      refine lv_iconst (v := iI (-1)) hx hb dX3_row_16 rfl ?_
      exact r_ret hx hb hr hlocks dX3_row_17 (by first | rw [if_pos (by omega), if_pos (by omega)] | rw [if_pos (by omega), if_neg (by omega), if_pos (by omega)] | rw [if_pos (by omega), if_neg (by omega), if_neg (by omega), if_pos (by omega)] | rw [if_pos (by omega), if_neg (by omega), if_neg (by omega), if_neg (by omega)] | rw [if_neg (by omega)])
theorem fl_X3_at_112 : Cond.fieldLink RX3 112 "NoiseLampsModel" "length" "I" ∈ wsX3_at := by decide +kernel
theorem fl_X3_at_44 : Cond.fieldLink RX3 44 "NoiseLampsModel" "dims" "[I" ∈ wsX3_at := by decide +kernel
set_option maxHeartbeats 4000000 in
set_option maxRecDepth 100000 in
theorem c_X3_at (l : Launch) (D : va_G) (cy : ClassId) (M : Nat → Nat) (μ : Nat → Int → Int) (pl sp h0 : Int) (hI : invM μ) (hp0 : I32 pl) (hs0 : I32 sp) (hh0 : I32 h0) : MetR l yX3_at wsX3_at ({ frames := 2, cells := 0, slots := 0, locals := 47 } : Room) D cy (wM cy M μ) ([.ref (M 100), .int (iI pl), .int (iI sp), .int (iI h0)] : List Value) (if (0 ≤ pl ∧ pl ≤ μ 14 0) ∧ (10 ≤ sp ∧ sp ≤ 600) ∧ (0 ≤ h0 ∧ h0 ≤ 23) then lAt (vL μ) pl sp * μ 15 h0 / 100 else -1) := by
  refine met_R (cc := cX3_at) (maxL := 5) (ret := (some .int)) (by decide) rfl (Nat.le_of_ble_eq_true rfl) ?_
  intro p e s m below meth c hx hb hr hml hts hown hlocks hP hK ls hl
  have hown : s.vm.findClass RX3 = some m.cls := hown
  have hl : lv_has ls 5 [(0, .ref (M 100)), (1, .int (iI pl)), (2, .int (iI sp)), (3, .int (iI h0))] := hl
  obtain ⟨hM0, hM4, hM8, hM11, hM14, hB1, hB2, hB3, hB5, hB6, hB7, hB9, hB10, hB12, hB13, hB15, hB16⟩ := id hI
  refine lv_iload_n hx hb dX3_at_0 rfl (lv_at hl 1 rfl) ?_
  refine lv_iconst (v := iI 0) hx hb dX3_at_1 rfl ?_
  refine lv_aload_n hx hb dX3_at_2 rfl (lv_at hl 0 rfl) ?_
  refine va_get (D := D) (ci := 3) (v := .int (iI (μ 14 0))) (C := RX3) (T := TX3) (N := 17) hx hb hts (fun _ h => List.mem_cons_of_mem _ (List.mem_append_right _ h)) hown hK hP 0 rfl rfl 14 (by decide) (hts _ fl_X3_at_112) (fun _ h9 => h9) rfl dX3_at_3 ?_
  refine r_calli (va_runS (As := [.int (iI pl), .int (iI 0), .int (iI (μ 14 0))]) (rest := []) ⟨hx, hb, hml, hown, hts⟩ (c_X3_within l  pl 0 (μ 14 0) (by omega) (by omega) (by omega)) (va_cwS 3 hts gX3_at_X3_within rfl rfl rfl (by decide +kernel) ⟨Nat.le_of_ble_eq_true rfl, Nat.le_of_ble_eq_true rfl⟩) ps_T rfl rfl hl.1 rfl (lv_room (Nat.le_of_ble_eq_true rfl)) dX3_at_6 ⟨Nat.le_of_ble_eq_true rfl, Nat.le_of_ble_eq_true rfl⟩) ?_
  refine r_ifB_eq (tgt := 33) hx hb dX3_at_9 (by decide) (fun h1 => ?_) (fun h1 => ?_)
  · -- 9 to 33
    refine lv_iconst (v := iI 0) hx hb dX3_at_33 rfl ?_
    refine lv_istore (lv' := [(4, .int (iI 0)), (0, .ref (M 100)), (1, .int (iI pl)), (2, .int (iI sp)), (3, .int (iI h0))]) hx hb dX3_at_34 hl (by decide) rfl (fun ls hl => ?_)
    refine lv_iload hx hb dX3_at_36 (lv_at hl 0 rfl) ?_
    refine r_if_eq (tgt := 64) hx hb dX3_at_38 (by decide) (by omega) (fun _ => ?_) (fun h => absurd h (by decide))
    refine lv_iconst (v := iI (-1)) hx hb dX3_at_64 rfl ?_
    exact r_ret hx hb hr hlocks dX3_at_65 (by first | rw [if_pos (by omega)] | rw [if_neg (by omega)])
  · -- 9 to 12
    refine lv_iload_n hx hb dX3_at_12 rfl (lv_at hl 2 rfl) ?_
    refine r_calli (va_runS (As := [.int (iI sp)]) (rest := []) ⟨hx, hb, hml, hown, hts⟩ (c_X3_isSpacing l  sp (by omega)) (va_cwS 1 hts gX3_at_X3_isSpacing rfl rfl rfl (by decide +kernel) ⟨Nat.le_of_ble_eq_true rfl, Nat.le_of_ble_eq_true rfl⟩) ps_T rfl rfl hl.1 rfl (lv_room (Nat.le_of_ble_eq_true rfl)) dX3_at_13 ⟨Nat.le_of_ble_eq_true rfl, Nat.le_of_ble_eq_true rfl⟩) ?_
    refine r_ifB_eq (tgt := 33) hx hb dX3_at_16 (by decide) (fun h2 => ?_) (fun h2 => ?_)
    · -- 16 to 33
      refine lv_iconst (v := iI 0) hx hb dX3_at_33 rfl ?_
      refine lv_istore (lv' := [(4, .int (iI 0)), (0, .ref (M 100)), (1, .int (iI pl)), (2, .int (iI sp)), (3, .int (iI h0))]) hx hb dX3_at_34 hl (by decide) rfl (fun ls hl => ?_)
      refine lv_iload hx hb dX3_at_36 (lv_at hl 0 rfl) ?_
      refine r_if_eq (tgt := 64) hx hb dX3_at_38 (by decide) (by omega) (fun _ => ?_) (fun h => absurd h (by decide))
      refine lv_iconst (v := iI (-1)) hx hb dX3_at_64 rfl ?_
      exact r_ret hx hb hr hlocks dX3_at_65 (by first | rw [if_pos (by omega)] | rw [if_neg (by omega)])
    · -- 16 to 19
      refine lv_iload_n hx hb dX3_at_19 rfl (lv_at hl 3 rfl) ?_
      refine lv_iconst (v := iI 0) hx hb dX3_at_20 rfl ?_
      refine lv_bipush (v := iI 23) hx hb dX3_at_21 (by decide +kernel) ?_
      refine r_calli (va_runS (As := [.int (iI h0), .int (iI 0), .int (iI 23)]) (rest := []) ⟨hx, hb, hml, hown, hts⟩ (c_X3_within l  h0 0 23 (by omega) (by omega) (by omega)) (va_cwS 3 hts gX3_at_X3_within rfl rfl rfl (by decide +kernel) ⟨Nat.le_of_ble_eq_true rfl, Nat.le_of_ble_eq_true rfl⟩) ps_T rfl rfl hl.1 rfl (lv_room (Nat.le_of_ble_eq_true rfl)) dX3_at_23 ⟨Nat.le_of_ble_eq_true rfl, Nat.le_of_ble_eq_true rfl⟩) ?_
      refine r_ifB_eq (tgt := 33) hx hb dX3_at_26 (by decide) (fun h3 => ?_) (fun h3 => ?_)
      · -- 26 to 33
        refine lv_iconst (v := iI 0) hx hb dX3_at_33 rfl ?_
        refine lv_istore (lv' := [(4, .int (iI 0)), (0, .ref (M 100)), (1, .int (iI pl)), (2, .int (iI sp)), (3, .int (iI h0))]) hx hb dX3_at_34 hl (by decide) rfl (fun ls hl => ?_)
        refine lv_iload hx hb dX3_at_36 (lv_at hl 0 rfl) ?_
        refine r_if_eq (tgt := 64) hx hb dX3_at_38 (by decide) (by omega) (fun _ => ?_) (fun h => absurd h (by decide))
        refine lv_iconst (v := iI (-1)) hx hb dX3_at_64 rfl ?_
        exact r_ret hx hb hr hlocks dX3_at_65 (by first | rw [if_pos (by omega)] | rw [if_neg (by omega)])
      · -- 26 to 29
        refine lv_iconst (v := iI 1) hx hb dX3_at_29 rfl ?_
        refine lv_goto (tgt := 34) hx hb dX3_at_30 (by decide) ?_
        refine lv_istore (lv' := [(4, .int (iI 1)), (0, .ref (M 100)), (1, .int (iI pl)), (2, .int (iI sp)), (3, .int (iI h0))]) hx hb dX3_at_34 hl (by decide) rfl (fun ls hl => ?_)
        refine lv_iload hx hb dX3_at_36 (lv_at hl 0 rfl) ?_
        refine r_if_eq (tgt := 64) hx hb dX3_at_38 (by decide) (by omega) (fun h => absurd h (by decide)) (fun _ => ?_)
        refine lv_aload_n hx hb dX3_at_41 rfl (lv_at hl 1 rfl) ?_
        refine lv_iload_n hx hb dX3_at_42 rfl (lv_at hl 2 rfl) ?_
        refine lv_iload_n hx hb dX3_at_43 rfl (lv_at hl 3 rfl) ?_
        refine r_calli (va_runV (As := [.int (iI pl), .int (iI sp)]) (rest := []) ⟨hx, hb, hml, hown, hts⟩ (c_X3_sumAt l D cy M μ pl sp hI (by omega) (by omega)) (cwV 2 hts gX3_at_X3_sumAt rfl rfl rfl (by decide +kernel) ⟨Nat.le_of_ble_eq_true rfl, Nat.le_of_ble_eq_true rfl⟩) (pv_ro (C := RX3) (T := TX3) (N := 17) (ci := 3) (q0 := 0) hP hK rfl rfl) rfl rfl hl.1 rfl (lv_room (Nat.le_of_ble_eq_true rfl)) dX3_at_44 ⟨Nat.le_of_ble_eq_true rfl, Nat.le_of_ble_eq_true rfl⟩) ?_
        have hf4 := lAt_bd (invL_vL hI) (pl := pl) (sp := sp) (by omega) (by omega)
        refine r_i2l hx hb dX3_at_47 (by omega) ?_
        refine lv_aload_n hx hb dX3_at_48 rfl (lv_at hl 1 rfl) ?_
        refine va_get (D := D) (ci := 3) (v := .ref (M 15)) (C := RX3) (T := TX3) (N := 17) hx hb hts (fun _ h => List.mem_cons_of_mem _ (List.mem_append_right _ h)) hown hK hP 0 rfl rfl 15 (by decide) (hts _ fl_X3_at_44) (fun _ h9 => h9) rfl dX3_at_49 ?_
        refine lv_iload_n hx hb dX3_at_52 rfl (lv_at hl 4 rfl) ?_
        refine r_iald hx hb hK hP 11 0 rfl rfl (Nat.le_of_ble_eq_true rfl) (by omega) dX3_at_53 ?_
        have hv5 := hB15 h0
        refine r_i2l hx hb dX3_at_54 (by omega) ?_
        have hm0 := mul_bd (a := (lAt (vL μ) pl sp)) (b := (μ 15 h0)) (A := 7000000) (B := 100) (by omega) (by omega)
        refine r_lmul hx hb dX3_at_55 ?_
        refine lv_ldc2 (v := jI 100) hx hb hown (by rw [show jI 100 = 100 from by decide +kernel]; exact hts (.constantLong RX3 121 (100)) (by decide +kernel)) dX3_at_56 ?_
        refine r_ldiv hx hb dX3_at_59 (by omega) (by omega) ?_
        refine r_l2i hx hb dX3_at_60 ?_
        refine lv_goto (tgt := 65) hx hb dX3_at_61 (by decide) ?_
        exact r_ret hx hb hr hlocks dX3_at_65 (by first | rw [if_pos (by omega)] | rw [if_neg (by omega)])
theorem fl_X3_fall_34 : Cond.fieldLink RX3 34 "NoiseLampsModel" "fall" "I" ∈ wsX3_fall := by decide +kernel
set_option maxHeartbeats 4000000 in
set_option maxRecDepth 100000 in
theorem c_X3_fall (l : Launch) (D : va_G) (cy : ClassId) (M : Nat → Nat) (μ : Nat → Int → Int) (sz : Nat) (a : Int) (hI : invM μ) (ha : I32 a) : MetM l yX3_fall wsX3_fall ({ frames := 1, cells := 0, slots := 0, locals := 22 } : Room) D cy (wM cy M μ) ([.ref (M 100), .int (iI a)] : List Value) sz (fun _ : Unit => (if 0 ≤ a ∧ a ≤ 60 then μ 11 0 else -1)) (fun _ : Unit => True) (fun _ : Unit => wM cy M (if 0 ≤ a ∧ a ≤ 60 then su μ 11 (fun _ => a) else μ)) := by
  refine met_M (cc := cX3_fall) (maxL := 3) (ret := (some .int)) (by decide) rfl (Nat.le_of_ble_eq_true rfl) ?_
  intro p e s m below meth c AA hAA hx hb hr hml hts hown hlocks hP hK hD hA ls hl
  have hS : va_S AA s.heap s.heap [] := va_S.rf
  have hown : s.vm.findClass RX3 = some m.cls := hown
  have hl : lv_has ls 3 [(0, .ref (M 100)), (1, .int (iI a))] := hl
  obtain ⟨hM0, hM4, hM8, hM11, hM14, hB1, hB2, hB3, hB5, hB6, hB7, hB9, hB10, hB12, hB13, hB15, hB16⟩ := id hI
  refine lv_iload_n hx hb dX3_fall_0 rfl (lv_at hl 1 rfl) ?_
  refine lv_iconst (v := iI 0) hx hb dX3_fall_1 rfl ?_
  refine lv_bipush (v := iI 60) hx hb dX3_fall_2 (by decide +kernel) ?_
  refine r_calli (va_runS (As := [.int (iI a), .int (iI 0), .int (iI 60)]) (rest := []) ⟨hx, hb, hml, hown, hts⟩ (c_X3_within l  a 0 60 (by omega) (by omega) (by omega)) (va_cwS 3 hts gX3_fall_X3_within rfl rfl rfl (by decide +kernel) ⟨Nat.le_of_ble_eq_true rfl, Nat.le_of_ble_eq_true rfl⟩) ps_T rfl rfl hl.1 rfl (lv_room (Nat.le_of_ble_eq_true rfl)) dX3_fall_4 ⟨Nat.le_of_ble_eq_true rfl, Nat.le_of_ble_eq_true rfl⟩) ?_
  refine r_ifB_ne (tgt := 12) hx hb dX3_fall_7 (by decide) (fun h1 => ?_) (fun h1 => ?_)
  · -- 7 to 12
    refine lv_aload_n hx hb dX3_fall_12 rfl (lv_at hl 0 rfl) ?_
    refine va_get (D := D) (ci := 3) (v := .int (iI (μ 11 0))) (C := RX3) (T := TX3) (N := 17) hx hb hts (fun _ h => List.mem_cons_of_mem _ (List.mem_append_right _ h)) hown hK hP 0 rfl rfl 11 (by decide) (hts _ fl_X3_fall_34) (fun _ h9 => h9) rfl dX3_fall_13 ?_
    refine lv_istore_n (lv' := [(2, .int (iI (μ 11 0))), (0, .ref (M 100)), (1, .int (iI a))]) hx hb dX3_fall_16 rfl hl (by decide) rfl (fun ls hl => ?_)
    refine lv_aload_n hx hb dX3_fall_17 rfl (lv_at hl 1 rfl) ?_
    refine lv_iload_n hx hb dX3_fall_18 rfl (lv_at hl 2 rfl) ?_
    refine va_put (D := D) (ci := 3) (v := .int (iI a)) (ty := .int) (C := RX3) (T := TX3) (N := 17) hx hb hts (fun _ h => List.mem_cons_of_mem _ (List.mem_append_right _ h)) tyX3 tyX3_ok nmX3 hown hK hP hD hS 0 rfl rfl 11 (by decide) (hts _ fl_X3_fall_34) (fun _ h9 => h9) rfl (by decide +kernel) rfl rfl (Nat.le_of_ble_eq_true rfl) dX3_fall_19 (fun H locs hP hD hS => ?_)
    have hP : va_P D vwCl (wM cy M (su μ 11 (fun _ => a))) H := hP
    have hD : va_D AA (wM cy M (su μ 11 (fun _ => a))) := hD
    refine lv_iload_n hx hb dX3_fall_22 rfl (lv_at hl 0 rfl) ?_
    exact r_retM () hx hb hr hlocks hS dX3_fall_23 (by first | rw [if_pos (by omega)] | rw [if_neg (by omega)]) trivial (by first | (rw [if_pos (by omega)]; exact hP) | (rw [if_neg (by omega)]; exact hP))
  · -- 7 to 10
    refine lv_iconst (v := iI (-1)) hx hb dX3_fall_10 rfl ?_
    exact r_retM () hx hb hr hlocks hS dX3_fall_11 (by first | rw [if_pos (by omega)] | rw [if_neg (by omega)]) trivial (by first | (rw [if_pos (by omega)]; exact hP) | (rw [if_neg (by omega)]; exact hP))
theorem fl_X3_malus_38 : Cond.fieldLink RX3 38 "NoiseLampsModel" "malus" "[I" ∈ wsX3_malus := by decide +kernel
set_option maxHeartbeats 4000000 in
set_option maxRecDepth 100000 in
theorem c_X3_malus (l : Launch) (D : va_G) (cy : ClassId) (M : Nat → Nat) (μ : Nat → Int → Int) (sz : Nat) (a z : Int) (hI : invM μ) (ha : I32 a) (hz : I32 z) : MetM l yX3_malus wsX3_malus ({ frames := 1, cells := 0, slots := 0, locals := 22 } : Room) D cy (wM cy M μ) ([.ref (M 100), .int (iI a), .int (iI z)] : List Value) sz (fun _ : Unit => (if (0 ≤ a ∧ a ≤ 2) ∧ (0 ≤ z ∧ z ≤ 200) then μ 12 a else -1)) (fun _ : Unit => True) (fun _ : Unit => wM cy M (if (0 ≤ a ∧ a ≤ 2) ∧ (0 ≤ z ∧ z ≤ 200) then su μ 12 (up (μ 12) a z) else μ)) := by
  refine met_M (cc := cX3_malus) (maxL := 4) (ret := (some .int)) (by decide) rfl (Nat.le_of_ble_eq_true rfl) ?_
  intro p e s m below meth c AA hAA hx hb hr hml hts hown hlocks hP hK hD hA ls hl
  have hS : va_S AA s.heap s.heap [] := va_S.rf
  have hown : s.vm.findClass RX3 = some m.cls := hown
  have hl : lv_has ls 4 [(0, .ref (M 100)), (1, .int (iI a)), (2, .int (iI z))] := hl
  obtain ⟨hM0, hM4, hM8, hM11, hM14, hB1, hB2, hB3, hB5, hB6, hB7, hB9, hB10, hB12, hB13, hB15, hB16⟩ := id hI
  refine lv_iload_n hx hb dX3_malus_0 rfl (lv_at hl 1 rfl) ?_
  refine lv_iconst (v := iI 0) hx hb dX3_malus_1 rfl ?_
  refine lv_iconst (v := iI 2) hx hb dX3_malus_2 rfl ?_
  refine r_calli (va_runS (As := [.int (iI a), .int (iI 0), .int (iI 2)]) (rest := []) ⟨hx, hb, hml, hown, hts⟩ (c_X3_within l  a 0 2 (by omega) (by omega) (by omega)) (va_cwS 3 hts gX3_malus_X3_within rfl rfl rfl (by decide +kernel) ⟨Nat.le_of_ble_eq_true rfl, Nat.le_of_ble_eq_true rfl⟩) ps_T rfl rfl hl.1 rfl (lv_room (Nat.le_of_ble_eq_true rfl)) dX3_malus_3 ⟨Nat.le_of_ble_eq_true rfl, Nat.le_of_ble_eq_true rfl⟩) ?_
  refine r_ifB_eq (tgt := 20) hx hb dX3_malus_6 (by decide) (fun h1 => ?_) (fun h1 => ?_)
  · -- 6 to 20
    refine lv_iconst (v := iI (-1)) hx hb dX3_malus_20 rfl ?_
    exact r_retM () hx hb hr hlocks hS dX3_malus_21 (by first | rw [if_pos (by omega)] | rw [if_neg (by omega)]) trivial (by first | (rw [if_pos (by omega)]; exact hP) | (rw [if_neg (by omega)]; exact hP))
  · -- 6 to 9
    refine lv_iload_n hx hb dX3_malus_9 rfl (lv_at hl 2 rfl) ?_
    refine lv_iconst (v := iI 0) hx hb dX3_malus_10 rfl ?_
    refine lv_sipush (v := iI 200) hx hb dX3_malus_11 (by decide +kernel) ?_
    refine r_calli (va_runS (As := [.int (iI z), .int (iI 0), .int (iI 200)]) (rest := []) ⟨hx, hb, hml, hown, hts⟩ (c_X3_within l  z 0 200 (by omega) (by omega) (by omega)) (va_cwS 3 hts gX3_malus_X3_within rfl rfl rfl (by decide +kernel) ⟨Nat.le_of_ble_eq_true rfl, Nat.le_of_ble_eq_true rfl⟩) ps_T rfl rfl hl.1 rfl (lv_room (Nat.le_of_ble_eq_true rfl)) dX3_malus_14 ⟨Nat.le_of_ble_eq_true rfl, Nat.le_of_ble_eq_true rfl⟩) ?_
    refine r_ifB_ne (tgt := 22) hx hb dX3_malus_17 (by decide) (fun h2 => ?_) (fun h2 => ?_)
    · -- 17 to 22
      refine lv_aload_n hx hb dX3_malus_22 rfl (lv_at hl 0 rfl) ?_
      refine va_get (D := D) (ci := 3) (v := .ref (M 12)) (C := RX3) (T := TX3) (N := 17) hx hb hts (fun _ h => List.mem_cons_of_mem _ (List.mem_append_right _ h)) hown hK hP 0 rfl rfl 12 (by decide) (hts _ fl_X3_malus_38) (fun _ h9 => h9) rfl dX3_malus_23 ?_
      refine lv_iload_n hx hb dX3_malus_26 rfl (lv_at hl 1 rfl) ?_
      refine r_iald hx hb hK hP 9 0 rfl rfl (Nat.le_of_ble_eq_true rfl) (by omega) dX3_malus_27 ?_
      have hv3 := hB12 a
      refine lv_istore_n (lv' := [(3, .int (iI (μ 12 a))), (0, .ref (M 100)), (1, .int (iI a)), (2, .int (iI z))]) hx hb dX3_malus_28 rfl hl (by decide) rfl (fun ls hl => ?_)
      refine lv_aload_n hx hb dX3_malus_29 rfl (lv_at hl 1 rfl) ?_
      refine va_get (D := D) (ci := 3) (v := .ref (M 12)) (C := RX3) (T := TX3) (N := 17) hx hb hts (fun _ h => List.mem_cons_of_mem _ (List.mem_append_right _ h)) hown hK hP 0 rfl rfl 12 (by decide) (hts _ fl_X3_malus_38) (fun _ h9 => h9) rfl dX3_malus_30 ?_
      refine lv_iload_n hx hb dX3_malus_33 rfl (lv_at hl 2 rfl) ?_
      refine lv_iload_n hx hb dX3_malus_34 rfl (lv_at hl 3 rfl) ?_
      refine r_iast hx hb hK hP hD hS 9 0 rfl rfl (Nat.le_of_ble_eq_true rfl) (by omega) dX3_malus_35 (fun H locs hP hD hS => ?_)
      have hP : va_P D vwCl (wM cy M (su μ 12 (up (μ 12) a z))) H := hP
      have hD : va_D AA (wM cy M (su μ 12 (up (μ 12) a z))) := hD
      refine lv_iload_n hx hb dX3_malus_36 rfl (lv_at hl 0 rfl) ?_
      exact r_retM () hx hb hr hlocks hS dX3_malus_37 (by first | rw [if_pos (by omega)] | rw [if_neg (by omega)]) trivial (by first | (rw [if_pos (by omega)]; exact hP) | (rw [if_neg (by omega)]; exact hP))
    · -- 17 to 20
      refine lv_iconst (v := iI (-1)) hx hb dX3_malus_20 rfl ?_
      exact r_retM () hx hb hr hlocks hS dX3_malus_21 (by first | rw [if_pos (by omega)] | rw [if_neg (by omega)]) trivial (by first | (rw [if_pos (by omega)]; exact hP) | (rw [if_neg (by omega)]; exact hP))
theorem fl_X3_recut_31 : Cond.fieldLink RX3 31 "NoiseLampsModel" "cuts" "[I" ∈ wsX3_recut := by decide +kernel
set_option maxHeartbeats 4000000 in
set_option maxRecDepth 100000 in
theorem c_X3_recut (l : Launch) (D : va_G) (cy : ClassId) (M : Nat → Nat) (μ : Nat → Int → Int) (sz : Nat) (a z : Int) (hI : invM μ) (ha : I32 a) (hz : I32 z) : MetM l yX3_recut wsX3_recut ({ frames := 1, cells := 0, slots := 0, locals := 22 } : Room) D cy (wM cy M μ) ([.ref (M 100), .int (iI a), .int (iI z)] : List Value) sz (fun _ : Unit => (if (0 ≤ a ∧ a < μ 8 0) ∧ (0 ≤ z ∧ z ≤ 300) then μ 10 a else -1)) (fun _ : Unit => True) (fun _ : Unit => wM cy M (if (0 ≤ a ∧ a < μ 8 0) ∧ (0 ≤ z ∧ z ≤ 300) then su μ 10 (up (μ 10) a z) else μ)) := by
  refine met_M (cc := cX3_recut) (maxL := 4) (ret := (some .int)) (by decide) rfl (Nat.le_of_ble_eq_true rfl) ?_
  intro p e s m below meth c AA hAA hx hb hr hml hts hown hlocks hP hK hD hA ls hl
  have hS : va_S AA s.heap s.heap [] := va_S.rf
  have hown : s.vm.findClass RX3 = some m.cls := hown
  have hl : lv_has ls 4 [(0, .ref (M 100)), (1, .int (iI a)), (2, .int (iI z))] := hl
  obtain ⟨hM0, hM4, hM8, hM11, hM14, hB1, hB2, hB3, hB5, hB6, hB7, hB9, hB10, hB12, hB13, hB15, hB16⟩ := id hI
  refine lv_aload_n hx hb dX3_recut_0 rfl (lv_at hl 0 rfl) ?_
  refine lv_iload_n hx hb dX3_recut_1 rfl (lv_at hl 1 rfl) ?_
  refine r_calli (va_runV (As := [.int (iI a)]) (rest := []) ⟨hx, hb, hml, hown, hts⟩ (c_X3_isWall l D cy M μ a hI (by omega)) (cwV 1 hts gX3_recut_X3_isWall rfl rfl rfl (by decide +kernel) ⟨Nat.le_of_ble_eq_true rfl, Nat.le_of_ble_eq_true rfl⟩) (pv_ro (C := RX3) (T := TX3) (N := 17) (ci := 3) (q0 := 0) hP hK rfl rfl) rfl rfl hl.1 rfl (lv_room (Nat.le_of_ble_eq_true rfl)) dX3_recut_2 ⟨Nat.le_of_ble_eq_true rfl, Nat.le_of_ble_eq_true rfl⟩) ?_
  refine r_ifB_eq (tgt := 19) hx hb dX3_recut_5 (by decide) (fun h1 => ?_) (fun h1 => ?_)
  · -- 5 to 19
    refine lv_iconst (v := iI (-1)) hx hb dX3_recut_19 rfl ?_
    exact r_retM () hx hb hr hlocks hS dX3_recut_20 (by first | rw [if_pos (by omega)] | rw [if_neg (by omega)]) trivial (by first | (rw [if_pos (by omega)]; exact hP) | (rw [if_neg (by omega)]; exact hP))
  · -- 5 to 8
    refine lv_iload_n hx hb dX3_recut_8 rfl (lv_at hl 2 rfl) ?_
    refine lv_iconst (v := iI 0) hx hb dX3_recut_9 rfl ?_
    refine lv_sipush (v := iI 300) hx hb dX3_recut_10 (by decide +kernel) ?_
    refine r_calli (va_runS (As := [.int (iI z), .int (iI 0), .int (iI 300)]) (rest := []) ⟨hx, hb, hml, hown, hts⟩ (c_X3_within l  z 0 300 (by omega) (by omega) (by omega)) (va_cwS 3 hts gX3_recut_X3_within rfl rfl rfl (by decide +kernel) ⟨Nat.le_of_ble_eq_true rfl, Nat.le_of_ble_eq_true rfl⟩) ps_T rfl rfl hl.1 rfl (lv_room (Nat.le_of_ble_eq_true rfl)) dX3_recut_13 ⟨Nat.le_of_ble_eq_true rfl, Nat.le_of_ble_eq_true rfl⟩) ?_
    refine r_ifB_ne (tgt := 21) hx hb dX3_recut_16 (by decide) (fun h2 => ?_) (fun h2 => ?_)
    · -- 16 to 21
      refine lv_aload_n hx hb dX3_recut_21 rfl (lv_at hl 0 rfl) ?_
      refine va_get (D := D) (ci := 3) (v := .ref (M 10)) (C := RX3) (T := TX3) (N := 17) hx hb hts (fun _ h => List.mem_cons_of_mem _ (List.mem_append_right _ h)) hown hK hP 0 rfl rfl 10 (by decide) (hts _ fl_X3_recut_31) (fun _ h9 => h9) rfl dX3_recut_22 ?_
      refine lv_iload_n hx hb dX3_recut_25 rfl (lv_at hl 1 rfl) ?_
      refine r_iald hx hb hK hP 8 0 rfl rfl (Nat.le_of_ble_eq_true rfl) (by omega) dX3_recut_26 ?_
      have hv3 := hB10 a
      refine lv_istore_n (lv' := [(3, .int (iI (μ 10 a))), (0, .ref (M 100)), (1, .int (iI a)), (2, .int (iI z))]) hx hb dX3_recut_27 rfl hl (by decide) rfl (fun ls hl => ?_)
      refine lv_aload_n hx hb dX3_recut_28 rfl (lv_at hl 1 rfl) ?_
      refine va_get (D := D) (ci := 3) (v := .ref (M 10)) (C := RX3) (T := TX3) (N := 17) hx hb hts (fun _ h => List.mem_cons_of_mem _ (List.mem_append_right _ h)) hown hK hP 0 rfl rfl 10 (by decide) (hts _ fl_X3_recut_31) (fun _ h9 => h9) rfl dX3_recut_29 ?_
      refine lv_iload_n hx hb dX3_recut_32 rfl (lv_at hl 2 rfl) ?_
      refine lv_iload_n hx hb dX3_recut_33 rfl (lv_at hl 3 rfl) ?_
      refine r_iast hx hb hK hP hD hS 8 0 rfl rfl (Nat.le_of_ble_eq_true rfl) (by omega) dX3_recut_34 (fun H locs hP hD hS => ?_)
      have hP : va_P D vwCl (wM cy M (su μ 10 (up (μ 10) a z))) H := hP
      have hD : va_D AA (wM cy M (su μ 10 (up (μ 10) a z))) := hD
      refine lv_iload_n hx hb dX3_recut_35 rfl (lv_at hl 0 rfl) ?_
      exact r_retM () hx hb hr hlocks hS dX3_recut_36 (by first | rw [if_pos (by omega)] | rw [if_neg (by omega)]) trivial (by first | (rw [if_pos (by omega)]; exact hP) | (rw [if_neg (by omega)]; exact hP))
    · -- 16 to 19
      refine lv_iconst (v := iI (-1)) hx hb dX3_recut_19 rfl ?_
      exact r_retM () hx hb hr hlocks hS dX3_recut_20 (by first | rw [if_pos (by omega)] | rw [if_neg (by omega)]) trivial (by first | (rw [if_pos (by omega)]; exact hP) | (rw [if_neg (by omega)]; exact hP))
theorem fl_X3_lamp_41 : Cond.fieldLink RX3 41 "NoiseLampsModel" "lights" "[I" ∈ wsX3_lamp := by decide +kernel
set_option maxHeartbeats 4000000 in
set_option maxRecDepth 100000 in
theorem c_X3_lamp (l : Launch) (D : va_G) (cy : ClassId) (M : Nat → Nat) (μ : Nat → Int → Int) (sz : Nat) (a z : Int) (hI : invM μ) (ha : I32 a) (hz : I32 z) : MetM l yX3_lamp wsX3_lamp ({ frames := 1, cells := 0, slots := 0, locals := 22 } : Room) D cy (wM cy M μ) ([.ref (M 100), .int (iI a), .int (iI z)] : List Value) sz (fun _ : Unit => (if (0 ≤ a ∧ a ≤ 300) ∧ a % 10 = 0 ∧ (0 ≤ z ∧ z ≤ 100000) then μ 13 (a / 10) else -1)) (fun _ : Unit => True) (fun _ : Unit => wM cy M (if (0 ≤ a ∧ a ≤ 300) ∧ a % 10 = 0 ∧ (0 ≤ z ∧ z ≤ 100000) then su μ 13 (up (μ 13) (a / 10) z) else μ)) := by
  refine met_M (cc := cX3_lamp) (maxL := 4) (ret := (some .int)) (by decide) rfl (Nat.le_of_ble_eq_true rfl) ?_
  intro p e s m below meth c AA hAA hx hb hr hml hts hown hlocks hP hK hD hA ls hl
  have hS : va_S AA s.heap s.heap [] := va_S.rf
  have hown : s.vm.findClass RX3 = some m.cls := hown
  have hl : lv_has ls 4 [(0, .ref (M 100)), (1, .int (iI a)), (2, .int (iI z))] := hl
  obtain ⟨hM0, hM4, hM8, hM11, hM14, hB1, hB2, hB3, hB5, hB6, hB7, hB9, hB10, hB12, hB13, hB15, hB16⟩ := id hI
  refine lv_iload_n hx hb dX3_lamp_0 rfl (lv_at hl 1 rfl) ?_
  refine lv_iconst (v := iI 0) hx hb dX3_lamp_1 rfl ?_
  refine lv_sipush (v := iI 300) hx hb dX3_lamp_2 (by decide +kernel) ?_
  refine r_calli (va_runS (As := [.int (iI a), .int (iI 0), .int (iI 300)]) (rest := []) ⟨hx, hb, hml, hown, hts⟩ (c_X3_within l  a 0 300 (by omega) (by omega) (by omega)) (va_cwS 3 hts gX3_lamp_X3_within rfl rfl rfl (by decide +kernel) ⟨Nat.le_of_ble_eq_true rfl, Nat.le_of_ble_eq_true rfl⟩) ps_T rfl rfl hl.1 rfl (lv_room (Nat.le_of_ble_eq_true rfl)) dX3_lamp_5 ⟨Nat.le_of_ble_eq_true rfl, Nat.le_of_ble_eq_true rfl⟩) ?_
  refine r_ifB_eq (tgt := 28) hx hb dX3_lamp_8 (by decide) (fun h1 => ?_) (fun h1 => ?_)
  · -- 8 to 28
    refine lv_iconst (v := iI (-1)) hx hb dX3_lamp_28 rfl ?_
    exact r_retM () hx hb hr hlocks hS dX3_lamp_29 (by first | rw [if_pos (by omega)] | rw [if_neg (by omega)]) trivial (by first | (rw [if_pos (by omega)]; exact hP) | (rw [if_neg (by omega)]; exact hP))
  · -- 8 to 11
    refine lv_iload_n hx hb dX3_lamp_11 rfl (lv_at hl 1 rfl) ?_
    refine lv_bipush (v := iI 10) hx hb dX3_lamp_12 (by decide +kernel) ?_
    refine r_irem hx hb dX3_lamp_14 (by omega) (by omega) ?_
    refine r_if_ne (tgt := 28) hx hb dX3_lamp_15 (by decide) (by omega) (fun h2 => ?_) (fun h2 => ?_)
    · -- 15 to 28
      refine lv_iconst (v := iI (-1)) hx hb dX3_lamp_28 rfl ?_
      exact r_retM () hx hb hr hlocks hS dX3_lamp_29 (by first | rw [if_pos (by omega)] | rw [if_neg (by omega)]) trivial (by first | (rw [if_pos (by omega)]; exact hP) | (rw [if_neg (by omega)]; exact hP))
    · -- 15 to 18
      refine lv_iload_n hx hb dX3_lamp_18 rfl (lv_at hl 2 rfl) ?_
      refine lv_iconst (v := iI 0) hx hb dX3_lamp_19 rfl ?_
      refine lv_ldc (v := iI 100000) hx hb hown (by rw [show iI 100000 = 100000 from by decide +kernel]; exact hts (.constant RX3 108 (100000)) (by decide +kernel)) dX3_lamp_20 ?_
      refine r_calli (va_runS (As := [.int (iI z), .int (iI 0), .int (iI 100000)]) (rest := []) ⟨hx, hb, hml, hown, hts⟩ (c_X3_within l  z 0 100000 (by omega) (by omega) (by omega)) (va_cwS 3 hts gX3_lamp_X3_within rfl rfl rfl (by decide +kernel) ⟨Nat.le_of_ble_eq_true rfl, Nat.le_of_ble_eq_true rfl⟩) ps_T rfl rfl hl.1 rfl (lv_room (Nat.le_of_ble_eq_true rfl)) dX3_lamp_22 ⟨Nat.le_of_ble_eq_true rfl, Nat.le_of_ble_eq_true rfl⟩) ?_
      refine r_ifB_ne (tgt := 30) hx hb dX3_lamp_25 (by decide) (fun h3 => ?_) (fun h3 => ?_)
      · -- 25 to 30
        refine lv_aload_n hx hb dX3_lamp_30 rfl (lv_at hl 0 rfl) ?_
        refine va_get (D := D) (ci := 3) (v := .ref (M 13)) (C := RX3) (T := TX3) (N := 17) hx hb hts (fun _ h => List.mem_cons_of_mem _ (List.mem_append_right _ h)) hown hK hP 0 rfl rfl 13 (by decide) (hts _ fl_X3_lamp_41) (fun _ h9 => h9) rfl dX3_lamp_31 ?_
        refine lv_iload_n hx hb dX3_lamp_34 rfl (lv_at hl 1 rfl) ?_
        refine lv_bipush (v := iI 10) hx hb dX3_lamp_35 (by decide +kernel) ?_
        refine r_idiv hx hb dX3_lamp_37 (by omega) (by omega) ?_
        refine r_iald hx hb hK hP 10 0 rfl rfl (Nat.le_of_ble_eq_true rfl) (by omega) dX3_lamp_38 ?_
        have hv4 := hB13 (a / 10)
        refine lv_istore_n (lv' := [(3, .int (iI (μ 13 (a / 10)))), (0, .ref (M 100)), (1, .int (iI a)), (2, .int (iI z))]) hx hb dX3_lamp_39 rfl hl (by decide) rfl (fun ls hl => ?_)
        refine lv_aload_n hx hb dX3_lamp_40 rfl (lv_at hl 1 rfl) ?_
        refine va_get (D := D) (ci := 3) (v := .ref (M 13)) (C := RX3) (T := TX3) (N := 17) hx hb hts (fun _ h => List.mem_cons_of_mem _ (List.mem_append_right _ h)) hown hK hP 0 rfl rfl 13 (by decide) (hts _ fl_X3_lamp_41) (fun _ h9 => h9) rfl dX3_lamp_41 ?_
        refine lv_iload_n hx hb dX3_lamp_44 rfl (lv_at hl 2 rfl) ?_
        refine lv_bipush (v := iI 10) hx hb dX3_lamp_45 (by decide +kernel) ?_
        refine r_idiv hx hb dX3_lamp_47 (by omega) (by omega) ?_
        refine lv_iload_n hx hb dX3_lamp_48 rfl (lv_at hl 3 rfl) ?_
        refine r_iast hx hb hK hP hD hS 10 0 rfl rfl (Nat.le_of_ble_eq_true rfl) (by omega) dX3_lamp_49 (fun H locs hP hD hS => ?_)
        have hP : va_P D vwCl (wM cy M (su μ 13 (up (μ 13) (a / 10) z))) H := hP
        have hD : va_D AA (wM cy M (su μ 13 (up (μ 13) (a / 10) z))) := hD
        refine lv_iload_n hx hb dX3_lamp_50 rfl (lv_at hl 0 rfl) ?_
        exact r_retM () hx hb hr hlocks hS dX3_lamp_51 (by first | rw [if_pos (by omega)] | rw [if_neg (by omega)]) trivial (by first | (rw [if_pos (by omega)]; exact hP) | (rw [if_neg (by omega)]; exact hP))
      · -- 25 to 28
        refine lv_iconst (v := iI (-1)) hx hb dX3_lamp_28 rfl ?_
        exact r_retM () hx hb hr hlocks hS dX3_lamp_29 (by first | rw [if_pos (by omega)] | rw [if_neg (by omega)]) trivial (by first | (rw [if_pos (by omega)]; exact hP) | (rw [if_neg (by omega)]; exact hP))
theorem fl_X3_road_112 : Cond.fieldLink RX3 112 "NoiseLampsModel" "length" "I" ∈ wsX3_road := by decide +kernel
set_option maxHeartbeats 4000000 in
set_option maxRecDepth 100000 in
theorem c_X3_road (l : Launch) (D : va_G) (cy : ClassId) (M : Nat → Nat) (μ : Nat → Int → Int) (sz : Nat) (a : Int) (hI : invM μ) (ha : I32 a) : MetM l yX3_road wsX3_road ({ frames := 1, cells := 0, slots := 0, locals := 22 } : Room) D cy (wM cy M μ) ([.ref (M 100), .int (iI a)] : List Value) sz (fun _ : Unit => (if 0 ≤ a ∧ a ≤ 5000 then μ 14 0 else -1)) (fun _ : Unit => True) (fun _ : Unit => wM cy M (if 0 ≤ a ∧ a ≤ 5000 then su μ 14 (fun _ => a) else μ)) := by
  refine met_M (cc := cX3_road) (maxL := 3) (ret := (some .int)) (by decide) rfl (Nat.le_of_ble_eq_true rfl) ?_
  intro p e s m below meth c AA hAA hx hb hr hml hts hown hlocks hP hK hD hA ls hl
  have hS : va_S AA s.heap s.heap [] := va_S.rf
  have hown : s.vm.findClass RX3 = some m.cls := hown
  have hl : lv_has ls 3 [(0, .ref (M 100)), (1, .int (iI a))] := hl
  obtain ⟨hM0, hM4, hM8, hM11, hM14, hB1, hB2, hB3, hB5, hB6, hB7, hB9, hB10, hB12, hB13, hB15, hB16⟩ := id hI
  refine lv_iload_n hx hb dX3_road_0 rfl (lv_at hl 1 rfl) ?_
  refine lv_iconst (v := iI 0) hx hb dX3_road_1 rfl ?_
  refine lv_sipush (v := iI 5000) hx hb dX3_road_2 (by decide +kernel) ?_
  refine r_calli (va_runS (As := [.int (iI a), .int (iI 0), .int (iI 5000)]) (rest := []) ⟨hx, hb, hml, hown, hts⟩ (c_X3_within l  a 0 5000 (by omega) (by omega) (by omega)) (va_cwS 3 hts gX3_road_X3_within rfl rfl rfl (by decide +kernel) ⟨Nat.le_of_ble_eq_true rfl, Nat.le_of_ble_eq_true rfl⟩) ps_T rfl rfl hl.1 rfl (lv_room (Nat.le_of_ble_eq_true rfl)) dX3_road_5 ⟨Nat.le_of_ble_eq_true rfl, Nat.le_of_ble_eq_true rfl⟩) ?_
  refine r_ifB_ne (tgt := 13) hx hb dX3_road_8 (by decide) (fun h1 => ?_) (fun h1 => ?_)
  · -- 8 to 13
    refine lv_aload_n hx hb dX3_road_13 rfl (lv_at hl 0 rfl) ?_
    refine va_get (D := D) (ci := 3) (v := .int (iI (μ 14 0))) (C := RX3) (T := TX3) (N := 17) hx hb hts (fun _ h => List.mem_cons_of_mem _ (List.mem_append_right _ h)) hown hK hP 0 rfl rfl 14 (by decide) (hts _ fl_X3_road_112) (fun _ h9 => h9) rfl dX3_road_14 ?_
    refine lv_istore_n (lv' := [(2, .int (iI (μ 14 0))), (0, .ref (M 100)), (1, .int (iI a))]) hx hb dX3_road_17 rfl hl (by decide) rfl (fun ls hl => ?_)
    refine lv_aload_n hx hb dX3_road_18 rfl (lv_at hl 1 rfl) ?_
    refine lv_iload_n hx hb dX3_road_19 rfl (lv_at hl 2 rfl) ?_
    refine va_put (D := D) (ci := 3) (v := .int (iI a)) (ty := .int) (C := RX3) (T := TX3) (N := 17) hx hb hts (fun _ h => List.mem_cons_of_mem _ (List.mem_append_right _ h)) tyX3 tyX3_ok nmX3 hown hK hP hD hS 0 rfl rfl 14 (by decide) (hts _ fl_X3_road_112) (fun _ h9 => h9) rfl (by decide +kernel) rfl rfl (Nat.le_of_ble_eq_true rfl) dX3_road_20 (fun H locs hP hD hS => ?_)
    have hP : va_P D vwCl (wM cy M (su μ 14 (fun _ => a))) H := hP
    have hD : va_D AA (wM cy M (su μ 14 (fun _ => a))) := hD
    refine lv_iload_n hx hb dX3_road_23 rfl (lv_at hl 0 rfl) ?_
    exact r_retM () hx hb hr hlocks hS dX3_road_24 (by first | rw [if_pos (by omega)] | rw [if_neg (by omega)]) trivial (by first | (rw [if_pos (by omega)]; exact hP) | (rw [if_neg (by omega)]; exact hP))
  · -- 8 to 11
    refine lv_iconst (v := iI (-1)) hx hb dX3_road_11 rfl ?_
    exact r_retM () hx hb hr hlocks hS dX3_road_12 (by first | rw [if_pos (by omega)] | rw [if_neg (by omega)]) trivial (by first | (rw [if_pos (by omega)]; exact hP) | (rw [if_neg (by omega)]; exact hP))
theorem fl_X3_dim_44 : Cond.fieldLink RX3 44 "NoiseLampsModel" "dims" "[I" ∈ wsX3_dim := by decide +kernel
set_option maxHeartbeats 4000000 in
set_option maxRecDepth 100000 in
theorem c_X3_dim (l : Launch) (D : va_G) (cy : ClassId) (M : Nat → Nat) (μ : Nat → Int → Int) (sz : Nat) (a z : Int) (hI : invM μ) (ha : I32 a) (hz : I32 z) : MetM l yX3_dim wsX3_dim ({ frames := 1, cells := 0, slots := 0, locals := 22 } : Room) D cy (wM cy M μ) ([.ref (M 100), .int (iI a), .int (iI z)] : List Value) sz (fun _ : Unit => (if (0 ≤ a ∧ a ≤ 23) ∧ (0 ≤ z ∧ z ≤ 100) then μ 15 a else -1)) (fun _ : Unit => True) (fun _ : Unit => wM cy M (if (0 ≤ a ∧ a ≤ 23) ∧ (0 ≤ z ∧ z ≤ 100) then su μ 15 (up (μ 15) a z) else μ)) := by
  refine met_M (cc := cX3_dim) (maxL := 4) (ret := (some .int)) (by decide) rfl (Nat.le_of_ble_eq_true rfl) ?_
  intro p e s m below meth c AA hAA hx hb hr hml hts hown hlocks hP hK hD hA ls hl
  have hS : va_S AA s.heap s.heap [] := va_S.rf
  have hown : s.vm.findClass RX3 = some m.cls := hown
  have hl : lv_has ls 4 [(0, .ref (M 100)), (1, .int (iI a)), (2, .int (iI z))] := hl
  obtain ⟨hM0, hM4, hM8, hM11, hM14, hB1, hB2, hB3, hB5, hB6, hB7, hB9, hB10, hB12, hB13, hB15, hB16⟩ := id hI
  refine lv_iload_n hx hb dX3_dim_0 rfl (lv_at hl 1 rfl) ?_
  refine lv_iconst (v := iI 0) hx hb dX3_dim_1 rfl ?_
  refine lv_bipush (v := iI 23) hx hb dX3_dim_2 (by decide +kernel) ?_
  refine r_calli (va_runS (As := [.int (iI a), .int (iI 0), .int (iI 23)]) (rest := []) ⟨hx, hb, hml, hown, hts⟩ (c_X3_within l  a 0 23 (by omega) (by omega) (by omega)) (va_cwS 3 hts gX3_dim_X3_within rfl rfl rfl (by decide +kernel) ⟨Nat.le_of_ble_eq_true rfl, Nat.le_of_ble_eq_true rfl⟩) ps_T rfl rfl hl.1 rfl (lv_room (Nat.le_of_ble_eq_true rfl)) dX3_dim_4 ⟨Nat.le_of_ble_eq_true rfl, Nat.le_of_ble_eq_true rfl⟩) ?_
  refine r_ifB_eq (tgt := 20) hx hb dX3_dim_7 (by decide) (fun h1 => ?_) (fun h1 => ?_)
  · -- 7 to 20
    refine lv_iconst (v := iI (-1)) hx hb dX3_dim_20 rfl ?_
    exact r_retM () hx hb hr hlocks hS dX3_dim_21 (by first | rw [if_pos (by omega)] | rw [if_neg (by omega)]) trivial (by first | (rw [if_pos (by omega)]; exact hP) | (rw [if_neg (by omega)]; exact hP))
  · -- 7 to 10
    refine lv_iload_n hx hb dX3_dim_10 rfl (lv_at hl 2 rfl) ?_
    refine lv_iconst (v := iI 0) hx hb dX3_dim_11 rfl ?_
    refine lv_bipush (v := iI 100) hx hb dX3_dim_12 (by decide +kernel) ?_
    refine r_calli (va_runS (As := [.int (iI z), .int (iI 0), .int (iI 100)]) (rest := []) ⟨hx, hb, hml, hown, hts⟩ (c_X3_within l  z 0 100 (by omega) (by omega) (by omega)) (va_cwS 3 hts gX3_dim_X3_within rfl rfl rfl (by decide +kernel) ⟨Nat.le_of_ble_eq_true rfl, Nat.le_of_ble_eq_true rfl⟩) ps_T rfl rfl hl.1 rfl (lv_room (Nat.le_of_ble_eq_true rfl)) dX3_dim_14 ⟨Nat.le_of_ble_eq_true rfl, Nat.le_of_ble_eq_true rfl⟩) ?_
    refine r_ifB_ne (tgt := 22) hx hb dX3_dim_17 (by decide) (fun h2 => ?_) (fun h2 => ?_)
    · -- 17 to 22
      refine lv_aload_n hx hb dX3_dim_22 rfl (lv_at hl 0 rfl) ?_
      refine va_get (D := D) (ci := 3) (v := .ref (M 15)) (C := RX3) (T := TX3) (N := 17) hx hb hts (fun _ h => List.mem_cons_of_mem _ (List.mem_append_right _ h)) hown hK hP 0 rfl rfl 15 (by decide) (hts _ fl_X3_dim_44) (fun _ h9 => h9) rfl dX3_dim_23 ?_
      refine lv_iload_n hx hb dX3_dim_26 rfl (lv_at hl 1 rfl) ?_
      refine r_iald hx hb hK hP 11 0 rfl rfl (Nat.le_of_ble_eq_true rfl) (by omega) dX3_dim_27 ?_
      have hv3 := hB15 a
      refine lv_istore_n (lv' := [(3, .int (iI (μ 15 a))), (0, .ref (M 100)), (1, .int (iI a)), (2, .int (iI z))]) hx hb dX3_dim_28 rfl hl (by decide) rfl (fun ls hl => ?_)
      refine lv_aload_n hx hb dX3_dim_29 rfl (lv_at hl 1 rfl) ?_
      refine va_get (D := D) (ci := 3) (v := .ref (M 15)) (C := RX3) (T := TX3) (N := 17) hx hb hts (fun _ h => List.mem_cons_of_mem _ (List.mem_append_right _ h)) hown hK hP 0 rfl rfl 15 (by decide) (hts _ fl_X3_dim_44) (fun _ h9 => h9) rfl dX3_dim_30 ?_
      refine lv_iload_n hx hb dX3_dim_33 rfl (lv_at hl 2 rfl) ?_
      refine lv_iload_n hx hb dX3_dim_34 rfl (lv_at hl 3 rfl) ?_
      refine r_iast hx hb hK hP hD hS 11 0 rfl rfl (Nat.le_of_ble_eq_true rfl) (by omega) dX3_dim_35 (fun H locs hP hD hS => ?_)
      have hP : va_P D vwCl (wM cy M (su μ 15 (up (μ 15) a z))) H := hP
      have hD : va_D AA (wM cy M (su μ 15 (up (μ 15) a z))) := hD
      refine lv_iload_n hx hb dX3_dim_36 rfl (lv_at hl 0 rfl) ?_
      exact r_retM () hx hb hr hlocks hS dX3_dim_37 (by first | rw [if_pos (by omega)] | rw [if_neg (by omega)]) trivial (by first | (rw [if_pos (by omega)]; exact hP) | (rw [if_neg (by omega)]; exact hP))
    · -- 17 to 20
      refine lv_iconst (v := iI (-1)) hx hb dX3_dim_20 rfl ?_
      exact r_retM () hx hb hr hlocks hS dX3_dim_21 (by first | rw [if_pos (by omega)] | rw [if_neg (by omega)]) trivial (by first | (rw [if_pos (by omega)]; exact hP) | (rw [if_neg (by omega)]; exact hP))
theorem fl_X3_piece_58 : Cond.fieldLink RX3 58 "NoiseLampsModel" "pieces" "I" ∈ wsX3_piece := by decide +kernel
theorem fl_X3_piece_7 : Cond.fieldLink RX3 7 "NoiseLampsModel" "pieceX" "[I" ∈ wsX3_piece := by decide +kernel
theorem fl_X3_piece_13 : Cond.fieldLink RX3 13 "NoiseLampsModel" "pieceY" "[I" ∈ wsX3_piece := by decide +kernel
theorem fl_X3_piece_16 : Cond.fieldLink RX3 16 "NoiseLampsModel" "levels" "[I" ∈ wsX3_piece := by decide +kernel
set_option maxHeartbeats 4000000 in
set_option maxRecDepth 100000 in
theorem c_X3_piece (l : Launch) (D : va_G) (cy : ClassId) (M : Nat → Nat) (μ : Nat → Int → Int) (sz : Nat) (x y a z t : Int) (hI : invM μ) (hx : I32 x) (hy : I32 y) (ha : I32 a) (hz : I32 z) (ht : I32 t) : MetM l yX3_piece wsX3_piece ({ frames := 2, cells := 0, slots := 0, locals := 43 } : Room) D cy (wM cy M μ) ([.ref (M 100), .int (iI x), .int (iI y), .int (iI a), .int (iI z), .int (iI t)] : List Value) sz (fun _ : Unit => (if (((-5000 ≤ x ∧ x ≤ 5000) ∧ (-5000 ≤ y ∧ y ≤ 5000)) ∧ (0 ≤ a ∧ a ≤ 1200) ∧ (0 ≤ z ∧ z ≤ 1200) ∧ (0 ≤ t ∧ t ≤ 1200)) ∧ μ 0 0 ≠ 12 then μ 0 0 else -1)) (fun _ : Unit => True) (fun _ : Unit => wM cy M (if (((-5000 ≤ x ∧ x ≤ 5000) ∧ (-5000 ≤ y ∧ y ≤ 5000)) ∧ (0 ≤ a ∧ a ≤ 1200) ∧ (0 ≤ z ∧ z ≤ 1200) ∧ (0 ≤ t ∧ t ≤ 1200)) ∧ μ 0 0 ≠ 12 then mPutP μ x y a z t else μ)) := by
  refine met_M (cc := cX3_piece) (maxL := 7) (ret := (some .int)) (by decide) rfl (Nat.le_of_ble_eq_true rfl) ?_
  intro p e s m below meth c AA hAA hx hb hr hml hts hown hlocks hP hK hD hA ls hl
  have hS : va_S AA s.heap s.heap [] := va_S.rf
  have hown : s.vm.findClass RX3 = some m.cls := hown
  have hl : lv_has ls 7 [(0, .ref (M 100)), (1, .int (iI x)), (2, .int (iI y)), (3, .int (iI a)), (4, .int (iI z)), (5, .int (iI t))] := hl
  obtain ⟨hM0, hM4, hM8, hM11, hM14, hB1, hB2, hB3, hB5, hB6, hB7, hB9, hB10, hB12, hB13, hB15, hB16⟩ := id hI
  refine lv_iload_n hx hb dX3_piece_0 rfl (lv_at hl 1 rfl) ?_
  refine lv_iload_n hx hb dX3_piece_1 rfl (lv_at hl 2 rfl) ?_
  refine r_calli (va_runS (As := [.int (iI x), .int (iI y)]) (rest := []) ⟨hx, hb, hml, hown, hts⟩ (c_X3_isPoint l  x y (by omega) (by omega)) (va_cwS 2 hts gX3_piece_X3_isPoint rfl rfl rfl (by decide +kernel) ⟨Nat.le_of_ble_eq_true rfl, Nat.le_of_ble_eq_true rfl⟩) ps_T rfl rfl hl.1 rfl (lv_room (Nat.le_of_ble_eq_true rfl)) dX3_piece_2 ⟨Nat.le_of_ble_eq_true rfl, Nat.le_of_ble_eq_true rfl⟩) ?_
  refine r_ifB_eq (tgt := 47) hx hb dX3_piece_5 (by decide) (fun h1 => ?_) (fun h1 => ?_)
  · -- 5 to 47
    refine lv_iconst (v := iI 0) hx hb dX3_piece_47 rfl ?_
    refine lv_istore (lv' := [(6, .int (iI 0)), (0, .ref (M 100)), (1, .int (iI x)), (2, .int (iI y)), (3, .int (iI a)), (4, .int (iI z)), (5, .int (iI t))]) hx hb dX3_piece_48 hl (by decide) rfl (fun ls hl => ?_)
    refine lv_iload hx hb dX3_piece_50 (lv_at hl 0 rfl) ?_
    refine r_if_eq (tgt := 64) hx hb dX3_piece_52 (by decide) (by omega) (fun _ => ?_) (fun h => absurd h (by decide))
    refine lv_iconst (v := iI (-1)) hx hb dX3_piece_64 rfl ?_
    exact r_retM () hx hb hr hlocks hS dX3_piece_65 (by first | (rw [if_pos (by omega)]; omega) | rw [if_neg (by omega)]) trivial (by first | (rw [if_pos (by omega)]; exact hP) | (rw [if_neg (by omega)]; exact hP))
  · -- 5 to 8
    refine lv_iload_n hx hb dX3_piece_8 rfl (lv_at hl 3 rfl) ?_
    refine lv_iconst (v := iI 0) hx hb dX3_piece_9 rfl ?_
    refine lv_sipush (v := iI 1200) hx hb dX3_piece_10 (by decide +kernel) ?_
    refine r_calli (va_runS (As := [.int (iI a), .int (iI 0), .int (iI 1200)]) (rest := []) ⟨hx, hb, hml, hown, hts⟩ (c_X3_within l  a 0 1200 (by omega) (by omega) (by omega)) (va_cwS 3 hts gX3_piece_X3_within rfl rfl rfl (by decide +kernel) ⟨Nat.le_of_ble_eq_true rfl, Nat.le_of_ble_eq_true rfl⟩) ps_T rfl rfl hl.1 rfl (lv_room (Nat.le_of_ble_eq_true rfl)) dX3_piece_13 ⟨Nat.le_of_ble_eq_true rfl, Nat.le_of_ble_eq_true rfl⟩) ?_
    refine r_ifB_eq (tgt := 47) hx hb dX3_piece_16 (by decide) (fun h2 => ?_) (fun h2 => ?_)
    · -- 16 to 47
      refine lv_iconst (v := iI 0) hx hb dX3_piece_47 rfl ?_
      refine lv_istore (lv' := [(6, .int (iI 0)), (0, .ref (M 100)), (1, .int (iI x)), (2, .int (iI y)), (3, .int (iI a)), (4, .int (iI z)), (5, .int (iI t))]) hx hb dX3_piece_48 hl (by decide) rfl (fun ls hl => ?_)
      refine lv_iload hx hb dX3_piece_50 (lv_at hl 0 rfl) ?_
      refine r_if_eq (tgt := 64) hx hb dX3_piece_52 (by decide) (by omega) (fun _ => ?_) (fun h => absurd h (by decide))
      refine lv_iconst (v := iI (-1)) hx hb dX3_piece_64 rfl ?_
      exact r_retM () hx hb hr hlocks hS dX3_piece_65 (by first | (rw [if_pos (by omega)]; omega) | rw [if_neg (by omega)]) trivial (by first | (rw [if_pos (by omega)]; exact hP) | (rw [if_neg (by omega)]; exact hP))
    · -- 16 to 19
      refine lv_iload hx hb dX3_piece_19 (lv_at hl 4 rfl) ?_
      refine lv_iconst (v := iI 0) hx hb dX3_piece_21 rfl ?_
      refine lv_sipush (v := iI 1200) hx hb dX3_piece_22 (by decide +kernel) ?_
      refine r_calli (va_runS (As := [.int (iI z), .int (iI 0), .int (iI 1200)]) (rest := []) ⟨hx, hb, hml, hown, hts⟩ (c_X3_within l  z 0 1200 (by omega) (by omega) (by omega)) (va_cwS 3 hts gX3_piece_X3_within rfl rfl rfl (by decide +kernel) ⟨Nat.le_of_ble_eq_true rfl, Nat.le_of_ble_eq_true rfl⟩) ps_T rfl rfl hl.1 rfl (lv_room (Nat.le_of_ble_eq_true rfl)) dX3_piece_25 ⟨Nat.le_of_ble_eq_true rfl, Nat.le_of_ble_eq_true rfl⟩) ?_
      refine r_ifB_eq (tgt := 47) hx hb dX3_piece_28 (by decide) (fun h3 => ?_) (fun h3 => ?_)
      · -- 28 to 47
        refine lv_iconst (v := iI 0) hx hb dX3_piece_47 rfl ?_
        refine lv_istore (lv' := [(6, .int (iI 0)), (0, .ref (M 100)), (1, .int (iI x)), (2, .int (iI y)), (3, .int (iI a)), (4, .int (iI z)), (5, .int (iI t))]) hx hb dX3_piece_48 hl (by decide) rfl (fun ls hl => ?_)
        refine lv_iload hx hb dX3_piece_50 (lv_at hl 0 rfl) ?_
        refine r_if_eq (tgt := 64) hx hb dX3_piece_52 (by decide) (by omega) (fun _ => ?_) (fun h => absurd h (by decide))
        refine lv_iconst (v := iI (-1)) hx hb dX3_piece_64 rfl ?_
        exact r_retM () hx hb hr hlocks hS dX3_piece_65 (by first | (rw [if_pos (by omega)]; omega) | rw [if_neg (by omega)]) trivial (by first | (rw [if_pos (by omega)]; exact hP) | (rw [if_neg (by omega)]; exact hP))
      · -- 28 to 31
        refine lv_iload hx hb dX3_piece_31 (lv_at hl 5 rfl) ?_
        refine lv_iconst (v := iI 0) hx hb dX3_piece_33 rfl ?_
        refine lv_sipush (v := iI 1200) hx hb dX3_piece_34 (by decide +kernel) ?_
        refine r_calli (va_runS (As := [.int (iI t), .int (iI 0), .int (iI 1200)]) (rest := []) ⟨hx, hb, hml, hown, hts⟩ (c_X3_within l  t 0 1200 (by omega) (by omega) (by omega)) (va_cwS 3 hts gX3_piece_X3_within rfl rfl rfl (by decide +kernel) ⟨Nat.le_of_ble_eq_true rfl, Nat.le_of_ble_eq_true rfl⟩) ps_T rfl rfl hl.1 rfl (lv_room (Nat.le_of_ble_eq_true rfl)) dX3_piece_37 ⟨Nat.le_of_ble_eq_true rfl, Nat.le_of_ble_eq_true rfl⟩) ?_
        refine r_ifB_eq (tgt := 47) hx hb dX3_piece_40 (by decide) (fun h4 => ?_) (fun h4 => ?_)
        · -- 40 to 47
          refine lv_iconst (v := iI 0) hx hb dX3_piece_47 rfl ?_
          refine lv_istore (lv' := [(6, .int (iI 0)), (0, .ref (M 100)), (1, .int (iI x)), (2, .int (iI y)), (3, .int (iI a)), (4, .int (iI z)), (5, .int (iI t))]) hx hb dX3_piece_48 hl (by decide) rfl (fun ls hl => ?_)
          refine lv_iload hx hb dX3_piece_50 (lv_at hl 0 rfl) ?_
          refine r_if_eq (tgt := 64) hx hb dX3_piece_52 (by decide) (by omega) (fun _ => ?_) (fun h => absurd h (by decide))
          refine lv_iconst (v := iI (-1)) hx hb dX3_piece_64 rfl ?_
          exact r_retM () hx hb hr hlocks hS dX3_piece_65 (by first | (rw [if_pos (by omega)]; omega) | rw [if_neg (by omega)]) trivial (by first | (rw [if_pos (by omega)]; exact hP) | (rw [if_neg (by omega)]; exact hP))
        · -- 40 to 43
          refine lv_iconst (v := iI 1) hx hb dX3_piece_43 rfl ?_
          refine lv_goto (tgt := 48) hx hb dX3_piece_44 (by decide) ?_
          refine lv_istore (lv' := [(6, .int (iI 1)), (0, .ref (M 100)), (1, .int (iI x)), (2, .int (iI y)), (3, .int (iI a)), (4, .int (iI z)), (5, .int (iI t))]) hx hb dX3_piece_48 hl (by decide) rfl (fun ls hl => ?_)
          refine lv_iload hx hb dX3_piece_50 (lv_at hl 0 rfl) ?_
          refine r_if_eq (tgt := 64) hx hb dX3_piece_52 (by decide) (by omega) (fun h => absurd h (by decide)) (fun _ => ?_)
          refine lv_aload_n hx hb dX3_piece_55 rfl (lv_at hl 1 rfl) ?_
          refine va_get (D := D) (ci := 3) (v := .int (iI (μ 0 0))) (C := RX3) (T := TX3) (N := 17) hx hb hts (fun _ h => List.mem_cons_of_mem _ (List.mem_append_right _ h)) hown hK hP 0 rfl rfl 0 (by decide) (hts _ fl_X3_piece_58) (fun _ h9 => h9) rfl dX3_piece_56 ?_
          refine lv_bipush (v := iI 12) hx hb dX3_piece_59 (by decide +kernel) ?_
          refine r_icmp_ne (tgt := 66) hx hb dX3_piece_61 (by decide) (by omega) (by omega) (fun h5 => ?_) (fun h5 => ?_)
          · -- 61 to 66
            refine lv_aload_n hx hb dX3_piece_66 rfl (lv_at hl 1 rfl) ?_
            refine va_get (D := D) (ci := 3) (v := .ref (M 1)) (C := RX3) (T := TX3) (N := 17) hx hb hts (fun _ h => List.mem_cons_of_mem _ (List.mem_append_right _ h)) hown hK hP 0 rfl rfl 1 (by decide) (hts _ fl_X3_piece_7) (fun _ h9 => h9) rfl dX3_piece_67 ?_
            refine lv_aload_n hx hb dX3_piece_70 rfl (lv_at hl 1 rfl) ?_
            refine va_get (D := D) (ci := 3) (v := .int (iI (μ 0 0))) (C := RX3) (T := TX3) (N := 17) hx hb hts (fun _ h => List.mem_cons_of_mem _ (List.mem_append_right _ h)) hown hK hP 0 rfl rfl 0 (by decide) (hts _ fl_X3_piece_58) (fun _ h9 => h9) rfl dX3_piece_71 ?_
            refine lv_iload_n hx hb dX3_piece_74 rfl (lv_at hl 2 rfl) ?_
            refine r_iast hx hb hK hP hD hS 1 0 rfl rfl (Nat.le_of_ble_eq_true rfl) (by omega) dX3_piece_75 (fun H locs hP hD hS => ?_)
            have hP : va_P D vwCl (wM cy M (su μ 1 (up (μ 1) (μ 0 0) x))) H := hP
            have hD : va_D AA (wM cy M (su μ 1 (up (μ 1) (μ 0 0) x))) := hD
            refine lv_aload_n hx hb dX3_piece_76 rfl (lv_at hl 1 rfl) ?_
            refine va_get (D := D) (ci := 3) (v := .ref (M 2)) (C := RX3) (T := TX3) (N := 17) hx hb hts (fun _ h => List.mem_cons_of_mem _ (List.mem_append_right _ h)) hown hK hP 0 rfl rfl 2 (by decide) (hts _ fl_X3_piece_13) (fun _ h9 => h9) rfl dX3_piece_77 ?_
            refine lv_aload_n hx hb dX3_piece_80 rfl (lv_at hl 1 rfl) ?_
            refine va_get (D := D) (ci := 3) (v := .int (iI (μ 0 0))) (C := RX3) (T := TX3) (N := 17) hx hb hts (fun _ h => List.mem_cons_of_mem _ (List.mem_append_right _ h)) hown hK hP 0 rfl rfl 0 (by decide) (hts _ fl_X3_piece_58) (fun _ h9 => h9) rfl dX3_piece_81 ?_
            refine lv_iload_n hx hb dX3_piece_84 rfl (lv_at hl 3 rfl) ?_
            refine r_iast hx hb hK hP hD hS 2 0 rfl rfl (Nat.le_of_ble_eq_true rfl) (by omega) dX3_piece_85 (fun H locs hP hD hS => ?_)
            have hP : va_P D vwCl (wM cy M (su (su μ 1 (up (μ 1) (μ 0 0) x)) 2 (up (μ 2) (μ 0 0) y))) H := hP
            have hD : va_D AA (wM cy M (su (su μ 1 (up (μ 1) (μ 0 0) x)) 2 (up (μ 2) (μ 0 0) y))) := hD
            refine lv_aload_n hx hb dX3_piece_86 rfl (lv_at hl 1 rfl) ?_
            refine va_get (D := D) (ci := 3) (v := .ref (M 3)) (C := RX3) (T := TX3) (N := 17) hx hb hts (fun _ h => List.mem_cons_of_mem _ (List.mem_append_right _ h)) hown hK hP 0 rfl rfl 3 (by decide) (hts _ fl_X3_piece_16) (fun _ h9 => h9) rfl dX3_piece_87 ?_
            refine lv_iconst (v := iI 3) hx hb dX3_piece_90 rfl ?_
            refine lv_aload_n hx hb dX3_piece_91 rfl (lv_at hl 1 rfl) ?_
            refine va_get (D := D) (ci := 3) (v := .int (iI (μ 0 0))) (C := RX3) (T := TX3) (N := 17) hx hb hts (fun _ h => List.mem_cons_of_mem _ (List.mem_append_right _ h)) hown hK hP 0 rfl rfl 0 (by decide) (hts _ fl_X3_piece_58) (fun _ h9 => h9) rfl dX3_piece_92 ?_
            refine r_imul hx hb dX3_piece_95 ?_
            refine lv_iload_n hx hb dX3_piece_96 rfl (lv_at hl 4 rfl) ?_
            refine r_iast hx hb hK hP hD hS 3 0 rfl rfl (Nat.le_of_ble_eq_true rfl) (by omega) dX3_piece_97 (fun H locs hP hD hS => ?_)
            have hP : va_P D vwCl (wM cy M (su (su (su μ 1 (up (μ 1) (μ 0 0) x)) 2 (up (μ 2) (μ 0 0) y)) 3 (up (μ 3) (3 * (μ 0 0)) a))) H := hP
            have hD : va_D AA (wM cy M (su (su (su μ 1 (up (μ 1) (μ 0 0) x)) 2 (up (μ 2) (μ 0 0) y)) 3 (up (μ 3) (3 * (μ 0 0)) a))) := hD
            refine lv_aload_n hx hb dX3_piece_98 rfl (lv_at hl 1 rfl) ?_
            refine va_get (D := D) (ci := 3) (v := .ref (M 3)) (C := RX3) (T := TX3) (N := 17) hx hb hts (fun _ h => List.mem_cons_of_mem _ (List.mem_append_right _ h)) hown hK hP 0 rfl rfl 3 (by decide) (hts _ fl_X3_piece_16) (fun _ h9 => h9) rfl dX3_piece_99 ?_
            refine lv_iconst (v := iI 3) hx hb dX3_piece_102 rfl ?_
            refine lv_aload_n hx hb dX3_piece_103 rfl (lv_at hl 1 rfl) ?_
            refine va_get (D := D) (ci := 3) (v := .int (iI (μ 0 0))) (C := RX3) (T := TX3) (N := 17) hx hb hts (fun _ h => List.mem_cons_of_mem _ (List.mem_append_right _ h)) hown hK hP 0 rfl rfl 0 (by decide) (hts _ fl_X3_piece_58) (fun _ h9 => h9) rfl dX3_piece_104 ?_
            refine r_imul hx hb dX3_piece_107 ?_
            refine lv_iconst (v := iI 1) hx hb dX3_piece_108 rfl ?_
            refine r_iadd hx hb dX3_piece_109 ?_
            refine lv_iload hx hb dX3_piece_110 (lv_at hl 5 rfl) ?_
            refine r_iast hx hb hK hP hD hS 3 0 rfl rfl (Nat.le_of_ble_eq_true rfl) (by omega) dX3_piece_112 (fun H locs hP hD hS => ?_)
            have hP : va_P D vwCl (wM cy M (su (su (su (su μ 1 (up (μ 1) (μ 0 0) x)) 2 (up (μ 2) (μ 0 0) y)) 3 (up (μ 3) (3 * (μ 0 0)) a)) 3 (up (up (μ 3) (3 * (μ 0 0)) a) ((3 * (μ 0 0)) + 1) z))) H := hP
            have hD : va_D AA (wM cy M (su (su (su (su μ 1 (up (μ 1) (μ 0 0) x)) 2 (up (μ 2) (μ 0 0) y)) 3 (up (μ 3) (3 * (μ 0 0)) a)) 3 (up (up (μ 3) (3 * (μ 0 0)) a) ((3 * (μ 0 0)) + 1) z))) := hD
            refine lv_aload_n hx hb dX3_piece_113 rfl (lv_at hl 1 rfl) ?_
            refine va_get (D := D) (ci := 3) (v := .ref (M 3)) (C := RX3) (T := TX3) (N := 17) hx hb hts (fun _ h => List.mem_cons_of_mem _ (List.mem_append_right _ h)) hown hK hP 0 rfl rfl 3 (by decide) (hts _ fl_X3_piece_16) (fun _ h9 => h9) rfl dX3_piece_114 ?_
            refine lv_iconst (v := iI 3) hx hb dX3_piece_117 rfl ?_
            refine lv_aload_n hx hb dX3_piece_118 rfl (lv_at hl 1 rfl) ?_
            refine va_get (D := D) (ci := 3) (v := .int (iI (μ 0 0))) (C := RX3) (T := TX3) (N := 17) hx hb hts (fun _ h => List.mem_cons_of_mem _ (List.mem_append_right _ h)) hown hK hP 0 rfl rfl 0 (by decide) (hts _ fl_X3_piece_58) (fun _ h9 => h9) rfl dX3_piece_119 ?_
            refine r_imul hx hb dX3_piece_122 ?_
            refine lv_iconst (v := iI 2) hx hb dX3_piece_123 rfl ?_
            refine r_iadd hx hb dX3_piece_124 ?_
            refine lv_iload hx hb dX3_piece_125 (lv_at hl 6 rfl) ?_
            refine r_iast hx hb hK hP hD hS 3 0 rfl rfl (Nat.le_of_ble_eq_true rfl) (by omega) dX3_piece_127 (fun H locs hP hD hS => ?_)
            have hP : va_P D vwCl (wM cy M (su (su (su (su (su μ 1 (up (μ 1) (μ 0 0) x)) 2 (up (μ 2) (μ 0 0) y)) 3 (up (μ 3) (3 * (μ 0 0)) a)) 3 (up (up (μ 3) (3 * (μ 0 0)) a) ((3 * (μ 0 0)) + 1) z)) 3 (up (up (up (μ 3) (3 * (μ 0 0)) a) ((3 * (μ 0 0)) + 1) z) ((3 * (μ 0 0)) + 2) t))) H := hP
            have hD : va_D AA (wM cy M (su (su (su (su (su μ 1 (up (μ 1) (μ 0 0) x)) 2 (up (μ 2) (μ 0 0) y)) 3 (up (μ 3) (3 * (μ 0 0)) a)) 3 (up (up (μ 3) (3 * (μ 0 0)) a) ((3 * (μ 0 0)) + 1) z)) 3 (up (up (up (μ 3) (3 * (μ 0 0)) a) ((3 * (μ 0 0)) + 1) z) ((3 * (μ 0 0)) + 2) t))) := hD
            refine lv_aload_n hx hb dX3_piece_128 rfl (lv_at hl 1 rfl) ?_
            refine lv_dup hx hb dX3_piece_129 rfl ?_
            refine va_get (D := D) (ci := 3) (v := .int (iI (μ 0 0))) (C := RX3) (T := TX3) (N := 17) hx hb hts (fun _ h => List.mem_cons_of_mem _ (List.mem_append_right _ h)) hown hK hP 0 rfl rfl 0 (by decide) (hts _ fl_X3_piece_58) (fun _ h9 => h9) rfl dX3_piece_130 ?_
            refine lv_iconst (v := iI 1) hx hb dX3_piece_133 rfl ?_
            refine r_iadd hx hb dX3_piece_134 ?_
            refine va_put (D := D) (ci := 3) (v := .int (iI ((μ 0 0) + 1))) (ty := .int) (C := RX3) (T := TX3) (N := 17) hx hb hts (fun _ h => List.mem_cons_of_mem _ (List.mem_append_right _ h)) tyX3 tyX3_ok nmX3 hown hK hP hD hS 0 rfl rfl 0 (by decide) (hts _ fl_X3_piece_58) (fun _ h9 => h9) rfl (by decide +kernel) rfl rfl (Nat.le_of_ble_eq_true rfl) dX3_piece_135 (fun H locs hP hD hS => ?_)
            have hP : va_P D vwCl (wM cy M (su (su (su (su (su (su μ 1 (up (μ 1) (μ 0 0) x)) 2 (up (μ 2) (μ 0 0) y)) 3 (up (μ 3) (3 * (μ 0 0)) a)) 3 (up (up (μ 3) (3 * (μ 0 0)) a) ((3 * (μ 0 0)) + 1) z)) 3 (up (up (up (μ 3) (3 * (μ 0 0)) a) ((3 * (μ 0 0)) + 1) z) ((3 * (μ 0 0)) + 2) t)) 0 (fun _ => ((μ 0 0) + 1)))) H := hP
            have hD : va_D AA (wM cy M (su (su (su (su (su (su μ 1 (up (μ 1) (μ 0 0) x)) 2 (up (μ 2) (μ 0 0) y)) 3 (up (μ 3) (3 * (μ 0 0)) a)) 3 (up (up (μ 3) (3 * (μ 0 0)) a) ((3 * (μ 0 0)) + 1) z)) 3 (up (up (up (μ 3) (3 * (μ 0 0)) a) ((3 * (μ 0 0)) + 1) z) ((3 * (μ 0 0)) + 2) t)) 0 (fun _ => ((μ 0 0) + 1)))) := hD
            refine lv_aload_n hx hb dX3_piece_138 rfl (lv_at hl 1 rfl) ?_
            refine va_get (D := D) (ci := 3) (v := .int (iI ((μ 0 0) + 1))) (C := RX3) (T := TX3) (N := 17) hx hb hts (fun _ h => List.mem_cons_of_mem _ (List.mem_append_right _ h)) hown hK hP 0 rfl rfl 0 (by decide) (hts _ fl_X3_piece_58) (fun _ h9 => h9) rfl dX3_piece_139 ?_
            refine lv_iconst (v := iI 1) hx hb dX3_piece_142 rfl ?_
            refine r_isub hx hb dX3_piece_143 ?_
            exact r_retM () hx hb hr hlocks hS dX3_piece_144 (by first | (rw [if_pos (by omega)]; omega) | rw [if_neg (by omega)]) trivial (by first | (rw [if_pos (by omega)]; exact hP) | (rw [if_neg (by omega)]; exact hP))
          · -- 61 to 64
            refine lv_iconst (v := iI (-1)) hx hb dX3_piece_64 rfl ?_
            exact r_retM () hx hb hr hlocks hS dX3_piece_65 (by first | (rw [if_pos (by omega)]; omega) | rw [if_neg (by omega)]) trivial (by first | (rw [if_pos (by omega)]; exact hP) | (rw [if_neg (by omega)]; exact hP))
theorem fl_X3_house_61 : Cond.fieldLink RX3 61 "NoiseLampsModel" "houses" "I" ∈ wsX3_house := by decide +kernel
theorem fl_X3_house_19 : Cond.fieldLink RX3 19 "NoiseLampsModel" "houseX" "[I" ∈ wsX3_house := by decide +kernel
theorem fl_X3_house_22 : Cond.fieldLink RX3 22 "NoiseLampsModel" "houseY" "[I" ∈ wsX3_house := by decide +kernel
theorem fl_X3_house_25 : Cond.fieldLink RX3 25 "NoiseLampsModel" "people" "[I" ∈ wsX3_house := by decide +kernel
set_option maxHeartbeats 4000000 in
set_option maxRecDepth 100000 in
theorem c_X3_house (l : Launch) (D : va_G) (cy : ClassId) (M : Nat → Nat) (μ : Nat → Int → Int) (sz : Nat) (x y n : Int) (hI : invM μ) (hx : I32 x) (hy : I32 y) (hn : I32 n) : MetM l yX3_house wsX3_house ({ frames := 2, cells := 0, slots := 0, locals := 43 } : Room) D cy (wM cy M μ) ([.ref (M 100), .int (iI x), .int (iI y), .int (iI n)] : List Value) sz (fun _ : Unit => (if (((-5000 ≤ x ∧ x ≤ 5000) ∧ (-5000 ≤ y ∧ y ≤ 5000)) ∧ (0 ≤ n ∧ n ≤ 1000)) ∧ μ 4 0 ≠ 20 then μ 4 0 else -1)) (fun _ : Unit => True) (fun _ : Unit => wM cy M (if (((-5000 ≤ x ∧ x ≤ 5000) ∧ (-5000 ≤ y ∧ y ≤ 5000)) ∧ (0 ≤ n ∧ n ≤ 1000)) ∧ μ 4 0 ≠ 20 then mPutH μ x y n else μ)) := by
  refine met_M (cc := cX3_house) (maxL := 4) (ret := (some .int)) (by decide) rfl (Nat.le_of_ble_eq_true rfl) ?_
  intro p e s m below meth c AA hAA hx hb hr hml hts hown hlocks hP hK hD hA ls hl
  have hS : va_S AA s.heap s.heap [] := va_S.rf
  have hown : s.vm.findClass RX3 = some m.cls := hown
  have hl : lv_has ls 4 [(0, .ref (M 100)), (1, .int (iI x)), (2, .int (iI y)), (3, .int (iI n))] := hl
  obtain ⟨hM0, hM4, hM8, hM11, hM14, hB1, hB2, hB3, hB5, hB6, hB7, hB9, hB10, hB12, hB13, hB15, hB16⟩ := id hI
  refine lv_iload_n hx hb dX3_house_0 rfl (lv_at hl 1 rfl) ?_
  refine lv_iload_n hx hb dX3_house_1 rfl (lv_at hl 2 rfl) ?_
  refine r_calli (va_runS (As := [.int (iI x), .int (iI y)]) (rest := []) ⟨hx, hb, hml, hown, hts⟩ (c_X3_isPoint l  x y (by omega) (by omega)) (va_cwS 2 hts gX3_house_X3_isPoint rfl rfl rfl (by decide +kernel) ⟨Nat.le_of_ble_eq_true rfl, Nat.le_of_ble_eq_true rfl⟩) ps_T rfl rfl hl.1 rfl (lv_room (Nat.le_of_ble_eq_true rfl)) dX3_house_2 ⟨Nat.le_of_ble_eq_true rfl, Nat.le_of_ble_eq_true rfl⟩) ?_
  refine r_ifB_eq (tgt := 28) hx hb dX3_house_5 (by decide) (fun h1 => ?_) (fun h1 => ?_)
  · -- 5 to 28
    refine lv_iconst (v := iI (-1)) hx hb dX3_house_28 rfl ?_
    exact r_retM () hx hb hr hlocks hS dX3_house_29 (by first | (rw [if_pos (by omega)]; omega) | rw [if_neg (by omega)]) trivial (by first | (rw [if_pos (by omega)]; exact hP) | (rw [if_neg (by omega)]; exact hP))
  · -- 5 to 8
    refine lv_iload_n hx hb dX3_house_8 rfl (lv_at hl 3 rfl) ?_
    refine lv_iconst (v := iI 0) hx hb dX3_house_9 rfl ?_
    refine lv_sipush (v := iI 1000) hx hb dX3_house_10 (by decide +kernel) ?_
    refine r_calli (va_runS (As := [.int (iI n), .int (iI 0), .int (iI 1000)]) (rest := []) ⟨hx, hb, hml, hown, hts⟩ (c_X3_within l  n 0 1000 (by omega) (by omega) (by omega)) (va_cwS 3 hts gX3_house_X3_within rfl rfl rfl (by decide +kernel) ⟨Nat.le_of_ble_eq_true rfl, Nat.le_of_ble_eq_true rfl⟩) ps_T rfl rfl hl.1 rfl (lv_room (Nat.le_of_ble_eq_true rfl)) dX3_house_13 ⟨Nat.le_of_ble_eq_true rfl, Nat.le_of_ble_eq_true rfl⟩) ?_
    refine r_ifB_eq (tgt := 28) hx hb dX3_house_16 (by decide) (fun h2 => ?_) (fun h2 => ?_)
    · -- 16 to 28
      refine lv_iconst (v := iI (-1)) hx hb dX3_house_28 rfl ?_
      exact r_retM () hx hb hr hlocks hS dX3_house_29 (by first | (rw [if_pos (by omega)]; omega) | rw [if_neg (by omega)]) trivial (by first | (rw [if_pos (by omega)]; exact hP) | (rw [if_neg (by omega)]; exact hP))
    · -- 16 to 19
      refine lv_aload_n hx hb dX3_house_19 rfl (lv_at hl 0 rfl) ?_
      refine va_get (D := D) (ci := 3) (v := .int (iI (μ 4 0))) (C := RX3) (T := TX3) (N := 17) hx hb hts (fun _ h => List.mem_cons_of_mem _ (List.mem_append_right _ h)) hown hK hP 0 rfl rfl 4 (by decide) (hts _ fl_X3_house_61) (fun _ h9 => h9) rfl dX3_house_20 ?_
      refine lv_bipush (v := iI 20) hx hb dX3_house_23 (by decide +kernel) ?_
      refine r_icmp_ne (tgt := 30) hx hb dX3_house_25 (by decide) (by omega) (by omega) (fun h3 => ?_) (fun h3 => ?_)
      · -- 25 to 30
        refine lv_aload_n hx hb dX3_house_30 rfl (lv_at hl 0 rfl) ?_
        refine va_get (D := D) (ci := 3) (v := .ref (M 5)) (C := RX3) (T := TX3) (N := 17) hx hb hts (fun _ h => List.mem_cons_of_mem _ (List.mem_append_right _ h)) hown hK hP 0 rfl rfl 5 (by decide) (hts _ fl_X3_house_19) (fun _ h9 => h9) rfl dX3_house_31 ?_
        refine lv_aload_n hx hb dX3_house_34 rfl (lv_at hl 0 rfl) ?_
        refine va_get (D := D) (ci := 3) (v := .int (iI (μ 4 0))) (C := RX3) (T := TX3) (N := 17) hx hb hts (fun _ h => List.mem_cons_of_mem _ (List.mem_append_right _ h)) hown hK hP 0 rfl rfl 4 (by decide) (hts _ fl_X3_house_61) (fun _ h9 => h9) rfl dX3_house_35 ?_
        refine lv_iload_n hx hb dX3_house_38 rfl (lv_at hl 1 rfl) ?_
        refine r_iast hx hb hK hP hD hS 4 0 rfl rfl (Nat.le_of_ble_eq_true rfl) (by omega) dX3_house_39 (fun H locs hP hD hS => ?_)
        have hP : va_P D vwCl (wM cy M (su μ 5 (up (μ 5) (μ 4 0) x))) H := hP
        have hD : va_D AA (wM cy M (su μ 5 (up (μ 5) (μ 4 0) x))) := hD
        refine lv_aload_n hx hb dX3_house_40 rfl (lv_at hl 0 rfl) ?_
        refine va_get (D := D) (ci := 3) (v := .ref (M 6)) (C := RX3) (T := TX3) (N := 17) hx hb hts (fun _ h => List.mem_cons_of_mem _ (List.mem_append_right _ h)) hown hK hP 0 rfl rfl 6 (by decide) (hts _ fl_X3_house_22) (fun _ h9 => h9) rfl dX3_house_41 ?_
        refine lv_aload_n hx hb dX3_house_44 rfl (lv_at hl 0 rfl) ?_
        refine va_get (D := D) (ci := 3) (v := .int (iI (μ 4 0))) (C := RX3) (T := TX3) (N := 17) hx hb hts (fun _ h => List.mem_cons_of_mem _ (List.mem_append_right _ h)) hown hK hP 0 rfl rfl 4 (by decide) (hts _ fl_X3_house_61) (fun _ h9 => h9) rfl dX3_house_45 ?_
        refine lv_iload_n hx hb dX3_house_48 rfl (lv_at hl 2 rfl) ?_
        refine r_iast hx hb hK hP hD hS 5 0 rfl rfl (Nat.le_of_ble_eq_true rfl) (by omega) dX3_house_49 (fun H locs hP hD hS => ?_)
        have hP : va_P D vwCl (wM cy M (su (su μ 5 (up (μ 5) (μ 4 0) x)) 6 (up (μ 6) (μ 4 0) y))) H := hP
        have hD : va_D AA (wM cy M (su (su μ 5 (up (μ 5) (μ 4 0) x)) 6 (up (μ 6) (μ 4 0) y))) := hD
        refine lv_aload_n hx hb dX3_house_50 rfl (lv_at hl 0 rfl) ?_
        refine va_get (D := D) (ci := 3) (v := .ref (M 7)) (C := RX3) (T := TX3) (N := 17) hx hb hts (fun _ h => List.mem_cons_of_mem _ (List.mem_append_right _ h)) hown hK hP 0 rfl rfl 7 (by decide) (hts _ fl_X3_house_25) (fun _ h9 => h9) rfl dX3_house_51 ?_
        refine lv_aload_n hx hb dX3_house_54 rfl (lv_at hl 0 rfl) ?_
        refine va_get (D := D) (ci := 3) (v := .int (iI (μ 4 0))) (C := RX3) (T := TX3) (N := 17) hx hb hts (fun _ h => List.mem_cons_of_mem _ (List.mem_append_right _ h)) hown hK hP 0 rfl rfl 4 (by decide) (hts _ fl_X3_house_61) (fun _ h9 => h9) rfl dX3_house_55 ?_
        refine lv_iload_n hx hb dX3_house_58 rfl (lv_at hl 3 rfl) ?_
        refine r_iast hx hb hK hP hD hS 6 0 rfl rfl (Nat.le_of_ble_eq_true rfl) (by omega) dX3_house_59 (fun H locs hP hD hS => ?_)
        have hP : va_P D vwCl (wM cy M (su (su (su μ 5 (up (μ 5) (μ 4 0) x)) 6 (up (μ 6) (μ 4 0) y)) 7 (up (μ 7) (μ 4 0) n))) H := hP
        have hD : va_D AA (wM cy M (su (su (su μ 5 (up (μ 5) (μ 4 0) x)) 6 (up (μ 6) (μ 4 0) y)) 7 (up (μ 7) (μ 4 0) n))) := hD
        refine lv_aload_n hx hb dX3_house_60 rfl (lv_at hl 0 rfl) ?_
        refine lv_dup hx hb dX3_house_61 rfl ?_
        refine va_get (D := D) (ci := 3) (v := .int (iI (μ 4 0))) (C := RX3) (T := TX3) (N := 17) hx hb hts (fun _ h => List.mem_cons_of_mem _ (List.mem_append_right _ h)) hown hK hP 0 rfl rfl 4 (by decide) (hts _ fl_X3_house_61) (fun _ h9 => h9) rfl dX3_house_62 ?_
        refine lv_iconst (v := iI 1) hx hb dX3_house_65 rfl ?_
        refine r_iadd hx hb dX3_house_66 ?_
        refine va_put (D := D) (ci := 3) (v := .int (iI ((μ 4 0) + 1))) (ty := .int) (C := RX3) (T := TX3) (N := 17) hx hb hts (fun _ h => List.mem_cons_of_mem _ (List.mem_append_right _ h)) tyX3 tyX3_ok nmX3 hown hK hP hD hS 0 rfl rfl 4 (by decide) (hts _ fl_X3_house_61) (fun _ h9 => h9) rfl (by decide +kernel) rfl rfl (Nat.le_of_ble_eq_true rfl) dX3_house_67 (fun H locs hP hD hS => ?_)
        have hP : va_P D vwCl (wM cy M (su (su (su (su μ 5 (up (μ 5) (μ 4 0) x)) 6 (up (μ 6) (μ 4 0) y)) 7 (up (μ 7) (μ 4 0) n)) 4 (fun _ => ((μ 4 0) + 1)))) H := hP
        have hD : va_D AA (wM cy M (su (su (su (su μ 5 (up (μ 5) (μ 4 0) x)) 6 (up (μ 6) (μ 4 0) y)) 7 (up (μ 7) (μ 4 0) n)) 4 (fun _ => ((μ 4 0) + 1)))) := hD
        refine lv_aload_n hx hb dX3_house_70 rfl (lv_at hl 0 rfl) ?_
        refine va_get (D := D) (ci := 3) (v := .int (iI ((μ 4 0) + 1))) (C := RX3) (T := TX3) (N := 17) hx hb hts (fun _ h => List.mem_cons_of_mem _ (List.mem_append_right _ h)) hown hK hP 0 rfl rfl 4 (by decide) (hts _ fl_X3_house_61) (fun _ h9 => h9) rfl dX3_house_71 ?_
        refine lv_iconst (v := iI 1) hx hb dX3_house_74 rfl ?_
        refine r_isub hx hb dX3_house_75 ?_
        exact r_retM () hx hb hr hlocks hS dX3_house_76 (by first | (rw [if_pos (by omega)]; omega) | rw [if_neg (by omega)]) trivial (by first | (rw [if_pos (by omega)]; exact hP) | (rw [if_neg (by omega)]; exact hP))
      · -- 25 to 28
        refine lv_iconst (v := iI (-1)) hx hb dX3_house_28 rfl ?_
        exact r_retM () hx hb hr hlocks hS dX3_house_29 (by first | (rw [if_pos (by omega)]; omega) | rw [if_neg (by omega)]) trivial (by first | (rw [if_pos (by omega)]; exact hP) | (rw [if_neg (by omega)]; exact hP))
theorem fl_X3_wall_64 : Cond.fieldLink RX3 64 "NoiseLampsModel" "walls" "I" ∈ wsX3_wall := by decide +kernel
theorem fl_X3_wall_28 : Cond.fieldLink RX3 28 "NoiseLampsModel" "ends" "[I" ∈ wsX3_wall := by decide +kernel
theorem fl_X3_wall_31 : Cond.fieldLink RX3 31 "NoiseLampsModel" "cuts" "[I" ∈ wsX3_wall := by decide +kernel
set_option maxHeartbeats 4000000 in
set_option maxRecDepth 100000 in
theorem c_X3_wall (l : Launch) (D : va_G) (cy : ClassId) (M : Nat → Nat) (μ : Nat → Int → Int) (sz : Nat) (x y z w v : Int) (hI : invM μ) (hx : I32 x) (hy : I32 y) (hz : I32 z) (hw : I32 w) (hv : I32 v) : MetM l yX3_wall wsX3_wall ({ frames := 2, cells := 0, slots := 0, locals := 43 } : Room) D cy (wM cy M μ) ([.ref (M 100), .int (iI x), .int (iI y), .int (iI z), .int (iI w), .int (iI v)] : List Value) sz (fun _ : Unit => (if (((-5000 ≤ x ∧ x ≤ 5000) ∧ (-5000 ≤ y ∧ y ≤ 5000)) ∧ ((-5000 ≤ z ∧ z ≤ 5000) ∧ (-5000 ≤ w ∧ w ≤ 5000)) ∧ (x ≠ z ∨ y ≠ w) ∧ (0 ≤ v ∧ v ≤ 300)) ∧ μ 8 0 ≠ 8 then μ 8 0 else -1)) (fun _ : Unit => True) (fun _ : Unit => wM cy M (if (((-5000 ≤ x ∧ x ≤ 5000) ∧ (-5000 ≤ y ∧ y ≤ 5000)) ∧ ((-5000 ≤ z ∧ z ≤ 5000) ∧ (-5000 ≤ w ∧ w ≤ 5000)) ∧ (x ≠ z ∨ y ≠ w) ∧ (0 ≤ v ∧ v ≤ 300)) ∧ μ 8 0 ≠ 8 then mPutW μ x y z w v else μ)) := by
  refine met_M (cc := cX3_wall) (maxL := 7) (ret := (some .int)) (by decide) rfl (Nat.le_of_ble_eq_true rfl) ?_
  intro p e s m below meth c AA hAA hx hb hr hml hts hown hlocks hP hK hD hA ls hl
  have hS : va_S AA s.heap s.heap [] := va_S.rf
  have hown : s.vm.findClass RX3 = some m.cls := hown
  have hl : lv_has ls 7 [(0, .ref (M 100)), (1, .int (iI x)), (2, .int (iI y)), (3, .int (iI z)), (4, .int (iI w)), (5, .int (iI v))] := hl
  obtain ⟨hM0, hM4, hM8, hM11, hM14, hB1, hB2, hB3, hB5, hB6, hB7, hB9, hB10, hB12, hB13, hB15, hB16⟩ := id hI
  refine lv_iload_n hx hb dX3_wall_0 rfl (lv_at hl 1 rfl) ?_
  refine lv_iload_n hx hb dX3_wall_1 rfl (lv_at hl 2 rfl) ?_
  refine r_calli (va_runS (As := [.int (iI x), .int (iI y)]) (rest := []) ⟨hx, hb, hml, hown, hts⟩ (c_X3_isPoint l  x y (by omega) (by omega)) (va_cwS 2 hts gX3_wall_X3_isPoint rfl rfl rfl (by decide +kernel) ⟨Nat.le_of_ble_eq_true rfl, Nat.le_of_ble_eq_true rfl⟩) ps_T rfl rfl hl.1 rfl (lv_room (Nat.le_of_ble_eq_true rfl)) dX3_wall_2 ⟨Nat.le_of_ble_eq_true rfl, Nat.le_of_ble_eq_true rfl⟩) ?_
  refine r_ifB_eq (tgt := 44) hx hb dX3_wall_5 (by decide) (fun h1 => ?_) (fun h1 => ?_)
  · -- 5 to 44
    refine lv_iconst (v := iI 0) hx hb dX3_wall_44 rfl ?_
    refine lv_istore (lv' := [(6, .int (iI 0)), (0, .ref (M 100)), (1, .int (iI x)), (2, .int (iI y)), (3, .int (iI z)), (4, .int (iI w)), (5, .int (iI v))]) hx hb dX3_wall_45 hl (by decide) rfl (fun ls hl => ?_)
    refine lv_iload hx hb dX3_wall_47 (lv_at hl 0 rfl) ?_
    refine r_if_eq (tgt := 61) hx hb dX3_wall_49 (by decide) (by omega) (fun _ => ?_) (fun h => absurd h (by decide))
    refine lv_iconst (v := iI (-1)) hx hb dX3_wall_61 rfl ?_
    exact r_retM () hx hb hr hlocks hS dX3_wall_62 (by first | (rw [if_pos (by omega)]; omega) | rw [if_neg (by omega)]) trivial (by first | (rw [if_pos (by omega)]; exact hP) | (rw [if_neg (by omega)]; exact hP))
  · -- 5 to 8
    refine lv_iload_n hx hb dX3_wall_8 rfl (lv_at hl 3 rfl) ?_
    refine lv_iload hx hb dX3_wall_9 (lv_at hl 4 rfl) ?_
    refine r_calli (va_runS (As := [.int (iI z), .int (iI w)]) (rest := []) ⟨hx, hb, hml, hown, hts⟩ (c_X3_isPoint l  z w (by omega) (by omega)) (va_cwS 2 hts gX3_wall_X3_isPoint rfl rfl rfl (by decide +kernel) ⟨Nat.le_of_ble_eq_true rfl, Nat.le_of_ble_eq_true rfl⟩) ps_T rfl rfl hl.1 rfl (lv_room (Nat.le_of_ble_eq_true rfl)) dX3_wall_11 ⟨Nat.le_of_ble_eq_true rfl, Nat.le_of_ble_eq_true rfl⟩) ?_
    refine r_ifB_eq (tgt := 44) hx hb dX3_wall_14 (by decide) (fun h2 => ?_) (fun h2 => ?_)
    · -- 14 to 44
      refine lv_iconst (v := iI 0) hx hb dX3_wall_44 rfl ?_
      refine lv_istore (lv' := [(6, .int (iI 0)), (0, .ref (M 100)), (1, .int (iI x)), (2, .int (iI y)), (3, .int (iI z)), (4, .int (iI w)), (5, .int (iI v))]) hx hb dX3_wall_45 hl (by decide) rfl (fun ls hl => ?_)
      refine lv_iload hx hb dX3_wall_47 (lv_at hl 0 rfl) ?_
      refine r_if_eq (tgt := 61) hx hb dX3_wall_49 (by decide) (by omega) (fun _ => ?_) (fun h => absurd h (by decide))
      refine lv_iconst (v := iI (-1)) hx hb dX3_wall_61 rfl ?_
      exact r_retM () hx hb hr hlocks hS dX3_wall_62 (by first | (rw [if_pos (by omega)]; omega) | rw [if_neg (by omega)]) trivial (by first | (rw [if_pos (by omega)]; exact hP) | (rw [if_neg (by omega)]; exact hP))
    · -- 14 to 17
      refine lv_iload_n hx hb dX3_wall_17 rfl (lv_at hl 1 rfl) ?_
      refine lv_iload_n hx hb dX3_wall_18 rfl (lv_at hl 3 rfl) ?_
      refine r_icmp_ne (tgt := 28) hx hb dX3_wall_19 (by decide) (by omega) (by omega) (fun h3 => ?_) (fun h3 => ?_)
      · -- 19 to 28
        refine lv_iload hx hb dX3_wall_28 (lv_at hl 5 rfl) ?_
        refine lv_iconst (v := iI 0) hx hb dX3_wall_30 rfl ?_
        refine lv_sipush (v := iI 300) hx hb dX3_wall_31 (by decide +kernel) ?_
        refine r_calli (va_runS (As := [.int (iI v), .int (iI 0), .int (iI 300)]) (rest := []) ⟨hx, hb, hml, hown, hts⟩ (c_X3_within l  v 0 300 (by omega) (by omega) (by omega)) (va_cwS 3 hts gX3_wall_X3_within rfl rfl rfl (by decide +kernel) ⟨Nat.le_of_ble_eq_true rfl, Nat.le_of_ble_eq_true rfl⟩) ps_T rfl rfl hl.1 rfl (lv_room (Nat.le_of_ble_eq_true rfl)) dX3_wall_34 ⟨Nat.le_of_ble_eq_true rfl, Nat.le_of_ble_eq_true rfl⟩) ?_
        refine r_ifB_eq (tgt := 44) hx hb dX3_wall_37 (by decide) (fun h4 => ?_) (fun h4 => ?_)
        · -- 37 to 44
          refine lv_iconst (v := iI 0) hx hb dX3_wall_44 rfl ?_
          refine lv_istore (lv' := [(6, .int (iI 0)), (0, .ref (M 100)), (1, .int (iI x)), (2, .int (iI y)), (3, .int (iI z)), (4, .int (iI w)), (5, .int (iI v))]) hx hb dX3_wall_45 hl (by decide) rfl (fun ls hl => ?_)
          refine lv_iload hx hb dX3_wall_47 (lv_at hl 0 rfl) ?_
          refine r_if_eq (tgt := 61) hx hb dX3_wall_49 (by decide) (by omega) (fun _ => ?_) (fun h => absurd h (by decide))
          refine lv_iconst (v := iI (-1)) hx hb dX3_wall_61 rfl ?_
          exact r_retM () hx hb hr hlocks hS dX3_wall_62 (by first | (rw [if_pos (by omega)]; omega) | rw [if_neg (by omega)]) trivial (by first | (rw [if_pos (by omega)]; exact hP) | (rw [if_neg (by omega)]; exact hP))
        · -- 37 to 40
          refine lv_iconst (v := iI 1) hx hb dX3_wall_40 rfl ?_
          refine lv_goto (tgt := 45) hx hb dX3_wall_41 (by decide) ?_
          refine lv_istore (lv' := [(6, .int (iI 1)), (0, .ref (M 100)), (1, .int (iI x)), (2, .int (iI y)), (3, .int (iI z)), (4, .int (iI w)), (5, .int (iI v))]) hx hb dX3_wall_45 hl (by decide) rfl (fun ls hl => ?_)
          refine lv_iload hx hb dX3_wall_47 (lv_at hl 0 rfl) ?_
          refine r_if_eq (tgt := 61) hx hb dX3_wall_49 (by decide) (by omega) (fun h => absurd h (by decide)) (fun _ => ?_)
          refine lv_aload_n hx hb dX3_wall_52 rfl (lv_at hl 1 rfl) ?_
          refine va_get (D := D) (ci := 3) (v := .int (iI (μ 8 0))) (C := RX3) (T := TX3) (N := 17) hx hb hts (fun _ h => List.mem_cons_of_mem _ (List.mem_append_right _ h)) hown hK hP 0 rfl rfl 8 (by decide) (hts _ fl_X3_wall_64) (fun _ h9 => h9) rfl dX3_wall_53 ?_
          refine lv_bipush (v := iI 8) hx hb dX3_wall_56 (by decide +kernel) ?_
          refine r_icmp_ne (tgt := 63) hx hb dX3_wall_58 (by decide) (by omega) (by omega) (fun h5 => ?_) (fun h5 => ?_)
          · -- 58 to 63
            refine lv_aload_n hx hb dX3_wall_63 rfl (lv_at hl 1 rfl) ?_
            refine va_get (D := D) (ci := 3) (v := .ref (M 9)) (C := RX3) (T := TX3) (N := 17) hx hb hts (fun _ h => List.mem_cons_of_mem _ (List.mem_append_right _ h)) hown hK hP 0 rfl rfl 9 (by decide) (hts _ fl_X3_wall_28) (fun _ h9 => h9) rfl dX3_wall_64 ?_
            refine lv_iconst (v := iI 4) hx hb dX3_wall_67 rfl ?_
            refine lv_aload_n hx hb dX3_wall_68 rfl (lv_at hl 1 rfl) ?_
            refine va_get (D := D) (ci := 3) (v := .int (iI (μ 8 0))) (C := RX3) (T := TX3) (N := 17) hx hb hts (fun _ h => List.mem_cons_of_mem _ (List.mem_append_right _ h)) hown hK hP 0 rfl rfl 8 (by decide) (hts _ fl_X3_wall_64) (fun _ h9 => h9) rfl dX3_wall_69 ?_
            refine r_imul hx hb dX3_wall_72 ?_
            refine lv_iload_n hx hb dX3_wall_73 rfl (lv_at hl 2 rfl) ?_
            refine r_iast hx hb hK hP hD hS 7 0 rfl rfl (Nat.le_of_ble_eq_true rfl) (by omega) dX3_wall_74 (fun H locs hP hD hS => ?_)
            have hP : va_P D vwCl (wM cy M (su μ 9 (up (μ 9) (4 * (μ 8 0)) x))) H := hP
            have hD : va_D AA (wM cy M (su μ 9 (up (μ 9) (4 * (μ 8 0)) x))) := hD
            refine lv_aload_n hx hb dX3_wall_75 rfl (lv_at hl 1 rfl) ?_
            refine va_get (D := D) (ci := 3) (v := .ref (M 9)) (C := RX3) (T := TX3) (N := 17) hx hb hts (fun _ h => List.mem_cons_of_mem _ (List.mem_append_right _ h)) hown hK hP 0 rfl rfl 9 (by decide) (hts _ fl_X3_wall_28) (fun _ h9 => h9) rfl dX3_wall_76 ?_
            refine lv_iconst (v := iI 4) hx hb dX3_wall_79 rfl ?_
            refine lv_aload_n hx hb dX3_wall_80 rfl (lv_at hl 1 rfl) ?_
            refine va_get (D := D) (ci := 3) (v := .int (iI (μ 8 0))) (C := RX3) (T := TX3) (N := 17) hx hb hts (fun _ h => List.mem_cons_of_mem _ (List.mem_append_right _ h)) hown hK hP 0 rfl rfl 8 (by decide) (hts _ fl_X3_wall_64) (fun _ h9 => h9) rfl dX3_wall_81 ?_
            refine r_imul hx hb dX3_wall_84 ?_
            refine lv_iconst (v := iI 1) hx hb dX3_wall_85 rfl ?_
            refine r_iadd hx hb dX3_wall_86 ?_
            refine lv_iload_n hx hb dX3_wall_87 rfl (lv_at hl 3 rfl) ?_
            refine r_iast hx hb hK hP hD hS 7 0 rfl rfl (Nat.le_of_ble_eq_true rfl) (by omega) dX3_wall_88 (fun H locs hP hD hS => ?_)
            have hP : va_P D vwCl (wM cy M (su (su μ 9 (up (μ 9) (4 * (μ 8 0)) x)) 9 (up (up (μ 9) (4 * (μ 8 0)) x) ((4 * (μ 8 0)) + 1) y))) H := hP
            have hD : va_D AA (wM cy M (su (su μ 9 (up (μ 9) (4 * (μ 8 0)) x)) 9 (up (up (μ 9) (4 * (μ 8 0)) x) ((4 * (μ 8 0)) + 1) y))) := hD
            refine lv_aload_n hx hb dX3_wall_89 rfl (lv_at hl 1 rfl) ?_
            refine va_get (D := D) (ci := 3) (v := .ref (M 9)) (C := RX3) (T := TX3) (N := 17) hx hb hts (fun _ h => List.mem_cons_of_mem _ (List.mem_append_right _ h)) hown hK hP 0 rfl rfl 9 (by decide) (hts _ fl_X3_wall_28) (fun _ h9 => h9) rfl dX3_wall_90 ?_
            refine lv_iconst (v := iI 4) hx hb dX3_wall_93 rfl ?_
            refine lv_aload_n hx hb dX3_wall_94 rfl (lv_at hl 1 rfl) ?_
            refine va_get (D := D) (ci := 3) (v := .int (iI (μ 8 0))) (C := RX3) (T := TX3) (N := 17) hx hb hts (fun _ h => List.mem_cons_of_mem _ (List.mem_append_right _ h)) hown hK hP 0 rfl rfl 8 (by decide) (hts _ fl_X3_wall_64) (fun _ h9 => h9) rfl dX3_wall_95 ?_
            refine r_imul hx hb dX3_wall_98 ?_
            refine lv_iconst (v := iI 2) hx hb dX3_wall_99 rfl ?_
            refine r_iadd hx hb dX3_wall_100 ?_
            refine lv_iload_n hx hb dX3_wall_101 rfl (lv_at hl 4 rfl) ?_
            refine r_iast hx hb hK hP hD hS 7 0 rfl rfl (Nat.le_of_ble_eq_true rfl) (by omega) dX3_wall_102 (fun H locs hP hD hS => ?_)
            have hP : va_P D vwCl (wM cy M (su (su (su μ 9 (up (μ 9) (4 * (μ 8 0)) x)) 9 (up (up (μ 9) (4 * (μ 8 0)) x) ((4 * (μ 8 0)) + 1) y)) 9 (up (up (up (μ 9) (4 * (μ 8 0)) x) ((4 * (μ 8 0)) + 1) y) ((4 * (μ 8 0)) + 2) z))) H := hP
            have hD : va_D AA (wM cy M (su (su (su μ 9 (up (μ 9) (4 * (μ 8 0)) x)) 9 (up (up (μ 9) (4 * (μ 8 0)) x) ((4 * (μ 8 0)) + 1) y)) 9 (up (up (up (μ 9) (4 * (μ 8 0)) x) ((4 * (μ 8 0)) + 1) y) ((4 * (μ 8 0)) + 2) z))) := hD
            refine lv_aload_n hx hb dX3_wall_103 rfl (lv_at hl 1 rfl) ?_
            refine va_get (D := D) (ci := 3) (v := .ref (M 9)) (C := RX3) (T := TX3) (N := 17) hx hb hts (fun _ h => List.mem_cons_of_mem _ (List.mem_append_right _ h)) hown hK hP 0 rfl rfl 9 (by decide) (hts _ fl_X3_wall_28) (fun _ h9 => h9) rfl dX3_wall_104 ?_
            refine lv_iconst (v := iI 4) hx hb dX3_wall_107 rfl ?_
            refine lv_aload_n hx hb dX3_wall_108 rfl (lv_at hl 1 rfl) ?_
            refine va_get (D := D) (ci := 3) (v := .int (iI (μ 8 0))) (C := RX3) (T := TX3) (N := 17) hx hb hts (fun _ h => List.mem_cons_of_mem _ (List.mem_append_right _ h)) hown hK hP 0 rfl rfl 8 (by decide) (hts _ fl_X3_wall_64) (fun _ h9 => h9) rfl dX3_wall_109 ?_
            refine r_imul hx hb dX3_wall_112 ?_
            refine lv_iconst (v := iI 3) hx hb dX3_wall_113 rfl ?_
            refine r_iadd hx hb dX3_wall_114 ?_
            refine lv_iload hx hb dX3_wall_115 (lv_at hl 5 rfl) ?_
            refine r_iast hx hb hK hP hD hS 7 0 rfl rfl (Nat.le_of_ble_eq_true rfl) (by omega) dX3_wall_117 (fun H locs hP hD hS => ?_)
            have hP : va_P D vwCl (wM cy M (su (su (su (su μ 9 (up (μ 9) (4 * (μ 8 0)) x)) 9 (up (up (μ 9) (4 * (μ 8 0)) x) ((4 * (μ 8 0)) + 1) y)) 9 (up (up (up (μ 9) (4 * (μ 8 0)) x) ((4 * (μ 8 0)) + 1) y) ((4 * (μ 8 0)) + 2) z)) 9 (up (up (up (up (μ 9) (4 * (μ 8 0)) x) ((4 * (μ 8 0)) + 1) y) ((4 * (μ 8 0)) + 2) z) ((4 * (μ 8 0)) + 3) w))) H := hP
            have hD : va_D AA (wM cy M (su (su (su (su μ 9 (up (μ 9) (4 * (μ 8 0)) x)) 9 (up (up (μ 9) (4 * (μ 8 0)) x) ((4 * (μ 8 0)) + 1) y)) 9 (up (up (up (μ 9) (4 * (μ 8 0)) x) ((4 * (μ 8 0)) + 1) y) ((4 * (μ 8 0)) + 2) z)) 9 (up (up (up (up (μ 9) (4 * (μ 8 0)) x) ((4 * (μ 8 0)) + 1) y) ((4 * (μ 8 0)) + 2) z) ((4 * (μ 8 0)) + 3) w))) := hD
            refine lv_aload_n hx hb dX3_wall_118 rfl (lv_at hl 1 rfl) ?_
            refine va_get (D := D) (ci := 3) (v := .ref (M 10)) (C := RX3) (T := TX3) (N := 17) hx hb hts (fun _ h => List.mem_cons_of_mem _ (List.mem_append_right _ h)) hown hK hP 0 rfl rfl 10 (by decide) (hts _ fl_X3_wall_31) (fun _ h9 => h9) rfl dX3_wall_119 ?_
            refine lv_aload_n hx hb dX3_wall_122 rfl (lv_at hl 1 rfl) ?_
            refine va_get (D := D) (ci := 3) (v := .int (iI (μ 8 0))) (C := RX3) (T := TX3) (N := 17) hx hb hts (fun _ h => List.mem_cons_of_mem _ (List.mem_append_right _ h)) hown hK hP 0 rfl rfl 8 (by decide) (hts _ fl_X3_wall_64) (fun _ h9 => h9) rfl dX3_wall_123 ?_
            refine lv_iload hx hb dX3_wall_126 (lv_at hl 6 rfl) ?_
            refine r_iast hx hb hK hP hD hS 8 0 rfl rfl (Nat.le_of_ble_eq_true rfl) (by omega) dX3_wall_128 (fun H locs hP hD hS => ?_)
            have hP : va_P D vwCl (wM cy M (su (su (su (su (su μ 9 (up (μ 9) (4 * (μ 8 0)) x)) 9 (up (up (μ 9) (4 * (μ 8 0)) x) ((4 * (μ 8 0)) + 1) y)) 9 (up (up (up (μ 9) (4 * (μ 8 0)) x) ((4 * (μ 8 0)) + 1) y) ((4 * (μ 8 0)) + 2) z)) 9 (up (up (up (up (μ 9) (4 * (μ 8 0)) x) ((4 * (μ 8 0)) + 1) y) ((4 * (μ 8 0)) + 2) z) ((4 * (μ 8 0)) + 3) w)) 10 (up (μ 10) (μ 8 0) v))) H := hP
            have hD : va_D AA (wM cy M (su (su (su (su (su μ 9 (up (μ 9) (4 * (μ 8 0)) x)) 9 (up (up (μ 9) (4 * (μ 8 0)) x) ((4 * (μ 8 0)) + 1) y)) 9 (up (up (up (μ 9) (4 * (μ 8 0)) x) ((4 * (μ 8 0)) + 1) y) ((4 * (μ 8 0)) + 2) z)) 9 (up (up (up (up (μ 9) (4 * (μ 8 0)) x) ((4 * (μ 8 0)) + 1) y) ((4 * (μ 8 0)) + 2) z) ((4 * (μ 8 0)) + 3) w)) 10 (up (μ 10) (μ 8 0) v))) := hD
            refine lv_aload_n hx hb dX3_wall_129 rfl (lv_at hl 1 rfl) ?_
            refine lv_dup hx hb dX3_wall_130 rfl ?_
            refine va_get (D := D) (ci := 3) (v := .int (iI (μ 8 0))) (C := RX3) (T := TX3) (N := 17) hx hb hts (fun _ h => List.mem_cons_of_mem _ (List.mem_append_right _ h)) hown hK hP 0 rfl rfl 8 (by decide) (hts _ fl_X3_wall_64) (fun _ h9 => h9) rfl dX3_wall_131 ?_
            refine lv_iconst (v := iI 1) hx hb dX3_wall_134 rfl ?_
            refine r_iadd hx hb dX3_wall_135 ?_
            refine va_put (D := D) (ci := 3) (v := .int (iI ((μ 8 0) + 1))) (ty := .int) (C := RX3) (T := TX3) (N := 17) hx hb hts (fun _ h => List.mem_cons_of_mem _ (List.mem_append_right _ h)) tyX3 tyX3_ok nmX3 hown hK hP hD hS 0 rfl rfl 8 (by decide) (hts _ fl_X3_wall_64) (fun _ h9 => h9) rfl (by decide +kernel) rfl rfl (Nat.le_of_ble_eq_true rfl) dX3_wall_136 (fun H locs hP hD hS => ?_)
            have hP : va_P D vwCl (wM cy M (su (su (su (su (su (su μ 9 (up (μ 9) (4 * (μ 8 0)) x)) 9 (up (up (μ 9) (4 * (μ 8 0)) x) ((4 * (μ 8 0)) + 1) y)) 9 (up (up (up (μ 9) (4 * (μ 8 0)) x) ((4 * (μ 8 0)) + 1) y) ((4 * (μ 8 0)) + 2) z)) 9 (up (up (up (up (μ 9) (4 * (μ 8 0)) x) ((4 * (μ 8 0)) + 1) y) ((4 * (μ 8 0)) + 2) z) ((4 * (μ 8 0)) + 3) w)) 10 (up (μ 10) (μ 8 0) v)) 8 (fun _ => ((μ 8 0) + 1)))) H := hP
            have hD : va_D AA (wM cy M (su (su (su (su (su (su μ 9 (up (μ 9) (4 * (μ 8 0)) x)) 9 (up (up (μ 9) (4 * (μ 8 0)) x) ((4 * (μ 8 0)) + 1) y)) 9 (up (up (up (μ 9) (4 * (μ 8 0)) x) ((4 * (μ 8 0)) + 1) y) ((4 * (μ 8 0)) + 2) z)) 9 (up (up (up (up (μ 9) (4 * (μ 8 0)) x) ((4 * (μ 8 0)) + 1) y) ((4 * (μ 8 0)) + 2) z) ((4 * (μ 8 0)) + 3) w)) 10 (up (μ 10) (μ 8 0) v)) 8 (fun _ => ((μ 8 0) + 1)))) := hD
            refine lv_aload_n hx hb dX3_wall_139 rfl (lv_at hl 1 rfl) ?_
            refine va_get (D := D) (ci := 3) (v := .int (iI ((μ 8 0) + 1))) (C := RX3) (T := TX3) (N := 17) hx hb hts (fun _ h => List.mem_cons_of_mem _ (List.mem_append_right _ h)) hown hK hP 0 rfl rfl 8 (by decide) (hts _ fl_X3_wall_64) (fun _ h9 => h9) rfl dX3_wall_140 ?_
            refine lv_iconst (v := iI 1) hx hb dX3_wall_143 rfl ?_
            refine r_isub hx hb dX3_wall_144 ?_
            exact r_retM () hx hb hr hlocks hS dX3_wall_145 (by first | (rw [if_pos (by omega)]; omega) | rw [if_neg (by omega)]) trivial (by first | (rw [if_pos (by omega)]; exact hP) | (rw [if_neg (by omega)]; exact hP))
          · -- 58 to 61
            refine lv_iconst (v := iI (-1)) hx hb dX3_wall_61 rfl ?_
            exact r_retM () hx hb hr hlocks hS dX3_wall_62 (by first | (rw [if_pos (by omega)]; omega) | rw [if_neg (by omega)]) trivial (by first | (rw [if_pos (by omega)]; exact hP) | (rw [if_neg (by omega)]; exact hP))
      · -- 19 to 22
        refine lv_iload_n hx hb dX3_wall_22 rfl (lv_at hl 2 rfl) ?_
        refine lv_iload hx hb dX3_wall_23 (lv_at hl 4 rfl) ?_
        refine r_icmp_eq (tgt := 44) hx hb dX3_wall_25 (by decide) (by omega) (by omega) (fun h6 => ?_) (fun h6 => ?_)
        · -- 25 to 44
          refine lv_iconst (v := iI 0) hx hb dX3_wall_44 rfl ?_
          refine lv_istore (lv' := [(6, .int (iI 0)), (0, .ref (M 100)), (1, .int (iI x)), (2, .int (iI y)), (3, .int (iI z)), (4, .int (iI w)), (5, .int (iI v))]) hx hb dX3_wall_45 hl (by decide) rfl (fun ls hl => ?_)
          refine lv_iload hx hb dX3_wall_47 (lv_at hl 0 rfl) ?_
          refine r_if_eq (tgt := 61) hx hb dX3_wall_49 (by decide) (by omega) (fun _ => ?_) (fun h => absurd h (by decide))
          refine lv_iconst (v := iI (-1)) hx hb dX3_wall_61 rfl ?_
          exact r_retM () hx hb hr hlocks hS dX3_wall_62 (by first | (rw [if_pos (by omega)]; omega) | rw [if_neg (by omega)]) trivial (by first | (rw [if_pos (by omega)]; exact hP) | (rw [if_neg (by omega)]; exact hP))
        · -- 25 to 28
          refine lv_iload hx hb dX3_wall_28 (lv_at hl 5 rfl) ?_
          refine lv_iconst (v := iI 0) hx hb dX3_wall_30 rfl ?_
          refine lv_sipush (v := iI 300) hx hb dX3_wall_31 (by decide +kernel) ?_
          refine r_calli (va_runS (As := [.int (iI v), .int (iI 0), .int (iI 300)]) (rest := []) ⟨hx, hb, hml, hown, hts⟩ (c_X3_within l  v 0 300 (by omega) (by omega) (by omega)) (va_cwS 3 hts gX3_wall_X3_within rfl rfl rfl (by decide +kernel) ⟨Nat.le_of_ble_eq_true rfl, Nat.le_of_ble_eq_true rfl⟩) ps_T rfl rfl hl.1 rfl (lv_room (Nat.le_of_ble_eq_true rfl)) dX3_wall_34 ⟨Nat.le_of_ble_eq_true rfl, Nat.le_of_ble_eq_true rfl⟩) ?_
          refine r_ifB_eq (tgt := 44) hx hb dX3_wall_37 (by decide) (fun h7 => ?_) (fun h7 => ?_)
          · -- 37 to 44
            refine lv_iconst (v := iI 0) hx hb dX3_wall_44 rfl ?_
            refine lv_istore (lv' := [(6, .int (iI 0)), (0, .ref (M 100)), (1, .int (iI x)), (2, .int (iI y)), (3, .int (iI z)), (4, .int (iI w)), (5, .int (iI v))]) hx hb dX3_wall_45 hl (by decide) rfl (fun ls hl => ?_)
            refine lv_iload hx hb dX3_wall_47 (lv_at hl 0 rfl) ?_
            refine r_if_eq (tgt := 61) hx hb dX3_wall_49 (by decide) (by omega) (fun _ => ?_) (fun h => absurd h (by decide))
            refine lv_iconst (v := iI (-1)) hx hb dX3_wall_61 rfl ?_
            exact r_retM () hx hb hr hlocks hS dX3_wall_62 (by first | (rw [if_pos (by omega)]; omega) | rw [if_neg (by omega)]) trivial (by first | (rw [if_pos (by omega)]; exact hP) | (rw [if_neg (by omega)]; exact hP))
          · -- 37 to 40
            refine lv_iconst (v := iI 1) hx hb dX3_wall_40 rfl ?_
            refine lv_goto (tgt := 45) hx hb dX3_wall_41 (by decide) ?_
            refine lv_istore (lv' := [(6, .int (iI 1)), (0, .ref (M 100)), (1, .int (iI x)), (2, .int (iI y)), (3, .int (iI z)), (4, .int (iI w)), (5, .int (iI v))]) hx hb dX3_wall_45 hl (by decide) rfl (fun ls hl => ?_)
            refine lv_iload hx hb dX3_wall_47 (lv_at hl 0 rfl) ?_
            refine r_if_eq (tgt := 61) hx hb dX3_wall_49 (by decide) (by omega) (fun h => absurd h (by decide)) (fun _ => ?_)
            refine lv_aload_n hx hb dX3_wall_52 rfl (lv_at hl 1 rfl) ?_
            refine va_get (D := D) (ci := 3) (v := .int (iI (μ 8 0))) (C := RX3) (T := TX3) (N := 17) hx hb hts (fun _ h => List.mem_cons_of_mem _ (List.mem_append_right _ h)) hown hK hP 0 rfl rfl 8 (by decide) (hts _ fl_X3_wall_64) (fun _ h9 => h9) rfl dX3_wall_53 ?_
            refine lv_bipush (v := iI 8) hx hb dX3_wall_56 (by decide +kernel) ?_
            refine r_icmp_ne (tgt := 63) hx hb dX3_wall_58 (by decide) (by omega) (by omega) (fun h8 => ?_) (fun h8 => ?_)
            · -- 58 to 63
              refine lv_aload_n hx hb dX3_wall_63 rfl (lv_at hl 1 rfl) ?_
              refine va_get (D := D) (ci := 3) (v := .ref (M 9)) (C := RX3) (T := TX3) (N := 17) hx hb hts (fun _ h => List.mem_cons_of_mem _ (List.mem_append_right _ h)) hown hK hP 0 rfl rfl 9 (by decide) (hts _ fl_X3_wall_28) (fun _ h9 => h9) rfl dX3_wall_64 ?_
              refine lv_iconst (v := iI 4) hx hb dX3_wall_67 rfl ?_
              refine lv_aload_n hx hb dX3_wall_68 rfl (lv_at hl 1 rfl) ?_
              refine va_get (D := D) (ci := 3) (v := .int (iI (μ 8 0))) (C := RX3) (T := TX3) (N := 17) hx hb hts (fun _ h => List.mem_cons_of_mem _ (List.mem_append_right _ h)) hown hK hP 0 rfl rfl 8 (by decide) (hts _ fl_X3_wall_64) (fun _ h9 => h9) rfl dX3_wall_69 ?_
              refine r_imul hx hb dX3_wall_72 ?_
              refine lv_iload_n hx hb dX3_wall_73 rfl (lv_at hl 2 rfl) ?_
              refine r_iast hx hb hK hP hD hS 7 0 rfl rfl (Nat.le_of_ble_eq_true rfl) (by omega) dX3_wall_74 (fun H locs hP hD hS => ?_)
              have hP : va_P D vwCl (wM cy M (su μ 9 (up (μ 9) (4 * (μ 8 0)) x))) H := hP
              have hD : va_D AA (wM cy M (su μ 9 (up (μ 9) (4 * (μ 8 0)) x))) := hD
              refine lv_aload_n hx hb dX3_wall_75 rfl (lv_at hl 1 rfl) ?_
              refine va_get (D := D) (ci := 3) (v := .ref (M 9)) (C := RX3) (T := TX3) (N := 17) hx hb hts (fun _ h => List.mem_cons_of_mem _ (List.mem_append_right _ h)) hown hK hP 0 rfl rfl 9 (by decide) (hts _ fl_X3_wall_28) (fun _ h9 => h9) rfl dX3_wall_76 ?_
              refine lv_iconst (v := iI 4) hx hb dX3_wall_79 rfl ?_
              refine lv_aload_n hx hb dX3_wall_80 rfl (lv_at hl 1 rfl) ?_
              refine va_get (D := D) (ci := 3) (v := .int (iI (μ 8 0))) (C := RX3) (T := TX3) (N := 17) hx hb hts (fun _ h => List.mem_cons_of_mem _ (List.mem_append_right _ h)) hown hK hP 0 rfl rfl 8 (by decide) (hts _ fl_X3_wall_64) (fun _ h9 => h9) rfl dX3_wall_81 ?_
              refine r_imul hx hb dX3_wall_84 ?_
              refine lv_iconst (v := iI 1) hx hb dX3_wall_85 rfl ?_
              refine r_iadd hx hb dX3_wall_86 ?_
              refine lv_iload_n hx hb dX3_wall_87 rfl (lv_at hl 3 rfl) ?_
              refine r_iast hx hb hK hP hD hS 7 0 rfl rfl (Nat.le_of_ble_eq_true rfl) (by omega) dX3_wall_88 (fun H locs hP hD hS => ?_)
              have hP : va_P D vwCl (wM cy M (su (su μ 9 (up (μ 9) (4 * (μ 8 0)) x)) 9 (up (up (μ 9) (4 * (μ 8 0)) x) ((4 * (μ 8 0)) + 1) y))) H := hP
              have hD : va_D AA (wM cy M (su (su μ 9 (up (μ 9) (4 * (μ 8 0)) x)) 9 (up (up (μ 9) (4 * (μ 8 0)) x) ((4 * (μ 8 0)) + 1) y))) := hD
              refine lv_aload_n hx hb dX3_wall_89 rfl (lv_at hl 1 rfl) ?_
              refine va_get (D := D) (ci := 3) (v := .ref (M 9)) (C := RX3) (T := TX3) (N := 17) hx hb hts (fun _ h => List.mem_cons_of_mem _ (List.mem_append_right _ h)) hown hK hP 0 rfl rfl 9 (by decide) (hts _ fl_X3_wall_28) (fun _ h9 => h9) rfl dX3_wall_90 ?_
              refine lv_iconst (v := iI 4) hx hb dX3_wall_93 rfl ?_
              refine lv_aload_n hx hb dX3_wall_94 rfl (lv_at hl 1 rfl) ?_
              refine va_get (D := D) (ci := 3) (v := .int (iI (μ 8 0))) (C := RX3) (T := TX3) (N := 17) hx hb hts (fun _ h => List.mem_cons_of_mem _ (List.mem_append_right _ h)) hown hK hP 0 rfl rfl 8 (by decide) (hts _ fl_X3_wall_64) (fun _ h9 => h9) rfl dX3_wall_95 ?_
              refine r_imul hx hb dX3_wall_98 ?_
              refine lv_iconst (v := iI 2) hx hb dX3_wall_99 rfl ?_
              refine r_iadd hx hb dX3_wall_100 ?_
              refine lv_iload_n hx hb dX3_wall_101 rfl (lv_at hl 4 rfl) ?_
              refine r_iast hx hb hK hP hD hS 7 0 rfl rfl (Nat.le_of_ble_eq_true rfl) (by omega) dX3_wall_102 (fun H locs hP hD hS => ?_)
              have hP : va_P D vwCl (wM cy M (su (su (su μ 9 (up (μ 9) (4 * (μ 8 0)) x)) 9 (up (up (μ 9) (4 * (μ 8 0)) x) ((4 * (μ 8 0)) + 1) y)) 9 (up (up (up (μ 9) (4 * (μ 8 0)) x) ((4 * (μ 8 0)) + 1) y) ((4 * (μ 8 0)) + 2) z))) H := hP
              have hD : va_D AA (wM cy M (su (su (su μ 9 (up (μ 9) (4 * (μ 8 0)) x)) 9 (up (up (μ 9) (4 * (μ 8 0)) x) ((4 * (μ 8 0)) + 1) y)) 9 (up (up (up (μ 9) (4 * (μ 8 0)) x) ((4 * (μ 8 0)) + 1) y) ((4 * (μ 8 0)) + 2) z))) := hD
              refine lv_aload_n hx hb dX3_wall_103 rfl (lv_at hl 1 rfl) ?_
              refine va_get (D := D) (ci := 3) (v := .ref (M 9)) (C := RX3) (T := TX3) (N := 17) hx hb hts (fun _ h => List.mem_cons_of_mem _ (List.mem_append_right _ h)) hown hK hP 0 rfl rfl 9 (by decide) (hts _ fl_X3_wall_28) (fun _ h9 => h9) rfl dX3_wall_104 ?_
              refine lv_iconst (v := iI 4) hx hb dX3_wall_107 rfl ?_
              refine lv_aload_n hx hb dX3_wall_108 rfl (lv_at hl 1 rfl) ?_
              refine va_get (D := D) (ci := 3) (v := .int (iI (μ 8 0))) (C := RX3) (T := TX3) (N := 17) hx hb hts (fun _ h => List.mem_cons_of_mem _ (List.mem_append_right _ h)) hown hK hP 0 rfl rfl 8 (by decide) (hts _ fl_X3_wall_64) (fun _ h9 => h9) rfl dX3_wall_109 ?_
              refine r_imul hx hb dX3_wall_112 ?_
              refine lv_iconst (v := iI 3) hx hb dX3_wall_113 rfl ?_
              refine r_iadd hx hb dX3_wall_114 ?_
              refine lv_iload hx hb dX3_wall_115 (lv_at hl 5 rfl) ?_
              refine r_iast hx hb hK hP hD hS 7 0 rfl rfl (Nat.le_of_ble_eq_true rfl) (by omega) dX3_wall_117 (fun H locs hP hD hS => ?_)
              have hP : va_P D vwCl (wM cy M (su (su (su (su μ 9 (up (μ 9) (4 * (μ 8 0)) x)) 9 (up (up (μ 9) (4 * (μ 8 0)) x) ((4 * (μ 8 0)) + 1) y)) 9 (up (up (up (μ 9) (4 * (μ 8 0)) x) ((4 * (μ 8 0)) + 1) y) ((4 * (μ 8 0)) + 2) z)) 9 (up (up (up (up (μ 9) (4 * (μ 8 0)) x) ((4 * (μ 8 0)) + 1) y) ((4 * (μ 8 0)) + 2) z) ((4 * (μ 8 0)) + 3) w))) H := hP
              have hD : va_D AA (wM cy M (su (su (su (su μ 9 (up (μ 9) (4 * (μ 8 0)) x)) 9 (up (up (μ 9) (4 * (μ 8 0)) x) ((4 * (μ 8 0)) + 1) y)) 9 (up (up (up (μ 9) (4 * (μ 8 0)) x) ((4 * (μ 8 0)) + 1) y) ((4 * (μ 8 0)) + 2) z)) 9 (up (up (up (up (μ 9) (4 * (μ 8 0)) x) ((4 * (μ 8 0)) + 1) y) ((4 * (μ 8 0)) + 2) z) ((4 * (μ 8 0)) + 3) w))) := hD
              refine lv_aload_n hx hb dX3_wall_118 rfl (lv_at hl 1 rfl) ?_
              refine va_get (D := D) (ci := 3) (v := .ref (M 10)) (C := RX3) (T := TX3) (N := 17) hx hb hts (fun _ h => List.mem_cons_of_mem _ (List.mem_append_right _ h)) hown hK hP 0 rfl rfl 10 (by decide) (hts _ fl_X3_wall_31) (fun _ h9 => h9) rfl dX3_wall_119 ?_
              refine lv_aload_n hx hb dX3_wall_122 rfl (lv_at hl 1 rfl) ?_
              refine va_get (D := D) (ci := 3) (v := .int (iI (μ 8 0))) (C := RX3) (T := TX3) (N := 17) hx hb hts (fun _ h => List.mem_cons_of_mem _ (List.mem_append_right _ h)) hown hK hP 0 rfl rfl 8 (by decide) (hts _ fl_X3_wall_64) (fun _ h9 => h9) rfl dX3_wall_123 ?_
              refine lv_iload hx hb dX3_wall_126 (lv_at hl 6 rfl) ?_
              refine r_iast hx hb hK hP hD hS 8 0 rfl rfl (Nat.le_of_ble_eq_true rfl) (by omega) dX3_wall_128 (fun H locs hP hD hS => ?_)
              have hP : va_P D vwCl (wM cy M (su (su (su (su (su μ 9 (up (μ 9) (4 * (μ 8 0)) x)) 9 (up (up (μ 9) (4 * (μ 8 0)) x) ((4 * (μ 8 0)) + 1) y)) 9 (up (up (up (μ 9) (4 * (μ 8 0)) x) ((4 * (μ 8 0)) + 1) y) ((4 * (μ 8 0)) + 2) z)) 9 (up (up (up (up (μ 9) (4 * (μ 8 0)) x) ((4 * (μ 8 0)) + 1) y) ((4 * (μ 8 0)) + 2) z) ((4 * (μ 8 0)) + 3) w)) 10 (up (μ 10) (μ 8 0) v))) H := hP
              have hD : va_D AA (wM cy M (su (su (su (su (su μ 9 (up (μ 9) (4 * (μ 8 0)) x)) 9 (up (up (μ 9) (4 * (μ 8 0)) x) ((4 * (μ 8 0)) + 1) y)) 9 (up (up (up (μ 9) (4 * (μ 8 0)) x) ((4 * (μ 8 0)) + 1) y) ((4 * (μ 8 0)) + 2) z)) 9 (up (up (up (up (μ 9) (4 * (μ 8 0)) x) ((4 * (μ 8 0)) + 1) y) ((4 * (μ 8 0)) + 2) z) ((4 * (μ 8 0)) + 3) w)) 10 (up (μ 10) (μ 8 0) v))) := hD
              refine lv_aload_n hx hb dX3_wall_129 rfl (lv_at hl 1 rfl) ?_
              refine lv_dup hx hb dX3_wall_130 rfl ?_
              refine va_get (D := D) (ci := 3) (v := .int (iI (μ 8 0))) (C := RX3) (T := TX3) (N := 17) hx hb hts (fun _ h => List.mem_cons_of_mem _ (List.mem_append_right _ h)) hown hK hP 0 rfl rfl 8 (by decide) (hts _ fl_X3_wall_64) (fun _ h9 => h9) rfl dX3_wall_131 ?_
              refine lv_iconst (v := iI 1) hx hb dX3_wall_134 rfl ?_
              refine r_iadd hx hb dX3_wall_135 ?_
              refine va_put (D := D) (ci := 3) (v := .int (iI ((μ 8 0) + 1))) (ty := .int) (C := RX3) (T := TX3) (N := 17) hx hb hts (fun _ h => List.mem_cons_of_mem _ (List.mem_append_right _ h)) tyX3 tyX3_ok nmX3 hown hK hP hD hS 0 rfl rfl 8 (by decide) (hts _ fl_X3_wall_64) (fun _ h9 => h9) rfl (by decide +kernel) rfl rfl (Nat.le_of_ble_eq_true rfl) dX3_wall_136 (fun H locs hP hD hS => ?_)
              have hP : va_P D vwCl (wM cy M (su (su (su (su (su (su μ 9 (up (μ 9) (4 * (μ 8 0)) x)) 9 (up (up (μ 9) (4 * (μ 8 0)) x) ((4 * (μ 8 0)) + 1) y)) 9 (up (up (up (μ 9) (4 * (μ 8 0)) x) ((4 * (μ 8 0)) + 1) y) ((4 * (μ 8 0)) + 2) z)) 9 (up (up (up (up (μ 9) (4 * (μ 8 0)) x) ((4 * (μ 8 0)) + 1) y) ((4 * (μ 8 0)) + 2) z) ((4 * (μ 8 0)) + 3) w)) 10 (up (μ 10) (μ 8 0) v)) 8 (fun _ => ((μ 8 0) + 1)))) H := hP
              have hD : va_D AA (wM cy M (su (su (su (su (su (su μ 9 (up (μ 9) (4 * (μ 8 0)) x)) 9 (up (up (μ 9) (4 * (μ 8 0)) x) ((4 * (μ 8 0)) + 1) y)) 9 (up (up (up (μ 9) (4 * (μ 8 0)) x) ((4 * (μ 8 0)) + 1) y) ((4 * (μ 8 0)) + 2) z)) 9 (up (up (up (up (μ 9) (4 * (μ 8 0)) x) ((4 * (μ 8 0)) + 1) y) ((4 * (μ 8 0)) + 2) z) ((4 * (μ 8 0)) + 3) w)) 10 (up (μ 10) (μ 8 0) v)) 8 (fun _ => ((μ 8 0) + 1)))) := hD
              refine lv_aload_n hx hb dX3_wall_139 rfl (lv_at hl 1 rfl) ?_
              refine va_get (D := D) (ci := 3) (v := .int (iI ((μ 8 0) + 1))) (C := RX3) (T := TX3) (N := 17) hx hb hts (fun _ h => List.mem_cons_of_mem _ (List.mem_append_right _ h)) hown hK hP 0 rfl rfl 8 (by decide) (hts _ fl_X3_wall_64) (fun _ h9 => h9) rfl dX3_wall_140 ?_
              refine lv_iconst (v := iI 1) hx hb dX3_wall_143 rfl ?_
              refine r_isub hx hb dX3_wall_144 ?_
              exact r_retM () hx hb hr hlocks hS dX3_wall_145 (by first | (rw [if_pos (by omega)]; omega) | rw [if_neg (by omega)]) trivial (by first | (rw [if_pos (by omega)]; exact hP) | (rw [if_neg (by omega)]; exact hP))
            · -- 58 to 61
              refine lv_iconst (v := iI (-1)) hx hb dX3_wall_61 rfl ?_
              exact r_retM () hx hb hr hlocks hS dX3_wall_62 (by first | (rw [if_pos (by omega)]; omega) | rw [if_neg (by omega)]) trivial (by first | (rw [if_pos (by omega)]; exact hP) | (rw [if_neg (by omega)]; exact hP))
theorem fl_X3_count_58 : Cond.fieldLink RX3 58 "NoiseLampsModel" "pieces" "I" ∈ wsX3_count := by decide +kernel
theorem fl_X3_count_61 : Cond.fieldLink RX3 61 "NoiseLampsModel" "houses" "I" ∈ wsX3_count := by decide +kernel
theorem fl_X3_count_64 : Cond.fieldLink RX3 64 "NoiseLampsModel" "walls" "I" ∈ wsX3_count := by decide +kernel
theorem fl_X3_count_25 : Cond.fieldLink RX3 25 "NoiseLampsModel" "people" "[I" ∈ wsX3_count := by decide +kernel
theorem fl_X3_count_41 : Cond.fieldLink RX3 41 "NoiseLampsModel" "lights" "[I" ∈ wsX3_count := by decide +kernel
theorem fl_X3_count_112 : Cond.fieldLink RX3 112 "NoiseLampsModel" "length" "I" ∈ wsX3_count := by decide +kernel
set_option maxHeartbeats 4000000 in
set_option maxRecDepth 100000 in
theorem c_X3_count (l : Launch) (D : va_G) (cy : ClassId) (M : Nat → Nat) (μ : Nat → Int → Int) (a : Int) (hI : invM μ) (ha : I32 a) : MetR l yX3_count wsX3_count ({ frames := 0, cells := 0, slots := 0, locals := 0 } : Room) D cy (wM cy M μ) ([.ref (M 100), .int (iI a)] : List Value) (if a = 0 then μ 0 0 else if a = 1 then μ 4 0 else if a = 2 then μ 8 0 else if a = 3 then fo (fun n h => n + μ 7 h) 0 (μ 4 0) else if a = 4 then lLit (vL μ) else if a = 5 then μ 14 0 else -1) := by
  refine met_R (cc := cX3_count) (maxL := 4) (ret := (some .int)) (by decide) rfl (Nat.le_of_ble_eq_true rfl) ?_
  intro p e s m below meth c hx hb hr hml hts hown hlocks hP hK ls hl
  have hown : s.vm.findClass RX3 = some m.cls := hown
  have hl : lv_has ls 4 [(0, .ref (M 100)), (1, .int (iI a))] := hl
  obtain ⟨hM0, hM4, hM8, hM11, hM14, hB1, hB2, hB3, hB5, hB6, hB7, hB9, hB10, hB12, hB13, hB15, hB16⟩ := id hI
  refine lv_iconst (v := iI 0) hx hb dX3_count_0 rfl ?_
  refine lv_istore_n (lv' := [(2, .int (iI 0)), (0, .ref (M 100)), (1, .int (iI a))]) hx hb dX3_count_1 rfl hl (by decide) rfl (fun ls hl => ?_)
  refine lv_iload_n hx hb dX3_count_2 rfl (lv_at hl 2 rfl) ?_
  by_cases h1 : a = 0
  · refine lv_tableIn (tgt := 40) hx hb dX3_count_3 (by rw [iI_toInt (by omega)]; omega) (by rw [iI_toInt (by omega)]; omega) (by rw [iI_toInt (by omega), h1]; rfl) (by decide) ?_
    refine lv_aload_n hx hb dX3_count_40 rfl (lv_at hl 1 rfl) ?_
    refine va_get (D := D) (ci := 3) (v := .int (iI (μ 0 0))) (C := RX3) (T := TX3) (N := 17) hx hb hts (fun _ h => List.mem_cons_of_mem _ (List.mem_append_right _ h)) hown hK hP 0 rfl rfl 0 (by decide) (hts _ fl_X3_count_58) (fun _ h9 => h9) rfl dX3_count_41 ?_
    exact r_ret hx hb hr hlocks dX3_count_44 (by rw [if_pos (by omega)])
  by_cases h2 : a = 1
  · refine lv_tableIn (tgt := 45) hx hb dX3_count_3 (by rw [iI_toInt (by omega)]; omega) (by rw [iI_toInt (by omega)]; omega) (by rw [iI_toInt (by omega), h2]; rfl) (by decide) ?_
    refine lv_aload_n hx hb dX3_count_45 rfl (lv_at hl 1 rfl) ?_
    refine va_get (D := D) (ci := 3) (v := .int (iI (μ 4 0))) (C := RX3) (T := TX3) (N := 17) hx hb hts (fun _ h => List.mem_cons_of_mem _ (List.mem_append_right _ h)) hown hK hP 0 rfl rfl 4 (by decide) (hts _ fl_X3_count_61) (fun _ h9 => h9) rfl dX3_count_46 ?_
    exact r_ret hx hb hr hlocks dX3_count_49 (by rw [if_neg (by omega), if_pos (by omega)])
  by_cases h3 : a = 2
  · refine lv_tableIn (tgt := 50) hx hb dX3_count_3 (by rw [iI_toInt (by omega)]; omega) (by rw [iI_toInt (by omega)]; omega) (by rw [iI_toInt (by omega), h3]; rfl) (by decide) ?_
    refine lv_aload_n hx hb dX3_count_50 rfl (lv_at hl 1 rfl) ?_
    refine va_get (D := D) (ci := 3) (v := .int (iI (μ 8 0))) (C := RX3) (T := TX3) (N := 17) hx hb hts (fun _ h => List.mem_cons_of_mem _ (List.mem_append_right _ h)) hown hK hP 0 rfl rfl 8 (by decide) (hts _ fl_X3_count_64) (fun _ h9 => h9) rfl dX3_count_51 ?_
    exact r_ret hx hb hr hlocks dX3_count_54 (by rw [if_neg (by omega), if_neg (by omega), if_pos (by omega)])
  by_cases h4 : a = 3
  · refine lv_tableIn (tgt := 55) hx hb dX3_count_3 (by rw [iI_toInt (by omega)]; omega) (by rw [iI_toInt (by omega)]; omega) (by rw [iI_toInt (by omega), h4]; rfl) (by decide) ?_
    refine lv_iconst (v := iI 0) hx hb dX3_count_55 rfl ?_
    refine lv_istore_n (lv' := [(3, .int (iI 0)), (2, .int (iI 0)), (0, .ref (M 100)), (1, .int (iI a))]) hx hb dX3_count_56 rfl hl (by decide) rfl (fun ls hl => ?_)
    have lp57_5 : ∀ (nlp57_5 : Nat) (i : Int) (g : Int) (ls : Array Slot), (0 ≤ i ∧ i ≤ μ 4 0) → (g = fo (fun n h => n + μ 7 h) 0 i) → (μ 4 0 - i < (nlp57_5 : Int)) → lv_has ls 4 [(3, .int (iI i)), (2, .int (iI g)), (0, .ref (M 100)), (1, .int (iI a))] → W p l e ({ frames := 0, cells := 0, slots := 0, locals := 0 } : Room) s m ([.ref (M 100), .int (iI a)] : List Value).toArray below meth c s.heap [] 0 0 (MQ below (vp_Si (fun r => r = iI (if a = 0 then μ 0 0 else if a = 1 then μ 4 0 else if a = 2 then μ 8 0 else if a = 3 then fo (fun n h => n + μ 7 h) 0 (μ 4 0) else if a = 4 then lLit (vL μ) else if a = 5 then μ 14 0 else -1))) ([.ref (M 100), .int (iI a)] : List Value).toArray s 0 0 (fun _ => False)) (F0 m 57 ls []) := by
      intro nlp57_5
      induction nlp57_5 with
      | zero => intro i g ls hi hg hn hl; exact absurd hn (by omega)
      | succ nlp57_5 ihlp57_5 =>
        intro i g ls hi hg hn hl
        refine lv_iload_n hx hb dX3_count_57 rfl (lv_at hl 0 rfl) ?_
        refine lv_aload_n hx hb dX3_count_58 rfl (lv_at hl 2 rfl) ?_
        refine va_get (D := D) (ci := 3) (v := .int (iI (μ 4 0))) (C := RX3) (T := TX3) (N := 17) hx hb hts (fun _ h => List.mem_cons_of_mem _ (List.mem_append_right _ h)) hown hK hP 0 rfl rfl 4 (by decide) (hts _ fl_X3_count_61) (fun _ h9 => h9) rfl dX3_count_59 ?_
        refine r_icmp_ge (tgt := 80) hx hb dX3_count_62 (by decide) (by omega) (by omega) (fun h6 => ?_) (fun h6 => ?_)
        · -- 62 to 80
          refine lv_iload_n hx hb dX3_count_80 rfl (lv_at hl 1 rfl) ?_
          exact r_ret hx hb hr hlocks dX3_count_81 (by rw [if_neg (by omega), if_neg (by omega), if_neg (by omega), if_pos (by omega), hg, show i = μ 4 0 from by omega])
        · -- 62 to 65
          refine lv_iload_n hx hb dX3_count_65 rfl (lv_at hl 1 rfl) ?_
          refine lv_aload_n hx hb dX3_count_66 rfl (lv_at hl 2 rfl) ?_
          refine va_get (D := D) (ci := 3) (v := .ref (M 7)) (C := RX3) (T := TX3) (N := 17) hx hb hts (fun _ h => List.mem_cons_of_mem _ (List.mem_append_right _ h)) hown hK hP 0 rfl rfl 7 (by decide) (hts _ fl_X3_count_25) (fun _ h9 => h9) rfl dX3_count_67 ?_
          refine lv_iload_n hx hb dX3_count_70 rfl (lv_at hl 0 rfl) ?_
          refine r_iald hx hb hK hP 6 0 rfl rfl (Nat.le_of_ble_eq_true rfl) (by omega) dX3_count_71 ?_
          have hv7 := hB7 i
          refine r_iadd hx hb dX3_count_72 ?_
          refine lv_istore_n (lv' := [(2, .int (iI (g + (μ 7 i)))), (3, .int (iI i)), (0, .ref (M 100)), (1, .int (iI a))]) hx hb dX3_count_73 rfl hl (by decide) rfl (fun ls hl => ?_)
          refine r_iinc (a := i) (b := (i + 1)) (lv2 := [(3, .int (iI (i + 1))), (2, .int (iI (g + (μ 7 i)))), (0, .ref (M 100)), (1, .int (iI a))]) hx hb dX3_count_74 hl (k := 1) rfl (by omega) (by decide) rfl (fun ls hl => ?_)
          refine lv_goto (tgt := 57) hx hb dX3_count_77 (by decide) ?_
          exact ihlp57_5 (i + 1) (g + (μ 7 i)) ls (by omega) (by rw [fo_s _ _ (by omega), ← hg]) (by omega) (lv_sub hl [0, 1, 2, 3] rfl)
    exact lp57_5 _ 0 0 ls (by omega) rfl (lt_tn _) (lv_sub hl [0, 1, 2, 3] rfl)
  by_cases h8 : a = 4
  · refine lv_tableIn (tgt := 82) hx hb dX3_count_3 (by rw [iI_toInt (by omega)]; omega) (by rw [iI_toInt (by omega)]; omega) (by rw [iI_toInt (by omega), h8]; rfl) (by decide) ?_
    refine lv_iconst (v := iI 0) hx hb dX3_count_82 rfl ?_
    refine lv_istore_n (lv' := [(3, .int (iI 0)), (2, .int (iI 0)), (0, .ref (M 100)), (1, .int (iI a))]) hx hb dX3_count_83 rfl hl (by decide) rfl (fun ls hl => ?_)
    have lp84_9 : ∀ (nlp84_9 : Nat) (i : Int) (g : Int) (ls : Array Slot), (0 ≤ i ∧ i ≤ 31) → (g = fo (lLitF (vL μ)) 0 i) → (31 - i < (nlp84_9 : Int)) → lv_has ls 4 [(3, .int (iI i)), (2, .int (iI g)), (0, .ref (M 100)), (1, .int (iI a))] → W p l e ({ frames := 0, cells := 0, slots := 0, locals := 0 } : Room) s m ([.ref (M 100), .int (iI a)] : List Value).toArray below meth c s.heap [] 0 0 (MQ below (vp_Si (fun r => r = iI (if a = 0 then μ 0 0 else if a = 1 then μ 4 0 else if a = 2 then μ 8 0 else if a = 3 then fo (fun n h => n + μ 7 h) 0 (μ 4 0) else if a = 4 then lLit (vL μ) else if a = 5 then μ 14 0 else -1))) ([.ref (M 100), .int (iI a)] : List Value).toArray s 0 0 (fun _ => False)) (F0 m 84 ls []) := by
      intro nlp84_9
      induction nlp84_9 with
      | zero => intro i g ls hi hg hn hl; exact absurd hn (by omega)
      | succ nlp84_9 ihlp84_9 =>
        intro i g ls hi hg hn hl
        refine lv_iload_n hx hb dX3_count_84 rfl (lv_at hl 0 rfl) ?_
        refine lv_bipush (v := iI 31) hx hb dX3_count_85 (by decide +kernel) ?_
        refine r_icmp_ge (tgt := 113) hx hb dX3_count_87 (by decide) (by omega) (by omega) (fun h10 => ?_) (fun h10 => ?_)
        · -- 87 to 113
          refine lv_iload_n hx hb dX3_count_113 rfl (lv_at hl 1 rfl) ?_
          exact r_ret hx hb hr hlocks dX3_count_114 (by rw [if_neg (by omega), if_neg (by omega), if_neg (by omega), if_neg (by omega), if_pos (by omega), hg, show i = 31 from by omega]; rfl)
        · -- 87 to 90
          refine lv_iload_n hx hb dX3_count_90 rfl (lv_at hl 1 rfl) ?_
          refine lv_aload_n hx hb dX3_count_91 rfl (lv_at hl 2 rfl) ?_
          refine va_get (D := D) (ci := 3) (v := .ref (M 13)) (C := RX3) (T := TX3) (N := 17) hx hb hts (fun _ h => List.mem_cons_of_mem _ (List.mem_append_right _ h)) hown hK hP 0 rfl rfl 13 (by decide) (hts _ fl_X3_count_41) (fun _ h9 => h9) rfl dX3_count_92 ?_
          refine lv_iload_n hx hb dX3_count_95 rfl (lv_at hl 0 rfl) ?_
          refine r_iald hx hb hK hP 10 0 rfl rfl (Nat.le_of_ble_eq_true rfl) (by omega) dX3_count_96 ?_
          have hv11 := hB13 i
          refine r_if_le (tgt := 104) hx hb dX3_count_97 (by decide) (by omega) (fun h12 => ?_) (fun h12 => ?_)
          · -- 97 to 104
            refine lv_iconst (v := iI 0) hx hb dX3_count_104 rfl ?_
            refine r_iadd hx hb dX3_count_105 ?_
            refine lv_istore_n (lv' := [(2, .int (iI (g + 0))), (3, .int (iI i)), (0, .ref (M 100)), (1, .int (iI a))]) hx hb dX3_count_106 rfl hl (by decide) rfl (fun ls hl => ?_)
            refine r_iinc (a := i) (b := (i + 1)) (lv2 := [(3, .int (iI (i + 1))), (2, .int (iI (g + 0))), (0, .ref (M 100)), (1, .int (iI a))]) hx hb dX3_count_107 hl (k := 1) rfl (by omega) (by decide) rfl (fun ls hl => ?_)
            refine lv_goto (tgt := 84) hx hb dX3_count_110 (by decide) ?_
            exact ihlp84_9 (i + 1) (g + 0) ls (by omega) (by rw [fo_s _ _ (by omega), ← hg]; show _ = if 0 < μ 13 i then g + 1 else g; first | rw [if_pos (by omega)] | (rw [if_neg (by omega)]; omega)) (by omega) (lv_sub hl [0, 1, 2, 3] rfl)
          · -- 97 to 100
            refine lv_iconst (v := iI 1) hx hb dX3_count_100 rfl ?_
            refine lv_goto (tgt := 105) hx hb dX3_count_101 (by decide) ?_
            refine r_iadd hx hb dX3_count_105 ?_
            refine lv_istore_n (lv' := [(2, .int (iI (g + 1))), (3, .int (iI i)), (0, .ref (M 100)), (1, .int (iI a))]) hx hb dX3_count_106 rfl hl (by decide) rfl (fun ls hl => ?_)
            refine r_iinc (a := i) (b := (i + 1)) (lv2 := [(3, .int (iI (i + 1))), (2, .int (iI (g + 1))), (0, .ref (M 100)), (1, .int (iI a))]) hx hb dX3_count_107 hl (k := 1) rfl (by omega) (by decide) rfl (fun ls hl => ?_)
            refine lv_goto (tgt := 84) hx hb dX3_count_110 (by decide) ?_
            exact ihlp84_9 (i + 1) (g + 1) ls (by omega) (by rw [fo_s _ _ (by omega), ← hg]; show _ = if 0 < μ 13 i then g + 1 else g; first | rw [if_pos (by omega)] | (rw [if_neg (by omega)]; omega)) (by omega) (lv_sub hl [0, 1, 2, 3] rfl)
    exact lp84_9 _ 0 0 ls (by omega) rfl (lt_tn _) (lv_sub hl [0, 1, 2, 3] rfl)
  by_cases h13 : a = 5
  · refine lv_tableIn (tgt := 115) hx hb dX3_count_3 (by rw [iI_toInt (by omega)]; omega) (by rw [iI_toInt (by omega)]; omega) (by rw [iI_toInt (by omega), h13]; rfl) (by decide) ?_
    refine lv_aload_n hx hb dX3_count_115 rfl (lv_at hl 1 rfl) ?_
    refine va_get (D := D) (ci := 3) (v := .int (iI (μ 14 0))) (C := RX3) (T := TX3) (N := 17) hx hb hts (fun _ h => List.mem_cons_of_mem _ (List.mem_append_right _ h)) hown hK hP 0 rfl rfl 14 (by decide) (hts _ fl_X3_count_112) (fun _ h9 => h9) rfl dX3_count_116 ?_
    exact r_ret hx hb hr hlocks dX3_count_119 (by rw [if_neg (by omega), if_neg (by omega), if_neg (by omega), if_neg (by omega), if_neg (by omega), if_pos (by omega)])
  refine lv_tableOut (tgt := 120) hx hb dX3_count_3 (by rw [iI_toInt (by omega)]; omega) (by decide) ?_
  refine lv_iconst (v := iI (-1)) hx hb dX3_count_120 rfl ?_
  exact r_ret hx hb hr hlocks dX3_count_121 (by rw [if_neg (by omega), if_neg (by omega), if_neg (by omega), if_neg (by omega), if_neg (by omega), if_neg (by omega)])
