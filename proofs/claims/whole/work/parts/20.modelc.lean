/-! THE REFERENCE: givesIn -/
theorem fl_X3_givesIn_16 : Cond.fieldLink RX3 16 "NoiseLampsModel" "levels" "[I" ∈ wsX3_givesIn := by decide +kernel
theorem fl_X3_givesIn_7 : Cond.fieldLink RX3 7 "NoiseLampsModel" "pieceX" "[I" ∈ wsX3_givesIn := by decide +kernel
theorem fl_X3_givesIn_19 : Cond.fieldLink RX3 19 "NoiseLampsModel" "houseX" "[I" ∈ wsX3_givesIn := by decide +kernel
theorem fl_X3_givesIn_13 : Cond.fieldLink RX3 13 "NoiseLampsModel" "pieceY" "[I" ∈ wsX3_givesIn := by decide +kernel
theorem fl_X3_givesIn_22 : Cond.fieldLink RX3 22 "NoiseLampsModel" "houseY" "[I" ∈ wsX3_givesIn := by decide +kernel
theorem fl_X3_givesIn_64 : Cond.fieldLink RX3 64 "NoiseLampsModel" "walls" "I" ∈ wsX3_givesIn := by decide +kernel
theorem fl_X3_givesIn_31 : Cond.fieldLink RX3 31 "NoiseLampsModel" "cuts" "[I" ∈ wsX3_givesIn := by decide +kernel
theorem fl_X3_givesIn_34 : Cond.fieldLink RX3 34 "NoiseLampsModel" "fall" "I" ∈ wsX3_givesIn := by decide +kernel
set_option maxHeartbeats 4000000 in
set_option maxRecDepth 100000 in
theorem c_X3_givesIn (l : Launch) (D : va_G) (cy : ClassId) (M : Nat → Nat) (μ : Nat → Int → Int) (a b t : Int) (hI : invM μ) (ha : 0 ≤ a ∧ a < 12) (hb2 : 0 ≤ b ∧ b < 20) (ht : 0 ≤ t ∧ t < 3) : MetR l yX3_givesIn wsX3_givesIn ({ frames := 2, cells := 0, slots := 0, locals := 68 } : Room) D cy (wM cy M μ) ([.ref (M 100), .int (iI a), .int (iI b), .int (iI t)] : List Value) (mGives μ a b t) := by
  refine met_R (cc := cX3_givesIn) (maxL := 14) (ret := (some .int)) (by decide) rfl (Nat.le_of_ble_eq_true rfl) ?_
  intro p e s m below meth c hx hb hr hml hts hown hlocks hP hK ls hl
  have hown : s.vm.findClass RX3 = some m.cls := hown
  have hl : lv_has ls 14 [(0, .ref (M 100)), (1, .int (iI a)), (2, .int (iI b)), (3, .int (iI t))] := hl
  obtain ⟨hM0, hM4, hM8, hM11, hM14, hB1, hB2, hB3, hB5, hB6, hB7, hB9, hB10, hB12, hB13, hB15, hB16⟩ := id hI
  have hd2 := mD2_bd hI a b
  have he2 : mD2 μ a b = (μ 1 a - μ 5 b) * (μ 1 a - μ 5 b) + (μ 2 a - μ 6 b) * (μ 2 a - μ 6 b) := rfl
  refine lv_aload_n hx hb dX3_givesIn_0 rfl (lv_at hl 0 rfl) ?_
  refine va_get (D := D) (ci := 3) (v := .ref (M 3)) (C := RX3) (T := TX3) (N := 17) hx hb hts (fun _ h => List.mem_cons_of_mem _ (List.mem_append_right _ h)) hown hK hP 0 rfl rfl 3 (by decide) (hts _ fl_X3_givesIn_16) (fun _ h9 => h9) rfl dX3_givesIn_1 ?_
  refine lv_iconst (v := iI 3) hx hb dX3_givesIn_4 rfl ?_
  refine lv_iload_n hx hb dX3_givesIn_5 rfl (lv_at hl 1 rfl) ?_
  refine r_imul hx hb dX3_givesIn_6 ?_
  refine lv_iload_n hx hb dX3_givesIn_7 rfl (lv_at hl 3 rfl) ?_
  refine r_iadd hx hb dX3_givesIn_8 ?_
  refine r_iald hx hb hK hP 3 0 rfl rfl (Nat.le_of_ble_eq_true rfl) (by omega) dX3_givesIn_9 ?_
  have hv1 := hB3 ((3 * a) + t)
  refine lv_istore (lv' := [(4, .int (iI (μ 3 ((3 * a) + t)))), (0, .ref (M 100)), (1, .int (iI a)), (2, .int (iI b)), (3, .int (iI t))]) hx hb dX3_givesIn_10 hl (by decide) rfl (fun ls hl => ?_)
  refine lv_iload hx hb dX3_givesIn_12 (lv_at hl 0 rfl) ?_
  refine r_if_ne (tgt := 19) hx hb dX3_givesIn_14 (by decide) (by omega) (fun h2 => ?_) (fun h2 => ?_)
  · -- 14 to 19
    refine lv_aload_n hx hb dX3_givesIn_19 rfl (lv_at hl 1 rfl) ?_
    refine va_get (D := D) (ci := 3) (v := .ref (M 1)) (C := RX3) (T := TX3) (N := 17) hx hb hts (fun _ h => List.mem_cons_of_mem _ (List.mem_append_right _ h)) hown hK hP 0 rfl rfl 1 (by decide) (hts _ fl_X3_givesIn_7) (fun _ h9 => h9) rfl dX3_givesIn_20 ?_
    refine lv_iload_n hx hb dX3_givesIn_23 rfl (lv_at hl 2 rfl) ?_
    refine r_iald hx hb hK hP 1 0 rfl rfl (Nat.le_of_ble_eq_true rfl) (by omega) dX3_givesIn_24 ?_
    have hv3 := hB1 a
    refine lv_aload_n hx hb dX3_givesIn_25 rfl (lv_at hl 1 rfl) ?_
    refine va_get (D := D) (ci := 3) (v := .ref (M 5)) (C := RX3) (T := TX3) (N := 17) hx hb hts (fun _ h => List.mem_cons_of_mem _ (List.mem_append_right _ h)) hown hK hP 0 rfl rfl 5 (by decide) (hts _ fl_X3_givesIn_19) (fun _ h9 => h9) rfl dX3_givesIn_26 ?_
    refine lv_iload_n hx hb dX3_givesIn_29 rfl (lv_at hl 3 rfl) ?_
    refine r_iald hx hb hK hP 4 0 rfl rfl (Nat.le_of_ble_eq_true rfl) (by omega) dX3_givesIn_30 ?_
    have hv4 := hB5 b
    refine r_isub hx hb dX3_givesIn_31 ?_
    refine r_i2l hx hb dX3_givesIn_32 (by omega) ?_
    refine lv_lstore (lv' := [(5, .long (jI ((μ 1 a) - (μ 5 b)))), (4, .int (iI (μ 3 ((3 * a) + t)))), (0, .ref (M 100)), (1, .int (iI a)), (2, .int (iI b)), (3, .int (iI t))]) hx hb dX3_givesIn_33 hl (by decide) rfl (fun ls hl => ?_)
    refine lv_aload_n hx hb dX3_givesIn_35 rfl (lv_at hl 2 rfl) ?_
    refine va_get (D := D) (ci := 3) (v := .ref (M 2)) (C := RX3) (T := TX3) (N := 17) hx hb hts (fun _ h => List.mem_cons_of_mem _ (List.mem_append_right _ h)) hown hK hP 0 rfl rfl 2 (by decide) (hts _ fl_X3_givesIn_13) (fun _ h9 => h9) rfl dX3_givesIn_36 ?_
    refine lv_iload_n hx hb dX3_givesIn_39 rfl (lv_at hl 3 rfl) ?_
    refine r_iald hx hb hK hP 2 0 rfl rfl (Nat.le_of_ble_eq_true rfl) (by omega) dX3_givesIn_40 ?_
    have hv5 := hB2 a
    refine lv_aload_n hx hb dX3_givesIn_41 rfl (lv_at hl 2 rfl) ?_
    refine va_get (D := D) (ci := 3) (v := .ref (M 6)) (C := RX3) (T := TX3) (N := 17) hx hb hts (fun _ h => List.mem_cons_of_mem _ (List.mem_append_right _ h)) hown hK hP 0 rfl rfl 6 (by decide) (hts _ fl_X3_givesIn_22) (fun _ h9 => h9) rfl dX3_givesIn_42 ?_
    refine lv_iload_n hx hb dX3_givesIn_45 rfl (lv_at hl 4 rfl) ?_
    refine r_iald hx hb hK hP 5 0 rfl rfl (Nat.le_of_ble_eq_true rfl) (by omega) dX3_givesIn_46 ?_
    have hv6 := hB6 b
    refine r_isub hx hb dX3_givesIn_47 ?_
    refine r_i2l hx hb dX3_givesIn_48 (by omega) ?_
    refine lv_lstore (lv' := [(7, .long (jI ((μ 2 a) - (μ 6 b)))), (5, .long (jI ((μ 1 a) - (μ 5 b)))), (4, .int (iI (μ 3 ((3 * a) + t)))), (0, .ref (M 100)), (1, .int (iI a)), (2, .int (iI b)), (3, .int (iI t))]) hx hb dX3_givesIn_49 hl (by decide) rfl (fun ls hl => ?_)
    refine lv_lload hx hb dX3_givesIn_51 (lv_at hl 1 rfl) ?_
    refine lv_lload hx hb dX3_givesIn_53 (lv_at hl 1 rfl) ?_
    refine r_lmul hx hb dX3_givesIn_55 ?_
    refine lv_lload hx hb dX3_givesIn_56 (lv_at hl 0 rfl) ?_
    refine lv_lload hx hb dX3_givesIn_58 (lv_at hl 0 rfl) ?_
    refine r_lmul hx hb dX3_givesIn_60 ?_
    refine r_ladd hx hb dX3_givesIn_61 ?_
    refine lv_lstore (lv' := [(9, .long (jI ((((μ 1 a) - (μ 5 b)) * ((μ 1 a) - (μ 5 b))) + (((μ 2 a) - (μ 6 b)) * ((μ 2 a) - (μ 6 b)))))), (7, .long (jI ((μ 2 a) - (μ 6 b)))), (5, .long (jI ((μ 1 a) - (μ 5 b)))), (4, .int (iI (μ 3 ((3 * a) + t)))), (0, .ref (M 100)), (1, .int (iI a)), (2, .int (iI b)), (3, .int (iI t))]) hx hb dX3_givesIn_62 hl (by decide) rfl (fun ls hl => ?_)
    refine lv_ldc2 (v := jI 400) hx hb hown (by rw [show jI 400 = 400 from by decide +kernel]; exact hts (.constantLong RX3 75 (400)) (by decide +kernel)) dX3_givesIn_64 ?_
    refine lv_lstore (lv' := [(11, .long (jI 400)), (9, .long (jI ((((μ 1 a) - (μ 5 b)) * ((μ 1 a) - (μ 5 b))) + (((μ 2 a) - (μ 6 b)) * ((μ 2 a) - (μ 6 b)))))), (7, .long (jI ((μ 2 a) - (μ 6 b)))), (5, .long (jI ((μ 1 a) - (μ 5 b)))), (4, .int (iI (μ 3 ((3 * a) + t)))), (0, .ref (M 100)), (1, .int (iI a)), (2, .int (iI b)), (3, .int (iI t))]) hx hb dX3_givesIn_67 hl (by decide) rfl (fun ls hl => ?_)
    have jn97_7 : ∀ (lev : Int) (ls : Array Slot), (lev = μ 3 (3 * a + t) - μ 11 0 * nDbl (mD2 μ a b)) → lv_has ls 14 [(4, .int (iI lev)), (9, .long (jI ((((μ 1 a) - (μ 5 b)) * ((μ 1 a) - (μ 5 b))) + (((μ 2 a) - (μ 6 b)) * ((μ 2 a) - (μ 6 b)))))), (7, .long (jI ((μ 2 a) - (μ 6 b)))), (5, .long (jI ((μ 1 a) - (μ 5 b)))), (0, .ref (M 100)), (1, .int (iI a)), (2, .int (iI b)), (3, .int (iI t))] → W p l e ({ frames := 2, cells := 0, slots := 0, locals := 68 } : Room) s m ([.ref (M 100), .int (iI a), .int (iI b), .int (iI t)] : List Value).toArray below meth c s.heap [] 0 0 (MQ below (vp_Si (fun r => r = iI (mGives μ a b t))) ([.ref (M 100), .int (iI a), .int (iI b), .int (iI t)] : List Value).toArray s 0 0 (fun _ => False)) (F0 m 97 ls []) := by
      intro lev ls hlev hl
      refine lv_iconst (v := iI 0) hx hb dX3_givesIn_97 rfl ?_
      refine lv_istore (lv' := [(11, .int (iI 0)), (4, .int (iI lev)), (9, .long (jI ((((μ 1 a) - (μ 5 b)) * ((μ 1 a) - (μ 5 b))) + (((μ 2 a) - (μ 6 b)) * ((μ 2 a) - (μ 6 b)))))), (7, .long (jI ((μ 2 a) - (μ 6 b)))), (5, .long (jI ((μ 1 a) - (μ 5 b)))), (0, .ref (M 100)), (1, .int (iI a)), (2, .int (iI b)), (3, .int (iI t))]) hx hb dX3_givesIn_98 hl (by decide) rfl (fun ls hl => ?_)
      refine lv_iconst (v := iI 0) hx hb dX3_givesIn_100 rfl ?_
      refine lv_istore (lv' := [(12, .int (iI 0)), (11, .int (iI 0)), (4, .int (iI lev)), (9, .long (jI ((((μ 1 a) - (μ 5 b)) * ((μ 1 a) - (μ 5 b))) + (((μ 2 a) - (μ 6 b)) * ((μ 2 a) - (μ 6 b)))))), (7, .long (jI ((μ 2 a) - (μ 6 b)))), (5, .long (jI ((μ 1 a) - (μ 5 b)))), (0, .ref (M 100)), (1, .int (iI a)), (2, .int (iI b)), (3, .int (iI t))]) hx hb dX3_givesIn_101 hl (by decide) rfl (fun ls hl => ?_)
      have hmm := mul_bd (a := μ 11 0) (b := nDbl (mD2 μ a b)) (A := 60) (B := 10) (by omega) (nDbl_bd _)
      have lp103_8 : ∀ (nlp103_8 : Nat) (i : Int) (g : Int) (ls : Array Slot), (0 ≤ i ∧ i ≤ μ 8 0) → (g = fo (mCutF μ a b) 0 i) → (0 ≤ g ∧ g ≤ 300) → (μ 8 0 - i < (nlp103_8 : Int)) → lv_has ls 14 [(12, .int (iI i)), (11, .int (iI g)), (4, .int (iI lev)), (9, .long (jI ((((μ 1 a) - (μ 5 b)) * ((μ 1 a) - (μ 5 b))) + (((μ 2 a) - (μ 6 b)) * ((μ 2 a) - (μ 6 b)))))), (7, .long (jI ((μ 2 a) - (μ 6 b)))), (5, .long (jI ((μ 1 a) - (μ 5 b)))), (0, .ref (M 100)), (1, .int (iI a)), (2, .int (iI b)), (3, .int (iI t))] → W p l e ({ frames := 2, cells := 0, slots := 0, locals := 68 } : Room) s m ([.ref (M 100), .int (iI a), .int (iI b), .int (iI t)] : List Value).toArray below meth c s.heap [] 0 0 (MQ below (vp_Si (fun r => r = iI (mGives μ a b t))) ([.ref (M 100), .int (iI a), .int (iI b), .int (iI t)] : List Value).toArray s 0 0 (fun _ => False)) (F0 m 103 ls []) := by
        intro nlp103_8
        induction nlp103_8 with
        | zero => intro i g ls hi hg hgb hn hl; exact absurd hn (by omega)
        | succ nlp103_8 ihlp103_8 =>
          intro i g ls hi hg hgb hn hl
          refine lv_iload hx hb dX3_givesIn_103 (lv_at hl 0 rfl) ?_
          refine lv_aload_n hx hb dX3_givesIn_105 rfl (lv_at hl 6 rfl) ?_
          refine va_get (D := D) (ci := 3) (v := .int (iI (μ 8 0))) (C := RX3) (T := TX3) (N := 17) hx hb hts (fun _ h => List.mem_cons_of_mem _ (List.mem_append_right _ h)) hown hK hP 0 rfl rfl 8 (by decide) (hts _ fl_X3_givesIn_64) (fun _ h9 => h9) rfl dX3_givesIn_106 ?_
          refine r_icmp_ge (tgt := 189) hx hb dX3_givesIn_109 (by decide) (by omega) (by omega) (fun h9 => ?_) (fun h9 => ?_)
          · -- 109 to 189
            refine lv_iload hx hb dX3_givesIn_189 (lv_at hl 2 rfl) ?_
            refine lv_iload hx hb dX3_givesIn_191 (lv_at hl 1 rfl) ?_
            refine r_isub hx hb dX3_givesIn_193 ?_
            refine lv_istore (lv' := [(4, .int (iI (lev - g))), (12, .int (iI i)), (11, .int (iI g)), (9, .long (jI ((((μ 1 a) - (μ 5 b)) * ((μ 1 a) - (μ 5 b))) + (((μ 2 a) - (μ 6 b)) * ((μ 2 a) - (μ 6 b)))))), (7, .long (jI ((μ 2 a) - (μ 6 b)))), (5, .long (jI ((μ 1 a) - (μ 5 b)))), (0, .ref (M 100)), (1, .int (iI a)), (2, .int (iI b)), (3, .int (iI t))]) hx hb dX3_givesIn_194 hl (by decide) rfl (fun ls hl => ?_)
            refine lv_iload hx hb dX3_givesIn_196 (lv_at hl 0 rfl) ?_
            refine r_if_ge (tgt := 205) hx hb dX3_givesIn_198 (by decide) (by omega) (fun h10 => ?_) (fun h10 => ?_)
            · -- 198 to 205
              refine lv_iload hx hb dX3_givesIn_205 (lv_at hl 0 rfl) ?_
              exact r_ret hx hb hr hlocks dX3_givesIn_207 (by unfold mGives; rw [if_neg (by omega)]; have hc0 : mCut μ a b = g := (by rw [hg, show i = μ 8 0 from by omega]; rfl); have hx0 := mxZ_s (μ 3 (3 * a + t) - μ 11 0 * nDbl (mD2 μ a b) - mCut μ a b) 0; omega)
            · -- 198 to 201
              refine lv_iconst (v := iI 0) hx hb dX3_givesIn_201 rfl ?_
              refine lv_goto (tgt := 207) hx hb dX3_givesIn_202 (by decide) ?_
              exact r_ret hx hb hr hlocks dX3_givesIn_207 (by unfold mGives; rw [if_neg (by omega)]; have hc0 : mCut μ a b = g := (by rw [hg, show i = μ 8 0 from by omega]; rfl); have hx0 := mxZ_s (μ 3 (3 * a + t) - μ 11 0 * nDbl (mD2 μ a b) - mCut μ a b) 0; omega)
          · -- 109 to 112
            refine lv_aload_n hx hb dX3_givesIn_112 rfl (lv_at hl 6 rfl) ?_
            refine va_get (D := D) (ci := 3) (v := .ref (M 10)) (C := RX3) (T := TX3) (N := 17) hx hb hts (fun _ h => List.mem_cons_of_mem _ (List.mem_append_right _ h)) hown hK hP 0 rfl rfl 10 (by decide) (hts _ fl_X3_givesIn_31) (fun _ h9 => h9) rfl dX3_givesIn_113 ?_
            refine lv_iload hx hb dX3_givesIn_116 (lv_at hl 0 rfl) ?_
            refine r_iald hx hb hK hP 8 0 rfl rfl (Nat.le_of_ble_eq_true rfl) (by omega) dX3_givesIn_118 ?_
            have hv11 := hB10 i
            refine lv_iload hx hb dX3_givesIn_119 (lv_at hl 1 rfl) ?_
            refine r_icmp_le (tgt := 161) hx hb dX3_givesIn_121 (by decide) (by omega) (by omega) (fun h12 => ?_) (fun h12 => ?_)
            · -- 121 to 161
              refine lv_iconst (v := iI 0) hx hb dX3_givesIn_161 rfl ?_
              refine lv_istore (lv' := [(13, .int (iI 0)), (12, .int (iI i)), (11, .int (iI g)), (4, .int (iI lev)), (9, .long (jI ((((μ 1 a) - (μ 5 b)) * ((μ 1 a) - (μ 5 b))) + (((μ 2 a) - (μ 6 b)) * ((μ 2 a) - (μ 6 b)))))), (7, .long (jI ((μ 2 a) - (μ 6 b)))), (5, .long (jI ((μ 1 a) - (μ 5 b)))), (0, .ref (M 100)), (1, .int (iI a)), (2, .int (iI b)), (3, .int (iI t))]) hx hb dX3_givesIn_162 hl (by decide) rfl (fun ls hl => ?_)
              refine lv_iload hx hb dX3_givesIn_164 (lv_at hl 0 rfl) ?_
              refine r_if_eq (tgt := 179) hx hb dX3_givesIn_166 (by decide) (by omega) (fun _ => ?_) (fun h => absurd h (by decide))
              refine lv_iload hx hb dX3_givesIn_179 (lv_at hl 2 rfl) ?_
              refine lv_istore (lv' := [(11, .int (iI g)), (13, .int (iI 0)), (12, .int (iI i)), (4, .int (iI lev)), (9, .long (jI ((((μ 1 a) - (μ 5 b)) * ((μ 1 a) - (μ 5 b))) + (((μ 2 a) - (μ 6 b)) * ((μ 2 a) - (μ 6 b)))))), (7, .long (jI ((μ 2 a) - (μ 6 b)))), (5, .long (jI ((μ 1 a) - (μ 5 b)))), (0, .ref (M 100)), (1, .int (iI a)), (2, .int (iI b)), (3, .int (iI t))]) hx hb dX3_givesIn_181 hl (by decide) rfl (fun ls hl => ?_)
              refine r_iinc (a := i) (b := (i + 1)) (lv2 := [(12, .int (iI (i + 1))), (11, .int (iI g)), (13, .int (iI 0)), (4, .int (iI lev)), (9, .long (jI ((((μ 1 a) - (μ 5 b)) * ((μ 1 a) - (μ 5 b))) + (((μ 2 a) - (μ 6 b)) * ((μ 2 a) - (μ 6 b)))))), (7, .long (jI ((μ 2 a) - (μ 6 b)))), (5, .long (jI ((μ 1 a) - (μ 5 b)))), (0, .ref (M 100)), (1, .int (iI a)), (2, .int (iI b)), (3, .int (iI t))]) hx hb dX3_givesIn_183 hl (k := 2) rfl (by omega) (by decide) rfl (fun ls hl => ?_)
              refine lv_goto (tgt := 103) hx hb dX3_givesIn_186 (by decide) ?_
              exact ihlp103_8 (i + 1) g ls (by omega) (by rw [fo_s _ _ (by omega), ← hg]; unfold mCutF; first | rw [if_pos ⟨by omega, by assumption⟩] | rw [if_neg (fun q => absurd q.1 (by omega))] | rw [if_neg (fun q => absurd q.2 (by assumption))]) (by omega) (by omega) (lv_sub hl [0, 1, 3, 4, 5, 6, 7, 8, 9, 10] rfl)
            · -- 121 to 124
              refine lv_aload_n hx hb dX3_givesIn_124 rfl (lv_at hl 6 rfl) ?_
              refine lv_iload hx hb dX3_givesIn_125 (lv_at hl 0 rfl) ?_
              refine lv_aload_n hx hb dX3_givesIn_127 rfl (lv_at hl 6 rfl) ?_
              refine va_get (D := D) (ci := 3) (v := .ref (M 1)) (C := RX3) (T := TX3) (N := 17) hx hb hts (fun _ h => List.mem_cons_of_mem _ (List.mem_append_right _ h)) hown hK hP 0 rfl rfl 1 (by decide) (hts _ fl_X3_givesIn_7) (fun _ h9 => h9) rfl dX3_givesIn_128 ?_
              refine lv_iload_n hx hb dX3_givesIn_131 rfl (lv_at hl 7 rfl) ?_
              refine r_iald hx hb hK hP 1 0 rfl rfl (Nat.le_of_ble_eq_true rfl) (by omega) dX3_givesIn_132 ?_
              have hv13 := hB1 a
              refine lv_aload_n hx hb dX3_givesIn_133 rfl (lv_at hl 6 rfl) ?_
              refine va_get (D := D) (ci := 3) (v := .ref (M 2)) (C := RX3) (T := TX3) (N := 17) hx hb hts (fun _ h => List.mem_cons_of_mem _ (List.mem_append_right _ h)) hown hK hP 0 rfl rfl 2 (by decide) (hts _ fl_X3_givesIn_13) (fun _ h9 => h9) rfl dX3_givesIn_134 ?_
              refine lv_iload_n hx hb dX3_givesIn_137 rfl (lv_at hl 7 rfl) ?_
              refine r_iald hx hb hK hP 2 0 rfl rfl (Nat.le_of_ble_eq_true rfl) (by omega) dX3_givesIn_138 ?_
              have hv14 := hB2 a
              refine lv_aload_n hx hb dX3_givesIn_139 rfl (lv_at hl 6 rfl) ?_
              refine va_get (D := D) (ci := 3) (v := .ref (M 5)) (C := RX3) (T := TX3) (N := 17) hx hb hts (fun _ h => List.mem_cons_of_mem _ (List.mem_append_right _ h)) hown hK hP 0 rfl rfl 5 (by decide) (hts _ fl_X3_givesIn_19) (fun _ h9 => h9) rfl dX3_givesIn_140 ?_
              refine lv_iload_n hx hb dX3_givesIn_143 rfl (lv_at hl 8 rfl) ?_
              refine r_iald hx hb hK hP 4 0 rfl rfl (Nat.le_of_ble_eq_true rfl) (by omega) dX3_givesIn_144 ?_
              have hv15 := hB5 b
              refine lv_aload_n hx hb dX3_givesIn_145 rfl (lv_at hl 6 rfl) ?_
              refine va_get (D := D) (ci := 3) (v := .ref (M 6)) (C := RX3) (T := TX3) (N := 17) hx hb hts (fun _ h => List.mem_cons_of_mem _ (List.mem_append_right _ h)) hown hK hP 0 rfl rfl 6 (by decide) (hts _ fl_X3_givesIn_22) (fun _ h9 => h9) rfl dX3_givesIn_146 ?_
              refine lv_iload_n hx hb dX3_givesIn_149 rfl (lv_at hl 8 rfl) ?_
              refine r_iald hx hb hK hP 5 0 rfl rfl (Nat.le_of_ble_eq_true rfl) (by omega) dX3_givesIn_150 ?_
              have hv16 := hB6 b
              refine r_calli (va_runV (As := [.int (iI i), .int (iI (μ 1 a)), .int (iI (μ 2 a)), .int (iI (μ 5 b)), .int (iI (μ 6 b))]) (rest := []) ⟨hx, hb, hml, hown, hts⟩ (c_X3_crosses l D cy M μ i (μ 1 a) (μ 2 a) (μ 5 b) (μ 6 b) hI (by omega) (by omega) (by omega) (by omega) (by omega)) (cwV 5 hts gX3_givesIn_X3_crosses rfl rfl rfl (by decide +kernel) ⟨Nat.le_of_ble_eq_true rfl, Nat.le_of_ble_eq_true rfl⟩) (pv_ro (C := RX3) (T := TX3) (N := 17) (ci := 3) (q0 := 0) hP hK rfl rfl) rfl rfl hl.1 rfl (lv_room (Nat.le_of_ble_eq_true rfl)) dX3_givesIn_151 ⟨Nat.le_of_ble_eq_true rfl, Nat.le_of_ble_eq_true rfl⟩) ?_
              refine r_ifB_eq (tgt := 161) hx hb dX3_givesIn_154 (by decide) (fun h17 => ?_) (fun h17 => ?_)
              · -- 154 to 161
                refine lv_iconst (v := iI 0) hx hb dX3_givesIn_161 rfl ?_
                refine lv_istore (lv' := [(13, .int (iI 0)), (12, .int (iI i)), (11, .int (iI g)), (4, .int (iI lev)), (9, .long (jI ((((μ 1 a) - (μ 5 b)) * ((μ 1 a) - (μ 5 b))) + (((μ 2 a) - (μ 6 b)) * ((μ 2 a) - (μ 6 b)))))), (7, .long (jI ((μ 2 a) - (μ 6 b)))), (5, .long (jI ((μ 1 a) - (μ 5 b)))), (0, .ref (M 100)), (1, .int (iI a)), (2, .int (iI b)), (3, .int (iI t))]) hx hb dX3_givesIn_162 hl (by decide) rfl (fun ls hl => ?_)
                refine lv_iload hx hb dX3_givesIn_164 (lv_at hl 0 rfl) ?_
                refine r_if_eq (tgt := 179) hx hb dX3_givesIn_166 (by decide) (by omega) (fun _ => ?_) (fun h => absurd h (by decide))
                refine lv_iload hx hb dX3_givesIn_179 (lv_at hl 2 rfl) ?_
                refine lv_istore (lv' := [(11, .int (iI g)), (13, .int (iI 0)), (12, .int (iI i)), (4, .int (iI lev)), (9, .long (jI ((((μ 1 a) - (μ 5 b)) * ((μ 1 a) - (μ 5 b))) + (((μ 2 a) - (μ 6 b)) * ((μ 2 a) - (μ 6 b)))))), (7, .long (jI ((μ 2 a) - (μ 6 b)))), (5, .long (jI ((μ 1 a) - (μ 5 b)))), (0, .ref (M 100)), (1, .int (iI a)), (2, .int (iI b)), (3, .int (iI t))]) hx hb dX3_givesIn_181 hl (by decide) rfl (fun ls hl => ?_)
                refine r_iinc (a := i) (b := (i + 1)) (lv2 := [(12, .int (iI (i + 1))), (11, .int (iI g)), (13, .int (iI 0)), (4, .int (iI lev)), (9, .long (jI ((((μ 1 a) - (μ 5 b)) * ((μ 1 a) - (μ 5 b))) + (((μ 2 a) - (μ 6 b)) * ((μ 2 a) - (μ 6 b)))))), (7, .long (jI ((μ 2 a) - (μ 6 b)))), (5, .long (jI ((μ 1 a) - (μ 5 b)))), (0, .ref (M 100)), (1, .int (iI a)), (2, .int (iI b)), (3, .int (iI t))]) hx hb dX3_givesIn_183 hl (k := 2) rfl (by omega) (by decide) rfl (fun ls hl => ?_)
                refine lv_goto (tgt := 103) hx hb dX3_givesIn_186 (by decide) ?_
                exact ihlp103_8 (i + 1) g ls (by omega) (by rw [fo_s _ _ (by omega), ← hg]; unfold mCutF; first | rw [if_pos ⟨by omega, by assumption⟩] | rw [if_neg (fun q => absurd q.1 (by omega))] | rw [if_neg (fun q => absurd q.2 (by assumption))]) (by omega) (by omega) (lv_sub hl [0, 1, 3, 4, 5, 6, 7, 8, 9, 10] rfl)
              · -- 154 to 157
                refine lv_iconst (v := iI 1) hx hb dX3_givesIn_157 rfl ?_
                refine lv_goto (tgt := 162) hx hb dX3_givesIn_158 (by decide) ?_
                refine lv_istore (lv' := [(13, .int (iI 1)), (12, .int (iI i)), (11, .int (iI g)), (4, .int (iI lev)), (9, .long (jI ((((μ 1 a) - (μ 5 b)) * ((μ 1 a) - (μ 5 b))) + (((μ 2 a) - (μ 6 b)) * ((μ 2 a) - (μ 6 b)))))), (7, .long (jI ((μ 2 a) - (μ 6 b)))), (5, .long (jI ((μ 1 a) - (μ 5 b)))), (0, .ref (M 100)), (1, .int (iI a)), (2, .int (iI b)), (3, .int (iI t))]) hx hb dX3_givesIn_162 hl (by decide) rfl (fun ls hl => ?_)
                refine lv_iload hx hb dX3_givesIn_164 (lv_at hl 0 rfl) ?_
                refine r_if_eq (tgt := 179) hx hb dX3_givesIn_166 (by decide) (by omega) (fun h => absurd h (by decide)) (fun _ => ?_)
                refine lv_aload_n hx hb dX3_givesIn_169 rfl (lv_at hl 7 rfl) ?_
                refine va_get (D := D) (ci := 3) (v := .ref (M 10)) (C := RX3) (T := TX3) (N := 17) hx hb hts (fun _ h => List.mem_cons_of_mem _ (List.mem_append_right _ h)) hown hK hP 0 rfl rfl 10 (by decide) (hts _ fl_X3_givesIn_31) (fun _ h9 => h9) rfl dX3_givesIn_170 ?_
                refine lv_iload hx hb dX3_givesIn_173 (lv_at hl 1 rfl) ?_
                refine r_iald hx hb hK hP 8 0 rfl rfl (Nat.le_of_ble_eq_true rfl) (by omega) dX3_givesIn_175 ?_
                have hv18 := hB10 i
                refine lv_goto (tgt := 181) hx hb dX3_givesIn_176 (by decide) ?_
                refine lv_istore (lv' := [(11, .int (iI (μ 10 i))), (13, .int (iI 1)), (12, .int (iI i)), (4, .int (iI lev)), (9, .long (jI ((((μ 1 a) - (μ 5 b)) * ((μ 1 a) - (μ 5 b))) + (((μ 2 a) - (μ 6 b)) * ((μ 2 a) - (μ 6 b)))))), (7, .long (jI ((μ 2 a) - (μ 6 b)))), (5, .long (jI ((μ 1 a) - (μ 5 b)))), (0, .ref (M 100)), (1, .int (iI a)), (2, .int (iI b)), (3, .int (iI t))]) hx hb dX3_givesIn_181 hl (by decide) rfl (fun ls hl => ?_)
                refine r_iinc (a := i) (b := (i + 1)) (lv2 := [(12, .int (iI (i + 1))), (11, .int (iI (μ 10 i))), (13, .int (iI 1)), (4, .int (iI lev)), (9, .long (jI ((((μ 1 a) - (μ 5 b)) * ((μ 1 a) - (μ 5 b))) + (((μ 2 a) - (μ 6 b)) * ((μ 2 a) - (μ 6 b)))))), (7, .long (jI ((μ 2 a) - (μ 6 b)))), (5, .long (jI ((μ 1 a) - (μ 5 b)))), (0, .ref (M 100)), (1, .int (iI a)), (2, .int (iI b)), (3, .int (iI t))]) hx hb dX3_givesIn_183 hl (k := 2) rfl (by omega) (by decide) rfl (fun ls hl => ?_)
                refine lv_goto (tgt := 103) hx hb dX3_givesIn_186 (by decide) ?_
                exact ihlp103_8 (i + 1) (μ 10 i) ls (by omega) (by rw [fo_s _ _ (by omega), ← hg]; unfold mCutF; first | rw [if_pos ⟨by omega, by assumption⟩] | rw [if_neg (fun q => absurd q.1 (by omega))] | rw [if_neg (fun q => absurd q.2 (by assumption))]) (by omega) (by omega) (lv_sub hl [0, 1, 3, 4, 5, 6, 7, 8, 9, 10] rfl)
      exact lp103_8 _ 0 0 ls (by omega) rfl (by omega) (lt_tn _) (lv_sub hl [0, 1, 2, 3, 4, 5, 6, 7, 8, 9] rfl)
    refine lv_lload hx hb dX3_givesIn_69 (lv_at hl 1 rfl) ?_
    refine lv_lload hx hb dX3_givesIn_71 (lv_at hl 0 rfl) ?_
    refine r_lcmp hx hb dX3_givesIn_73 (by omega) (by omega) ?_
    refine r_if_lt (tgt := 97) hx hb dX3_givesIn_74 (by decide) (cmp_i32 _ _) (fun h19 => ?_) (fun h19 => ?_)
    · -- 74 to 97
      replace h19 := cmp_lt h19
      exact jn97_7 (μ 3 ((3 * a) + t)) ls (by rw [nDbl_0 (by omega)]; omega) (lv_sub hl [4, 1, 2, 3, 5, 6, 7, 8] rfl)
    · -- 74 to 77
      replace h19 := cmp_ge h19
      refine lv_iload hx hb dX3_givesIn_77 (lv_at hl 4 rfl) ?_
      refine lv_aload_n hx hb dX3_givesIn_79 rfl (lv_at hl 5 rfl) ?_
      refine va_get (D := D) (ci := 3) (v := .int (iI (μ 11 0))) (C := RX3) (T := TX3) (N := 17) hx hb hts (fun _ h => List.mem_cons_of_mem _ (List.mem_append_right _ h)) hown hK hP 0 rfl rfl 11 (by decide) (hts _ fl_X3_givesIn_34) (fun _ h9 => h9) rfl dX3_givesIn_80 ?_
      refine r_isub hx hb dX3_givesIn_83 ?_
      refine lv_istore (lv' := [(4, .int (iI ((μ 3 ((3 * a) + t)) - (μ 11 0)))), (11, .long (jI 400)), (9, .long (jI ((((μ 1 a) - (μ 5 b)) * ((μ 1 a) - (μ 5 b))) + (((μ 2 a) - (μ 6 b)) * ((μ 2 a) - (μ 6 b)))))), (7, .long (jI ((μ 2 a) - (μ 6 b)))), (5, .long (jI ((μ 1 a) - (μ 5 b)))), (0, .ref (M 100)), (1, .int (iI a)), (2, .int (iI b)), (3, .int (iI t))]) hx hb dX3_givesIn_84 hl (by decide) rfl (fun ls hl => ?_)
      refine lv_ldc2 (v := jI 4) hx hb hown (by rw [show jI 4 = 4 from by decide +kernel]; exact hts (.constantLong RX3 77 (4)) (by decide +kernel)) dX3_givesIn_86 ?_
      refine lv_lload hx hb dX3_givesIn_89 (lv_at hl 1 rfl) ?_
      refine r_lmul hx hb dX3_givesIn_91 ?_
      refine W.eq (g2 := F0 m 92 ls [.long (jI 1600)]) rfl ?_
      refine lv_lstore (lv' := [(11, .long (jI 1600)), (4, .int (iI ((μ 3 ((3 * a) + t)) - (μ 11 0)))), (9, .long (jI ((((μ 1 a) - (μ 5 b)) * ((μ 1 a) - (μ 5 b))) + (((μ 2 a) - (μ 6 b)) * ((μ 2 a) - (μ 6 b)))))), (7, .long (jI ((μ 2 a) - (μ 6 b)))), (5, .long (jI ((μ 1 a) - (μ 5 b)))), (0, .ref (M 100)), (1, .int (iI a)), (2, .int (iI b)), (3, .int (iI t))]) hx hb dX3_givesIn_92 hl (by decide) rfl (fun ls hl => ?_)
      refine lv_goto (tgt := 69) hx hb dX3_givesIn_94 (by decide) ?_
      refine lv_lload hx hb dX3_givesIn_69 (lv_at hl 2 rfl) ?_
      refine lv_lload hx hb dX3_givesIn_71 (lv_at hl 0 rfl) ?_
      refine r_lcmp hx hb dX3_givesIn_73 (by omega) (by omega) ?_
      refine r_if_lt (tgt := 97) hx hb dX3_givesIn_74 (by decide) (cmp_i32 _ _) (fun h20 => ?_) (fun h20 => ?_)
      · -- 74 to 97
        replace h20 := cmp_lt h20
        exact jn97_7 ((μ 3 ((3 * a) + t)) - (μ 11 0)) ls (by rw [nDbl_1 (by omega)]; omega) (lv_sub hl [1, 2, 3, 4, 5, 6, 7, 8] rfl)
      · -- 74 to 77
        replace h20 := cmp_ge h20
        refine lv_iload hx hb dX3_givesIn_77 (lv_at hl 1 rfl) ?_
        refine lv_aload_n hx hb dX3_givesIn_79 rfl (lv_at hl 5 rfl) ?_
        refine va_get (D := D) (ci := 3) (v := .int (iI (μ 11 0))) (C := RX3) (T := TX3) (N := 17) hx hb hts (fun _ h => List.mem_cons_of_mem _ (List.mem_append_right _ h)) hown hK hP 0 rfl rfl 11 (by decide) (hts _ fl_X3_givesIn_34) (fun _ h9 => h9) rfl dX3_givesIn_80 ?_
        refine r_isub hx hb dX3_givesIn_83 ?_
        refine lv_istore (lv' := [(4, .int (iI (((μ 3 ((3 * a) + t)) - (μ 11 0)) - (μ 11 0)))), (11, .long (jI 1600)), (9, .long (jI ((((μ 1 a) - (μ 5 b)) * ((μ 1 a) - (μ 5 b))) + (((μ 2 a) - (μ 6 b)) * ((μ 2 a) - (μ 6 b)))))), (7, .long (jI ((μ 2 a) - (μ 6 b)))), (5, .long (jI ((μ 1 a) - (μ 5 b)))), (0, .ref (M 100)), (1, .int (iI a)), (2, .int (iI b)), (3, .int (iI t))]) hx hb dX3_givesIn_84 hl (by decide) rfl (fun ls hl => ?_)
        refine lv_ldc2 (v := jI 4) hx hb hown (by rw [show jI 4 = 4 from by decide +kernel]; exact hts (.constantLong RX3 77 (4)) (by decide +kernel)) dX3_givesIn_86 ?_
        refine lv_lload hx hb dX3_givesIn_89 (lv_at hl 1 rfl) ?_
        refine r_lmul hx hb dX3_givesIn_91 ?_
        refine W.eq (g2 := F0 m 92 ls [.long (jI 6400)]) rfl ?_
        refine lv_lstore (lv' := [(11, .long (jI 6400)), (4, .int (iI (((μ 3 ((3 * a) + t)) - (μ 11 0)) - (μ 11 0)))), (9, .long (jI ((((μ 1 a) - (μ 5 b)) * ((μ 1 a) - (μ 5 b))) + (((μ 2 a) - (μ 6 b)) * ((μ 2 a) - (μ 6 b)))))), (7, .long (jI ((μ 2 a) - (μ 6 b)))), (5, .long (jI ((μ 1 a) - (μ 5 b)))), (0, .ref (M 100)), (1, .int (iI a)), (2, .int (iI b)), (3, .int (iI t))]) hx hb dX3_givesIn_92 hl (by decide) rfl (fun ls hl => ?_)
        refine lv_goto (tgt := 69) hx hb dX3_givesIn_94 (by decide) ?_
        refine lv_lload hx hb dX3_givesIn_69 (lv_at hl 2 rfl) ?_
        refine lv_lload hx hb dX3_givesIn_71 (lv_at hl 0 rfl) ?_
        refine r_lcmp hx hb dX3_givesIn_73 (by omega) (by omega) ?_
        refine r_if_lt (tgt := 97) hx hb dX3_givesIn_74 (by decide) (cmp_i32 _ _) (fun h21 => ?_) (fun h21 => ?_)
        · -- 74 to 97
          replace h21 := cmp_lt h21
          exact jn97_7 (((μ 3 ((3 * a) + t)) - (μ 11 0)) - (μ 11 0)) ls (by rw [nDbl_2 (by omega)]; omega) (lv_sub hl [1, 2, 3, 4, 5, 6, 7, 8] rfl)
        · -- 74 to 77
          replace h21 := cmp_ge h21
          refine lv_iload hx hb dX3_givesIn_77 (lv_at hl 1 rfl) ?_
          refine lv_aload_n hx hb dX3_givesIn_79 rfl (lv_at hl 5 rfl) ?_
          refine va_get (D := D) (ci := 3) (v := .int (iI (μ 11 0))) (C := RX3) (T := TX3) (N := 17) hx hb hts (fun _ h => List.mem_cons_of_mem _ (List.mem_append_right _ h)) hown hK hP 0 rfl rfl 11 (by decide) (hts _ fl_X3_givesIn_34) (fun _ h9 => h9) rfl dX3_givesIn_80 ?_
          refine r_isub hx hb dX3_givesIn_83 ?_
          refine lv_istore (lv' := [(4, .int (iI ((((μ 3 ((3 * a) + t)) - (μ 11 0)) - (μ 11 0)) - (μ 11 0)))), (11, .long (jI 6400)), (9, .long (jI ((((μ 1 a) - (μ 5 b)) * ((μ 1 a) - (μ 5 b))) + (((μ 2 a) - (μ 6 b)) * ((μ 2 a) - (μ 6 b)))))), (7, .long (jI ((μ 2 a) - (μ 6 b)))), (5, .long (jI ((μ 1 a) - (μ 5 b)))), (0, .ref (M 100)), (1, .int (iI a)), (2, .int (iI b)), (3, .int (iI t))]) hx hb dX3_givesIn_84 hl (by decide) rfl (fun ls hl => ?_)
          refine lv_ldc2 (v := jI 4) hx hb hown (by rw [show jI 4 = 4 from by decide +kernel]; exact hts (.constantLong RX3 77 (4)) (by decide +kernel)) dX3_givesIn_86 ?_
          refine lv_lload hx hb dX3_givesIn_89 (lv_at hl 1 rfl) ?_
          refine r_lmul hx hb dX3_givesIn_91 ?_
          refine W.eq (g2 := F0 m 92 ls [.long (jI 25600)]) rfl ?_
          refine lv_lstore (lv' := [(11, .long (jI 25600)), (4, .int (iI ((((μ 3 ((3 * a) + t)) - (μ 11 0)) - (μ 11 0)) - (μ 11 0)))), (9, .long (jI ((((μ 1 a) - (μ 5 b)) * ((μ 1 a) - (μ 5 b))) + (((μ 2 a) - (μ 6 b)) * ((μ 2 a) - (μ 6 b)))))), (7, .long (jI ((μ 2 a) - (μ 6 b)))), (5, .long (jI ((μ 1 a) - (μ 5 b)))), (0, .ref (M 100)), (1, .int (iI a)), (2, .int (iI b)), (3, .int (iI t))]) hx hb dX3_givesIn_92 hl (by decide) rfl (fun ls hl => ?_)
          refine lv_goto (tgt := 69) hx hb dX3_givesIn_94 (by decide) ?_
          refine lv_lload hx hb dX3_givesIn_69 (lv_at hl 2 rfl) ?_
          refine lv_lload hx hb dX3_givesIn_71 (lv_at hl 0 rfl) ?_
          refine r_lcmp hx hb dX3_givesIn_73 (by omega) (by omega) ?_
          refine r_if_lt (tgt := 97) hx hb dX3_givesIn_74 (by decide) (cmp_i32 _ _) (fun h22 => ?_) (fun h22 => ?_)
          · -- 74 to 97
            replace h22 := cmp_lt h22
            exact jn97_7 ((((μ 3 ((3 * a) + t)) - (μ 11 0)) - (μ 11 0)) - (μ 11 0)) ls (by rw [nDbl_3 (by omega)]; omega) (lv_sub hl [1, 2, 3, 4, 5, 6, 7, 8] rfl)
          · -- 74 to 77
            replace h22 := cmp_ge h22
            refine lv_iload hx hb dX3_givesIn_77 (lv_at hl 1 rfl) ?_
            refine lv_aload_n hx hb dX3_givesIn_79 rfl (lv_at hl 5 rfl) ?_
            refine va_get (D := D) (ci := 3) (v := .int (iI (μ 11 0))) (C := RX3) (T := TX3) (N := 17) hx hb hts (fun _ h => List.mem_cons_of_mem _ (List.mem_append_right _ h)) hown hK hP 0 rfl rfl 11 (by decide) (hts _ fl_X3_givesIn_34) (fun _ h9 => h9) rfl dX3_givesIn_80 ?_
            refine r_isub hx hb dX3_givesIn_83 ?_
            refine lv_istore (lv' := [(4, .int (iI (((((μ 3 ((3 * a) + t)) - (μ 11 0)) - (μ 11 0)) - (μ 11 0)) - (μ 11 0)))), (11, .long (jI 25600)), (9, .long (jI ((((μ 1 a) - (μ 5 b)) * ((μ 1 a) - (μ 5 b))) + (((μ 2 a) - (μ 6 b)) * ((μ 2 a) - (μ 6 b)))))), (7, .long (jI ((μ 2 a) - (μ 6 b)))), (5, .long (jI ((μ 1 a) - (μ 5 b)))), (0, .ref (M 100)), (1, .int (iI a)), (2, .int (iI b)), (3, .int (iI t))]) hx hb dX3_givesIn_84 hl (by decide) rfl (fun ls hl => ?_)
            refine lv_ldc2 (v := jI 4) hx hb hown (by rw [show jI 4 = 4 from by decide +kernel]; exact hts (.constantLong RX3 77 (4)) (by decide +kernel)) dX3_givesIn_86 ?_
            refine lv_lload hx hb dX3_givesIn_89 (lv_at hl 1 rfl) ?_
            refine r_lmul hx hb dX3_givesIn_91 ?_
            refine W.eq (g2 := F0 m 92 ls [.long (jI 102400)]) rfl ?_
            refine lv_lstore (lv' := [(11, .long (jI 102400)), (4, .int (iI (((((μ 3 ((3 * a) + t)) - (μ 11 0)) - (μ 11 0)) - (μ 11 0)) - (μ 11 0)))), (9, .long (jI ((((μ 1 a) - (μ 5 b)) * ((μ 1 a) - (μ 5 b))) + (((μ 2 a) - (μ 6 b)) * ((μ 2 a) - (μ 6 b)))))), (7, .long (jI ((μ 2 a) - (μ 6 b)))), (5, .long (jI ((μ 1 a) - (μ 5 b)))), (0, .ref (M 100)), (1, .int (iI a)), (2, .int (iI b)), (3, .int (iI t))]) hx hb dX3_givesIn_92 hl (by decide) rfl (fun ls hl => ?_)
            refine lv_goto (tgt := 69) hx hb dX3_givesIn_94 (by decide) ?_
            refine lv_lload hx hb dX3_givesIn_69 (lv_at hl 2 rfl) ?_
            refine lv_lload hx hb dX3_givesIn_71 (lv_at hl 0 rfl) ?_
            refine r_lcmp hx hb dX3_givesIn_73 (by omega) (by omega) ?_
            refine r_if_lt (tgt := 97) hx hb dX3_givesIn_74 (by decide) (cmp_i32 _ _) (fun h23 => ?_) (fun h23 => ?_)
            · -- 74 to 97
              replace h23 := cmp_lt h23
              exact jn97_7 (((((μ 3 ((3 * a) + t)) - (μ 11 0)) - (μ 11 0)) - (μ 11 0)) - (μ 11 0)) ls (by rw [nDbl_4 (by omega)]; omega) (lv_sub hl [1, 2, 3, 4, 5, 6, 7, 8] rfl)
            · -- 74 to 77
              replace h23 := cmp_ge h23
              refine lv_iload hx hb dX3_givesIn_77 (lv_at hl 1 rfl) ?_
              refine lv_aload_n hx hb dX3_givesIn_79 rfl (lv_at hl 5 rfl) ?_
              refine va_get (D := D) (ci := 3) (v := .int (iI (μ 11 0))) (C := RX3) (T := TX3) (N := 17) hx hb hts (fun _ h => List.mem_cons_of_mem _ (List.mem_append_right _ h)) hown hK hP 0 rfl rfl 11 (by decide) (hts _ fl_X3_givesIn_34) (fun _ h9 => h9) rfl dX3_givesIn_80 ?_
              refine r_isub hx hb dX3_givesIn_83 ?_
              refine lv_istore (lv' := [(4, .int (iI ((((((μ 3 ((3 * a) + t)) - (μ 11 0)) - (μ 11 0)) - (μ 11 0)) - (μ 11 0)) - (μ 11 0)))), (11, .long (jI 102400)), (9, .long (jI ((((μ 1 a) - (μ 5 b)) * ((μ 1 a) - (μ 5 b))) + (((μ 2 a) - (μ 6 b)) * ((μ 2 a) - (μ 6 b)))))), (7, .long (jI ((μ 2 a) - (μ 6 b)))), (5, .long (jI ((μ 1 a) - (μ 5 b)))), (0, .ref (M 100)), (1, .int (iI a)), (2, .int (iI b)), (3, .int (iI t))]) hx hb dX3_givesIn_84 hl (by decide) rfl (fun ls hl => ?_)
              refine lv_ldc2 (v := jI 4) hx hb hown (by rw [show jI 4 = 4 from by decide +kernel]; exact hts (.constantLong RX3 77 (4)) (by decide +kernel)) dX3_givesIn_86 ?_
              refine lv_lload hx hb dX3_givesIn_89 (lv_at hl 1 rfl) ?_
              refine r_lmul hx hb dX3_givesIn_91 ?_
              refine W.eq (g2 := F0 m 92 ls [.long (jI 409600)]) rfl ?_
              refine lv_lstore (lv' := [(11, .long (jI 409600)), (4, .int (iI ((((((μ 3 ((3 * a) + t)) - (μ 11 0)) - (μ 11 0)) - (μ 11 0)) - (μ 11 0)) - (μ 11 0)))), (9, .long (jI ((((μ 1 a) - (μ 5 b)) * ((μ 1 a) - (μ 5 b))) + (((μ 2 a) - (μ 6 b)) * ((μ 2 a) - (μ 6 b)))))), (7, .long (jI ((μ 2 a) - (μ 6 b)))), (5, .long (jI ((μ 1 a) - (μ 5 b)))), (0, .ref (M 100)), (1, .int (iI a)), (2, .int (iI b)), (3, .int (iI t))]) hx hb dX3_givesIn_92 hl (by decide) rfl (fun ls hl => ?_)
              refine lv_goto (tgt := 69) hx hb dX3_givesIn_94 (by decide) ?_
              refine lv_lload hx hb dX3_givesIn_69 (lv_at hl 2 rfl) ?_
              refine lv_lload hx hb dX3_givesIn_71 (lv_at hl 0 rfl) ?_
              refine r_lcmp hx hb dX3_givesIn_73 (by omega) (by omega) ?_
              refine r_if_lt (tgt := 97) hx hb dX3_givesIn_74 (by decide) (cmp_i32 _ _) (fun h24 => ?_) (fun h24 => ?_)
              · -- 74 to 97
                replace h24 := cmp_lt h24
                exact jn97_7 ((((((μ 3 ((3 * a) + t)) - (μ 11 0)) - (μ 11 0)) - (μ 11 0)) - (μ 11 0)) - (μ 11 0)) ls (by rw [nDbl_5 (by omega)]; omega) (lv_sub hl [1, 2, 3, 4, 5, 6, 7, 8] rfl)
              · -- 74 to 77
                replace h24 := cmp_ge h24
                refine lv_iload hx hb dX3_givesIn_77 (lv_at hl 1 rfl) ?_
                refine lv_aload_n hx hb dX3_givesIn_79 rfl (lv_at hl 5 rfl) ?_
                refine va_get (D := D) (ci := 3) (v := .int (iI (μ 11 0))) (C := RX3) (T := TX3) (N := 17) hx hb hts (fun _ h => List.mem_cons_of_mem _ (List.mem_append_right _ h)) hown hK hP 0 rfl rfl 11 (by decide) (hts _ fl_X3_givesIn_34) (fun _ h9 => h9) rfl dX3_givesIn_80 ?_
                refine r_isub hx hb dX3_givesIn_83 ?_
                refine lv_istore (lv' := [(4, .int (iI (((((((μ 3 ((3 * a) + t)) - (μ 11 0)) - (μ 11 0)) - (μ 11 0)) - (μ 11 0)) - (μ 11 0)) - (μ 11 0)))), (11, .long (jI 409600)), (9, .long (jI ((((μ 1 a) - (μ 5 b)) * ((μ 1 a) - (μ 5 b))) + (((μ 2 a) - (μ 6 b)) * ((μ 2 a) - (μ 6 b)))))), (7, .long (jI ((μ 2 a) - (μ 6 b)))), (5, .long (jI ((μ 1 a) - (μ 5 b)))), (0, .ref (M 100)), (1, .int (iI a)), (2, .int (iI b)), (3, .int (iI t))]) hx hb dX3_givesIn_84 hl (by decide) rfl (fun ls hl => ?_)
                refine lv_ldc2 (v := jI 4) hx hb hown (by rw [show jI 4 = 4 from by decide +kernel]; exact hts (.constantLong RX3 77 (4)) (by decide +kernel)) dX3_givesIn_86 ?_
                refine lv_lload hx hb dX3_givesIn_89 (lv_at hl 1 rfl) ?_
                refine r_lmul hx hb dX3_givesIn_91 ?_
                refine W.eq (g2 := F0 m 92 ls [.long (jI 1638400)]) rfl ?_
                refine lv_lstore (lv' := [(11, .long (jI 1638400)), (4, .int (iI (((((((μ 3 ((3 * a) + t)) - (μ 11 0)) - (μ 11 0)) - (μ 11 0)) - (μ 11 0)) - (μ 11 0)) - (μ 11 0)))), (9, .long (jI ((((μ 1 a) - (μ 5 b)) * ((μ 1 a) - (μ 5 b))) + (((μ 2 a) - (μ 6 b)) * ((μ 2 a) - (μ 6 b)))))), (7, .long (jI ((μ 2 a) - (μ 6 b)))), (5, .long (jI ((μ 1 a) - (μ 5 b)))), (0, .ref (M 100)), (1, .int (iI a)), (2, .int (iI b)), (3, .int (iI t))]) hx hb dX3_givesIn_92 hl (by decide) rfl (fun ls hl => ?_)
                refine lv_goto (tgt := 69) hx hb dX3_givesIn_94 (by decide) ?_
                refine lv_lload hx hb dX3_givesIn_69 (lv_at hl 2 rfl) ?_
                refine lv_lload hx hb dX3_givesIn_71 (lv_at hl 0 rfl) ?_
                refine r_lcmp hx hb dX3_givesIn_73 (by omega) (by omega) ?_
                refine r_if_lt (tgt := 97) hx hb dX3_givesIn_74 (by decide) (cmp_i32 _ _) (fun h25 => ?_) (fun h25 => ?_)
                · -- 74 to 97
                  replace h25 := cmp_lt h25
                  exact jn97_7 (((((((μ 3 ((3 * a) + t)) - (μ 11 0)) - (μ 11 0)) - (μ 11 0)) - (μ 11 0)) - (μ 11 0)) - (μ 11 0)) ls (by rw [nDbl_6 (by omega)]; omega) (lv_sub hl [1, 2, 3, 4, 5, 6, 7, 8] rfl)
                · -- 74 to 77
                  replace h25 := cmp_ge h25
                  refine lv_iload hx hb dX3_givesIn_77 (lv_at hl 1 rfl) ?_
                  refine lv_aload_n hx hb dX3_givesIn_79 rfl (lv_at hl 5 rfl) ?_
                  refine va_get (D := D) (ci := 3) (v := .int (iI (μ 11 0))) (C := RX3) (T := TX3) (N := 17) hx hb hts (fun _ h => List.mem_cons_of_mem _ (List.mem_append_right _ h)) hown hK hP 0 rfl rfl 11 (by decide) (hts _ fl_X3_givesIn_34) (fun _ h9 => h9) rfl dX3_givesIn_80 ?_
                  refine r_isub hx hb dX3_givesIn_83 ?_
                  refine lv_istore (lv' := [(4, .int (iI ((((((((μ 3 ((3 * a) + t)) - (μ 11 0)) - (μ 11 0)) - (μ 11 0)) - (μ 11 0)) - (μ 11 0)) - (μ 11 0)) - (μ 11 0)))), (11, .long (jI 1638400)), (9, .long (jI ((((μ 1 a) - (μ 5 b)) * ((μ 1 a) - (μ 5 b))) + (((μ 2 a) - (μ 6 b)) * ((μ 2 a) - (μ 6 b)))))), (7, .long (jI ((μ 2 a) - (μ 6 b)))), (5, .long (jI ((μ 1 a) - (μ 5 b)))), (0, .ref (M 100)), (1, .int (iI a)), (2, .int (iI b)), (3, .int (iI t))]) hx hb dX3_givesIn_84 hl (by decide) rfl (fun ls hl => ?_)
                  refine lv_ldc2 (v := jI 4) hx hb hown (by rw [show jI 4 = 4 from by decide +kernel]; exact hts (.constantLong RX3 77 (4)) (by decide +kernel)) dX3_givesIn_86 ?_
                  refine lv_lload hx hb dX3_givesIn_89 (lv_at hl 1 rfl) ?_
                  refine r_lmul hx hb dX3_givesIn_91 ?_
                  refine W.eq (g2 := F0 m 92 ls [.long (jI 6553600)]) rfl ?_
                  refine lv_lstore (lv' := [(11, .long (jI 6553600)), (4, .int (iI ((((((((μ 3 ((3 * a) + t)) - (μ 11 0)) - (μ 11 0)) - (μ 11 0)) - (μ 11 0)) - (μ 11 0)) - (μ 11 0)) - (μ 11 0)))), (9, .long (jI ((((μ 1 a) - (μ 5 b)) * ((μ 1 a) - (μ 5 b))) + (((μ 2 a) - (μ 6 b)) * ((μ 2 a) - (μ 6 b)))))), (7, .long (jI ((μ 2 a) - (μ 6 b)))), (5, .long (jI ((μ 1 a) - (μ 5 b)))), (0, .ref (M 100)), (1, .int (iI a)), (2, .int (iI b)), (3, .int (iI t))]) hx hb dX3_givesIn_92 hl (by decide) rfl (fun ls hl => ?_)
                  refine lv_goto (tgt := 69) hx hb dX3_givesIn_94 (by decide) ?_
                  refine lv_lload hx hb dX3_givesIn_69 (lv_at hl 2 rfl) ?_
                  refine lv_lload hx hb dX3_givesIn_71 (lv_at hl 0 rfl) ?_
                  refine r_lcmp hx hb dX3_givesIn_73 (by omega) (by omega) ?_
                  refine r_if_lt (tgt := 97) hx hb dX3_givesIn_74 (by decide) (cmp_i32 _ _) (fun h26 => ?_) (fun h26 => ?_)
                  · -- 74 to 97
                    replace h26 := cmp_lt h26
                    exact jn97_7 ((((((((μ 3 ((3 * a) + t)) - (μ 11 0)) - (μ 11 0)) - (μ 11 0)) - (μ 11 0)) - (μ 11 0)) - (μ 11 0)) - (μ 11 0)) ls (by rw [nDbl_7 (by omega)]; omega) (lv_sub hl [1, 2, 3, 4, 5, 6, 7, 8] rfl)
                  · -- 74 to 77
                    replace h26 := cmp_ge h26
                    refine lv_iload hx hb dX3_givesIn_77 (lv_at hl 1 rfl) ?_
                    refine lv_aload_n hx hb dX3_givesIn_79 rfl (lv_at hl 5 rfl) ?_
                    refine va_get (D := D) (ci := 3) (v := .int (iI (μ 11 0))) (C := RX3) (T := TX3) (N := 17) hx hb hts (fun _ h => List.mem_cons_of_mem _ (List.mem_append_right _ h)) hown hK hP 0 rfl rfl 11 (by decide) (hts _ fl_X3_givesIn_34) (fun _ h9 => h9) rfl dX3_givesIn_80 ?_
                    refine r_isub hx hb dX3_givesIn_83 ?_
                    refine lv_istore (lv' := [(4, .int (iI (((((((((μ 3 ((3 * a) + t)) - (μ 11 0)) - (μ 11 0)) - (μ 11 0)) - (μ 11 0)) - (μ 11 0)) - (μ 11 0)) - (μ 11 0)) - (μ 11 0)))), (11, .long (jI 6553600)), (9, .long (jI ((((μ 1 a) - (μ 5 b)) * ((μ 1 a) - (μ 5 b))) + (((μ 2 a) - (μ 6 b)) * ((μ 2 a) - (μ 6 b)))))), (7, .long (jI ((μ 2 a) - (μ 6 b)))), (5, .long (jI ((μ 1 a) - (μ 5 b)))), (0, .ref (M 100)), (1, .int (iI a)), (2, .int (iI b)), (3, .int (iI t))]) hx hb dX3_givesIn_84 hl (by decide) rfl (fun ls hl => ?_)
                    refine lv_ldc2 (v := jI 4) hx hb hown (by rw [show jI 4 = 4 from by decide +kernel]; exact hts (.constantLong RX3 77 (4)) (by decide +kernel)) dX3_givesIn_86 ?_
                    refine lv_lload hx hb dX3_givesIn_89 (lv_at hl 1 rfl) ?_
                    refine r_lmul hx hb dX3_givesIn_91 ?_
                    refine W.eq (g2 := F0 m 92 ls [.long (jI 26214400)]) rfl ?_
                    refine lv_lstore (lv' := [(11, .long (jI 26214400)), (4, .int (iI (((((((((μ 3 ((3 * a) + t)) - (μ 11 0)) - (μ 11 0)) - (μ 11 0)) - (μ 11 0)) - (μ 11 0)) - (μ 11 0)) - (μ 11 0)) - (μ 11 0)))), (9, .long (jI ((((μ 1 a) - (μ 5 b)) * ((μ 1 a) - (μ 5 b))) + (((μ 2 a) - (μ 6 b)) * ((μ 2 a) - (μ 6 b)))))), (7, .long (jI ((μ 2 a) - (μ 6 b)))), (5, .long (jI ((μ 1 a) - (μ 5 b)))), (0, .ref (M 100)), (1, .int (iI a)), (2, .int (iI b)), (3, .int (iI t))]) hx hb dX3_givesIn_92 hl (by decide) rfl (fun ls hl => ?_)
                    refine lv_goto (tgt := 69) hx hb dX3_givesIn_94 (by decide) ?_
                    refine lv_lload hx hb dX3_givesIn_69 (lv_at hl 2 rfl) ?_
                    refine lv_lload hx hb dX3_givesIn_71 (lv_at hl 0 rfl) ?_
                    refine r_lcmp hx hb dX3_givesIn_73 (by omega) (by omega) ?_
                    refine r_if_lt (tgt := 97) hx hb dX3_givesIn_74 (by decide) (cmp_i32 _ _) (fun h27 => ?_) (fun h27 => ?_)
                    · -- 74 to 97
                      replace h27 := cmp_lt h27
                      exact jn97_7 (((((((((μ 3 ((3 * a) + t)) - (μ 11 0)) - (μ 11 0)) - (μ 11 0)) - (μ 11 0)) - (μ 11 0)) - (μ 11 0)) - (μ 11 0)) - (μ 11 0)) ls (by rw [nDbl_8 (by omega)]; omega) (lv_sub hl [1, 2, 3, 4, 5, 6, 7, 8] rfl)
                    · -- 74 to 77
                      replace h27 := cmp_ge h27
                      refine lv_iload hx hb dX3_givesIn_77 (lv_at hl 1 rfl) ?_
                      refine lv_aload_n hx hb dX3_givesIn_79 rfl (lv_at hl 5 rfl) ?_
                      refine va_get (D := D) (ci := 3) (v := .int (iI (μ 11 0))) (C := RX3) (T := TX3) (N := 17) hx hb hts (fun _ h => List.mem_cons_of_mem _ (List.mem_append_right _ h)) hown hK hP 0 rfl rfl 11 (by decide) (hts _ fl_X3_givesIn_34) (fun _ h9 => h9) rfl dX3_givesIn_80 ?_
                      refine r_isub hx hb dX3_givesIn_83 ?_
                      refine lv_istore (lv' := [(4, .int (iI ((((((((((μ 3 ((3 * a) + t)) - (μ 11 0)) - (μ 11 0)) - (μ 11 0)) - (μ 11 0)) - (μ 11 0)) - (μ 11 0)) - (μ 11 0)) - (μ 11 0)) - (μ 11 0)))), (11, .long (jI 26214400)), (9, .long (jI ((((μ 1 a) - (μ 5 b)) * ((μ 1 a) - (μ 5 b))) + (((μ 2 a) - (μ 6 b)) * ((μ 2 a) - (μ 6 b)))))), (7, .long (jI ((μ 2 a) - (μ 6 b)))), (5, .long (jI ((μ 1 a) - (μ 5 b)))), (0, .ref (M 100)), (1, .int (iI a)), (2, .int (iI b)), (3, .int (iI t))]) hx hb dX3_givesIn_84 hl (by decide) rfl (fun ls hl => ?_)
                      refine lv_ldc2 (v := jI 4) hx hb hown (by rw [show jI 4 = 4 from by decide +kernel]; exact hts (.constantLong RX3 77 (4)) (by decide +kernel)) dX3_givesIn_86 ?_
                      refine lv_lload hx hb dX3_givesIn_89 (lv_at hl 1 rfl) ?_
                      refine r_lmul hx hb dX3_givesIn_91 ?_
                      refine W.eq (g2 := F0 m 92 ls [.long (jI 104857600)]) rfl ?_
                      refine lv_lstore (lv' := [(11, .long (jI 104857600)), (4, .int (iI ((((((((((μ 3 ((3 * a) + t)) - (μ 11 0)) - (μ 11 0)) - (μ 11 0)) - (μ 11 0)) - (μ 11 0)) - (μ 11 0)) - (μ 11 0)) - (μ 11 0)) - (μ 11 0)))), (9, .long (jI ((((μ 1 a) - (μ 5 b)) * ((μ 1 a) - (μ 5 b))) + (((μ 2 a) - (μ 6 b)) * ((μ 2 a) - (μ 6 b)))))), (7, .long (jI ((μ 2 a) - (μ 6 b)))), (5, .long (jI ((μ 1 a) - (μ 5 b)))), (0, .ref (M 100)), (1, .int (iI a)), (2, .int (iI b)), (3, .int (iI t))]) hx hb dX3_givesIn_92 hl (by decide) rfl (fun ls hl => ?_)
                      refine lv_goto (tgt := 69) hx hb dX3_givesIn_94 (by decide) ?_
                      refine lv_lload hx hb dX3_givesIn_69 (lv_at hl 2 rfl) ?_
                      refine lv_lload hx hb dX3_givesIn_71 (lv_at hl 0 rfl) ?_
                      refine r_lcmp hx hb dX3_givesIn_73 (by omega) (by omega) ?_
                      refine r_if_lt (tgt := 97) hx hb dX3_givesIn_74 (by decide) (cmp_i32 _ _) (fun h28 => ?_) (fun h28 => ?_)
                      · -- 74 to 97
                        replace h28 := cmp_lt h28
                        exact jn97_7 ((((((((((μ 3 ((3 * a) + t)) - (μ 11 0)) - (μ 11 0)) - (μ 11 0)) - (μ 11 0)) - (μ 11 0)) - (μ 11 0)) - (μ 11 0)) - (μ 11 0)) - (μ 11 0)) ls (by rw [nDbl_9 (by omega)]; omega) (lv_sub hl [1, 2, 3, 4, 5, 6, 7, 8] rfl)
                      · -- 74 to 77
                        replace h28 := cmp_ge h28
                        refine lv_iload hx hb dX3_givesIn_77 (lv_at hl 1 rfl) ?_
                        refine lv_aload_n hx hb dX3_givesIn_79 rfl (lv_at hl 5 rfl) ?_
                        refine va_get (D := D) (ci := 3) (v := .int (iI (μ 11 0))) (C := RX3) (T := TX3) (N := 17) hx hb hts (fun _ h => List.mem_cons_of_mem _ (List.mem_append_right _ h)) hown hK hP 0 rfl rfl 11 (by decide) (hts _ fl_X3_givesIn_34) (fun _ h9 => h9) rfl dX3_givesIn_80 ?_
                        refine r_isub hx hb dX3_givesIn_83 ?_
                        refine lv_istore (lv' := [(4, .int (iI (((((((((((μ 3 ((3 * a) + t)) - (μ 11 0)) - (μ 11 0)) - (μ 11 0)) - (μ 11 0)) - (μ 11 0)) - (μ 11 0)) - (μ 11 0)) - (μ 11 0)) - (μ 11 0)) - (μ 11 0)))), (11, .long (jI 104857600)), (9, .long (jI ((((μ 1 a) - (μ 5 b)) * ((μ 1 a) - (μ 5 b))) + (((μ 2 a) - (μ 6 b)) * ((μ 2 a) - (μ 6 b)))))), (7, .long (jI ((μ 2 a) - (μ 6 b)))), (5, .long (jI ((μ 1 a) - (μ 5 b)))), (0, .ref (M 100)), (1, .int (iI a)), (2, .int (iI b)), (3, .int (iI t))]) hx hb dX3_givesIn_84 hl (by decide) rfl (fun ls hl => ?_)
                        refine lv_ldc2 (v := jI 4) hx hb hown (by rw [show jI 4 = 4 from by decide +kernel]; exact hts (.constantLong RX3 77 (4)) (by decide +kernel)) dX3_givesIn_86 ?_
                        refine lv_lload hx hb dX3_givesIn_89 (lv_at hl 1 rfl) ?_
                        refine r_lmul hx hb dX3_givesIn_91 ?_
                        refine W.eq (g2 := F0 m 92 ls [.long (jI 419430400)]) rfl ?_
                        refine lv_lstore (lv' := [(11, .long (jI 419430400)), (4, .int (iI (((((((((((μ 3 ((3 * a) + t)) - (μ 11 0)) - (μ 11 0)) - (μ 11 0)) - (μ 11 0)) - (μ 11 0)) - (μ 11 0)) - (μ 11 0)) - (μ 11 0)) - (μ 11 0)) - (μ 11 0)))), (9, .long (jI ((((μ 1 a) - (μ 5 b)) * ((μ 1 a) - (μ 5 b))) + (((μ 2 a) - (μ 6 b)) * ((μ 2 a) - (μ 6 b)))))), (7, .long (jI ((μ 2 a) - (μ 6 b)))), (5, .long (jI ((μ 1 a) - (μ 5 b)))), (0, .ref (M 100)), (1, .int (iI a)), (2, .int (iI b)), (3, .int (iI t))]) hx hb dX3_givesIn_92 hl (by decide) rfl (fun ls hl => ?_)
                        refine lv_goto (tgt := 69) hx hb dX3_givesIn_94 (by decide) ?_
                        refine lv_lload hx hb dX3_givesIn_69 (lv_at hl 2 rfl) ?_
                        refine lv_lload hx hb dX3_givesIn_71 (lv_at hl 0 rfl) ?_
                        refine r_lcmp hx hb dX3_givesIn_73 (by omega) (by omega) ?_
                        refine r_if_lt (tgt := 97) hx hb dX3_givesIn_74 (by decide) (cmp_i32 _ _) (fun h29 => ?_) (fun h29 => absurd (cmp_ge h29) (by omega))
                        replace h29 := cmp_lt h29
                        exact jn97_7 (((((((((((μ 3 ((3 * a) + t)) - (μ 11 0)) - (μ 11 0)) - (μ 11 0)) - (μ 11 0)) - (μ 11 0)) - (μ 11 0)) - (μ 11 0)) - (μ 11 0)) - (μ 11 0)) - (μ 11 0)) ls (by rw [nDbl_10 (by omega)]; omega) (lv_sub hl [1, 2, 3, 4, 5, 6, 7, 8] rfl)
  · -- 14 to 17
    refine lv_iconst (v := iI 0) hx hb dX3_givesIn_17 rfl ?_
    exact r_ret hx hb hr hlocks dX3_givesIn_18 (by unfold mGives; rw [if_pos (by omega)])
