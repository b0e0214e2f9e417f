/-! THE REFERENCE: noise -/
set_option maxHeartbeats 4000000 in
set_option maxRecDepth 100000 in
theorem c_X3_join (l : Launch) (a b : Int) (ha : 0 ≤ a ∧ a ≤ 100000) (hb2 : 0 ≤ b ∧ b ≤ 100000) : MetS l yX3_join wsX3_join ({ frames := 0, cells := 0, slots := 0, locals := 0 } : Room) ([.int (iI a), .int (iI b)] : List Value) (mxZ a b + nMore (abZ (a - b))) := by
  refine met_T (cc := cX3_join) (maxL := 4) (ret := (some .int)) (by decide) rfl (Nat.le_of_ble_eq_true rfl) ?_
  intro p e s m below meth c hx hb hr hml hts hown hlocks ls hl
  have hown : s.vm.findClass RX3 = some m.cls := hown
  have hl : lv_has ls 4 [(0, .int (iI a)), (1, .int (iI b))] := hl
  have h1 := mxZ_s a b
  have h2 := abZ_s (a - b)
  refine lv_iload_n hx hb dX3_join_0 rfl (lv_at hl 0 rfl) ?_
  refine lv_iload_n hx hb dX3_join_1 rfl (lv_at hl 1 rfl) ?_
  refine r_icmp_le (tgt := 9) hx hb dX3_join_2 (by decide) (by omega) (by omega) (fun h1 => ?_) (fun h1 => ?_)
  · -- 2 to 9
    refine lv_iload_n hx hb dX3_join_9 rfl (lv_at hl 1 rfl) ?_
    refine lv_istore_n (lv' := [(2, .int (iI b)), (0, .int (iI a)), (1, .int (iI b))]) hx hb dX3_join_10 rfl hl (by decide) rfl (fun ls hl => ?_)
    refine lv_iload_n hx hb dX3_join_11 rfl (lv_at hl 1 rfl) ?_
    refine lv_iload_n hx hb dX3_join_12 rfl (lv_at hl 2 rfl) ?_
    refine r_icmp_le (tgt := 22) hx hb dX3_join_13 (by decide) (by omega) (by omega) (fun h2 => ?_) (fun h2 => ?_)
    · -- 13 to 22
      refine lv_iload_n hx hb dX3_join_22 rfl (lv_at hl 2 rfl) ?_
      refine lv_iload_n hx hb dX3_join_23 rfl (lv_at hl 1 rfl) ?_
      refine r_isub hx hb dX3_join_24 ?_
      refine lv_istore_n (lv' := [(3, .int (iI (b - a))), (2, .int (iI b)), (0, .int (iI a)), (1, .int (iI b))]) hx hb dX3_join_25 rfl hl (by decide) rfl (fun ls hl => ?_)
      refine lv_iload_n hx hb dX3_join_26 rfl (lv_at hl 1 rfl) ?_
      refine lv_iload_n hx hb dX3_join_27 rfl (lv_at hl 0 rfl) ?_
      refine lv_bipush (v := iI 15) hx hb dX3_join_28 (by decide +kernel) ?_
      refine r_icmp_ge (tgt := 38) hx hb dX3_join_30 (by decide) (by omega) (by omega) (fun h3 => ?_) (fun h3 => ?_)
      · -- 30 to 38
        refine lv_iload_n hx hb dX3_join_38 rfl (lv_at hl 0 rfl) ?_
        refine lv_bipush (v := iI 35) hx hb dX3_join_39 (by decide +kernel) ?_
        refine r_icmp_ge (tgt := 49) hx hb dX3_join_41 (by decide) (by omega) (by omega) (fun h4 => ?_) (fun h4 => ?_)
        · -- 41 to 49
          refine lv_iload_n hx hb dX3_join_49 rfl (lv_at hl 0 rfl) ?_
          refine lv_bipush (v := iI 95) hx hb dX3_join_50 (by decide +kernel) ?_
          refine r_icmp_ge (tgt := 60) hx hb dX3_join_52 (by decide) (by omega) (by omega) (fun h5 => ?_) (fun h5 => ?_)
          · -- 52 to 60
            refine lv_iconst (v := iI 0) hx hb dX3_join_60 rfl ?_
            refine r_iadd hx hb dX3_join_61 ?_
            exact r_ret hx hb hr hlocks dX3_join_62 (by unfold nMore; repeat (first | omega | split))
          · -- 52 to 55
            refine lv_bipush (v := iI 10) hx hb dX3_join_55 (by decide +kernel) ?_
            refine lv_goto (tgt := 61) hx hb dX3_join_57 (by decide) ?_
            refine r_iadd hx hb dX3_join_61 ?_
            exact r_ret hx hb hr hlocks dX3_join_62 (by unfold nMore; repeat (first | omega | split))
        · -- 41 to 44
          refine lv_bipush (v := iI 20) hx hb dX3_join_44 (by decide +kernel) ?_
          refine lv_goto (tgt := 61) hx hb dX3_join_46 (by decide) ?_
          refine r_iadd hx hb dX3_join_61 ?_
          exact r_ret hx hb hr hlocks dX3_join_62 (by unfold nMore; repeat (first | omega | split))
      · -- 30 to 33
        refine lv_bipush (v := iI 30) hx hb dX3_join_33 (by decide +kernel) ?_
        refine lv_goto (tgt := 61) hx hb dX3_join_35 (by decide) ?_
        refine r_iadd hx hb dX3_join_61 ?_
        exact r_ret hx hb hr hlocks dX3_join_62 (by unfold nMore; repeat (first | omega | split))
    · -- 13 to 16
      refine lv_iload_n hx hb dX3_join_16 rfl (lv_at hl 1 rfl) ?_
      refine lv_iload_n hx hb dX3_join_17 rfl (lv_at hl 2 rfl) ?_
      refine r_isub hx hb dX3_join_18 ?_
      refine lv_goto (tgt := 25) hx hb dX3_join_19 (by decide) ?_
      refine lv_istore_n (lv' := [(3, .int (iI (a - b))), (2, .int (iI b)), (0, .int (iI a)), (1, .int (iI b))]) hx hb dX3_join_25 rfl hl (by decide) rfl (fun ls hl => ?_)
      refine lv_iload_n hx hb dX3_join_26 rfl (lv_at hl 1 rfl) ?_
      refine lv_iload_n hx hb dX3_join_27 rfl (lv_at hl 0 rfl) ?_
      refine lv_bipush (v := iI 15) hx hb dX3_join_28 (by decide +kernel) ?_
      refine r_icmp_ge (tgt := 38) hx hb dX3_join_30 (by decide) (by omega) (by omega) (fun h6 => ?_) (fun h6 => ?_)
      · -- 30 to 38
        refine lv_iload_n hx hb dX3_join_38 rfl (lv_at hl 0 rfl) ?_
        refine lv_bipush (v := iI 35) hx hb dX3_join_39 (by decide +kernel) ?_
        refine r_icmp_ge (tgt := 49) hx hb dX3_join_41 (by decide) (by omega) (by omega) (fun h7 => ?_) (fun h7 => ?_)
        · -- 41 to 49
          refine lv_iload_n hx hb dX3_join_49 rfl (lv_at hl 0 rfl) ?_
          refine lv_bipush (v := iI 95) hx hb dX3_join_50 (by decide +kernel) ?_
          refine r_icmp_ge (tgt := 60) hx hb dX3_join_52 (by decide) (by omega) (by omega) (fun h8 => ?_) (fun h8 => ?_)
          · -- 52 to 60
            refine lv_iconst (v := iI 0) hx hb dX3_join_60 rfl ?_
            refine r_iadd hx hb dX3_join_61 ?_
            exact r_ret hx hb hr hlocks dX3_join_62 (by unfold nMore; repeat (first | omega | split))
          · -- 52 to 55
            refine lv_bipush (v := iI 10) hx hb dX3_join_55 (by decide +kernel) ?_
            refine lv_goto (tgt := 61) hx hb dX3_join_57 (by decide) ?_
            refine r_iadd hx hb dX3_join_61 ?_
            exact r_ret hx hb hr hlocks dX3_join_62 (by unfold nMore; repeat (first | omega | split))
        · -- 41 to 44
          refine lv_bipush (v := iI 20) hx hb dX3_join_44 (by decide +kernel) ?_
          refine lv_goto (tgt := 61) hx hb dX3_join_46 (by decide) ?_
          refine r_iadd hx hb dX3_join_61 ?_
          exact r_ret hx hb hr hlocks dX3_join_62 (by unfold nMore; repeat (first | omega | split))
      · -- 30 to 33
        refine lv_bipush (v := iI 30) hx hb dX3_join_33 (by decide +kernel) ?_
        refine lv_goto (tgt := 61) hx hb dX3_join_35 (by decide) ?_
        refine r_iadd hx hb dX3_join_61 ?_
        exact r_ret hx hb hr hlocks dX3_join_62 (by unfold nMore; repeat (first | omega | split))
  · -- 2 to 5
    refine lv_iload_n hx hb dX3_join_5 rfl (lv_at hl 0 rfl) ?_
    refine lv_goto (tgt := 10) hx hb dX3_join_6 (by decide) ?_
    refine lv_istore_n (lv' := [(2, .int (iI a)), (0, .int (iI a)), (1, .int (iI b))]) hx hb dX3_join_10 rfl hl (by decide) rfl (fun ls hl => ?_)
    refine lv_iload_n hx hb dX3_join_11 rfl (lv_at hl 1 rfl) ?_
    refine lv_iload_n hx hb dX3_join_12 rfl (lv_at hl 2 rfl) ?_
    refine r_icmp_le (tgt := 22) hx hb dX3_join_13 (by decide) (by omega) (by omega) (fun h9 => ?_) (fun h9 => ?_)
    · -- 13 to 22
      refine lv_iload_n hx hb dX3_join_22 rfl (lv_at hl 2 rfl) ?_
      refine lv_iload_n hx hb dX3_join_23 rfl (lv_at hl 1 rfl) ?_
      refine r_isub hx hb dX3_join_24 ?_
      refine lv_istore_n (lv' := [(3, .int (iI (b - a))), (2, .int (iI a)), (0, .int (iI a)), (1, .int (iI b))]) hx hb dX3_join_25 rfl hl (by decide) rfl (fun ls hl => ?_)
      refine lv_iload_n hx hb dX3_join_26 rfl (lv_at hl 1 rfl) ?_
      refine lv_iload_n hx hb dX3_join_27 rfl (lv_at hl 0 rfl) ?_
      refine lv_bipush (v := iI 15) hx hb dX3_join_28 (by decide +kernel) ?_
      refine r_icmp_ge (tgt := 38) hx hb dX3_join_30 (by decide) (by omega) (by omega) (fun h10 => ?_) (fun h10 => ?_)
      · -- 30 to 38
        refine lv_iload_n hx hb dX3_join_38 rfl (lv_at hl 0 rfl) ?_
        refine lv_bipush (v := iI 35) hx hb dX3_join_39 (by decide +kernel) ?_
        refine r_icmp_ge (tgt := 49) hx hb dX3_join_41 (by decide) (by omega) (by omega) (fun h11 => ?_) (fun h11 => ?_)
        · -- 41 to 49
          refine lv_iload_n hx hb dX3_join_49 rfl (lv_at hl 0 rfl) ?_
          refine lv_bipush (v := iI 95) hx hb dX3_join_50 (by decide +kernel) ?_
          refine r_icmp_ge (tgt := 60) hx hb dX3_join_52 (by decide) (by omega) (by omega) (fun h12 => ?_) (fun h12 => ?_)
          · -- 52 to 60
            refine lv_iconst (v := iI 0) hx hb dX3_join_60 rfl ?_
            refine r_iadd hx hb dX3_join_61 ?_
            exact r_ret hx hb hr hlocks dX3_join_62 (by unfold nMore; repeat (first | omega | split))
          · -- 52 to 55
            refine lv_bipush (v := iI 10) hx hb dX3_join_55 (by decide +kernel) ?_
            refine lv_goto (tgt := 61) hx hb dX3_join_57 (by decide) ?_
            refine r_iadd hx hb dX3_join_61 ?_
            exact r_ret hx hb hr hlocks dX3_join_62 (by unfold nMore; repeat (first | omega | split))
        · -- 41 to 44
          refine lv_bipush (v := iI 20) hx hb dX3_join_44 (by decide +kernel) ?_
          refine lv_goto (tgt := 61) hx hb dX3_join_46 (by decide) ?_
          refine r_iadd hx hb dX3_join_61 ?_
          exact r_ret hx hb hr hlocks dX3_join_62 (by unfold nMore; repeat (first | omega | split))
      · -- 30 to 33
        refine lv_bipush (v := iI 30) hx hb dX3_join_33 (by decide +kernel) ?_
        refine lv_goto (tgt := 61) hx hb dX3_join_35 (by decide) ?_
        refine r_iadd hx hb dX3_join_61 ?_
        exact r_ret hx hb hr hlocks dX3_join_62 (by unfold nMore; repeat (first | omega | split))
    · -- 13 to 16
      refine lv_iload_n hx hb dX3_join_16 rfl (lv_at hl 1 rfl) ?_
      refine lv_iload_n hx hb dX3_join_17 rfl (lv_at hl 2 rfl) ?_
      refine r_isub hx hb dX3_join_18 ?_
      refine lv_goto (tgt := 25) hx hb dX3_join_19 (by decide) ?_
      refine lv_istore_n (lv' := [(3, .int (iI (a - b))), (2, .int (iI a)), (0, .int (iI a)), (1, .int (iI b))]) hx hb dX3_join_25 rfl hl (by decide) rfl (fun ls hl => ?_)
      refine lv_iload_n hx hb dX3_join_26 rfl (lv_at hl 1 rfl) ?_
      refine lv_iload_n hx hb dX3_join_27 rfl (lv_at hl 0 rfl) ?_
      refine lv_bipush (v := iI 15) hx hb dX3_join_28 (by decide +kernel) ?_
      refine r_icmp_ge (tgt := 38) hx hb dX3_join_30 (by decide) (by omega) (by omega) (fun h13 => ?_) (fun h13 => ?_)
      · -- 30 to 38
        refine lv_iload_n hx hb dX3_join_38 rfl (lv_at hl 0 rfl) ?_
        refine lv_bipush (v := iI 35) hx hb dX3_join_39 (by decide +kernel) ?_
        refine r_icmp_ge (tgt := 49) hx hb dX3_join_41 (by decide) (by omega) (by omega) (fun h14 => ?_) (fun h14 => ?_)
        · -- 41 to 49
          refine lv_iload_n hx hb dX3_join_49 rfl (lv_at hl 0 rfl) ?_
          refine lv_bipush (v := iI 95) hx hb dX3_join_50 (by decide +kernel) ?_
          refine r_icmp_ge (tgt := 60) hx hb dX3_join_52 (by decide) (by omega) (by omega) (fun h15 => ?_) (fun h15 => ?_)
          · -- 52 to 60
            refine lv_iconst (v := iI 0) hx hb dX3_join_60 rfl ?_
            refine r_iadd hx hb dX3_join_61 ?_
            exact r_ret hx hb hr hlocks dX3_join_62 (by unfold nMore; repeat (first | omega | split))
          · -- 52 to 55
            refine lv_bipush (v := iI 10) hx hb dX3_join_55 (by decide +kernel) ?_
            refine lv_goto (tgt := 61) hx hb dX3_join_57 (by decide) ?_
            refine r_iadd hx hb dX3_join_61 ?_
            exact r_ret hx hb hr hlocks dX3_join_62 (by unfold nMore; repeat (first | omega | split))
        · -- 41 to 44
          refine lv_bipush (v := iI 20) hx hb dX3_join_44 (by decide +kernel) ?_
          refine lv_goto (tgt := 61) hx hb dX3_join_46 (by decide) ?_
          refine r_iadd hx hb dX3_join_61 ?_
          exact r_ret hx hb hr hlocks dX3_join_62 (by unfold nMore; repeat (first | omega | split))
      · -- 30 to 33
        refine lv_bipush (v := iI 30) hx hb dX3_join_33 (by decide +kernel) ?_
        refine lv_goto (tgt := 61) hx hb dX3_join_35 (by decide) ?_
        refine r_iadd hx hb dX3_join_61 ?_
        exact r_ret hx hb hr hlocks dX3_join_62 (by unfold nMore; repeat (first | omega | split))
theorem fl_X3_levelIn_58 : Cond.fieldLink RX3 58 "NoiseLampsModel" "pieces" "I" ∈ wsX3_levelIn := by decide +kernel
set_option maxHeartbeats 4000000 in
set_option maxRecDepth 100000 in
theorem c_X3_levelIn (l : Launch) (D : va_G) (cy : ClassId) (M : Nat → Nat) (μ : Nat → Int → Int) (b t : Int) (hI : invM μ) (hb2 : 0 ≤ b ∧ b < 20) (ht : 0 ≤ t ∧ t < 3) : MetR l yX3_levelIn wsX3_levelIn ({ frames := 3, cells := 0, slots := 0, locals := 101 } : Room) D cy (wM cy M μ) ([.ref (M 100), .int (iI b), .int (iI t)] : List Value) (mPart μ b t) := by
  refine met_R (cc := cX3_levelIn) (maxL := 6) (ret := (some .int)) (by decide) rfl (Nat.le_of_ble_eq_true rfl) ?_
  intro p e s m below meth c hx hb hr hml hts hown hlocks hP hK ls hl
  have hown : s.vm.findClass RX3 = some m.cls := hown
  have hl : lv_has ls 6 [(0, .ref (M 100)), (1, .int (iI b)), (2, .int (iI t))] := hl
  obtain ⟨hM0, hM4, hM8, hM11, hM14, hB1, hB2, hB3, hB5, hB6, hB7, hB9, hB10, hB12, hB13, hB15, hB16⟩ := id hI
  refine lv_iconst (v := iI 0) hx hb dX3_levelIn_0 rfl ?_
  refine lv_istore_n (lv' := [(3, .int (iI 0)), (0, .ref (M 100)), (1, .int (iI b)), (2, .int (iI t))]) hx hb dX3_levelIn_1 rfl hl (by decide) rfl (fun ls hl => ?_)
  refine lv_iconst (v := iI 0) hx hb dX3_levelIn_2 rfl ?_
  refine lv_istore (lv' := [(4, .int (iI 0)), (3, .int (iI 0)), (0, .ref (M 100)), (1, .int (iI b)), (2, .int (iI t))]) hx hb dX3_levelIn_3 hl (by decide) rfl (fun ls hl => ?_)
  have lp5_1 : ∀ (nlp5_1 : Nat) (i : Int) (g : Int) (ls : Array Slot), (0 ≤ i ∧ i ≤ μ 0 0) → (g = fo (fun j p => nJoin j (mGives μ p b t)) 0 i) → (0 ≤ g ∧ g ≤ 1200 + 30 * i) → (μ 0 0 - i < (nlp5_1 : Int)) → lv_has ls 6 [(4, .int (iI i)), (3, .int (iI g)), (0, .ref (M 100)), (1, .int (iI b)), (2, .int (iI t))] → W p l e ({ frames := 3, cells := 0, slots := 0, locals := 101 } : Room) s m ([.ref (M 100), .int (iI b), .int (iI t)] : List Value).toArray below meth c s.heap [] 0 0 (MQ below (vp_Si (fun r => r = iI (mPart μ b t))) ([.ref (M 100), .int (iI b), .int (iI t)] : List Value).toArray s 0 0 (fun _ => False)) (F0 m 5 ls []) := by
    intro nlp5_1
    induction nlp5_1 with
    | zero => intro i g ls hi hg hgb hn hl; exact absurd hn (by omega)
    | succ nlp5_1 ihlp5_1 =>
      intro i g ls hi hg hgb hn hl
      refine lv_iload hx hb dX3_levelIn_5 (lv_at hl 0 rfl) ?_
      refine lv_aload_n hx hb dX3_levelIn_7 rfl (lv_at hl 2 rfl) ?_
      refine va_get (D := D) (ci := 3) (v := .int (iI (μ 0 0))) (C := RX3) (T := TX3) (N := 17) hx hb hts (fun _ h => List.mem_cons_of_mem _ (List.mem_append_right _ h)) hown hK hP 0 rfl rfl 0 (by decide) (hts _ fl_X3_levelIn_58) (fun _ h9 => h9) rfl dX3_levelIn_8 ?_
      refine r_icmp_ge (tgt := 55) hx hb dX3_levelIn_11 (by decide) (by omega) (by omega) (fun h2 => ?_) (fun h2 => ?_)
      · -- 11 to 55
        refine lv_iload_n hx hb dX3_levelIn_55 rfl (lv_at hl 1 rfl) ?_
        exact r_ret hx hb hr hlocks dX3_levelIn_56 (by rw [hg, show i = μ 0 0 from by omega]; rfl)
      · -- 11 to 14
        refine lv_aload_n hx hb dX3_levelIn_14 rfl (lv_at hl 2 rfl) ?_
        refine lv_iload hx hb dX3_levelIn_15 (lv_at hl 0 rfl) ?_
        refine lv_iload_n hx hb dX3_levelIn_17 rfl (lv_at hl 3 rfl) ?_
        refine lv_iload_n hx hb dX3_levelIn_18 rfl (lv_at hl 4 rfl) ?_
        refine r_calli (va_runV (As := [.int (iI i), .int (iI b), .int (iI t)]) (rest := []) ⟨hx, hb, hml, hown, hts⟩ (c_X3_givesIn l D cy M μ i b t hI (by omega) (by omega) (by omega)) (cwV 3 hts gX3_levelIn_X3_givesIn rfl rfl rfl (by decide +kernel) ⟨Nat.le_of_ble_eq_true rfl, Nat.le_of_ble_eq_true rfl⟩) (pv_ro (C := RX3) (T := TX3) (N := 17) (ci := 3) (q0 := 0) hP hK rfl rfl) rfl rfl hl.1 rfl (lv_room (Nat.le_of_ble_eq_true rfl)) dX3_levelIn_19 ⟨Nat.le_of_ble_eq_true rfl, Nat.le_of_ble_eq_true rfl⟩) ?_
        have hf3 := mGives_bd hI i b t
        refine lv_istore (lv' := [(5, .int (iI (mGives μ i b t))), (4, .int (iI i)), (3, .int (iI g)), (0, .ref (M 100)), (1, .int (iI b)), (2, .int (iI t))]) hx hb dX3_levelIn_22 hl (by decide) rfl (fun ls hl => ?_)
        refine lv_iload hx hb dX3_levelIn_24 (lv_at hl 0 rfl) ?_
        refine r_if_ne (tgt := 33) hx hb dX3_levelIn_26 (by decide) (by omega) (fun h4 => ?_) (fun h4 => ?_)
        · -- 26 to 33
          refine lv_iload_n hx hb dX3_levelIn_33 rfl (lv_at hl 2 rfl) ?_
          refine r_if_ne (tgt := 42) hx hb dX3_levelIn_34 (by decide) (by omega) (fun h5 => ?_) (fun h5 => ?_)
          · -- 34 to 42
            refine lv_iload_n hx hb dX3_levelIn_42 rfl (lv_at hl 2 rfl) ?_
            refine lv_iload hx hb dX3_levelIn_43 (lv_at hl 0 rfl) ?_
            refine r_calli (va_runS (As := [.int (iI g), .int (iI (mGives μ i b t))]) (rest := []) ⟨hx, hb, hml, hown, hts⟩ (c_X3_join l  g (mGives μ i b t) (by omega) (by omega)) (va_cwS 2 hts gX3_levelIn_X3_join rfl rfl rfl (by decide +kernel) ⟨Nat.le_of_ble_eq_true rfl, Nat.le_of_ble_eq_true rfl⟩) ps_T rfl rfl hl.1 rfl (lv_room (Nat.le_of_ble_eq_true rfl)) dX3_levelIn_45 ⟨Nat.le_of_ble_eq_true rfl, Nat.le_of_ble_eq_true rfl⟩) ?_
            refine lv_istore_n (lv' := [(3, .int (iI (mxZ g (mGives μ i b t) + nMore (abZ (g - (mGives μ i b t)))))), (5, .int (iI (mGives μ i b t))), (4, .int (iI i)), (0, .ref (M 100)), (1, .int (iI b)), (2, .int (iI t))]) hx hb dX3_levelIn_48 rfl hl (by decide) rfl (fun ls hl => ?_)
            refine r_iinc (a := i) (b := (i + 1)) (lv2 := [(4, .int (iI (i + 1))), (3, .int (iI (mxZ g (mGives μ i b t) + nMore (abZ (g - (mGives μ i b t)))))), (5, .int (iI (mGives μ i b t))), (0, .ref (M 100)), (1, .int (iI b)), (2, .int (iI t))]) hx hb dX3_levelIn_49 hl (k := 2) rfl (by omega) (by decide) rfl (fun ls hl => ?_)
            refine lv_goto (tgt := 5) hx hb dX3_levelIn_52 (by decide) ?_
            exact ihlp5_1 (i + 1) (mxZ g (mGives μ i b t) + nMore (abZ (g - (mGives μ i b t)))) ls (by omega) (by rw [fo_s _ _ (by omega), ← hg]; unfold nJoin; first | (rw [if_pos (by omega)]; omega) | rw [if_neg (by omega)]) (by have q1 := mGives_bd hI i b t; have q2 := nJoin_bd (a := g) (b := mGives μ i b t) (X := 1200 + 30 * i) (by omega) (by omega); unfold nJoin at q2; first | omega | (rw [if_neg (by omega)] at q2; omega)) (by omega) (lv_sub hl [0, 1, 3, 4, 5] rfl)
          · -- 34 to 37
            refine lv_iload hx hb dX3_levelIn_37 (lv_at hl 0 rfl) ?_
            refine lv_goto (tgt := 48) hx hb dX3_levelIn_39 (by decide) ?_
            refine lv_istore_n (lv' := [(3, .int (iI (mGives μ i b t))), (5, .int (iI (mGives μ i b t))), (4, .int (iI i)), (0, .ref (M 100)), (1, .int (iI b)), (2, .int (iI t))]) hx hb dX3_levelIn_48 rfl hl (by decide) rfl (fun ls hl => ?_)
            refine r_iinc (a := i) (b := (i + 1)) (lv2 := [(4, .int (iI (i + 1))), (3, .int (iI (mGives μ i b t))), (5, .int (iI (mGives μ i b t))), (0, .ref (M 100)), (1, .int (iI b)), (2, .int (iI t))]) hx hb dX3_levelIn_49 hl (k := 2) rfl (by omega) (by decide) rfl (fun ls hl => ?_)
            refine lv_goto (tgt := 5) hx hb dX3_levelIn_52 (by decide) ?_
            exact ihlp5_1 (i + 1) (mGives μ i b t) ls (by omega) (by rw [fo_s _ _ (by omega), ← hg]; unfold nJoin; first | (rw [if_pos (by omega)]; omega) | rw [if_neg (by omega)]) (by have q1 := mGives_bd hI i b t; have q2 := nJoin_bd (a := g) (b := mGives μ i b t) (X := 1200 + 30 * i) (by omega) (by omega); unfold nJoin at q2; first | omega | (rw [if_neg (by omega)] at q2; omega)) (by omega) (lv_sub hl [0, 1, 3, 4, 5] rfl)
        · -- 26 to 29
          refine lv_iload_n hx hb dX3_levelIn_29 rfl (lv_at hl 2 rfl) ?_
          refine lv_goto (tgt := 48) hx hb dX3_levelIn_30 (by decide) ?_
          refine lv_istore_n (lv' := [(3, .int (iI g)), (5, .int (iI (mGives μ i b t))), (4, .int (iI i)), (0, .ref (M 100)), (1, .int (iI b)), (2, .int (iI t))]) hx hb dX3_levelIn_48 rfl hl (by decide) rfl (fun ls hl => ?_)
          refine r_iinc (a := i) (b := (i + 1)) (lv2 := [(4, .int (iI (i + 1))), (3, .int (iI g)), (5, .int (iI (mGives μ i b t))), (0, .ref (M 100)), (1, .int (iI b)), (2, .int (iI t))]) hx hb dX3_levelIn_49 hl (k := 2) rfl (by omega) (by decide) rfl (fun ls hl => ?_)
          refine lv_goto (tgt := 5) hx hb dX3_levelIn_52 (by decide) ?_
          exact ihlp5_1 (i + 1) g ls (by omega) (by rw [fo_s _ _ (by omega), ← hg]; unfold nJoin; first | (rw [if_pos (by omega)]; omega) | rw [if_neg (by omega)]) (by have q1 := mGives_bd hI i b t; have q2 := nJoin_bd (a := g) (b := mGives μ i b t) (X := 1200 + 30 * i) (by omega) (by omega); unfold nJoin at q2; first | omega | (rw [if_neg (by omega)] at q2; omega)) (by omega) (lv_sub hl [0, 1, 3, 4, 5] rfl)
  exact lp5_1 _ 0 0 ls (by omega) rfl (by omega) (lt_tn _) (lv_sub hl [0, 1, 2, 3, 4] rfl)
theorem fl_X3_allDay_38 : Cond.fieldLink RX3 38 "NoiseLampsModel" "malus" "[I" ∈ wsX3_allDay := by decide +kernel
set_option maxHeartbeats 4000000 in
set_option maxRecDepth 100000 in
theorem c_X3_allDay (l : Launch) (D : va_G) (cy : ClassId) (M : Nat → Nat) (μ : Nat → Int → Int) (b : Int) (hI : invM μ) (hb2 : 0 ≤ b ∧ b < 20) : MetR l yX3_allDay wsX3_allDay ({ frames := 4, cells := 0, slots := 0, locals := 126 } : Room) D cy (wM cy M μ) ([.ref (M 100), .int (iI b)] : List Value) (mDay μ b) := by
  refine met_R (cc := cX3_allDay) (maxL := 5) (ret := (some .int)) (by decide) rfl (Nat.le_of_ble_eq_true rfl) ?_
  intro p e s m below meth c hx hb hr hml hts hown hlocks hP hK ls hl
  have hown : s.vm.findClass RX3 = some m.cls := hown
  have hl : lv_has ls 5 [(0, .ref (M 100)), (1, .int (iI b))] := hl
  obtain ⟨hM0, hM4, hM8, hM11, hM14, hB1, hB2, hB3, hB5, hB6, hB7, hB9, hB10, hB12, hB13, hB15, hB16⟩ := id hI
  refine lv_iconst (v := iI 0) hx hb dX3_allDay_0 rfl ?_
  refine lv_istore_n (lv' := [(2, .int (iI 0)), (0, .ref (M 100)), (1, .int (iI b))]) hx hb dX3_allDay_1 rfl hl (by decide) rfl (fun ls hl => ?_)
  refine lv_iconst (v := iI 0) hx hb dX3_allDay_2 rfl ?_
  refine lv_istore_n (lv' := [(3, .int (iI 0)), (2, .int (iI 0)), (0, .ref (M 100)), (1, .int (iI b))]) hx hb dX3_allDay_3 rfl hl (by decide) rfl (fun ls hl => ?_)
  have lp4_1 : ∀ (nlp4_1 : Nat) (i : Int) (g : Int) (ls : Array Slot), (0 ≤ i ∧ i ≤ 3) → (g = fo (mDayF μ b) 0 i) → (0 ≤ g ∧ g ≤ 1760) → (3 - i < (nlp4_1 : Int)) → lv_has ls 5 [(3, .int (iI i)), (2, .int (iI g)), (0, .ref (M 100)), (1, .int (iI b))] → W p l e ({ frames := 4, cells := 0, slots := 0, locals := 126 } : Room) s m ([.ref (M 100), .int (iI b)] : List Value).toArray below meth c s.heap [] 0 0 (MQ below (vp_Si (fun r => r = iI (mDay μ b))) ([.ref (M 100), .int (iI b)] : List Value).toArray s 0 0 (fun _ => False)) (F0 m 4 ls []) := by
    intro nlp4_1
    induction nlp4_1 with
    | zero => intro i g ls hi hg hgb hn hl; exact absurd hn (by omega)
    | succ nlp4_1 ihlp4_1 =>
      intro i g ls hi hg hgb hn hl
      refine lv_iload_n hx hb dX3_allDay_4 rfl (lv_at hl 0 rfl) ?_
      refine lv_iconst (v := iI 3) hx hb dX3_allDay_5 rfl ?_
      refine r_icmp_ge (tgt := 55) hx hb dX3_allDay_6 (by decide) (by omega) (by omega) (fun h2 => ?_) (fun h2 => ?_)
      · -- 6 to 55
        refine lv_iload_n hx hb dX3_allDay_55 rfl (lv_at hl 1 rfl) ?_
        exact r_ret hx hb hr hlocks dX3_allDay_56 (by rw [hg, show i = 3 from by omega]; rfl)
      · -- 6 to 9
        refine lv_aload_n hx hb dX3_allDay_9 rfl (lv_at hl 2 rfl) ?_
        refine lv_iload_n hx hb dX3_allDay_10 rfl (lv_at hl 3 rfl) ?_
        refine lv_iload_n hx hb dX3_allDay_11 rfl (lv_at hl 0 rfl) ?_
        refine r_calli (va_runV (As := [.int (iI b), .int (iI i)]) (rest := []) ⟨hx, hb, hml, hown, hts⟩ (c_X3_levelIn l D cy M μ b i hI (by omega) (by omega)) (cwV 2 hts gX3_allDay_X3_levelIn rfl rfl rfl (by decide +kernel) ⟨Nat.le_of_ble_eq_true rfl, Nat.le_of_ble_eq_true rfl⟩) (pv_ro (C := RX3) (T := TX3) (N := 17) (ci := 3) (q0 := 0) hP hK rfl rfl) rfl rfl hl.1 rfl (lv_room (Nat.le_of_ble_eq_true rfl)) dX3_allDay_12 ⟨Nat.le_of_ble_eq_true rfl, Nat.le_of_ble_eq_true rfl⟩) ?_
        have hf3 := mPart_bd hI b i
        refine lv_istore (lv' := [(4, .int (iI (mPart μ b i))), (3, .int (iI i)), (2, .int (iI g)), (0, .ref (M 100)), (1, .int (iI b))]) hx hb dX3_allDay_15 hl (by decide) rfl (fun ls hl => ?_)
        refine lv_iload hx hb dX3_allDay_17 (lv_at hl 0 rfl) ?_
        refine r_if_le (tgt := 47) hx hb dX3_allDay_19 (by decide) (by omega) (fun h4 => ?_) (fun h4 => ?_)
        · -- 19 to 47
          refine lv_iload_n hx hb dX3_allDay_47 rfl (lv_at hl 2 rfl) ?_
          refine lv_istore_n (lv' := [(2, .int (iI g)), (4, .int (iI (mPart μ b i))), (3, .int (iI i)), (0, .ref (M 100)), (1, .int (iI b))]) hx hb dX3_allDay_48 rfl hl (by decide) rfl (fun ls hl => ?_)
          refine r_iinc (a := i) (b := (i + 1)) (lv2 := [(3, .int (iI (i + 1))), (2, .int (iI g)), (4, .int (iI (mPart μ b i))), (0, .ref (M 100)), (1, .int (iI b))]) hx hb dX3_allDay_49 hl (k := 2) rfl (by omega) (by decide) rfl (fun ls hl => ?_)
          refine lv_goto (tgt := 4) hx hb dX3_allDay_52 (by decide) ?_
          exact ihlp4_1 (i + 1) g ls (by omega) (by rw [fo_s _ _ (by omega), ← hg]; have hx0 := mxZ_s g (mPart μ b i + μ 12 i); unfold mDayF; first | (rw [if_pos (by omega)]; omega) | rw [if_neg (by omega)]) (by omega) (by omega) (lv_sub hl [0, 1, 3, 4] rfl)
        · -- 19 to 22
          refine lv_iload hx hb dX3_allDay_22 (lv_at hl 0 rfl) ?_
          refine lv_aload_n hx hb dX3_allDay_24 rfl (lv_at hl 3 rfl) ?_
          refine va_get (D := D) (ci := 3) (v := .ref (M 12)) (C := RX3) (T := TX3) (N := 17) hx hb hts (fun _ h => List.mem_cons_of_mem _ (List.mem_append_right _ h)) hown hK hP 0 rfl rfl 12 (by decide) (hts _ fl_X3_allDay_38) (fun _ h9 => h9) rfl dX3_allDay_25 ?_
          refine lv_iload_n hx hb dX3_allDay_28 rfl (lv_at hl 1 rfl) ?_
          refine r_iald hx hb hK hP 9 0 rfl rfl (Nat.le_of_ble_eq_true rfl) (by omega) dX3_allDay_29 ?_
          have hv5 := hB12 i
          refine r_iadd hx hb dX3_allDay_30 ?_
          refine lv_iload_n hx hb dX3_allDay_31 rfl (lv_at hl 2 rfl) ?_
          refine r_icmp_le (tgt := 47) hx hb dX3_allDay_32 (by decide) (by omega) (by omega) (fun h6 => ?_) (fun h6 => ?_)
          · -- 32 to 47
            refine lv_iload_n hx hb dX3_allDay_47 rfl (lv_at hl 2 rfl) ?_
            refine lv_istore_n (lv' := [(2, .int (iI g)), (4, .int (iI (mPart μ b i))), (3, .int (iI i)), (0, .ref (M 100)), (1, .int (iI b))]) hx hb dX3_allDay_48 rfl hl (by decide) rfl (fun ls hl => ?_)
            refine r_iinc (a := i) (b := (i + 1)) (lv2 := [(3, .int (iI (i + 1))), (2, .int (iI g)), (4, .int (iI (mPart μ b i))), (0, .ref (M 100)), (1, .int (iI b))]) hx hb dX3_allDay_49 hl (k := 2) rfl (by omega) (by decide) rfl (fun ls hl => ?_)
            refine lv_goto (tgt := 4) hx hb dX3_allDay_52 (by decide) ?_
            exact ihlp4_1 (i + 1) g ls (by omega) (by rw [fo_s _ _ (by omega), ← hg]; have hx0 := mxZ_s g (mPart μ b i + μ 12 i); unfold mDayF; first | (rw [if_pos (by omega)]; omega) | rw [if_neg (by omega)]) (by omega) (by omega) (lv_sub hl [0, 1, 3, 4] rfl)
          · -- 32 to 35
            refine lv_iload hx hb dX3_allDay_35 (lv_at hl 0 rfl) ?_
            refine lv_aload_n hx hb dX3_allDay_37 rfl (lv_at hl 3 rfl) ?_
            refine va_get (D := D) (ci := 3) (v := .ref (M 12)) (C := RX3) (T := TX3) (N := 17) hx hb hts (fun _ h => List.mem_cons_of_mem _ (List.mem_append_right _ h)) hown hK hP 0 rfl rfl 12 (by decide) (hts _ fl_X3_allDay_38) (fun _ h9 => h9) rfl dX3_allDay_38 ?_
            refine lv_iload_n hx hb dX3_allDay_41 rfl (lv_at hl 1 rfl) ?_
            refine r_iald hx hb hK hP 9 0 rfl rfl (Nat.le_of_ble_eq_true rfl) (by omega) dX3_allDay_42 ?_
            have hv7 := hB12 i
            refine r_iadd hx hb dX3_allDay_43 ?_
            refine lv_goto (tgt := 48) hx hb dX3_allDay_44 (by decide) ?_
            refine lv_istore_n (lv' := [(2, .int (iI ((mPart μ b i) + (μ 12 i)))), (4, .int (iI (mPart μ b i))), (3, .int (iI i)), (0, .ref (M 100)), (1, .int (iI b))]) hx hb dX3_allDay_48 rfl hl (by decide) rfl (fun ls hl => ?_)
            refine r_iinc (a := i) (b := (i + 1)) (lv2 := [(3, .int (iI (i + 1))), (2, .int (iI ((mPart μ b i) + (μ 12 i)))), (4, .int (iI (mPart μ b i))), (0, .ref (M 100)), (1, .int (iI b))]) hx hb dX3_allDay_49 hl (k := 2) rfl (by omega) (by decide) rfl (fun ls hl => ?_)
            refine lv_goto (tgt := 4) hx hb dX3_allDay_52 (by decide) ?_
            exact ihlp4_1 (i + 1) ((mPart μ b i) + (μ 12 i)) ls (by omega) (by rw [fo_s _ _ (by omega), ← hg]; have hx0 := mxZ_s g (mPart μ b i + μ 12 i); unfold mDayF; first | (rw [if_pos (by omega)]; omega) | rw [if_neg (by omega)]) (by omega) (by omega) (lv_sub hl [0, 1, 3, 4] rfl)
  exact lp4_1 _ 0 0 ls (by omega) rfl (by omega) (lt_tn _) (lv_sub hl [0, 1, 2, 3] rfl)
theorem fl_X3_isHouse_61 : Cond.fieldLink RX3 61 "NoiseLampsModel" "houses" "I" ∈ wsX3_isHouse := by decide +kernel
set_option maxHeartbeats 4000000 in
set_option maxRecDepth 100000 in
theorem c_X3_isHouse (l : Launch) (D : va_G) (cy : ClassId) (M : Nat → Nat) (μ : Nat → Int → Int) (a : Int) (hI : invM μ) (ha : I32 a) : MetR l yX3_isHouse wsX3_isHouse ({ frames := 0, cells := 0, slots := 0, locals := 0 } : Room) D cy (wM cy M μ) ([.ref (M 100), .int (iI a)] : List Value) (bI (0 ≤ a ∧ a < μ 4 0)) := by
  refine met_R (cc := cX3_isHouse) (maxL := 2) (ret := (some .boolean)) (by decide) rfl (Nat.le_of_ble_eq_true rfl) ?_
  intro p e s m below meth c hx hb hr hml hts hown hlocks hP hK ls hl
  have hown : s.vm.findClass RX3 = some m.cls := hown
  have hl : lv_has ls 2 [(0, .ref (M 100)), (1, .int (iI a))] := hl
  obtain ⟨hM0, hM4, hM8, hM11, hM14, hB1, hB2, hB3, hB5, hB6, hB7, hB9, hB10, hB12, hB13, hB15, hB16⟩ := id hI
  refine lv_iload_n hx hb dX3_isHouse_0 rfl (lv_at hl 1 rfl) ?_
  refine r_if_lt (tgt := 16) hx hb dX3_isHouse_1 (by decide) (by omega) (fun h1 => ?_) (fun h1 => ?_)
  · -- 1 to 16
    refine lv_iconst (v := iI 0) hx hb dX3_isHouse_16 rfl ?_
    exact r_retZ hx hb hr hlocks dX3_isHouse_17 (zn_of (by omega)) (by first | rfl | exact (bI_t (by omega)).symm | exact (bI_f (by omega)).symm)
  · -- 1 to 4
    refine lv_iload_n hx hb dX3_isHouse_4 rfl (lv_at hl 1 rfl) ?_
    refine lv_aload_n hx hb dX3_isHouse_5 rfl (lv_at hl 0 rfl) ?_
    refine va_get (D := D) (ci := 3) (v := .int (iI (μ 4 0))) (C := RX3) (T := TX3) (N := 17) hx hb hts (fun _ h => List.mem_cons_of_mem _ (List.mem_append_right _ h)) hown hK hP 0 rfl rfl 4 (by decide) (hts _ fl_X3_isHouse_61) (fun _ h9 => h9) rfl dX3_isHouse_6 ?_
    refine r_icmp_ge (tgt := 16) hx hb dX3_isHouse_9 (by decide) (by omega) (by omega) (fun h2 => ?_) (fun h2 => ?_)
    · -- 9 to 16
      refine lv_iconst (v := iI 0) hx hb dX3_isHouse_16 rfl ?_
      exact r_retZ hx hb hr hlocks dX3_isHouse_17 (zn_of (by omega)) (by first | rfl | exact (bI_t (by omega)).symm | exact (bI_f (by omega)).symm)
    · -- 9 to 12
      refine lv_iconst (v := iI 1) hx hb dX3_isHouse_12 rfl ?_
      refine lv_goto (tgt := 17) hx hb dX3_isHouse_13 (by decide) ?_
      exact r_retZ hx hb hr hlocks dX3_isHouse_17 (zn_of (by omega)) (by first | rfl | exact (bI_t (by omega)).symm | exact (bI_f (by omega)).symm)
theorem fl_X3_isWall_64 : Cond.fieldLink RX3 64 "NoiseLampsModel" "walls" "I" ∈ wsX3_isWall := by decide +kernel
set_option maxHeartbeats 4000000 in
set_option maxRecDepth 100000 in
theorem c_X3_isWall (l : Launch) (D : va_G) (cy : ClassId) (M : Nat → Nat) (μ : Nat → Int → Int) (a : Int) (hI : invM μ) (ha : I32 a) : MetR l yX3_isWall wsX3_isWall ({ frames := 0, cells := 0, slots := 0, locals := 0 } : Room) D cy (wM cy M μ) ([.ref (M 100), .int (iI a)] : List Value) (bI (0 ≤ a ∧ a < μ 8 0)) := by
  refine met_R (cc := cX3_isWall) (maxL := 2) (ret := (some .boolean)) (by decide) rfl (Nat.le_of_ble_eq_true rfl) ?_
  intro p e s m below meth c hx hb hr hml hts hown hlocks hP hK ls hl
  have hown : s.vm.findClass RX3 = some m.cls := hown
  have hl : lv_has ls 2 [(0, .ref (M 100)), (1, .int (iI a))] := hl
  obtain ⟨hM0, hM4, hM8, hM11, hM14, hB1, hB2, hB3, hB5, hB6, hB7, hB9, hB10, hB12, hB13, hB15, hB16⟩ := id hI
  refine lv_iload_n hx hb dX3_isWall_0 rfl (lv_at hl 1 rfl) ?_
  refine r_if_lt (tgt := 16) hx hb dX3_isWall_1 (by decide) (by omega) (fun h1 => ?_) (fun h1 => ?_)
  · -- 1 to 16
    refine lv_iconst (v := iI 0) hx hb dX3_isWall_16 rfl ?_
    exact r_retZ hx hb hr hlocks dX3_isWall_17 (zn_of (by omega)) (by first | rfl | exact (bI_t (by omega)).symm | exact (bI_f (by omega)).symm)
  · -- 1 to 4
    refine lv_iload_n hx hb dX3_isWall_4 rfl (lv_at hl 1 rfl) ?_
    refine lv_aload_n hx hb dX3_isWall_5 rfl (lv_at hl 0 rfl) ?_
    refine va_get (D := D) (ci := 3) (v := .int (iI (μ 8 0))) (C := RX3) (T := TX3) (N := 17) hx hb hts (fun _ h => List.mem_cons_of_mem _ (List.mem_append_right _ h)) hown hK hP 0 rfl rfl 8 (by decide) (hts _ fl_X3_isWall_64) (fun _ h9 => h9) rfl dX3_isWall_6 ?_
    refine r_icmp_ge (tgt := 16) hx hb dX3_isWall_9 (by decide) (by omega) (by omega) (fun h2 => ?_) (fun h2 => ?_)
    · -- 9 to 16
      refine lv_iconst (v := iI 0) hx hb dX3_isWall_16 rfl ?_
      exact r_retZ hx hb hr hlocks dX3_isWall_17 (zn_of (by omega)) (by first | rfl | exact (bI_t (by omega)).symm | exact (bI_f (by omega)).symm)
    · -- 9 to 12
      refine lv_iconst (v := iI 1) hx hb dX3_isWall_12 rfl ?_
      refine lv_goto (tgt := 17) hx hb dX3_isWall_13 (by decide) ?_
      exact r_retZ hx hb hr hlocks dX3_isWall_17 (zn_of (by omega)) (by first | rfl | exact (bI_t (by omega)).symm | exact (bI_f (by omega)).symm)
theorem fl_X3_gives_58 : Cond.fieldLink RX3 58 "NoiseLampsModel" "pieces" "I" ∈ wsX3_gives := by decide +kernel
set_option maxHeartbeats 4000000 in
set_option maxRecDepth 100000 in
theorem c_X3_gives (l : Launch) (D : va_G) (cy : ClassId) (M : Nat → Nat) (μ : Nat → Int → Int) (a b t : Int) (hI : invM μ) (ha : I32 a) (hb0 : I32 b) (ht : I32 t) : MetR l yX3_gives wsX3_gives ({ frames := 3, cells := 0, slots := 0, locals := 101 } : Room) D cy (wM cy M μ) ([.ref (M 100), .int (iI a), .int (iI b), .int (iI t)] : List Value) (if (0 ≤ a ∧ a < μ 0 0) ∧ (0 ≤ b ∧ b < μ 4 0) ∧ (0 ≤ t ∧ t ≤ 2) then mGives μ a b t else -1) := by
  refine met_R (cc := cX3_gives) (maxL := 4) (ret := (some .int)) (by decide) rfl (Nat.le_of_ble_eq_true rfl) ?_
  intro p e s m below meth c hx hb hr hml hts hown hlocks hP hK ls hl
  have hown : s.vm.findClass RX3 = some m.cls := hown
  have hl : lv_has ls 4 [(0, .ref (M 100)), (1, .int (iI a)), (2, .int (iI b)), (3, .int (iI t))] := hl
  obtain ⟨hM0, hM4, hM8, hM11, hM14, hB1, hB2, hB3, hB5, hB6, hB7, hB9, hB10, hB12, hB13, hB15, hB16⟩ := id hI
  refine lv_iload_n hx hb dX3_gives_0 rfl (lv_at hl 1 rfl) ?_
  refine lv_iconst (v := iI 0) hx hb dX3_gives_1 rfl ?_
  refine lv_aload_n hx hb dX3_gives_2 rfl (lv_at hl 0 rfl) ?_
  refine va_get (D := D) (ci := 3) (v := .int (iI (μ 0 0))) (C := RX3) (T := TX3) (N := 17) hx hb hts (fun _ h => List.mem_cons_of_mem _ (List.mem_append_right _ h)) hown hK hP 0 rfl rfl 0 (by decide) (hts _ fl_X3_gives_58) (fun _ h9 => h9) rfl dX3_gives_3 ?_
  refine lv_iconst (v := iI 1) hx hb dX3_gives_6 rfl ?_
  refine r_isub hx hb dX3_gives_7 ?_
  refine r_calli (va_runS (As := [.int (iI a), .int (iI 0), .int (iI ((μ 0 0) - 1))]) (rest := []) ⟨hx, hb, hml, hown, hts⟩ (c_X3_within l  a 0 ((μ 0 0) - 1) (by omega) (by omega) (by omega)) (va_cwS 3 hts gX3_gives_X3_within rfl rfl rfl (by decide +kernel) ⟨Nat.le_of_ble_eq_true rfl, Nat.le_of_ble_eq_true rfl⟩) ps_T rfl rfl hl.1 rfl (lv_room (Nat.le_of_ble_eq_true rfl)) dX3_gives_8 ⟨Nat.le_of_ble_eq_true rfl, Nat.le_of_ble_eq_true rfl⟩) ?_
  refine r_ifB_eq (tgt := 41) hx hb dX3_gives_11 (by decide) (fun h1 => ?_) (fun h1 => ?_)
  · -- 11 to 41
    refine lv_iconst (v := iI (-1)) hx hb dX3_gives_41 rfl ?_
    exact r_ret hx hb hr hlocks dX3_gives_42 (by first | rw [if_pos (by omega)] | rw [if_neg (by omega)])
  · -- 11 to 14
    refine lv_aload_n hx hb dX3_gives_14 rfl (lv_at hl 0 rfl) ?_
    refine lv_iload_n hx hb dX3_gives_15 rfl (lv_at hl 2 rfl) ?_
    refine r_calli (va_runV (As := [.int (iI b)]) (rest := []) ⟨hx, hb, hml, hown, hts⟩ (c_X3_isHouse l D cy M μ b hI (by omega)) (cwV 1 hts gX3_gives_X3_isHouse rfl rfl rfl (by decide +kernel) ⟨Nat.le_of_ble_eq_true rfl, Nat.le_of_ble_eq_true rfl⟩) (pv_ro (C := RX3) (T := TX3) (N := 17) (ci := 3) (q0 := 0) hP hK rfl rfl) rfl rfl hl.1 rfl (lv_room (Nat.le_of_ble_eq_true rfl)) dX3_gives_16 ⟨Nat.le_of_ble_eq_true rfl, Nat.le_of_ble_eq_true rfl⟩) ?_
    refine r_ifB_eq (tgt := 41) hx hb dX3_gives_19 (by decide) (fun h2 => ?_) (fun h2 => ?_)
    · -- 19 to 41
      refine lv_iconst (v := iI (-1)) hx hb dX3_gives_41 rfl ?_
      exact r_ret hx hb hr hlocks dX3_gives_42 (by first | rw [if_pos (by omega)] | rw [if_neg (by omega)])
    · -- 19 to 22
      refine lv_iload_n hx hb dX3_gives_22 rfl (lv_at hl 3 rfl) ?_
      refine lv_iconst (v := iI 0) hx hb dX3_gives_23 rfl ?_
      refine lv_iconst (v := iI 2) hx hb dX3_gives_24 rfl ?_
      refine r_calli (va_runS (As := [.int (iI t), .int (iI 0), .int (iI 2)]) (rest := []) ⟨hx, hb, hml, hown, hts⟩ (c_X3_within l  t 0 2 (by omega) (by omega) (by omega)) (va_cwS 3 hts gX3_gives_X3_within rfl rfl rfl (by decide +kernel) ⟨Nat.le_of_ble_eq_true rfl, Nat.le_of_ble_eq_true rfl⟩) ps_T rfl rfl hl.1 rfl (lv_room (Nat.le_of_ble_eq_true rfl)) dX3_gives_25 ⟨Nat.le_of_ble_eq_true rfl, Nat.le_of_ble_eq_true rfl⟩) ?_
      refine r_ifB_eq (tgt := 41) hx hb dX3_gives_28 (by decide) (fun h3 => ?_) (fun h3 => ?_)
      · -- 28 to 41
        refine lv_iconst (v := iI (-1)) hx hb dX3_gives_41 rfl ?_
        exact r_ret hx hb hr hlocks dX3_gives_42 (by first | rw [if_pos (by omega)] | rw [if_neg (by omega)])
      · -- 28 to 31
        refine lv_aload_n hx hb dX3_gives_31 rfl (lv_at hl 0 rfl) ?_
        refine lv_iload_n hx hb dX3_gives_32 rfl (lv_at hl 1 rfl) ?_
        refine lv_iload_n hx hb dX3_gives_33 rfl (lv_at hl 2 rfl) ?_
        refine lv_iload_n hx hb dX3_gives_34 rfl (lv_at hl 3 rfl) ?_
        refine r_calli (va_runV (As := [.int (iI a), .int (iI b), .int (iI t)]) (rest := []) ⟨hx, hb, hml, hown, hts⟩ (c_X3_givesIn l D cy M μ a b t hI (by omega) (by omega) (by omega)) (cwV 3 hts gX3_gives_X3_givesIn rfl rfl rfl (by decide +kernel) ⟨Nat.le_of_ble_eq_true rfl, Nat.le_of_ble_eq_true rfl⟩) (pv_ro (C := RX3) (T := TX3) (N := 17) (ci := 3) (q0 := 0) hP hK rfl rfl) rfl rfl hl.1 rfl (lv_room (Nat.le_of_ble_eq_true rfl)) dX3_gives_35 ⟨Nat.le_of_ble_eq_true rfl, Nat.le_of_ble_eq_true rfl⟩) ?_
        have hf4 := mGives_bd hI a b t
        refine lv_goto (tgt := 42) hx hb dX3_gives_38 (by decide) ?_
        exact r_ret hx hb hr hlocks dX3_gives_42 (by first | rw [if_pos (by omega)] | rw [if_neg (by omega)])
set_option maxHeartbeats 4000000 in
set_option maxRecDepth 100000 in
theorem c_X3_level (l : Launch) (D : va_G) (cy : ClassId) (M : Nat → Nat) (μ : Nat → Int → Int) (b t : Int) (hI : invM μ) (hb0 : I32 b) (ht : I32 t) : MetR l yX3_level wsX3_level ({ frames := 5, cells := 0, slots := 0, locals := 150 } : Room) D cy (wM cy M μ) ([.ref (M 100), .int (iI b), .int (iI t)] : List Value) (if (0 ≤ b ∧ b < μ 4 0) ∧ (0 ≤ t ∧ t ≤ 3) then (if t = 3 then mDay μ b else mPart μ b t) else -1) := by
  refine met_R (cc := cX3_level) (maxL := 3) (ret := (some .int)) (by decide) rfl (Nat.le_of_ble_eq_true rfl) ?_
  intro p e s m below meth c hx hb hr hml hts hown hlocks hP hK ls hl
  have hown : s.vm.findClass RX3 = some m.cls := hown
  have hl : lv_has ls 3 [(0, .ref (M 100)), (1, .int (iI b)), (2, .int (iI t))] := hl
  obtain ⟨hM0, hM4, hM8, hM11, hM14, hB1, hB2, hB3, hB5, hB6, hB7, hB9, hB10, hB12, hB13, hB15, hB16⟩ := id hI
  refine lv_aload_n hx hb dX3_level_0 rfl (lv_at hl 0 rfl) ?_
  refine lv_iload_n hx hb dX3_level_1 rfl (lv_at hl 1 rfl) ?_
  refine r_calli (va_runV (As := [.int (iI b)]) (rest := []) ⟨hx, hb, hml, hown, hts⟩ (c_X3_isHouse l D cy M μ b hI (by omega)) (cwV 1 hts gX3_level_X3_isHouse rfl rfl rfl (by decide +kernel) ⟨Nat.le_of_ble_eq_true rfl, Nat.le_of_ble_eq_true rfl⟩) (pv_ro (C := RX3) (T := TX3) (N := 17) (ci := 3) (q0 := 0) hP hK rfl rfl) rfl rfl hl.1 rfl (lv_room (Nat.le_of_ble_eq_true rfl)) dX3_level_2 ⟨Nat.le_of_ble_eq_true rfl, Nat.le_of_ble_eq_true rfl⟩) ?_
  refine r_ifB_eq (tgt := 17) hx hb dX3_level_5 (by decide) (fun h1 => ?_) (fun h1 => ?_)
  · -- 5 to 17
    refine lv_iconst (v := iI (-1)) hx hb dX3_level_17 rfl ?_
    exact r_ret hx hb hr hlocks dX3_level_18 (by first | rw [if_pos (by omega), if_pos (by omega)] | rw [if_pos (by omega), if_neg (by omega)] | rw [if_neg (by omega)])
  · -- 5 to 8
    refine lv_iload_n hx hb dX3_level_8 rfl (lv_at hl 2 rfl) ?_
    refine lv_iconst (v := iI 0) hx hb dX3_level_9 rfl ?_
    refine lv_iconst (v := iI 3) hx hb dX3_level_10 rfl ?_
    refine r_calli (va_runS (As := [.int (iI t), .int (iI 0), .int (iI 3)]) (rest := []) ⟨hx, hb, hml, hown, hts⟩ (c_X3_within l  t 0 3 (by omega) (by omega) (by omega)) (va_cwS 3 hts gX3_level_X3_within rfl rfl rfl (by decide +kernel) ⟨Nat.le_of_ble_eq_true rfl, Nat.le_of_ble_eq_true rfl⟩) ps_T rfl rfl hl.1 rfl (lv_room (Nat.le_of_ble_eq_true rfl)) dX3_level_11 ⟨Nat.le_of_ble_eq_true rfl, Nat.le_of_ble_eq_true rfl⟩) ?_
    refine r_ifB_ne (tgt := 19) hx hb dX3_level_14 (by decide) (fun h2 => ?_) (fun h2 => ?_)
    · -- 14 to 19
      refine lv_iload_n hx hb dX3_level_19 rfl (lv_at hl 2 rfl) ?_
      refine lv_iconst (v := iI 3) hx hb dX3_level_20 rfl ?_
      refine r_icmp_ne (tgt := 32) hx hb dX3_level_21 (by decide) (by omega) (by omega) (fun h3 => ?_) (fun h3 => ?_)
      · -- 21 to 32
        refine lv_aload_n hx hb dX3_level_32 rfl (lv_at hl 0 rfl) ?_
        refine lv_iload_n hx hb dX3_level_33 rfl (lv_at hl 1 rfl) ?_
        refine lv_iload_n hx hb dX3_level_34 rfl (lv_at hl 2 rfl) ?_
        refine r_calli (va_runV (As := [.int (iI b), .int (iI t)]) (rest := []) ⟨hx, hb, hml, hown, hts⟩ (c_X3_levelIn l D cy M μ b t hI (by omega) (by omega)) (cwV 2 hts gX3_level_X3_levelIn rfl rfl rfl (by decide +kernel) ⟨Nat.le_of_ble_eq_true rfl, Nat.le_of_ble_eq_true rfl⟩) (pv_ro (C := RX3) (T := TX3) (N := 17) (ci := 3) (q0 := 0) hP hK rfl rfl) rfl rfl hl.1 rfl (lv_room (Nat.le_of_ble_eq_true rfl)) dX3_level_35 ⟨Nat.le_of_ble_eq_true rfl, Nat.le_of_ble_eq_true rfl⟩) ?_
        have hf4 := mPart_bd hI b t
        exact r_ret hx hb hr hlocks dX3_level_38 (by first | rw [if_pos (by omega), if_pos (by omega)] | rw [if_pos (by omega), if_neg (by omega)] | rw [if_neg (by omega)])
      · -- 21 to 24
        refine lv_aload_n hx hb dX3_level_24 rfl (lv_at hl 0 rfl) ?_
        refine lv_iload_n hx hb dX3_level_25 rfl (lv_at hl 1 rfl) ?_
        refine r_calli (va_runV (As := [.int (iI b)]) (rest := []) ⟨hx, hb, hml, hown, hts⟩ (c_X3_allDay l D cy M μ b hI (by omega)) (cwV 1 hts gX3_level_X3_allDay rfl rfl rfl (by decide +kernel) ⟨Nat.le_of_ble_eq_true rfl, Nat.le_of_ble_eq_true rfl⟩) (pv_ro (C := RX3) (T := TX3) (N := 17) (ci := 3) (q0 := 0) hP hK rfl rfl) rfl rfl hl.1 rfl (lv_room (Nat.le_of_ble_eq_true rfl)) dX3_level_26 ⟨Nat.le_of_ble_eq_true rfl, Nat.le_of_ble_eq_true rfl⟩) ?_
        have hf5 := mDay_bd hI b
        refine lv_goto (tgt := 38) hx hb dX3_level_29 (by decide) ?_
        exact r_ret hx hb hr hlocks dX3_level_38 (by first | rw [if_pos (by omega), if_pos (by omega)] | rw [if_pos (by omega), if_neg (by omega)] | rw [if_neg (by omega)])
    · -- 14 to 17
      refine lv_iconst (v := iI (-1)) hx hb dX3_level_17 rfl ?_
      exact r_ret hx hb hr hlocks dX3_level_18 (by first | rw [if_pos (by omega), if_pos (by omega)] | rw [if_pos (by omega), if_neg (by omega)] | rw [if_neg (by omega)])
theorem fl_X3_people_61 : Cond.fieldLink RX3 61 "NoiseLampsModel" "houses" "I" ∈ wsX3_people := by decide +kernel
theorem fl_X3_people_25 : Cond.fieldLink RX3 25 "NoiseLampsModel" "people" "[I" ∈ wsX3_people := by decide +kernel
set_option maxHeartbeats 4000000 in
set_option maxRecDepth 100000 in
theorem c_X3_people (l : Launch) (D : va_G) (cy : ClassId) (M : Nat → Nat) (μ : Nat → Int → Int) (b : Int) (hI : invM μ) (hb0 : I32 b) : MetR l yX3_people wsX3_people ({ frames := 5, cells := 0, slots := 0, locals := 150 } : Room) D cy (wM cy M μ) ([.ref (M 100), .int (iI b)] : List Value) (mPeople μ b) := by
  refine met_R (cc := cX3_people) (maxL := 4) (ret := (some .int)) (by decide) rfl (Nat.le_of_ble_eq_true rfl) ?_
  intro p e s m below meth c hx hb hr hml hts hown hlocks hP hK ls hl
  have hown : s.vm.findClass RX3 = some m.cls := hown
  have hl : lv_has ls 4 [(0, .ref (M 100)), (1, .int (iI b))] := hl
  obtain ⟨hM0, hM4, hM8, hM11, hM14, hB1, hB2, hB3, hB5, hB6, hB7, hB9, hB10, hB12, hB13, hB15, hB16⟩ := id hI
  refine lv_iconst (v := iI 0) hx hb dX3_people_0 rfl ?_
  refine lv_istore_n (lv' := [(2, .int (iI 0)), (0, .ref (M 100)), (1, .int (iI b))]) hx hb dX3_people_1 rfl hl (by decide) rfl (fun ls hl => ?_)
  refine lv_iconst (v := iI 0) hx hb dX3_people_2 rfl ?_
  refine lv_istore_n (lv' := [(3, .int (iI 0)), (2, .int (iI 0)), (0, .ref (M 100)), (1, .int (iI b))]) hx hb dX3_people_3 rfl hl (by decide) rfl (fun ls hl => ?_)
  have lp4_1 : ∀ (nlp4_1 : Nat) (i : Int) (g : Int) (ls : Array Slot), (0 ≤ i ∧ i ≤ μ 4 0) → (g = fo (mPeopleF μ b) 0 i) → (μ 4 0 - i < (nlp4_1 : Int)) → lv_has ls 4 [(3, .int (iI i)), (2, .int (iI g)), (0, .ref (M 100)), (1, .int (iI b))] → W p l e ({ frames := 5, cells := 0, slots := 0, locals := 150 } : Room) s m ([.ref (M 100), .int (iI b)] : List Value).toArray below meth c s.heap [] 0 0 (MQ below (vp_Si (fun r => r = iI (mPeople μ b))) ([.ref (M 100), .int (iI b)] : List Value).toArray s 0 0 (fun _ => False)) (F0 m 4 ls []) := by
    intro nlp4_1
    induction nlp4_1 with
    | zero => intro i g ls hi hg hn hl; exact absurd hn (by omega)
    | succ nlp4_1 ihlp4_1 =>
      intro i g ls hi hg hn hl
      refine lv_iload_n hx hb dX3_people_4 rfl (lv_at hl 0 rfl) ?_
      refine lv_aload_n hx hb dX3_people_5 rfl (lv_at hl 2 rfl) ?_
      refine va_get (D := D) (ci := 3) (v := .int (iI (μ 4 0))) (C := RX3) (T := TX3) (N := 17) hx hb hts (fun _ h => List.mem_cons_of_mem _ (List.mem_append_right _ h)) hown hK hP 0 rfl rfl 4 (by decide) (hts _ fl_X3_people_61) (fun _ h9 => h9) rfl dX3_people_6 ?_
      refine r_icmp_ge (tgt := 40) hx hb dX3_people_9 (by decide) (by omega) (by omega) (fun h2 => ?_) (fun h2 => ?_)
      · -- 9 to 40
        refine lv_iload_n hx hb dX3_people_40 rfl (lv_at hl 1 rfl) ?_
        exact r_ret hx hb hr hlocks dX3_people_41 (by rw [hg, show i = μ 4 0 from by omega]; rfl)
      · -- 9 to 12
        refine lv_iload_n hx hb dX3_people_12 rfl (lv_at hl 1 rfl) ?_
        refine lv_aload_n hx hb dX3_people_13 rfl (lv_at hl 2 rfl) ?_
        refine lv_iload_n hx hb dX3_people_14 rfl (lv_at hl 0 rfl) ?_
        refine r_calli (va_runV (As := [.int (iI i)]) (rest := [.int (iI g)]) ⟨hx, hb, hml, hown, hts⟩ (c_X3_allDay l D cy M μ i hI (by omega)) (cwV 1 hts gX3_people_X3_allDay rfl rfl rfl (by decide +kernel) ⟨Nat.le_of_ble_eq_true rfl, Nat.le_of_ble_eq_true rfl⟩) (pv_ro (C := RX3) (T := TX3) (N := 17) (ci := 3) (q0 := 0) hP hK rfl rfl) rfl rfl hl.1 rfl (lv_room (Nat.le_of_ble_eq_true rfl)) dX3_people_15 ⟨Nat.le_of_ble_eq_true rfl, Nat.le_of_ble_eq_true rfl⟩) ?_
        have hf3 := mDay_bd hI i
        refine lv_iload_n hx hb dX3_people_18 rfl (lv_at hl 3 rfl) ?_
        refine r_icmp_le (tgt := 31) hx hb dX3_people_19 (by decide) (by omega) (by omega) (fun h4 => ?_) (fun h4 => ?_)
        · -- 19 to 31
          refine lv_iconst (v := iI 0) hx hb dX3_people_31 rfl ?_
          refine r_iadd hx hb dX3_people_32 ?_
          refine lv_istore_n (lv' := [(2, .int (iI (g + 0))), (3, .int (iI i)), (0, .ref (M 100)), (1, .int (iI b))]) hx hb dX3_people_33 rfl hl (by decide) rfl (fun ls hl => ?_)
          refine r_iinc (a := i) (b := (i + 1)) (lv2 := [(3, .int (iI (i + 1))), (2, .int (iI (g + 0))), (0, .ref (M 100)), (1, .int (iI b))]) hx hb dX3_people_34 hl (k := 1) rfl (by omega) (by decide) rfl (fun ls hl => ?_)
          refine lv_goto (tgt := 4) hx hb dX3_people_37 (by decide) ?_
          exact ihlp4_1 (i + 1) (g + 0) ls (by omega) (by rw [fo_s _ _ (by omega), ← hg]; unfold mPeopleF; first | rw [if_pos (by omega)] | (rw [if_neg (by omega)]; omega)) (by omega) (lv_sub hl [0, 1, 2, 3] rfl)
        · -- 19 to 22
          refine lv_aload_n hx hb dX3_people_22 rfl (lv_at hl 2 rfl) ?_
          refine va_get (D := D) (ci := 3) (v := .ref (M 7)) (C := RX3) (T := TX3) (N := 17) hx hb hts (fun _ h => List.mem_cons_of_mem _ (List.mem_append_right _ h)) hown hK hP 0 rfl rfl 7 (by decide) (hts _ fl_X3_people_25) (fun _ h9 => h9) rfl dX3_people_23 ?_
          refine lv_iload_n hx hb dX3_people_26 rfl (lv_at hl 0 rfl) ?_
          refine r_iald hx hb hK hP 6 0 rfl rfl (Nat.le_of_ble_eq_true rfl) (by omega) dX3_people_27 ?_
          have hv5 := hB7 i
          refine lv_goto (tgt := 32) hx hb dX3_people_28 (by decide) ?_
          refine r_iadd hx hb dX3_people_32 ?_
          refine lv_istore_n (lv' := [(2, .int (iI (g + (μ 7 i)))), (3, .int (iI i)), (0, .ref (M 100)), (1, .int (iI b))]) hx hb dX3_people_33 rfl hl (by decide) rfl (fun ls hl => ?_)
          refine r_iinc (a := i) (b := (i + 1)) (lv2 := [(3, .int (iI (i + 1))), (2, .int (iI (g + (μ 7 i)))), (0, .ref (M 100)), (1, .int (iI b))]) hx hb dX3_people_34 hl (k := 1) rfl (by omega) (by decide) rfl (fun ls hl => ?_)
          refine lv_goto (tgt := 4) hx hb dX3_people_37 (by decide) ?_
          exact ihlp4_1 (i + 1) (g + (μ 7 i)) ls (by omega) (by rw [fo_s _ _ (by omega), ← hg]; unfold mPeopleF; first | rw [if_pos (by omega)] | (rw [if_neg (by omega)]; omega)) (by omega) (lv_sub hl [0, 1, 2, 3] rfl)
  exact lp4_1 _ 0 0 ls (by omega) rfl (lt_tn _) (lv_sub hl [0, 1, 2, 3] rfl)
theorem fl_X3_loudest_58 : Cond.fieldLink RX3 58 "NoiseLampsModel" "pieces" "I" ∈ wsX3_loudest := by decide +kernel
set_option maxHeartbeats 4000000 in
set_option maxRecDepth 100000 in
theorem c_X3_loudest (l : Launch) (D : va_G) (cy : ClassId) (M : Nat → Nat) (μ : Nat → Int → Int) (b t : Int) (hI : invM μ) (hb0 : I32 b) (ht : I32 t) : MetR l yX3_loudest wsX3_loudest ({ frames := 3, cells := 0, slots := 0, locals := 101 } : Room) D cy (wM cy M μ) ([.ref (M 100), .int (iI b), .int (iI t)] : List Value) (if (0 ≤ b ∧ b < μ 4 0) ∧ (0 ≤ t ∧ t ≤ 2) then mLoud μ b t else -1) := by
  refine met_R (cc := cX3_loudest) (maxL := 7) (ret := (some .int)) (by decide) rfl (Nat.le_of_ble_eq_true rfl) ?_
  intro p e s m below meth c hx hb hr hml hts hown hlocks hP hK ls hl
  have hown : s.vm.findClass RX3 = some m.cls := hown
  have hl : lv_has ls 7 [(0, .ref (M 100)), (1, .int (iI b)), (2, .int (iI t))] := hl
  obtain ⟨hM0, hM4, hM8, hM11, hM14, hB1, hB2, hB3, hB5, hB6, hB7, hB9, hB10, hB12, hB13, hB15, hB16⟩ := id hI
  refine lv_iconst (v := iI (-1)) hx hb dX3_loudest_0 rfl ?_
  refine lv_istore_n (lv' := [(3, .int (iI (-1))), (0, .ref (M 100)), (1, .int (iI b)), (2, .int (iI t))]) hx hb dX3_loudest_1 rfl hl (by decide) rfl (fun ls hl => ?_)
  refine lv_iconst (v := iI 0) hx hb dX3_loudest_2 rfl ?_
  refine lv_istore (lv' := [(4, .int (iI 0)), (3, .int (iI (-1))), (0, .ref (M 100)), (1, .int (iI b)), (2, .int (iI t))]) hx hb dX3_loudest_3 hl (by decide) rfl (fun ls hl => ?_)
  refine lv_iconst (v := iI 0) hx hb dX3_loudest_5 rfl ?_
  refine lv_istore (lv' := [(5, .int (iI 0)), (4, .int (iI 0)), (3, .int (iI (-1))), (0, .ref (M 100)), (1, .int (iI b)), (2, .int (iI t))]) hx hb dX3_loudest_6 hl (by decide) rfl (fun ls hl => ?_)
  have lp8_1 : ∀ (nlp8_1 : Nat) (i : Int) (g : Int) (q : Int) (ls : Array Slot), (0 ≤ i ∧ i ≤ μ 0 0) → ((q, g) = fo (mLoudF μ b t) (-1, 0) i) → (0 ≤ g ∧ g ≤ 1200) → ((i = 0 ∧ q = -1) ∨ ((0 ≤ b ∧ b < μ 4 0) ∧ (0 ≤ t ∧ t ≤ 2))) → (μ 0 0 - i < (nlp8_1 : Int)) → lv_has ls 7 [(5, .int (iI i)), (4, .int (iI g)), (3, .int (iI q)), (0, .ref (M 100)), (1, .int (iI b)), (2, .int (iI t))] → W p l e ({ frames := 3, cells := 0, slots := 0, locals := 101 } : Room) s m ([.ref (M 100), .int (iI b), .int (iI t)] : List Value).toArray below meth c s.heap [] 0 0 (MQ below (vp_Si (fun r => r = iI (if (0 ≤ b ∧ b < μ 4 0) ∧ (0 ≤ t ∧ t ≤ 2) then mLoud μ b t else -1))) ([.ref (M 100), .int (iI b), .int (iI t)] : List Value).toArray s 0 0 (fun _ => False)) (F0 m 8 ls []) := by
    intro nlp8_1
    induction nlp8_1 with
    | zero => intro i g q ls hi hg hgb hva hn hl; exact absurd hn (by omega)
    | succ nlp8_1 ihlp8_1 =>
      intro i g q ls hi hg hgb hva hn hl
      refine lv_iload hx hb dX3_loudest_8 (lv_at hl 0 rfl) ?_
      refine lv_aload_n hx hb dX3_loudest_10 rfl (lv_at hl 3 rfl) ?_
      refine va_get (D := D) (ci := 3) (v := .int (iI (μ 0 0))) (C := RX3) (T := TX3) (N := 17) hx hb hts (fun _ h => List.mem_cons_of_mem _ (List.mem_append_right _ h)) hown hK hP 0 rfl rfl 0 (by decide) (hts _ fl_X3_loudest_58) (fun _ h9 => h9) rfl dX3_loudest_11 ?_
      refine r_icmp_ge (tgt := 80) hx hb dX3_loudest_14 (by decide) (by omega) (by omega) (fun h2 => ?_) (fun h2 => ?_)
      · -- 14 to 80
        refine lv_iload_n hx hb dX3_loudest_80 rfl (lv_at hl 2 rfl) ?_
        exact r_ret hx hb hr hlocks dX3_loudest_81 (loud_leaf hva hg (by omega))
      · -- 14 to 17
        refine lv_aload_n hx hb dX3_loudest_17 rfl (lv_at hl 3 rfl) ?_
        refine lv_iload_n hx hb dX3_loudest_18 rfl (lv_at hl 4 rfl) ?_
        refine r_calli (va_runV (As := [.int (iI b)]) (rest := []) ⟨hx, hb, hml, hown, hts⟩ (c_X3_isHouse l D cy M μ b hI (by omega)) (cwV 1 hts gX3_loudest_X3_isHouse rfl rfl rfl (by decide +kernel) ⟨Nat.le_of_ble_eq_true rfl, Nat.le_of_ble_eq_true rfl⟩) (pv_ro (C := RX3) (T := TX3) (N := 17) (ci := 3) (q0 := 0) hP hK rfl rfl) rfl rfl hl.1 rfl (lv_room (Nat.le_of_ble_eq_true rfl)) dX3_loudest_19 ⟨Nat.le_of_ble_eq_true rfl, Nat.le_of_ble_eq_true rfl⟩) ?_
        refine r_ifB_eq (tgt := 80) hx hb dX3_loudest_22 (by decide) (fun h3 => ?_) (fun h3 => ?_)
        · -- 22 to 80
          refine lv_iload_n hx hb dX3_loudest_80 rfl (lv_at hl 2 rfl) ?_
          exact r_ret hx hb hr hlocks dX3_loudest_81 (loud_leaf hva hg (by omega))
        · -- 22 to 25
          refine lv_iload_n hx hb dX3_loudest_25 rfl (lv_at hl 5 rfl) ?_
          refine lv_iconst (v := iI 0) hx hb dX3_loudest_26 rfl ?_
          refine lv_iconst (v := iI 2) hx hb dX3_loudest_27 rfl ?_
          refine r_calli (va_runS (As := [.int (iI t), .int (iI 0), .int (iI 2)]) (rest := []) ⟨hx, hb, hml, hown, hts⟩ (c_X3_within l  t 0 2 (by omega) (by omega) (by omega)) (va_cwS 3 hts gX3_loudest_X3_within rfl rfl rfl (by decide +kernel) ⟨Nat.le_of_ble_eq_true rfl, Nat.le_of_ble_eq_true rfl⟩) ps_T rfl rfl hl.1 rfl (lv_room (Nat.le_of_ble_eq_true rfl)) dX3_loudest_28 ⟨Nat.le_of_ble_eq_true rfl, Nat.le_of_ble_eq_true rfl⟩) ?_
          refine r_ifB_eq (tgt := 80) hx hb dX3_loudest_31 (by decide) (fun h4 => ?_) (fun h4 => ?_)
          · -- 31 to 80
            refine lv_iload_n hx hb dX3_loudest_80 rfl (lv_at hl 2 rfl) ?_
            exact r_ret hx hb hr hlocks dX3_loudest_81 (loud_leaf hva hg (by omega))
          · -- 31 to 34
            refine lv_aload_n hx hb dX3_loudest_34 rfl (lv_at hl 3 rfl) ?_
            refine lv_iload hx hb dX3_loudest_35 (lv_at hl 0 rfl) ?_
            refine lv_iload_n hx hb dX3_loudest_37 rfl (lv_at hl 4 rfl) ?_
            refine lv_iload_n hx hb dX3_loudest_38 rfl (lv_at hl 5 rfl) ?_
            refine r_calli (va_runV (As := [.int (iI i), .int (iI b), .int (iI t)]) (rest := []) ⟨hx, hb, hml, hown, hts⟩ (c_X3_givesIn l D cy M μ i b t hI (by omega) (by omega) (by omega)) (cwV 3 hts gX3_loudest_X3_givesIn rfl rfl rfl (by decide +kernel) ⟨Nat.le_of_ble_eq_true rfl, Nat.le_of_ble_eq_true rfl⟩) (pv_ro (C := RX3) (T := TX3) (N := 17) (ci := 3) (q0 := 0) hP hK rfl rfl) rfl rfl hl.1 rfl (lv_room (Nat.le_of_ble_eq_true rfl)) dX3_loudest_39 ⟨Nat.le_of_ble_eq_true rfl, Nat.le_of_ble_eq_true rfl⟩) ?_
            have hf5 := mGives_bd hI i b t
            refine lv_istore (lv' := [(6, .int (iI (mGives μ i b t))), (5, .int (iI i)), (4, .int (iI g)), (3, .int (iI q)), (0, .ref (M 100)), (1, .int (iI b)), (2, .int (iI t))]) hx hb dX3_loudest_42 hl (by decide) rfl (fun ls hl => ?_)
            refine lv_iload hx hb dX3_loudest_44 (lv_at hl 0 rfl) ?_
            refine lv_iload hx hb dX3_loudest_46 (lv_at hl 2 rfl) ?_
            refine r_icmp_le (tgt := 56) hx hb dX3_loudest_48 (by decide) (by omega) (by omega) (fun h6 => ?_) (fun h6 => ?_)
            · -- 48 to 56
              refine lv_iload_n hx hb dX3_loudest_56 rfl (lv_at hl 3 rfl) ?_
              refine lv_istore_n (lv' := [(3, .int (iI q)), (6, .int (iI (mGives μ i b t))), (5, .int (iI i)), (4, .int (iI g)), (0, .ref (M 100)), (1, .int (iI b)), (2, .int (iI t))]) hx hb dX3_loudest_57 rfl hl (by decide) rfl (fun ls hl => ?_)
              refine lv_iload hx hb dX3_loudest_58 (lv_at hl 1 rfl) ?_
              refine lv_iload hx hb dX3_loudest_60 (lv_at hl 3 rfl) ?_
              refine r_icmp_le (tgt := 70) hx hb dX3_loudest_62 (by decide) (by omega) (by omega) (fun h7 => ?_) (fun h7 => ?_)
              · -- 62 to 70
                refine lv_iload hx hb dX3_loudest_70 (lv_at hl 3 rfl) ?_
                refine lv_istore (lv' := [(4, .int (iI g)), (3, .int (iI q)), (6, .int (iI (mGives μ i b t))), (5, .int (iI i)), (0, .ref (M 100)), (1, .int (iI b)), (2, .int (iI t))]) hx hb dX3_loudest_72 hl (by decide) rfl (fun ls hl => ?_)
                refine r_iinc (a := i) (b := (i + 1)) (lv2 := [(5, .int (iI (i + 1))), (4, .int (iI g)), (3, .int (iI q)), (6, .int (iI (mGives μ i b t))), (0, .ref (M 100)), (1, .int (iI b)), (2, .int (iI t))]) hx hb dX3_loudest_74 hl (k := 3) rfl (by omega) (by decide) rfl (fun ls hl => ?_)
                refine lv_goto (tgt := 8) hx hb dX3_loudest_77 (by decide) ?_
                exact ihlp8_1 (i + 1) g q ls (by omega) (by rw [fo_s _ _ (by omega), ← hg]; unfold mLoudF; first | (exfalso; omega) | rw [if_pos (by show _ < _; omega)] | rw [if_neg (by show ¬ _ < _; omega)]) (by omega) (by omega) (by omega) (lv_sub hl [0, 1, 2, 4, 5, 6] rfl)
              · -- 62 to 65
                refine lv_iload hx hb dX3_loudest_65 (lv_at hl 1 rfl) ?_
                refine lv_goto (tgt := 72) hx hb dX3_loudest_67 (by decide) ?_
                refine lv_istore (lv' := [(4, .int (iI (mGives μ i b t))), (3, .int (iI q)), (6, .int (iI (mGives μ i b t))), (5, .int (iI i)), (0, .ref (M 100)), (1, .int (iI b)), (2, .int (iI t))]) hx hb dX3_loudest_72 hl (by decide) rfl (fun ls hl => ?_)
                refine r_iinc (a := i) (b := (i + 1)) (lv2 := [(5, .int (iI (i + 1))), (4, .int (iI (mGives μ i b t))), (3, .int (iI q)), (6, .int (iI (mGives μ i b t))), (0, .ref (M 100)), (1, .int (iI b)), (2, .int (iI t))]) hx hb dX3_loudest_74 hl (k := 3) rfl (by omega) (by decide) rfl (fun ls hl => ?_)
                refine lv_goto (tgt := 8) hx hb dX3_loudest_77 (by decide) ?_
                exact ihlp8_1 (i + 1) (mGives μ i b t) q ls (by omega) (by rw [fo_s _ _ (by omega), ← hg]; unfold mLoudF; first | (exfalso; omega) | rw [if_pos (by show _ < _; omega)] | rw [if_neg (by show ¬ _ < _; omega)]) (by omega) (by omega) (by omega) (lv_sub hl [0, 1, 2, 4, 5, 6] rfl)
            · -- 48 to 51
              refine lv_iload hx hb dX3_loudest_51 (lv_at hl 1 rfl) ?_
              refine lv_goto (tgt := 57) hx hb dX3_loudest_53 (by decide) ?_
              refine lv_istore_n (lv' := [(3, .int (iI i)), (6, .int (iI (mGives μ i b t))), (5, .int (iI i)), (4, .int (iI g)), (0, .ref (M 100)), (1, .int (iI b)), (2, .int (iI t))]) hx hb dX3_loudest_57 rfl hl (by decide) rfl (fun ls hl => ?_)
              refine lv_iload hx hb dX3_loudest_58 (lv_at hl 1 rfl) ?_
              refine lv_iload hx hb dX3_loudest_60 (lv_at hl 3 rfl) ?_
              refine r_icmp_le (tgt := 70) hx hb dX3_loudest_62 (by decide) (by omega) (by omega) (fun h8 => ?_) (fun h8 => ?_)
              · -- 62 to 70
                refine lv_iload hx hb dX3_loudest_70 (lv_at hl 3 rfl) ?_
                refine lv_istore (lv' := [(4, .int (iI g)), (3, .int (iI i)), (6, .int (iI (mGives μ i b t))), (5, .int (iI i)), (0, .ref (M 100)), (1, .int (iI b)), (2, .int (iI t))]) hx hb dX3_loudest_72 hl (by decide) rfl (fun ls hl => ?_)
                refine r_iinc (a := i) (b := (i + 1)) (lv2 := [(5, .int (iI (i + 1))), (4, .int (iI g)), (3, .int (iI i)), (6, .int (iI (mGives μ i b t))), (0, .ref (M 100)), (1, .int (iI b)), (2, .int (iI t))]) hx hb dX3_loudest_74 hl (k := 3) rfl (by omega) (by decide) rfl (fun ls hl => ?_)
                refine lv_goto (tgt := 8) hx hb dX3_loudest_77 (by decide) ?_
                exact ihlp8_1 (i + 1) g i ls (by omega) (by rw [fo_s _ _ (by omega), ← hg]; unfold mLoudF; first | (exfalso; omega) | rw [if_pos (by show _ < _; omega)] | rw [if_neg (by show ¬ _ < _; omega)]) (by omega) (by omega) (by omega) (lv_sub hl [0, 1, 2, 4, 5, 6] rfl)
              · -- 62 to 65
                refine lv_iload hx hb dX3_loudest_65 (lv_at hl 1 rfl) ?_
                refine lv_goto (tgt := 72) hx hb dX3_loudest_67 (by decide) ?_
                refine lv_istore (lv' := [(4, .int (iI (mGives μ i b t))), (3, .int (iI i)), (6, .int (iI (mGives μ i b t))), (5, .int (iI i)), (0, .ref (M 100)), (1, .int (iI b)), (2, .int (iI t))]) hx hb dX3_loudest_72 hl (by decide) rfl (fun ls hl => ?_)
                refine r_iinc (a := i) (b := (i + 1)) (lv2 := [(5, .int (iI (i + 1))), (4, .int (iI (mGives μ i b t))), (3, .int (iI i)), (6, .int (iI (mGives μ i b t))), (0, .ref (M 100)), (1, .int (iI b)), (2, .int (iI t))]) hx hb dX3_loudest_74 hl (k := 3) rfl (by omega) (by decide) rfl (fun ls hl => ?_)
                refine lv_goto (tgt := 8) hx hb dX3_loudest_77 (by decide) ?_
                exact ihlp8_1 (i + 1) (mGives μ i b t) i ls (by omega) (by rw [fo_s _ _ (by omega), ← hg]; unfold mLoudF; first | (exfalso; omega) | rw [if_pos (by show _ < _; omega)] | rw [if_neg (by show ¬ _ < _; omega)]) (by omega) (by omega) (by omega) (lv_sub hl [0, 1, 2, 4, 5, 6] rfl)
  exact lp8_1 _ 0 0 (-1) ls (by omega) rfl (by omega) (by omega) (lt_tn _) (lv_sub hl [0, 1, 2, 3, 4, 5] rfl)
theorem fl_X3_ranked_61 : Cond.fieldLink RX3 61 "NoiseLampsModel" "houses" "I" ∈ wsX3_ranked := by decide +kernel
theorem fl_X3_ranked_47 : Cond.fieldLink RX3 47 "NoiseLampsModel" "days" "[I" ∈ wsX3_ranked := by decide +kernel
set_option maxHeartbeats 4000000 in
set_option maxRecDepth 100000 in
theorem c_X3_ranked (l : Launch) (D : va_G) (cy : ClassId) (M : Nat → Nat) (μ : Nat → Int → Int) (sz : Nat) (b : Int) (hI : invM μ) (hb0 : I32 b) : MetM l yX3_ranked wsX3_ranked ({ frames := 5, cells := 0, slots := 0, locals := 150 } : Room) D cy (wM cy M μ) ([.ref (M 100), .int (iI b)] : List Value) sz (fun u : (Int → Int) => (mRank μ b)) (fun u : (Int → Int) => ∀ k, I32 (u k)) (fun u : (Int → Int) => wM cy M (su μ 16 u)) := by
  refine met_M (cc := cX3_ranked) (maxL := 5) (ret := (some .int)) (by decide) rfl (Nat.le_of_ble_eq_true rfl) ?_
  intro p e s m below meth c AA hAA hx hb hr hml hts hown hlocks hP hK hD hA ls hl
  have hS : va_S AA s.heap s.heap [] := va_S.rf
  have hown : s.vm.findClass RX3 = some m.cls := hown
  have hl : lv_has ls 5 [(0, .ref (M 100)), (1, .int (iI b))] := hl
  obtain ⟨hM0, hM4, hM8, hM11, hM14, hB1, hB2, hB3, hB5, hB6, hB7, hB9, hB10, hB12, hB13, hB15, hB16⟩ := id hI
  refine lv_iconst (v := iI 0) hx hb dX3_ranked_0 rfl ?_
  refine lv_istore_n (lv' := [(2, .int (iI 0)), (0, .ref (M 100)), (1, .int (iI b))]) hx hb dX3_ranked_1 rfl hl (by decide) rfl (fun ls hl => ?_)
  have lp2_1 : ∀ (nlp2_1 : Nat) (i : Int) (g : (Int → Int)) (H : Heap) (locs : List Loc) (ls : Array Slot), (0 ≤ i ∧ i ≤ μ 4 0) → (∀ k, 0 ≤ k → k < i → g k = mDay μ k) → (∀ k, I32 (g k)) → va_P D vwCl (wM cy M (su μ 16 g)) H → va_D AA (wM cy M (su μ 16 g)) → va_S AA s.heap H locs → (μ 4 0 - i < (nlp2_1 : Int)) → lv_has ls 5 [(2, .int (iI i)), (0, .ref (M 100)), (1, .int (iI b))] → W p l e ({ frames := 5, cells := 0, slots := 0, locals := 150 } : Room) s m ([.ref (M 100), .int (iI b)] : List Value).toArray below meth c H locs 0 0 (MQ below (va_Qi (fun r (u : (Int → Int)) => r = iI ((fun u : (Int → Int) => (mRank μ b)) u) ∧ (fun u : (Int → Int) => ∀ k, I32 (u k)) u) (fun (u : (Int → Int)) tz => va_P D vwCl ((fun u : (Int → Int) => wM cy M (su μ 16 u)) u) tz.heap) AA) ([.ref (M 100), .int (iI b)] : List Value).toArray s 0 0 AA) (F0 m 2 ls []) := by
    intro nlp2_1
    induction nlp2_1 with
    | zero => intro i g H locs ls hi hg hgb hP hD hS hn hl; exact absurd hn (by omega)
    | succ nlp2_1 ihlp2_1 =>
      intro i g H locs ls hi hg hgb hP hD hS hn hl
      refine lv_iload_n hx hb dX3_ranked_2 rfl (lv_at hl 0 rfl) ?_
      refine lv_aload_n hx hb dX3_ranked_3 rfl (lv_at hl 1 rfl) ?_
      refine va_get (D := D) (ci := 3) (v := .int (iI (μ 4 0))) (C := RX3) (T := TX3) (N := 17) hx hb hts (fun _ h => List.mem_cons_of_mem _ (List.mem_append_right _ h)) hown hK hP 0 rfl rfl 4 (by decide) (hts _ fl_X3_ranked_61) (fun _ h9 => h9) rfl dX3_ranked_4 ?_
      refine r_icmp_ge (tgt := 27) hx hb dX3_ranked_7 (by decide) (by omega) (by omega) (fun h2 => ?_) (fun h2 => ?_)
      · -- 7 to 27
        refine lv_iconst (v := iI 0) hx hb dX3_ranked_27 rfl ?_
        refine lv_istore_n (lv' := [(2, .int (iI 0)), (0, .ref (M 100)), (1, .int (iI b))]) hx hb dX3_ranked_28 rfl hl (by decide) rfl (fun ls hl => ?_)
        have lp29_3 : ∀ (nlp29_3 : Nat) (j : Int) (ls : Array Slot), (0 ≤ j ∧ j ≤ μ 4 0) → (mRank μ b = ft (fun h => decide (nAhead (mDay μ) (μ 4 0) h = b)) (fun h => h) (-1) j (μ 4 0)) → (μ 4 0 - j < (nlp29_3 : Int)) → lv_has ls 5 [(2, .int (iI j)), (0, .ref (M 100)), (1, .int (iI b))] → W p l e ({ frames := 5, cells := 0, slots := 0, locals := 150 } : Room) s m ([.ref (M 100), .int (iI b)] : List Value).toArray below meth c H locs 0 0 (MQ below (va_Qi (fun r (u : (Int → Int)) => r = iI ((fun u : (Int → Int) => (mRank μ b)) u) ∧ (fun u : (Int → Int) => ∀ k, I32 (u k)) u) (fun (u : (Int → Int)) tz => va_P D vwCl ((fun u : (Int → Int) => wM cy M (su μ 16 u)) u) tz.heap) AA) ([.ref (M 100), .int (iI b)] : List Value).toArray s 0 0 AA) (F0 m 29 ls []) := by
          intro nlp29_3
          induction nlp29_3 with
          | zero => intro j ls hj hr1 hn hl; exact absurd hn (by omega)
          | succ nlp29_3 ihlp29_3 =>
            intro j ls hj hr1 hn hl
            refine lv_iload_n hx hb dX3_ranked_29 rfl (lv_at hl 0 rfl) ?_
            refine lv_aload_n hx hb dX3_ranked_30 rfl (lv_at hl 1 rfl) ?_
            refine va_get (D := D) (ci := 3) (v := .int (iI (μ 4 0))) (C := RX3) (T := TX3) (N := 17) hx hb hts (fun _ h => List.mem_cons_of_mem _ (List.mem_append_right _ h)) hown hK hP 0 rfl rfl 4 (by decide) (hts _ fl_X3_ranked_61) (fun _ h9 => h9) rfl dX3_ranked_31 ?_
            refine r_icmp_ge (tgt := 116) hx hb dX3_ranked_34 (by decide) (by omega) (by omega) (fun h4 => ?_) (fun h4 => ?_)
            · -- 34 to 116
              refine lv_iconst (v := iI (-1)) hx hb dX3_ranked_116 rfl ?_
              exact r_retM g hx hb hr hlocks hS dX3_ranked_117 (by rw [hr1, ft_end _ _ _ (by omega)]) hgb hP
            · -- 34 to 37
              refine lv_iconst (v := iI 0) hx hb dX3_ranked_37 rfl ?_
              refine lv_istore_n (lv' := [(3, .int (iI 0)), (2, .int (iI j)), (0, .ref (M 100)), (1, .int (iI b))]) hx hb dX3_ranked_38 rfl hl (by decide) rfl (fun ls hl => ?_)
              refine lv_iconst (v := iI 0) hx hb dX3_ranked_39 rfl ?_
              refine lv_istore (lv' := [(4, .int (iI 0)), (3, .int (iI 0)), (2, .int (iI j)), (0, .ref (M 100)), (1, .int (iI b))]) hx hb dX3_ranked_40 hl (by decide) rfl (fun ls hl => ?_)
              have lp42_5 : ∀ (nlp42_5 : Nat) (k0 : Int) (z : Int) (ls : Array Slot), (0 ≤ k0 ∧ k0 ≤ μ 4 0) → (z = fo (nAheadF g j) 0 k0) → (0 ≤ z ∧ z ≤ k0) → (μ 4 0 - k0 < (nlp42_5 : Int)) → lv_has ls 5 [(4, .int (iI k0)), (3, .int (iI z)), (2, .int (iI j)), (0, .ref (M 100)), (1, .int (iI b))] → W p l e ({ frames := 5, cells := 0, slots := 0, locals := 150 } : Room) s m ([.ref (M 100), .int (iI b)] : List Value).toArray below meth c H locs 0 0 (MQ below (va_Qi (fun r (u : (Int → Int)) => r = iI ((fun u : (Int → Int) => (mRank μ b)) u) ∧ (fun u : (Int → Int) => ∀ k, I32 (u k)) u) (fun (u : (Int → Int)) tz => va_P D vwCl ((fun u : (Int → Int) => wM cy M (su μ 16 u)) u) tz.heap) AA) ([.ref (M 100), .int (iI b)] : List Value).toArray s 0 0 AA) (F0 m 42 ls []) := by
                intro nlp42_5
                induction nlp42_5 with
                | zero => intro k0 z ls hk hz hzb hn hl; exact absurd hn (by omega)
                | succ nlp42_5 ihlp42_5 =>
                  intro k0 z ls hk hz hzb hn hl
                  refine lv_iload hx hb dX3_ranked_42 (lv_at hl 0 rfl) ?_
                  refine lv_aload_n hx hb dX3_ranked_44 rfl (lv_at hl 3 rfl) ?_
                  refine va_get (D := D) (ci := 3) (v := .int (iI (μ 4 0))) (C := RX3) (T := TX3) (N := 17) hx hb hts (fun _ h => List.mem_cons_of_mem _ (List.mem_append_right _ h)) hown hK hP 0 rfl rfl 4 (by decide) (hts _ fl_X3_ranked_61) (fun _ h9 => h9) rfl dX3_ranked_45 ?_
                  refine r_icmp_ge (tgt := 103) hx hb dX3_ranked_48 (by decide) (by omega) (by omega) (fun h6 => ?_) (fun h6 => ?_)
                  · -- 48 to 103
                    have hza : nAhead g (μ 4 0) j = z := by rw [hz, show k0 = μ 4 0 from by omega]; rfl
                    have hzc : nAhead g (μ 4 0) j = nAhead (mDay μ) (μ 4 0) j := nAhead_congr (by omega) (fun k h0 h1 => hg k h0 (by omega))
                    refine lv_iload_n hx hb dX3_ranked_103 rfl (lv_at hl 1 rfl) ?_
                    refine lv_iload_n hx hb dX3_ranked_104 rfl (lv_at hl 4 rfl) ?_
                    refine r_icmp_ne (tgt := 110) hx hb dX3_ranked_105 (by decide) (by omega) (by omega) (fun h9 => ?_) (fun h9 => ?_)
                    · -- 105 to 110
                      refine r_iinc (a := j) (b := (j + 1)) (lv2 := [(2, .int (iI (j + 1))), (4, .int (iI k0)), (3, .int (iI z)), (0, .ref (M 100)), (1, .int (iI b))]) hx hb dX3_ranked_110 hl (k := 2) rfl (by omega) (by decide) rfl (fun ls hl => ?_)
                      refine lv_goto (tgt := 29) hx hb dX3_ranked_113 (by decide) ?_
                      exact ihlp29_3 (j + 1) ls (by omega) (by rw [hr1, ft_miss _ _ _ (by omega) (decide_eq_false (by omega))]) (by omega) (lv_sub hl [0, 3, 4] rfl)
                    · -- 105 to 108
                      refine lv_iload_n hx hb dX3_ranked_108 rfl (lv_at hl 2 rfl) ?_
                      exact r_retM g hx hb hr hlocks hS dX3_ranked_109 (by rw [hr1, ft_hit _ _ _ (by omega) (decide_eq_true (by omega))]) hgb hP
                  · -- 48 to 51
                    refine lv_iload_n hx hb dX3_ranked_51 rfl (lv_at hl 1 rfl) ?_
                    refine lv_aload_n hx hb dX3_ranked_52 rfl (lv_at hl 3 rfl) ?_
                    refine va_get (D := D) (ci := 3) (v := .ref (M 16)) (C := RX3) (T := TX3) (N := 17) hx hb hts (fun _ h => List.mem_cons_of_mem _ (List.mem_append_right _ h)) hown hK hP 0 rfl rfl 16 (by decide) (hts _ fl_X3_ranked_47) (fun _ h9 => h9) rfl dX3_ranked_53 ?_
                    refine lv_iload hx hb dX3_ranked_56 (lv_at hl 0 rfl) ?_
                    have hv10 := hgb k0
                    refine r_iald (f := g) hx hb hK hP 12 0 rfl rfl (Nat.le_of_ble_eq_true rfl) (by omega) dX3_ranked_58 ?_
                    refine lv_aload_n hx hb dX3_ranked_59 rfl (lv_at hl 3 rfl) ?_
                    refine va_get (D := D) (ci := 3) (v := .ref (M 16)) (C := RX3) (T := TX3) (N := 17) hx hb hts (fun _ h => List.mem_cons_of_mem _ (List.mem_append_right _ h)) hown hK hP 0 rfl rfl 16 (by decide) (hts _ fl_X3_ranked_47) (fun _ h9 => h9) rfl dX3_ranked_60 ?_
                    refine lv_iload_n hx hb dX3_ranked_63 rfl (lv_at hl 2 rfl) ?_
                    have hv11 := hgb j
                    refine r_iald (f := g) hx hb hK hP 12 0 rfl rfl (Nat.le_of_ble_eq_true rfl) (by omega) dX3_ranked_64 ?_
                    refine r_icmp_gt (tgt := 90) hx hb dX3_ranked_65 (by decide) (by omega) (by omega) (fun h12 => ?_) (fun h12 => ?_)
                    · -- 65 to 90
                      refine lv_iconst (v := iI 1) hx hb dX3_ranked_90 rfl ?_
                      refine lv_goto (tgt := 95) hx hb dX3_ranked_91 (by decide) ?_
                      refine r_iadd hx hb dX3_ranked_95 ?_
                      refine lv_istore_n (lv' := [(3, .int (iI (z + 1))), (4, .int (iI k0)), (2, .int (iI j)), (0, .ref (M 100)), (1, .int (iI b))]) hx hb dX3_ranked_96 rfl hl (by decide) rfl (fun ls hl => ?_)
                      refine r_iinc (a := k0) (b := (k0 + 1)) (lv2 := [(4, .int (iI (k0 + 1))), (3, .int (iI (z + 1))), (2, .int (iI j)), (0, .ref (M 100)), (1, .int (iI b))]) hx hb dX3_ranked_97 hl (k := 1) rfl (by omega) (by decide) rfl (fun ls hl => ?_)
                      refine lv_goto (tgt := 42) hx hb dX3_ranked_100 (by decide) ?_
                      exact ihlp42_5 (k0 + 1) (z + 1) ls (by omega) (by rw [fo_s _ _ (by omega), ← hz]; unfold nAheadF; first | rw [if_pos (by omega)] | (rw [if_neg (by omega)]; omega)) (by omega) (by omega) (lv_sub hl [0, 1, 2, 3, 4] rfl)
                    · -- 65 to 68
                      refine lv_aload_n hx hb dX3_ranked_68 rfl (lv_at hl 3 rfl) ?_
                      refine va_get (D := D) (ci := 3) (v := .ref (M 16)) (C := RX3) (T := TX3) (N := 17) hx hb hts (fun _ h => List.mem_cons_of_mem _ (List.mem_append_right _ h)) hown hK hP 0 rfl rfl 16 (by decide) (hts _ fl_X3_ranked_47) (fun _ h9 => h9) rfl dX3_ranked_69 ?_
                      refine lv_iload hx hb dX3_ranked_72 (lv_at hl 0 rfl) ?_
                      have hv13 := hgb k0
                      refine r_iald (f := g) hx hb hK hP 12 0 rfl rfl (Nat.le_of_ble_eq_true rfl) (by omega) dX3_ranked_74 ?_
                      refine lv_aload_n hx hb dX3_ranked_75 rfl (lv_at hl 3 rfl) ?_
                      refine va_get (D := D) (ci := 3) (v := .ref (M 16)) (C := RX3) (T := TX3) (N := 17) hx hb hts (fun _ h => List.mem_cons_of_mem _ (List.mem_append_right _ h)) hown hK hP 0 rfl rfl 16 (by decide) (hts _ fl_X3_ranked_47) (fun _ h9 => h9) rfl dX3_ranked_76 ?_
                      refine lv_iload_n hx hb dX3_ranked_79 rfl (lv_at hl 2 rfl) ?_
                      have hv14 := hgb j
                      refine r_iald (f := g) hx hb hK hP 12 0 rfl rfl (Nat.le_of_ble_eq_true rfl) (by omega) dX3_ranked_80 ?_
                      refine r_icmp_ne (tgt := 94) hx hb dX3_ranked_81 (by decide) (by omega) (by omega) (fun h15 => ?_) (fun h15 => ?_)
                      · -- 81 to 94
                        refine lv_iconst (v := iI 0) hx hb dX3_ranked_94 rfl ?_
                        refine r_iadd hx hb dX3_ranked_95 ?_
                        refine lv_istore_n (lv' := [(3, .int (iI (z + 0))), (4, .int (iI k0)), (2, .int (iI j)), (0, .ref (M 100)), (1, .int (iI b))]) hx hb dX3_ranked_96 rfl hl (by decide) rfl (fun ls hl => ?_)
                        refine r_iinc (a := k0) (b := (k0 + 1)) (lv2 := [(4, .int (iI (k0 + 1))), (3, .int (iI (z + 0))), (2, .int (iI j)), (0, .ref (M 100)), (1, .int (iI b))]) hx hb dX3_ranked_97 hl (k := 1) rfl (by omega) (by decide) rfl (fun ls hl => ?_)
                        refine lv_goto (tgt := 42) hx hb dX3_ranked_100 (by decide) ?_
                        exact ihlp42_5 (k0 + 1) (z + 0) ls (by omega) (by rw [fo_s _ _ (by omega), ← hz]; unfold nAheadF; first | rw [if_pos (by omega)] | (rw [if_neg (by omega)]; omega)) (by omega) (by omega) (lv_sub hl [0, 1, 2, 3, 4] rfl)
                      · -- 81 to 84
                        refine lv_iload hx hb dX3_ranked_84 (lv_at hl 0 rfl) ?_
                        refine lv_iload_n hx hb dX3_ranked_86 rfl (lv_at hl 2 rfl) ?_
                        refine r_icmp_ge (tgt := 94) hx hb dX3_ranked_87 (by decide) (by omega) (by omega) (fun h16 => ?_) (fun h16 => ?_)
                        · -- 87 to 94
                          refine lv_iconst (v := iI 0) hx hb dX3_ranked_94 rfl ?_
                          refine r_iadd hx hb dX3_ranked_95 ?_
                          refine lv_istore_n (lv' := [(3, .int (iI (z + 0))), (4, .int (iI k0)), (2, .int (iI j)), (0, .ref (M 100)), (1, .int (iI b))]) hx hb dX3_ranked_96 rfl hl (by decide) rfl (fun ls hl => ?_)
                          refine r_iinc (a := k0) (b := (k0 + 1)) (lv2 := [(4, .int (iI (k0 + 1))), (3, .int (iI (z + 0))), (2, .int (iI j)), (0, .ref (M 100)), (1, .int (iI b))]) hx hb dX3_ranked_97 hl (k := 1) rfl (by omega) (by decide) rfl (fun ls hl => ?_)
                          refine lv_goto (tgt := 42) hx hb dX3_ranked_100 (by decide) ?_
                          exact ihlp42_5 (k0 + 1) (z + 0) ls (by omega) (by rw [fo_s _ _ (by omega), ← hz]; unfold nAheadF; first | rw [if_pos (by omega)] | (rw [if_neg (by omega)]; omega)) (by omega) (by omega) (lv_sub hl [0, 1, 2, 3, 4] rfl)
                        · -- 87 to 90
                          refine lv_iconst (v := iI 1) hx hb dX3_ranked_90 rfl ?_
                          refine lv_goto (tgt := 95) hx hb dX3_ranked_91 (by decide) ?_
                          refine r_iadd hx hb dX3_ranked_95 ?_
                          refine lv_istore_n (lv' := [(3, .int (iI (z + 1))), (4, .int (iI k0)), (2, .int (iI j)), (0, .ref (M 100)), (1, .int (iI b))]) hx hb dX3_ranked_96 rfl hl (by decide) rfl (fun ls hl => ?_)
                          refine r_iinc (a := k0) (b := (k0 + 1)) (lv2 := [(4, .int (iI (k0 + 1))), (3, .int (iI (z + 1))), (2, .int (iI j)), (0, .ref (M 100)), (1, .int (iI b))]) hx hb dX3_ranked_97 hl (k := 1) rfl (by omega) (by decide) rfl (fun ls hl => ?_)
                          refine lv_goto (tgt := 42) hx hb dX3_ranked_100 (by decide) ?_
                          exact ihlp42_5 (k0 + 1) (z + 1) ls (by omega) (by rw [fo_s _ _ (by omega), ← hz]; unfold nAheadF; first | rw [if_pos (by omega)] | (rw [if_neg (by omega)]; omega)) (by omega) (by omega) (lv_sub hl [0, 1, 2, 3, 4] rfl)
              exact lp42_5 _ 0 0 ls (by omega) rfl (by omega) (lt_tn _) (lv_sub hl [0, 1, 2, 3, 4] rfl)
        exact lp29_3 _ 0 ls (by omega) rfl (lt_tn _) (lv_sub hl [0, 1, 2] rfl)
      · -- 7 to 10
        refine lv_aload_n hx hb dX3_ranked_10 rfl (lv_at hl 1 rfl) ?_
        refine va_get (D := D) (ci := 3) (v := .ref (M 16)) (C := RX3) (T := TX3) (N := 17) hx hb hts (fun _ h => List.mem_cons_of_mem _ (List.mem_append_right _ h)) hown hK hP 0 rfl rfl 16 (by decide) (hts _ fl_X3_ranked_47) (fun _ h9 => h9) rfl dX3_ranked_11 ?_
        refine lv_iload_n hx hb dX3_ranked_14 rfl (lv_at hl 0 rfl) ?_
        refine lv_aload_n hx hb dX3_ranked_15 rfl (lv_at hl 1 rfl) ?_
        refine lv_iload_n hx hb dX3_ranked_16 rfl (lv_at hl 0 rfl) ?_
        refine r_calli (va_runV (As := [.int (iI i)]) (rest := [.int (iI i), .ref (M 16)]) ⟨hx, hb, hml, hown, hts⟩ (c_X3_allDay l D cy M (su μ 16 g) i (ivM_16 hI hgb) (by omega)) (cwV 1 hts gX3_ranked_X3_allDay rfl rfl rfl (by decide +kernel) ⟨Nat.le_of_ble_eq_true rfl, Nat.le_of_ble_eq_true rfl⟩) (pv_ro (C := RX3) (T := TX3) (N := 17) (ci := 3) (q0 := 0) hP hK rfl rfl) rfl rfl hl.1 rfl (lv_room (Nat.le_of_ble_eq_true rfl)) dX3_ranked_17 ⟨Nat.le_of_ble_eq_true rfl, Nat.le_of_ble_eq_true rfl⟩) ?_
        have hf17 := mDay_bd (ivM_16 hI hgb) i
        refine r_iast hx hb hK hP hD hS 12 0 rfl rfl (Nat.le_of_ble_eq_true rfl) (by omega) dX3_ranked_20 (fun H locs hP hD hS => ?_)
        have hP : va_P D vwCl (wM cy M (su (su μ 16 g) 16 (up g i (mDay (su μ 16 g) i)))) H := hP
        have hD : va_D AA (wM cy M (su (su μ 16 g) 16 (up g i (mDay (su μ 16 g) i)))) := hD
        refine r_iinc (a := i) (b := (i + 1)) (lv2 := [(2, .int (iI (i + 1))), (0, .ref (M 100)), (1, .int (iI b))]) hx hb dX3_ranked_21 hl (k := 0) rfl (by omega) (by decide) rfl (fun ls hl => ?_)
        refine lv_goto (tgt := 2) hx hb dX3_ranked_24 (by decide) ?_
        exact ihlp2_1 (i + 1) (up g i (mDay (su μ 16 g) i)) _ _ ls (by omega) (ex_step hg rfl) (up_bd hgb (by have q := mDay_bd hI i; have q2 : mDay (su μ 16 g) i = mDay μ i := rfl; omega)) hP hD hS (by omega) (lv_sub hl [0, 1, 2] rfl)
  exact lp2_1 _ 0 (μ 16) s.heap [] ls (by omega) (fun k h0 h1 => absurd h1 (by omega)) hB16 hP hD hS (lt_tn _) (lv_sub hl [0, 1, 2] rfl)
theorem fl_X3_isQuiet_61 : Cond.fieldLink RX3 61 "NoiseLampsModel" "houses" "I" ∈ wsX3_isQuiet := by decide +kernel
set_option maxHeartbeats 4000000 in
set_option maxRecDepth 100000 in
theorem c_X3_isQuiet (l : Launch) (D : va_G) (cy : ClassId) (M : Nat → Nat) (μ : Nat → Int → Int) (b : Int) (hI : invM μ) (hb0 : I32 b) : MetR l yX3_isQuiet wsX3_isQuiet ({ frames := 5, cells := 0, slots := 0, locals := 150 } : Room) D cy (wM cy M μ) ([.ref (M 100), .int (iI b)] : List Value) (mNone μ b) := by
  refine met_R (cc := cX3_isQuiet) (maxL := 4) (ret := (some .boolean)) (by decide) rfl (Nat.le_of_ble_eq_true rfl) ?_
  intro p e s m below meth c hx hb hr hml hts hown hlocks hP hK ls hl
  have hown : s.vm.findClass RX3 = some m.cls := hown
  have hl : lv_has ls 4 [(0, .ref (M 100)), (1, .int (iI b))] := hl
  obtain ⟨hM0, hM4, hM8, hM11, hM14, hB1, hB2, hB3, hB5, hB6, hB7, hB9, hB10, hB12, hB13, hB15, hB16⟩ := id hI
  refine lv_iconst (v := iI 1) hx hb dX3_isQuiet_0 rfl ?_
  refine lv_istore_n (lv' := [(2, .int (iI 1)), (0, .ref (M 100)), (1, .int (iI b))]) hx hb dX3_isQuiet_1 rfl hl (by decide) rfl (fun ls hl => ?_)
  refine lv_iconst (v := iI 0) hx hb dX3_isQuiet_2 rfl ?_
  refine lv_istore_n (lv' := [(3, .int (iI 0)), (2, .int (iI 1)), (0, .ref (M 100)), (1, .int (iI b))]) hx hb dX3_isQuiet_3 rfl hl (by decide) rfl (fun ls hl => ?_)
  have lp4_1 : ∀ (nlp4_1 : Nat) (i : Int) (qt : Int) (ls : Array Slot), (0 ≤ i ∧ i ≤ μ 4 0) → ((qt = 1 ∧ mNone μ b = ft (fun h => decide (b < mDay μ h)) (fun _ => 0) 1 i (μ 4 0)) ∨ (qt = 0 ∧ mNone μ b = 0)) → (μ 4 0 - i < (nlp4_1 : Int)) → lv_has ls 4 [(3, .int (iI i)), (2, .int (iI qt)), (0, .ref (M 100)), (1, .int (iI b))] → W p l e ({ frames := 5, cells := 0, slots := 0, locals := 150 } : Room) s m ([.ref (M 100), .int (iI b)] : List Value).toArray below meth c s.heap [] 0 0 (MQ below (vp_Si (fun r => r = iI (mNone μ b))) ([.ref (M 100), .int (iI b)] : List Value).toArray s 0 0 (fun _ => False)) (F0 m 4 ls []) := by
    intro nlp4_1
    induction nlp4_1 with
    | zero => intro i qt ls hi hg hn hl; exact absurd hn (by omega)
    | succ nlp4_1 ihlp4_1 =>
      intro i qt ls hi hg hn hl
      refine lv_iload_n hx hb dX3_isQuiet_4 rfl (lv_at hl 0 rfl) ?_
      refine lv_aload_n hx hb dX3_isQuiet_5 rfl (lv_at hl 2 rfl) ?_
      refine va_get (D := D) (ci := 3) (v := .int (iI (μ 4 0))) (C := RX3) (T := TX3) (N := 17) hx hb hts (fun _ h => List.mem_cons_of_mem _ (List.mem_append_right _ h)) hown hK hP 0 rfl rfl 4 (by decide) (hts _ fl_X3_isQuiet_61) (fun _ h9 => h9) rfl dX3_isQuiet_6 ?_
      refine r_icmp_ge (tgt := 37) hx hb dX3_isQuiet_9 (by decide) (by omega) (by omega) (fun h2 => ?_) (fun h2 => ?_)
      · -- 9 to 37
        refine lv_iload_n hx hb dX3_isQuiet_37 rfl (lv_at hl 1 rfl) ?_
        exact r_retZ hx hb hr hlocks dX3_isQuiet_38 (zn_of (by omega)) (quiet_e hg (by omega))
      · -- 9 to 12
        refine lv_iload_n hx hb dX3_isQuiet_12 rfl (lv_at hl 1 rfl) ?_
        refine r_if_eq (tgt := 37) hx hb dX3_isQuiet_13 (by decide) (by omega) (fun h3 => ?_) (fun h3 => ?_)
        · -- 13 to 37
          refine lv_iload_n hx hb dX3_isQuiet_37 rfl (lv_at hl 1 rfl) ?_
          exact r_retZ hx hb hr hlocks dX3_isQuiet_38 (zn_of (by omega)) (quiet_e hg (by omega))
        · -- 13 to 16
          refine lv_aload_n hx hb dX3_isQuiet_16 rfl (lv_at hl 2 rfl) ?_
          refine lv_iload_n hx hb dX3_isQuiet_17 rfl (lv_at hl 0 rfl) ?_
          refine r_calli (va_runV (As := [.int (iI i)]) (rest := []) ⟨hx, hb, hml, hown, hts⟩ (c_X3_allDay l D cy M μ i hI (by omega)) (cwV 1 hts gX3_isQuiet_X3_allDay rfl rfl rfl (by decide +kernel) ⟨Nat.le_of_ble_eq_true rfl, Nat.le_of_ble_eq_true rfl⟩) (pv_ro (C := RX3) (T := TX3) (N := 17) (ci := 3) (q0 := 0) hP hK rfl rfl) rfl rfl hl.1 rfl (lv_room (Nat.le_of_ble_eq_true rfl)) dX3_isQuiet_18 ⟨Nat.le_of_ble_eq_true rfl, Nat.le_of_ble_eq_true rfl⟩) ?_
          have hf4 := mDay_bd hI i
          refine lv_iload_n hx hb dX3_isQuiet_21 rfl (lv_at hl 3 rfl) ?_
          refine r_icmp_gt (tgt := 29) hx hb dX3_isQuiet_22 (by decide) (by omega) (by omega) (fun h5 => ?_) (fun h5 => ?_)
          · -- 22 to 29
            refine lv_iconst (v := iI 0) hx hb dX3_isQuiet_29 rfl ?_
            refine lv_istore_n (lv' := [(2, .int (iI 0)), (3, .int (iI i)), (0, .ref (M 100)), (1, .int (iI b))]) hx hb dX3_isQuiet_30 rfl hl (by decide) rfl (fun ls hl => ?_)
            refine r_iinc (a := i) (b := (i + 1)) (lv2 := [(3, .int (iI (i + 1))), (2, .int (iI 0)), (0, .ref (M 100)), (1, .int (iI b))]) hx hb dX3_isQuiet_31 hl (k := 1) rfl (by omega) (by decide) rfl (fun ls hl => ?_)
            refine lv_goto (tgt := 4) hx hb dX3_isQuiet_34 (by decide) ?_
            exact ihlp4_1 (i + 1) 0 ls (by omega) (by first | exact quiet_a hg (by omega) (by omega) (by omega) | exact quiet_b hg (by omega) (by omega) (by omega)) (by omega) (lv_sub hl [0, 1, 2, 3] rfl)
          · -- 22 to 25
            refine lv_iconst (v := iI 1) hx hb dX3_isQuiet_25 rfl ?_
            refine lv_goto (tgt := 30) hx hb dX3_isQuiet_26 (by decide) ?_
            refine lv_istore_n (lv' := [(2, .int (iI 1)), (3, .int (iI i)), (0, .ref (M 100)), (1, .int (iI b))]) hx hb dX3_isQuiet_30 rfl hl (by decide) rfl (fun ls hl => ?_)
            refine r_iinc (a := i) (b := (i + 1)) (lv2 := [(3, .int (iI (i + 1))), (2, .int (iI 1)), (0, .ref (M 100)), (1, .int (iI b))]) hx hb dX3_isQuiet_31 hl (k := 1) rfl (by omega) (by decide) rfl (fun ls hl => ?_)
            refine lv_goto (tgt := 4) hx hb dX3_isQuiet_34 (by decide) ?_
            exact ihlp4_1 (i + 1) 1 ls (by omega) (by first | exact quiet_a hg (by omega) (by omega) (by omega) | exact quiet_b hg (by omega) (by omega) (by omega)) (by omega) (lv_sub hl [0, 1, 2, 3] rfl)
  exact lp4_1 _ 0 1 ls (by omega) (Or.inl ⟨rfl, rfl⟩) (lt_tn _) (lv_sub hl [0, 1, 2, 3] rfl)
theorem fl_X3_needed_31 : Cond.fieldLink RX3 31 "NoiseLampsModel" "cuts" "[I" ∈ wsX3_needed := by decide +kernel
set_option maxHeartbeats 4000000 in
set_option maxRecDepth 100000 in
theorem c_X3_needed (l : Launch) (D : va_G) (cy : ClassId) (M : Nat → Nat) (μ : Nat → Int → Int) (sz : Nat) (w b : Int) (hI : invM μ) (hw : I32 w) (hb0 : I32 b) : MetM l yX3_needed wsX3_needed ({ frames := 6, cells := 0, slots := 0, locals := 173 } : Room) D cy (wM cy M μ) ([.ref (M 100), .int (iI w), .int (iI b)] : List Value) sz (fun _ : Unit => (if 0 ≤ w ∧ w < μ 8 0 then mLeast μ w b else -1)) (fun _ : Unit => True) (fun _ : Unit => wM cy M μ) := by
  refine met_M (cc := cX3_needed) (maxL := 6) (ret := (some .int)) (by decide) rfl (Nat.le_of_ble_eq_true rfl) ?_
  intro p e s m below meth c AA hAA hx hb hr hml hts hown hlocks hP hK hD hA ls hl
  have hS : va_S AA s.heap s.heap [] := va_S.rf
  have hown : s.vm.findClass RX3 = some m.cls := hown
  have hl : lv_has ls 6 [(0, .ref (M 100)), (1, .int (iI w)), (2, .int (iI b))] := hl
  obtain ⟨hM0, hM4, hM8, hM11, hM14, hB1, hB2, hB3, hB5, hB6, hB7, hB9, hB10, hB12, hB13, hB15, hB16⟩ := id hI
  refine lv_aload_n hx hb dX3_needed_0 rfl (lv_at hl 0 rfl) ?_
  refine lv_iload_n hx hb dX3_needed_1 rfl (lv_at hl 1 rfl) ?_
  refine r_calli (va_runV (As := [.int (iI w)]) (rest := []) ⟨hx, hb, hml, hown, hts⟩ (c_X3_isWall l D cy M μ w hI (by omega)) (cwV 1 hts gX3_needed_X3_isWall rfl rfl rfl (by decide +kernel) ⟨Nat.le_of_ble_eq_true rfl, Nat.le_of_ble_eq_true rfl⟩) (pv_ro (C := RX3) (T := TX3) (N := 17) (ci := 3) (q0 := 0) hP hK rfl rfl) rfl rfl hl.1 rfl (lv_room (Nat.le_of_ble_eq_true rfl)) dX3_needed_2 ⟨Nat.le_of_ble_eq_true rfl, Nat.le_of_ble_eq_true rfl⟩) ?_
  refine r_ifB_ne (tgt := 10) hx hb dX3_needed_5 (by decide) (fun h1 => ?_) (fun h1 => ?_)
  · -- 5 to 10
    refine lv_aload_n hx hb dX3_needed_10 rfl (lv_at hl 0 rfl) ?_
    refine va_get (D := D) (ci := 3) (v := .ref (M 10)) (C := RX3) (T := TX3) (N := 17) hx hb hts (fun _ h => List.mem_cons_of_mem _ (List.mem_append_right _ h)) hown hK hP 0 rfl rfl 10 (by decide) (hts _ fl_X3_needed_31) (fun _ h9 => h9) rfl dX3_needed_11 ?_
    refine lv_iload_n hx hb dX3_needed_14 rfl (lv_at hl 1 rfl) ?_
    refine r_iald hx hb hK hP 8 0 rfl rfl (Nat.le_of_ble_eq_true rfl) (by omega) dX3_needed_15 ?_
    have hv2 := hB10 w
    refine lv_istore_n (lv' := [(3, .int (iI (μ 10 w))), (0, .ref (M 100)), (1, .int (iI w)), (2, .int (iI b))]) hx hb dX3_needed_16 rfl hl (by decide) rfl (fun ls hl => ?_)
    refine lv_iconst (v := iI (-1)) hx hb dX3_needed_17 rfl ?_
    refine lv_istore (lv' := [(4, .int (iI (-1))), (3, .int (iI (μ 10 w))), (0, .ref (M 100)), (1, .int (iI w)), (2, .int (iI b))]) hx hb dX3_needed_18 hl (by decide) rfl (fun ls hl => ?_)
    refine lv_iconst (v := iI 0) hx hb dX3_needed_20 rfl ?_
    refine lv_istore (lv' := [(5, .int (iI 0)), (4, .int (iI (-1))), (3, .int (iI (μ 10 w))), (0, .ref (M 100)), (1, .int (iI w)), (2, .int (iI b))]) hx hb dX3_needed_21 hl (by decide) rfl (fun ls hl => ?_)
    have lp23_3 : ∀ (nlp23_3 : Nat) (i : Int) (f : Int) (g : (Int → Int)) (H : Heap) (locs : List Loc) (ls : Array Slot), (0 ≤ i ∧ i ≤ 305 ∧ i % 5 = 0) → (∀ k, k ≠ w → g k = μ 10 k) → (∀ k, 0 ≤ g k ∧ g k ≤ 300) → ((f = -1 ∧ mLeast μ w b = ft (fun j => decide (mNone (su μ 10 (up (μ 10) w (5 * j))) b ≠ 0)) (fun j => 5 * j) (-1) (i / 5) 61) ∨ (0 ≤ f ∧ f ≤ 300 ∧ mLeast μ w b = f)) → va_P D vwCl (wM cy M (su μ 10 g)) H → va_D AA (wM cy M (su μ 10 g)) → va_S AA s.heap H locs → (305 - i < (nlp23_3 : Int)) → lv_has ls 6 [(5, .int (iI i)), (4, .int (iI f)), (3, .int (iI (μ 10 w))), (0, .ref (M 100)), (1, .int (iI w)), (2, .int (iI b))] → W p l e ({ frames := 6, cells := 0, slots := 0, locals := 173 } : Room) s m ([.ref (M 100), .int (iI w), .int (iI b)] : List Value).toArray below meth c H locs 0 0 (MQ below (va_Qi (fun r (u : Unit) => r = iI ((fun _ : Unit => (if 0 ≤ w ∧ w < μ 8 0 then mLeast μ w b else -1)) u) ∧ (fun _ : Unit => True) u) (fun (u : Unit) tz => va_P D vwCl ((fun _ : Unit => wM cy M μ) u) tz.heap) AA) ([.ref (M 100), .int (iI w), .int (iI b)] : List Value).toArray s 0 0 AA) (F0 m 23 ls []) := by
      intro nlp23_3
      induction nlp23_3 with
      | zero => intro i f g H locs ls hi hg hgb hf hP hD hS hn hl; exact absurd hn (by omega)
      | succ nlp23_3 ihlp23_3 =>
        intro i f g H locs ls hi hg hgb hf hP hD hS hn hl
        refine lv_iload hx hb dX3_needed_23 (lv_at hl 0 rfl) ?_
        refine lv_sipush (v := iI 300) hx hb dX3_needed_25 (by decide +kernel) ?_
        refine r_icmp_gt (tgt := 66) hx hb dX3_needed_28 (by decide) (by omega) (by omega) (fun h4 => ?_) (fun h4 => ?_)
        · -- 28 to 66
          refine lv_aload_n hx hb dX3_needed_66 rfl (lv_at hl 3 rfl) ?_
          refine va_get (D := D) (ci := 3) (v := .ref (M 10)) (C := RX3) (T := TX3) (N := 17) hx hb hts (fun _ h => List.mem_cons_of_mem _ (List.mem_append_right _ h)) hown hK hP 0 rfl rfl 10 (by decide) (hts _ fl_X3_needed_31) (fun _ h9 => h9) rfl dX3_needed_67 ?_
          refine lv_iload_n hx hb dX3_needed_70 rfl (lv_at hl 4 rfl) ?_
          refine lv_iload_n hx hb dX3_needed_71 rfl (lv_at hl 2 rfl) ?_
          refine r_iast hx hb hK hP hD hS 8 0 rfl rfl (Nat.le_of_ble_eq_true rfl) (by omega) dX3_needed_72 (fun H locs hP hD hS => ?_)
          have hP : va_P D vwCl (wM cy M (su (su μ 10 g) 10 (up g w (μ 10 w)))) H := hP
          have hD : va_D AA (wM cy M (su (su μ 10 g) 10 (up g w (μ 10 w)))) := hD
          refine lv_iload hx hb dX3_needed_73 (lv_at hl 1 rfl) ?_
          exact r_retM () hx hb hr hlocks hS dX3_needed_75 (by rw [if_pos (by omega)]; exact hf.elim (fun q => by rw [q.2, q.1, ft_end _ _ _ (by omega)]) (fun q => q.2.2.symm)) trivial (by rw [su_su, up_back hg, su_id] at hP; exact hP)
        · -- 28 to 31
          refine lv_iload hx hb dX3_needed_31 (lv_at hl 1 rfl) ?_
          refine r_if_ge (tgt := 66) hx hb dX3_needed_33 (by decide) (by omega) (fun h5 => ?_) (fun h5 => ?_)
          · -- 33 to 66
            refine lv_aload_n hx hb dX3_needed_66 rfl (lv_at hl 3 rfl) ?_
            refine va_get (D := D) (ci := 3) (v := .ref (M 10)) (C := RX3) (T := TX3) (N := 17) hx hb hts (fun _ h => List.mem_cons_of_mem _ (List.mem_append_right _ h)) hown hK hP 0 rfl rfl 10 (by decide) (hts _ fl_X3_needed_31) (fun _ h9 => h9) rfl dX3_needed_67 ?_
            refine lv_iload_n hx hb dX3_needed_70 rfl (lv_at hl 4 rfl) ?_
            refine lv_iload_n hx hb dX3_needed_71 rfl (lv_at hl 2 rfl) ?_
            refine r_iast hx hb hK hP hD hS 8 0 rfl rfl (Nat.le_of_ble_eq_true rfl) (by omega) dX3_needed_72 (fun H locs hP hD hS => ?_)
            have hP : va_P D vwCl (wM cy M (su (su μ 10 g) 10 (up g w (μ 10 w)))) H := hP
            have hD : va_D AA (wM cy M (su (su μ 10 g) 10 (up g w (μ 10 w)))) := hD
            refine lv_iload hx hb dX3_needed_73 (lv_at hl 1 rfl) ?_
            exact r_retM () hx hb hr hlocks hS dX3_needed_75 (by rw [if_pos (by omega)]; exact hf.elim (fun q => by rw [q.2, q.1, ft_end _ _ _ (by omega)]) (fun q => q.2.2.symm)) trivial (by rw [su_su, up_back hg, su_id] at hP; exact hP)
          · -- 33 to 36
            refine lv_aload_n hx hb dX3_needed_36 rfl (lv_at hl 3 rfl) ?_
            refine va_get (D := D) (ci := 3) (v := .ref (M 10)) (C := RX3) (T := TX3) (N := 17) hx hb hts (fun _ h => List.mem_cons_of_mem _ (List.mem_append_right _ h)) hown hK hP 0 rfl rfl 10 (by decide) (hts _ fl_X3_needed_31) (fun _ h9 => h9) rfl dX3_needed_37 ?_
            refine lv_iload_n hx hb dX3_needed_40 rfl (lv_at hl 4 rfl) ?_
            refine lv_iload hx hb dX3_needed_41 (lv_at hl 0 rfl) ?_
            refine r_iast hx hb hK hP hD hS 8 0 rfl rfl (Nat.le_of_ble_eq_true rfl) (by omega) dX3_needed_43 (fun H locs hP hD hS => ?_)
            have hP : va_P D vwCl (wM cy M (su (su μ 10 g) 10 (up g w i))) H := hP
            have hD : va_D AA (wM cy M (su (su μ 10 g) 10 (up g w i))) := hD
            refine lv_aload_n hx hb dX3_needed_44 rfl (lv_at hl 3 rfl) ?_
            refine lv_iload_n hx hb dX3_needed_45 rfl (lv_at hl 5 rfl) ?_
            refine r_calli (va_runV (As := [.int (iI b)]) (rest := []) ⟨hx, hb, hml, hown, hts⟩ (c_X3_isQuiet l D cy M (su (su μ 10 g) 10 (up g w i)) b (ivM_10 (ivM_10 hI hgb) (up_bd hgb (by omega))) hb0) (cwV 1 hts gX3_needed_X3_isQuiet rfl rfl rfl (by decide +kernel) ⟨Nat.le_of_ble_eq_true rfl, Nat.le_of_ble_eq_true rfl⟩) (pv_ro (C := RX3) (T := TX3) (N := 17) (ci := 3) (q0 := 0) hP hK rfl rfl) rfl rfl hl.1 rfl (lv_room (Nat.le_of_ble_eq_true rfl)) dX3_needed_46 ⟨Nat.le_of_ble_eq_true rfl, Nat.le_of_ble_eq_true rfl⟩) ?_
            have hf6 := mNone_01 (su (su μ 10 g) 10 (up g w i)) b
            have hNe := mNone_10 μ hg i b
            refine r_if_eq (tgt := 57) hx hb dX3_needed_49 (by decide) (by omega) (fun h8 => ?_) (fun h8 => ?_)
            · -- 49 to 57
              refine lv_iconst (v := iI (-1)) hx hb dX3_needed_57 rfl ?_
              refine lv_istore (lv' := [(4, .int (iI (-1))), (5, .int (iI i)), (3, .int (iI (μ 10 w))), (0, .ref (M 100)), (1, .int (iI w)), (2, .int (iI b))]) hx hb dX3_needed_58 hl (by decide) rfl (fun ls hl => ?_)
              refine r_iinc (a := i) (b := (i + 5)) (lv2 := [(5, .int (iI (i + 5))), (4, .int (iI (-1))), (3, .int (iI (μ 10 w))), (0, .ref (M 100)), (1, .int (iI w)), (2, .int (iI b))]) hx hb dX3_needed_60 hl (k := 1) rfl (by omega) (by decide) rfl (fun ls hl => ?_)
              refine lv_goto (tgt := 23) hx hb dX3_needed_63 (by decide) ?_
              exact ihlp23_3 (i + 5) (-1) (up g w i) _ _ ls (by omega) (fun k hk => by rw [up_n _ _ hk]; exact hg k hk) (up_bd hgb (by omega)) (by first | exact mlst_a hNe hi (by omega) hf (by omega) (by omega) | exact mlst_b hNe hi (by omega) hf (by omega) (by omega)) hP hD hS (by omega) (lv_sub hl [0, 1, 2, 3, 4, 5] rfl)
            · -- 49 to 52
              refine lv_iload hx hb dX3_needed_52 (lv_at hl 0 rfl) ?_
              refine lv_goto (tgt := 58) hx hb dX3_needed_54 (by decide) ?_
              refine lv_istore (lv' := [(4, .int (iI i)), (5, .int (iI i)), (3, .int (iI (μ 10 w))), (0, .ref (M 100)), (1, .int (iI w)), (2, .int (iI b))]) hx hb dX3_needed_58 hl (by decide) rfl (fun ls hl => ?_)
              refine r_iinc (a := i) (b := (i + 5)) (lv2 := [(5, .int (iI (i + 5))), (4, .int (iI i)), (3, .int (iI (μ 10 w))), (0, .ref (M 100)), (1, .int (iI w)), (2, .int (iI b))]) hx hb dX3_needed_60 hl (k := 1) rfl (by omega) (by decide) rfl (fun ls hl => ?_)
              refine lv_goto (tgt := 23) hx hb dX3_needed_63 (by decide) ?_
              exact ihlp23_3 (i + 5) i (up g w i) _ _ ls (by omega) (fun k hk => by rw [up_n _ _ hk]; exact hg k hk) (up_bd hgb (by omega)) (by first | exact mlst_a hNe hi (by omega) hf (by omega) (by omega) | exact mlst_b hNe hi (by omega) hf (by omega) (by omega)) hP hD hS (by omega) (lv_sub hl [0, 1, 2, 3, 4, 5] rfl)
    exact lp23_3 _ 0 (-1) (μ 10) s.heap [] ls (by omega) (fun _ _ => rfl) hB10 (Or.inl ⟨rfl, rfl⟩) hP hD hS (lt_tn _) (lv_sub hl [0, 1, 2, 3, 4, 5] rfl)
  · -- 5 to 8
    refine lv_iconst (v := iI (-1)) hx hb dX3_needed_8 rfl ?_
    exact r_retM () hx hb hr hlocks hS dX3_needed_9 (by rw [if_neg (by omega)]) trivial hP
