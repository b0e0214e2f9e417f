/-! THE CLASS: its face -/
set_option maxHeartbeats 4000000 in
set_option maxRecDepth 100000 in
theorem c_X2_isWithin (l : Launch) (a b z : Int) (hza : I32 a) (hzb : I32 b) (hzz : I32 z) : MetS l yX2_isWithin wsX2_isWithin ({ frames := 0, cells := 0, slots := 0, locals := 0 } : Room) ([.int (iI a), .int (iI b), .int (iI z)] : List Value) (bI (b ≤ a ∧ a ≤ z)) := by
  refine met_T (cc := cX2_isWithin) (maxL := 3) (ret := (some .boolean)) (by decide) rfl (Nat.le_of_ble_eq_true rfl) ?_
  intro p e s m below meth c hx hb hr hml hts hown hlocks ls hl
  have hown : s.vm.findClass RX2 = some m.cls := hown
  have hl : lv_has ls 3 [(0, .int (iI a)), (1, .int (iI b)), (2, .int (iI z))] := hl
  refine lv_iload_n hx hb dX2_isWithin_0 rfl (lv_at hl 0 rfl) ?_
  refine lv_iload_n hx hb dX2_isWithin_1 rfl (lv_at hl 1 rfl) ?_
  refine r_icmp_lt (tgt := 14) hx hb dX2_isWithin_2 (by decide) (by omega) (by omega) (fun h1 => ?_) (fun h1 => ?_)
  · -- 2 to 14
    refine lv_iconst (v := iI 0) hx hb dX2_isWithin_14 rfl ?_
    exact r_retZ hx hb hr hlocks dX2_isWithin_15 (zn_of (by omega)) (by first | rfl | exact (bI_t (by omega)).symm | exact (bI_f (by omega)).symm)
  · -- 2 to 5
    refine lv_iload_n hx hb dX2_isWithin_5 rfl (lv_at hl 0 rfl) ?_
    refine lv_iload_n hx hb dX2_isWithin_6 rfl (lv_at hl 2 rfl) ?_
    refine r_icmp_gt (tgt := 14) hx hb dX2_isWithin_7 (by decide) (by omega) (by omega) (fun h2 => ?_) (fun h2 => ?_)
    · -- 7 to 14
      refine lv_iconst (v := iI 0) hx hb dX2_isWithin_14 rfl ?_
      exact r_retZ hx hb hr hlocks dX2_isWithin_15 (zn_of (by omega)) (by first | rfl | exact (bI_t (by omega)).symm | exact (bI_f (by omega)).symm)
    · -- 7 to 10
      refine lv_iconst (v := iI 1) hx hb dX2_isWithin_10 rfl ?_
      refine lv_goto (tgt := 15) hx hb dX2_isWithin_11 (by decide) ?_
      exact r_retZ hx hb hr hlocks dX2_isWithin_15 (zn_of (by omega)) (by first | rfl | exact (bI_t (by omega)).symm | exact (bI_f (by omega)).symm)
set_option maxHeartbeats 4000000 in
set_option maxRecDepth 100000 in
theorem c_X2_isPoint (l : Launch) (a b : Int) (hza : I32 a) (hzb : I32 b) : MetS l yX2_isPoint wsX2_isPoint ({ frames := 1, cells := 0, slots := 0, locals := 22 } : Room) ([.int (iI a), .int (iI b)] : List Value) (bI ((-5000 ≤ a ∧ a ≤ 5000) ∧ (-5000 ≤ b ∧ b ≤ 5000))) := by
  refine met_T (cc := cX2_isPoint) (maxL := 2) (ret := (some .boolean)) (by decide) rfl (Nat.le_of_ble_eq_true rfl) ?_
  intro p e s m below meth c hx hb hr hml hts hown hlocks ls hl
  have hown : s.vm.findClass RX2 = some m.cls := hown
  have hl : lv_has ls 2 [(0, .int (iI a)), (1, .int (iI b))] := hl
  refine lv_iload_n hx hb dX2_isPoint_0 rfl (lv_at hl 0 rfl) ?_
  refine lv_sipush (v := iI (-5000)) hx hb dX2_isPoint_1 (by decide +kernel) ?_
  refine lv_sipush (v := iI 5000) hx hb dX2_isPoint_4 (by decide +kernel) ?_
  refine r_calli (va_runS (As := [.int (iI a), .int (iI (-5000)), .int (iI 5000)]) (rest := []) ⟨hx, hb, hml, hown, hts⟩ (c_X2_isWithin l  a (-5000) 5000 (by omega) (by omega) (by omega)) (va_cwS 3 hts gX2_isPoint_X2_isWithin rfl rfl rfl (by decide +kernel) ⟨Nat.le_of_ble_eq_true rfl, Nat.le_of_ble_eq_true rfl⟩) ps_T rfl rfl hl.1 rfl (lv_room (Nat.le_of_ble_eq_true rfl)) dX2_isPoint_7 ⟨Nat.le_of_ble_eq_true rfl, Nat.le_of_ble_eq_true rfl⟩) ?_
  refine r_ifB_eq (tgt := 30) hx hb dX2_isPoint_10 (by decide) (fun h1 => ?_) (fun h1 => ?_)
  · -- 10 to 30
    refine lv_iconst (v := iI 0) hx hb dX2_isPoint_30 rfl ?_
    exact r_retZ hx hb hr hlocks dX2_isPoint_31 (zn_of (by omega)) (by first | rfl | exact (bI_t (by omega)).symm | exact (bI_f (by omega)).symm)
  · -- 10 to 13
    refine lv_iload_n hx hb dX2_isPoint_13 rfl (lv_at hl 1 rfl) ?_
    refine lv_sipush (v := iI (-5000)) hx hb dX2_isPoint_14 (by decide +kernel) ?_
    refine lv_sipush (v := iI 5000) hx hb dX2_isPoint_17 (by decide +kernel) ?_
    refine r_calli (va_runS (As := [.int (iI b), .int (iI (-5000)), .int (iI 5000)]) (rest := []) ⟨hx, hb, hml, hown, hts⟩ (c_X2_isWithin l  b (-5000) 5000 (by omega) (by omega) (by omega)) (va_cwS 3 hts gX2_isPoint_X2_isWithin rfl rfl rfl (by decide +kernel) ⟨Nat.le_of_ble_eq_true rfl, Nat.le_of_ble_eq_true rfl⟩) ps_T rfl rfl hl.1 rfl (lv_room (Nat.le_of_ble_eq_true rfl)) dX2_isPoint_20 ⟨Nat.le_of_ble_eq_true rfl, Nat.le_of_ble_eq_true rfl⟩) ?_
    refine r_ifB_eq (tgt := 30) hx hb dX2_isPoint_23 (by decide) (fun h2 => ?_) (fun h2 => ?_)
    · -- 23 to 30
      refine lv_iconst (v := iI 0) hx hb dX2_isPoint_30 rfl ?_
      exact r_retZ hx hb hr hlocks dX2_isPoint_31 (zn_of (by omega)) (by first | rfl | exact (bI_t (by omega)).symm | exact (bI_f (by omega)).symm)
    · -- 23 to 26
      refine lv_iconst (v := iI 1) hx hb dX2_isPoint_26 rfl ?_
      refine lv_goto (tgt := 31) hx hb dX2_isPoint_27 (by decide) ?_
      exact r_retZ hx hb hr hlocks dX2_isPoint_31 (zn_of (by omega)) (by first | rfl | exact (bI_t (by omega)).symm | exact (bI_f (by omega)).symm)
set_option maxHeartbeats 4000000 in
set_option maxRecDepth 100000 in
theorem c_X2_isLevel (l : Launch) (a : Int) (hza : I32 a) : MetS l yX2_isLevel wsX2_isLevel ({ frames := 1, cells := 0, slots := 0, locals := 22 } : Room) ([.int (iI a)] : List Value) (bI (0 ≤ a ∧ a ≤ 1200)) := by
  refine met_T (cc := cX2_isLevel) (maxL := 1) (ret := (some .boolean)) (by decide) rfl (Nat.le_of_ble_eq_true rfl) ?_
  intro p e s m below meth c hx hb hr hml hts hown hlocks ls hl
  have hown : s.vm.findClass RX2 = some m.cls := hown
  have hl : lv_has ls 1 [(0, .int (iI a))] := hl
  refine lv_iload_n hx hb dX2_isLevel_0 rfl (lv_at hl 0 rfl) ?_
  refine lv_iconst (v := iI 0) hx hb dX2_isLevel_1 rfl ?_
  refine lv_sipush (v := iI 1200) hx hb dX2_isLevel_2 (by decide +kernel) ?_
  refine r_calli (va_runS (As := [.int (iI a), .int (iI 0), .int (iI 1200)]) (rest := []) ⟨hx, hb, hml, hown, hts⟩ (c_X2_isWithin l  a 0 1200 (by omega) (by omega) (by omega)) (va_cwS 3 hts gX2_isLevel_X2_isWithin rfl rfl rfl (by decide +kernel) ⟨Nat.le_of_ble_eq_true rfl, Nat.le_of_ble_eq_true rfl⟩) ps_T rfl rfl hl.1 rfl (lv_room (Nat.le_of_ble_eq_true rfl)) dX2_isLevel_5 ⟨Nat.le_of_ble_eq_true rfl, Nat.le_of_ble_eq_true rfl⟩) ?_
  exact r_retZ hx hb hr hlocks dX2_isLevel_8 (zn_b _) rfl
set_option maxHeartbeats 4000000 in
set_option maxRecDepth 100000 in
theorem c_X2_isCut (l : Launch) (a : Int) (hza : I32 a) : MetS l yX2_isCut wsX2_isCut ({ frames := 1, cells := 0, slots := 0, locals := 22 } : Room) ([.int (iI a)] : List Value) (bI (0 ≤ a ∧ a ≤ 300)) := by
  refine met_T (cc := cX2_isCut) (maxL := 1) (ret := (some .boolean)) (by decide) rfl (Nat.le_of_ble_eq_true rfl) ?_
  intro p e s m below meth c hx hb hr hml hts hown hlocks ls hl
  have hown : s.vm.findClass RX2 = some m.cls := hown
  have hl : lv_has ls 1 [(0, .int (iI a))] := hl
  refine lv_iload_n hx hb dX2_isCut_0 rfl (lv_at hl 0 rfl) ?_
  refine lv_iconst (v := iI 0) hx hb dX2_isCut_1 rfl ?_
  refine lv_sipush (v := iI 300) hx hb dX2_isCut_2 (by decide +kernel) ?_
  refine r_calli (va_runS (As := [.int (iI a), .int (iI 0), .int (iI 300)]) (rest := []) ⟨hx, hb, hml, hown, hts⟩ (c_X2_isWithin l  a 0 300 (by omega) (by omega) (by omega)) (va_cwS 3 hts gX2_isCut_X2_isWithin rfl rfl rfl (by decide +kernel) ⟨Nat.le_of_ble_eq_true rfl, Nat.le_of_ble_eq_true rfl⟩) ps_T rfl rfl hl.1 rfl (lv_room (Nat.le_of_ble_eq_true rfl)) dX2_isCut_5 ⟨Nat.le_of_ble_eq_true rfl, Nat.le_of_ble_eq_true rfl⟩) ?_
  exact r_retZ hx hb hr hlocks dX2_isCut_8 (zn_b _) rfl
set_option maxHeartbeats 4000000 in
set_option maxRecDepth 100000 in
theorem c_X2_isPart (l : Launch) (a : Int) (hza : I32 a) : MetS l yX2_isPart wsX2_isPart ({ frames := 1, cells := 0, slots := 0, locals := 22 } : Room) ([.int (iI a)] : List Value) (bI (0 ≤ a ∧ a ≤ 2)) := by
  refine met_T (cc := cX2_isPart) (maxL := 1) (ret := (some .boolean)) (by decide) rfl (Nat.le_of_ble_eq_true rfl) ?_
  intro p e s m below meth c hx hb hr hml hts hown hlocks ls hl
  have hown : s.vm.findClass RX2 = some m.cls := hown
  have hl : lv_has ls 1 [(0, .int (iI a))] := hl
  refine lv_iload_n hx hb dX2_isPart_0 rfl (lv_at hl 0 rfl) ?_
  refine lv_iconst (v := iI 0) hx hb dX2_isPart_1 rfl ?_
  refine lv_iconst (v := iI 2) hx hb dX2_isPart_2 rfl ?_
  refine r_calli (va_runS (As := [.int (iI a), .int (iI 0), .int (iI 2)]) (rest := []) ⟨hx, hb, hml, hown, hts⟩ (c_X2_isWithin l  a 0 2 (by omega) (by omega) (by omega)) (va_cwS 3 hts gX2_isPart_X2_isWithin rfl rfl rfl (by decide +kernel) ⟨Nat.le_of_ble_eq_true rfl, Nat.le_of_ble_eq_true rfl⟩) ps_T rfl rfl hl.1 rfl (lv_room (Nat.le_of_ble_eq_true rfl)) dX2_isPart_3 ⟨Nat.le_of_ble_eq_true rfl, Nat.le_of_ble_eq_true rfl⟩) ?_
  exact r_retZ hx hb hr hlocks dX2_isPart_6 (zn_b _) rfl
set_option maxHeartbeats 4000000 in
set_option maxRecDepth 100000 in
theorem c_X2_isHour (l : Launch) (a : Int) (hza : I32 a) : MetS l yX2_isHour wsX2_isHour ({ frames := 1, cells := 0, slots := 0, locals := 22 } : Room) ([.int (iI a)] : List Value) (bI (0 ≤ a ∧ a ≤ 23)) := by
  refine met_T (cc := cX2_isHour) (maxL := 1) (ret := (some .boolean)) (by decide) rfl (Nat.le_of_ble_eq_true rfl) ?_
  intro p e s m below meth c hx hb hr hml hts hown hlocks ls hl
  have hown : s.vm.findClass RX2 = some m.cls := hown
  have hl : lv_has ls 1 [(0, .int (iI a))] := hl
  refine lv_iload_n hx hb dX2_isHour_0 rfl (lv_at hl 0 rfl) ?_
  refine lv_iconst (v := iI 0) hx hb dX2_isHour_1 rfl ?_
  refine lv_bipush (v := iI 23) hx hb dX2_isHour_2 (by decide +kernel) ?_
  refine r_calli (va_runS (As := [.int (iI a), .int (iI 0), .int (iI 23)]) (rest := []) ⟨hx, hb, hml, hown, hts⟩ (c_X2_isWithin l  a 0 23 (by omega) (by omega) (by omega)) (va_cwS 3 hts gX2_isHour_X2_isWithin rfl rfl rfl (by decide +kernel) ⟨Nat.le_of_ble_eq_true rfl, Nat.le_of_ble_eq_true rfl⟩) ps_T rfl rfl hl.1 rfl (lv_room (Nat.le_of_ble_eq_true rfl)) dX2_isHour_4 ⟨Nat.le_of_ble_eq_true rfl, Nat.le_of_ble_eq_true rfl⟩) ?_
  exact r_retZ hx hb hr hlocks dX2_isHour_7 (zn_b _) rfl
set_option maxHeartbeats 4000000 in
set_option maxRecDepth 100000 in
theorem c_X2_isSpacing (l : Launch) (a : Int) (hza : I32 a) : MetS l yX2_isSpacing wsX2_isSpacing ({ frames := 1, cells := 0, slots := 0, locals := 22 } : Room) ([.int (iI a)] : List Value) (bI (10 ≤ a ∧ a ≤ 600)) := by
  refine met_T (cc := cX2_isSpacing) (maxL := 1) (ret := (some .boolean)) (by decide) rfl (Nat.le_of_ble_eq_true rfl) ?_
  intro p e s m below meth c hx hb hr hml hts hown hlocks ls hl
  have hown : s.vm.findClass RX2 = some m.cls := hown
  have hl : lv_has ls 1 [(0, .int (iI a))] := hl
  refine lv_iload_n hx hb dX2_isSpacing_0 rfl (lv_at hl 0 rfl) ?_
  refine lv_bipush (v := iI 10) hx hb dX2_isSpacing_1 (by decide +kernel) ?_
  refine lv_sipush (v := iI 600) hx hb dX2_isSpacing_3 (by decide +kernel) ?_
  refine r_calli (va_runS (As := [.int (iI a), .int (iI 10), .int (iI 600)]) (rest := []) ⟨hx, hb, hml, hown, hts⟩ (c_X2_isWithin l  a 10 600 (by omega) (by omega) (by omega)) (va_cwS 3 hts gX2_isSpacing_X2_isWithin rfl rfl rfl (by decide +kernel) ⟨Nat.le_of_ble_eq_true rfl, Nat.le_of_ble_eq_true rfl⟩) ps_T rfl rfl hl.1 rfl (lv_room (Nat.le_of_ble_eq_true rfl)) dX2_isSpacing_6 ⟨Nat.le_of_ble_eq_true rfl, Nat.le_of_ble_eq_true rfl⟩) ?_
  exact r_retZ hx hb hr hlocks dX2_isSpacing_9 (zn_b _) rfl
set_option maxHeartbeats 4000000 in
set_option maxRecDepth 100000 in
theorem c_X2_isWire (l : Launch) (a b : Int) (hza : I32 a) (hzb : I32 b) : MetS l yX2_isWire wsX2_isWire ({ frames := 1, cells := 0, slots := 0, locals := 22 } : Room) ([.int (iI a), .int (iI b)] : List Value) (bI ((0 ≤ a ∧ a ≤ 20000) ∧ (0 ≤ b ∧ b ≤ 10000))) := by
  refine met_T (cc := cX2_isWire) (maxL := 2) (ret := (some .boolean)) (by decide) rfl (Nat.le_of_ble_eq_true rfl) ?_
  intro p e s m below meth c hx hb hr hml hts hown hlocks ls hl
  have hown : s.vm.findClass RX2 = some m.cls := hown
  have hl : lv_has ls 2 [(0, .int (iI a)), (1, .int (iI b))] := hl
  refine lv_iload_n hx hb dX2_isWire_0 rfl (lv_at hl 0 rfl) ?_
  refine lv_iconst (v := iI 0) hx hb dX2_isWire_1 rfl ?_
  refine lv_sipush (v := iI 20000) hx hb dX2_isWire_2 (by decide +kernel) ?_
  refine r_calli (va_runS (As := [.int (iI a), .int (iI 0), .int (iI 20000)]) (rest := []) ⟨hx, hb, hml, hown, hts⟩ (c_X2_isWithin l  a 0 20000 (by omega) (by omega) (by omega)) (va_cwS 3 hts gX2_isWire_X2_isWithin rfl rfl rfl (by decide +kernel) ⟨Nat.le_of_ble_eq_true rfl, Nat.le_of_ble_eq_true rfl⟩) ps_T rfl rfl hl.1 rfl (lv_room (Nat.le_of_ble_eq_true rfl)) dX2_isWire_5 ⟨Nat.le_of_ble_eq_true rfl, Nat.le_of_ble_eq_true rfl⟩) ?_
  refine r_ifB_eq (tgt := 26) hx hb dX2_isWire_8 (by decide) (fun h1 => ?_) (fun h1 => ?_)
  · -- 8 to 26
    refine lv_iconst (v := iI 0) hx hb dX2_isWire_26 rfl ?_
    exact r_retZ hx hb hr hlocks dX2_isWire_27 (zn_of (by omega)) (by first | rfl | exact (bI_t (by omega)).symm | exact (bI_f (by omega)).symm)
  · -- 8 to 11
    refine lv_iload_n hx hb dX2_isWire_11 rfl (lv_at hl 1 rfl) ?_
    refine lv_iconst (v := iI 0) hx hb dX2_isWire_12 rfl ?_
    refine lv_sipush (v := iI 10000) hx hb dX2_isWire_13 (by decide +kernel) ?_
    refine r_calli (va_runS (As := [.int (iI b), .int (iI 0), .int (iI 10000)]) (rest := []) ⟨hx, hb, hml, hown, hts⟩ (c_X2_isWithin l  b 0 10000 (by omega) (by omega) (by omega)) (va_cwS 3 hts gX2_isWire_X2_isWithin rfl rfl rfl (by decide +kernel) ⟨Nat.le_of_ble_eq_true rfl, Nat.le_of_ble_eq_true rfl⟩) ps_T rfl rfl hl.1 rfl (lv_room (Nat.le_of_ble_eq_true rfl)) dX2_isWire_16 ⟨Nat.le_of_ble_eq_true rfl, Nat.le_of_ble_eq_true rfl⟩) ?_
    refine r_ifB_eq (tgt := 26) hx hb dX2_isWire_19 (by decide) (fun h2 => ?_) (fun h2 => ?_)
    · -- 19 to 26
      refine lv_iconst (v := iI 0) hx hb dX2_isWire_26 rfl ?_
      exact r_retZ hx hb hr hlocks dX2_isWire_27 (zn_of (by omega)) (by first | rfl | exact (bI_t (by omega)).symm | exact (bI_f (by omega)).symm)
    · -- 19 to 22
      refine lv_iconst (v := iI 1) hx hb dX2_isWire_22 rfl ?_
      refine lv_goto (tgt := 27) hx hb dX2_isWire_23 (by decide) ?_
      exact r_retZ hx hb hr hlocks dX2_isWire_27 (zn_of (by omega)) (by first | rfl | exact (bI_t (by omega)).symm | exact (bI_f (by omega)).symm)
theorem fl_X2_gives_10 : Cond.fieldLink RX2 10 "NoiseLamps" "noise" "LNoiseLamps$Noise;" ∈ wsX2_gives := by decide +kernel
set_option maxHeartbeats 4000000 in
set_option maxRecDepth 100000 in
theorem c_X2_gives (l : Launch) (D : va_G) (cy : ClassId) (x : Nat) (A B : Nat → Nat) (σ τ : Nat → Int → Int) (a b t : Int) (hI : invN σ) (hJ : invL τ) (hd : ∀ k, I32 (σ 18 k)) (hza : I32 a) (hzb : I32 b) (hzt : I32 t) : MetR l yX2_gives wsX2_gives ({ frames := 2, cells := 0, slots := 0, locals := 49 } : Room) D cy (wP cy x A B σ τ) ([.ref x, .int (iI a), .int (iI b), .int (iI t)] : List Value) (if (0 ≤ a ∧ a < σ 0 0) ∧ (0 ≤ b ∧ b < σ 4 0) ∧ (0 ≤ t ∧ t ≤ 2) then nGiven σ a b t else -1) := by
  refine met_R (cc := cX2_gives) (maxL := 4) (ret := (some .int)) (by decide) rfl (Nat.le_of_ble_eq_true rfl) ?_
  intro p e s m below meth c hx hb hr hml hts hown hlocks hP hK ls hl
  have hown : s.vm.findClass RX2 = some m.cls := hown
  have hl : lv_has ls 4 [(0, .ref x), (1, .int (iI a)), (2, .int (iI b)), (3, .int (iI t))] := hl
  obtain ⟨hN0, hN4, hN8, hN14, hB1, hB2, hB3, hB5, hB6, hB7, hB9, hB10, hB11, hB12, hB13, hB15, hB16, hB17⟩ := id hI
  obtain ⟨hL3, hB0, hC1, hC2⟩ := id hJ
  refine lv_aload_n hx hb dX2_gives_0 rfl (lv_at hl 0 rfl) ?_
  refine va_get (D := D) (ci := 2) (v := .ref (A 100)) (C := RX2) (T := TX2) (N := 2) hx hb hts (fun _ h => List.mem_cons_of_mem _ (List.mem_append_left _ (List.mem_append_right _ h))) hown hK hP 0 rfl rfl 0 (by decide) (hts _ fl_X2_gives_10) (fun _ h9 => h9) rfl dX2_gives_1 ?_
  refine lv_iload_n hx hb dX2_gives_4 rfl (lv_at hl 1 rfl) ?_
  refine r_calli (va_runV (As := [.int (iI a)]) (rest := []) ⟨hx, hb, hml, hown, hts⟩ (c_X1_hasPiece l D cy A σ a hI (by omega)) (cwV 1 hts gX2_gives_X1_hasPiece rfl rfl rfl (by decide +kernel) ⟨Nat.le_of_ble_eq_true rfl, Nat.le_of_ble_eq_true rfl⟩) (pv_ro (C := RX1) (T := TX1) (N := 19) (ci := 1) (q0 := 0) (vpL (a := wN cy A σ) (b := wL cy B τ) (vpR (a := wX x A B) hP)) hK rfl rfl) rfl rfl hl.1 rfl (lv_room (Nat.le_of_ble_eq_true rfl)) dX2_gives_5 ⟨Nat.le_of_ble_eq_true rfl, Nat.le_of_ble_eq_true rfl⟩) ?_
  refine r_ifB_eq (tgt := 29) hx hb dX2_gives_8 (by decide) (fun h1 => ?_) (fun h1 => ?_)
  · -- 8 to 29
    refine lv_iconst (v := iI (-1)) hx hb dX2_gives_29 rfl ?_
    exact r_ret hx hb hr hlocks dX2_gives_30 (by first | rw [if_pos (by omega)] | rw [if_neg (by omega)])
  · -- 8 to 11
    refine lv_aload_n hx hb dX2_gives_11 rfl (lv_at hl 0 rfl) ?_
    refine va_get (D := D) (ci := 2) (v := .ref (A 100)) (C := RX2) (T := TX2) (N := 2) hx hb hts (fun _ h => List.mem_cons_of_mem _ (List.mem_append_left _ (List.mem_append_right _ h))) hown hK hP 0 rfl rfl 0 (by decide) (hts _ fl_X2_gives_10) (fun _ h9 => h9) rfl dX2_gives_12 ?_
    refine lv_iload_n hx hb dX2_gives_15 rfl (lv_at hl 2 rfl) ?_
    refine r_calli (va_runV (As := [.int (iI b)]) (rest := []) ⟨hx, hb, hml, hown, hts⟩ (c_X1_hasHouse l D cy A σ b hI (by omega)) (cwV 1 hts gX2_gives_X1_hasHouse rfl rfl rfl (by decide +kernel) ⟨Nat.le_of_ble_eq_true rfl, Nat.le_of_ble_eq_true rfl⟩) (pv_ro (C := RX1) (T := TX1) (N := 19) (ci := 1) (q0 := 0) (vpL (a := wN cy A σ) (b := wL cy B τ) (vpR (a := wX x A B) hP)) hK rfl rfl) rfl rfl hl.1 rfl (lv_room (Nat.le_of_ble_eq_true rfl)) dX2_gives_16 ⟨Nat.le_of_ble_eq_true rfl, Nat.le_of_ble_eq_true rfl⟩) ?_
    refine r_ifB_eq (tgt := 29) hx hb dX2_gives_19 (by decide) (fun h2 => ?_) (fun h2 => ?_)
    · -- 19 to 29
      refine lv_iconst (v := iI (-1)) hx hb dX2_gives_29 rfl ?_
      exact r_ret hx hb hr hlocks dX2_gives_30 (by first | rw [if_pos (by omega)] | rw [if_neg (by omega)])
    · -- 19 to 22
      refine lv_iload_n hx hb dX2_gives_22 rfl (lv_at hl 3 rfl) ?_
      refine r_calli (va_runS (As := [.int (iI t)]) (rest := []) ⟨hx, hb, hml, hown, hts⟩ (c_X2_isPart l  t (by omega)) (va_cwS 1 hts gX2_gives_X2_isPart rfl rfl rfl (by decide +kernel) ⟨Nat.le_of_ble_eq_true rfl, Nat.le_of_ble_eq_true rfl⟩) ps_T rfl rfl hl.1 rfl (lv_room (Nat.le_of_ble_eq_true rfl)) dX2_gives_23 ⟨Nat.le_of_ble_eq_true rfl, Nat.le_of_ble_eq_true rfl⟩) ?_
      refine r_ifB_ne (tgt := 31) hx hb dX2_gives_26 (by decide) (fun h3 => ?_) (fun h3 => ?_)
      · -- 26 to 31
        refine lv_aload_n hx hb dX2_gives_31 rfl (lv_at hl 0 rfl) ?_
        refine va_get (D := D) (ci := 2) (v := .ref (A 100)) (C := RX2) (T := TX2) (N := 2) hx hb hts (fun _ h => List.mem_cons_of_mem _ (List.mem_append_left _ (List.mem_append_right _ h))) hown hK hP 0 rfl rfl 0 (by decide) (hts _ fl_X2_gives_10) (fun _ h9 => h9) rfl dX2_gives_32 ?_
        refine lv_iload_n hx hb dX2_gives_35 rfl (lv_at hl 1 rfl) ?_
        refine lv_iload_n hx hb dX2_gives_36 rfl (lv_at hl 2 rfl) ?_
        refine lv_iload_n hx hb dX2_gives_37 rfl (lv_at hl 3 rfl) ?_
        refine r_calli (va_runV (As := [.int (iI a), .int (iI b), .int (iI t)]) (rest := []) ⟨hx, hb, hml, hown, hts⟩ (c_X1_given l D cy A σ a b t hI (by omega) (by omega) (by omega)) (cwV 3 hts gX2_gives_X1_given rfl rfl rfl (by decide +kernel) ⟨Nat.le_of_ble_eq_true rfl, Nat.le_of_ble_eq_true rfl⟩) (pv_ro (C := RX1) (T := TX1) (N := 19) (ci := 1) (q0 := 0) (vpL (a := wN cy A σ) (b := wL cy B τ) (vpR (a := wX x A B) hP)) hK rfl rfl) rfl rfl hl.1 rfl (lv_room (Nat.le_of_ble_eq_true rfl)) dX2_gives_38 ⟨Nat.le_of_ble_eq_true rfl, Nat.le_of_ble_eq_true rfl⟩) ?_
        have hf4 := nGiven_bd hI a b t
        exact r_ret hx hb hr hlocks dX2_gives_41 (by first | rw [if_pos (by omega)] | rw [if_neg (by omega)])
      · -- 26 to 29
        refine lv_iconst (v := iI (-1)) hx hb dX2_gives_29 rfl ?_
        exact r_ret hx hb hr hlocks dX2_gives_30 (by first | rw [if_pos (by omega)] | rw [if_neg (by omega)])
theorem fl_X2_level_10 : Cond.fieldLink RX2 10 "NoiseLamps" "noise" "LNoiseLamps$Noise;" ∈ wsX2_level := by decide +kernel
set_option maxHeartbeats 4000000 in
set_option maxRecDepth 100000 in
theorem c_X2_level (l : Launch) (D : va_G) (cy : ClassId) (x : Nat) (A B : Nat → Nat) (σ τ : Nat → Int → Int) (b t : Int) (hI : invN σ) (hJ : invL τ) (hd : ∀ k, I32 (σ 18 k)) (hzb : I32 b) (hzt : I32 t) : MetR l yX2_level wsX2_level ({ frames := 4, cells := 0, slots := 0, locals := 97 } : Room) D cy (wP cy x A B σ τ) ([.ref x, .int (iI b), .int (iI t)] : List Value) (if (0 ≤ b ∧ b < σ 4 0) ∧ (0 ≤ t ∧ t ≤ 3) then (if t = 3 then nDay σ b else nPart σ b t) else -1) := by
  refine met_R (cc := cX2_level) (maxL := 3) (ret := (some .int)) (by decide) rfl (Nat.le_of_ble_eq_true rfl) ?_
  intro p e s m below meth c hx hb hr hml hts hown hlocks hP hK ls hl
  have hown : s.vm.findClass RX2 = some m.cls := hown
  have hl : lv_has ls 3 [(0, .ref x), (1, .int (iI b)), (2, .int (iI t))] := hl
  obtain ⟨hN0, hN4, hN8, hN14, hB1, hB2, hB3, hB5, hB6, hB7, hB9, hB10, hB11, hB12, hB13, hB15, hB16, hB17⟩ := id hI
  obtain ⟨hL3, hB0, hC1, hC2⟩ := id hJ
  refine lv_aload_n hx hb dX2_level_0 rfl (lv_at hl 0 rfl) ?_
  refine va_get (D := D) (ci := 2) (v := .ref (A 100)) (C := RX2) (T := TX2) (N := 2) hx hb hts (fun _ h => List.mem_cons_of_mem _ (List.mem_append_left _ (List.mem_append_right _ h))) hown hK hP 0 rfl rfl 0 (by decide) (hts _ fl_X2_level_10) (fun _ h9 => h9) rfl dX2_level_1 ?_
  refine lv_iload_n hx hb dX2_level_4 rfl (lv_at hl 1 rfl) ?_
  refine r_calli (va_runV (As := [.int (iI b)]) (rest := []) ⟨hx, hb, hml, hown, hts⟩ (c_X1_hasHouse l D cy A σ b hI (by omega)) (cwV 1 hts gX2_level_X1_hasHouse rfl rfl rfl (by decide +kernel) ⟨Nat.le_of_ble_eq_true rfl, Nat.le_of_ble_eq_true rfl⟩) (pv_ro (C := RX1) (T := TX1) (N := 19) (ci := 1) (q0 := 0) (vpL (a := wN cy A σ) (b := wL cy B τ) (vpR (a := wX x A B) hP)) hK rfl rfl) rfl rfl hl.1 rfl (lv_room (Nat.le_of_ble_eq_true rfl)) dX2_level_5 ⟨Nat.le_of_ble_eq_true rfl, Nat.le_of_ble_eq_true rfl⟩) ?_
  refine r_ifB_ne (tgt := 13) hx hb dX2_level_8 (by decide) (fun h1 => ?_) (fun h1 => ?_)
  · -- 8 to 13
    refine lv_iload_n hx hb dX2_level_13 rfl (lv_at hl 2 rfl) ?_
    refine lv_iconst (v := iI 3) hx hb dX2_level_14 rfl ?_
    refine r_icmp_ne (tgt := 27) hx hb dX2_level_15 (by decide) (by omega) (by omega) (fun h2 => ?_) (fun h2 => ?_)
    · -- 15 to 27
      refine lv_iload_n hx hb dX2_level_27 rfl (lv_at hl 2 rfl) ?_
      refine r_calli (va_runS (As := [.int (iI t)]) (rest := []) ⟨hx, hb, hml, hown, hts⟩ (c_X2_isPart l  t (by omega)) (va_cwS 1 hts gX2_level_X2_isPart rfl rfl rfl (by decide +kernel) ⟨Nat.le_of_ble_eq_true rfl, Nat.le_of_ble_eq_true rfl⟩) ps_T rfl rfl hl.1 rfl (lv_room (Nat.le_of_ble_eq_true rfl)) dX2_level_28 ⟨Nat.le_of_ble_eq_true rfl, Nat.le_of_ble_eq_true rfl⟩) ?_
      refine r_ifB_eq (tgt := 46) hx hb dX2_level_31 (by decide) (fun h3 => ?_) (fun h3 => ?_)
      · -- 31 to 46
        refine lv_iconst (v := iI (-1)) hx hb dX2_level_46 rfl ?_
        exact r_ret hx hb hr hlocks dX2_level_47 (by first | rw [if_pos (by omega), if_pos (by omega)] | rw [if_pos (by omega), if_neg (by omega)] | rw [if_neg (by omega)])
      · -- 31 to 34
        refine lv_aload_n hx hb dX2_level_34 rfl (lv_at hl 0 rfl) ?_
        refine va_get (D := D) (ci := 2) (v := .ref (A 100)) (C := RX2) (T := TX2) (N := 2) hx hb hts (fun _ h => List.mem_cons_of_mem _ (List.mem_append_left _ (List.mem_append_right _ h))) hown hK hP 0 rfl rfl 0 (by decide) (hts _ fl_X2_level_10) (fun _ h9 => h9) rfl dX2_level_35 ?_
        refine lv_iload_n hx hb dX2_level_38 rfl (lv_at hl 1 rfl) ?_
        refine lv_iload_n hx hb dX2_level_39 rfl (lv_at hl 2 rfl) ?_
        refine r_calli (va_runV (As := [.int (iI b), .int (iI t)]) (rest := []) ⟨hx, hb, hml, hown, hts⟩ (c_X1_partLevel l D cy A σ b t hI (by omega) (by omega)) (cwV 2 hts gX2_level_X1_partLevel rfl rfl rfl (by decide +kernel) ⟨Nat.le_of_ble_eq_true rfl, Nat.le_of_ble_eq_true rfl⟩) (pv_ro (C := RX1) (T := TX1) (N := 19) (ci := 1) (q0 := 0) (vpL (a := wN cy A σ) (b := wL cy B τ) (vpR (a := wX x A B) hP)) hK rfl rfl) rfl rfl hl.1 rfl (lv_room (Nat.le_of_ble_eq_true rfl)) dX2_level_40 ⟨Nat.le_of_ble_eq_true rfl, Nat.le_of_ble_eq_true rfl⟩) ?_
        have hf4 := nPart_bd hI b t
        refine lv_goto (tgt := 47) hx hb dX2_level_43 (by decide) ?_
        exact r_ret hx hb hr hlocks dX2_level_47 (by first | rw [if_pos (by omega), if_pos (by omega)] | rw [if_pos (by omega), if_neg (by omega)] | rw [if_neg (by omega)])
    · -- 15 to 18
      refine lv_aload_n hx hb dX2_level_18 rfl (lv_at hl 0 rfl) ?_
      refine va_get (D := D) (ci := 2) (v := .ref (A 100)) (C := RX2) (T := TX2) (N := 2) hx hb hts (fun _ h => List.mem_cons_of_mem _ (List.mem_append_left _ (List.mem_append_right _ h))) hown hK hP 0 rfl rfl 0 (by decide) (hts _ fl_X2_level_10) (fun _ h9 => h9) rfl dX2_level_19 ?_
      refine lv_iload_n hx hb dX2_level_22 rfl (lv_at hl 1 rfl) ?_
      refine r_calli (va_runV (As := [.int (iI b)]) (rest := []) ⟨hx, hb, hml, hown, hts⟩ (c_X1_allDayLevel l D cy A σ b hI (by omega)) (cwV 1 hts gX2_level_X1_allDayLevel rfl rfl rfl (by decide +kernel) ⟨Nat.le_of_ble_eq_true rfl, Nat.le_of_ble_eq_true rfl⟩) (pv_ro (C := RX1) (T := TX1) (N := 19) (ci := 1) (q0 := 0) (vpL (a := wN cy A σ) (b := wL cy B τ) (vpR (a := wX x A B) hP)) hK rfl rfl) rfl rfl hl.1 rfl (lv_room (Nat.le_of_ble_eq_true rfl)) dX2_level_23 ⟨Nat.le_of_ble_eq_true rfl, Nat.le_of_ble_eq_true rfl⟩) ?_
      have hf5 := nDay_bd hI b
      exact r_ret hx hb hr hlocks dX2_level_26 (by first | rw [if_pos (by omega), if_pos (by omega)] | rw [if_pos (by omega), if_neg (by omega)] | rw [if_neg (by omega)])
  · -- 8 to 11
    refine lv_iconst (v := iI (-1)) hx hb dX2_level_11 rfl ?_
    exact r_ret hx hb hr hlocks dX2_level_12 (by first | rw [if_pos (by omega), if_pos (by omega)] | rw [if_pos (by omega), if_neg (by omega)] | rw [if_neg (by omega)])
theorem fl_X2_people_10 : Cond.fieldLink RX2 10 "NoiseLamps" "noise" "LNoiseLamps$Noise;" ∈ wsX2_people := by decide +kernel
set_option maxHeartbeats 4000000 in
set_option maxRecDepth 100000 in
theorem c_X2_people (l : Launch) (D : va_G) (cy : ClassId) (x : Nat) (A B : Nat → Nat) (σ τ : Nat → Int → Int) (b : Int) (hI : invN σ) (hJ : invL τ) (hd : ∀ k, I32 (σ 18 k)) (hzb : I32 b) : MetR l yX2_people wsX2_people ({ frames := 5, cells := 0, slots := 0, locals := 120 } : Room) D cy (wP cy x A B σ τ) ([.ref x, .int (iI b)] : List Value) (nPeople σ b) := by
  refine met_R (cc := cX2_people) (maxL := 2) (ret := (some .int)) (by decide) rfl (Nat.le_of_ble_eq_true rfl) ?_
  intro p e s m below meth c hx hb hr hml hts hown hlocks hP hK ls hl
  have hown : s.vm.findClass RX2 = some m.cls := hown
  have hl : lv_has ls 2 [(0, .ref x), (1, .int (iI b))] := hl
  obtain ⟨hN0, hN4, hN8, hN14, hB1, hB2, hB3, hB5, hB6, hB7, hB9, hB10, hB11, hB12, hB13, hB15, hB16, hB17⟩ := id hI
  obtain ⟨hL3, hB0, hC1, hC2⟩ := id hJ
  refine lv_aload_n hx hb dX2_people_0 rfl (lv_at hl 0 rfl) ?_
  refine va_get (D := D) (ci := 2) (v := .ref (A 100)) (C := RX2) (T := TX2) (N := 2) hx hb hts (fun _ h => List.mem_cons_of_mem _ (List.mem_append_left _ (List.mem_append_right _ h))) hown hK hP 0 rfl rfl 0 (by decide) (hts _ fl_X2_people_10) (fun _ h9 => h9) rfl dX2_people_1 ?_
  refine lv_iload_n hx hb dX2_people_4 rfl (lv_at hl 1 rfl) ?_
  refine r_calli (va_runV (As := [.int (iI b)]) (rest := []) ⟨hx, hb, hml, hown, hts⟩ (c_X1_peopleAbove l D cy A σ b hI (by omega)) (cwV 1 hts gX2_people_X1_peopleAbove rfl rfl rfl (by decide +kernel) ⟨Nat.le_of_ble_eq_true rfl, Nat.le_of_ble_eq_true rfl⟩) (pv_ro (C := RX1) (T := TX1) (N := 19) (ci := 1) (q0 := 0) (vpL (a := wN cy A σ) (b := wL cy B τ) (vpR (a := wX x A B) hP)) hK rfl rfl) rfl rfl hl.1 rfl (lv_room (Nat.le_of_ble_eq_true rfl)) dX2_people_5 ⟨Nat.le_of_ble_eq_true rfl, Nat.le_of_ble_eq_true rfl⟩) ?_
  exact r_ret hx hb hr hlocks dX2_people_8 rfl
theorem fl_X2_loudest_10 : Cond.fieldLink RX2 10 "NoiseLamps" "noise" "LNoiseLamps$Noise;" ∈ wsX2_loudest := by decide +kernel
set_option maxHeartbeats 4000000 in
set_option maxRecDepth 100000 in
theorem c_X2_loudest (l : Launch) (D : va_G) (cy : ClassId) (x : Nat) (A B : Nat → Nat) (σ τ : Nat → Int → Int) (b t : Int) (hI : invN σ) (hJ : invL τ) (hd : ∀ k, I32 (σ 18 k)) (hzb : I32 b) (hzt : I32 t) : MetR l yX2_loudest wsX2_loudest ({ frames := 3, cells := 0, slots := 0, locals := 75 } : Room) D cy (wP cy x A B σ τ) ([.ref x, .int (iI b), .int (iI t)] : List Value) (if (0 ≤ b ∧ b < σ 4 0) ∧ (0 ≤ t ∧ t ≤ 2) then nLoud σ b t else -1) := by
  refine met_R (cc := cX2_loudest) (maxL := 3) (ret := (some .int)) (by decide) rfl (Nat.le_of_ble_eq_true rfl) ?_
  intro p e s m below meth c hx hb hr hml hts hown hlocks hP hK ls hl
  have hown : s.vm.findClass RX2 = some m.cls := hown
  have hl : lv_has ls 3 [(0, .ref x), (1, .int (iI b)), (2, .int (iI t))] := hl
  obtain ⟨hN0, hN4, hN8, hN14, hB1, hB2, hB3, hB5, hB6, hB7, hB9, hB10, hB11, hB12, hB13, hB15, hB16, hB17⟩ := id hI
  obtain ⟨hL3, hB0, hC1, hC2⟩ := id hJ
  refine lv_aload_n hx hb dX2_loudest_0 rfl (lv_at hl 0 rfl) ?_
  refine va_get (D := D) (ci := 2) (v := .ref (A 100)) (C := RX2) (T := TX2) (N := 2) hx hb hts (fun _ h => List.mem_cons_of_mem _ (List.mem_append_left _ (List.mem_append_right _ h))) hown hK hP 0 rfl rfl 0 (by decide) (hts _ fl_X2_loudest_10) (fun _ h9 => h9) rfl dX2_loudest_1 ?_
  refine lv_iload_n hx hb dX2_loudest_4 rfl (lv_at hl 1 rfl) ?_
  refine r_calli (va_runV (As := [.int (iI b)]) (rest := []) ⟨hx, hb, hml, hown, hts⟩ (c_X1_hasHouse l D cy A σ b hI (by omega)) (cwV 1 hts gX2_loudest_X1_hasHouse rfl rfl rfl (by decide +kernel) ⟨Nat.le_of_ble_eq_true rfl, Nat.le_of_ble_eq_true rfl⟩) (pv_ro (C := RX1) (T := TX1) (N := 19) (ci := 1) (q0 := 0) (vpL (a := wN cy A σ) (b := wL cy B τ) (vpR (a := wX x A B) hP)) hK rfl rfl) rfl rfl hl.1 rfl (lv_room (Nat.le_of_ble_eq_true rfl)) dX2_loudest_5 ⟨Nat.le_of_ble_eq_true rfl, Nat.le_of_ble_eq_true rfl⟩) ?_
  refine r_ifB_eq (tgt := 18) hx hb dX2_loudest_8 (by decide) (fun h1 => ?_) (fun h1 => ?_)
  · -- 8 to 18
    refine lv_iconst (v := iI (-1)) hx hb dX2_loudest_18 rfl ?_
    exact r_ret hx hb hr hlocks dX2_loudest_19 (by first | rw [if_pos (by omega)] | rw [if_neg (by omega)])
  · -- 8 to 11
    refine lv_iload_n hx hb dX2_loudest_11 rfl (lv_at hl 2 rfl) ?_
    refine r_calli (va_runS (As := [.int (iI t)]) (rest := []) ⟨hx, hb, hml, hown, hts⟩ (c_X2_isPart l  t (by omega)) (va_cwS 1 hts gX2_loudest_X2_isPart rfl rfl rfl (by decide +kernel) ⟨Nat.le_of_ble_eq_true rfl, Nat.le_of_ble_eq_true rfl⟩) ps_T rfl rfl hl.1 rfl (lv_room (Nat.le_of_ble_eq_true rfl)) dX2_loudest_12 ⟨Nat.le_of_ble_eq_true rfl, Nat.le_of_ble_eq_true rfl⟩) ?_
    refine r_ifB_ne (tgt := 20) hx hb dX2_loudest_15 (by decide) (fun h2 => ?_) (fun h2 => ?_)
    · -- 15 to 20
      refine lv_aload_n hx hb dX2_loudest_20 rfl (lv_at hl 0 rfl) ?_
      refine va_get (D := D) (ci := 2) (v := .ref (A 100)) (C := RX2) (T := TX2) (N := 2) hx hb hts (fun _ h => List.mem_cons_of_mem _ (List.mem_append_left _ (List.mem_append_right _ h))) hown hK hP 0 rfl rfl 0 (by decide) (hts _ fl_X2_loudest_10) (fun _ h9 => h9) rfl dX2_loudest_21 ?_
      refine lv_iload_n hx hb dX2_loudest_24 rfl (lv_at hl 1 rfl) ?_
      refine lv_iload_n hx hb dX2_loudest_25 rfl (lv_at hl 2 rfl) ?_
      refine r_calli (va_runV (As := [.int (iI b), .int (iI t)]) (rest := []) ⟨hx, hb, hml, hown, hts⟩ (c_X1_loudestPiece l D cy A σ b t hI (by omega) (by omega)) (cwV 2 hts gX2_loudest_X1_loudestPiece rfl rfl rfl (by decide +kernel) ⟨Nat.le_of_ble_eq_true rfl, Nat.le_of_ble_eq_true rfl⟩) (pv_ro (C := RX1) (T := TX1) (N := 19) (ci := 1) (q0 := 0) (vpL (a := wN cy A σ) (b := wL cy B τ) (vpR (a := wX x A B) hP)) hK rfl rfl) rfl rfl hl.1 rfl (lv_room (Nat.le_of_ble_eq_true rfl)) dX2_loudest_26 ⟨Nat.le_of_ble_eq_true rfl, Nat.le_of_ble_eq_true rfl⟩) ?_
      exact r_ret hx hb hr hlocks dX2_loudest_29 (by first | rw [if_pos (by omega)] | rw [if_neg (by omega)])
    · -- 15 to 18
      refine lv_iconst (v := iI (-1)) hx hb dX2_loudest_18 rfl ?_
      exact r_ret hx hb hr hlocks dX2_loudest_19 (by first | rw [if_pos (by omega)] | rw [if_neg (by omega)])
theorem fl_X2_ranked_10 : Cond.fieldLink RX2 10 "NoiseLamps" "noise" "LNoiseLamps$Noise;" ∈ wsX2_ranked := by decide +kernel
set_option maxHeartbeats 4000000 in
set_option maxRecDepth 100000 in
theorem c_X2_ranked (l : Launch) (D : va_G) (cy : ClassId) (x : Nat) (A B : Nat → Nat) (σ τ : Nat → Int → Int) (sz : Nat) (b : Int) (hI : invN σ) (hJ : invL τ) (hd : ∀ k, I32 (σ 18 k)) (hzb : I32 b) : MetM l yX2_ranked wsX2_ranked ({ frames := 5, cells := 0, slots := 0, locals := 119 } : Room) D cy (wP cy x A B σ τ) ([.ref x, .int (iI b)] : List Value) sz (fun u : (Int → Int) => (if 0 ≤ b ∧ b < σ 4 0 then nRank σ b else -1)) (fun u : (Int → Int) => ∀ k, I32 (u k)) (fun u : (Int → Int) => wP cy x A B (su σ 18 u) τ) := by
  refine met_M (cc := cX2_ranked) (maxL := 2) (ret := (some .int)) (by decide) rfl (Nat.le_of_ble_eq_true rfl) ?_
  intro p e s m below meth c AA hAA hx hb hr hml hts hown hlocks hP hK hD hA ls hl
  have hS : va_S AA s.heap s.heap [] := va_S.rf
  have hown : s.vm.findClass RX2 = some m.cls := hown
  have hl : lv_has ls 2 [(0, .ref x), (1, .int (iI b))] := hl
  obtain ⟨hN0, hN4, hN8, hN14, hB1, hB2, hB3, hB5, hB6, hB7, hB9, hB10, hB11, hB12, hB13, hB15, hB16, hB17⟩ := id hI
  obtain ⟨hL3, hB0, hC1, hC2⟩ := id hJ
  refine lv_aload_n hx hb dX2_ranked_0 rfl (lv_at hl 0 rfl) ?_
  refine va_get (D := D) (ci := 2) (v := .ref (A 100)) (C := RX2) (T := TX2) (N := 2) hx hb hts (fun _ h => List.mem_cons_of_mem _ (List.mem_append_left _ (List.mem_append_right _ h))) hown hK hP 0 rfl rfl 0 (by decide) (hts _ fl_X2_ranked_10) (fun _ h9 => h9) rfl dX2_ranked_1 ?_
  refine lv_iload_n hx hb dX2_ranked_4 rfl (lv_at hl 1 rfl) ?_
  refine r_calli (va_runV (As := [.int (iI b)]) (rest := []) ⟨hx, hb, hml, hown, hts⟩ (c_X1_hasHouse l D cy A σ b hI (by omega)) (cwV 1 hts gX2_ranked_X1_hasHouse rfl rfl rfl (by decide +kernel) ⟨Nat.le_of_ble_eq_true rfl, Nat.le_of_ble_eq_true rfl⟩) (pv_ro (C := RX1) (T := TX1) (N := 19) (ci := 1) (q0 := 0) (vpL (a := wN cy A σ) (b := wL cy B τ) (vpR (a := wX x A B) hP)) hK rfl rfl) rfl rfl hl.1 rfl (lv_room (Nat.le_of_ble_eq_true rfl)) dX2_ranked_5 ⟨Nat.le_of_ble_eq_true rfl, Nat.le_of_ble_eq_true rfl⟩) ?_
  refine r_ifB_eq (tgt := 22) hx hb dX2_ranked_8 (by decide) (fun h1 => ?_) (fun h1 => ?_)
  · -- 8 to 22
    refine lv_iconst (v := iI (-1)) hx hb dX2_ranked_22 rfl ?_
    exact r_retM (σ 18) hx hb hr hlocks hS dX2_ranked_23 (by first | rw [if_pos (by omega)] | rw [if_neg (by omega)]) (by first | exact hp | exact hd) hP
  · -- 8 to 11
    refine lv_aload_n hx hb dX2_ranked_11 rfl (lv_at hl 0 rfl) ?_
    refine va_get (D := D) (ci := 2) (v := .ref (A 100)) (C := RX2) (T := TX2) (N := 2) hx hb hts (fun _ h => List.mem_cons_of_mem _ (List.mem_append_left _ (List.mem_append_right _ h))) hown hK hP 0 rfl rfl 0 (by decide) (hts _ fl_X2_ranked_10) (fun _ h9 => h9) rfl dX2_ranked_12 ?_
    refine lv_iload_n hx hb dX2_ranked_15 rfl (lv_at hl 1 rfl) ?_
    refine r_callM (w1 := (wX x A B)) (w2 := (wL cy B τ)) (va_runV (As := [.int (iI b)]) (rest := []) ⟨hx, hb, hml, hown, hts⟩ (c_X1_houseOfRank l D cy A σ (s.heap.size) b hI (by omega) hd) (cwV 1 hts gX2_ranked_X1_houseOfRank rfl rfl rfl (by decide +kernel) ⟨Nat.le_of_ble_eq_true rfl, Nat.le_of_ble_eq_true rfl⟩) (pv_rw (C := RX1) (T := TX1) (N := 19) (ci := 1) (q0 := 0) (vpL (a := wN cy A σ) (b := wL cy B τ) (vpR (a := wX x A B) hP)) hK (vdL (a := wN cy A σ) (b := wL cy B τ) (vdR (a := wX x A B) hD)) rfl rfl) rfl rfl hl.1 rfl (lv_room (Nat.le_of_ble_eq_true rfl)) dX2_ranked_16 ⟨Nat.le_of_ble_eq_true rfl, Nat.le_of_ble_eq_true rfl⟩) hP hD hS hA (fun _ => rfl) (fun u2 H locs hp3 hP hD hS => ?_)
    have hP : va_P D vwCl (wP cy x A B (su σ 18 u2) τ) H := hP
    have hD : va_D AA (wP cy x A B (su σ 18 u2) τ) := hD
    refine lv_goto (tgt := 23) hx hb dX2_ranked_19 (by decide) ?_
    exact r_retM u2 hx hb hr hlocks hS dX2_ranked_23 (by first | rw [if_pos (by omega)] | rw [if_neg (by omega)]) (by first | exact hp3 | exact hd) hP
theorem fl_X2_needed_10 : Cond.fieldLink RX2 10 "NoiseLamps" "noise" "LNoiseLamps$Noise;" ∈ wsX2_needed := by decide +kernel
set_option maxHeartbeats 4000000 in
set_option maxRecDepth 100000 in
theorem c_X2_needed (l : Launch) (D : va_G) (cy : ClassId) (x : Nat) (A B : Nat → Nat) (σ τ : Nat → Int → Int) (sz : Nat) (w b : Int) (hI : invN σ) (hJ : invL τ) (hd : ∀ k, I32 (σ 18 k)) (hzw : I32 w) (hzb : I32 b) : MetM l yX2_needed wsX2_needed ({ frames := 6, cells := 0, slots := 0, locals := 144 } : Room) D cy (wP cy x A B σ τ) ([.ref x, .int (iI w), .int (iI b)] : List Value) sz (fun _ : Unit => (if 0 ≤ w ∧ w < σ 8 0 then nLeast σ w b else -1)) (fun _ : Unit => True) (fun _ : Unit => wP cy x A B σ τ) := by
  refine met_M (cc := cX2_needed) (maxL := 3) (ret := (some .int)) (by decide) rfl (Nat.le_of_ble_eq_true rfl) ?_
  intro p e s m below meth c AA hAA hx hb hr hml hts hown hlocks hP hK hD hA ls hl
  have hS : va_S AA s.heap s.heap [] := va_S.rf
  have hown : s.vm.findClass RX2 = some m.cls := hown
  have hl : lv_has ls 3 [(0, .ref x), (1, .int (iI w)), (2, .int (iI b))] := hl
  obtain ⟨hN0, hN4, hN8, hN14, hB1, hB2, hB3, hB5, hB6, hB7, hB9, hB10, hB11, hB12, hB13, hB15, hB16, hB17⟩ := id hI
  obtain ⟨hL3, hB0, hC1, hC2⟩ := id hJ
  refine lv_aload_n hx hb dX2_needed_0 rfl (lv_at hl 0 rfl) ?_
  refine va_get (D := D) (ci := 2) (v := .ref (A 100)) (C := RX2) (T := TX2) (N := 2) hx hb hts (fun _ h => List.mem_cons_of_mem _ (List.mem_append_left _ (List.mem_append_right _ h))) hown hK hP 0 rfl rfl 0 (by decide) (hts _ fl_X2_needed_10) (fun _ h9 => h9) rfl dX2_needed_1 ?_
  refine lv_iload_n hx hb dX2_needed_4 rfl (lv_at hl 1 rfl) ?_
  refine r_calli (va_runV (As := [.int (iI w)]) (rest := []) ⟨hx, hb, hml, hown, hts⟩ (c_X1_hasWall l D cy A σ w hI (by omega)) (cwV 1 hts gX2_needed_X1_hasWall rfl rfl rfl (by decide +kernel) ⟨Nat.le_of_ble_eq_true rfl, Nat.le_of_ble_eq_true rfl⟩) (pv_ro (C := RX1) (T := TX1) (N := 19) (ci := 1) (q0 := 0) (vpL (a := wN cy A σ) (b := wL cy B τ) (vpR (a := wX x A B) hP)) hK rfl rfl) rfl rfl hl.1 rfl (lv_room (Nat.le_of_ble_eq_true rfl)) dX2_needed_5 ⟨Nat.le_of_ble_eq_true rfl, Nat.le_of_ble_eq_true rfl⟩) ?_
  refine r_ifB_eq (tgt := 23) hx hb dX2_needed_8 (by decide) (fun h1 => ?_) (fun h1 => ?_)
  · -- 8 to 23
    refine lv_iconst (v := iI (-1)) hx hb dX2_needed_23 rfl ?_
    exact r_retM () hx hb hr hlocks hS dX2_needed_24 (by first | rw [if_pos (by omega)] | rw [if_neg (by omega)]) trivial hP
  · -- 8 to 11
    refine lv_aload_n hx hb dX2_needed_11 rfl (lv_at hl 0 rfl) ?_
    refine va_get (D := D) (ci := 2) (v := .ref (A 100)) (C := RX2) (T := TX2) (N := 2) hx hb hts (fun _ h => List.mem_cons_of_mem _ (List.mem_append_left _ (List.mem_append_right _ h))) hown hK hP 0 rfl rfl 0 (by decide) (hts _ fl_X2_needed_10) (fun _ h9 => h9) rfl dX2_needed_12 ?_
    refine lv_iload_n hx hb dX2_needed_15 rfl (lv_at hl 1 rfl) ?_
    refine lv_iload_n hx hb dX2_needed_16 rfl (lv_at hl 2 rfl) ?_
    refine r_callM (w1 := (wX x A B)) (w2 := (wL cy B τ)) (va_runV (As := [.int (iI w), .int (iI b)]) (rest := []) ⟨hx, hb, hml, hown, hts⟩ (c_X1_leastCut l D cy A σ (s.heap.size) w b hI (by omega) (by omega)) (cwV 2 hts gX2_needed_X1_leastCut rfl rfl rfl (by decide +kernel) ⟨Nat.le_of_ble_eq_true rfl, Nat.le_of_ble_eq_true rfl⟩) (pv_rw (C := RX1) (T := TX1) (N := 19) (ci := 1) (q0 := 0) (vpL (a := wN cy A σ) (b := wL cy B τ) (vpR (a := wX x A B) hP)) hK (vdL (a := wN cy A σ) (b := wL cy B τ) (vdR (a := wX x A B) hD)) rfl rfl) rfl rfl hl.1 rfl (lv_room (Nat.le_of_ble_eq_true rfl)) dX2_needed_17 ⟨Nat.le_of_ble_eq_true rfl, Nat.le_of_ble_eq_true rfl⟩) hP hD hS hA (fun _ => rfl) (fun u2 H locs hp3 hP hD hS => ?_)
    have hP : va_P D vwCl (wP cy x A B σ τ) H := hP
    have hD : va_D AA (wP cy x A B σ τ) := hD
    refine lv_goto (tgt := 24) hx hb dX2_needed_20 (by decide) ?_
    exact r_retM () hx hb hr hlocks hS dX2_needed_24 (by first | rw [if_pos (by omega)] | rw [if_neg (by omega)]) trivial hP
theorem fl_X2_piece_10 : Cond.fieldLink RX2 10 "NoiseLamps" "noise" "LNoiseLamps$Noise;" ∈ wsX2_piece := by decide +kernel
set_option maxHeartbeats 4000000 in
set_option maxRecDepth 100000 in
theorem c_X2_piece (l : Launch) (D : va_G) (cy : ClassId) (x : Nat) (A B : Nat → Nat) (σ τ : Nat → Int → Int) (sz : Nat) (px py a z t : Int) (hI : invN σ) (hJ : invL τ) (hd : ∀ k, I32 (σ 18 k)) (hzpx : I32 px) (hzpy : I32 py) (hza : I32 a) (hzz : I32 z) (hzt : I32 t) : MetM l yX2_piece wsX2_piece ({ frames := 6, cells := 0, slots := 0, locals := 150 } : Room) D cy (wP cy x A B σ τ) ([.ref x, .int (iI px), .int (iI py), .int (iI a), .int (iI z), .int (iI t)] : List Value) sz (fun _ : Unit => (if ((-5000 ≤ px ∧ px ≤ 5000) ∧ (-5000 ≤ py ∧ py ≤ 5000)) ∧ (0 ≤ a ∧ a ≤ 1200) ∧ (0 ≤ z ∧ z ≤ 1200) ∧ (0 ≤ t ∧ t ≤ 1200) then (if 12 ≤ σ 0 0 then -1 else σ 0 0) else -1)) (fun _ : Unit => True) (fun _ : Unit => wP cy x A B (if ((-5000 ≤ px ∧ px ≤ 5000) ∧ (-5000 ≤ py ∧ py ≤ 5000)) ∧ (0 ≤ a ∧ a ≤ 1200) ∧ (0 ≤ z ∧ z ≤ 1200) ∧ (0 ≤ t ∧ t ≤ 1200) then nAddP σ px py a z t else σ) τ) := by
  refine met_M (cc := cX2_piece) (maxL := 6) (ret := (some .int)) (by decide) rfl (Nat.le_of_ble_eq_true rfl) ?_
  intro p e s m below meth c AA hAA hx hb hr hml hts hown hlocks hP hK hD hA ls hl
  have hS : va_S AA s.heap s.heap [] := va_S.rf
  have hown : s.vm.findClass RX2 = some m.cls := hown
  have hl : lv_has ls 6 [(0, .ref x), (1, .int (iI px)), (2, .int (iI py)), (3, .int (iI a)), (4, .int (iI z)), (5, .int (iI t))] := hl
  obtain ⟨hN0, hN4, hN8, hN14, hB1, hB2, hB3, hB5, hB6, hB7, hB9, hB10, hB11, hB12, hB13, hB15, hB16, hB17⟩ := id hI
  obtain ⟨hL3, hB0, hC1, hC2⟩ := id hJ
  refine lv_iload_n hx hb dX2_piece_0 rfl (lv_at hl 1 rfl) ?_
  refine lv_iload_n hx hb dX2_piece_1 rfl (lv_at hl 2 rfl) ?_
  refine r_calli (va_runS (As := [.int (iI px), .int (iI py)]) (rest := []) ⟨hx, hb, hml, hown, hts⟩ (c_X2_isPoint l  px py (by omega) (by omega)) (va_cwS 2 hts gX2_piece_X2_isPoint rfl rfl rfl (by decide +kernel) ⟨Nat.le_of_ble_eq_true rfl, Nat.le_of_ble_eq_true rfl⟩) ps_T rfl rfl hl.1 rfl (lv_room (Nat.le_of_ble_eq_true rfl)) dX2_piece_2 ⟨Nat.le_of_ble_eq_true rfl, Nat.le_of_ble_eq_true rfl⟩) ?_
  refine r_ifB_eq (tgt := 31) hx hb dX2_piece_5 (by decide) (fun h1 => ?_) (fun h1 => ?_)
  · -- 5 to 31
    refine lv_iconst (v := iI (-1)) hx hb dX2_piece_31 rfl ?_
    exact r_retM () hx hb hr hlocks hS dX2_piece_32 (by first | exact (if_pos (by omega)).symm | exact (if_neg (by omega)).symm) trivial (by first | (rw [if_pos (by omega)]; exact hP) | (rw [if_neg (by omega)]; exact hP))
  · -- 5 to 8
    refine lv_iload_n hx hb dX2_piece_8 rfl (lv_at hl 3 rfl) ?_
    refine r_calli (va_runS (As := [.int (iI a)]) (rest := []) ⟨hx, hb, hml, hown, hts⟩ (c_X2_isLevel l  a (by omega)) (va_cwS 1 hts gX2_piece_X2_isLevel rfl rfl rfl (by decide +kernel) ⟨Nat.le_of_ble_eq_true rfl, Nat.le_of_ble_eq_true rfl⟩) ps_T rfl rfl hl.1 rfl (lv_room (Nat.le_of_ble_eq_true rfl)) dX2_piece_9 ⟨Nat.le_of_ble_eq_true rfl, Nat.le_of_ble_eq_true rfl⟩) ?_
    refine r_ifB_eq (tgt := 31) hx hb dX2_piece_12 (by decide) (fun h2 => ?_) (fun h2 => ?_)
    · -- 12 to 31
      refine lv_iconst (v := iI (-1)) hx hb dX2_piece_31 rfl ?_
      exact r_retM () hx hb hr hlocks hS dX2_piece_32 (by first | exact (if_pos (by omega)).symm | exact (if_neg (by omega)).symm) trivial (by first | (rw [if_pos (by omega)]; exact hP) | (rw [if_neg (by omega)]; exact hP))
    · -- 12 to 15
      refine lv_iload hx hb dX2_piece_15 (lv_at hl 4 rfl) ?_
      refine r_calli (va_runS (As := [.int (iI z)]) (rest := []) ⟨hx, hb, hml, hown, hts⟩ (c_X2_isLevel l  z (by omega)) (va_cwS 1 hts gX2_piece_X2_isLevel rfl rfl rfl (by decide +kernel) ⟨Nat.le_of_ble_eq_true rfl, Nat.le_of_ble_eq_true rfl⟩) ps_T rfl rfl hl.1 rfl (lv_room (Nat.le_of_ble_eq_true rfl)) dX2_piece_17 ⟨Nat.le_of_ble_eq_true rfl, Nat.le_of_ble_eq_true rfl⟩) ?_
      refine r_ifB_eq (tgt := 31) hx hb dX2_piece_20 (by decide) (fun h3 => ?_) (fun h3 => ?_)
      · -- 20 to 31
        refine lv_iconst (v := iI (-1)) hx hb dX2_piece_31 rfl ?_
        exact r_retM () hx hb hr hlocks hS dX2_piece_32 (by first | exact (if_pos (by omega)).symm | exact (if_neg (by omega)).symm) trivial (by first | (rw [if_pos (by omega)]; exact hP) | (rw [if_neg (by omega)]; exact hP))
      · -- 20 to 23
        refine lv_iload hx hb dX2_piece_23 (lv_at hl 5 rfl) ?_
        refine r_calli (va_runS (As := [.int (iI t)]) (rest := []) ⟨hx, hb, hml, hown, hts⟩ (c_X2_isLevel l  t (by omega)) (va_cwS 1 hts gX2_piece_X2_isLevel rfl rfl rfl (by decide +kernel) ⟨Nat.le_of_ble_eq_true rfl, Nat.le_of_ble_eq_true rfl⟩) ps_T rfl rfl hl.1 rfl (lv_room (Nat.le_of_ble_eq_true rfl)) dX2_piece_25 ⟨Nat.le_of_ble_eq_true rfl, Nat.le_of_ble_eq_true rfl⟩) ?_
        refine r_ifB_ne (tgt := 33) hx hb dX2_piece_28 (by decide) (fun h4 => ?_) (fun h4 => ?_)
        · -- 28 to 33
          refine lv_aload_n hx hb dX2_piece_33 rfl (lv_at hl 0 rfl) ?_
          refine va_get (D := D) (ci := 2) (v := .ref (A 100)) (C := RX2) (T := TX2) (N := 2) hx hb hts (fun _ h => List.mem_cons_of_mem _ (List.mem_append_left _ (List.mem_append_right _ h))) hown hK hP 0 rfl rfl 0 (by decide) (hts _ fl_X2_piece_10) (fun _ h9 => h9) rfl dX2_piece_34 ?_
          refine lv_iload_n hx hb dX2_piece_37 rfl (lv_at hl 1 rfl) ?_
          refine lv_iload_n hx hb dX2_piece_38 rfl (lv_at hl 2 rfl) ?_
          refine lv_iload_n hx hb dX2_piece_39 rfl (lv_at hl 3 rfl) ?_
          refine lv_iload hx hb dX2_piece_40 (lv_at hl 4 rfl) ?_
          refine lv_iload hx hb dX2_piece_42 (lv_at hl 5 rfl) ?_
          refine r_callM (w1 := (wX x A B)) (w2 := (wL cy B τ)) (va_runV (As := [.int (iI px), .int (iI py), .int (iI a), .int (iI z), .int (iI t)]) (rest := []) ⟨hx, hb, hml, hown, hts⟩ (c_X1_addPiece l D cy A σ (s.heap.size) px py a z t hI (by omega) (by omega) (by omega) (by omega) (by omega)) (cwV 5 hts gX2_piece_X1_addPiece rfl rfl rfl (by decide +kernel) ⟨Nat.le_of_ble_eq_true rfl, Nat.le_of_ble_eq_true rfl⟩) (pv_rw (C := RX1) (T := TX1) (N := 19) (ci := 1) (q0 := 0) (vpL (a := wN cy A σ) (b := wL cy B τ) (vpR (a := wX x A B) hP)) hK (vdL (a := wN cy A σ) (b := wL cy B τ) (vdR (a := wX x A B) hD)) rfl rfl) rfl rfl hl.1 rfl (lv_room (Nat.le_of_ble_eq_true rfl)) dX2_piece_44 ⟨Nat.le_of_ble_eq_true rfl, Nat.le_of_ble_eq_true rfl⟩) hP hD hS hA (fun _ => rfl) (fun u5 H locs hp6 hP hD hS => ?_)
          have hP : va_P D vwCl (wP cy x A B (nAddP σ px py a z t) τ) H := hP
          have hD : va_D AA (wP cy x A B (nAddP σ px py a z t) τ) := hD
          exact r_retM () hx hb hr hlocks hS dX2_piece_47 (by first | exact (if_pos (by omega)).symm | exact (if_neg (by omega)).symm) trivial (by first | (rw [if_pos (by omega)]; exact hP) | (rw [if_neg (by omega)]; exact hP))
        · -- 28 to 31
          refine lv_iconst (v := iI (-1)) hx hb dX2_piece_31 rfl ?_
          exact r_retM () hx hb hr hlocks hS dX2_piece_32 (by first | exact (if_pos (by omega)).symm | exact (if_neg (by omega)).symm) trivial (by first | (rw [if_pos (by omega)]; exact hP) | (rw [if_neg (by omega)]; exact hP))
theorem fl_X2_house_10 : Cond.fieldLink RX2 10 "NoiseLamps" "noise" "LNoiseLamps$Noise;" ∈ wsX2_house := by decide +kernel
set_option maxHeartbeats 4000000 in
set_option maxRecDepth 100000 in
theorem c_X2_house (l : Launch) (D : va_G) (cy : ClassId) (x : Nat) (A B : Nat → Nat) (σ τ : Nat → Int → Int) (sz : Nat) (px py n : Int) (hI : invN σ) (hJ : invL τ) (hd : ∀ k, I32 (σ 18 k)) (hzpx : I32 px) (hzpy : I32 py) (hzn : I32 n) : MetM l yX2_house wsX2_house ({ frames := 6, cells := 0, slots := 0, locals := 148 } : Room) D cy (wP cy x A B σ τ) ([.ref x, .int (iI px), .int (iI py), .int (iI n)] : List Value) sz (fun _ : Unit => (if ((-5000 ≤ px ∧ px ≤ 5000) ∧ (-5000 ≤ py ∧ py ≤ 5000)) ∧ (0 ≤ n ∧ n ≤ 1000) then (if 20 ≤ σ 4 0 then -1 else σ 4 0) else -1)) (fun _ : Unit => True) (fun _ : Unit => wP cy x A B (if ((-5000 ≤ px ∧ px ≤ 5000) ∧ (-5000 ≤ py ∧ py ≤ 5000)) ∧ (0 ≤ n ∧ n ≤ 1000) then nAddH σ px py n else σ) τ) := by
  refine met_M (cc := cX2_house) (maxL := 4) (ret := (some .int)) (by decide) rfl (Nat.le_of_ble_eq_true rfl) ?_
  intro p e s m below meth c AA hAA hx hb hr hml hts hown hlocks hP hK hD hA ls hl
  have hS : va_S AA s.heap s.heap [] := va_S.rf
  have hown : s.vm.findClass RX2 = some m.cls := hown
  have hl : lv_has ls 4 [(0, .ref x), (1, .int (iI px)), (2, .int (iI py)), (3, .int (iI n))] := hl
  obtain ⟨hN0, hN4, hN8, hN14, hB1, hB2, hB3, hB5, hB6, hB7, hB9, hB10, hB11, hB12, hB13, hB15, hB16, hB17⟩ := id hI
  obtain ⟨hL3, hB0, hC1, hC2⟩ := id hJ
  refine lv_iload_n hx hb dX2_house_0 rfl (lv_at hl 1 rfl) ?_
  refine lv_iload_n hx hb dX2_house_1 rfl (lv_at hl 2 rfl) ?_
  refine r_calli (va_runS (As := [.int (iI px), .int (iI py)]) (rest := []) ⟨hx, hb, hml, hown, hts⟩ (c_X2_isPoint l  px py (by omega) (by omega)) (va_cwS 2 hts gX2_house_X2_isPoint rfl rfl rfl (by decide +kernel) ⟨Nat.le_of_ble_eq_true rfl, Nat.le_of_ble_eq_true rfl⟩) ps_T rfl rfl hl.1 rfl (lv_room (Nat.le_of_ble_eq_true rfl)) dX2_house_2 ⟨Nat.le_of_ble_eq_true rfl, Nat.le_of_ble_eq_true rfl⟩) ?_
  refine r_ifB_eq (tgt := 19) hx hb dX2_house_5 (by decide) (fun h1 => ?_) (fun h1 => ?_)
  · -- 5 to 19
    refine lv_iconst (v := iI (-1)) hx hb dX2_house_19 rfl ?_
    exact r_retM () hx hb hr hlocks hS dX2_house_20 (by first | exact (if_pos (by omega)).symm | exact (if_neg (by omega)).symm) trivial (by first | (rw [if_pos (by omega)]; exact hP) | (rw [if_neg (by omega)]; exact hP))
  · -- 5 to 8
    refine lv_iload_n hx hb dX2_house_8 rfl (lv_at hl 3 rfl) ?_
    refine lv_iconst (v := iI 0) hx hb dX2_house_9 rfl ?_
    refine lv_sipush (v := iI 1000) hx hb dX2_house_10 (by decide +kernel) ?_
    refine r_calli (va_runS (As := [.int (iI n), .int (iI 0), .int (iI 1000)]) (rest := []) ⟨hx, hb, hml, hown, hts⟩ (c_X2_isWithin l  n 0 1000 (by omega) (by omega) (by omega)) (va_cwS 3 hts gX2_house_X2_isWithin rfl rfl rfl (by decide +kernel) ⟨Nat.le_of_ble_eq_true rfl, Nat.le_of_ble_eq_true rfl⟩) ps_T rfl rfl hl.1 rfl (lv_room (Nat.le_of_ble_eq_true rfl)) dX2_house_13 ⟨Nat.le_of_ble_eq_true rfl, Nat.le_of_ble_eq_true rfl⟩) ?_
    refine r_ifB_ne (tgt := 21) hx hb dX2_house_16 (by decide) (fun h2 => ?_) (fun h2 => ?_)
    · -- 16 to 21
      refine lv_aload_n hx hb dX2_house_21 rfl (lv_at hl 0 rfl) ?_
      refine va_get (D := D) (ci := 2) (v := .ref (A 100)) (C := RX2) (T := TX2) (N := 2) hx hb hts (fun _ h => List.mem_cons_of_mem _ (List.mem_append_left _ (List.mem_append_right _ h))) hown hK hP 0 rfl rfl 0 (by decide) (hts _ fl_X2_house_10) (fun _ h9 => h9) rfl dX2_house_22 ?_
      refine lv_iload_n hx hb dX2_house_25 rfl (lv_at hl 1 rfl) ?_
      refine lv_iload_n hx hb dX2_house_26 rfl (lv_at hl 2 rfl) ?_
      refine lv_iload_n hx hb dX2_house_27 rfl (lv_at hl 3 rfl) ?_
      refine r_callM (w1 := (wX x A B)) (w2 := (wL cy B τ)) (va_runV (As := [.int (iI px), .int (iI py), .int (iI n)]) (rest := []) ⟨hx, hb, hml, hown, hts⟩ (c_X1_addHouse l D cy A σ (s.heap.size) px py n hI (by omega) (by omega) (by omega)) (cwV 3 hts gX2_house_X1_addHouse rfl rfl rfl (by decide +kernel) ⟨Nat.le_of_ble_eq_true rfl, Nat.le_of_ble_eq_true rfl⟩) (pv_rw (C := RX1) (T := TX1) (N := 19) (ci := 1) (q0 := 0) (vpL (a := wN cy A σ) (b := wL cy B τ) (vpR (a := wX x A B) hP)) hK (vdL (a := wN cy A σ) (b := wL cy B τ) (vdR (a := wX x A B) hD)) rfl rfl) rfl rfl hl.1 rfl (lv_room (Nat.le_of_ble_eq_true rfl)) dX2_house_28 ⟨Nat.le_of_ble_eq_true rfl, Nat.le_of_ble_eq_true rfl⟩) hP hD hS hA (fun _ => rfl) (fun u3 H locs hp4 hP hD hS => ?_)
      have hP : va_P D vwCl (wP cy x A B (nAddH σ px py n) τ) H := hP
      have hD : va_D AA (wP cy x A B (nAddH σ px py n) τ) := hD
      exact r_retM () hx hb hr hlocks hS dX2_house_31 (by first | exact (if_pos (by omega)).symm | exact (if_neg (by omega)).symm) trivial (by first | (rw [if_pos (by omega)]; exact hP) | (rw [if_neg (by omega)]; exact hP))
    · -- 16 to 19
      refine lv_iconst (v := iI (-1)) hx hb dX2_house_19 rfl ?_
      exact r_retM () hx hb hr hlocks hS dX2_house_20 (by first | exact (if_pos (by omega)).symm | exact (if_neg (by omega)).symm) trivial (by first | (rw [if_pos (by omega)]; exact hP) | (rw [if_neg (by omega)]; exact hP))
theorem fl_X2_wall_10 : Cond.fieldLink RX2 10 "NoiseLamps" "noise" "LNoiseLamps$Noise;" ∈ wsX2_wall := by decide +kernel
set_option maxHeartbeats 4000000 in
set_option maxRecDepth 100000 in
theorem c_X2_wall (l : Launch) (D : va_G) (cy : ClassId) (x : Nat) (A B : Nat → Nat) (σ τ : Nat → Int → Int) (sz : Nat) (px py qx qy v : Int) (hI : invN σ) (hJ : invL τ) (hd : ∀ k, I32 (σ 18 k)) (hzpx : I32 px) (hzpy : I32 py) (hzqx : I32 qx) (hzqy : I32 qy) (hzv : I32 v) : MetM l yX2_wall wsX2_wall ({ frames := 5, cells := 0, slots := 0, locals := 126 } : Room) D cy (wP cy x A B σ τ) ([.ref x, .int (iI px), .int (iI py), .int (iI qx), .int (iI qy), .int (iI v)] : List Value) sz (fun _ : Unit => (if ((-5000 ≤ px ∧ px ≤ 5000) ∧ (-5000 ≤ py ∧ py ≤ 5000)) ∧ ((-5000 ≤ qx ∧ qx ≤ 5000) ∧ (-5000 ≤ qy ∧ qy ≤ 5000)) ∧ (px ≠ qx ∨ py ≠ qy) ∧ (0 ≤ v ∧ v ≤ 300) then (if 8 ≤ σ 8 0 then -1 else σ 8 0) else -1)) (fun _ : Unit => True) (fun _ : Unit => wP cy x A B (if ((-5000 ≤ px ∧ px ≤ 5000) ∧ (-5000 ≤ py ∧ py ≤ 5000)) ∧ ((-5000 ≤ qx ∧ qx ≤ 5000) ∧ (-5000 ≤ qy ∧ qy ≤ 5000)) ∧ (px ≠ qx ∨ py ≠ qy) ∧ (0 ≤ v ∧ v ≤ 300) then nAddW σ px py qx qy v else σ) τ) := by
  refine met_M (cc := cX2_wall) (maxL := 7) (ret := (some .int)) (by decide) rfl (Nat.le_of_ble_eq_true rfl) ?_
  intro p e s m below meth c AA hAA hx hb hr hml hts hown hlocks hP hK hD hA ls hl
  have hS : va_S AA s.heap s.heap [] := va_S.rf
  have hown : s.vm.findClass RX2 = some m.cls := hown
  have hl : lv_has ls 7 [(0, .ref x), (1, .int (iI px)), (2, .int (iI py)), (3, .int (iI qx)), (4, .int (iI qy)), (5, .int (iI v))] := hl
  obtain ⟨hN0, hN4, hN8, hN14, hB1, hB2, hB3, hB5, hB6, hB7, hB9, hB10, hB11, hB12, hB13, hB15, hB16, hB17⟩ := id hI
  obtain ⟨hL3, hB0, hC1, hC2⟩ := id hJ
  refine lv_iload_n hx hb dX2_wall_0 rfl (lv_at hl 1 rfl) ?_
  refine lv_iload_n hx hb dX2_wall_1 rfl (lv_at hl 3 rfl) ?_
  refine r_icmp_ne (tgt := 15) hx hb dX2_wall_2 (by decide) (by omega) (by omega) (fun h1 => ?_) (fun h1 => ?_)
  · -- 2 to 15
    refine lv_iconst (v := iI 0) hx hb dX2_wall_15 rfl ?_
    refine lv_istore (lv' := [(6, .int (iI 0)), (0, .ref x), (1, .int (iI px)), (2, .int (iI py)), (3, .int (iI qx)), (4, .int (iI qy)), (5, .int (iI v))]) hx hb dX2_wall_16 hl (by decide) rfl (fun ls hl => ?_)
    refine lv_iload_n hx hb dX2_wall_18 rfl (lv_at hl 2 rfl) ?_
    refine lv_iload_n hx hb dX2_wall_19 rfl (lv_at hl 3 rfl) ?_
    refine r_calli (va_runS (As := [.int (iI px), .int (iI py)]) (rest := []) ⟨hx, hb, hml, hown, hts⟩ (c_X2_isPoint l  px py (by omega) (by omega)) (va_cwS 2 hts gX2_wall_X2_isPoint rfl rfl rfl (by decide +kernel) ⟨Nat.le_of_ble_eq_true rfl, Nat.le_of_ble_eq_true rfl⟩) ps_T rfl rfl hl.1 rfl (lv_room (Nat.le_of_ble_eq_true rfl)) dX2_wall_20 ⟨Nat.le_of_ble_eq_true rfl, Nat.le_of_ble_eq_true rfl⟩) ?_
    refine r_ifB_eq (tgt := 48) hx hb dX2_wall_23 (by decide) (fun h2 => ?_) (fun h2 => ?_)
    · -- 23 to 48
      refine lv_iconst (v := iI (-1)) hx hb dX2_wall_48 rfl ?_
      exact r_retM () hx hb hr hlocks hS dX2_wall_49 (by first | exact (if_pos (by omega)).symm | exact (if_neg (by omega)).symm) trivial (by first | (rw [if_pos (by omega)]; exact hP) | (rw [if_neg (by omega)]; exact hP))
    · -- 23 to 26
      refine lv_iload_n hx hb dX2_wall_26 rfl (lv_at hl 4 rfl) ?_
      refine lv_iload hx hb dX2_wall_27 (lv_at hl 5 rfl) ?_
      refine r_calli (va_runS (As := [.int (iI qx), .int (iI qy)]) (rest := []) ⟨hx, hb, hml, hown, hts⟩ (c_X2_isPoint l  qx qy (by omega) (by omega)) (va_cwS 2 hts gX2_wall_X2_isPoint rfl rfl rfl (by decide +kernel) ⟨Nat.le_of_ble_eq_true rfl, Nat.le_of_ble_eq_true rfl⟩) ps_T rfl rfl hl.1 rfl (lv_room (Nat.le_of_ble_eq_true rfl)) dX2_wall_29 ⟨Nat.le_of_ble_eq_true rfl, Nat.le_of_ble_eq_true rfl⟩) ?_
      refine r_ifB_eq (tgt := 48) hx hb dX2_wall_32 (by decide) (fun h3 => ?_) (fun h3 => ?_)
      · -- 32 to 48
        refine lv_iconst (v := iI (-1)) hx hb dX2_wall_48 rfl ?_
        exact r_retM () hx hb hr hlocks hS dX2_wall_49 (by first | exact (if_pos (by omega)).symm | exact (if_neg (by omega)).symm) trivial (by first | (rw [if_pos (by omega)]; exact hP) | (rw [if_neg (by omega)]; exact hP))
      · -- 32 to 35
        refine lv_iload hx hb dX2_wall_35 (lv_at hl 0 rfl) ?_
        refine r_if_ne (tgt := 48) hx hb dX2_wall_37 (by decide) (by omega) (fun h => absurd h (by decide)) (fun _ => ?_)
        refine lv_iload hx hb dX2_wall_40 (lv_at hl 6 rfl) ?_
        refine r_calli (va_runS (As := [.int (iI v)]) (rest := []) ⟨hx, hb, hml, hown, hts⟩ (c_X2_isCut l  v (by omega)) (va_cwS 1 hts gX2_wall_X2_isCut rfl rfl rfl (by decide +kernel) ⟨Nat.le_of_ble_eq_true rfl, Nat.le_of_ble_eq_true rfl⟩) ps_T rfl rfl hl.1 rfl (lv_room (Nat.le_of_ble_eq_true rfl)) dX2_wall_42 ⟨Nat.le_of_ble_eq_true rfl, Nat.le_of_ble_eq_true rfl⟩) ?_
        refine r_ifB_ne (tgt := 50) hx hb dX2_wall_45 (by decide) (fun h4 => ?_) (fun h4 => ?_)
        · -- 45 to 50
          refine lv_aload_n hx hb dX2_wall_50 rfl (lv_at hl 1 rfl) ?_
          refine va_get (D := D) (ci := 2) (v := .ref (A 100)) (C := RX2) (T := TX2) (N := 2) hx hb hts (fun _ h => List.mem_cons_of_mem _ (List.mem_append_left _ (List.mem_append_right _ h))) hown hK hP 0 rfl rfl 0 (by decide) (hts _ fl_X2_wall_10) (fun _ h9 => h9) rfl dX2_wall_51 ?_
          refine lv_iload_n hx hb dX2_wall_54 rfl (lv_at hl 2 rfl) ?_
          refine lv_iload_n hx hb dX2_wall_55 rfl (lv_at hl 3 rfl) ?_
          refine lv_iload_n hx hb dX2_wall_56 rfl (lv_at hl 4 rfl) ?_
          refine lv_iload hx hb dX2_wall_57 (lv_at hl 5 rfl) ?_
          refine lv_iload hx hb dX2_wall_59 (lv_at hl 6 rfl) ?_
          refine r_callM (w1 := (wX x A B)) (w2 := (wL cy B τ)) (va_runV (As := [.int (iI px), .int (iI py), .int (iI qx), .int (iI qy), .int (iI v)]) (rest := []) ⟨hx, hb, hml, hown, hts⟩ (c_X1_addWall l D cy A σ (s.heap.size) px py qx qy v hI (by omega) (by omega) (by omega) (by omega) (by omega)) (cwV 5 hts gX2_wall_X1_addWall rfl rfl rfl (by decide +kernel) ⟨Nat.le_of_ble_eq_true rfl, Nat.le_of_ble_eq_true rfl⟩) (pv_rw (C := RX1) (T := TX1) (N := 19) (ci := 1) (q0 := 0) (vpL (a := wN cy A σ) (b := wL cy B τ) (vpR (a := wX x A B) hP)) hK (vdL (a := wN cy A σ) (b := wL cy B τ) (vdR (a := wX x A B) hD)) rfl rfl) rfl rfl hl.1 rfl (lv_room (Nat.le_of_ble_eq_true rfl)) dX2_wall_61 ⟨Nat.le_of_ble_eq_true rfl, Nat.le_of_ble_eq_true rfl⟩) hP hD hS hA (fun _ => rfl) (fun u5 H locs hp6 hP hD hS => ?_)
          have hP : va_P D vwCl (wP cy x A B (nAddW σ px py qx qy v) τ) H := hP
          have hD : va_D AA (wP cy x A B (nAddW σ px py qx qy v) τ) := hD
          exact r_retM () hx hb hr hlocks hS dX2_wall_64 (by first | exact (if_pos (by omega)).symm | exact (if_neg (by omega)).symm) trivial (by first | (rw [if_pos (by omega)]; exact hP) | (rw [if_neg (by omega)]; exact hP))
        · -- 45 to 48
          refine lv_iconst (v := iI (-1)) hx hb dX2_wall_48 rfl ?_
          exact r_retM () hx hb hr hlocks hS dX2_wall_49 (by first | exact (if_pos (by omega)).symm | exact (if_neg (by omega)).symm) trivial (by first | (rw [if_pos (by omega)]; exact hP) | (rw [if_neg (by omega)]; exact hP))
  · -- 2 to 5
    refine lv_iload_n hx hb dX2_wall_5 rfl (lv_at hl 2 rfl) ?_
    refine lv_iload hx hb dX2_wall_6 (lv_at hl 4 rfl) ?_
    refine r_icmp_ne (tgt := 15) hx hb dX2_wall_8 (by decide) (by omega) (by omega) (fun h7 => ?_) (fun h7 => ?_)
    · -- 8 to 15
      refine lv_iconst (v := iI 0) hx hb dX2_wall_15 rfl ?_
      refine lv_istore (lv' := [(6, .int (iI 0)), (0, .ref x), (1, .int (iI px)), (2, .int (iI py)), (3, .int (iI qx)), (4, .int (iI qy)), (5, .int (iI v))]) hx hb dX2_wall_16 hl (by decide) rfl (fun ls hl => ?_)
      refine lv_iload_n hx hb dX2_wall_18 rfl (lv_at hl 2 rfl) ?_
      refine lv_iload_n hx hb dX2_wall_19 rfl (lv_at hl 3 rfl) ?_
      refine r_calli (va_runS (As := [.int (iI px), .int (iI py)]) (rest := []) ⟨hx, hb, hml, hown, hts⟩ (c_X2_isPoint l  px py (by omega) (by omega)) (va_cwS 2 hts gX2_wall_X2_isPoint rfl rfl rfl (by decide +kernel) ⟨Nat.le_of_ble_eq_true rfl, Nat.le_of_ble_eq_true rfl⟩) ps_T rfl rfl hl.1 rfl (lv_room (Nat.le_of_ble_eq_true rfl)) dX2_wall_20 ⟨Nat.le_of_ble_eq_true rfl, Nat.le_of_ble_eq_true rfl⟩) ?_
      refine r_ifB_eq (tgt := 48) hx hb dX2_wall_23 (by decide) (fun h8 => ?_) (fun h8 => ?_)
      · -- 23 to 48
        refine lv_iconst (v := iI (-1)) hx hb dX2_wall_48 rfl ?_
        exact r_retM () hx hb hr hlocks hS dX2_wall_49 (by first | exact (if_pos (by omega)).symm | exact (if_neg (by omega)).symm) trivial (by first | (rw [if_pos (by omega)]; exact hP) | (rw [if_neg (by omega)]; exact hP))
      · -- 23 to 26
        refine lv_iload_n hx hb dX2_wall_26 rfl (lv_at hl 4 rfl) ?_
        refine lv_iload hx hb dX2_wall_27 (lv_at hl 5 rfl) ?_
        refine r_calli (va_runS (As := [.int (iI qx), .int (iI qy)]) (rest := []) ⟨hx, hb, hml, hown, hts⟩ (c_X2_isPoint l  qx qy (by omega) (by omega)) (va_cwS 2 hts gX2_wall_X2_isPoint rfl rfl rfl (by decide +kernel) ⟨Nat.le_of_ble_eq_true rfl, Nat.le_of_ble_eq_true rfl⟩) ps_T rfl rfl hl.1 rfl (lv_room (Nat.le_of_ble_eq_true rfl)) dX2_wall_29 ⟨Nat.le_of_ble_eq_true rfl, Nat.le_of_ble_eq_true rfl⟩) ?_
        refine r_ifB_eq (tgt := 48) hx hb dX2_wall_32 (by decide) (fun h9 => ?_) (fun h9 => ?_)
        · -- 32 to 48
          refine lv_iconst (v := iI (-1)) hx hb dX2_wall_48 rfl ?_
          exact r_retM () hx hb hr hlocks hS dX2_wall_49 (by first | exact (if_pos (by omega)).symm | exact (if_neg (by omega)).symm) trivial (by first | (rw [if_pos (by omega)]; exact hP) | (rw [if_neg (by omega)]; exact hP))
        · -- 32 to 35
          refine lv_iload hx hb dX2_wall_35 (lv_at hl 0 rfl) ?_
          refine r_if_ne (tgt := 48) hx hb dX2_wall_37 (by decide) (by omega) (fun h => absurd h (by decide)) (fun _ => ?_)
          refine lv_iload hx hb dX2_wall_40 (lv_at hl 6 rfl) ?_
          refine r_calli (va_runS (As := [.int (iI v)]) (rest := []) ⟨hx, hb, hml, hown, hts⟩ (c_X2_isCut l  v (by omega)) (va_cwS 1 hts gX2_wall_X2_isCut rfl rfl rfl (by decide +kernel) ⟨Nat.le_of_ble_eq_true rfl, Nat.le_of_ble_eq_true rfl⟩) ps_T rfl rfl hl.1 rfl (lv_room (Nat.le_of_ble_eq_true rfl)) dX2_wall_42 ⟨Nat.le_of_ble_eq_true rfl, Nat.le_of_ble_eq_true rfl⟩) ?_
          refine r_ifB_ne (tgt := 50) hx hb dX2_wall_45 (by decide) (fun h10 => ?_) (fun h10 => ?_)
          · -- 45 to 50
            refine lv_aload_n hx hb dX2_wall_50 rfl (lv_at hl 1 rfl) ?_
            refine va_get (D := D) (ci := 2) (v := .ref (A 100)) (C := RX2) (T := TX2) (N := 2) hx hb hts (fun _ h => List.mem_cons_of_mem _ (List.mem_append_left _ (List.mem_append_right _ h))) hown hK hP 0 rfl rfl 0 (by decide) (hts _ fl_X2_wall_10) (fun _ h9 => h9) rfl dX2_wall_51 ?_
            refine lv_iload_n hx hb dX2_wall_54 rfl (lv_at hl 2 rfl) ?_
            refine lv_iload_n hx hb dX2_wall_55 rfl (lv_at hl 3 rfl) ?_
            refine lv_iload_n hx hb dX2_wall_56 rfl (lv_at hl 4 rfl) ?_
            refine lv_iload hx hb dX2_wall_57 (lv_at hl 5 rfl) ?_
            refine lv_iload hx hb dX2_wall_59 (lv_at hl 6 rfl) ?_
            refine r_callM (w1 := (wX x A B)) (w2 := (wL cy B τ)) (va_runV (As := [.int (iI px), .int (iI py), .int (iI qx), .int (iI qy), .int (iI v)]) (rest := []) ⟨hx, hb, hml, hown, hts⟩ (c_X1_addWall l D cy A σ (s.heap.size) px py qx qy v hI (by omega) (by omega) (by omega) (by omega) (by omega)) (cwV 5 hts gX2_wall_X1_addWall rfl rfl rfl (by decide +kernel) ⟨Nat.le_of_ble_eq_true rfl, Nat.le_of_ble_eq_true rfl⟩) (pv_rw (C := RX1) (T := TX1) (N := 19) (ci := 1) (q0 := 0) (vpL (a := wN cy A σ) (b := wL cy B τ) (vpR (a := wX x A B) hP)) hK (vdL (a := wN cy A σ) (b := wL cy B τ) (vdR (a := wX x A B) hD)) rfl rfl) rfl rfl hl.1 rfl (lv_room (Nat.le_of_ble_eq_true rfl)) dX2_wall_61 ⟨Nat.le_of_ble_eq_true rfl, Nat.le_of_ble_eq_true rfl⟩) hP hD hS hA (fun _ => rfl) (fun u11 H locs hp12 hP hD hS => ?_)
            have hP : va_P D vwCl (wP cy x A B (nAddW σ px py qx qy v) τ) H := hP
            have hD : va_D AA (wP cy x A B (nAddW σ px py qx qy v) τ) := hD
            exact r_retM () hx hb hr hlocks hS dX2_wall_64 (by first | exact (if_pos (by omega)).symm | exact (if_neg (by omega)).symm) trivial (by first | (rw [if_pos (by omega)]; exact hP) | (rw [if_neg (by omega)]; exact hP))
          · -- 45 to 48
            refine lv_iconst (v := iI (-1)) hx hb dX2_wall_48 rfl ?_
            exact r_retM () hx hb hr hlocks hS dX2_wall_49 (by first | exact (if_pos (by omega)).symm | exact (if_neg (by omega)).symm) trivial (by first | (rw [if_pos (by omega)]; exact hP) | (rw [if_neg (by omega)]; exact hP))
    · -- 8 to 11
      refine lv_iconst (v := iI 1) hx hb dX2_wall_11 rfl ?_
      refine lv_goto (tgt := 16) hx hb dX2_wall_12 (by decide) ?_
      refine lv_istore (lv' := [(6, .int (iI 1)), (0, .ref x), (1, .int (iI px)), (2, .int (iI py)), (3, .int (iI qx)), (4, .int (iI qy)), (5, .int (iI v))]) hx hb dX2_wall_16 hl (by decide) rfl (fun ls hl => ?_)
      refine lv_iload_n hx hb dX2_wall_18 rfl (lv_at hl 2 rfl) ?_
      refine lv_iload_n hx hb dX2_wall_19 rfl (lv_at hl 3 rfl) ?_
      refine r_calli (va_runS (As := [.int (iI px), .int (iI py)]) (rest := []) ⟨hx, hb, hml, hown, hts⟩ (c_X2_isPoint l  px py (by omega) (by omega)) (va_cwS 2 hts gX2_wall_X2_isPoint rfl rfl rfl (by decide +kernel) ⟨Nat.le_of_ble_eq_true rfl, Nat.le_of_ble_eq_true rfl⟩) ps_T rfl rfl hl.1 rfl (lv_room (Nat.le_of_ble_eq_true rfl)) dX2_wall_20 ⟨Nat.le_of_ble_eq_true rfl, Nat.le_of_ble_eq_true rfl⟩) ?_
      refine r_ifB_eq (tgt := 48) hx hb dX2_wall_23 (by decide) (fun h13 => ?_) (fun h13 => ?_)
      · -- 23 to 48
        refine lv_iconst (v := iI (-1)) hx hb dX2_wall_48 rfl ?_
        exact r_retM () hx hb hr hlocks hS dX2_wall_49 (by first | exact (if_pos (by omega)).symm | exact (if_neg (by omega)).symm) trivial (by first | (rw [if_pos (by omega)]; exact hP) | (rw [if_neg (by omega)]; exact hP))
      · -- 23 to 26
        refine lv_iload_n hx hb dX2_wall_26 rfl (lv_at hl 4 rfl) ?_
        refine lv_iload hx hb dX2_wall_27 (lv_at hl 5 rfl) ?_
        refine r_calli (va_runS (As := [.int (iI qx), .int (iI qy)]) (rest := []) ⟨hx, hb, hml, hown, hts⟩ (c_X2_isPoint l  qx qy (by omega) (by omega)) (va_cwS 2 hts gX2_wall_X2_isPoint rfl rfl rfl (by decide +kernel) ⟨Nat.le_of_ble_eq_true rfl, Nat.le_of_ble_eq_true rfl⟩) ps_T rfl rfl hl.1 rfl (lv_room (Nat.le_of_ble_eq_true rfl)) dX2_wall_29 ⟨Nat.le_of_ble_eq_true rfl, Nat.le_of_ble_eq_true rfl⟩) ?_
        refine r_ifB_eq (tgt := 48) hx hb dX2_wall_32 (by decide) (fun h14 => ?_) (fun h14 => ?_)
        · -- 32 to 48
          refine lv_iconst (v := iI (-1)) hx hb dX2_wall_48 rfl ?_
          exact r_retM () hx hb hr hlocks hS dX2_wall_49 (by first | exact (if_pos (by omega)).symm | exact (if_neg (by omega)).symm) trivial (by first | (rw [if_pos (by omega)]; exact hP) | (rw [if_neg (by omega)]; exact hP))
        · -- 32 to 35
          refine lv_iload hx hb dX2_wall_35 (lv_at hl 0 rfl) ?_
          refine r_if_ne (tgt := 48) hx hb dX2_wall_37 (by decide) (by omega) (fun _ => ?_) (fun h => absurd h (by decide))
          refine lv_iconst (v := iI (-1)) hx hb dX2_wall_48 rfl ?_
          exact r_retM () hx hb hr hlocks hS dX2_wall_49 (by first | exact (if_pos (by omega)).symm | exact (if_neg (by omega)).symm) trivial (by first | (rw [if_pos (by omega)]; exact hP) | (rw [if_neg (by omega)]; exact hP))
theorem fl_X2_fall_10 : Cond.fieldLink RX2 10 "NoiseLamps" "noise" "LNoiseLamps$Noise;" ∈ wsX2_fall := by decide +kernel
set_option maxHeartbeats 4000000 in
set_option maxRecDepth 100000 in
theorem c_X2_fall (l : Launch) (D : va_G) (cy : ClassId) (x : Nat) (A B : Nat → Nat) (σ τ : Nat → Int → Int) (sz : Nat) (a : Int) (hI : invN σ) (hJ : invL τ) (hd : ∀ k, I32 (σ 18 k)) (hza : I32 a) : MetM l yX2_fall wsX2_fall ({ frames := 1, cells := 0, slots := 0, locals := 22 } : Room) D cy (wP cy x A B σ τ) ([.ref x, .int (iI a)] : List Value) sz (fun _ : Unit => (if 0 ≤ a ∧ a ≤ 60 then σ 14 0 else -1)) (fun _ : Unit => True) (fun _ : Unit => wP cy x A B (if 0 ≤ a ∧ a ≤ 60 then su σ 14 (fun _ => a) else σ) τ) := by
  refine met_M (cc := cX2_fall) (maxL := 2) (ret := (some .int)) (by decide) rfl (Nat.le_of_ble_eq_true rfl) ?_
  intro p e s m below meth c AA hAA hx hb hr hml hts hown hlocks hP hK hD hA ls hl
  have hS : va_S AA s.heap s.heap [] := va_S.rf
  have hown : s.vm.findClass RX2 = some m.cls := hown
  have hl : lv_has ls 2 [(0, .ref x), (1, .int (iI a))] := hl
  obtain ⟨hN0, hN4, hN8, hN14, hB1, hB2, hB3, hB5, hB6, hB7, hB9, hB10, hB11, hB12, hB13, hB15, hB16, hB17⟩ := id hI
  obtain ⟨hL3, hB0, hC1, hC2⟩ := id hJ
  refine lv_iload_n hx hb dX2_fall_0 rfl (lv_at hl 1 rfl) ?_
  refine lv_iconst (v := iI 0) hx hb dX2_fall_1 rfl ?_
  refine lv_bipush (v := iI 60) hx hb dX2_fall_2 (by decide +kernel) ?_
  refine r_calli (va_runS (As := [.int (iI a), .int (iI 0), .int (iI 60)]) (rest := []) ⟨hx, hb, hml, hown, hts⟩ (c_X2_isWithin l  a 0 60 (by omega) (by omega) (by omega)) (va_cwS 3 hts gX2_fall_X2_isWithin rfl rfl rfl (by decide +kernel) ⟨Nat.le_of_ble_eq_true rfl, Nat.le_of_ble_eq_true rfl⟩) ps_T rfl rfl hl.1 rfl (lv_room (Nat.le_of_ble_eq_true rfl)) dX2_fall_4 ⟨Nat.le_of_ble_eq_true rfl, Nat.le_of_ble_eq_true rfl⟩) ?_
  refine r_ifB_eq (tgt := 21) hx hb dX2_fall_7 (by decide) (fun h1 => ?_) (fun h1 => ?_)
  · -- 7 to 21
    refine lv_iconst (v := iI (-1)) hx hb dX2_fall_21 rfl ?_
    exact r_retM () hx hb hr hlocks hS dX2_fall_22 (by first | exact (if_pos (by omega)).symm | exact (if_neg (by omega)).symm) trivial (by first | (rw [if_pos (by omega)]; exact hP) | (rw [if_neg (by omega)]; exact hP))
  · -- 7 to 10
    refine lv_aload_n hx hb dX2_fall_10 rfl (lv_at hl 0 rfl) ?_
    refine va_get (D := D) (ci := 2) (v := .ref (A 100)) (C := RX2) (T := TX2) (N := 2) hx hb hts (fun _ h => List.mem_cons_of_mem _ (List.mem_append_left _ (List.mem_append_right _ h))) hown hK hP 0 rfl rfl 0 (by decide) (hts _ fl_X2_fall_10) (fun _ h9 => h9) rfl dX2_fall_11 ?_
    refine lv_iload_n hx hb dX2_fall_14 rfl (lv_at hl 1 rfl) ?_
    refine r_callM (w1 := (wX x A B)) (w2 := (wL cy B τ)) (va_runV (As := [.int (iI a)]) (rest := []) ⟨hx, hb, hml, hown, hts⟩ (c_X1_changeFall l D cy A σ (s.heap.size) a hI (by omega)) (cwV 1 hts gX2_fall_X1_changeFall rfl rfl rfl (by decide +kernel) ⟨Nat.le_of_ble_eq_true rfl, Nat.le_of_ble_eq_true rfl⟩) (pv_rw (C := RX1) (T := TX1) (N := 19) (ci := 1) (q0 := 0) (vpL (a := wN cy A σ) (b := wL cy B τ) (vpR (a := wX x A B) hP)) hK (vdL (a := wN cy A σ) (b := wL cy B τ) (vdR (a := wX x A B) hD)) rfl rfl) rfl rfl hl.1 rfl (lv_room (Nat.le_of_ble_eq_true rfl)) dX2_fall_15 ⟨Nat.le_of_ble_eq_true rfl, Nat.le_of_ble_eq_true rfl⟩) hP hD hS hA (fun _ => rfl) (fun u2 H locs hp3 hP hD hS => ?_)
    have hP : va_P D vwCl (wP cy x A B (su σ 14 (fun _ => a)) τ) H := hP
    have hD : va_D AA (wP cy x A B (su σ 14 (fun _ => a)) τ) := hD
    refine lv_goto (tgt := 22) hx hb dX2_fall_18 (by decide) ?_
    exact r_retM () hx hb hr hlocks hS dX2_fall_22 (by first | exact (if_pos (by omega)).symm | exact (if_neg (by omega)).symm) trivial (by first | (rw [if_pos (by omega)]; exact hP) | (rw [if_neg (by omega)]; exact hP))
theorem fl_X2_malus_10 : Cond.fieldLink RX2 10 "NoiseLamps" "noise" "LNoiseLamps$Noise;" ∈ wsX2_malus := by decide +kernel
set_option maxHeartbeats 4000000 in
set_option maxRecDepth 100000 in
theorem c_X2_malus (l : Launch) (D : va_G) (cy : ClassId) (x : Nat) (A B : Nat → Nat) (σ τ : Nat → Int → Int) (sz : Nat) (a z : Int) (hI : invN σ) (hJ : invL τ) (hd : ∀ k, I32 (σ 18 k)) (hza : I32 a) (hzz : I32 z) : MetM l yX2_malus wsX2_malus ({ frames := 2, cells := 0, slots := 0, locals := 42 } : Room) D cy (wP cy x A B σ τ) ([.ref x, .int (iI a), .int (iI z)] : List Value) sz (fun _ : Unit => (if (0 ≤ a ∧ a ≤ 2) ∧ (0 ≤ z ∧ z ≤ 200) then σ 15 a else -1)) (fun _ : Unit => True) (fun _ : Unit => wP cy x A B (if (0 ≤ a ∧ a ≤ 2) ∧ (0 ≤ z ∧ z ≤ 200) then su σ 15 (up (σ 15) a z) else σ) τ) := by
  refine met_M (cc := cX2_malus) (maxL := 3) (ret := (some .int)) (by decide) rfl (Nat.le_of_ble_eq_true rfl) ?_
  intro p e s m below meth c AA hAA hx hb hr hml hts hown hlocks hP hK hD hA ls hl
  have hS : va_S AA s.heap s.heap [] := va_S.rf
  have hown : s.vm.findClass RX2 = some m.cls := hown
  have hl : lv_has ls 3 [(0, .ref x), (1, .int (iI a)), (2, .int (iI z))] := hl
  obtain ⟨hN0, hN4, hN8, hN14, hB1, hB2, hB3, hB5, hB6, hB7, hB9, hB10, hB11, hB12, hB13, hB15, hB16, hB17⟩ := id hI
  obtain ⟨hL3, hB0, hC1, hC2⟩ := id hJ
  refine lv_iload_n hx hb dX2_malus_0 rfl (lv_at hl 1 rfl) ?_
  refine r_calli (va_runS (As := [.int (iI a)]) (rest := []) ⟨hx, hb, hml, hown, hts⟩ (c_X2_isPart l  a (by omega)) (va_cwS 1 hts gX2_malus_X2_isPart rfl rfl rfl (by decide +kernel) ⟨Nat.le_of_ble_eq_true rfl, Nat.le_of_ble_eq_true rfl⟩) ps_T rfl rfl hl.1 rfl (lv_room (Nat.le_of_ble_eq_true rfl)) dX2_malus_1 ⟨Nat.le_of_ble_eq_true rfl, Nat.le_of_ble_eq_true rfl⟩) ?_
  refine r_ifB_eq (tgt := 18) hx hb dX2_malus_4 (by decide) (fun h1 => ?_) (fun h1 => ?_)
  · -- 4 to 18
    refine lv_iconst (v := iI (-1)) hx hb dX2_malus_18 rfl ?_
    exact r_retM () hx hb hr hlocks hS dX2_malus_19 (by first | exact (if_pos (by omega)).symm | exact (if_neg (by omega)).symm) trivial (by first | (rw [if_pos (by omega)]; exact hP) | (rw [if_neg (by omega)]; exact hP))
  · -- 4 to 7
    refine lv_iload_n hx hb dX2_malus_7 rfl (lv_at hl 2 rfl) ?_
    refine lv_iconst (v := iI 0) hx hb dX2_malus_8 rfl ?_
    refine lv_sipush (v := iI 200) hx hb dX2_malus_9 (by decide +kernel) ?_
    refine r_calli (va_runS (As := [.int (iI z), .int (iI 0), .int (iI 200)]) (rest := []) ⟨hx, hb, hml, hown, hts⟩ (c_X2_isWithin l  z 0 200 (by omega) (by omega) (by omega)) (va_cwS 3 hts gX2_malus_X2_isWithin rfl rfl rfl (by decide +kernel) ⟨Nat.le_of_ble_eq_true rfl, Nat.le_of_ble_eq_true rfl⟩) ps_T rfl rfl hl.1 rfl (lv_room (Nat.le_of_ble_eq_true rfl)) dX2_malus_12 ⟨Nat.le_of_ble_eq_true rfl, Nat.le_of_ble_eq_true rfl⟩) ?_
    refine r_ifB_ne (tgt := 20) hx hb dX2_malus_15 (by decide) (fun h2 => ?_) (fun h2 => ?_)
    · -- 15 to 20
      refine lv_aload_n hx hb dX2_malus_20 rfl (lv_at hl 0 rfl) ?_
      refine va_get (D := D) (ci := 2) (v := .ref (A 100)) (C := RX2) (T := TX2) (N := 2) hx hb hts (fun _ h => List.mem_cons_of_mem _ (List.mem_append_left _ (List.mem_append_right _ h))) hown hK hP 0 rfl rfl 0 (by decide) (hts _ fl_X2_malus_10) (fun _ h9 => h9) rfl dX2_malus_21 ?_
      refine lv_iload_n hx hb dX2_malus_24 rfl (lv_at hl 1 rfl) ?_
      refine lv_iload_n hx hb dX2_malus_25 rfl (lv_at hl 2 rfl) ?_
      refine r_callM (w1 := (wX x A B)) (w2 := (wL cy B τ)) (va_runV (As := [.int (iI a), .int (iI z)]) (rest := []) ⟨hx, hb, hml, hown, hts⟩ (c_X1_changeMalus l D cy A σ (s.heap.size) a z hI (by omega) (by omega)) (cwV 2 hts gX2_malus_X1_changeMalus rfl rfl rfl (by decide +kernel) ⟨Nat.le_of_ble_eq_true rfl, Nat.le_of_ble_eq_true rfl⟩) (pv_rw (C := RX1) (T := TX1) (N := 19) (ci := 1) (q0 := 0) (vpL (a := wN cy A σ) (b := wL cy B τ) (vpR (a := wX x A B) hP)) hK (vdL (a := wN cy A σ) (b := wL cy B τ) (vdR (a := wX x A B) hD)) rfl rfl) rfl rfl hl.1 rfl (lv_room (Nat.le_of_ble_eq_true rfl)) dX2_malus_26 ⟨Nat.le_of_ble_eq_true rfl, Nat.le_of_ble_eq_true rfl⟩) hP hD hS hA (fun _ => rfl) (fun u3 H locs hp4 hP hD hS => ?_)
      have hP : va_P D vwCl (wP cy x A B (su σ 15 (up (σ 15) a z)) τ) H := hP
      have hD : va_D AA (wP cy x A B (su σ 15 (up (σ 15) a z)) τ) := hD
      exact r_retM () hx hb hr hlocks hS dX2_malus_29 (by first | exact (if_pos (by omega)).symm | exact (if_neg (by omega)).symm) trivial (by first | (rw [if_pos (by omega)]; exact hP) | (rw [if_neg (by omega)]; exact hP))
    · -- 15 to 18
      refine lv_iconst (v := iI (-1)) hx hb dX2_malus_18 rfl ?_
      exact r_retM () hx hb hr hlocks hS dX2_malus_19 (by first | exact (if_pos (by omega)).symm | exact (if_neg (by omega)).symm) trivial (by first | (rw [if_pos (by omega)]; exact hP) | (rw [if_neg (by omega)]; exact hP))
theorem fl_X2_recut_10 : Cond.fieldLink RX2 10 "NoiseLamps" "noise" "LNoiseLamps$Noise;" ∈ wsX2_recut := by decide +kernel
set_option maxHeartbeats 4000000 in
set_option maxRecDepth 100000 in
theorem c_X2_recut (l : Launch) (D : va_G) (cy : ClassId) (x : Nat) (A B : Nat → Nat) (σ τ : Nat → Int → Int) (sz : Nat) (a z : Int) (hI : invN σ) (hJ : invL τ) (hd : ∀ k, I32 (σ 18 k)) (hza : I32 a) (hzz : I32 z) : MetM l yX2_recut wsX2_recut ({ frames := 2, cells := 0, slots := 0, locals := 42 } : Room) D cy (wP cy x A B σ τ) ([.ref x, .int (iI a), .int (iI z)] : List Value) sz (fun _ : Unit => (if (0 ≤ a ∧ a < σ 8 0) ∧ (0 ≤ z ∧ z ≤ 300) then σ 13 a else -1)) (fun _ : Unit => True) (fun _ : Unit => wP cy x A B (if (0 ≤ a ∧ a < σ 8 0) ∧ (0 ≤ z ∧ z ≤ 300) then su σ 13 (up (σ 13) a z) else σ) τ) := by
  refine met_M (cc := cX2_recut) (maxL := 3) (ret := (some .int)) (by decide) rfl (Nat.le_of_ble_eq_true rfl) ?_
  intro p e s m below meth c AA hAA hx hb hr hml hts hown hlocks hP hK hD hA ls hl
  have hS : va_S AA s.heap s.heap [] := va_S.rf
  have hown : s.vm.findClass RX2 = some m.cls := hown
  have hl : lv_has ls 3 [(0, .ref x), (1, .int (iI a)), (2, .int (iI z))] := hl
  obtain ⟨hN0, hN4, hN8, hN14, hB1, hB2, hB3, hB5, hB6, hB7, hB9, hB10, hB11, hB12, hB13, hB15, hB16, hB17⟩ := id hI
  obtain ⟨hL3, hB0, hC1, hC2⟩ := id hJ
  refine lv_aload_n hx hb dX2_recut_0 rfl (lv_at hl 0 rfl) ?_
  refine va_get (D := D) (ci := 2) (v := .ref (A 100)) (C := RX2) (T := TX2) (N := 2) hx hb hts (fun _ h => List.mem_cons_of_mem _ (List.mem_append_left _ (List.mem_append_right _ h))) hown hK hP 0 rfl rfl 0 (by decide) (hts _ fl_X2_recut_10) (fun _ h9 => h9) rfl dX2_recut_1 ?_
  refine lv_iload_n hx hb dX2_recut_4 rfl (lv_at hl 1 rfl) ?_
  refine r_calli (va_runV (As := [.int (iI a)]) (rest := []) ⟨hx, hb, hml, hown, hts⟩ (c_X1_hasWall l D cy A σ a hI (by omega)) (cwV 1 hts gX2_recut_X1_hasWall rfl rfl rfl (by decide +kernel) ⟨Nat.le_of_ble_eq_true rfl, Nat.le_of_ble_eq_true rfl⟩) (pv_ro (C := RX1) (T := TX1) (N := 19) (ci := 1) (q0 := 0) (vpL (a := wN cy A σ) (b := wL cy B τ) (vpR (a := wX x A B) hP)) hK rfl rfl) rfl rfl hl.1 rfl (lv_room (Nat.le_of_ble_eq_true rfl)) dX2_recut_5 ⟨Nat.le_of_ble_eq_true rfl, Nat.le_of_ble_eq_true rfl⟩) ?_
  refine r_ifB_eq (tgt := 30) hx hb dX2_recut_8 (by decide) (fun h1 => ?_) (fun h1 => ?_)
  · -- 8 to 30
    refine lv_iconst (v := iI (-1)) hx hb dX2_recut_30 rfl ?_
    exact r_retM () hx hb hr hlocks hS dX2_recut_31 (by first | exact (if_pos (by omega)).symm | exact (if_neg (by omega)).symm) trivial (by first | (rw [if_pos (by omega)]; exact hP) | (rw [if_neg (by omega)]; exact hP))
  · -- 8 to 11
    refine lv_iload_n hx hb dX2_recut_11 rfl (lv_at hl 2 rfl) ?_
    refine r_calli (va_runS (As := [.int (iI z)]) (rest := []) ⟨hx, hb, hml, hown, hts⟩ (c_X2_isCut l  z (by omega)) (va_cwS 1 hts gX2_recut_X2_isCut rfl rfl rfl (by decide +kernel) ⟨Nat.le_of_ble_eq_true rfl, Nat.le_of_ble_eq_true rfl⟩) ps_T rfl rfl hl.1 rfl (lv_room (Nat.le_of_ble_eq_true rfl)) dX2_recut_12 ⟨Nat.le_of_ble_eq_true rfl, Nat.le_of_ble_eq_true rfl⟩) ?_
    refine r_ifB_eq (tgt := 30) hx hb dX2_recut_15 (by decide) (fun h2 => ?_) (fun h2 => ?_)
    · -- 15 to 30
      refine lv_iconst (v := iI (-1)) hx hb dX2_recut_30 rfl ?_
      exact r_retM () hx hb hr hlocks hS dX2_recut_31 (by first | exact (if_pos (by omega)).symm | exact (if_neg (by omega)).symm) trivial (by first | (rw [if_pos (by omega)]; exact hP) | (rw [if_neg (by omega)]; exact hP))
    · -- 15 to 18
      refine lv_aload_n hx hb dX2_recut_18 rfl (lv_at hl 0 rfl) ?_
      refine va_get (D := D) (ci := 2) (v := .ref (A 100)) (C := RX2) (T := TX2) (N := 2) hx hb hts (fun _ h => List.mem_cons_of_mem _ (List.mem_append_left _ (List.mem_append_right _ h))) hown hK hP 0 rfl rfl 0 (by decide) (hts _ fl_X2_recut_10) (fun _ h9 => h9) rfl dX2_recut_19 ?_
      refine lv_iload_n hx hb dX2_recut_22 rfl (lv_at hl 1 rfl) ?_
      refine lv_iload_n hx hb dX2_recut_23 rfl (lv_at hl 2 rfl) ?_
      refine r_callM (w1 := (wX x A B)) (w2 := (wL cy B τ)) (va_runV (As := [.int (iI a), .int (iI z)]) (rest := []) ⟨hx, hb, hml, hown, hts⟩ (c_X1_changeCut l D cy A σ (s.heap.size) a z hI (by omega) (by omega)) (cwV 2 hts gX2_recut_X1_changeCut rfl rfl rfl (by decide +kernel) ⟨Nat.le_of_ble_eq_true rfl, Nat.le_of_ble_eq_true rfl⟩) (pv_rw (C := RX1) (T := TX1) (N := 19) (ci := 1) (q0 := 0) (vpL (a := wN cy A σ) (b := wL cy B τ) (vpR (a := wX x A B) hP)) hK (vdL (a := wN cy A σ) (b := wL cy B τ) (vdR (a := wX x A B) hD)) rfl rfl) rfl rfl hl.1 rfl (lv_room (Nat.le_of_ble_eq_true rfl)) dX2_recut_24 ⟨Nat.le_of_ble_eq_true rfl, Nat.le_of_ble_eq_true rfl⟩) hP hD hS hA (fun _ => rfl) (fun u3 H locs hp4 hP hD hS => ?_)
      have hP : va_P D vwCl (wP cy x A B (su σ 13 (up (σ 13) a z)) τ) H := hP
      have hD : va_D AA (wP cy x A B (su σ 13 (up (σ 13) a z)) τ) := hD
      refine lv_goto (tgt := 31) hx hb dX2_recut_27 (by decide) ?_
      exact r_retM () hx hb hr hlocks hS dX2_recut_31 (by first | exact (if_pos (by omega)).symm | exact (if_neg (by omega)).symm) trivial (by first | (rw [if_pos (by omega)]; exact hP) | (rw [if_neg (by omega)]; exact hP))
theorem fl_X2_lamp_19 : Cond.fieldLink RX2 19 "NoiseLamps" "lamps" "LNoiseLamps$Lamps;" ∈ wsX2_lamp := by decide +kernel
set_option maxHeartbeats 4000000 in
set_option maxRecDepth 100000 in
theorem c_X2_lamp (l : Launch) (D : va_G) (cy : ClassId) (x : Nat) (A B : Nat → Nat) (σ τ : Nat → Int → Int) (sz : Nat) (a z : Int) (hI : invN σ) (hJ : invL τ) (hd : ∀ k, I32 (σ 18 k)) (hza : I32 a) (hzz : I32 z) : MetM l yX2_lamp wsX2_lamp ({ frames := 1, cells := 0, slots := 0, locals := 23 } : Room) D cy (wP cy x A B σ τ) ([.ref x, .int (iI a), .int (iI z)] : List Value) sz (fun _ : Unit => (if (0 ≤ a ∧ a ≤ 300) ∧ a % 10 = 0 ∧ (0 ≤ z ∧ z ≤ 100000) then τ 0 (a / 10) else -1)) (fun _ : Unit => True) (fun _ : Unit => wP cy x A B σ (if (0 ≤ a ∧ a ≤ 300) ∧ a % 10 = 0 ∧ (0 ≤ z ∧ z ≤ 100000) then su τ 0 (up (τ 0) (a / 10) z) else τ)) := by
  refine met_M (cc := cX2_lamp) (maxL := 4) (ret := (some .int)) (by decide) rfl (Nat.le_of_ble_eq_true rfl) ?_
  intro p e s m below meth c AA hAA hx hb hr hml hts hown hlocks hP hK hD hA ls hl
  have hS : va_S AA s.heap s.heap [] := va_S.rf
  have hown : s.vm.findClass RX2 = some m.cls := hown
  have hl : lv_has ls 4 [(0, .ref x), (1, .int (iI a)), (2, .int (iI z))] := hl
  obtain ⟨hN0, hN4, hN8, hN14, hB1, hB2, hB3, hB5, hB6, hB7, hB9, hB10, hB11, hB12, hB13, hB15, hB16, hB17⟩ := id hI
  obtain ⟨hL3, hB0, hC1, hC2⟩ := id hJ
  refine lv_iload_n hx hb dX2_lamp_0 rfl (lv_at hl 1 rfl) ?_
  refine lv_iconst (v := iI 0) hx hb dX2_lamp_1 rfl ?_
  refine lv_sipush (v := iI 300) hx hb dX2_lamp_2 (by decide +kernel) ?_
  refine r_calli (va_runS (As := [.int (iI a), .int (iI 0), .int (iI 300)]) (rest := []) ⟨hx, hb, hml, hown, hts⟩ (c_X2_isWithin l  a 0 300 (by omega) (by omega) (by omega)) (va_cwS 3 hts gX2_lamp_X2_isWithin rfl rfl rfl (by decide +kernel) ⟨Nat.le_of_ble_eq_true rfl, Nat.le_of_ble_eq_true rfl⟩) ps_T rfl rfl hl.1 rfl (lv_room (Nat.le_of_ble_eq_true rfl)) dX2_lamp_5 ⟨Nat.le_of_ble_eq_true rfl, Nat.le_of_ble_eq_true rfl⟩) ?_
  refine r_ifB_eq (tgt := 22) hx hb dX2_lamp_8 (by decide) (fun h1 => ?_) (fun h1 => ?_)
  · -- 8 to 22
    refine lv_iconst (v := iI 0) hx hb dX2_lamp_22 rfl ?_
    refine lv_istore_n (lv' := [(3, .int (iI 0)), (0, .ref x), (1, .int (iI a)), (2, .int (iI z))]) hx hb dX2_lamp_23 rfl hl (by decide) rfl (fun ls hl => ?_)
    refine lv_iload_n hx hb dX2_lamp_24 rfl (lv_at hl 0 rfl) ?_
    refine r_if_eq (tgt := 38) hx hb dX2_lamp_25 (by decide) (by omega) (fun _ => ?_) (fun h => absurd h (by decide))
    refine lv_iconst (v := iI (-1)) hx hb dX2_lamp_38 rfl ?_
    exact r_retM () hx hb hr hlocks hS dX2_lamp_39 (by first | rw [if_pos (by omega)] | rw [if_neg (by omega)]) trivial (by first | (rw [if_pos (by omega)]; exact hP) | (rw [if_neg (by omega)]; exact hP))
  · -- 8 to 11
    refine lv_iload_n hx hb dX2_lamp_11 rfl (lv_at hl 1 rfl) ?_
    refine lv_bipush (v := iI 10) hx hb dX2_lamp_12 (by decide +kernel) ?_
    refine r_irem hx hb dX2_lamp_14 (by omega) (by omega) ?_
    refine r_if_ne (tgt := 22) hx hb dX2_lamp_15 (by decide) (by omega) (fun h2 => ?_) (fun h2 => ?_)
    · -- 15 to 22
      refine lv_iconst (v := iI 0) hx hb dX2_lamp_22 rfl ?_
      refine lv_istore_n (lv' := [(3, .int (iI 0)), (0, .ref x), (1, .int (iI a)), (2, .int (iI z))]) hx hb dX2_lamp_23 rfl hl (by decide) rfl (fun ls hl => ?_)
      refine lv_iload_n hx hb dX2_lamp_24 rfl (lv_at hl 0 rfl) ?_
      refine r_if_eq (tgt := 38) hx hb dX2_lamp_25 (by decide) (by omega) (fun _ => ?_) (fun h => absurd h (by decide))
      refine lv_iconst (v := iI (-1)) hx hb dX2_lamp_38 rfl ?_
      exact r_retM () hx hb hr hlocks hS dX2_lamp_39 (by first | rw [if_pos (by omega)] | rw [if_neg (by omega)]) trivial (by first | (rw [if_pos (by omega)]; exact hP) | (rw [if_neg (by omega)]; exact hP))
    · -- 15 to 18
      refine lv_iconst (v := iI 1) hx hb dX2_lamp_18 rfl ?_
      refine lv_goto (tgt := 23) hx hb dX2_lamp_19 (by decide) ?_
      refine lv_istore_n (lv' := [(3, .int (iI 1)), (0, .ref x), (1, .int (iI a)), (2, .int (iI z))]) hx hb dX2_lamp_23 rfl hl (by decide) rfl (fun ls hl => ?_)
      refine lv_iload_n hx hb dX2_lamp_24 rfl (lv_at hl 0 rfl) ?_
      refine r_if_eq (tgt := 38) hx hb dX2_lamp_25 (by decide) (by omega) (fun h => absurd h (by decide)) (fun _ => ?_)
      refine lv_iload_n hx hb dX2_lamp_28 rfl (lv_at hl 3 rfl) ?_
      refine lv_iconst (v := iI 0) hx hb dX2_lamp_29 rfl ?_
      refine lv_ldc (v := iI 100000) hx hb hown (by rw [show iI 100000 = 100000 from by decide +kernel]; exact hts (.constant RX2 93 (100000)) (by decide +kernel)) dX2_lamp_30 ?_
      refine r_calli (va_runS (As := [.int (iI z), .int (iI 0), .int (iI 100000)]) (rest := []) ⟨hx, hb, hml, hown, hts⟩ (c_X2_isWithin l  z 0 100000 (by omega) (by omega) (by omega)) (va_cwS 3 hts gX2_lamp_X2_isWithin rfl rfl rfl (by decide +kernel) ⟨Nat.le_of_ble_eq_true rfl, Nat.le_of_ble_eq_true rfl⟩) ps_T rfl rfl hl.1 rfl (lv_room (Nat.le_of_ble_eq_true rfl)) dX2_lamp_32 ⟨Nat.le_of_ble_eq_true rfl, Nat.le_of_ble_eq_true rfl⟩) ?_
      refine r_ifB_ne (tgt := 40) hx hb dX2_lamp_35 (by decide) (fun h3 => ?_) (fun h3 => ?_)
      · -- 35 to 40
        refine lv_aload_n hx hb dX2_lamp_40 rfl (lv_at hl 1 rfl) ?_
        refine va_get (D := D) (ci := 2) (v := .ref (B 100)) (C := RX2) (T := TX2) (N := 2) hx hb hts (fun _ h => List.mem_cons_of_mem _ (List.mem_append_left _ (List.mem_append_right _ h))) hown hK hP 0 rfl rfl 1 (by decide) (hts _ fl_X2_lamp_19) (fun _ h9 => h9) rfl dX2_lamp_41 ?_
        refine lv_iload_n hx hb dX2_lamp_44 rfl (lv_at hl 2 rfl) ?_
        refine lv_iload_n hx hb dX2_lamp_45 rfl (lv_at hl 3 rfl) ?_
        refine r_callM (w1 := (wX x A B ++ wN cy A σ)) (w2 := ([] : va_W)) (va_runV (As := [.int (iI a), .int (iI z)]) (rest := []) ⟨hx, hb, hml, hown, hts⟩ (c_X0_changeLight l D cy B τ (s.heap.size) a z hJ (by omega) (by omega)) (cwV 2 hts gX2_lamp_X0_changeLight rfl rfl rfl (by decide +kernel) ⟨Nat.le_of_ble_eq_true rfl, Nat.le_of_ble_eq_true rfl⟩) (pv_rw (C := RX0) (T := TX0) (N := 4) (ci := 0) (q0 := 0) (vpR (a := wN cy A σ) (b := wL cy B τ) (vpR (a := wX x A B) hP)) hK (vdR (a := wN cy A σ) (b := wL cy B τ) (vdR (a := wX x A B) hD)) rfl rfl) rfl rfl hl.1 rfl (lv_room (Nat.le_of_ble_eq_true rfl)) dX2_lamp_46 ⟨Nat.le_of_ble_eq_true rfl, Nat.le_of_ble_eq_true rfl⟩) hP hD hS hA (fun _ => rfl) (fun u4 H locs hp5 hP hD hS => ?_)
        have hP : va_P D vwCl (wP cy x A B σ (su τ 0 (up (τ 0) (a / 10) z))) H := hP
        have hD : va_D AA (wP cy x A B σ (su τ 0 (up (τ 0) (a / 10) z))) := hD
        exact r_retM () hx hb hr hlocks hS dX2_lamp_49 (by first | rw [if_pos (by omega)] | rw [if_neg (by omega)]) trivial (by first | (rw [if_pos (by omega)]; exact hP) | (rw [if_neg (by omega)]; exact hP))
      · -- 35 to 38
        refine lv_iconst (v := iI (-1)) hx hb dX2_lamp_38 rfl ?_
        exact r_retM () hx hb hr hlocks hS dX2_lamp_39 (by first | rw [if_pos (by omega)] | rw [if_neg (by omega)]) trivial (by first | (rw [if_pos (by omega)]; exact hP) | (rw [if_neg (by omega)]; exact hP))
theorem fl_X2_road_19 : Cond.fieldLink RX2 19 "NoiseLamps" "lamps" "LNoiseLamps$Lamps;" ∈ wsX2_road := by decide +kernel
set_option maxHeartbeats 4000000 in
set_option maxRecDepth 100000 in
theorem c_X2_road (l : Launch) (D : va_G) (cy : ClassId) (x : Nat) (A B : Nat → Nat) (σ τ : Nat → Int → Int) (sz : Nat) (a : Int) (hI : invN σ) (hJ : invL τ) (hd : ∀ k, I32 (σ 18 k)) (hza : I32 a) : MetM l yX2_road wsX2_road ({ frames := 1, cells := 0, slots := 0, locals := 22 } : Room) D cy (wP cy x A B σ τ) ([.ref x, .int (iI a)] : List Value) sz (fun _ : Unit => (if 0 ≤ a ∧ a ≤ 5000 then τ 3 0 else -1)) (fun _ : Unit => True) (fun _ : Unit => wP cy x A B σ (if 0 ≤ a ∧ a ≤ 5000 then su τ 3 (fun _ => a) else τ)) := by
  refine met_M (cc := cX2_road) (maxL := 2) (ret := (some .int)) (by decide) rfl (Nat.le_of_ble_eq_true rfl) ?_
  intro p e s m below meth c AA hAA hx hb hr hml hts hown hlocks hP hK hD hA ls hl
  have hS : va_S AA s.heap s.heap [] := va_S.rf
  have hown : s.vm.findClass RX2 = some m.cls := hown
  have hl : lv_has ls 2 [(0, .ref x), (1, .int (iI a))] := hl
  obtain ⟨hN0, hN4, hN8, hN14, hB1, hB2, hB3, hB5, hB6, hB7, hB9, hB10, hB11, hB12, hB13, hB15, hB16, hB17⟩ := id hI
  obtain ⟨hL3, hB0, hC1, hC2⟩ := id hJ
  refine lv_iload_n hx hb dX2_road_0 rfl (lv_at hl 1 rfl) ?_
  refine lv_iconst (v := iI 0) hx hb dX2_road_1 rfl ?_
  refine lv_sipush (v := iI 5000) hx hb dX2_road_2 (by decide +kernel) ?_
  refine r_calli (va_runS (As := [.int (iI a), .int (iI 0), .int (iI 5000)]) (rest := []) ⟨hx, hb, hml, hown, hts⟩ (c_X2_isWithin l  a 0 5000 (by omega) (by omega) (by omega)) (va_cwS 3 hts gX2_road_X2_isWithin rfl rfl rfl (by decide +kernel) ⟨Nat.le_of_ble_eq_true rfl, Nat.le_of_ble_eq_true rfl⟩) ps_T rfl rfl hl.1 rfl (lv_room (Nat.le_of_ble_eq_true rfl)) dX2_road_5 ⟨Nat.le_of_ble_eq_true rfl, Nat.le_of_ble_eq_true rfl⟩) ?_
  refine r_ifB_eq (tgt := 22) hx hb dX2_road_8 (by decide) (fun h1 => ?_) (fun h1 => ?_)
  · -- 8 to 22
    refine lv_iconst (v := iI (-1)) hx hb dX2_road_22 rfl ?_
    exact r_retM () hx hb hr hlocks hS dX2_road_23 (by first | rw [if_pos (by omega)] | rw [if_neg (by omega)]) trivial (by first | (rw [if_pos (by omega)]; exact hP) | (rw [if_neg (by omega)]; exact hP))
  · -- 8 to 11
    refine lv_aload_n hx hb dX2_road_11 rfl (lv_at hl 0 rfl) ?_
    refine va_get (D := D) (ci := 2) (v := .ref (B 100)) (C := RX2) (T := TX2) (N := 2) hx hb hts (fun _ h => List.mem_cons_of_mem _ (List.mem_append_left _ (List.mem_append_right _ h))) hown hK hP 0 rfl rfl 1 (by decide) (hts _ fl_X2_road_19) (fun _ h9 => h9) rfl dX2_road_12 ?_
    refine lv_iload_n hx hb dX2_road_15 rfl (lv_at hl 1 rfl) ?_
    refine r_callM (w1 := (wX x A B ++ wN cy A σ)) (w2 := ([] : va_W)) (va_runV (As := [.int (iI a)]) (rest := []) ⟨hx, hb, hml, hown, hts⟩ (c_X0_changeLength l D cy B τ (s.heap.size) a hJ (by omega)) (cwV 1 hts gX2_road_X0_changeLength rfl rfl rfl (by decide +kernel) ⟨Nat.le_of_ble_eq_true rfl, Nat.le_of_ble_eq_true rfl⟩) (pv_rw (C := RX0) (T := TX0) (N := 4) (ci := 0) (q0 := 0) (vpR (a := wN cy A σ) (b := wL cy B τ) (vpR (a := wX x A B) hP)) hK (vdR (a := wN cy A σ) (b := wL cy B τ) (vdR (a := wX x A B) hD)) rfl rfl) rfl rfl hl.1 rfl (lv_room (Nat.le_of_ble_eq_true rfl)) dX2_road_16 ⟨Nat.le_of_ble_eq_true rfl, Nat.le_of_ble_eq_true rfl⟩) hP hD hS hA (fun _ => rfl) (fun u2 H locs hp3 hP hD hS => ?_)
    have hP : va_P D vwCl (wP cy x A B σ (su τ 3 (fun _ => a))) H := hP
    have hD : va_D AA (wP cy x A B σ (su τ 3 (fun _ => a))) := hD
    refine lv_goto (tgt := 23) hx hb dX2_road_19 (by decide) ?_
    exact r_retM () hx hb hr hlocks hS dX2_road_23 (by first | rw [if_pos (by omega)] | rw [if_neg (by omega)]) trivial (by first | (rw [if_pos (by omega)]; exact hP) | (rw [if_neg (by omega)]; exact hP))
theorem fl_X2_dim_19 : Cond.fieldLink RX2 19 "NoiseLamps" "lamps" "LNoiseLamps$Lamps;" ∈ wsX2_dim := by decide +kernel
set_option maxHeartbeats 4000000 in
set_option maxRecDepth 100000 in
theorem c_X2_dim (l : Launch) (D : va_G) (cy : ClassId) (x : Nat) (A B : Nat → Nat) (σ τ : Nat → Int → Int) (sz : Nat) (a z : Int) (hI : invN σ) (hJ : invL τ) (hd : ∀ k, I32 (σ 18 k)) (hza : I32 a) (hzz : I32 z) : MetM l yX2_dim wsX2_dim ({ frames := 2, cells := 0, slots := 0, locals := 42 } : Room) D cy (wP cy x A B σ τ) ([.ref x, .int (iI a), .int (iI z)] : List Value) sz (fun _ : Unit => (if (0 ≤ a ∧ a ≤ 23) ∧ (0 ≤ z ∧ z ≤ 100) then τ 1 a else -1)) (fun _ : Unit => True) (fun _ : Unit => wP cy x A B σ (if (0 ≤ a ∧ a ≤ 23) ∧ (0 ≤ z ∧ z ≤ 100) then su τ 1 (up (τ 1) a z) else τ)) := by
  refine met_M (cc := cX2_dim) (maxL := 3) (ret := (some .int)) (by decide) rfl (Nat.le_of_ble_eq_true rfl) ?_
  intro p e s m below meth c AA hAA hx hb hr hml hts hown hlocks hP hK hD hA ls hl
  have hS : va_S AA s.heap s.heap [] := va_S.rf
  have hown : s.vm.findClass RX2 = some m.cls := hown
  have hl : lv_has ls 3 [(0, .ref x), (1, .int (iI a)), (2, .int (iI z))] := hl
  obtain ⟨hN0, hN4, hN8, hN14, hB1, hB2, hB3, hB5, hB6, hB7, hB9, hB10, hB11, hB12, hB13, hB15, hB16, hB17⟩ := id hI
  obtain ⟨hL3, hB0, hC1, hC2⟩ := id hJ
  refine lv_iload_n hx hb dX2_dim_0 rfl (lv_at hl 1 rfl) ?_
  refine r_calli (va_runS (As := [.int (iI a)]) (rest := []) ⟨hx, hb, hml, hown, hts⟩ (c_X2_isHour l  a (by omega)) (va_cwS 1 hts gX2_dim_X2_isHour rfl rfl rfl (by decide +kernel) ⟨Nat.le_of_ble_eq_true rfl, Nat.le_of_ble_eq_true rfl⟩) ps_T rfl rfl hl.1 rfl (lv_room (Nat.le_of_ble_eq_true rfl)) dX2_dim_1 ⟨Nat.le_of_ble_eq_true rfl, Nat.le_of_ble_eq_true rfl⟩) ?_
  refine r_ifB_eq (tgt := 17) hx hb dX2_dim_4 (by decide) (fun h1 => ?_) (fun h1 => ?_)
  · -- 4 to 17
    refine lv_iconst (v := iI (-1)) hx hb dX2_dim_17 rfl ?_
    exact r_retM () hx hb hr hlocks hS dX2_dim_18 (by first | rw [if_pos (by omega)] | rw [if_neg (by omega)]) trivial (by first | (rw [if_pos (by omega)]; exact hP) | (rw [if_neg (by omega)]; exact hP))
  · -- 4 to 7
    refine lv_iload_n hx hb dX2_dim_7 rfl (lv_at hl 2 rfl) ?_
    refine lv_iconst (v := iI 0) hx hb dX2_dim_8 rfl ?_
    refine lv_bipush (v := iI 100) hx hb dX2_dim_9 (by decide +kernel) ?_
    refine r_calli (va_runS (As := [.int (iI z), .int (iI 0), .int (iI 100)]) (rest := []) ⟨hx, hb, hml, hown, hts⟩ (c_X2_isWithin l  z 0 100 (by omega) (by omega) (by omega)) (va_cwS 3 hts gX2_dim_X2_isWithin rfl rfl rfl (by decide +kernel) ⟨Nat.le_of_ble_eq_true rfl, Nat.le_of_ble_eq_true rfl⟩) ps_T rfl rfl hl.1 rfl (lv_room (Nat.le_of_ble_eq_true rfl)) dX2_dim_11 ⟨Nat.le_of_ble_eq_true rfl, Nat.le_of_ble_eq_true rfl⟩) ?_
    refine r_ifB_ne (tgt := 19) hx hb dX2_dim_14 (by decide) (fun h2 => ?_) (fun h2 => ?_)
    · -- 14 to 19
      refine lv_aload_n hx hb dX2_dim_19 rfl (lv_at hl 0 rfl) ?_
      refine va_get (D := D) (ci := 2) (v := .ref (B 100)) (C := RX2) (T := TX2) (N := 2) hx hb hts (fun _ h => List.mem_cons_of_mem _ (List.mem_append_left _ (List.mem_append_right _ h))) hown hK hP 0 rfl rfl 1 (by decide) (hts _ fl_X2_dim_19) (fun _ h9 => h9) rfl dX2_dim_20 ?_
      refine lv_iload_n hx hb dX2_dim_23 rfl (lv_at hl 1 rfl) ?_
      refine lv_iload_n hx hb dX2_dim_24 rfl (lv_at hl 2 rfl) ?_
      refine r_callM (w1 := (wX x A B ++ wN cy A σ)) (w2 := ([] : va_W)) (va_runV (As := [.int (iI a), .int (iI z)]) (rest := []) ⟨hx, hb, hml, hown, hts⟩ (c_X0_changePercent l D cy B τ (s.heap.size) a z hJ (by omega) (by omega)) (cwV 2 hts gX2_dim_X0_changePercent rfl rfl rfl (by decide +kernel) ⟨Nat.le_of_ble_eq_true rfl, Nat.le_of_ble_eq_true rfl⟩) (pv_rw (C := RX0) (T := TX0) (N := 4) (ci := 0) (q0 := 0) (vpR (a := wN cy A σ) (b := wL cy B τ) (vpR (a := wX x A B) hP)) hK (vdR (a := wN cy A σ) (b := wL cy B τ) (vdR (a := wX x A B) hD)) rfl rfl) rfl rfl hl.1 rfl (lv_room (Nat.le_of_ble_eq_true rfl)) dX2_dim_25 ⟨Nat.le_of_ble_eq_true rfl, Nat.le_of_ble_eq_true rfl⟩) hP hD hS hA (fun _ => rfl) (fun u3 H locs hp4 hP hD hS => ?_)
      have hP : va_P D vwCl (wP cy x A B σ (su τ 1 (up (τ 1) a z))) H := hP
      have hD : va_D AA (wP cy x A B σ (su τ 1 (up (τ 1) a z))) := hD
      exact r_retM () hx hb hr hlocks hS dX2_dim_28 (by first | rw [if_pos (by omega)] | rw [if_neg (by omega)]) trivial (by first | (rw [if_pos (by omega)]; exact hP) | (rw [if_neg (by omega)]; exact hP))
    · -- 14 to 17
      refine lv_iconst (v := iI (-1)) hx hb dX2_dim_17 rfl ?_
      exact r_retM () hx hb hr hlocks hS dX2_dim_18 (by first | rw [if_pos (by omega)] | rw [if_neg (by omega)]) trivial (by first | (rw [if_pos (by omega)]; exact hP) | (rw [if_neg (by omega)]; exact hP))
theorem fl_X2_shines_19 : Cond.fieldLink RX2 19 "NoiseLamps" "lamps" "LNoiseLamps$Lamps;" ∈ wsX2_shines := by decide +kernel
set_option maxHeartbeats 4000000 in
set_option maxRecDepth 100000 in
theorem c_X2_shines (l : Launch) (D : va_G) (cy : ClassId) (x : Nat) (A B : Nat → Nat) (σ τ : Nat → Int → Int) (a : Int) (hI : invN σ) (hJ : invL τ) (hd : ∀ k, I32 (σ 18 k)) (hza : I32 a) : MetR l yX2_shines wsX2_shines ({ frames := 1, cells := 0, slots := 0, locals := 23 } : Room) D cy (wP cy x A B σ τ) ([.ref x, .int (iI a)] : List Value) (if a < 0 then -1 else lFrom τ a) := by
  refine met_R (cc := cX2_shines) (maxL := 2) (ret := (some .int)) (by decide) rfl (Nat.le_of_ble_eq_true rfl) ?_
  intro p e s m below meth c hx hb hr hml hts hown hlocks hP hK ls hl
  have hown : s.vm.findClass RX2 = some m.cls := hown
  have hl : lv_has ls 2 [(0, .ref x), (1, .int (iI a))] := hl
  obtain ⟨hN0, hN4, hN8, hN14, hB1, hB2, hB3, hB5, hB6, hB7, hB9, hB10, hB11, hB12, hB13, hB15, hB16, hB17⟩ := id hI
  obtain ⟨hL3, hB0, hC1, hC2⟩ := id hJ
  refine lv_iload_n hx hb dX2_shines_0 rfl (lv_at hl 1 rfl) ?_
  refine r_if_lt (tgt := 15) hx hb dX2_shines_1 (by decide) (by omega) (fun h1 => ?_) (fun h1 => ?_)
  · -- 1 to 15
    refine lv_iconst (v := iI (-1)) hx hb dX2_shines_15 rfl ?_
    exact r_ret hx hb hr hlocks dX2_shines_16 (by first | rw [if_pos (by omega)] | rw [if_neg (by omega)])
  · -- 1 to 4
    refine lv_aload_n hx hb dX2_shines_4 rfl (lv_at hl 0 rfl) ?_
    refine va_get (D := D) (ci := 2) (v := .ref (B 100)) (C := RX2) (T := TX2) (N := 2) hx hb hts (fun _ h => List.mem_cons_of_mem _ (List.mem_append_left _ (List.mem_append_right _ h))) hown hK hP 0 rfl rfl 1 (by decide) (hts _ fl_X2_shines_19) (fun _ h9 => h9) rfl dX2_shines_5 ?_
    refine lv_iload_n hx hb dX2_shines_8 rfl (lv_at hl 1 rfl) ?_
    refine r_calli (va_runV (As := [.int (iI a)]) (rest := []) ⟨hx, hb, hml, hown, hts⟩ (c_X0_lightFrom l D cy B τ a hJ (by omega)) (cwV 1 hts gX2_shines_X0_lightFrom rfl rfl rfl (by decide +kernel) ⟨Nat.le_of_ble_eq_true rfl, Nat.le_of_ble_eq_true rfl⟩) (pv_ro (C := RX0) (T := TX0) (N := 4) (ci := 0) (q0 := 0) (vpR (a := wN cy A σ) (b := wL cy B τ) (vpR (a := wX x A B) hP)) hK rfl rfl) rfl rfl hl.1 rfl (lv_room (Nat.le_of_ble_eq_true rfl)) dX2_shines_9 ⟨Nat.le_of_ble_eq_true rfl, Nat.le_of_ble_eq_true rfl⟩) ?_
    have hf2 := lFrom_bd (τ := τ) hB0 (d := a) (by omega)
    refine lv_goto (tgt := 16) hx hb dX2_shines_12 (by decide) ?_
    exact r_ret hx hb hr hlocks dX2_shines_16 (by first | rw [if_pos (by omega)] | rw [if_neg (by omega)])
theorem fl_X2_at_19 : Cond.fieldLink RX2 19 "NoiseLamps" "lamps" "LNoiseLamps$Lamps;" ∈ wsX2_at := by decide +kernel
set_option maxHeartbeats 4000000 in
set_option maxRecDepth 100000 in
theorem c_X2_at (l : Launch) (D : va_G) (cy : ClassId) (x : Nat) (A B : Nat → Nat) (σ τ : Nat → Int → Int) (pl sp h0 : Int) (hI : invN σ) (hJ : invL τ) (hd : ∀ k, I32 (σ 18 k)) (hzpl : I32 pl) (hzsp : I32 sp) (hzh0 : I32 h0) : MetR l yX2_at wsX2_at ({ frames := 3, cells := 0, slots := 0, locals := 71 } : Room) D cy (wP cy x A B σ τ) ([.ref x, .int (iI pl), .int (iI sp), .int (iI h0)] : List Value) (if (0 ≤ pl ∧ pl ≤ τ 3 0) ∧ (10 ≤ sp ∧ sp ≤ 600) ∧ (0 ≤ h0 ∧ h0 ≤ 23) then lAt τ pl sp * τ 1 h0 / 100 else -1) := by
  refine met_R (cc := cX2_at) (maxL := 4) (ret := (some .int)) (by decide) rfl (Nat.le_of_ble_eq_true rfl) ?_
  intro p e s m below meth c hx hb hr hml hts hown hlocks hP hK ls hl
  have hown : s.vm.findClass RX2 = some m.cls := hown
  have hl : lv_has ls 4 [(0, .ref x), (1, .int (iI pl)), (2, .int (iI sp)), (3, .int (iI h0))] := hl
  obtain ⟨hN0, hN4, hN8, hN14, hB1, hB2, hB3, hB5, hB6, hB7, hB9, hB10, hB11, hB12, hB13, hB15, hB16, hB17⟩ := id hI
  obtain ⟨hL3, hB0, hC1, hC2⟩ := id hJ
  refine lv_iload_n hx hb dX2_at_0 rfl (lv_at hl 1 rfl) ?_
  refine lv_iconst (v := iI 0) hx hb dX2_at_1 rfl ?_
  refine lv_aload_n hx hb dX2_at_2 rfl (lv_at hl 0 rfl) ?_
  refine va_get (D := D) (ci := 2) (v := .ref (B 100)) (C := RX2) (T := TX2) (N := 2) hx hb hts (fun _ h => List.mem_cons_of_mem _ (List.mem_append_left _ (List.mem_append_right _ h))) hown hK hP 0 rfl rfl 1 (by decide) (hts _ fl_X2_at_19) (fun _ h9 => h9) rfl dX2_at_3 ?_
  refine r_calli (va_runV (As := []) (rest := [.int (iI 0), .int (iI pl)]) ⟨hx, hb, hml, hown, hts⟩ (c_X0_roadLength l D cy B τ  hJ) (cwV 0 hts gX2_at_X0_roadLength rfl rfl rfl (by decide +kernel) ⟨Nat.le_of_ble_eq_true rfl, Nat.le_of_ble_eq_true rfl⟩) (pv_ro (C := RX0) (T := TX0) (N := 4) (ci := 0) (q0 := 0) (vpR (a := wN cy A σ) (b := wL cy B τ) (vpR (a := wX x A B) hP)) hK rfl rfl) rfl rfl hl.1 rfl (lv_room (Nat.le_of_ble_eq_true rfl)) dX2_at_6 ⟨Nat.le_of_ble_eq_true rfl, Nat.le_of_ble_eq_true rfl⟩) ?_
  refine r_calli (va_runS (As := [.int (iI pl), .int (iI 0), .int (iI (τ 3 0))]) (rest := []) ⟨hx, hb, hml, hown, hts⟩ (c_X2_isWithin l  pl 0 (τ 3 0) (by omega) (by omega) (by omega)) (va_cwS 3 hts gX2_at_X2_isWithin rfl rfl rfl (by decide +kernel) ⟨Nat.le_of_ble_eq_true rfl, Nat.le_of_ble_eq_true rfl⟩) ps_T rfl rfl hl.1 rfl (lv_room (Nat.le_of_ble_eq_true rfl)) dX2_at_9 ⟨Nat.le_of_ble_eq_true rfl, Nat.le_of_ble_eq_true rfl⟩) ?_
  refine r_ifB_eq (tgt := 29) hx hb dX2_at_12 (by decide) (fun h1 => ?_) (fun h1 => ?_)
  · -- 12 to 29
    refine lv_iconst (v := iI (-1)) hx hb dX2_at_29 rfl ?_
    exact r_ret hx hb hr hlocks dX2_at_30 (by first | rw [if_pos (by omega)] | rw [if_neg (by omega)])
  · -- 12 to 15
    refine lv_iload_n hx hb dX2_at_15 rfl (lv_at hl 2 rfl) ?_
    refine r_calli (va_runS (As := [.int (iI sp)]) (rest := []) ⟨hx, hb, hml, hown, hts⟩ (c_X2_isSpacing l  sp (by omega)) (va_cwS 1 hts gX2_at_X2_isSpacing rfl rfl rfl (by decide +kernel) ⟨Nat.le_of_ble_eq_true rfl, Nat.le_of_ble_eq_true rfl⟩) ps_T rfl rfl hl.1 rfl (lv_room (Nat.le_of_ble_eq_true rfl)) dX2_at_16 ⟨Nat.le_of_ble_eq_true rfl, Nat.le_of_ble_eq_true rfl⟩) ?_
    refine r_ifB_eq (tgt := 29) hx hb dX2_at_19 (by decide) (fun h2 => ?_) (fun h2 => ?_)
    · -- 19 to 29
      refine lv_iconst (v := iI (-1)) hx hb dX2_at_29 rfl ?_
      exact r_ret hx hb hr hlocks dX2_at_30 (by first | rw [if_pos (by omega)] | rw [if_neg (by omega)])
    · -- 19 to 22
      refine lv_iload_n hx hb dX2_at_22 rfl (lv_at hl 3 rfl) ?_
      refine r_calli (va_runS (As := [.int (iI h0)]) (rest := []) ⟨hx, hb, hml, hown, hts⟩ (c_X2_isHour l  h0 (by omega)) (va_cwS 1 hts gX2_at_X2_isHour rfl rfl rfl (by decide +kernel) ⟨Nat.le_of_ble_eq_true rfl, Nat.le_of_ble_eq_true rfl⟩) ps_T rfl rfl hl.1 rfl (lv_room (Nat.le_of_ble_eq_true rfl)) dX2_at_23 ⟨Nat.le_of_ble_eq_true rfl, Nat.le_of_ble_eq_true rfl⟩) ?_
      refine r_ifB_ne (tgt := 31) hx hb dX2_at_26 (by decide) (fun h3 => ?_) (fun h3 => ?_)
      · -- 26 to 31
        refine lv_aload_n hx hb dX2_at_31 rfl (lv_at hl 0 rfl) ?_
        refine va_get (D := D) (ci := 2) (v := .ref (B 100)) (C := RX2) (T := TX2) (N := 2) hx hb hts (fun _ h => List.mem_cons_of_mem _ (List.mem_append_left _ (List.mem_append_right _ h))) hown hK hP 0 rfl rfl 1 (by decide) (hts _ fl_X2_at_19) (fun _ h9 => h9) rfl dX2_at_32 ?_
        refine lv_iload_n hx hb dX2_at_35 rfl (lv_at hl 1 rfl) ?_
        refine lv_iload_n hx hb dX2_at_36 rfl (lv_at hl 2 rfl) ?_
        refine lv_iload_n hx hb dX2_at_37 rfl (lv_at hl 3 rfl) ?_
        refine r_calli (va_runV (As := [.int (iI pl), .int (iI sp), .int (iI h0)]) (rest := []) ⟨hx, hb, hml, hown, hts⟩ (c_X0_dimmedLight l D cy B τ pl sp h0 hJ (by omega) (by omega) (by omega)) (cwV 3 hts gX2_at_X0_dimmedLight rfl rfl rfl (by decide +kernel) ⟨Nat.le_of_ble_eq_true rfl, Nat.le_of_ble_eq_true rfl⟩) (pv_ro (C := RX0) (T := TX0) (N := 4) (ci := 0) (q0 := 0) (vpR (a := wN cy A σ) (b := wL cy B τ) (vpR (a := wX x A B) hP)) hK rfl rfl) rfl rfl hl.1 rfl (lv_room (Nat.le_of_ble_eq_true rfl)) dX2_at_38 ⟨Nat.le_of_ble_eq_true rfl, Nat.le_of_ble_eq_true rfl⟩) ?_
        exact r_ret hx hb hr hlocks dX2_at_41 (by first | rw [if_pos (by omega)] | rw [if_neg (by omega)])
      · -- 26 to 29
        refine lv_iconst (v := iI (-1)) hx hb dX2_at_29 rfl ?_
        exact r_ret hx hb hr hlocks dX2_at_30 (by first | rw [if_pos (by omega)] | rw [if_neg (by omega)])
theorem fl_X2_row_19 : Cond.fieldLink RX2 19 "NoiseLamps" "lamps" "LNoiseLamps$Lamps;" ∈ wsX2_row := by decide +kernel
set_option maxHeartbeats 4000000 in
set_option maxRecDepth 100000 in
theorem c_X2_row (l : Launch) (D : va_G) (cy : ClassId) (x : Nat) (A B : Nat → Nat) (σ τ : Nat → Int → Int) (sz : Nat) (sp a : Int) (hI : invN σ) (hJ : invL τ) (hd : ∀ k, I32 (σ 18 k)) (hzsp : I32 sp) (hza : I32 a) : MetM l yX2_row wsX2_row ({ frames := 4, cells := 0, slots := 0, locals := 91 } : Room) D cy (wP cy x A B σ τ) ([.ref x, .int (iI sp), .int (iI a)] : List Value) sz (fun u : (Int → Int) => (if (10 ≤ sp ∧ sp ≤ 600) ∧ (0 ≤ a ∧ a ≤ 3) then (if a = 0 then rLst τ sp else if a = 1 then rMean τ sp 100 else if a = 2 then rEven τ sp else τ 3 0 / sp + 1) else -1)) (fun u : (Int → Int) => ∀ k, 0 ≤ u k ∧ u k ≤ 7000000) (fun u : (Int → Int) => wP cy x A B σ (su τ 2 u)) := by
  refine met_M (cc := cX2_row) (maxL := 3) (ret := (some .int)) (by decide) rfl (Nat.le_of_ble_eq_true rfl) ?_
  intro p e s m below meth c AA hAA hx hb hr hml hts hown hlocks hP hK hD hA ls hl
  have hS : va_S AA s.heap s.heap [] := va_S.rf
  have hown : s.vm.findClass RX2 = some m.cls := hown
  have hl : lv_has ls 3 [(0, .ref x), (1, .int (iI sp)), (2, .int (iI a))] := hl
  obtain ⟨hN0, hN4, hN8, hN14, hB1, hB2, hB3, hB5, hB6, hB7, hB9, hB10, hB11, hB12, hB13, hB15, hB16, hB17⟩ := id hI
  obtain ⟨hL3, hB0, hC1, hC2⟩ := id hJ
  refine lv_iload_n hx hb dX2_row_0 rfl (lv_at hl 1 rfl) ?_
  refine r_calli (va_runS (As := [.int (iI sp)]) (rest := []) ⟨hx, hb, hml, hown, hts⟩ (c_X2_isSpacing l  sp (by omega)) (va_cwS 1 hts gX2_row_X2_isSpacing rfl rfl rfl (by decide +kernel) ⟨Nat.le_of_ble_eq_true rfl, Nat.le_of_ble_eq_true rfl⟩) ps_T rfl rfl hl.1 rfl (lv_room (Nat.le_of_ble_eq_true rfl)) dX2_row_1 ⟨Nat.le_of_ble_eq_true rfl, Nat.le_of_ble_eq_true rfl⟩) ?_
  refine r_ifB_ne (tgt := 9) hx hb dX2_row_4 (by decide) (fun h1 => ?_) (fun h1 => ?_)
  · -- 4 to 9
    refine lv_iload_n hx hb dX2_row_9 rfl (lv_at hl 2 rfl) ?_
    by_cases h2 : a = 0
    · refine lv_tableIn (tgt := 40) hx hb dX2_row_10 (by rw [iI_toInt (by omega)]; omega) (by rw [iI_toInt (by omega)]; omega) (by rw [iI_toInt (by omega), h2]; rfl) (by decide) ?_
      refine lv_aload_n hx hb dX2_row_40 rfl (lv_at hl 0 rfl) ?_
      refine va_get (D := D) (ci := 2) (v := .ref (B 100)) (C := RX2) (T := TX2) (N := 2) hx hb hts (fun _ h => List.mem_cons_of_mem _ (List.mem_append_left _ (List.mem_append_right _ h))) hown hK hP 0 rfl rfl 1 (by decide) (hts _ fl_X2_row_19) (fun _ h9 => h9) rfl dX2_row_41 ?_
      refine lv_iload_n hx hb dX2_row_44 rfl (lv_at hl 1 rfl) ?_
      refine r_callM (w1 := (wX x A B ++ wN cy A σ)) (w2 := ([] : va_W)) (va_runV (As := [.int (iI sp)]) (rest := []) ⟨hx, hb, hml, hown, hts⟩ (c_X0_leastLight l D cy B τ (s.heap.size) sp hJ (by omega)) (cwV 1 hts gX2_row_X0_leastLight rfl rfl rfl (by decide +kernel) ⟨Nat.le_of_ble_eq_true rfl, Nat.le_of_ble_eq_true rfl⟩) (pv_rw (C := RX0) (T := TX0) (N := 4) (ci := 0) (q0 := 0) (vpR (a := wN cy A σ) (b := wL cy B τ) (vpR (a := wX x A B) hP)) hK (vdR (a := wN cy A σ) (b := wL cy B τ) (vdR (a := wX x A B) hD)) rfl rfl) rfl rfl hl.1 rfl (lv_room (Nat.le_of_ble_eq_true rfl)) dX2_row_45 ⟨Nat.le_of_ble_eq_true rfl, Nat.le_of_ble_eq_true rfl⟩) hP hD hS hA (fun _ => rfl) (fun u3 H locs hp4 hP hD hS => ?_)
      have hP : va_P D vwCl (wP cy x A B σ (su τ 2 u3)) H := hP
      have hD : va_D AA (wP cy x A B σ (su τ 2 u3)) := hD
      exact r_retM u3 hx hb hr hlocks hS dX2_row_48 (by first | rw [if_pos (by omega), if_pos (by omega)] | rw [if_pos (by omega), if_neg (by omega), if_pos (by omega)] | rw [if_pos (by omega), if_neg (by omega), if_neg (by omega), if_pos (by omega)] | rw [if_pos (by omega), if_neg (by omega), if_neg (by omega), if_neg (by omega)] | rw [if_neg (by omega)]) (by first | exact hp4 | exact hC2) hP
    by_cases h5 : a = 1
    · refine lv_tableIn (tgt := 49) hx hb dX2_row_10 (by rw [iI_toInt (by omega)]; omega) (by rw [iI_toInt (by omega)]; omega) (by rw [iI_toInt (by omega), h5]; rfl) (by decide) ?_
      refine lv_aload_n hx hb dX2_row_49 rfl (lv_at hl 0 rfl) ?_
      refine va_get (D := D) (ci := 2) (v := .ref (B 100)) (C := RX2) (T := TX2) (N := 2) hx hb hts (fun _ h => List.mem_cons_of_mem _ (List.mem_append_left _ (List.mem_append_right _ h))) hown hK hP 0 rfl rfl 1 (by decide) (hts _ fl_X2_row_19) (fun _ h9 => h9) rfl dX2_row_50 ?_
      refine lv_iload_n hx hb dX2_row_53 rfl (lv_at hl 1 rfl) ?_
      refine r_callM (w1 := (wX x A B ++ wN cy A σ)) (w2 := ([] : va_W)) (va_runV (As := [.int (iI sp)]) (rest := []) ⟨hx, hb, hml, hown, hts⟩ (c_X0_meanLight l D cy B τ (s.heap.size) sp hJ (by omega)) (cwV 1 hts gX2_row_X0_meanLight rfl rfl rfl (by decide +kernel) ⟨Nat.le_of_ble_eq_true rfl, Nat.le_of_ble_eq_true rfl⟩) (pv_rw (C := RX0) (T := TX0) (N := 4) (ci := 0) (q0 := 0) (vpR (a := wN cy A σ) (b := wL cy B τ) (vpR (a := wX x A B) hP)) hK (vdR (a := wN cy A σ) (b := wL cy B τ) (vdR (a := wX x A B) hD)) rfl rfl) rfl rfl hl.1 rfl (lv_room (Nat.le_of_ble_eq_true rfl)) dX2_row_54 ⟨Nat.le_of_ble_eq_true rfl, Nat.le_of_ble_eq_true rfl⟩) hP hD hS hA (fun _ => rfl) (fun u6 H locs hp7 hP hD hS => ?_)
      have hP : va_P D vwCl (wP cy x A B σ (su τ 2 u6)) H := hP
      have hD : va_D AA (wP cy x A B σ (su τ 2 u6)) := hD
      exact r_retM u6 hx hb hr hlocks hS dX2_row_57 (by first | rw [if_pos (by omega), if_pos (by omega)] | rw [if_pos (by omega), if_neg (by omega), if_pos (by omega)] | rw [if_pos (by omega), if_neg (by omega), if_neg (by omega), if_pos (by omega)] | rw [if_pos (by omega), if_neg (by omega), if_neg (by omega), if_neg (by omega)] | rw [if_neg (by omega)]) (by first | exact hp7 | exact hC2) hP
    by_cases h8 : a = 2
    · refine lv_tableIn (tgt := 58) hx hb dX2_row_10 (by rw [iI_toInt (by omega)]; omega) (by rw [iI_toInt (by omega)]; omega) (by rw [iI_toInt (by omega), h8]; rfl) (by decide) ?_
      refine lv_aload_n hx hb dX2_row_58 rfl (lv_at hl 0 rfl) ?_
      refine va_get (D := D) (ci := 2) (v := .ref (B 100)) (C := RX2) (T := TX2) (N := 2) hx hb hts (fun _ h => List.mem_cons_of_mem _ (List.mem_append_left _ (List.mem_append_right _ h))) hown hK hP 0 rfl rfl 1 (by decide) (hts _ fl_X2_row_19) (fun _ h9 => h9) rfl dX2_row_59 ?_
      refine lv_iload_n hx hb dX2_row_62 rfl (lv_at hl 1 rfl) ?_
      refine r_callM (w1 := (wX x A B ++ wN cy A σ)) (w2 := ([] : va_W)) (va_runV (As := [.int (iI sp)]) (rest := []) ⟨hx, hb, hml, hown, hts⟩ (c_X0_evenness l D cy B τ (s.heap.size) sp hJ (by omega)) (cwV 1 hts gX2_row_X0_evenness rfl rfl rfl (by decide +kernel) ⟨Nat.le_of_ble_eq_true rfl, Nat.le_of_ble_eq_true rfl⟩) (pv_rw (C := RX0) (T := TX0) (N := 4) (ci := 0) (q0 := 0) (vpR (a := wN cy A σ) (b := wL cy B τ) (vpR (a := wX x A B) hP)) hK (vdR (a := wN cy A σ) (b := wL cy B τ) (vdR (a := wX x A B) hD)) rfl rfl) rfl rfl hl.1 rfl (lv_room (Nat.le_of_ble_eq_true rfl)) dX2_row_63 ⟨Nat.le_of_ble_eq_true rfl, Nat.le_of_ble_eq_true rfl⟩) hP hD hS hA (fun _ => rfl) (fun u9 H locs hp10 hP hD hS => ?_)
      have hP : va_P D vwCl (wP cy x A B σ (su τ 2 u9)) H := hP
      have hD : va_D AA (wP cy x A B σ (su τ 2 u9)) := hD
      exact r_retM u9 hx hb hr hlocks hS dX2_row_66 (by first | rw [if_pos (by omega), if_pos (by omega)] | rw [if_pos (by omega), if_neg (by omega), if_pos (by omega)] | rw [if_pos (by omega), if_neg (by omega), if_neg (by omega), if_pos (by omega)] | rw [if_pos (by omega), if_neg (by omega), if_neg (by omega), if_neg (by omega)] | rw [if_neg (by omega)]) (by first | exact hp10 | exact hC2) hP
    by_cases h11 : a = 3
    · refine lv_tableIn (tgt := 67) hx hb dX2_row_10 (by rw [iI_toInt (by omega)]; omega) (by rw [iI_toInt (by omega)]; omega) (by rw [iI_toInt (by omega), h11]; rfl) (by decide) ?_
      refine lv_aload_n hx hb dX2_row_67 rfl (lv_at hl 0 rfl) ?_
      refine va_get (D := D) (ci := 2) (v := .ref (B 100)) (C := RX2) (T := TX2) (N := 2) hx hb hts (fun _ h => List.mem_cons_of_mem _ (List.mem_append_left _ (List.mem_append_right _ h))) hown hK hP 0 rfl rfl 1 (by decide) (hts _ fl_X2_row_19) (fun _ h9 => h9) rfl dX2_row_68 ?_
      refine lv_iload_n hx hb dX2_row_71 rfl (lv_at hl 1 rfl) ?_
      refine r_calli (va_runV (As := [.int (iI sp)]) (rest := []) ⟨hx, hb, hml, hown, hts⟩ (c_X0_poles l D cy B τ sp hJ (by omega)) (cwV 1 hts gX2_row_X0_poles rfl rfl rfl (by decide +kernel) ⟨Nat.le_of_ble_eq_true rfl, Nat.le_of_ble_eq_true rfl⟩) (pv_ro (C := RX0) (T := TX0) (N := 4) (ci := 0) (q0 := 0) (vpR (a := wN cy A σ) (b := wL cy B τ) (vpR (a := wX x A B) hP)) hK rfl rfl) rfl rfl hl.1 rfl (lv_room (Nat.le_of_ble_eq_true rfl)) dX2_row_72 ⟨Nat.le_of_ble_eq_true rfl, Nat.le_of_ble_eq_true rfl⟩) ?_
      have hf12 := pol_bd (sp := sp) hL3 (by omega)
      exact r_retM (τ 2) hx hb hr hlocks hS dX2_row_75 (by first | rw [if_pos (by omega), if_pos (by omega)] | rw [if_pos (by omega), if_neg (by omega), if_pos (by omega)] | rw [if_pos (by omega), if_neg (by omega), if_neg (by omega), if_pos (by omega)] | rw [if_pos (by omega), if_neg (by omega), if_neg (by omega), if_neg (by omega)] | rw [if_neg (by omega)]) (by first | exact hp10 | exact hC2) hP
    refine lv_tableOut (tgt := 76) hx hb dX2_row_10 (by rw [iI_toInt (by omega)]; omega) (by decide) ?_
    refine lv_iconst (v := iI (-1)) hx hb dX2_row_76 rfl ?_
    exact r_retM (τ 2) hx hb hr hlocks hS dX2_row_77 (by first | rw [if_pos (by omega), if_pos (by omega)] | rw [if_pos (by omega), if_neg (by omega), if_pos (by omega)] | rw [if_pos (by omega), if_neg (by omega), if_neg (by omega), if_pos (by omega)] | rw [if_pos (by omega), if_neg (by omega), if_neg (by omega), if_neg (by omega)] | rw [if_neg (by omega)]) (by first | exact hp10 | exact hC2) hP
  · -- 4 to 7
    refine lv_iconst (v := iI (-1)) hx hb dX2_row_7 rfl ?_
    exact r_retM (τ 2) hx hb hr hlocks hS dX2_row_8 (by first | rw [if_pos (by omega), if_pos (by omega)] | rw [if_pos (by omega), if_neg (by omega), if_pos (by omega)] | rw [if_pos (by omega), if_neg (by omega), if_neg (by omega), if_pos (by omega)] | rw [if_pos (by omega), if_neg (by omega), if_neg (by omega), if_neg (by omega)] | rw [if_neg (by omega)]) (by first | exact hp10 | exact hC2) hP
theorem fl_X2_spacing_19 : Cond.fieldLink RX2 19 "NoiseLamps" "lamps" "LNoiseLamps$Lamps;" ∈ wsX2_spacing := by decide +kernel
set_option maxHeartbeats 4000000 in
set_option maxRecDepth 100000 in
theorem c_X2_spacing (l : Launch) (D : va_G) (cy : ClassId) (x : Nat) (A B : Nat → Nat) (σ τ : Nat → Int → Int) (sz : Nat) (a z : Int) (hI : invN σ) (hJ : invL τ) (hd : ∀ k, I32 (σ 18 k)) (hza : I32 a) (hzz : I32 z) : MetM l yX2_spacing wsX2_spacing ({ frames := 4, cells := 0, slots := 0, locals := 93 } : Room) D cy (wP cy x A B σ τ) ([.ref x, .int (iI a), .int (iI z)] : List Value) sz (fun u : (Int → Int) => (lWide τ a z)) (fun u : (Int → Int) => ∀ k, 0 ≤ u k ∧ u k ≤ 7000000) (fun u : (Int → Int) => wP cy x A B σ (su τ 2 u)) := by
  refine met_M (cc := cX2_spacing) (maxL := 3) (ret := (some .int)) (by decide) rfl (Nat.le_of_ble_eq_true rfl) ?_
  intro p e s m below meth c AA hAA hx hb hr hml hts hown hlocks hP hK hD hA ls hl
  have hS : va_S AA s.heap s.heap [] := va_S.rf
  have hown : s.vm.findClass RX2 = some m.cls := hown
  have hl : lv_has ls 3 [(0, .ref x), (1, .int (iI a)), (2, .int (iI z))] := hl
  obtain ⟨hN0, hN4, hN8, hN14, hB1, hB2, hB3, hB5, hB6, hB7, hB9, hB10, hB11, hB12, hB13, hB15, hB16, hB17⟩ := id hI
  obtain ⟨hL3, hB0, hC1, hC2⟩ := id hJ
  refine lv_aload_n hx hb dX2_spacing_0 rfl (lv_at hl 0 rfl) ?_
  refine va_get (D := D) (ci := 2) (v := .ref (B 100)) (C := RX2) (T := TX2) (N := 2) hx hb hts (fun _ h => List.mem_cons_of_mem _ (List.mem_append_left _ (List.mem_append_right _ h))) hown hK hP 0 rfl rfl 1 (by decide) (hts _ fl_X2_spacing_19) (fun _ h9 => h9) rfl dX2_spacing_1 ?_
  refine lv_iload_n hx hb dX2_spacing_4 rfl (lv_at hl 1 rfl) ?_
  refine lv_iload_n hx hb dX2_spacing_5 rfl (lv_at hl 2 rfl) ?_
  refine r_callM (w1 := (wX x A B ++ wN cy A σ)) (w2 := ([] : va_W)) (va_runV (As := [.int (iI a), .int (iI z)]) (rest := []) ⟨hx, hb, hml, hown, hts⟩ (c_X0_widestGoodSpacing l D cy B τ (s.heap.size) a z hJ (by omega) (by omega)) (cwV 2 hts gX2_spacing_X0_widestGoodSpacing rfl rfl rfl (by decide +kernel) ⟨Nat.le_of_ble_eq_true rfl, Nat.le_of_ble_eq_true rfl⟩) (pv_rw (C := RX0) (T := TX0) (N := 4) (ci := 0) (q0 := 0) (vpR (a := wN cy A σ) (b := wL cy B τ) (vpR (a := wX x A B) hP)) hK (vdR (a := wN cy A σ) (b := wL cy B τ) (vdR (a := wX x A B) hD)) rfl rfl) rfl rfl hl.1 rfl (lv_room (Nat.le_of_ble_eq_true rfl)) dX2_spacing_6 ⟨Nat.le_of_ble_eq_true rfl, Nat.le_of_ble_eq_true rfl⟩) hP hD hS hA (fun _ => rfl) (fun u1 H locs hp2 hP hD hS => ?_)
  have hP : va_P D vwCl (wP cy x A B σ (su τ 2 u1)) H := hP
  have hD : va_D AA (wP cy x A B σ (su τ 2 u1)) := hD
  exact r_retM u1 hx hb hr hlocks hS dX2_spacing_9 rfl (by first | exact hp2 | exact hC2) hP
theorem fl_X2_dark_19 : Cond.fieldLink RX2 19 "NoiseLamps" "lamps" "LNoiseLamps$Lamps;" ∈ wsX2_dark := by decide +kernel
set_option maxHeartbeats 4000000 in
set_option maxRecDepth 100000 in
theorem c_X2_dark (l : Launch) (D : va_G) (cy : ClassId) (x : Nat) (A B : Nat → Nat) (σ τ : Nat → Int → Int) (sz : Nat) (sp a : Int) (hI : invN σ) (hJ : invL τ) (hd : ∀ k, I32 (σ 18 k)) (hzsp : I32 sp) (hza : I32 a) : MetM l yX2_dark wsX2_dark ({ frames := 4, cells := 0, slots := 0, locals := 94 } : Room) D cy (wP cy x A B σ τ) ([.ref x, .int (iI sp), .int (iI a)] : List Value) sz (fun u : (Int → Int) => (if 10 ≤ sp ∧ sp ≤ 600 then lDark τ sp a else -1)) (fun u : (Int → Int) => ∀ k, 0 ≤ u k ∧ u k ≤ 7000000) (fun u : (Int → Int) => wP cy x A B σ (su τ 2 u)) := by
  refine met_M (cc := cX2_dark) (maxL := 3) (ret := (some .int)) (by decide) rfl (Nat.le_of_ble_eq_true rfl) ?_
  intro p e s m below meth c AA hAA hx hb hr hml hts hown hlocks hP hK hD hA ls hl
  have hS : va_S AA s.heap s.heap [] := va_S.rf
  have hown : s.vm.findClass RX2 = some m.cls := hown
  have hl : lv_has ls 3 [(0, .ref x), (1, .int (iI sp)), (2, .int (iI a))] := hl
  obtain ⟨hN0, hN4, hN8, hN14, hB1, hB2, hB3, hB5, hB6, hB7, hB9, hB10, hB11, hB12, hB13, hB15, hB16, hB17⟩ := id hI
  obtain ⟨hL3, hB0, hC1, hC2⟩ := id hJ
  refine lv_iload_n hx hb dX2_dark_0 rfl (lv_at hl 1 rfl) ?_
  refine r_calli (va_runS (As := [.int (iI sp)]) (rest := []) ⟨hx, hb, hml, hown, hts⟩ (c_X2_isSpacing l  sp (by omega)) (va_cwS 1 hts gX2_dark_X2_isSpacing rfl rfl rfl (by decide +kernel) ⟨Nat.le_of_ble_eq_true rfl, Nat.le_of_ble_eq_true rfl⟩) ps_T rfl rfl hl.1 rfl (lv_room (Nat.le_of_ble_eq_true rfl)) dX2_dark_1 ⟨Nat.le_of_ble_eq_true rfl, Nat.le_of_ble_eq_true rfl⟩) ?_
  refine r_ifB_eq (tgt := 19) hx hb dX2_dark_4 (by decide) (fun h1 => ?_) (fun h1 => ?_)
  · -- 4 to 19
    refine lv_iconst (v := iI (-1)) hx hb dX2_dark_19 rfl ?_
    exact r_retM (τ 2) hx hb hr hlocks hS dX2_dark_20 (by first | rw [if_pos (by omega)] | rw [if_neg (by omega)]) (by first | exact hp | exact hC2) hP
  · -- 4 to 7
    refine lv_aload_n hx hb dX2_dark_7 rfl (lv_at hl 0 rfl) ?_
    refine va_get (D := D) (ci := 2) (v := .ref (B 100)) (C := RX2) (T := TX2) (N := 2) hx hb hts (fun _ h => List.mem_cons_of_mem _ (List.mem_append_left _ (List.mem_append_right _ h))) hown hK hP 0 rfl rfl 1 (by decide) (hts _ fl_X2_dark_19) (fun _ h9 => h9) rfl dX2_dark_8 ?_
    refine lv_iload_n hx hb dX2_dark_11 rfl (lv_at hl 1 rfl) ?_
    refine lv_iload_n hx hb dX2_dark_12 rfl (lv_at hl 2 rfl) ?_
    refine r_callM (w1 := (wX x A B ++ wN cy A σ)) (w2 := ([] : va_W)) (va_runV (As := [.int (iI sp), .int (iI a)]) (rest := []) ⟨hx, hb, hml, hown, hts⟩ (c_X0_hoursBelow l D cy B τ (s.heap.size) sp a hJ (by omega) (by omega)) (cwV 2 hts gX2_dark_X0_hoursBelow rfl rfl rfl (by decide +kernel) ⟨Nat.le_of_ble_eq_true rfl, Nat.le_of_ble_eq_true rfl⟩) (pv_rw (C := RX0) (T := TX0) (N := 4) (ci := 0) (q0 := 0) (vpR (a := wN cy A σ) (b := wL cy B τ) (vpR (a := wX x A B) hP)) hK (vdR (a := wN cy A σ) (b := wL cy B τ) (vdR (a := wX x A B) hD)) rfl rfl) rfl rfl hl.1 rfl (lv_room (Nat.le_of_ble_eq_true rfl)) dX2_dark_13 ⟨Nat.le_of_ble_eq_true rfl, Nat.le_of_ble_eq_true rfl⟩) hP hD hS hA (fun _ => rfl) (fun u2 H locs hp3 hP hD hS => ?_)
    have hP : va_P D vwCl (wP cy x A B σ (su τ 2 u2)) H := hP
    have hD : va_D AA (wP cy x A B σ (su τ 2 u2)) := hD
    refine lv_goto (tgt := 20) hx hb dX2_dark_16 (by decide) ?_
    exact r_retM u2 hx hb hr hlocks hS dX2_dark_20 (by first | rw [if_pos (by omega)] | rw [if_neg (by omega)]) (by first | exact hp3 | exact hC2) hP
theorem fl_X2_drop_19 : Cond.fieldLink RX2 19 "NoiseLamps" "lamps" "LNoiseLamps$Lamps;" ∈ wsX2_drop := by decide +kernel
set_option maxHeartbeats 4000000 in
set_option maxRecDepth 100000 in
theorem c_X2_drop (l : Launch) (D : va_G) (cy : ClassId) (x : Nat) (A B : Nat → Nat) (σ τ : Nat → Int → Int) (sp cu re : Int) (hI : invN σ) (hJ : invL τ) (hd : ∀ k, I32 (σ 18 k)) (hzsp : I32 sp) (hzcu : I32 cu) (hzre : I32 re) : MetR l yX2_drop wsX2_drop ({ frames := 2, cells := 0, slots := 0, locals := 48 } : Room) D cy (wP cy x A B σ τ) ([.ref x, .int (iI sp), .int (iI cu), .int (iI re)] : List Value) (if (10 ≤ sp ∧ sp ≤ 600) ∧ (0 ≤ cu ∧ cu ≤ 20000) ∧ (0 ≤ re ∧ re ≤ 10000) then lMv τ sp cu re else -1) := by
  refine met_R (cc := cX2_drop) (maxL := 4) (ret := (some .int)) (by decide) rfl (Nat.le_of_ble_eq_true rfl) ?_
  intro p e s m below meth c hx hb hr hml hts hown hlocks hP hK ls hl
  have hown : s.vm.findClass RX2 = some m.cls := hown
  have hl : lv_has ls 4 [(0, .ref x), (1, .int (iI sp)), (2, .int (iI cu)), (3, .int (iI re))] := hl
  obtain ⟨hN0, hN4, hN8, hN14, hB1, hB2, hB3, hB5, hB6, hB7, hB9, hB10, hB11, hB12, hB13, hB15, hB16, hB17⟩ := id hI
  obtain ⟨hL3, hB0, hC1, hC2⟩ := id hJ
  refine lv_iload_n hx hb dX2_drop_0 rfl (lv_at hl 1 rfl) ?_
  refine r_calli (va_runS (As := [.int (iI sp)]) (rest := []) ⟨hx, hb, hml, hown, hts⟩ (c_X2_isSpacing l  sp (by omega)) (va_cwS 1 hts gX2_drop_X2_isSpacing rfl rfl rfl (by decide +kernel) ⟨Nat.le_of_ble_eq_true rfl, Nat.le_of_ble_eq_true rfl⟩) ps_T rfl rfl hl.1 rfl (lv_room (Nat.le_of_ble_eq_true rfl)) dX2_drop_1 ⟨Nat.le_of_ble_eq_true rfl, Nat.le_of_ble_eq_true rfl⟩) ?_
  refine r_ifB_eq (tgt := 15) hx hb dX2_drop_4 (by decide) (fun h1 => ?_) (fun h1 => ?_)
  · -- 4 to 15
    refine lv_iconst (v := iI (-1)) hx hb dX2_drop_15 rfl ?_
    exact r_ret hx hb hr hlocks dX2_drop_16 (by first | rw [if_pos (by omega)] | rw [if_neg (by omega)])
  · -- 4 to 7
    refine lv_iload_n hx hb dX2_drop_7 rfl (lv_at hl 2 rfl) ?_
    refine lv_iload_n hx hb dX2_drop_8 rfl (lv_at hl 3 rfl) ?_
    refine r_calli (va_runS (As := [.int (iI cu), .int (iI re)]) (rest := []) ⟨hx, hb, hml, hown, hts⟩ (c_X2_isWire l  cu re (by omega) (by omega)) (va_cwS 2 hts gX2_drop_X2_isWire rfl rfl rfl (by decide +kernel) ⟨Nat.le_of_ble_eq_true rfl, Nat.le_of_ble_eq_true rfl⟩) ps_T rfl rfl hl.1 rfl (lv_room (Nat.le_of_ble_eq_true rfl)) dX2_drop_9 ⟨Nat.le_of_ble_eq_true rfl, Nat.le_of_ble_eq_true rfl⟩) ?_
    refine r_ifB_ne (tgt := 17) hx hb dX2_drop_12 (by decide) (fun h2 => ?_) (fun h2 => ?_)
    · -- 12 to 17
      refine lv_aload_n hx hb dX2_drop_17 rfl (lv_at hl 0 rfl) ?_
      refine va_get (D := D) (ci := 2) (v := .ref (B 100)) (C := RX2) (T := TX2) (N := 2) hx hb hts (fun _ h => List.mem_cons_of_mem _ (List.mem_append_left _ (List.mem_append_right _ h))) hown hK hP 0 rfl rfl 1 (by decide) (hts _ fl_X2_drop_19) (fun _ h9 => h9) rfl dX2_drop_18 ?_
      refine lv_iload_n hx hb dX2_drop_21 rfl (lv_at hl 1 rfl) ?_
      refine lv_iload_n hx hb dX2_drop_22 rfl (lv_at hl 2 rfl) ?_
      refine lv_iload_n hx hb dX2_drop_23 rfl (lv_at hl 3 rfl) ?_
      refine r_calli (va_runV (As := [.int (iI sp), .int (iI cu), .int (iI re)]) (rest := []) ⟨hx, hb, hml, hown, hts⟩ (c_X0_millivolts l D cy B τ sp cu re hJ (by omega) (by omega) (by omega)) (cwV 3 hts gX2_drop_X0_millivolts rfl rfl rfl (by decide +kernel) ⟨Nat.le_of_ble_eq_true rfl, Nat.le_of_ble_eq_true rfl⟩) (pv_ro (C := RX0) (T := TX0) (N := 4) (ci := 0) (q0 := 0) (vpR (a := wN cy A σ) (b := wL cy B τ) (vpR (a := wX x A B) hP)) hK rfl rfl) rfl rfl hl.1 rfl (lv_room (Nat.le_of_ble_eq_true rfl)) dX2_drop_24 ⟨Nat.le_of_ble_eq_true rfl, Nat.le_of_ble_eq_true rfl⟩) ?_
      have hf3 := lMv_bd (τ := τ) hJ (sp := sp) (cu := cu) (re := re) (by omega) (by omega) (by omega)
      exact r_ret hx hb hr hlocks dX2_drop_27 (by first | rw [if_pos (by omega)] | rw [if_neg (by omega)])
    · -- 12 to 15
      refine lv_iconst (v := iI (-1)) hx hb dX2_drop_15 rfl ?_
      exact r_ret hx hb hr hlocks dX2_drop_16 (by first | rw [if_pos (by omega)] | rw [if_neg (by omega)])
theorem fl_X2_wired_19 : Cond.fieldLink RX2 19 "NoiseLamps" "lamps" "LNoiseLamps$Lamps;" ∈ wsX2_wired := by decide +kernel
set_option maxHeartbeats 4000000 in
set_option maxRecDepth 100000 in
theorem c_X2_wired (l : Launch) (D : va_G) (cy : ClassId) (x : Nat) (A B : Nat → Nat) (σ τ : Nat → Int → Int) (cu re mo : Int) (hI : invN σ) (hJ : invL τ) (hd : ∀ k, I32 (σ 18 k)) (hzcu : I32 cu) (hzre : I32 re) (hzmo : I32 mo) : MetR l yX2_wired wsX2_wired ({ frames := 3, cells := 0, slots := 0, locals := 72 } : Room) D cy (wP cy x A B σ τ) ([.ref x, .int (iI cu), .int (iI re), .int (iI mo)] : List Value) (if (0 ≤ cu ∧ cu ≤ 20000) ∧ (0 ≤ re ∧ re ≤ 10000) then lWired τ cu re mo else -1) := by
  refine met_R (cc := cX2_wired) (maxL := 4) (ret := (some .int)) (by decide) rfl (Nat.le_of_ble_eq_true rfl) ?_
  intro p e s m below meth c hx hb hr hml hts hown hlocks hP hK ls hl
  have hown : s.vm.findClass RX2 = some m.cls := hown
  have hl : lv_has ls 4 [(0, .ref x), (1, .int (iI cu)), (2, .int (iI re)), (3, .int (iI mo))] := hl
  obtain ⟨hN0, hN4, hN8, hN14, hB1, hB2, hB3, hB5, hB6, hB7, hB9, hB10, hB11, hB12, hB13, hB15, hB16, hB17⟩ := id hI
  obtain ⟨hL3, hB0, hC1, hC2⟩ := id hJ
  refine lv_iload_n hx hb dX2_wired_0 rfl (lv_at hl 1 rfl) ?_
  refine lv_iload_n hx hb dX2_wired_1 rfl (lv_at hl 2 rfl) ?_
  refine r_calli (va_runS (As := [.int (iI cu), .int (iI re)]) (rest := []) ⟨hx, hb, hml, hown, hts⟩ (c_X2_isWire l  cu re (by omega) (by omega)) (va_cwS 2 hts gX2_wired_X2_isWire rfl rfl rfl (by decide +kernel) ⟨Nat.le_of_ble_eq_true rfl, Nat.le_of_ble_eq_true rfl⟩) ps_T rfl rfl hl.1 rfl (lv_room (Nat.le_of_ble_eq_true rfl)) dX2_wired_2 ⟨Nat.le_of_ble_eq_true rfl, Nat.le_of_ble_eq_true rfl⟩) ?_
  refine r_ifB_eq (tgt := 21) hx hb dX2_wired_5 (by decide) (fun h1 => ?_) (fun h1 => ?_)
  · -- 5 to 21
    refine lv_iconst (v := iI (-1)) hx hb dX2_wired_21 rfl ?_
    exact r_ret hx hb hr hlocks dX2_wired_22 (by first | rw [if_pos (by omega)] | rw [if_neg (by omega)])
  · -- 5 to 8
    refine lv_aload_n hx hb dX2_wired_8 rfl (lv_at hl 0 rfl) ?_
    refine va_get (D := D) (ci := 2) (v := .ref (B 100)) (C := RX2) (T := TX2) (N := 2) hx hb hts (fun _ h => List.mem_cons_of_mem _ (List.mem_append_left _ (List.mem_append_right _ h))) hown hK hP 0 rfl rfl 1 (by decide) (hts _ fl_X2_wired_19) (fun _ h9 => h9) rfl dX2_wired_9 ?_
    refine lv_iload_n hx hb dX2_wired_12 rfl (lv_at hl 1 rfl) ?_
    refine lv_iload_n hx hb dX2_wired_13 rfl (lv_at hl 2 rfl) ?_
    refine lv_iload_n hx hb dX2_wired_14 rfl (lv_at hl 3 rfl) ?_
    refine r_calli (va_runV (As := [.int (iI cu), .int (iI re), .int (iI mo)]) (rest := []) ⟨hx, hb, hml, hown, hts⟩ (c_X0_widestWiredSpacing l D cy B τ cu re mo hJ (by omega) (by omega) (by omega)) (cwV 3 hts gX2_wired_X0_widestWiredSpacing rfl rfl rfl (by decide +kernel) ⟨Nat.le_of_ble_eq_true rfl, Nat.le_of_ble_eq_true rfl⟩) (pv_ro (C := RX0) (T := TX0) (N := 4) (ci := 0) (q0 := 0) (vpR (a := wN cy A σ) (b := wL cy B τ) (vpR (a := wX x A B) hP)) hK rfl rfl) rfl rfl hl.1 rfl (lv_room (Nat.le_of_ble_eq_true rfl)) dX2_wired_15 ⟨Nat.le_of_ble_eq_true rfl, Nat.le_of_ble_eq_true rfl⟩) ?_
    refine lv_goto (tgt := 22) hx hb dX2_wired_18 (by decide) ?_
    exact r_ret hx hb hr hlocks dX2_wired_22 (by first | rw [if_pos (by omega)] | rw [if_neg (by omega)])
theorem fl_X2_count_10 : Cond.fieldLink RX2 10 "NoiseLamps" "noise" "LNoiseLamps$Noise;" ∈ wsX2_count := by decide +kernel
theorem fl_X2_count_19 : Cond.fieldLink RX2 19 "NoiseLamps" "lamps" "LNoiseLamps$Lamps;" ∈ wsX2_count := by decide +kernel
set_option maxHeartbeats 4000000 in
set_option maxRecDepth 100000 in
theorem c_X2_count (l : Launch) (D : va_G) (cy : ClassId) (x : Nat) (A B : Nat → Nat) (σ τ : Nat → Int → Int) (a : Int) (hI : invN σ) (hJ : invL τ) (hd : ∀ k, I32 (σ 18 k)) (hza : I32 a) : MetR l yX2_count wsX2_count ({ frames := 1, cells := 0, slots := 0, locals := 22 } : Room) D cy (wP cy x A B σ τ) ([.ref x, .int (iI a)] : List Value) (if a = 0 then σ 0 0 else if a = 1 then σ 4 0 else if a = 2 then σ 8 0 else if a = 3 then nAll σ else if a = 4 then lLit τ else if a = 5 then τ 3 0 else -1) := by
  refine met_R (cc := cX2_count) (maxL := 2) (ret := (some .int)) (by decide) rfl (Nat.le_of_ble_eq_true rfl) ?_
  intro p e s m below meth c hx hb hr hml hts hown hlocks hP hK ls hl
  have hown : s.vm.findClass RX2 = some m.cls := hown
  have hl : lv_has ls 2 [(0, .ref x), (1, .int (iI a))] := hl
  obtain ⟨hN0, hN4, hN8, hN14, hB1, hB2, hB3, hB5, hB6, hB7, hB9, hB10, hB11, hB12, hB13, hB15, hB16, hB17⟩ := id hI
  obtain ⟨hL3, hB0, hC1, hC2⟩ := id hJ
  refine lv_iload_n hx hb dX2_count_0 rfl (lv_at hl 1 rfl) ?_
  by_cases h1 : a = 0
  · refine lv_tableIn (tgt := 40) hx hb dX2_count_1 (by rw [iI_toInt (by omega)]; omega) (by rw [iI_toInt (by omega)]; omega) (by rw [iI_toInt (by omega), h1]; rfl) (by decide) ?_
    refine lv_aload_n hx hb dX2_count_40 rfl (lv_at hl 0 rfl) ?_
    refine va_get (D := D) (ci := 2) (v := .ref (A 100)) (C := RX2) (T := TX2) (N := 2) hx hb hts (fun _ h => List.mem_cons_of_mem _ (List.mem_append_left _ (List.mem_append_left _ (List.mem_append_right _ h)))) hown hK hP 0 rfl rfl 0 (by decide) (hts _ fl_X2_count_10) (fun _ h9 => h9) rfl dX2_count_41 ?_
    refine r_calli (va_runV (As := []) (rest := []) ⟨hx, hb, hml, hown, hts⟩ (c_X1_pieceCount l D cy A σ  hI) (cwV 0 hts gX2_count_X1_pieceCount rfl rfl rfl (by decide +kernel) ⟨Nat.le_of_ble_eq_true rfl, Nat.le_of_ble_eq_true rfl⟩) (pv_ro (C := RX1) (T := TX1) (N := 19) (ci := 1) (q0 := 0) (vpL (a := wN cy A σ) (b := wL cy B τ) (vpR (a := wX x A B) hP)) hK rfl rfl) rfl rfl hl.1 rfl (lv_room (Nat.le_of_ble_eq_true rfl)) dX2_count_44 ⟨Nat.le_of_ble_eq_true rfl, Nat.le_of_ble_eq_true rfl⟩) ?_
    exact r_ret hx hb hr hlocks dX2_count_47 (by rw [if_pos (by omega)])
  by_cases h2 : a = 1
  · refine lv_tableIn (tgt := 48) hx hb dX2_count_1 (by rw [iI_toInt (by omega)]; omega) (by rw [iI_toInt (by omega)]; omega) (by rw [iI_toInt (by omega), h2]; rfl) (by decide) ?_
    refine lv_aload_n hx hb dX2_count_48 rfl (lv_at hl 0 rfl) ?_
    refine va_get (D := D) (ci := 2) (v := .ref (A 100)) (C := RX2) (T := TX2) (N := 2) hx hb hts (fun _ h => List.mem_cons_of_mem _ (List.mem_append_left _ (List.mem_append_left _ (List.mem_append_right _ h)))) hown hK hP 0 rfl rfl 0 (by decide) (hts _ fl_X2_count_10) (fun _ h9 => h9) rfl dX2_count_49 ?_
    refine r_calli (va_runV (As := []) (rest := []) ⟨hx, hb, hml, hown, hts⟩ (c_X1_houseCount l D cy A σ  hI) (cwV 0 hts gX2_count_X1_houseCount rfl rfl rfl (by decide +kernel) ⟨Nat.le_of_ble_eq_true rfl, Nat.le_of_ble_eq_true rfl⟩) (pv_ro (C := RX1) (T := TX1) (N := 19) (ci := 1) (q0 := 0) (vpL (a := wN cy A σ) (b := wL cy B τ) (vpR (a := wX x A B) hP)) hK rfl rfl) rfl rfl hl.1 rfl (lv_room (Nat.le_of_ble_eq_true rfl)) dX2_count_52 ⟨Nat.le_of_ble_eq_true rfl, Nat.le_of_ble_eq_true rfl⟩) ?_
    exact r_ret hx hb hr hlocks dX2_count_55 (by rw [if_neg (by omega), if_pos (by omega)])
  by_cases h3 : a = 2
  · refine lv_tableIn (tgt := 56) hx hb dX2_count_1 (by rw [iI_toInt (by omega)]; omega) (by rw [iI_toInt (by omega)]; omega) (by rw [iI_toInt (by omega), h3]; rfl) (by decide) ?_
    refine lv_aload_n hx hb dX2_count_56 rfl (lv_at hl 0 rfl) ?_
    refine va_get (D := D) (ci := 2) (v := .ref (A 100)) (C := RX2) (T := TX2) (N := 2) hx hb hts (fun _ h => List.mem_cons_of_mem _ (List.mem_append_left _ (List.mem_append_left _ (List.mem_append_right _ h)))) hown hK hP 0 rfl rfl 0 (by decide) (hts _ fl_X2_count_10) (fun _ h9 => h9) rfl dX2_count_57 ?_
    refine r_calli (va_runV (As := []) (rest := []) ⟨hx, hb, hml, hown, hts⟩ (c_X1_wallCount l D cy A σ  hI) (cwV 0 hts gX2_count_X1_wallCount rfl rfl rfl (by decide +kernel) ⟨Nat.le_of_ble_eq_true rfl, Nat.le_of_ble_eq_true rfl⟩) (pv_ro (C := RX1) (T := TX1) (N := 19) (ci := 1) (q0 := 0) (vpL (a := wN cy A σ) (b := wL cy B τ) (vpR (a := wX x A B) hP)) hK rfl rfl) rfl rfl hl.1 rfl (lv_room (Nat.le_of_ble_eq_true rfl)) dX2_count_60 ⟨Nat.le_of_ble_eq_true rfl, Nat.le_of_ble_eq_true rfl⟩) ?_
    exact r_ret hx hb hr hlocks dX2_count_63 (by rw [if_neg (by omega), if_neg (by omega), if_pos (by omega)])
  by_cases h4 : a = 3
  · refine lv_tableIn (tgt := 64) hx hb dX2_count_1 (by rw [iI_toInt (by omega)]; omega) (by rw [iI_toInt (by omega)]; omega) (by rw [iI_toInt (by omega), h4]; rfl) (by decide) ?_
    refine lv_aload_n hx hb dX2_count_64 rfl (lv_at hl 0 rfl) ?_
    refine va_get (D := D) (ci := 2) (v := .ref (A 100)) (C := RX2) (T := TX2) (N := 2) hx hb hts (fun _ h => List.mem_cons_of_mem _ (List.mem_append_left _ (List.mem_append_left _ (List.mem_append_right _ h)))) hown hK hP 0 rfl rfl 0 (by decide) (hts _ fl_X2_count_10) (fun _ h9 => h9) rfl dX2_count_65 ?_
    refine r_calli (va_runV (As := []) (rest := []) ⟨hx, hb, hml, hown, hts⟩ (c_X1_allPeople l D cy A σ  hI) (cwV 0 hts gX2_count_X1_allPeople rfl rfl rfl (by decide +kernel) ⟨Nat.le_of_ble_eq_true rfl, Nat.le_of_ble_eq_true rfl⟩) (pv_ro (C := RX1) (T := TX1) (N := 19) (ci := 1) (q0 := 0) (vpL (a := wN cy A σ) (b := wL cy B τ) (vpR (a := wX x A B) hP)) hK rfl rfl) rfl rfl hl.1 rfl (lv_room (Nat.le_of_ble_eq_true rfl)) dX2_count_68 ⟨Nat.le_of_ble_eq_true rfl, Nat.le_of_ble_eq_true rfl⟩) ?_
    exact r_ret hx hb hr hlocks dX2_count_71 (by rw [if_neg (by omega), if_neg (by omega), if_neg (by omega), if_pos (by omega)])
  by_cases h5 : a = 4
  · refine lv_tableIn (tgt := 72) hx hb dX2_count_1 (by rw [iI_toInt (by omega)]; omega) (by rw [iI_toInt (by omega)]; omega) (by rw [iI_toInt (by omega), h5]; rfl) (by decide) ?_
    refine lv_aload_n hx hb dX2_count_72 rfl (lv_at hl 0 rfl) ?_
    refine va_get (D := D) (ci := 2) (v := .ref (B 100)) (C := RX2) (T := TX2) (N := 2) hx hb hts (fun _ h => List.mem_cons_of_mem _ (List.mem_append_left _ (List.mem_append_left _ (List.mem_append_right _ h)))) hown hK hP 0 rfl rfl 1 (by decide) (hts _ fl_X2_count_19) (fun _ h9 => h9) rfl dX2_count_73 ?_
    refine r_calli (va_runV (As := []) (rest := []) ⟨hx, hb, hml, hown, hts⟩ (c_X0_litDistances l D cy B τ  hJ) (cwV 0 hts gX2_count_X0_litDistances rfl rfl rfl (by decide +kernel) ⟨Nat.le_of_ble_eq_true rfl, Nat.le_of_ble_eq_true rfl⟩) (pv_ro (C := RX0) (T := TX0) (N := 4) (ci := 0) (q0 := 0) (vpR (a := wN cy A σ) (b := wL cy B τ) (vpR (a := wX x A B) hP)) hK rfl rfl) rfl rfl hl.1 rfl (lv_room (Nat.le_of_ble_eq_true rfl)) dX2_count_76 ⟨Nat.le_of_ble_eq_true rfl, Nat.le_of_ble_eq_true rfl⟩) ?_
    exact r_ret hx hb hr hlocks dX2_count_79 (by rw [if_neg (by omega), if_neg (by omega), if_neg (by omega), if_neg (by omega), if_pos (by omega)])
  by_cases h6 : a = 5
  · refine lv_tableIn (tgt := 80) hx hb dX2_count_1 (by rw [iI_toInt (by omega)]; omega) (by rw [iI_toInt (by omega)]; omega) (by rw [iI_toInt (by omega), h6]; rfl) (by decide) ?_
    refine lv_aload_n hx hb dX2_count_80 rfl (lv_at hl 0 rfl) ?_
    refine va_get (D := D) (ci := 2) (v := .ref (B 100)) (C := RX2) (T := TX2) (N := 2) hx hb hts (fun _ h => List.mem_cons_of_mem _ (List.mem_append_left _ (List.mem_append_left _ (List.mem_append_right _ h)))) hown hK hP 0 rfl rfl 1 (by decide) (hts _ fl_X2_count_19) (fun _ h9 => h9) rfl dX2_count_81 ?_
    refine r_calli (va_runV (As := []) (rest := []) ⟨hx, hb, hml, hown, hts⟩ (c_X0_roadLength l D cy B τ  hJ) (cwV 0 hts gX2_count_X0_roadLength rfl rfl rfl (by decide +kernel) ⟨Nat.le_of_ble_eq_true rfl, Nat.le_of_ble_eq_true rfl⟩) (pv_ro (C := RX0) (T := TX0) (N := 4) (ci := 0) (q0 := 0) (vpR (a := wN cy A σ) (b := wL cy B τ) (vpR (a := wX x A B) hP)) hK rfl rfl) rfl rfl hl.1 rfl (lv_room (Nat.le_of_ble_eq_true rfl)) dX2_count_84 ⟨Nat.le_of_ble_eq_true rfl, Nat.le_of_ble_eq_true rfl⟩) ?_
    exact r_ret hx hb hr hlocks dX2_count_87 (by rw [if_neg (by omega), if_neg (by omega), if_neg (by omega), if_neg (by omega), if_neg (by omega), if_pos (by omega)])
  refine lv_tableOut (tgt := 88) hx hb dX2_count_1 (by rw [iI_toInt (by omega)]; omega) (by decide) ?_
  refine lv_iconst (v := iI (-1)) hx hb dX2_count_88 rfl ?_
  exact r_ret hx hb hr hlocks dX2_count_89 (by rw [if_neg (by omega), if_neg (by omega), if_neg (by omega), if_neg (by omega), if_neg (by omega), if_neg (by omega)])
