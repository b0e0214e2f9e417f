/-! THE REFERENCE: leaves -/
set_option maxHeartbeats 4000000 in
set_option maxRecDepth 100000 in
theorem c_X3_within (l : Launch) (a b z : Int) (ha : I32 a) (hb0 : I32 b) (hz : I32 z) : MetS l yX3_within wsX3_within ({ frames := 0, cells := 0, slots := 0, locals := 0 } : Room) ([.int (iI a), .int (iI b), .int (iI z)] : List Value) (bI (b ≤ a ∧ a ≤ z)) := by
  refine met_T (cc := cX3_within) (maxL := 3) (ret := (some .boolean)) (by decide) rfl (Nat.le_of_ble_eq_true rfl) ?_
  intro p e s m below meth c hx hb hr hml hts hown hlocks ls hl
  have hown : s.vm.findClass RX3 = some m.cls := hown
  have hl : lv_has ls 3 [(0, .int (iI a)), (1, .int (iI b)), (2, .int (iI z))] := hl
  refine lv_iload_n hx hb dX3_within_0 rfl (lv_at hl 0 rfl) ?_
  refine lv_iload_n hx hb dX3_within_1 rfl (lv_at hl 1 rfl) ?_
  refine r_icmp_lt (tgt := 14) hx hb dX3_within_2 (by decide) (by omega) (by omega) (fun h1 => ?_) (fun h1 => ?_)
  · -- 2 to 14
    refine lv_iconst (v := iI 0) hx hb dX3_within_14 rfl ?_
    exact r_retZ hx hb hr hlocks dX3_within_15 (zn_of (by omega)) (by first | rfl | exact (bI_t (by omega)).symm | exact (bI_f (by omega)).symm)
  · -- 2 to 5
    refine lv_iload_n hx hb dX3_within_5 rfl (lv_at hl 0 rfl) ?_
    refine lv_iload_n hx hb dX3_within_6 rfl (lv_at hl 2 rfl) ?_
    refine r_icmp_gt (tgt := 14) hx hb dX3_within_7 (by decide) (by omega) (by omega) (fun h2 => ?_) (fun h2 => ?_)
    · -- 7 to 14
      refine lv_iconst (v := iI 0) hx hb dX3_within_14 rfl ?_
      exact r_retZ hx hb hr hlocks dX3_within_15 (zn_of (by omega)) (by first | rfl | exact (bI_t (by omega)).symm | exact (bI_f (by omega)).symm)
    · -- 7 to 10
      refine lv_iconst (v := iI 1) hx hb dX3_within_10 rfl ?_
      refine lv_goto (tgt := 15) hx hb dX3_within_11 (by decide) ?_
      exact r_retZ hx hb hr hlocks dX3_within_15 (zn_of (by omega)) (by first | rfl | exact (bI_t (by omega)).symm | exact (bI_f (by omega)).symm)
set_option maxHeartbeats 4000000 in
set_option maxRecDepth 100000 in
theorem c_X3_isPoint (l : Launch) (a b : Int) (ha : I32 a) (hb0 : I32 b) : MetS l yX3_isPoint wsX3_isPoint ({ frames := 1, cells := 0, slots := 0, locals := 22 } : Room) ([.int (iI a), .int (iI b)] : List Value) (bI ((-5000 ≤ a ∧ a ≤ 5000) ∧ (-5000 ≤ b ∧ b ≤ 5000))) := by
  refine met_T (cc := cX3_isPoint) (maxL := 2) (ret := (some .boolean)) (by decide) rfl (Nat.le_of_ble_eq_true rfl) ?_
  intro p e s m below meth c hx hb hr hml hts hown hlocks ls hl
  have hown : s.vm.findClass RX3 = some m.cls := hown
  have hl : lv_has ls 2 [(0, .int (iI a)), (1, .int (iI b))] := hl
  refine lv_iload_n hx hb dX3_isPoint_0 rfl (lv_at hl 0 rfl) ?_
  refine lv_sipush (v := iI (-5000)) hx hb dX3_isPoint_1 (by decide +kernel) ?_
  refine lv_sipush (v := iI 5000) hx hb dX3_isPoint_4 (by decide +kernel) ?_
  refine r_calli (va_runS (As := [.int (iI a), .int (iI (-5000)), .int (iI 5000)]) (rest := []) ⟨hx, hb, hml, hown, hts⟩ (c_X3_within l  a (-5000) 5000 (by omega) (by omega) (by omega)) (va_cwS 3 hts gX3_isPoint_X3_within rfl rfl rfl (by decide +kernel) ⟨Nat.le_of_ble_eq_true rfl, Nat.le_of_ble_eq_true rfl⟩) ps_T rfl rfl hl.1 rfl (lv_room (Nat.le_of_ble_eq_true rfl)) dX3_isPoint_7 ⟨Nat.le_of_ble_eq_true rfl, Nat.le_of_ble_eq_true rfl⟩) ?_
  refine r_ifB_eq (tgt := 30) hx hb dX3_isPoint_10 (by decide) (fun h1 => ?_) (fun h1 => ?_)
  · -- 10 to 30
    refine lv_iconst (v := iI 0) hx hb dX3_isPoint_30 rfl ?_
    exact r_retZ hx hb hr hlocks dX3_isPoint_31 (zn_of (by omega)) (by first | rfl | exact (bI_t (by omega)).symm | exact (bI_f (by omega)).symm)
  · -- 10 to 13
    refine lv_iload_n hx hb dX3_isPoint_13 rfl (lv_at hl 1 rfl) ?_
    refine lv_sipush (v := iI (-5000)) hx hb dX3_isPoint_14 (by decide +kernel) ?_
    refine lv_sipush (v := iI 5000) hx hb dX3_isPoint_17 (by decide +kernel) ?_
    refine r_calli (va_runS (As := [.int (iI b), .int (iI (-5000)), .int (iI 5000)]) (rest := []) ⟨hx, hb, hml, hown, hts⟩ (c_X3_within l  b (-5000) 5000 (by omega) (by omega) (by omega)) (va_cwS 3 hts gX3_isPoint_X3_within rfl rfl rfl (by decide +kernel) ⟨Nat.le_of_ble_eq_true rfl, Nat.le_of_ble_eq_true rfl⟩) ps_T rfl rfl hl.1 rfl (lv_room (Nat.le_of_ble_eq_true rfl)) dX3_isPoint_20 ⟨Nat.le_of_ble_eq_true rfl, Nat.le_of_ble_eq_true rfl⟩) ?_
    refine r_ifB_eq (tgt := 30) hx hb dX3_isPoint_23 (by decide) (fun h2 => ?_) (fun h2 => ?_)
    · -- 23 to 30
      refine lv_iconst (v := iI 0) hx hb dX3_isPoint_30 rfl ?_
      exact r_retZ hx hb hr hlocks dX3_isPoint_31 (zn_of (by omega)) (by first | rfl | exact (bI_t (by omega)).symm | exact (bI_f (by omega)).symm)
    · -- 23 to 26
      refine lv_iconst (v := iI 1) hx hb dX3_isPoint_26 rfl ?_
      refine lv_goto (tgt := 31) hx hb dX3_isPoint_27 (by decide) ?_
      exact r_retZ hx hb hr hlocks dX3_isPoint_31 (zn_of (by omega)) (by first | rfl | exact (bI_t (by omega)).symm | exact (bI_f (by omega)).symm)
set_option maxHeartbeats 4000000 in
set_option maxRecDepth 100000 in
theorem c_X3_isSpacing (l : Launch) (a : Int) (ha : I32 a) : MetS l yX3_isSpacing wsX3_isSpacing ({ frames := 1, cells := 0, slots := 0, locals := 22 } : Room) ([.int (iI a)] : List Value) (bI (10 ≤ a ∧ a ≤ 600)) := by
  refine met_T (cc := cX3_isSpacing) (maxL := 1) (ret := (some .boolean)) (by decide) rfl (Nat.le_of_ble_eq_true rfl) ?_
  intro p e s m below meth c hx hb hr hml hts hown hlocks ls hl
  have hown : s.vm.findClass RX3 = some m.cls := hown
  have hl : lv_has ls 1 [(0, .int (iI a))] := hl
  refine lv_iload_n hx hb dX3_isSpacing_0 rfl (lv_at hl 0 rfl) ?_
  refine lv_bipush (v := iI 10) hx hb dX3_isSpacing_1 (by decide +kernel) ?_
  refine lv_sipush (v := iI 600) hx hb dX3_isSpacing_3 (by decide +kernel) ?_
  refine r_calli (va_runS (As := [.int (iI a), .int (iI 10), .int (iI 600)]) (rest := []) ⟨hx, hb, hml, hown, hts⟩ (c_X3_within l  a 10 600 (by omega) (by omega) (by omega)) (va_cwS 3 hts gX3_isSpacing_X3_within rfl rfl rfl (by decide +kernel) ⟨Nat.le_of_ble_eq_true rfl, Nat.le_of_ble_eq_true rfl⟩) ps_T rfl rfl hl.1 rfl (lv_room (Nat.le_of_ble_eq_true rfl)) dX3_isSpacing_6 ⟨Nat.le_of_ble_eq_true rfl, Nat.le_of_ble_eq_true rfl⟩) ?_
  exact r_retZ hx hb hr hlocks dX3_isSpacing_9 (zn_b _) rfl
set_option maxHeartbeats 4000000 in
set_option maxRecDepth 100000 in
theorem c_X3_isWire (l : Launch) (a b : Int) (ha : I32 a) (hb0 : I32 b) : MetS l yX3_isWire wsX3_isWire ({ frames := 1, cells := 0, slots := 0, locals := 22 } : Room) ([.int (iI a), .int (iI b)] : List Value) (bI ((0 ≤ a ∧ a ≤ 20000) ∧ (0 ≤ b ∧ b ≤ 10000))) := by
  refine met_T (cc := cX3_isWire) (maxL := 2) (ret := (some .boolean)) (by decide) rfl (Nat.le_of_ble_eq_true rfl) ?_
  intro p e s m below meth c hx hb hr hml hts hown hlocks ls hl
  have hown : s.vm.findClass RX3 = some m.cls := hown
  have hl : lv_has ls 2 [(0, .int (iI a)), (1, .int (iI b))] := hl
  refine lv_iload_n hx hb dX3_isWire_0 rfl (lv_at hl 0 rfl) ?_
  refine lv_iconst (v := iI 0) hx hb dX3_isWire_1 rfl ?_
  refine lv_sipush (v := iI 20000) hx hb dX3_isWire_2 (by decide +kernel) ?_
  refine r_calli (va_runS (As := [.int (iI a), .int (iI 0), .int (iI 20000)]) (rest := []) ⟨hx, hb, hml, hown, hts⟩ (c_X3_within l  a 0 20000 (by omega) (by omega) (by omega)) (va_cwS 3 hts gX3_isWire_X3_within rfl rfl rfl (by decide +kernel) ⟨Nat.le_of_ble_eq_true rfl, Nat.le_of_ble_eq_true rfl⟩) ps_T rfl rfl hl.1 rfl (lv_room (Nat.le_of_ble_eq_true rfl)) dX3_isWire_5 ⟨Nat.le_of_ble_eq_true rfl, Nat.le_of_ble_eq_true rfl⟩) ?_
  refine r_ifB_eq (tgt := 26) hx hb dX3_isWire_8 (by decide) (fun h1 => ?_) (fun h1 => ?_)
  · -- 8 to 26
    refine lv_iconst (v := iI 0) hx hb dX3_isWire_26 rfl ?_
    exact r_retZ hx hb hr hlocks dX3_isWire_27 (zn_of (by omega)) (by first | rfl | exact (bI_t (by omega)).symm | exact (bI_f (by omega)).symm)
  · -- 8 to 11
    refine lv_iload_n hx hb dX3_isWire_11 rfl (lv_at hl 1 rfl) ?_
    refine lv_iconst (v := iI 0) hx hb dX3_isWire_12 rfl ?_
    refine lv_sipush (v := iI 10000) hx hb dX3_isWire_13 (by decide +kernel) ?_
    refine r_calli (va_runS (As := [.int (iI b), .int (iI 0), .int (iI 10000)]) (rest := []) ⟨hx, hb, hml, hown, hts⟩ (c_X3_within l  b 0 10000 (by omega) (by omega) (by omega)) (va_cwS 3 hts gX3_isWire_X3_within rfl rfl rfl (by decide +kernel) ⟨Nat.le_of_ble_eq_true rfl, Nat.le_of_ble_eq_true rfl⟩) ps_T rfl rfl hl.1 rfl (lv_room (Nat.le_of_ble_eq_true rfl)) dX3_isWire_16 ⟨Nat.le_of_ble_eq_true rfl, Nat.le_of_ble_eq_true rfl⟩) ?_
    refine r_ifB_eq (tgt := 26) hx hb dX3_isWire_19 (by decide) (fun h2 => ?_) (fun h2 => ?_)
    · -- 19 to 26
      refine lv_iconst (v := iI 0) hx hb dX3_isWire_26 rfl ?_
      exact r_retZ hx hb hr hlocks dX3_isWire_27 (zn_of (by omega)) (by first | rfl | exact (bI_t (by omega)).symm | exact (bI_f (by omega)).symm)
    · -- 19 to 22
      refine lv_iconst (v := iI 1) hx hb dX3_isWire_22 rfl ?_
      refine lv_goto (tgt := 27) hx hb dX3_isWire_23 (by decide) ?_
      exact r_retZ hx hb hr hlocks dX3_isWire_27 (zn_of (by omega)) (by first | rfl | exact (bI_t (by omega)).symm | exact (bI_f (by omega)).symm)
set_option maxHeartbeats 4000000 in
set_option maxRecDepth 100000 in
theorem c_X3_side (l : Launch) (a0 a1 a2 a3 a4 a5 : Int) (ha0 : -5000 ≤ a0 ∧ a0 ≤ 5000) (ha1 : -5000 ≤ a1 ∧ a1 ≤ 5000) (ha2 : -5000 ≤ a2 ∧ a2 ≤ 5000) (ha3 : -5000 ≤ a3 ∧ a3 ≤ 5000) (ha4 : -5000 ≤ a4 ∧ a4 ≤ 5000) (ha5 : -5000 ≤ a5 ∧ a5 ≤ 5000) : MetS l yX3_side wsX3_side ({ frames := 0, cells := 0, slots := 0, locals := 0 } : Room) ([.long (jI a0), .long (jI a1), .long (jI a2), .long (jI a3), .long (jI a4), .long (jI a5)] : List Value) (sgZ (tuZ a0 a1 a2 a3 a4 a5)) := by
  refine met_T (cc := cX3_side) (maxL := 14) (ret := (some .int)) (by decide) rfl (Nat.le_of_ble_eq_true rfl) ?_
  intro p e s m below meth c hx hb hr hml hts hown hlocks ls hl
  have hown : s.vm.findClass RX3 = some m.cls := hown
  have hl : lv_has ls 14 [(0, .long (jI a0)), (2, .long (jI a1)), (4, .long (jI a2)), (6, .long (jI a3)), (8, .long (jI a4)), (10, .long (jI a5))] := hl
  have ht := tuZ_bd ha0 ha1 ha2 ha3 ha4 ha5
  have hs0 := sgZ_s (tuZ a0 a1 a2 a3 a4 a5)
  have he : tuZ a0 a1 a2 a3 a4 a5 = (a2 - a0) * (a5 - a1) - (a3 - a1) * (a4 - a0) := rfl
  refine lv_lload hx hb dX3_side_0 (lv_at hl 2 rfl) ?_
  refine lv_lload_n hx hb dX3_side_2 rfl (lv_at hl 0 rfl) ?_
  refine r_lsub hx hb dX3_side_3 ?_
  refine lv_lload hx hb dX3_side_4 (lv_at hl 5 rfl) ?_
  refine lv_lload_n hx hb dX3_side_6 rfl (lv_at hl 1 rfl) ?_
  refine r_lsub hx hb dX3_side_7 ?_
  refine r_lmul hx hb dX3_side_8 ?_
  refine lv_lload hx hb dX3_side_9 (lv_at hl 3 rfl) ?_
  refine lv_lload_n hx hb dX3_side_11 rfl (lv_at hl 1 rfl) ?_
  refine r_lsub hx hb dX3_side_12 ?_
  refine lv_lload hx hb dX3_side_13 (lv_at hl 4 rfl) ?_
  refine lv_lload_n hx hb dX3_side_15 rfl (lv_at hl 0 rfl) ?_
  refine r_lsub hx hb dX3_side_16 ?_
  refine r_lmul hx hb dX3_side_17 ?_
  refine r_lsub hx hb dX3_side_18 ?_
  refine lv_lstore (lv' := [(12, .long (jI (((a2 - a0) * (a5 - a1)) - ((a3 - a1) * (a4 - a0))))), (0, .long (jI a0)), (2, .long (jI a1)), (4, .long (jI a2)), (6, .long (jI a3)), (8, .long (jI a4)), (10, .long (jI a5))]) hx hb dX3_side_19 hl (by decide) rfl (fun ls hl => ?_)
  refine lv_lload hx hb dX3_side_21 (lv_at hl 0 rfl) ?_
  refine lv_lconst (v := jI 0) hx hb dX3_side_23 (by decide +kernel) ?_
  refine r_lcmp hx hb dX3_side_24 (by omega) (by omega) ?_
  refine r_if_le (tgt := 32) hx hb dX3_side_25 (by decide) (cmp_i32 _ _) (fun h1 => ?_) (fun h1 => ?_)
  · -- 25 to 32
    replace h1 := cmp_le h1
    refine lv_lload hx hb dX3_side_32 (lv_at hl 0 rfl) ?_
    refine lv_lconst (v := jI 0) hx hb dX3_side_34 (by decide +kernel) ?_
    refine r_lcmp hx hb dX3_side_35 (by omega) (by omega) ?_
    refine r_if_ge (tgt := 43) hx hb dX3_side_36 (by decide) (cmp_i32 _ _) (fun h2 => ?_) (fun h2 => ?_)
    · -- 36 to 43
      replace h2 := cmp_ge h2
      refine lv_iconst (v := iI 0) hx hb dX3_side_43 rfl ?_
      exact r_ret hx hb hr hlocks dX3_side_44 (by omega)
    · -- 36 to 39
      replace h2 := cmp_lt h2
      refine lv_iconst (v := iI (-1)) hx hb dX3_side_39 rfl ?_
      refine lv_goto (tgt := 44) hx hb dX3_side_40 (by decide) ?_
      exact r_ret hx hb hr hlocks dX3_side_44 (by omega)
  · -- 25 to 28
    replace h1 := cmp_gt h1
    refine lv_iconst (v := iI 1) hx hb dX3_side_28 rfl ?_
    refine lv_goto (tgt := 44) hx hb dX3_side_29 (by decide) ?_
    exact r_ret hx hb hr hlocks dX3_side_44 (by omega)
set_option maxHeartbeats 4000000 in
set_option maxRecDepth 100000 in
theorem c_X3_isBetween (l : Launch) (ax ay bx b2 x0 y0 : Int) (hax : I32 ax) (hay : I32 ay) (hbx : I32 bx) (hb2 : I32 b2) (hx0 : I32 x0) (hy0 : I32 y0) : MetS l yX3_isBetween wsX3_isBetween ({ frames := 0, cells := 0, slots := 0, locals := 0 } : Room) ([.int (iI ax), .int (iI ay), .int (iI bx), .int (iI b2), .int (iI x0), .int (iI y0)] : List Value) (bI (btP ax ay bx b2 x0 y0)) := by
  refine met_T (cc := cX3_isBetween) (maxL := 8) (ret := (some .boolean)) (by decide) rfl (Nat.le_of_ble_eq_true rfl) ?_
  intro p e s m below meth c hx hb hr hml hts hown hlocks ls hl
  have hown : s.vm.findClass RX3 = some m.cls := hown
  have hl : lv_has ls 8 [(0, .int (iI ax)), (1, .int (iI ay)), (2, .int (iI bx)), (3, .int (iI b2)), (4, .int (iI x0)), (5, .int (iI y0))] := hl
  have jn44_1 : ∀ (ac : Int) (ls : Array Slot), ((ac = 1 ∧ ((ax ≤ x0 ∧ x0 ≤ bx) ∨ (bx ≤ x0 ∧ x0 ≤ ax))) ∨ (ac = 0 ∧ ¬ ((ax ≤ x0 ∧ x0 ≤ bx) ∨ (bx ≤ x0 ∧ x0 ≤ ax)))) → lv_has ls 8 [(6, .int (iI ac)), (0, .int (iI ax)), (1, .int (iI ay)), (2, .int (iI bx)), (3, .int (iI b2)), (4, .int (iI x0)), (5, .int (iI y0))] → W p l e ({ frames := 0, cells := 0, slots := 0, locals := 0 } : Room) s m ([.int (iI ax), .int (iI ay), .int (iI bx), .int (iI b2), .int (iI x0), .int (iI y0)] : List Value).toArray below meth c s.heap [] 0 0 (MQ below (vp_Si (fun r => r = iI (bI (btP ax ay bx b2 x0 y0)))) ([.int (iI ax), .int (iI ay), .int (iI bx), .int (iI b2), .int (iI x0), .int (iI y0)] : List Value).toArray s 0 0 (fun _ => False)) (F0 m 44 ls []) := by
    intro ac ls hac hl
    have jn88_2 : ∀ (uc : Int) (ls : Array Slot), ((uc = 1 ∧ ((ay ≤ y0 ∧ y0 ≤ b2) ∨ (b2 ≤ y0 ∧ y0 ≤ ay))) ∨ (uc = 0 ∧ ¬ ((ay ≤ y0 ∧ y0 ≤ b2) ∨ (b2 ≤ y0 ∧ y0 ≤ ay)))) → lv_has ls 8 [(7, .int (iI uc)), (6, .int (iI ac)), (0, .int (iI ax)), (1, .int (iI ay)), (2, .int (iI bx)), (3, .int (iI b2)), (4, .int (iI x0)), (5, .int (iI y0))] → W p l e ({ frames := 0, cells := 0, slots := 0, locals := 0 } : Room) s m ([.int (iI ax), .int (iI ay), .int (iI bx), .int (iI b2), .int (iI x0), .int (iI y0)] : List Value).toArray below meth c s.heap [] 0 0 (MQ below (vp_Si (fun r => r = iI (bI (btP ax ay bx b2 x0 y0)))) ([.int (iI ax), .int (iI ay), .int (iI bx), .int (iI b2), .int (iI x0), .int (iI y0)] : List Value).toArray s 0 0 (fun _ => False)) (F0 m 88 ls []) := by
      intro uc ls huc hl
      refine lv_iload hx hb dX3_isBetween_88 (lv_at hl 1 rfl) ?_
      refine r_if_eq (tgt := 102) hx hb dX3_isBetween_90 (by decide) (by omega) (fun h3 => ?_) (fun h3 => ?_)
      · -- 90 to 102
        refine lv_iconst (v := iI 0) hx hb dX3_isBetween_102 rfl ?_
        exact r_retZ hx hb hr hlocks dX3_isBetween_103 (zn_of (by omega)) (by first | rfl | exact (bI_t (by omega)).symm | exact (bI_f (by omega)).symm)
      · -- 90 to 93
        refine lv_iload hx hb dX3_isBetween_93 (lv_at hl 0 rfl) ?_
        refine r_if_eq (tgt := 102) hx hb dX3_isBetween_95 (by decide) (by omega) (fun h4 => ?_) (fun h4 => ?_)
        · -- 95 to 102
          refine lv_iconst (v := iI 0) hx hb dX3_isBetween_102 rfl ?_
          exact r_retZ hx hb hr hlocks dX3_isBetween_103 (zn_of (by omega)) (by first | rfl | exact (bI_t (by omega)).symm | exact (bI_f (by omega)).symm)
        · -- 95 to 98
          refine lv_iconst (v := iI 1) hx hb dX3_isBetween_98 rfl ?_
          refine lv_goto (tgt := 103) hx hb dX3_isBetween_99 (by decide) ?_
          exact r_retZ hx hb hr hlocks dX3_isBetween_103 (zn_of (by omega)) (by first | rfl | exact (bI_t (by omega)).symm | exact (bI_f (by omega)).symm)
    refine lv_iload_n hx hb dX3_isBetween_44 rfl (lv_at hl 2 rfl) ?_
    refine lv_iload_n hx hb dX3_isBetween_45 rfl (lv_at hl 4 rfl) ?_
    refine r_icmp_ge (tgt := 69) hx hb dX3_isBetween_46 (by decide) (by omega) (by omega) (fun h5 => ?_) (fun h5 => ?_)
    · -- 46 to 69
      refine lv_iload hx hb dX3_isBetween_69 (lv_at hl 6 rfl) ?_
      refine lv_iload_n hx hb dX3_isBetween_71 rfl (lv_at hl 4 rfl) ?_
      refine r_icmp_lt (tgt := 85) hx hb dX3_isBetween_72 (by decide) (by omega) (by omega) (fun h6 => ?_) (fun h6 => ?_)
      · -- 72 to 85
        refine lv_iconst (v := iI 0) hx hb dX3_isBetween_85 rfl ?_
        refine lv_istore (lv' := [(7, .int (iI 0)), (6, .int (iI ac)), (0, .int (iI ax)), (1, .int (iI ay)), (2, .int (iI bx)), (3, .int (iI b2)), (4, .int (iI x0)), (5, .int (iI y0))]) hx hb dX3_isBetween_86 hl (by decide) rfl (fun ls hl => ?_)
        exact jn88_2 0 ls (by omega) (lv_sub hl [0, 1, 2, 3, 4, 5, 6, 7] rfl)
      · -- 72 to 75
        refine lv_iload hx hb dX3_isBetween_75 (lv_at hl 6 rfl) ?_
        refine lv_iload_n hx hb dX3_isBetween_77 rfl (lv_at hl 2 rfl) ?_
        refine r_icmp_gt (tgt := 85) hx hb dX3_isBetween_78 (by decide) (by omega) (by omega) (fun h7 => ?_) (fun h7 => ?_)
        · -- 78 to 85
          refine lv_iconst (v := iI 0) hx hb dX3_isBetween_85 rfl ?_
          refine lv_istore (lv' := [(7, .int (iI 0)), (6, .int (iI ac)), (0, .int (iI ax)), (1, .int (iI ay)), (2, .int (iI bx)), (3, .int (iI b2)), (4, .int (iI x0)), (5, .int (iI y0))]) hx hb dX3_isBetween_86 hl (by decide) rfl (fun ls hl => ?_)
          exact jn88_2 0 ls (by omega) (lv_sub hl [0, 1, 2, 3, 4, 5, 6, 7] rfl)
        · -- 78 to 81
          refine lv_iconst (v := iI 1) hx hb dX3_isBetween_81 rfl ?_
          refine lv_goto (tgt := 86) hx hb dX3_isBetween_82 (by decide) ?_
          refine lv_istore (lv' := [(7, .int (iI 1)), (6, .int (iI ac)), (0, .int (iI ax)), (1, .int (iI ay)), (2, .int (iI bx)), (3, .int (iI b2)), (4, .int (iI x0)), (5, .int (iI y0))]) hx hb dX3_isBetween_86 hl (by decide) rfl (fun ls hl => ?_)
          exact jn88_2 1 ls (by omega) (lv_sub hl [0, 1, 2, 3, 4, 5, 6, 7] rfl)
    · -- 46 to 49
      refine lv_iload hx hb dX3_isBetween_49 (lv_at hl 6 rfl) ?_
      refine lv_iload_n hx hb dX3_isBetween_51 rfl (lv_at hl 2 rfl) ?_
      refine r_icmp_lt (tgt := 65) hx hb dX3_isBetween_52 (by decide) (by omega) (by omega) (fun h8 => ?_) (fun h8 => ?_)
      · -- 52 to 65
        refine lv_iconst (v := iI 0) hx hb dX3_isBetween_65 rfl ?_
        refine lv_goto (tgt := 86) hx hb dX3_isBetween_66 (by decide) ?_
        refine lv_istore (lv' := [(7, .int (iI 0)), (6, .int (iI ac)), (0, .int (iI ax)), (1, .int (iI ay)), (2, .int (iI bx)), (3, .int (iI b2)), (4, .int (iI x0)), (5, .int (iI y0))]) hx hb dX3_isBetween_86 hl (by decide) rfl (fun ls hl => ?_)
        exact jn88_2 0 ls (by omega) (lv_sub hl [0, 1, 2, 3, 4, 5, 6, 7] rfl)
      · -- 52 to 55
        refine lv_iload hx hb dX3_isBetween_55 (lv_at hl 6 rfl) ?_
        refine lv_iload_n hx hb dX3_isBetween_57 rfl (lv_at hl 4 rfl) ?_
        refine r_icmp_gt (tgt := 65) hx hb dX3_isBetween_58 (by decide) (by omega) (by omega) (fun h9 => ?_) (fun h9 => ?_)
        · -- 58 to 65
          refine lv_iconst (v := iI 0) hx hb dX3_isBetween_65 rfl ?_
          refine lv_goto (tgt := 86) hx hb dX3_isBetween_66 (by decide) ?_
          refine lv_istore (lv' := [(7, .int (iI 0)), (6, .int (iI ac)), (0, .int (iI ax)), (1, .int (iI ay)), (2, .int (iI bx)), (3, .int (iI b2)), (4, .int (iI x0)), (5, .int (iI y0))]) hx hb dX3_isBetween_86 hl (by decide) rfl (fun ls hl => ?_)
          exact jn88_2 0 ls (by omega) (lv_sub hl [0, 1, 2, 3, 4, 5, 6, 7] rfl)
        · -- 58 to 61
          refine lv_iconst (v := iI 1) hx hb dX3_isBetween_61 rfl ?_
          refine lv_goto (tgt := 86) hx hb dX3_isBetween_62 (by decide) ?_
          refine lv_istore (lv' := [(7, .int (iI 1)), (6, .int (iI ac)), (0, .int (iI ax)), (1, .int (iI ay)), (2, .int (iI bx)), (3, .int (iI b2)), (4, .int (iI x0)), (5, .int (iI y0))]) hx hb dX3_isBetween_86 hl (by decide) rfl (fun ls hl => ?_)
          exact jn88_2 1 ls (by omega) (lv_sub hl [0, 1, 2, 3, 4, 5, 6, 7] rfl)
  refine lv_iload_n hx hb dX3_isBetween_0 rfl (lv_at hl 0 rfl) ?_
  refine lv_iload_n hx hb dX3_isBetween_1 rfl (lv_at hl 2 rfl) ?_
  refine r_icmp_ge (tgt := 25) hx hb dX3_isBetween_2 (by decide) (by omega) (by omega) (fun h10 => ?_) (fun h10 => ?_)
  · -- 2 to 25
    refine lv_iload hx hb dX3_isBetween_25 (lv_at hl 4 rfl) ?_
    refine lv_iload_n hx hb dX3_isBetween_27 rfl (lv_at hl 2 rfl) ?_
    refine r_icmp_lt (tgt := 41) hx hb dX3_isBetween_28 (by decide) (by omega) (by omega) (fun h11 => ?_) (fun h11 => ?_)
    · -- 28 to 41
      refine lv_iconst (v := iI 0) hx hb dX3_isBetween_41 rfl ?_
      refine lv_istore (lv' := [(6, .int (iI 0)), (0, .int (iI ax)), (1, .int (iI ay)), (2, .int (iI bx)), (3, .int (iI b2)), (4, .int (iI x0)), (5, .int (iI y0))]) hx hb dX3_isBetween_42 hl (by decide) rfl (fun ls hl => ?_)
      exact jn44_1 0 ls (by omega) (lv_sub hl [0, 1, 2, 3, 4, 5, 6] rfl)
    · -- 28 to 31
      refine lv_iload hx hb dX3_isBetween_31 (lv_at hl 4 rfl) ?_
      refine lv_iload_n hx hb dX3_isBetween_33 rfl (lv_at hl 0 rfl) ?_
      refine r_icmp_gt (tgt := 41) hx hb dX3_isBetween_34 (by decide) (by omega) (by omega) (fun h12 => ?_) (fun h12 => ?_)
      · -- 34 to 41
        refine lv_iconst (v := iI 0) hx hb dX3_isBetween_41 rfl ?_
        refine lv_istore (lv' := [(6, .int (iI 0)), (0, .int (iI ax)), (1, .int (iI ay)), (2, .int (iI bx)), (3, .int (iI b2)), (4, .int (iI x0)), (5, .int (iI y0))]) hx hb dX3_isBetween_42 hl (by decide) rfl (fun ls hl => ?_)
        exact jn44_1 0 ls (by omega) (lv_sub hl [0, 1, 2, 3, 4, 5, 6] rfl)
      · -- 34 to 37
        refine lv_iconst (v := iI 1) hx hb dX3_isBetween_37 rfl ?_
        refine lv_goto (tgt := 42) hx hb dX3_isBetween_38 (by decide) ?_
        refine lv_istore (lv' := [(6, .int (iI 1)), (0, .int (iI ax)), (1, .int (iI ay)), (2, .int (iI bx)), (3, .int (iI b2)), (4, .int (iI x0)), (5, .int (iI y0))]) hx hb dX3_isBetween_42 hl (by decide) rfl (fun ls hl => ?_)
        exact jn44_1 1 ls (by omega) (lv_sub hl [0, 1, 2, 3, 4, 5, 6] rfl)
  · -- 2 to 5
    refine lv_iload hx hb dX3_isBetween_5 (lv_at hl 4 rfl) ?_
    refine lv_iload_n hx hb dX3_isBetween_7 rfl (lv_at hl 0 rfl) ?_
    refine r_icmp_lt (tgt := 21) hx hb dX3_isBetween_8 (by decide) (by omega) (by omega) (fun h13 => ?_) (fun h13 => ?_)
    · -- 8 to 21
      refine lv_iconst (v := iI 0) hx hb dX3_isBetween_21 rfl ?_
      refine lv_goto (tgt := 42) hx hb dX3_isBetween_22 (by decide) ?_
      refine lv_istore (lv' := [(6, .int (iI 0)), (0, .int (iI ax)), (1, .int (iI ay)), (2, .int (iI bx)), (3, .int (iI b2)), (4, .int (iI x0)), (5, .int (iI y0))]) hx hb dX3_isBetween_42 hl (by decide) rfl (fun ls hl => ?_)
      exact jn44_1 0 ls (by omega) (lv_sub hl [0, 1, 2, 3, 4, 5, 6] rfl)
    · -- 8 to 11
      refine lv_iload hx hb dX3_isBetween_11 (lv_at hl 4 rfl) ?_
      refine lv_iload_n hx hb dX3_isBetween_13 rfl (lv_at hl 2 rfl) ?_
      refine r_icmp_gt (tgt := 21) hx hb dX3_isBetween_14 (by decide) (by omega) (by omega) (fun h14 => ?_) (fun h14 => ?_)
      · -- 14 to 21
        refine lv_iconst (v := iI 0) hx hb dX3_isBetween_21 rfl ?_
        refine lv_goto (tgt := 42) hx hb dX3_isBetween_22 (by decide) ?_
        refine lv_istore (lv' := [(6, .int (iI 0)), (0, .int (iI ax)), (1, .int (iI ay)), (2, .int (iI bx)), (3, .int (iI b2)), (4, .int (iI x0)), (5, .int (iI y0))]) hx hb dX3_isBetween_42 hl (by decide) rfl (fun ls hl => ?_)
        exact jn44_1 0 ls (by omega) (lv_sub hl [0, 1, 2, 3, 4, 5, 6] rfl)
      · -- 14 to 17
        refine lv_iconst (v := iI 1) hx hb dX3_isBetween_17 rfl ?_
        refine lv_goto (tgt := 42) hx hb dX3_isBetween_18 (by decide) ?_
        refine lv_istore (lv' := [(6, .int (iI 1)), (0, .int (iI ax)), (1, .int (iI ay)), (2, .int (iI bx)), (3, .int (iI b2)), (4, .int (iI x0)), (5, .int (iI y0))]) hx hb dX3_isBetween_42 hl (by decide) rfl (fun ls hl => ?_)
        exact jn44_1 1 ls (by omega) (lv_sub hl [0, 1, 2, 3, 4, 5, 6] rfl)
