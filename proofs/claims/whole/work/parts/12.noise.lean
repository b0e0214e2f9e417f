/-! NOISE: the methods that change nothing -/
set_option maxHeartbeats 4000000 in
set_option maxRecDepth 100000 in
theorem c_X1_pairOf (l : Launch) (a b : Int) : MetS l yX1_pairOf wsX1_pairOf ({ frames := 0, cells := 0, slots := 0, locals := 0 } : Room) ([.int (iI a), .int (iI b)] : List Value) (a * 20 + b) := by
  refine met_T (cc := cX1_pairOf) (maxL := 2) (ret := (some .int)) (by decide) rfl (Nat.le_of_ble_eq_true rfl) ?_
  intro p e s m below meth c hx hb hr hml hts hown hlocks ls hl
  have hown : s.vm.findClass RX1 = some m.cls := hown
  have hl : lv_has ls 2 [(0, .int (iI a)), (1, .int (iI b))] := hl
  refine lv_iload_n hx hb dX1_pairOf_0 rfl (lv_at hl 0 rfl) ?_
  refine lv_bipush (v := iI 20) hx hb dX1_pairOf_1 (by decide +kernel) ?_
  refine r_imul hx hb dX1_pairOf_3 ?_
  refine lv_iload_n hx hb dX1_pairOf_4 rfl (lv_at hl 1 rfl) ?_
  refine r_iadd hx hb dX1_pairOf_5 ?_
  exact r_ret hx hb hr hlocks dX1_pairOf_6 rfl
set_option maxHeartbeats 4000000 in
set_option maxRecDepth 100000 in
theorem c_X1_moreByJoining (l : Launch) (a : Int) (ha : I32 a) : MetS l yX1_moreByJoining wsX1_moreByJoining ({ frames := 0, cells := 0, slots := 0, locals := 0 } : Room) ([.int (iI a)] : List Value) (nMore a) := by
  refine met_T (cc := cX1_moreByJoining) (maxL := 1) (ret := (some .int)) (by decide) rfl (Nat.le_of_ble_eq_true rfl) ?_
  intro p e s m below meth c hx hb hr hml hts hown hlocks ls hl
  have hown : s.vm.findClass RX1 = some m.cls := hown
  have hl : lv_has ls 1 [(0, .int (iI a))] := hl
  refine lv_iload_n hx hb dX1_moreByJoining_0 rfl (lv_at hl 0 rfl) ?_
  refine lv_bipush (v := iI 15) hx hb dX1_moreByJoining_1 (by decide +kernel) ?_
  refine r_icmp_ge (tgt := 9) hx hb dX1_moreByJoining_3 (by decide) (by omega) (by omega) (fun h1 => ?_) (fun h1 => ?_)
  · -- 3 to 9
    refine lv_iload_n hx hb dX1_moreByJoining_9 rfl (lv_at hl 0 rfl) ?_
    refine lv_bipush (v := iI 35) hx hb dX1_moreByJoining_10 (by decide +kernel) ?_
    refine r_icmp_ge (tgt := 18) hx hb dX1_moreByJoining_12 (by decide) (by omega) (by omega) (fun h2 => ?_) (fun h2 => ?_)
    · -- 12 to 18
      refine lv_iload_n hx hb dX1_moreByJoining_18 rfl (lv_at hl 0 rfl) ?_
      refine lv_bipush (v := iI 95) hx hb dX1_moreByJoining_19 (by decide +kernel) ?_
      refine r_icmp_ge (tgt := 29) hx hb dX1_moreByJoining_21 (by decide) (by omega) (by omega) (fun h3 => ?_) (fun h3 => ?_)
      · -- 21 to 29
        refine lv_iconst (v := iI 0) hx hb dX1_moreByJoining_29 rfl ?_
        exact r_ret hx hb hr hlocks dX1_moreByJoining_30 (by unfold nMore; repeat (first | rfl | omega | split))
      · -- 21 to 24
        refine lv_bipush (v := iI 10) hx hb dX1_moreByJoining_24 (by decide +kernel) ?_
        refine lv_goto (tgt := 30) hx hb dX1_moreByJoining_26 (by decide) ?_
        exact r_ret hx hb hr hlocks dX1_moreByJoining_30 (by unfold nMore; repeat (first | rfl | omega | split))
    · -- 12 to 15
      refine lv_bipush (v := iI 20) hx hb dX1_moreByJoining_15 (by decide +kernel) ?_
      exact r_ret hx hb hr hlocks dX1_moreByJoining_17 (by unfold nMore; repeat (first | rfl | omega | split))
  · -- 3 to 6
    refine lv_bipush (v := iI 30) hx hb dX1_moreByJoining_6 (by decide +kernel) ?_
    exact r_ret hx hb hr hlocks dX1_moreByJoining_8 (by unfold nMore; repeat (first | rfl | omega | split))
set_option maxHeartbeats 4000000 in
set_option maxRecDepth 100000 in
theorem c_X1_join (l : Launch) (a b : Int) (ha : 0 ≤ a ∧ a ≤ 100000) (hb2 : 0 ≤ b ∧ b ≤ 100000) : MetS l yX1_join wsX1_join ({ frames := 1, cells := 0, slots := 0, locals := 21 } : Room) ([.int (iI a), .int (iI b)] : List Value) (nJoin a b) := by
  refine met_T (cc := cX1_join) (maxL := 2) (ret := (some .int)) (by decide) rfl (Nat.le_of_ble_eq_true rfl) ?_
  intro p e s m below meth c hx hb hr hml hts hown hlocks ls hl
  have hown : s.vm.findClass RX1 = some m.cls := hown
  have hl : lv_has ls 2 [(0, .int (iI a)), (1, .int (iI b))] := hl
  refine lv_iload_n hx hb dX1_join_0 rfl (lv_at hl 0 rfl) ?_
  refine r_if_eq (tgt := 8) hx hb dX1_join_1 (by decide) (by omega) (fun h1 => ?_) (fun h1 => ?_)
  · -- 1 to 8
    refine lv_iload_n hx hb dX1_join_8 rfl (lv_at hl 0 rfl) ?_
    refine lv_iload_n hx hb dX1_join_9 rfl (lv_at hl 1 rfl) ?_
    refine r_iadd hx hb dX1_join_10 ?_
    exact r_ret hx hb hr hlocks dX1_join_11 (by unfold nJoin; rw [if_pos (by omega)])
  · -- 1 to 4
    refine lv_iload_n hx hb dX1_join_4 rfl (lv_at hl 1 rfl) ?_
    refine r_if_ne (tgt := 12) hx hb dX1_join_5 (by decide) (by omega) (fun h2 => ?_) (fun h2 => ?_)
    · -- 5 to 12
      refine lv_iload_n hx hb dX1_join_12 rfl (lv_at hl 0 rfl) ?_
      refine lv_iload_n hx hb dX1_join_13 rfl (lv_at hl 1 rfl) ?_
      refine r_mmax hx hb (by rw [hml]; exact hl.1.symm) hown (hts (.methodLink RX1 89 Lib.Math.max.name) (by decide +kernel)) (hts (.static Lib.Math.max.name) (by decide +kernel)) (hts (.initialized "java/lang/Math") (by decide +kernel)) (hts (.code Lib.Math.max.name Lib.Math.max.code 2 (some .int)) (by decide +kernel)) (Nat.le_of_ble_eq_true rfl) (Nat.le_of_ble_eq_true rfl) (Nat.le_of_ble_eq_true rfl) (Nat.le_of_ble_eq_true rfl) (by omega) (by omega) dX1_join_14 ?_
      have hm3 := mxZ_s a b
      refine lv_iload_n hx hb dX1_join_17 rfl (lv_at hl 0 rfl) ?_
      refine lv_iload_n hx hb dX1_join_18 rfl (lv_at hl 1 rfl) ?_
      refine r_isub hx hb dX1_join_19 ?_
      refine r_mabs hx hb (by rw [hml]; exact hl.1.symm) hown (hts (.methodLink RX1 130 Lib.Math.abs.name) (by decide +kernel)) (hts (.static Lib.Math.abs.name) (by decide +kernel)) (hts (.initialized "java/lang/Math") (by decide +kernel)) (hts (.code Lib.Math.abs.name Lib.Math.abs.code 1 (some .int)) (by decide +kernel)) (Nat.le_of_ble_eq_true rfl) (Nat.le_of_ble_eq_true rfl) (Nat.le_of_ble_eq_true rfl) (Nat.le_of_ble_eq_true rfl) (by omega) dX1_join_20 ?_
      have hm4 := abZ_s (a - b)
      refine r_calli (va_runS (As := [.int (iI (abZ (a - b)))]) (rest := [.int (iI (mxZ a b))]) ⟨hx, hb, hml, hown, hts⟩ (c_X1_moreByJoining l  (abZ (a - b)) (by omega)) (va_cwS 1 hts gX1_join_X1_moreByJoining rfl rfl rfl (by decide +kernel) ⟨Nat.le_of_ble_eq_true rfl, Nat.le_of_ble_eq_true rfl⟩) ps_T rfl rfl hl.1 rfl (lv_room (Nat.le_of_ble_eq_true rfl)) dX1_join_23 ⟨Nat.le_of_ble_eq_true rfl, Nat.le_of_ble_eq_true rfl⟩) ?_
      refine r_iadd hx hb dX1_join_26 ?_
      exact r_ret hx hb hr hlocks dX1_join_27 (by unfold nJoin; rw [if_neg (by omega)])
    · -- 5 to 8
      refine lv_iload_n hx hb dX1_join_8 rfl (lv_at hl 0 rfl) ?_
      refine lv_iload_n hx hb dX1_join_9 rfl (lv_at hl 1 rfl) ?_
      refine r_iadd hx hb dX1_join_10 ?_
      exact r_ret hx hb hr hlocks dX1_join_11 (by unfold nJoin; rw [if_pos (by omega)])
set_option maxHeartbeats 4000000 in
set_option maxRecDepth 100000 in
theorem c_X1_spansMeet (l : Launch) (a b z w : Int) (ha : I32 a) (hb : I32 b) (hz : I32 z) (hw : I32 w) : MetS l yX1_spansMeet wsX1_spansMeet ({ frames := 1, cells := 0, slots := 0, locals := 21 } : Room) ([.int (iI a), .int (iI b), .int (iI z), .int (iI w)] : List Value) (bI (spP a b z w)) := by
  refine met_T (cc := cX1_spansMeet) (maxL := 4) (ret := (some .boolean)) (by decide) rfl (Nat.le_of_ble_eq_true rfl) ?_
  intro p e s m below meth c hx hb hr hml hts hown hlocks ls hl
  have hown : s.vm.findClass RX1 = some m.cls := hown
  have hl : lv_has ls 4 [(0, .int (iI a)), (1, .int (iI b)), (2, .int (iI z)), (3, .int (iI w))] := hl
  refine lv_iload_n hx hb dX1_spansMeet_0 rfl (lv_at hl 0 rfl) ?_
  refine lv_iload_n hx hb dX1_spansMeet_1 rfl (lv_at hl 1 rfl) ?_
  refine r_mmax hx hb (by rw [hml]; exact hl.1.symm) hown (hts (.methodLink RX1 89 Lib.Math.max.name) (by decide +kernel)) (hts (.static Lib.Math.max.name) (by decide +kernel)) (hts (.initialized "java/lang/Math") (by decide +kernel)) (hts (.code Lib.Math.max.name Lib.Math.max.code 2 (some .int)) (by decide +kernel)) (Nat.le_of_ble_eq_true rfl) (Nat.le_of_ble_eq_true rfl) (Nat.le_of_ble_eq_true rfl) (Nat.le_of_ble_eq_true rfl) (by omega) (by omega) dX1_spansMeet_2 ?_
  have hm1 := mxZ_s a b
  refine lv_iload_n hx hb dX1_spansMeet_5 rfl (lv_at hl 2 rfl) ?_
  refine lv_iload_n hx hb dX1_spansMeet_6 rfl (lv_at hl 3 rfl) ?_
  refine r_mmin hx hb (by rw [hml]; exact hl.1.symm) hown (hts (.methodLink RX1 136 Lib.Math.min.name) (by decide +kernel)) (hts (.static Lib.Math.min.name) (by decide +kernel)) (hts (.initialized "java/lang/Math") (by decide +kernel)) (hts (.code Lib.Math.min.name Lib.Math.min.code 2 (some .int)) (by decide +kernel)) (Nat.le_of_ble_eq_true rfl) (Nat.le_of_ble_eq_true rfl) (Nat.le_of_ble_eq_true rfl) (Nat.le_of_ble_eq_true rfl) (by omega) (by omega) dX1_spansMeet_7 ?_
  have hm2 := mnZ_s z w
  refine r_icmp_lt (tgt := 30) hx hb dX1_spansMeet_10 (by decide) (by omega) (by omega) (fun h3 => ?_) (fun h3 => ?_)
  · -- 10 to 30
    refine lv_iconst (v := iI 0) hx hb dX1_spansMeet_30 rfl ?_
    exact r_retZ hx hb hr hlocks dX1_spansMeet_31 (zn_of (by omega)) (by first | rfl | exact (bI_t (by omega)).symm | exact (bI_f (by omega)).symm)
  · -- 10 to 13
    refine lv_iload_n hx hb dX1_spansMeet_13 rfl (lv_at hl 2 rfl) ?_
    refine lv_iload_n hx hb dX1_spansMeet_14 rfl (lv_at hl 3 rfl) ?_
    refine r_mmax hx hb (by rw [hml]; exact hl.1.symm) hown (hts (.methodLink RX1 89 Lib.Math.max.name) (by decide +kernel)) (hts (.static Lib.Math.max.name) (by decide +kernel)) (hts (.initialized "java/lang/Math") (by decide +kernel)) (hts (.code Lib.Math.max.name Lib.Math.max.code 2 (some .int)) (by decide +kernel)) (Nat.le_of_ble_eq_true rfl) (Nat.le_of_ble_eq_true rfl) (Nat.le_of_ble_eq_true rfl) (Nat.le_of_ble_eq_true rfl) (by omega) (by omega) dX1_spansMeet_15 ?_
    have hm4 := mxZ_s z w
    refine lv_iload_n hx hb dX1_spansMeet_18 rfl (lv_at hl 0 rfl) ?_
    refine lv_iload_n hx hb dX1_spansMeet_19 rfl (lv_at hl 1 rfl) ?_
    refine r_mmin hx hb (by rw [hml]; exact hl.1.symm) hown (hts (.methodLink RX1 136 Lib.Math.min.name) (by decide +kernel)) (hts (.static Lib.Math.min.name) (by decide +kernel)) (hts (.initialized "java/lang/Math") (by decide +kernel)) (hts (.code Lib.Math.min.name Lib.Math.min.code 2 (some .int)) (by decide +kernel)) (Nat.le_of_ble_eq_true rfl) (Nat.le_of_ble_eq_true rfl) (Nat.le_of_ble_eq_true rfl) (Nat.le_of_ble_eq_true rfl) (by omega) (by omega) dX1_spansMeet_20 ?_
    have hm5 := mnZ_s a b
    refine r_icmp_lt (tgt := 30) hx hb dX1_spansMeet_23 (by decide) (by omega) (by omega) (fun h6 => ?_) (fun h6 => ?_)
    · -- 23 to 30
      refine lv_iconst (v := iI 0) hx hb dX1_spansMeet_30 rfl ?_
      exact r_retZ hx hb hr hlocks dX1_spansMeet_31 (zn_of (by omega)) (by first | rfl | exact (bI_t (by omega)).symm | exact (bI_f (by omega)).symm)
    · -- 23 to 26
      refine lv_iconst (v := iI 1) hx hb dX1_spansMeet_26 rfl ?_
      refine lv_goto (tgt := 31) hx hb dX1_spansMeet_27 (by decide) ?_
      exact r_retZ hx hb hr hlocks dX1_spansMeet_31 (zn_of (by omega)) (by first | rfl | exact (bI_t (by omega)).symm | exact (bI_f (by omega)).symm)
set_option maxHeartbeats 4000000 in
set_option maxRecDepth 100000 in
theorem c_X1_onOneSide (l : Launch) (a b : Int) (ha : I32 a) (hb : I32 b) : MetS l yX1_onOneSide wsX1_onOneSide ({ frames := 0, cells := 0, slots := 0, locals := 0 } : Room) ([.int (iI a), .int (iI b)] : List Value) (bI (osP a b)) := by
  refine met_T (cc := cX1_onOneSide) (maxL := 2) (ret := (some .boolean)) (by decide) rfl (Nat.le_of_ble_eq_true rfl) ?_
  intro p e s m below meth c hx hb hr hml hts hown hlocks ls hl
  have hown : s.vm.findClass RX1 = some m.cls := hown
  have hl : lv_has ls 2 [(0, .int (iI a)), (1, .int (iI b))] := hl
  refine lv_iload_n hx hb dX1_onOneSide_0 rfl (lv_at hl 0 rfl) ?_
  refine r_if_le (tgt := 8) hx hb dX1_onOneSide_1 (by decide) (by omega) (fun h1 => ?_) (fun h1 => ?_)
  · -- 1 to 8
    refine lv_iload_n hx hb dX1_onOneSide_8 rfl (lv_at hl 0 rfl) ?_
    refine r_if_ge (tgt := 20) hx hb dX1_onOneSide_9 (by decide) (by omega) (fun h2 => ?_) (fun h2 => ?_)
    · -- 9 to 20
      refine lv_iconst (v := iI 0) hx hb dX1_onOneSide_20 rfl ?_
      exact r_retZ hx hb hr hlocks dX1_onOneSide_21 (zn_of (by omega)) (by first | rfl | exact (bI_t (by omega)).symm | exact (bI_f (by omega)).symm)
    · -- 9 to 12
      refine lv_iload_n hx hb dX1_onOneSide_12 rfl (lv_at hl 1 rfl) ?_
      refine r_if_ge (tgt := 20) hx hb dX1_onOneSide_13 (by decide) (by omega) (fun h3 => ?_) (fun h3 => ?_)
      · -- 13 to 20
        refine lv_iconst (v := iI 0) hx hb dX1_onOneSide_20 rfl ?_
        exact r_retZ hx hb hr hlocks dX1_onOneSide_21 (zn_of (by omega)) (by first | rfl | exact (bI_t (by omega)).symm | exact (bI_f (by omega)).symm)
      · -- 13 to 16
        refine lv_iconst (v := iI 1) hx hb dX1_onOneSide_16 rfl ?_
        refine lv_goto (tgt := 21) hx hb dX1_onOneSide_17 (by decide) ?_
        exact r_retZ hx hb hr hlocks dX1_onOneSide_21 (zn_of (by omega)) (by first | rfl | exact (bI_t (by omega)).symm | exact (bI_f (by omega)).symm)
  · -- 1 to 4
    refine lv_iload_n hx hb dX1_onOneSide_4 rfl (lv_at hl 1 rfl) ?_
    refine r_if_gt (tgt := 16) hx hb dX1_onOneSide_5 (by decide) (by omega) (fun h4 => ?_) (fun h4 => ?_)
    · -- 5 to 16
      refine lv_iconst (v := iI 1) hx hb dX1_onOneSide_16 rfl ?_
      refine lv_goto (tgt := 21) hx hb dX1_onOneSide_17 (by decide) ?_
      exact r_retZ hx hb hr hlocks dX1_onOneSide_21 (zn_of (by omega)) (by first | rfl | exact (bI_t (by omega)).symm | exact (bI_f (by omega)).symm)
    · -- 5 to 8
      refine lv_iload_n hx hb dX1_onOneSide_8 rfl (lv_at hl 0 rfl) ?_
      refine r_if_ge (tgt := 20) hx hb dX1_onOneSide_9 (by decide) (by omega) (fun h5 => ?_) (fun h5 => ?_)
      · -- 9 to 20
        refine lv_iconst (v := iI 0) hx hb dX1_onOneSide_20 rfl ?_
        exact r_retZ hx hb hr hlocks dX1_onOneSide_21 (zn_of (by omega)) (by first | rfl | exact (bI_t (by omega)).symm | exact (bI_f (by omega)).symm)
      · -- 9 to 12
        refine lv_iload_n hx hb dX1_onOneSide_12 rfl (lv_at hl 1 rfl) ?_
        refine r_if_ge (tgt := 20) hx hb dX1_onOneSide_13 (by decide) (by omega) (fun h6 => ?_) (fun h6 => ?_)
        · -- 13 to 20
          refine lv_iconst (v := iI 0) hx hb dX1_onOneSide_20 rfl ?_
          exact r_retZ hx hb hr hlocks dX1_onOneSide_21 (zn_of (by omega)) (by first | rfl | exact (bI_t (by omega)).symm | exact (bI_f (by omega)).symm)
        · -- 13 to 16
          refine lv_iconst (v := iI 1) hx hb dX1_onOneSide_16 rfl ?_
          refine lv_goto (tgt := 21) hx hb dX1_onOneSide_17 (by decide) ?_
          exact r_retZ hx hb hr hlocks dX1_onOneSide_21 (zn_of (by omega)) (by first | rfl | exact (bI_t (by omega)).symm | exact (bI_f (by omega)).symm)
set_option maxHeartbeats 4000000 in
set_option maxRecDepth 100000 in
theorem c_X1_turn (l : Launch) (a0 a1 a2 a3 a4 a5 : Int) : MetS l yX1_turn wsX1_turn ({ frames := 0, cells := 0, slots := 0, locals := 0 } : Room) ([.int (iI a0), .int (iI a1), .int (iI a2), .int (iI a3), .int (iI a4), .int (iI a5)] : List Value) (tuZ a0 a1 a2 a3 a4 a5) := by
  refine met_T (cc := cX1_turn) (maxL := 6) (ret := (some .int)) (by decide) rfl (Nat.le_of_ble_eq_true rfl) ?_
  intro p e s m below meth c hx hb hr hml hts hown hlocks ls hl
  have hown : s.vm.findClass RX1 = some m.cls := hown
  have hl : lv_has ls 6 [(0, .int (iI a0)), (1, .int (iI a1)), (2, .int (iI a2)), (3, .int (iI a3)), (4, .int (iI a4)), (5, .int (iI a5))] := hl
  refine lv_iload_n hx hb dX1_turn_0 rfl (lv_at hl 2 rfl) ?_
  refine lv_iload_n hx hb dX1_turn_1 rfl (lv_at hl 0 rfl) ?_
  refine r_isub hx hb dX1_turn_2 ?_
  refine lv_iload hx hb dX1_turn_3 (lv_at hl 5 rfl) ?_
  refine lv_iload_n hx hb dX1_turn_5 rfl (lv_at hl 1 rfl) ?_
  refine r_isub hx hb dX1_turn_6 ?_
  refine r_imul hx hb dX1_turn_7 ?_
  refine lv_iload_n hx hb dX1_turn_8 rfl (lv_at hl 3 rfl) ?_
  refine lv_iload_n hx hb dX1_turn_9 rfl (lv_at hl 1 rfl) ?_
  refine r_isub hx hb dX1_turn_10 ?_
  refine lv_iload hx hb dX1_turn_11 (lv_at hl 4 rfl) ?_
  refine lv_iload_n hx hb dX1_turn_13 rfl (lv_at hl 0 rfl) ?_
  refine r_isub hx hb dX1_turn_14 ?_
  refine r_imul hx hb dX1_turn_15 ?_
  refine r_isub hx hb dX1_turn_16 ?_
  exact r_ret hx hb hr hlocks dX1_turn_17 (by rfl)
set_option maxHeartbeats 4000000 in
set_option maxRecDepth 100000 in
theorem c_X1_doublingsOf (l : Launch) (a : Int) (ha : 0 ≤ a ∧ a ≤ 200000000) : MetS l yX1_doublingsOf wsX1_doublingsOf ({ frames := 0, cells := 0, slots := 0, locals := 0 } : Room) ([.int (iI a)] : List Value) (nDbl a) := by
  refine met_T (cc := cX1_doublingsOf) (maxL := 3) (ret := (some .int)) (by decide) rfl (Nat.le_of_ble_eq_true rfl) ?_
  intro p e s m below meth c hx hb hr hml hts hown hlocks ls hl
  have hown : s.vm.findClass RX1 = some m.cls := hown
  have hl : lv_has ls 3 [(0, .int (iI a))] := hl
  refine lv_iconst (v := iI 0) hx hb dX1_doublingsOf_0 rfl ?_
  refine lv_istore_n (lv' := [(1, .int (iI 0)), (0, .int (iI a))]) hx hb dX1_doublingsOf_1 rfl hl (by decide) rfl (fun ls hl => ?_)
  refine lv_sipush (v := iI 400) hx hb dX1_doublingsOf_2 (by decide +kernel) ?_
  refine lv_istore_n (lv' := [(2, .int (iI 400)), (1, .int (iI 0)), (0, .int (iI a))]) hx hb dX1_doublingsOf_5 rfl hl (by decide) rfl (fun ls hl => ?_)
  refine lv_iload_n hx hb dX1_doublingsOf_6 rfl (lv_at hl 1 rfl) ?_
  refine lv_bipush (v := iI 10) hx hb dX1_doublingsOf_7 (by decide +kernel) ?_
  refine r_icmp_ge (tgt := 27) hx hb dX1_doublingsOf_9 (by decide) (by omega) (by omega) (fun h => absurd h (by decide)) (fun _ => ?_)
  refine lv_iload_n hx hb dX1_doublingsOf_12 rfl (lv_at hl 0 rfl) ?_
  refine lv_iload_n hx hb dX1_doublingsOf_13 rfl (lv_at hl 2 rfl) ?_
  refine r_icmp_gt (tgt := 27) hx hb dX1_doublingsOf_14 (by decide) (by omega) (by omega) (fun h1 => ?_) (fun h1 => ?_)
  · -- 14 to 27
    refine lv_iload_n hx hb dX1_doublingsOf_27 rfl (lv_at hl 1 rfl) ?_
    exact r_ret hx hb hr hlocks dX1_doublingsOf_28 (by unfold nDbl; repeat (first | omega | split))
  · -- 14 to 17
    refine r_iinc (a := 0) (b := 1) (lv2 := [(1, .int (iI 1)), (2, .int (iI 400)), (0, .int (iI a))]) hx hb dX1_doublingsOf_17 hl (k := 1) rfl (by omega) (by decide) rfl (fun ls hl => ?_)
    refine lv_iload_n hx hb dX1_doublingsOf_20 rfl (lv_at hl 1 rfl) ?_
    refine lv_iconst (v := iI 4) hx hb dX1_doublingsOf_21 rfl ?_
    refine r_imul hx hb dX1_doublingsOf_22 ?_
    refine W.eq (g2 := F0 m 23 ls [.int (iI 1600)]) rfl ?_
    refine lv_istore_n (lv' := [(2, .int (iI 1600)), (1, .int (iI 1)), (0, .int (iI a))]) hx hb dX1_doublingsOf_23 rfl hl (by decide) rfl (fun ls hl => ?_)
    refine lv_goto (tgt := 6) hx hb dX1_doublingsOf_24 (by decide) ?_
    refine lv_iload_n hx hb dX1_doublingsOf_6 rfl (lv_at hl 1 rfl) ?_
    refine lv_bipush (v := iI 10) hx hb dX1_doublingsOf_7 (by decide +kernel) ?_
    refine r_icmp_ge (tgt := 27) hx hb dX1_doublingsOf_9 (by decide) (by omega) (by omega) (fun h => absurd h (by decide)) (fun _ => ?_)
    refine lv_iload_n hx hb dX1_doublingsOf_12 rfl (lv_at hl 0 rfl) ?_
    refine lv_iload_n hx hb dX1_doublingsOf_13 rfl (lv_at hl 2 rfl) ?_
    refine r_icmp_gt (tgt := 27) hx hb dX1_doublingsOf_14 (by decide) (by omega) (by omega) (fun h2 => ?_) (fun h2 => ?_)
    · -- 14 to 27
      refine lv_iload_n hx hb dX1_doublingsOf_27 rfl (lv_at hl 1 rfl) ?_
      exact r_ret hx hb hr hlocks dX1_doublingsOf_28 (by unfold nDbl; repeat (first | omega | split))
    · -- 14 to 17
      refine r_iinc (a := 1) (b := 2) (lv2 := [(1, .int (iI 2)), (2, .int (iI 1600)), (0, .int (iI a))]) hx hb dX1_doublingsOf_17 hl (k := 1) rfl (by omega) (by decide) rfl (fun ls hl => ?_)
      refine lv_iload_n hx hb dX1_doublingsOf_20 rfl (lv_at hl 1 rfl) ?_
      refine lv_iconst (v := iI 4) hx hb dX1_doublingsOf_21 rfl ?_
      refine r_imul hx hb dX1_doublingsOf_22 ?_
      refine W.eq (g2 := F0 m 23 ls [.int (iI 6400)]) rfl ?_
      refine lv_istore_n (lv' := [(2, .int (iI 6400)), (1, .int (iI 2)), (0, .int (iI a))]) hx hb dX1_doublingsOf_23 rfl hl (by decide) rfl (fun ls hl => ?_)
      refine lv_goto (tgt := 6) hx hb dX1_doublingsOf_24 (by decide) ?_
      refine lv_iload_n hx hb dX1_doublingsOf_6 rfl (lv_at hl 1 rfl) ?_
      refine lv_bipush (v := iI 10) hx hb dX1_doublingsOf_7 (by decide +kernel) ?_
      refine r_icmp_ge (tgt := 27) hx hb dX1_doublingsOf_9 (by decide) (by omega) (by omega) (fun h => absurd h (by decide)) (fun _ => ?_)
      refine lv_iload_n hx hb dX1_doublingsOf_12 rfl (lv_at hl 0 rfl) ?_
      refine lv_iload_n hx hb dX1_doublingsOf_13 rfl (lv_at hl 2 rfl) ?_
      refine r_icmp_gt (tgt := 27) hx hb dX1_doublingsOf_14 (by decide) (by omega) (by omega) (fun h3 => ?_) (fun h3 => ?_)
      · -- 14 to 27
        refine lv_iload_n hx hb dX1_doublingsOf_27 rfl (lv_at hl 1 rfl) ?_
        exact r_ret hx hb hr hlocks dX1_doublingsOf_28 (by unfold nDbl; repeat (first | omega | split))
      · -- 14 to 17
        refine r_iinc (a := 2) (b := 3) (lv2 := [(1, .int (iI 3)), (2, .int (iI 6400)), (0, .int (iI a))]) hx hb dX1_doublingsOf_17 hl (k := 1) rfl (by omega) (by decide) rfl (fun ls hl => ?_)
        refine lv_iload_n hx hb dX1_doublingsOf_20 rfl (lv_at hl 1 rfl) ?_
        refine lv_iconst (v := iI 4) hx hb dX1_doublingsOf_21 rfl ?_
        refine r_imul hx hb dX1_doublingsOf_22 ?_
        refine W.eq (g2 := F0 m 23 ls [.int (iI 25600)]) rfl ?_
        refine lv_istore_n (lv' := [(2, .int (iI 25600)), (1, .int (iI 3)), (0, .int (iI a))]) hx hb dX1_doublingsOf_23 rfl hl (by decide) rfl (fun ls hl => ?_)
        refine lv_goto (tgt := 6) hx hb dX1_doublingsOf_24 (by decide) ?_
        refine lv_iload_n hx hb dX1_doublingsOf_6 rfl (lv_at hl 1 rfl) ?_
        refine lv_bipush (v := iI 10) hx hb dX1_doublingsOf_7 (by decide +kernel) ?_
        refine r_icmp_ge (tgt := 27) hx hb dX1_doublingsOf_9 (by decide) (by omega) (by omega) (fun h => absurd h (by decide)) (fun _ => ?_)
        refine lv_iload_n hx hb dX1_doublingsOf_12 rfl (lv_at hl 0 rfl) ?_
        refine lv_iload_n hx hb dX1_doublingsOf_13 rfl (lv_at hl 2 rfl) ?_
        refine r_icmp_gt (tgt := 27) hx hb dX1_doublingsOf_14 (by decide) (by omega) (by omega) (fun h4 => ?_) (fun h4 => ?_)
        · -- 14 to 27
          refine lv_iload_n hx hb dX1_doublingsOf_27 rfl (lv_at hl 1 rfl) ?_
          exact r_ret hx hb hr hlocks dX1_doublingsOf_28 (by unfold nDbl; repeat (first | omega | split))
        · -- 14 to 17
          refine r_iinc (a := 3) (b := 4) (lv2 := [(1, .int (iI 4)), (2, .int (iI 25600)), (0, .int (iI a))]) hx hb dX1_doublingsOf_17 hl (k := 1) rfl (by omega) (by decide) rfl (fun ls hl => ?_)
          refine lv_iload_n hx hb dX1_doublingsOf_20 rfl (lv_at hl 1 rfl) ?_
          refine lv_iconst (v := iI 4) hx hb dX1_doublingsOf_21 rfl ?_
          refine r_imul hx hb dX1_doublingsOf_22 ?_
          refine W.eq (g2 := F0 m 23 ls [.int (iI 102400)]) rfl ?_
          refine lv_istore_n (lv' := [(2, .int (iI 102400)), (1, .int (iI 4)), (0, .int (iI a))]) hx hb dX1_doublingsOf_23 rfl hl (by decide) rfl (fun ls hl => ?_)
          refine lv_goto (tgt := 6) hx hb dX1_doublingsOf_24 (by decide) ?_
          refine lv_iload_n hx hb dX1_doublingsOf_6 rfl (lv_at hl 1 rfl) ?_
          refine lv_bipush (v := iI 10) hx hb dX1_doublingsOf_7 (by decide +kernel) ?_
          refine r_icmp_ge (tgt := 27) hx hb dX1_doublingsOf_9 (by decide) (by omega) (by omega) (fun h => absurd h (by decide)) (fun _ => ?_)
          refine lv_iload_n hx hb dX1_doublingsOf_12 rfl (lv_at hl 0 rfl) ?_
          refine lv_iload_n hx hb dX1_doublingsOf_13 rfl (lv_at hl 2 rfl) ?_
          refine r_icmp_gt (tgt := 27) hx hb dX1_doublingsOf_14 (by decide) (by omega) (by omega) (fun h5 => ?_) (fun h5 => ?_)
          · -- 14 to 27
            refine lv_iload_n hx hb dX1_doublingsOf_27 rfl (lv_at hl 1 rfl) ?_
            exact r_ret hx hb hr hlocks dX1_doublingsOf_28 (by unfold nDbl; repeat (first | omega | split))
          · -- 14 to 17
            refine r_iinc (a := 4) (b := 5) (lv2 := [(1, .int (iI 5)), (2, .int (iI 102400)), (0, .int (iI a))]) hx hb dX1_doublingsOf_17 hl (k := 1) rfl (by omega) (by decide) rfl (fun ls hl => ?_)
            refine lv_iload_n hx hb dX1_doublingsOf_20 rfl (lv_at hl 1 rfl) ?_
            refine lv_iconst (v := iI 4) hx hb dX1_doublingsOf_21 rfl ?_
            refine r_imul hx hb dX1_doublingsOf_22 ?_
            refine W.eq (g2 := F0 m 23 ls [.int (iI 409600)]) rfl ?_
            refine lv_istore_n (lv' := [(2, .int (iI 409600)), (1, .int (iI 5)), (0, .int (iI a))]) hx hb dX1_doublingsOf_23 rfl hl (by decide) rfl (fun ls hl => ?_)
            refine lv_goto (tgt := 6) hx hb dX1_doublingsOf_24 (by decide) ?_
            refine lv_iload_n hx hb dX1_doublingsOf_6 rfl (lv_at hl 1 rfl) ?_
            refine lv_bipush (v := iI 10) hx hb dX1_doublingsOf_7 (by decide +kernel) ?_
            refine r_icmp_ge (tgt := 27) hx hb dX1_doublingsOf_9 (by decide) (by omega) (by omega) (fun h => absurd h (by decide)) (fun _ => ?_)
            refine lv_iload_n hx hb dX1_doublingsOf_12 rfl (lv_at hl 0 rfl) ?_
            refine lv_iload_n hx hb dX1_doublingsOf_13 rfl (lv_at hl 2 rfl) ?_
            refine r_icmp_gt (tgt := 27) hx hb dX1_doublingsOf_14 (by decide) (by omega) (by omega) (fun h6 => ?_) (fun h6 => ?_)
            · -- 14 to 27
              refine lv_iload_n hx hb dX1_doublingsOf_27 rfl (lv_at hl 1 rfl) ?_
              exact r_ret hx hb hr hlocks dX1_doublingsOf_28 (by unfold nDbl; repeat (first | omega | split))
            · -- 14 to 17
              refine r_iinc (a := 5) (b := 6) (lv2 := [(1, .int (iI 6)), (2, .int (iI 409600)), (0, .int (iI a))]) hx hb dX1_doublingsOf_17 hl (k := 1) rfl (by omega) (by decide) rfl (fun ls hl => ?_)
              refine lv_iload_n hx hb dX1_doublingsOf_20 rfl (lv_at hl 1 rfl) ?_
              refine lv_iconst (v := iI 4) hx hb dX1_doublingsOf_21 rfl ?_
              refine r_imul hx hb dX1_doublingsOf_22 ?_
              refine W.eq (g2 := F0 m 23 ls [.int (iI 1638400)]) rfl ?_
              refine lv_istore_n (lv' := [(2, .int (iI 1638400)), (1, .int (iI 6)), (0, .int (iI a))]) hx hb dX1_doublingsOf_23 rfl hl (by decide) rfl (fun ls hl => ?_)
              refine lv_goto (tgt := 6) hx hb dX1_doublingsOf_24 (by decide) ?_
              refine lv_iload_n hx hb dX1_doublingsOf_6 rfl (lv_at hl 1 rfl) ?_
              refine lv_bipush (v := iI 10) hx hb dX1_doublingsOf_7 (by decide +kernel) ?_
              refine r_icmp_ge (tgt := 27) hx hb dX1_doublingsOf_9 (by decide) (by omega) (by omega) (fun h => absurd h (by decide)) (fun _ => ?_)
              refine lv_iload_n hx hb dX1_doublingsOf_12 rfl (lv_at hl 0 rfl) ?_
              refine lv_iload_n hx hb dX1_doublingsOf_13 rfl (lv_at hl 2 rfl) ?_
              refine r_icmp_gt (tgt := 27) hx hb dX1_doublingsOf_14 (by decide) (by omega) (by omega) (fun h7 => ?_) (fun h7 => ?_)
              · -- 14 to 27
                refine lv_iload_n hx hb dX1_doublingsOf_27 rfl (lv_at hl 1 rfl) ?_
                exact r_ret hx hb hr hlocks dX1_doublingsOf_28 (by unfold nDbl; repeat (first | omega | split))
              · -- 14 to 17
                refine r_iinc (a := 6) (b := 7) (lv2 := [(1, .int (iI 7)), (2, .int (iI 1638400)), (0, .int (iI a))]) hx hb dX1_doublingsOf_17 hl (k := 1) rfl (by omega) (by decide) rfl (fun ls hl => ?_)
                refine lv_iload_n hx hb dX1_doublingsOf_20 rfl (lv_at hl 1 rfl) ?_
                refine lv_iconst (v := iI 4) hx hb dX1_doublingsOf_21 rfl ?_
                refine r_imul hx hb dX1_doublingsOf_22 ?_
                refine W.eq (g2 := F0 m 23 ls [.int (iI 6553600)]) rfl ?_
                refine lv_istore_n (lv' := [(2, .int (iI 6553600)), (1, .int (iI 7)), (0, .int (iI a))]) hx hb dX1_doublingsOf_23 rfl hl (by decide) rfl (fun ls hl => ?_)
                refine lv_goto (tgt := 6) hx hb dX1_doublingsOf_24 (by decide) ?_
                refine lv_iload_n hx hb dX1_doublingsOf_6 rfl (lv_at hl 1 rfl) ?_
                refine lv_bipush (v := iI 10) hx hb dX1_doublingsOf_7 (by decide +kernel) ?_
                refine r_icmp_ge (tgt := 27) hx hb dX1_doublingsOf_9 (by decide) (by omega) (by omega) (fun h => absurd h (by decide)) (fun _ => ?_)
                refine lv_iload_n hx hb dX1_doublingsOf_12 rfl (lv_at hl 0 rfl) ?_
                refine lv_iload_n hx hb dX1_doublingsOf_13 rfl (lv_at hl 2 rfl) ?_
                refine r_icmp_gt (tgt := 27) hx hb dX1_doublingsOf_14 (by decide) (by omega) (by omega) (fun h8 => ?_) (fun h8 => ?_)
                · -- 14 to 27
                  refine lv_iload_n hx hb dX1_doublingsOf_27 rfl (lv_at hl 1 rfl) ?_
                  exact r_ret hx hb hr hlocks dX1_doublingsOf_28 (by unfold nDbl; repeat (first | omega | split))
                · -- 14 to 17
                  refine r_iinc (a := 7) (b := 8) (lv2 := [(1, .int (iI 8)), (2, .int (iI 6553600)), (0, .int (iI a))]) hx hb dX1_doublingsOf_17 hl (k := 1) rfl (by omega) (by decide) rfl (fun ls hl => ?_)
                  refine lv_iload_n hx hb dX1_doublingsOf_20 rfl (lv_at hl 1 rfl) ?_
                  refine lv_iconst (v := iI 4) hx hb dX1_doublingsOf_21 rfl ?_
                  refine r_imul hx hb dX1_doublingsOf_22 ?_
                  refine W.eq (g2 := F0 m 23 ls [.int (iI 26214400)]) rfl ?_
                  refine lv_istore_n (lv' := [(2, .int (iI 26214400)), (1, .int (iI 8)), (0, .int (iI a))]) hx hb dX1_doublingsOf_23 rfl hl (by decide) rfl (fun ls hl => ?_)
                  refine lv_goto (tgt := 6) hx hb dX1_doublingsOf_24 (by decide) ?_
                  refine lv_iload_n hx hb dX1_doublingsOf_6 rfl (lv_at hl 1 rfl) ?_
                  refine lv_bipush (v := iI 10) hx hb dX1_doublingsOf_7 (by decide +kernel) ?_
                  refine r_icmp_ge (tgt := 27) hx hb dX1_doublingsOf_9 (by decide) (by omega) (by omega) (fun h => absurd h (by decide)) (fun _ => ?_)
                  refine lv_iload_n hx hb dX1_doublingsOf_12 rfl (lv_at hl 0 rfl) ?_
                  refine lv_iload_n hx hb dX1_doublingsOf_13 rfl (lv_at hl 2 rfl) ?_
                  refine r_icmp_gt (tgt := 27) hx hb dX1_doublingsOf_14 (by decide) (by omega) (by omega) (fun h9 => ?_) (fun h9 => ?_)
                  · -- 14 to 27
                    refine lv_iload_n hx hb dX1_doublingsOf_27 rfl (lv_at hl 1 rfl) ?_
                    exact r_ret hx hb hr hlocks dX1_doublingsOf_28 (by unfold nDbl; repeat (first | omega | split))
                  · -- 14 to 17
                    refine r_iinc (a := 8) (b := 9) (lv2 := [(1, .int (iI 9)), (2, .int (iI 26214400)), (0, .int (iI a))]) hx hb dX1_doublingsOf_17 hl (k := 1) rfl (by omega) (by decide) rfl (fun ls hl => ?_)
                    refine lv_iload_n hx hb dX1_doublingsOf_20 rfl (lv_at hl 1 rfl) ?_
                    refine lv_iconst (v := iI 4) hx hb dX1_doublingsOf_21 rfl ?_
                    refine r_imul hx hb dX1_doublingsOf_22 ?_
                    refine W.eq (g2 := F0 m 23 ls [.int (iI 104857600)]) rfl ?_
                    refine lv_istore_n (lv' := [(2, .int (iI 104857600)), (1, .int (iI 9)), (0, .int (iI a))]) hx hb dX1_doublingsOf_23 rfl hl (by decide) rfl (fun ls hl => ?_)
                    refine lv_goto (tgt := 6) hx hb dX1_doublingsOf_24 (by decide) ?_
                    refine lv_iload_n hx hb dX1_doublingsOf_6 rfl (lv_at hl 1 rfl) ?_
                    refine lv_bipush (v := iI 10) hx hb dX1_doublingsOf_7 (by decide +kernel) ?_
                    refine r_icmp_ge (tgt := 27) hx hb dX1_doublingsOf_9 (by decide) (by omega) (by omega) (fun h => absurd h (by decide)) (fun _ => ?_)
                    refine lv_iload_n hx hb dX1_doublingsOf_12 rfl (lv_at hl 0 rfl) ?_
                    refine lv_iload_n hx hb dX1_doublingsOf_13 rfl (lv_at hl 2 rfl) ?_
                    refine r_icmp_gt (tgt := 27) hx hb dX1_doublingsOf_14 (by decide) (by omega) (by omega) (fun h10 => ?_) (fun h10 => ?_)
                    · -- 14 to 27
                      refine lv_iload_n hx hb dX1_doublingsOf_27 rfl (lv_at hl 1 rfl) ?_
                      exact r_ret hx hb hr hlocks dX1_doublingsOf_28 (by unfold nDbl; repeat (first | omega | split))
                    · -- 14 to 17
                      refine r_iinc (a := 9) (b := 10) (lv2 := [(1, .int (iI 10)), (2, .int (iI 104857600)), (0, .int (iI a))]) hx hb dX1_doublingsOf_17 hl (k := 1) rfl (by omega) (by decide) rfl (fun ls hl => ?_)
                      refine lv_iload_n hx hb dX1_doublingsOf_20 rfl (lv_at hl 1 rfl) ?_
                      refine lv_iconst (v := iI 4) hx hb dX1_doublingsOf_21 rfl ?_
                      refine r_imul hx hb dX1_doublingsOf_22 ?_
                      refine W.eq (g2 := F0 m 23 ls [.int (iI 419430400)]) rfl ?_
                      refine lv_istore_n (lv' := [(2, .int (iI 419430400)), (1, .int (iI 10)), (0, .int (iI a))]) hx hb dX1_doublingsOf_23 rfl hl (by decide) rfl (fun ls hl => ?_)
                      refine lv_goto (tgt := 6) hx hb dX1_doublingsOf_24 (by decide) ?_
                      refine lv_iload_n hx hb dX1_doublingsOf_6 rfl (lv_at hl 1 rfl) ?_
                      refine lv_bipush (v := iI 10) hx hb dX1_doublingsOf_7 (by decide +kernel) ?_
                      refine r_icmp_ge (tgt := 27) hx hb dX1_doublingsOf_9 (by decide) (by omega) (by omega) (fun _ => ?_) (fun h => absurd h (by decide))
                      refine lv_iload_n hx hb dX1_doublingsOf_27 rfl (lv_at hl 1 rfl) ?_
                      exact r_ret hx hb hr hlocks dX1_doublingsOf_28 (by unfold nDbl; repeat (first | omega | split))
theorem fl_X1_pieceCount_61 : Cond.fieldLink RX1 61 "NoiseLamps$Noise" "pieces" "I" ∈ wsX1_pieceCount := by decide +kernel
set_option maxHeartbeats 4000000 in
set_option maxRecDepth 100000 in
theorem c_X1_pieceCount (l : Launch) (D : va_G) (cy : ClassId) (A : Nat → Nat) (σ : Nat → Int → Int) (hI : invN σ) : MetR l yX1_pieceCount wsX1_pieceCount ({ frames := 0, cells := 0, slots := 0, locals := 0 } : Room) D cy (wN cy A σ) ([.ref (A 100)] : List Value) (σ 0 0) := by
  refine met_R (cc := cX1_pieceCount) (maxL := 1) (ret := (some .int)) (by decide) rfl (Nat.le_of_ble_eq_true rfl) ?_
  intro p e s m below meth c hx hb hr hml hts hown hlocks hP hK ls hl
  have hown : s.vm.findClass RX1 = some m.cls := hown
  have hl : lv_has ls 1 [(0, .ref (A 100))] := hl
  obtain ⟨hN0, hN4, hN8, hN14, hB1, hB2, hB3, hB5, hB6, hB7, hB9, hB10, hB11, hB12, hB13, hB15, hB16, hB17⟩ := id hI
  refine lv_aload_n hx hb dX1_pieceCount_0 rfl (lv_at hl 0 rfl) ?_
  refine va_get (D := D) (ci := 1) (v := .int (iI (σ 0 0))) (C := RX1) (T := TX1) (N := 19) hx hb hts (fun _ h => List.mem_cons_of_mem _ (List.mem_append_right _ h)) hown hK hP 0 rfl rfl 0 (by decide) (hts _ fl_X1_pieceCount_61) (fun _ h9 => h9) rfl dX1_pieceCount_1 ?_
  exact r_ret hx hb hr hlocks dX1_pieceCount_4 rfl
theorem fl_X1_houseCount_64 : Cond.fieldLink RX1 64 "NoiseLamps$Noise" "houses" "I" ∈ wsX1_houseCount := by decide +kernel
set_option maxHeartbeats 4000000 in
set_option maxRecDepth 100000 in
theorem c_X1_houseCount (l : Launch) (D : va_G) (cy : ClassId) (A : Nat → Nat) (σ : Nat → Int → Int) (hI : invN σ) : MetR l yX1_houseCount wsX1_houseCount ({ frames := 0, cells := 0, slots := 0, locals := 0 } : Room) D cy (wN cy A σ) ([.ref (A 100)] : List Value) (σ 4 0) := by
  refine met_R (cc := cX1_houseCount) (maxL := 1) (ret := (some .int)) (by decide) rfl (Nat.le_of_ble_eq_true rfl) ?_
  intro p e s m below meth c hx hb hr hml hts hown hlocks hP hK ls hl
  have hown : s.vm.findClass RX1 = some m.cls := hown
  have hl : lv_has ls 1 [(0, .ref (A 100))] := hl
  obtain ⟨hN0, hN4, hN8, hN14, hB1, hB2, hB3, hB5, hB6, hB7, hB9, hB10, hB11, hB12, hB13, hB15, hB16, hB17⟩ := id hI
  refine lv_aload_n hx hb dX1_houseCount_0 rfl (lv_at hl 0 rfl) ?_
  refine va_get (D := D) (ci := 1) (v := .int (iI (σ 4 0))) (C := RX1) (T := TX1) (N := 19) hx hb hts (fun _ h => List.mem_cons_of_mem _ (List.mem_append_right _ h)) hown hK hP 0 rfl rfl 4 (by decide) (hts _ fl_X1_houseCount_64) (fun _ h9 => h9) rfl dX1_houseCount_1 ?_
  exact r_ret hx hb hr hlocks dX1_houseCount_4 rfl
theorem fl_X1_wallCount_67 : Cond.fieldLink RX1 67 "NoiseLamps$Noise" "walls" "I" ∈ wsX1_wallCount := by decide +kernel
set_option maxHeartbeats 4000000 in
set_option maxRecDepth 100000 in
theorem c_X1_wallCount (l : Launch) (D : va_G) (cy : ClassId) (A : Nat → Nat) (σ : Nat → Int → Int) (hI : invN σ) : MetR l yX1_wallCount wsX1_wallCount ({ frames := 0, cells := 0, slots := 0, locals := 0 } : Room) D cy (wN cy A σ) ([.ref (A 100)] : List Value) (σ 8 0) := by
  refine met_R (cc := cX1_wallCount) (maxL := 1) (ret := (some .int)) (by decide) rfl (Nat.le_of_ble_eq_true rfl) ?_
  intro p e s m below meth c hx hb hr hml hts hown hlocks hP hK ls hl
  have hown : s.vm.findClass RX1 = some m.cls := hown
  have hl : lv_has ls 1 [(0, .ref (A 100))] := hl
  obtain ⟨hN0, hN4, hN8, hN14, hB1, hB2, hB3, hB5, hB6, hB7, hB9, hB10, hB11, hB12, hB13, hB15, hB16, hB17⟩ := id hI
  refine lv_aload_n hx hb dX1_wallCount_0 rfl (lv_at hl 0 rfl) ?_
  refine va_get (D := D) (ci := 1) (v := .int (iI (σ 8 0))) (C := RX1) (T := TX1) (N := 19) hx hb hts (fun _ h => List.mem_cons_of_mem _ (List.mem_append_right _ h)) hown hK hP 0 rfl rfl 8 (by decide) (hts _ fl_X1_wallCount_67) (fun _ h9 => h9) rfl dX1_wallCount_1 ?_
  exact r_ret hx hb hr hlocks dX1_wallCount_4 rfl
theorem fl_X1_hasPiece_61 : Cond.fieldLink RX1 61 "NoiseLamps$Noise" "pieces" "I" ∈ wsX1_hasPiece := by decide +kernel
set_option maxHeartbeats 4000000 in
set_option maxRecDepth 100000 in
theorem c_X1_hasPiece (l : Launch) (D : va_G) (cy : ClassId) (A : Nat → Nat) (σ : Nat → Int → Int) (a : Int) (hI : invN σ) (ha : I32 a) : MetR l yX1_hasPiece wsX1_hasPiece ({ frames := 0, cells := 0, slots := 0, locals := 0 } : Room) D cy (wN cy A σ) ([.ref (A 100), .int (iI a)] : List Value) (bI (0 ≤ a ∧ a < σ 0 0)) := by
  refine met_R (cc := cX1_hasPiece) (maxL := 2) (ret := (some .boolean)) (by decide) rfl (Nat.le_of_ble_eq_true rfl) ?_
  intro p e s m below meth c hx hb hr hml hts hown hlocks hP hK ls hl
  have hown : s.vm.findClass RX1 = some m.cls := hown
  have hl : lv_has ls 2 [(0, .ref (A 100)), (1, .int (iI a))] := hl
  obtain ⟨hN0, hN4, hN8, hN14, hB1, hB2, hB3, hB5, hB6, hB7, hB9, hB10, hB11, hB12, hB13, hB15, hB16, hB17⟩ := id hI
  refine lv_iload_n hx hb dX1_hasPiece_0 rfl (lv_at hl 1 rfl) ?_
  refine r_if_lt (tgt := 16) hx hb dX1_hasPiece_1 (by decide) (by omega) (fun h1 => ?_) (fun h1 => ?_)
  · -- 1 to 16
    refine lv_iconst (v := iI 0) hx hb dX1_hasPiece_16 rfl ?_
    exact r_retZ hx hb hr hlocks dX1_hasPiece_17 (zn_of (by omega)) (by first | rfl | exact (bI_t (by omega)).symm | exact (bI_f (by omega)).symm)
  · -- 1 to 4
    refine lv_iload_n hx hb dX1_hasPiece_4 rfl (lv_at hl 1 rfl) ?_
    refine lv_aload_n hx hb dX1_hasPiece_5 rfl (lv_at hl 0 rfl) ?_
    refine va_get (D := D) (ci := 1) (v := .int (iI (σ 0 0))) (C := RX1) (T := TX1) (N := 19) hx hb hts (fun _ h => List.mem_cons_of_mem _ (List.mem_append_right _ h)) hown hK hP 0 rfl rfl 0 (by decide) (hts _ fl_X1_hasPiece_61) (fun _ h9 => h9) rfl dX1_hasPiece_6 ?_
    refine r_icmp_ge (tgt := 16) hx hb dX1_hasPiece_9 (by decide) (by omega) (by omega) (fun h2 => ?_) (fun h2 => ?_)
    · -- 9 to 16
      refine lv_iconst (v := iI 0) hx hb dX1_hasPiece_16 rfl ?_
      exact r_retZ hx hb hr hlocks dX1_hasPiece_17 (zn_of (by omega)) (by first | rfl | exact (bI_t (by omega)).symm | exact (bI_f (by omega)).symm)
    · -- 9 to 12
      refine lv_iconst (v := iI 1) hx hb dX1_hasPiece_12 rfl ?_
      refine lv_goto (tgt := 17) hx hb dX1_hasPiece_13 (by decide) ?_
      exact r_retZ hx hb hr hlocks dX1_hasPiece_17 (zn_of (by omega)) (by first | rfl | exact (bI_t (by omega)).symm | exact (bI_f (by omega)).symm)
theorem fl_X1_hasHouse_64 : Cond.fieldLink RX1 64 "NoiseLamps$Noise" "houses" "I" ∈ wsX1_hasHouse := by decide +kernel
set_option maxHeartbeats 4000000 in
set_option maxRecDepth 100000 in
theorem c_X1_hasHouse (l : Launch) (D : va_G) (cy : ClassId) (A : Nat → Nat) (σ : Nat → Int → Int) (a : Int) (hI : invN σ) (ha : I32 a) : MetR l yX1_hasHouse wsX1_hasHouse ({ frames := 0, cells := 0, slots := 0, locals := 0 } : Room) D cy (wN cy A σ) ([.ref (A 100), .int (iI a)] : List Value) (bI (0 ≤ a ∧ a < σ 4 0)) := by
  refine met_R (cc := cX1_hasHouse) (maxL := 2) (ret := (some .boolean)) (by decide) rfl (Nat.le_of_ble_eq_true rfl) ?_
  intro p e s m below meth c hx hb hr hml hts hown hlocks hP hK ls hl
  have hown : s.vm.findClass RX1 = some m.cls := hown
  have hl : lv_has ls 2 [(0, .ref (A 100)), (1, .int (iI a))] := hl
  obtain ⟨hN0, hN4, hN8, hN14, hB1, hB2, hB3, hB5, hB6, hB7, hB9, hB10, hB11, hB12, hB13, hB15, hB16, hB17⟩ := id hI
  refine lv_iload_n hx hb dX1_hasHouse_0 rfl (lv_at hl 1 rfl) ?_
  refine r_if_lt (tgt := 16) hx hb dX1_hasHouse_1 (by decide) (by omega) (fun h1 => ?_) (fun h1 => ?_)
  · -- 1 to 16
    refine lv_iconst (v := iI 0) hx hb dX1_hasHouse_16 rfl ?_
    exact r_retZ hx hb hr hlocks dX1_hasHouse_17 (zn_of (by omega)) (by first | rfl | exact (bI_t (by omega)).symm | exact (bI_f (by omega)).symm)
  · -- 1 to 4
    refine lv_iload_n hx hb dX1_hasHouse_4 rfl (lv_at hl 1 rfl) ?_
    refine lv_aload_n hx hb dX1_hasHouse_5 rfl (lv_at hl 0 rfl) ?_
    refine va_get (D := D) (ci := 1) (v := .int (iI (σ 4 0))) (C := RX1) (T := TX1) (N := 19) hx hb hts (fun _ h => List.mem_cons_of_mem _ (List.mem_append_right _ h)) hown hK hP 0 rfl rfl 4 (by decide) (hts _ fl_X1_hasHouse_64) (fun _ h9 => h9) rfl dX1_hasHouse_6 ?_
    refine r_icmp_ge (tgt := 16) hx hb dX1_hasHouse_9 (by decide) (by omega) (by omega) (fun h2 => ?_) (fun h2 => ?_)
    · -- 9 to 16
      refine lv_iconst (v := iI 0) hx hb dX1_hasHouse_16 rfl ?_
      exact r_retZ hx hb hr hlocks dX1_hasHouse_17 (zn_of (by omega)) (by first | rfl | exact (bI_t (by omega)).symm | exact (bI_f (by omega)).symm)
    · -- 9 to 12
      refine lv_iconst (v := iI 1) hx hb dX1_hasHouse_12 rfl ?_
      refine lv_goto (tgt := 17) hx hb dX1_hasHouse_13 (by decide) ?_
      exact r_retZ hx hb hr hlocks dX1_hasHouse_17 (zn_of (by omega)) (by first | rfl | exact (bI_t (by omega)).symm | exact (bI_f (by omega)).symm)
theorem fl_X1_hasWall_67 : Cond.fieldLink RX1 67 "NoiseLamps$Noise" "walls" "I" ∈ wsX1_hasWall := by decide +kernel
set_option maxHeartbeats 4000000 in
set_option maxRecDepth 100000 in
theorem c_X1_hasWall (l : Launch) (D : va_G) (cy : ClassId) (A : Nat → Nat) (σ : Nat → Int → Int) (a : Int) (hI : invN σ) (ha : I32 a) : MetR l yX1_hasWall wsX1_hasWall ({ frames := 0, cells := 0, slots := 0, locals := 0 } : Room) D cy (wN cy A σ) ([.ref (A 100), .int (iI a)] : List Value) (bI (0 ≤ a ∧ a < σ 8 0)) := by
  refine met_R (cc := cX1_hasWall) (maxL := 2) (ret := (some .boolean)) (by decide) rfl (Nat.le_of_ble_eq_true rfl) ?_
  intro p e s m below meth c hx hb hr hml hts hown hlocks hP hK ls hl
  have hown : s.vm.findClass RX1 = some m.cls := hown
  have hl : lv_has ls 2 [(0, .ref (A 100)), (1, .int (iI a))] := hl
  obtain ⟨hN0, hN4, hN8, hN14, hB1, hB2, hB3, hB5, hB6, hB7, hB9, hB10, hB11, hB12, hB13, hB15, hB16, hB17⟩ := id hI
  refine lv_iload_n hx hb dX1_hasWall_0 rfl (lv_at hl 1 rfl) ?_
  refine r_if_lt (tgt := 16) hx hb dX1_hasWall_1 (by decide) (by omega) (fun h1 => ?_) (fun h1 => ?_)
  · -- 1 to 16
    refine lv_iconst (v := iI 0) hx hb dX1_hasWall_16 rfl ?_
    exact r_retZ hx hb hr hlocks dX1_hasWall_17 (zn_of (by omega)) (by first | rfl | exact (bI_t (by omega)).symm | exact (bI_f (by omega)).symm)
  · -- 1 to 4
    refine lv_iload_n hx hb dX1_hasWall_4 rfl (lv_at hl 1 rfl) ?_
    refine lv_aload_n hx hb dX1_hasWall_5 rfl (lv_at hl 0 rfl) ?_
    refine va_get (D := D) (ci := 1) (v := .int (iI (σ 8 0))) (C := RX1) (T := TX1) (N := 19) hx hb hts (fun _ h => List.mem_cons_of_mem _ (List.mem_append_right _ h)) hown hK hP 0 rfl rfl 8 (by decide) (hts _ fl_X1_hasWall_67) (fun _ h9 => h9) rfl dX1_hasWall_6 ?_
    refine r_icmp_ge (tgt := 16) hx hb dX1_hasWall_9 (by decide) (by omega) (by omega) (fun h2 => ?_) (fun h2 => ?_)
    · -- 9 to 16
      refine lv_iconst (v := iI 0) hx hb dX1_hasWall_16 rfl ?_
      exact r_retZ hx hb hr hlocks dX1_hasWall_17 (zn_of (by omega)) (by first | rfl | exact (bI_t (by omega)).symm | exact (bI_f (by omega)).symm)
    · -- 9 to 12
      refine lv_iconst (v := iI 1) hx hb dX1_hasWall_12 rfl ?_
      refine lv_goto (tgt := 17) hx hb dX1_hasWall_13 (by decide) ?_
      exact r_retZ hx hb hr hlocks dX1_hasWall_17 (zn_of (by omega)) (by first | rfl | exact (bI_t (by omega)).symm | exact (bI_f (by omega)).symm)
theorem fl_X1_allPeople_64 : Cond.fieldLink RX1 64 "NoiseLamps$Noise" "houses" "I" ∈ wsX1_allPeople := by decide +kernel
theorem fl_X1_allPeople_27 : Cond.fieldLink RX1 27 "NoiseLamps$Noise" "housePeople" "[I" ∈ wsX1_allPeople := by decide +kernel
set_option maxHeartbeats 4000000 in
set_option maxRecDepth 100000 in
theorem c_X1_allPeople (l : Launch) (D : va_G) (cy : ClassId) (A : Nat → Nat) (σ : Nat → Int → Int) (hI : invN σ) : MetR l yX1_allPeople wsX1_allPeople ({ frames := 0, cells := 0, slots := 0, locals := 0 } : Room) D cy (wN cy A σ) ([.ref (A 100)] : List Value) (nAll σ) := by
  refine met_R (cc := cX1_allPeople) (maxL := 3) (ret := (some .int)) (by decide) rfl (Nat.le_of_ble_eq_true rfl) ?_
  intro p e s m below meth c hx hb hr hml hts hown hlocks hP hK ls hl
  have hown : s.vm.findClass RX1 = some m.cls := hown
  have hl : lv_has ls 3 [(0, .ref (A 100))] := hl
  obtain ⟨hN0, hN4, hN8, hN14, hB1, hB2, hB3, hB5, hB6, hB7, hB9, hB10, hB11, hB12, hB13, hB15, hB16, hB17⟩ := id hI
  refine lv_iconst (v := iI 0) hx hb dX1_allPeople_0 rfl ?_
  refine lv_istore_n (lv' := [(1, .int (iI 0)), (0, .ref (A 100))]) hx hb dX1_allPeople_1 rfl hl (by decide) rfl (fun ls hl => ?_)
  refine lv_iconst (v := iI 0) hx hb dX1_allPeople_2 rfl ?_
  refine lv_istore_n (lv' := [(2, .int (iI 0)), (1, .int (iI 0)), (0, .ref (A 100))]) hx hb dX1_allPeople_3 rfl hl (by decide) rfl (fun ls hl => ?_)
  have lp4_1 : ∀ (nlp4_1 : Nat) (i : Int) (g : Int) (ls : Array Slot), (0 ≤ i ∧ i ≤ σ 4 0) → (g = fo (fun n h => n + σ 7 h) 0 i) → (σ 4 0 - i < (nlp4_1 : Int)) → lv_has ls 3 [(2, .int (iI i)), (1, .int (iI g)), (0, .ref (A 100))] → W p l e ({ frames := 0, cells := 0, slots := 0, locals := 0 } : Room) s m ([.ref (A 100)] : List Value).toArray below meth c s.heap [] 0 0 (MQ below (vp_Si (fun r => r = iI (nAll σ))) ([.ref (A 100)] : List Value).toArray s 0 0 (fun _ => False)) (F0 m 4 ls []) := by
    intro nlp4_1
    induction nlp4_1 with
    | zero => intro i g ls hi hg hn hl; exact absurd hn (by omega)
    | succ nlp4_1 ihlp4_1 =>
      intro i g ls hi hg hn hl
      refine lv_iload_n hx hb dX1_allPeople_4 rfl (lv_at hl 0 rfl) ?_
      refine lv_aload_n hx hb dX1_allPeople_5 rfl (lv_at hl 2 rfl) ?_
      refine va_get (D := D) (ci := 1) (v := .int (iI (σ 4 0))) (C := RX1) (T := TX1) (N := 19) hx hb hts (fun _ h => List.mem_cons_of_mem _ (List.mem_append_right _ h)) hown hK hP 0 rfl rfl 4 (by decide) (hts _ fl_X1_allPeople_64) (fun _ h9 => h9) rfl dX1_allPeople_6 ?_
      refine r_icmp_ge (tgt := 27) hx hb dX1_allPeople_9 (by decide) (by omega) (by omega) (fun h2 => ?_) (fun h2 => ?_)
      · -- 9 to 27
        refine lv_iload_n hx hb dX1_allPeople_27 rfl (lv_at hl 1 rfl) ?_
        exact r_ret hx hb hr hlocks dX1_allPeople_28 (by rw [hg, show i = σ 4 0 from by omega]; rfl)
      · -- 9 to 12
        refine lv_iload_n hx hb dX1_allPeople_12 rfl (lv_at hl 1 rfl) ?_
        refine lv_aload_n hx hb dX1_allPeople_13 rfl (lv_at hl 2 rfl) ?_
        refine va_get (D := D) (ci := 1) (v := .ref (A 7)) (C := RX1) (T := TX1) (N := 19) hx hb hts (fun _ h => List.mem_cons_of_mem _ (List.mem_append_right _ h)) hown hK hP 0 rfl rfl 7 (by decide) (hts _ fl_X1_allPeople_27) (fun _ h9 => h9) rfl dX1_allPeople_14 ?_
        refine lv_iload_n hx hb dX1_allPeople_17 rfl (lv_at hl 0 rfl) ?_
        refine r_iald hx hb hK hP 6 0 rfl rfl (Nat.le_of_ble_eq_true rfl) (by omega) dX1_allPeople_18 ?_
        have hv3 := hB7 i
        refine r_iadd hx hb dX1_allPeople_19 ?_
        refine lv_istore_n (lv' := [(1, .int (iI (g + (σ 7 i)))), (2, .int (iI i)), (0, .ref (A 100))]) hx hb dX1_allPeople_20 rfl hl (by decide) rfl (fun ls hl => ?_)
        refine r_iinc (a := i) (b := (i + 1)) (lv2 := [(2, .int (iI (i + 1))), (1, .int (iI (g + (σ 7 i)))), (0, .ref (A 100))]) hx hb dX1_allPeople_21 hl (k := 1) rfl (by omega) (by decide) rfl (fun ls hl => ?_)
        refine lv_goto (tgt := 4) hx hb dX1_allPeople_24 (by decide) ?_
        exact ihlp4_1 (i + 1) (g + (σ 7 i)) ls (by omega) (by rw [fo_s _ _ (by omega), ← hg]) (by omega) (lv_sub hl [0, 1, 2] rfl)
  exact lp4_1 _ 0 0 ls (by omega) rfl (lt_tn _) (lv_sub hl [0, 1, 2] rfl)
theorem fl_X1_greatestCut_67 : Cond.fieldLink RX1 67 "NoiseLamps$Noise" "walls" "I" ∈ wsX1_greatestCut := by decide +kernel
theorem fl_X1_greatestCut_51 : Cond.fieldLink RX1 51 "NoiseLamps$Noise" "wallsBetween" "[I" ∈ wsX1_greatestCut := by decide +kernel
theorem fl_X1_greatestCut_42 : Cond.fieldLink RX1 42 "NoiseLamps$Noise" "wallCut" "[I" ∈ wsX1_greatestCut := by decide +kernel
set_option maxHeartbeats 4000000 in
set_option maxRecDepth 100000 in
theorem c_X1_greatestCut (l : Launch) (D : va_G) (cy : ClassId) (A : Nat → Nat) (σ : Nat → Int → Int) (a : Int) (hI : invN σ) (ha : 0 ≤ a ∧ a < 240) : MetR l yX1_greatestCut wsX1_greatestCut ({ frames := 0, cells := 0, slots := 0, locals := 0 } : Room) D cy (wN cy A σ) ([.ref (A 100), .int (iI a)] : List Value) (nCut σ a) := by
  refine met_R (cc := cX1_greatestCut) (maxL := 5) (ret := (some .int)) (by decide) rfl (Nat.le_of_ble_eq_true rfl) ?_
  intro p e s m below meth c hx hb hr hml hts hown hlocks hP hK ls hl
  have hown : s.vm.findClass RX1 = some m.cls := hown
  have hl : lv_has ls 5 [(0, .ref (A 100)), (1, .int (iI a))] := hl
  obtain ⟨hN0, hN4, hN8, hN14, hB1, hB2, hB3, hB5, hB6, hB7, hB9, hB10, hB11, hB12, hB13, hB15, hB16, hB17⟩ := id hI
  refine lv_iconst (v := iI 0) hx hb dX1_greatestCut_0 rfl ?_
  refine lv_istore_n (lv' := [(2, .int (iI 0)), (0, .ref (A 100)), (1, .int (iI a))]) hx hb dX1_greatestCut_1 rfl hl (by decide) rfl (fun ls hl => ?_)
  refine lv_iconst (v := iI 0) hx hb dX1_greatestCut_2 rfl ?_
  refine lv_istore_n (lv' := [(3, .int (iI 0)), (2, .int (iI 0)), (0, .ref (A 100)), (1, .int (iI a))]) hx hb dX1_greatestCut_3 rfl hl (by decide) rfl (fun ls hl => ?_)
  have lp4_1 : ∀ (nlp4_1 : Nat) (i : Int) (g : Int) (ls : Array Slot), (0 ≤ i ∧ i ≤ σ 8 0) → (g = fo (nCutF σ a) 0 i) → (0 ≤ g ∧ g ≤ 300) → (σ 8 0 - i < (nlp4_1 : Int)) → lv_has ls 5 [(3, .int (iI i)), (2, .int (iI g)), (0, .ref (A 100)), (1, .int (iI a))] → W p l e ({ frames := 0, cells := 0, slots := 0, locals := 0 } : Room) s m ([.ref (A 100), .int (iI a)] : List Value).toArray below meth c s.heap [] 0 0 (MQ below (vp_Si (fun r => r = iI (nCut σ a))) ([.ref (A 100), .int (iI a)] : List Value).toArray s 0 0 (fun _ => False)) (F0 m 4 ls []) := by
    intro nlp4_1
    induction nlp4_1 with
    | zero => intro i g ls hi hg hgb hn hl; exact absurd hn (by omega)
    | succ nlp4_1 ihlp4_1 =>
      intro i g ls hi hg hgb hn hl
      refine lv_iload_n hx hb dX1_greatestCut_4 rfl (lv_at hl 0 rfl) ?_
      refine lv_aload_n hx hb dX1_greatestCut_5 rfl (lv_at hl 2 rfl) ?_
      refine va_get (D := D) (ci := 1) (v := .int (iI (σ 8 0))) (C := RX1) (T := TX1) (N := 19) hx hb hts (fun _ h => List.mem_cons_of_mem _ (List.mem_append_right _ h)) hown hK hP 0 rfl rfl 8 (by decide) (hts _ fl_X1_greatestCut_67) (fun _ h9 => h9) rfl dX1_greatestCut_6 ?_
      refine r_icmp_ge (tgt := 60) hx hb dX1_greatestCut_9 (by decide) (by omega) (by omega) (fun h2 => ?_) (fun h2 => ?_)
      · -- 9 to 60
        refine lv_iload_n hx hb dX1_greatestCut_60 rfl (lv_at hl 1 rfl) ?_
        exact r_ret hx hb hr hlocks dX1_greatestCut_61 (by rw [hg, show i = σ 8 0 from by omega]; rfl)
      · -- 9 to 12
        refine lv_aload_n hx hb dX1_greatestCut_12 rfl (lv_at hl 2 rfl) ?_
        refine va_get (D := D) (ci := 1) (v := .ref (A 17)) (C := RX1) (T := TX1) (N := 19) hx hb hts (fun _ h => List.mem_cons_of_mem _ (List.mem_append_right _ h)) hown hK hP 0 rfl rfl 17 (by decide) (hts _ fl_X1_greatestCut_51) (fun _ h9 => h9) rfl dX1_greatestCut_13 ?_
        refine lv_iload_n hx hb dX1_greatestCut_16 rfl (lv_at hl 3 rfl) ?_
        refine r_iald hx hb hK hP 14 0 rfl rfl (Nat.le_of_ble_eq_true rfl) (by omega) dX1_greatestCut_17 ?_
        have hv3 := hB17 a
        refine lv_iconst (v := iI 1) hx hb dX1_greatestCut_18 rfl ?_
        refine lv_iload_n hx hb dX1_greatestCut_19 rfl (lv_at hl 0 rfl) ?_
        refine r_shl hx hb dX1_greatestCut_20 (by omega) ?_
        refine r_bitand hx hb dX1_greatestCut_21 (by omega) (by omega) ?_
        have hq4 := bitZ_s (σ 17 a) i (by omega)
        refine r_if_eq (tgt := 29) hx hb dX1_greatestCut_22 (by decide) (by omega) (fun h5 => ?_) (fun h5 => ?_)
        · -- 22 to 29
          refine lv_iconst (v := iI 0) hx hb dX1_greatestCut_29 rfl ?_
          refine lv_istore (lv' := [(4, .int (iI 0)), (3, .int (iI i)), (2, .int (iI g)), (0, .ref (A 100)), (1, .int (iI a))]) hx hb dX1_greatestCut_30 hl (by decide) rfl (fun ls hl => ?_)
          refine lv_iload hx hb dX1_greatestCut_32 (lv_at hl 0 rfl) ?_
          refine r_if_eq (tgt := 54) hx hb dX1_greatestCut_34 (by decide) (by omega) (fun _ => ?_) (fun h => absurd h (by decide))
          refine r_iinc (a := i) (b := (i + 1)) (lv2 := [(3, .int (iI (i + 1))), (4, .int (iI 0)), (2, .int (iI g)), (0, .ref (A 100)), (1, .int (iI a))]) hx hb dX1_greatestCut_54 hl (k := 1) rfl (by omega) (by decide) rfl (fun ls hl => ?_)
          refine lv_goto (tgt := 4) hx hb dX1_greatestCut_57 (by decide) ?_
          exact ihlp4_1 (i + 1) g ls (by omega) (by rw [fo_s _ _ (by omega), ← hg]; unfold nCutF; first | rw [if_pos (by omega)] | rw [if_neg (by omega)]) (by omega) (by omega) (lv_sub hl [0, 2, 3, 4] rfl)
        · -- 22 to 25
          refine lv_iconst (v := iI 1) hx hb dX1_greatestCut_25 rfl ?_
          refine lv_goto (tgt := 30) hx hb dX1_greatestCut_26 (by decide) ?_
          refine lv_istore (lv' := [(4, .int (iI 1)), (3, .int (iI i)), (2, .int (iI g)), (0, .ref (A 100)), (1, .int (iI a))]) hx hb dX1_greatestCut_30 hl (by decide) rfl (fun ls hl => ?_)
          refine lv_iload hx hb dX1_greatestCut_32 (lv_at hl 0 rfl) ?_
          refine r_if_eq (tgt := 54) hx hb dX1_greatestCut_34 (by decide) (by omega) (fun h => absurd h (by decide)) (fun _ => ?_)
          refine lv_aload_n hx hb dX1_greatestCut_37 rfl (lv_at hl 3 rfl) ?_
          refine va_get (D := D) (ci := 1) (v := .ref (A 13)) (C := RX1) (T := TX1) (N := 19) hx hb hts (fun _ h => List.mem_cons_of_mem _ (List.mem_append_right _ h)) hown hK hP 0 rfl rfl 13 (by decide) (hts _ fl_X1_greatestCut_42) (fun _ h9 => h9) rfl dX1_greatestCut_38 ?_
          refine lv_iload_n hx hb dX1_greatestCut_41 rfl (lv_at hl 1 rfl) ?_
          refine r_iald hx hb hK hP 11 0 rfl rfl (Nat.le_of_ble_eq_true rfl) (by omega) dX1_greatestCut_42 ?_
          have hv6 := hB13 i
          refine lv_iload_n hx hb dX1_greatestCut_43 rfl (lv_at hl 2 rfl) ?_
          refine r_icmp_le (tgt := 54) hx hb dX1_greatestCut_44 (by decide) (by omega) (by omega) (fun h7 => ?_) (fun h7 => ?_)
          · -- 44 to 54
            refine r_iinc (a := i) (b := (i + 1)) (lv2 := [(3, .int (iI (i + 1))), (4, .int (iI 1)), (2, .int (iI g)), (0, .ref (A 100)), (1, .int (iI a))]) hx hb dX1_greatestCut_54 hl (k := 1) rfl (by omega) (by decide) rfl (fun ls hl => ?_)
            refine lv_goto (tgt := 4) hx hb dX1_greatestCut_57 (by decide) ?_
            exact ihlp4_1 (i + 1) g ls (by omega) (by rw [fo_s _ _ (by omega), ← hg]; unfold nCutF; first | rw [if_pos (by omega)] | rw [if_neg (by omega)]) (by omega) (by omega) (lv_sub hl [0, 2, 3, 4] rfl)
          · -- 44 to 47
            refine lv_aload_n hx hb dX1_greatestCut_47 rfl (lv_at hl 3 rfl) ?_
            refine va_get (D := D) (ci := 1) (v := .ref (A 13)) (C := RX1) (T := TX1) (N := 19) hx hb hts (fun _ h => List.mem_cons_of_mem _ (List.mem_append_right _ h)) hown hK hP 0 rfl rfl 13 (by decide) (hts _ fl_X1_greatestCut_42) (fun _ h9 => h9) rfl dX1_greatestCut_48 ?_
            refine lv_iload_n hx hb dX1_greatestCut_51 rfl (lv_at hl 1 rfl) ?_
            refine r_iald hx hb hK hP 11 0 rfl rfl (Nat.le_of_ble_eq_true rfl) (by omega) dX1_greatestCut_52 ?_
            have hv8 := hB13 i
            refine lv_istore_n (lv' := [(2, .int (iI (σ 13 i))), (4, .int (iI 1)), (3, .int (iI i)), (0, .ref (A 100)), (1, .int (iI a))]) hx hb dX1_greatestCut_53 rfl hl (by decide) rfl (fun ls hl => ?_)
            refine r_iinc (a := i) (b := (i + 1)) (lv2 := [(3, .int (iI (i + 1))), (2, .int (iI (σ 13 i))), (4, .int (iI 1)), (0, .ref (A 100)), (1, .int (iI a))]) hx hb dX1_greatestCut_54 hl (k := 2) rfl (by omega) (by decide) rfl (fun ls hl => ?_)
            refine lv_goto (tgt := 4) hx hb dX1_greatestCut_57 (by decide) ?_
            exact ihlp4_1 (i + 1) (σ 13 i) ls (by omega) (by rw [fo_s _ _ (by omega), ← hg]; unfold nCutF; first | rw [if_pos (by omega)] | rw [if_neg (by omega)]) (by omega) (by omega) (lv_sub hl [0, 1, 3, 4] rfl)
  exact lp4_1 _ 0 0 ls (by omega) rfl (by omega) (lt_tn _) (lv_sub hl [0, 1, 2, 3] rfl)
theorem fl_X1_given_18 : Cond.fieldLink RX1 18 "NoiseLamps$Noise" "pieceLevel" "[I" ∈ wsX1_given := by decide +kernel
theorem fl_X1_given_57 : Cond.fieldLink RX1 57 "NoiseLamps$Noise" "fall" "I" ∈ wsX1_given := by decide +kernel
theorem fl_X1_given_48 : Cond.fieldLink RX1 48 "NoiseLamps$Noise" "doublings" "[I" ∈ wsX1_given := by decide +kernel
set_option maxHeartbeats 4000000 in
set_option maxRecDepth 100000 in
theorem c_X1_given (l : Launch) (D : va_G) (cy : ClassId) (A : Nat → Nat) (σ : Nat → Int → Int) (a b t : Int) (hI : invN σ) (ha : 0 ≤ a ∧ a < 12) (hb2 : 0 ≤ b ∧ b < 20) (ht : 0 ≤ t ∧ t < 3) : MetR l yX1_given wsX1_given ({ frames := 1, cells := 0, slots := 0, locals := 24 } : Room) D cy (wN cy A σ) ([.ref (A 100), .int (iI a), .int (iI b), .int (iI t)] : List Value) (nGiven σ a b t) := by
  refine met_R (cc := cX1_given) (maxL := 6) (ret := (some .int)) (by decide) rfl (Nat.le_of_ble_eq_true rfl) ?_
  intro p e s m below meth c hx hb hr hml hts hown hlocks hP hK ls hl
  have hown : s.vm.findClass RX1 = some m.cls := hown
  have hl : lv_has ls 6 [(0, .ref (A 100)), (1, .int (iI a)), (2, .int (iI b)), (3, .int (iI t))] := hl
  obtain ⟨hN0, hN4, hN8, hN14, hB1, hB2, hB3, hB5, hB6, hB7, hB9, hB10, hB11, hB12, hB13, hB15, hB16, hB17⟩ := id hI
  refine lv_iload_n hx hb dX1_given_0 rfl (lv_at hl 1 rfl) ?_
  refine lv_iload_n hx hb dX1_given_1 rfl (lv_at hl 2 rfl) ?_
  refine r_calli (va_runS (As := [.int (iI a), .int (iI b)]) (rest := []) ⟨hx, hb, hml, hown, hts⟩ (c_X1_pairOf l  a b ) (va_cwS 2 hts gX1_given_X1_pairOf rfl rfl rfl (by decide +kernel) ⟨Nat.le_of_ble_eq_true rfl, Nat.le_of_ble_eq_true rfl⟩) ps_T rfl rfl hl.1 rfl (lv_room (Nat.le_of_ble_eq_true rfl)) dX1_given_2 ⟨Nat.le_of_ble_eq_true rfl, Nat.le_of_ble_eq_true rfl⟩) ?_
  refine lv_istore (lv' := [(4, .int (iI (a * 20 + b))), (0, .ref (A 100)), (1, .int (iI a)), (2, .int (iI b)), (3, .int (iI t))]) hx hb dX1_given_5 hl (by decide) rfl (fun ls hl => ?_)
  refine lv_aload_n hx hb dX1_given_7 rfl (lv_at hl 1 rfl) ?_
  refine va_get (D := D) (ci := 1) (v := .ref (A 3)) (C := RX1) (T := TX1) (N := 19) hx hb hts (fun _ h => List.mem_cons_of_mem _ (List.mem_append_right _ h)) hown hK hP 0 rfl rfl 3 (by decide) (hts _ fl_X1_given_18) (fun _ h9 => h9) rfl dX1_given_8 ?_
  refine lv_iload_n hx hb dX1_given_11 rfl (lv_at hl 2 rfl) ?_
  refine lv_iconst (v := iI 3) hx hb dX1_given_12 rfl ?_
  refine r_imul hx hb dX1_given_13 ?_
  refine lv_iload_n hx hb dX1_given_14 rfl (lv_at hl 4 rfl) ?_
  refine r_iadd hx hb dX1_given_15 ?_
  refine r_iald hx hb hK hP 3 0 rfl rfl (Nat.le_of_ble_eq_true rfl) (by omega) dX1_given_16 ?_
  have hv1 := hB3 ((a * 3) + t)
  refine lv_aload_n hx hb dX1_given_17 rfl (lv_at hl 1 rfl) ?_
  refine va_get (D := D) (ci := 1) (v := .int (iI (σ 14 0))) (C := RX1) (T := TX1) (N := 19) hx hb hts (fun _ h => List.mem_cons_of_mem _ (List.mem_append_right _ h)) hown hK hP 0 rfl rfl 14 (by decide) (hts _ fl_X1_given_57) (fun _ h9 => h9) rfl dX1_given_18 ?_
  refine lv_aload_n hx hb dX1_given_21 rfl (lv_at hl 1 rfl) ?_
  refine va_get (D := D) (ci := 1) (v := .ref (A 16)) (C := RX1) (T := TX1) (N := 19) hx hb hts (fun _ h => List.mem_cons_of_mem _ (List.mem_append_right _ h)) hown hK hP 0 rfl rfl 16 (by decide) (hts _ fl_X1_given_48) (fun _ h9 => h9) rfl dX1_given_22 ?_
  refine lv_iload hx hb dX1_given_25 (lv_at hl 0 rfl) ?_
  refine r_iald hx hb hK hP 13 0 rfl rfl (Nat.le_of_ble_eq_true rfl) (by omega) dX1_given_27 ?_
  have hv2 := hB16 (a * 20 + b)
  have hm0 := mul_bd (a := (σ 14 0)) (b := (σ 16 (a * 20 + b))) (A := 60) (B := 10) (by omega) (by omega)
  refine r_imul hx hb dX1_given_28 ?_
  refine r_isub hx hb dX1_given_29 ?_
  refine lv_aload_n hx hb dX1_given_30 rfl (lv_at hl 1 rfl) ?_
  refine lv_iload hx hb dX1_given_31 (lv_at hl 0 rfl) ?_
  refine r_calli (va_runV (As := [.int (iI (a * 20 + b))]) (rest := [.int (iI ((σ 3 ((a * 3) + t)) - ((σ 14 0) * (σ 16 (a * 20 + b)))))]) ⟨hx, hb, hml, hown, hts⟩ (c_X1_greatestCut l D cy A σ (a * 20 + b) hI (by omega)) (cwV 1 hts gX1_given_X1_greatestCut rfl rfl rfl (by decide +kernel) ⟨Nat.le_of_ble_eq_true rfl, Nat.le_of_ble_eq_true rfl⟩) (pv_ro (C := RX1) (T := TX1) (N := 19) (ci := 1) (q0 := 0) hP hK rfl rfl) rfl rfl hl.1 rfl (lv_room (Nat.le_of_ble_eq_true rfl)) dX1_given_33 ⟨Nat.le_of_ble_eq_true rfl, Nat.le_of_ble_eq_true rfl⟩) ?_
  have hf4 := nCut_bd hI (a * 20 + b)
  refine r_isub hx hb dX1_given_36 ?_
  refine lv_istore (lv' := [(5, .int (iI (((σ 3 ((a * 3) + t)) - ((σ 14 0) * (σ 16 (a * 20 + b)))) - (nCut σ (a * 20 + b))))), (4, .int (iI (a * 20 + b))), (0, .ref (A 100)), (1, .int (iI a)), (2, .int (iI b)), (3, .int (iI t))]) hx hb dX1_given_37 hl (by decide) rfl (fun ls hl => ?_)
  refine lv_iload hx hb dX1_given_39 (lv_at hl 0 rfl) ?_
  refine lv_iconst (v := iI 0) hx hb dX1_given_41 rfl ?_
  refine r_mmax hx hb (by rw [hml]; exact hl.1.symm) hown (hts (.methodLink RX1 89 Lib.Math.max.name) (by decide +kernel)) (hts (.static Lib.Math.max.name) (by decide +kernel)) (hts (.initialized "java/lang/Math") (by decide +kernel)) (hts (.code Lib.Math.max.name Lib.Math.max.code 2 (some .int)) (by decide +kernel)) (Nat.le_of_ble_eq_true rfl) (Nat.le_of_ble_eq_true rfl) (Nat.le_of_ble_eq_true rfl) (Nat.le_of_ble_eq_true rfl) (by omega) (by omega) dX1_given_42 ?_
  have hm5 := mxZ_s (((σ 3 ((a * 3) + t)) - ((σ 14 0) * (σ 16 (a * 20 + b)))) - (nCut σ (a * 20 + b))) 0
  exact r_ret hx hb hr hlocks dX1_given_45 (by rfl)
theorem fl_X1_partLevel_61 : Cond.fieldLink RX1 61 "NoiseLamps$Noise" "pieces" "I" ∈ wsX1_partLevel := by decide +kernel
set_option maxHeartbeats 4000000 in
set_option maxRecDepth 100000 in
theorem c_X1_partLevel (l : Launch) (D : va_G) (cy : ClassId) (A : Nat → Nat) (σ : Nat → Int → Int) (b t : Int) (hI : invN σ) (hb2 : 0 ≤ b ∧ b < 20) (ht : 0 ≤ t ∧ t < 3) : MetR l yX1_partLevel wsX1_partLevel ({ frames := 2, cells := 0, slots := 0, locals := 49 } : Room) D cy (wN cy A σ) ([.ref (A 100), .int (iI b), .int (iI t)] : List Value) (nPart σ b t) := by
  refine met_R (cc := cX1_partLevel) (maxL := 5) (ret := (some .int)) (by decide) rfl (Nat.le_of_ble_eq_true rfl) ?_
  intro p e s m below meth c hx hb hr hml hts hown hlocks hP hK ls hl
  have hown : s.vm.findClass RX1 = some m.cls := hown
  have hl : lv_has ls 5 [(0, .ref (A 100)), (1, .int (iI b)), (2, .int (iI t))] := hl
  obtain ⟨hN0, hN4, hN8, hN14, hB1, hB2, hB3, hB5, hB6, hB7, hB9, hB10, hB11, hB12, hB13, hB15, hB16, hB17⟩ := id hI
  refine lv_iconst (v := iI 0) hx hb dX1_partLevel_0 rfl ?_
  refine lv_istore_n (lv' := [(3, .int (iI 0)), (0, .ref (A 100)), (1, .int (iI b)), (2, .int (iI t))]) hx hb dX1_partLevel_1 rfl hl (by decide) rfl (fun ls hl => ?_)
  refine lv_iconst (v := iI 0) hx hb dX1_partLevel_2 rfl ?_
  refine lv_istore (lv' := [(4, .int (iI 0)), (3, .int (iI 0)), (0, .ref (A 100)), (1, .int (iI b)), (2, .int (iI t))]) hx hb dX1_partLevel_3 hl (by decide) rfl (fun ls hl => ?_)
  have lp5_1 : ∀ (nlp5_1 : Nat) (i : Int) (g : Int) (ls : Array Slot), (0 ≤ i ∧ i ≤ σ 0 0) → (g = fo (fun j p => nJoin j (nGiven σ p b t)) 0 i) → (0 ≤ g ∧ g ≤ 1200 + 30 * i) → (σ 0 0 - i < (nlp5_1 : Int)) → lv_has ls 5 [(4, .int (iI i)), (3, .int (iI g)), (0, .ref (A 100)), (1, .int (iI b)), (2, .int (iI t))] → W p l e ({ frames := 2, cells := 0, slots := 0, locals := 49 } : Room) s m ([.ref (A 100), .int (iI b), .int (iI t)] : List Value).toArray below meth c s.heap [] 0 0 (MQ below (vp_Si (fun r => r = iI (nPart σ b t))) ([.ref (A 100), .int (iI b), .int (iI t)] : List Value).toArray s 0 0 (fun _ => False)) (F0 m 5 ls []) := by
    intro nlp5_1
    induction nlp5_1 with
    | zero => intro i g ls hi hg hgb hn hl; exact absurd hn (by omega)
    | succ nlp5_1 ihlp5_1 =>
      intro i g ls hi hg hgb hn hl
      refine lv_iload hx hb dX1_partLevel_5 (lv_at hl 0 rfl) ?_
      refine lv_aload_n hx hb dX1_partLevel_7 rfl (lv_at hl 2 rfl) ?_
      refine va_get (D := D) (ci := 1) (v := .int (iI (σ 0 0))) (C := RX1) (T := TX1) (N := 19) hx hb hts (fun _ h => List.mem_cons_of_mem _ (List.mem_append_right _ h)) hown hK hP 0 rfl rfl 0 (by decide) (hts _ fl_X1_partLevel_61) (fun _ h9 => h9) rfl dX1_partLevel_8 ?_
      refine r_icmp_ge (tgt := 33) hx hb dX1_partLevel_11 (by decide) (by omega) (by omega) (fun h2 => ?_) (fun h2 => ?_)
      · -- 11 to 33
        refine lv_iload_n hx hb dX1_partLevel_33 rfl (lv_at hl 1 rfl) ?_
        exact r_ret hx hb hr hlocks dX1_partLevel_34 (by rw [hg, show i = σ 0 0 from by omega]; rfl)
      · -- 11 to 14
        refine lv_iload_n hx hb dX1_partLevel_14 rfl (lv_at hl 1 rfl) ?_
        refine lv_aload_n hx hb dX1_partLevel_15 rfl (lv_at hl 2 rfl) ?_
        refine lv_iload hx hb dX1_partLevel_16 (lv_at hl 0 rfl) ?_
        refine lv_iload_n hx hb dX1_partLevel_18 rfl (lv_at hl 3 rfl) ?_
        refine lv_iload_n hx hb dX1_partLevel_19 rfl (lv_at hl 4 rfl) ?_
        refine r_calli (va_runV (As := [.int (iI i), .int (iI b), .int (iI t)]) (rest := [.int (iI g)]) ⟨hx, hb, hml, hown, hts⟩ (c_X1_given l D cy A σ i b t hI (by omega) (by omega) (by omega)) (cwV 3 hts gX1_partLevel_X1_given rfl rfl rfl (by decide +kernel) ⟨Nat.le_of_ble_eq_true rfl, Nat.le_of_ble_eq_true rfl⟩) (pv_ro (C := RX1) (T := TX1) (N := 19) (ci := 1) (q0 := 0) hP hK rfl rfl) rfl rfl hl.1 rfl (lv_room (Nat.le_of_ble_eq_true rfl)) dX1_partLevel_20 ⟨Nat.le_of_ble_eq_true rfl, Nat.le_of_ble_eq_true rfl⟩) ?_
        have hf3 := nGiven_bd hI i b t
        refine r_calli (va_runS (As := [.int (iI g), .int (iI (nGiven σ i b t))]) (rest := []) ⟨hx, hb, hml, hown, hts⟩ (c_X1_join l  g (nGiven σ i b t) (by omega) (by omega)) (va_cwS 2 hts gX1_partLevel_X1_join rfl rfl rfl (by decide +kernel) ⟨Nat.le_of_ble_eq_true rfl, Nat.le_of_ble_eq_true rfl⟩) ps_T rfl rfl hl.1 rfl (lv_room (Nat.le_of_ble_eq_true rfl)) dX1_partLevel_23 ⟨Nat.le_of_ble_eq_true rfl, Nat.le_of_ble_eq_true rfl⟩) ?_
        refine lv_istore_n (lv' := [(3, .int (iI (nJoin g (nGiven σ i b t)))), (4, .int (iI i)), (0, .ref (A 100)), (1, .int (iI b)), (2, .int (iI t))]) hx hb dX1_partLevel_26 rfl hl (by decide) rfl (fun ls hl => ?_)
        refine r_iinc (a := i) (b := (i + 1)) (lv2 := [(4, .int (iI (i + 1))), (3, .int (iI (nJoin g (nGiven σ i b t)))), (0, .ref (A 100)), (1, .int (iI b)), (2, .int (iI t))]) hx hb dX1_partLevel_27 hl (k := 1) rfl (by omega) (by decide) rfl (fun ls hl => ?_)
        refine lv_goto (tgt := 5) hx hb dX1_partLevel_30 (by decide) ?_
        exact ihlp5_1 (i + 1) (nJoin g (nGiven σ i b t)) ls (by omega) (by rw [fo_s _ _ (by omega), ← hg]) (by have q1 := nGiven_bd hI i b t; have q2 := nJoin_bd (a := g) (b := nGiven σ i b t) (X := 1200 + 30 * i) (by omega) (by omega); omega) (by omega) (lv_sub hl [0, 1, 2, 3, 4] rfl)
  exact lp5_1 _ 0 0 ls (by omega) rfl (by omega) (lt_tn _) (lv_sub hl [0, 1, 2, 3, 4] rfl)
theorem fl_X1_allDayLevel_45 : Cond.fieldLink RX1 45 "NoiseLamps$Noise" "malus" "[I" ∈ wsX1_allDayLevel := by decide +kernel
set_option maxHeartbeats 4000000 in
set_option maxRecDepth 100000 in
theorem c_X1_allDayLevel (l : Launch) (D : va_G) (cy : ClassId) (A : Nat → Nat) (σ : Nat → Int → Int) (b : Int) (hI : invN σ) (hb2 : 0 ≤ b ∧ b < 20) : MetR l yX1_allDayLevel wsX1_allDayLevel ({ frames := 3, cells := 0, slots := 0, locals := 73 } : Room) D cy (wN cy A σ) ([.ref (A 100), .int (iI b)] : List Value) (nDay σ b) := by
  refine met_R (cc := cX1_allDayLevel) (maxL := 5) (ret := (some .int)) (by decide) rfl (Nat.le_of_ble_eq_true rfl) ?_
  intro p e s m below meth c hx hb hr hml hts hown hlocks hP hK ls hl
  have hown : s.vm.findClass RX1 = some m.cls := hown
  have hl : lv_has ls 5 [(0, .ref (A 100)), (1, .int (iI b))] := hl
  obtain ⟨hN0, hN4, hN8, hN14, hB1, hB2, hB3, hB5, hB6, hB7, hB9, hB10, hB11, hB12, hB13, hB15, hB16, hB17⟩ := id hI
  refine lv_iconst (v := iI 0) hx hb dX1_allDayLevel_0 rfl ?_
  refine lv_istore_n (lv' := [(2, .int (iI 0)), (0, .ref (A 100)), (1, .int (iI b))]) hx hb dX1_allDayLevel_1 rfl hl (by decide) rfl (fun ls hl => ?_)
  refine lv_iconst (v := iI 0) hx hb dX1_allDayLevel_2 rfl ?_
  refine lv_istore_n (lv' := [(3, .int (iI 0)), (2, .int (iI 0)), (0, .ref (A 100)), (1, .int (iI b))]) hx hb dX1_allDayLevel_3 rfl hl (by decide) rfl (fun ls hl => ?_)
  have lp4_1 : ∀ (nlp4_1 : Nat) (i : Int) (g : Int) (ls : Array Slot), (0 ≤ i ∧ i ≤ 3) → (g = fo (nDayF σ b) 0 i) → (0 ≤ g ∧ g ≤ 1760) → (3 - i < (nlp4_1 : Int)) → lv_has ls 5 [(3, .int (iI i)), (2, .int (iI g)), (0, .ref (A 100)), (1, .int (iI b))] → W p l e ({ frames := 3, cells := 0, slots := 0, locals := 73 } : Room) s m ([.ref (A 100), .int (iI b)] : List Value).toArray below meth c s.heap [] 0 0 (MQ below (vp_Si (fun r => r = iI (nDay σ b))) ([.ref (A 100), .int (iI b)] : List Value).toArray s 0 0 (fun _ => False)) (F0 m 4 ls []) := by
    intro nlp4_1
    induction nlp4_1 with
    | zero => intro i g ls hi hg hgb hn hl; exact absurd hn (by omega)
    | succ nlp4_1 ihlp4_1 =>
      intro i g ls hi hg hgb hn hl
      refine lv_iload_n hx hb dX1_allDayLevel_4 rfl (lv_at hl 0 rfl) ?_
      refine lv_iconst (v := iI 3) hx hb dX1_allDayLevel_5 rfl ?_
      refine r_icmp_ge (tgt := 42) hx hb dX1_allDayLevel_6 (by decide) (by omega) (by omega) (fun h2 => ?_) (fun h2 => ?_)
      · -- 6 to 42
        refine lv_iload_n hx hb dX1_allDayLevel_42 rfl (lv_at hl 1 rfl) ?_
        exact r_ret hx hb hr hlocks dX1_allDayLevel_43 (by rw [hg, show i = 3 from by omega]; rfl)
      · -- 6 to 9
        refine lv_aload_n hx hb dX1_allDayLevel_9 rfl (lv_at hl 2 rfl) ?_
        refine lv_iload_n hx hb dX1_allDayLevel_10 rfl (lv_at hl 3 rfl) ?_
        refine lv_iload_n hx hb dX1_allDayLevel_11 rfl (lv_at hl 0 rfl) ?_
        refine r_calli (va_runV (As := [.int (iI b), .int (iI i)]) (rest := []) ⟨hx, hb, hml, hown, hts⟩ (c_X1_partLevel l D cy A σ b i hI (by omega) (by omega)) (cwV 2 hts gX1_allDayLevel_X1_partLevel rfl rfl rfl (by decide +kernel) ⟨Nat.le_of_ble_eq_true rfl, Nat.le_of_ble_eq_true rfl⟩) (pv_ro (C := RX1) (T := TX1) (N := 19) (ci := 1) (q0 := 0) hP hK rfl rfl) rfl rfl hl.1 rfl (lv_room (Nat.le_of_ble_eq_true rfl)) dX1_allDayLevel_12 ⟨Nat.le_of_ble_eq_true rfl, Nat.le_of_ble_eq_true rfl⟩) ?_
        have hf3 := nPart_bd hI b i
        refine lv_istore (lv' := [(4, .int (iI (nPart σ b i))), (3, .int (iI i)), (2, .int (iI g)), (0, .ref (A 100)), (1, .int (iI b))]) hx hb dX1_allDayLevel_15 hl (by decide) rfl (fun ls hl => ?_)
        refine lv_iload hx hb dX1_allDayLevel_17 (lv_at hl 0 rfl) ?_
        refine r_if_le (tgt := 36) hx hb dX1_allDayLevel_19 (by decide) (by omega) (fun h4 => ?_) (fun h4 => ?_)
        · -- 19 to 36
          refine r_iinc (a := i) (b := (i + 1)) (lv2 := [(3, .int (iI (i + 1))), (4, .int (iI (nPart σ b i))), (2, .int (iI g)), (0, .ref (A 100)), (1, .int (iI b))]) hx hb dX1_allDayLevel_36 hl (k := 1) rfl (by omega) (by decide) rfl (fun ls hl => ?_)
          refine lv_goto (tgt := 4) hx hb dX1_allDayLevel_39 (by decide) ?_
          exact ihlp4_1 (i + 1) g ls (by omega) (by rw [fo_s _ _ (by omega), ← hg]; unfold nDayF; first | rw [if_pos (by omega)] | rw [if_neg (by omega)]) (by omega) (by omega) (lv_sub hl [0, 2, 3, 4] rfl)
        · -- 19 to 22
          refine lv_iload_n hx hb dX1_allDayLevel_22 rfl (lv_at hl 2 rfl) ?_
          refine lv_iload hx hb dX1_allDayLevel_23 (lv_at hl 0 rfl) ?_
          refine lv_aload_n hx hb dX1_allDayLevel_25 rfl (lv_at hl 3 rfl) ?_
          refine va_get (D := D) (ci := 1) (v := .ref (A 15)) (C := RX1) (T := TX1) (N := 19) hx hb hts (fun _ h => List.mem_cons_of_mem _ (List.mem_append_right _ h)) hown hK hP 0 rfl rfl 15 (by decide) (hts _ fl_X1_allDayLevel_45) (fun _ h9 => h9) rfl dX1_allDayLevel_26 ?_
          refine lv_iload_n hx hb dX1_allDayLevel_29 rfl (lv_at hl 1 rfl) ?_
          refine r_iald hx hb hK hP 12 0 rfl rfl (Nat.le_of_ble_eq_true rfl) (by omega) dX1_allDayLevel_30 ?_
          have hv5 := hB15 i
          refine r_iadd hx hb dX1_allDayLevel_31 ?_
          refine r_mmax hx hb (by rw [hml]; exact hl.1.symm) hown (hts (.methodLink RX1 89 Lib.Math.max.name) (by decide +kernel)) (hts (.static Lib.Math.max.name) (by decide +kernel)) (hts (.initialized "java/lang/Math") (by decide +kernel)) (hts (.code Lib.Math.max.name Lib.Math.max.code 2 (some .int)) (by decide +kernel)) (Nat.le_of_ble_eq_true rfl) (Nat.le_of_ble_eq_true rfl) (Nat.le_of_ble_eq_true rfl) (Nat.le_of_ble_eq_true rfl) (by omega) (by omega) dX1_allDayLevel_32 ?_
          have hm6 := mxZ_s g ((nPart σ b i) + (σ 15 i))
          refine lv_istore_n (lv' := [(2, .int (iI (mxZ g ((nPart σ b i) + (σ 15 i))))), (4, .int (iI (nPart σ b i))), (3, .int (iI i)), (0, .ref (A 100)), (1, .int (iI b))]) hx hb dX1_allDayLevel_35 rfl hl (by decide) rfl (fun ls hl => ?_)
          refine r_iinc (a := i) (b := (i + 1)) (lv2 := [(3, .int (iI (i + 1))), (2, .int (iI (mxZ g ((nPart σ b i) + (σ 15 i))))), (4, .int (iI (nPart σ b i))), (0, .ref (A 100)), (1, .int (iI b))]) hx hb dX1_allDayLevel_36 hl (k := 2) rfl (by omega) (by decide) rfl (fun ls hl => ?_)
          refine lv_goto (tgt := 4) hx hb dX1_allDayLevel_39 (by decide) ?_
          exact ihlp4_1 (i + 1) (mxZ g ((nPart σ b i) + (σ 15 i))) ls (by omega) (by rw [fo_s _ _ (by omega), ← hg]; unfold nDayF; first | rw [if_pos (by omega)] | rw [if_neg (by omega)]) (by omega) (by omega) (lv_sub hl [0, 1, 3, 4] rfl)
  exact lp4_1 _ 0 0 ls (by omega) rfl (by omega) (lt_tn _) (lv_sub hl [0, 1, 2, 3] rfl)
theorem fl_X1_peopleAbove_64 : Cond.fieldLink RX1 64 "NoiseLamps$Noise" "houses" "I" ∈ wsX1_peopleAbove := by decide +kernel
theorem fl_X1_peopleAbove_27 : Cond.fieldLink RX1 27 "NoiseLamps$Noise" "housePeople" "[I" ∈ wsX1_peopleAbove := by decide +kernel
set_option maxHeartbeats 4000000 in
set_option maxRecDepth 100000 in
theorem c_X1_peopleAbove (l : Launch) (D : va_G) (cy : ClassId) (A : Nat → Nat) (σ : Nat → Int → Int) (b : Int) (hI : invN σ) (hb : I32 b) : MetR l yX1_peopleAbove wsX1_peopleAbove ({ frames := 4, cells := 0, slots := 0, locals := 97 } : Room) D cy (wN cy A σ) ([.ref (A 100), .int (iI b)] : List Value) (nPeople σ b) := by
  refine met_R (cc := cX1_peopleAbove) (maxL := 4) (ret := (some .int)) (by decide) rfl (Nat.le_of_ble_eq_true rfl) ?_
  intro p e s m below meth c hx hb hr hml hts hown hlocks hP hK ls hl
  have hown : s.vm.findClass RX1 = some m.cls := hown
  have hl : lv_has ls 4 [(0, .ref (A 100)), (1, .int (iI b))] := hl
  obtain ⟨hN0, hN4, hN8, hN14, hB1, hB2, hB3, hB5, hB6, hB7, hB9, hB10, hB11, hB12, hB13, hB15, hB16, hB17⟩ := id hI
  refine lv_iconst (v := iI 0) hx hb dX1_peopleAbove_0 rfl ?_
  refine lv_istore_n (lv' := [(2, .int (iI 0)), (0, .ref (A 100)), (1, .int (iI b))]) hx hb dX1_peopleAbove_1 rfl hl (by decide) rfl (fun ls hl => ?_)
  refine lv_iconst (v := iI 0) hx hb dX1_peopleAbove_2 rfl ?_
  refine lv_istore_n (lv' := [(3, .int (iI 0)), (2, .int (iI 0)), (0, .ref (A 100)), (1, .int (iI b))]) hx hb dX1_peopleAbove_3 rfl hl (by decide) rfl (fun ls hl => ?_)
  have lp4_1 : ∀ (nlp4_1 : Nat) (i : Int) (g : Int) (ls : Array Slot), (0 ≤ i ∧ i ≤ σ 4 0) → (g = fo (nPeopleF σ b) 0 i) → (σ 4 0 - i < (nlp4_1 : Int)) → lv_has ls 4 [(3, .int (iI i)), (2, .int (iI g)), (0, .ref (A 100)), (1, .int (iI b))] → W p l e ({ frames := 4, cells := 0, slots := 0, locals := 97 } : Room) s m ([.ref (A 100), .int (iI b)] : List Value).toArray below meth c s.heap [] 0 0 (MQ below (vp_Si (fun r => r = iI (nPeople σ b))) ([.ref (A 100), .int (iI b)] : List Value).toArray s 0 0 (fun _ => False)) (F0 m 4 ls []) := by
    intro nlp4_1
    induction nlp4_1 with
    | zero => intro i g ls hi hg hn hl; exact absurd hn (by omega)
    | succ nlp4_1 ihlp4_1 =>
      intro i g ls hi hg hn hl
      refine lv_iload_n hx hb dX1_peopleAbove_4 rfl (lv_at hl 0 rfl) ?_
      refine lv_aload_n hx hb dX1_peopleAbove_5 rfl (lv_at hl 2 rfl) ?_
      refine va_get (D := D) (ci := 1) (v := .int (iI (σ 4 0))) (C := RX1) (T := TX1) (N := 19) hx hb hts (fun _ h => List.mem_cons_of_mem _ (List.mem_append_right _ h)) hown hK hP 0 rfl rfl 4 (by decide) (hts _ fl_X1_peopleAbove_64) (fun _ h9 => h9) rfl dX1_peopleAbove_6 ?_
      refine r_icmp_ge (tgt := 36) hx hb dX1_peopleAbove_9 (by decide) (by omega) (by omega) (fun h2 => ?_) (fun h2 => ?_)
      · -- 9 to 36
        refine lv_iload_n hx hb dX1_peopleAbove_36 rfl (lv_at hl 1 rfl) ?_
        exact r_ret hx hb hr hlocks dX1_peopleAbove_37 (by rw [hg, show i = σ 4 0 from by omega]; rfl)
      · -- 9 to 12
        refine lv_aload_n hx hb dX1_peopleAbove_12 rfl (lv_at hl 2 rfl) ?_
        refine lv_iload_n hx hb dX1_peopleAbove_13 rfl (lv_at hl 0 rfl) ?_
        refine r_calli (va_runV (As := [.int (iI i)]) (rest := []) ⟨hx, hb, hml, hown, hts⟩ (c_X1_allDayLevel l D cy A σ i hI (by omega)) (cwV 1 hts gX1_peopleAbove_X1_allDayLevel rfl rfl rfl (by decide +kernel) ⟨Nat.le_of_ble_eq_true rfl, Nat.le_of_ble_eq_true rfl⟩) (pv_ro (C := RX1) (T := TX1) (N := 19) (ci := 1) (q0 := 0) hP hK rfl rfl) rfl rfl hl.1 rfl (lv_room (Nat.le_of_ble_eq_true rfl)) dX1_peopleAbove_14 ⟨Nat.le_of_ble_eq_true rfl, Nat.le_of_ble_eq_true rfl⟩) ?_
        have hf3 := nDay_bd hI i
        refine lv_iload_n hx hb dX1_peopleAbove_17 rfl (lv_at hl 3 rfl) ?_
        refine r_icmp_le (tgt := 30) hx hb dX1_peopleAbove_18 (by decide) (by omega) (by omega) (fun h4 => ?_) (fun h4 => ?_)
        · -- 18 to 30
          refine r_iinc (a := i) (b := (i + 1)) (lv2 := [(3, .int (iI (i + 1))), (2, .int (iI g)), (0, .ref (A 100)), (1, .int (iI b))]) hx hb dX1_peopleAbove_30 hl (k := 0) rfl (by omega) (by decide) rfl (fun ls hl => ?_)
          refine lv_goto (tgt := 4) hx hb dX1_peopleAbove_33 (by decide) ?_
          exact ihlp4_1 (i + 1) g ls (by omega) (by rw [fo_s _ _ (by omega), ← hg]; unfold nPeopleF; first | rw [if_pos (by omega)] | rw [if_neg (by omega)]) (by omega) (lv_sub hl [0, 1, 2, 3] rfl)
        · -- 18 to 21
          refine lv_iload_n hx hb dX1_peopleAbove_21 rfl (lv_at hl 1 rfl) ?_
          refine lv_aload_n hx hb dX1_peopleAbove_22 rfl (lv_at hl 2 rfl) ?_
          refine va_get (D := D) (ci := 1) (v := .ref (A 7)) (C := RX1) (T := TX1) (N := 19) hx hb hts (fun _ h => List.mem_cons_of_mem _ (List.mem_append_right _ h)) hown hK hP 0 rfl rfl 7 (by decide) (hts _ fl_X1_peopleAbove_27) (fun _ h9 => h9) rfl dX1_peopleAbove_23 ?_
          refine lv_iload_n hx hb dX1_peopleAbove_26 rfl (lv_at hl 0 rfl) ?_
          refine r_iald hx hb hK hP 6 0 rfl rfl (Nat.le_of_ble_eq_true rfl) (by omega) dX1_peopleAbove_27 ?_
          have hv5 := hB7 i
          refine r_iadd hx hb dX1_peopleAbove_28 ?_
          refine lv_istore_n (lv' := [(2, .int (iI (g + (σ 7 i)))), (3, .int (iI i)), (0, .ref (A 100)), (1, .int (iI b))]) hx hb dX1_peopleAbove_29 rfl hl (by decide) rfl (fun ls hl => ?_)
          refine r_iinc (a := i) (b := (i + 1)) (lv2 := [(3, .int (iI (i + 1))), (2, .int (iI (g + (σ 7 i)))), (0, .ref (A 100)), (1, .int (iI b))]) hx hb dX1_peopleAbove_30 hl (k := 1) rfl (by omega) (by decide) rfl (fun ls hl => ?_)
          refine lv_goto (tgt := 4) hx hb dX1_peopleAbove_33 (by decide) ?_
          exact ihlp4_1 (i + 1) (g + (σ 7 i)) ls (by omega) (by rw [fo_s _ _ (by omega), ← hg]; unfold nPeopleF; first | rw [if_pos (by omega)] | rw [if_neg (by omega)]) (by omega) (lv_sub hl [0, 1, 2, 3] rfl)
  exact lp4_1 _ 0 0 ls (by omega) rfl (lt_tn _) (lv_sub hl [0, 1, 2, 3] rfl)
theorem fl_X1_loudestPiece_61 : Cond.fieldLink RX1 61 "NoiseLamps$Noise" "pieces" "I" ∈ wsX1_loudestPiece := by decide +kernel
set_option maxHeartbeats 4000000 in
set_option maxRecDepth 100000 in
theorem c_X1_loudestPiece (l : Launch) (D : va_G) (cy : ClassId) (A : Nat → Nat) (σ : Nat → Int → Int) (b t : Int) (hI : invN σ) (hb2 : 0 ≤ b ∧ b < 20) (ht : 0 ≤ t ∧ t < 3) : MetR l yX1_loudestPiece wsX1_loudestPiece ({ frames := 2, cells := 0, slots := 0, locals := 49 } : Room) D cy (wN cy A σ) ([.ref (A 100), .int (iI b), .int (iI t)] : List Value) (nLoud σ b t) := by
  refine met_R (cc := cX1_loudestPiece) (maxL := 7) (ret := (some .int)) (by decide) rfl (Nat.le_of_ble_eq_true rfl) ?_
  intro p e s m below meth c hx hb hr hml hts hown hlocks hP hK ls hl
  have hown : s.vm.findClass RX1 = some m.cls := hown
  have hl : lv_has ls 7 [(0, .ref (A 100)), (1, .int (iI b)), (2, .int (iI t))] := hl
  obtain ⟨hN0, hN4, hN8, hN14, hB1, hB2, hB3, hB5, hB6, hB7, hB9, hB10, hB11, hB12, hB13, hB15, hB16, hB17⟩ := id hI
  refine lv_iconst (v := iI (-1)) hx hb dX1_loudestPiece_0 rfl ?_
  refine lv_istore_n (lv' := [(3, .int (iI (-1))), (0, .ref (A 100)), (1, .int (iI b)), (2, .int (iI t))]) hx hb dX1_loudestPiece_1 rfl hl (by decide) rfl (fun ls hl => ?_)
  refine lv_iconst (v := iI 0) hx hb dX1_loudestPiece_2 rfl ?_
  refine lv_istore (lv' := [(4, .int (iI 0)), (3, .int (iI (-1))), (0, .ref (A 100)), (1, .int (iI b)), (2, .int (iI t))]) hx hb dX1_loudestPiece_3 hl (by decide) rfl (fun ls hl => ?_)
  refine lv_iconst (v := iI 0) hx hb dX1_loudestPiece_5 rfl ?_
  refine lv_istore (lv' := [(5, .int (iI 0)), (4, .int (iI 0)), (3, .int (iI (-1))), (0, .ref (A 100)), (1, .int (iI b)), (2, .int (iI t))]) hx hb dX1_loudestPiece_6 hl (by decide) rfl (fun ls hl => ?_)
  have lp8_1 : ∀ (nlp8_1 : Nat) (i : Int) (g : Int) (q : Int) (ls : Array Slot), (0 ≤ i ∧ i ≤ σ 0 0) → ((q, g) = fo (nLoudF σ b t) (-1, 0) i) → (0 ≤ g ∧ g ≤ 1200) → (σ 0 0 - i < (nlp8_1 : Int)) → lv_has ls 7 [(5, .int (iI i)), (4, .int (iI g)), (3, .int (iI q)), (0, .ref (A 100)), (1, .int (iI b)), (2, .int (iI t))] → W p l e ({ frames := 2, cells := 0, slots := 0, locals := 49 } : Room) s m ([.ref (A 100), .int (iI b), .int (iI t)] : List Value).toArray below meth c s.heap [] 0 0 (MQ below (vp_Si (fun r => r = iI (nLoud σ b t))) ([.ref (A 100), .int (iI b), .int (iI t)] : List Value).toArray s 0 0 (fun _ => False)) (F0 m 8 ls []) := by
    intro nlp8_1
    induction nlp8_1 with
    | zero => intro i g q ls hi hg hgb hn hl; exact absurd hn (by omega)
    | succ nlp8_1 ihlp8_1 =>
      intro i g q ls hi hg hgb hn hl
      refine lv_iload hx hb dX1_loudestPiece_8 (lv_at hl 0 rfl) ?_
      refine lv_aload_n hx hb dX1_loudestPiece_10 rfl (lv_at hl 3 rfl) ?_
      refine va_get (D := D) (ci := 1) (v := .int (iI (σ 0 0))) (C := RX1) (T := TX1) (N := 19) hx hb hts (fun _ h => List.mem_cons_of_mem _ (List.mem_append_right _ h)) hown hK hP 0 rfl rfl 0 (by decide) (hts _ fl_X1_loudestPiece_61) (fun _ h9 => h9) rfl dX1_loudestPiece_11 ?_
      refine r_icmp_ge (tgt := 47) hx hb dX1_loudestPiece_14 (by decide) (by omega) (by omega) (fun h2 => ?_) (fun h2 => ?_)
      · -- 14 to 47
        refine lv_iload_n hx hb dX1_loudestPiece_47 rfl (lv_at hl 2 rfl) ?_
        exact r_ret hx hb hr hlocks dX1_loudestPiece_48 (by unfold nLoud; rw [show σ 0 0 = i from by omega, ← hg])
      · -- 14 to 17
        refine lv_aload_n hx hb dX1_loudestPiece_17 rfl (lv_at hl 3 rfl) ?_
        refine lv_iload hx hb dX1_loudestPiece_18 (lv_at hl 0 rfl) ?_
        refine lv_iload_n hx hb dX1_loudestPiece_20 rfl (lv_at hl 4 rfl) ?_
        refine lv_iload_n hx hb dX1_loudestPiece_21 rfl (lv_at hl 5 rfl) ?_
        refine r_calli (va_runV (As := [.int (iI i), .int (iI b), .int (iI t)]) (rest := []) ⟨hx, hb, hml, hown, hts⟩ (c_X1_given l D cy A σ i b t hI (by omega) (by omega) (by omega)) (cwV 3 hts gX1_loudestPiece_X1_given rfl rfl rfl (by decide +kernel) ⟨Nat.le_of_ble_eq_true rfl, Nat.le_of_ble_eq_true rfl⟩) (pv_ro (C := RX1) (T := TX1) (N := 19) (ci := 1) (q0 := 0) hP hK rfl rfl) rfl rfl hl.1 rfl (lv_room (Nat.le_of_ble_eq_true rfl)) dX1_loudestPiece_22 ⟨Nat.le_of_ble_eq_true rfl, Nat.le_of_ble_eq_true rfl⟩) ?_
        have hf3 := nGiven_bd hI i b t
        refine lv_istore (lv' := [(6, .int (iI (nGiven σ i b t))), (5, .int (iI i)), (4, .int (iI g)), (3, .int (iI q)), (0, .ref (A 100)), (1, .int (iI b)), (2, .int (iI t))]) hx hb dX1_loudestPiece_25 hl (by decide) rfl (fun ls hl => ?_)
        refine lv_iload hx hb dX1_loudestPiece_27 (lv_at hl 0 rfl) ?_
        refine lv_iload hx hb dX1_loudestPiece_29 (lv_at hl 2 rfl) ?_
        refine r_icmp_le (tgt := 41) hx hb dX1_loudestPiece_31 (by decide) (by omega) (by omega) (fun h4 => ?_) (fun h4 => ?_)
        · -- 31 to 41
          refine r_iinc (a := i) (b := (i + 1)) (lv2 := [(5, .int (iI (i + 1))), (6, .int (iI (nGiven σ i b t))), (4, .int (iI g)), (3, .int (iI q)), (0, .ref (A 100)), (1, .int (iI b)), (2, .int (iI t))]) hx hb dX1_loudestPiece_41 hl (k := 1) rfl (by omega) (by decide) rfl (fun ls hl => ?_)
          refine lv_goto (tgt := 8) hx hb dX1_loudestPiece_44 (by decide) ?_
          exact ihlp8_1 (i + 1) g q ls (by omega) (by rw [fo_s _ _ (by omega), ← hg]; unfold nLoudF; first | rw [if_pos (by show _ < _; omega)] | rw [if_neg (by show ¬ _ < _; omega)]) (by omega) (by omega) (lv_sub hl [0, 2, 3, 4, 5, 6] rfl)
        · -- 31 to 34
          refine lv_iload hx hb dX1_loudestPiece_34 (lv_at hl 0 rfl) ?_
          refine lv_istore (lv' := [(4, .int (iI (nGiven σ i b t))), (6, .int (iI (nGiven σ i b t))), (5, .int (iI i)), (3, .int (iI q)), (0, .ref (A 100)), (1, .int (iI b)), (2, .int (iI t))]) hx hb dX1_loudestPiece_36 hl (by decide) rfl (fun ls hl => ?_)
          refine lv_iload hx hb dX1_loudestPiece_38 (lv_at hl 2 rfl) ?_
          refine lv_istore_n (lv' := [(3, .int (iI i)), (4, .int (iI (nGiven σ i b t))), (6, .int (iI (nGiven σ i b t))), (5, .int (iI i)), (0, .ref (A 100)), (1, .int (iI b)), (2, .int (iI t))]) hx hb dX1_loudestPiece_40 rfl hl (by decide) rfl (fun ls hl => ?_)
          refine r_iinc (a := i) (b := (i + 1)) (lv2 := [(5, .int (iI (i + 1))), (3, .int (iI i)), (4, .int (iI (nGiven σ i b t))), (6, .int (iI (nGiven σ i b t))), (0, .ref (A 100)), (1, .int (iI b)), (2, .int (iI t))]) hx hb dX1_loudestPiece_41 hl (k := 3) rfl (by omega) (by decide) rfl (fun ls hl => ?_)
          refine lv_goto (tgt := 8) hx hb dX1_loudestPiece_44 (by decide) ?_
          exact ihlp8_1 (i + 1) (nGiven σ i b t) i ls (by omega) (by rw [fo_s _ _ (by omega), ← hg]; unfold nLoudF; first | rw [if_pos (by show _ < _; omega)] | rw [if_neg (by show ¬ _ < _; omega)]) (by omega) (by omega) (lv_sub hl [0, 2, 1, 4, 5, 6] rfl)
  exact lp8_1 _ 0 0 (-1) ls (by omega) rfl (by omega) (lt_tn _) (lv_sub hl [0, 1, 2, 3, 4, 5] rfl)
theorem fl_X1_noneAbove_64 : Cond.fieldLink RX1 64 "NoiseLamps$Noise" "houses" "I" ∈ wsX1_noneAbove := by decide +kernel
set_option maxHeartbeats 4000000 in
set_option maxRecDepth 100000 in
theorem c_X1_noneAbove (l : Launch) (D : va_G) (cy : ClassId) (A : Nat → Nat) (σ : Nat → Int → Int) (b : Int) (hI : invN σ) (hb : I32 b) : MetR l yX1_noneAbove wsX1_noneAbove ({ frames := 4, cells := 0, slots := 0, locals := 97 } : Room) D cy (wN cy A σ) ([.ref (A 100), .int (iI b)] : List Value) (nNone σ b) := by
  refine met_R (cc := cX1_noneAbove) (maxL := 3) (ret := (some .boolean)) (by decide) rfl (Nat.le_of_ble_eq_true rfl) ?_
  intro p e s m below meth c hx hb hr hml hts hown hlocks hP hK ls hl
  have hown : s.vm.findClass RX1 = some m.cls := hown
  have hl : lv_has ls 3 [(0, .ref (A 100)), (1, .int (iI b))] := hl
  obtain ⟨hN0, hN4, hN8, hN14, hB1, hB2, hB3, hB5, hB6, hB7, hB9, hB10, hB11, hB12, hB13, hB15, hB16, hB17⟩ := id hI
  refine lv_iconst (v := iI 0) hx hb dX1_noneAbove_0 rfl ?_
  refine lv_istore_n (lv' := [(2, .int (iI 0)), (0, .ref (A 100)), (1, .int (iI b))]) hx hb dX1_noneAbove_1 rfl hl (by decide) rfl (fun ls hl => ?_)
  have lp2_1 : ∀ (nlp2_1 : Nat) (i : Int) (ls : Array Slot), (0 ≤ i ∧ i ≤ σ 4 0) → (nNone σ b = ft (fun h => decide (b < nDay σ h)) (fun _ => 0) 1 i (σ 4 0)) → (σ 4 0 - i < (nlp2_1 : Int)) → lv_has ls 3 [(2, .int (iI i)), (0, .ref (A 100)), (1, .int (iI b))] → W p l e ({ frames := 4, cells := 0, slots := 0, locals := 97 } : Room) s m ([.ref (A 100), .int (iI b)] : List Value).toArray below meth c s.heap [] 0 0 (MQ below (vp_Si (fun r => r = iI (nNone σ b))) ([.ref (A 100), .int (iI b)] : List Value).toArray s 0 0 (fun _ => False)) (F0 m 2 ls []) := by
    intro nlp2_1
    induction nlp2_1 with
    | zero => intro i ls hi hg hn hl; exact absurd hn (by omega)
    | succ nlp2_1 ihlp2_1 =>
      intro i ls hi hg hn hl
      refine lv_iload_n hx hb dX1_noneAbove_2 rfl (lv_at hl 0 rfl) ?_
      refine lv_aload_n hx hb dX1_noneAbove_3 rfl (lv_at hl 1 rfl) ?_
      refine va_get (D := D) (ci := 1) (v := .int (iI (σ 4 0))) (C := RX1) (T := TX1) (N := 19) hx hb hts (fun _ h => List.mem_cons_of_mem _ (List.mem_append_right _ h)) hown hK hP 0 rfl rfl 4 (by decide) (hts _ fl_X1_noneAbove_64) (fun _ h9 => h9) rfl dX1_noneAbove_4 ?_
      refine r_icmp_ge (tgt := 27) hx hb dX1_noneAbove_7 (by decide) (by omega) (by omega) (fun h2 => ?_) (fun h2 => ?_)
      · -- 7 to 27
        refine lv_iconst (v := iI 1) hx hb dX1_noneAbove_27 rfl ?_
        exact r_retZ hx hb hr hlocks dX1_noneAbove_28 (zn_of (by omega)) (by rw [hg, ft_end _ _ _ (by omega)])
      · -- 7 to 10
        refine lv_aload_n hx hb dX1_noneAbove_10 rfl (lv_at hl 1 rfl) ?_
        refine lv_iload_n hx hb dX1_noneAbove_11 rfl (lv_at hl 0 rfl) ?_
        refine r_calli (va_runV (As := [.int (iI i)]) (rest := []) ⟨hx, hb, hml, hown, hts⟩ (c_X1_allDayLevel l D cy A σ i hI (by omega)) (cwV 1 hts gX1_noneAbove_X1_allDayLevel rfl rfl rfl (by decide +kernel) ⟨Nat.le_of_ble_eq_true rfl, Nat.le_of_ble_eq_true rfl⟩) (pv_ro (C := RX1) (T := TX1) (N := 19) (ci := 1) (q0 := 0) hP hK rfl rfl) rfl rfl hl.1 rfl (lv_room (Nat.le_of_ble_eq_true rfl)) dX1_noneAbove_12 ⟨Nat.le_of_ble_eq_true rfl, Nat.le_of_ble_eq_true rfl⟩) ?_
        have hf3 := nDay_bd hI i
        refine lv_iload_n hx hb dX1_noneAbove_15 rfl (lv_at hl 2 rfl) ?_
        refine r_icmp_le (tgt := 21) hx hb dX1_noneAbove_16 (by decide) (by omega) (by omega) (fun h4 => ?_) (fun h4 => ?_)
        · -- 16 to 21
          refine r_iinc (a := i) (b := (i + 1)) (lv2 := [(2, .int (iI (i + 1))), (0, .ref (A 100)), (1, .int (iI b))]) hx hb dX1_noneAbove_21 hl (k := 0) rfl (by omega) (by decide) rfl (fun ls hl => ?_)
          refine lv_goto (tgt := 2) hx hb dX1_noneAbove_24 (by decide) ?_
          exact ihlp2_1 (i + 1) ls (by omega) (by rw [hg, ft_miss _ _ _ (by omega) (decide_eq_false (by omega))]) (by omega) (lv_sub hl [0, 1, 2] rfl)
        · -- 16 to 19
          refine lv_iconst (v := iI 0) hx hb dX1_noneAbove_19 rfl ?_
          exact r_retZ hx hb hr hlocks dX1_noneAbove_20 (zn_of (by omega)) (by rw [hg, ft_hit _ _ _ (by omega) (decide_eq_true (by omega))])
  exact lp2_1 _ 0 ls (by omega) rfl (lt_tn _) (lv_sub hl [0, 1, 2] rfl)
theorem fl_X1_housesAhead_64 : Cond.fieldLink RX1 64 "NoiseLamps$Noise" "houses" "I" ∈ wsX1_housesAhead := by decide +kernel
theorem fl_X1_housesAhead_54 : Cond.fieldLink RX1 54 "NoiseLamps$Noise" "allDayLevels" "[I" ∈ wsX1_housesAhead := by decide +kernel
set_option maxHeartbeats 4000000 in
set_option maxRecDepth 100000 in
theorem c_X1_housesAhead (l : Launch) (D : va_G) (cy : ClassId) (A : Nat → Nat) (σ : Nat → Int → Int) (b : Int) (hI : invN σ) (hb2 : 0 ≤ b ∧ b < 20) (hd : ∀ k, I32 (σ 18 k)) : MetR l yX1_housesAhead wsX1_housesAhead ({ frames := 0, cells := 0, slots := 0, locals := 0 } : Room) D cy (wN cy A σ) ([.ref (A 100), .int (iI b)] : List Value) (nAhead (σ 18) (σ 4 0) b) := by
  refine met_R (cc := cX1_housesAhead) (maxL := 5) (ret := (some .int)) (by decide) rfl (Nat.le_of_ble_eq_true rfl) ?_
  intro p e s m below meth c hx hb hr hml hts hown hlocks hP hK ls hl
  have hown : s.vm.findClass RX1 = some m.cls := hown
  have hl : lv_has ls 5 [(0, .ref (A 100)), (1, .int (iI b))] := hl
  obtain ⟨hN0, hN4, hN8, hN14, hB1, hB2, hB3, hB5, hB6, hB7, hB9, hB10, hB11, hB12, hB13, hB15, hB16, hB17⟩ := id hI
  refine lv_iconst (v := iI 0) hx hb dX1_housesAhead_0 rfl ?_
  refine lv_istore_n (lv' := [(2, .int (iI 0)), (0, .ref (A 100)), (1, .int (iI b))]) hx hb dX1_housesAhead_1 rfl hl (by decide) rfl (fun ls hl => ?_)
  refine lv_iconst (v := iI 0) hx hb dX1_housesAhead_2 rfl ?_
  refine lv_istore_n (lv' := [(3, .int (iI 0)), (2, .int (iI 0)), (0, .ref (A 100)), (1, .int (iI b))]) hx hb dX1_housesAhead_3 rfl hl (by decide) rfl (fun ls hl => ?_)
  have lp4_1 : ∀ (nlp4_1 : Nat) (i : Int) (g : Int) (ls : Array Slot), (0 ≤ i ∧ i ≤ σ 4 0) → (g = fo (nAheadF (σ 18) b) 0 i) → (σ 4 0 - i < (nlp4_1 : Int)) → lv_has ls 5 [(3, .int (iI i)), (2, .int (iI g)), (0, .ref (A 100)), (1, .int (iI b))] → W p l e ({ frames := 0, cells := 0, slots := 0, locals := 0 } : Room) s m ([.ref (A 100), .int (iI b)] : List Value).toArray below meth c s.heap [] 0 0 (MQ below (vp_Si (fun r => r = iI (nAhead (σ 18) (σ 4 0) b))) ([.ref (A 100), .int (iI b)] : List Value).toArray s 0 0 (fun _ => False)) (F0 m 4 ls []) := by
    intro nlp4_1
    induction nlp4_1 with
    | zero => intro i g ls hi hg hn hl; exact absurd hn (by omega)
    | succ nlp4_1 ihlp4_1 =>
      intro i g ls hi hg hn hl
      refine lv_iload_n hx hb dX1_housesAhead_4 rfl (lv_at hl 0 rfl) ?_
      refine lv_aload_n hx hb dX1_housesAhead_5 rfl (lv_at hl 2 rfl) ?_
      refine va_get (D := D) (ci := 1) (v := .int (iI (σ 4 0))) (C := RX1) (T := TX1) (N := 19) hx hb hts (fun _ h => List.mem_cons_of_mem _ (List.mem_append_right _ h)) hown hK hP 0 rfl rfl 4 (by decide) (hts _ fl_X1_housesAhead_64) (fun _ h9 => h9) rfl dX1_housesAhead_6 ?_
      refine r_icmp_ge (tgt := 68) hx hb dX1_housesAhead_9 (by decide) (by omega) (by omega) (fun h2 => ?_) (fun h2 => ?_)
      · -- 9 to 68
        refine lv_iload_n hx hb dX1_housesAhead_68 rfl (lv_at hl 1 rfl) ?_
        exact r_ret hx hb hr hlocks dX1_housesAhead_69 (by rw [hg, show i = σ 4 0 from by omega]; rfl)
      · -- 9 to 12
        refine lv_aload_n hx hb dX1_housesAhead_12 rfl (lv_at hl 2 rfl) ?_
        refine va_get (D := D) (ci := 1) (v := .ref (A 18)) (C := RX1) (T := TX1) (N := 19) hx hb hts (fun _ h => List.mem_cons_of_mem _ (List.mem_append_right _ h)) hown hK hP 0 rfl rfl 18 (by decide) (hts _ fl_X1_housesAhead_54) (fun _ h9 => h9) rfl dX1_housesAhead_13 ?_
        refine lv_iload_n hx hb dX1_housesAhead_16 rfl (lv_at hl 0 rfl) ?_
        have hv3 := hd (i)
        refine r_iald hx hb hK hP 15 0 rfl rfl (Nat.le_of_ble_eq_true rfl) (by omega) dX1_housesAhead_17 ?_
        refine lv_aload_n hx hb dX1_housesAhead_18 rfl (lv_at hl 2 rfl) ?_
        refine va_get (D := D) (ci := 1) (v := .ref (A 18)) (C := RX1) (T := TX1) (N := 19) hx hb hts (fun _ h => List.mem_cons_of_mem _ (List.mem_append_right _ h)) hown hK hP 0 rfl rfl 18 (by decide) (hts _ fl_X1_housesAhead_54) (fun _ h9 => h9) rfl dX1_housesAhead_19 ?_
        refine lv_iload_n hx hb dX1_housesAhead_22 rfl (lv_at hl 3 rfl) ?_
        have hv4 := hd (b)
        refine r_iald hx hb hK hP 15 0 rfl rfl (Nat.le_of_ble_eq_true rfl) (by omega) dX1_housesAhead_23 ?_
        refine r_icmp_ne (tgt := 36) hx hb dX1_housesAhead_24 (by decide) (by omega) (by omega) (fun h5 => ?_) (fun h5 => ?_)
        · -- 24 to 36
          refine lv_iconst (v := iI 0) hx hb dX1_housesAhead_36 rfl ?_
          refine lv_istore (lv' := [(4, .int (iI 0)), (3, .int (iI i)), (2, .int (iI g)), (0, .ref (A 100)), (1, .int (iI b))]) hx hb dX1_housesAhead_37 hl (by decide) rfl (fun ls hl => ?_)
          refine lv_aload_n hx hb dX1_housesAhead_39 rfl (lv_at hl 3 rfl) ?_
          refine va_get (D := D) (ci := 1) (v := .ref (A 18)) (C := RX1) (T := TX1) (N := 19) hx hb hts (fun _ h => List.mem_cons_of_mem _ (List.mem_append_right _ h)) hown hK hP 0 rfl rfl 18 (by decide) (hts _ fl_X1_housesAhead_54) (fun _ h9 => h9) rfl dX1_housesAhead_40 ?_
          refine lv_iload_n hx hb dX1_housesAhead_43 rfl (lv_at hl 1 rfl) ?_
          have hv6 := hd (i)
          refine r_iald hx hb hK hP 15 0 rfl rfl (Nat.le_of_ble_eq_true rfl) (by omega) dX1_housesAhead_44 ?_
          refine lv_aload_n hx hb dX1_housesAhead_45 rfl (lv_at hl 3 rfl) ?_
          refine va_get (D := D) (ci := 1) (v := .ref (A 18)) (C := RX1) (T := TX1) (N := 19) hx hb hts (fun _ h => List.mem_cons_of_mem _ (List.mem_append_right _ h)) hown hK hP 0 rfl rfl 18 (by decide) (hts _ fl_X1_housesAhead_54) (fun _ h9 => h9) rfl dX1_housesAhead_46 ?_
          refine lv_iload_n hx hb dX1_housesAhead_49 rfl (lv_at hl 4 rfl) ?_
          have hv7 := hd (b)
          refine r_iald hx hb hK hP 15 0 rfl rfl (Nat.le_of_ble_eq_true rfl) (by omega) dX1_housesAhead_50 ?_
          refine r_icmp_gt (tgt := 59) hx hb dX1_housesAhead_51 (by decide) (by omega) (by omega) (fun h8 => ?_) (fun h8 => ?_)
          · -- 51 to 59
            refine r_iinc (a := g) (b := (g + 1)) (lv2 := [(2, .int (iI (g + 1))), (4, .int (iI 0)), (3, .int (iI i)), (0, .ref (A 100)), (1, .int (iI b))]) hx hb dX1_housesAhead_59 hl (k := 2) rfl (by omega) (by decide) rfl (fun ls hl => ?_)
            refine r_iinc (a := i) (b := (i + 1)) (lv2 := [(3, .int (iI (i + 1))), (2, .int (iI (g + 1))), (4, .int (iI 0)), (0, .ref (A 100)), (1, .int (iI b))]) hx hb dX1_housesAhead_62 hl (k := 2) rfl (by omega) (by decide) rfl (fun ls hl => ?_)
            refine lv_goto (tgt := 4) hx hb dX1_housesAhead_65 (by decide) ?_
            exact ihlp4_1 (i + 1) (g + 1) ls (by omega) (by rw [fo_s _ _ (by omega), ← hg]; unfold nAheadF; first | rw [if_pos (by omega)] | rw [if_neg (by omega)]) (by omega) (lv_sub hl [0, 1, 3, 4] rfl)
          · -- 51 to 54
            refine lv_iload hx hb dX1_housesAhead_54 (lv_at hl 0 rfl) ?_
            refine r_if_eq (tgt := 62) hx hb dX1_housesAhead_56 (by decide) (by omega) (fun _ => ?_) (fun h => absurd h (by decide))
            refine r_iinc (a := i) (b := (i + 1)) (lv2 := [(3, .int (iI (i + 1))), (4, .int (iI 0)), (2, .int (iI g)), (0, .ref (A 100)), (1, .int (iI b))]) hx hb dX1_housesAhead_62 hl (k := 1) rfl (by omega) (by decide) rfl (fun ls hl => ?_)
            refine lv_goto (tgt := 4) hx hb dX1_housesAhead_65 (by decide) ?_
            exact ihlp4_1 (i + 1) g ls (by omega) (by rw [fo_s _ _ (by omega), ← hg]; unfold nAheadF; first | rw [if_pos (by omega)] | rw [if_neg (by omega)]) (by omega) (lv_sub hl [0, 2, 3, 4] rfl)
        · -- 24 to 27
          refine lv_iload_n hx hb dX1_housesAhead_27 rfl (lv_at hl 0 rfl) ?_
          refine lv_iload_n hx hb dX1_housesAhead_28 rfl (lv_at hl 3 rfl) ?_
          refine r_icmp_ge (tgt := 36) hx hb dX1_housesAhead_29 (by decide) (by omega) (by omega) (fun h9 => ?_) (fun h9 => ?_)
          · -- 29 to 36
            refine lv_iconst (v := iI 0) hx hb dX1_housesAhead_36 rfl ?_
            refine lv_istore (lv' := [(4, .int (iI 0)), (3, .int (iI i)), (2, .int (iI g)), (0, .ref (A 100)), (1, .int (iI b))]) hx hb dX1_housesAhead_37 hl (by decide) rfl (fun ls hl => ?_)
            refine lv_aload_n hx hb dX1_housesAhead_39 rfl (lv_at hl 3 rfl) ?_
            refine va_get (D := D) (ci := 1) (v := .ref (A 18)) (C := RX1) (T := TX1) (N := 19) hx hb hts (fun _ h => List.mem_cons_of_mem _ (List.mem_append_right _ h)) hown hK hP 0 rfl rfl 18 (by decide) (hts _ fl_X1_housesAhead_54) (fun _ h9 => h9) rfl dX1_housesAhead_40 ?_
            refine lv_iload_n hx hb dX1_housesAhead_43 rfl (lv_at hl 1 rfl) ?_
            have hv10 := hd (i)
            refine r_iald hx hb hK hP 15 0 rfl rfl (Nat.le_of_ble_eq_true rfl) (by omega) dX1_housesAhead_44 ?_
            refine lv_aload_n hx hb dX1_housesAhead_45 rfl (lv_at hl 3 rfl) ?_
            refine va_get (D := D) (ci := 1) (v := .ref (A 18)) (C := RX1) (T := TX1) (N := 19) hx hb hts (fun _ h => List.mem_cons_of_mem _ (List.mem_append_right _ h)) hown hK hP 0 rfl rfl 18 (by decide) (hts _ fl_X1_housesAhead_54) (fun _ h9 => h9) rfl dX1_housesAhead_46 ?_
            refine lv_iload_n hx hb dX1_housesAhead_49 rfl (lv_at hl 4 rfl) ?_
            have hv11 := hd (b)
            refine r_iald hx hb hK hP 15 0 rfl rfl (Nat.le_of_ble_eq_true rfl) (by omega) dX1_housesAhead_50 ?_
            refine r_icmp_gt (tgt := 59) hx hb dX1_housesAhead_51 (by decide) (by omega) (by omega) (fun h12 => ?_) (fun h12 => ?_)
            · -- 51 to 59
              refine r_iinc (a := g) (b := (g + 1)) (lv2 := [(2, .int (iI (g + 1))), (4, .int (iI 0)), (3, .int (iI i)), (0, .ref (A 100)), (1, .int (iI b))]) hx hb dX1_housesAhead_59 hl (k := 2) rfl (by omega) (by decide) rfl (fun ls hl => ?_)
              refine r_iinc (a := i) (b := (i + 1)) (lv2 := [(3, .int (iI (i + 1))), (2, .int (iI (g + 1))), (4, .int (iI 0)), (0, .ref (A 100)), (1, .int (iI b))]) hx hb dX1_housesAhead_62 hl (k := 2) rfl (by omega) (by decide) rfl (fun ls hl => ?_)
              refine lv_goto (tgt := 4) hx hb dX1_housesAhead_65 (by decide) ?_
              exact ihlp4_1 (i + 1) (g + 1) ls (by omega) (by rw [fo_s _ _ (by omega), ← hg]; unfold nAheadF; first | rw [if_pos (by omega)] | rw [if_neg (by omega)]) (by omega) (lv_sub hl [0, 1, 3, 4] rfl)
            · -- 51 to 54
              refine lv_iload hx hb dX1_housesAhead_54 (lv_at hl 0 rfl) ?_
              refine r_if_eq (tgt := 62) hx hb dX1_housesAhead_56 (by decide) (by omega) (fun _ => ?_) (fun h => absurd h (by decide))
              refine r_iinc (a := i) (b := (i + 1)) (lv2 := [(3, .int (iI (i + 1))), (4, .int (iI 0)), (2, .int (iI g)), (0, .ref (A 100)), (1, .int (iI b))]) hx hb dX1_housesAhead_62 hl (k := 1) rfl (by omega) (by decide) rfl (fun ls hl => ?_)
              refine lv_goto (tgt := 4) hx hb dX1_housesAhead_65 (by decide) ?_
              exact ihlp4_1 (i + 1) g ls (by omega) (by rw [fo_s _ _ (by omega), ← hg]; unfold nAheadF; first | rw [if_pos (by omega)] | rw [if_neg (by omega)]) (by omega) (lv_sub hl [0, 2, 3, 4] rfl)
          · -- 29 to 32
            refine lv_iconst (v := iI 1) hx hb dX1_housesAhead_32 rfl ?_
            refine lv_goto (tgt := 37) hx hb dX1_housesAhead_33 (by decide) ?_
            refine lv_istore (lv' := [(4, .int (iI 1)), (3, .int (iI i)), (2, .int (iI g)), (0, .ref (A 100)), (1, .int (iI b))]) hx hb dX1_housesAhead_37 hl (by decide) rfl (fun ls hl => ?_)
            refine lv_aload_n hx hb dX1_housesAhead_39 rfl (lv_at hl 3 rfl) ?_
            refine va_get (D := D) (ci := 1) (v := .ref (A 18)) (C := RX1) (T := TX1) (N := 19) hx hb hts (fun _ h => List.mem_cons_of_mem _ (List.mem_append_right _ h)) hown hK hP 0 rfl rfl 18 (by decide) (hts _ fl_X1_housesAhead_54) (fun _ h9 => h9) rfl dX1_housesAhead_40 ?_
            refine lv_iload_n hx hb dX1_housesAhead_43 rfl (lv_at hl 1 rfl) ?_
            have hv13 := hd (i)
            refine r_iald hx hb hK hP 15 0 rfl rfl (Nat.le_of_ble_eq_true rfl) (by omega) dX1_housesAhead_44 ?_
            refine lv_aload_n hx hb dX1_housesAhead_45 rfl (lv_at hl 3 rfl) ?_
            refine va_get (D := D) (ci := 1) (v := .ref (A 18)) (C := RX1) (T := TX1) (N := 19) hx hb hts (fun _ h => List.mem_cons_of_mem _ (List.mem_append_right _ h)) hown hK hP 0 rfl rfl 18 (by decide) (hts _ fl_X1_housesAhead_54) (fun _ h9 => h9) rfl dX1_housesAhead_46 ?_
            refine lv_iload_n hx hb dX1_housesAhead_49 rfl (lv_at hl 4 rfl) ?_
            have hv14 := hd (b)
            refine r_iald hx hb hK hP 15 0 rfl rfl (Nat.le_of_ble_eq_true rfl) (by omega) dX1_housesAhead_50 ?_
            refine r_icmp_gt (tgt := 59) hx hb dX1_housesAhead_51 (by decide) (by omega) (by omega) (fun h15 => ?_) (fun h15 => ?_)
            · -- 51 to 59
              refine r_iinc (a := g) (b := (g + 1)) (lv2 := [(2, .int (iI (g + 1))), (4, .int (iI 1)), (3, .int (iI i)), (0, .ref (A 100)), (1, .int (iI b))]) hx hb dX1_housesAhead_59 hl (k := 2) rfl (by omega) (by decide) rfl (fun ls hl => ?_)
              refine r_iinc (a := i) (b := (i + 1)) (lv2 := [(3, .int (iI (i + 1))), (2, .int (iI (g + 1))), (4, .int (iI 1)), (0, .ref (A 100)), (1, .int (iI b))]) hx hb dX1_housesAhead_62 hl (k := 2) rfl (by omega) (by decide) rfl (fun ls hl => ?_)
              refine lv_goto (tgt := 4) hx hb dX1_housesAhead_65 (by decide) ?_
              exact ihlp4_1 (i + 1) (g + 1) ls (by omega) (by rw [fo_s _ _ (by omega), ← hg]; unfold nAheadF; first | rw [if_pos (by omega)] | rw [if_neg (by omega)]) (by omega) (lv_sub hl [0, 1, 3, 4] rfl)
            · -- 51 to 54
              refine lv_iload hx hb dX1_housesAhead_54 (lv_at hl 0 rfl) ?_
              refine r_if_eq (tgt := 62) hx hb dX1_housesAhead_56 (by decide) (by omega) (fun h => absurd h (by decide)) (fun _ => ?_)
              refine r_iinc (a := g) (b := (g + 1)) (lv2 := [(2, .int (iI (g + 1))), (4, .int (iI 1)), (3, .int (iI i)), (0, .ref (A 100)), (1, .int (iI b))]) hx hb dX1_housesAhead_59 hl (k := 2) rfl (by omega) (by decide) rfl (fun ls hl => ?_)
              refine r_iinc (a := i) (b := (i + 1)) (lv2 := [(3, .int (iI (i + 1))), (2, .int (iI (g + 1))), (4, .int (iI 1)), (0, .ref (A 100)), (1, .int (iI b))]) hx hb dX1_housesAhead_62 hl (k := 2) rfl (by omega) (by decide) rfl (fun ls hl => ?_)
              refine lv_goto (tgt := 4) hx hb dX1_housesAhead_65 (by decide) ?_
              exact ihlp4_1 (i + 1) (g + 1) ls (by omega) (by rw [fo_s _ _ (by omega), ← hg]; unfold nAheadF; first | rw [if_pos (by omega)] | rw [if_neg (by omega)]) (by omega) (lv_sub hl [0, 1, 3, 4] rfl)
  exact lp4_1 _ 0 0 ls (by omega) rfl (lt_tn _) (lv_sub hl [0, 1, 2, 3] rfl)
theorem fl_X1_isBetween_11 : Cond.fieldLink RX1 11 "NoiseLamps$Noise" "pieceX" "[I" ∈ wsX1_isBetween := by decide +kernel
theorem fl_X1_isBetween_15 : Cond.fieldLink RX1 15 "NoiseLamps$Noise" "pieceY" "[I" ∈ wsX1_isBetween := by decide +kernel
theorem fl_X1_isBetween_21 : Cond.fieldLink RX1 21 "NoiseLamps$Noise" "houseX" "[I" ∈ wsX1_isBetween := by decide +kernel
theorem fl_X1_isBetween_24 : Cond.fieldLink RX1 24 "NoiseLamps$Noise" "houseY" "[I" ∈ wsX1_isBetween := by decide +kernel
theorem fl_X1_isBetween_30 : Cond.fieldLink RX1 30 "NoiseLamps$Noise" "wallX0" "[I" ∈ wsX1_isBetween := by decide +kernel
theorem fl_X1_isBetween_33 : Cond.fieldLink RX1 33 "NoiseLamps$Noise" "wallY0" "[I" ∈ wsX1_isBetween := by decide +kernel
theorem fl_X1_isBetween_36 : Cond.fieldLink RX1 36 "NoiseLamps$Noise" "wallX1" "[I" ∈ wsX1_isBetween := by decide +kernel
theorem fl_X1_isBetween_39 : Cond.fieldLink RX1 39 "NoiseLamps$Noise" "wallY1" "[I" ∈ wsX1_isBetween := by decide +kernel
set_option maxHeartbeats 4000000 in
set_option maxRecDepth 100000 in
theorem c_X1_isBetween (l : Launch) (D : va_G) (cy : ClassId) (A : Nat → Nat) (σ : Nat → Int → Int) (w p0 h0 : Int) (hI : invN σ) (hw : 0 ≤ w ∧ w < 8) (hp : 0 ≤ p0 ∧ p0 < 12) (hh : 0 ≤ h0 ∧ h0 < 20) : MetR l yX1_isBetween wsX1_isBetween ({ frames := 2, cells := 0, slots := 0, locals := 44 } : Room) D cy (wN cy A σ) ([.ref (A 100), .int (iI w), .int (iI p0), .int (iI h0)] : List Value) (bI (nBtw σ w p0 h0)) := by
  refine met_R (cc := cX1_isBetween) (maxL := 12) (ret := (some .boolean)) (by decide) rfl (Nat.le_of_ble_eq_true rfl) ?_
  intro p e s m below meth c hx hb hr hml hts hown hlocks hP hK ls hl
  have hown : s.vm.findClass RX1 = some m.cls := hown
  have hl : lv_has ls 12 [(0, .ref (A 100)), (1, .int (iI w)), (2, .int (iI p0)), (3, .int (iI h0))] := hl
  obtain ⟨hN0, hN4, hN8, hN14, hB1, hB2, hB3, hB5, hB6, hB7, hB9, hB10, hB11, hB12, hB13, hB15, hB16, hB17⟩ := id hI
  have t1 := tuZ_bd (hB1 p0) (hB2 p0) (hB5 h0) (hB6 h0) (hB9 w) (hB10 w)
  have t2 := tuZ_bd (hB1 p0) (hB2 p0) (hB5 h0) (hB6 h0) (hB11 w) (hB12 w)
  have t3 := tuZ_bd (hB9 w) (hB10 w) (hB11 w) (hB12 w) (hB1 p0) (hB2 p0)
  have t4 := tuZ_bd (hB9 w) (hB10 w) (hB11 w) (hB12 w) (hB5 h0) (hB6 h0)
  refine lv_aload_n hx hb dX1_isBetween_0 rfl (lv_at hl 0 rfl) ?_
  refine va_get (D := D) (ci := 1) (v := .ref (A 1)) (C := RX1) (T := TX1) (N := 19) hx hb hts (fun _ h => List.mem_cons_of_mem _ (List.mem_append_right _ h)) hown hK hP 0 rfl rfl 1 (by decide) (hts _ fl_X1_isBetween_11) (fun _ h9 => h9) rfl dX1_isBetween_1 ?_
  refine lv_iload_n hx hb dX1_isBetween_4 rfl (lv_at hl 2 rfl) ?_
  refine r_iald hx hb hK hP 1 0 rfl rfl (Nat.le_of_ble_eq_true rfl) (by omega) dX1_isBetween_5 ?_
  have hv1 := hB1 p0
  refine lv_istore (lv' := [(4, .int (iI (σ 1 p0))), (0, .ref (A 100)), (1, .int (iI w)), (2, .int (iI p0)), (3, .int (iI h0))]) hx hb dX1_isBetween_6 hl (by decide) rfl (fun ls hl => ?_)
  refine lv_aload_n hx hb dX1_isBetween_8 rfl (lv_at hl 1 rfl) ?_
  refine va_get (D := D) (ci := 1) (v := .ref (A 2)) (C := RX1) (T := TX1) (N := 19) hx hb hts (fun _ h => List.mem_cons_of_mem _ (List.mem_append_right _ h)) hown hK hP 0 rfl rfl 2 (by decide) (hts _ fl_X1_isBetween_15) (fun _ h9 => h9) rfl dX1_isBetween_9 ?_
  refine lv_iload_n hx hb dX1_isBetween_12 rfl (lv_at hl 3 rfl) ?_
  refine r_iald hx hb hK hP 2 0 rfl rfl (Nat.le_of_ble_eq_true rfl) (by omega) dX1_isBetween_13 ?_
  have hv2 := hB2 p0
  refine lv_istore (lv' := [(5, .int (iI (σ 2 p0))), (4, .int (iI (σ 1 p0))), (0, .ref (A 100)), (1, .int (iI w)), (2, .int (iI p0)), (3, .int (iI h0))]) hx hb dX1_isBetween_14 hl (by decide) rfl (fun ls hl => ?_)
  refine lv_aload_n hx hb dX1_isBetween_16 rfl (lv_at hl 2 rfl) ?_
  refine va_get (D := D) (ci := 1) (v := .ref (A 5)) (C := RX1) (T := TX1) (N := 19) hx hb hts (fun _ h => List.mem_cons_of_mem _ (List.mem_append_right _ h)) hown hK hP 0 rfl rfl 5 (by decide) (hts _ fl_X1_isBetween_21) (fun _ h9 => h9) rfl dX1_isBetween_17 ?_
  refine lv_iload_n hx hb dX1_isBetween_20 rfl (lv_at hl 5 rfl) ?_
  refine r_iald hx hb hK hP 4 0 rfl rfl (Nat.le_of_ble_eq_true rfl) (by omega) dX1_isBetween_21 ?_
  have hv3 := hB5 h0
  refine lv_istore (lv' := [(6, .int (iI (σ 5 h0))), (5, .int (iI (σ 2 p0))), (4, .int (iI (σ 1 p0))), (0, .ref (A 100)), (1, .int (iI w)), (2, .int (iI p0)), (3, .int (iI h0))]) hx hb dX1_isBetween_22 hl (by decide) rfl (fun ls hl => ?_)
  refine lv_aload_n hx hb dX1_isBetween_24 rfl (lv_at hl 3 rfl) ?_
  refine va_get (D := D) (ci := 1) (v := .ref (A 6)) (C := RX1) (T := TX1) (N := 19) hx hb hts (fun _ h => List.mem_cons_of_mem _ (List.mem_append_right _ h)) hown hK hP 0 rfl rfl 6 (by decide) (hts _ fl_X1_isBetween_24) (fun _ h9 => h9) rfl dX1_isBetween_25 ?_
  refine lv_iload_n hx hb dX1_isBetween_28 rfl (lv_at hl 6 rfl) ?_
  refine r_iald hx hb hK hP 5 0 rfl rfl (Nat.le_of_ble_eq_true rfl) (by omega) dX1_isBetween_29 ?_
  have hv4 := hB6 h0
  refine lv_istore (lv' := [(7, .int (iI (σ 6 h0))), (6, .int (iI (σ 5 h0))), (5, .int (iI (σ 2 p0))), (4, .int (iI (σ 1 p0))), (0, .ref (A 100)), (1, .int (iI w)), (2, .int (iI p0)), (3, .int (iI h0))]) hx hb dX1_isBetween_30 hl (by decide) rfl (fun ls hl => ?_)
  refine lv_aload_n hx hb dX1_isBetween_32 rfl (lv_at hl 4 rfl) ?_
  refine va_get (D := D) (ci := 1) (v := .ref (A 9)) (C := RX1) (T := TX1) (N := 19) hx hb hts (fun _ h => List.mem_cons_of_mem _ (List.mem_append_right _ h)) hown hK hP 0 rfl rfl 9 (by decide) (hts _ fl_X1_isBetween_30) (fun _ h9 => h9) rfl dX1_isBetween_33 ?_
  refine lv_iload_n hx hb dX1_isBetween_36 rfl (lv_at hl 5 rfl) ?_
  refine r_iald hx hb hK hP 7 0 rfl rfl (Nat.le_of_ble_eq_true rfl) (by omega) dX1_isBetween_37 ?_
  have hv5 := hB9 w
  refine lv_istore (lv' := [(8, .int (iI (σ 9 w))), (7, .int (iI (σ 6 h0))), (6, .int (iI (σ 5 h0))), (5, .int (iI (σ 2 p0))), (4, .int (iI (σ 1 p0))), (0, .ref (A 100)), (1, .int (iI w)), (2, .int (iI p0)), (3, .int (iI h0))]) hx hb dX1_isBetween_38 hl (by decide) rfl (fun ls hl => ?_)
  refine lv_aload_n hx hb dX1_isBetween_40 rfl (lv_at hl 5 rfl) ?_
  refine va_get (D := D) (ci := 1) (v := .ref (A 10)) (C := RX1) (T := TX1) (N := 19) hx hb hts (fun _ h => List.mem_cons_of_mem _ (List.mem_append_right _ h)) hown hK hP 0 rfl rfl 10 (by decide) (hts _ fl_X1_isBetween_33) (fun _ h9 => h9) rfl dX1_isBetween_41 ?_
  refine lv_iload_n hx hb dX1_isBetween_44 rfl (lv_at hl 6 rfl) ?_
  refine r_iald hx hb hK hP 8 0 rfl rfl (Nat.le_of_ble_eq_true rfl) (by omega) dX1_isBetween_45 ?_
  have hv6 := hB10 w
  refine lv_istore (lv' := [(9, .int (iI (σ 10 w))), (8, .int (iI (σ 9 w))), (7, .int (iI (σ 6 h0))), (6, .int (iI (σ 5 h0))), (5, .int (iI (σ 2 p0))), (4, .int (iI (σ 1 p0))), (0, .ref (A 100)), (1, .int (iI w)), (2, .int (iI p0)), (3, .int (iI h0))]) hx hb dX1_isBetween_46 hl (by decide) rfl (fun ls hl => ?_)
  refine lv_aload_n hx hb dX1_isBetween_48 rfl (lv_at hl 6 rfl) ?_
  refine va_get (D := D) (ci := 1) (v := .ref (A 11)) (C := RX1) (T := TX1) (N := 19) hx hb hts (fun _ h => List.mem_cons_of_mem _ (List.mem_append_right _ h)) hown hK hP 0 rfl rfl 11 (by decide) (hts _ fl_X1_isBetween_36) (fun _ h9 => h9) rfl dX1_isBetween_49 ?_
  refine lv_iload_n hx hb dX1_isBetween_52 rfl (lv_at hl 7 rfl) ?_
  refine r_iald hx hb hK hP 9 0 rfl rfl (Nat.le_of_ble_eq_true rfl) (by omega) dX1_isBetween_53 ?_
  have hv7 := hB11 w
  refine lv_istore (lv' := [(10, .int (iI (σ 11 w))), (9, .int (iI (σ 10 w))), (8, .int (iI (σ 9 w))), (7, .int (iI (σ 6 h0))), (6, .int (iI (σ 5 h0))), (5, .int (iI (σ 2 p0))), (4, .int (iI (σ 1 p0))), (0, .ref (A 100)), (1, .int (iI w)), (2, .int (iI p0)), (3, .int (iI h0))]) hx hb dX1_isBetween_54 hl (by decide) rfl (fun ls hl => ?_)
  refine lv_aload_n hx hb dX1_isBetween_56 rfl (lv_at hl 7 rfl) ?_
  refine va_get (D := D) (ci := 1) (v := .ref (A 12)) (C := RX1) (T := TX1) (N := 19) hx hb hts (fun _ h => List.mem_cons_of_mem _ (List.mem_append_right _ h)) hown hK hP 0 rfl rfl 12 (by decide) (hts _ fl_X1_isBetween_39) (fun _ h9 => h9) rfl dX1_isBetween_57 ?_
  refine lv_iload_n hx hb dX1_isBetween_60 rfl (lv_at hl 8 rfl) ?_
  refine r_iald hx hb hK hP 10 0 rfl rfl (Nat.le_of_ble_eq_true rfl) (by omega) dX1_isBetween_61 ?_
  have hv8 := hB12 w
  refine lv_istore (lv' := [(11, .int (iI (σ 12 w))), (10, .int (iI (σ 11 w))), (9, .int (iI (σ 10 w))), (8, .int (iI (σ 9 w))), (7, .int (iI (σ 6 h0))), (6, .int (iI (σ 5 h0))), (5, .int (iI (σ 2 p0))), (4, .int (iI (σ 1 p0))), (0, .ref (A 100)), (1, .int (iI w)), (2, .int (iI p0)), (3, .int (iI h0))]) hx hb dX1_isBetween_62 hl (by decide) rfl (fun ls hl => ?_)
  refine lv_iload hx hb dX1_isBetween_64 (lv_at hl 7 rfl) ?_
  refine lv_iload hx hb dX1_isBetween_66 (lv_at hl 5 rfl) ?_
  refine lv_iload hx hb dX1_isBetween_68 (lv_at hl 3 rfl) ?_
  refine lv_iload hx hb dX1_isBetween_70 (lv_at hl 1 rfl) ?_
  refine r_calli (va_runS (As := [.int (iI (σ 1 p0)), .int (iI (σ 5 h0)), .int (iI (σ 9 w)), .int (iI (σ 11 w))]) (rest := []) ⟨hx, hb, hml, hown, hts⟩ (c_X1_spansMeet l  (σ 1 p0) (σ 5 h0) (σ 9 w) (σ 11 w) (by omega) (by omega) (by omega) (by omega)) (va_cwS 4 hts gX1_isBetween_X1_spansMeet rfl rfl rfl (by decide +kernel) ⟨Nat.le_of_ble_eq_true rfl, Nat.le_of_ble_eq_true rfl⟩) ps_T rfl rfl hl.1 rfl (lv_room (Nat.le_of_ble_eq_true rfl)) dX1_isBetween_72 ⟨Nat.le_of_ble_eq_true rfl, Nat.le_of_ble_eq_true rfl⟩) ?_
  refine r_ifB_eq (tgt := 168) hx hb dX1_isBetween_75 (by decide) (fun h9 => ?_) (fun h9 => ?_)
  · -- 75 to 168
    refine lv_iconst (v := iI 0) hx hb dX1_isBetween_168 rfl ?_
    exact r_retZ hx hb hr hlocks dX1_isBetween_169 (zn_of (by omega)) (by first | exact (bI_t ⟨by assumption, by assumption, by assumption, by assumption⟩).symm | exact (bI_f (fun q => absurd q.1 (by assumption))).symm | exact (bI_f (fun q => absurd q.2.1 (by assumption))).symm | exact (bI_f (fun q => q.2.2.1 (by assumption))).symm | exact (bI_f (fun q => q.2.2.2 (by assumption))).symm)
  · -- 75 to 78
    refine lv_iload hx hb dX1_isBetween_78 (lv_at hl 6 rfl) ?_
    refine lv_iload hx hb dX1_isBetween_80 (lv_at hl 4 rfl) ?_
    refine lv_iload hx hb dX1_isBetween_82 (lv_at hl 2 rfl) ?_
    refine lv_iload hx hb dX1_isBetween_84 (lv_at hl 0 rfl) ?_
    refine r_calli (va_runS (As := [.int (iI (σ 2 p0)), .int (iI (σ 6 h0)), .int (iI (σ 10 w)), .int (iI (σ 12 w))]) (rest := []) ⟨hx, hb, hml, hown, hts⟩ (c_X1_spansMeet l  (σ 2 p0) (σ 6 h0) (σ 10 w) (σ 12 w) (by omega) (by omega) (by omega) (by omega)) (va_cwS 4 hts gX1_isBetween_X1_spansMeet rfl rfl rfl (by decide +kernel) ⟨Nat.le_of_ble_eq_true rfl, Nat.le_of_ble_eq_true rfl⟩) ps_T rfl rfl hl.1 rfl (lv_room (Nat.le_of_ble_eq_true rfl)) dX1_isBetween_86 ⟨Nat.le_of_ble_eq_true rfl, Nat.le_of_ble_eq_true rfl⟩) ?_
    refine r_ifB_eq (tgt := 168) hx hb dX1_isBetween_89 (by decide) (fun h10 => ?_) (fun h10 => ?_)
    · -- 89 to 168
      refine lv_iconst (v := iI 0) hx hb dX1_isBetween_168 rfl ?_
      exact r_retZ hx hb hr hlocks dX1_isBetween_169 (zn_of (by omega)) (by first | exact (bI_t ⟨by assumption, by assumption, by assumption, by assumption⟩).symm | exact (bI_f (fun q => absurd q.1 (by assumption))).symm | exact (bI_f (fun q => absurd q.2.1 (by assumption))).symm | exact (bI_f (fun q => q.2.2.1 (by assumption))).symm | exact (bI_f (fun q => q.2.2.2 (by assumption))).symm)
    · -- 89 to 92
      refine lv_iload hx hb dX1_isBetween_92 (lv_at hl 7 rfl) ?_
      refine lv_iload hx hb dX1_isBetween_94 (lv_at hl 6 rfl) ?_
      refine lv_iload hx hb dX1_isBetween_96 (lv_at hl 5 rfl) ?_
      refine lv_iload hx hb dX1_isBetween_98 (lv_at hl 4 rfl) ?_
      refine lv_iload hx hb dX1_isBetween_100 (lv_at hl 3 rfl) ?_
      refine lv_iload hx hb dX1_isBetween_102 (lv_at hl 2 rfl) ?_
      refine r_calli (va_runS (As := [.int (iI (σ 1 p0)), .int (iI (σ 2 p0)), .int (iI (σ 5 h0)), .int (iI (σ 6 h0)), .int (iI (σ 9 w)), .int (iI (σ 10 w))]) (rest := []) ⟨hx, hb, hml, hown, hts⟩ (c_X1_turn l  (σ 1 p0) (σ 2 p0) (σ 5 h0) (σ 6 h0) (σ 9 w) (σ 10 w) ) (va_cwS 6 hts gX1_isBetween_X1_turn rfl rfl rfl (by decide +kernel) ⟨Nat.le_of_ble_eq_true rfl, Nat.le_of_ble_eq_true rfl⟩) ps_T rfl rfl hl.1 rfl (lv_room (Nat.le_of_ble_eq_true rfl)) dX1_isBetween_104 ⟨Nat.le_of_ble_eq_true rfl, Nat.le_of_ble_eq_true rfl⟩) ?_
      refine lv_iload hx hb dX1_isBetween_107 (lv_at hl 7 rfl) ?_
      refine lv_iload hx hb dX1_isBetween_109 (lv_at hl 6 rfl) ?_
      refine lv_iload hx hb dX1_isBetween_111 (lv_at hl 5 rfl) ?_
      refine lv_iload hx hb dX1_isBetween_113 (lv_at hl 4 rfl) ?_
      refine lv_iload hx hb dX1_isBetween_115 (lv_at hl 1 rfl) ?_
      refine lv_iload hx hb dX1_isBetween_117 (lv_at hl 0 rfl) ?_
      refine r_calli (va_runS (As := [.int (iI (σ 1 p0)), .int (iI (σ 2 p0)), .int (iI (σ 5 h0)), .int (iI (σ 6 h0)), .int (iI (σ 11 w)), .int (iI (σ 12 w))]) (rest := [.int (iI (tuZ (σ 1 p0) (σ 2 p0) (σ 5 h0) (σ 6 h0) (σ 9 w) (σ 10 w)))]) ⟨hx, hb, hml, hown, hts⟩ (c_X1_turn l  (σ 1 p0) (σ 2 p0) (σ 5 h0) (σ 6 h0) (σ 11 w) (σ 12 w) ) (va_cwS 6 hts gX1_isBetween_X1_turn rfl rfl rfl (by decide +kernel) ⟨Nat.le_of_ble_eq_true rfl, Nat.le_of_ble_eq_true rfl⟩) ps_T rfl rfl hl.1 rfl (lv_room (Nat.le_of_ble_eq_true rfl)) dX1_isBetween_119 ⟨Nat.le_of_ble_eq_true rfl, Nat.le_of_ble_eq_true rfl⟩) ?_
      refine r_calli (va_runS (As := [.int (iI (tuZ (σ 1 p0) (σ 2 p0) (σ 5 h0) (σ 6 h0) (σ 9 w) (σ 10 w))), .int (iI (tuZ (σ 1 p0) (σ 2 p0) (σ 5 h0) (σ 6 h0) (σ 11 w) (σ 12 w)))]) (rest := []) ⟨hx, hb, hml, hown, hts⟩ (c_X1_onOneSide l  (tuZ (σ 1 p0) (σ 2 p0) (σ 5 h0) (σ 6 h0) (σ 9 w) (σ 10 w)) (tuZ (σ 1 p0) (σ 2 p0) (σ 5 h0) (σ 6 h0) (σ 11 w) (σ 12 w)) (by omega) (by omega)) (va_cwS 2 hts gX1_isBetween_X1_onOneSide rfl rfl rfl (by decide +kernel) ⟨Nat.le_of_ble_eq_true rfl, Nat.le_of_ble_eq_true rfl⟩) ps_T rfl rfl hl.1 rfl (lv_room (Nat.le_of_ble_eq_true rfl)) dX1_isBetween_122 ⟨Nat.le_of_ble_eq_true rfl, Nat.le_of_ble_eq_true rfl⟩) ?_
      refine r_ifB_ne (tgt := 168) hx hb dX1_isBetween_125 (by decide) (fun h11 => ?_) (fun h11 => ?_)
      · -- 125 to 168
        refine lv_iconst (v := iI 0) hx hb dX1_isBetween_168 rfl ?_
        exact r_retZ hx hb hr hlocks dX1_isBetween_169 (zn_of (by omega)) (by first | exact (bI_t ⟨by assumption, by assumption, by assumption, by assumption⟩).symm | exact (bI_f (fun q => absurd q.1 (by assumption))).symm | exact (bI_f (fun q => absurd q.2.1 (by assumption))).symm | exact (bI_f (fun q => q.2.2.1 (by assumption))).symm | exact (bI_f (fun q => q.2.2.2 (by assumption))).symm)
      · -- 125 to 128
        refine lv_iload hx hb dX1_isBetween_128 (lv_at hl 3 rfl) ?_
        refine lv_iload hx hb dX1_isBetween_130 (lv_at hl 2 rfl) ?_
        refine lv_iload hx hb dX1_isBetween_132 (lv_at hl 1 rfl) ?_
        refine lv_iload hx hb dX1_isBetween_134 (lv_at hl 0 rfl) ?_
        refine lv_iload hx hb dX1_isBetween_136 (lv_at hl 7 rfl) ?_
        refine lv_iload hx hb dX1_isBetween_138 (lv_at hl 6 rfl) ?_
        refine r_calli (va_runS (As := [.int (iI (σ 9 w)), .int (iI (σ 10 w)), .int (iI (σ 11 w)), .int (iI (σ 12 w)), .int (iI (σ 1 p0)), .int (iI (σ 2 p0))]) (rest := []) ⟨hx, hb, hml, hown, hts⟩ (c_X1_turn l  (σ 9 w) (σ 10 w) (σ 11 w) (σ 12 w) (σ 1 p0) (σ 2 p0) ) (va_cwS 6 hts gX1_isBetween_X1_turn rfl rfl rfl (by decide +kernel) ⟨Nat.le_of_ble_eq_true rfl, Nat.le_of_ble_eq_true rfl⟩) ps_T rfl rfl hl.1 rfl (lv_room (Nat.le_of_ble_eq_true rfl)) dX1_isBetween_140 ⟨Nat.le_of_ble_eq_true rfl, Nat.le_of_ble_eq_true rfl⟩) ?_
        refine lv_iload hx hb dX1_isBetween_143 (lv_at hl 3 rfl) ?_
        refine lv_iload hx hb dX1_isBetween_145 (lv_at hl 2 rfl) ?_
        refine lv_iload hx hb dX1_isBetween_147 (lv_at hl 1 rfl) ?_
        refine lv_iload hx hb dX1_isBetween_149 (lv_at hl 0 rfl) ?_
        refine lv_iload hx hb dX1_isBetween_151 (lv_at hl 5 rfl) ?_
        refine lv_iload hx hb dX1_isBetween_153 (lv_at hl 4 rfl) ?_
        refine r_calli (va_runS (As := [.int (iI (σ 9 w)), .int (iI (σ 10 w)), .int (iI (σ 11 w)), .int (iI (σ 12 w)), .int (iI (σ 5 h0)), .int (iI (σ 6 h0))]) (rest := [.int (iI (tuZ (σ 9 w) (σ 10 w) (σ 11 w) (σ 12 w) (σ 1 p0) (σ 2 p0)))]) ⟨hx, hb, hml, hown, hts⟩ (c_X1_turn l  (σ 9 w) (σ 10 w) (σ 11 w) (σ 12 w) (σ 5 h0) (σ 6 h0) ) (va_cwS 6 hts gX1_isBetween_X1_turn rfl rfl rfl (by decide +kernel) ⟨Nat.le_of_ble_eq_true rfl, Nat.le_of_ble_eq_true rfl⟩) ps_T rfl rfl hl.1 rfl (lv_room (Nat.le_of_ble_eq_true rfl)) dX1_isBetween_155 ⟨Nat.le_of_ble_eq_true rfl, Nat.le_of_ble_eq_true rfl⟩) ?_
        refine r_calli (va_runS (As := [.int (iI (tuZ (σ 9 w) (σ 10 w) (σ 11 w) (σ 12 w) (σ 1 p0) (σ 2 p0))), .int (iI (tuZ (σ 9 w) (σ 10 w) (σ 11 w) (σ 12 w) (σ 5 h0) (σ 6 h0)))]) (rest := []) ⟨hx, hb, hml, hown, hts⟩ (c_X1_onOneSide l  (tuZ (σ 9 w) (σ 10 w) (σ 11 w) (σ 12 w) (σ 1 p0) (σ 2 p0)) (tuZ (σ 9 w) (σ 10 w) (σ 11 w) (σ 12 w) (σ 5 h0) (σ 6 h0)) (by omega) (by omega)) (va_cwS 2 hts gX1_isBetween_X1_onOneSide rfl rfl rfl (by decide +kernel) ⟨Nat.le_of_ble_eq_true rfl, Nat.le_of_ble_eq_true rfl⟩) ps_T rfl rfl hl.1 rfl (lv_room (Nat.le_of_ble_eq_true rfl)) dX1_isBetween_158 ⟨Nat.le_of_ble_eq_true rfl, Nat.le_of_ble_eq_true rfl⟩) ?_
        refine r_ifB_ne (tgt := 168) hx hb dX1_isBetween_161 (by decide) (fun h12 => ?_) (fun h12 => ?_)
        · -- 161 to 168
          refine lv_iconst (v := iI 0) hx hb dX1_isBetween_168 rfl ?_
          exact r_retZ hx hb hr hlocks dX1_isBetween_169 (zn_of (by omega)) (by first | exact (bI_t ⟨by assumption, by assumption, by assumption, by assumption⟩).symm | exact (bI_f (fun q => absurd q.1 (by assumption))).symm | exact (bI_f (fun q => absurd q.2.1 (by assumption))).symm | exact (bI_f (fun q => q.2.2.1 (by assumption))).symm | exact (bI_f (fun q => q.2.2.2 (by assumption))).symm)
        · -- 161 to 164
          refine lv_iconst (v := iI 1) hx hb dX1_isBetween_164 rfl ?_
          refine lv_goto (tgt := 169) hx hb dX1_isBetween_165 (by decide) ?_
          exact r_retZ hx hb hr hlocks dX1_isBetween_169 (zn_of (by omega)) (by first | exact (bI_t ⟨by assumption, by assumption, by assumption, by assumption⟩).symm | exact (bI_f (fun q => absurd q.1 (by assumption))).symm | exact (bI_f (fun q => absurd q.2.1 (by assumption))).symm | exact (bI_f (fun q => q.2.2.1 (by assumption))).symm | exact (bI_f (fun q => q.2.2.2 (by assumption))).symm)
