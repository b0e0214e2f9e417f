/-! LAMPS: the methods -/
set_option maxHeartbeats 4000000 in
set_option maxRecDepth 100000 in
theorem c_X0_dimmed (l : Launch) (a b : Int) (ha : 0 ≤ a ∧ a ≤ 7000000) (hb2 : 0 ≤ b ∧ b ≤ 100) : MetS l yX0_dimmed wsX0_dimmed ({ frames := 0, cells := 0, slots := 0, locals := 0 } : Room) ([.int (iI a), .int (iI b)] : List Value) (a * b / 100) := by
  refine met_T (cc := cX0_dimmed) (maxL := 2) (ret := (some .int)) (by decide) rfl (Nat.le_of_ble_eq_true rfl) ?_
  intro p e s m below meth c hx hb hr hml hts hown hlocks ls hl
  have hown : s.vm.findClass RX0 = some m.cls := hown
  have hl : lv_has ls 2 [(0, .int (iI a)), (1, .int (iI b))] := hl
  refine lv_iload_n hx hb dX0_dimmed_0 rfl (lv_at hl 0 rfl) ?_
  refine lv_iload_n hx hb dX0_dimmed_1 rfl (lv_at hl 1 rfl) ?_
  have hm0 := mul_bd ha hb2
  refine r_imul hx hb dX0_dimmed_2 ?_
  refine lv_bipush (v := iI 100) hx hb dX0_dimmed_3 (by decide +kernel) ?_
  refine r_idiv hx hb dX0_dimmed_5 (by omega) (by omega) ?_
  exact r_ret hx hb hr hlocks dX0_dimmed_6 rfl
set_option maxHeartbeats 4000000 in
set_option maxRecDepth 100000 in
theorem c_X0_firstPoleInReach (l : Launch) (pl sp : Int) (hp1 : 0 ≤ pl ∧ pl ≤ 5000) (hs1 : 10 ≤ sp ∧ sp ≤ 600) : MetS l yX0_firstPoleInReach wsX0_firstPoleInReach ({ frames := 0, cells := 0, slots := 0, locals := 0 } : Room) ([.int (iI pl), .int (iI sp)] : List Value) (lFirstK pl sp) := by
  refine met_T (cc := cX0_firstPoleInReach) (maxL := 3) (ret := (some .int)) (by decide) rfl (Nat.le_of_ble_eq_true rfl) ?_
  intro p e s m below meth c hx hb hr hml hts hown hlocks ls hl
  have hown : s.vm.findClass RX0 = some m.cls := hown
  have hl : lv_has ls 3 [(0, .int (iI pl)), (1, .int (iI sp))] := hl
  refine lv_iload_n hx hb dX0_firstPoleInReach_0 rfl (lv_at hl 0 rfl) ?_
  refine lv_sipush (v := iI 300) hx hb dX0_firstPoleInReach_1 (by decide +kernel) ?_
  refine r_isub hx hb dX0_firstPoleInReach_4 ?_
  refine lv_istore_n (lv' := [(2, .int (iI (pl - 300))), (0, .int (iI pl)), (1, .int (iI sp))]) hx hb dX0_firstPoleInReach_5 rfl hl (by decide) rfl (fun ls hl => ?_)
  refine lv_iload_n hx hb dX0_firstPoleInReach_6 rfl (lv_at hl 0 rfl) ?_
  refine r_if_gt (tgt := 14) hx hb dX0_firstPoleInReach_7 (by decide) (by omega) (fun h1 => ?_) (fun h1 => ?_)
  · -- 7 to 14
    refine lv_iload_n hx hb dX0_firstPoleInReach_14 rfl (lv_at hl 0 rfl) ?_
    refine lv_iload_n hx hb dX0_firstPoleInReach_15 rfl (lv_at hl 2 rfl) ?_
    refine r_iadd hx hb dX0_firstPoleInReach_16 ?_
    refine lv_iconst (v := iI 1) hx hb dX0_firstPoleInReach_17 rfl ?_
    refine r_isub hx hb dX0_firstPoleInReach_18 ?_
    refine lv_iload_n hx hb dX0_firstPoleInReach_19 rfl (lv_at hl 2 rfl) ?_
    refine r_idiv hx hb dX0_firstPoleInReach_20 (by omega) (by omega) ?_
    exact r_ret hx hb hr hlocks dX0_firstPoleInReach_21 (by unfold lFirstK; first | (rw [if_pos (by omega)]) | (rw [if_neg (by omega)]))
  · -- 7 to 10
    refine lv_iconst (v := iI 0) hx hb dX0_firstPoleInReach_10 rfl ?_
    refine lv_goto (tgt := 21) hx hb dX0_firstPoleInReach_11 (by decide) ?_
    exact r_ret hx hb hr hlocks dX0_firstPoleInReach_21 (by unfold lFirstK; first | (rw [if_pos (by omega)]) | (rw [if_neg (by omega)]))
theorem fl_X0_roadLength_21 : Cond.fieldLink RX0 21 "NoiseLamps$Lamps" "length" "I" ∈ wsX0_roadLength := by decide +kernel
set_option maxHeartbeats 4000000 in
set_option maxRecDepth 100000 in
theorem c_X0_roadLength (l : Launch) (D : va_G) (cy : ClassId) (B : Nat → Nat) (τ : Nat → Int → Int) (hI : invL τ) : MetR l yX0_roadLength wsX0_roadLength ({ frames := 0, cells := 0, slots := 0, locals := 0 } : Room) D cy (wL cy B τ) ([.ref (B 100)] : List Value) (τ 3 0) := by
  refine met_R (cc := cX0_roadLength) (maxL := 1) (ret := (some .int)) (by decide) rfl (Nat.le_of_ble_eq_true rfl) ?_
  intro p e s m below meth c hx hb hr hml hts hown hlocks hP hK ls hl
  have hown : s.vm.findClass RX0 = some m.cls := hown
  have hl : lv_has ls 1 [(0, .ref (B 100))] := hl
  obtain ⟨hL3, hB0, hB1, hB2⟩ := id hI
  refine lv_aload_n hx hb dX0_roadLength_0 rfl (lv_at hl 0 rfl) ?_
  refine va_get (D := D) (ci := 0) (v := .int (iI (τ 3 0))) (C := RX0) (T := TX0) (N := 4) hx hb hts (fun _ h => List.mem_cons_of_mem _ (List.mem_append_right _ h)) hown hK hP 0 rfl rfl 3 (by decide) (hts _ fl_X0_roadLength_21) (fun _ h9 => h9) rfl dX0_roadLength_1 ?_
  exact r_ret hx hb hr hlocks dX0_roadLength_4 rfl
theorem fl_X0_changeLength_21 : Cond.fieldLink RX0 21 "NoiseLamps$Lamps" "length" "I" ∈ wsX0_changeLength := by decide +kernel
set_option maxHeartbeats 4000000 in
set_option maxRecDepth 100000 in
theorem c_X0_changeLength (l : Launch) (D : va_G) (cy : ClassId) (B : Nat → Nat) (τ : Nat → Int → Int) (sz : Nat) (a : Int) (hI : invL τ) (ha : 0 ≤ a ∧ a ≤ 5000) : MetM l yX0_changeLength wsX0_changeLength ({ frames := 0, cells := 0, slots := 0, locals := 0 } : Room) D cy (wL cy B τ) ([.ref (B 100), .int (iI a)] : List Value) sz (fun _ : Unit => (τ 3 0)) (fun _ : Unit => True) (fun _ : Unit => wL cy B (su τ 3 (fun _ => a))) := by
  refine met_M (cc := cX0_changeLength) (maxL := 3) (ret := (some .int)) (by decide) rfl (Nat.le_of_ble_eq_true rfl) ?_
  intro p e s m below meth c AA hAA hx hb hr hml hts hown hlocks hP hK hD hA ls hl
  have hS : va_S AA s.heap s.heap [] := va_S.rf
  have hown : s.vm.findClass RX0 = some m.cls := hown
  have hl : lv_has ls 3 [(0, .ref (B 100)), (1, .int (iI a))] := hl
  obtain ⟨hL3, hB0, hB1, hB2⟩ := id hI
  refine lv_aload_n hx hb dX0_changeLength_0 rfl (lv_at hl 0 rfl) ?_
  refine va_get (D := D) (ci := 0) (v := .int (iI (τ 3 0))) (C := RX0) (T := TX0) (N := 4) hx hb hts (fun _ h => List.mem_cons_of_mem _ (List.mem_append_right _ h)) hown hK hP 0 rfl rfl 3 (by decide) (hts _ fl_X0_changeLength_21) (fun _ h9 => h9) rfl dX0_changeLength_1 ?_
  refine lv_istore_n (lv' := [(2, .int (iI (τ 3 0))), (0, .ref (B 100)), (1, .int (iI a))]) hx hb dX0_changeLength_4 rfl hl (by decide) rfl (fun ls hl => ?_)
  refine lv_aload_n hx hb dX0_changeLength_5 rfl (lv_at hl 1 rfl) ?_
  refine lv_iload_n hx hb dX0_changeLength_6 rfl (lv_at hl 2 rfl) ?_
  refine va_put (D := D) (ci := 0) (v := .int (iI a)) (ty := .int) (C := RX0) (T := TX0) (N := 4) hx hb hts (fun _ h => List.mem_cons_of_mem _ (List.mem_append_right _ h)) tyX0 tyX0_ok nmX0 hown hK hP hD hS 0 rfl rfl 3 (by decide) (hts _ fl_X0_changeLength_21) (fun _ h9 => h9) rfl (by decide +kernel) rfl rfl (Nat.le_of_ble_eq_true rfl) dX0_changeLength_7 (fun H locs hP hD hS => ?_)
  have hP : va_P D vwCl (wL cy B (su τ 3 (fun _ => a))) H := hP
  have hD : va_D AA (wL cy B (su τ 3 (fun _ => a))) := hD
  refine lv_iload_n hx hb dX0_changeLength_10 rfl (lv_at hl 0 rfl) ?_
  exact r_retM () hx hb hr hlocks hS dX0_changeLength_11 rfl trivial hP
theorem fl_X0_changeLight_9 : Cond.fieldLink RX0 9 "NoiseLamps$Lamps" "light" "[I" ∈ wsX0_changeLight := by decide +kernel
set_option maxHeartbeats 4000000 in
set_option maxRecDepth 100000 in
theorem c_X0_changeLight (l : Launch) (D : va_G) (cy : ClassId) (B : Nat → Nat) (τ : Nat → Int → Int) (sz : Nat) (a b : Int) (hI : invL τ) (ha : 0 ≤ a ∧ a ≤ 300) (hb2 : 0 ≤ b ∧ b ≤ 100000) : MetM l yX0_changeLight wsX0_changeLight ({ frames := 0, cells := 0, slots := 0, locals := 0 } : Room) D cy (wL cy B τ) ([.ref (B 100), .int (iI a), .int (iI b)] : List Value) sz (fun _ : Unit => (τ 0 (a / 10))) (fun _ : Unit => True) (fun _ : Unit => wL cy B (su τ 0 (up (τ 0) (a / 10) b))) := by
  refine met_M (cc := cX0_changeLight) (maxL := 4) (ret := (some .int)) (by decide) rfl (Nat.le_of_ble_eq_true rfl) ?_
  intro p e s m below meth c AA hAA hx hb hr hml hts hown hlocks hP hK hD hA ls hl
  have hS : va_S AA s.heap s.heap [] := va_S.rf
  have hown : s.vm.findClass RX0 = some m.cls := hown
  have hl : lv_has ls 4 [(0, .ref (B 100)), (1, .int (iI a)), (2, .int (iI b))] := hl
  obtain ⟨hL3, hB0, hB1, hB2⟩ := id hI
  refine lv_aload_n hx hb dX0_changeLight_0 rfl (lv_at hl 0 rfl) ?_
  refine va_get (D := D) (ci := 0) (v := .ref (B 0)) (C := RX0) (T := TX0) (N := 4) hx hb hts (fun _ h => List.mem_cons_of_mem _ (List.mem_append_right _ h)) hown hK hP 0 rfl rfl 0 (by decide) (hts _ fl_X0_changeLight_9) (fun _ h9 => h9) rfl dX0_changeLight_1 ?_
  refine lv_iload_n hx hb dX0_changeLight_4 rfl (lv_at hl 1 rfl) ?_
  refine lv_bipush (v := iI 10) hx hb dX0_changeLight_5 (by decide +kernel) ?_
  refine r_idiv hx hb dX0_changeLight_7 (by omega) (by omega) ?_
  refine r_iald hx hb hK hP 1 0 rfl rfl (Nat.le_of_ble_eq_true rfl) (by omega) dX0_changeLight_8 ?_
  have hv1 := hB0 (a / 10)
  refine lv_istore_n (lv' := [(3, .int (iI (τ 0 (a / 10)))), (0, .ref (B 100)), (1, .int (iI a)), (2, .int (iI b))]) hx hb dX0_changeLight_9 rfl hl (by decide) rfl (fun ls hl => ?_)
  refine lv_aload_n hx hb dX0_changeLight_10 rfl (lv_at hl 1 rfl) ?_
  refine va_get (D := D) (ci := 0) (v := .ref (B 0)) (C := RX0) (T := TX0) (N := 4) hx hb hts (fun _ h => List.mem_cons_of_mem _ (List.mem_append_right _ h)) hown hK hP 0 rfl rfl 0 (by decide) (hts _ fl_X0_changeLight_9) (fun _ h9 => h9) rfl dX0_changeLight_11 ?_
  refine lv_iload_n hx hb dX0_changeLight_14 rfl (lv_at hl 2 rfl) ?_
  refine lv_bipush (v := iI 10) hx hb dX0_changeLight_15 (by decide +kernel) ?_
  refine r_idiv hx hb dX0_changeLight_17 (by omega) (by omega) ?_
  refine lv_iload_n hx hb dX0_changeLight_18 rfl (lv_at hl 3 rfl) ?_
  refine r_iast hx hb hK hP hD hS 1 0 rfl rfl (Nat.le_of_ble_eq_true rfl) (by omega) dX0_changeLight_19 (fun H locs hP hD hS => ?_)
  have hP : va_P D vwCl (wL cy B (su τ 0 (up (τ 0) (a / 10) b))) H := hP
  have hD : va_D AA (wL cy B (su τ 0 (up (τ 0) (a / 10) b))) := hD
  refine lv_iload_n hx hb dX0_changeLight_20 rfl (lv_at hl 0 rfl) ?_
  exact r_retM () hx hb hr hlocks hS dX0_changeLight_21 rfl trivial hP
theorem fl_X0_changePercent_15 : Cond.fieldLink RX0 15 "NoiseLamps$Lamps" "percents" "[I" ∈ wsX0_changePercent := by decide +kernel
set_option maxHeartbeats 4000000 in
set_option maxRecDepth 100000 in
theorem c_X0_changePercent (l : Launch) (D : va_G) (cy : ClassId) (B : Nat → Nat) (τ : Nat → Int → Int) (sz : Nat) (a b : Int) (hI : invL τ) (ha : 0 ≤ a ∧ a < 24) (hb2 : 0 ≤ b ∧ b ≤ 100) : MetM l yX0_changePercent wsX0_changePercent ({ frames := 0, cells := 0, slots := 0, locals := 0 } : Room) D cy (wL cy B τ) ([.ref (B 100), .int (iI a), .int (iI b)] : List Value) sz (fun _ : Unit => (τ 1 a)) (fun _ : Unit => True) (fun _ : Unit => wL cy B (su τ 1 (up (τ 1) a b))) := by
  refine met_M (cc := cX0_changePercent) (maxL := 4) (ret := (some .int)) (by decide) rfl (Nat.le_of_ble_eq_true rfl) ?_
  intro p e s m below meth c AA hAA hx hb hr hml hts hown hlocks hP hK hD hA ls hl
  have hS : va_S AA s.heap s.heap [] := va_S.rf
  have hown : s.vm.findClass RX0 = some m.cls := hown
  have hl : lv_has ls 4 [(0, .ref (B 100)), (1, .int (iI a)), (2, .int (iI b))] := hl
  obtain ⟨hL3, hB0, hB1, hB2⟩ := id hI
  refine lv_aload_n hx hb dX0_changePercent_0 rfl (lv_at hl 0 rfl) ?_
  refine va_get (D := D) (ci := 0) (v := .ref (B 1)) (C := RX0) (T := TX0) (N := 4) hx hb hts (fun _ h => List.mem_cons_of_mem _ (List.mem_append_right _ h)) hown hK hP 0 rfl rfl 1 (by decide) (hts _ fl_X0_changePercent_15) (fun _ h9 => h9) rfl dX0_changePercent_1 ?_
  refine lv_iload_n hx hb dX0_changePercent_4 rfl (lv_at hl 1 rfl) ?_
  refine r_iald hx hb hK hP 2 0 rfl rfl (Nat.le_of_ble_eq_true rfl) (by omega) dX0_changePercent_5 ?_
  have hv1 := hB1 a
  refine lv_istore_n (lv' := [(3, .int (iI (τ 1 a))), (0, .ref (B 100)), (1, .int (iI a)), (2, .int (iI b))]) hx hb dX0_changePercent_6 rfl hl (by decide) rfl (fun ls hl => ?_)
  refine lv_aload_n hx hb dX0_changePercent_7 rfl (lv_at hl 1 rfl) ?_
  refine va_get (D := D) (ci := 0) (v := .ref (B 1)) (C := RX0) (T := TX0) (N := 4) hx hb hts (fun _ h => List.mem_cons_of_mem _ (List.mem_append_right _ h)) hown hK hP 0 rfl rfl 1 (by decide) (hts _ fl_X0_changePercent_15) (fun _ h9 => h9) rfl dX0_changePercent_8 ?_
  refine lv_iload_n hx hb dX0_changePercent_11 rfl (lv_at hl 2 rfl) ?_
  refine lv_iload_n hx hb dX0_changePercent_12 rfl (lv_at hl 3 rfl) ?_
  refine r_iast hx hb hK hP hD hS 2 0 rfl rfl (Nat.le_of_ble_eq_true rfl) (by omega) dX0_changePercent_13 (fun H locs hP hD hS => ?_)
  have hP : va_P D vwCl (wL cy B (su τ 1 (up (τ 1) a b))) H := hP
  have hD : va_D AA (wL cy B (su τ 1 (up (τ 1) a b))) := hD
  refine lv_iload_n hx hb dX0_changePercent_14 rfl (lv_at hl 0 rfl) ?_
  exact r_retM () hx hb hr hlocks hS dX0_changePercent_15 rfl trivial hP
theorem fl_X0_litDistances_9 : Cond.fieldLink RX0 9 "NoiseLamps$Lamps" "light" "[I" ∈ wsX0_litDistances := by decide +kernel
set_option maxHeartbeats 4000000 in
set_option maxRecDepth 100000 in
theorem c_X0_litDistances (l : Launch) (D : va_G) (cy : ClassId) (B : Nat → Nat) (τ : Nat → Int → Int) (hI : invL τ) : MetR l yX0_litDistances wsX0_litDistances ({ frames := 0, cells := 0, slots := 0, locals := 0 } : Room) D cy (wL cy B τ) ([.ref (B 100)] : List Value) (lLit τ) := by
  refine met_R (cc := cX0_litDistances) (maxL := 3) (ret := (some .int)) (by decide) rfl (Nat.le_of_ble_eq_true rfl) ?_
  intro p e s m below meth c hx hb hr hml hts hown hlocks hP hK ls hl
  have hown : s.vm.findClass RX0 = some m.cls := hown
  have hl : lv_has ls 3 [(0, .ref (B 100))] := hl
  obtain ⟨hL3, hB0, hB1, hB2⟩ := id hI
  refine lv_iconst (v := iI 0) hx hb dX0_litDistances_0 rfl ?_
  refine lv_istore_n (lv' := [(1, .int (iI 0)), (0, .ref (B 100))]) hx hb dX0_litDistances_1 rfl hl (by decide) rfl (fun ls hl => ?_)
  refine lv_iconst (v := iI 0) hx hb dX0_litDistances_2 rfl ?_
  refine lv_istore_n (lv' := [(2, .int (iI 0)), (1, .int (iI 0)), (0, .ref (B 100))]) hx hb dX0_litDistances_3 rfl hl (by decide) rfl (fun ls hl => ?_)
  have lp4_1 : ∀ (nlp4_1 : Nat) (i : Int) (g : Int) (ls : Array Slot), (0 ≤ i ∧ i ≤ 31) → (g = fo (lLitF τ) 0 i) → (31 - i < (nlp4_1 : Int)) → lv_has ls 3 [(2, .int (iI i)), (1, .int (iI g)), (0, .ref (B 100))] → W p l e ({ frames := 0, cells := 0, slots := 0, locals := 0 } : Room) s m ([.ref (B 100)] : List Value).toArray below meth c s.heap [] 0 0 (MQ below (vp_Si (fun r => r = iI (lLit τ))) ([.ref (B 100)] : List Value).toArray s 0 0 (fun _ => False)) (F0 m 4 ls []) := by
    intro nlp4_1
    induction nlp4_1 with
    | zero => intro i g ls hi hg hn hl; exact absurd hn (by omega)
    | succ nlp4_1 ihlp4_1 =>
      intro i g ls hi hg hn hl
      refine lv_iload_n hx hb dX0_litDistances_4 rfl (lv_at hl 0 rfl) ?_
      refine lv_aload_n hx hb dX0_litDistances_5 rfl (lv_at hl 2 rfl) ?_
      refine va_get (D := D) (ci := 0) (v := .ref (B 0)) (C := RX0) (T := TX0) (N := 4) hx hb hts (fun _ h => List.mem_cons_of_mem _ (List.mem_append_right _ h)) hown hK hP 0 rfl rfl 0 (by decide) (hts _ fl_X0_litDistances_9) (fun _ h9 => h9) rfl dX0_litDistances_6 ?_
      refine va_alen (v := iI 31) hx hb hK hP 1 0 rfl rfl (show Int32.ofNat 31 = iI 31 from by decide +kernel) dX0_litDistances_9 ?_
      refine r_icmp_ge (tgt := 31) hx hb dX0_litDistances_10 (by decide) (by omega) (by omega) (fun h2 => ?_) (fun h2 => ?_)
      · -- 10 to 31
        refine lv_iload_n hx hb dX0_litDistances_31 rfl (lv_at hl 1 rfl) ?_
        exact r_ret hx hb hr hlocks dX0_litDistances_32 (by rw [hg, show i = 31 from by omega]; rfl)
      · -- 10 to 13
        refine lv_aload_n hx hb dX0_litDistances_13 rfl (lv_at hl 2 rfl) ?_
        refine va_get (D := D) (ci := 0) (v := .ref (B 0)) (C := RX0) (T := TX0) (N := 4) hx hb hts (fun _ h => List.mem_cons_of_mem _ (List.mem_append_right _ h)) hown hK hP 0 rfl rfl 0 (by decide) (hts _ fl_X0_litDistances_9) (fun _ h9 => h9) rfl dX0_litDistances_14 ?_
        refine lv_iload_n hx hb dX0_litDistances_17 rfl (lv_at hl 0 rfl) ?_
        refine r_iald hx hb hK hP 1 0 rfl rfl (Nat.le_of_ble_eq_true rfl) (by omega) dX0_litDistances_18 ?_
        have hv3 := hB0 i
        refine r_if_le (tgt := 25) hx hb dX0_litDistances_19 (by decide) (by omega) (fun h4 => ?_) (fun h4 => ?_)
        · -- 19 to 25
          refine r_iinc (a := i) (b := (i + 1)) (lv2 := [(2, .int (iI (i + 1))), (1, .int (iI g)), (0, .ref (B 100))]) hx hb dX0_litDistances_25 hl (k := 0) rfl (by omega) (by decide) rfl (fun ls hl => ?_)
          refine lv_goto (tgt := 4) hx hb dX0_litDistances_28 (by decide) ?_
          exact ihlp4_1 (i + 1) g ls (by omega) (by rw [fo_s _ _ (by omega), ← hg]; unfold lLitF; first | rw [if_pos (by omega)] | rw [if_neg (by omega)]) (by omega) (lv_sub hl [0, 1, 2] rfl)
        · -- 19 to 22
          refine r_iinc (a := g) (b := (g + 1)) (lv2 := [(1, .int (iI (g + 1))), (2, .int (iI i)), (0, .ref (B 100))]) hx hb dX0_litDistances_22 hl (k := 1) rfl (by omega) (by decide) rfl (fun ls hl => ?_)
          refine r_iinc (a := i) (b := (i + 1)) (lv2 := [(2, .int (iI (i + 1))), (1, .int (iI (g + 1))), (0, .ref (B 100))]) hx hb dX0_litDistances_25 hl (k := 1) rfl (by omega) (by decide) rfl (fun ls hl => ?_)
          refine lv_goto (tgt := 4) hx hb dX0_litDistances_28 (by decide) ?_
          exact ihlp4_1 (i + 1) (g + 1) ls (by omega) (by rw [fo_s _ _ (by omega), ← hg]; unfold lLitF; first | rw [if_pos (by omega)] | rw [if_neg (by omega)]) (by omega) (lv_sub hl [0, 1, 2] rfl)
  exact lp4_1 _ 0 0 ls (by omega) rfl (lt_tn _) (lv_sub hl [0, 1, 2] rfl)
theorem fl_X0_lightFrom_9 : Cond.fieldLink RX0 9 "NoiseLamps$Lamps" "light" "[I" ∈ wsX0_lightFrom := by decide +kernel
set_option maxHeartbeats 4000000 in
set_option maxRecDepth 100000 in
theorem c_X0_lightFrom (l : Launch) (D : va_G) (cy : ClassId) (B : Nat → Nat) (τ : Nat → Int → Int) (a : Int) (hI : invL τ) (ha : 0 ≤ a ∧ a ≤ 2147483647) : MetR l yX0_lightFrom wsX0_lightFrom ({ frames := 0, cells := 0, slots := 0, locals := 0 } : Room) D cy (wL cy B τ) ([.ref (B 100), .int (iI a)] : List Value) (lFrom τ a) := by
  refine met_R (cc := cX0_lightFrom) (maxL := 4) (ret := (some .int)) (by decide) rfl (Nat.le_of_ble_eq_true rfl) ?_
  intro p e s m below meth c hx hb hr hml hts hown hlocks hP hK ls hl
  have hown : s.vm.findClass RX0 = some m.cls := hown
  have hl : lv_has ls 4 [(0, .ref (B 100)), (1, .int (iI a))] := hl
  obtain ⟨hL3, hB0, hB1, hB2⟩ := id hI
  refine lv_iload_n hx hb dX0_lightFrom_0 rfl (lv_at hl 1 rfl) ?_
  refine lv_sipush (v := iI 300) hx hb dX0_lightFrom_1 (by decide +kernel) ?_
  refine r_icmp_le (tgt := 9) hx hb dX0_lightFrom_4 (by decide) (by omega) (by omega) (fun h1 => ?_) (fun h1 => ?_)
  · -- 4 to 9
    refine lv_iload_n hx hb dX0_lightFrom_9 rfl (lv_at hl 1 rfl) ?_
    refine lv_bipush (v := iI 10) hx hb dX0_lightFrom_10 (by decide +kernel) ?_
    refine r_idiv hx hb dX0_lightFrom_12 (by omega) (by omega) ?_
    refine lv_istore_n (lv' := [(2, .int (iI (a / 10))), (0, .ref (B 100)), (1, .int (iI a))]) hx hb dX0_lightFrom_13 rfl hl (by decide) rfl (fun ls hl => ?_)
    refine lv_iload_n hx hb dX0_lightFrom_14 rfl (lv_at hl 2 rfl) ?_
    refine lv_bipush (v := iI 10) hx hb dX0_lightFrom_15 (by decide +kernel) ?_
    refine r_irem hx hb dX0_lightFrom_17 (by omega) (by omega) ?_
    refine lv_istore_n (lv' := [(3, .int (iI (a % 10))), (2, .int (iI (a / 10))), (0, .ref (B 100)), (1, .int (iI a))]) hx hb dX0_lightFrom_18 rfl hl (by decide) rfl (fun ls hl => ?_)
    refine lv_iload_n hx hb dX0_lightFrom_19 rfl (lv_at hl 0 rfl) ?_
    refine r_if_ne (tgt := 30) hx hb dX0_lightFrom_20 (by decide) (by omega) (fun h2 => ?_) (fun h2 => ?_)
    · -- 20 to 30
      refine lv_aload_n hx hb dX0_lightFrom_30 rfl (lv_at hl 2 rfl) ?_
      refine va_get (D := D) (ci := 0) (v := .ref (B 0)) (C := RX0) (T := TX0) (N := 4) hx hb hts (fun _ h => List.mem_cons_of_mem _ (List.mem_append_right _ h)) hown hK hP 0 rfl rfl 0 (by decide) (hts _ fl_X0_lightFrom_9) (fun _ h9 => h9) rfl dX0_lightFrom_31 ?_
      refine lv_iload_n hx hb dX0_lightFrom_34 rfl (lv_at hl 1 rfl) ?_
      refine r_iald hx hb hK hP 1 0 rfl rfl (Nat.le_of_ble_eq_true rfl) (by omega) dX0_lightFrom_35 ?_
      have hv3 := hB0 (a / 10)
      refine lv_bipush (v := iI 10) hx hb dX0_lightFrom_36 (by decide +kernel) ?_
      refine lv_iload_n hx hb dX0_lightFrom_38 rfl (lv_at hl 0 rfl) ?_
      refine r_isub hx hb dX0_lightFrom_39 ?_
      have hm0 := mul_bd (a := (τ 0 (a / 10))) (b := (10 - (a % 10))) (A := 100000) (B := 10) (by omega) (by omega)
      refine r_imul hx hb dX0_lightFrom_40 ?_
      refine lv_aload_n hx hb dX0_lightFrom_41 rfl (lv_at hl 2 rfl) ?_
      refine va_get (D := D) (ci := 0) (v := .ref (B 0)) (C := RX0) (T := TX0) (N := 4) hx hb hts (fun _ h => List.mem_cons_of_mem _ (List.mem_append_right _ h)) hown hK hP 0 rfl rfl 0 (by decide) (hts _ fl_X0_lightFrom_9) (fun _ h9 => h9) rfl dX0_lightFrom_42 ?_
      refine lv_iload_n hx hb dX0_lightFrom_45 rfl (lv_at hl 1 rfl) ?_
      refine lv_iconst (v := iI 1) hx hb dX0_lightFrom_46 rfl ?_
      refine r_iadd hx hb dX0_lightFrom_47 ?_
      refine r_iald hx hb hK hP 1 0 rfl rfl (Nat.le_of_ble_eq_true rfl) (by omega) dX0_lightFrom_48 ?_
      have hv5 := hB0 ((a / 10) + 1)
      refine lv_iload_n hx hb dX0_lightFrom_49 rfl (lv_at hl 0 rfl) ?_
      have hm1 := mul_bd (a := (τ 0 ((a / 10) + 1))) (b := (a % 10)) (A := 100000) (B := 10) (by omega) (by omega)
      refine r_imul hx hb dX0_lightFrom_50 ?_
      refine r_iadd hx hb dX0_lightFrom_51 ?_
      refine lv_bipush (v := iI 10) hx hb dX0_lightFrom_52 (by decide +kernel) ?_
      refine r_idiv hx hb dX0_lightFrom_54 (by omega) (by omega) ?_
      exact r_ret hx hb hr hlocks dX0_lightFrom_55 (by unfold lFrom; rw [if_neg (by omega), if_neg (by omega)])
    · -- 20 to 23
      refine lv_aload_n hx hb dX0_lightFrom_23 rfl (lv_at hl 2 rfl) ?_
      refine va_get (D := D) (ci := 0) (v := .ref (B 0)) (C := RX0) (T := TX0) (N := 4) hx hb hts (fun _ h => List.mem_cons_of_mem _ (List.mem_append_right _ h)) hown hK hP 0 rfl rfl 0 (by decide) (hts _ fl_X0_lightFrom_9) (fun _ h9 => h9) rfl dX0_lightFrom_24 ?_
      refine lv_iload_n hx hb dX0_lightFrom_27 rfl (lv_at hl 1 rfl) ?_
      refine r_iald hx hb hK hP 1 0 rfl rfl (Nat.le_of_ble_eq_true rfl) (by omega) dX0_lightFrom_28 ?_
      have hv7 := hB0 (a / 10)
      exact r_ret hx hb hr hlocks dX0_lightFrom_29 (by unfold lFrom; rw [if_neg (by omega), if_pos (by omega)])
  · -- 4 to 7
    refine lv_iconst (v := iI 0) hx hb dX0_lightFrom_7 rfl ?_
    exact r_ret hx hb hr hlocks dX0_lightFrom_8 (by unfold lFrom; rw [if_pos (by omega)])
theorem fl_X0_poles_21 : Cond.fieldLink RX0 21 "NoiseLamps$Lamps" "length" "I" ∈ wsX0_poles := by decide +kernel
set_option maxHeartbeats 4000000 in
set_option maxRecDepth 100000 in
theorem c_X0_poles (l : Launch) (D : va_G) (cy : ClassId) (B : Nat → Nat) (τ : Nat → Int → Int) (sp : Int) (hI : invL τ) (hs1 : 10 ≤ sp ∧ sp ≤ 600) : MetR l yX0_poles wsX0_poles ({ frames := 0, cells := 0, slots := 0, locals := 0 } : Room) D cy (wL cy B τ) ([.ref (B 100), .int (iI sp)] : List Value) (τ 3 0 / sp + 1) := by
  refine met_R (cc := cX0_poles) (maxL := 2) (ret := (some .int)) (by decide) rfl (Nat.le_of_ble_eq_true rfl) ?_
  intro p e s m below meth c hx hb hr hml hts hown hlocks hP hK ls hl
  have hown : s.vm.findClass RX0 = some m.cls := hown
  have hl : lv_has ls 2 [(0, .ref (B 100)), (1, .int (iI sp))] := hl
  obtain ⟨hL3, hB0, hB1, hB2⟩ := id hI
  have hpo := pol_bd hL3 hs1.1
  refine lv_aload_n hx hb dX0_poles_0 rfl (lv_at hl 0 rfl) ?_
  refine va_get (D := D) (ci := 0) (v := .int (iI (τ 3 0))) (C := RX0) (T := TX0) (N := 4) hx hb hts (fun _ h => List.mem_cons_of_mem _ (List.mem_append_right _ h)) hown hK hP 0 rfl rfl 3 (by decide) (hts _ fl_X0_poles_21) (fun _ h9 => h9) rfl dX0_poles_1 ?_
  refine lv_iload_n hx hb dX0_poles_4 rfl (lv_at hl 1 rfl) ?_
  refine r_idiv hx hb dX0_poles_5 (by omega) (by omega) ?_
  refine lv_iconst (v := iI 1) hx hb dX0_poles_6 rfl ?_
  refine r_iadd hx hb dX0_poles_7 ?_
  exact r_ret hx hb hr hlocks dX0_poles_8 rfl
theorem fl_X0_places_21 : Cond.fieldLink RX0 21 "NoiseLamps$Lamps" "length" "I" ∈ wsX0_places := by decide +kernel
set_option maxHeartbeats 4000000 in
set_option maxRecDepth 100000 in
theorem c_X0_places (l : Launch) (D : va_G) (cy : ClassId) (B : Nat → Nat) (τ : Nat → Int → Int) (hI : invL τ) : MetR l yX0_places wsX0_places ({ frames := 0, cells := 0, slots := 0, locals := 0 } : Room) D cy (wL cy B τ) ([.ref (B 100)] : List Value) (τ 3 0 / 10 + 1) := by
  refine met_R (cc := cX0_places) (maxL := 1) (ret := (some .int)) (by decide) rfl (Nat.le_of_ble_eq_true rfl) ?_
  intro p e s m below meth c hx hb hr hml hts hown hlocks hP hK ls hl
  have hown : s.vm.findClass RX0 = some m.cls := hown
  have hl : lv_has ls 1 [(0, .ref (B 100))] := hl
  obtain ⟨hL3, hB0, hB1, hB2⟩ := id hI
  refine lv_aload_n hx hb dX0_places_0 rfl (lv_at hl 0 rfl) ?_
  refine va_get (D := D) (ci := 0) (v := .int (iI (τ 3 0))) (C := RX0) (T := TX0) (N := 4) hx hb hts (fun _ h => List.mem_cons_of_mem _ (List.mem_append_right _ h)) hown hK hP 0 rfl rfl 3 (by decide) (hts _ fl_X0_places_21) (fun _ h9 => h9) rfl dX0_places_1 ?_
  refine lv_bipush (v := iI 10) hx hb dX0_places_4 (by decide +kernel) ?_
  refine r_idiv hx hb dX0_places_6 (by omega) (by omega) ?_
  refine lv_iconst (v := iI 1) hx hb dX0_places_7 rfl ?_
  refine r_iadd hx hb dX0_places_8 ?_
  exact r_ret hx hb hr hlocks dX0_places_9 rfl
theorem fl_X0_lightAt_21 : Cond.fieldLink RX0 21 "NoiseLamps$Lamps" "length" "I" ∈ wsX0_lightAt := by decide +kernel
set_option maxHeartbeats 4000000 in
set_option maxRecDepth 100000 in
theorem c_X0_lightAt (l : Launch) (D : va_G) (cy : ClassId) (B : Nat → Nat) (τ : Nat → Int → Int) (pl sp : Int) (hI : invL τ) (hp1 : 0 ≤ pl ∧ pl ≤ τ 3 0) (hs1 : 10 ≤ sp ∧ sp ≤ 600) : MetR l yX0_lightAt wsX0_lightAt ({ frames := 1, cells := 0, slots := 0, locals := 23 } : Room) D cy (wL cy B τ) ([.ref (B 100), .int (iI pl), .int (iI sp)] : List Value) (lAt τ pl sp) := by
  refine met_R (cc := cX0_lightAt) (maxL := 6) (ret := (some .int)) (by decide) rfl (Nat.le_of_ble_eq_true rfl) ?_
  intro p e s m below meth c hx hb hr hml hts hown hlocks hP hK ls hl
  have hown : s.vm.findClass RX0 = some m.cls := hown
  have hl : lv_has ls 6 [(0, .ref (B 100)), (1, .int (iI pl)), (2, .int (iI sp))] := hl
  obtain ⟨hL3, hB0, hB1, hB2⟩ := id hI
  refine lv_aload_n hx hb dX0_lightAt_0 rfl (lv_at hl 0 rfl) ?_
  refine va_get (D := D) (ci := 0) (v := .int (iI (τ 3 0))) (C := RX0) (T := TX0) (N := 4) hx hb hts (fun _ h => List.mem_cons_of_mem _ (List.mem_append_right _ h)) hown hK hP 0 rfl rfl 3 (by decide) (hts _ fl_X0_lightAt_21) (fun _ h9 => h9) rfl dX0_lightAt_1 ?_
  refine lv_iload_n hx hb dX0_lightAt_4 rfl (lv_at hl 1 rfl) ?_
  refine lv_sipush (v := iI 300) hx hb dX0_lightAt_5 (by decide +kernel) ?_
  refine r_iadd hx hb dX0_lightAt_8 ?_
  refine r_mmin hx hb (by rw [hml]; exact hl.1.symm) hown (hts (.methodLink RX0 58 Lib.Math.min.name) (by decide +kernel)) (hts (.static Lib.Math.min.name) (by decide +kernel)) (hts (.initialized "java/lang/Math") (by decide +kernel)) (hts (.code Lib.Math.min.name Lib.Math.min.code 2 (some .int)) (by decide +kernel)) (Nat.le_of_ble_eq_true rfl) (Nat.le_of_ble_eq_true rfl) (Nat.le_of_ble_eq_true rfl) (Nat.le_of_ble_eq_true rfl) (by omega) (by omega) dX0_lightAt_9 ?_
  have hm1 := mnZ_s (τ 3 0) (pl + 300)
  refine lv_iload_n hx hb dX0_lightAt_12 rfl (lv_at hl 2 rfl) ?_
  refine r_idiv hx hb dX0_lightAt_13 (by omega) (by omega) ?_
  have hfar := pol_bd (n := (mnZ (τ 3 0) (pl + 300))) (sp := sp) (by omega) hs1.1
  refine lv_istore_n (lv' := [(3, .int (iI ((mnZ (τ 3 0) (pl + 300)) / sp))), (0, .ref (B 100)), (1, .int (iI pl)), (2, .int (iI sp))]) hx hb dX0_lightAt_14 rfl hl (by decide) rfl (fun ls hl => ?_)
  refine lv_iconst (v := iI 0) hx hb dX0_lightAt_15 rfl ?_
  refine lv_istore (lv' := [(4, .int (iI 0)), (3, .int (iI ((mnZ (τ 3 0) (pl + 300)) / sp))), (0, .ref (B 100)), (1, .int (iI pl)), (2, .int (iI sp))]) hx hb dX0_lightAt_16 hl (by decide) rfl (fun ls hl => ?_)
  refine lv_iload_n hx hb dX0_lightAt_18 rfl (lv_at hl 3 rfl) ?_
  refine lv_iload_n hx hb dX0_lightAt_19 rfl (lv_at hl 4 rfl) ?_
  refine r_calli (va_runS (As := [.int (iI pl), .int (iI sp)]) (rest := []) ⟨hx, hb, hml, hown, hts⟩ (c_X0_firstPoleInReach l  pl sp (by omega) (by omega)) (va_cwS 2 hts gX0_lightAt_X0_firstPoleInReach rfl rfl rfl (by decide +kernel) ⟨Nat.le_of_ble_eq_true rfl, Nat.le_of_ble_eq_true rfl⟩) ps_T rfl rfl hl.1 rfl (lv_room (Nat.le_of_ble_eq_true rfl)) dX0_lightAt_20 ⟨Nat.le_of_ble_eq_true rfl, Nat.le_of_ble_eq_true rfl⟩) ?_
  have hf3 := lFirstK_bd (pl := pl) (sp := sp) (by omega) (by omega)
  refine lv_istore (lv' := [(5, .int (iI (lFirstK pl sp))), (4, .int (iI 0)), (3, .int (iI ((mnZ (τ 3 0) (pl + 300)) / sp))), (0, .ref (B 100)), (1, .int (iI pl)), (2, .int (iI sp))]) hx hb dX0_lightAt_23 hl (by decide) rfl (fun ls hl => ?_)
  have lp25_4 : ∀ (nlp25_4 : Nat) (q : Int) (g : Int) (ls : Array Slot), (0 ≤ q ∧ q ≤ 600) → (lAt τ pl sp = g + lSum (lAtF τ pl) sp (mnZ (τ 3 0) (pl + 300)) (q * sp)) → (601 - q < (nlp25_4 : Int)) → lv_has ls 6 [(5, .int (iI q)), (4, .int (iI g)), (3, .int (iI ((mnZ (τ 3 0) (pl + 300)) / sp))), (0, .ref (B 100)), (1, .int (iI pl)), (2, .int (iI sp))] → W p l e ({ frames := 1, cells := 0, slots := 0, locals := 23 } : Room) s m ([.ref (B 100), .int (iI pl), .int (iI sp)] : List Value).toArray below meth c s.heap [] 0 0 (MQ below (vp_Si (fun r => r = iI (lAt τ pl sp))) ([.ref (B 100), .int (iI pl), .int (iI sp)] : List Value).toArray s 0 0 (fun _ => False)) (F0 m 25 ls []) := by
    intro nlp25_4
    induction nlp25_4 with
    | zero => intro q g ls hq1 hg hn hl; exact absurd hn (by omega)
    | succ nlp25_4 ihlp25_4 =>
      intro q g ls hq1 hg hn hl
      refine lv_iload hx hb dX0_lightAt_25 (lv_at hl 0 rfl) ?_
      refine lv_iload_n hx hb dX0_lightAt_27 rfl (lv_at hl 2 rfl) ?_
      refine r_icmp_gt (tgt := 55) hx hb dX0_lightAt_28 (by decide) (by omega) (by omega) (fun h5 => ?_) (fun h5 => ?_)
      · -- 28 to 55
        have hq2 := lq_gt (q := q) (far := (mnZ (τ 3 0) (pl + 300))) hs1.1 (by omega)
        refine lv_iload hx hb dX0_lightAt_55 (lv_at hl 1 rfl) ?_
        exact r_ret hx hb hr hlocks dX0_lightAt_57 (by rw [hg, ls_end _ (by omega), Int.add_zero])
      · -- 28 to 31
        have hq2 := lq_le (q := q) (far := (mnZ (τ 3 0) (pl + 300))) hs1.1 (by omega)
        have hq3 := Int.mul_nonneg hq1.1 (show 0 ≤ sp by omega)
        refine lv_iload hx hb dX0_lightAt_31 (lv_at hl 1 rfl) ?_
        refine lv_aload_n hx hb dX0_lightAt_33 rfl (lv_at hl 3 rfl) ?_
        refine lv_iload_n hx hb dX0_lightAt_34 rfl (lv_at hl 4 rfl) ?_
        refine lv_iload hx hb dX0_lightAt_35 (lv_at hl 0 rfl) ?_
        refine lv_iload_n hx hb dX0_lightAt_37 rfl (lv_at hl 5 rfl) ?_
        refine r_imul hx hb dX0_lightAt_38 ?_
        refine r_isub hx hb dX0_lightAt_39 ?_
        refine r_mabs hx hb (by rw [hml]; exact hl.1.symm) hown (hts (.methodLink RX0 66 Lib.Math.abs.name) (by decide +kernel)) (hts (.static Lib.Math.abs.name) (by decide +kernel)) (hts (.initialized "java/lang/Math") (by decide +kernel)) (hts (.code Lib.Math.abs.name Lib.Math.abs.code 1 (some .int)) (by decide +kernel)) (Nat.le_of_ble_eq_true rfl) (Nat.le_of_ble_eq_true rfl) (Nat.le_of_ble_eq_true rfl) (Nat.le_of_ble_eq_true rfl) (by omega) dX0_lightAt_40 ?_
        have hm9 := abZ_s (pl - (q * sp))
        refine r_calli (va_runV (As := [.int (iI (abZ (pl - (q * sp))))]) (rest := [.int (iI g)]) ⟨hx, hb, hml, hown, hts⟩ (c_X0_lightFrom l D cy B τ (abZ (pl - (q * sp))) hI (by omega)) (cwV 1 hts gX0_lightAt_X0_lightFrom rfl rfl rfl (by decide +kernel) ⟨Nat.le_of_ble_eq_true rfl, Nat.le_of_ble_eq_true rfl⟩) (pv_ro (C := RX0) (T := TX0) (N := 4) (ci := 0) (q0 := 0) hP hK rfl rfl) rfl rfl hl.1 rfl (lv_room (Nat.le_of_ble_eq_true rfl)) dX0_lightAt_43 ⟨Nat.le_of_ble_eq_true rfl, Nat.le_of_ble_eq_true rfl⟩) ?_
        have hf10 := lFrom_bd (τ := τ) hB0 (d := (abZ (pl - (q * sp)))) (by omega)
        refine r_iadd hx hb dX0_lightAt_46 ?_
        refine lv_istore (lv' := [(4, .int (iI (g + (lFrom τ (abZ (pl - (q * sp))))))), (5, .int (iI q)), (3, .int (iI ((mnZ (τ 3 0) (pl + 300)) / sp))), (0, .ref (B 100)), (1, .int (iI pl)), (2, .int (iI sp))]) hx hb dX0_lightAt_47 hl (by decide) rfl (fun ls hl => ?_)
        refine r_iinc (a := q) (b := (q + 1)) (lv2 := [(5, .int (iI (q + 1))), (4, .int (iI (g + (lFrom τ (abZ (pl - (q * sp))))))), (3, .int (iI ((mnZ (τ 3 0) (pl + 300)) / sp))), (0, .ref (B 100)), (1, .int (iI pl)), (2, .int (iI sp))]) hx hb dX0_lightAt_49 hl (k := 1) rfl (by omega) (by decide) rfl (fun ls hl => ?_)
        refine lv_goto (tgt := 25) hx hb dX0_lightAt_52 (by decide) ?_
        exact ihlp25_4 (q + 1) (g + (lFrom τ (abZ (pl - (q * sp))))) ls (by omega) (by rw [hg, ls_step _ (by omega) (by omega), ← Int.add_assoc, show (q + 1) * sp = q * sp + sp from by rw [Int.add_mul, Int.one_mul]]; rfl) (by omega) (lv_sub hl [0, 1, 2, 3, 4, 5] rfl)
  exact lp25_4 _ (lFirstK pl sp) 0 ls (by omega) (by rw [Int.zero_add, ← lFirst_K]; rfl) (lt_tn _) (lv_sub hl [0, 1, 2, 3, 4, 5] rfl)
theorem fl_X0_dimmedLight_15 : Cond.fieldLink RX0 15 "NoiseLamps$Lamps" "percents" "[I" ∈ wsX0_dimmedLight := by decide +kernel
set_option maxHeartbeats 4000000 in
set_option maxRecDepth 100000 in
theorem c_X0_dimmedLight (l : Launch) (D : va_G) (cy : ClassId) (B : Nat → Nat) (τ : Nat → Int → Int) (pl sp h0 : Int) (hI : invL τ) (hp1 : 0 ≤ pl ∧ pl ≤ τ 3 0) (hs1 : 10 ≤ sp ∧ sp ≤ 600) (hh : 0 ≤ h0 ∧ h0 < 24) : MetR l yX0_dimmedLight wsX0_dimmedLight ({ frames := 2, cells := 0, slots := 0, locals := 48 } : Room) D cy (wL cy B τ) ([.ref (B 100), .int (iI pl), .int (iI sp), .int (iI h0)] : List Value) (lAt τ pl sp * τ 1 h0 / 100) := by
  refine met_R (cc := cX0_dimmedLight) (maxL := 4) (ret := (some .int)) (by decide) rfl (Nat.le_of_ble_eq_true rfl) ?_
  intro p e s m below meth c hx hb hr hml hts hown hlocks hP hK ls hl
  have hown : s.vm.findClass RX0 = some m.cls := hown
  have hl : lv_has ls 4 [(0, .ref (B 100)), (1, .int (iI pl)), (2, .int (iI sp)), (3, .int (iI h0))] := hl
  obtain ⟨hL3, hB0, hB1, hB2⟩ := id hI
  refine lv_aload_n hx hb dX0_dimmedLight_0 rfl (lv_at hl 0 rfl) ?_
  refine lv_iload_n hx hb dX0_dimmedLight_1 rfl (lv_at hl 1 rfl) ?_
  refine lv_iload_n hx hb dX0_dimmedLight_2 rfl (lv_at hl 2 rfl) ?_
  refine r_calli (va_runV (As := [.int (iI pl), .int (iI sp)]) (rest := []) ⟨hx, hb, hml, hown, hts⟩ (c_X0_lightAt l D cy B τ pl sp hI (by omega) (by omega)) (cwV 2 hts gX0_dimmedLight_X0_lightAt rfl rfl rfl (by decide +kernel) ⟨Nat.le_of_ble_eq_true rfl, Nat.le_of_ble_eq_true rfl⟩) (pv_ro (C := RX0) (T := TX0) (N := 4) (ci := 0) (q0 := 0) hP hK rfl rfl) rfl rfl hl.1 rfl (lv_room (Nat.le_of_ble_eq_true rfl)) dX0_dimmedLight_3 ⟨Nat.le_of_ble_eq_true rfl, Nat.le_of_ble_eq_true rfl⟩) ?_
  have hf1 := lAt_bd (τ := τ) hI (pl := pl) (sp := sp) (by omega) (by omega)
  refine lv_aload_n hx hb dX0_dimmedLight_6 rfl (lv_at hl 0 rfl) ?_
  refine va_get (D := D) (ci := 0) (v := .ref (B 1)) (C := RX0) (T := TX0) (N := 4) hx hb hts (fun _ h => List.mem_cons_of_mem _ (List.mem_append_right _ h)) hown hK hP 0 rfl rfl 1 (by decide) (hts _ fl_X0_dimmedLight_15) (fun _ h9 => h9) rfl dX0_dimmedLight_7 ?_
  refine lv_iload_n hx hb dX0_dimmedLight_10 rfl (lv_at hl 3 rfl) ?_
  refine r_iald hx hb hK hP 2 0 rfl rfl (Nat.le_of_ble_eq_true rfl) (by omega) dX0_dimmedLight_11 ?_
  have hv2 := hB1 h0
  refine r_calli (va_runS (As := [.int (iI (lAt τ pl sp)), .int (iI (τ 1 h0))]) (rest := []) ⟨hx, hb, hml, hown, hts⟩ (c_X0_dimmed l  (lAt τ pl sp) (τ 1 h0) (by omega) (by omega)) (va_cwS 2 hts gX0_dimmedLight_X0_dimmed rfl rfl rfl (by decide +kernel) ⟨Nat.le_of_ble_eq_true rfl, Nat.le_of_ble_eq_true rfl⟩) ps_T rfl rfl hl.1 rfl (lv_room (Nat.le_of_ble_eq_true rfl)) dX0_dimmedLight_12 ⟨Nat.le_of_ble_eq_true rfl, Nat.le_of_ble_eq_true rfl⟩) ?_
  have hf3 := mul_bd (a := (lAt τ pl sp)) (b := (τ 1 h0)) (A := 7000000) (B := 100) (by omega) (by omega)
  exact r_ret hx hb hr hlocks dX0_dimmedLight_15 rfl
theorem fl_X0_lightPlaces_18 : Cond.fieldLink RX0 18 "NoiseLamps$Lamps" "placeLight" "[I" ∈ wsX0_lightPlaces := by decide +kernel
set_option maxHeartbeats 4000000 in
set_option maxRecDepth 100000 in
theorem c_X0_lightPlaces (l : Launch) (D : va_G) (cy : ClassId) (B : Nat → Nat) (τ : Nat → Int → Int) (sz : Nat) (sp : Int) (hI : invL τ) (hs1 : 10 ≤ sp ∧ sp ≤ 600) : MetV l yX0_lightPlaces wsX0_lightPlaces ({ frames := 2, cells := 0, slots := 0, locals := 48 } : Room) D cy (wL cy B τ) ([.ref (B 100), .int (iI sp)] : List Value) sz (fun u : (Int → Int) => (∀ k, 0 ≤ k → k < τ 3 0 / 10 + 1 → u k = lG τ sp k) ∧ (∀ k, 0 ≤ u k ∧ u k ≤ 7000000)) (fun u : (Int → Int) => wL cy B (su τ 2 u)) := by
  refine met_V (cc := cX0_lightPlaces) (maxL := 3) (ret := none) (by decide) rfl (Nat.le_of_ble_eq_true rfl) ?_
  intro p e s m below meth c AA hAA hx hb hr hml hts hown hin hlocks hP hK hD hA ls hl
  have hS : va_S AA s.heap s.heap [] := va_S.rf
  have hown : s.vm.findClass RX0 = some m.cls := hown
  have hl : lv_has ls 3 [(0, .ref (B 100)), (1, .int (iI sp))] := hl
  obtain ⟨hL3, hB0, hB1, hB2⟩ := id hI
  refine lv_iconst (v := iI 0) hx hb dX0_lightPlaces_0 rfl ?_
  refine lv_istore_n (lv' := [(2, .int (iI 0)), (0, .ref (B 100)), (1, .int (iI sp))]) hx hb dX0_lightPlaces_1 rfl hl (by decide) rfl (fun ls hl => ?_)
  have lp2_1 : ∀ (nlp2_1 : Nat) (i : Int) (g : (Int → Int)) (H : Heap) (locs : List Loc) (ls : Array Slot), (0 ≤ i ∧ i ≤ τ 3 0 / 10 + 1) → (∀ k, 0 ≤ k → k < i → g k = lG τ sp k) → (∀ k, 0 ≤ g k ∧ g k ≤ 7000000) → va_P D vwCl (wL cy B (su τ 2 g)) H → va_D AA (wL cy B (su τ 2 g)) → va_S AA s.heap H locs → (τ 3 0 / 10 + 1 - i < (nlp2_1 : Int)) → lv_has ls 3 [(2, .int (iI i)), (0, .ref (B 100)), (1, .int (iI sp))] → W p l e ({ frames := 2, cells := 0, slots := 0, locals := 48 } : Room) s m ([.ref (B 100), .int (iI sp)] : List Value).toArray below meth c H locs 0 0 (MQ below (va_Qv (fun u : (Int → Int) => (∀ k, 0 ≤ k → k < τ 3 0 / 10 + 1 → u k = lG τ sp k) ∧ (∀ k, 0 ≤ u k ∧ u k ≤ 7000000)) (fun (u : (Int → Int)) tz => va_P D vwCl ((fun u : (Int → Int) => wL cy B (su τ 2 u)) u) tz.heap) AA) ([.ref (B 100), .int (iI sp)] : List Value).toArray s 0 0 AA) (F0 m 2 ls []) := by
    intro nlp2_1
    induction nlp2_1 with
    | zero => intro i g H locs ls hi hg hgb hP hD hS hn hl; exact absurd hn (by omega)
    | succ nlp2_1 ihlp2_1 =>
      intro i g H locs ls hi hg hgb hP hD hS hn hl
      refine lv_iload_n hx hb dX0_lightPlaces_2 rfl (lv_at hl 0 rfl) ?_
      refine lv_aload_n hx hb dX0_lightPlaces_3 rfl (lv_at hl 1 rfl) ?_
      refine r_calli (va_runV (As := []) (rest := [.int (iI i)]) ⟨hx, hb, hml, hown, hts⟩ (c_X0_places l D cy B (su τ 2 g)  (invL_2 hI hgb)) (cwV 0 hts gX0_lightPlaces_X0_places rfl rfl rfl (by decide +kernel) ⟨Nat.le_of_ble_eq_true rfl, Nat.le_of_ble_eq_true rfl⟩) (pv_ro (C := RX0) (T := TX0) (N := 4) (ci := 0) (q0 := 0) hP hK rfl rfl) rfl rfl hl.1 rfl (lv_room (Nat.le_of_ble_eq_true rfl)) dX0_lightPlaces_4 ⟨Nat.le_of_ble_eq_true rfl, Nat.le_of_ble_eq_true rfl⟩) ?_
      refine W.eq (g2 := F0 m 7 ls [.int (iI (τ 3 0 / 10 + 1)), .int (iI i)]) rfl ?_
      refine r_icmp_ge (tgt := 31) hx hb dX0_lightPlaces_7 (by decide) (by omega) (by omega) (fun h2 => ?_) (fun h2 => ?_)
      · -- 7 to 31
        exact r_retV g hx hb hr hlocks hS dX0_lightPlaces_31 ⟨fun k h0 h1 => hg k h0 (by omega), hgb⟩ hP
      · -- 7 to 10
        refine lv_aload_n hx hb dX0_lightPlaces_10 rfl (lv_at hl 1 rfl) ?_
        refine va_get (D := D) (ci := 0) (v := .ref (B 2)) (C := RX0) (T := TX0) (N := 4) hx hb hts (fun _ h => List.mem_cons_of_mem _ (List.mem_append_right _ h)) hown hK hP 0 rfl rfl 2 (by decide) (hts _ fl_X0_lightPlaces_18) (fun _ h9 => h9) rfl dX0_lightPlaces_11 ?_
        refine lv_iload_n hx hb dX0_lightPlaces_14 rfl (lv_at hl 0 rfl) ?_
        refine lv_aload_n hx hb dX0_lightPlaces_15 rfl (lv_at hl 1 rfl) ?_
        refine lv_iload_n hx hb dX0_lightPlaces_16 rfl (lv_at hl 0 rfl) ?_
        refine lv_bipush (v := iI 10) hx hb dX0_lightPlaces_17 (by decide +kernel) ?_
        refine r_imul hx hb dX0_lightPlaces_19 ?_
        refine lv_iload_n hx hb dX0_lightPlaces_20 rfl (lv_at hl 2 rfl) ?_
        refine r_calli (va_runV (As := [.int (iI (i * 10)), .int (iI sp)]) (rest := [.int (iI i), .ref (B 2)]) ⟨hx, hb, hml, hown, hts⟩ (c_X0_lightAt l D cy B (su τ 2 g) (i * 10) sp (invL_2 hI hgb) (show 0 ≤ i * 10 ∧ i * 10 ≤ τ 3 0 from by omega) (by omega)) (cwV 2 hts gX0_lightPlaces_X0_lightAt rfl rfl rfl (by decide +kernel) ⟨Nat.le_of_ble_eq_true rfl, Nat.le_of_ble_eq_true rfl⟩) (pv_ro (C := RX0) (T := TX0) (N := 4) (ci := 0) (q0 := 0) hP hK rfl rfl) rfl rfl hl.1 rfl (lv_room (Nat.le_of_ble_eq_true rfl)) dX0_lightPlaces_21 ⟨Nat.le_of_ble_eq_true rfl, Nat.le_of_ble_eq_true rfl⟩) ?_
        have hf3 := lAt_bd (τ := (su τ 2 g)) (invL_2 hI hgb) (pl := (i * 10)) (sp := sp) (by omega) (by omega)
        refine r_iast hx hb hK hP hD hS 3 0 rfl rfl (Nat.le_of_ble_eq_true rfl) (by omega) dX0_lightPlaces_24 (fun H locs hP hD hS => ?_)
        have hP : va_P D vwCl (wL cy B (su (su τ 2 g) 2 (up g i (lAt (su τ 2 g) (i * 10) sp)))) H := hP
        have hD : va_D AA (wL cy B (su (su τ 2 g) 2 (up g i (lAt (su τ 2 g) (i * 10) sp)))) := hD
        refine r_iinc (a := i) (b := (i + 1)) (lv2 := [(2, .int (iI (i + 1))), (0, .ref (B 100)), (1, .int (iI sp))]) hx hb dX0_lightPlaces_25 hl (k := 0) rfl (by omega) (by decide) rfl (fun ls hl => ?_)
        refine lv_goto (tgt := 2) hx hb dX0_lightPlaces_28 (by decide) ?_
        exact ihlp2_1 (i + 1) (up g i (lAt (su τ 2 g) (i * 10) sp)) _ _ ls (by omega) (ex_step hg rfl) (up_bd hgb (lAt_bd (invL_2 hI hgb) (by omega) hs1)) hP hD hS (by omega) (lv_sub hl [0, 1, 2] rfl)
  exact lp2_1 _ 0 (τ 2) s.heap [] ls (by omega) (fun k h0 h1 => absurd h1 (by omega)) hB2 hP hD hS (lt_tn _) (lv_sub hl [0, 1, 2] rfl)
theorem fl_X0_leastOfPlaces_18 : Cond.fieldLink RX0 18 "NoiseLamps$Lamps" "placeLight" "[I" ∈ wsX0_leastOfPlaces := by decide +kernel
set_option maxHeartbeats 4000000 in
set_option maxRecDepth 100000 in
theorem c_X0_leastOfPlaces (l : Launch) (D : va_G) (cy : ClassId) (B : Nat → Nat) (τ : Nat → Int → Int) (hI : invL τ) : MetR l yX0_leastOfPlaces wsX0_leastOfPlaces ({ frames := 1, cells := 0, slots := 0, locals := 21 } : Room) D cy (wL cy B τ) ([.ref (B 100)] : List Value) (lLst τ) := by
  refine met_R (cc := cX0_leastOfPlaces) (maxL := 3) (ret := (some .int)) (by decide) rfl (Nat.le_of_ble_eq_true rfl) ?_
  intro p e s m below meth c hx hb hr hml hts hown hlocks hP hK ls hl
  have hown : s.vm.findClass RX0 = some m.cls := hown
  have hl : lv_has ls 3 [(0, .ref (B 100))] := hl
  obtain ⟨hL3, hB0, hB1, hB2⟩ := id hI
  have hv0 := hB2 0
  refine lv_aload_n hx hb dX0_leastOfPlaces_0 rfl (lv_at hl 0 rfl) ?_
  refine va_get (D := D) (ci := 0) (v := .ref (B 2)) (C := RX0) (T := TX0) (N := 4) hx hb hts (fun _ h => List.mem_cons_of_mem _ (List.mem_append_right _ h)) hown hK hP 0 rfl rfl 2 (by decide) (hts _ fl_X0_leastOfPlaces_18) (fun _ h9 => h9) rfl dX0_leastOfPlaces_1 ?_
  refine lv_iconst (v := iI 0) hx hb dX0_leastOfPlaces_4 rfl ?_
  refine r_iald hx hb hK hP 3 0 rfl rfl (Nat.le_of_ble_eq_true rfl) (by omega) dX0_leastOfPlaces_5 ?_
  have hv1 := hB2 0
  refine lv_istore_n (lv' := [(1, .int (iI (τ 2 0))), (0, .ref (B 100))]) hx hb dX0_leastOfPlaces_6 rfl hl (by decide) rfl (fun ls hl => ?_)
  refine lv_iconst (v := iI 1) hx hb dX0_leastOfPlaces_7 rfl ?_
  refine lv_istore_n (lv' := [(2, .int (iI 1)), (1, .int (iI (τ 2 0))), (0, .ref (B 100))]) hx hb dX0_leastOfPlaces_8 rfl hl (by decide) rfl (fun ls hl => ?_)
  have lp9_2 : ∀ (nlp9_2 : Nat) (i : Int) (g : Int) (ls : Array Slot), (1 ≤ i ∧ i ≤ τ 3 0 / 10 + 1) → (g = fo (lLstF τ) (τ 2 0) (i - 1)) → (0 ≤ g ∧ g ≤ 7000000) → (τ 3 0 / 10 + 1 - i < (nlp9_2 : Int)) → lv_has ls 3 [(2, .int (iI i)), (1, .int (iI g)), (0, .ref (B 100))] → W p l e ({ frames := 1, cells := 0, slots := 0, locals := 21 } : Room) s m ([.ref (B 100)] : List Value).toArray below meth c s.heap [] 0 0 (MQ below (vp_Si (fun r => r = iI (lLst τ))) ([.ref (B 100)] : List Value).toArray s 0 0 (fun _ => False)) (F0 m 9 ls []) := by
    intro nlp9_2
    induction nlp9_2 with
    | zero => intro i g ls hi hg hgb hn hl; exact absurd hn (by omega)
    | succ nlp9_2 ihlp9_2 =>
      intro i g ls hi hg hgb hn hl
      refine lv_iload_n hx hb dX0_leastOfPlaces_9 rfl (lv_at hl 0 rfl) ?_
      refine lv_aload_n hx hb dX0_leastOfPlaces_10 rfl (lv_at hl 2 rfl) ?_
      refine r_calli (va_runV (As := []) (rest := [.int (iI i)]) ⟨hx, hb, hml, hown, hts⟩ (c_X0_places l D cy B τ  hI) (cwV 0 hts gX0_leastOfPlaces_X0_places rfl rfl rfl (by decide +kernel) ⟨Nat.le_of_ble_eq_true rfl, Nat.le_of_ble_eq_true rfl⟩) (pv_ro (C := RX0) (T := TX0) (N := 4) (ci := 0) (q0 := 0) hP hK rfl rfl) rfl rfl hl.1 rfl (lv_room (Nat.le_of_ble_eq_true rfl)) dX0_leastOfPlaces_11 ⟨Nat.le_of_ble_eq_true rfl, Nat.le_of_ble_eq_true rfl⟩) ?_
      refine r_icmp_ge (tgt := 34) hx hb dX0_leastOfPlaces_14 (by decide) (by omega) (by omega) (fun h3 => ?_) (fun h3 => ?_)
      · -- 14 to 34
        refine lv_iload_n hx hb dX0_leastOfPlaces_34 rfl (lv_at hl 1 rfl) ?_
        exact r_ret hx hb hr hlocks dX0_leastOfPlaces_35 (by rw [hg, show i - 1 = τ 3 0 / 10 from by omega]; rfl)
      · -- 14 to 17
        refine lv_iload_n hx hb dX0_leastOfPlaces_17 rfl (lv_at hl 1 rfl) ?_
        refine lv_aload_n hx hb dX0_leastOfPlaces_18 rfl (lv_at hl 2 rfl) ?_
        refine va_get (D := D) (ci := 0) (v := .ref (B 2)) (C := RX0) (T := TX0) (N := 4) hx hb hts (fun _ h => List.mem_cons_of_mem _ (List.mem_append_right _ h)) hown hK hP 0 rfl rfl 2 (by decide) (hts _ fl_X0_leastOfPlaces_18) (fun _ h9 => h9) rfl dX0_leastOfPlaces_19 ?_
        refine lv_iload_n hx hb dX0_leastOfPlaces_22 rfl (lv_at hl 0 rfl) ?_
        refine r_iald hx hb hK hP 3 0 rfl rfl (Nat.le_of_ble_eq_true rfl) (by omega) dX0_leastOfPlaces_23 ?_
        have hv4 := hB2 i
        refine r_mmin hx hb (by rw [hml]; exact hl.1.symm) hown (hts (.methodLink RX0 58 Lib.Math.min.name) (by decide +kernel)) (hts (.static Lib.Math.min.name) (by decide +kernel)) (hts (.initialized "java/lang/Math") (by decide +kernel)) (hts (.code Lib.Math.min.name Lib.Math.min.code 2 (some .int)) (by decide +kernel)) (Nat.le_of_ble_eq_true rfl) (Nat.le_of_ble_eq_true rfl) (Nat.le_of_ble_eq_true rfl) (Nat.le_of_ble_eq_true rfl) (by omega) (by omega) dX0_leastOfPlaces_24 ?_
        have hm5 := mnZ_s g (τ 2 i)
        refine lv_istore_n (lv' := [(1, .int (iI (mnZ g (τ 2 i)))), (2, .int (iI i)), (0, .ref (B 100))]) hx hb dX0_leastOfPlaces_27 rfl hl (by decide) rfl (fun ls hl => ?_)
        refine r_iinc (a := i) (b := (i + 1)) (lv2 := [(2, .int (iI (i + 1))), (1, .int (iI (mnZ g (τ 2 i)))), (0, .ref (B 100))]) hx hb dX0_leastOfPlaces_28 hl (k := 1) rfl (by omega) (by decide) rfl (fun ls hl => ?_)
        refine lv_goto (tgt := 9) hx hb dX0_leastOfPlaces_31 (by decide) ?_
        exact ihlp9_2 (i + 1) (mnZ g (τ 2 i)) ls (by omega) (by rw [show i + 1 - 1 = (i - 1) + 1 from by omega, fo_s _ _ (by omega), ← hg]; unfold lLstF; rw [show 1 + (i - 1) = i from by omega]) (by omega) (by omega) (lv_sub hl [0, 1, 2] rfl)
  exact lp9_2 _ 1 (τ 2 0) ls (by omega) rfl (by omega) (lt_tn _) (lv_sub hl [0, 1, 2] rfl)
theorem fl_X0_meanOfPlaces_18 : Cond.fieldLink RX0 18 "NoiseLamps$Lamps" "placeLight" "[I" ∈ wsX0_meanOfPlaces := by decide +kernel
set_option maxHeartbeats 4000000 in
set_option maxRecDepth 100000 in
theorem c_X0_meanOfPlaces (l : Launch) (D : va_G) (cy : ClassId) (B : Nat → Nat) (τ : Nat → Int → Int) (pc0 : Int) (hI : invL τ) (hp1 : 0 ≤ pc0 ∧ pc0 ≤ 100) : MetR l yX0_meanOfPlaces wsX0_meanOfPlaces ({ frames := 1, cells := 0, slots := 0, locals := 21 } : Room) D cy (wL cy B τ) ([.ref (B 100), .int (iI pc0)] : List Value) (lMean τ pc0) := by
  refine met_R (cc := cX0_meanOfPlaces) (maxL := 5) (ret := (some .int)) (by decide) rfl (Nat.le_of_ble_eq_true rfl) ?_
  intro p e s m below meth c hx hb hr hml hts hown hlocks hP hK ls hl
  have hown : s.vm.findClass RX0 = some m.cls := hown
  have hl : lv_has ls 5 [(0, .ref (B 100)), (1, .int (iI pc0))] := hl
  obtain ⟨hL3, hB0, hB1, hB2⟩ := id hI
  refine lv_lconst (v := jI 0) hx hb dX0_meanOfPlaces_0 (by decide +kernel) ?_
  refine lv_lstore_n (lv' := [(2, .long (jI 0)), (0, .ref (B 100)), (1, .int (iI pc0))]) hx hb dX0_meanOfPlaces_1 rfl hl (by decide) rfl (fun ls hl => ?_)
  refine lv_iconst (v := iI 0) hx hb dX0_meanOfPlaces_2 rfl ?_
  refine lv_istore (lv' := [(4, .int (iI 0)), (2, .long (jI 0)), (0, .ref (B 100)), (1, .int (iI pc0))]) hx hb dX0_meanOfPlaces_3 hl (by decide) rfl (fun ls hl => ?_)
  have lp5_1 : ∀ (nlp5_1 : Nat) (i : Int) (g : Int) (ls : Array Slot), (0 ≤ i ∧ i ≤ τ 3 0 / 10 + 1) → (g = fo (lMeanF τ pc0) 0 i) → (0 ≤ g ∧ g ≤ 7000000 * i) → (τ 3 0 / 10 + 1 - i < (nlp5_1 : Int)) → lv_has ls 5 [(4, .int (iI i)), (2, .long (jI g)), (0, .ref (B 100)), (1, .int (iI pc0))] → W p l e ({ frames := 1, cells := 0, slots := 0, locals := 21 } : Room) s m ([.ref (B 100), .int (iI pc0)] : List Value).toArray below meth c s.heap [] 0 0 (MQ below (vp_Si (fun r => r = iI (lMean τ pc0))) ([.ref (B 100), .int (iI pc0)] : List Value).toArray s 0 0 (fun _ => False)) (F0 m 5 ls []) := by
    intro nlp5_1
    induction nlp5_1 with
    | zero => intro i g ls hi hg hgb hn hl; exact absurd hn (by omega)
    | succ nlp5_1 ihlp5_1 =>
      intro i g ls hi hg hgb hn hl
      refine lv_iload hx hb dX0_meanOfPlaces_5 (lv_at hl 0 rfl) ?_
      refine lv_aload_n hx hb dX0_meanOfPlaces_7 rfl (lv_at hl 2 rfl) ?_
      refine r_calli (va_runV (As := []) (rest := [.int (iI i)]) ⟨hx, hb, hml, hown, hts⟩ (c_X0_places l D cy B τ  hI) (cwV 0 hts gX0_meanOfPlaces_X0_places rfl rfl rfl (by decide +kernel) ⟨Nat.le_of_ble_eq_true rfl, Nat.le_of_ble_eq_true rfl⟩) (pv_ro (C := RX0) (T := TX0) (N := 4) (ci := 0) (q0 := 0) hP hK rfl rfl) rfl rfl hl.1 rfl (lv_room (Nat.le_of_ble_eq_true rfl)) dX0_meanOfPlaces_8 ⟨Nat.le_of_ble_eq_true rfl, Nat.le_of_ble_eq_true rfl⟩) ?_
      refine r_icmp_ge (tgt := 35) hx hb dX0_meanOfPlaces_11 (by decide) (by omega) (by omega) (fun h2 => ?_) (fun h2 => ?_)
      · -- 11 to 35
        refine lv_lload_n hx hb dX0_meanOfPlaces_35 rfl (lv_at hl 1 rfl) ?_
        refine lv_aload_n hx hb dX0_meanOfPlaces_36 rfl (lv_at hl 2 rfl) ?_
        refine r_calli (va_runV (As := []) (rest := [.long (jI g)]) ⟨hx, hb, hml, hown, hts⟩ (c_X0_places l D cy B τ  hI) (cwV 0 hts gX0_meanOfPlaces_X0_places rfl rfl rfl (by decide +kernel) ⟨Nat.le_of_ble_eq_true rfl, Nat.le_of_ble_eq_true rfl⟩) (pv_ro (C := RX0) (T := TX0) (N := 4) (ci := 0) (q0 := 0) hP hK rfl rfl) rfl rfl hl.1 rfl (lv_room (Nat.le_of_ble_eq_true rfl)) dX0_meanOfPlaces_37 ⟨Nat.le_of_ble_eq_true rfl, Nat.le_of_ble_eq_true rfl⟩) ?_
        refine r_i2l hx hb dX0_meanOfPlaces_40 (by omega) ?_
        refine r_ldiv hx hb dX0_meanOfPlaces_41 (by omega) (by omega) ?_
        refine r_l2i hx hb dX0_meanOfPlaces_42 ?_
        exact r_ret hx hb hr hlocks dX0_meanOfPlaces_43 (by rw [hg, show i = τ 3 0 / 10 + 1 from by omega]; rfl)
      · -- 11 to 14
        refine lv_lload_n hx hb dX0_meanOfPlaces_14 rfl (lv_at hl 1 rfl) ?_
        refine lv_aload_n hx hb dX0_meanOfPlaces_15 rfl (lv_at hl 2 rfl) ?_
        refine va_get (D := D) (ci := 0) (v := .ref (B 2)) (C := RX0) (T := TX0) (N := 4) hx hb hts (fun _ h => List.mem_cons_of_mem _ (List.mem_append_right _ h)) hown hK hP 0 rfl rfl 2 (by decide) (hts _ fl_X0_meanOfPlaces_18) (fun _ h9 => h9) rfl dX0_meanOfPlaces_16 ?_
        refine lv_iload hx hb dX0_meanOfPlaces_19 (lv_at hl 0 rfl) ?_
        refine r_iald hx hb hK hP 3 0 rfl rfl (Nat.le_of_ble_eq_true rfl) (by omega) dX0_meanOfPlaces_21 ?_
        have hv3 := hB2 i
        have hv4 := hB2 i
        refine lv_iload_n hx hb dX0_meanOfPlaces_22 rfl (lv_at hl 3 rfl) ?_
        refine r_calli (va_runS (As := [.int (iI (τ 2 i)), .int (iI pc0)]) (rest := [.long (jI g)]) ⟨hx, hb, hml, hown, hts⟩ (c_X0_dimmed l  (τ 2 i) pc0 (by omega) (by omega)) (va_cwS 2 hts gX0_meanOfPlaces_X0_dimmed rfl rfl rfl (by decide +kernel) ⟨Nat.le_of_ble_eq_true rfl, Nat.le_of_ble_eq_true rfl⟩) ps_T rfl rfl hl.1 rfl (lv_room (Nat.le_of_ble_eq_true rfl)) dX0_meanOfPlaces_23 ⟨Nat.le_of_ble_eq_true rfl, Nat.le_of_ble_eq_true rfl⟩) ?_
        have hf5 := mul_bd (a := (τ 2 i)) (b := pc0) (A := 7000000) (B := 100) (by omega) (by omega)
        refine r_i2l hx hb dX0_meanOfPlaces_26 (by omega) ?_
        refine r_ladd hx hb dX0_meanOfPlaces_27 ?_
        refine lv_lstore_n (lv' := [(2, .long (jI (g + ((τ 2 i) * pc0 / 100)))), (4, .int (iI i)), (0, .ref (B 100)), (1, .int (iI pc0))]) hx hb dX0_meanOfPlaces_28 rfl hl (by decide) rfl (fun ls hl => ?_)
        refine r_iinc (a := i) (b := (i + 1)) (lv2 := [(4, .int (iI (i + 1))), (2, .long (jI (g + ((τ 2 i) * pc0 / 100)))), (0, .ref (B 100)), (1, .int (iI pc0))]) hx hb dX0_meanOfPlaces_29 hl (k := 1) rfl (by omega) (by decide) rfl (fun ls hl => ?_)
        refine lv_goto (tgt := 5) hx hb dX0_meanOfPlaces_32 (by decide) ?_
        exact ihlp5_1 (i + 1) (g + ((τ 2 i) * pc0 / 100)) ls (by omega) (by rw [fo_s _ _ (by omega), ← hg]; rfl) (by omega) (by omega) (lv_sub hl [0, 1, 2, 3] rfl)
  exact lp5_1 _ 0 0 ls (by omega) rfl (by omega) (lt_tn _) (lv_sub hl [0, 1, 2, 3] rfl)
set_option maxHeartbeats 4000000 in
set_option maxRecDepth 100000 in
theorem c_X0_evennessOfPlaces (l : Launch) (D : va_G) (cy : ClassId) (B : Nat → Nat) (τ : Nat → Int → Int) (hI : invL τ) : MetR l yX0_evennessOfPlaces wsX0_evennessOfPlaces ({ frames := 2, cells := 0, slots := 0, locals := 45 } : Room) D cy (wL cy B τ) ([.ref (B 100)] : List Value) (lEven τ) := by
  refine met_R (cc := cX0_evennessOfPlaces) (maxL := 2) (ret := (some .int)) (by decide) rfl (Nat.le_of_ble_eq_true rfl) ?_
  intro p e s m below meth c hx hb hr hml hts hown hlocks hP hK ls hl
  have hown : s.vm.findClass RX0 = some m.cls := hown
  have hl : lv_has ls 2 [(0, .ref (B 100))] := hl
  obtain ⟨hL3, hB0, hB1, hB2⟩ := id hI
  have hIc := hI
  refine lv_aload_n hx hb dX0_evennessOfPlaces_0 rfl (lv_at hl 0 rfl) ?_
  refine lv_bipush (v := iI 100) hx hb dX0_evennessOfPlaces_1 (by decide +kernel) ?_
  refine r_calli (va_runV (As := [.int (iI 100)]) (rest := []) ⟨hx, hb, hml, hown, hts⟩ (c_X0_meanOfPlaces l D cy B τ 100 hI (by omega)) (cwV 1 hts gX0_evennessOfPlaces_X0_meanOfPlaces rfl rfl rfl (by decide +kernel) ⟨Nat.le_of_ble_eq_true rfl, Nat.le_of_ble_eq_true rfl⟩) (pv_ro (C := RX0) (T := TX0) (N := 4) (ci := 0) (q0 := 0) hP hK rfl rfl) rfl rfl hl.1 rfl (lv_room (Nat.le_of_ble_eq_true rfl)) dX0_evennessOfPlaces_3 ⟨Nat.le_of_ble_eq_true rfl, Nat.le_of_ble_eq_true rfl⟩) ?_
  have hf1 := lMean_bd (τ := τ) hI (pc := 100) (by omega)
  refine lv_istore_n (lv' := [(1, .int (iI (lMean τ 100))), (0, .ref (B 100))]) hx hb dX0_evennessOfPlaces_6 rfl hl (by decide) rfl (fun ls hl => ?_)
  refine lv_iload_n hx hb dX0_evennessOfPlaces_7 rfl (lv_at hl 0 rfl) ?_
  refine r_if_ne (tgt := 13) hx hb dX0_evennessOfPlaces_8 (by decide) (by omega) (fun h2 => ?_) (fun h2 => ?_)
  · -- 8 to 13
    refine lv_aload_n hx hb dX0_evennessOfPlaces_13 rfl (lv_at hl 1 rfl) ?_
    refine r_calli (va_runV (As := []) (rest := []) ⟨hx, hb, hml, hown, hts⟩ (c_X0_leastOfPlaces l D cy B τ  hI) (cwV 0 hts gX0_evennessOfPlaces_X0_leastOfPlaces rfl rfl rfl (by decide +kernel) ⟨Nat.le_of_ble_eq_true rfl, Nat.le_of_ble_eq_true rfl⟩) (pv_ro (C := RX0) (T := TX0) (N := 4) (ci := 0) (q0 := 0) hP hK rfl rfl) rfl rfl hl.1 rfl (lv_room (Nat.le_of_ble_eq_true rfl)) dX0_evennessOfPlaces_14 ⟨Nat.le_of_ble_eq_true rfl, Nat.le_of_ble_eq_true rfl⟩) ?_
    have hf3 := lLst_bd (τ := τ) hI
    refine r_i2l hx hb dX0_evennessOfPlaces_17 (by omega) ?_
    refine lv_ldc2 (v := jI 1000) hx hb hown (by rw [show jI 1000 = 1000 from by decide +kernel]; exact hts (.constantLong RX0 75 (1000)) (by decide +kernel)) dX0_evennessOfPlaces_18 ?_
    refine r_lmul hx hb dX0_evennessOfPlaces_21 ?_
    refine lv_iload_n hx hb dX0_evennessOfPlaces_22 rfl (lv_at hl 0 rfl) ?_
    refine r_i2l hx hb dX0_evennessOfPlaces_23 (by omega) ?_
    refine r_ldiv hx hb dX0_evennessOfPlaces_24 (by omega) (by omega) ?_
    refine r_l2i hx hb dX0_evennessOfPlaces_25 ?_
    exact r_ret hx hb hr hlocks dX0_evennessOfPlaces_26 (by unfold lEven; rw [if_neg (by omega)])
  · -- 8 to 11
    refine lv_iconst (v := iI 0) hx hb dX0_evennessOfPlaces_11 rfl ?_
    exact r_ret hx hb hr hlocks dX0_evennessOfPlaces_12 (by unfold lEven; rw [if_pos (by omega)])
set_option maxHeartbeats 4000000 in
set_option maxRecDepth 100000 in
theorem c_X0_leastLight (l : Launch) (D : va_G) (cy : ClassId) (B : Nat → Nat) (τ : Nat → Int → Int) (sz : Nat) (sp : Int) (hI : invL τ) (hs1 : 10 ≤ sp ∧ sp ≤ 600) : MetM l yX0_leastLight wsX0_leastLight ({ frames := 3, cells := 0, slots := 0, locals := 70 } : Room) D cy (wL cy B τ) ([.ref (B 100), .int (iI sp)] : List Value) sz (fun u : (Int → Int) => (rLst τ sp)) (fun u : (Int → Int) => ∀ k, 0 ≤ u k ∧ u k ≤ 7000000) (fun u : (Int → Int) => wL cy B (su τ 2 u)) := by
  refine met_M (cc := cX0_leastLight) (maxL := 2) (ret := (some .int)) (by decide) rfl (Nat.le_of_ble_eq_true rfl) ?_
  intro p e s m below meth c AA hAA hx hb hr hml hts hown hlocks hP hK hD hA ls hl
  have hS : va_S AA s.heap s.heap [] := va_S.rf
  have hown : s.vm.findClass RX0 = some m.cls := hown
  have hl : lv_has ls 2 [(0, .ref (B 100)), (1, .int (iI sp))] := hl
  obtain ⟨hL3, hB0, hB1, hB2⟩ := id hI
  refine lv_aload_n hx hb dX0_leastLight_0 rfl (lv_at hl 0 rfl) ?_
  refine lv_iload_n hx hb dX0_leastLight_1 rfl (lv_at hl 1 rfl) ?_
  refine r_callV (w1 := ([] : va_W)) (w2 := ([] : va_W)) (va_runV (As := [.int (iI sp)]) (rest := []) ⟨hx, hb, hml, hown, hts⟩ (c_X0_lightPlaces l D cy B τ (s.heap.size) sp hI (by omega)) (cwV 1 hts gX0_leastLight_X0_lightPlaces rfl rfl rfl (by decide +kernel) ⟨Nat.le_of_ble_eq_true rfl, Nat.le_of_ble_eq_true rfl⟩) (pv_rw (C := RX0) (T := TX0) (N := 4) (ci := 0) (q0 := 0) hP hK hD rfl rfl) rfl rfl hl.1 rfl (lv_room (Nat.le_of_ble_eq_true rfl)) dX0_leastLight_2 ⟨Nat.le_of_ble_eq_true rfl, Nat.le_of_ble_eq_true rfl⟩) hP hD hS hA (fun _ => rfl) (fun u1 H locs hp2 hP hD hS => ?_)
  have hP : va_P D vwCl (wL cy B (su τ 2 u1)) H := hP
  have hD : va_D AA (wL cy B (su τ 2 u1)) := hD
  have hIc := invL_2 hI hp2.2
  refine lv_aload_n hx hb dX0_leastLight_5 rfl (lv_at hl 0 rfl) ?_
  refine r_calli (va_runV (As := []) (rest := []) ⟨hx, hb, hml, hown, hts⟩ (c_X0_leastOfPlaces l D cy B (su τ 2 u1)  hIc) (cwV 0 hts gX0_leastLight_X0_leastOfPlaces rfl rfl rfl (by decide +kernel) ⟨Nat.le_of_ble_eq_true rfl, Nat.le_of_ble_eq_true rfl⟩) (pv_ro (C := RX0) (T := TX0) (N := 4) (ci := 0) (q0 := 0) hP hK rfl rfl) rfl rfl hl.1 rfl (lv_room (Nat.le_of_ble_eq_true rfl)) dX0_leastLight_6 ⟨Nat.le_of_ble_eq_true rfl, Nat.le_of_ble_eq_true rfl⟩) ?_
  have hf4 := lLst_bd (τ := (su τ 2 u1)) hIc
  exact r_retM u1 hx hb hr hlocks hS dX0_leastLight_9 (lLst_congr hL3.1 hp2.1) hp2.2 hP
set_option maxHeartbeats 4000000 in
set_option maxRecDepth 100000 in
theorem c_X0_meanLight (l : Launch) (D : va_G) (cy : ClassId) (B : Nat → Nat) (τ : Nat → Int → Int) (sz : Nat) (sp : Int) (hI : invL τ) (hs1 : 10 ≤ sp ∧ sp ≤ 600) : MetM l yX0_meanLight wsX0_meanLight ({ frames := 3, cells := 0, slots := 0, locals := 70 } : Room) D cy (wL cy B τ) ([.ref (B 100), .int (iI sp)] : List Value) sz (fun u : (Int → Int) => (rMean τ sp 100)) (fun u : (Int → Int) => ∀ k, 0 ≤ u k ∧ u k ≤ 7000000) (fun u : (Int → Int) => wL cy B (su τ 2 u)) := by
  refine met_M (cc := cX0_meanLight) (maxL := 2) (ret := (some .int)) (by decide) rfl (Nat.le_of_ble_eq_true rfl) ?_
  intro p e s m below meth c AA hAA hx hb hr hml hts hown hlocks hP hK hD hA ls hl
  have hS : va_S AA s.heap s.heap [] := va_S.rf
  have hown : s.vm.findClass RX0 = some m.cls := hown
  have hl : lv_has ls 2 [(0, .ref (B 100)), (1, .int (iI sp))] := hl
  obtain ⟨hL3, hB0, hB1, hB2⟩ := id hI
  refine lv_aload_n hx hb dX0_meanLight_0 rfl (lv_at hl 0 rfl) ?_
  refine lv_iload_n hx hb dX0_meanLight_1 rfl (lv_at hl 1 rfl) ?_
  refine r_callV (w1 := ([] : va_W)) (w2 := ([] : va_W)) (va_runV (As := [.int (iI sp)]) (rest := []) ⟨hx, hb, hml, hown, hts⟩ (c_X0_lightPlaces l D cy B τ (s.heap.size) sp hI (by omega)) (cwV 1 hts gX0_meanLight_X0_lightPlaces rfl rfl rfl (by decide +kernel) ⟨Nat.le_of_ble_eq_true rfl, Nat.le_of_ble_eq_true rfl⟩) (pv_rw (C := RX0) (T := TX0) (N := 4) (ci := 0) (q0 := 0) hP hK hD rfl rfl) rfl rfl hl.1 rfl (lv_room (Nat.le_of_ble_eq_true rfl)) dX0_meanLight_2 ⟨Nat.le_of_ble_eq_true rfl, Nat.le_of_ble_eq_true rfl⟩) hP hD hS hA (fun _ => rfl) (fun u1 H locs hp2 hP hD hS => ?_)
  have hP : va_P D vwCl (wL cy B (su τ 2 u1)) H := hP
  have hD : va_D AA (wL cy B (su τ 2 u1)) := hD
  have hIc := invL_2 hI hp2.2
  refine lv_aload_n hx hb dX0_meanLight_5 rfl (lv_at hl 0 rfl) ?_
  refine lv_bipush (v := iI 100) hx hb dX0_meanLight_6 (by decide +kernel) ?_
  refine r_calli (va_runV (As := [.int (iI 100)]) (rest := []) ⟨hx, hb, hml, hown, hts⟩ (c_X0_meanOfPlaces l D cy B (su τ 2 u1) 100 hIc (by omega)) (cwV 1 hts gX0_meanLight_X0_meanOfPlaces rfl rfl rfl (by decide +kernel) ⟨Nat.le_of_ble_eq_true rfl, Nat.le_of_ble_eq_true rfl⟩) (pv_ro (C := RX0) (T := TX0) (N := 4) (ci := 0) (q0 := 0) hP hK rfl rfl) rfl rfl hl.1 rfl (lv_room (Nat.le_of_ble_eq_true rfl)) dX0_meanLight_8 ⟨Nat.le_of_ble_eq_true rfl, Nat.le_of_ble_eq_true rfl⟩) ?_
  have hf4 := lMean_bd (τ := (su τ 2 u1)) hIc (pc := 100) (by omega)
  exact r_retM u1 hx hb hr hlocks hS dX0_meanLight_11 (lMean_congr hp2.1 100) hp2.2 hP
set_option maxHeartbeats 4000000 in
set_option maxRecDepth 100000 in
theorem c_X0_evenness (l : Launch) (D : va_G) (cy : ClassId) (B : Nat → Nat) (τ : Nat → Int → Int) (sz : Nat) (sp : Int) (hI : invL τ) (hs1 : 10 ≤ sp ∧ sp ≤ 600) : MetM l yX0_evenness wsX0_evenness ({ frames := 3, cells := 0, slots := 0, locals := 70 } : Room) D cy (wL cy B τ) ([.ref (B 100), .int (iI sp)] : List Value) sz (fun u : (Int → Int) => (rEven τ sp)) (fun u : (Int → Int) => ∀ k, 0 ≤ u k ∧ u k ≤ 7000000) (fun u : (Int → Int) => wL cy B (su τ 2 u)) := by
  refine met_M (cc := cX0_evenness) (maxL := 2) (ret := (some .int)) (by decide) rfl (Nat.le_of_ble_eq_true rfl) ?_
  intro p e s m below meth c AA hAA hx hb hr hml hts hown hlocks hP hK hD hA ls hl
  have hS : va_S AA s.heap s.heap [] := va_S.rf
  have hown : s.vm.findClass RX0 = some m.cls := hown
  have hl : lv_has ls 2 [(0, .ref (B 100)), (1, .int (iI sp))] := hl
  obtain ⟨hL3, hB0, hB1, hB2⟩ := id hI
  refine lv_aload_n hx hb dX0_evenness_0 rfl (lv_at hl 0 rfl) ?_
  refine lv_iload_n hx hb dX0_evenness_1 rfl (lv_at hl 1 rfl) ?_
  refine r_callV (w1 := ([] : va_W)) (w2 := ([] : va_W)) (va_runV (As := [.int (iI sp)]) (rest := []) ⟨hx, hb, hml, hown, hts⟩ (c_X0_lightPlaces l D cy B τ (s.heap.size) sp hI (by omega)) (cwV 1 hts gX0_evenness_X0_lightPlaces rfl rfl rfl (by decide +kernel) ⟨Nat.le_of_ble_eq_true rfl, Nat.le_of_ble_eq_true rfl⟩) (pv_rw (C := RX0) (T := TX0) (N := 4) (ci := 0) (q0 := 0) hP hK hD rfl rfl) rfl rfl hl.1 rfl (lv_room (Nat.le_of_ble_eq_true rfl)) dX0_evenness_2 ⟨Nat.le_of_ble_eq_true rfl, Nat.le_of_ble_eq_true rfl⟩) hP hD hS hA (fun _ => rfl) (fun u1 H locs hp2 hP hD hS => ?_)
  have hP : va_P D vwCl (wL cy B (su τ 2 u1)) H := hP
  have hD : va_D AA (wL cy B (su τ 2 u1)) := hD
  have hIc := invL_2 hI hp2.2
  refine lv_aload_n hx hb dX0_evenness_5 rfl (lv_at hl 0 rfl) ?_
  refine r_calli (va_runV (As := []) (rest := []) ⟨hx, hb, hml, hown, hts⟩ (c_X0_evennessOfPlaces l D cy B (su τ 2 u1)  hIc) (cwV 0 hts gX0_evenness_X0_evennessOfPlaces rfl rfl rfl (by decide +kernel) ⟨Nat.le_of_ble_eq_true rfl, Nat.le_of_ble_eq_true rfl⟩) (pv_ro (C := RX0) (T := TX0) (N := 4) (ci := 0) (q0 := 0) hP hK rfl rfl) rfl rfl hl.1 rfl (lv_room (Nat.le_of_ble_eq_true rfl)) dX0_evenness_6 ⟨Nat.le_of_ble_eq_true rfl, Nat.le_of_ble_eq_true rfl⟩) ?_
  have hf4 := lEven_bd (τ := (su τ 2 u1)) hIc
  exact r_retM u1 hx hb hr hlocks hS dX0_evenness_9 (lEven_congr hL3.1 hp2.1) hp2.2 hP
set_option maxHeartbeats 4000000 in
set_option maxRecDepth 100000 in
theorem c_X0_widestGoodSpacing (l : Launch) (D : va_G) (cy : ClassId) (B : Nat → Nat) (τ : Nat → Int → Int) (sz : Nat) (a b : Int) (hI : invL τ) (ha : I32 a) (hb : I32 b) : MetM l yX0_widestGoodSpacing wsX0_widestGoodSpacing ({ frames := 3, cells := 0, slots := 0, locals := 70 } : Room) D cy (wL cy B τ) ([.ref (B 100), .int (iI a), .int (iI b)] : List Value) sz (fun u : (Int → Int) => (lWide τ a b)) (fun u : (Int → Int) => ∀ k, 0 ≤ u k ∧ u k ≤ 7000000) (fun u : (Int → Int) => wL cy B (su τ 2 u)) := by
  refine met_M (cc := cX0_widestGoodSpacing) (maxL := 4) (ret := (some .int)) (by decide) rfl (Nat.le_of_ble_eq_true rfl) ?_
  intro p e s m below meth c AA hAA hx hb hr hml hts hown hlocks hP hK hD hA ls hl
  have hS : va_S AA s.heap s.heap [] := va_S.rf
  have hown : s.vm.findClass RX0 = some m.cls := hown
  have hl : lv_has ls 4 [(0, .ref (B 100)), (1, .int (iI a)), (2, .int (iI b))] := hl
  obtain ⟨hL3, hB0, hB1, hB2⟩ := id hI
  refine lv_sipush (v := iI 600) hx hb dX0_widestGoodSpacing_0 (by decide +kernel) ?_
  refine lv_istore_n (lv' := [(3, .int (iI 600)), (0, .ref (B 100)), (1, .int (iI a)), (2, .int (iI b))]) hx hb dX0_widestGoodSpacing_3 rfl hl (by decide) rfl (fun ls hl => ?_)
  have lp4_1 : ∀ (nlp4_1 : Nat) (i : Int) (g : (Int → Int)) (H : Heap) (locs : List Loc) (ls : Array Slot), (0 ≤ i ∧ i ≤ 600 ∧ i % 10 = 0) → (∀ k, 0 ≤ g k ∧ g k ≤ 7000000) → (lWide τ a b = ft (fun j => decide (a ≤ rMean τ (600 - 10 * j) 100 ∧ b ≤ rEven τ (600 - 10 * j))) (fun j => 600 - 10 * j) (-1) ((600 - i) / 10) 60) → va_P D vwCl (wL cy B (su τ 2 g)) H → va_D AA (wL cy B (su τ 2 g)) → va_S AA s.heap H locs → (i < (nlp4_1 : Int)) → lv_has ls 4 [(3, .int (iI i)), (0, .ref (B 100)), (1, .int (iI a)), (2, .int (iI b))] → W p l e ({ frames := 3, cells := 0, slots := 0, locals := 70 } : Room) s m ([.ref (B 100), .int (iI a), .int (iI b)] : List Value).toArray below meth c H locs 0 0 (MQ below (va_Qi (fun r (u : (Int → Int)) => r = iI ((fun u : (Int → Int) => (lWide τ a b)) u) ∧ (fun u : (Int → Int) => ∀ k, 0 ≤ u k ∧ u k ≤ 7000000) u) (fun (u : (Int → Int)) tz => va_P D vwCl ((fun u : (Int → Int) => wL cy B (su τ 2 u)) u) tz.heap) AA) ([.ref (B 100), .int (iI a), .int (iI b)] : List Value).toArray s 0 0 AA) (F0 m 4 ls []) := by
    intro nlp4_1
    induction nlp4_1 with
    | zero => intro i g H locs ls hi hgb hr1 hP hD hS hn hl; exact absurd hn (by omega)
    | succ nlp4_1 ihlp4_1 =>
      intro i g H locs ls hi hgb hr1 hP hD hS hn hl
      refine lv_iload_n hx hb dX0_widestGoodSpacing_4 rfl (lv_at hl 0 rfl) ?_
      refine lv_bipush (v := iI 10) hx hb dX0_widestGoodSpacing_5 (by decide +kernel) ?_
      refine r_icmp_lt (tgt := 41) hx hb dX0_widestGoodSpacing_7 (by decide) (by omega) (by omega) (fun h2 => ?_) (fun h2 => ?_)
      · -- 7 to 41
        refine lv_iconst (v := iI (-1)) hx hb dX0_widestGoodSpacing_41 rfl ?_
        exact r_retM g hx hb hr hlocks hS dX0_widestGoodSpacing_42 (by rw [hr1, ft_end _ _ _ (by omega)]) hgb hP
      · -- 7 to 10
        refine lv_aload_n hx hb dX0_widestGoodSpacing_10 rfl (lv_at hl 1 rfl) ?_
        refine lv_iload_n hx hb dX0_widestGoodSpacing_11 rfl (lv_at hl 0 rfl) ?_
        refine r_callV (w1 := ([] : va_W)) (w2 := ([] : va_W)) (va_runV (As := [.int (iI i)]) (rest := []) ⟨hx, hb, hml, hown, hts⟩ (c_X0_lightPlaces l D cy B (su τ 2 g) (H.size) i (invL_2 hI hgb) (by omega)) (cwV 1 hts gX0_widestGoodSpacing_X0_lightPlaces rfl rfl rfl (by decide +kernel) ⟨Nat.le_of_ble_eq_true rfl, Nat.le_of_ble_eq_true rfl⟩) (pv_rw (C := RX0) (T := TX0) (N := 4) (ci := 0) (q0 := 0) hP hK hD rfl rfl) rfl rfl hl.1 rfl (lv_room (Nat.le_of_ble_eq_true rfl)) dX0_widestGoodSpacing_12 ⟨Nat.le_of_ble_eq_true rfl, Nat.le_of_ble_eq_true rfl⟩) hP hD hS hA (fun _ => rfl) (fun u3 H locs hp4 hP hD hS => ?_)
        have hP : va_P D vwCl (wL cy B (su (su τ 2 g) 2 u3)) H := hP
        have hD : va_D AA (wL cy B (su (su τ 2 g) 2 u3)) := hD
        have hIc := invL_2 (invL_2 hI hgb) hp4.2
        have hag : ∀ k, 0 ≤ k → k < τ 3 0 / 10 + 1 → u3 k = lG τ i k := hp4.1
        refine lv_aload_n hx hb dX0_widestGoodSpacing_15 rfl (lv_at hl 1 rfl) ?_
        refine lv_bipush (v := iI 100) hx hb dX0_widestGoodSpacing_16 (by decide +kernel) ?_
        refine r_calli (va_runV (As := [.int (iI 100)]) (rest := []) ⟨hx, hb, hml, hown, hts⟩ (c_X0_meanOfPlaces l D cy B (su (su τ 2 g) 2 u3) 100 hIc (by omega)) (cwV 1 hts gX0_widestGoodSpacing_X0_meanOfPlaces rfl rfl rfl (by decide +kernel) ⟨Nat.le_of_ble_eq_true rfl, Nat.le_of_ble_eq_true rfl⟩) (pv_ro (C := RX0) (T := TX0) (N := 4) (ci := 0) (q0 := 0) hP hK rfl rfl) rfl rfl hl.1 rfl (lv_room (Nat.le_of_ble_eq_true rfl)) dX0_widestGoodSpacing_18 ⟨Nat.le_of_ble_eq_true rfl, Nat.le_of_ble_eq_true rfl⟩) ?_
        have hf7 := lMean_bd (τ := (su (su τ 2 g) 2 u3)) hIc (pc := 100) (by omega)
        have hm1 : lMean (su (su τ 2 g) 2 u3) 100 = rMean τ i 100 := by rw [su_su]; exact lMean_congr hag 100
        refine lv_iload_n hx hb dX0_widestGoodSpacing_21 rfl (lv_at hl 2 rfl) ?_
        refine r_icmp_lt (tgt := 35) hx hb dX0_widestGoodSpacing_22 (by decide) (by omega) (by omega) (fun h9 => ?_) (fun h9 => ?_)
        · -- 22 to 35
          refine r_iinc (a := i) (b := (i + (-10))) (lv2 := [(3, .int (iI (i + (-10)))), (0, .ref (B 100)), (1, .int (iI a)), (2, .int (iI b))]) hx hb dX0_widestGoodSpacing_35 hl (k := 0) rfl (by omega) (by decide) rfl (fun ls hl => ?_)
          refine lv_goto (tgt := 4) hx hb dX0_widestGoodSpacing_38 (by decide) ?_
          exact ihlp4_1 (i + (-10)) u3 _ _ ls (by omega) hp4.2 (by rw [hr1, ft_miss _ _ _ (by omega) (decide_eq_false (by rw [show 600 - 10 * ((600 - i) / 10) = i from by omega]; omega)), show (600 - (i + (-10))) / 10 = (600 - i) / 10 + 1 from by omega]) hP hD hS (by omega) (lv_sub hl [0, 1, 2, 3] rfl)
        · -- 22 to 25
          refine lv_aload_n hx hb dX0_widestGoodSpacing_25 rfl (lv_at hl 1 rfl) ?_
          refine r_calli (va_runV (As := []) (rest := []) ⟨hx, hb, hml, hown, hts⟩ (c_X0_evennessOfPlaces l D cy B (su (su τ 2 g) 2 u3)  hIc) (cwV 0 hts gX0_widestGoodSpacing_X0_evennessOfPlaces rfl rfl rfl (by decide +kernel) ⟨Nat.le_of_ble_eq_true rfl, Nat.le_of_ble_eq_true rfl⟩) (pv_ro (C := RX0) (T := TX0) (N := 4) (ci := 0) (q0 := 0) hP hK rfl rfl) rfl rfl hl.1 rfl (lv_room (Nat.le_of_ble_eq_true rfl)) dX0_widestGoodSpacing_26 ⟨Nat.le_of_ble_eq_true rfl, Nat.le_of_ble_eq_true rfl⟩) ?_
          have hf10 := lEven_bd (τ := (su (su τ 2 g) 2 u3)) hIc
          have hm2 : lEven (su (su τ 2 g) 2 u3) = rEven τ i := by rw [su_su]; exact lEven_congr hL3.1 hag
          refine lv_iload_n hx hb dX0_widestGoodSpacing_29 rfl (lv_at hl 3 rfl) ?_
          refine r_icmp_lt (tgt := 35) hx hb dX0_widestGoodSpacing_30 (by decide) (by omega) (by omega) (fun h12 => ?_) (fun h12 => ?_)
          · -- 30 to 35
            refine r_iinc (a := i) (b := (i + (-10))) (lv2 := [(3, .int (iI (i + (-10)))), (0, .ref (B 100)), (1, .int (iI a)), (2, .int (iI b))]) hx hb dX0_widestGoodSpacing_35 hl (k := 0) rfl (by omega) (by decide) rfl (fun ls hl => ?_)
            refine lv_goto (tgt := 4) hx hb dX0_widestGoodSpacing_38 (by decide) ?_
            exact ihlp4_1 (i + (-10)) u3 _ _ ls (by omega) hp4.2 (by rw [hr1, ft_miss _ _ _ (by omega) (decide_eq_false (by rw [show 600 - 10 * ((600 - i) / 10) = i from by omega]; omega)), show (600 - (i + (-10))) / 10 = (600 - i) / 10 + 1 from by omega]) hP hD hS (by omega) (lv_sub hl [0, 1, 2, 3] rfl)
          · -- 30 to 33
            refine lv_iload_n hx hb dX0_widestGoodSpacing_33 rfl (lv_at hl 0 rfl) ?_
            exact r_retM u3 hx hb hr hlocks hS dX0_widestGoodSpacing_34 (by rw [hr1, ft_hit _ _ _ (by omega) (decide_eq_true (by rw [show 600 - 10 * ((600 - i) / 10) = i from by omega]; omega))]; omega) hp4.2 hP
  exact lp4_1 _ 600 (τ 2) s.heap [] ls (by omega) hB2 rfl hP hD hS (lt_tn _) (lv_sub hl [0, 1, 2, 3] rfl)
theorem fl_X0_hoursBelow_15 : Cond.fieldLink RX0 15 "NoiseLamps$Lamps" "percents" "[I" ∈ wsX0_hoursBelow := by decide +kernel
set_option maxHeartbeats 4000000 in
set_option maxRecDepth 100000 in
theorem c_X0_hoursBelow (l : Launch) (D : va_G) (cy : ClassId) (B : Nat → Nat) (τ : Nat → Int → Int) (sz : Nat) (sp a : Int) (hI : invL τ) (hs1 : 10 ≤ sp ∧ sp ≤ 600) (ha : I32 a) : MetM l yX0_hoursBelow wsX0_hoursBelow ({ frames := 3, cells := 0, slots := 0, locals := 70 } : Room) D cy (wL cy B τ) ([.ref (B 100), .int (iI sp), .int (iI a)] : List Value) sz (fun u : (Int → Int) => (lDark τ sp a)) (fun u : (Int → Int) => ∀ k, 0 ≤ u k ∧ u k ≤ 7000000) (fun u : (Int → Int) => wL cy B (su τ 2 u)) := by
  refine met_M (cc := cX0_hoursBelow) (maxL := 5) (ret := (some .int)) (by decide) rfl (Nat.le_of_ble_eq_true rfl) ?_
  intro p e s m below meth c AA hAA hx hb hr hml hts hown hlocks hP hK hD hA ls hl
  have hS : va_S AA s.heap s.heap [] := va_S.rf
  have hown : s.vm.findClass RX0 = some m.cls := hown
  have hl : lv_has ls 5 [(0, .ref (B 100)), (1, .int (iI sp)), (2, .int (iI a))] := hl
  obtain ⟨hL3, hB0, hB1, hB2⟩ := id hI
  refine lv_aload_n hx hb dX0_hoursBelow_0 rfl (lv_at hl 0 rfl) ?_
  refine lv_iload_n hx hb dX0_hoursBelow_1 rfl (lv_at hl 1 rfl) ?_
  refine r_callV (w1 := ([] : va_W)) (w2 := ([] : va_W)) (va_runV (As := [.int (iI sp)]) (rest := []) ⟨hx, hb, hml, hown, hts⟩ (c_X0_lightPlaces l D cy B τ (s.heap.size) sp hI (by omega)) (cwV 1 hts gX0_hoursBelow_X0_lightPlaces rfl rfl rfl (by decide +kernel) ⟨Nat.le_of_ble_eq_true rfl, Nat.le_of_ble_eq_true rfl⟩) (pv_rw (C := RX0) (T := TX0) (N := 4) (ci := 0) (q0 := 0) hP hK hD rfl rfl) rfl rfl hl.1 rfl (lv_room (Nat.le_of_ble_eq_true rfl)) dX0_hoursBelow_2 ⟨Nat.le_of_ble_eq_true rfl, Nat.le_of_ble_eq_true rfl⟩) hP hD hS hA (fun _ => rfl) (fun u1 H locs hp2 hP hD hS => ?_)
  have hP : va_P D vwCl (wL cy B (su τ 2 u1)) H := hP
  have hD : va_D AA (wL cy B (su τ 2 u1)) := hD
  have hIc := invL_2 hI hp2.2
  have hag := hp2.1
  have hgb := hp2.2
  refine lv_iconst (v := iI 0) hx hb dX0_hoursBelow_5 rfl ?_
  refine lv_istore_n (lv' := [(3, .int (iI 0)), (0, .ref (B 100)), (1, .int (iI sp)), (2, .int (iI a))]) hx hb dX0_hoursBelow_6 rfl hl (by decide) rfl (fun ls hl => ?_)
  refine lv_iconst (v := iI 0) hx hb dX0_hoursBelow_7 rfl ?_
  refine lv_istore (lv' := [(4, .int (iI 0)), (3, .int (iI 0)), (0, .ref (B 100)), (1, .int (iI sp)), (2, .int (iI a))]) hx hb dX0_hoursBelow_8 hl (by decide) rfl (fun ls hl => ?_)
  have lp10_6 : ∀ (nlp10_6 : Nat) (i : Int) (g : Int) (ls : Array Slot), (0 ≤ i ∧ i ≤ 24) → (g = fo (lDarkF τ sp a) 0 i) → (24 - i < (nlp10_6 : Int)) → lv_has ls 5 [(4, .int (iI i)), (3, .int (iI g)), (0, .ref (B 100)), (1, .int (iI sp)), (2, .int (iI a))] → W p l e ({ frames := 3, cells := 0, slots := 0, locals := 70 } : Room) s m ([.ref (B 100), .int (iI sp), .int (iI a)] : List Value).toArray below meth c H locs 0 0 (MQ below (va_Qi (fun r (u : (Int → Int)) => r = iI ((fun u : (Int → Int) => (lDark τ sp a)) u) ∧ (fun u : (Int → Int) => ∀ k, 0 ≤ u k ∧ u k ≤ 7000000) u) (fun (u : (Int → Int)) tz => va_P D vwCl ((fun u : (Int → Int) => wL cy B (su τ 2 u)) u) tz.heap) AA) ([.ref (B 100), .int (iI sp), .int (iI a)] : List Value).toArray s 0 0 AA) (F0 m 10 ls []) := by
    intro nlp10_6
    induction nlp10_6 with
    | zero => intro i g ls hi hg hn hl; exact absurd hn (by omega)
    | succ nlp10_6 ihlp10_6 =>
      intro i g ls hi hg hn hl
      refine lv_iload hx hb dX0_hoursBelow_10 (lv_at hl 0 rfl) ?_
      refine lv_bipush (v := iI 24) hx hb dX0_hoursBelow_12 (by decide +kernel) ?_
      refine r_icmp_ge (tgt := 41) hx hb dX0_hoursBelow_14 (by decide) (by omega) (by omega) (fun h7 => ?_) (fun h7 => ?_)
      · -- 14 to 41
        refine lv_iload_n hx hb dX0_hoursBelow_41 rfl (lv_at hl 1 rfl) ?_
        exact r_retM u1 hx hb hr hlocks hS dX0_hoursBelow_42 (by rw [hg, show i = 24 from by omega]; rfl) hgb hP
      · -- 14 to 17
        refine lv_aload_n hx hb dX0_hoursBelow_17 rfl (lv_at hl 2 rfl) ?_
        refine lv_aload_n hx hb dX0_hoursBelow_18 rfl (lv_at hl 2 rfl) ?_
        refine va_get (D := D) (ci := 0) (v := .ref (B 1)) (C := RX0) (T := TX0) (N := 4) hx hb hts (fun _ h => List.mem_cons_of_mem _ (List.mem_append_right _ h)) hown hK hP 0 rfl rfl 1 (by decide) (hts _ fl_X0_hoursBelow_15) (fun _ h9 => h9) rfl dX0_hoursBelow_19 ?_
        refine lv_iload hx hb dX0_hoursBelow_22 (lv_at hl 0 rfl) ?_
        refine r_iald hx hb hK hP 2 0 rfl rfl (Nat.le_of_ble_eq_true rfl) (by omega) dX0_hoursBelow_24 ?_
        have hv8 := hB1 i
        refine r_calli (va_runV (As := [.int (iI (τ 1 i))]) (rest := []) ⟨hx, hb, hml, hown, hts⟩ (c_X0_meanOfPlaces l D cy B (su τ 2 u1) (τ 1 i) hIc (by omega)) (cwV 1 hts gX0_hoursBelow_X0_meanOfPlaces rfl rfl rfl (by decide +kernel) ⟨Nat.le_of_ble_eq_true rfl, Nat.le_of_ble_eq_true rfl⟩) (pv_ro (C := RX0) (T := TX0) (N := 4) (ci := 0) (q0 := 0) hP hK rfl rfl) rfl rfl hl.1 rfl (lv_room (Nat.le_of_ble_eq_true rfl)) dX0_hoursBelow_25 ⟨Nat.le_of_ble_eq_true rfl, Nat.le_of_ble_eq_true rfl⟩) ?_
        have hf9 := lMean_bd (τ := (su τ 2 u1)) hIc (pc := (τ 1 i)) (by omega)
        have hm1 : lMean (su τ 2 u1) (τ 1 i) = rMean τ sp (τ 1 i) := lMean_congr hag _
        refine lv_iload_n hx hb dX0_hoursBelow_28 rfl (lv_at hl 4 rfl) ?_
        refine r_icmp_ge (tgt := 35) hx hb dX0_hoursBelow_29 (by decide) (by omega) (by omega) (fun h11 => ?_) (fun h11 => ?_)
        · -- 29 to 35
          refine r_iinc (a := i) (b := (i + 1)) (lv2 := [(4, .int (iI (i + 1))), (3, .int (iI g)), (0, .ref (B 100)), (1, .int (iI sp)), (2, .int (iI a))]) hx hb dX0_hoursBelow_35 hl (k := 0) rfl (by omega) (by decide) rfl (fun ls hl => ?_)
          refine lv_goto (tgt := 10) hx hb dX0_hoursBelow_38 (by decide) ?_
          exact ihlp10_6 (i + 1) g ls (by omega) (by rw [fo_s _ _ (by omega), ← hg]; unfold lDarkF; first | rw [if_pos (by omega)] | rw [if_neg (by omega)]) (by omega) (lv_sub hl [0, 1, 2, 3, 4] rfl)
        · -- 29 to 32
          refine r_iinc (a := g) (b := (g + 1)) (lv2 := [(3, .int (iI (g + 1))), (4, .int (iI i)), (0, .ref (B 100)), (1, .int (iI sp)), (2, .int (iI a))]) hx hb dX0_hoursBelow_32 hl (k := 1) rfl (by omega) (by decide) rfl (fun ls hl => ?_)
          refine r_iinc (a := i) (b := (i + 1)) (lv2 := [(4, .int (iI (i + 1))), (3, .int (iI (g + 1))), (0, .ref (B 100)), (1, .int (iI sp)), (2, .int (iI a))]) hx hb dX0_hoursBelow_35 hl (k := 1) rfl (by omega) (by decide) rfl (fun ls hl => ?_)
          refine lv_goto (tgt := 10) hx hb dX0_hoursBelow_38 (by decide) ?_
          exact ihlp10_6 (i + 1) (g + 1) ls (by omega) (by rw [fo_s _ _ (by omega), ← hg]; unfold lDarkF; first | rw [if_pos (by omega)] | rw [if_neg (by omega)]) (by omega) (lv_sub hl [0, 1, 2, 3, 4] rfl)
  exact lp10_6 _ 0 0 ls (by omega) rfl (lt_tn _) (lv_sub hl [0, 1, 2, 3, 4] rfl)
set_option maxHeartbeats 4000000 in
set_option maxRecDepth 100000 in
theorem c_X0_millivolts (l : Launch) (D : va_G) (cy : ClassId) (B : Nat → Nat) (τ : Nat → Int → Int) (sp cu re : Int) (hI : invL τ) (hs1 : 10 ≤ sp ∧ sp ≤ 600) (hc1 : 0 ≤ cu ∧ cu ≤ 20000) (hr1 : 0 ≤ re ∧ re ≤ 10000) : MetR l yX0_millivolts wsX0_millivolts ({ frames := 1, cells := 0, slots := 0, locals := 21 } : Room) D cy (wL cy B τ) ([.ref (B 100), .int (iI sp), .int (iI cu), .int (iI re)] : List Value) (lMv τ sp cu re) := by
  refine met_R (cc := cX0_millivolts) (maxL := 8) (ret := (some .int)) (by decide) rfl (Nat.le_of_ble_eq_true rfl) ?_
  intro p e s m below meth c hx hb hr hml hts hown hlocks hP hK ls hl
  have hown : s.vm.findClass RX0 = some m.cls := hown
  have hl : lv_has ls 8 [(0, .ref (B 100)), (1, .int (iI sp)), (2, .int (iI cu)), (3, .int (iI re))] := hl
  obtain ⟨hL3, hB0, hB1, hB2⟩ := id hI
  refine lv_aload_n hx hb dX0_millivolts_0 rfl (lv_at hl 0 rfl) ?_
  refine lv_iload_n hx hb dX0_millivolts_1 rfl (lv_at hl 1 rfl) ?_
  refine r_calli (va_runV (As := [.int (iI sp)]) (rest := []) ⟨hx, hb, hml, hown, hts⟩ (c_X0_poles l D cy B τ sp hI (by omega)) (cwV 1 hts gX0_millivolts_X0_poles rfl rfl rfl (by decide +kernel) ⟨Nat.le_of_ble_eq_true rfl, Nat.le_of_ble_eq_true rfl⟩) (pv_ro (C := RX0) (T := TX0) (N := 4) (ci := 0) (q0 := 0) hP hK rfl rfl) rfl rfl hl.1 rfl (lv_room (Nat.le_of_ble_eq_true rfl)) dX0_millivolts_2 ⟨Nat.le_of_ble_eq_true rfl, Nat.le_of_ble_eq_true rfl⟩) ?_
  have hf1 := pol_bd (sp := sp) hL3 (by omega)
  refine r_i2l hx hb dX0_millivolts_5 (by omega) ?_
  refine lv_lstore (lv' := [(4, .long (jI (τ 3 0 / sp + 1))), (0, .ref (B 100)), (1, .int (iI sp)), (2, .int (iI cu)), (3, .int (iI re))]) hx hb dX0_millivolts_6 hl (by decide) rfl (fun ls hl => ?_)
  refine lv_lload hx hb dX0_millivolts_8 (lv_at hl 0 rfl) ?_
  refine lv_lload hx hb dX0_millivolts_10 (lv_at hl 0 rfl) ?_
  refine lv_lconst (v := jI 1) hx hb dX0_millivolts_12 (by decide +kernel) ?_
  refine r_lsub hx hb dX0_millivolts_13 ?_
  have hm0 := mul_bd (a := (τ 3 0 / sp + 1)) (b := ((τ 3 0 / sp + 1) - 1)) (A := 501) (B := 500) (by omega) (by omega)
  refine r_lmul hx hb dX0_millivolts_14 ?_
  refine lv_ldc2 (v := jI 2) hx hb hown (by rw [show jI 2 = 2 from by decide +kernel]; exact hts (.constantLong RX0 50 (2)) (by decide +kernel)) dX0_millivolts_15 ?_
  refine r_ldiv hx hb dX0_millivolts_18 (by omega) (by omega) ?_
  refine lv_iload_n hx hb dX0_millivolts_19 rfl (lv_at hl 3 rfl) ?_
  refine r_i2l hx hb dX0_millivolts_20 (by omega) ?_
  have hm1 := mul_bd (a := (((τ 3 0 / sp + 1) * ((τ 3 0 / sp + 1) - 1)) / 2)) (b := cu) (A := 125250) (B := 20000) (by omega) (by omega)
  refine r_lmul hx hb dX0_millivolts_21 ?_
  refine lv_lstore (lv' := [(6, .long (jI ((((τ 3 0 / sp + 1) * ((τ 3 0 / sp + 1) - 1)) / 2) * cu))), (4, .long (jI (τ 3 0 / sp + 1))), (0, .ref (B 100)), (1, .int (iI sp)), (2, .int (iI cu)), (3, .int (iI re))]) hx hb dX0_millivolts_22 hl (by decide) rfl (fun ls hl => ?_)
  refine lv_lload hx hb dX0_millivolts_24 (lv_at hl 0 rfl) ?_
  refine lv_iload_n hx hb dX0_millivolts_26 rfl (lv_at hl 3 rfl) ?_
  refine r_i2l hx hb dX0_millivolts_27 (by omega) ?_
  have hm2 := mul_bd (a := ((((τ 3 0 / sp + 1) * ((τ 3 0 / sp + 1) - 1)) / 2) * cu)) (b := sp) (A := 2505000000) (B := 600) (by omega) (by omega)
  refine r_lmul hx hb dX0_millivolts_28 ?_
  refine lv_iload_n hx hb dX0_millivolts_29 rfl (lv_at hl 5 rfl) ?_
  refine r_i2l hx hb dX0_millivolts_30 (by omega) ?_
  have hm3 := mul_bd (a := (((((τ 3 0 / sp + 1) * ((τ 3 0 / sp + 1) - 1)) / 2) * cu) * sp)) (b := re) (A := 1503000000000) (B := 10000) (by omega) (by omega)
  refine r_lmul hx hb dX0_millivolts_31 ?_
  refine lv_ldc2 (v := jI 1000000) hx hb hown (by rw [show jI 1000000 = 1000000 from by decide +kernel]; exact hts (.constantLong RX0 52 (1000000)) (by decide +kernel)) dX0_millivolts_32 ?_
  refine r_ldiv hx hb dX0_millivolts_35 (by omega) (by omega) ?_
  refine r_l2i hx hb dX0_millivolts_36 ?_
  exact r_ret hx hb hr hlocks dX0_millivolts_37 rfl
set_option maxHeartbeats 4000000 in
set_option maxRecDepth 100000 in
theorem c_X0_widestWiredSpacing (l : Launch) (D : va_G) (cy : ClassId) (B : Nat → Nat) (τ : Nat → Int → Int) (cu re mo : Int) (hI : invL τ) (hc1 : 0 ≤ cu ∧ cu ≤ 20000) (hr1 : 0 ≤ re ∧ re ≤ 10000) (hm1 : I32 mo) : MetR l yX0_widestWiredSpacing wsX0_widestWiredSpacing ({ frames := 2, cells := 0, slots := 0, locals := 48 } : Room) D cy (wL cy B τ) ([.ref (B 100), .int (iI cu), .int (iI re), .int (iI mo)] : List Value) (lWired τ cu re mo) := by
  refine met_R (cc := cX0_widestWiredSpacing) (maxL := 5) (ret := (some .int)) (by decide) rfl (Nat.le_of_ble_eq_true rfl) ?_
  intro p e s m below meth c hx hb hr hml hts hown hlocks hP hK ls hl
  have hown : s.vm.findClass RX0 = some m.cls := hown
  have hl : lv_has ls 5 [(0, .ref (B 100)), (1, .int (iI cu)), (2, .int (iI re)), (3, .int (iI mo))] := hl
  obtain ⟨hL3, hB0, hB1, hB2⟩ := id hI
  refine lv_sipush (v := iI 600) hx hb dX0_widestWiredSpacing_0 (by decide +kernel) ?_
  refine lv_istore (lv' := [(4, .int (iI 600)), (0, .ref (B 100)), (1, .int (iI cu)), (2, .int (iI re)), (3, .int (iI mo))]) hx hb dX0_widestWiredSpacing_3 hl (by decide) rfl (fun ls hl => ?_)
  have lp5_1 : ∀ (nlp5_1 : Nat) (i : Int) (ls : Array Slot), (0 ≤ i ∧ i ≤ 600 ∧ i % 10 = 0) → (lWired τ cu re mo = ft (fun j => decide (lMv τ (600 - 10 * j) cu re ≤ mo)) (fun j => 600 - 10 * j) (-1) ((600 - i) / 10) 60) → (i < (nlp5_1 : Int)) → lv_has ls 5 [(4, .int (iI i)), (0, .ref (B 100)), (1, .int (iI cu)), (2, .int (iI re)), (3, .int (iI mo))] → W p l e ({ frames := 2, cells := 0, slots := 0, locals := 48 } : Room) s m ([.ref (B 100), .int (iI cu), .int (iI re), .int (iI mo)] : List Value).toArray below meth c s.heap [] 0 0 (MQ below (vp_Si (fun r => r = iI (lWired τ cu re mo))) ([.ref (B 100), .int (iI cu), .int (iI re), .int (iI mo)] : List Value).toArray s 0 0 (fun _ => False)) (F0 m 5 ls []) := by
    intro nlp5_1
    induction nlp5_1 with
    | zero => intro i ls hi hg hn hl; exact absurd hn (by omega)
    | succ nlp5_1 ihlp5_1 =>
      intro i ls hi hg hn hl
      refine lv_iload hx hb dX0_widestWiredSpacing_5 (lv_at hl 0 rfl) ?_
      refine lv_bipush (v := iI 10) hx hb dX0_widestWiredSpacing_7 (by decide +kernel) ?_
      refine r_icmp_lt (tgt := 33) hx hb dX0_widestWiredSpacing_9 (by decide) (by omega) (by omega) (fun h2 => ?_) (fun h2 => ?_)
      · -- 9 to 33
        refine lv_iconst (v := iI (-1)) hx hb dX0_widestWiredSpacing_33 rfl ?_
        exact r_ret hx hb hr hlocks dX0_widestWiredSpacing_34 (by rw [hg, ft_end _ _ _ (by omega)])
      · -- 9 to 12
        refine lv_aload_n hx hb dX0_widestWiredSpacing_12 rfl (lv_at hl 1 rfl) ?_
        refine lv_iload hx hb dX0_widestWiredSpacing_13 (lv_at hl 0 rfl) ?_
        refine lv_iload_n hx hb dX0_widestWiredSpacing_15 rfl (lv_at hl 2 rfl) ?_
        refine lv_iload_n hx hb dX0_widestWiredSpacing_16 rfl (lv_at hl 3 rfl) ?_
        refine r_calli (va_runV (As := [.int (iI i), .int (iI cu), .int (iI re)]) (rest := []) ⟨hx, hb, hml, hown, hts⟩ (c_X0_millivolts l D cy B τ i cu re hI (by omega) (by omega) (by omega)) (cwV 3 hts gX0_widestWiredSpacing_X0_millivolts rfl rfl rfl (by decide +kernel) ⟨Nat.le_of_ble_eq_true rfl, Nat.le_of_ble_eq_true rfl⟩) (pv_ro (C := RX0) (T := TX0) (N := 4) (ci := 0) (q0 := 0) hP hK rfl rfl) rfl rfl hl.1 rfl (lv_room (Nat.le_of_ble_eq_true rfl)) dX0_widestWiredSpacing_17 ⟨Nat.le_of_ble_eq_true rfl, Nat.le_of_ble_eq_true rfl⟩) ?_
        have hf3 := lMv_bd (τ := τ) hI (sp := i) (cu := cu) (re := re) (by omega) (by omega) (by omega)
        refine lv_iload_n hx hb dX0_widestWiredSpacing_20 rfl (lv_at hl 4 rfl) ?_
        refine r_icmp_gt (tgt := 27) hx hb dX0_widestWiredSpacing_21 (by decide) (by omega) (by omega) (fun h4 => ?_) (fun h4 => ?_)
        · -- 21 to 27
          refine r_iinc (a := i) (b := (i + (-10))) (lv2 := [(4, .int (iI (i + (-10)))), (0, .ref (B 100)), (1, .int (iI cu)), (2, .int (iI re)), (3, .int (iI mo))]) hx hb dX0_widestWiredSpacing_27 hl (k := 0) rfl (by omega) (by decide) rfl (fun ls hl => ?_)
          refine lv_goto (tgt := 5) hx hb dX0_widestWiredSpacing_30 (by decide) ?_
          exact ihlp5_1 (i + (-10)) ls (by omega) (by rw [hg, ft_miss _ _ _ (by omega) (decide_eq_false (by rw [show 600 - 10 * ((600 - i) / 10) = i from by omega]; omega)), show (600 - (i + (-10))) / 10 = (600 - i) / 10 + 1 from by omega]) (by omega) (lv_sub hl [0, 1, 2, 3, 4] rfl)
        · -- 21 to 24
          refine lv_iload hx hb dX0_widestWiredSpacing_24 (lv_at hl 0 rfl) ?_
          exact r_ret hx hb hr hlocks dX0_widestWiredSpacing_26 (by rw [hg, ft_hit _ _ _ (by omega) (decide_eq_true (by rw [show 600 - 10 * ((600 - i) / 10) = i from by omega]; omega))]; omega)
  exact lp5_1 _ 600 ls (by omega) rfl (lt_tn _) (lv_sub hl [0, 1, 2, 3, 4] rfl)
