/-! BEGINNINGS: the class itself -/
theorem fl_X2_init_10 : Cond.fieldLink RX2 10 "NoiseLamps" "noise" "LNoiseLamps$Noise;" ∈ wsX2_init := by decide +kernel
theorem fl_X2_init_19 : Cond.fieldLink RX2 19 "NoiseLamps" "lamps" "LNoiseLamps$Lamps;" ∈ wsX2_init := by decide +kernel
set_option maxHeartbeats 4000000 in
set_option maxRecDepth 100000 in
theorem c_X2_init (l : Launch) (D : va_G) (o sz : Nat) : Met l yX2_init wsX2_init ({ frames := 2, cells := 20, slots := 1242, locals := 41 } : Room) (va_Pc [.ref o] (rw0 D ([(o, .inr (2, [.null, .null]))]) sz)) (va_Qv (fun _ : ClassId × (Nat → Nat) × (Nat → Nat) => True) (fun (u : ClassId × (Nat → Nat) × (Nat → Nat)) t => va_P D vwCl (wP u.1 o u.2.1 u.2.2 nz0 lz0) t.heap ∧ va_K D vwCl [(u.1, .int)] t ∧ va_D (va_A ([(o, .inr (2, [.null, .null]))]) sz) (wP u.1 o u.2.1 u.2.2 nz0 lz0)) (va_A ([(o, .inr (2, [.null, .null]))]) sz)) 20 1242 (va_A ([(o, .inr (2, [.null, .null]))]) sz) := by
  refine met_0 (B := fun AA (u : ClassId × (Nat → Nat) × (Nat → Nat)) t => va_P D vwCl (wP u.1 o u.2.1 u.2.2 nz0 lz0) t.heap ∧ va_K D vwCl [(u.1, .int)] t ∧ va_D AA (wP u.1 o u.2.1 u.2.2 nz0 lz0)) (cc := cX2_init) (maxL := 1) (ret := none) (by decide) rfl (Nat.le_of_ble_eq_true rfl) ?_
  intro p e s m below meth c AA hAA hx hb hr hml hts hown hin hlocks hP hK hD hA ls hl
  have hS : va_S AA s.heap s.heap [] := va_S.rf
  have hown : s.vm.findClass RX2 = some m.cls := hown
  have hl : lv_has ls 1 [(0, .ref o)] := hl
  refine lv_aload_n hx hb dX2_init_0 rfl (lv_at hl 0 rfl) ?_
  refine W.objInit hx hb hown (hts (.methodLink RX2 1 objectInit) (by decide +kernel)) (hts (.instanceMethod objectInit) (by decide +kernel)) (hts _ (List.mem_cons_of_mem _ (List.mem_append_left _ (List.mem_append_left _ (List.mem_append_left _ (List.mem_append_left _ (List.mem_of_getElem? (i := 2) rfl))))))) rfl (by rw [hml]; exact hl.1) rfl dX2_init_1 (Nat.le_of_ble_eq_true rfl) (Nat.le_of_ble_eq_true rfl) ?_
  refine W.eq (g2 := F0 m 4 ls []) rfl ?_
  refine lv_aload_n hx hb dX2_init_4 rfl (lv_at hl 0 rfl) ?_
  refine va_new (ci := 1) (fs := [.int (iI 0), .null, .null, .null, .int (iI 0), .null, .null, .null, .int (iI 0), .null, .null, .null, .null, .null, .int (iI 0), .null, .null, .null, .null]) (C := RX1) (T := TX1) (N := 19) hx hb hts (fun _ h => List.mem_cons_of_mem _ (List.mem_append_left _ (List.mem_append_left _ (List.mem_append_right _ h)))) tyX1 tyX1_ok hown (hts (.classLink RX2 7 RX1) (by decide +kernel)) (hts (.instantiable RX1 19) (by decide +kernel)) (hts (.initialized RX1) (by decide +kernel)) hK hP hD hS hA rfl (fun j hj => by rcases (show j = 0 ∨ j = 1 ∨ j = 2 ∨ j = 3 ∨ j = 4 ∨ j = 5 ∨ j = 6 ∨ j = 7 ∨ j = 8 ∨ j = 9 ∨ j = 10 ∨ j = 11 ∨ j = 12 ∨ j = 13 ∨ j = 14 ∨ j = 15 ∨ j = 16 ∨ j = 17 ∨ j = 18 by omega) with rfl | rfl | rfl | rfl | rfl | rfl | rfl | rfl | rfl | rfl | rfl | rfl | rfl | rfl | rfl | rfl | rfl | rfl | rfl <;> rfl) (by show _ ≤ 20; omega) (by show _ ≤ 1242; omega) dX2_init_5 (fun q H hP hD hS => ?_)
  have hP : va_P D vwCl ([(o, .inr (2, [.null, .null])), (q, .inr (1, [.int (iI 0), .null, .null, .null, .int (iI 0), .null, .null, .null, .int (iI 0), .null, .null, .null, .null, .null, .int (iI 0), .null, .null, .null, .null]))]) H := hP
  have hD : va_D AA ([(o, .inr (2, [.null, .null])), (q, .inr (1, [.int (iI 0), .null, .null, .null, .int (iI 0), .null, .null, .null, .int (iI 0), .null, .null, .null, .null, .null, .int (iI 0), .null, .null, .null, .null]))]) := hD
  refine W.widen (k := 1) (n := 19) (by omega) (by omega) ?_
  refine lv_dup hx hb dX2_init_8 rfl ?_
  have hPc := hP.sub (ws' := [(q, .inr (1, [.int (iI 0), .null, .null, .null, .int (iI 0), .null, .null, .null, .int (iI 0), .null, .null, .null, .null, .null, .int (iI 0), .null, .null, .null, .null]))]) [1] rfl
  have hDc := hD.sub (ws' := [(q, .inr (1, [.int (iI 0), .null, .null, .null, .int (iI 0), .null, .null, .null, .int (iI 0), .null, .null, .null, .null, .null, .int (iI 0), .null, .null, .null, .null]))]) [1] (by decide) rfl
  have hFc := va_free (wc := [(q, .inr (1, [.int (iI 0), .null, .null, .null, .int (iI 0), .null, .null, .null, .int (iI 0), .null, .null, .null, .null, .null, .int (iI 0), .null, .null, .null, .null]))]) hD hS hA [1] rfl
  refine va_callv (va_runI (As := []) (rest := [.ref q, .ref o]) ⟨hx, hb, hml, hown, hts⟩ (c_X1_init l D q H.size) (cwI 0 hts ggX2_init_X1_init rfl rfl rfl (hts (.initialized RX1) (by decide +kernel)) (hts (.methodLink RX2 9 yX1_init) (by decide +kernel)) (hts (.instanceMethod yX1_init) (by decide +kernel)) rfl (by decide +kernel) ⟨Nat.le_of_ble_eq_true rfl, Nat.le_of_ble_eq_true rfl⟩) (ps_r0 hPc hK hDc) rfl rfl hl.1 rfl (lv_room (Nat.le_of_ble_eq_true rfl)) dX2_init_9 ⟨Nat.le_of_ble_eq_true rfl, Nat.le_of_ble_eq_true rfl⟩) hS (fun q _ h => hFc q h) hFc (fun u t H1 locs ht hvm hw hB hz1 hk1 hS => ?_)
  obtain ⟨cy, A⟩ := u
  obtain ⟨hA0, hP1, hK1, hD1⟩ := hB
  rw [ht] at hP1
  have hKn : va_K D vwCl [(cy, .int)] s := va_K.moved hvm.symm hK1
  obtain ⟨hP, hD⟩ := va_join (wr := [(o, .inr (2, [.null, .null]))]) (w1 := wN cy A nz0) hP hD [1] [0] rfl rfl (by decide) (by decide) hk1 hFc hP1 hD1
  have hK := hKn
  generalize H1 = H at hP hS ⊢
  have hP : va_P D vwCl ([(o, .inr (2, [.null, .null]))] ++ wN cy A nz0) H := hP
  have hD : va_D AA ([(o, .inr (2, [.null, .null]))] ++ wN cy A nz0) := hD
  refine W.widen (k := 16) (n := 682) (by omega) (by omega) ?_
  refine va_putF (D := D) (ci := 2) (v := .ref q) (ty := .object "NoiseLamps$Noise") (C := RX2) (T := TX2) (N := 2) hx hb hts (fun _ h => List.mem_cons_of_mem _ (List.mem_append_left _ (List.mem_append_right _ h))) tyX2 tyX2_ok nmX2 hown hK hP hD hS 0 rfl rfl 0 (by decide) (hts _ fl_X2_init_10) (fun _ h9 => h9) rfl hin rfl (by decide +kernel) rfl rfl (Nat.le_of_ble_eq_true rfl) dX2_init_12 (fun H locs hP hD hS => ?_)
  have hP : va_P D vwCl ([(o, .inr (2, [.ref q, .null]))] ++ wN cy A nz0) H := hP
  have hD : va_D AA ([(o, .inr (2, [.ref q, .null]))] ++ wN cy A nz0) := hD
  refine lv_aload_n hx hb dX2_init_15 rfl (lv_at hl 0 rfl) ?_
  refine va_new (ci := 0) (fs := [.null, .null, .null, .int (iI 0)]) (C := RX0) (T := TX0) (N := 4) hx hb hts (fun _ h => List.mem_cons_of_mem _ (List.mem_append_right _ h)) tyX0 tyX0_ok hown (hts (.classLink RX2 16 RX0) (by decide +kernel)) (hts (.instantiable RX0 4) (by decide +kernel)) (hts (.initialized RX0) (by decide +kernel)) hK hP hD hS hA rfl (fun j hj => by rcases (show j = 0 ∨ j = 1 ∨ j = 2 ∨ j = 3 by omega) with rfl | rfl | rfl | rfl <;> rfl) (by show _ ≤ 20; omega) (by show _ ≤ 1242; omega) dX2_init_16 (fun q2 H hP hD hS => ?_)
  have hP : va_P D vwCl (([(o, .inr (2, [.ref q, .null]))] ++ wN cy A nz0) ++ [(q2, .inr (0, [.null, .null, .null, .int (iI 0)]))]) H := hP
  have hD : va_D AA (([(o, .inr (2, [.ref q, .null]))] ++ wN cy A nz0) ++ [(q2, .inr (0, [.null, .null, .null, .int (iI 0)]))]) := hD
  refine W.widen (k := 17) (n := 686) (by omega) (by omega) ?_
  refine lv_dup hx hb dX2_init_19 rfl ?_
  have hPc := hP.sub (ws' := [(q2, .inr (0, [.null, .null, .null, .int (iI 0)]))]) [17] rfl
  have hDc := hD.sub (ws' := [(q2, .inr (0, [.null, .null, .null, .int (iI 0)]))]) [17] (by decide) rfl
  have hFc := va_free (wc := [(q2, .inr (0, [.null, .null, .null, .int (iI 0)]))]) hD hS hA [17] rfl
  refine va_callv (va_runI (As := []) (rest := [.ref q2, .ref o]) ⟨hx, hb, hml, hown, hts⟩ (c_X0_init l D q2 H.size) (cwI 0 hts ggX2_init_X0_init rfl rfl rfl (hts (.initialized RX0) (by decide +kernel)) (hts (.methodLink RX2 18 yX0_init) (by decide +kernel)) (hts (.instanceMethod yX0_init) (by decide +kernel)) rfl (by decide +kernel) ⟨Nat.le_of_ble_eq_true rfl, Nat.le_of_ble_eq_true rfl⟩) (ps_r0 hPc hK hDc) rfl rfl hl.1 rfl (lv_room (Nat.le_of_ble_eq_true rfl)) dX2_init_20 ⟨Nat.le_of_ble_eq_true rfl, Nat.le_of_ble_eq_true rfl⟩) hS (fun q _ h => hFc q h) hFc (fun u t H1 locs ht hvm hw hB hz1 hk1 hS => ?_)
  obtain ⟨cy2, B⟩ := u
  obtain ⟨hB0, hP1, hK1, hD1⟩ := hB
  rw [ht] at hP1
  have hKn : va_K D vwCl [(cy2, .int)] s := va_K.moved hvm.symm hK1
  have hcy : cy2 = cy := cy_eq (hK.app hKn) (i := 1) (j := 0) rfl rfl
  rw [hcy] at hP1 hD1
  obtain ⟨hP, hD⟩ := va_join (wr := [(o, .inr (2, [.ref q, .null]))] ++ wN cy A nz0) (w1 := wL cy B lz0) hP hD [17] [0, 1, 2, 3, 4, 5, 6, 7, 8, 9, 10, 11, 12, 13, 14, 15, 16] rfl rfl (by decide) (by decide) hk1 hFc hP1 hD1
  generalize H1 = H at hP hS ⊢
  refine W.widen (k := 20) (n := 1242) (by omega) (by omega) ?_
  refine va_putF (D := D) (ci := 2) (v := .ref q2) (ty := .object "NoiseLamps$Lamps") (C := RX2) (T := TX2) (N := 2) hx hb hts (fun _ h => List.mem_cons_of_mem _ (List.mem_append_left _ (List.mem_append_right _ h))) tyX2 tyX2_ok nmX2 hown hK hP hD hS 0 rfl rfl 1 (by decide) (hts _ fl_X2_init_19) (fun _ h9 => h9) rfl hin rfl (by decide +kernel) rfl rfl (Nat.le_of_ble_eq_true rfl) dX2_init_23 (fun H locs hP hD hS => ?_)
  have hP : va_P D vwCl (([(o, .inr (2, [.ref q, .ref q2]))] ++ wN cy A nz0) ++ wL cy B lz0) H := hP
  have hD : va_D AA (([(o, .inr (2, [.ref q, .ref q2]))] ++ wN cy A nz0) ++ wL cy B lz0) := hD
  rw [← hA0, ← hB0] at hP hD
  have hP : va_P D vwCl (wP cy o A B nz0 lz0) H := hP
  have hD : va_D AA (wP cy o A B nz0 lz0) := hD
  exact W.vret hx hb hr (fun tz ht hW => ⟨⟨(cy, A, B), rfl, trivial, by rw [ht]; exact hP, va_K.moved hW.alike hK, hD⟩, hS.F ht⟩) hS.2.2 dX2_init_26
